section
-- ===== PART A: goes FIRST, ahead of the names: the tables' words, and 'selects' of the private methods out of them =====
/-- a private method of a class that the tables say can be made, by its rows of tables_1 -/
def lw_okq (q : MethodName × Nat) : Prop := (q.1.cls ≠ "java/lang/invoke/MethodHandle" ∧ q.1.cls ≠ "java/lang/invoke/VarHandle") ∧ Cond.instantiable q.1.cls q.2 ∈ tables_1 ∧ Cond.privateMethod q.1 ∈ tables_1 ∧ Cond.instanceMethod q.1 ∈ tables_1
theorem lw_p0 : lw_okq (⟨"java/lang/Throwable", "fillInStackTrace", "(I)Ljava/lang/Throwable;"⟩, 6) := ⟨⟨by decide +kernel, by decide +kernel⟩, List.mem_of_getElem? (i := 175) (by decide +kernel), List.mem_of_getElem? (i := 173) (by decide +kernel), List.mem_of_getElem? (i := 174) (by decide +kernel)⟩
theorem lw_p1 : lw_okq (⟨"DictationBelt", "slotAt", "(I)LDictationBelt$State;"⟩, 5) := ⟨⟨by decide +kernel, by decide +kernel⟩, List.mem_of_getElem? (i := 13) (by decide +kernel), List.mem_of_getElem? (i := 205) (by decide +kernel), List.mem_of_getElem? (i := 206) (by decide +kernel)⟩
theorem lw_p2 : lw_okq (⟨"DictationBelt", "withRecording", "(JI)J"⟩, 5) := ⟨⟨by decide +kernel, by decide +kernel⟩, List.mem_of_getElem? (i := 13) (by decide +kernel), List.mem_of_getElem? (i := 283) (by decide +kernel), List.mem_of_getElem? (i := 284) (by decide +kernel)⟩
theorem lw_p3 : lw_okq (⟨"DictationBelt", "requireRecording", "(I)V"⟩, 5) := ⟨⟨by decide +kernel, by decide +kernel⟩, List.mem_of_getElem? (i := 13) (by decide +kernel), List.mem_of_getElem? (i := 313) (by decide +kernel), List.mem_of_getElem? (i := 314) (by decide +kernel)⟩
theorem lw_p4 : lw_okq (⟨"DictationBelt", "save", "()V"⟩, 5) := ⟨⟨by decide +kernel, by decide +kernel⟩, List.mem_of_getElem? (i := 13) (by decide +kernel), List.mem_of_getElem? (i := 347) (by decide +kernel), List.mem_of_getElem? (i := 348) (by decide +kernel)⟩
theorem lw_p5 : lw_okq (⟨"DictationBelt", "requirePlace", "(II)V"⟩, 5) := ⟨⟨by decide +kernel, by decide +kernel⟩, List.mem_of_getElem? (i := 13) (by decide +kernel), List.mem_of_getElem? (i := 422) (by decide +kernel), List.mem_of_getElem? (i := 423) (by decide +kernel)⟩
theorem lw_p6 : lw_okq (⟨"DictationBelt", "requirePlayer", "()V"⟩, 5) := ⟨⟨by decide +kernel, by decide +kernel⟩, List.mem_of_getElem? (i := 13) (by decide +kernel), List.mem_of_getElem? (i := 435) (by decide +kernel), List.mem_of_getElem? (i := 436) (by decide +kernel)⟩
def lw_privs_1 : List (MethodName × Nat) := [(⟨"java/lang/Throwable", "fillInStackTrace", "(I)Ljava/lang/Throwable;"⟩, 6), (⟨"DictationBelt", "slotAt", "(I)LDictationBelt$State;"⟩, 5), (⟨"DictationBelt", "withRecording", "(JI)J"⟩, 5), (⟨"DictationBelt", "requireRecording", "(I)V"⟩, 5), (⟨"DictationBelt", "save", "()V"⟩, 5), (⟨"DictationBelt", "requirePlace", "(II)V"⟩, 5), (⟨"DictationBelt", "requirePlayer", "()V"⟩, 5)]
theorem lw_r1 : ∀ q ∈ lw_privs_1, lw_okq q := List.forall_mem_cons.mpr ⟨lw_p0, List.forall_mem_cons.mpr ⟨lw_p1, List.forall_mem_cons.mpr ⟨lw_p2, List.forall_mem_cons.mpr ⟨lw_p3, List.forall_mem_cons.mpr ⟨lw_p4, List.forall_mem_cons.mpr ⟨lw_p5, List.forall_mem_cons.mpr ⟨lw_p6, fun _ h => absurd h List.not_mem_nil⟩⟩⟩⟩⟩⟩⟩
def lw_privs : List (MethodName × Nat) := lw_privs_1
def lw_tbl : List Cond := k2_sels lw_privs ++ tables_1
theorem lw_privs_ok : ∀ q ∈ lw_privs, lw_okq q := lw_r1
/-- the streams that the claim lets the run draw from -/
abbrev lw_cs : List Choice := [Jvm.Choice.named "NaN.bits"]
theorem lw_bits : nanBits ∈ lw_cs := by first | decide | exact List.mem_cons_self | simp [lw_cs, nanBits]
end
section
/-! ===== BEGIN words of one list among another's, by their places ===== -/
theorem goodIn_r {big : List Cond} (ws : List Cond) (ps : List Nat) (hp : ws = ps.filterMap (fun i => big[i]?)) (h : ws.all goodWord = true) : GoodIn big ws := by
  intro w hw
  have h1 := List.all_eq_true.mp h w hw
  rw [hp] at hw
  obtain ⟨i, -, hi⟩ := List.mem_filterMap.mp hw
  have hm : w ∈ big := by first | exact List.mem_of_getElem? hi | exact List.getElem?_mem hi
  exact ⟨hm, good_of_word h1⟩
theorem goodIn_app {big a b : List Cond} (ha : GoodIn big a) (hb : GoodIn big b) : GoodIn big (a ++ b) := fun w h => (List.mem_append.mp h).elim (ha w) (hb w)
theorem goodIn_ca {big a b : List Cond} {c : Cond} (ha : GoodIn big (c :: a)) (hb : GoodIn big b) : GoodIn big (c :: (a ++ b)) := fun w h => (List.mem_cons.mp h).elim (fun e => ha w (List.mem_cons.mpr (Or.inl e))) (fun h => (List.mem_append.mp h).elim (fun h => ha w (List.mem_cons.mpr (Or.inr h))) (hb w))
theorem goodIn_sub {big ws : List Cond} (hm : ∀ w ∈ ws, w ∈ big) (h : ws.all goodWord = true) : GoodIn big ws := fun w hw => ⟨hm w hw, good_of_word (List.all_eq_true.mp h w hw)⟩
/-! ===== END ===== -/

/-! ===== BEGIN exceptions that leave a method, and their catching by the caller (launches without stack traces) ===== -/
section VXA
/-! The laws vx_back, vx_callV, vx_callS, vx_callSW, vx_throw0, vx_throwS follow proofs of the library, with one case more: JvmDerived/Free/Laws.lean (Back.of_free), Shelf42/LK1.lean (callV, callS), Shelf/KitTraced.lean (throwNew0V, throwNewS). -/
/-- where a method has thrown q: the class by its name, the cell, what was written, the world -/
def vx_T (XC : String → State → State → Prop) (st : State) (q : Addr) (t : State) (mc ms : Nat) (free : Addr → Prop) : Prop :=
  ∃ (E : String) (ce : Cell) (L : List Loc), XC E st t ∧ t.heap[q]? = some ce ∧ ce.vm = .none ∧ st.vm.findClass E = some ce.cls ∧ st.WarmedH t.vm ∧ st.sameButNew ({ t with vm := st.vm } : State) L mc ms ∧ ∀ z ∈ L, free z.base
def vx_Q (Qc : Array Value → State → Outcome → State → Prop) (XC : String → State → State → Prop) (mc ms : Nat) (free : Addr → Prop) : Array Value → State → Outcome → State → Prop := fun a st o t =>
  (Qc a st o t ∧ ∃ L, FrameEnd st o t L mc ms ∧ ∀ q ∈ L, free q.base) ∨ ∃ q, o = .threw q ∧ vx_T XC st q t mc ms free
/-- a callee that returns or throws -/
def vx_Met (l : Launch) (y : MethodName) (ws : List Cond) (rm : Room) (Pc : Array Value → State → Prop) (Qc : Array Value → State → Outcome → State → Prop) (XC : String → State → State → Prop) (mc ms : Nat) (free : Addr → Prop) : Prop :=
  MetFree l y (headSpec ws rm) Pc (fun _ _ _ _ _ => True) (vx_Q Qc XC mc ms free)
def vx_Post (XC : String → State → State → Prop) (mc ms : Nat) (free : Addr → Prop) : Pt → Array Value → Addr → Pt → Prop := fun A a q B =>
  ∃ (g : JFrame) (mk : MethodId) (t : State) (L : List Loc) (E : String) (ce : Cell), B.U.heap = t.heap ∧ B.U.vm = t.vm ∧ XC E (A.U.calling g mk a) t ∧ t.heap[q]? = some ce ∧ ce.vm = .none ∧ A.U.vm.findClass E = some ce.cls ∧ B.locs = A.locs ++ L ∧ (∀ z ∈ L, free z.base) ∧ B.cells = A.cells + mc ∧ B.slots = A.slots + ms
def vx_Back (l : Launch) (R : Room) (p : Program) (e : Env) (below : List Frame) (s : State) (sargs : Array Value) (y : MethodName) (len W9 : Nat)
    (Pre : Pt → Array Value → Prop) (Post : Pt → Array Value → Option Value → Pt → Prop) (PostX : Pt → Array Value → Addr → Pt → Prop) : Prop :=
  ∀ (m : MethodId) (meth : Method) (c : Code) (A : Pt) (g : JFrame) (ig : Instr) (mk : MethodId) (a : Array Value),
    Stand p l e R s m sargs below meth c A.U A.locs A.cells A.slots → g.method = m → g.locals.size = c.maxLocals → decode c.code g.pc = .ok (ig, len) →
    2 * g.monitorRoom + (g.stack.map fun v => v.category).sum ≤ W9 → A.U.methodNamed? y = some mk → Pre A a →
    (∃ (v : Option Value) (B : Pt), Stand p l e R s m sargs below meth c B.U B.locs B.cells B.slots ∧ Post A a v B ∧
      Steps p.tables e below (doInvoke e (A.U.setTop g) [] mk a).1 (B.U.setTop { g with pc := g.pc + len, stack := v.toList ++ g.stack })) ∨
    (∃ (q : Addr) (B : Pt), Stand p l e R s m sargs below meth c B.U B.locs B.cells B.slots ∧ PostX A a q B ∧
      Steps p.tables e below (doInvoke e (A.U.setTop g) [] mk a).1 ((B.U.setTop g).pushFrame (.throwing q)))
section Payer
variable {l : Launch} {R : Room} {p : Program} {e : Env} {below : List Frame} {s : State} {sargs : Array Value} {y : MethodName} {len W9 : Nat}
theorem vx_back {ws : List Cond} {rm : Room} {Pc : Array Value → State → Prop} {Qc : Array Value → State → Outcome → State → Prop} {XC : String → State → State → Prop} {mc ms : Nat} {free : Addr → Prop} {bytes : ByteArray} {maxL : Nat} {ret : Option FieldType}
    (hM : vx_Met l y ws rm Pc Qc XC mc ms free) (hblind : FrameBlind Pc) (hrc : rm.cells = mc) (hrs : rm.slots = ms)
    (hframes : rm.frames + 1 ≤ R.frames) (hlocals : W9 + (maxL + 11) + rm.locals ≤ R.locals)
    (hws : ∀ w ∈ ws, ∀ a' U, s.WarmedH U.vm → w.before a' U = true) (hcode : Cond.code y bytes maxL ret ∈ ws) (hinit : ∀ a' U, s.WarmedH U.vm → (Cond.initialized y.cls).before a' U = true) :
    vx_Back l R p e below s sargs y len W9 (PreOf R mc ms Pc) (PostOf Qc mc ms free) (vx_Post XC mc ms free) := by
  intro m meth c A g ig mk a X hg hsize hdg hW hn hp
  have h1 : (headSpec ws rm).pre.before a A.U = true := atoms_intro fun w hw => hws w hw _ _ X.warmed
  have h2 : (Cond.code y bytes maxL ret).before a A.U = true := hws _ hcode _ _ X.warmed
  have h3 : (Cond.initialized y.cls).before a A.U = true := hinit _ _ X.warmed
  have h4 : A.cells + (headSpec ws rm).room.cells ≤ R.cells := by rw [show (headSpec ws rm).room.cells = mc from hrc]; exact hp.1
  have h5 : A.slots + (headSpec ws rm).room.slots ≤ R.slots := by rw [show (headSpec ws rm).room.slots = ms from hrs]; exact hp.2.1
  have hPc : Pc a (A.U.calling g mk a) := hblind _ _ _ _ hp.2.2
  obtain ⟨U, Ls, c0, s0⟩ := A
  dsimp only [Pt.U, Pt.locs, Pt.cells, Pt.slots] at h1 h2 h3 h4 h5 X hn hPc ⊢
  obtain ⟨methY, cY, hmY, hcY, -, hlY, -, -, -, -⟩ := Cond.code_spec hn h2
  obtain ⟨kY, hkY, -⟩ := className_of_methodNamed hn
  have hinitY : kY.init = .initialized := Cond.initialized_spec (findClass_of_methodNamed hn) hkY h3
  have h : At U g.method c below := by rw [hg]; exact X.here
  have hlocals9 : W9 + (maxL + 11) + (headSpec ws rm).room.locals ≤ R.locals := hlocals
  have happ : (headSpec ws rm).appliesLoose y e.platform (U.calling g mk a) = true :=
    Spec.appliesLoose_calling (g := g) h hdg hn hkY hinitY
      (X.room_calling (g := g) (R' := (headSpec ws rm).room) hsize hmY hcY hframes (by rw [hlY]; omega) h4 h5) h1
  obtain ⟨mid, hmid⟩ := h.above
  have hfr : (U.setTop g).frames = (.java g :: mid) ++ below := by rw [State.frames_setTop' g h.top, hmid]; rfl
  obtain ⟨o, s₂, hsteps, -, hend, hq⟩ := Steps.callFree hM p X.admits X.cas X.clock (acts := []) hfr happ hPc trivial
  have hq' : vx_Q Qc XC mc ms free a (U.calling g mk a) o s₂ := hq
  rw [State.frames_setTop' g h.top] at hend
  obtain ⟨g₀, hg0⟩ := Option.isSome_iff_exists.mp h.top
  obtain ⟨r, hr⟩ := State.topJava?_eq_some.mp hg0
  have hr' : (({ U with heap := s₂.heap, slotsUsed := s₂.slotsUsed } : State).setVm s₂.vm).frames = .java g₀ :: r := hr
  rcases hq' with ⟨hqc, L, hfe, hL⟩ | ⟨q, rfl, E, ce, L, hx, hce, hcv, hcl, hW₂, hsm, hL⟩
  · obtain ⟨⟨v, rfl⟩, hW₂, e2, q2, q3, q4, q5, q6⟩ := id hfe
    have e3 : s₂ = ({ (U.calling g mk a).setFrames s₂.frames with heap := s₂.heap, slotsUsed := s₂.slotsUsed } : State).setVm s₂.vm := by
      have : s₂ = ({ s₂ with vm := (U.calling g mk a).vm } : State).setVm s₂.vm := rfl
      rw [e2] at this
      exact this
    obtain ⟨c₂, i₂, len₂, hc₂, hd₂, hf₂⟩ := hend
    have hW' : U.WarmedH s₂.vm := hW₂
    have hcc : c₂ = c := by
      have h1 : s₂.code? g.method = U.code? g.method := by
        rw [State.code?_eq, State.code?_eq, hW'.alike.method?]
      exact Option.some.inj (hc₂.symm.trans (h1.trans h.code))
    subst hcc
    have hlen : len₂ = len := by rw [hdg] at hd₂; cases hd₂; rfl
    subst hlen
    have hs₂ : s₂ = (({ U with heap := s₂.heap, slotsUsed := s₂.slotsUsed } : State).setVm s₂.vm).setTop { g with pc := g.pc + len₂, stack := v.toList ++ g.stack } := by
      refine e3.trans ?_
      rw [hf₂, State.calling_eq h.top, State.setFrames_setFrames, State.setTop_of_frames _ hr', hr]
      rfl
    have hsame : U.sameButNew ({ U with heap := s₂.heap, slotsUsed := s₂.slotsUsed } : State) L mc ms := by
      refine ⟨?_, q2, q3, q4, q5, q6⟩
      obtain ⟨t, ht, -⟩ := State.frames_cons hr
      show ({ U with heap := s₂.heap, slotsUsed := s₂.slotsUsed } : State) = { U.setFrames U.frames with heap := s₂.heap, slotsUsed := s₂.slotsUsed }
      rw [State.setFrames_self ht]
    subst hg
    refine Or.inl ⟨v, ⟨(({ U with heap := s₂.heap, slotsUsed := s₂.slotsUsed } : State).setVm s₂.vm), Ls ++ L, c0 + mc, s0 + ms⟩,
      ⟨X.admits, X.cas, X.clock, X.frames, X.room, X.hears, X.method, X.code, (X.here.setHeapUsed s₂.heap s₂.slotsUsed).setVm hW'.alike, X.tail, State.WarmedH.trans X.warmed hW', X.limits, X.bytes, X.same.trans (hsame.setVm s.vm)⟩,
      ⟨g, mk, s₂, L, rfl, rfl, hqc, rfl, hL, rfl, rfl⟩, ?_⟩
    show Steps p.tables e below _ ((({ U with heap := s₂.heap, slotsUsed := s₂.slotsUsed } : State).setVm s₂.vm).setTop { g with pc := g.pc + len₂, stack := v.toList ++ g.stack })
    rw [← hs₂]
    exact hsteps
  · obtain ⟨e2, q2, q3, q4, q5, q6⟩ := id hsm
    have e3 : s₂ = ({ (U.calling g mk a).setFrames s₂.frames with heap := s₂.heap, slotsUsed := s₂.slotsUsed } : State).setVm s₂.vm := by
      have : s₂ = ({ s₂ with vm := (U.calling g mk a).vm } : State).setVm s₂.vm := rfl
      rw [e2] at this
      exact this
    have hf₂ : s₂.frames = .throwing q :: .java g :: U.frames.tail := hend
    have hW' : U.WarmedH s₂.vm := hW₂
    have hs₂ : s₂ = ((({ U with heap := s₂.heap, slotsUsed := s₂.slotsUsed } : State).setVm s₂.vm).setTop g).pushFrame (.throwing q) := by
      refine e3.trans ?_
      rw [hf₂, State.calling_eq h.top, State.setFrames_setFrames, State.pushFrame, State.frames_setTop _ hr', State.setTop_of_frames _ hr', State.setFrames_setFrames, hr]
      rfl
    have hsame : U.sameButNew ({ U with heap := s₂.heap, slotsUsed := s₂.slotsUsed } : State) L mc ms := by
      refine ⟨?_, q2, q3, q4, q5, q6⟩
      obtain ⟨t, ht, -⟩ := State.frames_cons hr
      show ({ U with heap := s₂.heap, slotsUsed := s₂.slotsUsed } : State) = { U.setFrames U.frames with heap := s₂.heap, slotsUsed := s₂.slotsUsed }
      rw [State.setFrames_self ht]
    subst hg
    refine Or.inr ⟨q, ⟨(({ U with heap := s₂.heap, slotsUsed := s₂.slotsUsed } : State).setVm s₂.vm), Ls ++ L, c0 + mc, s0 + ms⟩,
      ⟨X.admits, X.cas, X.clock, X.frames, X.room, X.hears, X.method, X.code, (X.here.setHeapUsed s₂.heap s₂.slotsUsed).setVm hW'.alike, X.tail, State.WarmedH.trans X.warmed hW', X.limits, X.bytes, X.same.trans (hsame.setVm s.vm)⟩,
      ⟨g, mk, s₂, L, E, ce, rfl, rfl, hx, hce, hcv, hcl, rfl, hL, rfl, rfl⟩, ?_⟩
    show Steps p.tables e below _ (((({ U with heap := s₂.heap, slotsUsed := s₂.slotsUsed } : State).setVm s₂.vm).setTop g).pushFrame (.throwing q))
    rw [← hs₂]
    exact hsteps
end Payer
section Calls
variable {p : Program} {l : Launch} {e : Env} {R : Room} {s : State} {m : MethodId} {args : Array Value} {below : List Frame} {meth : Method} {c : Code} {T : State} {locs : List Loc} {cells slots : Nat}
theorem vx_callV (X : Stand p l e R s m args below meth c T locs cells slots) (hexec : p.tables.exec = Jvm.exec) {own C : String} {index : Nat} {y : MethodName} {bytes : ByteArray} {maxL : Nat} {ret : Option FieldType}
    (hown : s.vm.findClass own = some m.cls) (hlink : (Cond.methodLink own index y).before args s = true) (hinst : (Cond.instanceMethod y).before args s = true) (hsel : (Cond.selects C y y).before args s = true)
    (hcode : (Cond.code y bytes maxL ret).before args s = true) (hy : y.cls ≠ "java/lang/invoke/MethodHandle" ∧ y.cls ≠ "java/lang/invoke/VarHandle")
    {W9 : Nat} {Pre : Pt → Array Value → Prop} {Post : Pt → Array Value → Option Value → Pt → Prop} {PostX : Pt → Array Value → Addr → Pt → Prop} (hK : vx_Back l R p e below s args y 3 W9 Pre Post PostX)
    {b : Addr} {cellB : Cell} (hcell : T.heap[b]? = some cellB) (hobj : cellB.vm.isStatics = false) (hcls : s.vm.findClass C = some cellB.cls)
    {g : JFrame} (hg : g.method = m) (hsize : g.locals.size = c.maxLocals) {argsL rest : List Value} (hlen : ∀ sig, parseMethodDescriptor y.desc = some sig → argsL.length = sig.parameters.length)
    (hstack : g.stack = argsL.reverse ++ .ref b :: rest) (hW : 2 * g.monitorRoom + (rest.map fun v => v.category).sum ≤ W9) (hdg : decode c.code g.pc = .ok (.invokevirtual index, 3))
    (hpre : ∀ vm₁, s.WarmedH vm₁ → Pre ⟨T.setVm vm₁, locs, cells, slots⟩ (Value.ref b :: argsL).toArray) :
    (∃ (v : Option Value) (vm₁ : Vm) (B : Pt), s.WarmedH vm₁ ∧ Stand p l e R s m args below meth c B.U B.locs B.cells B.slots ∧ Post ⟨T.setVm vm₁, locs, cells, slots⟩ (Value.ref b :: argsL).toArray v B ∧
      ∀ target, Steps p.tables e below (B.U.setTop { g with pc := g.pc + 3, stack := v.toList ++ rest }) target → Steps p.tables e below (T.setTop g) target) ∨
    (∃ (q : Addr) (vm₁ : Vm) (B : Pt), s.WarmedH vm₁ ∧ Stand p l e R s m args below meth c B.U B.locs B.cells B.slots ∧ PostX ⟨T.setVm vm₁, locs, cells, slots⟩ (Value.ref b :: argsL).toArray q B ∧
      Steps p.tables e below (T.setTop g) ((B.U.setTop { g with stack := rest }).pushFrame (.throwing q))) := by
  obtain ⟨mk, methM, hnamed, hmethM, hstM, habM⟩ := Cond.instanceMethod_spec hinst
  obtain ⟨methM', cM, hmethM', -, -, -, -, -, -, hsigM⟩ := Cond.code_spec hnamed hcode
  cases hmethM.symm.trans hmethM'
  obtain ⟨c2, r2, m2, q1, q2, q3, q4, kP, hkP, hkPi⟩ := Cond.selects_spec hsel
  cases hcls.symm.trans q1
  cases (State.methodFound?_of_named hnamed hy).symm.trans q2
  cases hnamed.symm.trans q3
  have hselP : selectMethod e.platform s.vm cellB.cls mk = .method mk := by rw [Launch.admits_selectMethod X.admits]; exact q4
  obtain ⟨vm₁, X₁, hstep₁⟩ := X.invokevirtual hexec hown hlink hnamed hmethM hstM hkP hkPi hy (a := b) (cell := cellB) hcell
    (fun z h => by rw [h] at hobj; cases hobj) hselP hmethM habM hkP hkPi (g := g) hg (argsL := argsL) (rest := rest) (hlen _ hsigM) hstack hdg
  rcases hK m meth c ⟨T.setVm vm₁, locs, cells, slots⟩ { g with stack := rest } (.invokevirtual index) mk (Value.ref b :: argsL).toArray X₁ hg hsize hdg hW (X₁.named hnamed) (hpre vm₁ X₁.warmed) with ⟨v, B, X', hpost, hsteps⟩ | ⟨q, B, X', hpost, hsteps⟩
  · exact Or.inl ⟨v, vm₁, B, X₁.warmed, X', hpost, fun target h => hstep₁ _ fun acts => by rw [doInvoke_state]; exact hsteps.trans h⟩
  · exact Or.inr ⟨q, vm₁, B, X₁.warmed, X', hpost, hstep₁ _ fun acts => by rw [doInvoke_state]; exact hsteps⟩
theorem vx_callS (X : Stand p l e R s m args below meth c T locs cells slots) (hexec : p.tables.exec = Jvm.exec) {own : String} {index : Nat} {y : MethodName} {bytes : ByteArray} {maxL : Nat} {ret : Option FieldType}
    (hown : s.vm.findClass own = some m.cls) (hlink : (Cond.methodLink own index y).before args s = true) (hstat : (Cond.static y).before args s = true) (hinit : (Cond.initialized y.cls).before args s = true)
    (hcode : (Cond.code y bytes maxL ret).before args s = true) (hy : y.cls ≠ "java/lang/invoke/MethodHandle" ∧ y.cls ≠ "java/lang/invoke/VarHandle")
    {W9 : Nat} {Pre : Pt → Array Value → Prop} {Post : Pt → Array Value → Option Value → Pt → Prop} {PostX : Pt → Array Value → Addr → Pt → Prop} (hK : vx_Back l R p e below s args y 3 W9 Pre Post PostX)
    {g : JFrame} (hg : g.method = m) (hsize : g.locals.size = c.maxLocals) {argsL rest : List Value} (hlen : ∀ sig, parseMethodDescriptor y.desc = some sig → argsL.length = sig.parameters.length)
    (hstack : g.stack = argsL.reverse ++ rest) (hW : 2 * g.monitorRoom + (rest.map fun v => v.category).sum ≤ W9) (hdg : decode c.code g.pc = .ok (.invokestatic index, 3))
    (hpre : ∀ vm₁, s.WarmedH vm₁ → Pre ⟨T.setVm vm₁, locs, cells, slots⟩ argsL.toArray) :
    (∃ (v : Option Value) (vm₁ : Vm) (B : Pt), s.WarmedH vm₁ ∧ Stand p l e R s m args below meth c B.U B.locs B.cells B.slots ∧ Post ⟨T.setVm vm₁, locs, cells, slots⟩ argsL.toArray v B ∧
      ∀ target, Steps p.tables e below (B.U.setTop { g with pc := g.pc + 3, stack := v.toList ++ rest }) target → Steps p.tables e below (T.setTop g) target) ∨
    (∃ (q : Addr) (vm₁ : Vm) (B : Pt), s.WarmedH vm₁ ∧ Stand p l e R s m args below meth c B.U B.locs B.cells B.slots ∧ PostX ⟨T.setVm vm₁, locs, cells, slots⟩ argsL.toArray q B ∧
      Steps p.tables e below (T.setTop g) ((B.U.setTop { g with stack := rest }).pushFrame (.throwing q))) := by
  obtain ⟨mk, hnamed⟩ := Cond.code_named hcode
  obtain ⟨methM, cM, hmethM, -, -, -, -, -, -, hsigM⟩ := Cond.code_spec hnamed hcode
  have hstatic : methM.isStatic = true := Cond.static_spec hnamed hmethM hstat
  obtain ⟨kP, hkP, -⟩ := className_of_methodNamed hnamed
  have hinitP : kP.init = .initialized := Cond.initialized_spec (findClass_of_methodNamed hnamed) hkP hinit
  obtain ⟨vm₁, X₁, hstep₁⟩ := X.invokestatic hexec hown hlink hnamed hmethM hstatic hkP hinitP hy (g := g) hg (argsL := argsL) (rest := rest) (hlen _ hsigM) hstack hdg
  rcases hK m meth c ⟨T.setVm vm₁, locs, cells, slots⟩ { g with stack := rest } (.invokestatic index) mk argsL.toArray X₁ hg hsize hdg hW (X₁.named hnamed) (hpre vm₁ X₁.warmed) with ⟨v, B, X', hpost, hsteps⟩ | ⟨q, B, X', hpost, hsteps⟩
  · exact Or.inl ⟨v, vm₁, B, X₁.warmed, X', hpost, fun target h => hstep₁ _ fun acts => by rw [doInvoke_state]; exact hsteps.trans h⟩
  · exact Or.inr ⟨q, vm₁, B, X₁.warmed, X', hpost, hstep₁ _ fun acts => by rw [doInvoke_state]; exact hsteps⟩
end Calls
theorem vx_cls {s : State} {T : State} {vm₁ : Vm} {E : String} {k : ClassId} (hW : s.WarmedH vm₁) (h : (T.setVm vm₁).vm.findClass E = some k) : s.vm.findClass E = some k := by
  have h1 : vm₁.findClass E = some k := h
  rw [hW.alike.findClass] at h1
  exact h1
/-- the method's frame g, with q thrown over it -/
def vx_W (p : Program) (l : Launch) (e : Env) (R : Room) (s : State) (m : MethodId) (args : Array Value) (below : List Frame) (meth : Method) (c : Code) (H : Heap) (locs : List Loc) (cells slots : Nat) (Q : State → Prop) (g : JFrame) (q : Addr) : Prop :=
  ∀ T : State, T.heap = H → Stand p l e R s m args below meth c T locs cells slots → ∃ t, Steps p.tables e below ((T.setTop g).pushFrame (.throwing q)) t ∧ Q t
def vx_Run (p : Program) (l : Launch) (e : Env) (R : Room) (s : State) (m : MethodId) (args : Array Value) (below : List Frame) (meth : Method) (c : Code) (H : Heap) (locs : List Loc) (cells slots mc ms : Nat) (g : JFrame) (rest : List Value) (Qa : State → Outcome → State → Prop) (XC : String → State → State → Prop) (free : Addr → Prop) : Prop :=
  ∀ T : State, T.heap = H → Stand p l e R s m args below meth c T locs cells slots →
    (∃ (v : Option Value) (st₀ t T' : State) (L : List Loc), st₀.heap = H ∧ Stand p l e R s m args below meth c T' (locs ++ L) (cells + mc) (slots + ms) ∧ (∀ q ∈ L, free q.base) ∧ T'.heap = t.heap ∧ T'.vm = t.vm ∧ Qa st₀ (.returned v) t ∧
      Goes p e below T g T' { g with pc := g.pc + 3, stack := v.toList ++ rest }) ∨
    (∃ (q : Addr) (st₀ t T' : State) (L : List Loc) (E : String) (ce : Cell), st₀.heap = H ∧ Stand p l e R s m args below meth c T' (locs ++ L) (cells + mc) (slots + ms) ∧ (∀ z ∈ L, free z.base) ∧ T'.heap = t.heap ∧ T'.vm = t.vm ∧ XC E st₀ t ∧ t.heap[q]? = some ce ∧ ce.vm = .none ∧ s.vm.findClass E = some ce.cls ∧
      Steps p.tables e below (T.setTop g) ((T'.setTop { g with stack := rest }).pushFrame (.throwing q)))
def vx_X {S : Type} (px : S → Prop) (B : String → S → State → Prop) (A : Nat → Prop) : String → State → State → Prop := fun E st t => ∃ u : S, px u ∧ B E u t ∧ va_F A st t
section Runs
variable {p : Program} {l : Launch} {e : Env} {R : Room} {s : State} {m : MethodId} {args : Array Value} {below : List Frame} {meth : Method} {c : Code} {H : Heap} {locs : List Loc} {cells slots : Nat}
variable {y : MethodName} {bytes cc : ByteArray} {maxL nL mc ms n index : Nat} {ret : Option FieldType} {ws : List Cond} {rm : Room} {Pc : Array Value → State → Prop} {Qc : Array Value → State → Outcome → State → Prop} {XC : String → State → State → Prop} {free : Addr → Prop} {Ts : List Cond} {own C : String} {b : Addr} {As rest : List Value} {g : JFrame}
theorem vx_callBack (cb : CallB R s args own index y bytes maxL ret ws rm mc ms n) (hM : vx_Met l y ws rm Pc Qc XC mc ms free) (hbl : FrameBlind Pc) : vx_Back l R p e below s args y 3 8 (PreOf R mc ms Pc) (PostOf Qc mc ms free) (vx_Post XC mc ms free) := by
  obtain ⟨hrc, hrs, hfr, hlo, hws, hcw, -, hini, -⟩ := cb
  exact vx_back (bytes := bytes) (maxL := maxL) (ret := ret) hM hbl hrc hrs hfr hlo hws hcw (fun a' U hW => word_at hW (Or.inl (by first | rfl | simp [Cond.onTables, Cond.keeps, Cond.steady])) hini)
theorem vx_runV (S : CallFix p m c cc nL s args Ts own) (hM : vx_Met l y ws rm Pc Qc XC mc ms free) (cw : CallW R s args own C index y bytes maxL ret ws rm mc ms n) (hp : PreV s H C b Pc As)
    (hg : g.method = m) (hn : As.length = n) (hsize : g.locals.size = nL) (hstack : g.stack = As.reverse ++ .ref b :: rest) (hW : 2 * g.monitorRoom + (rest.map fun v => v.category).sum ≤ 8) (hdg : decode cc g.pc = .ok (.invokevirtual index, 3)) (hf : cells + mc ≤ R.cells ∧ slots + ms ≤ R.slots) :
    vx_Run p l e R s m args below meth c H locs cells slots mc ms g rest (Qc (Value.ref b :: As).toArray) XC free := by
  have hK : vx_Back l R p e below s args y 3 8 (PreOf R mc ms Pc) (PostOf Qc mc ms free) (vx_Post XC mc ms free) := vx_callBack cw.1 hM hp.1
  obtain ⟨⟨-, -, -, -, -, -, hcode, -, hy, hlen, hl⟩, hin, hse⟩ := cw
  obtain ⟨hx, hb, hml, ho, -⟩ := S
  obtain ⟨-, ⟨cellB, hcB, hoB, hclB⟩, hPc⟩ := hp
  intro T hT X
  rcases vx_callV X hx (C := C) (bytes := bytes) (maxL := maxL) (ret := ret) ho hl hin hse hcode hy hK (by rw [hT]; exact hcB) hoB hclB hg (hsize.trans hml.symm) (argsL := As) (rest := rest) (fun sig h => hn.trans (hlen sig h)) hstack hW (by rw [hb]; exact hdg)
    (fun vm₁ hW₁ => ⟨hf.1, hf.2, hPc (T.setVm vm₁) hT hW₁⟩) with ⟨v, vm₁, ⟨U', l2, c2, s2⟩, hW₁, X', ⟨g', mk, t, L, e1, e2, hq, h1, hL, h2, h3⟩, st⟩ | ⟨q, vm₁, ⟨U', l2, c2, s2⟩, hW₁, X', ⟨g', mk, t, L, E, ce, e1, e2, hq, hce, hcv, hcl, h1, hL, h2, h3⟩, st⟩
  · dsimp only [Pt.U, Pt.locs, Pt.cells, Pt.slots] at X' e1 e2 h1 h2 h3 st
    subst h1; subst h2; subst h3
    exact Or.inl ⟨v, (T.setVm vm₁).calling g' mk (Value.ref b :: As).toArray, t, U', L, hT, X', hL, e1, e2, hq, st⟩
  · dsimp only [Pt.U, Pt.locs, Pt.cells, Pt.slots] at X' e1 e2 h1 h2 h3 st hcl
    subst h1; subst h2; subst h3
    exact Or.inr ⟨q, (T.setVm vm₁).calling g' mk (Value.ref b :: As).toArray, t, U', L, E, ce, hT, X', hL, e1, e2, hq, hce, hcv, vx_cls hW₁ hcl, st⟩
theorem vx_runS (S : CallFix p m c cc nL s args Ts own) (hM : vx_Met l y ws rm Pc Qc XC mc ms free) (cw : CallB R s args own index y bytes maxL ret ws rm mc ms n ∧ (Cond.static y).before args s = true) (hp : PreS s H Pc As)
    (hg : g.method = m) (hn : As.length = n) (hsize : g.locals.size = nL) (hstack : g.stack = As.reverse ++ rest) (hW : 2 * g.monitorRoom + (rest.map fun v => v.category).sum ≤ 8) (hdg : decode cc g.pc = .ok (.invokestatic index, 3)) (hf : cells + mc ≤ R.cells ∧ slots + ms ≤ R.slots) :
    vx_Run p l e R s m args below meth c H locs cells slots mc ms g rest (Qc As.toArray) XC free := by
  have hK : vx_Back l R p e below s args y 3 8 (PreOf R mc ms Pc) (PostOf Qc mc ms free) (vx_Post XC mc ms free) := vx_callBack cw.1 hM hp.1
  obtain ⟨⟨-, -, -, -, -, -, hcode, hini, hy, hlen, hl⟩, hstt⟩ := cw
  obtain ⟨hx, hb, hml, ho, -⟩ := S
  intro T hT X
  rcases vx_callS X hx (bytes := bytes) (maxL := maxL) (ret := ret) ho hl hstt hini hcode hy hK hg (hsize.trans hml.symm) (argsL := As) (rest := rest) (fun sig h => hn.trans (hlen sig h)) hstack hW (by rw [hb]; exact hdg)
    (fun vm₁ hW₁ => ⟨hf.1, hf.2, hp.2 (T.setVm vm₁) hT hW₁⟩) with ⟨v, vm₁, ⟨U', l2, c2, s2⟩, hW₁, X', ⟨g', mk, t, L, e1, e2, hq, h1, hL, h2, h3⟩, st⟩ | ⟨q, vm₁, ⟨U', l2, c2, s2⟩, hW₁, X', ⟨g', mk, t, L, E, ce, e1, e2, hq, hce, hcv, hcl, h1, hL, h2, h3⟩, st⟩
  · dsimp only [Pt.U, Pt.locs, Pt.cells, Pt.slots] at X' e1 e2 h1 h2 h3 st
    subst h1; subst h2; subst h3
    exact Or.inl ⟨v, (T.setVm vm₁).calling g' mk As.toArray, t, U', L, hT, X', hL, e1, e2, hq, st⟩
  · dsimp only [Pt.U, Pt.locs, Pt.cells, Pt.slots] at X' e1 e2 h1 h2 h3 st hcl
    subst h1; subst h2; subst h3
    exact Or.inr ⟨q, (T.setVm vm₁).calling g' mk As.toArray, t, U', L, E, ce, hT, X', hL, e1, e2, hq, hce, hcv, vx_cls hW₁ hcl, st⟩
end Runs
section Rows
variable {p : Program} {l : Launch} {e : Env} {R : Room} {s : State} {m : MethodId} {args : Array Value} {below : List Frame} {meth : Method} {c : Code} {H : Heap} {locs : List Loc} {cells slots : Nat} {Q : State → Prop}
variable {mc ms : Nat} {free : Addr → Prop} {A0 A1 : Nat → Prop} {H0 : Heap} {a : Array Value} {pc : Nat} {ls : Array Slot} {st0 rest : List Value}
theorem vx_keep {st₀ t T' : State} {L : List Loc} (h0 : st₀.heap = H) (e1 : T'.heap = t.heap) (hS : va_S A0 H0 H locs) (hA : ∀ q, q < H.size → A1 q → A0 q) (hf : ∀ q, free q → A0 q) (hL : ∀ q ∈ L, free q.base) (hF : va_F A1 st₀ t) :
    H.size ≤ T'.heap.size ∧ (∀ q : Nat, q < H.size → ¬ A1 q → T'.heap[q]? = H[q]?) ∧ va_S A0 H0 T'.heap (locs ++ L) := by
  obtain ⟨hz, hk⟩ := hF
  rw [h0] at hz hk
  exact ⟨by rw [e1]; exact hz, fun q h1 h2 => by rw [e1]; exact hk q h1 h2,
    ⟨Nat.le_trans hS.1 (by rw [e1]; exact hz), fun q h1 h2 => by rw [e1, hk q (Nat.lt_of_lt_of_le h1 hS.1) (fun z => h2 (hA q (Nat.lt_of_lt_of_le h1 hS.1) z))]; exact hS.2.1 q h1 h2, fun q hq => by
      rcases List.mem_append.mp hq with h | h
      · exact hS.2.2 q h
      · exact hf _ (hL q h)⟩⟩
theorem vx_calli {S SX : Type} {post : Int32 → S → Prop} {px : SX → Prop} {B : S → State → Prop} {BX : String → SX → State → Prop} {AX : Nat → Prop} (hr : vx_Run p l e R s m args below meth c H locs cells slots mc ms (F0 m pc ls st0) rest (va_Qi post B A1 a) (vx_X px BX AX) free) (hS : va_S A0 H0 H locs) (hA : ∀ q, q < H.size → A1 q → A0 q) (hf : ∀ q, free q → A0 q) (hAX : ∀ q, q < H.size → AX q → A0 q)
    (kx : ∀ (E : String) (ce : Cell) (q9 : Addr) (u : SX) (t : State) (H1 : Heap) (locs1 : List Loc), t.heap = H1 → s.vm.Alike t.vm → px u → BX E u t → H.size ≤ H1.size → (∀ q : Nat, q < H.size → ¬ AX q → H1[q]? = H[q]?) → va_S A0 H0 H1 locs1 → H1[q9]? = some ce → ce.vm = .none → s.vm.findClass E = some ce.cls → vx_W p l e R s m args below meth c H1 locs1 (cells + mc) (slots + ms) Q (F0 m pc ls rest) q9)
    (kk : ∀ (r : Int32) (u : S) (t : State) (H1 : Heap) (locs1 : List Loc), t.heap = H1 → s.vm.Alike t.vm → post r u → B u t → H.size ≤ H1.size → (∀ q : Nat, q < H.size → ¬ A1 q → H1[q]? = H[q]?) → va_S A0 H0 H1 locs1 → W p l e R s m args below meth c H1 locs1 (cells + mc) (slots + ms) Q (F0 m (pc + 3) ls (.int r :: rest))) : W p l e R s m args below meth c H locs cells slots Q (F0 m pc ls st0) := by
  intro T hT X
  rcases hr T hT X with ⟨v, st₀, t, T', L, h0, X', hL, e1, e2, ⟨⟨r, u, hv, hp, hb⟩, hF⟩, st⟩ | ⟨q, st₀, t, T', L, E, ce, h0, X', hL, e1, e2, ⟨u, hp, hb, hF⟩, hce, hcv, hcl, st⟩
  · cases hv
    obtain ⟨k1, k2, k3⟩ := vx_keep h0 e1 hS hA hf hL hF
    obtain ⟨t2, a1, b1⟩ := kk r u t T'.heap (locs ++ L) e1.symm (by rw [← e2]; exact X'.warmed.alike) hp hb k1 k2 k3 T' rfl X'
    exact ⟨t2, st t2 a1, b1⟩
  · obtain ⟨k1, k2, k3⟩ := vx_keep h0 e1 hS hAX hf hL hF
    obtain ⟨t2, a1, b1⟩ := kx E ce q u t T'.heap (locs ++ L) e1.symm (by rw [← e2]; exact X'.warmed.alike) hp hb k1 k2 k3 (by rw [e1]; exact hce) hcv hcl T' rfl X'
    exact ⟨t2, st.trans a1, b1⟩
theorem vx_calll {S SX : Type} {post : Int64 → S → Prop} {px : SX → Prop} {B : S → State → Prop} {BX : String → SX → State → Prop} {AX : Nat → Prop} (hr : vx_Run p l e R s m args below meth c H locs cells slots mc ms (F0 m pc ls st0) rest (va_Ql post B A1 a) (vx_X px BX AX) free) (hS : va_S A0 H0 H locs) (hA : ∀ q, q < H.size → A1 q → A0 q) (hf : ∀ q, free q → A0 q) (hAX : ∀ q, q < H.size → AX q → A0 q)
    (kx : ∀ (E : String) (ce : Cell) (q9 : Addr) (u : SX) (t : State) (H1 : Heap) (locs1 : List Loc), t.heap = H1 → s.vm.Alike t.vm → px u → BX E u t → H.size ≤ H1.size → (∀ q : Nat, q < H.size → ¬ AX q → H1[q]? = H[q]?) → va_S A0 H0 H1 locs1 → H1[q9]? = some ce → ce.vm = .none → s.vm.findClass E = some ce.cls → vx_W p l e R s m args below meth c H1 locs1 (cells + mc) (slots + ms) Q (F0 m pc ls rest) q9)
    (kk : ∀ (r : Int64) (u : S) (t : State) (H1 : Heap) (locs1 : List Loc), t.heap = H1 → s.vm.Alike t.vm → post r u → B u t → H.size ≤ H1.size → (∀ q : Nat, q < H.size → ¬ A1 q → H1[q]? = H[q]?) → va_S A0 H0 H1 locs1 → W p l e R s m args below meth c H1 locs1 (cells + mc) (slots + ms) Q (F0 m (pc + 3) ls (.long r :: rest))) : W p l e R s m args below meth c H locs cells slots Q (F0 m pc ls st0) := by
  intro T hT X
  rcases hr T hT X with ⟨v, st₀, t, T', L, h0, X', hL, e1, e2, ⟨⟨r, u, hv, hp, hb⟩, hF⟩, st⟩ | ⟨q, st₀, t, T', L, E, ce, h0, X', hL, e1, e2, ⟨u, hp, hb, hF⟩, hce, hcv, hcl, st⟩
  · cases hv
    obtain ⟨k1, k2, k3⟩ := vx_keep h0 e1 hS hA hf hL hF
    obtain ⟨t2, a1, b1⟩ := kk r u t T'.heap (locs ++ L) e1.symm (by rw [← e2]; exact X'.warmed.alike) hp hb k1 k2 k3 T' rfl X'
    exact ⟨t2, st t2 a1, b1⟩
  · obtain ⟨k1, k2, k3⟩ := vx_keep h0 e1 hS hAX hf hL hF
    obtain ⟨t2, a1, b1⟩ := kx E ce q u t T'.heap (locs ++ L) e1.symm (by rw [← e2]; exact X'.warmed.alike) hp hb k1 k2 k3 (by rw [e1]; exact hce) hcv hcl T' rfl X'
    exact ⟨t2, st.trans a1, b1⟩
theorem vx_callf {S SX : Type} {post : UInt32 → S → Prop} {px : SX → Prop} {B : S → State → Prop} {BX : String → SX → State → Prop} {AX : Nat → Prop} (hr : vx_Run p l e R s m args below meth c H locs cells slots mc ms (F0 m pc ls st0) rest (va_Qf post B A1 a) (vx_X px BX AX) free) (hS : va_S A0 H0 H locs) (hA : ∀ q, q < H.size → A1 q → A0 q) (hf : ∀ q, free q → A0 q) (hAX : ∀ q, q < H.size → AX q → A0 q)
    (kx : ∀ (E : String) (ce : Cell) (q9 : Addr) (u : SX) (t : State) (H1 : Heap) (locs1 : List Loc), t.heap = H1 → s.vm.Alike t.vm → px u → BX E u t → H.size ≤ H1.size → (∀ q : Nat, q < H.size → ¬ AX q → H1[q]? = H[q]?) → va_S A0 H0 H1 locs1 → H1[q9]? = some ce → ce.vm = .none → s.vm.findClass E = some ce.cls → vx_W p l e R s m args below meth c H1 locs1 (cells + mc) (slots + ms) Q (F0 m pc ls rest) q9)
    (kk : ∀ (r : UInt32) (u : S) (t : State) (H1 : Heap) (locs1 : List Loc), t.heap = H1 → s.vm.Alike t.vm → post r u → B u t → H.size ≤ H1.size → (∀ q : Nat, q < H.size → ¬ A1 q → H1[q]? = H[q]?) → va_S A0 H0 H1 locs1 → W p l e R s m args below meth c H1 locs1 (cells + mc) (slots + ms) Q (F0 m (pc + 3) ls (.float r :: rest))) : W p l e R s m args below meth c H locs cells slots Q (F0 m pc ls st0) := by
  intro T hT X
  rcases hr T hT X with ⟨v, st₀, t, T', L, h0, X', hL, e1, e2, ⟨⟨r, u, hv, hp, hb⟩, hF⟩, st⟩ | ⟨q, st₀, t, T', L, E, ce, h0, X', hL, e1, e2, ⟨u, hp, hb, hF⟩, hce, hcv, hcl, st⟩
  · cases hv
    obtain ⟨k1, k2, k3⟩ := vx_keep h0 e1 hS hA hf hL hF
    obtain ⟨t2, a1, b1⟩ := kk r u t T'.heap (locs ++ L) e1.symm (by rw [← e2]; exact X'.warmed.alike) hp hb k1 k2 k3 T' rfl X'
    exact ⟨t2, st t2 a1, b1⟩
  · obtain ⟨k1, k2, k3⟩ := vx_keep h0 e1 hS hAX hf hL hF
    obtain ⟨t2, a1, b1⟩ := kx E ce q u t T'.heap (locs ++ L) e1.symm (by rw [← e2]; exact X'.warmed.alike) hp hb k1 k2 k3 (by rw [e1]; exact hce) hcv hcl T' rfl X'
    exact ⟨t2, st.trans a1, b1⟩
theorem vx_calld {S SX : Type} {post : UInt64 → S → Prop} {px : SX → Prop} {B : S → State → Prop} {BX : String → SX → State → Prop} {AX : Nat → Prop} (hr : vx_Run p l e R s m args below meth c H locs cells slots mc ms (F0 m pc ls st0) rest (va_Qd post B A1 a) (vx_X px BX AX) free) (hS : va_S A0 H0 H locs) (hA : ∀ q, q < H.size → A1 q → A0 q) (hf : ∀ q, free q → A0 q) (hAX : ∀ q, q < H.size → AX q → A0 q)
    (kx : ∀ (E : String) (ce : Cell) (q9 : Addr) (u : SX) (t : State) (H1 : Heap) (locs1 : List Loc), t.heap = H1 → s.vm.Alike t.vm → px u → BX E u t → H.size ≤ H1.size → (∀ q : Nat, q < H.size → ¬ AX q → H1[q]? = H[q]?) → va_S A0 H0 H1 locs1 → H1[q9]? = some ce → ce.vm = .none → s.vm.findClass E = some ce.cls → vx_W p l e R s m args below meth c H1 locs1 (cells + mc) (slots + ms) Q (F0 m pc ls rest) q9)
    (kk : ∀ (r : UInt64) (u : S) (t : State) (H1 : Heap) (locs1 : List Loc), t.heap = H1 → s.vm.Alike t.vm → post r u → B u t → H.size ≤ H1.size → (∀ q : Nat, q < H.size → ¬ A1 q → H1[q]? = H[q]?) → va_S A0 H0 H1 locs1 → W p l e R s m args below meth c H1 locs1 (cells + mc) (slots + ms) Q (F0 m (pc + 3) ls (.double r :: rest))) : W p l e R s m args below meth c H locs cells slots Q (F0 m pc ls st0) := by
  intro T hT X
  rcases hr T hT X with ⟨v, st₀, t, T', L, h0, X', hL, e1, e2, ⟨⟨r, u, hv, hp, hb⟩, hF⟩, st⟩ | ⟨q, st₀, t, T', L, E, ce, h0, X', hL, e1, e2, ⟨u, hp, hb, hF⟩, hce, hcv, hcl, st⟩
  · cases hv
    obtain ⟨k1, k2, k3⟩ := vx_keep h0 e1 hS hA hf hL hF
    obtain ⟨t2, a1, b1⟩ := kk r u t T'.heap (locs ++ L) e1.symm (by rw [← e2]; exact X'.warmed.alike) hp hb k1 k2 k3 T' rfl X'
    exact ⟨t2, st t2 a1, b1⟩
  · obtain ⟨k1, k2, k3⟩ := vx_keep h0 e1 hS hAX hf hL hF
    obtain ⟨t2, a1, b1⟩ := kx E ce q u t T'.heap (locs ++ L) e1.symm (by rw [← e2]; exact X'.warmed.alike) hp hb k1 k2 k3 (by rw [e1]; exact hce) hcv hcl T' rfl X'
    exact ⟨t2, st.trans a1, b1⟩
theorem vx_callv {S SX : Type} {post : S → Prop} {px : SX → Prop} {B : S → State → Prop} {BX : String → SX → State → Prop} {AX : Nat → Prop} (hr : vx_Run p l e R s m args below meth c H locs cells slots mc ms (F0 m pc ls st0) rest (va_Qv post B A1 a) (vx_X px BX AX) free) (hS : va_S A0 H0 H locs) (hA : ∀ q, q < H.size → A1 q → A0 q) (hf : ∀ q, free q → A0 q) (hAX : ∀ q, q < H.size → AX q → A0 q)
    (kx : ∀ (E : String) (ce : Cell) (q9 : Addr) (u : SX) (t : State) (H1 : Heap) (locs1 : List Loc), t.heap = H1 → s.vm.Alike t.vm → px u → BX E u t → H.size ≤ H1.size → (∀ q : Nat, q < H.size → ¬ AX q → H1[q]? = H[q]?) → va_S A0 H0 H1 locs1 → H1[q9]? = some ce → ce.vm = .none → s.vm.findClass E = some ce.cls → vx_W p l e R s m args below meth c H1 locs1 (cells + mc) (slots + ms) Q (F0 m pc ls rest) q9)
    (kk : ∀ (u : S) (t : State) (H1 : Heap) (locs1 : List Loc), t.heap = H1 → s.vm.Alike t.vm → post u → B u t → H.size ≤ H1.size → (∀ q : Nat, q < H.size → ¬ A1 q → H1[q]? = H[q]?) → va_S A0 H0 H1 locs1 → W p l e R s m args below meth c H1 locs1 (cells + mc) (slots + ms) Q (F0 m (pc + 3) ls (rest))) : W p l e R s m args below meth c H locs cells slots Q (F0 m pc ls st0) := by
  intro T hT X
  rcases hr T hT X with ⟨v, st₀, t, T', L, h0, X', hL, e1, e2, ⟨⟨u, hv, hp, hb⟩, hF⟩, st⟩ | ⟨q, st₀, t, T', L, E, ce, h0, X', hL, e1, e2, ⟨u, hp, hb, hF⟩, hce, hcv, hcl, st⟩
  · cases hv
    obtain ⟨k1, k2, k3⟩ := vx_keep h0 e1 hS hA hf hL hF
    obtain ⟨t2, a1, b1⟩ := kk u t T'.heap (locs ++ L) e1.symm (by rw [← e2]; exact X'.warmed.alike) hp hb k1 k2 k3 T' rfl X'
    exact ⟨t2, st t2 a1, b1⟩
  · obtain ⟨k1, k2, k3⟩ := vx_keep h0 e1 hS hAX hf hL hF
    obtain ⟨t2, a1, b1⟩ := kx E ce q u t T'.heap (locs ++ L) e1.symm (by rw [← e2]; exact X'.warmed.alike) hp hb k1 k2 k3 (by rw [e1]; exact hce) hcv hcl T' rfl X'
    exact ⟨t2, st.trans a1, b1⟩
/-- caught by the row x of this method's table; the rows ahead don't take it -/
theorem vx_catch {own name : String} {E : String} {ce : Cell} {q : Addr} (hown : s.vm.findClass own = some m.cls) (pre : List ExceptionTableEntry) (x : ExceptionTableEntry) (suf : List ExceptionTableEntry) (hsplit : c.exceptionTable.toList = pre ++ x :: suf)
    (hpass : ∀ z ∈ pre, covers z pc = false ∨ (z.catchType ≠ 0 ∧ ∃ nm : String, (Cond.classLink own z.catchType nm).before args s = true ∧ va_Nc E nm s)) (hx : covers x pc = true) (h0 : x.catchType ≠ 0)
    (hlink : (Cond.classLink own x.catchType name).before args s = true) (hcast : (Cond.castable E name).before args s = true) (hcell : H[q]? = some ce) (hv : ce.vm = .none) (hcl : s.vm.findClass E = some ce.cls)
    (kk : W p l e R s m args below meth c H locs cells slots Q (F0 m x.handlerPc ls [.ref q])) : vx_W p l e R s m args below meth c H locs cells slots Q (F0 m pc ls rest) q := by
  intro T hT X
  have hpl : e.platform.magicAccessors = ({} : Platform).magicAccessors := by rw [X.admits.platform]
  obtain ⟨c3, c4, hc3, hc4, hasg⟩ := Cond.castable_spec hcast
  cases Option.some.inj (hc3.symm.trans hcl)
  obtain ⟨c5, hc5, hcl5⟩ := Cond.classLink_spec hown hlink e.platform hpl
  cases Option.some.inj (hc4.symm.trans hc5)
  obtain ⟨vm', X', st⟩ := X.thenCaughtThrough q (g := F0 m pc ls rest) rfl (Steps.refl _) (by rw [hT]; exact hcell) (by rw [hv]; rfl) (by obtain ⟨k9, h9, -⟩ := Vm.findClass_spec hcl; exact ⟨k9, h9⟩) pre x suf hsplit
    (fun z hz => by
      rcases hpass z hz with h | ⟨hz0, nm, hl1, hn1⟩
      · exact Or.inl h
      · obtain ⟨c6, hc6, hcl6⟩ := Cond.classLink_spec hown hl1 e.platform hpl
        obtain ⟨a8, b8, h1, h2, h3⟩ := hn1
        cases Option.some.inj (h1.symm.trans hcl)
        cases Option.some.inj (h2.symm.trans hc6)
        exact Or.inr ⟨hz0, _, hcl6, h3⟩) hx (Or.inr ⟨h0, c4, hcl5, hasg⟩)
  obtain ⟨t, a1, b1⟩ := kk (T.setVm vm') hT X'
  exact ⟨t, st.trans a1, b1⟩
end Rows
section Ends
variable {p : Program} {l : Launch} {e : Env} {R : Room} {s : State} {m : MethodId} {args : Array Value} {below : List Frame} {meth : Method} {c : Code} {H : Heap} {locs : List Loc} {cells slots : Nat} {Q : State → Prop}
variable {mc ms : Nat} {free : Addr → Prop} {A0 A1 : Nat → Prop} {H0 : Heap} {a : Array Value} {ls : Array Slot} {st0 rest : List Value}
variable {Qc : Array Value → State → Outcome → State → Prop} {XC : String → State → State → Prop}
/-- what a body that may throw owes at its end -/
def vx_MQ (below : List Frame) (Qc : Array Value → State → Outcome → State → Prop) (XC : String → State → State → Prop) (a : Array Value) (s : State) (mc ms : Nat) (free : Addr → Prop) : State → Prop := fun t =>
  ∃ o, t.status = .running ∧ Ended t below o ∧ vx_Q Qc XC mc ms free a s o t
theorem vx_ret {g : JFrame} {mc ms : Nat} (k : W p l e R s m args below meth c H locs cells slots (MQ below Qc args s mc ms free) g) : W p l e R s m args below meth c H locs cells slots (vx_MQ below Qc XC args s mc ms free) g := by
  intro T hT X
  obtain ⟨t, a1, o, b1, b2, b3, b4⟩ := k T hT X
  exact ⟨t, a1, o, b1, b2, Or.inl ⟨b3, b4⟩⟩
/-- not caught here: it goes on to the caller -/
theorem vx_widen {g : JFrame} {q : Addr} {k n : Nat} (h1 : cells ≤ k) (h2 : slots ≤ n) (kk : vx_W p l e R s m args below meth c H locs k n Q g q) : vx_W p l e R s m args below meth c H locs cells slots Q g q := fun T hT X => kk T hT (stand_widen X h1 h2)
theorem vx_out {pc : Nat} {E : String} {ce : Cell} {q : Addr} {mc ms : Nat} (hout : ∀ x ∈ c.exceptionTable.toList, covers x pc = false) (hlocks : meth.locks = false) (hcell : H[q]? = some ce) (hv : ce.vm = .none) (hcl : s.vm.findClass E = some ce.cls)
    (hx : ∀ t : State, t.heap = H → s.vm.Alike t.vm → XC E s t) (hf : ∀ z ∈ locs, free z.base) (hc : cells ≤ mc) (hs : slots ≤ ms) :
    vx_W p l e R s m args below meth c H locs cells slots (vx_MQ below Qc XC args s mc ms free) (F0 m pc ls rest) q := by
  intro T hT X
  obtain ⟨st1, hrun, hend, hW, hsm⟩ := X.leaveThrown q (g := F0 m pc ls rest) rfl rfl rfl hout hlocks
  have hcell9 : (T.setFrames (.throwing q :: below)).heap[q]? = some ce := by
    show T.heap[q]? = some ce
    rw [hT]; exact hcell
  exact ⟨_, st1, .threw q, hrun, hend, Or.inr ⟨q, rfl, E, ce, locs, hx _ hT hW.alike, hcell9, hv, hcl, hW, hsm.mono hc hs, hf⟩⟩
theorem vx_frame {U : State} {k n : Nat} (h : s.sameButNew ({ U with vm := s.vm } : State) locs k n) : s.heap.size ≤ U.heap.size ∧ ∀ q : Nat, q < s.heap.size → (∀ z ∈ locs, z.base ≠ q) → U.heap[q]? = s.heap[q]? := by
  obtain ⟨-, h2, -, -, -, h6⟩ := h
  refine ⟨h2, fun q hq hz => ?_⟩
  obtain ⟨c9, e1, e2, e3, e4⟩ := h6 q _ (Array.getElem?_eq_getElem hq)
  have hs : c9.slots = (s.heap[q]).slots := Array.ext_getElem? fun i => e4 i fun hm => hz _ hm rfl
  have h9 : c9 = s.heap[q] := by
    rw [hs] at e2
    exact e2
  have e5 : U.heap[q]? = some c9 := e1
  rw [e5, h9, Array.getElem?_eq_getElem hq]
/-- the words of a throw but the four that speak of the heap -/
def vx_no (w : Cond) : Bool := decide (w ≠ .isRef (.static Bundle.tN "UNASSIGNED_STACK" Bundle.steD)) && decide (w ≠ .isRef (.static Bundle.tN "SUPPRESSED_SENTINEL" Bundle.listD)) && decide (w ≠ .laysStatic Bundle.tN "UNASSIGNED_STACK" Bundle.steD) && decide (w ≠ .laysStatic Bundle.tN "SUPPRESSED_SENTINEL" Bundle.listD)
def vx_at0 (own : String) (ic : Nat) (X : String) (names : List String) : List Cond := (Bundle.ownAtoms0 own ic X names).filter vx_no
def vx_atS (own : String) (ic : Nat) (X : String) (names : List String) : List Cond := (Bundle.ownAtoms own ic X names).filter vx_no
/-- a word that the tables alone decide, or a good one -/
def vx_ot (w : Cond) : Bool := w.onTables || goodWord w
theorem vx_ot_at {args a' : Array Value} {s U : State} {w : Cond} (hW : s.WarmedH U.vm) (hvm : s.vm = U.vm) (hg : vx_ot w = true) (h : w.before args s = true) : w.before a' U = true := by
  simp only [vx_ot, Bool.or_eq_true] at hg
  rcases hg with hg | hg
  · exact va_tabs hg hvm h
  · exact word_at hW (good_of_word hg) h
/-- a list's words: the good ones out of the method's own list, the others by premises of their own -/
theorem vx_hat {args : Array Value} {s : State} {L B : List Cond} (h1 : ∀ w ∈ L.filter goodWord, w.before args s = true) (h2 : ∀ w ∈ L.filter (fun w => !goodWord w), w ∈ B) (h3 : ∀ w ∈ B, w.before args s = true) : ∀ w ∈ L, w.before args s = true := by
  intro w hw
  by_cases g : goodWord w = true
  · exact h1 w (List.mem_filter.mpr ⟨hw, g⟩)
  · refine h3 w (h2 w (List.mem_filter.mpr ⟨hw, ?_⟩))
    show (!goodWord w) = true
    cases hgw : goodWord w
    · rfl
    · exact absurd hgw g
theorem vx_c {args : Array Value} {s : State} {w : Cond} {B : List Cond} (h : w.before args s = true) (t : ∀ w ∈ B, w.before args s = true) : ∀ w' ∈ w :: B, w'.before args s = true := fun w' h' => (List.mem_cons.mp h').elim (fun e => by rw [e]; exact h) (t w')
theorem vx_n {args : Array Value} {s : State} : ∀ w ∈ ([] : List Cond), w.before args s = true := fun _ h => nomatch h
theorem vx_own {args : Array Value} {s : State} {L : List Cond} (h1 : ∀ w ∈ L.filter vx_no, w.before args s = true)
    (hU : (Cond.isRef (.static Bundle.tN "UNASSIGNED_STACK" Bundle.steD)).before args s = true) (hN : (Cond.isRef (.static Bundle.tN "SUPPRESSED_SENTINEL" Bundle.listD)).before args s = true)
    (lU : (Cond.laysStatic Bundle.tN "UNASSIGNED_STACK" Bundle.steD).before args s = true) (lN : (Cond.laysStatic Bundle.tN "SUPPRESSED_SENTINEL" Bundle.listD).before args s = true) : ∀ w ∈ L, w.before args s = true := by
  intro w hw
  by_cases e1 : w = .isRef (.static Bundle.tN "UNASSIGNED_STACK" Bundle.steD)
  · rw [e1]; exact hU
  · by_cases e2 : w = .isRef (.static Bundle.tN "SUPPRESSED_SENTINEL" Bundle.listD)
    · rw [e2]; exact hN
    · by_cases e3 : w = .laysStatic Bundle.tN "UNASSIGNED_STACK" Bundle.steD
      · rw [e3]; exact lU
      · by_cases e4 : w = .laysStatic Bundle.tN "SUPPRESSED_SENTINEL" Bundle.listD
        · rw [e4]; exact lN
        · exact h1 w (List.mem_filter.mpr ⟨hw, by unfold vx_no; rw [decide_eq_true e1, decide_eq_true e2, decide_eq_true e3, decide_eq_true e4]; rfl⟩)
/-- where a static field lies, its class's statics cell in H -/
def vx_L (C n d : String) (A : Nat → Prop) (U : State) (H : Heap) : Prop := ∃ (c : ClassId) (k : Class) (i : Nat) (f : Field) (a : Nat) (cell : Cell), U.vm.findClass C = some c ∧ U.fieldFound? C n d = some (c, k, i, f) ∧ f.isStatic = true ∧ k.statics = some a ∧ H[a]? = some cell ∧ cell.vm.isStatics = true ∧ cell.cls = c ∧ f.slot < cell.slots.size ∧ k.staticTypes[f.slot]? = some f.type ∧ ¬ A a
theorem vx_L.moved {C n d : String} {A : Nat → Prop} {u U : State} {H : Heap} (hvm : u.vm.Alike U.vm) (h : vx_L C n d A u H) : vx_L C n d A U H := by
  obtain ⟨c, k, i, f, a, cell, h1, h2, h3, h4, h5, h6, h7, h8, h9, h10⟩ := h
  obtain ⟨k', hi', he⟩ := State.fieldFound?_setVm hvm h2
  exact ⟨c, k', i, f, a, cell, by rw [hvm.findClass]; exact h1, hi', h3, by rw [he]; exact h4, h5, h6, h7, h8, by rw [he]; exact h9, h10⟩
theorem vx_L.kept {C n d : String} {A : Nat → Prop} {U : State} {H H1 : Heap} (h : vx_L C n d A U H) (hq : ∀ a : Nat, a < H.size → ¬ A a → H1[a]? = H[a]?) : vx_L C n d A U H1 := by
  obtain ⟨c, k, i, f, a, cell, h1, h2, h3, h4, h5, h6, h7, h8, h9, h10⟩ := h
  exact ⟨c, k, i, f, a, cell, h1, h2, h3, h4, by rw [hq a (Array.getElem?_eq_some_iff.mp h5).1 h10]; exact h5, h6, h7, h8, h9, h10⟩
theorem vx_L.narrow {C n d : String} {A B : Nat → Prop} {U : State} {H : Heap} (h : vx_L C n d A U H) (hAB : ∀ q, B q → A q) : vx_L C n d B U H := by
  obtain ⟨c, k, i, f, a, cell, h1, h2, h3, h4, h5, h6, h7, h8, h9, h10⟩ := h
  exact ⟨c, k, i, f, a, cell, h1, h2, h3, h4, h5, h6, h7, h8, h9, fun z => h10 (hAB _ z)⟩
theorem vx_L.word {C n d : String} {A : Nat → Prop} {s : State} {args : Array Value} (h : vx_L C n d A s s.heap) : (Cond.laysStatic C n d).before args s = true := by
  obtain ⟨c, k, i, f, a, cell, h1, h2, h3, h4, h5, h6, h7, h8, h9, -⟩ := h
  show (Cond.laysStatic C n d).holds args s none s [] = true
  exact Cond.laysStatic_of h1 h2 h3 h4 h5 h6 h7 h8 h9
/-- .. and what it holds: null or some reference -/
def vx_Zq (C n d : String) (A : Nat → Prop) (U : State) (H : Heap) : Prop := va_Zq C n d A U H ∧ vx_L C n d A U H
theorem vx_Zq.moved {C n d : String} {A : Nat → Prop} {u U : State} {H : Heap} (hvm : u.vm.Alike U.vm) (h : vx_Zq C n d A u H) : vx_Zq C n d A U H := ⟨va_Zq.moved hvm h.1, vx_L.moved hvm h.2⟩
theorem vx_Zq.kept {C n d : String} {A : Nat → Prop} {U : State} {H H1 : Heap} (h : vx_Zq C n d A U H) (hq : ∀ a : Nat, a < H.size → ¬ A a → H1[a]? = H[a]?) : vx_Zq C n d A U H1 := ⟨va_Zq.kept h.1 hq, vx_L.kept h.2 hq⟩
theorem vx_Zq.narrow {C n d : String} {A B : Nat → Prop} {U : State} {H : Heap} (h : vx_Zq C n d A U H) (hAB : ∀ q, B q → A q) : vx_Zq C n d B U H := ⟨va_Zq.narrow h.1 hAB, vx_L.narrow h.2 hAB⟩
theorem vx_Zqof {args : Array Value} {s : State} {C n d : String} {A : Nat → Prop} (hl : (Cond.laysStatic C n d).before args s = true) (hini : (Cond.initialized C).before args s = true) (h : (Cond.isRef (.static C n d)).before args s = true) (hA : ∀ a : Nat, a < s.heap.size → ¬ A a) : vx_Zq C n d A s s.heap := by
  refine ⟨va_Zqof hl hini h hA, ?_⟩
  obtain ⟨c, k, i, f, a, cell, h1, h2, h3, h4, h5, h6, h7, h8, h9⟩ := Cond.laysStatic_spec hl
  exact ⟨c, k, i, f, a, cell, h1, h2, h3, h4, h5, h6, h7, h8, h9, hA a (Array.getElem?_eq_some_iff.mp h5).1⟩
theorem vx_isRef {C n d : String} {v : Value} {A : Nat → Prop} {s : State} {args : Array Value} (h : va_Z C n d v A s s.heap) (hv : v.isRef = true) : (Cond.isRef (.static C n d)).before args s = true := by
  obtain ⟨cf, kf, fi, f, a, cell, h1, h2, h3, h4, h5, h6, h7, -⟩ := h
  have he : (Term.static C n d).eval args s none [] s = some v := by
    simp [Term.eval, State.fieldNamed?, h1, h2, h4, h5, h6, h7]
  simp only [Cond.before, Cond.holds, Cond.value, he]
  cases v <;> simp_all [Value.isRef]
theorem vx_isRefq {C n d : String} {A : Nat → Prop} {s : State} {args : Array Value} (h : va_Zq C n d A s s.heap) : (Cond.isRef (.static C n d)).before args s = true := by
  rcases h with h | ⟨t, h⟩
  · exact vx_isRef h rfl
  · exact vx_isRef h rfl
/-- the same frame, seen from here: as if the method were called anew in this heap -/
theorem vx_rebase {T : State} (X : Stand p l e R s m args below meth c T locs cells slots) {R' : Room} (hf : R'.frames ≤ R.frames) (hl : R'.locals ≤ R.locals) (hc : cells + R'.cells ≤ R.cells) (hs : slots + R'.slots ≤ R.slots) :
    Stand p l e R' ((T.setVm s.vm).setFrames (.invoking m args :: below)) m args below meth c T [] 0 0 := by
  have htop : (T.setVm s.vm).topJava?.isSome := X.here.top
  have hF : ((T.setVm s.vm).setFrames (.invoking m args :: below)).frames = .invoking m args :: below := State.frames_setFrames _ (State.cur_lt_of_top htop)
  obtain ⟨g₀, hg0⟩ := Option.isSome_iff_exists.mp htop
  obtain ⟨r, hr⟩ := State.topJava?_eq_some.mp hg0
  have hl9 : e.platform.stackLimits (T.setVm s.vm).me = e.platform.stackLimits s.me := X.limits
  have hb9 : (T.setVm s.vm).me.stackBytes = s.me.stackBytes := X.bytes
  refine ⟨X.admits, X.cas, X.clock, hF, ?_, X.hears, X.method, X.code, X.here, X.tail, X.warmed, ?_, ?_, ?_⟩
  · have h := X.room
    have hU : ((T.setVm s.vm).setFrames (.invoking m args :: below)).localsInUse = s.localsInUse := by
      rw [State.localsInUse_invoking hF (meth := meth) (c := c) X.method X.code, State.localsInUse_invoking X.frames X.method X.code]
    simp only [State.hasRoom, Bool.and_eq_true, decide_eq_true_eq] at h ⊢
    obtain ⟨⟨⟨⟨h1, h2, h3, h4, h5, h6⟩, h7⟩, h8⟩, h9⟩ := h
    rw [X.frames, List.length_cons] at h2 h3
    have q1 := X.heapSize
    have q2 := X.used
    simp only [hF, hU, List.length_cons, State.stackLimits_setFrames, State.stackBytes_setFrames, hl9, hb9]
    refine ⟨⟨⟨⟨by omega, by omega, by omega, by omega, by omega, h6⟩, ?_⟩, ?_⟩, X.book⟩
    · show T.heap.size + R'.cells ≤ e.platform.maxCells
      omega
    · show T.slotsUsed + R'.slots ≤ e.platform.maxSlots
      omega
  · rw [State.stackLimits_setFrames]; rfl
  · rw [State.stackBytes_setFrames]; rfl
  · refine ⟨?_, Nat.le_refl _, Nat.le_refl _, ?_, ?_, fun a c9 h9 => ⟨c9, h9, rfl, rfl, fun _ _ => rfl⟩⟩
    · obtain ⟨t, ht, -⟩ := State.frames_cons hr
      show T.setVm s.vm = { ((T.setVm s.vm).setFrames (.invoking m args :: below)).setFrames (T.setVm s.vm).frames with heap := T.heap, slotsUsed := T.slotsUsed }
      rw [State.setFrames_setFrames, State.setFrames_self ht]
      rfl
    · show T.slotsUsed = T.slotsUsed + ((T.heap.toList.drop T.heap.size).map (·.slots.size)).sum
      rw [List.drop_eq_nil_of_le (Nat.le_of_eq Array.length_toList)]
      rfl
    · show ((T.heap.toList.drop T.heap.size).map (·.slots.size)).sum ≤ 0
      rw [List.drop_eq_nil_of_le (Nat.le_of_eq Array.length_toList)]
      exact Nat.le_refl _
/-- 'throw new E()': new; dup; invokespecial; athrow -/
theorem vx_throw0 {cc : ByteArray} {pc : Nat} (hexec : p.tables.exec = Jvm.exec) (hb : c.code = cc) (hl : l.stackTraces = false) {own cls : String} {names : List String} {ik ic mc ms : Nat} {A : Nat → Prop}
    (hown : s.vm.findClass own = some m.cls) (hcls : Bundle.fit cls = true) (hnames : ∀ n ∈ names, Bundle.fit n = true)
    (hk : (Cond.classLink own ik cls).before args s = true) (hini : (Cond.initialized cls).before args s = true) (hat : ∀ w ∈ vx_at0 own ic cls names, w.before args s = true)
    (hgood : ∀ w ∈ Cond.classLink own ik cls :: Cond.initialized cls :: vx_at0 own ic cls names, vx_ot w = true)
    (hU : vx_Zq Bundle.tN "UNASSIGNED_STACK" Bundle.steD A s s.heap) (hN : vx_Zq Bundle.tN "SUPPRESSED_SENTINEL" Bundle.listD A s s.heap) (hS : va_S A s.heap H locs) (hsize : ls.size = c.maxLocals)
    (d0 : decode cc pc = .ok (.new ik, 3)) (d3 : decode cc (pc + 3) = .ok (.dup, 1)) (d4 : decode cc (pc + 4) = .ok (.invokespecial ic, 3)) (d7 : decode cc (pc + 7) = .ok (.athrow, 1))
    (hout : ∀ x ∈ c.exceptionTable.toList, covers x (pc + 7) = false)
    (hRframes : names.length + 3 < R.frames) (hRlocals : (rest.map fun v => v.category).sum + (13 * (names.length + 1) + 42) ≤ R.locals) (hRcells : cells + 1 ≤ R.cells) (hRslots : slots + 6 ≤ R.slots) (hlocks : meth.locks = false)
    (hx : ∀ t : State, s.vm.Alike t.vm → H.size ≤ t.heap.size → (∀ q : Nat, q < H.size → t.heap[q]? = H[q]?) → XC cls s t)
    (hf : ∀ z ∈ locs, free z.base) (hc : cells + 1 ≤ mc) (hs : slots + 6 ≤ ms) :
    W p l e R s m args below meth c H locs cells slots (vx_MQ below Qc XC args s mc ms free) (F0 m pc ls rest) := by
  intro T hT X
  have htr : e.platform.stackTraces = false := (show e.platform.stackTraces = l.stackTraces by rw [X.admits.platform]).trans hl
  have Y := vx_rebase X (R' := { frames := R.frames, locals := R.locals, cells := 1, slots := 6 }) (Nat.le_refl _) (Nat.le_refl _) hRcells hRslots
  obtain ⟨s', hA⟩ : ∃ z, z = (T.setVm s.vm).setFrames (.invoking m args :: below) := ⟨_, rfl⟩
  rw [← hA] at Y
  have hvm : s'.vm = s.vm := by rw [hA]; rfl
  have hhp : s'.heap = H := by rw [hA]; exact hT
  have hW0 : s.WarmedH s'.vm := by rw [hvm]; exact State.WarmedH.refl s
  have hat' : ∀ w ∈ vx_at0 own ic cls names, w.before args s' = true := fun w hw => vx_ot_at hW0 hvm.symm (hgood w (List.mem_cons_of_mem _ (List.mem_cons_of_mem _ hw))) (hat w hw)
  have hk' : (Cond.classLink own ik cls).before args s' = true := vx_ot_at hW0 hvm.symm (hgood _ List.mem_cons_self) hk
  have hini' : (Cond.initialized cls).before args s' = true := vx_ot_at hW0 hvm.symm (hgood _ (List.mem_cons_of_mem _ List.mem_cons_self)) hini
  have hU' : vx_Zq Bundle.tN "UNASSIGNED_STACK" Bundle.steD A s' s'.heap := by rw [hhp]; exact vx_Zq.moved hW0.alike (hU.kept hS.2.1)
  have hN' : vx_Zq Bundle.tN "SUPPRESSED_SENTINEL" Bundle.listD A s' s'.heap := by rw [hhp]; exact vx_Zq.moved hW0.alike (hN.kept hS.2.1)
  have h : ∀ w ∈ Bundle.ownAtoms0 own ic cls names, w.before args s' = true := vx_own hat' (vx_isRefq hU'.1) (vx_isRefq hN'.1) hU'.2.word hN'.2.word
  have hown' : s'.vm.findClass own = some m.cls := by rw [hvm]; exact hown
  have hins : (Cond.instantiable cls 6).before args s' = true := h _ (by simp [Bundle.ownAtoms0])
  obtain ⟨vm₁, cX, kX, hfX, hkX, -, -, X₁, st1⟩ := Y.newCold hexec (own := own) (C := cls) (index := ik) (n := 6) hown' hk' hins hini'
    (g := F0 m pc ls rest) rfl (by rw [hb]; exact d0) (Nat.le_refl _) (Nat.le_refl _)
  generalize hT1 : (T.setVm vm₁).pushCell { cls := cX, slots := kX.instanceTypes.map defaultValue, vm := .none } = T1 at X₁ st1
  have hcat : (Value.ref T.heap.size).category = 1 := rfl
  have hcellA : T1.heap[T.heap.size]? = some (freshCell cX kX) := by rw [← hT1]; exact State.heap_pushCell_size _ _
  have d3' : decode c.code (pc + 3) = .ok (.dup, 1) := by rw [hb]; exact d3
  obtain ⟨U, hsteps, hrun, hend, hW, hsame, ce, hce, hO⟩ := X₁.ctorThrow0 hexec htr (own := own) (cls := cls) (names := names) (ic := ic) hown' hcls hnames h (fun x hx => nomatch hx) hfX hkX hcellA (by rw [hhp, hT]; exact Nat.le_refl _)
    (g := { method := m, pc := pc + 4, locals := ls, stack := .ref T.heap.size :: .ref T.heap.size :: rest, locked := none }) rfl hsize rfl rfl (rest := rest) rfl
    (by rw [hb]; exact d4) (by rw [hb]; exact d7) hout hRframes (by simp only [List.map_cons, List.sum_cons, hcat]; omega) hlocks
  obtain ⟨f1, f2⟩ := vx_frame hsame
  rw [hhp] at f1 f2
  have hWs : s.WarmedH U.vm := State.WarmedH.trans hW0 hW
  have hcl : s.vm.findClass cls = some ce.cls := by
    have h9 := hO.cls
    rw [hvm] at h9
    exact h9
  have hall : s.sameButNew ({ U with vm := s.vm } : State) locs mc ms := by
    subst hA
    obtain ⟨e1, e2⟩ := hsame
    rw [State.setFrames_setFrames] at e1
    have h2 : (T.setVm s.vm).sameButNew ({ U with vm := s.vm } : State) [] (0 + 1) (0 + 6) := ⟨e1, e2⟩
    have h3 := X.same.trans h2
    rw [List.append_nil] at h3
    exact h3.mono hc hs
  refine ⟨U, ?_, .threw T.heap.size, hrun, hend, Or.inr ⟨T.heap.size, rfl, cls, ce, locs, hx U hWs.alike f1 (fun q hq => f2 q hq (fun z hz => nomatch hz)), hce, hO.vm, hcl, hWs, hall, hf⟩⟩
  refine st1 _ ?_
  show Steps p.tables e below (T1.setTop { method := m, pc := pc + 3, locals := ls, stack := .ref T.heap.size :: rest, locked := none }) _
  jvm_step X₁.here [X₁.here.top, hexec, d3', Value.category]
  exact hsteps
/-- 'throw new E("text")': new; dup; ldc; invokespecial; athrow -/
theorem vx_throwS {cc : ByteArray} {pc : Nat} (hexec : p.tables.exec = Jvm.exec) (hb : c.code = cc) (hl : l.stackTraces = false) {own cls text : String} {names : List String} {ik is ic mc ms sa : Nat} {A : Nat → Prop}
    (hown : s.vm.findClass own = some m.cls) (hcls : Bundle.fit cls = true) (hnames : ∀ n ∈ names, Bundle.fit n = true)
    (hk : (Cond.classLink own ik cls).before args s = true) (hini : (Cond.initialized cls).before args s = true) (hstr : vk_R own is text sa s) (hat : ∀ w ∈ vx_atS own ic cls names, w.before args s = true)
    (hgood : ∀ w ∈ Cond.classLink own ik cls :: Cond.initialized cls :: vx_atS own ic cls names, vx_ot w = true)
    (hU : vx_Zq Bundle.tN "UNASSIGNED_STACK" Bundle.steD A s s.heap) (hN : vx_Zq Bundle.tN "SUPPRESSED_SENTINEL" Bundle.listD A s s.heap) (hS : va_S A s.heap H locs) (hsize : ls.size = c.maxLocals)
    (d0 : decode cc pc = .ok (.new ik, 3)) (d3 : decode cc (pc + 3) = .ok (.dup, 1)) (d4 : decode cc (pc + 4) = .ok (.ldc is, 2)) (d6 : decode cc (pc + 6) = .ok (.invokespecial ic, 3)) (d9 : decode cc (pc + 9) = .ok (.athrow, 1))
    (hout : ∀ x ∈ c.exceptionTable.toList, covers x (pc + 9) = false)
    (hRframes : names.length + 3 < R.frames) (hRlocals : (rest.map fun v => v.category).sum + (13 * (names.length + 1) + 43) ≤ R.locals) (hRcells : cells + 1 ≤ R.cells) (hRslots : slots + 6 ≤ R.slots) (hlocks : meth.locks = false)
    (hx : ∀ t : State, s.vm.Alike t.vm → H.size ≤ t.heap.size → (∀ q : Nat, q < H.size → t.heap[q]? = H[q]?) → XC cls s t)
    (hf : ∀ z ∈ locs, free z.base) (hc : cells + 1 ≤ mc) (hs : slots + 6 ≤ ms) :
    W p l e R s m args below meth c H locs cells slots (vx_MQ below Qc XC args s mc ms free) (F0 m pc ls rest) := by
  intro T hT X
  have htr : e.platform.stackTraces = false := (show e.platform.stackTraces = l.stackTraces by rw [X.admits.platform]).trans hl
  have Y := vx_rebase X (R' := { frames := R.frames, locals := R.locals, cells := 1, slots := 6 }) (Nat.le_refl _) (Nat.le_refl _) hRcells hRslots
  obtain ⟨s', hA⟩ : ∃ z, z = (T.setVm s.vm).setFrames (.invoking m args :: below) := ⟨_, rfl⟩
  rw [← hA] at Y
  have hvm : s'.vm = s.vm := by rw [hA]; rfl
  have hhp : s'.heap = H := by rw [hA]; exact hT
  have hW0 : s.WarmedH s'.vm := by rw [hvm]; exact State.WarmedH.refl s
  have hat' : ∀ w ∈ vx_atS own ic cls names, w.before args s' = true := fun w hw => vx_ot_at hW0 hvm.symm (hgood w (List.mem_cons_of_mem _ (List.mem_cons_of_mem _ hw))) (hat w hw)
  have hk' : (Cond.classLink own ik cls).before args s' = true := vx_ot_at hW0 hvm.symm (hgood _ List.mem_cons_self) hk
  have hini' : (Cond.initialized cls).before args s' = true := vx_ot_at hW0 hvm.symm (hgood _ (List.mem_cons_of_mem _ List.mem_cons_self)) hini
  have hU' : vx_Zq Bundle.tN "UNASSIGNED_STACK" Bundle.steD A s' s'.heap := by rw [hhp]; exact vx_Zq.moved hW0.alike (hU.kept hS.2.1)
  have hN' : vx_Zq Bundle.tN "SUPPRESSED_SENTINEL" Bundle.listD A s' s'.heap := by rw [hhp]; exact vx_Zq.moved hW0.alike (hN.kept hS.2.1)
  have h : ∀ w ∈ Bundle.ownAtoms own ic cls names, w.before args s' = true := vx_own hat' (vx_isRefq hU'.1) (vx_isRefq hN'.1) hU'.2.word hN'.2.word
  have hown' : s'.vm.findClass own = some m.cls := by rw [hvm]; exact hown
  have hins : (Cond.instantiable cls 6).before args s' = true := h _ (by simp [Bundle.ownAtoms])
  obtain ⟨vm₁, cX, kX, hfX, hkX, -, -, X₁, st1⟩ := Y.newCold hexec (own := own) (C := cls) (index := ik) (n := 6) hown' hk' hins hini'
    (g := F0 m pc ls rest) rfl (by rw [hb]; exact d0) (Nat.le_refl _) (Nat.le_refl _)
  generalize hT1 : (T.setVm vm₁).pushCell { cls := cX, slots := kX.instanceTypes.map defaultValue, vm := .none } = T1 at X₁ st1
  have hcat : (Value.ref T.heap.size).category = 1 := rfl
  have hcellA : T1.heap[T.heap.size]? = some (freshCell cX kX) := by rw [← hT1]; exact State.heap_pushCell_size _ _
  have d3' : decode c.code (pc + 3) = .ok (.dup, 1) := by rw [hb]; exact d3
  have d4' : decode c.code (pc + 4) = .ok (.ldc is, 2) := by rw [hb]; exact d4
  have hstr' : vk_R own is text sa s' := vk_R.warm hW0 hstr
  obtain ⟨U, hsteps, hrun, hend, hW, hsame, ce, hce, hO⟩ := X₁.ctorThrowS hexec htr (own := own) (cls := cls) (names := names) (ic := ic) hown' hcls hnames h (fun x hx => nomatch hx) hfX hkX hcellA (by rw [hhp, hT]; exact Nat.le_refl _) (msg := .ref sa) rfl
    (g := { method := m, pc := pc + 6, locals := ls, stack := .ref sa :: .ref T.heap.size :: .ref T.heap.size :: rest, locked := none }) rfl hsize rfl rfl (rest := rest) rfl
    (by rw [hb]; exact d6) (by rw [hb]; exact d9) hout hRframes (by simp only [List.map_cons, List.sum_cons, hcat]; omega) hlocks
  obtain ⟨f1, f2⟩ := vx_frame hsame
  rw [hhp] at f1 f2
  have hWs : s.WarmedH U.vm := State.WarmedH.trans hW0 hW
  have hcl : s.vm.findClass cls = some ce.cls := by
    have h9 := hO.cls
    rw [hvm] at h9
    exact h9
  have hall : s.sameButNew ({ U with vm := s.vm } : State) locs mc ms := by
    subst hA
    obtain ⟨e1, e2⟩ := hsame
    rw [State.setFrames_setFrames] at e1
    have h2 : (T.setVm s.vm).sameButNew ({ U with vm := s.vm } : State) [] (0 + 1) (0 + 6) := ⟨e1, e2⟩
    have h3 := X.same.trans h2
    rw [List.append_nil] at h3
    exact h3.mono hc hs
  refine ⟨U, ?_, .threw T.heap.size, hrun, hend, Or.inr ⟨T.heap.size, rfl, cls, ce, locs, hx U hWs.alike f1 (fun q hq => f2 q hq (fun z hz => nomatch hz)), hce, hO.vm, hcl, hWs, hall, hf⟩⟩
  refine st1 _ ?_
  show Steps p.tables e below (T1.setTop { method := m, pc := pc + 3, locals := ls, stack := .ref T.heap.size :: rest, locked := none }) _
  jvm_step X₁.here [X₁.here.top, hexec, d3', Value.category]
  exact X₁.ldcString hexec (own := own) (text := text) (index := is) (a := sa) hown' hstr'.1 hstr'.2
    (g := { method := m, pc := pc + 4, locals := ls, stack := .ref T.heap.size :: .ref T.heap.size :: rest, locked := none }) rfl d4' _ hsteps
/-- 'throw new E("text")', the text by a wide index -/
theorem vx_throwSW {cc : ByteArray} {pc : Nat} (hexec : p.tables.exec = Jvm.exec) (hb : c.code = cc) (hl : l.stackTraces = false) {own cls text : String} {names : List String} {ik is ic mc ms sa : Nat} {A : Nat → Prop}
    (hown : s.vm.findClass own = some m.cls) (hcls : Bundle.fit cls = true) (hnames : ∀ n ∈ names, Bundle.fit n = true)
    (hk : (Cond.classLink own ik cls).before args s = true) (hini : (Cond.initialized cls).before args s = true) (hstr : vk_R own is text sa s) (hat : ∀ w ∈ vx_atS own ic cls names, w.before args s = true)
    (hgood : ∀ w ∈ Cond.classLink own ik cls :: Cond.initialized cls :: vx_atS own ic cls names, vx_ot w = true)
    (hU : vx_Zq Bundle.tN "UNASSIGNED_STACK" Bundle.steD A s s.heap) (hN : vx_Zq Bundle.tN "SUPPRESSED_SENTINEL" Bundle.listD A s s.heap) (hS : va_S A s.heap H locs) (hsize : ls.size = c.maxLocals)
    (d0 : decode cc pc = .ok (.new ik, 3)) (d3 : decode cc (pc + 3) = .ok (.dup, 1)) (d4 : decode cc (pc + 4) = .ok (.ldc_w is, 3)) (d7 : decode cc (pc + 7) = .ok (.invokespecial ic, 3)) (d10 : decode cc (pc + 10) = .ok (.athrow, 1))
    (hout : ∀ x ∈ c.exceptionTable.toList, covers x (pc + 10) = false)
    (hRframes : names.length + 3 < R.frames) (hRlocals : (rest.map fun v => v.category).sum + (13 * (names.length + 1) + 43) ≤ R.locals) (hRcells : cells + 1 ≤ R.cells) (hRslots : slots + 6 ≤ R.slots) (hlocks : meth.locks = false)
    (hx : ∀ t : State, s.vm.Alike t.vm → H.size ≤ t.heap.size → (∀ q : Nat, q < H.size → t.heap[q]? = H[q]?) → XC cls s t)
    (hf : ∀ z ∈ locs, free z.base) (hc : cells + 1 ≤ mc) (hs : slots + 6 ≤ ms) :
    W p l e R s m args below meth c H locs cells slots (vx_MQ below Qc XC args s mc ms free) (F0 m pc ls rest) := by
  intro T hT X
  have htr : e.platform.stackTraces = false := (show e.platform.stackTraces = l.stackTraces by rw [X.admits.platform]).trans hl
  have Y := vx_rebase X (R' := { frames := R.frames, locals := R.locals, cells := 1, slots := 6 }) (Nat.le_refl _) (Nat.le_refl _) hRcells hRslots
  obtain ⟨s', hA⟩ : ∃ z, z = (T.setVm s.vm).setFrames (.invoking m args :: below) := ⟨_, rfl⟩
  rw [← hA] at Y
  have hvm : s'.vm = s.vm := by rw [hA]; rfl
  have hhp : s'.heap = H := by rw [hA]; exact hT
  have hW0 : s.WarmedH s'.vm := by rw [hvm]; exact State.WarmedH.refl s
  have hat' : ∀ w ∈ vx_atS own ic cls names, w.before args s' = true := fun w hw => vx_ot_at hW0 hvm.symm (hgood w (List.mem_cons_of_mem _ (List.mem_cons_of_mem _ hw))) (hat w hw)
  have hk' : (Cond.classLink own ik cls).before args s' = true := vx_ot_at hW0 hvm.symm (hgood _ List.mem_cons_self) hk
  have hini' : (Cond.initialized cls).before args s' = true := vx_ot_at hW0 hvm.symm (hgood _ (List.mem_cons_of_mem _ List.mem_cons_self)) hini
  have hU' : vx_Zq Bundle.tN "UNASSIGNED_STACK" Bundle.steD A s' s'.heap := by rw [hhp]; exact vx_Zq.moved hW0.alike (hU.kept hS.2.1)
  have hN' : vx_Zq Bundle.tN "SUPPRESSED_SENTINEL" Bundle.listD A s' s'.heap := by rw [hhp]; exact vx_Zq.moved hW0.alike (hN.kept hS.2.1)
  have h : ∀ w ∈ Bundle.ownAtoms own ic cls names, w.before args s' = true := vx_own hat' (vx_isRefq hU'.1) (vx_isRefq hN'.1) hU'.2.word hN'.2.word
  have hown' : s'.vm.findClass own = some m.cls := by rw [hvm]; exact hown
  have hins : (Cond.instantiable cls 6).before args s' = true := h _ (by simp [Bundle.ownAtoms])
  obtain ⟨vm₁, cX, kX, hfX, hkX, -, -, X₁, st1⟩ := Y.newCold hexec (own := own) (C := cls) (index := ik) (n := 6) hown' hk' hins hini'
    (g := F0 m pc ls rest) rfl (by rw [hb]; exact d0) (Nat.le_refl _) (Nat.le_refl _)
  generalize hT1 : (T.setVm vm₁).pushCell { cls := cX, slots := kX.instanceTypes.map defaultValue, vm := .none } = T1 at X₁ st1
  have hcat : (Value.ref T.heap.size).category = 1 := rfl
  have hcellA : T1.heap[T.heap.size]? = some (freshCell cX kX) := by rw [← hT1]; exact State.heap_pushCell_size _ _
  have d3' : decode c.code (pc + 3) = .ok (.dup, 1) := by rw [hb]; exact d3
  have d4' : decode c.code (pc + 4) = .ok (.ldc_w is, 3) := by rw [hb]; exact d4
  have hstr' : vk_R own is text sa s' := vk_R.warm hW0 hstr
  obtain ⟨U, hsteps, hrun, hend, hW, hsame, ce, hce, hO⟩ := X₁.ctorThrowS hexec htr (own := own) (cls := cls) (names := names) (ic := ic) hown' hcls hnames h (fun x hx => nomatch hx) hfX hkX hcellA (by rw [hhp, hT]; exact Nat.le_refl _) (msg := .ref sa) rfl
    (g := { method := m, pc := pc + 7, locals := ls, stack := .ref sa :: .ref T.heap.size :: .ref T.heap.size :: rest, locked := none }) rfl hsize rfl rfl (rest := rest) rfl
    (by rw [hb]; exact d7) (by rw [hb]; exact d10) hout hRframes (by simp only [List.map_cons, List.sum_cons, hcat]; omega) hlocks
  obtain ⟨f1, f2⟩ := vx_frame hsame
  rw [hhp] at f1 f2
  have hWs : s.WarmedH U.vm := State.WarmedH.trans hW0 hW
  have hcl : s.vm.findClass cls = some ce.cls := by
    have h9 := hO.cls
    rw [hvm] at h9
    exact h9
  have hall : s.sameButNew ({ U with vm := s.vm } : State) locs mc ms := by
    subst hA
    obtain ⟨e1, e2⟩ := hsame
    rw [State.setFrames_setFrames] at e1
    have h2 : (T.setVm s.vm).sameButNew ({ U with vm := s.vm } : State) [] (0 + 1) (0 + 6) := ⟨e1, e2⟩
    have h3 := X.same.trans h2
    rw [List.append_nil] at h3
    exact h3.mono hc hs
  refine ⟨U, ?_, .threw T.heap.size, hrun, hend, Or.inr ⟨T.heap.size, rfl, cls, ce, locs, hx U hWs.alike f1 (fun q hq => f2 q hq (fun z hz => nomatch hz)), hce, hO.vm, hcl, hWs, hall, hf⟩⟩
  refine st1 _ ?_
  show Steps p.tables e below (T1.setTop { method := m, pc := pc + 3, locals := ls, stack := .ref T.heap.size :: rest, locked := none }) _
  jvm_step X₁.here [X₁.here.top, hexec, d3', Value.category]
  exact X₁.ldcStringW hexec (own := own) (text := text) (index := is) (a := sa) hown' hstr'.1 hstr'.2
    (g := { method := m, pc := pc + 4, locals := ls, stack := .ref T.heap.size :: .ref T.heap.size :: rest, locked := none }) rfl d4' _ hsteps
end Ends
section Bodies
variable {l : Launch}
theorem vx_ofW {y : MethodName} {ws ws' : List Cond} {rm : Room} {Pc : Array Value → State → Prop} {Qc : Array Value → State → Outcome → State → Prop} {XC : String → State → State → Prop} {mc ms : Nat} {free : Addr → Prop} {cc : ByteArray} {maxL : Nat} {ret : Option FieldType}
    (hy : plainName y.cls = true) (hw : ws = Cond.code y cc maxL ret :: ws')
    (body : ∀ p e s m args below meth c s₁, BodyLoose p l y (headSpec ws rm) cc maxL ret e s m args below meth c s₁ → c.maxLocals = maxL → (∀ x ∈ c.exceptionTable.toList, False) → Pc args s →
      W p l e (headSpec ws rm).room s m args below meth c s.heap [] 0 0 (vx_MQ below Qc XC args s mc ms free) (entryFrame m args maxL)) : vx_Met l y ws rm Pc Qc XC mc ms free := by
  refine MetFree.of_bodyS (code := cc) (maxLocals := maxL) (ret := ret) hy ?_ ?_
  · intro args s m h hn
    obtain ⟨meth, c, h1, h2, h3, h4, h5, h6, -, -⟩ := Cond.code_spec hn (atoms_spec (ws := ws) h _ (by rw [hw]; exact List.mem_cons_self))
    exact ⟨meth, c, h1, h2, h3, h4, h5, h6⟩
  · intro p e s m args below meth c s₁ B hml hP _
    have hh0 : s₁.heap = s.heap := by rw [B.state]; rfl
    have ht : ∀ x ∈ c.exceptionTable.toList, False := by
      obtain ⟨meth9, c9, h1, h2, -, -, -, -, h7, -⟩ := Cond.code_spec B.named (atoms_spec (ws := ws) B.pre _ (by rw [hw]; exact List.mem_cons_self))
      cases Option.some.inj (h1.symm.trans B.method)
      cases Option.some.inj (h2.symm.trans (Stand.of_body B).code)
      intro x hx
      rw [Array.isEmpty_iff.mp h7] at hx
      cases hx
    obtain ⟨t, a1, o, b1, b2, b3⟩ := body p e s m args below meth c s₁ B hml ht hP s₁ hh0 (Stand.of_body B)
    exact ⟨t, o, a1, b1, b2, b3⟩
/-- the table of a body with handlers -/
theorem vx_table {p : Program} {x y : MethodName} {S : Spec} {cc bytes : ByteArray} {maxL maxL' : Nat} {ret ret' : Option FieldType} {e : Env} {s s₁ : State} {m : MethodId} {args : Array Value} {below : List Frame} {meth : Method} {c : Code} {hh : List (Nat × Nat × Nat × Nat)}
    (B : BodyLoose p l y S cc maxL ret e s m args below meth c s₁) (h : (Cond.codeWith y bytes maxL' ret' hh).before args s = true) : c.exceptionTable.toList = tableOf hh := by
  obtain ⟨m9, meth9, c9, hn9, h1, h2, -, -, h6, -⟩ := Cond.codeWith_spec h
  cases Option.some.inj (hn9.symm.trans B.named)
  cases Option.some.inj (h1.symm.trans B.method)
  cases Option.some.inj (h2.symm.trans (Stand.of_body B).code)
  rw [← h6, table_eq]
end Bodies
end VXA
/-! ===== END ===== -/
/-! ===== BEGIN a static call of a method with an exception table ===== -/
section VXS
variable {p : Program} {l : Launch} {e : Env} {R : Room} {s : State} {m : MethodId} {args : Array Value} {below : List Frame} {meth : Method} {c : Code} {T : State} {H : Heap} {locs : List Loc} {cells slots : Nat}
abbrev vx_CSW (R : Room) (s : State) (args : Array Value) (own : String) (index : Nat) (y : MethodName) (bytes : ByteArray) (maxL : Nat) (ret : Option FieldType) (hh : List (Nat × Nat × Nat × Nat)) (ws : List Cond) (rm : Room) (mc ms n : Nat) : Prop :=
  (rm.cells = mc ∧ rm.slots = ms ∧ rm.frames + 1 ≤ R.frames ∧ 8 + (maxL + 11) + rm.locals ≤ R.locals ∧ (∀ w ∈ ws, ∀ (a' : Array Value) (U : State), s.WarmedH U.vm → w.before a' U = true) ∧ Cond.codeWith y bytes maxL ret hh ∈ ws) ∧
  (Cond.codeWith y bytes maxL ret hh).before args s = true ∧ (Cond.initialized y.cls).before args s = true ∧ (y.cls ≠ "java/lang/invoke/MethodHandle" ∧ y.cls ≠ "java/lang/invoke/VarHandle") ∧
  (∀ sig, parseMethodDescriptor y.desc = some sig → n = sig.parameters.length) ∧ (Cond.methodLink own index y).before args s = true ∧ (Cond.static y).before args s = true
theorem vx_cwSW {own : String} {index maxL mc ms : Nat} {y : MethodName} {bytes : ByteArray} {ret : Option FieldType} {hh : List (Nat × Nat × Nat × Nat)} {Ts ws ws' : List Cond} {rm : Room} (n : Nat) (ht : ∀ w ∈ Ts, w.before args s = true) (hT : GoodIn Ts (va_wsS own index y ws)) (hw : ws = Cond.codeWith y bytes maxL ret hh :: ws') (hrc : rm.cells = mc) (hrs : rm.slots = ms)
    (hd : y.cls ≠ "java/lang/invoke/MethodHandle" ∧ y.cls ≠ "java/lang/invoke/VarHandle" ∧ (parseMethodDescriptor y.desc).map (fun d => d.parameters.length) = some n) (hR : rm.frames + 1 ≤ R.frames ∧ 8 + (maxL + 11) + rm.locals ≤ R.locals) :
    vx_CSW R s args own index y bytes maxL ret hh ws rm mc ms n := by
  have ok : ∀ w ∈ va_wsS own index y ws, w.before args s = true := fun w h => ht w (hT w h).1
  have hG : GoodIn Ts ws := fun w h => hT w (by unfold va_wsS; exact List.mem_append_right _ h)
  have hc : Cond.codeWith y bytes maxL ret hh ∈ ws := by rw [hw]; exact List.mem_cons_self
  refine ⟨⟨hrc, hrs, hR.1, hR.2, pay_in ht hG, hc⟩, ht _ (hG _ hc).1, ok _ (by simp [va_wsS]), ⟨hd.1, hd.2.1⟩, fun sig h => ?_, ok _ (by simp [va_wsS]), ok _ (by simp [va_wsS])⟩
  have h2 := hd.2.2
  rw [h] at h2
  exact (Option.some.inj h2).symm
theorem vx_callSW (X : Stand p l e R s m args below meth c T locs cells slots) (hexec : p.tables.exec = Jvm.exec) {own : String} {index : Nat} {y : MethodName} {bytes : ByteArray} {maxL : Nat} {ret : Option FieldType} {hh : List (Nat × Nat × Nat × Nat)}
    (hown : s.vm.findClass own = some m.cls) (hlink : (Cond.methodLink own index y).before args s = true) (hstat : (Cond.static y).before args s = true) (hinit : (Cond.initialized y.cls).before args s = true)
    (hcode : (Cond.codeWith y bytes maxL ret hh).before args s = true) (hy : y.cls ≠ "java/lang/invoke/MethodHandle" ∧ y.cls ≠ "java/lang/invoke/VarHandle")
    {W9 : Nat} {Pre : Pt → Array Value → Prop} {Post : Pt → Array Value → Option Value → Pt → Prop} (hK : Back l R p e below s args y 3 W9 Pre Post)
    {g : JFrame} (hg : g.method = m) (hsize : g.locals.size = c.maxLocals) {argsL rest : List Value} (hlen : ∀ sig, parseMethodDescriptor y.desc = some sig → argsL.length = sig.parameters.length)
    (hstack : g.stack = argsL.reverse ++ rest) (hW : 2 * g.monitorRoom + (rest.map fun v => v.category).sum ≤ W9) (hdg : decode c.code g.pc = .ok (.invokestatic index, 3))
    (hpre : ∀ vm₁, s.WarmedH vm₁ → Pre ⟨T.setVm vm₁, locs, cells, slots⟩ argsL.toArray) :
    ∃ (v : Option Value) (vm₁ : Vm) (B : Pt), s.WarmedH vm₁ ∧ Stand p l e R s m args below meth c B.U B.locs B.cells B.slots ∧ Post ⟨T.setVm vm₁, locs, cells, slots⟩ argsL.toArray v B ∧
      ∀ target, Steps p.tables e below (B.U.setTop { g with pc := g.pc + 3, stack := v.toList ++ rest }) target → Steps p.tables e below (T.setTop g) target := by
  obtain ⟨mk, methM, cM, hnamed, hmethM, -, -, -, -, -, -, hsigM⟩ := Cond.codeWith_spec hcode
  have hstatic : methM.isStatic = true := Cond.static_spec hnamed hmethM hstat
  obtain ⟨kP, hkP, -⟩ := className_of_methodNamed hnamed
  have hinitP : kP.init = .initialized := Cond.initialized_spec (findClass_of_methodNamed hnamed) hkP hinit
  obtain ⟨vm₁, X₁, hstep₁⟩ := X.invokestatic hexec hown hlink hnamed hmethM hstatic hkP hinitP hy (g := g) hg (argsL := argsL) (rest := rest) (hlen _ hsigM) hstack hdg
  obtain ⟨v, B, X', hpost, hsteps⟩ := hK m meth c ⟨T.setVm vm₁, locs, cells, slots⟩ { g with stack := rest } (.invokestatic index) mk argsL.toArray X₁ hg hsize hdg hW (X₁.named hnamed) (hpre vm₁ X₁.warmed)
  exact ⟨v, vm₁, B, X₁.warmed, X', hpost, fun target h => hstep₁ _ fun acts => by rw [doInvoke_state]; exact hsteps.trans h⟩
theorem vx_runSW {y : MethodName} {bytes cc : ByteArray} {maxL nL mc ms n index : Nat} {ret : Option FieldType} {hh : List (Nat × Nat × Nat × Nat)} {ws : List Cond} {rm : Room} {Pc : Array Value → State → Prop} {Qc : Array Value → State → Outcome → State → Prop} {free : Addr → Prop} {Ts : List Cond} {own : String} {As rest : List Value} {g : JFrame}
    (S : CallFix p m c cc nL s args Ts own) (hM : Met l y ws rm Pc Qc mc ms free) (cw : vx_CSW R s args own index y bytes maxL ret hh ws rm mc ms n) (hp : PreS s H Pc As)
    (hg : g.method = m) (hn : As.length = n) (hsize : g.locals.size = nL) (hstack : g.stack = As.reverse ++ rest) (hW : 2 * g.monitorRoom + (rest.map fun v => v.category).sum ≤ 8) (hdg : decode cc g.pc = .ok (.invokestatic index, 3)) (hf : cells + mc ≤ R.cells ∧ slots + ms ≤ R.slots) :
    va_Run p l e R s m args below meth c H locs cells slots mc ms g rest (Qc As.toArray) (free) := by
  obtain ⟨⟨hrc, hrs, hfr, hlo, hws, hcw⟩, hcode, hini, hy, hlen, hl, hstt⟩ := cw
  have hK : Back l R p e below s args y 3 8 (PreOf R mc ms Pc) (PostOf Qc mc ms free) := va_backW (hh := hh) (bytes := bytes) (maxL := maxL) (ret := ret) hM hp.1 hrc hrs hfr hlo hws hcw (fun a' U hW => word_at hW (Or.inl (by first | rfl | simp [Cond.onTables, Cond.keeps, Cond.steady])) hini)
  obtain ⟨hx, hb, hml, ho, -⟩ := S
  intro T hT X
  obtain ⟨v, vm₁, ⟨U', l2, c2, s2⟩, hW₁, X', ⟨g', mk, t, L, e1, e2, hq, h1, hL, h2, h3⟩, st⟩ := vx_callSW X hx (hh := hh) (bytes := bytes) (maxL := maxL) (ret := ret) ho hl hstt hini hcode hy hK hg (hsize.trans hml.symm) (argsL := As) (rest := rest) (fun sig h => hn.trans (hlen sig h)) hstack hW (by rw [hb]; exact hdg)
    (fun vm₁ hW₁ => ⟨hf.1, hf.2, hp.2 (T.setVm vm₁) hT hW₁⟩)
  dsimp only [Pt.U, Pt.locs, Pt.cells, Pt.slots] at X' e1 e2 h1 h2 h3 st
  subst h1; subst h2; subst h3
  exact ⟨v, (T.setVm vm₁).calling g' mk As.toArray, t, U', L, hT, X', hL, e1, e2, hq, st⟩
/-- not caught here, past rows that name other classes: it goes on to the caller -/
theorem vx_outP {p : Program} {l : Launch} {e : Env} {R : Room} {s : State} {m : MethodId} {args : Array Value} {below : List Frame} {meth : Method} {c : Code} {H : Heap} {locs : List Loc} {cells slots : Nat} {free : Addr → Prop} {ls : Array Slot} {rest : List Value} {Qc : Array Value → State → Outcome → State → Prop} {XC : String → State → State → Prop}
    {pc : Nat} {own E : String} {ce : Cell} {q : Addr} {mc ms : Nat} (hown : s.vm.findClass own = some m.cls) (hlocks : meth.locks = false)
    (hpass : ∀ z ∈ c.exceptionTable.toList, covers z pc = false ∨ (z.catchType ≠ 0 ∧ ∃ nm : String, (Cond.classLink own z.catchType nm).before args s = true ∧ va_Nc E nm s)) (hcell : H[q]? = some ce) (hv : ce.vm = .none) (hcl : s.vm.findClass E = some ce.cls)
    (hx : ∀ t : State, t.heap = H → s.vm.Alike t.vm → XC E s t) (hf : ∀ z ∈ locs, free z.base) (hc : cells ≤ mc) (hs : slots ≤ ms) :
    vx_W p l e R s m args below meth c H locs cells slots (vx_MQ below Qc XC args s mc ms free) (F0 m pc ls rest) q := by
  intro T hT X
  have hpl : e.platform.magicAccessors = ({} : Platform).magicAccessors := by rw [X.admits.platform]
  obtain ⟨vm', hW', X', st⟩ := X.outThrough hlocks q (g := F0 m pc ls rest) rfl rfl rfl (cell := ce) (by rw [hT]; exact hcell) (by rw [hv]; rfl)
    (by obtain ⟨k9, h9, -⟩ := Vm.findClass_spec hcl; exact ⟨k9, h9⟩) (fun z hz => by
      rcases hpass z hz with h | ⟨hz0, nm, hl1, hn1⟩
      · exact Or.inl h
      · obtain ⟨c6, hc6, hcl6⟩ := Cond.classLink_spec hown hl1 e.platform hpl
        obtain ⟨a8, b8, h1, h2, h3⟩ := hn1
        cases Option.some.inj (h1.symm.trans hcl)
        cases Option.some.inj (h2.symm.trans hc6)
        exact Or.inr ⟨hz0, _, hcl6, h3⟩)
  obtain ⟨g₀, hfr⟩ := X'.frames_eq
  have hcell9 : ((T.setVm vm').setFrames (.throwing q :: below)).heap[q]? = some ce := by
    show T.heap[q]? = some ce
    rw [hT]; exact hcell
  have hend : Ended ((T.setVm vm').setFrames (.throwing q :: below)) below (.threw q) := State.frames_setFrames _ (State.cur_lt_of_frames hfr)
  refine ⟨(T.setVm vm').setFrames (.throwing q :: below), ?_, .threw q, X'.here.running, hend, Or.inr ⟨q, rfl, E, ce, locs, hx _ hT (X'.ends _).1.alike, hcell9, hv, hcl, (X'.ends _).1, (X'.ends _).2.mono hc hs, hf⟩⟩
  rw [X.pushThrowing_eq]
  exact st
/-- a thing of a world lies in the heap -/
theorem vx_lt {D : va_G} {cl : List vw_C} {ws : va_W} {H1 : Heap} (h : va_P D cl ws H1) {k : Nat} {q : Nat × va_E} (hk : ws[k]? = some q) : q.1 < H1.size := (h k q hk).lt
end VXS
/-! ===== END ===== -/
/-! ===== BEGIN methods with a table of their own: called by a name, returning or throwing ===== -/
section VXH
/-! vx_backW, vx_callVX, vx_callSX, vx_callVW, vx_runVW, vx_runVX, vx_runSX, vx_ofWH follow the same proofs as their sisters above (Free/Laws.lean, Shelf42/LK1.lean); vx_outP calls Shelf42/NT130.lean (outThrough). -/
section
variable {l : Launch} {R : Room} {p : Program} {e : Env} {below : List Frame} {s : State} {sargs : Array Value} {y : MethodName} {len W9 : Nat}
theorem vx_backW {ws : List Cond} {rm : Room} {Pc : Array Value → State → Prop} {Qc : Array Value → State → Outcome → State → Prop} {XC : String → State → State → Prop} {mc ms : Nat} {free : Addr → Prop} {bytes : ByteArray} {maxL : Nat} {ret : Option FieldType} {hh : List (Nat × Nat × Nat × Nat)}
    (hM : vx_Met l y ws rm Pc Qc XC mc ms free) (hblind : FrameBlind Pc) (hrc : rm.cells = mc) (hrs : rm.slots = ms)
    (hframes : rm.frames + 1 ≤ R.frames) (hlocals : W9 + (maxL + 11) + rm.locals ≤ R.locals)
    (hws : ∀ w ∈ ws, ∀ a' U, s.WarmedH U.vm → w.before a' U = true) (hcode : Cond.codeWith y bytes maxL ret hh ∈ ws) (hinit : ∀ a' U, s.WarmedH U.vm → (Cond.initialized y.cls).before a' U = true) :
    vx_Back l R p e below s sargs y len W9 (PreOf R mc ms Pc) (PostOf Qc mc ms free) (vx_Post XC mc ms free) := by
  intro m meth c A g ig mk a X hg hsize hdg hW hn hp
  have h1 : (headSpec ws rm).pre.before a A.U = true := atoms_intro fun w hw => hws w hw _ _ X.warmed
  have h2 : (Cond.codeWith y bytes maxL ret hh).before a A.U = true := hws _ hcode _ _ X.warmed
  have h3 : (Cond.initialized y.cls).before a A.U = true := hinit _ _ X.warmed
  have h4 : A.cells + (headSpec ws rm).room.cells ≤ R.cells := by rw [show (headSpec ws rm).room.cells = mc from hrc]; exact hp.1
  have h5 : A.slots + (headSpec ws rm).room.slots ≤ R.slots := by rw [show (headSpec ws rm).room.slots = ms from hrs]; exact hp.2.1
  have hPc : Pc a (A.U.calling g mk a) := hblind _ _ _ _ hp.2.2
  obtain ⟨U, Ls, c0, s0⟩ := A
  dsimp only [Pt.U, Pt.locs, Pt.cells, Pt.slots] at h1 h2 h3 h4 h5 X hn hPc ⊢
  obtain ⟨m9, methY, cY, hn9, hmY, hcY, -, hlY, -⟩ := Cond.codeWith_spec h2
  cases Option.some.inj (hn9.symm.trans hn)
  obtain ⟨kY, hkY, -⟩ := className_of_methodNamed hn
  have hinitY : kY.init = .initialized := Cond.initialized_spec (findClass_of_methodNamed hn) hkY h3
  have h : At U g.method c below := by rw [hg]; exact X.here
  have hlocals9 : W9 + (maxL + 11) + (headSpec ws rm).room.locals ≤ R.locals := hlocals
  have happ : (headSpec ws rm).appliesLoose y e.platform (U.calling g mk a) = true :=
    Spec.appliesLoose_calling (g := g) h hdg hn hkY hinitY
      (X.room_calling (g := g) (R' := (headSpec ws rm).room) hsize hmY hcY hframes (by rw [hlY]; omega) h4 h5) h1
  obtain ⟨mid, hmid⟩ := h.above
  have hfr : (U.setTop g).frames = (.java g :: mid) ++ below := by rw [State.frames_setTop' g h.top, hmid]; rfl
  obtain ⟨o, s₂, hsteps, -, hend, hq⟩ := Steps.callFree hM p X.admits X.cas X.clock (acts := []) hfr happ hPc trivial
  have hq' : vx_Q Qc XC mc ms free a (U.calling g mk a) o s₂ := hq
  rw [State.frames_setTop' g h.top] at hend
  obtain ⟨g₀, hg0⟩ := Option.isSome_iff_exists.mp h.top
  obtain ⟨r, hr⟩ := State.topJava?_eq_some.mp hg0
  have hr' : (({ U with heap := s₂.heap, slotsUsed := s₂.slotsUsed } : State).setVm s₂.vm).frames = .java g₀ :: r := hr
  rcases hq' with ⟨hqc, L, hfe, hL⟩ | ⟨q, rfl, E, ce, L, hx, hce, hcv, hcl, hW₂, hsm, hL⟩
  · obtain ⟨⟨v, rfl⟩, hW₂, e2, q2, q3, q4, q5, q6⟩ := id hfe
    have e3 : s₂ = ({ (U.calling g mk a).setFrames s₂.frames with heap := s₂.heap, slotsUsed := s₂.slotsUsed } : State).setVm s₂.vm := by
      have : s₂ = ({ s₂ with vm := (U.calling g mk a).vm } : State).setVm s₂.vm := rfl
      rw [e2] at this
      exact this
    obtain ⟨c₂, i₂, len₂, hc₂, hd₂, hf₂⟩ := hend
    have hW' : U.WarmedH s₂.vm := hW₂
    have hcc : c₂ = c := by
      have h1 : s₂.code? g.method = U.code? g.method := by
        rw [State.code?_eq, State.code?_eq, hW'.alike.method?]
      exact Option.some.inj (hc₂.symm.trans (h1.trans h.code))
    subst hcc
    have hlen : len₂ = len := by rw [hdg] at hd₂; cases hd₂; rfl
    subst hlen
    have hs₂ : s₂ = (({ U with heap := s₂.heap, slotsUsed := s₂.slotsUsed } : State).setVm s₂.vm).setTop { g with pc := g.pc + len₂, stack := v.toList ++ g.stack } := by
      refine e3.trans ?_
      rw [hf₂, State.calling_eq h.top, State.setFrames_setFrames, State.setTop_of_frames _ hr', hr]
      rfl
    have hsame : U.sameButNew ({ U with heap := s₂.heap, slotsUsed := s₂.slotsUsed } : State) L mc ms := by
      refine ⟨?_, q2, q3, q4, q5, q6⟩
      obtain ⟨t, ht, -⟩ := State.frames_cons hr
      show ({ U with heap := s₂.heap, slotsUsed := s₂.slotsUsed } : State) = { U.setFrames U.frames with heap := s₂.heap, slotsUsed := s₂.slotsUsed }
      rw [State.setFrames_self ht]
    subst hg
    refine Or.inl ⟨v, ⟨(({ U with heap := s₂.heap, slotsUsed := s₂.slotsUsed } : State).setVm s₂.vm), Ls ++ L, c0 + mc, s0 + ms⟩,
      ⟨X.admits, X.cas, X.clock, X.frames, X.room, X.hears, X.method, X.code, (X.here.setHeapUsed s₂.heap s₂.slotsUsed).setVm hW'.alike, X.tail, State.WarmedH.trans X.warmed hW', X.limits, X.bytes, X.same.trans (hsame.setVm s.vm)⟩,
      ⟨g, mk, s₂, L, rfl, rfl, hqc, rfl, hL, rfl, rfl⟩, ?_⟩
    show Steps p.tables e below _ ((({ U with heap := s₂.heap, slotsUsed := s₂.slotsUsed } : State).setVm s₂.vm).setTop { g with pc := g.pc + len₂, stack := v.toList ++ g.stack })
    rw [← hs₂]
    exact hsteps
  · obtain ⟨e2, q2, q3, q4, q5, q6⟩ := id hsm
    have e3 : s₂ = ({ (U.calling g mk a).setFrames s₂.frames with heap := s₂.heap, slotsUsed := s₂.slotsUsed } : State).setVm s₂.vm := by
      have : s₂ = ({ s₂ with vm := (U.calling g mk a).vm } : State).setVm s₂.vm := rfl
      rw [e2] at this
      exact this
    have hf₂ : s₂.frames = .throwing q :: .java g :: U.frames.tail := hend
    have hW' : U.WarmedH s₂.vm := hW₂
    have hs₂ : s₂ = ((({ U with heap := s₂.heap, slotsUsed := s₂.slotsUsed } : State).setVm s₂.vm).setTop g).pushFrame (.throwing q) := by
      refine e3.trans ?_
      rw [hf₂, State.calling_eq h.top, State.setFrames_setFrames, State.pushFrame, State.frames_setTop _ hr', State.setTop_of_frames _ hr', State.setFrames_setFrames, hr]
      rfl
    have hsame : U.sameButNew ({ U with heap := s₂.heap, slotsUsed := s₂.slotsUsed } : State) L mc ms := by
      refine ⟨?_, q2, q3, q4, q5, q6⟩
      obtain ⟨t, ht, -⟩ := State.frames_cons hr
      show ({ U with heap := s₂.heap, slotsUsed := s₂.slotsUsed } : State) = { U.setFrames U.frames with heap := s₂.heap, slotsUsed := s₂.slotsUsed }
      rw [State.setFrames_self ht]
    subst hg
    refine Or.inr ⟨q, ⟨(({ U with heap := s₂.heap, slotsUsed := s₂.slotsUsed } : State).setVm s₂.vm), Ls ++ L, c0 + mc, s0 + ms⟩,
      ⟨X.admits, X.cas, X.clock, X.frames, X.room, X.hears, X.method, X.code, (X.here.setHeapUsed s₂.heap s₂.slotsUsed).setVm hW'.alike, X.tail, State.WarmedH.trans X.warmed hW', X.limits, X.bytes, X.same.trans (hsame.setVm s.vm)⟩,
      ⟨g, mk, s₂, L, E, ce, rfl, rfl, hx, hce, hcv, hcl, rfl, hL, rfl, rfl⟩, ?_⟩
    show Steps p.tables e below _ (((({ U with heap := s₂.heap, slotsUsed := s₂.slotsUsed } : State).setVm s₂.vm).setTop g).pushFrame (.throwing q))
    rw [← hs₂]
    exact hsteps
end
variable {p : Program} {l : Launch} {e : Env} {R : Room} {s : State} {m : MethodId} {args : Array Value} {below : List Frame} {meth : Method} {c : Code} {T : State} {H : Heap} {locs : List Loc} {cells slots : Nat}
theorem vx_callVX (X : Stand p l e R s m args below meth c T locs cells slots) (hexec : p.tables.exec = Jvm.exec) {own C : String} {index : Nat} {y : MethodName} {bytes : ByteArray} {maxL : Nat} {ret : Option FieldType} {hh : List (Nat × Nat × Nat × Nat)}
    (hown : s.vm.findClass own = some m.cls) (hlink : (Cond.methodLink own index y).before args s = true) (hinst : (Cond.instanceMethod y).before args s = true) (hsel : (Cond.selects C y y).before args s = true)
    (hcode : (Cond.codeWith y bytes maxL ret hh).before args s = true) (hy : y.cls ≠ "java/lang/invoke/MethodHandle" ∧ y.cls ≠ "java/lang/invoke/VarHandle")
    {W9 : Nat} {Pre : Pt → Array Value → Prop} {Post : Pt → Array Value → Option Value → Pt → Prop} {PostX : Pt → Array Value → Addr → Pt → Prop} (hK : vx_Back l R p e below s args y 3 W9 Pre Post PostX)
    {b : Addr} {cellB : Cell} (hcell : T.heap[b]? = some cellB) (hobj : cellB.vm.isStatics = false) (hcls : s.vm.findClass C = some cellB.cls)
    {g : JFrame} (hg : g.method = m) (hsize : g.locals.size = c.maxLocals) {argsL rest : List Value} (hlen : ∀ sig, parseMethodDescriptor y.desc = some sig → argsL.length = sig.parameters.length)
    (hstack : g.stack = argsL.reverse ++ .ref b :: rest) (hW : 2 * g.monitorRoom + (rest.map fun v => v.category).sum ≤ W9) (hdg : decode c.code g.pc = .ok (.invokevirtual index, 3))
    (hpre : ∀ vm₁, s.WarmedH vm₁ → Pre ⟨T.setVm vm₁, locs, cells, slots⟩ (Value.ref b :: argsL).toArray) :
    (∃ (v : Option Value) (vm₁ : Vm) (B : Pt), s.WarmedH vm₁ ∧ Stand p l e R s m args below meth c B.U B.locs B.cells B.slots ∧ Post ⟨T.setVm vm₁, locs, cells, slots⟩ (Value.ref b :: argsL).toArray v B ∧
      ∀ target, Steps p.tables e below (B.U.setTop { g with pc := g.pc + 3, stack := v.toList ++ rest }) target → Steps p.tables e below (T.setTop g) target) ∨
    (∃ (q : Addr) (vm₁ : Vm) (B : Pt), s.WarmedH vm₁ ∧ Stand p l e R s m args below meth c B.U B.locs B.cells B.slots ∧ PostX ⟨T.setVm vm₁, locs, cells, slots⟩ (Value.ref b :: argsL).toArray q B ∧
      Steps p.tables e below (T.setTop g) ((B.U.setTop { g with stack := rest }).pushFrame (.throwing q))) := by
  obtain ⟨mk, methM, hnamed, hmethM, hstM, habM⟩ := Cond.instanceMethod_spec hinst
  obtain ⟨m8, methM', cM, hn8, hmethM', -, -, -, -, -, -, hsigM⟩ := Cond.codeWith_spec hcode
  cases Option.some.inj (hn8.symm.trans hnamed)
  cases hmethM.symm.trans hmethM'
  obtain ⟨c2, r2, m2, q1, q2, q3, q4, kP, hkP, hkPi⟩ := Cond.selects_spec hsel
  cases hcls.symm.trans q1
  cases (State.methodFound?_of_named hnamed hy).symm.trans q2
  cases hnamed.symm.trans q3
  have hselP : selectMethod e.platform s.vm cellB.cls mk = .method mk := by rw [Launch.admits_selectMethod X.admits]; exact q4
  obtain ⟨vm₁, X₁, hstep₁⟩ := X.invokevirtual hexec hown hlink hnamed hmethM hstM hkP hkPi hy (a := b) (cell := cellB) hcell
    (fun z h => by rw [h] at hobj; cases hobj) hselP hmethM habM hkP hkPi (g := g) hg (argsL := argsL) (rest := rest) (hlen _ hsigM) hstack hdg
  rcases hK m meth c ⟨T.setVm vm₁, locs, cells, slots⟩ { g with stack := rest } (.invokevirtual index) mk (Value.ref b :: argsL).toArray X₁ hg hsize hdg hW (X₁.named hnamed) (hpre vm₁ X₁.warmed) with ⟨v, B, X', hpost, hsteps⟩ | ⟨q, B, X', hpost, hsteps⟩
  · exact Or.inl ⟨v, vm₁, B, X₁.warmed, X', hpost, fun target h => hstep₁ _ fun acts => by rw [doInvoke_state]; exact hsteps.trans h⟩
  · exact Or.inr ⟨q, vm₁, B, X₁.warmed, X', hpost, hstep₁ _ fun acts => by rw [doInvoke_state]; exact hsteps⟩
theorem vx_callSX (X : Stand p l e R s m args below meth c T locs cells slots) (hexec : p.tables.exec = Jvm.exec) {own : String} {index : Nat} {y : MethodName} {bytes : ByteArray} {maxL : Nat} {ret : Option FieldType} {hh : List (Nat × Nat × Nat × Nat)}
    (hown : s.vm.findClass own = some m.cls) (hlink : (Cond.methodLink own index y).before args s = true) (hstat : (Cond.static y).before args s = true) (hinit : (Cond.initialized y.cls).before args s = true)
    (hcode : (Cond.codeWith y bytes maxL ret hh).before args s = true) (hy : y.cls ≠ "java/lang/invoke/MethodHandle" ∧ y.cls ≠ "java/lang/invoke/VarHandle")
    {W9 : Nat} {Pre : Pt → Array Value → Prop} {Post : Pt → Array Value → Option Value → Pt → Prop} {PostX : Pt → Array Value → Addr → Pt → Prop} (hK : vx_Back l R p e below s args y 3 W9 Pre Post PostX)
    {g : JFrame} (hg : g.method = m) (hsize : g.locals.size = c.maxLocals) {argsL rest : List Value} (hlen : ∀ sig, parseMethodDescriptor y.desc = some sig → argsL.length = sig.parameters.length)
    (hstack : g.stack = argsL.reverse ++ rest) (hW : 2 * g.monitorRoom + (rest.map fun v => v.category).sum ≤ W9) (hdg : decode c.code g.pc = .ok (.invokestatic index, 3))
    (hpre : ∀ vm₁, s.WarmedH vm₁ → Pre ⟨T.setVm vm₁, locs, cells, slots⟩ argsL.toArray) :
    (∃ (v : Option Value) (vm₁ : Vm) (B : Pt), s.WarmedH vm₁ ∧ Stand p l e R s m args below meth c B.U B.locs B.cells B.slots ∧ Post ⟨T.setVm vm₁, locs, cells, slots⟩ argsL.toArray v B ∧
      ∀ target, Steps p.tables e below (B.U.setTop { g with pc := g.pc + 3, stack := v.toList ++ rest }) target → Steps p.tables e below (T.setTop g) target) ∨
    (∃ (q : Addr) (vm₁ : Vm) (B : Pt), s.WarmedH vm₁ ∧ Stand p l e R s m args below meth c B.U B.locs B.cells B.slots ∧ PostX ⟨T.setVm vm₁, locs, cells, slots⟩ argsL.toArray q B ∧
      Steps p.tables e below (T.setTop g) ((B.U.setTop { g with stack := rest }).pushFrame (.throwing q))) := by
  obtain ⟨mk, methM, cM, hnamed, hmethM, -, -, -, -, -, -, hsigM⟩ := Cond.codeWith_spec hcode
  have hstatic : methM.isStatic = true := Cond.static_spec hnamed hmethM hstat
  obtain ⟨kP, hkP, -⟩ := className_of_methodNamed hnamed
  have hinitP : kP.init = .initialized := Cond.initialized_spec (findClass_of_methodNamed hnamed) hkP hinit
  obtain ⟨vm₁, X₁, hstep₁⟩ := X.invokestatic hexec hown hlink hnamed hmethM hstatic hkP hinitP hy (g := g) hg (argsL := argsL) (rest := rest) (hlen _ hsigM) hstack hdg
  rcases hK m meth c ⟨T.setVm vm₁, locs, cells, slots⟩ { g with stack := rest } (.invokestatic index) mk argsL.toArray X₁ hg hsize hdg hW (X₁.named hnamed) (hpre vm₁ X₁.warmed) with ⟨v, B, X', hpost, hsteps⟩ | ⟨q, B, X', hpost, hsteps⟩
  · exact Or.inl ⟨v, vm₁, B, X₁.warmed, X', hpost, fun target h => hstep₁ _ fun acts => by rw [doInvoke_state]; exact hsteps.trans h⟩
  · exact Or.inr ⟨q, vm₁, B, X₁.warmed, X', hpost, hstep₁ _ fun acts => by rw [doInvoke_state]; exact hsteps⟩
theorem vx_callVW (X : Stand p l e R s m args below meth c T locs cells slots) (hexec : p.tables.exec = Jvm.exec) {own C : String} {index : Nat} {y : MethodName} {bytes : ByteArray} {maxL : Nat} {ret : Option FieldType} {hh : List (Nat × Nat × Nat × Nat)}
    (hown : s.vm.findClass own = some m.cls) (hlink : (Cond.methodLink own index y).before args s = true) (hinst : (Cond.instanceMethod y).before args s = true) (hsel : (Cond.selects C y y).before args s = true)
    (hcode : (Cond.codeWith y bytes maxL ret hh).before args s = true) (hy : y.cls ≠ "java/lang/invoke/MethodHandle" ∧ y.cls ≠ "java/lang/invoke/VarHandle")
    {W9 : Nat} {Pre : Pt → Array Value → Prop} {Post : Pt → Array Value → Option Value → Pt → Prop} (hK : Back l R p e below s args y 3 W9 Pre Post)
    {b : Addr} {cellB : Cell} (hcell : T.heap[b]? = some cellB) (hobj : cellB.vm.isStatics = false) (hcls : s.vm.findClass C = some cellB.cls)
    {g : JFrame} (hg : g.method = m) (hsize : g.locals.size = c.maxLocals) {argsL rest : List Value} (hlen : ∀ sig, parseMethodDescriptor y.desc = some sig → argsL.length = sig.parameters.length)
    (hstack : g.stack = argsL.reverse ++ .ref b :: rest) (hW : 2 * g.monitorRoom + (rest.map fun v => v.category).sum ≤ W9) (hdg : decode c.code g.pc = .ok (.invokevirtual index, 3))
    (hpre : ∀ vm₁, s.WarmedH vm₁ → Pre ⟨T.setVm vm₁, locs, cells, slots⟩ (Value.ref b :: argsL).toArray) :
    ∃ (v : Option Value) (vm₁ : Vm) (B : Pt), s.WarmedH vm₁ ∧ Stand p l e R s m args below meth c B.U B.locs B.cells B.slots ∧ Post ⟨T.setVm vm₁, locs, cells, slots⟩ (Value.ref b :: argsL).toArray v B ∧
      ∀ target, Steps p.tables e below (B.U.setTop { g with pc := g.pc + 3, stack := v.toList ++ rest }) target → Steps p.tables e below (T.setTop g) target := by
  obtain ⟨mk, methM, hnamed, hmethM, hstM, habM⟩ := Cond.instanceMethod_spec hinst
  obtain ⟨m8, methM', cM, hn8, hmethM', -, -, -, -, -, -, hsigM⟩ := Cond.codeWith_spec hcode
  cases Option.some.inj (hn8.symm.trans hnamed)
  cases hmethM.symm.trans hmethM'
  obtain ⟨c2, r2, m2, q1, q2, q3, q4, kP, hkP, hkPi⟩ := Cond.selects_spec hsel
  cases hcls.symm.trans q1
  cases (State.methodFound?_of_named hnamed hy).symm.trans q2
  cases hnamed.symm.trans q3
  have hselP : selectMethod e.platform s.vm cellB.cls mk = .method mk := by rw [Launch.admits_selectMethod X.admits]; exact q4
  obtain ⟨vm₁, X₁, hstep₁⟩ := X.invokevirtual hexec hown hlink hnamed hmethM hstM hkP hkPi hy (a := b) (cell := cellB) hcell
    (fun z h => by rw [h] at hobj; cases hobj) hselP hmethM habM hkP hkPi (g := g) hg (argsL := argsL) (rest := rest) (hlen _ hsigM) hstack hdg
  obtain ⟨v, B, X', hpost, hsteps⟩ := hK m meth c ⟨T.setVm vm₁, locs, cells, slots⟩ { g with stack := rest } (.invokevirtual index) mk (Value.ref b :: argsL).toArray X₁ hg hsize hdg hW (X₁.named hnamed) (hpre vm₁ X₁.warmed)
  exact ⟨v, vm₁, B, X₁.warmed, X', hpost, fun target h => hstep₁ _ fun acts => by rw [doInvoke_state]; exact hsteps.trans h⟩
abbrev vx_CVW (R : Room) (s : State) (args : Array Value) (own C : String) (index : Nat) (y : MethodName) (bytes : ByteArray) (maxL : Nat) (ret : Option FieldType) (hh : List (Nat × Nat × Nat × Nat)) (ws : List Cond) (rm : Room) (mc ms n : Nat) : Prop :=
  (rm.cells = mc ∧ rm.slots = ms ∧ rm.frames + 1 ≤ R.frames ∧ 8 + (maxL + 11) + rm.locals ≤ R.locals ∧ (∀ w ∈ ws, ∀ (a' : Array Value) (U : State), s.WarmedH U.vm → w.before a' U = true) ∧ Cond.codeWith y bytes maxL ret hh ∈ ws) ∧
  (Cond.codeWith y bytes maxL ret hh).before args s = true ∧ (Cond.initialized y.cls).before args s = true ∧ (y.cls ≠ "java/lang/invoke/MethodHandle" ∧ y.cls ≠ "java/lang/invoke/VarHandle") ∧
  (∀ sig, parseMethodDescriptor y.desc = some sig → n = sig.parameters.length) ∧ (Cond.methodLink own index y).before args s = true ∧ (Cond.instanceMethod y).before args s = true ∧ (Cond.selects C y y).before args s = true
theorem vx_cwVW {own C : String} {index maxL mc ms : Nat} {y : MethodName} {bytes : ByteArray} {ret : Option FieldType} {hh : List (Nat × Nat × Nat × Nat)} {Ts ws ws' : List Cond} {rm : Room} (n : Nat) (ht : ∀ w ∈ Ts, w.before args s = true) (hT : GoodIn Ts (wsV own index C y ws)) (hw : ws = Cond.codeWith y bytes maxL ret hh :: ws') (hrc : rm.cells = mc) (hrs : rm.slots = ms)
    (hd : y.cls = C ∧ y.cls ≠ "java/lang/invoke/MethodHandle" ∧ y.cls ≠ "java/lang/invoke/VarHandle" ∧ (parseMethodDescriptor y.desc).map (fun d => d.parameters.length) = some n) (hR : rm.frames + 1 ≤ R.frames ∧ 8 + (maxL + 11) + rm.locals ≤ R.locals) :
    vx_CVW R s args own C index y bytes maxL ret hh ws rm mc ms n := by
  obtain ⟨hC, hd⟩ := hd
  subst hC
  have ok : ∀ w ∈ wsV own index y.cls y ws, w.before args s = true := fun w h => ht w (hT w h).1
  have hG : GoodIn Ts ws := fun w h => hT w (by unfold wsV; exact List.mem_append_right _ h)
  have hc : Cond.codeWith y bytes maxL ret hh ∈ ws := by rw [hw]; exact List.mem_cons_self
  refine ⟨⟨hrc, hrs, hR.1, hR.2, pay_in ht hG, hc⟩, ht _ (hG _ hc).1, ok _ (by simp [wsV]), ⟨hd.1, hd.2.1⟩, fun sig h => ?_, ok _ (by simp [wsV]), ok _ (by simp [wsV]), ok _ (by simp [wsV])⟩
  have h2 := hd.2.2
  rw [h] at h2
  exact (Option.some.inj h2).symm
theorem vx_runVW {y : MethodName} {bytes cc : ByteArray} {maxL nL mc ms n index : Nat} {ret : Option FieldType} {hh : List (Nat × Nat × Nat × Nat)} {ws : List Cond} {rm : Room} {Pc : Array Value → State → Prop} {Qc : Array Value → State → Outcome → State → Prop} {free : Addr → Prop} {Ts : List Cond} {own C : String} {b : Addr} {As rest : List Value} {g : JFrame}
    (S : CallFix p m c cc nL s args Ts own) (hM : Met l y ws rm Pc Qc mc ms free) (cw : vx_CVW R s args own C index y bytes maxL ret hh ws rm mc ms n) (hp : PreV s H C b Pc As)
    (hg : g.method = m) (hn : As.length = n) (hsize : g.locals.size = nL) (hstack : g.stack = As.reverse ++ .ref b :: rest) (hW : 2 * g.monitorRoom + (rest.map fun v => v.category).sum ≤ 8) (hdg : decode cc g.pc = .ok (.invokevirtual index, 3)) (hf : cells + mc ≤ R.cells ∧ slots + ms ≤ R.slots) :
    va_Run p l e R s m args below meth c H locs cells slots mc ms g rest (Qc (Value.ref b :: As).toArray) free := by
  obtain ⟨⟨hrc, hrs, hfr, hlo, hws, hcw⟩, hcode, hini, hy, hlen, hl, hin, hse⟩ := cw
  have hK : Back l R p e below s args y 3 8 (PreOf R mc ms Pc) (PostOf Qc mc ms free) := va_backW (hh := hh) (bytes := bytes) (maxL := maxL) (ret := ret) hM hp.1 hrc hrs hfr hlo hws hcw (fun a' U hW => word_at hW (Or.inl (by first | rfl | simp [Cond.onTables, Cond.keeps, Cond.steady])) hini)
  obtain ⟨hx, hb, hml, ho, -⟩ := S
  obtain ⟨-, ⟨cellB, hcB, hoB, hclB⟩, hPc⟩ := hp
  intro T hT X
  obtain ⟨v, vm₁, ⟨U', l2, c2, s2⟩, hW₁, X', ⟨g', mk, t, L, e1, e2, hq, h1, hL, h2, h3⟩, st⟩ := vx_callVW X hx (C := C) (hh := hh) (bytes := bytes) (maxL := maxL) (ret := ret) ho hl hin hse hcode hy hK (by rw [hT]; exact hcB) hoB hclB hg (hsize.trans hml.symm) (argsL := As) (rest := rest) (fun sig h => hn.trans (hlen sig h)) hstack hW (by rw [hb]; exact hdg)
    (fun vm₁ hW₁ => ⟨hf.1, hf.2, hPc (T.setVm vm₁) hT hW₁⟩)
  dsimp only [Pt.U, Pt.locs, Pt.cells, Pt.slots] at X' e1 e2 h1 h2 h3 st
  subst h1; subst h2; subst h3
  exact ⟨v, (T.setVm vm₁).calling g' mk (Value.ref b :: As).toArray, t, U', L, hT, X', hL, e1, e2, hq, st⟩
section
variable {y : MethodName} {bytes cc : ByteArray} {maxL nL mc ms n index : Nat} {ret : Option FieldType} {ws : List Cond} {rm : Room} {Pc : Array Value → State → Prop} {Qc : Array Value → State → Outcome → State → Prop} {XC : String → State → State → Prop} {free : Addr → Prop} {Ts : List Cond} {own C : String} {b : Addr} {As rest : List Value} {g : JFrame}
theorem vx_runVX {hh : List (Nat × Nat × Nat × Nat)} (S : CallFix p m c cc nL s args Ts own) (hM : vx_Met l y ws rm Pc Qc XC mc ms free) (cw : vx_CVW R s args own C index y bytes maxL ret hh ws rm mc ms n) (hp : PreV s H C b Pc As)
    (hg : g.method = m) (hn : As.length = n) (hsize : g.locals.size = nL) (hstack : g.stack = As.reverse ++ .ref b :: rest) (hW : 2 * g.monitorRoom + (rest.map fun v => v.category).sum ≤ 8) (hdg : decode cc g.pc = .ok (.invokevirtual index, 3)) (hf : cells + mc ≤ R.cells ∧ slots + ms ≤ R.slots) :
    vx_Run p l e R s m args below meth c H locs cells slots mc ms g rest (Qc (Value.ref b :: As).toArray) XC free := by
  obtain ⟨⟨hrc, hrs, hfr, hlo, hws, hcw⟩, hcode, hini, hy, hlen, hl, hin, hse⟩ := cw
  have hK : vx_Back l R p e below s args y 3 8 (PreOf R mc ms Pc) (PostOf Qc mc ms free) (vx_Post XC mc ms free) := vx_backW (hh := hh) (bytes := bytes) (maxL := maxL) (ret := ret) hM hp.1 hrc hrs hfr hlo hws hcw (fun a' U hW => word_at hW (Or.inl (by first | rfl | simp [Cond.onTables, Cond.keeps, Cond.steady])) hini)
  obtain ⟨hx, hb, hml, ho, -⟩ := S
  obtain ⟨-, ⟨cellB, hcB, hoB, hclB⟩, hPc⟩ := hp
  intro T hT X
  rcases vx_callVX X hx (C := C) (hh := hh) (bytes := bytes) (maxL := maxL) (ret := ret) ho hl hin hse hcode hy hK (by rw [hT]; exact hcB) hoB hclB hg (hsize.trans hml.symm) (argsL := As) (rest := rest) (fun sig h => hn.trans (hlen sig h)) hstack hW (by rw [hb]; exact hdg)
    (fun vm₁ hW₁ => ⟨hf.1, hf.2, hPc (T.setVm vm₁) hT hW₁⟩) with ⟨v, vm₁, ⟨U', l2, c2, s2⟩, hW₁, X', ⟨g', mk, t, L, e1, e2, hq, h1, hL, h2, h3⟩, st⟩ | ⟨q, vm₁, ⟨U', l2, c2, s2⟩, hW₁, X', ⟨g', mk, t, L, E, ce, e1, e2, hq, hce, hcv, hcl, h1, hL, h2, h3⟩, st⟩
  · dsimp only [Pt.U, Pt.locs, Pt.cells, Pt.slots] at X' e1 e2 h1 h2 h3 st
    subst h1; subst h2; subst h3
    exact Or.inl ⟨v, (T.setVm vm₁).calling g' mk (Value.ref b :: As).toArray, t, U', L, hT, X', hL, e1, e2, hq, st⟩
  · dsimp only [Pt.U, Pt.locs, Pt.cells, Pt.slots] at X' e1 e2 h1 h2 h3 st hcl
    subst h1; subst h2; subst h3
    exact Or.inr ⟨q, (T.setVm vm₁).calling g' mk (Value.ref b :: As).toArray, t, U', L, E, ce, hT, X', hL, e1, e2, hq, hce, hcv, vx_cls hW₁ hcl, st⟩
theorem vx_runSX {hh : List (Nat × Nat × Nat × Nat)} (S : CallFix p m c cc nL s args Ts own) (hM : vx_Met l y ws rm Pc Qc XC mc ms free) (cw : vx_CSW R s args own index y bytes maxL ret hh ws rm mc ms n) (hp : PreS s H Pc As)
    (hg : g.method = m) (hn : As.length = n) (hsize : g.locals.size = nL) (hstack : g.stack = As.reverse ++ rest) (hW : 2 * g.monitorRoom + (rest.map fun v => v.category).sum ≤ 8) (hdg : decode cc g.pc = .ok (.invokestatic index, 3)) (hf : cells + mc ≤ R.cells ∧ slots + ms ≤ R.slots) :
    vx_Run p l e R s m args below meth c H locs cells slots mc ms g rest (Qc As.toArray) XC free := by
  obtain ⟨⟨hrc, hrs, hfr, hlo, hws, hcw⟩, hcode, hini, hy, hlen, hl, hstt⟩ := cw
  have hK : vx_Back l R p e below s args y 3 8 (PreOf R mc ms Pc) (PostOf Qc mc ms free) (vx_Post XC mc ms free) := vx_backW (hh := hh) (bytes := bytes) (maxL := maxL) (ret := ret) hM hp.1 hrc hrs hfr hlo hws hcw (fun a' U hW => word_at hW (Or.inl (by first | rfl | simp [Cond.onTables, Cond.keeps, Cond.steady])) hini)
  obtain ⟨hx, hb, hml, ho, -⟩ := S
  intro T hT X
  rcases vx_callSX X hx (hh := hh) (bytes := bytes) (maxL := maxL) (ret := ret) ho hl hstt hini hcode hy hK hg (hsize.trans hml.symm) (argsL := As) (rest := rest) (fun sig h => hn.trans (hlen sig h)) hstack hW (by rw [hb]; exact hdg)
    (fun vm₁ hW₁ => ⟨hf.1, hf.2, hp.2 (T.setVm vm₁) hT hW₁⟩) with ⟨v, vm₁, ⟨U', l2, c2, s2⟩, hW₁, X', ⟨g', mk, t, L, e1, e2, hq, h1, hL, h2, h3⟩, st⟩ | ⟨q, vm₁, ⟨U', l2, c2, s2⟩, hW₁, X', ⟨g', mk, t, L, E, ce, e1, e2, hq, hce, hcv, hcl, h1, hL, h2, h3⟩, st⟩
  · dsimp only [Pt.U, Pt.locs, Pt.cells, Pt.slots] at X' e1 e2 h1 h2 h3 st
    subst h1; subst h2; subst h3
    exact Or.inl ⟨v, (T.setVm vm₁).calling g' mk As.toArray, t, U', L, hT, X', hL, e1, e2, hq, st⟩
  · dsimp only [Pt.U, Pt.locs, Pt.cells, Pt.slots] at X' e1 e2 h1 h2 h3 st hcl
    subst h1; subst h2; subst h3
    exact Or.inr ⟨q, (T.setVm vm₁).calling g' mk As.toArray, t, U', L, E, ce, hT, X', hL, e1, e2, hq, hce, hcv, vx_cls hW₁ hcl, st⟩
end
end VXH
theorem vx_ofWH {l : Launch} {y : MethodName} {ws ws' : List Cond} {rm : Room} {Pc : Array Value → State → Prop} {Qc : Array Value → State → Outcome → State → Prop} {XC : String → State → State → Prop} {mc ms : Nat} {free : Addr → Prop} {cc : ByteArray} {maxL : Nat} {ret : Option FieldType} {hh : List (Nat × Nat × Nat × Nat)}
    (hy : plainName y.cls = true) (hw : ws = Cond.codeWith y cc maxL ret hh :: ws')
    (body : ∀ p e s m args below meth c s₁, BodyLoose p l y (headSpec ws rm) cc maxL ret e s m args below meth c s₁ → c.maxLocals = maxL → Pc args s →
      W p l e (headSpec ws rm).room s m args below meth c s.heap [] 0 0 (vx_MQ below Qc XC args s mc ms free) (entryFrame m args maxL)) : vx_Met l y ws rm Pc Qc XC mc ms free := by
  refine MetFree.of_bodyS (code := cc) (maxLocals := maxL) (ret := ret) hy ?_ ?_
  · intro args s m h hn
    obtain ⟨m9, meth, c, hn9, h1, h2, h3, h4, -, h5, h6, -⟩ := Cond.codeWith_spec (atoms_spec (ws := ws) h _ (by rw [hw]; exact List.mem_cons_self))
    cases hn.symm.trans hn9
    exact ⟨meth, c, h1, h2, h3, h4, h5, h6⟩
  · intro p e s m args below meth c s₁ B hml hP _
    have hh0 : s₁.heap = s.heap := by rw [B.state]; rfl
    obtain ⟨t, a1, o, b1, b2, b3⟩ := body p e s m args below meth c s₁ B hml hP s₁ hh0 (Stand.of_body B)
    exact ⟨t, o, a1, b1, b2, b3⟩
/-! ===== END ===== -/
end
section
def RX0 : String := "DictationBelt$OrderText"
def TX0 : u_T := fun k => match k with
  | 0 => ("DictationBelt$OrderText", "codes", "[I", true)
  | _ => ("DictationBelt$OrderText", "length", "I", false)
def tyX0 : Nat → FieldType := fun k => match k with
  | 0 => .array .int
  | _ => .int
abbrev wsX00 : List Cond := u_ws RX0 TX0 2
theorem nmX0 : ∀ a, a < 2 → ∀ b, b < 2 → a ≠ b → (TX0 a).2.1 ≠ (TX0 b).2.1 := by decide +kernel
theorem tyX0_ok : ∀ k, k < 2 → parseFieldDescriptor (TX0 k).2.2.1 = some (tyX0 k) := by decide +kernel
abbrev cX0_init : ByteArray := prog_2_method_1_code
def yX0_init : MethodName := ⟨RX0, "<init>", "()V"⟩
def RX1 : String := "DictationBelt$State"
def TX1 : u_T := fun k => match k with
  | 0 => ("DictationBelt$State", "owners", "[I", true)
  | 1 => ("DictationBelt$State", "sounds", "[I", true)
  | 2 => ("DictationBelt$State", "carbons", "[I", true)
  | 3 => ("DictationBelt$State", "order", "[I", true)
  | 4 => ("DictationBelt$State", "used", "I", false)
  | 5 => ("DictationBelt$State", "flags", "[I", true)
  | 6 => ("DictationBelt$State", "losses", "[I", true)
  | 7 => ("DictationBelt$State", "count", "I", false)
  | 8 => ("DictationBelt$State", "isRunning", "Z", false)
  | 9 => ("DictationBelt$State", "head", "I", false)
  | 10 => ("DictationBelt$State", "spoken", "I", false)
  | 11 => ("DictationBelt$State", "gone", "I", false)
  | 12 => ("DictationBelt$State", "player", "I", false)
  | _ => ("DictationBelt$State", "place", "I", false)
def tyX1 : Nat → FieldType := fun k => match k with
  | 0 => .array .int
  | 1 => .array .int
  | 2 => .array .int
  | 3 => .array .int
  | 4 => .int
  | 5 => .array .int
  | 6 => .array .int
  | 7 => .int
  | 8 => .boolean
  | 9 => .int
  | 10 => .int
  | 11 => .int
  | 12 => .int
  | _ => .int
abbrev wsX10 : List Cond := u_ws RX1 TX1 14
theorem nmX1 : ∀ a, a < 14 → ∀ b, b < 14 → a ≠ b → (TX1 a).2.1 ≠ (TX1 b).2.1 := by decide +kernel
theorem tyX1_ok : ∀ k, k < 14 → parseFieldDescriptor (TX1 k).2.2.1 = some (tyX1 k) := by decide +kernel
abbrev cX1_init : ByteArray := prog_3_method_1_code
def yX1_init : MethodName := ⟨RX1, "<init>", "()V"⟩
abbrev cX1_copyFrom : ByteArray := prog_3_method_2_code
def yX1_copyFrom : MethodName := ⟨RX1, "copyFrom", "(LDictationBelt$State;)V"⟩
abbrev cX1_isRecording : ByteArray := prog_3_method_3_code
def yX1_isRecording : MethodName := ⟨RX1, "isRecording", "(I)Z"⟩
abbrev cX1_runningNumber : ByteArray := prog_3_method_4_code
def yX1_runningNumber : MethodName := ⟨RX1, "runningNumber", "()I"⟩
abbrev cX1_isFlagged : ByteArray := prog_3_method_5_code
def yX1_isFlagged : MethodName := ⟨RX1, "isFlagged", "(I)Z"⟩
abbrev cX1_putFlag : ByteArray := prog_3_method_6_code
def yX1_putFlag : MethodName := ⟨RX1, "putFlag", "(IZ)V"⟩
abbrev cX1_cellCount : ByteArray := prog_3_method_7_code
def yX1_cellCount : MethodName := ⟨RX1, "cellCount", "(I)I"⟩
abbrev cX1_cellAt : ByteArray := prog_3_method_8_code
def yX1_cellAt : MethodName := ⟨RX1, "cellAt", "(II)I"⟩
abbrev cX1_mayBegin : ByteArray := prog_3_method_9_code
def yX1_mayBegin : MethodName := ⟨RX1, "mayBegin", "()Z"⟩
abbrev cX1_beginRecording : ByteArray := prog_3_method_10_code
def yX1_beginRecording : MethodName := ⟨RX1, "beginRecording", "()I"⟩
abbrev cX1_stopRecording : ByteArray := prog_3_method_11_code
def yX1_stopRecording : MethodName := ⟨RX1, "stopRecording", "()I"⟩
abbrev cX1_eraseRecording : ByteArray := prog_3_method_12_code
def yX1_eraseRecording : MethodName := ⟨RX1, "eraseRecording", "(I)I"⟩
abbrev cX1_removeRecording : ByteArray := prog_3_method_13_code
def yX1_removeRecording : MethodName := ⟨RX1, "removeRecording", "(I)V"⟩
abbrev cX1_dropFreeCells : ByteArray := prog_3_method_14_code
def yX1_dropFreeCells : MethodName := ⟨RX1, "dropFreeCells", "()V"⟩
abbrev cX1_cellFromHead : ByteArray := prog_3_method_15_code
def yX1_cellFromHead : MethodName := ⟨RX1, "cellFromHead", "(I)I"⟩
abbrev cX1_isWritable : ByteArray := prog_3_method_16_code
def yX1_isWritable : MethodName := ⟨RX1, "isWritable", "(I)Z"⟩
abbrev cX1_writableCells : ByteArray := prog_3_method_17_code
def yX1_writableCells : MethodName := ⟨RX1, "writableCells", "()I"⟩
abbrev cX1_firstWritable : ByteArray := prog_3_method_18_code
def yX1_firstWritable : MethodName := ⟨RX1, "firstWritable", "()I"⟩
abbrev cX1_firstLoser : ByteArray := prog_3_method_19_code
def yX1_firstLoser : MethodName := ⟨RX1, "firstLoser", "()I"⟩
abbrev cX1_lossAfter : ByteArray := prog_3_method_20_code
def yX1_lossAfter : MethodName := ⟨RX1, "lossAfter", "(II)I"⟩
abbrev cX1_maySpeak : ByteArray := prog_3_method_21_code
def yX1_maySpeak : MethodName := ⟨RX1, "maySpeak", "(I)Z"⟩
abbrev cX1_speakTimes : ByteArray := prog_3_method_22_code
def yX1_speakTimes : MethodName := ⟨RX1, "speakTimes", "(II)I"⟩
abbrev cX1_loseCell : ByteArray := prog_3_method_23_code
def yX1_loseCell : MethodName := ⟨RX1, "loseCell", "(I)V"⟩
abbrev cX1_cellsBefore : ByteArray := prog_3_method_24_code
def yX1_cellsBefore : MethodName := ⟨RX1, "cellsBefore", "(I)I"⟩
abbrev cX1_writeCell : ByteArray := prog_3_method_25_code
def yX1_writeCell : MethodName := ⟨RX1, "writeCell", "(II)V"⟩
abbrev cX1_bringPlayer : ByteArray := prog_3_method_26_code
def yX1_bringPlayer : MethodName := ⟨RX1, "bringPlayer", "(I)V"⟩
abbrev cX1_playCell : ByteArray := prog_3_method_27_code
def yX1_playCell : MethodName := ⟨RX1, "playCell", "()I"⟩
abbrev cX1_stepBack : ByteArray := prog_3_method_28_code
def yX1_stepBack : MethodName := ⟨RX1, "stepBack", "(I)I"⟩
abbrev cX1_correctedCells : ByteArray := prog_3_method_29_code
def yX1_correctedCells : MethodName := ⟨RX1, "correctedCells", "()I"⟩
def RX2 : String := "DictationBelt"
def TX2 : u_T := fun k => match k with
  | 0 => ("DictationBelt", "now", "LDictationBelt$State;", true)
  | 1 => ("DictationBelt", "saved", "[LDictationBelt$State;", true)
  | 2 => ("DictationBelt", "nextSlot", "I", false)
  | 3 => ("DictationBelt", "savedCount", "I", false)
  | _ => ("DictationBelt", "text", "LDictationBelt$OrderText;", true)
def tyX2 : Nat → FieldType := fun k => match k with
  | 0 => .object "DictationBelt$State"
  | 1 => .array (.object "DictationBelt$State")
  | 2 => .int
  | 3 => .int
  | _ => .object "DictationBelt$OrderText"
abbrev wsX20 : List Cond := u_ws RX2 TX2 5
theorem nmX2 : ∀ a, a < 5 → ∀ b, b < 5 → a ≠ b → (TX2 a).2.1 ≠ (TX2 b).2.1 := by decide +kernel
theorem tyX2_ok : ∀ k, k < 5 → parseFieldDescriptor (TX2 k).2.2.1 = some (tyX2 k) := by decide +kernel
abbrev cX2_init : ByteArray := prog_1_method_1_code
def yX2_init : MethodName := ⟨RX2, "<init>", "()V"⟩
abbrev cX2_begin : ByteArray := prog_1_method_2_code
def yX2_begin : MethodName := ⟨RX2, "begin", "()I"⟩
abbrev cX2_halt : ByteArray := prog_1_method_3_code
def yX2_halt : MethodName := ⟨RX2, "halt", "()I"⟩
abbrev cX2_speak : ByteArray := prog_1_method_4_code
def yX2_speak : MethodName := ⟨RX2, "speak", "(I)I"⟩
abbrev cX2_setFlag : ByteArray := prog_1_method_5_code
def yX2_setFlag : MethodName := ⟨RX2, "setFlag", "(IZ)Z"⟩
abbrev cX2_erase : ByteArray := prog_1_method_6_code
def yX2_erase : MethodName := ⟨RX2, "erase", "(I)I"⟩
abbrev cX2_moveHead : ByteArray := prog_1_method_7_code
def yX2_moveHead : MethodName := ⟨RX2, "moveHead", "(I)I"⟩
abbrev cX2_recordings : ByteArray := prog_1_method_8_code
def yX2_recordings : MethodName := ⟨RX2, "recordings", "()I"⟩
abbrev cX2_running : ByteArray := prog_1_method_9_code
def yX2_running : MethodName := ⟨RX2, "running", "()I"⟩
abbrev cX2_head : ByteArray := prog_1_method_10_code
def yX2_head : MethodName := ⟨RX2, "head", "()I"⟩
abbrev cX2_length : ByteArray := prog_1_method_11_code
def yX2_length : MethodName := ⟨RX2, "length", "(I)I"⟩
abbrev cX2_sound : ByteArray := prog_1_method_12_code
def yX2_sound : MethodName := ⟨RX2, "sound", "(II)I"⟩
abbrev cX2_cellOf : ByteArray := prog_1_method_13_code
def yX2_cellOf : MethodName := ⟨RX2, "cellOf", "(II)I"⟩
abbrev cX2_hasFlag : ByteArray := prog_1_method_14_code
def yX2_hasFlag : MethodName := ⟨RX2, "hasFlag", "(I)Z"⟩
abbrev cX2_lost : ByteArray := prog_1_method_15_code
def yX2_lost : MethodName := ⟨RX2, "lost", "(I)I"⟩
abbrev cX2_owner : ByteArray := prog_1_method_16_code
def yX2_owner : MethodName := ⟨RX2, "owner", "(I)I"⟩
abbrev cX2_free : ByteArray := prog_1_method_17_code
def yX2_free : MethodName := ⟨RX2, "free", "()I"⟩
abbrev cX2_spoken : ByteArray := prog_1_method_18_code
def yX2_spoken : MethodName := ⟨RX2, "spoken", "()I"⟩
abbrev cX2_gone : ByteArray := prog_1_method_19_code
def yX2_gone : MethodName := ⟨RX2, "gone", "()I"⟩
abbrev cX2_usedShare : ByteArray := prog_1_method_20_code
def yX2_usedShare : MethodName := ⟨RX2, "usedShare", "()D"⟩
abbrev cX2_go : ByteArray := prog_1_method_21_code
def yX2_go : MethodName := ⟨RX2, "go", "(I)I"⟩
abbrev cX2_play : ByteArray := prog_1_method_22_code
def yX2_play : MethodName := ⟨RX2, "play", "()I"⟩
abbrev cX2_back : ByteArray := prog_1_method_23_code
def yX2_back : MethodName := ⟨RX2, "back", "(I)I"⟩
abbrev cX2_playing : ByteArray := prog_1_method_24_code
def yX2_playing : MethodName := ⟨RX2, "playing", "()I"⟩
abbrev cX2_place : ByteArray := prog_1_method_25_code
def yX2_place : MethodName := ⟨RX2, "place", "()I"⟩
abbrev cX2_correct : ByteArray := prog_1_method_26_code
def yX2_correct : MethodName := ⟨RX2, "correct", "(III)I"⟩
abbrev cX2_carbon : ByteArray := prog_1_method_27_code
def yX2_carbon : MethodName := ⟨RX2, "carbon", "(II)I"⟩
abbrev cX2_corrected : ByteArray := prog_1_method_28_code
def yX2_corrected : MethodName := ⟨RX2, "corrected", "()I"⟩
abbrev cX2_room : ByteArray := prog_1_method_29_code
def yX2_room : MethodName := ⟨RX2, "room", "()I"⟩
abbrev cX2_nextLoser : ByteArray := prog_1_method_30_code
def yX2_nextLoser : MethodName := ⟨RX2, "nextLoser", "()I"⟩
abbrev cX2_lossOf : ByteArray := prog_1_method_31_code
def yX2_lossOf : MethodName := ⟨RX2, "lossOf", "(II)I"⟩
abbrev cX2_goneAfter : ByteArray := prog_1_method_32_code
def yX2_goneAfter : MethodName := ⟨RX2, "goneAfter", "(I)I"⟩
abbrev cX2_undo : ByteArray := prog_1_method_37_code
def yX2_undo : MethodName := ⟨RX2, "undo", "()I"⟩
abbrev cX2_savedStates : ByteArray := prog_1_method_38_code
def yX2_savedStates : MethodName := ⟨RX2, "savedStates", "()I"⟩
abbrev cX2_digest : ByteArray := prog_1_method_39_code
def yX2_digest : MethodName := ⟨RX2, "digest", "()J"⟩
abbrev cX2_withRecording : ByteArray := prog_1_method_40_code
def yX2_withRecording : MethodName := ⟨RX2, "withRecording", "(JI)J"⟩
abbrev cX2_mixed : ByteArray := prog_1_method_41_code
def yX2_mixed : MethodName := ⟨RX2, "mixed", "(JJ)J"⟩
abbrev cX2_save : ByteArray := prog_1_method_42_code
def yX2_save : MethodName := ⟨RX2, "save", "()V"⟩
abbrev cX2_slotAt : ByteArray := prog_1_method_43_code
def yX2_slotAt : MethodName := ⟨RX2, "slotAt", "(I)LDictationBelt$State;"⟩
abbrev cX2_requireRecording : ByteArray := prog_1_method_47_code
def yX2_requireRecording : MethodName := ⟨RX2, "requireRecording", "(I)V"⟩
abbrev cX2_requirePlace : ByteArray := prog_1_method_48_code
def yX2_requirePlace : MethodName := ⟨RX2, "requirePlace", "(II)V"⟩
abbrev cX2_requirePlayer : ByteArray := prog_1_method_49_code
def yX2_requirePlayer : MethodName := ⟨RX2, "requirePlayer", "()V"⟩
abbrev cX2_requireCell : ByteArray := prog_1_method_50_code
def yX2_requireCell : MethodName := ⟨RX2, "requireCell", "(I)V"⟩
abbrev cX2_requireSound : ByteArray := prog_1_method_51_code
def yX2_requireSound : MethodName := ⟨RX2, "requireSound", "(I)V"⟩
abbrev cX2_requireForecast : ByteArray := prog_1_method_52_code
def yX2_requireForecast : MethodName := ⟨RX2, "requireForecast", "(I)V"⟩
abbrev cX2_valueAt : ByteArray := prog_1_method_53_code
def yX2_valueAt : MethodName := ⟨RX2, "valueAt", "([II)I"⟩
abbrev cX2_putAt : ByteArray := prog_1_method_54_code
def yX2_putAt : MethodName := ⟨RX2, "putAt", "([III)V"⟩
def RX3 : String := "DictationBeltModel"
def TX3 : u_T := fun k => match k with
  | _ => ("", "", "", false)
def tyX3 : Nat → FieldType := fun k => match k with
  | _ => .int
abbrev wsX30 : List Cond := u_ws RX3 TX3 0
theorem nmX3 : ∀ a, a < 0 → ∀ b, b < 0 → a ≠ b → (TX3 a).2.1 ≠ (TX3 b).2.1 := by decide +kernel
theorem tyX3_ok : ∀ k, k < 0 → parseFieldDescriptor (TX3 k).2.2.1 = some (tyX3 k) := by decide +kernel
def RJ9 : String := "java/lang/Math"
def TJ9 : u_T := fun k => match k with
  | _ => ("", "", "", false)
def tyJ9 : Nat → FieldType := fun k => match k with
  | _ => .int
abbrev wsJ90 : List Cond := u_ws RJ9 TJ9 0
theorem nmJ9 : ∀ a, a < 0 → ∀ b, b < 0 → a ≠ b → (TJ9 a).2.1 ≠ (TJ9 b).2.1 := by decide +kernel
theorem tyJ9_ok : ∀ k, k < 0 → parseFieldDescriptor (TJ9 k).2.2.1 = some (tyJ9 k) := by decide +kernel
abbrev cJ9_max_7cf53 : ByteArray := prog_10_method_65_code
def yJ9_max_7cf53 : MethodName := ⟨RJ9, "max", "(II)I"⟩
def RJ0 : String := "java/lang/String"
def TJ0 : u_T := fun k => match k with
  | _ => ("", "", "", false)
def tyJ0 : Nat → FieldType := fun k => match k with
  | _ => .int
abbrev wsJ00 : List Cond := u_ws RJ0 TJ0 0
theorem nmJ0 : ∀ a, a < 0 → ∀ b, b < 0 → a ≠ b → (TJ0 a).2.1 ≠ (TJ0 b).2.1 := by decide +kernel
theorem tyJ0_ok : ∀ k, k < 0 → parseFieldDescriptor (TJ0 k).2.2.1 = some (tyJ0 k) := by decide +kernel
def RJ10 : String := "java/lang/System"
def TJ10 : u_T := fun k => match k with
  | _ => ("", "", "", false)
def tyJ10 : Nat → FieldType := fun k => match k with
  | _ => .int
abbrev wsJ100 : List Cond := u_ws RJ10 TJ10 0
theorem nmJ10 : ∀ a, a < 0 → ∀ b, b < 0 → a ≠ b → (TJ10 a).2.1 ≠ (TJ10 b).2.1 := by decide +kernel
theorem tyJ10_ok : ∀ k, k < 0 → parseFieldDescriptor (TJ10 k).2.2.1 = some (tyJ10 k) := by decide +kernel
def RL : String := "DictationBeltLaw"
abbrev cL_cell : ByteArray := method_2_code
def yL_cell : MethodName := ⟨RL, "cell", "([II)I"⟩
abbrev cL_up : ByteArray := method_3_code
def yL_up : MethodName := ⟨RL, "up", "(II)I"⟩
abbrev cL_talk : ByteArray := method_4_code
def yL_talk : MethodName := ⟨RL, "talk", "(LDictationBelt;I)J"⟩
abbrev cL_isWritable : ByteArray := method_5_code
def yL_isWritable : MethodName := ⟨RL, "isWritable", "(LDictationBelt;I)Z"⟩
abbrev cL_speaks : ByteArray := method_6_code
def yL_speaks : MethodName := ⟨RL, "speaks", "(LDictationBelt;I)Z"⟩
abbrev cL_acts : ByteArray := method_7_code
def yL_acts : MethodName := ⟨RL, "acts", "(LDictationBelt;II)Z"⟩
abbrev cL_holds : ByteArray := method_8_code
def yL_holds : MethodName := ⟨RL, "holds", "(LDictationBelt;)Z"⟩
abbrev cL_isAhead : ByteArray := method_9_code
def yL_isAhead : MethodName := ⟨RL, "isAhead", "(LDictationBelt;I)Z"⟩
abbrev cL_law : ByteArray := code
def yL_law : MethodName := ⟨RL, "law", "([I)Z"⟩
def wsL_law0_r1 : List Cond := [Cond.classLink RL 12 RX2, Cond.instantiable RX2 5, Cond.initialized RX2, Cond.methodLink RL 131 yX2_init, Cond.instanceMethod yX2_init, Cond.code yX2_init cX2_init 2 none, Cond.methodLink RX2 1 objectInit, Cond.instanceMethod objectInit, Cond.code objectInit ⟨#[0xb1]⟩ 1 none, Cond.classLink RX2 7 RX1, Cond.instantiable RX1 14, Cond.initialized RX1, Cond.fieldLink RX2 10 "DictationBelt" "now" "LDictationBelt$State;", Cond.fieldLink RX2 16 "DictationBelt" "saved" "[LDictationBelt$State;", Cond.fieldLink RX2 20 "DictationBelt" "nextSlot" "I", Cond.fieldLink RX2 24 "DictationBelt" "savedCount" "I", Cond.classLink RX2 27 RX0, Cond.instantiable RX0 2, Cond.initialized RX0, Cond.fieldLink RX2 30 "DictationBelt" "text" "LDictationBelt$OrderText;", Cond.methodLink RX2 9 yX1_init, Cond.instanceMethod yX1_init, Cond.code yX1_init cX1_init 2 none, Cond.methodLink RX1 3 objectInit]
def wsL_law0_r2 : List Cond := [Cond.arrayClass .int, Cond.fieldLink RX1 9 "DictationBelt$State" "owners" "[I", Cond.fieldLink RX1 15 "DictationBelt$State" "sounds" "[I", Cond.fieldLink RX1 18 "DictationBelt$State" "carbons" "[I", Cond.fieldLink RX1 21 "DictationBelt$State" "order" "[I", Cond.fieldLink RX1 24 "DictationBelt$State" "used" "I", Cond.fieldLink RX1 28 "DictationBelt$State" "flags" "[I", Cond.fieldLink RX1 31 "DictationBelt$State" "losses" "[I", Cond.fieldLink RX1 34 "DictationBelt$State" "count" "I", Cond.fieldLink RX1 37 "DictationBelt$State" "isRunning" "Z", Cond.fieldLink RX1 41 "DictationBelt$State" "head" "I", Cond.fieldLink RX1 44 "DictationBelt$State" "spoken" "I", Cond.fieldLink RX1 47 "DictationBelt$State" "gone" "I", Cond.fieldLink RX1 50 "DictationBelt$State" "player" "I", Cond.fieldLink RX1 53 "DictationBelt$State" "place" "I", Cond.methodLink RX2 29 yX0_init, Cond.instanceMethod yX0_init, Cond.code yX0_init cX0_init 1 none, Cond.methodLink RX0 3 objectInit, Cond.fieldLink RX0 9 "DictationBelt$OrderText" "codes" "[I", Cond.fieldLink RX0 15 "DictationBelt$OrderText" "length" "I", Cond.methodLink RL 132 yL_holds, Cond.static yL_holds, Cond.initialized RL]
def wsL_law0_r3 : List Cond := [Cond.code yL_holds cL_holds 12 (some .boolean), Cond.constantDouble RL 129 (4629700416936869888), Cond.methodLink RL 85 yX2_free, Cond.instanceMethod yX2_free, Cond.selects RX2 yX2_free yX2_free, Cond.code yX2_free cX2_free 1 (some .int), Cond.fieldLink RX2 129 "DictationBelt$State" "used" "I", Cond.methodLink RL 63 yX2_recordings, Cond.instanceMethod yX2_recordings, Cond.selects RX2 yX2_recordings yX2_recordings, Cond.code yX2_recordings cX2_recordings 1 (some .int), Cond.fieldLink RX2 99 "DictationBelt$State" "count" "I", Cond.methodLink RL 33 yX2_running, Cond.instanceMethod yX2_running, Cond.selects RX2 yX2_running yX2_running, Cond.code yX2_running cX2_running 1 (some .int), Cond.methodLink RX2 102 yX1_runningNumber, Cond.instanceMethod yX1_runningNumber, Cond.selects RX1 yX1_runningNumber yX1_runningNumber, Cond.code yX1_runningNumber cX1_runningNumber 1 (some .int), Cond.methodLink RL 11 yX2_length, Cond.instanceMethod yX2_length, Cond.selects RX2 yX2_length yX2_length, Cond.code yX2_length cX2_length 2 (some .int)]
def wsL_law0_r4 : List Cond := [Cond.methodLink RX2 75 yX2_requireRecording, Cond.instanceMethod yX2_requireRecording, Cond.selects RX2 yX2_requireRecording yX2_requireRecording, Cond.code yX2_requireRecording cX2_requireRecording 2 none, Cond.classLink RX2 279 "java/lang/IndexOutOfBoundsException", Cond.initialized "java/lang/IndexOutOfBoundsException", Cond.methodLink RX2 276 yX1_isRecording, Cond.instanceMethod yX1_isRecording, Cond.selects RX1 yX1_isRecording yX1_isRecording, Cond.code yX1_isRecording cX1_isRecording 2 (some .boolean), Cond.methodLink RX2 105 yX1_cellCount, Cond.instanceMethod yX1_cellCount, Cond.selects RX1 yX1_cellCount yX1_cellCount, Cond.code yX1_cellCount cX1_cellCount 4 (some .int), Cond.static yX2_valueAt, Cond.code yX2_valueAt cX2_valueAt 2 (some .int), Cond.methodLink RL 37 yX2_hasFlag, Cond.instanceMethod yX2_hasFlag, Cond.selects RX2 yX2_hasFlag yX2_hasFlag, Cond.code yX2_hasFlag cX2_hasFlag 2 (some .boolean), Cond.methodLink RX2 78 yX1_isFlagged, Cond.instanceMethod yX1_isFlagged, Cond.selects RX1 yX1_isFlagged yX1_isFlagged, Cond.code yX1_isFlagged cX1_isFlagged 2 (some .boolean)]
def wsL_law0_r5 : List Cond := [Cond.methodLink RL 20 yX2_cellOf, Cond.instanceMethod yX2_cellOf, Cond.selects RX2 yX2_cellOf yX2_cellOf, Cond.code yX2_cellOf cX2_cellOf 3 (some .int), Cond.methodLink RX2 108 yX2_requirePlace, Cond.instanceMethod yX2_requirePlace, Cond.selects RX2 yX2_requirePlace yX2_requirePlace, Cond.code yX2_requirePlace cX2_requirePlace 3 none, Cond.methodLink RX2 116 yX1_cellAt, Cond.instanceMethod yX1_cellAt, Cond.selects RX1 yX1_cellAt yX1_cellAt, Cond.code yX1_cellAt cX1_cellAt 6 (some .int), Cond.methodLink RL 30 yX2_owner, Cond.instanceMethod yX2_owner, Cond.selects RX2 yX2_owner yX2_owner, Cond.code yX2_owner cX2_owner 2 (some .int), Cond.fieldLink RX2 126 "DictationBelt$State" "owners" "[I", Cond.methodLink RX2 91 yX2_requireCell, Cond.static yX2_requireCell, Cond.code yX2_requireCell cX2_requireCell 1 none, Cond.methodLink RX2 119 yX2_valueAt, Cond.methodLink RL 24 yX2_sound, Cond.instanceMethod yX2_sound, Cond.selects RX2 yX2_sound yX2_sound]
def wsL_law0_r6 : List Cond := [Cond.code yX2_sound cX2_sound 3 (some .int), Cond.fieldLink RX2 112 "DictationBelt$State" "sounds" "[I", Cond.methodLink RL 27 yX2_carbon, Cond.instanceMethod yX2_carbon, Cond.selects RX2 yX2_carbon yX2_carbon, Cond.code yX2_carbon cX2_carbon 3 (some .int), Cond.fieldLink RX2 167 "DictationBelt$State" "carbons" "[I", Cond.methodLink RL 17 yX2_lost, Cond.instanceMethod yX2_lost, Cond.selects RX2 yX2_lost yX2_lost, Cond.code yX2_lost cX2_lost 2 (some .int), Cond.fieldLink RX2 123 "DictationBelt$State" "losses" "[I", Cond.methodLink RL 103 yX2_playing, Cond.instanceMethod yX2_playing, Cond.selects RX2 yX2_playing yX2_playing, Cond.code yX2_playing cX2_playing 1 (some .int), Cond.fieldLink RX2 157 "DictationBelt$State" "player" "I", Cond.methodLink RL 94 yX2_place, Cond.instanceMethod yX2_place, Cond.selects RX2 yX2_place yX2_place, Cond.code yX2_place cX2_place 1 (some .int), Cond.fieldLink RX2 160 "DictationBelt$State" "place" "I", Cond.methodLink RL 41 yX2_room, Cond.instanceMethod yX2_room]
def wsL_law0_r7 : List Cond := [Cond.selects RX2 yX2_room yX2_room, Cond.code yX2_room cX2_room 1 (some .int), Cond.methodLink RX2 173 yX1_writableCells, Cond.instanceMethod yX1_writableCells, Cond.selects RX1 yX1_writableCells yX1_writableCells, Cond.code yX1_writableCells cX1_writableCells 3 (some .int), Cond.methodLink RX1 88 yX1_isWritable, Cond.instanceMethod yX1_isWritable, Cond.selects RX1 yX1_isWritable yX1_isWritable, Cond.code yX1_isWritable cX1_isWritable 3 (some .boolean), Cond.methodLink RX1 70 yX1_runningNumber, Cond.methodLink RL 119 yX2_corrected, Cond.instanceMethod yX2_corrected, Cond.selects RX2 yX2_corrected yX2_corrected, Cond.code yX2_corrected cX2_corrected 1 (some .int), Cond.methodLink RX2 170 yX1_correctedCells, Cond.instanceMethod yX1_correctedCells, Cond.selects RX1 yX1_correctedCells yX1_correctedCells, Cond.code yX1_correctedCells cX1_correctedCells 3 (some .int), Cond.methodLink RL 122 yX2_nextLoser, Cond.instanceMethod yX2_nextLoser, Cond.selects RX2 yX2_nextLoser yX2_nextLoser, Cond.code yX2_nextLoser cX2_nextLoser 1 (some .int), Cond.methodLink RX2 176 yX1_firstLoser]
def wsL_law0_r8 : List Cond := [Cond.instanceMethod yX1_firstLoser, Cond.selects RX1 yX1_firstLoser yX1_firstLoser, Cond.code yX1_firstLoser cX1_firstLoser 4 (some .int), Cond.methodLink RX1 92 yX1_cellFromHead, Cond.instanceMethod yX1_cellFromHead, Cond.selects RX1 yX1_cellFromHead yX1_cellFromHead, Cond.code yX1_cellFromHead cX1_cellFromHead 2 (some .int), Cond.methodLink RL 125 yX2_usedShare, Cond.instanceMethod yX2_usedShare, Cond.selects RX2 yX2_usedShare yX2_usedShare, Cond.code yX2_usedShare cX2_usedShare 1 (some .double), Cond.constantDouble RX2 138 (4629700416936869888), Cond.methodLink RL 136 yL_cell, Cond.static yL_cell, Cond.code yL_cell cL_cell 2 (some .int), Cond.constant RL 7 (1812433253), Cond.methodLink RL 140 yX2_digest, Cond.instanceMethod yX2_digest, Cond.selects RX2 yX2_digest yX2_digest, Cond.code yX2_digest cX2_digest 4 (some .long), Cond.constantLong RX2 216 (4444), Cond.methodLink RX2 218 yX2_recordings, Cond.methodLink RX2 221 yX2_mixed, Cond.static yX2_mixed]
def wsL_law0_r9 : List Cond := [Cond.code yX2_mixed cX2_mixed 4 (some .long), Cond.constantLong RX2 258 (31), Cond.methodLink RX2 225 yX2_running, Cond.methodLink RX2 228 yX2_head, Cond.instanceMethod yX2_head, Cond.selects RX2 yX2_head yX2_head, Cond.code yX2_head cX2_head 1 (some .int), Cond.fieldLink RX2 96 "DictationBelt$State" "head" "I", Cond.methodLink RX2 230 yX2_free, Cond.methodLink RX2 233 yX2_spoken, Cond.instanceMethod yX2_spoken, Cond.selects RX2 yX2_spoken yX2_spoken, Cond.code yX2_spoken cX2_spoken 1 (some .int), Cond.fieldLink RX2 132 "DictationBelt$State" "spoken" "I", Cond.methodLink RX2 235 yX2_gone, Cond.instanceMethod yX2_gone, Cond.selects RX2 yX2_gone yX2_gone, Cond.code yX2_gone cX2_gone 1 (some .int), Cond.fieldLink RX2 135 "DictationBelt$State" "gone" "I", Cond.methodLink RX2 237 yX2_playing, Cond.methodLink RX2 240 yX2_place, Cond.methodLink RX2 242 yX2_corrected, Cond.methodLink RX2 245 yX2_room, Cond.methodLink RX2 248 yX2_nextLoser]
def wsL_law0_r10_a : List Cond := [Cond.methodLink RX2 251 yX2_withRecording, Cond.instanceMethod yX2_withRecording, Cond.selects RX2 yX2_withRecording yX2_withRecording, Cond.code yX2_withRecording cX2_withRecording 8 (some .long), Cond.fieldLink RX2 255 "DictationBelt$State" "order" "[I", Cond.methodLink RL 144 yX2_savedStates, Cond.instanceMethod yX2_savedStates, Cond.selects RX2 yX2_savedStates yX2_savedStates, Cond.code yX2_savedStates cX2_savedStates 1 (some .int), Cond.methodLink RL 147 yL_acts, Cond.static yL_acts]
def wsL_law0_r10_b : List Cond := [Cond.methodLink RL 79 yX2_begin, Cond.instanceMethod yX2_begin, Cond.selects RX2 yX2_begin yX2_begin, Cond.code yX2_begin cX2_begin 1 (some .int), Cond.classLink RX2 38 "java/lang/IllegalStateException", Cond.initialized "java/lang/IllegalStateException", Cond.methodLink RX2 34 yX1_mayBegin, Cond.instanceMethod yX1_mayBegin, Cond.selects RX1 yX1_mayBegin yX1_mayBegin, Cond.code yX1_mayBegin cX1_mayBegin 1 (some .boolean), Cond.methodLink RX1 74 yX1_cellCount, Cond.methodLink RX2 45 yX2_save]
def wsL_law0_r10 : List Cond := wsL_law0_r10_a ++ (Cond.code yL_acts cL_acts 20 (some .boolean) :: wsL_law0_r10_b)
def wsL_law0_r11 : List Cond := [Cond.instanceMethod yX2_save, Cond.selects RX2 yX2_save yX2_save, Cond.code yX2_save cX2_save 2 none, Cond.methodLink RX2 208 yX2_slotAt, Cond.instanceMethod yX2_slotAt, Cond.selects RX2 yX2_slotAt yX2_slotAt, Cond.code yX2_slotAt cX2_slotAt 2 (some (.object "DictationBelt$State")), Cond.methodLink RX2 212 yX1_copyFrom, Cond.instanceMethod yX1_copyFrom, Cond.selects RX1 yX1_copyFrom yX1_copyFrom, Cond.code yX1_copyFrom cX1_copyFrom 2 none, Cond.methodLink RX1 56 arraycopyName, Cond.native arraycopyName, Cond.static arraycopyName, Cond.initialized "java/lang/System", Cond.methodLink RX2 48 yX1_beginRecording, Cond.instanceMethod yX1_beginRecording, Cond.selects RX1 yX1_beginRecording yX1_beginRecording, Cond.code yX1_beginRecording cX1_beginRecording 2 (some .int), Cond.methodLink RX1 78 yX1_stopRecording, Cond.instanceMethod yX1_stopRecording, Cond.selects RX1 yX1_stopRecording yX1_stopRecording, Cond.code yX1_stopRecording cX1_stopRecording 3 (some .int), Cond.methodLink RX1 81 yX1_removeRecording]
def wsL_law0_r12 : List Cond := [Cond.instanceMethod yX1_removeRecording, Cond.selects RX1 yX1_removeRecording yX1_removeRecording, Cond.code yX1_removeRecording cX1_removeRecording 4 none, Cond.static yX2_putAt, Cond.code yX2_putAt cX2_putAt 3 none, Cond.methodLink RL 82 yL_up, Cond.static yL_up, Cond.code yL_up cL_up 2 (some .int), Cond.constant RL 8 (2147483647), Cond.methodLink RL 44 yX2_setFlag, Cond.instanceMethod yX2_setFlag, Cond.selects RX2 yX2_setFlag yX2_setFlag, Cond.code yX2_setFlag cX2_setFlag 4 (some .boolean), Cond.methodLink RX2 81 yX1_putFlag, Cond.instanceMethod yX1_putFlag, Cond.selects RX1 yX1_putFlag yX1_putFlag, Cond.code yX1_putFlag cX1_putFlag 3 none, Cond.methodLink RL 88 yX2_erase, Cond.instanceMethod yX2_erase, Cond.selects RX2 yX2_erase yX2_erase, Cond.code yX2_erase cX2_erase 2 (some .int), Cond.methodLink RX2 87 yX1_eraseRecording, Cond.instanceMethod yX1_eraseRecording, Cond.selects RX1 yX1_eraseRecording yX1_eraseRecording]
def wsL_law0_r13 : List Cond := [Cond.code yX1_eraseRecording cX1_eraseRecording 4 (some .int), Cond.methodLink RX1 85 yX1_dropFreeCells, Cond.instanceMethod yX1_dropFreeCells, Cond.selects RX1 yX1_dropFreeCells yX1_dropFreeCells, Cond.code yX1_dropFreeCells cX1_dropFreeCells 4 none, Cond.methodLink RL 91 yX2_go, Cond.instanceMethod yX2_go, Cond.selects RX2 yX2_go yX2_go, Cond.code yX2_go cX2_go 2 (some .int), Cond.methodLink RX2 140 yX1_bringPlayer, Cond.instanceMethod yX1_bringPlayer, Cond.selects RX1 yX1_bringPlayer yX1_bringPlayer, Cond.code yX1_bringPlayer cX1_bringPlayer 2 none, Cond.methodLink RL 97 yX2_halt, Cond.instanceMethod yX2_halt, Cond.selects RX2 yX2_halt yX2_halt, Cond.code yX2_halt cX2_halt 1 (some .int), Cond.fieldLink RX2 52 "DictationBelt$State" "isRunning" "Z", Cond.methodLink RX2 58 yX1_stopRecording, Cond.methodLink RL 48 yX2_head, Cond.methodLink RL 100 yX2_moveHead, Cond.instanceMethod yX2_moveHead, Cond.selects RX2 yX2_moveHead yX2_moveHead, Cond.code yX2_moveHead cX2_moveHead 3 (some .int)]
def wsL_law0_r14 : List Cond := [Cond.methodLink RL 106 yX2_play, Cond.instanceMethod yX2_play, Cond.selects RX2 yX2_play yX2_play, Cond.code yX2_play cX2_play 1 (some .int), Cond.methodLink RX2 143 yX2_requirePlayer, Cond.instanceMethod yX2_requirePlayer, Cond.selects RX2 yX2_requirePlayer yX2_requirePlayer, Cond.code yX2_requirePlayer cX2_requirePlayer 1 none, Cond.methodLink RX2 146 yX1_playCell, Cond.instanceMethod yX1_playCell, Cond.selects RX1 yX1_playCell yX1_playCell, Cond.code yX1_playCell cX1_playCell 2 (some .int), Cond.methodLink RX1 111 yX1_cellAt, Cond.methodLink RL 109 yX2_back, Cond.instanceMethod yX2_back, Cond.selects RX2 yX2_back yX2_back, Cond.code yX2_back cX2_back 2 (some .int), Cond.classLink RX2 149 "java/lang/IllegalArgumentException", Cond.initialized "java/lang/IllegalArgumentException", Cond.methodLink RX2 154 yX1_stepBack, Cond.instanceMethod yX1_stepBack, Cond.selects RX1 yX1_stepBack yX1_stepBack, Cond.code yX1_stepBack cX1_stepBack 2 (some .int), Cond.methodLink RX1 115 Lib.Math.max.name]
def wsL_law0_r15 : List Cond := [Cond.static Lib.Math.max.name, Cond.initialized "java/lang/Math", Cond.code Lib.Math.max.name Lib.Math.max.code 2 (some .int), Cond.methodLink RL 112 yX2_correct, Cond.instanceMethod yX2_correct, Cond.selects RX2 yX2_correct yX2_correct, Cond.code yX2_correct cX2_correct 6 (some .int), Cond.methodLink RX2 61 yX2_requireSound, Cond.static yX2_requireSound, Cond.code yX2_requireSound cX2_requireSound 1 none, Cond.methodLink RX2 163 yX2_putAt, Cond.methodLink RL 116 yL_speaks, Cond.static yL_speaks, Cond.code yL_speaks cL_speaks 17 (some .boolean), Cond.arrayClass .long, Cond.methodLink RL 51 yL_isWritable, Cond.static yL_isWritable, Cond.code yL_isWritable cL_isWritable 3 (some .boolean), Cond.methodLink RL 57 yX2_gone, Cond.methodLink RL 60 yX2_spoken, Cond.methodLink RL 66 yX2_goneAfter, Cond.instanceMethod yX2_goneAfter, Cond.selects RX2 yX2_goneAfter yX2_goneAfter, Cond.code yX2_goneAfter cX2_goneAfter 5 (some .int)]
def wsL_law0_r16 : List Cond := [Cond.methodLink RX2 179 yX2_requireForecast, Cond.static yX2_requireForecast, Cond.code yX2_requireForecast cX2_requireForecast 1 none, Cond.methodLink RX2 182 yX1_lossAfter, Cond.instanceMethod yX1_lossAfter, Cond.selects RX1 yX1_lossAfter yX1_lossAfter, Cond.code yX1_lossAfter cX1_lossAfter 7 (some .int), Cond.methodLink RL 69 yX2_lossOf, Cond.instanceMethod yX2_lossOf, Cond.selects RX2 yX2_lossOf yX2_lossOf, Cond.code yX2_lossOf cX2_lossOf 3 (some .int), Cond.methodLink RL 72 yL_talk, Cond.static yL_talk, Cond.code yL_talk cL_talk 5 (some .long), Cond.constantLong RL 9 (31), Cond.methodLink RL 76 yX2_speak, Cond.instanceMethod yX2_speak, Cond.selects RX2 yX2_speak yX2_speak, Cond.code yX2_speak cX2_speak 2 (some .int), Cond.methodLink RX2 65 yX1_maySpeak, Cond.instanceMethod yX1_maySpeak, Cond.selects RX1 yX1_maySpeak yX1_maySpeak, Cond.code yX1_maySpeak cX1_maySpeak 2 (some .boolean), Cond.methodLink RX1 95 yX1_writableCells]
def wsL_law0_r17 : List Cond := [Cond.methodLink RX2 71 yX1_speakTimes, Cond.instanceMethod yX1_speakTimes, Cond.selects RX1 yX1_speakTimes yX1_speakTimes, Cond.code yX1_speakTimes cX1_speakTimes 5 (some .int), Cond.methodLink RX1 98 yX1_firstWritable, Cond.instanceMethod yX1_firstWritable, Cond.selects RX1 yX1_firstWritable yX1_firstWritable, Cond.code yX1_firstWritable cX1_firstWritable 3 (some .int), Cond.methodLink RX1 101 yX1_loseCell, Cond.instanceMethod yX1_loseCell, Cond.selects RX1 yX1_loseCell yX1_loseCell, Cond.code yX1_loseCell cX1_loseCell 3 none, Cond.methodLink RX1 108 yX1_cellsBefore, Cond.instanceMethod yX1_cellsBefore, Cond.selects RX1 yX1_cellsBefore yX1_cellsBefore, Cond.code yX1_cellsBefore cX1_cellsBefore 6 (some .int), Cond.methodLink RX1 104 yX1_writeCell, Cond.instanceMethod yX1_writeCell, Cond.selects RX1 yX1_writeCell yX1_writeCell, Cond.code yX1_writeCell cX1_writeCell 3 none, Cond.methodLink RL 151 yX2_undo, Cond.instanceMethod yX2_undo, Cond.selects RX2 yX2_undo yX2_undo, Cond.code yX2_undo cX2_undo 2 (some .int)]
def wsL_law0_r18 : List Cond := [Cond.methodLink RL 154 yL_isAhead, Cond.static yL_isAhead, Cond.code yL_isAhead cL_isAhead 8 (some .boolean)]
def wsL_law0 : List Cond := (wsL_law0_r1 ++ (wsL_law0_r2 ++ (wsL_law0_r3 ++ (wsL_law0_r4 ++ (wsL_law0_r5 ++ (wsL_law0_r6 ++ (wsL_law0_r7 ++ (wsL_law0_r8 ++ (wsL_law0_r9 ++ (wsL_law0_r10 ++ (wsL_law0_r11 ++ (wsL_law0_r12 ++ (wsL_law0_r13 ++ (wsL_law0_r14 ++ (wsL_law0_r15 ++ (wsL_law0_r16 ++ (wsL_law0_r17 ++ wsL_law0_r18))))))))))))))))) ++ wsX20 ++ wsX10 ++ wsX00 ++ ([] : List Cond)
def wsL_law : List Cond := wsL_law0 ++ (vx_atS RX2 283 "java/lang/IndexOutOfBoundsException" ["java/lang/RuntimeException", "java/lang/Exception"]).filter goodWord ++ (vx_atS RX2 42 "java/lang/IllegalStateException" ["java/lang/RuntimeException", "java/lang/Exception"]).filter goodWord ++ (vx_atS RX2 153 "java/lang/IllegalArgumentException" ["java/lang/RuntimeException", "java/lang/Exception"]).filter goodWord
set_option maxRecDepth 20000 in
theorem wsL_law0_r1_in : ∀ w ∈ wsL_law0_r1, w ∈ lw_tbl := fun w h => (goodIn_p wsL_law0_r1 [23, 26, 31] (by decide +kernel) (by decide +kernel) w h).1
set_option maxRecDepth 20000 in
theorem wsL_law0_r2_in : ∀ w ∈ wsL_law0_r2, w ∈ lw_tbl := fun w h => (goodIn_p wsL_law0_r2 [95] (by decide +kernel) (by decide +kernel) w h).1
set_option maxRecDepth 20000 in
theorem wsL_law0_r3_in : ∀ w ∈ wsL_law0_r3, w ∈ lw_tbl := fun w h => (goodIn_p wsL_law0_r3 [564, 251, 234, 242, 138, 318] (by decide +kernel) (by decide +kernel) w h).1
set_option maxRecDepth 20000 in
theorem wsL_law0_r4_in : ∀ w ∈ wsL_law0_r4, w ∈ lw_tbl := fun w h => (goodIn_p wsL_law0_r4 [322, 326, 296, 134, 375, 300] (by decide +kernel) (by decide +kernel) w h).1
set_option maxRecDepth 20000 in
theorem wsL_law0_r5_in : ∀ w ∈ wsL_law0_r5, w ∈ lw_tbl := fun w h => (goodIn_p wsL_law0_r5 [530, 431, 436, 500, 420] (by decide +kernel) (by decide +kernel) w h).1
set_option maxRecDepth 20000 in
theorem wsL_law0_r6_in : ∀ w ∈ wsL_law0_r6, w ∈ lw_tbl := fun w h => (goodIn_p wsL_law0_r6 [427, 481, 526, 263, 267] (by decide +kernel) (by decide +kernel) w h).1
set_option maxRecDepth 20000 in
theorem wsL_law0_r7_in : ∀ w ∈ wsL_law0_r7, w ∈ lw_tbl := fun w h => (goodIn_p wsL_law0_r7 [123, 127, 131, 271, 275, 280] (by decide +kernel) (by decide +kernel) w h).1
set_option maxRecDepth 20000 in
theorem wsL_law0_r8_in : ∀ w ∈ wsL_law0_r8, w ∈ lw_tbl := fun w h => (goodIn_p wsL_law0_r8 [284, 288, 570, 304, 229] (by decide +kernel) (by decide +kernel) w h).1
set_option maxRecDepth 20000 in
theorem wsL_law0_r9_in : ∀ w ∈ wsL_law0_r9, w ∈ lw_tbl := fun w h => (goodIn_p wsL_law0_r9 [237, 247, 255, 259] (by decide +kernel) (by decide +kernel) w h).1
set_option maxRecDepth 20000 in
theorem wsL_law0_r10_a_in : ∀ w ∈ wsL_law0_r10_a, w ∈ lw_tbl := fun w h => (goodIn_p wsL_law0_r10_a [292, 225] (by decide +kernel) (by decide +kernel) w h).1
set_option maxRecDepth 20000 in
theorem wsL_law0_r10_b_in : ∀ w ∈ wsL_law0_r10_b, w ∈ lw_tbl := fun w h => (goodIn_p wsL_law0_r10_b [346, 350] (by decide +kernel) (by decide +kernel) w h).1
set_option maxRecDepth 100000 in
theorem wsL_law0_r10_m : Cond.code yL_acts cL_acts 20 (some .boolean) ∈ lw_tbl := List.mem_of_getElem? (i := 312) rfl
theorem wsL_law0_r10_in : ∀ w ∈ wsL_law0_r10, w ∈ lw_tbl := List.forall_mem_append.mpr ⟨wsL_law0_r10_a_in, List.forall_mem_cons.mpr ⟨wsL_law0_r10_m, wsL_law0_r10_b_in⟩⟩
set_option maxRecDepth 20000 in
theorem wsL_law0_r11_in : ∀ w ∈ wsL_law0_r11, w ∈ lw_tbl := fun w h => (goodIn_p wsL_law0_r11 [356, 214, 218, 360, 364] (by decide +kernel) (by decide +kernel) w h).1
set_option maxRecDepth 20000 in
theorem wsL_law0_r12_in : ∀ w ∈ wsL_law0_r12, w ∈ lw_tbl := fun w h => (goodIn_p wsL_law0_r12 [368, 371, 308, 380, 384, 388] (by decide +kernel) (by decide +kernel) w h).1
set_option maxRecDepth 20000 in
theorem wsL_law0_r13_in : ∀ w ∈ wsL_law0_r13, w ∈ lw_tbl := fun w h => (goodIn_p wsL_law0_r13 [393, 397, 401, 405, 410, 417] (by decide +kernel) (by decide +kernel) w h).1
set_option maxRecDepth 20000 in
theorem wsL_law0_r14_in : ∀ w ∈ wsL_law0_r14, w ∈ lw_tbl := fun w h => (goodIn_p wsL_law0_r14 [440, 444, 449, 454, 474] (by decide +kernel) (by decide +kernel) w h).1
set_option maxRecDepth 20000 in
theorem wsL_law0_r15_in : ∀ w ∈ wsL_law0_r15, w ∈ lw_tbl := fun w h => (goodIn_p wsL_law0_r15 [477, 485, 488, 493, 496, 506] (by decide +kernel) (by decide +kernel) w h).1
set_option maxRecDepth 20000 in
theorem wsL_law0_r16_in : ∀ w ∈ wsL_law0_r16, w ∈ lw_tbl := fun w h => (goodIn_p wsL_law0_r16 [509, 514, 518, 521, 534, 538] (by decide +kernel) (by decide +kernel) w h).1
set_option maxRecDepth 20000 in
theorem wsL_law0_r17_in : ∀ w ∈ wsL_law0_r17, w ∈ lw_tbl := fun w h => (goodIn_p wsL_law0_r17 [544, 548, 552, 556, 560, 142] (by decide +kernel) (by decide +kernel) w h).1
set_option maxRecDepth 20000 in
theorem wsL_law0_r18_in : ∀ w ∈ wsL_law0_r18, w ∈ lw_tbl := fun w h => (goodIn_p wsL_law0_r18 [575] (by decide +kernel) (by decide +kernel) w h).1
set_option maxRecDepth 20000 in
theorem wsX20_in : ∀ w ∈ wsX20, w ∈ lw_tbl := by decide +kernel
set_option maxRecDepth 20000 in
theorem wsX10_in : ∀ w ∈ wsX10, w ∈ lw_tbl := by decide +kernel
set_option maxRecDepth 20000 in
theorem wsX00_in : ∀ w ∈ wsX00, w ∈ lw_tbl := by decide +kernel
theorem wsL_law_in0 : ∀ w ∈ wsL_law0, w ∈ lw_tbl := List.forall_mem_append.mpr ⟨List.forall_mem_append.mpr ⟨List.forall_mem_append.mpr ⟨List.forall_mem_append.mpr ⟨List.forall_mem_append.mpr ⟨wsL_law0_r1_in, List.forall_mem_append.mpr ⟨wsL_law0_r2_in, List.forall_mem_append.mpr ⟨wsL_law0_r3_in, List.forall_mem_append.mpr ⟨wsL_law0_r4_in, List.forall_mem_append.mpr ⟨wsL_law0_r5_in, List.forall_mem_append.mpr ⟨wsL_law0_r6_in, List.forall_mem_append.mpr ⟨wsL_law0_r7_in, List.forall_mem_append.mpr ⟨wsL_law0_r8_in, List.forall_mem_append.mpr ⟨wsL_law0_r9_in, List.forall_mem_append.mpr ⟨wsL_law0_r10_in, List.forall_mem_append.mpr ⟨wsL_law0_r11_in, List.forall_mem_append.mpr ⟨wsL_law0_r12_in, List.forall_mem_append.mpr ⟨wsL_law0_r13_in, List.forall_mem_append.mpr ⟨wsL_law0_r14_in, List.forall_mem_append.mpr ⟨wsL_law0_r15_in, List.forall_mem_append.mpr ⟨wsL_law0_r16_in, List.forall_mem_append.mpr ⟨wsL_law0_r17_in, wsL_law0_r18_in⟩⟩⟩⟩⟩⟩⟩⟩⟩⟩⟩⟩⟩⟩⟩⟩⟩, wsX20_in⟩, wsX10_in⟩, wsX00_in⟩, fun _ h => absurd h List.not_mem_nil⟩
theorem wsL_law_x0 : ∀ w ∈ (vx_atS RX2 283 "java/lang/IndexOutOfBoundsException" ["java/lang/RuntimeException", "java/lang/Exception"]).filter goodWord, w ∈ lw_tbl := by decide +kernel
theorem wsL_law_x1 : ∀ w ∈ (vx_atS RX2 42 "java/lang/IllegalStateException" ["java/lang/RuntimeException", "java/lang/Exception"]).filter goodWord, w ∈ lw_tbl := by decide +kernel
theorem wsL_law_x2 : ∀ w ∈ (vx_atS RX2 153 "java/lang/IllegalArgumentException" ["java/lang/RuntimeException", "java/lang/Exception"]).filter goodWord, w ∈ lw_tbl := by decide +kernel
theorem wsL_law_in : ∀ w ∈ wsL_law, w ∈ lw_tbl := fun w h => (List.mem_append.mp h).elim (fun h => (List.mem_append.mp h).elim (fun h => (List.mem_append.mp h).elim (fun h => wsL_law_in0 w h) (fun h => wsL_law_x0 w h)) (fun h => wsL_law_x1 w h)) (fun h => wsL_law_x2 w h)
theorem inlX0 : ∀ w ∈ wsX00, w ∈ wsL_law := fun _ h => List.mem_append_left _ (List.mem_append_left _ (List.mem_append_left _ (List.mem_append_left _ (List.mem_append_right _ h))))
theorem inX0 : ∀ w ∈ wsX00, w ∈ lw_tbl := fun w h => wsL_law_in w (inlX0 w h)
theorem inlX1 : ∀ w ∈ wsX10, w ∈ wsL_law := fun _ h => List.mem_append_left _ (List.mem_append_left _ (List.mem_append_left _ (List.mem_append_left _ (List.mem_append_left _ (List.mem_append_right _ h)))))
theorem inX1 : ∀ w ∈ wsX10, w ∈ lw_tbl := fun w h => wsL_law_in w (inlX1 w h)
theorem inlX2 : ∀ w ∈ wsX20, w ∈ wsL_law := fun _ h => List.mem_append_left _ (List.mem_append_left _ (List.mem_append_left _ (List.mem_append_left _ (List.mem_append_left _ (List.mem_append_left _ (List.mem_append_right _ h))))))
theorem inX2 : ∀ w ∈ wsX20, w ∈ lw_tbl := fun w h => wsL_law_in w (inlX2 w h)
theorem inX3 : ∀ w ∈ wsX30, w ∈ lw_tbl := by decide +kernel
theorem inJ9 : ∀ w ∈ wsJ90, w ∈ lw_tbl := by decide +kernel
theorem inJ0 : ∀ w ∈ wsJ00, w ∈ lw_tbl := by decide +kernel
theorem inJ10 : ∀ w ∈ wsJ100, w ∈ lw_tbl := by decide +kernel
abbrev vwCl : List vw_C := [(RX0, TX0, 2), (RX1, TX1, 14), (RX2, TX2, 5)]
end
section
/-! THE LAYER: one word list for all methods, one judgement X over a context, the rows of the kit lifted to it; words for the code that is read out of the bytecode -/
abbrev GW : List Cond := wsL_law
set_option maxRecDepth 100000 in
theorem gw_good : wsL_law.all goodWord = true := by decide +kernel
theorem gw_self : GoodIn GW GW := goodIn_sub (fun _ h => h) gw_good
theorem gw_app (ws : List Cond) (ps : List Nat) (hp : ws = ps.filterMap (fun i => GW[i]?)) (h : ws.all goodWord = true) : GoodIn GW (ws ++ GW) := goodIn_app (goodIn_r ws ps hp h) gw_self
/-- the classes of the arrays: of ints, of longs, of states -/
abbrev CS : Type := ClassId × ClassId × ClassId
abbrev TY (cs : CS) : List (ClassId × FieldType) := [(cs.1, .int), (cs.2.1, .long), (cs.2.2, .object RX1)]
def nestW : List Cond := [.methodLinkNest RX1 62 yX2_valueAt RX2, .methodLinkNest RX1 66 yX2_putAt RX2]
def castW : List Cond := [.castable "java/lang/IllegalStateException" "java/lang/IllegalStateException", .castable "java/lang/IllegalArgumentException" "java/lang/IllegalArgumentException", .castable "java/lang/IndexOutOfBoundsException" "java/lang/IndexOutOfBoundsException", .declares ⟨"java/lang/RuntimeException", "<init>", "(Ljava/lang/String;)V"⟩, .declares ⟨"java/lang/Exception", "<init>", "(Ljava/lang/String;)V"⟩, .declares ⟨"java/lang/Throwable", "<init>", "(Ljava/lang/String;)V"⟩, .arrayOver (.object RX1)]
def ncW : List (String × String) := []
def strW : List (Nat × String) := [(40, "there are 10 recordings"), (56, "no recording is running"), (290, "a sound is 0 to 99"), (69, "no recording is running, or the belt is full"), (281, "there is no such recording"), (85, "the recording has a flag"), (288, "there is no such cell"), (94, "a recording is running"), (284, "there is no such recording or place"), (286, "the player is nowhere"), (151, "the pedal goes back by 1 to 9 cells"), (292, "a forecast is for 1 to 32 sounds"), (206, "no state is saved")]
/-- the tables' facts that each callee is handed -/
def KN (D : va_G) (cs : CS) (U : State) : Prop := va_K D vwCl (TY cs) U ∧ (∀ w ∈ nestW, va_Nw w U) ∧ (∀ w ∈ castW, va_Nw w U) ∧ (∀ q ∈ ncW, va_Nc q.1 q.2 U) ∧ ∀ q ∈ strW, ∃ a, vk_R RX2 q.1 q.2 a U
theorem nest_shape {w : Cond} (h : w ∈ nestW) : ∃ (a : String) (i : Nat) (x : MethodName) (b : String), w = .methodLinkNest a i x b := by
  simp only [nestW, List.mem_cons, List.not_mem_nil, or_false] at h
  rcases h with h | h <;> exact ⟨_, _, _, _, h⟩
theorem cast_shape {w : Cond} (h : w ∈ castW) : (∃ (a b : String), w = .castable a b) ∨ (∃ x : MethodName, w = .declares x) ∨ w = .arrayOver (.object RX1) := by
  simp only [castW, List.mem_cons, List.not_mem_nil, or_false] at h
  rcases h with h | h | h | h | h | h | h
  · exact Or.inl ⟨_, _, h⟩
  · exact Or.inl ⟨_, _, h⟩
  · exact Or.inl ⟨_, _, h⟩
  · exact Or.inr (Or.inl ⟨_, h⟩)
  · exact Or.inr (Or.inl ⟨_, h⟩)
  · exact Or.inr (Or.inl ⟨_, h⟩)
  · exact Or.inr (Or.inr h)
theorem KN.warm {D : va_G} {cs : CS} {s U : State} (hW : s.WarmedH U.vm) (h : KN D cs s) : KN D cs U := by
  refine ⟨va_K.moved hW.alike h.1, fun w hw => ?_, fun w hw => ?_, fun q hq => va_Nc.moved hW.alike (h.2.2.2.1 q hq), fun q hq => ?_⟩
  · obtain ⟨a, i, x, b, rfl⟩ := nest_shape hw
    exact va_Nw.warmM hW (h.2.1 _ hw)
  · rcases cast_shape hw with ⟨a, b, rfl⟩ | ⟨x, rfl⟩ | rfl
    · exact va_Nw.warmC hW (h.2.2.1 _ hw)
    · exact va_Nw.warmD hW (h.2.2.1 _ hw)
    · exact va_AO.moved hW.alike (h.2.2.1 _ hw)
  · obtain ⟨a, ha⟩ := h.2.2.2.2 q hq
    exact ⟨a, vk_R.warm hW ha⟩
theorem KN.same {D : va_G} {cs : CS} {s U : State} (hv : s.vm = U.vm) (h : KN D cs s) : KN D cs U := by
  refine ⟨va_K.moved (by rw [hv]; exact Vm.Alike.refl U.vm) h.1, fun w hw => ?_, fun w hw => ?_, fun q hq => va_Nc.moved (by rw [hv]; exact Vm.Alike.refl U.vm) (h.2.2.2.1 q hq), fun q hq => ?_⟩
  · obtain ⟨a, i, x, b, rfl⟩ := nest_shape hw
    exact va_Nw.same rfl hv (h.2.1 _ hw)
  · rcases cast_shape hw with ⟨a, b, rfl⟩ | ⟨x, rfl⟩ | rfl
    · exact va_Nw.same rfl hv (h.2.2.1 _ hw)
    · exact va_Nw.same rfl hv (h.2.2.1 _ hw)
    · exact va_AO.moved (by rw [hv]; exact Vm.Alike.refl U.vm) (h.2.2.1 _ hw)
  · obtain ⟨a, ha⟩ := h.2.2.2.2 q hq
    exact ⟨a, vk_R.same hv.symm ha⟩
/-- what a walk stands in: the program, launch, .. , the end to reach, the cells that may be written, the classes -/
abbrev Ctx : Type := Program × Launch × Env × Room × State × MethodId × Array Value × List Frame × Method × Code × (State → Prop) × (Nat → Prop) × va_G × CS
abbrev Ctx.l (Γ : Ctx) : Launch := Γ.2.1
abbrev Ctx.D (Γ : Ctx) : va_G := Γ.2.2.2.2.2.2.2.2.2.2.2.2.1
abbrev Ctx.cs (Γ : Ctx) : CS := Γ.2.2.2.2.2.2.2.2.2.2.2.2.2
/-- the frame at pc, with the locals lv, the stack st, in the world ws, reaches its end; k cells of n slots were made so far -/
def X (Γ : Ctx) (nL k n pc : Nat) (lv : List (Nat × Value)) (st : List Value) (ws : va_W) : Prop := match Γ with
  | (p, l, e, R, s, m, args, below, meth, c, Q, A, D, _) => ∀ (H : Heap) (locs : List Loc) (ls : Array Slot), va_P D vwCl ws H → va_D A ws → va_S A s.heap H locs → lv_has ls nL lv → W p l e R s m args below meth c H locs k n Q (F0 m pc ls st)
/-- the method's own facts: its code, locals, class, room -/
def CX (Γ : Ctx) (cc : ByteArray) (nL : Nat) (own : String) (R0 : Room) : Prop := match Γ with
  | (p, _, _, R, s, m, args, _, meth, c, _, A, D, cs) => CallFix p m c cc nL s args GW own ∧ KN D cs s ∧ (∀ q, s.heap.size ≤ q → A q) ∧ meth.locks = false ∧ R = R0
/-! words of the code read out -/
def nm {α β : Type} (k : α → β) (x : α) : β := k x
def bd {α β : Type} (o : Option α) (k : α → Option β) : Option β := match o with
  | none => none
  | some a => k a
def bd2 {α γ β : Type} (o : Option (α × γ)) (k : α → γ → Option β) : Option β := match o with
  | none => none
  | some q => k q.1 q.2
def gd {β : Type} (i : Int32) (n : Nat) (a : Option β) : Option β := if i < 0 ∨ n ≤ i.toNatClampNeg then none else a
def zb {β : Type} (r : Int32) (a : Option β) : Option β := if r = 0 ∨ r = 1 then a else none
def nz {β : Type} (r : Int32) (a : Option β) : Option β := if r = 0 then none else a
theorem nm_elim {α β : Type} {k : α → Option β} {x : α} {r : β} (h : nm k x = some r) : ∃ y, y = x ∧ k y = some r := ⟨x, rfl, h⟩
theorem bd_elim {α β : Type} {o : Option α} {k : α → Option β} {r : β} (h : bd o k = some r) : ∃ a, o = some a ∧ k a = some r := by
  cases o with
  | none => cases h
  | some a => exact ⟨a, rfl, h⟩
theorem bd2_elim {α γ β : Type} {o : Option (α × γ)} {k : α → γ → Option β} {r : β} (h : bd2 o k = some r) : ∃ a b, o = some (a, b) ∧ k a b = some r := by
  cases o with
  | none => cases h
  | some q => exact ⟨q.1, q.2, rfl, h⟩
theorem gd_elim {β : Type} {i : Int32} {n : Nat} {a : Option β} {r : β} (h : gd i n a = some r) : vp_in i n ∧ a = some r := by
  unfold gd at h
  split at h
  · cases h
  · exact ⟨by assumption, h⟩
theorem zb_elim {β : Type} {i : Int32} {a : Option β} {r : β} (h : zb i a = some r) : (i = 0 ∨ i = 1) ∧ a = some r := by
  unfold zb at h
  split at h
  · exact ⟨by assumption, h⟩
  · cases h
theorem nz_elim {β : Type} {i : Int32} {a : Option β} {r : β} (h : nz i a = some r) : ¬ i = 0 ∧ a = some r := by
  unfold nz at h
  split at h
  · cases h
  · exact ⟨by assumption, h⟩
theorem ite_t {β : Type} {c : Prop} [Decidable c] {a b : Option β} {r : β} (hc : c) (h : (if c then a else b) = some r) : a = some r := by rwa [if_pos hc] at h
theorem ite_f {β : Type} {c : Prop} [Decidable c] {a b : Option β} {r : β} (hc : ¬ c) (h : (if c then a else b) = some r) : b = some r := by rwa [if_neg hc] at h
theorem some2 {α γ : Type} {a a' : α} {b b' : γ} (h : some (a, b) = some (a', b')) : a = a' ∧ b = b' := by cases h; exact ⟨rfl, rfl⟩
theorem zb_nar {r : Int32} (h : r = 0 ∨ r = 1) : narrow .boolean (.int r) = .int r := by rcases h with rfl | rfl <;> rfl
def up2 {α : Type} (f : Nat → Nat → α) (j : Nat) (g : Nat → α) : Nat → Nat → α := fun i => if i = j then g else f i
/-- valueAt and putAt -/
def vAt (N : Nat) (f : Nat → Int32) (i : Int32) : Int32 := if i < 0 then -1 else if nI N ≤ i then -1 else f i.toNatClampNeg
def pAt (N : Nat) (f : Nat → Int32) (i v : Int32) : Nat → Int32 := if i < 0 then f else if nI N ≤ i then f else upd f i.toNatClampNeg v
end
section
section ROWS2
variable {Γ : Ctx} {cc : ByteArray} {nL k n pc pc' : Nat} {own : String} {R0 : Room} {lv lv' : List (Nat × Value)} {st : List Value} {ws : va_W}
theorem x_iconst (B : CX Γ cc nL own R0) {i : Int} (v : Int32) (d : decode cc pc = .ok (.iconst i, 1)) (hv : Int32.ofInt i = v) (hp : pc + 1 = pc') (kk : X Γ nL k n pc' lv (.int v :: st) ws) : X Γ nL k n pc lv st ws := by
  obtain ⟨p, l, e, R, s, m, args, below, meth, c, Q, A, D, cs⟩ := Γ
  subst hp
  intro H locs ls hP hD hS hl
  exact lv_iconst B.1.1 B.1.2.1 d hv (kk H locs ls hP hD hS hl)
theorem x_bipush (B : CX Γ cc nL own R0) {i : Int} (v : Int32) (d : decode cc pc = .ok (.bipush i, 2)) (hv : (Int8.ofInt i).toInt32 = v) (hp : pc + 2 = pc') (kk : X Γ nL k n pc' lv (.int v :: st) ws) : X Γ nL k n pc lv st ws := by
  obtain ⟨p, l, e, R, s, m, args, below, meth, c, Q, A, D, cs⟩ := Γ
  subst hp
  intro H locs ls hP hD hS hl
  exact lv_bipush B.1.1 B.1.2.1 d hv (kk H locs ls hP hD hS hl)
theorem x_sipush (B : CX Γ cc nL own R0) {i : Int} (v : Int32) (d : decode cc pc = .ok (.sipush i, 3)) (hv : (Int16.ofInt i).toInt32 = v) (hp : pc + 3 = pc') (kk : X Γ nL k n pc' lv (.int v :: st) ws) : X Γ nL k n pc lv st ws := by
  obtain ⟨p, l, e, R, s, m, args, below, meth, c, Q, A, D, cs⟩ := Γ
  subst hp
  intro H locs ls hP hD hS hl
  exact lv_sipush B.1.1 B.1.2.1 d hv (kk H locs ls hP hD hS hl)
theorem x_lconst (B : CX Γ cc nL own R0) {i : Fin 2} (v : Int64) (d : decode cc pc = .ok (.lconst i, 1)) (hv : Int64.ofNat (i : Nat) = v) (hp : pc + 1 = pc') (kk : X Γ nL k n pc' lv (.long v :: st) ws) : X Γ nL k n pc lv st ws := by
  obtain ⟨p, l, e, R, s, m, args, below, meth, c, Q, A, D, cs⟩ := Γ
  subst hp
  intro H locs ls hP hD hS hl
  exact lv_lconst B.1.1 B.1.2.1 d hv (kk H locs ls hP hD hS hl)
theorem x_ldc2 (B : CX Γ cc nL own R0) {index : Nat} (v : Int64) (hw : Cond.constantLong own index v ∈ GW) (d : decode cc pc = .ok (.ldc2_w index, 3)) (hp : pc + 3 = pc') (kk : X Γ nL k n pc' lv (.long v :: st) ws) : X Γ nL k n pc lv st ws := by
  obtain ⟨p, l, e, R, s, m, args, below, meth, c, Q, A, D, cs⟩ := Γ
  subst hp
  intro H locs ls hP hD hS hl
  exact lv_ldc2 B.1.1 B.1.2.1 B.1.2.2.2.1 (B.1.2.2.2.2 _ hw) d (kk H locs ls hP hD hS hl)
theorem x_ldc2d (B : CX Γ cc nL own R0) {index : Nat} (v : UInt64) (hw : Cond.constantDouble own index v ∈ GW) (d : decode cc pc = .ok (.ldc2_w index, 3)) (hp : pc + 3 = pc') (kk : X Γ nL k n pc' lv (.double v :: st) ws) : X Γ nL k n pc lv st ws := by
  obtain ⟨p, l, e, R, s, m, args, below, meth, c, Q, A, D, cs⟩ := Γ
  subst hp
  intro H locs ls hP hD hS hl
  exact lv_ldc2d B.1.1 B.1.2.1 B.1.2.2.2.1 (B.1.2.2.2.2 _ hw) d (kk H locs ls hP hD hS hl)
theorem x_iload_n (B : CX Γ cc nL own R0) {f : Fin 4} {i : Nat} {x : Int32} (j : Nat) (d : decode cc pc = .ok (.iload_n f, 1)) (hi : (f : Nat) = i) (hj : lv[j]? = some (i, .int x)) (hp : pc + 1 = pc') (kk : X Γ nL k n pc' lv (.int x :: st) ws) : X Γ nL k n pc lv st ws := by
  obtain ⟨p, l, e, R, s, m, args, below, meth, c, Q, A, D, cs⟩ := Γ
  subst hp
  intro H locs ls hP hD hS hl
  exact lv_iload_n B.1.1 B.1.2.1 d hi (lv_at hl j hj) (kk H locs ls hP hD hS hl)
theorem x_iload (B : CX Γ cc nL own R0) {i : Nat} {x : Int32} (j : Nat) (d : decode cc pc = .ok (.iload i, 2)) (hj : lv[j]? = some (i, .int x)) (hp : pc + 2 = pc') (kk : X Γ nL k n pc' lv (.int x :: st) ws) : X Γ nL k n pc lv st ws := by
  obtain ⟨p, l, e, R, s, m, args, below, meth, c, Q, A, D, cs⟩ := Γ
  subst hp
  intro H locs ls hP hD hS hl
  exact lv_iload B.1.1 B.1.2.1 d (lv_at hl j hj) (kk H locs ls hP hD hS hl)
theorem x_lload_n (B : CX Γ cc nL own R0) {f : Fin 4} {i : Nat} {x : Int64} (j : Nat) (d : decode cc pc = .ok (.lload_n f, 1)) (hi : (f : Nat) = i) (hj : lv[j]? = some (i, .long x)) (hp : pc + 1 = pc') (kk : X Γ nL k n pc' lv (.long x :: st) ws) : X Γ nL k n pc lv st ws := by
  obtain ⟨p, l, e, R, s, m, args, below, meth, c, Q, A, D, cs⟩ := Γ
  subst hp
  intro H locs ls hP hD hS hl
  exact lv_lload_n B.1.1 B.1.2.1 d hi (lv_at hl j hj) (kk H locs ls hP hD hS hl)
theorem x_lload (B : CX Γ cc nL own R0) {i : Nat} {x : Int64} (j : Nat) (d : decode cc pc = .ok (.lload i, 2)) (hj : lv[j]? = some (i, .long x)) (hp : pc + 2 = pc') (kk : X Γ nL k n pc' lv (.long x :: st) ws) : X Γ nL k n pc lv st ws := by
  obtain ⟨p, l, e, R, s, m, args, below, meth, c, Q, A, D, cs⟩ := Γ
  subst hp
  intro H locs ls hP hD hS hl
  exact lv_lload B.1.1 B.1.2.1 d (lv_at hl j hj) (kk H locs ls hP hD hS hl)
theorem x_aload_n (B : CX Γ cc nL own R0) {f : Fin 4} {i : Nat} {x : Nat} (j : Nat) (d : decode cc pc = .ok (.aload_n f, 1)) (hi : (f : Nat) = i) (hj : lv[j]? = some (i, .ref x)) (hp : pc + 1 = pc') (kk : X Γ nL k n pc' lv (.ref x :: st) ws) : X Γ nL k n pc lv st ws := by
  obtain ⟨p, l, e, R, s, m, args, below, meth, c, Q, A, D, cs⟩ := Γ
  subst hp
  intro H locs ls hP hD hS hl
  exact lv_aload_n B.1.1 B.1.2.1 d hi (lv_at hl j hj) (kk H locs ls hP hD hS hl)
theorem x_aload (B : CX Γ cc nL own R0) {i : Nat} {x : Nat} (j : Nat) (d : decode cc pc = .ok (.aload i, 2)) (hj : lv[j]? = some (i, .ref x)) (hp : pc + 2 = pc') (kk : X Γ nL k n pc' lv (.ref x :: st) ws) : X Γ nL k n pc lv st ws := by
  obtain ⟨p, l, e, R, s, m, args, below, meth, c, Q, A, D, cs⟩ := Γ
  subst hp
  intro H locs ls hP hD hS hl
  exact lv_aload B.1.1 B.1.2.1 d (lv_at hl j hj) (kk H locs ls hP hD hS hl)
theorem x_istore_n (B : CX Γ cc nL own R0) {f : Fin 4} {i : Nat} {x : Int32} (is : List Nat) (lv' : List (Nat × Value)) (d : decode cc pc = .ok (.istore_n f, 1)) (hi : (f : Nat) = i) (hn : i < nL) (hk : lv_pick ((i, Value.int x) :: lv.filter (fun q => !(q.1 == i) && !(q.1 + 1 == i && q.2.category == 2))) is = lv') (hp : pc + 1 = pc') (kk : X Γ nL k n pc' lv' st ws) : X Γ nL k n pc lv (Value.int x :: st) ws := by
  obtain ⟨p, l, e, R, s, m, args, below, meth, c, Q, A, D, cs⟩ := Γ
  subst hp
  intro H locs ls hP hD hS hl
  exact lv_istore_n B.1.1 B.1.2.1 d hi hl hn rfl (fun ls' hl' => kk H locs ls' hP hD hS (lv_sub hl' is hk))
theorem x_istore (B : CX Γ cc nL own R0) {i : Nat} {x : Int32} (is : List Nat) (lv' : List (Nat × Value)) (d : decode cc pc = .ok (.istore i, 2)) (hn : i < nL) (hk : lv_pick ((i, Value.int x) :: lv.filter (fun q => !(q.1 == i) && !(q.1 + 1 == i && q.2.category == 2))) is = lv') (hp : pc + 2 = pc') (kk : X Γ nL k n pc' lv' st ws) : X Γ nL k n pc lv (Value.int x :: st) ws := by
  obtain ⟨p, l, e, R, s, m, args, below, meth, c, Q, A, D, cs⟩ := Γ
  subst hp
  intro H locs ls hP hD hS hl
  exact lv_istore B.1.1 B.1.2.1 d hl hn rfl (fun ls' hl' => kk H locs ls' hP hD hS (lv_sub hl' is hk))
theorem x_lstore_n (B : CX Γ cc nL own R0) {f : Fin 4} {i : Nat} {x : Int64} (is : List Nat) (lv' : List (Nat × Value)) (d : decode cc pc = .ok (.lstore_n f, 1)) (hi : (f : Nat) = i) (hn : i + 1 < nL) (hk : lv_pick ((i, Value.long x) :: lv.filter (fun q => !(q.1 == i) && (!(q.1 == i + 1) && !(q.1 + 1 == i && q.2.category == 2)))) is = lv') (hp : pc + 1 = pc') (kk : X Γ nL k n pc' lv' st ws) : X Γ nL k n pc lv (Value.long x :: st) ws := by
  obtain ⟨p, l, e, R, s, m, args, below, meth, c, Q, A, D, cs⟩ := Γ
  subst hp
  intro H locs ls hP hD hS hl
  exact lv_lstore_n B.1.1 B.1.2.1 d hi hl hn rfl (fun ls' hl' => kk H locs ls' hP hD hS (lv_sub hl' is hk))
theorem x_lstore (B : CX Γ cc nL own R0) {i : Nat} {x : Int64} (is : List Nat) (lv' : List (Nat × Value)) (d : decode cc pc = .ok (.lstore i, 2)) (hn : i + 1 < nL) (hk : lv_pick ((i, Value.long x) :: lv.filter (fun q => !(q.1 == i) && (!(q.1 == i + 1) && !(q.1 + 1 == i && q.2.category == 2)))) is = lv') (hp : pc + 2 = pc') (kk : X Γ nL k n pc' lv' st ws) : X Γ nL k n pc lv (Value.long x :: st) ws := by
  obtain ⟨p, l, e, R, s, m, args, below, meth, c, Q, A, D, cs⟩ := Γ
  subst hp
  intro H locs ls hP hD hS hl
  exact lv_lstore B.1.1 B.1.2.1 d hl hn rfl (fun ls' hl' => kk H locs ls' hP hD hS (lv_sub hl' is hk))
theorem x_astore_n (B : CX Γ cc nL own R0) {f : Fin 4} {i : Nat} {x : Nat} (is : List Nat) (lv' : List (Nat × Value)) (d : decode cc pc = .ok (.astore_n f, 1)) (hi : (f : Nat) = i) (hn : i < nL) (hk : lv_pick ((i, Value.ref x) :: lv.filter (fun q => !(q.1 == i) && !(q.1 + 1 == i && q.2.category == 2))) is = lv') (hp : pc + 1 = pc') (kk : X Γ nL k n pc' lv' st ws) : X Γ nL k n pc lv (Value.ref x :: st) ws := by
  obtain ⟨p, l, e, R, s, m, args, below, meth, c, Q, A, D, cs⟩ := Γ
  subst hp
  intro H locs ls hP hD hS hl
  exact lv_astore_n B.1.1 B.1.2.1 d hi hl hn rfl (fun ls' hl' => kk H locs ls' hP hD hS (lv_sub hl' is hk))
theorem x_astore (B : CX Γ cc nL own R0) {i : Nat} {x : Nat} (is : List Nat) (lv' : List (Nat × Value)) (d : decode cc pc = .ok (.astore i, 2)) (hn : i < nL) (hk : lv_pick ((i, Value.ref x) :: lv.filter (fun q => !(q.1 == i) && !(q.1 + 1 == i && q.2.category == 2))) is = lv') (hp : pc + 2 = pc') (kk : X Γ nL k n pc' lv' st ws) : X Γ nL k n pc lv (Value.ref x :: st) ws := by
  obtain ⟨p, l, e, R, s, m, args, below, meth, c, Q, A, D, cs⟩ := Γ
  subst hp
  intro H locs ls hP hD hS hl
  exact lv_astore B.1.1 B.1.2.1 d hl hn rfl (fun ls' hl' => kk H locs ls' hP hD hS (lv_sub hl' is hk))
theorem x_iinc (B : CX Γ cc nL own R0) {i : Nat} {z : Int} {x : Int32} (v : Int32) (j : Nat) (is : List Nat) (lv' : List (Nat × Value)) (d : decode cc pc = .ok (.iinc i z, 3)) (hj : lv[j]? = some (i, .int x)) (hv : x + Int32.ofInt z = v) (hn : i < nL) (hk : lv_pick ((i, Value.int v) :: lv.filter (fun q => !(q.1 == i) && !(q.1 + 1 == i && q.2.category == 2))) is = lv') (hp : pc + 3 = pc') (kk : X Γ nL k n pc' lv' st ws) : X Γ nL k n pc lv st ws := by
  obtain ⟨p, l, e, R, s, m, args, below, meth, c, Q, A, D, cs⟩ := Γ
  subst hp
  intro H locs ls hP hD hS hl
  exact lv_iinc B.1.1 B.1.2.1 d hl hj hv hn rfl (fun ls' hl' => kk H locs ls' hP hD hS (lv_sub hl' is hk))
theorem x_iadd (B : CX Γ cc nL own R0) {x y : Int32} (d : decode cc pc = .ok (.iadd, 1)) (hp : pc + 1 = pc') (kk : X Γ nL k n pc' lv (.int (x + y) :: st) ws) : X Γ nL k n pc lv (.int y :: .int x :: st) ws := by
  obtain ⟨p, l, e, R, s, m, args, below, meth, c, Q, A, D, cs⟩ := Γ
  subst hp
  intro H locs ls hP hD hS hl
  exact lv_iadd B.1.1 B.1.2.1 d (kk H locs ls hP hD hS hl)
theorem x_isub (B : CX Γ cc nL own R0) {x y : Int32} (d : decode cc pc = .ok (.isub, 1)) (hp : pc + 1 = pc') (kk : X Γ nL k n pc' lv (.int (x - y) :: st) ws) : X Γ nL k n pc lv (.int y :: .int x :: st) ws := by
  obtain ⟨p, l, e, R, s, m, args, below, meth, c, Q, A, D, cs⟩ := Γ
  subst hp
  intro H locs ls hP hD hS hl
  exact lv_isub B.1.1 B.1.2.1 d (kk H locs ls hP hD hS hl)
theorem x_imul (B : CX Γ cc nL own R0) {x y : Int32} (d : decode cc pc = .ok (.imul, 1)) (hp : pc + 1 = pc') (kk : X Γ nL k n pc' lv (.int (x * y) :: st) ws) : X Γ nL k n pc lv (.int y :: .int x :: st) ws := by
  obtain ⟨p, l, e, R, s, m, args, below, meth, c, Q, A, D, cs⟩ := Γ
  subst hp
  intro H locs ls hP hD hS hl
  exact lv_imul B.1.1 B.1.2.1 d (kk H locs ls hP hD hS hl)
theorem x_iand (B : CX Γ cc nL own R0) {x y : Int32} (d : decode cc pc = .ok (.iand, 1)) (hp : pc + 1 = pc') (kk : X Γ nL k n pc' lv (.int (x &&& y) :: st) ws) : X Γ nL k n pc lv (.int y :: .int x :: st) ws := by
  obtain ⟨p, l, e, R, s, m, args, below, meth, c, Q, A, D, cs⟩ := Γ
  subst hp
  intro H locs ls hP hD hS hl
  exact lv_iand B.1.1 B.1.2.1 d (kk H locs ls hP hD hS hl)
theorem x_ladd (B : CX Γ cc nL own R0) {x y : Int64} (d : decode cc pc = .ok (.ladd, 1)) (hp : pc + 1 = pc') (kk : X Γ nL k n pc' lv (.long (x + y) :: st) ws) : X Γ nL k n pc lv (.long y :: .long x :: st) ws := by
  obtain ⟨p, l, e, R, s, m, args, below, meth, c, Q, A, D, cs⟩ := Γ
  subst hp
  intro H locs ls hP hD hS hl
  exact lv_ladd B.1.1 B.1.2.1 d (kk H locs ls hP hD hS hl)
theorem x_lmul (B : CX Γ cc nL own R0) {x y : Int64} (d : decode cc pc = .ok (.lmul, 1)) (hp : pc + 1 = pc') (kk : X Γ nL k n pc' lv (.long (x * y) :: st) ws) : X Γ nL k n pc lv (.long y :: .long x :: st) ws := by
  obtain ⟨p, l, e, R, s, m, args, below, meth, c, Q, A, D, cs⟩ := Γ
  subst hp
  intro H locs ls hP hD hS hl
  exact lv_lmul B.1.1 B.1.2.1 d (kk H locs ls hP hD hS hl)
theorem x_lsub (B : CX Γ cc nL own R0) {x y : Int64} (d : decode cc pc = .ok (.lsub, 1)) (hp : pc + 1 = pc') (kk : X Γ nL k n pc' lv (.long (x - y) :: st) ws) : X Γ nL k n pc lv (.long y :: .long x :: st) ws := by
  obtain ⟨p, l, e, R, s, m, args, below, meth, c, Q, A, D, cs⟩ := Γ
  subst hp
  intro H locs ls hP hD hS hl
  exact lv_lsub B.1.1 B.1.2.1 d (kk H locs ls hP hD hS hl)
theorem x_irem (B : CX Γ cc nL own R0) {x y : Int32} (d : decode cc pc = .ok (.irem, 1)) (hy : ¬ y = 0) (hp : pc + 1 = pc') (kk : X Γ nL k n pc' lv (.int (x - x / y * y) :: st) ws) : X Γ nL k n pc lv (.int y :: .int x :: st) ws := by
  obtain ⟨p, l, e, R, s, m, args, below, meth, c, Q, A, D, cs⟩ := Γ
  subst hp
  intro H locs ls hP hD hS hl
  exact lv_irem B.1.1 B.1.2.1 d hy (kk H locs ls hP hD hS hl)
theorem x_i2l (B : CX Γ cc nL own R0) {x : Int32} (d : decode cc pc = .ok (.i2l, 1)) (hp : pc + 1 = pc') (kk : X Γ nL k n pc' lv (.long x.toInt64 :: st) ws) : X Γ nL k n pc lv (.int x :: st) ws := by
  obtain ⟨p, l, e, R, s, m, args, below, meth, c, Q, A, D, cs⟩ := Γ
  subst hp
  intro H locs ls hP hD hS hl
  exact lv_i2l B.1.1 B.1.2.1 d rfl (kk H locs ls hP hD hS hl)
theorem x_i2d (B : CX Γ cc nL own R0) {x : Int32} (d : decode cc pc = .ok (.i2d, 1)) (hp : pc + 1 = pc') (kk : X Γ nL k n pc' lv (.double (FP.i2d x) :: st) ws) : X Γ nL k n pc lv (.int x :: st) ws := by
  obtain ⟨p, l, e, R, s, m, args, below, meth, c, Q, A, D, cs⟩ := Γ
  subst hp
  intro H locs ls hP hD hS hl
  exact lv_i2d B.1.1 B.1.2.1 d (kk H locs ls hP hD hS hl)
theorem x_ddiv (B : CX Γ cc nL own R0) {x y : UInt64} (d : decode cc pc = .ok (.ddiv, 1)) (hy : vf_n64 (FP.ddiv x y)) (hp : pc + 1 = pc') (kk : X Γ nL k n pc' lv (.double (FP.ddiv x y) :: st) ws) : X Γ nL k n pc lv (.double y :: .double x :: st) ws := by
  obtain ⟨p, l, e, R, s, m, args, below, meth, c, Q, A, D, cs⟩ := Γ
  subst hp
  intro H locs ls hP hD hS hl
  exact lv_ddiv B.1.1 B.1.2.1 d hy (kk H locs ls hP hD hS hl)
theorem x_pop (B : CX Γ cc nL own R0) {v : Value} (d : decode cc pc = .ok (.pop, 1)) (hv : v.category = 1) (hp : pc + 1 = pc') (kk : X Γ nL k n pc' lv st ws) : X Γ nL k n pc lv (v :: st) ws := by
  obtain ⟨p, l, e, R, s, m, args, below, meth, c, Q, A, D, cs⟩ := Γ
  subst hp
  intro H locs ls hP hD hS hl
  exact lv_pop B.1.1 B.1.2.1 d hv (kk H locs ls hP hD hS hl)
theorem x_dup (B : CX Γ cc nL own R0) {v : Value} (d : decode cc pc = .ok (.dup, 1)) (hv : v.category = 1) (hp : pc + 1 = pc') (kk : X Γ nL k n pc' lv (v :: v :: st) ws) : X Γ nL k n pc lv (v :: st) ws := by
  obtain ⟨p, l, e, R, s, m, args, below, meth, c, Q, A, D, cs⟩ := Γ
  subst hp
  intro H locs ls hP hD hS hl
  exact lv_dup B.1.1 B.1.2.1 d hv (kk H locs ls hP hD hS hl)
theorem x_dup_x1 (B : CX Γ cc nL own R0) {v w : Value} (d : decode cc pc = .ok (.dup_x1, 1)) (hv : v.category = 1) (hw : w.category = 1) (hp : pc + 1 = pc') (kk : X Γ nL k n pc' lv (v :: w :: v :: st) ws) : X Γ nL k n pc lv (v :: w :: st) ws := by
  obtain ⟨p, l, e, R, s, m, args, below, meth, c, Q, A, D, cs⟩ := Γ
  subst hp
  intro H locs ls hP hD hS hl
  exact lv_dup_x1 B.1.1 B.1.2.1 d hv hw (kk H locs ls hP hD hS hl)
theorem x_dup2 (B : CX Γ cc nL own R0) {v w : Value} (d : decode cc pc = .ok (.dup2, 1)) (hv : v.category = 1) (hw : w.category = 1) (hp : pc + 1 = pc') (kk : X Γ nL k n pc' lv (v :: w :: v :: w :: st) ws) : X Γ nL k n pc lv (v :: w :: st) ws := by
  obtain ⟨p, l, e, R, s, m, args, below, meth, c, Q, A, D, cs⟩ := Γ
  subst hp
  intro H locs ls hP hD hS hl
  exact lv_dup2_11 B.1.1 B.1.2.1 d hv hw (kk H locs ls hP hD hS hl)
theorem x_goto (B : CX Γ cc nL own R0) {off : Int} (d : decode cc pc = .ok (.goto off, 3)) (hp : (pc : Int) + off = (pc' : Int)) (kk : X Γ nL k n pc' lv st ws) : X Γ nL k n pc lv st ws := by
  obtain ⟨p, l, e, R, s, m, args, below, meth, c, Q, A, D, cs⟩ := Γ
  intro H locs ls hP hD hS hl
  exact lv_goto B.1.1 B.1.2.1 d hp (kk H locs ls hP hD hS hl)
theorem x_if_eq (B : CX Γ cc nL own R0) {x : Int32} {off : Int} (tgt pc' : Nat) (d : decode cc pc = .ok (.ifCond .eq off, 3)) (ht : (pc : Int) + off = (tgt : Int)) (hp : pc + 3 = pc') (kt : x = 0 → X Γ nL k n tgt lv st ws) (kf : ¬ x = 0 → X Γ nL k n pc' lv st ws) : X Γ nL k n pc lv (.int x :: st) ws := by
  obtain ⟨p, l, e, R, s, m, args, below, meth, c, Q, A, D, cs⟩ := Γ
  subst hp
  intro H locs ls hP hD hS hl
  exact lv_if_eq B.1.1 B.1.2.1 d ht (fun h => kt h H locs ls hP hD hS hl) (fun h => kf h H locs ls hP hD hS hl)
theorem x_icmp_eq (B : CX Γ cc nL own R0) {x y : Int32} {off : Int} (tgt pc' : Nat) (d : decode cc pc = .ok (.if_icmp .eq off, 3)) (ht : (pc : Int) + off = (tgt : Int)) (hp : pc + 3 = pc') (kt : x = y → X Γ nL k n tgt lv st ws) (kf : ¬ x = y → X Γ nL k n pc' lv st ws) : X Γ nL k n pc lv (.int y :: .int x :: st) ws := by
  obtain ⟨p, l, e, R, s, m, args, below, meth, c, Q, A, D, cs⟩ := Γ
  subst hp
  intro H locs ls hP hD hS hl
  exact lv_icmp_eq B.1.1 B.1.2.1 d ht (fun h => kt h H locs ls hP hD hS hl) (fun h => kf h H locs ls hP hD hS hl)
theorem x_if_ne (B : CX Γ cc nL own R0) {x : Int32} {off : Int} (tgt pc' : Nat) (d : decode cc pc = .ok (.ifCond .ne off, 3)) (ht : (pc : Int) + off = (tgt : Int)) (hp : pc + 3 = pc') (kt : ¬ x = 0 → X Γ nL k n tgt lv st ws) (kf : x = 0 → X Γ nL k n pc' lv st ws) : X Γ nL k n pc lv (.int x :: st) ws := by
  obtain ⟨p, l, e, R, s, m, args, below, meth, c, Q, A, D, cs⟩ := Γ
  subst hp
  intro H locs ls hP hD hS hl
  exact lv_if_ne B.1.1 B.1.2.1 d ht (fun h => kt h H locs ls hP hD hS hl) (fun h => kf h H locs ls hP hD hS hl)
theorem x_icmp_ne (B : CX Γ cc nL own R0) {x y : Int32} {off : Int} (tgt pc' : Nat) (d : decode cc pc = .ok (.if_icmp .ne off, 3)) (ht : (pc : Int) + off = (tgt : Int)) (hp : pc + 3 = pc') (kt : ¬ x = y → X Γ nL k n tgt lv st ws) (kf : x = y → X Γ nL k n pc' lv st ws) : X Γ nL k n pc lv (.int y :: .int x :: st) ws := by
  obtain ⟨p, l, e, R, s, m, args, below, meth, c, Q, A, D, cs⟩ := Γ
  subst hp
  intro H locs ls hP hD hS hl
  exact lv_icmp_ne B.1.1 B.1.2.1 d ht (fun h => kt h H locs ls hP hD hS hl) (fun h => kf h H locs ls hP hD hS hl)
theorem x_if_lt (B : CX Γ cc nL own R0) {x : Int32} {off : Int} (tgt pc' : Nat) (d : decode cc pc = .ok (.ifCond .lt off, 3)) (ht : (pc : Int) + off = (tgt : Int)) (hp : pc + 3 = pc') (kt : x < 0 → X Γ nL k n tgt lv st ws) (kf : ¬ x < 0 → X Γ nL k n pc' lv st ws) : X Γ nL k n pc lv (.int x :: st) ws := by
  obtain ⟨p, l, e, R, s, m, args, below, meth, c, Q, A, D, cs⟩ := Γ
  subst hp
  intro H locs ls hP hD hS hl
  exact lv_if_lt B.1.1 B.1.2.1 d ht (fun h => kt h H locs ls hP hD hS hl) (fun h => kf h H locs ls hP hD hS hl)
theorem x_icmp_lt (B : CX Γ cc nL own R0) {x y : Int32} {off : Int} (tgt pc' : Nat) (d : decode cc pc = .ok (.if_icmp .lt off, 3)) (ht : (pc : Int) + off = (tgt : Int)) (hp : pc + 3 = pc') (kt : x < y → X Γ nL k n tgt lv st ws) (kf : ¬ x < y → X Γ nL k n pc' lv st ws) : X Γ nL k n pc lv (.int y :: .int x :: st) ws := by
  obtain ⟨p, l, e, R, s, m, args, below, meth, c, Q, A, D, cs⟩ := Γ
  subst hp
  intro H locs ls hP hD hS hl
  exact lv_icmp_lt B.1.1 B.1.2.1 d ht (fun h => kt h H locs ls hP hD hS hl) (fun h => kf h H locs ls hP hD hS hl)
theorem x_if_ge (B : CX Γ cc nL own R0) {x : Int32} {off : Int} (tgt pc' : Nat) (d : decode cc pc = .ok (.ifCond .ge off, 3)) (ht : (pc : Int) + off = (tgt : Int)) (hp : pc + 3 = pc') (kt : 0 ≤ x → X Γ nL k n tgt lv st ws) (kf : ¬ 0 ≤ x → X Γ nL k n pc' lv st ws) : X Γ nL k n pc lv (.int x :: st) ws := by
  obtain ⟨p, l, e, R, s, m, args, below, meth, c, Q, A, D, cs⟩ := Γ
  subst hp
  intro H locs ls hP hD hS hl
  exact lv_if_ge B.1.1 B.1.2.1 d ht (fun h => kt h H locs ls hP hD hS hl) (fun h => kf h H locs ls hP hD hS hl)
theorem x_icmp_ge (B : CX Γ cc nL own R0) {x y : Int32} {off : Int} (tgt pc' : Nat) (d : decode cc pc = .ok (.if_icmp .ge off, 3)) (ht : (pc : Int) + off = (tgt : Int)) (hp : pc + 3 = pc') (kt : y ≤ x → X Γ nL k n tgt lv st ws) (kf : ¬ y ≤ x → X Γ nL k n pc' lv st ws) : X Γ nL k n pc lv (.int y :: .int x :: st) ws := by
  obtain ⟨p, l, e, R, s, m, args, below, meth, c, Q, A, D, cs⟩ := Γ
  subst hp
  intro H locs ls hP hD hS hl
  exact lv_icmp_ge B.1.1 B.1.2.1 d ht (fun h => kt h H locs ls hP hD hS hl) (fun h => kf h H locs ls hP hD hS hl)
theorem x_if_gt (B : CX Γ cc nL own R0) {x : Int32} {off : Int} (tgt pc' : Nat) (d : decode cc pc = .ok (.ifCond .gt off, 3)) (ht : (pc : Int) + off = (tgt : Int)) (hp : pc + 3 = pc') (kt : 0 < x → X Γ nL k n tgt lv st ws) (kf : ¬ 0 < x → X Γ nL k n pc' lv st ws) : X Γ nL k n pc lv (.int x :: st) ws := by
  obtain ⟨p, l, e, R, s, m, args, below, meth, c, Q, A, D, cs⟩ := Γ
  subst hp
  intro H locs ls hP hD hS hl
  exact lv_if_gt B.1.1 B.1.2.1 d ht (fun h => kt h H locs ls hP hD hS hl) (fun h => kf h H locs ls hP hD hS hl)
theorem x_icmp_gt (B : CX Γ cc nL own R0) {x y : Int32} {off : Int} (tgt pc' : Nat) (d : decode cc pc = .ok (.if_icmp .gt off, 3)) (ht : (pc : Int) + off = (tgt : Int)) (hp : pc + 3 = pc') (kt : y < x → X Γ nL k n tgt lv st ws) (kf : ¬ y < x → X Γ nL k n pc' lv st ws) : X Γ nL k n pc lv (.int y :: .int x :: st) ws := by
  obtain ⟨p, l, e, R, s, m, args, below, meth, c, Q, A, D, cs⟩ := Γ
  subst hp
  intro H locs ls hP hD hS hl
  exact lv_icmp_gt B.1.1 B.1.2.1 d ht (fun h => kt h H locs ls hP hD hS hl) (fun h => kf h H locs ls hP hD hS hl)
theorem x_if_le (B : CX Γ cc nL own R0) {x : Int32} {off : Int} (tgt pc' : Nat) (d : decode cc pc = .ok (.ifCond .le off, 3)) (ht : (pc : Int) + off = (tgt : Int)) (hp : pc + 3 = pc') (kt : x ≤ 0 → X Γ nL k n tgt lv st ws) (kf : ¬ x ≤ 0 → X Γ nL k n pc' lv st ws) : X Γ nL k n pc lv (.int x :: st) ws := by
  obtain ⟨p, l, e, R, s, m, args, below, meth, c, Q, A, D, cs⟩ := Γ
  subst hp
  intro H locs ls hP hD hS hl
  exact lv_if_le B.1.1 B.1.2.1 d ht (fun h => kt h H locs ls hP hD hS hl) (fun h => kf h H locs ls hP hD hS hl)
theorem x_icmp_le (B : CX Γ cc nL own R0) {x y : Int32} {off : Int} (tgt pc' : Nat) (d : decode cc pc = .ok (.if_icmp .le off, 3)) (ht : (pc : Int) + off = (tgt : Int)) (hp : pc + 3 = pc') (kt : x ≤ y → X Γ nL k n tgt lv st ws) (kf : ¬ x ≤ y → X Γ nL k n pc' lv st ws) : X Γ nL k n pc lv (.int y :: .int x :: st) ws := by
  obtain ⟨p, l, e, R, s, m, args, below, meth, c, Q, A, D, cs⟩ := Γ
  subst hp
  intro H locs ls hP hD hS hl
  exact lv_icmp_le B.1.1 B.1.2.1 d ht (fun h => kt h H locs ls hP hD hS hl) (fun h => kf h H locs ls hP hD hS hl)
theorem x_lookup (B : CX Γ cc nL own R0) {dflt : Int} {ps : Array (Int × Int)} {len : Nat} {x : Int32} {off : Int} (d : decode cc pc = .ok (.lookupswitch dflt ps, len)) (hs : (ps.toList.zip (ps.toList.drop 1)).all (fun (a, next) => a.1 < next.1) = true) (ho : Op.lookupswitch.offset ps.toList dflt x.toInt = off) (hp : (pc : Int) + off = (pc' : Int)) (kk : X Γ nL k n pc' lv st ws) : X Γ nL k n pc lv (.int x :: st) ws := by
  obtain ⟨p, l, e, R, s, m, args, below, meth, c, Q, A, D, cs⟩ := Γ
  intro H locs ls hP hD hS hl
  exact lv_lookup B.1.1 B.1.2.1 d hs ho hp (kk H locs ls hP hD hS hl)
theorem x_tableIn (B : CX Γ cc nL own R0) {dflt lo hi : Int} {offs : Array Int} {len : Nat} {x : Int32} {off : Int} (d : decode cc pc = .ok (.tableswitch dflt lo hi offs, len)) (h1 : ¬ x.toInt < lo) (h2 : ¬ hi < x.toInt) (ho : offs[(x.toInt - lo).toNat]? = some off) (hp : (pc : Int) + off = (pc' : Int)) (kk : X Γ nL k n pc' lv st ws) : X Γ nL k n pc lv (.int x :: st) ws := by
  obtain ⟨p, l, e, R, s, m, args, below, meth, c, Q, A, D, cs⟩ := Γ
  intro H locs ls hP hD hS hl
  exact lv_tableIn B.1.1 B.1.2.1 d h1 h2 ho hp (kk H locs ls hP hD hS hl)
theorem x_tableOut (B : CX Γ cc nL own R0) {dflt lo hi : Int} {offs : Array Int} {len : Nat} {x : Int32} (d : decode cc pc = .ok (.tableswitch dflt lo hi offs, len)) (h : x.toInt < lo ∨ hi < x.toInt) (hp : (pc : Int) + dflt = (pc' : Int)) (kk : X Γ nL k n pc' lv st ws) : X Γ nL k n pc lv (.int x :: st) ws := by
  obtain ⟨p, l, e, R, s, m, args, below, meth, c, Q, A, D, cs⟩ := Γ
  intro H locs ls hP hD hS hl
  exact lv_tableOut B.1.1 B.1.2.1 d h hp (kk H locs ls hP hD hS hl)
end ROWS2
end
section
section ROWS3
variable {Γ : Ctx} {cc : ByteArray} {nL k n pc pc' : Nat} {own : String} {R0 : Room} {lv lv' : List (Nat × Value)} {st : List Value} {ws ws' : va_W}
theorem x_lv (is : List Nat) (h : lv_pick lv is = lv') (kk : X Γ nL k n pc lv' st ws) : X Γ nL k n pc lv st ws := by
  obtain ⟨p, l, e, R, s, m, args, below, meth, c, Q, A, D, cs⟩ := Γ
  intro H locs ls hP hD hS hl
  exact kk H locs ls hP hD hS (lv_sub hl is h)
theorem x_topi {x v : Int32} (h : v = x) (kk : X Γ nL k n pc lv (.int v :: st) ws) : X Γ nL k n pc lv (.int x :: st) ws := h ▸ kk
theorem x_topl {x v : Int64} (h : v = x) (kk : X Γ nL k n pc lv (.long v :: st) ws) : X Γ nL k n pc lv (.long x :: st) ws := h ▸ kk
theorem x_wd {σ : Type} {f : σ → va_W} {S S' : σ} (h : S' = S) (kk : X Γ nL k n pc lv st (f S')) : X Γ nL k n pc lv st (f S) := h ▸ kk
theorem x_widen {k' n' : Nat} (h1 : k ≤ k') (h2 : n ≤ n') (kk : X Γ nL k' n' pc lv st ws) : X Γ nL k n pc lv st ws := by
  obtain ⟨p, l, e, R, s, m, args, below, meth, c, Q, A, D, cs⟩ := Γ
  intro H locs ls hP hD hS hl
  exact W.widen h1 h2 (kk H locs ls hP hD hS hl)
theorem x_getf (B : CX Γ cc nL own R0) {index ci N : Nat} {C : String} {T : u_T} {a : Nat} {fs : List Value} {v : Value} (q0 k0 : Nat) (he : ws[q0]? = some (a, .inr (ci, fs))) (hc : vwCl[ci]? = some (C, T, N)) (hin : ∀ w ∈ u_ws C T N, w ∈ GW) (hk : k0 < N) (hw : Cond.fieldLink own index (T k0).1 (T k0).2.1 (T k0).2.2.1 ∈ GW) (hv : fs[k0]? = some v) (d : decode cc pc = .ok (.getfield index, 3)) (hp : pc + 3 = pc') (kk : X Γ nL k n pc' lv (v :: st) ws) : X Γ nL k n pc lv (.ref a :: st) ws := by
  obtain ⟨p, l, e, R, s, m, args, below, meth, c, Q, A, D, cs⟩ := Γ
  subst hp
  intro H locs ls hP hD hS hl
  exact va_get B.1.1 B.1.2.1 B.1.2.2.2.2 hin B.1.2.2.2.1 B.2.1.1 hP q0 he hc k0 hk (B.1.2.2.2.2 _ hw) (fun _ h => h) hv d (kk H locs ls hP hD hS hl)
theorem x_putf (B : CX Γ cc nL own R0) {index ci N : Nat} {C : String} {T : u_T} {a : Nat} {fs : List Value} {v : Value} (q0 k0 : Nat) (ty0 : Nat → FieldType) (hty : ∀ k, k < N → parseFieldDescriptor (T k).2.2.1 = some (ty0 k)) (hnm : ∀ a, a < N → ∀ b, b < N → a ≠ b → (T a).2.1 ≠ (T b).2.1) (he : ws[q0]? = some (a, .inr (ci, fs))) (hc : vwCl[ci]? = some (C, T, N)) (hin : ∀ w ∈ u_ws C T N, w ∈ GW) (hk : k0 < N) (hw : Cond.fieldLink own index (T k0).1 (T k0).2.1 (T k0).2.2.1 ∈ GW) (hfin : (T k0).2.2.2 = false) (hn : narrow (ty0 k0) v = v) (hfit : fits (ty0 k0) v = true) (hlen : k0 < fs.length) (hws : ws.set q0 (a, .inr (ci, fs.set k0 v)) = ws') (d : decode cc pc = .ok (.putfield index, 3)) (hp : pc + 3 = pc') (kk : X Γ nL k n pc' lv st ws') : X Γ nL k n pc lv (v :: .ref a :: st) ws := by
  obtain ⟨p, l, e, R, s, m, args, below, meth, c, Q, A, D, cs⟩ := Γ
  subst hp
  subst hws
  intro H locs ls hP hD hS hl
  exact va_put B.1.1 B.1.2.1 B.1.2.2.2.2 hin ty0 hty hnm B.1.2.2.2.1 B.2.1.1 hP hD hS q0 he hc k0 hk (B.1.2.2.2.2 _ hw) (fun _ h => h) hfin (hty k0 hk) hn hfit hlen d (fun H1 locs1 hP1 hD1 hS1 => kk H1 locs1 ls hP1 hD1 hS1 hl)
theorem x_putF (B : CX Γ cc nL own R0) (hin2 : Γ.2.2.2.2.2.2.2.2.1.name = "<init>") {index ci N : Nat} {C : String} {T : u_T} {a : Nat} {fs : List Value} {v : Value} (q0 k0 : Nat) (ty0 : Nat → FieldType) (hty : ∀ k, k < N → parseFieldDescriptor (T k).2.2.1 = some (ty0 k)) (hnm : ∀ a, a < N → ∀ b, b < N → a ≠ b → (T a).2.1 ≠ (T b).2.1) (he : ws[q0]? = some (a, .inr (ci, fs))) (hc : vwCl[ci]? = some (C, T, N)) (hin : ∀ w ∈ u_ws C T N, w ∈ GW) (hk : k0 < N) (hw : Cond.fieldLink own index (T k0).1 (T k0).2.1 (T k0).2.2.1 ∈ GW) (hfin : (T k0).2.2.2 = true) (hdecl : (T k0).1 = own) (hn : narrow (ty0 k0) v = v) (hfit : fits (ty0 k0) v = true) (hlen : k0 < fs.length) (hws : ws.set q0 (a, .inr (ci, fs.set k0 v)) = ws') (d : decode cc pc = .ok (.putfield index, 3)) (hp : pc + 3 = pc') (kk : X Γ nL k n pc' lv st ws') : X Γ nL k n pc lv (v :: .ref a :: st) ws := by
  obtain ⟨p, l, e, R, s, m, args, below, meth, c, Q, A, D, cs⟩ := Γ
  subst hp
  subst hws
  intro H locs ls hP hD hS hl
  exact va_putF B.1.1 B.1.2.1 B.1.2.2.2.2 hin ty0 hty hnm B.1.2.2.2.1 B.2.1.1 hP hD hS q0 he hc k0 hk (B.1.2.2.2.2 _ hw) (fun _ h => h) hfin hin2 hdecl (hty k0 hk) hn hfit hlen d (fun H1 locs1 hP1 hD1 hS1 => kk H1 locs1 ls hP1 hD1 hS1 hl)
theorem x_iald (B : CX Γ cc nL own R0) {a N : Nat} {f : Nat → Int32} {i : Int32} (q0 : Nat) (he : ws[q0]? = some (a, .inl (Γ.cs.1, N, .inl f))) (hi : vp_in i N) (d : decode cc pc = .ok (.iaload, 1)) (hp : pc + 1 = pc') (kk : X Γ nL k n pc' lv (.int (f i.toNatClampNeg) :: st) ws) : X Γ nL k n pc lv (.int i :: .ref a :: st) ws := by
  obtain ⟨p, l, e, R, s, m, args, below, meth, c, Q, A, D, cs⟩ := Γ
  subst hp
  intro H locs ls hP hD hS hl
  exact va_iald B.1.1 B.1.2.1 B.2.1.1 hP q0 0 he rfl hi d (kk H locs ls hP hD hS hl)
theorem x_iast (B : CX Γ cc nL own R0) {a N : Nat} {f : Nat → Int32} {i v : Int32} (q0 : Nat) (he : ws[q0]? = some (a, .inl (Γ.cs.1, N, .inl f))) (hi : vp_in i N) (hws : ws.set q0 (a, .inl (Γ.cs.1, N, .inl (upd f i.toNatClampNeg v))) = ws') (d : decode cc pc = .ok (.iastore, 1)) (hp : pc + 1 = pc') (kk : X Γ nL k n pc' lv st ws') : X Γ nL k n pc lv (.int v :: .int i :: .ref a :: st) ws := by
  obtain ⟨p, l, e, R, s, m, args, below, meth, c, Q, A, D, cs⟩ := Γ
  subst hp
  subst hws
  intro H locs ls hP hD hS hl
  exact va_iast B.1.1 B.1.2.1 B.2.1.1 hP hD hS q0 0 he rfl hi d (fun H1 locs1 hP1 hD1 hS1 => kk H1 locs1 ls hP1 hD1 hS1 hl)
theorem x_lald (B : CX Γ cc nL own R0) {a N : Nat} {f : Nat → Int64} {i : Int32} (q0 : Nat) (he : ws[q0]? = some (a, .inl (Γ.cs.2.1, N, .inr (.inl f)))) (hi : vp_in i N) (d : decode cc pc = .ok (.laload, 1)) (hp : pc + 1 = pc') (kk : X Γ nL k n pc' lv (.long (f i.toNatClampNeg) :: st) ws) : X Γ nL k n pc lv (.int i :: .ref a :: st) ws := by
  obtain ⟨p, l, e, R, s, m, args, below, meth, c, Q, A, D, cs⟩ := Γ
  subst hp
  intro H locs ls hP hD hS hl
  exact va_lald B.1.1 B.1.2.1 B.2.1.1 hP q0 1 he rfl hi d (kk H locs ls hP hD hS hl)
theorem x_last (B : CX Γ cc nL own R0) {a N : Nat} {f : Nat → Int64} {i : Int32} {v : Int64} (q0 : Nat) (he : ws[q0]? = some (a, .inl (Γ.cs.2.1, N, .inr (.inl f)))) (hi : vp_in i N) (hws : ws.set q0 (a, .inl (Γ.cs.2.1, N, .inr (.inl (vp_updL f i.toNatClampNeg v)))) = ws') (d : decode cc pc = .ok (.lastore, 1)) (hp : pc + 1 = pc') (kk : X Γ nL k n pc' lv st ws') : X Γ nL k n pc lv (.long v :: .int i :: .ref a :: st) ws := by
  obtain ⟨p, l, e, R, s, m, args, below, meth, c, Q, A, D, cs⟩ := Γ
  subst hp
  subst hws
  intro H locs ls hP hD hS hl
  exact va_last B.1.1 B.1.2.1 B.2.1.1 hP hD hS q0 1 he rfl hi d (fun H1 locs1 hP1 hD1 hS1 => kk H1 locs1 ls hP1 hD1 hS1 hl)
theorem x_alen (B : CX Γ cc nL own R0) {a N : Nat} {f : Nat → Int32} (v : Int32) (q0 : Nat) (he : ws[q0]? = some (a, .inl (Γ.cs.1, N, .inl f))) (hv : nI N = v) (d : decode cc pc = .ok (.arraylength, 1)) (hp : pc + 1 = pc') (kk : X Γ nL k n pc' lv (.int v :: st) ws) : X Γ nL k n pc lv (.ref a :: st) ws := by
  obtain ⟨p, l, e, R, s, m, args, below, meth, c, Q, A, D, cs⟩ := Γ
  subst hp
  intro H locs ls hP hD hS hl
  exact va_alen B.1.1 B.1.2.1 B.2.1.1 hP q0 0 he rfl (by rw [← hv]; rfl) d (kk H locs ls hP hD hS hl)
/-! contracts -/
/-- a method's start: its arguments, its world -/
def PR (D : va_G) (cs : CS) (av : List Value) (w : va_W) (sz : Nat) : Array Value → State → Prop := va_Pc av (fun U => U.heap.size = sz ∧ va_P D vwCl w U.heap ∧ KN D cs U ∧ va_D (fun _ => True) w)
def PO (D : va_G) (w w' : va_W) (sz : Nat) : Unit → State → Prop := fun _ t => va_P D vwCl w' t.heap ∧ va_D (va_A w sz) w'
def MI (l : Launch) (D : va_G) (cs : CS) (y : MethodName) (bytes : ByteArray) (maxL : Nat) (rt : FieldType) (rm : Room) (av : List Value) (w : va_W) (r : Int32) (w' : va_W) : Prop := ∀ sz, Met l y (.code y bytes maxL (some rt) :: GW) rm (PR D cs av w sz) (va_Qi (fun r' _ => r' = r) (PO D w w' sz) (va_A w sz)) rm.cells rm.slots (va_A w sz)
def ML (l : Launch) (D : va_G) (cs : CS) (y : MethodName) (bytes : ByteArray) (maxL : Nat) (rm : Room) (av : List Value) (w : va_W) (r : Int64) (w' : va_W) : Prop := ∀ sz, Met l y (.code y bytes maxL (some .long) :: GW) rm (PR D cs av w sz) (va_Ql (fun r' _ => r' = r) (PO D w w' sz) (va_A w sz)) rm.cells rm.slots (va_A w sz)
def MV (l : Launch) (D : va_G) (cs : CS) (y : MethodName) (bytes : ByteArray) (maxL : Nat) (rm : Room) (av : List Value) (w w' : va_W) : Prop := ∀ sz, Met l y (.code y bytes maxL none :: GW) rm (PR D cs av w sz) (va_Qv (fun _ => True) (PO D w w' sz) (va_A w sz)) rm.cells rm.slots (va_A w sz)
theorem pr_blind (D : va_G) (cs : CS) (av : List Value) (w : va_W) (sz : Nat) : FrameBlind (PR D cs av w sz) := fun a U g mk q => by
  obtain ⟨q0, q1, qP, qK, qD⟩ := q
  exact ⟨q0, q1, qP, KN.same (s := U) (U := U.calling g mk a) rfl qK, qD⟩
theorem MI_of {l : Launch} {D : va_G} {cs : CS} {y : MethodName} {bytes : ByteArray} {maxL : Nat} {rt : FieldType} {r : Int32} {rm : Room} {av : List Value} {w w' : va_W} (hy : plainName y.cls = true) (hlen : (lg_sl av).length ≤ maxL)
    (body : ∀ Γ : Ctx, Γ.l = l → Γ.D = D → Γ.cs = cs → CX Γ bytes maxL y.cls rm → (∀ {k n pc : Nat} {lv : List (Nat × Value)}, narrow rt (.int r) = .int r → k ≤ rm.cells → n ≤ rm.slots → decode bytes pc = .ok (.ireturn, 1) → X Γ maxL k n pc lv [.int r] w') → X Γ maxL 0 0 0 (lv_args 0 av) [] w) : MI l D cs y bytes maxL rt rm av w r w' := by
  intro sz
  refine Met.ofW (cc := bytes) (maxL := maxL) (ret := some rt) hy rfl ?_
  intro p e s m args below meth c s₁ B hml hv
  obtain ⟨rfl, hsz, hP, hK, hD0⟩ := hv
  subst hsz
  have hts := atoms_spec (ws := .code y bytes maxL (some rt) :: GW) B.pre
  have hown : s.vm.findClass y.cls = some m.cls := findClass_of_methodNamed B.named
  have hl := lv_entry av (n := maxL) hlen
  rw [lg_entry_eq]
  have hD := hD0.self (sz := s.heap.size)
  refine body (p, l, e, rm, s, m, av.toArray, below, meth, c, _, va_A w s.heap.size, D, cs) rfl rfl rfl ⟨⟨B.exec, B.bytes, hml, hown, fun w h => hts w (List.mem_cons_of_mem _ h)⟩, hK, fun q h => Or.inr h, B.notSynchronized, rfl⟩ ?_ s.heap [] _ hP hD va_S.rf hl
  intro k n pc lv hnar hk hn d H locs ls hP1 hD1 hS hl1
  have hlocks : meth.locks = false := B.notSynchronized
  exact W.widen hk hn (W.zret B.exec B.bytes B.returns hnar (fun t ht hW => ⟨⟨r, (), rfl, rfl, by rw [ht]; exact hP1, hD1⟩, hS.F ht⟩) hS.2.2 d)
theorem ML_of {l : Launch} {D : va_G} {cs : CS} {y : MethodName} {bytes : ByteArray} {maxL : Nat} {r : Int64} {rm : Room} {av : List Value} {w w' : va_W} (hy : plainName y.cls = true) (hlen : (lg_sl av).length ≤ maxL)
    (body : ∀ Γ : Ctx, Γ.l = l → Γ.D = D → Γ.cs = cs → CX Γ bytes maxL y.cls rm → (∀ {k n pc : Nat} {lv : List (Nat × Value)}, k ≤ rm.cells → n ≤ rm.slots → decode bytes pc = .ok (.lreturn, 1) → X Γ maxL k n pc lv [.long r] w') → X Γ maxL 0 0 0 (lv_args 0 av) [] w) : ML l D cs y bytes maxL rm av w r w' := by
  intro sz
  refine Met.ofW (cc := bytes) (maxL := maxL) (ret := some .long) hy rfl ?_
  intro p e s m args below meth c s₁ B hml hv
  obtain ⟨rfl, hsz, hP, hK, hD0⟩ := hv
  subst hsz
  have hts := atoms_spec (ws := .code y bytes maxL (some .long) :: GW) B.pre
  have hown : s.vm.findClass y.cls = some m.cls := findClass_of_methodNamed B.named
  have hl := lv_entry av (n := maxL) hlen
  rw [lg_entry_eq]
  have hD := hD0.self (sz := s.heap.size)
  refine body (p, l, e, rm, s, m, av.toArray, below, meth, c, _, va_A w s.heap.size, D, cs) rfl rfl rfl ⟨⟨B.exec, B.bytes, hml, hown, fun w h => hts w (List.mem_cons_of_mem _ h)⟩, hK, fun q h => Or.inr h, B.notSynchronized, rfl⟩ ?_ s.heap [] _ hP hD va_S.rf hl
  intro k n pc lv hk hn d H locs ls hP1 hD1 hS hl1
  have hlocks : meth.locks = false := B.notSynchronized
  exact W.widen hk hn (W.lret B.exec B.bytes B.returns (fun t ht hW => ⟨⟨r, (), rfl, rfl, by rw [ht]; exact hP1, hD1⟩, hS.F ht⟩) hS.2.2 d)
theorem MV_of {l : Launch} {D : va_G} {cs : CS} {y : MethodName} {bytes : ByteArray} {maxL : Nat} {rm : Room} {av : List Value} {w w' : va_W} (hy : plainName y.cls = true) (hlen : (lg_sl av).length ≤ maxL)
    (body : ∀ Γ : Ctx, Γ.l = l → Γ.D = D → Γ.cs = cs → CX Γ bytes maxL y.cls rm → (∀ {k n pc : Nat} {lv : List (Nat × Value)}, k ≤ rm.cells → n ≤ rm.slots → decode bytes pc = .ok (.return_, 1) → X Γ maxL k n pc lv [] w') → X Γ maxL 0 0 0 (lv_args 0 av) [] w) : MV l D cs y bytes maxL rm av w w' := by
  intro sz
  refine Met.ofW (cc := bytes) (maxL := maxL) (ret := none) hy rfl ?_
  intro p e s m args below meth c s₁ B hml hv
  obtain ⟨rfl, hsz, hP, hK, hD0⟩ := hv
  subst hsz
  have hts := atoms_spec (ws := .code y bytes maxL (none) :: GW) B.pre
  have hown : s.vm.findClass y.cls = some m.cls := findClass_of_methodNamed B.named
  have hl := lv_entry av (n := maxL) hlen
  rw [lg_entry_eq]
  have hD := hD0.self (sz := s.heap.size)
  refine body (p, l, e, rm, s, m, av.toArray, below, meth, c, _, va_A w s.heap.size, D, cs) rfl rfl rfl ⟨⟨B.exec, B.bytes, hml, hown, fun w h => hts w (List.mem_cons_of_mem _ h)⟩, hK, fun q h => Or.inr h, B.notSynchronized, rfl⟩ ?_ s.heap [] _ hP hD va_S.rf hl
  intro k n pc lv hk hn d H locs ls hP1 hD1 hS hl1
  have hlocks : meth.locks = false := B.notSynchronized
  exact W.widen hk hn (W.vret B.exec B.bytes B.returns (fun t ht hW => ⟨⟨(), rfl, trivial, by rw [ht]; exact hP1, hD1⟩, hS.F ht⟩) hS.2.2 d)
theorem fm_of {α : Type} {f : Nat → Option α} : ∀ {is : List Nat} {w : List α}, is.map f = w.map some → is.filterMap f = w
  | [], [], _ => rfl
  | [], _ :: _, h => by cases h
  | _ :: _, [], h => by cases h
  | i :: is, a :: w, h => by
    rw [List.map_cons, List.map_cons, List.cons.injEq] at h
    rw [List.filterMap_cons, h.1]
    exact congrArg (a :: ·) (fm_of h.2)
theorem x_GVi {Γ : Ctx} {cc : ByteArray} {nL k n pc pc' : Nat} {own : String} {R0 : Room} {lv : List (Nat × Value)} {st st0 : List Value} {ws ws' : va_W} (B : CX Γ cc nL own R0) {y : MethodName} {index maxL : Nat} {bytes : ByteArray} {rt : FieldType} {r : Int32} {rm : Room} {b : Addr} (As : List Value) {w w' wr : va_W} (hM : MI Γ.l Γ.D Γ.cs y bytes maxL rt rm (.ref b :: As) w r w') (isC isR is : List Nat) (hC : isC.map (fun i => ws[i]?) = w.map some) (hcn : va_nd isC = true) (hRr : isR.map (fun i => ws[i]?) = wr.map some) (hrn : va_nd isR = true) (hdis : ∀ i ∈ isR, i ∉ isC) (hN : is.map (fun i => (wr ++ w')[i]?) = ws'.map some) (hn2 : va_nd is = true) {ci : Nat} {fs : List Value} {q3 : vw_C} (hrec : (w : va_W)[0]? = some (b, .inr (ci, fs))) (hcl : vwCl[ci]? = some q3) (hg : GoodIn GW (wsV own index q3.1 y (.code y bytes maxL (some rt) :: GW))) (hcc : y.cls = q3.1) (hd : y.cls ≠ "java/lang/invoke/MethodHandle" ∧ y.cls ≠ "java/lang/invoke/VarHandle" ∧ (parseMethodDescriptor y.desc).map (fun d => d.parameters.length) = some As.length) (hR : rm.frames + 1 ≤ R0.frames ∧ 8 + (maxL + 11) + rm.locals ≤ R0.locals) (hroom : k + rm.cells ≤ R0.cells ∧ n + rm.slots ≤ R0.slots) (hstk : st0 = As.reverse ++ .ref b :: st) (hsum : (st.map fun v => v.category).sum ≤ 8) (d : decode cc pc = .ok (.invokevirtual index, 3)) (hp : pc + 3 = pc') (kk : X Γ nL (k + rm.cells) (n + rm.slots) pc' lv (.int r :: st) ws') : X Γ nL k n pc lv st0 ws := by
  obtain ⟨p, l, e, R, s, m, args, below, meth, c, Q, A, D, cs⟩ := Γ
  subst hp
  subst hstk
  obtain ⟨hfix, hKN, hA, hlk, rfl⟩ := B
  intro H locs ls hP hD hS hl
  have hPc : va_P D vwCl w H := hP.sub isC (fm_of hC)
  have hDc : va_D A w := hD.sub isC hcn hC
  have hFc := va_free hD hS hA isC hC
  refine va_calli (va_runV (As := As) (rest := st) hfix (hM H.size) (cwV As.length hfix.2.2.2.2 hg rfl rfl rfl ⟨hcc, hd⟩ hR) ⟨pr_blind _ _ _ _ _, va_recv hKN.1 hPc (q := q3) hcl (q0 := 0) hrec, fun U hU hW => ⟨rfl, by rw [hU], by rw [hU]; exact hPc, KN.warm hW hKN, hDc.weaken (fun _ _ _ _ => trivial)⟩⟩ rfl rfl hl.1 rfl (lv_room hsum) d hroom) hS (fun q _ h => hFc q h) hFc (fun r2 u t H1 locs1 ht hvm hw hB hz1 hk1 hS1 => ?_)
  subst hw
  obtain ⟨hP1, hD1⟩ := hB
  rw [ht] at hP1
  obtain ⟨hP2, hD2⟩ := va_join hP hD isC isR hC hRr hrn hdis hk1 hFc hP1 hD1
  exact kk H1 locs1 ls (hP2.sub is (fm_of hN)) (hD2.sub is hn2 hN) hS1 hl
theorem x_selfVi {Γ : Ctx} {cc : ByteArray} {nL k n pc pc' : Nat} {own : String} {R0 : Room} {lv : List (Nat × Value)} {st st0 : List Value} {ws ws' : va_W} (B : CX Γ cc nL own R0) {y : MethodName} {index maxL : Nat} {bytes : ByteArray} {rt : FieldType} {r : Int32} {rm : Room} {b : Addr} (As : List Value) (hM : MI Γ.l Γ.D Γ.cs y bytes maxL rt rm (.ref b :: As) ws r ws') {ci : Nat} {fs : List Value} {q3 : vw_C} (hrec : (ws : va_W)[0]? = some (b, .inr (ci, fs))) (hcl : vwCl[ci]? = some q3) (hg : GoodIn GW (wsV own index q3.1 y (.code y bytes maxL (some rt) :: GW))) (hcc : y.cls = q3.1) (hd : y.cls ≠ "java/lang/invoke/MethodHandle" ∧ y.cls ≠ "java/lang/invoke/VarHandle" ∧ (parseMethodDescriptor y.desc).map (fun d => d.parameters.length) = some As.length) (hR : rm.frames + 1 ≤ R0.frames ∧ 8 + (maxL + 11) + rm.locals ≤ R0.locals) (hroom : k + rm.cells ≤ R0.cells ∧ n + rm.slots ≤ R0.slots) (hstk : st0 = As.reverse ++ .ref b :: st) (hsum : (st.map fun v => v.category).sum ≤ 8) (d : decode cc pc = .ok (.invokevirtual index, 3)) (hp : pc + 3 = pc') (kk : X Γ nL (k + rm.cells) (n + rm.slots) pc' lv (.int r :: st) ws') : X Γ nL k n pc lv st0 ws := by
  obtain ⟨p, l, e, R, s, m, args, below, meth, c, Q, A, D, cs⟩ := Γ
  subst hp
  subst hstk
  obtain ⟨hfix, hKN, hA, hlk, rfl⟩ := B
  intro H locs ls hP hD hS hl
  have hPc : va_P D vwCl ws H := hP
  have hDc : va_D A ws := hD
  have hFc : ∀ q, va_A ws H.size q → A q := fun q h => h.elim (fun ⟨k9, e9, h9⟩ => hD.2 k9 (q, e9) h9) (fun h9 => hA q (Nat.le_trans hS.1 h9))
  refine va_calli (va_runV (As := As) (rest := st) hfix (hM H.size) (cwV As.length hfix.2.2.2.2 hg rfl rfl rfl ⟨hcc, hd⟩ hR) ⟨pr_blind _ _ _ _ _, va_recv hKN.1 hPc (q := q3) hcl (q0 := 0) hrec, fun U hU hW => ⟨rfl, by rw [hU], by rw [hU]; exact hPc, KN.warm hW hKN, hDc.weaken (fun _ _ _ _ => trivial)⟩⟩ rfl rfl hl.1 rfl (lv_room hsum) d hroom) hS (fun q _ h => hFc q h) hFc (fun r2 u t H1 locs1 ht hvm hw hB hz1 hk1 hS1 => ?_)
  subst hw
  obtain ⟨hP1, hD1⟩ := hB
  rw [ht] at hP1
  exact kk H1 locs1 ls hP1 (hD1.weaken (fun k9 q9 _ h9 => hFc q9.1 h9)) hS1 hl
theorem x_GVl {Γ : Ctx} {cc : ByteArray} {nL k n pc pc' : Nat} {own : String} {R0 : Room} {lv : List (Nat × Value)} {st st0 : List Value} {ws ws' : va_W} (B : CX Γ cc nL own R0) {y : MethodName} {index maxL : Nat} {bytes : ByteArray} {r : Int64} {rm : Room} {b : Addr} (As : List Value) {w w' wr : va_W} (hM : ML Γ.l Γ.D Γ.cs y bytes maxL rm (.ref b :: As) w r w') (isC isR is : List Nat) (hC : isC.map (fun i => ws[i]?) = w.map some) (hcn : va_nd isC = true) (hRr : isR.map (fun i => ws[i]?) = wr.map some) (hrn : va_nd isR = true) (hdis : ∀ i ∈ isR, i ∉ isC) (hN : is.map (fun i => (wr ++ w')[i]?) = ws'.map some) (hn2 : va_nd is = true) {ci : Nat} {fs : List Value} {q3 : vw_C} (hrec : (w : va_W)[0]? = some (b, .inr (ci, fs))) (hcl : vwCl[ci]? = some q3) (hg : GoodIn GW (wsV own index q3.1 y (.code y bytes maxL (some .long) :: GW))) (hcc : y.cls = q3.1) (hd : y.cls ≠ "java/lang/invoke/MethodHandle" ∧ y.cls ≠ "java/lang/invoke/VarHandle" ∧ (parseMethodDescriptor y.desc).map (fun d => d.parameters.length) = some As.length) (hR : rm.frames + 1 ≤ R0.frames ∧ 8 + (maxL + 11) + rm.locals ≤ R0.locals) (hroom : k + rm.cells ≤ R0.cells ∧ n + rm.slots ≤ R0.slots) (hstk : st0 = As.reverse ++ .ref b :: st) (hsum : (st.map fun v => v.category).sum ≤ 8) (d : decode cc pc = .ok (.invokevirtual index, 3)) (hp : pc + 3 = pc') (kk : X Γ nL (k + rm.cells) (n + rm.slots) pc' lv (.long r :: st) ws') : X Γ nL k n pc lv st0 ws := by
  obtain ⟨p, l, e, R, s, m, args, below, meth, c, Q, A, D, cs⟩ := Γ
  subst hp
  subst hstk
  obtain ⟨hfix, hKN, hA, hlk, rfl⟩ := B
  intro H locs ls hP hD hS hl
  have hPc : va_P D vwCl w H := hP.sub isC (fm_of hC)
  have hDc : va_D A w := hD.sub isC hcn hC
  have hFc := va_free hD hS hA isC hC
  refine va_calll (va_runV (As := As) (rest := st) hfix (hM H.size) (cwV As.length hfix.2.2.2.2 hg rfl rfl rfl ⟨hcc, hd⟩ hR) ⟨pr_blind _ _ _ _ _, va_recv hKN.1 hPc (q := q3) hcl (q0 := 0) hrec, fun U hU hW => ⟨rfl, by rw [hU], by rw [hU]; exact hPc, KN.warm hW hKN, hDc.weaken (fun _ _ _ _ => trivial)⟩⟩ rfl rfl hl.1 rfl (lv_room hsum) d hroom) hS (fun q _ h => hFc q h) hFc (fun r2 u t H1 locs1 ht hvm hw hB hz1 hk1 hS1 => ?_)
  subst hw
  obtain ⟨hP1, hD1⟩ := hB
  rw [ht] at hP1
  obtain ⟨hP2, hD2⟩ := va_join hP hD isC isR hC hRr hrn hdis hk1 hFc hP1 hD1
  exact kk H1 locs1 ls (hP2.sub is (fm_of hN)) (hD2.sub is hn2 hN) hS1 hl
theorem x_selfVl {Γ : Ctx} {cc : ByteArray} {nL k n pc pc' : Nat} {own : String} {R0 : Room} {lv : List (Nat × Value)} {st st0 : List Value} {ws ws' : va_W} (B : CX Γ cc nL own R0) {y : MethodName} {index maxL : Nat} {bytes : ByteArray} {r : Int64} {rm : Room} {b : Addr} (As : List Value) (hM : ML Γ.l Γ.D Γ.cs y bytes maxL rm (.ref b :: As) ws r ws') {ci : Nat} {fs : List Value} {q3 : vw_C} (hrec : (ws : va_W)[0]? = some (b, .inr (ci, fs))) (hcl : vwCl[ci]? = some q3) (hg : GoodIn GW (wsV own index q3.1 y (.code y bytes maxL (some .long) :: GW))) (hcc : y.cls = q3.1) (hd : y.cls ≠ "java/lang/invoke/MethodHandle" ∧ y.cls ≠ "java/lang/invoke/VarHandle" ∧ (parseMethodDescriptor y.desc).map (fun d => d.parameters.length) = some As.length) (hR : rm.frames + 1 ≤ R0.frames ∧ 8 + (maxL + 11) + rm.locals ≤ R0.locals) (hroom : k + rm.cells ≤ R0.cells ∧ n + rm.slots ≤ R0.slots) (hstk : st0 = As.reverse ++ .ref b :: st) (hsum : (st.map fun v => v.category).sum ≤ 8) (d : decode cc pc = .ok (.invokevirtual index, 3)) (hp : pc + 3 = pc') (kk : X Γ nL (k + rm.cells) (n + rm.slots) pc' lv (.long r :: st) ws') : X Γ nL k n pc lv st0 ws := by
  obtain ⟨p, l, e, R, s, m, args, below, meth, c, Q, A, D, cs⟩ := Γ
  subst hp
  subst hstk
  obtain ⟨hfix, hKN, hA, hlk, rfl⟩ := B
  intro H locs ls hP hD hS hl
  have hPc : va_P D vwCl ws H := hP
  have hDc : va_D A ws := hD
  have hFc : ∀ q, va_A ws H.size q → A q := fun q h => h.elim (fun ⟨k9, e9, h9⟩ => hD.2 k9 (q, e9) h9) (fun h9 => hA q (Nat.le_trans hS.1 h9))
  refine va_calll (va_runV (As := As) (rest := st) hfix (hM H.size) (cwV As.length hfix.2.2.2.2 hg rfl rfl rfl ⟨hcc, hd⟩ hR) ⟨pr_blind _ _ _ _ _, va_recv hKN.1 hPc (q := q3) hcl (q0 := 0) hrec, fun U hU hW => ⟨rfl, by rw [hU], by rw [hU]; exact hPc, KN.warm hW hKN, hDc.weaken (fun _ _ _ _ => trivial)⟩⟩ rfl rfl hl.1 rfl (lv_room hsum) d hroom) hS (fun q _ h => hFc q h) hFc (fun r2 u t H1 locs1 ht hvm hw hB hz1 hk1 hS1 => ?_)
  subst hw
  obtain ⟨hP1, hD1⟩ := hB
  rw [ht] at hP1
  exact kk H1 locs1 ls hP1 (hD1.weaken (fun k9 q9 _ h9 => hFc q9.1 h9)) hS1 hl
theorem x_GVv {Γ : Ctx} {cc : ByteArray} {nL k n pc pc' : Nat} {own : String} {R0 : Room} {lv : List (Nat × Value)} {st st0 : List Value} {ws ws' : va_W} (B : CX Γ cc nL own R0) {y : MethodName} {index maxL : Nat} {bytes : ByteArray} {rm : Room} {b : Addr} (As : List Value) {w w' wr : va_W} (hM : MV Γ.l Γ.D Γ.cs y bytes maxL rm (.ref b :: As) w w') (isC isR is : List Nat) (hC : isC.map (fun i => ws[i]?) = w.map some) (hcn : va_nd isC = true) (hRr : isR.map (fun i => ws[i]?) = wr.map some) (hrn : va_nd isR = true) (hdis : ∀ i ∈ isR, i ∉ isC) (hN : is.map (fun i => (wr ++ w')[i]?) = ws'.map some) (hn2 : va_nd is = true) {ci : Nat} {fs : List Value} {q3 : vw_C} (hrec : (w : va_W)[0]? = some (b, .inr (ci, fs))) (hcl : vwCl[ci]? = some q3) (hg : GoodIn GW (wsV own index q3.1 y (.code y bytes maxL none :: GW))) (hcc : y.cls = q3.1) (hd : y.cls ≠ "java/lang/invoke/MethodHandle" ∧ y.cls ≠ "java/lang/invoke/VarHandle" ∧ (parseMethodDescriptor y.desc).map (fun d => d.parameters.length) = some As.length) (hR : rm.frames + 1 ≤ R0.frames ∧ 8 + (maxL + 11) + rm.locals ≤ R0.locals) (hroom : k + rm.cells ≤ R0.cells ∧ n + rm.slots ≤ R0.slots) (hstk : st0 = As.reverse ++ .ref b :: st) (hsum : (st.map fun v => v.category).sum ≤ 8) (d : decode cc pc = .ok (.invokevirtual index, 3)) (hp : pc + 3 = pc') (kk : X Γ nL (k + rm.cells) (n + rm.slots) pc' lv (st) ws') : X Γ nL k n pc lv st0 ws := by
  obtain ⟨p, l, e, R, s, m, args, below, meth, c, Q, A, D, cs⟩ := Γ
  subst hp
  subst hstk
  obtain ⟨hfix, hKN, hA, hlk, rfl⟩ := B
  intro H locs ls hP hD hS hl
  have hPc : va_P D vwCl w H := hP.sub isC (fm_of hC)
  have hDc : va_D A w := hD.sub isC hcn hC
  have hFc := va_free hD hS hA isC hC
  refine va_callv (va_runV (As := As) (rest := st) hfix (hM H.size) (cwV As.length hfix.2.2.2.2 hg rfl rfl rfl ⟨hcc, hd⟩ hR) ⟨pr_blind _ _ _ _ _, va_recv hKN.1 hPc (q := q3) hcl (q0 := 0) hrec, fun U hU hW => ⟨rfl, by rw [hU], by rw [hU]; exact hPc, KN.warm hW hKN, hDc.weaken (fun _ _ _ _ => trivial)⟩⟩ rfl rfl hl.1 rfl (lv_room hsum) d hroom) hS (fun q _ h => hFc q h) hFc (fun u t H1 locs1 ht hvm hw hB hz1 hk1 hS1 => ?_)
  obtain ⟨hP1, hD1⟩ := hB
  rw [ht] at hP1
  obtain ⟨hP2, hD2⟩ := va_join hP hD isC isR hC hRr hrn hdis hk1 hFc hP1 hD1
  exact kk H1 locs1 ls (hP2.sub is (fm_of hN)) (hD2.sub is hn2 hN) hS1 hl
theorem x_selfVv {Γ : Ctx} {cc : ByteArray} {nL k n pc pc' : Nat} {own : String} {R0 : Room} {lv : List (Nat × Value)} {st st0 : List Value} {ws ws' : va_W} (B : CX Γ cc nL own R0) {y : MethodName} {index maxL : Nat} {bytes : ByteArray} {rm : Room} {b : Addr} (As : List Value) (hM : MV Γ.l Γ.D Γ.cs y bytes maxL rm (.ref b :: As) ws ws') {ci : Nat} {fs : List Value} {q3 : vw_C} (hrec : (ws : va_W)[0]? = some (b, .inr (ci, fs))) (hcl : vwCl[ci]? = some q3) (hg : GoodIn GW (wsV own index q3.1 y (.code y bytes maxL none :: GW))) (hcc : y.cls = q3.1) (hd : y.cls ≠ "java/lang/invoke/MethodHandle" ∧ y.cls ≠ "java/lang/invoke/VarHandle" ∧ (parseMethodDescriptor y.desc).map (fun d => d.parameters.length) = some As.length) (hR : rm.frames + 1 ≤ R0.frames ∧ 8 + (maxL + 11) + rm.locals ≤ R0.locals) (hroom : k + rm.cells ≤ R0.cells ∧ n + rm.slots ≤ R0.slots) (hstk : st0 = As.reverse ++ .ref b :: st) (hsum : (st.map fun v => v.category).sum ≤ 8) (d : decode cc pc = .ok (.invokevirtual index, 3)) (hp : pc + 3 = pc') (kk : X Γ nL (k + rm.cells) (n + rm.slots) pc' lv (st) ws') : X Γ nL k n pc lv st0 ws := by
  obtain ⟨p, l, e, R, s, m, args, below, meth, c, Q, A, D, cs⟩ := Γ
  subst hp
  subst hstk
  obtain ⟨hfix, hKN, hA, hlk, rfl⟩ := B
  intro H locs ls hP hD hS hl
  have hPc : va_P D vwCl ws H := hP
  have hDc : va_D A ws := hD
  have hFc : ∀ q, va_A ws H.size q → A q := fun q h => h.elim (fun ⟨k9, e9, h9⟩ => hD.2 k9 (q, e9) h9) (fun h9 => hA q (Nat.le_trans hS.1 h9))
  refine va_callv (va_runV (As := As) (rest := st) hfix (hM H.size) (cwV As.length hfix.2.2.2.2 hg rfl rfl rfl ⟨hcc, hd⟩ hR) ⟨pr_blind _ _ _ _ _, va_recv hKN.1 hPc (q := q3) hcl (q0 := 0) hrec, fun U hU hW => ⟨rfl, by rw [hU], by rw [hU]; exact hPc, KN.warm hW hKN, hDc.weaken (fun _ _ _ _ => trivial)⟩⟩ rfl rfl hl.1 rfl (lv_room hsum) d hroom) hS (fun q _ h => hFc q h) hFc (fun u t H1 locs1 ht hvm hw hB hz1 hk1 hS1 => ?_)
  obtain ⟨hP1, hD1⟩ := hB
  rw [ht] at hP1
  exact kk H1 locs1 ls hP1 (hD1.weaken (fun k9 q9 _ h9 => hFc q9.1 h9)) hS1 hl
theorem x_GSi {Γ : Ctx} {cc : ByteArray} {nL k n pc pc' : Nat} {own : String} {R0 : Room} {lv : List (Nat × Value)} {st st0 : List Value} {ws ws' : va_W} (B : CX Γ cc nL own R0) {y : MethodName} {index maxL : Nat} {bytes : ByteArray} {rt : FieldType} {r : Int32} {rm : Room} (As : List Value) {w w' wr : va_W} (hM : MI Γ.l Γ.D Γ.cs y bytes maxL rt rm As w r w') (isC isR is : List Nat) (hC : isC.map (fun i => ws[i]?) = w.map some) (hcn : va_nd isC = true) (hRr : isR.map (fun i => ws[i]?) = wr.map some) (hrn : va_nd isR = true) (hdis : ∀ i ∈ isR, i ∉ isC) (hN : is.map (fun i => (wr ++ w')[i]?) = ws'.map some) (hn2 : va_nd is = true) (hg : GoodIn GW (va_wsS own index y (.code y bytes maxL (some rt) :: GW))) (hd : y.cls ≠ "java/lang/invoke/MethodHandle" ∧ y.cls ≠ "java/lang/invoke/VarHandle" ∧ (parseMethodDescriptor y.desc).map (fun d => d.parameters.length) = some As.length) (hR : rm.frames + 1 ≤ R0.frames ∧ 8 + (maxL + 11) + rm.locals ≤ R0.locals) (hroom : k + rm.cells ≤ R0.cells ∧ n + rm.slots ≤ R0.slots) (hstk : st0 = As.reverse ++ st) (hsum : (st.map fun v => v.category).sum ≤ 8) (d : decode cc pc = .ok (.invokestatic index, 3)) (hp : pc + 3 = pc') (kk : X Γ nL (k + rm.cells) (n + rm.slots) pc' lv (.int r :: st) ws') : X Γ nL k n pc lv st0 ws := by
  obtain ⟨p, l, e, R, s, m, args, below, meth, c, Q, A, D, cs⟩ := Γ
  subst hp
  subst hstk
  obtain ⟨hfix, hKN, hA, hlk, rfl⟩ := B
  intro H locs ls hP hD hS hl
  have hPc : va_P D vwCl w H := hP.sub isC (fm_of hC)
  have hDc : va_D A w := hD.sub isC hcn hC
  have hFc := va_free hD hS hA isC hC
  refine va_calli (va_runS (As := As) (rest := st) hfix (hM H.size) (va_cwS As.length hfix.2.2.2.2 hg rfl rfl rfl hd hR) ⟨pr_blind _ _ _ _ _, fun U hU hW => ⟨rfl, by rw [hU], by rw [hU]; exact hPc, KN.warm hW hKN, hDc.weaken (fun _ _ _ _ => trivial)⟩⟩ rfl rfl hl.1 rfl (lv_room hsum) d hroom) hS (fun q _ h => hFc q h) hFc (fun r2 u t H1 locs1 ht hvm hw hB hz1 hk1 hS1 => ?_)
  subst hw
  obtain ⟨hP1, hD1⟩ := hB
  rw [ht] at hP1
  obtain ⟨hP2, hD2⟩ := va_join hP hD isC isR hC hRr hrn hdis hk1 hFc hP1 hD1
  exact kk H1 locs1 ls (hP2.sub is (fm_of hN)) (hD2.sub is hn2 hN) hS1 hl
theorem x_pureSi {Γ : Ctx} {cc : ByteArray} {nL k n pc pc' : Nat} {own : String} {R0 : Room} {lv : List (Nat × Value)} {st st0 : List Value} {ws : va_W} (B : CX Γ cc nL own R0) {y : MethodName} {index maxL : Nat} {bytes : ByteArray} {rt : FieldType} {r : Int32} {rm : Room} (As : List Value) (hM : MI Γ.l Γ.D Γ.cs y bytes maxL rt rm As [] r []) (hg : GoodIn GW (va_wsS own index y (.code y bytes maxL (some rt) :: GW))) (hd : y.cls ≠ "java/lang/invoke/MethodHandle" ∧ y.cls ≠ "java/lang/invoke/VarHandle" ∧ (parseMethodDescriptor y.desc).map (fun d => d.parameters.length) = some As.length) (hR : rm.frames + 1 ≤ R0.frames ∧ 8 + (maxL + 11) + rm.locals ≤ R0.locals) (hroom : k + rm.cells ≤ R0.cells ∧ n + rm.slots ≤ R0.slots) (hstk : st0 = As.reverse ++ st) (hsum : (st.map fun v => v.category).sum ≤ 8) (d : decode cc pc = .ok (.invokestatic index, 3)) (hp : pc + 3 = pc') (kk : X Γ nL (k + rm.cells) (n + rm.slots) pc' lv (.int r :: st) ws) : X Γ nL k n pc lv st0 ws := by
  obtain ⟨p, l, e, R, s, m, args, below, meth, c, Q, A, D, cs⟩ := Γ
  subst hp
  subst hstk
  obtain ⟨hfix, hKN, hA, hlk, rfl⟩ := B
  intro H locs ls hP hD hS hl
  have hPc : va_P D vwCl [] H := fun k9 q9 h9 => by simp at h9
  have hDc : va_D A [] := ⟨fun i j p9 q9 h9 => by simp at h9, fun k9 q9 h9 => by simp at h9⟩
  have hFc : ∀ q, va_A [] H.size q → A q := fun q h => h.elim (fun ⟨k9, e9, h9⟩ => by simp at h9) (fun h9 => hA q (Nat.le_trans hS.1 h9))
  refine va_calli (va_runS (As := As) (rest := st) hfix (hM H.size) (va_cwS As.length hfix.2.2.2.2 hg rfl rfl rfl hd hR) ⟨pr_blind _ _ _ _ _, fun U hU hW => ⟨rfl, by rw [hU], by rw [hU]; exact hPc, KN.warm hW hKN, hDc.weaken (fun _ _ _ _ => trivial)⟩⟩ rfl rfl hl.1 rfl (lv_room hsum) d hroom) hS (fun q _ h => hFc q h) hFc (fun r2 u t H1 locs1 ht hvm hw hB hz1 hk1 hS1 => ?_)
  subst hw
  obtain ⟨hP1, hD1⟩ := hB
  rw [ht] at hP1
  exact kk H1 locs1 ls (hP.kept (fun k9 q9 h9 => hk1 q9.1 (hP k9 q9 h9).lt (fun h8 => h8.elim (fun ⟨k8, e8, h7⟩ => by simp at h7) (fun h7 => Nat.lt_irrefl _ (Nat.lt_of_lt_of_le (hP k9 q9 h9).lt h7))))) hD hS1 hl
theorem x_GSl {Γ : Ctx} {cc : ByteArray} {nL k n pc pc' : Nat} {own : String} {R0 : Room} {lv : List (Nat × Value)} {st st0 : List Value} {ws ws' : va_W} (B : CX Γ cc nL own R0) {y : MethodName} {index maxL : Nat} {bytes : ByteArray} {r : Int64} {rm : Room} (As : List Value) {w w' wr : va_W} (hM : ML Γ.l Γ.D Γ.cs y bytes maxL rm As w r w') (isC isR is : List Nat) (hC : isC.map (fun i => ws[i]?) = w.map some) (hcn : va_nd isC = true) (hRr : isR.map (fun i => ws[i]?) = wr.map some) (hrn : va_nd isR = true) (hdis : ∀ i ∈ isR, i ∉ isC) (hN : is.map (fun i => (wr ++ w')[i]?) = ws'.map some) (hn2 : va_nd is = true) (hg : GoodIn GW (va_wsS own index y (.code y bytes maxL (some .long) :: GW))) (hd : y.cls ≠ "java/lang/invoke/MethodHandle" ∧ y.cls ≠ "java/lang/invoke/VarHandle" ∧ (parseMethodDescriptor y.desc).map (fun d => d.parameters.length) = some As.length) (hR : rm.frames + 1 ≤ R0.frames ∧ 8 + (maxL + 11) + rm.locals ≤ R0.locals) (hroom : k + rm.cells ≤ R0.cells ∧ n + rm.slots ≤ R0.slots) (hstk : st0 = As.reverse ++ st) (hsum : (st.map fun v => v.category).sum ≤ 8) (d : decode cc pc = .ok (.invokestatic index, 3)) (hp : pc + 3 = pc') (kk : X Γ nL (k + rm.cells) (n + rm.slots) pc' lv (.long r :: st) ws') : X Γ nL k n pc lv st0 ws := by
  obtain ⟨p, l, e, R, s, m, args, below, meth, c, Q, A, D, cs⟩ := Γ
  subst hp
  subst hstk
  obtain ⟨hfix, hKN, hA, hlk, rfl⟩ := B
  intro H locs ls hP hD hS hl
  have hPc : va_P D vwCl w H := hP.sub isC (fm_of hC)
  have hDc : va_D A w := hD.sub isC hcn hC
  have hFc := va_free hD hS hA isC hC
  refine va_calll (va_runS (As := As) (rest := st) hfix (hM H.size) (va_cwS As.length hfix.2.2.2.2 hg rfl rfl rfl hd hR) ⟨pr_blind _ _ _ _ _, fun U hU hW => ⟨rfl, by rw [hU], by rw [hU]; exact hPc, KN.warm hW hKN, hDc.weaken (fun _ _ _ _ => trivial)⟩⟩ rfl rfl hl.1 rfl (lv_room hsum) d hroom) hS (fun q _ h => hFc q h) hFc (fun r2 u t H1 locs1 ht hvm hw hB hz1 hk1 hS1 => ?_)
  subst hw
  obtain ⟨hP1, hD1⟩ := hB
  rw [ht] at hP1
  obtain ⟨hP2, hD2⟩ := va_join hP hD isC isR hC hRr hrn hdis hk1 hFc hP1 hD1
  exact kk H1 locs1 ls (hP2.sub is (fm_of hN)) (hD2.sub is hn2 hN) hS1 hl
theorem x_pureSl {Γ : Ctx} {cc : ByteArray} {nL k n pc pc' : Nat} {own : String} {R0 : Room} {lv : List (Nat × Value)} {st st0 : List Value} {ws : va_W} (B : CX Γ cc nL own R0) {y : MethodName} {index maxL : Nat} {bytes : ByteArray} {r : Int64} {rm : Room} (As : List Value) (hM : ML Γ.l Γ.D Γ.cs y bytes maxL rm As [] r []) (hg : GoodIn GW (va_wsS own index y (.code y bytes maxL (some .long) :: GW))) (hd : y.cls ≠ "java/lang/invoke/MethodHandle" ∧ y.cls ≠ "java/lang/invoke/VarHandle" ∧ (parseMethodDescriptor y.desc).map (fun d => d.parameters.length) = some As.length) (hR : rm.frames + 1 ≤ R0.frames ∧ 8 + (maxL + 11) + rm.locals ≤ R0.locals) (hroom : k + rm.cells ≤ R0.cells ∧ n + rm.slots ≤ R0.slots) (hstk : st0 = As.reverse ++ st) (hsum : (st.map fun v => v.category).sum ≤ 8) (d : decode cc pc = .ok (.invokestatic index, 3)) (hp : pc + 3 = pc') (kk : X Γ nL (k + rm.cells) (n + rm.slots) pc' lv (.long r :: st) ws) : X Γ nL k n pc lv st0 ws := by
  obtain ⟨p, l, e, R, s, m, args, below, meth, c, Q, A, D, cs⟩ := Γ
  subst hp
  subst hstk
  obtain ⟨hfix, hKN, hA, hlk, rfl⟩ := B
  intro H locs ls hP hD hS hl
  have hPc : va_P D vwCl [] H := fun k9 q9 h9 => by simp at h9
  have hDc : va_D A [] := ⟨fun i j p9 q9 h9 => by simp at h9, fun k9 q9 h9 => by simp at h9⟩
  have hFc : ∀ q, va_A [] H.size q → A q := fun q h => h.elim (fun ⟨k9, e9, h9⟩ => by simp at h9) (fun h9 => hA q (Nat.le_trans hS.1 h9))
  refine va_calll (va_runS (As := As) (rest := st) hfix (hM H.size) (va_cwS As.length hfix.2.2.2.2 hg rfl rfl rfl hd hR) ⟨pr_blind _ _ _ _ _, fun U hU hW => ⟨rfl, by rw [hU], by rw [hU]; exact hPc, KN.warm hW hKN, hDc.weaken (fun _ _ _ _ => trivial)⟩⟩ rfl rfl hl.1 rfl (lv_room hsum) d hroom) hS (fun q _ h => hFc q h) hFc (fun r2 u t H1 locs1 ht hvm hw hB hz1 hk1 hS1 => ?_)
  subst hw
  obtain ⟨hP1, hD1⟩ := hB
  rw [ht] at hP1
  exact kk H1 locs1 ls (hP.kept (fun k9 q9 h9 => hk1 q9.1 (hP k9 q9 h9).lt (fun h8 => h8.elim (fun ⟨k8, e8, h7⟩ => by simp at h7) (fun h7 => Nat.lt_irrefl _ (Nat.lt_of_lt_of_le (hP k9 q9 h9).lt h7))))) hD hS1 hl
theorem x_GSv {Γ : Ctx} {cc : ByteArray} {nL k n pc pc' : Nat} {own : String} {R0 : Room} {lv : List (Nat × Value)} {st st0 : List Value} {ws ws' : va_W} (B : CX Γ cc nL own R0) {y : MethodName} {index maxL : Nat} {bytes : ByteArray} {rm : Room} (As : List Value) {w w' wr : va_W} (hM : MV Γ.l Γ.D Γ.cs y bytes maxL rm As w w') (isC isR is : List Nat) (hC : isC.map (fun i => ws[i]?) = w.map some) (hcn : va_nd isC = true) (hRr : isR.map (fun i => ws[i]?) = wr.map some) (hrn : va_nd isR = true) (hdis : ∀ i ∈ isR, i ∉ isC) (hN : is.map (fun i => (wr ++ w')[i]?) = ws'.map some) (hn2 : va_nd is = true) (hg : GoodIn GW (va_wsS own index y (.code y bytes maxL none :: GW))) (hd : y.cls ≠ "java/lang/invoke/MethodHandle" ∧ y.cls ≠ "java/lang/invoke/VarHandle" ∧ (parseMethodDescriptor y.desc).map (fun d => d.parameters.length) = some As.length) (hR : rm.frames + 1 ≤ R0.frames ∧ 8 + (maxL + 11) + rm.locals ≤ R0.locals) (hroom : k + rm.cells ≤ R0.cells ∧ n + rm.slots ≤ R0.slots) (hstk : st0 = As.reverse ++ st) (hsum : (st.map fun v => v.category).sum ≤ 8) (d : decode cc pc = .ok (.invokestatic index, 3)) (hp : pc + 3 = pc') (kk : X Γ nL (k + rm.cells) (n + rm.slots) pc' lv (st) ws') : X Γ nL k n pc lv st0 ws := by
  obtain ⟨p, l, e, R, s, m, args, below, meth, c, Q, A, D, cs⟩ := Γ
  subst hp
  subst hstk
  obtain ⟨hfix, hKN, hA, hlk, rfl⟩ := B
  intro H locs ls hP hD hS hl
  have hPc : va_P D vwCl w H := hP.sub isC (fm_of hC)
  have hDc : va_D A w := hD.sub isC hcn hC
  have hFc := va_free hD hS hA isC hC
  refine va_callv (va_runS (As := As) (rest := st) hfix (hM H.size) (va_cwS As.length hfix.2.2.2.2 hg rfl rfl rfl hd hR) ⟨pr_blind _ _ _ _ _, fun U hU hW => ⟨rfl, by rw [hU], by rw [hU]; exact hPc, KN.warm hW hKN, hDc.weaken (fun _ _ _ _ => trivial)⟩⟩ rfl rfl hl.1 rfl (lv_room hsum) d hroom) hS (fun q _ h => hFc q h) hFc (fun u t H1 locs1 ht hvm hw hB hz1 hk1 hS1 => ?_)
  obtain ⟨hP1, hD1⟩ := hB
  rw [ht] at hP1
  obtain ⟨hP2, hD2⟩ := va_join hP hD isC isR hC hRr hrn hdis hk1 hFc hP1 hD1
  exact kk H1 locs1 ls (hP2.sub is (fm_of hN)) (hD2.sub is hn2 hN) hS1 hl
theorem x_pureSv {Γ : Ctx} {cc : ByteArray} {nL k n pc pc' : Nat} {own : String} {R0 : Room} {lv : List (Nat × Value)} {st st0 : List Value} {ws : va_W} (B : CX Γ cc nL own R0) {y : MethodName} {index maxL : Nat} {bytes : ByteArray} {rm : Room} (As : List Value) (hM : MV Γ.l Γ.D Γ.cs y bytes maxL rm As [] []) (hg : GoodIn GW (va_wsS own index y (.code y bytes maxL none :: GW))) (hd : y.cls ≠ "java/lang/invoke/MethodHandle" ∧ y.cls ≠ "java/lang/invoke/VarHandle" ∧ (parseMethodDescriptor y.desc).map (fun d => d.parameters.length) = some As.length) (hR : rm.frames + 1 ≤ R0.frames ∧ 8 + (maxL + 11) + rm.locals ≤ R0.locals) (hroom : k + rm.cells ≤ R0.cells ∧ n + rm.slots ≤ R0.slots) (hstk : st0 = As.reverse ++ st) (hsum : (st.map fun v => v.category).sum ≤ 8) (d : decode cc pc = .ok (.invokestatic index, 3)) (hp : pc + 3 = pc') (kk : X Γ nL (k + rm.cells) (n + rm.slots) pc' lv (st) ws) : X Γ nL k n pc lv st0 ws := by
  obtain ⟨p, l, e, R, s, m, args, below, meth, c, Q, A, D, cs⟩ := Γ
  subst hp
  subst hstk
  obtain ⟨hfix, hKN, hA, hlk, rfl⟩ := B
  intro H locs ls hP hD hS hl
  have hPc : va_P D vwCl [] H := fun k9 q9 h9 => by simp at h9
  have hDc : va_D A [] := ⟨fun i j p9 q9 h9 => by simp at h9, fun k9 q9 h9 => by simp at h9⟩
  have hFc : ∀ q, va_A [] H.size q → A q := fun q h => h.elim (fun ⟨k9, e9, h9⟩ => by simp at h9) (fun h9 => hA q (Nat.le_trans hS.1 h9))
  refine va_callv (va_runS (As := As) (rest := st) hfix (hM H.size) (va_cwS As.length hfix.2.2.2.2 hg rfl rfl rfl hd hR) ⟨pr_blind _ _ _ _ _, fun U hU hW => ⟨rfl, by rw [hU], by rw [hU]; exact hPc, KN.warm hW hKN, hDc.weaken (fun _ _ _ _ => trivial)⟩⟩ rfl rfl hl.1 rfl (lv_room hsum) d hroom) hS (fun q _ h => hFc q h) hFc (fun u t H1 locs1 ht hvm hw hB hz1 hk1 hS1 => ?_)
  obtain ⟨hP1, hD1⟩ := hB
  rw [ht] at hP1
  exact kk H1 locs1 ls (hP.kept (fun k9 q9 h9 => hk1 q9.1 (hP k9 q9 h9).lt (fun h8 => h8.elim (fun ⟨k8, e8, h7⟩ => by simp at h7) (fun h7 => Nat.lt_irrefl _ (Nat.lt_of_lt_of_le (hP k9 q9 h9).lt h7))))) hD hS1 hl
theorem x_GSNi {Γ : Ctx} {cc : ByteArray} {nL k n pc pc' : Nat} {own : String} {R0 : Room} {lv : List (Nat × Value)} {st st0 : List Value} {ws ws' : va_W} (B : CX Γ cc nL own R0) {y : MethodName} {index maxL : Nat} {bytes : ByteArray} {rt : FieldType} {r : Int32} {rm : Room} (As : List Value) {w w' wr : va_W} (hM : MI Γ.l Γ.D Γ.cs y bytes maxL rt rm As w r w') (isC isR is : List Nat) (hC : isC.map (fun i => ws[i]?) = w.map some) (hcn : va_nd isC = true) (hRr : isR.map (fun i => ws[i]?) = wr.map some) (hrn : va_nd isR = true) (hdis : ∀ i ∈ isR, i ∉ isC) (hN : is.map (fun i => (wr ++ w')[i]?) = ws'.map some) (hn2 : va_nd is = true) {host : String} (hnw : Cond.methodLinkNest own index y host ∈ nestW) (hg : GoodIn GW ([.static y, .initialized y.cls, .code y bytes maxL (some rt)] ++ GW)) (hd : y.cls ≠ "java/lang/invoke/MethodHandle" ∧ y.cls ≠ "java/lang/invoke/VarHandle" ∧ (parseMethodDescriptor y.desc).map (fun d => d.parameters.length) = some As.length) (hR : rm.frames + 1 ≤ R0.frames ∧ 8 + (maxL + 11) + rm.locals ≤ R0.locals) (hroom : k + rm.cells ≤ R0.cells ∧ n + rm.slots ≤ R0.slots) (hstk : st0 = As.reverse ++ st) (hsum : (st.map fun v => v.category).sum ≤ 8) (d : decode cc pc = .ok (.invokestatic index, 3)) (hp : pc + 3 = pc') (kk : X Γ nL (k + rm.cells) (n + rm.slots) pc' lv (.int r :: st) ws') : X Γ nL k n pc lv st0 ws := by
  obtain ⟨p, l, e, R, s, m, args, below, meth, c, Q, A, D, cs⟩ := Γ
  subst hp
  subst hstk
  obtain ⟨hfix, hKN, hA, hlk, rfl⟩ := B
  intro H locs ls hP hD hS hl
  have hPc : va_P D vwCl w H := hP.sub isC (fm_of hC)
  have hDc : va_D A w := hD.sub isC hcn hC
  have hFc := va_free hD hS hA isC hC
  have ok9 := fun (w : Cond) (h : w ∈ _) => hfix.2.2.2.2 w (hg w h).1
  refine va_calli (va_runSN (As := As) (rest := st) hfix (hM H.size) ⟨va_cnB As.length hfix.2.2.2.2 (fun w h => hg w (List.mem_append_right [_, _] h)) rfl rfl rfl (hKN.2.1 _ hnw) (ok9 _ (by simp)) hd hR, ok9 _ (by simp), trivial⟩ ⟨pr_blind _ _ _ _ _, fun U hU hW => ⟨rfl, by rw [hU], by rw [hU]; exact hPc, KN.warm hW hKN, hDc.weaken (fun _ _ _ _ => trivial)⟩⟩ rfl rfl hl.1 rfl (lv_room hsum) d hroom) hS (fun q _ h => hFc q h) hFc (fun r2 u t H1 locs1 ht hvm hw hB hz1 hk1 hS1 => ?_)
  subst hw
  obtain ⟨hP1, hD1⟩ := hB
  rw [ht] at hP1
  obtain ⟨hP2, hD2⟩ := va_join hP hD isC isR hC hRr hrn hdis hk1 hFc hP1 hD1
  exact kk H1 locs1 ls (hP2.sub is (fm_of hN)) (hD2.sub is hn2 hN) hS1 hl
theorem x_GSNl {Γ : Ctx} {cc : ByteArray} {nL k n pc pc' : Nat} {own : String} {R0 : Room} {lv : List (Nat × Value)} {st st0 : List Value} {ws ws' : va_W} (B : CX Γ cc nL own R0) {y : MethodName} {index maxL : Nat} {bytes : ByteArray} {r : Int64} {rm : Room} (As : List Value) {w w' wr : va_W} (hM : ML Γ.l Γ.D Γ.cs y bytes maxL rm As w r w') (isC isR is : List Nat) (hC : isC.map (fun i => ws[i]?) = w.map some) (hcn : va_nd isC = true) (hRr : isR.map (fun i => ws[i]?) = wr.map some) (hrn : va_nd isR = true) (hdis : ∀ i ∈ isR, i ∉ isC) (hN : is.map (fun i => (wr ++ w')[i]?) = ws'.map some) (hn2 : va_nd is = true) {host : String} (hnw : Cond.methodLinkNest own index y host ∈ nestW) (hg : GoodIn GW ([.static y, .initialized y.cls, .code y bytes maxL (some .long)] ++ GW)) (hd : y.cls ≠ "java/lang/invoke/MethodHandle" ∧ y.cls ≠ "java/lang/invoke/VarHandle" ∧ (parseMethodDescriptor y.desc).map (fun d => d.parameters.length) = some As.length) (hR : rm.frames + 1 ≤ R0.frames ∧ 8 + (maxL + 11) + rm.locals ≤ R0.locals) (hroom : k + rm.cells ≤ R0.cells ∧ n + rm.slots ≤ R0.slots) (hstk : st0 = As.reverse ++ st) (hsum : (st.map fun v => v.category).sum ≤ 8) (d : decode cc pc = .ok (.invokestatic index, 3)) (hp : pc + 3 = pc') (kk : X Γ nL (k + rm.cells) (n + rm.slots) pc' lv (.long r :: st) ws') : X Γ nL k n pc lv st0 ws := by
  obtain ⟨p, l, e, R, s, m, args, below, meth, c, Q, A, D, cs⟩ := Γ
  subst hp
  subst hstk
  obtain ⟨hfix, hKN, hA, hlk, rfl⟩ := B
  intro H locs ls hP hD hS hl
  have hPc : va_P D vwCl w H := hP.sub isC (fm_of hC)
  have hDc : va_D A w := hD.sub isC hcn hC
  have hFc := va_free hD hS hA isC hC
  have ok9 := fun (w : Cond) (h : w ∈ _) => hfix.2.2.2.2 w (hg w h).1
  refine va_calll (va_runSN (As := As) (rest := st) hfix (hM H.size) ⟨va_cnB As.length hfix.2.2.2.2 (fun w h => hg w (List.mem_append_right [_, _] h)) rfl rfl rfl (hKN.2.1 _ hnw) (ok9 _ (by simp)) hd hR, ok9 _ (by simp), trivial⟩ ⟨pr_blind _ _ _ _ _, fun U hU hW => ⟨rfl, by rw [hU], by rw [hU]; exact hPc, KN.warm hW hKN, hDc.weaken (fun _ _ _ _ => trivial)⟩⟩ rfl rfl hl.1 rfl (lv_room hsum) d hroom) hS (fun q _ h => hFc q h) hFc (fun r2 u t H1 locs1 ht hvm hw hB hz1 hk1 hS1 => ?_)
  subst hw
  obtain ⟨hP1, hD1⟩ := hB
  rw [ht] at hP1
  obtain ⟨hP2, hD2⟩ := va_join hP hD isC isR hC hRr hrn hdis hk1 hFc hP1 hD1
  exact kk H1 locs1 ls (hP2.sub is (fm_of hN)) (hD2.sub is hn2 hN) hS1 hl
theorem x_GSNv {Γ : Ctx} {cc : ByteArray} {nL k n pc pc' : Nat} {own : String} {R0 : Room} {lv : List (Nat × Value)} {st st0 : List Value} {ws ws' : va_W} (B : CX Γ cc nL own R0) {y : MethodName} {index maxL : Nat} {bytes : ByteArray} {rm : Room} (As : List Value) {w w' wr : va_W} (hM : MV Γ.l Γ.D Γ.cs y bytes maxL rm As w w') (isC isR is : List Nat) (hC : isC.map (fun i => ws[i]?) = w.map some) (hcn : va_nd isC = true) (hRr : isR.map (fun i => ws[i]?) = wr.map some) (hrn : va_nd isR = true) (hdis : ∀ i ∈ isR, i ∉ isC) (hN : is.map (fun i => (wr ++ w')[i]?) = ws'.map some) (hn2 : va_nd is = true) {host : String} (hnw : Cond.methodLinkNest own index y host ∈ nestW) (hg : GoodIn GW ([.static y, .initialized y.cls, .code y bytes maxL none] ++ GW)) (hd : y.cls ≠ "java/lang/invoke/MethodHandle" ∧ y.cls ≠ "java/lang/invoke/VarHandle" ∧ (parseMethodDescriptor y.desc).map (fun d => d.parameters.length) = some As.length) (hR : rm.frames + 1 ≤ R0.frames ∧ 8 + (maxL + 11) + rm.locals ≤ R0.locals) (hroom : k + rm.cells ≤ R0.cells ∧ n + rm.slots ≤ R0.slots) (hstk : st0 = As.reverse ++ st) (hsum : (st.map fun v => v.category).sum ≤ 8) (d : decode cc pc = .ok (.invokestatic index, 3)) (hp : pc + 3 = pc') (kk : X Γ nL (k + rm.cells) (n + rm.slots) pc' lv (st) ws') : X Γ nL k n pc lv st0 ws := by
  obtain ⟨p, l, e, R, s, m, args, below, meth, c, Q, A, D, cs⟩ := Γ
  subst hp
  subst hstk
  obtain ⟨hfix, hKN, hA, hlk, rfl⟩ := B
  intro H locs ls hP hD hS hl
  have hPc : va_P D vwCl w H := hP.sub isC (fm_of hC)
  have hDc : va_D A w := hD.sub isC hcn hC
  have hFc := va_free hD hS hA isC hC
  have ok9 := fun (w : Cond) (h : w ∈ _) => hfix.2.2.2.2 w (hg w h).1
  refine va_callv (va_runSN (As := As) (rest := st) hfix (hM H.size) ⟨va_cnB As.length hfix.2.2.2.2 (fun w h => hg w (List.mem_append_right [_, _] h)) rfl rfl rfl (hKN.2.1 _ hnw) (ok9 _ (by simp)) hd hR, ok9 _ (by simp), trivial⟩ ⟨pr_blind _ _ _ _ _, fun U hU hW => ⟨rfl, by rw [hU], by rw [hU]; exact hPc, KN.warm hW hKN, hDc.weaken (fun _ _ _ _ => trivial)⟩⟩ rfl rfl hl.1 rfl (lv_room hsum) d hroom) hS (fun q _ h => hFc q h) hFc (fun u t H1 locs1 ht hvm hw hB hz1 hk1 hS1 => ?_)
  obtain ⟨hP1, hD1⟩ := hB
  rw [ht] at hP1
  obtain ⟨hP2, hD2⟩ := va_join hP hD isC isR hC hRr hrn hdis hk1 hFc hP1 hD1
  exact kk H1 locs1 ls (hP2.sub is (fm_of hN)) (hD2.sub is hn2 hN) hS1 hl
end ROWS3
end
section
theorem dX2_valueAt_0 : decode cX2_valueAt 0 = .ok (.iload_n 1, 1) := by decide +kernel
theorem dX2_valueAt_1 : decode cX2_valueAt 1 = .ok (.ifCond .lt 15, 3) := by decide +kernel
theorem dX2_valueAt_4 : decode cX2_valueAt 4 = .ok (.iload_n 1, 1) := by decide +kernel
theorem dX2_valueAt_5 : decode cX2_valueAt 5 = .ok (.aload_n 0, 1) := by decide +kernel
theorem dX2_valueAt_6 : decode cX2_valueAt 6 = .ok (.arraylength, 1) := by decide +kernel
theorem dX2_valueAt_7 : decode cX2_valueAt 7 = .ok (.if_icmp .ge 9, 3) := by decide +kernel
theorem dX2_valueAt_10 : decode cX2_valueAt 10 = .ok (.aload_n 0, 1) := by decide +kernel
theorem dX2_valueAt_11 : decode cX2_valueAt 11 = .ok (.iload_n 1, 1) := by decide +kernel
theorem dX2_valueAt_12 : decode cX2_valueAt 12 = .ok (.iaload, 1) := by decide +kernel
theorem dX2_valueAt_13 : decode cX2_valueAt 13 = .ok (.goto 4, 3) := by decide +kernel
theorem dX2_valueAt_16 : decode cX2_valueAt 16 = .ok (.iconst (-1), 1) := by decide +kernel
theorem dX2_valueAt_17 : decode cX2_valueAt 17 = .ok (.ireturn, 1) := by decide +kernel
theorem dX2_putAt_0 : decode cX2_putAt 0 = .ok (.iload_n 1, 1) := by decide +kernel
theorem dX2_putAt_1 : decode cX2_putAt 1 = .ok (.ifCond .lt 13, 3) := by decide +kernel
theorem dX2_putAt_4 : decode cX2_putAt 4 = .ok (.iload_n 1, 1) := by decide +kernel
theorem dX2_putAt_5 : decode cX2_putAt 5 = .ok (.aload_n 0, 1) := by decide +kernel
theorem dX2_putAt_6 : decode cX2_putAt 6 = .ok (.arraylength, 1) := by decide +kernel
theorem dX2_putAt_7 : decode cX2_putAt 7 = .ok (.if_icmp .ge 7, 3) := by decide +kernel
theorem dX2_putAt_10 : decode cX2_putAt 10 = .ok (.aload_n 0, 1) := by decide +kernel
theorem dX2_putAt_11 : decode cX2_putAt 11 = .ok (.iload_n 1, 1) := by decide +kernel
theorem dX2_putAt_12 : decode cX2_putAt 12 = .ok (.iload_n 2, 1) := by decide +kernel
theorem dX2_putAt_13 : decode cX2_putAt 13 = .ok (.iastore, 1) := by decide +kernel
theorem dX2_putAt_14 : decode cX2_putAt 14 = .ok (.return_, 1) := by decide +kernel
abbrev OB : Type := (Nat → Int32) × (Nat → Nat → Int32)
abbrev MO : Type := (Nat → Int32) × (Nat → Nat → Int32) × Int64
abbrev BO : Type := (Nat → Int32) × OB × (Nat → OB) × OB
def wS (cA : ClassId) (a : Nat → Nat) (S : OB) : va_W := [(a 0, .inr (1, [.ref (a 1), .ref (a 2), .ref (a 3), .ref (a 4), .int (S.1 4), .ref (a 5), .ref (a 6), .int (S.1 7), .int (S.1 8), .int (S.1 9), .int (S.1 10), .int (S.1 11), .int (S.1 12), .int (S.1 13)])), (a 1, .inl (cA, 32, .inl (S.2 0))), (a 2, .inl (cA, 32, .inl (S.2 1))), (a 3, .inl (cA, 32, .inl (S.2 2))), (a 4, .inl (cA, 32, .inl (S.2 3))), (a 5, .inl (cA, 10, .inl (S.2 5))), (a 6, .inl (cA, 10, .inl (S.2 6)))]
def wT (cA : ClassId) (a : Nat → Nat) (S : OB) : va_W := [(a 0, .inr (0, [.ref (a 1), .int (S.1 1)])), (a 1, .inl (cA, 60, .inl (S.2 0)))]
def wB (cs : CS) (a : Nat → Nat → Nat) (S : BO) : va_W := (a 0 0, .inr (2, [.ref (a 1 0), .ref (a 0 1), .int (S.1 2), .int (S.1 3), .ref (a 2 0)])) :: (a 0 1, .inl (cs.2.2, 6, .inr (.inr (.inr (.inr (fun i => some (a (3 + i) 0))))))) :: (wS cs.1 (a 1) S.2.1 ++ (wT cs.1 (a 2) S.2.2.2 ++ (wS cs.1 (a 3) (S.2.2.1 0) ++ (wS cs.1 (a 4) (S.2.2.1 1) ++ (wS cs.1 (a 5) (S.2.2.1 2) ++ (wS cs.1 (a 6) (S.2.2.1 3) ++ (wS cs.1 (a 7) (S.2.2.1 4) ++ wS cs.1 (a 8) (S.2.2.1 5))))))))
theorem wf_RX2_10 : Cond.fieldLink RX2 10 "DictationBelt" "now" "LDictationBelt$State;" ∈ GW := List.mem_of_getElem? (i := 12) (by decide +kernel)
theorem wf_RX2_16 : Cond.fieldLink RX2 16 "DictationBelt" "saved" "[LDictationBelt$State;" ∈ GW := List.mem_of_getElem? (i := 13) (by decide +kernel)
theorem wf_RX2_20 : Cond.fieldLink RX2 20 "DictationBelt" "nextSlot" "I" ∈ GW := List.mem_of_getElem? (i := 14) (by decide +kernel)
theorem wf_RX2_24 : Cond.fieldLink RX2 24 "DictationBelt" "savedCount" "I" ∈ GW := List.mem_of_getElem? (i := 15) (by decide +kernel)
theorem wf_RX2_30 : Cond.fieldLink RX2 30 "DictationBelt" "text" "LDictationBelt$OrderText;" ∈ GW := List.mem_of_getElem? (i := 19) (by decide +kernel)
theorem wf_RX1_9 : Cond.fieldLink RX1 9 "DictationBelt$State" "owners" "[I" ∈ GW := List.mem_of_getElem? (i := 25) (by decide +kernel)
theorem wf_RX1_15 : Cond.fieldLink RX1 15 "DictationBelt$State" "sounds" "[I" ∈ GW := List.mem_of_getElem? (i := 26) (by decide +kernel)
theorem wf_RX1_18 : Cond.fieldLink RX1 18 "DictationBelt$State" "carbons" "[I" ∈ GW := List.mem_of_getElem? (i := 27) (by decide +kernel)
theorem wf_RX1_21 : Cond.fieldLink RX1 21 "DictationBelt$State" "order" "[I" ∈ GW := List.mem_of_getElem? (i := 28) (by decide +kernel)
theorem wf_RX1_24 : Cond.fieldLink RX1 24 "DictationBelt$State" "used" "I" ∈ GW := List.mem_of_getElem? (i := 29) (by decide +kernel)
theorem wf_RX1_28 : Cond.fieldLink RX1 28 "DictationBelt$State" "flags" "[I" ∈ GW := List.mem_of_getElem? (i := 30) (by decide +kernel)
theorem wf_RX1_31 : Cond.fieldLink RX1 31 "DictationBelt$State" "losses" "[I" ∈ GW := List.mem_of_getElem? (i := 31) (by decide +kernel)
theorem wf_RX1_34 : Cond.fieldLink RX1 34 "DictationBelt$State" "count" "I" ∈ GW := List.mem_of_getElem? (i := 32) (by decide +kernel)
theorem wf_RX1_37 : Cond.fieldLink RX1 37 "DictationBelt$State" "isRunning" "Z" ∈ GW := List.mem_of_getElem? (i := 33) (by decide +kernel)
theorem wf_RX1_41 : Cond.fieldLink RX1 41 "DictationBelt$State" "head" "I" ∈ GW := List.mem_of_getElem? (i := 34) (by decide +kernel)
theorem wf_RX1_44 : Cond.fieldLink RX1 44 "DictationBelt$State" "spoken" "I" ∈ GW := List.mem_of_getElem? (i := 35) (by decide +kernel)
theorem wf_RX1_47 : Cond.fieldLink RX1 47 "DictationBelt$State" "gone" "I" ∈ GW := List.mem_of_getElem? (i := 36) (by decide +kernel)
theorem wf_RX1_50 : Cond.fieldLink RX1 50 "DictationBelt$State" "player" "I" ∈ GW := List.mem_of_getElem? (i := 37) (by decide +kernel)
theorem wf_RX1_53 : Cond.fieldLink RX1 53 "DictationBelt$State" "place" "I" ∈ GW := List.mem_of_getElem? (i := 38) (by decide +kernel)
theorem wf_RX0_9 : Cond.fieldLink RX0 9 "DictationBelt$OrderText" "codes" "[I" ∈ GW := List.mem_of_getElem? (i := 43) (by decide +kernel)
theorem wf_RX0_15 : Cond.fieldLink RX0 15 "DictationBelt$OrderText" "length" "I" ∈ GW := List.mem_of_getElem? (i := 44) (by decide +kernel)
theorem wk_RL_129 : Cond.constantDouble RL 129 (4629700416936869888) ∈ GW := List.mem_of_getElem? (i := 49) (by decide +kernel)
theorem wf_RX2_129 : Cond.fieldLink RX2 129 "DictationBelt$State" "used" "I" ∈ GW := List.mem_of_getElem? (i := 54) (by decide +kernel)
theorem wf_RX2_99 : Cond.fieldLink RX2 99 "DictationBelt$State" "count" "I" ∈ GW := List.mem_of_getElem? (i := 59) (by decide +kernel)
theorem wf_RX2_126 : Cond.fieldLink RX2 126 "DictationBelt$State" "owners" "[I" ∈ GW := List.mem_of_getElem? (i := 112) (by decide +kernel)
theorem wf_RX2_112 : Cond.fieldLink RX2 112 "DictationBelt$State" "sounds" "[I" ∈ GW := List.mem_of_getElem? (i := 121) (by decide +kernel)
theorem wf_RX2_167 : Cond.fieldLink RX2 167 "DictationBelt$State" "carbons" "[I" ∈ GW := List.mem_of_getElem? (i := 126) (by decide +kernel)
theorem wf_RX2_123 : Cond.fieldLink RX2 123 "DictationBelt$State" "losses" "[I" ∈ GW := List.mem_of_getElem? (i := 131) (by decide +kernel)
theorem wf_RX2_157 : Cond.fieldLink RX2 157 "DictationBelt$State" "player" "I" ∈ GW := List.mem_of_getElem? (i := 136) (by decide +kernel)
theorem wf_RX2_160 : Cond.fieldLink RX2 160 "DictationBelt$State" "place" "I" ∈ GW := List.mem_of_getElem? (i := 141) (by decide +kernel)
theorem wk_RX2_138 : Cond.constantDouble RX2 138 (4629700416936869888) ∈ GW := List.mem_of_getElem? (i := 179) (by decide +kernel)
theorem wk_RX2_216 : Cond.constantLong RX2 216 (4444) ∈ GW := List.mem_of_getElem? (i := 188) (by decide +kernel)
theorem wk_RX2_258 : Cond.constantLong RX2 258 (31) ∈ GW := List.mem_of_getElem? (i := 193) (by decide +kernel)
theorem wf_RX2_96 : Cond.fieldLink RX2 96 "DictationBelt$State" "head" "I" ∈ GW := List.mem_of_getElem? (i := 199) (by decide +kernel)
theorem wf_RX2_132 : Cond.fieldLink RX2 132 "DictationBelt$State" "spoken" "I" ∈ GW := List.mem_of_getElem? (i := 205) (by decide +kernel)
theorem wf_RX2_135 : Cond.fieldLink RX2 135 "DictationBelt$State" "gone" "I" ∈ GW := List.mem_of_getElem? (i := 210) (by decide +kernel)
theorem wf_RX2_255 : Cond.fieldLink RX2 255 "DictationBelt$State" "order" "[I" ∈ GW := List.mem_of_getElem? (i := 220) (by decide +kernel)
theorem wf_RX2_52 : Cond.fieldLink RX2 52 "DictationBelt$State" "isRunning" "Z" ∈ GW := List.mem_of_getElem? (i := 305) (by decide +kernel)
theorem wk_RL_9 : Cond.constantLong RL 9 (31) ∈ GW := List.mem_of_getElem? (i := 374) (by decide +kernel)
abbrev gv_valueAt_idx : Nat := 119
abbrev gv_putAt_idx : Nat := 163
theorem gs_valueAt : GoodIn GW ([.static yX2_valueAt, .initialized yX2_valueAt.cls, .code yX2_valueAt cX2_valueAt 2 (some .int)] ++ GW) := gw_app [.static yX2_valueAt, .initialized RX2, .code yX2_valueAt cX2_valueAt 2 (some .int)] [86, 2, 87] (by decide +kernel) (by decide +kernel)
theorem gs_RX2_valueAt : GoodIn GW (va_wsS RX2 119 yX2_valueAt (.code yX2_valueAt cX2_valueAt 2 (some .int) :: GW)) := gw_app [.methodLink RX2 119 yX2_valueAt, .static yX2_valueAt, .initialized RX2, .code yX2_valueAt cX2_valueAt 2 (some .int)] [116, 86, 2, 87] (by decide +kernel) (by decide +kernel)
theorem np_valueAt : yX2_valueAt.cls ≠ "java/lang/invoke/MethodHandle" ∧ yX2_valueAt.cls ≠ "java/lang/invoke/VarHandle" ∧ (parseMethodDescriptor yX2_valueAt.desc).map (fun d => d.parameters.length) = some 2 := by decide +kernel
theorem gs_putAt : GoodIn GW ([.static yX2_putAt, .initialized yX2_putAt.cls, .code yX2_putAt cX2_putAt 3 none] ++ GW) := gw_app [.static yX2_putAt, .initialized RX2, .code yX2_putAt cX2_putAt 3 none] [267, 2, 268] (by decide +kernel) (by decide +kernel)
theorem gs_RX2_putAt : GoodIn GW (va_wsS RX2 163 yX2_putAt (.code yX2_putAt cX2_putAt 3 none :: GW)) := gw_app [.methodLink RX2 163 yX2_putAt, .static yX2_putAt, .initialized RX2, .code yX2_putAt cX2_putAt 3 none] [346, 267, 2, 268] (by decide +kernel) (by decide +kernel)
theorem np_putAt : yX2_putAt.cls ≠ "java/lang/invoke/MethodHandle" ∧ yX2_putAt.cls ≠ "java/lang/invoke/VarHandle" ∧ (parseMethodDescriptor yX2_putAt.desc).map (fun d => d.parameters.length) = some 3 := by decide +kernel
abbrev rmL : Room := { frames := 0, cells := 0, slots := 0, locals := 0 }
abbrev wA (cA : ClassId) (h N : Nat) (f : Nat → Int32) : va_W := [(h, .inl (cA, N, .inl f))]
set_option maxHeartbeats 4000000 in
theorem c_valueAt (l : Launch) (D : va_G) (cs : CS) (N : Nat) (hN : N < 2 ^ 31) (h : Nat) (i : Int32) (f : Nat → Int32) : MI l D cs yX2_valueAt cX2_valueAt 2 .int rmL [.ref h, .int i] (wA cs.1 h N f) (vAt N f i) (wA cs.1 h N f) := by
  refine MI_of (by decide) (Nat.le_of_ble_eq_true rfl) ?_
  rintro Γ rfl rfl rfl B ret
  show X Γ 2 0 0 0 [(0, .ref h), (1, .int i)] [] (wA Γ.cs.1 h N f)
  refine x_iload_n B (pc' := 1) 1 dX2_valueAt_0 rfl rfl rfl ?_
  refine x_if_lt B 16 4 dX2_valueAt_1 (by decide) rfl (fun h1 => ?_) (fun h1 => ?_)
  · refine x_iconst B (pc' := 17) (-1) dX2_valueAt_16 (by decide) rfl ?_
    rw [show (-1 : Int32) = vAt N f i by rw [vAt, if_pos h1]]
    exact ret rfl (Nat.zero_le _) (Nat.zero_le _) dX2_valueAt_17
  · refine x_iload_n B (pc' := 5) 1 dX2_valueAt_4 rfl rfl rfl ?_
    refine x_aload_n B (pc' := 6) 0 dX2_valueAt_5 rfl rfl rfl ?_
    refine x_alen B (pc' := 7) (nI N) 0 rfl rfl dX2_valueAt_6 rfl ?_
    refine x_icmp_ge B 16 10 dX2_valueAt_7 (by decide) rfl (fun h2 => ?_) (fun h2 => ?_)
    · refine x_iconst B (pc' := 17) (-1) dX2_valueAt_16 (by decide) rfl ?_
      rw [show (-1 : Int32) = vAt N f i by rw [vAt, if_neg h1, if_pos h2]]
      exact ret rfl (Nat.zero_le _) (Nat.zero_le _) dX2_valueAt_17
    · have h3 : vp_in i N := by
        rcases pk_ix i hN with q | q | ⟨j, q1, q2⟩
        · exact absurd q h1
        · exact absurd q h2
        · rw [q2]; exact vp_in_nI q1 hN
      refine x_aload_n B (pc' := 11) 0 dX2_valueAt_10 rfl rfl rfl ?_
      refine x_iload_n B (pc' := 12) 1 dX2_valueAt_11 rfl rfl rfl ?_
      refine x_iald B (pc' := 13) 0 rfl h3 dX2_valueAt_12 rfl ?_
      refine x_goto B (pc' := 17) dX2_valueAt_13 (by decide) ?_
      rw [show f i.toNatClampNeg = vAt N f i by rw [vAt, if_neg h1, if_neg h2]]
      exact ret rfl (Nat.zero_le _) (Nat.zero_le _) dX2_valueAt_17
set_option maxHeartbeats 4000000 in
theorem c_putAt (l : Launch) (D : va_G) (cs : CS) (N : Nat) (hN : N < 2 ^ 31) (h : Nat) (i v : Int32) (f : Nat → Int32) : MV l D cs yX2_putAt cX2_putAt 3 rmL [.ref h, .int i, .int v] (wA cs.1 h N f) (wA cs.1 h N (pAt N f i v)) := by
  refine MV_of (by decide) (Nat.le_of_ble_eq_true rfl) ?_
  rintro Γ rfl rfl rfl B ret
  show X Γ 3 0 0 0 [(0, .ref h), (1, .int i), (2, .int v)] [] (wA Γ.cs.1 h N f)
  refine x_iload_n B (pc' := 1) 1 dX2_putAt_0 rfl rfl rfl ?_
  refine x_if_lt B 14 4 dX2_putAt_1 (by decide) rfl (fun h1 => ?_) (fun h1 => ?_)
  · rw [show f = pAt N f i v by rw [pAt, if_pos h1]]
    exact ret (Nat.zero_le _) (Nat.zero_le _) dX2_putAt_14
  · refine x_iload_n B (pc' := 5) 1 dX2_putAt_4 rfl rfl rfl ?_
    refine x_aload_n B (pc' := 6) 0 dX2_putAt_5 rfl rfl rfl ?_
    refine x_alen B (pc' := 7) (nI N) 0 rfl rfl dX2_putAt_6 rfl ?_
    refine x_icmp_ge B 14 10 dX2_putAt_7 (by decide) rfl (fun h2 => ?_) (fun h2 => ?_)
    · rw [show f = pAt N f i v by rw [pAt, if_neg h1, if_pos h2]]
      exact ret (Nat.zero_le _) (Nat.zero_le _) dX2_putAt_14
    · have h3 : vp_in i N := by
        rcases pk_ix i hN with q | q | ⟨j, q1, q2⟩
        · exact absurd q h1
        · exact absurd q h2
        · rw [q2]; exact vp_in_nI q1 hN
      refine x_aload_n B (pc' := 11) 0 dX2_putAt_10 rfl rfl rfl ?_
      refine x_iload_n B (pc' := 12) 1 dX2_putAt_11 rfl rfl rfl ?_
      refine x_iload_n B (pc' := 13) 2 dX2_putAt_12 rfl rfl rfl ?_
      refine x_iast (ws' := wA Γ.cs.1 h N (pAt N f i v)) B (pc' := 14) 0 rfl h3 (by rw [pAt, if_neg h1, if_neg h2]; rfl) dX2_putAt_13 rfl ?_
      exact ret (Nat.zero_le _) (Nat.zero_le _) dX2_putAt_14
theorem s_get4 {Γ : Ctx} {cc : ByteArray} {nL k n pc pc' : Nat} {own : String} {R0 : Room} {lv : List (Nat × Value)} {st : List Value} {index : Nat} {a : Nat → Nat} {S : OB} (B : CX Γ cc nL own R0) (hw : Cond.fieldLink own index "DictationBelt$State" "used" "I" ∈ GW) (d : decode cc pc = .ok (.getfield index, 3)) (hp : pc + 3 = pc') (kk : X Γ nL k n pc' lv (.int (S.1 4) :: st) (wS Γ.cs.1 a S)) : X Γ nL k n pc lv (.ref (a 0) :: st) (wS Γ.cs.1 a S) :=
  x_getf B 0 4 rfl rfl inlX1 (by decide) hw rfl d hp kk
theorem s_put4 {Γ : Ctx} {cc : ByteArray} {nL k n pc pc' : Nat} {own : String} {R0 : Room} {lv : List (Nat × Value)} {st : List Value} {index : Nat} {a : Nat → Nat} {S : OB} {v : Int32} (B : CX Γ cc nL own R0) (hw : Cond.fieldLink own index "DictationBelt$State" "used" "I" ∈ GW) (d : decode cc pc = .ok (.putfield index, 3)) (hp : pc + 3 = pc') (kk : X Γ nL k n pc' lv st (wS Γ.cs.1 a (upd S.1 4 v, S.2))) : X Γ nL k n pc lv (.int v :: .ref (a 0) :: st) (wS Γ.cs.1 a S) :=
  x_putf B 0 4 tyX1 tyX1_ok nmX1 rfl rfl inlX1 (by decide) hw rfl rfl rfl (Nat.le_of_ble_eq_true rfl) rfl d hp kk
theorem s_get7 {Γ : Ctx} {cc : ByteArray} {nL k n pc pc' : Nat} {own : String} {R0 : Room} {lv : List (Nat × Value)} {st : List Value} {index : Nat} {a : Nat → Nat} {S : OB} (B : CX Γ cc nL own R0) (hw : Cond.fieldLink own index "DictationBelt$State" "count" "I" ∈ GW) (d : decode cc pc = .ok (.getfield index, 3)) (hp : pc + 3 = pc') (kk : X Γ nL k n pc' lv (.int (S.1 7) :: st) (wS Γ.cs.1 a S)) : X Γ nL k n pc lv (.ref (a 0) :: st) (wS Γ.cs.1 a S) :=
  x_getf B 0 7 rfl rfl inlX1 (by decide) hw rfl d hp kk
theorem s_put7 {Γ : Ctx} {cc : ByteArray} {nL k n pc pc' : Nat} {own : String} {R0 : Room} {lv : List (Nat × Value)} {st : List Value} {index : Nat} {a : Nat → Nat} {S : OB} {v : Int32} (B : CX Γ cc nL own R0) (hw : Cond.fieldLink own index "DictationBelt$State" "count" "I" ∈ GW) (d : decode cc pc = .ok (.putfield index, 3)) (hp : pc + 3 = pc') (kk : X Γ nL k n pc' lv st (wS Γ.cs.1 a (upd S.1 7 v, S.2))) : X Γ nL k n pc lv (.int v :: .ref (a 0) :: st) (wS Γ.cs.1 a S) :=
  x_putf B 0 7 tyX1 tyX1_ok nmX1 rfl rfl inlX1 (by decide) hw rfl rfl rfl (Nat.le_of_ble_eq_true rfl) rfl d hp kk
theorem s_get8 {Γ : Ctx} {cc : ByteArray} {nL k n pc pc' : Nat} {own : String} {R0 : Room} {lv : List (Nat × Value)} {st : List Value} {index : Nat} {a : Nat → Nat} {S : OB} (B : CX Γ cc nL own R0) (hw : Cond.fieldLink own index "DictationBelt$State" "isRunning" "Z" ∈ GW) (d : decode cc pc = .ok (.getfield index, 3)) (hp : pc + 3 = pc') (kk : X Γ nL k n pc' lv (.int (S.1 8) :: st) (wS Γ.cs.1 a S)) : X Γ nL k n pc lv (.ref (a 0) :: st) (wS Γ.cs.1 a S) :=
  x_getf B 0 8 rfl rfl inlX1 (by decide) hw rfl d hp kk
theorem s_put8 {Γ : Ctx} {cc : ByteArray} {nL k n pc pc' : Nat} {own : String} {R0 : Room} {lv : List (Nat × Value)} {st : List Value} {index : Nat} {a : Nat → Nat} {S : OB} {v : Int32} (hv : v = 0 ∨ v = 1) (B : CX Γ cc nL own R0) (hw : Cond.fieldLink own index "DictationBelt$State" "isRunning" "Z" ∈ GW) (d : decode cc pc = .ok (.putfield index, 3)) (hp : pc + 3 = pc') (kk : X Γ nL k n pc' lv st (wS Γ.cs.1 a (upd S.1 8 v, S.2))) : X Γ nL k n pc lv (.int v :: .ref (a 0) :: st) (wS Γ.cs.1 a S) :=
  x_putf B 0 8 tyX1 tyX1_ok nmX1 rfl rfl inlX1 (by decide) hw rfl (zb_nar hv) (by rcases hv with rfl | rfl <;> rfl) (Nat.le_of_ble_eq_true rfl) rfl d hp kk
theorem s_get9 {Γ : Ctx} {cc : ByteArray} {nL k n pc pc' : Nat} {own : String} {R0 : Room} {lv : List (Nat × Value)} {st : List Value} {index : Nat} {a : Nat → Nat} {S : OB} (B : CX Γ cc nL own R0) (hw : Cond.fieldLink own index "DictationBelt$State" "head" "I" ∈ GW) (d : decode cc pc = .ok (.getfield index, 3)) (hp : pc + 3 = pc') (kk : X Γ nL k n pc' lv (.int (S.1 9) :: st) (wS Γ.cs.1 a S)) : X Γ nL k n pc lv (.ref (a 0) :: st) (wS Γ.cs.1 a S) :=
  x_getf B 0 9 rfl rfl inlX1 (by decide) hw rfl d hp kk
theorem s_put9 {Γ : Ctx} {cc : ByteArray} {nL k n pc pc' : Nat} {own : String} {R0 : Room} {lv : List (Nat × Value)} {st : List Value} {index : Nat} {a : Nat → Nat} {S : OB} {v : Int32} (B : CX Γ cc nL own R0) (hw : Cond.fieldLink own index "DictationBelt$State" "head" "I" ∈ GW) (d : decode cc pc = .ok (.putfield index, 3)) (hp : pc + 3 = pc') (kk : X Γ nL k n pc' lv st (wS Γ.cs.1 a (upd S.1 9 v, S.2))) : X Γ nL k n pc lv (.int v :: .ref (a 0) :: st) (wS Γ.cs.1 a S) :=
  x_putf B 0 9 tyX1 tyX1_ok nmX1 rfl rfl inlX1 (by decide) hw rfl rfl rfl (Nat.le_of_ble_eq_true rfl) rfl d hp kk
theorem s_get10 {Γ : Ctx} {cc : ByteArray} {nL k n pc pc' : Nat} {own : String} {R0 : Room} {lv : List (Nat × Value)} {st : List Value} {index : Nat} {a : Nat → Nat} {S : OB} (B : CX Γ cc nL own R0) (hw : Cond.fieldLink own index "DictationBelt$State" "spoken" "I" ∈ GW) (d : decode cc pc = .ok (.getfield index, 3)) (hp : pc + 3 = pc') (kk : X Γ nL k n pc' lv (.int (S.1 10) :: st) (wS Γ.cs.1 a S)) : X Γ nL k n pc lv (.ref (a 0) :: st) (wS Γ.cs.1 a S) :=
  x_getf B 0 10 rfl rfl inlX1 (by decide) hw rfl d hp kk
theorem s_put10 {Γ : Ctx} {cc : ByteArray} {nL k n pc pc' : Nat} {own : String} {R0 : Room} {lv : List (Nat × Value)} {st : List Value} {index : Nat} {a : Nat → Nat} {S : OB} {v : Int32} (B : CX Γ cc nL own R0) (hw : Cond.fieldLink own index "DictationBelt$State" "spoken" "I" ∈ GW) (d : decode cc pc = .ok (.putfield index, 3)) (hp : pc + 3 = pc') (kk : X Γ nL k n pc' lv st (wS Γ.cs.1 a (upd S.1 10 v, S.2))) : X Γ nL k n pc lv (.int v :: .ref (a 0) :: st) (wS Γ.cs.1 a S) :=
  x_putf B 0 10 tyX1 tyX1_ok nmX1 rfl rfl inlX1 (by decide) hw rfl rfl rfl (Nat.le_of_ble_eq_true rfl) rfl d hp kk
theorem s_get11 {Γ : Ctx} {cc : ByteArray} {nL k n pc pc' : Nat} {own : String} {R0 : Room} {lv : List (Nat × Value)} {st : List Value} {index : Nat} {a : Nat → Nat} {S : OB} (B : CX Γ cc nL own R0) (hw : Cond.fieldLink own index "DictationBelt$State" "gone" "I" ∈ GW) (d : decode cc pc = .ok (.getfield index, 3)) (hp : pc + 3 = pc') (kk : X Γ nL k n pc' lv (.int (S.1 11) :: st) (wS Γ.cs.1 a S)) : X Γ nL k n pc lv (.ref (a 0) :: st) (wS Γ.cs.1 a S) :=
  x_getf B 0 11 rfl rfl inlX1 (by decide) hw rfl d hp kk
theorem s_put11 {Γ : Ctx} {cc : ByteArray} {nL k n pc pc' : Nat} {own : String} {R0 : Room} {lv : List (Nat × Value)} {st : List Value} {index : Nat} {a : Nat → Nat} {S : OB} {v : Int32} (B : CX Γ cc nL own R0) (hw : Cond.fieldLink own index "DictationBelt$State" "gone" "I" ∈ GW) (d : decode cc pc = .ok (.putfield index, 3)) (hp : pc + 3 = pc') (kk : X Γ nL k n pc' lv st (wS Γ.cs.1 a (upd S.1 11 v, S.2))) : X Γ nL k n pc lv (.int v :: .ref (a 0) :: st) (wS Γ.cs.1 a S) :=
  x_putf B 0 11 tyX1 tyX1_ok nmX1 rfl rfl inlX1 (by decide) hw rfl rfl rfl (Nat.le_of_ble_eq_true rfl) rfl d hp kk
theorem s_get12 {Γ : Ctx} {cc : ByteArray} {nL k n pc pc' : Nat} {own : String} {R0 : Room} {lv : List (Nat × Value)} {st : List Value} {index : Nat} {a : Nat → Nat} {S : OB} (B : CX Γ cc nL own R0) (hw : Cond.fieldLink own index "DictationBelt$State" "player" "I" ∈ GW) (d : decode cc pc = .ok (.getfield index, 3)) (hp : pc + 3 = pc') (kk : X Γ nL k n pc' lv (.int (S.1 12) :: st) (wS Γ.cs.1 a S)) : X Γ nL k n pc lv (.ref (a 0) :: st) (wS Γ.cs.1 a S) :=
  x_getf B 0 12 rfl rfl inlX1 (by decide) hw rfl d hp kk
theorem s_put12 {Γ : Ctx} {cc : ByteArray} {nL k n pc pc' : Nat} {own : String} {R0 : Room} {lv : List (Nat × Value)} {st : List Value} {index : Nat} {a : Nat → Nat} {S : OB} {v : Int32} (B : CX Γ cc nL own R0) (hw : Cond.fieldLink own index "DictationBelt$State" "player" "I" ∈ GW) (d : decode cc pc = .ok (.putfield index, 3)) (hp : pc + 3 = pc') (kk : X Γ nL k n pc' lv st (wS Γ.cs.1 a (upd S.1 12 v, S.2))) : X Γ nL k n pc lv (.int v :: .ref (a 0) :: st) (wS Γ.cs.1 a S) :=
  x_putf B 0 12 tyX1 tyX1_ok nmX1 rfl rfl inlX1 (by decide) hw rfl rfl rfl (Nat.le_of_ble_eq_true rfl) rfl d hp kk
theorem s_get13 {Γ : Ctx} {cc : ByteArray} {nL k n pc pc' : Nat} {own : String} {R0 : Room} {lv : List (Nat × Value)} {st : List Value} {index : Nat} {a : Nat → Nat} {S : OB} (B : CX Γ cc nL own R0) (hw : Cond.fieldLink own index "DictationBelt$State" "place" "I" ∈ GW) (d : decode cc pc = .ok (.getfield index, 3)) (hp : pc + 3 = pc') (kk : X Γ nL k n pc' lv (.int (S.1 13) :: st) (wS Γ.cs.1 a S)) : X Γ nL k n pc lv (.ref (a 0) :: st) (wS Γ.cs.1 a S) :=
  x_getf B 0 13 rfl rfl inlX1 (by decide) hw rfl d hp kk
theorem s_put13 {Γ : Ctx} {cc : ByteArray} {nL k n pc pc' : Nat} {own : String} {R0 : Room} {lv : List (Nat × Value)} {st : List Value} {index : Nat} {a : Nat → Nat} {S : OB} {v : Int32} (B : CX Γ cc nL own R0) (hw : Cond.fieldLink own index "DictationBelt$State" "place" "I" ∈ GW) (d : decode cc pc = .ok (.putfield index, 3)) (hp : pc + 3 = pc') (kk : X Γ nL k n pc' lv st (wS Γ.cs.1 a (upd S.1 13 v, S.2))) : X Γ nL k n pc lv (.int v :: .ref (a 0) :: st) (wS Γ.cs.1 a S) :=
  x_putf B 0 13 tyX1 tyX1_ok nmX1 rfl rfl inlX1 (by decide) hw rfl rfl rfl (Nat.le_of_ble_eq_true rfl) rfl d hp kk
theorem s_ref0 {Γ : Ctx} {cc : ByteArray} {nL k n pc pc' : Nat} {own : String} {R0 : Room} {lv : List (Nat × Value)} {st : List Value} {index : Nat} {a : Nat → Nat} {S : OB} (B : CX Γ cc nL own R0) (hw : Cond.fieldLink own index "DictationBelt$State" "owners" "[I" ∈ GW) (d : decode cc pc = .ok (.getfield index, 3)) (hp : pc + 3 = pc') (kk : X Γ nL k n pc' lv (.ref (a 1) :: st) (wS Γ.cs.1 a S)) : X Γ nL k n pc lv (.ref (a 0) :: st) (wS Γ.cs.1 a S) :=
  x_getf B 0 0 rfl rfl inlX1 (by decide) hw rfl d hp kk
theorem s_ald0 {Γ : Ctx} {cc : ByteArray} {nL k n pc pc' : Nat} {own : String} {R0 : Room} {lv : List (Nat × Value)} {st : List Value} {a : Nat → Nat} {S : OB} {i : Int32} (B : CX Γ cc nL own R0) (hi : vp_in i 32) (d : decode cc pc = .ok (.iaload, 1)) (hp : pc + 1 = pc') (kk : X Γ nL k n pc' lv (.int (S.2 0 i.toNatClampNeg) :: st) (wS Γ.cs.1 a S)) : X Γ nL k n pc lv (.int i :: .ref (a 1) :: st) (wS Γ.cs.1 a S) :=
  x_iald B 1 rfl hi d hp kk
theorem s_ast0 {Γ : Ctx} {cc : ByteArray} {nL k n pc pc' : Nat} {own : String} {R0 : Room} {lv : List (Nat × Value)} {st : List Value} {a : Nat → Nat} {S : OB} {i v : Int32} (B : CX Γ cc nL own R0) (hi : vp_in i 32) (d : decode cc pc = .ok (.iastore, 1)) (hp : pc + 1 = pc') (kk : X Γ nL k n pc' lv st (wS Γ.cs.1 a (S.1, up2 S.2 0 (upd (S.2 0) i.toNatClampNeg v)))) : X Γ nL k n pc lv (.int v :: .int i :: .ref (a 1) :: st) (wS Γ.cs.1 a S) :=
  x_iast B 1 rfl hi rfl d hp kk
theorem s_vAt0 {Γ : Ctx} {cc : ByteArray} {nL k n pc pc' : Nat} {R0 : Room} {lv : List (Nat × Value)} {st : List Value} {index : Nat} {a : Nat → Nat} {S : OB} {i : Int32} (B : CX Γ cc nL RX1 R0) (hR : 1 ≤ R0.frames ∧ 21 ≤ R0.locals) (hroom : k ≤ R0.cells ∧ n ≤ R0.slots) (hsum : (st.map fun v => v.category).sum ≤ 8) (hnw : Cond.methodLinkNest RX1 index yX2_valueAt RX2 ∈ nestW) (d : decode cc pc = .ok (.invokestatic index, 3)) (hp : pc + 3 = pc') (kk : X Γ nL k n pc' lv (.int (vAt 32 (S.2 0) i) :: st) (wS Γ.cs.1 a S)) : X Γ nL k n pc lv (.int i :: .ref (a 1) :: st) (wS Γ.cs.1 a S) :=
  x_GSNi (ws' := wS Γ.cs.1 a S) (wr := (wS Γ.cs.1 a S).eraseIdx 1) B [.ref (a 1), .int i] (c_valueAt _ _ _ 32 (by decide) (a 1) i (S.2 0)) [1] [0, 2, 3, 4, 5, 6] [0, 6, 1, 2, 3, 4, 5] rfl rfl rfl rfl (by decide) rfl rfl hnw gs_valueAt np_valueAt hR hroom rfl hsum d hp kk
theorem s_pAt0 {Γ : Ctx} {cc : ByteArray} {nL k n pc pc' : Nat} {R0 : Room} {lv : List (Nat × Value)} {st : List Value} {index : Nat} {a : Nat → Nat} {S : OB} {i v : Int32} (B : CX Γ cc nL RX1 R0) (hR : 1 ≤ R0.frames ∧ 22 ≤ R0.locals) (hroom : k ≤ R0.cells ∧ n ≤ R0.slots) (hsum : (st.map fun v => v.category).sum ≤ 8) (hnw : Cond.methodLinkNest RX1 index yX2_putAt RX2 ∈ nestW) (d : decode cc pc = .ok (.invokestatic index, 3)) (hp : pc + 3 = pc') (kk : X Γ nL k n pc' lv st (wS Γ.cs.1 a (S.1, up2 S.2 0 (pAt 32 (S.2 0) i v)))) : X Γ nL k n pc lv (.int v :: .int i :: .ref (a 1) :: st) (wS Γ.cs.1 a S) :=
  x_GSNv (ws' := wS Γ.cs.1 a (S.1, up2 S.2 0 (pAt 32 (S.2 0) i v))) (wr := (wS Γ.cs.1 a S).eraseIdx 1) B [.ref (a 1), .int i, .int v] (c_putAt _ _ _ 32 (by decide) (a 1) i v (S.2 0)) [1] [0, 2, 3, 4, 5, 6] [0, 6, 1, 2, 3, 4, 5] rfl rfl rfl rfl (by decide) rfl rfl hnw gs_putAt np_putAt hR hroom rfl hsum d hp kk
theorem s_ref1 {Γ : Ctx} {cc : ByteArray} {nL k n pc pc' : Nat} {own : String} {R0 : Room} {lv : List (Nat × Value)} {st : List Value} {index : Nat} {a : Nat → Nat} {S : OB} (B : CX Γ cc nL own R0) (hw : Cond.fieldLink own index "DictationBelt$State" "sounds" "[I" ∈ GW) (d : decode cc pc = .ok (.getfield index, 3)) (hp : pc + 3 = pc') (kk : X Γ nL k n pc' lv (.ref (a 2) :: st) (wS Γ.cs.1 a S)) : X Γ nL k n pc lv (.ref (a 0) :: st) (wS Γ.cs.1 a S) :=
  x_getf B 0 1 rfl rfl inlX1 (by decide) hw rfl d hp kk
theorem s_ald1 {Γ : Ctx} {cc : ByteArray} {nL k n pc pc' : Nat} {own : String} {R0 : Room} {lv : List (Nat × Value)} {st : List Value} {a : Nat → Nat} {S : OB} {i : Int32} (B : CX Γ cc nL own R0) (hi : vp_in i 32) (d : decode cc pc = .ok (.iaload, 1)) (hp : pc + 1 = pc') (kk : X Γ nL k n pc' lv (.int (S.2 1 i.toNatClampNeg) :: st) (wS Γ.cs.1 a S)) : X Γ nL k n pc lv (.int i :: .ref (a 2) :: st) (wS Γ.cs.1 a S) :=
  x_iald B 2 rfl hi d hp kk
theorem s_ast1 {Γ : Ctx} {cc : ByteArray} {nL k n pc pc' : Nat} {own : String} {R0 : Room} {lv : List (Nat × Value)} {st : List Value} {a : Nat → Nat} {S : OB} {i v : Int32} (B : CX Γ cc nL own R0) (hi : vp_in i 32) (d : decode cc pc = .ok (.iastore, 1)) (hp : pc + 1 = pc') (kk : X Γ nL k n pc' lv st (wS Γ.cs.1 a (S.1, up2 S.2 1 (upd (S.2 1) i.toNatClampNeg v)))) : X Γ nL k n pc lv (.int v :: .int i :: .ref (a 2) :: st) (wS Γ.cs.1 a S) :=
  x_iast B 2 rfl hi rfl d hp kk
theorem s_vAt1 {Γ : Ctx} {cc : ByteArray} {nL k n pc pc' : Nat} {R0 : Room} {lv : List (Nat × Value)} {st : List Value} {index : Nat} {a : Nat → Nat} {S : OB} {i : Int32} (B : CX Γ cc nL RX1 R0) (hR : 1 ≤ R0.frames ∧ 21 ≤ R0.locals) (hroom : k ≤ R0.cells ∧ n ≤ R0.slots) (hsum : (st.map fun v => v.category).sum ≤ 8) (hnw : Cond.methodLinkNest RX1 index yX2_valueAt RX2 ∈ nestW) (d : decode cc pc = .ok (.invokestatic index, 3)) (hp : pc + 3 = pc') (kk : X Γ nL k n pc' lv (.int (vAt 32 (S.2 1) i) :: st) (wS Γ.cs.1 a S)) : X Γ nL k n pc lv (.int i :: .ref (a 2) :: st) (wS Γ.cs.1 a S) :=
  x_GSNi (ws' := wS Γ.cs.1 a S) (wr := (wS Γ.cs.1 a S).eraseIdx 2) B [.ref (a 2), .int i] (c_valueAt _ _ _ 32 (by decide) (a 2) i (S.2 1)) [2] [0, 1, 3, 4, 5, 6] [0, 1, 6, 2, 3, 4, 5] rfl rfl rfl rfl (by decide) rfl rfl hnw gs_valueAt np_valueAt hR hroom rfl hsum d hp kk
theorem s_pAt1 {Γ : Ctx} {cc : ByteArray} {nL k n pc pc' : Nat} {R0 : Room} {lv : List (Nat × Value)} {st : List Value} {index : Nat} {a : Nat → Nat} {S : OB} {i v : Int32} (B : CX Γ cc nL RX1 R0) (hR : 1 ≤ R0.frames ∧ 22 ≤ R0.locals) (hroom : k ≤ R0.cells ∧ n ≤ R0.slots) (hsum : (st.map fun v => v.category).sum ≤ 8) (hnw : Cond.methodLinkNest RX1 index yX2_putAt RX2 ∈ nestW) (d : decode cc pc = .ok (.invokestatic index, 3)) (hp : pc + 3 = pc') (kk : X Γ nL k n pc' lv st (wS Γ.cs.1 a (S.1, up2 S.2 1 (pAt 32 (S.2 1) i v)))) : X Γ nL k n pc lv (.int v :: .int i :: .ref (a 2) :: st) (wS Γ.cs.1 a S) :=
  x_GSNv (ws' := wS Γ.cs.1 a (S.1, up2 S.2 1 (pAt 32 (S.2 1) i v))) (wr := (wS Γ.cs.1 a S).eraseIdx 2) B [.ref (a 2), .int i, .int v] (c_putAt _ _ _ 32 (by decide) (a 2) i v (S.2 1)) [2] [0, 1, 3, 4, 5, 6] [0, 1, 6, 2, 3, 4, 5] rfl rfl rfl rfl (by decide) rfl rfl hnw gs_putAt np_putAt hR hroom rfl hsum d hp kk
theorem s_ref2 {Γ : Ctx} {cc : ByteArray} {nL k n pc pc' : Nat} {own : String} {R0 : Room} {lv : List (Nat × Value)} {st : List Value} {index : Nat} {a : Nat → Nat} {S : OB} (B : CX Γ cc nL own R0) (hw : Cond.fieldLink own index "DictationBelt$State" "carbons" "[I" ∈ GW) (d : decode cc pc = .ok (.getfield index, 3)) (hp : pc + 3 = pc') (kk : X Γ nL k n pc' lv (.ref (a 3) :: st) (wS Γ.cs.1 a S)) : X Γ nL k n pc lv (.ref (a 0) :: st) (wS Γ.cs.1 a S) :=
  x_getf B 0 2 rfl rfl inlX1 (by decide) hw rfl d hp kk
theorem s_ald2 {Γ : Ctx} {cc : ByteArray} {nL k n pc pc' : Nat} {own : String} {R0 : Room} {lv : List (Nat × Value)} {st : List Value} {a : Nat → Nat} {S : OB} {i : Int32} (B : CX Γ cc nL own R0) (hi : vp_in i 32) (d : decode cc pc = .ok (.iaload, 1)) (hp : pc + 1 = pc') (kk : X Γ nL k n pc' lv (.int (S.2 2 i.toNatClampNeg) :: st) (wS Γ.cs.1 a S)) : X Γ nL k n pc lv (.int i :: .ref (a 3) :: st) (wS Γ.cs.1 a S) :=
  x_iald B 3 rfl hi d hp kk
theorem s_ast2 {Γ : Ctx} {cc : ByteArray} {nL k n pc pc' : Nat} {own : String} {R0 : Room} {lv : List (Nat × Value)} {st : List Value} {a : Nat → Nat} {S : OB} {i v : Int32} (B : CX Γ cc nL own R0) (hi : vp_in i 32) (d : decode cc pc = .ok (.iastore, 1)) (hp : pc + 1 = pc') (kk : X Γ nL k n pc' lv st (wS Γ.cs.1 a (S.1, up2 S.2 2 (upd (S.2 2) i.toNatClampNeg v)))) : X Γ nL k n pc lv (.int v :: .int i :: .ref (a 3) :: st) (wS Γ.cs.1 a S) :=
  x_iast B 3 rfl hi rfl d hp kk
theorem s_vAt2 {Γ : Ctx} {cc : ByteArray} {nL k n pc pc' : Nat} {R0 : Room} {lv : List (Nat × Value)} {st : List Value} {index : Nat} {a : Nat → Nat} {S : OB} {i : Int32} (B : CX Γ cc nL RX1 R0) (hR : 1 ≤ R0.frames ∧ 21 ≤ R0.locals) (hroom : k ≤ R0.cells ∧ n ≤ R0.slots) (hsum : (st.map fun v => v.category).sum ≤ 8) (hnw : Cond.methodLinkNest RX1 index yX2_valueAt RX2 ∈ nestW) (d : decode cc pc = .ok (.invokestatic index, 3)) (hp : pc + 3 = pc') (kk : X Γ nL k n pc' lv (.int (vAt 32 (S.2 2) i) :: st) (wS Γ.cs.1 a S)) : X Γ nL k n pc lv (.int i :: .ref (a 3) :: st) (wS Γ.cs.1 a S) :=
  x_GSNi (ws' := wS Γ.cs.1 a S) (wr := (wS Γ.cs.1 a S).eraseIdx 3) B [.ref (a 3), .int i] (c_valueAt _ _ _ 32 (by decide) (a 3) i (S.2 2)) [3] [0, 1, 2, 4, 5, 6] [0, 1, 2, 6, 3, 4, 5] rfl rfl rfl rfl (by decide) rfl rfl hnw gs_valueAt np_valueAt hR hroom rfl hsum d hp kk
theorem s_pAt2 {Γ : Ctx} {cc : ByteArray} {nL k n pc pc' : Nat} {R0 : Room} {lv : List (Nat × Value)} {st : List Value} {index : Nat} {a : Nat → Nat} {S : OB} {i v : Int32} (B : CX Γ cc nL RX1 R0) (hR : 1 ≤ R0.frames ∧ 22 ≤ R0.locals) (hroom : k ≤ R0.cells ∧ n ≤ R0.slots) (hsum : (st.map fun v => v.category).sum ≤ 8) (hnw : Cond.methodLinkNest RX1 index yX2_putAt RX2 ∈ nestW) (d : decode cc pc = .ok (.invokestatic index, 3)) (hp : pc + 3 = pc') (kk : X Γ nL k n pc' lv st (wS Γ.cs.1 a (S.1, up2 S.2 2 (pAt 32 (S.2 2) i v)))) : X Γ nL k n pc lv (.int v :: .int i :: .ref (a 3) :: st) (wS Γ.cs.1 a S) :=
  x_GSNv (ws' := wS Γ.cs.1 a (S.1, up2 S.2 2 (pAt 32 (S.2 2) i v))) (wr := (wS Γ.cs.1 a S).eraseIdx 3) B [.ref (a 3), .int i, .int v] (c_putAt _ _ _ 32 (by decide) (a 3) i v (S.2 2)) [3] [0, 1, 2, 4, 5, 6] [0, 1, 2, 6, 3, 4, 5] rfl rfl rfl rfl (by decide) rfl rfl hnw gs_putAt np_putAt hR hroom rfl hsum d hp kk
theorem s_ref3 {Γ : Ctx} {cc : ByteArray} {nL k n pc pc' : Nat} {own : String} {R0 : Room} {lv : List (Nat × Value)} {st : List Value} {index : Nat} {a : Nat → Nat} {S : OB} (B : CX Γ cc nL own R0) (hw : Cond.fieldLink own index "DictationBelt$State" "order" "[I" ∈ GW) (d : decode cc pc = .ok (.getfield index, 3)) (hp : pc + 3 = pc') (kk : X Γ nL k n pc' lv (.ref (a 4) :: st) (wS Γ.cs.1 a S)) : X Γ nL k n pc lv (.ref (a 0) :: st) (wS Γ.cs.1 a S) :=
  x_getf B 0 3 rfl rfl inlX1 (by decide) hw rfl d hp kk
theorem s_ald3 {Γ : Ctx} {cc : ByteArray} {nL k n pc pc' : Nat} {own : String} {R0 : Room} {lv : List (Nat × Value)} {st : List Value} {a : Nat → Nat} {S : OB} {i : Int32} (B : CX Γ cc nL own R0) (hi : vp_in i 32) (d : decode cc pc = .ok (.iaload, 1)) (hp : pc + 1 = pc') (kk : X Γ nL k n pc' lv (.int (S.2 3 i.toNatClampNeg) :: st) (wS Γ.cs.1 a S)) : X Γ nL k n pc lv (.int i :: .ref (a 4) :: st) (wS Γ.cs.1 a S) :=
  x_iald B 4 rfl hi d hp kk
theorem s_ast3 {Γ : Ctx} {cc : ByteArray} {nL k n pc pc' : Nat} {own : String} {R0 : Room} {lv : List (Nat × Value)} {st : List Value} {a : Nat → Nat} {S : OB} {i v : Int32} (B : CX Γ cc nL own R0) (hi : vp_in i 32) (d : decode cc pc = .ok (.iastore, 1)) (hp : pc + 1 = pc') (kk : X Γ nL k n pc' lv st (wS Γ.cs.1 a (S.1, up2 S.2 3 (upd (S.2 3) i.toNatClampNeg v)))) : X Γ nL k n pc lv (.int v :: .int i :: .ref (a 4) :: st) (wS Γ.cs.1 a S) :=
  x_iast B 4 rfl hi rfl d hp kk
theorem s_vAt3 {Γ : Ctx} {cc : ByteArray} {nL k n pc pc' : Nat} {R0 : Room} {lv : List (Nat × Value)} {st : List Value} {index : Nat} {a : Nat → Nat} {S : OB} {i : Int32} (B : CX Γ cc nL RX1 R0) (hR : 1 ≤ R0.frames ∧ 21 ≤ R0.locals) (hroom : k ≤ R0.cells ∧ n ≤ R0.slots) (hsum : (st.map fun v => v.category).sum ≤ 8) (hnw : Cond.methodLinkNest RX1 index yX2_valueAt RX2 ∈ nestW) (d : decode cc pc = .ok (.invokestatic index, 3)) (hp : pc + 3 = pc') (kk : X Γ nL k n pc' lv (.int (vAt 32 (S.2 3) i) :: st) (wS Γ.cs.1 a S)) : X Γ nL k n pc lv (.int i :: .ref (a 4) :: st) (wS Γ.cs.1 a S) :=
  x_GSNi (ws' := wS Γ.cs.1 a S) (wr := (wS Γ.cs.1 a S).eraseIdx 4) B [.ref (a 4), .int i] (c_valueAt _ _ _ 32 (by decide) (a 4) i (S.2 3)) [4] [0, 1, 2, 3, 5, 6] [0, 1, 2, 3, 6, 4, 5] rfl rfl rfl rfl (by decide) rfl rfl hnw gs_valueAt np_valueAt hR hroom rfl hsum d hp kk
theorem s_pAt3 {Γ : Ctx} {cc : ByteArray} {nL k n pc pc' : Nat} {R0 : Room} {lv : List (Nat × Value)} {st : List Value} {index : Nat} {a : Nat → Nat} {S : OB} {i v : Int32} (B : CX Γ cc nL RX1 R0) (hR : 1 ≤ R0.frames ∧ 22 ≤ R0.locals) (hroom : k ≤ R0.cells ∧ n ≤ R0.slots) (hsum : (st.map fun v => v.category).sum ≤ 8) (hnw : Cond.methodLinkNest RX1 index yX2_putAt RX2 ∈ nestW) (d : decode cc pc = .ok (.invokestatic index, 3)) (hp : pc + 3 = pc') (kk : X Γ nL k n pc' lv st (wS Γ.cs.1 a (S.1, up2 S.2 3 (pAt 32 (S.2 3) i v)))) : X Γ nL k n pc lv (.int v :: .int i :: .ref (a 4) :: st) (wS Γ.cs.1 a S) :=
  x_GSNv (ws' := wS Γ.cs.1 a (S.1, up2 S.2 3 (pAt 32 (S.2 3) i v))) (wr := (wS Γ.cs.1 a S).eraseIdx 4) B [.ref (a 4), .int i, .int v] (c_putAt _ _ _ 32 (by decide) (a 4) i v (S.2 3)) [4] [0, 1, 2, 3, 5, 6] [0, 1, 2, 3, 6, 4, 5] rfl rfl rfl rfl (by decide) rfl rfl hnw gs_putAt np_putAt hR hroom rfl hsum d hp kk
theorem s_ref5 {Γ : Ctx} {cc : ByteArray} {nL k n pc pc' : Nat} {own : String} {R0 : Room} {lv : List (Nat × Value)} {st : List Value} {index : Nat} {a : Nat → Nat} {S : OB} (B : CX Γ cc nL own R0) (hw : Cond.fieldLink own index "DictationBelt$State" "flags" "[I" ∈ GW) (d : decode cc pc = .ok (.getfield index, 3)) (hp : pc + 3 = pc') (kk : X Γ nL k n pc' lv (.ref (a 5) :: st) (wS Γ.cs.1 a S)) : X Γ nL k n pc lv (.ref (a 0) :: st) (wS Γ.cs.1 a S) :=
  x_getf B 0 5 rfl rfl inlX1 (by decide) hw rfl d hp kk
theorem s_ald5 {Γ : Ctx} {cc : ByteArray} {nL k n pc pc' : Nat} {own : String} {R0 : Room} {lv : List (Nat × Value)} {st : List Value} {a : Nat → Nat} {S : OB} {i : Int32} (B : CX Γ cc nL own R0) (hi : vp_in i 10) (d : decode cc pc = .ok (.iaload, 1)) (hp : pc + 1 = pc') (kk : X Γ nL k n pc' lv (.int (S.2 5 i.toNatClampNeg) :: st) (wS Γ.cs.1 a S)) : X Γ nL k n pc lv (.int i :: .ref (a 5) :: st) (wS Γ.cs.1 a S) :=
  x_iald B 5 rfl hi d hp kk
theorem s_ast5 {Γ : Ctx} {cc : ByteArray} {nL k n pc pc' : Nat} {own : String} {R0 : Room} {lv : List (Nat × Value)} {st : List Value} {a : Nat → Nat} {S : OB} {i v : Int32} (B : CX Γ cc nL own R0) (hi : vp_in i 10) (d : decode cc pc = .ok (.iastore, 1)) (hp : pc + 1 = pc') (kk : X Γ nL k n pc' lv st (wS Γ.cs.1 a (S.1, up2 S.2 5 (upd (S.2 5) i.toNatClampNeg v)))) : X Γ nL k n pc lv (.int v :: .int i :: .ref (a 5) :: st) (wS Γ.cs.1 a S) :=
  x_iast B 5 rfl hi rfl d hp kk
theorem s_vAt5 {Γ : Ctx} {cc : ByteArray} {nL k n pc pc' : Nat} {R0 : Room} {lv : List (Nat × Value)} {st : List Value} {index : Nat} {a : Nat → Nat} {S : OB} {i : Int32} (B : CX Γ cc nL RX1 R0) (hR : 1 ≤ R0.frames ∧ 21 ≤ R0.locals) (hroom : k ≤ R0.cells ∧ n ≤ R0.slots) (hsum : (st.map fun v => v.category).sum ≤ 8) (hnw : Cond.methodLinkNest RX1 index yX2_valueAt RX2 ∈ nestW) (d : decode cc pc = .ok (.invokestatic index, 3)) (hp : pc + 3 = pc') (kk : X Γ nL k n pc' lv (.int (vAt 10 (S.2 5) i) :: st) (wS Γ.cs.1 a S)) : X Γ nL k n pc lv (.int i :: .ref (a 5) :: st) (wS Γ.cs.1 a S) :=
  x_GSNi (ws' := wS Γ.cs.1 a S) (wr := (wS Γ.cs.1 a S).eraseIdx 5) B [.ref (a 5), .int i] (c_valueAt _ _ _ 10 (by decide) (a 5) i (S.2 5)) [5] [0, 1, 2, 3, 4, 6] [0, 1, 2, 3, 4, 6, 5] rfl rfl rfl rfl (by decide) rfl rfl hnw gs_valueAt np_valueAt hR hroom rfl hsum d hp kk
theorem s_pAt5 {Γ : Ctx} {cc : ByteArray} {nL k n pc pc' : Nat} {R0 : Room} {lv : List (Nat × Value)} {st : List Value} {index : Nat} {a : Nat → Nat} {S : OB} {i v : Int32} (B : CX Γ cc nL RX1 R0) (hR : 1 ≤ R0.frames ∧ 22 ≤ R0.locals) (hroom : k ≤ R0.cells ∧ n ≤ R0.slots) (hsum : (st.map fun v => v.category).sum ≤ 8) (hnw : Cond.methodLinkNest RX1 index yX2_putAt RX2 ∈ nestW) (d : decode cc pc = .ok (.invokestatic index, 3)) (hp : pc + 3 = pc') (kk : X Γ nL k n pc' lv st (wS Γ.cs.1 a (S.1, up2 S.2 5 (pAt 10 (S.2 5) i v)))) : X Γ nL k n pc lv (.int v :: .int i :: .ref (a 5) :: st) (wS Γ.cs.1 a S) :=
  x_GSNv (ws' := wS Γ.cs.1 a (S.1, up2 S.2 5 (pAt 10 (S.2 5) i v))) (wr := (wS Γ.cs.1 a S).eraseIdx 5) B [.ref (a 5), .int i, .int v] (c_putAt _ _ _ 10 (by decide) (a 5) i v (S.2 5)) [5] [0, 1, 2, 3, 4, 6] [0, 1, 2, 3, 4, 6, 5] rfl rfl rfl rfl (by decide) rfl rfl hnw gs_putAt np_putAt hR hroom rfl hsum d hp kk
theorem s_ref6 {Γ : Ctx} {cc : ByteArray} {nL k n pc pc' : Nat} {own : String} {R0 : Room} {lv : List (Nat × Value)} {st : List Value} {index : Nat} {a : Nat → Nat} {S : OB} (B : CX Γ cc nL own R0) (hw : Cond.fieldLink own index "DictationBelt$State" "losses" "[I" ∈ GW) (d : decode cc pc = .ok (.getfield index, 3)) (hp : pc + 3 = pc') (kk : X Γ nL k n pc' lv (.ref (a 6) :: st) (wS Γ.cs.1 a S)) : X Γ nL k n pc lv (.ref (a 0) :: st) (wS Γ.cs.1 a S) :=
  x_getf B 0 6 rfl rfl inlX1 (by decide) hw rfl d hp kk
theorem s_ald6 {Γ : Ctx} {cc : ByteArray} {nL k n pc pc' : Nat} {own : String} {R0 : Room} {lv : List (Nat × Value)} {st : List Value} {a : Nat → Nat} {S : OB} {i : Int32} (B : CX Γ cc nL own R0) (hi : vp_in i 10) (d : decode cc pc = .ok (.iaload, 1)) (hp : pc + 1 = pc') (kk : X Γ nL k n pc' lv (.int (S.2 6 i.toNatClampNeg) :: st) (wS Γ.cs.1 a S)) : X Γ nL k n pc lv (.int i :: .ref (a 6) :: st) (wS Γ.cs.1 a S) :=
  x_iald B 6 rfl hi d hp kk
theorem s_ast6 {Γ : Ctx} {cc : ByteArray} {nL k n pc pc' : Nat} {own : String} {R0 : Room} {lv : List (Nat × Value)} {st : List Value} {a : Nat → Nat} {S : OB} {i v : Int32} (B : CX Γ cc nL own R0) (hi : vp_in i 10) (d : decode cc pc = .ok (.iastore, 1)) (hp : pc + 1 = pc') (kk : X Γ nL k n pc' lv st (wS Γ.cs.1 a (S.1, up2 S.2 6 (upd (S.2 6) i.toNatClampNeg v)))) : X Γ nL k n pc lv (.int v :: .int i :: .ref (a 6) :: st) (wS Γ.cs.1 a S) :=
  x_iast B 6 rfl hi rfl d hp kk
theorem s_vAt6 {Γ : Ctx} {cc : ByteArray} {nL k n pc pc' : Nat} {R0 : Room} {lv : List (Nat × Value)} {st : List Value} {index : Nat} {a : Nat → Nat} {S : OB} {i : Int32} (B : CX Γ cc nL RX1 R0) (hR : 1 ≤ R0.frames ∧ 21 ≤ R0.locals) (hroom : k ≤ R0.cells ∧ n ≤ R0.slots) (hsum : (st.map fun v => v.category).sum ≤ 8) (hnw : Cond.methodLinkNest RX1 index yX2_valueAt RX2 ∈ nestW) (d : decode cc pc = .ok (.invokestatic index, 3)) (hp : pc + 3 = pc') (kk : X Γ nL k n pc' lv (.int (vAt 10 (S.2 6) i) :: st) (wS Γ.cs.1 a S)) : X Γ nL k n pc lv (.int i :: .ref (a 6) :: st) (wS Γ.cs.1 a S) :=
  x_GSNi (ws' := wS Γ.cs.1 a S) (wr := (wS Γ.cs.1 a S).eraseIdx 6) B [.ref (a 6), .int i] (c_valueAt _ _ _ 10 (by decide) (a 6) i (S.2 6)) [6] [0, 1, 2, 3, 4, 5] [0, 1, 2, 3, 4, 5, 6] rfl rfl rfl rfl (by decide) rfl rfl hnw gs_valueAt np_valueAt hR hroom rfl hsum d hp kk
theorem s_pAt6 {Γ : Ctx} {cc : ByteArray} {nL k n pc pc' : Nat} {R0 : Room} {lv : List (Nat × Value)} {st : List Value} {index : Nat} {a : Nat → Nat} {S : OB} {i v : Int32} (B : CX Γ cc nL RX1 R0) (hR : 1 ≤ R0.frames ∧ 22 ≤ R0.locals) (hroom : k ≤ R0.cells ∧ n ≤ R0.slots) (hsum : (st.map fun v => v.category).sum ≤ 8) (hnw : Cond.methodLinkNest RX1 index yX2_putAt RX2 ∈ nestW) (d : decode cc pc = .ok (.invokestatic index, 3)) (hp : pc + 3 = pc') (kk : X Γ nL k n pc' lv st (wS Γ.cs.1 a (S.1, up2 S.2 6 (pAt 10 (S.2 6) i v)))) : X Γ nL k n pc lv (.int v :: .int i :: .ref (a 6) :: st) (wS Γ.cs.1 a S) :=
  x_GSNv (ws' := wS Γ.cs.1 a (S.1, up2 S.2 6 (pAt 10 (S.2 6) i v))) (wr := (wS Γ.cs.1 a S).eraseIdx 6) B [.ref (a 6), .int i, .int v] (c_putAt _ _ _ 10 (by decide) (a 6) i v (S.2 6)) [6] [0, 1, 2, 3, 4, 5] [0, 1, 2, 3, 4, 5, 6] rfl rfl rfl rfl (by decide) rfl rfl hnw gs_putAt np_putAt hR hroom rfl hsum d hp kk
theorem t_get1 {Γ : Ctx} {cc : ByteArray} {nL k n pc pc' : Nat} {own : String} {R0 : Room} {lv : List (Nat × Value)} {st : List Value} {index : Nat} {a : Nat → Nat} {S : OB} (B : CX Γ cc nL own R0) (hw : Cond.fieldLink own index "DictationBelt$OrderText" "length" "I" ∈ GW) (d : decode cc pc = .ok (.getfield index, 3)) (hp : pc + 3 = pc') (kk : X Γ nL k n pc' lv (.int (S.1 1) :: st) (wT Γ.cs.1 a S)) : X Γ nL k n pc lv (.ref (a 0) :: st) (wT Γ.cs.1 a S) :=
  x_getf B 0 1 rfl rfl inlX0 (by decide) hw rfl d hp kk
theorem t_put1 {Γ : Ctx} {cc : ByteArray} {nL k n pc pc' : Nat} {own : String} {R0 : Room} {lv : List (Nat × Value)} {st : List Value} {index : Nat} {a : Nat → Nat} {S : OB} {v : Int32} (B : CX Γ cc nL own R0) (hw : Cond.fieldLink own index "DictationBelt$OrderText" "length" "I" ∈ GW) (d : decode cc pc = .ok (.putfield index, 3)) (hp : pc + 3 = pc') (kk : X Γ nL k n pc' lv st (wT Γ.cs.1 a (upd S.1 1 v, S.2))) : X Γ nL k n pc lv (.int v :: .ref (a 0) :: st) (wT Γ.cs.1 a S) :=
  x_putf B 0 1 tyX0 tyX0_ok nmX0 rfl rfl inlX0 (by decide) hw rfl rfl rfl (Nat.le_of_ble_eq_true rfl) rfl d hp kk
theorem t_ref0 {Γ : Ctx} {cc : ByteArray} {nL k n pc pc' : Nat} {own : String} {R0 : Room} {lv : List (Nat × Value)} {st : List Value} {index : Nat} {a : Nat → Nat} {S : OB} (B : CX Γ cc nL own R0) (hw : Cond.fieldLink own index "DictationBelt$OrderText" "codes" "[I" ∈ GW) (d : decode cc pc = .ok (.getfield index, 3)) (hp : pc + 3 = pc') (kk : X Γ nL k n pc' lv (.ref (a 1) :: st) (wT Γ.cs.1 a S)) : X Γ nL k n pc lv (.ref (a 0) :: st) (wT Γ.cs.1 a S) :=
  x_getf B 0 0 rfl rfl inlX0 (by decide) hw rfl d hp kk
theorem t_ald0 {Γ : Ctx} {cc : ByteArray} {nL k n pc pc' : Nat} {own : String} {R0 : Room} {lv : List (Nat × Value)} {st : List Value} {a : Nat → Nat} {S : OB} {i : Int32} (B : CX Γ cc nL own R0) (hi : vp_in i 60) (d : decode cc pc = .ok (.iaload, 1)) (hp : pc + 1 = pc') (kk : X Γ nL k n pc' lv (.int (S.2 0 i.toNatClampNeg) :: st) (wT Γ.cs.1 a S)) : X Γ nL k n pc lv (.int i :: .ref (a 1) :: st) (wT Γ.cs.1 a S) :=
  x_iald B 1 rfl hi d hp kk
theorem t_ast0 {Γ : Ctx} {cc : ByteArray} {nL k n pc pc' : Nat} {own : String} {R0 : Room} {lv : List (Nat × Value)} {st : List Value} {a : Nat → Nat} {S : OB} {i v : Int32} (B : CX Γ cc nL own R0) (hi : vp_in i 60) (d : decode cc pc = .ok (.iastore, 1)) (hp : pc + 1 = pc') (kk : X Γ nL k n pc' lv st (wT Γ.cs.1 a (S.1, up2 S.2 0 (upd (S.2 0) i.toNatClampNeg v)))) : X Γ nL k n pc lv (.int v :: .int i :: .ref (a 1) :: st) (wT Γ.cs.1 a S) :=
  x_iast B 1 rfl hi rfl d hp kk
theorem t_vAt0 {Γ : Ctx} {cc : ByteArray} {nL k n pc pc' : Nat} {R0 : Room} {lv : List (Nat × Value)} {st : List Value} {index : Nat} {a : Nat → Nat} {S : OB} {i : Int32} (B : CX Γ cc nL RX0 R0) (hR : 1 ≤ R0.frames ∧ 21 ≤ R0.locals) (hroom : k ≤ R0.cells ∧ n ≤ R0.slots) (hsum : (st.map fun v => v.category).sum ≤ 8) (hnw : Cond.methodLinkNest RX0 index yX2_valueAt RX2 ∈ nestW) (d : decode cc pc = .ok (.invokestatic index, 3)) (hp : pc + 3 = pc') (kk : X Γ nL k n pc' lv (.int (vAt 60 (S.2 0) i) :: st) (wT Γ.cs.1 a S)) : X Γ nL k n pc lv (.int i :: .ref (a 1) :: st) (wT Γ.cs.1 a S) :=
  x_GSNi (ws' := wT Γ.cs.1 a S) (wr := (wT Γ.cs.1 a S).eraseIdx 1) B [.ref (a 1), .int i] (c_valueAt _ _ _ 60 (by decide) (a 1) i (S.2 0)) [1] [0] [0, 1] rfl rfl rfl rfl (by decide) rfl rfl hnw gs_valueAt np_valueAt hR hroom rfl hsum d hp kk
theorem t_pAt0 {Γ : Ctx} {cc : ByteArray} {nL k n pc pc' : Nat} {R0 : Room} {lv : List (Nat × Value)} {st : List Value} {index : Nat} {a : Nat → Nat} {S : OB} {i v : Int32} (B : CX Γ cc nL RX0 R0) (hR : 1 ≤ R0.frames ∧ 22 ≤ R0.locals) (hroom : k ≤ R0.cells ∧ n ≤ R0.slots) (hsum : (st.map fun v => v.category).sum ≤ 8) (hnw : Cond.methodLinkNest RX0 index yX2_putAt RX2 ∈ nestW) (d : decode cc pc = .ok (.invokestatic index, 3)) (hp : pc + 3 = pc') (kk : X Γ nL k n pc' lv st (wT Γ.cs.1 a (S.1, up2 S.2 0 (pAt 60 (S.2 0) i v)))) : X Γ nL k n pc lv (.int v :: .int i :: .ref (a 1) :: st) (wT Γ.cs.1 a S) :=
  x_GSNv (ws' := wT Γ.cs.1 a (S.1, up2 S.2 0 (pAt 60 (S.2 0) i v))) (wr := (wT Γ.cs.1 a S).eraseIdx 1) B [.ref (a 1), .int i, .int v] (c_putAt _ _ _ 60 (by decide) (a 1) i v (S.2 0)) [1] [0] [0, 1] rfl rfl rfl rfl (by decide) rfl rfl hnw gs_putAt np_putAt hR hroom rfl hsum d hp kk
theorem b_get2 {Γ : Ctx} {cc : ByteArray} {nL k n pc pc' : Nat} {own : String} {R0 : Room} {lv : List (Nat × Value)} {st : List Value} {index : Nat} {a : Nat → Nat → Nat} {S : BO} (B : CX Γ cc nL own R0) (hw : Cond.fieldLink own index "DictationBelt" "nextSlot" "I" ∈ GW) (d : decode cc pc = .ok (.getfield index, 3)) (hp : pc + 3 = pc') (kk : X Γ nL k n pc' lv (.int (S.1 2) :: st) (wB Γ.cs a S)) : X Γ nL k n pc lv (.ref (a 0 0) :: st) (wB Γ.cs a S) :=
  x_getf B 0 2 rfl rfl inlX2 (by decide) hw rfl d hp kk
theorem b_put2 {Γ : Ctx} {cc : ByteArray} {nL k n pc pc' : Nat} {own : String} {R0 : Room} {lv : List (Nat × Value)} {st : List Value} {index : Nat} {a : Nat → Nat → Nat} {S : BO} {v : Int32} (B : CX Γ cc nL own R0) (hw : Cond.fieldLink own index "DictationBelt" "nextSlot" "I" ∈ GW) (d : decode cc pc = .ok (.putfield index, 3)) (hp : pc + 3 = pc') (kk : X Γ nL k n pc' lv st (wB Γ.cs a (upd S.1 2 v, S.2))) : X Γ nL k n pc lv (.int v :: .ref (a 0 0) :: st) (wB Γ.cs a S) :=
  x_putf B 0 2 tyX2 tyX2_ok nmX2 rfl rfl inlX2 (by decide) hw rfl rfl rfl (Nat.le_of_ble_eq_true rfl) rfl d hp kk
theorem b_get3 {Γ : Ctx} {cc : ByteArray} {nL k n pc pc' : Nat} {own : String} {R0 : Room} {lv : List (Nat × Value)} {st : List Value} {index : Nat} {a : Nat → Nat → Nat} {S : BO} (B : CX Γ cc nL own R0) (hw : Cond.fieldLink own index "DictationBelt" "savedCount" "I" ∈ GW) (d : decode cc pc = .ok (.getfield index, 3)) (hp : pc + 3 = pc') (kk : X Γ nL k n pc' lv (.int (S.1 3) :: st) (wB Γ.cs a S)) : X Γ nL k n pc lv (.ref (a 0 0) :: st) (wB Γ.cs a S) :=
  x_getf B 0 3 rfl rfl inlX2 (by decide) hw rfl d hp kk
theorem b_put3 {Γ : Ctx} {cc : ByteArray} {nL k n pc pc' : Nat} {own : String} {R0 : Room} {lv : List (Nat × Value)} {st : List Value} {index : Nat} {a : Nat → Nat → Nat} {S : BO} {v : Int32} (B : CX Γ cc nL own R0) (hw : Cond.fieldLink own index "DictationBelt" "savedCount" "I" ∈ GW) (d : decode cc pc = .ok (.putfield index, 3)) (hp : pc + 3 = pc') (kk : X Γ nL k n pc' lv st (wB Γ.cs a (upd S.1 3 v, S.2))) : X Γ nL k n pc lv (.int v :: .ref (a 0 0) :: st) (wB Γ.cs a S) :=
  x_putf B 0 3 tyX2 tyX2_ok nmX2 rfl rfl inlX2 (by decide) hw rfl rfl rfl (Nat.le_of_ble_eq_true rfl) rfl d hp kk
theorem b_ref0 {Γ : Ctx} {cc : ByteArray} {nL k n pc pc' : Nat} {own : String} {R0 : Room} {lv : List (Nat × Value)} {st : List Value} {index : Nat} {a : Nat → Nat → Nat} {S : BO} (B : CX Γ cc nL own R0) (hw : Cond.fieldLink own index "DictationBelt" "now" "LDictationBelt$State;" ∈ GW) (d : decode cc pc = .ok (.getfield index, 3)) (hp : pc + 3 = pc') (kk : X Γ nL k n pc' lv (.ref (a 1 0) :: st) (wB Γ.cs a S)) : X Γ nL k n pc lv (.ref (a 0 0) :: st) (wB Γ.cs a S) :=
  x_getf B 0 0 rfl rfl inlX2 (by decide) hw rfl d hp kk
theorem b_ref1 {Γ : Ctx} {cc : ByteArray} {nL k n pc pc' : Nat} {own : String} {R0 : Room} {lv : List (Nat × Value)} {st : List Value} {index : Nat} {a : Nat → Nat → Nat} {S : BO} (B : CX Γ cc nL own R0) (hw : Cond.fieldLink own index "DictationBelt" "saved" "[LDictationBelt$State;" ∈ GW) (d : decode cc pc = .ok (.getfield index, 3)) (hp : pc + 3 = pc') (kk : X Γ nL k n pc' lv (.ref (a 0 1) :: st) (wB Γ.cs a S)) : X Γ nL k n pc lv (.ref (a 0 0) :: st) (wB Γ.cs a S) :=
  x_getf B 0 1 rfl rfl inlX2 (by decide) hw rfl d hp kk
theorem b_ref4 {Γ : Ctx} {cc : ByteArray} {nL k n pc pc' : Nat} {own : String} {R0 : Room} {lv : List (Nat × Value)} {st : List Value} {index : Nat} {a : Nat → Nat → Nat} {S : BO} (B : CX Γ cc nL own R0) (hw : Cond.fieldLink own index "DictationBelt" "text" "LDictationBelt$OrderText;" ∈ GW) (d : decode cc pc = .ok (.getfield index, 3)) (hp : pc + 3 = pc') (kk : X Γ nL k n pc' lv (.ref (a 2 0) :: st) (wB Γ.cs a S)) : X Γ nL k n pc lv (.ref (a 0 0) :: st) (wB Γ.cs a S) :=
  x_getf B 0 4 rfl rfl inlX2 (by decide) hw rfl d hp kk
theorem bn_get4 {Γ : Ctx} {cc : ByteArray} {nL k n pc pc' : Nat} {own : String} {R0 : Room} {lv : List (Nat × Value)} {st : List Value} {index : Nat} {a : Nat → Nat → Nat} {S : BO} (B : CX Γ cc nL own R0) (hw : Cond.fieldLink own index "DictationBelt$State" "used" "I" ∈ GW) (d : decode cc pc = .ok (.getfield index, 3)) (hp : pc + 3 = pc') (kk : X Γ nL k n pc' lv (.int (S.2.1.1 4) :: st) (wB Γ.cs a S)) : X Γ nL k n pc lv (.ref (a 1 0) :: st) (wB Γ.cs a S) :=
  x_getf B 2 4 rfl rfl inlX1 (by decide) hw rfl d hp kk
theorem bn_put4 {Γ : Ctx} {cc : ByteArray} {nL k n pc pc' : Nat} {own : String} {R0 : Room} {lv : List (Nat × Value)} {st : List Value} {index : Nat} {a : Nat → Nat → Nat} {S : BO} {v : Int32} (B : CX Γ cc nL own R0) (hw : Cond.fieldLink own index "DictationBelt$State" "used" "I" ∈ GW) (d : decode cc pc = .ok (.putfield index, 3)) (hp : pc + 3 = pc') (kk : X Γ nL k n pc' lv st (wB Γ.cs a (S.1, (upd S.2.1.1 4 v, S.2.1.2), S.2.2))) : X Γ nL k n pc lv (.int v :: .ref (a 1 0) :: st) (wB Γ.cs a S) :=
  x_putf B 2 4 tyX1 tyX1_ok nmX1 rfl rfl inlX1 (by decide) hw rfl rfl rfl (Nat.le_of_ble_eq_true rfl) rfl d hp kk
theorem bn_get7 {Γ : Ctx} {cc : ByteArray} {nL k n pc pc' : Nat} {own : String} {R0 : Room} {lv : List (Nat × Value)} {st : List Value} {index : Nat} {a : Nat → Nat → Nat} {S : BO} (B : CX Γ cc nL own R0) (hw : Cond.fieldLink own index "DictationBelt$State" "count" "I" ∈ GW) (d : decode cc pc = .ok (.getfield index, 3)) (hp : pc + 3 = pc') (kk : X Γ nL k n pc' lv (.int (S.2.1.1 7) :: st) (wB Γ.cs a S)) : X Γ nL k n pc lv (.ref (a 1 0) :: st) (wB Γ.cs a S) :=
  x_getf B 2 7 rfl rfl inlX1 (by decide) hw rfl d hp kk
theorem bn_put7 {Γ : Ctx} {cc : ByteArray} {nL k n pc pc' : Nat} {own : String} {R0 : Room} {lv : List (Nat × Value)} {st : List Value} {index : Nat} {a : Nat → Nat → Nat} {S : BO} {v : Int32} (B : CX Γ cc nL own R0) (hw : Cond.fieldLink own index "DictationBelt$State" "count" "I" ∈ GW) (d : decode cc pc = .ok (.putfield index, 3)) (hp : pc + 3 = pc') (kk : X Γ nL k n pc' lv st (wB Γ.cs a (S.1, (upd S.2.1.1 7 v, S.2.1.2), S.2.2))) : X Γ nL k n pc lv (.int v :: .ref (a 1 0) :: st) (wB Γ.cs a S) :=
  x_putf B 2 7 tyX1 tyX1_ok nmX1 rfl rfl inlX1 (by decide) hw rfl rfl rfl (Nat.le_of_ble_eq_true rfl) rfl d hp kk
theorem bn_get8 {Γ : Ctx} {cc : ByteArray} {nL k n pc pc' : Nat} {own : String} {R0 : Room} {lv : List (Nat × Value)} {st : List Value} {index : Nat} {a : Nat → Nat → Nat} {S : BO} (B : CX Γ cc nL own R0) (hw : Cond.fieldLink own index "DictationBelt$State" "isRunning" "Z" ∈ GW) (d : decode cc pc = .ok (.getfield index, 3)) (hp : pc + 3 = pc') (kk : X Γ nL k n pc' lv (.int (S.2.1.1 8) :: st) (wB Γ.cs a S)) : X Γ nL k n pc lv (.ref (a 1 0) :: st) (wB Γ.cs a S) :=
  x_getf B 2 8 rfl rfl inlX1 (by decide) hw rfl d hp kk
theorem bn_put8 {Γ : Ctx} {cc : ByteArray} {nL k n pc pc' : Nat} {own : String} {R0 : Room} {lv : List (Nat × Value)} {st : List Value} {index : Nat} {a : Nat → Nat → Nat} {S : BO} {v : Int32} (hv : v = 0 ∨ v = 1) (B : CX Γ cc nL own R0) (hw : Cond.fieldLink own index "DictationBelt$State" "isRunning" "Z" ∈ GW) (d : decode cc pc = .ok (.putfield index, 3)) (hp : pc + 3 = pc') (kk : X Γ nL k n pc' lv st (wB Γ.cs a (S.1, (upd S.2.1.1 8 v, S.2.1.2), S.2.2))) : X Γ nL k n pc lv (.int v :: .ref (a 1 0) :: st) (wB Γ.cs a S) :=
  x_putf B 2 8 tyX1 tyX1_ok nmX1 rfl rfl inlX1 (by decide) hw rfl (zb_nar hv) (by rcases hv with rfl | rfl <;> rfl) (Nat.le_of_ble_eq_true rfl) rfl d hp kk
theorem bn_get9 {Γ : Ctx} {cc : ByteArray} {nL k n pc pc' : Nat} {own : String} {R0 : Room} {lv : List (Nat × Value)} {st : List Value} {index : Nat} {a : Nat → Nat → Nat} {S : BO} (B : CX Γ cc nL own R0) (hw : Cond.fieldLink own index "DictationBelt$State" "head" "I" ∈ GW) (d : decode cc pc = .ok (.getfield index, 3)) (hp : pc + 3 = pc') (kk : X Γ nL k n pc' lv (.int (S.2.1.1 9) :: st) (wB Γ.cs a S)) : X Γ nL k n pc lv (.ref (a 1 0) :: st) (wB Γ.cs a S) :=
  x_getf B 2 9 rfl rfl inlX1 (by decide) hw rfl d hp kk
theorem bn_put9 {Γ : Ctx} {cc : ByteArray} {nL k n pc pc' : Nat} {own : String} {R0 : Room} {lv : List (Nat × Value)} {st : List Value} {index : Nat} {a : Nat → Nat → Nat} {S : BO} {v : Int32} (B : CX Γ cc nL own R0) (hw : Cond.fieldLink own index "DictationBelt$State" "head" "I" ∈ GW) (d : decode cc pc = .ok (.putfield index, 3)) (hp : pc + 3 = pc') (kk : X Γ nL k n pc' lv st (wB Γ.cs a (S.1, (upd S.2.1.1 9 v, S.2.1.2), S.2.2))) : X Γ nL k n pc lv (.int v :: .ref (a 1 0) :: st) (wB Γ.cs a S) :=
  x_putf B 2 9 tyX1 tyX1_ok nmX1 rfl rfl inlX1 (by decide) hw rfl rfl rfl (Nat.le_of_ble_eq_true rfl) rfl d hp kk
theorem bn_get10 {Γ : Ctx} {cc : ByteArray} {nL k n pc pc' : Nat} {own : String} {R0 : Room} {lv : List (Nat × Value)} {st : List Value} {index : Nat} {a : Nat → Nat → Nat} {S : BO} (B : CX Γ cc nL own R0) (hw : Cond.fieldLink own index "DictationBelt$State" "spoken" "I" ∈ GW) (d : decode cc pc = .ok (.getfield index, 3)) (hp : pc + 3 = pc') (kk : X Γ nL k n pc' lv (.int (S.2.1.1 10) :: st) (wB Γ.cs a S)) : X Γ nL k n pc lv (.ref (a 1 0) :: st) (wB Γ.cs a S) :=
  x_getf B 2 10 rfl rfl inlX1 (by decide) hw rfl d hp kk
theorem bn_put10 {Γ : Ctx} {cc : ByteArray} {nL k n pc pc' : Nat} {own : String} {R0 : Room} {lv : List (Nat × Value)} {st : List Value} {index : Nat} {a : Nat → Nat → Nat} {S : BO} {v : Int32} (B : CX Γ cc nL own R0) (hw : Cond.fieldLink own index "DictationBelt$State" "spoken" "I" ∈ GW) (d : decode cc pc = .ok (.putfield index, 3)) (hp : pc + 3 = pc') (kk : X Γ nL k n pc' lv st (wB Γ.cs a (S.1, (upd S.2.1.1 10 v, S.2.1.2), S.2.2))) : X Γ nL k n pc lv (.int v :: .ref (a 1 0) :: st) (wB Γ.cs a S) :=
  x_putf B 2 10 tyX1 tyX1_ok nmX1 rfl rfl inlX1 (by decide) hw rfl rfl rfl (Nat.le_of_ble_eq_true rfl) rfl d hp kk
theorem bn_get11 {Γ : Ctx} {cc : ByteArray} {nL k n pc pc' : Nat} {own : String} {R0 : Room} {lv : List (Nat × Value)} {st : List Value} {index : Nat} {a : Nat → Nat → Nat} {S : BO} (B : CX Γ cc nL own R0) (hw : Cond.fieldLink own index "DictationBelt$State" "gone" "I" ∈ GW) (d : decode cc pc = .ok (.getfield index, 3)) (hp : pc + 3 = pc') (kk : X Γ nL k n pc' lv (.int (S.2.1.1 11) :: st) (wB Γ.cs a S)) : X Γ nL k n pc lv (.ref (a 1 0) :: st) (wB Γ.cs a S) :=
  x_getf B 2 11 rfl rfl inlX1 (by decide) hw rfl d hp kk
theorem bn_put11 {Γ : Ctx} {cc : ByteArray} {nL k n pc pc' : Nat} {own : String} {R0 : Room} {lv : List (Nat × Value)} {st : List Value} {index : Nat} {a : Nat → Nat → Nat} {S : BO} {v : Int32} (B : CX Γ cc nL own R0) (hw : Cond.fieldLink own index "DictationBelt$State" "gone" "I" ∈ GW) (d : decode cc pc = .ok (.putfield index, 3)) (hp : pc + 3 = pc') (kk : X Γ nL k n pc' lv st (wB Γ.cs a (S.1, (upd S.2.1.1 11 v, S.2.1.2), S.2.2))) : X Γ nL k n pc lv (.int v :: .ref (a 1 0) :: st) (wB Γ.cs a S) :=
  x_putf B 2 11 tyX1 tyX1_ok nmX1 rfl rfl inlX1 (by decide) hw rfl rfl rfl (Nat.le_of_ble_eq_true rfl) rfl d hp kk
theorem bn_get12 {Γ : Ctx} {cc : ByteArray} {nL k n pc pc' : Nat} {own : String} {R0 : Room} {lv : List (Nat × Value)} {st : List Value} {index : Nat} {a : Nat → Nat → Nat} {S : BO} (B : CX Γ cc nL own R0) (hw : Cond.fieldLink own index "DictationBelt$State" "player" "I" ∈ GW) (d : decode cc pc = .ok (.getfield index, 3)) (hp : pc + 3 = pc') (kk : X Γ nL k n pc' lv (.int (S.2.1.1 12) :: st) (wB Γ.cs a S)) : X Γ nL k n pc lv (.ref (a 1 0) :: st) (wB Γ.cs a S) :=
  x_getf B 2 12 rfl rfl inlX1 (by decide) hw rfl d hp kk
theorem bn_put12 {Γ : Ctx} {cc : ByteArray} {nL k n pc pc' : Nat} {own : String} {R0 : Room} {lv : List (Nat × Value)} {st : List Value} {index : Nat} {a : Nat → Nat → Nat} {S : BO} {v : Int32} (B : CX Γ cc nL own R0) (hw : Cond.fieldLink own index "DictationBelt$State" "player" "I" ∈ GW) (d : decode cc pc = .ok (.putfield index, 3)) (hp : pc + 3 = pc') (kk : X Γ nL k n pc' lv st (wB Γ.cs a (S.1, (upd S.2.1.1 12 v, S.2.1.2), S.2.2))) : X Γ nL k n pc lv (.int v :: .ref (a 1 0) :: st) (wB Γ.cs a S) :=
  x_putf B 2 12 tyX1 tyX1_ok nmX1 rfl rfl inlX1 (by decide) hw rfl rfl rfl (Nat.le_of_ble_eq_true rfl) rfl d hp kk
theorem bn_get13 {Γ : Ctx} {cc : ByteArray} {nL k n pc pc' : Nat} {own : String} {R0 : Room} {lv : List (Nat × Value)} {st : List Value} {index : Nat} {a : Nat → Nat → Nat} {S : BO} (B : CX Γ cc nL own R0) (hw : Cond.fieldLink own index "DictationBelt$State" "place" "I" ∈ GW) (d : decode cc pc = .ok (.getfield index, 3)) (hp : pc + 3 = pc') (kk : X Γ nL k n pc' lv (.int (S.2.1.1 13) :: st) (wB Γ.cs a S)) : X Γ nL k n pc lv (.ref (a 1 0) :: st) (wB Γ.cs a S) :=
  x_getf B 2 13 rfl rfl inlX1 (by decide) hw rfl d hp kk
theorem bn_put13 {Γ : Ctx} {cc : ByteArray} {nL k n pc pc' : Nat} {own : String} {R0 : Room} {lv : List (Nat × Value)} {st : List Value} {index : Nat} {a : Nat → Nat → Nat} {S : BO} {v : Int32} (B : CX Γ cc nL own R0) (hw : Cond.fieldLink own index "DictationBelt$State" "place" "I" ∈ GW) (d : decode cc pc = .ok (.putfield index, 3)) (hp : pc + 3 = pc') (kk : X Γ nL k n pc' lv st (wB Γ.cs a (S.1, (upd S.2.1.1 13 v, S.2.1.2), S.2.2))) : X Γ nL k n pc lv (.int v :: .ref (a 1 0) :: st) (wB Γ.cs a S) :=
  x_putf B 2 13 tyX1 tyX1_ok nmX1 rfl rfl inlX1 (by decide) hw rfl rfl rfl (Nat.le_of_ble_eq_true rfl) rfl d hp kk
theorem bn_ref0 {Γ : Ctx} {cc : ByteArray} {nL k n pc pc' : Nat} {own : String} {R0 : Room} {lv : List (Nat × Value)} {st : List Value} {index : Nat} {a : Nat → Nat → Nat} {S : BO} (B : CX Γ cc nL own R0) (hw : Cond.fieldLink own index "DictationBelt$State" "owners" "[I" ∈ GW) (d : decode cc pc = .ok (.getfield index, 3)) (hp : pc + 3 = pc') (kk : X Γ nL k n pc' lv (.ref (a 1 1) :: st) (wB Γ.cs a S)) : X Γ nL k n pc lv (.ref (a 1 0) :: st) (wB Γ.cs a S) :=
  x_getf B 2 0 rfl rfl inlX1 (by decide) hw rfl d hp kk
theorem bn_ald0 {Γ : Ctx} {cc : ByteArray} {nL k n pc pc' : Nat} {own : String} {R0 : Room} {lv : List (Nat × Value)} {st : List Value} {a : Nat → Nat → Nat} {S : BO} {i : Int32} (B : CX Γ cc nL own R0) (hi : vp_in i 32) (d : decode cc pc = .ok (.iaload, 1)) (hp : pc + 1 = pc') (kk : X Γ nL k n pc' lv (.int (S.2.1.2 0 i.toNatClampNeg) :: st) (wB Γ.cs a S)) : X Γ nL k n pc lv (.int i :: .ref (a 1 1) :: st) (wB Γ.cs a S) :=
  x_iald B 3 rfl hi d hp kk
theorem bn_ast0 {Γ : Ctx} {cc : ByteArray} {nL k n pc pc' : Nat} {own : String} {R0 : Room} {lv : List (Nat × Value)} {st : List Value} {a : Nat → Nat → Nat} {S : BO} {i v : Int32} (B : CX Γ cc nL own R0) (hi : vp_in i 32) (d : decode cc pc = .ok (.iastore, 1)) (hp : pc + 1 = pc') (kk : X Γ nL k n pc' lv st (wB Γ.cs a (S.1, (S.2.1.1, up2 S.2.1.2 0 (upd (S.2.1.2 0) i.toNatClampNeg v)), S.2.2))) : X Γ nL k n pc lv (.int v :: .int i :: .ref (a 1 1) :: st) (wB Γ.cs a S) :=
  x_iast B 3 rfl hi rfl d hp kk
theorem bn_vAt0 {Γ : Ctx} {cc : ByteArray} {nL k n pc pc' : Nat} {R0 : Room} {lv : List (Nat × Value)} {st : List Value} {index : Nat} {a : Nat → Nat → Nat} {S : BO} {i : Int32} (B : CX Γ cc nL RX2 R0) (hR : 1 ≤ R0.frames ∧ 21 ≤ R0.locals) (hroom : k ≤ R0.cells ∧ n ≤ R0.slots) (hsum : (st.map fun v => v.category).sum ≤ 8) (hi9 : index = gv_valueAt_idx) (d : decode cc pc = .ok (.invokestatic index, 3)) (hp : pc + 3 = pc') (kk : X Γ nL k n pc' lv (.int (vAt 32 (S.2.1.2 0) i) :: st) (wB Γ.cs a S)) : X Γ nL k n pc lv (.int i :: .ref (a 1 1) :: st) (wB Γ.cs a S) :=
  x_GSi (ws' := wB Γ.cs a S) (wr := (wB Γ.cs a S).eraseIdx 3) B [.ref (a 1 1), .int i] (c_valueAt _ _ _ 32 (by decide) (a 1 1) i (S.2.1.2 0)) [3] [0, 1, 2, 4, 5, 6, 7, 8, 9, 10, 11, 12, 13, 14, 15, 16, 17, 18, 19, 20, 21, 22, 23, 24, 25, 26, 27, 28, 29, 30, 31, 32, 33, 34, 35, 36, 37, 38, 39, 40, 41, 42, 43, 44, 45, 46, 47, 48, 49, 50, 51, 52] [0, 1, 2, 52, 3, 4, 5, 6, 7, 8, 9, 10, 11, 12, 13, 14, 15, 16, 17, 18, 19, 20, 21, 22, 23, 24, 25, 26, 27, 28, 29, 30, 31, 32, 33, 34, 35, 36, 37, 38, 39, 40, 41, 42, 43, 44, 45, 46, 47, 48, 49, 50, 51] rfl rfl rfl rfl (by decide) rfl rfl (hi9 ▸ gs_RX2_valueAt) np_valueAt hR hroom rfl hsum d hp kk
theorem bn_pAt0 {Γ : Ctx} {cc : ByteArray} {nL k n pc pc' : Nat} {R0 : Room} {lv : List (Nat × Value)} {st : List Value} {index : Nat} {a : Nat → Nat → Nat} {S : BO} {i v : Int32} (B : CX Γ cc nL RX2 R0) (hR : 1 ≤ R0.frames ∧ 22 ≤ R0.locals) (hroom : k ≤ R0.cells ∧ n ≤ R0.slots) (hsum : (st.map fun v => v.category).sum ≤ 8) (hi9 : index = gv_putAt_idx) (d : decode cc pc = .ok (.invokestatic index, 3)) (hp : pc + 3 = pc') (kk : X Γ nL k n pc' lv st (wB Γ.cs a (S.1, (S.2.1.1, up2 S.2.1.2 0 (pAt 32 (S.2.1.2 0) i v)), S.2.2))) : X Γ nL k n pc lv (.int v :: .int i :: .ref (a 1 1) :: st) (wB Γ.cs a S) :=
  x_GSv (ws' := wB Γ.cs a (S.1, (S.2.1.1, up2 S.2.1.2 0 (pAt 32 (S.2.1.2 0) i v)), S.2.2)) (wr := (wB Γ.cs a S).eraseIdx 3) B [.ref (a 1 1), .int i, .int v] (c_putAt _ _ _ 32 (by decide) (a 1 1) i v (S.2.1.2 0)) [3] [0, 1, 2, 4, 5, 6, 7, 8, 9, 10, 11, 12, 13, 14, 15, 16, 17, 18, 19, 20, 21, 22, 23, 24, 25, 26, 27, 28, 29, 30, 31, 32, 33, 34, 35, 36, 37, 38, 39, 40, 41, 42, 43, 44, 45, 46, 47, 48, 49, 50, 51, 52] [0, 1, 2, 52, 3, 4, 5, 6, 7, 8, 9, 10, 11, 12, 13, 14, 15, 16, 17, 18, 19, 20, 21, 22, 23, 24, 25, 26, 27, 28, 29, 30, 31, 32, 33, 34, 35, 36, 37, 38, 39, 40, 41, 42, 43, 44, 45, 46, 47, 48, 49, 50, 51] rfl rfl rfl rfl (by decide) rfl rfl (hi9 ▸ gs_RX2_putAt) np_putAt hR hroom rfl hsum d hp kk
theorem bn_ref1 {Γ : Ctx} {cc : ByteArray} {nL k n pc pc' : Nat} {own : String} {R0 : Room} {lv : List (Nat × Value)} {st : List Value} {index : Nat} {a : Nat → Nat → Nat} {S : BO} (B : CX Γ cc nL own R0) (hw : Cond.fieldLink own index "DictationBelt$State" "sounds" "[I" ∈ GW) (d : decode cc pc = .ok (.getfield index, 3)) (hp : pc + 3 = pc') (kk : X Γ nL k n pc' lv (.ref (a 1 2) :: st) (wB Γ.cs a S)) : X Γ nL k n pc lv (.ref (a 1 0) :: st) (wB Γ.cs a S) :=
  x_getf B 2 1 rfl rfl inlX1 (by decide) hw rfl d hp kk
theorem bn_ald1 {Γ : Ctx} {cc : ByteArray} {nL k n pc pc' : Nat} {own : String} {R0 : Room} {lv : List (Nat × Value)} {st : List Value} {a : Nat → Nat → Nat} {S : BO} {i : Int32} (B : CX Γ cc nL own R0) (hi : vp_in i 32) (d : decode cc pc = .ok (.iaload, 1)) (hp : pc + 1 = pc') (kk : X Γ nL k n pc' lv (.int (S.2.1.2 1 i.toNatClampNeg) :: st) (wB Γ.cs a S)) : X Γ nL k n pc lv (.int i :: .ref (a 1 2) :: st) (wB Γ.cs a S) :=
  x_iald B 4 rfl hi d hp kk
theorem bn_ast1 {Γ : Ctx} {cc : ByteArray} {nL k n pc pc' : Nat} {own : String} {R0 : Room} {lv : List (Nat × Value)} {st : List Value} {a : Nat → Nat → Nat} {S : BO} {i v : Int32} (B : CX Γ cc nL own R0) (hi : vp_in i 32) (d : decode cc pc = .ok (.iastore, 1)) (hp : pc + 1 = pc') (kk : X Γ nL k n pc' lv st (wB Γ.cs a (S.1, (S.2.1.1, up2 S.2.1.2 1 (upd (S.2.1.2 1) i.toNatClampNeg v)), S.2.2))) : X Γ nL k n pc lv (.int v :: .int i :: .ref (a 1 2) :: st) (wB Γ.cs a S) :=
  x_iast B 4 rfl hi rfl d hp kk
theorem bn_vAt1 {Γ : Ctx} {cc : ByteArray} {nL k n pc pc' : Nat} {R0 : Room} {lv : List (Nat × Value)} {st : List Value} {index : Nat} {a : Nat → Nat → Nat} {S : BO} {i : Int32} (B : CX Γ cc nL RX2 R0) (hR : 1 ≤ R0.frames ∧ 21 ≤ R0.locals) (hroom : k ≤ R0.cells ∧ n ≤ R0.slots) (hsum : (st.map fun v => v.category).sum ≤ 8) (hi9 : index = gv_valueAt_idx) (d : decode cc pc = .ok (.invokestatic index, 3)) (hp : pc + 3 = pc') (kk : X Γ nL k n pc' lv (.int (vAt 32 (S.2.1.2 1) i) :: st) (wB Γ.cs a S)) : X Γ nL k n pc lv (.int i :: .ref (a 1 2) :: st) (wB Γ.cs a S) :=
  x_GSi (ws' := wB Γ.cs a S) (wr := (wB Γ.cs a S).eraseIdx 4) B [.ref (a 1 2), .int i] (c_valueAt _ _ _ 32 (by decide) (a 1 2) i (S.2.1.2 1)) [4] [0, 1, 2, 3, 5, 6, 7, 8, 9, 10, 11, 12, 13, 14, 15, 16, 17, 18, 19, 20, 21, 22, 23, 24, 25, 26, 27, 28, 29, 30, 31, 32, 33, 34, 35, 36, 37, 38, 39, 40, 41, 42, 43, 44, 45, 46, 47, 48, 49, 50, 51, 52] [0, 1, 2, 3, 52, 4, 5, 6, 7, 8, 9, 10, 11, 12, 13, 14, 15, 16, 17, 18, 19, 20, 21, 22, 23, 24, 25, 26, 27, 28, 29, 30, 31, 32, 33, 34, 35, 36, 37, 38, 39, 40, 41, 42, 43, 44, 45, 46, 47, 48, 49, 50, 51] rfl rfl rfl rfl (by decide) rfl rfl (hi9 ▸ gs_RX2_valueAt) np_valueAt hR hroom rfl hsum d hp kk
theorem bn_pAt1 {Γ : Ctx} {cc : ByteArray} {nL k n pc pc' : Nat} {R0 : Room} {lv : List (Nat × Value)} {st : List Value} {index : Nat} {a : Nat → Nat → Nat} {S : BO} {i v : Int32} (B : CX Γ cc nL RX2 R0) (hR : 1 ≤ R0.frames ∧ 22 ≤ R0.locals) (hroom : k ≤ R0.cells ∧ n ≤ R0.slots) (hsum : (st.map fun v => v.category).sum ≤ 8) (hi9 : index = gv_putAt_idx) (d : decode cc pc = .ok (.invokestatic index, 3)) (hp : pc + 3 = pc') (kk : X Γ nL k n pc' lv st (wB Γ.cs a (S.1, (S.2.1.1, up2 S.2.1.2 1 (pAt 32 (S.2.1.2 1) i v)), S.2.2))) : X Γ nL k n pc lv (.int v :: .int i :: .ref (a 1 2) :: st) (wB Γ.cs a S) :=
  x_GSv (ws' := wB Γ.cs a (S.1, (S.2.1.1, up2 S.2.1.2 1 (pAt 32 (S.2.1.2 1) i v)), S.2.2)) (wr := (wB Γ.cs a S).eraseIdx 4) B [.ref (a 1 2), .int i, .int v] (c_putAt _ _ _ 32 (by decide) (a 1 2) i v (S.2.1.2 1)) [4] [0, 1, 2, 3, 5, 6, 7, 8, 9, 10, 11, 12, 13, 14, 15, 16, 17, 18, 19, 20, 21, 22, 23, 24, 25, 26, 27, 28, 29, 30, 31, 32, 33, 34, 35, 36, 37, 38, 39, 40, 41, 42, 43, 44, 45, 46, 47, 48, 49, 50, 51, 52] [0, 1, 2, 3, 52, 4, 5, 6, 7, 8, 9, 10, 11, 12, 13, 14, 15, 16, 17, 18, 19, 20, 21, 22, 23, 24, 25, 26, 27, 28, 29, 30, 31, 32, 33, 34, 35, 36, 37, 38, 39, 40, 41, 42, 43, 44, 45, 46, 47, 48, 49, 50, 51] rfl rfl rfl rfl (by decide) rfl rfl (hi9 ▸ gs_RX2_putAt) np_putAt hR hroom rfl hsum d hp kk
theorem bn_ref2 {Γ : Ctx} {cc : ByteArray} {nL k n pc pc' : Nat} {own : String} {R0 : Room} {lv : List (Nat × Value)} {st : List Value} {index : Nat} {a : Nat → Nat → Nat} {S : BO} (B : CX Γ cc nL own R0) (hw : Cond.fieldLink own index "DictationBelt$State" "carbons" "[I" ∈ GW) (d : decode cc pc = .ok (.getfield index, 3)) (hp : pc + 3 = pc') (kk : X Γ nL k n pc' lv (.ref (a 1 3) :: st) (wB Γ.cs a S)) : X Γ nL k n pc lv (.ref (a 1 0) :: st) (wB Γ.cs a S) :=
  x_getf B 2 2 rfl rfl inlX1 (by decide) hw rfl d hp kk
theorem bn_ald2 {Γ : Ctx} {cc : ByteArray} {nL k n pc pc' : Nat} {own : String} {R0 : Room} {lv : List (Nat × Value)} {st : List Value} {a : Nat → Nat → Nat} {S : BO} {i : Int32} (B : CX Γ cc nL own R0) (hi : vp_in i 32) (d : decode cc pc = .ok (.iaload, 1)) (hp : pc + 1 = pc') (kk : X Γ nL k n pc' lv (.int (S.2.1.2 2 i.toNatClampNeg) :: st) (wB Γ.cs a S)) : X Γ nL k n pc lv (.int i :: .ref (a 1 3) :: st) (wB Γ.cs a S) :=
  x_iald B 5 rfl hi d hp kk
theorem bn_ast2 {Γ : Ctx} {cc : ByteArray} {nL k n pc pc' : Nat} {own : String} {R0 : Room} {lv : List (Nat × Value)} {st : List Value} {a : Nat → Nat → Nat} {S : BO} {i v : Int32} (B : CX Γ cc nL own R0) (hi : vp_in i 32) (d : decode cc pc = .ok (.iastore, 1)) (hp : pc + 1 = pc') (kk : X Γ nL k n pc' lv st (wB Γ.cs a (S.1, (S.2.1.1, up2 S.2.1.2 2 (upd (S.2.1.2 2) i.toNatClampNeg v)), S.2.2))) : X Γ nL k n pc lv (.int v :: .int i :: .ref (a 1 3) :: st) (wB Γ.cs a S) :=
  x_iast B 5 rfl hi rfl d hp kk
theorem bn_vAt2 {Γ : Ctx} {cc : ByteArray} {nL k n pc pc' : Nat} {R0 : Room} {lv : List (Nat × Value)} {st : List Value} {index : Nat} {a : Nat → Nat → Nat} {S : BO} {i : Int32} (B : CX Γ cc nL RX2 R0) (hR : 1 ≤ R0.frames ∧ 21 ≤ R0.locals) (hroom : k ≤ R0.cells ∧ n ≤ R0.slots) (hsum : (st.map fun v => v.category).sum ≤ 8) (hi9 : index = gv_valueAt_idx) (d : decode cc pc = .ok (.invokestatic index, 3)) (hp : pc + 3 = pc') (kk : X Γ nL k n pc' lv (.int (vAt 32 (S.2.1.2 2) i) :: st) (wB Γ.cs a S)) : X Γ nL k n pc lv (.int i :: .ref (a 1 3) :: st) (wB Γ.cs a S) :=
  x_GSi (ws' := wB Γ.cs a S) (wr := (wB Γ.cs a S).eraseIdx 5) B [.ref (a 1 3), .int i] (c_valueAt _ _ _ 32 (by decide) (a 1 3) i (S.2.1.2 2)) [5] [0, 1, 2, 3, 4, 6, 7, 8, 9, 10, 11, 12, 13, 14, 15, 16, 17, 18, 19, 20, 21, 22, 23, 24, 25, 26, 27, 28, 29, 30, 31, 32, 33, 34, 35, 36, 37, 38, 39, 40, 41, 42, 43, 44, 45, 46, 47, 48, 49, 50, 51, 52] [0, 1, 2, 3, 4, 52, 5, 6, 7, 8, 9, 10, 11, 12, 13, 14, 15, 16, 17, 18, 19, 20, 21, 22, 23, 24, 25, 26, 27, 28, 29, 30, 31, 32, 33, 34, 35, 36, 37, 38, 39, 40, 41, 42, 43, 44, 45, 46, 47, 48, 49, 50, 51] rfl rfl rfl rfl (by decide) rfl rfl (hi9 ▸ gs_RX2_valueAt) np_valueAt hR hroom rfl hsum d hp kk
theorem bn_pAt2 {Γ : Ctx} {cc : ByteArray} {nL k n pc pc' : Nat} {R0 : Room} {lv : List (Nat × Value)} {st : List Value} {index : Nat} {a : Nat → Nat → Nat} {S : BO} {i v : Int32} (B : CX Γ cc nL RX2 R0) (hR : 1 ≤ R0.frames ∧ 22 ≤ R0.locals) (hroom : k ≤ R0.cells ∧ n ≤ R0.slots) (hsum : (st.map fun v => v.category).sum ≤ 8) (hi9 : index = gv_putAt_idx) (d : decode cc pc = .ok (.invokestatic index, 3)) (hp : pc + 3 = pc') (kk : X Γ nL k n pc' lv st (wB Γ.cs a (S.1, (S.2.1.1, up2 S.2.1.2 2 (pAt 32 (S.2.1.2 2) i v)), S.2.2))) : X Γ nL k n pc lv (.int v :: .int i :: .ref (a 1 3) :: st) (wB Γ.cs a S) :=
  x_GSv (ws' := wB Γ.cs a (S.1, (S.2.1.1, up2 S.2.1.2 2 (pAt 32 (S.2.1.2 2) i v)), S.2.2)) (wr := (wB Γ.cs a S).eraseIdx 5) B [.ref (a 1 3), .int i, .int v] (c_putAt _ _ _ 32 (by decide) (a 1 3) i v (S.2.1.2 2)) [5] [0, 1, 2, 3, 4, 6, 7, 8, 9, 10, 11, 12, 13, 14, 15, 16, 17, 18, 19, 20, 21, 22, 23, 24, 25, 26, 27, 28, 29, 30, 31, 32, 33, 34, 35, 36, 37, 38, 39, 40, 41, 42, 43, 44, 45, 46, 47, 48, 49, 50, 51, 52] [0, 1, 2, 3, 4, 52, 5, 6, 7, 8, 9, 10, 11, 12, 13, 14, 15, 16, 17, 18, 19, 20, 21, 22, 23, 24, 25, 26, 27, 28, 29, 30, 31, 32, 33, 34, 35, 36, 37, 38, 39, 40, 41, 42, 43, 44, 45, 46, 47, 48, 49, 50, 51] rfl rfl rfl rfl (by decide) rfl rfl (hi9 ▸ gs_RX2_putAt) np_putAt hR hroom rfl hsum d hp kk
theorem bn_ref3 {Γ : Ctx} {cc : ByteArray} {nL k n pc pc' : Nat} {own : String} {R0 : Room} {lv : List (Nat × Value)} {st : List Value} {index : Nat} {a : Nat → Nat → Nat} {S : BO} (B : CX Γ cc nL own R0) (hw : Cond.fieldLink own index "DictationBelt$State" "order" "[I" ∈ GW) (d : decode cc pc = .ok (.getfield index, 3)) (hp : pc + 3 = pc') (kk : X Γ nL k n pc' lv (.ref (a 1 4) :: st) (wB Γ.cs a S)) : X Γ nL k n pc lv (.ref (a 1 0) :: st) (wB Γ.cs a S) :=
  x_getf B 2 3 rfl rfl inlX1 (by decide) hw rfl d hp kk
theorem bn_ald3 {Γ : Ctx} {cc : ByteArray} {nL k n pc pc' : Nat} {own : String} {R0 : Room} {lv : List (Nat × Value)} {st : List Value} {a : Nat → Nat → Nat} {S : BO} {i : Int32} (B : CX Γ cc nL own R0) (hi : vp_in i 32) (d : decode cc pc = .ok (.iaload, 1)) (hp : pc + 1 = pc') (kk : X Γ nL k n pc' lv (.int (S.2.1.2 3 i.toNatClampNeg) :: st) (wB Γ.cs a S)) : X Γ nL k n pc lv (.int i :: .ref (a 1 4) :: st) (wB Γ.cs a S) :=
  x_iald B 6 rfl hi d hp kk
theorem bn_ast3 {Γ : Ctx} {cc : ByteArray} {nL k n pc pc' : Nat} {own : String} {R0 : Room} {lv : List (Nat × Value)} {st : List Value} {a : Nat → Nat → Nat} {S : BO} {i v : Int32} (B : CX Γ cc nL own R0) (hi : vp_in i 32) (d : decode cc pc = .ok (.iastore, 1)) (hp : pc + 1 = pc') (kk : X Γ nL k n pc' lv st (wB Γ.cs a (S.1, (S.2.1.1, up2 S.2.1.2 3 (upd (S.2.1.2 3) i.toNatClampNeg v)), S.2.2))) : X Γ nL k n pc lv (.int v :: .int i :: .ref (a 1 4) :: st) (wB Γ.cs a S) :=
  x_iast B 6 rfl hi rfl d hp kk
theorem bn_vAt3 {Γ : Ctx} {cc : ByteArray} {nL k n pc pc' : Nat} {R0 : Room} {lv : List (Nat × Value)} {st : List Value} {index : Nat} {a : Nat → Nat → Nat} {S : BO} {i : Int32} (B : CX Γ cc nL RX2 R0) (hR : 1 ≤ R0.frames ∧ 21 ≤ R0.locals) (hroom : k ≤ R0.cells ∧ n ≤ R0.slots) (hsum : (st.map fun v => v.category).sum ≤ 8) (hi9 : index = gv_valueAt_idx) (d : decode cc pc = .ok (.invokestatic index, 3)) (hp : pc + 3 = pc') (kk : X Γ nL k n pc' lv (.int (vAt 32 (S.2.1.2 3) i) :: st) (wB Γ.cs a S)) : X Γ nL k n pc lv (.int i :: .ref (a 1 4) :: st) (wB Γ.cs a S) :=
  x_GSi (ws' := wB Γ.cs a S) (wr := (wB Γ.cs a S).eraseIdx 6) B [.ref (a 1 4), .int i] (c_valueAt _ _ _ 32 (by decide) (a 1 4) i (S.2.1.2 3)) [6] [0, 1, 2, 3, 4, 5, 7, 8, 9, 10, 11, 12, 13, 14, 15, 16, 17, 18, 19, 20, 21, 22, 23, 24, 25, 26, 27, 28, 29, 30, 31, 32, 33, 34, 35, 36, 37, 38, 39, 40, 41, 42, 43, 44, 45, 46, 47, 48, 49, 50, 51, 52] [0, 1, 2, 3, 4, 5, 52, 6, 7, 8, 9, 10, 11, 12, 13, 14, 15, 16, 17, 18, 19, 20, 21, 22, 23, 24, 25, 26, 27, 28, 29, 30, 31, 32, 33, 34, 35, 36, 37, 38, 39, 40, 41, 42, 43, 44, 45, 46, 47, 48, 49, 50, 51] rfl rfl rfl rfl (by decide) rfl rfl (hi9 ▸ gs_RX2_valueAt) np_valueAt hR hroom rfl hsum d hp kk
theorem bn_pAt3 {Γ : Ctx} {cc : ByteArray} {nL k n pc pc' : Nat} {R0 : Room} {lv : List (Nat × Value)} {st : List Value} {index : Nat} {a : Nat → Nat → Nat} {S : BO} {i v : Int32} (B : CX Γ cc nL RX2 R0) (hR : 1 ≤ R0.frames ∧ 22 ≤ R0.locals) (hroom : k ≤ R0.cells ∧ n ≤ R0.slots) (hsum : (st.map fun v => v.category).sum ≤ 8) (hi9 : index = gv_putAt_idx) (d : decode cc pc = .ok (.invokestatic index, 3)) (hp : pc + 3 = pc') (kk : X Γ nL k n pc' lv st (wB Γ.cs a (S.1, (S.2.1.1, up2 S.2.1.2 3 (pAt 32 (S.2.1.2 3) i v)), S.2.2))) : X Γ nL k n pc lv (.int v :: .int i :: .ref (a 1 4) :: st) (wB Γ.cs a S) :=
  x_GSv (ws' := wB Γ.cs a (S.1, (S.2.1.1, up2 S.2.1.2 3 (pAt 32 (S.2.1.2 3) i v)), S.2.2)) (wr := (wB Γ.cs a S).eraseIdx 6) B [.ref (a 1 4), .int i, .int v] (c_putAt _ _ _ 32 (by decide) (a 1 4) i v (S.2.1.2 3)) [6] [0, 1, 2, 3, 4, 5, 7, 8, 9, 10, 11, 12, 13, 14, 15, 16, 17, 18, 19, 20, 21, 22, 23, 24, 25, 26, 27, 28, 29, 30, 31, 32, 33, 34, 35, 36, 37, 38, 39, 40, 41, 42, 43, 44, 45, 46, 47, 48, 49, 50, 51, 52] [0, 1, 2, 3, 4, 5, 52, 6, 7, 8, 9, 10, 11, 12, 13, 14, 15, 16, 17, 18, 19, 20, 21, 22, 23, 24, 25, 26, 27, 28, 29, 30, 31, 32, 33, 34, 35, 36, 37, 38, 39, 40, 41, 42, 43, 44, 45, 46, 47, 48, 49, 50, 51] rfl rfl rfl rfl (by decide) rfl rfl (hi9 ▸ gs_RX2_putAt) np_putAt hR hroom rfl hsum d hp kk
theorem bn_ref5 {Γ : Ctx} {cc : ByteArray} {nL k n pc pc' : Nat} {own : String} {R0 : Room} {lv : List (Nat × Value)} {st : List Value} {index : Nat} {a : Nat → Nat → Nat} {S : BO} (B : CX Γ cc nL own R0) (hw : Cond.fieldLink own index "DictationBelt$State" "flags" "[I" ∈ GW) (d : decode cc pc = .ok (.getfield index, 3)) (hp : pc + 3 = pc') (kk : X Γ nL k n pc' lv (.ref (a 1 5) :: st) (wB Γ.cs a S)) : X Γ nL k n pc lv (.ref (a 1 0) :: st) (wB Γ.cs a S) :=
  x_getf B 2 5 rfl rfl inlX1 (by decide) hw rfl d hp kk
theorem bn_ald5 {Γ : Ctx} {cc : ByteArray} {nL k n pc pc' : Nat} {own : String} {R0 : Room} {lv : List (Nat × Value)} {st : List Value} {a : Nat → Nat → Nat} {S : BO} {i : Int32} (B : CX Γ cc nL own R0) (hi : vp_in i 10) (d : decode cc pc = .ok (.iaload, 1)) (hp : pc + 1 = pc') (kk : X Γ nL k n pc' lv (.int (S.2.1.2 5 i.toNatClampNeg) :: st) (wB Γ.cs a S)) : X Γ nL k n pc lv (.int i :: .ref (a 1 5) :: st) (wB Γ.cs a S) :=
  x_iald B 7 rfl hi d hp kk
theorem bn_ast5 {Γ : Ctx} {cc : ByteArray} {nL k n pc pc' : Nat} {own : String} {R0 : Room} {lv : List (Nat × Value)} {st : List Value} {a : Nat → Nat → Nat} {S : BO} {i v : Int32} (B : CX Γ cc nL own R0) (hi : vp_in i 10) (d : decode cc pc = .ok (.iastore, 1)) (hp : pc + 1 = pc') (kk : X Γ nL k n pc' lv st (wB Γ.cs a (S.1, (S.2.1.1, up2 S.2.1.2 5 (upd (S.2.1.2 5) i.toNatClampNeg v)), S.2.2))) : X Γ nL k n pc lv (.int v :: .int i :: .ref (a 1 5) :: st) (wB Γ.cs a S) :=
  x_iast B 7 rfl hi rfl d hp kk
theorem bn_vAt5 {Γ : Ctx} {cc : ByteArray} {nL k n pc pc' : Nat} {R0 : Room} {lv : List (Nat × Value)} {st : List Value} {index : Nat} {a : Nat → Nat → Nat} {S : BO} {i : Int32} (B : CX Γ cc nL RX2 R0) (hR : 1 ≤ R0.frames ∧ 21 ≤ R0.locals) (hroom : k ≤ R0.cells ∧ n ≤ R0.slots) (hsum : (st.map fun v => v.category).sum ≤ 8) (hi9 : index = gv_valueAt_idx) (d : decode cc pc = .ok (.invokestatic index, 3)) (hp : pc + 3 = pc') (kk : X Γ nL k n pc' lv (.int (vAt 10 (S.2.1.2 5) i) :: st) (wB Γ.cs a S)) : X Γ nL k n pc lv (.int i :: .ref (a 1 5) :: st) (wB Γ.cs a S) :=
  x_GSi (ws' := wB Γ.cs a S) (wr := (wB Γ.cs a S).eraseIdx 7) B [.ref (a 1 5), .int i] (c_valueAt _ _ _ 10 (by decide) (a 1 5) i (S.2.1.2 5)) [7] [0, 1, 2, 3, 4, 5, 6, 8, 9, 10, 11, 12, 13, 14, 15, 16, 17, 18, 19, 20, 21, 22, 23, 24, 25, 26, 27, 28, 29, 30, 31, 32, 33, 34, 35, 36, 37, 38, 39, 40, 41, 42, 43, 44, 45, 46, 47, 48, 49, 50, 51, 52] [0, 1, 2, 3, 4, 5, 6, 52, 7, 8, 9, 10, 11, 12, 13, 14, 15, 16, 17, 18, 19, 20, 21, 22, 23, 24, 25, 26, 27, 28, 29, 30, 31, 32, 33, 34, 35, 36, 37, 38, 39, 40, 41, 42, 43, 44, 45, 46, 47, 48, 49, 50, 51] rfl rfl rfl rfl (by decide) rfl rfl (hi9 ▸ gs_RX2_valueAt) np_valueAt hR hroom rfl hsum d hp kk
theorem bn_pAt5 {Γ : Ctx} {cc : ByteArray} {nL k n pc pc' : Nat} {R0 : Room} {lv : List (Nat × Value)} {st : List Value} {index : Nat} {a : Nat → Nat → Nat} {S : BO} {i v : Int32} (B : CX Γ cc nL RX2 R0) (hR : 1 ≤ R0.frames ∧ 22 ≤ R0.locals) (hroom : k ≤ R0.cells ∧ n ≤ R0.slots) (hsum : (st.map fun v => v.category).sum ≤ 8) (hi9 : index = gv_putAt_idx) (d : decode cc pc = .ok (.invokestatic index, 3)) (hp : pc + 3 = pc') (kk : X Γ nL k n pc' lv st (wB Γ.cs a (S.1, (S.2.1.1, up2 S.2.1.2 5 (pAt 10 (S.2.1.2 5) i v)), S.2.2))) : X Γ nL k n pc lv (.int v :: .int i :: .ref (a 1 5) :: st) (wB Γ.cs a S) :=
  x_GSv (ws' := wB Γ.cs a (S.1, (S.2.1.1, up2 S.2.1.2 5 (pAt 10 (S.2.1.2 5) i v)), S.2.2)) (wr := (wB Γ.cs a S).eraseIdx 7) B [.ref (a 1 5), .int i, .int v] (c_putAt _ _ _ 10 (by decide) (a 1 5) i v (S.2.1.2 5)) [7] [0, 1, 2, 3, 4, 5, 6, 8, 9, 10, 11, 12, 13, 14, 15, 16, 17, 18, 19, 20, 21, 22, 23, 24, 25, 26, 27, 28, 29, 30, 31, 32, 33, 34, 35, 36, 37, 38, 39, 40, 41, 42, 43, 44, 45, 46, 47, 48, 49, 50, 51, 52] [0, 1, 2, 3, 4, 5, 6, 52, 7, 8, 9, 10, 11, 12, 13, 14, 15, 16, 17, 18, 19, 20, 21, 22, 23, 24, 25, 26, 27, 28, 29, 30, 31, 32, 33, 34, 35, 36, 37, 38, 39, 40, 41, 42, 43, 44, 45, 46, 47, 48, 49, 50, 51] rfl rfl rfl rfl (by decide) rfl rfl (hi9 ▸ gs_RX2_putAt) np_putAt hR hroom rfl hsum d hp kk
theorem bn_ref6 {Γ : Ctx} {cc : ByteArray} {nL k n pc pc' : Nat} {own : String} {R0 : Room} {lv : List (Nat × Value)} {st : List Value} {index : Nat} {a : Nat → Nat → Nat} {S : BO} (B : CX Γ cc nL own R0) (hw : Cond.fieldLink own index "DictationBelt$State" "losses" "[I" ∈ GW) (d : decode cc pc = .ok (.getfield index, 3)) (hp : pc + 3 = pc') (kk : X Γ nL k n pc' lv (.ref (a 1 6) :: st) (wB Γ.cs a S)) : X Γ nL k n pc lv (.ref (a 1 0) :: st) (wB Γ.cs a S) :=
  x_getf B 2 6 rfl rfl inlX1 (by decide) hw rfl d hp kk
theorem bn_ald6 {Γ : Ctx} {cc : ByteArray} {nL k n pc pc' : Nat} {own : String} {R0 : Room} {lv : List (Nat × Value)} {st : List Value} {a : Nat → Nat → Nat} {S : BO} {i : Int32} (B : CX Γ cc nL own R0) (hi : vp_in i 10) (d : decode cc pc = .ok (.iaload, 1)) (hp : pc + 1 = pc') (kk : X Γ nL k n pc' lv (.int (S.2.1.2 6 i.toNatClampNeg) :: st) (wB Γ.cs a S)) : X Γ nL k n pc lv (.int i :: .ref (a 1 6) :: st) (wB Γ.cs a S) :=
  x_iald B 8 rfl hi d hp kk
theorem bn_ast6 {Γ : Ctx} {cc : ByteArray} {nL k n pc pc' : Nat} {own : String} {R0 : Room} {lv : List (Nat × Value)} {st : List Value} {a : Nat → Nat → Nat} {S : BO} {i v : Int32} (B : CX Γ cc nL own R0) (hi : vp_in i 10) (d : decode cc pc = .ok (.iastore, 1)) (hp : pc + 1 = pc') (kk : X Γ nL k n pc' lv st (wB Γ.cs a (S.1, (S.2.1.1, up2 S.2.1.2 6 (upd (S.2.1.2 6) i.toNatClampNeg v)), S.2.2))) : X Γ nL k n pc lv (.int v :: .int i :: .ref (a 1 6) :: st) (wB Γ.cs a S) :=
  x_iast B 8 rfl hi rfl d hp kk
theorem bn_vAt6 {Γ : Ctx} {cc : ByteArray} {nL k n pc pc' : Nat} {R0 : Room} {lv : List (Nat × Value)} {st : List Value} {index : Nat} {a : Nat → Nat → Nat} {S : BO} {i : Int32} (B : CX Γ cc nL RX2 R0) (hR : 1 ≤ R0.frames ∧ 21 ≤ R0.locals) (hroom : k ≤ R0.cells ∧ n ≤ R0.slots) (hsum : (st.map fun v => v.category).sum ≤ 8) (hi9 : index = gv_valueAt_idx) (d : decode cc pc = .ok (.invokestatic index, 3)) (hp : pc + 3 = pc') (kk : X Γ nL k n pc' lv (.int (vAt 10 (S.2.1.2 6) i) :: st) (wB Γ.cs a S)) : X Γ nL k n pc lv (.int i :: .ref (a 1 6) :: st) (wB Γ.cs a S) :=
  x_GSi (ws' := wB Γ.cs a S) (wr := (wB Γ.cs a S).eraseIdx 8) B [.ref (a 1 6), .int i] (c_valueAt _ _ _ 10 (by decide) (a 1 6) i (S.2.1.2 6)) [8] [0, 1, 2, 3, 4, 5, 6, 7, 9, 10, 11, 12, 13, 14, 15, 16, 17, 18, 19, 20, 21, 22, 23, 24, 25, 26, 27, 28, 29, 30, 31, 32, 33, 34, 35, 36, 37, 38, 39, 40, 41, 42, 43, 44, 45, 46, 47, 48, 49, 50, 51, 52] [0, 1, 2, 3, 4, 5, 6, 7, 52, 8, 9, 10, 11, 12, 13, 14, 15, 16, 17, 18, 19, 20, 21, 22, 23, 24, 25, 26, 27, 28, 29, 30, 31, 32, 33, 34, 35, 36, 37, 38, 39, 40, 41, 42, 43, 44, 45, 46, 47, 48, 49, 50, 51] rfl rfl rfl rfl (by decide) rfl rfl (hi9 ▸ gs_RX2_valueAt) np_valueAt hR hroom rfl hsum d hp kk
theorem bn_pAt6 {Γ : Ctx} {cc : ByteArray} {nL k n pc pc' : Nat} {R0 : Room} {lv : List (Nat × Value)} {st : List Value} {index : Nat} {a : Nat → Nat → Nat} {S : BO} {i v : Int32} (B : CX Γ cc nL RX2 R0) (hR : 1 ≤ R0.frames ∧ 22 ≤ R0.locals) (hroom : k ≤ R0.cells ∧ n ≤ R0.slots) (hsum : (st.map fun v => v.category).sum ≤ 8) (hi9 : index = gv_putAt_idx) (d : decode cc pc = .ok (.invokestatic index, 3)) (hp : pc + 3 = pc') (kk : X Γ nL k n pc' lv st (wB Γ.cs a (S.1, (S.2.1.1, up2 S.2.1.2 6 (pAt 10 (S.2.1.2 6) i v)), S.2.2))) : X Γ nL k n pc lv (.int v :: .int i :: .ref (a 1 6) :: st) (wB Γ.cs a S) :=
  x_GSv (ws' := wB Γ.cs a (S.1, (S.2.1.1, up2 S.2.1.2 6 (pAt 10 (S.2.1.2 6) i v)), S.2.2)) (wr := (wB Γ.cs a S).eraseIdx 8) B [.ref (a 1 6), .int i, .int v] (c_putAt _ _ _ 10 (by decide) (a 1 6) i v (S.2.1.2 6)) [8] [0, 1, 2, 3, 4, 5, 6, 7, 9, 10, 11, 12, 13, 14, 15, 16, 17, 18, 19, 20, 21, 22, 23, 24, 25, 26, 27, 28, 29, 30, 31, 32, 33, 34, 35, 36, 37, 38, 39, 40, 41, 42, 43, 44, 45, 46, 47, 48, 49, 50, 51, 52] [0, 1, 2, 3, 4, 5, 6, 7, 52, 8, 9, 10, 11, 12, 13, 14, 15, 16, 17, 18, 19, 20, 21, 22, 23, 24, 25, 26, 27, 28, 29, 30, 31, 32, 33, 34, 35, 36, 37, 38, 39, 40, 41, 42, 43, 44, 45, 46, 47, 48, 49, 50, 51] rfl rfl rfl rfl (by decide) rfl rfl (hi9 ▸ gs_RX2_putAt) np_putAt hR hroom rfl hsum d hp kk
theorem bt_get1 {Γ : Ctx} {cc : ByteArray} {nL k n pc pc' : Nat} {own : String} {R0 : Room} {lv : List (Nat × Value)} {st : List Value} {index : Nat} {a : Nat → Nat → Nat} {S : BO} (B : CX Γ cc nL own R0) (hw : Cond.fieldLink own index "DictationBelt$OrderText" "length" "I" ∈ GW) (d : decode cc pc = .ok (.getfield index, 3)) (hp : pc + 3 = pc') (kk : X Γ nL k n pc' lv (.int (S.2.2.2.1 1) :: st) (wB Γ.cs a S)) : X Γ nL k n pc lv (.ref (a 2 0) :: st) (wB Γ.cs a S) :=
  x_getf B 9 1 rfl rfl inlX0 (by decide) hw rfl d hp kk
theorem bt_put1 {Γ : Ctx} {cc : ByteArray} {nL k n pc pc' : Nat} {own : String} {R0 : Room} {lv : List (Nat × Value)} {st : List Value} {index : Nat} {a : Nat → Nat → Nat} {S : BO} {v : Int32} (B : CX Γ cc nL own R0) (hw : Cond.fieldLink own index "DictationBelt$OrderText" "length" "I" ∈ GW) (d : decode cc pc = .ok (.putfield index, 3)) (hp : pc + 3 = pc') (kk : X Γ nL k n pc' lv st (wB Γ.cs a (S.1, S.2.1, S.2.2.1, (upd S.2.2.2.1 1 v, S.2.2.2.2)))) : X Γ nL k n pc lv (.int v :: .ref (a 2 0) :: st) (wB Γ.cs a S) :=
  x_putf B 9 1 tyX0 tyX0_ok nmX0 rfl rfl inlX0 (by decide) hw rfl rfl rfl (Nat.le_of_ble_eq_true rfl) rfl d hp kk
theorem bt_ref0 {Γ : Ctx} {cc : ByteArray} {nL k n pc pc' : Nat} {own : String} {R0 : Room} {lv : List (Nat × Value)} {st : List Value} {index : Nat} {a : Nat → Nat → Nat} {S : BO} (B : CX Γ cc nL own R0) (hw : Cond.fieldLink own index "DictationBelt$OrderText" "codes" "[I" ∈ GW) (d : decode cc pc = .ok (.getfield index, 3)) (hp : pc + 3 = pc') (kk : X Γ nL k n pc' lv (.ref (a 2 1) :: st) (wB Γ.cs a S)) : X Γ nL k n pc lv (.ref (a 2 0) :: st) (wB Γ.cs a S) :=
  x_getf B 9 0 rfl rfl inlX0 (by decide) hw rfl d hp kk
theorem bt_ald0 {Γ : Ctx} {cc : ByteArray} {nL k n pc pc' : Nat} {own : String} {R0 : Room} {lv : List (Nat × Value)} {st : List Value} {a : Nat → Nat → Nat} {S : BO} {i : Int32} (B : CX Γ cc nL own R0) (hi : vp_in i 60) (d : decode cc pc = .ok (.iaload, 1)) (hp : pc + 1 = pc') (kk : X Γ nL k n pc' lv (.int (S.2.2.2.2 0 i.toNatClampNeg) :: st) (wB Γ.cs a S)) : X Γ nL k n pc lv (.int i :: .ref (a 2 1) :: st) (wB Γ.cs a S) :=
  x_iald B 10 rfl hi d hp kk
theorem bt_ast0 {Γ : Ctx} {cc : ByteArray} {nL k n pc pc' : Nat} {own : String} {R0 : Room} {lv : List (Nat × Value)} {st : List Value} {a : Nat → Nat → Nat} {S : BO} {i v : Int32} (B : CX Γ cc nL own R0) (hi : vp_in i 60) (d : decode cc pc = .ok (.iastore, 1)) (hp : pc + 1 = pc') (kk : X Γ nL k n pc' lv st (wB Γ.cs a (S.1, S.2.1, S.2.2.1, (S.2.2.2.1, up2 S.2.2.2.2 0 (upd (S.2.2.2.2 0) i.toNatClampNeg v))))) : X Γ nL k n pc lv (.int v :: .int i :: .ref (a 2 1) :: st) (wB Γ.cs a S) :=
  x_iast B 10 rfl hi rfl d hp kk
theorem bt_vAt0 {Γ : Ctx} {cc : ByteArray} {nL k n pc pc' : Nat} {R0 : Room} {lv : List (Nat × Value)} {st : List Value} {index : Nat} {a : Nat → Nat → Nat} {S : BO} {i : Int32} (B : CX Γ cc nL RX2 R0) (hR : 1 ≤ R0.frames ∧ 21 ≤ R0.locals) (hroom : k ≤ R0.cells ∧ n ≤ R0.slots) (hsum : (st.map fun v => v.category).sum ≤ 8) (hi9 : index = gv_valueAt_idx) (d : decode cc pc = .ok (.invokestatic index, 3)) (hp : pc + 3 = pc') (kk : X Γ nL k n pc' lv (.int (vAt 60 (S.2.2.2.2 0) i) :: st) (wB Γ.cs a S)) : X Γ nL k n pc lv (.int i :: .ref (a 2 1) :: st) (wB Γ.cs a S) :=
  x_GSi (ws' := wB Γ.cs a S) (wr := (wB Γ.cs a S).eraseIdx 10) B [.ref (a 2 1), .int i] (c_valueAt _ _ _ 60 (by decide) (a 2 1) i (S.2.2.2.2 0)) [10] [0, 1, 2, 3, 4, 5, 6, 7, 8, 9, 11, 12, 13, 14, 15, 16, 17, 18, 19, 20, 21, 22, 23, 24, 25, 26, 27, 28, 29, 30, 31, 32, 33, 34, 35, 36, 37, 38, 39, 40, 41, 42, 43, 44, 45, 46, 47, 48, 49, 50, 51, 52] [0, 1, 2, 3, 4, 5, 6, 7, 8, 9, 52, 10, 11, 12, 13, 14, 15, 16, 17, 18, 19, 20, 21, 22, 23, 24, 25, 26, 27, 28, 29, 30, 31, 32, 33, 34, 35, 36, 37, 38, 39, 40, 41, 42, 43, 44, 45, 46, 47, 48, 49, 50, 51] rfl rfl rfl rfl (by decide) rfl rfl (hi9 ▸ gs_RX2_valueAt) np_valueAt hR hroom rfl hsum d hp kk
theorem bt_pAt0 {Γ : Ctx} {cc : ByteArray} {nL k n pc pc' : Nat} {R0 : Room} {lv : List (Nat × Value)} {st : List Value} {index : Nat} {a : Nat → Nat → Nat} {S : BO} {i v : Int32} (B : CX Γ cc nL RX2 R0) (hR : 1 ≤ R0.frames ∧ 22 ≤ R0.locals) (hroom : k ≤ R0.cells ∧ n ≤ R0.slots) (hsum : (st.map fun v => v.category).sum ≤ 8) (hi9 : index = gv_putAt_idx) (d : decode cc pc = .ok (.invokestatic index, 3)) (hp : pc + 3 = pc') (kk : X Γ nL k n pc' lv st (wB Γ.cs a (S.1, S.2.1, S.2.2.1, (S.2.2.2.1, up2 S.2.2.2.2 0 (pAt 60 (S.2.2.2.2 0) i v))))) : X Γ nL k n pc lv (.int v :: .int i :: .ref (a 2 1) :: st) (wB Γ.cs a S) :=
  x_GSv (ws' := wB Γ.cs a (S.1, S.2.1, S.2.2.1, (S.2.2.2.1, up2 S.2.2.2.2 0 (pAt 60 (S.2.2.2.2 0) i v)))) (wr := (wB Γ.cs a S).eraseIdx 10) B [.ref (a 2 1), .int i, .int v] (c_putAt _ _ _ 60 (by decide) (a 2 1) i v (S.2.2.2.2 0)) [10] [0, 1, 2, 3, 4, 5, 6, 7, 8, 9, 11, 12, 13, 14, 15, 16, 17, 18, 19, 20, 21, 22, 23, 24, 25, 26, 27, 28, 29, 30, 31, 32, 33, 34, 35, 36, 37, 38, 39, 40, 41, 42, 43, 44, 45, 46, 47, 48, 49, 50, 51, 52] [0, 1, 2, 3, 4, 5, 6, 7, 8, 9, 52, 10, 11, 12, 13, 14, 15, 16, 17, 18, 19, 20, 21, 22, 23, 24, 25, 26, 27, 28, 29, 30, 31, 32, 33, 34, 35, 36, 37, 38, 39, 40, 41, 42, 43, 44, 45, 46, 47, 48, 49, 50, 51] rfl rfl rfl rfl (by decide) rfl rfl (hi9 ▸ gs_RX2_putAt) np_putAt hR hroom rfl hsum d hp kk
end
section
theorem dX0_init_0 : decode cX0_init 0 = .ok (.aload_n 0, 1) := by decide +kernel
theorem dX0_init_1 : decode cX0_init 1 = .ok (.invokespecial 3, 3) := by decide +kernel
theorem dX0_init_4 : decode cX0_init 4 = .ok (.aload_n 0, 1) := by decide +kernel
theorem dX0_init_5 : decode cX0_init 5 = .ok (.bipush 60, 2) := by decide +kernel
theorem dX0_init_7 : decode cX0_init 7 = .ok (.newarray .int, 2) := by decide +kernel
theorem dX0_init_9 : decode cX0_init 9 = .ok (.putfield 9, 3) := by decide +kernel
theorem dX0_init_12 : decode cX0_init 12 = .ok (.aload_n 0, 1) := by decide +kernel
theorem dX0_init_13 : decode cX0_init 13 = .ok (.iconst 0, 1) := by decide +kernel
theorem dX0_init_14 : decode cX0_init 14 = .ok (.putfield 15, 3) := by decide +kernel
theorem dX0_init_17 : decode cX0_init 17 = .ok (.return_, 1) := by decide +kernel
end
section
theorem dX1_init_0 : decode cX1_init 0 = .ok (.aload_n 0, 1) := by decide +kernel
theorem dX1_init_1 : decode cX1_init 1 = .ok (.invokespecial 3, 3) := by decide +kernel
theorem dX1_init_4 : decode cX1_init 4 = .ok (.aload_n 0, 1) := by decide +kernel
theorem dX1_init_5 : decode cX1_init 5 = .ok (.bipush 32, 2) := by decide +kernel
theorem dX1_init_7 : decode cX1_init 7 = .ok (.newarray .int, 2) := by decide +kernel
theorem dX1_init_9 : decode cX1_init 9 = .ok (.putfield 9, 3) := by decide +kernel
theorem dX1_init_12 : decode cX1_init 12 = .ok (.iconst 0, 1) := by decide +kernel
theorem dX1_init_13 : decode cX1_init 13 = .ok (.istore_n 1, 1) := by decide +kernel
theorem dX1_init_14 : decode cX1_init 14 = .ok (.iload_n 1, 1) := by decide +kernel
theorem dX1_init_15 : decode cX1_init 15 = .ok (.bipush 32, 2) := by decide +kernel
theorem dX1_init_17 : decode cX1_init 17 = .ok (.if_icmp .ge 16, 3) := by decide +kernel
theorem dX1_init_20 : decode cX1_init 20 = .ok (.aload_n 0, 1) := by decide +kernel
theorem dX1_init_21 : decode cX1_init 21 = .ok (.getfield 9, 3) := by decide +kernel
theorem dX1_init_24 : decode cX1_init 24 = .ok (.iload_n 1, 1) := by decide +kernel
theorem dX1_init_25 : decode cX1_init 25 = .ok (.iconst (-1), 1) := by decide +kernel
theorem dX1_init_26 : decode cX1_init 26 = .ok (.iastore, 1) := by decide +kernel
theorem dX1_init_27 : decode cX1_init 27 = .ok (.iinc 1 1, 3) := by decide +kernel
theorem dX1_init_30 : decode cX1_init 30 = .ok (.goto (-16), 3) := by decide +kernel
theorem dX1_init_33 : decode cX1_init 33 = .ok (.aload_n 0, 1) := by decide +kernel
theorem dX1_init_34 : decode cX1_init 34 = .ok (.bipush 32, 2) := by decide +kernel
theorem dX1_init_36 : decode cX1_init 36 = .ok (.newarray .int, 2) := by decide +kernel
theorem dX1_init_38 : decode cX1_init 38 = .ok (.putfield 15, 3) := by decide +kernel
theorem dX1_init_41 : decode cX1_init 41 = .ok (.aload_n 0, 1) := by decide +kernel
theorem dX1_init_42 : decode cX1_init 42 = .ok (.bipush 32, 2) := by decide +kernel
theorem dX1_init_44 : decode cX1_init 44 = .ok (.newarray .int, 2) := by decide +kernel
theorem dX1_init_46 : decode cX1_init 46 = .ok (.putfield 18, 3) := by decide +kernel
theorem dX1_init_49 : decode cX1_init 49 = .ok (.aload_n 0, 1) := by decide +kernel
theorem dX1_init_50 : decode cX1_init 50 = .ok (.bipush 32, 2) := by decide +kernel
theorem dX1_init_52 : decode cX1_init 52 = .ok (.newarray .int, 2) := by decide +kernel
theorem dX1_init_54 : decode cX1_init 54 = .ok (.putfield 21, 3) := by decide +kernel
theorem dX1_init_57 : decode cX1_init 57 = .ok (.aload_n 0, 1) := by decide +kernel
theorem dX1_init_58 : decode cX1_init 58 = .ok (.iconst 0, 1) := by decide +kernel
theorem dX1_init_59 : decode cX1_init 59 = .ok (.putfield 24, 3) := by decide +kernel
theorem dX1_init_62 : decode cX1_init 62 = .ok (.aload_n 0, 1) := by decide +kernel
theorem dX1_init_63 : decode cX1_init 63 = .ok (.bipush 10, 2) := by decide +kernel
theorem dX1_init_65 : decode cX1_init 65 = .ok (.newarray .int, 2) := by decide +kernel
theorem dX1_init_67 : decode cX1_init 67 = .ok (.putfield 28, 3) := by decide +kernel
theorem dX1_init_70 : decode cX1_init 70 = .ok (.aload_n 0, 1) := by decide +kernel
theorem dX1_init_71 : decode cX1_init 71 = .ok (.bipush 10, 2) := by decide +kernel
theorem dX1_init_73 : decode cX1_init 73 = .ok (.newarray .int, 2) := by decide +kernel
theorem dX1_init_75 : decode cX1_init 75 = .ok (.putfield 31, 3) := by decide +kernel
theorem dX1_init_78 : decode cX1_init 78 = .ok (.aload_n 0, 1) := by decide +kernel
theorem dX1_init_79 : decode cX1_init 79 = .ok (.iconst 0, 1) := by decide +kernel
theorem dX1_init_80 : decode cX1_init 80 = .ok (.putfield 34, 3) := by decide +kernel
theorem dX1_init_83 : decode cX1_init 83 = .ok (.aload_n 0, 1) := by decide +kernel
theorem dX1_init_84 : decode cX1_init 84 = .ok (.iconst 0, 1) := by decide +kernel
theorem dX1_init_85 : decode cX1_init 85 = .ok (.putfield 37, 3) := by decide +kernel
theorem dX1_init_88 : decode cX1_init 88 = .ok (.aload_n 0, 1) := by decide +kernel
theorem dX1_init_89 : decode cX1_init 89 = .ok (.iconst 0, 1) := by decide +kernel
theorem dX1_init_90 : decode cX1_init 90 = .ok (.putfield 41, 3) := by decide +kernel
theorem dX1_init_93 : decode cX1_init 93 = .ok (.aload_n 0, 1) := by decide +kernel
theorem dX1_init_94 : decode cX1_init 94 = .ok (.iconst 0, 1) := by decide +kernel
theorem dX1_init_95 : decode cX1_init 95 = .ok (.putfield 44, 3) := by decide +kernel
theorem dX1_init_98 : decode cX1_init 98 = .ok (.aload_n 0, 1) := by decide +kernel
theorem dX1_init_99 : decode cX1_init 99 = .ok (.iconst 0, 1) := by decide +kernel
theorem dX1_init_100 : decode cX1_init 100 = .ok (.putfield 47, 3) := by decide +kernel
theorem dX1_init_103 : decode cX1_init 103 = .ok (.aload_n 0, 1) := by decide +kernel
theorem dX1_init_104 : decode cX1_init 104 = .ok (.iconst (-1), 1) := by decide +kernel
theorem dX1_init_105 : decode cX1_init 105 = .ok (.putfield 50, 3) := by decide +kernel
theorem dX1_init_108 : decode cX1_init 108 = .ok (.aload_n 0, 1) := by decide +kernel
theorem dX1_init_109 : decode cX1_init 109 = .ok (.iconst (-1), 1) := by decide +kernel
theorem dX1_init_110 : decode cX1_init 110 = .ok (.putfield 53, 3) := by decide +kernel
theorem dX1_init_113 : decode cX1_init 113 = .ok (.return_, 1) := by decide +kernel
theorem dX1_copyFrom_0 : decode cX1_copyFrom 0 = .ok (.aload_n 1, 1) := by decide +kernel
theorem dX1_copyFrom_1 : decode cX1_copyFrom 1 = .ok (.getfield 9, 3) := by decide +kernel
theorem dX1_copyFrom_4 : decode cX1_copyFrom 4 = .ok (.iconst 0, 1) := by decide +kernel
theorem dX1_copyFrom_5 : decode cX1_copyFrom 5 = .ok (.aload_n 0, 1) := by decide +kernel
theorem dX1_copyFrom_6 : decode cX1_copyFrom 6 = .ok (.getfield 9, 3) := by decide +kernel
theorem dX1_copyFrom_9 : decode cX1_copyFrom 9 = .ok (.iconst 0, 1) := by decide +kernel
theorem dX1_copyFrom_10 : decode cX1_copyFrom 10 = .ok (.bipush 32, 2) := by decide +kernel
theorem dX1_copyFrom_12 : decode cX1_copyFrom 12 = .ok (.invokestatic 56, 3) := by decide +kernel
theorem dX1_copyFrom_15 : decode cX1_copyFrom 15 = .ok (.aload_n 1, 1) := by decide +kernel
theorem dX1_copyFrom_16 : decode cX1_copyFrom 16 = .ok (.getfield 15, 3) := by decide +kernel
theorem dX1_copyFrom_19 : decode cX1_copyFrom 19 = .ok (.iconst 0, 1) := by decide +kernel
theorem dX1_copyFrom_20 : decode cX1_copyFrom 20 = .ok (.aload_n 0, 1) := by decide +kernel
theorem dX1_copyFrom_21 : decode cX1_copyFrom 21 = .ok (.getfield 15, 3) := by decide +kernel
theorem dX1_copyFrom_24 : decode cX1_copyFrom 24 = .ok (.iconst 0, 1) := by decide +kernel
theorem dX1_copyFrom_25 : decode cX1_copyFrom 25 = .ok (.bipush 32, 2) := by decide +kernel
theorem dX1_copyFrom_27 : decode cX1_copyFrom 27 = .ok (.invokestatic 56, 3) := by decide +kernel
theorem dX1_copyFrom_30 : decode cX1_copyFrom 30 = .ok (.aload_n 1, 1) := by decide +kernel
theorem dX1_copyFrom_31 : decode cX1_copyFrom 31 = .ok (.getfield 18, 3) := by decide +kernel
theorem dX1_copyFrom_34 : decode cX1_copyFrom 34 = .ok (.iconst 0, 1) := by decide +kernel
theorem dX1_copyFrom_35 : decode cX1_copyFrom 35 = .ok (.aload_n 0, 1) := by decide +kernel
theorem dX1_copyFrom_36 : decode cX1_copyFrom 36 = .ok (.getfield 18, 3) := by decide +kernel
theorem dX1_copyFrom_39 : decode cX1_copyFrom 39 = .ok (.iconst 0, 1) := by decide +kernel
theorem dX1_copyFrom_40 : decode cX1_copyFrom 40 = .ok (.bipush 32, 2) := by decide +kernel
theorem dX1_copyFrom_42 : decode cX1_copyFrom 42 = .ok (.invokestatic 56, 3) := by decide +kernel
theorem dX1_copyFrom_45 : decode cX1_copyFrom 45 = .ok (.aload_n 1, 1) := by decide +kernel
theorem dX1_copyFrom_46 : decode cX1_copyFrom 46 = .ok (.getfield 21, 3) := by decide +kernel
theorem dX1_copyFrom_49 : decode cX1_copyFrom 49 = .ok (.iconst 0, 1) := by decide +kernel
theorem dX1_copyFrom_50 : decode cX1_copyFrom 50 = .ok (.aload_n 0, 1) := by decide +kernel
theorem dX1_copyFrom_51 : decode cX1_copyFrom 51 = .ok (.getfield 21, 3) := by decide +kernel
theorem dX1_copyFrom_54 : decode cX1_copyFrom 54 = .ok (.iconst 0, 1) := by decide +kernel
theorem dX1_copyFrom_55 : decode cX1_copyFrom 55 = .ok (.bipush 32, 2) := by decide +kernel
theorem dX1_copyFrom_57 : decode cX1_copyFrom 57 = .ok (.invokestatic 56, 3) := by decide +kernel
theorem dX1_copyFrom_60 : decode cX1_copyFrom 60 = .ok (.aload_n 0, 1) := by decide +kernel
theorem dX1_copyFrom_61 : decode cX1_copyFrom 61 = .ok (.aload_n 1, 1) := by decide +kernel
theorem dX1_copyFrom_62 : decode cX1_copyFrom 62 = .ok (.getfield 24, 3) := by decide +kernel
theorem dX1_copyFrom_65 : decode cX1_copyFrom 65 = .ok (.putfield 24, 3) := by decide +kernel
theorem dX1_copyFrom_68 : decode cX1_copyFrom 68 = .ok (.aload_n 1, 1) := by decide +kernel
theorem dX1_copyFrom_69 : decode cX1_copyFrom 69 = .ok (.getfield 28, 3) := by decide +kernel
theorem dX1_copyFrom_72 : decode cX1_copyFrom 72 = .ok (.iconst 0, 1) := by decide +kernel
theorem dX1_copyFrom_73 : decode cX1_copyFrom 73 = .ok (.aload_n 0, 1) := by decide +kernel
theorem dX1_copyFrom_74 : decode cX1_copyFrom 74 = .ok (.getfield 28, 3) := by decide +kernel
theorem dX1_copyFrom_77 : decode cX1_copyFrom 77 = .ok (.iconst 0, 1) := by decide +kernel
theorem dX1_copyFrom_78 : decode cX1_copyFrom 78 = .ok (.bipush 10, 2) := by decide +kernel
theorem dX1_copyFrom_80 : decode cX1_copyFrom 80 = .ok (.invokestatic 56, 3) := by decide +kernel
theorem dX1_copyFrom_83 : decode cX1_copyFrom 83 = .ok (.aload_n 1, 1) := by decide +kernel
theorem dX1_copyFrom_84 : decode cX1_copyFrom 84 = .ok (.getfield 31, 3) := by decide +kernel
theorem dX1_copyFrom_87 : decode cX1_copyFrom 87 = .ok (.iconst 0, 1) := by decide +kernel
theorem dX1_copyFrom_88 : decode cX1_copyFrom 88 = .ok (.aload_n 0, 1) := by decide +kernel
theorem dX1_copyFrom_89 : decode cX1_copyFrom 89 = .ok (.getfield 31, 3) := by decide +kernel
theorem dX1_copyFrom_92 : decode cX1_copyFrom 92 = .ok (.iconst 0, 1) := by decide +kernel
theorem dX1_copyFrom_93 : decode cX1_copyFrom 93 = .ok (.bipush 10, 2) := by decide +kernel
theorem dX1_copyFrom_95 : decode cX1_copyFrom 95 = .ok (.invokestatic 56, 3) := by decide +kernel
theorem dX1_copyFrom_98 : decode cX1_copyFrom 98 = .ok (.aload_n 0, 1) := by decide +kernel
theorem dX1_copyFrom_99 : decode cX1_copyFrom 99 = .ok (.aload_n 1, 1) := by decide +kernel
theorem dX1_copyFrom_100 : decode cX1_copyFrom 100 = .ok (.getfield 34, 3) := by decide +kernel
theorem dX1_copyFrom_103 : decode cX1_copyFrom 103 = .ok (.putfield 34, 3) := by decide +kernel
theorem dX1_copyFrom_106 : decode cX1_copyFrom 106 = .ok (.aload_n 0, 1) := by decide +kernel
theorem dX1_copyFrom_107 : decode cX1_copyFrom 107 = .ok (.aload_n 1, 1) := by decide +kernel
theorem dX1_copyFrom_108 : decode cX1_copyFrom 108 = .ok (.getfield 37, 3) := by decide +kernel
theorem dX1_copyFrom_111 : decode cX1_copyFrom 111 = .ok (.putfield 37, 3) := by decide +kernel
theorem dX1_copyFrom_114 : decode cX1_copyFrom 114 = .ok (.aload_n 0, 1) := by decide +kernel
theorem dX1_copyFrom_115 : decode cX1_copyFrom 115 = .ok (.aload_n 1, 1) := by decide +kernel
theorem dX1_copyFrom_116 : decode cX1_copyFrom 116 = .ok (.getfield 41, 3) := by decide +kernel
theorem dX1_copyFrom_119 : decode cX1_copyFrom 119 = .ok (.putfield 41, 3) := by decide +kernel
theorem dX1_copyFrom_122 : decode cX1_copyFrom 122 = .ok (.aload_n 0, 1) := by decide +kernel
theorem dX1_copyFrom_123 : decode cX1_copyFrom 123 = .ok (.aload_n 1, 1) := by decide +kernel
theorem dX1_copyFrom_124 : decode cX1_copyFrom 124 = .ok (.getfield 44, 3) := by decide +kernel
theorem dX1_copyFrom_127 : decode cX1_copyFrom 127 = .ok (.putfield 44, 3) := by decide +kernel
theorem dX1_copyFrom_130 : decode cX1_copyFrom 130 = .ok (.aload_n 0, 1) := by decide +kernel
theorem dX1_copyFrom_131 : decode cX1_copyFrom 131 = .ok (.aload_n 1, 1) := by decide +kernel
theorem dX1_copyFrom_132 : decode cX1_copyFrom 132 = .ok (.getfield 47, 3) := by decide +kernel
theorem dX1_copyFrom_135 : decode cX1_copyFrom 135 = .ok (.putfield 47, 3) := by decide +kernel
theorem dX1_copyFrom_138 : decode cX1_copyFrom 138 = .ok (.aload_n 0, 1) := by decide +kernel
theorem dX1_copyFrom_139 : decode cX1_copyFrom 139 = .ok (.aload_n 1, 1) := by decide +kernel
theorem dX1_copyFrom_140 : decode cX1_copyFrom 140 = .ok (.getfield 50, 3) := by decide +kernel
theorem dX1_copyFrom_143 : decode cX1_copyFrom 143 = .ok (.putfield 50, 3) := by decide +kernel
theorem dX1_copyFrom_146 : decode cX1_copyFrom 146 = .ok (.aload_n 0, 1) := by decide +kernel
theorem dX1_copyFrom_147 : decode cX1_copyFrom 147 = .ok (.aload_n 1, 1) := by decide +kernel
theorem dX1_copyFrom_148 : decode cX1_copyFrom 148 = .ok (.getfield 53, 3) := by decide +kernel
theorem dX1_copyFrom_151 : decode cX1_copyFrom 151 = .ok (.putfield 53, 3) := by decide +kernel
theorem dX1_copyFrom_154 : decode cX1_copyFrom 154 = .ok (.return_, 1) := by decide +kernel
theorem dX1_isRecording_0 : decode cX1_isRecording 0 = .ok (.iload_n 1, 1) := by decide +kernel
theorem dX1_isRecording_1 : decode cX1_isRecording 1 = .ok (.ifCond .lt 15, 3) := by decide +kernel
theorem dX1_isRecording_4 : decode cX1_isRecording 4 = .ok (.iload_n 1, 1) := by decide +kernel
theorem dX1_isRecording_5 : decode cX1_isRecording 5 = .ok (.aload_n 0, 1) := by decide +kernel
theorem dX1_isRecording_6 : decode cX1_isRecording 6 = .ok (.getfield 34, 3) := by decide +kernel
theorem dX1_isRecording_9 : decode cX1_isRecording 9 = .ok (.if_icmp .ge 7, 3) := by decide +kernel
theorem dX1_isRecording_12 : decode cX1_isRecording 12 = .ok (.iconst 1, 1) := by decide +kernel
theorem dX1_isRecording_13 : decode cX1_isRecording 13 = .ok (.goto 4, 3) := by decide +kernel
theorem dX1_isRecording_16 : decode cX1_isRecording 16 = .ok (.iconst 0, 1) := by decide +kernel
theorem dX1_isRecording_17 : decode cX1_isRecording 17 = .ok (.ireturn, 1) := by decide +kernel
theorem dX1_runningNumber_0 : decode cX1_runningNumber 0 = .ok (.aload_n 0, 1) := by decide +kernel
theorem dX1_runningNumber_1 : decode cX1_runningNumber 1 = .ok (.getfield 37, 3) := by decide +kernel
theorem dX1_runningNumber_4 : decode cX1_runningNumber 4 = .ok (.ifCond .eq 12, 3) := by decide +kernel
theorem dX1_runningNumber_7 : decode cX1_runningNumber 7 = .ok (.aload_n 0, 1) := by decide +kernel
theorem dX1_runningNumber_8 : decode cX1_runningNumber 8 = .ok (.getfield 34, 3) := by decide +kernel
theorem dX1_runningNumber_11 : decode cX1_runningNumber 11 = .ok (.iconst 1, 1) := by decide +kernel
theorem dX1_runningNumber_12 : decode cX1_runningNumber 12 = .ok (.isub, 1) := by decide +kernel
theorem dX1_runningNumber_13 : decode cX1_runningNumber 13 = .ok (.goto 4, 3) := by decide +kernel
theorem dX1_runningNumber_16 : decode cX1_runningNumber 16 = .ok (.iconst (-1), 1) := by decide +kernel
theorem dX1_runningNumber_17 : decode cX1_runningNumber 17 = .ok (.ireturn, 1) := by decide +kernel
theorem dX1_isFlagged_0 : decode cX1_isFlagged 0 = .ok (.aload_n 0, 1) := by decide +kernel
theorem dX1_isFlagged_1 : decode cX1_isFlagged 1 = .ok (.getfield 28, 3) := by decide +kernel
theorem dX1_isFlagged_4 : decode cX1_isFlagged 4 = .ok (.iload_n 1, 1) := by decide +kernel
theorem dX1_isFlagged_5 : decode cX1_isFlagged 5 = .ok (.invokestatic 62, 3) := by decide +kernel
theorem dX1_isFlagged_8 : decode cX1_isFlagged 8 = .ok (.iconst 1, 1) := by decide +kernel
theorem dX1_isFlagged_9 : decode cX1_isFlagged 9 = .ok (.if_icmp .ne 7, 3) := by decide +kernel
theorem dX1_isFlagged_12 : decode cX1_isFlagged 12 = .ok (.iconst 1, 1) := by decide +kernel
theorem dX1_isFlagged_13 : decode cX1_isFlagged 13 = .ok (.goto 4, 3) := by decide +kernel
theorem dX1_isFlagged_16 : decode cX1_isFlagged 16 = .ok (.iconst 0, 1) := by decide +kernel
theorem dX1_isFlagged_17 : decode cX1_isFlagged 17 = .ok (.ireturn, 1) := by decide +kernel
theorem dX1_putFlag_0 : decode cX1_putFlag 0 = .ok (.aload_n 0, 1) := by decide +kernel
theorem dX1_putFlag_1 : decode cX1_putFlag 1 = .ok (.getfield 28, 3) := by decide +kernel
theorem dX1_putFlag_4 : decode cX1_putFlag 4 = .ok (.iload_n 1, 1) := by decide +kernel
theorem dX1_putFlag_5 : decode cX1_putFlag 5 = .ok (.iload_n 2, 1) := by decide +kernel
theorem dX1_putFlag_6 : decode cX1_putFlag 6 = .ok (.ifCond .eq 7, 3) := by decide +kernel
theorem dX1_putFlag_9 : decode cX1_putFlag 9 = .ok (.iconst 1, 1) := by decide +kernel
theorem dX1_putFlag_10 : decode cX1_putFlag 10 = .ok (.goto 4, 3) := by decide +kernel
theorem dX1_putFlag_13 : decode cX1_putFlag 13 = .ok (.iconst 0, 1) := by decide +kernel
theorem dX1_putFlag_14 : decode cX1_putFlag 14 = .ok (.invokestatic 66, 3) := by decide +kernel
theorem dX1_putFlag_17 : decode cX1_putFlag 17 = .ok (.return_, 1) := by decide +kernel
theorem dX1_cellCount_0 : decode cX1_cellCount 0 = .ok (.iconst 0, 1) := by decide +kernel
theorem dX1_cellCount_1 : decode cX1_cellCount 1 = .ok (.istore_n 2, 1) := by decide +kernel
theorem dX1_cellCount_2 : decode cX1_cellCount 2 = .ok (.iconst 0, 1) := by decide +kernel
theorem dX1_cellCount_3 : decode cX1_cellCount 3 = .ok (.istore_n 3, 1) := by decide +kernel
theorem dX1_cellCount_4 : decode cX1_cellCount 4 = .ok (.iload_n 3, 1) := by decide +kernel
theorem dX1_cellCount_5 : decode cX1_cellCount 5 = .ok (.bipush 32, 2) := by decide +kernel
theorem dX1_cellCount_7 : decode cX1_cellCount 7 = .ok (.if_icmp .ge 24, 3) := by decide +kernel
theorem dX1_cellCount_10 : decode cX1_cellCount 10 = .ok (.aload_n 0, 1) := by decide +kernel
theorem dX1_cellCount_11 : decode cX1_cellCount 11 = .ok (.getfield 9, 3) := by decide +kernel
theorem dX1_cellCount_14 : decode cX1_cellCount 14 = .ok (.iload_n 3, 1) := by decide +kernel
theorem dX1_cellCount_15 : decode cX1_cellCount 15 = .ok (.invokestatic 62, 3) := by decide +kernel
theorem dX1_cellCount_18 : decode cX1_cellCount 18 = .ok (.iload_n 1, 1) := by decide +kernel
theorem dX1_cellCount_19 : decode cX1_cellCount 19 = .ok (.if_icmp .ne 6, 3) := by decide +kernel
theorem dX1_cellCount_22 : decode cX1_cellCount 22 = .ok (.iinc 2 1, 3) := by decide +kernel
theorem dX1_cellCount_25 : decode cX1_cellCount 25 = .ok (.iinc 3 1, 3) := by decide +kernel
theorem dX1_cellCount_28 : decode cX1_cellCount 28 = .ok (.goto (-24), 3) := by decide +kernel
theorem dX1_cellCount_31 : decode cX1_cellCount 31 = .ok (.iload_n 2, 1) := by decide +kernel
theorem dX1_cellCount_32 : decode cX1_cellCount 32 = .ok (.ireturn, 1) := by decide +kernel
theorem dX1_cellAt_0 : decode cX1_cellAt 0 = .ok (.iconst 0, 1) := by decide +kernel
theorem dX1_cellAt_1 : decode cX1_cellAt 1 = .ok (.istore_n 3, 1) := by decide +kernel
theorem dX1_cellAt_2 : decode cX1_cellAt 2 = .ok (.iconst 0, 1) := by decide +kernel
theorem dX1_cellAt_3 : decode cX1_cellAt 3 = .ok (.istore 4, 2) := by decide +kernel
theorem dX1_cellAt_5 : decode cX1_cellAt 5 = .ok (.iload 4, 2) := by decide +kernel
theorem dX1_cellAt_7 : decode cX1_cellAt 7 = .ok (.aload_n 0, 1) := by decide +kernel
theorem dX1_cellAt_8 : decode cX1_cellAt 8 = .ok (.getfield 24, 3) := by decide +kernel
theorem dX1_cellAt_11 : decode cX1_cellAt 11 = .ok (.if_icmp .ge 44, 3) := by decide +kernel
theorem dX1_cellAt_14 : decode cX1_cellAt 14 = .ok (.aload_n 0, 1) := by decide +kernel
theorem dX1_cellAt_15 : decode cX1_cellAt 15 = .ok (.getfield 21, 3) := by decide +kernel
theorem dX1_cellAt_18 : decode cX1_cellAt 18 = .ok (.iload 4, 2) := by decide +kernel
theorem dX1_cellAt_20 : decode cX1_cellAt 20 = .ok (.invokestatic 62, 3) := by decide +kernel
theorem dX1_cellAt_23 : decode cX1_cellAt 23 = .ok (.istore 5, 2) := by decide +kernel
theorem dX1_cellAt_25 : decode cX1_cellAt 25 = .ok (.aload_n 0, 1) := by decide +kernel
theorem dX1_cellAt_26 : decode cX1_cellAt 26 = .ok (.getfield 9, 3) := by decide +kernel
theorem dX1_cellAt_29 : decode cX1_cellAt 29 = .ok (.iload 5, 2) := by decide +kernel
theorem dX1_cellAt_31 : decode cX1_cellAt 31 = .ok (.invokestatic 62, 3) := by decide +kernel
theorem dX1_cellAt_34 : decode cX1_cellAt 34 = .ok (.iload_n 1, 1) := by decide +kernel
theorem dX1_cellAt_35 : decode cX1_cellAt 35 = .ok (.if_icmp .ne 14, 3) := by decide +kernel
theorem dX1_cellAt_38 : decode cX1_cellAt 38 = .ok (.iload_n 3, 1) := by decide +kernel
theorem dX1_cellAt_39 : decode cX1_cellAt 39 = .ok (.iload_n 2, 1) := by decide +kernel
theorem dX1_cellAt_40 : decode cX1_cellAt 40 = .ok (.if_icmp .ne 6, 3) := by decide +kernel
theorem dX1_cellAt_43 : decode cX1_cellAt 43 = .ok (.iload 5, 2) := by decide +kernel
theorem dX1_cellAt_45 : decode cX1_cellAt 45 = .ok (.ireturn, 1) := by decide +kernel
theorem dX1_cellAt_46 : decode cX1_cellAt 46 = .ok (.iinc 3 1, 3) := by decide +kernel
theorem dX1_cellAt_49 : decode cX1_cellAt 49 = .ok (.iinc 4 1, 3) := by decide +kernel
theorem dX1_cellAt_52 : decode cX1_cellAt 52 = .ok (.goto (-47), 3) := by decide +kernel
theorem dX1_cellAt_55 : decode cX1_cellAt 55 = .ok (.iconst (-1), 1) := by decide +kernel
theorem dX1_cellAt_56 : decode cX1_cellAt 56 = .ok (.ireturn, 1) := by decide +kernel
theorem dX1_mayBegin_0 : decode cX1_mayBegin 0 = .ok (.aload_n 0, 1) := by decide +kernel
theorem dX1_mayBegin_1 : decode cX1_mayBegin 1 = .ok (.getfield 34, 3) := by decide +kernel
theorem dX1_mayBegin_4 : decode cX1_mayBegin 4 = .ok (.bipush 10, 2) := by decide +kernel
theorem dX1_mayBegin_6 : decode cX1_mayBegin 6 = .ok (.if_icmp .lt 21, 3) := by decide +kernel
theorem dX1_mayBegin_9 : decode cX1_mayBegin 9 = .ok (.aload_n 0, 1) := by decide +kernel
theorem dX1_mayBegin_10 : decode cX1_mayBegin 10 = .ok (.getfield 37, 3) := by decide +kernel
theorem dX1_mayBegin_13 : decode cX1_mayBegin 13 = .ok (.ifCond .eq 18, 3) := by decide +kernel
theorem dX1_mayBegin_16 : decode cX1_mayBegin 16 = .ok (.aload_n 0, 1) := by decide +kernel
theorem dX1_mayBegin_17 : decode cX1_mayBegin 17 = .ok (.aload_n 0, 1) := by decide +kernel
theorem dX1_mayBegin_18 : decode cX1_mayBegin 18 = .ok (.invokevirtual 70, 3) := by decide +kernel
theorem dX1_mayBegin_21 : decode cX1_mayBegin 21 = .ok (.invokevirtual 74, 3) := by decide +kernel
theorem dX1_mayBegin_24 : decode cX1_mayBegin 24 = .ok (.ifCond .ne 7, 3) := by decide +kernel
theorem dX1_mayBegin_27 : decode cX1_mayBegin 27 = .ok (.iconst 1, 1) := by decide +kernel
theorem dX1_mayBegin_28 : decode cX1_mayBegin 28 = .ok (.goto 4, 3) := by decide +kernel
theorem dX1_mayBegin_31 : decode cX1_mayBegin 31 = .ok (.iconst 0, 1) := by decide +kernel
theorem dX1_mayBegin_32 : decode cX1_mayBegin 32 = .ok (.ireturn, 1) := by decide +kernel
theorem dX1_beginRecording_0 : decode cX1_beginRecording 0 = .ok (.aload_n 0, 1) := by decide +kernel
theorem dX1_beginRecording_1 : decode cX1_beginRecording 1 = .ok (.getfield 37, 3) := by decide +kernel
theorem dX1_beginRecording_4 : decode cX1_beginRecording 4 = .ok (.ifCond .eq 8, 3) := by decide +kernel
theorem dX1_beginRecording_7 : decode cX1_beginRecording 7 = .ok (.aload_n 0, 1) := by decide +kernel
theorem dX1_beginRecording_8 : decode cX1_beginRecording 8 = .ok (.invokevirtual 78, 3) := by decide +kernel
theorem dX1_beginRecording_11 : decode cX1_beginRecording 11 = .ok (.pop, 1) := by decide +kernel
theorem dX1_beginRecording_12 : decode cX1_beginRecording 12 = .ok (.aload_n 0, 1) := by decide +kernel
theorem dX1_beginRecording_13 : decode cX1_beginRecording 13 = .ok (.getfield 34, 3) := by decide +kernel
theorem dX1_beginRecording_16 : decode cX1_beginRecording 16 = .ok (.istore_n 1, 1) := by decide +kernel
theorem dX1_beginRecording_17 : decode cX1_beginRecording 17 = .ok (.aload_n 0, 1) := by decide +kernel
theorem dX1_beginRecording_18 : decode cX1_beginRecording 18 = .ok (.getfield 28, 3) := by decide +kernel
theorem dX1_beginRecording_21 : decode cX1_beginRecording 21 = .ok (.iload_n 1, 1) := by decide +kernel
theorem dX1_beginRecording_22 : decode cX1_beginRecording 22 = .ok (.iconst 0, 1) := by decide +kernel
theorem dX1_beginRecording_23 : decode cX1_beginRecording 23 = .ok (.invokestatic 66, 3) := by decide +kernel
theorem dX1_beginRecording_26 : decode cX1_beginRecording 26 = .ok (.aload_n 0, 1) := by decide +kernel
theorem dX1_beginRecording_27 : decode cX1_beginRecording 27 = .ok (.getfield 31, 3) := by decide +kernel
theorem dX1_beginRecording_30 : decode cX1_beginRecording 30 = .ok (.iload_n 1, 1) := by decide +kernel
theorem dX1_beginRecording_31 : decode cX1_beginRecording 31 = .ok (.iconst 0, 1) := by decide +kernel
theorem dX1_beginRecording_32 : decode cX1_beginRecording 32 = .ok (.invokestatic 66, 3) := by decide +kernel
theorem dX1_beginRecording_35 : decode cX1_beginRecording 35 = .ok (.aload_n 0, 1) := by decide +kernel
theorem dX1_beginRecording_36 : decode cX1_beginRecording 36 = .ok (.dup, 1) := by decide +kernel
theorem dX1_beginRecording_37 : decode cX1_beginRecording 37 = .ok (.getfield 34, 3) := by decide +kernel
theorem dX1_beginRecording_40 : decode cX1_beginRecording 40 = .ok (.iconst 1, 1) := by decide +kernel
theorem dX1_beginRecording_41 : decode cX1_beginRecording 41 = .ok (.iadd, 1) := by decide +kernel
theorem dX1_beginRecording_42 : decode cX1_beginRecording 42 = .ok (.putfield 34, 3) := by decide +kernel
theorem dX1_beginRecording_45 : decode cX1_beginRecording 45 = .ok (.aload_n 0, 1) := by decide +kernel
theorem dX1_beginRecording_46 : decode cX1_beginRecording 46 = .ok (.iconst 1, 1) := by decide +kernel
theorem dX1_beginRecording_47 : decode cX1_beginRecording 47 = .ok (.putfield 37, 3) := by decide +kernel
theorem dX1_beginRecording_50 : decode cX1_beginRecording 50 = .ok (.iload_n 1, 1) := by decide +kernel
theorem dX1_beginRecording_51 : decode cX1_beginRecording 51 = .ok (.ireturn, 1) := by decide +kernel
theorem dX1_stopRecording_0 : decode cX1_stopRecording 0 = .ok (.aload_n 0, 1) := by decide +kernel
theorem dX1_stopRecording_1 : decode cX1_stopRecording 1 = .ok (.invokevirtual 70, 3) := by decide +kernel
theorem dX1_stopRecording_4 : decode cX1_stopRecording 4 = .ok (.istore_n 1, 1) := by decide +kernel
theorem dX1_stopRecording_5 : decode cX1_stopRecording 5 = .ok (.aload_n 0, 1) := by decide +kernel
theorem dX1_stopRecording_6 : decode cX1_stopRecording 6 = .ok (.iload_n 1, 1) := by decide +kernel
theorem dX1_stopRecording_7 : decode cX1_stopRecording 7 = .ok (.invokevirtual 74, 3) := by decide +kernel
theorem dX1_stopRecording_10 : decode cX1_stopRecording 10 = .ok (.istore_n 2, 1) := by decide +kernel
theorem dX1_stopRecording_11 : decode cX1_stopRecording 11 = .ok (.aload_n 0, 1) := by decide +kernel
theorem dX1_stopRecording_12 : decode cX1_stopRecording 12 = .ok (.iconst 0, 1) := by decide +kernel
theorem dX1_stopRecording_13 : decode cX1_stopRecording 13 = .ok (.putfield 37, 3) := by decide +kernel
theorem dX1_stopRecording_16 : decode cX1_stopRecording 16 = .ok (.iload_n 2, 1) := by decide +kernel
theorem dX1_stopRecording_17 : decode cX1_stopRecording 17 = .ok (.ifCond .ne 8, 3) := by decide +kernel
theorem dX1_stopRecording_20 : decode cX1_stopRecording 20 = .ok (.aload_n 0, 1) := by decide +kernel
theorem dX1_stopRecording_21 : decode cX1_stopRecording 21 = .ok (.iload_n 1, 1) := by decide +kernel
theorem dX1_stopRecording_22 : decode cX1_stopRecording 22 = .ok (.invokevirtual 81, 3) := by decide +kernel
theorem dX1_stopRecording_25 : decode cX1_stopRecording 25 = .ok (.iload_n 2, 1) := by decide +kernel
theorem dX1_stopRecording_26 : decode cX1_stopRecording 26 = .ok (.ireturn, 1) := by decide +kernel
theorem dX1_eraseRecording_0 : decode cX1_eraseRecording 0 = .ok (.iconst 0, 1) := by decide +kernel
theorem dX1_eraseRecording_1 : decode cX1_eraseRecording 1 = .ok (.istore_n 2, 1) := by decide +kernel
theorem dX1_eraseRecording_2 : decode cX1_eraseRecording 2 = .ok (.iconst 0, 1) := by decide +kernel
theorem dX1_eraseRecording_3 : decode cX1_eraseRecording 3 = .ok (.istore_n 3, 1) := by decide +kernel
theorem dX1_eraseRecording_4 : decode cX1_eraseRecording 4 = .ok (.iload_n 3, 1) := by decide +kernel
theorem dX1_eraseRecording_5 : decode cX1_eraseRecording 5 = .ok (.bipush 32, 2) := by decide +kernel
theorem dX1_eraseRecording_7 : decode cX1_eraseRecording 7 = .ok (.if_icmp .ge 33, 3) := by decide +kernel
theorem dX1_eraseRecording_10 : decode cX1_eraseRecording 10 = .ok (.aload_n 0, 1) := by decide +kernel
theorem dX1_eraseRecording_11 : decode cX1_eraseRecording 11 = .ok (.getfield 9, 3) := by decide +kernel
theorem dX1_eraseRecording_14 : decode cX1_eraseRecording 14 = .ok (.iload_n 3, 1) := by decide +kernel
theorem dX1_eraseRecording_15 : decode cX1_eraseRecording 15 = .ok (.invokestatic 62, 3) := by decide +kernel
theorem dX1_eraseRecording_18 : decode cX1_eraseRecording 18 = .ok (.iload_n 1, 1) := by decide +kernel
theorem dX1_eraseRecording_19 : decode cX1_eraseRecording 19 = .ok (.if_icmp .ne 15, 3) := by decide +kernel
theorem dX1_eraseRecording_22 : decode cX1_eraseRecording 22 = .ok (.aload_n 0, 1) := by decide +kernel
theorem dX1_eraseRecording_23 : decode cX1_eraseRecording 23 = .ok (.getfield 9, 3) := by decide +kernel
theorem dX1_eraseRecording_26 : decode cX1_eraseRecording 26 = .ok (.iload_n 3, 1) := by decide +kernel
theorem dX1_eraseRecording_27 : decode cX1_eraseRecording 27 = .ok (.iconst (-1), 1) := by decide +kernel
theorem dX1_eraseRecording_28 : decode cX1_eraseRecording 28 = .ok (.invokestatic 66, 3) := by decide +kernel
theorem dX1_eraseRecording_31 : decode cX1_eraseRecording 31 = .ok (.iinc 2 1, 3) := by decide +kernel
theorem dX1_eraseRecording_34 : decode cX1_eraseRecording 34 = .ok (.iinc 3 1, 3) := by decide +kernel
theorem dX1_eraseRecording_37 : decode cX1_eraseRecording 37 = .ok (.goto (-33), 3) := by decide +kernel
theorem dX1_eraseRecording_40 : decode cX1_eraseRecording 40 = .ok (.aload_n 0, 1) := by decide +kernel
theorem dX1_eraseRecording_41 : decode cX1_eraseRecording 41 = .ok (.invokevirtual 85, 3) := by decide +kernel
theorem dX1_eraseRecording_44 : decode cX1_eraseRecording 44 = .ok (.aload_n 0, 1) := by decide +kernel
theorem dX1_eraseRecording_45 : decode cX1_eraseRecording 45 = .ok (.iload_n 1, 1) := by decide +kernel
theorem dX1_eraseRecording_46 : decode cX1_eraseRecording 46 = .ok (.invokevirtual 81, 3) := by decide +kernel
theorem dX1_eraseRecording_49 : decode cX1_eraseRecording 49 = .ok (.iload_n 2, 1) := by decide +kernel
theorem dX1_eraseRecording_50 : decode cX1_eraseRecording 50 = .ok (.ireturn, 1) := by decide +kernel
theorem dX1_removeRecording_0 : decode cX1_removeRecording 0 = .ok (.iload_n 1, 1) := by decide +kernel
theorem dX1_removeRecording_1 : decode cX1_removeRecording 1 = .ok (.aload_n 0, 1) := by decide +kernel
theorem dX1_removeRecording_2 : decode cX1_removeRecording 2 = .ok (.invokevirtual 70, 3) := by decide +kernel
theorem dX1_removeRecording_5 : decode cX1_removeRecording 5 = .ok (.if_icmp .ne 8, 3) := by decide +kernel
theorem dX1_removeRecording_8 : decode cX1_removeRecording 8 = .ok (.aload_n 0, 1) := by decide +kernel
theorem dX1_removeRecording_9 : decode cX1_removeRecording 9 = .ok (.iconst 0, 1) := by decide +kernel
theorem dX1_removeRecording_10 : decode cX1_removeRecording 10 = .ok (.putfield 37, 3) := by decide +kernel
theorem dX1_removeRecording_13 : decode cX1_removeRecording 13 = .ok (.iload_n 1, 1) := by decide +kernel
theorem dX1_removeRecording_14 : decode cX1_removeRecording 14 = .ok (.istore_n 2, 1) := by decide +kernel
theorem dX1_removeRecording_15 : decode cX1_removeRecording 15 = .ok (.iload_n 2, 1) := by decide +kernel
theorem dX1_removeRecording_16 : decode cX1_removeRecording 16 = .ok (.iconst 1, 1) := by decide +kernel
theorem dX1_removeRecording_17 : decode cX1_removeRecording 17 = .ok (.iadd, 1) := by decide +kernel
theorem dX1_removeRecording_18 : decode cX1_removeRecording 18 = .ok (.aload_n 0, 1) := by decide +kernel
theorem dX1_removeRecording_19 : decode cX1_removeRecording 19 = .ok (.getfield 34, 3) := by decide +kernel
theorem dX1_removeRecording_22 : decode cX1_removeRecording 22 = .ok (.if_icmp .ge 45, 3) := by decide +kernel
theorem dX1_removeRecording_25 : decode cX1_removeRecording 25 = .ok (.aload_n 0, 1) := by decide +kernel
theorem dX1_removeRecording_26 : decode cX1_removeRecording 26 = .ok (.getfield 28, 3) := by decide +kernel
theorem dX1_removeRecording_29 : decode cX1_removeRecording 29 = .ok (.iload_n 2, 1) := by decide +kernel
theorem dX1_removeRecording_30 : decode cX1_removeRecording 30 = .ok (.aload_n 0, 1) := by decide +kernel
theorem dX1_removeRecording_31 : decode cX1_removeRecording 31 = .ok (.getfield 28, 3) := by decide +kernel
theorem dX1_removeRecording_34 : decode cX1_removeRecording 34 = .ok (.iload_n 2, 1) := by decide +kernel
theorem dX1_removeRecording_35 : decode cX1_removeRecording 35 = .ok (.iconst 1, 1) := by decide +kernel
theorem dX1_removeRecording_36 : decode cX1_removeRecording 36 = .ok (.iadd, 1) := by decide +kernel
theorem dX1_removeRecording_37 : decode cX1_removeRecording 37 = .ok (.invokestatic 62, 3) := by decide +kernel
theorem dX1_removeRecording_40 : decode cX1_removeRecording 40 = .ok (.invokestatic 66, 3) := by decide +kernel
theorem dX1_removeRecording_43 : decode cX1_removeRecording 43 = .ok (.aload_n 0, 1) := by decide +kernel
theorem dX1_removeRecording_44 : decode cX1_removeRecording 44 = .ok (.getfield 31, 3) := by decide +kernel
theorem dX1_removeRecording_47 : decode cX1_removeRecording 47 = .ok (.iload_n 2, 1) := by decide +kernel
theorem dX1_removeRecording_48 : decode cX1_removeRecording 48 = .ok (.aload_n 0, 1) := by decide +kernel
theorem dX1_removeRecording_49 : decode cX1_removeRecording 49 = .ok (.getfield 31, 3) := by decide +kernel
theorem dX1_removeRecording_52 : decode cX1_removeRecording 52 = .ok (.iload_n 2, 1) := by decide +kernel
theorem dX1_removeRecording_53 : decode cX1_removeRecording 53 = .ok (.iconst 1, 1) := by decide +kernel
theorem dX1_removeRecording_54 : decode cX1_removeRecording 54 = .ok (.iadd, 1) := by decide +kernel
theorem dX1_removeRecording_55 : decode cX1_removeRecording 55 = .ok (.invokestatic 62, 3) := by decide +kernel
theorem dX1_removeRecording_58 : decode cX1_removeRecording 58 = .ok (.invokestatic 66, 3) := by decide +kernel
theorem dX1_removeRecording_61 : decode cX1_removeRecording 61 = .ok (.iinc 2 1, 3) := by decide +kernel
theorem dX1_removeRecording_64 : decode cX1_removeRecording 64 = .ok (.goto (-49), 3) := by decide +kernel
theorem dX1_removeRecording_67 : decode cX1_removeRecording 67 = .ok (.aload_n 0, 1) := by decide +kernel
theorem dX1_removeRecording_68 : decode cX1_removeRecording 68 = .ok (.dup, 1) := by decide +kernel
theorem dX1_removeRecording_69 : decode cX1_removeRecording 69 = .ok (.getfield 34, 3) := by decide +kernel
theorem dX1_removeRecording_72 : decode cX1_removeRecording 72 = .ok (.iconst 1, 1) := by decide +kernel
theorem dX1_removeRecording_73 : decode cX1_removeRecording 73 = .ok (.isub, 1) := by decide +kernel
theorem dX1_removeRecording_74 : decode cX1_removeRecording 74 = .ok (.putfield 34, 3) := by decide +kernel
theorem dX1_removeRecording_77 : decode cX1_removeRecording 77 = .ok (.iconst 0, 1) := by decide +kernel
theorem dX1_removeRecording_78 : decode cX1_removeRecording 78 = .ok (.istore_n 2, 1) := by decide +kernel
theorem dX1_removeRecording_79 : decode cX1_removeRecording 79 = .ok (.iload_n 2, 1) := by decide +kernel
theorem dX1_removeRecording_80 : decode cX1_removeRecording 80 = .ok (.bipush 32, 2) := by decide +kernel
theorem dX1_removeRecording_82 : decode cX1_removeRecording 82 = .ok (.if_icmp .ge 34, 3) := by decide +kernel
theorem dX1_removeRecording_85 : decode cX1_removeRecording 85 = .ok (.aload_n 0, 1) := by decide +kernel
theorem dX1_removeRecording_86 : decode cX1_removeRecording 86 = .ok (.getfield 9, 3) := by decide +kernel
theorem dX1_removeRecording_89 : decode cX1_removeRecording 89 = .ok (.iload_n 2, 1) := by decide +kernel
theorem dX1_removeRecording_90 : decode cX1_removeRecording 90 = .ok (.invokestatic 62, 3) := by decide +kernel
theorem dX1_removeRecording_93 : decode cX1_removeRecording 93 = .ok (.istore_n 3, 1) := by decide +kernel
theorem dX1_removeRecording_94 : decode cX1_removeRecording 94 = .ok (.iload_n 3, 1) := by decide +kernel
theorem dX1_removeRecording_95 : decode cX1_removeRecording 95 = .ok (.iload_n 1, 1) := by decide +kernel
theorem dX1_removeRecording_96 : decode cX1_removeRecording 96 = .ok (.if_icmp .le 14, 3) := by decide +kernel
theorem dX1_removeRecording_99 : decode cX1_removeRecording 99 = .ok (.aload_n 0, 1) := by decide +kernel
theorem dX1_removeRecording_100 : decode cX1_removeRecording 100 = .ok (.getfield 9, 3) := by decide +kernel
theorem dX1_removeRecording_103 : decode cX1_removeRecording 103 = .ok (.iload_n 2, 1) := by decide +kernel
theorem dX1_removeRecording_104 : decode cX1_removeRecording 104 = .ok (.iload_n 3, 1) := by decide +kernel
theorem dX1_removeRecording_105 : decode cX1_removeRecording 105 = .ok (.iconst 1, 1) := by decide +kernel
theorem dX1_removeRecording_106 : decode cX1_removeRecording 106 = .ok (.isub, 1) := by decide +kernel
theorem dX1_removeRecording_107 : decode cX1_removeRecording 107 = .ok (.invokestatic 66, 3) := by decide +kernel
theorem dX1_removeRecording_110 : decode cX1_removeRecording 110 = .ok (.iinc 2 1, 3) := by decide +kernel
theorem dX1_removeRecording_113 : decode cX1_removeRecording 113 = .ok (.goto (-34), 3) := by decide +kernel
theorem dX1_removeRecording_116 : decode cX1_removeRecording 116 = .ok (.aload_n 0, 1) := by decide +kernel
theorem dX1_removeRecording_117 : decode cX1_removeRecording 117 = .ok (.getfield 50, 3) := by decide +kernel
theorem dX1_removeRecording_120 : decode cX1_removeRecording 120 = .ok (.iload_n 1, 1) := by decide +kernel
theorem dX1_removeRecording_121 : decode cX1_removeRecording 121 = .ok (.if_icmp .ne 16, 3) := by decide +kernel
theorem dX1_removeRecording_124 : decode cX1_removeRecording 124 = .ok (.aload_n 0, 1) := by decide +kernel
theorem dX1_removeRecording_125 : decode cX1_removeRecording 125 = .ok (.iconst (-1), 1) := by decide +kernel
theorem dX1_removeRecording_126 : decode cX1_removeRecording 126 = .ok (.putfield 50, 3) := by decide +kernel
theorem dX1_removeRecording_129 : decode cX1_removeRecording 129 = .ok (.aload_n 0, 1) := by decide +kernel
theorem dX1_removeRecording_130 : decode cX1_removeRecording 130 = .ok (.iconst (-1), 1) := by decide +kernel
theorem dX1_removeRecording_131 : decode cX1_removeRecording 131 = .ok (.putfield 53, 3) := by decide +kernel
theorem dX1_removeRecording_134 : decode cX1_removeRecording 134 = .ok (.goto 21, 3) := by decide +kernel
theorem dX1_removeRecording_137 : decode cX1_removeRecording 137 = .ok (.aload_n 0, 1) := by decide +kernel
theorem dX1_removeRecording_138 : decode cX1_removeRecording 138 = .ok (.getfield 50, 3) := by decide +kernel
theorem dX1_removeRecording_141 : decode cX1_removeRecording 141 = .ok (.iload_n 1, 1) := by decide +kernel
theorem dX1_removeRecording_142 : decode cX1_removeRecording 142 = .ok (.if_icmp .le 13, 3) := by decide +kernel
theorem dX1_removeRecording_145 : decode cX1_removeRecording 145 = .ok (.aload_n 0, 1) := by decide +kernel
theorem dX1_removeRecording_146 : decode cX1_removeRecording 146 = .ok (.dup, 1) := by decide +kernel
theorem dX1_removeRecording_147 : decode cX1_removeRecording 147 = .ok (.getfield 50, 3) := by decide +kernel
theorem dX1_removeRecording_150 : decode cX1_removeRecording 150 = .ok (.iconst 1, 1) := by decide +kernel
theorem dX1_removeRecording_151 : decode cX1_removeRecording 151 = .ok (.isub, 1) := by decide +kernel
theorem dX1_removeRecording_152 : decode cX1_removeRecording 152 = .ok (.putfield 50, 3) := by decide +kernel
theorem dX1_removeRecording_155 : decode cX1_removeRecording 155 = .ok (.return_, 1) := by decide +kernel
theorem dX1_dropFreeCells_0 : decode cX1_dropFreeCells 0 = .ok (.iconst 0, 1) := by decide +kernel
theorem dX1_dropFreeCells_1 : decode cX1_dropFreeCells 1 = .ok (.istore_n 1, 1) := by decide +kernel
theorem dX1_dropFreeCells_2 : decode cX1_dropFreeCells 2 = .ok (.iconst 0, 1) := by decide +kernel
theorem dX1_dropFreeCells_3 : decode cX1_dropFreeCells 3 = .ok (.istore_n 2, 1) := by decide +kernel
theorem dX1_dropFreeCells_4 : decode cX1_dropFreeCells 4 = .ok (.iload_n 2, 1) := by decide +kernel
theorem dX1_dropFreeCells_5 : decode cX1_dropFreeCells 5 = .ok (.aload_n 0, 1) := by decide +kernel
theorem dX1_dropFreeCells_6 : decode cX1_dropFreeCells 6 = .ok (.getfield 24, 3) := by decide +kernel
theorem dX1_dropFreeCells_9 : decode cX1_dropFreeCells 9 = .ok (.if_icmp .ge 42, 3) := by decide +kernel
theorem dX1_dropFreeCells_12 : decode cX1_dropFreeCells 12 = .ok (.aload_n 0, 1) := by decide +kernel
theorem dX1_dropFreeCells_13 : decode cX1_dropFreeCells 13 = .ok (.getfield 21, 3) := by decide +kernel
theorem dX1_dropFreeCells_16 : decode cX1_dropFreeCells 16 = .ok (.iload_n 2, 1) := by decide +kernel
theorem dX1_dropFreeCells_17 : decode cX1_dropFreeCells 17 = .ok (.invokestatic 62, 3) := by decide +kernel
theorem dX1_dropFreeCells_20 : decode cX1_dropFreeCells 20 = .ok (.istore_n 3, 1) := by decide +kernel
theorem dX1_dropFreeCells_21 : decode cX1_dropFreeCells 21 = .ok (.aload_n 0, 1) := by decide +kernel
theorem dX1_dropFreeCells_22 : decode cX1_dropFreeCells 22 = .ok (.getfield 9, 3) := by decide +kernel
theorem dX1_dropFreeCells_25 : decode cX1_dropFreeCells 25 = .ok (.iload_n 3, 1) := by decide +kernel
theorem dX1_dropFreeCells_26 : decode cX1_dropFreeCells 26 = .ok (.invokestatic 62, 3) := by decide +kernel
theorem dX1_dropFreeCells_29 : decode cX1_dropFreeCells 29 = .ok (.iconst (-1), 1) := by decide +kernel
theorem dX1_dropFreeCells_30 : decode cX1_dropFreeCells 30 = .ok (.if_icmp .eq 15, 3) := by decide +kernel
theorem dX1_dropFreeCells_33 : decode cX1_dropFreeCells 33 = .ok (.aload_n 0, 1) := by decide +kernel
theorem dX1_dropFreeCells_34 : decode cX1_dropFreeCells 34 = .ok (.getfield 21, 3) := by decide +kernel
theorem dX1_dropFreeCells_37 : decode cX1_dropFreeCells 37 = .ok (.iload_n 1, 1) := by decide +kernel
theorem dX1_dropFreeCells_38 : decode cX1_dropFreeCells 38 = .ok (.iload_n 3, 1) := by decide +kernel
theorem dX1_dropFreeCells_39 : decode cX1_dropFreeCells 39 = .ok (.invokestatic 66, 3) := by decide +kernel
theorem dX1_dropFreeCells_42 : decode cX1_dropFreeCells 42 = .ok (.iinc 1 1, 3) := by decide +kernel
theorem dX1_dropFreeCells_45 : decode cX1_dropFreeCells 45 = .ok (.iinc 2 1, 3) := by decide +kernel
theorem dX1_dropFreeCells_48 : decode cX1_dropFreeCells 48 = .ok (.goto (-44), 3) := by decide +kernel
theorem dX1_dropFreeCells_51 : decode cX1_dropFreeCells 51 = .ok (.aload_n 0, 1) := by decide +kernel
theorem dX1_dropFreeCells_52 : decode cX1_dropFreeCells 52 = .ok (.iload_n 1, 1) := by decide +kernel
theorem dX1_dropFreeCells_53 : decode cX1_dropFreeCells 53 = .ok (.putfield 24, 3) := by decide +kernel
theorem dX1_dropFreeCells_56 : decode cX1_dropFreeCells 56 = .ok (.return_, 1) := by decide +kernel
theorem dX1_cellFromHead_0 : decode cX1_cellFromHead 0 = .ok (.aload_n 0, 1) := by decide +kernel
theorem dX1_cellFromHead_1 : decode cX1_cellFromHead 1 = .ok (.getfield 41, 3) := by decide +kernel
theorem dX1_cellFromHead_4 : decode cX1_cellFromHead 4 = .ok (.iload_n 1, 1) := by decide +kernel
theorem dX1_cellFromHead_5 : decode cX1_cellFromHead 5 = .ok (.iadd, 1) := by decide +kernel
theorem dX1_cellFromHead_6 : decode cX1_cellFromHead 6 = .ok (.bipush 32, 2) := by decide +kernel
theorem dX1_cellFromHead_8 : decode cX1_cellFromHead 8 = .ok (.irem, 1) := by decide +kernel
theorem dX1_cellFromHead_9 : decode cX1_cellFromHead 9 = .ok (.ireturn, 1) := by decide +kernel
theorem dX1_isWritable_0 : decode cX1_isWritable 0 = .ok (.aload_n 0, 1) := by decide +kernel
theorem dX1_isWritable_1 : decode cX1_isWritable 1 = .ok (.getfield 9, 3) := by decide +kernel
theorem dX1_isWritable_4 : decode cX1_isWritable 4 = .ok (.iload_n 1, 1) := by decide +kernel
theorem dX1_isWritable_5 : decode cX1_isWritable 5 = .ok (.invokestatic 62, 3) := by decide +kernel
theorem dX1_isWritable_8 : decode cX1_isWritable 8 = .ok (.istore_n 2, 1) := by decide +kernel
theorem dX1_isWritable_9 : decode cX1_isWritable 9 = .ok (.iload_n 2, 1) := by decide +kernel
theorem dX1_isWritable_10 : decode cX1_isWritable 10 = .ok (.iconst (-1), 1) := by decide +kernel
theorem dX1_isWritable_11 : decode cX1_isWritable 11 = .ok (.if_icmp .eq 22, 3) := by decide +kernel
theorem dX1_isWritable_14 : decode cX1_isWritable 14 = .ok (.iload_n 2, 1) := by decide +kernel
theorem dX1_isWritable_15 : decode cX1_isWritable 15 = .ok (.aload_n 0, 1) := by decide +kernel
theorem dX1_isWritable_16 : decode cX1_isWritable 16 = .ok (.invokevirtual 70, 3) := by decide +kernel
theorem dX1_isWritable_19 : decode cX1_isWritable 19 = .ok (.if_icmp .eq 18, 3) := by decide +kernel
theorem dX1_isWritable_22 : decode cX1_isWritable 22 = .ok (.aload_n 0, 1) := by decide +kernel
theorem dX1_isWritable_23 : decode cX1_isWritable 23 = .ok (.getfield 28, 3) := by decide +kernel
theorem dX1_isWritable_26 : decode cX1_isWritable 26 = .ok (.iload_n 2, 1) := by decide +kernel
theorem dX1_isWritable_27 : decode cX1_isWritable 27 = .ok (.invokestatic 62, 3) := by decide +kernel
theorem dX1_isWritable_30 : decode cX1_isWritable 30 = .ok (.ifCond .ne 7, 3) := by decide +kernel
theorem dX1_isWritable_33 : decode cX1_isWritable 33 = .ok (.iconst 1, 1) := by decide +kernel
theorem dX1_isWritable_34 : decode cX1_isWritable 34 = .ok (.goto 4, 3) := by decide +kernel
theorem dX1_isWritable_37 : decode cX1_isWritable 37 = .ok (.iconst 0, 1) := by decide +kernel
theorem dX1_isWritable_38 : decode cX1_isWritable 38 = .ok (.ireturn, 1) := by decide +kernel
theorem dX1_writableCells_0 : decode cX1_writableCells 0 = .ok (.iconst 0, 1) := by decide +kernel
theorem dX1_writableCells_1 : decode cX1_writableCells 1 = .ok (.istore_n 1, 1) := by decide +kernel
theorem dX1_writableCells_2 : decode cX1_writableCells 2 = .ok (.iconst 0, 1) := by decide +kernel
theorem dX1_writableCells_3 : decode cX1_writableCells 3 = .ok (.istore_n 2, 1) := by decide +kernel
theorem dX1_writableCells_4 : decode cX1_writableCells 4 = .ok (.iload_n 2, 1) := by decide +kernel
theorem dX1_writableCells_5 : decode cX1_writableCells 5 = .ok (.bipush 32, 2) := by decide +kernel
theorem dX1_writableCells_7 : decode cX1_writableCells 7 = .ok (.if_icmp .ge 20, 3) := by decide +kernel
theorem dX1_writableCells_10 : decode cX1_writableCells 10 = .ok (.aload_n 0, 1) := by decide +kernel
theorem dX1_writableCells_11 : decode cX1_writableCells 11 = .ok (.iload_n 2, 1) := by decide +kernel
theorem dX1_writableCells_12 : decode cX1_writableCells 12 = .ok (.invokevirtual 88, 3) := by decide +kernel
theorem dX1_writableCells_15 : decode cX1_writableCells 15 = .ok (.ifCond .eq 6, 3) := by decide +kernel
theorem dX1_writableCells_18 : decode cX1_writableCells 18 = .ok (.iinc 1 1, 3) := by decide +kernel
theorem dX1_writableCells_21 : decode cX1_writableCells 21 = .ok (.iinc 2 1, 3) := by decide +kernel
theorem dX1_writableCells_24 : decode cX1_writableCells 24 = .ok (.goto (-20), 3) := by decide +kernel
theorem dX1_writableCells_27 : decode cX1_writableCells 27 = .ok (.iload_n 1, 1) := by decide +kernel
theorem dX1_writableCells_28 : decode cX1_writableCells 28 = .ok (.ireturn, 1) := by decide +kernel
theorem dX1_firstWritable_0 : decode cX1_firstWritable 0 = .ok (.iconst 0, 1) := by decide +kernel
theorem dX1_firstWritable_1 : decode cX1_firstWritable 1 = .ok (.istore_n 1, 1) := by decide +kernel
theorem dX1_firstWritable_2 : decode cX1_firstWritable 2 = .ok (.iload_n 1, 1) := by decide +kernel
theorem dX1_firstWritable_3 : decode cX1_firstWritable 3 = .ok (.bipush 32, 2) := by decide +kernel
theorem dX1_firstWritable_5 : decode cX1_firstWritable 5 = .ok (.if_icmp .ge 25, 3) := by decide +kernel
theorem dX1_firstWritable_8 : decode cX1_firstWritable 8 = .ok (.aload_n 0, 1) := by decide +kernel
theorem dX1_firstWritable_9 : decode cX1_firstWritable 9 = .ok (.iload_n 1, 1) := by decide +kernel
theorem dX1_firstWritable_10 : decode cX1_firstWritable 10 = .ok (.invokevirtual 92, 3) := by decide +kernel
theorem dX1_firstWritable_13 : decode cX1_firstWritable 13 = .ok (.istore_n 2, 1) := by decide +kernel
theorem dX1_firstWritable_14 : decode cX1_firstWritable 14 = .ok (.aload_n 0, 1) := by decide +kernel
theorem dX1_firstWritable_15 : decode cX1_firstWritable 15 = .ok (.iload_n 2, 1) := by decide +kernel
theorem dX1_firstWritable_16 : decode cX1_firstWritable 16 = .ok (.invokevirtual 88, 3) := by decide +kernel
theorem dX1_firstWritable_19 : decode cX1_firstWritable 19 = .ok (.ifCond .eq 5, 3) := by decide +kernel
theorem dX1_firstWritable_22 : decode cX1_firstWritable 22 = .ok (.iload_n 2, 1) := by decide +kernel
theorem dX1_firstWritable_23 : decode cX1_firstWritable 23 = .ok (.ireturn, 1) := by decide +kernel
theorem dX1_firstWritable_24 : decode cX1_firstWritable 24 = .ok (.iinc 1 1, 3) := by decide +kernel
theorem dX1_firstWritable_27 : decode cX1_firstWritable 27 = .ok (.goto (-25), 3) := by decide +kernel
theorem dX1_firstWritable_30 : decode cX1_firstWritable 30 = .ok (.iconst (-1), 1) := by decide +kernel
theorem dX1_firstWritable_31 : decode cX1_firstWritable 31 = .ok (.ireturn, 1) := by decide +kernel
theorem dX1_firstLoser_0 : decode cX1_firstLoser 0 = .ok (.iconst 0, 1) := by decide +kernel
theorem dX1_firstLoser_1 : decode cX1_firstLoser 1 = .ok (.istore_n 1, 1) := by decide +kernel
theorem dX1_firstLoser_2 : decode cX1_firstLoser 2 = .ok (.iload_n 1, 1) := by decide +kernel
theorem dX1_firstLoser_3 : decode cX1_firstLoser 3 = .ok (.bipush 32, 2) := by decide +kernel
theorem dX1_firstLoser_5 : decode cX1_firstLoser 5 = .ok (.if_icmp .ge 39, 3) := by decide +kernel
theorem dX1_firstLoser_8 : decode cX1_firstLoser 8 = .ok (.aload_n 0, 1) := by decide +kernel
theorem dX1_firstLoser_9 : decode cX1_firstLoser 9 = .ok (.iload_n 1, 1) := by decide +kernel
theorem dX1_firstLoser_10 : decode cX1_firstLoser 10 = .ok (.invokevirtual 92, 3) := by decide +kernel
theorem dX1_firstLoser_13 : decode cX1_firstLoser 13 = .ok (.istore_n 2, 1) := by decide +kernel
theorem dX1_firstLoser_14 : decode cX1_firstLoser 14 = .ok (.aload_n 0, 1) := by decide +kernel
theorem dX1_firstLoser_15 : decode cX1_firstLoser 15 = .ok (.getfield 9, 3) := by decide +kernel
theorem dX1_firstLoser_18 : decode cX1_firstLoser 18 = .ok (.iload_n 2, 1) := by decide +kernel
theorem dX1_firstLoser_19 : decode cX1_firstLoser 19 = .ok (.invokestatic 62, 3) := by decide +kernel
theorem dX1_firstLoser_22 : decode cX1_firstLoser 22 = .ok (.istore_n 3, 1) := by decide +kernel
theorem dX1_firstLoser_23 : decode cX1_firstLoser 23 = .ok (.iload_n 3, 1) := by decide +kernel
theorem dX1_firstLoser_24 : decode cX1_firstLoser 24 = .ok (.iconst (-1), 1) := by decide +kernel
theorem dX1_firstLoser_25 : decode cX1_firstLoser 25 = .ok (.if_icmp .eq 13, 3) := by decide +kernel
theorem dX1_firstLoser_28 : decode cX1_firstLoser 28 = .ok (.aload_n 0, 1) := by decide +kernel
theorem dX1_firstLoser_29 : decode cX1_firstLoser 29 = .ok (.iload_n 2, 1) := by decide +kernel
theorem dX1_firstLoser_30 : decode cX1_firstLoser 30 = .ok (.invokevirtual 88, 3) := by decide +kernel
theorem dX1_firstLoser_33 : decode cX1_firstLoser 33 = .ok (.ifCond .eq 5, 3) := by decide +kernel
theorem dX1_firstLoser_36 : decode cX1_firstLoser 36 = .ok (.iload_n 3, 1) := by decide +kernel
theorem dX1_firstLoser_37 : decode cX1_firstLoser 37 = .ok (.ireturn, 1) := by decide +kernel
theorem dX1_firstLoser_38 : decode cX1_firstLoser 38 = .ok (.iinc 1 1, 3) := by decide +kernel
theorem dX1_firstLoser_41 : decode cX1_firstLoser 41 = .ok (.goto (-39), 3) := by decide +kernel
theorem dX1_firstLoser_44 : decode cX1_firstLoser 44 = .ok (.iconst (-1), 1) := by decide +kernel
theorem dX1_firstLoser_45 : decode cX1_firstLoser 45 = .ok (.ireturn, 1) := by decide +kernel
theorem dX1_lossAfter_0 : decode cX1_lossAfter 0 = .ok (.iload_n 2, 1) := by decide +kernel
theorem dX1_lossAfter_1 : decode cX1_lossAfter 1 = .ok (.istore_n 3, 1) := by decide +kernel
theorem dX1_lossAfter_2 : decode cX1_lossAfter 2 = .ok (.iconst 0, 1) := by decide +kernel
theorem dX1_lossAfter_3 : decode cX1_lossAfter 3 = .ok (.istore 4, 2) := by decide +kernel
theorem dX1_lossAfter_5 : decode cX1_lossAfter 5 = .ok (.iconst 0, 1) := by decide +kernel
theorem dX1_lossAfter_6 : decode cX1_lossAfter 6 = .ok (.istore 5, 2) := by decide +kernel
theorem dX1_lossAfter_8 : decode cX1_lossAfter 8 = .ok (.iload 5, 2) := by decide +kernel
theorem dX1_lossAfter_10 : decode cX1_lossAfter 10 = .ok (.bipush 32, 2) := by decide +kernel
theorem dX1_lossAfter_12 : decode cX1_lossAfter 12 = .ok (.if_icmp .ge 49, 3) := by decide +kernel
theorem dX1_lossAfter_15 : decode cX1_lossAfter 15 = .ok (.iload_n 3, 1) := by decide +kernel
theorem dX1_lossAfter_16 : decode cX1_lossAfter 16 = .ok (.ifCond .le 45, 3) := by decide +kernel
theorem dX1_lossAfter_19 : decode cX1_lossAfter 19 = .ok (.aload_n 0, 1) := by decide +kernel
theorem dX1_lossAfter_20 : decode cX1_lossAfter 20 = .ok (.iload 5, 2) := by decide +kernel
theorem dX1_lossAfter_22 : decode cX1_lossAfter 22 = .ok (.invokevirtual 92, 3) := by decide +kernel
theorem dX1_lossAfter_25 : decode cX1_lossAfter 25 = .ok (.istore 6, 2) := by decide +kernel
theorem dX1_lossAfter_27 : decode cX1_lossAfter 27 = .ok (.aload_n 0, 1) := by decide +kernel
theorem dX1_lossAfter_28 : decode cX1_lossAfter 28 = .ok (.iload 6, 2) := by decide +kernel
theorem dX1_lossAfter_30 : decode cX1_lossAfter 30 = .ok (.invokevirtual 88, 3) := by decide +kernel
theorem dX1_lossAfter_33 : decode cX1_lossAfter 33 = .ok (.ifCond .eq 22, 3) := by decide +kernel
theorem dX1_lossAfter_36 : decode cX1_lossAfter 36 = .ok (.iinc 3 (-1), 3) := by decide +kernel
theorem dX1_lossAfter_39 : decode cX1_lossAfter 39 = .ok (.aload_n 0, 1) := by decide +kernel
theorem dX1_lossAfter_40 : decode cX1_lossAfter 40 = .ok (.getfield 9, 3) := by decide +kernel
theorem dX1_lossAfter_43 : decode cX1_lossAfter 43 = .ok (.iload 6, 2) := by decide +kernel
theorem dX1_lossAfter_45 : decode cX1_lossAfter 45 = .ok (.invokestatic 62, 3) := by decide +kernel
theorem dX1_lossAfter_48 : decode cX1_lossAfter 48 = .ok (.iload_n 1, 1) := by decide +kernel
theorem dX1_lossAfter_49 : decode cX1_lossAfter 49 = .ok (.if_icmp .ne 6, 3) := by decide +kernel
theorem dX1_lossAfter_52 : decode cX1_lossAfter 52 = .ok (.iinc 4 1, 3) := by decide +kernel
theorem dX1_lossAfter_55 : decode cX1_lossAfter 55 = .ok (.iinc 5 1, 3) := by decide +kernel
theorem dX1_lossAfter_58 : decode cX1_lossAfter 58 = .ok (.goto (-50), 3) := by decide +kernel
theorem dX1_lossAfter_61 : decode cX1_lossAfter 61 = .ok (.iload 4, 2) := by decide +kernel
theorem dX1_lossAfter_63 : decode cX1_lossAfter 63 = .ok (.ireturn, 1) := by decide +kernel
theorem dX1_maySpeak_0 : decode cX1_maySpeak 0 = .ok (.aload_n 0, 1) := by decide +kernel
theorem dX1_maySpeak_1 : decode cX1_maySpeak 1 = .ok (.getfield 37, 3) := by decide +kernel
theorem dX1_maySpeak_4 : decode cX1_maySpeak 4 = .ok (.ifCond .eq 15, 3) := by decide +kernel
theorem dX1_maySpeak_7 : decode cX1_maySpeak 7 = .ok (.aload_n 0, 1) := by decide +kernel
theorem dX1_maySpeak_8 : decode cX1_maySpeak 8 = .ok (.invokevirtual 95, 3) := by decide +kernel
theorem dX1_maySpeak_11 : decode cX1_maySpeak 11 = .ok (.iload_n 1, 1) := by decide +kernel
theorem dX1_maySpeak_12 : decode cX1_maySpeak 12 = .ok (.if_icmp .lt 7, 3) := by decide +kernel
theorem dX1_maySpeak_15 : decode cX1_maySpeak 15 = .ok (.iconst 1, 1) := by decide +kernel
theorem dX1_maySpeak_16 : decode cX1_maySpeak 16 = .ok (.goto 4, 3) := by decide +kernel
theorem dX1_maySpeak_19 : decode cX1_maySpeak 19 = .ok (.iconst 0, 1) := by decide +kernel
theorem dX1_maySpeak_20 : decode cX1_maySpeak 20 = .ok (.ireturn, 1) := by decide +kernel
theorem dX1_speakTimes_0 : decode cX1_speakTimes 0 = .ok (.iconst (-1), 1) := by decide +kernel
theorem dX1_speakTimes_1 : decode cX1_speakTimes 1 = .ok (.istore_n 3, 1) := by decide +kernel
theorem dX1_speakTimes_2 : decode cX1_speakTimes 2 = .ok (.iconst 0, 1) := by decide +kernel
theorem dX1_speakTimes_3 : decode cX1_speakTimes 3 = .ok (.istore 4, 2) := by decide +kernel
theorem dX1_speakTimes_5 : decode cX1_speakTimes 5 = .ok (.iload 4, 2) := by decide +kernel
theorem dX1_speakTimes_7 : decode cX1_speakTimes 7 = .ok (.iload_n 1, 1) := by decide +kernel
theorem dX1_speakTimes_8 : decode cX1_speakTimes 8 = .ok (.if_icmp .ge 32, 3) := by decide +kernel
theorem dX1_speakTimes_11 : decode cX1_speakTimes 11 = .ok (.aload_n 0, 1) := by decide +kernel
theorem dX1_speakTimes_12 : decode cX1_speakTimes 12 = .ok (.invokevirtual 98, 3) := by decide +kernel
theorem dX1_speakTimes_15 : decode cX1_speakTimes 15 = .ok (.istore_n 3, 1) := by decide +kernel
theorem dX1_speakTimes_16 : decode cX1_speakTimes 16 = .ok (.iload_n 3, 1) := by decide +kernel
theorem dX1_speakTimes_17 : decode cX1_speakTimes 17 = .ok (.iconst (-1), 1) := by decide +kernel
theorem dX1_speakTimes_18 : decode cX1_speakTimes 18 = .ok (.if_icmp .ne 5, 3) := by decide +kernel
theorem dX1_speakTimes_21 : decode cX1_speakTimes 21 = .ok (.iconst (-1), 1) := by decide +kernel
theorem dX1_speakTimes_22 : decode cX1_speakTimes 22 = .ok (.ireturn, 1) := by decide +kernel
theorem dX1_speakTimes_23 : decode cX1_speakTimes 23 = .ok (.aload_n 0, 1) := by decide +kernel
theorem dX1_speakTimes_24 : decode cX1_speakTimes 24 = .ok (.iload_n 3, 1) := by decide +kernel
theorem dX1_speakTimes_25 : decode cX1_speakTimes 25 = .ok (.invokevirtual 101, 3) := by decide +kernel
theorem dX1_speakTimes_28 : decode cX1_speakTimes 28 = .ok (.aload_n 0, 1) := by decide +kernel
theorem dX1_speakTimes_29 : decode cX1_speakTimes 29 = .ok (.iload_n 3, 1) := by decide +kernel
theorem dX1_speakTimes_30 : decode cX1_speakTimes 30 = .ok (.iload_n 2, 1) := by decide +kernel
theorem dX1_speakTimes_31 : decode cX1_speakTimes 31 = .ok (.invokevirtual 104, 3) := by decide +kernel
theorem dX1_speakTimes_34 : decode cX1_speakTimes 34 = .ok (.iinc 4 1, 3) := by decide +kernel
theorem dX1_speakTimes_37 : decode cX1_speakTimes 37 = .ok (.goto (-32), 3) := by decide +kernel
theorem dX1_speakTimes_40 : decode cX1_speakTimes 40 = .ok (.iload_n 3, 1) := by decide +kernel
theorem dX1_speakTimes_41 : decode cX1_speakTimes 41 = .ok (.ireturn, 1) := by decide +kernel
theorem dX1_loseCell_0 : decode cX1_loseCell 0 = .ok (.aload_n 0, 1) := by decide +kernel
theorem dX1_loseCell_1 : decode cX1_loseCell 1 = .ok (.getfield 9, 3) := by decide +kernel
theorem dX1_loseCell_4 : decode cX1_loseCell 4 = .ok (.iload_n 1, 1) := by decide +kernel
theorem dX1_loseCell_5 : decode cX1_loseCell 5 = .ok (.invokestatic 62, 3) := by decide +kernel
theorem dX1_loseCell_8 : decode cX1_loseCell 8 = .ok (.istore_n 2, 1) := by decide +kernel
theorem dX1_loseCell_9 : decode cX1_loseCell 9 = .ok (.iload_n 2, 1) := by decide +kernel
theorem dX1_loseCell_10 : decode cX1_loseCell 10 = .ok (.iconst (-1), 1) := by decide +kernel
theorem dX1_loseCell_11 : decode cX1_loseCell 11 = .ok (.if_icmp .ne 4, 3) := by decide +kernel
theorem dX1_loseCell_14 : decode cX1_loseCell 14 = .ok (.return_, 1) := by decide +kernel
theorem dX1_loseCell_15 : decode cX1_loseCell 15 = .ok (.aload_n 0, 1) := by decide +kernel
theorem dX1_loseCell_16 : decode cX1_loseCell 16 = .ok (.getfield 50, 3) := by decide +kernel
theorem dX1_loseCell_19 : decode cX1_loseCell 19 = .ok (.iload_n 2, 1) := by decide +kernel
theorem dX1_loseCell_20 : decode cX1_loseCell 20 = .ok (.if_icmp .ne 25, 3) := by decide +kernel
theorem dX1_loseCell_23 : decode cX1_loseCell 23 = .ok (.aload_n 0, 1) := by decide +kernel
theorem dX1_loseCell_24 : decode cX1_loseCell 24 = .ok (.iload_n 1, 1) := by decide +kernel
theorem dX1_loseCell_25 : decode cX1_loseCell 25 = .ok (.invokevirtual 108, 3) := by decide +kernel
theorem dX1_loseCell_28 : decode cX1_loseCell 28 = .ok (.aload_n 0, 1) := by decide +kernel
theorem dX1_loseCell_29 : decode cX1_loseCell 29 = .ok (.getfield 53, 3) := by decide +kernel
theorem dX1_loseCell_32 : decode cX1_loseCell 32 = .ok (.if_icmp .ge 13, 3) := by decide +kernel
theorem dX1_loseCell_35 : decode cX1_loseCell 35 = .ok (.aload_n 0, 1) := by decide +kernel
theorem dX1_loseCell_36 : decode cX1_loseCell 36 = .ok (.dup, 1) := by decide +kernel
theorem dX1_loseCell_37 : decode cX1_loseCell 37 = .ok (.getfield 53, 3) := by decide +kernel
theorem dX1_loseCell_40 : decode cX1_loseCell 40 = .ok (.iconst 1, 1) := by decide +kernel
theorem dX1_loseCell_41 : decode cX1_loseCell 41 = .ok (.isub, 1) := by decide +kernel
theorem dX1_loseCell_42 : decode cX1_loseCell 42 = .ok (.putfield 53, 3) := by decide +kernel
theorem dX1_loseCell_45 : decode cX1_loseCell 45 = .ok (.aload_n 0, 1) := by decide +kernel
theorem dX1_loseCell_46 : decode cX1_loseCell 46 = .ok (.getfield 9, 3) := by decide +kernel
theorem dX1_loseCell_49 : decode cX1_loseCell 49 = .ok (.iload_n 1, 1) := by decide +kernel
theorem dX1_loseCell_50 : decode cX1_loseCell 50 = .ok (.iconst (-1), 1) := by decide +kernel
theorem dX1_loseCell_51 : decode cX1_loseCell 51 = .ok (.invokestatic 66, 3) := by decide +kernel
theorem dX1_loseCell_54 : decode cX1_loseCell 54 = .ok (.aload_n 0, 1) := by decide +kernel
theorem dX1_loseCell_55 : decode cX1_loseCell 55 = .ok (.invokevirtual 85, 3) := by decide +kernel
theorem dX1_loseCell_58 : decode cX1_loseCell 58 = .ok (.aload_n 0, 1) := by decide +kernel
theorem dX1_loseCell_59 : decode cX1_loseCell 59 = .ok (.getfield 31, 3) := by decide +kernel
theorem dX1_loseCell_62 : decode cX1_loseCell 62 = .ok (.iload_n 2, 1) := by decide +kernel
theorem dX1_loseCell_63 : decode cX1_loseCell 63 = .ok (.aload_n 0, 1) := by decide +kernel
theorem dX1_loseCell_64 : decode cX1_loseCell 64 = .ok (.getfield 31, 3) := by decide +kernel
theorem dX1_loseCell_67 : decode cX1_loseCell 67 = .ok (.iload_n 2, 1) := by decide +kernel
theorem dX1_loseCell_68 : decode cX1_loseCell 68 = .ok (.invokestatic 62, 3) := by decide +kernel
theorem dX1_loseCell_71 : decode cX1_loseCell 71 = .ok (.iconst 1, 1) := by decide +kernel
theorem dX1_loseCell_72 : decode cX1_loseCell 72 = .ok (.iadd, 1) := by decide +kernel
theorem dX1_loseCell_73 : decode cX1_loseCell 73 = .ok (.invokestatic 66, 3) := by decide +kernel
theorem dX1_loseCell_76 : decode cX1_loseCell 76 = .ok (.aload_n 0, 1) := by decide +kernel
theorem dX1_loseCell_77 : decode cX1_loseCell 77 = .ok (.iload_n 2, 1) := by decide +kernel
theorem dX1_loseCell_78 : decode cX1_loseCell 78 = .ok (.invokevirtual 74, 3) := by decide +kernel
theorem dX1_loseCell_81 : decode cX1_loseCell 81 = .ok (.ifCond .ne 18, 3) := by decide +kernel
theorem dX1_loseCell_84 : decode cX1_loseCell 84 = .ok (.aload_n 0, 1) := by decide +kernel
theorem dX1_loseCell_85 : decode cX1_loseCell 85 = .ok (.dup, 1) := by decide +kernel
theorem dX1_loseCell_86 : decode cX1_loseCell 86 = .ok (.getfield 47, 3) := by decide +kernel
theorem dX1_loseCell_89 : decode cX1_loseCell 89 = .ok (.iconst 1, 1) := by decide +kernel
theorem dX1_loseCell_90 : decode cX1_loseCell 90 = .ok (.iadd, 1) := by decide +kernel
theorem dX1_loseCell_91 : decode cX1_loseCell 91 = .ok (.putfield 47, 3) := by decide +kernel
theorem dX1_loseCell_94 : decode cX1_loseCell 94 = .ok (.aload_n 0, 1) := by decide +kernel
theorem dX1_loseCell_95 : decode cX1_loseCell 95 = .ok (.iload_n 2, 1) := by decide +kernel
theorem dX1_loseCell_96 : decode cX1_loseCell 96 = .ok (.invokevirtual 81, 3) := by decide +kernel
theorem dX1_loseCell_99 : decode cX1_loseCell 99 = .ok (.return_, 1) := by decide +kernel
theorem dX1_cellsBefore_0 : decode cX1_cellsBefore 0 = .ok (.aload_n 0, 1) := by decide +kernel
theorem dX1_cellsBefore_1 : decode cX1_cellsBefore 1 = .ok (.getfield 9, 3) := by decide +kernel
theorem dX1_cellsBefore_4 : decode cX1_cellsBefore 4 = .ok (.iload_n 1, 1) := by decide +kernel
theorem dX1_cellsBefore_5 : decode cX1_cellsBefore 5 = .ok (.invokestatic 62, 3) := by decide +kernel
theorem dX1_cellsBefore_8 : decode cX1_cellsBefore 8 = .ok (.istore_n 2, 1) := by decide +kernel
theorem dX1_cellsBefore_9 : decode cX1_cellsBefore 9 = .ok (.iconst 0, 1) := by decide +kernel
theorem dX1_cellsBefore_10 : decode cX1_cellsBefore 10 = .ok (.istore_n 3, 1) := by decide +kernel
theorem dX1_cellsBefore_11 : decode cX1_cellsBefore 11 = .ok (.iconst 0, 1) := by decide +kernel
theorem dX1_cellsBefore_12 : decode cX1_cellsBefore 12 = .ok (.istore 4, 2) := by decide +kernel
theorem dX1_cellsBefore_14 : decode cX1_cellsBefore 14 = .ok (.iload 4, 2) := by decide +kernel
theorem dX1_cellsBefore_16 : decode cX1_cellsBefore 16 = .ok (.aload_n 0, 1) := by decide +kernel
theorem dX1_cellsBefore_17 : decode cX1_cellsBefore 17 = .ok (.getfield 24, 3) := by decide +kernel
theorem dX1_cellsBefore_20 : decode cX1_cellsBefore 20 = .ok (.if_icmp .ge 44, 3) := by decide +kernel
theorem dX1_cellsBefore_23 : decode cX1_cellsBefore 23 = .ok (.aload_n 0, 1) := by decide +kernel
theorem dX1_cellsBefore_24 : decode cX1_cellsBefore 24 = .ok (.getfield 21, 3) := by decide +kernel
theorem dX1_cellsBefore_27 : decode cX1_cellsBefore 27 = .ok (.iload 4, 2) := by decide +kernel
theorem dX1_cellsBefore_29 : decode cX1_cellsBefore 29 = .ok (.invokestatic 62, 3) := by decide +kernel
theorem dX1_cellsBefore_32 : decode cX1_cellsBefore 32 = .ok (.istore 5, 2) := by decide +kernel
theorem dX1_cellsBefore_34 : decode cX1_cellsBefore 34 = .ok (.iload 5, 2) := by decide +kernel
theorem dX1_cellsBefore_36 : decode cX1_cellsBefore 36 = .ok (.iload_n 1, 1) := by decide +kernel
theorem dX1_cellsBefore_37 : decode cX1_cellsBefore 37 = .ok (.if_icmp .ne 5, 3) := by decide +kernel
theorem dX1_cellsBefore_40 : decode cX1_cellsBefore 40 = .ok (.iload_n 3, 1) := by decide +kernel
theorem dX1_cellsBefore_41 : decode cX1_cellsBefore 41 = .ok (.ireturn, 1) := by decide +kernel
theorem dX1_cellsBefore_42 : decode cX1_cellsBefore 42 = .ok (.aload_n 0, 1) := by decide +kernel
theorem dX1_cellsBefore_43 : decode cX1_cellsBefore 43 = .ok (.getfield 9, 3) := by decide +kernel
theorem dX1_cellsBefore_46 : decode cX1_cellsBefore 46 = .ok (.iload 5, 2) := by decide +kernel
theorem dX1_cellsBefore_48 : decode cX1_cellsBefore 48 = .ok (.invokestatic 62, 3) := by decide +kernel
theorem dX1_cellsBefore_51 : decode cX1_cellsBefore 51 = .ok (.iload_n 2, 1) := by decide +kernel
theorem dX1_cellsBefore_52 : decode cX1_cellsBefore 52 = .ok (.if_icmp .ne 6, 3) := by decide +kernel
theorem dX1_cellsBefore_55 : decode cX1_cellsBefore 55 = .ok (.iinc 3 1, 3) := by decide +kernel
theorem dX1_cellsBefore_58 : decode cX1_cellsBefore 58 = .ok (.iinc 4 1, 3) := by decide +kernel
theorem dX1_cellsBefore_61 : decode cX1_cellsBefore 61 = .ok (.goto (-47), 3) := by decide +kernel
theorem dX1_cellsBefore_64 : decode cX1_cellsBefore 64 = .ok (.iload_n 3, 1) := by decide +kernel
theorem dX1_cellsBefore_65 : decode cX1_cellsBefore 65 = .ok (.ireturn, 1) := by decide +kernel
theorem dX1_writeCell_0 : decode cX1_writeCell 0 = .ok (.aload_n 0, 1) := by decide +kernel
theorem dX1_writeCell_1 : decode cX1_writeCell 1 = .ok (.getfield 9, 3) := by decide +kernel
theorem dX1_writeCell_4 : decode cX1_writeCell 4 = .ok (.iload_n 1, 1) := by decide +kernel
theorem dX1_writeCell_5 : decode cX1_writeCell 5 = .ok (.aload_n 0, 1) := by decide +kernel
theorem dX1_writeCell_6 : decode cX1_writeCell 6 = .ok (.invokevirtual 70, 3) := by decide +kernel
theorem dX1_writeCell_9 : decode cX1_writeCell 9 = .ok (.invokestatic 66, 3) := by decide +kernel
theorem dX1_writeCell_12 : decode cX1_writeCell 12 = .ok (.aload_n 0, 1) := by decide +kernel
theorem dX1_writeCell_13 : decode cX1_writeCell 13 = .ok (.getfield 15, 3) := by decide +kernel
theorem dX1_writeCell_16 : decode cX1_writeCell 16 = .ok (.iload_n 1, 1) := by decide +kernel
theorem dX1_writeCell_17 : decode cX1_writeCell 17 = .ok (.iload_n 2, 1) := by decide +kernel
theorem dX1_writeCell_18 : decode cX1_writeCell 18 = .ok (.invokestatic 66, 3) := by decide +kernel
theorem dX1_writeCell_21 : decode cX1_writeCell 21 = .ok (.aload_n 0, 1) := by decide +kernel
theorem dX1_writeCell_22 : decode cX1_writeCell 22 = .ok (.getfield 18, 3) := by decide +kernel
theorem dX1_writeCell_25 : decode cX1_writeCell 25 = .ok (.iload_n 1, 1) := by decide +kernel
theorem dX1_writeCell_26 : decode cX1_writeCell 26 = .ok (.iload_n 2, 1) := by decide +kernel
theorem dX1_writeCell_27 : decode cX1_writeCell 27 = .ok (.invokestatic 66, 3) := by decide +kernel
theorem dX1_writeCell_30 : decode cX1_writeCell 30 = .ok (.aload_n 0, 1) := by decide +kernel
theorem dX1_writeCell_31 : decode cX1_writeCell 31 = .ok (.getfield 21, 3) := by decide +kernel
theorem dX1_writeCell_34 : decode cX1_writeCell 34 = .ok (.aload_n 0, 1) := by decide +kernel
theorem dX1_writeCell_35 : decode cX1_writeCell 35 = .ok (.getfield 24, 3) := by decide +kernel
theorem dX1_writeCell_38 : decode cX1_writeCell 38 = .ok (.iload_n 1, 1) := by decide +kernel
theorem dX1_writeCell_39 : decode cX1_writeCell 39 = .ok (.invokestatic 66, 3) := by decide +kernel
theorem dX1_writeCell_42 : decode cX1_writeCell 42 = .ok (.aload_n 0, 1) := by decide +kernel
theorem dX1_writeCell_43 : decode cX1_writeCell 43 = .ok (.dup, 1) := by decide +kernel
theorem dX1_writeCell_44 : decode cX1_writeCell 44 = .ok (.getfield 24, 3) := by decide +kernel
theorem dX1_writeCell_47 : decode cX1_writeCell 47 = .ok (.iconst 1, 1) := by decide +kernel
theorem dX1_writeCell_48 : decode cX1_writeCell 48 = .ok (.iadd, 1) := by decide +kernel
theorem dX1_writeCell_49 : decode cX1_writeCell 49 = .ok (.putfield 24, 3) := by decide +kernel
theorem dX1_writeCell_52 : decode cX1_writeCell 52 = .ok (.aload_n 0, 1) := by decide +kernel
theorem dX1_writeCell_53 : decode cX1_writeCell 53 = .ok (.iload_n 1, 1) := by decide +kernel
theorem dX1_writeCell_54 : decode cX1_writeCell 54 = .ok (.iconst 1, 1) := by decide +kernel
theorem dX1_writeCell_55 : decode cX1_writeCell 55 = .ok (.iadd, 1) := by decide +kernel
theorem dX1_writeCell_56 : decode cX1_writeCell 56 = .ok (.bipush 32, 2) := by decide +kernel
theorem dX1_writeCell_58 : decode cX1_writeCell 58 = .ok (.irem, 1) := by decide +kernel
theorem dX1_writeCell_59 : decode cX1_writeCell 59 = .ok (.putfield 41, 3) := by decide +kernel
theorem dX1_writeCell_62 : decode cX1_writeCell 62 = .ok (.aload_n 0, 1) := by decide +kernel
theorem dX1_writeCell_63 : decode cX1_writeCell 63 = .ok (.dup, 1) := by decide +kernel
theorem dX1_writeCell_64 : decode cX1_writeCell 64 = .ok (.getfield 44, 3) := by decide +kernel
theorem dX1_writeCell_67 : decode cX1_writeCell 67 = .ok (.iconst 1, 1) := by decide +kernel
theorem dX1_writeCell_68 : decode cX1_writeCell 68 = .ok (.iadd, 1) := by decide +kernel
theorem dX1_writeCell_69 : decode cX1_writeCell 69 = .ok (.putfield 44, 3) := by decide +kernel
theorem dX1_writeCell_72 : decode cX1_writeCell 72 = .ok (.return_, 1) := by decide +kernel
theorem dX1_bringPlayer_0 : decode cX1_bringPlayer 0 = .ok (.aload_n 0, 1) := by decide +kernel
theorem dX1_bringPlayer_1 : decode cX1_bringPlayer 1 = .ok (.iload_n 1, 1) := by decide +kernel
theorem dX1_bringPlayer_2 : decode cX1_bringPlayer 2 = .ok (.putfield 50, 3) := by decide +kernel
theorem dX1_bringPlayer_5 : decode cX1_bringPlayer 5 = .ok (.aload_n 0, 1) := by decide +kernel
theorem dX1_bringPlayer_6 : decode cX1_bringPlayer 6 = .ok (.iconst 0, 1) := by decide +kernel
theorem dX1_bringPlayer_7 : decode cX1_bringPlayer 7 = .ok (.putfield 53, 3) := by decide +kernel
theorem dX1_bringPlayer_10 : decode cX1_bringPlayer 10 = .ok (.return_, 1) := by decide +kernel
theorem dX1_playCell_0 : decode cX1_playCell 0 = .ok (.aload_n 0, 1) := by decide +kernel
theorem dX1_playCell_1 : decode cX1_playCell 1 = .ok (.aload_n 0, 1) := by decide +kernel
theorem dX1_playCell_2 : decode cX1_playCell 2 = .ok (.getfield 50, 3) := by decide +kernel
theorem dX1_playCell_5 : decode cX1_playCell 5 = .ok (.aload_n 0, 1) := by decide +kernel
theorem dX1_playCell_6 : decode cX1_playCell 6 = .ok (.getfield 53, 3) := by decide +kernel
theorem dX1_playCell_9 : decode cX1_playCell 9 = .ok (.invokevirtual 111, 3) := by decide +kernel
theorem dX1_playCell_12 : decode cX1_playCell 12 = .ok (.istore_n 1, 1) := by decide +kernel
theorem dX1_playCell_13 : decode cX1_playCell 13 = .ok (.iload_n 1, 1) := by decide +kernel
theorem dX1_playCell_14 : decode cX1_playCell 14 = .ok (.iconst (-1), 1) := by decide +kernel
theorem dX1_playCell_15 : decode cX1_playCell 15 = .ok (.if_icmp .ne 5, 3) := by decide +kernel
theorem dX1_playCell_18 : decode cX1_playCell 18 = .ok (.iconst (-1), 1) := by decide +kernel
theorem dX1_playCell_19 : decode cX1_playCell 19 = .ok (.ireturn, 1) := by decide +kernel
theorem dX1_playCell_20 : decode cX1_playCell 20 = .ok (.aload_n 0, 1) := by decide +kernel
theorem dX1_playCell_21 : decode cX1_playCell 21 = .ok (.dup, 1) := by decide +kernel
theorem dX1_playCell_22 : decode cX1_playCell 22 = .ok (.getfield 53, 3) := by decide +kernel
theorem dX1_playCell_25 : decode cX1_playCell 25 = .ok (.iconst 1, 1) := by decide +kernel
theorem dX1_playCell_26 : decode cX1_playCell 26 = .ok (.iadd, 1) := by decide +kernel
theorem dX1_playCell_27 : decode cX1_playCell 27 = .ok (.putfield 53, 3) := by decide +kernel
theorem dX1_playCell_30 : decode cX1_playCell 30 = .ok (.aload_n 0, 1) := by decide +kernel
theorem dX1_playCell_31 : decode cX1_playCell 31 = .ok (.getfield 15, 3) := by decide +kernel
theorem dX1_playCell_34 : decode cX1_playCell 34 = .ok (.iload_n 1, 1) := by decide +kernel
theorem dX1_playCell_35 : decode cX1_playCell 35 = .ok (.invokestatic 62, 3) := by decide +kernel
theorem dX1_playCell_38 : decode cX1_playCell 38 = .ok (.ireturn, 1) := by decide +kernel
theorem dX1_stepBack_0 : decode cX1_stepBack 0 = .ok (.aload_n 0, 1) := by decide +kernel
theorem dX1_stepBack_1 : decode cX1_stepBack 1 = .ok (.iconst 0, 1) := by decide +kernel
theorem dX1_stepBack_2 : decode cX1_stepBack 2 = .ok (.aload_n 0, 1) := by decide +kernel
theorem dX1_stepBack_3 : decode cX1_stepBack 3 = .ok (.getfield 53, 3) := by decide +kernel
theorem dX1_stepBack_6 : decode cX1_stepBack 6 = .ok (.iload_n 1, 1) := by decide +kernel
theorem dX1_stepBack_7 : decode cX1_stepBack 7 = .ok (.isub, 1) := by decide +kernel
theorem dX1_stepBack_8 : decode cX1_stepBack 8 = .ok (.invokestatic 115, 3) := by decide +kernel
theorem dX1_stepBack_11 : decode cX1_stepBack 11 = .ok (.putfield 53, 3) := by decide +kernel
theorem dX1_stepBack_14 : decode cX1_stepBack 14 = .ok (.aload_n 0, 1) := by decide +kernel
theorem dX1_stepBack_15 : decode cX1_stepBack 15 = .ok (.getfield 53, 3) := by decide +kernel
theorem dX1_stepBack_18 : decode cX1_stepBack 18 = .ok (.ireturn, 1) := by decide +kernel
theorem dX1_correctedCells_0 : decode cX1_correctedCells 0 = .ok (.iconst 0, 1) := by decide +kernel
theorem dX1_correctedCells_1 : decode cX1_correctedCells 1 = .ok (.istore_n 1, 1) := by decide +kernel
theorem dX1_correctedCells_2 : decode cX1_correctedCells 2 = .ok (.iconst 0, 1) := by decide +kernel
theorem dX1_correctedCells_3 : decode cX1_correctedCells 3 = .ok (.istore_n 2, 1) := by decide +kernel
theorem dX1_correctedCells_4 : decode cX1_correctedCells 4 = .ok (.iload_n 2, 1) := by decide +kernel
theorem dX1_correctedCells_5 : decode cX1_correctedCells 5 = .ok (.bipush 32, 2) := by decide +kernel
theorem dX1_correctedCells_7 : decode cX1_correctedCells 7 = .ok (.if_icmp .ge 43, 3) := by decide +kernel
theorem dX1_correctedCells_10 : decode cX1_correctedCells 10 = .ok (.aload_n 0, 1) := by decide +kernel
theorem dX1_correctedCells_11 : decode cX1_correctedCells 11 = .ok (.getfield 9, 3) := by decide +kernel
theorem dX1_correctedCells_14 : decode cX1_correctedCells 14 = .ok (.iload_n 2, 1) := by decide +kernel
theorem dX1_correctedCells_15 : decode cX1_correctedCells 15 = .ok (.invokestatic 62, 3) := by decide +kernel
theorem dX1_correctedCells_18 : decode cX1_correctedCells 18 = .ok (.iconst (-1), 1) := by decide +kernel
theorem dX1_correctedCells_19 : decode cX1_correctedCells 19 = .ok (.if_icmp .eq 25, 3) := by decide +kernel
theorem dX1_correctedCells_22 : decode cX1_correctedCells 22 = .ok (.aload_n 0, 1) := by decide +kernel
theorem dX1_correctedCells_23 : decode cX1_correctedCells 23 = .ok (.getfield 15, 3) := by decide +kernel
theorem dX1_correctedCells_26 : decode cX1_correctedCells 26 = .ok (.iload_n 2, 1) := by decide +kernel
theorem dX1_correctedCells_27 : decode cX1_correctedCells 27 = .ok (.invokestatic 62, 3) := by decide +kernel
theorem dX1_correctedCells_30 : decode cX1_correctedCells 30 = .ok (.aload_n 0, 1) := by decide +kernel
theorem dX1_correctedCells_31 : decode cX1_correctedCells 31 = .ok (.getfield 18, 3) := by decide +kernel
theorem dX1_correctedCells_34 : decode cX1_correctedCells 34 = .ok (.iload_n 2, 1) := by decide +kernel
theorem dX1_correctedCells_35 : decode cX1_correctedCells 35 = .ok (.invokestatic 62, 3) := by decide +kernel
theorem dX1_correctedCells_38 : decode cX1_correctedCells 38 = .ok (.if_icmp .eq 6, 3) := by decide +kernel
theorem dX1_correctedCells_41 : decode cX1_correctedCells 41 = .ok (.iinc 1 1, 3) := by decide +kernel
theorem dX1_correctedCells_44 : decode cX1_correctedCells 44 = .ok (.iinc 2 1, 3) := by decide +kernel
theorem dX1_correctedCells_47 : decode cX1_correctedCells 47 = .ok (.goto (-43), 3) := by decide +kernel
theorem dX1_correctedCells_50 : decode cX1_correctedCells 50 = .ok (.iload_n 1, 1) := by decide +kernel
theorem dX1_correctedCells_51 : decode cX1_correctedCells 51 = .ok (.ireturn, 1) := by decide +kernel
end
section
theorem dX2_init_0 : decode cX2_init 0 = .ok (.aload_n 0, 1) := by decide +kernel
theorem dX2_init_1 : decode cX2_init 1 = .ok (.invokespecial 1, 3) := by decide +kernel
theorem dX2_init_4 : decode cX2_init 4 = .ok (.aload_n 0, 1) := by decide +kernel
theorem dX2_init_5 : decode cX2_init 5 = .ok (.new 7, 3) := by decide +kernel
theorem dX2_init_8 : decode cX2_init 8 = .ok (.dup, 1) := by decide +kernel
theorem dX2_init_9 : decode cX2_init 9 = .ok (.invokespecial 9, 3) := by decide +kernel
theorem dX2_init_12 : decode cX2_init 12 = .ok (.putfield 10, 3) := by decide +kernel
theorem dX2_init_15 : decode cX2_init 15 = .ok (.aload_n 0, 1) := by decide +kernel
theorem dX2_init_16 : decode cX2_init 16 = .ok (.bipush 6, 2) := by decide +kernel
theorem dX2_init_18 : decode cX2_init 18 = .ok (.anewarray 7, 3) := by decide +kernel
theorem dX2_init_21 : decode cX2_init 21 = .ok (.putfield 16, 3) := by decide +kernel
theorem dX2_init_24 : decode cX2_init 24 = .ok (.iconst 0, 1) := by decide +kernel
theorem dX2_init_25 : decode cX2_init 25 = .ok (.istore_n 1, 1) := by decide +kernel
theorem dX2_init_26 : decode cX2_init 26 = .ok (.iload_n 1, 1) := by decide +kernel
theorem dX2_init_27 : decode cX2_init 27 = .ok (.bipush 6, 2) := by decide +kernel
theorem dX2_init_29 : decode cX2_init 29 = .ok (.if_icmp .ge 22, 3) := by decide +kernel
theorem dX2_init_32 : decode cX2_init 32 = .ok (.aload_n 0, 1) := by decide +kernel
theorem dX2_init_33 : decode cX2_init 33 = .ok (.getfield 16, 3) := by decide +kernel
theorem dX2_init_36 : decode cX2_init 36 = .ok (.iload_n 1, 1) := by decide +kernel
theorem dX2_init_37 : decode cX2_init 37 = .ok (.new 7, 3) := by decide +kernel
theorem dX2_init_40 : decode cX2_init 40 = .ok (.dup, 1) := by decide +kernel
theorem dX2_init_41 : decode cX2_init 41 = .ok (.invokespecial 9, 3) := by decide +kernel
theorem dX2_init_44 : decode cX2_init 44 = .ok (.aastore, 1) := by decide +kernel
theorem dX2_init_45 : decode cX2_init 45 = .ok (.iinc 1 1, 3) := by decide +kernel
theorem dX2_init_48 : decode cX2_init 48 = .ok (.goto (-22), 3) := by decide +kernel
theorem dX2_init_51 : decode cX2_init 51 = .ok (.aload_n 0, 1) := by decide +kernel
theorem dX2_init_52 : decode cX2_init 52 = .ok (.iconst 0, 1) := by decide +kernel
theorem dX2_init_53 : decode cX2_init 53 = .ok (.putfield 20, 3) := by decide +kernel
theorem dX2_init_56 : decode cX2_init 56 = .ok (.aload_n 0, 1) := by decide +kernel
theorem dX2_init_57 : decode cX2_init 57 = .ok (.iconst 0, 1) := by decide +kernel
theorem dX2_init_58 : decode cX2_init 58 = .ok (.putfield 24, 3) := by decide +kernel
theorem dX2_init_61 : decode cX2_init 61 = .ok (.aload_n 0, 1) := by decide +kernel
theorem dX2_init_62 : decode cX2_init 62 = .ok (.new 27, 3) := by decide +kernel
theorem dX2_init_65 : decode cX2_init 65 = .ok (.dup, 1) := by decide +kernel
theorem dX2_init_66 : decode cX2_init 66 = .ok (.invokespecial 29, 3) := by decide +kernel
theorem dX2_init_69 : decode cX2_init 69 = .ok (.putfield 30, 3) := by decide +kernel
theorem dX2_init_72 : decode cX2_init 72 = .ok (.return_, 1) := by decide +kernel
theorem dX2_begin_0 : decode cX2_begin 0 = .ok (.aload_n 0, 1) := by decide +kernel
theorem dX2_begin_1 : decode cX2_begin 1 = .ok (.getfield 10, 3) := by decide +kernel
theorem dX2_begin_4 : decode cX2_begin 4 = .ok (.invokevirtual 34, 3) := by decide +kernel
theorem dX2_begin_7 : decode cX2_begin 7 = .ok (.ifCond .ne 13, 3) := by decide +kernel
theorem dX2_begin_10 : decode cX2_begin 10 = .ok (.new 38, 3) := by decide +kernel
theorem dX2_begin_13 : decode cX2_begin 13 = .ok (.dup, 1) := by decide +kernel
theorem dX2_begin_14 : decode cX2_begin 14 = .ok (.ldc 40, 2) := by decide +kernel
theorem dX2_begin_16 : decode cX2_begin 16 = .ok (.invokespecial 42, 3) := by decide +kernel
theorem dX2_begin_19 : decode cX2_begin 19 = .ok (.athrow, 1) := by decide +kernel
theorem dX2_begin_20 : decode cX2_begin 20 = .ok (.aload_n 0, 1) := by decide +kernel
theorem dX2_begin_21 : decode cX2_begin 21 = .ok (.invokevirtual 45, 3) := by decide +kernel
theorem dX2_begin_24 : decode cX2_begin 24 = .ok (.aload_n 0, 1) := by decide +kernel
theorem dX2_begin_25 : decode cX2_begin 25 = .ok (.getfield 10, 3) := by decide +kernel
theorem dX2_begin_28 : decode cX2_begin 28 = .ok (.invokevirtual 48, 3) := by decide +kernel
theorem dX2_begin_31 : decode cX2_begin 31 = .ok (.ireturn, 1) := by decide +kernel
theorem dX2_halt_0 : decode cX2_halt 0 = .ok (.aload_n 0, 1) := by decide +kernel
theorem dX2_halt_1 : decode cX2_halt 1 = .ok (.getfield 10, 3) := by decide +kernel
theorem dX2_halt_4 : decode cX2_halt 4 = .ok (.getfield 52, 3) := by decide +kernel
theorem dX2_halt_7 : decode cX2_halt 7 = .ok (.ifCond .ne 13, 3) := by decide +kernel
theorem dX2_halt_10 : decode cX2_halt 10 = .ok (.new 38, 3) := by decide +kernel
theorem dX2_halt_13 : decode cX2_halt 13 = .ok (.dup, 1) := by decide +kernel
theorem dX2_halt_14 : decode cX2_halt 14 = .ok (.ldc 56, 2) := by decide +kernel
theorem dX2_halt_16 : decode cX2_halt 16 = .ok (.invokespecial 42, 3) := by decide +kernel
theorem dX2_halt_19 : decode cX2_halt 19 = .ok (.athrow, 1) := by decide +kernel
theorem dX2_halt_20 : decode cX2_halt 20 = .ok (.aload_n 0, 1) := by decide +kernel
theorem dX2_halt_21 : decode cX2_halt 21 = .ok (.invokevirtual 45, 3) := by decide +kernel
theorem dX2_halt_24 : decode cX2_halt 24 = .ok (.aload_n 0, 1) := by decide +kernel
theorem dX2_halt_25 : decode cX2_halt 25 = .ok (.getfield 10, 3) := by decide +kernel
theorem dX2_halt_28 : decode cX2_halt 28 = .ok (.invokevirtual 58, 3) := by decide +kernel
theorem dX2_halt_31 : decode cX2_halt 31 = .ok (.ireturn, 1) := by decide +kernel
theorem dX2_speak_0 : decode cX2_speak 0 = .ok (.iload_n 1, 1) := by decide +kernel
theorem dX2_speak_1 : decode cX2_speak 1 = .ok (.invokestatic 61, 3) := by decide +kernel
theorem dX2_speak_4 : decode cX2_speak 4 = .ok (.aload_n 0, 1) := by decide +kernel
theorem dX2_speak_5 : decode cX2_speak 5 = .ok (.getfield 10, 3) := by decide +kernel
theorem dX2_speak_8 : decode cX2_speak 8 = .ok (.iconst 1, 1) := by decide +kernel
theorem dX2_speak_9 : decode cX2_speak 9 = .ok (.invokevirtual 65, 3) := by decide +kernel
theorem dX2_speak_12 : decode cX2_speak 12 = .ok (.ifCond .ne 13, 3) := by decide +kernel
theorem dX2_speak_15 : decode cX2_speak 15 = .ok (.new 38, 3) := by decide +kernel
theorem dX2_speak_18 : decode cX2_speak 18 = .ok (.dup, 1) := by decide +kernel
theorem dX2_speak_19 : decode cX2_speak 19 = .ok (.ldc 69, 2) := by decide +kernel
theorem dX2_speak_21 : decode cX2_speak 21 = .ok (.invokespecial 42, 3) := by decide +kernel
theorem dX2_speak_24 : decode cX2_speak 24 = .ok (.athrow, 1) := by decide +kernel
theorem dX2_speak_25 : decode cX2_speak 25 = .ok (.aload_n 0, 1) := by decide +kernel
theorem dX2_speak_26 : decode cX2_speak 26 = .ok (.invokevirtual 45, 3) := by decide +kernel
theorem dX2_speak_29 : decode cX2_speak 29 = .ok (.aload_n 0, 1) := by decide +kernel
theorem dX2_speak_30 : decode cX2_speak 30 = .ok (.getfield 10, 3) := by decide +kernel
theorem dX2_speak_33 : decode cX2_speak 33 = .ok (.iconst 1, 1) := by decide +kernel
theorem dX2_speak_34 : decode cX2_speak 34 = .ok (.iload_n 1, 1) := by decide +kernel
theorem dX2_speak_35 : decode cX2_speak 35 = .ok (.invokevirtual 71, 3) := by decide +kernel
theorem dX2_speak_38 : decode cX2_speak 38 = .ok (.ireturn, 1) := by decide +kernel
theorem dX2_setFlag_0 : decode cX2_setFlag 0 = .ok (.aload_n 0, 1) := by decide +kernel
theorem dX2_setFlag_1 : decode cX2_setFlag 1 = .ok (.iload_n 1, 1) := by decide +kernel
theorem dX2_setFlag_2 : decode cX2_setFlag 2 = .ok (.invokevirtual 75, 3) := by decide +kernel
theorem dX2_setFlag_5 : decode cX2_setFlag 5 = .ok (.aload_n 0, 1) := by decide +kernel
theorem dX2_setFlag_6 : decode cX2_setFlag 6 = .ok (.invokevirtual 45, 3) := by decide +kernel
theorem dX2_setFlag_9 : decode cX2_setFlag 9 = .ok (.aload_n 0, 1) := by decide +kernel
theorem dX2_setFlag_10 : decode cX2_setFlag 10 = .ok (.getfield 10, 3) := by decide +kernel
theorem dX2_setFlag_13 : decode cX2_setFlag 13 = .ok (.iload_n 1, 1) := by decide +kernel
theorem dX2_setFlag_14 : decode cX2_setFlag 14 = .ok (.invokevirtual 78, 3) := by decide +kernel
theorem dX2_setFlag_17 : decode cX2_setFlag 17 = .ok (.istore_n 3, 1) := by decide +kernel
theorem dX2_setFlag_18 : decode cX2_setFlag 18 = .ok (.aload_n 0, 1) := by decide +kernel
theorem dX2_setFlag_19 : decode cX2_setFlag 19 = .ok (.getfield 10, 3) := by decide +kernel
theorem dX2_setFlag_22 : decode cX2_setFlag 22 = .ok (.iload_n 1, 1) := by decide +kernel
theorem dX2_setFlag_23 : decode cX2_setFlag 23 = .ok (.iload_n 2, 1) := by decide +kernel
theorem dX2_setFlag_24 : decode cX2_setFlag 24 = .ok (.invokevirtual 81, 3) := by decide +kernel
theorem dX2_setFlag_27 : decode cX2_setFlag 27 = .ok (.iload_n 3, 1) := by decide +kernel
theorem dX2_setFlag_28 : decode cX2_setFlag 28 = .ok (.ireturn, 1) := by decide +kernel
theorem dX2_erase_0 : decode cX2_erase 0 = .ok (.aload_n 0, 1) := by decide +kernel
theorem dX2_erase_1 : decode cX2_erase 1 = .ok (.iload_n 1, 1) := by decide +kernel
theorem dX2_erase_2 : decode cX2_erase 2 = .ok (.invokevirtual 75, 3) := by decide +kernel
theorem dX2_erase_5 : decode cX2_erase 5 = .ok (.aload_n 0, 1) := by decide +kernel
theorem dX2_erase_6 : decode cX2_erase 6 = .ok (.getfield 10, 3) := by decide +kernel
theorem dX2_erase_9 : decode cX2_erase 9 = .ok (.iload_n 1, 1) := by decide +kernel
theorem dX2_erase_10 : decode cX2_erase 10 = .ok (.invokevirtual 78, 3) := by decide +kernel
theorem dX2_erase_13 : decode cX2_erase 13 = .ok (.ifCond .eq 13, 3) := by decide +kernel
theorem dX2_erase_16 : decode cX2_erase 16 = .ok (.new 38, 3) := by decide +kernel
theorem dX2_erase_19 : decode cX2_erase 19 = .ok (.dup, 1) := by decide +kernel
theorem dX2_erase_20 : decode cX2_erase 20 = .ok (.ldc 85, 2) := by decide +kernel
theorem dX2_erase_22 : decode cX2_erase 22 = .ok (.invokespecial 42, 3) := by decide +kernel
theorem dX2_erase_25 : decode cX2_erase 25 = .ok (.athrow, 1) := by decide +kernel
theorem dX2_erase_26 : decode cX2_erase 26 = .ok (.aload_n 0, 1) := by decide +kernel
theorem dX2_erase_27 : decode cX2_erase 27 = .ok (.invokevirtual 45, 3) := by decide +kernel
theorem dX2_erase_30 : decode cX2_erase 30 = .ok (.aload_n 0, 1) := by decide +kernel
theorem dX2_erase_31 : decode cX2_erase 31 = .ok (.getfield 10, 3) := by decide +kernel
theorem dX2_erase_34 : decode cX2_erase 34 = .ok (.iload_n 1, 1) := by decide +kernel
theorem dX2_erase_35 : decode cX2_erase 35 = .ok (.invokevirtual 87, 3) := by decide +kernel
theorem dX2_erase_38 : decode cX2_erase 38 = .ok (.ireturn, 1) := by decide +kernel
theorem dX2_moveHead_0 : decode cX2_moveHead 0 = .ok (.iload_n 1, 1) := by decide +kernel
theorem dX2_moveHead_1 : decode cX2_moveHead 1 = .ok (.invokestatic 91, 3) := by decide +kernel
theorem dX2_moveHead_4 : decode cX2_moveHead 4 = .ok (.aload_n 0, 1) := by decide +kernel
theorem dX2_moveHead_5 : decode cX2_moveHead 5 = .ok (.getfield 10, 3) := by decide +kernel
theorem dX2_moveHead_8 : decode cX2_moveHead 8 = .ok (.getfield 52, 3) := by decide +kernel
theorem dX2_moveHead_11 : decode cX2_moveHead 11 = .ok (.ifCond .eq 13, 3) := by decide +kernel
theorem dX2_moveHead_14 : decode cX2_moveHead 14 = .ok (.new 38, 3) := by decide +kernel
theorem dX2_moveHead_17 : decode cX2_moveHead 17 = .ok (.dup, 1) := by decide +kernel
theorem dX2_moveHead_18 : decode cX2_moveHead 18 = .ok (.ldc 94, 2) := by decide +kernel
theorem dX2_moveHead_20 : decode cX2_moveHead 20 = .ok (.invokespecial 42, 3) := by decide +kernel
theorem dX2_moveHead_23 : decode cX2_moveHead 23 = .ok (.athrow, 1) := by decide +kernel
theorem dX2_moveHead_24 : decode cX2_moveHead 24 = .ok (.aload_n 0, 1) := by decide +kernel
theorem dX2_moveHead_25 : decode cX2_moveHead 25 = .ok (.invokevirtual 45, 3) := by decide +kernel
theorem dX2_moveHead_28 : decode cX2_moveHead 28 = .ok (.aload_n 0, 1) := by decide +kernel
theorem dX2_moveHead_29 : decode cX2_moveHead 29 = .ok (.getfield 10, 3) := by decide +kernel
theorem dX2_moveHead_32 : decode cX2_moveHead 32 = .ok (.getfield 96, 3) := by decide +kernel
theorem dX2_moveHead_35 : decode cX2_moveHead 35 = .ok (.istore_n 2, 1) := by decide +kernel
theorem dX2_moveHead_36 : decode cX2_moveHead 36 = .ok (.aload_n 0, 1) := by decide +kernel
theorem dX2_moveHead_37 : decode cX2_moveHead 37 = .ok (.getfield 10, 3) := by decide +kernel
theorem dX2_moveHead_40 : decode cX2_moveHead 40 = .ok (.iload_n 1, 1) := by decide +kernel
theorem dX2_moveHead_41 : decode cX2_moveHead 41 = .ok (.putfield 96, 3) := by decide +kernel
theorem dX2_moveHead_44 : decode cX2_moveHead 44 = .ok (.iload_n 2, 1) := by decide +kernel
theorem dX2_moveHead_45 : decode cX2_moveHead 45 = .ok (.ireturn, 1) := by decide +kernel
theorem dX2_recordings_0 : decode cX2_recordings 0 = .ok (.aload_n 0, 1) := by decide +kernel
theorem dX2_recordings_1 : decode cX2_recordings 1 = .ok (.getfield 10, 3) := by decide +kernel
theorem dX2_recordings_4 : decode cX2_recordings 4 = .ok (.getfield 99, 3) := by decide +kernel
theorem dX2_recordings_7 : decode cX2_recordings 7 = .ok (.ireturn, 1) := by decide +kernel
theorem dX2_running_0 : decode cX2_running 0 = .ok (.aload_n 0, 1) := by decide +kernel
theorem dX2_running_1 : decode cX2_running 1 = .ok (.getfield 10, 3) := by decide +kernel
theorem dX2_running_4 : decode cX2_running 4 = .ok (.invokevirtual 102, 3) := by decide +kernel
theorem dX2_running_7 : decode cX2_running 7 = .ok (.ireturn, 1) := by decide +kernel
theorem dX2_head_0 : decode cX2_head 0 = .ok (.aload_n 0, 1) := by decide +kernel
theorem dX2_head_1 : decode cX2_head 1 = .ok (.getfield 10, 3) := by decide +kernel
theorem dX2_head_4 : decode cX2_head 4 = .ok (.getfield 96, 3) := by decide +kernel
theorem dX2_head_7 : decode cX2_head 7 = .ok (.ireturn, 1) := by decide +kernel
theorem dX2_length_0 : decode cX2_length 0 = .ok (.aload_n 0, 1) := by decide +kernel
theorem dX2_length_1 : decode cX2_length 1 = .ok (.iload_n 1, 1) := by decide +kernel
theorem dX2_length_2 : decode cX2_length 2 = .ok (.invokevirtual 75, 3) := by decide +kernel
theorem dX2_length_5 : decode cX2_length 5 = .ok (.aload_n 0, 1) := by decide +kernel
theorem dX2_length_6 : decode cX2_length 6 = .ok (.getfield 10, 3) := by decide +kernel
theorem dX2_length_9 : decode cX2_length 9 = .ok (.iload_n 1, 1) := by decide +kernel
theorem dX2_length_10 : decode cX2_length 10 = .ok (.invokevirtual 105, 3) := by decide +kernel
theorem dX2_length_13 : decode cX2_length 13 = .ok (.ireturn, 1) := by decide +kernel
theorem dX2_sound_0 : decode cX2_sound 0 = .ok (.aload_n 0, 1) := by decide +kernel
theorem dX2_sound_1 : decode cX2_sound 1 = .ok (.iload_n 1, 1) := by decide +kernel
theorem dX2_sound_2 : decode cX2_sound 2 = .ok (.iload_n 2, 1) := by decide +kernel
theorem dX2_sound_3 : decode cX2_sound 3 = .ok (.invokevirtual 108, 3) := by decide +kernel
theorem dX2_sound_6 : decode cX2_sound 6 = .ok (.aload_n 0, 1) := by decide +kernel
theorem dX2_sound_7 : decode cX2_sound 7 = .ok (.getfield 10, 3) := by decide +kernel
theorem dX2_sound_10 : decode cX2_sound 10 = .ok (.getfield 112, 3) := by decide +kernel
theorem dX2_sound_13 : decode cX2_sound 13 = .ok (.aload_n 0, 1) := by decide +kernel
theorem dX2_sound_14 : decode cX2_sound 14 = .ok (.getfield 10, 3) := by decide +kernel
theorem dX2_sound_17 : decode cX2_sound 17 = .ok (.iload_n 1, 1) := by decide +kernel
theorem dX2_sound_18 : decode cX2_sound 18 = .ok (.iload_n 2, 1) := by decide +kernel
theorem dX2_sound_19 : decode cX2_sound 19 = .ok (.invokevirtual 116, 3) := by decide +kernel
theorem dX2_sound_22 : decode cX2_sound 22 = .ok (.invokestatic 119, 3) := by decide +kernel
theorem dX2_sound_25 : decode cX2_sound 25 = .ok (.ireturn, 1) := by decide +kernel
theorem dX2_cellOf_0 : decode cX2_cellOf 0 = .ok (.aload_n 0, 1) := by decide +kernel
theorem dX2_cellOf_1 : decode cX2_cellOf 1 = .ok (.iload_n 1, 1) := by decide +kernel
theorem dX2_cellOf_2 : decode cX2_cellOf 2 = .ok (.iload_n 2, 1) := by decide +kernel
theorem dX2_cellOf_3 : decode cX2_cellOf 3 = .ok (.invokevirtual 108, 3) := by decide +kernel
theorem dX2_cellOf_6 : decode cX2_cellOf 6 = .ok (.aload_n 0, 1) := by decide +kernel
theorem dX2_cellOf_7 : decode cX2_cellOf 7 = .ok (.getfield 10, 3) := by decide +kernel
theorem dX2_cellOf_10 : decode cX2_cellOf 10 = .ok (.iload_n 1, 1) := by decide +kernel
theorem dX2_cellOf_11 : decode cX2_cellOf 11 = .ok (.iload_n 2, 1) := by decide +kernel
theorem dX2_cellOf_12 : decode cX2_cellOf 12 = .ok (.invokevirtual 116, 3) := by decide +kernel
theorem dX2_cellOf_15 : decode cX2_cellOf 15 = .ok (.ireturn, 1) := by decide +kernel
theorem dX2_hasFlag_0 : decode cX2_hasFlag 0 = .ok (.aload_n 0, 1) := by decide +kernel
theorem dX2_hasFlag_1 : decode cX2_hasFlag 1 = .ok (.iload_n 1, 1) := by decide +kernel
theorem dX2_hasFlag_2 : decode cX2_hasFlag 2 = .ok (.invokevirtual 75, 3) := by decide +kernel
theorem dX2_hasFlag_5 : decode cX2_hasFlag 5 = .ok (.aload_n 0, 1) := by decide +kernel
theorem dX2_hasFlag_6 : decode cX2_hasFlag 6 = .ok (.getfield 10, 3) := by decide +kernel
theorem dX2_hasFlag_9 : decode cX2_hasFlag 9 = .ok (.iload_n 1, 1) := by decide +kernel
theorem dX2_hasFlag_10 : decode cX2_hasFlag 10 = .ok (.invokevirtual 78, 3) := by decide +kernel
theorem dX2_hasFlag_13 : decode cX2_hasFlag 13 = .ok (.ireturn, 1) := by decide +kernel
theorem dX2_lost_0 : decode cX2_lost 0 = .ok (.aload_n 0, 1) := by decide +kernel
theorem dX2_lost_1 : decode cX2_lost 1 = .ok (.iload_n 1, 1) := by decide +kernel
theorem dX2_lost_2 : decode cX2_lost 2 = .ok (.invokevirtual 75, 3) := by decide +kernel
theorem dX2_lost_5 : decode cX2_lost 5 = .ok (.aload_n 0, 1) := by decide +kernel
theorem dX2_lost_6 : decode cX2_lost 6 = .ok (.getfield 10, 3) := by decide +kernel
theorem dX2_lost_9 : decode cX2_lost 9 = .ok (.getfield 123, 3) := by decide +kernel
theorem dX2_lost_12 : decode cX2_lost 12 = .ok (.iload_n 1, 1) := by decide +kernel
theorem dX2_lost_13 : decode cX2_lost 13 = .ok (.invokestatic 119, 3) := by decide +kernel
theorem dX2_lost_16 : decode cX2_lost 16 = .ok (.ireturn, 1) := by decide +kernel
theorem dX2_owner_0 : decode cX2_owner 0 = .ok (.iload_n 1, 1) := by decide +kernel
theorem dX2_owner_1 : decode cX2_owner 1 = .ok (.invokestatic 91, 3) := by decide +kernel
theorem dX2_owner_4 : decode cX2_owner 4 = .ok (.aload_n 0, 1) := by decide +kernel
theorem dX2_owner_5 : decode cX2_owner 5 = .ok (.getfield 10, 3) := by decide +kernel
theorem dX2_owner_8 : decode cX2_owner 8 = .ok (.getfield 126, 3) := by decide +kernel
theorem dX2_owner_11 : decode cX2_owner 11 = .ok (.iload_n 1, 1) := by decide +kernel
theorem dX2_owner_12 : decode cX2_owner 12 = .ok (.invokestatic 119, 3) := by decide +kernel
theorem dX2_owner_15 : decode cX2_owner 15 = .ok (.ireturn, 1) := by decide +kernel
theorem dX2_free_0 : decode cX2_free 0 = .ok (.bipush 32, 2) := by decide +kernel
theorem dX2_free_2 : decode cX2_free 2 = .ok (.aload_n 0, 1) := by decide +kernel
theorem dX2_free_3 : decode cX2_free 3 = .ok (.getfield 10, 3) := by decide +kernel
theorem dX2_free_6 : decode cX2_free 6 = .ok (.getfield 129, 3) := by decide +kernel
theorem dX2_free_9 : decode cX2_free 9 = .ok (.isub, 1) := by decide +kernel
theorem dX2_free_10 : decode cX2_free 10 = .ok (.ireturn, 1) := by decide +kernel
theorem dX2_spoken_0 : decode cX2_spoken 0 = .ok (.aload_n 0, 1) := by decide +kernel
theorem dX2_spoken_1 : decode cX2_spoken 1 = .ok (.getfield 10, 3) := by decide +kernel
theorem dX2_spoken_4 : decode cX2_spoken 4 = .ok (.getfield 132, 3) := by decide +kernel
theorem dX2_spoken_7 : decode cX2_spoken 7 = .ok (.ireturn, 1) := by decide +kernel
theorem dX2_gone_0 : decode cX2_gone 0 = .ok (.aload_n 0, 1) := by decide +kernel
theorem dX2_gone_1 : decode cX2_gone 1 = .ok (.getfield 10, 3) := by decide +kernel
theorem dX2_gone_4 : decode cX2_gone 4 = .ok (.getfield 135, 3) := by decide +kernel
theorem dX2_gone_7 : decode cX2_gone 7 = .ok (.ireturn, 1) := by decide +kernel
theorem dX2_usedShare_0 : decode cX2_usedShare 0 = .ok (.aload_n 0, 1) := by decide +kernel
theorem dX2_usedShare_1 : decode cX2_usedShare 1 = .ok (.getfield 10, 3) := by decide +kernel
theorem dX2_usedShare_4 : decode cX2_usedShare 4 = .ok (.getfield 129, 3) := by decide +kernel
theorem dX2_usedShare_7 : decode cX2_usedShare 7 = .ok (.i2d, 1) := by decide +kernel
theorem dX2_usedShare_8 : decode cX2_usedShare 8 = .ok (.ldc2_w 138, 3) := by decide +kernel
theorem dX2_usedShare_11 : decode cX2_usedShare 11 = .ok (.ddiv, 1) := by decide +kernel
theorem dX2_usedShare_12 : decode cX2_usedShare 12 = .ok (.dreturn, 1) := by decide +kernel
theorem dX2_go_0 : decode cX2_go 0 = .ok (.aload_n 0, 1) := by decide +kernel
theorem dX2_go_1 : decode cX2_go 1 = .ok (.iload_n 1, 1) := by decide +kernel
theorem dX2_go_2 : decode cX2_go 2 = .ok (.invokevirtual 75, 3) := by decide +kernel
theorem dX2_go_5 : decode cX2_go 5 = .ok (.aload_n 0, 1) := by decide +kernel
theorem dX2_go_6 : decode cX2_go 6 = .ok (.invokevirtual 45, 3) := by decide +kernel
theorem dX2_go_9 : decode cX2_go 9 = .ok (.aload_n 0, 1) := by decide +kernel
theorem dX2_go_10 : decode cX2_go 10 = .ok (.getfield 10, 3) := by decide +kernel
theorem dX2_go_13 : decode cX2_go 13 = .ok (.iload_n 1, 1) := by decide +kernel
theorem dX2_go_14 : decode cX2_go 14 = .ok (.invokevirtual 140, 3) := by decide +kernel
theorem dX2_go_17 : decode cX2_go 17 = .ok (.aload_n 0, 1) := by decide +kernel
theorem dX2_go_18 : decode cX2_go 18 = .ok (.getfield 10, 3) := by decide +kernel
theorem dX2_go_21 : decode cX2_go 21 = .ok (.iload_n 1, 1) := by decide +kernel
theorem dX2_go_22 : decode cX2_go 22 = .ok (.invokevirtual 105, 3) := by decide +kernel
theorem dX2_go_25 : decode cX2_go 25 = .ok (.ireturn, 1) := by decide +kernel
theorem dX2_play_0 : decode cX2_play 0 = .ok (.aload_n 0, 1) := by decide +kernel
theorem dX2_play_1 : decode cX2_play 1 = .ok (.invokevirtual 143, 3) := by decide +kernel
theorem dX2_play_4 : decode cX2_play 4 = .ok (.aload_n 0, 1) := by decide +kernel
theorem dX2_play_5 : decode cX2_play 5 = .ok (.invokevirtual 45, 3) := by decide +kernel
theorem dX2_play_8 : decode cX2_play 8 = .ok (.aload_n 0, 1) := by decide +kernel
theorem dX2_play_9 : decode cX2_play 9 = .ok (.getfield 10, 3) := by decide +kernel
theorem dX2_play_12 : decode cX2_play 12 = .ok (.invokevirtual 146, 3) := by decide +kernel
theorem dX2_play_15 : decode cX2_play 15 = .ok (.ireturn, 1) := by decide +kernel
theorem dX2_back_0 : decode cX2_back 0 = .ok (.iload_n 1, 1) := by decide +kernel
theorem dX2_back_1 : decode cX2_back 1 = .ok (.iconst 1, 1) := by decide +kernel
theorem dX2_back_2 : decode cX2_back 2 = .ok (.if_icmp .lt 9, 3) := by decide +kernel
theorem dX2_back_5 : decode cX2_back 5 = .ok (.iload_n 1, 1) := by decide +kernel
theorem dX2_back_6 : decode cX2_back 6 = .ok (.bipush 9, 2) := by decide +kernel
theorem dX2_back_8 : decode cX2_back 8 = .ok (.if_icmp .le 13, 3) := by decide +kernel
theorem dX2_back_11 : decode cX2_back 11 = .ok (.new 149, 3) := by decide +kernel
theorem dX2_back_14 : decode cX2_back 14 = .ok (.dup, 1) := by decide +kernel
theorem dX2_back_15 : decode cX2_back 15 = .ok (.ldc 151, 2) := by decide +kernel
theorem dX2_back_17 : decode cX2_back 17 = .ok (.invokespecial 153, 3) := by decide +kernel
theorem dX2_back_20 : decode cX2_back 20 = .ok (.athrow, 1) := by decide +kernel
theorem dX2_back_21 : decode cX2_back 21 = .ok (.aload_n 0, 1) := by decide +kernel
theorem dX2_back_22 : decode cX2_back 22 = .ok (.invokevirtual 143, 3) := by decide +kernel
theorem dX2_back_25 : decode cX2_back 25 = .ok (.aload_n 0, 1) := by decide +kernel
theorem dX2_back_26 : decode cX2_back 26 = .ok (.invokevirtual 45, 3) := by decide +kernel
theorem dX2_back_29 : decode cX2_back 29 = .ok (.aload_n 0, 1) := by decide +kernel
theorem dX2_back_30 : decode cX2_back 30 = .ok (.getfield 10, 3) := by decide +kernel
theorem dX2_back_33 : decode cX2_back 33 = .ok (.iload_n 1, 1) := by decide +kernel
theorem dX2_back_34 : decode cX2_back 34 = .ok (.invokevirtual 154, 3) := by decide +kernel
theorem dX2_back_37 : decode cX2_back 37 = .ok (.ireturn, 1) := by decide +kernel
theorem dX2_playing_0 : decode cX2_playing 0 = .ok (.aload_n 0, 1) := by decide +kernel
theorem dX2_playing_1 : decode cX2_playing 1 = .ok (.getfield 10, 3) := by decide +kernel
theorem dX2_playing_4 : decode cX2_playing 4 = .ok (.getfield 157, 3) := by decide +kernel
theorem dX2_playing_7 : decode cX2_playing 7 = .ok (.ireturn, 1) := by decide +kernel
theorem dX2_place_0 : decode cX2_place 0 = .ok (.aload_n 0, 1) := by decide +kernel
theorem dX2_place_1 : decode cX2_place 1 = .ok (.getfield 10, 3) := by decide +kernel
theorem dX2_place_4 : decode cX2_place 4 = .ok (.getfield 160, 3) := by decide +kernel
theorem dX2_place_7 : decode cX2_place 7 = .ok (.ireturn, 1) := by decide +kernel
theorem dX2_correct_0 : decode cX2_correct 0 = .ok (.aload_n 0, 1) := by decide +kernel
theorem dX2_correct_1 : decode cX2_correct 1 = .ok (.iload_n 1, 1) := by decide +kernel
theorem dX2_correct_2 : decode cX2_correct 2 = .ok (.iload_n 2, 1) := by decide +kernel
theorem dX2_correct_3 : decode cX2_correct 3 = .ok (.invokevirtual 108, 3) := by decide +kernel
theorem dX2_correct_6 : decode cX2_correct 6 = .ok (.aload_n 0, 1) := by decide +kernel
theorem dX2_correct_7 : decode cX2_correct 7 = .ok (.getfield 10, 3) := by decide +kernel
theorem dX2_correct_10 : decode cX2_correct 10 = .ok (.iload_n 1, 1) := by decide +kernel
theorem dX2_correct_11 : decode cX2_correct 11 = .ok (.iload_n 2, 1) := by decide +kernel
theorem dX2_correct_12 : decode cX2_correct 12 = .ok (.invokevirtual 116, 3) := by decide +kernel
theorem dX2_correct_15 : decode cX2_correct 15 = .ok (.istore 4, 2) := by decide +kernel
theorem dX2_correct_17 : decode cX2_correct 17 = .ok (.iload 4, 2) := by decide +kernel
theorem dX2_correct_19 : decode cX2_correct 19 = .ok (.invokestatic 91, 3) := by decide +kernel
theorem dX2_correct_22 : decode cX2_correct 22 = .ok (.iload_n 3, 1) := by decide +kernel
theorem dX2_correct_23 : decode cX2_correct 23 = .ok (.invokestatic 61, 3) := by decide +kernel
theorem dX2_correct_26 : decode cX2_correct 26 = .ok (.aload_n 0, 1) := by decide +kernel
theorem dX2_correct_27 : decode cX2_correct 27 = .ok (.getfield 10, 3) := by decide +kernel
theorem dX2_correct_30 : decode cX2_correct 30 = .ok (.iload_n 1, 1) := by decide +kernel
theorem dX2_correct_31 : decode cX2_correct 31 = .ok (.invokevirtual 78, 3) := by decide +kernel
theorem dX2_correct_34 : decode cX2_correct 34 = .ok (.ifCond .eq 13, 3) := by decide +kernel
theorem dX2_correct_37 : decode cX2_correct 37 = .ok (.new 38, 3) := by decide +kernel
theorem dX2_correct_40 : decode cX2_correct 40 = .ok (.dup, 1) := by decide +kernel
theorem dX2_correct_41 : decode cX2_correct 41 = .ok (.ldc 85, 2) := by decide +kernel
theorem dX2_correct_43 : decode cX2_correct 43 = .ok (.invokespecial 42, 3) := by decide +kernel
theorem dX2_correct_46 : decode cX2_correct 46 = .ok (.athrow, 1) := by decide +kernel
theorem dX2_correct_47 : decode cX2_correct 47 = .ok (.aload_n 0, 1) := by decide +kernel
theorem dX2_correct_48 : decode cX2_correct 48 = .ok (.invokevirtual 45, 3) := by decide +kernel
theorem dX2_correct_51 : decode cX2_correct 51 = .ok (.aload_n 0, 1) := by decide +kernel
theorem dX2_correct_52 : decode cX2_correct 52 = .ok (.getfield 10, 3) := by decide +kernel
theorem dX2_correct_55 : decode cX2_correct 55 = .ok (.getfield 112, 3) := by decide +kernel
theorem dX2_correct_58 : decode cX2_correct 58 = .ok (.iload 4, 2) := by decide +kernel
theorem dX2_correct_60 : decode cX2_correct 60 = .ok (.invokestatic 119, 3) := by decide +kernel
theorem dX2_correct_63 : decode cX2_correct 63 = .ok (.istore 5, 2) := by decide +kernel
theorem dX2_correct_65 : decode cX2_correct 65 = .ok (.aload_n 0, 1) := by decide +kernel
theorem dX2_correct_66 : decode cX2_correct 66 = .ok (.getfield 10, 3) := by decide +kernel
theorem dX2_correct_69 : decode cX2_correct 69 = .ok (.getfield 112, 3) := by decide +kernel
theorem dX2_correct_72 : decode cX2_correct 72 = .ok (.iload 4, 2) := by decide +kernel
theorem dX2_correct_74 : decode cX2_correct 74 = .ok (.iload_n 3, 1) := by decide +kernel
theorem dX2_correct_75 : decode cX2_correct 75 = .ok (.invokestatic 163, 3) := by decide +kernel
theorem dX2_correct_78 : decode cX2_correct 78 = .ok (.iload 5, 2) := by decide +kernel
theorem dX2_correct_80 : decode cX2_correct 80 = .ok (.ireturn, 1) := by decide +kernel
theorem dX2_carbon_0 : decode cX2_carbon 0 = .ok (.aload_n 0, 1) := by decide +kernel
theorem dX2_carbon_1 : decode cX2_carbon 1 = .ok (.iload_n 1, 1) := by decide +kernel
theorem dX2_carbon_2 : decode cX2_carbon 2 = .ok (.iload_n 2, 1) := by decide +kernel
theorem dX2_carbon_3 : decode cX2_carbon 3 = .ok (.invokevirtual 108, 3) := by decide +kernel
theorem dX2_carbon_6 : decode cX2_carbon 6 = .ok (.aload_n 0, 1) := by decide +kernel
theorem dX2_carbon_7 : decode cX2_carbon 7 = .ok (.getfield 10, 3) := by decide +kernel
theorem dX2_carbon_10 : decode cX2_carbon 10 = .ok (.getfield 167, 3) := by decide +kernel
theorem dX2_carbon_13 : decode cX2_carbon 13 = .ok (.aload_n 0, 1) := by decide +kernel
theorem dX2_carbon_14 : decode cX2_carbon 14 = .ok (.getfield 10, 3) := by decide +kernel
theorem dX2_carbon_17 : decode cX2_carbon 17 = .ok (.iload_n 1, 1) := by decide +kernel
theorem dX2_carbon_18 : decode cX2_carbon 18 = .ok (.iload_n 2, 1) := by decide +kernel
theorem dX2_carbon_19 : decode cX2_carbon 19 = .ok (.invokevirtual 116, 3) := by decide +kernel
theorem dX2_carbon_22 : decode cX2_carbon 22 = .ok (.invokestatic 119, 3) := by decide +kernel
theorem dX2_carbon_25 : decode cX2_carbon 25 = .ok (.ireturn, 1) := by decide +kernel
theorem dX2_corrected_0 : decode cX2_corrected 0 = .ok (.aload_n 0, 1) := by decide +kernel
theorem dX2_corrected_1 : decode cX2_corrected 1 = .ok (.getfield 10, 3) := by decide +kernel
theorem dX2_corrected_4 : decode cX2_corrected 4 = .ok (.invokevirtual 170, 3) := by decide +kernel
theorem dX2_corrected_7 : decode cX2_corrected 7 = .ok (.ireturn, 1) := by decide +kernel
theorem dX2_room_0 : decode cX2_room 0 = .ok (.aload_n 0, 1) := by decide +kernel
theorem dX2_room_1 : decode cX2_room 1 = .ok (.getfield 10, 3) := by decide +kernel
theorem dX2_room_4 : decode cX2_room 4 = .ok (.invokevirtual 173, 3) := by decide +kernel
theorem dX2_room_7 : decode cX2_room 7 = .ok (.ireturn, 1) := by decide +kernel
theorem dX2_nextLoser_0 : decode cX2_nextLoser 0 = .ok (.aload_n 0, 1) := by decide +kernel
theorem dX2_nextLoser_1 : decode cX2_nextLoser 1 = .ok (.getfield 10, 3) := by decide +kernel
theorem dX2_nextLoser_4 : decode cX2_nextLoser 4 = .ok (.invokevirtual 176, 3) := by decide +kernel
theorem dX2_nextLoser_7 : decode cX2_nextLoser 7 = .ok (.ireturn, 1) := by decide +kernel
theorem dX2_lossOf_0 : decode cX2_lossOf 0 = .ok (.aload_n 0, 1) := by decide +kernel
theorem dX2_lossOf_1 : decode cX2_lossOf 1 = .ok (.iload_n 1, 1) := by decide +kernel
theorem dX2_lossOf_2 : decode cX2_lossOf 2 = .ok (.invokevirtual 75, 3) := by decide +kernel
theorem dX2_lossOf_5 : decode cX2_lossOf 5 = .ok (.iload_n 2, 1) := by decide +kernel
theorem dX2_lossOf_6 : decode cX2_lossOf 6 = .ok (.invokestatic 179, 3) := by decide +kernel
theorem dX2_lossOf_9 : decode cX2_lossOf 9 = .ok (.aload_n 0, 1) := by decide +kernel
theorem dX2_lossOf_10 : decode cX2_lossOf 10 = .ok (.getfield 10, 3) := by decide +kernel
theorem dX2_lossOf_13 : decode cX2_lossOf 13 = .ok (.iload_n 1, 1) := by decide +kernel
theorem dX2_lossOf_14 : decode cX2_lossOf 14 = .ok (.iload_n 2, 1) := by decide +kernel
theorem dX2_lossOf_15 : decode cX2_lossOf 15 = .ok (.invokevirtual 182, 3) := by decide +kernel
theorem dX2_lossOf_18 : decode cX2_lossOf 18 = .ok (.ireturn, 1) := by decide +kernel
theorem dX2_goneAfter_0 : decode cX2_goneAfter 0 = .ok (.iload_n 1, 1) := by decide +kernel
theorem dX2_goneAfter_1 : decode cX2_goneAfter 1 = .ok (.invokestatic 179, 3) := by decide +kernel
theorem dX2_goneAfter_4 : decode cX2_goneAfter 4 = .ok (.iconst 0, 1) := by decide +kernel
theorem dX2_goneAfter_5 : decode cX2_goneAfter 5 = .ok (.istore_n 2, 1) := by decide +kernel
theorem dX2_goneAfter_6 : decode cX2_goneAfter 6 = .ok (.iconst 0, 1) := by decide +kernel
theorem dX2_goneAfter_7 : decode cX2_goneAfter 7 = .ok (.istore_n 3, 1) := by decide +kernel
theorem dX2_goneAfter_8 : decode cX2_goneAfter 8 = .ok (.iload_n 3, 1) := by decide +kernel
theorem dX2_goneAfter_9 : decode cX2_goneAfter 9 = .ok (.aload_n 0, 1) := by decide +kernel
theorem dX2_goneAfter_10 : decode cX2_goneAfter 10 = .ok (.getfield 10, 3) := by decide +kernel
theorem dX2_goneAfter_13 : decode cX2_goneAfter 13 = .ok (.getfield 99, 3) := by decide +kernel
theorem dX2_goneAfter_16 : decode cX2_goneAfter 16 = .ok (.if_icmp .ge 41, 3) := by decide +kernel
theorem dX2_goneAfter_19 : decode cX2_goneAfter 19 = .ok (.aload_n 0, 1) := by decide +kernel
theorem dX2_goneAfter_20 : decode cX2_goneAfter 20 = .ok (.getfield 10, 3) := by decide +kernel
theorem dX2_goneAfter_23 : decode cX2_goneAfter 23 = .ok (.iload_n 3, 1) := by decide +kernel
theorem dX2_goneAfter_24 : decode cX2_goneAfter 24 = .ok (.iload_n 1, 1) := by decide +kernel
theorem dX2_goneAfter_25 : decode cX2_goneAfter 25 = .ok (.invokevirtual 182, 3) := by decide +kernel
theorem dX2_goneAfter_28 : decode cX2_goneAfter 28 = .ok (.istore 4, 2) := by decide +kernel
theorem dX2_goneAfter_30 : decode cX2_goneAfter 30 = .ok (.iload 4, 2) := by decide +kernel
theorem dX2_goneAfter_32 : decode cX2_goneAfter 32 = .ok (.ifCond .le 19, 3) := by decide +kernel
theorem dX2_goneAfter_35 : decode cX2_goneAfter 35 = .ok (.iload 4, 2) := by decide +kernel
theorem dX2_goneAfter_37 : decode cX2_goneAfter 37 = .ok (.aload_n 0, 1) := by decide +kernel
theorem dX2_goneAfter_38 : decode cX2_goneAfter 38 = .ok (.getfield 10, 3) := by decide +kernel
theorem dX2_goneAfter_41 : decode cX2_goneAfter 41 = .ok (.iload_n 3, 1) := by decide +kernel
theorem dX2_goneAfter_42 : decode cX2_goneAfter 42 = .ok (.invokevirtual 105, 3) := by decide +kernel
theorem dX2_goneAfter_45 : decode cX2_goneAfter 45 = .ok (.if_icmp .ne 6, 3) := by decide +kernel
theorem dX2_goneAfter_48 : decode cX2_goneAfter 48 = .ok (.iinc 2 1, 3) := by decide +kernel
theorem dX2_goneAfter_51 : decode cX2_goneAfter 51 = .ok (.iinc 3 1, 3) := by decide +kernel
theorem dX2_goneAfter_54 : decode cX2_goneAfter 54 = .ok (.goto (-46), 3) := by decide +kernel
theorem dX2_goneAfter_57 : decode cX2_goneAfter 57 = .ok (.iload_n 2, 1) := by decide +kernel
theorem dX2_goneAfter_58 : decode cX2_goneAfter 58 = .ok (.ireturn, 1) := by decide +kernel
theorem dX2_undo_0 : decode cX2_undo 0 = .ok (.aload_n 0, 1) := by decide +kernel
theorem dX2_undo_1 : decode cX2_undo 1 = .ok (.getfield 24, 3) := by decide +kernel
theorem dX2_undo_4 : decode cX2_undo 4 = .ok (.ifCond .ne 13, 3) := by decide +kernel
theorem dX2_undo_7 : decode cX2_undo 7 = .ok (.new 38, 3) := by decide +kernel
theorem dX2_undo_10 : decode cX2_undo 10 = .ok (.dup, 1) := by decide +kernel
theorem dX2_undo_11 : decode cX2_undo 11 = .ok (.ldc 206, 2) := by decide +kernel
theorem dX2_undo_13 : decode cX2_undo 13 = .ok (.invokespecial 42, 3) := by decide +kernel
theorem dX2_undo_16 : decode cX2_undo 16 = .ok (.athrow, 1) := by decide +kernel
theorem dX2_undo_17 : decode cX2_undo 17 = .ok (.aload_n 0, 1) := by decide +kernel
theorem dX2_undo_18 : decode cX2_undo 18 = .ok (.aload_n 0, 1) := by decide +kernel
theorem dX2_undo_19 : decode cX2_undo 19 = .ok (.getfield 20, 3) := by decide +kernel
theorem dX2_undo_22 : decode cX2_undo 22 = .ok (.ifCond .ne 7, 3) := by decide +kernel
theorem dX2_undo_25 : decode cX2_undo 25 = .ok (.iconst 5, 1) := by decide +kernel
theorem dX2_undo_26 : decode cX2_undo 26 = .ok (.goto 9, 3) := by decide +kernel
theorem dX2_undo_29 : decode cX2_undo 29 = .ok (.aload_n 0, 1) := by decide +kernel
theorem dX2_undo_30 : decode cX2_undo 30 = .ok (.getfield 20, 3) := by decide +kernel
theorem dX2_undo_33 : decode cX2_undo 33 = .ok (.iconst 1, 1) := by decide +kernel
theorem dX2_undo_34 : decode cX2_undo 34 = .ok (.isub, 1) := by decide +kernel
theorem dX2_undo_35 : decode cX2_undo 35 = .ok (.putfield 20, 3) := by decide +kernel
theorem dX2_undo_38 : decode cX2_undo 38 = .ok (.aload_n 0, 1) := by decide +kernel
theorem dX2_undo_39 : decode cX2_undo 39 = .ok (.dup, 1) := by decide +kernel
theorem dX2_undo_40 : decode cX2_undo 40 = .ok (.getfield 24, 3) := by decide +kernel
theorem dX2_undo_43 : decode cX2_undo 43 = .ok (.iconst 1, 1) := by decide +kernel
theorem dX2_undo_44 : decode cX2_undo 44 = .ok (.isub, 1) := by decide +kernel
theorem dX2_undo_45 : decode cX2_undo 45 = .ok (.putfield 24, 3) := by decide +kernel
theorem dX2_undo_48 : decode cX2_undo 48 = .ok (.aload_n 0, 1) := by decide +kernel
theorem dX2_undo_49 : decode cX2_undo 49 = .ok (.aload_n 0, 1) := by decide +kernel
theorem dX2_undo_50 : decode cX2_undo 50 = .ok (.getfield 20, 3) := by decide +kernel
theorem dX2_undo_53 : decode cX2_undo 53 = .ok (.invokevirtual 208, 3) := by decide +kernel
theorem dX2_undo_56 : decode cX2_undo 56 = .ok (.astore_n 1, 1) := by decide +kernel
theorem dX2_undo_57 : decode cX2_undo 57 = .ok (.aload_n 1, 1) := by decide +kernel
theorem dX2_undo_58 : decode cX2_undo 58 = .ok (.ifnull 11, 3) := by decide +kernel
theorem dX2_undo_61 : decode cX2_undo 61 = .ok (.aload_n 0, 1) := by decide +kernel
theorem dX2_undo_62 : decode cX2_undo 62 = .ok (.getfield 10, 3) := by decide +kernel
theorem dX2_undo_65 : decode cX2_undo 65 = .ok (.aload_n 1, 1) := by decide +kernel
theorem dX2_undo_66 : decode cX2_undo 66 = .ok (.invokevirtual 212, 3) := by decide +kernel
theorem dX2_undo_69 : decode cX2_undo 69 = .ok (.aload_n 0, 1) := by decide +kernel
theorem dX2_undo_70 : decode cX2_undo 70 = .ok (.getfield 24, 3) := by decide +kernel
theorem dX2_undo_73 : decode cX2_undo 73 = .ok (.ireturn, 1) := by decide +kernel
theorem dX2_savedStates_0 : decode cX2_savedStates 0 = .ok (.aload_n 0, 1) := by decide +kernel
theorem dX2_savedStates_1 : decode cX2_savedStates 1 = .ok (.getfield 24, 3) := by decide +kernel
theorem dX2_savedStates_4 : decode cX2_savedStates 4 = .ok (.ireturn, 1) := by decide +kernel
theorem dX2_digest_0 : decode cX2_digest 0 = .ok (.ldc2_w 216, 3) := by decide +kernel
theorem dX2_digest_3 : decode cX2_digest 3 = .ok (.lstore_n 1, 1) := by decide +kernel
theorem dX2_digest_4 : decode cX2_digest 4 = .ok (.lload_n 1, 1) := by decide +kernel
theorem dX2_digest_5 : decode cX2_digest 5 = .ok (.aload_n 0, 1) := by decide +kernel
theorem dX2_digest_6 : decode cX2_digest 6 = .ok (.invokevirtual 218, 3) := by decide +kernel
theorem dX2_digest_9 : decode cX2_digest 9 = .ok (.i2l, 1) := by decide +kernel
theorem dX2_digest_10 : decode cX2_digest 10 = .ok (.invokestatic 221, 3) := by decide +kernel
theorem dX2_digest_13 : decode cX2_digest 13 = .ok (.lstore_n 1, 1) := by decide +kernel
theorem dX2_digest_14 : decode cX2_digest 14 = .ok (.lload_n 1, 1) := by decide +kernel
theorem dX2_digest_15 : decode cX2_digest 15 = .ok (.aload_n 0, 1) := by decide +kernel
theorem dX2_digest_16 : decode cX2_digest 16 = .ok (.invokevirtual 225, 3) := by decide +kernel
theorem dX2_digest_19 : decode cX2_digest 19 = .ok (.i2l, 1) := by decide +kernel
theorem dX2_digest_20 : decode cX2_digest 20 = .ok (.invokestatic 221, 3) := by decide +kernel
theorem dX2_digest_23 : decode cX2_digest 23 = .ok (.lstore_n 1, 1) := by decide +kernel
theorem dX2_digest_24 : decode cX2_digest 24 = .ok (.lload_n 1, 1) := by decide +kernel
theorem dX2_digest_25 : decode cX2_digest 25 = .ok (.aload_n 0, 1) := by decide +kernel
theorem dX2_digest_26 : decode cX2_digest 26 = .ok (.invokevirtual 228, 3) := by decide +kernel
theorem dX2_digest_29 : decode cX2_digest 29 = .ok (.i2l, 1) := by decide +kernel
theorem dX2_digest_30 : decode cX2_digest 30 = .ok (.invokestatic 221, 3) := by decide +kernel
theorem dX2_digest_33 : decode cX2_digest 33 = .ok (.lstore_n 1, 1) := by decide +kernel
theorem dX2_digest_34 : decode cX2_digest 34 = .ok (.lload_n 1, 1) := by decide +kernel
theorem dX2_digest_35 : decode cX2_digest 35 = .ok (.aload_n 0, 1) := by decide +kernel
theorem dX2_digest_36 : decode cX2_digest 36 = .ok (.invokevirtual 230, 3) := by decide +kernel
theorem dX2_digest_39 : decode cX2_digest 39 = .ok (.i2l, 1) := by decide +kernel
theorem dX2_digest_40 : decode cX2_digest 40 = .ok (.invokestatic 221, 3) := by decide +kernel
theorem dX2_digest_43 : decode cX2_digest 43 = .ok (.lstore_n 1, 1) := by decide +kernel
theorem dX2_digest_44 : decode cX2_digest 44 = .ok (.lload_n 1, 1) := by decide +kernel
theorem dX2_digest_45 : decode cX2_digest 45 = .ok (.aload_n 0, 1) := by decide +kernel
theorem dX2_digest_46 : decode cX2_digest 46 = .ok (.invokevirtual 233, 3) := by decide +kernel
theorem dX2_digest_49 : decode cX2_digest 49 = .ok (.i2l, 1) := by decide +kernel
theorem dX2_digest_50 : decode cX2_digest 50 = .ok (.invokestatic 221, 3) := by decide +kernel
theorem dX2_digest_53 : decode cX2_digest 53 = .ok (.lstore_n 1, 1) := by decide +kernel
theorem dX2_digest_54 : decode cX2_digest 54 = .ok (.lload_n 1, 1) := by decide +kernel
theorem dX2_digest_55 : decode cX2_digest 55 = .ok (.aload_n 0, 1) := by decide +kernel
theorem dX2_digest_56 : decode cX2_digest 56 = .ok (.invokevirtual 235, 3) := by decide +kernel
theorem dX2_digest_59 : decode cX2_digest 59 = .ok (.i2l, 1) := by decide +kernel
theorem dX2_digest_60 : decode cX2_digest 60 = .ok (.invokestatic 221, 3) := by decide +kernel
theorem dX2_digest_63 : decode cX2_digest 63 = .ok (.lstore_n 1, 1) := by decide +kernel
theorem dX2_digest_64 : decode cX2_digest 64 = .ok (.lload_n 1, 1) := by decide +kernel
theorem dX2_digest_65 : decode cX2_digest 65 = .ok (.aload_n 0, 1) := by decide +kernel
theorem dX2_digest_66 : decode cX2_digest 66 = .ok (.invokevirtual 237, 3) := by decide +kernel
theorem dX2_digest_69 : decode cX2_digest 69 = .ok (.i2l, 1) := by decide +kernel
theorem dX2_digest_70 : decode cX2_digest 70 = .ok (.invokestatic 221, 3) := by decide +kernel
theorem dX2_digest_73 : decode cX2_digest 73 = .ok (.lstore_n 1, 1) := by decide +kernel
theorem dX2_digest_74 : decode cX2_digest 74 = .ok (.lload_n 1, 1) := by decide +kernel
theorem dX2_digest_75 : decode cX2_digest 75 = .ok (.aload_n 0, 1) := by decide +kernel
theorem dX2_digest_76 : decode cX2_digest 76 = .ok (.invokevirtual 240, 3) := by decide +kernel
theorem dX2_digest_79 : decode cX2_digest 79 = .ok (.i2l, 1) := by decide +kernel
theorem dX2_digest_80 : decode cX2_digest 80 = .ok (.invokestatic 221, 3) := by decide +kernel
theorem dX2_digest_83 : decode cX2_digest 83 = .ok (.lstore_n 1, 1) := by decide +kernel
theorem dX2_digest_84 : decode cX2_digest 84 = .ok (.lload_n 1, 1) := by decide +kernel
theorem dX2_digest_85 : decode cX2_digest 85 = .ok (.aload_n 0, 1) := by decide +kernel
theorem dX2_digest_86 : decode cX2_digest 86 = .ok (.invokevirtual 242, 3) := by decide +kernel
theorem dX2_digest_89 : decode cX2_digest 89 = .ok (.i2l, 1) := by decide +kernel
theorem dX2_digest_90 : decode cX2_digest 90 = .ok (.invokestatic 221, 3) := by decide +kernel
theorem dX2_digest_93 : decode cX2_digest 93 = .ok (.lstore_n 1, 1) := by decide +kernel
theorem dX2_digest_94 : decode cX2_digest 94 = .ok (.lload_n 1, 1) := by decide +kernel
theorem dX2_digest_95 : decode cX2_digest 95 = .ok (.aload_n 0, 1) := by decide +kernel
theorem dX2_digest_96 : decode cX2_digest 96 = .ok (.invokevirtual 245, 3) := by decide +kernel
theorem dX2_digest_99 : decode cX2_digest 99 = .ok (.i2l, 1) := by decide +kernel
theorem dX2_digest_100 : decode cX2_digest 100 = .ok (.invokestatic 221, 3) := by decide +kernel
theorem dX2_digest_103 : decode cX2_digest 103 = .ok (.lstore_n 1, 1) := by decide +kernel
theorem dX2_digest_104 : decode cX2_digest 104 = .ok (.lload_n 1, 1) := by decide +kernel
theorem dX2_digest_105 : decode cX2_digest 105 = .ok (.aload_n 0, 1) := by decide +kernel
theorem dX2_digest_106 : decode cX2_digest 106 = .ok (.invokevirtual 248, 3) := by decide +kernel
theorem dX2_digest_109 : decode cX2_digest 109 = .ok (.i2l, 1) := by decide +kernel
theorem dX2_digest_110 : decode cX2_digest 110 = .ok (.invokestatic 221, 3) := by decide +kernel
theorem dX2_digest_113 : decode cX2_digest 113 = .ok (.lstore_n 1, 1) := by decide +kernel
theorem dX2_digest_114 : decode cX2_digest 114 = .ok (.iconst 0, 1) := by decide +kernel
theorem dX2_digest_115 : decode cX2_digest 115 = .ok (.istore_n 3, 1) := by decide +kernel
theorem dX2_digest_116 : decode cX2_digest 116 = .ok (.iload_n 3, 1) := by decide +kernel
theorem dX2_digest_117 : decode cX2_digest 117 = .ok (.aload_n 0, 1) := by decide +kernel
theorem dX2_digest_118 : decode cX2_digest 118 = .ok (.getfield 10, 3) := by decide +kernel
theorem dX2_digest_121 : decode cX2_digest 121 = .ok (.getfield 99, 3) := by decide +kernel
theorem dX2_digest_124 : decode cX2_digest 124 = .ok (.if_icmp .ge 16, 3) := by decide +kernel
theorem dX2_digest_127 : decode cX2_digest 127 = .ok (.aload_n 0, 1) := by decide +kernel
theorem dX2_digest_128 : decode cX2_digest 128 = .ok (.lload_n 1, 1) := by decide +kernel
theorem dX2_digest_129 : decode cX2_digest 129 = .ok (.iload_n 3, 1) := by decide +kernel
theorem dX2_digest_130 : decode cX2_digest 130 = .ok (.invokevirtual 251, 3) := by decide +kernel
theorem dX2_digest_133 : decode cX2_digest 133 = .ok (.lstore_n 1, 1) := by decide +kernel
theorem dX2_digest_134 : decode cX2_digest 134 = .ok (.iinc 3 1, 3) := by decide +kernel
theorem dX2_digest_137 : decode cX2_digest 137 = .ok (.goto (-21), 3) := by decide +kernel
theorem dX2_digest_140 : decode cX2_digest 140 = .ok (.iconst 0, 1) := by decide +kernel
theorem dX2_digest_141 : decode cX2_digest 141 = .ok (.istore_n 3, 1) := by decide +kernel
theorem dX2_digest_142 : decode cX2_digest 142 = .ok (.iload_n 3, 1) := by decide +kernel
theorem dX2_digest_143 : decode cX2_digest 143 = .ok (.bipush 32, 2) := by decide +kernel
theorem dX2_digest_145 : decode cX2_digest 145 = .ok (.if_icmp .ge 26, 3) := by decide +kernel
theorem dX2_digest_148 : decode cX2_digest 148 = .ok (.lload_n 1, 1) := by decide +kernel
theorem dX2_digest_149 : decode cX2_digest 149 = .ok (.aload_n 0, 1) := by decide +kernel
theorem dX2_digest_150 : decode cX2_digest 150 = .ok (.getfield 10, 3) := by decide +kernel
theorem dX2_digest_153 : decode cX2_digest 153 = .ok (.getfield 126, 3) := by decide +kernel
theorem dX2_digest_156 : decode cX2_digest 156 = .ok (.iload_n 3, 1) := by decide +kernel
theorem dX2_digest_157 : decode cX2_digest 157 = .ok (.invokestatic 119, 3) := by decide +kernel
theorem dX2_digest_160 : decode cX2_digest 160 = .ok (.i2l, 1) := by decide +kernel
theorem dX2_digest_161 : decode cX2_digest 161 = .ok (.invokestatic 221, 3) := by decide +kernel
theorem dX2_digest_164 : decode cX2_digest 164 = .ok (.lstore_n 1, 1) := by decide +kernel
theorem dX2_digest_165 : decode cX2_digest 165 = .ok (.iinc 3 1, 3) := by decide +kernel
theorem dX2_digest_168 : decode cX2_digest 168 = .ok (.goto (-26), 3) := by decide +kernel
theorem dX2_digest_171 : decode cX2_digest 171 = .ok (.lload_n 1, 1) := by decide +kernel
theorem dX2_digest_172 : decode cX2_digest 172 = .ok (.lreturn, 1) := by decide +kernel
theorem dX2_withRecording_0 : decode cX2_withRecording 0 = .ok (.lload_n 1, 1) := by decide +kernel
theorem dX2_withRecording_1 : decode cX2_withRecording 1 = .ok (.aload_n 0, 1) := by decide +kernel
theorem dX2_withRecording_2 : decode cX2_withRecording 2 = .ok (.getfield 10, 3) := by decide +kernel
theorem dX2_withRecording_5 : decode cX2_withRecording 5 = .ok (.iload_n 3, 1) := by decide +kernel
theorem dX2_withRecording_6 : decode cX2_withRecording 6 = .ok (.invokevirtual 105, 3) := by decide +kernel
theorem dX2_withRecording_9 : decode cX2_withRecording 9 = .ok (.i2l, 1) := by decide +kernel
theorem dX2_withRecording_10 : decode cX2_withRecording 10 = .ok (.invokestatic 221, 3) := by decide +kernel
theorem dX2_withRecording_13 : decode cX2_withRecording 13 = .ok (.lstore 4, 2) := by decide +kernel
theorem dX2_withRecording_15 : decode cX2_withRecording 15 = .ok (.lload 4, 2) := by decide +kernel
theorem dX2_withRecording_17 : decode cX2_withRecording 17 = .ok (.aload_n 0, 1) := by decide +kernel
theorem dX2_withRecording_18 : decode cX2_withRecording 18 = .ok (.getfield 10, 3) := by decide +kernel
theorem dX2_withRecording_21 : decode cX2_withRecording 21 = .ok (.iload_n 3, 1) := by decide +kernel
theorem dX2_withRecording_22 : decode cX2_withRecording 22 = .ok (.invokevirtual 78, 3) := by decide +kernel
theorem dX2_withRecording_25 : decode cX2_withRecording 25 = .ok (.ifCond .eq 7, 3) := by decide +kernel
theorem dX2_withRecording_28 : decode cX2_withRecording 28 = .ok (.lconst 1, 1) := by decide +kernel
theorem dX2_withRecording_29 : decode cX2_withRecording 29 = .ok (.goto 4, 3) := by decide +kernel
theorem dX2_withRecording_32 : decode cX2_withRecording 32 = .ok (.lconst 0, 1) := by decide +kernel
theorem dX2_withRecording_33 : decode cX2_withRecording 33 = .ok (.invokestatic 221, 3) := by decide +kernel
theorem dX2_withRecording_36 : decode cX2_withRecording 36 = .ok (.lstore 4, 2) := by decide +kernel
theorem dX2_withRecording_38 : decode cX2_withRecording 38 = .ok (.lload 4, 2) := by decide +kernel
theorem dX2_withRecording_40 : decode cX2_withRecording 40 = .ok (.aload_n 0, 1) := by decide +kernel
theorem dX2_withRecording_41 : decode cX2_withRecording 41 = .ok (.getfield 10, 3) := by decide +kernel
theorem dX2_withRecording_44 : decode cX2_withRecording 44 = .ok (.getfield 123, 3) := by decide +kernel
theorem dX2_withRecording_47 : decode cX2_withRecording 47 = .ok (.iload_n 3, 1) := by decide +kernel
theorem dX2_withRecording_48 : decode cX2_withRecording 48 = .ok (.invokestatic 119, 3) := by decide +kernel
theorem dX2_withRecording_51 : decode cX2_withRecording 51 = .ok (.i2l, 1) := by decide +kernel
theorem dX2_withRecording_52 : decode cX2_withRecording 52 = .ok (.invokestatic 221, 3) := by decide +kernel
theorem dX2_withRecording_55 : decode cX2_withRecording 55 = .ok (.lstore 4, 2) := by decide +kernel
theorem dX2_withRecording_57 : decode cX2_withRecording 57 = .ok (.iconst 0, 1) := by decide +kernel
theorem dX2_withRecording_58 : decode cX2_withRecording 58 = .ok (.istore 6, 2) := by decide +kernel
theorem dX2_withRecording_60 : decode cX2_withRecording 60 = .ok (.iload 6, 2) := by decide +kernel
theorem dX2_withRecording_62 : decode cX2_withRecording 62 = .ok (.aload_n 0, 1) := by decide +kernel
theorem dX2_withRecording_63 : decode cX2_withRecording 63 = .ok (.getfield 10, 3) := by decide +kernel
theorem dX2_withRecording_66 : decode cX2_withRecording 66 = .ok (.getfield 129, 3) := by decide +kernel
theorem dX2_withRecording_69 : decode cX2_withRecording 69 = .ok (.if_icmp .ge 89, 3) := by decide +kernel
theorem dX2_withRecording_72 : decode cX2_withRecording 72 = .ok (.aload_n 0, 1) := by decide +kernel
theorem dX2_withRecording_73 : decode cX2_withRecording 73 = .ok (.getfield 10, 3) := by decide +kernel
theorem dX2_withRecording_76 : decode cX2_withRecording 76 = .ok (.getfield 255, 3) := by decide +kernel
theorem dX2_withRecording_79 : decode cX2_withRecording 79 = .ok (.iload 6, 2) := by decide +kernel
theorem dX2_withRecording_81 : decode cX2_withRecording 81 = .ok (.invokestatic 119, 3) := by decide +kernel
theorem dX2_withRecording_84 : decode cX2_withRecording 84 = .ok (.istore 7, 2) := by decide +kernel
theorem dX2_withRecording_86 : decode cX2_withRecording 86 = .ok (.aload_n 0, 1) := by decide +kernel
theorem dX2_withRecording_87 : decode cX2_withRecording 87 = .ok (.getfield 10, 3) := by decide +kernel
theorem dX2_withRecording_90 : decode cX2_withRecording 90 = .ok (.getfield 126, 3) := by decide +kernel
theorem dX2_withRecording_93 : decode cX2_withRecording 93 = .ok (.iload 7, 2) := by decide +kernel
theorem dX2_withRecording_95 : decode cX2_withRecording 95 = .ok (.invokestatic 119, 3) := by decide +kernel
theorem dX2_withRecording_98 : decode cX2_withRecording 98 = .ok (.iload_n 3, 1) := by decide +kernel
theorem dX2_withRecording_99 : decode cX2_withRecording 99 = .ok (.if_icmp .ne 53, 3) := by decide +kernel
theorem dX2_withRecording_102 : decode cX2_withRecording 102 = .ok (.lload 4, 2) := by decide +kernel
theorem dX2_withRecording_104 : decode cX2_withRecording 104 = .ok (.iload 7, 2) := by decide +kernel
theorem dX2_withRecording_106 : decode cX2_withRecording 106 = .ok (.i2l, 1) := by decide +kernel
theorem dX2_withRecording_107 : decode cX2_withRecording 107 = .ok (.invokestatic 221, 3) := by decide +kernel
theorem dX2_withRecording_110 : decode cX2_withRecording 110 = .ok (.lstore 4, 2) := by decide +kernel
theorem dX2_withRecording_112 : decode cX2_withRecording 112 = .ok (.lload 4, 2) := by decide +kernel
theorem dX2_withRecording_114 : decode cX2_withRecording 114 = .ok (.aload_n 0, 1) := by decide +kernel
theorem dX2_withRecording_115 : decode cX2_withRecording 115 = .ok (.getfield 10, 3) := by decide +kernel
theorem dX2_withRecording_118 : decode cX2_withRecording 118 = .ok (.getfield 112, 3) := by decide +kernel
theorem dX2_withRecording_121 : decode cX2_withRecording 121 = .ok (.iload 7, 2) := by decide +kernel
theorem dX2_withRecording_123 : decode cX2_withRecording 123 = .ok (.invokestatic 119, 3) := by decide +kernel
theorem dX2_withRecording_126 : decode cX2_withRecording 126 = .ok (.i2l, 1) := by decide +kernel
theorem dX2_withRecording_127 : decode cX2_withRecording 127 = .ok (.invokestatic 221, 3) := by decide +kernel
theorem dX2_withRecording_130 : decode cX2_withRecording 130 = .ok (.lstore 4, 2) := by decide +kernel
theorem dX2_withRecording_132 : decode cX2_withRecording 132 = .ok (.lload 4, 2) := by decide +kernel
theorem dX2_withRecording_134 : decode cX2_withRecording 134 = .ok (.aload_n 0, 1) := by decide +kernel
theorem dX2_withRecording_135 : decode cX2_withRecording 135 = .ok (.getfield 10, 3) := by decide +kernel
theorem dX2_withRecording_138 : decode cX2_withRecording 138 = .ok (.getfield 167, 3) := by decide +kernel
theorem dX2_withRecording_141 : decode cX2_withRecording 141 = .ok (.iload 7, 2) := by decide +kernel
theorem dX2_withRecording_143 : decode cX2_withRecording 143 = .ok (.invokestatic 119, 3) := by decide +kernel
theorem dX2_withRecording_146 : decode cX2_withRecording 146 = .ok (.i2l, 1) := by decide +kernel
theorem dX2_withRecording_147 : decode cX2_withRecording 147 = .ok (.invokestatic 221, 3) := by decide +kernel
theorem dX2_withRecording_150 : decode cX2_withRecording 150 = .ok (.lstore 4, 2) := by decide +kernel
theorem dX2_withRecording_152 : decode cX2_withRecording 152 = .ok (.iinc 6 1, 3) := by decide +kernel
theorem dX2_withRecording_155 : decode cX2_withRecording 155 = .ok (.goto (-95), 3) := by decide +kernel
theorem dX2_withRecording_158 : decode cX2_withRecording 158 = .ok (.lload 4, 2) := by decide +kernel
theorem dX2_withRecording_160 : decode cX2_withRecording 160 = .ok (.lreturn, 1) := by decide +kernel
theorem dX2_mixed_0 : decode cX2_mixed 0 = .ok (.ldc2_w 258, 3) := by decide +kernel
theorem dX2_mixed_3 : decode cX2_mixed 3 = .ok (.lload_n 0, 1) := by decide +kernel
theorem dX2_mixed_4 : decode cX2_mixed 4 = .ok (.lmul, 1) := by decide +kernel
theorem dX2_mixed_5 : decode cX2_mixed 5 = .ok (.lload_n 2, 1) := by decide +kernel
theorem dX2_mixed_6 : decode cX2_mixed 6 = .ok (.ladd, 1) := by decide +kernel
theorem dX2_mixed_7 : decode cX2_mixed 7 = .ok (.lreturn, 1) := by decide +kernel
theorem dX2_save_0 : decode cX2_save 0 = .ok (.aload_n 0, 1) := by decide +kernel
theorem dX2_save_1 : decode cX2_save 1 = .ok (.aload_n 0, 1) := by decide +kernel
theorem dX2_save_2 : decode cX2_save 2 = .ok (.getfield 20, 3) := by decide +kernel
theorem dX2_save_5 : decode cX2_save 5 = .ok (.invokevirtual 208, 3) := by decide +kernel
theorem dX2_save_8 : decode cX2_save 8 = .ok (.astore_n 1, 1) := by decide +kernel
theorem dX2_save_9 : decode cX2_save 9 = .ok (.aload_n 1, 1) := by decide +kernel
theorem dX2_save_10 : decode cX2_save 10 = .ok (.ifnull 11, 3) := by decide +kernel
theorem dX2_save_13 : decode cX2_save 13 = .ok (.aload_n 1, 1) := by decide +kernel
theorem dX2_save_14 : decode cX2_save 14 = .ok (.aload_n 0, 1) := by decide +kernel
theorem dX2_save_15 : decode cX2_save 15 = .ok (.getfield 10, 3) := by decide +kernel
theorem dX2_save_18 : decode cX2_save 18 = .ok (.invokevirtual 212, 3) := by decide +kernel
theorem dX2_save_21 : decode cX2_save 21 = .ok (.aload_n 0, 1) := by decide +kernel
theorem dX2_save_22 : decode cX2_save 22 = .ok (.aload_n 0, 1) := by decide +kernel
theorem dX2_save_23 : decode cX2_save 23 = .ok (.getfield 20, 3) := by decide +kernel
theorem dX2_save_26 : decode cX2_save 26 = .ok (.iconst 1, 1) := by decide +kernel
theorem dX2_save_27 : decode cX2_save 27 = .ok (.iadd, 1) := by decide +kernel
theorem dX2_save_28 : decode cX2_save 28 = .ok (.bipush 6, 2) := by decide +kernel
theorem dX2_save_30 : decode cX2_save 30 = .ok (.if_icmp .ge 12, 3) := by decide +kernel
theorem dX2_save_33 : decode cX2_save 33 = .ok (.aload_n 0, 1) := by decide +kernel
theorem dX2_save_34 : decode cX2_save 34 = .ok (.getfield 20, 3) := by decide +kernel
theorem dX2_save_37 : decode cX2_save 37 = .ok (.iconst 1, 1) := by decide +kernel
theorem dX2_save_38 : decode cX2_save 38 = .ok (.iadd, 1) := by decide +kernel
theorem dX2_save_39 : decode cX2_save 39 = .ok (.goto 4, 3) := by decide +kernel
theorem dX2_save_42 : decode cX2_save 42 = .ok (.iconst 0, 1) := by decide +kernel
theorem dX2_save_43 : decode cX2_save 43 = .ok (.putfield 20, 3) := by decide +kernel
theorem dX2_save_46 : decode cX2_save 46 = .ok (.aload_n 0, 1) := by decide +kernel
theorem dX2_save_47 : decode cX2_save 47 = .ok (.getfield 24, 3) := by decide +kernel
theorem dX2_save_50 : decode cX2_save 50 = .ok (.bipush 6, 2) := by decide +kernel
theorem dX2_save_52 : decode cX2_save 52 = .ok (.if_icmp .ge 13, 3) := by decide +kernel
theorem dX2_save_55 : decode cX2_save 55 = .ok (.aload_n 0, 1) := by decide +kernel
theorem dX2_save_56 : decode cX2_save 56 = .ok (.dup, 1) := by decide +kernel
theorem dX2_save_57 : decode cX2_save 57 = .ok (.getfield 24, 3) := by decide +kernel
theorem dX2_save_60 : decode cX2_save 60 = .ok (.iconst 1, 1) := by decide +kernel
theorem dX2_save_61 : decode cX2_save 61 = .ok (.iadd, 1) := by decide +kernel
theorem dX2_save_62 : decode cX2_save 62 = .ok (.putfield 24, 3) := by decide +kernel
theorem dX2_save_65 : decode cX2_save 65 = .ok (.return_, 1) := by decide +kernel
theorem dX2_slotAt_0 : decode cX2_slotAt 0 = .ok (.iload_n 1, 1) := by decide +kernel
theorem dX2_slotAt_1 : decode cX2_slotAt 1 = .ok (.ifCond .lt 21, 3) := by decide +kernel
theorem dX2_slotAt_4 : decode cX2_slotAt 4 = .ok (.iload_n 1, 1) := by decide +kernel
theorem dX2_slotAt_5 : decode cX2_slotAt 5 = .ok (.aload_n 0, 1) := by decide +kernel
theorem dX2_slotAt_6 : decode cX2_slotAt 6 = .ok (.getfield 16, 3) := by decide +kernel
theorem dX2_slotAt_9 : decode cX2_slotAt 9 = .ok (.arraylength, 1) := by decide +kernel
theorem dX2_slotAt_10 : decode cX2_slotAt 10 = .ok (.if_icmp .ge 12, 3) := by decide +kernel
theorem dX2_slotAt_13 : decode cX2_slotAt 13 = .ok (.aload_n 0, 1) := by decide +kernel
theorem dX2_slotAt_14 : decode cX2_slotAt 14 = .ok (.getfield 16, 3) := by decide +kernel
theorem dX2_slotAt_17 : decode cX2_slotAt 17 = .ok (.iload_n 1, 1) := by decide +kernel
theorem dX2_slotAt_18 : decode cX2_slotAt 18 = .ok (.aaload, 1) := by decide +kernel
theorem dX2_slotAt_19 : decode cX2_slotAt 19 = .ok (.goto 4, 3) := by decide +kernel
theorem dX2_slotAt_22 : decode cX2_slotAt 22 = .ok (.aconst_null, 1) := by decide +kernel
theorem dX2_slotAt_23 : decode cX2_slotAt 23 = .ok (.areturn, 1) := by decide +kernel
theorem dX2_requireRecording_0 : decode cX2_requireRecording 0 = .ok (.aload_n 0, 1) := by decide +kernel
theorem dX2_requireRecording_1 : decode cX2_requireRecording 1 = .ok (.getfield 10, 3) := by decide +kernel
theorem dX2_requireRecording_4 : decode cX2_requireRecording 4 = .ok (.iload_n 1, 1) := by decide +kernel
theorem dX2_requireRecording_5 : decode cX2_requireRecording 5 = .ok (.invokevirtual 276, 3) := by decide +kernel
theorem dX2_requireRecording_8 : decode cX2_requireRecording 8 = .ok (.ifCond .ne 14, 3) := by decide +kernel
theorem dX2_requireRecording_11 : decode cX2_requireRecording 11 = .ok (.new 279, 3) := by decide +kernel
theorem dX2_requireRecording_14 : decode cX2_requireRecording 14 = .ok (.dup, 1) := by decide +kernel
theorem dX2_requireRecording_15 : decode cX2_requireRecording 15 = .ok (.ldc_w 281, 3) := by decide +kernel
theorem dX2_requireRecording_18 : decode cX2_requireRecording 18 = .ok (.invokespecial 283, 3) := by decide +kernel
theorem dX2_requireRecording_21 : decode cX2_requireRecording 21 = .ok (.athrow, 1) := by decide +kernel
theorem dX2_requireRecording_22 : decode cX2_requireRecording 22 = .ok (.return_, 1) := by decide +kernel
theorem dX2_requirePlace_0 : decode cX2_requirePlace 0 = .ok (.aload_n 0, 1) := by decide +kernel
theorem dX2_requirePlace_1 : decode cX2_requirePlace 1 = .ok (.getfield 10, 3) := by decide +kernel
theorem dX2_requirePlace_4 : decode cX2_requirePlace 4 = .ok (.iload_n 1, 1) := by decide +kernel
theorem dX2_requirePlace_5 : decode cX2_requirePlace 5 = .ok (.invokevirtual 276, 3) := by decide +kernel
theorem dX2_requirePlace_8 : decode cX2_requirePlace 8 = .ok (.ifCond .eq 7, 3) := by decide +kernel
theorem dX2_requirePlace_11 : decode cX2_requirePlace 11 = .ok (.iload_n 2, 1) := by decide +kernel
theorem dX2_requirePlace_12 : decode cX2_requirePlace 12 = .ok (.ifCond .ge 14, 3) := by decide +kernel
theorem dX2_requirePlace_15 : decode cX2_requirePlace 15 = .ok (.new 279, 3) := by decide +kernel
theorem dX2_requirePlace_18 : decode cX2_requirePlace 18 = .ok (.dup, 1) := by decide +kernel
theorem dX2_requirePlace_19 : decode cX2_requirePlace 19 = .ok (.ldc_w 284, 3) := by decide +kernel
theorem dX2_requirePlace_22 : decode cX2_requirePlace 22 = .ok (.invokespecial 283, 3) := by decide +kernel
theorem dX2_requirePlace_25 : decode cX2_requirePlace 25 = .ok (.athrow, 1) := by decide +kernel
theorem dX2_requirePlace_26 : decode cX2_requirePlace 26 = .ok (.return_, 1) := by decide +kernel
theorem dX2_requirePlayer_0 : decode cX2_requirePlayer 0 = .ok (.aload_n 0, 1) := by decide +kernel
theorem dX2_requirePlayer_1 : decode cX2_requirePlayer 1 = .ok (.getfield 10, 3) := by decide +kernel
theorem dX2_requirePlayer_4 : decode cX2_requirePlayer 4 = .ok (.getfield 157, 3) := by decide +kernel
theorem dX2_requirePlayer_7 : decode cX2_requirePlayer 7 = .ok (.iconst (-1), 1) := by decide +kernel
theorem dX2_requirePlayer_8 : decode cX2_requirePlayer 8 = .ok (.if_icmp .ne 14, 3) := by decide +kernel
theorem dX2_requirePlayer_11 : decode cX2_requirePlayer 11 = .ok (.new 38, 3) := by decide +kernel
theorem dX2_requirePlayer_14 : decode cX2_requirePlayer 14 = .ok (.dup, 1) := by decide +kernel
theorem dX2_requirePlayer_15 : decode cX2_requirePlayer 15 = .ok (.ldc_w 286, 3) := by decide +kernel
theorem dX2_requirePlayer_18 : decode cX2_requirePlayer 18 = .ok (.invokespecial 42, 3) := by decide +kernel
theorem dX2_requirePlayer_21 : decode cX2_requirePlayer 21 = .ok (.athrow, 1) := by decide +kernel
theorem dX2_requirePlayer_22 : decode cX2_requirePlayer 22 = .ok (.return_, 1) := by decide +kernel
theorem dX2_requireCell_0 : decode cX2_requireCell 0 = .ok (.iload_n 0, 1) := by decide +kernel
theorem dX2_requireCell_1 : decode cX2_requireCell 1 = .ok (.ifCond .lt 9, 3) := by decide +kernel
theorem dX2_requireCell_4 : decode cX2_requireCell 4 = .ok (.iload_n 0, 1) := by decide +kernel
theorem dX2_requireCell_5 : decode cX2_requireCell 5 = .ok (.bipush 32, 2) := by decide +kernel
theorem dX2_requireCell_7 : decode cX2_requireCell 7 = .ok (.if_icmp .lt 14, 3) := by decide +kernel
theorem dX2_requireCell_10 : decode cX2_requireCell 10 = .ok (.new 279, 3) := by decide +kernel
theorem dX2_requireCell_13 : decode cX2_requireCell 13 = .ok (.dup, 1) := by decide +kernel
theorem dX2_requireCell_14 : decode cX2_requireCell 14 = .ok (.ldc_w 288, 3) := by decide +kernel
theorem dX2_requireCell_17 : decode cX2_requireCell 17 = .ok (.invokespecial 283, 3) := by decide +kernel
theorem dX2_requireCell_20 : decode cX2_requireCell 20 = .ok (.athrow, 1) := by decide +kernel
theorem dX2_requireCell_21 : decode cX2_requireCell 21 = .ok (.return_, 1) := by decide +kernel
theorem dX2_requireSound_0 : decode cX2_requireSound 0 = .ok (.iload_n 0, 1) := by decide +kernel
theorem dX2_requireSound_1 : decode cX2_requireSound 1 = .ok (.ifCond .lt 9, 3) := by decide +kernel
theorem dX2_requireSound_4 : decode cX2_requireSound 4 = .ok (.iload_n 0, 1) := by decide +kernel
theorem dX2_requireSound_5 : decode cX2_requireSound 5 = .ok (.bipush 99, 2) := by decide +kernel
theorem dX2_requireSound_7 : decode cX2_requireSound 7 = .ok (.if_icmp .le 14, 3) := by decide +kernel
theorem dX2_requireSound_10 : decode cX2_requireSound 10 = .ok (.new 149, 3) := by decide +kernel
theorem dX2_requireSound_13 : decode cX2_requireSound 13 = .ok (.dup, 1) := by decide +kernel
theorem dX2_requireSound_14 : decode cX2_requireSound 14 = .ok (.ldc_w 290, 3) := by decide +kernel
theorem dX2_requireSound_17 : decode cX2_requireSound 17 = .ok (.invokespecial 153, 3) := by decide +kernel
theorem dX2_requireSound_20 : decode cX2_requireSound 20 = .ok (.athrow, 1) := by decide +kernel
theorem dX2_requireSound_21 : decode cX2_requireSound 21 = .ok (.return_, 1) := by decide +kernel
theorem dX2_requireForecast_0 : decode cX2_requireForecast 0 = .ok (.iload_n 0, 1) := by decide +kernel
theorem dX2_requireForecast_1 : decode cX2_requireForecast 1 = .ok (.iconst 1, 1) := by decide +kernel
theorem dX2_requireForecast_2 : decode cX2_requireForecast 2 = .ok (.if_icmp .lt 9, 3) := by decide +kernel
theorem dX2_requireForecast_5 : decode cX2_requireForecast 5 = .ok (.iload_n 0, 1) := by decide +kernel
theorem dX2_requireForecast_6 : decode cX2_requireForecast 6 = .ok (.bipush 32, 2) := by decide +kernel
theorem dX2_requireForecast_8 : decode cX2_requireForecast 8 = .ok (.if_icmp .le 14, 3) := by decide +kernel
theorem dX2_requireForecast_11 : decode cX2_requireForecast 11 = .ok (.new 149, 3) := by decide +kernel
theorem dX2_requireForecast_14 : decode cX2_requireForecast 14 = .ok (.dup, 1) := by decide +kernel
theorem dX2_requireForecast_15 : decode cX2_requireForecast 15 = .ok (.ldc_w 292, 3) := by decide +kernel
theorem dX2_requireForecast_18 : decode cX2_requireForecast 18 = .ok (.invokespecial 153, 3) := by decide +kernel
theorem dX2_requireForecast_21 : decode cX2_requireForecast 21 = .ok (.athrow, 1) := by decide +kernel
theorem dX2_requireForecast_22 : decode cX2_requireForecast 22 = .ok (.return_, 1) := by decide +kernel
end
section
def FU : Nat := 4096
def lpf1 {A0 β : Type} (b : (A0 → Option β) → A0 → Option β) : Nat → A0 → Option β
  | 0, _ => none
  | n + 1, a0 => b (lpf1 b n) a0
theorem lpf1_ind {A0 β : Type} {b : (A0 → Option β) → A0 → Option β} {r : β} {P : A0 → Prop} (hb : ∀ K : A0 → Option β, (∀ a0, K a0 = some r → P a0) → ∀ a0, b K a0 = some r → P a0) : ∀ (n : Nat) a0, lpf1 b n a0 = some r → P a0
  | 0, _, h => by cases h
  | n + 1, a0, h => hb (lpf1 b n) (fun a0 h => lpf1_ind hb n a0 h) a0 h
def lpf2 {A0 A1 β : Type} (b : (A0 → A1 → Option β) → A0 → A1 → Option β) : Nat → A0 → A1 → Option β
  | 0, _, _ => none
  | n + 1, a0, a1 => b (lpf2 b n) a0 a1
theorem lpf2_ind {A0 A1 β : Type} {b : (A0 → A1 → Option β) → A0 → A1 → Option β} {r : β} {P : A0 → A1 → Prop} (hb : ∀ K : A0 → A1 → Option β, (∀ a0 a1, K a0 a1 = some r → P a0 a1) → ∀ a0 a1, b K a0 a1 = some r → P a0 a1) : ∀ (n : Nat) a0 a1, lpf2 b n a0 a1 = some r → P a0 a1
  | 0, _, _, h => by cases h
  | n + 1, a0, a1, h => hb (lpf2 b n) (fun a0 a1 h => lpf2_ind hb n a0 a1 h) a0 a1 h
def lpf3 {A0 A1 A2 β : Type} (b : (A0 → A1 → A2 → Option β) → A0 → A1 → A2 → Option β) : Nat → A0 → A1 → A2 → Option β
  | 0, _, _, _ => none
  | n + 1, a0, a1, a2 => b (lpf3 b n) a0 a1 a2
theorem lpf3_ind {A0 A1 A2 β : Type} {b : (A0 → A1 → A2 → Option β) → A0 → A1 → A2 → Option β} {r : β} {P : A0 → A1 → A2 → Prop} (hb : ∀ K : A0 → A1 → A2 → Option β, (∀ a0 a1 a2, K a0 a1 a2 = some r → P a0 a1 a2) → ∀ a0 a1 a2, b K a0 a1 a2 = some r → P a0 a1 a2) : ∀ (n : Nat) a0 a1 a2, lpf3 b n a0 a1 a2 = some r → P a0 a1 a2
  | 0, _, _, _, h => by cases h
  | n + 1, a0, a1, a2, h => hb (lpf3 b n) (fun a0 a1 a2 h => lpf3_ind hb n a0 a1 a2 h) a0 a1 a2 h
def lpf4 {A0 A1 A2 A3 β : Type} (b : (A0 → A1 → A2 → A3 → Option β) → A0 → A1 → A2 → A3 → Option β) : Nat → A0 → A1 → A2 → A3 → Option β
  | 0, _, _, _, _ => none
  | n + 1, a0, a1, a2, a3 => b (lpf4 b n) a0 a1 a2 a3
theorem lpf4_ind {A0 A1 A2 A3 β : Type} {b : (A0 → A1 → A2 → A3 → Option β) → A0 → A1 → A2 → A3 → Option β} {r : β} {P : A0 → A1 → A2 → A3 → Prop} (hb : ∀ K : A0 → A1 → A2 → A3 → Option β, (∀ a0 a1 a2 a3, K a0 a1 a2 a3 = some r → P a0 a1 a2 a3) → ∀ a0 a1 a2 a3, b K a0 a1 a2 a3 = some r → P a0 a1 a2 a3) : ∀ (n : Nat) a0 a1 a2 a3, lpf4 b n a0 a1 a2 a3 = some r → P a0 a1 a2 a3
  | 0, _, _, _, _, h => by cases h
  | n + 1, a0, a1, a2, a3, h => hb (lpf4 b n) (fun a0 a1 a2 a3 h => lpf4_ind hb n a0 a1 a2 a3 h) a0 a1 a2 a3 h
def lpf5 {A0 A1 A2 A3 A4 β : Type} (b : (A0 → A1 → A2 → A3 → A4 → Option β) → A0 → A1 → A2 → A3 → A4 → Option β) : Nat → A0 → A1 → A2 → A3 → A4 → Option β
  | 0, _, _, _, _, _ => none
  | n + 1, a0, a1, a2, a3, a4 => b (lpf5 b n) a0 a1 a2 a3 a4
theorem lpf5_ind {A0 A1 A2 A3 A4 β : Type} {b : (A0 → A1 → A2 → A3 → A4 → Option β) → A0 → A1 → A2 → A3 → A4 → Option β} {r : β} {P : A0 → A1 → A2 → A3 → A4 → Prop} (hb : ∀ K : A0 → A1 → A2 → A3 → A4 → Option β, (∀ a0 a1 a2 a3 a4, K a0 a1 a2 a3 a4 = some r → P a0 a1 a2 a3 a4) → ∀ a0 a1 a2 a3 a4, b K a0 a1 a2 a3 a4 = some r → P a0 a1 a2 a3 a4) : ∀ (n : Nat) a0 a1 a2 a3 a4, lpf5 b n a0 a1 a2 a3 a4 = some r → P a0 a1 a2 a3 a4
  | 0, _, _, _, _, _, h => by cases h
  | n + 1, a0, a1, a2, a3, a4, h => hb (lpf5 b n) (fun a0 a1 a2 a3 a4 h => lpf5_ind hb n a0 a1 a2 a3 a4 h) a0 a1 a2 a3 a4 h
def lpf6 {A0 A1 A2 A3 A4 A5 β : Type} (b : (A0 → A1 → A2 → A3 → A4 → A5 → Option β) → A0 → A1 → A2 → A3 → A4 → A5 → Option β) : Nat → A0 → A1 → A2 → A3 → A4 → A5 → Option β
  | 0, _, _, _, _, _, _ => none
  | n + 1, a0, a1, a2, a3, a4, a5 => b (lpf6 b n) a0 a1 a2 a3 a4 a5
theorem lpf6_ind {A0 A1 A2 A3 A4 A5 β : Type} {b : (A0 → A1 → A2 → A3 → A4 → A5 → Option β) → A0 → A1 → A2 → A3 → A4 → A5 → Option β} {r : β} {P : A0 → A1 → A2 → A3 → A4 → A5 → Prop} (hb : ∀ K : A0 → A1 → A2 → A3 → A4 → A5 → Option β, (∀ a0 a1 a2 a3 a4 a5, K a0 a1 a2 a3 a4 a5 = some r → P a0 a1 a2 a3 a4 a5) → ∀ a0 a1 a2 a3 a4 a5, b K a0 a1 a2 a3 a4 a5 = some r → P a0 a1 a2 a3 a4 a5) : ∀ (n : Nat) a0 a1 a2 a3 a4 a5, lpf6 b n a0 a1 a2 a3 a4 a5 = some r → P a0 a1 a2 a3 a4 a5
  | 0, _, _, _, _, _, _, h => by cases h
  | n + 1, a0, a1, a2, a3, a4, a5, h => hb (lpf6 b n) (fun a0 a1 a2 a3 a4 a5 h => lpf6_ind hb n a0 a1 a2 a3 a4 a5 h) a0 a1 a2 a3 a4 a5 h
def lpf7 {A0 A1 A2 A3 A4 A5 A6 β : Type} (b : (A0 → A1 → A2 → A3 → A4 → A5 → A6 → Option β) → A0 → A1 → A2 → A3 → A4 → A5 → A6 → Option β) : Nat → A0 → A1 → A2 → A3 → A4 → A5 → A6 → Option β
  | 0, _, _, _, _, _, _, _ => none
  | n + 1, a0, a1, a2, a3, a4, a5, a6 => b (lpf7 b n) a0 a1 a2 a3 a4 a5 a6
theorem lpf7_ind {A0 A1 A2 A3 A4 A5 A6 β : Type} {b : (A0 → A1 → A2 → A3 → A4 → A5 → A6 → Option β) → A0 → A1 → A2 → A3 → A4 → A5 → A6 → Option β} {r : β} {P : A0 → A1 → A2 → A3 → A4 → A5 → A6 → Prop} (hb : ∀ K : A0 → A1 → A2 → A3 → A4 → A5 → A6 → Option β, (∀ a0 a1 a2 a3 a4 a5 a6, K a0 a1 a2 a3 a4 a5 a6 = some r → P a0 a1 a2 a3 a4 a5 a6) → ∀ a0 a1 a2 a3 a4 a5 a6, b K a0 a1 a2 a3 a4 a5 a6 = some r → P a0 a1 a2 a3 a4 a5 a6) : ∀ (n : Nat) a0 a1 a2 a3 a4 a5 a6, lpf7 b n a0 a1 a2 a3 a4 a5 a6 = some r → P a0 a1 a2 a3 a4 a5 a6
  | 0, _, _, _, _, _, _, _, h => by cases h
  | n + 1, a0, a1, a2, a3, a4, a5, a6, h => hb (lpf7 b n) (fun a0 a1 a2 a3 a4 a5 a6 h => lpf7_ind hb n a0 a1 a2 a3 a4 a5 a6 h) a0 a1 a2 a3 a4 a5 a6 h
def lpf8 {A0 A1 A2 A3 A4 A5 A6 A7 β : Type} (b : (A0 → A1 → A2 → A3 → A4 → A5 → A6 → A7 → Option β) → A0 → A1 → A2 → A3 → A4 → A5 → A6 → A7 → Option β) : Nat → A0 → A1 → A2 → A3 → A4 → A5 → A6 → A7 → Option β
  | 0, _, _, _, _, _, _, _, _ => none
  | n + 1, a0, a1, a2, a3, a4, a5, a6, a7 => b (lpf8 b n) a0 a1 a2 a3 a4 a5 a6 a7
theorem lpf8_ind {A0 A1 A2 A3 A4 A5 A6 A7 β : Type} {b : (A0 → A1 → A2 → A3 → A4 → A5 → A6 → A7 → Option β) → A0 → A1 → A2 → A3 → A4 → A5 → A6 → A7 → Option β} {r : β} {P : A0 → A1 → A2 → A3 → A4 → A5 → A6 → A7 → Prop} (hb : ∀ K : A0 → A1 → A2 → A3 → A4 → A5 → A6 → A7 → Option β, (∀ a0 a1 a2 a3 a4 a5 a6 a7, K a0 a1 a2 a3 a4 a5 a6 a7 = some r → P a0 a1 a2 a3 a4 a5 a6 a7) → ∀ a0 a1 a2 a3 a4 a5 a6 a7, b K a0 a1 a2 a3 a4 a5 a6 a7 = some r → P a0 a1 a2 a3 a4 a5 a6 a7) : ∀ (n : Nat) a0 a1 a2 a3 a4 a5 a6 a7, lpf8 b n a0 a1 a2 a3 a4 a5 a6 a7 = some r → P a0 a1 a2 a3 a4 a5 a6 a7
  | 0, _, _, _, _, _, _, _, _, h => by cases h
  | n + 1, a0, a1, a2, a3, a4, a5, a6, a7, h => hb (lpf8 b n) (fun a0 a1 a2 a3 a4 a5 a6 a7 h => lpf8_ind hb n a0 a1 a2 a3 a4 a5 a6 a7 h) a0 a1 a2 a3 a4 a5 a6 a7 h
def lpf9 {A0 A1 A2 A3 A4 A5 A6 A7 A8 β : Type} (b : (A0 → A1 → A2 → A3 → A4 → A5 → A6 → A7 → A8 → Option β) → A0 → A1 → A2 → A3 → A4 → A5 → A6 → A7 → A8 → Option β) : Nat → A0 → A1 → A2 → A3 → A4 → A5 → A6 → A7 → A8 → Option β
  | 0, _, _, _, _, _, _, _, _, _ => none
  | n + 1, a0, a1, a2, a3, a4, a5, a6, a7, a8 => b (lpf9 b n) a0 a1 a2 a3 a4 a5 a6 a7 a8
theorem lpf9_ind {A0 A1 A2 A3 A4 A5 A6 A7 A8 β : Type} {b : (A0 → A1 → A2 → A3 → A4 → A5 → A6 → A7 → A8 → Option β) → A0 → A1 → A2 → A3 → A4 → A5 → A6 → A7 → A8 → Option β} {r : β} {P : A0 → A1 → A2 → A3 → A4 → A5 → A6 → A7 → A8 → Prop} (hb : ∀ K : A0 → A1 → A2 → A3 → A4 → A5 → A6 → A7 → A8 → Option β, (∀ a0 a1 a2 a3 a4 a5 a6 a7 a8, K a0 a1 a2 a3 a4 a5 a6 a7 a8 = some r → P a0 a1 a2 a3 a4 a5 a6 a7 a8) → ∀ a0 a1 a2 a3 a4 a5 a6 a7 a8, b K a0 a1 a2 a3 a4 a5 a6 a7 a8 = some r → P a0 a1 a2 a3 a4 a5 a6 a7 a8) : ∀ (n : Nat) a0 a1 a2 a3 a4 a5 a6 a7 a8, lpf9 b n a0 a1 a2 a3 a4 a5 a6 a7 a8 = some r → P a0 a1 a2 a3 a4 a5 a6 a7 a8
  | 0, _, _, _, _, _, _, _, _, _, h => by cases h
  | n + 1, a0, a1, a2, a3, a4, a5, a6, a7, a8, h => hb (lpf9 b n) (fun a0 a1 a2 a3 a4 a5 a6 a7 a8 h => lpf9_ind hb n a0 a1 a2 a3 a4 a5 a6 a7 a8 h) a0 a1 a2 a3 a4 a5 a6 a7 a8 h
def lpf10 {A0 A1 A2 A3 A4 A5 A6 A7 A8 A9 β : Type} (b : (A0 → A1 → A2 → A3 → A4 → A5 → A6 → A7 → A8 → A9 → Option β) → A0 → A1 → A2 → A3 → A4 → A5 → A6 → A7 → A8 → A9 → Option β) : Nat → A0 → A1 → A2 → A3 → A4 → A5 → A6 → A7 → A8 → A9 → Option β
  | 0, _, _, _, _, _, _, _, _, _, _ => none
  | n + 1, a0, a1, a2, a3, a4, a5, a6, a7, a8, a9 => b (lpf10 b n) a0 a1 a2 a3 a4 a5 a6 a7 a8 a9
theorem lpf10_ind {A0 A1 A2 A3 A4 A5 A6 A7 A8 A9 β : Type} {b : (A0 → A1 → A2 → A3 → A4 → A5 → A6 → A7 → A8 → A9 → Option β) → A0 → A1 → A2 → A3 → A4 → A5 → A6 → A7 → A8 → A9 → Option β} {r : β} {P : A0 → A1 → A2 → A3 → A4 → A5 → A6 → A7 → A8 → A9 → Prop} (hb : ∀ K : A0 → A1 → A2 → A3 → A4 → A5 → A6 → A7 → A8 → A9 → Option β, (∀ a0 a1 a2 a3 a4 a5 a6 a7 a8 a9, K a0 a1 a2 a3 a4 a5 a6 a7 a8 a9 = some r → P a0 a1 a2 a3 a4 a5 a6 a7 a8 a9) → ∀ a0 a1 a2 a3 a4 a5 a6 a7 a8 a9, b K a0 a1 a2 a3 a4 a5 a6 a7 a8 a9 = some r → P a0 a1 a2 a3 a4 a5 a6 a7 a8 a9) : ∀ (n : Nat) a0 a1 a2 a3 a4 a5 a6 a7 a8 a9, lpf10 b n a0 a1 a2 a3 a4 a5 a6 a7 a8 a9 = some r → P a0 a1 a2 a3 a4 a5 a6 a7 a8 a9
  | 0, _, _, _, _, _, _, _, _, _, _, h => by cases h
  | n + 1, a0, a1, a2, a3, a4, a5, a6, a7, a8, a9, h => hb (lpf10 b n) (fun a0 a1 a2 a3 a4 a5 a6 a7 a8 a9 h => lpf10_ind hb n a0 a1 a2 a3 a4 a5 a6 a7 a8 a9 h) a0 a1 a2 a3 a4 a5 a6 a7 a8 a9 h
theorem s_wd {Γ : Ctx} {nL k n pc : Nat} {lv : List (Nat × Value)} {st : List Value} {a : Nat → Nat} {S S' : OB} (h : S' = S) (kk : X Γ nL k n pc lv st (wS Γ.cs.1 a S')) : X Γ nL k n pc lv st (wS Γ.cs.1 a S) := h ▸ kk
theorem t_wd {Γ : Ctx} {nL k n pc : Nat} {lv : List (Nat × Value)} {st : List Value} {a : Nat → Nat} {S S' : OB} (h : S' = S) (kk : X Γ nL k n pc lv st (wT Γ.cs.1 a S')) : X Γ nL k n pc lv st (wT Γ.cs.1 a S) := h ▸ kk
theorem b_wd {Γ : Ctx} {nL k n pc : Nat} {lv : List (Nat × Value)} {st : List Value} {a : Nat → Nat → Nat} {S S' : BO} (h : S' = S) (kk : X Γ nL k n pc lv st (wB Γ.cs a S')) : X Γ nL k n pc lv st (wB Γ.cs a S) := h ▸ kk
theorem x_mmax {Γ : Ctx} {cc : ByteArray} {nL k n pc pc' : Nat} {own : String} {R0 : Room} {lv : List (Nat × Value)} {st : List Value} {ws : va_W} (B : CX Γ cc nL own R0) {index : Nat} (w1 : Cond.methodLink own index Lib.Math.max.name ∈ GW) (w2 : Cond.static Lib.Math.max.name ∈ GW) (w3 : Cond.initialized "java/lang/Math" ∈ GW) (w4 : Cond.code Lib.Math.max.name Lib.Math.max.code 2 (some .int) ∈ GW) (hR : 1 ≤ R0.frames ∧ (st.map fun v => v.category).sum + 13 ≤ R0.locals) (hroom : k ≤ R0.cells ∧ n ≤ R0.slots) {x y : Int32} (d : decode cc pc = .ok (.invokestatic index, 3)) (hp : pc + 3 = pc') (kk : X Γ nL k n pc' lv (.int (if x < y then y else x) :: st) ws) : X Γ nL k n pc lv (.int y :: .int x :: st) ws := by
  obtain ⟨p, l, e, R, s, m, args, below, meth, c, Q, A, D, cs⟩ := Γ
  subst hp
  obtain ⟨hfix, hKN, hA, hlk, rfl⟩ := B
  intro H locs ls hP hD hS hl
  exact va_mmax hfix.1 hfix.2.1 (hfix.2.2.1.trans hl.1.symm) hfix.2.2.2.1 (hfix.2.2.2.2 _ w1) (hfix.2.2.2.2 _ w2) (hfix.2.2.2.2 _ w3) (hfix.2.2.2.2 _ w4) hR.1 hR.2 hroom.1 hroom.2 d (kk H locs ls hP hD hS hl)
theorem x_mmin {Γ : Ctx} {cc : ByteArray} {nL k n pc pc' : Nat} {own : String} {R0 : Room} {lv : List (Nat × Value)} {st : List Value} {ws : va_W} (B : CX Γ cc nL own R0) {index : Nat} (w1 : Cond.methodLink own index Lib.Math.min.name ∈ GW) (w2 : Cond.static Lib.Math.min.name ∈ GW) (w3 : Cond.initialized "java/lang/Math" ∈ GW) (w4 : Cond.code Lib.Math.min.name Lib.Math.min.code 2 (some .int) ∈ GW) (hR : 1 ≤ R0.frames ∧ (st.map fun v => v.category).sum + 13 ≤ R0.locals) (hroom : k ≤ R0.cells ∧ n ≤ R0.slots) {x y : Int32} (d : decode cc pc = .ok (.invokestatic index, 3)) (hp : pc + 3 = pc') (kk : X Γ nL k n pc' lv (.int (if y < x then y else x) :: st) ws) : X Γ nL k n pc lv (.int y :: .int x :: st) ws := by
  obtain ⟨p, l, e, R, s, m, args, below, meth, c, Q, A, D, cs⟩ := Γ
  subst hp
  obtain ⟨hfix, hKN, hA, hlk, rfl⟩ := B
  intro H locs ls hP hD hS hl
  exact va_mmin hfix.1 hfix.2.1 (hfix.2.2.1.trans hl.1.symm) hfix.2.2.2.1 (hfix.2.2.2.2 _ w1) (hfix.2.2.2.2 _ w2) (hfix.2.2.2.2 _ w3) (hfix.2.2.2.2 _ w4) hR.1 hR.2 hroom.1 hroom.2 d (kk H locs ls hP hD hS hl)
theorem mw_RX1_115 : Cond.methodLink RX1 115 Lib.Math.max.name ∈ GW := List.mem_of_getElem? (i := 335) (by decide +kernel)
theorem mw_max1 : Cond.static Lib.Math.max.name ∈ GW := List.mem_of_getElem? (i := 336) (by decide +kernel)
theorem mw_max2 : Cond.initialized "java/lang/Math" ∈ GW := List.mem_of_getElem? (i := 337) (by decide +kernel)
theorem mw_max3 : Cond.code Lib.Math.max.name Lib.Math.max.code 2 (some .int) ∈ GW := List.mem_of_getElem? (i := 338) (by decide +kernel)
theorem nw_RX1_62 : Cond.methodLinkNest RX1 62 yX2_valueAt RX2 ∈ nestW := by simp [nestW]
theorem nw_RX1_66 : Cond.methodLinkNest RX1 66 yX2_putAt RX2 ∈ nestW := by simp [nestW]
theorem gv_RX1_70 : GoodIn GW (wsV RX1 70 RX1 yX1_runningNumber (.code yX1_runningNumber cX1_runningNumber 1 (some .int) :: GW)) := gw_app [Cond.methodLink RX1 70 yX1_runningNumber, Cond.instanceMethod yX1_runningNumber, Cond.selects RX1 yX1_runningNumber yX1_runningNumber, Cond.initialized RX1, Cond.code yX1_runningNumber cX1_runningNumber 1 (some .int)] [154, 65, 66, 11, 67] (by decide +kernel) (by decide +kernel)
theorem gv_RX1_74 : GoodIn GW (wsV RX1 74 RX1 yX1_cellCount (.code yX1_cellCount cX1_cellCount 4 (some .int) :: GW)) := gw_app [Cond.methodLink RX1 74 yX1_cellCount, Cond.instanceMethod yX1_cellCount, Cond.selects RX1 yX1_cellCount yX1_cellCount, Cond.initialized RX1, Cond.code yX1_cellCount cX1_cellCount 4 (some .int)] [238, 83, 84, 11, 85] (by decide +kernel) (by decide +kernel)
theorem gv_RX1_81 : GoodIn GW (wsV RX1 81 RX1 yX1_removeRecording (.code yX1_removeRecording cX1_removeRecording 4 none :: GW)) := gw_app [Cond.methodLink RX1 81 yX1_removeRecording, Cond.instanceMethod yX1_removeRecording, Cond.selects RX1 yX1_removeRecording yX1_removeRecording, Cond.initialized RX1, Cond.code yX1_removeRecording cX1_removeRecording 4 none] [263, 264, 265, 11, 266] (by decide +kernel) (by decide +kernel)
theorem gv_RX1_78 : GoodIn GW (wsV RX1 78 RX1 yX1_stopRecording (.code yX1_stopRecording cX1_stopRecording 3 (some .int) :: GW)) := gw_app [Cond.methodLink RX1 78 yX1_stopRecording, Cond.instanceMethod yX1_stopRecording, Cond.selects RX1 yX1_stopRecording yX1_stopRecording, Cond.initialized RX1, Cond.code yX1_stopRecording cX1_stopRecording 3 (some .int)] [259, 260, 261, 11, 262] (by decide +kernel) (by decide +kernel)
theorem gv_RX1_85 : GoodIn GW (wsV RX1 85 RX1 yX1_dropFreeCells (.code yX1_dropFreeCells cX1_dropFreeCells 4 none :: GW)) := gw_app [Cond.methodLink RX1 85 yX1_dropFreeCells, Cond.instanceMethod yX1_dropFreeCells, Cond.selects RX1 yX1_dropFreeCells yX1_dropFreeCells, Cond.initialized RX1, Cond.code yX1_dropFreeCells cX1_dropFreeCells 4 none] [289, 290, 291, 11, 292] (by decide +kernel) (by decide +kernel)
theorem gv_RX1_88 : GoodIn GW (wsV RX1 88 RX1 yX1_isWritable (.code yX1_isWritable cX1_isWritable 3 (some .boolean) :: GW)) := gw_app [Cond.methodLink RX1 88 yX1_isWritable, Cond.instanceMethod yX1_isWritable, Cond.selects RX1 yX1_isWritable yX1_isWritable, Cond.initialized RX1, Cond.code yX1_isWritable cX1_isWritable 3 (some .boolean)] [150, 151, 152, 11, 153] (by decide +kernel) (by decide +kernel)
theorem gv_RX1_92 : GoodIn GW (wsV RX1 92 RX1 yX1_cellFromHead (.code yX1_cellFromHead cX1_cellFromHead 2 (some .int) :: GW)) := gw_app [Cond.methodLink RX1 92 yX1_cellFromHead, Cond.instanceMethod yX1_cellFromHead, Cond.selects RX1 yX1_cellFromHead yX1_cellFromHead, Cond.initialized RX1, Cond.code yX1_cellFromHead cX1_cellFromHead 2 (some .int)] [171, 172, 173, 11, 174] (by decide +kernel) (by decide +kernel)
theorem gv_RX1_95 : GoodIn GW (wsV RX1 95 RX1 yX1_writableCells (.code yX1_writableCells cX1_writableCells 3 (some .int) :: GW)) := gw_app [Cond.methodLink RX1 95 yX1_writableCells, Cond.instanceMethod yX1_writableCells, Cond.selects RX1 yX1_writableCells yX1_writableCells, Cond.initialized RX1, Cond.code yX1_writableCells cX1_writableCells 3 (some .int)] [383, 147, 148, 11, 149] (by decide +kernel) (by decide +kernel)
theorem gv_RX1_108 : GoodIn GW (wsV RX1 108 RX1 yX1_cellsBefore (.code yX1_cellsBefore cX1_cellsBefore 6 (some .int) :: GW)) := gw_app [Cond.methodLink RX1 108 yX1_cellsBefore, Cond.instanceMethod yX1_cellsBefore, Cond.selects RX1 yX1_cellsBefore yX1_cellsBefore, Cond.initialized RX1, Cond.code yX1_cellsBefore cX1_cellsBefore 6 (some .int)] [396, 397, 398, 11, 399] (by decide +kernel) (by decide +kernel)
theorem gv_RX1_98 : GoodIn GW (wsV RX1 98 RX1 yX1_firstWritable (.code yX1_firstWritable cX1_firstWritable 3 (some .int) :: GW)) := gw_app [Cond.methodLink RX1 98 yX1_firstWritable, Cond.instanceMethod yX1_firstWritable, Cond.selects RX1 yX1_firstWritable yX1_firstWritable, Cond.initialized RX1, Cond.code yX1_firstWritable cX1_firstWritable 3 (some .int)] [388, 389, 390, 11, 391] (by decide +kernel) (by decide +kernel)
theorem gv_RX1_101 : GoodIn GW (wsV RX1 101 RX1 yX1_loseCell (.code yX1_loseCell cX1_loseCell 3 none :: GW)) := gw_app [Cond.methodLink RX1 101 yX1_loseCell, Cond.instanceMethod yX1_loseCell, Cond.selects RX1 yX1_loseCell yX1_loseCell, Cond.initialized RX1, Cond.code yX1_loseCell cX1_loseCell 3 none] [392, 393, 394, 11, 395] (by decide +kernel) (by decide +kernel)
theorem gv_RX1_104 : GoodIn GW (wsV RX1 104 RX1 yX1_writeCell (.code yX1_writeCell cX1_writeCell 3 none :: GW)) := gw_app [Cond.methodLink RX1 104 yX1_writeCell, Cond.instanceMethod yX1_writeCell, Cond.selects RX1 yX1_writeCell yX1_writeCell, Cond.initialized RX1, Cond.code yX1_writeCell cX1_writeCell 3 none] [400, 401, 402, 11, 403] (by decide +kernel) (by decide +kernel)
theorem gv_RX1_111 : GoodIn GW (wsV RX1 111 RX1 yX1_cellAt (.code yX1_cellAt cX1_cellAt 6 (some .int) :: GW)) := gw_app [Cond.methodLink RX1 111 yX1_cellAt, Cond.instanceMethod yX1_cellAt, Cond.selects RX1 yX1_cellAt yX1_cellAt, Cond.initialized RX1, Cond.code yX1_cellAt cX1_cellAt 6 (some .int)] [324, 105, 106, 11, 107] (by decide +kernel) (by decide +kernel)
theorem gv_RX2_34 : GoodIn GW (wsV RX2 34 RX1 yX1_mayBegin (.code yX1_mayBegin cX1_mayBegin 1 (some .boolean) :: GW)) := gw_app [Cond.methodLink RX2 34 yX1_mayBegin, Cond.instanceMethod yX1_mayBegin, Cond.selects RX1 yX1_mayBegin yX1_mayBegin, Cond.initialized RX1, Cond.code yX1_mayBegin cX1_mayBegin 1 (some .boolean)] [234, 235, 236, 11, 237] (by decide +kernel) (by decide +kernel)
theorem gv_RX2_45 : GoodIn GW (wsV RX2 45 RX2 yX2_save (.code yX2_save cX2_save 2 none :: GW)) := gw_app [Cond.methodLink RX2 45 yX2_save, Cond.instanceMethod yX2_save, Cond.selects RX2 yX2_save yX2_save, Cond.initialized RX2, Cond.code yX2_save cX2_save 2 none] [239, 240, 241, 2, 242] (by decide +kernel) (by decide +kernel)
theorem gv_RX2_48 : GoodIn GW (wsV RX2 48 RX1 yX1_beginRecording (.code yX1_beginRecording cX1_beginRecording 2 (some .int) :: GW)) := gw_app [Cond.methodLink RX2 48 yX1_beginRecording, Cond.instanceMethod yX1_beginRecording, Cond.selects RX1 yX1_beginRecording yX1_beginRecording, Cond.initialized RX1, Cond.code yX1_beginRecording cX1_beginRecording 2 (some .int)] [255, 256, 257, 11, 258] (by decide +kernel) (by decide +kernel)
theorem gv_RX2_58 : GoodIn GW (wsV RX2 58 RX1 yX1_stopRecording (.code yX1_stopRecording cX1_stopRecording 3 (some .int) :: GW)) := gw_app [Cond.methodLink RX2 58 yX1_stopRecording, Cond.instanceMethod yX1_stopRecording, Cond.selects RX1 yX1_stopRecording yX1_stopRecording, Cond.initialized RX1, Cond.code yX1_stopRecording cX1_stopRecording 3 (some .int)] [306, 260, 261, 11, 262] (by decide +kernel) (by decide +kernel)
theorem gv_RX2_61 : GoodIn GW (va_wsS RX2 61 yX2_requireSound (.code yX2_requireSound cX2_requireSound 1 none :: GW)) := gw_app [Cond.methodLink RX2 61 yX2_requireSound, Cond.static yX2_requireSound, Cond.initialized RX2, Cond.code yX2_requireSound cX2_requireSound 1 none] [343, 344, 2, 345] (by decide +kernel) (by decide +kernel)
theorem gv_RX2_65 : GoodIn GW (wsV RX2 65 RX1 yX1_maySpeak (.code yX1_maySpeak cX1_maySpeak 2 (some .boolean) :: GW)) := gw_app [Cond.methodLink RX2 65 yX1_maySpeak, Cond.instanceMethod yX1_maySpeak, Cond.selects RX1 yX1_maySpeak yX1_maySpeak, Cond.initialized RX1, Cond.code yX1_maySpeak cX1_maySpeak 2 (some .boolean)] [379, 380, 381, 11, 382] (by decide +kernel) (by decide +kernel)
theorem gv_RX2_71 : GoodIn GW (wsV RX2 71 RX1 yX1_speakTimes (.code yX1_speakTimes cX1_speakTimes 5 (some .int) :: GW)) := gw_app [Cond.methodLink RX2 71 yX1_speakTimes, Cond.instanceMethod yX1_speakTimes, Cond.selects RX1 yX1_speakTimes yX1_speakTimes, Cond.initialized RX1, Cond.code yX1_speakTimes cX1_speakTimes 5 (some .int)] [384, 385, 386, 11, 387] (by decide +kernel) (by decide +kernel)
theorem gv_RX2_276 : GoodIn GW (wsV RX2 276 RX1 yX1_isRecording (.code yX1_isRecording cX1_isRecording 2 (some .boolean) :: GW)) := gw_app [Cond.methodLink RX2 276 yX1_isRecording, Cond.instanceMethod yX1_isRecording, Cond.selects RX1 yX1_isRecording yX1_isRecording, Cond.initialized RX1, Cond.code yX1_isRecording cX1_isRecording 2 (some .boolean)] [78, 79, 80, 11, 81] (by decide +kernel) (by decide +kernel)
theorem gv_RX2_75 : GoodIn GW (wsV RX2 75 RX2 yX2_requireRecording (.code yX2_requireRecording cX2_requireRecording 2 none :: GW)) := gw_app [Cond.methodLink RX2 75 yX2_requireRecording, Cond.instanceMethod yX2_requireRecording, Cond.selects RX2 yX2_requireRecording yX2_requireRecording, Cond.initialized RX2, Cond.code yX2_requireRecording cX2_requireRecording 2 none] [72, 73, 74, 2, 75] (by decide +kernel) (by decide +kernel)
theorem gv_RX2_78 : GoodIn GW (wsV RX2 78 RX1 yX1_isFlagged (.code yX1_isFlagged cX1_isFlagged 2 (some .boolean) :: GW)) := gw_app [Cond.methodLink RX2 78 yX1_isFlagged, Cond.instanceMethod yX1_isFlagged, Cond.selects RX1 yX1_isFlagged yX1_isFlagged, Cond.initialized RX1, Cond.code yX1_isFlagged cX1_isFlagged 2 (some .boolean)] [92, 93, 94, 11, 95] (by decide +kernel) (by decide +kernel)
theorem gv_RX2_81 : GoodIn GW (wsV RX2 81 RX1 yX1_putFlag (.code yX1_putFlag cX1_putFlag 3 none :: GW)) := gw_app [Cond.methodLink RX2 81 yX1_putFlag, Cond.instanceMethod yX1_putFlag, Cond.selects RX1 yX1_putFlag yX1_putFlag, Cond.initialized RX1, Cond.code yX1_putFlag cX1_putFlag 3 none] [277, 278, 279, 11, 280] (by decide +kernel) (by decide +kernel)
theorem gv_RX2_87 : GoodIn GW (wsV RX2 87 RX1 yX1_eraseRecording (.code yX1_eraseRecording cX1_eraseRecording 4 (some .int) :: GW)) := gw_app [Cond.methodLink RX2 87 yX1_eraseRecording, Cond.instanceMethod yX1_eraseRecording, Cond.selects RX1 yX1_eraseRecording yX1_eraseRecording, Cond.initialized RX1, Cond.code yX1_eraseRecording cX1_eraseRecording 4 (some .int)] [285, 286, 287, 11, 288] (by decide +kernel) (by decide +kernel)
theorem gv_RX2_91 : GoodIn GW (va_wsS RX2 91 yX2_requireCell (.code yX2_requireCell cX2_requireCell 1 none :: GW)) := gw_app [Cond.methodLink RX2 91 yX2_requireCell, Cond.static yX2_requireCell, Cond.initialized RX2, Cond.code yX2_requireCell cX2_requireCell 1 none] [113, 114, 2, 115] (by decide +kernel) (by decide +kernel)
theorem gv_RX2_102 : GoodIn GW (wsV RX2 102 RX1 yX1_runningNumber (.code yX1_runningNumber cX1_runningNumber 1 (some .int) :: GW)) := gw_app [Cond.methodLink RX2 102 yX1_runningNumber, Cond.instanceMethod yX1_runningNumber, Cond.selects RX1 yX1_runningNumber yX1_runningNumber, Cond.initialized RX1, Cond.code yX1_runningNumber cX1_runningNumber 1 (some .int)] [64, 65, 66, 11, 67] (by decide +kernel) (by decide +kernel)
theorem gv_RX2_105 : GoodIn GW (wsV RX2 105 RX1 yX1_cellCount (.code yX1_cellCount cX1_cellCount 4 (some .int) :: GW)) := gw_app [Cond.methodLink RX2 105 yX1_cellCount, Cond.instanceMethod yX1_cellCount, Cond.selects RX1 yX1_cellCount yX1_cellCount, Cond.initialized RX1, Cond.code yX1_cellCount cX1_cellCount 4 (some .int)] [82, 83, 84, 11, 85] (by decide +kernel) (by decide +kernel)
theorem gv_RX2_108 : GoodIn GW (wsV RX2 108 RX2 yX2_requirePlace (.code yX2_requirePlace cX2_requirePlace 3 none :: GW)) := gw_app [Cond.methodLink RX2 108 yX2_requirePlace, Cond.instanceMethod yX2_requirePlace, Cond.selects RX2 yX2_requirePlace yX2_requirePlace, Cond.initialized RX2, Cond.code yX2_requirePlace cX2_requirePlace 3 none] [100, 101, 102, 2, 103] (by decide +kernel) (by decide +kernel)
theorem gv_RX2_116 : GoodIn GW (wsV RX2 116 RX1 yX1_cellAt (.code yX1_cellAt cX1_cellAt 6 (some .int) :: GW)) := gw_app [Cond.methodLink RX2 116 yX1_cellAt, Cond.instanceMethod yX1_cellAt, Cond.selects RX1 yX1_cellAt yX1_cellAt, Cond.initialized RX1, Cond.code yX1_cellAt cX1_cellAt 6 (some .int)] [104, 105, 106, 11, 107] (by decide +kernel) (by decide +kernel)
theorem gv_RX2_140 : GoodIn GW (wsV RX2 140 RX1 yX1_bringPlayer (.code yX1_bringPlayer cX1_bringPlayer 2 none :: GW)) := gw_app [Cond.methodLink RX2 140 yX1_bringPlayer, Cond.instanceMethod yX1_bringPlayer, Cond.selects RX1 yX1_bringPlayer yX1_bringPlayer, Cond.initialized RX1, Cond.code yX1_bringPlayer cX1_bringPlayer 2 none] [297, 298, 299, 11, 300] (by decide +kernel) (by decide +kernel)
theorem gv_RX2_143 : GoodIn GW (wsV RX2 143 RX2 yX2_requirePlayer (.code yX2_requirePlayer cX2_requirePlayer 1 none :: GW)) := gw_app [Cond.methodLink RX2 143 yX2_requirePlayer, Cond.instanceMethod yX2_requirePlayer, Cond.selects RX2 yX2_requirePlayer yX2_requirePlayer, Cond.initialized RX2, Cond.code yX2_requirePlayer cX2_requirePlayer 1 none] [316, 317, 318, 2, 319] (by decide +kernel) (by decide +kernel)
theorem gv_RX2_146 : GoodIn GW (wsV RX2 146 RX1 yX1_playCell (.code yX1_playCell cX1_playCell 2 (some .int) :: GW)) := gw_app [Cond.methodLink RX2 146 yX1_playCell, Cond.instanceMethod yX1_playCell, Cond.selects RX1 yX1_playCell yX1_playCell, Cond.initialized RX1, Cond.code yX1_playCell cX1_playCell 2 (some .int)] [320, 321, 322, 11, 323] (by decide +kernel) (by decide +kernel)
theorem gv_RX2_154 : GoodIn GW (wsV RX2 154 RX1 yX1_stepBack (.code yX1_stepBack cX1_stepBack 2 (some .int) :: GW)) := gw_app [Cond.methodLink RX2 154 yX1_stepBack, Cond.instanceMethod yX1_stepBack, Cond.selects RX1 yX1_stepBack yX1_stepBack, Cond.initialized RX1, Cond.code yX1_stepBack cX1_stepBack 2 (some .int)] [331, 332, 333, 11, 334] (by decide +kernel) (by decide +kernel)
theorem gv_RX2_170 : GoodIn GW (wsV RX2 170 RX1 yX1_correctedCells (.code yX1_correctedCells cX1_correctedCells 3 (some .int) :: GW)) := gw_app [Cond.methodLink RX2 170 yX1_correctedCells, Cond.instanceMethod yX1_correctedCells, Cond.selects RX1 yX1_correctedCells yX1_correctedCells, Cond.initialized RX1, Cond.code yX1_correctedCells cX1_correctedCells 3 (some .int)] [159, 160, 161, 11, 162] (by decide +kernel) (by decide +kernel)
theorem gv_RX2_173 : GoodIn GW (wsV RX2 173 RX1 yX1_writableCells (.code yX1_writableCells cX1_writableCells 3 (some .int) :: GW)) := gw_app [Cond.methodLink RX2 173 yX1_writableCells, Cond.instanceMethod yX1_writableCells, Cond.selects RX1 yX1_writableCells yX1_writableCells, Cond.initialized RX1, Cond.code yX1_writableCells cX1_writableCells 3 (some .int)] [146, 147, 148, 11, 149] (by decide +kernel) (by decide +kernel)
theorem gv_RX2_176 : GoodIn GW (wsV RX2 176 RX1 yX1_firstLoser (.code yX1_firstLoser cX1_firstLoser 4 (some .int) :: GW)) := gw_app [Cond.methodLink RX2 176 yX1_firstLoser, Cond.instanceMethod yX1_firstLoser, Cond.selects RX1 yX1_firstLoser yX1_firstLoser, Cond.initialized RX1, Cond.code yX1_firstLoser cX1_firstLoser 4 (some .int)] [167, 168, 169, 11, 170] (by decide +kernel) (by decide +kernel)
theorem gv_RX2_179 : GoodIn GW (va_wsS RX2 179 yX2_requireForecast (.code yX2_requireForecast cX2_requireForecast 1 none :: GW)) := gw_app [Cond.methodLink RX2 179 yX2_requireForecast, Cond.static yX2_requireForecast, Cond.initialized RX2, Cond.code yX2_requireForecast cX2_requireForecast 1 none] [360, 361, 2, 362] (by decide +kernel) (by decide +kernel)
theorem gv_RX2_182 : GoodIn GW (wsV RX2 182 RX1 yX1_lossAfter (.code yX1_lossAfter cX1_lossAfter 7 (some .int) :: GW)) := gw_app [Cond.methodLink RX2 182 yX1_lossAfter, Cond.instanceMethod yX1_lossAfter, Cond.selects RX1 yX1_lossAfter yX1_lossAfter, Cond.initialized RX1, Cond.code yX1_lossAfter cX1_lossAfter 7 (some .int)] [363, 364, 365, 11, 366] (by decide +kernel) (by decide +kernel)
theorem gv_RX2_221 : GoodIn GW (va_wsS RX2 221 yX2_mixed (.code yX2_mixed cX2_mixed 4 (some .long) :: GW)) := gw_app [Cond.methodLink RX2 221 yX2_mixed, Cond.static yX2_mixed, Cond.initialized RX2, Cond.code yX2_mixed cX2_mixed 4 (some .long)] [190, 191, 2, 192] (by decide +kernel) (by decide +kernel)
theorem gv_RX2_218 : GoodIn GW (wsV RX2 218 RX2 yX2_recordings (.code yX2_recordings cX2_recordings 1 (some .int) :: GW)) := gw_app [Cond.methodLink RX2 218 yX2_recordings, Cond.instanceMethod yX2_recordings, Cond.selects RX2 yX2_recordings yX2_recordings, Cond.initialized RX2, Cond.code yX2_recordings cX2_recordings 1 (some .int)] [189, 56, 57, 2, 58] (by decide +kernel) (by decide +kernel)
theorem gv_RX2_225 : GoodIn GW (wsV RX2 225 RX2 yX2_running (.code yX2_running cX2_running 1 (some .int) :: GW)) := gw_app [Cond.methodLink RX2 225 yX2_running, Cond.instanceMethod yX2_running, Cond.selects RX2 yX2_running yX2_running, Cond.initialized RX2, Cond.code yX2_running cX2_running 1 (some .int)] [194, 61, 62, 2, 63] (by decide +kernel) (by decide +kernel)
theorem gv_RX2_228 : GoodIn GW (wsV RX2 228 RX2 yX2_head (.code yX2_head cX2_head 1 (some .int) :: GW)) := gw_app [Cond.methodLink RX2 228 yX2_head, Cond.instanceMethod yX2_head, Cond.selects RX2 yX2_head yX2_head, Cond.initialized RX2, Cond.code yX2_head cX2_head 1 (some .int)] [195, 196, 197, 2, 198] (by decide +kernel) (by decide +kernel)
theorem gv_RX2_230 : GoodIn GW (wsV RX2 230 RX2 yX2_free (.code yX2_free cX2_free 1 (some .int) :: GW)) := gw_app [Cond.methodLink RX2 230 yX2_free, Cond.instanceMethod yX2_free, Cond.selects RX2 yX2_free yX2_free, Cond.initialized RX2, Cond.code yX2_free cX2_free 1 (some .int)] [200, 51, 52, 2, 53] (by decide +kernel) (by decide +kernel)
theorem gv_RX2_233 : GoodIn GW (wsV RX2 233 RX2 yX2_spoken (.code yX2_spoken cX2_spoken 1 (some .int) :: GW)) := gw_app [Cond.methodLink RX2 233 yX2_spoken, Cond.instanceMethod yX2_spoken, Cond.selects RX2 yX2_spoken yX2_spoken, Cond.initialized RX2, Cond.code yX2_spoken cX2_spoken 1 (some .int)] [201, 202, 203, 2, 204] (by decide +kernel) (by decide +kernel)
theorem gv_RX2_235 : GoodIn GW (wsV RX2 235 RX2 yX2_gone (.code yX2_gone cX2_gone 1 (some .int) :: GW)) := gw_app [Cond.methodLink RX2 235 yX2_gone, Cond.instanceMethod yX2_gone, Cond.selects RX2 yX2_gone yX2_gone, Cond.initialized RX2, Cond.code yX2_gone cX2_gone 1 (some .int)] [206, 207, 208, 2, 209] (by decide +kernel) (by decide +kernel)
theorem gv_RX2_237 : GoodIn GW (wsV RX2 237 RX2 yX2_playing (.code yX2_playing cX2_playing 1 (some .int) :: GW)) := gw_app [Cond.methodLink RX2 237 yX2_playing, Cond.instanceMethod yX2_playing, Cond.selects RX2 yX2_playing yX2_playing, Cond.initialized RX2, Cond.code yX2_playing cX2_playing 1 (some .int)] [211, 133, 134, 2, 135] (by decide +kernel) (by decide +kernel)
theorem gv_RX2_240 : GoodIn GW (wsV RX2 240 RX2 yX2_place (.code yX2_place cX2_place 1 (some .int) :: GW)) := gw_app [Cond.methodLink RX2 240 yX2_place, Cond.instanceMethod yX2_place, Cond.selects RX2 yX2_place yX2_place, Cond.initialized RX2, Cond.code yX2_place cX2_place 1 (some .int)] [212, 138, 139, 2, 140] (by decide +kernel) (by decide +kernel)
theorem gv_RX2_242 : GoodIn GW (wsV RX2 242 RX2 yX2_corrected (.code yX2_corrected cX2_corrected 1 (some .int) :: GW)) := gw_app [Cond.methodLink RX2 242 yX2_corrected, Cond.instanceMethod yX2_corrected, Cond.selects RX2 yX2_corrected yX2_corrected, Cond.initialized RX2, Cond.code yX2_corrected cX2_corrected 1 (some .int)] [213, 156, 157, 2, 158] (by decide +kernel) (by decide +kernel)
theorem gv_RX2_245 : GoodIn GW (wsV RX2 245 RX2 yX2_room (.code yX2_room cX2_room 1 (some .int) :: GW)) := gw_app [Cond.methodLink RX2 245 yX2_room, Cond.instanceMethod yX2_room, Cond.selects RX2 yX2_room yX2_room, Cond.initialized RX2, Cond.code yX2_room cX2_room 1 (some .int)] [214, 143, 144, 2, 145] (by decide +kernel) (by decide +kernel)
theorem gv_RX2_248 : GoodIn GW (wsV RX2 248 RX2 yX2_nextLoser (.code yX2_nextLoser cX2_nextLoser 1 (some .int) :: GW)) := gw_app [Cond.methodLink RX2 248 yX2_nextLoser, Cond.instanceMethod yX2_nextLoser, Cond.selects RX2 yX2_nextLoser yX2_nextLoser, Cond.initialized RX2, Cond.code yX2_nextLoser cX2_nextLoser 1 (some .int)] [215, 164, 165, 2, 166] (by decide +kernel) (by decide +kernel)
theorem gv_RX2_251 : GoodIn GW (wsV RX2 251 RX2 yX2_withRecording (.code yX2_withRecording cX2_withRecording 8 (some .long) :: GW)) := gw_app [Cond.methodLink RX2 251 yX2_withRecording, Cond.instanceMethod yX2_withRecording, Cond.selects RX2 yX2_withRecording yX2_withRecording, Cond.initialized RX2, Cond.code yX2_withRecording cX2_withRecording 8 (some .long)] [216, 217, 218, 2, 219] (by decide +kernel) (by decide +kernel)
end
section
def f_X2_mixed (p0 : Int64) (p1 : Int64) : Option Int64 :=
  some (((31 : Int64) * p0) + p1)
abbrev rm_X2_mixed : Room := { frames := 0, cells := 0, slots := 0, locals := 0 }
theorem np_X2_mixed : yX2_mixed.cls ≠ "java/lang/invoke/MethodHandle" ∧ yX2_mixed.cls ≠ "java/lang/invoke/VarHandle" ∧ (parseMethodDescriptor yX2_mixed.desc).map (fun d => d.parameters.length) = some 2 := by decide +kernel
set_option maxHeartbeats 4000000 in
set_option maxRecDepth 100000 in
theorem k_X2_mixed (l : Launch) (D : va_G) (cs : CS)  (p0 : Int64) (p1 : Int64) {r9 : Int64} (h : f_X2_mixed p0 p1 = some r9) : ML l D cs yX2_mixed cX2_mixed 4 rm_X2_mixed [.long p0, .long p1] ([]) r9 ([]) := by
  refine ML_of (by decide) (Nat.le_of_ble_eq_true rfl) ?_
  rintro Γ rfl rfl rfl B ret
  show X Γ 4 0 0 0 [(0, .long p0), (2, .long p1)] [] ([])
  unfold f_X2_mixed at h
  refine x_ldc2 B (pc' := 3) 31 wk_RX2_258 dX2_mixed_0 rfl ?_
  refine x_lload_n B (pc' := 4) 0 dX2_mixed_3 rfl rfl rfl ?_
  refine x_lmul B (pc' := 5) dX2_mixed_4 rfl ?_
  refine x_lload_n B (pc' := 6) 1 dX2_mixed_5 rfl rfl rfl ?_
  refine x_ladd B (pc' := 7) dX2_mixed_6 rfl ?_
  have h1 := (Option.some.inj h)
  subst h1
  exact ret (by exact Nat.le_of_ble_eq_true rfl) (by exact Nat.le_of_ble_eq_true rfl) dX2_mixed_7
end
section
def f_X1_isRecording (p0 : Int32) (S : OB) : Option Int32 :=
  if p0 < 0 then (some (0 : Int32)) else (if (S.1 7) ≤ p0 then (some (0 : Int32)) else (some (1 : Int32)))
abbrev rm_X1_isRecording : Room := { frames := 0, cells := 0, slots := 0, locals := 0 }
theorem np_X1_isRecording : yX1_isRecording.cls ≠ "java/lang/invoke/MethodHandle" ∧ yX1_isRecording.cls ≠ "java/lang/invoke/VarHandle" ∧ (parseMethodDescriptor yX1_isRecording.desc).map (fun d => d.parameters.length) = some 1 := by decide +kernel
set_option maxHeartbeats 4000000 in
set_option maxRecDepth 100000 in
theorem k_X1_isRecording (l : Launch) (D : va_G) (cs : CS) (a : Nat → Nat) (p0 : Int32) (S : OB) {r9 : Int32} (h : f_X1_isRecording p0 S = some r9) : MI l D cs yX1_isRecording cX1_isRecording 2 .boolean rm_X1_isRecording [.ref (a 0), .int p0] (wS cs.1 a S) r9 (wS cs.1 a S) := by
  refine MI_of (by decide) (Nat.le_of_ble_eq_true rfl) ?_
  rintro Γ rfl rfl rfl B ret
  show X Γ 2 0 0 0 [(0, .ref (a 0)), (1, .int p0)] [] (wS Γ.cs.1 a S)
  unfold f_X1_isRecording at h
  refine x_iload_n B (pc' := 1) 1 dX1_isRecording_0 rfl rfl rfl ?_
  refine x_if_lt B 16 4 dX1_isRecording_1 (by decide) rfl (fun hc1 => ?_) (fun hc1 => ?_)
  · replace h := ite_t hc1 h
    refine x_iconst B (pc' := 17) 0 dX1_isRecording_16 (by decide) rfl ?_
    have h1 := (Option.some.inj h)
    subst h1
    exact ret rfl (by exact Nat.le_of_ble_eq_true rfl) (by exact Nat.le_of_ble_eq_true rfl) dX1_isRecording_17
  · replace h := ite_f hc1 h
    refine x_iload_n B (pc' := 5) 1 dX1_isRecording_4 rfl rfl rfl ?_
    refine x_aload_n B (pc' := 6) 0 dX1_isRecording_5 rfl rfl rfl ?_
    refine s_get7 B (pc' := 9) wf_RX1_34 dX1_isRecording_6 rfl ?_
    refine x_icmp_ge B 16 12 dX1_isRecording_9 (by decide) rfl (fun hc2 => ?_) (fun hc2 => ?_)
    · replace h := ite_t hc2 h
      refine x_iconst B (pc' := 17) 0 dX1_isRecording_16 (by decide) rfl ?_
      have h1 := (Option.some.inj h)
      subst h1
      exact ret rfl (by exact Nat.le_of_ble_eq_true rfl) (by exact Nat.le_of_ble_eq_true rfl) dX1_isRecording_17
    · replace h := ite_f hc2 h
      refine x_iconst B (pc' := 13) 1 dX1_isRecording_12 (by decide) rfl ?_
      refine x_goto B (pc' := 17) dX1_isRecording_13 (by decide) ?_
      have h1 := (Option.some.inj h)
      subst h1
      exact ret rfl (by exact Nat.le_of_ble_eq_true rfl) (by exact Nat.le_of_ble_eq_true rfl) dX1_isRecording_17
def f_X1_runningNumber (S : OB) : Option Int32 :=
  if (S.1 8) = 0 then (some ((-1) : Int32)) else (some ((S.1 7) - (1 : Int32)))
abbrev rm_X1_runningNumber : Room := { frames := 0, cells := 0, slots := 0, locals := 0 }
theorem np_X1_runningNumber : yX1_runningNumber.cls ≠ "java/lang/invoke/MethodHandle" ∧ yX1_runningNumber.cls ≠ "java/lang/invoke/VarHandle" ∧ (parseMethodDescriptor yX1_runningNumber.desc).map (fun d => d.parameters.length) = some 0 := by decide +kernel
set_option maxHeartbeats 4000000 in
set_option maxRecDepth 100000 in
theorem k_X1_runningNumber (l : Launch) (D : va_G) (cs : CS) (a : Nat → Nat) (S : OB) {r9 : Int32} (h : f_X1_runningNumber S = some r9) : MI l D cs yX1_runningNumber cX1_runningNumber 1 .int rm_X1_runningNumber [.ref (a 0)] (wS cs.1 a S) r9 (wS cs.1 a S) := by
  refine MI_of (by decide) (Nat.le_of_ble_eq_true rfl) ?_
  rintro Γ rfl rfl rfl B ret
  show X Γ 1 0 0 0 [(0, .ref (a 0))] [] (wS Γ.cs.1 a S)
  unfold f_X1_runningNumber at h
  refine x_aload_n B (pc' := 1) 0 dX1_runningNumber_0 rfl rfl rfl ?_
  refine s_get8 B (pc' := 4) wf_RX1_37 dX1_runningNumber_1 rfl ?_
  refine x_if_eq B 16 7 dX1_runningNumber_4 (by decide) rfl (fun hc1 => ?_) (fun hc1 => ?_)
  · replace h := ite_t hc1 h
    refine x_iconst B (pc' := 17) (-1) dX1_runningNumber_16 (by decide) rfl ?_
    have h1 := (Option.some.inj h)
    subst h1
    exact ret rfl (by exact Nat.le_of_ble_eq_true rfl) (by exact Nat.le_of_ble_eq_true rfl) dX1_runningNumber_17
  · replace h := ite_f hc1 h
    refine x_aload_n B (pc' := 8) 0 dX1_runningNumber_7 rfl rfl rfl ?_
    refine s_get7 B (pc' := 11) wf_RX1_34 dX1_runningNumber_8 rfl ?_
    refine x_iconst B (pc' := 12) 1 dX1_runningNumber_11 (by decide) rfl ?_
    refine x_isub B (pc' := 13) dX1_runningNumber_12 rfl ?_
    refine x_goto B (pc' := 17) dX1_runningNumber_13 (by decide) ?_
    have h1 := (Option.some.inj h)
    subst h1
    exact ret rfl (by exact Nat.le_of_ble_eq_true rfl) (by exact Nat.le_of_ble_eq_true rfl) dX1_runningNumber_17
def f_X1_isFlagged (p0 : Int32) (S : OB) : Option Int32 :=
  if (vAt 10 (S.2 5) p0) = (1 : Int32) then (some (1 : Int32)) else (some (0 : Int32))
abbrev rm_X1_isFlagged : Room := { frames := 1, cells := 0, slots := 0, locals := 22 }
theorem np_X1_isFlagged : yX1_isFlagged.cls ≠ "java/lang/invoke/MethodHandle" ∧ yX1_isFlagged.cls ≠ "java/lang/invoke/VarHandle" ∧ (parseMethodDescriptor yX1_isFlagged.desc).map (fun d => d.parameters.length) = some 1 := by decide +kernel
set_option maxHeartbeats 4000000 in
set_option maxRecDepth 100000 in
theorem k_X1_isFlagged (l : Launch) (D : va_G) (cs : CS) (a : Nat → Nat) (p0 : Int32) (S : OB) {r9 : Int32} (h : f_X1_isFlagged p0 S = some r9) : MI l D cs yX1_isFlagged cX1_isFlagged 2 .boolean rm_X1_isFlagged [.ref (a 0), .int p0] (wS cs.1 a S) r9 (wS cs.1 a S) := by
  refine MI_of (by decide) (Nat.le_of_ble_eq_true rfl) ?_
  rintro Γ rfl rfl rfl B ret
  show X Γ 2 0 0 0 [(0, .ref (a 0)), (1, .int p0)] [] (wS Γ.cs.1 a S)
  unfold f_X1_isFlagged at h
  refine x_aload_n B (pc' := 1) 0 dX1_isFlagged_0 rfl rfl rfl ?_
  refine s_ref5 B (pc' := 4) wf_RX1_28 dX1_isFlagged_1 rfl ?_
  refine x_iload_n B (pc' := 5) 1 dX1_isFlagged_4 rfl rfl rfl ?_
  refine s_vAt5 B (pc' := 8) ⟨Nat.le_of_ble_eq_true rfl, Nat.le_of_ble_eq_true rfl⟩ ⟨Nat.le_of_ble_eq_true rfl, Nat.le_of_ble_eq_true rfl⟩ (Nat.le_of_ble_eq_true rfl) nw_RX1_62 dX1_isFlagged_5 rfl ?_
  refine x_iconst B (pc' := 9) 1 dX1_isFlagged_8 (by decide) rfl ?_
  refine x_icmp_ne B 16 12 dX1_isFlagged_9 (by decide) rfl (fun hc1 => ?_) (fun hc1 => ?_)
  · replace h := ite_f hc1 h
    refine x_iconst B (pc' := 17) 0 dX1_isFlagged_16 (by decide) rfl ?_
    have h1 := (Option.some.inj h)
    subst h1
    exact ret rfl (by exact Nat.le_of_ble_eq_true rfl) (by exact Nat.le_of_ble_eq_true rfl) dX1_isFlagged_17
  · replace h := ite_t hc1 h
    refine x_iconst B (pc' := 13) 1 dX1_isFlagged_12 (by decide) rfl ?_
    refine x_goto B (pc' := 17) dX1_isFlagged_13 (by decide) ?_
    have h1 := (Option.some.inj h)
    subst h1
    exact ret rfl (by exact Nat.le_of_ble_eq_true rfl) (by exact Nat.le_of_ble_eq_true rfl) dX1_isFlagged_17
def c_X1_putFlag_14 (t0 : Int32) (t1 : Int32) (S : OB) : Option OB :=
  nm (fun (S2 : OB) => some S2) (S.1, up2 S.2 5 (pAt 10 (S.2 5) t1 t0))
def f_X1_putFlag (p0 : Int32) (p1 : Int32) (S : OB) : Option OB :=
  if p1 = 0 then (c_X1_putFlag_14 (0 : Int32) p0 S) else (c_X1_putFlag_14 (1 : Int32) p0 S)
abbrev rm_X1_putFlag : Room := { frames := 1, cells := 0, slots := 0, locals := 22 }
theorem np_X1_putFlag : yX1_putFlag.cls ≠ "java/lang/invoke/MethodHandle" ∧ yX1_putFlag.cls ≠ "java/lang/invoke/VarHandle" ∧ (parseMethodDescriptor yX1_putFlag.desc).map (fun d => d.parameters.length) = some 2 := by decide +kernel
set_option maxHeartbeats 4000000 in
set_option maxRecDepth 100000 in
theorem k_X1_putFlag (l : Launch) (D : va_G) (cs : CS) (a : Nat → Nat) (p0 : Int32) (p1 : Int32) (S : OB) {S9 : OB} (h : f_X1_putFlag p0 p1 S = some S9) : MV l D cs yX1_putFlag cX1_putFlag 3 rm_X1_putFlag [.ref (a 0), .int p0, .int p1] (wS cs.1 a S) (wS cs.1 a S9) := by
  refine MV_of (by decide) (Nat.le_of_ble_eq_true rfl) ?_
  rintro Γ rfl rfl rfl B ret
  show X Γ 3 0 0 0 [(0, .ref (a 0)), (1, .int p0), (2, .int p1)] [] (wS Γ.cs.1 a S)
  have h14 : ∀ (t0 : Int32) (t1 : Int32) (S : OB), c_X1_putFlag_14  t0 t1 S = some S9 → X Γ 3 0 0 14 [] [.int t0, .int t1, .ref (a 5)] (wS Γ.cs.1 a S) := by
    intro  t0 t1 S h
    unfold c_X1_putFlag_14 at h
    obtain ⟨S2, eS2, h⟩ := nm_elim h
    refine s_pAt5 B (pc' := 17) ⟨Nat.le_of_ble_eq_true rfl, Nat.le_of_ble_eq_true rfl⟩ ⟨Nat.le_of_ble_eq_true rfl, Nat.le_of_ble_eq_true rfl⟩ (Nat.le_of_ble_eq_true rfl) nw_RX1_66 dX1_putFlag_14 rfl ?_
    refine s_wd eS2 ?_
    cases h
    exact ret (by exact Nat.le_of_ble_eq_true rfl) (by exact Nat.le_of_ble_eq_true rfl) dX1_putFlag_17
  unfold f_X1_putFlag at h
  refine x_aload_n B (pc' := 1) 0 dX1_putFlag_0 rfl rfl rfl ?_
  refine s_ref5 B (pc' := 4) wf_RX1_28 dX1_putFlag_1 rfl ?_
  refine x_iload_n B (pc' := 5) 1 dX1_putFlag_4 rfl rfl rfl ?_
  refine x_iload_n B (pc' := 6) 2 dX1_putFlag_5 rfl rfl rfl ?_
  refine x_if_eq B 13 9 dX1_putFlag_6 (by decide) rfl (fun hc1 => ?_) (fun hc1 => ?_)
  · replace h := ite_t hc1 h
    refine x_iconst B (pc' := 14) 0 dX1_putFlag_13 (by decide) rfl ?_
    refine x_lv [] (lv' := []) rfl ?_
    exact h14  _ _ _ h
  · replace h := ite_f hc1 h
    refine x_iconst B (pc' := 10) 1 dX1_putFlag_9 (by decide) rfl ?_
    refine x_goto B (pc' := 14) dX1_putFlag_10 (by decide) ?_
    refine x_lv [] (lv' := []) rfl ?_
    exact h14  _ _ _ h
def b_X1_cellCount_4 (S : OB) (K4 : Int32 → Int32 → Int32 → Option Int32) (x1 : Int32) (x2 : Int32) (x3 : Int32) : Option Int32 :=
  if (32 : Int32) ≤ x3 then (some x2) else (if (vAt 32 (S.2 0) x3) = x1 then (nm (fun (v4 : Int32) => nm (fun (v5 : Int32) => K4 x1 v4 v5) (x3 + 1)) (x2 + 1)) else (nm (fun (v3 : Int32) => K4 x1 x2 v3) (x3 + 1)))
def f_X1_cellCount (p0 : Int32) (S : OB) : Option Int32 :=
  lpf3 (b_X1_cellCount_4 S) FU p0 (0 : Int32) (0 : Int32)
abbrev rm_X1_cellCount : Room := { frames := 1, cells := 0, slots := 0, locals := 22 }
theorem np_X1_cellCount : yX1_cellCount.cls ≠ "java/lang/invoke/MethodHandle" ∧ yX1_cellCount.cls ≠ "java/lang/invoke/VarHandle" ∧ (parseMethodDescriptor yX1_cellCount.desc).map (fun d => d.parameters.length) = some 1 := by decide +kernel
set_option maxHeartbeats 4000000 in
set_option maxRecDepth 100000 in
theorem k_X1_cellCount (l : Launch) (D : va_G) (cs : CS) (a : Nat → Nat) (p0 : Int32) (S : OB) {r9 : Int32} (h : f_X1_cellCount p0 S = some r9) : MI l D cs yX1_cellCount cX1_cellCount 4 .int rm_X1_cellCount [.ref (a 0), .int p0] (wS cs.1 a S) r9 (wS cs.1 a S) := by
  refine MI_of (by decide) (Nat.le_of_ble_eq_true rfl) ?_
  rintro Γ rfl rfl rfl B ret
  show X Γ 4 0 0 0 [(0, .ref (a 0)), (1, .int p0)] [] (wS Γ.cs.1 a S)
  have h4 : ∀ (n9 : Nat) (x1 : Int32) (x2 : Int32) (x3 : Int32), lpf3 (b_X1_cellCount_4 S) n9 x1 x2 x3 = some r9 → X Γ 4 0 0 4 [(0, .ref (a 0)), (1, .int x1), (2, .int x2), (3, .int x3)] [] (wS Γ.cs.1 a S) := by
    refine lpf3_ind (fun K4 hK4 x1 x2 x3 h => ?_)
    unfold b_X1_cellCount_4 at h
    refine x_iload_n B (pc' := 5) 3 dX1_cellCount_4 rfl rfl rfl ?_
    refine x_bipush B (pc' := 7) 32 dX1_cellCount_5 (by decide) rfl ?_
    refine x_icmp_ge B 31 10 dX1_cellCount_7 (by decide) rfl (fun hc1 => ?_) (fun hc1 => ?_)
    · replace h := ite_t hc1 h
      refine x_iload_n B (pc' := 32) 2 dX1_cellCount_31 rfl rfl rfl ?_
      have h1 := (Option.some.inj h)
      subst h1
      exact ret rfl (by exact Nat.le_of_ble_eq_true rfl) (by exact Nat.le_of_ble_eq_true rfl) dX1_cellCount_32
    · replace h := ite_f hc1 h
      refine x_aload_n B (pc' := 11) 0 dX1_cellCount_10 rfl rfl rfl ?_
      refine s_ref0 B (pc' := 14) wf_RX1_9 dX1_cellCount_11 rfl ?_
      refine x_iload_n B (pc' := 15) 3 dX1_cellCount_14 rfl rfl rfl ?_
      refine s_vAt0 B (pc' := 18) ⟨Nat.le_of_ble_eq_true rfl, Nat.le_of_ble_eq_true rfl⟩ ⟨Nat.le_of_ble_eq_true rfl, Nat.le_of_ble_eq_true rfl⟩ (Nat.le_of_ble_eq_true rfl) nw_RX1_62 dX1_cellCount_15 rfl ?_
      refine x_iload_n B (pc' := 19) 1 dX1_cellCount_18 rfl rfl rfl ?_
      refine x_icmp_ne B 25 22 dX1_cellCount_19 (by decide) rfl (fun hc2 => ?_) (fun hc2 => ?_)
      · replace h := ite_f hc2 h
        obtain ⟨v3, ev3, h⟩ := nm_elim h
        refine x_iinc B (pc' := 28) v3 3 [1, 2, 3, 0] [(0, .ref (a 0)), (1, .int x1), (2, .int x2), (3, .int v3)] dX1_cellCount_25 rfl (by rw [ev3]; rfl) (by decide) rfl rfl ?_
        refine x_goto B (pc' := 4) dX1_cellCount_28 (by decide) ?_
        exact hK4 _ _ _ h
      · replace h := ite_t hc2 h
        obtain ⟨v4, ev4, h⟩ := nm_elim h
        refine x_iinc B (pc' := 25) v4 2 [1, 2, 0, 3] [(0, .ref (a 0)), (1, .int x1), (2, .int v4), (3, .int x3)] dX1_cellCount_22 rfl (by rw [ev4]; rfl) (by decide) rfl rfl ?_
        obtain ⟨v5, ev5, h⟩ := nm_elim h
        refine x_iinc B (pc' := 28) v5 3 [1, 2, 3, 0] [(0, .ref (a 0)), (1, .int x1), (2, .int v4), (3, .int v5)] dX1_cellCount_25 rfl (by rw [ev5]; rfl) (by decide) rfl rfl ?_
        refine x_goto B (pc' := 4) dX1_cellCount_28 (by decide) ?_
        exact hK4 _ _ _ h
  unfold f_X1_cellCount at h
  refine x_iconst B (pc' := 1) 0 dX1_cellCount_0 (by decide) rfl ?_
  refine x_istore_n B (pc' := 2) [1, 2, 0] [(0, .ref (a 0)), (1, .int p0), (2, .int (0 : Int32))] dX1_cellCount_1 rfl (by decide) rfl rfl ?_
  refine x_iconst B (pc' := 3) 0 dX1_cellCount_2 (by decide) rfl ?_
  refine x_istore_n B (pc' := 4) [1, 2, 3, 0] [(0, .ref (a 0)), (1, .int p0), (2, .int (0 : Int32)), (3, .int (0 : Int32))] dX1_cellCount_3 rfl (by decide) rfl rfl ?_
  exact h4  _ _ _ _ h
def b_X1_cellAt_5 (S : OB) (K5 : Int32 → Int32 → Int32 → Int32 → Option Int32) (x1 : Int32) (x2 : Int32) (x3 : Int32) (x4 : Int32) : Option Int32 :=
  if (S.1 4) ≤ x4 then (some ((-1) : Int32)) else (nm (fun (v2 : Int32) => if (vAt 32 (S.2 0) v2) = x1 then (if x3 = x2 then (some v2) else (nm (fun (v6 : Int32) => nm (fun (v7 : Int32) => K5 x1 x2 v6 v7) (x4 + 1)) (x3 + 1))) else (nm (fun (v4 : Int32) => K5 x1 x2 x3 v4) (x4 + 1))) (vAt 32 (S.2 3) x4))
def f_X1_cellAt (p0 : Int32) (p1 : Int32) (S : OB) : Option Int32 :=
  lpf4 (b_X1_cellAt_5 S) FU p0 p1 (0 : Int32) (0 : Int32)
abbrev rm_X1_cellAt : Room := { frames := 1, cells := 0, slots := 0, locals := 22 }
theorem np_X1_cellAt : yX1_cellAt.cls ≠ "java/lang/invoke/MethodHandle" ∧ yX1_cellAt.cls ≠ "java/lang/invoke/VarHandle" ∧ (parseMethodDescriptor yX1_cellAt.desc).map (fun d => d.parameters.length) = some 2 := by decide +kernel
set_option maxHeartbeats 4000000 in
set_option maxRecDepth 100000 in
theorem k_X1_cellAt (l : Launch) (D : va_G) (cs : CS) (a : Nat → Nat) (p0 : Int32) (p1 : Int32) (S : OB) {r9 : Int32} (h : f_X1_cellAt p0 p1 S = some r9) : MI l D cs yX1_cellAt cX1_cellAt 6 .int rm_X1_cellAt [.ref (a 0), .int p0, .int p1] (wS cs.1 a S) r9 (wS cs.1 a S) := by
  refine MI_of (by decide) (Nat.le_of_ble_eq_true rfl) ?_
  rintro Γ rfl rfl rfl B ret
  show X Γ 6 0 0 0 [(0, .ref (a 0)), (1, .int p0), (2, .int p1)] [] (wS Γ.cs.1 a S)
  have h5 : ∀ (n9 : Nat) (x1 : Int32) (x2 : Int32) (x3 : Int32) (x4 : Int32), lpf4 (b_X1_cellAt_5 S) n9 x1 x2 x3 x4 = some r9 → X Γ 6 0 0 5 [(0, .ref (a 0)), (1, .int x1), (2, .int x2), (3, .int x3), (4, .int x4)] [] (wS Γ.cs.1 a S) := by
    refine lpf4_ind (fun K5 hK5 x1 x2 x3 x4 h => ?_)
    unfold b_X1_cellAt_5 at h
    refine x_iload B (pc' := 7) 4 dX1_cellAt_5 rfl rfl ?_
    refine x_aload_n B (pc' := 8) 0 dX1_cellAt_7 rfl rfl rfl ?_
    refine s_get4 B (pc' := 11) wf_RX1_24 dX1_cellAt_8 rfl ?_
    refine x_icmp_ge B 55 14 dX1_cellAt_11 (by decide) rfl (fun hc1 => ?_) (fun hc1 => ?_)
    · replace h := ite_t hc1 h
      refine x_iconst B (pc' := 56) (-1) dX1_cellAt_55 (by decide) rfl ?_
      have h1 := (Option.some.inj h)
      subst h1
      exact ret rfl (by exact Nat.le_of_ble_eq_true rfl) (by exact Nat.le_of_ble_eq_true rfl) dX1_cellAt_56
    · replace h := ite_f hc1 h
      refine x_aload_n B (pc' := 15) 0 dX1_cellAt_14 rfl rfl rfl ?_
      refine s_ref3 B (pc' := 18) wf_RX1_21 dX1_cellAt_15 rfl ?_
      refine x_iload B (pc' := 20) 4 dX1_cellAt_18 rfl rfl ?_
      refine s_vAt3 B (pc' := 23) ⟨Nat.le_of_ble_eq_true rfl, Nat.le_of_ble_eq_true rfl⟩ ⟨Nat.le_of_ble_eq_true rfl, Nat.le_of_ble_eq_true rfl⟩ (Nat.le_of_ble_eq_true rfl) nw_RX1_62 dX1_cellAt_20 rfl ?_
      obtain ⟨v2, ev2, h⟩ := nm_elim h
      refine x_topi ev2 ?_
      refine x_istore B (pc' := 25) [1, 2, 3, 4, 5, 0] [(0, .ref (a 0)), (1, .int x1), (2, .int x2), (3, .int x3), (4, .int x4), (5, .int v2)] dX1_cellAt_23 (by decide) rfl rfl ?_
      refine x_aload_n B (pc' := 26) 0 dX1_cellAt_25 rfl rfl rfl ?_
      refine s_ref0 B (pc' := 29) wf_RX1_9 dX1_cellAt_26 rfl ?_
      refine x_iload B (pc' := 31) 5 dX1_cellAt_29 rfl rfl ?_
      refine s_vAt0 B (pc' := 34) ⟨Nat.le_of_ble_eq_true rfl, Nat.le_of_ble_eq_true rfl⟩ ⟨Nat.le_of_ble_eq_true rfl, Nat.le_of_ble_eq_true rfl⟩ (Nat.le_of_ble_eq_true rfl) nw_RX1_62 dX1_cellAt_31 rfl ?_
      refine x_iload_n B (pc' := 35) 1 dX1_cellAt_34 rfl rfl rfl ?_
      refine x_icmp_ne B 49 38 dX1_cellAt_35 (by decide) rfl (fun hc3 => ?_) (fun hc3 => ?_)
      · replace h := ite_f hc3 h
        obtain ⟨v4, ev4, h⟩ := nm_elim h
        refine x_iinc B (pc' := 52) v4 4 [1, 2, 3, 4, 0, 5] [(0, .ref (a 0)), (1, .int x1), (2, .int x2), (3, .int x3), (4, .int v4), (5, .int v2)] dX1_cellAt_49 rfl (by rw [ev4]; rfl) (by decide) rfl rfl ?_
        refine x_goto B (pc' := 5) dX1_cellAt_52 (by decide) ?_
        refine x_lv [0, 1, 2, 3, 4] (lv' := [(0, .ref (a 0)), (1, .int x1), (2, .int x2), (3, .int x3), (4, .int v4)]) rfl ?_
        exact hK5 _ _ _ _ h
      · replace h := ite_t hc3 h
        refine x_iload_n B (pc' := 39) 3 dX1_cellAt_38 rfl rfl rfl ?_
        refine x_iload_n B (pc' := 40) 2 dX1_cellAt_39 rfl rfl rfl ?_
        refine x_icmp_ne B 46 43 dX1_cellAt_40 (by decide) rfl (fun hc5 => ?_) (fun hc5 => ?_)
        · replace h := ite_f hc5 h
          obtain ⟨v6, ev6, h⟩ := nm_elim h
          refine x_iinc B (pc' := 49) v6 3 [1, 2, 3, 0, 4, 5] [(0, .ref (a 0)), (1, .int x1), (2, .int x2), (3, .int v6), (4, .int x4), (5, .int v2)] dX1_cellAt_46 rfl (by rw [ev6]; rfl) (by decide) rfl rfl ?_
          obtain ⟨v7, ev7, h⟩ := nm_elim h
          refine x_iinc B (pc' := 52) v7 4 [1, 2, 3, 4, 0, 5] [(0, .ref (a 0)), (1, .int x1), (2, .int x2), (3, .int v6), (4, .int v7), (5, .int v2)] dX1_cellAt_49 rfl (by rw [ev7]; rfl) (by decide) rfl rfl ?_
          refine x_goto B (pc' := 5) dX1_cellAt_52 (by decide) ?_
          refine x_lv [0, 1, 2, 3, 4] (lv' := [(0, .ref (a 0)), (1, .int x1), (2, .int x2), (3, .int v6), (4, .int v7)]) rfl ?_
          exact hK5 _ _ _ _ h
        · replace h := ite_t hc5 h
          refine x_iload B (pc' := 45) 5 dX1_cellAt_43 rfl rfl ?_
          have h1 := (Option.some.inj h)
          subst h1
          exact ret rfl (by exact Nat.le_of_ble_eq_true rfl) (by exact Nat.le_of_ble_eq_true rfl) dX1_cellAt_45
  unfold f_X1_cellAt at h
  refine x_iconst B (pc' := 1) 0 dX1_cellAt_0 (by decide) rfl ?_
  refine x_istore_n B (pc' := 2) [1, 2, 3, 0] [(0, .ref (a 0)), (1, .int p0), (2, .int p1), (3, .int (0 : Int32))] dX1_cellAt_1 rfl (by decide) rfl rfl ?_
  refine x_iconst B (pc' := 3) 0 dX1_cellAt_2 (by decide) rfl ?_
  refine x_istore B (pc' := 5) [1, 2, 3, 4, 0] [(0, .ref (a 0)), (1, .int p0), (2, .int p1), (3, .int (0 : Int32)), (4, .int (0 : Int32))] dX1_cellAt_3 (by decide) rfl rfl ?_
  exact h5  _ _ _ _ _ h
def f_X1_mayBegin (S : OB) : Option Int32 :=
  if (S.1 7) < (10 : Int32) then (some (1 : Int32)) else (if (S.1 8) = 0 then (some (0 : Int32)) else (bd (f_X1_runningNumber S) (fun (r3 : Int32) => bd (f_X1_cellCount r3 S) (fun (r4 : Int32) => if r4 = 0 then (some (1 : Int32)) else (some (0 : Int32))))))
abbrev rm_X1_mayBegin : Room := { frames := 2, cells := 0, slots := 0, locals := 45 }
theorem np_X1_mayBegin : yX1_mayBegin.cls ≠ "java/lang/invoke/MethodHandle" ∧ yX1_mayBegin.cls ≠ "java/lang/invoke/VarHandle" ∧ (parseMethodDescriptor yX1_mayBegin.desc).map (fun d => d.parameters.length) = some 0 := by decide +kernel
set_option maxHeartbeats 4000000 in
set_option maxRecDepth 100000 in
theorem k_X1_mayBegin (l : Launch) (D : va_G) (cs : CS) (a : Nat → Nat) (S : OB) {r9 : Int32} (h : f_X1_mayBegin S = some r9) : MI l D cs yX1_mayBegin cX1_mayBegin 1 .boolean rm_X1_mayBegin [.ref (a 0)] (wS cs.1 a S) r9 (wS cs.1 a S) := by
  refine MI_of (by decide) (Nat.le_of_ble_eq_true rfl) ?_
  rintro Γ rfl rfl rfl B ret
  show X Γ 1 0 0 0 [(0, .ref (a 0))] [] (wS Γ.cs.1 a S)
  unfold f_X1_mayBegin at h
  refine x_aload_n B (pc' := 1) 0 dX1_mayBegin_0 rfl rfl rfl ?_
  refine s_get7 B (pc' := 4) wf_RX1_34 dX1_mayBegin_1 rfl ?_
  refine x_bipush B (pc' := 6) 10 dX1_mayBegin_4 (by decide) rfl ?_
  refine x_icmp_lt B 27 9 dX1_mayBegin_6 (by decide) rfl (fun hc1 => ?_) (fun hc1 => ?_)
  · replace h := ite_t hc1 h
    refine x_iconst B (pc' := 28) 1 dX1_mayBegin_27 (by decide) rfl ?_
    refine x_goto B (pc' := 32) dX1_mayBegin_28 (by decide) ?_
    have h1 := (Option.some.inj h)
    subst h1
    exact ret rfl (by exact Nat.le_of_ble_eq_true rfl) (by exact Nat.le_of_ble_eq_true rfl) dX1_mayBegin_32
  · replace h := ite_f hc1 h
    refine x_aload_n B (pc' := 10) 0 dX1_mayBegin_9 rfl rfl rfl ?_
    refine s_get8 B (pc' := 13) wf_RX1_37 dX1_mayBegin_10 rfl ?_
    refine x_if_eq B 31 16 dX1_mayBegin_13 (by decide) rfl (fun hc2 => ?_) (fun hc2 => ?_)
    · replace h := ite_t hc2 h
      refine x_iconst B (pc' := 32) 0 dX1_mayBegin_31 (by decide) rfl ?_
      have h1 := (Option.some.inj h)
      subst h1
      exact ret rfl (by exact Nat.le_of_ble_eq_true rfl) (by exact Nat.le_of_ble_eq_true rfl) dX1_mayBegin_32
    · replace h := ite_f hc2 h
      refine x_aload_n B (pc' := 17) 0 dX1_mayBegin_16 rfl rfl rfl ?_
      refine x_aload_n B (pc' := 18) 0 dX1_mayBegin_17 rfl rfl rfl ?_
      obtain ⟨r3, er3, h⟩ := bd_elim h
      refine x_selfVi B (pc' := 21) [] (k_X1_runningNumber _ _ _ a S er3) rfl rfl gv_RX1_70 rfl np_X1_runningNumber ⟨Nat.le_of_ble_eq_true rfl, Nat.le_of_ble_eq_true rfl⟩ ⟨by exact Nat.le_of_ble_eq_true rfl, by exact Nat.le_of_ble_eq_true rfl⟩ rfl (Nat.le_of_ble_eq_true rfl) dX1_mayBegin_18 rfl ?_
      obtain ⟨r4, er4, h⟩ := bd_elim h
      refine x_selfVi B (pc' := 24) [.int r3] (k_X1_cellCount _ _ _ a r3 S er4) rfl rfl gv_RX1_74 rfl np_X1_cellCount ⟨Nat.le_of_ble_eq_true rfl, Nat.le_of_ble_eq_true rfl⟩ ⟨by exact Nat.le_of_ble_eq_true rfl, by exact Nat.le_of_ble_eq_true rfl⟩ rfl (Nat.le_of_ble_eq_true rfl) dX1_mayBegin_21 rfl ?_
      refine x_if_ne B 31 27 dX1_mayBegin_24 (by decide) rfl (fun hc5 => ?_) (fun hc5 => ?_)
      · replace h := ite_f hc5 h
        refine x_iconst B (pc' := 32) 0 dX1_mayBegin_31 (by decide) rfl ?_
        have h1 := (Option.some.inj h)
        subst h1
        exact ret rfl (by exact Nat.le_of_ble_eq_true rfl) (by exact Nat.le_of_ble_eq_true rfl) dX1_mayBegin_32
      · replace h := ite_t hc5 h
        refine x_iconst B (pc' := 28) 1 dX1_mayBegin_27 (by decide) rfl ?_
        refine x_goto B (pc' := 32) dX1_mayBegin_28 (by decide) ?_
        have h1 := (Option.some.inj h)
        subst h1
        exact ret rfl (by exact Nat.le_of_ble_eq_true rfl) (by exact Nat.le_of_ble_eq_true rfl) dX1_mayBegin_32
def b_X1_removeRecording_79 (K79 : Int32 → Int32 → OB → Option OB) (x1 : Int32) (x2 : Int32) (S : OB) : Option OB :=
  if (32 : Int32) ≤ x2 then (if (S.1 12) = x1 then (nm (fun (S13 : OB) => nm (fun (S14 : OB) => some S14) (upd S13.1 13 ((-1) : Int32), S13.2)) (upd S.1 12 ((-1) : Int32), S.2)) else (if (S.1 12) ≤ x1 then (some S) else (nm (fun (S12 : OB) => some S12) (upd S.1 12 ((S.1 12) - (1 : Int32)), S.2)))) else (nm (fun (v15 : Int32) => if v15 ≤ x1 then (nm (fun (v17 : Int32) => K79 x1 v17 S) (x2 + 1)) else (nm (fun (S18 : OB) => nm (fun (v19 : Int32) => K79 x1 v19 S18) (x2 + 1)) (S.1, up2 S.2 0 (pAt 32 (S.2 0) x2 (v15 - (1 : Int32)))))) (vAt 32 (S.2 0) x2))
def b_X1_removeRecording_15 (K15 : Int32 → Int32 → OB → Option OB) (x1 : Int32) (x2 : Int32) (S : OB) : Option OB :=
  if (S.1 7) ≤ (x2 + (1 : Int32)) then (nm (fun (S5 : OB) => lpf3 (b_X1_removeRecording_79) FU x1 (0 : Int32) S5) (upd S.1 7 ((S.1 7) - (1 : Int32)), S.2)) else (nm (fun (S6 : OB) => nm (fun (S7 : OB) => nm (fun (v8 : Int32) => K15 x1 v8 S7) (x2 + 1)) (S6.1, up2 S6.2 6 (pAt 10 (S6.2 6) x2 (vAt 10 (S6.2 6) (x2 + (1 : Int32)))))) (S.1, up2 S.2 5 (pAt 10 (S.2 5) x2 (vAt 10 (S.2 5) (x2 + (1 : Int32))))))
def f_X1_removeRecording (p0 : Int32) (S : OB) : Option OB :=
  bd (f_X1_runningNumber S) (fun (r1 : Int32) => if p0 = r1 then (nm (fun (S3 : OB) => lpf3 (b_X1_removeRecording_15) FU p0 p0 S3) (upd S.1 8 (0 : Int32), S.2)) else (lpf3 (b_X1_removeRecording_15) FU p0 p0 S))
abbrev rm_X1_removeRecording : Room := { frames := 1, cells := 0, slots := 0, locals := 22 }
theorem np_X1_removeRecording : yX1_removeRecording.cls ≠ "java/lang/invoke/MethodHandle" ∧ yX1_removeRecording.cls ≠ "java/lang/invoke/VarHandle" ∧ (parseMethodDescriptor yX1_removeRecording.desc).map (fun d => d.parameters.length) = some 1 := by decide +kernel
set_option maxHeartbeats 4000000 in
set_option maxRecDepth 100000 in
theorem k_X1_removeRecording (l : Launch) (D : va_G) (cs : CS) (a : Nat → Nat) (p0 : Int32) (S : OB) {S9 : OB} (h : f_X1_removeRecording p0 S = some S9) : MV l D cs yX1_removeRecording cX1_removeRecording 4 rm_X1_removeRecording [.ref (a 0), .int p0] (wS cs.1 a S) (wS cs.1 a S9) := by
  refine MV_of (by decide) (Nat.le_of_ble_eq_true rfl) ?_
  rintro Γ rfl rfl rfl B ret
  show X Γ 4 0 0 0 [(0, .ref (a 0)), (1, .int p0)] [] (wS Γ.cs.1 a S)
  have h79 : ∀ (n9 : Nat) (x1 : Int32) (x2 : Int32) (S : OB), lpf3 (b_X1_removeRecording_79) n9 x1 x2 S = some S9 → X Γ 4 0 0 79 [(0, .ref (a 0)), (1, .int x1), (2, .int x2)] [] (wS Γ.cs.1 a S) := by
    refine lpf3_ind (fun K79 hK79 x1 x2 S h => ?_)
    unfold b_X1_removeRecording_79 at h
    refine x_iload_n B (pc' := 80) 2 dX1_removeRecording_79 rfl rfl rfl ?_
    refine x_bipush B (pc' := 82) 32 dX1_removeRecording_80 (by decide) rfl ?_
    refine x_icmp_ge B 116 85 dX1_removeRecording_82 (by decide) rfl (fun hc9 => ?_) (fun hc9 => ?_)
    · replace h := ite_t hc9 h
      refine x_aload_n B (pc' := 117) 0 dX1_removeRecording_116 rfl rfl rfl ?_
      refine s_get12 B (pc' := 120) wf_RX1_50 dX1_removeRecording_117 rfl ?_
      refine x_iload_n B (pc' := 121) 1 dX1_removeRecording_120 rfl rfl rfl ?_
      refine x_icmp_ne B 137 124 dX1_removeRecording_121 (by decide) rfl (fun hc10 => ?_) (fun hc10 => ?_)
      · replace h := ite_f hc10 h
        refine x_aload_n B (pc' := 138) 0 dX1_removeRecording_137 rfl rfl rfl ?_
        refine s_get12 B (pc' := 141) wf_RX1_50 dX1_removeRecording_138 rfl ?_
        refine x_iload_n B (pc' := 142) 1 dX1_removeRecording_141 rfl rfl rfl ?_
        refine x_icmp_le B 155 145 dX1_removeRecording_142 (by decide) rfl (fun hc11 => ?_) (fun hc11 => ?_)
        · replace h := ite_t hc11 h
          cases h
          exact ret (by exact Nat.le_of_ble_eq_true rfl) (by exact Nat.le_of_ble_eq_true rfl) dX1_removeRecording_155
        · replace h := ite_f hc11 h
          refine x_aload_n B (pc' := 146) 0 dX1_removeRecording_145 rfl rfl rfl ?_
          refine x_dup B (pc' := 147) dX1_removeRecording_146 rfl rfl ?_
          refine s_get12 B (pc' := 150) wf_RX1_50 dX1_removeRecording_147 rfl ?_
          refine x_iconst B (pc' := 151) 1 dX1_removeRecording_150 (by decide) rfl ?_
          refine x_isub B (pc' := 152) dX1_removeRecording_151 rfl ?_
          obtain ⟨S12, eS12, h⟩ := nm_elim h
          refine s_put12 B (pc' := 155) wf_RX1_50 dX1_removeRecording_152 rfl ?_
          refine s_wd eS12 ?_
          cases h
          exact ret (by exact Nat.le_of_ble_eq_true rfl) (by exact Nat.le_of_ble_eq_true rfl) dX1_removeRecording_155
      · replace h := ite_t hc10 h
        refine x_aload_n B (pc' := 125) 0 dX1_removeRecording_124 rfl rfl rfl ?_
        refine x_iconst B (pc' := 126) (-1) dX1_removeRecording_125 (by decide) rfl ?_
        obtain ⟨S13, eS13, h⟩ := nm_elim h
        refine s_put12 B (pc' := 129) wf_RX1_50 dX1_removeRecording_126 rfl ?_
        refine s_wd eS13 ?_
        refine x_aload_n B (pc' := 130) 0 dX1_removeRecording_129 rfl rfl rfl ?_
        refine x_iconst B (pc' := 131) (-1) dX1_removeRecording_130 (by decide) rfl ?_
        obtain ⟨S14, eS14, h⟩ := nm_elim h
        refine s_put13 B (pc' := 134) wf_RX1_53 dX1_removeRecording_131 rfl ?_
        refine s_wd eS14 ?_
        refine x_goto B (pc' := 155) dX1_removeRecording_134 (by decide) ?_
        cases h
        exact ret (by exact Nat.le_of_ble_eq_true rfl) (by exact Nat.le_of_ble_eq_true rfl) dX1_removeRecording_155
    · replace h := ite_f hc9 h
      refine x_aload_n B (pc' := 86) 0 dX1_removeRecording_85 rfl rfl rfl ?_
      refine s_ref0 B (pc' := 89) wf_RX1_9 dX1_removeRecording_86 rfl ?_
      refine x_iload_n B (pc' := 90) 2 dX1_removeRecording_89 rfl rfl rfl ?_
      refine s_vAt0 B (pc' := 93) ⟨Nat.le_of_ble_eq_true rfl, Nat.le_of_ble_eq_true rfl⟩ ⟨Nat.le_of_ble_eq_true rfl, Nat.le_of_ble_eq_true rfl⟩ (Nat.le_of_ble_eq_true rfl) nw_RX1_62 dX1_removeRecording_90 rfl ?_
      obtain ⟨v15, ev15, h⟩ := nm_elim h
      refine x_topi ev15 ?_
      refine x_istore_n B (pc' := 94) [1, 2, 3, 0] [(0, .ref (a 0)), (1, .int x1), (2, .int x2), (3, .int v15)] dX1_removeRecording_93 rfl (by decide) rfl rfl ?_
      refine x_iload_n B (pc' := 95) 3 dX1_removeRecording_94 rfl rfl rfl ?_
      refine x_iload_n B (pc' := 96) 1 dX1_removeRecording_95 rfl rfl rfl ?_
      refine x_icmp_le B 110 99 dX1_removeRecording_96 (by decide) rfl (fun hc16 => ?_) (fun hc16 => ?_)
      · replace h := ite_t hc16 h
        obtain ⟨v17, ev17, h⟩ := nm_elim h
        refine x_iinc B (pc' := 113) v17 2 [1, 2, 0, 3] [(0, .ref (a 0)), (1, .int x1), (2, .int v17), (3, .int v15)] dX1_removeRecording_110 rfl (by rw [ev17]; rfl) (by decide) rfl rfl ?_
        refine x_goto B (pc' := 79) dX1_removeRecording_113 (by decide) ?_
        refine x_lv [0, 1, 2] (lv' := [(0, .ref (a 0)), (1, .int x1), (2, .int v17)]) rfl ?_
        exact hK79 _ _ _ h
      · replace h := ite_f hc16 h
        refine x_aload_n B (pc' := 100) 0 dX1_removeRecording_99 rfl rfl rfl ?_
        refine s_ref0 B (pc' := 103) wf_RX1_9 dX1_removeRecording_100 rfl ?_
        refine x_iload_n B (pc' := 104) 2 dX1_removeRecording_103 rfl rfl rfl ?_
        refine x_iload_n B (pc' := 105) 3 dX1_removeRecording_104 rfl rfl rfl ?_
        refine x_iconst B (pc' := 106) 1 dX1_removeRecording_105 (by decide) rfl ?_
        refine x_isub B (pc' := 107) dX1_removeRecording_106 rfl ?_
        obtain ⟨S18, eS18, h⟩ := nm_elim h
        refine s_pAt0 B (pc' := 110) ⟨Nat.le_of_ble_eq_true rfl, Nat.le_of_ble_eq_true rfl⟩ ⟨Nat.le_of_ble_eq_true rfl, Nat.le_of_ble_eq_true rfl⟩ (Nat.le_of_ble_eq_true rfl) nw_RX1_66 dX1_removeRecording_107 rfl ?_
        refine s_wd eS18 ?_
        obtain ⟨v19, ev19, h⟩ := nm_elim h
        refine x_iinc B (pc' := 113) v19 2 [1, 2, 0, 3] [(0, .ref (a 0)), (1, .int x1), (2, .int v19), (3, .int v15)] dX1_removeRecording_110 rfl (by rw [ev19]; rfl) (by decide) rfl rfl ?_
        refine x_goto B (pc' := 79) dX1_removeRecording_113 (by decide) ?_
        refine x_lv [0, 1, 2] (lv' := [(0, .ref (a 0)), (1, .int x1), (2, .int v19)]) rfl ?_
        exact hK79 _ _ _ h
  have h15 : ∀ (n9 : Nat) (x1 : Int32) (x2 : Int32) (S : OB), lpf3 (b_X1_removeRecording_15) n9 x1 x2 S = some S9 → X Γ 4 0 0 15 [(0, .ref (a 0)), (1, .int x1), (2, .int x2)] [] (wS Γ.cs.1 a S) := by
    refine lpf3_ind (fun K15 hK15 x1 x2 S h => ?_)
    unfold b_X1_removeRecording_15 at h
    refine x_iload_n B (pc' := 16) 2 dX1_removeRecording_15 rfl rfl rfl ?_
    refine x_iconst B (pc' := 17) 1 dX1_removeRecording_16 (by decide) rfl ?_
    refine x_iadd B (pc' := 18) dX1_removeRecording_17 rfl ?_
    refine x_aload_n B (pc' := 19) 0 dX1_removeRecording_18 rfl rfl rfl ?_
    refine s_get7 B (pc' := 22) wf_RX1_34 dX1_removeRecording_19 rfl ?_
    refine x_icmp_ge B 67 25 dX1_removeRecording_22 (by decide) rfl (fun hc4 => ?_) (fun hc4 => ?_)
    · replace h := ite_t hc4 h
      refine x_aload_n B (pc' := 68) 0 dX1_removeRecording_67 rfl rfl rfl ?_
      refine x_dup B (pc' := 69) dX1_removeRecording_68 rfl rfl ?_
      refine s_get7 B (pc' := 72) wf_RX1_34 dX1_removeRecording_69 rfl ?_
      refine x_iconst B (pc' := 73) 1 dX1_removeRecording_72 (by decide) rfl ?_
      refine x_isub B (pc' := 74) dX1_removeRecording_73 rfl ?_
      obtain ⟨S5, eS5, h⟩ := nm_elim h
      refine s_put7 B (pc' := 77) wf_RX1_34 dX1_removeRecording_74 rfl ?_
      refine s_wd eS5 ?_
      refine x_iconst B (pc' := 78) 0 dX1_removeRecording_77 (by decide) rfl ?_
      refine x_istore_n B (pc' := 79) [1, 2, 0] [(0, .ref (a 0)), (1, .int x1), (2, .int (0 : Int32))] dX1_removeRecording_78 rfl (by decide) rfl rfl ?_
      exact h79  _ _ _ _ h
    · replace h := ite_f hc4 h
      refine x_aload_n B (pc' := 26) 0 dX1_removeRecording_25 rfl rfl rfl ?_
      refine s_ref5 B (pc' := 29) wf_RX1_28 dX1_removeRecording_26 rfl ?_
      refine x_iload_n B (pc' := 30) 2 dX1_removeRecording_29 rfl rfl rfl ?_
      refine x_aload_n B (pc' := 31) 0 dX1_removeRecording_30 rfl rfl rfl ?_
      refine s_ref5 B (pc' := 34) wf_RX1_28 dX1_removeRecording_31 rfl ?_
      refine x_iload_n B (pc' := 35) 2 dX1_removeRecording_34 rfl rfl rfl ?_
      refine x_iconst B (pc' := 36) 1 dX1_removeRecording_35 (by decide) rfl ?_
      refine x_iadd B (pc' := 37) dX1_removeRecording_36 rfl ?_
      refine s_vAt5 B (pc' := 40) ⟨Nat.le_of_ble_eq_true rfl, Nat.le_of_ble_eq_true rfl⟩ ⟨Nat.le_of_ble_eq_true rfl, Nat.le_of_ble_eq_true rfl⟩ (Nat.le_of_ble_eq_true rfl) nw_RX1_62 dX1_removeRecording_37 rfl ?_
      obtain ⟨S6, eS6, h⟩ := nm_elim h
      refine s_pAt5 B (pc' := 43) ⟨Nat.le_of_ble_eq_true rfl, Nat.le_of_ble_eq_true rfl⟩ ⟨Nat.le_of_ble_eq_true rfl, Nat.le_of_ble_eq_true rfl⟩ (Nat.le_of_ble_eq_true rfl) nw_RX1_66 dX1_removeRecording_40 rfl ?_
      refine s_wd eS6 ?_
      refine x_aload_n B (pc' := 44) 0 dX1_removeRecording_43 rfl rfl rfl ?_
      refine s_ref6 B (pc' := 47) wf_RX1_31 dX1_removeRecording_44 rfl ?_
      refine x_iload_n B (pc' := 48) 2 dX1_removeRecording_47 rfl rfl rfl ?_
      refine x_aload_n B (pc' := 49) 0 dX1_removeRecording_48 rfl rfl rfl ?_
      refine s_ref6 B (pc' := 52) wf_RX1_31 dX1_removeRecording_49 rfl ?_
      refine x_iload_n B (pc' := 53) 2 dX1_removeRecording_52 rfl rfl rfl ?_
      refine x_iconst B (pc' := 54) 1 dX1_removeRecording_53 (by decide) rfl ?_
      refine x_iadd B (pc' := 55) dX1_removeRecording_54 rfl ?_
      refine s_vAt6 B (pc' := 58) ⟨Nat.le_of_ble_eq_true rfl, Nat.le_of_ble_eq_true rfl⟩ ⟨Nat.le_of_ble_eq_true rfl, Nat.le_of_ble_eq_true rfl⟩ (Nat.le_of_ble_eq_true rfl) nw_RX1_62 dX1_removeRecording_55 rfl ?_
      obtain ⟨S7, eS7, h⟩ := nm_elim h
      refine s_pAt6 B (pc' := 61) ⟨Nat.le_of_ble_eq_true rfl, Nat.le_of_ble_eq_true rfl⟩ ⟨Nat.le_of_ble_eq_true rfl, Nat.le_of_ble_eq_true rfl⟩ (Nat.le_of_ble_eq_true rfl) nw_RX1_66 dX1_removeRecording_58 rfl ?_
      refine s_wd eS7 ?_
      obtain ⟨v8, ev8, h⟩ := nm_elim h
      refine x_iinc B (pc' := 64) v8 2 [1, 2, 0] [(0, .ref (a 0)), (1, .int x1), (2, .int v8)] dX1_removeRecording_61 rfl (by rw [ev8]; rfl) (by decide) rfl rfl ?_
      refine x_goto B (pc' := 15) dX1_removeRecording_64 (by decide) ?_
      exact hK15 _ _ _ h
  unfold f_X1_removeRecording at h
  refine x_iload_n B (pc' := 1) 1 dX1_removeRecording_0 rfl rfl rfl ?_
  refine x_aload_n B (pc' := 2) 0 dX1_removeRecording_1 rfl rfl rfl ?_
  obtain ⟨r1, er1, h⟩ := bd_elim h
  refine x_selfVi B (pc' := 5) [] (k_X1_runningNumber _ _ _ a S er1) rfl rfl gv_RX1_70 rfl np_X1_runningNumber ⟨Nat.le_of_ble_eq_true rfl, Nat.le_of_ble_eq_true rfl⟩ ⟨by exact Nat.le_of_ble_eq_true rfl, by exact Nat.le_of_ble_eq_true rfl⟩ rfl (Nat.le_of_ble_eq_true rfl) dX1_removeRecording_2 rfl ?_
  refine x_icmp_ne B 13 8 dX1_removeRecording_5 (by decide) rfl (fun hc2 => ?_) (fun hc2 => ?_)
  · replace h := ite_f hc2 h
    refine x_iload_n B (pc' := 14) 1 dX1_removeRecording_13 rfl rfl rfl ?_
    refine x_istore_n B (pc' := 15) [1, 2, 0] [(0, .ref (a 0)), (1, .int p0), (2, .int p0)] dX1_removeRecording_14 rfl (by decide) rfl rfl ?_
    exact h15  _ _ _ _ h
  · replace h := ite_t hc2 h
    refine x_aload_n B (pc' := 9) 0 dX1_removeRecording_8 rfl rfl rfl ?_
    refine x_iconst B (pc' := 10) 0 dX1_removeRecording_9 (by decide) rfl ?_
    obtain ⟨S3, eS3, h⟩ := nm_elim h
    refine s_put8 (Or.inl rfl) B (pc' := 13) wf_RX1_37 dX1_removeRecording_10 rfl ?_
    refine s_wd eS3 ?_
    refine x_iload_n B (pc' := 14) 1 dX1_removeRecording_13 rfl rfl rfl ?_
    refine x_istore_n B (pc' := 15) [1, 2, 0] [(0, .ref (a 0)), (1, .int p0), (2, .int p0)] dX1_removeRecording_14 rfl (by decide) rfl rfl ?_
    exact h15  _ _ _ _ h
def f_X1_stopRecording (S : OB) : Option (Int32 × OB) :=
  bd (f_X1_runningNumber S) (fun (r1 : Int32) => bd (f_X1_cellCount r1 S) (fun (r2 : Int32) => nm (fun (S3 : OB) => if r2 = 0 then (bd (f_X1_removeRecording r1 S3) (fun (S5 : OB) => some (r2, S5))) else (some (r2, S3))) (upd S.1 8 (0 : Int32), S.2)))
abbrev rm_X1_stopRecording : Room := { frames := 2, cells := 0, slots := 0, locals := 45 }
theorem np_X1_stopRecording : yX1_stopRecording.cls ≠ "java/lang/invoke/MethodHandle" ∧ yX1_stopRecording.cls ≠ "java/lang/invoke/VarHandle" ∧ (parseMethodDescriptor yX1_stopRecording.desc).map (fun d => d.parameters.length) = some 0 := by decide +kernel
set_option maxHeartbeats 4000000 in
set_option maxRecDepth 100000 in
theorem k_X1_stopRecording (l : Launch) (D : va_G) (cs : CS) (a : Nat → Nat) (S : OB) {r9 : Int32} {S9 : OB} (h : f_X1_stopRecording S = some (r9, S9)) : MI l D cs yX1_stopRecording cX1_stopRecording 3 .int rm_X1_stopRecording [.ref (a 0)] (wS cs.1 a S) r9 (wS cs.1 a S9) := by
  refine MI_of (by decide) (Nat.le_of_ble_eq_true rfl) ?_
  rintro Γ rfl rfl rfl B ret
  show X Γ 3 0 0 0 [(0, .ref (a 0))] [] (wS Γ.cs.1 a S)
  unfold f_X1_stopRecording at h
  refine x_aload_n B (pc' := 1) 0 dX1_stopRecording_0 rfl rfl rfl ?_
  obtain ⟨r1, er1, h⟩ := bd_elim h
  refine x_selfVi B (pc' := 4) [] (k_X1_runningNumber _ _ _ a S er1) rfl rfl gv_RX1_70 rfl np_X1_runningNumber ⟨Nat.le_of_ble_eq_true rfl, Nat.le_of_ble_eq_true rfl⟩ ⟨by exact Nat.le_of_ble_eq_true rfl, by exact Nat.le_of_ble_eq_true rfl⟩ rfl (Nat.le_of_ble_eq_true rfl) dX1_stopRecording_1 rfl ?_
  refine x_istore_n B (pc' := 5) [1, 0] [(0, .ref (a 0)), (1, .int r1)] dX1_stopRecording_4 rfl (by decide) rfl rfl ?_
  refine x_aload_n B (pc' := 6) 0 dX1_stopRecording_5 rfl rfl rfl ?_
  refine x_iload_n B (pc' := 7) 1 dX1_stopRecording_6 rfl rfl rfl ?_
  obtain ⟨r2, er2, h⟩ := bd_elim h
  refine x_selfVi B (pc' := 10) [.int r1] (k_X1_cellCount _ _ _ a r1 S er2) rfl rfl gv_RX1_74 rfl np_X1_cellCount ⟨Nat.le_of_ble_eq_true rfl, Nat.le_of_ble_eq_true rfl⟩ ⟨by exact Nat.le_of_ble_eq_true rfl, by exact Nat.le_of_ble_eq_true rfl⟩ rfl (Nat.le_of_ble_eq_true rfl) dX1_stopRecording_7 rfl ?_
  refine x_istore_n B (pc' := 11) [1, 2, 0] [(0, .ref (a 0)), (1, .int r1), (2, .int r2)] dX1_stopRecording_10 rfl (by decide) rfl rfl ?_
  refine x_aload_n B (pc' := 12) 0 dX1_stopRecording_11 rfl rfl rfl ?_
  refine x_iconst B (pc' := 13) 0 dX1_stopRecording_12 (by decide) rfl ?_
  obtain ⟨S3, eS3, h⟩ := nm_elim h
  refine s_put8 (Or.inl rfl) B (pc' := 16) wf_RX1_37 dX1_stopRecording_13 rfl ?_
  refine s_wd eS3 ?_
  refine x_iload_n B (pc' := 17) 2 dX1_stopRecording_16 rfl rfl rfl ?_
  refine x_if_ne B 25 20 dX1_stopRecording_17 (by decide) rfl (fun hc4 => ?_) (fun hc4 => ?_)
  · replace h := ite_f hc4 h
    refine x_iload_n B (pc' := 26) 2 dX1_stopRecording_25 rfl rfl rfl ?_
    obtain ⟨h1, h2⟩ := some2 h
    subst h1
    subst h2
    exact ret rfl (by exact Nat.le_of_ble_eq_true rfl) (by exact Nat.le_of_ble_eq_true rfl) dX1_stopRecording_26
  · replace h := ite_t hc4 h
    refine x_aload_n B (pc' := 21) 0 dX1_stopRecording_20 rfl rfl rfl ?_
    refine x_iload_n B (pc' := 22) 1 dX1_stopRecording_21 rfl rfl rfl ?_
    obtain ⟨S5, eS5, h⟩ := bd_elim h
    refine x_selfVv B (pc' := 25) [.int r1] (k_X1_removeRecording _ _ _ a r1 S3 eS5) rfl rfl gv_RX1_81 rfl np_X1_removeRecording ⟨Nat.le_of_ble_eq_true rfl, Nat.le_of_ble_eq_true rfl⟩ ⟨by exact Nat.le_of_ble_eq_true rfl, by exact Nat.le_of_ble_eq_true rfl⟩ rfl (Nat.le_of_ble_eq_true rfl) dX1_stopRecording_22 rfl ?_
    refine x_iload_n B (pc' := 26) 2 dX1_stopRecording_25 rfl rfl rfl ?_
    obtain ⟨h1, h2⟩ := some2 h
    subst h1
    subst h2
    exact ret rfl (by exact Nat.le_of_ble_eq_true rfl) (by exact Nat.le_of_ble_eq_true rfl) dX1_stopRecording_26
def c_X1_beginRecording_12 (S : OB) : Option (Int32 × OB) :=
  nm (fun (v4 : Int32) => nm (fun (S5 : OB) => nm (fun (S6 : OB) => nm (fun (S7 : OB) => nm (fun (S8 : OB) => some (v4, S8)) (upd S7.1 8 (1 : Int32), S7.2)) (upd S6.1 7 ((S6.1 7) + (1 : Int32)), S6.2)) (S5.1, up2 S5.2 6 (pAt 10 (S5.2 6) v4 (0 : Int32)))) (S.1, up2 S.2 5 (pAt 10 (S.2 5) v4 (0 : Int32)))) (S.1 7)
def f_X1_beginRecording (S : OB) : Option (Int32 × OB) :=
  if (S.1 8) = 0 then (c_X1_beginRecording_12 S) else (bd2 (f_X1_stopRecording S) (fun (r2 : Int32) (S3 : OB) => c_X1_beginRecording_12 S3))
abbrev rm_X1_beginRecording : Room := { frames := 3, cells := 0, slots := 0, locals := 67 }
theorem np_X1_beginRecording : yX1_beginRecording.cls ≠ "java/lang/invoke/MethodHandle" ∧ yX1_beginRecording.cls ≠ "java/lang/invoke/VarHandle" ∧ (parseMethodDescriptor yX1_beginRecording.desc).map (fun d => d.parameters.length) = some 0 := by decide +kernel
set_option maxHeartbeats 4000000 in
set_option maxRecDepth 100000 in
theorem k_X1_beginRecording (l : Launch) (D : va_G) (cs : CS) (a : Nat → Nat) (S : OB) {r9 : Int32} {S9 : OB} (h : f_X1_beginRecording S = some (r9, S9)) : MI l D cs yX1_beginRecording cX1_beginRecording 2 .int rm_X1_beginRecording [.ref (a 0)] (wS cs.1 a S) r9 (wS cs.1 a S9) := by
  refine MI_of (by decide) (Nat.le_of_ble_eq_true rfl) ?_
  rintro Γ rfl rfl rfl B ret
  show X Γ 2 0 0 0 [(0, .ref (a 0))] [] (wS Γ.cs.1 a S)
  have h12 : ∀ (S : OB), c_X1_beginRecording_12  S = some (r9, S9) → X Γ 2 0 0 12 [(0, .ref (a 0))] [] (wS Γ.cs.1 a S) := by
    intro  S h
    unfold c_X1_beginRecording_12 at h
    refine x_aload_n B (pc' := 13) 0 dX1_beginRecording_12 rfl rfl rfl ?_
    refine s_get7 B (pc' := 16) wf_RX1_34 dX1_beginRecording_13 rfl ?_
    obtain ⟨v4, ev4, h⟩ := nm_elim h
    refine x_topi ev4 ?_
    refine x_istore_n B (pc' := 17) [1, 0] [(0, .ref (a 0)), (1, .int v4)] dX1_beginRecording_16 rfl (by decide) rfl rfl ?_
    refine x_aload_n B (pc' := 18) 0 dX1_beginRecording_17 rfl rfl rfl ?_
    refine s_ref5 B (pc' := 21) wf_RX1_28 dX1_beginRecording_18 rfl ?_
    refine x_iload_n B (pc' := 22) 1 dX1_beginRecording_21 rfl rfl rfl ?_
    refine x_iconst B (pc' := 23) 0 dX1_beginRecording_22 (by decide) rfl ?_
    obtain ⟨S5, eS5, h⟩ := nm_elim h
    refine s_pAt5 B (pc' := 26) ⟨Nat.le_of_ble_eq_true rfl, Nat.le_of_ble_eq_true rfl⟩ ⟨Nat.le_of_ble_eq_true rfl, Nat.le_of_ble_eq_true rfl⟩ (Nat.le_of_ble_eq_true rfl) nw_RX1_66 dX1_beginRecording_23 rfl ?_
    refine s_wd eS5 ?_
    refine x_aload_n B (pc' := 27) 0 dX1_beginRecording_26 rfl rfl rfl ?_
    refine s_ref6 B (pc' := 30) wf_RX1_31 dX1_beginRecording_27 rfl ?_
    refine x_iload_n B (pc' := 31) 1 dX1_beginRecording_30 rfl rfl rfl ?_
    refine x_iconst B (pc' := 32) 0 dX1_beginRecording_31 (by decide) rfl ?_
    obtain ⟨S6, eS6, h⟩ := nm_elim h
    refine s_pAt6 B (pc' := 35) ⟨Nat.le_of_ble_eq_true rfl, Nat.le_of_ble_eq_true rfl⟩ ⟨Nat.le_of_ble_eq_true rfl, Nat.le_of_ble_eq_true rfl⟩ (Nat.le_of_ble_eq_true rfl) nw_RX1_66 dX1_beginRecording_32 rfl ?_
    refine s_wd eS6 ?_
    refine x_aload_n B (pc' := 36) 0 dX1_beginRecording_35 rfl rfl rfl ?_
    refine x_dup B (pc' := 37) dX1_beginRecording_36 rfl rfl ?_
    refine s_get7 B (pc' := 40) wf_RX1_34 dX1_beginRecording_37 rfl ?_
    refine x_iconst B (pc' := 41) 1 dX1_beginRecording_40 (by decide) rfl ?_
    refine x_iadd B (pc' := 42) dX1_beginRecording_41 rfl ?_
    obtain ⟨S7, eS7, h⟩ := nm_elim h
    refine s_put7 B (pc' := 45) wf_RX1_34 dX1_beginRecording_42 rfl ?_
    refine s_wd eS7 ?_
    refine x_aload_n B (pc' := 46) 0 dX1_beginRecording_45 rfl rfl rfl ?_
    refine x_iconst B (pc' := 47) 1 dX1_beginRecording_46 (by decide) rfl ?_
    obtain ⟨S8, eS8, h⟩ := nm_elim h
    refine s_put8 (Or.inr rfl) B (pc' := 50) wf_RX1_37 dX1_beginRecording_47 rfl ?_
    refine s_wd eS8 ?_
    refine x_iload_n B (pc' := 51) 1 dX1_beginRecording_50 rfl rfl rfl ?_
    obtain ⟨h1, h2⟩ := some2 h
    subst h1
    subst h2
    exact ret rfl (by exact Nat.le_of_ble_eq_true rfl) (by exact Nat.le_of_ble_eq_true rfl) dX1_beginRecording_51
  unfold f_X1_beginRecording at h
  refine x_aload_n B (pc' := 1) 0 dX1_beginRecording_0 rfl rfl rfl ?_
  refine s_get8 B (pc' := 4) wf_RX1_37 dX1_beginRecording_1 rfl ?_
  refine x_if_eq B 12 7 dX1_beginRecording_4 (by decide) rfl (fun hc1 => ?_) (fun hc1 => ?_)
  · replace h := ite_t hc1 h
    exact h12  _ h
  · replace h := ite_f hc1 h
    refine x_aload_n B (pc' := 8) 0 dX1_beginRecording_7 rfl rfl rfl ?_
    obtain ⟨r2, S3, er2, h⟩ := bd2_elim h
    refine x_selfVi B (pc' := 11) [] (k_X1_stopRecording _ _ _ a S er2) rfl rfl gv_RX1_78 rfl np_X1_stopRecording ⟨Nat.le_of_ble_eq_true rfl, Nat.le_of_ble_eq_true rfl⟩ ⟨by exact Nat.le_of_ble_eq_true rfl, by exact Nat.le_of_ble_eq_true rfl⟩ rfl (Nat.le_of_ble_eq_true rfl) dX1_beginRecording_8 rfl ?_
    refine x_pop B (pc' := 12) dX1_beginRecording_11 rfl rfl ?_
    exact h12  _ h
def b_X1_dropFreeCells_4 (K4 : Int32 → Int32 → OB → Option OB) (x1 : Int32) (x2 : Int32) (S : OB) : Option OB :=
  if (S.1 4) ≤ x2 then (nm (fun (S2 : OB) => some S2) (upd S.1 4 x1, S.2)) else (nm (fun (v3 : Int32) => if (vAt 32 (S.2 0) v3) = ((-1) : Int32) then (nm (fun (v5 : Int32) => K4 x1 v5 S) (x2 + 1)) else (nm (fun (S6 : OB) => nm (fun (v7 : Int32) => nm (fun (v8 : Int32) => K4 v7 v8 S6) (x2 + 1)) (x1 + 1)) (S.1, up2 S.2 3 (pAt 32 (S.2 3) x1 v3)))) (vAt 32 (S.2 3) x2))
def f_X1_dropFreeCells (S : OB) : Option OB :=
  lpf3 (b_X1_dropFreeCells_4) FU (0 : Int32) (0 : Int32) S
abbrev rm_X1_dropFreeCells : Room := { frames := 1, cells := 0, slots := 0, locals := 22 }
theorem np_X1_dropFreeCells : yX1_dropFreeCells.cls ≠ "java/lang/invoke/MethodHandle" ∧ yX1_dropFreeCells.cls ≠ "java/lang/invoke/VarHandle" ∧ (parseMethodDescriptor yX1_dropFreeCells.desc).map (fun d => d.parameters.length) = some 0 := by decide +kernel
set_option maxHeartbeats 4000000 in
set_option maxRecDepth 100000 in
theorem k_X1_dropFreeCells (l : Launch) (D : va_G) (cs : CS) (a : Nat → Nat) (S : OB) {S9 : OB} (h : f_X1_dropFreeCells S = some S9) : MV l D cs yX1_dropFreeCells cX1_dropFreeCells 4 rm_X1_dropFreeCells [.ref (a 0)] (wS cs.1 a S) (wS cs.1 a S9) := by
  refine MV_of (by decide) (Nat.le_of_ble_eq_true rfl) ?_
  rintro Γ rfl rfl rfl B ret
  show X Γ 4 0 0 0 [(0, .ref (a 0))] [] (wS Γ.cs.1 a S)
  have h4 : ∀ (n9 : Nat) (x1 : Int32) (x2 : Int32) (S : OB), lpf3 (b_X1_dropFreeCells_4) n9 x1 x2 S = some S9 → X Γ 4 0 0 4 [(0, .ref (a 0)), (1, .int x1), (2, .int x2)] [] (wS Γ.cs.1 a S) := by
    refine lpf3_ind (fun K4 hK4 x1 x2 S h => ?_)
    unfold b_X1_dropFreeCells_4 at h
    refine x_iload_n B (pc' := 5) 2 dX1_dropFreeCells_4 rfl rfl rfl ?_
    refine x_aload_n B (pc' := 6) 0 dX1_dropFreeCells_5 rfl rfl rfl ?_
    refine s_get4 B (pc' := 9) wf_RX1_24 dX1_dropFreeCells_6 rfl ?_
    refine x_icmp_ge B 51 12 dX1_dropFreeCells_9 (by decide) rfl (fun hc1 => ?_) (fun hc1 => ?_)
    · replace h := ite_t hc1 h
      refine x_aload_n B (pc' := 52) 0 dX1_dropFreeCells_51 rfl rfl rfl ?_
      refine x_iload_n B (pc' := 53) 1 dX1_dropFreeCells_52 rfl rfl rfl ?_
      obtain ⟨S2, eS2, h⟩ := nm_elim h
      refine s_put4 B (pc' := 56) wf_RX1_24 dX1_dropFreeCells_53 rfl ?_
      refine s_wd eS2 ?_
      cases h
      exact ret (by exact Nat.le_of_ble_eq_true rfl) (by exact Nat.le_of_ble_eq_true rfl) dX1_dropFreeCells_56
    · replace h := ite_f hc1 h
      refine x_aload_n B (pc' := 13) 0 dX1_dropFreeCells_12 rfl rfl rfl ?_
      refine s_ref3 B (pc' := 16) wf_RX1_21 dX1_dropFreeCells_13 rfl ?_
      refine x_iload_n B (pc' := 17) 2 dX1_dropFreeCells_16 rfl rfl rfl ?_
      refine s_vAt3 B (pc' := 20) ⟨Nat.le_of_ble_eq_true rfl, Nat.le_of_ble_eq_true rfl⟩ ⟨Nat.le_of_ble_eq_true rfl, Nat.le_of_ble_eq_true rfl⟩ (Nat.le_of_ble_eq_true rfl) nw_RX1_62 dX1_dropFreeCells_17 rfl ?_
      obtain ⟨v3, ev3, h⟩ := nm_elim h
      refine x_topi ev3 ?_
      refine x_istore_n B (pc' := 21) [1, 2, 3, 0] [(0, .ref (a 0)), (1, .int x1), (2, .int x2), (3, .int v3)] dX1_dropFreeCells_20 rfl (by decide) rfl rfl ?_
      refine x_aload_n B (pc' := 22) 0 dX1_dropFreeCells_21 rfl rfl rfl ?_
      refine s_ref0 B (pc' := 25) wf_RX1_9 dX1_dropFreeCells_22 rfl ?_
      refine x_iload_n B (pc' := 26) 3 dX1_dropFreeCells_25 rfl rfl rfl ?_
      refine s_vAt0 B (pc' := 29) ⟨Nat.le_of_ble_eq_true rfl, Nat.le_of_ble_eq_true rfl⟩ ⟨Nat.le_of_ble_eq_true rfl, Nat.le_of_ble_eq_true rfl⟩ (Nat.le_of_ble_eq_true rfl) nw_RX1_62 dX1_dropFreeCells_26 rfl ?_
      refine x_iconst B (pc' := 30) (-1) dX1_dropFreeCells_29 (by decide) rfl ?_
      refine x_icmp_eq B 45 33 dX1_dropFreeCells_30 (by decide) rfl (fun hc4 => ?_) (fun hc4 => ?_)
      · replace h := ite_t hc4 h
        obtain ⟨v5, ev5, h⟩ := nm_elim h
        refine x_iinc B (pc' := 48) v5 2 [1, 2, 0, 3] [(0, .ref (a 0)), (1, .int x1), (2, .int v5), (3, .int v3)] dX1_dropFreeCells_45 rfl (by rw [ev5]; rfl) (by decide) rfl rfl ?_
        refine x_goto B (pc' := 4) dX1_dropFreeCells_48 (by decide) ?_
        refine x_lv [0, 1, 2] (lv' := [(0, .ref (a 0)), (1, .int x1), (2, .int v5)]) rfl ?_
        exact hK4 _ _ _ h
      · replace h := ite_f hc4 h
        refine x_aload_n B (pc' := 34) 0 dX1_dropFreeCells_33 rfl rfl rfl ?_
        refine s_ref3 B (pc' := 37) wf_RX1_21 dX1_dropFreeCells_34 rfl ?_
        refine x_iload_n B (pc' := 38) 1 dX1_dropFreeCells_37 rfl rfl rfl ?_
        refine x_iload_n B (pc' := 39) 3 dX1_dropFreeCells_38 rfl rfl rfl ?_
        obtain ⟨S6, eS6, h⟩ := nm_elim h
        refine s_pAt3 B (pc' := 42) ⟨Nat.le_of_ble_eq_true rfl, Nat.le_of_ble_eq_true rfl⟩ ⟨Nat.le_of_ble_eq_true rfl, Nat.le_of_ble_eq_true rfl⟩ (Nat.le_of_ble_eq_true rfl) nw_RX1_66 dX1_dropFreeCells_39 rfl ?_
        refine s_wd eS6 ?_
        obtain ⟨v7, ev7, h⟩ := nm_elim h
        refine x_iinc B (pc' := 45) v7 1 [1, 0, 2, 3] [(0, .ref (a 0)), (1, .int v7), (2, .int x2), (3, .int v3)] dX1_dropFreeCells_42 rfl (by rw [ev7]; rfl) (by decide) rfl rfl ?_
        obtain ⟨v8, ev8, h⟩ := nm_elim h
        refine x_iinc B (pc' := 48) v8 2 [1, 2, 0, 3] [(0, .ref (a 0)), (1, .int v7), (2, .int v8), (3, .int v3)] dX1_dropFreeCells_45 rfl (by rw [ev8]; rfl) (by decide) rfl rfl ?_
        refine x_goto B (pc' := 4) dX1_dropFreeCells_48 (by decide) ?_
        refine x_lv [0, 1, 2] (lv' := [(0, .ref (a 0)), (1, .int v7), (2, .int v8)]) rfl ?_
        exact hK4 _ _ _ h
  unfold f_X1_dropFreeCells at h
  refine x_iconst B (pc' := 1) 0 dX1_dropFreeCells_0 (by decide) rfl ?_
  refine x_istore_n B (pc' := 2) [1, 0] [(0, .ref (a 0)), (1, .int (0 : Int32))] dX1_dropFreeCells_1 rfl (by decide) rfl rfl ?_
  refine x_iconst B (pc' := 3) 0 dX1_dropFreeCells_2 (by decide) rfl ?_
  refine x_istore_n B (pc' := 4) [1, 2, 0] [(0, .ref (a 0)), (1, .int (0 : Int32)), (2, .int (0 : Int32))] dX1_dropFreeCells_3 rfl (by decide) rfl rfl ?_
  exact h4  _ _ _ _ h
def b_X1_eraseRecording_4 (K4 : Int32 → Int32 → Int32 → OB → Option (Int32 × OB)) (x1 : Int32) (x2 : Int32) (x3 : Int32) (S : OB) : Option (Int32 × OB) :=
  if (32 : Int32) ≤ x3 then (bd (f_X1_dropFreeCells S) (fun (S2 : OB) => bd (f_X1_removeRecording x1 S2) (fun (S3 : OB) => some (x2, S3)))) else (if (vAt 32 (S.2 0) x3) = x1 then (nm (fun (S6 : OB) => nm (fun (v7 : Int32) => nm (fun (v8 : Int32) => K4 x1 v7 v8 S6) (x3 + 1)) (x2 + 1)) (S.1, up2 S.2 0 (pAt 32 (S.2 0) x3 ((-1) : Int32)))) else (nm (fun (v5 : Int32) => K4 x1 x2 v5 S) (x3 + 1)))
def f_X1_eraseRecording (p0 : Int32) (S : OB) : Option (Int32 × OB) :=
  lpf4 (b_X1_eraseRecording_4) FU p0 (0 : Int32) (0 : Int32) S
abbrev rm_X1_eraseRecording : Room := { frames := 2, cells := 0, slots := 0, locals := 45 }
theorem np_X1_eraseRecording : yX1_eraseRecording.cls ≠ "java/lang/invoke/MethodHandle" ∧ yX1_eraseRecording.cls ≠ "java/lang/invoke/VarHandle" ∧ (parseMethodDescriptor yX1_eraseRecording.desc).map (fun d => d.parameters.length) = some 1 := by decide +kernel
set_option maxHeartbeats 4000000 in
set_option maxRecDepth 100000 in
theorem k_X1_eraseRecording (l : Launch) (D : va_G) (cs : CS) (a : Nat → Nat) (p0 : Int32) (S : OB) {r9 : Int32} {S9 : OB} (h : f_X1_eraseRecording p0 S = some (r9, S9)) : MI l D cs yX1_eraseRecording cX1_eraseRecording 4 .int rm_X1_eraseRecording [.ref (a 0), .int p0] (wS cs.1 a S) r9 (wS cs.1 a S9) := by
  refine MI_of (by decide) (Nat.le_of_ble_eq_true rfl) ?_
  rintro Γ rfl rfl rfl B ret
  show X Γ 4 0 0 0 [(0, .ref (a 0)), (1, .int p0)] [] (wS Γ.cs.1 a S)
  have h4 : ∀ (n9 : Nat) (x1 : Int32) (x2 : Int32) (x3 : Int32) (S : OB), lpf4 (b_X1_eraseRecording_4) n9 x1 x2 x3 S = some (r9, S9) → X Γ 4 0 0 4 [(0, .ref (a 0)), (1, .int x1), (2, .int x2), (3, .int x3)] [] (wS Γ.cs.1 a S) := by
    refine lpf4_ind (fun K4 hK4 x1 x2 x3 S h => ?_)
    unfold b_X1_eraseRecording_4 at h
    refine x_iload_n B (pc' := 5) 3 dX1_eraseRecording_4 rfl rfl rfl ?_
    refine x_bipush B (pc' := 7) 32 dX1_eraseRecording_5 (by decide) rfl ?_
    refine x_icmp_ge B 40 10 dX1_eraseRecording_7 (by decide) rfl (fun hc1 => ?_) (fun hc1 => ?_)
    · replace h := ite_t hc1 h
      refine x_aload_n B (pc' := 41) 0 dX1_eraseRecording_40 rfl rfl rfl ?_
      obtain ⟨S2, eS2, h⟩ := bd_elim h
      refine x_selfVv B (pc' := 44) [] (k_X1_dropFreeCells _ _ _ a S eS2) rfl rfl gv_RX1_85 rfl np_X1_dropFreeCells ⟨Nat.le_of_ble_eq_true rfl, Nat.le_of_ble_eq_true rfl⟩ ⟨by exact Nat.le_of_ble_eq_true rfl, by exact Nat.le_of_ble_eq_true rfl⟩ rfl (Nat.le_of_ble_eq_true rfl) dX1_eraseRecording_41 rfl ?_
      refine x_aload_n B (pc' := 45) 0 dX1_eraseRecording_44 rfl rfl rfl ?_
      refine x_iload_n B (pc' := 46) 1 dX1_eraseRecording_45 rfl rfl rfl ?_
      obtain ⟨S3, eS3, h⟩ := bd_elim h
      refine x_selfVv B (pc' := 49) [.int x1] (k_X1_removeRecording _ _ _ a x1 S2 eS3) rfl rfl gv_RX1_81 rfl np_X1_removeRecording ⟨Nat.le_of_ble_eq_true rfl, Nat.le_of_ble_eq_true rfl⟩ ⟨by exact Nat.le_of_ble_eq_true rfl, by exact Nat.le_of_ble_eq_true rfl⟩ rfl (Nat.le_of_ble_eq_true rfl) dX1_eraseRecording_46 rfl ?_
      refine x_iload_n B (pc' := 50) 2 dX1_eraseRecording_49 rfl rfl rfl ?_
      obtain ⟨h1, h2⟩ := some2 h
      subst h1
      subst h2
      exact ret rfl (by exact Nat.le_of_ble_eq_true rfl) (by exact Nat.le_of_ble_eq_true rfl) dX1_eraseRecording_50
    · replace h := ite_f hc1 h
      refine x_aload_n B (pc' := 11) 0 dX1_eraseRecording_10 rfl rfl rfl ?_
      refine s_ref0 B (pc' := 14) wf_RX1_9 dX1_eraseRecording_11 rfl ?_
      refine x_iload_n B (pc' := 15) 3 dX1_eraseRecording_14 rfl rfl rfl ?_
      refine s_vAt0 B (pc' := 18) ⟨Nat.le_of_ble_eq_true rfl, Nat.le_of_ble_eq_true rfl⟩ ⟨Nat.le_of_ble_eq_true rfl, Nat.le_of_ble_eq_true rfl⟩ (Nat.le_of_ble_eq_true rfl) nw_RX1_62 dX1_eraseRecording_15 rfl ?_
      refine x_iload_n B (pc' := 19) 1 dX1_eraseRecording_18 rfl rfl rfl ?_
      refine x_icmp_ne B 34 22 dX1_eraseRecording_19 (by decide) rfl (fun hc4 => ?_) (fun hc4 => ?_)
      · replace h := ite_f hc4 h
        obtain ⟨v5, ev5, h⟩ := nm_elim h
        refine x_iinc B (pc' := 37) v5 3 [1, 2, 3, 0] [(0, .ref (a 0)), (1, .int x1), (2, .int x2), (3, .int v5)] dX1_eraseRecording_34 rfl (by rw [ev5]; rfl) (by decide) rfl rfl ?_
        refine x_goto B (pc' := 4) dX1_eraseRecording_37 (by decide) ?_
        exact hK4 _ _ _ _ h
      · replace h := ite_t hc4 h
        refine x_aload_n B (pc' := 23) 0 dX1_eraseRecording_22 rfl rfl rfl ?_
        refine s_ref0 B (pc' := 26) wf_RX1_9 dX1_eraseRecording_23 rfl ?_
        refine x_iload_n B (pc' := 27) 3 dX1_eraseRecording_26 rfl rfl rfl ?_
        refine x_iconst B (pc' := 28) (-1) dX1_eraseRecording_27 (by decide) rfl ?_
        obtain ⟨S6, eS6, h⟩ := nm_elim h
        refine s_pAt0 B (pc' := 31) ⟨Nat.le_of_ble_eq_true rfl, Nat.le_of_ble_eq_true rfl⟩ ⟨Nat.le_of_ble_eq_true rfl, Nat.le_of_ble_eq_true rfl⟩ (Nat.le_of_ble_eq_true rfl) nw_RX1_66 dX1_eraseRecording_28 rfl ?_
        refine s_wd eS6 ?_
        obtain ⟨v7, ev7, h⟩ := nm_elim h
        refine x_iinc B (pc' := 34) v7 2 [1, 2, 0, 3] [(0, .ref (a 0)), (1, .int x1), (2, .int v7), (3, .int x3)] dX1_eraseRecording_31 rfl (by rw [ev7]; rfl) (by decide) rfl rfl ?_
        obtain ⟨v8, ev8, h⟩ := nm_elim h
        refine x_iinc B (pc' := 37) v8 3 [1, 2, 3, 0] [(0, .ref (a 0)), (1, .int x1), (2, .int v7), (3, .int v8)] dX1_eraseRecording_34 rfl (by rw [ev8]; rfl) (by decide) rfl rfl ?_
        refine x_goto B (pc' := 4) dX1_eraseRecording_37 (by decide) ?_
        exact hK4 _ _ _ _ h
  unfold f_X1_eraseRecording at h
  refine x_iconst B (pc' := 1) 0 dX1_eraseRecording_0 (by decide) rfl ?_
  refine x_istore_n B (pc' := 2) [1, 2, 0] [(0, .ref (a 0)), (1, .int p0), (2, .int (0 : Int32))] dX1_eraseRecording_1 rfl (by decide) rfl rfl ?_
  refine x_iconst B (pc' := 3) 0 dX1_eraseRecording_2 (by decide) rfl ?_
  refine x_istore_n B (pc' := 4) [1, 2, 3, 0] [(0, .ref (a 0)), (1, .int p0), (2, .int (0 : Int32)), (3, .int (0 : Int32))] dX1_eraseRecording_3 rfl (by decide) rfl rfl ?_
  exact h4  _ _ _ _ _ h
def f_X1_cellFromHead (p0 : Int32) (S : OB) : Option Int32 :=
  some (((S.1 9) + p0) - ((S.1 9) + p0) / (32 : Int32) * (32 : Int32))
abbrev rm_X1_cellFromHead : Room := { frames := 0, cells := 0, slots := 0, locals := 0 }
theorem np_X1_cellFromHead : yX1_cellFromHead.cls ≠ "java/lang/invoke/MethodHandle" ∧ yX1_cellFromHead.cls ≠ "java/lang/invoke/VarHandle" ∧ (parseMethodDescriptor yX1_cellFromHead.desc).map (fun d => d.parameters.length) = some 1 := by decide +kernel
set_option maxHeartbeats 4000000 in
set_option maxRecDepth 100000 in
theorem k_X1_cellFromHead (l : Launch) (D : va_G) (cs : CS) (a : Nat → Nat) (p0 : Int32) (S : OB) {r9 : Int32} (h : f_X1_cellFromHead p0 S = some r9) : MI l D cs yX1_cellFromHead cX1_cellFromHead 2 .int rm_X1_cellFromHead [.ref (a 0), .int p0] (wS cs.1 a S) r9 (wS cs.1 a S) := by
  refine MI_of (by decide) (Nat.le_of_ble_eq_true rfl) ?_
  rintro Γ rfl rfl rfl B ret
  show X Γ 2 0 0 0 [(0, .ref (a 0)), (1, .int p0)] [] (wS Γ.cs.1 a S)
  unfold f_X1_cellFromHead at h
  refine x_aload_n B (pc' := 1) 0 dX1_cellFromHead_0 rfl rfl rfl ?_
  refine s_get9 B (pc' := 4) wf_RX1_41 dX1_cellFromHead_1 rfl ?_
  refine x_iload_n B (pc' := 5) 1 dX1_cellFromHead_4 rfl rfl rfl ?_
  refine x_iadd B (pc' := 6) dX1_cellFromHead_5 rfl ?_
  refine x_bipush B (pc' := 8) 32 dX1_cellFromHead_6 (by decide) rfl ?_
  refine x_irem B (pc' := 9) dX1_cellFromHead_8 (by decide) rfl ?_
  have h1 := (Option.some.inj h)
  subst h1
  exact ret rfl (by exact Nat.le_of_ble_eq_true rfl) (by exact Nat.le_of_ble_eq_true rfl) dX1_cellFromHead_9
def f_X1_isWritable (p0 : Int32) (S : OB) : Option Int32 :=
  nm (fun (v1 : Int32) => if v1 = ((-1) : Int32) then (some (1 : Int32)) else (bd (f_X1_runningNumber S) (fun (r3 : Int32) => if v1 = r3 then (some (0 : Int32)) else (if (vAt 10 (S.2 5) v1) = 0 then (some (1 : Int32)) else (some (0 : Int32)))))) (vAt 32 (S.2 0) p0)
abbrev rm_X1_isWritable : Room := { frames := 1, cells := 0, slots := 0, locals := 22 }
theorem np_X1_isWritable : yX1_isWritable.cls ≠ "java/lang/invoke/MethodHandle" ∧ yX1_isWritable.cls ≠ "java/lang/invoke/VarHandle" ∧ (parseMethodDescriptor yX1_isWritable.desc).map (fun d => d.parameters.length) = some 1 := by decide +kernel
set_option maxHeartbeats 4000000 in
set_option maxRecDepth 100000 in
theorem k_X1_isWritable (l : Launch) (D : va_G) (cs : CS) (a : Nat → Nat) (p0 : Int32) (S : OB) {r9 : Int32} (h : f_X1_isWritable p0 S = some r9) : MI l D cs yX1_isWritable cX1_isWritable 3 .boolean rm_X1_isWritable [.ref (a 0), .int p0] (wS cs.1 a S) r9 (wS cs.1 a S) := by
  refine MI_of (by decide) (Nat.le_of_ble_eq_true rfl) ?_
  rintro Γ rfl rfl rfl B ret
  show X Γ 3 0 0 0 [(0, .ref (a 0)), (1, .int p0)] [] (wS Γ.cs.1 a S)
  unfold f_X1_isWritable at h
  refine x_aload_n B (pc' := 1) 0 dX1_isWritable_0 rfl rfl rfl ?_
  refine s_ref0 B (pc' := 4) wf_RX1_9 dX1_isWritable_1 rfl ?_
  refine x_iload_n B (pc' := 5) 1 dX1_isWritable_4 rfl rfl rfl ?_
  refine s_vAt0 B (pc' := 8) ⟨Nat.le_of_ble_eq_true rfl, Nat.le_of_ble_eq_true rfl⟩ ⟨Nat.le_of_ble_eq_true rfl, Nat.le_of_ble_eq_true rfl⟩ (Nat.le_of_ble_eq_true rfl) nw_RX1_62 dX1_isWritable_5 rfl ?_
  obtain ⟨v1, ev1, h⟩ := nm_elim h
  refine x_topi ev1 ?_
  refine x_istore_n B (pc' := 9) [1, 2, 0] [(0, .ref (a 0)), (1, .int p0), (2, .int v1)] dX1_isWritable_8 rfl (by decide) rfl rfl ?_
  refine x_iload_n B (pc' := 10) 2 dX1_isWritable_9 rfl rfl rfl ?_
  refine x_iconst B (pc' := 11) (-1) dX1_isWritable_10 (by decide) rfl ?_
  refine x_icmp_eq B 33 14 dX1_isWritable_11 (by decide) rfl (fun hc2 => ?_) (fun hc2 => ?_)
  · replace h := ite_t hc2 h
    refine x_iconst B (pc' := 34) 1 dX1_isWritable_33 (by decide) rfl ?_
    refine x_goto B (pc' := 38) dX1_isWritable_34 (by decide) ?_
    have h1 := (Option.some.inj h)
    subst h1
    exact ret rfl (by exact Nat.le_of_ble_eq_true rfl) (by exact Nat.le_of_ble_eq_true rfl) dX1_isWritable_38
  · replace h := ite_f hc2 h
    refine x_iload_n B (pc' := 15) 2 dX1_isWritable_14 rfl rfl rfl ?_
    refine x_aload_n B (pc' := 16) 0 dX1_isWritable_15 rfl rfl rfl ?_
    obtain ⟨r3, er3, h⟩ := bd_elim h
    refine x_selfVi B (pc' := 19) [] (k_X1_runningNumber _ _ _ a S er3) rfl rfl gv_RX1_70 rfl np_X1_runningNumber ⟨Nat.le_of_ble_eq_true rfl, Nat.le_of_ble_eq_true rfl⟩ ⟨by exact Nat.le_of_ble_eq_true rfl, by exact Nat.le_of_ble_eq_true rfl⟩ rfl (Nat.le_of_ble_eq_true rfl) dX1_isWritable_16 rfl ?_
    refine x_icmp_eq B 37 22 dX1_isWritable_19 (by decide) rfl (fun hc4 => ?_) (fun hc4 => ?_)
    · replace h := ite_t hc4 h
      refine x_iconst B (pc' := 38) 0 dX1_isWritable_37 (by decide) rfl ?_
      have h1 := (Option.some.inj h)
      subst h1
      exact ret rfl (by exact Nat.le_of_ble_eq_true rfl) (by exact Nat.le_of_ble_eq_true rfl) dX1_isWritable_38
    · replace h := ite_f hc4 h
      refine x_aload_n B (pc' := 23) 0 dX1_isWritable_22 rfl rfl rfl ?_
      refine s_ref5 B (pc' := 26) wf_RX1_28 dX1_isWritable_23 rfl ?_
      refine x_iload_n B (pc' := 27) 2 dX1_isWritable_26 rfl rfl rfl ?_
      refine s_vAt5 B (pc' := 30) ⟨Nat.le_of_ble_eq_true rfl, Nat.le_of_ble_eq_true rfl⟩ ⟨Nat.le_of_ble_eq_true rfl, Nat.le_of_ble_eq_true rfl⟩ (Nat.le_of_ble_eq_true rfl) nw_RX1_62 dX1_isWritable_27 rfl ?_
      refine x_if_ne B 37 33 dX1_isWritable_30 (by decide) rfl (fun hc5 => ?_) (fun hc5 => ?_)
      · replace h := ite_f hc5 h
        refine x_iconst B (pc' := 38) 0 dX1_isWritable_37 (by decide) rfl ?_
        have h1 := (Option.some.inj h)
        subst h1
        exact ret rfl (by exact Nat.le_of_ble_eq_true rfl) (by exact Nat.le_of_ble_eq_true rfl) dX1_isWritable_38
      · replace h := ite_t hc5 h
        refine x_iconst B (pc' := 34) 1 dX1_isWritable_33 (by decide) rfl ?_
        refine x_goto B (pc' := 38) dX1_isWritable_34 (by decide) ?_
        have h1 := (Option.some.inj h)
        subst h1
        exact ret rfl (by exact Nat.le_of_ble_eq_true rfl) (by exact Nat.le_of_ble_eq_true rfl) dX1_isWritable_38
def b_X1_writableCells_4 (S : OB) (K4 : Int32 → Int32 → Option Int32) (x1 : Int32) (x2 : Int32) : Option Int32 :=
  if (32 : Int32) ≤ x2 then (some x1) else (bd (f_X1_isWritable x2 S) (fun (r2 : Int32) => if r2 = 0 then (nm (fun (v4 : Int32) => K4 x1 v4) (x2 + 1)) else (nm (fun (v5 : Int32) => nm (fun (v6 : Int32) => K4 v5 v6) (x2 + 1)) (x1 + 1))))
def f_X1_writableCells (S : OB) : Option Int32 :=
  lpf2 (b_X1_writableCells_4 S) FU (0 : Int32) (0 : Int32)
abbrev rm_X1_writableCells : Room := { frames := 2, cells := 0, slots := 0, locals := 44 }
theorem np_X1_writableCells : yX1_writableCells.cls ≠ "java/lang/invoke/MethodHandle" ∧ yX1_writableCells.cls ≠ "java/lang/invoke/VarHandle" ∧ (parseMethodDescriptor yX1_writableCells.desc).map (fun d => d.parameters.length) = some 0 := by decide +kernel
set_option maxHeartbeats 4000000 in
set_option maxRecDepth 100000 in
theorem k_X1_writableCells (l : Launch) (D : va_G) (cs : CS) (a : Nat → Nat) (S : OB) {r9 : Int32} (h : f_X1_writableCells S = some r9) : MI l D cs yX1_writableCells cX1_writableCells 3 .int rm_X1_writableCells [.ref (a 0)] (wS cs.1 a S) r9 (wS cs.1 a S) := by
  refine MI_of (by decide) (Nat.le_of_ble_eq_true rfl) ?_
  rintro Γ rfl rfl rfl B ret
  show X Γ 3 0 0 0 [(0, .ref (a 0))] [] (wS Γ.cs.1 a S)
  have h4 : ∀ (n9 : Nat) (x1 : Int32) (x2 : Int32), lpf2 (b_X1_writableCells_4 S) n9 x1 x2 = some r9 → X Γ 3 0 0 4 [(0, .ref (a 0)), (1, .int x1), (2, .int x2)] [] (wS Γ.cs.1 a S) := by
    refine lpf2_ind (fun K4 hK4 x1 x2 h => ?_)
    unfold b_X1_writableCells_4 at h
    refine x_iload_n B (pc' := 5) 2 dX1_writableCells_4 rfl rfl rfl ?_
    refine x_bipush B (pc' := 7) 32 dX1_writableCells_5 (by decide) rfl ?_
    refine x_icmp_ge B 27 10 dX1_writableCells_7 (by decide) rfl (fun hc1 => ?_) (fun hc1 => ?_)
    · replace h := ite_t hc1 h
      refine x_iload_n B (pc' := 28) 1 dX1_writableCells_27 rfl rfl rfl ?_
      have h1 := (Option.some.inj h)
      subst h1
      exact ret rfl (by exact Nat.le_of_ble_eq_true rfl) (by exact Nat.le_of_ble_eq_true rfl) dX1_writableCells_28
    · replace h := ite_f hc1 h
      refine x_aload_n B (pc' := 11) 0 dX1_writableCells_10 rfl rfl rfl ?_
      refine x_iload_n B (pc' := 12) 2 dX1_writableCells_11 rfl rfl rfl ?_
      obtain ⟨r2, er2, h⟩ := bd_elim h
      refine x_selfVi B (pc' := 15) [.int x2] (k_X1_isWritable _ _ _ a x2 S er2) rfl rfl gv_RX1_88 rfl np_X1_isWritable ⟨Nat.le_of_ble_eq_true rfl, Nat.le_of_ble_eq_true rfl⟩ ⟨by exact Nat.le_of_ble_eq_true rfl, by exact Nat.le_of_ble_eq_true rfl⟩ rfl (Nat.le_of_ble_eq_true rfl) dX1_writableCells_12 rfl ?_
      refine x_if_eq B 21 18 dX1_writableCells_15 (by decide) rfl (fun hc3 => ?_) (fun hc3 => ?_)
      · replace h := ite_t hc3 h
        obtain ⟨v4, ev4, h⟩ := nm_elim h
        refine x_iinc B (pc' := 24) v4 2 [1, 2, 0] [(0, .ref (a 0)), (1, .int x1), (2, .int v4)] dX1_writableCells_21 rfl (by rw [ev4]; rfl) (by decide) rfl rfl ?_
        refine x_goto B (pc' := 4) dX1_writableCells_24 (by decide) ?_
        exact hK4 _ _ h
      · replace h := ite_f hc3 h
        obtain ⟨v5, ev5, h⟩ := nm_elim h
        refine x_iinc B (pc' := 21) v5 1 [1, 0, 2] [(0, .ref (a 0)), (1, .int v5), (2, .int x2)] dX1_writableCells_18 rfl (by rw [ev5]; rfl) (by decide) rfl rfl ?_
        obtain ⟨v6, ev6, h⟩ := nm_elim h
        refine x_iinc B (pc' := 24) v6 2 [1, 2, 0] [(0, .ref (a 0)), (1, .int v5), (2, .int v6)] dX1_writableCells_21 rfl (by rw [ev6]; rfl) (by decide) rfl rfl ?_
        refine x_goto B (pc' := 4) dX1_writableCells_24 (by decide) ?_
        exact hK4 _ _ h
  unfold f_X1_writableCells at h
  refine x_iconst B (pc' := 1) 0 dX1_writableCells_0 (by decide) rfl ?_
  refine x_istore_n B (pc' := 2) [1, 0] [(0, .ref (a 0)), (1, .int (0 : Int32))] dX1_writableCells_1 rfl (by decide) rfl rfl ?_
  refine x_iconst B (pc' := 3) 0 dX1_writableCells_2 (by decide) rfl ?_
  refine x_istore_n B (pc' := 4) [1, 2, 0] [(0, .ref (a 0)), (1, .int (0 : Int32)), (2, .int (0 : Int32))] dX1_writableCells_3 rfl (by decide) rfl rfl ?_
  exact h4  _ _ _ h
def b_X1_firstWritable_2 (S : OB) (K2 : Int32 → Option Int32) (x1 : Int32) : Option Int32 :=
  if (32 : Int32) ≤ x1 then (some ((-1) : Int32)) else (bd (f_X1_cellFromHead x1 S) (fun (r2 : Int32) => bd (f_X1_isWritable r2 S) (fun (r3 : Int32) => if r3 = 0 then (nm (fun (v5 : Int32) => K2 v5) (x1 + 1)) else (some r2))))
def f_X1_firstWritable (S : OB) : Option Int32 :=
  lpf1 (b_X1_firstWritable_2 S) FU (0 : Int32)
abbrev rm_X1_firstWritable : Room := { frames := 2, cells := 0, slots := 0, locals := 44 }
theorem np_X1_firstWritable : yX1_firstWritable.cls ≠ "java/lang/invoke/MethodHandle" ∧ yX1_firstWritable.cls ≠ "java/lang/invoke/VarHandle" ∧ (parseMethodDescriptor yX1_firstWritable.desc).map (fun d => d.parameters.length) = some 0 := by decide +kernel
set_option maxHeartbeats 4000000 in
set_option maxRecDepth 100000 in
theorem k_X1_firstWritable (l : Launch) (D : va_G) (cs : CS) (a : Nat → Nat) (S : OB) {r9 : Int32} (h : f_X1_firstWritable S = some r9) : MI l D cs yX1_firstWritable cX1_firstWritable 3 .int rm_X1_firstWritable [.ref (a 0)] (wS cs.1 a S) r9 (wS cs.1 a S) := by
  refine MI_of (by decide) (Nat.le_of_ble_eq_true rfl) ?_
  rintro Γ rfl rfl rfl B ret
  show X Γ 3 0 0 0 [(0, .ref (a 0))] [] (wS Γ.cs.1 a S)
  have h2 : ∀ (n9 : Nat) (x1 : Int32), lpf1 (b_X1_firstWritable_2 S) n9 x1 = some r9 → X Γ 3 0 0 2 [(0, .ref (a 0)), (1, .int x1)] [] (wS Γ.cs.1 a S) := by
    refine lpf1_ind (fun K2 hK2 x1 h => ?_)
    unfold b_X1_firstWritable_2 at h
    refine x_iload_n B (pc' := 3) 1 dX1_firstWritable_2 rfl rfl rfl ?_
    refine x_bipush B (pc' := 5) 32 dX1_firstWritable_3 (by decide) rfl ?_
    refine x_icmp_ge B 30 8 dX1_firstWritable_5 (by decide) rfl (fun hc1 => ?_) (fun hc1 => ?_)
    · replace h := ite_t hc1 h
      refine x_iconst B (pc' := 31) (-1) dX1_firstWritable_30 (by decide) rfl ?_
      have h1 := (Option.some.inj h)
      subst h1
      exact ret rfl (by exact Nat.le_of_ble_eq_true rfl) (by exact Nat.le_of_ble_eq_true rfl) dX1_firstWritable_31
    · replace h := ite_f hc1 h
      refine x_aload_n B (pc' := 9) 0 dX1_firstWritable_8 rfl rfl rfl ?_
      refine x_iload_n B (pc' := 10) 1 dX1_firstWritable_9 rfl rfl rfl ?_
      obtain ⟨r2, er2, h⟩ := bd_elim h
      refine x_selfVi B (pc' := 13) [.int x1] (k_X1_cellFromHead _ _ _ a x1 S er2) rfl rfl gv_RX1_92 rfl np_X1_cellFromHead ⟨Nat.le_of_ble_eq_true rfl, Nat.le_of_ble_eq_true rfl⟩ ⟨by exact Nat.le_of_ble_eq_true rfl, by exact Nat.le_of_ble_eq_true rfl⟩ rfl (Nat.le_of_ble_eq_true rfl) dX1_firstWritable_10 rfl ?_
      refine x_istore_n B (pc' := 14) [1, 2, 0] [(0, .ref (a 0)), (1, .int x1), (2, .int r2)] dX1_firstWritable_13 rfl (by decide) rfl rfl ?_
      refine x_aload_n B (pc' := 15) 0 dX1_firstWritable_14 rfl rfl rfl ?_
      refine x_iload_n B (pc' := 16) 2 dX1_firstWritable_15 rfl rfl rfl ?_
      obtain ⟨r3, er3, h⟩ := bd_elim h
      refine x_selfVi B (pc' := 19) [.int r2] (k_X1_isWritable _ _ _ a r2 S er3) rfl rfl gv_RX1_88 rfl np_X1_isWritable ⟨Nat.le_of_ble_eq_true rfl, Nat.le_of_ble_eq_true rfl⟩ ⟨by exact Nat.le_of_ble_eq_true rfl, by exact Nat.le_of_ble_eq_true rfl⟩ rfl (Nat.le_of_ble_eq_true rfl) dX1_firstWritable_16 rfl ?_
      refine x_if_eq B 24 22 dX1_firstWritable_19 (by decide) rfl (fun hc4 => ?_) (fun hc4 => ?_)
      · replace h := ite_t hc4 h
        obtain ⟨v5, ev5, h⟩ := nm_elim h
        refine x_iinc B (pc' := 27) v5 1 [1, 0, 2] [(0, .ref (a 0)), (1, .int v5), (2, .int r2)] dX1_firstWritable_24 rfl (by rw [ev5]; rfl) (by decide) rfl rfl ?_
        refine x_goto B (pc' := 2) dX1_firstWritable_27 (by decide) ?_
        refine x_lv [0, 1] (lv' := [(0, .ref (a 0)), (1, .int v5)]) rfl ?_
        exact hK2 _ h
      · replace h := ite_f hc4 h
        refine x_iload_n B (pc' := 23) 2 dX1_firstWritable_22 rfl rfl rfl ?_
        have h1 := (Option.some.inj h)
        subst h1
        exact ret rfl (by exact Nat.le_of_ble_eq_true rfl) (by exact Nat.le_of_ble_eq_true rfl) dX1_firstWritable_23
  unfold f_X1_firstWritable at h
  refine x_iconst B (pc' := 1) 0 dX1_firstWritable_0 (by decide) rfl ?_
  refine x_istore_n B (pc' := 2) [1, 0] [(0, .ref (a 0)), (1, .int (0 : Int32))] dX1_firstWritable_1 rfl (by decide) rfl rfl ?_
  exact h2  _ _ h
def b_X1_firstLoser_2 (S : OB) (K2 : Int32 → Option Int32) (x1 : Int32) : Option Int32 :=
  if (32 : Int32) ≤ x1 then (some ((-1) : Int32)) else (bd (f_X1_cellFromHead x1 S) (fun (r2 : Int32) => nm (fun (v3 : Int32) => if v3 = ((-1) : Int32) then (nm (fun (v5 : Int32) => K2 v5) (x1 + 1)) else (bd (f_X1_isWritable r2 S) (fun (r6 : Int32) => if r6 = 0 then (nm (fun (v8 : Int32) => K2 v8) (x1 + 1)) else (some v3)))) (vAt 32 (S.2 0) r2)))
def f_X1_firstLoser (S : OB) : Option Int32 :=
  lpf1 (b_X1_firstLoser_2 S) FU (0 : Int32)
abbrev rm_X1_firstLoser : Room := { frames := 2, cells := 0, slots := 0, locals := 44 }
theorem np_X1_firstLoser : yX1_firstLoser.cls ≠ "java/lang/invoke/MethodHandle" ∧ yX1_firstLoser.cls ≠ "java/lang/invoke/VarHandle" ∧ (parseMethodDescriptor yX1_firstLoser.desc).map (fun d => d.parameters.length) = some 0 := by decide +kernel
set_option maxHeartbeats 4000000 in
set_option maxRecDepth 100000 in
theorem k_X1_firstLoser (l : Launch) (D : va_G) (cs : CS) (a : Nat → Nat) (S : OB) {r9 : Int32} (h : f_X1_firstLoser S = some r9) : MI l D cs yX1_firstLoser cX1_firstLoser 4 .int rm_X1_firstLoser [.ref (a 0)] (wS cs.1 a S) r9 (wS cs.1 a S) := by
  refine MI_of (by decide) (Nat.le_of_ble_eq_true rfl) ?_
  rintro Γ rfl rfl rfl B ret
  show X Γ 4 0 0 0 [(0, .ref (a 0))] [] (wS Γ.cs.1 a S)
  have h2 : ∀ (n9 : Nat) (x1 : Int32), lpf1 (b_X1_firstLoser_2 S) n9 x1 = some r9 → X Γ 4 0 0 2 [(0, .ref (a 0)), (1, .int x1)] [] (wS Γ.cs.1 a S) := by
    refine lpf1_ind (fun K2 hK2 x1 h => ?_)
    unfold b_X1_firstLoser_2 at h
    refine x_iload_n B (pc' := 3) 1 dX1_firstLoser_2 rfl rfl rfl ?_
    refine x_bipush B (pc' := 5) 32 dX1_firstLoser_3 (by decide) rfl ?_
    refine x_icmp_ge B 44 8 dX1_firstLoser_5 (by decide) rfl (fun hc1 => ?_) (fun hc1 => ?_)
    · replace h := ite_t hc1 h
      refine x_iconst B (pc' := 45) (-1) dX1_firstLoser_44 (by decide) rfl ?_
      have h1 := (Option.some.inj h)
      subst h1
      exact ret rfl (by exact Nat.le_of_ble_eq_true rfl) (by exact Nat.le_of_ble_eq_true rfl) dX1_firstLoser_45
    · replace h := ite_f hc1 h
      refine x_aload_n B (pc' := 9) 0 dX1_firstLoser_8 rfl rfl rfl ?_
      refine x_iload_n B (pc' := 10) 1 dX1_firstLoser_9 rfl rfl rfl ?_
      obtain ⟨r2, er2, h⟩ := bd_elim h
      refine x_selfVi B (pc' := 13) [.int x1] (k_X1_cellFromHead _ _ _ a x1 S er2) rfl rfl gv_RX1_92 rfl np_X1_cellFromHead ⟨Nat.le_of_ble_eq_true rfl, Nat.le_of_ble_eq_true rfl⟩ ⟨by exact Nat.le_of_ble_eq_true rfl, by exact Nat.le_of_ble_eq_true rfl⟩ rfl (Nat.le_of_ble_eq_true rfl) dX1_firstLoser_10 rfl ?_
      refine x_istore_n B (pc' := 14) [1, 2, 0] [(0, .ref (a 0)), (1, .int x1), (2, .int r2)] dX1_firstLoser_13 rfl (by decide) rfl rfl ?_
      refine x_aload_n B (pc' := 15) 0 dX1_firstLoser_14 rfl rfl rfl ?_
      refine s_ref0 B (pc' := 18) wf_RX1_9 dX1_firstLoser_15 rfl ?_
      refine x_iload_n B (pc' := 19) 2 dX1_firstLoser_18 rfl rfl rfl ?_
      refine s_vAt0 B (pc' := 22) ⟨Nat.le_of_ble_eq_true rfl, Nat.le_of_ble_eq_true rfl⟩ ⟨Nat.le_of_ble_eq_true rfl, Nat.le_of_ble_eq_true rfl⟩ (Nat.le_of_ble_eq_true rfl) nw_RX1_62 dX1_firstLoser_19 rfl ?_
      obtain ⟨v3, ev3, h⟩ := nm_elim h
      refine x_topi ev3 ?_
      refine x_istore_n B (pc' := 23) [1, 2, 3, 0] [(0, .ref (a 0)), (1, .int x1), (2, .int r2), (3, .int v3)] dX1_firstLoser_22 rfl (by decide) rfl rfl ?_
      refine x_iload_n B (pc' := 24) 3 dX1_firstLoser_23 rfl rfl rfl ?_
      refine x_iconst B (pc' := 25) (-1) dX1_firstLoser_24 (by decide) rfl ?_
      refine x_icmp_eq B 38 28 dX1_firstLoser_25 (by decide) rfl (fun hc4 => ?_) (fun hc4 => ?_)
      · replace h := ite_t hc4 h
        obtain ⟨v5, ev5, h⟩ := nm_elim h
        refine x_iinc B (pc' := 41) v5 1 [1, 0, 2, 3] [(0, .ref (a 0)), (1, .int v5), (2, .int r2), (3, .int v3)] dX1_firstLoser_38 rfl (by rw [ev5]; rfl) (by decide) rfl rfl ?_
        refine x_goto B (pc' := 2) dX1_firstLoser_41 (by decide) ?_
        refine x_lv [0, 1] (lv' := [(0, .ref (a 0)), (1, .int v5)]) rfl ?_
        exact hK2 _ h
      · replace h := ite_f hc4 h
        refine x_aload_n B (pc' := 29) 0 dX1_firstLoser_28 rfl rfl rfl ?_
        refine x_iload_n B (pc' := 30) 2 dX1_firstLoser_29 rfl rfl rfl ?_
        obtain ⟨r6, er6, h⟩ := bd_elim h
        refine x_selfVi B (pc' := 33) [.int r2] (k_X1_isWritable _ _ _ a r2 S er6) rfl rfl gv_RX1_88 rfl np_X1_isWritable ⟨Nat.le_of_ble_eq_true rfl, Nat.le_of_ble_eq_true rfl⟩ ⟨by exact Nat.le_of_ble_eq_true rfl, by exact Nat.le_of_ble_eq_true rfl⟩ rfl (Nat.le_of_ble_eq_true rfl) dX1_firstLoser_30 rfl ?_
        refine x_if_eq B 38 36 dX1_firstLoser_33 (by decide) rfl (fun hc7 => ?_) (fun hc7 => ?_)
        · replace h := ite_t hc7 h
          obtain ⟨v8, ev8, h⟩ := nm_elim h
          refine x_iinc B (pc' := 41) v8 1 [1, 0, 2, 3] [(0, .ref (a 0)), (1, .int v8), (2, .int r2), (3, .int v3)] dX1_firstLoser_38 rfl (by rw [ev8]; rfl) (by decide) rfl rfl ?_
          refine x_goto B (pc' := 2) dX1_firstLoser_41 (by decide) ?_
          refine x_lv [0, 1] (lv' := [(0, .ref (a 0)), (1, .int v8)]) rfl ?_
          exact hK2 _ h
        · replace h := ite_f hc7 h
          refine x_iload_n B (pc' := 37) 3 dX1_firstLoser_36 rfl rfl rfl ?_
          have h1 := (Option.some.inj h)
          subst h1
          exact ret rfl (by exact Nat.le_of_ble_eq_true rfl) (by exact Nat.le_of_ble_eq_true rfl) dX1_firstLoser_37
  unfold f_X1_firstLoser at h
  refine x_iconst B (pc' := 1) 0 dX1_firstLoser_0 (by decide) rfl ?_
  refine x_istore_n B (pc' := 2) [1, 0] [(0, .ref (a 0)), (1, .int (0 : Int32))] dX1_firstLoser_1 rfl (by decide) rfl rfl ?_
  exact h2  _ _ h
def b_X1_lossAfter_8 (S : OB) (K8 : Int32 → Int32 → Int32 → Int32 → Option Int32) (x1 : Int32) (x3 : Int32) (x4 : Int32) (x5 : Int32) : Option Int32 :=
  if (32 : Int32) ≤ x5 then (some x4) else (if x3 ≤ 0 then (some x4) else (bd (f_X1_cellFromHead x5 S) (fun (r3 : Int32) => bd (f_X1_isWritable r3 S) (fun (r4 : Int32) => if r4 = 0 then (nm (fun (v6 : Int32) => K8 x1 x3 x4 v6) (x5 + 1)) else (nm (fun (v7 : Int32) => if (vAt 32 (S.2 0) r3) = x1 then (nm (fun (v10 : Int32) => nm (fun (v11 : Int32) => K8 x1 v7 v10 v11) (x5 + 1)) (x4 + 1)) else (nm (fun (v9 : Int32) => K8 x1 v7 x4 v9) (x5 + 1))) (x3 + (-1)))))))
def f_X1_lossAfter (p0 : Int32) (p1 : Int32) (S : OB) : Option Int32 :=
  lpf4 (b_X1_lossAfter_8 S) FU p0 p1 (0 : Int32) (0 : Int32)
abbrev rm_X1_lossAfter : Room := { frames := 2, cells := 0, slots := 0, locals := 44 }
theorem np_X1_lossAfter : yX1_lossAfter.cls ≠ "java/lang/invoke/MethodHandle" ∧ yX1_lossAfter.cls ≠ "java/lang/invoke/VarHandle" ∧ (parseMethodDescriptor yX1_lossAfter.desc).map (fun d => d.parameters.length) = some 2 := by decide +kernel
set_option maxHeartbeats 4000000 in
set_option maxRecDepth 100000 in
theorem k_X1_lossAfter (l : Launch) (D : va_G) (cs : CS) (a : Nat → Nat) (p0 : Int32) (p1 : Int32) (S : OB) {r9 : Int32} (h : f_X1_lossAfter p0 p1 S = some r9) : MI l D cs yX1_lossAfter cX1_lossAfter 7 .int rm_X1_lossAfter [.ref (a 0), .int p0, .int p1] (wS cs.1 a S) r9 (wS cs.1 a S) := by
  refine MI_of (by decide) (Nat.le_of_ble_eq_true rfl) ?_
  rintro Γ rfl rfl rfl B ret
  show X Γ 7 0 0 0 [(0, .ref (a 0)), (1, .int p0), (2, .int p1)] [] (wS Γ.cs.1 a S)
  have h8 : ∀ (n9 : Nat) (x1 : Int32) (x3 : Int32) (x4 : Int32) (x5 : Int32), lpf4 (b_X1_lossAfter_8 S) n9 x1 x3 x4 x5 = some r9 → X Γ 7 0 0 8 [(0, .ref (a 0)), (1, .int x1), (3, .int x3), (4, .int x4), (5, .int x5)] [] (wS Γ.cs.1 a S) := by
    refine lpf4_ind (fun K8 hK8 x1 x3 x4 x5 h => ?_)
    unfold b_X1_lossAfter_8 at h
    refine x_iload B (pc' := 10) 4 dX1_lossAfter_8 rfl rfl ?_
    refine x_bipush B (pc' := 12) 32 dX1_lossAfter_10 (by decide) rfl ?_
    refine x_icmp_ge B 61 15 dX1_lossAfter_12 (by decide) rfl (fun hc1 => ?_) (fun hc1 => ?_)
    · replace h := ite_t hc1 h
      refine x_iload B (pc' := 63) 3 dX1_lossAfter_61 rfl rfl ?_
      have h1 := (Option.some.inj h)
      subst h1
      exact ret rfl (by exact Nat.le_of_ble_eq_true rfl) (by exact Nat.le_of_ble_eq_true rfl) dX1_lossAfter_63
    · replace h := ite_f hc1 h
      refine x_iload_n B (pc' := 16) 2 dX1_lossAfter_15 rfl rfl rfl ?_
      refine x_if_le B 61 19 dX1_lossAfter_16 (by decide) rfl (fun hc2 => ?_) (fun hc2 => ?_)
      · replace h := ite_t hc2 h
        refine x_iload B (pc' := 63) 3 dX1_lossAfter_61 rfl rfl ?_
        have h1 := (Option.some.inj h)
        subst h1
        exact ret rfl (by exact Nat.le_of_ble_eq_true rfl) (by exact Nat.le_of_ble_eq_true rfl) dX1_lossAfter_63
      · replace h := ite_f hc2 h
        refine x_aload_n B (pc' := 20) 0 dX1_lossAfter_19 rfl rfl rfl ?_
        refine x_iload B (pc' := 22) 4 dX1_lossAfter_20 rfl rfl ?_
        obtain ⟨r3, er3, h⟩ := bd_elim h
        refine x_selfVi B (pc' := 25) [.int x5] (k_X1_cellFromHead _ _ _ a x5 S er3) rfl rfl gv_RX1_92 rfl np_X1_cellFromHead ⟨Nat.le_of_ble_eq_true rfl, Nat.le_of_ble_eq_true rfl⟩ ⟨by exact Nat.le_of_ble_eq_true rfl, by exact Nat.le_of_ble_eq_true rfl⟩ rfl (Nat.le_of_ble_eq_true rfl) dX1_lossAfter_22 rfl ?_
        refine x_istore B (pc' := 27) [1, 2, 3, 4, 5, 0] [(0, .ref (a 0)), (1, .int x1), (3, .int x3), (4, .int x4), (5, .int x5), (6, .int r3)] dX1_lossAfter_25 (by decide) rfl rfl ?_
        refine x_aload_n B (pc' := 28) 0 dX1_lossAfter_27 rfl rfl rfl ?_
        refine x_iload B (pc' := 30) 5 dX1_lossAfter_28 rfl rfl ?_
        obtain ⟨r4, er4, h⟩ := bd_elim h
        refine x_selfVi B (pc' := 33) [.int r3] (k_X1_isWritable _ _ _ a r3 S er4) rfl rfl gv_RX1_88 rfl np_X1_isWritable ⟨Nat.le_of_ble_eq_true rfl, Nat.le_of_ble_eq_true rfl⟩ ⟨by exact Nat.le_of_ble_eq_true rfl, by exact Nat.le_of_ble_eq_true rfl⟩ rfl (Nat.le_of_ble_eq_true rfl) dX1_lossAfter_30 rfl ?_
        refine x_if_eq B 55 36 dX1_lossAfter_33 (by decide) rfl (fun hc5 => ?_) (fun hc5 => ?_)
        · replace h := ite_t hc5 h
          obtain ⟨v6, ev6, h⟩ := nm_elim h
          refine x_iinc B (pc' := 58) v6 4 [1, 2, 3, 4, 0, 5] [(0, .ref (a 0)), (1, .int x1), (3, .int x3), (4, .int x4), (5, .int v6), (6, .int r3)] dX1_lossAfter_55 rfl (by rw [ev6]; rfl) (by decide) rfl rfl ?_
          refine x_goto B (pc' := 8) dX1_lossAfter_58 (by decide) ?_
          refine x_lv [0, 1, 2, 3, 4] (lv' := [(0, .ref (a 0)), (1, .int x1), (3, .int x3), (4, .int x4), (5, .int v6)]) rfl ?_
          exact hK8 _ _ _ _ h
        · replace h := ite_f hc5 h
          obtain ⟨v7, ev7, h⟩ := nm_elim h
          refine x_iinc B (pc' := 39) v7 2 [1, 2, 0, 3, 4, 5] [(0, .ref (a 0)), (1, .int x1), (3, .int v7), (4, .int x4), (5, .int x5), (6, .int r3)] dX1_lossAfter_36 rfl (by rw [ev7]; rfl) (by decide) rfl rfl ?_
          refine x_aload_n B (pc' := 40) 0 dX1_lossAfter_39 rfl rfl rfl ?_
          refine s_ref0 B (pc' := 43) wf_RX1_9 dX1_lossAfter_40 rfl ?_
          refine x_iload B (pc' := 45) 5 dX1_lossAfter_43 rfl rfl ?_
          refine s_vAt0 B (pc' := 48) ⟨Nat.le_of_ble_eq_true rfl, Nat.le_of_ble_eq_true rfl⟩ ⟨Nat.le_of_ble_eq_true rfl, Nat.le_of_ble_eq_true rfl⟩ (Nat.le_of_ble_eq_true rfl) nw_RX1_62 dX1_lossAfter_45 rfl ?_
          refine x_iload_n B (pc' := 49) 1 dX1_lossAfter_48 rfl rfl rfl ?_
          refine x_icmp_ne B 55 52 dX1_lossAfter_49 (by decide) rfl (fun hc8 => ?_) (fun hc8 => ?_)
          · replace h := ite_f hc8 h
            obtain ⟨v9, ev9, h⟩ := nm_elim h
            refine x_iinc B (pc' := 58) v9 4 [1, 2, 3, 4, 0, 5] [(0, .ref (a 0)), (1, .int x1), (3, .int v7), (4, .int x4), (5, .int v9), (6, .int r3)] dX1_lossAfter_55 rfl (by rw [ev9]; rfl) (by decide) rfl rfl ?_
            refine x_goto B (pc' := 8) dX1_lossAfter_58 (by decide) ?_
            refine x_lv [0, 1, 2, 3, 4] (lv' := [(0, .ref (a 0)), (1, .int x1), (3, .int v7), (4, .int x4), (5, .int v9)]) rfl ?_
            exact hK8 _ _ _ _ h
          · replace h := ite_t hc8 h
            obtain ⟨v10, ev10, h⟩ := nm_elim h
            refine x_iinc B (pc' := 55) v10 3 [1, 2, 3, 0, 4, 5] [(0, .ref (a 0)), (1, .int x1), (3, .int v7), (4, .int v10), (5, .int x5), (6, .int r3)] dX1_lossAfter_52 rfl (by rw [ev10]; rfl) (by decide) rfl rfl ?_
            obtain ⟨v11, ev11, h⟩ := nm_elim h
            refine x_iinc B (pc' := 58) v11 4 [1, 2, 3, 4, 0, 5] [(0, .ref (a 0)), (1, .int x1), (3, .int v7), (4, .int v10), (5, .int v11), (6, .int r3)] dX1_lossAfter_55 rfl (by rw [ev11]; rfl) (by decide) rfl rfl ?_
            refine x_goto B (pc' := 8) dX1_lossAfter_58 (by decide) ?_
            refine x_lv [0, 1, 2, 3, 4] (lv' := [(0, .ref (a 0)), (1, .int x1), (3, .int v7), (4, .int v10), (5, .int v11)]) rfl ?_
            exact hK8 _ _ _ _ h
  unfold f_X1_lossAfter at h
  refine x_iload_n B (pc' := 1) 2 dX1_lossAfter_0 rfl rfl rfl ?_
  refine x_istore_n B (pc' := 2) [1, 2, 3, 0] [(0, .ref (a 0)), (1, .int p0), (2, .int p1), (3, .int p1)] dX1_lossAfter_1 rfl (by decide) rfl rfl ?_
  refine x_iconst B (pc' := 3) 0 dX1_lossAfter_2 (by decide) rfl ?_
  refine x_istore B (pc' := 5) [1, 2, 3, 4, 0] [(0, .ref (a 0)), (1, .int p0), (2, .int p1), (3, .int p1), (4, .int (0 : Int32))] dX1_lossAfter_3 (by decide) rfl rfl ?_
  refine x_iconst B (pc' := 6) 0 dX1_lossAfter_5 (by decide) rfl ?_
  refine x_istore B (pc' := 8) [1, 2, 3, 4, 5, 0] [(0, .ref (a 0)), (1, .int p0), (2, .int p1), (3, .int p1), (4, .int (0 : Int32)), (5, .int (0 : Int32))] dX1_lossAfter_6 (by decide) rfl rfl ?_
  refine x_lv [0, 1, 3, 4, 5] (lv' := [(0, .ref (a 0)), (1, .int p0), (3, .int p1), (4, .int (0 : Int32)), (5, .int (0 : Int32))]) rfl ?_
  exact h8  _ _ _ _ _ h
def f_X1_maySpeak (p0 : Int32) (S : OB) : Option Int32 :=
  if (S.1 8) = 0 then (some (0 : Int32)) else (bd (f_X1_writableCells S) (fun (r2 : Int32) => if r2 < p0 then (some (0 : Int32)) else (some (1 : Int32))))
abbrev rm_X1_maySpeak : Room := { frames := 3, cells := 0, slots := 0, locals := 66 }
theorem np_X1_maySpeak : yX1_maySpeak.cls ≠ "java/lang/invoke/MethodHandle" ∧ yX1_maySpeak.cls ≠ "java/lang/invoke/VarHandle" ∧ (parseMethodDescriptor yX1_maySpeak.desc).map (fun d => d.parameters.length) = some 1 := by decide +kernel
set_option maxHeartbeats 4000000 in
set_option maxRecDepth 100000 in
theorem k_X1_maySpeak (l : Launch) (D : va_G) (cs : CS) (a : Nat → Nat) (p0 : Int32) (S : OB) {r9 : Int32} (h : f_X1_maySpeak p0 S = some r9) : MI l D cs yX1_maySpeak cX1_maySpeak 2 .boolean rm_X1_maySpeak [.ref (a 0), .int p0] (wS cs.1 a S) r9 (wS cs.1 a S) := by
  refine MI_of (by decide) (Nat.le_of_ble_eq_true rfl) ?_
  rintro Γ rfl rfl rfl B ret
  show X Γ 2 0 0 0 [(0, .ref (a 0)), (1, .int p0)] [] (wS Γ.cs.1 a S)
  unfold f_X1_maySpeak at h
  refine x_aload_n B (pc' := 1) 0 dX1_maySpeak_0 rfl rfl rfl ?_
  refine s_get8 B (pc' := 4) wf_RX1_37 dX1_maySpeak_1 rfl ?_
  refine x_if_eq B 19 7 dX1_maySpeak_4 (by decide) rfl (fun hc1 => ?_) (fun hc1 => ?_)
  · replace h := ite_t hc1 h
    refine x_iconst B (pc' := 20) 0 dX1_maySpeak_19 (by decide) rfl ?_
    have h1 := (Option.some.inj h)
    subst h1
    exact ret rfl (by exact Nat.le_of_ble_eq_true rfl) (by exact Nat.le_of_ble_eq_true rfl) dX1_maySpeak_20
  · replace h := ite_f hc1 h
    refine x_aload_n B (pc' := 8) 0 dX1_maySpeak_7 rfl rfl rfl ?_
    obtain ⟨r2, er2, h⟩ := bd_elim h
    refine x_selfVi B (pc' := 11) [] (k_X1_writableCells _ _ _ a S er2) rfl rfl gv_RX1_95 rfl np_X1_writableCells ⟨Nat.le_of_ble_eq_true rfl, Nat.le_of_ble_eq_true rfl⟩ ⟨by exact Nat.le_of_ble_eq_true rfl, by exact Nat.le_of_ble_eq_true rfl⟩ rfl (Nat.le_of_ble_eq_true rfl) dX1_maySpeak_8 rfl ?_
    refine x_iload_n B (pc' := 12) 1 dX1_maySpeak_11 rfl rfl rfl ?_
    refine x_icmp_lt B 19 15 dX1_maySpeak_12 (by decide) rfl (fun hc3 => ?_) (fun hc3 => ?_)
    · replace h := ite_t hc3 h
      refine x_iconst B (pc' := 20) 0 dX1_maySpeak_19 (by decide) rfl ?_
      have h1 := (Option.some.inj h)
      subst h1
      exact ret rfl (by exact Nat.le_of_ble_eq_true rfl) (by exact Nat.le_of_ble_eq_true rfl) dX1_maySpeak_20
    · replace h := ite_f hc3 h
      refine x_iconst B (pc' := 16) 1 dX1_maySpeak_15 (by decide) rfl ?_
      refine x_goto B (pc' := 20) dX1_maySpeak_16 (by decide) ?_
      have h1 := (Option.some.inj h)
      subst h1
      exact ret rfl (by exact Nat.le_of_ble_eq_true rfl) (by exact Nat.le_of_ble_eq_true rfl) dX1_maySpeak_20
def b_X1_cellsBefore_14 (S : OB) (K14 : Int32 → Int32 → Int32 → Int32 → Option Int32) (x1 : Int32) (x2 : Int32) (x3 : Int32) (x4 : Int32) : Option Int32 :=
  if (S.1 4) ≤ x4 then (some x3) else (nm (fun (v3 : Int32) => if v3 = x1 then (some x3) else (if (vAt 32 (S.2 0) v3) = x2 then (nm (fun (v7 : Int32) => nm (fun (v8 : Int32) => K14 x1 x2 v7 v8) (x4 + 1)) (x3 + 1)) else (nm (fun (v6 : Int32) => K14 x1 x2 x3 v6) (x4 + 1)))) (vAt 32 (S.2 3) x4))
def f_X1_cellsBefore (p0 : Int32) (S : OB) : Option Int32 :=
  nm (fun (v1 : Int32) => lpf4 (b_X1_cellsBefore_14 S) FU p0 v1 (0 : Int32) (0 : Int32)) (vAt 32 (S.2 0) p0)
abbrev rm_X1_cellsBefore : Room := { frames := 1, cells := 0, slots := 0, locals := 22 }
theorem np_X1_cellsBefore : yX1_cellsBefore.cls ≠ "java/lang/invoke/MethodHandle" ∧ yX1_cellsBefore.cls ≠ "java/lang/invoke/VarHandle" ∧ (parseMethodDescriptor yX1_cellsBefore.desc).map (fun d => d.parameters.length) = some 1 := by decide +kernel
set_option maxHeartbeats 4000000 in
set_option maxRecDepth 100000 in
theorem k_X1_cellsBefore (l : Launch) (D : va_G) (cs : CS) (a : Nat → Nat) (p0 : Int32) (S : OB) {r9 : Int32} (h : f_X1_cellsBefore p0 S = some r9) : MI l D cs yX1_cellsBefore cX1_cellsBefore 6 .int rm_X1_cellsBefore [.ref (a 0), .int p0] (wS cs.1 a S) r9 (wS cs.1 a S) := by
  refine MI_of (by decide) (Nat.le_of_ble_eq_true rfl) ?_
  rintro Γ rfl rfl rfl B ret
  show X Γ 6 0 0 0 [(0, .ref (a 0)), (1, .int p0)] [] (wS Γ.cs.1 a S)
  have h14 : ∀ (n9 : Nat) (x1 : Int32) (x2 : Int32) (x3 : Int32) (x4 : Int32), lpf4 (b_X1_cellsBefore_14 S) n9 x1 x2 x3 x4 = some r9 → X Γ 6 0 0 14 [(0, .ref (a 0)), (1, .int x1), (2, .int x2), (3, .int x3), (4, .int x4)] [] (wS Γ.cs.1 a S) := by
    refine lpf4_ind (fun K14 hK14 x1 x2 x3 x4 h => ?_)
    unfold b_X1_cellsBefore_14 at h
    refine x_iload B (pc' := 16) 4 dX1_cellsBefore_14 rfl rfl ?_
    refine x_aload_n B (pc' := 17) 0 dX1_cellsBefore_16 rfl rfl rfl ?_
    refine s_get4 B (pc' := 20) wf_RX1_24 dX1_cellsBefore_17 rfl ?_
    refine x_icmp_ge B 64 23 dX1_cellsBefore_20 (by decide) rfl (fun hc2 => ?_) (fun hc2 => ?_)
    · replace h := ite_t hc2 h
      refine x_iload_n B (pc' := 65) 3 dX1_cellsBefore_64 rfl rfl rfl ?_
      have h1 := (Option.some.inj h)
      subst h1
      exact ret rfl (by exact Nat.le_of_ble_eq_true rfl) (by exact Nat.le_of_ble_eq_true rfl) dX1_cellsBefore_65
    · replace h := ite_f hc2 h
      refine x_aload_n B (pc' := 24) 0 dX1_cellsBefore_23 rfl rfl rfl ?_
      refine s_ref3 B (pc' := 27) wf_RX1_21 dX1_cellsBefore_24 rfl ?_
      refine x_iload B (pc' := 29) 4 dX1_cellsBefore_27 rfl rfl ?_
      refine s_vAt3 B (pc' := 32) ⟨Nat.le_of_ble_eq_true rfl, Nat.le_of_ble_eq_true rfl⟩ ⟨Nat.le_of_ble_eq_true rfl, Nat.le_of_ble_eq_true rfl⟩ (Nat.le_of_ble_eq_true rfl) nw_RX1_62 dX1_cellsBefore_29 rfl ?_
      obtain ⟨v3, ev3, h⟩ := nm_elim h
      refine x_topi ev3 ?_
      refine x_istore B (pc' := 34) [1, 2, 3, 4, 5, 0] [(0, .ref (a 0)), (1, .int x1), (2, .int x2), (3, .int x3), (4, .int x4), (5, .int v3)] dX1_cellsBefore_32 (by decide) rfl rfl ?_
      refine x_iload B (pc' := 36) 5 dX1_cellsBefore_34 rfl rfl ?_
      refine x_iload_n B (pc' := 37) 1 dX1_cellsBefore_36 rfl rfl rfl ?_
      refine x_icmp_ne B 42 40 dX1_cellsBefore_37 (by decide) rfl (fun hc4 => ?_) (fun hc4 => ?_)
      · replace h := ite_f hc4 h
        refine x_aload_n B (pc' := 43) 0 dX1_cellsBefore_42 rfl rfl rfl ?_
        refine s_ref0 B (pc' := 46) wf_RX1_9 dX1_cellsBefore_43 rfl ?_
        refine x_iload B (pc' := 48) 5 dX1_cellsBefore_46 rfl rfl ?_
        refine s_vAt0 B (pc' := 51) ⟨Nat.le_of_ble_eq_true rfl, Nat.le_of_ble_eq_true rfl⟩ ⟨Nat.le_of_ble_eq_true rfl, Nat.le_of_ble_eq_true rfl⟩ (Nat.le_of_ble_eq_true rfl) nw_RX1_62 dX1_cellsBefore_48 rfl ?_
        refine x_iload_n B (pc' := 52) 2 dX1_cellsBefore_51 rfl rfl rfl ?_
        refine x_icmp_ne B 58 55 dX1_cellsBefore_52 (by decide) rfl (fun hc5 => ?_) (fun hc5 => ?_)
        · replace h := ite_f hc5 h
          obtain ⟨v6, ev6, h⟩ := nm_elim h
          refine x_iinc B (pc' := 61) v6 4 [1, 2, 3, 4, 0, 5] [(0, .ref (a 0)), (1, .int x1), (2, .int x2), (3, .int x3), (4, .int v6), (5, .int v3)] dX1_cellsBefore_58 rfl (by rw [ev6]; rfl) (by decide) rfl rfl ?_
          refine x_goto B (pc' := 14) dX1_cellsBefore_61 (by decide) ?_
          refine x_lv [0, 1, 2, 3, 4] (lv' := [(0, .ref (a 0)), (1, .int x1), (2, .int x2), (3, .int x3), (4, .int v6)]) rfl ?_
          exact hK14 _ _ _ _ h
        · replace h := ite_t hc5 h
          obtain ⟨v7, ev7, h⟩ := nm_elim h
          refine x_iinc B (pc' := 58) v7 3 [1, 2, 3, 0, 4, 5] [(0, .ref (a 0)), (1, .int x1), (2, .int x2), (3, .int v7), (4, .int x4), (5, .int v3)] dX1_cellsBefore_55 rfl (by rw [ev7]; rfl) (by decide) rfl rfl ?_
          obtain ⟨v8, ev8, h⟩ := nm_elim h
          refine x_iinc B (pc' := 61) v8 4 [1, 2, 3, 4, 0, 5] [(0, .ref (a 0)), (1, .int x1), (2, .int x2), (3, .int v7), (4, .int v8), (5, .int v3)] dX1_cellsBefore_58 rfl (by rw [ev8]; rfl) (by decide) rfl rfl ?_
          refine x_goto B (pc' := 14) dX1_cellsBefore_61 (by decide) ?_
          refine x_lv [0, 1, 2, 3, 4] (lv' := [(0, .ref (a 0)), (1, .int x1), (2, .int x2), (3, .int v7), (4, .int v8)]) rfl ?_
          exact hK14 _ _ _ _ h
      · replace h := ite_t hc4 h
        refine x_iload_n B (pc' := 41) 3 dX1_cellsBefore_40 rfl rfl rfl ?_
        have h1 := (Option.some.inj h)
        subst h1
        exact ret rfl (by exact Nat.le_of_ble_eq_true rfl) (by exact Nat.le_of_ble_eq_true rfl) dX1_cellsBefore_41
  unfold f_X1_cellsBefore at h
  refine x_aload_n B (pc' := 1) 0 dX1_cellsBefore_0 rfl rfl rfl ?_
  refine s_ref0 B (pc' := 4) wf_RX1_9 dX1_cellsBefore_1 rfl ?_
  refine x_iload_n B (pc' := 5) 1 dX1_cellsBefore_4 rfl rfl rfl ?_
  refine s_vAt0 B (pc' := 8) ⟨Nat.le_of_ble_eq_true rfl, Nat.le_of_ble_eq_true rfl⟩ ⟨Nat.le_of_ble_eq_true rfl, Nat.le_of_ble_eq_true rfl⟩ (Nat.le_of_ble_eq_true rfl) nw_RX1_62 dX1_cellsBefore_5 rfl ?_
  obtain ⟨v1, ev1, h⟩ := nm_elim h
  refine x_topi ev1 ?_
  refine x_istore_n B (pc' := 9) [1, 2, 0] [(0, .ref (a 0)), (1, .int p0), (2, .int v1)] dX1_cellsBefore_8 rfl (by decide) rfl rfl ?_
  refine x_iconst B (pc' := 10) 0 dX1_cellsBefore_9 (by decide) rfl ?_
  refine x_istore_n B (pc' := 11) [1, 2, 3, 0] [(0, .ref (a 0)), (1, .int p0), (2, .int v1), (3, .int (0 : Int32))] dX1_cellsBefore_10 rfl (by decide) rfl rfl ?_
  refine x_iconst B (pc' := 12) 0 dX1_cellsBefore_11 (by decide) rfl ?_
  refine x_istore B (pc' := 14) [1, 2, 3, 4, 0] [(0, .ref (a 0)), (1, .int p0), (2, .int v1), (3, .int (0 : Int32)), (4, .int (0 : Int32))] dX1_cellsBefore_12 (by decide) rfl rfl ?_
  exact h14  _ _ _ _ _ h
def c_X1_loseCell_45 (x1 : Int32) (x2 : Int32) (S : OB) : Option OB :=
  nm (fun (S7 : OB) => bd (f_X1_dropFreeCells S7) (fun (S8 : OB) => nm (fun (S9 : OB) => bd (f_X1_cellCount x2 S9) (fun (r10 : Int32) => if r10 = 0 then (nm (fun (S12 : OB) => bd (f_X1_removeRecording x2 S12) (fun (S13 : OB) => some S13)) (upd S9.1 11 ((S9.1 11) + (1 : Int32)), S9.2)) else (some S9))) (S8.1, up2 S8.2 6 (pAt 10 (S8.2 6) x2 ((vAt 10 (S8.2 6) x2) + (1 : Int32)))))) (S.1, up2 S.2 0 (pAt 32 (S.2 0) x1 ((-1) : Int32)))
def f_X1_loseCell (p0 : Int32) (S : OB) : Option OB :=
  nm (fun (v1 : Int32) => if v1 = ((-1) : Int32) then (some S) else (if (S.1 12) = v1 then (bd (f_X1_cellsBefore p0 S) (fun (r4 : Int32) => if (S.1 13) ≤ r4 then (c_X1_loseCell_45 p0 v1 S) else (nm (fun (S6 : OB) => c_X1_loseCell_45 p0 v1 S6) (upd S.1 13 ((S.1 13) - (1 : Int32)), S.2)))) else (c_X1_loseCell_45 p0 v1 S))) (vAt 32 (S.2 0) p0)
abbrev rm_X1_loseCell : Room := { frames := 2, cells := 0, slots := 0, locals := 47 }
theorem np_X1_loseCell : yX1_loseCell.cls ≠ "java/lang/invoke/MethodHandle" ∧ yX1_loseCell.cls ≠ "java/lang/invoke/VarHandle" ∧ (parseMethodDescriptor yX1_loseCell.desc).map (fun d => d.parameters.length) = some 1 := by decide +kernel
set_option maxHeartbeats 4000000 in
set_option maxRecDepth 100000 in
theorem k_X1_loseCell (l : Launch) (D : va_G) (cs : CS) (a : Nat → Nat) (p0 : Int32) (S : OB) {S9 : OB} (h : f_X1_loseCell p0 S = some S9) : MV l D cs yX1_loseCell cX1_loseCell 3 rm_X1_loseCell [.ref (a 0), .int p0] (wS cs.1 a S) (wS cs.1 a S9) := by
  refine MV_of (by decide) (Nat.le_of_ble_eq_true rfl) ?_
  rintro Γ rfl rfl rfl B ret
  show X Γ 3 0 0 0 [(0, .ref (a 0)), (1, .int p0)] [] (wS Γ.cs.1 a S)
  have h45 : ∀ (x1 : Int32) (x2 : Int32) (S : OB), c_X1_loseCell_45  x1 x2 S = some S9 → X Γ 3 0 0 45 [(0, .ref (a 0)), (1, .int x1), (2, .int x2)] [] (wS Γ.cs.1 a S) := by
    intro  x1 x2 S h
    unfold c_X1_loseCell_45 at h
    refine x_aload_n B (pc' := 46) 0 dX1_loseCell_45 rfl rfl rfl ?_
    refine s_ref0 B (pc' := 49) wf_RX1_9 dX1_loseCell_46 rfl ?_
    refine x_iload_n B (pc' := 50) 1 dX1_loseCell_49 rfl rfl rfl ?_
    refine x_iconst B (pc' := 51) (-1) dX1_loseCell_50 (by decide) rfl ?_
    obtain ⟨S7, eS7, h⟩ := nm_elim h
    refine s_pAt0 B (pc' := 54) ⟨Nat.le_of_ble_eq_true rfl, Nat.le_of_ble_eq_true rfl⟩ ⟨Nat.le_of_ble_eq_true rfl, Nat.le_of_ble_eq_true rfl⟩ (Nat.le_of_ble_eq_true rfl) nw_RX1_66 dX1_loseCell_51 rfl ?_
    refine s_wd eS7 ?_
    refine x_aload_n B (pc' := 55) 0 dX1_loseCell_54 rfl rfl rfl ?_
    obtain ⟨S8, eS8, h⟩ := bd_elim h
    refine x_selfVv B (pc' := 58) [] (k_X1_dropFreeCells _ _ _ a S7 eS8) rfl rfl gv_RX1_85 rfl np_X1_dropFreeCells ⟨Nat.le_of_ble_eq_true rfl, Nat.le_of_ble_eq_true rfl⟩ ⟨by exact Nat.le_of_ble_eq_true rfl, by exact Nat.le_of_ble_eq_true rfl⟩ rfl (Nat.le_of_ble_eq_true rfl) dX1_loseCell_55 rfl ?_
    refine x_aload_n B (pc' := 59) 0 dX1_loseCell_58 rfl rfl rfl ?_
    refine s_ref6 B (pc' := 62) wf_RX1_31 dX1_loseCell_59 rfl ?_
    refine x_iload_n B (pc' := 63) 2 dX1_loseCell_62 rfl rfl rfl ?_
    refine x_aload_n B (pc' := 64) 0 dX1_loseCell_63 rfl rfl rfl ?_
    refine s_ref6 B (pc' := 67) wf_RX1_31 dX1_loseCell_64 rfl ?_
    refine x_iload_n B (pc' := 68) 2 dX1_loseCell_67 rfl rfl rfl ?_
    refine s_vAt6 B (pc' := 71) ⟨Nat.le_of_ble_eq_true rfl, Nat.le_of_ble_eq_true rfl⟩ ⟨Nat.le_of_ble_eq_true rfl, Nat.le_of_ble_eq_true rfl⟩ (Nat.le_of_ble_eq_true rfl) nw_RX1_62 dX1_loseCell_68 rfl ?_
    refine x_iconst B (pc' := 72) 1 dX1_loseCell_71 (by decide) rfl ?_
    refine x_iadd B (pc' := 73) dX1_loseCell_72 rfl ?_
    obtain ⟨S9, eS9, h⟩ := nm_elim h
    refine s_pAt6 B (pc' := 76) ⟨Nat.le_of_ble_eq_true rfl, Nat.le_of_ble_eq_true rfl⟩ ⟨Nat.le_of_ble_eq_true rfl, Nat.le_of_ble_eq_true rfl⟩ (Nat.le_of_ble_eq_true rfl) nw_RX1_66 dX1_loseCell_73 rfl ?_
    refine s_wd eS9 ?_
    refine x_aload_n B (pc' := 77) 0 dX1_loseCell_76 rfl rfl rfl ?_
    refine x_iload_n B (pc' := 78) 2 dX1_loseCell_77 rfl rfl rfl ?_
    obtain ⟨r10, er10, h⟩ := bd_elim h
    refine x_selfVi B (pc' := 81) [.int x2] (k_X1_cellCount _ _ _ a x2 S9 er10) rfl rfl gv_RX1_74 rfl np_X1_cellCount ⟨Nat.le_of_ble_eq_true rfl, Nat.le_of_ble_eq_true rfl⟩ ⟨by exact Nat.le_of_ble_eq_true rfl, by exact Nat.le_of_ble_eq_true rfl⟩ rfl (Nat.le_of_ble_eq_true rfl) dX1_loseCell_78 rfl ?_
    refine x_if_ne B 99 84 dX1_loseCell_81 (by decide) rfl (fun hc11 => ?_) (fun hc11 => ?_)
    · replace h := ite_f hc11 h
      cases h
      exact ret (by exact Nat.le_of_ble_eq_true rfl) (by exact Nat.le_of_ble_eq_true rfl) dX1_loseCell_99
    · replace h := ite_t hc11 h
      refine x_aload_n B (pc' := 85) 0 dX1_loseCell_84 rfl rfl rfl ?_
      refine x_dup B (pc' := 86) dX1_loseCell_85 rfl rfl ?_
      refine s_get11 B (pc' := 89) wf_RX1_47 dX1_loseCell_86 rfl ?_
      refine x_iconst B (pc' := 90) 1 dX1_loseCell_89 (by decide) rfl ?_
      refine x_iadd B (pc' := 91) dX1_loseCell_90 rfl ?_
      obtain ⟨S12, eS12, h⟩ := nm_elim h
      refine s_put11 B (pc' := 94) wf_RX1_47 dX1_loseCell_91 rfl ?_
      refine s_wd eS12 ?_
      refine x_aload_n B (pc' := 95) 0 dX1_loseCell_94 rfl rfl rfl ?_
      refine x_iload_n B (pc' := 96) 2 dX1_loseCell_95 rfl rfl rfl ?_
      obtain ⟨S13, eS13, h⟩ := bd_elim h
      refine x_selfVv B (pc' := 99) [.int x2] (k_X1_removeRecording _ _ _ a x2 S12 eS13) rfl rfl gv_RX1_81 rfl np_X1_removeRecording ⟨Nat.le_of_ble_eq_true rfl, Nat.le_of_ble_eq_true rfl⟩ ⟨by exact Nat.le_of_ble_eq_true rfl, by exact Nat.le_of_ble_eq_true rfl⟩ rfl (Nat.le_of_ble_eq_true rfl) dX1_loseCell_96 rfl ?_
      cases h
      exact ret (by exact Nat.le_of_ble_eq_true rfl) (by exact Nat.le_of_ble_eq_true rfl) dX1_loseCell_99
  unfold f_X1_loseCell at h
  refine x_aload_n B (pc' := 1) 0 dX1_loseCell_0 rfl rfl rfl ?_
  refine s_ref0 B (pc' := 4) wf_RX1_9 dX1_loseCell_1 rfl ?_
  refine x_iload_n B (pc' := 5) 1 dX1_loseCell_4 rfl rfl rfl ?_
  refine s_vAt0 B (pc' := 8) ⟨Nat.le_of_ble_eq_true rfl, Nat.le_of_ble_eq_true rfl⟩ ⟨Nat.le_of_ble_eq_true rfl, Nat.le_of_ble_eq_true rfl⟩ (Nat.le_of_ble_eq_true rfl) nw_RX1_62 dX1_loseCell_5 rfl ?_
  obtain ⟨v1, ev1, h⟩ := nm_elim h
  refine x_topi ev1 ?_
  refine x_istore_n B (pc' := 9) [1, 2, 0] [(0, .ref (a 0)), (1, .int p0), (2, .int v1)] dX1_loseCell_8 rfl (by decide) rfl rfl ?_
  refine x_iload_n B (pc' := 10) 2 dX1_loseCell_9 rfl rfl rfl ?_
  refine x_iconst B (pc' := 11) (-1) dX1_loseCell_10 (by decide) rfl ?_
  refine x_icmp_ne B 15 14 dX1_loseCell_11 (by decide) rfl (fun hc2 => ?_) (fun hc2 => ?_)
  · replace h := ite_f hc2 h
    refine x_aload_n B (pc' := 16) 0 dX1_loseCell_15 rfl rfl rfl ?_
    refine s_get12 B (pc' := 19) wf_RX1_50 dX1_loseCell_16 rfl ?_
    refine x_iload_n B (pc' := 20) 2 dX1_loseCell_19 rfl rfl rfl ?_
    refine x_icmp_ne B 45 23 dX1_loseCell_20 (by decide) rfl (fun hc3 => ?_) (fun hc3 => ?_)
    · replace h := ite_f hc3 h
      exact h45  _ _ _ h
    · replace h := ite_t hc3 h
      refine x_aload_n B (pc' := 24) 0 dX1_loseCell_23 rfl rfl rfl ?_
      refine x_iload_n B (pc' := 25) 1 dX1_loseCell_24 rfl rfl rfl ?_
      obtain ⟨r4, er4, h⟩ := bd_elim h
      refine x_selfVi B (pc' := 28) [.int p0] (k_X1_cellsBefore _ _ _ a p0 S er4) rfl rfl gv_RX1_108 rfl np_X1_cellsBefore ⟨Nat.le_of_ble_eq_true rfl, Nat.le_of_ble_eq_true rfl⟩ ⟨by exact Nat.le_of_ble_eq_true rfl, by exact Nat.le_of_ble_eq_true rfl⟩ rfl (Nat.le_of_ble_eq_true rfl) dX1_loseCell_25 rfl ?_
      refine x_aload_n B (pc' := 29) 0 dX1_loseCell_28 rfl rfl rfl ?_
      refine s_get13 B (pc' := 32) wf_RX1_53 dX1_loseCell_29 rfl ?_
      refine x_icmp_ge B 45 35 dX1_loseCell_32 (by decide) rfl (fun hc5 => ?_) (fun hc5 => ?_)
      · replace h := ite_t hc5 h
        exact h45  _ _ _ h
      · replace h := ite_f hc5 h
        refine x_aload_n B (pc' := 36) 0 dX1_loseCell_35 rfl rfl rfl ?_
        refine x_dup B (pc' := 37) dX1_loseCell_36 rfl rfl ?_
        refine s_get13 B (pc' := 40) wf_RX1_53 dX1_loseCell_37 rfl ?_
        refine x_iconst B (pc' := 41) 1 dX1_loseCell_40 (by decide) rfl ?_
        refine x_isub B (pc' := 42) dX1_loseCell_41 rfl ?_
        obtain ⟨S6, eS6, h⟩ := nm_elim h
        refine s_put13 B (pc' := 45) wf_RX1_53 dX1_loseCell_42 rfl ?_
        refine s_wd eS6 ?_
        exact h45  _ _ _ h
  · replace h := ite_t hc2 h
    cases h
    exact ret (by exact Nat.le_of_ble_eq_true rfl) (by exact Nat.le_of_ble_eq_true rfl) dX1_loseCell_14
def f_X1_writeCell (p0 : Int32) (p1 : Int32) (S : OB) : Option OB :=
  bd (f_X1_runningNumber S) (fun (r1 : Int32) => nm (fun (S2 : OB) => nm (fun (S3 : OB) => nm (fun (S4 : OB) => nm (fun (S5 : OB) => nm (fun (S6 : OB) => nm (fun (S7 : OB) => nm (fun (S8 : OB) => some S8) (upd S7.1 10 ((S7.1 10) + (1 : Int32)), S7.2)) (upd S6.1 9 ((p0 + (1 : Int32)) - (p0 + (1 : Int32)) / (32 : Int32) * (32 : Int32)), S6.2)) (upd S5.1 4 ((S5.1 4) + (1 : Int32)), S5.2)) (S4.1, up2 S4.2 3 (pAt 32 (S4.2 3) (S4.1 4) p0))) (S3.1, up2 S3.2 2 (pAt 32 (S3.2 2) p0 p1))) (S2.1, up2 S2.2 1 (pAt 32 (S2.2 1) p0 p1))) (S.1, up2 S.2 0 (pAt 32 (S.2 0) p0 r1)))
abbrev rm_X1_writeCell : Room := { frames := 1, cells := 0, slots := 0, locals := 22 }
theorem np_X1_writeCell : yX1_writeCell.cls ≠ "java/lang/invoke/MethodHandle" ∧ yX1_writeCell.cls ≠ "java/lang/invoke/VarHandle" ∧ (parseMethodDescriptor yX1_writeCell.desc).map (fun d => d.parameters.length) = some 2 := by decide +kernel
set_option maxHeartbeats 4000000 in
set_option maxRecDepth 100000 in
theorem k_X1_writeCell (l : Launch) (D : va_G) (cs : CS) (a : Nat → Nat) (p0 : Int32) (p1 : Int32) (S : OB) {S9 : OB} (h : f_X1_writeCell p0 p1 S = some S9) : MV l D cs yX1_writeCell cX1_writeCell 3 rm_X1_writeCell [.ref (a 0), .int p0, .int p1] (wS cs.1 a S) (wS cs.1 a S9) := by
  refine MV_of (by decide) (Nat.le_of_ble_eq_true rfl) ?_
  rintro Γ rfl rfl rfl B ret
  show X Γ 3 0 0 0 [(0, .ref (a 0)), (1, .int p0), (2, .int p1)] [] (wS Γ.cs.1 a S)
  unfold f_X1_writeCell at h
  refine x_aload_n B (pc' := 1) 0 dX1_writeCell_0 rfl rfl rfl ?_
  refine s_ref0 B (pc' := 4) wf_RX1_9 dX1_writeCell_1 rfl ?_
  refine x_iload_n B (pc' := 5) 1 dX1_writeCell_4 rfl rfl rfl ?_
  refine x_aload_n B (pc' := 6) 0 dX1_writeCell_5 rfl rfl rfl ?_
  obtain ⟨r1, er1, h⟩ := bd_elim h
  refine x_selfVi B (pc' := 9) [] (k_X1_runningNumber _ _ _ a S er1) rfl rfl gv_RX1_70 rfl np_X1_runningNumber ⟨Nat.le_of_ble_eq_true rfl, Nat.le_of_ble_eq_true rfl⟩ ⟨by exact Nat.le_of_ble_eq_true rfl, by exact Nat.le_of_ble_eq_true rfl⟩ rfl (Nat.le_of_ble_eq_true rfl) dX1_writeCell_6 rfl ?_
  obtain ⟨S2, eS2, h⟩ := nm_elim h
  refine s_pAt0 B (pc' := 12) ⟨Nat.le_of_ble_eq_true rfl, Nat.le_of_ble_eq_true rfl⟩ ⟨Nat.le_of_ble_eq_true rfl, Nat.le_of_ble_eq_true rfl⟩ (Nat.le_of_ble_eq_true rfl) nw_RX1_66 dX1_writeCell_9 rfl ?_
  refine s_wd eS2 ?_
  refine x_aload_n B (pc' := 13) 0 dX1_writeCell_12 rfl rfl rfl ?_
  refine s_ref1 B (pc' := 16) wf_RX1_15 dX1_writeCell_13 rfl ?_
  refine x_iload_n B (pc' := 17) 1 dX1_writeCell_16 rfl rfl rfl ?_
  refine x_iload_n B (pc' := 18) 2 dX1_writeCell_17 rfl rfl rfl ?_
  obtain ⟨S3, eS3, h⟩ := nm_elim h
  refine s_pAt1 B (pc' := 21) ⟨Nat.le_of_ble_eq_true rfl, Nat.le_of_ble_eq_true rfl⟩ ⟨Nat.le_of_ble_eq_true rfl, Nat.le_of_ble_eq_true rfl⟩ (Nat.le_of_ble_eq_true rfl) nw_RX1_66 dX1_writeCell_18 rfl ?_
  refine s_wd eS3 ?_
  refine x_aload_n B (pc' := 22) 0 dX1_writeCell_21 rfl rfl rfl ?_
  refine s_ref2 B (pc' := 25) wf_RX1_18 dX1_writeCell_22 rfl ?_
  refine x_iload_n B (pc' := 26) 1 dX1_writeCell_25 rfl rfl rfl ?_
  refine x_iload_n B (pc' := 27) 2 dX1_writeCell_26 rfl rfl rfl ?_
  obtain ⟨S4, eS4, h⟩ := nm_elim h
  refine s_pAt2 B (pc' := 30) ⟨Nat.le_of_ble_eq_true rfl, Nat.le_of_ble_eq_true rfl⟩ ⟨Nat.le_of_ble_eq_true rfl, Nat.le_of_ble_eq_true rfl⟩ (Nat.le_of_ble_eq_true rfl) nw_RX1_66 dX1_writeCell_27 rfl ?_
  refine s_wd eS4 ?_
  refine x_aload_n B (pc' := 31) 0 dX1_writeCell_30 rfl rfl rfl ?_
  refine s_ref3 B (pc' := 34) wf_RX1_21 dX1_writeCell_31 rfl ?_
  refine x_aload_n B (pc' := 35) 0 dX1_writeCell_34 rfl rfl rfl ?_
  refine s_get4 B (pc' := 38) wf_RX1_24 dX1_writeCell_35 rfl ?_
  refine x_iload_n B (pc' := 39) 1 dX1_writeCell_38 rfl rfl rfl ?_
  obtain ⟨S5, eS5, h⟩ := nm_elim h
  refine s_pAt3 B (pc' := 42) ⟨Nat.le_of_ble_eq_true rfl, Nat.le_of_ble_eq_true rfl⟩ ⟨Nat.le_of_ble_eq_true rfl, Nat.le_of_ble_eq_true rfl⟩ (Nat.le_of_ble_eq_true rfl) nw_RX1_66 dX1_writeCell_39 rfl ?_
  refine s_wd eS5 ?_
  refine x_aload_n B (pc' := 43) 0 dX1_writeCell_42 rfl rfl rfl ?_
  refine x_dup B (pc' := 44) dX1_writeCell_43 rfl rfl ?_
  refine s_get4 B (pc' := 47) wf_RX1_24 dX1_writeCell_44 rfl ?_
  refine x_iconst B (pc' := 48) 1 dX1_writeCell_47 (by decide) rfl ?_
  refine x_iadd B (pc' := 49) dX1_writeCell_48 rfl ?_
  obtain ⟨S6, eS6, h⟩ := nm_elim h
  refine s_put4 B (pc' := 52) wf_RX1_24 dX1_writeCell_49 rfl ?_
  refine s_wd eS6 ?_
  refine x_aload_n B (pc' := 53) 0 dX1_writeCell_52 rfl rfl rfl ?_
  refine x_iload_n B (pc' := 54) 1 dX1_writeCell_53 rfl rfl rfl ?_
  refine x_iconst B (pc' := 55) 1 dX1_writeCell_54 (by decide) rfl ?_
  refine x_iadd B (pc' := 56) dX1_writeCell_55 rfl ?_
  refine x_bipush B (pc' := 58) 32 dX1_writeCell_56 (by decide) rfl ?_
  refine x_irem B (pc' := 59) dX1_writeCell_58 (by decide) rfl ?_
  obtain ⟨S7, eS7, h⟩ := nm_elim h
  refine s_put9 B (pc' := 62) wf_RX1_41 dX1_writeCell_59 rfl ?_
  refine s_wd eS7 ?_
  refine x_aload_n B (pc' := 63) 0 dX1_writeCell_62 rfl rfl rfl ?_
  refine x_dup B (pc' := 64) dX1_writeCell_63 rfl rfl ?_
  refine s_get10 B (pc' := 67) wf_RX1_44 dX1_writeCell_64 rfl ?_
  refine x_iconst B (pc' := 68) 1 dX1_writeCell_67 (by decide) rfl ?_
  refine x_iadd B (pc' := 69) dX1_writeCell_68 rfl ?_
  obtain ⟨S8, eS8, h⟩ := nm_elim h
  refine s_put10 B (pc' := 72) wf_RX1_44 dX1_writeCell_69 rfl ?_
  refine s_wd eS8 ?_
  cases h
  exact ret (by exact Nat.le_of_ble_eq_true rfl) (by exact Nat.le_of_ble_eq_true rfl) dX1_writeCell_72
def b_X1_speakTimes_5 (K5 : Int32 → Int32 → Int32 → Int32 → OB → Option (Int32 × OB)) (x1 : Int32) (x2 : Int32) (x3 : Int32) (x4 : Int32) (S : OB) : Option (Int32 × OB) :=
  if x1 ≤ x4 then (some (x3, S)) else (bd (f_X1_firstWritable S) (fun (r2 : Int32) => if r2 = ((-1) : Int32) then (some (((-1) : Int32), S)) else (bd (f_X1_loseCell r2 S) (fun (S4 : OB) => bd (f_X1_writeCell r2 x2 S4) (fun (S5 : OB) => nm (fun (v6 : Int32) => K5 x1 x2 r2 v6 S5) (x4 + 1))))))
def f_X1_speakTimes (p0 : Int32) (p1 : Int32) (S : OB) : Option (Int32 × OB) :=
  lpf5 (b_X1_speakTimes_5) FU p0 p1 ((-1) : Int32) (0 : Int32) S
abbrev rm_X1_speakTimes : Room := { frames := 3, cells := 0, slots := 0, locals := 69 }
theorem np_X1_speakTimes : yX1_speakTimes.cls ≠ "java/lang/invoke/MethodHandle" ∧ yX1_speakTimes.cls ≠ "java/lang/invoke/VarHandle" ∧ (parseMethodDescriptor yX1_speakTimes.desc).map (fun d => d.parameters.length) = some 2 := by decide +kernel
set_option maxHeartbeats 4000000 in
set_option maxRecDepth 100000 in
theorem k_X1_speakTimes (l : Launch) (D : va_G) (cs : CS) (a : Nat → Nat) (p0 : Int32) (p1 : Int32) (S : OB) {r9 : Int32} {S9 : OB} (h : f_X1_speakTimes p0 p1 S = some (r9, S9)) : MI l D cs yX1_speakTimes cX1_speakTimes 5 .int rm_X1_speakTimes [.ref (a 0), .int p0, .int p1] (wS cs.1 a S) r9 (wS cs.1 a S9) := by
  refine MI_of (by decide) (Nat.le_of_ble_eq_true rfl) ?_
  rintro Γ rfl rfl rfl B ret
  show X Γ 5 0 0 0 [(0, .ref (a 0)), (1, .int p0), (2, .int p1)] [] (wS Γ.cs.1 a S)
  have h5 : ∀ (n9 : Nat) (x1 : Int32) (x2 : Int32) (x3 : Int32) (x4 : Int32) (S : OB), lpf5 (b_X1_speakTimes_5) n9 x1 x2 x3 x4 S = some (r9, S9) → X Γ 5 0 0 5 [(0, .ref (a 0)), (1, .int x1), (2, .int x2), (3, .int x3), (4, .int x4)] [] (wS Γ.cs.1 a S) := by
    refine lpf5_ind (fun K5 hK5 x1 x2 x3 x4 S h => ?_)
    unfold b_X1_speakTimes_5 at h
    refine x_iload B (pc' := 7) 4 dX1_speakTimes_5 rfl rfl ?_
    refine x_iload_n B (pc' := 8) 1 dX1_speakTimes_7 rfl rfl rfl ?_
    refine x_icmp_ge B 40 11 dX1_speakTimes_8 (by decide) rfl (fun hc1 => ?_) (fun hc1 => ?_)
    · replace h := ite_t hc1 h
      refine x_iload_n B (pc' := 41) 3 dX1_speakTimes_40 rfl rfl rfl ?_
      obtain ⟨h1, h2⟩ := some2 h
      subst h1
      subst h2
      exact ret rfl (by exact Nat.le_of_ble_eq_true rfl) (by exact Nat.le_of_ble_eq_true rfl) dX1_speakTimes_41
    · replace h := ite_f hc1 h
      refine x_aload_n B (pc' := 12) 0 dX1_speakTimes_11 rfl rfl rfl ?_
      obtain ⟨r2, er2, h⟩ := bd_elim h
      refine x_selfVi B (pc' := 15) [] (k_X1_firstWritable _ _ _ a S er2) rfl rfl gv_RX1_98 rfl np_X1_firstWritable ⟨Nat.le_of_ble_eq_true rfl, Nat.le_of_ble_eq_true rfl⟩ ⟨by exact Nat.le_of_ble_eq_true rfl, by exact Nat.le_of_ble_eq_true rfl⟩ rfl (Nat.le_of_ble_eq_true rfl) dX1_speakTimes_12 rfl ?_
      refine x_istore_n B (pc' := 16) [1, 2, 3, 0, 4] [(0, .ref (a 0)), (1, .int x1), (2, .int x2), (3, .int r2), (4, .int x4)] dX1_speakTimes_15 rfl (by decide) rfl rfl ?_
      refine x_iload_n B (pc' := 17) 3 dX1_speakTimes_16 rfl rfl rfl ?_
      refine x_iconst B (pc' := 18) (-1) dX1_speakTimes_17 (by decide) rfl ?_
      refine x_icmp_ne B 23 21 dX1_speakTimes_18 (by decide) rfl (fun hc3 => ?_) (fun hc3 => ?_)
      · replace h := ite_f hc3 h
        refine x_aload_n B (pc' := 24) 0 dX1_speakTimes_23 rfl rfl rfl ?_
        refine x_iload_n B (pc' := 25) 3 dX1_speakTimes_24 rfl rfl rfl ?_
        obtain ⟨S4, eS4, h⟩ := bd_elim h
        refine x_selfVv B (pc' := 28) [.int r2] (k_X1_loseCell _ _ _ a r2 S eS4) rfl rfl gv_RX1_101 rfl np_X1_loseCell ⟨Nat.le_of_ble_eq_true rfl, Nat.le_of_ble_eq_true rfl⟩ ⟨by exact Nat.le_of_ble_eq_true rfl, by exact Nat.le_of_ble_eq_true rfl⟩ rfl (Nat.le_of_ble_eq_true rfl) dX1_speakTimes_25 rfl ?_
        refine x_aload_n B (pc' := 29) 0 dX1_speakTimes_28 rfl rfl rfl ?_
        refine x_iload_n B (pc' := 30) 3 dX1_speakTimes_29 rfl rfl rfl ?_
        refine x_iload_n B (pc' := 31) 2 dX1_speakTimes_30 rfl rfl rfl ?_
        obtain ⟨S5, eS5, h⟩ := bd_elim h
        refine x_selfVv B (pc' := 34) [.int r2, .int x2] (k_X1_writeCell _ _ _ a r2 x2 S4 eS5) rfl rfl gv_RX1_104 rfl np_X1_writeCell ⟨Nat.le_of_ble_eq_true rfl, Nat.le_of_ble_eq_true rfl⟩ ⟨by exact Nat.le_of_ble_eq_true rfl, by exact Nat.le_of_ble_eq_true rfl⟩ rfl (Nat.le_of_ble_eq_true rfl) dX1_speakTimes_31 rfl ?_
        obtain ⟨v6, ev6, h⟩ := nm_elim h
        refine x_iinc B (pc' := 37) v6 4 [1, 2, 3, 4, 0] [(0, .ref (a 0)), (1, .int x1), (2, .int x2), (3, .int r2), (4, .int v6)] dX1_speakTimes_34 rfl (by rw [ev6]; rfl) (by decide) rfl rfl ?_
        refine x_goto B (pc' := 5) dX1_speakTimes_37 (by decide) ?_
        exact hK5 _ _ _ _ _ h
      · replace h := ite_t hc3 h
        refine x_iconst B (pc' := 22) (-1) dX1_speakTimes_21 (by decide) rfl ?_
        obtain ⟨h1, h2⟩ := some2 h
        subst h1
        subst h2
        exact ret rfl (by exact Nat.le_of_ble_eq_true rfl) (by exact Nat.le_of_ble_eq_true rfl) dX1_speakTimes_22
  unfold f_X1_speakTimes at h
  refine x_iconst B (pc' := 1) (-1) dX1_speakTimes_0 (by decide) rfl ?_
  refine x_istore_n B (pc' := 2) [1, 2, 3, 0] [(0, .ref (a 0)), (1, .int p0), (2, .int p1), (3, .int ((-1) : Int32))] dX1_speakTimes_1 rfl (by decide) rfl rfl ?_
  refine x_iconst B (pc' := 3) 0 dX1_speakTimes_2 (by decide) rfl ?_
  refine x_istore B (pc' := 5) [1, 2, 3, 4, 0] [(0, .ref (a 0)), (1, .int p0), (2, .int p1), (3, .int ((-1) : Int32)), (4, .int (0 : Int32))] dX1_speakTimes_3 (by decide) rfl rfl ?_
  exact h5  _ _ _ _ _ _ h
def f_X1_bringPlayer (p0 : Int32) (S : OB) : Option OB :=
  nm (fun (S1 : OB) => nm (fun (S2 : OB) => some S2) (upd S1.1 13 (0 : Int32), S1.2)) (upd S.1 12 p0, S.2)
abbrev rm_X1_bringPlayer : Room := { frames := 0, cells := 0, slots := 0, locals := 0 }
theorem np_X1_bringPlayer : yX1_bringPlayer.cls ≠ "java/lang/invoke/MethodHandle" ∧ yX1_bringPlayer.cls ≠ "java/lang/invoke/VarHandle" ∧ (parseMethodDescriptor yX1_bringPlayer.desc).map (fun d => d.parameters.length) = some 1 := by decide +kernel
set_option maxHeartbeats 4000000 in
set_option maxRecDepth 100000 in
theorem k_X1_bringPlayer (l : Launch) (D : va_G) (cs : CS) (a : Nat → Nat) (p0 : Int32) (S : OB) {S9 : OB} (h : f_X1_bringPlayer p0 S = some S9) : MV l D cs yX1_bringPlayer cX1_bringPlayer 2 rm_X1_bringPlayer [.ref (a 0), .int p0] (wS cs.1 a S) (wS cs.1 a S9) := by
  refine MV_of (by decide) (Nat.le_of_ble_eq_true rfl) ?_
  rintro Γ rfl rfl rfl B ret
  show X Γ 2 0 0 0 [(0, .ref (a 0)), (1, .int p0)] [] (wS Γ.cs.1 a S)
  unfold f_X1_bringPlayer at h
  refine x_aload_n B (pc' := 1) 0 dX1_bringPlayer_0 rfl rfl rfl ?_
  refine x_iload_n B (pc' := 2) 1 dX1_bringPlayer_1 rfl rfl rfl ?_
  obtain ⟨S1, eS1, h⟩ := nm_elim h
  refine s_put12 B (pc' := 5) wf_RX1_50 dX1_bringPlayer_2 rfl ?_
  refine s_wd eS1 ?_
  refine x_aload_n B (pc' := 6) 0 dX1_bringPlayer_5 rfl rfl rfl ?_
  refine x_iconst B (pc' := 7) 0 dX1_bringPlayer_6 (by decide) rfl ?_
  obtain ⟨S2, eS2, h⟩ := nm_elim h
  refine s_put13 B (pc' := 10) wf_RX1_53 dX1_bringPlayer_7 rfl ?_
  refine s_wd eS2 ?_
  cases h
  exact ret (by exact Nat.le_of_ble_eq_true rfl) (by exact Nat.le_of_ble_eq_true rfl) dX1_bringPlayer_10
def f_X1_playCell (S : OB) : Option (Int32 × OB) :=
  bd (f_X1_cellAt (S.1 12) (S.1 13) S) (fun (r1 : Int32) => if r1 = ((-1) : Int32) then (some (((-1) : Int32), S)) else (nm (fun (S3 : OB) => some ((vAt 32 (S3.2 1) r1), S3)) (upd S.1 13 ((S.1 13) + (1 : Int32)), S.2)))
abbrev rm_X1_playCell : Room := { frames := 2, cells := 0, slots := 0, locals := 47 }
theorem np_X1_playCell : yX1_playCell.cls ≠ "java/lang/invoke/MethodHandle" ∧ yX1_playCell.cls ≠ "java/lang/invoke/VarHandle" ∧ (parseMethodDescriptor yX1_playCell.desc).map (fun d => d.parameters.length) = some 0 := by decide +kernel
set_option maxHeartbeats 4000000 in
set_option maxRecDepth 100000 in
theorem k_X1_playCell (l : Launch) (D : va_G) (cs : CS) (a : Nat → Nat) (S : OB) {r9 : Int32} {S9 : OB} (h : f_X1_playCell S = some (r9, S9)) : MI l D cs yX1_playCell cX1_playCell 2 .int rm_X1_playCell [.ref (a 0)] (wS cs.1 a S) r9 (wS cs.1 a S9) := by
  refine MI_of (by decide) (Nat.le_of_ble_eq_true rfl) ?_
  rintro Γ rfl rfl rfl B ret
  show X Γ 2 0 0 0 [(0, .ref (a 0))] [] (wS Γ.cs.1 a S)
  unfold f_X1_playCell at h
  refine x_aload_n B (pc' := 1) 0 dX1_playCell_0 rfl rfl rfl ?_
  refine x_aload_n B (pc' := 2) 0 dX1_playCell_1 rfl rfl rfl ?_
  refine s_get12 B (pc' := 5) wf_RX1_50 dX1_playCell_2 rfl ?_
  refine x_aload_n B (pc' := 6) 0 dX1_playCell_5 rfl rfl rfl ?_
  refine s_get13 B (pc' := 9) wf_RX1_53 dX1_playCell_6 rfl ?_
  obtain ⟨r1, er1, h⟩ := bd_elim h
  refine x_selfVi B (pc' := 12) [.int (S.1 12), .int (S.1 13)] (k_X1_cellAt _ _ _ a (S.1 12) (S.1 13) S er1) rfl rfl gv_RX1_111 rfl np_X1_cellAt ⟨Nat.le_of_ble_eq_true rfl, Nat.le_of_ble_eq_true rfl⟩ ⟨by exact Nat.le_of_ble_eq_true rfl, by exact Nat.le_of_ble_eq_true rfl⟩ rfl (Nat.le_of_ble_eq_true rfl) dX1_playCell_9 rfl ?_
  refine x_istore_n B (pc' := 13) [1, 0] [(0, .ref (a 0)), (1, .int r1)] dX1_playCell_12 rfl (by decide) rfl rfl ?_
  refine x_iload_n B (pc' := 14) 1 dX1_playCell_13 rfl rfl rfl ?_
  refine x_iconst B (pc' := 15) (-1) dX1_playCell_14 (by decide) rfl ?_
  refine x_icmp_ne B 20 18 dX1_playCell_15 (by decide) rfl (fun hc2 => ?_) (fun hc2 => ?_)
  · replace h := ite_f hc2 h
    refine x_aload_n B (pc' := 21) 0 dX1_playCell_20 rfl rfl rfl ?_
    refine x_dup B (pc' := 22) dX1_playCell_21 rfl rfl ?_
    refine s_get13 B (pc' := 25) wf_RX1_53 dX1_playCell_22 rfl ?_
    refine x_iconst B (pc' := 26) 1 dX1_playCell_25 (by decide) rfl ?_
    refine x_iadd B (pc' := 27) dX1_playCell_26 rfl ?_
    obtain ⟨S3, eS3, h⟩ := nm_elim h
    refine s_put13 B (pc' := 30) wf_RX1_53 dX1_playCell_27 rfl ?_
    refine s_wd eS3 ?_
    refine x_aload_n B (pc' := 31) 0 dX1_playCell_30 rfl rfl rfl ?_
    refine s_ref1 B (pc' := 34) wf_RX1_15 dX1_playCell_31 rfl ?_
    refine x_iload_n B (pc' := 35) 1 dX1_playCell_34 rfl rfl rfl ?_
    refine s_vAt1 B (pc' := 38) ⟨Nat.le_of_ble_eq_true rfl, Nat.le_of_ble_eq_true rfl⟩ ⟨Nat.le_of_ble_eq_true rfl, Nat.le_of_ble_eq_true rfl⟩ (Nat.le_of_ble_eq_true rfl) nw_RX1_62 dX1_playCell_35 rfl ?_
    obtain ⟨h1, h2⟩ := some2 h
    subst h1
    subst h2
    exact ret rfl (by exact Nat.le_of_ble_eq_true rfl) (by exact Nat.le_of_ble_eq_true rfl) dX1_playCell_38
  · replace h := ite_t hc2 h
    refine x_iconst B (pc' := 19) (-1) dX1_playCell_18 (by decide) rfl ?_
    obtain ⟨h1, h2⟩ := some2 h
    subst h1
    subst h2
    exact ret rfl (by exact Nat.le_of_ble_eq_true rfl) (by exact Nat.le_of_ble_eq_true rfl) dX1_playCell_19
def f_X1_stepBack (p0 : Int32) (S : OB) : Option (Int32 × OB) :=
  nm (fun (S1 : OB) => some ((S1.1 13), S1)) (upd S.1 13 (if (0 : Int32) < ((S.1 13) - p0) then ((S.1 13) - p0) else (0 : Int32)), S.2)
abbrev rm_X1_stepBack : Room := { frames := 1, cells := 0, slots := 0, locals := 24 }
theorem np_X1_stepBack : yX1_stepBack.cls ≠ "java/lang/invoke/MethodHandle" ∧ yX1_stepBack.cls ≠ "java/lang/invoke/VarHandle" ∧ (parseMethodDescriptor yX1_stepBack.desc).map (fun d => d.parameters.length) = some 1 := by decide +kernel
set_option maxHeartbeats 4000000 in
set_option maxRecDepth 100000 in
theorem k_X1_stepBack (l : Launch) (D : va_G) (cs : CS) (a : Nat → Nat) (p0 : Int32) (S : OB) {r9 : Int32} {S9 : OB} (h : f_X1_stepBack p0 S = some (r9, S9)) : MI l D cs yX1_stepBack cX1_stepBack 2 .int rm_X1_stepBack [.ref (a 0), .int p0] (wS cs.1 a S) r9 (wS cs.1 a S9) := by
  refine MI_of (by decide) (Nat.le_of_ble_eq_true rfl) ?_
  rintro Γ rfl rfl rfl B ret
  show X Γ 2 0 0 0 [(0, .ref (a 0)), (1, .int p0)] [] (wS Γ.cs.1 a S)
  unfold f_X1_stepBack at h
  refine x_aload_n B (pc' := 1) 0 dX1_stepBack_0 rfl rfl rfl ?_
  refine x_iconst B (pc' := 2) 0 dX1_stepBack_1 (by decide) rfl ?_
  refine x_aload_n B (pc' := 3) 0 dX1_stepBack_2 rfl rfl rfl ?_
  refine s_get13 B (pc' := 6) wf_RX1_53 dX1_stepBack_3 rfl ?_
  refine x_iload_n B (pc' := 7) 1 dX1_stepBack_6 rfl rfl rfl ?_
  refine x_isub B (pc' := 8) dX1_stepBack_7 rfl ?_
  refine x_mmax B (pc' := 11) mw_RX1_115 mw_max1 mw_max2 mw_max3 ⟨Nat.le_of_ble_eq_true rfl, Nat.le_of_ble_eq_true rfl⟩ ⟨Nat.le_of_ble_eq_true rfl, Nat.le_of_ble_eq_true rfl⟩ dX1_stepBack_8 rfl ?_
  obtain ⟨S1, eS1, h⟩ := nm_elim h
  refine s_put13 B (pc' := 14) wf_RX1_53 dX1_stepBack_11 rfl ?_
  refine s_wd eS1 ?_
  refine x_aload_n B (pc' := 15) 0 dX1_stepBack_14 rfl rfl rfl ?_
  refine s_get13 B (pc' := 18) wf_RX1_53 dX1_stepBack_15 rfl ?_
  obtain ⟨h1, h2⟩ := some2 h
  subst h1
  subst h2
  exact ret rfl (by exact Nat.le_of_ble_eq_true rfl) (by exact Nat.le_of_ble_eq_true rfl) dX1_stepBack_18
def b_X1_correctedCells_4 (S : OB) (K4 : Int32 → Int32 → Option Int32) (x1 : Int32) (x2 : Int32) : Option Int32 :=
  if (32 : Int32) ≤ x2 then (some x1) else (if (vAt 32 (S.2 0) x2) = ((-1) : Int32) then (nm (fun (v3 : Int32) => K4 x1 v3) (x2 + 1)) else (if (vAt 32 (S.2 1) x2) = (vAt 32 (S.2 2) x2) then (nm (fun (v5 : Int32) => K4 x1 v5) (x2 + 1)) else (nm (fun (v6 : Int32) => nm (fun (v7 : Int32) => K4 v6 v7) (x2 + 1)) (x1 + 1))))
def f_X1_correctedCells (S : OB) : Option Int32 :=
  lpf2 (b_X1_correctedCells_4 S) FU (0 : Int32) (0 : Int32)
abbrev rm_X1_correctedCells : Room := { frames := 1, cells := 0, slots := 0, locals := 22 }
theorem np_X1_correctedCells : yX1_correctedCells.cls ≠ "java/lang/invoke/MethodHandle" ∧ yX1_correctedCells.cls ≠ "java/lang/invoke/VarHandle" ∧ (parseMethodDescriptor yX1_correctedCells.desc).map (fun d => d.parameters.length) = some 0 := by decide +kernel
set_option maxHeartbeats 4000000 in
set_option maxRecDepth 100000 in
theorem k_X1_correctedCells (l : Launch) (D : va_G) (cs : CS) (a : Nat → Nat) (S : OB) {r9 : Int32} (h : f_X1_correctedCells S = some r9) : MI l D cs yX1_correctedCells cX1_correctedCells 3 .int rm_X1_correctedCells [.ref (a 0)] (wS cs.1 a S) r9 (wS cs.1 a S) := by
  refine MI_of (by decide) (Nat.le_of_ble_eq_true rfl) ?_
  rintro Γ rfl rfl rfl B ret
  show X Γ 3 0 0 0 [(0, .ref (a 0))] [] (wS Γ.cs.1 a S)
  have h4 : ∀ (n9 : Nat) (x1 : Int32) (x2 : Int32), lpf2 (b_X1_correctedCells_4 S) n9 x1 x2 = some r9 → X Γ 3 0 0 4 [(0, .ref (a 0)), (1, .int x1), (2, .int x2)] [] (wS Γ.cs.1 a S) := by
    refine lpf2_ind (fun K4 hK4 x1 x2 h => ?_)
    unfold b_X1_correctedCells_4 at h
    refine x_iload_n B (pc' := 5) 2 dX1_correctedCells_4 rfl rfl rfl ?_
    refine x_bipush B (pc' := 7) 32 dX1_correctedCells_5 (by decide) rfl ?_
    refine x_icmp_ge B 50 10 dX1_correctedCells_7 (by decide) rfl (fun hc1 => ?_) (fun hc1 => ?_)
    · replace h := ite_t hc1 h
      refine x_iload_n B (pc' := 51) 1 dX1_correctedCells_50 rfl rfl rfl ?_
      have h1 := (Option.some.inj h)
      subst h1
      exact ret rfl (by exact Nat.le_of_ble_eq_true rfl) (by exact Nat.le_of_ble_eq_true rfl) dX1_correctedCells_51
    · replace h := ite_f hc1 h
      refine x_aload_n B (pc' := 11) 0 dX1_correctedCells_10 rfl rfl rfl ?_
      refine s_ref0 B (pc' := 14) wf_RX1_9 dX1_correctedCells_11 rfl ?_
      refine x_iload_n B (pc' := 15) 2 dX1_correctedCells_14 rfl rfl rfl ?_
      refine s_vAt0 B (pc' := 18) ⟨Nat.le_of_ble_eq_true rfl, Nat.le_of_ble_eq_true rfl⟩ ⟨Nat.le_of_ble_eq_true rfl, Nat.le_of_ble_eq_true rfl⟩ (Nat.le_of_ble_eq_true rfl) nw_RX1_62 dX1_correctedCells_15 rfl ?_
      refine x_iconst B (pc' := 19) (-1) dX1_correctedCells_18 (by decide) rfl ?_
      refine x_icmp_eq B 44 22 dX1_correctedCells_19 (by decide) rfl (fun hc2 => ?_) (fun hc2 => ?_)
      · replace h := ite_t hc2 h
        obtain ⟨v3, ev3, h⟩ := nm_elim h
        refine x_iinc B (pc' := 47) v3 2 [1, 2, 0] [(0, .ref (a 0)), (1, .int x1), (2, .int v3)] dX1_correctedCells_44 rfl (by rw [ev3]; rfl) (by decide) rfl rfl ?_
        refine x_goto B (pc' := 4) dX1_correctedCells_47 (by decide) ?_
        exact hK4 _ _ h
      · replace h := ite_f hc2 h
        refine x_aload_n B (pc' := 23) 0 dX1_correctedCells_22 rfl rfl rfl ?_
        refine s_ref1 B (pc' := 26) wf_RX1_15 dX1_correctedCells_23 rfl ?_
        refine x_iload_n B (pc' := 27) 2 dX1_correctedCells_26 rfl rfl rfl ?_
        refine s_vAt1 B (pc' := 30) ⟨Nat.le_of_ble_eq_true rfl, Nat.le_of_ble_eq_true rfl⟩ ⟨Nat.le_of_ble_eq_true rfl, Nat.le_of_ble_eq_true rfl⟩ (Nat.le_of_ble_eq_true rfl) nw_RX1_62 dX1_correctedCells_27 rfl ?_
        refine x_aload_n B (pc' := 31) 0 dX1_correctedCells_30 rfl rfl rfl ?_
        refine s_ref2 B (pc' := 34) wf_RX1_18 dX1_correctedCells_31 rfl ?_
        refine x_iload_n B (pc' := 35) 2 dX1_correctedCells_34 rfl rfl rfl ?_
        refine s_vAt2 B (pc' := 38) ⟨Nat.le_of_ble_eq_true rfl, Nat.le_of_ble_eq_true rfl⟩ ⟨Nat.le_of_ble_eq_true rfl, Nat.le_of_ble_eq_true rfl⟩ (Nat.le_of_ble_eq_true rfl) nw_RX1_62 dX1_correctedCells_35 rfl ?_
        refine x_icmp_eq B 44 41 dX1_correctedCells_38 (by decide) rfl (fun hc4 => ?_) (fun hc4 => ?_)
        · replace h := ite_t hc4 h
          obtain ⟨v5, ev5, h⟩ := nm_elim h
          refine x_iinc B (pc' := 47) v5 2 [1, 2, 0] [(0, .ref (a 0)), (1, .int x1), (2, .int v5)] dX1_correctedCells_44 rfl (by rw [ev5]; rfl) (by decide) rfl rfl ?_
          refine x_goto B (pc' := 4) dX1_correctedCells_47 (by decide) ?_
          exact hK4 _ _ h
        · replace h := ite_f hc4 h
          obtain ⟨v6, ev6, h⟩ := nm_elim h
          refine x_iinc B (pc' := 44) v6 1 [1, 0, 2] [(0, .ref (a 0)), (1, .int v6), (2, .int x2)] dX1_correctedCells_41 rfl (by rw [ev6]; rfl) (by decide) rfl rfl ?_
          obtain ⟨v7, ev7, h⟩ := nm_elim h
          refine x_iinc B (pc' := 47) v7 2 [1, 2, 0] [(0, .ref (a 0)), (1, .int v6), (2, .int v7)] dX1_correctedCells_44 rfl (by rw [ev7]; rfl) (by decide) rfl rfl ?_
          refine x_goto B (pc' := 4) dX1_correctedCells_47 (by decide) ?_
          exact hK4 _ _ h
  unfold f_X1_correctedCells at h
  refine x_iconst B (pc' := 1) 0 dX1_correctedCells_0 (by decide) rfl ?_
  refine x_istore_n B (pc' := 2) [1, 0] [(0, .ref (a 0)), (1, .int (0 : Int32))] dX1_correctedCells_1 rfl (by decide) rfl rfl ?_
  refine x_iconst B (pc' := 3) 0 dX1_correctedCells_2 (by decide) rfl ?_
  refine x_istore_n B (pc' := 4) [1, 2, 0] [(0, .ref (a 0)), (1, .int (0 : Int32)), (2, .int (0 : Int32))] dX1_correctedCells_3 rfl (by decide) rfl rfl ?_
  exact h4  _ _ _ h
end
section
/-! words of the code of methods that may throw; only their ends without a throw are walked here: the law never lets one throw -/
def bxr {α β : Type} (o : Option (String ⊕ α)) (k : α → Option (String ⊕ β)) : Option (String ⊕ β) := match o with
  | none => none
  | some (.inl e) => some (.inl e)
  | some (.inr a) => k a
def bxw {α β σ : Type} (S : σ) (o : Option (String ⊕ α)) (k : α → Option ((String ⊕ β) × σ)) : Option ((String ⊕ β) × σ) := match o with
  | none => none
  | some (.inl e) => some (.inl e, S)
  | some (.inr a) => k a
def bn {α β : Type} (o : Option (String ⊕ α)) (k : α → Option β) : Option β := match o with
  | none => none
  | some (.inl _) => none
  | some (.inr a) => k a
def bn2 {α σ β : Type} (o : Option ((String ⊕ α) × σ)) (k : α → σ → Option β) : Option β := match o with
  | none => none
  | some (.inl _, _) => none
  | some (.inr a, S) => k a S
theorem bxr_in {α β : Type} {o : Option (String ⊕ α)} {k : α → Option (String ⊕ β)} {r : β} (h : bxr o k = some (.inr r)) : ∃ a, o = some (.inr a) ∧ k a = some (.inr r) := by
  rcases o with _ | (e | a)
  · cases h
  · cases h
  · exact ⟨a, rfl, h⟩
theorem bxw_in {α β σ : Type} {S S9 : σ} {o : Option (String ⊕ α)} {k : α → Option ((String ⊕ β) × σ)} {r : β} (h : bxw S o k = some (.inr r, S9)) : ∃ a, o = some (.inr a) ∧ k a = some (.inr r, S9) := by
  rcases o with _ | (e | a)
  · cases h
  · cases h
  · exact ⟨a, rfl, h⟩
theorem bn_elim {α β : Type} {o : Option (String ⊕ α)} {k : α → Option β} {r : β} (h : bn o k = some r) : ∃ a, o = some (.inr a) ∧ k a = some r := by
  rcases o with _ | (e | a)
  · cases h
  · cases h
  · exact ⟨a, rfl, h⟩
theorem bn2_elim {α β σ : Type} {o : Option ((String ⊕ α) × σ)} {k : α → σ → Option β} {r : β} (h : bn2 o k = some r) : ∃ a S, o = some (.inr a, S) ∧ k a S = some r := by
  rcases o with _ | ⟨(e | a), S⟩
  · cases h
  · cases h
  · exact ⟨a, S, rfl, h⟩
theorem b_nowRi {Γ : Ctx} {cc : ByteArray} {nL k n pc pc' : Nat} {R0 : Room} {lv : List (Nat × Value)} {st st0 : List Value} (B : CX Γ cc nL RX2 R0) {y : MethodName} {index maxL : Nat} {bytes : ByteArray} {rt : FieldType} {r : Int32} {rm : Room} {a : Nat → Nat → Nat} {S : BO} (As : List Value) (hM : MI Γ.l Γ.D Γ.cs y bytes maxL rt rm (.ref (a 1 0) :: As) (wS Γ.cs.1 (a 1) (S.2.1)) r (wS Γ.cs.1 (a 1) (S.2.1))) (hg : GoodIn GW (wsV RX2 index RX1 y (.code y bytes maxL (some rt) :: GW))) (hcc : y.cls = RX1) (hd : y.cls ≠ "java/lang/invoke/MethodHandle" ∧ y.cls ≠ "java/lang/invoke/VarHandle" ∧ (parseMethodDescriptor y.desc).map (fun d => d.parameters.length) = some As.length) (hR : rm.frames + 1 ≤ R0.frames ∧ 8 + (maxL + 11) + rm.locals ≤ R0.locals) (hroom : k + rm.cells ≤ R0.cells ∧ n + rm.slots ≤ R0.slots) (hstk : st0 = As.reverse ++ .ref (a 1 0) :: st) (hsum : (st.map fun v => v.category).sum ≤ 8) (d : decode cc pc = .ok (.invokevirtual index, 3)) (hp : pc + 3 = pc') (kk : X Γ nL (k + rm.cells) (n + rm.slots) pc' lv (.int r :: st) (wB Γ.cs a S)) : X Γ nL k n pc lv st0 (wB Γ.cs a S) :=
  x_GVi (ws' := wB Γ.cs a S) (wr := (wB Γ.cs a S).take 2 ++ (wB Γ.cs a S).drop 9) B As hM [2, 3, 4, 5, 6, 7, 8] [0, 1, 9, 10, 11, 12, 13, 14, 15, 16, 17, 18, 19, 20, 21, 22, 23, 24, 25, 26, 27, 28, 29, 30, 31, 32, 33, 34, 35, 36, 37, 38, 39, 40, 41, 42, 43, 44, 45, 46, 47, 48, 49, 50, 51, 52] [0, 1, 46, 47, 48, 49, 50, 51, 52, 2, 3, 4, 5, 6, 7, 8, 9, 10, 11, 12, 13, 14, 15, 16, 17, 18, 19, 20, 21, 22, 23, 24, 25, 26, 27, 28, 29, 30, 31, 32, 33, 34, 35, 36, 37, 38, 39, 40, 41, 42, 43, 44, 45] rfl rfl rfl rfl (by decide) rfl rfl rfl rfl hg hcc hd hR hroom hstk hsum d hp kk
theorem b_nowVi {Γ : Ctx} {cc : ByteArray} {nL k n pc pc' : Nat} {R0 : Room} {lv : List (Nat × Value)} {st st0 : List Value} (B : CX Γ cc nL RX2 R0) {y : MethodName} {index maxL : Nat} {bytes : ByteArray} {rt : FieldType} {r : Int32} {rm : Room} {a : Nat → Nat → Nat} {S : BO} {S1 : OB} (As : List Value) (hM : MI Γ.l Γ.D Γ.cs y bytes maxL rt rm (.ref (a 1 0) :: As) (wS Γ.cs.1 (a 1) (S.2.1)) r (wS Γ.cs.1 (a 1) S1)) (hg : GoodIn GW (wsV RX2 index RX1 y (.code y bytes maxL (some rt) :: GW))) (hcc : y.cls = RX1) (hd : y.cls ≠ "java/lang/invoke/MethodHandle" ∧ y.cls ≠ "java/lang/invoke/VarHandle" ∧ (parseMethodDescriptor y.desc).map (fun d => d.parameters.length) = some As.length) (hR : rm.frames + 1 ≤ R0.frames ∧ 8 + (maxL + 11) + rm.locals ≤ R0.locals) (hroom : k + rm.cells ≤ R0.cells ∧ n + rm.slots ≤ R0.slots) (hstk : st0 = As.reverse ++ .ref (a 1 0) :: st) (hsum : (st.map fun v => v.category).sum ≤ 8) (d : decode cc pc = .ok (.invokevirtual index, 3)) (hp : pc + 3 = pc') (kk : X Γ nL (k + rm.cells) (n + rm.slots) pc' lv (.int r :: st) (wB Γ.cs a (S.1, S1, S.2.2))) : X Γ nL k n pc lv st0 (wB Γ.cs a S) :=
  x_GVi (ws' := wB Γ.cs a (S.1, S1, S.2.2)) (wr := (wB Γ.cs a S).take 2 ++ (wB Γ.cs a S).drop 9) B As hM [2, 3, 4, 5, 6, 7, 8] [0, 1, 9, 10, 11, 12, 13, 14, 15, 16, 17, 18, 19, 20, 21, 22, 23, 24, 25, 26, 27, 28, 29, 30, 31, 32, 33, 34, 35, 36, 37, 38, 39, 40, 41, 42, 43, 44, 45, 46, 47, 48, 49, 50, 51, 52] [0, 1, 46, 47, 48, 49, 50, 51, 52, 2, 3, 4, 5, 6, 7, 8, 9, 10, 11, 12, 13, 14, 15, 16, 17, 18, 19, 20, 21, 22, 23, 24, 25, 26, 27, 28, 29, 30, 31, 32, 33, 34, 35, 36, 37, 38, 39, 40, 41, 42, 43, 44, 45] rfl rfl rfl rfl (by decide) rfl rfl rfl rfl hg hcc hd hR hroom hstk hsum d hp kk
theorem b_nowVv {Γ : Ctx} {cc : ByteArray} {nL k n pc pc' : Nat} {R0 : Room} {lv : List (Nat × Value)} {st st0 : List Value} (B : CX Γ cc nL RX2 R0) {y : MethodName} {index maxL : Nat} {bytes : ByteArray} {rm : Room} {a : Nat → Nat → Nat} {S : BO} {S1 : OB} (As : List Value) (hM : MV Γ.l Γ.D Γ.cs y bytes maxL rm (.ref (a 1 0) :: As) (wS Γ.cs.1 (a 1) (S.2.1)) (wS Γ.cs.1 (a 1) S1)) (hg : GoodIn GW (wsV RX2 index RX1 y (.code y bytes maxL none :: GW))) (hcc : y.cls = RX1) (hd : y.cls ≠ "java/lang/invoke/MethodHandle" ∧ y.cls ≠ "java/lang/invoke/VarHandle" ∧ (parseMethodDescriptor y.desc).map (fun d => d.parameters.length) = some As.length) (hR : rm.frames + 1 ≤ R0.frames ∧ 8 + (maxL + 11) + rm.locals ≤ R0.locals) (hroom : k + rm.cells ≤ R0.cells ∧ n + rm.slots ≤ R0.slots) (hstk : st0 = As.reverse ++ .ref (a 1 0) :: st) (hsum : (st.map fun v => v.category).sum ≤ 8) (d : decode cc pc = .ok (.invokevirtual index, 3)) (hp : pc + 3 = pc') (kk : X Γ nL (k + rm.cells) (n + rm.slots) pc' lv st (wB Γ.cs a (S.1, S1, S.2.2))) : X Γ nL k n pc lv st0 (wB Γ.cs a S) :=
  x_GVv (ws' := wB Γ.cs a (S.1, S1, S.2.2)) (wr := (wB Γ.cs a S).take 2 ++ (wB Γ.cs a S).drop 9) B As hM [2, 3, 4, 5, 6, 7, 8] [0, 1, 9, 10, 11, 12, 13, 14, 15, 16, 17, 18, 19, 20, 21, 22, 23, 24, 25, 26, 27, 28, 29, 30, 31, 32, 33, 34, 35, 36, 37, 38, 39, 40, 41, 42, 43, 44, 45, 46, 47, 48, 49, 50, 51, 52] [0, 1, 46, 47, 48, 49, 50, 51, 52, 2, 3, 4, 5, 6, 7, 8, 9, 10, 11, 12, 13, 14, 15, 16, 17, 18, 19, 20, 21, 22, 23, 24, 25, 26, 27, 28, 29, 30, 31, 32, 33, 34, 35, 36, 37, 38, 39, 40, 41, 42, 43, 44, 45] rfl rfl rfl rfl (by decide) rfl rfl rfl rfl hg hcc hd hR hroom hstk hsum d hp kk
theorem b_txtRi {Γ : Ctx} {cc : ByteArray} {nL k n pc pc' : Nat} {R0 : Room} {lv : List (Nat × Value)} {st st0 : List Value} (B : CX Γ cc nL RX2 R0) {y : MethodName} {index maxL : Nat} {bytes : ByteArray} {rt : FieldType} {r : Int32} {rm : Room} {a : Nat → Nat → Nat} {S : BO} (As : List Value) (hM : MI Γ.l Γ.D Γ.cs y bytes maxL rt rm (.ref (a 2 0) :: As) (wT Γ.cs.1 (a 2) (S.2.2.2)) r (wT Γ.cs.1 (a 2) (S.2.2.2))) (hg : GoodIn GW (wsV RX2 index RX0 y (.code y bytes maxL (some rt) :: GW))) (hcc : y.cls = RX0) (hd : y.cls ≠ "java/lang/invoke/MethodHandle" ∧ y.cls ≠ "java/lang/invoke/VarHandle" ∧ (parseMethodDescriptor y.desc).map (fun d => d.parameters.length) = some As.length) (hR : rm.frames + 1 ≤ R0.frames ∧ 8 + (maxL + 11) + rm.locals ≤ R0.locals) (hroom : k + rm.cells ≤ R0.cells ∧ n + rm.slots ≤ R0.slots) (hstk : st0 = As.reverse ++ .ref (a 2 0) :: st) (hsum : (st.map fun v => v.category).sum ≤ 8) (d : decode cc pc = .ok (.invokevirtual index, 3)) (hp : pc + 3 = pc') (kk : X Γ nL (k + rm.cells) (n + rm.slots) pc' lv (.int r :: st) (wB Γ.cs a S)) : X Γ nL k n pc lv st0 (wB Γ.cs a S) :=
  x_GVi (ws' := wB Γ.cs a S) (wr := (wB Γ.cs a S).take 9 ++ (wB Γ.cs a S).drop 11) B As hM [9, 10] [0, 1, 2, 3, 4, 5, 6, 7, 8, 11, 12, 13, 14, 15, 16, 17, 18, 19, 20, 21, 22, 23, 24, 25, 26, 27, 28, 29, 30, 31, 32, 33, 34, 35, 36, 37, 38, 39, 40, 41, 42, 43, 44, 45, 46, 47, 48, 49, 50, 51, 52] [0, 1, 2, 3, 4, 5, 6, 7, 8, 51, 52, 9, 10, 11, 12, 13, 14, 15, 16, 17, 18, 19, 20, 21, 22, 23, 24, 25, 26, 27, 28, 29, 30, 31, 32, 33, 34, 35, 36, 37, 38, 39, 40, 41, 42, 43, 44, 45, 46, 47, 48, 49, 50] rfl rfl rfl rfl (by decide) rfl rfl rfl rfl hg hcc hd hR hroom hstk hsum d hp kk
theorem b_txtVi {Γ : Ctx} {cc : ByteArray} {nL k n pc pc' : Nat} {R0 : Room} {lv : List (Nat × Value)} {st st0 : List Value} (B : CX Γ cc nL RX2 R0) {y : MethodName} {index maxL : Nat} {bytes : ByteArray} {rt : FieldType} {r : Int32} {rm : Room} {a : Nat → Nat → Nat} {S : BO} {S1 : OB} (As : List Value) (hM : MI Γ.l Γ.D Γ.cs y bytes maxL rt rm (.ref (a 2 0) :: As) (wT Γ.cs.1 (a 2) (S.2.2.2)) r (wT Γ.cs.1 (a 2) S1)) (hg : GoodIn GW (wsV RX2 index RX0 y (.code y bytes maxL (some rt) :: GW))) (hcc : y.cls = RX0) (hd : y.cls ≠ "java/lang/invoke/MethodHandle" ∧ y.cls ≠ "java/lang/invoke/VarHandle" ∧ (parseMethodDescriptor y.desc).map (fun d => d.parameters.length) = some As.length) (hR : rm.frames + 1 ≤ R0.frames ∧ 8 + (maxL + 11) + rm.locals ≤ R0.locals) (hroom : k + rm.cells ≤ R0.cells ∧ n + rm.slots ≤ R0.slots) (hstk : st0 = As.reverse ++ .ref (a 2 0) :: st) (hsum : (st.map fun v => v.category).sum ≤ 8) (d : decode cc pc = .ok (.invokevirtual index, 3)) (hp : pc + 3 = pc') (kk : X Γ nL (k + rm.cells) (n + rm.slots) pc' lv (.int r :: st) (wB Γ.cs a (S.1, S.2.1, S.2.2.1, S1))) : X Γ nL k n pc lv st0 (wB Γ.cs a S) :=
  x_GVi (ws' := wB Γ.cs a (S.1, S.2.1, S.2.2.1, S1)) (wr := (wB Γ.cs a S).take 9 ++ (wB Γ.cs a S).drop 11) B As hM [9, 10] [0, 1, 2, 3, 4, 5, 6, 7, 8, 11, 12, 13, 14, 15, 16, 17, 18, 19, 20, 21, 22, 23, 24, 25, 26, 27, 28, 29, 30, 31, 32, 33, 34, 35, 36, 37, 38, 39, 40, 41, 42, 43, 44, 45, 46, 47, 48, 49, 50, 51, 52] [0, 1, 2, 3, 4, 5, 6, 7, 8, 51, 52, 9, 10, 11, 12, 13, 14, 15, 16, 17, 18, 19, 20, 21, 22, 23, 24, 25, 26, 27, 28, 29, 30, 31, 32, 33, 34, 35, 36, 37, 38, 39, 40, 41, 42, 43, 44, 45, 46, 47, 48, 49, 50] rfl rfl rfl rfl (by decide) rfl rfl rfl rfl hg hcc hd hR hroom hstk hsum d hp kk
theorem b_txtVv {Γ : Ctx} {cc : ByteArray} {nL k n pc pc' : Nat} {R0 : Room} {lv : List (Nat × Value)} {st st0 : List Value} (B : CX Γ cc nL RX2 R0) {y : MethodName} {index maxL : Nat} {bytes : ByteArray} {rm : Room} {a : Nat → Nat → Nat} {S : BO} {S1 : OB} (As : List Value) (hM : MV Γ.l Γ.D Γ.cs y bytes maxL rm (.ref (a 2 0) :: As) (wT Γ.cs.1 (a 2) (S.2.2.2)) (wT Γ.cs.1 (a 2) S1)) (hg : GoodIn GW (wsV RX2 index RX0 y (.code y bytes maxL none :: GW))) (hcc : y.cls = RX0) (hd : y.cls ≠ "java/lang/invoke/MethodHandle" ∧ y.cls ≠ "java/lang/invoke/VarHandle" ∧ (parseMethodDescriptor y.desc).map (fun d => d.parameters.length) = some As.length) (hR : rm.frames + 1 ≤ R0.frames ∧ 8 + (maxL + 11) + rm.locals ≤ R0.locals) (hroom : k + rm.cells ≤ R0.cells ∧ n + rm.slots ≤ R0.slots) (hstk : st0 = As.reverse ++ .ref (a 2 0) :: st) (hsum : (st.map fun v => v.category).sum ≤ 8) (d : decode cc pc = .ok (.invokevirtual index, 3)) (hp : pc + 3 = pc') (kk : X Γ nL (k + rm.cells) (n + rm.slots) pc' lv st (wB Γ.cs a (S.1, S.2.1, S.2.2.1, S1))) : X Γ nL k n pc lv st0 (wB Γ.cs a S) :=
  x_GVv (ws' := wB Γ.cs a (S.1, S.2.1, S.2.2.1, S1)) (wr := (wB Γ.cs a S).take 9 ++ (wB Γ.cs a S).drop 11) B As hM [9, 10] [0, 1, 2, 3, 4, 5, 6, 7, 8, 11, 12, 13, 14, 15, 16, 17, 18, 19, 20, 21, 22, 23, 24, 25, 26, 27, 28, 29, 30, 31, 32, 33, 34, 35, 36, 37, 38, 39, 40, 41, 42, 43, 44, 45, 46, 47, 48, 49, 50, 51, 52] [0, 1, 2, 3, 4, 5, 6, 7, 8, 51, 52, 9, 10, 11, 12, 13, 14, 15, 16, 17, 18, 19, 20, 21, 22, 23, 24, 25, 26, 27, 28, 29, 30, 31, 32, 33, 34, 35, 36, 37, 38, 39, 40, 41, 42, 43, 44, 45, 46, 47, 48, 49, 50] rfl rfl rfl rfl (by decide) rfl rfl rfl rfl hg hcc hd hR hroom hstk hsum d hp kk
end
section
def wC (cA : ClassId) (a b : Nat → Nat) (S T : OB) : va_W := wS cA a S ++ wS cA b T
section SLOT
variable {Γ : Ctx} {cc : ByteArray} {nL k n pc pc' : Nat} {own : String} {R0 : Room} {lv : List (Nat × Value)} {st : List Value} {ws ws' : va_W}
theorem x_ifnull (B : CX Γ cc nL own R0) {x : Nat} {off : Int} (d : decode cc pc = .ok (.ifnull off, 3)) (hp : pc + 3 = pc') (kk : X Γ nL k n pc' lv st ws) : X Γ nL k n pc lv (.ref x :: st) ws := by
  obtain ⟨p, l, e, R, s, m, args, below, meth, c, Q, A, D, cs⟩ := Γ
  subst hp
  intro H locs ls hP hD hS hl
  exact lv_ifnull B.1.1 B.1.2.1 d (kk H locs ls hP hD hS hl)
theorem x_alenR (B : CX Γ cc nL own R0) {a N : Nat} {f : Nat → Option Nat} (v : Int32) (q0 : Nat) (he : ws[q0]? = some (a, .inl (Γ.cs.2.2, N, .inr (.inr (.inr (.inr f)))))) (hv : nI N = v) (d : decode cc pc = .ok (.arraylength, 1)) (hp : pc + 1 = pc') (kk : X Γ nL k n pc' lv (.int v :: st) ws) : X Γ nL k n pc lv (.ref a :: st) ws := by
  obtain ⟨p, l, e, R, s, m, args, below, meth, c, Q, A, D, cs⟩ := Γ
  subst hp
  intro H locs ls hP hD hS hl
  exact va_alen B.1.1 B.1.2.1 B.2.1.1 hP q0 2 he rfl (by rw [← hv]; rfl) d (kk H locs ls hP hD hS hl)
theorem x_aald (B : CX Γ cc nL own R0) {a N : Nat} {f : Nat → Option Nat} {i : Int32} (q0 : Nat) (he : ws[q0]? = some (a, .inl (Γ.cs.2.2, N, .inr (.inr (.inr (.inr f)))))) (hi : vp_in i N) (d : decode cc pc = .ok (.aaload, 1)) (hp : pc + 1 = pc') (kk : X Γ nL k n pc' lv (va_rf (f i.toNatClampNeg) :: st) ws) : X Γ nL k n pc lv (.int i :: .ref a :: st) ws := by
  obtain ⟨p, l, e, R, s, m, args, below, meth, c, Q, A, D, cs⟩ := Γ
  subst hp
  intro H locs ls hP hD hS hl
  exact va_aldq B.1.1 B.1.2.1 B.2.1.1 hP q0 2 he rfl hi d (kk H locs ls hP hD hS hl)
theorem x_copy (B : CX Γ cc nL own R0) {index : Nat} (w1 : Cond.methodLink own index arraycopyName ∈ GW) (w2 : Cond.native arraycopyName ∈ GW) (w3 : Cond.static arraycopyName ∈ GW) (w4 : Cond.initialized "java/lang/System" ∈ GW) {a0 a1 n0 n1 : Nat} {f g : Nat → Int32} {z : Int32} (N q0 q1 : Nat) (he0 : ws[q0]? = some (a0, .inl (Γ.cs.1, n0, .inl f))) (he1 : ws[q1]? = some (a1, .inl (Γ.cs.1, n1, .inl g))) (hz : z.toNatClampNeg = N) (h3 : ¬ z < 0) (h4 : N ≤ n0) (h5 : N ≤ n1) (hR : 1 ≤ R0.frames ∧ (st.map fun v => v.category).sum + (nativeFrameWords "java/lang/System" "arraycopy" 5 + 11) ≤ R0.locals) (hws : ws.set q1 (a1, .inl (Γ.cs.1, n1, .inl (va_cpy f g 0 0 N))) = ws') (d : decode cc pc = .ok (.invokestatic index, 3)) (hp : pc + 3 = pc') (kk : X Γ nL k n pc' lv st ws') : X Γ nL k n pc lv (.int z :: .int 0 :: .ref a1 :: .int 0 :: .ref a0 :: st) ws := by
  obtain ⟨p, l, e, R, s, m, args, below, meth, c, Q, A, D, cs⟩ := Γ
  subst hp
  subst hws
  subst hz
  obtain ⟨hfix, hKN, hA, hlk, rfl⟩ := B
  intro H locs ls hP hD hS hl
  exact va_copyi hfix.1 hfix.2.1 (hfix.2.2.1.trans hl.1.symm) hfix.2.2.2.1 (hfix.2.2.2.2 _ w1) (hfix.2.2.2.2 _ w2) (hfix.2.2.2.2 _ w3) (hfix.2.2.2.2 _ w4) hKN.1 hP hD hS q0 q1 0 0 he0 he1 rfl rfl rfl (by decide) (by decide) h3 (by show 0 + _ ≤ _; omega) (by show 0 + _ ≤ _; omega) (fun i hi => rfl) hR.1 hR.2 d (fun H1 locs1 hP1 hD1 hS1 => kk H1 locs1 ls hP1 hD1 hS1 hl)
end SLOT
theorem wa1 : Cond.methodLink RX1 56 arraycopyName ∈ GW := List.mem_of_getElem? (i := 251) (by decide +kernel)
theorem wa2 : Cond.native arraycopyName ∈ GW := List.mem_of_getElem? (i := 252) (by decide +kernel)
theorem wa3 : Cond.static arraycopyName ∈ GW := List.mem_of_getElem? (i := 253) (by decide +kernel)
theorem wa4 : Cond.initialized "java/lang/System" ∈ GW := List.mem_of_getElem? (i := 254) (by decide +kernel)
theorem zb_fit {r : Int32} (h : r = 0 ∨ r = 1) : fits .boolean (.int r) = true := by rcases h with rfl | rfl <;> rfl
theorem c_wd {Γ : Ctx} {nL k n pc : Nat} {lv : List (Nat × Value)} {st : List Value} {a b : Nat → Nat} {S S' T : OB} (h : S' = S) (kk : X Γ nL k n pc lv st (wC Γ.cs.1 a b S' T)) : X Γ nL k n pc lv st (wC Γ.cs.1 a b S T) := h ▸ kk
/-- the state S with what T holds -/
def f_X1_copyFrom (S T : OB) : Option OB :=
  nm (fun (S1 : OB) => nm (fun (S2 : OB) => nm (fun (S3 : OB) => nm (fun (S4 : OB) => nm (fun (S5 : OB) => nm (fun (S6 : OB) => nm (fun (S7 : OB) => nm (fun (S8 : OB) => zb (T.1 8) (nm (fun (S9 : OB) => nm (fun (S10 : OB) => nm (fun (S11 : OB) => nm (fun (S12 : OB) => nm (fun (S13 : OB) => nm (fun (S14 : OB) => some S14) (upd S13.1 13 (T.1 13), S13.2)) (upd S12.1 12 (T.1 12), S12.2)) (upd S11.1 11 (T.1 11), S11.2)) (upd S10.1 10 (T.1 10), S10.2)) (upd S9.1 9 (T.1 9), S9.2)) (upd S8.1 8 (T.1 8), S8.2))) (upd S7.1 7 (T.1 7), S7.2)) (S6.1, up2 S6.2 6 (va_cpy (T.2 6) (S6.2 6) 0 0 10))) (S5.1, up2 S5.2 5 (va_cpy (T.2 5) (S5.2 5) 0 0 10))) (upd S4.1 4 (T.1 4), S4.2)) (S3.1, up2 S3.2 3 (va_cpy (T.2 3) (S3.2 3) 0 0 32))) (S2.1, up2 S2.2 2 (va_cpy (T.2 2) (S2.2 2) 0 0 32))) (S1.1, up2 S1.2 1 (va_cpy (T.2 1) (S1.2 1) 0 0 32))) (S.1, up2 S.2 0 (va_cpy (T.2 0) (S.2 0) 0 0 32))
abbrev rm_X1_copyFrom : Room := { frames := 1, cells := 0, slots := 0, locals := 64 }
theorem np_X1_copyFrom : yX1_copyFrom.cls ≠ "java/lang/invoke/MethodHandle" ∧ yX1_copyFrom.cls ≠ "java/lang/invoke/VarHandle" ∧ (parseMethodDescriptor yX1_copyFrom.desc).map (fun d => d.parameters.length) = some 1 := by decide +kernel
set_option maxHeartbeats 4000000 in
set_option maxRecDepth 100000 in
theorem k_X1_copyFrom (l : Launch) (D : va_G) (cs : CS) (a b : Nat → Nat) (S T : OB) {S9 : OB} (h : f_X1_copyFrom S T = some S9) : MV l D cs yX1_copyFrom cX1_copyFrom 2 rm_X1_copyFrom [.ref (a 0), .ref (b 0)] (wC cs.1 a b S T) (wC cs.1 a b S9 T) := by
  refine MV_of (by decide) (Nat.le_of_ble_eq_true rfl) ?_
  rintro Γ rfl rfl rfl B ret
  show X Γ 2 0 0 0 [(0, .ref (a 0)), (1, .ref (b 0))] [] (wC Γ.cs.1 a b S T)
  unfold f_X1_copyFrom at h
  refine x_aload_n B (pc' := 1) 1 dX1_copyFrom_0 rfl rfl rfl ?_
  refine x_getf B (pc' := 4) 7 0 rfl rfl inlX1 (by decide) wf_RX1_9 rfl dX1_copyFrom_1 rfl ?_
  refine x_iconst B (pc' := 5) 0 dX1_copyFrom_4 (by decide) rfl ?_
  refine x_aload_n B (pc' := 6) 0 dX1_copyFrom_5 rfl rfl rfl ?_
  refine x_getf B (pc' := 9) 0 0 rfl rfl inlX1 (by decide) wf_RX1_9 rfl dX1_copyFrom_6 rfl ?_
  refine x_iconst B (pc' := 10) 0 dX1_copyFrom_9 (by decide) rfl ?_
  refine x_bipush B (pc' := 12) 32 dX1_copyFrom_10 (by decide) rfl ?_
  obtain ⟨S1, eS1, h⟩ := nm_elim h
  refine x_copy (ws' := wC Γ.cs.1 a b (S.1, up2 S.2 0 (va_cpy (T.2 0) (S.2 0) 0 0 32)) T) B (pc' := 15) wa1 wa2 wa3 wa4 32 8 1 rfl rfl (by decide) (by decide) (by decide) (by decide) ⟨Nat.le_of_ble_eq_true rfl, Nat.le_of_ble_eq_true rfl⟩ rfl dX1_copyFrom_12 rfl ?_
  refine c_wd eS1 ?_
  refine x_aload_n B (pc' := 16) 1 dX1_copyFrom_15 rfl rfl rfl ?_
  refine x_getf B (pc' := 19) 7 1 rfl rfl inlX1 (by decide) wf_RX1_15 rfl dX1_copyFrom_16 rfl ?_
  refine x_iconst B (pc' := 20) 0 dX1_copyFrom_19 (by decide) rfl ?_
  refine x_aload_n B (pc' := 21) 0 dX1_copyFrom_20 rfl rfl rfl ?_
  refine x_getf B (pc' := 24) 0 1 rfl rfl inlX1 (by decide) wf_RX1_15 rfl dX1_copyFrom_21 rfl ?_
  refine x_iconst B (pc' := 25) 0 dX1_copyFrom_24 (by decide) rfl ?_
  refine x_bipush B (pc' := 27) 32 dX1_copyFrom_25 (by decide) rfl ?_
  obtain ⟨S2, eS2, h⟩ := nm_elim h
  refine x_copy (ws' := wC Γ.cs.1 a b (S1.1, up2 S1.2 1 (va_cpy (T.2 1) (S1.2 1) 0 0 32)) T) B (pc' := 30) wa1 wa2 wa3 wa4 32 9 2 rfl rfl (by decide) (by decide) (by decide) (by decide) ⟨Nat.le_of_ble_eq_true rfl, Nat.le_of_ble_eq_true rfl⟩ rfl dX1_copyFrom_27 rfl ?_
  refine c_wd eS2 ?_
  refine x_aload_n B (pc' := 31) 1 dX1_copyFrom_30 rfl rfl rfl ?_
  refine x_getf B (pc' := 34) 7 2 rfl rfl inlX1 (by decide) wf_RX1_18 rfl dX1_copyFrom_31 rfl ?_
  refine x_iconst B (pc' := 35) 0 dX1_copyFrom_34 (by decide) rfl ?_
  refine x_aload_n B (pc' := 36) 0 dX1_copyFrom_35 rfl rfl rfl ?_
  refine x_getf B (pc' := 39) 0 2 rfl rfl inlX1 (by decide) wf_RX1_18 rfl dX1_copyFrom_36 rfl ?_
  refine x_iconst B (pc' := 40) 0 dX1_copyFrom_39 (by decide) rfl ?_
  refine x_bipush B (pc' := 42) 32 dX1_copyFrom_40 (by decide) rfl ?_
  obtain ⟨S3, eS3, h⟩ := nm_elim h
  refine x_copy (ws' := wC Γ.cs.1 a b (S2.1, up2 S2.2 2 (va_cpy (T.2 2) (S2.2 2) 0 0 32)) T) B (pc' := 45) wa1 wa2 wa3 wa4 32 10 3 rfl rfl (by decide) (by decide) (by decide) (by decide) ⟨Nat.le_of_ble_eq_true rfl, Nat.le_of_ble_eq_true rfl⟩ rfl dX1_copyFrom_42 rfl ?_
  refine c_wd eS3 ?_
  refine x_aload_n B (pc' := 46) 1 dX1_copyFrom_45 rfl rfl rfl ?_
  refine x_getf B (pc' := 49) 7 3 rfl rfl inlX1 (by decide) wf_RX1_21 rfl dX1_copyFrom_46 rfl ?_
  refine x_iconst B (pc' := 50) 0 dX1_copyFrom_49 (by decide) rfl ?_
  refine x_aload_n B (pc' := 51) 0 dX1_copyFrom_50 rfl rfl rfl ?_
  refine x_getf B (pc' := 54) 0 3 rfl rfl inlX1 (by decide) wf_RX1_21 rfl dX1_copyFrom_51 rfl ?_
  refine x_iconst B (pc' := 55) 0 dX1_copyFrom_54 (by decide) rfl ?_
  refine x_bipush B (pc' := 57) 32 dX1_copyFrom_55 (by decide) rfl ?_
  obtain ⟨S4, eS4, h⟩ := nm_elim h
  refine x_copy (ws' := wC Γ.cs.1 a b (S3.1, up2 S3.2 3 (va_cpy (T.2 3) (S3.2 3) 0 0 32)) T) B (pc' := 60) wa1 wa2 wa3 wa4 32 11 4 rfl rfl (by decide) (by decide) (by decide) (by decide) ⟨Nat.le_of_ble_eq_true rfl, Nat.le_of_ble_eq_true rfl⟩ rfl dX1_copyFrom_57 rfl ?_
  refine c_wd eS4 ?_
  refine x_aload_n B (pc' := 61) 0 dX1_copyFrom_60 rfl rfl rfl ?_
  refine x_aload_n B (pc' := 62) 1 dX1_copyFrom_61 rfl rfl rfl ?_
  refine x_getf B (pc' := 65) 7 4 rfl rfl inlX1 (by decide) wf_RX1_24 rfl dX1_copyFrom_62 rfl ?_
  obtain ⟨S5, eS5, h⟩ := nm_elim h
  refine x_putf (ws' := wC Γ.cs.1 a b (upd S4.1 4 (T.1 4), S4.2) T) B (pc' := 68) 0 4 tyX1 tyX1_ok nmX1 rfl rfl inlX1 (by decide) wf_RX1_24 rfl rfl rfl (Nat.le_of_ble_eq_true rfl) rfl dX1_copyFrom_65 rfl ?_
  refine c_wd eS5 ?_
  refine x_aload_n B (pc' := 69) 1 dX1_copyFrom_68 rfl rfl rfl ?_
  refine x_getf B (pc' := 72) 7 5 rfl rfl inlX1 (by decide) wf_RX1_28 rfl dX1_copyFrom_69 rfl ?_
  refine x_iconst B (pc' := 73) 0 dX1_copyFrom_72 (by decide) rfl ?_
  refine x_aload_n B (pc' := 74) 0 dX1_copyFrom_73 rfl rfl rfl ?_
  refine x_getf B (pc' := 77) 0 5 rfl rfl inlX1 (by decide) wf_RX1_28 rfl dX1_copyFrom_74 rfl ?_
  refine x_iconst B (pc' := 78) 0 dX1_copyFrom_77 (by decide) rfl ?_
  refine x_bipush B (pc' := 80) 10 dX1_copyFrom_78 (by decide) rfl ?_
  obtain ⟨S6, eS6, h⟩ := nm_elim h
  refine x_copy (ws' := wC Γ.cs.1 a b (S5.1, up2 S5.2 5 (va_cpy (T.2 5) (S5.2 5) 0 0 10)) T) B (pc' := 83) wa1 wa2 wa3 wa4 10 12 5 rfl rfl (by decide) (by decide) (by decide) (by decide) ⟨Nat.le_of_ble_eq_true rfl, Nat.le_of_ble_eq_true rfl⟩ rfl dX1_copyFrom_80 rfl ?_
  refine c_wd eS6 ?_
  refine x_aload_n B (pc' := 84) 1 dX1_copyFrom_83 rfl rfl rfl ?_
  refine x_getf B (pc' := 87) 7 6 rfl rfl inlX1 (by decide) wf_RX1_31 rfl dX1_copyFrom_84 rfl ?_
  refine x_iconst B (pc' := 88) 0 dX1_copyFrom_87 (by decide) rfl ?_
  refine x_aload_n B (pc' := 89) 0 dX1_copyFrom_88 rfl rfl rfl ?_
  refine x_getf B (pc' := 92) 0 6 rfl rfl inlX1 (by decide) wf_RX1_31 rfl dX1_copyFrom_89 rfl ?_
  refine x_iconst B (pc' := 93) 0 dX1_copyFrom_92 (by decide) rfl ?_
  refine x_bipush B (pc' := 95) 10 dX1_copyFrom_93 (by decide) rfl ?_
  obtain ⟨S7, eS7, h⟩ := nm_elim h
  refine x_copy (ws' := wC Γ.cs.1 a b (S6.1, up2 S6.2 6 (va_cpy (T.2 6) (S6.2 6) 0 0 10)) T) B (pc' := 98) wa1 wa2 wa3 wa4 10 13 6 rfl rfl (by decide) (by decide) (by decide) (by decide) ⟨Nat.le_of_ble_eq_true rfl, Nat.le_of_ble_eq_true rfl⟩ rfl dX1_copyFrom_95 rfl ?_
  refine c_wd eS7 ?_
  refine x_aload_n B (pc' := 99) 0 dX1_copyFrom_98 rfl rfl rfl ?_
  refine x_aload_n B (pc' := 100) 1 dX1_copyFrom_99 rfl rfl rfl ?_
  refine x_getf B (pc' := 103) 7 7 rfl rfl inlX1 (by decide) wf_RX1_34 rfl dX1_copyFrom_100 rfl ?_
  obtain ⟨S8, eS8, h⟩ := nm_elim h
  refine x_putf (ws' := wC Γ.cs.1 a b (upd S7.1 7 (T.1 7), S7.2) T) B (pc' := 106) 0 7 tyX1 tyX1_ok nmX1 rfl rfl inlX1 (by decide) wf_RX1_34 rfl rfl rfl (Nat.le_of_ble_eq_true rfl) rfl dX1_copyFrom_103 rfl ?_
  refine c_wd eS8 ?_
  refine x_aload_n B (pc' := 107) 0 dX1_copyFrom_106 rfl rfl rfl ?_
  refine x_aload_n B (pc' := 108) 1 dX1_copyFrom_107 rfl rfl rfl ?_
  refine x_getf B (pc' := 111) 7 8 rfl rfl inlX1 (by decide) wf_RX1_37 rfl dX1_copyFrom_108 rfl ?_
  obtain ⟨hz, h⟩ := zb_elim h
  obtain ⟨S9, eS9, h⟩ := nm_elim h
  refine x_putf (ws' := wC Γ.cs.1 a b (upd S8.1 8 (T.1 8), S8.2) T) B (pc' := 114) 0 8 tyX1 tyX1_ok nmX1 rfl rfl inlX1 (by decide) wf_RX1_37 rfl (zb_nar hz) (zb_fit hz) (Nat.le_of_ble_eq_true rfl) rfl dX1_copyFrom_111 rfl ?_
  refine c_wd eS9 ?_
  refine x_aload_n B (pc' := 115) 0 dX1_copyFrom_114 rfl rfl rfl ?_
  refine x_aload_n B (pc' := 116) 1 dX1_copyFrom_115 rfl rfl rfl ?_
  refine x_getf B (pc' := 119) 7 9 rfl rfl inlX1 (by decide) wf_RX1_41 rfl dX1_copyFrom_116 rfl ?_
  obtain ⟨S10, eS10, h⟩ := nm_elim h
  refine x_putf (ws' := wC Γ.cs.1 a b (upd S9.1 9 (T.1 9), S9.2) T) B (pc' := 122) 0 9 tyX1 tyX1_ok nmX1 rfl rfl inlX1 (by decide) wf_RX1_41 rfl rfl rfl (Nat.le_of_ble_eq_true rfl) rfl dX1_copyFrom_119 rfl ?_
  refine c_wd eS10 ?_
  refine x_aload_n B (pc' := 123) 0 dX1_copyFrom_122 rfl rfl rfl ?_
  refine x_aload_n B (pc' := 124) 1 dX1_copyFrom_123 rfl rfl rfl ?_
  refine x_getf B (pc' := 127) 7 10 rfl rfl inlX1 (by decide) wf_RX1_44 rfl dX1_copyFrom_124 rfl ?_
  obtain ⟨S11, eS11, h⟩ := nm_elim h
  refine x_putf (ws' := wC Γ.cs.1 a b (upd S10.1 10 (T.1 10), S10.2) T) B (pc' := 130) 0 10 tyX1 tyX1_ok nmX1 rfl rfl inlX1 (by decide) wf_RX1_44 rfl rfl rfl (Nat.le_of_ble_eq_true rfl) rfl dX1_copyFrom_127 rfl ?_
  refine c_wd eS11 ?_
  refine x_aload_n B (pc' := 131) 0 dX1_copyFrom_130 rfl rfl rfl ?_
  refine x_aload_n B (pc' := 132) 1 dX1_copyFrom_131 rfl rfl rfl ?_
  refine x_getf B (pc' := 135) 7 11 rfl rfl inlX1 (by decide) wf_RX1_47 rfl dX1_copyFrom_132 rfl ?_
  obtain ⟨S12, eS12, h⟩ := nm_elim h
  refine x_putf (ws' := wC Γ.cs.1 a b (upd S11.1 11 (T.1 11), S11.2) T) B (pc' := 138) 0 11 tyX1 tyX1_ok nmX1 rfl rfl inlX1 (by decide) wf_RX1_47 rfl rfl rfl (Nat.le_of_ble_eq_true rfl) rfl dX1_copyFrom_135 rfl ?_
  refine c_wd eS12 ?_
  refine x_aload_n B (pc' := 139) 0 dX1_copyFrom_138 rfl rfl rfl ?_
  refine x_aload_n B (pc' := 140) 1 dX1_copyFrom_139 rfl rfl rfl ?_
  refine x_getf B (pc' := 143) 7 12 rfl rfl inlX1 (by decide) wf_RX1_50 rfl dX1_copyFrom_140 rfl ?_
  obtain ⟨S13, eS13, h⟩ := nm_elim h
  refine x_putf (ws' := wC Γ.cs.1 a b (upd S12.1 12 (T.1 12), S12.2) T) B (pc' := 146) 0 12 tyX1 tyX1_ok nmX1 rfl rfl inlX1 (by decide) wf_RX1_50 rfl rfl rfl (Nat.le_of_ble_eq_true rfl) rfl dX1_copyFrom_143 rfl ?_
  refine c_wd eS13 ?_
  refine x_aload_n B (pc' := 147) 0 dX1_copyFrom_146 rfl rfl rfl ?_
  refine x_aload_n B (pc' := 148) 1 dX1_copyFrom_147 rfl rfl rfl ?_
  refine x_getf B (pc' := 151) 7 13 rfl rfl inlX1 (by decide) wf_RX1_53 rfl dX1_copyFrom_148 rfl ?_
  obtain ⟨S14, eS14, h⟩ := nm_elim h
  refine x_putf (ws' := wC Γ.cs.1 a b (upd S13.1 13 (T.1 13), S13.2) T) B (pc' := 154) 0 13 tyX1 tyX1_ok nmX1 rfl rfl inlX1 (by decide) wf_RX1_53 rfl rfl rfl (Nat.le_of_ble_eq_true rfl) rfl dX1_copyFrom_151 rfl ?_
  refine c_wd eS14 ?_
  cases h
  exact ret (by exact Nat.le_of_ble_eq_true rfl) (by exact Nat.le_of_ble_eq_true rfl) dX1_copyFrom_154
theorem gv_RX2_212 : GoodIn GW (wsV RX2 212 RX1 yX1_copyFrom (.code yX1_copyFrom cX1_copyFrom 2 none :: GW)) := gw_app [Cond.methodLink RX2 212 yX1_copyFrom, Cond.instanceMethod yX1_copyFrom, Cond.selects RX1 yX1_copyFrom yX1_copyFrom, Cond.initialized RX1, Cond.code yX1_copyFrom cX1_copyFrom 2 none] [247, 248, 249, 11, 250] (by decide +kernel) (by decide +kernel)
set_option maxRecDepth 10000 in
theorem b_cpyS0 {Γ : Ctx} {cc : ByteArray} {nL k n pc pc' : Nat} {R0 : Room} {lv : List (Nat × Value)} {st : List Value} (B : CX Γ cc nL RX2 R0) {a : Nat → Nat → Nat} {S : BO} {S1 : OB} (h : f_X1_copyFrom (S.2.2.1 0) S.2.1 = some S1) (hR : 2 ≤ R0.frames ∧ 85 ≤ R0.locals) (hroom : k ≤ R0.cells ∧ n ≤ R0.slots) (hsum : (st.map fun v => v.category).sum ≤ 8) (d : decode cc pc = .ok (.invokevirtual 212, 3)) (hp : pc + 3 = pc') (kk : X Γ nL k n pc' lv st (wB Γ.cs a (S.1, S.2.1, (fun i => if i = 0 then S1 else S.2.2.1 i), S.2.2.2))) : X Γ nL k n pc lv (.ref (a 1 0) :: .ref (a 3 0) :: st) (wB Γ.cs a S) :=
  x_GVv (ws' := wB Γ.cs a (S.1, S.2.1, (fun i => if i = 0 then S1 else S.2.2.1 i), S.2.2.2)) (wr := (wB Γ.cs a S).take 2 ++ ((wB Γ.cs a S).drop 9).take 2 ++ (wB Γ.cs a S).drop 18) B [.ref (a 1 0)] (k_X1_copyFrom _ _ _ (a 3) (a 1) (S.2.2.1 0) S.2.1 h) [11, 12, 13, 14, 15, 16, 17, 2, 3, 4, 5, 6, 7, 8] [0, 1, 9, 10, 18, 19, 20, 21, 22, 23, 24, 25, 26, 27, 28, 29, 30, 31, 32, 33, 34, 35, 36, 37, 38, 39, 40, 41, 42, 43, 44, 45, 46, 47, 48, 49, 50, 51, 52] [0, 1, 46, 47, 48, 49, 50, 51, 52, 2, 3, 39, 40, 41, 42, 43, 44, 45, 4, 5, 6, 7, 8, 9, 10, 11, 12, 13, 14, 15, 16, 17, 18, 19, 20, 21, 22, 23, 24, 25, 26, 27, 28, 29, 30, 31, 32, 33, 34, 35, 36, 37, 38] rfl rfl rfl rfl (by decide) rfl rfl rfl rfl gv_RX2_212 rfl np_X1_copyFrom hR hroom rfl hsum d hp kk
set_option maxRecDepth 10000 in
theorem b_cpyS1 {Γ : Ctx} {cc : ByteArray} {nL k n pc pc' : Nat} {R0 : Room} {lv : List (Nat × Value)} {st : List Value} (B : CX Γ cc nL RX2 R0) {a : Nat → Nat → Nat} {S : BO} {S1 : OB} (h : f_X1_copyFrom (S.2.2.1 1) S.2.1 = some S1) (hR : 2 ≤ R0.frames ∧ 85 ≤ R0.locals) (hroom : k ≤ R0.cells ∧ n ≤ R0.slots) (hsum : (st.map fun v => v.category).sum ≤ 8) (d : decode cc pc = .ok (.invokevirtual 212, 3)) (hp : pc + 3 = pc') (kk : X Γ nL k n pc' lv st (wB Γ.cs a (S.1, S.2.1, (fun i => if i = 1 then S1 else S.2.2.1 i), S.2.2.2))) : X Γ nL k n pc lv (.ref (a 1 0) :: .ref (a 4 0) :: st) (wB Γ.cs a S) :=
  x_GVv (ws' := wB Γ.cs a (S.1, S.2.1, (fun i => if i = 1 then S1 else S.2.2.1 i), S.2.2.2)) (wr := (wB Γ.cs a S).take 2 ++ ((wB Γ.cs a S).drop 9).take 9 ++ (wB Γ.cs a S).drop 25) B [.ref (a 1 0)] (k_X1_copyFrom _ _ _ (a 4) (a 1) (S.2.2.1 1) S.2.1 h) [18, 19, 20, 21, 22, 23, 24, 2, 3, 4, 5, 6, 7, 8] [0, 1, 9, 10, 11, 12, 13, 14, 15, 16, 17, 25, 26, 27, 28, 29, 30, 31, 32, 33, 34, 35, 36, 37, 38, 39, 40, 41, 42, 43, 44, 45, 46, 47, 48, 49, 50, 51, 52] [0, 1, 46, 47, 48, 49, 50, 51, 52, 2, 3, 4, 5, 6, 7, 8, 9, 10, 39, 40, 41, 42, 43, 44, 45, 11, 12, 13, 14, 15, 16, 17, 18, 19, 20, 21, 22, 23, 24, 25, 26, 27, 28, 29, 30, 31, 32, 33, 34, 35, 36, 37, 38] rfl rfl rfl rfl (by decide) rfl rfl rfl rfl gv_RX2_212 rfl np_X1_copyFrom hR hroom rfl hsum d hp kk
set_option maxRecDepth 10000 in
theorem b_cpyS2 {Γ : Ctx} {cc : ByteArray} {nL k n pc pc' : Nat} {R0 : Room} {lv : List (Nat × Value)} {st : List Value} (B : CX Γ cc nL RX2 R0) {a : Nat → Nat → Nat} {S : BO} {S1 : OB} (h : f_X1_copyFrom (S.2.2.1 2) S.2.1 = some S1) (hR : 2 ≤ R0.frames ∧ 85 ≤ R0.locals) (hroom : k ≤ R0.cells ∧ n ≤ R0.slots) (hsum : (st.map fun v => v.category).sum ≤ 8) (d : decode cc pc = .ok (.invokevirtual 212, 3)) (hp : pc + 3 = pc') (kk : X Γ nL k n pc' lv st (wB Γ.cs a (S.1, S.2.1, (fun i => if i = 2 then S1 else S.2.2.1 i), S.2.2.2))) : X Γ nL k n pc lv (.ref (a 1 0) :: .ref (a 5 0) :: st) (wB Γ.cs a S) :=
  x_GVv (ws' := wB Γ.cs a (S.1, S.2.1, (fun i => if i = 2 then S1 else S.2.2.1 i), S.2.2.2)) (wr := (wB Γ.cs a S).take 2 ++ ((wB Γ.cs a S).drop 9).take 16 ++ (wB Γ.cs a S).drop 32) B [.ref (a 1 0)] (k_X1_copyFrom _ _ _ (a 5) (a 1) (S.2.2.1 2) S.2.1 h) [25, 26, 27, 28, 29, 30, 31, 2, 3, 4, 5, 6, 7, 8] [0, 1, 9, 10, 11, 12, 13, 14, 15, 16, 17, 18, 19, 20, 21, 22, 23, 24, 32, 33, 34, 35, 36, 37, 38, 39, 40, 41, 42, 43, 44, 45, 46, 47, 48, 49, 50, 51, 52] [0, 1, 46, 47, 48, 49, 50, 51, 52, 2, 3, 4, 5, 6, 7, 8, 9, 10, 11, 12, 13, 14, 15, 16, 17, 39, 40, 41, 42, 43, 44, 45, 18, 19, 20, 21, 22, 23, 24, 25, 26, 27, 28, 29, 30, 31, 32, 33, 34, 35, 36, 37, 38] rfl rfl rfl rfl (by decide) rfl rfl rfl rfl gv_RX2_212 rfl np_X1_copyFrom hR hroom rfl hsum d hp kk
set_option maxRecDepth 10000 in
theorem b_cpyS3 {Γ : Ctx} {cc : ByteArray} {nL k n pc pc' : Nat} {R0 : Room} {lv : List (Nat × Value)} {st : List Value} (B : CX Γ cc nL RX2 R0) {a : Nat → Nat → Nat} {S : BO} {S1 : OB} (h : f_X1_copyFrom (S.2.2.1 3) S.2.1 = some S1) (hR : 2 ≤ R0.frames ∧ 85 ≤ R0.locals) (hroom : k ≤ R0.cells ∧ n ≤ R0.slots) (hsum : (st.map fun v => v.category).sum ≤ 8) (d : decode cc pc = .ok (.invokevirtual 212, 3)) (hp : pc + 3 = pc') (kk : X Γ nL k n pc' lv st (wB Γ.cs a (S.1, S.2.1, (fun i => if i = 3 then S1 else S.2.2.1 i), S.2.2.2))) : X Γ nL k n pc lv (.ref (a 1 0) :: .ref (a 6 0) :: st) (wB Γ.cs a S) :=
  x_GVv (ws' := wB Γ.cs a (S.1, S.2.1, (fun i => if i = 3 then S1 else S.2.2.1 i), S.2.2.2)) (wr := (wB Γ.cs a S).take 2 ++ ((wB Γ.cs a S).drop 9).take 23 ++ (wB Γ.cs a S).drop 39) B [.ref (a 1 0)] (k_X1_copyFrom _ _ _ (a 6) (a 1) (S.2.2.1 3) S.2.1 h) [32, 33, 34, 35, 36, 37, 38, 2, 3, 4, 5, 6, 7, 8] [0, 1, 9, 10, 11, 12, 13, 14, 15, 16, 17, 18, 19, 20, 21, 22, 23, 24, 25, 26, 27, 28, 29, 30, 31, 39, 40, 41, 42, 43, 44, 45, 46, 47, 48, 49, 50, 51, 52] [0, 1, 46, 47, 48, 49, 50, 51, 52, 2, 3, 4, 5, 6, 7, 8, 9, 10, 11, 12, 13, 14, 15, 16, 17, 18, 19, 20, 21, 22, 23, 24, 39, 40, 41, 42, 43, 44, 45, 25, 26, 27, 28, 29, 30, 31, 32, 33, 34, 35, 36, 37, 38] rfl rfl rfl rfl (by decide) rfl rfl rfl rfl gv_RX2_212 rfl np_X1_copyFrom hR hroom rfl hsum d hp kk
set_option maxRecDepth 10000 in
theorem b_cpyS4 {Γ : Ctx} {cc : ByteArray} {nL k n pc pc' : Nat} {R0 : Room} {lv : List (Nat × Value)} {st : List Value} (B : CX Γ cc nL RX2 R0) {a : Nat → Nat → Nat} {S : BO} {S1 : OB} (h : f_X1_copyFrom (S.2.2.1 4) S.2.1 = some S1) (hR : 2 ≤ R0.frames ∧ 85 ≤ R0.locals) (hroom : k ≤ R0.cells ∧ n ≤ R0.slots) (hsum : (st.map fun v => v.category).sum ≤ 8) (d : decode cc pc = .ok (.invokevirtual 212, 3)) (hp : pc + 3 = pc') (kk : X Γ nL k n pc' lv st (wB Γ.cs a (S.1, S.2.1, (fun i => if i = 4 then S1 else S.2.2.1 i), S.2.2.2))) : X Γ nL k n pc lv (.ref (a 1 0) :: .ref (a 7 0) :: st) (wB Γ.cs a S) :=
  x_GVv (ws' := wB Γ.cs a (S.1, S.2.1, (fun i => if i = 4 then S1 else S.2.2.1 i), S.2.2.2)) (wr := (wB Γ.cs a S).take 2 ++ ((wB Γ.cs a S).drop 9).take 30 ++ (wB Γ.cs a S).drop 46) B [.ref (a 1 0)] (k_X1_copyFrom _ _ _ (a 7) (a 1) (S.2.2.1 4) S.2.1 h) [39, 40, 41, 42, 43, 44, 45, 2, 3, 4, 5, 6, 7, 8] [0, 1, 9, 10, 11, 12, 13, 14, 15, 16, 17, 18, 19, 20, 21, 22, 23, 24, 25, 26, 27, 28, 29, 30, 31, 32, 33, 34, 35, 36, 37, 38, 46, 47, 48, 49, 50, 51, 52] [0, 1, 46, 47, 48, 49, 50, 51, 52, 2, 3, 4, 5, 6, 7, 8, 9, 10, 11, 12, 13, 14, 15, 16, 17, 18, 19, 20, 21, 22, 23, 24, 25, 26, 27, 28, 29, 30, 31, 39, 40, 41, 42, 43, 44, 45, 32, 33, 34, 35, 36, 37, 38] rfl rfl rfl rfl (by decide) rfl rfl rfl rfl gv_RX2_212 rfl np_X1_copyFrom hR hroom rfl hsum d hp kk
set_option maxRecDepth 10000 in
theorem b_cpyS5 {Γ : Ctx} {cc : ByteArray} {nL k n pc pc' : Nat} {R0 : Room} {lv : List (Nat × Value)} {st : List Value} (B : CX Γ cc nL RX2 R0) {a : Nat → Nat → Nat} {S : BO} {S1 : OB} (h : f_X1_copyFrom (S.2.2.1 5) S.2.1 = some S1) (hR : 2 ≤ R0.frames ∧ 85 ≤ R0.locals) (hroom : k ≤ R0.cells ∧ n ≤ R0.slots) (hsum : (st.map fun v => v.category).sum ≤ 8) (d : decode cc pc = .ok (.invokevirtual 212, 3)) (hp : pc + 3 = pc') (kk : X Γ nL k n pc' lv st (wB Γ.cs a (S.1, S.2.1, (fun i => if i = 5 then S1 else S.2.2.1 i), S.2.2.2))) : X Γ nL k n pc lv (.ref (a 1 0) :: .ref (a 8 0) :: st) (wB Γ.cs a S) :=
  x_GVv (ws' := wB Γ.cs a (S.1, S.2.1, (fun i => if i = 5 then S1 else S.2.2.1 i), S.2.2.2)) (wr := (wB Γ.cs a S).take 2 ++ ((wB Γ.cs a S).drop 9).take 37 ++ (wB Γ.cs a S).drop 53) B [.ref (a 1 0)] (k_X1_copyFrom _ _ _ (a 8) (a 1) (S.2.2.1 5) S.2.1 h) [46, 47, 48, 49, 50, 51, 52, 2, 3, 4, 5, 6, 7, 8] [0, 1, 9, 10, 11, 12, 13, 14, 15, 16, 17, 18, 19, 20, 21, 22, 23, 24, 25, 26, 27, 28, 29, 30, 31, 32, 33, 34, 35, 36, 37, 38, 39, 40, 41, 42, 43, 44, 45] [0, 1, 46, 47, 48, 49, 50, 51, 52, 2, 3, 4, 5, 6, 7, 8, 9, 10, 11, 12, 13, 14, 15, 16, 17, 18, 19, 20, 21, 22, 23, 24, 25, 26, 27, 28, 29, 30, 31, 32, 33, 34, 35, 36, 37, 38, 39, 40, 41, 42, 43, 44, 45] rfl rfl rfl rfl (by decide) rfl rfl rfl rfl gv_RX2_212 rfl np_X1_copyFrom hR hroom rfl hsum d hp kk
theorem b_cpyS {Γ : Ctx} {cc : ByteArray} {nL k n pc pc' : Nat} {R0 : Room} {lv : List (Nat × Value)} {st : List Value} {j : Nat} (hj : j < 6) (B : CX Γ cc nL RX2 R0) {a : Nat → Nat → Nat} {S : BO} {S1 : OB} (h : f_X1_copyFrom (S.2.2.1 j) S.2.1 = some S1) (hR : 2 ≤ R0.frames ∧ 85 ≤ R0.locals) (hroom : k ≤ R0.cells ∧ n ≤ R0.slots) (hsum : (st.map fun v => v.category).sum ≤ 8) (d : decode cc pc = .ok (.invokevirtual 212, 3)) (hp : pc + 3 = pc') (kk : X Γ nL k n pc' lv st (wB Γ.cs a (S.1, S.2.1, (fun i => if i = j then S1 else S.2.2.1 i), S.2.2.2))) : X Γ nL k n pc lv (.ref (a 1 0) :: .ref (a (3 + j) 0) :: st) (wB Γ.cs a S) := by
  match j, hj with
  | 0, _ => exact b_cpyS0 B h hR hroom hsum d hp kk
  | 1, _ => exact b_cpyS1 B h hR hroom hsum d hp kk
  | 2, _ => exact b_cpyS2 B h hR hroom hsum d hp kk
  | 3, _ => exact b_cpyS3 B h hR hroom hsum d hp kk
  | 4, _ => exact b_cpyS4 B h hR hroom hsum d hp kk
  | 5, _ => exact b_cpyS5 B h hR hroom hsum d hp kk
  | j + 6, hj => exact absurd hj (by omega)
set_option maxRecDepth 10000 in
theorem b_cpyU0 {Γ : Ctx} {cc : ByteArray} {nL k n pc pc' : Nat} {R0 : Room} {lv : List (Nat × Value)} {st : List Value} (B : CX Γ cc nL RX2 R0) {a : Nat → Nat → Nat} {S : BO} {S1 : OB} (h : f_X1_copyFrom S.2.1 (S.2.2.1 0) = some S1) (hR : 2 ≤ R0.frames ∧ 85 ≤ R0.locals) (hroom : k ≤ R0.cells ∧ n ≤ R0.slots) (hsum : (st.map fun v => v.category).sum ≤ 8) (d : decode cc pc = .ok (.invokevirtual 212, 3)) (hp : pc + 3 = pc') (kk : X Γ nL k n pc' lv st (wB Γ.cs a (S.1, S1, S.2.2))) : X Γ nL k n pc lv (.ref (a 3 0) :: .ref (a 1 0) :: st) (wB Γ.cs a S) :=
  x_GVv (ws' := wB Γ.cs a (S.1, S1, S.2.2)) (wr := (wB Γ.cs a S).take 2 ++ ((wB Γ.cs a S).drop 9).take 2 ++ (wB Γ.cs a S).drop 18) B [.ref (a 3 0)] (k_X1_copyFrom _ _ _ (a 1) (a 3) S.2.1 (S.2.2.1 0) h) [2, 3, 4, 5, 6, 7, 8, 11, 12, 13, 14, 15, 16, 17] [0, 1, 9, 10, 18, 19, 20, 21, 22, 23, 24, 25, 26, 27, 28, 29, 30, 31, 32, 33, 34, 35, 36, 37, 38, 39, 40, 41, 42, 43, 44, 45, 46, 47, 48, 49, 50, 51, 52] [0, 1, 39, 40, 41, 42, 43, 44, 45, 2, 3, 46, 47, 48, 49, 50, 51, 52, 4, 5, 6, 7, 8, 9, 10, 11, 12, 13, 14, 15, 16, 17, 18, 19, 20, 21, 22, 23, 24, 25, 26, 27, 28, 29, 30, 31, 32, 33, 34, 35, 36, 37, 38] rfl rfl rfl rfl (by decide) rfl rfl rfl rfl gv_RX2_212 rfl np_X1_copyFrom hR hroom rfl hsum d hp kk
set_option maxRecDepth 10000 in
theorem b_cpyU1 {Γ : Ctx} {cc : ByteArray} {nL k n pc pc' : Nat} {R0 : Room} {lv : List (Nat × Value)} {st : List Value} (B : CX Γ cc nL RX2 R0) {a : Nat → Nat → Nat} {S : BO} {S1 : OB} (h : f_X1_copyFrom S.2.1 (S.2.2.1 1) = some S1) (hR : 2 ≤ R0.frames ∧ 85 ≤ R0.locals) (hroom : k ≤ R0.cells ∧ n ≤ R0.slots) (hsum : (st.map fun v => v.category).sum ≤ 8) (d : decode cc pc = .ok (.invokevirtual 212, 3)) (hp : pc + 3 = pc') (kk : X Γ nL k n pc' lv st (wB Γ.cs a (S.1, S1, S.2.2))) : X Γ nL k n pc lv (.ref (a 4 0) :: .ref (a 1 0) :: st) (wB Γ.cs a S) :=
  x_GVv (ws' := wB Γ.cs a (S.1, S1, S.2.2)) (wr := (wB Γ.cs a S).take 2 ++ ((wB Γ.cs a S).drop 9).take 9 ++ (wB Γ.cs a S).drop 25) B [.ref (a 4 0)] (k_X1_copyFrom _ _ _ (a 1) (a 4) S.2.1 (S.2.2.1 1) h) [2, 3, 4, 5, 6, 7, 8, 18, 19, 20, 21, 22, 23, 24] [0, 1, 9, 10, 11, 12, 13, 14, 15, 16, 17, 25, 26, 27, 28, 29, 30, 31, 32, 33, 34, 35, 36, 37, 38, 39, 40, 41, 42, 43, 44, 45, 46, 47, 48, 49, 50, 51, 52] [0, 1, 39, 40, 41, 42, 43, 44, 45, 2, 3, 4, 5, 6, 7, 8, 9, 10, 46, 47, 48, 49, 50, 51, 52, 11, 12, 13, 14, 15, 16, 17, 18, 19, 20, 21, 22, 23, 24, 25, 26, 27, 28, 29, 30, 31, 32, 33, 34, 35, 36, 37, 38] rfl rfl rfl rfl (by decide) rfl rfl rfl rfl gv_RX2_212 rfl np_X1_copyFrom hR hroom rfl hsum d hp kk
set_option maxRecDepth 10000 in
theorem b_cpyU2 {Γ : Ctx} {cc : ByteArray} {nL k n pc pc' : Nat} {R0 : Room} {lv : List (Nat × Value)} {st : List Value} (B : CX Γ cc nL RX2 R0) {a : Nat → Nat → Nat} {S : BO} {S1 : OB} (h : f_X1_copyFrom S.2.1 (S.2.2.1 2) = some S1) (hR : 2 ≤ R0.frames ∧ 85 ≤ R0.locals) (hroom : k ≤ R0.cells ∧ n ≤ R0.slots) (hsum : (st.map fun v => v.category).sum ≤ 8) (d : decode cc pc = .ok (.invokevirtual 212, 3)) (hp : pc + 3 = pc') (kk : X Γ nL k n pc' lv st (wB Γ.cs a (S.1, S1, S.2.2))) : X Γ nL k n pc lv (.ref (a 5 0) :: .ref (a 1 0) :: st) (wB Γ.cs a S) :=
  x_GVv (ws' := wB Γ.cs a (S.1, S1, S.2.2)) (wr := (wB Γ.cs a S).take 2 ++ ((wB Γ.cs a S).drop 9).take 16 ++ (wB Γ.cs a S).drop 32) B [.ref (a 5 0)] (k_X1_copyFrom _ _ _ (a 1) (a 5) S.2.1 (S.2.2.1 2) h) [2, 3, 4, 5, 6, 7, 8, 25, 26, 27, 28, 29, 30, 31] [0, 1, 9, 10, 11, 12, 13, 14, 15, 16, 17, 18, 19, 20, 21, 22, 23, 24, 32, 33, 34, 35, 36, 37, 38, 39, 40, 41, 42, 43, 44, 45, 46, 47, 48, 49, 50, 51, 52] [0, 1, 39, 40, 41, 42, 43, 44, 45, 2, 3, 4, 5, 6, 7, 8, 9, 10, 11, 12, 13, 14, 15, 16, 17, 46, 47, 48, 49, 50, 51, 52, 18, 19, 20, 21, 22, 23, 24, 25, 26, 27, 28, 29, 30, 31, 32, 33, 34, 35, 36, 37, 38] rfl rfl rfl rfl (by decide) rfl rfl rfl rfl gv_RX2_212 rfl np_X1_copyFrom hR hroom rfl hsum d hp kk
set_option maxRecDepth 10000 in
theorem b_cpyU3 {Γ : Ctx} {cc : ByteArray} {nL k n pc pc' : Nat} {R0 : Room} {lv : List (Nat × Value)} {st : List Value} (B : CX Γ cc nL RX2 R0) {a : Nat → Nat → Nat} {S : BO} {S1 : OB} (h : f_X1_copyFrom S.2.1 (S.2.2.1 3) = some S1) (hR : 2 ≤ R0.frames ∧ 85 ≤ R0.locals) (hroom : k ≤ R0.cells ∧ n ≤ R0.slots) (hsum : (st.map fun v => v.category).sum ≤ 8) (d : decode cc pc = .ok (.invokevirtual 212, 3)) (hp : pc + 3 = pc') (kk : X Γ nL k n pc' lv st (wB Γ.cs a (S.1, S1, S.2.2))) : X Γ nL k n pc lv (.ref (a 6 0) :: .ref (a 1 0) :: st) (wB Γ.cs a S) :=
  x_GVv (ws' := wB Γ.cs a (S.1, S1, S.2.2)) (wr := (wB Γ.cs a S).take 2 ++ ((wB Γ.cs a S).drop 9).take 23 ++ (wB Γ.cs a S).drop 39) B [.ref (a 6 0)] (k_X1_copyFrom _ _ _ (a 1) (a 6) S.2.1 (S.2.2.1 3) h) [2, 3, 4, 5, 6, 7, 8, 32, 33, 34, 35, 36, 37, 38] [0, 1, 9, 10, 11, 12, 13, 14, 15, 16, 17, 18, 19, 20, 21, 22, 23, 24, 25, 26, 27, 28, 29, 30, 31, 39, 40, 41, 42, 43, 44, 45, 46, 47, 48, 49, 50, 51, 52] [0, 1, 39, 40, 41, 42, 43, 44, 45, 2, 3, 4, 5, 6, 7, 8, 9, 10, 11, 12, 13, 14, 15, 16, 17, 18, 19, 20, 21, 22, 23, 24, 46, 47, 48, 49, 50, 51, 52, 25, 26, 27, 28, 29, 30, 31, 32, 33, 34, 35, 36, 37, 38] rfl rfl rfl rfl (by decide) rfl rfl rfl rfl gv_RX2_212 rfl np_X1_copyFrom hR hroom rfl hsum d hp kk
set_option maxRecDepth 10000 in
theorem b_cpyU4 {Γ : Ctx} {cc : ByteArray} {nL k n pc pc' : Nat} {R0 : Room} {lv : List (Nat × Value)} {st : List Value} (B : CX Γ cc nL RX2 R0) {a : Nat → Nat → Nat} {S : BO} {S1 : OB} (h : f_X1_copyFrom S.2.1 (S.2.2.1 4) = some S1) (hR : 2 ≤ R0.frames ∧ 85 ≤ R0.locals) (hroom : k ≤ R0.cells ∧ n ≤ R0.slots) (hsum : (st.map fun v => v.category).sum ≤ 8) (d : decode cc pc = .ok (.invokevirtual 212, 3)) (hp : pc + 3 = pc') (kk : X Γ nL k n pc' lv st (wB Γ.cs a (S.1, S1, S.2.2))) : X Γ nL k n pc lv (.ref (a 7 0) :: .ref (a 1 0) :: st) (wB Γ.cs a S) :=
  x_GVv (ws' := wB Γ.cs a (S.1, S1, S.2.2)) (wr := (wB Γ.cs a S).take 2 ++ ((wB Γ.cs a S).drop 9).take 30 ++ (wB Γ.cs a S).drop 46) B [.ref (a 7 0)] (k_X1_copyFrom _ _ _ (a 1) (a 7) S.2.1 (S.2.2.1 4) h) [2, 3, 4, 5, 6, 7, 8, 39, 40, 41, 42, 43, 44, 45] [0, 1, 9, 10, 11, 12, 13, 14, 15, 16, 17, 18, 19, 20, 21, 22, 23, 24, 25, 26, 27, 28, 29, 30, 31, 32, 33, 34, 35, 36, 37, 38, 46, 47, 48, 49, 50, 51, 52] [0, 1, 39, 40, 41, 42, 43, 44, 45, 2, 3, 4, 5, 6, 7, 8, 9, 10, 11, 12, 13, 14, 15, 16, 17, 18, 19, 20, 21, 22, 23, 24, 25, 26, 27, 28, 29, 30, 31, 46, 47, 48, 49, 50, 51, 52, 32, 33, 34, 35, 36, 37, 38] rfl rfl rfl rfl (by decide) rfl rfl rfl rfl gv_RX2_212 rfl np_X1_copyFrom hR hroom rfl hsum d hp kk
set_option maxRecDepth 10000 in
theorem b_cpyU5 {Γ : Ctx} {cc : ByteArray} {nL k n pc pc' : Nat} {R0 : Room} {lv : List (Nat × Value)} {st : List Value} (B : CX Γ cc nL RX2 R0) {a : Nat → Nat → Nat} {S : BO} {S1 : OB} (h : f_X1_copyFrom S.2.1 (S.2.2.1 5) = some S1) (hR : 2 ≤ R0.frames ∧ 85 ≤ R0.locals) (hroom : k ≤ R0.cells ∧ n ≤ R0.slots) (hsum : (st.map fun v => v.category).sum ≤ 8) (d : decode cc pc = .ok (.invokevirtual 212, 3)) (hp : pc + 3 = pc') (kk : X Γ nL k n pc' lv st (wB Γ.cs a (S.1, S1, S.2.2))) : X Γ nL k n pc lv (.ref (a 8 0) :: .ref (a 1 0) :: st) (wB Γ.cs a S) :=
  x_GVv (ws' := wB Γ.cs a (S.1, S1, S.2.2)) (wr := (wB Γ.cs a S).take 2 ++ ((wB Γ.cs a S).drop 9).take 37 ++ (wB Γ.cs a S).drop 53) B [.ref (a 8 0)] (k_X1_copyFrom _ _ _ (a 1) (a 8) S.2.1 (S.2.2.1 5) h) [2, 3, 4, 5, 6, 7, 8, 46, 47, 48, 49, 50, 51, 52] [0, 1, 9, 10, 11, 12, 13, 14, 15, 16, 17, 18, 19, 20, 21, 22, 23, 24, 25, 26, 27, 28, 29, 30, 31, 32, 33, 34, 35, 36, 37, 38, 39, 40, 41, 42, 43, 44, 45] [0, 1, 39, 40, 41, 42, 43, 44, 45, 2, 3, 4, 5, 6, 7, 8, 9, 10, 11, 12, 13, 14, 15, 16, 17, 18, 19, 20, 21, 22, 23, 24, 25, 26, 27, 28, 29, 30, 31, 32, 33, 34, 35, 36, 37, 38, 46, 47, 48, 49, 50, 51, 52] rfl rfl rfl rfl (by decide) rfl rfl rfl rfl gv_RX2_212 rfl np_X1_copyFrom hR hroom rfl hsum d hp kk
theorem b_cpyU {Γ : Ctx} {cc : ByteArray} {nL k n pc pc' : Nat} {R0 : Room} {lv : List (Nat × Value)} {st : List Value} {j : Nat} (hj : j < 6) (B : CX Γ cc nL RX2 R0) {a : Nat → Nat → Nat} {S : BO} {S1 : OB} (h : f_X1_copyFrom S.2.1 (S.2.2.1 j) = some S1) (hR : 2 ≤ R0.frames ∧ 85 ≤ R0.locals) (hroom : k ≤ R0.cells ∧ n ≤ R0.slots) (hsum : (st.map fun v => v.category).sum ≤ 8) (d : decode cc pc = .ok (.invokevirtual 212, 3)) (hp : pc + 3 = pc') (kk : X Γ nL k n pc' lv st (wB Γ.cs a (S.1, S1, S.2.2))) : X Γ nL k n pc lv (.ref (a (3 + j) 0) :: .ref (a 1 0) :: st) (wB Γ.cs a S) := by
  match j, hj with
  | 0, _ => exact b_cpyU0 B h hR hroom hsum d hp kk
  | 1, _ => exact b_cpyU1 B h hR hroom hsum d hp kk
  | 2, _ => exact b_cpyU2 B h hR hroom hsum d hp kk
  | 3, _ => exact b_cpyU3 B h hR hroom hsum d hp kk
  | 4, _ => exact b_cpyU4 B h hR hroom hsum d hp kk
  | 5, _ => exact b_cpyU5 B h hR hroom hsum d hp kk
  | j + 6, hj => exact absurd hj (by omega)
theorem gv_RX2_208 : GoodIn GW (wsV RX2 208 RX2 yX2_slotAt (.code yX2_slotAt cX2_slotAt 2 (some (.object "DictationBelt$State")) :: GW)) := gw_app [Cond.methodLink RX2 208 yX2_slotAt, Cond.instanceMethod yX2_slotAt, Cond.selects RX2 yX2_slotAt yX2_slotAt, Cond.initialized RX2, Cond.code yX2_slotAt cX2_slotAt 2 (some (.object "DictationBelt$State"))] [243, 244, 245, 2, 246] (by decide +kernel) (by decide +kernel)
abbrev rm_X2_slotAt : Room := { frames := 0, cells := 0, slots := 0, locals := 0 }
theorem np_X2_slotAt : yX2_slotAt.cls ≠ "java/lang/invoke/MethodHandle" ∧ yX2_slotAt.cls ≠ "java/lang/invoke/VarHandle" ∧ (parseMethodDescriptor yX2_slotAt.desc).map (fun d => d.parameters.length) = some 1 := by decide +kernel
theorem MR_of {l : Launch} {D : va_G} {cs : CS} {y : MethodName} {bytes : ByteArray} {maxL sz ad : Nat} {nm : String} {rm : Room} {av : List Value} {w w' : va_W} (hy : plainName y.cls = true) (hlen : (lg_sl av).length ≤ maxL)
    (body : ∀ Γ : Ctx, Γ.l = l → Γ.D = D → Γ.cs = cs → CX Γ bytes maxL y.cls rm → (∀ {k n pc : Nat} {lv : List (Nat × Value)}, k ≤ rm.cells → n ≤ rm.slots → decode bytes pc = .ok (.areturn, 1) → X Γ maxL k n pc lv [.ref ad] w') → X Γ maxL 0 0 0 (lv_args 0 av) [] w) : Met l y (.code y bytes maxL (some (.object nm)) :: GW) rm (PR D cs av w sz) (va_Qr (S := Unit) (fun _ => True) (fun u q t => q = ad ∧ PO D w w' sz u t) (va_A w sz)) rm.cells rm.slots (va_A w sz) := by
  refine Met.ofW (cc := bytes) (maxL := maxL) (ret := some (.object nm)) hy rfl ?_
  intro p e s m args below meth c s₁ B hml hv
  obtain ⟨rfl, hsz, hP, hK, hD0⟩ := hv
  subst hsz
  have hts := atoms_spec (ws := .code y bytes maxL (some (.object nm)) :: GW) B.pre
  have hown : s.vm.findClass y.cls = some m.cls := findClass_of_methodNamed B.named
  have hl := lv_entry av (n := maxL) hlen
  rw [lg_entry_eq]
  have hD := hD0.self (sz := s.heap.size)
  refine body (p, l, e, rm, s, m, av.toArray, below, meth, c, _, va_A w s.heap.size, D, cs) rfl rfl rfl ⟨⟨B.exec, B.bytes, hml, hown, fun w h => hts w (List.mem_cons_of_mem _ h)⟩, hK, fun q h => Or.inr h, B.notSynchronized, rfl⟩ ?_ s.heap [] _ hP hD va_S.rf hl
  intro k n pc lv hk hn d H locs ls hP1 hD1 hS hl1
  have hlocks : meth.locks = false := B.notSynchronized
  exact W.widen hk hn (W.aret B.exec B.bytes B.returns (Or.inl ⟨_, rfl⟩) (Or.inr ⟨_, rfl⟩) (fun t ht hW => ⟨⟨(), _, rfl, trivial, rfl, by rw [ht]; exact hP1, hD1⟩, hS.F ht⟩) hS.2.2 d)
set_option maxHeartbeats 4000000 in
set_option maxRecDepth 100000 in
theorem k_X2_slotAt (l : Launch) (D : va_G) (cs : CS) (a : Nat → Nat → Nat) (i : Int32) (S : BO) (hi : vp_in i 6) (sz : Nat) : Met l yX2_slotAt (.code yX2_slotAt cX2_slotAt 2 (some (.object "DictationBelt$State")) :: GW) rm_X2_slotAt (PR D cs [.ref (a 0 0), .int i] (wB cs a S) sz) (va_Qr (S := Unit) (fun _ => True) (fun u q t => q = a (3 + i.toNatClampNeg) 0 ∧ PO D (wB cs a S) (wB cs a S) sz u t) (va_A (wB cs a S) sz)) 0 0 (va_A (wB cs a S) sz) := by
  refine MR_of (rm := rm_X2_slotAt) (by decide) (Nat.le_of_ble_eq_true rfl) ?_
  rintro Γ rfl rfl rfl B ret
  show X Γ 2 0 0 0 [(0, .ref (a 0 0)), (1, .int i)] [] (wB Γ.cs a S)
  have hi1 : ¬ i < 0 := fun h => hi (Or.inl h)
  have hi2 : ¬ (6 : Int32) ≤ i := by
    obtain ⟨j, hj, rfl⟩ := vp_in_of hi (by decide)
    exact nI_ge hj (by decide)
  refine x_iload_n B (pc' := 1) 1 dX2_slotAt_0 rfl rfl rfl ?_
  refine x_if_lt B 22 4 dX2_slotAt_1 (by decide) rfl (fun hc => absurd hc hi1) (fun hc => ?_)
  refine x_iload_n B (pc' := 5) 1 dX2_slotAt_4 rfl rfl rfl ?_
  refine x_aload_n B (pc' := 6) 0 dX2_slotAt_5 rfl rfl rfl ?_
  refine b_ref1 B (pc' := 9) wf_RX2_16 dX2_slotAt_6 rfl ?_
  refine x_alenR B (pc' := 10) 6 1 rfl rfl dX2_slotAt_9 rfl ?_
  refine x_icmp_ge B 22 13 dX2_slotAt_10 (by decide) rfl (fun hc => absurd hc hi2) (fun hc => ?_)
  refine x_aload_n B (pc' := 14) 0 dX2_slotAt_13 rfl rfl rfl ?_
  refine b_ref1 B (pc' := 17) wf_RX2_16 dX2_slotAt_14 rfl ?_
  refine x_iload_n B (pc' := 18) 1 dX2_slotAt_17 rfl rfl rfl ?_
  refine x_aald B (pc' := 19) 1 rfl hi dX2_slotAt_18 rfl ?_
  refine x_goto B (pc' := 23) dX2_slotAt_19 (by decide) ?_
  exact ret (Nat.le_of_ble_eq_true rfl) (Nat.le_of_ble_eq_true rfl) dX2_slotAt_23
theorem b_slotAt {Γ : Ctx} {cc : ByteArray} {nL k n pc pc' : Nat} {R0 : Room} {lv : List (Nat × Value)} {st : List Value} (B : CX Γ cc nL RX2 R0) {a : Nat → Nat → Nat} {S : BO} {i : Int32} {j : Nat} (hi : vp_in i 6) (ej : j = i.toNatClampNeg) (hR : 1 ≤ R0.frames ∧ 21 ≤ R0.locals) (hroom : k ≤ R0.cells ∧ n ≤ R0.slots) (hsum : (st.map fun v => v.category).sum ≤ 8) (d : decode cc pc = .ok (.invokevirtual 208, 3)) (hp : pc + 3 = pc') (kk : X Γ nL k n pc' lv (.ref (a (3 + j) 0) :: st) (wB Γ.cs a S)) : X Γ nL k n pc lv (.int i :: .ref (a 0 0) :: st) (wB Γ.cs a S) := by
  obtain ⟨p, l, e, R, s, m, args, below, meth, c, Q, A, D, cs⟩ := Γ
  subst hp
  subst ej
  obtain ⟨hfix, hKN, hA, hlk, rfl⟩ := B
  intro H locs ls hP hD hS hl
  have hFc : ∀ q, va_A (wB cs a S) H.size q → A q := fun q h => h.elim (fun ⟨k9, e9, h9⟩ => hD.2 k9 (q, e9) h9) (fun h9 => hA q (Nat.le_trans hS.1 h9))
  refine va_callr (va_runV (As := [.int i]) (rest := st) hfix (k_X2_slotAt l D cs a i S hi H.size) (cwV 1 hfix.2.2.2.2 gv_RX2_208 rfl rfl rfl ⟨rfl, np_X2_slotAt⟩ hR) ⟨pr_blind _ _ _ _ _, va_recv (ci := 2) hKN.1 hP (q := (RX2, TX2, 5)) rfl (q0 := 0) rfl, fun U hU hW => ⟨rfl, by rw [hU], by rw [hU]; exact hP, KN.warm hW hKN, hD.weaken (fun _ _ _ _ => trivial)⟩⟩ rfl rfl hl.1 rfl (lv_room hsum) d hroom) hS (fun q _ h => hFc q h) hFc (fun u q t H1 locs1 ht hvm hw hB hz1 hk1 hS1 => ?_)
  obtain ⟨rfl, hP1, hD1⟩ := hB
  rw [ht] at hP1
  exact kk H1 locs1 ls hP1 (hD1.weaken (fun k9 q9 _ h9 => hFc q9.1 h9)) hS1 hl
end
section
def c_X2_save_43 (t0 : Int32) (S : BO) : Option BO :=
  nm (fun (S6 : BO) => if (6 : Int32) ≤ (S6.1 3) then (some S6) else (nm (fun (S8 : BO) => some S8) (upd S6.1 3 ((S6.1 3) + (1 : Int32)), S6.2))) (upd S.1 2 t0, S.2)
def f_X2_save (S : BO) : Option BO :=
  gd (S.1 2) 6 (nm (fun (j2 : Nat) => bd (f_X1_copyFrom (S.2.2.1 j2) S.2.1) (fun (S3 : OB) => nm (fun (S4 : BO) => if (6 : Int32) ≤ ((S4.1 2) + (1 : Int32)) then (c_X2_save_43 (0 : Int32) S4) else (c_X2_save_43 ((S4.1 2) + (1 : Int32)) S4)) (S.1, S.2.1, (fun i => if i = j2 then S3 else S.2.2.1 i), S.2.2.2))) (Int32.toNatClampNeg (S.1 2)))
abbrev rm_X2_save : Room := { frames := 2, cells := 0, slots := 0, locals := 85 }
theorem np_X2_save : yX2_save.cls ≠ "java/lang/invoke/MethodHandle" ∧ yX2_save.cls ≠ "java/lang/invoke/VarHandle" ∧ (parseMethodDescriptor yX2_save.desc).map (fun d => d.parameters.length) = some 0 := by decide +kernel
set_option maxHeartbeats 4000000 in
set_option maxRecDepth 100000 in
theorem k_X2_save (l : Launch) (D : va_G) (cs : CS) (a : Nat → Nat → Nat) (S : BO) {S9 : BO} (h : f_X2_save S = some S9) : MV l D cs yX2_save cX2_save 2 rm_X2_save [.ref (a 0 0)] (wB cs a S) (wB cs a S9) := by
  refine MV_of (by decide) (Nat.le_of_ble_eq_true rfl) ?_
  rintro Γ rfl rfl rfl B ret
  show X Γ 2 0 0 0 [(0, .ref (a 0 0))] [] (wB Γ.cs a S)
  have h43 : ∀ (t0 : Int32) (S : BO), c_X2_save_43  t0 S = some S9 → X Γ 2 0 0 43 [(0, .ref (a 0 0))] [.int t0, .ref (a 0 0)] (wB Γ.cs a S) := by
    intro  t0 S h
    unfold c_X2_save_43 at h
    obtain ⟨S6, eS6, h⟩ := nm_elim h
    refine b_put2 B (pc' := 46) wf_RX2_20 dX2_save_43 rfl ?_
    refine b_wd eS6 ?_
    refine x_aload_n B (pc' := 47) 0 dX2_save_46 rfl rfl rfl ?_
    refine b_get3 B (pc' := 50) wf_RX2_24 dX2_save_47 rfl ?_
    refine x_bipush B (pc' := 52) 6 dX2_save_50 (by decide) rfl ?_
    refine x_icmp_ge B 65 55 dX2_save_52 (by decide) rfl (fun hc7 => ?_) (fun hc7 => ?_)
    · replace h := ite_t hc7 h
      cases h
      exact ret (by exact Nat.le_of_ble_eq_true rfl) (by exact Nat.le_of_ble_eq_true rfl) dX2_save_65
    · replace h := ite_f hc7 h
      refine x_aload_n B (pc' := 56) 0 dX2_save_55 rfl rfl rfl ?_
      refine x_dup B (pc' := 57) dX2_save_56 rfl rfl ?_
      refine b_get3 B (pc' := 60) wf_RX2_24 dX2_save_57 rfl ?_
      refine x_iconst B (pc' := 61) 1 dX2_save_60 (by decide) rfl ?_
      refine x_iadd B (pc' := 62) dX2_save_61 rfl ?_
      obtain ⟨S8, eS8, h⟩ := nm_elim h
      refine b_put3 B (pc' := 65) wf_RX2_24 dX2_save_62 rfl ?_
      refine b_wd eS8 ?_
      cases h
      exact ret (by exact Nat.le_of_ble_eq_true rfl) (by exact Nat.le_of_ble_eq_true rfl) dX2_save_65
  unfold f_X2_save at h
  refine x_aload_n B (pc' := 1) 0 dX2_save_0 rfl rfl rfl ?_
  refine x_aload_n B (pc' := 2) 0 dX2_save_1 rfl rfl rfl ?_
  refine b_get2 B (pc' := 5) wf_RX2_20 dX2_save_2 rfl ?_
  obtain ⟨hi1, h⟩ := gd_elim h
  obtain ⟨j2, ej2, h⟩ := nm_elim h
  have hj2 : j2 < 6 := by rw [ej2]; exact Nat.not_le.mp fun q => hi1 (Or.inr q)
  refine b_slotAt B (pc' := 8) hi1 ej2 ⟨Nat.le_of_ble_eq_true rfl, Nat.le_of_ble_eq_true rfl⟩ ⟨by exact Nat.le_of_ble_eq_true rfl, by exact Nat.le_of_ble_eq_true rfl⟩ (Nat.le_of_ble_eq_true rfl) dX2_save_5 rfl ?_
  refine x_astore_n B (pc' := 9) [1, 0] [(0, .ref (a 0 0)), (1, .ref (a (3 + j2) 0))] dX2_save_8 rfl (by decide) rfl rfl ?_
  refine x_aload_n B (pc' := 10) 1 dX2_save_9 rfl rfl rfl ?_
  refine x_ifnull B (pc' := 13) dX2_save_10 rfl ?_
  refine x_aload_n B (pc' := 14) 1 dX2_save_13 rfl rfl rfl ?_
  refine x_aload_n B (pc' := 15) 0 dX2_save_14 rfl rfl rfl ?_
  refine b_ref0 B (pc' := 18) wf_RX2_10 dX2_save_15 rfl ?_
  obtain ⟨S3, eS3, h⟩ := bd_elim h
  obtain ⟨S4, eS4, h⟩ := nm_elim h
  refine b_cpyS hj2 B (pc' := 21) eS3 ⟨Nat.le_of_ble_eq_true rfl, Nat.le_of_ble_eq_true rfl⟩ ⟨by exact Nat.le_of_ble_eq_true rfl, by exact Nat.le_of_ble_eq_true rfl⟩ (Nat.le_of_ble_eq_true rfl) dX2_save_18 rfl ?_
  refine b_wd eS4 ?_
  refine x_aload_n B (pc' := 22) 0 dX2_save_21 rfl rfl rfl ?_
  refine x_aload_n B (pc' := 23) 0 dX2_save_22 rfl rfl rfl ?_
  refine b_get2 B (pc' := 26) wf_RX2_20 dX2_save_23 rfl ?_
  refine x_iconst B (pc' := 27) 1 dX2_save_26 (by decide) rfl ?_
  refine x_iadd B (pc' := 28) dX2_save_27 rfl ?_
  refine x_bipush B (pc' := 30) 6 dX2_save_28 (by decide) rfl ?_
  refine x_icmp_ge B 42 33 dX2_save_30 (by decide) rfl (fun hc5 => ?_) (fun hc5 => ?_)
  · replace h := ite_t hc5 h
    refine x_iconst B (pc' := 43) 0 dX2_save_42 (by decide) rfl ?_
    refine x_lv [0] (lv' := [(0, .ref (a 0 0))]) rfl ?_
    exact h43  _ _ h
  · replace h := ite_f hc5 h
    refine x_aload_n B (pc' := 34) 0 dX2_save_33 rfl rfl rfl ?_
    refine b_get2 B (pc' := 37) wf_RX2_20 dX2_save_34 rfl ?_
    refine x_iconst B (pc' := 38) 1 dX2_save_37 (by decide) rfl ?_
    refine x_iadd B (pc' := 39) dX2_save_38 rfl ?_
    refine x_goto B (pc' := 43) dX2_save_39 (by decide) ?_
    refine x_lv [0] (lv' := [(0, .ref (a 0 0))]) rfl ?_
    exact h43  _ _ h
def f_X2_recordings (S : BO) : Option Int32 :=
  some (S.2.1.1 7)
abbrev rm_X2_recordings : Room := { frames := 0, cells := 0, slots := 0, locals := 0 }
theorem np_X2_recordings : yX2_recordings.cls ≠ "java/lang/invoke/MethodHandle" ∧ yX2_recordings.cls ≠ "java/lang/invoke/VarHandle" ∧ (parseMethodDescriptor yX2_recordings.desc).map (fun d => d.parameters.length) = some 0 := by decide +kernel
set_option maxHeartbeats 4000000 in
set_option maxRecDepth 100000 in
theorem k_X2_recordings (l : Launch) (D : va_G) (cs : CS) (a : Nat → Nat → Nat) (S : BO) {r9 : Int32} (h : f_X2_recordings S = some r9) : MI l D cs yX2_recordings cX2_recordings 1 .int rm_X2_recordings [.ref (a 0 0)] (wB cs a S) r9 (wB cs a S) := by
  refine MI_of (by decide) (Nat.le_of_ble_eq_true rfl) ?_
  rintro Γ rfl rfl rfl B ret
  show X Γ 1 0 0 0 [(0, .ref (a 0 0))] [] (wB Γ.cs a S)
  unfold f_X2_recordings at h
  refine x_aload_n B (pc' := 1) 0 dX2_recordings_0 rfl rfl rfl ?_
  refine b_ref0 B (pc' := 4) wf_RX2_10 dX2_recordings_1 rfl ?_
  refine bn_get7 B (pc' := 7) wf_RX2_99 dX2_recordings_4 rfl ?_
  have h1 := (Option.some.inj h)
  subst h1
  exact ret rfl (by exact Nat.le_of_ble_eq_true rfl) (by exact Nat.le_of_ble_eq_true rfl) dX2_recordings_7
def f_X2_running (S : BO) : Option Int32 :=
  bd (f_X1_runningNumber S.2.1) (fun (r1 : Int32) => some r1)
abbrev rm_X2_running : Room := { frames := 1, cells := 0, slots := 0, locals := 20 }
theorem np_X2_running : yX2_running.cls ≠ "java/lang/invoke/MethodHandle" ∧ yX2_running.cls ≠ "java/lang/invoke/VarHandle" ∧ (parseMethodDescriptor yX2_running.desc).map (fun d => d.parameters.length) = some 0 := by decide +kernel
set_option maxHeartbeats 4000000 in
set_option maxRecDepth 100000 in
theorem k_X2_running (l : Launch) (D : va_G) (cs : CS) (a : Nat → Nat → Nat) (S : BO) {r9 : Int32} (h : f_X2_running S = some r9) : MI l D cs yX2_running cX2_running 1 .int rm_X2_running [.ref (a 0 0)] (wB cs a S) r9 (wB cs a S) := by
  refine MI_of (by decide) (Nat.le_of_ble_eq_true rfl) ?_
  rintro Γ rfl rfl rfl B ret
  show X Γ 1 0 0 0 [(0, .ref (a 0 0))] [] (wB Γ.cs a S)
  unfold f_X2_running at h
  refine x_aload_n B (pc' := 1) 0 dX2_running_0 rfl rfl rfl ?_
  refine b_ref0 B (pc' := 4) wf_RX2_10 dX2_running_1 rfl ?_
  obtain ⟨r1, er1, h⟩ := bd_elim h
  refine b_nowRi B (pc' := 7) [] (k_X1_runningNumber _ _ _ (a 1) S.2.1 er1) gv_RX2_102 rfl np_X1_runningNumber ⟨Nat.le_of_ble_eq_true rfl, Nat.le_of_ble_eq_true rfl⟩ ⟨by exact Nat.le_of_ble_eq_true rfl, by exact Nat.le_of_ble_eq_true rfl⟩ rfl (Nat.le_of_ble_eq_true rfl) dX2_running_4 rfl ?_
  have h1 := (Option.some.inj h)
  subst h1
  exact ret rfl (by exact Nat.le_of_ble_eq_true rfl) (by exact Nat.le_of_ble_eq_true rfl) dX2_running_7
def f_X2_head (S : BO) : Option Int32 :=
  some (S.2.1.1 9)
abbrev rm_X2_head : Room := { frames := 0, cells := 0, slots := 0, locals := 0 }
theorem np_X2_head : yX2_head.cls ≠ "java/lang/invoke/MethodHandle" ∧ yX2_head.cls ≠ "java/lang/invoke/VarHandle" ∧ (parseMethodDescriptor yX2_head.desc).map (fun d => d.parameters.length) = some 0 := by decide +kernel
set_option maxHeartbeats 4000000 in
set_option maxRecDepth 100000 in
theorem k_X2_head (l : Launch) (D : va_G) (cs : CS) (a : Nat → Nat → Nat) (S : BO) {r9 : Int32} (h : f_X2_head S = some r9) : MI l D cs yX2_head cX2_head 1 .int rm_X2_head [.ref (a 0 0)] (wB cs a S) r9 (wB cs a S) := by
  refine MI_of (by decide) (Nat.le_of_ble_eq_true rfl) ?_
  rintro Γ rfl rfl rfl B ret
  show X Γ 1 0 0 0 [(0, .ref (a 0 0))] [] (wB Γ.cs a S)
  unfold f_X2_head at h
  refine x_aload_n B (pc' := 1) 0 dX2_head_0 rfl rfl rfl ?_
  refine b_ref0 B (pc' := 4) wf_RX2_10 dX2_head_1 rfl ?_
  refine bn_get9 B (pc' := 7) wf_RX2_96 dX2_head_4 rfl ?_
  have h1 := (Option.some.inj h)
  subst h1
  exact ret rfl (by exact Nat.le_of_ble_eq_true rfl) (by exact Nat.le_of_ble_eq_true rfl) dX2_head_7
def f_X2_free (S : BO) : Option Int32 :=
  some ((32 : Int32) - (S.2.1.1 4))
abbrev rm_X2_free : Room := { frames := 0, cells := 0, slots := 0, locals := 0 }
theorem np_X2_free : yX2_free.cls ≠ "java/lang/invoke/MethodHandle" ∧ yX2_free.cls ≠ "java/lang/invoke/VarHandle" ∧ (parseMethodDescriptor yX2_free.desc).map (fun d => d.parameters.length) = some 0 := by decide +kernel
set_option maxHeartbeats 4000000 in
set_option maxRecDepth 100000 in
theorem k_X2_free (l : Launch) (D : va_G) (cs : CS) (a : Nat → Nat → Nat) (S : BO) {r9 : Int32} (h : f_X2_free S = some r9) : MI l D cs yX2_free cX2_free 1 .int rm_X2_free [.ref (a 0 0)] (wB cs a S) r9 (wB cs a S) := by
  refine MI_of (by decide) (Nat.le_of_ble_eq_true rfl) ?_
  rintro Γ rfl rfl rfl B ret
  show X Γ 1 0 0 0 [(0, .ref (a 0 0))] [] (wB Γ.cs a S)
  unfold f_X2_free at h
  refine x_bipush B (pc' := 2) 32 dX2_free_0 (by decide) rfl ?_
  refine x_aload_n B (pc' := 3) 0 dX2_free_2 rfl rfl rfl ?_
  refine b_ref0 B (pc' := 6) wf_RX2_10 dX2_free_3 rfl ?_
  refine bn_get4 B (pc' := 9) wf_RX2_129 dX2_free_6 rfl ?_
  refine x_isub B (pc' := 10) dX2_free_9 rfl ?_
  have h1 := (Option.some.inj h)
  subst h1
  exact ret rfl (by exact Nat.le_of_ble_eq_true rfl) (by exact Nat.le_of_ble_eq_true rfl) dX2_free_10
def f_X2_spoken (S : BO) : Option Int32 :=
  some (S.2.1.1 10)
abbrev rm_X2_spoken : Room := { frames := 0, cells := 0, slots := 0, locals := 0 }
theorem np_X2_spoken : yX2_spoken.cls ≠ "java/lang/invoke/MethodHandle" ∧ yX2_spoken.cls ≠ "java/lang/invoke/VarHandle" ∧ (parseMethodDescriptor yX2_spoken.desc).map (fun d => d.parameters.length) = some 0 := by decide +kernel
set_option maxHeartbeats 4000000 in
set_option maxRecDepth 100000 in
theorem k_X2_spoken (l : Launch) (D : va_G) (cs : CS) (a : Nat → Nat → Nat) (S : BO) {r9 : Int32} (h : f_X2_spoken S = some r9) : MI l D cs yX2_spoken cX2_spoken 1 .int rm_X2_spoken [.ref (a 0 0)] (wB cs a S) r9 (wB cs a S) := by
  refine MI_of (by decide) (Nat.le_of_ble_eq_true rfl) ?_
  rintro Γ rfl rfl rfl B ret
  show X Γ 1 0 0 0 [(0, .ref (a 0 0))] [] (wB Γ.cs a S)
  unfold f_X2_spoken at h
  refine x_aload_n B (pc' := 1) 0 dX2_spoken_0 rfl rfl rfl ?_
  refine b_ref0 B (pc' := 4) wf_RX2_10 dX2_spoken_1 rfl ?_
  refine bn_get10 B (pc' := 7) wf_RX2_132 dX2_spoken_4 rfl ?_
  have h1 := (Option.some.inj h)
  subst h1
  exact ret rfl (by exact Nat.le_of_ble_eq_true rfl) (by exact Nat.le_of_ble_eq_true rfl) dX2_spoken_7
def f_X2_gone (S : BO) : Option Int32 :=
  some (S.2.1.1 11)
abbrev rm_X2_gone : Room := { frames := 0, cells := 0, slots := 0, locals := 0 }
theorem np_X2_gone : yX2_gone.cls ≠ "java/lang/invoke/MethodHandle" ∧ yX2_gone.cls ≠ "java/lang/invoke/VarHandle" ∧ (parseMethodDescriptor yX2_gone.desc).map (fun d => d.parameters.length) = some 0 := by decide +kernel
set_option maxHeartbeats 4000000 in
set_option maxRecDepth 100000 in
theorem k_X2_gone (l : Launch) (D : va_G) (cs : CS) (a : Nat → Nat → Nat) (S : BO) {r9 : Int32} (h : f_X2_gone S = some r9) : MI l D cs yX2_gone cX2_gone 1 .int rm_X2_gone [.ref (a 0 0)] (wB cs a S) r9 (wB cs a S) := by
  refine MI_of (by decide) (Nat.le_of_ble_eq_true rfl) ?_
  rintro Γ rfl rfl rfl B ret
  show X Γ 1 0 0 0 [(0, .ref (a 0 0))] [] (wB Γ.cs a S)
  unfold f_X2_gone at h
  refine x_aload_n B (pc' := 1) 0 dX2_gone_0 rfl rfl rfl ?_
  refine b_ref0 B (pc' := 4) wf_RX2_10 dX2_gone_1 rfl ?_
  refine bn_get11 B (pc' := 7) wf_RX2_135 dX2_gone_4 rfl ?_
  have h1 := (Option.some.inj h)
  subst h1
  exact ret rfl (by exact Nat.le_of_ble_eq_true rfl) (by exact Nat.le_of_ble_eq_true rfl) dX2_gone_7
def f_X2_playing (S : BO) : Option Int32 :=
  some (S.2.1.1 12)
abbrev rm_X2_playing : Room := { frames := 0, cells := 0, slots := 0, locals := 0 }
theorem np_X2_playing : yX2_playing.cls ≠ "java/lang/invoke/MethodHandle" ∧ yX2_playing.cls ≠ "java/lang/invoke/VarHandle" ∧ (parseMethodDescriptor yX2_playing.desc).map (fun d => d.parameters.length) = some 0 := by decide +kernel
set_option maxHeartbeats 4000000 in
set_option maxRecDepth 100000 in
theorem k_X2_playing (l : Launch) (D : va_G) (cs : CS) (a : Nat → Nat → Nat) (S : BO) {r9 : Int32} (h : f_X2_playing S = some r9) : MI l D cs yX2_playing cX2_playing 1 .int rm_X2_playing [.ref (a 0 0)] (wB cs a S) r9 (wB cs a S) := by
  refine MI_of (by decide) (Nat.le_of_ble_eq_true rfl) ?_
  rintro Γ rfl rfl rfl B ret
  show X Γ 1 0 0 0 [(0, .ref (a 0 0))] [] (wB Γ.cs a S)
  unfold f_X2_playing at h
  refine x_aload_n B (pc' := 1) 0 dX2_playing_0 rfl rfl rfl ?_
  refine b_ref0 B (pc' := 4) wf_RX2_10 dX2_playing_1 rfl ?_
  refine bn_get12 B (pc' := 7) wf_RX2_157 dX2_playing_4 rfl ?_
  have h1 := (Option.some.inj h)
  subst h1
  exact ret rfl (by exact Nat.le_of_ble_eq_true rfl) (by exact Nat.le_of_ble_eq_true rfl) dX2_playing_7
def f_X2_place (S : BO) : Option Int32 :=
  some (S.2.1.1 13)
abbrev rm_X2_place : Room := { frames := 0, cells := 0, slots := 0, locals := 0 }
theorem np_X2_place : yX2_place.cls ≠ "java/lang/invoke/MethodHandle" ∧ yX2_place.cls ≠ "java/lang/invoke/VarHandle" ∧ (parseMethodDescriptor yX2_place.desc).map (fun d => d.parameters.length) = some 0 := by decide +kernel
set_option maxHeartbeats 4000000 in
set_option maxRecDepth 100000 in
theorem k_X2_place (l : Launch) (D : va_G) (cs : CS) (a : Nat → Nat → Nat) (S : BO) {r9 : Int32} (h : f_X2_place S = some r9) : MI l D cs yX2_place cX2_place 1 .int rm_X2_place [.ref (a 0 0)] (wB cs a S) r9 (wB cs a S) := by
  refine MI_of (by decide) (Nat.le_of_ble_eq_true rfl) ?_
  rintro Γ rfl rfl rfl B ret
  show X Γ 1 0 0 0 [(0, .ref (a 0 0))] [] (wB Γ.cs a S)
  unfold f_X2_place at h
  refine x_aload_n B (pc' := 1) 0 dX2_place_0 rfl rfl rfl ?_
  refine b_ref0 B (pc' := 4) wf_RX2_10 dX2_place_1 rfl ?_
  refine bn_get13 B (pc' := 7) wf_RX2_160 dX2_place_4 rfl ?_
  have h1 := (Option.some.inj h)
  subst h1
  exact ret rfl (by exact Nat.le_of_ble_eq_true rfl) (by exact Nat.le_of_ble_eq_true rfl) dX2_place_7
def f_X2_corrected (S : BO) : Option Int32 :=
  bd (f_X1_correctedCells S.2.1) (fun (r1 : Int32) => some r1)
abbrev rm_X2_corrected : Room := { frames := 2, cells := 0, slots := 0, locals := 44 }
theorem np_X2_corrected : yX2_corrected.cls ≠ "java/lang/invoke/MethodHandle" ∧ yX2_corrected.cls ≠ "java/lang/invoke/VarHandle" ∧ (parseMethodDescriptor yX2_corrected.desc).map (fun d => d.parameters.length) = some 0 := by decide +kernel
set_option maxHeartbeats 4000000 in
set_option maxRecDepth 100000 in
theorem k_X2_corrected (l : Launch) (D : va_G) (cs : CS) (a : Nat → Nat → Nat) (S : BO) {r9 : Int32} (h : f_X2_corrected S = some r9) : MI l D cs yX2_corrected cX2_corrected 1 .int rm_X2_corrected [.ref (a 0 0)] (wB cs a S) r9 (wB cs a S) := by
  refine MI_of (by decide) (Nat.le_of_ble_eq_true rfl) ?_
  rintro Γ rfl rfl rfl B ret
  show X Γ 1 0 0 0 [(0, .ref (a 0 0))] [] (wB Γ.cs a S)
  unfold f_X2_corrected at h
  refine x_aload_n B (pc' := 1) 0 dX2_corrected_0 rfl rfl rfl ?_
  refine b_ref0 B (pc' := 4) wf_RX2_10 dX2_corrected_1 rfl ?_
  obtain ⟨r1, er1, h⟩ := bd_elim h
  refine b_nowRi B (pc' := 7) [] (k_X1_correctedCells _ _ _ (a 1) S.2.1 er1) gv_RX2_170 rfl np_X1_correctedCells ⟨Nat.le_of_ble_eq_true rfl, Nat.le_of_ble_eq_true rfl⟩ ⟨by exact Nat.le_of_ble_eq_true rfl, by exact Nat.le_of_ble_eq_true rfl⟩ rfl (Nat.le_of_ble_eq_true rfl) dX2_corrected_4 rfl ?_
  have h1 := (Option.some.inj h)
  subst h1
  exact ret rfl (by exact Nat.le_of_ble_eq_true rfl) (by exact Nat.le_of_ble_eq_true rfl) dX2_corrected_7
def f_X2_room (S : BO) : Option Int32 :=
  bd (f_X1_writableCells S.2.1) (fun (r1 : Int32) => some r1)
abbrev rm_X2_room : Room := { frames := 3, cells := 0, slots := 0, locals := 66 }
theorem np_X2_room : yX2_room.cls ≠ "java/lang/invoke/MethodHandle" ∧ yX2_room.cls ≠ "java/lang/invoke/VarHandle" ∧ (parseMethodDescriptor yX2_room.desc).map (fun d => d.parameters.length) = some 0 := by decide +kernel
set_option maxHeartbeats 4000000 in
set_option maxRecDepth 100000 in
theorem k_X2_room (l : Launch) (D : va_G) (cs : CS) (a : Nat → Nat → Nat) (S : BO) {r9 : Int32} (h : f_X2_room S = some r9) : MI l D cs yX2_room cX2_room 1 .int rm_X2_room [.ref (a 0 0)] (wB cs a S) r9 (wB cs a S) := by
  refine MI_of (by decide) (Nat.le_of_ble_eq_true rfl) ?_
  rintro Γ rfl rfl rfl B ret
  show X Γ 1 0 0 0 [(0, .ref (a 0 0))] [] (wB Γ.cs a S)
  unfold f_X2_room at h
  refine x_aload_n B (pc' := 1) 0 dX2_room_0 rfl rfl rfl ?_
  refine b_ref0 B (pc' := 4) wf_RX2_10 dX2_room_1 rfl ?_
  obtain ⟨r1, er1, h⟩ := bd_elim h
  refine b_nowRi B (pc' := 7) [] (k_X1_writableCells _ _ _ (a 1) S.2.1 er1) gv_RX2_173 rfl np_X1_writableCells ⟨Nat.le_of_ble_eq_true rfl, Nat.le_of_ble_eq_true rfl⟩ ⟨by exact Nat.le_of_ble_eq_true rfl, by exact Nat.le_of_ble_eq_true rfl⟩ rfl (Nat.le_of_ble_eq_true rfl) dX2_room_4 rfl ?_
  have h1 := (Option.some.inj h)
  subst h1
  exact ret rfl (by exact Nat.le_of_ble_eq_true rfl) (by exact Nat.le_of_ble_eq_true rfl) dX2_room_7
def f_X2_nextLoser (S : BO) : Option Int32 :=
  bd (f_X1_firstLoser S.2.1) (fun (r1 : Int32) => some r1)
abbrev rm_X2_nextLoser : Room := { frames := 3, cells := 0, slots := 0, locals := 67 }
theorem np_X2_nextLoser : yX2_nextLoser.cls ≠ "java/lang/invoke/MethodHandle" ∧ yX2_nextLoser.cls ≠ "java/lang/invoke/VarHandle" ∧ (parseMethodDescriptor yX2_nextLoser.desc).map (fun d => d.parameters.length) = some 0 := by decide +kernel
set_option maxHeartbeats 4000000 in
set_option maxRecDepth 100000 in
theorem k_X2_nextLoser (l : Launch) (D : va_G) (cs : CS) (a : Nat → Nat → Nat) (S : BO) {r9 : Int32} (h : f_X2_nextLoser S = some r9) : MI l D cs yX2_nextLoser cX2_nextLoser 1 .int rm_X2_nextLoser [.ref (a 0 0)] (wB cs a S) r9 (wB cs a S) := by
  refine MI_of (by decide) (Nat.le_of_ble_eq_true rfl) ?_
  rintro Γ rfl rfl rfl B ret
  show X Γ 1 0 0 0 [(0, .ref (a 0 0))] [] (wB Γ.cs a S)
  unfold f_X2_nextLoser at h
  refine x_aload_n B (pc' := 1) 0 dX2_nextLoser_0 rfl rfl rfl ?_
  refine b_ref0 B (pc' := 4) wf_RX2_10 dX2_nextLoser_1 rfl ?_
  obtain ⟨r1, er1, h⟩ := bd_elim h
  refine b_nowRi B (pc' := 7) [] (k_X1_firstLoser _ _ _ (a 1) S.2.1 er1) gv_RX2_176 rfl np_X1_firstLoser ⟨Nat.le_of_ble_eq_true rfl, Nat.le_of_ble_eq_true rfl⟩ ⟨by exact Nat.le_of_ble_eq_true rfl, by exact Nat.le_of_ble_eq_true rfl⟩ rfl (Nat.le_of_ble_eq_true rfl) dX2_nextLoser_4 rfl ?_
  have h1 := (Option.some.inj h)
  subst h1
  exact ret rfl (by exact Nat.le_of_ble_eq_true rfl) (by exact Nat.le_of_ble_eq_true rfl) dX2_nextLoser_7
def f_X2_savedStates (S : BO) : Option Int32 :=
  some (S.1 3)
abbrev rm_X2_savedStates : Room := { frames := 0, cells := 0, slots := 0, locals := 0 }
theorem np_X2_savedStates : yX2_savedStates.cls ≠ "java/lang/invoke/MethodHandle" ∧ yX2_savedStates.cls ≠ "java/lang/invoke/VarHandle" ∧ (parseMethodDescriptor yX2_savedStates.desc).map (fun d => d.parameters.length) = some 0 := by decide +kernel
set_option maxHeartbeats 4000000 in
set_option maxRecDepth 100000 in
theorem k_X2_savedStates (l : Launch) (D : va_G) (cs : CS) (a : Nat → Nat → Nat) (S : BO) {r9 : Int32} (h : f_X2_savedStates S = some r9) : MI l D cs yX2_savedStates cX2_savedStates 1 .int rm_X2_savedStates [.ref (a 0 0)] (wB cs a S) r9 (wB cs a S) := by
  refine MI_of (by decide) (Nat.le_of_ble_eq_true rfl) ?_
  rintro Γ rfl rfl rfl B ret
  show X Γ 1 0 0 0 [(0, .ref (a 0 0))] [] (wB Γ.cs a S)
  unfold f_X2_savedStates at h
  refine x_aload_n B (pc' := 1) 0 dX2_savedStates_0 rfl rfl rfl ?_
  refine b_get3 B (pc' := 4) wf_RX2_24 dX2_savedStates_1 rfl ?_
  have h1 := (Option.some.inj h)
  subst h1
  exact ret rfl (by exact Nat.le_of_ble_eq_true rfl) (by exact Nat.le_of_ble_eq_true rfl) dX2_savedStates_4
def b_X2_withRecording_60 (S : BO) (K60 : Int32 → Int64 → Int32 → Option Int64) (x3 : Int32) (x4 : Int64) (x6 : Int32) : Option Int64 :=
  if (S.2.1.1 4) ≤ x6 then (some x4) else (nm (fun (v8 : Int32) => if (vAt 32 (S.2.1.2 0) v8) = x3 then (bd (f_X2_mixed x4 (Int32.toInt64 v8)) (fun (r11 : Int64) => bd (f_X2_mixed r11 (Int32.toInt64 (vAt 32 (S.2.1.2 1) v8))) (fun (r12 : Int64) => bd (f_X2_mixed r12 (Int32.toInt64 (vAt 32 (S.2.1.2 2) v8))) (fun (r13 : Int64) => nm (fun (v14 : Int32) => K60 x3 r13 v14) (x6 + 1))))) else (nm (fun (v10 : Int32) => K60 x3 x4 v10) (x6 + 1))) (vAt 32 (S.2.1.2 3) x6))
def c_X2_withRecording_33 (S : BO) (x3 : Int32) (t0 : Int64) (t1 : Int64) : Option Int64 :=
  bd (f_X2_mixed t1 t0) (fun (r5 : Int64) => bd (f_X2_mixed r5 (Int32.toInt64 (vAt 10 (S.2.1.2 6) x3))) (fun (r6 : Int64) => lpf3 (b_X2_withRecording_60 S) FU x3 r6 (0 : Int32)))
def f_X2_withRecording (p0 : Int64) (p1 : Int32) (S : BO) : Option Int64 :=
  bd (f_X1_cellCount p1 S.2.1) (fun (r1 : Int32) => bd (f_X2_mixed p0 (Int32.toInt64 r1)) (fun (r2 : Int64) => bd (f_X1_isFlagged p1 S.2.1) (fun (r3 : Int32) => if r3 = 0 then (c_X2_withRecording_33 S p1 (0 : Int64) r2) else (c_X2_withRecording_33 S p1 (1 : Int64) r2))))
abbrev rm_X2_withRecording : Room := { frames := 2, cells := 0, slots := 0, locals := 45 }
theorem np_X2_withRecording : yX2_withRecording.cls ≠ "java/lang/invoke/MethodHandle" ∧ yX2_withRecording.cls ≠ "java/lang/invoke/VarHandle" ∧ (parseMethodDescriptor yX2_withRecording.desc).map (fun d => d.parameters.length) = some 2 := by decide +kernel
set_option maxHeartbeats 4000000 in
set_option maxRecDepth 100000 in
theorem k_X2_withRecording (l : Launch) (D : va_G) (cs : CS) (a : Nat → Nat → Nat) (p0 : Int64) (p1 : Int32) (S : BO) {r9 : Int64} (h : f_X2_withRecording p0 p1 S = some r9) : ML l D cs yX2_withRecording cX2_withRecording 8 rm_X2_withRecording [.ref (a 0 0), .long p0, .int p1] (wB cs a S) r9 (wB cs a S) := by
  refine ML_of (by decide) (Nat.le_of_ble_eq_true rfl) ?_
  rintro Γ rfl rfl rfl B ret
  show X Γ 8 0 0 0 [(0, .ref (a 0 0)), (1, .long p0), (3, .int p1)] [] (wB Γ.cs a S)
  have h60 : ∀ (n9 : Nat) (x3 : Int32) (x4 : Int64) (x6 : Int32), lpf3 (b_X2_withRecording_60 S) n9 x3 x4 x6 = some r9 → X Γ 8 0 0 60 [(0, .ref (a 0 0)), (3, .int x3), (4, .long x4), (6, .int x6)] [] (wB Γ.cs a S) := by
    refine lpf3_ind (fun K60 hK60 x3 x4 x6 h => ?_)
    unfold b_X2_withRecording_60 at h
    refine x_iload B (pc' := 62) 3 dX2_withRecording_60 rfl rfl ?_
    refine x_aload_n B (pc' := 63) 0 dX2_withRecording_62 rfl rfl rfl ?_
    refine b_ref0 B (pc' := 66) wf_RX2_10 dX2_withRecording_63 rfl ?_
    refine bn_get4 B (pc' := 69) wf_RX2_129 dX2_withRecording_66 rfl ?_
    refine x_icmp_ge B 158 72 dX2_withRecording_69 (by decide) rfl (fun hc7 => ?_) (fun hc7 => ?_)
    · replace h := ite_t hc7 h
      refine x_lload B (pc' := 160) 2 dX2_withRecording_158 rfl rfl ?_
      have h1 := (Option.some.inj h)
      subst h1
      exact ret (by exact Nat.le_of_ble_eq_true rfl) (by exact Nat.le_of_ble_eq_true rfl) dX2_withRecording_160
    · replace h := ite_f hc7 h
      refine x_aload_n B (pc' := 73) 0 dX2_withRecording_72 rfl rfl rfl ?_
      refine b_ref0 B (pc' := 76) wf_RX2_10 dX2_withRecording_73 rfl ?_
      refine bn_ref3 B (pc' := 79) wf_RX2_255 dX2_withRecording_76 rfl ?_
      refine x_iload B (pc' := 81) 3 dX2_withRecording_79 rfl rfl ?_
      refine bn_vAt3 B (pc' := 84) ⟨Nat.le_of_ble_eq_true rfl, Nat.le_of_ble_eq_true rfl⟩ ⟨Nat.le_of_ble_eq_true rfl, Nat.le_of_ble_eq_true rfl⟩ (Nat.le_of_ble_eq_true rfl) rfl dX2_withRecording_81 rfl ?_
      obtain ⟨v8, ev8, h⟩ := nm_elim h
      refine x_topi ev8 ?_
      refine x_istore B (pc' := 86) [1, 2, 3, 4, 0] [(0, .ref (a 0 0)), (3, .int x3), (4, .long x4), (6, .int x6), (7, .int v8)] dX2_withRecording_84 (by decide) rfl rfl ?_
      refine x_aload_n B (pc' := 87) 0 dX2_withRecording_86 rfl rfl rfl ?_
      refine b_ref0 B (pc' := 90) wf_RX2_10 dX2_withRecording_87 rfl ?_
      refine bn_ref0 B (pc' := 93) wf_RX2_126 dX2_withRecording_90 rfl ?_
      refine x_iload B (pc' := 95) 4 dX2_withRecording_93 rfl rfl ?_
      refine bn_vAt0 B (pc' := 98) ⟨Nat.le_of_ble_eq_true rfl, Nat.le_of_ble_eq_true rfl⟩ ⟨Nat.le_of_ble_eq_true rfl, Nat.le_of_ble_eq_true rfl⟩ (Nat.le_of_ble_eq_true rfl) rfl dX2_withRecording_95 rfl ?_
      refine x_iload_n B (pc' := 99) 1 dX2_withRecording_98 rfl rfl rfl ?_
      refine x_icmp_ne B 152 102 dX2_withRecording_99 (by decide) rfl (fun hc9 => ?_) (fun hc9 => ?_)
      · replace h := ite_f hc9 h
        obtain ⟨v10, ev10, h⟩ := nm_elim h
        refine x_iinc B (pc' := 155) v10 3 [1, 2, 3, 0, 4] [(0, .ref (a 0 0)), (3, .int x3), (4, .long x4), (6, .int v10), (7, .int v8)] dX2_withRecording_152 rfl (by rw [ev10]; rfl) (by decide) rfl rfl ?_
        refine x_goto B (pc' := 60) dX2_withRecording_155 (by decide) ?_
        refine x_lv [0, 1, 2, 3] (lv' := [(0, .ref (a 0 0)), (3, .int x3), (4, .long x4), (6, .int v10)]) rfl ?_
        exact hK60 _ _ _ h
      · replace h := ite_t hc9 h
        refine x_lload B (pc' := 104) 2 dX2_withRecording_102 rfl rfl ?_
        refine x_iload B (pc' := 106) 4 dX2_withRecording_104 rfl rfl ?_
        refine x_i2l B (pc' := 107) dX2_withRecording_106 rfl ?_
        obtain ⟨r11, er11, h⟩ := bd_elim h
        refine x_pureSl B (pc' := 110) [.long x4, .long (Int32.toInt64 v8)] (k_X2_mixed _ _ _ x4 (Int32.toInt64 v8) er11) gv_RX2_221 np_X2_mixed ⟨Nat.le_of_ble_eq_true rfl, Nat.le_of_ble_eq_true rfl⟩ ⟨by exact Nat.le_of_ble_eq_true rfl, by exact Nat.le_of_ble_eq_true rfl⟩ rfl (Nat.le_of_ble_eq_true rfl) dX2_withRecording_107 rfl ?_
        refine x_lstore B (pc' := 112) [1, 2, 0, 3, 4] [(0, .ref (a 0 0)), (3, .int x3), (4, .long r11), (6, .int x6), (7, .int v8)] dX2_withRecording_110 (by decide) rfl rfl ?_
        refine x_lload B (pc' := 114) 2 dX2_withRecording_112 rfl rfl ?_
        refine x_aload_n B (pc' := 115) 0 dX2_withRecording_114 rfl rfl rfl ?_
        refine b_ref0 B (pc' := 118) wf_RX2_10 dX2_withRecording_115 rfl ?_
        refine bn_ref1 B (pc' := 121) wf_RX2_112 dX2_withRecording_118 rfl ?_
        refine x_iload B (pc' := 123) 4 dX2_withRecording_121 rfl rfl ?_
        refine bn_vAt1 B (pc' := 126) ⟨Nat.le_of_ble_eq_true rfl, Nat.le_of_ble_eq_true rfl⟩ ⟨Nat.le_of_ble_eq_true rfl, Nat.le_of_ble_eq_true rfl⟩ (Nat.le_of_ble_eq_true rfl) rfl dX2_withRecording_123 rfl ?_
        refine x_i2l B (pc' := 127) dX2_withRecording_126 rfl ?_
        obtain ⟨r12, er12, h⟩ := bd_elim h
        refine x_pureSl B (pc' := 130) [.long r11, .long (Int32.toInt64 (vAt 32 (S.2.1.2 1) v8))] (k_X2_mixed _ _ _ r11 (Int32.toInt64 (vAt 32 (S.2.1.2 1) v8)) er12) gv_RX2_221 np_X2_mixed ⟨Nat.le_of_ble_eq_true rfl, Nat.le_of_ble_eq_true rfl⟩ ⟨by exact Nat.le_of_ble_eq_true rfl, by exact Nat.le_of_ble_eq_true rfl⟩ rfl (Nat.le_of_ble_eq_true rfl) dX2_withRecording_127 rfl ?_
        refine x_lstore B (pc' := 132) [1, 2, 0, 3, 4] [(0, .ref (a 0 0)), (3, .int x3), (4, .long r12), (6, .int x6), (7, .int v8)] dX2_withRecording_130 (by decide) rfl rfl ?_
        refine x_lload B (pc' := 134) 2 dX2_withRecording_132 rfl rfl ?_
        refine x_aload_n B (pc' := 135) 0 dX2_withRecording_134 rfl rfl rfl ?_
        refine b_ref0 B (pc' := 138) wf_RX2_10 dX2_withRecording_135 rfl ?_
        refine bn_ref2 B (pc' := 141) wf_RX2_167 dX2_withRecording_138 rfl ?_
        refine x_iload B (pc' := 143) 4 dX2_withRecording_141 rfl rfl ?_
        refine bn_vAt2 B (pc' := 146) ⟨Nat.le_of_ble_eq_true rfl, Nat.le_of_ble_eq_true rfl⟩ ⟨Nat.le_of_ble_eq_true rfl, Nat.le_of_ble_eq_true rfl⟩ (Nat.le_of_ble_eq_true rfl) rfl dX2_withRecording_143 rfl ?_
        refine x_i2l B (pc' := 147) dX2_withRecording_146 rfl ?_
        obtain ⟨r13, er13, h⟩ := bd_elim h
        refine x_pureSl B (pc' := 150) [.long r12, .long (Int32.toInt64 (vAt 32 (S.2.1.2 2) v8))] (k_X2_mixed _ _ _ r12 (Int32.toInt64 (vAt 32 (S.2.1.2 2) v8)) er13) gv_RX2_221 np_X2_mixed ⟨Nat.le_of_ble_eq_true rfl, Nat.le_of_ble_eq_true rfl⟩ ⟨by exact Nat.le_of_ble_eq_true rfl, by exact Nat.le_of_ble_eq_true rfl⟩ rfl (Nat.le_of_ble_eq_true rfl) dX2_withRecording_147 rfl ?_
        refine x_lstore B (pc' := 152) [1, 2, 0, 3, 4] [(0, .ref (a 0 0)), (3, .int x3), (4, .long r13), (6, .int x6), (7, .int v8)] dX2_withRecording_150 (by decide) rfl rfl ?_
        obtain ⟨v14, ev14, h⟩ := nm_elim h
        refine x_iinc B (pc' := 155) v14 3 [1, 2, 3, 0, 4] [(0, .ref (a 0 0)), (3, .int x3), (4, .long r13), (6, .int v14), (7, .int v8)] dX2_withRecording_152 rfl (by rw [ev14]; rfl) (by decide) rfl rfl ?_
        refine x_goto B (pc' := 60) dX2_withRecording_155 (by decide) ?_
        refine x_lv [0, 1, 2, 3] (lv' := [(0, .ref (a 0 0)), (3, .int x3), (4, .long r13), (6, .int v14)]) rfl ?_
        exact hK60 _ _ _ h
  have h33 : ∀ (x3 : Int32) (t0 : Int64) (t1 : Int64), c_X2_withRecording_33 S  x3 t0 t1 = some r9 → X Γ 8 0 0 33 [(0, .ref (a 0 0)), (3, .int x3)] [.long t0, .long t1] (wB Γ.cs a S) := by
    intro  x3 t0 t1 h
    unfold c_X2_withRecording_33 at h
    obtain ⟨r5, er5, h⟩ := bd_elim h
    refine x_pureSl B (pc' := 36) [.long t1, .long t0] (k_X2_mixed _ _ _ t1 t0 er5) gv_RX2_221 np_X2_mixed ⟨Nat.le_of_ble_eq_true rfl, Nat.le_of_ble_eq_true rfl⟩ ⟨by exact Nat.le_of_ble_eq_true rfl, by exact Nat.le_of_ble_eq_true rfl⟩ rfl (Nat.le_of_ble_eq_true rfl) dX2_withRecording_33 rfl ?_
    refine x_lstore B (pc' := 38) [1, 2, 0] [(0, .ref (a 0 0)), (3, .int x3), (4, .long r5)] dX2_withRecording_36 (by decide) rfl rfl ?_
    refine x_lload B (pc' := 40) 2 dX2_withRecording_38 rfl rfl ?_
    refine x_aload_n B (pc' := 41) 0 dX2_withRecording_40 rfl rfl rfl ?_
    refine b_ref0 B (pc' := 44) wf_RX2_10 dX2_withRecording_41 rfl ?_
    refine bn_ref6 B (pc' := 47) wf_RX2_123 dX2_withRecording_44 rfl ?_
    refine x_iload_n B (pc' := 48) 1 dX2_withRecording_47 rfl rfl rfl ?_
    refine bn_vAt6 B (pc' := 51) ⟨Nat.le_of_ble_eq_true rfl, Nat.le_of_ble_eq_true rfl⟩ ⟨Nat.le_of_ble_eq_true rfl, Nat.le_of_ble_eq_true rfl⟩ (Nat.le_of_ble_eq_true rfl) rfl dX2_withRecording_48 rfl ?_
    refine x_i2l B (pc' := 52) dX2_withRecording_51 rfl ?_
    obtain ⟨r6, er6, h⟩ := bd_elim h
    refine x_pureSl B (pc' := 55) [.long r5, .long (Int32.toInt64 (vAt 10 (S.2.1.2 6) x3))] (k_X2_mixed _ _ _ r5 (Int32.toInt64 (vAt 10 (S.2.1.2 6) x3)) er6) gv_RX2_221 np_X2_mixed ⟨Nat.le_of_ble_eq_true rfl, Nat.le_of_ble_eq_true rfl⟩ ⟨by exact Nat.le_of_ble_eq_true rfl, by exact Nat.le_of_ble_eq_true rfl⟩ rfl (Nat.le_of_ble_eq_true rfl) dX2_withRecording_52 rfl ?_
    refine x_lstore B (pc' := 57) [1, 2, 0] [(0, .ref (a 0 0)), (3, .int x3), (4, .long r6)] dX2_withRecording_55 (by decide) rfl rfl ?_
    refine x_iconst B (pc' := 58) 0 dX2_withRecording_57 (by decide) rfl ?_
    refine x_istore B (pc' := 60) [1, 2, 3, 0] [(0, .ref (a 0 0)), (3, .int x3), (4, .long r6), (6, .int (0 : Int32))] dX2_withRecording_58 (by decide) rfl rfl ?_
    exact h60  _ _ _ _ h
  unfold f_X2_withRecording at h
  refine x_lload_n B (pc' := 1) 1 dX2_withRecording_0 rfl rfl rfl ?_
  refine x_aload_n B (pc' := 2) 0 dX2_withRecording_1 rfl rfl rfl ?_
  refine b_ref0 B (pc' := 5) wf_RX2_10 dX2_withRecording_2 rfl ?_
  refine x_iload_n B (pc' := 6) 2 dX2_withRecording_5 rfl rfl rfl ?_
  obtain ⟨r1, er1, h⟩ := bd_elim h
  refine b_nowRi B (pc' := 9) [.int p1] (k_X1_cellCount _ _ _ (a 1) p1 S.2.1 er1) gv_RX2_105 rfl np_X1_cellCount ⟨Nat.le_of_ble_eq_true rfl, Nat.le_of_ble_eq_true rfl⟩ ⟨by exact Nat.le_of_ble_eq_true rfl, by exact Nat.le_of_ble_eq_true rfl⟩ rfl (Nat.le_of_ble_eq_true rfl) dX2_withRecording_6 rfl ?_
  refine x_i2l B (pc' := 10) dX2_withRecording_9 rfl ?_
  obtain ⟨r2, er2, h⟩ := bd_elim h
  refine x_pureSl B (pc' := 13) [.long p0, .long (Int32.toInt64 r1)] (k_X2_mixed _ _ _ p0 (Int32.toInt64 r1) er2) gv_RX2_221 np_X2_mixed ⟨Nat.le_of_ble_eq_true rfl, Nat.le_of_ble_eq_true rfl⟩ ⟨by exact Nat.le_of_ble_eq_true rfl, by exact Nat.le_of_ble_eq_true rfl⟩ rfl (Nat.le_of_ble_eq_true rfl) dX2_withRecording_10 rfl ?_
  refine x_lstore B (pc' := 15) [1, 2, 3, 0] [(0, .ref (a 0 0)), (1, .long p0), (3, .int p1), (4, .long r2)] dX2_withRecording_13 (by decide) rfl rfl ?_
  refine x_lload B (pc' := 17) 3 dX2_withRecording_15 rfl rfl ?_
  refine x_aload_n B (pc' := 18) 0 dX2_withRecording_17 rfl rfl rfl ?_
  refine b_ref0 B (pc' := 21) wf_RX2_10 dX2_withRecording_18 rfl ?_
  refine x_iload_n B (pc' := 22) 2 dX2_withRecording_21 rfl rfl rfl ?_
  obtain ⟨r3, er3, h⟩ := bd_elim h
  refine b_nowRi B (pc' := 25) [.int p1] (k_X1_isFlagged _ _ _ (a 1) p1 S.2.1 er3) gv_RX2_78 rfl np_X1_isFlagged ⟨Nat.le_of_ble_eq_true rfl, Nat.le_of_ble_eq_true rfl⟩ ⟨by exact Nat.le_of_ble_eq_true rfl, by exact Nat.le_of_ble_eq_true rfl⟩ rfl (Nat.le_of_ble_eq_true rfl) dX2_withRecording_22 rfl ?_
  refine x_if_eq B 32 28 dX2_withRecording_25 (by decide) rfl (fun hc4 => ?_) (fun hc4 => ?_)
  · replace h := ite_t hc4 h
    refine x_lconst B (pc' := 33) 0 dX2_withRecording_32 (by decide) rfl ?_
    refine x_lv [0, 2] (lv' := [(0, .ref (a 0 0)), (3, .int p1)]) rfl ?_
    exact h33  _ _ _ h
  · replace h := ite_f hc4 h
    refine x_lconst B (pc' := 29) 1 dX2_withRecording_28 (by decide) rfl ?_
    refine x_goto B (pc' := 33) dX2_withRecording_29 (by decide) ?_
    refine x_lv [0, 2] (lv' := [(0, .ref (a 0 0)), (3, .int p1)]) rfl ?_
    exact h33  _ _ _ h
def b_X2_digest_142 (S : BO) (K142 : Int64 → Int32 → Option Int64) (x1 : Int64) (x3 : Int32) : Option Int64 :=
  if (32 : Int32) ≤ x3 then (some x1) else (bd (f_X2_mixed x1 (Int32.toInt64 (vAt 32 (S.2.1.2 0) x3))) (fun (r27 : Int64) => nm (fun (v28 : Int32) => K142 r27 v28) (x3 + 1)))
def b_X2_digest_116 (S : BO) (K116 : Int64 → Int32 → Option Int64) (x1 : Int64) (x3 : Int32) : Option Int64 :=
  if (S.2.1.1 7) ≤ x3 then (lpf2 (b_X2_digest_142 S) FU x1 (0 : Int32)) else (bd (f_X2_withRecording x1 x3 S) (fun (r24 : Int64) => nm (fun (v25 : Int32) => K116 r24 v25) (x3 + 1)))
def f_X2_digest (S : BO) : Option Int64 :=
  bd (f_X2_recordings S) (fun (r1 : Int32) => bd (f_X2_mixed (4444 : Int64) (Int32.toInt64 r1)) (fun (r2 : Int64) => bd (f_X2_running S) (fun (r3 : Int32) => bd (f_X2_mixed r2 (Int32.toInt64 r3)) (fun (r4 : Int64) => bd (f_X2_head S) (fun (r5 : Int32) => bd (f_X2_mixed r4 (Int32.toInt64 r5)) (fun (r6 : Int64) => bd (f_X2_free S) (fun (r7 : Int32) => bd (f_X2_mixed r6 (Int32.toInt64 r7)) (fun (r8 : Int64) => bd (f_X2_spoken S) (fun (r9 : Int32) => bd (f_X2_mixed r8 (Int32.toInt64 r9)) (fun (r10 : Int64) => bd (f_X2_gone S) (fun (r11 : Int32) => bd (f_X2_mixed r10 (Int32.toInt64 r11)) (fun (r12 : Int64) => bd (f_X2_playing S) (fun (r13 : Int32) => bd (f_X2_mixed r12 (Int32.toInt64 r13)) (fun (r14 : Int64) => bd (f_X2_place S) (fun (r15 : Int32) => bd (f_X2_mixed r14 (Int32.toInt64 r15)) (fun (r16 : Int64) => bd (f_X2_corrected S) (fun (r17 : Int32) => bd (f_X2_mixed r16 (Int32.toInt64 r17)) (fun (r18 : Int64) => bd (f_X2_room S) (fun (r19 : Int32) => bd (f_X2_mixed r18 (Int32.toInt64 r19)) (fun (r20 : Int64) => bd (f_X2_nextLoser S) (fun (r21 : Int32) => bd (f_X2_mixed r20 (Int32.toInt64 r21)) (fun (r22 : Int64) => lpf2 (b_X2_digest_116 S) FU r22 (0 : Int32)))))))))))))))))))))))
abbrev rm_X2_digest : Room := { frames := 4, cells := 0, slots := 0, locals := 87 }
theorem np_X2_digest : yX2_digest.cls ≠ "java/lang/invoke/MethodHandle" ∧ yX2_digest.cls ≠ "java/lang/invoke/VarHandle" ∧ (parseMethodDescriptor yX2_digest.desc).map (fun d => d.parameters.length) = some 0 := by decide +kernel
set_option maxHeartbeats 4000000 in
set_option maxRecDepth 100000 in
theorem k_X2_digest (l : Launch) (D : va_G) (cs : CS) (a : Nat → Nat → Nat) (S : BO) {r9 : Int64} (h : f_X2_digest S = some r9) : ML l D cs yX2_digest cX2_digest 4 rm_X2_digest [.ref (a 0 0)] (wB cs a S) r9 (wB cs a S) := by
  refine ML_of (by decide) (Nat.le_of_ble_eq_true rfl) ?_
  rintro Γ rfl rfl rfl B ret
  show X Γ 4 0 0 0 [(0, .ref (a 0 0))] [] (wB Γ.cs a S)
  have h142 : ∀ (n9 : Nat) (x1 : Int64) (x3 : Int32), lpf2 (b_X2_digest_142 S) n9 x1 x3 = some r9 → X Γ 4 0 0 142 [(0, .ref (a 0 0)), (1, .long x1), (3, .int x3)] [] (wB Γ.cs a S) := by
    refine lpf2_ind (fun K142 hK142 x1 x3 h => ?_)
    unfold b_X2_digest_142 at h
    refine x_iload_n B (pc' := 143) 2 dX2_digest_142 rfl rfl rfl ?_
    refine x_bipush B (pc' := 145) 32 dX2_digest_143 (by decide) rfl ?_
    refine x_icmp_ge B 171 148 dX2_digest_145 (by decide) rfl (fun hc26 => ?_) (fun hc26 => ?_)
    · replace h := ite_t hc26 h
      refine x_lload_n B (pc' := 172) 1 dX2_digest_171 rfl rfl rfl ?_
      have h1 := (Option.some.inj h)
      subst h1
      exact ret (by exact Nat.le_of_ble_eq_true rfl) (by exact Nat.le_of_ble_eq_true rfl) dX2_digest_172
    · replace h := ite_f hc26 h
      refine x_lload_n B (pc' := 149) 1 dX2_digest_148 rfl rfl rfl ?_
      refine x_aload_n B (pc' := 150) 0 dX2_digest_149 rfl rfl rfl ?_
      refine b_ref0 B (pc' := 153) wf_RX2_10 dX2_digest_150 rfl ?_
      refine bn_ref0 B (pc' := 156) wf_RX2_126 dX2_digest_153 rfl ?_
      refine x_iload_n B (pc' := 157) 2 dX2_digest_156 rfl rfl rfl ?_
      refine bn_vAt0 B (pc' := 160) ⟨Nat.le_of_ble_eq_true rfl, Nat.le_of_ble_eq_true rfl⟩ ⟨Nat.le_of_ble_eq_true rfl, Nat.le_of_ble_eq_true rfl⟩ (Nat.le_of_ble_eq_true rfl) rfl dX2_digest_157 rfl ?_
      refine x_i2l B (pc' := 161) dX2_digest_160 rfl ?_
      obtain ⟨r27, er27, h⟩ := bd_elim h
      refine x_pureSl B (pc' := 164) [.long x1, .long (Int32.toInt64 (vAt 32 (S.2.1.2 0) x3))] (k_X2_mixed _ _ _ x1 (Int32.toInt64 (vAt 32 (S.2.1.2 0) x3)) er27) gv_RX2_221 np_X2_mixed ⟨Nat.le_of_ble_eq_true rfl, Nat.le_of_ble_eq_true rfl⟩ ⟨by exact Nat.le_of_ble_eq_true rfl, by exact Nat.le_of_ble_eq_true rfl⟩ rfl (Nat.le_of_ble_eq_true rfl) dX2_digest_161 rfl ?_
      refine x_lstore_n B (pc' := 165) [1, 0, 2] [(0, .ref (a 0 0)), (1, .long r27), (3, .int x3)] dX2_digest_164 rfl (by decide) rfl rfl ?_
      obtain ⟨v28, ev28, h⟩ := nm_elim h
      refine x_iinc B (pc' := 168) v28 2 [1, 2, 0] [(0, .ref (a 0 0)), (1, .long r27), (3, .int v28)] dX2_digest_165 rfl (by rw [ev28]; rfl) (by decide) rfl rfl ?_
      refine x_goto B (pc' := 142) dX2_digest_168 (by decide) ?_
      exact hK142 _ _ h
  have h116 : ∀ (n9 : Nat) (x1 : Int64) (x3 : Int32), lpf2 (b_X2_digest_116 S) n9 x1 x3 = some r9 → X Γ 4 0 0 116 [(0, .ref (a 0 0)), (1, .long x1), (3, .int x3)] [] (wB Γ.cs a S) := by
    refine lpf2_ind (fun K116 hK116 x1 x3 h => ?_)
    unfold b_X2_digest_116 at h
    refine x_iload_n B (pc' := 117) 2 dX2_digest_116 rfl rfl rfl ?_
    refine x_aload_n B (pc' := 118) 0 dX2_digest_117 rfl rfl rfl ?_
    refine b_ref0 B (pc' := 121) wf_RX2_10 dX2_digest_118 rfl ?_
    refine bn_get7 B (pc' := 124) wf_RX2_99 dX2_digest_121 rfl ?_
    refine x_icmp_ge B 140 127 dX2_digest_124 (by decide) rfl (fun hc23 => ?_) (fun hc23 => ?_)
    · replace h := ite_t hc23 h
      refine x_iconst B (pc' := 141) 0 dX2_digest_140 (by decide) rfl ?_
      refine x_istore_n B (pc' := 142) [1, 2, 0] [(0, .ref (a 0 0)), (1, .long x1), (3, .int (0 : Int32))] dX2_digest_141 rfl (by decide) rfl rfl ?_
      exact h142  _ _ _ h
    · replace h := ite_f hc23 h
      refine x_aload_n B (pc' := 128) 0 dX2_digest_127 rfl rfl rfl ?_
      refine x_lload_n B (pc' := 129) 1 dX2_digest_128 rfl rfl rfl ?_
      refine x_iload_n B (pc' := 130) 2 dX2_digest_129 rfl rfl rfl ?_
      obtain ⟨r24, er24, h⟩ := bd_elim h
      refine x_selfVl B (pc' := 133) [.long x1, .int x3] (k_X2_withRecording _ _ _ a x1 x3 S er24) rfl rfl gv_RX2_251 rfl np_X2_withRecording ⟨Nat.le_of_ble_eq_true rfl, Nat.le_of_ble_eq_true rfl⟩ ⟨by exact Nat.le_of_ble_eq_true rfl, by exact Nat.le_of_ble_eq_true rfl⟩ rfl (Nat.le_of_ble_eq_true rfl) dX2_digest_130 rfl ?_
      refine x_lstore_n B (pc' := 134) [1, 0, 2] [(0, .ref (a 0 0)), (1, .long r24), (3, .int x3)] dX2_digest_133 rfl (by decide) rfl rfl ?_
      obtain ⟨v25, ev25, h⟩ := nm_elim h
      refine x_iinc B (pc' := 137) v25 2 [1, 2, 0] [(0, .ref (a 0 0)), (1, .long r24), (3, .int v25)] dX2_digest_134 rfl (by rw [ev25]; rfl) (by decide) rfl rfl ?_
      refine x_goto B (pc' := 116) dX2_digest_137 (by decide) ?_
      exact hK116 _ _ h
  unfold f_X2_digest at h
  refine x_ldc2 B (pc' := 3) 4444 wk_RX2_216 dX2_digest_0 rfl ?_
  refine x_lstore_n B (pc' := 4) [1, 0] [(0, .ref (a 0 0)), (1, .long (4444 : Int64))] dX2_digest_3 rfl (by decide) rfl rfl ?_
  refine x_lload_n B (pc' := 5) 1 dX2_digest_4 rfl rfl rfl ?_
  refine x_aload_n B (pc' := 6) 0 dX2_digest_5 rfl rfl rfl ?_
  obtain ⟨r1, er1, h⟩ := bd_elim h
  refine x_selfVi B (pc' := 9) [] (k_X2_recordings _ _ _ a S er1) rfl rfl gv_RX2_218 rfl np_X2_recordings ⟨Nat.le_of_ble_eq_true rfl, Nat.le_of_ble_eq_true rfl⟩ ⟨by exact Nat.le_of_ble_eq_true rfl, by exact Nat.le_of_ble_eq_true rfl⟩ rfl (Nat.le_of_ble_eq_true rfl) dX2_digest_6 rfl ?_
  refine x_i2l B (pc' := 10) dX2_digest_9 rfl ?_
  obtain ⟨r2, er2, h⟩ := bd_elim h
  refine x_pureSl B (pc' := 13) [.long (4444 : Int64), .long (Int32.toInt64 r1)] (k_X2_mixed _ _ _ (4444 : Int64) (Int32.toInt64 r1) er2) gv_RX2_221 np_X2_mixed ⟨Nat.le_of_ble_eq_true rfl, Nat.le_of_ble_eq_true rfl⟩ ⟨by exact Nat.le_of_ble_eq_true rfl, by exact Nat.le_of_ble_eq_true rfl⟩ rfl (Nat.le_of_ble_eq_true rfl) dX2_digest_10 rfl ?_
  refine x_lstore_n B (pc' := 14) [1, 0] [(0, .ref (a 0 0)), (1, .long r2)] dX2_digest_13 rfl (by decide) rfl rfl ?_
  refine x_lload_n B (pc' := 15) 1 dX2_digest_14 rfl rfl rfl ?_
  refine x_aload_n B (pc' := 16) 0 dX2_digest_15 rfl rfl rfl ?_
  obtain ⟨r3, er3, h⟩ := bd_elim h
  refine x_selfVi B (pc' := 19) [] (k_X2_running _ _ _ a S er3) rfl rfl gv_RX2_225 rfl np_X2_running ⟨Nat.le_of_ble_eq_true rfl, Nat.le_of_ble_eq_true rfl⟩ ⟨by exact Nat.le_of_ble_eq_true rfl, by exact Nat.le_of_ble_eq_true rfl⟩ rfl (Nat.le_of_ble_eq_true rfl) dX2_digest_16 rfl ?_
  refine x_i2l B (pc' := 20) dX2_digest_19 rfl ?_
  obtain ⟨r4, er4, h⟩ := bd_elim h
  refine x_pureSl B (pc' := 23) [.long r2, .long (Int32.toInt64 r3)] (k_X2_mixed _ _ _ r2 (Int32.toInt64 r3) er4) gv_RX2_221 np_X2_mixed ⟨Nat.le_of_ble_eq_true rfl, Nat.le_of_ble_eq_true rfl⟩ ⟨by exact Nat.le_of_ble_eq_true rfl, by exact Nat.le_of_ble_eq_true rfl⟩ rfl (Nat.le_of_ble_eq_true rfl) dX2_digest_20 rfl ?_
  refine x_lstore_n B (pc' := 24) [1, 0] [(0, .ref (a 0 0)), (1, .long r4)] dX2_digest_23 rfl (by decide) rfl rfl ?_
  refine x_lload_n B (pc' := 25) 1 dX2_digest_24 rfl rfl rfl ?_
  refine x_aload_n B (pc' := 26) 0 dX2_digest_25 rfl rfl rfl ?_
  obtain ⟨r5, er5, h⟩ := bd_elim h
  refine x_selfVi B (pc' := 29) [] (k_X2_head _ _ _ a S er5) rfl rfl gv_RX2_228 rfl np_X2_head ⟨Nat.le_of_ble_eq_true rfl, Nat.le_of_ble_eq_true rfl⟩ ⟨by exact Nat.le_of_ble_eq_true rfl, by exact Nat.le_of_ble_eq_true rfl⟩ rfl (Nat.le_of_ble_eq_true rfl) dX2_digest_26 rfl ?_
  refine x_i2l B (pc' := 30) dX2_digest_29 rfl ?_
  obtain ⟨r6, er6, h⟩ := bd_elim h
  refine x_pureSl B (pc' := 33) [.long r4, .long (Int32.toInt64 r5)] (k_X2_mixed _ _ _ r4 (Int32.toInt64 r5) er6) gv_RX2_221 np_X2_mixed ⟨Nat.le_of_ble_eq_true rfl, Nat.le_of_ble_eq_true rfl⟩ ⟨by exact Nat.le_of_ble_eq_true rfl, by exact Nat.le_of_ble_eq_true rfl⟩ rfl (Nat.le_of_ble_eq_true rfl) dX2_digest_30 rfl ?_
  refine x_lstore_n B (pc' := 34) [1, 0] [(0, .ref (a 0 0)), (1, .long r6)] dX2_digest_33 rfl (by decide) rfl rfl ?_
  refine x_lload_n B (pc' := 35) 1 dX2_digest_34 rfl rfl rfl ?_
  refine x_aload_n B (pc' := 36) 0 dX2_digest_35 rfl rfl rfl ?_
  obtain ⟨r7, er7, h⟩ := bd_elim h
  refine x_selfVi B (pc' := 39) [] (k_X2_free _ _ _ a S er7) rfl rfl gv_RX2_230 rfl np_X2_free ⟨Nat.le_of_ble_eq_true rfl, Nat.le_of_ble_eq_true rfl⟩ ⟨by exact Nat.le_of_ble_eq_true rfl, by exact Nat.le_of_ble_eq_true rfl⟩ rfl (Nat.le_of_ble_eq_true rfl) dX2_digest_36 rfl ?_
  refine x_i2l B (pc' := 40) dX2_digest_39 rfl ?_
  obtain ⟨r8, er8, h⟩ := bd_elim h
  refine x_pureSl B (pc' := 43) [.long r6, .long (Int32.toInt64 r7)] (k_X2_mixed _ _ _ r6 (Int32.toInt64 r7) er8) gv_RX2_221 np_X2_mixed ⟨Nat.le_of_ble_eq_true rfl, Nat.le_of_ble_eq_true rfl⟩ ⟨by exact Nat.le_of_ble_eq_true rfl, by exact Nat.le_of_ble_eq_true rfl⟩ rfl (Nat.le_of_ble_eq_true rfl) dX2_digest_40 rfl ?_
  refine x_lstore_n B (pc' := 44) [1, 0] [(0, .ref (a 0 0)), (1, .long r8)] dX2_digest_43 rfl (by decide) rfl rfl ?_
  refine x_lload_n B (pc' := 45) 1 dX2_digest_44 rfl rfl rfl ?_
  refine x_aload_n B (pc' := 46) 0 dX2_digest_45 rfl rfl rfl ?_
  obtain ⟨r9, er9, h⟩ := bd_elim h
  refine x_selfVi B (pc' := 49) [] (k_X2_spoken _ _ _ a S er9) rfl rfl gv_RX2_233 rfl np_X2_spoken ⟨Nat.le_of_ble_eq_true rfl, Nat.le_of_ble_eq_true rfl⟩ ⟨by exact Nat.le_of_ble_eq_true rfl, by exact Nat.le_of_ble_eq_true rfl⟩ rfl (Nat.le_of_ble_eq_true rfl) dX2_digest_46 rfl ?_
  refine x_i2l B (pc' := 50) dX2_digest_49 rfl ?_
  obtain ⟨r10, er10, h⟩ := bd_elim h
  refine x_pureSl B (pc' := 53) [.long r8, .long (Int32.toInt64 r9)] (k_X2_mixed _ _ _ r8 (Int32.toInt64 r9) er10) gv_RX2_221 np_X2_mixed ⟨Nat.le_of_ble_eq_true rfl, Nat.le_of_ble_eq_true rfl⟩ ⟨by exact Nat.le_of_ble_eq_true rfl, by exact Nat.le_of_ble_eq_true rfl⟩ rfl (Nat.le_of_ble_eq_true rfl) dX2_digest_50 rfl ?_
  refine x_lstore_n B (pc' := 54) [1, 0] [(0, .ref (a 0 0)), (1, .long r10)] dX2_digest_53 rfl (by decide) rfl rfl ?_
  refine x_lload_n B (pc' := 55) 1 dX2_digest_54 rfl rfl rfl ?_
  refine x_aload_n B (pc' := 56) 0 dX2_digest_55 rfl rfl rfl ?_
  obtain ⟨r11, er11, h⟩ := bd_elim h
  refine x_selfVi B (pc' := 59) [] (k_X2_gone _ _ _ a S er11) rfl rfl gv_RX2_235 rfl np_X2_gone ⟨Nat.le_of_ble_eq_true rfl, Nat.le_of_ble_eq_true rfl⟩ ⟨by exact Nat.le_of_ble_eq_true rfl, by exact Nat.le_of_ble_eq_true rfl⟩ rfl (Nat.le_of_ble_eq_true rfl) dX2_digest_56 rfl ?_
  refine x_i2l B (pc' := 60) dX2_digest_59 rfl ?_
  obtain ⟨r12, er12, h⟩ := bd_elim h
  refine x_pureSl B (pc' := 63) [.long r10, .long (Int32.toInt64 r11)] (k_X2_mixed _ _ _ r10 (Int32.toInt64 r11) er12) gv_RX2_221 np_X2_mixed ⟨Nat.le_of_ble_eq_true rfl, Nat.le_of_ble_eq_true rfl⟩ ⟨by exact Nat.le_of_ble_eq_true rfl, by exact Nat.le_of_ble_eq_true rfl⟩ rfl (Nat.le_of_ble_eq_true rfl) dX2_digest_60 rfl ?_
  refine x_lstore_n B (pc' := 64) [1, 0] [(0, .ref (a 0 0)), (1, .long r12)] dX2_digest_63 rfl (by decide) rfl rfl ?_
  refine x_lload_n B (pc' := 65) 1 dX2_digest_64 rfl rfl rfl ?_
  refine x_aload_n B (pc' := 66) 0 dX2_digest_65 rfl rfl rfl ?_
  obtain ⟨r13, er13, h⟩ := bd_elim h
  refine x_selfVi B (pc' := 69) [] (k_X2_playing _ _ _ a S er13) rfl rfl gv_RX2_237 rfl np_X2_playing ⟨Nat.le_of_ble_eq_true rfl, Nat.le_of_ble_eq_true rfl⟩ ⟨by exact Nat.le_of_ble_eq_true rfl, by exact Nat.le_of_ble_eq_true rfl⟩ rfl (Nat.le_of_ble_eq_true rfl) dX2_digest_66 rfl ?_
  refine x_i2l B (pc' := 70) dX2_digest_69 rfl ?_
  obtain ⟨r14, er14, h⟩ := bd_elim h
  refine x_pureSl B (pc' := 73) [.long r12, .long (Int32.toInt64 r13)] (k_X2_mixed _ _ _ r12 (Int32.toInt64 r13) er14) gv_RX2_221 np_X2_mixed ⟨Nat.le_of_ble_eq_true rfl, Nat.le_of_ble_eq_true rfl⟩ ⟨by exact Nat.le_of_ble_eq_true rfl, by exact Nat.le_of_ble_eq_true rfl⟩ rfl (Nat.le_of_ble_eq_true rfl) dX2_digest_70 rfl ?_
  refine x_lstore_n B (pc' := 74) [1, 0] [(0, .ref (a 0 0)), (1, .long r14)] dX2_digest_73 rfl (by decide) rfl rfl ?_
  refine x_lload_n B (pc' := 75) 1 dX2_digest_74 rfl rfl rfl ?_
  refine x_aload_n B (pc' := 76) 0 dX2_digest_75 rfl rfl rfl ?_
  obtain ⟨r15, er15, h⟩ := bd_elim h
  refine x_selfVi B (pc' := 79) [] (k_X2_place _ _ _ a S er15) rfl rfl gv_RX2_240 rfl np_X2_place ⟨Nat.le_of_ble_eq_true rfl, Nat.le_of_ble_eq_true rfl⟩ ⟨by exact Nat.le_of_ble_eq_true rfl, by exact Nat.le_of_ble_eq_true rfl⟩ rfl (Nat.le_of_ble_eq_true rfl) dX2_digest_76 rfl ?_
  refine x_i2l B (pc' := 80) dX2_digest_79 rfl ?_
  obtain ⟨r16, er16, h⟩ := bd_elim h
  refine x_pureSl B (pc' := 83) [.long r14, .long (Int32.toInt64 r15)] (k_X2_mixed _ _ _ r14 (Int32.toInt64 r15) er16) gv_RX2_221 np_X2_mixed ⟨Nat.le_of_ble_eq_true rfl, Nat.le_of_ble_eq_true rfl⟩ ⟨by exact Nat.le_of_ble_eq_true rfl, by exact Nat.le_of_ble_eq_true rfl⟩ rfl (Nat.le_of_ble_eq_true rfl) dX2_digest_80 rfl ?_
  refine x_lstore_n B (pc' := 84) [1, 0] [(0, .ref (a 0 0)), (1, .long r16)] dX2_digest_83 rfl (by decide) rfl rfl ?_
  refine x_lload_n B (pc' := 85) 1 dX2_digest_84 rfl rfl rfl ?_
  refine x_aload_n B (pc' := 86) 0 dX2_digest_85 rfl rfl rfl ?_
  obtain ⟨r17, er17, h⟩ := bd_elim h
  refine x_selfVi B (pc' := 89) [] (k_X2_corrected _ _ _ a S er17) rfl rfl gv_RX2_242 rfl np_X2_corrected ⟨Nat.le_of_ble_eq_true rfl, Nat.le_of_ble_eq_true rfl⟩ ⟨by exact Nat.le_of_ble_eq_true rfl, by exact Nat.le_of_ble_eq_true rfl⟩ rfl (Nat.le_of_ble_eq_true rfl) dX2_digest_86 rfl ?_
  refine x_i2l B (pc' := 90) dX2_digest_89 rfl ?_
  obtain ⟨r18, er18, h⟩ := bd_elim h
  refine x_pureSl B (pc' := 93) [.long r16, .long (Int32.toInt64 r17)] (k_X2_mixed _ _ _ r16 (Int32.toInt64 r17) er18) gv_RX2_221 np_X2_mixed ⟨Nat.le_of_ble_eq_true rfl, Nat.le_of_ble_eq_true rfl⟩ ⟨by exact Nat.le_of_ble_eq_true rfl, by exact Nat.le_of_ble_eq_true rfl⟩ rfl (Nat.le_of_ble_eq_true rfl) dX2_digest_90 rfl ?_
  refine x_lstore_n B (pc' := 94) [1, 0] [(0, .ref (a 0 0)), (1, .long r18)] dX2_digest_93 rfl (by decide) rfl rfl ?_
  refine x_lload_n B (pc' := 95) 1 dX2_digest_94 rfl rfl rfl ?_
  refine x_aload_n B (pc' := 96) 0 dX2_digest_95 rfl rfl rfl ?_
  obtain ⟨r19, er19, h⟩ := bd_elim h
  refine x_selfVi B (pc' := 99) [] (k_X2_room _ _ _ a S er19) rfl rfl gv_RX2_245 rfl np_X2_room ⟨Nat.le_of_ble_eq_true rfl, Nat.le_of_ble_eq_true rfl⟩ ⟨by exact Nat.le_of_ble_eq_true rfl, by exact Nat.le_of_ble_eq_true rfl⟩ rfl (Nat.le_of_ble_eq_true rfl) dX2_digest_96 rfl ?_
  refine x_i2l B (pc' := 100) dX2_digest_99 rfl ?_
  obtain ⟨r20, er20, h⟩ := bd_elim h
  refine x_pureSl B (pc' := 103) [.long r18, .long (Int32.toInt64 r19)] (k_X2_mixed _ _ _ r18 (Int32.toInt64 r19) er20) gv_RX2_221 np_X2_mixed ⟨Nat.le_of_ble_eq_true rfl, Nat.le_of_ble_eq_true rfl⟩ ⟨by exact Nat.le_of_ble_eq_true rfl, by exact Nat.le_of_ble_eq_true rfl⟩ rfl (Nat.le_of_ble_eq_true rfl) dX2_digest_100 rfl ?_
  refine x_lstore_n B (pc' := 104) [1, 0] [(0, .ref (a 0 0)), (1, .long r20)] dX2_digest_103 rfl (by decide) rfl rfl ?_
  refine x_lload_n B (pc' := 105) 1 dX2_digest_104 rfl rfl rfl ?_
  refine x_aload_n B (pc' := 106) 0 dX2_digest_105 rfl rfl rfl ?_
  obtain ⟨r21, er21, h⟩ := bd_elim h
  refine x_selfVi B (pc' := 109) [] (k_X2_nextLoser _ _ _ a S er21) rfl rfl gv_RX2_248 rfl np_X2_nextLoser ⟨Nat.le_of_ble_eq_true rfl, Nat.le_of_ble_eq_true rfl⟩ ⟨by exact Nat.le_of_ble_eq_true rfl, by exact Nat.le_of_ble_eq_true rfl⟩ rfl (Nat.le_of_ble_eq_true rfl) dX2_digest_106 rfl ?_
  refine x_i2l B (pc' := 110) dX2_digest_109 rfl ?_
  obtain ⟨r22, er22, h⟩ := bd_elim h
  refine x_pureSl B (pc' := 113) [.long r20, .long (Int32.toInt64 r21)] (k_X2_mixed _ _ _ r20 (Int32.toInt64 r21) er22) gv_RX2_221 np_X2_mixed ⟨Nat.le_of_ble_eq_true rfl, Nat.le_of_ble_eq_true rfl⟩ ⟨by exact Nat.le_of_ble_eq_true rfl, by exact Nat.le_of_ble_eq_true rfl⟩ rfl (Nat.le_of_ble_eq_true rfl) dX2_digest_110 rfl ?_
  refine x_lstore_n B (pc' := 114) [1, 0] [(0, .ref (a 0 0)), (1, .long r22)] dX2_digest_113 rfl (by decide) rfl rfl ?_
  refine x_iconst B (pc' := 115) 0 dX2_digest_114 (by decide) rfl ?_
  refine x_istore_n B (pc' := 116) [1, 2, 0] [(0, .ref (a 0 0)), (1, .long r22), (3, .int (0 : Int32))] dX2_digest_115 rfl (by decide) rfl rfl ?_
  exact h116  _ _ _ h
end
section
def f_X2_begin (S : BO) : Option ((String ⊕ Int32) × BO) :=
  bd (f_X1_mayBegin S.2.1) (fun (r1 : Int32) => if r1 = 0 then (some (.inl "java/lang/IllegalStateException", S)) else (bd (f_X2_save S) (fun (S3 : BO) => bd2 (f_X1_beginRecording S3.2.1) (fun (r6 : Int32) (S4 : OB) => nm (fun (S5 : BO) => some (.inr r6, S5)) (S3.1, S4, S3.2.2)))))
abbrev rm_X2_begin : Room := { frames := 4, cells := 0, slots := 0, locals := 106 }
theorem np_X2_begin : yX2_begin.cls ≠ "java/lang/invoke/MethodHandle" ∧ yX2_begin.cls ≠ "java/lang/invoke/VarHandle" ∧ (parseMethodDescriptor yX2_begin.desc).map (fun d => d.parameters.length) = some 0 := by decide +kernel
set_option maxHeartbeats 4000000 in
set_option maxRecDepth 100000 in
theorem k_X2_begin (l : Launch) (D : va_G) (cs : CS) (a : Nat → Nat → Nat) (S : BO) {r9 : Int32} {S9 : BO} (h : f_X2_begin S = some (.inr r9, S9)) : MI l D cs yX2_begin cX2_begin 1 .int rm_X2_begin [.ref (a 0 0)] (wB cs a S) r9 (wB cs a S9) := by
  refine MI_of (by decide) (Nat.le_of_ble_eq_true rfl) ?_
  rintro Γ rfl rfl rfl B ret
  show X Γ 1 0 0 0 [(0, .ref (a 0 0))] [] (wB Γ.cs a S)
  unfold f_X2_begin at h
  refine x_aload_n B (pc' := 1) 0 dX2_begin_0 rfl rfl rfl ?_
  refine b_ref0 B (pc' := 4) wf_RX2_10 dX2_begin_1 rfl ?_
  obtain ⟨r1, er1, h⟩ := bd_elim h
  refine b_nowRi B (pc' := 7) [] (k_X1_mayBegin _ _ _ (a 1) S.2.1 er1) gv_RX2_34 rfl np_X1_mayBegin ⟨Nat.le_of_ble_eq_true rfl, Nat.le_of_ble_eq_true rfl⟩ ⟨by exact Nat.le_of_ble_eq_true rfl, by exact Nat.le_of_ble_eq_true rfl⟩ rfl (Nat.le_of_ble_eq_true rfl) dX2_begin_4 rfl ?_
  refine x_if_ne B 20 10 dX2_begin_7 (by decide) rfl (fun hc2 => ?_) (fun hc2 => ?_)
  · replace h := ite_f hc2 h
    refine x_aload_n B (pc' := 21) 0 dX2_begin_20 rfl rfl rfl ?_
    obtain ⟨S3, eS3, h⟩ := bd_elim h
    refine x_selfVv B (pc' := 24) [] (k_X2_save _ _ _ a S eS3) rfl rfl gv_RX2_45 rfl np_X2_save ⟨Nat.le_of_ble_eq_true rfl, Nat.le_of_ble_eq_true rfl⟩ ⟨by exact Nat.le_of_ble_eq_true rfl, by exact Nat.le_of_ble_eq_true rfl⟩ rfl (Nat.le_of_ble_eq_true rfl) dX2_begin_21 rfl ?_
    refine x_aload_n B (pc' := 25) 0 dX2_begin_24 rfl rfl rfl ?_
    refine b_ref0 B (pc' := 28) wf_RX2_10 dX2_begin_25 rfl ?_
    obtain ⟨r6, S4, er6, h⟩ := bd2_elim h
    obtain ⟨S5, eS5, h⟩ := nm_elim h
    refine b_nowVi B (pc' := 31) [] (k_X1_beginRecording _ _ _ (a 1) S3.2.1 er6) gv_RX2_48 rfl np_X1_beginRecording ⟨Nat.le_of_ble_eq_true rfl, Nat.le_of_ble_eq_true rfl⟩ ⟨by exact Nat.le_of_ble_eq_true rfl, by exact Nat.le_of_ble_eq_true rfl⟩ rfl (Nat.le_of_ble_eq_true rfl) dX2_begin_28 rfl ?_
    refine b_wd eS5 ?_
    obtain ⟨h1, h2⟩ := some2 h
    replace h1 := Sum.inr.inj h1
    subst h1
    subst h2
    exact ret rfl (by exact Nat.le_of_ble_eq_true rfl) (by exact Nat.le_of_ble_eq_true rfl) dX2_begin_31
  · replace h := ite_t hc2 h
    cases h
def f_X2_halt (S : BO) : Option ((String ⊕ Int32) × BO) :=
  if (S.2.1.1 8) = 0 then (some (.inl "java/lang/IllegalStateException", S)) else (bd (f_X2_save S) (fun (S2 : BO) => bd2 (f_X1_stopRecording S2.2.1) (fun (r5 : Int32) (S3 : OB) => nm (fun (S4 : BO) => some (.inr r5, S4)) (S2.1, S3, S2.2.2))))
abbrev rm_X2_halt : Room := { frames := 3, cells := 0, slots := 0, locals := 106 }
theorem np_X2_halt : yX2_halt.cls ≠ "java/lang/invoke/MethodHandle" ∧ yX2_halt.cls ≠ "java/lang/invoke/VarHandle" ∧ (parseMethodDescriptor yX2_halt.desc).map (fun d => d.parameters.length) = some 0 := by decide +kernel
set_option maxHeartbeats 4000000 in
set_option maxRecDepth 100000 in
theorem k_X2_halt (l : Launch) (D : va_G) (cs : CS) (a : Nat → Nat → Nat) (S : BO) {r9 : Int32} {S9 : BO} (h : f_X2_halt S = some (.inr r9, S9)) : MI l D cs yX2_halt cX2_halt 1 .int rm_X2_halt [.ref (a 0 0)] (wB cs a S) r9 (wB cs a S9) := by
  refine MI_of (by decide) (Nat.le_of_ble_eq_true rfl) ?_
  rintro Γ rfl rfl rfl B ret
  show X Γ 1 0 0 0 [(0, .ref (a 0 0))] [] (wB Γ.cs a S)
  unfold f_X2_halt at h
  refine x_aload_n B (pc' := 1) 0 dX2_halt_0 rfl rfl rfl ?_
  refine b_ref0 B (pc' := 4) wf_RX2_10 dX2_halt_1 rfl ?_
  refine bn_get8 B (pc' := 7) wf_RX2_52 dX2_halt_4 rfl ?_
  refine x_if_ne B 20 10 dX2_halt_7 (by decide) rfl (fun hc1 => ?_) (fun hc1 => ?_)
  · replace h := ite_f hc1 h
    refine x_aload_n B (pc' := 21) 0 dX2_halt_20 rfl rfl rfl ?_
    obtain ⟨S2, eS2, h⟩ := bd_elim h
    refine x_selfVv B (pc' := 24) [] (k_X2_save _ _ _ a S eS2) rfl rfl gv_RX2_45 rfl np_X2_save ⟨Nat.le_of_ble_eq_true rfl, Nat.le_of_ble_eq_true rfl⟩ ⟨by exact Nat.le_of_ble_eq_true rfl, by exact Nat.le_of_ble_eq_true rfl⟩ rfl (Nat.le_of_ble_eq_true rfl) dX2_halt_21 rfl ?_
    refine x_aload_n B (pc' := 25) 0 dX2_halt_24 rfl rfl rfl ?_
    refine b_ref0 B (pc' := 28) wf_RX2_10 dX2_halt_25 rfl ?_
    obtain ⟨r5, S3, er5, h⟩ := bd2_elim h
    obtain ⟨S4, eS4, h⟩ := nm_elim h
    refine b_nowVi B (pc' := 31) [] (k_X1_stopRecording _ _ _ (a 1) S2.2.1 er5) gv_RX2_58 rfl np_X1_stopRecording ⟨Nat.le_of_ble_eq_true rfl, Nat.le_of_ble_eq_true rfl⟩ ⟨by exact Nat.le_of_ble_eq_true rfl, by exact Nat.le_of_ble_eq_true rfl⟩ rfl (Nat.le_of_ble_eq_true rfl) dX2_halt_28 rfl ?_
    refine b_wd eS4 ?_
    obtain ⟨h1, h2⟩ := some2 h
    replace h1 := Sum.inr.inj h1
    subst h1
    subst h2
    exact ret rfl (by exact Nat.le_of_ble_eq_true rfl) (by exact Nat.le_of_ble_eq_true rfl) dX2_halt_31
  · replace h := ite_t hc1 h
    cases h
def c_X2_requireSound_10 : Option (String ⊕ Unit) :=
  some (.inl "java/lang/IllegalArgumentException")
def f_X2_requireSound (p0 : Int32) : Option (String ⊕ Unit) :=
  if p0 < 0 then (c_X2_requireSound_10 ) else (if p0 ≤ (99 : Int32) then (some (.inr ())) else (c_X2_requireSound_10 ))
abbrev rm_X2_requireSound : Room := { frames := 0, cells := 0, slots := 0, locals := 0 }
theorem np_X2_requireSound : yX2_requireSound.cls ≠ "java/lang/invoke/MethodHandle" ∧ yX2_requireSound.cls ≠ "java/lang/invoke/VarHandle" ∧ (parseMethodDescriptor yX2_requireSound.desc).map (fun d => d.parameters.length) = some 1 := by decide +kernel
set_option maxHeartbeats 4000000 in
set_option maxRecDepth 100000 in
theorem k_X2_requireSound (l : Launch) (D : va_G) (cs : CS)  (p0 : Int32) (h : f_X2_requireSound p0 = some (.inr ())) : MV l D cs yX2_requireSound cX2_requireSound 1 rm_X2_requireSound [.int p0] ([]) ([]) := by
  refine MV_of (by decide) (Nat.le_of_ble_eq_true rfl) ?_
  rintro Γ rfl rfl rfl B ret
  show X Γ 1 0 0 0 [(0, .int p0)] [] ([])
  have h10 : c_X2_requireSound_10   = some (.inr ()) → X Γ 1 0 0 10 [] [] ([]) := by
    intro   h
    unfold c_X2_requireSound_10 at h
    cases h
  unfold f_X2_requireSound at h
  refine x_iload_n B (pc' := 1) 0 dX2_requireSound_0 rfl rfl rfl ?_
  refine x_if_lt B 10 4 dX2_requireSound_1 (by decide) rfl (fun hc1 => ?_) (fun hc1 => ?_)
  · replace h := ite_t hc1 h
    refine x_lv [] (lv' := []) rfl ?_
    exact h10   h
  · replace h := ite_f hc1 h
    refine x_iload_n B (pc' := 5) 0 dX2_requireSound_4 rfl rfl rfl ?_
    refine x_bipush B (pc' := 7) 99 dX2_requireSound_5 (by decide) rfl ?_
    refine x_icmp_le B 21 10 dX2_requireSound_7 (by decide) rfl (fun hc2 => ?_) (fun hc2 => ?_)
    · replace h := ite_t hc2 h
      exact ret (by exact Nat.le_of_ble_eq_true rfl) (by exact Nat.le_of_ble_eq_true rfl) dX2_requireSound_21
    · replace h := ite_f hc2 h
      refine x_lv [] (lv' := []) rfl ?_
      exact h10   h
def f_X2_speak (p0 : Int32) (S : BO) : Option ((String ⊕ Int32) × BO) :=
  bxw S (f_X2_requireSound p0) (fun (_ : Unit) => bd (f_X1_maySpeak (1 : Int32) S.2.1) (fun (r2 : Int32) => if r2 = 0 then (some (.inl "java/lang/IllegalStateException", S)) else (bd (f_X2_save S) (fun (S4 : BO) => bd2 (f_X1_speakTimes (1 : Int32) p0 S4.2.1) (fun (r7 : Int32) (S5 : OB) => nm (fun (S6 : BO) => some (.inr r7, S6)) (S4.1, S5, S4.2.2))))))
abbrev rm_X2_speak : Room := { frames := 4, cells := 0, slots := 0, locals := 106 }
theorem np_X2_speak : yX2_speak.cls ≠ "java/lang/invoke/MethodHandle" ∧ yX2_speak.cls ≠ "java/lang/invoke/VarHandle" ∧ (parseMethodDescriptor yX2_speak.desc).map (fun d => d.parameters.length) = some 1 := by decide +kernel
set_option maxHeartbeats 4000000 in
set_option maxRecDepth 100000 in
theorem k_X2_speak (l : Launch) (D : va_G) (cs : CS) (a : Nat → Nat → Nat) (p0 : Int32) (S : BO) {r9 : Int32} {S9 : BO} (h : f_X2_speak p0 S = some (.inr r9, S9)) : MI l D cs yX2_speak cX2_speak 2 .int rm_X2_speak [.ref (a 0 0), .int p0] (wB cs a S) r9 (wB cs a S9) := by
  refine MI_of (by decide) (Nat.le_of_ble_eq_true rfl) ?_
  rintro Γ rfl rfl rfl B ret
  show X Γ 2 0 0 0 [(0, .ref (a 0 0)), (1, .int p0)] [] (wB Γ.cs a S)
  unfold f_X2_speak at h
  refine x_iload_n B (pc' := 1) 1 dX2_speak_0 rfl rfl rfl ?_
  obtain ⟨_, eo1, h⟩ := bxw_in h
  refine x_pureSv B (pc' := 4) [.int p0] (k_X2_requireSound _ _ _ p0 eo1) gv_RX2_61 np_X2_requireSound ⟨Nat.le_of_ble_eq_true rfl, Nat.le_of_ble_eq_true rfl⟩ ⟨by exact Nat.le_of_ble_eq_true rfl, by exact Nat.le_of_ble_eq_true rfl⟩ rfl (Nat.le_of_ble_eq_true rfl) dX2_speak_1 rfl ?_
  refine x_aload_n B (pc' := 5) 0 dX2_speak_4 rfl rfl rfl ?_
  refine b_ref0 B (pc' := 8) wf_RX2_10 dX2_speak_5 rfl ?_
  refine x_iconst B (pc' := 9) 1 dX2_speak_8 (by decide) rfl ?_
  obtain ⟨r2, er2, h⟩ := bd_elim h
  refine b_nowRi B (pc' := 12) [.int (1 : Int32)] (k_X1_maySpeak _ _ _ (a 1) (1 : Int32) S.2.1 er2) gv_RX2_65 rfl np_X1_maySpeak ⟨Nat.le_of_ble_eq_true rfl, Nat.le_of_ble_eq_true rfl⟩ ⟨by exact Nat.le_of_ble_eq_true rfl, by exact Nat.le_of_ble_eq_true rfl⟩ rfl (Nat.le_of_ble_eq_true rfl) dX2_speak_9 rfl ?_
  refine x_if_ne B 25 15 dX2_speak_12 (by decide) rfl (fun hc3 => ?_) (fun hc3 => ?_)
  · replace h := ite_f hc3 h
    refine x_aload_n B (pc' := 26) 0 dX2_speak_25 rfl rfl rfl ?_
    obtain ⟨S4, eS4, h⟩ := bd_elim h
    refine x_selfVv B (pc' := 29) [] (k_X2_save _ _ _ a S eS4) rfl rfl gv_RX2_45 rfl np_X2_save ⟨Nat.le_of_ble_eq_true rfl, Nat.le_of_ble_eq_true rfl⟩ ⟨by exact Nat.le_of_ble_eq_true rfl, by exact Nat.le_of_ble_eq_true rfl⟩ rfl (Nat.le_of_ble_eq_true rfl) dX2_speak_26 rfl ?_
    refine x_aload_n B (pc' := 30) 0 dX2_speak_29 rfl rfl rfl ?_
    refine b_ref0 B (pc' := 33) wf_RX2_10 dX2_speak_30 rfl ?_
    refine x_iconst B (pc' := 34) 1 dX2_speak_33 (by decide) rfl ?_
    refine x_iload_n B (pc' := 35) 1 dX2_speak_34 rfl rfl rfl ?_
    obtain ⟨r7, S5, er7, h⟩ := bd2_elim h
    obtain ⟨S6, eS6, h⟩ := nm_elim h
    refine b_nowVi B (pc' := 38) [.int (1 : Int32), .int p0] (k_X1_speakTimes _ _ _ (a 1) (1 : Int32) p0 S4.2.1 er7) gv_RX2_71 rfl np_X1_speakTimes ⟨Nat.le_of_ble_eq_true rfl, Nat.le_of_ble_eq_true rfl⟩ ⟨by exact Nat.le_of_ble_eq_true rfl, by exact Nat.le_of_ble_eq_true rfl⟩ rfl (Nat.le_of_ble_eq_true rfl) dX2_speak_35 rfl ?_
    refine b_wd eS6 ?_
    obtain ⟨h1, h2⟩ := some2 h
    replace h1 := Sum.inr.inj h1
    subst h1
    subst h2
    exact ret rfl (by exact Nat.le_of_ble_eq_true rfl) (by exact Nat.le_of_ble_eq_true rfl) dX2_speak_38
  · replace h := ite_t hc3 h
    cases h
def f_X2_requireRecording (p0 : Int32) (S : BO) : Option (String ⊕ Unit) :=
  bd (f_X1_isRecording p0 S.2.1) (fun (r1 : Int32) => if r1 = 0 then (some (.inl "java/lang/IndexOutOfBoundsException")) else (some (.inr ())))
abbrev rm_X2_requireRecording : Room := { frames := 1, cells := 0, slots := 0, locals := 21 }
theorem np_X2_requireRecording : yX2_requireRecording.cls ≠ "java/lang/invoke/MethodHandle" ∧ yX2_requireRecording.cls ≠ "java/lang/invoke/VarHandle" ∧ (parseMethodDescriptor yX2_requireRecording.desc).map (fun d => d.parameters.length) = some 1 := by decide +kernel
set_option maxHeartbeats 4000000 in
set_option maxRecDepth 100000 in
theorem k_X2_requireRecording (l : Launch) (D : va_G) (cs : CS) (a : Nat → Nat → Nat) (p0 : Int32) (S : BO) (h : f_X2_requireRecording p0 S = some (.inr ())) : MV l D cs yX2_requireRecording cX2_requireRecording 2 rm_X2_requireRecording [.ref (a 0 0), .int p0] (wB cs a S) (wB cs a S) := by
  refine MV_of (by decide) (Nat.le_of_ble_eq_true rfl) ?_
  rintro Γ rfl rfl rfl B ret
  show X Γ 2 0 0 0 [(0, .ref (a 0 0)), (1, .int p0)] [] (wB Γ.cs a S)
  unfold f_X2_requireRecording at h
  refine x_aload_n B (pc' := 1) 0 dX2_requireRecording_0 rfl rfl rfl ?_
  refine b_ref0 B (pc' := 4) wf_RX2_10 dX2_requireRecording_1 rfl ?_
  refine x_iload_n B (pc' := 5) 1 dX2_requireRecording_4 rfl rfl rfl ?_
  obtain ⟨r1, er1, h⟩ := bd_elim h
  refine b_nowRi B (pc' := 8) [.int p0] (k_X1_isRecording _ _ _ (a 1) p0 S.2.1 er1) gv_RX2_276 rfl np_X1_isRecording ⟨Nat.le_of_ble_eq_true rfl, Nat.le_of_ble_eq_true rfl⟩ ⟨by exact Nat.le_of_ble_eq_true rfl, by exact Nat.le_of_ble_eq_true rfl⟩ rfl (Nat.le_of_ble_eq_true rfl) dX2_requireRecording_5 rfl ?_
  refine x_if_ne B 22 11 dX2_requireRecording_8 (by decide) rfl (fun hc2 => ?_) (fun hc2 => ?_)
  · replace h := ite_f hc2 h
    exact ret (by exact Nat.le_of_ble_eq_true rfl) (by exact Nat.le_of_ble_eq_true rfl) dX2_requireRecording_22
  · replace h := ite_t hc2 h
    cases h
def f_X2_setFlag (p0 : Int32) (p1 : Int32) (S : BO) : Option ((String ⊕ Int32) × BO) :=
  bxw S (f_X2_requireRecording p0 S) (fun (_ : Unit) => bd (f_X2_save S) (fun (S2 : BO) => bd (f_X1_isFlagged p0 S2.2.1) (fun (r3 : Int32) => bd (f_X1_putFlag p0 p1 S2.2.1) (fun (S4 : OB) => nm (fun (S5 : BO) => zb r3 (some (.inr r3, S5))) (S2.1, S4, S2.2.2)))))
abbrev rm_X2_setFlag : Room := { frames := 3, cells := 0, slots := 0, locals := 106 }
theorem np_X2_setFlag : yX2_setFlag.cls ≠ "java/lang/invoke/MethodHandle" ∧ yX2_setFlag.cls ≠ "java/lang/invoke/VarHandle" ∧ (parseMethodDescriptor yX2_setFlag.desc).map (fun d => d.parameters.length) = some 2 := by decide +kernel
set_option maxHeartbeats 4000000 in
set_option maxRecDepth 100000 in
theorem k_X2_setFlag (l : Launch) (D : va_G) (cs : CS) (a : Nat → Nat → Nat) (p0 : Int32) (p1 : Int32) (S : BO) {r9 : Int32} {S9 : BO} (h : f_X2_setFlag p0 p1 S = some (.inr r9, S9)) : MI l D cs yX2_setFlag cX2_setFlag 4 .boolean rm_X2_setFlag [.ref (a 0 0), .int p0, .int p1] (wB cs a S) r9 (wB cs a S9) := by
  refine MI_of (by decide) (Nat.le_of_ble_eq_true rfl) ?_
  rintro Γ rfl rfl rfl B ret
  show X Γ 4 0 0 0 [(0, .ref (a 0 0)), (1, .int p0), (2, .int p1)] [] (wB Γ.cs a S)
  unfold f_X2_setFlag at h
  refine x_aload_n B (pc' := 1) 0 dX2_setFlag_0 rfl rfl rfl ?_
  refine x_iload_n B (pc' := 2) 1 dX2_setFlag_1 rfl rfl rfl ?_
  obtain ⟨_, eo1, h⟩ := bxw_in h
  refine x_selfVv B (pc' := 5) [.int p0] (k_X2_requireRecording _ _ _ a p0 S eo1) rfl rfl gv_RX2_75 rfl np_X2_requireRecording ⟨Nat.le_of_ble_eq_true rfl, Nat.le_of_ble_eq_true rfl⟩ ⟨by exact Nat.le_of_ble_eq_true rfl, by exact Nat.le_of_ble_eq_true rfl⟩ rfl (Nat.le_of_ble_eq_true rfl) dX2_setFlag_2 rfl ?_
  refine x_aload_n B (pc' := 6) 0 dX2_setFlag_5 rfl rfl rfl ?_
  obtain ⟨S2, eS2, h⟩ := bd_elim h
  refine x_selfVv B (pc' := 9) [] (k_X2_save _ _ _ a S eS2) rfl rfl gv_RX2_45 rfl np_X2_save ⟨Nat.le_of_ble_eq_true rfl, Nat.le_of_ble_eq_true rfl⟩ ⟨by exact Nat.le_of_ble_eq_true rfl, by exact Nat.le_of_ble_eq_true rfl⟩ rfl (Nat.le_of_ble_eq_true rfl) dX2_setFlag_6 rfl ?_
  refine x_aload_n B (pc' := 10) 0 dX2_setFlag_9 rfl rfl rfl ?_
  refine b_ref0 B (pc' := 13) wf_RX2_10 dX2_setFlag_10 rfl ?_
  refine x_iload_n B (pc' := 14) 1 dX2_setFlag_13 rfl rfl rfl ?_
  obtain ⟨r3, er3, h⟩ := bd_elim h
  refine b_nowRi B (pc' := 17) [.int p0] (k_X1_isFlagged _ _ _ (a 1) p0 S2.2.1 er3) gv_RX2_78 rfl np_X1_isFlagged ⟨Nat.le_of_ble_eq_true rfl, Nat.le_of_ble_eq_true rfl⟩ ⟨by exact Nat.le_of_ble_eq_true rfl, by exact Nat.le_of_ble_eq_true rfl⟩ rfl (Nat.le_of_ble_eq_true rfl) dX2_setFlag_14 rfl ?_
  refine x_istore_n B (pc' := 18) [1, 2, 3, 0] [(0, .ref (a 0 0)), (1, .int p0), (2, .int p1), (3, .int r3)] dX2_setFlag_17 rfl (by decide) rfl rfl ?_
  refine x_aload_n B (pc' := 19) 0 dX2_setFlag_18 rfl rfl rfl ?_
  refine b_ref0 B (pc' := 22) wf_RX2_10 dX2_setFlag_19 rfl ?_
  refine x_iload_n B (pc' := 23) 1 dX2_setFlag_22 rfl rfl rfl ?_
  refine x_iload_n B (pc' := 24) 2 dX2_setFlag_23 rfl rfl rfl ?_
  obtain ⟨S4, eS4, h⟩ := bd_elim h
  obtain ⟨S5, eS5, h⟩ := nm_elim h
  refine b_nowVv B (pc' := 27) [.int p0, .int p1] (k_X1_putFlag _ _ _ (a 1) p0 p1 S2.2.1 eS4) gv_RX2_81 rfl np_X1_putFlag ⟨Nat.le_of_ble_eq_true rfl, Nat.le_of_ble_eq_true rfl⟩ ⟨by exact Nat.le_of_ble_eq_true rfl, by exact Nat.le_of_ble_eq_true rfl⟩ rfl (Nat.le_of_ble_eq_true rfl) dX2_setFlag_24 rfl ?_
  refine b_wd eS5 ?_
  refine x_iload_n B (pc' := 28) 3 dX2_setFlag_27 rfl rfl rfl ?_
  obtain ⟨hz6, h⟩ := zb_elim h
  obtain ⟨h1, h2⟩ := some2 h
  replace h1 := Sum.inr.inj h1
  subst h1
  subst h2
  exact ret (zb_nar hz6) (by exact Nat.le_of_ble_eq_true rfl) (by exact Nat.le_of_ble_eq_true rfl) dX2_setFlag_28
def f_X2_erase (p0 : Int32) (S : BO) : Option ((String ⊕ Int32) × BO) :=
  bxw S (f_X2_requireRecording p0 S) (fun (_ : Unit) => bd (f_X1_isFlagged p0 S.2.1) (fun (r2 : Int32) => if r2 = 0 then (bd (f_X2_save S) (fun (S4 : BO) => bd2 (f_X1_eraseRecording p0 S4.2.1) (fun (r7 : Int32) (S5 : OB) => nm (fun (S6 : BO) => some (.inr r7, S6)) (S4.1, S5, S4.2.2)))) else (some (.inl "java/lang/IllegalStateException", S))))
abbrev rm_X2_erase : Room := { frames := 3, cells := 0, slots := 0, locals := 106 }
theorem np_X2_erase : yX2_erase.cls ≠ "java/lang/invoke/MethodHandle" ∧ yX2_erase.cls ≠ "java/lang/invoke/VarHandle" ∧ (parseMethodDescriptor yX2_erase.desc).map (fun d => d.parameters.length) = some 1 := by decide +kernel
set_option maxHeartbeats 4000000 in
set_option maxRecDepth 100000 in
theorem k_X2_erase (l : Launch) (D : va_G) (cs : CS) (a : Nat → Nat → Nat) (p0 : Int32) (S : BO) {r9 : Int32} {S9 : BO} (h : f_X2_erase p0 S = some (.inr r9, S9)) : MI l D cs yX2_erase cX2_erase 2 .int rm_X2_erase [.ref (a 0 0), .int p0] (wB cs a S) r9 (wB cs a S9) := by
  refine MI_of (by decide) (Nat.le_of_ble_eq_true rfl) ?_
  rintro Γ rfl rfl rfl B ret
  show X Γ 2 0 0 0 [(0, .ref (a 0 0)), (1, .int p0)] [] (wB Γ.cs a S)
  unfold f_X2_erase at h
  refine x_aload_n B (pc' := 1) 0 dX2_erase_0 rfl rfl rfl ?_
  refine x_iload_n B (pc' := 2) 1 dX2_erase_1 rfl rfl rfl ?_
  obtain ⟨_, eo1, h⟩ := bxw_in h
  refine x_selfVv B (pc' := 5) [.int p0] (k_X2_requireRecording _ _ _ a p0 S eo1) rfl rfl gv_RX2_75 rfl np_X2_requireRecording ⟨Nat.le_of_ble_eq_true rfl, Nat.le_of_ble_eq_true rfl⟩ ⟨by exact Nat.le_of_ble_eq_true rfl, by exact Nat.le_of_ble_eq_true rfl⟩ rfl (Nat.le_of_ble_eq_true rfl) dX2_erase_2 rfl ?_
  refine x_aload_n B (pc' := 6) 0 dX2_erase_5 rfl rfl rfl ?_
  refine b_ref0 B (pc' := 9) wf_RX2_10 dX2_erase_6 rfl ?_
  refine x_iload_n B (pc' := 10) 1 dX2_erase_9 rfl rfl rfl ?_
  obtain ⟨r2, er2, h⟩ := bd_elim h
  refine b_nowRi B (pc' := 13) [.int p0] (k_X1_isFlagged _ _ _ (a 1) p0 S.2.1 er2) gv_RX2_78 rfl np_X1_isFlagged ⟨Nat.le_of_ble_eq_true rfl, Nat.le_of_ble_eq_true rfl⟩ ⟨by exact Nat.le_of_ble_eq_true rfl, by exact Nat.le_of_ble_eq_true rfl⟩ rfl (Nat.le_of_ble_eq_true rfl) dX2_erase_10 rfl ?_
  refine x_if_eq B 26 16 dX2_erase_13 (by decide) rfl (fun hc3 => ?_) (fun hc3 => ?_)
  · replace h := ite_t hc3 h
    refine x_aload_n B (pc' := 27) 0 dX2_erase_26 rfl rfl rfl ?_
    obtain ⟨S4, eS4, h⟩ := bd_elim h
    refine x_selfVv B (pc' := 30) [] (k_X2_save _ _ _ a S eS4) rfl rfl gv_RX2_45 rfl np_X2_save ⟨Nat.le_of_ble_eq_true rfl, Nat.le_of_ble_eq_true rfl⟩ ⟨by exact Nat.le_of_ble_eq_true rfl, by exact Nat.le_of_ble_eq_true rfl⟩ rfl (Nat.le_of_ble_eq_true rfl) dX2_erase_27 rfl ?_
    refine x_aload_n B (pc' := 31) 0 dX2_erase_30 rfl rfl rfl ?_
    refine b_ref0 B (pc' := 34) wf_RX2_10 dX2_erase_31 rfl ?_
    refine x_iload_n B (pc' := 35) 1 dX2_erase_34 rfl rfl rfl ?_
    obtain ⟨r7, S5, er7, h⟩ := bd2_elim h
    obtain ⟨S6, eS6, h⟩ := nm_elim h
    refine b_nowVi B (pc' := 38) [.int p0] (k_X1_eraseRecording _ _ _ (a 1) p0 S4.2.1 er7) gv_RX2_87 rfl np_X1_eraseRecording ⟨Nat.le_of_ble_eq_true rfl, Nat.le_of_ble_eq_true rfl⟩ ⟨by exact Nat.le_of_ble_eq_true rfl, by exact Nat.le_of_ble_eq_true rfl⟩ rfl (Nat.le_of_ble_eq_true rfl) dX2_erase_35 rfl ?_
    refine b_wd eS6 ?_
    obtain ⟨h1, h2⟩ := some2 h
    replace h1 := Sum.inr.inj h1
    subst h1
    subst h2
    exact ret rfl (by exact Nat.le_of_ble_eq_true rfl) (by exact Nat.le_of_ble_eq_true rfl) dX2_erase_38
  · replace h := ite_f hc3 h
    cases h
def c_X2_requireCell_10 : Option (String ⊕ Unit) :=
  some (.inl "java/lang/IndexOutOfBoundsException")
def f_X2_requireCell (p0 : Int32) : Option (String ⊕ Unit) :=
  if p0 < 0 then (c_X2_requireCell_10 ) else (if p0 < (32 : Int32) then (some (.inr ())) else (c_X2_requireCell_10 ))
abbrev rm_X2_requireCell : Room := { frames := 0, cells := 0, slots := 0, locals := 0 }
theorem np_X2_requireCell : yX2_requireCell.cls ≠ "java/lang/invoke/MethodHandle" ∧ yX2_requireCell.cls ≠ "java/lang/invoke/VarHandle" ∧ (parseMethodDescriptor yX2_requireCell.desc).map (fun d => d.parameters.length) = some 1 := by decide +kernel
set_option maxHeartbeats 4000000 in
set_option maxRecDepth 100000 in
theorem k_X2_requireCell (l : Launch) (D : va_G) (cs : CS)  (p0 : Int32) (h : f_X2_requireCell p0 = some (.inr ())) : MV l D cs yX2_requireCell cX2_requireCell 1 rm_X2_requireCell [.int p0] ([]) ([]) := by
  refine MV_of (by decide) (Nat.le_of_ble_eq_true rfl) ?_
  rintro Γ rfl rfl rfl B ret
  show X Γ 1 0 0 0 [(0, .int p0)] [] ([])
  have h10 : c_X2_requireCell_10   = some (.inr ()) → X Γ 1 0 0 10 [] [] ([]) := by
    intro   h
    unfold c_X2_requireCell_10 at h
    cases h
  unfold f_X2_requireCell at h
  refine x_iload_n B (pc' := 1) 0 dX2_requireCell_0 rfl rfl rfl ?_
  refine x_if_lt B 10 4 dX2_requireCell_1 (by decide) rfl (fun hc1 => ?_) (fun hc1 => ?_)
  · replace h := ite_t hc1 h
    refine x_lv [] (lv' := []) rfl ?_
    exact h10   h
  · replace h := ite_f hc1 h
    refine x_iload_n B (pc' := 5) 0 dX2_requireCell_4 rfl rfl rfl ?_
    refine x_bipush B (pc' := 7) 32 dX2_requireCell_5 (by decide) rfl ?_
    refine x_icmp_lt B 21 10 dX2_requireCell_7 (by decide) rfl (fun hc2 => ?_) (fun hc2 => ?_)
    · replace h := ite_t hc2 h
      exact ret (by exact Nat.le_of_ble_eq_true rfl) (by exact Nat.le_of_ble_eq_true rfl) dX2_requireCell_21
    · replace h := ite_f hc2 h
      refine x_lv [] (lv' := []) rfl ?_
      exact h10   h
def f_X2_moveHead (p0 : Int32) (S : BO) : Option ((String ⊕ Int32) × BO) :=
  bxw S (f_X2_requireCell p0) (fun (_ : Unit) => if (S.2.1.1 8) = 0 then (bd (f_X2_save S) (fun (S3 : BO) => nm (fun (v4 : Int32) => nm (fun (S5 : BO) => some (.inr v4, S5)) (S3.1, (upd S3.2.1.1 9 p0, S3.2.1.2), S3.2.2)) (S3.2.1.1 9))) else (some (.inl "java/lang/IllegalStateException", S)))
abbrev rm_X2_moveHead : Room := { frames := 3, cells := 0, slots := 0, locals := 106 }
theorem np_X2_moveHead : yX2_moveHead.cls ≠ "java/lang/invoke/MethodHandle" ∧ yX2_moveHead.cls ≠ "java/lang/invoke/VarHandle" ∧ (parseMethodDescriptor yX2_moveHead.desc).map (fun d => d.parameters.length) = some 1 := by decide +kernel
set_option maxHeartbeats 4000000 in
set_option maxRecDepth 100000 in
theorem k_X2_moveHead (l : Launch) (D : va_G) (cs : CS) (a : Nat → Nat → Nat) (p0 : Int32) (S : BO) {r9 : Int32} {S9 : BO} (h : f_X2_moveHead p0 S = some (.inr r9, S9)) : MI l D cs yX2_moveHead cX2_moveHead 3 .int rm_X2_moveHead [.ref (a 0 0), .int p0] (wB cs a S) r9 (wB cs a S9) := by
  refine MI_of (by decide) (Nat.le_of_ble_eq_true rfl) ?_
  rintro Γ rfl rfl rfl B ret
  show X Γ 3 0 0 0 [(0, .ref (a 0 0)), (1, .int p0)] [] (wB Γ.cs a S)
  unfold f_X2_moveHead at h
  refine x_iload_n B (pc' := 1) 1 dX2_moveHead_0 rfl rfl rfl ?_
  obtain ⟨_, eo1, h⟩ := bxw_in h
  refine x_pureSv B (pc' := 4) [.int p0] (k_X2_requireCell _ _ _ p0 eo1) gv_RX2_91 np_X2_requireCell ⟨Nat.le_of_ble_eq_true rfl, Nat.le_of_ble_eq_true rfl⟩ ⟨by exact Nat.le_of_ble_eq_true rfl, by exact Nat.le_of_ble_eq_true rfl⟩ rfl (Nat.le_of_ble_eq_true rfl) dX2_moveHead_1 rfl ?_
  refine x_aload_n B (pc' := 5) 0 dX2_moveHead_4 rfl rfl rfl ?_
  refine b_ref0 B (pc' := 8) wf_RX2_10 dX2_moveHead_5 rfl ?_
  refine bn_get8 B (pc' := 11) wf_RX2_52 dX2_moveHead_8 rfl ?_
  refine x_if_eq B 24 14 dX2_moveHead_11 (by decide) rfl (fun hc2 => ?_) (fun hc2 => ?_)
  · replace h := ite_t hc2 h
    refine x_aload_n B (pc' := 25) 0 dX2_moveHead_24 rfl rfl rfl ?_
    obtain ⟨S3, eS3, h⟩ := bd_elim h
    refine x_selfVv B (pc' := 28) [] (k_X2_save _ _ _ a S eS3) rfl rfl gv_RX2_45 rfl np_X2_save ⟨Nat.le_of_ble_eq_true rfl, Nat.le_of_ble_eq_true rfl⟩ ⟨by exact Nat.le_of_ble_eq_true rfl, by exact Nat.le_of_ble_eq_true rfl⟩ rfl (Nat.le_of_ble_eq_true rfl) dX2_moveHead_25 rfl ?_
    refine x_aload_n B (pc' := 29) 0 dX2_moveHead_28 rfl rfl rfl ?_
    refine b_ref0 B (pc' := 32) wf_RX2_10 dX2_moveHead_29 rfl ?_
    refine bn_get9 B (pc' := 35) wf_RX2_96 dX2_moveHead_32 rfl ?_
    obtain ⟨v4, ev4, h⟩ := nm_elim h
    refine x_topi ev4 ?_
    refine x_istore_n B (pc' := 36) [1, 2, 0] [(0, .ref (a 0 0)), (1, .int p0), (2, .int v4)] dX2_moveHead_35 rfl (by decide) rfl rfl ?_
    refine x_aload_n B (pc' := 37) 0 dX2_moveHead_36 rfl rfl rfl ?_
    refine b_ref0 B (pc' := 40) wf_RX2_10 dX2_moveHead_37 rfl ?_
    refine x_iload_n B (pc' := 41) 1 dX2_moveHead_40 rfl rfl rfl ?_
    obtain ⟨S5, eS5, h⟩ := nm_elim h
    refine bn_put9 B (pc' := 44) wf_RX2_96 dX2_moveHead_41 rfl ?_
    refine b_wd eS5 ?_
    refine x_iload_n B (pc' := 45) 2 dX2_moveHead_44 rfl rfl rfl ?_
    obtain ⟨h1, h2⟩ := some2 h
    replace h1 := Sum.inr.inj h1
    subst h1
    subst h2
    exact ret rfl (by exact Nat.le_of_ble_eq_true rfl) (by exact Nat.le_of_ble_eq_true rfl) dX2_moveHead_45
  · replace h := ite_f hc2 h
    cases h
def f_X2_length (p0 : Int32) (S : BO) : Option (String ⊕ Int32) :=
  bxr (f_X2_requireRecording p0 S) (fun (_ : Unit) => bd (f_X1_cellCount p0 S.2.1) (fun (r2 : Int32) => some (.inr r2)))
abbrev rm_X2_length : Room := { frames := 2, cells := 0, slots := 0, locals := 45 }
theorem np_X2_length : yX2_length.cls ≠ "java/lang/invoke/MethodHandle" ∧ yX2_length.cls ≠ "java/lang/invoke/VarHandle" ∧ (parseMethodDescriptor yX2_length.desc).map (fun d => d.parameters.length) = some 1 := by decide +kernel
set_option maxHeartbeats 4000000 in
set_option maxRecDepth 100000 in
theorem k_X2_length (l : Launch) (D : va_G) (cs : CS) (a : Nat → Nat → Nat) (p0 : Int32) (S : BO) {r9 : Int32} (h : f_X2_length p0 S = some (.inr r9)) : MI l D cs yX2_length cX2_length 2 .int rm_X2_length [.ref (a 0 0), .int p0] (wB cs a S) r9 (wB cs a S) := by
  refine MI_of (by decide) (Nat.le_of_ble_eq_true rfl) ?_
  rintro Γ rfl rfl rfl B ret
  show X Γ 2 0 0 0 [(0, .ref (a 0 0)), (1, .int p0)] [] (wB Γ.cs a S)
  unfold f_X2_length at h
  refine x_aload_n B (pc' := 1) 0 dX2_length_0 rfl rfl rfl ?_
  refine x_iload_n B (pc' := 2) 1 dX2_length_1 rfl rfl rfl ?_
  obtain ⟨_, eo1, h⟩ := bxr_in h
  refine x_selfVv B (pc' := 5) [.int p0] (k_X2_requireRecording _ _ _ a p0 S eo1) rfl rfl gv_RX2_75 rfl np_X2_requireRecording ⟨Nat.le_of_ble_eq_true rfl, Nat.le_of_ble_eq_true rfl⟩ ⟨by exact Nat.le_of_ble_eq_true rfl, by exact Nat.le_of_ble_eq_true rfl⟩ rfl (Nat.le_of_ble_eq_true rfl) dX2_length_2 rfl ?_
  refine x_aload_n B (pc' := 6) 0 dX2_length_5 rfl rfl rfl ?_
  refine b_ref0 B (pc' := 9) wf_RX2_10 dX2_length_6 rfl ?_
  refine x_iload_n B (pc' := 10) 1 dX2_length_9 rfl rfl rfl ?_
  obtain ⟨r2, er2, h⟩ := bd_elim h
  refine b_nowRi B (pc' := 13) [.int p0] (k_X1_cellCount _ _ _ (a 1) p0 S.2.1 er2) gv_RX2_105 rfl np_X1_cellCount ⟨Nat.le_of_ble_eq_true rfl, Nat.le_of_ble_eq_true rfl⟩ ⟨by exact Nat.le_of_ble_eq_true rfl, by exact Nat.le_of_ble_eq_true rfl⟩ rfl (Nat.le_of_ble_eq_true rfl) dX2_length_10 rfl ?_
  have h1 := Sum.inr.inj (Option.some.inj h)
  subst h1
  exact ret rfl (by exact Nat.le_of_ble_eq_true rfl) (by exact Nat.le_of_ble_eq_true rfl) dX2_length_13
def c_X2_requirePlace_15 (S : BO) : Option (String ⊕ Unit) :=
  some (.inl "java/lang/IndexOutOfBoundsException")
def f_X2_requirePlace (p0 : Int32) (p1 : Int32) (S : BO) : Option (String ⊕ Unit) :=
  bd (f_X1_isRecording p0 S.2.1) (fun (r1 : Int32) => if r1 = 0 then (c_X2_requirePlace_15 S ) else (if 0 ≤ p1 then (some (.inr ())) else (c_X2_requirePlace_15 S )))
abbrev rm_X2_requirePlace : Room := { frames := 1, cells := 0, slots := 0, locals := 21 }
theorem np_X2_requirePlace : yX2_requirePlace.cls ≠ "java/lang/invoke/MethodHandle" ∧ yX2_requirePlace.cls ≠ "java/lang/invoke/VarHandle" ∧ (parseMethodDescriptor yX2_requirePlace.desc).map (fun d => d.parameters.length) = some 2 := by decide +kernel
set_option maxHeartbeats 4000000 in
set_option maxRecDepth 100000 in
theorem k_X2_requirePlace (l : Launch) (D : va_G) (cs : CS) (a : Nat → Nat → Nat) (p0 : Int32) (p1 : Int32) (S : BO) (h : f_X2_requirePlace p0 p1 S = some (.inr ())) : MV l D cs yX2_requirePlace cX2_requirePlace 3 rm_X2_requirePlace [.ref (a 0 0), .int p0, .int p1] (wB cs a S) (wB cs a S) := by
  refine MV_of (by decide) (Nat.le_of_ble_eq_true rfl) ?_
  rintro Γ rfl rfl rfl B ret
  show X Γ 3 0 0 0 [(0, .ref (a 0 0)), (1, .int p0), (2, .int p1)] [] (wB Γ.cs a S)
  have h15 : c_X2_requirePlace_15 S   = some (.inr ()) → X Γ 3 0 0 15 [] [] (wB Γ.cs a S) := by
    intro   h
    unfold c_X2_requirePlace_15 at h
    cases h
  unfold f_X2_requirePlace at h
  refine x_aload_n B (pc' := 1) 0 dX2_requirePlace_0 rfl rfl rfl ?_
  refine b_ref0 B (pc' := 4) wf_RX2_10 dX2_requirePlace_1 rfl ?_
  refine x_iload_n B (pc' := 5) 1 dX2_requirePlace_4 rfl rfl rfl ?_
  obtain ⟨r1, er1, h⟩ := bd_elim h
  refine b_nowRi B (pc' := 8) [.int p0] (k_X1_isRecording _ _ _ (a 1) p0 S.2.1 er1) gv_RX2_276 rfl np_X1_isRecording ⟨Nat.le_of_ble_eq_true rfl, Nat.le_of_ble_eq_true rfl⟩ ⟨by exact Nat.le_of_ble_eq_true rfl, by exact Nat.le_of_ble_eq_true rfl⟩ rfl (Nat.le_of_ble_eq_true rfl) dX2_requirePlace_5 rfl ?_
  refine x_if_eq B 15 11 dX2_requirePlace_8 (by decide) rfl (fun hc2 => ?_) (fun hc2 => ?_)
  · replace h := ite_t hc2 h
    refine x_lv [] (lv' := []) rfl ?_
    exact h15   h
  · replace h := ite_f hc2 h
    refine x_iload_n B (pc' := 12) 2 dX2_requirePlace_11 rfl rfl rfl ?_
    refine x_if_ge B 26 15 dX2_requirePlace_12 (by decide) rfl (fun hc3 => ?_) (fun hc3 => ?_)
    · replace h := ite_t hc3 h
      exact ret (by exact Nat.le_of_ble_eq_true rfl) (by exact Nat.le_of_ble_eq_true rfl) dX2_requirePlace_26
    · replace h := ite_f hc3 h
      refine x_lv [] (lv' := []) rfl ?_
      exact h15   h
def f_X2_sound (p0 : Int32) (p1 : Int32) (S : BO) : Option (String ⊕ Int32) :=
  bxr (f_X2_requirePlace p0 p1 S) (fun (_ : Unit) => bd (f_X1_cellAt p0 p1 S.2.1) (fun (r2 : Int32) => some (.inr (vAt 32 (S.2.1.2 1) r2))))
abbrev rm_X2_sound : Room := { frames := 2, cells := 0, slots := 0, locals := 47 }
theorem np_X2_sound : yX2_sound.cls ≠ "java/lang/invoke/MethodHandle" ∧ yX2_sound.cls ≠ "java/lang/invoke/VarHandle" ∧ (parseMethodDescriptor yX2_sound.desc).map (fun d => d.parameters.length) = some 2 := by decide +kernel
set_option maxHeartbeats 4000000 in
set_option maxRecDepth 100000 in
theorem k_X2_sound (l : Launch) (D : va_G) (cs : CS) (a : Nat → Nat → Nat) (p0 : Int32) (p1 : Int32) (S : BO) {r9 : Int32} (h : f_X2_sound p0 p1 S = some (.inr r9)) : MI l D cs yX2_sound cX2_sound 3 .int rm_X2_sound [.ref (a 0 0), .int p0, .int p1] (wB cs a S) r9 (wB cs a S) := by
  refine MI_of (by decide) (Nat.le_of_ble_eq_true rfl) ?_
  rintro Γ rfl rfl rfl B ret
  show X Γ 3 0 0 0 [(0, .ref (a 0 0)), (1, .int p0), (2, .int p1)] [] (wB Γ.cs a S)
  unfold f_X2_sound at h
  refine x_aload_n B (pc' := 1) 0 dX2_sound_0 rfl rfl rfl ?_
  refine x_iload_n B (pc' := 2) 1 dX2_sound_1 rfl rfl rfl ?_
  refine x_iload_n B (pc' := 3) 2 dX2_sound_2 rfl rfl rfl ?_
  obtain ⟨_, eo1, h⟩ := bxr_in h
  refine x_selfVv B (pc' := 6) [.int p0, .int p1] (k_X2_requirePlace _ _ _ a p0 p1 S eo1) rfl rfl gv_RX2_108 rfl np_X2_requirePlace ⟨Nat.le_of_ble_eq_true rfl, Nat.le_of_ble_eq_true rfl⟩ ⟨by exact Nat.le_of_ble_eq_true rfl, by exact Nat.le_of_ble_eq_true rfl⟩ rfl (Nat.le_of_ble_eq_true rfl) dX2_sound_3 rfl ?_
  refine x_aload_n B (pc' := 7) 0 dX2_sound_6 rfl rfl rfl ?_
  refine b_ref0 B (pc' := 10) wf_RX2_10 dX2_sound_7 rfl ?_
  refine bn_ref1 B (pc' := 13) wf_RX2_112 dX2_sound_10 rfl ?_
  refine x_aload_n B (pc' := 14) 0 dX2_sound_13 rfl rfl rfl ?_
  refine b_ref0 B (pc' := 17) wf_RX2_10 dX2_sound_14 rfl ?_
  refine x_iload_n B (pc' := 18) 1 dX2_sound_17 rfl rfl rfl ?_
  refine x_iload_n B (pc' := 19) 2 dX2_sound_18 rfl rfl rfl ?_
  obtain ⟨r2, er2, h⟩ := bd_elim h
  refine b_nowRi B (pc' := 22) [.int p0, .int p1] (k_X1_cellAt _ _ _ (a 1) p0 p1 S.2.1 er2) gv_RX2_116 rfl np_X1_cellAt ⟨Nat.le_of_ble_eq_true rfl, Nat.le_of_ble_eq_true rfl⟩ ⟨by exact Nat.le_of_ble_eq_true rfl, by exact Nat.le_of_ble_eq_true rfl⟩ rfl (Nat.le_of_ble_eq_true rfl) dX2_sound_19 rfl ?_
  refine bn_vAt1 B (pc' := 25) ⟨Nat.le_of_ble_eq_true rfl, Nat.le_of_ble_eq_true rfl⟩ ⟨Nat.le_of_ble_eq_true rfl, Nat.le_of_ble_eq_true rfl⟩ (Nat.le_of_ble_eq_true rfl) rfl dX2_sound_22 rfl ?_
  have h1 := Sum.inr.inj (Option.some.inj h)
  subst h1
  exact ret rfl (by exact Nat.le_of_ble_eq_true rfl) (by exact Nat.le_of_ble_eq_true rfl) dX2_sound_25
def f_X2_cellOf (p0 : Int32) (p1 : Int32) (S : BO) : Option (String ⊕ Int32) :=
  bxr (f_X2_requirePlace p0 p1 S) (fun (_ : Unit) => bd (f_X1_cellAt p0 p1 S.2.1) (fun (r2 : Int32) => some (.inr r2)))
abbrev rm_X2_cellOf : Room := { frames := 2, cells := 0, slots := 0, locals := 47 }
theorem np_X2_cellOf : yX2_cellOf.cls ≠ "java/lang/invoke/MethodHandle" ∧ yX2_cellOf.cls ≠ "java/lang/invoke/VarHandle" ∧ (parseMethodDescriptor yX2_cellOf.desc).map (fun d => d.parameters.length) = some 2 := by decide +kernel
set_option maxHeartbeats 4000000 in
set_option maxRecDepth 100000 in
theorem k_X2_cellOf (l : Launch) (D : va_G) (cs : CS) (a : Nat → Nat → Nat) (p0 : Int32) (p1 : Int32) (S : BO) {r9 : Int32} (h : f_X2_cellOf p0 p1 S = some (.inr r9)) : MI l D cs yX2_cellOf cX2_cellOf 3 .int rm_X2_cellOf [.ref (a 0 0), .int p0, .int p1] (wB cs a S) r9 (wB cs a S) := by
  refine MI_of (by decide) (Nat.le_of_ble_eq_true rfl) ?_
  rintro Γ rfl rfl rfl B ret
  show X Γ 3 0 0 0 [(0, .ref (a 0 0)), (1, .int p0), (2, .int p1)] [] (wB Γ.cs a S)
  unfold f_X2_cellOf at h
  refine x_aload_n B (pc' := 1) 0 dX2_cellOf_0 rfl rfl rfl ?_
  refine x_iload_n B (pc' := 2) 1 dX2_cellOf_1 rfl rfl rfl ?_
  refine x_iload_n B (pc' := 3) 2 dX2_cellOf_2 rfl rfl rfl ?_
  obtain ⟨_, eo1, h⟩ := bxr_in h
  refine x_selfVv B (pc' := 6) [.int p0, .int p1] (k_X2_requirePlace _ _ _ a p0 p1 S eo1) rfl rfl gv_RX2_108 rfl np_X2_requirePlace ⟨Nat.le_of_ble_eq_true rfl, Nat.le_of_ble_eq_true rfl⟩ ⟨by exact Nat.le_of_ble_eq_true rfl, by exact Nat.le_of_ble_eq_true rfl⟩ rfl (Nat.le_of_ble_eq_true rfl) dX2_cellOf_3 rfl ?_
  refine x_aload_n B (pc' := 7) 0 dX2_cellOf_6 rfl rfl rfl ?_
  refine b_ref0 B (pc' := 10) wf_RX2_10 dX2_cellOf_7 rfl ?_
  refine x_iload_n B (pc' := 11) 1 dX2_cellOf_10 rfl rfl rfl ?_
  refine x_iload_n B (pc' := 12) 2 dX2_cellOf_11 rfl rfl rfl ?_
  obtain ⟨r2, er2, h⟩ := bd_elim h
  refine b_nowRi B (pc' := 15) [.int p0, .int p1] (k_X1_cellAt _ _ _ (a 1) p0 p1 S.2.1 er2) gv_RX2_116 rfl np_X1_cellAt ⟨Nat.le_of_ble_eq_true rfl, Nat.le_of_ble_eq_true rfl⟩ ⟨by exact Nat.le_of_ble_eq_true rfl, by exact Nat.le_of_ble_eq_true rfl⟩ rfl (Nat.le_of_ble_eq_true rfl) dX2_cellOf_12 rfl ?_
  have h1 := Sum.inr.inj (Option.some.inj h)
  subst h1
  exact ret rfl (by exact Nat.le_of_ble_eq_true rfl) (by exact Nat.le_of_ble_eq_true rfl) dX2_cellOf_15
def f_X2_hasFlag (p0 : Int32) (S : BO) : Option (String ⊕ Int32) :=
  bxr (f_X2_requireRecording p0 S) (fun (_ : Unit) => bd (f_X1_isFlagged p0 S.2.1) (fun (r2 : Int32) => zb r2 (some (.inr r2))))
abbrev rm_X2_hasFlag : Room := { frames := 2, cells := 0, slots := 0, locals := 43 }
theorem np_X2_hasFlag : yX2_hasFlag.cls ≠ "java/lang/invoke/MethodHandle" ∧ yX2_hasFlag.cls ≠ "java/lang/invoke/VarHandle" ∧ (parseMethodDescriptor yX2_hasFlag.desc).map (fun d => d.parameters.length) = some 1 := by decide +kernel
set_option maxHeartbeats 4000000 in
set_option maxRecDepth 100000 in
theorem k_X2_hasFlag (l : Launch) (D : va_G) (cs : CS) (a : Nat → Nat → Nat) (p0 : Int32) (S : BO) {r9 : Int32} (h : f_X2_hasFlag p0 S = some (.inr r9)) : MI l D cs yX2_hasFlag cX2_hasFlag 2 .boolean rm_X2_hasFlag [.ref (a 0 0), .int p0] (wB cs a S) r9 (wB cs a S) := by
  refine MI_of (by decide) (Nat.le_of_ble_eq_true rfl) ?_
  rintro Γ rfl rfl rfl B ret
  show X Γ 2 0 0 0 [(0, .ref (a 0 0)), (1, .int p0)] [] (wB Γ.cs a S)
  unfold f_X2_hasFlag at h
  refine x_aload_n B (pc' := 1) 0 dX2_hasFlag_0 rfl rfl rfl ?_
  refine x_iload_n B (pc' := 2) 1 dX2_hasFlag_1 rfl rfl rfl ?_
  obtain ⟨_, eo1, h⟩ := bxr_in h
  refine x_selfVv B (pc' := 5) [.int p0] (k_X2_requireRecording _ _ _ a p0 S eo1) rfl rfl gv_RX2_75 rfl np_X2_requireRecording ⟨Nat.le_of_ble_eq_true rfl, Nat.le_of_ble_eq_true rfl⟩ ⟨by exact Nat.le_of_ble_eq_true rfl, by exact Nat.le_of_ble_eq_true rfl⟩ rfl (Nat.le_of_ble_eq_true rfl) dX2_hasFlag_2 rfl ?_
  refine x_aload_n B (pc' := 6) 0 dX2_hasFlag_5 rfl rfl rfl ?_
  refine b_ref0 B (pc' := 9) wf_RX2_10 dX2_hasFlag_6 rfl ?_
  refine x_iload_n B (pc' := 10) 1 dX2_hasFlag_9 rfl rfl rfl ?_
  obtain ⟨r2, er2, h⟩ := bd_elim h
  refine b_nowRi B (pc' := 13) [.int p0] (k_X1_isFlagged _ _ _ (a 1) p0 S.2.1 er2) gv_RX2_78 rfl np_X1_isFlagged ⟨Nat.le_of_ble_eq_true rfl, Nat.le_of_ble_eq_true rfl⟩ ⟨by exact Nat.le_of_ble_eq_true rfl, by exact Nat.le_of_ble_eq_true rfl⟩ rfl (Nat.le_of_ble_eq_true rfl) dX2_hasFlag_10 rfl ?_
  obtain ⟨hz3, h⟩ := zb_elim h
  have h1 := Sum.inr.inj (Option.some.inj h)
  subst h1
  exact ret (zb_nar hz3) (by exact Nat.le_of_ble_eq_true rfl) (by exact Nat.le_of_ble_eq_true rfl) dX2_hasFlag_13
def f_X2_lost (p0 : Int32) (S : BO) : Option (String ⊕ Int32) :=
  bxr (f_X2_requireRecording p0 S) (fun (_ : Unit) => some (.inr (vAt 10 (S.2.1.2 6) p0)))
abbrev rm_X2_lost : Room := { frames := 2, cells := 0, slots := 0, locals := 42 }
theorem np_X2_lost : yX2_lost.cls ≠ "java/lang/invoke/MethodHandle" ∧ yX2_lost.cls ≠ "java/lang/invoke/VarHandle" ∧ (parseMethodDescriptor yX2_lost.desc).map (fun d => d.parameters.length) = some 1 := by decide +kernel
set_option maxHeartbeats 4000000 in
set_option maxRecDepth 100000 in
theorem k_X2_lost (l : Launch) (D : va_G) (cs : CS) (a : Nat → Nat → Nat) (p0 : Int32) (S : BO) {r9 : Int32} (h : f_X2_lost p0 S = some (.inr r9)) : MI l D cs yX2_lost cX2_lost 2 .int rm_X2_lost [.ref (a 0 0), .int p0] (wB cs a S) r9 (wB cs a S) := by
  refine MI_of (by decide) (Nat.le_of_ble_eq_true rfl) ?_
  rintro Γ rfl rfl rfl B ret
  show X Γ 2 0 0 0 [(0, .ref (a 0 0)), (1, .int p0)] [] (wB Γ.cs a S)
  unfold f_X2_lost at h
  refine x_aload_n B (pc' := 1) 0 dX2_lost_0 rfl rfl rfl ?_
  refine x_iload_n B (pc' := 2) 1 dX2_lost_1 rfl rfl rfl ?_
  obtain ⟨_, eo1, h⟩ := bxr_in h
  refine x_selfVv B (pc' := 5) [.int p0] (k_X2_requireRecording _ _ _ a p0 S eo1) rfl rfl gv_RX2_75 rfl np_X2_requireRecording ⟨Nat.le_of_ble_eq_true rfl, Nat.le_of_ble_eq_true rfl⟩ ⟨by exact Nat.le_of_ble_eq_true rfl, by exact Nat.le_of_ble_eq_true rfl⟩ rfl (Nat.le_of_ble_eq_true rfl) dX2_lost_2 rfl ?_
  refine x_aload_n B (pc' := 6) 0 dX2_lost_5 rfl rfl rfl ?_
  refine b_ref0 B (pc' := 9) wf_RX2_10 dX2_lost_6 rfl ?_
  refine bn_ref6 B (pc' := 12) wf_RX2_123 dX2_lost_9 rfl ?_
  refine x_iload_n B (pc' := 13) 1 dX2_lost_12 rfl rfl rfl ?_
  refine bn_vAt6 B (pc' := 16) ⟨Nat.le_of_ble_eq_true rfl, Nat.le_of_ble_eq_true rfl⟩ ⟨Nat.le_of_ble_eq_true rfl, Nat.le_of_ble_eq_true rfl⟩ (Nat.le_of_ble_eq_true rfl) rfl dX2_lost_13 rfl ?_
  have h1 := Sum.inr.inj (Option.some.inj h)
  subst h1
  exact ret rfl (by exact Nat.le_of_ble_eq_true rfl) (by exact Nat.le_of_ble_eq_true rfl) dX2_lost_16
def f_X2_owner (p0 : Int32) (S : BO) : Option (String ⊕ Int32) :=
  bxr (f_X2_requireCell p0) (fun (_ : Unit) => some (.inr (vAt 32 (S.2.1.2 0) p0)))
abbrev rm_X2_owner : Room := { frames := 1, cells := 0, slots := 0, locals := 22 }
theorem np_X2_owner : yX2_owner.cls ≠ "java/lang/invoke/MethodHandle" ∧ yX2_owner.cls ≠ "java/lang/invoke/VarHandle" ∧ (parseMethodDescriptor yX2_owner.desc).map (fun d => d.parameters.length) = some 1 := by decide +kernel
set_option maxHeartbeats 4000000 in
set_option maxRecDepth 100000 in
theorem k_X2_owner (l : Launch) (D : va_G) (cs : CS) (a : Nat → Nat → Nat) (p0 : Int32) (S : BO) {r9 : Int32} (h : f_X2_owner p0 S = some (.inr r9)) : MI l D cs yX2_owner cX2_owner 2 .int rm_X2_owner [.ref (a 0 0), .int p0] (wB cs a S) r9 (wB cs a S) := by
  refine MI_of (by decide) (Nat.le_of_ble_eq_true rfl) ?_
  rintro Γ rfl rfl rfl B ret
  show X Γ 2 0 0 0 [(0, .ref (a 0 0)), (1, .int p0)] [] (wB Γ.cs a S)
  unfold f_X2_owner at h
  refine x_iload_n B (pc' := 1) 1 dX2_owner_0 rfl rfl rfl ?_
  obtain ⟨_, eo1, h⟩ := bxr_in h
  refine x_pureSv B (pc' := 4) [.int p0] (k_X2_requireCell _ _ _ p0 eo1) gv_RX2_91 np_X2_requireCell ⟨Nat.le_of_ble_eq_true rfl, Nat.le_of_ble_eq_true rfl⟩ ⟨by exact Nat.le_of_ble_eq_true rfl, by exact Nat.le_of_ble_eq_true rfl⟩ rfl (Nat.le_of_ble_eq_true rfl) dX2_owner_1 rfl ?_
  refine x_aload_n B (pc' := 5) 0 dX2_owner_4 rfl rfl rfl ?_
  refine b_ref0 B (pc' := 8) wf_RX2_10 dX2_owner_5 rfl ?_
  refine bn_ref0 B (pc' := 11) wf_RX2_126 dX2_owner_8 rfl ?_
  refine x_iload_n B (pc' := 12) 1 dX2_owner_11 rfl rfl rfl ?_
  refine bn_vAt0 B (pc' := 15) ⟨Nat.le_of_ble_eq_true rfl, Nat.le_of_ble_eq_true rfl⟩ ⟨Nat.le_of_ble_eq_true rfl, Nat.le_of_ble_eq_true rfl⟩ (Nat.le_of_ble_eq_true rfl) rfl dX2_owner_12 rfl ?_
  have h1 := Sum.inr.inj (Option.some.inj h)
  subst h1
  exact ret rfl (by exact Nat.le_of_ble_eq_true rfl) (by exact Nat.le_of_ble_eq_true rfl) dX2_owner_15
def f_X2_go (p0 : Int32) (S : BO) : Option ((String ⊕ Int32) × BO) :=
  bxw S (f_X2_requireRecording p0 S) (fun (_ : Unit) => bd (f_X2_save S) (fun (S2 : BO) => bd (f_X1_bringPlayer p0 S2.2.1) (fun (S3 : OB) => nm (fun (S4 : BO) => bd (f_X1_cellCount p0 S4.2.1) (fun (r5 : Int32) => some (.inr r5, S4))) (S2.1, S3, S2.2.2))))
abbrev rm_X2_go : Room := { frames := 3, cells := 0, slots := 0, locals := 106 }
theorem np_X2_go : yX2_go.cls ≠ "java/lang/invoke/MethodHandle" ∧ yX2_go.cls ≠ "java/lang/invoke/VarHandle" ∧ (parseMethodDescriptor yX2_go.desc).map (fun d => d.parameters.length) = some 1 := by decide +kernel
set_option maxHeartbeats 4000000 in
set_option maxRecDepth 100000 in
theorem k_X2_go (l : Launch) (D : va_G) (cs : CS) (a : Nat → Nat → Nat) (p0 : Int32) (S : BO) {r9 : Int32} {S9 : BO} (h : f_X2_go p0 S = some (.inr r9, S9)) : MI l D cs yX2_go cX2_go 2 .int rm_X2_go [.ref (a 0 0), .int p0] (wB cs a S) r9 (wB cs a S9) := by
  refine MI_of (by decide) (Nat.le_of_ble_eq_true rfl) ?_
  rintro Γ rfl rfl rfl B ret
  show X Γ 2 0 0 0 [(0, .ref (a 0 0)), (1, .int p0)] [] (wB Γ.cs a S)
  unfold f_X2_go at h
  refine x_aload_n B (pc' := 1) 0 dX2_go_0 rfl rfl rfl ?_
  refine x_iload_n B (pc' := 2) 1 dX2_go_1 rfl rfl rfl ?_
  obtain ⟨_, eo1, h⟩ := bxw_in h
  refine x_selfVv B (pc' := 5) [.int p0] (k_X2_requireRecording _ _ _ a p0 S eo1) rfl rfl gv_RX2_75 rfl np_X2_requireRecording ⟨Nat.le_of_ble_eq_true rfl, Nat.le_of_ble_eq_true rfl⟩ ⟨by exact Nat.le_of_ble_eq_true rfl, by exact Nat.le_of_ble_eq_true rfl⟩ rfl (Nat.le_of_ble_eq_true rfl) dX2_go_2 rfl ?_
  refine x_aload_n B (pc' := 6) 0 dX2_go_5 rfl rfl rfl ?_
  obtain ⟨S2, eS2, h⟩ := bd_elim h
  refine x_selfVv B (pc' := 9) [] (k_X2_save _ _ _ a S eS2) rfl rfl gv_RX2_45 rfl np_X2_save ⟨Nat.le_of_ble_eq_true rfl, Nat.le_of_ble_eq_true rfl⟩ ⟨by exact Nat.le_of_ble_eq_true rfl, by exact Nat.le_of_ble_eq_true rfl⟩ rfl (Nat.le_of_ble_eq_true rfl) dX2_go_6 rfl ?_
  refine x_aload_n B (pc' := 10) 0 dX2_go_9 rfl rfl rfl ?_
  refine b_ref0 B (pc' := 13) wf_RX2_10 dX2_go_10 rfl ?_
  refine x_iload_n B (pc' := 14) 1 dX2_go_13 rfl rfl rfl ?_
  obtain ⟨S3, eS3, h⟩ := bd_elim h
  obtain ⟨S4, eS4, h⟩ := nm_elim h
  refine b_nowVv B (pc' := 17) [.int p0] (k_X1_bringPlayer _ _ _ (a 1) p0 S2.2.1 eS3) gv_RX2_140 rfl np_X1_bringPlayer ⟨Nat.le_of_ble_eq_true rfl, Nat.le_of_ble_eq_true rfl⟩ ⟨by exact Nat.le_of_ble_eq_true rfl, by exact Nat.le_of_ble_eq_true rfl⟩ rfl (Nat.le_of_ble_eq_true rfl) dX2_go_14 rfl ?_
  refine b_wd eS4 ?_
  refine x_aload_n B (pc' := 18) 0 dX2_go_17 rfl rfl rfl ?_
  refine b_ref0 B (pc' := 21) wf_RX2_10 dX2_go_18 rfl ?_
  refine x_iload_n B (pc' := 22) 1 dX2_go_21 rfl rfl rfl ?_
  obtain ⟨r5, er5, h⟩ := bd_elim h
  refine b_nowRi B (pc' := 25) [.int p0] (k_X1_cellCount _ _ _ (a 1) p0 S4.2.1 er5) gv_RX2_105 rfl np_X1_cellCount ⟨Nat.le_of_ble_eq_true rfl, Nat.le_of_ble_eq_true rfl⟩ ⟨by exact Nat.le_of_ble_eq_true rfl, by exact Nat.le_of_ble_eq_true rfl⟩ rfl (Nat.le_of_ble_eq_true rfl) dX2_go_22 rfl ?_
  obtain ⟨h1, h2⟩ := some2 h
  replace h1 := Sum.inr.inj h1
  subst h1
  subst h2
  exact ret rfl (by exact Nat.le_of_ble_eq_true rfl) (by exact Nat.le_of_ble_eq_true rfl) dX2_go_25
def f_X2_requirePlayer (S : BO) : Option (String ⊕ Unit) :=
  if (S.2.1.1 12) = ((-1) : Int32) then (some (.inl "java/lang/IllegalStateException")) else (some (.inr ()))
abbrev rm_X2_requirePlayer : Room := { frames := 0, cells := 0, slots := 0, locals := 0 }
theorem np_X2_requirePlayer : yX2_requirePlayer.cls ≠ "java/lang/invoke/MethodHandle" ∧ yX2_requirePlayer.cls ≠ "java/lang/invoke/VarHandle" ∧ (parseMethodDescriptor yX2_requirePlayer.desc).map (fun d => d.parameters.length) = some 0 := by decide +kernel
set_option maxHeartbeats 4000000 in
set_option maxRecDepth 100000 in
theorem k_X2_requirePlayer (l : Launch) (D : va_G) (cs : CS) (a : Nat → Nat → Nat) (S : BO) (h : f_X2_requirePlayer S = some (.inr ())) : MV l D cs yX2_requirePlayer cX2_requirePlayer 1 rm_X2_requirePlayer [.ref (a 0 0)] (wB cs a S) (wB cs a S) := by
  refine MV_of (by decide) (Nat.le_of_ble_eq_true rfl) ?_
  rintro Γ rfl rfl rfl B ret
  show X Γ 1 0 0 0 [(0, .ref (a 0 0))] [] (wB Γ.cs a S)
  unfold f_X2_requirePlayer at h
  refine x_aload_n B (pc' := 1) 0 dX2_requirePlayer_0 rfl rfl rfl ?_
  refine b_ref0 B (pc' := 4) wf_RX2_10 dX2_requirePlayer_1 rfl ?_
  refine bn_get12 B (pc' := 7) wf_RX2_157 dX2_requirePlayer_4 rfl ?_
  refine x_iconst B (pc' := 8) (-1) dX2_requirePlayer_7 (by decide) rfl ?_
  refine x_icmp_ne B 22 11 dX2_requirePlayer_8 (by decide) rfl (fun hc1 => ?_) (fun hc1 => ?_)
  · replace h := ite_f hc1 h
    exact ret (by exact Nat.le_of_ble_eq_true rfl) (by exact Nat.le_of_ble_eq_true rfl) dX2_requirePlayer_22
  · replace h := ite_t hc1 h
    cases h
def f_X2_play (S : BO) : Option ((String ⊕ Int32) × BO) :=
  bxw S (f_X2_requirePlayer S) (fun (_ : Unit) => bd (f_X2_save S) (fun (S2 : BO) => bd2 (f_X1_playCell S2.2.1) (fun (r5 : Int32) (S3 : OB) => nm (fun (S4 : BO) => some (.inr r5, S4)) (S2.1, S3, S2.2.2))))
abbrev rm_X2_play : Room := { frames := 3, cells := 0, slots := 0, locals := 106 }
theorem np_X2_play : yX2_play.cls ≠ "java/lang/invoke/MethodHandle" ∧ yX2_play.cls ≠ "java/lang/invoke/VarHandle" ∧ (parseMethodDescriptor yX2_play.desc).map (fun d => d.parameters.length) = some 0 := by decide +kernel
set_option maxHeartbeats 4000000 in
set_option maxRecDepth 100000 in
theorem k_X2_play (l : Launch) (D : va_G) (cs : CS) (a : Nat → Nat → Nat) (S : BO) {r9 : Int32} {S9 : BO} (h : f_X2_play S = some (.inr r9, S9)) : MI l D cs yX2_play cX2_play 1 .int rm_X2_play [.ref (a 0 0)] (wB cs a S) r9 (wB cs a S9) := by
  refine MI_of (by decide) (Nat.le_of_ble_eq_true rfl) ?_
  rintro Γ rfl rfl rfl B ret
  show X Γ 1 0 0 0 [(0, .ref (a 0 0))] [] (wB Γ.cs a S)
  unfold f_X2_play at h
  refine x_aload_n B (pc' := 1) 0 dX2_play_0 rfl rfl rfl ?_
  obtain ⟨_, eo1, h⟩ := bxw_in h
  refine x_selfVv B (pc' := 4) [] (k_X2_requirePlayer _ _ _ a S eo1) rfl rfl gv_RX2_143 rfl np_X2_requirePlayer ⟨Nat.le_of_ble_eq_true rfl, Nat.le_of_ble_eq_true rfl⟩ ⟨by exact Nat.le_of_ble_eq_true rfl, by exact Nat.le_of_ble_eq_true rfl⟩ rfl (Nat.le_of_ble_eq_true rfl) dX2_play_1 rfl ?_
  refine x_aload_n B (pc' := 5) 0 dX2_play_4 rfl rfl rfl ?_
  obtain ⟨S2, eS2, h⟩ := bd_elim h
  refine x_selfVv B (pc' := 8) [] (k_X2_save _ _ _ a S eS2) rfl rfl gv_RX2_45 rfl np_X2_save ⟨Nat.le_of_ble_eq_true rfl, Nat.le_of_ble_eq_true rfl⟩ ⟨by exact Nat.le_of_ble_eq_true rfl, by exact Nat.le_of_ble_eq_true rfl⟩ rfl (Nat.le_of_ble_eq_true rfl) dX2_play_5 rfl ?_
  refine x_aload_n B (pc' := 9) 0 dX2_play_8 rfl rfl rfl ?_
  refine b_ref0 B (pc' := 12) wf_RX2_10 dX2_play_9 rfl ?_
  obtain ⟨r5, S3, er5, h⟩ := bd2_elim h
  obtain ⟨S4, eS4, h⟩ := nm_elim h
  refine b_nowVi B (pc' := 15) [] (k_X1_playCell _ _ _ (a 1) S2.2.1 er5) gv_RX2_146 rfl np_X1_playCell ⟨Nat.le_of_ble_eq_true rfl, Nat.le_of_ble_eq_true rfl⟩ ⟨by exact Nat.le_of_ble_eq_true rfl, by exact Nat.le_of_ble_eq_true rfl⟩ rfl (Nat.le_of_ble_eq_true rfl) dX2_play_12 rfl ?_
  refine b_wd eS4 ?_
  obtain ⟨h1, h2⟩ := some2 h
  replace h1 := Sum.inr.inj h1
  subst h1
  subst h2
  exact ret rfl (by exact Nat.le_of_ble_eq_true rfl) (by exact Nat.le_of_ble_eq_true rfl) dX2_play_15
def c_X2_back_11 (S : BO) : Option ((String ⊕ Int32) × BO) :=
  some (.inl "java/lang/IllegalArgumentException", S)
def f_X2_back (p0 : Int32) (S : BO) : Option ((String ⊕ Int32) × BO) :=
  if p0 < (1 : Int32) then (c_X2_back_11 S) else (if p0 ≤ (9 : Int32) then (bxw S (f_X2_requirePlayer S) (fun (_ : Unit) => bd (f_X2_save S) (fun (S4 : BO) => bd2 (f_X1_stepBack p0 S4.2.1) (fun (r7 : Int32) (S5 : OB) => nm (fun (S6 : BO) => some (.inr r7, S6)) (S4.1, S5, S4.2.2))))) else (c_X2_back_11 S))
abbrev rm_X2_back : Room := { frames := 3, cells := 0, slots := 0, locals := 106 }
theorem np_X2_back : yX2_back.cls ≠ "java/lang/invoke/MethodHandle" ∧ yX2_back.cls ≠ "java/lang/invoke/VarHandle" ∧ (parseMethodDescriptor yX2_back.desc).map (fun d => d.parameters.length) = some 1 := by decide +kernel
set_option maxHeartbeats 4000000 in
set_option maxRecDepth 100000 in
theorem k_X2_back (l : Launch) (D : va_G) (cs : CS) (a : Nat → Nat → Nat) (p0 : Int32) (S : BO) {r9 : Int32} {S9 : BO} (h : f_X2_back p0 S = some (.inr r9, S9)) : MI l D cs yX2_back cX2_back 2 .int rm_X2_back [.ref (a 0 0), .int p0] (wB cs a S) r9 (wB cs a S9) := by
  refine MI_of (by decide) (Nat.le_of_ble_eq_true rfl) ?_
  rintro Γ rfl rfl rfl B ret
  show X Γ 2 0 0 0 [(0, .ref (a 0 0)), (1, .int p0)] [] (wB Γ.cs a S)
  have h11 : ∀ (S : BO), c_X2_back_11  S = some (.inr r9, S9) → X Γ 2 0 0 11 [] [] (wB Γ.cs a S) := by
    intro  S h
    unfold c_X2_back_11 at h
    cases h
  unfold f_X2_back at h
  refine x_iload_n B (pc' := 1) 1 dX2_back_0 rfl rfl rfl ?_
  refine x_iconst B (pc' := 2) 1 dX2_back_1 (by decide) rfl ?_
  refine x_icmp_lt B 11 5 dX2_back_2 (by decide) rfl (fun hc1 => ?_) (fun hc1 => ?_)
  · replace h := ite_t hc1 h
    refine x_lv [] (lv' := []) rfl ?_
    exact h11  _ h
  · replace h := ite_f hc1 h
    refine x_iload_n B (pc' := 6) 1 dX2_back_5 rfl rfl rfl ?_
    refine x_bipush B (pc' := 8) 9 dX2_back_6 (by decide) rfl ?_
    refine x_icmp_le B 21 11 dX2_back_8 (by decide) rfl (fun hc2 => ?_) (fun hc2 => ?_)
    · replace h := ite_t hc2 h
      refine x_aload_n B (pc' := 22) 0 dX2_back_21 rfl rfl rfl ?_
      obtain ⟨_, eo3, h⟩ := bxw_in h
      refine x_selfVv B (pc' := 25) [] (k_X2_requirePlayer _ _ _ a S eo3) rfl rfl gv_RX2_143 rfl np_X2_requirePlayer ⟨Nat.le_of_ble_eq_true rfl, Nat.le_of_ble_eq_true rfl⟩ ⟨by exact Nat.le_of_ble_eq_true rfl, by exact Nat.le_of_ble_eq_true rfl⟩ rfl (Nat.le_of_ble_eq_true rfl) dX2_back_22 rfl ?_
      refine x_aload_n B (pc' := 26) 0 dX2_back_25 rfl rfl rfl ?_
      obtain ⟨S4, eS4, h⟩ := bd_elim h
      refine x_selfVv B (pc' := 29) [] (k_X2_save _ _ _ a S eS4) rfl rfl gv_RX2_45 rfl np_X2_save ⟨Nat.le_of_ble_eq_true rfl, Nat.le_of_ble_eq_true rfl⟩ ⟨by exact Nat.le_of_ble_eq_true rfl, by exact Nat.le_of_ble_eq_true rfl⟩ rfl (Nat.le_of_ble_eq_true rfl) dX2_back_26 rfl ?_
      refine x_aload_n B (pc' := 30) 0 dX2_back_29 rfl rfl rfl ?_
      refine b_ref0 B (pc' := 33) wf_RX2_10 dX2_back_30 rfl ?_
      refine x_iload_n B (pc' := 34) 1 dX2_back_33 rfl rfl rfl ?_
      obtain ⟨r7, S5, er7, h⟩ := bd2_elim h
      obtain ⟨S6, eS6, h⟩ := nm_elim h
      refine b_nowVi B (pc' := 37) [.int p0] (k_X1_stepBack _ _ _ (a 1) p0 S4.2.1 er7) gv_RX2_154 rfl np_X1_stepBack ⟨Nat.le_of_ble_eq_true rfl, Nat.le_of_ble_eq_true rfl⟩ ⟨by exact Nat.le_of_ble_eq_true rfl, by exact Nat.le_of_ble_eq_true rfl⟩ rfl (Nat.le_of_ble_eq_true rfl) dX2_back_34 rfl ?_
      refine b_wd eS6 ?_
      obtain ⟨h1, h2⟩ := some2 h
      replace h1 := Sum.inr.inj h1
      subst h1
      subst h2
      exact ret rfl (by exact Nat.le_of_ble_eq_true rfl) (by exact Nat.le_of_ble_eq_true rfl) dX2_back_37
    · replace h := ite_f hc2 h
      refine x_lv [] (lv' := []) rfl ?_
      exact h11  _ h
def f_X2_correct (p0 : Int32) (p1 : Int32) (p2 : Int32) (S : BO) : Option ((String ⊕ Int32) × BO) :=
  bxw S (f_X2_requirePlace p0 p1 S) (fun (_ : Unit) => bd (f_X1_cellAt p0 p1 S.2.1) (fun (r2 : Int32) => bxw S (f_X2_requireCell r2) (fun (_ : Unit) => bxw S (f_X2_requireSound p2) (fun (_ : Unit) => bd (f_X1_isFlagged p0 S.2.1) (fun (r5 : Int32) => if r5 = 0 then (bd (f_X2_save S) (fun (S7 : BO) => nm (fun (v8 : Int32) => nm (fun (S9 : BO) => some (.inr v8, S9)) (S7.1, (S7.2.1.1, up2 S7.2.1.2 1 (pAt 32 (S7.2.1.2 1) r2 p2)), S7.2.2)) (vAt 32 (S7.2.1.2 1) r2))) else (some (.inl "java/lang/IllegalStateException", S)))))))
abbrev rm_X2_correct : Room := { frames := 3, cells := 0, slots := 0, locals := 106 }
theorem np_X2_correct : yX2_correct.cls ≠ "java/lang/invoke/MethodHandle" ∧ yX2_correct.cls ≠ "java/lang/invoke/VarHandle" ∧ (parseMethodDescriptor yX2_correct.desc).map (fun d => d.parameters.length) = some 3 := by decide +kernel
set_option maxHeartbeats 4000000 in
set_option maxRecDepth 100000 in
theorem k_X2_correct (l : Launch) (D : va_G) (cs : CS) (a : Nat → Nat → Nat) (p0 : Int32) (p1 : Int32) (p2 : Int32) (S : BO) {r9 : Int32} {S9 : BO} (h : f_X2_correct p0 p1 p2 S = some (.inr r9, S9)) : MI l D cs yX2_correct cX2_correct 6 .int rm_X2_correct [.ref (a 0 0), .int p0, .int p1, .int p2] (wB cs a S) r9 (wB cs a S9) := by
  refine MI_of (by decide) (Nat.le_of_ble_eq_true rfl) ?_
  rintro Γ rfl rfl rfl B ret
  show X Γ 6 0 0 0 [(0, .ref (a 0 0)), (1, .int p0), (2, .int p1), (3, .int p2)] [] (wB Γ.cs a S)
  unfold f_X2_correct at h
  refine x_aload_n B (pc' := 1) 0 dX2_correct_0 rfl rfl rfl ?_
  refine x_iload_n B (pc' := 2) 1 dX2_correct_1 rfl rfl rfl ?_
  refine x_iload_n B (pc' := 3) 2 dX2_correct_2 rfl rfl rfl ?_
  obtain ⟨_, eo1, h⟩ := bxw_in h
  refine x_selfVv B (pc' := 6) [.int p0, .int p1] (k_X2_requirePlace _ _ _ a p0 p1 S eo1) rfl rfl gv_RX2_108 rfl np_X2_requirePlace ⟨Nat.le_of_ble_eq_true rfl, Nat.le_of_ble_eq_true rfl⟩ ⟨by exact Nat.le_of_ble_eq_true rfl, by exact Nat.le_of_ble_eq_true rfl⟩ rfl (Nat.le_of_ble_eq_true rfl) dX2_correct_3 rfl ?_
  refine x_aload_n B (pc' := 7) 0 dX2_correct_6 rfl rfl rfl ?_
  refine b_ref0 B (pc' := 10) wf_RX2_10 dX2_correct_7 rfl ?_
  refine x_iload_n B (pc' := 11) 1 dX2_correct_10 rfl rfl rfl ?_
  refine x_iload_n B (pc' := 12) 2 dX2_correct_11 rfl rfl rfl ?_
  obtain ⟨r2, er2, h⟩ := bd_elim h
  refine b_nowRi B (pc' := 15) [.int p0, .int p1] (k_X1_cellAt _ _ _ (a 1) p0 p1 S.2.1 er2) gv_RX2_116 rfl np_X1_cellAt ⟨Nat.le_of_ble_eq_true rfl, Nat.le_of_ble_eq_true rfl⟩ ⟨by exact Nat.le_of_ble_eq_true rfl, by exact Nat.le_of_ble_eq_true rfl⟩ rfl (Nat.le_of_ble_eq_true rfl) dX2_correct_12 rfl ?_
  refine x_istore B (pc' := 17) [1, 2, 3, 4, 0] [(0, .ref (a 0 0)), (1, .int p0), (2, .int p1), (3, .int p2), (4, .int r2)] dX2_correct_15 (by decide) rfl rfl ?_
  refine x_iload B (pc' := 19) 4 dX2_correct_17 rfl rfl ?_
  obtain ⟨_, eo3, h⟩ := bxw_in h
  refine x_pureSv B (pc' := 22) [.int r2] (k_X2_requireCell _ _ _ r2 eo3) gv_RX2_91 np_X2_requireCell ⟨Nat.le_of_ble_eq_true rfl, Nat.le_of_ble_eq_true rfl⟩ ⟨by exact Nat.le_of_ble_eq_true rfl, by exact Nat.le_of_ble_eq_true rfl⟩ rfl (Nat.le_of_ble_eq_true rfl) dX2_correct_19 rfl ?_
  refine x_iload_n B (pc' := 23) 3 dX2_correct_22 rfl rfl rfl ?_
  obtain ⟨_, eo4, h⟩ := bxw_in h
  refine x_pureSv B (pc' := 26) [.int p2] (k_X2_requireSound _ _ _ p2 eo4) gv_RX2_61 np_X2_requireSound ⟨Nat.le_of_ble_eq_true rfl, Nat.le_of_ble_eq_true rfl⟩ ⟨by exact Nat.le_of_ble_eq_true rfl, by exact Nat.le_of_ble_eq_true rfl⟩ rfl (Nat.le_of_ble_eq_true rfl) dX2_correct_23 rfl ?_
  refine x_aload_n B (pc' := 27) 0 dX2_correct_26 rfl rfl rfl ?_
  refine b_ref0 B (pc' := 30) wf_RX2_10 dX2_correct_27 rfl ?_
  refine x_iload_n B (pc' := 31) 1 dX2_correct_30 rfl rfl rfl ?_
  obtain ⟨r5, er5, h⟩ := bd_elim h
  refine b_nowRi B (pc' := 34) [.int p0] (k_X1_isFlagged _ _ _ (a 1) p0 S.2.1 er5) gv_RX2_78 rfl np_X1_isFlagged ⟨Nat.le_of_ble_eq_true rfl, Nat.le_of_ble_eq_true rfl⟩ ⟨by exact Nat.le_of_ble_eq_true rfl, by exact Nat.le_of_ble_eq_true rfl⟩ rfl (Nat.le_of_ble_eq_true rfl) dX2_correct_31 rfl ?_
  refine x_if_eq B 47 37 dX2_correct_34 (by decide) rfl (fun hc6 => ?_) (fun hc6 => ?_)
  · replace h := ite_t hc6 h
    refine x_aload_n B (pc' := 48) 0 dX2_correct_47 rfl rfl rfl ?_
    obtain ⟨S7, eS7, h⟩ := bd_elim h
    refine x_selfVv B (pc' := 51) [] (k_X2_save _ _ _ a S eS7) rfl rfl gv_RX2_45 rfl np_X2_save ⟨Nat.le_of_ble_eq_true rfl, Nat.le_of_ble_eq_true rfl⟩ ⟨by exact Nat.le_of_ble_eq_true rfl, by exact Nat.le_of_ble_eq_true rfl⟩ rfl (Nat.le_of_ble_eq_true rfl) dX2_correct_48 rfl ?_
    refine x_aload_n B (pc' := 52) 0 dX2_correct_51 rfl rfl rfl ?_
    refine b_ref0 B (pc' := 55) wf_RX2_10 dX2_correct_52 rfl ?_
    refine bn_ref1 B (pc' := 58) wf_RX2_112 dX2_correct_55 rfl ?_
    refine x_iload B (pc' := 60) 4 dX2_correct_58 rfl rfl ?_
    refine bn_vAt1 B (pc' := 63) ⟨Nat.le_of_ble_eq_true rfl, Nat.le_of_ble_eq_true rfl⟩ ⟨Nat.le_of_ble_eq_true rfl, Nat.le_of_ble_eq_true rfl⟩ (Nat.le_of_ble_eq_true rfl) rfl dX2_correct_60 rfl ?_
    obtain ⟨v8, ev8, h⟩ := nm_elim h
    refine x_topi ev8 ?_
    refine x_istore B (pc' := 65) [1, 2, 3, 4, 5, 0] [(0, .ref (a 0 0)), (1, .int p0), (2, .int p1), (3, .int p2), (4, .int r2), (5, .int v8)] dX2_correct_63 (by decide) rfl rfl ?_
    refine x_aload_n B (pc' := 66) 0 dX2_correct_65 rfl rfl rfl ?_
    refine b_ref0 B (pc' := 69) wf_RX2_10 dX2_correct_66 rfl ?_
    refine bn_ref1 B (pc' := 72) wf_RX2_112 dX2_correct_69 rfl ?_
    refine x_iload B (pc' := 74) 4 dX2_correct_72 rfl rfl ?_
    refine x_iload_n B (pc' := 75) 3 dX2_correct_74 rfl rfl rfl ?_
    obtain ⟨S9, eS9, h⟩ := nm_elim h
    refine bn_pAt1 B (pc' := 78) ⟨Nat.le_of_ble_eq_true rfl, Nat.le_of_ble_eq_true rfl⟩ ⟨Nat.le_of_ble_eq_true rfl, Nat.le_of_ble_eq_true rfl⟩ (Nat.le_of_ble_eq_true rfl) rfl dX2_correct_75 rfl ?_
    refine b_wd eS9 ?_
    refine x_iload B (pc' := 80) 5 dX2_correct_78 rfl rfl ?_
    obtain ⟨h1, h2⟩ := some2 h
    replace h1 := Sum.inr.inj h1
    subst h1
    subst h2
    exact ret rfl (by exact Nat.le_of_ble_eq_true rfl) (by exact Nat.le_of_ble_eq_true rfl) dX2_correct_80
  · replace h := ite_f hc6 h
    cases h
def f_X2_carbon (p0 : Int32) (p1 : Int32) (S : BO) : Option (String ⊕ Int32) :=
  bxr (f_X2_requirePlace p0 p1 S) (fun (_ : Unit) => bd (f_X1_cellAt p0 p1 S.2.1) (fun (r2 : Int32) => some (.inr (vAt 32 (S.2.1.2 2) r2))))
abbrev rm_X2_carbon : Room := { frames := 2, cells := 0, slots := 0, locals := 47 }
theorem np_X2_carbon : yX2_carbon.cls ≠ "java/lang/invoke/MethodHandle" ∧ yX2_carbon.cls ≠ "java/lang/invoke/VarHandle" ∧ (parseMethodDescriptor yX2_carbon.desc).map (fun d => d.parameters.length) = some 2 := by decide +kernel
set_option maxHeartbeats 4000000 in
set_option maxRecDepth 100000 in
theorem k_X2_carbon (l : Launch) (D : va_G) (cs : CS) (a : Nat → Nat → Nat) (p0 : Int32) (p1 : Int32) (S : BO) {r9 : Int32} (h : f_X2_carbon p0 p1 S = some (.inr r9)) : MI l D cs yX2_carbon cX2_carbon 3 .int rm_X2_carbon [.ref (a 0 0), .int p0, .int p1] (wB cs a S) r9 (wB cs a S) := by
  refine MI_of (by decide) (Nat.le_of_ble_eq_true rfl) ?_
  rintro Γ rfl rfl rfl B ret
  show X Γ 3 0 0 0 [(0, .ref (a 0 0)), (1, .int p0), (2, .int p1)] [] (wB Γ.cs a S)
  unfold f_X2_carbon at h
  refine x_aload_n B (pc' := 1) 0 dX2_carbon_0 rfl rfl rfl ?_
  refine x_iload_n B (pc' := 2) 1 dX2_carbon_1 rfl rfl rfl ?_
  refine x_iload_n B (pc' := 3) 2 dX2_carbon_2 rfl rfl rfl ?_
  obtain ⟨_, eo1, h⟩ := bxr_in h
  refine x_selfVv B (pc' := 6) [.int p0, .int p1] (k_X2_requirePlace _ _ _ a p0 p1 S eo1) rfl rfl gv_RX2_108 rfl np_X2_requirePlace ⟨Nat.le_of_ble_eq_true rfl, Nat.le_of_ble_eq_true rfl⟩ ⟨by exact Nat.le_of_ble_eq_true rfl, by exact Nat.le_of_ble_eq_true rfl⟩ rfl (Nat.le_of_ble_eq_true rfl) dX2_carbon_3 rfl ?_
  refine x_aload_n B (pc' := 7) 0 dX2_carbon_6 rfl rfl rfl ?_
  refine b_ref0 B (pc' := 10) wf_RX2_10 dX2_carbon_7 rfl ?_
  refine bn_ref2 B (pc' := 13) wf_RX2_167 dX2_carbon_10 rfl ?_
  refine x_aload_n B (pc' := 14) 0 dX2_carbon_13 rfl rfl rfl ?_
  refine b_ref0 B (pc' := 17) wf_RX2_10 dX2_carbon_14 rfl ?_
  refine x_iload_n B (pc' := 18) 1 dX2_carbon_17 rfl rfl rfl ?_
  refine x_iload_n B (pc' := 19) 2 dX2_carbon_18 rfl rfl rfl ?_
  obtain ⟨r2, er2, h⟩ := bd_elim h
  refine b_nowRi B (pc' := 22) [.int p0, .int p1] (k_X1_cellAt _ _ _ (a 1) p0 p1 S.2.1 er2) gv_RX2_116 rfl np_X1_cellAt ⟨Nat.le_of_ble_eq_true rfl, Nat.le_of_ble_eq_true rfl⟩ ⟨by exact Nat.le_of_ble_eq_true rfl, by exact Nat.le_of_ble_eq_true rfl⟩ rfl (Nat.le_of_ble_eq_true rfl) dX2_carbon_19 rfl ?_
  refine bn_vAt2 B (pc' := 25) ⟨Nat.le_of_ble_eq_true rfl, Nat.le_of_ble_eq_true rfl⟩ ⟨Nat.le_of_ble_eq_true rfl, Nat.le_of_ble_eq_true rfl⟩ (Nat.le_of_ble_eq_true rfl) rfl dX2_carbon_22 rfl ?_
  have h1 := Sum.inr.inj (Option.some.inj h)
  subst h1
  exact ret rfl (by exact Nat.le_of_ble_eq_true rfl) (by exact Nat.le_of_ble_eq_true rfl) dX2_carbon_25
def c_X2_requireForecast_11 : Option (String ⊕ Unit) :=
  some (.inl "java/lang/IllegalArgumentException")
def f_X2_requireForecast (p0 : Int32) : Option (String ⊕ Unit) :=
  if p0 < (1 : Int32) then (c_X2_requireForecast_11 ) else (if p0 ≤ (32 : Int32) then (some (.inr ())) else (c_X2_requireForecast_11 ))
abbrev rm_X2_requireForecast : Room := { frames := 0, cells := 0, slots := 0, locals := 0 }
theorem np_X2_requireForecast : yX2_requireForecast.cls ≠ "java/lang/invoke/MethodHandle" ∧ yX2_requireForecast.cls ≠ "java/lang/invoke/VarHandle" ∧ (parseMethodDescriptor yX2_requireForecast.desc).map (fun d => d.parameters.length) = some 1 := by decide +kernel
set_option maxHeartbeats 4000000 in
set_option maxRecDepth 100000 in
theorem k_X2_requireForecast (l : Launch) (D : va_G) (cs : CS)  (p0 : Int32) (h : f_X2_requireForecast p0 = some (.inr ())) : MV l D cs yX2_requireForecast cX2_requireForecast 1 rm_X2_requireForecast [.int p0] ([]) ([]) := by
  refine MV_of (by decide) (Nat.le_of_ble_eq_true rfl) ?_
  rintro Γ rfl rfl rfl B ret
  show X Γ 1 0 0 0 [(0, .int p0)] [] ([])
  have h11 : c_X2_requireForecast_11   = some (.inr ()) → X Γ 1 0 0 11 [] [] ([]) := by
    intro   h
    unfold c_X2_requireForecast_11 at h
    cases h
  unfold f_X2_requireForecast at h
  refine x_iload_n B (pc' := 1) 0 dX2_requireForecast_0 rfl rfl rfl ?_
  refine x_iconst B (pc' := 2) 1 dX2_requireForecast_1 (by decide) rfl ?_
  refine x_icmp_lt B 11 5 dX2_requireForecast_2 (by decide) rfl (fun hc1 => ?_) (fun hc1 => ?_)
  · replace h := ite_t hc1 h
    refine x_lv [] (lv' := []) rfl ?_
    exact h11   h
  · replace h := ite_f hc1 h
    refine x_iload_n B (pc' := 6) 0 dX2_requireForecast_5 rfl rfl rfl ?_
    refine x_bipush B (pc' := 8) 32 dX2_requireForecast_6 (by decide) rfl ?_
    refine x_icmp_le B 22 11 dX2_requireForecast_8 (by decide) rfl (fun hc2 => ?_) (fun hc2 => ?_)
    · replace h := ite_t hc2 h
      exact ret (by exact Nat.le_of_ble_eq_true rfl) (by exact Nat.le_of_ble_eq_true rfl) dX2_requireForecast_22
    · replace h := ite_f hc2 h
      refine x_lv [] (lv' := []) rfl ?_
      exact h11   h
def f_X2_lossOf (p0 : Int32) (p1 : Int32) (S : BO) : Option (String ⊕ Int32) :=
  bxr (f_X2_requireRecording p0 S) (fun (_ : Unit) => bxr (f_X2_requireForecast p1) (fun (_ : Unit) => bd (f_X1_lossAfter p0 p1 S.2.1) (fun (r3 : Int32) => some (.inr r3))))
abbrev rm_X2_lossOf : Room := { frames := 3, cells := 0, slots := 0, locals := 70 }
theorem np_X2_lossOf : yX2_lossOf.cls ≠ "java/lang/invoke/MethodHandle" ∧ yX2_lossOf.cls ≠ "java/lang/invoke/VarHandle" ∧ (parseMethodDescriptor yX2_lossOf.desc).map (fun d => d.parameters.length) = some 2 := by decide +kernel
set_option maxHeartbeats 4000000 in
set_option maxRecDepth 100000 in
theorem k_X2_lossOf (l : Launch) (D : va_G) (cs : CS) (a : Nat → Nat → Nat) (p0 : Int32) (p1 : Int32) (S : BO) {r9 : Int32} (h : f_X2_lossOf p0 p1 S = some (.inr r9)) : MI l D cs yX2_lossOf cX2_lossOf 3 .int rm_X2_lossOf [.ref (a 0 0), .int p0, .int p1] (wB cs a S) r9 (wB cs a S) := by
  refine MI_of (by decide) (Nat.le_of_ble_eq_true rfl) ?_
  rintro Γ rfl rfl rfl B ret
  show X Γ 3 0 0 0 [(0, .ref (a 0 0)), (1, .int p0), (2, .int p1)] [] (wB Γ.cs a S)
  unfold f_X2_lossOf at h
  refine x_aload_n B (pc' := 1) 0 dX2_lossOf_0 rfl rfl rfl ?_
  refine x_iload_n B (pc' := 2) 1 dX2_lossOf_1 rfl rfl rfl ?_
  obtain ⟨_, eo1, h⟩ := bxr_in h
  refine x_selfVv B (pc' := 5) [.int p0] (k_X2_requireRecording _ _ _ a p0 S eo1) rfl rfl gv_RX2_75 rfl np_X2_requireRecording ⟨Nat.le_of_ble_eq_true rfl, Nat.le_of_ble_eq_true rfl⟩ ⟨by exact Nat.le_of_ble_eq_true rfl, by exact Nat.le_of_ble_eq_true rfl⟩ rfl (Nat.le_of_ble_eq_true rfl) dX2_lossOf_2 rfl ?_
  refine x_iload_n B (pc' := 6) 2 dX2_lossOf_5 rfl rfl rfl ?_
  obtain ⟨_, eo2, h⟩ := bxr_in h
  refine x_pureSv B (pc' := 9) [.int p1] (k_X2_requireForecast _ _ _ p1 eo2) gv_RX2_179 np_X2_requireForecast ⟨Nat.le_of_ble_eq_true rfl, Nat.le_of_ble_eq_true rfl⟩ ⟨by exact Nat.le_of_ble_eq_true rfl, by exact Nat.le_of_ble_eq_true rfl⟩ rfl (Nat.le_of_ble_eq_true rfl) dX2_lossOf_6 rfl ?_
  refine x_aload_n B (pc' := 10) 0 dX2_lossOf_9 rfl rfl rfl ?_
  refine b_ref0 B (pc' := 13) wf_RX2_10 dX2_lossOf_10 rfl ?_
  refine x_iload_n B (pc' := 14) 1 dX2_lossOf_13 rfl rfl rfl ?_
  refine x_iload_n B (pc' := 15) 2 dX2_lossOf_14 rfl rfl rfl ?_
  obtain ⟨r3, er3, h⟩ := bd_elim h
  refine b_nowRi B (pc' := 18) [.int p0, .int p1] (k_X1_lossAfter _ _ _ (a 1) p0 p1 S.2.1 er3) gv_RX2_182 rfl np_X1_lossAfter ⟨Nat.le_of_ble_eq_true rfl, Nat.le_of_ble_eq_true rfl⟩ ⟨by exact Nat.le_of_ble_eq_true rfl, by exact Nat.le_of_ble_eq_true rfl⟩ rfl (Nat.le_of_ble_eq_true rfl) dX2_lossOf_15 rfl ?_
  have h1 := Sum.inr.inj (Option.some.inj h)
  subst h1
  exact ret rfl (by exact Nat.le_of_ble_eq_true rfl) (by exact Nat.le_of_ble_eq_true rfl) dX2_lossOf_18
def b_X2_goneAfter_8 (S : BO) (K8 : Int32 → Int32 → Int32 → Option (String ⊕ Int32)) (x1 : Int32) (x2 : Int32) (x3 : Int32) : Option (String ⊕ Int32) :=
  if (S.2.1.1 7) ≤ x3 then (some (.inr x2)) else (bd (f_X1_lossAfter x3 x1 S.2.1) (fun (r3 : Int32) => if r3 ≤ 0 then (nm (fun (v5 : Int32) => K8 x1 x2 v5) (x3 + 1)) else (bd (f_X1_cellCount x3 S.2.1) (fun (r6 : Int32) => if r3 = r6 then (nm (fun (v9 : Int32) => nm (fun (v10 : Int32) => K8 x1 v9 v10) (x3 + 1)) (x2 + 1)) else (nm (fun (v8 : Int32) => K8 x1 x2 v8) (x3 + 1))))))
def f_X2_goneAfter (p0 : Int32) (S : BO) : Option (String ⊕ Int32) :=
  bxr (f_X2_requireForecast p0) (fun (_ : Unit) => lpf3 (b_X2_goneAfter_8 S) FU p0 (0 : Int32) (0 : Int32))
abbrev rm_X2_goneAfter : Room := { frames := 3, cells := 0, slots := 0, locals := 70 }
theorem np_X2_goneAfter : yX2_goneAfter.cls ≠ "java/lang/invoke/MethodHandle" ∧ yX2_goneAfter.cls ≠ "java/lang/invoke/VarHandle" ∧ (parseMethodDescriptor yX2_goneAfter.desc).map (fun d => d.parameters.length) = some 1 := by decide +kernel
set_option maxHeartbeats 4000000 in
set_option maxRecDepth 100000 in
theorem k_X2_goneAfter (l : Launch) (D : va_G) (cs : CS) (a : Nat → Nat → Nat) (p0 : Int32) (S : BO) {r9 : Int32} (h : f_X2_goneAfter p0 S = some (.inr r9)) : MI l D cs yX2_goneAfter cX2_goneAfter 5 .int rm_X2_goneAfter [.ref (a 0 0), .int p0] (wB cs a S) r9 (wB cs a S) := by
  refine MI_of (by decide) (Nat.le_of_ble_eq_true rfl) ?_
  rintro Γ rfl rfl rfl B ret
  show X Γ 5 0 0 0 [(0, .ref (a 0 0)), (1, .int p0)] [] (wB Γ.cs a S)
  have h8 : ∀ (n9 : Nat) (x1 : Int32) (x2 : Int32) (x3 : Int32), lpf3 (b_X2_goneAfter_8 S) n9 x1 x2 x3 = some (.inr r9) → X Γ 5 0 0 8 [(0, .ref (a 0 0)), (1, .int x1), (2, .int x2), (3, .int x3)] [] (wB Γ.cs a S) := by
    refine lpf3_ind (fun K8 hK8 x1 x2 x3 h => ?_)
    unfold b_X2_goneAfter_8 at h
    refine x_iload_n B (pc' := 9) 3 dX2_goneAfter_8 rfl rfl rfl ?_
    refine x_aload_n B (pc' := 10) 0 dX2_goneAfter_9 rfl rfl rfl ?_
    refine b_ref0 B (pc' := 13) wf_RX2_10 dX2_goneAfter_10 rfl ?_
    refine bn_get7 B (pc' := 16) wf_RX2_99 dX2_goneAfter_13 rfl ?_
    refine x_icmp_ge B 57 19 dX2_goneAfter_16 (by decide) rfl (fun hc2 => ?_) (fun hc2 => ?_)
    · replace h := ite_t hc2 h
      refine x_iload_n B (pc' := 58) 2 dX2_goneAfter_57 rfl rfl rfl ?_
      have h1 := Sum.inr.inj (Option.some.inj h)
      subst h1
      exact ret rfl (by exact Nat.le_of_ble_eq_true rfl) (by exact Nat.le_of_ble_eq_true rfl) dX2_goneAfter_58
    · replace h := ite_f hc2 h
      refine x_aload_n B (pc' := 20) 0 dX2_goneAfter_19 rfl rfl rfl ?_
      refine b_ref0 B (pc' := 23) wf_RX2_10 dX2_goneAfter_20 rfl ?_
      refine x_iload_n B (pc' := 24) 3 dX2_goneAfter_23 rfl rfl rfl ?_
      refine x_iload_n B (pc' := 25) 1 dX2_goneAfter_24 rfl rfl rfl ?_
      obtain ⟨r3, er3, h⟩ := bd_elim h
      refine b_nowRi B (pc' := 28) [.int x3, .int x1] (k_X1_lossAfter _ _ _ (a 1) x3 x1 S.2.1 er3) gv_RX2_182 rfl np_X1_lossAfter ⟨Nat.le_of_ble_eq_true rfl, Nat.le_of_ble_eq_true rfl⟩ ⟨by exact Nat.le_of_ble_eq_true rfl, by exact Nat.le_of_ble_eq_true rfl⟩ rfl (Nat.le_of_ble_eq_true rfl) dX2_goneAfter_25 rfl ?_
      refine x_istore B (pc' := 30) [1, 2, 3, 4, 0] [(0, .ref (a 0 0)), (1, .int x1), (2, .int x2), (3, .int x3), (4, .int r3)] dX2_goneAfter_28 (by decide) rfl rfl ?_
      refine x_iload B (pc' := 32) 4 dX2_goneAfter_30 rfl rfl ?_
      refine x_if_le B 51 35 dX2_goneAfter_32 (by decide) rfl (fun hc4 => ?_) (fun hc4 => ?_)
      · replace h := ite_t hc4 h
        obtain ⟨v5, ev5, h⟩ := nm_elim h
        refine x_iinc B (pc' := 54) v5 3 [1, 2, 3, 0, 4] [(0, .ref (a 0 0)), (1, .int x1), (2, .int x2), (3, .int v5), (4, .int r3)] dX2_goneAfter_51 rfl (by rw [ev5]; rfl) (by decide) rfl rfl ?_
        refine x_goto B (pc' := 8) dX2_goneAfter_54 (by decide) ?_
        refine x_lv [0, 1, 2, 3] (lv' := [(0, .ref (a 0 0)), (1, .int x1), (2, .int x2), (3, .int v5)]) rfl ?_
        exact hK8 _ _ _ h
      · replace h := ite_f hc4 h
        refine x_iload B (pc' := 37) 4 dX2_goneAfter_35 rfl rfl ?_
        refine x_aload_n B (pc' := 38) 0 dX2_goneAfter_37 rfl rfl rfl ?_
        refine b_ref0 B (pc' := 41) wf_RX2_10 dX2_goneAfter_38 rfl ?_
        refine x_iload_n B (pc' := 42) 3 dX2_goneAfter_41 rfl rfl rfl ?_
        obtain ⟨r6, er6, h⟩ := bd_elim h
        refine b_nowRi B (pc' := 45) [.int x3] (k_X1_cellCount _ _ _ (a 1) x3 S.2.1 er6) gv_RX2_105 rfl np_X1_cellCount ⟨Nat.le_of_ble_eq_true rfl, Nat.le_of_ble_eq_true rfl⟩ ⟨by exact Nat.le_of_ble_eq_true rfl, by exact Nat.le_of_ble_eq_true rfl⟩ rfl (Nat.le_of_ble_eq_true rfl) dX2_goneAfter_42 rfl ?_
        refine x_icmp_ne B 51 48 dX2_goneAfter_45 (by decide) rfl (fun hc7 => ?_) (fun hc7 => ?_)
        · replace h := ite_f hc7 h
          obtain ⟨v8, ev8, h⟩ := nm_elim h
          refine x_iinc B (pc' := 54) v8 3 [1, 2, 3, 0, 4] [(0, .ref (a 0 0)), (1, .int x1), (2, .int x2), (3, .int v8), (4, .int r3)] dX2_goneAfter_51 rfl (by rw [ev8]; rfl) (by decide) rfl rfl ?_
          refine x_goto B (pc' := 8) dX2_goneAfter_54 (by decide) ?_
          refine x_lv [0, 1, 2, 3] (lv' := [(0, .ref (a 0 0)), (1, .int x1), (2, .int x2), (3, .int v8)]) rfl ?_
          exact hK8 _ _ _ h
        · replace h := ite_t hc7 h
          obtain ⟨v9, ev9, h⟩ := nm_elim h
          refine x_iinc B (pc' := 51) v9 2 [1, 2, 0, 3, 4] [(0, .ref (a 0 0)), (1, .int x1), (2, .int v9), (3, .int x3), (4, .int r3)] dX2_goneAfter_48 rfl (by rw [ev9]; rfl) (by decide) rfl rfl ?_
          obtain ⟨v10, ev10, h⟩ := nm_elim h
          refine x_iinc B (pc' := 54) v10 3 [1, 2, 3, 0, 4] [(0, .ref (a 0 0)), (1, .int x1), (2, .int v9), (3, .int v10), (4, .int r3)] dX2_goneAfter_51 rfl (by rw [ev10]; rfl) (by decide) rfl rfl ?_
          refine x_goto B (pc' := 8) dX2_goneAfter_54 (by decide) ?_
          refine x_lv [0, 1, 2, 3] (lv' := [(0, .ref (a 0 0)), (1, .int x1), (2, .int v9), (3, .int v10)]) rfl ?_
          exact hK8 _ _ _ h
  unfold f_X2_goneAfter at h
  refine x_iload_n B (pc' := 1) 1 dX2_goneAfter_0 rfl rfl rfl ?_
  obtain ⟨_, eo1, h⟩ := bxr_in h
  refine x_pureSv B (pc' := 4) [.int p0] (k_X2_requireForecast _ _ _ p0 eo1) gv_RX2_179 np_X2_requireForecast ⟨Nat.le_of_ble_eq_true rfl, Nat.le_of_ble_eq_true rfl⟩ ⟨by exact Nat.le_of_ble_eq_true rfl, by exact Nat.le_of_ble_eq_true rfl⟩ rfl (Nat.le_of_ble_eq_true rfl) dX2_goneAfter_1 rfl ?_
  refine x_iconst B (pc' := 5) 0 dX2_goneAfter_4 (by decide) rfl ?_
  refine x_istore_n B (pc' := 6) [1, 2, 0] [(0, .ref (a 0 0)), (1, .int p0), (2, .int (0 : Int32))] dX2_goneAfter_5 rfl (by decide) rfl rfl ?_
  refine x_iconst B (pc' := 7) 0 dX2_goneAfter_6 (by decide) rfl ?_
  refine x_istore_n B (pc' := 8) [1, 2, 3, 0] [(0, .ref (a 0 0)), (1, .int p0), (2, .int (0 : Int32)), (3, .int (0 : Int32))] dX2_goneAfter_7 rfl (by decide) rfl rfl ?_
  exact h8  _ _ _ _ h
def c_X2_undo_35 (t0 : Int32) (S : BO) : Option ((String ⊕ Int32) × BO) :=
  nm (fun (S3 : BO) => nm (fun (S4 : BO) => gd (S4.1 2) 6 (nm (fun (j6 : Nat) => bd (f_X1_copyFrom S4.2.1 (S4.2.2.1 j6)) (fun (S7 : OB) => nm (fun (S8 : BO) => some (.inr (S8.1 3), S8)) (S4.1, S7, S4.2.2))) (Int32.toNatClampNeg (S4.1 2)))) (upd S3.1 3 ((S3.1 3) - (1 : Int32)), S3.2)) (upd S.1 2 t0, S.2)
def f_X2_undo (S : BO) : Option ((String ⊕ Int32) × BO) :=
  if (S.1 3) = 0 then (some (.inl "java/lang/IllegalStateException", S)) else (if (S.1 2) = 0 then (c_X2_undo_35 (5 : Int32) S) else (c_X2_undo_35 ((S.1 2) - (1 : Int32)) S))
abbrev rm_X2_undo : Room := { frames := 2, cells := 0, slots := 0, locals := 85 }
theorem np_X2_undo : yX2_undo.cls ≠ "java/lang/invoke/MethodHandle" ∧ yX2_undo.cls ≠ "java/lang/invoke/VarHandle" ∧ (parseMethodDescriptor yX2_undo.desc).map (fun d => d.parameters.length) = some 0 := by decide +kernel
set_option maxHeartbeats 4000000 in
set_option maxRecDepth 100000 in
theorem k_X2_undo (l : Launch) (D : va_G) (cs : CS) (a : Nat → Nat → Nat) (S : BO) {r9 : Int32} {S9 : BO} (h : f_X2_undo S = some (.inr r9, S9)) : MI l D cs yX2_undo cX2_undo 2 .int rm_X2_undo [.ref (a 0 0)] (wB cs a S) r9 (wB cs a S9) := by
  refine MI_of (by decide) (Nat.le_of_ble_eq_true rfl) ?_
  rintro Γ rfl rfl rfl B ret
  show X Γ 2 0 0 0 [(0, .ref (a 0 0))] [] (wB Γ.cs a S)
  have h35 : ∀ (t0 : Int32) (S : BO), c_X2_undo_35  t0 S = some (.inr r9, S9) → X Γ 2 0 0 35 [(0, .ref (a 0 0))] [.int t0, .ref (a 0 0)] (wB Γ.cs a S) := by
    intro  t0 S h
    unfold c_X2_undo_35 at h
    obtain ⟨S3, eS3, h⟩ := nm_elim h
    refine b_put2 B (pc' := 38) wf_RX2_20 dX2_undo_35 rfl ?_
    refine b_wd eS3 ?_
    refine x_aload_n B (pc' := 39) 0 dX2_undo_38 rfl rfl rfl ?_
    refine x_dup B (pc' := 40) dX2_undo_39 rfl rfl ?_
    refine b_get3 B (pc' := 43) wf_RX2_24 dX2_undo_40 rfl ?_
    refine x_iconst B (pc' := 44) 1 dX2_undo_43 (by decide) rfl ?_
    refine x_isub B (pc' := 45) dX2_undo_44 rfl ?_
    obtain ⟨S4, eS4, h⟩ := nm_elim h
    refine b_put3 B (pc' := 48) wf_RX2_24 dX2_undo_45 rfl ?_
    refine b_wd eS4 ?_
    refine x_aload_n B (pc' := 49) 0 dX2_undo_48 rfl rfl rfl ?_
    refine x_aload_n B (pc' := 50) 0 dX2_undo_49 rfl rfl rfl ?_
    refine b_get2 B (pc' := 53) wf_RX2_20 dX2_undo_50 rfl ?_
    obtain ⟨hi5, h⟩ := gd_elim h
    obtain ⟨j6, ej6, h⟩ := nm_elim h
    have hj6 : j6 < 6 := by rw [ej6]; exact Nat.not_le.mp fun q => hi5 (Or.inr q)
    refine b_slotAt B (pc' := 56) hi5 ej6 ⟨Nat.le_of_ble_eq_true rfl, Nat.le_of_ble_eq_true rfl⟩ ⟨by exact Nat.le_of_ble_eq_true rfl, by exact Nat.le_of_ble_eq_true rfl⟩ (Nat.le_of_ble_eq_true rfl) dX2_undo_53 rfl ?_
    refine x_astore_n B (pc' := 57) [1, 0] [(0, .ref (a 0 0)), (1, .ref (a (3 + j6) 0))] dX2_undo_56 rfl (by decide) rfl rfl ?_
    refine x_aload_n B (pc' := 58) 1 dX2_undo_57 rfl rfl rfl ?_
    refine x_ifnull B (pc' := 61) dX2_undo_58 rfl ?_
    refine x_aload_n B (pc' := 62) 0 dX2_undo_61 rfl rfl rfl ?_
    refine b_ref0 B (pc' := 65) wf_RX2_10 dX2_undo_62 rfl ?_
    refine x_aload_n B (pc' := 66) 1 dX2_undo_65 rfl rfl rfl ?_
    obtain ⟨S7, eS7, h⟩ := bd_elim h
    obtain ⟨S8, eS8, h⟩ := nm_elim h
    refine b_cpyU hj6 B (pc' := 69) eS7 ⟨Nat.le_of_ble_eq_true rfl, Nat.le_of_ble_eq_true rfl⟩ ⟨by exact Nat.le_of_ble_eq_true rfl, by exact Nat.le_of_ble_eq_true rfl⟩ (Nat.le_of_ble_eq_true rfl) dX2_undo_66 rfl ?_
    refine b_wd eS8 ?_
    refine x_aload_n B (pc' := 70) 0 dX2_undo_69 rfl rfl rfl ?_
    refine b_get3 B (pc' := 73) wf_RX2_24 dX2_undo_70 rfl ?_
    obtain ⟨h1, h2⟩ := some2 h
    replace h1 := Sum.inr.inj h1
    subst h1
    subst h2
    exact ret rfl (by exact Nat.le_of_ble_eq_true rfl) (by exact Nat.le_of_ble_eq_true rfl) dX2_undo_73
  unfold f_X2_undo at h
  refine x_aload_n B (pc' := 1) 0 dX2_undo_0 rfl rfl rfl ?_
  refine b_get3 B (pc' := 4) wf_RX2_24 dX2_undo_1 rfl ?_
  refine x_if_ne B 17 7 dX2_undo_4 (by decide) rfl (fun hc1 => ?_) (fun hc1 => ?_)
  · replace h := ite_f hc1 h
    refine x_aload_n B (pc' := 18) 0 dX2_undo_17 rfl rfl rfl ?_
    refine x_aload_n B (pc' := 19) 0 dX2_undo_18 rfl rfl rfl ?_
    refine b_get2 B (pc' := 22) wf_RX2_20 dX2_undo_19 rfl ?_
    refine x_if_ne B 29 25 dX2_undo_22 (by decide) rfl (fun hc2 => ?_) (fun hc2 => ?_)
    · replace h := ite_f hc2 h
      refine x_aload_n B (pc' := 30) 0 dX2_undo_29 rfl rfl rfl ?_
      refine b_get2 B (pc' := 33) wf_RX2_20 dX2_undo_30 rfl ?_
      refine x_iconst B (pc' := 34) 1 dX2_undo_33 (by decide) rfl ?_
      refine x_isub B (pc' := 35) dX2_undo_34 rfl ?_
      exact h35  _ _ h
    · replace h := ite_t hc2 h
      refine x_iconst B (pc' := 26) 5 dX2_undo_25 (by decide) rfl ?_
      refine x_goto B (pc' := 35) dX2_undo_26 (by decide) ?_
      exact h35  _ _ h
  · replace h := ite_t hc1 h
    cases h
end
section
def MD (l : Launch) (D : va_G) (cs : CS) (y : MethodName) (bytes : ByteArray) (maxL : Nat) (rm : Room) (av : List Value) (w : va_W) (r : UInt64) (w' : va_W) : Prop := ∀ sz, Met l y (.code y bytes maxL (some .double) :: GW) rm (PR D cs av w sz) (va_Qd (fun r' _ => r' = r) (PO D w w' sz) (va_A w sz)) rm.cells rm.slots (va_A w sz)
theorem MD_of {l : Launch} {D : va_G} {cs : CS} {y : MethodName} {bytes : ByteArray} {maxL : Nat} {r : UInt64} {rm : Room} {av : List Value} {w w' : va_W} (hy : plainName y.cls = true) (hlen : (lg_sl av).length ≤ maxL)
    (body : ∀ Γ : Ctx, Γ.l = l → Γ.D = D → Γ.cs = cs → CX Γ bytes maxL y.cls rm → (∀ {k n pc : Nat} {lv : List (Nat × Value)}, k ≤ rm.cells → n ≤ rm.slots → decode bytes pc = .ok (.dreturn, 1) → X Γ maxL k n pc lv [.double r] w') → X Γ maxL 0 0 0 (lv_args 0 av) [] w) : MD l D cs y bytes maxL rm av w r w' := by
  intro sz
  refine Met.ofW (cc := bytes) (maxL := maxL) (ret := some .double) hy rfl ?_
  intro p e s m args below meth c s₁ B hml hv
  obtain ⟨rfl, hsz, hP, hK, hD0⟩ := hv
  subst hsz
  have hts := atoms_spec (ws := .code y bytes maxL (some .double) :: GW) B.pre
  have hown : s.vm.findClass y.cls = some m.cls := findClass_of_methodNamed B.named
  have hl := lv_entry av (n := maxL) hlen
  rw [lg_entry_eq]
  have hD := hD0.self (sz := s.heap.size)
  refine body (p, l, e, rm, s, m, av.toArray, below, meth, c, _, va_A w s.heap.size, D, cs) rfl rfl rfl ⟨⟨B.exec, B.bytes, hml, hown, fun w h => hts w (List.mem_cons_of_mem _ h)⟩, hK, fun q h => Or.inr h, B.notSynchronized, rfl⟩ ?_ s.heap [] _ hP hD va_S.rf hl
  intro k n pc lv hk hn d H locs ls hP1 hD1 hS hl1
  have hlocks : meth.locks = false := B.notSynchronized
  exact W.widen hk hn (W.dret B.exec B.bytes B.returns (fun t ht hW => ⟨⟨r, (), rfl, rfl, by rw [ht]; exact hP1, hD1⟩, hS.F ht⟩) hS.2.2 d)
/-- a double that is a number -/
def nn (x : UInt64) : Option UInt64 := if x &&& 0x7fffffffffffffff ≤ 0x7ff0000000000000 then some x else none
theorem nn_elim {x r : UInt64} (h : nn x = some r) : vf_n64 x ∧ r = x := by
  unfold nn at h
  split at h
  · cases h; exact ⟨by assumption, rfl⟩
  · cases h
def f_X2_usedShare (S : BO) : Option UInt64 := nn (FP.ddiv (FP.i2d (S.2.1.1 4)) 4629700416936869888)
abbrev rm_X2_usedShare : Room := { frames := 0, cells := 0, slots := 0, locals := 0 }
theorem np_X2_usedShare : yX2_usedShare.cls ≠ "java/lang/invoke/MethodHandle" ∧ yX2_usedShare.cls ≠ "java/lang/invoke/VarHandle" ∧ (parseMethodDescriptor yX2_usedShare.desc).map (fun d => d.parameters.length) = some 0 := by decide +kernel
set_option maxHeartbeats 4000000 in
set_option maxRecDepth 100000 in
theorem k_X2_usedShare (l : Launch) (D : va_G) (cs : CS) (a : Nat → Nat → Nat) (S : BO) {r9 : UInt64} (h : f_X2_usedShare S = some r9) : MD l D cs yX2_usedShare cX2_usedShare 1 rm_X2_usedShare [.ref (a 0 0)] (wB cs a S) r9 (wB cs a S) := by
  refine MD_of (by decide) (Nat.le_of_ble_eq_true rfl) ?_
  rintro Γ rfl rfl rfl B ret
  show X Γ 1 0 0 0 [(0, .ref (a 0 0))] [] (wB Γ.cs a S)
  obtain ⟨hn, rfl⟩ := nn_elim h
  refine x_aload_n B (pc' := 1) 0 dX2_usedShare_0 rfl rfl rfl ?_
  refine b_ref0 B (pc' := 4) wf_RX2_10 dX2_usedShare_1 rfl ?_
  refine bn_get4 B (pc' := 7) wf_RX2_129 dX2_usedShare_4 rfl ?_
  refine x_i2d B (pc' := 8) dX2_usedShare_7 rfl ?_
  refine x_ldc2d B (pc' := 11) 4629700416936869888 wk_RX2_138 dX2_usedShare_8 rfl ?_
  refine x_ddiv B (pc' := 12) dX2_usedShare_11 hn rfl ?_
  exact ret (Nat.le_of_ble_eq_true rfl) (Nat.le_of_ble_eq_true rfl) dX2_usedShare_12
end
section
section CTOR
variable {Γ : Ctx} {cc : ByteArray} {nL k n pc pc' : Nat} {own : String} {R0 : Room} {lv : List (Nat × Value)} {st : List Value} {ws ws' : va_W}
theorem x_perm (is : List Nat) (h : is.map (fun i => ws[i]?) = ws'.map some) (hn : va_nd is = true) (kk : X Γ nL k n pc lv st ws') : X Γ nL k n pc lv st ws := by
  obtain ⟨p, l, e, R, s, m, args, below, meth, c, Q, A, D, cs⟩ := Γ
  intro H locs ls hP hD hS hl
  exact kk H locs ls (hP.sub is (fm_of h)) (hD.sub is hn h) hS hl
theorem arrQ_congr {cA : ClassId} {N : Nat} {f g : Nat → Option Nat} (h : ∀ i, i < N → f i = g i) : vp_cell cA (N, .inr (.inr (.inr (.inr f)))) = vp_cell cA (N, .inr (.inr (.inr (.inr g)))) := by
  rw [vp_cell_q, vp_cell_q]
  unfold arrV
  congr 2
  funext j
  show va_rf (f j.1) = va_rf (g j.1)
  rw [h j.1 j.2]
theorem x_rowq (q0 : Nat) {a N : Nat} {cA : ClassId} {f g : Nat → Option Nat} (he : ws[q0]? = some (a, .inl (cA, N, .inr (.inr (.inr (.inr f)))))) (hfg : ∀ i, i < N → f i = g i) (hws : ws.set q0 (a, .inl (cA, N, .inr (.inr (.inr (.inr g))))) = ws') (kk : X Γ nL k n pc lv st ws') : X Γ nL k n pc lv st ws := by
  obtain ⟨p, l, e, R, s, m, args, below, meth, c, Q, A, D, cs⟩ := Γ
  subst hws
  intro H locs ls hP hD hS hl
  refine kk H locs ls (hP.set hD he ?_ (fun _ _ => rfl)) (hD.set he) hS hl
  show H[a]? = some (vp_cell _ _)
  rw [← arrQ_congr hfg]
  exact hP q0 _ he
theorem x_objInit (B : CX Γ cc nL own R0) {idx a : Nat} (w1 : Cond.methodLink own idx objectInit ∈ GW) (w2 : Cond.instanceMethod objectInit ∈ GW) (w3 : Cond.code objectInit ⟨#[0xb1]⟩ 1 none ∈ GW) (hR : 1 ≤ R0.frames ∧ 20 ≤ R0.locals) (hsum : (st.map fun v => v.category).sum ≤ 8) (d : decode cc pc = .ok (.invokespecial idx, 3)) (hp : pc + 3 = pc') (kk : X Γ nL k n pc' lv st ws) : X Γ nL k n pc lv (.ref a :: st) ws := by
  obtain ⟨p, l, e, R, s, m, args, below, meth, c, Q, A, D, cs⟩ := Γ
  subst hp
  obtain ⟨hfix, hKN, hA, hlk, rfl⟩ := B
  intro H locs ls hP hD hS hl
  exact W.objInit hfix.1 hfix.2.1 hfix.2.2.2.1 (hfix.2.2.2.2 _ w1) (hfix.2.2.2.2 _ w2) (hfix.2.2.2.2 _ w3) rfl (hl.1.trans hfix.2.2.1.symm) rfl d hR.1 (Nat.le_trans (Nat.add_le_add_right (lv_room hsum) 12) hR.2) (kk H locs ls hP hD hS hl)
theorem ra_int {s : State} {c1 c2 : ClassId} (h1 : va_RA s c1 .int) (h2 : va_RA s c2 .int) : c1 = c2 := Option.some.inj (Eq.trans (Eq.symm h1) h2)
theorem ra_long {s : State} {c1 c2 : ClassId} (h1 : va_RA s c1 .long) (h2 : va_RA s c2 .long) : c1 = c2 := Option.some.inj (Eq.trans (Eq.symm h1) h2)
theorem ra_obj {s : State} {c1 c2 : ClassId} {C : String} (h1 : va_RA s c1 (.object C)) (h2 : va_RA s c2 (.object C)) : c1 = c2 := by
  obtain ⟨_, _, _, _, _, a⟩ := h1
  obtain ⟨_, _, _, _, _, b⟩ := h2
  exact Option.some.inj (a.symm.trans b)
theorem x_newa (B : CX Γ cc nL own R0) (N : Nat) {z : Int32} (hz : z.toNatClampNeg = N) (h0 : ¬ z < 0) (hb : N * 4 ≤ 536870912) (w : Cond.arrayClass .int ∈ GW) (hroom : k + 1 ≤ R0.cells ∧ n + N ≤ R0.slots) (d : decode cc pc = .ok (.newarray .int, 2)) (hp : pc + 2 = pc') (kk : ∀ q, X Γ nL (k + 1) (n + N) pc' lv (.ref q :: st) (ws ++ [(q, .inl (Γ.cs.1, N, .inl (fun _ => 0)))])) : X Γ nL k n pc lv (.int z :: st) ws := by
  obtain ⟨p, l, e, R, s, m, args, below, meth, c, Q, A, D, cs⟩ := Γ
  subst hp
  obtain ⟨hfix, hKN, hA, hlk, rfl⟩ := B
  intro H locs ls hP hD hS hl
  refine va_newa (atype := .int) (ty := .int) (a0 := (N, .inl (fun _ => 0))) hfix.1 hfix.2.1 (hfix.2.2.2.2 _ w) rfl hKN.1 hP hD hS hA (fun _ => rfl) h0 hz hb hroom.1 hroom.2 d (fun q cA H1 hK1 hP1 hD1 hS1 => ?_)
  have e1 : cA = cs.1 := ra_int (hK1.2 3 (cA, .int) rfl).2 (hKN.1.2 0 (cs.1, .int) rfl).2
  subst e1
  exact kk q H1 locs ls hP1 hD1 hS1 hl
theorem x_newal (B : CX Γ cc nL own R0) (N : Nat) {z : Int32} (hz : z.toNatClampNeg = N) (h0 : ¬ z < 0) (hb : N * 8 ≤ 536870912) (w : Cond.arrayClass .long ∈ GW) (hroom : k + 1 ≤ R0.cells ∧ n + N ≤ R0.slots) (d : decode cc pc = .ok (.newarray .long, 2)) (hp : pc + 2 = pc') (kk : ∀ q, X Γ nL (k + 1) (n + N) pc' lv (.ref q :: st) (ws ++ [(q, .inl (Γ.cs.2.1, N, .inr (.inl (fun _ => 0))))])) : X Γ nL k n pc lv (.int z :: st) ws := by
  obtain ⟨p, l, e, R, s, m, args, below, meth, c, Q, A, D, cs⟩ := Γ
  subst hp
  obtain ⟨hfix, hKN, hA, hlk, rfl⟩ := B
  intro H locs ls hP hD hS hl
  refine va_newa (atype := .long) (ty := .long) (a0 := (N, .inr (.inl (fun _ => 0)))) hfix.1 hfix.2.1 (hfix.2.2.2.2 _ w) rfl hKN.1 hP hD hS hA (fun _ => rfl) h0 hz hb hroom.1 hroom.2 d (fun q cA H1 hK1 hP1 hD1 hS1 => ?_)
  have e1 : cA = cs.2.1 := ra_long (hK1.2 3 (cA, .long) rfl).2 (hKN.1.2 1 (cs.2.1, .long) rfl).2
  subst e1
  exact kk q H1 locs ls hP1 hD1 hS1 hl
theorem x_newq (B : CX Γ cc nL own R0) (N : Nat) {index : Nat} {z : Int32} (hz : z.toNatClampNeg = N) (h0 : ¬ z < 0) (hb : N * 4 ≤ 536870912) (w : Cond.classLink own index RX1 ∈ GW) (hroom : k + 1 ≤ R0.cells ∧ n + N ≤ R0.slots) (d : decode cc pc = .ok (.anewarray index, 3)) (hp : pc + 3 = pc') (kk : ∀ q, X Γ nL (k + 1) (n + N) pc' lv (.ref q :: st) (ws ++ [(q, .inl (Γ.cs.2.2, N, .inr (.inr (.inr (.inr (fun _ => none))))))])) : X Γ nL k n pc lv (.int z :: st) ws := by
  obtain ⟨p, l, e, R, s, m, args, below, meth, c, Q, A, D, cs⟩ := Γ
  subst hp
  obtain ⟨hfix, hKN, hA, hlk, rfl⟩ := B
  intro H locs ls hP hD hS hl
  refine va_newq hfix.1 hfix.2.1 hfix.2.2.2.1 (hfix.2.2.2.2 _ w) (hKN.2.2.1 (.arrayOver (.object RX1)) (by simp [castW])) hKN.1 hP hD hS hA h0 hz hb hroom.1 hroom.2 d (fun q cA H1 hK1 hP1 hD1 hS1 => ?_)
  have e1 : cA = cs.2.2 := ra_obj (hK1.2 3 (cA, .object RX1) rfl).2 (hKN.1.2 2 (cs.2.2, .object RX1) rfl).2
  subst e1
  exact kk q H1 locs ls hP1 hD1 hS1 hl
theorem x_aast (B : CX Γ cc nL own R0) {a N v ci : Nat} {f : Nat → Option Nat} {i : Int32} {vs : List Value} (q0 qk : Nat) (he : ws[q0]? = some (a, .inl (Γ.cs.2.2, N, .inr (.inr (.inr (.inr f)))))) (hv : ws[qk]? = some (v, .inr (ci, vs))) (hc : vwCl[ci]? = some (RX1, TX1, 14)) (jj : Nat) (hjj : i.toNatClampNeg = jj) (hi : vp_in i N) (hws : ws.set q0 (a, .inl (Γ.cs.2.2, N, .inr (.inr (.inr (.inr (va_up f jj (some v))))))) = ws') (d : decode cc pc = .ok (.aastore, 1)) (hp : pc + 1 = pc') (kk : X Γ nL k n pc' lv st ws') : X Γ nL k n pc lv (.ref v :: .int i :: .ref a :: st) ws := by
  obtain ⟨p, l, e, R, s, m, args, below, meth, c, Q, A, D, cs⟩ := Γ
  subst hp
  subst hws
  subst hjj
  intro H locs ls hP hD hS hl
  exact va_astq B.1.1 B.1.2.1 B.2.1.1 hP hD hS q0 2 qk ci he rfl hv hc hi d (fun H1 locs1 hP1 hD1 hS1 => kk H1 locs1 ls hP1 hD1 hS1 hl)
theorem x_new (B : CX Γ cc nL own R0) {index ci N : Nat} {C : String} {T : u_T} {fs : List Value} (ty : Nat → FieldType) (hty : ∀ k, k < N → parseFieldDescriptor (T k).2.2.1 = some (ty k)) (hc : vwCl[ci]? = some (C, T, N)) (hin : ∀ w ∈ u_ws C T N, w ∈ GW) (w1 : Cond.classLink own index C ∈ GW) (w2 : Cond.instantiable C N ∈ GW) (w3 : Cond.initialized C ∈ GW) (hfs : ∀ j, j < N → defaultValue (ty j) = vp_V fs j) (hroom : k + 1 ≤ R0.cells ∧ n + N ≤ R0.slots) (d : decode cc pc = .ok (.new index, 3)) (hp : pc + 3 = pc') (kk : ∀ q, X Γ nL (k + 1) (n + N) pc' lv (.ref q :: st) (ws ++ [(q, .inr (ci, fs))])) : X Γ nL k n pc lv st ws := by
  obtain ⟨p, l, e, R, s, m, args, below, meth, c, Q, A, D, cs⟩ := Γ
  subst hp
  obtain ⟨hfix, hKN, hA, hlk, rfl⟩ := B
  intro H locs ls hP hD hS hl
  exact va_new hfix.1 hfix.2.1 hfix.2.2.2.2 hin ty hty hfix.2.2.2.1 (hfix.2.2.2.2 _ w1) (hfix.2.2.2.2 _ w2) (hfix.2.2.2.2 _ w3) hKN.1 hP hD hS hA hc hfs hroom.1 hroom.2 d (fun q H1 hP1 hD1 hS1 => kk q H1 locs ls hP1 hD1 hS1 hl)
end CTOR
/-- a constructor: the world behind it is one that 'post' tells of -/
def KI {σ : Type} (l : Launch) (D : va_G) (cs : CS) (y : MethodName) (bytes : ByteArray) (maxL : Nat) (rm : Room) (av : List Value) (w : va_W) (post : σ → Prop) (Bw : σ → va_W) : Prop := ∀ sz, Met l y (.code y bytes maxL none :: GW) rm (PR D cs av w sz) (va_Qv post (fun u t => va_P D vwCl (Bw u) t.heap ∧ va_D (va_A w sz) (Bw u)) (va_A w sz)) rm.cells rm.slots (va_A w sz)
theorem KI_of {σ : Type} {l : Launch} {D : va_G} {cs : CS} {y : MethodName} {bytes : ByteArray} {maxL : Nat} {rm : Room} {av : List Value} {w : va_W} {post : σ → Prop} {Bw : σ → va_W} (hy : plainName y.cls = true) (hnm : y.name = "<init>") (hlen : (lg_sl av).length ≤ maxL)
    (body : ∀ Γ : Ctx, Γ.l = l → Γ.D = D → Γ.cs = cs → CX Γ bytes maxL y.cls rm → Γ.2.2.2.2.2.2.2.2.1.name = "<init>" → (∀ {k n pc : Nat} {lv : List (Nat × Value)} (u : σ), post u → k ≤ rm.cells → n ≤ rm.slots → decode bytes pc = .ok (.return_, 1) → X Γ maxL k n pc lv [] (Bw u)) → X Γ maxL 0 0 0 (lv_args 0 av) [] w) : KI l D cs y bytes maxL rm av w post Bw := by
  intro sz
  refine Met.ofW (cc := bytes) (maxL := maxL) (ret := none) hy rfl ?_
  intro p e s m args below meth c s₁ B hml hv
  obtain ⟨rfl, hsz, hP, hK, hD0⟩ := hv
  subst hsz
  have hts := atoms_spec (ws := .code y bytes maxL none :: GW) B.pre
  have hown : s.vm.findClass y.cls = some m.cls := findClass_of_methodNamed B.named
  have hl := lv_entry av (n := maxL) hlen
  rw [lg_entry_eq]
  have hD := hD0.self (sz := s.heap.size)
  refine body (p, l, e, rm, s, m, av.toArray, below, meth, c, _, va_A w s.heap.size, D, cs) rfl rfl rfl ⟨⟨B.exec, B.bytes, hml, hown, fun w h => hts w (List.mem_cons_of_mem _ h)⟩, hK, fun q h => Or.inr h, B.notSynchronized, rfl⟩ ((name_of_methodNamed B.named B.method).1.trans hnm) ?_ s.heap [] _ hP hD va_S.rf hl
  intro k n pc lv u hu hk hn d H locs ls hP1 hD1 hS hl1
  have hlocks : meth.locks = false := B.notSynchronized
  exact W.widen hk hn (W.vret B.exec B.bytes B.returns (fun t ht hW => ⟨⟨u, rfl, hu, by rw [ht]; exact hP1, hD1⟩, hS.F ht⟩) hS.2.2 d)
theorem x_GI {Γ : Ctx} {cc : ByteArray} {nL k n pc pc' : Nat} {own : String} {R0 : Room} {lv : List (Nat × Value)} {st : List Value} {ws : va_W} (B : CX Γ cc nL own R0) {σ : Type} {y : MethodName} {index maxL : Nat} {bytes : ByteArray} {rm : Room} {b : Addr} {post : σ → Prop} {Bw : σ → va_W} {w wr : va_W} (hM : KI Γ.l Γ.D Γ.cs y bytes maxL rm [.ref b] w post Bw) (isC isR : List Nat) (hC : isC.map (fun i => ws[i]?) = w.map some) (hcn : va_nd isC = true) (hRr : isR.map (fun i => ws[i]?) = wr.map some) (hrn : va_nd isR = true) (hdis : ∀ i ∈ isR, i ∉ isC) (hnm : y.name = "<init>") (hg : GoodIn GW ([.methodLink own index y, .instanceMethod y, .initialized y.cls, .code y bytes maxL none] ++ GW)) (hd : y.cls ≠ "java/lang/invoke/MethodHandle" ∧ y.cls ≠ "java/lang/invoke/VarHandle" ∧ (parseMethodDescriptor y.desc).map (fun d => d.parameters.length) = some 0) (hR : rm.frames + 1 ≤ R0.frames ∧ 8 + (maxL + 11) + rm.locals ≤ R0.locals) (hroom : k + rm.cells ≤ R0.cells ∧ n + rm.slots ≤ R0.slots) (hsum : (st.map fun v => v.category).sum ≤ 8) (d : decode cc pc = .ok (.invokespecial index, 3)) (hp : pc + 3 = pc') (kk : ∀ u, post u → X Γ nL (k + rm.cells) (n + rm.slots) pc' lv st (wr ++ Bw u)) : X Γ nL k n pc lv (.ref b :: st) ws := by
  obtain ⟨p, l, e, R, s, m, args, below, meth, c, Q, A, D, cs⟩ := Γ
  subst hp
  obtain ⟨hfix, hKN, hA, hlk, rfl⟩ := B
  intro H locs ls hP hD hS hl
  have hPc : va_P D vwCl w H := hP.sub isC (fm_of hC)
  have hDc : va_D A w := hD.sub isC hcn hC
  have hFc := va_free hD hS hA isC hC
  have ok9 := fun (w : Cond) (h : w ∈ _) => hfix.2.2.2.2 w (hg w h).1
  refine va_callv (va_runI (As := []) (rest := st) hfix (hM H.size) (cwI 0 hfix.2.2.2.2 (fun w h => hg w (List.mem_append_right [_, _, _] h)) rfl rfl rfl (ok9 _ (by simp)) (ok9 _ (by simp)) (ok9 _ (by simp)) hnm hd hR) ⟨pr_blind _ _ _ _ _, fun U hU hW => ⟨rfl, by rw [hU], by rw [hU]; exact hPc, KN.warm hW hKN, hDc.weaken (fun _ _ _ _ => trivial)⟩⟩ rfl rfl hl.1 rfl (lv_room hsum) d hroom) hS (fun q _ h => hFc q h) hFc (fun u t H1 locs1 ht hvm hu hB hz1 hk1 hS1 => ?_)
  obtain ⟨hP1, hD1⟩ := hB
  rw [ht] at hP1
  obtain ⟨hP2, hD2⟩ := va_join hP hD isC isR hC hRr hrn hdis hk1 hFc hP1 hD1
  exact kk u hu H1 locs1 ls hP2 hD2 hS1 hl
theorem wo_RX0_3 : Cond.methodLink RX0 3 objectInit ∈ GW := List.mem_of_getElem? (i := 42) (by decide +kernel)
theorem wo_RX1_3 : Cond.methodLink RX1 3 objectInit ∈ GW := List.mem_of_getElem? (i := 23) (by decide +kernel)
theorem wo_RX2_1 : Cond.methodLink RX2 1 objectInit ∈ GW := List.mem_of_getElem? (i := 6) (by decide +kernel)
theorem wo1 : Cond.instanceMethod objectInit ∈ GW := List.mem_of_getElem? (i := 7) (by decide +kernel)
theorem wo2 : Cond.code objectInit ⟨#[0xb1]⟩ 1 none ∈ GW := List.mem_of_getElem? (i := 8) (by decide +kernel)
theorem wac : Cond.arrayClass .int ∈ GW := List.mem_of_getElem? (i := 24) (by decide +kernel)
theorem wal : Cond.arrayClass .long ∈ GW := List.mem_of_getElem? (i := 350) (by decide +kernel)
theorem wi_RX0 : Cond.instantiable RX0 2 ∈ GW := List.mem_of_getElem? (i := 17) (by decide +kernel)
theorem wn_RX0 : Cond.initialized RX0 ∈ GW := List.mem_of_getElem? (i := 18) (by decide +kernel)
theorem wi_RX1 : Cond.instantiable RX1 14 ∈ GW := List.mem_of_getElem? (i := 10) (by decide +kernel)
theorem wn_RX1 : Cond.initialized RX1 ∈ GW := List.mem_of_getElem? (i := 11) (by decide +kernel)
theorem wi_RX2 : Cond.instantiable RX2 5 ∈ GW := List.mem_of_getElem? (i := 1) (by decide +kernel)
theorem wn_RX2 : Cond.initialized RX2 ∈ GW := List.mem_of_getElem? (i := 2) (by decide +kernel)
theorem wc_RL_12 : Cond.classLink RL 12 RX2 ∈ GW := List.mem_of_getElem? (i := 0) (by decide +kernel)
theorem wc_RX2_7 : Cond.classLink RX2 7 RX1 ∈ GW := List.mem_of_getElem? (i := 9) (by decide +kernel)
theorem wc_RX2_27 : Cond.classLink RX2 27 RX0 ∈ GW := List.mem_of_getElem? (i := 16) (by decide +kernel)
theorem gi_RX2_9 : GoodIn GW ([.methodLink RX2 9 yX1_init, .instanceMethod yX1_init, .initialized yX1_init.cls, .code yX1_init cX1_init 2 none] ++ GW) := gw_app [Cond.methodLink RX2 9 yX1_init, Cond.instanceMethod yX1_init, Cond.initialized RX1, Cond.code yX1_init cX1_init 2 none] [20, 21, 11, 22] (by decide +kernel) (by decide +kernel)
theorem gi_RX2_29 : GoodIn GW ([.methodLink RX2 29 yX0_init, .instanceMethod yX0_init, .initialized yX0_init.cls, .code yX0_init cX0_init 1 none] ++ GW) := gw_app [Cond.methodLink RX2 29 yX0_init, Cond.instanceMethod yX0_init, Cond.initialized RX0, Cond.code yX0_init cX0_init 1 none] [39, 40, 18, 41] (by decide +kernel) (by decide +kernel)
theorem gi_RL_131 : GoodIn GW ([.methodLink RL 131 yX2_init, .instanceMethod yX2_init, .initialized yX2_init.cls, .code yX2_init cX2_init 2 none] ++ GW) := gw_app [Cond.methodLink RL 131 yX2_init, Cond.instanceMethod yX2_init, Cond.initialized RX2, Cond.code yX2_init cX2_init 2 none] [3, 4, 2, 5] (by decide +kernel) (by decide +kernel)
theorem np_X0_init : yX0_init.cls ≠ "java/lang/invoke/MethodHandle" ∧ yX0_init.cls ≠ "java/lang/invoke/VarHandle" ∧ (parseMethodDescriptor yX0_init.desc).map (fun d => d.parameters.length) = some 0 := by decide +kernel
theorem np_X1_init : yX1_init.cls ≠ "java/lang/invoke/MethodHandle" ∧ yX1_init.cls ≠ "java/lang/invoke/VarHandle" ∧ (parseMethodDescriptor yX1_init.desc).map (fun d => d.parameters.length) = some 0 := by decide +kernel
theorem np_X2_init : yX2_init.cls ≠ "java/lang/invoke/MethodHandle" ∧ yX2_init.cls ≠ "java/lang/invoke/VarHandle" ∧ (parseMethodDescriptor yX2_init.desc).map (fun d => d.parameters.length) = some 0 := by decide +kernel
abbrev zT (h : Nat) : va_W := [(h, .inr (0, [.null, .int 0]))]
abbrev rm_X0_init : Room := { frames := 1, cells := 1, slots := 60, locals := 20 }
set_option maxHeartbeats 4000000 in
set_option maxRecDepth 100000 in
theorem k_X0_init (l : Launch) (D : va_G) (cs : CS) (h : Nat) : KI l D cs yX0_init cX0_init 1 rm_X0_init [.ref h] (zT h) (fun (q : Nat) => True) (fun q => wT cs.1 (fun i => if i = 0 then h else q) (fun _ => 0, fun _ _ => 0)) := by
  refine KI_of (by decide) rfl (Nat.le_of_ble_eq_true rfl) ?_
  rintro Γ rfl rfl rfl B hin ret
  show X Γ 1 0 0 0 [(0, .ref h)] [] (zT h)
  refine x_aload_n B (pc' := 1) 0 dX0_init_0 rfl rfl rfl ?_
  refine x_objInit B (pc' := 4) wo_RX0_3 wo1 wo2 ⟨Nat.le_of_ble_eq_true rfl, Nat.le_of_ble_eq_true rfl⟩ (Nat.le_of_ble_eq_true rfl) dX0_init_1 rfl ?_
  refine x_aload_n B (pc' := 5) 0 dX0_init_4 rfl rfl rfl ?_
  refine x_bipush B (pc' := 7) 60 dX0_init_5 (by decide) rfl ?_
  refine x_newa B (pc' := 9) 60 (by decide) (by decide) (Nat.le_of_ble_eq_true rfl) wac ⟨Nat.le_of_ble_eq_true rfl, Nat.le_of_ble_eq_true rfl⟩ dX0_init_7 rfl (fun q => ?_)
  refine x_putF (ws' := [(h, .inr (0, [.ref q, .int 0])), (q, .inl (Γ.cs.1, 60, .inl (fun _ => 0)))]) B hin (pc' := 12) 0 0 tyX0 tyX0_ok nmX0 rfl rfl inlX0 (by decide) wf_RX0_9 rfl rfl rfl rfl (Nat.le_of_ble_eq_true rfl) rfl dX0_init_9 rfl ?_
  refine x_aload_n B (pc' := 13) 0 dX0_init_12 rfl rfl rfl ?_
  refine x_iconst B (pc' := 14) 0 dX0_init_13 (by decide) rfl ?_
  refine x_putf (ws' := [(h, .inr (0, [.ref q, .int 0])), (q, .inl (Γ.cs.1, 60, .inl (fun _ => 0)))]) B (pc' := 17) 0 1 tyX0 tyX0_ok nmX0 rfl rfl inlX0 (by decide) wf_RX0_15 rfl rfl rfl (Nat.le_of_ble_eq_true rfl) rfl dX0_init_14 rfl ?_
  exact ret q trivial (by exact Nat.le_of_ble_eq_true rfl) (by exact Nat.le_of_ble_eq_true rfl) dX0_init_17
abbrev zS (h : Nat) : va_W := [(h, .inr (1, [.null, .null, .null, .null, .int 0, .null, .null, .int 0, .int 0, .int 0, .int 0, .int 0, .int 0, .int 0]))]
def sc0 : Nat → Int32 := fun k => if k = 12 then -1 else if k = 13 then -1 else 0
def iS (f : Nat → Int32) : OB := (sc0, fun j => if j = 0 then f else fun _ => 0)
def adS (h q0 q1 q2 q3 q5 q6 : Nat) : Nat → Nat := fun i => if i = 0 then h else if i = 1 then q0 else if i = 2 then q1 else if i = 3 then q2 else if i = 4 then q3 else if i = 5 then q5 else q6
abbrev rm_X1_init : Room := { frames := 1, cells := 6, slots := 148, locals := 20 }
set_option maxHeartbeats 4000000 in
set_option maxRecDepth 100000 in
theorem k_X1_init (l : Launch) (D : va_G) (cs : CS) (h : Nat) : KI l D cs yX1_init cX1_init 2 rm_X1_init [.ref h] (zS h) (fun (u : (Nat → Int32) × Nat × Nat × Nat × Nat × Nat × Nat) => ∀ j, j < 32 → u.1 j = -1) (fun u => wS cs.1 (adS h u.2.1 u.2.2.1 u.2.2.2.1 u.2.2.2.2.1 u.2.2.2.2.2.1 u.2.2.2.2.2.2) (iS u.1)) := by
  refine KI_of (by decide) rfl (Nat.le_of_ble_eq_true rfl) ?_
  rintro Γ rfl rfl rfl B hin ret
  show X Γ 2 0 0 0 [(0, .ref h)] [] (zS h)
  refine x_aload_n B (pc' := 1) 0 dX1_init_0 rfl rfl rfl ?_
  refine x_objInit B (pc' := 4) wo_RX1_3 wo1 wo2 ⟨Nat.le_of_ble_eq_true rfl, Nat.le_of_ble_eq_true rfl⟩ (Nat.le_of_ble_eq_true rfl) dX1_init_1 rfl ?_
  refine x_aload_n B (pc' := 5) 0 dX1_init_4 rfl rfl rfl ?_
  refine x_bipush B (pc' := 7) 32 dX1_init_5 (by decide) rfl ?_
  refine x_newa B (pc' := 9) 32 (by decide) (by decide) (Nat.le_of_ble_eq_true rfl) wac ⟨Nat.le_of_ble_eq_true rfl, Nat.le_of_ble_eq_true rfl⟩ dX1_init_7 rfl (fun q0 => ?_)
  refine x_putF (ws' := [(h, .inr (1, [.ref q0, .null, .null, .null, .int 0, .null, .null, .int 0, .int 0, .int 0, .int 0, .int 0, .int 0, .int 0])), (q0, .inl (Γ.cs.1, 32, .inl (fun _ => 0)))]) B hin (pc' := 12) 0 0 tyX1 tyX1_ok nmX1 rfl rfl inlX1 (by decide) wf_RX1_9 rfl rfl rfl rfl (Nat.le_of_ble_eq_true rfl) rfl dX1_init_9 rfl ?_
  have rest : ∀ (f : Nat → Int32) (i : Int32), (∀ j, j < 32 → f j = -1) → X Γ 2 1 32 33 [(0, .ref h), (1, .int i)] [] [(h, .inr (1, [.ref q0, .null, .null, .null, .int 0, .null, .null, .int 0, .int 0, .int 0, .int 0, .int 0, .int 0, .int 0])), (q0, .inl (Γ.cs.1, 32, .inl f))] := by
    intro f i hf
    refine x_lv [0] (lv' := [(0, .ref h)]) rfl ?_
    refine x_aload_n B (pc' := 34) 0 dX1_init_33 rfl rfl rfl ?_
    refine x_bipush B (pc' := 36) 32 dX1_init_34 (by decide) rfl ?_
    refine x_newa B (pc' := 38) 32 (by decide) (by decide) (Nat.le_of_ble_eq_true rfl) wac ⟨by exact Nat.le_of_ble_eq_true rfl, by exact Nat.le_of_ble_eq_true rfl⟩ dX1_init_36 rfl (fun q1 => ?_)
    refine x_putF (ws' := [(h, .inr (1, [.ref q0, .ref q1, .null, .null, .int 0, .null, .null, .int 0, .int 0, .int 0, .int 0, .int 0, .int 0, .int 0])), (q0, .inl (Γ.cs.1, 32, .inl f)), (q1, .inl (Γ.cs.1, 32, .inl (fun _ => 0)))]) B hin (pc' := 41) 0 1 tyX1 tyX1_ok nmX1 rfl rfl inlX1 (by decide) wf_RX1_15 rfl rfl rfl rfl (Nat.le_of_ble_eq_true rfl) rfl dX1_init_38 rfl ?_
    refine x_aload_n B (pc' := 42) 0 dX1_init_41 rfl rfl rfl ?_
    refine x_bipush B (pc' := 44) 32 dX1_init_42 (by decide) rfl ?_
    refine x_newa B (pc' := 46) 32 (by decide) (by decide) (Nat.le_of_ble_eq_true rfl) wac ⟨by exact Nat.le_of_ble_eq_true rfl, by exact Nat.le_of_ble_eq_true rfl⟩ dX1_init_44 rfl (fun q2 => ?_)
    refine x_putF (ws' := [(h, .inr (1, [.ref q0, .ref q1, .ref q2, .null, .int 0, .null, .null, .int 0, .int 0, .int 0, .int 0, .int 0, .int 0, .int 0])), (q0, .inl (Γ.cs.1, 32, .inl f)), (q1, .inl (Γ.cs.1, 32, .inl (fun _ => 0))), (q2, .inl (Γ.cs.1, 32, .inl (fun _ => 0)))]) B hin (pc' := 49) 0 2 tyX1 tyX1_ok nmX1 rfl rfl inlX1 (by decide) wf_RX1_18 rfl rfl rfl rfl (Nat.le_of_ble_eq_true rfl) rfl dX1_init_46 rfl ?_
    refine x_aload_n B (pc' := 50) 0 dX1_init_49 rfl rfl rfl ?_
    refine x_bipush B (pc' := 52) 32 dX1_init_50 (by decide) rfl ?_
    refine x_newa B (pc' := 54) 32 (by decide) (by decide) (Nat.le_of_ble_eq_true rfl) wac ⟨by exact Nat.le_of_ble_eq_true rfl, by exact Nat.le_of_ble_eq_true rfl⟩ dX1_init_52 rfl (fun q3 => ?_)
    refine x_putF (ws' := [(h, .inr (1, [.ref q0, .ref q1, .ref q2, .ref q3, .int 0, .null, .null, .int 0, .int 0, .int 0, .int 0, .int 0, .int 0, .int 0])), (q0, .inl (Γ.cs.1, 32, .inl f)), (q1, .inl (Γ.cs.1, 32, .inl (fun _ => 0))), (q2, .inl (Γ.cs.1, 32, .inl (fun _ => 0))), (q3, .inl (Γ.cs.1, 32, .inl (fun _ => 0)))]) B hin (pc' := 57) 0 3 tyX1 tyX1_ok nmX1 rfl rfl inlX1 (by decide) wf_RX1_21 rfl rfl rfl rfl (Nat.le_of_ble_eq_true rfl) rfl dX1_init_54 rfl ?_
    refine x_aload_n B (pc' := 58) 0 dX1_init_57 rfl rfl rfl ?_
    refine x_iconst B (pc' := 59) 0 dX1_init_58 (by decide) rfl ?_
    refine x_putf (ws' := [(h, .inr (1, [.ref q0, .ref q1, .ref q2, .ref q3, .int 0, .null, .null, .int 0, .int 0, .int 0, .int 0, .int 0, .int 0, .int 0])), (q0, .inl (Γ.cs.1, 32, .inl f)), (q1, .inl (Γ.cs.1, 32, .inl (fun _ => 0))), (q2, .inl (Γ.cs.1, 32, .inl (fun _ => 0))), (q3, .inl (Γ.cs.1, 32, .inl (fun _ => 0)))]) B (pc' := 62) 0 4 tyX1 tyX1_ok nmX1 rfl rfl inlX1 (by decide) wf_RX1_24 rfl rfl rfl (Nat.le_of_ble_eq_true rfl) rfl dX1_init_59 rfl ?_
    refine x_aload_n B (pc' := 63) 0 dX1_init_62 rfl rfl rfl ?_
    refine x_bipush B (pc' := 65) 10 dX1_init_63 (by decide) rfl ?_
    refine x_newa B (pc' := 67) 10 (by decide) (by decide) (Nat.le_of_ble_eq_true rfl) wac ⟨by exact Nat.le_of_ble_eq_true rfl, by exact Nat.le_of_ble_eq_true rfl⟩ dX1_init_65 rfl (fun q5 => ?_)
    refine x_putF (ws' := [(h, .inr (1, [.ref q0, .ref q1, .ref q2, .ref q3, .int 0, .ref q5, .null, .int 0, .int 0, .int 0, .int 0, .int 0, .int 0, .int 0])), (q0, .inl (Γ.cs.1, 32, .inl f)), (q1, .inl (Γ.cs.1, 32, .inl (fun _ => 0))), (q2, .inl (Γ.cs.1, 32, .inl (fun _ => 0))), (q3, .inl (Γ.cs.1, 32, .inl (fun _ => 0))), (q5, .inl (Γ.cs.1, 10, .inl (fun _ => 0)))]) B hin (pc' := 70) 0 5 tyX1 tyX1_ok nmX1 rfl rfl inlX1 (by decide) wf_RX1_28 rfl rfl rfl rfl (Nat.le_of_ble_eq_true rfl) rfl dX1_init_67 rfl ?_
    refine x_aload_n B (pc' := 71) 0 dX1_init_70 rfl rfl rfl ?_
    refine x_bipush B (pc' := 73) 10 dX1_init_71 (by decide) rfl ?_
    refine x_newa B (pc' := 75) 10 (by decide) (by decide) (Nat.le_of_ble_eq_true rfl) wac ⟨by exact Nat.le_of_ble_eq_true rfl, by exact Nat.le_of_ble_eq_true rfl⟩ dX1_init_73 rfl (fun q6 => ?_)
    refine x_putF (ws' := [(h, .inr (1, [.ref q0, .ref q1, .ref q2, .ref q3, .int 0, .ref q5, .ref q6, .int 0, .int 0, .int 0, .int 0, .int 0, .int 0, .int 0])), (q0, .inl (Γ.cs.1, 32, .inl f)), (q1, .inl (Γ.cs.1, 32, .inl (fun _ => 0))), (q2, .inl (Γ.cs.1, 32, .inl (fun _ => 0))), (q3, .inl (Γ.cs.1, 32, .inl (fun _ => 0))), (q5, .inl (Γ.cs.1, 10, .inl (fun _ => 0))), (q6, .inl (Γ.cs.1, 10, .inl (fun _ => 0)))]) B hin (pc' := 78) 0 6 tyX1 tyX1_ok nmX1 rfl rfl inlX1 (by decide) wf_RX1_31 rfl rfl rfl rfl (Nat.le_of_ble_eq_true rfl) rfl dX1_init_75 rfl ?_
    refine x_aload_n B (pc' := 79) 0 dX1_init_78 rfl rfl rfl ?_
    refine x_iconst B (pc' := 80) 0 dX1_init_79 (by decide) rfl ?_
    refine x_putf (ws' := [(h, .inr (1, [.ref q0, .ref q1, .ref q2, .ref q3, .int 0, .ref q5, .ref q6, .int 0, .int 0, .int 0, .int 0, .int 0, .int 0, .int 0])), (q0, .inl (Γ.cs.1, 32, .inl f)), (q1, .inl (Γ.cs.1, 32, .inl (fun _ => 0))), (q2, .inl (Γ.cs.1, 32, .inl (fun _ => 0))), (q3, .inl (Γ.cs.1, 32, .inl (fun _ => 0))), (q5, .inl (Γ.cs.1, 10, .inl (fun _ => 0))), (q6, .inl (Γ.cs.1, 10, .inl (fun _ => 0)))]) B (pc' := 83) 0 7 tyX1 tyX1_ok nmX1 rfl rfl inlX1 (by decide) wf_RX1_34 rfl rfl rfl (Nat.le_of_ble_eq_true rfl) rfl dX1_init_80 rfl ?_
    refine x_aload_n B (pc' := 84) 0 dX1_init_83 rfl rfl rfl ?_
    refine x_iconst B (pc' := 85) 0 dX1_init_84 (by decide) rfl ?_
    refine x_putf (ws' := [(h, .inr (1, [.ref q0, .ref q1, .ref q2, .ref q3, .int 0, .ref q5, .ref q6, .int 0, .int 0, .int 0, .int 0, .int 0, .int 0, .int 0])), (q0, .inl (Γ.cs.1, 32, .inl f)), (q1, .inl (Γ.cs.1, 32, .inl (fun _ => 0))), (q2, .inl (Γ.cs.1, 32, .inl (fun _ => 0))), (q3, .inl (Γ.cs.1, 32, .inl (fun _ => 0))), (q5, .inl (Γ.cs.1, 10, .inl (fun _ => 0))), (q6, .inl (Γ.cs.1, 10, .inl (fun _ => 0)))]) B (pc' := 88) 0 8 tyX1 tyX1_ok nmX1 rfl rfl inlX1 (by decide) wf_RX1_37 rfl rfl rfl (Nat.le_of_ble_eq_true rfl) rfl dX1_init_85 rfl ?_
    refine x_aload_n B (pc' := 89) 0 dX1_init_88 rfl rfl rfl ?_
    refine x_iconst B (pc' := 90) 0 dX1_init_89 (by decide) rfl ?_
    refine x_putf (ws' := [(h, .inr (1, [.ref q0, .ref q1, .ref q2, .ref q3, .int 0, .ref q5, .ref q6, .int 0, .int 0, .int 0, .int 0, .int 0, .int 0, .int 0])), (q0, .inl (Γ.cs.1, 32, .inl f)), (q1, .inl (Γ.cs.1, 32, .inl (fun _ => 0))), (q2, .inl (Γ.cs.1, 32, .inl (fun _ => 0))), (q3, .inl (Γ.cs.1, 32, .inl (fun _ => 0))), (q5, .inl (Γ.cs.1, 10, .inl (fun _ => 0))), (q6, .inl (Γ.cs.1, 10, .inl (fun _ => 0)))]) B (pc' := 93) 0 9 tyX1 tyX1_ok nmX1 rfl rfl inlX1 (by decide) wf_RX1_41 rfl rfl rfl (Nat.le_of_ble_eq_true rfl) rfl dX1_init_90 rfl ?_
    refine x_aload_n B (pc' := 94) 0 dX1_init_93 rfl rfl rfl ?_
    refine x_iconst B (pc' := 95) 0 dX1_init_94 (by decide) rfl ?_
    refine x_putf (ws' := [(h, .inr (1, [.ref q0, .ref q1, .ref q2, .ref q3, .int 0, .ref q5, .ref q6, .int 0, .int 0, .int 0, .int 0, .int 0, .int 0, .int 0])), (q0, .inl (Γ.cs.1, 32, .inl f)), (q1, .inl (Γ.cs.1, 32, .inl (fun _ => 0))), (q2, .inl (Γ.cs.1, 32, .inl (fun _ => 0))), (q3, .inl (Γ.cs.1, 32, .inl (fun _ => 0))), (q5, .inl (Γ.cs.1, 10, .inl (fun _ => 0))), (q6, .inl (Γ.cs.1, 10, .inl (fun _ => 0)))]) B (pc' := 98) 0 10 tyX1 tyX1_ok nmX1 rfl rfl inlX1 (by decide) wf_RX1_44 rfl rfl rfl (Nat.le_of_ble_eq_true rfl) rfl dX1_init_95 rfl ?_
    refine x_aload_n B (pc' := 99) 0 dX1_init_98 rfl rfl rfl ?_
    refine x_iconst B (pc' := 100) 0 dX1_init_99 (by decide) rfl ?_
    refine x_putf (ws' := [(h, .inr (1, [.ref q0, .ref q1, .ref q2, .ref q3, .int 0, .ref q5, .ref q6, .int 0, .int 0, .int 0, .int 0, .int 0, .int 0, .int 0])), (q0, .inl (Γ.cs.1, 32, .inl f)), (q1, .inl (Γ.cs.1, 32, .inl (fun _ => 0))), (q2, .inl (Γ.cs.1, 32, .inl (fun _ => 0))), (q3, .inl (Γ.cs.1, 32, .inl (fun _ => 0))), (q5, .inl (Γ.cs.1, 10, .inl (fun _ => 0))), (q6, .inl (Γ.cs.1, 10, .inl (fun _ => 0)))]) B (pc' := 103) 0 11 tyX1 tyX1_ok nmX1 rfl rfl inlX1 (by decide) wf_RX1_47 rfl rfl rfl (Nat.le_of_ble_eq_true rfl) rfl dX1_init_100 rfl ?_
    refine x_aload_n B (pc' := 104) 0 dX1_init_103 rfl rfl rfl ?_
    refine x_iconst B (pc' := 105) (-1) dX1_init_104 (by decide) rfl ?_
    refine x_putf (ws' := [(h, .inr (1, [.ref q0, .ref q1, .ref q2, .ref q3, .int 0, .ref q5, .ref q6, .int 0, .int 0, .int 0, .int 0, .int 0, .int (-1), .int 0])), (q0, .inl (Γ.cs.1, 32, .inl f)), (q1, .inl (Γ.cs.1, 32, .inl (fun _ => 0))), (q2, .inl (Γ.cs.1, 32, .inl (fun _ => 0))), (q3, .inl (Γ.cs.1, 32, .inl (fun _ => 0))), (q5, .inl (Γ.cs.1, 10, .inl (fun _ => 0))), (q6, .inl (Γ.cs.1, 10, .inl (fun _ => 0)))]) B (pc' := 108) 0 12 tyX1 tyX1_ok nmX1 rfl rfl inlX1 (by decide) wf_RX1_50 rfl rfl rfl (Nat.le_of_ble_eq_true rfl) rfl dX1_init_105 rfl ?_
    refine x_aload_n B (pc' := 109) 0 dX1_init_108 rfl rfl rfl ?_
    refine x_iconst B (pc' := 110) (-1) dX1_init_109 (by decide) rfl ?_
    refine x_putf (ws' := [(h, .inr (1, [.ref q0, .ref q1, .ref q2, .ref q3, .int 0, .ref q5, .ref q6, .int 0, .int 0, .int 0, .int 0, .int 0, .int (-1), .int (-1)])), (q0, .inl (Γ.cs.1, 32, .inl f)), (q1, .inl (Γ.cs.1, 32, .inl (fun _ => 0))), (q2, .inl (Γ.cs.1, 32, .inl (fun _ => 0))), (q3, .inl (Γ.cs.1, 32, .inl (fun _ => 0))), (q5, .inl (Γ.cs.1, 10, .inl (fun _ => 0))), (q6, .inl (Γ.cs.1, 10, .inl (fun _ => 0)))]) B (pc' := 113) 0 13 tyX1 tyX1_ok nmX1 rfl rfl inlX1 (by decide) wf_RX1_53 rfl rfl rfl (Nat.le_of_ble_eq_true rfl) rfl dX1_init_110 rfl ?_
    exact ret (f, q0, q1, q2, q3, q5, q6) hf (by exact Nat.le_of_ble_eq_true rfl) (by exact Nat.le_of_ble_eq_true rfl) dX1_init_113
  have loop : ∀ (n9 j : Nat) (f : Nat → Int32), j ≤ 32 → 32 < n9 + j → (∀ i, i < j → f i = -1) → X Γ 2 1 32 14 [(0, .ref h), (1, .int (nI j))] [] [(h, .inr (1, [.ref q0, .null, .null, .null, .int 0, .null, .null, .int 0, .int 0, .int 0, .int 0, .int 0, .int 0, .int 0])), (q0, .inl (Γ.cs.1, 32, .inl f))] := by
    intro n9
    induction n9 with
    | zero => intro j f h1 h2; omega
    | succ n9 ih =>
      intro j f h1 h2 h3
      refine x_iload_n B (pc' := 15) 1 dX1_init_14 rfl rfl rfl ?_
      refine x_bipush B (pc' := 17) 32 dX1_init_15 (by decide) rfl ?_
      refine x_icmp_ge B 33 20 dX1_init_17 (by decide) rfl (fun hc => ?_) (fun hc => ?_)
      · have hj : j = 32 := by
          rcases Nat.lt_or_ge j 32 with q | q
          · exact absurd hc (nI_ge (b := 32) q (by decide))
          · omega
        exact rest f _ (fun i hi => h3 i (by omega))
      · have hj : j < 32 := by
          rcases Nat.lt_or_ge j 32 with q | q
          · exact q
          · exact absurd (nI_le (a := 32) q (by omega)) hc
        refine x_aload_n B (pc' := 21) 0 dX1_init_20 rfl rfl rfl ?_
        refine x_getf B (pc' := 24) 0 0 rfl rfl inlX1 (by decide) wf_RX1_9 rfl dX1_init_21 rfl ?_
        refine x_iload_n B (pc' := 25) 1 dX1_init_24 rfl rfl rfl ?_
        refine x_iconst B (pc' := 26) (-1) dX1_init_25 (by decide) rfl ?_
        refine x_iast (ws' := [(h, .inr (1, [.ref q0, .null, .null, .null, .int 0, .null, .null, .int 0, .int 0, .int 0, .int 0, .int 0, .int 0, .int 0])), (q0, .inl (Γ.cs.1, 32, .inl (upd f (nI j).toNatClampNeg (-1))))]) B (pc' := 27) 1 rfl (vp_in_nI hj (by decide)) rfl dX1_init_26 rfl ?_
        refine x_iinc B (pc' := 30) (nI (j + 1)) 1 [1, 0] [(0, .ref h), (1, .int (nI (j + 1)))] dX1_init_27 rfl (by rw [nI_succ]; rfl) (by decide) rfl rfl ?_
        refine x_goto B (pc' := 14) dX1_init_30 (by decide) ?_
        refine ih (j + 1) _ (by omega) (by omega) (fun i hi => ?_)
        rw [nI_clamp (by omega)]
        by_cases q : i = j
        · subst q; exact pk_us
        · rw [pk_un q]; exact h3 i (by omega)
  refine x_iconst B (pc' := 13) 0 dX1_init_12 (by decide) rfl ?_
  refine x_istore_n B (pc' := 14) [1, 0] [(0, .ref h), (1, .int 0)] dX1_init_13 rfl (by decide) rfl rfl ?_
  exact loop 33 0 (fun _ => 0) (by omega) (by omega) (fun i hi => absurd hi (by omega))
abbrev wI (cA : ClassId) (q : Nat) (u : (Nat → Int32) × Nat × Nat × Nat × Nat × Nat × Nat) : va_W := wS cA (adS q u.2.1 u.2.2.1 u.2.2.2.1 u.2.2.2.2.1 u.2.2.2.2.2.1 u.2.2.2.2.2.2) (iS u.1)
abbrev zB (h : Nat) : va_W := [(h, .inr (2, [.null, .null, .int 0, .int 0, .null]))]
/-- a new belt -/
def IB (S : BO) : Prop := S.1 2 = 0 ∧ S.1 3 = 0 ∧ (∃ f : Nat → Int32, S.2.1 = iS f ∧ ∀ j, j < 32 → f j = -1) ∧ S.2.2.2 = ((fun _ => 0), fun _ _ => 0)
abbrev rm_X2_init : Room := { frames := 2, cells := 52, slots := 1202, locals := 41 }
theorem hfs1 : ∀ j, j < 14 → defaultValue (tyX1 j) = vp_V [.null, .null, .null, .null, .int 0, .null, .null, .int 0, .int 0, .int 0, .int 0, .int 0, .int 0, .int 0] j := by decide +kernel
theorem hfs0 : ∀ j, j < 2 → defaultValue (tyX0 j) = vp_V [.null, .int 0] j := by decide +kernel
theorem hfs2 : ∀ j, j < 5 → defaultValue (tyX2 j) = vp_V [.null, .null, .int 0, .int 0, .null] j := by decide +kernel
set_option maxHeartbeats 4000000 in
set_option maxRecDepth 100000 in
theorem k_X2_init (l : Launch) (D : va_G) (cs : CS) (h : Nat) : KI l D cs yX2_init cX2_init 2 rm_X2_init [.ref h] (zB h) (fun (u : (Nat → Nat → Nat) × BO) => u.1 0 0 = h ∧ IB u.2) (fun u => wB cs u.1 u.2) := by
  refine KI_of (by decide) rfl (Nat.le_of_ble_eq_true rfl) ?_
  rintro Γ rfl rfl rfl B hin ret
  show X Γ 2 0 0 0 [(0, .ref h)] [] (zB h)
  refine x_aload_n B (pc' := 1) 0 dX2_init_0 rfl rfl rfl ?_
  refine x_objInit B (pc' := 4) wo_RX2_1 wo1 wo2 ⟨Nat.le_of_ble_eq_true rfl, Nat.le_of_ble_eq_true rfl⟩ (Nat.le_of_ble_eq_true rfl) dX2_init_1 rfl ?_
  refine x_aload_n B (pc' := 5) 0 dX2_init_4 rfl rfl rfl ?_
  refine x_new B (ci := 1) tyX1 tyX1_ok rfl inlX1 wc_RX2_7 wi_RX1 wn_RX1 hfs1 ⟨by exact Nat.le_of_ble_eq_true rfl, by exact Nat.le_of_ble_eq_true rfl⟩ dX2_init_5 (pc' := 8) rfl (fun u0q => ?_)
  refine x_dup B (pc' := 9) dX2_init_8 rfl rfl ?_
  refine x_GI B (wr := [(h, .inr (2, [.null, .null, .int 0, .int 0, .null]))]) (k_X1_init _ _ _ u0q) [1] [0] rfl (by decide) rfl (by decide) (by decide) rfl gi_RX2_9 np_X1_init ⟨Nat.le_of_ble_eq_true rfl, Nat.le_of_ble_eq_true rfl⟩ ⟨by exact Nat.le_of_ble_eq_true rfl, by exact Nat.le_of_ble_eq_true rfl⟩ (Nat.le_of_ble_eq_true rfl) dX2_init_9 (pc' := 12) rfl (fun u0 hu0 => ?_)
  refine x_putF (ws' := ([(h, .inr (2, [.ref u0q, .null, .int 0, .int 0, .null]))] ++ wI Γ.cs.1 u0q u0)) B hin (pc' := 15) 0 0 tyX2 tyX2_ok nmX2 rfl rfl inlX2 (by decide) wf_RX2_10 rfl rfl rfl rfl (Nat.le_of_ble_eq_true rfl) rfl dX2_init_12 rfl ?_
  refine x_aload_n B (pc' := 16) 0 dX2_init_15 rfl rfl rfl ?_
  refine x_bipush B (pc' := 18) 6 dX2_init_16 (by decide) rfl ?_
  refine x_newq B (pc' := 21) 6 (by decide) (by decide) (Nat.le_of_ble_eq_true rfl) wc_RX2_7 ⟨by exact Nat.le_of_ble_eq_true rfl, by exact Nat.le_of_ble_eq_true rfl⟩ dX2_init_18 rfl (fun qs => ?_)
  refine x_putF (ws' := (([(h, .inr (2, [.ref u0q, .ref qs, .int 0, .int 0, .null]))] ++ wI Γ.cs.1 u0q u0) ++ [(qs, .inl (Γ.cs.2.2, 6, .inr (.inr (.inr (.inr (fun _ => none))))))])) B hin (pc' := 24) 0 1 tyX2 tyX2_ok nmX2 rfl rfl inlX2 (by decide) wf_RX2_16 rfl rfl rfl rfl (Nat.le_of_ble_eq_true rfl) rfl dX2_init_21 rfl ?_
  refine x_iconst B (pc' := 25) 0 dX2_init_24 (by decide) rfl ?_
  refine x_istore_n B (pc' := 26) [1, 0] [(0, .ref h), (1, .int 0)] dX2_init_25 rfl (by decide) rfl rfl ?_
  refine x_iload_n B (pc' := 27) 1 dX2_init_26 rfl rfl rfl ?_
  refine x_bipush B (pc' := 29) 6 dX2_init_27 (by decide) rfl ?_
  refine x_icmp_ge B 51 32 dX2_init_29 (by decide) rfl (fun hc => absurd hc (by decide)) (fun _ => ?_)
  refine x_aload_n B (pc' := 33) 0 dX2_init_32 rfl rfl rfl ?_
  refine x_getf B (pc' := 36) 0 1 rfl rfl inlX2 (by decide) wf_RX2_16 rfl dX2_init_33 rfl ?_
  refine x_iload_n B (pc' := 37) 1 dX2_init_36 rfl rfl rfl ?_
  refine x_new B (ci := 1) tyX1 tyX1_ok rfl inlX1 wc_RX2_7 wi_RX1 wn_RX1 hfs1 ⟨by exact Nat.le_of_ble_eq_true rfl, by exact Nat.le_of_ble_eq_true rfl⟩ dX2_init_37 (pc' := 40) rfl (fun u1q => ?_)
  refine x_dup B (pc' := 41) dX2_init_40 rfl rfl ?_
  refine x_GI B (wr := (([(h, .inr (2, [.ref u0q, .ref qs, .int 0, .int 0, .null]))] ++ wI Γ.cs.1 u0q u0) ++ [(qs, .inl (Γ.cs.2.2, 6, .inr (.inr (.inr (.inr (fun _ => none))))))])) (k_X1_init _ _ _ u1q) [9] [0, 1, 2, 3, 4, 5, 6, 7, 8] rfl (by decide) rfl (by decide) (by decide) rfl gi_RX2_9 np_X1_init ⟨Nat.le_of_ble_eq_true rfl, Nat.le_of_ble_eq_true rfl⟩ ⟨by exact Nat.le_of_ble_eq_true rfl, by exact Nat.le_of_ble_eq_true rfl⟩ (Nat.le_of_ble_eq_true rfl) dX2_init_41 (pc' := 44) rfl (fun u1 hu1 => ?_)
  refine x_aast (ws' := ((([(h, .inr (2, [.ref u0q, .ref qs, .int 0, .int 0, .null]))] ++ wI Γ.cs.1 u0q u0) ++ [(qs, .inl (Γ.cs.2.2, 6, .inr (.inr (.inr (.inr (va_up (fun _ => none) 0 (some u1q)))))))]) ++ wI Γ.cs.1 u1q u1)) B (pc' := 45) 8 9 rfl rfl rfl 0 (by decide) (vp_in_nI (n := 0) (by decide) (by decide)) rfl dX2_init_44 rfl ?_
  refine x_iinc B (pc' := 48) 1 1 [1, 0] [(0, .ref h), (1, .int 1)] dX2_init_45 rfl (by decide) (by decide) rfl rfl ?_
  refine x_goto B (pc' := 26) dX2_init_48 (by decide) ?_
  refine x_iload_n B (pc' := 27) 1 dX2_init_26 rfl rfl rfl ?_
  refine x_bipush B (pc' := 29) 6 dX2_init_27 (by decide) rfl ?_
  refine x_icmp_ge B 51 32 dX2_init_29 (by decide) rfl (fun hc => absurd hc (by decide)) (fun _ => ?_)
  refine x_aload_n B (pc' := 33) 0 dX2_init_32 rfl rfl rfl ?_
  refine x_getf B (pc' := 36) 0 1 rfl rfl inlX2 (by decide) wf_RX2_16 rfl dX2_init_33 rfl ?_
  refine x_iload_n B (pc' := 37) 1 dX2_init_36 rfl rfl rfl ?_
  refine x_new B (ci := 1) tyX1 tyX1_ok rfl inlX1 wc_RX2_7 wi_RX1 wn_RX1 hfs1 ⟨by exact Nat.le_of_ble_eq_true rfl, by exact Nat.le_of_ble_eq_true rfl⟩ dX2_init_37 (pc' := 40) rfl (fun u2q => ?_)
  refine x_dup B (pc' := 41) dX2_init_40 rfl rfl ?_
  refine x_GI B (wr := ((([(h, .inr (2, [.ref u0q, .ref qs, .int 0, .int 0, .null]))] ++ wI Γ.cs.1 u0q u0) ++ [(qs, .inl (Γ.cs.2.2, 6, .inr (.inr (.inr (.inr (va_up (fun _ => none) 0 (some u1q)))))))]) ++ wI Γ.cs.1 u1q u1)) (k_X1_init _ _ _ u2q) [16] [0, 1, 2, 3, 4, 5, 6, 7, 8, 9, 10, 11, 12, 13, 14, 15] rfl (by decide) rfl (by decide) (by decide) rfl gi_RX2_9 np_X1_init ⟨Nat.le_of_ble_eq_true rfl, Nat.le_of_ble_eq_true rfl⟩ ⟨by exact Nat.le_of_ble_eq_true rfl, by exact Nat.le_of_ble_eq_true rfl⟩ (Nat.le_of_ble_eq_true rfl) dX2_init_41 (pc' := 44) rfl (fun u2 hu2 => ?_)
  refine x_aast (ws' := (((([(h, .inr (2, [.ref u0q, .ref qs, .int 0, .int 0, .null]))] ++ wI Γ.cs.1 u0q u0) ++ [(qs, .inl (Γ.cs.2.2, 6, .inr (.inr (.inr (.inr (va_up (va_up (fun _ => none) 0 (some u1q)) 1 (some u2q)))))))]) ++ wI Γ.cs.1 u1q u1) ++ wI Γ.cs.1 u2q u2)) B (pc' := 45) 8 16 rfl rfl rfl 1 (by decide) (vp_in_nI (n := 1) (by decide) (by decide)) rfl dX2_init_44 rfl ?_
  refine x_iinc B (pc' := 48) 2 1 [1, 0] [(0, .ref h), (1, .int 2)] dX2_init_45 rfl (by decide) (by decide) rfl rfl ?_
  refine x_goto B (pc' := 26) dX2_init_48 (by decide) ?_
  refine x_iload_n B (pc' := 27) 1 dX2_init_26 rfl rfl rfl ?_
  refine x_bipush B (pc' := 29) 6 dX2_init_27 (by decide) rfl ?_
  refine x_icmp_ge B 51 32 dX2_init_29 (by decide) rfl (fun hc => absurd hc (by decide)) (fun _ => ?_)
  refine x_aload_n B (pc' := 33) 0 dX2_init_32 rfl rfl rfl ?_
  refine x_getf B (pc' := 36) 0 1 rfl rfl inlX2 (by decide) wf_RX2_16 rfl dX2_init_33 rfl ?_
  refine x_iload_n B (pc' := 37) 1 dX2_init_36 rfl rfl rfl ?_
  refine x_new B (ci := 1) tyX1 tyX1_ok rfl inlX1 wc_RX2_7 wi_RX1 wn_RX1 hfs1 ⟨by exact Nat.le_of_ble_eq_true rfl, by exact Nat.le_of_ble_eq_true rfl⟩ dX2_init_37 (pc' := 40) rfl (fun u3q => ?_)
  refine x_dup B (pc' := 41) dX2_init_40 rfl rfl ?_
  refine x_GI B (wr := (((([(h, .inr (2, [.ref u0q, .ref qs, .int 0, .int 0, .null]))] ++ wI Γ.cs.1 u0q u0) ++ [(qs, .inl (Γ.cs.2.2, 6, .inr (.inr (.inr (.inr (va_up (va_up (fun _ => none) 0 (some u1q)) 1 (some u2q)))))))]) ++ wI Γ.cs.1 u1q u1) ++ wI Γ.cs.1 u2q u2)) (k_X1_init _ _ _ u3q) [23] [0, 1, 2, 3, 4, 5, 6, 7, 8, 9, 10, 11, 12, 13, 14, 15, 16, 17, 18, 19, 20, 21, 22] rfl (by decide) rfl (by decide) (by decide) rfl gi_RX2_9 np_X1_init ⟨Nat.le_of_ble_eq_true rfl, Nat.le_of_ble_eq_true rfl⟩ ⟨by exact Nat.le_of_ble_eq_true rfl, by exact Nat.le_of_ble_eq_true rfl⟩ (Nat.le_of_ble_eq_true rfl) dX2_init_41 (pc' := 44) rfl (fun u3 hu3 => ?_)
  refine x_aast (ws' := ((((([(h, .inr (2, [.ref u0q, .ref qs, .int 0, .int 0, .null]))] ++ wI Γ.cs.1 u0q u0) ++ [(qs, .inl (Γ.cs.2.2, 6, .inr (.inr (.inr (.inr (va_up (va_up (va_up (fun _ => none) 0 (some u1q)) 1 (some u2q)) 2 (some u3q)))))))]) ++ wI Γ.cs.1 u1q u1) ++ wI Γ.cs.1 u2q u2) ++ wI Γ.cs.1 u3q u3)) B (pc' := 45) 8 23 rfl rfl rfl 2 (by decide) (vp_in_nI (n := 2) (by decide) (by decide)) rfl dX2_init_44 rfl ?_
  refine x_iinc B (pc' := 48) 3 1 [1, 0] [(0, .ref h), (1, .int 3)] dX2_init_45 rfl (by decide) (by decide) rfl rfl ?_
  refine x_goto B (pc' := 26) dX2_init_48 (by decide) ?_
  refine x_iload_n B (pc' := 27) 1 dX2_init_26 rfl rfl rfl ?_
  refine x_bipush B (pc' := 29) 6 dX2_init_27 (by decide) rfl ?_
  refine x_icmp_ge B 51 32 dX2_init_29 (by decide) rfl (fun hc => absurd hc (by decide)) (fun _ => ?_)
  refine x_aload_n B (pc' := 33) 0 dX2_init_32 rfl rfl rfl ?_
  refine x_getf B (pc' := 36) 0 1 rfl rfl inlX2 (by decide) wf_RX2_16 rfl dX2_init_33 rfl ?_
  refine x_iload_n B (pc' := 37) 1 dX2_init_36 rfl rfl rfl ?_
  refine x_new B (ci := 1) tyX1 tyX1_ok rfl inlX1 wc_RX2_7 wi_RX1 wn_RX1 hfs1 ⟨by exact Nat.le_of_ble_eq_true rfl, by exact Nat.le_of_ble_eq_true rfl⟩ dX2_init_37 (pc' := 40) rfl (fun u4q => ?_)
  refine x_dup B (pc' := 41) dX2_init_40 rfl rfl ?_
  refine x_GI B (wr := ((((([(h, .inr (2, [.ref u0q, .ref qs, .int 0, .int 0, .null]))] ++ wI Γ.cs.1 u0q u0) ++ [(qs, .inl (Γ.cs.2.2, 6, .inr (.inr (.inr (.inr (va_up (va_up (va_up (fun _ => none) 0 (some u1q)) 1 (some u2q)) 2 (some u3q)))))))]) ++ wI Γ.cs.1 u1q u1) ++ wI Γ.cs.1 u2q u2) ++ wI Γ.cs.1 u3q u3)) (k_X1_init _ _ _ u4q) [30] [0, 1, 2, 3, 4, 5, 6, 7, 8, 9, 10, 11, 12, 13, 14, 15, 16, 17, 18, 19, 20, 21, 22, 23, 24, 25, 26, 27, 28, 29] rfl (by decide) rfl (by decide) (by decide) rfl gi_RX2_9 np_X1_init ⟨Nat.le_of_ble_eq_true rfl, Nat.le_of_ble_eq_true rfl⟩ ⟨by exact Nat.le_of_ble_eq_true rfl, by exact Nat.le_of_ble_eq_true rfl⟩ (Nat.le_of_ble_eq_true rfl) dX2_init_41 (pc' := 44) rfl (fun u4 hu4 => ?_)
  refine x_aast (ws' := (((((([(h, .inr (2, [.ref u0q, .ref qs, .int 0, .int 0, .null]))] ++ wI Γ.cs.1 u0q u0) ++ [(qs, .inl (Γ.cs.2.2, 6, .inr (.inr (.inr (.inr (va_up (va_up (va_up (va_up (fun _ => none) 0 (some u1q)) 1 (some u2q)) 2 (some u3q)) 3 (some u4q)))))))]) ++ wI Γ.cs.1 u1q u1) ++ wI Γ.cs.1 u2q u2) ++ wI Γ.cs.1 u3q u3) ++ wI Γ.cs.1 u4q u4)) B (pc' := 45) 8 30 rfl rfl rfl 3 (by decide) (vp_in_nI (n := 3) (by decide) (by decide)) rfl dX2_init_44 rfl ?_
  refine x_iinc B (pc' := 48) 4 1 [1, 0] [(0, .ref h), (1, .int 4)] dX2_init_45 rfl (by decide) (by decide) rfl rfl ?_
  refine x_goto B (pc' := 26) dX2_init_48 (by decide) ?_
  refine x_iload_n B (pc' := 27) 1 dX2_init_26 rfl rfl rfl ?_
  refine x_bipush B (pc' := 29) 6 dX2_init_27 (by decide) rfl ?_
  refine x_icmp_ge B 51 32 dX2_init_29 (by decide) rfl (fun hc => absurd hc (by decide)) (fun _ => ?_)
  refine x_aload_n B (pc' := 33) 0 dX2_init_32 rfl rfl rfl ?_
  refine x_getf B (pc' := 36) 0 1 rfl rfl inlX2 (by decide) wf_RX2_16 rfl dX2_init_33 rfl ?_
  refine x_iload_n B (pc' := 37) 1 dX2_init_36 rfl rfl rfl ?_
  refine x_new B (ci := 1) tyX1 tyX1_ok rfl inlX1 wc_RX2_7 wi_RX1 wn_RX1 hfs1 ⟨by exact Nat.le_of_ble_eq_true rfl, by exact Nat.le_of_ble_eq_true rfl⟩ dX2_init_37 (pc' := 40) rfl (fun u5q => ?_)
  refine x_dup B (pc' := 41) dX2_init_40 rfl rfl ?_
  refine x_GI B (wr := (((((([(h, .inr (2, [.ref u0q, .ref qs, .int 0, .int 0, .null]))] ++ wI Γ.cs.1 u0q u0) ++ [(qs, .inl (Γ.cs.2.2, 6, .inr (.inr (.inr (.inr (va_up (va_up (va_up (va_up (fun _ => none) 0 (some u1q)) 1 (some u2q)) 2 (some u3q)) 3 (some u4q)))))))]) ++ wI Γ.cs.1 u1q u1) ++ wI Γ.cs.1 u2q u2) ++ wI Γ.cs.1 u3q u3) ++ wI Γ.cs.1 u4q u4)) (k_X1_init _ _ _ u5q) [37] [0, 1, 2, 3, 4, 5, 6, 7, 8, 9, 10, 11, 12, 13, 14, 15, 16, 17, 18, 19, 20, 21, 22, 23, 24, 25, 26, 27, 28, 29, 30, 31, 32, 33, 34, 35, 36] rfl (by decide) rfl (by decide) (by decide) rfl gi_RX2_9 np_X1_init ⟨Nat.le_of_ble_eq_true rfl, Nat.le_of_ble_eq_true rfl⟩ ⟨by exact Nat.le_of_ble_eq_true rfl, by exact Nat.le_of_ble_eq_true rfl⟩ (Nat.le_of_ble_eq_true rfl) dX2_init_41 (pc' := 44) rfl (fun u5 hu5 => ?_)
  refine x_aast (ws' := ((((((([(h, .inr (2, [.ref u0q, .ref qs, .int 0, .int 0, .null]))] ++ wI Γ.cs.1 u0q u0) ++ [(qs, .inl (Γ.cs.2.2, 6, .inr (.inr (.inr (.inr (va_up (va_up (va_up (va_up (va_up (fun _ => none) 0 (some u1q)) 1 (some u2q)) 2 (some u3q)) 3 (some u4q)) 4 (some u5q)))))))]) ++ wI Γ.cs.1 u1q u1) ++ wI Γ.cs.1 u2q u2) ++ wI Γ.cs.1 u3q u3) ++ wI Γ.cs.1 u4q u4) ++ wI Γ.cs.1 u5q u5)) B (pc' := 45) 8 37 rfl rfl rfl 4 (by decide) (vp_in_nI (n := 4) (by decide) (by decide)) rfl dX2_init_44 rfl ?_
  refine x_iinc B (pc' := 48) 5 1 [1, 0] [(0, .ref h), (1, .int 5)] dX2_init_45 rfl (by decide) (by decide) rfl rfl ?_
  refine x_goto B (pc' := 26) dX2_init_48 (by decide) ?_
  refine x_iload_n B (pc' := 27) 1 dX2_init_26 rfl rfl rfl ?_
  refine x_bipush B (pc' := 29) 6 dX2_init_27 (by decide) rfl ?_
  refine x_icmp_ge B 51 32 dX2_init_29 (by decide) rfl (fun hc => absurd hc (by decide)) (fun _ => ?_)
  refine x_aload_n B (pc' := 33) 0 dX2_init_32 rfl rfl rfl ?_
  refine x_getf B (pc' := 36) 0 1 rfl rfl inlX2 (by decide) wf_RX2_16 rfl dX2_init_33 rfl ?_
  refine x_iload_n B (pc' := 37) 1 dX2_init_36 rfl rfl rfl ?_
  refine x_new B (ci := 1) tyX1 tyX1_ok rfl inlX1 wc_RX2_7 wi_RX1 wn_RX1 hfs1 ⟨by exact Nat.le_of_ble_eq_true rfl, by exact Nat.le_of_ble_eq_true rfl⟩ dX2_init_37 (pc' := 40) rfl (fun u6q => ?_)
  refine x_dup B (pc' := 41) dX2_init_40 rfl rfl ?_
  refine x_GI B (wr := ((((((([(h, .inr (2, [.ref u0q, .ref qs, .int 0, .int 0, .null]))] ++ wI Γ.cs.1 u0q u0) ++ [(qs, .inl (Γ.cs.2.2, 6, .inr (.inr (.inr (.inr (va_up (va_up (va_up (va_up (va_up (fun _ => none) 0 (some u1q)) 1 (some u2q)) 2 (some u3q)) 3 (some u4q)) 4 (some u5q)))))))]) ++ wI Γ.cs.1 u1q u1) ++ wI Γ.cs.1 u2q u2) ++ wI Γ.cs.1 u3q u3) ++ wI Γ.cs.1 u4q u4) ++ wI Γ.cs.1 u5q u5)) (k_X1_init _ _ _ u6q) [44] [0, 1, 2, 3, 4, 5, 6, 7, 8, 9, 10, 11, 12, 13, 14, 15, 16, 17, 18, 19, 20, 21, 22, 23, 24, 25, 26, 27, 28, 29, 30, 31, 32, 33, 34, 35, 36, 37, 38, 39, 40, 41, 42, 43] rfl (by decide) rfl (by decide) (by decide) rfl gi_RX2_9 np_X1_init ⟨Nat.le_of_ble_eq_true rfl, Nat.le_of_ble_eq_true rfl⟩ ⟨by exact Nat.le_of_ble_eq_true rfl, by exact Nat.le_of_ble_eq_true rfl⟩ (Nat.le_of_ble_eq_true rfl) dX2_init_41 (pc' := 44) rfl (fun u6 hu6 => ?_)
  refine x_aast (ws' := (((((((([(h, .inr (2, [.ref u0q, .ref qs, .int 0, .int 0, .null]))] ++ wI Γ.cs.1 u0q u0) ++ [(qs, .inl (Γ.cs.2.2, 6, .inr (.inr (.inr (.inr (va_up (va_up (va_up (va_up (va_up (va_up (fun _ => none) 0 (some u1q)) 1 (some u2q)) 2 (some u3q)) 3 (some u4q)) 4 (some u5q)) 5 (some u6q)))))))]) ++ wI Γ.cs.1 u1q u1) ++ wI Γ.cs.1 u2q u2) ++ wI Γ.cs.1 u3q u3) ++ wI Γ.cs.1 u4q u4) ++ wI Γ.cs.1 u5q u5) ++ wI Γ.cs.1 u6q u6)) B (pc' := 45) 8 44 rfl rfl rfl 5 (by decide) (vp_in_nI (n := 5) (by decide) (by decide)) rfl dX2_init_44 rfl ?_
  refine x_iinc B (pc' := 48) 6 1 [1, 0] [(0, .ref h), (1, .int 6)] dX2_init_45 rfl (by decide) (by decide) rfl rfl ?_
  refine x_goto B (pc' := 26) dX2_init_48 (by decide) ?_
  refine x_iload_n B (pc' := 27) 1 dX2_init_26 rfl rfl rfl ?_
  refine x_bipush B (pc' := 29) 6 dX2_init_27 (by decide) rfl ?_
  refine x_icmp_ge B 51 32 dX2_init_29 (by decide) rfl (fun _ => ?_) (fun hc => absurd (by decide) hc)
  refine x_aload_n B (pc' := 52) 0 dX2_init_51 rfl rfl rfl ?_
  refine x_iconst B (pc' := 53) 0 dX2_init_52 (by decide) rfl ?_
  refine x_putf (ws' := (((((((([(h, .inr (2, [.ref u0q, .ref qs, .int 0, .int 0, .null]))] ++ wI Γ.cs.1 u0q u0) ++ [(qs, .inl (Γ.cs.2.2, 6, .inr (.inr (.inr (.inr (va_up (va_up (va_up (va_up (va_up (va_up (fun _ => none) 0 (some u1q)) 1 (some u2q)) 2 (some u3q)) 3 (some u4q)) 4 (some u5q)) 5 (some u6q)))))))]) ++ wI Γ.cs.1 u1q u1) ++ wI Γ.cs.1 u2q u2) ++ wI Γ.cs.1 u3q u3) ++ wI Γ.cs.1 u4q u4) ++ wI Γ.cs.1 u5q u5) ++ wI Γ.cs.1 u6q u6)) B (pc' := 56) 0 2 tyX2 tyX2_ok nmX2 rfl rfl inlX2 (by decide) wf_RX2_20 rfl rfl rfl (Nat.le_of_ble_eq_true rfl) rfl dX2_init_53 rfl ?_
  refine x_aload_n B (pc' := 57) 0 dX2_init_56 rfl rfl rfl ?_
  refine x_iconst B (pc' := 58) 0 dX2_init_57 (by decide) rfl ?_
  refine x_putf (ws' := (((((((([(h, .inr (2, [.ref u0q, .ref qs, .int 0, .int 0, .null]))] ++ wI Γ.cs.1 u0q u0) ++ [(qs, .inl (Γ.cs.2.2, 6, .inr (.inr (.inr (.inr (va_up (va_up (va_up (va_up (va_up (va_up (fun _ => none) 0 (some u1q)) 1 (some u2q)) 2 (some u3q)) 3 (some u4q)) 4 (some u5q)) 5 (some u6q)))))))]) ++ wI Γ.cs.1 u1q u1) ++ wI Γ.cs.1 u2q u2) ++ wI Γ.cs.1 u3q u3) ++ wI Γ.cs.1 u4q u4) ++ wI Γ.cs.1 u5q u5) ++ wI Γ.cs.1 u6q u6)) B (pc' := 61) 0 3 tyX2 tyX2_ok nmX2 rfl rfl inlX2 (by decide) wf_RX2_24 rfl rfl rfl (Nat.le_of_ble_eq_true rfl) rfl dX2_init_58 rfl ?_
  refine x_aload_n B (pc' := 62) 0 dX2_init_61 rfl rfl rfl ?_
  refine x_new B (ci := 0) tyX0 tyX0_ok rfl inlX0 wc_RX2_27 wi_RX0 wn_RX0 hfs0 ⟨by exact Nat.le_of_ble_eq_true rfl, by exact Nat.le_of_ble_eq_true rfl⟩ dX2_init_62 (pc' := 65) rfl (fun qt => ?_)
  refine x_dup B (pc' := 66) dX2_init_65 rfl rfl ?_
  refine x_GI B (wr := (((((((([(h, .inr (2, [.ref u0q, .ref qs, .int 0, .int 0, .null]))] ++ wI Γ.cs.1 u0q u0) ++ [(qs, .inl (Γ.cs.2.2, 6, .inr (.inr (.inr (.inr (va_up (va_up (va_up (va_up (va_up (va_up (fun _ => none) 0 (some u1q)) 1 (some u2q)) 2 (some u3q)) 3 (some u4q)) 4 (some u5q)) 5 (some u6q)))))))]) ++ wI Γ.cs.1 u1q u1) ++ wI Γ.cs.1 u2q u2) ++ wI Γ.cs.1 u3q u3) ++ wI Γ.cs.1 u4q u4) ++ wI Γ.cs.1 u5q u5) ++ wI Γ.cs.1 u6q u6)) (k_X0_init _ _ _ qt) [51] [0, 1, 2, 3, 4, 5, 6, 7, 8, 9, 10, 11, 12, 13, 14, 15, 16, 17, 18, 19, 20, 21, 22, 23, 24, 25, 26, 27, 28, 29, 30, 31, 32, 33, 34, 35, 36, 37, 38, 39, 40, 41, 42, 43, 44, 45, 46, 47, 48, 49, 50] rfl (by decide) rfl (by decide) (by decide) rfl gi_RX2_29 np_X0_init ⟨Nat.le_of_ble_eq_true rfl, Nat.le_of_ble_eq_true rfl⟩ ⟨by exact Nat.le_of_ble_eq_true rfl, by exact Nat.le_of_ble_eq_true rfl⟩ (Nat.le_of_ble_eq_true rfl) dX2_init_66 (pc' := 69) rfl (fun qc _ => ?_)
  refine x_putF (ws' := ((((((((([(h, .inr (2, [.ref u0q, .ref qs, .int 0, .int 0, .ref qt]))] ++ wI Γ.cs.1 u0q u0) ++ [(qs, .inl (Γ.cs.2.2, 6, .inr (.inr (.inr (.inr (va_up (va_up (va_up (va_up (va_up (va_up (fun _ => none) 0 (some u1q)) 1 (some u2q)) 2 (some u3q)) 3 (some u4q)) 4 (some u5q)) 5 (some u6q)))))))]) ++ wI Γ.cs.1 u1q u1) ++ wI Γ.cs.1 u2q u2) ++ wI Γ.cs.1 u3q u3) ++ wI Γ.cs.1 u4q u4) ++ wI Γ.cs.1 u5q u5) ++ wI Γ.cs.1 u6q u6) ++ wT Γ.cs.1 (fun i => if i = 0 then qt else qc) ((fun _ => 0), fun _ _ => 0))) B hin (pc' := 72) 0 4 tyX2 tyX2_ok nmX2 rfl rfl inlX2 (by decide) wf_RX2_30 rfl rfl rfl rfl (Nat.le_of_ble_eq_true rfl) rfl dX2_init_69 rfl ?_
  refine x_rowq (ws' := ((((((((([(h, .inr (2, [.ref u0q, .ref qs, .int 0, .int 0, .ref qt]))] ++ wI Γ.cs.1 u0q u0) ++ [(qs, .inl (Γ.cs.2.2, 6, .inr (.inr (.inr (.inr (fun i => some ((fun i : Nat => if i = 0 then (fun j : Nat => if j = 0 then h else qs) else if i = 1 then (adS u0q u0.2.1 u0.2.2.1 u0.2.2.2.1 u0.2.2.2.2.1 u0.2.2.2.2.2.1 u0.2.2.2.2.2.2) else if i = 2 then (fun j : Nat => if j = 0 then qt else qc) else if i = 3 then (adS u1q u1.2.1 u1.2.2.1 u1.2.2.2.1 u1.2.2.2.2.1 u1.2.2.2.2.2.1 u1.2.2.2.2.2.2) else if i = 4 then (adS u2q u2.2.1 u2.2.2.1 u2.2.2.2.1 u2.2.2.2.2.1 u2.2.2.2.2.2.1 u2.2.2.2.2.2.2) else if i = 5 then (adS u3q u3.2.1 u3.2.2.1 u3.2.2.2.1 u3.2.2.2.2.1 u3.2.2.2.2.2.1 u3.2.2.2.2.2.2) else if i = 6 then (adS u4q u4.2.1 u4.2.2.1 u4.2.2.2.1 u4.2.2.2.2.1 u4.2.2.2.2.2.1 u4.2.2.2.2.2.2) else if i = 7 then (adS u5q u5.2.1 u5.2.2.1 u5.2.2.2.1 u5.2.2.2.2.1 u5.2.2.2.2.2.1 u5.2.2.2.2.2.2) else (adS u6q u6.2.1 u6.2.2.1 u6.2.2.2.1 u6.2.2.2.2.1 u6.2.2.2.2.2.1 u6.2.2.2.2.2.2)) (3 + i) 0)))))))]) ++ wI Γ.cs.1 u1q u1) ++ wI Γ.cs.1 u2q u2) ++ wI Γ.cs.1 u3q u3) ++ wI Γ.cs.1 u4q u4) ++ wI Γ.cs.1 u5q u5) ++ wI Γ.cs.1 u6q u6) ++ wT Γ.cs.1 (fun i => if i = 0 then qt else qc) ((fun _ => 0), fun _ _ => 0))) 8 rfl (g := fun i => some ((fun i : Nat => if i = 0 then (fun j : Nat => if j = 0 then h else qs) else if i = 1 then (adS u0q u0.2.1 u0.2.2.1 u0.2.2.2.1 u0.2.2.2.2.1 u0.2.2.2.2.2.1 u0.2.2.2.2.2.2) else if i = 2 then (fun j : Nat => if j = 0 then qt else qc) else if i = 3 then (adS u1q u1.2.1 u1.2.2.1 u1.2.2.2.1 u1.2.2.2.2.1 u1.2.2.2.2.2.1 u1.2.2.2.2.2.2) else if i = 4 then (adS u2q u2.2.1 u2.2.2.1 u2.2.2.2.1 u2.2.2.2.2.1 u2.2.2.2.2.2.1 u2.2.2.2.2.2.2) else if i = 5 then (adS u3q u3.2.1 u3.2.2.1 u3.2.2.2.1 u3.2.2.2.2.1 u3.2.2.2.2.2.1 u3.2.2.2.2.2.2) else if i = 6 then (adS u4q u4.2.1 u4.2.2.1 u4.2.2.2.1 u4.2.2.2.2.1 u4.2.2.2.2.2.1 u4.2.2.2.2.2.2) else if i = 7 then (adS u5q u5.2.1 u5.2.2.1 u5.2.2.2.1 u5.2.2.2.2.1 u5.2.2.2.2.2.1 u5.2.2.2.2.2.2) else (adS u6q u6.2.1 u6.2.2.1 u6.2.2.2.1 u6.2.2.2.2.1 u6.2.2.2.2.2.1 u6.2.2.2.2.2.2)) (3 + i) 0)) (fun i hi => ?_) rfl ?_
  · match i, hi with
    | 0, _ => rfl
    | 1, _ => rfl
    | 2, _ => rfl
    | 3, _ => rfl
    | 4, _ => rfl
    | 5, _ => rfl
    | i + 6, hi => exact absurd hi (by omega)
  refine x_perm (ws' := wB Γ.cs (fun i : Nat => if i = 0 then (fun j : Nat => if j = 0 then h else qs) else if i = 1 then (adS u0q u0.2.1 u0.2.2.1 u0.2.2.2.1 u0.2.2.2.2.1 u0.2.2.2.2.2.1 u0.2.2.2.2.2.2) else if i = 2 then (fun j : Nat => if j = 0 then qt else qc) else if i = 3 then (adS u1q u1.2.1 u1.2.2.1 u1.2.2.2.1 u1.2.2.2.2.1 u1.2.2.2.2.2.1 u1.2.2.2.2.2.2) else if i = 4 then (adS u2q u2.2.1 u2.2.2.1 u2.2.2.2.1 u2.2.2.2.2.1 u2.2.2.2.2.2.1 u2.2.2.2.2.2.2) else if i = 5 then (adS u3q u3.2.1 u3.2.2.1 u3.2.2.2.1 u3.2.2.2.2.1 u3.2.2.2.2.2.1 u3.2.2.2.2.2.2) else if i = 6 then (adS u4q u4.2.1 u4.2.2.1 u4.2.2.2.1 u4.2.2.2.2.1 u4.2.2.2.2.2.1 u4.2.2.2.2.2.2) else if i = 7 then (adS u5q u5.2.1 u5.2.2.1 u5.2.2.2.1 u5.2.2.2.2.1 u5.2.2.2.2.2.1 u5.2.2.2.2.2.2) else (adS u6q u6.2.1 u6.2.2.1 u6.2.2.2.1 u6.2.2.2.2.1 u6.2.2.2.2.2.1 u6.2.2.2.2.2.2)) ((fun _ => 0), iS u0.1, (fun j : Nat => if j = 0 then iS u1.1 else if j = 1 then iS u2.1 else if j = 2 then iS u3.1 else if j = 3 then iS u4.1 else if j = 4 then iS u5.1 else iS u6.1), ((fun _ => 0), fun _ _ => 0))) [0, 8, 1, 2, 3, 4, 5, 6, 7, 51, 52, 9, 10, 11, 12, 13, 14, 15, 16, 17, 18, 19, 20, 21, 22, 23, 24, 25, 26, 27, 28, 29, 30, 31, 32, 33, 34, 35, 36, 37, 38, 39, 40, 41, 42, 43, 44, 45, 46, 47, 48, 49, 50] rfl (by decide) ?_
  exact ret ((fun i : Nat => if i = 0 then (fun j : Nat => if j = 0 then h else qs) else if i = 1 then (adS u0q u0.2.1 u0.2.2.1 u0.2.2.2.1 u0.2.2.2.2.1 u0.2.2.2.2.2.1 u0.2.2.2.2.2.2) else if i = 2 then (fun j : Nat => if j = 0 then qt else qc) else if i = 3 then (adS u1q u1.2.1 u1.2.2.1 u1.2.2.2.1 u1.2.2.2.2.1 u1.2.2.2.2.2.1 u1.2.2.2.2.2.2) else if i = 4 then (adS u2q u2.2.1 u2.2.2.1 u2.2.2.2.1 u2.2.2.2.2.1 u2.2.2.2.2.2.1 u2.2.2.2.2.2.2) else if i = 5 then (adS u3q u3.2.1 u3.2.2.1 u3.2.2.2.1 u3.2.2.2.2.1 u3.2.2.2.2.2.1 u3.2.2.2.2.2.2) else if i = 6 then (adS u4q u4.2.1 u4.2.2.1 u4.2.2.2.1 u4.2.2.2.2.1 u4.2.2.2.2.2.1 u4.2.2.2.2.2.2) else if i = 7 then (adS u5q u5.2.1 u5.2.2.1 u5.2.2.2.1 u5.2.2.2.2.1 u5.2.2.2.2.2.1 u5.2.2.2.2.2.2) else (adS u6q u6.2.1 u6.2.2.1 u6.2.2.2.1 u6.2.2.2.2.1 u6.2.2.2.2.2.1 u6.2.2.2.2.2.2)), ((fun _ => 0), iS u0.1, (fun j : Nat => if j = 0 then iS u1.1 else if j = 1 then iS u2.1 else if j = 2 then iS u3.1 else if j = 3 then iS u4.1 else if j = 4 then iS u5.1 else iS u6.1), ((fun _ => 0), fun _ _ => 0))) ⟨rfl, rfl, rfl, ⟨u0.1, rfl, hu0⟩, rfl⟩ (by exact Nat.le_of_ble_eq_true rfl) (by exact Nat.le_of_ble_eq_true rfl) dX2_init_72
end
section
def lpf11 {A0 A1 A2 A3 A4 A5 A6 A7 A8 A9 A10 β : Type} (b : (A0 → A1 → A2 → A3 → A4 → A5 → A6 → A7 → A8 → A9 → A10 → Option β) → A0 → A1 → A2 → A3 → A4 → A5 → A6 → A7 → A8 → A9 → A10 → Option β) : Nat → A0 → A1 → A2 → A3 → A4 → A5 → A6 → A7 → A8 → A9 → A10 → Option β
  | 0, _, _, _, _, _, _, _, _, _, _, _ => none
  | n + 1, a0, a1, a2, a3, a4, a5, a6, a7, a8, a9, a10 => b (lpf11 b n) a0 a1 a2 a3 a4 a5 a6 a7 a8 a9 a10
theorem lpf11_ind {A0 A1 A2 A3 A4 A5 A6 A7 A8 A9 A10 β : Type} {b : (A0 → A1 → A2 → A3 → A4 → A5 → A6 → A7 → A8 → A9 → A10 → Option β) → A0 → A1 → A2 → A3 → A4 → A5 → A6 → A7 → A8 → A9 → A10 → Option β} {r : β} {P : A0 → A1 → A2 → A3 → A4 → A5 → A6 → A7 → A8 → A9 → A10 → Prop} (hb : ∀ K : A0 → A1 → A2 → A3 → A4 → A5 → A6 → A7 → A8 → A9 → A10 → Option β, (∀ a0 a1 a2 a3 a4 a5 a6 a7 a8 a9 a10, K a0 a1 a2 a3 a4 a5 a6 a7 a8 a9 a10 = some r → P a0 a1 a2 a3 a4 a5 a6 a7 a8 a9 a10) → ∀ a0 a1 a2 a3 a4 a5 a6 a7 a8 a9 a10, b K a0 a1 a2 a3 a4 a5 a6 a7 a8 a9 a10 = some r → P a0 a1 a2 a3 a4 a5 a6 a7 a8 a9 a10) : ∀ (n : Nat) a0 a1 a2 a3 a4 a5 a6 a7 a8 a9 a10, lpf11 b n a0 a1 a2 a3 a4 a5 a6 a7 a8 a9 a10 = some r → P a0 a1 a2 a3 a4 a5 a6 a7 a8 a9 a10
  | 0, _, _, _, _, _, _, _, _, _, _, _, h => by cases h
  | n + 1, a0, a1, a2, a3, a4, a5, a6, a7, a8, a9, a10, h => hb (lpf11 b n) (fun a0 a1 a2 a3 a4 a5 a6 a7 a8 a9 a10 h => lpf11_ind hb n a0 a1 a2 a3 a4 a5 a6 a7 a8 a9 a10 h) a0 a1 a2 a3 a4 a5 a6 a7 a8 a9 a10 h
def lpf12 {A0 A1 A2 A3 A4 A5 A6 A7 A8 A9 A10 A11 β : Type} (b : (A0 → A1 → A2 → A3 → A4 → A5 → A6 → A7 → A8 → A9 → A10 → A11 → Option β) → A0 → A1 → A2 → A3 → A4 → A5 → A6 → A7 → A8 → A9 → A10 → A11 → Option β) : Nat → A0 → A1 → A2 → A3 → A4 → A5 → A6 → A7 → A8 → A9 → A10 → A11 → Option β
  | 0, _, _, _, _, _, _, _, _, _, _, _, _ => none
  | n + 1, a0, a1, a2, a3, a4, a5, a6, a7, a8, a9, a10, a11 => b (lpf12 b n) a0 a1 a2 a3 a4 a5 a6 a7 a8 a9 a10 a11
theorem lpf12_ind {A0 A1 A2 A3 A4 A5 A6 A7 A8 A9 A10 A11 β : Type} {b : (A0 → A1 → A2 → A3 → A4 → A5 → A6 → A7 → A8 → A9 → A10 → A11 → Option β) → A0 → A1 → A2 → A3 → A4 → A5 → A6 → A7 → A8 → A9 → A10 → A11 → Option β} {r : β} {P : A0 → A1 → A2 → A3 → A4 → A5 → A6 → A7 → A8 → A9 → A10 → A11 → Prop} (hb : ∀ K : A0 → A1 → A2 → A3 → A4 → A5 → A6 → A7 → A8 → A9 → A10 → A11 → Option β, (∀ a0 a1 a2 a3 a4 a5 a6 a7 a8 a9 a10 a11, K a0 a1 a2 a3 a4 a5 a6 a7 a8 a9 a10 a11 = some r → P a0 a1 a2 a3 a4 a5 a6 a7 a8 a9 a10 a11) → ∀ a0 a1 a2 a3 a4 a5 a6 a7 a8 a9 a10 a11, b K a0 a1 a2 a3 a4 a5 a6 a7 a8 a9 a10 a11 = some r → P a0 a1 a2 a3 a4 a5 a6 a7 a8 a9 a10 a11) : ∀ (n : Nat) a0 a1 a2 a3 a4 a5 a6 a7 a8 a9 a10 a11, lpf12 b n a0 a1 a2 a3 a4 a5 a6 a7 a8 a9 a10 a11 = some r → P a0 a1 a2 a3 a4 a5 a6 a7 a8 a9 a10 a11
  | 0, _, _, _, _, _, _, _, _, _, _, _, _, h => by cases h
  | n + 1, a0, a1, a2, a3, a4, a5, a6, a7, a8, a9, a10, a11, h => hb (lpf12 b n) (fun a0 a1 a2 a3 a4 a5 a6 a7 a8 a9 a10 a11 h => lpf12_ind hb n a0 a1 a2 a3 a4 a5 a6 a7 a8 a9 a10 a11 h) a0 a1 a2 a3 a4 a5 a6 a7 a8 a9 a10 a11 h
section LROW
variable {Γ : Ctx} {cc : ByteArray} {nL k n pc pc' : Nat} {own : String} {R0 : Room} {lv lv' : List (Nat × Value)} {st st0 : List Value} {ws : va_W}
theorem x_ldc (B : CX Γ cc nL own R0) {index : Nat} (v : Int32) (hw : Cond.constant own index v ∈ GW) (d : decode cc pc = .ok (.ldc index, 2)) (hp : pc + 2 = pc') (kk : X Γ nL k n pc' lv (.int v :: st) ws) : X Γ nL k n pc lv st ws := by
  obtain ⟨p, l, e, R, s, m, args, below, meth, c, Q, A, D, cs⟩ := Γ
  subst hp
  intro H locs ls hP hD hS hl
  exact lv_ldc B.1.1 B.1.2.1 B.1.2.2.2.1 (B.1.2.2.2.2 _ hw) d (kk H locs ls hP hD hS hl)
theorem x_ishl (B : CX Γ cc nL own R0) {x y : Int32} (d : decode cc pc = .ok (.ishl, 1)) (hp : pc + 1 = pc') (kk : X Γ nL k n pc' lv (.int (x <<< (y &&& 31)) :: st) ws) : X Γ nL k n pc lv (.int y :: .int x :: st) ws := by
  obtain ⟨p, l, e, R, s, m, args, below, meth, c, Q, A, D, cs⟩ := Γ
  subst hp
  intro H locs ls hP hD hS hl
  exact lv_ishl B.1.1 B.1.2.1 d (kk H locs ls hP hD hS hl)
theorem x_ishr (B : CX Γ cc nL own R0) {x y : Int32} (d : decode cc pc = .ok (.ishr, 1)) (hp : pc + 1 = pc') (kk : X Γ nL k n pc' lv (.int (x >>> (y &&& 31)) :: st) ws) : X Γ nL k n pc lv (.int y :: .int x :: st) ws := by
  obtain ⟨p, l, e, R, s, m, args, below, meth, c, Q, A, D, cs⟩ := Γ
  subst hp
  intro H locs ls hP hD hS hl
  exact lv_ishr B.1.1 B.1.2.1 d (kk H locs ls hP hD hS hl)
theorem x_ior (B : CX Γ cc nL own R0) {x y : Int32} (d : decode cc pc = .ok (.ior, 1)) (hp : pc + 1 = pc') (kk : X Γ nL k n pc' lv (.int (x ||| y) :: st) ws) : X Γ nL k n pc lv (.int y :: .int x :: st) ws := by
  obtain ⟨p, l, e, R, s, m, args, below, meth, c, Q, A, D, cs⟩ := Γ
  subst hp
  intro H locs ls hP hD hS hl
  exact lv_ior B.1.1 B.1.2.1 d (kk H locs ls hP hD hS hl)
theorem x_lcmp (B : CX Γ cc nL own R0) {x y : Int64} (d : decode cc pc = .ok (.lcmp, 1)) (hp : pc + 1 = pc') (kk : X Γ nL k n pc' lv (.int (lg_cmp x y) :: st) ws) : X Γ nL k n pc lv (.long y :: .long x :: st) ws := by
  obtain ⟨p, l, e, R, s, m, args, below, meth, c, Q, A, D, cs⟩ := Γ
  subst hp
  intro H locs ls hP hD hS hl
  exact W.lcmp B.1.1 B.1.2.1 d (kk H locs ls hP hD hS hl)
theorem x_dcmp (B : CX Γ cc nL own R0) {x y : UInt64} {op : CmpOp} (d : decode cc pc = .ok (.dcmp op, 1)) (hp : pc + 1 = pc') (kk : X Γ nL k n pc' lv (.int (Op.cmpValue (FP.dcmp x y) op) :: st) ws) : X Γ nL k n pc lv (.double y :: .double x :: st) ws := by
  obtain ⟨p, l, e, R, s, m, args, below, meth, c, Q, A, D, cs⟩ := Γ
  subst hp
  intro H locs ls hP hD hS hl
  exact lv_dcmp B.1.1 B.1.2.1 d (kk H locs ls hP hD hS hl)
abbrev LO : Type := BO × (Nat → Int64) × (Nat → Int32)
/-- the belt, a row of ten longs, a row of ten ints -/
def wV (cs : CS) (a : Nat → Nat → Nat) (b c : Nat) (S : LO) : va_W := wB cs a S.1 ++ [(b, .inl (cs.2.1, 10, .inr (.inl S.2.1))), (c, .inl (cs.1, 10, .inl S.2.2))]
variable {a : Nat → Nat → Nat} {b c : Nat} {S S1 : BO} {T T1 : LO}
theorem v_wd (h : T1 = T) (kk : X Γ nL k n pc lv st (wV Γ.cs a b c T1)) : X Γ nL k n pc lv st (wV Γ.cs a b c T) := h ▸ kk
theorem v_end (kk : X Γ nL k n pc lv st (wB Γ.cs a T.1)) : X Γ nL k n pc lv st (wV Γ.cs a b c T) :=
  x_perm [0, 1, 2, 3, 4, 5, 6, 7, 8, 9, 10, 11, 12, 13, 14, 15, 16, 17, 18, 19, 20, 21, 22, 23, 24, 25, 26, 27, 28, 29, 30, 31, 32, 33, 34, 35, 36, 37, 38, 39, 40, 41, 42, 43, 44, 45, 46, 47, 48, 49, 50, 51, 52] rfl (by decide) kk
theorem v_lald53 (B : CX Γ cc nL own R0) {i : Int32} (hi : vp_in i 10) (d : decode cc pc = .ok (.laload, 1)) (hp : pc + 1 = pc') (kk : X Γ nL k n pc' lv (.long (T.2.1 i.toNatClampNeg) :: st) (wV Γ.cs a b c T)) : X Γ nL k n pc lv (.int i :: .ref b :: st) (wV Γ.cs a b c T) :=
  x_lald B 53 rfl hi d hp kk
theorem v_last53 (B : CX Γ cc nL own R0) {i : Int32} {v : Int64} (hi : vp_in i 10) (d : decode cc pc = .ok (.lastore, 1)) (hp : pc + 1 = pc') (kk : X Γ nL k n pc' lv st (wV Γ.cs a b c (T.1, vp_updL T.2.1 i.toNatClampNeg v, T.2.2))) : X Γ nL k n pc lv (.long v :: .int i :: .ref b :: st) (wV Γ.cs a b c T) :=
  x_last (ws' := wV Γ.cs a b c (T.1, vp_updL T.2.1 i.toNatClampNeg v, T.2.2)) B 53 rfl hi rfl d hp kk
theorem v_ald54 (B : CX Γ cc nL own R0) {i : Int32} (hi : vp_in i 10) (d : decode cc pc = .ok (.iaload, 1)) (hp : pc + 1 = pc') (kk : X Γ nL k n pc' lv (.int (T.2.2 i.toNatClampNeg) :: st) (wV Γ.cs a b c T)) : X Γ nL k n pc lv (.int i :: .ref c :: st) (wV Γ.cs a b c T) :=
  x_iald B 54 rfl hi d hp kk
theorem v_ast54 (B : CX Γ cc nL own R0) {i v : Int32} (hi : vp_in i 10) (d : decode cc pc = .ok (.iastore, 1)) (hp : pc + 1 = pc') (kk : X Γ nL k n pc' lv st (wV Γ.cs a b c (T.1, T.2.1, upd T.2.2 i.toNatClampNeg v))) : X Γ nL k n pc lv (.int v :: .int i :: .ref c :: st) (wV Γ.cs a b c T) :=
  x_iast (ws' := wV Γ.cs a b c (T.1, T.2.1, upd T.2.2 i.toNatClampNeg v)) B 54 rfl hi rfl d hp kk
theorem x_GVd {Γ : Ctx} {cc : ByteArray} {nL k n pc pc' : Nat} {own : String} {R0 : Room} {lv : List (Nat × Value)} {st st0 : List Value} {ws ws' : va_W} (B : CX Γ cc nL own R0) {y : MethodName} {index maxL : Nat} {bytes : ByteArray} {r : UInt64} {rm : Room} {b : Addr} (As : List Value) {w w' wr : va_W} (hM : MD Γ.l Γ.D Γ.cs y bytes maxL rm (.ref b :: As) w r w') (isC isR is : List Nat) (hC : isC.map (fun i => ws[i]?) = w.map some) (hcn : va_nd isC = true) (hRr : isR.map (fun i => ws[i]?) = wr.map some) (hrn : va_nd isR = true) (hdis : ∀ i ∈ isR, i ∉ isC) (hN : is.map (fun i => (wr ++ w')[i]?) = ws'.map some) (hn2 : va_nd is = true) {ci : Nat} {fs : List Value} {q3 : vw_C} (hrec : (w : va_W)[0]? = some (b, .inr (ci, fs))) (hcl : vwCl[ci]? = some q3) (hg : GoodIn GW (wsV own index q3.1 y (.code y bytes maxL (some .double) :: GW))) (hcc : y.cls = q3.1) (hd : y.cls ≠ "java/lang/invoke/MethodHandle" ∧ y.cls ≠ "java/lang/invoke/VarHandle" ∧ (parseMethodDescriptor y.desc).map (fun d => d.parameters.length) = some As.length) (hR : rm.frames + 1 ≤ R0.frames ∧ 8 + (maxL + 11) + rm.locals ≤ R0.locals) (hroom : k + rm.cells ≤ R0.cells ∧ n + rm.slots ≤ R0.slots) (hstk : st0 = As.reverse ++ .ref b :: st) (hsum : (st.map fun v => v.category).sum ≤ 8) (d : decode cc pc = .ok (.invokevirtual index, 3)) (hp : pc + 3 = pc') (kk : X Γ nL (k + rm.cells) (n + rm.slots) pc' lv (.double r :: st) ws') : X Γ nL k n pc lv st0 ws := by
  obtain ⟨p, l, e, R, s, m, args, below, meth, c, Q, A, D, cs⟩ := Γ
  subst hp
  subst hstk
  obtain ⟨hfix, hKN, hA, hlk, rfl⟩ := B
  intro H locs ls hP hD hS hl
  have hPc : va_P D vwCl w H := hP.sub isC (fm_of hC)
  have hDc : va_D A w := hD.sub isC hcn hC
  have hFc := va_free hD hS hA isC hC
  refine va_calld (va_runV (As := As) (rest := st) hfix (hM H.size) (cwV As.length hfix.2.2.2.2 hg rfl rfl rfl ⟨hcc, hd⟩ hR) ⟨pr_blind _ _ _ _ _, va_recv hKN.1 hPc (q := q3) hcl (q0 := 0) hrec, fun U hU hW => ⟨rfl, by rw [hU], by rw [hU]; exact hPc, KN.warm hW hKN, hDc.weaken (fun _ _ _ _ => trivial)⟩⟩ rfl rfl hl.1 rfl (lv_room hsum) d hroom) hS (fun q _ h => hFc q h) hFc (fun r2 u t H1 locs1 ht hvm hw hB hz1 hk1 hS1 => ?_)
  subst hw
  obtain ⟨hP1, hD1⟩ := hB
  rw [ht] at hP1
  obtain ⟨hP2, hD2⟩ := va_join hP hD isC isR hC hRr hrn hdis hk1 hFc hP1 hD1
  exact kk H1 locs1 ls (hP2.sub is (fm_of hN)) (hD2.sub is hn2 hN) hS1 hl
theorem n_belVi (B : CX Γ cc nL own R0) {y : MethodName} {index maxL : Nat} {bytes : ByteArray} {rt : FieldType} {r : Int32} {rm : Room} (As : List Value) (hM : MI Γ.l Γ.D Γ.cs y bytes maxL rt rm (.ref (a 0 0) :: As) (wB Γ.cs a S) r (wB Γ.cs a S1)) (hg : GoodIn GW (wsV own index RX2 y (.code y bytes maxL (some rt) :: GW))) (hcc : y.cls = RX2) (hd : y.cls ≠ "java/lang/invoke/MethodHandle" ∧ y.cls ≠ "java/lang/invoke/VarHandle" ∧ (parseMethodDescriptor y.desc).map (fun d => d.parameters.length) = some As.length) (hR : rm.frames + 1 ≤ R0.frames ∧ 8 + (maxL + 11) + rm.locals ≤ R0.locals) (hroom : k + rm.cells ≤ R0.cells ∧ n + rm.slots ≤ R0.slots) (hstk : st0 = As.reverse ++ .ref (a 0 0) :: st) (hsum : (st.map fun v => v.category).sum ≤ 8) (d : decode cc pc = .ok (.invokevirtual index, 3)) (hp : pc + 3 = pc') (kk : X Γ nL (k + rm.cells) (n + rm.slots) pc' lv (.int r :: st) (wB Γ.cs a S1)) : X Γ nL k n pc lv st0 (wB Γ.cs a S) :=
  x_GVi (ws' := (wB Γ.cs a S1)) (wr := []) B As hM [0, 1, 2, 3, 4, 5, 6, 7, 8, 9, 10, 11, 12, 13, 14, 15, 16, 17, 18, 19, 20, 21, 22, 23, 24, 25, 26, 27, 28, 29, 30, 31, 32, 33, 34, 35, 36, 37, 38, 39, 40, 41, 42, 43, 44, 45, 46, 47, 48, 49, 50, 51, 52] [] [0, 1, 2, 3, 4, 5, 6, 7, 8, 9, 10, 11, 12, 13, 14, 15, 16, 17, 18, 19, 20, 21, 22, 23, 24, 25, 26, 27, 28, 29, 30, 31, 32, 33, 34, 35, 36, 37, 38, 39, 40, 41, 42, 43, 44, 45, 46, 47, 48, 49, 50, 51, 52] rfl (by decide) rfl (by decide) (by decide) rfl (by decide) rfl rfl hg hcc hd hR hroom hstk hsum d hp kk
theorem v_belVi (B : CX Γ cc nL own R0) {y : MethodName} {index maxL : Nat} {bytes : ByteArray} {rt : FieldType} {r : Int32} {rm : Room} (As : List Value) (hM : MI Γ.l Γ.D Γ.cs y bytes maxL rt rm (.ref (a 0 0) :: As) (wB Γ.cs a T.1) r (wB Γ.cs a S1)) (hg : GoodIn GW (wsV own index RX2 y (.code y bytes maxL (some rt) :: GW))) (hcc : y.cls = RX2) (hd : y.cls ≠ "java/lang/invoke/MethodHandle" ∧ y.cls ≠ "java/lang/invoke/VarHandle" ∧ (parseMethodDescriptor y.desc).map (fun d => d.parameters.length) = some As.length) (hR : rm.frames + 1 ≤ R0.frames ∧ 8 + (maxL + 11) + rm.locals ≤ R0.locals) (hroom : k + rm.cells ≤ R0.cells ∧ n + rm.slots ≤ R0.slots) (hstk : st0 = As.reverse ++ .ref (a 0 0) :: st) (hsum : (st.map fun v => v.category).sum ≤ 8) (d : decode cc pc = .ok (.invokevirtual index, 3)) (hp : pc + 3 = pc') (kk : X Γ nL (k + rm.cells) (n + rm.slots) pc' lv (.int r :: st) (wV Γ.cs a b c (S1, T.2))) : X Γ nL k n pc lv st0 (wV Γ.cs a b c T) :=
  x_GVi (ws' := (wV Γ.cs a b c (S1, T.2))) (wr := [(b, .inl (Γ.cs.2.1, 10, .inr (.inl T.2.1))), (c, .inl (Γ.cs.1, 10, .inl T.2.2))]) B As hM [0, 1, 2, 3, 4, 5, 6, 7, 8, 9, 10, 11, 12, 13, 14, 15, 16, 17, 18, 19, 20, 21, 22, 23, 24, 25, 26, 27, 28, 29, 30, 31, 32, 33, 34, 35, 36, 37, 38, 39, 40, 41, 42, 43, 44, 45, 46, 47, 48, 49, 50, 51, 52] [53, 54] [2, 3, 4, 5, 6, 7, 8, 9, 10, 11, 12, 13, 14, 15, 16, 17, 18, 19, 20, 21, 22, 23, 24, 25, 26, 27, 28, 29, 30, 31, 32, 33, 34, 35, 36, 37, 38, 39, 40, 41, 42, 43, 44, 45, 46, 47, 48, 49, 50, 51, 52, 53, 54, 0, 1] rfl (by decide) rfl (by decide) (by decide) rfl (by decide) rfl rfl hg hcc hd hR hroom hstk hsum d hp kk
theorem n_belSi (B : CX Γ cc nL own R0) {y : MethodName} {index maxL : Nat} {bytes : ByteArray} {rt : FieldType} {r : Int32} {rm : Room} (As : List Value) (hM : MI Γ.l Γ.D Γ.cs y bytes maxL rt rm As (wB Γ.cs a S) r (wB Γ.cs a S1)) (hg : GoodIn GW (va_wsS own index y (.code y bytes maxL (some rt) :: GW))) (hd : y.cls ≠ "java/lang/invoke/MethodHandle" ∧ y.cls ≠ "java/lang/invoke/VarHandle" ∧ (parseMethodDescriptor y.desc).map (fun d => d.parameters.length) = some As.length) (hR : rm.frames + 1 ≤ R0.frames ∧ 8 + (maxL + 11) + rm.locals ≤ R0.locals) (hroom : k + rm.cells ≤ R0.cells ∧ n + rm.slots ≤ R0.slots) (hstk : st0 = As.reverse ++ st) (hsum : (st.map fun v => v.category).sum ≤ 8) (d : decode cc pc = .ok (.invokestatic index, 3)) (hp : pc + 3 = pc') (kk : X Γ nL (k + rm.cells) (n + rm.slots) pc' lv (.int r :: st) (wB Γ.cs a S1)) : X Γ nL k n pc lv st0 (wB Γ.cs a S) :=
  x_GSi (ws' := (wB Γ.cs a S1)) (wr := []) B As hM [0, 1, 2, 3, 4, 5, 6, 7, 8, 9, 10, 11, 12, 13, 14, 15, 16, 17, 18, 19, 20, 21, 22, 23, 24, 25, 26, 27, 28, 29, 30, 31, 32, 33, 34, 35, 36, 37, 38, 39, 40, 41, 42, 43, 44, 45, 46, 47, 48, 49, 50, 51, 52] [] [0, 1, 2, 3, 4, 5, 6, 7, 8, 9, 10, 11, 12, 13, 14, 15, 16, 17, 18, 19, 20, 21, 22, 23, 24, 25, 26, 27, 28, 29, 30, 31, 32, 33, 34, 35, 36, 37, 38, 39, 40, 41, 42, 43, 44, 45, 46, 47, 48, 49, 50, 51, 52] rfl (by decide) rfl (by decide) (by decide) rfl (by decide) hg hd hR hroom hstk hsum d hp kk
theorem v_belSi (B : CX Γ cc nL own R0) {y : MethodName} {index maxL : Nat} {bytes : ByteArray} {rt : FieldType} {r : Int32} {rm : Room} (As : List Value) (hM : MI Γ.l Γ.D Γ.cs y bytes maxL rt rm As (wB Γ.cs a T.1) r (wB Γ.cs a S1)) (hg : GoodIn GW (va_wsS own index y (.code y bytes maxL (some rt) :: GW))) (hd : y.cls ≠ "java/lang/invoke/MethodHandle" ∧ y.cls ≠ "java/lang/invoke/VarHandle" ∧ (parseMethodDescriptor y.desc).map (fun d => d.parameters.length) = some As.length) (hR : rm.frames + 1 ≤ R0.frames ∧ 8 + (maxL + 11) + rm.locals ≤ R0.locals) (hroom : k + rm.cells ≤ R0.cells ∧ n + rm.slots ≤ R0.slots) (hstk : st0 = As.reverse ++ st) (hsum : (st.map fun v => v.category).sum ≤ 8) (d : decode cc pc = .ok (.invokestatic index, 3)) (hp : pc + 3 = pc') (kk : X Γ nL (k + rm.cells) (n + rm.slots) pc' lv (.int r :: st) (wV Γ.cs a b c (S1, T.2))) : X Γ nL k n pc lv st0 (wV Γ.cs a b c T) :=
  x_GSi (ws' := (wV Γ.cs a b c (S1, T.2))) (wr := [(b, .inl (Γ.cs.2.1, 10, .inr (.inl T.2.1))), (c, .inl (Γ.cs.1, 10, .inl T.2.2))]) B As hM [0, 1, 2, 3, 4, 5, 6, 7, 8, 9, 10, 11, 12, 13, 14, 15, 16, 17, 18, 19, 20, 21, 22, 23, 24, 25, 26, 27, 28, 29, 30, 31, 32, 33, 34, 35, 36, 37, 38, 39, 40, 41, 42, 43, 44, 45, 46, 47, 48, 49, 50, 51, 52] [53, 54] [2, 3, 4, 5, 6, 7, 8, 9, 10, 11, 12, 13, 14, 15, 16, 17, 18, 19, 20, 21, 22, 23, 24, 25, 26, 27, 28, 29, 30, 31, 32, 33, 34, 35, 36, 37, 38, 39, 40, 41, 42, 43, 44, 45, 46, 47, 48, 49, 50, 51, 52, 53, 54, 0, 1] rfl (by decide) rfl (by decide) (by decide) rfl (by decide) hg hd hR hroom hstk hsum d hp kk
theorem n_belVl (B : CX Γ cc nL own R0) {y : MethodName} {index maxL : Nat} {bytes : ByteArray} {r : Int64} {rm : Room} (As : List Value) (hM : ML Γ.l Γ.D Γ.cs y bytes maxL rm (.ref (a 0 0) :: As) (wB Γ.cs a S) r (wB Γ.cs a S1)) (hg : GoodIn GW (wsV own index RX2 y (.code y bytes maxL (some .long) :: GW))) (hcc : y.cls = RX2) (hd : y.cls ≠ "java/lang/invoke/MethodHandle" ∧ y.cls ≠ "java/lang/invoke/VarHandle" ∧ (parseMethodDescriptor y.desc).map (fun d => d.parameters.length) = some As.length) (hR : rm.frames + 1 ≤ R0.frames ∧ 8 + (maxL + 11) + rm.locals ≤ R0.locals) (hroom : k + rm.cells ≤ R0.cells ∧ n + rm.slots ≤ R0.slots) (hstk : st0 = As.reverse ++ .ref (a 0 0) :: st) (hsum : (st.map fun v => v.category).sum ≤ 8) (d : decode cc pc = .ok (.invokevirtual index, 3)) (hp : pc + 3 = pc') (kk : X Γ nL (k + rm.cells) (n + rm.slots) pc' lv (.long r :: st) (wB Γ.cs a S1)) : X Γ nL k n pc lv st0 (wB Γ.cs a S) :=
  x_GVl (ws' := (wB Γ.cs a S1)) (wr := []) B As hM [0, 1, 2, 3, 4, 5, 6, 7, 8, 9, 10, 11, 12, 13, 14, 15, 16, 17, 18, 19, 20, 21, 22, 23, 24, 25, 26, 27, 28, 29, 30, 31, 32, 33, 34, 35, 36, 37, 38, 39, 40, 41, 42, 43, 44, 45, 46, 47, 48, 49, 50, 51, 52] [] [0, 1, 2, 3, 4, 5, 6, 7, 8, 9, 10, 11, 12, 13, 14, 15, 16, 17, 18, 19, 20, 21, 22, 23, 24, 25, 26, 27, 28, 29, 30, 31, 32, 33, 34, 35, 36, 37, 38, 39, 40, 41, 42, 43, 44, 45, 46, 47, 48, 49, 50, 51, 52] rfl (by decide) rfl (by decide) (by decide) rfl (by decide) rfl rfl hg hcc hd hR hroom hstk hsum d hp kk
theorem v_belVl (B : CX Γ cc nL own R0) {y : MethodName} {index maxL : Nat} {bytes : ByteArray} {r : Int64} {rm : Room} (As : List Value) (hM : ML Γ.l Γ.D Γ.cs y bytes maxL rm (.ref (a 0 0) :: As) (wB Γ.cs a T.1) r (wB Γ.cs a S1)) (hg : GoodIn GW (wsV own index RX2 y (.code y bytes maxL (some .long) :: GW))) (hcc : y.cls = RX2) (hd : y.cls ≠ "java/lang/invoke/MethodHandle" ∧ y.cls ≠ "java/lang/invoke/VarHandle" ∧ (parseMethodDescriptor y.desc).map (fun d => d.parameters.length) = some As.length) (hR : rm.frames + 1 ≤ R0.frames ∧ 8 + (maxL + 11) + rm.locals ≤ R0.locals) (hroom : k + rm.cells ≤ R0.cells ∧ n + rm.slots ≤ R0.slots) (hstk : st0 = As.reverse ++ .ref (a 0 0) :: st) (hsum : (st.map fun v => v.category).sum ≤ 8) (d : decode cc pc = .ok (.invokevirtual index, 3)) (hp : pc + 3 = pc') (kk : X Γ nL (k + rm.cells) (n + rm.slots) pc' lv (.long r :: st) (wV Γ.cs a b c (S1, T.2))) : X Γ nL k n pc lv st0 (wV Γ.cs a b c T) :=
  x_GVl (ws' := (wV Γ.cs a b c (S1, T.2))) (wr := [(b, .inl (Γ.cs.2.1, 10, .inr (.inl T.2.1))), (c, .inl (Γ.cs.1, 10, .inl T.2.2))]) B As hM [0, 1, 2, 3, 4, 5, 6, 7, 8, 9, 10, 11, 12, 13, 14, 15, 16, 17, 18, 19, 20, 21, 22, 23, 24, 25, 26, 27, 28, 29, 30, 31, 32, 33, 34, 35, 36, 37, 38, 39, 40, 41, 42, 43, 44, 45, 46, 47, 48, 49, 50, 51, 52] [53, 54] [2, 3, 4, 5, 6, 7, 8, 9, 10, 11, 12, 13, 14, 15, 16, 17, 18, 19, 20, 21, 22, 23, 24, 25, 26, 27, 28, 29, 30, 31, 32, 33, 34, 35, 36, 37, 38, 39, 40, 41, 42, 43, 44, 45, 46, 47, 48, 49, 50, 51, 52, 53, 54, 0, 1] rfl (by decide) rfl (by decide) (by decide) rfl (by decide) rfl rfl hg hcc hd hR hroom hstk hsum d hp kk
theorem n_belSl (B : CX Γ cc nL own R0) {y : MethodName} {index maxL : Nat} {bytes : ByteArray} {r : Int64} {rm : Room} (As : List Value) (hM : ML Γ.l Γ.D Γ.cs y bytes maxL rm As (wB Γ.cs a S) r (wB Γ.cs a S1)) (hg : GoodIn GW (va_wsS own index y (.code y bytes maxL (some .long) :: GW))) (hd : y.cls ≠ "java/lang/invoke/MethodHandle" ∧ y.cls ≠ "java/lang/invoke/VarHandle" ∧ (parseMethodDescriptor y.desc).map (fun d => d.parameters.length) = some As.length) (hR : rm.frames + 1 ≤ R0.frames ∧ 8 + (maxL + 11) + rm.locals ≤ R0.locals) (hroom : k + rm.cells ≤ R0.cells ∧ n + rm.slots ≤ R0.slots) (hstk : st0 = As.reverse ++ st) (hsum : (st.map fun v => v.category).sum ≤ 8) (d : decode cc pc = .ok (.invokestatic index, 3)) (hp : pc + 3 = pc') (kk : X Γ nL (k + rm.cells) (n + rm.slots) pc' lv (.long r :: st) (wB Γ.cs a S1)) : X Γ nL k n pc lv st0 (wB Γ.cs a S) :=
  x_GSl (ws' := (wB Γ.cs a S1)) (wr := []) B As hM [0, 1, 2, 3, 4, 5, 6, 7, 8, 9, 10, 11, 12, 13, 14, 15, 16, 17, 18, 19, 20, 21, 22, 23, 24, 25, 26, 27, 28, 29, 30, 31, 32, 33, 34, 35, 36, 37, 38, 39, 40, 41, 42, 43, 44, 45, 46, 47, 48, 49, 50, 51, 52] [] [0, 1, 2, 3, 4, 5, 6, 7, 8, 9, 10, 11, 12, 13, 14, 15, 16, 17, 18, 19, 20, 21, 22, 23, 24, 25, 26, 27, 28, 29, 30, 31, 32, 33, 34, 35, 36, 37, 38, 39, 40, 41, 42, 43, 44, 45, 46, 47, 48, 49, 50, 51, 52] rfl (by decide) rfl (by decide) (by decide) rfl (by decide) hg hd hR hroom hstk hsum d hp kk
theorem v_belSl (B : CX Γ cc nL own R0) {y : MethodName} {index maxL : Nat} {bytes : ByteArray} {r : Int64} {rm : Room} (As : List Value) (hM : ML Γ.l Γ.D Γ.cs y bytes maxL rm As (wB Γ.cs a T.1) r (wB Γ.cs a S1)) (hg : GoodIn GW (va_wsS own index y (.code y bytes maxL (some .long) :: GW))) (hd : y.cls ≠ "java/lang/invoke/MethodHandle" ∧ y.cls ≠ "java/lang/invoke/VarHandle" ∧ (parseMethodDescriptor y.desc).map (fun d => d.parameters.length) = some As.length) (hR : rm.frames + 1 ≤ R0.frames ∧ 8 + (maxL + 11) + rm.locals ≤ R0.locals) (hroom : k + rm.cells ≤ R0.cells ∧ n + rm.slots ≤ R0.slots) (hstk : st0 = As.reverse ++ st) (hsum : (st.map fun v => v.category).sum ≤ 8) (d : decode cc pc = .ok (.invokestatic index, 3)) (hp : pc + 3 = pc') (kk : X Γ nL (k + rm.cells) (n + rm.slots) pc' lv (.long r :: st) (wV Γ.cs a b c (S1, T.2))) : X Γ nL k n pc lv st0 (wV Γ.cs a b c T) :=
  x_GSl (ws' := (wV Γ.cs a b c (S1, T.2))) (wr := [(b, .inl (Γ.cs.2.1, 10, .inr (.inl T.2.1))), (c, .inl (Γ.cs.1, 10, .inl T.2.2))]) B As hM [0, 1, 2, 3, 4, 5, 6, 7, 8, 9, 10, 11, 12, 13, 14, 15, 16, 17, 18, 19, 20, 21, 22, 23, 24, 25, 26, 27, 28, 29, 30, 31, 32, 33, 34, 35, 36, 37, 38, 39, 40, 41, 42, 43, 44, 45, 46, 47, 48, 49, 50, 51, 52] [53, 54] [2, 3, 4, 5, 6, 7, 8, 9, 10, 11, 12, 13, 14, 15, 16, 17, 18, 19, 20, 21, 22, 23, 24, 25, 26, 27, 28, 29, 30, 31, 32, 33, 34, 35, 36, 37, 38, 39, 40, 41, 42, 43, 44, 45, 46, 47, 48, 49, 50, 51, 52, 53, 54, 0, 1] rfl (by decide) rfl (by decide) (by decide) rfl (by decide) hg hd hR hroom hstk hsum d hp kk
theorem n_belVd (B : CX Γ cc nL own R0) {y : MethodName} {index maxL : Nat} {bytes : ByteArray} {r : UInt64} {rm : Room} (As : List Value) (hM : MD Γ.l Γ.D Γ.cs y bytes maxL rm (.ref (a 0 0) :: As) (wB Γ.cs a S) r (wB Γ.cs a S1)) (hg : GoodIn GW (wsV own index RX2 y (.code y bytes maxL (some .double) :: GW))) (hcc : y.cls = RX2) (hd : y.cls ≠ "java/lang/invoke/MethodHandle" ∧ y.cls ≠ "java/lang/invoke/VarHandle" ∧ (parseMethodDescriptor y.desc).map (fun d => d.parameters.length) = some As.length) (hR : rm.frames + 1 ≤ R0.frames ∧ 8 + (maxL + 11) + rm.locals ≤ R0.locals) (hroom : k + rm.cells ≤ R0.cells ∧ n + rm.slots ≤ R0.slots) (hstk : st0 = As.reverse ++ .ref (a 0 0) :: st) (hsum : (st.map fun v => v.category).sum ≤ 8) (d : decode cc pc = .ok (.invokevirtual index, 3)) (hp : pc + 3 = pc') (kk : X Γ nL (k + rm.cells) (n + rm.slots) pc' lv (.double r :: st) (wB Γ.cs a S1)) : X Γ nL k n pc lv st0 (wB Γ.cs a S) :=
  x_GVd (ws' := (wB Γ.cs a S1)) (wr := []) B As hM [0, 1, 2, 3, 4, 5, 6, 7, 8, 9, 10, 11, 12, 13, 14, 15, 16, 17, 18, 19, 20, 21, 22, 23, 24, 25, 26, 27, 28, 29, 30, 31, 32, 33, 34, 35, 36, 37, 38, 39, 40, 41, 42, 43, 44, 45, 46, 47, 48, 49, 50, 51, 52] [] [0, 1, 2, 3, 4, 5, 6, 7, 8, 9, 10, 11, 12, 13, 14, 15, 16, 17, 18, 19, 20, 21, 22, 23, 24, 25, 26, 27, 28, 29, 30, 31, 32, 33, 34, 35, 36, 37, 38, 39, 40, 41, 42, 43, 44, 45, 46, 47, 48, 49, 50, 51, 52] rfl (by decide) rfl (by decide) (by decide) rfl (by decide) rfl rfl hg hcc hd hR hroom hstk hsum d hp kk
theorem v_belVd (B : CX Γ cc nL own R0) {y : MethodName} {index maxL : Nat} {bytes : ByteArray} {r : UInt64} {rm : Room} (As : List Value) (hM : MD Γ.l Γ.D Γ.cs y bytes maxL rm (.ref (a 0 0) :: As) (wB Γ.cs a T.1) r (wB Γ.cs a S1)) (hg : GoodIn GW (wsV own index RX2 y (.code y bytes maxL (some .double) :: GW))) (hcc : y.cls = RX2) (hd : y.cls ≠ "java/lang/invoke/MethodHandle" ∧ y.cls ≠ "java/lang/invoke/VarHandle" ∧ (parseMethodDescriptor y.desc).map (fun d => d.parameters.length) = some As.length) (hR : rm.frames + 1 ≤ R0.frames ∧ 8 + (maxL + 11) + rm.locals ≤ R0.locals) (hroom : k + rm.cells ≤ R0.cells ∧ n + rm.slots ≤ R0.slots) (hstk : st0 = As.reverse ++ .ref (a 0 0) :: st) (hsum : (st.map fun v => v.category).sum ≤ 8) (d : decode cc pc = .ok (.invokevirtual index, 3)) (hp : pc + 3 = pc') (kk : X Γ nL (k + rm.cells) (n + rm.slots) pc' lv (.double r :: st) (wV Γ.cs a b c (S1, T.2))) : X Γ nL k n pc lv st0 (wV Γ.cs a b c T) :=
  x_GVd (ws' := (wV Γ.cs a b c (S1, T.2))) (wr := [(b, .inl (Γ.cs.2.1, 10, .inr (.inl T.2.1))), (c, .inl (Γ.cs.1, 10, .inl T.2.2))]) B As hM [0, 1, 2, 3, 4, 5, 6, 7, 8, 9, 10, 11, 12, 13, 14, 15, 16, 17, 18, 19, 20, 21, 22, 23, 24, 25, 26, 27, 28, 29, 30, 31, 32, 33, 34, 35, 36, 37, 38, 39, 40, 41, 42, 43, 44, 45, 46, 47, 48, 49, 50, 51, 52] [53, 54] [2, 3, 4, 5, 6, 7, 8, 9, 10, 11, 12, 13, 14, 15, 16, 17, 18, 19, 20, 21, 22, 23, 24, 25, 26, 27, 28, 29, 30, 31, 32, 33, 34, 35, 36, 37, 38, 39, 40, 41, 42, 43, 44, 45, 46, 47, 48, 49, 50, 51, 52, 53, 54, 0, 1] rfl (by decide) rfl (by decide) (by decide) rfl (by decide) rfl rfl hg hcc hd hR hroom hstk hsum d hp kk
end LROW
theorem wk_RL_7 : Cond.constant RL 7 (1812433253) ∈ GW := List.mem_of_getElem? (i := 183) (by decide +kernel)
theorem wk_RL_8 : Cond.constant RL 8 (2147483647) ∈ GW := List.mem_of_getElem? (i := 272) (by decide +kernel)
end
section
theorem dL_cell_0 : decode cL_cell 0 = .ok (.iload_n 1, 1) := by decide +kernel
theorem dL_cell_1 : decode cL_cell 1 = .ok (.aload_n 0, 1) := by decide +kernel
theorem dL_cell_2 : decode cL_cell 2 = .ok (.arraylength, 1) := by decide +kernel
theorem dL_cell_3 : decode cL_cell 3 = .ok (.if_icmp .ge 9, 3) := by decide +kernel
theorem dL_cell_6 : decode cL_cell 6 = .ok (.aload_n 0, 1) := by decide +kernel
theorem dL_cell_7 : decode cL_cell 7 = .ok (.iload_n 1, 1) := by decide +kernel
theorem dL_cell_8 : decode cL_cell 8 = .ok (.iaload, 1) := by decide +kernel
theorem dL_cell_9 : decode cL_cell 9 = .ok (.goto 11, 3) := by decide +kernel
theorem dL_cell_12 : decode cL_cell 12 = .ok (.ldc 7, 2) := by decide +kernel
theorem dL_cell_14 : decode cL_cell 14 = .ok (.iload_n 1, 1) := by decide +kernel
theorem dL_cell_15 : decode cL_cell 15 = .ok (.sipush 337, 3) := by decide +kernel
theorem dL_cell_18 : decode cL_cell 18 = .ok (.iadd, 1) := by decide +kernel
theorem dL_cell_19 : decode cL_cell 19 = .ok (.imul, 1) := by decide +kernel
theorem dL_cell_20 : decode cL_cell 20 = .ok (.ireturn, 1) := by decide +kernel
theorem dL_up_0 : decode cL_up 0 = .ok (.iload_n 0, 1) := by decide +kernel
theorem dL_up_1 : decode cL_up 1 = .ok (.ldc 8, 2) := by decide +kernel
theorem dL_up_3 : decode cL_up 3 = .ok (.iand, 1) := by decide +kernel
theorem dL_up_4 : decode cL_up 4 = .ok (.iload_n 1, 1) := by decide +kernel
theorem dL_up_5 : decode cL_up 5 = .ok (.irem, 1) := by decide +kernel
theorem dL_up_6 : decode cL_up 6 = .ok (.ireturn, 1) := by decide +kernel
theorem dL_talk_0 : decode cL_talk 0 = .ok (.ldc2_w 9, 3) := by decide +kernel
theorem dL_talk_3 : decode cL_talk 3 = .ok (.aload_n 0, 1) := by decide +kernel
theorem dL_talk_4 : decode cL_talk 4 = .ok (.iload_n 1, 1) := by decide +kernel
theorem dL_talk_5 : decode cL_talk 5 = .ok (.invokevirtual 11, 3) := by decide +kernel
theorem dL_talk_8 : decode cL_talk 8 = .ok (.i2l, 1) := by decide +kernel
theorem dL_talk_9 : decode cL_talk 9 = .ok (.lmul, 1) := by decide +kernel
theorem dL_talk_10 : decode cL_talk 10 = .ok (.aload_n 0, 1) := by decide +kernel
theorem dL_talk_11 : decode cL_talk 11 = .ok (.iload_n 1, 1) := by decide +kernel
theorem dL_talk_12 : decode cL_talk 12 = .ok (.invokevirtual 17, 3) := by decide +kernel
theorem dL_talk_15 : decode cL_talk 15 = .ok (.i2l, 1) := by decide +kernel
theorem dL_talk_16 : decode cL_talk 16 = .ok (.ladd, 1) := by decide +kernel
theorem dL_talk_17 : decode cL_talk 17 = .ok (.lstore_n 2, 1) := by decide +kernel
theorem dL_talk_18 : decode cL_talk 18 = .ok (.iconst 0, 1) := by decide +kernel
theorem dL_talk_19 : decode cL_talk 19 = .ok (.istore 4, 2) := by decide +kernel
theorem dL_talk_21 : decode cL_talk 21 = .ok (.iload 4, 2) := by decide +kernel
theorem dL_talk_23 : decode cL_talk 23 = .ok (.aload_n 0, 1) := by decide +kernel
theorem dL_talk_24 : decode cL_talk 24 = .ok (.iload_n 1, 1) := by decide +kernel
theorem dL_talk_25 : decode cL_talk 25 = .ok (.invokevirtual 11, 3) := by decide +kernel
theorem dL_talk_28 : decode cL_talk 28 = .ok (.if_icmp .ge 50, 3) := by decide +kernel
theorem dL_talk_31 : decode cL_talk 31 = .ok (.ldc2_w 9, 3) := by decide +kernel
theorem dL_talk_34 : decode cL_talk 34 = .ok (.ldc2_w 9, 3) := by decide +kernel
theorem dL_talk_37 : decode cL_talk 37 = .ok (.ldc2_w 9, 3) := by decide +kernel
theorem dL_talk_40 : decode cL_talk 40 = .ok (.lload_n 2, 1) := by decide +kernel
theorem dL_talk_41 : decode cL_talk 41 = .ok (.lmul, 1) := by decide +kernel
theorem dL_talk_42 : decode cL_talk 42 = .ok (.aload_n 0, 1) := by decide +kernel
theorem dL_talk_43 : decode cL_talk 43 = .ok (.iload_n 1, 1) := by decide +kernel
theorem dL_talk_44 : decode cL_talk 44 = .ok (.iload 4, 2) := by decide +kernel
theorem dL_talk_46 : decode cL_talk 46 = .ok (.invokevirtual 20, 3) := by decide +kernel
theorem dL_talk_49 : decode cL_talk 49 = .ok (.i2l, 1) := by decide +kernel
theorem dL_talk_50 : decode cL_talk 50 = .ok (.ladd, 1) := by decide +kernel
theorem dL_talk_51 : decode cL_talk 51 = .ok (.lmul, 1) := by decide +kernel
theorem dL_talk_52 : decode cL_talk 52 = .ok (.aload_n 0, 1) := by decide +kernel
theorem dL_talk_53 : decode cL_talk 53 = .ok (.iload_n 1, 1) := by decide +kernel
theorem dL_talk_54 : decode cL_talk 54 = .ok (.iload 4, 2) := by decide +kernel
theorem dL_talk_56 : decode cL_talk 56 = .ok (.invokevirtual 24, 3) := by decide +kernel
theorem dL_talk_59 : decode cL_talk 59 = .ok (.i2l, 1) := by decide +kernel
theorem dL_talk_60 : decode cL_talk 60 = .ok (.ladd, 1) := by decide +kernel
theorem dL_talk_61 : decode cL_talk 61 = .ok (.lmul, 1) := by decide +kernel
theorem dL_talk_62 : decode cL_talk 62 = .ok (.aload_n 0, 1) := by decide +kernel
theorem dL_talk_63 : decode cL_talk 63 = .ok (.iload_n 1, 1) := by decide +kernel
theorem dL_talk_64 : decode cL_talk 64 = .ok (.iload 4, 2) := by decide +kernel
theorem dL_talk_66 : decode cL_talk 66 = .ok (.invokevirtual 27, 3) := by decide +kernel
theorem dL_talk_69 : decode cL_talk 69 = .ok (.i2l, 1) := by decide +kernel
theorem dL_talk_70 : decode cL_talk 70 = .ok (.ladd, 1) := by decide +kernel
theorem dL_talk_71 : decode cL_talk 71 = .ok (.lstore_n 2, 1) := by decide +kernel
theorem dL_talk_72 : decode cL_talk 72 = .ok (.iinc 4 1, 3) := by decide +kernel
theorem dL_talk_75 : decode cL_talk 75 = .ok (.goto (-54), 3) := by decide +kernel
theorem dL_talk_78 : decode cL_talk 78 = .ok (.lload_n 2, 1) := by decide +kernel
theorem dL_talk_79 : decode cL_talk 79 = .ok (.lreturn, 1) := by decide +kernel
theorem dL_isWritable_0 : decode cL_isWritable 0 = .ok (.aload_n 0, 1) := by decide +kernel
theorem dL_isWritable_1 : decode cL_isWritable 1 = .ok (.iload_n 1, 1) := by decide +kernel
theorem dL_isWritable_2 : decode cL_isWritable 2 = .ok (.invokevirtual 30, 3) := by decide +kernel
theorem dL_isWritable_5 : decode cL_isWritable 5 = .ok (.istore_n 2, 1) := by decide +kernel
theorem dL_isWritable_6 : decode cL_isWritable 6 = .ok (.iload_n 2, 1) := by decide +kernel
theorem dL_isWritable_7 : decode cL_isWritable 7 = .ok (.iconst (-1), 1) := by decide +kernel
theorem dL_isWritable_8 : decode cL_isWritable 8 = .ok (.if_icmp .eq 19, 3) := by decide +kernel
theorem dL_isWritable_11 : decode cL_isWritable 11 = .ok (.iload_n 2, 1) := by decide +kernel
theorem dL_isWritable_12 : decode cL_isWritable 12 = .ok (.aload_n 0, 1) := by decide +kernel
theorem dL_isWritable_13 : decode cL_isWritable 13 = .ok (.invokevirtual 33, 3) := by decide +kernel
theorem dL_isWritable_16 : decode cL_isWritable 16 = .ok (.if_icmp .eq 15, 3) := by decide +kernel
theorem dL_isWritable_19 : decode cL_isWritable 19 = .ok (.aload_n 0, 1) := by decide +kernel
theorem dL_isWritable_20 : decode cL_isWritable 20 = .ok (.iload_n 2, 1) := by decide +kernel
theorem dL_isWritable_21 : decode cL_isWritable 21 = .ok (.invokevirtual 37, 3) := by decide +kernel
theorem dL_isWritable_24 : decode cL_isWritable 24 = .ok (.ifCond .ne 7, 3) := by decide +kernel
theorem dL_isWritable_27 : decode cL_isWritable 27 = .ok (.iconst 1, 1) := by decide +kernel
theorem dL_isWritable_28 : decode cL_isWritable 28 = .ok (.goto 4, 3) := by decide +kernel
theorem dL_isWritable_31 : decode cL_isWritable 31 = .ok (.iconst 0, 1) := by decide +kernel
theorem dL_isWritable_32 : decode cL_isWritable 32 = .ok (.ireturn, 1) := by decide +kernel
theorem dL_speaks_0 : decode cL_speaks 0 = .ok (.aload_n 0, 1) := by decide +kernel
theorem dL_speaks_1 : decode cL_speaks 1 = .ok (.invokevirtual 33, 3) := by decide +kernel
theorem dL_speaks_4 : decode cL_speaks 4 = .ok (.iconst (-1), 1) := by decide +kernel
theorem dL_speaks_5 : decode cL_speaks 5 = .ok (.if_icmp .eq 10, 3) := by decide +kernel
theorem dL_speaks_8 : decode cL_speaks 8 = .ok (.aload_n 0, 1) := by decide +kernel
theorem dL_speaks_9 : decode cL_speaks 9 = .ok (.invokevirtual 41, 3) := by decide +kernel
theorem dL_speaks_12 : decode cL_speaks 12 = .ok (.ifCond .ne 27, 3) := by decide +kernel
theorem dL_speaks_15 : decode cL_speaks 15 = .ok (.aload_n 0, 1) := by decide +kernel
theorem dL_speaks_16 : decode cL_speaks 16 = .ok (.iconst 0, 1) := by decide +kernel
theorem dL_speaks_17 : decode cL_speaks 17 = .ok (.aload_n 0, 1) := by decide +kernel
theorem dL_speaks_18 : decode cL_speaks 18 = .ok (.iconst 0, 1) := by decide +kernel
theorem dL_speaks_19 : decode cL_speaks 19 = .ok (.invokevirtual 37, 3) := by decide +kernel
theorem dL_speaks_22 : decode cL_speaks 22 = .ok (.invokevirtual 44, 3) := by decide +kernel
theorem dL_speaks_25 : decode cL_speaks 25 = .ok (.aload_n 0, 1) := by decide +kernel
theorem dL_speaks_26 : decode cL_speaks 26 = .ok (.iconst 0, 1) := by decide +kernel
theorem dL_speaks_27 : decode cL_speaks 27 = .ok (.invokevirtual 37, 3) := by decide +kernel
theorem dL_speaks_30 : decode cL_speaks 30 = .ok (.if_icmp .ne 7, 3) := by decide +kernel
theorem dL_speaks_33 : decode cL_speaks 33 = .ok (.iconst 1, 1) := by decide +kernel
theorem dL_speaks_34 : decode cL_speaks 34 = .ok (.goto 4, 3) := by decide +kernel
theorem dL_speaks_37 : decode cL_speaks 37 = .ok (.iconst 0, 1) := by decide +kernel
theorem dL_speaks_38 : decode cL_speaks 38 = .ok (.ireturn, 1) := by decide +kernel
theorem dL_speaks_39 : decode cL_speaks 39 = .ok (.aload_n 0, 1) := by decide +kernel
theorem dL_speaks_40 : decode cL_speaks 40 = .ok (.invokevirtual 48, 3) := by decide +kernel
theorem dL_speaks_43 : decode cL_speaks 43 = .ok (.istore_n 2, 1) := by decide +kernel
theorem dL_speaks_44 : decode cL_speaks 44 = .ok (.aload_n 0, 1) := by decide +kernel
theorem dL_speaks_45 : decode cL_speaks 45 = .ok (.iload_n 2, 1) := by decide +kernel
theorem dL_speaks_46 : decode cL_speaks 46 = .ok (.invokestatic 51, 3) := by decide +kernel
theorem dL_speaks_49 : decode cL_speaks 49 = .ok (.ifCond .ne 13, 3) := by decide +kernel
theorem dL_speaks_52 : decode cL_speaks 52 = .ok (.iload_n 2, 1) := by decide +kernel
theorem dL_speaks_53 : decode cL_speaks 53 = .ok (.iconst 1, 1) := by decide +kernel
theorem dL_speaks_54 : decode cL_speaks 54 = .ok (.iadd, 1) := by decide +kernel
theorem dL_speaks_55 : decode cL_speaks 55 = .ok (.bipush 32, 2) := by decide +kernel
theorem dL_speaks_57 : decode cL_speaks 57 = .ok (.irem, 1) := by decide +kernel
theorem dL_speaks_58 : decode cL_speaks 58 = .ok (.istore_n 2, 1) := by decide +kernel
theorem dL_speaks_59 : decode cL_speaks 59 = .ok (.goto (-15), 3) := by decide +kernel
theorem dL_speaks_62 : decode cL_speaks 62 = .ok (.aload_n 0, 1) := by decide +kernel
theorem dL_speaks_63 : decode cL_speaks 63 = .ok (.iload_n 2, 1) := by decide +kernel
theorem dL_speaks_64 : decode cL_speaks 64 = .ok (.invokevirtual 30, 3) := by decide +kernel
theorem dL_speaks_67 : decode cL_speaks 67 = .ok (.istore_n 3, 1) := by decide +kernel
theorem dL_speaks_68 : decode cL_speaks 68 = .ok (.aload_n 0, 1) := by decide +kernel
theorem dL_speaks_69 : decode cL_speaks 69 = .ok (.invokevirtual 57, 3) := by decide +kernel
theorem dL_speaks_72 : decode cL_speaks 72 = .ok (.istore 4, 2) := by decide +kernel
theorem dL_speaks_74 : decode cL_speaks 74 = .ok (.aload_n 0, 1) := by decide +kernel
theorem dL_speaks_75 : decode cL_speaks 75 = .ok (.invokevirtual 60, 3) := by decide +kernel
theorem dL_speaks_78 : decode cL_speaks 78 = .ok (.istore 5, 2) := by decide +kernel
theorem dL_speaks_80 : decode cL_speaks 80 = .ok (.aload_n 0, 1) := by decide +kernel
theorem dL_speaks_81 : decode cL_speaks 81 = .ok (.invokevirtual 63, 3) := by decide +kernel
theorem dL_speaks_84 : decode cL_speaks 84 = .ok (.istore 6, 2) := by decide +kernel
theorem dL_speaks_86 : decode cL_speaks 86 = .ok (.aload_n 0, 1) := by decide +kernel
theorem dL_speaks_87 : decode cL_speaks 87 = .ok (.invokevirtual 33, 3) := by decide +kernel
theorem dL_speaks_90 : decode cL_speaks 90 = .ok (.istore 7, 2) := by decide +kernel
theorem dL_speaks_92 : decode cL_speaks 92 = .ok (.aload_n 0, 1) := by decide +kernel
theorem dL_speaks_93 : decode cL_speaks 93 = .ok (.iload 7, 2) := by decide +kernel
theorem dL_speaks_95 : decode cL_speaks 95 = .ok (.invokevirtual 11, 3) := by decide +kernel
theorem dL_speaks_98 : decode cL_speaks 98 = .ok (.istore 8, 2) := by decide +kernel
theorem dL_speaks_100 : decode cL_speaks 100 = .ok (.aload_n 0, 1) := by decide +kernel
theorem dL_speaks_101 : decode cL_speaks 101 = .ok (.iconst 1, 1) := by decide +kernel
theorem dL_speaks_102 : decode cL_speaks 102 = .ok (.invokevirtual 66, 3) := by decide +kernel
theorem dL_speaks_105 : decode cL_speaks 105 = .ok (.istore 9, 2) := by decide +kernel
theorem dL_speaks_107 : decode cL_speaks 107 = .ok (.iload_n 3, 1) := by decide +kernel
theorem dL_speaks_108 : decode cL_speaks 108 = .ok (.ifCond .ge 7, 3) := by decide +kernel
theorem dL_speaks_111 : decode cL_speaks 111 = .ok (.iconst 0, 1) := by decide +kernel
theorem dL_speaks_112 : decode cL_speaks 112 = .ok (.goto 9, 3) := by decide +kernel
theorem dL_speaks_115 : decode cL_speaks 115 = .ok (.aload_n 0, 1) := by decide +kernel
theorem dL_speaks_116 : decode cL_speaks 116 = .ok (.iload_n 3, 1) := by decide +kernel
theorem dL_speaks_117 : decode cL_speaks 117 = .ok (.iconst 1, 1) := by decide +kernel
theorem dL_speaks_118 : decode cL_speaks 118 = .ok (.invokevirtual 69, 3) := by decide +kernel
theorem dL_speaks_121 : decode cL_speaks 121 = .ok (.istore 10, 2) := by decide +kernel
theorem dL_speaks_123 : decode cL_speaks 123 = .ok (.bipush 10, 2) := by decide +kernel
theorem dL_speaks_125 : decode cL_speaks 125 = .ok (.newarray .long, 2) := by decide +kernel
theorem dL_speaks_127 : decode cL_speaks 127 = .ok (.astore 11, 2) := by decide +kernel
theorem dL_speaks_129 : decode cL_speaks 129 = .ok (.bipush 10, 2) := by decide +kernel
theorem dL_speaks_131 : decode cL_speaks 131 = .ok (.newarray .int, 2) := by decide +kernel
theorem dL_speaks_133 : decode cL_speaks 133 = .ok (.astore 12, 2) := by decide +kernel
theorem dL_speaks_135 : decode cL_speaks 135 = .ok (.iconst 0, 1) := by decide +kernel
theorem dL_speaks_136 : decode cL_speaks 136 = .ok (.istore 13, 2) := by decide +kernel
theorem dL_speaks_138 : decode cL_speaks 138 = .ok (.iload 13, 2) := by decide +kernel
theorem dL_speaks_140 : decode cL_speaks 140 = .ok (.iload 6, 2) := by decide +kernel
theorem dL_speaks_142 : decode cL_speaks 142 = .ok (.if_icmp .ge 39, 3) := by decide +kernel
theorem dL_speaks_145 : decode cL_speaks 145 = .ok (.aload 11, 2) := by decide +kernel
theorem dL_speaks_147 : decode cL_speaks 147 = .ok (.iload 13, 2) := by decide +kernel
theorem dL_speaks_149 : decode cL_speaks 149 = .ok (.aload_n 0, 1) := by decide +kernel
theorem dL_speaks_150 : decode cL_speaks 150 = .ok (.iload 13, 2) := by decide +kernel
theorem dL_speaks_152 : decode cL_speaks 152 = .ok (.invokestatic 72, 3) := by decide +kernel
theorem dL_speaks_155 : decode cL_speaks 155 = .ok (.lastore, 1) := by decide +kernel
theorem dL_speaks_156 : decode cL_speaks 156 = .ok (.aload 12, 2) := by decide +kernel
theorem dL_speaks_158 : decode cL_speaks 158 = .ok (.iload 13, 2) := by decide +kernel
theorem dL_speaks_160 : decode cL_speaks 160 = .ok (.aload_n 0, 1) := by decide +kernel
theorem dL_speaks_161 : decode cL_speaks 161 = .ok (.iload 13, 2) := by decide +kernel
theorem dL_speaks_163 : decode cL_speaks 163 = .ok (.invokevirtual 37, 3) := by decide +kernel
theorem dL_speaks_166 : decode cL_speaks 166 = .ok (.ifCond .eq 7, 3) := by decide +kernel
theorem dL_speaks_169 : decode cL_speaks 169 = .ok (.iconst 1, 1) := by decide +kernel
theorem dL_speaks_170 : decode cL_speaks 170 = .ok (.goto 4, 3) := by decide +kernel
theorem dL_speaks_173 : decode cL_speaks 173 = .ok (.iconst 0, 1) := by decide +kernel
theorem dL_speaks_174 : decode cL_speaks 174 = .ok (.iastore, 1) := by decide +kernel
theorem dL_speaks_175 : decode cL_speaks 175 = .ok (.iinc 13 1, 3) := by decide +kernel
theorem dL_speaks_178 : decode cL_speaks 178 = .ok (.goto (-40), 3) := by decide +kernel
theorem dL_speaks_181 : decode cL_speaks 181 = .ok (.iload_n 3, 1) := by decide +kernel
theorem dL_speaks_182 : decode cL_speaks 182 = .ok (.ifCond .lt 16, 3) := by decide +kernel
theorem dL_speaks_185 : decode cL_speaks 185 = .ok (.aload_n 0, 1) := by decide +kernel
theorem dL_speaks_186 : decode cL_speaks 186 = .ok (.iload_n 3, 1) := by decide +kernel
theorem dL_speaks_187 : decode cL_speaks 187 = .ok (.invokevirtual 11, 3) := by decide +kernel
theorem dL_speaks_190 : decode cL_speaks 190 = .ok (.iconst 1, 1) := by decide +kernel
theorem dL_speaks_191 : decode cL_speaks 191 = .ok (.if_icmp .ne 7, 3) := by decide +kernel
theorem dL_speaks_194 : decode cL_speaks 194 = .ok (.iconst 1, 1) := by decide +kernel
theorem dL_speaks_195 : decode cL_speaks 195 = .ok (.goto 4, 3) := by decide +kernel
theorem dL_speaks_198 : decode cL_speaks 198 = .ok (.iconst 0, 1) := by decide +kernel
theorem dL_speaks_199 : decode cL_speaks 199 = .ok (.istore 13, 2) := by decide +kernel
theorem dL_speaks_201 : decode cL_speaks 201 = .ok (.aload_n 0, 1) := by decide +kernel
theorem dL_speaks_202 : decode cL_speaks 202 = .ok (.iload_n 1, 1) := by decide +kernel
theorem dL_speaks_203 : decode cL_speaks 203 = .ok (.invokevirtual 76, 3) := by decide +kernel
theorem dL_speaks_206 : decode cL_speaks 206 = .ok (.iload_n 2, 1) := by decide +kernel
theorem dL_speaks_207 : decode cL_speaks 207 = .ok (.if_icmp .ne 96, 3) := by decide +kernel
theorem dL_speaks_210 : decode cL_speaks 210 = .ok (.aload_n 0, 1) := by decide +kernel
theorem dL_speaks_211 : decode cL_speaks 211 = .ok (.invokevirtual 48, 3) := by decide +kernel
theorem dL_speaks_214 : decode cL_speaks 214 = .ok (.iload_n 2, 1) := by decide +kernel
theorem dL_speaks_215 : decode cL_speaks 215 = .ok (.iconst 1, 1) := by decide +kernel
theorem dL_speaks_216 : decode cL_speaks 216 = .ok (.iadd, 1) := by decide +kernel
theorem dL_speaks_217 : decode cL_speaks 217 = .ok (.bipush 32, 2) := by decide +kernel
theorem dL_speaks_219 : decode cL_speaks 219 = .ok (.irem, 1) := by decide +kernel
theorem dL_speaks_220 : decode cL_speaks 220 = .ok (.if_icmp .ne 83, 3) := by decide +kernel
theorem dL_speaks_223 : decode cL_speaks 223 = .ok (.aload_n 0, 1) := by decide +kernel
theorem dL_speaks_224 : decode cL_speaks 224 = .ok (.invokevirtual 60, 3) := by decide +kernel
theorem dL_speaks_227 : decode cL_speaks 227 = .ok (.iload 5, 2) := by decide +kernel
theorem dL_speaks_229 : decode cL_speaks 229 = .ok (.iconst 1, 1) := by decide +kernel
theorem dL_speaks_230 : decode cL_speaks 230 = .ok (.iadd, 1) := by decide +kernel
theorem dL_speaks_231 : decode cL_speaks 231 = .ok (.if_icmp .ne 72, 3) := by decide +kernel
theorem dL_speaks_234 : decode cL_speaks 234 = .ok (.aload_n 0, 1) := by decide +kernel
theorem dL_speaks_235 : decode cL_speaks 235 = .ok (.invokevirtual 57, 3) := by decide +kernel
theorem dL_speaks_238 : decode cL_speaks 238 = .ok (.iload 4, 2) := by decide +kernel
theorem dL_speaks_240 : decode cL_speaks 240 = .ok (.iload 9, 2) := by decide +kernel
theorem dL_speaks_242 : decode cL_speaks 242 = .ok (.iadd, 1) := by decide +kernel
theorem dL_speaks_243 : decode cL_speaks 243 = .ok (.if_icmp .ne 60, 3) := by decide +kernel
theorem dL_speaks_246 : decode cL_speaks 246 = .ok (.iload 9, 2) := by decide +kernel
theorem dL_speaks_248 : decode cL_speaks 248 = .ok (.iload 13, 2) := by decide +kernel
theorem dL_speaks_250 : decode cL_speaks 250 = .ok (.ifCond .eq 7, 3) := by decide +kernel
theorem dL_speaks_253 : decode cL_speaks 253 = .ok (.iconst 1, 1) := by decide +kernel
theorem dL_speaks_254 : decode cL_speaks 254 = .ok (.goto 4, 3) := by decide +kernel
theorem dL_speaks_257 : decode cL_speaks 257 = .ok (.iconst 0, 1) := by decide +kernel
theorem dL_speaks_258 : decode cL_speaks 258 = .ok (.if_icmp .ne 45, 3) := by decide +kernel
theorem dL_speaks_261 : decode cL_speaks 261 = .ok (.iload 10, 2) := by decide +kernel
theorem dL_speaks_263 : decode cL_speaks 263 = .ok (.iload_n 3, 1) := by decide +kernel
theorem dL_speaks_264 : decode cL_speaks 264 = .ok (.ifCond .ge 7, 3) := by decide +kernel
theorem dL_speaks_267 : decode cL_speaks 267 = .ok (.iconst 0, 1) := by decide +kernel
theorem dL_speaks_268 : decode cL_speaks 268 = .ok (.goto 4, 3) := by decide +kernel
theorem dL_speaks_271 : decode cL_speaks 271 = .ok (.iconst 1, 1) := by decide +kernel
theorem dL_speaks_272 : decode cL_speaks 272 = .ok (.if_icmp .ne 31, 3) := by decide +kernel
theorem dL_speaks_275 : decode cL_speaks 275 = .ok (.aload_n 0, 1) := by decide +kernel
theorem dL_speaks_276 : decode cL_speaks 276 = .ok (.invokevirtual 63, 3) := by decide +kernel
theorem dL_speaks_279 : decode cL_speaks 279 = .ok (.iload 6, 2) := by decide +kernel
theorem dL_speaks_281 : decode cL_speaks 281 = .ok (.iload 9, 2) := by decide +kernel
theorem dL_speaks_283 : decode cL_speaks 283 = .ok (.isub, 1) := by decide +kernel
theorem dL_speaks_284 : decode cL_speaks 284 = .ok (.if_icmp .ne 19, 3) := by decide +kernel
theorem dL_speaks_287 : decode cL_speaks 287 = .ok (.aload_n 0, 1) := by decide +kernel
theorem dL_speaks_288 : decode cL_speaks 288 = .ok (.iload_n 2, 1) := by decide +kernel
theorem dL_speaks_289 : decode cL_speaks 289 = .ok (.invokevirtual 30, 3) := by decide +kernel
theorem dL_speaks_292 : decode cL_speaks 292 = .ok (.aload_n 0, 1) := by decide +kernel
theorem dL_speaks_293 : decode cL_speaks 293 = .ok (.invokevirtual 33, 3) := by decide +kernel
theorem dL_speaks_296 : decode cL_speaks 296 = .ok (.if_icmp .ne 7, 3) := by decide +kernel
theorem dL_speaks_299 : decode cL_speaks 299 = .ok (.iconst 1, 1) := by decide +kernel
theorem dL_speaks_300 : decode cL_speaks 300 = .ok (.goto 4, 3) := by decide +kernel
theorem dL_speaks_303 : decode cL_speaks 303 = .ok (.iconst 0, 1) := by decide +kernel
theorem dL_speaks_304 : decode cL_speaks 304 = .ok (.istore 14, 2) := by decide +kernel
theorem dL_speaks_306 : decode cL_speaks 306 = .ok (.iconst 0, 1) := by decide +kernel
theorem dL_speaks_307 : decode cL_speaks 307 = .ok (.istore 15, 2) := by decide +kernel
theorem dL_speaks_309 : decode cL_speaks 309 = .ok (.iload 15, 2) := by decide +kernel
theorem dL_speaks_311 : decode cL_speaks 311 = .ok (.iload 6, 2) := by decide +kernel
theorem dL_speaks_313 : decode cL_speaks 313 = .ok (.if_icmp .ge 94, 3) := by decide +kernel
theorem dL_speaks_316 : decode cL_speaks 316 = .ok (.iload 13, 2) := by decide +kernel
theorem dL_speaks_318 : decode cL_speaks 318 = .ok (.ifCond .eq 16, 3) := by decide +kernel
theorem dL_speaks_321 : decode cL_speaks 321 = .ok (.iload 15, 2) := by decide +kernel
theorem dL_speaks_323 : decode cL_speaks 323 = .ok (.iload_n 3, 1) := by decide +kernel
theorem dL_speaks_324 : decode cL_speaks 324 = .ok (.if_icmp .le 10, 3) := by decide +kernel
theorem dL_speaks_327 : decode cL_speaks 327 = .ok (.iload 15, 2) := by decide +kernel
theorem dL_speaks_329 : decode cL_speaks 329 = .ok (.iconst 1, 1) := by decide +kernel
theorem dL_speaks_330 : decode cL_speaks 330 = .ok (.isub, 1) := by decide +kernel
theorem dL_speaks_331 : decode cL_speaks 331 = .ok (.goto 5, 3) := by decide +kernel
theorem dL_speaks_334 : decode cL_speaks 334 = .ok (.iload 15, 2) := by decide +kernel
theorem dL_speaks_336 : decode cL_speaks 336 = .ok (.istore 16, 2) := by decide +kernel
theorem dL_speaks_338 : decode cL_speaks 338 = .ok (.iload 14, 2) := by decide +kernel
theorem dL_speaks_340 : decode cL_speaks 340 = .ok (.ifCond .eq 58, 3) := by decide +kernel
theorem dL_speaks_343 : decode cL_speaks 343 = .ok (.iload 15, 2) := by decide +kernel
theorem dL_speaks_345 : decode cL_speaks 345 = .ok (.iload 7, 2) := by decide +kernel
theorem dL_speaks_347 : decode cL_speaks 347 = .ok (.if_icmp .eq 47, 3) := by decide +kernel
theorem dL_speaks_350 : decode cL_speaks 350 = .ok (.iload 15, 2) := by decide +kernel
theorem dL_speaks_352 : decode cL_speaks 352 = .ok (.iload_n 3, 1) := by decide +kernel
theorem dL_speaks_353 : decode cL_speaks 353 = .ok (.if_icmp .eq 41, 3) := by decide +kernel
theorem dL_speaks_356 : decode cL_speaks 356 = .ok (.aload_n 0, 1) := by decide +kernel
theorem dL_speaks_357 : decode cL_speaks 357 = .ok (.iload 16, 2) := by decide +kernel
theorem dL_speaks_359 : decode cL_speaks 359 = .ok (.invokestatic 72, 3) := by decide +kernel
theorem dL_speaks_362 : decode cL_speaks 362 = .ok (.aload 11, 2) := by decide +kernel
theorem dL_speaks_364 : decode cL_speaks 364 = .ok (.iload 15, 2) := by decide +kernel
theorem dL_speaks_366 : decode cL_speaks 366 = .ok (.laload, 1) := by decide +kernel
theorem dL_speaks_367 : decode cL_speaks 367 = .ok (.lcmp, 1) := by decide +kernel
theorem dL_speaks_368 : decode cL_speaks 368 = .ok (.ifCond .ne 30, 3) := by decide +kernel
theorem dL_speaks_371 : decode cL_speaks 371 = .ok (.aload_n 0, 1) := by decide +kernel
theorem dL_speaks_372 : decode cL_speaks 372 = .ok (.iload 16, 2) := by decide +kernel
theorem dL_speaks_374 : decode cL_speaks 374 = .ok (.invokevirtual 37, 3) := by decide +kernel
theorem dL_speaks_377 : decode cL_speaks 377 = .ok (.aload 12, 2) := by decide +kernel
theorem dL_speaks_379 : decode cL_speaks 379 = .ok (.iload 15, 2) := by decide +kernel
theorem dL_speaks_381 : decode cL_speaks 381 = .ok (.iaload, 1) := by decide +kernel
theorem dL_speaks_382 : decode cL_speaks 382 = .ok (.iconst 1, 1) := by decide +kernel
theorem dL_speaks_383 : decode cL_speaks 383 = .ok (.if_icmp .ne 7, 3) := by decide +kernel
theorem dL_speaks_386 : decode cL_speaks 386 = .ok (.iconst 1, 1) := by decide +kernel
theorem dL_speaks_387 : decode cL_speaks 387 = .ok (.goto 4, 3) := by decide +kernel
theorem dL_speaks_390 : decode cL_speaks 390 = .ok (.iconst 0, 1) := by decide +kernel
theorem dL_speaks_391 : decode cL_speaks 391 = .ok (.if_icmp .ne 7, 3) := by decide +kernel
theorem dL_speaks_394 : decode cL_speaks 394 = .ok (.iconst 1, 1) := by decide +kernel
theorem dL_speaks_395 : decode cL_speaks 395 = .ok (.goto 4, 3) := by decide +kernel
theorem dL_speaks_398 : decode cL_speaks 398 = .ok (.iconst 0, 1) := by decide +kernel
theorem dL_speaks_399 : decode cL_speaks 399 = .ok (.istore 14, 2) := by decide +kernel
theorem dL_speaks_401 : decode cL_speaks 401 = .ok (.iinc 15 1, 3) := by decide +kernel
theorem dL_speaks_404 : decode cL_speaks 404 = .ok (.goto (-95), 3) := by decide +kernel
theorem dL_speaks_407 : decode cL_speaks 407 = .ok (.aload_n 0, 1) := by decide +kernel
theorem dL_speaks_408 : decode cL_speaks 408 = .ok (.invokevirtual 33, 3) := by decide +kernel
theorem dL_speaks_411 : decode cL_speaks 411 = .ok (.istore 15, 2) := by decide +kernel
theorem dL_speaks_413 : decode cL_speaks 413 = .ok (.iload 14, 2) := by decide +kernel
theorem dL_speaks_415 : decode cL_speaks 415 = .ok (.ifCond .eq 56, 3) := by decide +kernel
theorem dL_speaks_418 : decode cL_speaks 418 = .ok (.aload_n 0, 1) := by decide +kernel
theorem dL_speaks_419 : decode cL_speaks 419 = .ok (.iload 15, 2) := by decide +kernel
theorem dL_speaks_421 : decode cL_speaks 421 = .ok (.invokevirtual 11, 3) := by decide +kernel
theorem dL_speaks_424 : decode cL_speaks 424 = .ok (.iload 8, 2) := by decide +kernel
theorem dL_speaks_426 : decode cL_speaks 426 = .ok (.iconst 1, 1) := by decide +kernel
theorem dL_speaks_427 : decode cL_speaks 427 = .ok (.iadd, 1) := by decide +kernel
theorem dL_speaks_428 : decode cL_speaks 428 = .ok (.if_icmp .ne 43, 3) := by decide +kernel
theorem dL_speaks_431 : decode cL_speaks 431 = .ok (.aload_n 0, 1) := by decide +kernel
theorem dL_speaks_432 : decode cL_speaks 432 = .ok (.iload 15, 2) := by decide +kernel
theorem dL_speaks_434 : decode cL_speaks 434 = .ok (.iload 8, 2) := by decide +kernel
theorem dL_speaks_436 : decode cL_speaks 436 = .ok (.invokevirtual 24, 3) := by decide +kernel
theorem dL_speaks_439 : decode cL_speaks 439 = .ok (.iload_n 1, 1) := by decide +kernel
theorem dL_speaks_440 : decode cL_speaks 440 = .ok (.if_icmp .ne 31, 3) := by decide +kernel
theorem dL_speaks_443 : decode cL_speaks 443 = .ok (.aload_n 0, 1) := by decide +kernel
theorem dL_speaks_444 : decode cL_speaks 444 = .ok (.iload 15, 2) := by decide +kernel
theorem dL_speaks_446 : decode cL_speaks 446 = .ok (.iload 8, 2) := by decide +kernel
theorem dL_speaks_448 : decode cL_speaks 448 = .ok (.invokevirtual 27, 3) := by decide +kernel
theorem dL_speaks_451 : decode cL_speaks 451 = .ok (.iload_n 1, 1) := by decide +kernel
theorem dL_speaks_452 : decode cL_speaks 452 = .ok (.if_icmp .ne 19, 3) := by decide +kernel
theorem dL_speaks_455 : decode cL_speaks 455 = .ok (.aload_n 0, 1) := by decide +kernel
theorem dL_speaks_456 : decode cL_speaks 456 = .ok (.iload 15, 2) := by decide +kernel
theorem dL_speaks_458 : decode cL_speaks 458 = .ok (.iload 8, 2) := by decide +kernel
theorem dL_speaks_460 : decode cL_speaks 460 = .ok (.invokevirtual 20, 3) := by decide +kernel
theorem dL_speaks_463 : decode cL_speaks 463 = .ok (.iload_n 2, 1) := by decide +kernel
theorem dL_speaks_464 : decode cL_speaks 464 = .ok (.if_icmp .ne 7, 3) := by decide +kernel
theorem dL_speaks_467 : decode cL_speaks 467 = .ok (.iconst 1, 1) := by decide +kernel
theorem dL_speaks_468 : decode cL_speaks 468 = .ok (.goto 4, 3) := by decide +kernel
theorem dL_speaks_471 : decode cL_speaks 471 = .ok (.iconst 0, 1) := by decide +kernel
theorem dL_speaks_472 : decode cL_speaks 472 = .ok (.ireturn, 1) := by decide +kernel
theorem dL_acts_0 : decode cL_acts 0 = .ok (.aload_n 0, 1) := by decide +kernel
theorem dL_acts_1 : decode cL_acts 1 = .ok (.invokevirtual 63, 3) := by decide +kernel
theorem dL_acts_4 : decode cL_acts 4 = .ok (.istore_n 3, 1) := by decide +kernel
theorem dL_acts_5 : decode cL_acts 5 = .ok (.aload_n 0, 1) := by decide +kernel
theorem dL_acts_6 : decode cL_acts 6 = .ok (.invokevirtual 33, 3) := by decide +kernel
theorem dL_acts_9 : decode cL_acts 9 = .ok (.istore 4, 2) := by decide +kernel
theorem dL_acts_11 : decode cL_acts 11 = .ok (.iload 4, 2) := by decide +kernel
theorem dL_acts_13 : decode cL_acts 13 = .ok (.ifCond .lt 16, 3) := by decide +kernel
theorem dL_acts_16 : decode cL_acts 16 = .ok (.aload_n 0, 1) := by decide +kernel
theorem dL_acts_17 : decode cL_acts 17 = .ok (.iload 4, 2) := by decide +kernel
theorem dL_acts_19 : decode cL_acts 19 = .ok (.invokevirtual 11, 3) := by decide +kernel
theorem dL_acts_22 : decode cL_acts 22 = .ok (.ifCond .ne 7, 3) := by decide +kernel
theorem dL_acts_25 : decode cL_acts 25 = .ok (.iconst 1, 1) := by decide +kernel
theorem dL_acts_26 : decode cL_acts 26 = .ok (.goto 4, 3) := by decide +kernel
theorem dL_acts_29 : decode cL_acts 29 = .ok (.iconst 0, 1) := by decide +kernel
theorem dL_acts_30 : decode cL_acts 30 = .ok (.istore 5, 2) := by decide +kernel
theorem dL_acts_32 : decode cL_acts 32 = .ok (.iload_n 3, 1) := by decide +kernel
theorem dL_acts_33 : decode cL_acts 33 = .ok (.ifCond .ne 47, 3) := by decide +kernel
theorem dL_acts_36 : decode cL_acts 36 = .ok (.aload_n 0, 1) := by decide +kernel
theorem dL_acts_37 : decode cL_acts 37 = .ok (.invokevirtual 79, 3) := by decide +kernel
theorem dL_acts_40 : decode cL_acts 40 = .ok (.ifCond .ne 38, 3) := by decide +kernel
theorem dL_acts_43 : decode cL_acts 43 = .ok (.aload_n 0, 1) := by decide +kernel
theorem dL_acts_44 : decode cL_acts 44 = .ok (.invokevirtual 33, 3) := by decide +kernel
theorem dL_acts_47 : decode cL_acts 47 = .ok (.ifCond .ne 31, 3) := by decide +kernel
theorem dL_acts_50 : decode cL_acts 50 = .ok (.aload_n 0, 1) := by decide +kernel
theorem dL_acts_51 : decode cL_acts 51 = .ok (.invokevirtual 63, 3) := by decide +kernel
theorem dL_acts_54 : decode cL_acts 54 = .ok (.iconst 1, 1) := by decide +kernel
theorem dL_acts_55 : decode cL_acts 55 = .ok (.if_icmp .ne 23, 3) := by decide +kernel
theorem dL_acts_58 : decode cL_acts 58 = .ok (.aload_n 0, 1) := by decide +kernel
theorem dL_acts_59 : decode cL_acts 59 = .ok (.iconst 0, 1) := by decide +kernel
theorem dL_acts_60 : decode cL_acts 60 = .ok (.invokevirtual 11, 3) := by decide +kernel
theorem dL_acts_63 : decode cL_acts 63 = .ok (.ifCond .ne 15, 3) := by decide +kernel
theorem dL_acts_66 : decode cL_acts 66 = .ok (.aload_n 0, 1) := by decide +kernel
theorem dL_acts_67 : decode cL_acts 67 = .ok (.iconst 0, 1) := by decide +kernel
theorem dL_acts_68 : decode cL_acts 68 = .ok (.invokevirtual 37, 3) := by decide +kernel
theorem dL_acts_71 : decode cL_acts 71 = .ok (.ifCond .ne 7, 3) := by decide +kernel
theorem dL_acts_74 : decode cL_acts 74 = .ok (.iconst 1, 1) := by decide +kernel
theorem dL_acts_75 : decode cL_acts 75 = .ok (.goto 4, 3) := by decide +kernel
theorem dL_acts_78 : decode cL_acts 78 = .ok (.iconst 0, 1) := by decide +kernel
theorem dL_acts_79 : decode cL_acts 79 = .ok (.ireturn, 1) := by decide +kernel
theorem dL_acts_80 : decode cL_acts 80 = .ok (.iload_n 2, 1) := by decide +kernel
theorem dL_acts_81 : decode cL_acts 81 = .ok (.iload_n 3, 1) := by decide +kernel
theorem dL_acts_82 : decode cL_acts 82 = .ok (.invokestatic 82, 3) := by decide +kernel
theorem dL_acts_85 : decode cL_acts 85 = .ok (.istore 6, 2) := by decide +kernel
theorem dL_acts_87 : decode cL_acts 87 = .ok (.aload_n 0, 1) := by decide +kernel
theorem dL_acts_88 : decode cL_acts 88 = .ok (.invokevirtual 85, 3) := by decide +kernel
theorem dL_acts_91 : decode cL_acts 91 = .ok (.istore 7, 2) := by decide +kernel
theorem dL_acts_93 : decode cL_acts 93 = .ok (.aload_n 0, 1) := by decide +kernel
theorem dL_acts_94 : decode cL_acts 94 = .ok (.iload 6, 2) := by decide +kernel
theorem dL_acts_96 : decode cL_acts 96 = .ok (.invokevirtual 11, 3) := by decide +kernel
theorem dL_acts_99 : decode cL_acts 99 = .ok (.istore 8, 2) := by decide +kernel
theorem dL_acts_101 : decode cL_acts 101 = .ok (.aload_n 0, 1) := by decide +kernel
theorem dL_acts_102 : decode cL_acts 102 = .ok (.iload 6, 2) := by decide +kernel
theorem dL_acts_104 : decode cL_acts 104 = .ok (.invokevirtual 37, 3) := by decide +kernel
theorem dL_acts_107 : decode cL_acts 107 = .ok (.istore 9, 2) := by decide +kernel
theorem dL_acts_109 : decode cL_acts 109 = .ok (.iload_n 1, 1) := by decide +kernel
theorem dL_acts_110 : decode cL_acts 110 = .ok (.bipush 16, 2) := by decide +kernel
theorem dL_acts_112 : decode cL_acts 112 = .ok (.invokestatic 82, 3) := by decide +kernel
theorem dL_acts_115 : decode cL_acts 115 = .ok (.tableswitch 747 0 9 #[53, 53, 166, 237, 291, 377, 447, 480, 558, 629], 53) := by decide +kernel
theorem dL_acts_168 : decode cL_acts 168 = .ok (.iload_n 3, 1) := by decide +kernel
theorem dL_acts_169 : decode cL_acts 169 = .ok (.bipush 10, 2) := by decide +kernel
theorem dL_acts_171 : decode cL_acts 171 = .ok (.if_icmp .ne 61, 3) := by decide +kernel
theorem dL_acts_174 : decode cL_acts 174 = .ok (.iload 5, 2) := by decide +kernel
theorem dL_acts_176 : decode cL_acts 176 = .ok (.ifCond .ne 56, 3) := by decide +kernel
theorem dL_acts_179 : decode cL_acts 179 = .ok (.iload 9, 2) := by decide +kernel
theorem dL_acts_181 : decode cL_acts 181 = .ok (.ifCond .eq 13, 3) := by decide +kernel
theorem dL_acts_184 : decode cL_acts 184 = .ok (.aload_n 0, 1) := by decide +kernel
theorem dL_acts_185 : decode cL_acts 185 = .ok (.iload 6, 2) := by decide +kernel
theorem dL_acts_187 : decode cL_acts 187 = .ok (.iconst 0, 1) := by decide +kernel
theorem dL_acts_188 : decode cL_acts 188 = .ok (.invokevirtual 44, 3) := by decide +kernel
theorem dL_acts_191 : decode cL_acts 191 = .ok (.goto 40, 3) := by decide +kernel
theorem dL_acts_194 : decode cL_acts 194 = .ok (.aload_n 0, 1) := by decide +kernel
theorem dL_acts_195 : decode cL_acts 195 = .ok (.iload 6, 2) := by decide +kernel
theorem dL_acts_197 : decode cL_acts 197 = .ok (.invokevirtual 88, 3) := by decide +kernel
theorem dL_acts_200 : decode cL_acts 200 = .ok (.iload 8, 2) := by decide +kernel
theorem dL_acts_202 : decode cL_acts 202 = .ok (.if_icmp .ne 28, 3) := by decide +kernel
theorem dL_acts_205 : decode cL_acts 205 = .ok (.aload_n 0, 1) := by decide +kernel
theorem dL_acts_206 : decode cL_acts 206 = .ok (.invokevirtual 85, 3) := by decide +kernel
theorem dL_acts_209 : decode cL_acts 209 = .ok (.iload 7, 2) := by decide +kernel
theorem dL_acts_211 : decode cL_acts 211 = .ok (.iload 8, 2) := by decide +kernel
theorem dL_acts_213 : decode cL_acts 213 = .ok (.iadd, 1) := by decide +kernel
theorem dL_acts_214 : decode cL_acts 214 = .ok (.if_icmp .ne 16, 3) := by decide +kernel
theorem dL_acts_217 : decode cL_acts 217 = .ok (.aload_n 0, 1) := by decide +kernel
theorem dL_acts_218 : decode cL_acts 218 = .ok (.invokevirtual 63, 3) := by decide +kernel
theorem dL_acts_221 : decode cL_acts 221 = .ok (.bipush 9, 2) := by decide +kernel
theorem dL_acts_223 : decode cL_acts 223 = .ok (.if_icmp .ne 7, 3) := by decide +kernel
theorem dL_acts_226 : decode cL_acts 226 = .ok (.iconst 1, 1) := by decide +kernel
theorem dL_acts_227 : decode cL_acts 227 = .ok (.goto 4, 3) := by decide +kernel
theorem dL_acts_230 : decode cL_acts 230 = .ok (.iconst 0, 1) := by decide +kernel
theorem dL_acts_231 : decode cL_acts 231 = .ok (.ireturn, 1) := by decide +kernel
theorem dL_acts_232 : decode cL_acts 232 = .ok (.aload_n 0, 1) := by decide +kernel
theorem dL_acts_233 : decode cL_acts 233 = .ok (.invokevirtual 79, 3) := by decide +kernel
theorem dL_acts_236 : decode cL_acts 236 = .ok (.iload 5, 2) := by decide +kernel
theorem dL_acts_238 : decode cL_acts 238 = .ok (.ifCond .eq 9, 3) := by decide +kernel
theorem dL_acts_241 : decode cL_acts 241 = .ok (.iload_n 3, 1) := by decide +kernel
theorem dL_acts_242 : decode cL_acts 242 = .ok (.iconst 1, 1) := by decide +kernel
theorem dL_acts_243 : decode cL_acts 243 = .ok (.isub, 1) := by decide +kernel
theorem dL_acts_244 : decode cL_acts 244 = .ok (.goto 4, 3) := by decide +kernel
theorem dL_acts_247 : decode cL_acts 247 = .ok (.iload_n 3, 1) := by decide +kernel
theorem dL_acts_248 : decode cL_acts 248 = .ok (.if_icmp .ne 31, 3) := by decide +kernel
theorem dL_acts_251 : decode cL_acts 251 = .ok (.aload_n 0, 1) := by decide +kernel
theorem dL_acts_252 : decode cL_acts 252 = .ok (.invokevirtual 33, 3) := by decide +kernel
theorem dL_acts_255 : decode cL_acts 255 = .ok (.aload_n 0, 1) := by decide +kernel
theorem dL_acts_256 : decode cL_acts 256 = .ok (.invokevirtual 63, 3) := by decide +kernel
theorem dL_acts_259 : decode cL_acts 259 = .ok (.iconst 1, 1) := by decide +kernel
theorem dL_acts_260 : decode cL_acts 260 = .ok (.isub, 1) := by decide +kernel
theorem dL_acts_261 : decode cL_acts 261 = .ok (.if_icmp .ne 18, 3) := by decide +kernel
theorem dL_acts_264 : decode cL_acts 264 = .ok (.aload_n 0, 1) := by decide +kernel
theorem dL_acts_265 : decode cL_acts 265 = .ok (.aload_n 0, 1) := by decide +kernel
theorem dL_acts_266 : decode cL_acts 266 = .ok (.invokevirtual 33, 3) := by decide +kernel
theorem dL_acts_269 : decode cL_acts 269 = .ok (.invokevirtual 11, 3) := by decide +kernel
theorem dL_acts_272 : decode cL_acts 272 = .ok (.ifCond .ne 7, 3) := by decide +kernel
theorem dL_acts_275 : decode cL_acts 275 = .ok (.iconst 1, 1) := by decide +kernel
theorem dL_acts_276 : decode cL_acts 276 = .ok (.goto 4, 3) := by decide +kernel
theorem dL_acts_279 : decode cL_acts 279 = .ok (.iconst 0, 1) := by decide +kernel
theorem dL_acts_280 : decode cL_acts 280 = .ok (.ireturn, 1) := by decide +kernel
theorem dL_acts_281 : decode cL_acts 281 = .ok (.iload 4, 2) := by decide +kernel
theorem dL_acts_283 : decode cL_acts 283 = .ok (.ifCond .ge 29, 3) := by decide +kernel
theorem dL_acts_286 : decode cL_acts 286 = .ok (.aload_n 0, 1) := by decide +kernel
theorem dL_acts_287 : decode cL_acts 287 = .ok (.iload 6, 2) := by decide +kernel
theorem dL_acts_289 : decode cL_acts 289 = .ok (.invokevirtual 91, 3) := by decide +kernel
theorem dL_acts_292 : decode cL_acts 292 = .ok (.iload 8, 2) := by decide +kernel
theorem dL_acts_294 : decode cL_acts 294 = .ok (.if_icmp .ne 14, 3) := by decide +kernel
theorem dL_acts_297 : decode cL_acts 297 = .ok (.aload_n 0, 1) := by decide +kernel
theorem dL_acts_298 : decode cL_acts 298 = .ok (.invokevirtual 94, 3) := by decide +kernel
theorem dL_acts_301 : decode cL_acts 301 = .ok (.ifCond .ne 7, 3) := by decide +kernel
theorem dL_acts_304 : decode cL_acts 304 = .ok (.iconst 1, 1) := by decide +kernel
theorem dL_acts_305 : decode cL_acts 305 = .ok (.goto 46, 3) := by decide +kernel
theorem dL_acts_308 : decode cL_acts 308 = .ok (.iconst 0, 1) := by decide +kernel
theorem dL_acts_309 : decode cL_acts 309 = .ok (.goto 42, 3) := by decide +kernel
theorem dL_acts_312 : decode cL_acts 312 = .ok (.aload_n 0, 1) := by decide +kernel
theorem dL_acts_313 : decode cL_acts 313 = .ok (.invokevirtual 97, 3) := by decide +kernel
theorem dL_acts_316 : decode cL_acts 316 = .ok (.ifCond .lt 34, 3) := by decide +kernel
theorem dL_acts_319 : decode cL_acts 319 = .ok (.aload_n 0, 1) := by decide +kernel
theorem dL_acts_320 : decode cL_acts 320 = .ok (.invokevirtual 33, 3) := by decide +kernel
theorem dL_acts_323 : decode cL_acts 323 = .ok (.iconst (-1), 1) := by decide +kernel
theorem dL_acts_324 : decode cL_acts 324 = .ok (.if_icmp .ne 26, 3) := by decide +kernel
theorem dL_acts_327 : decode cL_acts 327 = .ok (.aload_n 0, 1) := by decide +kernel
theorem dL_acts_328 : decode cL_acts 328 = .ok (.invokevirtual 63, 3) := by decide +kernel
theorem dL_acts_331 : decode cL_acts 331 = .ok (.iload 5, 2) := by decide +kernel
theorem dL_acts_333 : decode cL_acts 333 = .ok (.ifCond .eq 9, 3) := by decide +kernel
theorem dL_acts_336 : decode cL_acts 336 = .ok (.iload_n 3, 1) := by decide +kernel
theorem dL_acts_337 : decode cL_acts 337 = .ok (.iconst 1, 1) := by decide +kernel
theorem dL_acts_338 : decode cL_acts 338 = .ok (.isub, 1) := by decide +kernel
theorem dL_acts_339 : decode cL_acts 339 = .ok (.goto 4, 3) := by decide +kernel
theorem dL_acts_342 : decode cL_acts 342 = .ok (.iload_n 3, 1) := by decide +kernel
theorem dL_acts_343 : decode cL_acts 343 = .ok (.if_icmp .ne 7, 3) := by decide +kernel
theorem dL_acts_346 : decode cL_acts 346 = .ok (.iconst 1, 1) := by decide +kernel
theorem dL_acts_347 : decode cL_acts 347 = .ok (.goto 4, 3) := by decide +kernel
theorem dL_acts_350 : decode cL_acts 350 = .ok (.iconst 0, 1) := by decide +kernel
theorem dL_acts_351 : decode cL_acts 351 = .ok (.ireturn, 1) := by decide +kernel
theorem dL_acts_352 : decode cL_acts 352 = .ok (.aload_n 0, 1) := by decide +kernel
theorem dL_acts_353 : decode cL_acts 353 = .ok (.iload 6, 2) := by decide +kernel
theorem dL_acts_355 : decode cL_acts 355 = .ok (.iload_n 2, 1) := by decide +kernel
theorem dL_acts_356 : decode cL_acts 356 = .ok (.bipush 6, 2) := by decide +kernel
theorem dL_acts_358 : decode cL_acts 358 = .ok (.ishr, 1) := by decide +kernel
theorem dL_acts_359 : decode cL_acts 359 = .ok (.iconst 3, 1) := by decide +kernel
theorem dL_acts_360 : decode cL_acts 360 = .ok (.iand, 1) := by decide +kernel
theorem dL_acts_361 : decode cL_acts 361 = .ok (.ifCond .ne 7, 3) := by decide +kernel
theorem dL_acts_364 : decode cL_acts 364 = .ok (.iconst 1, 1) := by decide +kernel
theorem dL_acts_365 : decode cL_acts 365 = .ok (.goto 4, 3) := by decide +kernel
theorem dL_acts_368 : decode cL_acts 368 = .ok (.iconst 0, 1) := by decide +kernel
theorem dL_acts_369 : decode cL_acts 369 = .ok (.invokevirtual 44, 3) := by decide +kernel
theorem dL_acts_372 : decode cL_acts 372 = .ok (.iload 9, 2) := by decide +kernel
theorem dL_acts_374 : decode cL_acts 374 = .ok (.if_icmp .ne 30, 3) := by decide +kernel
theorem dL_acts_377 : decode cL_acts 377 = .ok (.aload_n 0, 1) := by decide +kernel
theorem dL_acts_378 : decode cL_acts 378 = .ok (.iload 6, 2) := by decide +kernel
theorem dL_acts_380 : decode cL_acts 380 = .ok (.invokevirtual 37, 3) := by decide +kernel
theorem dL_acts_383 : decode cL_acts 383 = .ok (.iload_n 2, 1) := by decide +kernel
theorem dL_acts_384 : decode cL_acts 384 = .ok (.bipush 6, 2) := by decide +kernel
theorem dL_acts_386 : decode cL_acts 386 = .ok (.ishr, 1) := by decide +kernel
theorem dL_acts_387 : decode cL_acts 387 = .ok (.iconst 3, 1) := by decide +kernel
theorem dL_acts_388 : decode cL_acts 388 = .ok (.iand, 1) := by decide +kernel
theorem dL_acts_389 : decode cL_acts 389 = .ok (.ifCond .ne 7, 3) := by decide +kernel
theorem dL_acts_392 : decode cL_acts 392 = .ok (.iconst 1, 1) := by decide +kernel
theorem dL_acts_393 : decode cL_acts 393 = .ok (.goto 4, 3) := by decide +kernel
theorem dL_acts_396 : decode cL_acts 396 = .ok (.iconst 0, 1) := by decide +kernel
theorem dL_acts_397 : decode cL_acts 397 = .ok (.if_icmp .ne 7, 3) := by decide +kernel
theorem dL_acts_400 : decode cL_acts 400 = .ok (.iconst 1, 1) := by decide +kernel
theorem dL_acts_401 : decode cL_acts 401 = .ok (.goto 4, 3) := by decide +kernel
theorem dL_acts_404 : decode cL_acts 404 = .ok (.iconst 0, 1) := by decide +kernel
theorem dL_acts_405 : decode cL_acts 405 = .ok (.ireturn, 1) := by decide +kernel
theorem dL_acts_406 : decode cL_acts 406 = .ok (.iload 9, 2) := by decide +kernel
theorem dL_acts_408 : decode cL_acts 408 = .ok (.ifCond .ne 16, 3) := by decide +kernel
theorem dL_acts_411 : decode cL_acts 411 = .ok (.iload_n 2, 1) := by decide +kernel
theorem dL_acts_412 : decode cL_acts 412 = .ok (.bipush 6, 2) := by decide +kernel
theorem dL_acts_414 : decode cL_acts 414 = .ok (.ishr, 1) := by decide +kernel
theorem dL_acts_415 : decode cL_acts 415 = .ok (.iconst 3, 1) := by decide +kernel
theorem dL_acts_416 : decode cL_acts 416 = .ok (.iand, 1) := by decide +kernel
theorem dL_acts_417 : decode cL_acts 417 = .ok (.ifCond .ne 7, 3) := by decide +kernel
theorem dL_acts_420 : decode cL_acts 420 = .ok (.iconst 1, 1) := by decide +kernel
theorem dL_acts_421 : decode cL_acts 421 = .ok (.goto 4, 3) := by decide +kernel
theorem dL_acts_424 : decode cL_acts 424 = .ok (.iconst 0, 1) := by decide +kernel
theorem dL_acts_425 : decode cL_acts 425 = .ok (.istore 10, 2) := by decide +kernel
theorem dL_acts_427 : decode cL_acts 427 = .ok (.iload 10, 2) := by decide +kernel
theorem dL_acts_429 : decode cL_acts 429 = .ok (.ifCond .eq 44, 3) := by decide +kernel
theorem dL_acts_432 : decode cL_acts 432 = .ok (.aload_n 0, 1) := by decide +kernel
theorem dL_acts_433 : decode cL_acts 433 = .ok (.iload 6, 2) := by decide +kernel
theorem dL_acts_435 : decode cL_acts 435 = .ok (.invokevirtual 88, 3) := by decide +kernel
theorem dL_acts_438 : decode cL_acts 438 = .ok (.iload 8, 2) := by decide +kernel
theorem dL_acts_440 : decode cL_acts 440 = .ok (.if_icmp .ne 29, 3) := by decide +kernel
theorem dL_acts_443 : decode cL_acts 443 = .ok (.aload_n 0, 1) := by decide +kernel
theorem dL_acts_444 : decode cL_acts 444 = .ok (.invokevirtual 63, 3) := by decide +kernel
theorem dL_acts_447 : decode cL_acts 447 = .ok (.iload_n 3, 1) := by decide +kernel
theorem dL_acts_448 : decode cL_acts 448 = .ok (.iconst 1, 1) := by decide +kernel
theorem dL_acts_449 : decode cL_acts 449 = .ok (.isub, 1) := by decide +kernel
theorem dL_acts_450 : decode cL_acts 450 = .ok (.if_icmp .ne 19, 3) := by decide +kernel
theorem dL_acts_453 : decode cL_acts 453 = .ok (.aload_n 0, 1) := by decide +kernel
theorem dL_acts_454 : decode cL_acts 454 = .ok (.invokevirtual 85, 3) := by decide +kernel
theorem dL_acts_457 : decode cL_acts 457 = .ok (.iload 7, 2) := by decide +kernel
theorem dL_acts_459 : decode cL_acts 459 = .ok (.iload 8, 2) := by decide +kernel
theorem dL_acts_461 : decode cL_acts 461 = .ok (.iadd, 1) := by decide +kernel
theorem dL_acts_462 : decode cL_acts 462 = .ok (.if_icmp .ne 7, 3) := by decide +kernel
theorem dL_acts_465 : decode cL_acts 465 = .ok (.iconst 1, 1) := by decide +kernel
theorem dL_acts_466 : decode cL_acts 466 = .ok (.goto 25, 3) := by decide +kernel
theorem dL_acts_469 : decode cL_acts 469 = .ok (.iconst 0, 1) := by decide +kernel
theorem dL_acts_470 : decode cL_acts 470 = .ok (.goto 21, 3) := by decide +kernel
theorem dL_acts_473 : decode cL_acts 473 = .ok (.aload_n 0, 1) := by decide +kernel
theorem dL_acts_474 : decode cL_acts 474 = .ok (.iload 6, 2) := by decide +kernel
theorem dL_acts_476 : decode cL_acts 476 = .ok (.iload 9, 2) := by decide +kernel
theorem dL_acts_478 : decode cL_acts 478 = .ok (.invokevirtual 44, 3) := by decide +kernel
theorem dL_acts_481 : decode cL_acts 481 = .ok (.iload 9, 2) := by decide +kernel
theorem dL_acts_483 : decode cL_acts 483 = .ok (.if_icmp .ne 7, 3) := by decide +kernel
theorem dL_acts_486 : decode cL_acts 486 = .ok (.iconst 1, 1) := by decide +kernel
theorem dL_acts_487 : decode cL_acts 487 = .ok (.goto 4, 3) := by decide +kernel
theorem dL_acts_490 : decode cL_acts 490 = .ok (.iconst 0, 1) := by decide +kernel
theorem dL_acts_491 : decode cL_acts 491 = .ok (.ireturn, 1) := by decide +kernel
theorem dL_acts_492 : decode cL_acts 492 = .ok (.aload_n 0, 1) := by decide +kernel
theorem dL_acts_493 : decode cL_acts 493 = .ok (.invokevirtual 48, 3) := by decide +kernel
theorem dL_acts_496 : decode cL_acts 496 = .ok (.istore 11, 2) := by decide +kernel
theorem dL_acts_498 : decode cL_acts 498 = .ok (.iload 4, 2) := by decide +kernel
theorem dL_acts_500 : decode cL_acts 500 = .ok (.ifCond .ge 43, 3) := by decide +kernel
theorem dL_acts_503 : decode cL_acts 503 = .ok (.aload_n 0, 1) := by decide +kernel
theorem dL_acts_504 : decode cL_acts 504 = .ok (.iload_n 2, 1) := by decide +kernel
theorem dL_acts_505 : decode cL_acts 505 = .ok (.iconst 4, 1) := by decide +kernel
theorem dL_acts_506 : decode cL_acts 506 = .ok (.ishr, 1) := by decide +kernel
theorem dL_acts_507 : decode cL_acts 507 = .ok (.bipush 32, 2) := by decide +kernel
theorem dL_acts_509 : decode cL_acts 509 = .ok (.invokestatic 82, 3) := by decide +kernel
theorem dL_acts_512 : decode cL_acts 512 = .ok (.invokevirtual 100, 3) := by decide +kernel
theorem dL_acts_515 : decode cL_acts 515 = .ok (.iload 11, 2) := by decide +kernel
theorem dL_acts_517 : decode cL_acts 517 = .ok (.if_icmp .ne 22, 3) := by decide +kernel
theorem dL_acts_520 : decode cL_acts 520 = .ok (.aload_n 0, 1) := by decide +kernel
theorem dL_acts_521 : decode cL_acts 521 = .ok (.invokevirtual 48, 3) := by decide +kernel
theorem dL_acts_524 : decode cL_acts 524 = .ok (.iload_n 2, 1) := by decide +kernel
theorem dL_acts_525 : decode cL_acts 525 = .ok (.iconst 4, 1) := by decide +kernel
theorem dL_acts_526 : decode cL_acts 526 = .ok (.ishr, 1) := by decide +kernel
theorem dL_acts_527 : decode cL_acts 527 = .ok (.bipush 32, 2) := by decide +kernel
theorem dL_acts_529 : decode cL_acts 529 = .ok (.invokestatic 82, 3) := by decide +kernel
theorem dL_acts_532 : decode cL_acts 532 = .ok (.if_icmp .ne 7, 3) := by decide +kernel
theorem dL_acts_535 : decode cL_acts 535 = .ok (.iconst 1, 1) := by decide +kernel
theorem dL_acts_536 : decode cL_acts 536 = .ok (.goto 25, 3) := by decide +kernel
theorem dL_acts_539 : decode cL_acts 539 = .ok (.iconst 0, 1) := by decide +kernel
theorem dL_acts_540 : decode cL_acts 540 = .ok (.goto 21, 3) := by decide +kernel
theorem dL_acts_543 : decode cL_acts 543 = .ok (.aload_n 0, 1) := by decide +kernel
theorem dL_acts_544 : decode cL_acts 544 = .ok (.iload 6, 2) := by decide +kernel
theorem dL_acts_546 : decode cL_acts 546 = .ok (.iload 9, 2) := by decide +kernel
theorem dL_acts_548 : decode cL_acts 548 = .ok (.invokevirtual 44, 3) := by decide +kernel
theorem dL_acts_551 : decode cL_acts 551 = .ok (.iload 9, 2) := by decide +kernel
theorem dL_acts_553 : decode cL_acts 553 = .ok (.if_icmp .ne 7, 3) := by decide +kernel
theorem dL_acts_556 : decode cL_acts 556 = .ok (.iconst 1, 1) := by decide +kernel
theorem dL_acts_557 : decode cL_acts 557 = .ok (.goto 4, 3) := by decide +kernel
theorem dL_acts_560 : decode cL_acts 560 = .ok (.iconst 0, 1) := by decide +kernel
theorem dL_acts_561 : decode cL_acts 561 = .ok (.ireturn, 1) := by decide +kernel
theorem dL_acts_562 : decode cL_acts 562 = .ok (.aload_n 0, 1) := by decide +kernel
theorem dL_acts_563 : decode cL_acts 563 = .ok (.iload 6, 2) := by decide +kernel
theorem dL_acts_565 : decode cL_acts 565 = .ok (.invokevirtual 91, 3) := by decide +kernel
theorem dL_acts_568 : decode cL_acts 568 = .ok (.iload 8, 2) := by decide +kernel
theorem dL_acts_570 : decode cL_acts 570 = .ok (.if_icmp .ne 23, 3) := by decide +kernel
theorem dL_acts_573 : decode cL_acts 573 = .ok (.aload_n 0, 1) := by decide +kernel
theorem dL_acts_574 : decode cL_acts 574 = .ok (.invokevirtual 103, 3) := by decide +kernel
theorem dL_acts_577 : decode cL_acts 577 = .ok (.iload 6, 2) := by decide +kernel
theorem dL_acts_579 : decode cL_acts 579 = .ok (.if_icmp .ne 14, 3) := by decide +kernel
theorem dL_acts_582 : decode cL_acts 582 = .ok (.aload_n 0, 1) := by decide +kernel
theorem dL_acts_583 : decode cL_acts 583 = .ok (.invokevirtual 94, 3) := by decide +kernel
theorem dL_acts_586 : decode cL_acts 586 = .ok (.ifCond .ne 7, 3) := by decide +kernel
theorem dL_acts_589 : decode cL_acts 589 = .ok (.iconst 1, 1) := by decide +kernel
theorem dL_acts_590 : decode cL_acts 590 = .ok (.goto 4, 3) := by decide +kernel
theorem dL_acts_593 : decode cL_acts 593 = .ok (.iconst 0, 1) := by decide +kernel
theorem dL_acts_594 : decode cL_acts 594 = .ok (.ireturn, 1) := by decide +kernel
theorem dL_acts_595 : decode cL_acts 595 = .ok (.aload_n 0, 1) := by decide +kernel
theorem dL_acts_596 : decode cL_acts 596 = .ok (.invokevirtual 103, 3) := by decide +kernel
theorem dL_acts_599 : decode cL_acts 599 = .ok (.ifCond .ge 20, 3) := by decide +kernel
theorem dL_acts_602 : decode cL_acts 602 = .ok (.aload_n 0, 1) := by decide +kernel
theorem dL_acts_603 : decode cL_acts 603 = .ok (.iload 6, 2) := by decide +kernel
theorem dL_acts_605 : decode cL_acts 605 = .ok (.invokevirtual 91, 3) := by decide +kernel
theorem dL_acts_608 : decode cL_acts 608 = .ok (.iload 8, 2) := by decide +kernel
theorem dL_acts_610 : decode cL_acts 610 = .ok (.if_icmp .ne 7, 3) := by decide +kernel
theorem dL_acts_613 : decode cL_acts 613 = .ok (.iconst 1, 1) := by decide +kernel
theorem dL_acts_614 : decode cL_acts 614 = .ok (.goto 4, 3) := by decide +kernel
theorem dL_acts_617 : decode cL_acts 617 = .ok (.iconst 0, 1) := by decide +kernel
theorem dL_acts_618 : decode cL_acts 618 = .ok (.ireturn, 1) := by decide +kernel
theorem dL_acts_619 : decode cL_acts 619 = .ok (.aload_n 0, 1) := by decide +kernel
theorem dL_acts_620 : decode cL_acts 620 = .ok (.invokevirtual 94, 3) := by decide +kernel
theorem dL_acts_623 : decode cL_acts 623 = .ok (.istore 12, 2) := by decide +kernel
theorem dL_acts_625 : decode cL_acts 625 = .ok (.aload_n 0, 1) := by decide +kernel
theorem dL_acts_626 : decode cL_acts 626 = .ok (.aload_n 0, 1) := by decide +kernel
theorem dL_acts_627 : decode cL_acts 627 = .ok (.invokevirtual 103, 3) := by decide +kernel
theorem dL_acts_630 : decode cL_acts 630 = .ok (.iload 12, 2) := by decide +kernel
theorem dL_acts_632 : decode cL_acts 632 = .ok (.invokevirtual 24, 3) := by decide +kernel
theorem dL_acts_635 : decode cL_acts 635 = .ok (.istore 13, 2) := by decide +kernel
theorem dL_acts_637 : decode cL_acts 637 = .ok (.aload_n 0, 1) := by decide +kernel
theorem dL_acts_638 : decode cL_acts 638 = .ok (.invokevirtual 106, 3) := by decide +kernel
theorem dL_acts_641 : decode cL_acts 641 = .ok (.iload 13, 2) := by decide +kernel
theorem dL_acts_643 : decode cL_acts 643 = .ok (.if_icmp .ne 28, 3) := by decide +kernel
theorem dL_acts_646 : decode cL_acts 646 = .ok (.aload_n 0, 1) := by decide +kernel
theorem dL_acts_647 : decode cL_acts 647 = .ok (.invokevirtual 94, 3) := by decide +kernel
theorem dL_acts_650 : decode cL_acts 650 = .ok (.iload 13, 2) := by decide +kernel
theorem dL_acts_652 : decode cL_acts 652 = .ok (.ifCond .ge 8, 3) := by decide +kernel
theorem dL_acts_655 : decode cL_acts 655 = .ok (.iload 12, 2) := by decide +kernel
theorem dL_acts_657 : decode cL_acts 657 = .ok (.goto 7, 3) := by decide +kernel
theorem dL_acts_660 : decode cL_acts 660 = .ok (.iload 12, 2) := by decide +kernel
theorem dL_acts_662 : decode cL_acts 662 = .ok (.iconst 1, 1) := by decide +kernel
theorem dL_acts_663 : decode cL_acts 663 = .ok (.iadd, 1) := by decide +kernel
theorem dL_acts_664 : decode cL_acts 664 = .ok (.if_icmp .ne 7, 3) := by decide +kernel
theorem dL_acts_667 : decode cL_acts 667 = .ok (.iconst 1, 1) := by decide +kernel
theorem dL_acts_668 : decode cL_acts 668 = .ok (.goto 4, 3) := by decide +kernel
theorem dL_acts_671 : decode cL_acts 671 = .ok (.iconst 0, 1) := by decide +kernel
theorem dL_acts_672 : decode cL_acts 672 = .ok (.ireturn, 1) := by decide +kernel
theorem dL_acts_673 : decode cL_acts 673 = .ok (.aload_n 0, 1) := by decide +kernel
theorem dL_acts_674 : decode cL_acts 674 = .ok (.invokevirtual 103, 3) := by decide +kernel
theorem dL_acts_677 : decode cL_acts 677 = .ok (.ifCond .ge 20, 3) := by decide +kernel
theorem dL_acts_680 : decode cL_acts 680 = .ok (.aload_n 0, 1) := by decide +kernel
theorem dL_acts_681 : decode cL_acts 681 = .ok (.iload 6, 2) := by decide +kernel
theorem dL_acts_683 : decode cL_acts 683 = .ok (.invokevirtual 91, 3) := by decide +kernel
theorem dL_acts_686 : decode cL_acts 686 = .ok (.iload 8, 2) := by decide +kernel
theorem dL_acts_688 : decode cL_acts 688 = .ok (.if_icmp .ne 7, 3) := by decide +kernel
theorem dL_acts_691 : decode cL_acts 691 = .ok (.iconst 1, 1) := by decide +kernel
theorem dL_acts_692 : decode cL_acts 692 = .ok (.goto 4, 3) := by decide +kernel
theorem dL_acts_695 : decode cL_acts 695 = .ok (.iconst 0, 1) := by decide +kernel
theorem dL_acts_696 : decode cL_acts 696 = .ok (.ireturn, 1) := by decide +kernel
theorem dL_acts_697 : decode cL_acts 697 = .ok (.aload_n 0, 1) := by decide +kernel
theorem dL_acts_698 : decode cL_acts 698 = .ok (.invokevirtual 94, 3) := by decide +kernel
theorem dL_acts_701 : decode cL_acts 701 = .ok (.istore 14, 2) := by decide +kernel
theorem dL_acts_703 : decode cL_acts 703 = .ok (.iconst 1, 1) := by decide +kernel
theorem dL_acts_704 : decode cL_acts 704 = .ok (.iload_n 2, 1) := by decide +kernel
theorem dL_acts_705 : decode cL_acts 705 = .ok (.bipush 9, 2) := by decide +kernel
theorem dL_acts_707 : decode cL_acts 707 = .ok (.invokestatic 82, 3) := by decide +kernel
theorem dL_acts_710 : decode cL_acts 710 = .ok (.iadd, 1) := by decide +kernel
theorem dL_acts_711 : decode cL_acts 711 = .ok (.istore 15, 2) := by decide +kernel
theorem dL_acts_713 : decode cL_acts 713 = .ok (.aload_n 0, 1) := by decide +kernel
theorem dL_acts_714 : decode cL_acts 714 = .ok (.iload 15, 2) := by decide +kernel
theorem dL_acts_716 : decode cL_acts 716 = .ok (.invokevirtual 109, 3) := by decide +kernel
theorem dL_acts_719 : decode cL_acts 719 = .ok (.iload 14, 2) := by decide +kernel
theorem dL_acts_721 : decode cL_acts 721 = .ok (.iload 15, 2) := by decide +kernel
theorem dL_acts_723 : decode cL_acts 723 = .ok (.if_icmp .le 11, 3) := by decide +kernel
theorem dL_acts_726 : decode cL_acts 726 = .ok (.iload 14, 2) := by decide +kernel
theorem dL_acts_728 : decode cL_acts 728 = .ok (.iload 15, 2) := by decide +kernel
theorem dL_acts_730 : decode cL_acts 730 = .ok (.isub, 1) := by decide +kernel
theorem dL_acts_731 : decode cL_acts 731 = .ok (.goto 4, 3) := by decide +kernel
theorem dL_acts_734 : decode cL_acts 734 = .ok (.iconst 0, 1) := by decide +kernel
theorem dL_acts_735 : decode cL_acts 735 = .ok (.if_icmp .ne 7, 3) := by decide +kernel
theorem dL_acts_738 : decode cL_acts 738 = .ok (.iconst 1, 1) := by decide +kernel
theorem dL_acts_739 : decode cL_acts 739 = .ok (.goto 4, 3) := by decide +kernel
theorem dL_acts_742 : decode cL_acts 742 = .ok (.iconst 0, 1) := by decide +kernel
theorem dL_acts_743 : decode cL_acts 743 = .ok (.ireturn, 1) := by decide +kernel
theorem dL_acts_744 : decode cL_acts 744 = .ok (.iload_n 2, 1) := by decide +kernel
theorem dL_acts_745 : decode cL_acts 745 = .ok (.iconst 4, 1) := by decide +kernel
theorem dL_acts_746 : decode cL_acts 746 = .ok (.ishr, 1) := by decide +kernel
theorem dL_acts_747 : decode cL_acts 747 = .ok (.iconst 5, 1) := by decide +kernel
theorem dL_acts_748 : decode cL_acts 748 = .ok (.invokestatic 82, 3) := by decide +kernel
theorem dL_acts_751 : decode cL_acts 751 = .ok (.istore 16, 2) := by decide +kernel
theorem dL_acts_753 : decode cL_acts 753 = .ok (.aload_n 0, 1) := by decide +kernel
theorem dL_acts_754 : decode cL_acts 754 = .ok (.iload 6, 2) := by decide +kernel
theorem dL_acts_756 : decode cL_acts 756 = .ok (.iload 16, 2) := by decide +kernel
theorem dL_acts_758 : decode cL_acts 758 = .ok (.invokevirtual 24, 3) := by decide +kernel
theorem dL_acts_761 : decode cL_acts 761 = .ok (.istore 17, 2) := by decide +kernel
theorem dL_acts_763 : decode cL_acts 763 = .ok (.aload_n 0, 1) := by decide +kernel
theorem dL_acts_764 : decode cL_acts 764 = .ok (.iload 6, 2) := by decide +kernel
theorem dL_acts_766 : decode cL_acts 766 = .ok (.iload 16, 2) := by decide +kernel
theorem dL_acts_768 : decode cL_acts 768 = .ok (.invokevirtual 27, 3) := by decide +kernel
theorem dL_acts_771 : decode cL_acts 771 = .ok (.istore 18, 2) := by decide +kernel
theorem dL_acts_773 : decode cL_acts 773 = .ok (.iload_n 2, 1) := by decide +kernel
theorem dL_acts_774 : decode cL_acts 774 = .ok (.bipush 7, 2) := by decide +kernel
theorem dL_acts_776 : decode cL_acts 776 = .ok (.ishr, 1) := by decide +kernel
theorem dL_acts_777 : decode cL_acts 777 = .ok (.bipush 100, 2) := by decide +kernel
theorem dL_acts_779 : decode cL_acts 779 = .ok (.invokestatic 82, 3) := by decide +kernel
theorem dL_acts_782 : decode cL_acts 782 = .ok (.istore 19, 2) := by decide +kernel
theorem dL_acts_784 : decode cL_acts 784 = .ok (.iload 17, 2) := by decide +kernel
theorem dL_acts_786 : decode cL_acts 786 = .ok (.ifCond .lt 8, 3) := by decide +kernel
theorem dL_acts_789 : decode cL_acts 789 = .ok (.iload 9, 2) := by decide +kernel
theorem dL_acts_791 : decode cL_acts 791 = .ok (.ifCond .eq 24, 3) := by decide +kernel
theorem dL_acts_794 : decode cL_acts 794 = .ok (.aload_n 0, 1) := by decide +kernel
theorem dL_acts_795 : decode cL_acts 795 = .ok (.iload 6, 2) := by decide +kernel
theorem dL_acts_797 : decode cL_acts 797 = .ok (.iload 9, 2) := by decide +kernel
theorem dL_acts_799 : decode cL_acts 799 = .ok (.invokevirtual 44, 3) := by decide +kernel
theorem dL_acts_802 : decode cL_acts 802 = .ok (.iload 9, 2) := by decide +kernel
theorem dL_acts_804 : decode cL_acts 804 = .ok (.if_icmp .ne 7, 3) := by decide +kernel
theorem dL_acts_807 : decode cL_acts 807 = .ok (.iconst 1, 1) := by decide +kernel
theorem dL_acts_808 : decode cL_acts 808 = .ok (.goto 53, 3) := by decide +kernel
theorem dL_acts_811 : decode cL_acts 811 = .ok (.iconst 0, 1) := by decide +kernel
theorem dL_acts_812 : decode cL_acts 812 = .ok (.goto 49, 3) := by decide +kernel
theorem dL_acts_815 : decode cL_acts 815 = .ok (.aload_n 0, 1) := by decide +kernel
theorem dL_acts_816 : decode cL_acts 816 = .ok (.iload 6, 2) := by decide +kernel
theorem dL_acts_818 : decode cL_acts 818 = .ok (.iload 16, 2) := by decide +kernel
theorem dL_acts_820 : decode cL_acts 820 = .ok (.iload 19, 2) := by decide +kernel
theorem dL_acts_822 : decode cL_acts 822 = .ok (.invokevirtual 112, 3) := by decide +kernel
theorem dL_acts_825 : decode cL_acts 825 = .ok (.iload 17, 2) := by decide +kernel
theorem dL_acts_827 : decode cL_acts 827 = .ok (.if_icmp .ne 33, 3) := by decide +kernel
theorem dL_acts_830 : decode cL_acts 830 = .ok (.aload_n 0, 1) := by decide +kernel
theorem dL_acts_831 : decode cL_acts 831 = .ok (.iload 6, 2) := by decide +kernel
theorem dL_acts_833 : decode cL_acts 833 = .ok (.iload 16, 2) := by decide +kernel
theorem dL_acts_835 : decode cL_acts 835 = .ok (.invokevirtual 24, 3) := by decide +kernel
theorem dL_acts_838 : decode cL_acts 838 = .ok (.iload 19, 2) := by decide +kernel
theorem dL_acts_840 : decode cL_acts 840 = .ok (.if_icmp .ne 20, 3) := by decide +kernel
theorem dL_acts_843 : decode cL_acts 843 = .ok (.aload_n 0, 1) := by decide +kernel
theorem dL_acts_844 : decode cL_acts 844 = .ok (.iload 6, 2) := by decide +kernel
theorem dL_acts_846 : decode cL_acts 846 = .ok (.iload 16, 2) := by decide +kernel
theorem dL_acts_848 : decode cL_acts 848 = .ok (.invokevirtual 27, 3) := by decide +kernel
theorem dL_acts_851 : decode cL_acts 851 = .ok (.iload 18, 2) := by decide +kernel
theorem dL_acts_853 : decode cL_acts 853 = .ok (.if_icmp .ne 7, 3) := by decide +kernel
theorem dL_acts_856 : decode cL_acts 856 = .ok (.iconst 1, 1) := by decide +kernel
theorem dL_acts_857 : decode cL_acts 857 = .ok (.goto 4, 3) := by decide +kernel
theorem dL_acts_860 : decode cL_acts 860 = .ok (.iconst 0, 1) := by decide +kernel
theorem dL_acts_861 : decode cL_acts 861 = .ok (.ireturn, 1) := by decide +kernel
theorem dL_acts_862 : decode cL_acts 862 = .ok (.aload_n 0, 1) := by decide +kernel
theorem dL_acts_863 : decode cL_acts 863 = .ok (.iload_n 2, 1) := by decide +kernel
theorem dL_acts_864 : decode cL_acts 864 = .ok (.bipush 100, 2) := by decide +kernel
theorem dL_acts_866 : decode cL_acts 866 = .ok (.invokestatic 82, 3) := by decide +kernel
theorem dL_acts_869 : decode cL_acts 869 = .ok (.invokestatic 116, 3) := by decide +kernel
theorem dL_acts_872 : decode cL_acts 872 = .ok (.ireturn, 1) := by decide +kernel
theorem dL_holds_0 : decode cL_holds 0 = .ok (.iconst 0, 1) := by decide +kernel
theorem dL_holds_1 : decode cL_holds 1 = .ok (.istore_n 1, 1) := by decide +kernel
theorem dL_holds_2 : decode cL_holds 2 = .ok (.iconst 0, 1) := by decide +kernel
theorem dL_holds_3 : decode cL_holds 3 = .ok (.istore_n 2, 1) := by decide +kernel
theorem dL_holds_4 : decode cL_holds 4 = .ok (.aload_n 0, 1) := by decide +kernel
theorem dL_holds_5 : decode cL_holds 5 = .ok (.invokevirtual 85, 3) := by decide +kernel
theorem dL_holds_8 : decode cL_holds 8 = .ok (.istore_n 3, 1) := by decide +kernel
theorem dL_holds_9 : decode cL_holds 9 = .ok (.iconst 0, 1) := by decide +kernel
theorem dL_holds_10 : decode cL_holds 10 = .ok (.istore 4, 2) := by decide +kernel
theorem dL_holds_12 : decode cL_holds 12 = .ok (.iconst 0, 1) := by decide +kernel
theorem dL_holds_13 : decode cL_holds 13 = .ok (.istore 5, 2) := by decide +kernel
theorem dL_holds_15 : decode cL_holds 15 = .ok (.aload_n 0, 1) := by decide +kernel
theorem dL_holds_16 : decode cL_holds 16 = .ok (.invokevirtual 63, 3) := by decide +kernel
theorem dL_holds_19 : decode cL_holds 19 = .ok (.bipush 10, 2) := by decide +kernel
theorem dL_holds_21 : decode cL_holds 21 = .ok (.if_icmp .gt 28, 3) := by decide +kernel
theorem dL_holds_24 : decode cL_holds 24 = .ok (.aload_n 0, 1) := by decide +kernel
theorem dL_holds_25 : decode cL_holds 25 = .ok (.invokevirtual 33, 3) := by decide +kernel
theorem dL_holds_28 : decode cL_holds 28 = .ok (.iconst (-1), 1) := by decide +kernel
theorem dL_holds_29 : decode cL_holds 29 = .ok (.if_icmp .eq 16, 3) := by decide +kernel
theorem dL_holds_32 : decode cL_holds 32 = .ok (.aload_n 0, 1) := by decide +kernel
theorem dL_holds_33 : decode cL_holds 33 = .ok (.invokevirtual 33, 3) := by decide +kernel
theorem dL_holds_36 : decode cL_holds 36 = .ok (.aload_n 0, 1) := by decide +kernel
theorem dL_holds_37 : decode cL_holds 37 = .ok (.invokevirtual 63, 3) := by decide +kernel
theorem dL_holds_40 : decode cL_holds 40 = .ok (.iconst 1, 1) := by decide +kernel
theorem dL_holds_41 : decode cL_holds 41 = .ok (.isub, 1) := by decide +kernel
theorem dL_holds_42 : decode cL_holds 42 = .ok (.if_icmp .ne 7, 3) := by decide +kernel
theorem dL_holds_45 : decode cL_holds 45 = .ok (.iconst 1, 1) := by decide +kernel
theorem dL_holds_46 : decode cL_holds 46 = .ok (.goto 4, 3) := by decide +kernel
theorem dL_holds_49 : decode cL_holds 49 = .ok (.iconst 0, 1) := by decide +kernel
theorem dL_holds_50 : decode cL_holds 50 = .ok (.istore 6, 2) := by decide +kernel
theorem dL_holds_52 : decode cL_holds 52 = .ok (.iconst 0, 1) := by decide +kernel
theorem dL_holds_53 : decode cL_holds 53 = .ok (.istore 7, 2) := by decide +kernel
theorem dL_holds_55 : decode cL_holds 55 = .ok (.iload 7, 2) := by decide +kernel
theorem dL_holds_57 : decode cL_holds 57 = .ok (.aload_n 0, 1) := by decide +kernel
theorem dL_holds_58 : decode cL_holds 58 = .ok (.invokevirtual 63, 3) := by decide +kernel
theorem dL_holds_61 : decode cL_holds 61 = .ok (.if_icmp .ge 284, 3) := by decide +kernel
theorem dL_holds_64 : decode cL_holds 64 = .ok (.aload_n 0, 1) := by decide +kernel
theorem dL_holds_65 : decode cL_holds 65 = .ok (.iload 7, 2) := by decide +kernel
theorem dL_holds_67 : decode cL_holds 67 = .ok (.invokevirtual 11, 3) := by decide +kernel
theorem dL_holds_70 : decode cL_holds 70 = .ok (.istore 8, 2) := by decide +kernel
theorem dL_holds_72 : decode cL_holds 72 = .ok (.aload_n 0, 1) := by decide +kernel
theorem dL_holds_73 : decode cL_holds 73 = .ok (.iload 7, 2) := by decide +kernel
theorem dL_holds_75 : decode cL_holds 75 = .ok (.invokevirtual 37, 3) := by decide +kernel
theorem dL_holds_78 : decode cL_holds 78 = .ok (.ifCond .ne 16, 3) := by decide +kernel
theorem dL_holds_81 : decode cL_holds 81 = .ok (.iload 7, 2) := by decide +kernel
theorem dL_holds_83 : decode cL_holds 83 = .ok (.aload_n 0, 1) := by decide +kernel
theorem dL_holds_84 : decode cL_holds 84 = .ok (.invokevirtual 33, 3) := by decide +kernel
theorem dL_holds_87 : decode cL_holds 87 = .ok (.if_icmp .eq 7, 3) := by decide +kernel
theorem dL_holds_90 : decode cL_holds 90 = .ok (.iconst 1, 1) := by decide +kernel
theorem dL_holds_91 : decode cL_holds 91 = .ok (.goto 4, 3) := by decide +kernel
theorem dL_holds_94 : decode cL_holds 94 = .ok (.iconst 0, 1) := by decide +kernel
theorem dL_holds_95 : decode cL_holds 95 = .ok (.istore 9, 2) := by decide +kernel
theorem dL_holds_97 : decode cL_holds 97 = .ok (.iload_n 2, 1) := by decide +kernel
theorem dL_holds_98 : decode cL_holds 98 = .ok (.iload 8, 2) := by decide +kernel
theorem dL_holds_100 : decode cL_holds 100 = .ok (.iadd, 1) := by decide +kernel
theorem dL_holds_101 : decode cL_holds 101 = .ok (.istore_n 2, 1) := by decide +kernel
theorem dL_holds_102 : decode cL_holds 102 = .ok (.iload_n 3, 1) := by decide +kernel
theorem dL_holds_103 : decode cL_holds 103 = .ok (.iload 9, 2) := by decide +kernel
theorem dL_holds_105 : decode cL_holds 105 = .ok (.ifCond .eq 8, 3) := by decide +kernel
theorem dL_holds_108 : decode cL_holds 108 = .ok (.iload 8, 2) := by decide +kernel
theorem dL_holds_110 : decode cL_holds 110 = .ok (.goto 4, 3) := by decide +kernel
theorem dL_holds_113 : decode cL_holds 113 = .ok (.iconst 0, 1) := by decide +kernel
theorem dL_holds_114 : decode cL_holds 114 = .ok (.iadd, 1) := by decide +kernel
theorem dL_holds_115 : decode cL_holds 115 = .ok (.istore_n 3, 1) := by decide +kernel
theorem dL_holds_116 : decode cL_holds 116 = .ok (.iload 5, 2) := by decide +kernel
theorem dL_holds_118 : decode cL_holds 118 = .ok (.ifCond .ne 13, 3) := by decide +kernel
theorem dL_holds_121 : decode cL_holds 121 = .ok (.iload 9, 2) := by decide +kernel
theorem dL_holds_123 : decode cL_holds 123 = .ok (.ifCond .eq 12, 3) := by decide +kernel
theorem dL_holds_126 : decode cL_holds 126 = .ok (.iload 8, 2) := by decide +kernel
theorem dL_holds_128 : decode cL_holds 128 = .ok (.ifCond .le 7, 3) := by decide +kernel
theorem dL_holds_131 : decode cL_holds 131 = .ok (.iconst 1, 1) := by decide +kernel
theorem dL_holds_132 : decode cL_holds 132 = .ok (.goto 4, 3) := by decide +kernel
theorem dL_holds_135 : decode cL_holds 135 = .ok (.iconst 0, 1) := by decide +kernel
theorem dL_holds_136 : decode cL_holds 136 = .ok (.istore 5, 2) := by decide +kernel
theorem dL_holds_138 : decode cL_holds 138 = .ok (.iconst 0, 1) := by decide +kernel
theorem dL_holds_139 : decode cL_holds 139 = .ok (.istore 10, 2) := by decide +kernel
theorem dL_holds_141 : decode cL_holds 141 = .ok (.iload 10, 2) := by decide +kernel
theorem dL_holds_143 : decode cL_holds 143 = .ok (.iload 8, 2) := by decide +kernel
theorem dL_holds_145 : decode cL_holds 145 = .ok (.if_icmp .ge 123, 3) := by decide +kernel
theorem dL_holds_148 : decode cL_holds 148 = .ok (.aload_n 0, 1) := by decide +kernel
theorem dL_holds_149 : decode cL_holds 149 = .ok (.iload 7, 2) := by decide +kernel
theorem dL_holds_151 : decode cL_holds 151 = .ok (.iload 10, 2) := by decide +kernel
theorem dL_holds_153 : decode cL_holds 153 = .ok (.invokevirtual 20, 3) := by decide +kernel
theorem dL_holds_156 : decode cL_holds 156 = .ok (.istore 11, 2) := by decide +kernel
theorem dL_holds_158 : decode cL_holds 158 = .ok (.iload 6, 2) := by decide +kernel
theorem dL_holds_160 : decode cL_holds 160 = .ok (.ifCond .eq 63, 3) := by decide +kernel
theorem dL_holds_163 : decode cL_holds 163 = .ok (.iload 11, 2) := by decide +kernel
theorem dL_holds_165 : decode cL_holds 165 = .ok (.ifCond .lt 58, 3) := by decide +kernel
theorem dL_holds_168 : decode cL_holds 168 = .ok (.iload 11, 2) := by decide +kernel
theorem dL_holds_170 : decode cL_holds 170 = .ok (.bipush 32, 2) := by decide +kernel
theorem dL_holds_172 : decode cL_holds 172 = .ok (.if_icmp .ge 51, 3) := by decide +kernel
theorem dL_holds_175 : decode cL_holds 175 = .ok (.iload_n 1, 1) := by decide +kernel
theorem dL_holds_176 : decode cL_holds 176 = .ok (.iload 11, 2) := by decide +kernel
theorem dL_holds_178 : decode cL_holds 178 = .ok (.ishr, 1) := by decide +kernel
theorem dL_holds_179 : decode cL_holds 179 = .ok (.iconst 1, 1) := by decide +kernel
theorem dL_holds_180 : decode cL_holds 180 = .ok (.iand, 1) := by decide +kernel
theorem dL_holds_181 : decode cL_holds 181 = .ok (.ifCond .ne 42, 3) := by decide +kernel
theorem dL_holds_184 : decode cL_holds 184 = .ok (.aload_n 0, 1) := by decide +kernel
theorem dL_holds_185 : decode cL_holds 185 = .ok (.iload 11, 2) := by decide +kernel
theorem dL_holds_187 : decode cL_holds 187 = .ok (.invokevirtual 30, 3) := by decide +kernel
theorem dL_holds_190 : decode cL_holds 190 = .ok (.iload 7, 2) := by decide +kernel
theorem dL_holds_192 : decode cL_holds 192 = .ok (.if_icmp .ne 31, 3) := by decide +kernel
theorem dL_holds_195 : decode cL_holds 195 = .ok (.aload_n 0, 1) := by decide +kernel
theorem dL_holds_196 : decode cL_holds 196 = .ok (.iload 7, 2) := by decide +kernel
theorem dL_holds_198 : decode cL_holds 198 = .ok (.iload 10, 2) := by decide +kernel
theorem dL_holds_200 : decode cL_holds 200 = .ok (.invokevirtual 24, 3) := by decide +kernel
theorem dL_holds_203 : decode cL_holds 203 = .ok (.ifCond .lt 20, 3) := by decide +kernel
theorem dL_holds_206 : decode cL_holds 206 = .ok (.aload_n 0, 1) := by decide +kernel
theorem dL_holds_207 : decode cL_holds 207 = .ok (.iload 7, 2) := by decide +kernel
theorem dL_holds_209 : decode cL_holds 209 = .ok (.iload 10, 2) := by decide +kernel
theorem dL_holds_211 : decode cL_holds 211 = .ok (.invokevirtual 24, 3) := by decide +kernel
theorem dL_holds_214 : decode cL_holds 214 = .ok (.bipush 99, 2) := by decide +kernel
theorem dL_holds_216 : decode cL_holds 216 = .ok (.if_icmp .gt 7, 3) := by decide +kernel
theorem dL_holds_219 : decode cL_holds 219 = .ok (.iconst 1, 1) := by decide +kernel
theorem dL_holds_220 : decode cL_holds 220 = .ok (.goto 4, 3) := by decide +kernel
theorem dL_holds_223 : decode cL_holds 223 = .ok (.iconst 0, 1) := by decide +kernel
theorem dL_holds_224 : decode cL_holds 224 = .ok (.istore 6, 2) := by decide +kernel
theorem dL_holds_226 : decode cL_holds 226 = .ok (.iload_n 1, 1) := by decide +kernel
theorem dL_holds_227 : decode cL_holds 227 = .ok (.iconst 1, 1) := by decide +kernel
theorem dL_holds_228 : decode cL_holds 228 = .ok (.iload 11, 2) := by decide +kernel
theorem dL_holds_230 : decode cL_holds 230 = .ok (.ishl, 1) := by decide +kernel
theorem dL_holds_231 : decode cL_holds 231 = .ok (.ior, 1) := by decide +kernel
theorem dL_holds_232 : decode cL_holds 232 = .ok (.istore_n 1, 1) := by decide +kernel
theorem dL_holds_233 : decode cL_holds 233 = .ok (.iload 4, 2) := by decide +kernel
theorem dL_holds_235 : decode cL_holds 235 = .ok (.aload_n 0, 1) := by decide +kernel
theorem dL_holds_236 : decode cL_holds 236 = .ok (.iload 7, 2) := by decide +kernel
theorem dL_holds_238 : decode cL_holds 238 = .ok (.iload 10, 2) := by decide +kernel
theorem dL_holds_240 : decode cL_holds 240 = .ok (.invokevirtual 24, 3) := by decide +kernel
theorem dL_holds_243 : decode cL_holds 243 = .ok (.aload_n 0, 1) := by decide +kernel
theorem dL_holds_244 : decode cL_holds 244 = .ok (.iload 7, 2) := by decide +kernel
theorem dL_holds_246 : decode cL_holds 246 = .ok (.iload 10, 2) := by decide +kernel
theorem dL_holds_248 : decode cL_holds 248 = .ok (.invokevirtual 27, 3) := by decide +kernel
theorem dL_holds_251 : decode cL_holds 251 = .ok (.if_icmp .ne 7, 3) := by decide +kernel
theorem dL_holds_254 : decode cL_holds 254 = .ok (.iconst 0, 1) := by decide +kernel
theorem dL_holds_255 : decode cL_holds 255 = .ok (.goto 4, 3) := by decide +kernel
theorem dL_holds_258 : decode cL_holds 258 = .ok (.iconst 1, 1) := by decide +kernel
theorem dL_holds_259 : decode cL_holds 259 = .ok (.iadd, 1) := by decide +kernel
theorem dL_holds_260 : decode cL_holds 260 = .ok (.istore 4, 2) := by decide +kernel
theorem dL_holds_262 : decode cL_holds 262 = .ok (.iinc 10 1, 3) := by decide +kernel
theorem dL_holds_265 : decode cL_holds 265 = .ok (.goto (-124), 3) := by decide +kernel
theorem dL_holds_268 : decode cL_holds 268 = .ok (.iload 6, 2) := by decide +kernel
theorem dL_holds_270 : decode cL_holds 270 = .ok (.ifCond .eq 66, 3) := by decide +kernel
theorem dL_holds_273 : decode cL_holds 273 = .ok (.aload_n 0, 1) := by decide +kernel
theorem dL_holds_274 : decode cL_holds 274 = .ok (.iload 7, 2) := by decide +kernel
theorem dL_holds_276 : decode cL_holds 276 = .ok (.iload 8, 2) := by decide +kernel
theorem dL_holds_278 : decode cL_holds 278 = .ok (.invokevirtual 20, 3) := by decide +kernel
theorem dL_holds_281 : decode cL_holds 281 = .ok (.iconst (-1), 1) := by decide +kernel
theorem dL_holds_282 : decode cL_holds 282 = .ok (.if_icmp .ne 54, 3) := by decide +kernel
theorem dL_holds_285 : decode cL_holds 285 = .ok (.aload_n 0, 1) := by decide +kernel
theorem dL_holds_286 : decode cL_holds 286 = .ok (.iload 7, 2) := by decide +kernel
theorem dL_holds_288 : decode cL_holds 288 = .ok (.iload 8, 2) := by decide +kernel
theorem dL_holds_290 : decode cL_holds 290 = .ok (.invokevirtual 24, 3) := by decide +kernel
theorem dL_holds_293 : decode cL_holds 293 = .ok (.iconst (-1), 1) := by decide +kernel
theorem dL_holds_294 : decode cL_holds 294 = .ok (.if_icmp .ne 42, 3) := by decide +kernel
theorem dL_holds_297 : decode cL_holds 297 = .ok (.aload_n 0, 1) := by decide +kernel
theorem dL_holds_298 : decode cL_holds 298 = .ok (.iload 7, 2) := by decide +kernel
theorem dL_holds_300 : decode cL_holds 300 = .ok (.iload 8, 2) := by decide +kernel
theorem dL_holds_302 : decode cL_holds 302 = .ok (.invokevirtual 27, 3) := by decide +kernel
theorem dL_holds_305 : decode cL_holds 305 = .ok (.iconst (-1), 1) := by decide +kernel
theorem dL_holds_306 : decode cL_holds 306 = .ok (.if_icmp .ne 30, 3) := by decide +kernel
theorem dL_holds_309 : decode cL_holds 309 = .ok (.aload_n 0, 1) := by decide +kernel
theorem dL_holds_310 : decode cL_holds 310 = .ok (.iload 7, 2) := by decide +kernel
theorem dL_holds_312 : decode cL_holds 312 = .ok (.invokevirtual 17, 3) := by decide +kernel
theorem dL_holds_315 : decode cL_holds 315 = .ok (.ifCond .lt 21, 3) := by decide +kernel
theorem dL_holds_318 : decode cL_holds 318 = .ok (.iload 8, 2) := by decide +kernel
theorem dL_holds_320 : decode cL_holds 320 = .ok (.ifCond .gt 12, 3) := by decide +kernel
theorem dL_holds_323 : decode cL_holds 323 = .ok (.iload 7, 2) := by decide +kernel
theorem dL_holds_325 : decode cL_holds 325 = .ok (.aload_n 0, 1) := by decide +kernel
theorem dL_holds_326 : decode cL_holds 326 = .ok (.invokevirtual 33, 3) := by decide +kernel
theorem dL_holds_329 : decode cL_holds 329 = .ok (.if_icmp .ne 7, 3) := by decide +kernel
theorem dL_holds_332 : decode cL_holds 332 = .ok (.iconst 1, 1) := by decide +kernel
theorem dL_holds_333 : decode cL_holds 333 = .ok (.goto 4, 3) := by decide +kernel
theorem dL_holds_336 : decode cL_holds 336 = .ok (.iconst 0, 1) := by decide +kernel
theorem dL_holds_337 : decode cL_holds 337 = .ok (.istore 6, 2) := by decide +kernel
theorem dL_holds_339 : decode cL_holds 339 = .ok (.iinc 7 1, 3) := by decide +kernel
theorem dL_holds_342 : decode cL_holds 342 = .ok (.goto (-287), 3) := by decide +kernel
theorem dL_holds_345 : decode cL_holds 345 = .ok (.iconst 0, 1) := by decide +kernel
theorem dL_holds_346 : decode cL_holds 346 = .ok (.istore 7, 2) := by decide +kernel
theorem dL_holds_348 : decode cL_holds 348 = .ok (.iload 7, 2) := by decide +kernel
theorem dL_holds_350 : decode cL_holds 350 = .ok (.bipush 32, 2) := by decide +kernel
theorem dL_holds_352 : decode cL_holds 352 = .ok (.if_icmp .ge 53, 3) := by decide +kernel
theorem dL_holds_355 : decode cL_holds 355 = .ok (.iload 6, 2) := by decide +kernel
theorem dL_holds_357 : decode cL_holds 357 = .ok (.ifCond .eq 39, 3) := by decide +kernel
theorem dL_holds_360 : decode cL_holds 360 = .ok (.aload_n 0, 1) := by decide +kernel
theorem dL_holds_361 : decode cL_holds 361 = .ok (.iload 7, 2) := by decide +kernel
theorem dL_holds_363 : decode cL_holds 363 = .ok (.invokevirtual 30, 3) := by decide +kernel
theorem dL_holds_366 : decode cL_holds 366 = .ok (.iconst (-1), 1) := by decide +kernel
theorem dL_holds_367 : decode cL_holds 367 = .ok (.if_icmp .ne 7, 3) := by decide +kernel
theorem dL_holds_370 : decode cL_holds 370 = .ok (.iconst 1, 1) := by decide +kernel
theorem dL_holds_371 : decode cL_holds 371 = .ok (.goto 4, 3) := by decide +kernel
theorem dL_holds_374 : decode cL_holds 374 = .ok (.iconst 0, 1) := by decide +kernel
theorem dL_holds_375 : decode cL_holds 375 = .ok (.iload_n 1, 1) := by decide +kernel
theorem dL_holds_376 : decode cL_holds 376 = .ok (.iload 7, 2) := by decide +kernel
theorem dL_holds_378 : decode cL_holds 378 = .ok (.ishr, 1) := by decide +kernel
theorem dL_holds_379 : decode cL_holds 379 = .ok (.iconst 1, 1) := by decide +kernel
theorem dL_holds_380 : decode cL_holds 380 = .ok (.iand, 1) := by decide +kernel
theorem dL_holds_381 : decode cL_holds 381 = .ok (.ifCond .ne 7, 3) := by decide +kernel
theorem dL_holds_384 : decode cL_holds 384 = .ok (.iconst 1, 1) := by decide +kernel
theorem dL_holds_385 : decode cL_holds 385 = .ok (.goto 4, 3) := by decide +kernel
theorem dL_holds_388 : decode cL_holds 388 = .ok (.iconst 0, 1) := by decide +kernel
theorem dL_holds_389 : decode cL_holds 389 = .ok (.if_icmp .ne 7, 3) := by decide +kernel
theorem dL_holds_392 : decode cL_holds 392 = .ok (.iconst 1, 1) := by decide +kernel
theorem dL_holds_393 : decode cL_holds 393 = .ok (.goto 4, 3) := by decide +kernel
theorem dL_holds_396 : decode cL_holds 396 = .ok (.iconst 0, 1) := by decide +kernel
theorem dL_holds_397 : decode cL_holds 397 = .ok (.istore 6, 2) := by decide +kernel
theorem dL_holds_399 : decode cL_holds 399 = .ok (.iinc 7 1, 3) := by decide +kernel
theorem dL_holds_402 : decode cL_holds 402 = .ok (.goto (-54), 3) := by decide +kernel
theorem dL_holds_405 : decode cL_holds 405 = .ok (.aload_n 0, 1) := by decide +kernel
theorem dL_holds_406 : decode cL_holds 406 = .ok (.invokevirtual 103, 3) := by decide +kernel
theorem dL_holds_409 : decode cL_holds 409 = .ok (.iconst (-1), 1) := by decide +kernel
theorem dL_holds_410 : decode cL_holds 410 = .ok (.if_icmp .ne 19, 3) := by decide +kernel
theorem dL_holds_413 : decode cL_holds 413 = .ok (.aload_n 0, 1) := by decide +kernel
theorem dL_holds_414 : decode cL_holds 414 = .ok (.invokevirtual 94, 3) := by decide +kernel
theorem dL_holds_417 : decode cL_holds 417 = .ok (.iconst (-1), 1) := by decide +kernel
theorem dL_holds_418 : decode cL_holds 418 = .ok (.if_icmp .ne 7, 3) := by decide +kernel
theorem dL_holds_421 : decode cL_holds 421 = .ok (.iconst 1, 1) := by decide +kernel
theorem dL_holds_422 : decode cL_holds 422 = .ok (.goto 34, 3) := by decide +kernel
theorem dL_holds_425 : decode cL_holds 425 = .ok (.iconst 0, 1) := by decide +kernel
theorem dL_holds_426 : decode cL_holds 426 = .ok (.goto 30, 3) := by decide +kernel
theorem dL_holds_429 : decode cL_holds 429 = .ok (.aload_n 0, 1) := by decide +kernel
theorem dL_holds_430 : decode cL_holds 430 = .ok (.invokevirtual 94, 3) := by decide +kernel
theorem dL_holds_433 : decode cL_holds 433 = .ok (.ifCond .lt 22, 3) := by decide +kernel
theorem dL_holds_436 : decode cL_holds 436 = .ok (.aload_n 0, 1) := by decide +kernel
theorem dL_holds_437 : decode cL_holds 437 = .ok (.invokevirtual 94, 3) := by decide +kernel
theorem dL_holds_440 : decode cL_holds 440 = .ok (.aload_n 0, 1) := by decide +kernel
theorem dL_holds_441 : decode cL_holds 441 = .ok (.aload_n 0, 1) := by decide +kernel
theorem dL_holds_442 : decode cL_holds 442 = .ok (.invokevirtual 103, 3) := by decide +kernel
theorem dL_holds_445 : decode cL_holds 445 = .ok (.invokevirtual 11, 3) := by decide +kernel
theorem dL_holds_448 : decode cL_holds 448 = .ok (.if_icmp .gt 7, 3) := by decide +kernel
theorem dL_holds_451 : decode cL_holds 451 = .ok (.iconst 1, 1) := by decide +kernel
theorem dL_holds_452 : decode cL_holds 452 = .ok (.goto 4, 3) := by decide +kernel
theorem dL_holds_455 : decode cL_holds 455 = .ok (.iconst 0, 1) := by decide +kernel
theorem dL_holds_456 : decode cL_holds 456 = .ok (.istore 7, 2) := by decide +kernel
theorem dL_holds_458 : decode cL_holds 458 = .ok (.iload 6, 2) := by decide +kernel
theorem dL_holds_460 : decode cL_holds 460 = .ok (.ifCond .eq 80, 3) := by decide +kernel
theorem dL_holds_463 : decode cL_holds 463 = .ok (.iload 7, 2) := by decide +kernel
theorem dL_holds_465 : decode cL_holds 465 = .ok (.ifCond .eq 75, 3) := by decide +kernel
theorem dL_holds_468 : decode cL_holds 468 = .ok (.aload_n 0, 1) := by decide +kernel
theorem dL_holds_469 : decode cL_holds 469 = .ok (.invokevirtual 85, 3) := by decide +kernel
theorem dL_holds_472 : decode cL_holds 472 = .ok (.iload_n 2, 1) := by decide +kernel
theorem dL_holds_473 : decode cL_holds 473 = .ok (.iadd, 1) := by decide +kernel
theorem dL_holds_474 : decode cL_holds 474 = .ok (.bipush 32, 2) := by decide +kernel
theorem dL_holds_476 : decode cL_holds 476 = .ok (.if_icmp .ne 64, 3) := by decide +kernel
theorem dL_holds_479 : decode cL_holds 479 = .ok (.aload_n 0, 1) := by decide +kernel
theorem dL_holds_480 : decode cL_holds 480 = .ok (.invokevirtual 41, 3) := by decide +kernel
theorem dL_holds_483 : decode cL_holds 483 = .ok (.iload_n 3, 1) := by decide +kernel
theorem dL_holds_484 : decode cL_holds 484 = .ok (.if_icmp .ne 56, 3) := by decide +kernel
theorem dL_holds_487 : decode cL_holds 487 = .ok (.aload_n 0, 1) := by decide +kernel
theorem dL_holds_488 : decode cL_holds 488 = .ok (.invokevirtual 119, 3) := by decide +kernel
theorem dL_holds_491 : decode cL_holds 491 = .ok (.iload 4, 2) := by decide +kernel
theorem dL_holds_493 : decode cL_holds 493 = .ok (.if_icmp .ne 47, 3) := by decide +kernel
theorem dL_holds_496 : decode cL_holds 496 = .ok (.aload_n 0, 1) := by decide +kernel
theorem dL_holds_497 : decode cL_holds 497 = .ok (.invokevirtual 122, 3) := by decide +kernel
theorem dL_holds_500 : decode cL_holds 500 = .ok (.iconst (-1), 1) := by decide +kernel
theorem dL_holds_501 : decode cL_holds 501 = .ok (.if_icmp .ne 7, 3) := by decide +kernel
theorem dL_holds_504 : decode cL_holds 504 = .ok (.iconst 1, 1) := by decide +kernel
theorem dL_holds_505 : decode cL_holds 505 = .ok (.goto 4, 3) := by decide +kernel
theorem dL_holds_508 : decode cL_holds 508 = .ok (.iconst 0, 1) := by decide +kernel
theorem dL_holds_509 : decode cL_holds 509 = .ok (.iload 5, 2) := by decide +kernel
theorem dL_holds_511 : decode cL_holds 511 = .ok (.ifCond .ne 7, 3) := by decide +kernel
theorem dL_holds_514 : decode cL_holds 514 = .ok (.iconst 1, 1) := by decide +kernel
theorem dL_holds_515 : decode cL_holds 515 = .ok (.goto 4, 3) := by decide +kernel
theorem dL_holds_518 : decode cL_holds 518 = .ok (.iconst 0, 1) := by decide +kernel
theorem dL_holds_519 : decode cL_holds 519 = .ok (.if_icmp .ne 21, 3) := by decide +kernel
theorem dL_holds_522 : decode cL_holds 522 = .ok (.aload_n 0, 1) := by decide +kernel
theorem dL_holds_523 : decode cL_holds 523 = .ok (.invokevirtual 125, 3) := by decide +kernel
theorem dL_holds_526 : decode cL_holds 526 = .ok (.iload_n 2, 1) := by decide +kernel
theorem dL_holds_527 : decode cL_holds 527 = .ok (.i2d, 1) := by decide +kernel
theorem dL_holds_528 : decode cL_holds 528 = .ok (.ldc2_w 129, 3) := by decide +kernel
theorem dL_holds_531 : decode cL_holds 531 = .ok (.ddiv, 1) := by decide +kernel
theorem dL_holds_532 : decode cL_holds 532 = .ok (.dcmp .l, 1) := by decide +kernel
theorem dL_holds_533 : decode cL_holds 533 = .ok (.ifCond .ne 7, 3) := by decide +kernel
theorem dL_holds_536 : decode cL_holds 536 = .ok (.iconst 1, 1) := by decide +kernel
theorem dL_holds_537 : decode cL_holds 537 = .ok (.goto 4, 3) := by decide +kernel
theorem dL_holds_540 : decode cL_holds 540 = .ok (.iconst 0, 1) := by decide +kernel
theorem dL_holds_541 : decode cL_holds 541 = .ok (.ireturn, 1) := by decide +kernel
theorem dL_isAhead_0 : decode cL_isAhead 0 = .ok (.aload_n 0, 1) := by decide +kernel
theorem dL_isAhead_1 : decode cL_isAhead 1 = .ok (.iload_n 1, 1) := by decide +kernel
theorem dL_isAhead_2 : decode cL_isAhead 2 = .ok (.invokevirtual 66, 3) := by decide +kernel
theorem dL_isAhead_5 : decode cL_isAhead 5 = .ok (.aload_n 0, 1) := by decide +kernel
theorem dL_isAhead_6 : decode cL_isAhead 6 = .ok (.iload_n 1, 1) := by decide +kernel
theorem dL_isAhead_7 : decode cL_isAhead 7 = .ok (.bipush 32, 2) := by decide +kernel
theorem dL_isAhead_9 : decode cL_isAhead 9 = .ok (.if_icmp .ge 9, 3) := by decide +kernel
theorem dL_isAhead_12 : decode cL_isAhead 12 = .ok (.iload_n 1, 1) := by decide +kernel
theorem dL_isAhead_13 : decode cL_isAhead 13 = .ok (.iconst 1, 1) := by decide +kernel
theorem dL_isAhead_14 : decode cL_isAhead 14 = .ok (.iadd, 1) := by decide +kernel
theorem dL_isAhead_15 : decode cL_isAhead 15 = .ok (.goto 5, 3) := by decide +kernel
theorem dL_isAhead_18 : decode cL_isAhead 18 = .ok (.bipush 32, 2) := by decide +kernel
theorem dL_isAhead_20 : decode cL_isAhead 20 = .ok (.invokevirtual 66, 3) := by decide +kernel
theorem dL_isAhead_23 : decode cL_isAhead 23 = .ok (.if_icmp .gt 7, 3) := by decide +kernel
theorem dL_isAhead_26 : decode cL_isAhead 26 = .ok (.iconst 1, 1) := by decide +kernel
theorem dL_isAhead_27 : decode cL_isAhead 27 = .ok (.goto 4, 3) := by decide +kernel
theorem dL_isAhead_30 : decode cL_isAhead 30 = .ok (.iconst 0, 1) := by decide +kernel
theorem dL_isAhead_31 : decode cL_isAhead 31 = .ok (.istore_n 2, 1) := by decide +kernel
theorem dL_isAhead_32 : decode cL_isAhead 32 = .ok (.iconst 0, 1) := by decide +kernel
theorem dL_isAhead_33 : decode cL_isAhead 33 = .ok (.istore_n 3, 1) := by decide +kernel
theorem dL_isAhead_34 : decode cL_isAhead 34 = .ok (.iconst 0, 1) := by decide +kernel
theorem dL_isAhead_35 : decode cL_isAhead 35 = .ok (.istore 4, 2) := by decide +kernel
theorem dL_isAhead_37 : decode cL_isAhead 37 = .ok (.iconst 0, 1) := by decide +kernel
theorem dL_isAhead_38 : decode cL_isAhead 38 = .ok (.istore 5, 2) := by decide +kernel
theorem dL_isAhead_40 : decode cL_isAhead 40 = .ok (.iload 5, 2) := by decide +kernel
theorem dL_isAhead_42 : decode cL_isAhead 42 = .ok (.aload_n 0, 1) := by decide +kernel
theorem dL_isAhead_43 : decode cL_isAhead 43 = .ok (.invokevirtual 63, 3) := by decide +kernel
theorem dL_isAhead_46 : decode cL_isAhead 46 = .ok (.if_icmp .ge 161, 3) := by decide +kernel
theorem dL_isAhead_49 : decode cL_isAhead 49 = .ok (.aload_n 0, 1) := by decide +kernel
theorem dL_isAhead_50 : decode cL_isAhead 50 = .ok (.iload 5, 2) := by decide +kernel
theorem dL_isAhead_52 : decode cL_isAhead 52 = .ok (.iload_n 1, 1) := by decide +kernel
theorem dL_isAhead_53 : decode cL_isAhead 53 = .ok (.invokevirtual 69, 3) := by decide +kernel
theorem dL_isAhead_56 : decode cL_isAhead 56 = .ok (.istore 6, 2) := by decide +kernel
theorem dL_isAhead_58 : decode cL_isAhead 58 = .ok (.aload_n 0, 1) := by decide +kernel
theorem dL_isAhead_59 : decode cL_isAhead 59 = .ok (.iload 5, 2) := by decide +kernel
theorem dL_isAhead_61 : decode cL_isAhead 61 = .ok (.invokevirtual 37, 3) := by decide +kernel
theorem dL_isAhead_64 : decode cL_isAhead 64 = .ok (.ifCond .ne 16, 3) := by decide +kernel
theorem dL_isAhead_67 : decode cL_isAhead 67 = .ok (.iload 5, 2) := by decide +kernel
theorem dL_isAhead_69 : decode cL_isAhead 69 = .ok (.aload_n 0, 1) := by decide +kernel
theorem dL_isAhead_70 : decode cL_isAhead 70 = .ok (.invokevirtual 33, 3) := by decide +kernel
theorem dL_isAhead_73 : decode cL_isAhead 73 = .ok (.if_icmp .eq 7, 3) := by decide +kernel
theorem dL_isAhead_76 : decode cL_isAhead 76 = .ok (.iconst 1, 1) := by decide +kernel
theorem dL_isAhead_77 : decode cL_isAhead 77 = .ok (.goto 4, 3) := by decide +kernel
theorem dL_isAhead_80 : decode cL_isAhead 80 = .ok (.iconst 0, 1) := by decide +kernel
theorem dL_isAhead_81 : decode cL_isAhead 81 = .ok (.istore 7, 2) := by decide +kernel
theorem dL_isAhead_83 : decode cL_isAhead 83 = .ok (.iload_n 3, 1) := by decide +kernel
theorem dL_isAhead_84 : decode cL_isAhead 84 = .ok (.iload 6, 2) := by decide +kernel
theorem dL_isAhead_86 : decode cL_isAhead 86 = .ok (.iadd, 1) := by decide +kernel
theorem dL_isAhead_87 : decode cL_isAhead 87 = .ok (.istore_n 3, 1) := by decide +kernel
theorem dL_isAhead_88 : decode cL_isAhead 88 = .ok (.iload 4, 2) := by decide +kernel
theorem dL_isAhead_90 : decode cL_isAhead 90 = .ok (.iload 6, 2) := by decide +kernel
theorem dL_isAhead_92 : decode cL_isAhead 92 = .ok (.ifCond .le 18, 3) := by decide +kernel
theorem dL_isAhead_95 : decode cL_isAhead 95 = .ok (.iload 6, 2) := by decide +kernel
theorem dL_isAhead_97 : decode cL_isAhead 97 = .ok (.aload_n 0, 1) := by decide +kernel
theorem dL_isAhead_98 : decode cL_isAhead 98 = .ok (.iload 5, 2) := by decide +kernel
theorem dL_isAhead_100 : decode cL_isAhead 100 = .ok (.invokevirtual 11, 3) := by decide +kernel
theorem dL_isAhead_103 : decode cL_isAhead 103 = .ok (.if_icmp .ne 7, 3) := by decide +kernel
theorem dL_isAhead_106 : decode cL_isAhead 106 = .ok (.iconst 1, 1) := by decide +kernel
theorem dL_isAhead_107 : decode cL_isAhead 107 = .ok (.goto 4, 3) := by decide +kernel
theorem dL_isAhead_110 : decode cL_isAhead 110 = .ok (.iconst 0, 1) := by decide +kernel
theorem dL_isAhead_111 : decode cL_isAhead 111 = .ok (.iadd, 1) := by decide +kernel
theorem dL_isAhead_112 : decode cL_isAhead 112 = .ok (.istore 4, 2) := by decide +kernel
theorem dL_isAhead_114 : decode cL_isAhead 114 = .ok (.iload_n 2, 1) := by decide +kernel
theorem dL_isAhead_115 : decode cL_isAhead 115 = .ok (.ifCond .eq 84, 3) := by decide +kernel
theorem dL_isAhead_118 : decode cL_isAhead 118 = .ok (.iload 6, 2) := by decide +kernel
theorem dL_isAhead_120 : decode cL_isAhead 120 = .ok (.aload_n 0, 1) := by decide +kernel
theorem dL_isAhead_121 : decode cL_isAhead 121 = .ok (.iload 5, 2) := by decide +kernel
theorem dL_isAhead_123 : decode cL_isAhead 123 = .ok (.invokevirtual 11, 3) := by decide +kernel
theorem dL_isAhead_126 : decode cL_isAhead 126 = .ok (.if_icmp .gt 73, 3) := by decide +kernel
end
section
theorem dL_isAhead_129 : decode cL_isAhead 129 = .ok (.iload 7, 2) := by decide +kernel
theorem dL_isAhead_131 : decode cL_isAhead 131 = .ok (.ifCond .ne 8, 3) := by decide +kernel
theorem dL_isAhead_134 : decode cL_isAhead 134 = .ok (.iload 6, 2) := by decide +kernel
theorem dL_isAhead_136 : decode cL_isAhead 136 = .ok (.ifCond .ne 63, 3) := by decide +kernel
theorem dL_isAhead_139 : decode cL_isAhead 139 = .ok (.aload_n 0, 1) := by decide +kernel
theorem dL_isAhead_140 : decode cL_isAhead 140 = .ok (.iload 5, 2) := by decide +kernel
theorem dL_isAhead_142 : decode cL_isAhead 142 = .ok (.bipush 32, 2) := by decide +kernel
theorem dL_isAhead_144 : decode cL_isAhead 144 = .ok (.invokevirtual 69, 3) := by decide +kernel
theorem dL_isAhead_147 : decode cL_isAhead 147 = .ok (.iload 7, 2) := by decide +kernel
theorem dL_isAhead_149 : decode cL_isAhead 149 = .ok (.ifCond .eq 12, 3) := by decide +kernel
theorem dL_isAhead_152 : decode cL_isAhead 152 = .ok (.aload_n 0, 1) := by decide +kernel
theorem dL_isAhead_153 : decode cL_isAhead 153 = .ok (.iload 5, 2) := by decide +kernel
theorem dL_isAhead_155 : decode cL_isAhead 155 = .ok (.invokevirtual 11, 3) := by decide +kernel
theorem dL_isAhead_158 : decode cL_isAhead 158 = .ok (.goto 4, 3) := by decide +kernel
theorem dL_isAhead_161 : decode cL_isAhead 161 = .ok (.iconst 0, 1) := by decide +kernel
theorem dL_isAhead_162 : decode cL_isAhead 162 = .ok (.if_icmp .ne 37, 3) := by decide +kernel
theorem dL_isAhead_165 : decode cL_isAhead 165 = .ok (.aload_n 0, 1) := by decide +kernel
theorem dL_isAhead_166 : decode cL_isAhead 166 = .ok (.iload 5, 2) := by decide +kernel
theorem dL_isAhead_168 : decode cL_isAhead 168 = .ok (.iload_n 1, 1) := by decide +kernel
theorem dL_isAhead_169 : decode cL_isAhead 169 = .ok (.invokevirtual 69, 3) := by decide +kernel
theorem dL_isAhead_172 : decode cL_isAhead 172 = .ok (.aload_n 0, 1) := by decide +kernel
theorem dL_isAhead_173 : decode cL_isAhead 173 = .ok (.iload 5, 2) := by decide +kernel
theorem dL_isAhead_175 : decode cL_isAhead 175 = .ok (.iload_n 1, 1) := by decide +kernel
theorem dL_isAhead_176 : decode cL_isAhead 176 = .ok (.bipush 32, 2) := by decide +kernel
theorem dL_isAhead_178 : decode cL_isAhead 178 = .ok (.if_icmp .ge 9, 3) := by decide +kernel
theorem dL_isAhead_181 : decode cL_isAhead 181 = .ok (.iload_n 1, 1) := by decide +kernel
theorem dL_isAhead_182 : decode cL_isAhead 182 = .ok (.iconst 1, 1) := by decide +kernel
theorem dL_isAhead_183 : decode cL_isAhead 183 = .ok (.iadd, 1) := by decide +kernel
theorem dL_isAhead_184 : decode cL_isAhead 184 = .ok (.goto 5, 3) := by decide +kernel
theorem dL_isAhead_187 : decode cL_isAhead 187 = .ok (.bipush 32, 2) := by decide +kernel
theorem dL_isAhead_189 : decode cL_isAhead 189 = .ok (.invokevirtual 69, 3) := by decide +kernel
theorem dL_isAhead_192 : decode cL_isAhead 192 = .ok (.if_icmp .gt 7, 3) := by decide +kernel
theorem dL_isAhead_195 : decode cL_isAhead 195 = .ok (.iconst 1, 1) := by decide +kernel
theorem dL_isAhead_196 : decode cL_isAhead 196 = .ok (.goto 4, 3) := by decide +kernel
theorem dL_isAhead_199 : decode cL_isAhead 199 = .ok (.iconst 0, 1) := by decide +kernel
theorem dL_isAhead_200 : decode cL_isAhead 200 = .ok (.istore_n 2, 1) := by decide +kernel
theorem dL_isAhead_201 : decode cL_isAhead 201 = .ok (.iinc 5 1, 3) := by decide +kernel
theorem dL_isAhead_204 : decode cL_isAhead 204 = .ok (.goto (-164), 3) := by decide +kernel
theorem dL_isAhead_207 : decode cL_isAhead 207 = .ok (.iload_n 2, 1) := by decide +kernel
theorem dL_isAhead_208 : decode cL_isAhead 208 = .ok (.ifCond .eq 47, 3) := by decide +kernel
theorem dL_isAhead_211 : decode cL_isAhead 211 = .ok (.iload_n 3, 1) := by decide +kernel
theorem dL_isAhead_212 : decode cL_isAhead 212 = .ok (.iload_n 1, 1) := by decide +kernel
theorem dL_isAhead_213 : decode cL_isAhead 213 = .ok (.if_icmp .gt 42, 3) := by decide +kernel
theorem dL_isAhead_216 : decode cL_isAhead 216 = .ok (.iload_n 3, 1) := by decide +kernel
theorem dL_isAhead_217 : decode cL_isAhead 217 = .ok (.iload_n 1, 1) := by decide +kernel
theorem dL_isAhead_218 : decode cL_isAhead 218 = .ok (.aload_n 0, 1) := by decide +kernel
theorem dL_isAhead_219 : decode cL_isAhead 219 = .ok (.invokevirtual 41, 3) := by decide +kernel
theorem dL_isAhead_222 : decode cL_isAhead 222 = .ok (.if_icmp .ge 7, 3) := by decide +kernel
theorem dL_isAhead_225 : decode cL_isAhead 225 = .ok (.iload_n 1, 1) := by decide +kernel
theorem dL_isAhead_226 : decode cL_isAhead 226 = .ok (.goto 7, 3) := by decide +kernel
theorem dL_isAhead_229 : decode cL_isAhead 229 = .ok (.aload_n 0, 1) := by decide +kernel
theorem dL_isAhead_230 : decode cL_isAhead 230 = .ok (.invokevirtual 41, 3) := by decide +kernel
theorem dL_isAhead_233 : decode cL_isAhead 233 = .ok (.aload_n 0, 1) := by decide +kernel
theorem dL_isAhead_234 : decode cL_isAhead 234 = .ok (.invokevirtual 85, 3) := by decide +kernel
theorem dL_isAhead_237 : decode cL_isAhead 237 = .ok (.isub, 1) := by decide +kernel
theorem dL_isAhead_238 : decode cL_isAhead 238 = .ok (.if_icmp .lt 17, 3) := by decide +kernel
theorem dL_isAhead_241 : decode cL_isAhead 241 = .ok (.aload_n 0, 1) := by decide +kernel
theorem dL_isAhead_242 : decode cL_isAhead 242 = .ok (.iload_n 1, 1) := by decide +kernel
theorem dL_isAhead_243 : decode cL_isAhead 243 = .ok (.invokevirtual 66, 3) := by decide +kernel
theorem dL_isAhead_246 : decode cL_isAhead 246 = .ok (.iload 4, 2) := by decide +kernel
theorem dL_isAhead_248 : decode cL_isAhead 248 = .ok (.if_icmp .ne 7, 3) := by decide +kernel
theorem dL_isAhead_251 : decode cL_isAhead 251 = .ok (.iconst 1, 1) := by decide +kernel
theorem dL_isAhead_252 : decode cL_isAhead 252 = .ok (.goto 4, 3) := by decide +kernel
theorem dL_isAhead_255 : decode cL_isAhead 255 = .ok (.iconst 0, 1) := by decide +kernel
theorem dL_isAhead_256 : decode cL_isAhead 256 = .ok (.ireturn, 1) := by decide +kernel
theorem dL_law_0 : decode cL_law 0 = .ok (.new 12, 3) := by decide +kernel
theorem dL_law_3 : decode cL_law 3 = .ok (.dup, 1) := by decide +kernel
theorem dL_law_4 : decode cL_law 4 = .ok (.invokespecial 131, 3) := by decide +kernel
theorem dL_law_7 : decode cL_law 7 = .ok (.astore_n 1, 1) := by decide +kernel
theorem dL_law_8 : decode cL_law 8 = .ok (.aload_n 1, 1) := by decide +kernel
theorem dL_law_9 : decode cL_law 9 = .ok (.invokestatic 132, 3) := by decide +kernel
theorem dL_law_12 : decode cL_law 12 = .ok (.ifCond .eq 16, 3) := by decide +kernel
theorem dL_law_15 : decode cL_law 15 = .ok (.aload_n 1, 1) := by decide +kernel
theorem dL_law_16 : decode cL_law 16 = .ok (.invokevirtual 41, 3) := by decide +kernel
theorem dL_law_19 : decode cL_law 19 = .ok (.bipush 32, 2) := by decide +kernel
theorem dL_law_21 : decode cL_law 21 = .ok (.if_icmp .ne 7, 3) := by decide +kernel
theorem dL_law_24 : decode cL_law 24 = .ok (.iconst 1, 1) := by decide +kernel
theorem dL_law_25 : decode cL_law 25 = .ok (.goto 4, 3) := by decide +kernel
theorem dL_law_28 : decode cL_law 28 = .ok (.iconst 0, 1) := by decide +kernel
theorem dL_law_29 : decode cL_law 29 = .ok (.istore_n 2, 1) := by decide +kernel
theorem dL_law_30 : decode cL_law 30 = .ok (.iconst 0, 1) := by decide +kernel
theorem dL_law_31 : decode cL_law 31 = .ok (.istore_n 3, 1) := by decide +kernel
theorem dL_law_32 : decode cL_law 32 = .ok (.iload_n 3, 1) := by decide +kernel
theorem dL_law_33 : decode cL_law 33 = .ok (.bipush 72, 2) := by decide +kernel
theorem dL_law_35 : decode cL_law 35 = .ok (.if_icmp .ge 201, 3) := by decide +kernel
theorem dL_law_38 : decode cL_law 38 = .ok (.iload_n 2, 1) := by decide +kernel
theorem dL_law_39 : decode cL_law 39 = .ok (.ifCond .eq 197, 3) := by decide +kernel
theorem dL_law_42 : decode cL_law 42 = .ok (.aload_n 0, 1) := by decide +kernel
theorem dL_law_43 : decode cL_law 43 = .ok (.iconst 2, 1) := by decide +kernel
theorem dL_law_44 : decode cL_law 44 = .ok (.iload_n 3, 1) := by decide +kernel
theorem dL_law_45 : decode cL_law 45 = .ok (.imul, 1) := by decide +kernel
theorem dL_law_46 : decode cL_law 46 = .ok (.invokestatic 136, 3) := by decide +kernel
theorem dL_law_49 : decode cL_law 49 = .ok (.istore 4, 2) := by decide +kernel
theorem dL_law_51 : decode cL_law 51 = .ok (.aload_n 0, 1) := by decide +kernel
theorem dL_law_52 : decode cL_law 52 = .ok (.iconst 2, 1) := by decide +kernel
theorem dL_law_53 : decode cL_law 53 = .ok (.iload_n 3, 1) := by decide +kernel
theorem dL_law_54 : decode cL_law 54 = .ok (.imul, 1) := by decide +kernel
theorem dL_law_55 : decode cL_law 55 = .ok (.iconst 1, 1) := by decide +kernel
theorem dL_law_56 : decode cL_law 56 = .ok (.iadd, 1) := by decide +kernel
theorem dL_law_57 : decode cL_law 57 = .ok (.invokestatic 136, 3) := by decide +kernel
theorem dL_law_60 : decode cL_law 60 = .ok (.istore 5, 2) := by decide +kernel
theorem dL_law_62 : decode cL_law 62 = .ok (.aload_n 1, 1) := by decide +kernel
theorem dL_law_63 : decode cL_law 63 = .ok (.invokevirtual 140, 3) := by decide +kernel
theorem dL_law_66 : decode cL_law 66 = .ok (.lstore 6, 2) := by decide +kernel
theorem dL_law_68 : decode cL_law 68 = .ok (.aload_n 1, 1) := by decide +kernel
theorem dL_law_69 : decode cL_law 69 = .ok (.invokevirtual 144, 3) := by decide +kernel
theorem dL_law_72 : decode cL_law 72 = .ok (.istore 8, 2) := by decide +kernel
theorem dL_law_74 : decode cL_law 74 = .ok (.aload_n 1, 1) := by decide +kernel
theorem dL_law_75 : decode cL_law 75 = .ok (.iload 4, 2) := by decide +kernel
theorem dL_law_77 : decode cL_law 77 = .ok (.iload 5, 2) := by decide +kernel
theorem dL_law_79 : decode cL_law 79 = .ok (.invokestatic 147, 3) := by decide +kernel
theorem dL_law_82 : decode cL_law 82 = .ok (.ifCond .eq 30, 3) := by decide +kernel
theorem dL_law_85 : decode cL_law 85 = .ok (.aload_n 1, 1) := by decide +kernel
theorem dL_law_86 : decode cL_law 86 = .ok (.invokevirtual 144, 3) := by decide +kernel
theorem dL_law_89 : decode cL_law 89 = .ok (.iload 8, 2) := by decide +kernel
theorem dL_law_91 : decode cL_law 91 = .ok (.bipush 6, 2) := by decide +kernel
theorem dL_law_93 : decode cL_law 93 = .ok (.if_icmp .ge 10, 3) := by decide +kernel
theorem dL_law_96 : decode cL_law 96 = .ok (.iload 8, 2) := by decide +kernel
theorem dL_law_98 : decode cL_law 98 = .ok (.iconst 1, 1) := by decide +kernel
theorem dL_law_99 : decode cL_law 99 = .ok (.iadd, 1) := by decide +kernel
theorem dL_law_100 : decode cL_law 100 = .ok (.goto 5, 3) := by decide +kernel
theorem dL_law_103 : decode cL_law 103 = .ok (.bipush 6, 2) := by decide +kernel
theorem dL_law_105 : decode cL_law 105 = .ok (.if_icmp .ne 7, 3) := by decide +kernel
theorem dL_law_108 : decode cL_law 108 = .ok (.iconst 1, 1) := by decide +kernel
theorem dL_law_109 : decode cL_law 109 = .ok (.goto 4, 3) := by decide +kernel
theorem dL_law_112 : decode cL_law 112 = .ok (.iconst 0, 1) := by decide +kernel
theorem dL_law_113 : decode cL_law 113 = .ok (.istore_n 2, 1) := by decide +kernel
theorem dL_law_114 : decode cL_law 114 = .ok (.iload_n 2, 1) := by decide +kernel
theorem dL_law_115 : decode cL_law 115 = .ok (.ifCond .eq 73, 3) := by decide +kernel
theorem dL_law_118 : decode cL_law 118 = .ok (.iload 4, 2) := by decide +kernel
theorem dL_law_120 : decode cL_law 120 = .ok (.bipush 8, 2) := by decide +kernel
theorem dL_law_122 : decode cL_law 122 = .ok (.ishr, 1) := by decide +kernel
theorem dL_law_123 : decode cL_law 123 = .ok (.iconst 3, 1) := by decide +kernel
theorem dL_law_124 : decode cL_law 124 = .ok (.iand, 1) := by decide +kernel
theorem dL_law_125 : decode cL_law 125 = .ok (.ifCond .ne 63, 3) := by decide +kernel
theorem dL_law_128 : decode cL_law 128 = .ok (.aload_n 1, 1) := by decide +kernel
theorem dL_law_129 : decode cL_law 129 = .ok (.invokevirtual 140, 3) := by decide +kernel
theorem dL_law_132 : decode cL_law 132 = .ok (.lstore 9, 2) := by decide +kernel
theorem dL_law_134 : decode cL_law 134 = .ok (.aload_n 1, 1) := by decide +kernel
theorem dL_law_135 : decode cL_law 135 = .ok (.invokevirtual 144, 3) := by decide +kernel
theorem dL_law_138 : decode cL_law 138 = .ok (.iconst 1, 1) := by decide +kernel
theorem dL_law_139 : decode cL_law 139 = .ok (.isub, 1) := by decide +kernel
theorem dL_law_140 : decode cL_law 140 = .ok (.istore 11, 2) := by decide +kernel
theorem dL_law_142 : decode cL_law 142 = .ok (.aload_n 1, 1) := by decide +kernel
theorem dL_law_143 : decode cL_law 143 = .ok (.invokevirtual 151, 3) := by decide +kernel
theorem dL_law_146 : decode cL_law 146 = .ok (.iload 11, 2) := by decide +kernel
theorem dL_law_148 : decode cL_law 148 = .ok (.if_icmp .ne 38, 3) := by decide +kernel
theorem dL_law_151 : decode cL_law 151 = .ok (.aload_n 1, 1) := by decide +kernel
theorem dL_law_152 : decode cL_law 152 = .ok (.invokevirtual 140, 3) := by decide +kernel
theorem dL_law_155 : decode cL_law 155 = .ok (.lload 6, 2) := by decide +kernel
theorem dL_law_157 : decode cL_law 157 = .ok (.lcmp, 1) := by decide +kernel
theorem dL_law_158 : decode cL_law 158 = .ok (.ifCond .ne 28, 3) := by decide +kernel
theorem dL_law_161 : decode cL_law 161 = .ok (.aload_n 1, 1) := by decide +kernel
theorem dL_law_162 : decode cL_law 162 = .ok (.iload 4, 2) := by decide +kernel
theorem dL_law_164 : decode cL_law 164 = .ok (.iload 5, 2) := by decide +kernel
theorem dL_law_166 : decode cL_law 166 = .ok (.invokestatic 147, 3) := by decide +kernel
theorem dL_law_169 : decode cL_law 169 = .ok (.ifCond .eq 17, 3) := by decide +kernel
theorem dL_law_172 : decode cL_law 172 = .ok (.aload_n 1, 1) := by decide +kernel
theorem dL_law_173 : decode cL_law 173 = .ok (.invokevirtual 140, 3) := by decide +kernel
theorem dL_law_176 : decode cL_law 176 = .ok (.lload 9, 2) := by decide +kernel
theorem dL_law_178 : decode cL_law 178 = .ok (.lcmp, 1) := by decide +kernel
theorem dL_law_179 : decode cL_law 179 = .ok (.ifCond .ne 7, 3) := by decide +kernel
theorem dL_law_182 : decode cL_law 182 = .ok (.iconst 1, 1) := by decide +kernel
theorem dL_law_183 : decode cL_law 183 = .ok (.goto 4, 3) := by decide +kernel
theorem dL_law_186 : decode cL_law 186 = .ok (.iconst 0, 1) := by decide +kernel
theorem dL_law_187 : decode cL_law 187 = .ok (.istore_n 2, 1) := by decide +kernel
theorem dL_law_188 : decode cL_law 188 = .ok (.iload_n 2, 1) := by decide +kernel
theorem dL_law_189 : decode cL_law 189 = .ok (.ifCond .eq 39, 3) := by decide +kernel
theorem dL_law_192 : decode cL_law 192 = .ok (.aload_n 1, 1) := by decide +kernel
theorem dL_law_193 : decode cL_law 193 = .ok (.invokestatic 132, 3) := by decide +kernel
theorem dL_law_196 : decode cL_law 196 = .ok (.ifCond .eq 32, 3) := by decide +kernel
theorem dL_law_199 : decode cL_law 199 = .ok (.iload_n 3, 1) := by decide +kernel
theorem dL_law_200 : decode cL_law 200 = .ok (.iconst 4, 1) := by decide +kernel
theorem dL_law_201 : decode cL_law 201 = .ok (.irem, 1) := by decide +kernel
theorem dL_law_202 : decode cL_law 202 = .ok (.iconst 2, 1) := by decide +kernel
theorem dL_law_203 : decode cL_law 203 = .ok (.if_icmp .ne 21, 3) := by decide +kernel
theorem dL_law_206 : decode cL_law 206 = .ok (.aload_n 1, 1) := by decide +kernel
theorem dL_law_207 : decode cL_law 207 = .ok (.iconst 1, 1) := by decide +kernel
theorem dL_law_208 : decode cL_law 208 = .ok (.iload 5, 2) := by decide +kernel
theorem dL_law_210 : decode cL_law 210 = .ok (.iconst 5, 1) := by decide +kernel
theorem dL_law_211 : decode cL_law 211 = .ok (.ishr, 1) := by decide +kernel
theorem dL_law_212 : decode cL_law 212 = .ok (.bipush 32, 2) := by decide +kernel
theorem dL_law_214 : decode cL_law 214 = .ok (.invokestatic 82, 3) := by decide +kernel
theorem dL_law_217 : decode cL_law 217 = .ok (.iadd, 1) := by decide +kernel
theorem dL_law_218 : decode cL_law 218 = .ok (.invokestatic 154, 3) := by decide +kernel
theorem dL_law_221 : decode cL_law 221 = .ok (.ifCond .eq 7, 3) := by decide +kernel
theorem dL_law_224 : decode cL_law 224 = .ok (.iconst 1, 1) := by decide +kernel
theorem dL_law_225 : decode cL_law 225 = .ok (.goto 4, 3) := by decide +kernel
theorem dL_law_228 : decode cL_law 228 = .ok (.iconst 0, 1) := by decide +kernel
theorem dL_law_229 : decode cL_law 229 = .ok (.istore_n 2, 1) := by decide +kernel
theorem dL_law_230 : decode cL_law 230 = .ok (.iinc 3 1, 3) := by decide +kernel
theorem dL_law_233 : decode cL_law 233 = .ok (.goto (-201), 3) := by decide +kernel
theorem dL_law_236 : decode cL_law 236 = .ok (.iload_n 2, 1) := by decide +kernel
theorem dL_law_237 : decode cL_law 237 = .ok (.ireturn, 1) := by decide +kernel
end
