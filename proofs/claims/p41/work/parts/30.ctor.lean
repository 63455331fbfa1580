section CTOR
variable {Γ : Ctx} {cc : ByteArray} {nL k n pc pc' : Nat} {own : String} {R0 : Room} {lv : List (Nat × Value)} {st : List Value} {ws ws' : va_W}
theorem x_perm (is : List Nat) (h : is.map (fun i => ws[i]?) = ws'.map some) (hn : va_nd is = true) (kk : X Γ nL k n pc lv st ws') : X Γ nL k n pc lv st ws := by
  obtain ⟨p, l, e, R, s, m, args, below, meth, c, Q, A, D, cs⟩ := Γ
  intro H locs ls hP hD hS hl
  exact kk H locs ls (hP.sub is (fm_of h)) (hD.sub is hn h) hS hl
theorem arrQ_congr {cA : ClassId} {N : Nat} {f g : Nat → Option Nat} (h : ∀ i, i < N → f i = g i) : vp_cell cA (N, .inr (.inr (.inr (.inr f)))) = vp_cell cA (N, .inr (.inr (.inr (.inr g)))) := by
  rw [vp_cell_q, vp_cell_q]
  unfold arrV
  congr 2
  funext j
  show va_rf (f j.1) = va_rf (g j.1)
  rw [h j.1 j.2]
theorem x_rowq (q0 : Nat) {a N : Nat} {cA : ClassId} {f g : Nat → Option Nat} (he : ws[q0]? = some (a, .inl (cA, N, .inr (.inr (.inr (.inr f)))))) (hfg : ∀ i, i < N → f i = g i) (hws : ws.set q0 (a, .inl (cA, N, .inr (.inr (.inr (.inr g))))) = ws') (kk : X Γ nL k n pc lv st ws') : X Γ nL k n pc lv st ws := by
  obtain ⟨p, l, e, R, s, m, args, below, meth, c, Q, A, D, cs⟩ := Γ
  subst hws
  intro H locs ls hP hD hS hl
  refine kk H locs ls (hP.set hD he ?_ (fun _ _ => rfl)) (hD.set he) hS hl
  show H[a]? = some (vp_cell _ _)
  rw [← arrQ_congr hfg]
  exact hP q0 _ he
theorem x_objInit (B : CX Γ cc nL own R0) {idx a : Nat} (w1 : Cond.methodLink own idx objectInit ∈ GW) (w2 : Cond.instanceMethod objectInit ∈ GW) (w3 : Cond.code objectInit ⟨#[0xb1]⟩ 1 none ∈ GW) (hR : 1 ≤ R0.frames ∧ 20 ≤ R0.locals) (hsum : (st.map fun v => v.category).sum ≤ 8) (d : decode cc pc = .ok (.invokespecial idx, 3)) (hp : pc + 3 = pc') (kk : X Γ nL k n pc' lv st ws) : X Γ nL k n pc lv (.ref a :: st) ws := by
  obtain ⟨p, l, e, R, s, m, args, below, meth, c, Q, A, D, cs⟩ := Γ
  subst hp
  obtain ⟨hfix, hKN, hA, hlk, rfl⟩ := B
  intro H locs ls hP hD hS hl
  exact W.objInit hfix.1 hfix.2.1 hfix.2.2.2.1 (hfix.2.2.2.2 _ w1) (hfix.2.2.2.2 _ w2) (hfix.2.2.2.2 _ w3) rfl (hl.1.trans hfix.2.2.1.symm) rfl d hR.1 (Nat.le_trans (Nat.add_le_add_right (lv_room hsum) 12) hR.2) (kk H locs ls hP hD hS hl)
theorem ra_int {s : State} {c1 c2 : ClassId} (h1 : va_RA s c1 .int) (h2 : va_RA s c2 .int) : c1 = c2 := Option.some.inj (Eq.trans (Eq.symm h1) h2)
theorem ra_long {s : State} {c1 c2 : ClassId} (h1 : va_RA s c1 .long) (h2 : va_RA s c2 .long) : c1 = c2 := Option.some.inj (Eq.trans (Eq.symm h1) h2)
theorem ra_obj {s : State} {c1 c2 : ClassId} {C : String} (h1 : va_RA s c1 (.object C)) (h2 : va_RA s c2 (.object C)) : c1 = c2 := by
  obtain ⟨_, _, _, _, _, a⟩ := h1
  obtain ⟨_, _, _, _, _, b⟩ := h2
  exact Option.some.inj (a.symm.trans b)
theorem x_newa (B : CX Γ cc nL own R0) (N : Nat) {z : Int32} (hz : z.toNatClampNeg = N) (h0 : ¬ z < 0) (hb : N * 4 ≤ 536870912) (w : Cond.arrayClass .int ∈ GW) (hroom : k + 1 ≤ R0.cells ∧ n + N ≤ R0.slots) (d : decode cc pc = .ok (.newarray .int, 2)) (hp : pc + 2 = pc') (kk : ∀ q, X Γ nL (k + 1) (n + N) pc' lv (.ref q :: st) (ws ++ [(q, .inl (Γ.cs.1, N, .inl (fun _ => 0)))])) : X Γ nL k n pc lv (.int z :: st) ws := by
  obtain ⟨p, l, e, R, s, m, args, below, meth, c, Q, A, D, cs⟩ := Γ
  subst hp
  obtain ⟨hfix, hKN, hA, hlk, rfl⟩ := B
  intro H locs ls hP hD hS hl
  refine va_newa (atype := .int) (ty := .int) (a0 := (N, .inl (fun _ => 0))) hfix.1 hfix.2.1 (hfix.2.2.2.2 _ w) rfl hKN.1 hP hD hS hA (fun _ => rfl) h0 hz hb hroom.1 hroom.2 d (fun q cA H1 hK1 hP1 hD1 hS1 => ?_)
  have e1 : cA = cs.1 := ra_int (hK1.2 3 (cA, .int) rfl).2 (hKN.1.2 0 (cs.1, .int) rfl).2
  subst e1
  exact kk q H1 locs ls hP1 hD1 hS1 hl
theorem x_newal (B : CX Γ cc nL own R0) (N : Nat) {z : Int32} (hz : z.toNatClampNeg = N) (h0 : ¬ z < 0) (hb : N * 8 ≤ 536870912) (w : Cond.arrayClass .long ∈ GW) (hroom : k + 1 ≤ R0.cells ∧ n + N ≤ R0.slots) (d : decode cc pc = .ok (.newarray .long, 2)) (hp : pc + 2 = pc') (kk : ∀ q, X Γ nL (k + 1) (n + N) pc' lv (.ref q :: st) (ws ++ [(q, .inl (Γ.cs.2.1, N, .inr (.inl (fun _ => 0))))])) : X Γ nL k n pc lv (.int z :: st) ws := by
  obtain ⟨p, l, e, R, s, m, args, below, meth, c, Q, A, D, cs⟩ := Γ
  subst hp
  obtain ⟨hfix, hKN, hA, hlk, rfl⟩ := B
  intro H locs ls hP hD hS hl
  refine va_newa (atype := .long) (ty := .long) (a0 := (N, .inr (.inl (fun _ => 0)))) hfix.1 hfix.2.1 (hfix.2.2.2.2 _ w) rfl hKN.1 hP hD hS hA (fun _ => rfl) h0 hz hb hroom.1 hroom.2 d (fun q cA H1 hK1 hP1 hD1 hS1 => ?_)
  have e1 : cA = cs.2.1 := ra_long (hK1.2 3 (cA, .long) rfl).2 (hKN.1.2 1 (cs.2.1, .long) rfl).2
  subst e1
  exact kk q H1 locs ls hP1 hD1 hS1 hl
theorem x_newq (B : CX Γ cc nL own R0) (N : Nat) {index : Nat} {z : Int32} (hz : z.toNatClampNeg = N) (h0 : ¬ z < 0) (hb : N * 4 ≤ 536870912) (w : Cond.classLink own index RX1 ∈ GW) (hroom : k + 1 ≤ R0.cells ∧ n + N ≤ R0.slots) (d : decode cc pc = .ok (.anewarray index, 3)) (hp : pc + 3 = pc') (kk : ∀ q, X Γ nL (k + 1) (n + N) pc' lv (.ref q :: st) (ws ++ [(q, .inl (Γ.cs.2.2, N, .inr (.inr (.inr (.inr (fun _ => none))))))])) : X Γ nL k n pc lv (.int z :: st) ws := by
  obtain ⟨p, l, e, R, s, m, args, below, meth, c, Q, A, D, cs⟩ := Γ
  subst hp
  obtain ⟨hfix, hKN, hA, hlk, rfl⟩ := B
  intro H locs ls hP hD hS hl
  refine va_newq hfix.1 hfix.2.1 hfix.2.2.2.1 (hfix.2.2.2.2 _ w) (hKN.2.2.1 (.arrayOver (.object RX1)) (by simp [castW])) hKN.1 hP hD hS hA h0 hz hb hroom.1 hroom.2 d (fun q cA H1 hK1 hP1 hD1 hS1 => ?_)
  have e1 : cA = cs.2.2 := ra_obj (hK1.2 3 (cA, .object RX1) rfl).2 (hKN.1.2 2 (cs.2.2, .object RX1) rfl).2
  subst e1
  exact kk q H1 locs ls hP1 hD1 hS1 hl
theorem x_aast (B : CX Γ cc nL own R0) {a N v ci : Nat} {f : Nat → Option Nat} {i : Int32} {vs : List Value} (q0 qk : Nat) (he : ws[q0]? = some (a, .inl (Γ.cs.2.2, N, .inr (.inr (.inr (.inr f)))))) (hv : ws[qk]? = some (v, .inr (ci, vs))) (hc : vwCl[ci]? = some (RX1, TX1, 14)) (jj : Nat) (hjj : i.toNatClampNeg = jj) (hi : vp_in i N) (hws : ws.set q0 (a, .inl (Γ.cs.2.2, N, .inr (.inr (.inr (.inr (va_up f jj (some v))))))) = ws') (d : decode cc pc = .ok (.aastore, 1)) (hp : pc + 1 = pc') (kk : X Γ nL k n pc' lv st ws') : X Γ nL k n pc lv (.ref v :: .int i :: .ref a :: st) ws := by
  obtain ⟨p, l, e, R, s, m, args, below, meth, c, Q, A, D, cs⟩ := Γ
  subst hp
  subst hws
  subst hjj
  intro H locs ls hP hD hS hl
  exact va_astq B.1.1 B.1.2.1 B.2.1.1 hP hD hS q0 2 qk ci he rfl hv hc hi d (fun H1 locs1 hP1 hD1 hS1 => kk H1 locs1 ls hP1 hD1 hS1 hl)
theorem x_new (B : CX Γ cc nL own R0) {index ci N : Nat} {C : String} {T : u_T} {fs : List Value} (ty : Nat → FieldType) (hty : ∀ k, k < N → parseFieldDescriptor (T k).2.2.1 = some (ty k)) (hc : vwCl[ci]? = some (C, T, N)) (hin : ∀ w ∈ u_ws C T N, w ∈ GW) (w1 : Cond.classLink own index C ∈ GW) (w2 : Cond.instantiable C N ∈ GW) (w3 : Cond.initialized C ∈ GW) (hfs : ∀ j, j < N → defaultValue (ty j) = vp_V fs j) (hroom : k + 1 ≤ R0.cells ∧ n + N ≤ R0.slots) (d : decode cc pc = .ok (.new index, 3)) (hp : pc + 3 = pc') (kk : ∀ q, X Γ nL (k + 1) (n + N) pc' lv (.ref q :: st) (ws ++ [(q, .inr (ci, fs))])) : X Γ nL k n pc lv st ws := by
  obtain ⟨p, l, e, R, s, m, args, below, meth, c, Q, A, D, cs⟩ := Γ
  subst hp
  obtain ⟨hfix, hKN, hA, hlk, rfl⟩ := B
  intro H locs ls hP hD hS hl
  exact va_new hfix.1 hfix.2.1 hfix.2.2.2.2 hin ty hty hfix.2.2.2.1 (hfix.2.2.2.2 _ w1) (hfix.2.2.2.2 _ w2) (hfix.2.2.2.2 _ w3) hKN.1 hP hD hS hA hc hfs hroom.1 hroom.2 d (fun q H1 hP1 hD1 hS1 => kk q H1 locs ls hP1 hD1 hS1 hl)
end CTOR
/-- a constructor: the world behind it is one that 'post' tells of -/
def KI {σ : Type} (l : Launch) (D : va_G) (cs : CS) (y : MethodName) (bytes : ByteArray) (maxL : Nat) (rm : Room) (av : List Value) (w : va_W) (post : σ → Prop) (Bw : σ → va_W) : Prop := ∀ sz, Met l y (.code y bytes maxL none :: GW) rm (PR D cs av w sz) (va_Qv post (fun u t => va_P D vwCl (Bw u) t.heap ∧ va_D (va_A w sz) (Bw u)) (va_A w sz)) rm.cells rm.slots (va_A w sz)
theorem KI_of {σ : Type} {l : Launch} {D : va_G} {cs : CS} {y : MethodName} {bytes : ByteArray} {maxL : Nat} {rm : Room} {av : List Value} {w : va_W} {post : σ → Prop} {Bw : σ → va_W} (hy : plainName y.cls = true) (hnm : y.name = "<init>") (hlen : (lg_sl av).length ≤ maxL)
    (body : ∀ Γ : Ctx, Γ.l = l → Γ.D = D → Γ.cs = cs → CX Γ bytes maxL y.cls rm → Γ.2.2.2.2.2.2.2.2.1.name = "<init>" → (∀ {k n pc : Nat} {lv : List (Nat × Value)} (u : σ), post u → k ≤ rm.cells → n ≤ rm.slots → decode bytes pc = .ok (.return_, 1) → X Γ maxL k n pc lv [] (Bw u)) → X Γ maxL 0 0 0 (lv_args 0 av) [] w) : KI l D cs y bytes maxL rm av w post Bw := by
  intro sz
  refine Met.ofW (cc := bytes) (maxL := maxL) (ret := none) hy rfl ?_
  intro p e s m args below meth c s₁ B hml hv
  obtain ⟨rfl, hsz, hP, hK, hD0⟩ := hv
  subst hsz
  have hts := atoms_spec (ws := .code y bytes maxL none :: GW) B.pre
  have hown : s.vm.findClass y.cls = some m.cls := findClass_of_methodNamed B.named
  have hl := lv_entry av (n := maxL) hlen
  rw [lg_entry_eq]
  have hD := hD0.self (sz := s.heap.size)
  refine body (p, l, e, rm, s, m, av.toArray, below, meth, c, _, va_A w s.heap.size, D, cs) rfl rfl rfl ⟨⟨B.exec, B.bytes, hml, hown, fun w h => hts w (List.mem_cons_of_mem _ h)⟩, hK, fun q h => Or.inr h, B.notSynchronized, rfl⟩ ((name_of_methodNamed B.named B.method).1.trans hnm) ?_ s.heap [] _ hP hD va_S.rf hl
  intro k n pc lv u hu hk hn d H locs ls hP1 hD1 hS hl1
  have hlocks : meth.locks = false := B.notSynchronized
  exact W.widen hk hn (W.vret B.exec B.bytes B.returns (fun t ht hW => ⟨⟨u, rfl, hu, by rw [ht]; exact hP1, hD1⟩, hS.F ht⟩) hS.2.2 d)
theorem x_GI {Γ : Ctx} {cc : ByteArray} {nL k n pc pc' : Nat} {own : String} {R0 : Room} {lv : List (Nat × Value)} {st : List Value} {ws : va_W} (B : CX Γ cc nL own R0) {σ : Type} {y : MethodName} {index maxL : Nat} {bytes : ByteArray} {rm : Room} {b : Addr} {post : σ → Prop} {Bw : σ → va_W} {w wr : va_W} (hM : KI Γ.l Γ.D Γ.cs y bytes maxL rm [.ref b] w post Bw) (isC isR : List Nat) (hC : isC.map (fun i => ws[i]?) = w.map some) (hcn : va_nd isC = true) (hRr : isR.map (fun i => ws[i]?) = wr.map some) (hrn : va_nd isR = true) (hdis : ∀ i ∈ isR, i ∉ isC) (hnm : y.name = "<init>") (hg : GoodIn GW ([.methodLink own index y, .instanceMethod y, .initialized y.cls, .code y bytes maxL none] ++ GW)) (hd : y.cls ≠ "java/lang/invoke/MethodHandle" ∧ y.cls ≠ "java/lang/invoke/VarHandle" ∧ (parseMethodDescriptor y.desc).map (fun d => d.parameters.length) = some 0) (hR : rm.frames + 1 ≤ R0.frames ∧ 8 + (maxL + 11) + rm.locals ≤ R0.locals) (hroom : k + rm.cells ≤ R0.cells ∧ n + rm.slots ≤ R0.slots) (hsum : (st.map fun v => v.category).sum ≤ 8) (d : decode cc pc = .ok (.invokespecial index, 3)) (hp : pc + 3 = pc') (kk : ∀ u, post u → X Γ nL (k + rm.cells) (n + rm.slots) pc' lv st (wr ++ Bw u)) : X Γ nL k n pc lv (.ref b :: st) ws := by
  obtain ⟨p, l, e, R, s, m, args, below, meth, c, Q, A, D, cs⟩ := Γ
  subst hp
  obtain ⟨hfix, hKN, hA, hlk, rfl⟩ := B
  intro H locs ls hP hD hS hl
  have hPc : va_P D vwCl w H := hP.sub isC (fm_of hC)
  have hDc : va_D A w := hD.sub isC hcn hC
  have hFc := va_free hD hS hA isC hC
  have ok9 := fun (w : Cond) (h : w ∈ _) => hfix.2.2.2.2 w (hg w h).1
  refine va_callv (va_runI (As := []) (rest := st) hfix (hM H.size) (cwI 0 hfix.2.2.2.2 (fun w h => hg w (List.mem_append_right [_, _, _] h)) rfl rfl rfl (ok9 _ (by simp)) (ok9 _ (by simp)) (ok9 _ (by simp)) hnm hd hR) ⟨pr_blind _ _ _ _ _, fun U hU hW => ⟨rfl, by rw [hU], by rw [hU]; exact hPc, KN.warm hW hKN, hDc.weaken (fun _ _ _ _ => trivial)⟩⟩ rfl rfl hl.1 rfl (lv_room hsum) d hroom) hS (fun q _ h => hFc q h) hFc (fun u t H1 locs1 ht hvm hu hB hz1 hk1 hS1 => ?_)
  obtain ⟨hP1, hD1⟩ := hB
  rw [ht] at hP1
  obtain ⟨hP2, hD2⟩ := va_join hP hD isC isR hC hRr hrn hdis hk1 hFc hP1 hD1
  exact kk u hu H1 locs1 ls hP2 hD2 hS1 hl
theorem wo_RX0_3 : Cond.methodLink RX0 3 objectInit ∈ GW := List.mem_of_getElem? (i := 42) (by decide +kernel)
theorem wo_RX1_3 : Cond.methodLink RX1 3 objectInit ∈ GW := List.mem_of_getElem? (i := 23) (by decide +kernel)
theorem wo_RX2_1 : Cond.methodLink RX2 1 objectInit ∈ GW := List.mem_of_getElem? (i := 6) (by decide +kernel)
theorem wo1 : Cond.instanceMethod objectInit ∈ GW := List.mem_of_getElem? (i := 7) (by decide +kernel)
theorem wo2 : Cond.code objectInit ⟨#[0xb1]⟩ 1 none ∈ GW := List.mem_of_getElem? (i := 8) (by decide +kernel)
theorem wac : Cond.arrayClass .int ∈ GW := List.mem_of_getElem? (i := 24) (by decide +kernel)
theorem wal : Cond.arrayClass .long ∈ GW := List.mem_of_getElem? (i := 350) (by decide +kernel)
theorem wi_RX0 : Cond.instantiable RX0 2 ∈ GW := List.mem_of_getElem? (i := 17) (by decide +kernel)
theorem wn_RX0 : Cond.initialized RX0 ∈ GW := List.mem_of_getElem? (i := 18) (by decide +kernel)
theorem wi_RX1 : Cond.instantiable RX1 14 ∈ GW := List.mem_of_getElem? (i := 10) (by decide +kernel)
theorem wn_RX1 : Cond.initialized RX1 ∈ GW := List.mem_of_getElem? (i := 11) (by decide +kernel)
theorem wi_RX2 : Cond.instantiable RX2 5 ∈ GW := List.mem_of_getElem? (i := 1) (by decide +kernel)
theorem wn_RX2 : Cond.initialized RX2 ∈ GW := List.mem_of_getElem? (i := 2) (by decide +kernel)
theorem wc_RL_12 : Cond.classLink RL 12 RX2 ∈ GW := List.mem_of_getElem? (i := 0) (by decide +kernel)
theorem wc_RX2_7 : Cond.classLink RX2 7 RX1 ∈ GW := List.mem_of_getElem? (i := 9) (by decide +kernel)
theorem wc_RX2_27 : Cond.classLink RX2 27 RX0 ∈ GW := List.mem_of_getElem? (i := 16) (by decide +kernel)
theorem gi_RX2_9 : GoodIn GW ([.methodLink RX2 9 yX1_init, .instanceMethod yX1_init, .initialized yX1_init.cls, .code yX1_init cX1_init 2 none] ++ GW) := gw_app [Cond.methodLink RX2 9 yX1_init, Cond.instanceMethod yX1_init, Cond.initialized RX1, Cond.code yX1_init cX1_init 2 none] [20, 21, 11, 22] (by decide +kernel) (by decide +kernel)
theorem gi_RX2_29 : GoodIn GW ([.methodLink RX2 29 yX0_init, .instanceMethod yX0_init, .initialized yX0_init.cls, .code yX0_init cX0_init 1 none] ++ GW) := gw_app [Cond.methodLink RX2 29 yX0_init, Cond.instanceMethod yX0_init, Cond.initialized RX0, Cond.code yX0_init cX0_init 1 none] [39, 40, 18, 41] (by decide +kernel) (by decide +kernel)
theorem gi_RL_131 : GoodIn GW ([.methodLink RL 131 yX2_init, .instanceMethod yX2_init, .initialized yX2_init.cls, .code yX2_init cX2_init 2 none] ++ GW) := gw_app [Cond.methodLink RL 131 yX2_init, Cond.instanceMethod yX2_init, Cond.initialized RX2, Cond.code yX2_init cX2_init 2 none] [3, 4, 2, 5] (by decide +kernel) (by decide +kernel)
theorem np_X0_init : yX0_init.cls ≠ "java/lang/invoke/MethodHandle" ∧ yX0_init.cls ≠ "java/lang/invoke/VarHandle" ∧ (parseMethodDescriptor yX0_init.desc).map (fun d => d.parameters.length) = some 0 := by decide +kernel
theorem np_X1_init : yX1_init.cls ≠ "java/lang/invoke/MethodHandle" ∧ yX1_init.cls ≠ "java/lang/invoke/VarHandle" ∧ (parseMethodDescriptor yX1_init.desc).map (fun d => d.parameters.length) = some 0 := by decide +kernel
theorem np_X2_init : yX2_init.cls ≠ "java/lang/invoke/MethodHandle" ∧ yX2_init.cls ≠ "java/lang/invoke/VarHandle" ∧ (parseMethodDescriptor yX2_init.desc).map (fun d => d.parameters.length) = some 0 := by decide +kernel
abbrev zT (h : Nat) : va_W := [(h, .inr (0, [.null, .int 0]))]
abbrev rm_X0_init : Room := { frames := 1, cells := 1, slots := 60, locals := 20 }
set_option maxHeartbeats 4000000 in
set_option maxRecDepth 100000 in
theorem k_X0_init (l : Launch) (D : va_G) (cs : CS) (h : Nat) : KI l D cs yX0_init cX0_init 1 rm_X0_init [.ref h] (zT h) (fun (q : Nat) => True) (fun q => wT cs.1 (fun i => if i = 0 then h else q) (fun _ => 0, fun _ _ => 0)) := by
  refine KI_of (by decide) rfl (Nat.le_of_ble_eq_true rfl) ?_
  rintro Γ rfl rfl rfl B hin ret
  show X Γ 1 0 0 0 [(0, .ref h)] [] (zT h)
  refine x_aload_n B (pc' := 1) 0 dX0_init_0 rfl rfl rfl ?_
  refine x_objInit B (pc' := 4) wo_RX0_3 wo1 wo2 ⟨Nat.le_of_ble_eq_true rfl, Nat.le_of_ble_eq_true rfl⟩ (Nat.le_of_ble_eq_true rfl) dX0_init_1 rfl ?_
  refine x_aload_n B (pc' := 5) 0 dX0_init_4 rfl rfl rfl ?_
  refine x_bipush B (pc' := 7) 60 dX0_init_5 (by decide) rfl ?_
  refine x_newa B (pc' := 9) 60 (by decide) (by decide) (Nat.le_of_ble_eq_true rfl) wac ⟨Nat.le_of_ble_eq_true rfl, Nat.le_of_ble_eq_true rfl⟩ dX0_init_7 rfl (fun q => ?_)
  refine x_putF (ws' := [(h, .inr (0, [.ref q, .int 0])), (q, .inl (Γ.cs.1, 60, .inl (fun _ => 0)))]) B hin (pc' := 12) 0 0 tyX0 tyX0_ok nmX0 rfl rfl inlX0 (by decide) wf_RX0_9 rfl rfl rfl rfl (Nat.le_of_ble_eq_true rfl) rfl dX0_init_9 rfl ?_
  refine x_aload_n B (pc' := 13) 0 dX0_init_12 rfl rfl rfl ?_
  refine x_iconst B (pc' := 14) 0 dX0_init_13 (by decide) rfl ?_
  refine x_putf (ws' := [(h, .inr (0, [.ref q, .int 0])), (q, .inl (Γ.cs.1, 60, .inl (fun _ => 0)))]) B (pc' := 17) 0 1 tyX0 tyX0_ok nmX0 rfl rfl inlX0 (by decide) wf_RX0_15 rfl rfl rfl (Nat.le_of_ble_eq_true rfl) rfl dX0_init_14 rfl ?_
  exact ret q trivial (by exact Nat.le_of_ble_eq_true rfl) (by exact Nat.le_of_ble_eq_true rfl) dX0_init_17
abbrev zS (h : Nat) : va_W := [(h, .inr (1, [.null, .null, .null, .null, .int 0, .null, .null, .int 0, .int 0, .int 0, .int 0, .int 0, .int 0, .int 0]))]
def sc0 : Nat → Int32 := fun k => if k = 12 then -1 else if k = 13 then -1 else 0
def iS (f : Nat → Int32) : OB := (sc0, fun j => if j = 0 then f else fun _ => 0)
def adS (h q0 q1 q2 q3 q5 q6 : Nat) : Nat → Nat := fun i => if i = 0 then h else if i = 1 then q0 else if i = 2 then q1 else if i = 3 then q2 else if i = 4 then q3 else if i = 5 then q5 else q6
abbrev rm_X1_init : Room := { frames := 1, cells := 6, slots := 148, locals := 20 }
set_option maxHeartbeats 4000000 in
set_option maxRecDepth 100000 in
theorem k_X1_init (l : Launch) (D : va_G) (cs : CS) (h : Nat) : KI l D cs yX1_init cX1_init 2 rm_X1_init [.ref h] (zS h) (fun (u : (Nat → Int32) × Nat × Nat × Nat × Nat × Nat × Nat) => ∀ j, j < 32 → u.1 j = -1) (fun u => wS cs.1 (adS h u.2.1 u.2.2.1 u.2.2.2.1 u.2.2.2.2.1 u.2.2.2.2.2.1 u.2.2.2.2.2.2) (iS u.1)) := by
  refine KI_of (by decide) rfl (Nat.le_of_ble_eq_true rfl) ?_
  rintro Γ rfl rfl rfl B hin ret
  show X Γ 2 0 0 0 [(0, .ref h)] [] (zS h)
  refine x_aload_n B (pc' := 1) 0 dX1_init_0 rfl rfl rfl ?_
  refine x_objInit B (pc' := 4) wo_RX1_3 wo1 wo2 ⟨Nat.le_of_ble_eq_true rfl, Nat.le_of_ble_eq_true rfl⟩ (Nat.le_of_ble_eq_true rfl) dX1_init_1 rfl ?_
  refine x_aload_n B (pc' := 5) 0 dX1_init_4 rfl rfl rfl ?_
  refine x_bipush B (pc' := 7) 32 dX1_init_5 (by decide) rfl ?_
  refine x_newa B (pc' := 9) 32 (by decide) (by decide) (Nat.le_of_ble_eq_true rfl) wac ⟨Nat.le_of_ble_eq_true rfl, Nat.le_of_ble_eq_true rfl⟩ dX1_init_7 rfl (fun q0 => ?_)
  refine x_putF (ws' := [(h, .inr (1, [.ref q0, .null, .null, .null, .int 0, .null, .null, .int 0, .int 0, .int 0, .int 0, .int 0, .int 0, .int 0])), (q0, .inl (Γ.cs.1, 32, .inl (fun _ => 0)))]) B hin (pc' := 12) 0 0 tyX1 tyX1_ok nmX1 rfl rfl inlX1 (by decide) wf_RX1_9 rfl rfl rfl rfl (Nat.le_of_ble_eq_true rfl) rfl dX1_init_9 rfl ?_
  have rest : ∀ (f : Nat → Int32) (i : Int32), (∀ j, j < 32 → f j = -1) → X Γ 2 1 32 33 [(0, .ref h), (1, .int i)] [] [(h, .inr (1, [.ref q0, .null, .null, .null, .int 0, .null, .null, .int 0, .int 0, .int 0, .int 0, .int 0, .int 0, .int 0])), (q0, .inl (Γ.cs.1, 32, .inl f))] := by
    intro f i hf
    refine x_lv [0] (lv' := [(0, .ref h)]) rfl ?_
    refine x_aload_n B (pc' := 34) 0 dX1_init_33 rfl rfl rfl ?_
    refine x_bipush B (pc' := 36) 32 dX1_init_34 (by decide) rfl ?_
    refine x_newa B (pc' := 38) 32 (by decide) (by decide) (Nat.le_of_ble_eq_true rfl) wac ⟨by exact Nat.le_of_ble_eq_true rfl, by exact Nat.le_of_ble_eq_true rfl⟩ dX1_init_36 rfl (fun q1 => ?_)
    refine x_putF (ws' := [(h, .inr (1, [.ref q0, .ref q1, .null, .null, .int 0, .null, .null, .int 0, .int 0, .int 0, .int 0, .int 0, .int 0, .int 0])), (q0, .inl (Γ.cs.1, 32, .inl f)), (q1, .inl (Γ.cs.1, 32, .inl (fun _ => 0)))]) B hin (pc' := 41) 0 1 tyX1 tyX1_ok nmX1 rfl rfl inlX1 (by decide) wf_RX1_15 rfl rfl rfl rfl (Nat.le_of_ble_eq_true rfl) rfl dX1_init_38 rfl ?_
    refine x_aload_n B (pc' := 42) 0 dX1_init_41 rfl rfl rfl ?_
    refine x_bipush B (pc' := 44) 32 dX1_init_42 (by decide) rfl ?_
    refine x_newa B (pc' := 46) 32 (by decide) (by decide) (Nat.le_of_ble_eq_true rfl) wac ⟨by exact Nat.le_of_ble_eq_true rfl, by exact Nat.le_of_ble_eq_true rfl⟩ dX1_init_44 rfl (fun q2 => ?_)
    refine x_putF (ws' := [(h, .inr (1, [.ref q0, .ref q1, .ref q2, .null, .int 0, .null, .null, .int 0, .int 0, .int 0, .int 0, .int 0, .int 0, .int 0])), (q0, .inl (Γ.cs.1, 32, .inl f)), (q1, .inl (Γ.cs.1, 32, .inl (fun _ => 0))), (q2, .inl (Γ.cs.1, 32, .inl (fun _ => 0)))]) B hin (pc' := 49) 0 2 tyX1 tyX1_ok nmX1 rfl rfl inlX1 (by decide) wf_RX1_18 rfl rfl rfl rfl (Nat.le_of_ble_eq_true rfl) rfl dX1_init_46 rfl ?_
    refine x_aload_n B (pc' := 50) 0 dX1_init_49 rfl rfl rfl ?_
    refine x_bipush B (pc' := 52) 32 dX1_init_50 (by decide) rfl ?_
    refine x_newa B (pc' := 54) 32 (by decide) (by decide) (Nat.le_of_ble_eq_true rfl) wac ⟨by exact Nat.le_of_ble_eq_true rfl, by exact Nat.le_of_ble_eq_true rfl⟩ dX1_init_52 rfl (fun q3 => ?_)
    refine x_putF (ws' := [(h, .inr (1, [.ref q0, .ref q1, .ref q2, .ref q3, .int 0, .null, .null, .int 0, .int 0, .int 0, .int 0, .int 0, .int 0, .int 0])), (q0, .inl (Γ.cs.1, 32, .inl f)), (q1, .inl (Γ.cs.1, 32, .inl (fun _ => 0))), (q2, .inl (Γ.cs.1, 32, .inl (fun _ => 0))), (q3, .inl (Γ.cs.1, 32, .inl (fun _ => 0)))]) B hin (pc' := 57) 0 3 tyX1 tyX1_ok nmX1 rfl rfl inlX1 (by decide) wf_RX1_21 rfl rfl rfl rfl (Nat.le_of_ble_eq_true rfl) rfl dX1_init_54 rfl ?_
    refine x_aload_n B (pc' := 58) 0 dX1_init_57 rfl rfl rfl ?_
    refine x_iconst B (pc' := 59) 0 dX1_init_58 (by decide) rfl ?_
    refine x_putf (ws' := [(h, .inr (1, [.ref q0, .ref q1, .ref q2, .ref q3, .int 0, .null, .null, .int 0, .int 0, .int 0, .int 0, .int 0, .int 0, .int 0])), (q0, .inl (Γ.cs.1, 32, .inl f)), (q1, .inl (Γ.cs.1, 32, .inl (fun _ => 0))), (q2, .inl (Γ.cs.1, 32, .inl (fun _ => 0))), (q3, .inl (Γ.cs.1, 32, .inl (fun _ => 0)))]) B (pc' := 62) 0 4 tyX1 tyX1_ok nmX1 rfl rfl inlX1 (by decide) wf_RX1_24 rfl rfl rfl (Nat.le_of_ble_eq_true rfl) rfl dX1_init_59 rfl ?_
    refine x_aload_n B (pc' := 63) 0 dX1_init_62 rfl rfl rfl ?_
    refine x_bipush B (pc' := 65) 10 dX1_init_63 (by decide) rfl ?_
    refine x_newa B (pc' := 67) 10 (by decide) (by decide) (Nat.le_of_ble_eq_true rfl) wac ⟨by exact Nat.le_of_ble_eq_true rfl, by exact Nat.le_of_ble_eq_true rfl⟩ dX1_init_65 rfl (fun q5 => ?_)
    refine x_putF (ws' := [(h, .inr (1, [.ref q0, .ref q1, .ref q2, .ref q3, .int 0, .ref q5, .null, .int 0, .int 0, .int 0, .int 0, .int 0, .int 0, .int 0])), (q0, .inl (Γ.cs.1, 32, .inl f)), (q1, .inl (Γ.cs.1, 32, .inl (fun _ => 0))), (q2, .inl (Γ.cs.1, 32, .inl (fun _ => 0))), (q3, .inl (Γ.cs.1, 32, .inl (fun _ => 0))), (q5, .inl (Γ.cs.1, 10, .inl (fun _ => 0)))]) B hin (pc' := 70) 0 5 tyX1 tyX1_ok nmX1 rfl rfl inlX1 (by decide) wf_RX1_28 rfl rfl rfl rfl (Nat.le_of_ble_eq_true rfl) rfl dX1_init_67 rfl ?_
    refine x_aload_n B (pc' := 71) 0 dX1_init_70 rfl rfl rfl ?_
    refine x_bipush B (pc' := 73) 10 dX1_init_71 (by decide) rfl ?_
    refine x_newa B (pc' := 75) 10 (by decide) (by decide) (Nat.le_of_ble_eq_true rfl) wac ⟨by exact Nat.le_of_ble_eq_true rfl, by exact Nat.le_of_ble_eq_true rfl⟩ dX1_init_73 rfl (fun q6 => ?_)
    refine x_putF (ws' := [(h, .inr (1, [.ref q0, .ref q1, .ref q2, .ref q3, .int 0, .ref q5, .ref q6, .int 0, .int 0, .int 0, .int 0, .int 0, .int 0, .int 0])), (q0, .inl (Γ.cs.1, 32, .inl f)), (q1, .inl (Γ.cs.1, 32, .inl (fun _ => 0))), (q2, .inl (Γ.cs.1, 32, .inl (fun _ => 0))), (q3, .inl (Γ.cs.1, 32, .inl (fun _ => 0))), (q5, .inl (Γ.cs.1, 10, .inl (fun _ => 0))), (q6, .inl (Γ.cs.1, 10, .inl (fun _ => 0)))]) B hin (pc' := 78) 0 6 tyX1 tyX1_ok nmX1 rfl rfl inlX1 (by decide) wf_RX1_31 rfl rfl rfl rfl (Nat.le_of_ble_eq_true rfl) rfl dX1_init_75 rfl ?_
    refine x_aload_n B (pc' := 79) 0 dX1_init_78 rfl rfl rfl ?_
    refine x_iconst B (pc' := 80) 0 dX1_init_79 (by decide) rfl ?_
    refine x_putf (ws' := [(h, .inr (1, [.ref q0, .ref q1, .ref q2, .ref q3, .int 0, .ref q5, .ref q6, .int 0, .int 0, .int 0, .int 0, .int 0, .int 0, .int 0])), (q0, .inl (Γ.cs.1, 32, .inl f)), (q1, .inl (Γ.cs.1, 32, .inl (fun _ => 0))), (q2, .inl (Γ.cs.1, 32, .inl (fun _ => 0))), (q3, .inl (Γ.cs.1, 32, .inl (fun _ => 0))), (q5, .inl (Γ.cs.1, 10, .inl (fun _ => 0))), (q6, .inl (Γ.cs.1, 10, .inl (fun _ => 0)))]) B (pc' := 83) 0 7 tyX1 tyX1_ok nmX1 rfl rfl inlX1 (by decide) wf_RX1_34 rfl rfl rfl (Nat.le_of_ble_eq_true rfl) rfl dX1_init_80 rfl ?_
    refine x_aload_n B (pc' := 84) 0 dX1_init_83 rfl rfl rfl ?_
    refine x_iconst B (pc' := 85) 0 dX1_init_84 (by decide) rfl ?_
    refine x_putf (ws' := [(h, .inr (1, [.ref q0, .ref q1, .ref q2, .ref q3, .int 0, .ref q5, .ref q6, .int 0, .int 0, .int 0, .int 0, .int 0, .int 0, .int 0])), (q0, .inl (Γ.cs.1, 32, .inl f)), (q1, .inl (Γ.cs.1, 32, .inl (fun _ => 0))), (q2, .inl (Γ.cs.1, 32, .inl (fun _ => 0))), (q3, .inl (Γ.cs.1, 32, .inl (fun _ => 0))), (q5, .inl (Γ.cs.1, 10, .inl (fun _ => 0))), (q6, .inl (Γ.cs.1, 10, .inl (fun _ => 0)))]) B (pc' := 88) 0 8 tyX1 tyX1_ok nmX1 rfl rfl inlX1 (by decide) wf_RX1_37 rfl rfl rfl (Nat.le_of_ble_eq_true rfl) rfl dX1_init_85 rfl ?_
    refine x_aload_n B (pc' := 89) 0 dX1_init_88 rfl rfl rfl ?_
    refine x_iconst B (pc' := 90) 0 dX1_init_89 (by decide) rfl ?_
    refine x_putf (ws' := [(h, .inr (1, [.ref q0, .ref q1, .ref q2, .ref q3, .int 0, .ref q5, .ref q6, .int 0, .int 0, .int 0, .int 0, .int 0, .int 0, .int 0])), (q0, .inl (Γ.cs.1, 32, .inl f)), (q1, .inl (Γ.cs.1, 32, .inl (fun _ => 0))), (q2, .inl (Γ.cs.1, 32, .inl (fun _ => 0))), (q3, .inl (Γ.cs.1, 32, .inl (fun _ => 0))), (q5, .inl (Γ.cs.1, 10, .inl (fun _ => 0))), (q6, .inl (Γ.cs.1, 10, .inl (fun _ => 0)))]) B (pc' := 93) 0 9 tyX1 tyX1_ok nmX1 rfl rfl inlX1 (by decide) wf_RX1_41 rfl rfl rfl (Nat.le_of_ble_eq_true rfl) rfl dX1_init_90 rfl ?_
    refine x_aload_n B (pc' := 94) 0 dX1_init_93 rfl rfl rfl ?_
    refine x_iconst B (pc' := 95) 0 dX1_init_94 (by decide) rfl ?_
    refine x_putf (ws' := [(h, .inr (1, [.ref q0, .ref q1, .ref q2, .ref q3, .int 0, .ref q5, .ref q6, .int 0, .int 0, .int 0, .int 0, .int 0, .int 0, .int 0])), (q0, .inl (Γ.cs.1, 32, .inl f)), (q1, .inl (Γ.cs.1, 32, .inl (fun _ => 0))), (q2, .inl (Γ.cs.1, 32, .inl (fun _ => 0))), (q3, .inl (Γ.cs.1, 32, .inl (fun _ => 0))), (q5, .inl (Γ.cs.1, 10, .inl (fun _ => 0))), (q6, .inl (Γ.cs.1, 10, .inl (fun _ => 0)))]) B (pc' := 98) 0 10 tyX1 tyX1_ok nmX1 rfl rfl inlX1 (by decide) wf_RX1_44 rfl rfl rfl (Nat.le_of_ble_eq_true rfl) rfl dX1_init_95 rfl ?_
    refine x_aload_n B (pc' := 99) 0 dX1_init_98 rfl rfl rfl ?_
    refine x_iconst B (pc' := 100) 0 dX1_init_99 (by decide) rfl ?_
    refine x_putf (ws' := [(h, .inr (1, [.ref q0, .ref q1, .ref q2, .ref q3, .int 0, .ref q5, .ref q6, .int 0, .int 0, .int 0, .int 0, .int 0, .int 0, .int 0])), (q0, .inl (Γ.cs.1, 32, .inl f)), (q1, .inl (Γ.cs.1, 32, .inl (fun _ => 0))), (q2, .inl (Γ.cs.1, 32, .inl (fun _ => 0))), (q3, .inl (Γ.cs.1, 32, .inl (fun _ => 0))), (q5, .inl (Γ.cs.1, 10, .inl (fun _ => 0))), (q6, .inl (Γ.cs.1, 10, .inl (fun _ => 0)))]) B (pc' := 103) 0 11 tyX1 tyX1_ok nmX1 rfl rfl inlX1 (by decide) wf_RX1_47 rfl rfl rfl (Nat.le_of_ble_eq_true rfl) rfl dX1_init_100 rfl ?_
    refine x_aload_n B (pc' := 104) 0 dX1_init_103 rfl rfl rfl ?_
    refine x_iconst B (pc' := 105) (-1) dX1_init_104 (by decide) rfl ?_
    refine x_putf (ws' := [(h, .inr (1, [.ref q0, .ref q1, .ref q2, .ref q3, .int 0, .ref q5, .ref q6, .int 0, .int 0, .int 0, .int 0, .int 0, .int (-1), .int 0])), (q0, .inl (Γ.cs.1, 32, .inl f)), (q1, .inl (Γ.cs.1, 32, .inl (fun _ => 0))), (q2, .inl (Γ.cs.1, 32, .inl (fun _ => 0))), (q3, .inl (Γ.cs.1, 32, .inl (fun _ => 0))), (q5, .inl (Γ.cs.1, 10, .inl (fun _ => 0))), (q6, .inl (Γ.cs.1, 10, .inl (fun _ => 0)))]) B (pc' := 108) 0 12 tyX1 tyX1_ok nmX1 rfl rfl inlX1 (by decide) wf_RX1_50 rfl rfl rfl (Nat.le_of_ble_eq_true rfl) rfl dX1_init_105 rfl ?_
    refine x_aload_n B (pc' := 109) 0 dX1_init_108 rfl rfl rfl ?_
    refine x_iconst B (pc' := 110) (-1) dX1_init_109 (by decide) rfl ?_
    refine x_putf (ws' := [(h, .inr (1, [.ref q0, .ref q1, .ref q2, .ref q3, .int 0, .ref q5, .ref q6, .int 0, .int 0, .int 0, .int 0, .int 0, .int (-1), .int (-1)])), (q0, .inl (Γ.cs.1, 32, .inl f)), (q1, .inl (Γ.cs.1, 32, .inl (fun _ => 0))), (q2, .inl (Γ.cs.1, 32, .inl (fun _ => 0))), (q3, .inl (Γ.cs.1, 32, .inl (fun _ => 0))), (q5, .inl (Γ.cs.1, 10, .inl (fun _ => 0))), (q6, .inl (Γ.cs.1, 10, .inl (fun _ => 0)))]) B (pc' := 113) 0 13 tyX1 tyX1_ok nmX1 rfl rfl inlX1 (by decide) wf_RX1_53 rfl rfl rfl (Nat.le_of_ble_eq_true rfl) rfl dX1_init_110 rfl ?_
    exact ret (f, q0, q1, q2, q3, q5, q6) hf (by exact Nat.le_of_ble_eq_true rfl) (by exact Nat.le_of_ble_eq_true rfl) dX1_init_113
  have loop : ∀ (n9 j : Nat) (f : Nat → Int32), j ≤ 32 → 32 < n9 + j → (∀ i, i < j → f i = -1) → X Γ 2 1 32 14 [(0, .ref h), (1, .int (nI j))] [] [(h, .inr (1, [.ref q0, .null, .null, .null, .int 0, .null, .null, .int 0, .int 0, .int 0, .int 0, .int 0, .int 0, .int 0])), (q0, .inl (Γ.cs.1, 32, .inl f))] := by
    intro n9
    induction n9 with
    | zero => intro j f h1 h2; omega
    | succ n9 ih =>
      intro j f h1 h2 h3
      refine x_iload_n B (pc' := 15) 1 dX1_init_14 rfl rfl rfl ?_
      refine x_bipush B (pc' := 17) 32 dX1_init_15 (by decide) rfl ?_
      refine x_icmp_ge B 33 20 dX1_init_17 (by decide) rfl (fun hc => ?_) (fun hc => ?_)
      · have hj : j = 32 := by
          rcases Nat.lt_or_ge j 32 with q | q
          · exact absurd hc (nI_ge (b := 32) q (by decide))
          · omega
        exact rest f _ (fun i hi => h3 i (by omega))
      · have hj : j < 32 := by
          rcases Nat.lt_or_ge j 32 with q | q
          · exact q
          · exact absurd (nI_le (a := 32) q (by omega)) hc
        refine x_aload_n B (pc' := 21) 0 dX1_init_20 rfl rfl rfl ?_
        refine x_getf B (pc' := 24) 0 0 rfl rfl inlX1 (by decide) wf_RX1_9 rfl dX1_init_21 rfl ?_
        refine x_iload_n B (pc' := 25) 1 dX1_init_24 rfl rfl rfl ?_
        refine x_iconst B (pc' := 26) (-1) dX1_init_25 (by decide) rfl ?_
        refine x_iast (ws' := [(h, .inr (1, [.ref q0, .null, .null, .null, .int 0, .null, .null, .int 0, .int 0, .int 0, .int 0, .int 0, .int 0, .int 0])), (q0, .inl (Γ.cs.1, 32, .inl (upd f (nI j).toNatClampNeg (-1))))]) B (pc' := 27) 1 rfl (vp_in_nI hj (by decide)) rfl dX1_init_26 rfl ?_
        refine x_iinc B (pc' := 30) (nI (j + 1)) 1 [1, 0] [(0, .ref h), (1, .int (nI (j + 1)))] dX1_init_27 rfl (by rw [nI_succ]; rfl) (by decide) rfl rfl ?_
        refine x_goto B (pc' := 14) dX1_init_30 (by decide) ?_
        refine ih (j + 1) _ (by omega) (by omega) (fun i hi => ?_)
        rw [nI_clamp (by omega)]
        by_cases q : i = j
        · subst q; exact pk_us
        · rw [pk_un q]; exact h3 i (by omega)
  refine x_iconst B (pc' := 13) 0 dX1_init_12 (by decide) rfl ?_
  refine x_istore_n B (pc' := 14) [1, 0] [(0, .ref h), (1, .int 0)] dX1_init_13 rfl (by decide) rfl rfl ?_
  exact loop 33 0 (fun _ => 0) (by omega) (by omega) (fun i hi => absurd hi (by omega))
abbrev wI (cA : ClassId) (q : Nat) (u : (Nat → Int32) × Nat × Nat × Nat × Nat × Nat × Nat) : va_W := wS cA (adS q u.2.1 u.2.2.1 u.2.2.2.1 u.2.2.2.2.1 u.2.2.2.2.2.1 u.2.2.2.2.2.2) (iS u.1)
abbrev zB (h : Nat) : va_W := [(h, .inr (2, [.null, .null, .int 0, .int 0, .null]))]
/-- a new belt -/
def IB (S : BO) : Prop := S.1 2 = 0 ∧ S.1 3 = 0 ∧ (∃ f : Nat → Int32, S.2.1 = iS f ∧ ∀ j, j < 32 → f j = -1) ∧ S.2.2.2 = ((fun _ => 0), fun _ _ => 0)
abbrev rm_X2_init : Room := { frames := 2, cells := 52, slots := 1202, locals := 41 }
theorem hfs1 : ∀ j, j < 14 → defaultValue (tyX1 j) = vp_V [.null, .null, .null, .null, .int 0, .null, .null, .int 0, .int 0, .int 0, .int 0, .int 0, .int 0, .int 0] j := by decide +kernel
theorem hfs0 : ∀ j, j < 2 → defaultValue (tyX0 j) = vp_V [.null, .int 0] j := by decide +kernel
theorem hfs2 : ∀ j, j < 5 → defaultValue (tyX2 j) = vp_V [.null, .null, .int 0, .int 0, .null] j := by decide +kernel
set_option maxHeartbeats 4000000 in
set_option maxRecDepth 100000 in
theorem k_X2_init (l : Launch) (D : va_G) (cs : CS) (h : Nat) : KI l D cs yX2_init cX2_init 2 rm_X2_init [.ref h] (zB h) (fun (u : (Nat → Nat → Nat) × BO) => u.1 0 0 = h ∧ IB u.2) (fun u => wB cs u.1 u.2) := by
  refine KI_of (by decide) rfl (Nat.le_of_ble_eq_true rfl) ?_
  rintro Γ rfl rfl rfl B hin ret
  show X Γ 2 0 0 0 [(0, .ref h)] [] (zB h)
  refine x_aload_n B (pc' := 1) 0 dX2_init_0 rfl rfl rfl ?_
  refine x_objInit B (pc' := 4) wo_RX2_1 wo1 wo2 ⟨Nat.le_of_ble_eq_true rfl, Nat.le_of_ble_eq_true rfl⟩ (Nat.le_of_ble_eq_true rfl) dX2_init_1 rfl ?_
  refine x_aload_n B (pc' := 5) 0 dX2_init_4 rfl rfl rfl ?_
  refine x_new B (ci := 1) tyX1 tyX1_ok rfl inlX1 wc_RX2_7 wi_RX1 wn_RX1 hfs1 ⟨by exact Nat.le_of_ble_eq_true rfl, by exact Nat.le_of_ble_eq_true rfl⟩ dX2_init_5 (pc' := 8) rfl (fun u0q => ?_)
  refine x_dup B (pc' := 9) dX2_init_8 rfl rfl ?_
  refine x_GI B (wr := [(h, .inr (2, [.null, .null, .int 0, .int 0, .null]))]) (k_X1_init _ _ _ u0q) [1] [0] rfl (by decide) rfl (by decide) (by decide) rfl gi_RX2_9 np_X1_init ⟨Nat.le_of_ble_eq_true rfl, Nat.le_of_ble_eq_true rfl⟩ ⟨by exact Nat.le_of_ble_eq_true rfl, by exact Nat.le_of_ble_eq_true rfl⟩ (Nat.le_of_ble_eq_true rfl) dX2_init_9 (pc' := 12) rfl (fun u0 hu0 => ?_)
  refine x_putF (ws' := ([(h, .inr (2, [.ref u0q, .null, .int 0, .int 0, .null]))] ++ wI Γ.cs.1 u0q u0)) B hin (pc' := 15) 0 0 tyX2 tyX2_ok nmX2 rfl rfl inlX2 (by decide) wf_RX2_10 rfl rfl rfl rfl (Nat.le_of_ble_eq_true rfl) rfl dX2_init_12 rfl ?_
  refine x_aload_n B (pc' := 16) 0 dX2_init_15 rfl rfl rfl ?_
  refine x_bipush B (pc' := 18) 6 dX2_init_16 (by decide) rfl ?_
  refine x_newq B (pc' := 21) 6 (by decide) (by decide) (Nat.le_of_ble_eq_true rfl) wc_RX2_7 ⟨by exact Nat.le_of_ble_eq_true rfl, by exact Nat.le_of_ble_eq_true rfl⟩ dX2_init_18 rfl (fun qs => ?_)
  refine x_putF (ws' := (([(h, .inr (2, [.ref u0q, .ref qs, .int 0, .int 0, .null]))] ++ wI Γ.cs.1 u0q u0) ++ [(qs, .inl (Γ.cs.2.2, 6, .inr (.inr (.inr (.inr (fun _ => none))))))])) B hin (pc' := 24) 0 1 tyX2 tyX2_ok nmX2 rfl rfl inlX2 (by decide) wf_RX2_16 rfl rfl rfl rfl (Nat.le_of_ble_eq_true rfl) rfl dX2_init_21 rfl ?_
  refine x_iconst B (pc' := 25) 0 dX2_init_24 (by decide) rfl ?_
  refine x_istore_n B (pc' := 26) [1, 0] [(0, .ref h), (1, .int 0)] dX2_init_25 rfl (by decide) rfl rfl ?_
  refine x_iload_n B (pc' := 27) 1 dX2_init_26 rfl rfl rfl ?_
  refine x_bipush B (pc' := 29) 6 dX2_init_27 (by decide) rfl ?_
  refine x_icmp_ge B 51 32 dX2_init_29 (by decide) rfl (fun hc => absurd hc (by decide)) (fun _ => ?_)
  refine x_aload_n B (pc' := 33) 0 dX2_init_32 rfl rfl rfl ?_
  refine x_getf B (pc' := 36) 0 1 rfl rfl inlX2 (by decide) wf_RX2_16 rfl dX2_init_33 rfl ?_
  refine x_iload_n B (pc' := 37) 1 dX2_init_36 rfl rfl rfl ?_
  refine x_new B (ci := 1) tyX1 tyX1_ok rfl inlX1 wc_RX2_7 wi_RX1 wn_RX1 hfs1 ⟨by exact Nat.le_of_ble_eq_true rfl, by exact Nat.le_of_ble_eq_true rfl⟩ dX2_init_37 (pc' := 40) rfl (fun u1q => ?_)
  refine x_dup B (pc' := 41) dX2_init_40 rfl rfl ?_
  refine x_GI B (wr := (([(h, .inr (2, [.ref u0q, .ref qs, .int 0, .int 0, .null]))] ++ wI Γ.cs.1 u0q u0) ++ [(qs, .inl (Γ.cs.2.2, 6, .inr (.inr (.inr (.inr (fun _ => none))))))])) (k_X1_init _ _ _ u1q) [9] [0, 1, 2, 3, 4, 5, 6, 7, 8] rfl (by decide) rfl (by decide) (by decide) rfl gi_RX2_9 np_X1_init ⟨Nat.le_of_ble_eq_true rfl, Nat.le_of_ble_eq_true rfl⟩ ⟨by exact Nat.le_of_ble_eq_true rfl, by exact Nat.le_of_ble_eq_true rfl⟩ (Nat.le_of_ble_eq_true rfl) dX2_init_41 (pc' := 44) rfl (fun u1 hu1 => ?_)
  refine x_aast (ws' := ((([(h, .inr (2, [.ref u0q, .ref qs, .int 0, .int 0, .null]))] ++ wI Γ.cs.1 u0q u0) ++ [(qs, .inl (Γ.cs.2.2, 6, .inr (.inr (.inr (.inr (va_up (fun _ => none) 0 (some u1q)))))))]) ++ wI Γ.cs.1 u1q u1)) B (pc' := 45) 8 9 rfl rfl rfl 0 (by decide) (vp_in_nI (n := 0) (by decide) (by decide)) rfl dX2_init_44 rfl ?_
  refine x_iinc B (pc' := 48) 1 1 [1, 0] [(0, .ref h), (1, .int 1)] dX2_init_45 rfl (by decide) (by decide) rfl rfl ?_
  refine x_goto B (pc' := 26) dX2_init_48 (by decide) ?_
  refine x_iload_n B (pc' := 27) 1 dX2_init_26 rfl rfl rfl ?_
  refine x_bipush B (pc' := 29) 6 dX2_init_27 (by decide) rfl ?_
  refine x_icmp_ge B 51 32 dX2_init_29 (by decide) rfl (fun hc => absurd hc (by decide)) (fun _ => ?_)
  refine x_aload_n B (pc' := 33) 0 dX2_init_32 rfl rfl rfl ?_
  refine x_getf B (pc' := 36) 0 1 rfl rfl inlX2 (by decide) wf_RX2_16 rfl dX2_init_33 rfl ?_
  refine x_iload_n B (pc' := 37) 1 dX2_init_36 rfl rfl rfl ?_
  refine x_new B (ci := 1) tyX1 tyX1_ok rfl inlX1 wc_RX2_7 wi_RX1 wn_RX1 hfs1 ⟨by exact Nat.le_of_ble_eq_true rfl, by exact Nat.le_of_ble_eq_true rfl⟩ dX2_init_37 (pc' := 40) rfl (fun u2q => ?_)
  refine x_dup B (pc' := 41) dX2_init_40 rfl rfl ?_
  refine x_GI B (wr := ((([(h, .inr (2, [.ref u0q, .ref qs, .int 0, .int 0, .null]))] ++ wI Γ.cs.1 u0q u0) ++ [(qs, .inl (Γ.cs.2.2, 6, .inr (.inr (.inr (.inr (va_up (fun _ => none) 0 (some u1q)))))))]) ++ wI Γ.cs.1 u1q u1)) (k_X1_init _ _ _ u2q) [16] [0, 1, 2, 3, 4, 5, 6, 7, 8, 9, 10, 11, 12, 13, 14, 15] rfl (by decide) rfl (by decide) (by decide) rfl gi_RX2_9 np_X1_init ⟨Nat.le_of_ble_eq_true rfl, Nat.le_of_ble_eq_true rfl⟩ ⟨by exact Nat.le_of_ble_eq_true rfl, by exact Nat.le_of_ble_eq_true rfl⟩ (Nat.le_of_ble_eq_true rfl) dX2_init_41 (pc' := 44) rfl (fun u2 hu2 => ?_)
  refine x_aast (ws' := (((([(h, .inr (2, [.ref u0q, .ref qs, .int 0, .int 0, .null]))] ++ wI Γ.cs.1 u0q u0) ++ [(qs, .inl (Γ.cs.2.2, 6, .inr (.inr (.inr (.inr (va_up (va_up (fun _ => none) 0 (some u1q)) 1 (some u2q)))))))]) ++ wI Γ.cs.1 u1q u1) ++ wI Γ.cs.1 u2q u2)) B (pc' := 45) 8 16 rfl rfl rfl 1 (by decide) (vp_in_nI (n := 1) (by decide) (by decide)) rfl dX2_init_44 rfl ?_
  refine x_iinc B (pc' := 48) 2 1 [1, 0] [(0, .ref h), (1, .int 2)] dX2_init_45 rfl (by decide) (by decide) rfl rfl ?_
  refine x_goto B (pc' := 26) dX2_init_48 (by decide) ?_
  refine x_iload_n B (pc' := 27) 1 dX2_init_26 rfl rfl rfl ?_
  refine x_bipush B (pc' := 29) 6 dX2_init_27 (by decide) rfl ?_
  refine x_icmp_ge B 51 32 dX2_init_29 (by decide) rfl (fun hc => absurd hc (by decide)) (fun _ => ?_)
  refine x_aload_n B (pc' := 33) 0 dX2_init_32 rfl rfl rfl ?_
  refine x_getf B (pc' := 36) 0 1 rfl rfl inlX2 (by decide) wf_RX2_16 rfl dX2_init_33 rfl ?_
  refine x_iload_n B (pc' := 37) 1 dX2_init_36 rfl rfl rfl ?_
  refine x_new B (ci := 1) tyX1 tyX1_ok rfl inlX1 wc_RX2_7 wi_RX1 wn_RX1 hfs1 ⟨by exact Nat.le_of_ble_eq_true rfl, by exact Nat.le_of_ble_eq_true rfl⟩ dX2_init_37 (pc' := 40) rfl (fun u3q => ?_)
  refine x_dup B (pc' := 41) dX2_init_40 rfl rfl ?_
  refine x_GI B (wr := (((([(h, .inr (2, [.ref u0q, .ref qs, .int 0, .int 0, .null]))] ++ wI Γ.cs.1 u0q u0) ++ [(qs, .inl (Γ.cs.2.2, 6, .inr (.inr (.inr (.inr (va_up (va_up (fun _ => none) 0 (some u1q)) 1 (some u2q)))))))]) ++ wI Γ.cs.1 u1q u1) ++ wI Γ.cs.1 u2q u2)) (k_X1_init _ _ _ u3q) [23] [0, 1, 2, 3, 4, 5, 6, 7, 8, 9, 10, 11, 12, 13, 14, 15, 16, 17, 18, 19, 20, 21, 22] rfl (by decide) rfl (by decide) (by decide) rfl gi_RX2_9 np_X1_init ⟨Nat.le_of_ble_eq_true rfl, Nat.le_of_ble_eq_true rfl⟩ ⟨by exact Nat.le_of_ble_eq_true rfl, by exact Nat.le_of_ble_eq_true rfl⟩ (Nat.le_of_ble_eq_true rfl) dX2_init_41 (pc' := 44) rfl (fun u3 hu3 => ?_)
  refine x_aast (ws' := ((((([(h, .inr (2, [.ref u0q, .ref qs, .int 0, .int 0, .null]))] ++ wI Γ.cs.1 u0q u0) ++ [(qs, .inl (Γ.cs.2.2, 6, .inr (.inr (.inr (.inr (va_up (va_up (va_up (fun _ => none) 0 (some u1q)) 1 (some u2q)) 2 (some u3q)))))))]) ++ wI Γ.cs.1 u1q u1) ++ wI Γ.cs.1 u2q u2) ++ wI Γ.cs.1 u3q u3)) B (pc' := 45) 8 23 rfl rfl rfl 2 (by decide) (vp_in_nI (n := 2) (by decide) (by decide)) rfl dX2_init_44 rfl ?_
  refine x_iinc B (pc' := 48) 3 1 [1, 0] [(0, .ref h), (1, .int 3)] dX2_init_45 rfl (by decide) (by decide) rfl rfl ?_
  refine x_goto B (pc' := 26) dX2_init_48 (by decide) ?_
  refine x_iload_n B (pc' := 27) 1 dX2_init_26 rfl rfl rfl ?_
  refine x_bipush B (pc' := 29) 6 dX2_init_27 (by decide) rfl ?_
  refine x_icmp_ge B 51 32 dX2_init_29 (by decide) rfl (fun hc => absurd hc (by decide)) (fun _ => ?_)
  refine x_aload_n B (pc' := 33) 0 dX2_init_32 rfl rfl rfl ?_
  refine x_getf B (pc' := 36) 0 1 rfl rfl inlX2 (by decide) wf_RX2_16 rfl dX2_init_33 rfl ?_
  refine x_iload_n B (pc' := 37) 1 dX2_init_36 rfl rfl rfl ?_
  refine x_new B (ci := 1) tyX1 tyX1_ok rfl inlX1 wc_RX2_7 wi_RX1 wn_RX1 hfs1 ⟨by exact Nat.le_of_ble_eq_true rfl, by exact Nat.le_of_ble_eq_true rfl⟩ dX2_init_37 (pc' := 40) rfl (fun u4q => ?_)
  refine x_dup B (pc' := 41) dX2_init_40 rfl rfl ?_
  refine x_GI B (wr := ((((([(h, .inr (2, [.ref u0q, .ref qs, .int 0, .int 0, .null]))] ++ wI Γ.cs.1 u0q u0) ++ [(qs, .inl (Γ.cs.2.2, 6, .inr (.inr (.inr (.inr (va_up (va_up (va_up (fun _ => none) 0 (some u1q)) 1 (some u2q)) 2 (some u3q)))))))]) ++ wI Γ.cs.1 u1q u1) ++ wI Γ.cs.1 u2q u2) ++ wI Γ.cs.1 u3q u3)) (k_X1_init _ _ _ u4q) [30] [0, 1, 2, 3, 4, 5, 6, 7, 8, 9, 10, 11, 12, 13, 14, 15, 16, 17, 18, 19, 20, 21, 22, 23, 24, 25, 26, 27, 28, 29] rfl (by decide) rfl (by decide) (by decide) rfl gi_RX2_9 np_X1_init ⟨Nat.le_of_ble_eq_true rfl, Nat.le_of_ble_eq_true rfl⟩ ⟨by exact Nat.le_of_ble_eq_true rfl, by exact Nat.le_of_ble_eq_true rfl⟩ (Nat.le_of_ble_eq_true rfl) dX2_init_41 (pc' := 44) rfl (fun u4 hu4 => ?_)
  refine x_aast (ws' := (((((([(h, .inr (2, [.ref u0q, .ref qs, .int 0, .int 0, .null]))] ++ wI Γ.cs.1 u0q u0) ++ [(qs, .inl (Γ.cs.2.2, 6, .inr (.inr (.inr (.inr (va_up (va_up (va_up (va_up (fun _ => none) 0 (some u1q)) 1 (some u2q)) 2 (some u3q)) 3 (some u4q)))))))]) ++ wI Γ.cs.1 u1q u1) ++ wI Γ.cs.1 u2q u2) ++ wI Γ.cs.1 u3q u3) ++ wI Γ.cs.1 u4q u4)) B (pc' := 45) 8 30 rfl rfl rfl 3 (by decide) (vp_in_nI (n := 3) (by decide) (by decide)) rfl dX2_init_44 rfl ?_
  refine x_iinc B (pc' := 48) 4 1 [1, 0] [(0, .ref h), (1, .int 4)] dX2_init_45 rfl (by decide) (by decide) rfl rfl ?_
  refine x_goto B (pc' := 26) dX2_init_48 (by decide) ?_
  refine x_iload_n B (pc' := 27) 1 dX2_init_26 rfl rfl rfl ?_
  refine x_bipush B (pc' := 29) 6 dX2_init_27 (by decide) rfl ?_
  refine x_icmp_ge B 51 32 dX2_init_29 (by decide) rfl (fun hc => absurd hc (by decide)) (fun _ => ?_)
  refine x_aload_n B (pc' := 33) 0 dX2_init_32 rfl rfl rfl ?_
  refine x_getf B (pc' := 36) 0 1 rfl rfl inlX2 (by decide) wf_RX2_16 rfl dX2_init_33 rfl ?_
  refine x_iload_n B (pc' := 37) 1 dX2_init_36 rfl rfl rfl ?_
  refine x_new B (ci := 1) tyX1 tyX1_ok rfl inlX1 wc_RX2_7 wi_RX1 wn_RX1 hfs1 ⟨by exact Nat.le_of_ble_eq_true rfl, by exact Nat.le_of_ble_eq_true rfl⟩ dX2_init_37 (pc' := 40) rfl (fun u5q => ?_)
  refine x_dup B (pc' := 41) dX2_init_40 rfl rfl ?_
  refine x_GI B (wr := (((((([(h, .inr (2, [.ref u0q, .ref qs, .int 0, .int 0, .null]))] ++ wI Γ.cs.1 u0q u0) ++ [(qs, .inl (Γ.cs.2.2, 6, .inr (.inr (.inr (.inr (va_up (va_up (va_up (va_up (fun _ => none) 0 (some u1q)) 1 (some u2q)) 2 (some u3q)) 3 (some u4q)))))))]) ++ wI Γ.cs.1 u1q u1) ++ wI Γ.cs.1 u2q u2) ++ wI Γ.cs.1 u3q u3) ++ wI Γ.cs.1 u4q u4)) (k_X1_init _ _ _ u5q) [37] [0, 1, 2, 3, 4, 5, 6, 7, 8, 9, 10, 11, 12, 13, 14, 15, 16, 17, 18, 19, 20, 21, 22, 23, 24, 25, 26, 27, 28, 29, 30, 31, 32, 33, 34, 35, 36] rfl (by decide) rfl (by decide) (by decide) rfl gi_RX2_9 np_X1_init ⟨Nat.le_of_ble_eq_true rfl, Nat.le_of_ble_eq_true rfl⟩ ⟨by exact Nat.le_of_ble_eq_true rfl, by exact Nat.le_of_ble_eq_true rfl⟩ (Nat.le_of_ble_eq_true rfl) dX2_init_41 (pc' := 44) rfl (fun u5 hu5 => ?_)
  refine x_aast (ws' := ((((((([(h, .inr (2, [.ref u0q, .ref qs, .int 0, .int 0, .null]))] ++ wI Γ.cs.1 u0q u0) ++ [(qs, .inl (Γ.cs.2.2, 6, .inr (.inr (.inr (.inr (va_up (va_up (va_up (va_up (va_up (fun _ => none) 0 (some u1q)) 1 (some u2q)) 2 (some u3q)) 3 (some u4q)) 4 (some u5q)))))))]) ++ wI Γ.cs.1 u1q u1) ++ wI Γ.cs.1 u2q u2) ++ wI Γ.cs.1 u3q u3) ++ wI Γ.cs.1 u4q u4) ++ wI Γ.cs.1 u5q u5)) B (pc' := 45) 8 37 rfl rfl rfl 4 (by decide) (vp_in_nI (n := 4) (by decide) (by decide)) rfl dX2_init_44 rfl ?_
  refine x_iinc B (pc' := 48) 5 1 [1, 0] [(0, .ref h), (1, .int 5)] dX2_init_45 rfl (by decide) (by decide) rfl rfl ?_
  refine x_goto B (pc' := 26) dX2_init_48 (by decide) ?_
  refine x_iload_n B (pc' := 27) 1 dX2_init_26 rfl rfl rfl ?_
  refine x_bipush B (pc' := 29) 6 dX2_init_27 (by decide) rfl ?_
  refine x_icmp_ge B 51 32 dX2_init_29 (by decide) rfl (fun hc => absurd hc (by decide)) (fun _ => ?_)
  refine x_aload_n B (pc' := 33) 0 dX2_init_32 rfl rfl rfl ?_
  refine x_getf B (pc' := 36) 0 1 rfl rfl inlX2 (by decide) wf_RX2_16 rfl dX2_init_33 rfl ?_
  refine x_iload_n B (pc' := 37) 1 dX2_init_36 rfl rfl rfl ?_
  refine x_new B (ci := 1) tyX1 tyX1_ok rfl inlX1 wc_RX2_7 wi_RX1 wn_RX1 hfs1 ⟨by exact Nat.le_of_ble_eq_true rfl, by exact Nat.le_of_ble_eq_true rfl⟩ dX2_init_37 (pc' := 40) rfl (fun u6q => ?_)
  refine x_dup B (pc' := 41) dX2_init_40 rfl rfl ?_
  refine x_GI B (wr := ((((((([(h, .inr (2, [.ref u0q, .ref qs, .int 0, .int 0, .null]))] ++ wI Γ.cs.1 u0q u0) ++ [(qs, .inl (Γ.cs.2.2, 6, .inr (.inr (.inr (.inr (va_up (va_up (va_up (va_up (va_up (fun _ => none) 0 (some u1q)) 1 (some u2q)) 2 (some u3q)) 3 (some u4q)) 4 (some u5q)))))))]) ++ wI Γ.cs.1 u1q u1) ++ wI Γ.cs.1 u2q u2) ++ wI Γ.cs.1 u3q u3) ++ wI Γ.cs.1 u4q u4) ++ wI Γ.cs.1 u5q u5)) (k_X1_init _ _ _ u6q) [44] [0, 1, 2, 3, 4, 5, 6, 7, 8, 9, 10, 11, 12, 13, 14, 15, 16, 17, 18, 19, 20, 21, 22, 23, 24, 25, 26, 27, 28, 29, 30, 31, 32, 33, 34, 35, 36, 37, 38, 39, 40, 41, 42, 43] rfl (by decide) rfl (by decide) (by decide) rfl gi_RX2_9 np_X1_init ⟨Nat.le_of_ble_eq_true rfl, Nat.le_of_ble_eq_true rfl⟩ ⟨by exact Nat.le_of_ble_eq_true rfl, by exact Nat.le_of_ble_eq_true rfl⟩ (Nat.le_of_ble_eq_true rfl) dX2_init_41 (pc' := 44) rfl (fun u6 hu6 => ?_)
  refine x_aast (ws' := (((((((([(h, .inr (2, [.ref u0q, .ref qs, .int 0, .int 0, .null]))] ++ wI Γ.cs.1 u0q u0) ++ [(qs, .inl (Γ.cs.2.2, 6, .inr (.inr (.inr (.inr (va_up (va_up (va_up (va_up (va_up (va_up (fun _ => none) 0 (some u1q)) 1 (some u2q)) 2 (some u3q)) 3 (some u4q)) 4 (some u5q)) 5 (some u6q)))))))]) ++ wI Γ.cs.1 u1q u1) ++ wI Γ.cs.1 u2q u2) ++ wI Γ.cs.1 u3q u3) ++ wI Γ.cs.1 u4q u4) ++ wI Γ.cs.1 u5q u5) ++ wI Γ.cs.1 u6q u6)) B (pc' := 45) 8 44 rfl rfl rfl 5 (by decide) (vp_in_nI (n := 5) (by decide) (by decide)) rfl dX2_init_44 rfl ?_
  refine x_iinc B (pc' := 48) 6 1 [1, 0] [(0, .ref h), (1, .int 6)] dX2_init_45 rfl (by decide) (by decide) rfl rfl ?_
  refine x_goto B (pc' := 26) dX2_init_48 (by decide) ?_
  refine x_iload_n B (pc' := 27) 1 dX2_init_26 rfl rfl rfl ?_
  refine x_bipush B (pc' := 29) 6 dX2_init_27 (by decide) rfl ?_
  refine x_icmp_ge B 51 32 dX2_init_29 (by decide) rfl (fun _ => ?_) (fun hc => absurd (by decide) hc)
  refine x_aload_n B (pc' := 52) 0 dX2_init_51 rfl rfl rfl ?_
  refine x_iconst B (pc' := 53) 0 dX2_init_52 (by decide) rfl ?_
  refine x_putf (ws' := (((((((([(h, .inr (2, [.ref u0q, .ref qs, .int 0, .int 0, .null]))] ++ wI Γ.cs.1 u0q u0) ++ [(qs, .inl (Γ.cs.2.2, 6, .inr (.inr (.inr (.inr (va_up (va_up (va_up (va_up (va_up (va_up (fun _ => none) 0 (some u1q)) 1 (some u2q)) 2 (some u3q)) 3 (some u4q)) 4 (some u5q)) 5 (some u6q)))))))]) ++ wI Γ.cs.1 u1q u1) ++ wI Γ.cs.1 u2q u2) ++ wI Γ.cs.1 u3q u3) ++ wI Γ.cs.1 u4q u4) ++ wI Γ.cs.1 u5q u5) ++ wI Γ.cs.1 u6q u6)) B (pc' := 56) 0 2 tyX2 tyX2_ok nmX2 rfl rfl inlX2 (by decide) wf_RX2_20 rfl rfl rfl (Nat.le_of_ble_eq_true rfl) rfl dX2_init_53 rfl ?_
  refine x_aload_n B (pc' := 57) 0 dX2_init_56 rfl rfl rfl ?_
  refine x_iconst B (pc' := 58) 0 dX2_init_57 (by decide) rfl ?_
  refine x_putf (ws' := (((((((([(h, .inr (2, [.ref u0q, .ref qs, .int 0, .int 0, .null]))] ++ wI Γ.cs.1 u0q u0) ++ [(qs, .inl (Γ.cs.2.2, 6, .inr (.inr (.inr (.inr (va_up (va_up (va_up (va_up (va_up (va_up (fun _ => none) 0 (some u1q)) 1 (some u2q)) 2 (some u3q)) 3 (some u4q)) 4 (some u5q)) 5 (some u6q)))))))]) ++ wI Γ.cs.1 u1q u1) ++ wI Γ.cs.1 u2q u2) ++ wI Γ.cs.1 u3q u3) ++ wI Γ.cs.1 u4q u4) ++ wI Γ.cs.1 u5q u5) ++ wI Γ.cs.1 u6q u6)) B (pc' := 61) 0 3 tyX2 tyX2_ok nmX2 rfl rfl inlX2 (by decide) wf_RX2_24 rfl rfl rfl (Nat.le_of_ble_eq_true rfl) rfl dX2_init_58 rfl ?_
  refine x_aload_n B (pc' := 62) 0 dX2_init_61 rfl rfl rfl ?_
  refine x_new B (ci := 0) tyX0 tyX0_ok rfl inlX0 wc_RX2_27 wi_RX0 wn_RX0 hfs0 ⟨by exact Nat.le_of_ble_eq_true rfl, by exact Nat.le_of_ble_eq_true rfl⟩ dX2_init_62 (pc' := 65) rfl (fun qt => ?_)
  refine x_dup B (pc' := 66) dX2_init_65 rfl rfl ?_
  refine x_GI B (wr := (((((((([(h, .inr (2, [.ref u0q, .ref qs, .int 0, .int 0, .null]))] ++ wI Γ.cs.1 u0q u0) ++ [(qs, .inl (Γ.cs.2.2, 6, .inr (.inr (.inr (.inr (va_up (va_up (va_up (va_up (va_up (va_up (fun _ => none) 0 (some u1q)) 1 (some u2q)) 2 (some u3q)) 3 (some u4q)) 4 (some u5q)) 5 (some u6q)))))))]) ++ wI Γ.cs.1 u1q u1) ++ wI Γ.cs.1 u2q u2) ++ wI Γ.cs.1 u3q u3) ++ wI Γ.cs.1 u4q u4) ++ wI Γ.cs.1 u5q u5) ++ wI Γ.cs.1 u6q u6)) (k_X0_init _ _ _ qt) [51] [0, 1, 2, 3, 4, 5, 6, 7, 8, 9, 10, 11, 12, 13, 14, 15, 16, 17, 18, 19, 20, 21, 22, 23, 24, 25, 26, 27, 28, 29, 30, 31, 32, 33, 34, 35, 36, 37, 38, 39, 40, 41, 42, 43, 44, 45, 46, 47, 48, 49, 50] rfl (by decide) rfl (by decide) (by decide) rfl gi_RX2_29 np_X0_init ⟨Nat.le_of_ble_eq_true rfl, Nat.le_of_ble_eq_true rfl⟩ ⟨by exact Nat.le_of_ble_eq_true rfl, by exact Nat.le_of_ble_eq_true rfl⟩ (Nat.le_of_ble_eq_true rfl) dX2_init_66 (pc' := 69) rfl (fun qc _ => ?_)
  refine x_putF (ws' := ((((((((([(h, .inr (2, [.ref u0q, .ref qs, .int 0, .int 0, .ref qt]))] ++ wI Γ.cs.1 u0q u0) ++ [(qs, .inl (Γ.cs.2.2, 6, .inr (.inr (.inr (.inr (va_up (va_up (va_up (va_up (va_up (va_up (fun _ => none) 0 (some u1q)) 1 (some u2q)) 2 (some u3q)) 3 (some u4q)) 4 (some u5q)) 5 (some u6q)))))))]) ++ wI Γ.cs.1 u1q u1) ++ wI Γ.cs.1 u2q u2) ++ wI Γ.cs.1 u3q u3) ++ wI Γ.cs.1 u4q u4) ++ wI Γ.cs.1 u5q u5) ++ wI Γ.cs.1 u6q u6) ++ wT Γ.cs.1 (fun i => if i = 0 then qt else qc) ((fun _ => 0), fun _ _ => 0))) B hin (pc' := 72) 0 4 tyX2 tyX2_ok nmX2 rfl rfl inlX2 (by decide) wf_RX2_30 rfl rfl rfl rfl (Nat.le_of_ble_eq_true rfl) rfl dX2_init_69 rfl ?_
  refine x_rowq (ws' := ((((((((([(h, .inr (2, [.ref u0q, .ref qs, .int 0, .int 0, .ref qt]))] ++ wI Γ.cs.1 u0q u0) ++ [(qs, .inl (Γ.cs.2.2, 6, .inr (.inr (.inr (.inr (fun i => some ((fun i : Nat => if i = 0 then (fun j : Nat => if j = 0 then h else qs) else if i = 1 then (adS u0q u0.2.1 u0.2.2.1 u0.2.2.2.1 u0.2.2.2.2.1 u0.2.2.2.2.2.1 u0.2.2.2.2.2.2) else if i = 2 then (fun j : Nat => if j = 0 then qt else qc) else if i = 3 then (adS u1q u1.2.1 u1.2.2.1 u1.2.2.2.1 u1.2.2.2.2.1 u1.2.2.2.2.2.1 u1.2.2.2.2.2.2) else if i = 4 then (adS u2q u2.2.1 u2.2.2.1 u2.2.2.2.1 u2.2.2.2.2.1 u2.2.2.2.2.2.1 u2.2.2.2.2.2.2) else if i = 5 then (adS u3q u3.2.1 u3.2.2.1 u3.2.2.2.1 u3.2.2.2.2.1 u3.2.2.2.2.2.1 u3.2.2.2.2.2.2) else if i = 6 then (adS u4q u4.2.1 u4.2.2.1 u4.2.2.2.1 u4.2.2.2.2.1 u4.2.2.2.2.2.1 u4.2.2.2.2.2.2) else if i = 7 then (adS u5q u5.2.1 u5.2.2.1 u5.2.2.2.1 u5.2.2.2.2.1 u5.2.2.2.2.2.1 u5.2.2.2.2.2.2) else (adS u6q u6.2.1 u6.2.2.1 u6.2.2.2.1 u6.2.2.2.2.1 u6.2.2.2.2.2.1 u6.2.2.2.2.2.2)) (3 + i) 0)))))))]) ++ wI Γ.cs.1 u1q u1) ++ wI Γ.cs.1 u2q u2) ++ wI Γ.cs.1 u3q u3) ++ wI Γ.cs.1 u4q u4) ++ wI Γ.cs.1 u5q u5) ++ wI Γ.cs.1 u6q u6) ++ wT Γ.cs.1 (fun i => if i = 0 then qt else qc) ((fun _ => 0), fun _ _ => 0))) 8 rfl (g := fun i => some ((fun i : Nat => if i = 0 then (fun j : Nat => if j = 0 then h else qs) else if i = 1 then (adS u0q u0.2.1 u0.2.2.1 u0.2.2.2.1 u0.2.2.2.2.1 u0.2.2.2.2.2.1 u0.2.2.2.2.2.2) else if i = 2 then (fun j : Nat => if j = 0 then qt else qc) else if i = 3 then (adS u1q u1.2.1 u1.2.2.1 u1.2.2.2.1 u1.2.2.2.2.1 u1.2.2.2.2.2.1 u1.2.2.2.2.2.2) else if i = 4 then (adS u2q u2.2.1 u2.2.2.1 u2.2.2.2.1 u2.2.2.2.2.1 u2.2.2.2.2.2.1 u2.2.2.2.2.2.2) else if i = 5 then (adS u3q u3.2.1 u3.2.2.1 u3.2.2.2.1 u3.2.2.2.2.1 u3.2.2.2.2.2.1 u3.2.2.2.2.2.2) else if i = 6 then (adS u4q u4.2.1 u4.2.2.1 u4.2.2.2.1 u4.2.2.2.2.1 u4.2.2.2.2.2.1 u4.2.2.2.2.2.2) else if i = 7 then (adS u5q u5.2.1 u5.2.2.1 u5.2.2.2.1 u5.2.2.2.2.1 u5.2.2.2.2.2.1 u5.2.2.2.2.2.2) else (adS u6q u6.2.1 u6.2.2.1 u6.2.2.2.1 u6.2.2.2.2.1 u6.2.2.2.2.2.1 u6.2.2.2.2.2.2)) (3 + i) 0)) (fun i hi => ?_) rfl ?_
  · match i, hi with
    | 0, _ => rfl
    | 1, _ => rfl
    | 2, _ => rfl
    | 3, _ => rfl
    | 4, _ => rfl
    | 5, _ => rfl
    | i + 6, hi => exact absurd hi (by omega)
  refine x_perm (ws' := wB Γ.cs (fun i : Nat => if i = 0 then (fun j : Nat => if j = 0 then h else qs) else if i = 1 then (adS u0q u0.2.1 u0.2.2.1 u0.2.2.2.1 u0.2.2.2.2.1 u0.2.2.2.2.2.1 u0.2.2.2.2.2.2) else if i = 2 then (fun j : Nat => if j = 0 then qt else qc) else if i = 3 then (adS u1q u1.2.1 u1.2.2.1 u1.2.2.2.1 u1.2.2.2.2.1 u1.2.2.2.2.2.1 u1.2.2.2.2.2.2) else if i = 4 then (adS u2q u2.2.1 u2.2.2.1 u2.2.2.2.1 u2.2.2.2.2.1 u2.2.2.2.2.2.1 u2.2.2.2.2.2.2) else if i = 5 then (adS u3q u3.2.1 u3.2.2.1 u3.2.2.2.1 u3.2.2.2.2.1 u3.2.2.2.2.2.1 u3.2.2.2.2.2.2) else if i = 6 then (adS u4q u4.2.1 u4.2.2.1 u4.2.2.2.1 u4.2.2.2.2.1 u4.2.2.2.2.2.1 u4.2.2.2.2.2.2) else if i = 7 then (adS u5q u5.2.1 u5.2.2.1 u5.2.2.2.1 u5.2.2.2.2.1 u5.2.2.2.2.2.1 u5.2.2.2.2.2.2) else (adS u6q u6.2.1 u6.2.2.1 u6.2.2.2.1 u6.2.2.2.2.1 u6.2.2.2.2.2.1 u6.2.2.2.2.2.2)) ((fun _ => 0), iS u0.1, (fun j : Nat => if j = 0 then iS u1.1 else if j = 1 then iS u2.1 else if j = 2 then iS u3.1 else if j = 3 then iS u4.1 else if j = 4 then iS u5.1 else iS u6.1), ((fun _ => 0), fun _ _ => 0))) [0, 8, 1, 2, 3, 4, 5, 6, 7, 51, 52, 9, 10, 11, 12, 13, 14, 15, 16, 17, 18, 19, 20, 21, 22, 23, 24, 25, 26, 27, 28, 29, 30, 31, 32, 33, 34, 35, 36, 37, 38, 39, 40, 41, 42, 43, 44, 45, 46, 47, 48, 49, 50] rfl (by decide) ?_
  exact ret ((fun i : Nat => if i = 0 then (fun j : Nat => if j = 0 then h else qs) else if i = 1 then (adS u0q u0.2.1 u0.2.2.1 u0.2.2.2.1 u0.2.2.2.2.1 u0.2.2.2.2.2.1 u0.2.2.2.2.2.2) else if i = 2 then (fun j : Nat => if j = 0 then qt else qc) else if i = 3 then (adS u1q u1.2.1 u1.2.2.1 u1.2.2.2.1 u1.2.2.2.2.1 u1.2.2.2.2.2.1 u1.2.2.2.2.2.2) else if i = 4 then (adS u2q u2.2.1 u2.2.2.1 u2.2.2.2.1 u2.2.2.2.2.1 u2.2.2.2.2.2.1 u2.2.2.2.2.2.2) else if i = 5 then (adS u3q u3.2.1 u3.2.2.1 u3.2.2.2.1 u3.2.2.2.2.1 u3.2.2.2.2.2.1 u3.2.2.2.2.2.2) else if i = 6 then (adS u4q u4.2.1 u4.2.2.1 u4.2.2.2.1 u4.2.2.2.2.1 u4.2.2.2.2.2.1 u4.2.2.2.2.2.2) else if i = 7 then (adS u5q u5.2.1 u5.2.2.1 u5.2.2.2.1 u5.2.2.2.2.1 u5.2.2.2.2.2.1 u5.2.2.2.2.2.2) else (adS u6q u6.2.1 u6.2.2.1 u6.2.2.2.1 u6.2.2.2.2.1 u6.2.2.2.2.2.1 u6.2.2.2.2.2.2)), ((fun _ => 0), iS u0.1, (fun j : Nat => if j = 0 then iS u1.1 else if j = 1 then iS u2.1 else if j = 2 then iS u3.1 else if j = 3 then iS u4.1 else if j = 4 then iS u5.1 else iS u6.1), ((fun _ => 0), fun _ _ => 0))) ⟨rfl, rfl, rfl, ⟨u0.1, rfl, hu0⟩, rfl⟩ (by exact Nat.le_of_ble_eq_true rfl) (by exact Nat.le_of_ble_eq_true rfl) dX2_init_72
