/-! THE CLAIM OUT OF ONE WALK OF THE LAW'S BODY. Your part is whole_start (and what it stands on); all else here is the same for every law, but numbers. -/
def R_law : String := "DictationBeltLaw"
def lw_P (b : Addr) (xs : List Int32) (args : Array Value) (s : State) : Prop := args = #[.ref b] ∧ s.IntsAt b xs ∧ xs.length ≤ 260 ∧ (Jvm.Cond.and given_1 narrow_1).before args s = true
/-- what a walk over the start with the record d0 says of its end, said of the start itself -/
theorem lw_closed {s t : State} {o : Outcome} {d0 : Drawn} {L : List Loc} {k n : Nat} (hd0 : s.drawn.sameBut d0 lw_cs) (hv : ∃ v, o = .returned v) (hW : (s.setDrawn d0).WarmedH t.vm) (hs : (s.setDrawn d0).sameButNew ({ t with vm := s.vm } : State) L k n) : State.butDraws s t lw_cs (fun t1 => Framed s o t1 L k n) := by
  have h2 : t.drawn = d0 := congrArg State.drawn hs.1
  refine ⟨⟨hv, hW, State.sameButNew.setDrawn hs s.drawn⟩, ?_, by decide⟩
  rw [h2]
  exact hd0
def lw_Q (_ : Array Value) (s : State) (o : Outcome) (t : State) : Prop := o = .returned (some (.int 1)) ∧ State.butDraws s t lw_cs (fun t1 => Framed s o t1 [] 600130 7301079)
def lw_Z (below : List Frame) (a : Array Value) (s : State) : State → Prop := fun t => ∃ o, t.status = .running ∧ Ended t below o ∧ lw_Q a s o t
/-- the law's own end, with 1 on the stack, nothing written that was there before, its room as the claim has it; d0: the record of draws at this point (at the entry s.drawn: begin with 'refine W.base ?_' and 'have hd0 := Drawn.sameBut.refl s.drawn lw_cs') -/
theorem lw_ret {p : Program} {l : Launch} {e : Env} {s : State} {m : MethodId} {below : List Frame} {meth : Method} {c : Code} {b : Nat} {d0 : Drawn} (hd0 : s.drawn.sameBut d0 lw_cs) (hx : p.tables.exec = Jvm.exec) (hb : c.code = code) (hr : meth.sig.returnType = ret) (hlocks : meth.locks = false) {pc : Nat} {H : Heap} {ls : Array Slot} (hdg : decode code pc = .ok (.ireturn, 1)) : W p l e room_1 (s.setDrawn d0) m #[Value.ref b] below meth c H [] 600130 7301079 (lw_Z below #[Value.ref b] s) (F0 m pc ls [.int 1]) := by
  intro T hT X
  obtain ⟨fs, hret, hrun, hended, hW, hframe⟩ := X.leave (v := some (.int 1)) (hlocks := hlocks) (fun h => by rw [hr] at h; cases h)
  have hmeth' : T.vm.method? m = some meth := X.method'
  refine ⟨T.setFrames fs, ?_, .returned (some (.int 1)), hrun, hended, rfl, lw_closed hd0 ⟨_, rfl⟩ hW hframe⟩
  jvm_step X.here [X.here.top, hx, hb, hdg, hmeth', hr, ret, narrow_b1]
  (try refine ⟨rfl, ?_⟩); (try refine ⟨rfl, ?_⟩)
  first | (intro acts; rw [hret _ acts rfl rfl rfl]) | rw [hret _ _ rfl rfl rfl]
  exact Steps.refl _
/-- what holds at the law's entry: the machine, the code, the tables' words (any of lw_tbl by 'hts w (by decide +kernel)'), the script of L ints xs at the cell b, what the Statement gives of the start (any of its parts by flat_of_before) -/
def lw_At (p : Program) (s : State) (m : MethodId) (meth : Method) (c : Code) (b L : Nat) (xs : Nat → Int32) : Prop :=
  p.tables.exec = Jvm.exec ∧ c.code = code ∧ meth.sig.returnType = ret ∧ c.maxLocals = 12 ∧ s.vm.findClass R_law = some m.cls ∧ (∀ w ∈ lw_tbl, w.before #[Value.ref b] s = true) ∧ va_X b L xs s s.heap ∧ b < s.heap.size ∧ meth.locks = false ∧ (Jvm.Cond.and given_1 narrow_1).before #[Value.ref b] s = true
/-- a new belt's state -/
def A00 : AT := (0, false, 0, 0, 0, none, (fun _ => false), (fun _ => 0), (fun _ => none), (fun _ => 0), (fun _ => 0), [])
theorem start_JN : JN A00 := ⟨⟨Nat.zero_le _, (fun h => by cases h), (by decide), (fun k _ r e => by cases e), List.nodup_nil, (fun k => ⟨(fun h => by cases h), (fun h => absurd rfl h.2)⟩), (fun r p e => by cases e)⟩, (fun k _ e => absurd rfl e), (fun r hr => absurd hr (Nat.not_lt_zero r)), (fun r hr => absurd hr (Nat.not_lt_zero r)), (fun r p e => by cases e)⟩
theorem start_RS {S : BO} (h : IB S) : RS A00 S.2.1 := by
  obtain ⟨_, _, ⟨f, e, hf⟩, _⟩ := h
  rw [e]
  exact ⟨rfl, rfl, rfl, rfl, rfl, rfl, rfl, rfl, fun k hk => hf k hk, fun _ _ => rfl, fun _ _ => rfl, fun i hi => absurd hi (Nat.not_lt_zero i), fun k hk => absurd hk (Nat.not_lt_zero k), fun k hk => absurd hk (Nat.not_lt_zero k)⟩
theorem start_SV {S : BO} (h : IB S) : SVs 0 0 S := ⟨Nat.zero_le _, by decide, h.1, h.2.1⟩
theorem start_room : some (nI (wrc A00)) = some (32 : Int32) := by decide +kernel
theorem nest_in : ∀ w ∈ nestW, w ∈ lw_tbl := by decide +kernel
theorem cast_in : ∀ w ∈ castW, w ∈ lw_tbl := by decide +kernel
theorem str_in : ∀ q ∈ strW, Cond.stringRef RX2 q.1 q.2 ∈ lw_tbl := by decide +kernel
set_option maxHeartbeats 8000000 in
set_option maxRecDepth 100000 in
theorem whole_start {p : Program} {e : Env} {s : State} {m : MethodId} {below : List Frame} {meth : Method} {c : Code} (l : Launch) (hflags : l.flags = flags0) {b L : Nat} {xs : Nat → Int32} (hL : L ≤ 260) (C0 : lw_At p s m meth c b L xs) : W p l e room_1 s m #[Value.ref b] below meth c s.heap [] 0 0 (lw_Z below #[Value.ref b] s) (entryFrame m ([Value.ref b] : List Value).toArray 12) := by
  obtain ⟨hx, hb, hr, hml, hown, hts0, hX, hbl, hlocks, hgv⟩ := id C0
  have hd0 := Drawn.sameBut.refl s.drawn lw_cs
  refine W.base ?_
  have hts1 : ∀ w ∈ lw_tbl, w.before #[Value.ref b] (s.setDrawn s.drawn) = true := dr_words hts0 _
  have hts : ∀ w ∈ GW, w.before #[Value.ref b] (s.setDrawn s.drawn) = true := fun w h => hts1 w (wsL_law_in w h)
  have hfl := flat_of_before _ hgv
  obtain ⟨c0, i0, hK0⟩ := u_known (C := RX0) (T := TX0) (N := 2) (n := 2) hts inlX0 (hts _ wi_RX0)
  obtain ⟨c1, i1, hK1⟩ := u_known (C := RX1) (T := TX1) (N := 14) (n := 14) hts inlX1 (hts _ wi_RX1)
  obtain ⟨c2, i2, hK2⟩ := u_known (C := RX2) (T := TX2) (N := 5) (n := 5) hts inlX2 (hts _ wi_RX2)
  obtain ⟨D, hD⟩ : ∃ D : va_G, ∀ (k : Nat) (q : vw_C), vwCl[k]? = some q → u_Kn (s.setDrawn s.drawn) q.1 q.2.1 q.2.2 (D.1 k) (D.2 k) := by
    refine ⟨(fun k => if k = 0 then c0 else if k = 1 then c1 else c2, fun k => if k = 0 then i0 else if k = 1 then i1 else i2), ?_⟩
    intro k q hq
    match k, hq with
    | 0, hq => cases hq; exact hK0
    | 1, hq => cases hq; exact hK1
    | 2, hq => cases hq; exact hK2
    | k + 3, hq => simp [vwCl] at hq
  obtain ⟨cI, kI, pI, hI1, hI2, hI3⟩ := Cond.arrayClass_spec (hts _ wac)
  obtain ⟨cG, kG, pG, hG1, hG2, hG3⟩ := Cond.arrayClass_spec (hts _ wal)
  obtain ⟨pS, cS, kS, hS1, hS2, hS3, hS4, hS5⟩ := Cond.arrayOver_spec (hts1 _ (cast_in (.arrayOver (.object RX1)) (by simp [castW])))
  have hK : va_K D vwCl (TY (cI, cG, cS)) (s.setDrawn s.drawn) := by
    refine ⟨hD, fun k q hq => ?_⟩
    match k, hq with
    | 0, hq => cases hq; exact ⟨fun n z => ⟨fun k h => (by cases h), kI, hI2, pI, hI3⟩, hI1⟩
    | 1, hq => cases hq; exact ⟨fun n z => ⟨fun k h => (by cases h), kG, hG2, pG, hG3⟩, hG1⟩
    | 2, hq => cases hq; exact ⟨fun n z => ⟨fun k h => (by cases h), kS, hS3, pS, hS4⟩, kS, pS, hS3, hS4, hS1, hS5⟩
    | k + 3, hq => simp [TY] at hq
  have hKN : KN D (cI, cG, cS) (s.setDrawn s.drawn) := by
    refine ⟨hK, fun w hw => ?_, fun w hw => ?_, fun q hq => ?_, fun q hq => ?_⟩
    · obtain ⟨_, _, _, _, rfl⟩ := nest_shape hw
      exact va_Nw.of rfl (hts1 _ (nest_in _ hw))
    · have h1 := hts1 _ (cast_in _ hw)
      rcases cast_shape hw with ⟨_, _, rfl⟩ | ⟨_, rfl⟩ | rfl
      · exact va_Nw.of rfl h1
      · exact va_Nw.of rfl h1
      · exact va_AO.of h1
    · exact absurd hq List.not_mem_nil
    · have h1 := hts1 _ (str_in q hq)
      obtain ⟨k2, hk2⟩ : ∃ k2, (s.setDrawn s.drawn).vm.findClass RX2 = some k2 := ⟨_, hK2.2.1⟩
      obtain ⟨_, _, _, a, _, _, _, _, _, h2⟩ := Cond.stringRef_spec hk2 h1
      exact ⟨a, vk_R.of h1 h2⟩
  have hl := lv_entry [.ref b] (n := 12) (Nat.le_of_ble_eq_true rfl)
  rw [lg_entry_eq]
  suffices hG : ∀ Γ : Ctx, Γ = (p, l, e, room_1, s.setDrawn s.drawn, m, #[Value.ref b], below, meth, c, lw_Z below #[Value.ref b] s, (fun q : Nat => s.heap.size ≤ q), D, (cI, cG, cS)) → X Γ 12 0 0 0 [(0, .ref b)] [] [] from
    hG _ rfl s.heap [] _ (fun k q h => by simp at h) ⟨fun i j p q h => by simp at h, fun k q h => by simp at h⟩ va_S.rf hl
  intro Γ eΓ
  have B : CX Γ cL_law 12 RL room_1 := by
    subst eΓ
    exact ⟨⟨hx, hb, hml, hown, hts⟩, hKN, fun q h => h, hlocks, rfl⟩
  have C : SCR Γ b L xs := by
    subst eΓ
    exact ⟨hX, hbl, Nat.not_le.mpr hbl⟩
  have fin : ∀ (k n : Nat) (lv : List (Nat × Value)) (ws : va_W), k ≤ 600000 → n ≤ 7000000 → X Γ 12 k n 237 lv [.int 1] ws := by
    subst eΓ
    intro k n lv ws hk hn H locs ls hP hD hS hl
    refine va_forget (fun q hq => hS.2.2 q hq) ?_
    exact W.widen (by omega) (by omega) (lw_ret hd0 hx hb hr hlocks dL_law_237)
  clear eΓ
  refine x_new B (ci := 2) tyX2 tyX2_ok rfl inlX2 wc_RL_12 wi_RX2 wn_RX2 hfs2 ⟨by exact Nat.le_of_ble_eq_true rfl, by exact Nat.le_of_ble_eq_true rfl⟩ dL_law_0 (pc' := 3) rfl (fun q => ?_)
  refine x_dup B (pc' := 4) dL_law_3 rfl rfl ?_
  refine x_GI B (wr := []) (k_X2_init _ _ _ q) [0] [] rfl (by decide) rfl (by decide) (by decide) rfl gi_RL_131 np_X2_init ⟨Nat.le_of_ble_eq_true rfl, Nat.le_of_ble_eq_true rfl⟩ ⟨by exact Nat.le_of_ble_eq_true rfl, by exact Nat.le_of_ble_eq_true rfl⟩ (Nat.le_of_ble_eq_true rfl) dL_law_4 (pc' := 7) rfl (fun u hu => ?_)
  obtain ⟨a, S0⟩ := u
  obtain ⟨ea, hIB⟩ := hu
  have ea : a 0 0 = q := ea
  subst ea
  refine x_astore_n B (pc' := 8) [1, 0] [(0, .ref b), (1, .ref (a 0 0))] dL_law_7 rfl (by decide) rfl rfl ?_
  have h0 := start_RS hIB
  have hv0 := start_SV hIB
  refine x_aload_n B (pc' := 9) 1 dL_law_8 rfl rfl rfl ?_
  refine n_belSi B (pc' := 12) [.ref (a 0 0)] (k_L_holds _ _ _ a S0 (L_holds start_JN (by decide) h0)) gv_RL_132 np_L_holds ⟨Nat.le_of_ble_eq_true rfl, Nat.le_of_ble_eq_true rfl⟩ ⟨by exact Nat.le_of_ble_eq_true rfl, by exact Nat.le_of_ble_eq_true rfl⟩ rfl (Nat.le_of_ble_eq_true rfl) dL_law_9 rfl ?_
  refine x_if_eq B 28 15 dL_law_12 (by decide) rfl (fun hc => absurd hc (by decide)) (fun _ => ?_)
  refine x_aload_n B (pc' := 16) 1 dL_law_15 rfl rfl rfl ?_
  refine n_belVi B (pc' := 19) [] (k_X2_room _ _ _ a S0 ((a_room start_JN.1 h0).trans start_room)) gv_RL_41 rfl np_X2_room ⟨Nat.le_of_ble_eq_true rfl, Nat.le_of_ble_eq_true rfl⟩ ⟨by exact Nat.le_of_ble_eq_true rfl, by exact Nat.le_of_ble_eq_true rfl⟩ rfl (Nat.le_of_ble_eq_true rfl) dL_law_16 rfl ?_
  refine x_bipush B (pc' := 21) 32 dL_law_19 (by decide) rfl ?_
  refine x_icmp_ne B 28 24 dL_law_21 (by decide) rfl (fun hc => absurd rfl hc) (fun _ => ?_)
  refine x_iconst B (pc' := 25) 1 dL_law_24 (by decide) rfl ?_
  refine x_goto B (pc' := 29) dL_law_25 (by decide) ?_
  refine x_istore_n B (pc' := 30) [1, 2, 0] [(0, .ref b), (1, .ref (a 0 0)), (2, .int 1)] dL_law_29 rfl (by decide) rfl rfl ?_
  refine x_iconst B (pc' := 31) 0 dL_law_30 (by decide) rfl ?_
  refine x_istore_n B (pc' := 32) [1, 2, 3, 0] [(0, .ref b), (1, .ref (a 0 0)), (2, .int 1), (3, .int (nI 0))] dL_law_31 rfl (by decide) rfl rfl ?_
  refine x_widen (k' := 60) (n' := 2000) (by exact Nat.le_of_ble_eq_true rfl) (by exact Nat.le_of_ble_eq_true rfl) ?_
  exact law_loop B C hL fin 72 0 A00 S0 0 0 60 2000 rfl start_JN (Nat.le_refl _) h0 hv0 (by omega) (by omega)
-- ===== YOUR PART ENDS =====
set_option maxHeartbeats 4000000 in
theorem lw_walk (l : Launch) (hflags : l.flags = flags0) (b : Addr) (xs : List Int32) : MetFree l x (headSpec (Jvm.Cond.code x code maxLocals ret :: tables_1) room_1) (lw_P b xs) (fun _ _ _ _ _ => True) lw_Q := by
  refine MetFree.of_bodyS (code := code) (maxLocals := maxLocals) (ret := ret) (by decide) ?_ ?_
  · intro args s m h hn
    obtain ⟨meth, c, h1, h2, h3, h4, h5, h6, -, -⟩ := Cond.code_spec hn (atoms_spec (ws := Jvm.Cond.code x code maxLocals ret :: tables_1) h _ List.mem_cons_self)
    exact ⟨meth, c, h1, h2, h3, h4, h5, h6⟩
  · intro p e s m args below meth c s₁ B hml0 hP _
    obtain ⟨rfl, hx, hbd, hgv⟩ := hP
    obtain ⟨scr, harrAt, hlist, hof, hsmall⟩ := hx
    obtain ⟨hcb, hkn, -, -⟩ := State.arrayAt?_spec harrAt
    have hown : s.vm.findClass R_law = some m.cls := findClass_of_methodNamed B.named
    have hts0 : ∀ c ∈ (Jvm.Cond.code x code maxLocals ret :: tables_1), c.before #[Value.ref b] s = true := atoms_spec (ws := Jvm.Cond.code x code maxLocals ret :: tables_1) B.pre
    have hts : ∀ w ∈ lw_tbl, w.before #[Value.ref b] s = true := k2_hts_sels lw_privs (fun w hw => hts0 w (List.mem_cons_of_mem _ hw)) lw_privs_ok
    have hml : c.maxLocals = 12 := B.maxLocals_eq (hts0 _ List.mem_cons_self)
    have X₀ : Stand p l e room_1 s m #[Value.ref b] below meth c s₁ [] 0 0 := Stand.of_body B
    have hh0 : s₁.heap = s.heap := by rw [B.state]; rfl
    have hsz : scr.slots.size = xs.length := by rw [← Array.length_toList, hlist, List.length_map]
    have hval : ∀ j : Nat, j < xs.length → scr.slots[j]? = some (.int (xs.getD j 0)) := fun j hj => by
      rw [← Array.getElem?_toList, hlist]
      simp [hj]
    have hbl : b < s.heap.size := (Array.getElem?_eq_some_iff.mp hcb).1
    have hX : va_X b xs.length (fun j => xs.getD j 0) s s.heap := ⟨scr, hcb, hof, hkn, hsz, hval⟩
    have K : W p l e room_1 s m #[Value.ref b] below meth c s₁.heap [] 0 0 (lw_Z below #[Value.ref b] s) (entryFrame m ([Value.ref b] : List Value).toArray 12) := by
      rw [hh0]
      exact whole_start l hflags hbd ⟨B.exec, B.bytes, B.returns, hml, hown, hts, hX, hbl, B.notSynchronized, hgv⟩
    obtain ⟨t, a1, o, b1, b2, b3⟩ := K s₁ rfl X₀
    exact ⟨t, o, a1, b1, b2, b3⟩
theorem lw_pre_spec {args : Array Value} {s : State} (h : (Jvm.Cond.and given_1 narrow_1).before args s = true) (hr : rest_1_c.before args s = true) : ∃ (b : Addr) (xs : List Int32), lw_P b xs args s := by
  have hs := flat_of_before _ h
  have hq := flat_of_before _ hr
  have hc : (Cond.count 1).before args s = true := hs _ (by decide +kernel)
  have harr : (Cond.arrayOf (.arg 0) .int).before args s = true := hs _ (by decide +kernel)
  have hle : (Cond.le (.length (.arg 0)) (.int 260)).before args s = true := hs _ (by decide +kernel)
  have hlen : (Cond.isInt (.length (.arg 0))).before args s = true := hq _ (by decide +kernel)
  have hall : (Cond.all (.arg 0) (.isInt (.elem (.arg 0) (.index 0)))).before args s = true := hq _ (by decide +kernel)
  obtain ⟨b, xs, hb, hx⟩ := State.ints_of_pre rfl harr hlen hall
  have hsm : xs.length < 2 ^ 31 := hx.choose_spec.2.2.2
  have hev : (Term.length (.arg 0)).eval args s none [] s = some (.int xs.length.toInt32) := hx.length_eval hb
  have hv := Cond.le_ints hev (show (Term.int 260).eval args s none [] s = some (.int 260) from rfl)
  have hd : xs.length.toInt32 ≤ 260 := by
    simpa [Cond.before, Cond.holds, hv] using hle
  have hN : xs.length ≤ 260 := (Int32.ofNat_le_ofNat hsm (by decide)).mp (show Int32.ofNat xs.length ≤ Int32.ofNat 260 from hd)
  exact ⟨b, xs, Cond.one_arg hc (show args[0]? = some (.ref b) from hb), hx, hN, h⟩
theorem lw_comes (l : Launch) (hflags : l.flags = flags0) : Comes l x (Jvm.Cond.code x code maxLocals ret :: tables_1) room_1 (fun tb e args s => Calls_1 tb e args s ∧ rest_1 tb e args s ∧ Pre_1 tb e args s)
    (fun _ _ args s o t => lw_Q args s o t) := by
  intro p e ha hc hk s m args below hf hfit hheap happ hpre
  obtain ⟨b, xs, hP⟩ := lw_pre_spec hpre.2.2 hpre.2.1
  obtain ⟨k, o, h1, h2, h3, hQ⟩ := lw_walk l hflags b xs p e ha hc hk s m args below hf ((Spec.applies_iff_loose hf).mp happ).1 hP trivial
  exact ⟨k, o, h1, h2, h3, hQ⟩
theorem lw_frame {s t : State} {o : Outcome} {args : Array Value} (h : State.butDraws s t lw_cs (fun t1 => Framed s o t1 [] 600130 7301079)) :
    State.butDraws s t [Jvm.Choice.named "NaN.bits"] (fun t1 => Framed s o t1 (fieldLocs frame_1_writes args s ++ arrayLocs frame_1_arrays args s ++ staticLocs frame_1_statics s) 600130 7301079) := h
theorem lw_limb (L : Cond) (hL : ∀ (args : Array Value) (s t : State), L.after args s (.returned (some (.int 1))) t = true) :
    ArmFor flags0 classFile x code maxLocals ret World_1 tables_1 room_1 Calls_1 rest_1 Pre_1
      (fun tb e a s o t => postC L tb e a s o t ∧ State.butDraws s t [Jvm.Choice.named "NaN.bits"] (fun t1 => Framed s o t1 (fieldLocs frame_1_writes a s ++ arrayLocs frame_1_arrays a s ++ staticLocs frame_1_statics s) 600130 7301079)) := by
  intro l hflags _ _ p e ha hc hk s m args below hf hfit hheap happ hpre
  obtain ⟨k, o, h1, h2, h3, rfl, hF⟩ := lw_comes l hflags p e ha hc hk s m args below hf hfit hheap happ hpre
  exact ⟨k, _, h1, h2, h3, hL args s _, lw_frame hF⟩
theorem i_vc : Claimed_1_1 ∧ Claimed_1_2 := ⟨lw_limb limb_1_1 (fun args s t => by simp [limb_1_1, Cond.after, Cond.holds, Cond.value]), lw_limb limb_1_2 (fun args s t => Cond.after_iff.mpr (by
  first | (rw [show limb_1_2 = Cond.eq .result (.int 1) from rfl, Cond.eq_ints (x := 1) (y := 1) rfl rfl]; simp; done) | (simp [limb_1_2, Cond.value, Term.eval]; done)))⟩
