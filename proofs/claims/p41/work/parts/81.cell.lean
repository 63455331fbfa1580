/-! the law's reader of its script -/
/-- the script, that no cell of the world is -/
def SCR (Γ : Ctx) (b0 L : Nat) (xs : Nat → Int32) : Prop := match Γ with
  | (_, _, _, _, s, _, _, _, _, _, _, A, _, _) => va_X b0 L xs s s.heap ∧ b0 < s.heap.size ∧ ¬ A b0
theorem x_slen {Γ : Ctx} {cc : ByteArray} {nL k n pc pc' b0 L : Nat} {own : String} {R0 : Room} {lv : List (Nat × Value)} {st : List Value} {ws : va_W} {xs : Nat → Int32} (B : CX Γ cc nL own R0) (C : SCR Γ b0 L xs) (d : decode cc pc = .ok (.arraylength, 1)) (hp : pc + 1 = pc') (kk : X Γ nL k n pc' lv (.int (nI L) :: st) ws) : X Γ nL k n pc lv (.ref b0 :: st) ws := by
  obtain ⟨p, l, e, R, s, m, args, below, meth, c, Q, A, D, cs⟩ := Γ
  subst hp
  intro H locs ls hP hD hS hl
  exact va_slen B.1.1 B.1.2.1 C.1 C.2.1 C.2.2 hS d (kk H locs ls hP hD hS hl)
theorem x_sld {Γ : Ctx} {cc : ByteArray} {nL k n pc pc' b0 L : Nat} {own : String} {R0 : Room} {lv : List (Nat × Value)} {st : List Value} {ws : va_W} {xs : Nat → Int32} (B : CX Γ cc nL own R0) (C : SCR Γ b0 L xs) {j : Nat} (hj : j < L) (hL : L < 2 ^ 31) (d : decode cc pc = .ok (.iaload, 1)) (hp : pc + 1 = pc') (kk : X Γ nL k n pc' lv (.int (xs j) :: st) ws) : X Γ nL k n pc lv (.int (nI j) :: .ref b0 :: st) ws := by
  obtain ⟨p, l, e, R, s, m, args, below, meth, c, Q, A, D, cs⟩ := Γ
  subst hp
  intro H locs ls hP hD hS hl
  refine va_sld B.1.1 B.1.2.1 C.1 C.2.1 C.2.2 hS (vp_in_nI hj hL) d ?_
  rw [nI_clamp (by omega)]
  exact kk H locs ls hP hD hS hl
/-- a start that knows the script -/
def PRS (D : va_G) (cs : CS) (av : List Value) (b0 L : Nat) (xs : Nat → Int32) (sz : Nat) : Array Value → State → Prop := va_Pc av (fun U => U.heap.size = sz ∧ va_P D vwCl [] U.heap ∧ KN D cs U ∧ va_D (fun _ => True) [] ∧ va_X b0 L xs U U.heap ∧ b0 < sz)
theorem prs_blind (D : va_G) (cs : CS) (av : List Value) (b0 L : Nat) (xs : Nat → Int32) (sz : Nat) : FrameBlind (PRS D cs av b0 L xs sz) := fun a U g mk q => by
  obtain ⟨q0, q1, qP, qK, qD, qX, qb⟩ := q
  exact ⟨q0, q1, qP, KN.same (s := U) (U := U.calling g mk a) rfl qK, qD, va_X.moved (u := U) (U := U.calling g mk a) (Vm.Alike.refl U.vm) qX, qb⟩
def MS (l : Launch) (D : va_G) (cs : CS) (y : MethodName) (bytes : ByteArray) (maxL : Nat) (rt : FieldType) (rm : Room) (av : List Value) (b0 L : Nat) (xs : Nat → Int32) (r : Int32) : Prop := ∀ sz, Met l y (.code y bytes maxL (some rt) :: GW) rm (PRS D cs av b0 L xs sz) (va_Qi (fun r' _ => r' = r) (PO D [] [] sz) (va_A [] sz)) rm.cells rm.slots (va_A [] sz)
theorem MS_of {l : Launch} {D : va_G} {cs : CS} {y : MethodName} {bytes : ByteArray} {maxL : Nat} {rt : FieldType} {r : Int32} {rm : Room} {av : List Value} {b0 L : Nat} {xs : Nat → Int32} (hy : plainName y.cls = true) (hlen : (lg_sl av).length ≤ maxL)
    (body : ∀ Γ : Ctx, Γ.l = l → Γ.D = D → Γ.cs = cs → CX Γ bytes maxL y.cls rm → SCR Γ b0 L xs → (∀ {k n pc : Nat} {lv : List (Nat × Value)}, narrow rt (.int r) = .int r → k ≤ rm.cells → n ≤ rm.slots → decode bytes pc = .ok (.ireturn, 1) → X Γ maxL k n pc lv [.int r] []) → X Γ maxL 0 0 0 (lv_args 0 av) [] []) : MS l D cs y bytes maxL rt rm av b0 L xs r := by
  intro sz
  refine Met.ofW (cc := bytes) (maxL := maxL) (ret := some rt) hy rfl ?_
  intro p e s m args below meth c s₁ B hml hv
  obtain ⟨rfl, hsz, hP, hK, hD0, hX, hb⟩ := hv
  subst hsz
  have hts := atoms_spec (ws := .code y bytes maxL (some rt) :: GW) B.pre
  have hown : s.vm.findClass y.cls = some m.cls := findClass_of_methodNamed B.named
  have hl := lv_entry av (n := maxL) hlen
  rw [lg_entry_eq]
  have hD := hD0.self (sz := s.heap.size)
  refine body (p, l, e, rm, s, m, av.toArray, below, meth, c, _, va_A [] s.heap.size, D, cs) rfl rfl rfl ⟨⟨B.exec, B.bytes, hml, hown, fun w h => hts w (List.mem_cons_of_mem _ h)⟩, hK, fun q h => Or.inr h, B.notSynchronized, rfl⟩ ⟨hX, hb, fun h => h.elim (fun ⟨k9, e9, h9⟩ => by simp at h9) (fun h9 => absurd hb (Nat.not_lt.mpr h9))⟩ ?_ s.heap [] _ hP hD va_S.rf hl
  intro k n pc lv hnar hk hn d H locs ls hP1 hD1 hS hl1
  have hlocks : meth.locks = false := B.notSynchronized
  exact W.widen hk hn (W.zret B.exec B.bytes B.returns hnar (fun t ht hW => ⟨⟨r, (), rfl, rfl, by rw [ht]; exact hP1, hD1⟩, hS.F ht⟩) hS.2.2 d)
theorem x_scr {Γ : Ctx} {cc : ByteArray} {nL k n pc pc' b0 L : Nat} {own : String} {R0 : Room} {lv : List (Nat × Value)} {st st0 : List Value} {ws : va_W} {xs : Nat → Int32} (B : CX Γ cc nL own R0) (C : SCR Γ b0 L xs) {y : MethodName} {index maxL : Nat} {bytes : ByteArray} {rt : FieldType} {r : Int32} {rm : Room} (As : List Value) (hM : MS Γ.l Γ.D Γ.cs y bytes maxL rt rm As b0 L xs r) (hg : GoodIn GW (va_wsS own index y (.code y bytes maxL (some rt) :: GW))) (hd : y.cls ≠ "java/lang/invoke/MethodHandle" ∧ y.cls ≠ "java/lang/invoke/VarHandle" ∧ (parseMethodDescriptor y.desc).map (fun d => d.parameters.length) = some As.length) (hR : rm.frames + 1 ≤ R0.frames ∧ 8 + (maxL + 11) + rm.locals ≤ R0.locals) (hroom : k + rm.cells ≤ R0.cells ∧ n + rm.slots ≤ R0.slots) (hstk : st0 = As.reverse ++ st) (hsum : (st.map fun v => v.category).sum ≤ 8) (d : decode cc pc = .ok (.invokestatic index, 3)) (hp : pc + 3 = pc') (kk : X Γ nL (k + rm.cells) (n + rm.slots) pc' lv (.int r :: st) ws) : X Γ nL k n pc lv st0 ws := by
  obtain ⟨p, l, e, R, s, m, args, below, meth, c, Q, A, D, cs⟩ := Γ
  subst hp
  subst hstk
  obtain ⟨hfix, hKN, hA, hlk, rfl⟩ := B
  obtain ⟨hX, hb, hbA⟩ := C
  intro H locs ls hP hD hS hl
  have hPc : va_P D vwCl [] H := fun k9 q9 h9 => by simp at h9
  have hDc : va_D A [] := ⟨fun i j p9 q9 h9 => by simp at h9, fun k9 q9 h9 => by simp at h9⟩
  have hFc : ∀ q, va_A [] H.size q → A q := fun q h => h.elim (fun ⟨k9, e9, h9⟩ => by simp at h9) (fun h9 => hA q (Nat.le_trans hS.1 h9))
  have hXH : va_X b0 L xs s H := hX.kept (hS.2.1 b0 hb hbA)
  have hbH : b0 < H.size := Nat.lt_of_lt_of_le hb hS.1
  refine va_calli (va_runS (As := As) (rest := st) hfix (hM H.size) (va_cwS As.length hfix.2.2.2.2 hg rfl rfl rfl hd hR) ⟨prs_blind _ _ _ _ _ _ _, fun U hU hW => ⟨rfl, by rw [hU], by rw [hU]; exact hPc, KN.warm hW hKN, hDc.weaken (fun _ _ _ _ => trivial), by rw [hU]; exact va_X.moved hW.alike hXH, hbH⟩⟩ rfl rfl hl.1 rfl (lv_room hsum) d hroom) hS (fun q _ h => hFc q h) hFc (fun r2 u t H1 locs1 ht hvm hw hB hz1 hk1 hS1 => ?_)
  subst hw
  obtain ⟨hP1, hD1⟩ := hB
  rw [ht] at hP1
  exact kk H1 locs1 ls (hP.kept (fun k9 q9 h9 => hk1 q9.1 (hP k9 q9 h9).lt (fun h8 => h8.elim (fun ⟨k8, e8, h7⟩ => by simp at h7) (fun h7 => Nat.lt_irrefl _ (Nat.lt_of_lt_of_le (hP k9 q9 h9).lt h7))))) hD hS1 hl
/-- what the law reads: the script, and numbers made up behind its end -/
def cel (L : Nat) (xs : Nat → Int32) (j : Nat) : Int32 := if j < L then xs j else 1812433253 * (nI j + 337)
abbrev rm_L_cell : Room := { frames := 0, cells := 0, slots := 0, locals := 0 }
theorem np_L_cell : yL_cell.cls ≠ "java/lang/invoke/MethodHandle" ∧ yL_cell.cls ≠ "java/lang/invoke/VarHandle" ∧ (parseMethodDescriptor yL_cell.desc).map (fun d => d.parameters.length) = some 2 := by decide +kernel
set_option maxHeartbeats 4000000 in
set_option maxRecDepth 100000 in
theorem k_L_cell (l : Launch) (D : va_G) (cs : CS) (b0 L : Nat) (xs : Nat → Int32) (hL : L < 2 ^ 31) (j : Nat) (hj : j < 2 ^ 31) : MS l D cs yL_cell cL_cell 2 .int rm_L_cell [.ref b0, .int (nI j)] b0 L xs (cel L xs j) := by
  refine MS_of (by decide) (Nat.le_of_ble_eq_true rfl) ?_
  rintro Γ rfl rfl rfl B C ret
  show X Γ 2 0 0 0 [(0, .ref b0), (1, .int (nI j))] [] []
  refine x_iload_n B (pc' := 1) 1 dL_cell_0 rfl rfl rfl ?_
  refine x_aload_n B (pc' := 2) 0 dL_cell_1 rfl rfl rfl ?_
  refine x_slen B C dL_cell_2 rfl ?_
  refine x_icmp_ge B 12 6 dL_cell_3 (by decide) rfl (fun hc => ?_) (fun hc => ?_)
  · have h1 : ¬ j < L := by rw [nI_leI hL hj] at hc; omega
    refine x_ldc B (pc' := 14) 1812433253 wk_RL_7 dL_cell_12 rfl ?_
    refine x_iload_n B (pc' := 15) 1 dL_cell_14 rfl rfl rfl ?_
    refine x_sipush B (pc' := 18) 337 dL_cell_15 (by decide) rfl ?_
    refine x_iadd B (pc' := 19) dL_cell_18 rfl ?_
    refine x_imul B (pc' := 20) dL_cell_19 rfl ?_
    rw [show (1812433253 : Int32) * (nI j + 337) = cel L xs j by unfold cel; rw [if_neg h1]]
    exact ret rfl (Nat.zero_le _) (Nat.zero_le _) dL_cell_20
  · have h1 : j < L := by rw [nI_leI hL hj] at hc; omega
    refine x_aload_n B (pc' := 7) 0 dL_cell_6 rfl rfl rfl ?_
    refine x_iload_n B (pc' := 8) 1 dL_cell_7 rfl rfl rfl ?_
    refine x_sld B C h1 hL dL_cell_8 rfl ?_
    refine x_goto B (pc' := 20) dL_cell_9 (by decide) ?_
    rw [show xs j = cel L xs j by unfold cel; rw [if_pos h1]]
    exact ret rfl (Nat.zero_le _) (Nat.zero_le _) dL_cell_20
