theorem x_GVd {Γ : Ctx} {cc : ByteArray} {nL k n pc pc' : Nat} {own : String} {R0 : Room} {lv : List (Nat × Value)} {st st0 : List Value} {ws ws' : va_W} (B : CX Γ cc nL own R0) {y : MethodName} {index maxL : Nat} {bytes : ByteArray} {r : UInt64} {rm : Room} {b : Addr} (As : List Value) {w w' wr : va_W} (hM : MD Γ.l Γ.D Γ.cs y bytes maxL rm (.ref b :: As) w r w') (isC isR is : List Nat) (hC : isC.map (fun i => ws[i]?) = w.map some) (hcn : va_nd isC = true) (hRr : isR.map (fun i => ws[i]?) = wr.map some) (hrn : va_nd isR = true) (hdis : ∀ i ∈ isR, i ∉ isC) (hN : is.map (fun i => (wr ++ w')[i]?) = ws'.map some) (hn2 : va_nd is = true) {ci : Nat} {fs : List Value} {q3 : vw_C} (hrec : (w : va_W)[0]? = some (b, .inr (ci, fs))) (hcl : vwCl[ci]? = some q3) (hg : GoodIn GW (wsV own index q3.1 y (.code y bytes maxL (some .double) :: GW))) (hcc : y.cls = q3.1) (hd : y.cls ≠ "java/lang/invoke/MethodHandle" ∧ y.cls ≠ "java/lang/invoke/VarHandle" ∧ (parseMethodDescriptor y.desc).map (fun d => d.parameters.length) = some As.length) (hR : rm.frames + 1 ≤ R0.frames ∧ 8 + (maxL + 11) + rm.locals ≤ R0.locals) (hroom : k + rm.cells ≤ R0.cells ∧ n + rm.slots ≤ R0.slots) (hstk : st0 = As.reverse ++ .ref b :: st) (hsum : (st.map fun v => v.category).sum ≤ 8) (d : decode cc pc = .ok (.invokevirtual index, 3)) (hp : pc + 3 = pc') (kk : X Γ nL (k + rm.cells) (n + rm.slots) pc' lv (.double r :: st) ws') : X Γ nL k n pc lv st0 ws := by
  obtain ⟨p, l, e, R, s, m, args, below, meth, c, Q, A, D, cs⟩ := Γ
  subst hp
  subst hstk
  obtain ⟨hfix, hKN, hA, hlk, rfl⟩ := B
  intro H locs ls hP hD hS hl
  have hPc : va_P D vwCl w H := hP.sub isC (fm_of hC)
  have hDc : va_D A w := hD.sub isC hcn hC
  have hFc := va_free hD hS hA isC hC
  refine va_calld (va_runV (As := As) (rest := st) hfix (hM H.size) (cwV As.length hfix.2.2.2.2 hg rfl rfl rfl ⟨hcc, hd⟩ hR) ⟨pr_blind _ _ _ _ _, va_recv hKN.1 hPc (q := q3) hcl (q0 := 0) hrec, fun U hU hW => ⟨rfl, by rw [hU], by rw [hU]; exact hPc, KN.warm hW hKN, hDc.weaken (fun _ _ _ _ => trivial)⟩⟩ rfl rfl hl.1 rfl (lv_room hsum) d hroom) hS (fun q _ h => hFc q h) hFc (fun r2 u t H1 locs1 ht hvm hw hB hz1 hk1 hS1 => ?_)
  subst hw
  obtain ⟨hP1, hD1⟩ := hB
  rw [ht] at hP1
  obtain ⟨hP2, hD2⟩ := va_join hP hD isC isR hC hRr hrn hdis hk1 hFc hP1 hD1
  exact kk H1 locs1 ls (hP2.sub is (fm_of hN)) (hD2.sub is hn2 hN) hS1 hl
def wLw (cs : CS) (a : Nat → Nat → Nat) (b : Nat) (am : Nat → Nat) (S : BO) (ob : Nat → Int64) (M : MO) : va_W := wBO cs a b S ob ++ wM cs.1 am M
/-- the script, that no cell of the world is -/
def SCR (Γ : Ctx) (b0 L : Nat) (xs : Nat → Int32) : Prop := match Γ with
  | (_, _, _, _, s, _, _, _, _, _, _, A, _, _) => va_X b0 L xs s s.heap ∧ b0 < s.heap.size ∧ ¬ A b0
/-- a flag of the script -/
def bI (x : Int32) : Int32 := if x = 0 then 0 else 1
section LAW
variable {Γ : Ctx} {cc : ByteArray} {nL k n pc pc' b0 L : Nat} {own : String} {R0 : Room} {lv lv' : List (Nat × Value)} {st st0 : List Value} {ws : va_W} {xs : Nat → Int32}
theorem x_slen (B : CX Γ cc nL own R0) (C : SCR Γ b0 L xs) (d : decode cc pc = .ok (.arraylength, 1)) (hp : pc + 1 = pc') (kk : X Γ nL k n pc' lv (.int (nI L) :: st) ws) : X Γ nL k n pc lv (.ref b0 :: st) ws := by
  obtain ⟨p, l, e, R, s, m, args, below, meth, c, Q, A, D, cs⟩ := Γ
  subst hp
  intro H locs ls hP hD hS hl
  exact va_slen B.1.1 B.1.2.1 C.1 C.2.1 C.2.2 hS d (kk H locs ls hP hD hS hl)
theorem x_sld (B : CX Γ cc nL own R0) (C : SCR Γ b0 L xs) {i : Int32} (j : Nat) (hi : i = nI j) (hj : j < L) (hL : L ≤ 2048) (d : decode cc pc = .ok (.iaload, 1)) (hp : pc + 1 = pc') (kk : X Γ nL k n pc' lv (.int (xs j) :: st) ws) : X Γ nL k n pc lv (.int i :: .ref b0 :: st) ws := by
  obtain ⟨p, l, e, R, s, m, args, below, meth, c, Q, A, D, cs⟩ := Γ
  subst hp
  subst hi
  intro H locs ls hP hD hS hl
  refine va_sld B.1.1 B.1.2.1 C.1 C.2.1 C.2.2 hS (vp_in_nI hj (by omega)) d ?_
  rw [nI_clamp (by omega)]
  exact kk H locs ls hP hD hS hl
theorem x_lcmp0 (B : CX Γ cc nL own R0) {x y : Int64} (h : x = y) (d : decode cc pc = .ok (.lcmp, 1)) (hp : pc + 1 = pc') (kk : X Γ nL k n pc' lv (.int 0 :: st) ws) : X Γ nL k n pc lv (.long y :: .long x :: st) ws := by
  obtain ⟨p, l, e, R, s, m, args, below, meth, c, Q, A, D, cs⟩ := Γ
  subst hp
  subst h
  intro H locs ls hP hD hS hl
  refine W.lcmp B.1.1 B.1.2.1 d ?_
  rw [show lg_cmp x x = 0 from by unfold lg_cmp; rw [if_neg (by rw [gt_iff_lt, Int64.lt_iff_toInt_lt]; omega), if_pos rfl]]
  exact kk H locs ls hP hD hS hl
theorem x_dcmp0 (B : CX Γ cc nL own R0) {x y : UInt64} {op : CmpOp} (h : FP.dcmp x y = some .eq) (d : decode cc pc = .ok (.dcmp op, 1)) (hp : pc + 1 = pc') (kk : X Γ nL k n pc' lv (.int 0 :: st) ws) : X Γ nL k n pc lv (.double y :: .double x :: st) ws := by
  obtain ⟨p, l, e, R, s, m, args, below, meth, c, Q, A, D, cs⟩ := Γ
  subst hp
  intro H locs ls hP hD hS hl
  refine lv_dcmp B.1.1 B.1.2.1 d ?_
  rw [h]
  exact kk H locs ls hP hD hS hl
theorem x_dload (B : CX Γ cc nL own R0) {i : Nat} {x : UInt64} (j : Nat) (d : decode cc pc = .ok (.dload i, 2)) (hj : lv[j]? = some (i, .double x)) (hp : pc + 2 = pc') (kk : X Γ nL k n pc' lv (.double x :: st) ws) : X Γ nL k n pc lv st ws := by
  obtain ⟨p, l, e, R, s, m, args, below, meth, c, Q, A, D, cs⟩ := Γ
  subst hp
  intro H locs ls hP hD hS hl
  exact lv_dload B.1.1 B.1.2.1 d (lv_at hl j hj) (kk H locs ls hP hD hS hl)
theorem x_dstore (B : CX Γ cc nL own R0) {i : Nat} {x : UInt64} (is : List Nat) (lv' : List (Nat × Value)) (d : decode cc pc = .ok (.dstore i, 2)) (hn : i + 1 < nL) (hk : lv_pick ((i, Value.double x) :: lv.filter (fun q => !(q.1 == i) && (!(q.1 == i + 1) && !(q.1 + 1 == i && q.2.category == 2)))) is = lv') (hp : pc + 2 = pc') (kk : X Γ nL k n pc' lv' st ws) : X Γ nL k n pc lv (.double x :: st) ws := by
  obtain ⟨p, l, e, R, s, m, args, below, meth, c, Q, A, D, cs⟩ := Γ
  subst hp
  intro H locs ls hP hD hS hl
  exact lv_dstore B.1.1 B.1.2.1 d hl hn rfl (fun ls' hl' => kk H locs ls' hP hD hS (lv_sub hl' is hk))
variable {a : Nat → Nat → Nat} {b : Nat} {am : Nat → Nat} {S S1 : BO} {ob ob1 : Nat → Int64} {M M1 : MO}
theorem l_out (B : CX Γ cc nL own R0) (d : decode cc pc = .ok (.laload, 1)) (hp : pc + 1 = pc') (kk : X Γ nL k n pc' lv (.long (ob 0) :: st) (wLw Γ.cs a b am S ob M)) : X Γ nL k n pc lv (.int 0 :: .ref b :: st) (wLw Γ.cs a b am S ob M) :=
  x_lald B 53 rfl (vp_in_nI (n := 0) (by decide) (by decide)) d hp kk
theorem l_wrap (B : CX Γ cc nL own R0) (Z : CZ Γ) {y : MethodName} {index maxL : Nat} {bytes : ByteArray} {hh : List (Nat × Nat × Nat × Nat)} {rm : Room} {r : Int32} (As : List Value) (hM : MW Γ.l Γ.D Γ.cs y bytes maxL hh rm As (wBO Γ.cs a b S ob) r (wBO Γ.cs a b S1 ob1)) (hg : GoodIn GW (va_wsS own index y (.codeWith y bytes maxL (some .int) hh :: GW))) (hd : y.cls ≠ "java/lang/invoke/MethodHandle" ∧ y.cls ≠ "java/lang/invoke/VarHandle" ∧ (parseMethodDescriptor y.desc).map (fun d => d.parameters.length) = some As.length) (hR : rm.frames + 1 ≤ R0.frames ∧ 8 + (maxL + 11) + rm.locals ≤ R0.locals) (hroom : k + rm.cells ≤ R0.cells ∧ n + rm.slots ≤ R0.slots) (hstk : st0 = As.reverse ++ st) (hsum : (st.map fun v => v.category).sum ≤ 8) (d : decode cc pc = .ok (.invokestatic index, 3)) (hp : pc + 3 = pc') (kk : X Γ nL (k + rm.cells) (n + rm.slots) pc' lv (.int r :: st) (wLw Γ.cs a b am S1 ob1 M)) : X Γ nL k n pc lv st0 (wLw Γ.cs a b am S ob M) := by
  obtain ⟨p, l, e, R, s, m, args, below, meth, c, Q, A, D, cs⟩ := Γ
  subst hp
  subst hstk
  obtain ⟨hfix, hKN, hA, hlk, rfl⟩ := B
  obtain ⟨hst, hz1, hz2⟩ := Z
  intro H locs ls hP hD hS hl
  have hC : ([0, 1, 2, 3, 4, 5, 6, 7, 8, 9, 10, 11, 12, 13, 14, 15, 16, 17, 18, 19, 20, 21, 22, 23, 24, 25, 26, 27, 28, 29, 30, 31, 32, 33, 34, 35, 36, 37, 38, 39, 40, 41, 42, 43, 44, 45, 46, 47, 48, 49, 50, 51, 52, 53] : List Nat).map (fun i => (wLw cs a b am S ob M)[i]?) = (wBO cs a b S ob).map some := rfl
  have hPc : va_P D vwCl (wBO cs a b S ob) H := hP.sub [0, 1, 2, 3, 4, 5, 6, 7, 8, 9, 10, 11, 12, 13, 14, 15, 16, 17, 18, 19, 20, 21, 22, 23, 24, 25, 26, 27, 28, 29, 30, 31, 32, 33, 34, 35, 36, 37, 38, 39, 40, 41, 42, 43, 44, 45, 46, 47, 48, 49, 50, 51, 52, 53] (fm_of hC)
  have hDc : va_D A (wBO cs a b S ob) := hD.sub [0, 1, 2, 3, 4, 5, 6, 7, 8, 9, 10, 11, 12, 13, 14, 15, 16, 17, 18, 19, 20, 21, 22, 23, 24, 25, 26, 27, 28, 29, 30, 31, 32, 33, 34, 35, 36, 37, 38, 39, 40, 41, 42, 43, 44, 45, 46, 47, 48, 49, 50, 51, 52, 53] (by decide) hC
  have hFc := va_free hD hS hA [0, 1, 2, 3, 4, 5, 6, 7, 8, 9, 10, 11, 12, 13, 14, 15, 16, 17, 18, 19, 20, 21, 22, 23, 24, 25, 26, 27, 28, 29, 30, 31, 32, 33, 34, 35, 36, 37, 38, 39, 40, 41, 42, 43, 44, 45, 46, 47, 48, 49, 50, 51, 52, 53] hC
  refine vx_calli (vx_runSX (As := As) (rest := st) hfix (hM H.size) (vx_cwSW As.length hfix.2.2.2.2 hg rfl rfl rfl hd hR) ⟨prx_blind _ _ _ _ _, fun U hU hW => ⟨rfl, by rw [hU], by rw [hU]; exact hPc, KN.warm hW hKN, hDc.weaken (fun _ _ _ _ => trivial), by rw [hU]; exact vx_Zq.moved hW.alike ((hz1.kept hS.2.1).narrow hFc), by rw [hU]; exact vx_Zq.moved hW.alike ((hz2.kept hS.2.1).narrow hFc)⟩⟩ rfl rfl hl.1 rfl (lv_room hsum) d hroom) hS (fun q _ h => hFc q h) hFc (SX := Unit) (px := fun _ => True) (BX := fun _ _ _ => False) (AX := fun _ => False) (fun q _ h => h.elim) (fun E ce q9 u t H1 locs1 ht hvm _ hB => hB.elim) (fun r2 u t H1 locs1 ht hvm hw hB hz1 hk1 hS1 => ?_)
  subst hw
  obtain ⟨hP1, hD1⟩ := hB
  rw [ht] at hP1
  obtain ⟨hP2, hD2⟩ := va_join (wr := wM cs.1 am M) hP hD [0, 1, 2, 3, 4, 5, 6, 7, 8, 9, 10, 11, 12, 13, 14, 15, 16, 17, 18, 19, 20, 21, 22, 23, 24, 25, 26, 27, 28, 29, 30, 31, 32, 33, 34, 35, 36, 37, 38, 39, 40, 41, 42, 43, 44, 45, 46, 47, 48, 49, 50, 51, 52, 53] [54, 55, 56] hC rfl (by decide) (by decide) hk1 hFc hP1 hD1
  have hN : ([3, 4, 5, 6, 7, 8, 9, 10, 11, 12, 13, 14, 15, 16, 17, 18, 19, 20, 21, 22, 23, 24, 25, 26, 27, 28, 29, 30, 31, 32, 33, 34, 35, 36, 37, 38, 39, 40, 41, 42, 43, 44, 45, 46, 47, 48, 49, 50, 51, 52, 53, 54, 55, 56, 0, 1, 2] : List Nat).map (fun i => (wM cs.1 am M ++ wBO cs a b S1 ob1)[i]?) = (wLw cs a b am S1 ob1 M).map some := rfl
  exact kk H1 locs1 ls (hP2.sub [3, 4, 5, 6, 7, 8, 9, 10, 11, 12, 13, 14, 15, 16, 17, 18, 19, 20, 21, 22, 23, 24, 25, 26, 27, 28, 29, 30, 31, 32, 33, 34, 35, 36, 37, 38, 39, 40, 41, 42, 43, 44, 45, 46, 47, 48, 49, 50, 51, 52, 53, 54, 55, 56, 0, 1, 2] (fm_of hN)) (hD2.sub [3, 4, 5, 6, 7, 8, 9, 10, 11, 12, 13, 14, 15, 16, 17, 18, 19, 20, 21, 22, 23, 24, 25, 26, 27, 28, 29, 30, 31, 32, 33, 34, 35, 36, 37, 38, 39, 40, 41, 42, 43, 44, 45, 46, 47, 48, 49, 50, 51, 52, 53, 54, 55, 56, 0, 1, 2] (by decide) hN) hS1 hl
theorem l_modi (B : CX Γ cc nL own R0) {y : MethodName} {index maxL : Nat} {bytes : ByteArray} {rt : FieldType} {r : Int32} {rm : Room} (As : List Value) (hM : MI Γ.l Γ.D Γ.cs y bytes maxL rt rm (.ref (am 0) :: As) (wM Γ.cs.1 am M) r (wM Γ.cs.1 am M1)) (hg : GoodIn GW (wsV own index RX3 y (.code y bytes maxL (some rt) :: GW))) (hcc : y.cls = RX3) (hd : y.cls ≠ "java/lang/invoke/MethodHandle" ∧ y.cls ≠ "java/lang/invoke/VarHandle" ∧ (parseMethodDescriptor y.desc).map (fun d => d.parameters.length) = some As.length) (hR : rm.frames + 1 ≤ R0.frames ∧ 8 + (maxL + 11) + rm.locals ≤ R0.locals) (hroom : k + rm.cells ≤ R0.cells ∧ n + rm.slots ≤ R0.slots) (hstk : st0 = As.reverse ++ .ref (am 0) :: st) (hsum : (st.map fun v => v.category).sum ≤ 8) (d : decode cc pc = .ok (.invokevirtual index, 3)) (hp : pc + 3 = pc') (kk : X Γ nL (k + rm.cells) (n + rm.slots) pc' lv (.int r :: st) (wLw Γ.cs a b am S ob M1)) : X Γ nL k n pc lv st0 (wLw Γ.cs a b am S ob M) :=
  x_GVi (ws' := wLw Γ.cs a b am S ob M1) (wr := wBO Γ.cs a b S ob) B As hM [54, 55, 56] [0, 1, 2, 3, 4, 5, 6, 7, 8, 9, 10, 11, 12, 13, 14, 15, 16, 17, 18, 19, 20, 21, 22, 23, 24, 25, 26, 27, 28, 29, 30, 31, 32, 33, 34, 35, 36, 37, 38, 39, 40, 41, 42, 43, 44, 45, 46, 47, 48, 49, 50, 51, 52, 53] [0, 1, 2, 3, 4, 5, 6, 7, 8, 9, 10, 11, 12, 13, 14, 15, 16, 17, 18, 19, 20, 21, 22, 23, 24, 25, 26, 27, 28, 29, 30, 31, 32, 33, 34, 35, 36, 37, 38, 39, 40, 41, 42, 43, 44, 45, 46, 47, 48, 49, 50, 51, 52, 53, 54, 55, 56] rfl (by decide) rfl (by decide) (by decide) rfl (by decide) rfl rfl hg hcc hd hR hroom hstk hsum d hp kk
theorem l_beli (B : CX Γ cc nL own R0) {y : MethodName} {index maxL : Nat} {bytes : ByteArray} {rt : FieldType} {r : Int32} {rm : Room} (As : List Value) (hM : MI Γ.l Γ.D Γ.cs y bytes maxL rt rm (.ref (a 0 0) :: As) (wB Γ.cs a S) r (wB Γ.cs a S1)) (hg : GoodIn GW (wsV own index RX2 y (.code y bytes maxL (some rt) :: GW))) (hcc : y.cls = RX2) (hd : y.cls ≠ "java/lang/invoke/MethodHandle" ∧ y.cls ≠ "java/lang/invoke/VarHandle" ∧ (parseMethodDescriptor y.desc).map (fun d => d.parameters.length) = some As.length) (hR : rm.frames + 1 ≤ R0.frames ∧ 8 + (maxL + 11) + rm.locals ≤ R0.locals) (hroom : k + rm.cells ≤ R0.cells ∧ n + rm.slots ≤ R0.slots) (hstk : st0 = As.reverse ++ .ref (a 0 0) :: st) (hsum : (st.map fun v => v.category).sum ≤ 8) (d : decode cc pc = .ok (.invokevirtual index, 3)) (hp : pc + 3 = pc') (kk : X Γ nL (k + rm.cells) (n + rm.slots) pc' lv (.int r :: st) (wLw Γ.cs a b am S1 ob M)) : X Γ nL k n pc lv st0 (wLw Γ.cs a b am S ob M) :=
  x_GVi (ws' := wLw Γ.cs a b am S1 ob M) (wr := [(b, .inl (Γ.cs.2.1, 1, .inr (.inl ob)))] ++ wM Γ.cs.1 am M) B As hM [0, 1, 2, 3, 4, 5, 6, 7, 8, 9, 10, 11, 12, 13, 14, 15, 16, 17, 18, 19, 20, 21, 22, 23, 24, 25, 26, 27, 28, 29, 30, 31, 32, 33, 34, 35, 36, 37, 38, 39, 40, 41, 42, 43, 44, 45, 46, 47, 48, 49, 50, 51, 52] [53, 54, 55, 56] [4, 5, 6, 7, 8, 9, 10, 11, 12, 13, 14, 15, 16, 17, 18, 19, 20, 21, 22, 23, 24, 25, 26, 27, 28, 29, 30, 31, 32, 33, 34, 35, 36, 37, 38, 39, 40, 41, 42, 43, 44, 45, 46, 47, 48, 49, 50, 51, 52, 53, 54, 55, 56, 0, 1, 2, 3] rfl (by decide) rfl (by decide) (by decide) rfl (by decide) rfl rfl hg hcc hd hR hroom hstk hsum d hp kk
theorem l_modl (B : CX Γ cc nL own R0) {y : MethodName} {index maxL : Nat} {bytes : ByteArray} {r : Int64} {rm : Room} (As : List Value) (hM : ML Γ.l Γ.D Γ.cs y bytes maxL rm (.ref (am 0) :: As) (wM Γ.cs.1 am M) r (wM Γ.cs.1 am M1)) (hg : GoodIn GW (wsV own index RX3 y (.code y bytes maxL (some .long) :: GW))) (hcc : y.cls = RX3) (hd : y.cls ≠ "java/lang/invoke/MethodHandle" ∧ y.cls ≠ "java/lang/invoke/VarHandle" ∧ (parseMethodDescriptor y.desc).map (fun d => d.parameters.length) = some As.length) (hR : rm.frames + 1 ≤ R0.frames ∧ 8 + (maxL + 11) + rm.locals ≤ R0.locals) (hroom : k + rm.cells ≤ R0.cells ∧ n + rm.slots ≤ R0.slots) (hstk : st0 = As.reverse ++ .ref (am 0) :: st) (hsum : (st.map fun v => v.category).sum ≤ 8) (d : decode cc pc = .ok (.invokevirtual index, 3)) (hp : pc + 3 = pc') (kk : X Γ nL (k + rm.cells) (n + rm.slots) pc' lv (.long r :: st) (wLw Γ.cs a b am S ob M1)) : X Γ nL k n pc lv st0 (wLw Γ.cs a b am S ob M) :=
  x_GVl (ws' := wLw Γ.cs a b am S ob M1) (wr := wBO Γ.cs a b S ob) B As hM [54, 55, 56] [0, 1, 2, 3, 4, 5, 6, 7, 8, 9, 10, 11, 12, 13, 14, 15, 16, 17, 18, 19, 20, 21, 22, 23, 24, 25, 26, 27, 28, 29, 30, 31, 32, 33, 34, 35, 36, 37, 38, 39, 40, 41, 42, 43, 44, 45, 46, 47, 48, 49, 50, 51, 52, 53] [0, 1, 2, 3, 4, 5, 6, 7, 8, 9, 10, 11, 12, 13, 14, 15, 16, 17, 18, 19, 20, 21, 22, 23, 24, 25, 26, 27, 28, 29, 30, 31, 32, 33, 34, 35, 36, 37, 38, 39, 40, 41, 42, 43, 44, 45, 46, 47, 48, 49, 50, 51, 52, 53, 54, 55, 56] rfl (by decide) rfl (by decide) (by decide) rfl (by decide) rfl rfl hg hcc hd hR hroom hstk hsum d hp kk
theorem l_bell (B : CX Γ cc nL own R0) {y : MethodName} {index maxL : Nat} {bytes : ByteArray} {r : Int64} {rm : Room} (As : List Value) (hM : ML Γ.l Γ.D Γ.cs y bytes maxL rm (.ref (a 0 0) :: As) (wB Γ.cs a S) r (wB Γ.cs a S1)) (hg : GoodIn GW (wsV own index RX2 y (.code y bytes maxL (some .long) :: GW))) (hcc : y.cls = RX2) (hd : y.cls ≠ "java/lang/invoke/MethodHandle" ∧ y.cls ≠ "java/lang/invoke/VarHandle" ∧ (parseMethodDescriptor y.desc).map (fun d => d.parameters.length) = some As.length) (hR : rm.frames + 1 ≤ R0.frames ∧ 8 + (maxL + 11) + rm.locals ≤ R0.locals) (hroom : k + rm.cells ≤ R0.cells ∧ n + rm.slots ≤ R0.slots) (hstk : st0 = As.reverse ++ .ref (a 0 0) :: st) (hsum : (st.map fun v => v.category).sum ≤ 8) (d : decode cc pc = .ok (.invokevirtual index, 3)) (hp : pc + 3 = pc') (kk : X Γ nL (k + rm.cells) (n + rm.slots) pc' lv (.long r :: st) (wLw Γ.cs a b am S1 ob M)) : X Γ nL k n pc lv st0 (wLw Γ.cs a b am S ob M) :=
  x_GVl (ws' := wLw Γ.cs a b am S1 ob M) (wr := [(b, .inl (Γ.cs.2.1, 1, .inr (.inl ob)))] ++ wM Γ.cs.1 am M) B As hM [0, 1, 2, 3, 4, 5, 6, 7, 8, 9, 10, 11, 12, 13, 14, 15, 16, 17, 18, 19, 20, 21, 22, 23, 24, 25, 26, 27, 28, 29, 30, 31, 32, 33, 34, 35, 36, 37, 38, 39, 40, 41, 42, 43, 44, 45, 46, 47, 48, 49, 50, 51, 52] [53, 54, 55, 56] [4, 5, 6, 7, 8, 9, 10, 11, 12, 13, 14, 15, 16, 17, 18, 19, 20, 21, 22, 23, 24, 25, 26, 27, 28, 29, 30, 31, 32, 33, 34, 35, 36, 37, 38, 39, 40, 41, 42, 43, 44, 45, 46, 47, 48, 49, 50, 51, 52, 53, 54, 55, 56, 0, 1, 2, 3] rfl (by decide) rfl (by decide) (by decide) rfl (by decide) rfl rfl hg hcc hd hR hroom hstk hsum d hp kk
theorem l_modd (B : CX Γ cc nL own R0) {y : MethodName} {index maxL : Nat} {bytes : ByteArray} {r : UInt64} {rm : Room} (As : List Value) (hM : MD Γ.l Γ.D Γ.cs y bytes maxL rm (.ref (am 0) :: As) (wM Γ.cs.1 am M) r (wM Γ.cs.1 am M1)) (hg : GoodIn GW (wsV own index RX3 y (.code y bytes maxL (some .double) :: GW))) (hcc : y.cls = RX3) (hd : y.cls ≠ "java/lang/invoke/MethodHandle" ∧ y.cls ≠ "java/lang/invoke/VarHandle" ∧ (parseMethodDescriptor y.desc).map (fun d => d.parameters.length) = some As.length) (hR : rm.frames + 1 ≤ R0.frames ∧ 8 + (maxL + 11) + rm.locals ≤ R0.locals) (hroom : k + rm.cells ≤ R0.cells ∧ n + rm.slots ≤ R0.slots) (hstk : st0 = As.reverse ++ .ref (am 0) :: st) (hsum : (st.map fun v => v.category).sum ≤ 8) (d : decode cc pc = .ok (.invokevirtual index, 3)) (hp : pc + 3 = pc') (kk : X Γ nL (k + rm.cells) (n + rm.slots) pc' lv (.double r :: st) (wLw Γ.cs a b am S ob M1)) : X Γ nL k n pc lv st0 (wLw Γ.cs a b am S ob M) :=
  x_GVd (ws' := wLw Γ.cs a b am S ob M1) (wr := wBO Γ.cs a b S ob) B As hM [54, 55, 56] [0, 1, 2, 3, 4, 5, 6, 7, 8, 9, 10, 11, 12, 13, 14, 15, 16, 17, 18, 19, 20, 21, 22, 23, 24, 25, 26, 27, 28, 29, 30, 31, 32, 33, 34, 35, 36, 37, 38, 39, 40, 41, 42, 43, 44, 45, 46, 47, 48, 49, 50, 51, 52, 53] [0, 1, 2, 3, 4, 5, 6, 7, 8, 9, 10, 11, 12, 13, 14, 15, 16, 17, 18, 19, 20, 21, 22, 23, 24, 25, 26, 27, 28, 29, 30, 31, 32, 33, 34, 35, 36, 37, 38, 39, 40, 41, 42, 43, 44, 45, 46, 47, 48, 49, 50, 51, 52, 53, 54, 55, 56] rfl (by decide) rfl (by decide) (by decide) rfl (by decide) rfl rfl hg hcc hd hR hroom hstk hsum d hp kk
theorem l_beld (B : CX Γ cc nL own R0) {y : MethodName} {index maxL : Nat} {bytes : ByteArray} {r : UInt64} {rm : Room} (As : List Value) (hM : MD Γ.l Γ.D Γ.cs y bytes maxL rm (.ref (a 0 0) :: As) (wB Γ.cs a S) r (wB Γ.cs a S1)) (hg : GoodIn GW (wsV own index RX2 y (.code y bytes maxL (some .double) :: GW))) (hcc : y.cls = RX2) (hd : y.cls ≠ "java/lang/invoke/MethodHandle" ∧ y.cls ≠ "java/lang/invoke/VarHandle" ∧ (parseMethodDescriptor y.desc).map (fun d => d.parameters.length) = some As.length) (hR : rm.frames + 1 ≤ R0.frames ∧ 8 + (maxL + 11) + rm.locals ≤ R0.locals) (hroom : k + rm.cells ≤ R0.cells ∧ n + rm.slots ≤ R0.slots) (hstk : st0 = As.reverse ++ .ref (a 0 0) :: st) (hsum : (st.map fun v => v.category).sum ≤ 8) (d : decode cc pc = .ok (.invokevirtual index, 3)) (hp : pc + 3 = pc') (kk : X Γ nL (k + rm.cells) (n + rm.slots) pc' lv (.double r :: st) (wLw Γ.cs a b am S1 ob M)) : X Γ nL k n pc lv st0 (wLw Γ.cs a b am S ob M) :=
  x_GVd (ws' := wLw Γ.cs a b am S1 ob M) (wr := [(b, .inl (Γ.cs.2.1, 1, .inr (.inl ob)))] ++ wM Γ.cs.1 am M) B As hM [0, 1, 2, 3, 4, 5, 6, 7, 8, 9, 10, 11, 12, 13, 14, 15, 16, 17, 18, 19, 20, 21, 22, 23, 24, 25, 26, 27, 28, 29, 30, 31, 32, 33, 34, 35, 36, 37, 38, 39, 40, 41, 42, 43, 44, 45, 46, 47, 48, 49, 50, 51, 52] [53, 54, 55, 56] [4, 5, 6, 7, 8, 9, 10, 11, 12, 13, 14, 15, 16, 17, 18, 19, 20, 21, 22, 23, 24, 25, 26, 27, 28, 29, 30, 31, 32, 33, 34, 35, 36, 37, 38, 39, 40, 41, 42, 43, 44, 45, 46, 47, 48, 49, 50, 51, 52, 53, 54, 55, 56, 0, 1, 2, 3] rfl (by decide) rfl (by decide) (by decide) rfl (by decide) rfl rfl hg hcc hd hR hroom hstk hsum d hp kk
end LAW
theorem gl_91 : GoodIn GW (va_wsS RL 91 yL_begin (.codeWith yL_begin cL_begin 3 (some .int) [(0, 8, 11, 13)] :: GW)) := gw_app [Cond.methodLink RL 91 yL_begin, Cond.static yL_begin, Cond.initialized RL, Cond.codeWith yL_begin cL_begin 3 (some .int) [(0, 8, 11, 13)]] [55, 56, 57, 58] (by decide +kernel) (by decide +kernel)
theorem gl_96 : GoodIn GW (wsV RL 96 RX3 yX3_begin (.code yX3_begin cX3_begin 1 (some .int) :: GW)) := gw_app [Cond.methodLink RL 96 yX3_begin, Cond.instanceMethod yX3_begin, Cond.selects RX3 yX3_begin yX3_begin, Cond.initialized RX3, Cond.code yX3_begin cX3_begin 1 (some .int)] [110, 111, 112, 5, 113] (by decide +kernel) (by decide +kernel)
theorem gl_97 : GoodIn GW (wsV RL 97 RX3 yX3_thrown (.code yX3_thrown cX3_thrown 1 (some .int) :: GW)) := gw_app [Cond.methodLink RL 97 yX3_thrown, Cond.instanceMethod yX3_thrown, Cond.selects RX3 yX3_thrown yX3_thrown, Cond.initialized RX3, Cond.code yX3_thrown cX3_thrown 1 (some .int)] [148, 149, 150, 5, 151] (by decide +kernel) (by decide +kernel)
theorem gl_100 : GoodIn GW (va_wsS RL 100 yL_halt (.codeWith yL_halt cL_halt 3 (some .int) [(0, 8, 11, 13)] :: GW)) := gw_app [Cond.methodLink RL 100 yL_halt, Cond.static yL_halt, Cond.initialized RL, Cond.codeWith yL_halt cL_halt 3 (some .int) [(0, 8, 11, 13)]] [152, 153, 57, 154] (by decide +kernel) (by decide +kernel)
theorem gl_102 : GoodIn GW (wsV RL 102 RX3 yX3_halt (.code yX3_halt cX3_halt 1 (some .int) :: GW)) := gw_app [Cond.methodLink RL 102 yX3_halt, Cond.instanceMethod yX3_halt, Cond.selects RX3 yX3_halt yX3_halt, Cond.initialized RX3, Cond.code yX3_halt cX3_halt 1 (some .int)] [161, 162, 163, 5, 164] (by decide +kernel) (by decide +kernel)
theorem gl_103 : GoodIn GW (va_wsS RL 103 yL_speak (.codeWith yL_speak cL_speak 4 (some .int) [(0, 9, 12, 22), (0, 9, 15, 13)] :: GW)) := gw_app [Cond.methodLink RL 103 yL_speak, Cond.static yL_speak, Cond.initialized RL, Cond.codeWith yL_speak cL_speak 4 (some .int) [(0, 9, 12, 22), (0, 9, 15, 13)]] [165, 166, 57, 167] (by decide +kernel) (by decide +kernel)
theorem gl_106 : GoodIn GW (wsV RL 106 RX3 yX3_speak (.code yX3_speak cX3_speak 2 (some .int) :: GW)) := gw_app [Cond.methodLink RL 106 yX3_speak, Cond.instanceMethod yX3_speak, Cond.selects RX3 yX3_speak yX3_speak, Cond.initialized RX3, Cond.code yX3_speak cX3_speak 2 (some .int)] [218, 219, 220, 5, 221] (by decide +kernel) (by decide +kernel)
theorem gl_107 : GoodIn GW (va_wsS RL 107 yL_setFlag (.codeWith yL_setFlag cL_setFlag 5 (some .int) [(0, 17, 20, 28)] :: GW)) := gw_app [Cond.methodLink RL 107 yL_setFlag, Cond.static yL_setFlag, Cond.initialized RL, Cond.codeWith yL_setFlag cL_setFlag 5 (some .int) [(0, 17, 20, 28)]] [252, 253, 57, 254] (by decide +kernel) (by decide +kernel)
theorem gl_110 : GoodIn GW (wsV RL 110 RX3 yX3_setFlag (.code yX3_setFlag cX3_setFlag 4 (some .boolean) :: GW)) := gw_app [Cond.methodLink RL 110 yX3_setFlag, Cond.instanceMethod yX3_setFlag, Cond.selects RX3 yX3_setFlag yX3_setFlag, Cond.initialized RX3, Cond.code yX3_setFlag cX3_setFlag 4 (some .boolean)] [278, 279, 280, 5, 281] (by decide +kernel) (by decide +kernel)
theorem gl_111 : GoodIn GW (va_wsS RL 111 yL_erase (.codeWith yL_erase cL_erase 4 (some .int) [(0, 9, 12, 28), (0, 9, 15, 13)] :: GW)) := gw_app [Cond.methodLink RL 111 yL_erase, Cond.static yL_erase, Cond.initialized RL, Cond.codeWith yL_erase cL_erase 4 (some .int) [(0, 9, 12, 28), (0, 9, 15, 13)]] [286, 287, 57, 288] (by decide +kernel) (by decide +kernel)
theorem gl_113 : GoodIn GW (wsV RL 113 RX3 yX3_erase (.code yX3_erase cX3_erase 4 (some .int) :: GW)) := gw_app [Cond.methodLink RL 113 yX3_erase, Cond.instanceMethod yX3_erase, Cond.selects RX3 yX3_erase yX3_erase, Cond.initialized RX3, Cond.code yX3_erase cX3_erase 4 (some .int)] [297, 298, 299, 5, 300] (by decide +kernel) (by decide +kernel)
theorem gl_114 : GoodIn GW (va_wsS RL 114 yL_moveHead (.codeWith yL_moveHead cL_moveHead 4 (some .int) [(0, 9, 12, 28), (0, 9, 15, 13)] :: GW)) := gw_app [Cond.methodLink RL 114 yL_moveHead, Cond.static yL_moveHead, Cond.initialized RL, Cond.codeWith yL_moveHead cL_moveHead 4 (some .int) [(0, 9, 12, 28), (0, 9, 15, 13)]] [301, 302, 57, 303] (by decide +kernel) (by decide +kernel)
theorem gl_116 : GoodIn GW (wsV RL 116 RX3 yX3_moveHead (.code yX3_moveHead cX3_moveHead 3 (some .int) :: GW)) := gw_app [Cond.methodLink RL 116 yX3_moveHead, Cond.instanceMethod yX3_moveHead, Cond.selects RX3 yX3_moveHead yX3_moveHead, Cond.initialized RX3, Cond.code yX3_moveHead cX3_moveHead 3 (some .int)] [312, 313, 314, 5, 315] (by decide +kernel) (by decide +kernel)
theorem gl_117 : GoodIn GW (wsV RL 117 RX2 yX2_recordings (.code yX2_recordings cX2_recordings 1 (some .int) :: GW)) := gw_app [Cond.methodLink RL 117 yX2_recordings, Cond.instanceMethod yX2_recordings, Cond.selects RX2 yX2_recordings yX2_recordings, Cond.initialized RX2, Cond.code yX2_recordings cX2_recordings 1 (some .int)] [319, 320, 321, 2, 322] (by decide +kernel) (by decide +kernel)
theorem gl_120 : GoodIn GW (wsV RL 120 RX3 yX3_recordings (.code yX3_recordings cX3_recordings 1 (some .int) :: GW)) := gw_app [Cond.methodLink RL 120 yX3_recordings, Cond.instanceMethod yX3_recordings, Cond.selects RX3 yX3_recordings yX3_recordings, Cond.initialized RX3, Cond.code yX3_recordings cX3_recordings 1 (some .int)] [324, 325, 326, 5, 327] (by decide +kernel) (by decide +kernel)
theorem gl_121 : GoodIn GW (wsV RL 121 RX2 yX2_running (.code yX2_running cX2_running 1 (some .int) :: GW)) := gw_app [Cond.methodLink RL 121 yX2_running, Cond.instanceMethod yX2_running, Cond.selects RX2 yX2_running yX2_running, Cond.initialized RX2, Cond.code yX2_running cX2_running 1 (some .int)] [332, 333, 334, 2, 335] (by decide +kernel) (by decide +kernel)
theorem gl_124 : GoodIn GW (wsV RL 124 RX3 yX3_running (.code yX3_running cX3_running 1 (some .int) :: GW)) := gw_app [Cond.methodLink RL 124 yX3_running, Cond.instanceMethod yX3_running, Cond.selects RX3 yX3_running yX3_running, Cond.initialized RX3, Cond.code yX3_running cX3_running 1 (some .int)] [337, 338, 339, 5, 340] (by decide +kernel) (by decide +kernel)
theorem gl_125 : GoodIn GW (wsV RL 125 RX2 yX2_head (.code yX2_head cX2_head 1 (some .int) :: GW)) := gw_app [Cond.methodLink RL 125 yX2_head, Cond.instanceMethod yX2_head, Cond.selects RX2 yX2_head yX2_head, Cond.initialized RX2, Cond.code yX2_head cX2_head 1 (some .int)] [341, 342, 343, 2, 344] (by decide +kernel) (by decide +kernel)
theorem gl_128 : GoodIn GW (wsV RL 128 RX3 yX3_head (.code yX3_head cX3_head 1 (some .int) :: GW)) := gw_app [Cond.methodLink RL 128 yX3_head, Cond.instanceMethod yX3_head, Cond.selects RX3 yX3_head yX3_head, Cond.initialized RX3, Cond.code yX3_head cX3_head 1 (some .int)] [345, 346, 347, 5, 348] (by decide +kernel) (by decide +kernel)
theorem gl_129 : GoodIn GW (va_wsS RL 129 yL_length (.codeWith yL_length cL_length 4 (some .int) [(0, 9, 12, 28)] :: GW)) := gw_app [Cond.methodLink RL 129 yL_length, Cond.static yL_length, Cond.initialized RL, Cond.codeWith yL_length cL_length 4 (some .int) [(0, 9, 12, 28)]] [349, 350, 57, 351] (by decide +kernel) (by decide +kernel)
theorem gl_131 : GoodIn GW (wsV RL 131 RX3 yX3_length (.code yX3_length cX3_length 2 (some .int) :: GW)) := gw_app [Cond.methodLink RL 131 yX3_length, Cond.instanceMethod yX3_length, Cond.selects RX3 yX3_length yX3_length, Cond.initialized RX3, Cond.code yX3_length cX3_length 2 (some .int)] [357, 358, 359, 5, 360] (by decide +kernel) (by decide +kernel)
theorem gl_132 : GoodIn GW (va_wsS RL 132 yL_sound (.codeWith yL_sound cL_sound 5 (some .int) [(0, 10, 13, 28)] :: GW)) := gw_app [Cond.methodLink RL 132 yL_sound, Cond.static yL_sound, Cond.initialized RL, Cond.codeWith yL_sound cL_sound 5 (some .int) [(0, 10, 13, 28)]] [361, 362, 57, 363] (by decide +kernel) (by decide +kernel)
theorem gl_135 : GoodIn GW (wsV RL 135 RX3 yX3_sound (.code yX3_sound cX3_sound 3 (some .int) :: GW)) := gw_app [Cond.methodLink RL 135 yX3_sound, Cond.instanceMethod yX3_sound, Cond.selects RX3 yX3_sound yX3_sound, Cond.initialized RX3, Cond.code yX3_sound cX3_sound 3 (some .int)] [378, 379, 380, 5, 381] (by decide +kernel) (by decide +kernel)
theorem gl_136 : GoodIn GW (va_wsS RL 136 yL_cellOf (.codeWith yL_cellOf cL_cellOf 5 (some .int) [(0, 10, 13, 28)] :: GW)) := gw_app [Cond.methodLink RL 136 yL_cellOf, Cond.static yL_cellOf, Cond.initialized RL, Cond.codeWith yL_cellOf cL_cellOf 5 (some .int) [(0, 10, 13, 28)]] [390, 391, 57, 392] (by decide +kernel) (by decide +kernel)
theorem gl_138 : GoodIn GW (wsV RL 138 RX3 yX3_cellOf (.code yX3_cellOf cX3_cellOf 3 (some .int) :: GW)) := gw_app [Cond.methodLink RL 138 yX3_cellOf, Cond.instanceMethod yX3_cellOf, Cond.selects RX3 yX3_cellOf yX3_cellOf, Cond.initialized RX3, Cond.code yX3_cellOf cX3_cellOf 3 (some .int)] [397, 398, 399, 5, 400] (by decide +kernel) (by decide +kernel)
theorem gl_139 : GoodIn GW (va_wsS RL 139 yL_hasFlag (.codeWith yL_hasFlag cL_hasFlag 4 (some .int) [(0, 16, 19, 28)] :: GW)) := gw_app [Cond.methodLink RL 139 yL_hasFlag, Cond.static yL_hasFlag, Cond.initialized RL, Cond.codeWith yL_hasFlag cL_hasFlag 4 (some .int) [(0, 16, 19, 28)]] [401, 402, 57, 403] (by decide +kernel) (by decide +kernel)
theorem gl_141 : GoodIn GW (wsV RL 141 RX3 yX3_hasFlag (.code yX3_hasFlag cX3_hasFlag 2 (some .boolean) :: GW)) := gw_app [Cond.methodLink RL 141 yX3_hasFlag, Cond.instanceMethod yX3_hasFlag, Cond.selects RX3 yX3_hasFlag yX3_hasFlag, Cond.initialized RX3, Cond.code yX3_hasFlag cX3_hasFlag 2 (some .boolean)] [408, 409, 410, 5, 411] (by decide +kernel) (by decide +kernel)
theorem gl_142 : GoodIn GW (va_wsS RL 142 yL_lost (.codeWith yL_lost cL_lost 4 (some .int) [(0, 9, 12, 28)] :: GW)) := gw_app [Cond.methodLink RL 142 yL_lost, Cond.static yL_lost, Cond.initialized RL, Cond.codeWith yL_lost cL_lost 4 (some .int) [(0, 9, 12, 28)]] [412, 413, 57, 414] (by decide +kernel) (by decide +kernel)
theorem gl_144 : GoodIn GW (wsV RL 144 RX3 yX3_lost (.code yX3_lost cX3_lost 2 (some .int) :: GW)) := gw_app [Cond.methodLink RL 144 yX3_lost, Cond.instanceMethod yX3_lost, Cond.selects RX3 yX3_lost yX3_lost, Cond.initialized RX3, Cond.code yX3_lost cX3_lost 2 (some .int)] [420, 421, 422, 5, 423] (by decide +kernel) (by decide +kernel)
theorem gl_145 : GoodIn GW (va_wsS RL 145 yL_owner (.codeWith yL_owner cL_owner 4 (some .int) [(0, 9, 12, 28)] :: GW)) := gw_app [Cond.methodLink RL 145 yL_owner, Cond.static yL_owner, Cond.initialized RL, Cond.codeWith yL_owner cL_owner 4 (some .int) [(0, 9, 12, 28)]] [424, 425, 57, 426] (by decide +kernel) (by decide +kernel)
theorem gl_147 : GoodIn GW (wsV RL 147 RX3 yX3_owner (.code yX3_owner cX3_owner 2 (some .int) :: GW)) := gw_app [Cond.methodLink RL 147 yX3_owner, Cond.instanceMethod yX3_owner, Cond.selects RX3 yX3_owner yX3_owner, Cond.initialized RX3, Cond.code yX3_owner cX3_owner 2 (some .int)] [432, 433, 434, 5, 435] (by decide +kernel) (by decide +kernel)
theorem gl_148 : GoodIn GW (wsV RL 148 RX2 yX2_free (.code yX2_free cX2_free 1 (some .int) :: GW)) := gw_app [Cond.methodLink RL 148 yX2_free, Cond.instanceMethod yX2_free, Cond.selects RX2 yX2_free yX2_free, Cond.initialized RX2, Cond.code yX2_free cX2_free 1 (some .int)] [436, 437, 438, 2, 439] (by decide +kernel) (by decide +kernel)
theorem gl_151 : GoodIn GW (wsV RL 151 RX3 yX3_free (.code yX3_free cX3_free 1 (some .int) :: GW)) := gw_app [Cond.methodLink RL 151 yX3_free, Cond.instanceMethod yX3_free, Cond.selects RX3 yX3_free yX3_free, Cond.initialized RX3, Cond.code yX3_free cX3_free 1 (some .int)] [441, 442, 443, 5, 444] (by decide +kernel) (by decide +kernel)
theorem gl_152 : GoodIn GW (wsV RL 152 RX2 yX2_spoken (.code yX2_spoken cX2_spoken 1 (some .int) :: GW)) := gw_app [Cond.methodLink RL 152 yX2_spoken, Cond.instanceMethod yX2_spoken, Cond.selects RX2 yX2_spoken yX2_spoken, Cond.initialized RX2, Cond.code yX2_spoken cX2_spoken 1 (some .int)] [445, 446, 447, 2, 448] (by decide +kernel) (by decide +kernel)
theorem gl_155 : GoodIn GW (wsV RL 155 RX3 yX3_spoken (.code yX3_spoken cX3_spoken 1 (some .int) :: GW)) := gw_app [Cond.methodLink RL 155 yX3_spoken, Cond.instanceMethod yX3_spoken, Cond.selects RX3 yX3_spoken yX3_spoken, Cond.initialized RX3, Cond.code yX3_spoken cX3_spoken 1 (some .int)] [450, 451, 452, 5, 453] (by decide +kernel) (by decide +kernel)
theorem gl_156 : GoodIn GW (wsV RL 156 RX2 yX2_gone (.code yX2_gone cX2_gone 1 (some .int) :: GW)) := gw_app [Cond.methodLink RL 156 yX2_gone, Cond.instanceMethod yX2_gone, Cond.selects RX2 yX2_gone yX2_gone, Cond.initialized RX2, Cond.code yX2_gone cX2_gone 1 (some .int)] [454, 455, 456, 2, 457] (by decide +kernel) (by decide +kernel)
theorem gl_159 : GoodIn GW (wsV RL 159 RX3 yX3_gone (.code yX3_gone cX3_gone 1 (some .int) :: GW)) := gw_app [Cond.methodLink RL 159 yX3_gone, Cond.instanceMethod yX3_gone, Cond.selects RX3 yX3_gone yX3_gone, Cond.initialized RX3, Cond.code yX3_gone cX3_gone 1 (some .int)] [459, 460, 461, 5, 462] (by decide +kernel) (by decide +kernel)
theorem gl_160 : GoodIn GW (wsV RL 160 RX2 yX2_usedShare (.code yX2_usedShare cX2_usedShare 1 (some .double) :: GW)) := gw_app [Cond.methodLink RL 160 yX2_usedShare, Cond.instanceMethod yX2_usedShare, Cond.selects RX2 yX2_usedShare yX2_usedShare, Cond.initialized RX2, Cond.code yX2_usedShare cX2_usedShare 1 (some .double)] [463, 464, 465, 2, 466] (by decide +kernel) (by decide +kernel)
theorem gl_164 : GoodIn GW (wsV RL 164 RX3 yX3_usedShare (.code yX3_usedShare cX3_usedShare 1 (some .double) :: GW)) := gw_app [Cond.methodLink RL 164 yX3_usedShare, Cond.instanceMethod yX3_usedShare, Cond.selects RX3 yX3_usedShare yX3_usedShare, Cond.initialized RX3, Cond.code yX3_usedShare cX3_usedShare 1 (some .double)] [468, 469, 470, 5, 471] (by decide +kernel) (by decide +kernel)
theorem gl_165 : GoodIn GW (va_wsS RL 165 yL_go (.codeWith yL_go cL_go 4 (some .int) [(0, 9, 12, 28)] :: GW)) := gw_app [Cond.methodLink RL 165 yL_go, Cond.static yL_go, Cond.initialized RL, Cond.codeWith yL_go cL_go 4 (some .int) [(0, 9, 12, 28)]] [473, 474, 57, 475] (by decide +kernel) (by decide +kernel)
theorem gl_167 : GoodIn GW (wsV RL 167 RX3 yX3_go (.code yX3_go cX3_go 2 (some .int) :: GW)) := gw_app [Cond.methodLink RL 167 yX3_go, Cond.instanceMethod yX3_go, Cond.selects RX3 yX3_go yX3_go, Cond.initialized RX3, Cond.code yX3_go cX3_go 2 (some .int)] [484, 485, 486, 5, 487] (by decide +kernel) (by decide +kernel)
theorem gl_168 : GoodIn GW (va_wsS RL 168 yL_play (.codeWith yL_play cL_play 3 (some .int) [(0, 8, 11, 13)] :: GW)) := gw_app [Cond.methodLink RL 168 yL_play, Cond.static yL_play, Cond.initialized RL, Cond.codeWith yL_play cL_play 3 (some .int) [(0, 8, 11, 13)]] [492, 493, 57, 494] (by decide +kernel) (by decide +kernel)
theorem gl_170 : GoodIn GW (wsV RL 170 RX3 yX3_play (.code yX3_play cX3_play 1 (some .int) :: GW)) := gw_app [Cond.methodLink RL 170 yX3_play, Cond.instanceMethod yX3_play, Cond.selects RX3 yX3_play yX3_play, Cond.initialized RX3, Cond.code yX3_play cX3_play 1 (some .int)] [509, 510, 511, 5, 512] (by decide +kernel) (by decide +kernel)
theorem gl_171 : GoodIn GW (va_wsS RL 171 yL_back (.codeWith yL_back cL_back 4 (some .int) [(0, 9, 12, 22), (0, 9, 15, 13)] :: GW)) := gw_app [Cond.methodLink RL 171 yL_back, Cond.static yL_back, Cond.initialized RL, Cond.codeWith yL_back cL_back 4 (some .int) [(0, 9, 12, 22), (0, 9, 15, 13)]] [517, 518, 57, 519] (by decide +kernel) (by decide +kernel)
theorem gl_173 : GoodIn GW (wsV RL 173 RX3 yX3_back (.code yX3_back cX3_back 2 (some .int) :: GW)) := gw_app [Cond.methodLink RL 173 yX3_back, Cond.instanceMethod yX3_back, Cond.selects RX3 yX3_back yX3_back, Cond.initialized RX3, Cond.code yX3_back cX3_back 2 (some .int)] [532, 533, 534, 5, 535] (by decide +kernel) (by decide +kernel)
theorem gl_174 : GoodIn GW (wsV RL 174 RX2 yX2_playing (.code yX2_playing cX2_playing 1 (some .int) :: GW)) := gw_app [Cond.methodLink RL 174 yX2_playing, Cond.instanceMethod yX2_playing, Cond.selects RX2 yX2_playing yX2_playing, Cond.initialized RX2, Cond.code yX2_playing cX2_playing 1 (some .int)] [540, 541, 542, 2, 543] (by decide +kernel) (by decide +kernel)
theorem gl_177 : GoodIn GW (wsV RL 177 RX3 yX3_playing (.code yX3_playing cX3_playing 1 (some .int) :: GW)) := gw_app [Cond.methodLink RL 177 yX3_playing, Cond.instanceMethod yX3_playing, Cond.selects RX3 yX3_playing yX3_playing, Cond.initialized RX3, Cond.code yX3_playing cX3_playing 1 (some .int)] [544, 545, 546, 5, 547] (by decide +kernel) (by decide +kernel)
theorem gl_178 : GoodIn GW (wsV RL 178 RX2 yX2_place (.code yX2_place cX2_place 1 (some .int) :: GW)) := gw_app [Cond.methodLink RL 178 yX2_place, Cond.instanceMethod yX2_place, Cond.selects RX2 yX2_place yX2_place, Cond.initialized RX2, Cond.code yX2_place cX2_place 1 (some .int)] [548, 549, 550, 2, 551] (by decide +kernel) (by decide +kernel)
theorem gl_181 : GoodIn GW (wsV RL 181 RX3 yX3_place (.code yX3_place cX3_place 1 (some .int) :: GW)) := gw_app [Cond.methodLink RL 181 yX3_place, Cond.instanceMethod yX3_place, Cond.selects RX3 yX3_place yX3_place, Cond.initialized RX3, Cond.code yX3_place cX3_place 1 (some .int)] [553, 554, 555, 5, 556] (by decide +kernel) (by decide +kernel)
theorem gl_182 : GoodIn GW (va_wsS RL 182 yL_correct (.codeWith yL_correct cL_correct 6 (some .int) [(0, 12, 15, 28), (0, 12, 19, 22), (0, 12, 23, 13)] :: GW)) := gw_app [Cond.methodLink RL 182 yL_correct, Cond.static yL_correct, Cond.initialized RL, Cond.codeWith yL_correct cL_correct 6 (some .int) [(0, 12, 15, 28), (0, 12, 19, 22), (0, 12, 23, 13)]] [557, 558, 57, 559] (by decide +kernel) (by decide +kernel)
theorem gl_185 : GoodIn GW (wsV RL 185 RX3 yX3_correct (.code yX3_correct cX3_correct 6 (some .int) :: GW)) := gw_app [Cond.methodLink RL 185 yX3_correct, Cond.instanceMethod yX3_correct, Cond.selects RX3 yX3_correct yX3_correct, Cond.initialized RX3, Cond.code yX3_correct cX3_correct 6 (some .int)] [565, 566, 567, 5, 568] (by decide +kernel) (by decide +kernel)
theorem gl_186 : GoodIn GW (va_wsS RL 186 yL_carbon (.codeWith yL_carbon cL_carbon 5 (some .int) [(0, 10, 13, 28)] :: GW)) := gw_app [Cond.methodLink RL 186 yL_carbon, Cond.static yL_carbon, Cond.initialized RL, Cond.codeWith yL_carbon cL_carbon 5 (some .int) [(0, 10, 13, 28)]] [569, 570, 57, 571] (by decide +kernel) (by decide +kernel)
theorem gl_188 : GoodIn GW (wsV RL 188 RX3 yX3_carbon (.code yX3_carbon cX3_carbon 3 (some .int) :: GW)) := gw_app [Cond.methodLink RL 188 yX3_carbon, Cond.instanceMethod yX3_carbon, Cond.selects RX3 yX3_carbon yX3_carbon, Cond.initialized RX3, Cond.code yX3_carbon cX3_carbon 3 (some .int)] [577, 578, 579, 5, 580] (by decide +kernel) (by decide +kernel)
theorem gl_189 : GoodIn GW (wsV RL 189 RX2 yX2_corrected (.code yX2_corrected cX2_corrected 1 (some .int) :: GW)) := gw_app [Cond.methodLink RL 189 yX2_corrected, Cond.instanceMethod yX2_corrected, Cond.selects RX2 yX2_corrected yX2_corrected, Cond.initialized RX2, Cond.code yX2_corrected cX2_corrected 1 (some .int)] [581, 582, 583, 2, 584] (by decide +kernel) (by decide +kernel)
theorem gl_192 : GoodIn GW (wsV RL 192 RX3 yX3_corrected (.code yX3_corrected cX3_corrected 1 (some .int) :: GW)) := gw_app [Cond.methodLink RL 192 yX3_corrected, Cond.instanceMethod yX3_corrected, Cond.selects RX3 yX3_corrected yX3_corrected, Cond.initialized RX3, Cond.code yX3_corrected cX3_corrected 1 (some .int)] [589, 590, 591, 5, 592] (by decide +kernel) (by decide +kernel)
theorem gl_193 : GoodIn GW (wsV RL 193 RX2 yX2_room (.code yX2_room cX2_room 1 (some .int) :: GW)) := gw_app [Cond.methodLink RL 193 yX2_room, Cond.instanceMethod yX2_room, Cond.selects RX2 yX2_room yX2_room, Cond.initialized RX2, Cond.code yX2_room cX2_room 1 (some .int)] [597, 598, 599, 2, 600] (by decide +kernel) (by decide +kernel)
theorem gl_196 : GoodIn GW (wsV RL 196 RX3 yX3_room (.code yX3_room cX3_room 1 (some .int) :: GW)) := gw_app [Cond.methodLink RL 196 yX3_room, Cond.instanceMethod yX3_room, Cond.selects RX3 yX3_room yX3_room, Cond.initialized RX3, Cond.code yX3_room cX3_room 1 (some .int)] [602, 603, 604, 5, 605] (by decide +kernel) (by decide +kernel)
theorem gl_197 : GoodIn GW (wsV RL 197 RX2 yX2_nextLoser (.code yX2_nextLoser cX2_nextLoser 1 (some .int) :: GW)) := gw_app [Cond.methodLink RL 197 yX2_nextLoser, Cond.instanceMethod yX2_nextLoser, Cond.selects RX2 yX2_nextLoser yX2_nextLoser, Cond.initialized RX2, Cond.code yX2_nextLoser cX2_nextLoser 1 (some .int)] [606, 607, 608, 2, 609] (by decide +kernel) (by decide +kernel)
theorem gl_200 : GoodIn GW (wsV RL 200 RX3 yX3_nextLoser (.code yX3_nextLoser cX3_nextLoser 1 (some .int) :: GW)) := gw_app [Cond.methodLink RL 200 yX3_nextLoser, Cond.instanceMethod yX3_nextLoser, Cond.selects RX3 yX3_nextLoser yX3_nextLoser, Cond.initialized RX3, Cond.code yX3_nextLoser cX3_nextLoser 1 (some .int)] [614, 615, 616, 5, 617] (by decide +kernel) (by decide +kernel)
theorem gl_201 : GoodIn GW (va_wsS RL 201 yL_lossOf (.codeWith yL_lossOf cL_lossOf 5 (some .int) [(0, 10, 13, 28), (0, 10, 17, 22)] :: GW)) := gw_app [Cond.methodLink RL 201 yL_lossOf, Cond.static yL_lossOf, Cond.initialized RL, Cond.codeWith yL_lossOf cL_lossOf 5 (some .int) [(0, 10, 13, 28), (0, 10, 17, 22)]] [622, 623, 57, 624] (by decide +kernel) (by decide +kernel)
theorem gl_203 : GoodIn GW (wsV RL 203 RX3 yX3_lossOf (.code yX3_lossOf cX3_lossOf 3 (some .int) :: GW)) := gw_app [Cond.methodLink RL 203 yX3_lossOf, Cond.instanceMethod yX3_lossOf, Cond.selects RX3 yX3_lossOf yX3_lossOf, Cond.initialized RX3, Cond.code yX3_lossOf cX3_lossOf 3 (some .int)] [636, 637, 638, 5, 639] (by decide +kernel) (by decide +kernel)
theorem gl_204 : GoodIn GW (va_wsS RL 204 yL_goneAfter (.codeWith yL_goneAfter cL_goneAfter 4 (some .int) [(0, 9, 12, 22)] :: GW)) := gw_app [Cond.methodLink RL 204 yL_goneAfter, Cond.static yL_goneAfter, Cond.initialized RL, Cond.codeWith yL_goneAfter cL_goneAfter 4 (some .int) [(0, 9, 12, 22)]] [644, 645, 57, 646] (by decide +kernel) (by decide +kernel)
theorem gl_206 : GoodIn GW (wsV RL 206 RX3 yX3_goneAfter (.code yX3_goneAfter cX3_goneAfter 5 (some .int) :: GW)) := gw_app [Cond.methodLink RL 206 yX3_goneAfter, Cond.instanceMethod yX3_goneAfter, Cond.selects RX3 yX3_goneAfter yX3_goneAfter, Cond.initialized RX3, Cond.code yX3_goneAfter cX3_goneAfter 5 (some .int)] [651, 652, 653, 5, 654] (by decide +kernel) (by decide +kernel)
theorem gl_207 : GoodIn GW (va_wsS RL 207 yL_append (.codeWith yL_append cL_append 4 (some .int) [(0, 9, 12, 22), (0, 9, 15, 13)] :: GW)) := gw_app [Cond.methodLink RL 207 yL_append, Cond.static yL_append, Cond.initialized RL, Cond.codeWith yL_append cL_append 4 (some .int) [(0, 9, 12, 22), (0, 9, 15, 13)]] [655, 656, 57, 657] (by decide +kernel) (by decide +kernel)
theorem gl_209 : GoodIn GW (wsV RL 209 RX3 yX3_append (.code yX3_append cX3_append 2 (some .int) :: GW)) := gw_app [Cond.methodLink RL 209 yX3_append, Cond.instanceMethod yX3_append, Cond.selects RX3 yX3_append yX3_append, Cond.initialized RX3, Cond.code yX3_append cX3_append 2 (some .int)] [667, 668, 669, 5, 670] (by decide +kernel) (by decide +kernel)
theorem gl_210 : GoodIn GW (wsV RL 210 RX2 yX2_clearText (.code yX2_clearText cX2_clearText 2 (some .int) :: GW)) := gw_app [Cond.methodLink RL 210 yX2_clearText, Cond.instanceMethod yX2_clearText, Cond.selects RX2 yX2_clearText yX2_clearText, Cond.initialized RX2, Cond.code yX2_clearText cX2_clearText 2 (some .int)] [672, 673, 674, 2, 675] (by decide +kernel) (by decide +kernel)
theorem gl_213 : GoodIn GW (wsV RL 213 RX3 yX3_clearText (.code yX3_clearText cX3_clearText 2 (some .int) :: GW)) := gw_app [Cond.methodLink RL 213 yX3_clearText, Cond.instanceMethod yX3_clearText, Cond.selects RX3 yX3_clearText yX3_clearText, Cond.initialized RX3, Cond.code yX3_clearText cX3_clearText 2 (some .int)] [676, 677, 678, 5, 679] (by decide +kernel) (by decide +kernel)
theorem gl_214 : GoodIn GW (wsV RL 214 RX2 yX2_firstError (.code yX2_firstError cX2_firstError 1 (some .int) :: GW)) := gw_app [Cond.methodLink RL 214 yX2_firstError, Cond.instanceMethod yX2_firstError, Cond.selects RX2 yX2_firstError yX2_firstError, Cond.initialized RX2, Cond.code yX2_firstError cX2_firstError 1 (some .int)] [680, 681, 682, 2, 683] (by decide +kernel) (by decide +kernel)
theorem gl_217 : GoodIn GW (wsV RL 217 RX3 yX3_firstError (.code yX3_firstError cX3_firstError 1 (some .int) :: GW)) := gw_app [Cond.methodLink RL 217 yX3_firstError, Cond.instanceMethod yX3_firstError, Cond.selects RX3 yX3_firstError yX3_firstError, Cond.initialized RX3, Cond.code yX3_firstError cX3_firstError 1 (some .int)] [700, 701, 702, 5, 703] (by decide +kernel) (by decide +kernel)
theorem gl_218 : GoodIn GW (va_wsS RL 218 yL_run (.codeWith yL_run cL_run 3 (some .int) [(0, 8, 11, 22)] :: GW)) := gw_app [Cond.methodLink RL 218 yL_run, Cond.static yL_run, Cond.initialized RL, Cond.codeWith yL_run cL_run 3 (some .int) [(0, 8, 11, 22)]] [728, 729, 57, 730] (by decide +kernel) (by decide +kernel)
theorem gl_220 : GoodIn GW (wsV RL 220 RX3 yX3_run (.code yX3_run cX3_run 2 (some .int) :: GW)) := gw_app [Cond.methodLink RL 220 yX3_run, Cond.instanceMethod yX3_run, Cond.selects RX3 yX3_run yX3_run, Cond.initialized RX3, Cond.code yX3_run cX3_run 2 (some .int)] [755, 756, 757, 5, 758] (by decide +kernel) (by decide +kernel)
theorem gl_221 : GoodIn GW (va_wsS RL 221 yL_undo (.codeWith yL_undo cL_undo 3 (some .int) [(0, 8, 11, 13)] :: GW)) := gw_app [Cond.methodLink RL 221 yL_undo, Cond.static yL_undo, Cond.initialized RL, Cond.codeWith yL_undo cL_undo 3 (some .int) [(0, 8, 11, 13)]] [767, 768, 57, 769] (by decide +kernel) (by decide +kernel)
theorem gl_223 : GoodIn GW (wsV RL 223 RX3 yX3_undo (.code yX3_undo cX3_undo 1 (some .int) :: GW)) := gw_app [Cond.methodLink RL 223 yX3_undo, Cond.instanceMethod yX3_undo, Cond.selects RX3 yX3_undo yX3_undo, Cond.initialized RX3, Cond.code yX3_undo cX3_undo 1 (some .int)] [774, 775, 776, 5, 777] (by decide +kernel) (by decide +kernel)
theorem gl_224 : GoodIn GW (wsV RL 224 RX2 yX2_savedStates (.code yX2_savedStates cX2_savedStates 1 (some .int) :: GW)) := gw_app [Cond.methodLink RL 224 yX2_savedStates, Cond.instanceMethod yX2_savedStates, Cond.selects RX2 yX2_savedStates yX2_savedStates, Cond.initialized RX2, Cond.code yX2_savedStates cX2_savedStates 1 (some .int)] [778, 779, 780, 2, 781] (by decide +kernel) (by decide +kernel)
theorem gl_227 : GoodIn GW (wsV RL 227 RX3 yX3_savedStates (.code yX3_savedStates cX3_savedStates 1 (some .int) :: GW)) := gw_app [Cond.methodLink RL 227 yX3_savedStates, Cond.instanceMethod yX3_savedStates, Cond.selects RX3 yX3_savedStates yX3_savedStates, Cond.initialized RX3, Cond.code yX3_savedStates cX3_savedStates 1 (some .int)] [782, 783, 784, 5, 785] (by decide +kernel) (by decide +kernel)
theorem gl_228 : GoodIn GW (wsV RL 228 RX2 yX2_digest (.code yX2_digest cX2_digest 4 (some .long) :: GW)) := gw_app [Cond.methodLink RL 228 yX2_digest, Cond.instanceMethod yX2_digest, Cond.selects RX2 yX2_digest yX2_digest, Cond.initialized RX2, Cond.code yX2_digest cX2_digest 4 (some .long)] [786, 787, 788, 2, 789] (by decide +kernel) (by decide +kernel)
theorem gl_232 : GoodIn GW (wsV RL 232 RX3 yX3_digest (.code yX3_digest cX3_digest 5 (some .long) :: GW)) := gw_app [Cond.methodLink RL 232 yX3_digest, Cond.instanceMethod yX3_digest, Cond.selects RX3 yX3_digest yX3_digest, Cond.initialized RX3, Cond.code yX3_digest cX3_digest 5 (some .long)] [811, 812, 813, 5, 814] (by decide +kernel) (by decide +kernel)
set_option maxHeartbeats 4000000 in
set_option maxRecDepth 100000 in
/-- case 0: begin -/
theorem lc_0 {Γ : Ctx} (hst : Γ.l.stackTraces = false) (B : CX Γ cL_law 9 RL room_1) (Z : CZ Γ) {b0 L : Nat} {xs : Nat → Int32} (C : SCR Γ b0 L xs) (hL : L ≤ 2048) {a : Nat → Nat → Nat} {b : Nat} {am : Nat → Nat} {S : BO} {ob : Nat → Int64} {M : MO} {i k n : Nat} (hi : i + 4 ≤ L) (hk : k ≤ 600000) (hn : n ≤ 7000000) {r9 rm : Int32} {S9 : BO} {ob9 : Nat → Int64} {M9 : MO} (hf : f_L_begin S ob = some (r9, S9, ob9)) (hm : f_X3_begin M = some (rm, M9)) (hth : M9.1 0 = r9) (hv : r9 = 0 → ob9 0 = Int32.toInt64 rm) (kk : X Γ 9 (k + 4) (n + 24) 1727 [(0, .ref b0), (1, .ref (a 0 0)), (2, .ref (am 0)), (3, .ref b), (4, .int (nI i))] [] (wLw Γ.cs a b am S9 ob9 M9)) : X Γ 9 k n 204 [(0, .ref b0), (1, .ref (a 0 0)), (2, .ref (am 0)), (3, .ref b), (4, .int (nI i))] [] (wLw Γ.cs a b am S ob M) := by
  refine x_aload_n B (pc' := 205) 1 dL_law_204 rfl rfl rfl ?_
  refine x_aload_n B (pc' := 206) 3 dL_law_205 rfl rfl rfl ?_
  refine l_wrap B Z [.ref (a 0 0), .ref b] (k_L_begin _ hst _ _ a b S ob hf) gl_91 np_L_begin ⟨Nat.le_of_ble_eq_true rfl, Nat.le_of_ble_eq_true rfl⟩ ⟨(by show _ ≤ 601024; simp only [Nat.add_zero, Nat.add_assoc]; omega), (by show _ ≤ 7293034; simp only [Nat.add_zero, Nat.add_assoc]; omega)⟩ rfl (Nat.le_of_ble_eq_true rfl) dL_law_206 (pc' := 209) rfl ?_
  refine x_istore B (pc' := 211) [1, 2, 3, 4, 5, 0] [(0, .ref b0), (1, .ref (a 0 0)), (2, .ref (am 0)), (3, .ref b), (4, .int (nI i)), (5, .int r9)] dL_law_209 (by decide) rfl rfl ?_
  refine x_aload_n B (pc' := 212) 2 dL_law_211 rfl rfl rfl ?_
  refine l_modi B [] (k_X3_begin _ _ _ am M hm) gl_96 rfl np_X3_begin ⟨Nat.le_of_ble_eq_true rfl, Nat.le_of_ble_eq_true rfl⟩ ⟨(by show _ ≤ 601024; simp only [Nat.add_zero, Nat.add_assoc]; omega), (by show _ ≤ 7293034; simp only [Nat.add_zero, Nat.add_assoc]; omega)⟩ rfl (Nat.le_of_ble_eq_true rfl) dL_law_212 (pc' := 215) rfl ?_
  refine x_istore B (pc' := 217) [1, 2, 3, 4, 5, 6, 0] [(0, .ref b0), (1, .ref (a 0 0)), (2, .ref (am 0)), (3, .ref b), (4, .int (nI i)), (5, .int r9), (6, .int rm)] dL_law_215 (by decide) rfl rfl ?_
  refine x_aload_n B (pc' := 218) 2 dL_law_217 rfl rfl rfl ?_
  refine l_modi B [] (k_X3_thrown _ _ _ am M9 rfl) gl_97 rfl np_X3_thrown ⟨Nat.le_of_ble_eq_true rfl, Nat.le_of_ble_eq_true rfl⟩ ⟨(by show _ ≤ 601024; simp only [Nat.add_zero, Nat.add_assoc]; omega), (by show _ ≤ 7293034; simp only [Nat.add_zero, Nat.add_assoc]; omega)⟩ rfl (Nat.le_of_ble_eq_true rfl) dL_law_218 (pc' := 221) rfl ?_
  refine x_iload B (pc' := 223) 5 dL_law_221 rfl rfl ?_
  refine x_icmp_eq B 228 226 dL_law_223 (by decide) rfl (fun _ => ?_) (fun hc => absurd hth hc)
  refine x_iload B (pc' := 230) 5 dL_law_228 rfl rfl ?_
  refine x_if_ne B 245 233 dL_law_230 (by decide) rfl (fun hc => ?_) (fun hc => ?_)
  · refine x_goto B (pc' := 1727) dL_law_245 (by decide) ?_
    refine x_lv [0, 1, 2, 3, 4] (lv' := [(0, .ref b0), (1, .ref (a 0 0)), (2, .ref (am 0)), (3, .ref b), (4, .int (nI i))]) rfl ?_
    refine x_widen (k' := k + 4) (n' := n + 24) (by first | exact Nat.le_refl _ | (show _ ≤ _; simp only [Nat.add_zero, Nat.add_assoc]; omega)) (by first | exact Nat.le_refl _ | (show _ ≤ _; simp only [Nat.add_zero, Nat.add_assoc]; omega)) ?_
    exact kk
  · refine x_aload_n B (pc' := 234) 3 dL_law_233 rfl rfl rfl ?_
    refine x_iconst B (pc' := 235) 0 dL_law_234 (by decide) rfl ?_
    refine l_out B (pc' := 236) dL_law_235 rfl ?_
    refine x_iload B (pc' := 238) 6 dL_law_236 rfl rfl ?_
    refine x_i2l B (pc' := 239) dL_law_238 rfl ?_
    refine x_lcmp0 B (pc' := 240) (hv hc) dL_law_239 rfl ?_
    refine x_if_eq B 245 243 dL_law_240 (by decide) rfl (fun _ => ?_) (fun hc => absurd rfl hc)
    refine x_goto B (pc' := 1727) dL_law_245 (by decide) ?_
    refine x_lv [0, 1, 2, 3, 4] (lv' := [(0, .ref b0), (1, .ref (a 0 0)), (2, .ref (am 0)), (3, .ref b), (4, .int (nI i))]) rfl ?_
    refine x_widen (k' := k + 4) (n' := n + 24) (by first | exact Nat.le_refl _ | (show _ ≤ _; simp only [Nat.add_zero, Nat.add_assoc]; omega)) (by first | exact Nat.le_refl _ | (show _ ≤ _; simp only [Nat.add_zero, Nat.add_assoc]; omega)) ?_
    exact kk
set_option maxHeartbeats 4000000 in
set_option maxRecDepth 100000 in
/-- case 1: halt -/
theorem lc_1 {Γ : Ctx} (hst : Γ.l.stackTraces = false) (B : CX Γ cL_law 9 RL room_1) (Z : CZ Γ) {b0 L : Nat} {xs : Nat → Int32} (C : SCR Γ b0 L xs) (hL : L ≤ 2048) {a : Nat → Nat → Nat} {b : Nat} {am : Nat → Nat} {S : BO} {ob : Nat → Int64} {M : MO} {i k n : Nat} (hi : i + 4 ≤ L) (hk : k ≤ 600000) (hn : n ≤ 7000000) {r9 rm : Int32} {S9 : BO} {ob9 : Nat → Int64} {M9 : MO} (hf : f_L_halt S ob = some (r9, S9, ob9)) (hm : f_X3_halt M = some (rm, M9)) (hth : M9.1 0 = r9) (hv : r9 = 0 → ob9 0 = Int32.toInt64 rm) (kk : X Γ 9 (k + 4) (n + 24) 1727 [(0, .ref b0), (1, .ref (a 0 0)), (2, .ref (am 0)), (3, .ref b), (4, .int (nI i))] [] (wLw Γ.cs a b am S9 ob9 M9)) : X Γ 9 k n 248 [(0, .ref b0), (1, .ref (a 0 0)), (2, .ref (am 0)), (3, .ref b), (4, .int (nI i))] [] (wLw Γ.cs a b am S ob M) := by
  refine x_aload_n B (pc' := 249) 1 dL_law_248 rfl rfl rfl ?_
  refine x_aload_n B (pc' := 250) 3 dL_law_249 rfl rfl rfl ?_
  refine l_wrap B Z [.ref (a 0 0), .ref b] (k_L_halt _ hst _ _ a b S ob hf) gl_100 np_L_halt ⟨Nat.le_of_ble_eq_true rfl, Nat.le_of_ble_eq_true rfl⟩ ⟨(by show _ ≤ 601024; simp only [Nat.add_zero, Nat.add_assoc]; omega), (by show _ ≤ 7293034; simp only [Nat.add_zero, Nat.add_assoc]; omega)⟩ rfl (Nat.le_of_ble_eq_true rfl) dL_law_250 (pc' := 253) rfl ?_
  refine x_istore B (pc' := 255) [1, 2, 3, 4, 5, 0] [(0, .ref b0), (1, .ref (a 0 0)), (2, .ref (am 0)), (3, .ref b), (4, .int (nI i)), (5, .int r9)] dL_law_253 (by decide) rfl rfl ?_
  refine x_aload_n B (pc' := 256) 2 dL_law_255 rfl rfl rfl ?_
  refine l_modi B [] (k_X3_halt _ _ _ am M hm) gl_102 rfl np_X3_halt ⟨Nat.le_of_ble_eq_true rfl, Nat.le_of_ble_eq_true rfl⟩ ⟨(by show _ ≤ 601024; simp only [Nat.add_zero, Nat.add_assoc]; omega), (by show _ ≤ 7293034; simp only [Nat.add_zero, Nat.add_assoc]; omega)⟩ rfl (Nat.le_of_ble_eq_true rfl) dL_law_256 (pc' := 259) rfl ?_
  refine x_istore B (pc' := 261) [1, 2, 3, 4, 5, 6, 0] [(0, .ref b0), (1, .ref (a 0 0)), (2, .ref (am 0)), (3, .ref b), (4, .int (nI i)), (5, .int r9), (6, .int rm)] dL_law_259 (by decide) rfl rfl ?_
  refine x_aload_n B (pc' := 262) 2 dL_law_261 rfl rfl rfl ?_
  refine l_modi B [] (k_X3_thrown _ _ _ am M9 rfl) gl_97 rfl np_X3_thrown ⟨Nat.le_of_ble_eq_true rfl, Nat.le_of_ble_eq_true rfl⟩ ⟨(by show _ ≤ 601024; simp only [Nat.add_zero, Nat.add_assoc]; omega), (by show _ ≤ 7293034; simp only [Nat.add_zero, Nat.add_assoc]; omega)⟩ rfl (Nat.le_of_ble_eq_true rfl) dL_law_262 (pc' := 265) rfl ?_
  refine x_iload B (pc' := 267) 5 dL_law_265 rfl rfl ?_
  refine x_icmp_eq B 272 270 dL_law_267 (by decide) rfl (fun _ => ?_) (fun hc => absurd hth hc)
  refine x_iload B (pc' := 274) 5 dL_law_272 rfl rfl ?_
  refine x_if_ne B 289 277 dL_law_274 (by decide) rfl (fun hc => ?_) (fun hc => ?_)
  · refine x_goto B (pc' := 1727) dL_law_289 (by decide) ?_
    refine x_lv [0, 1, 2, 3, 4] (lv' := [(0, .ref b0), (1, .ref (a 0 0)), (2, .ref (am 0)), (3, .ref b), (4, .int (nI i))]) rfl ?_
    refine x_widen (k' := k + 4) (n' := n + 24) (by first | exact Nat.le_refl _ | (show _ ≤ _; simp only [Nat.add_zero, Nat.add_assoc]; omega)) (by first | exact Nat.le_refl _ | (show _ ≤ _; simp only [Nat.add_zero, Nat.add_assoc]; omega)) ?_
    exact kk
  · refine x_aload_n B (pc' := 278) 3 dL_law_277 rfl rfl rfl ?_
    refine x_iconst B (pc' := 279) 0 dL_law_278 (by decide) rfl ?_
    refine l_out B (pc' := 280) dL_law_279 rfl ?_
    refine x_iload B (pc' := 282) 6 dL_law_280 rfl rfl ?_
    refine x_i2l B (pc' := 283) dL_law_282 rfl ?_
    refine x_lcmp0 B (pc' := 284) (hv hc) dL_law_283 rfl ?_
    refine x_if_eq B 289 287 dL_law_284 (by decide) rfl (fun _ => ?_) (fun hc => absurd rfl hc)
    refine x_goto B (pc' := 1727) dL_law_289 (by decide) ?_
    refine x_lv [0, 1, 2, 3, 4] (lv' := [(0, .ref b0), (1, .ref (a 0 0)), (2, .ref (am 0)), (3, .ref b), (4, .int (nI i))]) rfl ?_
    refine x_widen (k' := k + 4) (n' := n + 24) (by first | exact Nat.le_refl _ | (show _ ≤ _; simp only [Nat.add_zero, Nat.add_assoc]; omega)) (by first | exact Nat.le_refl _ | (show _ ≤ _; simp only [Nat.add_zero, Nat.add_assoc]; omega)) ?_
    exact kk
set_option maxHeartbeats 4000000 in
set_option maxRecDepth 100000 in
/-- case 2: speak -/
theorem lc_2 {Γ : Ctx} (hst : Γ.l.stackTraces = false) (B : CX Γ cL_law 9 RL room_1) (Z : CZ Γ) {b0 L : Nat} {xs : Nat → Int32} (C : SCR Γ b0 L xs) (hL : L ≤ 2048) {a : Nat → Nat → Nat} {b : Nat} {am : Nat → Nat} {S : BO} {ob : Nat → Int64} {M : MO} {i k n : Nat} (hi : i + 4 ≤ L) (hk : k ≤ 600000) (hn : n ≤ 7000000) {r9 rm : Int32} {S9 : BO} {ob9 : Nat → Int64} {M9 : MO} (hf : f_L_speak (xs (i + 1)) S ob = some (r9, S9, ob9)) (hm : f_X3_speak (xs (i + 1)) M = some (rm, M9)) (hth : M9.1 0 = r9) (hv : r9 = 0 → ob9 0 = Int32.toInt64 rm) (kk : X Γ 9 (k + 4) (n + 24) 1727 [(0, .ref b0), (1, .ref (a 0 0)), (2, .ref (am 0)), (3, .ref b), (4, .int (nI i))] [] (wLw Γ.cs a b am S9 ob9 M9)) : X Γ 9 k n 292 [(0, .ref b0), (1, .ref (a 0 0)), (2, .ref (am 0)), (3, .ref b), (4, .int (nI i))] [] (wLw Γ.cs a b am S ob M) := by
  refine x_aload_n B (pc' := 293) 1 dL_law_292 rfl rfl rfl ?_
  refine x_aload_n B (pc' := 294) 0 dL_law_293 rfl rfl rfl ?_
  refine x_iload B (pc' := 296) 4 dL_law_294 rfl rfl ?_
  refine x_iconst B (pc' := 297) 1 dL_law_296 (by decide) rfl ?_
  refine x_iadd B (pc' := 298) dL_law_297 rfl ?_
  refine x_sld B C (i + 1) (nI_add i 1) (by omega) hL dL_law_298 (pc' := 299) rfl ?_
  refine x_aload_n B (pc' := 300) 3 dL_law_299 rfl rfl rfl ?_
  refine l_wrap B Z [.ref (a 0 0), .int (xs (i + 1)), .ref b] (k_L_speak _ hst _ _ a b (xs (i + 1)) S ob hf) gl_103 np_L_speak ⟨Nat.le_of_ble_eq_true rfl, Nat.le_of_ble_eq_true rfl⟩ ⟨(by show _ ≤ 601024; simp only [Nat.add_zero, Nat.add_assoc]; omega), (by show _ ≤ 7293034; simp only [Nat.add_zero, Nat.add_assoc]; omega)⟩ rfl (Nat.le_of_ble_eq_true rfl) dL_law_300 (pc' := 303) rfl ?_
  refine x_istore B (pc' := 305) [1, 2, 3, 4, 5, 0] [(0, .ref b0), (1, .ref (a 0 0)), (2, .ref (am 0)), (3, .ref b), (4, .int (nI i)), (5, .int r9)] dL_law_303 (by decide) rfl rfl ?_
  refine x_aload_n B (pc' := 306) 2 dL_law_305 rfl rfl rfl ?_
  refine x_aload_n B (pc' := 307) 0 dL_law_306 rfl rfl rfl ?_
  refine x_iload B (pc' := 309) 4 dL_law_307 rfl rfl ?_
  refine x_iconst B (pc' := 310) 1 dL_law_309 (by decide) rfl ?_
  refine x_iadd B (pc' := 311) dL_law_310 rfl ?_
  refine x_sld B C (i + 1) (nI_add i 1) (by omega) hL dL_law_311 (pc' := 312) rfl ?_
  refine l_modi B [.int (xs (i + 1))] (k_X3_speak _ _ _ am (xs (i + 1)) M hm) gl_106 rfl np_X3_speak ⟨Nat.le_of_ble_eq_true rfl, Nat.le_of_ble_eq_true rfl⟩ ⟨(by show _ ≤ 601024; simp only [Nat.add_zero, Nat.add_assoc]; omega), (by show _ ≤ 7293034; simp only [Nat.add_zero, Nat.add_assoc]; omega)⟩ rfl (Nat.le_of_ble_eq_true rfl) dL_law_312 (pc' := 315) rfl ?_
  refine x_istore B (pc' := 317) [1, 2, 3, 4, 5, 6, 0] [(0, .ref b0), (1, .ref (a 0 0)), (2, .ref (am 0)), (3, .ref b), (4, .int (nI i)), (5, .int r9), (6, .int rm)] dL_law_315 (by decide) rfl rfl ?_
  refine x_aload_n B (pc' := 318) 2 dL_law_317 rfl rfl rfl ?_
  refine l_modi B [] (k_X3_thrown _ _ _ am M9 rfl) gl_97 rfl np_X3_thrown ⟨Nat.le_of_ble_eq_true rfl, Nat.le_of_ble_eq_true rfl⟩ ⟨(by show _ ≤ 601024; simp only [Nat.add_zero, Nat.add_assoc]; omega), (by show _ ≤ 7293034; simp only [Nat.add_zero, Nat.add_assoc]; omega)⟩ rfl (Nat.le_of_ble_eq_true rfl) dL_law_318 (pc' := 321) rfl ?_
  refine x_iload B (pc' := 323) 5 dL_law_321 rfl rfl ?_
  refine x_icmp_eq B 328 326 dL_law_323 (by decide) rfl (fun _ => ?_) (fun hc => absurd hth hc)
  refine x_iload B (pc' := 330) 5 dL_law_328 rfl rfl ?_
  refine x_if_ne B 345 333 dL_law_330 (by decide) rfl (fun hc => ?_) (fun hc => ?_)
  · refine x_goto B (pc' := 1727) dL_law_345 (by decide) ?_
    refine x_lv [0, 1, 2, 3, 4] (lv' := [(0, .ref b0), (1, .ref (a 0 0)), (2, .ref (am 0)), (3, .ref b), (4, .int (nI i))]) rfl ?_
    refine x_widen (k' := k + 4) (n' := n + 24) (by first | exact Nat.le_refl _ | (show _ ≤ _; simp only [Nat.add_zero, Nat.add_assoc]; omega)) (by first | exact Nat.le_refl _ | (show _ ≤ _; simp only [Nat.add_zero, Nat.add_assoc]; omega)) ?_
    exact kk
  · refine x_aload_n B (pc' := 334) 3 dL_law_333 rfl rfl rfl ?_
    refine x_iconst B (pc' := 335) 0 dL_law_334 (by decide) rfl ?_
    refine l_out B (pc' := 336) dL_law_335 rfl ?_
    refine x_iload B (pc' := 338) 6 dL_law_336 rfl rfl ?_
    refine x_i2l B (pc' := 339) dL_law_338 rfl ?_
    refine x_lcmp0 B (pc' := 340) (hv hc) dL_law_339 rfl ?_
    refine x_if_eq B 345 343 dL_law_340 (by decide) rfl (fun _ => ?_) (fun hc => absurd rfl hc)
    refine x_goto B (pc' := 1727) dL_law_345 (by decide) ?_
    refine x_lv [0, 1, 2, 3, 4] (lv' := [(0, .ref b0), (1, .ref (a 0 0)), (2, .ref (am 0)), (3, .ref b), (4, .int (nI i))]) rfl ?_
    refine x_widen (k' := k + 4) (n' := n + 24) (by first | exact Nat.le_refl _ | (show _ ≤ _; simp only [Nat.add_zero, Nat.add_assoc]; omega)) (by first | exact Nat.le_refl _ | (show _ ≤ _; simp only [Nat.add_zero, Nat.add_assoc]; omega)) ?_
    exact kk
set_option maxHeartbeats 4000000 in
set_option maxRecDepth 100000 in
/-- case 3: setFlag -/
theorem lc_3 {Γ : Ctx} (hst : Γ.l.stackTraces = false) (B : CX Γ cL_law 9 RL room_1) (Z : CZ Γ) {b0 L : Nat} {xs : Nat → Int32} (C : SCR Γ b0 L xs) (hL : L ≤ 2048) {a : Nat → Nat → Nat} {b : Nat} {am : Nat → Nat} {S : BO} {ob : Nat → Int64} {M : MO} {i k n : Nat} (hi : i + 4 ≤ L) (hk : k ≤ 600000) (hn : n ≤ 7000000) {r9 rm : Int32} {S9 : BO} {ob9 : Nat → Int64} {M9 : MO} (hf : f_L_setFlag (xs (i + 1)) (bI (xs (i + 2))) S ob = some (r9, S9, ob9)) (hm : f_X3_setFlag (xs (i + 1)) (bI (xs (i + 2))) M = some (rm, M9)) (hth : M9.1 0 = r9) (hv : r9 = 0 → ob9 0 = if rm = 0 then (0 : Int64) else (1 : Int64)) (kk : X Γ 9 (k + 4) (n + 24) 1727 [(0, .ref b0), (1, .ref (a 0 0)), (2, .ref (am 0)), (3, .ref b), (4, .int (nI i))] [] (wLw Γ.cs a b am S9 ob9 M9)) : X Γ 9 k n 348 [(0, .ref b0), (1, .ref (a 0 0)), (2, .ref (am 0)), (3, .ref b), (4, .int (nI i))] [] (wLw Γ.cs a b am S ob M) := by
  refine x_aload_n B (pc' := 349) 1 dL_law_348 rfl rfl rfl ?_
  refine x_aload_n B (pc' := 350) 0 dL_law_349 rfl rfl rfl ?_
  refine x_iload B (pc' := 352) 4 dL_law_350 rfl rfl ?_
  refine x_iconst B (pc' := 353) 1 dL_law_352 (by decide) rfl ?_
  refine x_iadd B (pc' := 354) dL_law_353 rfl ?_
  refine x_sld B C (i + 1) (nI_add i 1) (by omega) hL dL_law_354 (pc' := 355) rfl ?_
  refine x_aload_n B (pc' := 356) 0 dL_law_355 rfl rfl rfl ?_
  refine x_iload B (pc' := 358) 4 dL_law_356 rfl rfl ?_
  refine x_iconst B (pc' := 359) 2 dL_law_358 (by decide) rfl ?_
  refine x_iadd B (pc' := 360) dL_law_359 rfl ?_
  refine x_sld B C (i + 2) (nI_add i 2) (by omega) hL dL_law_360 (pc' := 361) rfl ?_
  refine x_if_eq B 368 364 dL_law_361 (by decide) rfl (fun hq => ?_) (fun hq => ?_)
  · rw [show bI (xs (i + 2)) = 0 from if_pos hq] at hf hm
    refine x_iconst B (pc' := 369) 0 dL_law_368 (by decide) rfl ?_
    refine x_aload_n B (pc' := 370) 3 dL_law_369 rfl rfl rfl ?_
    refine l_wrap B Z [.ref (a 0 0), .int (xs (i + 1)), .int 0, .ref b] (k_L_setFlag _ hst _ _ a b (xs (i + 1)) 0 S ob hf) gl_107 np_L_setFlag ⟨Nat.le_of_ble_eq_true rfl, Nat.le_of_ble_eq_true rfl⟩ ⟨(by show _ ≤ 601024; simp only [Nat.add_zero, Nat.add_assoc]; omega), (by show _ ≤ 7293034; simp only [Nat.add_zero, Nat.add_assoc]; omega)⟩ rfl (Nat.le_of_ble_eq_true rfl) dL_law_370 (pc' := 373) rfl ?_
    refine x_istore B (pc' := 375) [1, 2, 3, 4, 5, 0] [(0, .ref b0), (1, .ref (a 0 0)), (2, .ref (am 0)), (3, .ref b), (4, .int (nI i)), (5, .int r9)] dL_law_373 (by decide) rfl rfl ?_
    refine x_aload_n B (pc' := 376) 2 dL_law_375 rfl rfl rfl ?_
    refine x_aload_n B (pc' := 377) 0 dL_law_376 rfl rfl rfl ?_
    refine x_iload B (pc' := 379) 4 dL_law_377 rfl rfl ?_
    refine x_iconst B (pc' := 380) 1 dL_law_379 (by decide) rfl ?_
    refine x_iadd B (pc' := 381) dL_law_380 rfl ?_
    refine x_sld B C (i + 1) (nI_add i 1) (by omega) hL dL_law_381 (pc' := 382) rfl ?_
    refine x_aload_n B (pc' := 383) 0 dL_law_382 rfl rfl rfl ?_
    refine x_iload B (pc' := 385) 4 dL_law_383 rfl rfl ?_
    refine x_iconst B (pc' := 386) 2 dL_law_385 (by decide) rfl ?_
    refine x_iadd B (pc' := 387) dL_law_386 rfl ?_
    refine x_sld B C (i + 2) (nI_add i 2) (by omega) hL dL_law_387 (pc' := 388) rfl ?_
    refine x_if_eq B 395 391 dL_law_388 (by decide) rfl (fun _ => ?_) (fun hc => absurd hq hc)
    refine x_iconst B (pc' := 396) 0 dL_law_395 (by decide) rfl ?_
    refine l_modi B [.int (xs (i + 1)), .int 0] (k_X3_setFlag _ _ _ am (xs (i + 1)) 0 M hm) gl_110 rfl np_X3_setFlag ⟨Nat.le_of_ble_eq_true rfl, Nat.le_of_ble_eq_true rfl⟩ ⟨(by show _ ≤ 601024; simp only [Nat.add_zero, Nat.add_assoc]; omega), (by show _ ≤ 7293034; simp only [Nat.add_zero, Nat.add_assoc]; omega)⟩ rfl (Nat.le_of_ble_eq_true rfl) dL_law_396 (pc' := 399) rfl ?_
    refine x_istore B (pc' := 401) [1, 2, 3, 4, 5, 6, 0] [(0, .ref b0), (1, .ref (a 0 0)), (2, .ref (am 0)), (3, .ref b), (4, .int (nI i)), (5, .int r9), (6, .int rm)] dL_law_399 (by decide) rfl rfl ?_
    refine x_aload_n B (pc' := 402) 2 dL_law_401 rfl rfl rfl ?_
    refine l_modi B [] (k_X3_thrown _ _ _ am M9 rfl) gl_97 rfl np_X3_thrown ⟨Nat.le_of_ble_eq_true rfl, Nat.le_of_ble_eq_true rfl⟩ ⟨(by show _ ≤ 601024; simp only [Nat.add_zero, Nat.add_assoc]; omega), (by show _ ≤ 7293034; simp only [Nat.add_zero, Nat.add_assoc]; omega)⟩ rfl (Nat.le_of_ble_eq_true rfl) dL_law_402 (pc' := 405) rfl ?_
    refine x_iload B (pc' := 407) 5 dL_law_405 rfl rfl ?_
    refine x_icmp_eq B 412 410 dL_law_407 (by decide) rfl (fun _ => ?_) (fun hc => absurd hth hc)
    refine x_iload B (pc' := 414) 5 dL_law_412 rfl rfl ?_
    refine x_if_ne B 436 417 dL_law_414 (by decide) rfl (fun hc => ?_) (fun hc => ?_)
    · refine x_goto B (pc' := 1727) dL_law_436 (by decide) ?_
      refine x_lv [0, 1, 2, 3, 4] (lv' := [(0, .ref b0), (1, .ref (a 0 0)), (2, .ref (am 0)), (3, .ref b), (4, .int (nI i))]) rfl ?_
      refine x_widen (k' := k + 4) (n' := n + 24) (by first | exact Nat.le_refl _ | (show _ ≤ _; simp only [Nat.add_zero, Nat.add_assoc]; omega)) (by first | exact Nat.le_refl _ | (show _ ≤ _; simp only [Nat.add_zero, Nat.add_assoc]; omega)) ?_
      exact kk
    · refine x_aload_n B (pc' := 418) 3 dL_law_417 rfl rfl rfl ?_
      refine x_iconst B (pc' := 419) 0 dL_law_418 (by decide) rfl ?_
      refine l_out B (pc' := 420) dL_law_419 rfl ?_
      refine x_iload B (pc' := 422) 6 dL_law_420 rfl rfl ?_
      refine x_if_eq B 429 425 dL_law_422 (by decide) rfl (fun hr => ?_) (fun hr => ?_)
      · refine x_lconst B (pc' := 430) 0 dL_law_429 (by decide) rfl ?_
        refine x_lcmp0 B (pc' := 431) ((hv hc).trans (if_pos hr)) dL_law_430 rfl ?_
        refine x_if_eq B 436 434 dL_law_431 (by decide) rfl (fun _ => ?_) (fun hc => absurd rfl hc)
        refine x_goto B (pc' := 1727) dL_law_436 (by decide) ?_
        refine x_lv [0, 1, 2, 3, 4] (lv' := [(0, .ref b0), (1, .ref (a 0 0)), (2, .ref (am 0)), (3, .ref b), (4, .int (nI i))]) rfl ?_
        refine x_widen (k' := k + 4) (n' := n + 24) (by first | exact Nat.le_refl _ | (show _ ≤ _; simp only [Nat.add_zero, Nat.add_assoc]; omega)) (by first | exact Nat.le_refl _ | (show _ ≤ _; simp only [Nat.add_zero, Nat.add_assoc]; omega)) ?_
        exact kk
      · refine x_lconst B (pc' := 426) 1 dL_law_425 (by decide) rfl ?_
        refine x_goto B (pc' := 430) dL_law_426 (by decide) ?_
        refine x_lcmp0 B (pc' := 431) ((hv hc).trans (if_neg hr)) dL_law_430 rfl ?_
        refine x_if_eq B 436 434 dL_law_431 (by decide) rfl (fun _ => ?_) (fun hc => absurd rfl hc)
        refine x_goto B (pc' := 1727) dL_law_436 (by decide) ?_
        refine x_lv [0, 1, 2, 3, 4] (lv' := [(0, .ref b0), (1, .ref (a 0 0)), (2, .ref (am 0)), (3, .ref b), (4, .int (nI i))]) rfl ?_
        refine x_widen (k' := k + 4) (n' := n + 24) (by first | exact Nat.le_refl _ | (show _ ≤ _; simp only [Nat.add_zero, Nat.add_assoc]; omega)) (by first | exact Nat.le_refl _ | (show _ ≤ _; simp only [Nat.add_zero, Nat.add_assoc]; omega)) ?_
        exact kk
  · rw [show bI (xs (i + 2)) = 1 from if_neg hq] at hf hm
    refine x_iconst B (pc' := 365) 1 dL_law_364 (by decide) rfl ?_
    refine x_goto B (pc' := 369) dL_law_365 (by decide) ?_
    refine x_aload_n B (pc' := 370) 3 dL_law_369 rfl rfl rfl ?_
    refine l_wrap B Z [.ref (a 0 0), .int (xs (i + 1)), .int 1, .ref b] (k_L_setFlag _ hst _ _ a b (xs (i + 1)) 1 S ob hf) gl_107 np_L_setFlag ⟨Nat.le_of_ble_eq_true rfl, Nat.le_of_ble_eq_true rfl⟩ ⟨(by show _ ≤ 601024; simp only [Nat.add_zero, Nat.add_assoc]; omega), (by show _ ≤ 7293034; simp only [Nat.add_zero, Nat.add_assoc]; omega)⟩ rfl (Nat.le_of_ble_eq_true rfl) dL_law_370 (pc' := 373) rfl ?_
    refine x_istore B (pc' := 375) [1, 2, 3, 4, 5, 0] [(0, .ref b0), (1, .ref (a 0 0)), (2, .ref (am 0)), (3, .ref b), (4, .int (nI i)), (5, .int r9)] dL_law_373 (by decide) rfl rfl ?_
    refine x_aload_n B (pc' := 376) 2 dL_law_375 rfl rfl rfl ?_
    refine x_aload_n B (pc' := 377) 0 dL_law_376 rfl rfl rfl ?_
    refine x_iload B (pc' := 379) 4 dL_law_377 rfl rfl ?_
    refine x_iconst B (pc' := 380) 1 dL_law_379 (by decide) rfl ?_
    refine x_iadd B (pc' := 381) dL_law_380 rfl ?_
    refine x_sld B C (i + 1) (nI_add i 1) (by omega) hL dL_law_381 (pc' := 382) rfl ?_
    refine x_aload_n B (pc' := 383) 0 dL_law_382 rfl rfl rfl ?_
    refine x_iload B (pc' := 385) 4 dL_law_383 rfl rfl ?_
    refine x_iconst B (pc' := 386) 2 dL_law_385 (by decide) rfl ?_
    refine x_iadd B (pc' := 387) dL_law_386 rfl ?_
    refine x_sld B C (i + 2) (nI_add i 2) (by omega) hL dL_law_387 (pc' := 388) rfl ?_
    refine x_if_eq B 395 391 dL_law_388 (by decide) rfl (fun hc => absurd hc hq) (fun _ => ?_)
    refine x_iconst B (pc' := 392) 1 dL_law_391 (by decide) rfl ?_
    refine x_goto B (pc' := 396) dL_law_392 (by decide) ?_
    refine l_modi B [.int (xs (i + 1)), .int 1] (k_X3_setFlag _ _ _ am (xs (i + 1)) 1 M hm) gl_110 rfl np_X3_setFlag ⟨Nat.le_of_ble_eq_true rfl, Nat.le_of_ble_eq_true rfl⟩ ⟨(by show _ ≤ 601024; simp only [Nat.add_zero, Nat.add_assoc]; omega), (by show _ ≤ 7293034; simp only [Nat.add_zero, Nat.add_assoc]; omega)⟩ rfl (Nat.le_of_ble_eq_true rfl) dL_law_396 (pc' := 399) rfl ?_
    refine x_istore B (pc' := 401) [1, 2, 3, 4, 5, 6, 0] [(0, .ref b0), (1, .ref (a 0 0)), (2, .ref (am 0)), (3, .ref b), (4, .int (nI i)), (5, .int r9), (6, .int rm)] dL_law_399 (by decide) rfl rfl ?_
    refine x_aload_n B (pc' := 402) 2 dL_law_401 rfl rfl rfl ?_
    refine l_modi B [] (k_X3_thrown _ _ _ am M9 rfl) gl_97 rfl np_X3_thrown ⟨Nat.le_of_ble_eq_true rfl, Nat.le_of_ble_eq_true rfl⟩ ⟨(by show _ ≤ 601024; simp only [Nat.add_zero, Nat.add_assoc]; omega), (by show _ ≤ 7293034; simp only [Nat.add_zero, Nat.add_assoc]; omega)⟩ rfl (Nat.le_of_ble_eq_true rfl) dL_law_402 (pc' := 405) rfl ?_
    refine x_iload B (pc' := 407) 5 dL_law_405 rfl rfl ?_
    refine x_icmp_eq B 412 410 dL_law_407 (by decide) rfl (fun _ => ?_) (fun hc => absurd hth hc)
    refine x_iload B (pc' := 414) 5 dL_law_412 rfl rfl ?_
    refine x_if_ne B 436 417 dL_law_414 (by decide) rfl (fun hc => ?_) (fun hc => ?_)
    · refine x_goto B (pc' := 1727) dL_law_436 (by decide) ?_
      refine x_lv [0, 1, 2, 3, 4] (lv' := [(0, .ref b0), (1, .ref (a 0 0)), (2, .ref (am 0)), (3, .ref b), (4, .int (nI i))]) rfl ?_
      refine x_widen (k' := k + 4) (n' := n + 24) (by first | exact Nat.le_refl _ | (show _ ≤ _; simp only [Nat.add_zero, Nat.add_assoc]; omega)) (by first | exact Nat.le_refl _ | (show _ ≤ _; simp only [Nat.add_zero, Nat.add_assoc]; omega)) ?_
      exact kk
    · refine x_aload_n B (pc' := 418) 3 dL_law_417 rfl rfl rfl ?_
      refine x_iconst B (pc' := 419) 0 dL_law_418 (by decide) rfl ?_
      refine l_out B (pc' := 420) dL_law_419 rfl ?_
      refine x_iload B (pc' := 422) 6 dL_law_420 rfl rfl ?_
      refine x_if_eq B 429 425 dL_law_422 (by decide) rfl (fun hr => ?_) (fun hr => ?_)
      · refine x_lconst B (pc' := 430) 0 dL_law_429 (by decide) rfl ?_
        refine x_lcmp0 B (pc' := 431) ((hv hc).trans (if_pos hr)) dL_law_430 rfl ?_
        refine x_if_eq B 436 434 dL_law_431 (by decide) rfl (fun _ => ?_) (fun hc => absurd rfl hc)
        refine x_goto B (pc' := 1727) dL_law_436 (by decide) ?_
        refine x_lv [0, 1, 2, 3, 4] (lv' := [(0, .ref b0), (1, .ref (a 0 0)), (2, .ref (am 0)), (3, .ref b), (4, .int (nI i))]) rfl ?_
        refine x_widen (k' := k + 4) (n' := n + 24) (by first | exact Nat.le_refl _ | (show _ ≤ _; simp only [Nat.add_zero, Nat.add_assoc]; omega)) (by first | exact Nat.le_refl _ | (show _ ≤ _; simp only [Nat.add_zero, Nat.add_assoc]; omega)) ?_
        exact kk
      · refine x_lconst B (pc' := 426) 1 dL_law_425 (by decide) rfl ?_
        refine x_goto B (pc' := 430) dL_law_426 (by decide) ?_
        refine x_lcmp0 B (pc' := 431) ((hv hc).trans (if_neg hr)) dL_law_430 rfl ?_
        refine x_if_eq B 436 434 dL_law_431 (by decide) rfl (fun _ => ?_) (fun hc => absurd rfl hc)
        refine x_goto B (pc' := 1727) dL_law_436 (by decide) ?_
        refine x_lv [0, 1, 2, 3, 4] (lv' := [(0, .ref b0), (1, .ref (a 0 0)), (2, .ref (am 0)), (3, .ref b), (4, .int (nI i))]) rfl ?_
        refine x_widen (k' := k + 4) (n' := n + 24) (by first | exact Nat.le_refl _ | (show _ ≤ _; simp only [Nat.add_zero, Nat.add_assoc]; omega)) (by first | exact Nat.le_refl _ | (show _ ≤ _; simp only [Nat.add_zero, Nat.add_assoc]; omega)) ?_
        exact kk
set_option maxHeartbeats 4000000 in
set_option maxRecDepth 100000 in
/-- case 4: erase -/
theorem lc_4 {Γ : Ctx} (hst : Γ.l.stackTraces = false) (B : CX Γ cL_law 9 RL room_1) (Z : CZ Γ) {b0 L : Nat} {xs : Nat → Int32} (C : SCR Γ b0 L xs) (hL : L ≤ 2048) {a : Nat → Nat → Nat} {b : Nat} {am : Nat → Nat} {S : BO} {ob : Nat → Int64} {M : MO} {i k n : Nat} (hi : i + 4 ≤ L) (hk : k ≤ 600000) (hn : n ≤ 7000000) {r9 rm : Int32} {S9 : BO} {ob9 : Nat → Int64} {M9 : MO} (hf : f_L_erase (xs (i + 1)) S ob = some (r9, S9, ob9)) (hm : f_X3_erase (xs (i + 1)) M = some (rm, M9)) (hth : M9.1 0 = r9) (hv : r9 = 0 → ob9 0 = Int32.toInt64 rm) (kk : X Γ 9 (k + 4) (n + 24) 1727 [(0, .ref b0), (1, .ref (a 0 0)), (2, .ref (am 0)), (3, .ref b), (4, .int (nI i))] [] (wLw Γ.cs a b am S9 ob9 M9)) : X Γ 9 k n 439 [(0, .ref b0), (1, .ref (a 0 0)), (2, .ref (am 0)), (3, .ref b), (4, .int (nI i))] [] (wLw Γ.cs a b am S ob M) := by
  refine x_aload_n B (pc' := 440) 1 dL_law_439 rfl rfl rfl ?_
  refine x_aload_n B (pc' := 441) 0 dL_law_440 rfl rfl rfl ?_
  refine x_iload B (pc' := 443) 4 dL_law_441 rfl rfl ?_
  refine x_iconst B (pc' := 444) 1 dL_law_443 (by decide) rfl ?_
  refine x_iadd B (pc' := 445) dL_law_444 rfl ?_
  refine x_sld B C (i + 1) (nI_add i 1) (by omega) hL dL_law_445 (pc' := 446) rfl ?_
  refine x_aload_n B (pc' := 447) 3 dL_law_446 rfl rfl rfl ?_
  refine l_wrap B Z [.ref (a 0 0), .int (xs (i + 1)), .ref b] (k_L_erase _ hst _ _ a b (xs (i + 1)) S ob hf) gl_111 np_L_erase ⟨Nat.le_of_ble_eq_true rfl, Nat.le_of_ble_eq_true rfl⟩ ⟨(by show _ ≤ 601024; simp only [Nat.add_zero, Nat.add_assoc]; omega), (by show _ ≤ 7293034; simp only [Nat.add_zero, Nat.add_assoc]; omega)⟩ rfl (Nat.le_of_ble_eq_true rfl) dL_law_447 (pc' := 450) rfl ?_
  refine x_istore B (pc' := 452) [1, 2, 3, 4, 5, 0] [(0, .ref b0), (1, .ref (a 0 0)), (2, .ref (am 0)), (3, .ref b), (4, .int (nI i)), (5, .int r9)] dL_law_450 (by decide) rfl rfl ?_
  refine x_aload_n B (pc' := 453) 2 dL_law_452 rfl rfl rfl ?_
  refine x_aload_n B (pc' := 454) 0 dL_law_453 rfl rfl rfl ?_
  refine x_iload B (pc' := 456) 4 dL_law_454 rfl rfl ?_
  refine x_iconst B (pc' := 457) 1 dL_law_456 (by decide) rfl ?_
  refine x_iadd B (pc' := 458) dL_law_457 rfl ?_
  refine x_sld B C (i + 1) (nI_add i 1) (by omega) hL dL_law_458 (pc' := 459) rfl ?_
  refine l_modi B [.int (xs (i + 1))] (k_X3_erase _ _ _ am (xs (i + 1)) M hm) gl_113 rfl np_X3_erase ⟨Nat.le_of_ble_eq_true rfl, Nat.le_of_ble_eq_true rfl⟩ ⟨(by show _ ≤ 601024; simp only [Nat.add_zero, Nat.add_assoc]; omega), (by show _ ≤ 7293034; simp only [Nat.add_zero, Nat.add_assoc]; omega)⟩ rfl (Nat.le_of_ble_eq_true rfl) dL_law_459 (pc' := 462) rfl ?_
  refine x_istore B (pc' := 464) [1, 2, 3, 4, 5, 6, 0] [(0, .ref b0), (1, .ref (a 0 0)), (2, .ref (am 0)), (3, .ref b), (4, .int (nI i)), (5, .int r9), (6, .int rm)] dL_law_462 (by decide) rfl rfl ?_
  refine x_aload_n B (pc' := 465) 2 dL_law_464 rfl rfl rfl ?_
  refine l_modi B [] (k_X3_thrown _ _ _ am M9 rfl) gl_97 rfl np_X3_thrown ⟨Nat.le_of_ble_eq_true rfl, Nat.le_of_ble_eq_true rfl⟩ ⟨(by show _ ≤ 601024; simp only [Nat.add_zero, Nat.add_assoc]; omega), (by show _ ≤ 7293034; simp only [Nat.add_zero, Nat.add_assoc]; omega)⟩ rfl (Nat.le_of_ble_eq_true rfl) dL_law_465 (pc' := 468) rfl ?_
  refine x_iload B (pc' := 470) 5 dL_law_468 rfl rfl ?_
  refine x_icmp_eq B 475 473 dL_law_470 (by decide) rfl (fun _ => ?_) (fun hc => absurd hth hc)
  refine x_iload B (pc' := 477) 5 dL_law_475 rfl rfl ?_
  refine x_if_ne B 492 480 dL_law_477 (by decide) rfl (fun hc => ?_) (fun hc => ?_)
  · refine x_goto B (pc' := 1727) dL_law_492 (by decide) ?_
    refine x_lv [0, 1, 2, 3, 4] (lv' := [(0, .ref b0), (1, .ref (a 0 0)), (2, .ref (am 0)), (3, .ref b), (4, .int (nI i))]) rfl ?_
    refine x_widen (k' := k + 4) (n' := n + 24) (by first | exact Nat.le_refl _ | (show _ ≤ _; simp only [Nat.add_zero, Nat.add_assoc]; omega)) (by first | exact Nat.le_refl _ | (show _ ≤ _; simp only [Nat.add_zero, Nat.add_assoc]; omega)) ?_
    exact kk
  · refine x_aload_n B (pc' := 481) 3 dL_law_480 rfl rfl rfl ?_
    refine x_iconst B (pc' := 482) 0 dL_law_481 (by decide) rfl ?_
    refine l_out B (pc' := 483) dL_law_482 rfl ?_
    refine x_iload B (pc' := 485) 6 dL_law_483 rfl rfl ?_
    refine x_i2l B (pc' := 486) dL_law_485 rfl ?_
    refine x_lcmp0 B (pc' := 487) (hv hc) dL_law_486 rfl ?_
    refine x_if_eq B 492 490 dL_law_487 (by decide) rfl (fun _ => ?_) (fun hc => absurd rfl hc)
    refine x_goto B (pc' := 1727) dL_law_492 (by decide) ?_
    refine x_lv [0, 1, 2, 3, 4] (lv' := [(0, .ref b0), (1, .ref (a 0 0)), (2, .ref (am 0)), (3, .ref b), (4, .int (nI i))]) rfl ?_
    refine x_widen (k' := k + 4) (n' := n + 24) (by first | exact Nat.le_refl _ | (show _ ≤ _; simp only [Nat.add_zero, Nat.add_assoc]; omega)) (by first | exact Nat.le_refl _ | (show _ ≤ _; simp only [Nat.add_zero, Nat.add_assoc]; omega)) ?_
    exact kk
set_option maxHeartbeats 4000000 in
set_option maxRecDepth 100000 in
/-- case 5: moveHead -/
theorem lc_5 {Γ : Ctx} (hst : Γ.l.stackTraces = false) (B : CX Γ cL_law 9 RL room_1) (Z : CZ Γ) {b0 L : Nat} {xs : Nat → Int32} (C : SCR Γ b0 L xs) (hL : L ≤ 2048) {a : Nat → Nat → Nat} {b : Nat} {am : Nat → Nat} {S : BO} {ob : Nat → Int64} {M : MO} {i k n : Nat} (hi : i + 4 ≤ L) (hk : k ≤ 600000) (hn : n ≤ 7000000) {r9 rm : Int32} {S9 : BO} {ob9 : Nat → Int64} {M9 : MO} (hf : f_L_moveHead (xs (i + 1)) S ob = some (r9, S9, ob9)) (hm : f_X3_moveHead (xs (i + 1)) M = some (rm, M9)) (hth : M9.1 0 = r9) (hv : r9 = 0 → ob9 0 = Int32.toInt64 rm) (kk : X Γ 9 (k + 4) (n + 24) 1727 [(0, .ref b0), (1, .ref (a 0 0)), (2, .ref (am 0)), (3, .ref b), (4, .int (nI i))] [] (wLw Γ.cs a b am S9 ob9 M9)) : X Γ 9 k n 495 [(0, .ref b0), (1, .ref (a 0 0)), (2, .ref (am 0)), (3, .ref b), (4, .int (nI i))] [] (wLw Γ.cs a b am S ob M) := by
  refine x_aload_n B (pc' := 496) 1 dL_law_495 rfl rfl rfl ?_
  refine x_aload_n B (pc' := 497) 0 dL_law_496 rfl rfl rfl ?_
  refine x_iload B (pc' := 499) 4 dL_law_497 rfl rfl ?_
  refine x_iconst B (pc' := 500) 1 dL_law_499 (by decide) rfl ?_
  refine x_iadd B (pc' := 501) dL_law_500 rfl ?_
  refine x_sld B C (i + 1) (nI_add i 1) (by omega) hL dL_law_501 (pc' := 502) rfl ?_
  refine x_aload_n B (pc' := 503) 3 dL_law_502 rfl rfl rfl ?_
  refine l_wrap B Z [.ref (a 0 0), .int (xs (i + 1)), .ref b] (k_L_moveHead _ hst _ _ a b (xs (i + 1)) S ob hf) gl_114 np_L_moveHead ⟨Nat.le_of_ble_eq_true rfl, Nat.le_of_ble_eq_true rfl⟩ ⟨(by show _ ≤ 601024; simp only [Nat.add_zero, Nat.add_assoc]; omega), (by show _ ≤ 7293034; simp only [Nat.add_zero, Nat.add_assoc]; omega)⟩ rfl (Nat.le_of_ble_eq_true rfl) dL_law_503 (pc' := 506) rfl ?_
  refine x_istore B (pc' := 508) [1, 2, 3, 4, 5, 0] [(0, .ref b0), (1, .ref (a 0 0)), (2, .ref (am 0)), (3, .ref b), (4, .int (nI i)), (5, .int r9)] dL_law_506 (by decide) rfl rfl ?_
  refine x_aload_n B (pc' := 509) 2 dL_law_508 rfl rfl rfl ?_
  refine x_aload_n B (pc' := 510) 0 dL_law_509 rfl rfl rfl ?_
  refine x_iload B (pc' := 512) 4 dL_law_510 rfl rfl ?_
  refine x_iconst B (pc' := 513) 1 dL_law_512 (by decide) rfl ?_
  refine x_iadd B (pc' := 514) dL_law_513 rfl ?_
  refine x_sld B C (i + 1) (nI_add i 1) (by omega) hL dL_law_514 (pc' := 515) rfl ?_
  refine l_modi B [.int (xs (i + 1))] (k_X3_moveHead _ _ _ am (xs (i + 1)) M hm) gl_116 rfl np_X3_moveHead ⟨Nat.le_of_ble_eq_true rfl, Nat.le_of_ble_eq_true rfl⟩ ⟨(by show _ ≤ 601024; simp only [Nat.add_zero, Nat.add_assoc]; omega), (by show _ ≤ 7293034; simp only [Nat.add_zero, Nat.add_assoc]; omega)⟩ rfl (Nat.le_of_ble_eq_true rfl) dL_law_515 (pc' := 518) rfl ?_
  refine x_istore B (pc' := 520) [1, 2, 3, 4, 5, 6, 0] [(0, .ref b0), (1, .ref (a 0 0)), (2, .ref (am 0)), (3, .ref b), (4, .int (nI i)), (5, .int r9), (6, .int rm)] dL_law_518 (by decide) rfl rfl ?_
  refine x_aload_n B (pc' := 521) 2 dL_law_520 rfl rfl rfl ?_
  refine l_modi B [] (k_X3_thrown _ _ _ am M9 rfl) gl_97 rfl np_X3_thrown ⟨Nat.le_of_ble_eq_true rfl, Nat.le_of_ble_eq_true rfl⟩ ⟨(by show _ ≤ 601024; simp only [Nat.add_zero, Nat.add_assoc]; omega), (by show _ ≤ 7293034; simp only [Nat.add_zero, Nat.add_assoc]; omega)⟩ rfl (Nat.le_of_ble_eq_true rfl) dL_law_521 (pc' := 524) rfl ?_
  refine x_iload B (pc' := 526) 5 dL_law_524 rfl rfl ?_
  refine x_icmp_eq B 531 529 dL_law_526 (by decide) rfl (fun _ => ?_) (fun hc => absurd hth hc)
  refine x_iload B (pc' := 533) 5 dL_law_531 rfl rfl ?_
  refine x_if_ne B 548 536 dL_law_533 (by decide) rfl (fun hc => ?_) (fun hc => ?_)
  · refine x_goto B (pc' := 1727) dL_law_548 (by decide) ?_
    refine x_lv [0, 1, 2, 3, 4] (lv' := [(0, .ref b0), (1, .ref (a 0 0)), (2, .ref (am 0)), (3, .ref b), (4, .int (nI i))]) rfl ?_
    refine x_widen (k' := k + 4) (n' := n + 24) (by first | exact Nat.le_refl _ | (show _ ≤ _; simp only [Nat.add_zero, Nat.add_assoc]; omega)) (by first | exact Nat.le_refl _ | (show _ ≤ _; simp only [Nat.add_zero, Nat.add_assoc]; omega)) ?_
    exact kk
  · refine x_aload_n B (pc' := 537) 3 dL_law_536 rfl rfl rfl ?_
    refine x_iconst B (pc' := 538) 0 dL_law_537 (by decide) rfl ?_
    refine l_out B (pc' := 539) dL_law_538 rfl ?_
    refine x_iload B (pc' := 541) 6 dL_law_539 rfl rfl ?_
    refine x_i2l B (pc' := 542) dL_law_541 rfl ?_
    refine x_lcmp0 B (pc' := 543) (hv hc) dL_law_542 rfl ?_
    refine x_if_eq B 548 546 dL_law_543 (by decide) rfl (fun _ => ?_) (fun hc => absurd rfl hc)
    refine x_goto B (pc' := 1727) dL_law_548 (by decide) ?_
    refine x_lv [0, 1, 2, 3, 4] (lv' := [(0, .ref b0), (1, .ref (a 0 0)), (2, .ref (am 0)), (3, .ref b), (4, .int (nI i))]) rfl ?_
    refine x_widen (k' := k + 4) (n' := n + 24) (by first | exact Nat.le_refl _ | (show _ ≤ _; simp only [Nat.add_zero, Nat.add_assoc]; omega)) (by first | exact Nat.le_refl _ | (show _ ≤ _; simp only [Nat.add_zero, Nat.add_assoc]; omega)) ?_
    exact kk
set_option maxHeartbeats 4000000 in
set_option maxRecDepth 100000 in
/-- case 6: recordings -/
theorem lc_6 {Γ : Ctx} (hst : Γ.l.stackTraces = false) (B : CX Γ cL_law 9 RL room_1) (Z : CZ Γ) {b0 L : Nat} {xs : Nat → Int32} (C : SCR Γ b0 L xs) (hL : L ≤ 2048) {a : Nat → Nat → Nat} {b : Nat} {am : Nat → Nat} {S : BO} {ob : Nat → Int64} {M : MO} {i k n : Nat} (hi : i + 4 ≤ L) (hk : k ≤ 600000) (hn : n ≤ 7000000) {r9 : Int32} {M9 : MO} (hf : f_X2_recordings S = some r9) (hm : f_X3_recordings M = some (r9, M9)) (kk : X Γ 9 (k + 4) (n + 24) 1727 [(0, .ref b0), (1, .ref (a 0 0)), (2, .ref (am 0)), (3, .ref b), (4, .int (nI i))] [] (wLw Γ.cs a b am S ob M9)) : X Γ 9 k n 551 [(0, .ref b0), (1, .ref (a 0 0)), (2, .ref (am 0)), (3, .ref b), (4, .int (nI i))] [] (wLw Γ.cs a b am S ob M) := by
  refine x_aload_n B (pc' := 552) 1 dL_law_551 rfl rfl rfl ?_
  refine l_beli B [] (k_X2_recordings _ _ _ a S hf) gl_117 rfl np_X2_recordings ⟨Nat.le_of_ble_eq_true rfl, Nat.le_of_ble_eq_true rfl⟩ ⟨(by show _ ≤ 601024; simp only [Nat.add_zero, Nat.add_assoc]; omega), (by show _ ≤ 7293034; simp only [Nat.add_zero, Nat.add_assoc]; omega)⟩ rfl (Nat.le_of_ble_eq_true rfl) dL_law_552 (pc' := 555) rfl ?_
  refine x_aload_n B (pc' := 556) 2 dL_law_555 rfl rfl rfl ?_
  refine l_modi B [] (k_X3_recordings _ _ _ am M hm) gl_120 rfl np_X3_recordings ⟨Nat.le_of_ble_eq_true rfl, Nat.le_of_ble_eq_true rfl⟩ ⟨(by show _ ≤ 601024; simp only [Nat.add_zero, Nat.add_assoc]; omega), (by show _ ≤ 7293034; simp only [Nat.add_zero, Nat.add_assoc]; omega)⟩ rfl (Nat.le_of_ble_eq_true rfl) dL_law_556 (pc' := 559) rfl ?_
  refine x_icmp_eq B 1727 562 dL_law_559 (by decide) rfl (fun _ => ?_) (fun hc => absurd rfl hc)
  refine x_widen (k' := k + 4) (n' := n + 24) (by first | exact Nat.le_refl _ | (show _ ≤ _; simp only [Nat.add_zero, Nat.add_assoc]; omega)) (by first | exact Nat.le_refl _ | (show _ ≤ _; simp only [Nat.add_zero, Nat.add_assoc]; omega)) ?_
  exact kk
set_option maxHeartbeats 4000000 in
set_option maxRecDepth 100000 in
/-- case 7: running -/
theorem lc_7 {Γ : Ctx} (hst : Γ.l.stackTraces = false) (B : CX Γ cL_law 9 RL room_1) (Z : CZ Γ) {b0 L : Nat} {xs : Nat → Int32} (C : SCR Γ b0 L xs) (hL : L ≤ 2048) {a : Nat → Nat → Nat} {b : Nat} {am : Nat → Nat} {S : BO} {ob : Nat → Int64} {M : MO} {i k n : Nat} (hi : i + 4 ≤ L) (hk : k ≤ 600000) (hn : n ≤ 7000000) {r9 : Int32} {M9 : MO} (hf : f_X2_running S = some r9) (hm : f_X3_running M = some (r9, M9)) (kk : X Γ 9 (k + 4) (n + 24) 1727 [(0, .ref b0), (1, .ref (a 0 0)), (2, .ref (am 0)), (3, .ref b), (4, .int (nI i))] [] (wLw Γ.cs a b am S ob M9)) : X Γ 9 k n 564 [(0, .ref b0), (1, .ref (a 0 0)), (2, .ref (am 0)), (3, .ref b), (4, .int (nI i))] [] (wLw Γ.cs a b am S ob M) := by
  refine x_aload_n B (pc' := 565) 1 dL_law_564 rfl rfl rfl ?_
  refine l_beli B [] (k_X2_running _ _ _ a S hf) gl_121 rfl np_X2_running ⟨Nat.le_of_ble_eq_true rfl, Nat.le_of_ble_eq_true rfl⟩ ⟨(by show _ ≤ 601024; simp only [Nat.add_zero, Nat.add_assoc]; omega), (by show _ ≤ 7293034; simp only [Nat.add_zero, Nat.add_assoc]; omega)⟩ rfl (Nat.le_of_ble_eq_true rfl) dL_law_565 (pc' := 568) rfl ?_
  refine x_aload_n B (pc' := 569) 2 dL_law_568 rfl rfl rfl ?_
  refine l_modi B [] (k_X3_running _ _ _ am M hm) gl_124 rfl np_X3_running ⟨Nat.le_of_ble_eq_true rfl, Nat.le_of_ble_eq_true rfl⟩ ⟨(by show _ ≤ 601024; simp only [Nat.add_zero, Nat.add_assoc]; omega), (by show _ ≤ 7293034; simp only [Nat.add_zero, Nat.add_assoc]; omega)⟩ rfl (Nat.le_of_ble_eq_true rfl) dL_law_569 (pc' := 572) rfl ?_
  refine x_icmp_eq B 1727 575 dL_law_572 (by decide) rfl (fun _ => ?_) (fun hc => absurd rfl hc)
  refine x_widen (k' := k + 4) (n' := n + 24) (by first | exact Nat.le_refl _ | (show _ ≤ _; simp only [Nat.add_zero, Nat.add_assoc]; omega)) (by first | exact Nat.le_refl _ | (show _ ≤ _; simp only [Nat.add_zero, Nat.add_assoc]; omega)) ?_
  exact kk
set_option maxHeartbeats 4000000 in
set_option maxRecDepth 100000 in
/-- case 8: head -/
theorem lc_8 {Γ : Ctx} (hst : Γ.l.stackTraces = false) (B : CX Γ cL_law 9 RL room_1) (Z : CZ Γ) {b0 L : Nat} {xs : Nat → Int32} (C : SCR Γ b0 L xs) (hL : L ≤ 2048) {a : Nat → Nat → Nat} {b : Nat} {am : Nat → Nat} {S : BO} {ob : Nat → Int64} {M : MO} {i k n : Nat} (hi : i + 4 ≤ L) (hk : k ≤ 600000) (hn : n ≤ 7000000) {r9 : Int32} {M9 : MO} (hf : f_X2_head S = some r9) (hm : f_X3_head M = some (r9, M9)) (kk : X Γ 9 (k + 4) (n + 24) 1727 [(0, .ref b0), (1, .ref (a 0 0)), (2, .ref (am 0)), (3, .ref b), (4, .int (nI i))] [] (wLw Γ.cs a b am S ob M9)) : X Γ 9 k n 577 [(0, .ref b0), (1, .ref (a 0 0)), (2, .ref (am 0)), (3, .ref b), (4, .int (nI i))] [] (wLw Γ.cs a b am S ob M) := by
  refine x_aload_n B (pc' := 578) 1 dL_law_577 rfl rfl rfl ?_
  refine l_beli B [] (k_X2_head _ _ _ a S hf) gl_125 rfl np_X2_head ⟨Nat.le_of_ble_eq_true rfl, Nat.le_of_ble_eq_true rfl⟩ ⟨(by show _ ≤ 601024; simp only [Nat.add_zero, Nat.add_assoc]; omega), (by show _ ≤ 7293034; simp only [Nat.add_zero, Nat.add_assoc]; omega)⟩ rfl (Nat.le_of_ble_eq_true rfl) dL_law_578 (pc' := 581) rfl ?_
  refine x_aload_n B (pc' := 582) 2 dL_law_581 rfl rfl rfl ?_
  refine l_modi B [] (k_X3_head _ _ _ am M hm) gl_128 rfl np_X3_head ⟨Nat.le_of_ble_eq_true rfl, Nat.le_of_ble_eq_true rfl⟩ ⟨(by show _ ≤ 601024; simp only [Nat.add_zero, Nat.add_assoc]; omega), (by show _ ≤ 7293034; simp only [Nat.add_zero, Nat.add_assoc]; omega)⟩ rfl (Nat.le_of_ble_eq_true rfl) dL_law_582 (pc' := 585) rfl ?_
  refine x_icmp_eq B 1727 588 dL_law_585 (by decide) rfl (fun _ => ?_) (fun hc => absurd rfl hc)
  refine x_widen (k' := k + 4) (n' := n + 24) (by first | exact Nat.le_refl _ | (show _ ≤ _; simp only [Nat.add_zero, Nat.add_assoc]; omega)) (by first | exact Nat.le_refl _ | (show _ ≤ _; simp only [Nat.add_zero, Nat.add_assoc]; omega)) ?_
  exact kk
set_option maxHeartbeats 4000000 in
set_option maxRecDepth 100000 in
/-- case 9: length -/
theorem lc_9 {Γ : Ctx} (hst : Γ.l.stackTraces = false) (B : CX Γ cL_law 9 RL room_1) (Z : CZ Γ) {b0 L : Nat} {xs : Nat → Int32} (C : SCR Γ b0 L xs) (hL : L ≤ 2048) {a : Nat → Nat → Nat} {b : Nat} {am : Nat → Nat} {S : BO} {ob : Nat → Int64} {M : MO} {i k n : Nat} (hi : i + 4 ≤ L) (hk : k ≤ 600000) (hn : n ≤ 7000000) {r9 rm : Int32} {S9 : BO} {ob9 : Nat → Int64} {M9 : MO} (hf : f_L_length (xs (i + 1)) S ob = some (r9, S9, ob9)) (hm : f_X3_length (xs (i + 1)) M = some (rm, M9)) (hth : M9.1 0 = r9) (hv : r9 = 0 → ob9 0 = Int32.toInt64 rm) (kk : X Γ 9 (k + 4) (n + 24) 1727 [(0, .ref b0), (1, .ref (a 0 0)), (2, .ref (am 0)), (3, .ref b), (4, .int (nI i))] [] (wLw Γ.cs a b am S9 ob9 M9)) : X Γ 9 k n 590 [(0, .ref b0), (1, .ref (a 0 0)), (2, .ref (am 0)), (3, .ref b), (4, .int (nI i))] [] (wLw Γ.cs a b am S ob M) := by
  refine x_aload_n B (pc' := 591) 1 dL_law_590 rfl rfl rfl ?_
  refine x_aload_n B (pc' := 592) 0 dL_law_591 rfl rfl rfl ?_
  refine x_iload B (pc' := 594) 4 dL_law_592 rfl rfl ?_
  refine x_iconst B (pc' := 595) 1 dL_law_594 (by decide) rfl ?_
  refine x_iadd B (pc' := 596) dL_law_595 rfl ?_
  refine x_sld B C (i + 1) (nI_add i 1) (by omega) hL dL_law_596 (pc' := 597) rfl ?_
  refine x_aload_n B (pc' := 598) 3 dL_law_597 rfl rfl rfl ?_
  refine l_wrap B Z [.ref (a 0 0), .int (xs (i + 1)), .ref b] (k_L_length _ hst _ _ a b (xs (i + 1)) S ob hf) gl_129 np_L_length ⟨Nat.le_of_ble_eq_true rfl, Nat.le_of_ble_eq_true rfl⟩ ⟨(by show _ ≤ 601024; simp only [Nat.add_zero, Nat.add_assoc]; omega), (by show _ ≤ 7293034; simp only [Nat.add_zero, Nat.add_assoc]; omega)⟩ rfl (Nat.le_of_ble_eq_true rfl) dL_law_598 (pc' := 601) rfl ?_
  refine x_istore B (pc' := 603) [1, 2, 3, 4, 5, 0] [(0, .ref b0), (1, .ref (a 0 0)), (2, .ref (am 0)), (3, .ref b), (4, .int (nI i)), (5, .int r9)] dL_law_601 (by decide) rfl rfl ?_
  refine x_aload_n B (pc' := 604) 2 dL_law_603 rfl rfl rfl ?_
  refine x_aload_n B (pc' := 605) 0 dL_law_604 rfl rfl rfl ?_
  refine x_iload B (pc' := 607) 4 dL_law_605 rfl rfl ?_
  refine x_iconst B (pc' := 608) 1 dL_law_607 (by decide) rfl ?_
  refine x_iadd B (pc' := 609) dL_law_608 rfl ?_
  refine x_sld B C (i + 1) (nI_add i 1) (by omega) hL dL_law_609 (pc' := 610) rfl ?_
  refine l_modi B [.int (xs (i + 1))] (k_X3_length _ _ _ am (xs (i + 1)) M hm) gl_131 rfl np_X3_length ⟨Nat.le_of_ble_eq_true rfl, Nat.le_of_ble_eq_true rfl⟩ ⟨(by show _ ≤ 601024; simp only [Nat.add_zero, Nat.add_assoc]; omega), (by show _ ≤ 7293034; simp only [Nat.add_zero, Nat.add_assoc]; omega)⟩ rfl (Nat.le_of_ble_eq_true rfl) dL_law_610 (pc' := 613) rfl ?_
  refine x_istore B (pc' := 615) [1, 2, 3, 4, 5, 6, 0] [(0, .ref b0), (1, .ref (a 0 0)), (2, .ref (am 0)), (3, .ref b), (4, .int (nI i)), (5, .int r9), (6, .int rm)] dL_law_613 (by decide) rfl rfl ?_
  refine x_aload_n B (pc' := 616) 2 dL_law_615 rfl rfl rfl ?_
  refine l_modi B [] (k_X3_thrown _ _ _ am M9 rfl) gl_97 rfl np_X3_thrown ⟨Nat.le_of_ble_eq_true rfl, Nat.le_of_ble_eq_true rfl⟩ ⟨(by show _ ≤ 601024; simp only [Nat.add_zero, Nat.add_assoc]; omega), (by show _ ≤ 7293034; simp only [Nat.add_zero, Nat.add_assoc]; omega)⟩ rfl (Nat.le_of_ble_eq_true rfl) dL_law_616 (pc' := 619) rfl ?_
  refine x_iload B (pc' := 621) 5 dL_law_619 rfl rfl ?_
  refine x_icmp_eq B 626 624 dL_law_621 (by decide) rfl (fun _ => ?_) (fun hc => absurd hth hc)
  refine x_iload B (pc' := 628) 5 dL_law_626 rfl rfl ?_
  refine x_if_ne B 643 631 dL_law_628 (by decide) rfl (fun hc => ?_) (fun hc => ?_)
  · refine x_goto B (pc' := 1727) dL_law_643 (by decide) ?_
    refine x_lv [0, 1, 2, 3, 4] (lv' := [(0, .ref b0), (1, .ref (a 0 0)), (2, .ref (am 0)), (3, .ref b), (4, .int (nI i))]) rfl ?_
    refine x_widen (k' := k + 4) (n' := n + 24) (by first | exact Nat.le_refl _ | (show _ ≤ _; simp only [Nat.add_zero, Nat.add_assoc]; omega)) (by first | exact Nat.le_refl _ | (show _ ≤ _; simp only [Nat.add_zero, Nat.add_assoc]; omega)) ?_
    exact kk
  · refine x_aload_n B (pc' := 632) 3 dL_law_631 rfl rfl rfl ?_
    refine x_iconst B (pc' := 633) 0 dL_law_632 (by decide) rfl ?_
    refine l_out B (pc' := 634) dL_law_633 rfl ?_
    refine x_iload B (pc' := 636) 6 dL_law_634 rfl rfl ?_
    refine x_i2l B (pc' := 637) dL_law_636 rfl ?_
    refine x_lcmp0 B (pc' := 638) (hv hc) dL_law_637 rfl ?_
    refine x_if_eq B 643 641 dL_law_638 (by decide) rfl (fun _ => ?_) (fun hc => absurd rfl hc)
    refine x_goto B (pc' := 1727) dL_law_643 (by decide) ?_
    refine x_lv [0, 1, 2, 3, 4] (lv' := [(0, .ref b0), (1, .ref (a 0 0)), (2, .ref (am 0)), (3, .ref b), (4, .int (nI i))]) rfl ?_
    refine x_widen (k' := k + 4) (n' := n + 24) (by first | exact Nat.le_refl _ | (show _ ≤ _; simp only [Nat.add_zero, Nat.add_assoc]; omega)) (by first | exact Nat.le_refl _ | (show _ ≤ _; simp only [Nat.add_zero, Nat.add_assoc]; omega)) ?_
    exact kk
set_option maxHeartbeats 4000000 in
set_option maxRecDepth 100000 in
/-- case 10: sound -/
theorem lc_10 {Γ : Ctx} (hst : Γ.l.stackTraces = false) (B : CX Γ cL_law 9 RL room_1) (Z : CZ Γ) {b0 L : Nat} {xs : Nat → Int32} (C : SCR Γ b0 L xs) (hL : L ≤ 2048) {a : Nat → Nat → Nat} {b : Nat} {am : Nat → Nat} {S : BO} {ob : Nat → Int64} {M : MO} {i k n : Nat} (hi : i + 4 ≤ L) (hk : k ≤ 600000) (hn : n ≤ 7000000) {r9 rm : Int32} {S9 : BO} {ob9 : Nat → Int64} {M9 : MO} (hf : f_L_sound (xs (i + 1)) (xs (i + 2)) S ob = some (r9, S9, ob9)) (hm : f_X3_sound (xs (i + 1)) (xs (i + 2)) M = some (rm, M9)) (hth : M9.1 0 = r9) (hv : r9 = 0 → ob9 0 = Int32.toInt64 rm) (kk : X Γ 9 (k + 4) (n + 24) 1727 [(0, .ref b0), (1, .ref (a 0 0)), (2, .ref (am 0)), (3, .ref b), (4, .int (nI i))] [] (wLw Γ.cs a b am S9 ob9 M9)) : X Γ 9 k n 646 [(0, .ref b0), (1, .ref (a 0 0)), (2, .ref (am 0)), (3, .ref b), (4, .int (nI i))] [] (wLw Γ.cs a b am S ob M) := by
  refine x_aload_n B (pc' := 647) 1 dL_law_646 rfl rfl rfl ?_
  refine x_aload_n B (pc' := 648) 0 dL_law_647 rfl rfl rfl ?_
  refine x_iload B (pc' := 650) 4 dL_law_648 rfl rfl ?_
  refine x_iconst B (pc' := 651) 1 dL_law_650 (by decide) rfl ?_
  refine x_iadd B (pc' := 652) dL_law_651 rfl ?_
  refine x_sld B C (i + 1) (nI_add i 1) (by omega) hL dL_law_652 (pc' := 653) rfl ?_
  refine x_aload_n B (pc' := 654) 0 dL_law_653 rfl rfl rfl ?_
  refine x_iload B (pc' := 656) 4 dL_law_654 rfl rfl ?_
  refine x_iconst B (pc' := 657) 2 dL_law_656 (by decide) rfl ?_
  refine x_iadd B (pc' := 658) dL_law_657 rfl ?_
  refine x_sld B C (i + 2) (nI_add i 2) (by omega) hL dL_law_658 (pc' := 659) rfl ?_
  refine x_aload_n B (pc' := 660) 3 dL_law_659 rfl rfl rfl ?_
  refine l_wrap B Z [.ref (a 0 0), .int (xs (i + 1)), .int (xs (i + 2)), .ref b] (k_L_sound _ hst _ _ a b (xs (i + 1)) (xs (i + 2)) S ob hf) gl_132 np_L_sound ⟨Nat.le_of_ble_eq_true rfl, Nat.le_of_ble_eq_true rfl⟩ ⟨(by show _ ≤ 601024; simp only [Nat.add_zero, Nat.add_assoc]; omega), (by show _ ≤ 7293034; simp only [Nat.add_zero, Nat.add_assoc]; omega)⟩ rfl (Nat.le_of_ble_eq_true rfl) dL_law_660 (pc' := 663) rfl ?_
  refine x_istore B (pc' := 665) [1, 2, 3, 4, 5, 0] [(0, .ref b0), (1, .ref (a 0 0)), (2, .ref (am 0)), (3, .ref b), (4, .int (nI i)), (5, .int r9)] dL_law_663 (by decide) rfl rfl ?_
  refine x_aload_n B (pc' := 666) 2 dL_law_665 rfl rfl rfl ?_
  refine x_aload_n B (pc' := 667) 0 dL_law_666 rfl rfl rfl ?_
  refine x_iload B (pc' := 669) 4 dL_law_667 rfl rfl ?_
  refine x_iconst B (pc' := 670) 1 dL_law_669 (by decide) rfl ?_
  refine x_iadd B (pc' := 671) dL_law_670 rfl ?_
  refine x_sld B C (i + 1) (nI_add i 1) (by omega) hL dL_law_671 (pc' := 672) rfl ?_
  refine x_aload_n B (pc' := 673) 0 dL_law_672 rfl rfl rfl ?_
  refine x_iload B (pc' := 675) 4 dL_law_673 rfl rfl ?_
  refine x_iconst B (pc' := 676) 2 dL_law_675 (by decide) rfl ?_
  refine x_iadd B (pc' := 677) dL_law_676 rfl ?_
  refine x_sld B C (i + 2) (nI_add i 2) (by omega) hL dL_law_677 (pc' := 678) rfl ?_
  refine l_modi B [.int (xs (i + 1)), .int (xs (i + 2))] (k_X3_sound _ _ _ am (xs (i + 1)) (xs (i + 2)) M hm) gl_135 rfl np_X3_sound ⟨Nat.le_of_ble_eq_true rfl, Nat.le_of_ble_eq_true rfl⟩ ⟨(by show _ ≤ 601024; simp only [Nat.add_zero, Nat.add_assoc]; omega), (by show _ ≤ 7293034; simp only [Nat.add_zero, Nat.add_assoc]; omega)⟩ rfl (Nat.le_of_ble_eq_true rfl) dL_law_678 (pc' := 681) rfl ?_
  refine x_istore B (pc' := 683) [1, 2, 3, 4, 5, 6, 0] [(0, .ref b0), (1, .ref (a 0 0)), (2, .ref (am 0)), (3, .ref b), (4, .int (nI i)), (5, .int r9), (6, .int rm)] dL_law_681 (by decide) rfl rfl ?_
  refine x_aload_n B (pc' := 684) 2 dL_law_683 rfl rfl rfl ?_
  refine l_modi B [] (k_X3_thrown _ _ _ am M9 rfl) gl_97 rfl np_X3_thrown ⟨Nat.le_of_ble_eq_true rfl, Nat.le_of_ble_eq_true rfl⟩ ⟨(by show _ ≤ 601024; simp only [Nat.add_zero, Nat.add_assoc]; omega), (by show _ ≤ 7293034; simp only [Nat.add_zero, Nat.add_assoc]; omega)⟩ rfl (Nat.le_of_ble_eq_true rfl) dL_law_684 (pc' := 687) rfl ?_
  refine x_iload B (pc' := 689) 5 dL_law_687 rfl rfl ?_
  refine x_icmp_eq B 694 692 dL_law_689 (by decide) rfl (fun _ => ?_) (fun hc => absurd hth hc)
  refine x_iload B (pc' := 696) 5 dL_law_694 rfl rfl ?_
  refine x_if_ne B 711 699 dL_law_696 (by decide) rfl (fun hc => ?_) (fun hc => ?_)
  · refine x_goto B (pc' := 1727) dL_law_711 (by decide) ?_
    refine x_lv [0, 1, 2, 3, 4] (lv' := [(0, .ref b0), (1, .ref (a 0 0)), (2, .ref (am 0)), (3, .ref b), (4, .int (nI i))]) rfl ?_
    refine x_widen (k' := k + 4) (n' := n + 24) (by first | exact Nat.le_refl _ | (show _ ≤ _; simp only [Nat.add_zero, Nat.add_assoc]; omega)) (by first | exact Nat.le_refl _ | (show _ ≤ _; simp only [Nat.add_zero, Nat.add_assoc]; omega)) ?_
    exact kk
  · refine x_aload_n B (pc' := 700) 3 dL_law_699 rfl rfl rfl ?_
    refine x_iconst B (pc' := 701) 0 dL_law_700 (by decide) rfl ?_
    refine l_out B (pc' := 702) dL_law_701 rfl ?_
    refine x_iload B (pc' := 704) 6 dL_law_702 rfl rfl ?_
    refine x_i2l B (pc' := 705) dL_law_704 rfl ?_
    refine x_lcmp0 B (pc' := 706) (hv hc) dL_law_705 rfl ?_
    refine x_if_eq B 711 709 dL_law_706 (by decide) rfl (fun _ => ?_) (fun hc => absurd rfl hc)
    refine x_goto B (pc' := 1727) dL_law_711 (by decide) ?_
    refine x_lv [0, 1, 2, 3, 4] (lv' := [(0, .ref b0), (1, .ref (a 0 0)), (2, .ref (am 0)), (3, .ref b), (4, .int (nI i))]) rfl ?_
    refine x_widen (k' := k + 4) (n' := n + 24) (by first | exact Nat.le_refl _ | (show _ ≤ _; simp only [Nat.add_zero, Nat.add_assoc]; omega)) (by first | exact Nat.le_refl _ | (show _ ≤ _; simp only [Nat.add_zero, Nat.add_assoc]; omega)) ?_
    exact kk
set_option maxHeartbeats 4000000 in
set_option maxRecDepth 100000 in
/-- case 11: cellOf -/
theorem lc_11 {Γ : Ctx} (hst : Γ.l.stackTraces = false) (B : CX Γ cL_law 9 RL room_1) (Z : CZ Γ) {b0 L : Nat} {xs : Nat → Int32} (C : SCR Γ b0 L xs) (hL : L ≤ 2048) {a : Nat → Nat → Nat} {b : Nat} {am : Nat → Nat} {S : BO} {ob : Nat → Int64} {M : MO} {i k n : Nat} (hi : i + 4 ≤ L) (hk : k ≤ 600000) (hn : n ≤ 7000000) {r9 rm : Int32} {S9 : BO} {ob9 : Nat → Int64} {M9 : MO} (hf : f_L_cellOf (xs (i + 1)) (xs (i + 2)) S ob = some (r9, S9, ob9)) (hm : f_X3_cellOf (xs (i + 1)) (xs (i + 2)) M = some (rm, M9)) (hth : M9.1 0 = r9) (hv : r9 = 0 → ob9 0 = Int32.toInt64 rm) (kk : X Γ 9 (k + 4) (n + 24) 1727 [(0, .ref b0), (1, .ref (a 0 0)), (2, .ref (am 0)), (3, .ref b), (4, .int (nI i))] [] (wLw Γ.cs a b am S9 ob9 M9)) : X Γ 9 k n 714 [(0, .ref b0), (1, .ref (a 0 0)), (2, .ref (am 0)), (3, .ref b), (4, .int (nI i))] [] (wLw Γ.cs a b am S ob M) := by
  refine x_aload_n B (pc' := 715) 1 dL_law_714 rfl rfl rfl ?_
  refine x_aload_n B (pc' := 716) 0 dL_law_715 rfl rfl rfl ?_
  refine x_iload B (pc' := 718) 4 dL_law_716 rfl rfl ?_
  refine x_iconst B (pc' := 719) 1 dL_law_718 (by decide) rfl ?_
  refine x_iadd B (pc' := 720) dL_law_719 rfl ?_
  refine x_sld B C (i + 1) (nI_add i 1) (by omega) hL dL_law_720 (pc' := 721) rfl ?_
  refine x_aload_n B (pc' := 722) 0 dL_law_721 rfl rfl rfl ?_
  refine x_iload B (pc' := 724) 4 dL_law_722 rfl rfl ?_
  refine x_iconst B (pc' := 725) 2 dL_law_724 (by decide) rfl ?_
  refine x_iadd B (pc' := 726) dL_law_725 rfl ?_
  refine x_sld B C (i + 2) (nI_add i 2) (by omega) hL dL_law_726 (pc' := 727) rfl ?_
  refine x_aload_n B (pc' := 728) 3 dL_law_727 rfl rfl rfl ?_
  refine l_wrap B Z [.ref (a 0 0), .int (xs (i + 1)), .int (xs (i + 2)), .ref b] (k_L_cellOf _ hst _ _ a b (xs (i + 1)) (xs (i + 2)) S ob hf) gl_136 np_L_cellOf ⟨Nat.le_of_ble_eq_true rfl, Nat.le_of_ble_eq_true rfl⟩ ⟨(by show _ ≤ 601024; simp only [Nat.add_zero, Nat.add_assoc]; omega), (by show _ ≤ 7293034; simp only [Nat.add_zero, Nat.add_assoc]; omega)⟩ rfl (Nat.le_of_ble_eq_true rfl) dL_law_728 (pc' := 731) rfl ?_
  refine x_istore B (pc' := 733) [1, 2, 3, 4, 5, 0] [(0, .ref b0), (1, .ref (a 0 0)), (2, .ref (am 0)), (3, .ref b), (4, .int (nI i)), (5, .int r9)] dL_law_731 (by decide) rfl rfl ?_
  refine x_aload_n B (pc' := 734) 2 dL_law_733 rfl rfl rfl ?_
  refine x_aload_n B (pc' := 735) 0 dL_law_734 rfl rfl rfl ?_
  refine x_iload B (pc' := 737) 4 dL_law_735 rfl rfl ?_
  refine x_iconst B (pc' := 738) 1 dL_law_737 (by decide) rfl ?_
  refine x_iadd B (pc' := 739) dL_law_738 rfl ?_
  refine x_sld B C (i + 1) (nI_add i 1) (by omega) hL dL_law_739 (pc' := 740) rfl ?_
  refine x_aload_n B (pc' := 741) 0 dL_law_740 rfl rfl rfl ?_
  refine x_iload B (pc' := 743) 4 dL_law_741 rfl rfl ?_
  refine x_iconst B (pc' := 744) 2 dL_law_743 (by decide) rfl ?_
  refine x_iadd B (pc' := 745) dL_law_744 rfl ?_
  refine x_sld B C (i + 2) (nI_add i 2) (by omega) hL dL_law_745 (pc' := 746) rfl ?_
  refine l_modi B [.int (xs (i + 1)), .int (xs (i + 2))] (k_X3_cellOf _ _ _ am (xs (i + 1)) (xs (i + 2)) M hm) gl_138 rfl np_X3_cellOf ⟨Nat.le_of_ble_eq_true rfl, Nat.le_of_ble_eq_true rfl⟩ ⟨(by show _ ≤ 601024; simp only [Nat.add_zero, Nat.add_assoc]; omega), (by show _ ≤ 7293034; simp only [Nat.add_zero, Nat.add_assoc]; omega)⟩ rfl (Nat.le_of_ble_eq_true rfl) dL_law_746 (pc' := 749) rfl ?_
  refine x_istore B (pc' := 751) [1, 2, 3, 4, 5, 6, 0] [(0, .ref b0), (1, .ref (a 0 0)), (2, .ref (am 0)), (3, .ref b), (4, .int (nI i)), (5, .int r9), (6, .int rm)] dL_law_749 (by decide) rfl rfl ?_
  refine x_aload_n B (pc' := 752) 2 dL_law_751 rfl rfl rfl ?_
  refine l_modi B [] (k_X3_thrown _ _ _ am M9 rfl) gl_97 rfl np_X3_thrown ⟨Nat.le_of_ble_eq_true rfl, Nat.le_of_ble_eq_true rfl⟩ ⟨(by show _ ≤ 601024; simp only [Nat.add_zero, Nat.add_assoc]; omega), (by show _ ≤ 7293034; simp only [Nat.add_zero, Nat.add_assoc]; omega)⟩ rfl (Nat.le_of_ble_eq_true rfl) dL_law_752 (pc' := 755) rfl ?_
  refine x_iload B (pc' := 757) 5 dL_law_755 rfl rfl ?_
  refine x_icmp_eq B 762 760 dL_law_757 (by decide) rfl (fun _ => ?_) (fun hc => absurd hth hc)
  refine x_iload B (pc' := 764) 5 dL_law_762 rfl rfl ?_
  refine x_if_ne B 779 767 dL_law_764 (by decide) rfl (fun hc => ?_) (fun hc => ?_)
  · refine x_goto B (pc' := 1727) dL_law_779 (by decide) ?_
    refine x_lv [0, 1, 2, 3, 4] (lv' := [(0, .ref b0), (1, .ref (a 0 0)), (2, .ref (am 0)), (3, .ref b), (4, .int (nI i))]) rfl ?_
    refine x_widen (k' := k + 4) (n' := n + 24) (by first | exact Nat.le_refl _ | (show _ ≤ _; simp only [Nat.add_zero, Nat.add_assoc]; omega)) (by first | exact Nat.le_refl _ | (show _ ≤ _; simp only [Nat.add_zero, Nat.add_assoc]; omega)) ?_
    exact kk
  · refine x_aload_n B (pc' := 768) 3 dL_law_767 rfl rfl rfl ?_
    refine x_iconst B (pc' := 769) 0 dL_law_768 (by decide) rfl ?_
    refine l_out B (pc' := 770) dL_law_769 rfl ?_
    refine x_iload B (pc' := 772) 6 dL_law_770 rfl rfl ?_
    refine x_i2l B (pc' := 773) dL_law_772 rfl ?_
    refine x_lcmp0 B (pc' := 774) (hv hc) dL_law_773 rfl ?_
    refine x_if_eq B 779 777 dL_law_774 (by decide) rfl (fun _ => ?_) (fun hc => absurd rfl hc)
    refine x_goto B (pc' := 1727) dL_law_779 (by decide) ?_
    refine x_lv [0, 1, 2, 3, 4] (lv' := [(0, .ref b0), (1, .ref (a 0 0)), (2, .ref (am 0)), (3, .ref b), (4, .int (nI i))]) rfl ?_
    refine x_widen (k' := k + 4) (n' := n + 24) (by first | exact Nat.le_refl _ | (show _ ≤ _; simp only [Nat.add_zero, Nat.add_assoc]; omega)) (by first | exact Nat.le_refl _ | (show _ ≤ _; simp only [Nat.add_zero, Nat.add_assoc]; omega)) ?_
    exact kk
set_option maxHeartbeats 4000000 in
set_option maxRecDepth 100000 in
/-- case 12: hasFlag -/
theorem lc_12 {Γ : Ctx} (hst : Γ.l.stackTraces = false) (B : CX Γ cL_law 9 RL room_1) (Z : CZ Γ) {b0 L : Nat} {xs : Nat → Int32} (C : SCR Γ b0 L xs) (hL : L ≤ 2048) {a : Nat → Nat → Nat} {b : Nat} {am : Nat → Nat} {S : BO} {ob : Nat → Int64} {M : MO} {i k n : Nat} (hi : i + 4 ≤ L) (hk : k ≤ 600000) (hn : n ≤ 7000000) {r9 rm : Int32} {S9 : BO} {ob9 : Nat → Int64} {M9 : MO} (hf : f_L_hasFlag (xs (i + 1)) S ob = some (r9, S9, ob9)) (hm : f_X3_hasFlag (xs (i + 1)) M = some (rm, M9)) (hth : M9.1 0 = r9) (hv : r9 = 0 → ob9 0 = if rm = 0 then (0 : Int64) else (1 : Int64)) (kk : X Γ 9 (k + 4) (n + 24) 1727 [(0, .ref b0), (1, .ref (a 0 0)), (2, .ref (am 0)), (3, .ref b), (4, .int (nI i))] [] (wLw Γ.cs a b am S9 ob9 M9)) : X Γ 9 k n 782 [(0, .ref b0), (1, .ref (a 0 0)), (2, .ref (am 0)), (3, .ref b), (4, .int (nI i))] [] (wLw Γ.cs a b am S ob M) := by
  refine x_aload_n B (pc' := 783) 1 dL_law_782 rfl rfl rfl ?_
  refine x_aload_n B (pc' := 784) 0 dL_law_783 rfl rfl rfl ?_
  refine x_iload B (pc' := 786) 4 dL_law_784 rfl rfl ?_
  refine x_iconst B (pc' := 787) 1 dL_law_786 (by decide) rfl ?_
  refine x_iadd B (pc' := 788) dL_law_787 rfl ?_
  refine x_sld B C (i + 1) (nI_add i 1) (by omega) hL dL_law_788 (pc' := 789) rfl ?_
  refine x_aload_n B (pc' := 790) 3 dL_law_789 rfl rfl rfl ?_
  refine l_wrap B Z [.ref (a 0 0), .int (xs (i + 1)), .ref b] (k_L_hasFlag _ hst _ _ a b (xs (i + 1)) S ob hf) gl_139 np_L_hasFlag ⟨Nat.le_of_ble_eq_true rfl, Nat.le_of_ble_eq_true rfl⟩ ⟨(by show _ ≤ 601024; simp only [Nat.add_zero, Nat.add_assoc]; omega), (by show _ ≤ 7293034; simp only [Nat.add_zero, Nat.add_assoc]; omega)⟩ rfl (Nat.le_of_ble_eq_true rfl) dL_law_790 (pc' := 793) rfl ?_
  refine x_istore B (pc' := 795) [1, 2, 3, 4, 5, 0] [(0, .ref b0), (1, .ref (a 0 0)), (2, .ref (am 0)), (3, .ref b), (4, .int (nI i)), (5, .int r9)] dL_law_793 (by decide) rfl rfl ?_
  refine x_aload_n B (pc' := 796) 2 dL_law_795 rfl rfl rfl ?_
  refine x_aload_n B (pc' := 797) 0 dL_law_796 rfl rfl rfl ?_
  refine x_iload B (pc' := 799) 4 dL_law_797 rfl rfl ?_
  refine x_iconst B (pc' := 800) 1 dL_law_799 (by decide) rfl ?_
  refine x_iadd B (pc' := 801) dL_law_800 rfl ?_
  refine x_sld B C (i + 1) (nI_add i 1) (by omega) hL dL_law_801 (pc' := 802) rfl ?_
  refine l_modi B [.int (xs (i + 1))] (k_X3_hasFlag _ _ _ am (xs (i + 1)) M hm) gl_141 rfl np_X3_hasFlag ⟨Nat.le_of_ble_eq_true rfl, Nat.le_of_ble_eq_true rfl⟩ ⟨(by show _ ≤ 601024; simp only [Nat.add_zero, Nat.add_assoc]; omega), (by show _ ≤ 7293034; simp only [Nat.add_zero, Nat.add_assoc]; omega)⟩ rfl (Nat.le_of_ble_eq_true rfl) dL_law_802 (pc' := 805) rfl ?_
  refine x_istore B (pc' := 807) [1, 2, 3, 4, 5, 6, 0] [(0, .ref b0), (1, .ref (a 0 0)), (2, .ref (am 0)), (3, .ref b), (4, .int (nI i)), (5, .int r9), (6, .int rm)] dL_law_805 (by decide) rfl rfl ?_
  refine x_aload_n B (pc' := 808) 2 dL_law_807 rfl rfl rfl ?_
  refine l_modi B [] (k_X3_thrown _ _ _ am M9 rfl) gl_97 rfl np_X3_thrown ⟨Nat.le_of_ble_eq_true rfl, Nat.le_of_ble_eq_true rfl⟩ ⟨(by show _ ≤ 601024; simp only [Nat.add_zero, Nat.add_assoc]; omega), (by show _ ≤ 7293034; simp only [Nat.add_zero, Nat.add_assoc]; omega)⟩ rfl (Nat.le_of_ble_eq_true rfl) dL_law_808 (pc' := 811) rfl ?_
  refine x_iload B (pc' := 813) 5 dL_law_811 rfl rfl ?_
  refine x_icmp_eq B 818 816 dL_law_813 (by decide) rfl (fun _ => ?_) (fun hc => absurd hth hc)
  refine x_iload B (pc' := 820) 5 dL_law_818 rfl rfl ?_
  refine x_if_ne B 842 823 dL_law_820 (by decide) rfl (fun hc => ?_) (fun hc => ?_)
  · refine x_goto B (pc' := 1727) dL_law_842 (by decide) ?_
    refine x_lv [0, 1, 2, 3, 4] (lv' := [(0, .ref b0), (1, .ref (a 0 0)), (2, .ref (am 0)), (3, .ref b), (4, .int (nI i))]) rfl ?_
    refine x_widen (k' := k + 4) (n' := n + 24) (by first | exact Nat.le_refl _ | (show _ ≤ _; simp only [Nat.add_zero, Nat.add_assoc]; omega)) (by first | exact Nat.le_refl _ | (show _ ≤ _; simp only [Nat.add_zero, Nat.add_assoc]; omega)) ?_
    exact kk
  · refine x_aload_n B (pc' := 824) 3 dL_law_823 rfl rfl rfl ?_
    refine x_iconst B (pc' := 825) 0 dL_law_824 (by decide) rfl ?_
    refine l_out B (pc' := 826) dL_law_825 rfl ?_
    refine x_iload B (pc' := 828) 6 dL_law_826 rfl rfl ?_
    refine x_if_eq B 835 831 dL_law_828 (by decide) rfl (fun hr => ?_) (fun hr => ?_)
    · refine x_lconst B (pc' := 836) 0 dL_law_835 (by decide) rfl ?_
      refine x_lcmp0 B (pc' := 837) ((hv hc).trans (if_pos hr)) dL_law_836 rfl ?_
      refine x_if_eq B 842 840 dL_law_837 (by decide) rfl (fun _ => ?_) (fun hc => absurd rfl hc)
      refine x_goto B (pc' := 1727) dL_law_842 (by decide) ?_
      refine x_lv [0, 1, 2, 3, 4] (lv' := [(0, .ref b0), (1, .ref (a 0 0)), (2, .ref (am 0)), (3, .ref b), (4, .int (nI i))]) rfl ?_
      refine x_widen (k' := k + 4) (n' := n + 24) (by first | exact Nat.le_refl _ | (show _ ≤ _; simp only [Nat.add_zero, Nat.add_assoc]; omega)) (by first | exact Nat.le_refl _ | (show _ ≤ _; simp only [Nat.add_zero, Nat.add_assoc]; omega)) ?_
      exact kk
    · refine x_lconst B (pc' := 832) 1 dL_law_831 (by decide) rfl ?_
      refine x_goto B (pc' := 836) dL_law_832 (by decide) ?_
      refine x_lcmp0 B (pc' := 837) ((hv hc).trans (if_neg hr)) dL_law_836 rfl ?_
      refine x_if_eq B 842 840 dL_law_837 (by decide) rfl (fun _ => ?_) (fun hc => absurd rfl hc)
      refine x_goto B (pc' := 1727) dL_law_842 (by decide) ?_
      refine x_lv [0, 1, 2, 3, 4] (lv' := [(0, .ref b0), (1, .ref (a 0 0)), (2, .ref (am 0)), (3, .ref b), (4, .int (nI i))]) rfl ?_
      refine x_widen (k' := k + 4) (n' := n + 24) (by first | exact Nat.le_refl _ | (show _ ≤ _; simp only [Nat.add_zero, Nat.add_assoc]; omega)) (by first | exact Nat.le_refl _ | (show _ ≤ _; simp only [Nat.add_zero, Nat.add_assoc]; omega)) ?_
      exact kk
set_option maxHeartbeats 4000000 in
set_option maxRecDepth 100000 in
/-- case 13: lost -/
theorem lc_13 {Γ : Ctx} (hst : Γ.l.stackTraces = false) (B : CX Γ cL_law 9 RL room_1) (Z : CZ Γ) {b0 L : Nat} {xs : Nat → Int32} (C : SCR Γ b0 L xs) (hL : L ≤ 2048) {a : Nat → Nat → Nat} {b : Nat} {am : Nat → Nat} {S : BO} {ob : Nat → Int64} {M : MO} {i k n : Nat} (hi : i + 4 ≤ L) (hk : k ≤ 600000) (hn : n ≤ 7000000) {r9 rm : Int32} {S9 : BO} {ob9 : Nat → Int64} {M9 : MO} (hf : f_L_lost (xs (i + 1)) S ob = some (r9, S9, ob9)) (hm : f_X3_lost (xs (i + 1)) M = some (rm, M9)) (hth : M9.1 0 = r9) (hv : r9 = 0 → ob9 0 = Int32.toInt64 rm) (kk : X Γ 9 (k + 4) (n + 24) 1727 [(0, .ref b0), (1, .ref (a 0 0)), (2, .ref (am 0)), (3, .ref b), (4, .int (nI i))] [] (wLw Γ.cs a b am S9 ob9 M9)) : X Γ 9 k n 845 [(0, .ref b0), (1, .ref (a 0 0)), (2, .ref (am 0)), (3, .ref b), (4, .int (nI i))] [] (wLw Γ.cs a b am S ob M) := by
  refine x_aload_n B (pc' := 846) 1 dL_law_845 rfl rfl rfl ?_
  refine x_aload_n B (pc' := 847) 0 dL_law_846 rfl rfl rfl ?_
  refine x_iload B (pc' := 849) 4 dL_law_847 rfl rfl ?_
  refine x_iconst B (pc' := 850) 1 dL_law_849 (by decide) rfl ?_
  refine x_iadd B (pc' := 851) dL_law_850 rfl ?_
  refine x_sld B C (i + 1) (nI_add i 1) (by omega) hL dL_law_851 (pc' := 852) rfl ?_
  refine x_aload_n B (pc' := 853) 3 dL_law_852 rfl rfl rfl ?_
  refine l_wrap B Z [.ref (a 0 0), .int (xs (i + 1)), .ref b] (k_L_lost _ hst _ _ a b (xs (i + 1)) S ob hf) gl_142 np_L_lost ⟨Nat.le_of_ble_eq_true rfl, Nat.le_of_ble_eq_true rfl⟩ ⟨(by show _ ≤ 601024; simp only [Nat.add_zero, Nat.add_assoc]; omega), (by show _ ≤ 7293034; simp only [Nat.add_zero, Nat.add_assoc]; omega)⟩ rfl (Nat.le_of_ble_eq_true rfl) dL_law_853 (pc' := 856) rfl ?_
  refine x_istore B (pc' := 858) [1, 2, 3, 4, 5, 0] [(0, .ref b0), (1, .ref (a 0 0)), (2, .ref (am 0)), (3, .ref b), (4, .int (nI i)), (5, .int r9)] dL_law_856 (by decide) rfl rfl ?_
  refine x_aload_n B (pc' := 859) 2 dL_law_858 rfl rfl rfl ?_
  refine x_aload_n B (pc' := 860) 0 dL_law_859 rfl rfl rfl ?_
  refine x_iload B (pc' := 862) 4 dL_law_860 rfl rfl ?_
  refine x_iconst B (pc' := 863) 1 dL_law_862 (by decide) rfl ?_
  refine x_iadd B (pc' := 864) dL_law_863 rfl ?_
  refine x_sld B C (i + 1) (nI_add i 1) (by omega) hL dL_law_864 (pc' := 865) rfl ?_
  refine l_modi B [.int (xs (i + 1))] (k_X3_lost _ _ _ am (xs (i + 1)) M hm) gl_144 rfl np_X3_lost ⟨Nat.le_of_ble_eq_true rfl, Nat.le_of_ble_eq_true rfl⟩ ⟨(by show _ ≤ 601024; simp only [Nat.add_zero, Nat.add_assoc]; omega), (by show _ ≤ 7293034; simp only [Nat.add_zero, Nat.add_assoc]; omega)⟩ rfl (Nat.le_of_ble_eq_true rfl) dL_law_865 (pc' := 868) rfl ?_
  refine x_istore B (pc' := 870) [1, 2, 3, 4, 5, 6, 0] [(0, .ref b0), (1, .ref (a 0 0)), (2, .ref (am 0)), (3, .ref b), (4, .int (nI i)), (5, .int r9), (6, .int rm)] dL_law_868 (by decide) rfl rfl ?_
  refine x_aload_n B (pc' := 871) 2 dL_law_870 rfl rfl rfl ?_
  refine l_modi B [] (k_X3_thrown _ _ _ am M9 rfl) gl_97 rfl np_X3_thrown ⟨Nat.le_of_ble_eq_true rfl, Nat.le_of_ble_eq_true rfl⟩ ⟨(by show _ ≤ 601024; simp only [Nat.add_zero, Nat.add_assoc]; omega), (by show _ ≤ 7293034; simp only [Nat.add_zero, Nat.add_assoc]; omega)⟩ rfl (Nat.le_of_ble_eq_true rfl) dL_law_871 (pc' := 874) rfl ?_
  refine x_iload B (pc' := 876) 5 dL_law_874 rfl rfl ?_
  refine x_icmp_eq B 881 879 dL_law_876 (by decide) rfl (fun _ => ?_) (fun hc => absurd hth hc)
  refine x_iload B (pc' := 883) 5 dL_law_881 rfl rfl ?_
  refine x_if_ne B 898 886 dL_law_883 (by decide) rfl (fun hc => ?_) (fun hc => ?_)
  · refine x_goto B (pc' := 1727) dL_law_898 (by decide) ?_
    refine x_lv [0, 1, 2, 3, 4] (lv' := [(0, .ref b0), (1, .ref (a 0 0)), (2, .ref (am 0)), (3, .ref b), (4, .int (nI i))]) rfl ?_
    refine x_widen (k' := k + 4) (n' := n + 24) (by first | exact Nat.le_refl _ | (show _ ≤ _; simp only [Nat.add_zero, Nat.add_assoc]; omega)) (by first | exact Nat.le_refl _ | (show _ ≤ _; simp only [Nat.add_zero, Nat.add_assoc]; omega)) ?_
    exact kk
  · refine x_aload_n B (pc' := 887) 3 dL_law_886 rfl rfl rfl ?_
    refine x_iconst B (pc' := 888) 0 dL_law_887 (by decide) rfl ?_
    refine l_out B (pc' := 889) dL_law_888 rfl ?_
    refine x_iload B (pc' := 891) 6 dL_law_889 rfl rfl ?_
    refine x_i2l B (pc' := 892) dL_law_891 rfl ?_
    refine x_lcmp0 B (pc' := 893) (hv hc) dL_law_892 rfl ?_
    refine x_if_eq B 898 896 dL_law_893 (by decide) rfl (fun _ => ?_) (fun hc => absurd rfl hc)
    refine x_goto B (pc' := 1727) dL_law_898 (by decide) ?_
    refine x_lv [0, 1, 2, 3, 4] (lv' := [(0, .ref b0), (1, .ref (a 0 0)), (2, .ref (am 0)), (3, .ref b), (4, .int (nI i))]) rfl ?_
    refine x_widen (k' := k + 4) (n' := n + 24) (by first | exact Nat.le_refl _ | (show _ ≤ _; simp only [Nat.add_zero, Nat.add_assoc]; omega)) (by first | exact Nat.le_refl _ | (show _ ≤ _; simp only [Nat.add_zero, Nat.add_assoc]; omega)) ?_
    exact kk
set_option maxHeartbeats 4000000 in
set_option maxRecDepth 100000 in
/-- case 14: owner -/
theorem lc_14 {Γ : Ctx} (hst : Γ.l.stackTraces = false) (B : CX Γ cL_law 9 RL room_1) (Z : CZ Γ) {b0 L : Nat} {xs : Nat → Int32} (C : SCR Γ b0 L xs) (hL : L ≤ 2048) {a : Nat → Nat → Nat} {b : Nat} {am : Nat → Nat} {S : BO} {ob : Nat → Int64} {M : MO} {i k n : Nat} (hi : i + 4 ≤ L) (hk : k ≤ 600000) (hn : n ≤ 7000000) {r9 rm : Int32} {S9 : BO} {ob9 : Nat → Int64} {M9 : MO} (hf : f_L_owner (xs (i + 1)) S ob = some (r9, S9, ob9)) (hm : f_X3_owner (xs (i + 1)) M = some (rm, M9)) (hth : M9.1 0 = r9) (hv : r9 = 0 → ob9 0 = Int32.toInt64 rm) (kk : X Γ 9 (k + 4) (n + 24) 1727 [(0, .ref b0), (1, .ref (a 0 0)), (2, .ref (am 0)), (3, .ref b), (4, .int (nI i))] [] (wLw Γ.cs a b am S9 ob9 M9)) : X Γ 9 k n 901 [(0, .ref b0), (1, .ref (a 0 0)), (2, .ref (am 0)), (3, .ref b), (4, .int (nI i))] [] (wLw Γ.cs a b am S ob M) := by
  refine x_aload_n B (pc' := 902) 1 dL_law_901 rfl rfl rfl ?_
  refine x_aload_n B (pc' := 903) 0 dL_law_902 rfl rfl rfl ?_
  refine x_iload B (pc' := 905) 4 dL_law_903 rfl rfl ?_
  refine x_iconst B (pc' := 906) 1 dL_law_905 (by decide) rfl ?_
  refine x_iadd B (pc' := 907) dL_law_906 rfl ?_
  refine x_sld B C (i + 1) (nI_add i 1) (by omega) hL dL_law_907 (pc' := 908) rfl ?_
  refine x_aload_n B (pc' := 909) 3 dL_law_908 rfl rfl rfl ?_
  refine l_wrap B Z [.ref (a 0 0), .int (xs (i + 1)), .ref b] (k_L_owner _ hst _ _ a b (xs (i + 1)) S ob hf) gl_145 np_L_owner ⟨Nat.le_of_ble_eq_true rfl, Nat.le_of_ble_eq_true rfl⟩ ⟨(by show _ ≤ 601024; simp only [Nat.add_zero, Nat.add_assoc]; omega), (by show _ ≤ 7293034; simp only [Nat.add_zero, Nat.add_assoc]; omega)⟩ rfl (Nat.le_of_ble_eq_true rfl) dL_law_909 (pc' := 912) rfl ?_
  refine x_istore B (pc' := 914) [1, 2, 3, 4, 5, 0] [(0, .ref b0), (1, .ref (a 0 0)), (2, .ref (am 0)), (3, .ref b), (4, .int (nI i)), (5, .int r9)] dL_law_912 (by decide) rfl rfl ?_
  refine x_aload_n B (pc' := 915) 2 dL_law_914 rfl rfl rfl ?_
  refine x_aload_n B (pc' := 916) 0 dL_law_915 rfl rfl rfl ?_
  refine x_iload B (pc' := 918) 4 dL_law_916 rfl rfl ?_
  refine x_iconst B (pc' := 919) 1 dL_law_918 (by decide) rfl ?_
  refine x_iadd B (pc' := 920) dL_law_919 rfl ?_
  refine x_sld B C (i + 1) (nI_add i 1) (by omega) hL dL_law_920 (pc' := 921) rfl ?_
  refine l_modi B [.int (xs (i + 1))] (k_X3_owner _ _ _ am (xs (i + 1)) M hm) gl_147 rfl np_X3_owner ⟨Nat.le_of_ble_eq_true rfl, Nat.le_of_ble_eq_true rfl⟩ ⟨(by show _ ≤ 601024; simp only [Nat.add_zero, Nat.add_assoc]; omega), (by show _ ≤ 7293034; simp only [Nat.add_zero, Nat.add_assoc]; omega)⟩ rfl (Nat.le_of_ble_eq_true rfl) dL_law_921 (pc' := 924) rfl ?_
  refine x_istore B (pc' := 926) [1, 2, 3, 4, 5, 6, 0] [(0, .ref b0), (1, .ref (a 0 0)), (2, .ref (am 0)), (3, .ref b), (4, .int (nI i)), (5, .int r9), (6, .int rm)] dL_law_924 (by decide) rfl rfl ?_
  refine x_aload_n B (pc' := 927) 2 dL_law_926 rfl rfl rfl ?_
  refine l_modi B [] (k_X3_thrown _ _ _ am M9 rfl) gl_97 rfl np_X3_thrown ⟨Nat.le_of_ble_eq_true rfl, Nat.le_of_ble_eq_true rfl⟩ ⟨(by show _ ≤ 601024; simp only [Nat.add_zero, Nat.add_assoc]; omega), (by show _ ≤ 7293034; simp only [Nat.add_zero, Nat.add_assoc]; omega)⟩ rfl (Nat.le_of_ble_eq_true rfl) dL_law_927 (pc' := 930) rfl ?_
  refine x_iload B (pc' := 932) 5 dL_law_930 rfl rfl ?_
  refine x_icmp_eq B 937 935 dL_law_932 (by decide) rfl (fun _ => ?_) (fun hc => absurd hth hc)
  refine x_iload B (pc' := 939) 5 dL_law_937 rfl rfl ?_
  refine x_if_ne B 954 942 dL_law_939 (by decide) rfl (fun hc => ?_) (fun hc => ?_)
  · refine x_goto B (pc' := 1727) dL_law_954 (by decide) ?_
    refine x_lv [0, 1, 2, 3, 4] (lv' := [(0, .ref b0), (1, .ref (a 0 0)), (2, .ref (am 0)), (3, .ref b), (4, .int (nI i))]) rfl ?_
    refine x_widen (k' := k + 4) (n' := n + 24) (by first | exact Nat.le_refl _ | (show _ ≤ _; simp only [Nat.add_zero, Nat.add_assoc]; omega)) (by first | exact Nat.le_refl _ | (show _ ≤ _; simp only [Nat.add_zero, Nat.add_assoc]; omega)) ?_
    exact kk
  · refine x_aload_n B (pc' := 943) 3 dL_law_942 rfl rfl rfl ?_
    refine x_iconst B (pc' := 944) 0 dL_law_943 (by decide) rfl ?_
    refine l_out B (pc' := 945) dL_law_944 rfl ?_
    refine x_iload B (pc' := 947) 6 dL_law_945 rfl rfl ?_
    refine x_i2l B (pc' := 948) dL_law_947 rfl ?_
    refine x_lcmp0 B (pc' := 949) (hv hc) dL_law_948 rfl ?_
    refine x_if_eq B 954 952 dL_law_949 (by decide) rfl (fun _ => ?_) (fun hc => absurd rfl hc)
    refine x_goto B (pc' := 1727) dL_law_954 (by decide) ?_
    refine x_lv [0, 1, 2, 3, 4] (lv' := [(0, .ref b0), (1, .ref (a 0 0)), (2, .ref (am 0)), (3, .ref b), (4, .int (nI i))]) rfl ?_
    refine x_widen (k' := k + 4) (n' := n + 24) (by first | exact Nat.le_refl _ | (show _ ≤ _; simp only [Nat.add_zero, Nat.add_assoc]; omega)) (by first | exact Nat.le_refl _ | (show _ ≤ _; simp only [Nat.add_zero, Nat.add_assoc]; omega)) ?_
    exact kk
set_option maxHeartbeats 4000000 in
set_option maxRecDepth 100000 in
/-- case 15: free -/
theorem lc_15 {Γ : Ctx} (hst : Γ.l.stackTraces = false) (B : CX Γ cL_law 9 RL room_1) (Z : CZ Γ) {b0 L : Nat} {xs : Nat → Int32} (C : SCR Γ b0 L xs) (hL : L ≤ 2048) {a : Nat → Nat → Nat} {b : Nat} {am : Nat → Nat} {S : BO} {ob : Nat → Int64} {M : MO} {i k n : Nat} (hi : i + 4 ≤ L) (hk : k ≤ 600000) (hn : n ≤ 7000000) {r9 : Int32} {M9 : MO} (hf : f_X2_free S = some r9) (hm : f_X3_free M = some (r9, M9)) (kk : X Γ 9 (k + 4) (n + 24) 1727 [(0, .ref b0), (1, .ref (a 0 0)), (2, .ref (am 0)), (3, .ref b), (4, .int (nI i))] [] (wLw Γ.cs a b am S ob M9)) : X Γ 9 k n 957 [(0, .ref b0), (1, .ref (a 0 0)), (2, .ref (am 0)), (3, .ref b), (4, .int (nI i))] [] (wLw Γ.cs a b am S ob M) := by
  refine x_aload_n B (pc' := 958) 1 dL_law_957 rfl rfl rfl ?_
  refine l_beli B [] (k_X2_free _ _ _ a S hf) gl_148 rfl np_X2_free ⟨Nat.le_of_ble_eq_true rfl, Nat.le_of_ble_eq_true rfl⟩ ⟨(by show _ ≤ 601024; simp only [Nat.add_zero, Nat.add_assoc]; omega), (by show _ ≤ 7293034; simp only [Nat.add_zero, Nat.add_assoc]; omega)⟩ rfl (Nat.le_of_ble_eq_true rfl) dL_law_958 (pc' := 961) rfl ?_
  refine x_aload_n B (pc' := 962) 2 dL_law_961 rfl rfl rfl ?_
  refine l_modi B [] (k_X3_free _ _ _ am M hm) gl_151 rfl np_X3_free ⟨Nat.le_of_ble_eq_true rfl, Nat.le_of_ble_eq_true rfl⟩ ⟨(by show _ ≤ 601024; simp only [Nat.add_zero, Nat.add_assoc]; omega), (by show _ ≤ 7293034; simp only [Nat.add_zero, Nat.add_assoc]; omega)⟩ rfl (Nat.le_of_ble_eq_true rfl) dL_law_962 (pc' := 965) rfl ?_
  refine x_icmp_eq B 1727 968 dL_law_965 (by decide) rfl (fun _ => ?_) (fun hc => absurd rfl hc)
  refine x_widen (k' := k + 4) (n' := n + 24) (by first | exact Nat.le_refl _ | (show _ ≤ _; simp only [Nat.add_zero, Nat.add_assoc]; omega)) (by first | exact Nat.le_refl _ | (show _ ≤ _; simp only [Nat.add_zero, Nat.add_assoc]; omega)) ?_
  exact kk
set_option maxHeartbeats 4000000 in
set_option maxRecDepth 100000 in
/-- case 16: spoken -/
theorem lc_16 {Γ : Ctx} (hst : Γ.l.stackTraces = false) (B : CX Γ cL_law 9 RL room_1) (Z : CZ Γ) {b0 L : Nat} {xs : Nat → Int32} (C : SCR Γ b0 L xs) (hL : L ≤ 2048) {a : Nat → Nat → Nat} {b : Nat} {am : Nat → Nat} {S : BO} {ob : Nat → Int64} {M : MO} {i k n : Nat} (hi : i + 4 ≤ L) (hk : k ≤ 600000) (hn : n ≤ 7000000) {r9 : Int32} {M9 : MO} (hf : f_X2_spoken S = some r9) (hm : f_X3_spoken M = some (r9, M9)) (kk : X Γ 9 (k + 4) (n + 24) 1727 [(0, .ref b0), (1, .ref (a 0 0)), (2, .ref (am 0)), (3, .ref b), (4, .int (nI i))] [] (wLw Γ.cs a b am S ob M9)) : X Γ 9 k n 970 [(0, .ref b0), (1, .ref (a 0 0)), (2, .ref (am 0)), (3, .ref b), (4, .int (nI i))] [] (wLw Γ.cs a b am S ob M) := by
  refine x_aload_n B (pc' := 971) 1 dL_law_970 rfl rfl rfl ?_
  refine l_beli B [] (k_X2_spoken _ _ _ a S hf) gl_152 rfl np_X2_spoken ⟨Nat.le_of_ble_eq_true rfl, Nat.le_of_ble_eq_true rfl⟩ ⟨(by show _ ≤ 601024; simp only [Nat.add_zero, Nat.add_assoc]; omega), (by show _ ≤ 7293034; simp only [Nat.add_zero, Nat.add_assoc]; omega)⟩ rfl (Nat.le_of_ble_eq_true rfl) dL_law_971 (pc' := 974) rfl ?_
  refine x_aload_n B (pc' := 975) 2 dL_law_974 rfl rfl rfl ?_
  refine l_modi B [] (k_X3_spoken _ _ _ am M hm) gl_155 rfl np_X3_spoken ⟨Nat.le_of_ble_eq_true rfl, Nat.le_of_ble_eq_true rfl⟩ ⟨(by show _ ≤ 601024; simp only [Nat.add_zero, Nat.add_assoc]; omega), (by show _ ≤ 7293034; simp only [Nat.add_zero, Nat.add_assoc]; omega)⟩ rfl (Nat.le_of_ble_eq_true rfl) dL_law_975 (pc' := 978) rfl ?_
  refine x_icmp_eq B 1727 981 dL_law_978 (by decide) rfl (fun _ => ?_) (fun hc => absurd rfl hc)
  refine x_widen (k' := k + 4) (n' := n + 24) (by first | exact Nat.le_refl _ | (show _ ≤ _; simp only [Nat.add_zero, Nat.add_assoc]; omega)) (by first | exact Nat.le_refl _ | (show _ ≤ _; simp only [Nat.add_zero, Nat.add_assoc]; omega)) ?_
  exact kk
set_option maxHeartbeats 4000000 in
set_option maxRecDepth 100000 in
/-- case 17: gone -/
theorem lc_17 {Γ : Ctx} (hst : Γ.l.stackTraces = false) (B : CX Γ cL_law 9 RL room_1) (Z : CZ Γ) {b0 L : Nat} {xs : Nat → Int32} (C : SCR Γ b0 L xs) (hL : L ≤ 2048) {a : Nat → Nat → Nat} {b : Nat} {am : Nat → Nat} {S : BO} {ob : Nat → Int64} {M : MO} {i k n : Nat} (hi : i + 4 ≤ L) (hk : k ≤ 600000) (hn : n ≤ 7000000) {r9 : Int32} {M9 : MO} (hf : f_X2_gone S = some r9) (hm : f_X3_gone M = some (r9, M9)) (kk : X Γ 9 (k + 4) (n + 24) 1727 [(0, .ref b0), (1, .ref (a 0 0)), (2, .ref (am 0)), (3, .ref b), (4, .int (nI i))] [] (wLw Γ.cs a b am S ob M9)) : X Γ 9 k n 983 [(0, .ref b0), (1, .ref (a 0 0)), (2, .ref (am 0)), (3, .ref b), (4, .int (nI i))] [] (wLw Γ.cs a b am S ob M) := by
  refine x_aload_n B (pc' := 984) 1 dL_law_983 rfl rfl rfl ?_
  refine l_beli B [] (k_X2_gone _ _ _ a S hf) gl_156 rfl np_X2_gone ⟨Nat.le_of_ble_eq_true rfl, Nat.le_of_ble_eq_true rfl⟩ ⟨(by show _ ≤ 601024; simp only [Nat.add_zero, Nat.add_assoc]; omega), (by show _ ≤ 7293034; simp only [Nat.add_zero, Nat.add_assoc]; omega)⟩ rfl (Nat.le_of_ble_eq_true rfl) dL_law_984 (pc' := 987) rfl ?_
  refine x_aload_n B (pc' := 988) 2 dL_law_987 rfl rfl rfl ?_
  refine l_modi B [] (k_X3_gone _ _ _ am M hm) gl_159 rfl np_X3_gone ⟨Nat.le_of_ble_eq_true rfl, Nat.le_of_ble_eq_true rfl⟩ ⟨(by show _ ≤ 601024; simp only [Nat.add_zero, Nat.add_assoc]; omega), (by show _ ≤ 7293034; simp only [Nat.add_zero, Nat.add_assoc]; omega)⟩ rfl (Nat.le_of_ble_eq_true rfl) dL_law_988 (pc' := 991) rfl ?_
  refine x_icmp_eq B 1727 994 dL_law_991 (by decide) rfl (fun _ => ?_) (fun hc => absurd rfl hc)
  refine x_widen (k' := k + 4) (n' := n + 24) (by first | exact Nat.le_refl _ | (show _ ≤ _; simp only [Nat.add_zero, Nat.add_assoc]; omega)) (by first | exact Nat.le_refl _ | (show _ ≤ _; simp only [Nat.add_zero, Nat.add_assoc]; omega)) ?_
  exact kk
set_option maxHeartbeats 4000000 in
set_option maxRecDepth 100000 in
/-- case 18: usedShare -/
theorem lc_18 {Γ : Ctx} (hst : Γ.l.stackTraces = false) (B : CX Γ cL_law 9 RL room_1) (Z : CZ Γ) {b0 L : Nat} {xs : Nat → Int32} (C : SCR Γ b0 L xs) (hL : L ≤ 2048) {a : Nat → Nat → Nat} {b : Nat} {am : Nat → Nat} {S : BO} {ob : Nat → Int64} {M : MO} {i k n : Nat} (hi : i + 4 ≤ L) (hk : k ≤ 600000) (hn : n ≤ 7000000) {r9 : UInt64} {M9 : MO} (hf : f_X2_usedShare S = some r9) (hm : f_X3_usedShare M = some (r9, M9)) (hd : FP.dcmp r9 r9 = some .eq) (kk : X Γ 9 (k + 4) (n + 24) 1727 [(0, .ref b0), (1, .ref (a 0 0)), (2, .ref (am 0)), (3, .ref b), (4, .int (nI i))] [] (wLw Γ.cs a b am S ob M9)) : X Γ 9 k n 996 [(0, .ref b0), (1, .ref (a 0 0)), (2, .ref (am 0)), (3, .ref b), (4, .int (nI i))] [] (wLw Γ.cs a b am S ob M) := by
  refine x_aload_n B (pc' := 997) 1 dL_law_996 rfl rfl rfl ?_
  refine l_beld B [] (k_X2_usedShare _ _ _ a S hf) gl_160 rfl np_X2_usedShare ⟨Nat.le_of_ble_eq_true rfl, Nat.le_of_ble_eq_true rfl⟩ ⟨(by show _ ≤ 601024; simp only [Nat.add_zero, Nat.add_assoc]; omega), (by show _ ≤ 7293034; simp only [Nat.add_zero, Nat.add_assoc]; omega)⟩ rfl (Nat.le_of_ble_eq_true rfl) dL_law_997 (pc' := 1000) rfl ?_
  refine x_dstore B (pc' := 1002) [1, 2, 3, 4, 5, 0] [(0, .ref b0), (1, .ref (a 0 0)), (2, .ref (am 0)), (3, .ref b), (4, .int (nI i)), (5, .double r9)] dL_law_1000 (by decide) rfl rfl ?_
  refine x_aload_n B (pc' := 1003) 2 dL_law_1002 rfl rfl rfl ?_
  refine l_modd B [] (k_X3_usedShare _ _ _ am M hm) gl_164 rfl np_X3_usedShare ⟨Nat.le_of_ble_eq_true rfl, Nat.le_of_ble_eq_true rfl⟩ ⟨(by show _ ≤ 601024; simp only [Nat.add_zero, Nat.add_assoc]; omega), (by show _ ≤ 7293034; simp only [Nat.add_zero, Nat.add_assoc]; omega)⟩ rfl (Nat.le_of_ble_eq_true rfl) dL_law_1003 (pc' := 1006) rfl ?_
  refine x_dstore B (pc' := 1008) [1, 2, 3, 4, 5, 6, 0] [(0, .ref b0), (1, .ref (a 0 0)), (2, .ref (am 0)), (3, .ref b), (4, .int (nI i)), (5, .double r9), (7, .double r9)] dL_law_1006 (by decide) rfl rfl ?_
  refine x_dload B (pc' := 1010) 5 dL_law_1008 rfl rfl ?_
  refine x_dload B (pc' := 1012) 6 dL_law_1010 rfl rfl ?_
  refine x_dcmp0 B (pc' := 1013) hd dL_law_1012 rfl ?_
  refine x_if_eq B 1034 1016 dL_law_1013 (by decide) rfl (fun _ => ?_) (fun hc => absurd rfl hc)
  refine x_goto B (pc' := 1727) dL_law_1034 (by decide) ?_
  refine x_lv [0, 1, 2, 3, 4] (lv' := [(0, .ref b0), (1, .ref (a 0 0)), (2, .ref (am 0)), (3, .ref b), (4, .int (nI i))]) rfl ?_
  refine x_widen (k' := k + 4) (n' := n + 24) (by first | exact Nat.le_refl _ | (show _ ≤ _; simp only [Nat.add_zero, Nat.add_assoc]; omega)) (by first | exact Nat.le_refl _ | (show _ ≤ _; simp only [Nat.add_zero, Nat.add_assoc]; omega)) ?_
  exact kk
set_option maxHeartbeats 4000000 in
set_option maxRecDepth 100000 in
/-- case 19: go -/
theorem lc_19 {Γ : Ctx} (hst : Γ.l.stackTraces = false) (B : CX Γ cL_law 9 RL room_1) (Z : CZ Γ) {b0 L : Nat} {xs : Nat → Int32} (C : SCR Γ b0 L xs) (hL : L ≤ 2048) {a : Nat → Nat → Nat} {b : Nat} {am : Nat → Nat} {S : BO} {ob : Nat → Int64} {M : MO} {i k n : Nat} (hi : i + 4 ≤ L) (hk : k ≤ 600000) (hn : n ≤ 7000000) {r9 rm : Int32} {S9 : BO} {ob9 : Nat → Int64} {M9 : MO} (hf : f_L_go (xs (i + 1)) S ob = some (r9, S9, ob9)) (hm : f_X3_go (xs (i + 1)) M = some (rm, M9)) (hth : M9.1 0 = r9) (hv : r9 = 0 → ob9 0 = Int32.toInt64 rm) (kk : X Γ 9 (k + 4) (n + 24) 1727 [(0, .ref b0), (1, .ref (a 0 0)), (2, .ref (am 0)), (3, .ref b), (4, .int (nI i))] [] (wLw Γ.cs a b am S9 ob9 M9)) : X Γ 9 k n 1037 [(0, .ref b0), (1, .ref (a 0 0)), (2, .ref (am 0)), (3, .ref b), (4, .int (nI i))] [] (wLw Γ.cs a b am S ob M) := by
  refine x_aload_n B (pc' := 1038) 1 dL_law_1037 rfl rfl rfl ?_
  refine x_aload_n B (pc' := 1039) 0 dL_law_1038 rfl rfl rfl ?_
  refine x_iload B (pc' := 1041) 4 dL_law_1039 rfl rfl ?_
  refine x_iconst B (pc' := 1042) 1 dL_law_1041 (by decide) rfl ?_
  refine x_iadd B (pc' := 1043) dL_law_1042 rfl ?_
  refine x_sld B C (i + 1) (nI_add i 1) (by omega) hL dL_law_1043 (pc' := 1044) rfl ?_
  refine x_aload_n B (pc' := 1045) 3 dL_law_1044 rfl rfl rfl ?_
  refine l_wrap B Z [.ref (a 0 0), .int (xs (i + 1)), .ref b] (k_L_go _ hst _ _ a b (xs (i + 1)) S ob hf) gl_165 np_L_go ⟨Nat.le_of_ble_eq_true rfl, Nat.le_of_ble_eq_true rfl⟩ ⟨(by show _ ≤ 601024; simp only [Nat.add_zero, Nat.add_assoc]; omega), (by show _ ≤ 7293034; simp only [Nat.add_zero, Nat.add_assoc]; omega)⟩ rfl (Nat.le_of_ble_eq_true rfl) dL_law_1045 (pc' := 1048) rfl ?_
  refine x_istore B (pc' := 1050) [1, 2, 3, 4, 5, 0] [(0, .ref b0), (1, .ref (a 0 0)), (2, .ref (am 0)), (3, .ref b), (4, .int (nI i)), (5, .int r9)] dL_law_1048 (by decide) rfl rfl ?_
  refine x_aload_n B (pc' := 1051) 2 dL_law_1050 rfl rfl rfl ?_
  refine x_aload_n B (pc' := 1052) 0 dL_law_1051 rfl rfl rfl ?_
  refine x_iload B (pc' := 1054) 4 dL_law_1052 rfl rfl ?_
  refine x_iconst B (pc' := 1055) 1 dL_law_1054 (by decide) rfl ?_
  refine x_iadd B (pc' := 1056) dL_law_1055 rfl ?_
  refine x_sld B C (i + 1) (nI_add i 1) (by omega) hL dL_law_1056 (pc' := 1057) rfl ?_
  refine l_modi B [.int (xs (i + 1))] (k_X3_go _ _ _ am (xs (i + 1)) M hm) gl_167 rfl np_X3_go ⟨Nat.le_of_ble_eq_true rfl, Nat.le_of_ble_eq_true rfl⟩ ⟨(by show _ ≤ 601024; simp only [Nat.add_zero, Nat.add_assoc]; omega), (by show _ ≤ 7293034; simp only [Nat.add_zero, Nat.add_assoc]; omega)⟩ rfl (Nat.le_of_ble_eq_true rfl) dL_law_1057 (pc' := 1060) rfl ?_
  refine x_istore B (pc' := 1062) [1, 2, 3, 4, 5, 6, 0] [(0, .ref b0), (1, .ref (a 0 0)), (2, .ref (am 0)), (3, .ref b), (4, .int (nI i)), (5, .int r9), (6, .int rm)] dL_law_1060 (by decide) rfl rfl ?_
  refine x_aload_n B (pc' := 1063) 2 dL_law_1062 rfl rfl rfl ?_
  refine l_modi B [] (k_X3_thrown _ _ _ am M9 rfl) gl_97 rfl np_X3_thrown ⟨Nat.le_of_ble_eq_true rfl, Nat.le_of_ble_eq_true rfl⟩ ⟨(by show _ ≤ 601024; simp only [Nat.add_zero, Nat.add_assoc]; omega), (by show _ ≤ 7293034; simp only [Nat.add_zero, Nat.add_assoc]; omega)⟩ rfl (Nat.le_of_ble_eq_true rfl) dL_law_1063 (pc' := 1066) rfl ?_
  refine x_iload B (pc' := 1068) 5 dL_law_1066 rfl rfl ?_
  refine x_icmp_eq B 1073 1071 dL_law_1068 (by decide) rfl (fun _ => ?_) (fun hc => absurd hth hc)
  refine x_iload B (pc' := 1075) 5 dL_law_1073 rfl rfl ?_
  refine x_if_ne B 1090 1078 dL_law_1075 (by decide) rfl (fun hc => ?_) (fun hc => ?_)
  · refine x_goto B (pc' := 1727) dL_law_1090 (by decide) ?_
    refine x_lv [0, 1, 2, 3, 4] (lv' := [(0, .ref b0), (1, .ref (a 0 0)), (2, .ref (am 0)), (3, .ref b), (4, .int (nI i))]) rfl ?_
    refine x_widen (k' := k + 4) (n' := n + 24) (by first | exact Nat.le_refl _ | (show _ ≤ _; simp only [Nat.add_zero, Nat.add_assoc]; omega)) (by first | exact Nat.le_refl _ | (show _ ≤ _; simp only [Nat.add_zero, Nat.add_assoc]; omega)) ?_
    exact kk
  · refine x_aload_n B (pc' := 1079) 3 dL_law_1078 rfl rfl rfl ?_
    refine x_iconst B (pc' := 1080) 0 dL_law_1079 (by decide) rfl ?_
    refine l_out B (pc' := 1081) dL_law_1080 rfl ?_
    refine x_iload B (pc' := 1083) 6 dL_law_1081 rfl rfl ?_
    refine x_i2l B (pc' := 1084) dL_law_1083 rfl ?_
    refine x_lcmp0 B (pc' := 1085) (hv hc) dL_law_1084 rfl ?_
    refine x_if_eq B 1090 1088 dL_law_1085 (by decide) rfl (fun _ => ?_) (fun hc => absurd rfl hc)
    refine x_goto B (pc' := 1727) dL_law_1090 (by decide) ?_
    refine x_lv [0, 1, 2, 3, 4] (lv' := [(0, .ref b0), (1, .ref (a 0 0)), (2, .ref (am 0)), (3, .ref b), (4, .int (nI i))]) rfl ?_
    refine x_widen (k' := k + 4) (n' := n + 24) (by first | exact Nat.le_refl _ | (show _ ≤ _; simp only [Nat.add_zero, Nat.add_assoc]; omega)) (by first | exact Nat.le_refl _ | (show _ ≤ _; simp only [Nat.add_zero, Nat.add_assoc]; omega)) ?_
    exact kk
set_option maxHeartbeats 4000000 in
set_option maxRecDepth 100000 in
/-- case 20: play -/
theorem lc_20 {Γ : Ctx} (hst : Γ.l.stackTraces = false) (B : CX Γ cL_law 9 RL room_1) (Z : CZ Γ) {b0 L : Nat} {xs : Nat → Int32} (C : SCR Γ b0 L xs) (hL : L ≤ 2048) {a : Nat → Nat → Nat} {b : Nat} {am : Nat → Nat} {S : BO} {ob : Nat → Int64} {M : MO} {i k n : Nat} (hi : i + 4 ≤ L) (hk : k ≤ 600000) (hn : n ≤ 7000000) {r9 rm : Int32} {S9 : BO} {ob9 : Nat → Int64} {M9 : MO} (hf : f_L_play S ob = some (r9, S9, ob9)) (hm : f_X3_play M = some (rm, M9)) (hth : M9.1 0 = r9) (hv : r9 = 0 → ob9 0 = Int32.toInt64 rm) (kk : X Γ 9 (k + 4) (n + 24) 1727 [(0, .ref b0), (1, .ref (a 0 0)), (2, .ref (am 0)), (3, .ref b), (4, .int (nI i))] [] (wLw Γ.cs a b am S9 ob9 M9)) : X Γ 9 k n 1093 [(0, .ref b0), (1, .ref (a 0 0)), (2, .ref (am 0)), (3, .ref b), (4, .int (nI i))] [] (wLw Γ.cs a b am S ob M) := by
  refine x_aload_n B (pc' := 1094) 1 dL_law_1093 rfl rfl rfl ?_
  refine x_aload_n B (pc' := 1095) 3 dL_law_1094 rfl rfl rfl ?_
  refine l_wrap B Z [.ref (a 0 0), .ref b] (k_L_play _ hst _ _ a b S ob hf) gl_168 np_L_play ⟨Nat.le_of_ble_eq_true rfl, Nat.le_of_ble_eq_true rfl⟩ ⟨(by show _ ≤ 601024; simp only [Nat.add_zero, Nat.add_assoc]; omega), (by show _ ≤ 7293034; simp only [Nat.add_zero, Nat.add_assoc]; omega)⟩ rfl (Nat.le_of_ble_eq_true rfl) dL_law_1095 (pc' := 1098) rfl ?_
  refine x_istore B (pc' := 1100) [1, 2, 3, 4, 5, 0] [(0, .ref b0), (1, .ref (a 0 0)), (2, .ref (am 0)), (3, .ref b), (4, .int (nI i)), (5, .int r9)] dL_law_1098 (by decide) rfl rfl ?_
  refine x_aload_n B (pc' := 1101) 2 dL_law_1100 rfl rfl rfl ?_
  refine l_modi B [] (k_X3_play _ _ _ am M hm) gl_170 rfl np_X3_play ⟨Nat.le_of_ble_eq_true rfl, Nat.le_of_ble_eq_true rfl⟩ ⟨(by show _ ≤ 601024; simp only [Nat.add_zero, Nat.add_assoc]; omega), (by show _ ≤ 7293034; simp only [Nat.add_zero, Nat.add_assoc]; omega)⟩ rfl (Nat.le_of_ble_eq_true rfl) dL_law_1101 (pc' := 1104) rfl ?_
  refine x_istore B (pc' := 1106) [1, 2, 3, 4, 5, 6, 0] [(0, .ref b0), (1, .ref (a 0 0)), (2, .ref (am 0)), (3, .ref b), (4, .int (nI i)), (5, .int r9), (6, .int rm)] dL_law_1104 (by decide) rfl rfl ?_
  refine x_aload_n B (pc' := 1107) 2 dL_law_1106 rfl rfl rfl ?_
  refine l_modi B [] (k_X3_thrown _ _ _ am M9 rfl) gl_97 rfl np_X3_thrown ⟨Nat.le_of_ble_eq_true rfl, Nat.le_of_ble_eq_true rfl⟩ ⟨(by show _ ≤ 601024; simp only [Nat.add_zero, Nat.add_assoc]; omega), (by show _ ≤ 7293034; simp only [Nat.add_zero, Nat.add_assoc]; omega)⟩ rfl (Nat.le_of_ble_eq_true rfl) dL_law_1107 (pc' := 1110) rfl ?_
  refine x_iload B (pc' := 1112) 5 dL_law_1110 rfl rfl ?_
  refine x_icmp_eq B 1117 1115 dL_law_1112 (by decide) rfl (fun _ => ?_) (fun hc => absurd hth hc)
  refine x_iload B (pc' := 1119) 5 dL_law_1117 rfl rfl ?_
  refine x_if_ne B 1134 1122 dL_law_1119 (by decide) rfl (fun hc => ?_) (fun hc => ?_)
  · refine x_goto B (pc' := 1727) dL_law_1134 (by decide) ?_
    refine x_lv [0, 1, 2, 3, 4] (lv' := [(0, .ref b0), (1, .ref (a 0 0)), (2, .ref (am 0)), (3, .ref b), (4, .int (nI i))]) rfl ?_
    refine x_widen (k' := k + 4) (n' := n + 24) (by first | exact Nat.le_refl _ | (show _ ≤ _; simp only [Nat.add_zero, Nat.add_assoc]; omega)) (by first | exact Nat.le_refl _ | (show _ ≤ _; simp only [Nat.add_zero, Nat.add_assoc]; omega)) ?_
    exact kk
  · refine x_aload_n B (pc' := 1123) 3 dL_law_1122 rfl rfl rfl ?_
    refine x_iconst B (pc' := 1124) 0 dL_law_1123 (by decide) rfl ?_
    refine l_out B (pc' := 1125) dL_law_1124 rfl ?_
    refine x_iload B (pc' := 1127) 6 dL_law_1125 rfl rfl ?_
    refine x_i2l B (pc' := 1128) dL_law_1127 rfl ?_
    refine x_lcmp0 B (pc' := 1129) (hv hc) dL_law_1128 rfl ?_
    refine x_if_eq B 1134 1132 dL_law_1129 (by decide) rfl (fun _ => ?_) (fun hc => absurd rfl hc)
    refine x_goto B (pc' := 1727) dL_law_1134 (by decide) ?_
    refine x_lv [0, 1, 2, 3, 4] (lv' := [(0, .ref b0), (1, .ref (a 0 0)), (2, .ref (am 0)), (3, .ref b), (4, .int (nI i))]) rfl ?_
    refine x_widen (k' := k + 4) (n' := n + 24) (by first | exact Nat.le_refl _ | (show _ ≤ _; simp only [Nat.add_zero, Nat.add_assoc]; omega)) (by first | exact Nat.le_refl _ | (show _ ≤ _; simp only [Nat.add_zero, Nat.add_assoc]; omega)) ?_
    exact kk
set_option maxHeartbeats 4000000 in
set_option maxRecDepth 100000 in
/-- case 21: back -/
theorem lc_21 {Γ : Ctx} (hst : Γ.l.stackTraces = false) (B : CX Γ cL_law 9 RL room_1) (Z : CZ Γ) {b0 L : Nat} {xs : Nat → Int32} (C : SCR Γ b0 L xs) (hL : L ≤ 2048) {a : Nat → Nat → Nat} {b : Nat} {am : Nat → Nat} {S : BO} {ob : Nat → Int64} {M : MO} {i k n : Nat} (hi : i + 4 ≤ L) (hk : k ≤ 600000) (hn : n ≤ 7000000) {r9 rm : Int32} {S9 : BO} {ob9 : Nat → Int64} {M9 : MO} (hf : f_L_back (xs (i + 1)) S ob = some (r9, S9, ob9)) (hm : f_X3_back (xs (i + 1)) M = some (rm, M9)) (hth : M9.1 0 = r9) (hv : r9 = 0 → ob9 0 = Int32.toInt64 rm) (kk : X Γ 9 (k + 4) (n + 24) 1727 [(0, .ref b0), (1, .ref (a 0 0)), (2, .ref (am 0)), (3, .ref b), (4, .int (nI i))] [] (wLw Γ.cs a b am S9 ob9 M9)) : X Γ 9 k n 1137 [(0, .ref b0), (1, .ref (a 0 0)), (2, .ref (am 0)), (3, .ref b), (4, .int (nI i))] [] (wLw Γ.cs a b am S ob M) := by
  refine x_aload_n B (pc' := 1138) 1 dL_law_1137 rfl rfl rfl ?_
  refine x_aload_n B (pc' := 1139) 0 dL_law_1138 rfl rfl rfl ?_
  refine x_iload B (pc' := 1141) 4 dL_law_1139 rfl rfl ?_
  refine x_iconst B (pc' := 1142) 1 dL_law_1141 (by decide) rfl ?_
  refine x_iadd B (pc' := 1143) dL_law_1142 rfl ?_
  refine x_sld B C (i + 1) (nI_add i 1) (by omega) hL dL_law_1143 (pc' := 1144) rfl ?_
  refine x_aload_n B (pc' := 1145) 3 dL_law_1144 rfl rfl rfl ?_
  refine l_wrap B Z [.ref (a 0 0), .int (xs (i + 1)), .ref b] (k_L_back _ hst _ _ a b (xs (i + 1)) S ob hf) gl_171 np_L_back ⟨Nat.le_of_ble_eq_true rfl, Nat.le_of_ble_eq_true rfl⟩ ⟨(by show _ ≤ 601024; simp only [Nat.add_zero, Nat.add_assoc]; omega), (by show _ ≤ 7293034; simp only [Nat.add_zero, Nat.add_assoc]; omega)⟩ rfl (Nat.le_of_ble_eq_true rfl) dL_law_1145 (pc' := 1148) rfl ?_
  refine x_istore B (pc' := 1150) [1, 2, 3, 4, 5, 0] [(0, .ref b0), (1, .ref (a 0 0)), (2, .ref (am 0)), (3, .ref b), (4, .int (nI i)), (5, .int r9)] dL_law_1148 (by decide) rfl rfl ?_
  refine x_aload_n B (pc' := 1151) 2 dL_law_1150 rfl rfl rfl ?_
  refine x_aload_n B (pc' := 1152) 0 dL_law_1151 rfl rfl rfl ?_
  refine x_iload B (pc' := 1154) 4 dL_law_1152 rfl rfl ?_
  refine x_iconst B (pc' := 1155) 1 dL_law_1154 (by decide) rfl ?_
  refine x_iadd B (pc' := 1156) dL_law_1155 rfl ?_
  refine x_sld B C (i + 1) (nI_add i 1) (by omega) hL dL_law_1156 (pc' := 1157) rfl ?_
  refine l_modi B [.int (xs (i + 1))] (k_X3_back _ _ _ am (xs (i + 1)) M hm) gl_173 rfl np_X3_back ⟨Nat.le_of_ble_eq_true rfl, Nat.le_of_ble_eq_true rfl⟩ ⟨(by show _ ≤ 601024; simp only [Nat.add_zero, Nat.add_assoc]; omega), (by show _ ≤ 7293034; simp only [Nat.add_zero, Nat.add_assoc]; omega)⟩ rfl (Nat.le_of_ble_eq_true rfl) dL_law_1157 (pc' := 1160) rfl ?_
  refine x_istore B (pc' := 1162) [1, 2, 3, 4, 5, 6, 0] [(0, .ref b0), (1, .ref (a 0 0)), (2, .ref (am 0)), (3, .ref b), (4, .int (nI i)), (5, .int r9), (6, .int rm)] dL_law_1160 (by decide) rfl rfl ?_
  refine x_aload_n B (pc' := 1163) 2 dL_law_1162 rfl rfl rfl ?_
  refine l_modi B [] (k_X3_thrown _ _ _ am M9 rfl) gl_97 rfl np_X3_thrown ⟨Nat.le_of_ble_eq_true rfl, Nat.le_of_ble_eq_true rfl⟩ ⟨(by show _ ≤ 601024; simp only [Nat.add_zero, Nat.add_assoc]; omega), (by show _ ≤ 7293034; simp only [Nat.add_zero, Nat.add_assoc]; omega)⟩ rfl (Nat.le_of_ble_eq_true rfl) dL_law_1163 (pc' := 1166) rfl ?_
  refine x_iload B (pc' := 1168) 5 dL_law_1166 rfl rfl ?_
  refine x_icmp_eq B 1173 1171 dL_law_1168 (by decide) rfl (fun _ => ?_) (fun hc => absurd hth hc)
  refine x_iload B (pc' := 1175) 5 dL_law_1173 rfl rfl ?_
  refine x_if_ne B 1190 1178 dL_law_1175 (by decide) rfl (fun hc => ?_) (fun hc => ?_)
  · refine x_goto B (pc' := 1727) dL_law_1190 (by decide) ?_
    refine x_lv [0, 1, 2, 3, 4] (lv' := [(0, .ref b0), (1, .ref (a 0 0)), (2, .ref (am 0)), (3, .ref b), (4, .int (nI i))]) rfl ?_
    refine x_widen (k' := k + 4) (n' := n + 24) (by first | exact Nat.le_refl _ | (show _ ≤ _; simp only [Nat.add_zero, Nat.add_assoc]; omega)) (by first | exact Nat.le_refl _ | (show _ ≤ _; simp only [Nat.add_zero, Nat.add_assoc]; omega)) ?_
    exact kk
  · refine x_aload_n B (pc' := 1179) 3 dL_law_1178 rfl rfl rfl ?_
    refine x_iconst B (pc' := 1180) 0 dL_law_1179 (by decide) rfl ?_
    refine l_out B (pc' := 1181) dL_law_1180 rfl ?_
    refine x_iload B (pc' := 1183) 6 dL_law_1181 rfl rfl ?_
    refine x_i2l B (pc' := 1184) dL_law_1183 rfl ?_
    refine x_lcmp0 B (pc' := 1185) (hv hc) dL_law_1184 rfl ?_
    refine x_if_eq B 1190 1188 dL_law_1185 (by decide) rfl (fun _ => ?_) (fun hc => absurd rfl hc)
    refine x_goto B (pc' := 1727) dL_law_1190 (by decide) ?_
    refine x_lv [0, 1, 2, 3, 4] (lv' := [(0, .ref b0), (1, .ref (a 0 0)), (2, .ref (am 0)), (3, .ref b), (4, .int (nI i))]) rfl ?_
    refine x_widen (k' := k + 4) (n' := n + 24) (by first | exact Nat.le_refl _ | (show _ ≤ _; simp only [Nat.add_zero, Nat.add_assoc]; omega)) (by first | exact Nat.le_refl _ | (show _ ≤ _; simp only [Nat.add_zero, Nat.add_assoc]; omega)) ?_
    exact kk
set_option maxHeartbeats 4000000 in
set_option maxRecDepth 100000 in
/-- case 22: playing -/
theorem lc_22 {Γ : Ctx} (hst : Γ.l.stackTraces = false) (B : CX Γ cL_law 9 RL room_1) (Z : CZ Γ) {b0 L : Nat} {xs : Nat → Int32} (C : SCR Γ b0 L xs) (hL : L ≤ 2048) {a : Nat → Nat → Nat} {b : Nat} {am : Nat → Nat} {S : BO} {ob : Nat → Int64} {M : MO} {i k n : Nat} (hi : i + 4 ≤ L) (hk : k ≤ 600000) (hn : n ≤ 7000000) {r9 : Int32} {M9 : MO} (hf : f_X2_playing S = some r9) (hm : f_X3_playing M = some (r9, M9)) (kk : X Γ 9 (k + 4) (n + 24) 1727 [(0, .ref b0), (1, .ref (a 0 0)), (2, .ref (am 0)), (3, .ref b), (4, .int (nI i))] [] (wLw Γ.cs a b am S ob M9)) : X Γ 9 k n 1193 [(0, .ref b0), (1, .ref (a 0 0)), (2, .ref (am 0)), (3, .ref b), (4, .int (nI i))] [] (wLw Γ.cs a b am S ob M) := by
  refine x_aload_n B (pc' := 1194) 1 dL_law_1193 rfl rfl rfl ?_
  refine l_beli B [] (k_X2_playing _ _ _ a S hf) gl_174 rfl np_X2_playing ⟨Nat.le_of_ble_eq_true rfl, Nat.le_of_ble_eq_true rfl⟩ ⟨(by show _ ≤ 601024; simp only [Nat.add_zero, Nat.add_assoc]; omega), (by show _ ≤ 7293034; simp only [Nat.add_zero, Nat.add_assoc]; omega)⟩ rfl (Nat.le_of_ble_eq_true rfl) dL_law_1194 (pc' := 1197) rfl ?_
  refine x_aload_n B (pc' := 1198) 2 dL_law_1197 rfl rfl rfl ?_
  refine l_modi B [] (k_X3_playing _ _ _ am M hm) gl_177 rfl np_X3_playing ⟨Nat.le_of_ble_eq_true rfl, Nat.le_of_ble_eq_true rfl⟩ ⟨(by show _ ≤ 601024; simp only [Nat.add_zero, Nat.add_assoc]; omega), (by show _ ≤ 7293034; simp only [Nat.add_zero, Nat.add_assoc]; omega)⟩ rfl (Nat.le_of_ble_eq_true rfl) dL_law_1198 (pc' := 1201) rfl ?_
  refine x_icmp_eq B 1727 1204 dL_law_1201 (by decide) rfl (fun _ => ?_) (fun hc => absurd rfl hc)
  refine x_widen (k' := k + 4) (n' := n + 24) (by first | exact Nat.le_refl _ | (show _ ≤ _; simp only [Nat.add_zero, Nat.add_assoc]; omega)) (by first | exact Nat.le_refl _ | (show _ ≤ _; simp only [Nat.add_zero, Nat.add_assoc]; omega)) ?_
  exact kk
set_option maxHeartbeats 4000000 in
set_option maxRecDepth 100000 in
/-- case 23: place -/
theorem lc_23 {Γ : Ctx} (hst : Γ.l.stackTraces = false) (B : CX Γ cL_law 9 RL room_1) (Z : CZ Γ) {b0 L : Nat} {xs : Nat → Int32} (C : SCR Γ b0 L xs) (hL : L ≤ 2048) {a : Nat → Nat → Nat} {b : Nat} {am : Nat → Nat} {S : BO} {ob : Nat → Int64} {M : MO} {i k n : Nat} (hi : i + 4 ≤ L) (hk : k ≤ 600000) (hn : n ≤ 7000000) {r9 : Int32} {M9 : MO} (hf : f_X2_place S = some r9) (hm : f_X3_place M = some (r9, M9)) (kk : X Γ 9 (k + 4) (n + 24) 1727 [(0, .ref b0), (1, .ref (a 0 0)), (2, .ref (am 0)), (3, .ref b), (4, .int (nI i))] [] (wLw Γ.cs a b am S ob M9)) : X Γ 9 k n 1206 [(0, .ref b0), (1, .ref (a 0 0)), (2, .ref (am 0)), (3, .ref b), (4, .int (nI i))] [] (wLw Γ.cs a b am S ob M) := by
  refine x_aload_n B (pc' := 1207) 1 dL_law_1206 rfl rfl rfl ?_
  refine l_beli B [] (k_X2_place _ _ _ a S hf) gl_178 rfl np_X2_place ⟨Nat.le_of_ble_eq_true rfl, Nat.le_of_ble_eq_true rfl⟩ ⟨(by show _ ≤ 601024; simp only [Nat.add_zero, Nat.add_assoc]; omega), (by show _ ≤ 7293034; simp only [Nat.add_zero, Nat.add_assoc]; omega)⟩ rfl (Nat.le_of_ble_eq_true rfl) dL_law_1207 (pc' := 1210) rfl ?_
  refine x_aload_n B (pc' := 1211) 2 dL_law_1210 rfl rfl rfl ?_
  refine l_modi B [] (k_X3_place _ _ _ am M hm) gl_181 rfl np_X3_place ⟨Nat.le_of_ble_eq_true rfl, Nat.le_of_ble_eq_true rfl⟩ ⟨(by show _ ≤ 601024; simp only [Nat.add_zero, Nat.add_assoc]; omega), (by show _ ≤ 7293034; simp only [Nat.add_zero, Nat.add_assoc]; omega)⟩ rfl (Nat.le_of_ble_eq_true rfl) dL_law_1211 (pc' := 1214) rfl ?_
  refine x_icmp_eq B 1727 1217 dL_law_1214 (by decide) rfl (fun _ => ?_) (fun hc => absurd rfl hc)
  refine x_widen (k' := k + 4) (n' := n + 24) (by first | exact Nat.le_refl _ | (show _ ≤ _; simp only [Nat.add_zero, Nat.add_assoc]; omega)) (by first | exact Nat.le_refl _ | (show _ ≤ _; simp only [Nat.add_zero, Nat.add_assoc]; omega)) ?_
  exact kk
set_option maxHeartbeats 4000000 in
set_option maxRecDepth 100000 in
/-- case 24: correct -/
theorem lc_24 {Γ : Ctx} (hst : Γ.l.stackTraces = false) (B : CX Γ cL_law 9 RL room_1) (Z : CZ Γ) {b0 L : Nat} {xs : Nat → Int32} (C : SCR Γ b0 L xs) (hL : L ≤ 2048) {a : Nat → Nat → Nat} {b : Nat} {am : Nat → Nat} {S : BO} {ob : Nat → Int64} {M : MO} {i k n : Nat} (hi : i + 4 ≤ L) (hk : k ≤ 600000) (hn : n ≤ 7000000) {r9 rm : Int32} {S9 : BO} {ob9 : Nat → Int64} {M9 : MO} (hf : f_L_correct (xs (i + 1)) (xs (i + 2)) (xs (i + 3)) S ob = some (r9, S9, ob9)) (hm : f_X3_correct (xs (i + 1)) (xs (i + 2)) (xs (i + 3)) M = some (rm, M9)) (hth : M9.1 0 = r9) (hv : r9 = 0 → ob9 0 = Int32.toInt64 rm) (kk : X Γ 9 (k + 4) (n + 24) 1727 [(0, .ref b0), (1, .ref (a 0 0)), (2, .ref (am 0)), (3, .ref b), (4, .int (nI i))] [] (wLw Γ.cs a b am S9 ob9 M9)) : X Γ 9 k n 1219 [(0, .ref b0), (1, .ref (a 0 0)), (2, .ref (am 0)), (3, .ref b), (4, .int (nI i))] [] (wLw Γ.cs a b am S ob M) := by
  refine x_aload_n B (pc' := 1220) 1 dL_law_1219 rfl rfl rfl ?_
  refine x_aload_n B (pc' := 1221) 0 dL_law_1220 rfl rfl rfl ?_
  refine x_iload B (pc' := 1223) 4 dL_law_1221 rfl rfl ?_
  refine x_iconst B (pc' := 1224) 1 dL_law_1223 (by decide) rfl ?_
  refine x_iadd B (pc' := 1225) dL_law_1224 rfl ?_
  refine x_sld B C (i + 1) (nI_add i 1) (by omega) hL dL_law_1225 (pc' := 1226) rfl ?_
  refine x_aload_n B (pc' := 1227) 0 dL_law_1226 rfl rfl rfl ?_
  refine x_iload B (pc' := 1229) 4 dL_law_1227 rfl rfl ?_
  refine x_iconst B (pc' := 1230) 2 dL_law_1229 (by decide) rfl ?_
  refine x_iadd B (pc' := 1231) dL_law_1230 rfl ?_
  refine x_sld B C (i + 2) (nI_add i 2) (by omega) hL dL_law_1231 (pc' := 1232) rfl ?_
  refine x_aload_n B (pc' := 1233) 0 dL_law_1232 rfl rfl rfl ?_
  refine x_iload B (pc' := 1235) 4 dL_law_1233 rfl rfl ?_
  refine x_iconst B (pc' := 1236) 3 dL_law_1235 (by decide) rfl ?_
  refine x_iadd B (pc' := 1237) dL_law_1236 rfl ?_
  refine x_sld B C (i + 3) (nI_add i 3) (by omega) hL dL_law_1237 (pc' := 1238) rfl ?_
  refine x_aload_n B (pc' := 1239) 3 dL_law_1238 rfl rfl rfl ?_
  refine l_wrap B Z [.ref (a 0 0), .int (xs (i + 1)), .int (xs (i + 2)), .int (xs (i + 3)), .ref b] (k_L_correct _ hst _ _ a b (xs (i + 1)) (xs (i + 2)) (xs (i + 3)) S ob hf) gl_182 np_L_correct ⟨Nat.le_of_ble_eq_true rfl, Nat.le_of_ble_eq_true rfl⟩ ⟨(by show _ ≤ 601024; simp only [Nat.add_zero, Nat.add_assoc]; omega), (by show _ ≤ 7293034; simp only [Nat.add_zero, Nat.add_assoc]; omega)⟩ rfl (Nat.le_of_ble_eq_true rfl) dL_law_1239 (pc' := 1242) rfl ?_
  refine x_istore B (pc' := 1244) [1, 2, 3, 4, 5, 0] [(0, .ref b0), (1, .ref (a 0 0)), (2, .ref (am 0)), (3, .ref b), (4, .int (nI i)), (5, .int r9)] dL_law_1242 (by decide) rfl rfl ?_
  refine x_aload_n B (pc' := 1245) 2 dL_law_1244 rfl rfl rfl ?_
  refine x_aload_n B (pc' := 1246) 0 dL_law_1245 rfl rfl rfl ?_
  refine x_iload B (pc' := 1248) 4 dL_law_1246 rfl rfl ?_
  refine x_iconst B (pc' := 1249) 1 dL_law_1248 (by decide) rfl ?_
  refine x_iadd B (pc' := 1250) dL_law_1249 rfl ?_
  refine x_sld B C (i + 1) (nI_add i 1) (by omega) hL dL_law_1250 (pc' := 1251) rfl ?_
  refine x_aload_n B (pc' := 1252) 0 dL_law_1251 rfl rfl rfl ?_
  refine x_iload B (pc' := 1254) 4 dL_law_1252 rfl rfl ?_
  refine x_iconst B (pc' := 1255) 2 dL_law_1254 (by decide) rfl ?_
  refine x_iadd B (pc' := 1256) dL_law_1255 rfl ?_
  refine x_sld B C (i + 2) (nI_add i 2) (by omega) hL dL_law_1256 (pc' := 1257) rfl ?_
  refine x_aload_n B (pc' := 1258) 0 dL_law_1257 rfl rfl rfl ?_
  refine x_iload B (pc' := 1260) 4 dL_law_1258 rfl rfl ?_
  refine x_iconst B (pc' := 1261) 3 dL_law_1260 (by decide) rfl ?_
  refine x_iadd B (pc' := 1262) dL_law_1261 rfl ?_
  refine x_sld B C (i + 3) (nI_add i 3) (by omega) hL dL_law_1262 (pc' := 1263) rfl ?_
  refine l_modi B [.int (xs (i + 1)), .int (xs (i + 2)), .int (xs (i + 3))] (k_X3_correct _ _ _ am (xs (i + 1)) (xs (i + 2)) (xs (i + 3)) M hm) gl_185 rfl np_X3_correct ⟨Nat.le_of_ble_eq_true rfl, Nat.le_of_ble_eq_true rfl⟩ ⟨(by show _ ≤ 601024; simp only [Nat.add_zero, Nat.add_assoc]; omega), (by show _ ≤ 7293034; simp only [Nat.add_zero, Nat.add_assoc]; omega)⟩ rfl (Nat.le_of_ble_eq_true rfl) dL_law_1263 (pc' := 1266) rfl ?_
  refine x_istore B (pc' := 1268) [1, 2, 3, 4, 5, 6, 0] [(0, .ref b0), (1, .ref (a 0 0)), (2, .ref (am 0)), (3, .ref b), (4, .int (nI i)), (5, .int r9), (6, .int rm)] dL_law_1266 (by decide) rfl rfl ?_
  refine x_aload_n B (pc' := 1269) 2 dL_law_1268 rfl rfl rfl ?_
  refine l_modi B [] (k_X3_thrown _ _ _ am M9 rfl) gl_97 rfl np_X3_thrown ⟨Nat.le_of_ble_eq_true rfl, Nat.le_of_ble_eq_true rfl⟩ ⟨(by show _ ≤ 601024; simp only [Nat.add_zero, Nat.add_assoc]; omega), (by show _ ≤ 7293034; simp only [Nat.add_zero, Nat.add_assoc]; omega)⟩ rfl (Nat.le_of_ble_eq_true rfl) dL_law_1269 (pc' := 1272) rfl ?_
  refine x_iload B (pc' := 1274) 5 dL_law_1272 rfl rfl ?_
  refine x_icmp_eq B 1279 1277 dL_law_1274 (by decide) rfl (fun _ => ?_) (fun hc => absurd hth hc)
  refine x_iload B (pc' := 1281) 5 dL_law_1279 rfl rfl ?_
  refine x_if_ne B 1296 1284 dL_law_1281 (by decide) rfl (fun hc => ?_) (fun hc => ?_)
  · refine x_goto B (pc' := 1727) dL_law_1296 (by decide) ?_
    refine x_lv [0, 1, 2, 3, 4] (lv' := [(0, .ref b0), (1, .ref (a 0 0)), (2, .ref (am 0)), (3, .ref b), (4, .int (nI i))]) rfl ?_
    refine x_widen (k' := k + 4) (n' := n + 24) (by first | exact Nat.le_refl _ | (show _ ≤ _; simp only [Nat.add_zero, Nat.add_assoc]; omega)) (by first | exact Nat.le_refl _ | (show _ ≤ _; simp only [Nat.add_zero, Nat.add_assoc]; omega)) ?_
    exact kk
  · refine x_aload_n B (pc' := 1285) 3 dL_law_1284 rfl rfl rfl ?_
    refine x_iconst B (pc' := 1286) 0 dL_law_1285 (by decide) rfl ?_
    refine l_out B (pc' := 1287) dL_law_1286 rfl ?_
    refine x_iload B (pc' := 1289) 6 dL_law_1287 rfl rfl ?_
    refine x_i2l B (pc' := 1290) dL_law_1289 rfl ?_
    refine x_lcmp0 B (pc' := 1291) (hv hc) dL_law_1290 rfl ?_
    refine x_if_eq B 1296 1294 dL_law_1291 (by decide) rfl (fun _ => ?_) (fun hc => absurd rfl hc)
    refine x_goto B (pc' := 1727) dL_law_1296 (by decide) ?_
    refine x_lv [0, 1, 2, 3, 4] (lv' := [(0, .ref b0), (1, .ref (a 0 0)), (2, .ref (am 0)), (3, .ref b), (4, .int (nI i))]) rfl ?_
    refine x_widen (k' := k + 4) (n' := n + 24) (by first | exact Nat.le_refl _ | (show _ ≤ _; simp only [Nat.add_zero, Nat.add_assoc]; omega)) (by first | exact Nat.le_refl _ | (show _ ≤ _; simp only [Nat.add_zero, Nat.add_assoc]; omega)) ?_
    exact kk
set_option maxHeartbeats 4000000 in
set_option maxRecDepth 100000 in
/-- case 25: carbon -/
theorem lc_25 {Γ : Ctx} (hst : Γ.l.stackTraces = false) (B : CX Γ cL_law 9 RL room_1) (Z : CZ Γ) {b0 L : Nat} {xs : Nat → Int32} (C : SCR Γ b0 L xs) (hL : L ≤ 2048) {a : Nat → Nat → Nat} {b : Nat} {am : Nat → Nat} {S : BO} {ob : Nat → Int64} {M : MO} {i k n : Nat} (hi : i + 4 ≤ L) (hk : k ≤ 600000) (hn : n ≤ 7000000) {r9 rm : Int32} {S9 : BO} {ob9 : Nat → Int64} {M9 : MO} (hf : f_L_carbon (xs (i + 1)) (xs (i + 2)) S ob = some (r9, S9, ob9)) (hm : f_X3_carbon (xs (i + 1)) (xs (i + 2)) M = some (rm, M9)) (hth : M9.1 0 = r9) (hv : r9 = 0 → ob9 0 = Int32.toInt64 rm) (kk : X Γ 9 (k + 4) (n + 24) 1727 [(0, .ref b0), (1, .ref (a 0 0)), (2, .ref (am 0)), (3, .ref b), (4, .int (nI i))] [] (wLw Γ.cs a b am S9 ob9 M9)) : X Γ 9 k n 1299 [(0, .ref b0), (1, .ref (a 0 0)), (2, .ref (am 0)), (3, .ref b), (4, .int (nI i))] [] (wLw Γ.cs a b am S ob M) := by
  refine x_aload_n B (pc' := 1300) 1 dL_law_1299 rfl rfl rfl ?_
  refine x_aload_n B (pc' := 1301) 0 dL_law_1300 rfl rfl rfl ?_
  refine x_iload B (pc' := 1303) 4 dL_law_1301 rfl rfl ?_
  refine x_iconst B (pc' := 1304) 1 dL_law_1303 (by decide) rfl ?_
  refine x_iadd B (pc' := 1305) dL_law_1304 rfl ?_
  refine x_sld B C (i + 1) (nI_add i 1) (by omega) hL dL_law_1305 (pc' := 1306) rfl ?_
  refine x_aload_n B (pc' := 1307) 0 dL_law_1306 rfl rfl rfl ?_
  refine x_iload B (pc' := 1309) 4 dL_law_1307 rfl rfl ?_
  refine x_iconst B (pc' := 1310) 2 dL_law_1309 (by decide) rfl ?_
  refine x_iadd B (pc' := 1311) dL_law_1310 rfl ?_
  refine x_sld B C (i + 2) (nI_add i 2) (by omega) hL dL_law_1311 (pc' := 1312) rfl ?_
  refine x_aload_n B (pc' := 1313) 3 dL_law_1312 rfl rfl rfl ?_
  refine l_wrap B Z [.ref (a 0 0), .int (xs (i + 1)), .int (xs (i + 2)), .ref b] (k_L_carbon _ hst _ _ a b (xs (i + 1)) (xs (i + 2)) S ob hf) gl_186 np_L_carbon ⟨Nat.le_of_ble_eq_true rfl, Nat.le_of_ble_eq_true rfl⟩ ⟨(by show _ ≤ 601024; simp only [Nat.add_zero, Nat.add_assoc]; omega), (by show _ ≤ 7293034; simp only [Nat.add_zero, Nat.add_assoc]; omega)⟩ rfl (Nat.le_of_ble_eq_true rfl) dL_law_1313 (pc' := 1316) rfl ?_
  refine x_istore B (pc' := 1318) [1, 2, 3, 4, 5, 0] [(0, .ref b0), (1, .ref (a 0 0)), (2, .ref (am 0)), (3, .ref b), (4, .int (nI i)), (5, .int r9)] dL_law_1316 (by decide) rfl rfl ?_
  refine x_aload_n B (pc' := 1319) 2 dL_law_1318 rfl rfl rfl ?_
  refine x_aload_n B (pc' := 1320) 0 dL_law_1319 rfl rfl rfl ?_
  refine x_iload B (pc' := 1322) 4 dL_law_1320 rfl rfl ?_
  refine x_iconst B (pc' := 1323) 1 dL_law_1322 (by decide) rfl ?_
  refine x_iadd B (pc' := 1324) dL_law_1323 rfl ?_
  refine x_sld B C (i + 1) (nI_add i 1) (by omega) hL dL_law_1324 (pc' := 1325) rfl ?_
  refine x_aload_n B (pc' := 1326) 0 dL_law_1325 rfl rfl rfl ?_
  refine x_iload B (pc' := 1328) 4 dL_law_1326 rfl rfl ?_
  refine x_iconst B (pc' := 1329) 2 dL_law_1328 (by decide) rfl ?_
  refine x_iadd B (pc' := 1330) dL_law_1329 rfl ?_
  refine x_sld B C (i + 2) (nI_add i 2) (by omega) hL dL_law_1330 (pc' := 1331) rfl ?_
  refine l_modi B [.int (xs (i + 1)), .int (xs (i + 2))] (k_X3_carbon _ _ _ am (xs (i + 1)) (xs (i + 2)) M hm) gl_188 rfl np_X3_carbon ⟨Nat.le_of_ble_eq_true rfl, Nat.le_of_ble_eq_true rfl⟩ ⟨(by show _ ≤ 601024; simp only [Nat.add_zero, Nat.add_assoc]; omega), (by show _ ≤ 7293034; simp only [Nat.add_zero, Nat.add_assoc]; omega)⟩ rfl (Nat.le_of_ble_eq_true rfl) dL_law_1331 (pc' := 1334) rfl ?_
  refine x_istore B (pc' := 1336) [1, 2, 3, 4, 5, 6, 0] [(0, .ref b0), (1, .ref (a 0 0)), (2, .ref (am 0)), (3, .ref b), (4, .int (nI i)), (5, .int r9), (6, .int rm)] dL_law_1334 (by decide) rfl rfl ?_
  refine x_aload_n B (pc' := 1337) 2 dL_law_1336 rfl rfl rfl ?_
  refine l_modi B [] (k_X3_thrown _ _ _ am M9 rfl) gl_97 rfl np_X3_thrown ⟨Nat.le_of_ble_eq_true rfl, Nat.le_of_ble_eq_true rfl⟩ ⟨(by show _ ≤ 601024; simp only [Nat.add_zero, Nat.add_assoc]; omega), (by show _ ≤ 7293034; simp only [Nat.add_zero, Nat.add_assoc]; omega)⟩ rfl (Nat.le_of_ble_eq_true rfl) dL_law_1337 (pc' := 1340) rfl ?_
  refine x_iload B (pc' := 1342) 5 dL_law_1340 rfl rfl ?_
  refine x_icmp_eq B 1347 1345 dL_law_1342 (by decide) rfl (fun _ => ?_) (fun hc => absurd hth hc)
  refine x_iload B (pc' := 1349) 5 dL_law_1347 rfl rfl ?_
  refine x_if_ne B 1364 1352 dL_law_1349 (by decide) rfl (fun hc => ?_) (fun hc => ?_)
  · refine x_goto B (pc' := 1727) dL_law_1364 (by decide) ?_
    refine x_lv [0, 1, 2, 3, 4] (lv' := [(0, .ref b0), (1, .ref (a 0 0)), (2, .ref (am 0)), (3, .ref b), (4, .int (nI i))]) rfl ?_
    refine x_widen (k' := k + 4) (n' := n + 24) (by first | exact Nat.le_refl _ | (show _ ≤ _; simp only [Nat.add_zero, Nat.add_assoc]; omega)) (by first | exact Nat.le_refl _ | (show _ ≤ _; simp only [Nat.add_zero, Nat.add_assoc]; omega)) ?_
    exact kk
  · refine x_aload_n B (pc' := 1353) 3 dL_law_1352 rfl rfl rfl ?_
    refine x_iconst B (pc' := 1354) 0 dL_law_1353 (by decide) rfl ?_
    refine l_out B (pc' := 1355) dL_law_1354 rfl ?_
    refine x_iload B (pc' := 1357) 6 dL_law_1355 rfl rfl ?_
    refine x_i2l B (pc' := 1358) dL_law_1357 rfl ?_
    refine x_lcmp0 B (pc' := 1359) (hv hc) dL_law_1358 rfl ?_
    refine x_if_eq B 1364 1362 dL_law_1359 (by decide) rfl (fun _ => ?_) (fun hc => absurd rfl hc)
    refine x_goto B (pc' := 1727) dL_law_1364 (by decide) ?_
    refine x_lv [0, 1, 2, 3, 4] (lv' := [(0, .ref b0), (1, .ref (a 0 0)), (2, .ref (am 0)), (3, .ref b), (4, .int (nI i))]) rfl ?_
    refine x_widen (k' := k + 4) (n' := n + 24) (by first | exact Nat.le_refl _ | (show _ ≤ _; simp only [Nat.add_zero, Nat.add_assoc]; omega)) (by first | exact Nat.le_refl _ | (show _ ≤ _; simp only [Nat.add_zero, Nat.add_assoc]; omega)) ?_
    exact kk
set_option maxHeartbeats 4000000 in
set_option maxRecDepth 100000 in
/-- case 26: corrected -/
theorem lc_26 {Γ : Ctx} (hst : Γ.l.stackTraces = false) (B : CX Γ cL_law 9 RL room_1) (Z : CZ Γ) {b0 L : Nat} {xs : Nat → Int32} (C : SCR Γ b0 L xs) (hL : L ≤ 2048) {a : Nat → Nat → Nat} {b : Nat} {am : Nat → Nat} {S : BO} {ob : Nat → Int64} {M : MO} {i k n : Nat} (hi : i + 4 ≤ L) (hk : k ≤ 600000) (hn : n ≤ 7000000) {r9 : Int32} {M9 : MO} (hf : f_X2_corrected S = some r9) (hm : f_X3_corrected M = some (r9, M9)) (kk : X Γ 9 (k + 4) (n + 24) 1727 [(0, .ref b0), (1, .ref (a 0 0)), (2, .ref (am 0)), (3, .ref b), (4, .int (nI i))] [] (wLw Γ.cs a b am S ob M9)) : X Γ 9 k n 1367 [(0, .ref b0), (1, .ref (a 0 0)), (2, .ref (am 0)), (3, .ref b), (4, .int (nI i))] [] (wLw Γ.cs a b am S ob M) := by
  refine x_aload_n B (pc' := 1368) 1 dL_law_1367 rfl rfl rfl ?_
  refine l_beli B [] (k_X2_corrected _ _ _ a S hf) gl_189 rfl np_X2_corrected ⟨Nat.le_of_ble_eq_true rfl, Nat.le_of_ble_eq_true rfl⟩ ⟨(by show _ ≤ 601024; simp only [Nat.add_zero, Nat.add_assoc]; omega), (by show _ ≤ 7293034; simp only [Nat.add_zero, Nat.add_assoc]; omega)⟩ rfl (Nat.le_of_ble_eq_true rfl) dL_law_1368 (pc' := 1371) rfl ?_
  refine x_aload_n B (pc' := 1372) 2 dL_law_1371 rfl rfl rfl ?_
  refine l_modi B [] (k_X3_corrected _ _ _ am M hm) gl_192 rfl np_X3_corrected ⟨Nat.le_of_ble_eq_true rfl, Nat.le_of_ble_eq_true rfl⟩ ⟨(by show _ ≤ 601024; simp only [Nat.add_zero, Nat.add_assoc]; omega), (by show _ ≤ 7293034; simp only [Nat.add_zero, Nat.add_assoc]; omega)⟩ rfl (Nat.le_of_ble_eq_true rfl) dL_law_1372 (pc' := 1375) rfl ?_
  refine x_icmp_eq B 1727 1378 dL_law_1375 (by decide) rfl (fun _ => ?_) (fun hc => absurd rfl hc)
  refine x_widen (k' := k + 4) (n' := n + 24) (by first | exact Nat.le_refl _ | (show _ ≤ _; simp only [Nat.add_zero, Nat.add_assoc]; omega)) (by first | exact Nat.le_refl _ | (show _ ≤ _; simp only [Nat.add_zero, Nat.add_assoc]; omega)) ?_
  exact kk
set_option maxHeartbeats 4000000 in
set_option maxRecDepth 100000 in
/-- case 27: room -/
theorem lc_27 {Γ : Ctx} (hst : Γ.l.stackTraces = false) (B : CX Γ cL_law 9 RL room_1) (Z : CZ Γ) {b0 L : Nat} {xs : Nat → Int32} (C : SCR Γ b0 L xs) (hL : L ≤ 2048) {a : Nat → Nat → Nat} {b : Nat} {am : Nat → Nat} {S : BO} {ob : Nat → Int64} {M : MO} {i k n : Nat} (hi : i + 4 ≤ L) (hk : k ≤ 600000) (hn : n ≤ 7000000) {r9 : Int32} {M9 : MO} (hf : f_X2_room S = some r9) (hm : f_X3_room M = some (r9, M9)) (kk : X Γ 9 (k + 4) (n + 24) 1727 [(0, .ref b0), (1, .ref (a 0 0)), (2, .ref (am 0)), (3, .ref b), (4, .int (nI i))] [] (wLw Γ.cs a b am S ob M9)) : X Γ 9 k n 1380 [(0, .ref b0), (1, .ref (a 0 0)), (2, .ref (am 0)), (3, .ref b), (4, .int (nI i))] [] (wLw Γ.cs a b am S ob M) := by
  refine x_aload_n B (pc' := 1381) 1 dL_law_1380 rfl rfl rfl ?_
  refine l_beli B [] (k_X2_room _ _ _ a S hf) gl_193 rfl np_X2_room ⟨Nat.le_of_ble_eq_true rfl, Nat.le_of_ble_eq_true rfl⟩ ⟨(by show _ ≤ 601024; simp only [Nat.add_zero, Nat.add_assoc]; omega), (by show _ ≤ 7293034; simp only [Nat.add_zero, Nat.add_assoc]; omega)⟩ rfl (Nat.le_of_ble_eq_true rfl) dL_law_1381 (pc' := 1384) rfl ?_
  refine x_aload_n B (pc' := 1385) 2 dL_law_1384 rfl rfl rfl ?_
  refine l_modi B [] (k_X3_room _ _ _ am M hm) gl_196 rfl np_X3_room ⟨Nat.le_of_ble_eq_true rfl, Nat.le_of_ble_eq_true rfl⟩ ⟨(by show _ ≤ 601024; simp only [Nat.add_zero, Nat.add_assoc]; omega), (by show _ ≤ 7293034; simp only [Nat.add_zero, Nat.add_assoc]; omega)⟩ rfl (Nat.le_of_ble_eq_true rfl) dL_law_1385 (pc' := 1388) rfl ?_
  refine x_icmp_eq B 1727 1391 dL_law_1388 (by decide) rfl (fun _ => ?_) (fun hc => absurd rfl hc)
  refine x_widen (k' := k + 4) (n' := n + 24) (by first | exact Nat.le_refl _ | (show _ ≤ _; simp only [Nat.add_zero, Nat.add_assoc]; omega)) (by first | exact Nat.le_refl _ | (show _ ≤ _; simp only [Nat.add_zero, Nat.add_assoc]; omega)) ?_
  exact kk
set_option maxHeartbeats 4000000 in
set_option maxRecDepth 100000 in
/-- case 28: nextLoser -/
theorem lc_28 {Γ : Ctx} (hst : Γ.l.stackTraces = false) (B : CX Γ cL_law 9 RL room_1) (Z : CZ Γ) {b0 L : Nat} {xs : Nat → Int32} (C : SCR Γ b0 L xs) (hL : L ≤ 2048) {a : Nat → Nat → Nat} {b : Nat} {am : Nat → Nat} {S : BO} {ob : Nat → Int64} {M : MO} {i k n : Nat} (hi : i + 4 ≤ L) (hk : k ≤ 600000) (hn : n ≤ 7000000) {r9 : Int32} {M9 : MO} (hf : f_X2_nextLoser S = some r9) (hm : f_X3_nextLoser M = some (r9, M9)) (kk : X Γ 9 (k + 4) (n + 24) 1727 [(0, .ref b0), (1, .ref (a 0 0)), (2, .ref (am 0)), (3, .ref b), (4, .int (nI i))] [] (wLw Γ.cs a b am S ob M9)) : X Γ 9 k n 1393 [(0, .ref b0), (1, .ref (a 0 0)), (2, .ref (am 0)), (3, .ref b), (4, .int (nI i))] [] (wLw Γ.cs a b am S ob M) := by
  refine x_aload_n B (pc' := 1394) 1 dL_law_1393 rfl rfl rfl ?_
  refine l_beli B [] (k_X2_nextLoser _ _ _ a S hf) gl_197 rfl np_X2_nextLoser ⟨Nat.le_of_ble_eq_true rfl, Nat.le_of_ble_eq_true rfl⟩ ⟨(by show _ ≤ 601024; simp only [Nat.add_zero, Nat.add_assoc]; omega), (by show _ ≤ 7293034; simp only [Nat.add_zero, Nat.add_assoc]; omega)⟩ rfl (Nat.le_of_ble_eq_true rfl) dL_law_1394 (pc' := 1397) rfl ?_
  refine x_aload_n B (pc' := 1398) 2 dL_law_1397 rfl rfl rfl ?_
  refine l_modi B [] (k_X3_nextLoser _ _ _ am M hm) gl_200 rfl np_X3_nextLoser ⟨Nat.le_of_ble_eq_true rfl, Nat.le_of_ble_eq_true rfl⟩ ⟨(by show _ ≤ 601024; simp only [Nat.add_zero, Nat.add_assoc]; omega), (by show _ ≤ 7293034; simp only [Nat.add_zero, Nat.add_assoc]; omega)⟩ rfl (Nat.le_of_ble_eq_true rfl) dL_law_1398 (pc' := 1401) rfl ?_
  refine x_icmp_eq B 1727 1404 dL_law_1401 (by decide) rfl (fun _ => ?_) (fun hc => absurd rfl hc)
  refine x_widen (k' := k + 4) (n' := n + 24) (by first | exact Nat.le_refl _ | (show _ ≤ _; simp only [Nat.add_zero, Nat.add_assoc]; omega)) (by first | exact Nat.le_refl _ | (show _ ≤ _; simp only [Nat.add_zero, Nat.add_assoc]; omega)) ?_
  exact kk
set_option maxHeartbeats 4000000 in
set_option maxRecDepth 100000 in
/-- case 29: lossOf -/
theorem lc_29 {Γ : Ctx} (hst : Γ.l.stackTraces = false) (B : CX Γ cL_law 9 RL room_1) (Z : CZ Γ) {b0 L : Nat} {xs : Nat → Int32} (C : SCR Γ b0 L xs) (hL : L ≤ 2048) {a : Nat → Nat → Nat} {b : Nat} {am : Nat → Nat} {S : BO} {ob : Nat → Int64} {M : MO} {i k n : Nat} (hi : i + 4 ≤ L) (hk : k ≤ 600000) (hn : n ≤ 7000000) {r9 rm : Int32} {S9 : BO} {ob9 : Nat → Int64} {M9 : MO} (hf : f_L_lossOf (xs (i + 1)) (xs (i + 2)) S ob = some (r9, S9, ob9)) (hm : f_X3_lossOf (xs (i + 1)) (xs (i + 2)) M = some (rm, M9)) (hth : M9.1 0 = r9) (hv : r9 = 0 → ob9 0 = Int32.toInt64 rm) (kk : X Γ 9 (k + 4) (n + 24) 1727 [(0, .ref b0), (1, .ref (a 0 0)), (2, .ref (am 0)), (3, .ref b), (4, .int (nI i))] [] (wLw Γ.cs a b am S9 ob9 M9)) : X Γ 9 k n 1406 [(0, .ref b0), (1, .ref (a 0 0)), (2, .ref (am 0)), (3, .ref b), (4, .int (nI i))] [] (wLw Γ.cs a b am S ob M) := by
  refine x_aload_n B (pc' := 1407) 1 dL_law_1406 rfl rfl rfl ?_
  refine x_aload_n B (pc' := 1408) 0 dL_law_1407 rfl rfl rfl ?_
  refine x_iload B (pc' := 1410) 4 dL_law_1408 rfl rfl ?_
  refine x_iconst B (pc' := 1411) 1 dL_law_1410 (by decide) rfl ?_
  refine x_iadd B (pc' := 1412) dL_law_1411 rfl ?_
  refine x_sld B C (i + 1) (nI_add i 1) (by omega) hL dL_law_1412 (pc' := 1413) rfl ?_
  refine x_aload_n B (pc' := 1414) 0 dL_law_1413 rfl rfl rfl ?_
  refine x_iload B (pc' := 1416) 4 dL_law_1414 rfl rfl ?_
  refine x_iconst B (pc' := 1417) 2 dL_law_1416 (by decide) rfl ?_
  refine x_iadd B (pc' := 1418) dL_law_1417 rfl ?_
  refine x_sld B C (i + 2) (nI_add i 2) (by omega) hL dL_law_1418 (pc' := 1419) rfl ?_
  refine x_aload_n B (pc' := 1420) 3 dL_law_1419 rfl rfl rfl ?_
  refine l_wrap B Z [.ref (a 0 0), .int (xs (i + 1)), .int (xs (i + 2)), .ref b] (k_L_lossOf _ hst _ _ a b (xs (i + 1)) (xs (i + 2)) S ob hf) gl_201 np_L_lossOf ⟨Nat.le_of_ble_eq_true rfl, Nat.le_of_ble_eq_true rfl⟩ ⟨(by show _ ≤ 601024; simp only [Nat.add_zero, Nat.add_assoc]; omega), (by show _ ≤ 7293034; simp only [Nat.add_zero, Nat.add_assoc]; omega)⟩ rfl (Nat.le_of_ble_eq_true rfl) dL_law_1420 (pc' := 1423) rfl ?_
  refine x_istore B (pc' := 1425) [1, 2, 3, 4, 5, 0] [(0, .ref b0), (1, .ref (a 0 0)), (2, .ref (am 0)), (3, .ref b), (4, .int (nI i)), (5, .int r9)] dL_law_1423 (by decide) rfl rfl ?_
  refine x_aload_n B (pc' := 1426) 2 dL_law_1425 rfl rfl rfl ?_
  refine x_aload_n B (pc' := 1427) 0 dL_law_1426 rfl rfl rfl ?_
  refine x_iload B (pc' := 1429) 4 dL_law_1427 rfl rfl ?_
  refine x_iconst B (pc' := 1430) 1 dL_law_1429 (by decide) rfl ?_
  refine x_iadd B (pc' := 1431) dL_law_1430 rfl ?_
  refine x_sld B C (i + 1) (nI_add i 1) (by omega) hL dL_law_1431 (pc' := 1432) rfl ?_
  refine x_aload_n B (pc' := 1433) 0 dL_law_1432 rfl rfl rfl ?_
  refine x_iload B (pc' := 1435) 4 dL_law_1433 rfl rfl ?_
  refine x_iconst B (pc' := 1436) 2 dL_law_1435 (by decide) rfl ?_
  refine x_iadd B (pc' := 1437) dL_law_1436 rfl ?_
  refine x_sld B C (i + 2) (nI_add i 2) (by omega) hL dL_law_1437 (pc' := 1438) rfl ?_
  refine l_modi B [.int (xs (i + 1)), .int (xs (i + 2))] (k_X3_lossOf _ _ _ am (xs (i + 1)) (xs (i + 2)) M hm) gl_203 rfl np_X3_lossOf ⟨Nat.le_of_ble_eq_true rfl, Nat.le_of_ble_eq_true rfl⟩ ⟨(by show _ ≤ 601024; simp only [Nat.add_zero, Nat.add_assoc]; omega), (by show _ ≤ 7293034; simp only [Nat.add_zero, Nat.add_assoc]; omega)⟩ rfl (Nat.le_of_ble_eq_true rfl) dL_law_1438 (pc' := 1441) rfl ?_
  refine x_istore B (pc' := 1443) [1, 2, 3, 4, 5, 6, 0] [(0, .ref b0), (1, .ref (a 0 0)), (2, .ref (am 0)), (3, .ref b), (4, .int (nI i)), (5, .int r9), (6, .int rm)] dL_law_1441 (by decide) rfl rfl ?_
  refine x_aload_n B (pc' := 1444) 2 dL_law_1443 rfl rfl rfl ?_
  refine l_modi B [] (k_X3_thrown _ _ _ am M9 rfl) gl_97 rfl np_X3_thrown ⟨Nat.le_of_ble_eq_true rfl, Nat.le_of_ble_eq_true rfl⟩ ⟨(by show _ ≤ 601024; simp only [Nat.add_zero, Nat.add_assoc]; omega), (by show _ ≤ 7293034; simp only [Nat.add_zero, Nat.add_assoc]; omega)⟩ rfl (Nat.le_of_ble_eq_true rfl) dL_law_1444 (pc' := 1447) rfl ?_
  refine x_iload B (pc' := 1449) 5 dL_law_1447 rfl rfl ?_
  refine x_icmp_eq B 1454 1452 dL_law_1449 (by decide) rfl (fun _ => ?_) (fun hc => absurd hth hc)
  refine x_iload B (pc' := 1456) 5 dL_law_1454 rfl rfl ?_
  refine x_if_ne B 1471 1459 dL_law_1456 (by decide) rfl (fun hc => ?_) (fun hc => ?_)
  · refine x_goto B (pc' := 1727) dL_law_1471 (by decide) ?_
    refine x_lv [0, 1, 2, 3, 4] (lv' := [(0, .ref b0), (1, .ref (a 0 0)), (2, .ref (am 0)), (3, .ref b), (4, .int (nI i))]) rfl ?_
    refine x_widen (k' := k + 4) (n' := n + 24) (by first | exact Nat.le_refl _ | (show _ ≤ _; simp only [Nat.add_zero, Nat.add_assoc]; omega)) (by first | exact Nat.le_refl _ | (show _ ≤ _; simp only [Nat.add_zero, Nat.add_assoc]; omega)) ?_
    exact kk
  · refine x_aload_n B (pc' := 1460) 3 dL_law_1459 rfl rfl rfl ?_
    refine x_iconst B (pc' := 1461) 0 dL_law_1460 (by decide) rfl ?_
    refine l_out B (pc' := 1462) dL_law_1461 rfl ?_
    refine x_iload B (pc' := 1464) 6 dL_law_1462 rfl rfl ?_
    refine x_i2l B (pc' := 1465) dL_law_1464 rfl ?_
    refine x_lcmp0 B (pc' := 1466) (hv hc) dL_law_1465 rfl ?_
    refine x_if_eq B 1471 1469 dL_law_1466 (by decide) rfl (fun _ => ?_) (fun hc => absurd rfl hc)
    refine x_goto B (pc' := 1727) dL_law_1471 (by decide) ?_
    refine x_lv [0, 1, 2, 3, 4] (lv' := [(0, .ref b0), (1, .ref (a 0 0)), (2, .ref (am 0)), (3, .ref b), (4, .int (nI i))]) rfl ?_
    refine x_widen (k' := k + 4) (n' := n + 24) (by first | exact Nat.le_refl _ | (show _ ≤ _; simp only [Nat.add_zero, Nat.add_assoc]; omega)) (by first | exact Nat.le_refl _ | (show _ ≤ _; simp only [Nat.add_zero, Nat.add_assoc]; omega)) ?_
    exact kk
set_option maxHeartbeats 4000000 in
set_option maxRecDepth 100000 in
/-- case 30: goneAfter -/
theorem lc_30 {Γ : Ctx} (hst : Γ.l.stackTraces = false) (B : CX Γ cL_law 9 RL room_1) (Z : CZ Γ) {b0 L : Nat} {xs : Nat → Int32} (C : SCR Γ b0 L xs) (hL : L ≤ 2048) {a : Nat → Nat → Nat} {b : Nat} {am : Nat → Nat} {S : BO} {ob : Nat → Int64} {M : MO} {i k n : Nat} (hi : i + 4 ≤ L) (hk : k ≤ 600000) (hn : n ≤ 7000000) {r9 rm : Int32} {S9 : BO} {ob9 : Nat → Int64} {M9 : MO} (hf : f_L_goneAfter (xs (i + 1)) S ob = some (r9, S9, ob9)) (hm : f_X3_goneAfter (xs (i + 1)) M = some (rm, M9)) (hth : M9.1 0 = r9) (hv : r9 = 0 → ob9 0 = Int32.toInt64 rm) (kk : X Γ 9 (k + 4) (n + 24) 1727 [(0, .ref b0), (1, .ref (a 0 0)), (2, .ref (am 0)), (3, .ref b), (4, .int (nI i))] [] (wLw Γ.cs a b am S9 ob9 M9)) : X Γ 9 k n 1474 [(0, .ref b0), (1, .ref (a 0 0)), (2, .ref (am 0)), (3, .ref b), (4, .int (nI i))] [] (wLw Γ.cs a b am S ob M) := by
  refine x_aload_n B (pc' := 1475) 1 dL_law_1474 rfl rfl rfl ?_
  refine x_aload_n B (pc' := 1476) 0 dL_law_1475 rfl rfl rfl ?_
  refine x_iload B (pc' := 1478) 4 dL_law_1476 rfl rfl ?_
  refine x_iconst B (pc' := 1479) 1 dL_law_1478 (by decide) rfl ?_
  refine x_iadd B (pc' := 1480) dL_law_1479 rfl ?_
  refine x_sld B C (i + 1) (nI_add i 1) (by omega) hL dL_law_1480 (pc' := 1481) rfl ?_
  refine x_aload_n B (pc' := 1482) 3 dL_law_1481 rfl rfl rfl ?_
  refine l_wrap B Z [.ref (a 0 0), .int (xs (i + 1)), .ref b] (k_L_goneAfter _ hst _ _ a b (xs (i + 1)) S ob hf) gl_204 np_L_goneAfter ⟨Nat.le_of_ble_eq_true rfl, Nat.le_of_ble_eq_true rfl⟩ ⟨(by show _ ≤ 601024; simp only [Nat.add_zero, Nat.add_assoc]; omega), (by show _ ≤ 7293034; simp only [Nat.add_zero, Nat.add_assoc]; omega)⟩ rfl (Nat.le_of_ble_eq_true rfl) dL_law_1482 (pc' := 1485) rfl ?_
  refine x_istore B (pc' := 1487) [1, 2, 3, 4, 5, 0] [(0, .ref b0), (1, .ref (a 0 0)), (2, .ref (am 0)), (3, .ref b), (4, .int (nI i)), (5, .int r9)] dL_law_1485 (by decide) rfl rfl ?_
  refine x_aload_n B (pc' := 1488) 2 dL_law_1487 rfl rfl rfl ?_
  refine x_aload_n B (pc' := 1489) 0 dL_law_1488 rfl rfl rfl ?_
  refine x_iload B (pc' := 1491) 4 dL_law_1489 rfl rfl ?_
  refine x_iconst B (pc' := 1492) 1 dL_law_1491 (by decide) rfl ?_
  refine x_iadd B (pc' := 1493) dL_law_1492 rfl ?_
  refine x_sld B C (i + 1) (nI_add i 1) (by omega) hL dL_law_1493 (pc' := 1494) rfl ?_
  refine l_modi B [.int (xs (i + 1))] (k_X3_goneAfter _ _ _ am (xs (i + 1)) M hm) gl_206 rfl np_X3_goneAfter ⟨Nat.le_of_ble_eq_true rfl, Nat.le_of_ble_eq_true rfl⟩ ⟨(by show _ ≤ 601024; simp only [Nat.add_zero, Nat.add_assoc]; omega), (by show _ ≤ 7293034; simp only [Nat.add_zero, Nat.add_assoc]; omega)⟩ rfl (Nat.le_of_ble_eq_true rfl) dL_law_1494 (pc' := 1497) rfl ?_
  refine x_istore B (pc' := 1499) [1, 2, 3, 4, 5, 6, 0] [(0, .ref b0), (1, .ref (a 0 0)), (2, .ref (am 0)), (3, .ref b), (4, .int (nI i)), (5, .int r9), (6, .int rm)] dL_law_1497 (by decide) rfl rfl ?_
  refine x_aload_n B (pc' := 1500) 2 dL_law_1499 rfl rfl rfl ?_
  refine l_modi B [] (k_X3_thrown _ _ _ am M9 rfl) gl_97 rfl np_X3_thrown ⟨Nat.le_of_ble_eq_true rfl, Nat.le_of_ble_eq_true rfl⟩ ⟨(by show _ ≤ 601024; simp only [Nat.add_zero, Nat.add_assoc]; omega), (by show _ ≤ 7293034; simp only [Nat.add_zero, Nat.add_assoc]; omega)⟩ rfl (Nat.le_of_ble_eq_true rfl) dL_law_1500 (pc' := 1503) rfl ?_
  refine x_iload B (pc' := 1505) 5 dL_law_1503 rfl rfl ?_
  refine x_icmp_eq B 1510 1508 dL_law_1505 (by decide) rfl (fun _ => ?_) (fun hc => absurd hth hc)
  refine x_iload B (pc' := 1512) 5 dL_law_1510 rfl rfl ?_
  refine x_if_ne B 1527 1515 dL_law_1512 (by decide) rfl (fun hc => ?_) (fun hc => ?_)
  · refine x_goto B (pc' := 1727) dL_law_1527 (by decide) ?_
    refine x_lv [0, 1, 2, 3, 4] (lv' := [(0, .ref b0), (1, .ref (a 0 0)), (2, .ref (am 0)), (3, .ref b), (4, .int (nI i))]) rfl ?_
    refine x_widen (k' := k + 4) (n' := n + 24) (by first | exact Nat.le_refl _ | (show _ ≤ _; simp only [Nat.add_zero, Nat.add_assoc]; omega)) (by first | exact Nat.le_refl _ | (show _ ≤ _; simp only [Nat.add_zero, Nat.add_assoc]; omega)) ?_
    exact kk
  · refine x_aload_n B (pc' := 1516) 3 dL_law_1515 rfl rfl rfl ?_
    refine x_iconst B (pc' := 1517) 0 dL_law_1516 (by decide) rfl ?_
    refine l_out B (pc' := 1518) dL_law_1517 rfl ?_
    refine x_iload B (pc' := 1520) 6 dL_law_1518 rfl rfl ?_
    refine x_i2l B (pc' := 1521) dL_law_1520 rfl ?_
    refine x_lcmp0 B (pc' := 1522) (hv hc) dL_law_1521 rfl ?_
    refine x_if_eq B 1527 1525 dL_law_1522 (by decide) rfl (fun _ => ?_) (fun hc => absurd rfl hc)
    refine x_goto B (pc' := 1727) dL_law_1527 (by decide) ?_
    refine x_lv [0, 1, 2, 3, 4] (lv' := [(0, .ref b0), (1, .ref (a 0 0)), (2, .ref (am 0)), (3, .ref b), (4, .int (nI i))]) rfl ?_
    refine x_widen (k' := k + 4) (n' := n + 24) (by first | exact Nat.le_refl _ | (show _ ≤ _; simp only [Nat.add_zero, Nat.add_assoc]; omega)) (by first | exact Nat.le_refl _ | (show _ ≤ _; simp only [Nat.add_zero, Nat.add_assoc]; omega)) ?_
    exact kk
set_option maxHeartbeats 4000000 in
set_option maxRecDepth 100000 in
/-- case 31: append -/
theorem lc_31 {Γ : Ctx} (hst : Γ.l.stackTraces = false) (B : CX Γ cL_law 9 RL room_1) (Z : CZ Γ) {b0 L : Nat} {xs : Nat → Int32} (C : SCR Γ b0 L xs) (hL : L ≤ 2048) {a : Nat → Nat → Nat} {b : Nat} {am : Nat → Nat} {S : BO} {ob : Nat → Int64} {M : MO} {i k n : Nat} (hi : i + 4 ≤ L) (hk : k ≤ 600000) (hn : n ≤ 7000000) {r9 rm : Int32} {S9 : BO} {ob9 : Nat → Int64} {M9 : MO} (hf : f_L_append (xs (i + 1)) S ob = some (r9, S9, ob9)) (hm : f_X3_append (xs (i + 1)) M = some (rm, M9)) (hth : M9.1 0 = r9) (hv : r9 = 0 → ob9 0 = Int32.toInt64 rm) (kk : X Γ 9 (k + 4) (n + 24) 1727 [(0, .ref b0), (1, .ref (a 0 0)), (2, .ref (am 0)), (3, .ref b), (4, .int (nI i))] [] (wLw Γ.cs a b am S9 ob9 M9)) : X Γ 9 k n 1530 [(0, .ref b0), (1, .ref (a 0 0)), (2, .ref (am 0)), (3, .ref b), (4, .int (nI i))] [] (wLw Γ.cs a b am S ob M) := by
  refine x_aload_n B (pc' := 1531) 1 dL_law_1530 rfl rfl rfl ?_
  refine x_aload_n B (pc' := 1532) 0 dL_law_1531 rfl rfl rfl ?_
  refine x_iload B (pc' := 1534) 4 dL_law_1532 rfl rfl ?_
  refine x_iconst B (pc' := 1535) 1 dL_law_1534 (by decide) rfl ?_
  refine x_iadd B (pc' := 1536) dL_law_1535 rfl ?_
  refine x_sld B C (i + 1) (nI_add i 1) (by omega) hL dL_law_1536 (pc' := 1537) rfl ?_
  refine x_aload_n B (pc' := 1538) 3 dL_law_1537 rfl rfl rfl ?_
  refine l_wrap B Z [.ref (a 0 0), .int (xs (i + 1)), .ref b] (k_L_append _ hst _ _ a b (xs (i + 1)) S ob hf) gl_207 np_L_append ⟨Nat.le_of_ble_eq_true rfl, Nat.le_of_ble_eq_true rfl⟩ ⟨(by show _ ≤ 601024; simp only [Nat.add_zero, Nat.add_assoc]; omega), (by show _ ≤ 7293034; simp only [Nat.add_zero, Nat.add_assoc]; omega)⟩ rfl (Nat.le_of_ble_eq_true rfl) dL_law_1538 (pc' := 1541) rfl ?_
  refine x_istore B (pc' := 1543) [1, 2, 3, 4, 5, 0] [(0, .ref b0), (1, .ref (a 0 0)), (2, .ref (am 0)), (3, .ref b), (4, .int (nI i)), (5, .int r9)] dL_law_1541 (by decide) rfl rfl ?_
  refine x_aload_n B (pc' := 1544) 2 dL_law_1543 rfl rfl rfl ?_
  refine x_aload_n B (pc' := 1545) 0 dL_law_1544 rfl rfl rfl ?_
  refine x_iload B (pc' := 1547) 4 dL_law_1545 rfl rfl ?_
  refine x_iconst B (pc' := 1548) 1 dL_law_1547 (by decide) rfl ?_
  refine x_iadd B (pc' := 1549) dL_law_1548 rfl ?_
  refine x_sld B C (i + 1) (nI_add i 1) (by omega) hL dL_law_1549 (pc' := 1550) rfl ?_
  refine l_modi B [.int (xs (i + 1))] (k_X3_append _ _ _ am (xs (i + 1)) M hm) gl_209 rfl np_X3_append ⟨Nat.le_of_ble_eq_true rfl, Nat.le_of_ble_eq_true rfl⟩ ⟨(by show _ ≤ 601024; simp only [Nat.add_zero, Nat.add_assoc]; omega), (by show _ ≤ 7293034; simp only [Nat.add_zero, Nat.add_assoc]; omega)⟩ rfl (Nat.le_of_ble_eq_true rfl) dL_law_1550 (pc' := 1553) rfl ?_
  refine x_istore B (pc' := 1555) [1, 2, 3, 4, 5, 6, 0] [(0, .ref b0), (1, .ref (a 0 0)), (2, .ref (am 0)), (3, .ref b), (4, .int (nI i)), (5, .int r9), (6, .int rm)] dL_law_1553 (by decide) rfl rfl ?_
  refine x_aload_n B (pc' := 1556) 2 dL_law_1555 rfl rfl rfl ?_
  refine l_modi B [] (k_X3_thrown _ _ _ am M9 rfl) gl_97 rfl np_X3_thrown ⟨Nat.le_of_ble_eq_true rfl, Nat.le_of_ble_eq_true rfl⟩ ⟨(by show _ ≤ 601024; simp only [Nat.add_zero, Nat.add_assoc]; omega), (by show _ ≤ 7293034; simp only [Nat.add_zero, Nat.add_assoc]; omega)⟩ rfl (Nat.le_of_ble_eq_true rfl) dL_law_1556 (pc' := 1559) rfl ?_
  refine x_iload B (pc' := 1561) 5 dL_law_1559 rfl rfl ?_
  refine x_icmp_eq B 1566 1564 dL_law_1561 (by decide) rfl (fun _ => ?_) (fun hc => absurd hth hc)
  refine x_iload B (pc' := 1568) 5 dL_law_1566 rfl rfl ?_
  refine x_if_ne B 1583 1571 dL_law_1568 (by decide) rfl (fun hc => ?_) (fun hc => ?_)
  · refine x_goto B (pc' := 1727) dL_law_1583 (by decide) ?_
    refine x_lv [0, 1, 2, 3, 4] (lv' := [(0, .ref b0), (1, .ref (a 0 0)), (2, .ref (am 0)), (3, .ref b), (4, .int (nI i))]) rfl ?_
    refine x_widen (k' := k + 4) (n' := n + 24) (by first | exact Nat.le_refl _ | (show _ ≤ _; simp only [Nat.add_zero, Nat.add_assoc]; omega)) (by first | exact Nat.le_refl _ | (show _ ≤ _; simp only [Nat.add_zero, Nat.add_assoc]; omega)) ?_
    exact kk
  · refine x_aload_n B (pc' := 1572) 3 dL_law_1571 rfl rfl rfl ?_
    refine x_iconst B (pc' := 1573) 0 dL_law_1572 (by decide) rfl ?_
    refine l_out B (pc' := 1574) dL_law_1573 rfl ?_
    refine x_iload B (pc' := 1576) 6 dL_law_1574 rfl rfl ?_
    refine x_i2l B (pc' := 1577) dL_law_1576 rfl ?_
    refine x_lcmp0 B (pc' := 1578) (hv hc) dL_law_1577 rfl ?_
    refine x_if_eq B 1583 1581 dL_law_1578 (by decide) rfl (fun _ => ?_) (fun hc => absurd rfl hc)
    refine x_goto B (pc' := 1727) dL_law_1583 (by decide) ?_
    refine x_lv [0, 1, 2, 3, 4] (lv' := [(0, .ref b0), (1, .ref (a 0 0)), (2, .ref (am 0)), (3, .ref b), (4, .int (nI i))]) rfl ?_
    refine x_widen (k' := k + 4) (n' := n + 24) (by first | exact Nat.le_refl _ | (show _ ≤ _; simp only [Nat.add_zero, Nat.add_assoc]; omega)) (by first | exact Nat.le_refl _ | (show _ ≤ _; simp only [Nat.add_zero, Nat.add_assoc]; omega)) ?_
    exact kk
set_option maxHeartbeats 4000000 in
set_option maxRecDepth 100000 in
/-- case 32: clearText -/
theorem lc_32 {Γ : Ctx} (hst : Γ.l.stackTraces = false) (B : CX Γ cL_law 9 RL room_1) (Z : CZ Γ) {b0 L : Nat} {xs : Nat → Int32} (C : SCR Γ b0 L xs) (hL : L ≤ 2048) {a : Nat → Nat → Nat} {b : Nat} {am : Nat → Nat} {S : BO} {ob : Nat → Int64} {M : MO} {i k n : Nat} (hi : i + 4 ≤ L) (hk : k ≤ 600000) (hn : n ≤ 7000000) {r9 : Int32} {S9 : BO} {M9 : MO} (hf : f_X2_clearText S = some (r9, S9)) (hm : f_X3_clearText M = some (r9, M9)) (kk : X Γ 9 (k + 4) (n + 24) 1727 [(0, .ref b0), (1, .ref (a 0 0)), (2, .ref (am 0)), (3, .ref b), (4, .int (nI i))] [] (wLw Γ.cs a b am S9 ob M9)) : X Γ 9 k n 1586 [(0, .ref b0), (1, .ref (a 0 0)), (2, .ref (am 0)), (3, .ref b), (4, .int (nI i))] [] (wLw Γ.cs a b am S ob M) := by
  refine x_aload_n B (pc' := 1587) 1 dL_law_1586 rfl rfl rfl ?_
  refine l_beli B [] (k_X2_clearText _ _ _ a S hf) gl_210 rfl np_X2_clearText ⟨Nat.le_of_ble_eq_true rfl, Nat.le_of_ble_eq_true rfl⟩ ⟨(by show _ ≤ 601024; simp only [Nat.add_zero, Nat.add_assoc]; omega), (by show _ ≤ 7293034; simp only [Nat.add_zero, Nat.add_assoc]; omega)⟩ rfl (Nat.le_of_ble_eq_true rfl) dL_law_1587 (pc' := 1590) rfl ?_
  refine x_aload_n B (pc' := 1591) 2 dL_law_1590 rfl rfl rfl ?_
  refine l_modi B [] (k_X3_clearText _ _ _ am M hm) gl_213 rfl np_X3_clearText ⟨Nat.le_of_ble_eq_true rfl, Nat.le_of_ble_eq_true rfl⟩ ⟨(by show _ ≤ 601024; simp only [Nat.add_zero, Nat.add_assoc]; omega), (by show _ ≤ 7293034; simp only [Nat.add_zero, Nat.add_assoc]; omega)⟩ rfl (Nat.le_of_ble_eq_true rfl) dL_law_1591 (pc' := 1594) rfl ?_
  refine x_icmp_eq B 1727 1597 dL_law_1594 (by decide) rfl (fun _ => ?_) (fun hc => absurd rfl hc)
  refine x_widen (k' := k + 4) (n' := n + 24) (by first | exact Nat.le_refl _ | (show _ ≤ _; simp only [Nat.add_zero, Nat.add_assoc]; omega)) (by first | exact Nat.le_refl _ | (show _ ≤ _; simp only [Nat.add_zero, Nat.add_assoc]; omega)) ?_
  exact kk
set_option maxHeartbeats 4000000 in
set_option maxRecDepth 100000 in
/-- case 33: firstError -/
theorem lc_33 {Γ : Ctx} (hst : Γ.l.stackTraces = false) (B : CX Γ cL_law 9 RL room_1) (Z : CZ Γ) {b0 L : Nat} {xs : Nat → Int32} (C : SCR Γ b0 L xs) (hL : L ≤ 2048) {a : Nat → Nat → Nat} {b : Nat} {am : Nat → Nat} {S : BO} {ob : Nat → Int64} {M : MO} {i k n : Nat} (hi : i + 4 ≤ L) (hk : k ≤ 600000) (hn : n ≤ 7000000) {r9 : Int32} {M9 : MO} (hf : f_X2_firstError S = some r9) (hm : f_X3_firstError M = some (r9, M9)) (kk : X Γ 9 (k + 4) (n + 24) 1727 [(0, .ref b0), (1, .ref (a 0 0)), (2, .ref (am 0)), (3, .ref b), (4, .int (nI i))] [] (wLw Γ.cs a b am S ob M9)) : X Γ 9 k n 1599 [(0, .ref b0), (1, .ref (a 0 0)), (2, .ref (am 0)), (3, .ref b), (4, .int (nI i))] [] (wLw Γ.cs a b am S ob M) := by
  refine x_aload_n B (pc' := 1600) 1 dL_law_1599 rfl rfl rfl ?_
  refine l_beli B [] (k_X2_firstError _ _ _ a S hf) gl_214 rfl np_X2_firstError ⟨Nat.le_of_ble_eq_true rfl, Nat.le_of_ble_eq_true rfl⟩ ⟨(by show _ ≤ 601024; simp only [Nat.add_zero, Nat.add_assoc]; omega), (by show _ ≤ 7293034; simp only [Nat.add_zero, Nat.add_assoc]; omega)⟩ rfl (Nat.le_of_ble_eq_true rfl) dL_law_1600 (pc' := 1603) rfl ?_
  refine x_aload_n B (pc' := 1604) 2 dL_law_1603 rfl rfl rfl ?_
  refine l_modi B [] (k_X3_firstError _ _ _ am M hm) gl_217 rfl np_X3_firstError ⟨Nat.le_of_ble_eq_true rfl, Nat.le_of_ble_eq_true rfl⟩ ⟨(by show _ ≤ 601024; simp only [Nat.add_zero, Nat.add_assoc]; omega), (by show _ ≤ 7293034; simp only [Nat.add_zero, Nat.add_assoc]; omega)⟩ rfl (Nat.le_of_ble_eq_true rfl) dL_law_1604 (pc' := 1607) rfl ?_
  refine x_icmp_eq B 1727 1610 dL_law_1607 (by decide) rfl (fun _ => ?_) (fun hc => absurd rfl hc)
  refine x_widen (k' := k + 4) (n' := n + 24) (by first | exact Nat.le_refl _ | (show _ ≤ _; simp only [Nat.add_zero, Nat.add_assoc]; omega)) (by first | exact Nat.le_refl _ | (show _ ≤ _; simp only [Nat.add_zero, Nat.add_assoc]; omega)) ?_
  exact kk
set_option maxHeartbeats 4000000 in
set_option maxRecDepth 100000 in
/-- case 34: run -/
theorem lc_34 {Γ : Ctx} (hst : Γ.l.stackTraces = false) (B : CX Γ cL_law 9 RL room_1) (Z : CZ Γ) {b0 L : Nat} {xs : Nat → Int32} (C : SCR Γ b0 L xs) (hL : L ≤ 2048) {a : Nat → Nat → Nat} {b : Nat} {am : Nat → Nat} {S : BO} {ob : Nat → Int64} {M : MO} {i k n : Nat} (hi : i + 4 ≤ L) (hk : k ≤ 600000) (hn : n ≤ 7000000) {r9 rm : Int32} {S9 : BO} {ob9 : Nat → Int64} {M9 : MO} (hf : f_L_run S ob = some (r9, S9, ob9)) (hm : f_X3_run M = some (rm, M9)) (hth : M9.1 0 = r9) (hv : r9 = 0 → ob9 0 = Int32.toInt64 rm) (kk : X Γ 9 (k + 4) (n + 24) 1727 [(0, .ref b0), (1, .ref (a 0 0)), (2, .ref (am 0)), (3, .ref b), (4, .int (nI i))] [] (wLw Γ.cs a b am S9 ob9 M9)) : X Γ 9 k n 1612 [(0, .ref b0), (1, .ref (a 0 0)), (2, .ref (am 0)), (3, .ref b), (4, .int (nI i))] [] (wLw Γ.cs a b am S ob M) := by
  refine x_aload_n B (pc' := 1613) 1 dL_law_1612 rfl rfl rfl ?_
  refine x_aload_n B (pc' := 1614) 3 dL_law_1613 rfl rfl rfl ?_
  refine l_wrap B Z [.ref (a 0 0), .ref b] (k_L_run _ hst _ _ a b S ob hf) gl_218 np_L_run ⟨Nat.le_of_ble_eq_true rfl, Nat.le_of_ble_eq_true rfl⟩ ⟨(by show _ ≤ 601024; simp only [Nat.add_zero, Nat.add_assoc]; omega), (by show _ ≤ 7293034; simp only [Nat.add_zero, Nat.add_assoc]; omega)⟩ rfl (Nat.le_of_ble_eq_true rfl) dL_law_1614 (pc' := 1617) rfl ?_
  refine x_istore B (pc' := 1619) [1, 2, 3, 4, 5, 0] [(0, .ref b0), (1, .ref (a 0 0)), (2, .ref (am 0)), (3, .ref b), (4, .int (nI i)), (5, .int r9)] dL_law_1617 (by decide) rfl rfl ?_
  refine x_aload_n B (pc' := 1620) 2 dL_law_1619 rfl rfl rfl ?_
  refine l_modi B [] (k_X3_run _ _ _ am M hm) gl_220 rfl np_X3_run ⟨Nat.le_of_ble_eq_true rfl, Nat.le_of_ble_eq_true rfl⟩ ⟨(by show _ ≤ 601024; simp only [Nat.add_zero, Nat.add_assoc]; omega), (by show _ ≤ 7293034; simp only [Nat.add_zero, Nat.add_assoc]; omega)⟩ rfl (Nat.le_of_ble_eq_true rfl) dL_law_1620 (pc' := 1623) rfl ?_
  refine x_istore B (pc' := 1625) [1, 2, 3, 4, 5, 6, 0] [(0, .ref b0), (1, .ref (a 0 0)), (2, .ref (am 0)), (3, .ref b), (4, .int (nI i)), (5, .int r9), (6, .int rm)] dL_law_1623 (by decide) rfl rfl ?_
  refine x_aload_n B (pc' := 1626) 2 dL_law_1625 rfl rfl rfl ?_
  refine l_modi B [] (k_X3_thrown _ _ _ am M9 rfl) gl_97 rfl np_X3_thrown ⟨Nat.le_of_ble_eq_true rfl, Nat.le_of_ble_eq_true rfl⟩ ⟨(by show _ ≤ 601024; simp only [Nat.add_zero, Nat.add_assoc]; omega), (by show _ ≤ 7293034; simp only [Nat.add_zero, Nat.add_assoc]; omega)⟩ rfl (Nat.le_of_ble_eq_true rfl) dL_law_1626 (pc' := 1629) rfl ?_
  refine x_iload B (pc' := 1631) 5 dL_law_1629 rfl rfl ?_
  refine x_icmp_eq B 1636 1634 dL_law_1631 (by decide) rfl (fun _ => ?_) (fun hc => absurd hth hc)
  refine x_iload B (pc' := 1638) 5 dL_law_1636 rfl rfl ?_
  refine x_if_ne B 1653 1641 dL_law_1638 (by decide) rfl (fun hc => ?_) (fun hc => ?_)
  · refine x_goto B (pc' := 1727) dL_law_1653 (by decide) ?_
    refine x_lv [0, 1, 2, 3, 4] (lv' := [(0, .ref b0), (1, .ref (a 0 0)), (2, .ref (am 0)), (3, .ref b), (4, .int (nI i))]) rfl ?_
    refine x_widen (k' := k + 4) (n' := n + 24) (by first | exact Nat.le_refl _ | (show _ ≤ _; simp only [Nat.add_zero, Nat.add_assoc]; omega)) (by first | exact Nat.le_refl _ | (show _ ≤ _; simp only [Nat.add_zero, Nat.add_assoc]; omega)) ?_
    exact kk
  · refine x_aload_n B (pc' := 1642) 3 dL_law_1641 rfl rfl rfl ?_
    refine x_iconst B (pc' := 1643) 0 dL_law_1642 (by decide) rfl ?_
    refine l_out B (pc' := 1644) dL_law_1643 rfl ?_
    refine x_iload B (pc' := 1646) 6 dL_law_1644 rfl rfl ?_
    refine x_i2l B (pc' := 1647) dL_law_1646 rfl ?_
    refine x_lcmp0 B (pc' := 1648) (hv hc) dL_law_1647 rfl ?_
    refine x_if_eq B 1653 1651 dL_law_1648 (by decide) rfl (fun _ => ?_) (fun hc => absurd rfl hc)
    refine x_goto B (pc' := 1727) dL_law_1653 (by decide) ?_
    refine x_lv [0, 1, 2, 3, 4] (lv' := [(0, .ref b0), (1, .ref (a 0 0)), (2, .ref (am 0)), (3, .ref b), (4, .int (nI i))]) rfl ?_
    refine x_widen (k' := k + 4) (n' := n + 24) (by first | exact Nat.le_refl _ | (show _ ≤ _; simp only [Nat.add_zero, Nat.add_assoc]; omega)) (by first | exact Nat.le_refl _ | (show _ ≤ _; simp only [Nat.add_zero, Nat.add_assoc]; omega)) ?_
    exact kk
set_option maxHeartbeats 4000000 in
set_option maxRecDepth 100000 in
/-- case 35: undo -/
theorem lc_35 {Γ : Ctx} (hst : Γ.l.stackTraces = false) (B : CX Γ cL_law 9 RL room_1) (Z : CZ Γ) {b0 L : Nat} {xs : Nat → Int32} (C : SCR Γ b0 L xs) (hL : L ≤ 2048) {a : Nat → Nat → Nat} {b : Nat} {am : Nat → Nat} {S : BO} {ob : Nat → Int64} {M : MO} {i k n : Nat} (hi : i + 4 ≤ L) (hk : k ≤ 600000) (hn : n ≤ 7000000) {r9 rm : Int32} {S9 : BO} {ob9 : Nat → Int64} {M9 : MO} (hf : f_L_undo S ob = some (r9, S9, ob9)) (hm : f_X3_undo M = some (rm, M9)) (hth : M9.1 0 = r9) (hv : r9 = 0 → ob9 0 = Int32.toInt64 rm) (kk : X Γ 9 (k + 4) (n + 24) 1727 [(0, .ref b0), (1, .ref (a 0 0)), (2, .ref (am 0)), (3, .ref b), (4, .int (nI i))] [] (wLw Γ.cs a b am S9 ob9 M9)) : X Γ 9 k n 1656 [(0, .ref b0), (1, .ref (a 0 0)), (2, .ref (am 0)), (3, .ref b), (4, .int (nI i))] [] (wLw Γ.cs a b am S ob M) := by
  refine x_aload_n B (pc' := 1657) 1 dL_law_1656 rfl rfl rfl ?_
  refine x_aload_n B (pc' := 1658) 3 dL_law_1657 rfl rfl rfl ?_
  refine l_wrap B Z [.ref (a 0 0), .ref b] (k_L_undo _ hst _ _ a b S ob hf) gl_221 np_L_undo ⟨Nat.le_of_ble_eq_true rfl, Nat.le_of_ble_eq_true rfl⟩ ⟨(by show _ ≤ 601024; simp only [Nat.add_zero, Nat.add_assoc]; omega), (by show _ ≤ 7293034; simp only [Nat.add_zero, Nat.add_assoc]; omega)⟩ rfl (Nat.le_of_ble_eq_true rfl) dL_law_1658 (pc' := 1661) rfl ?_
  refine x_istore B (pc' := 1663) [1, 2, 3, 4, 5, 0] [(0, .ref b0), (1, .ref (a 0 0)), (2, .ref (am 0)), (3, .ref b), (4, .int (nI i)), (5, .int r9)] dL_law_1661 (by decide) rfl rfl ?_
  refine x_aload_n B (pc' := 1664) 2 dL_law_1663 rfl rfl rfl ?_
  refine l_modi B [] (k_X3_undo _ _ _ am M hm) gl_223 rfl np_X3_undo ⟨Nat.le_of_ble_eq_true rfl, Nat.le_of_ble_eq_true rfl⟩ ⟨(by show _ ≤ 601024; simp only [Nat.add_zero, Nat.add_assoc]; omega), (by show _ ≤ 7293034; simp only [Nat.add_zero, Nat.add_assoc]; omega)⟩ rfl (Nat.le_of_ble_eq_true rfl) dL_law_1664 (pc' := 1667) rfl ?_
  refine x_istore B (pc' := 1669) [1, 2, 3, 4, 5, 6, 0] [(0, .ref b0), (1, .ref (a 0 0)), (2, .ref (am 0)), (3, .ref b), (4, .int (nI i)), (5, .int r9), (6, .int rm)] dL_law_1667 (by decide) rfl rfl ?_
  refine x_aload_n B (pc' := 1670) 2 dL_law_1669 rfl rfl rfl ?_
  refine l_modi B [] (k_X3_thrown _ _ _ am M9 rfl) gl_97 rfl np_X3_thrown ⟨Nat.le_of_ble_eq_true rfl, Nat.le_of_ble_eq_true rfl⟩ ⟨(by show _ ≤ 601024; simp only [Nat.add_zero, Nat.add_assoc]; omega), (by show _ ≤ 7293034; simp only [Nat.add_zero, Nat.add_assoc]; omega)⟩ rfl (Nat.le_of_ble_eq_true rfl) dL_law_1670 (pc' := 1673) rfl ?_
  refine x_iload B (pc' := 1675) 5 dL_law_1673 rfl rfl ?_
  refine x_icmp_eq B 1680 1678 dL_law_1675 (by decide) rfl (fun _ => ?_) (fun hc => absurd hth hc)
  refine x_iload B (pc' := 1682) 5 dL_law_1680 rfl rfl ?_
  refine x_if_ne B 1697 1685 dL_law_1682 (by decide) rfl (fun hc => ?_) (fun hc => ?_)
  · refine x_goto B (pc' := 1727) dL_law_1697 (by decide) ?_
    refine x_lv [0, 1, 2, 3, 4] (lv' := [(0, .ref b0), (1, .ref (a 0 0)), (2, .ref (am 0)), (3, .ref b), (4, .int (nI i))]) rfl ?_
    refine x_widen (k' := k + 4) (n' := n + 24) (by first | exact Nat.le_refl _ | (show _ ≤ _; simp only [Nat.add_zero, Nat.add_assoc]; omega)) (by first | exact Nat.le_refl _ | (show _ ≤ _; simp only [Nat.add_zero, Nat.add_assoc]; omega)) ?_
    exact kk
  · refine x_aload_n B (pc' := 1686) 3 dL_law_1685 rfl rfl rfl ?_
    refine x_iconst B (pc' := 1687) 0 dL_law_1686 (by decide) rfl ?_
    refine l_out B (pc' := 1688) dL_law_1687 rfl ?_
    refine x_iload B (pc' := 1690) 6 dL_law_1688 rfl rfl ?_
    refine x_i2l B (pc' := 1691) dL_law_1690 rfl ?_
    refine x_lcmp0 B (pc' := 1692) (hv hc) dL_law_1691 rfl ?_
    refine x_if_eq B 1697 1695 dL_law_1692 (by decide) rfl (fun _ => ?_) (fun hc => absurd rfl hc)
    refine x_goto B (pc' := 1727) dL_law_1697 (by decide) ?_
    refine x_lv [0, 1, 2, 3, 4] (lv' := [(0, .ref b0), (1, .ref (a 0 0)), (2, .ref (am 0)), (3, .ref b), (4, .int (nI i))]) rfl ?_
    refine x_widen (k' := k + 4) (n' := n + 24) (by first | exact Nat.le_refl _ | (show _ ≤ _; simp only [Nat.add_zero, Nat.add_assoc]; omega)) (by first | exact Nat.le_refl _ | (show _ ≤ _; simp only [Nat.add_zero, Nat.add_assoc]; omega)) ?_
    exact kk
set_option maxHeartbeats 4000000 in
set_option maxRecDepth 100000 in
/-- case 36: savedStates -/
theorem lc_36 {Γ : Ctx} (hst : Γ.l.stackTraces = false) (B : CX Γ cL_law 9 RL room_1) (Z : CZ Γ) {b0 L : Nat} {xs : Nat → Int32} (C : SCR Γ b0 L xs) (hL : L ≤ 2048) {a : Nat → Nat → Nat} {b : Nat} {am : Nat → Nat} {S : BO} {ob : Nat → Int64} {M : MO} {i k n : Nat} (hi : i + 4 ≤ L) (hk : k ≤ 600000) (hn : n ≤ 7000000) {r9 : Int32} {M9 : MO} (hf : f_X2_savedStates S = some r9) (hm : f_X3_savedStates M = some (r9, M9)) (kk : X Γ 9 (k + 4) (n + 24) 1727 [(0, .ref b0), (1, .ref (a 0 0)), (2, .ref (am 0)), (3, .ref b), (4, .int (nI i))] [] (wLw Γ.cs a b am S ob M9)) : X Γ 9 k n 1700 [(0, .ref b0), (1, .ref (a 0 0)), (2, .ref (am 0)), (3, .ref b), (4, .int (nI i))] [] (wLw Γ.cs a b am S ob M) := by
  refine x_aload_n B (pc' := 1701) 1 dL_law_1700 rfl rfl rfl ?_
  refine l_beli B [] (k_X2_savedStates _ _ _ a S hf) gl_224 rfl np_X2_savedStates ⟨Nat.le_of_ble_eq_true rfl, Nat.le_of_ble_eq_true rfl⟩ ⟨(by show _ ≤ 601024; simp only [Nat.add_zero, Nat.add_assoc]; omega), (by show _ ≤ 7293034; simp only [Nat.add_zero, Nat.add_assoc]; omega)⟩ rfl (Nat.le_of_ble_eq_true rfl) dL_law_1701 (pc' := 1704) rfl ?_
  refine x_aload_n B (pc' := 1705) 2 dL_law_1704 rfl rfl rfl ?_
  refine l_modi B [] (k_X3_savedStates _ _ _ am M hm) gl_227 rfl np_X3_savedStates ⟨Nat.le_of_ble_eq_true rfl, Nat.le_of_ble_eq_true rfl⟩ ⟨(by show _ ≤ 601024; simp only [Nat.add_zero, Nat.add_assoc]; omega), (by show _ ≤ 7293034; simp only [Nat.add_zero, Nat.add_assoc]; omega)⟩ rfl (Nat.le_of_ble_eq_true rfl) dL_law_1705 (pc' := 1708) rfl ?_
  refine x_icmp_eq B 1727 1711 dL_law_1708 (by decide) rfl (fun _ => ?_) (fun hc => absurd rfl hc)
  refine x_widen (k' := k + 4) (n' := n + 24) (by first | exact Nat.le_refl _ | (show _ ≤ _; simp only [Nat.add_zero, Nat.add_assoc]; omega)) (by first | exact Nat.le_refl _ | (show _ ≤ _; simp only [Nat.add_zero, Nat.add_assoc]; omega)) ?_
  exact kk
set_option maxHeartbeats 4000000 in
set_option maxRecDepth 100000 in
/-- case 37: digest -/
theorem lc_37 {Γ : Ctx} (hst : Γ.l.stackTraces = false) (B : CX Γ cL_law 9 RL room_1) (Z : CZ Γ) {b0 L : Nat} {xs : Nat → Int32} (C : SCR Γ b0 L xs) (hL : L ≤ 2048) {a : Nat → Nat → Nat} {b : Nat} {am : Nat → Nat} {S : BO} {ob : Nat → Int64} {M : MO} {i k n : Nat} (hi : i + 4 ≤ L) (hk : k ≤ 600000) (hn : n ≤ 7000000) {r9 : Int64} {M9 : MO} (hf : f_X2_digest S = some r9) (hm : f_X3_digest M = some (r9, M9)) (kk : X Γ 9 (k + 4) (n + 24) 1727 [(0, .ref b0), (1, .ref (a 0 0)), (2, .ref (am 0)), (3, .ref b), (4, .int (nI i))] [] (wLw Γ.cs a b am S ob M9)) : X Γ 9 k n 1713 [(0, .ref b0), (1, .ref (a 0 0)), (2, .ref (am 0)), (3, .ref b), (4, .int (nI i))] [] (wLw Γ.cs a b am S ob M) := by
  refine x_aload_n B (pc' := 1714) 1 dL_law_1713 rfl rfl rfl ?_
  refine l_bell B [] (k_X2_digest _ _ _ a S hf) gl_228 rfl np_X2_digest ⟨Nat.le_of_ble_eq_true rfl, Nat.le_of_ble_eq_true rfl⟩ ⟨(by show _ ≤ 601024; simp only [Nat.add_zero, Nat.add_assoc]; omega), (by show _ ≤ 7293034; simp only [Nat.add_zero, Nat.add_assoc]; omega)⟩ rfl (Nat.le_of_ble_eq_true rfl) dL_law_1714 (pc' := 1717) rfl ?_
  refine x_aload_n B (pc' := 1718) 2 dL_law_1717 rfl rfl rfl ?_
  refine l_modl B [] (k_X3_digest _ _ _ am M hm) gl_232 rfl np_X3_digest ⟨Nat.le_of_ble_eq_true rfl, Nat.le_of_ble_eq_true rfl⟩ ⟨(by show _ ≤ 601024; simp only [Nat.add_zero, Nat.add_assoc]; omega), (by show _ ≤ 7293034; simp only [Nat.add_zero, Nat.add_assoc]; omega)⟩ rfl (Nat.le_of_ble_eq_true rfl) dL_law_1718 (pc' := 1721) rfl ?_
  refine x_lcmp0 B (pc' := 1722) rfl dL_law_1721 rfl ?_
  refine x_if_eq B 1727 1725 dL_law_1722 (by decide) rfl (fun _ => ?_) (fun hc => absurd rfl hc)
  refine x_widen (k' := k + 4) (n' := n + 24) (by first | exact Nat.le_refl _ | (show _ ≤ _; simp only [Nat.add_zero, Nat.add_assoc]; omega)) (by first | exact Nat.le_refl _ | (show _ ≤ _; simp only [Nat.add_zero, Nat.add_assoc]; omega)) ?_
  exact kk
