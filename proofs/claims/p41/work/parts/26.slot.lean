def wC (cA : ClassId) (a b : Nat → Nat) (S T : OB) : va_W := wS cA a S ++ wS cA b T
section SLOT
variable {Γ : Ctx} {cc : ByteArray} {nL k n pc pc' : Nat} {own : String} {R0 : Room} {lv : List (Nat × Value)} {st : List Value} {ws ws' : va_W}
theorem x_ifnull (B : CX Γ cc nL own R0) {x : Nat} {off : Int} (d : decode cc pc = .ok (.ifnull off, 3)) (hp : pc + 3 = pc') (kk : X Γ nL k n pc' lv st ws) : X Γ nL k n pc lv (.ref x :: st) ws := by
  obtain ⟨p, l, e, R, s, m, args, below, meth, c, Q, A, D, cs⟩ := Γ
  subst hp
  intro H locs ls hP hD hS hl
  exact lv_ifnull B.1.1 B.1.2.1 d (kk H locs ls hP hD hS hl)
theorem x_alenR (B : CX Γ cc nL own R0) {a N : Nat} {f : Nat → Option Nat} (v : Int32) (q0 : Nat) (he : ws[q0]? = some (a, .inl (Γ.cs.2.2, N, .inr (.inr (.inr (.inr f)))))) (hv : nI N = v) (d : decode cc pc = .ok (.arraylength, 1)) (hp : pc + 1 = pc') (kk : X Γ nL k n pc' lv (.int v :: st) ws) : X Γ nL k n pc lv (.ref a :: st) ws := by
  obtain ⟨p, l, e, R, s, m, args, below, meth, c, Q, A, D, cs⟩ := Γ
  subst hp
  intro H locs ls hP hD hS hl
  exact va_alen B.1.1 B.1.2.1 B.2.1.1 hP q0 2 he rfl (by rw [← hv]; rfl) d (kk H locs ls hP hD hS hl)
theorem x_aald (B : CX Γ cc nL own R0) {a N : Nat} {f : Nat → Option Nat} {i : Int32} (q0 : Nat) (he : ws[q0]? = some (a, .inl (Γ.cs.2.2, N, .inr (.inr (.inr (.inr f)))))) (hi : vp_in i N) (d : decode cc pc = .ok (.aaload, 1)) (hp : pc + 1 = pc') (kk : X Γ nL k n pc' lv (va_rf (f i.toNatClampNeg) :: st) ws) : X Γ nL k n pc lv (.int i :: .ref a :: st) ws := by
  obtain ⟨p, l, e, R, s, m, args, below, meth, c, Q, A, D, cs⟩ := Γ
  subst hp
  intro H locs ls hP hD hS hl
  exact va_aldq B.1.1 B.1.2.1 B.2.1.1 hP q0 2 he rfl hi d (kk H locs ls hP hD hS hl)
theorem x_copy (B : CX Γ cc nL own R0) {index : Nat} (w1 : Cond.methodLink own index arraycopyName ∈ GW) (w2 : Cond.native arraycopyName ∈ GW) (w3 : Cond.static arraycopyName ∈ GW) (w4 : Cond.initialized "java/lang/System" ∈ GW) {a0 a1 n0 n1 : Nat} {f g : Nat → Int32} {z : Int32} (N q0 q1 : Nat) (he0 : ws[q0]? = some (a0, .inl (Γ.cs.1, n0, .inl f))) (he1 : ws[q1]? = some (a1, .inl (Γ.cs.1, n1, .inl g))) (hz : z.toNatClampNeg = N) (h3 : ¬ z < 0) (h4 : N ≤ n0) (h5 : N ≤ n1) (hR : 1 ≤ R0.frames ∧ (st.map fun v => v.category).sum + (nativeFrameWords "java/lang/System" "arraycopy" 5 + 11) ≤ R0.locals) (hws : ws.set q1 (a1, .inl (Γ.cs.1, n1, .inl (va_cpy f g 0 0 N))) = ws') (d : decode cc pc = .ok (.invokestatic index, 3)) (hp : pc + 3 = pc') (kk : X Γ nL k n pc' lv st ws') : X Γ nL k n pc lv (.int z :: .int 0 :: .ref a1 :: .int 0 :: .ref a0 :: st) ws := by
  obtain ⟨p, l, e, R, s, m, args, below, meth, c, Q, A, D, cs⟩ := Γ
  subst hp
  subst hws
  subst hz
  obtain ⟨hfix, hKN, hA, hlk, rfl⟩ := B
  intro H locs ls hP hD hS hl
  exact va_copyi hfix.1 hfix.2.1 (hfix.2.2.1.trans hl.1.symm) hfix.2.2.2.1 (hfix.2.2.2.2 _ w1) (hfix.2.2.2.2 _ w2) (hfix.2.2.2.2 _ w3) (hfix.2.2.2.2 _ w4) hKN.1 hP hD hS q0 q1 0 0 he0 he1 rfl rfl rfl (by decide) (by decide) h3 (by show 0 + _ ≤ _; omega) (by show 0 + _ ≤ _; omega) (fun i hi => rfl) hR.1 hR.2 d (fun H1 locs1 hP1 hD1 hS1 => kk H1 locs1 ls hP1 hD1 hS1 hl)
end SLOT
theorem wa1 : Cond.methodLink RX1 56 arraycopyName ∈ GW := List.mem_of_getElem? (i := 251) (by decide +kernel)
theorem wa2 : Cond.native arraycopyName ∈ GW := List.mem_of_getElem? (i := 252) (by decide +kernel)
theorem wa3 : Cond.static arraycopyName ∈ GW := List.mem_of_getElem? (i := 253) (by decide +kernel)
theorem wa4 : Cond.initialized "java/lang/System" ∈ GW := List.mem_of_getElem? (i := 254) (by decide +kernel)
theorem zb_fit {r : Int32} (h : r = 0 ∨ r = 1) : fits .boolean (.int r) = true := by rcases h with rfl | rfl <;> rfl
theorem c_wd {Γ : Ctx} {nL k n pc : Nat} {lv : List (Nat × Value)} {st : List Value} {a b : Nat → Nat} {S S' T : OB} (h : S' = S) (kk : X Γ nL k n pc lv st (wC Γ.cs.1 a b S' T)) : X Γ nL k n pc lv st (wC Γ.cs.1 a b S T) := h ▸ kk
/-- the state S with what T holds -/
def f_X1_copyFrom (S T : OB) : Option OB :=
  nm (fun (S1 : OB) => nm (fun (S2 : OB) => nm (fun (S3 : OB) => nm (fun (S4 : OB) => nm (fun (S5 : OB) => nm (fun (S6 : OB) => nm (fun (S7 : OB) => nm (fun (S8 : OB) => zb (T.1 8) (nm (fun (S9 : OB) => nm (fun (S10 : OB) => nm (fun (S11 : OB) => nm (fun (S12 : OB) => nm (fun (S13 : OB) => nm (fun (S14 : OB) => some S14) (upd S13.1 13 (T.1 13), S13.2)) (upd S12.1 12 (T.1 12), S12.2)) (upd S11.1 11 (T.1 11), S11.2)) (upd S10.1 10 (T.1 10), S10.2)) (upd S9.1 9 (T.1 9), S9.2)) (upd S8.1 8 (T.1 8), S8.2))) (upd S7.1 7 (T.1 7), S7.2)) (S6.1, up2 S6.2 6 (va_cpy (T.2 6) (S6.2 6) 0 0 10))) (S5.1, up2 S5.2 5 (va_cpy (T.2 5) (S5.2 5) 0 0 10))) (upd S4.1 4 (T.1 4), S4.2)) (S3.1, up2 S3.2 3 (va_cpy (T.2 3) (S3.2 3) 0 0 32))) (S2.1, up2 S2.2 2 (va_cpy (T.2 2) (S2.2 2) 0 0 32))) (S1.1, up2 S1.2 1 (va_cpy (T.2 1) (S1.2 1) 0 0 32))) (S.1, up2 S.2 0 (va_cpy (T.2 0) (S.2 0) 0 0 32))
abbrev rm_X1_copyFrom : Room := { frames := 1, cells := 0, slots := 0, locals := 64 }
theorem np_X1_copyFrom : yX1_copyFrom.cls ≠ "java/lang/invoke/MethodHandle" ∧ yX1_copyFrom.cls ≠ "java/lang/invoke/VarHandle" ∧ (parseMethodDescriptor yX1_copyFrom.desc).map (fun d => d.parameters.length) = some 1 := by decide +kernel
set_option maxHeartbeats 4000000 in
set_option maxRecDepth 100000 in
theorem k_X1_copyFrom (l : Launch) (D : va_G) (cs : CS) (a b : Nat → Nat) (S T : OB) {S9 : OB} (h : f_X1_copyFrom S T = some S9) : MV l D cs yX1_copyFrom cX1_copyFrom 2 rm_X1_copyFrom [.ref (a 0), .ref (b 0)] (wC cs.1 a b S T) (wC cs.1 a b S9 T) := by
  refine MV_of (by decide) (Nat.le_of_ble_eq_true rfl) ?_
  rintro Γ rfl rfl rfl B ret
  show X Γ 2 0 0 0 [(0, .ref (a 0)), (1, .ref (b 0))] [] (wC Γ.cs.1 a b S T)
  unfold f_X1_copyFrom at h
  refine x_aload_n B (pc' := 1) 1 dX1_copyFrom_0 rfl rfl rfl ?_
  refine x_getf B (pc' := 4) 7 0 rfl rfl inlX1 (by decide) wf_RX1_9 rfl dX1_copyFrom_1 rfl ?_
  refine x_iconst B (pc' := 5) 0 dX1_copyFrom_4 (by decide) rfl ?_
  refine x_aload_n B (pc' := 6) 0 dX1_copyFrom_5 rfl rfl rfl ?_
  refine x_getf B (pc' := 9) 0 0 rfl rfl inlX1 (by decide) wf_RX1_9 rfl dX1_copyFrom_6 rfl ?_
  refine x_iconst B (pc' := 10) 0 dX1_copyFrom_9 (by decide) rfl ?_
  refine x_bipush B (pc' := 12) 32 dX1_copyFrom_10 (by decide) rfl ?_
  obtain ⟨S1, eS1, h⟩ := nm_elim h
  refine x_copy (ws' := wC Γ.cs.1 a b (S.1, up2 S.2 0 (va_cpy (T.2 0) (S.2 0) 0 0 32)) T) B (pc' := 15) wa1 wa2 wa3 wa4 32 8 1 rfl rfl (by decide) (by decide) (by decide) (by decide) ⟨Nat.le_of_ble_eq_true rfl, Nat.le_of_ble_eq_true rfl⟩ rfl dX1_copyFrom_12 rfl ?_
  refine c_wd eS1 ?_
  refine x_aload_n B (pc' := 16) 1 dX1_copyFrom_15 rfl rfl rfl ?_
  refine x_getf B (pc' := 19) 7 1 rfl rfl inlX1 (by decide) wf_RX1_15 rfl dX1_copyFrom_16 rfl ?_
  refine x_iconst B (pc' := 20) 0 dX1_copyFrom_19 (by decide) rfl ?_
  refine x_aload_n B (pc' := 21) 0 dX1_copyFrom_20 rfl rfl rfl ?_
  refine x_getf B (pc' := 24) 0 1 rfl rfl inlX1 (by decide) wf_RX1_15 rfl dX1_copyFrom_21 rfl ?_
  refine x_iconst B (pc' := 25) 0 dX1_copyFrom_24 (by decide) rfl ?_
  refine x_bipush B (pc' := 27) 32 dX1_copyFrom_25 (by decide) rfl ?_
  obtain ⟨S2, eS2, h⟩ := nm_elim h
  refine x_copy (ws' := wC Γ.cs.1 a b (S1.1, up2 S1.2 1 (va_cpy (T.2 1) (S1.2 1) 0 0 32)) T) B (pc' := 30) wa1 wa2 wa3 wa4 32 9 2 rfl rfl (by decide) (by decide) (by decide) (by decide) ⟨Nat.le_of_ble_eq_true rfl, Nat.le_of_ble_eq_true rfl⟩ rfl dX1_copyFrom_27 rfl ?_
  refine c_wd eS2 ?_
  refine x_aload_n B (pc' := 31) 1 dX1_copyFrom_30 rfl rfl rfl ?_
  refine x_getf B (pc' := 34) 7 2 rfl rfl inlX1 (by decide) wf_RX1_18 rfl dX1_copyFrom_31 rfl ?_
  refine x_iconst B (pc' := 35) 0 dX1_copyFrom_34 (by decide) rfl ?_
  refine x_aload_n B (pc' := 36) 0 dX1_copyFrom_35 rfl rfl rfl ?_
  refine x_getf B (pc' := 39) 0 2 rfl rfl inlX1 (by decide) wf_RX1_18 rfl dX1_copyFrom_36 rfl ?_
  refine x_iconst B (pc' := 40) 0 dX1_copyFrom_39 (by decide) rfl ?_
  refine x_bipush B (pc' := 42) 32 dX1_copyFrom_40 (by decide) rfl ?_
  obtain ⟨S3, eS3, h⟩ := nm_elim h
  refine x_copy (ws' := wC Γ.cs.1 a b (S2.1, up2 S2.2 2 (va_cpy (T.2 2) (S2.2 2) 0 0 32)) T) B (pc' := 45) wa1 wa2 wa3 wa4 32 10 3 rfl rfl (by decide) (by decide) (by decide) (by decide) ⟨Nat.le_of_ble_eq_true rfl, Nat.le_of_ble_eq_true rfl⟩ rfl dX1_copyFrom_42 rfl ?_
  refine c_wd eS3 ?_
  refine x_aload_n B (pc' := 46) 1 dX1_copyFrom_45 rfl rfl rfl ?_
  refine x_getf B (pc' := 49) 7 3 rfl rfl inlX1 (by decide) wf_RX1_21 rfl dX1_copyFrom_46 rfl ?_
  refine x_iconst B (pc' := 50) 0 dX1_copyFrom_49 (by decide) rfl ?_
  refine x_aload_n B (pc' := 51) 0 dX1_copyFrom_50 rfl rfl rfl ?_
  refine x_getf B (pc' := 54) 0 3 rfl rfl inlX1 (by decide) wf_RX1_21 rfl dX1_copyFrom_51 rfl ?_
  refine x_iconst B (pc' := 55) 0 dX1_copyFrom_54 (by decide) rfl ?_
  refine x_bipush B (pc' := 57) 32 dX1_copyFrom_55 (by decide) rfl ?_
  obtain ⟨S4, eS4, h⟩ := nm_elim h
  refine x_copy (ws' := wC Γ.cs.1 a b (S3.1, up2 S3.2 3 (va_cpy (T.2 3) (S3.2 3) 0 0 32)) T) B (pc' := 60) wa1 wa2 wa3 wa4 32 11 4 rfl rfl (by decide) (by decide) (by decide) (by decide) ⟨Nat.le_of_ble_eq_true rfl, Nat.le_of_ble_eq_true rfl⟩ rfl dX1_copyFrom_57 rfl ?_
  refine c_wd eS4 ?_
  refine x_aload_n B (pc' := 61) 0 dX1_copyFrom_60 rfl rfl rfl ?_
  refine x_aload_n B (pc' := 62) 1 dX1_copyFrom_61 rfl rfl rfl ?_
  refine x_getf B (pc' := 65) 7 4 rfl rfl inlX1 (by decide) wf_RX1_24 rfl dX1_copyFrom_62 rfl ?_
  obtain ⟨S5, eS5, h⟩ := nm_elim h
  refine x_putf (ws' := wC Γ.cs.1 a b (upd S4.1 4 (T.1 4), S4.2) T) B (pc' := 68) 0 4 tyX1 tyX1_ok nmX1 rfl rfl inlX1 (by decide) wf_RX1_24 rfl rfl rfl (Nat.le_of_ble_eq_true rfl) rfl dX1_copyFrom_65 rfl ?_
  refine c_wd eS5 ?_
  refine x_aload_n B (pc' := 69) 1 dX1_copyFrom_68 rfl rfl rfl ?_
  refine x_getf B (pc' := 72) 7 5 rfl rfl inlX1 (by decide) wf_RX1_28 rfl dX1_copyFrom_69 rfl ?_
  refine x_iconst B (pc' := 73) 0 dX1_copyFrom_72 (by decide) rfl ?_
  refine x_aload_n B (pc' := 74) 0 dX1_copyFrom_73 rfl rfl rfl ?_
  refine x_getf B (pc' := 77) 0 5 rfl rfl inlX1 (by decide) wf_RX1_28 rfl dX1_copyFrom_74 rfl ?_
  refine x_iconst B (pc' := 78) 0 dX1_copyFrom_77 (by decide) rfl ?_
  refine x_bipush B (pc' := 80) 10 dX1_copyFrom_78 (by decide) rfl ?_
  obtain ⟨S6, eS6, h⟩ := nm_elim h
  refine x_copy (ws' := wC Γ.cs.1 a b (S5.1, up2 S5.2 5 (va_cpy (T.2 5) (S5.2 5) 0 0 10)) T) B (pc' := 83) wa1 wa2 wa3 wa4 10 12 5 rfl rfl (by decide) (by decide) (by decide) (by decide) ⟨Nat.le_of_ble_eq_true rfl, Nat.le_of_ble_eq_true rfl⟩ rfl dX1_copyFrom_80 rfl ?_
  refine c_wd eS6 ?_
  refine x_aload_n B (pc' := 84) 1 dX1_copyFrom_83 rfl rfl rfl ?_
  refine x_getf B (pc' := 87) 7 6 rfl rfl inlX1 (by decide) wf_RX1_31 rfl dX1_copyFrom_84 rfl ?_
  refine x_iconst B (pc' := 88) 0 dX1_copyFrom_87 (by decide) rfl ?_
  refine x_aload_n B (pc' := 89) 0 dX1_copyFrom_88 rfl rfl rfl ?_
  refine x_getf B (pc' := 92) 0 6 rfl rfl inlX1 (by decide) wf_RX1_31 rfl dX1_copyFrom_89 rfl ?_
  refine x_iconst B (pc' := 93) 0 dX1_copyFrom_92 (by decide) rfl ?_
  refine x_bipush B (pc' := 95) 10 dX1_copyFrom_93 (by decide) rfl ?_
  obtain ⟨S7, eS7, h⟩ := nm_elim h
  refine x_copy (ws' := wC Γ.cs.1 a b (S6.1, up2 S6.2 6 (va_cpy (T.2 6) (S6.2 6) 0 0 10)) T) B (pc' := 98) wa1 wa2 wa3 wa4 10 13 6 rfl rfl (by decide) (by decide) (by decide) (by decide) ⟨Nat.le_of_ble_eq_true rfl, Nat.le_of_ble_eq_true rfl⟩ rfl dX1_copyFrom_95 rfl ?_
  refine c_wd eS7 ?_
  refine x_aload_n B (pc' := 99) 0 dX1_copyFrom_98 rfl rfl rfl ?_
  refine x_aload_n B (pc' := 100) 1 dX1_copyFrom_99 rfl rfl rfl ?_
  refine x_getf B (pc' := 103) 7 7 rfl rfl inlX1 (by decide) wf_RX1_34 rfl dX1_copyFrom_100 rfl ?_
  obtain ⟨S8, eS8, h⟩ := nm_elim h
  refine x_putf (ws' := wC Γ.cs.1 a b (upd S7.1 7 (T.1 7), S7.2) T) B (pc' := 106) 0 7 tyX1 tyX1_ok nmX1 rfl rfl inlX1 (by decide) wf_RX1_34 rfl rfl rfl (Nat.le_of_ble_eq_true rfl) rfl dX1_copyFrom_103 rfl ?_
  refine c_wd eS8 ?_
  refine x_aload_n B (pc' := 107) 0 dX1_copyFrom_106 rfl rfl rfl ?_
  refine x_aload_n B (pc' := 108) 1 dX1_copyFrom_107 rfl rfl rfl ?_
  refine x_getf B (pc' := 111) 7 8 rfl rfl inlX1 (by decide) wf_RX1_37 rfl dX1_copyFrom_108 rfl ?_
  obtain ⟨hz, h⟩ := zb_elim h
  obtain ⟨S9, eS9, h⟩ := nm_elim h
  refine x_putf (ws' := wC Γ.cs.1 a b (upd S8.1 8 (T.1 8), S8.2) T) B (pc' := 114) 0 8 tyX1 tyX1_ok nmX1 rfl rfl inlX1 (by decide) wf_RX1_37 rfl (zb_nar hz) (zb_fit hz) (Nat.le_of_ble_eq_true rfl) rfl dX1_copyFrom_111 rfl ?_
  refine c_wd eS9 ?_
  refine x_aload_n B (pc' := 115) 0 dX1_copyFrom_114 rfl rfl rfl ?_
  refine x_aload_n B (pc' := 116) 1 dX1_copyFrom_115 rfl rfl rfl ?_
  refine x_getf B (pc' := 119) 7 9 rfl rfl inlX1 (by decide) wf_RX1_41 rfl dX1_copyFrom_116 rfl ?_
  obtain ⟨S10, eS10, h⟩ := nm_elim h
  refine x_putf (ws' := wC Γ.cs.1 a b (upd S9.1 9 (T.1 9), S9.2) T) B (pc' := 122) 0 9 tyX1 tyX1_ok nmX1 rfl rfl inlX1 (by decide) wf_RX1_41 rfl rfl rfl (Nat.le_of_ble_eq_true rfl) rfl dX1_copyFrom_119 rfl ?_
  refine c_wd eS10 ?_
  refine x_aload_n B (pc' := 123) 0 dX1_copyFrom_122 rfl rfl rfl ?_
  refine x_aload_n B (pc' := 124) 1 dX1_copyFrom_123 rfl rfl rfl ?_
  refine x_getf B (pc' := 127) 7 10 rfl rfl inlX1 (by decide) wf_RX1_44 rfl dX1_copyFrom_124 rfl ?_
  obtain ⟨S11, eS11, h⟩ := nm_elim h
  refine x_putf (ws' := wC Γ.cs.1 a b (upd S10.1 10 (T.1 10), S10.2) T) B (pc' := 130) 0 10 tyX1 tyX1_ok nmX1 rfl rfl inlX1 (by decide) wf_RX1_44 rfl rfl rfl (Nat.le_of_ble_eq_true rfl) rfl dX1_copyFrom_127 rfl ?_
  refine c_wd eS11 ?_
  refine x_aload_n B (pc' := 131) 0 dX1_copyFrom_130 rfl rfl rfl ?_
  refine x_aload_n B (pc' := 132) 1 dX1_copyFrom_131 rfl rfl rfl ?_
  refine x_getf B (pc' := 135) 7 11 rfl rfl inlX1 (by decide) wf_RX1_47 rfl dX1_copyFrom_132 rfl ?_
  obtain ⟨S12, eS12, h⟩ := nm_elim h
  refine x_putf (ws' := wC Γ.cs.1 a b (upd S11.1 11 (T.1 11), S11.2) T) B (pc' := 138) 0 11 tyX1 tyX1_ok nmX1 rfl rfl inlX1 (by decide) wf_RX1_47 rfl rfl rfl (Nat.le_of_ble_eq_true rfl) rfl dX1_copyFrom_135 rfl ?_
  refine c_wd eS12 ?_
  refine x_aload_n B (pc' := 139) 0 dX1_copyFrom_138 rfl rfl rfl ?_
  refine x_aload_n B (pc' := 140) 1 dX1_copyFrom_139 rfl rfl rfl ?_
  refine x_getf B (pc' := 143) 7 12 rfl rfl inlX1 (by decide) wf_RX1_50 rfl dX1_copyFrom_140 rfl ?_
  obtain ⟨S13, eS13, h⟩ := nm_elim h
  refine x_putf (ws' := wC Γ.cs.1 a b (upd S12.1 12 (T.1 12), S12.2) T) B (pc' := 146) 0 12 tyX1 tyX1_ok nmX1 rfl rfl inlX1 (by decide) wf_RX1_50 rfl rfl rfl (Nat.le_of_ble_eq_true rfl) rfl dX1_copyFrom_143 rfl ?_
  refine c_wd eS13 ?_
  refine x_aload_n B (pc' := 147) 0 dX1_copyFrom_146 rfl rfl rfl ?_
  refine x_aload_n B (pc' := 148) 1 dX1_copyFrom_147 rfl rfl rfl ?_
  refine x_getf B (pc' := 151) 7 13 rfl rfl inlX1 (by decide) wf_RX1_53 rfl dX1_copyFrom_148 rfl ?_
  obtain ⟨S14, eS14, h⟩ := nm_elim h
  refine x_putf (ws' := wC Γ.cs.1 a b (upd S13.1 13 (T.1 13), S13.2) T) B (pc' := 154) 0 13 tyX1 tyX1_ok nmX1 rfl rfl inlX1 (by decide) wf_RX1_53 rfl rfl rfl (Nat.le_of_ble_eq_true rfl) rfl dX1_copyFrom_151 rfl ?_
  refine c_wd eS14 ?_
  cases h
  exact ret (by exact Nat.le_of_ble_eq_true rfl) (by exact Nat.le_of_ble_eq_true rfl) dX1_copyFrom_154
theorem gv_RX2_212 : GoodIn GW (wsV RX2 212 RX1 yX1_copyFrom (.code yX1_copyFrom cX1_copyFrom 2 none :: GW)) := gw_app [Cond.methodLink RX2 212 yX1_copyFrom, Cond.instanceMethod yX1_copyFrom, Cond.selects RX1 yX1_copyFrom yX1_copyFrom, Cond.initialized RX1, Cond.code yX1_copyFrom cX1_copyFrom 2 none] [247, 248, 249, 11, 250] (by decide +kernel) (by decide +kernel)
set_option maxRecDepth 10000 in
theorem b_cpyS0 {Γ : Ctx} {cc : ByteArray} {nL k n pc pc' : Nat} {R0 : Room} {lv : List (Nat × Value)} {st : List Value} (B : CX Γ cc nL RX2 R0) {a : Nat → Nat → Nat} {S : BO} {S1 : OB} (h : f_X1_copyFrom (S.2.2.1 0) S.2.1 = some S1) (hR : 2 ≤ R0.frames ∧ 85 ≤ R0.locals) (hroom : k ≤ R0.cells ∧ n ≤ R0.slots) (hsum : (st.map fun v => v.category).sum ≤ 8) (d : decode cc pc = .ok (.invokevirtual 212, 3)) (hp : pc + 3 = pc') (kk : X Γ nL k n pc' lv st (wB Γ.cs a (S.1, S.2.1, (fun i => if i = 0 then S1 else S.2.2.1 i), S.2.2.2))) : X Γ nL k n pc lv (.ref (a 1 0) :: .ref (a 3 0) :: st) (wB Γ.cs a S) :=
  x_GVv (ws' := wB Γ.cs a (S.1, S.2.1, (fun i => if i = 0 then S1 else S.2.2.1 i), S.2.2.2)) (wr := (wB Γ.cs a S).take 2 ++ ((wB Γ.cs a S).drop 9).take 2 ++ (wB Γ.cs a S).drop 18) B [.ref (a 1 0)] (k_X1_copyFrom _ _ _ (a 3) (a 1) (S.2.2.1 0) S.2.1 h) [11, 12, 13, 14, 15, 16, 17, 2, 3, 4, 5, 6, 7, 8] [0, 1, 9, 10, 18, 19, 20, 21, 22, 23, 24, 25, 26, 27, 28, 29, 30, 31, 32, 33, 34, 35, 36, 37, 38, 39, 40, 41, 42, 43, 44, 45, 46, 47, 48, 49, 50, 51, 52] [0, 1, 46, 47, 48, 49, 50, 51, 52, 2, 3, 39, 40, 41, 42, 43, 44, 45, 4, 5, 6, 7, 8, 9, 10, 11, 12, 13, 14, 15, 16, 17, 18, 19, 20, 21, 22, 23, 24, 25, 26, 27, 28, 29, 30, 31, 32, 33, 34, 35, 36, 37, 38] rfl rfl rfl rfl (by decide) rfl rfl rfl rfl gv_RX2_212 rfl np_X1_copyFrom hR hroom rfl hsum d hp kk
set_option maxRecDepth 10000 in
theorem b_cpyS1 {Γ : Ctx} {cc : ByteArray} {nL k n pc pc' : Nat} {R0 : Room} {lv : List (Nat × Value)} {st : List Value} (B : CX Γ cc nL RX2 R0) {a : Nat → Nat → Nat} {S : BO} {S1 : OB} (h : f_X1_copyFrom (S.2.2.1 1) S.2.1 = some S1) (hR : 2 ≤ R0.frames ∧ 85 ≤ R0.locals) (hroom : k ≤ R0.cells ∧ n ≤ R0.slots) (hsum : (st.map fun v => v.category).sum ≤ 8) (d : decode cc pc = .ok (.invokevirtual 212, 3)) (hp : pc + 3 = pc') (kk : X Γ nL k n pc' lv st (wB Γ.cs a (S.1, S.2.1, (fun i => if i = 1 then S1 else S.2.2.1 i), S.2.2.2))) : X Γ nL k n pc lv (.ref (a 1 0) :: .ref (a 4 0) :: st) (wB Γ.cs a S) :=
  x_GVv (ws' := wB Γ.cs a (S.1, S.2.1, (fun i => if i = 1 then S1 else S.2.2.1 i), S.2.2.2)) (wr := (wB Γ.cs a S).take 2 ++ ((wB Γ.cs a S).drop 9).take 9 ++ (wB Γ.cs a S).drop 25) B [.ref (a 1 0)] (k_X1_copyFrom _ _ _ (a 4) (a 1) (S.2.2.1 1) S.2.1 h) [18, 19, 20, 21, 22, 23, 24, 2, 3, 4, 5, 6, 7, 8] [0, 1, 9, 10, 11, 12, 13, 14, 15, 16, 17, 25, 26, 27, 28, 29, 30, 31, 32, 33, 34, 35, 36, 37, 38, 39, 40, 41, 42, 43, 44, 45, 46, 47, 48, 49, 50, 51, 52] [0, 1, 46, 47, 48, 49, 50, 51, 52, 2, 3, 4, 5, 6, 7, 8, 9, 10, 39, 40, 41, 42, 43, 44, 45, 11, 12, 13, 14, 15, 16, 17, 18, 19, 20, 21, 22, 23, 24, 25, 26, 27, 28, 29, 30, 31, 32, 33, 34, 35, 36, 37, 38] rfl rfl rfl rfl (by decide) rfl rfl rfl rfl gv_RX2_212 rfl np_X1_copyFrom hR hroom rfl hsum d hp kk
set_option maxRecDepth 10000 in
theorem b_cpyS2 {Γ : Ctx} {cc : ByteArray} {nL k n pc pc' : Nat} {R0 : Room} {lv : List (Nat × Value)} {st : List Value} (B : CX Γ cc nL RX2 R0) {a : Nat → Nat → Nat} {S : BO} {S1 : OB} (h : f_X1_copyFrom (S.2.2.1 2) S.2.1 = some S1) (hR : 2 ≤ R0.frames ∧ 85 ≤ R0.locals) (hroom : k ≤ R0.cells ∧ n ≤ R0.slots) (hsum : (st.map fun v => v.category).sum ≤ 8) (d : decode cc pc = .ok (.invokevirtual 212, 3)) (hp : pc + 3 = pc') (kk : X Γ nL k n pc' lv st (wB Γ.cs a (S.1, S.2.1, (fun i => if i = 2 then S1 else S.2.2.1 i), S.2.2.2))) : X Γ nL k n pc lv (.ref (a 1 0) :: .ref (a 5 0) :: st) (wB Γ.cs a S) :=
  x_GVv (ws' := wB Γ.cs a (S.1, S.2.1, (fun i => if i = 2 then S1 else S.2.2.1 i), S.2.2.2)) (wr := (wB Γ.cs a S).take 2 ++ ((wB Γ.cs a S).drop 9).take 16 ++ (wB Γ.cs a S).drop 32) B [.ref (a 1 0)] (k_X1_copyFrom _ _ _ (a 5) (a 1) (S.2.2.1 2) S.2.1 h) [25, 26, 27, 28, 29, 30, 31, 2, 3, 4, 5, 6, 7, 8] [0, 1, 9, 10, 11, 12, 13, 14, 15, 16, 17, 18, 19, 20, 21, 22, 23, 24, 32, 33, 34, 35, 36, 37, 38, 39, 40, 41, 42, 43, 44, 45, 46, 47, 48, 49, 50, 51, 52] [0, 1, 46, 47, 48, 49, 50, 51, 52, 2, 3, 4, 5, 6, 7, 8, 9, 10, 11, 12, 13, 14, 15, 16, 17, 39, 40, 41, 42, 43, 44, 45, 18, 19, 20, 21, 22, 23, 24, 25, 26, 27, 28, 29, 30, 31, 32, 33, 34, 35, 36, 37, 38] rfl rfl rfl rfl (by decide) rfl rfl rfl rfl gv_RX2_212 rfl np_X1_copyFrom hR hroom rfl hsum d hp kk
set_option maxRecDepth 10000 in
theorem b_cpyS3 {Γ : Ctx} {cc : ByteArray} {nL k n pc pc' : Nat} {R0 : Room} {lv : List (Nat × Value)} {st : List Value} (B : CX Γ cc nL RX2 R0) {a : Nat → Nat → Nat} {S : BO} {S1 : OB} (h : f_X1_copyFrom (S.2.2.1 3) S.2.1 = some S1) (hR : 2 ≤ R0.frames ∧ 85 ≤ R0.locals) (hroom : k ≤ R0.cells ∧ n ≤ R0.slots) (hsum : (st.map fun v => v.category).sum ≤ 8) (d : decode cc pc = .ok (.invokevirtual 212, 3)) (hp : pc + 3 = pc') (kk : X Γ nL k n pc' lv st (wB Γ.cs a (S.1, S.2.1, (fun i => if i = 3 then S1 else S.2.2.1 i), S.2.2.2))) : X Γ nL k n pc lv (.ref (a 1 0) :: .ref (a 6 0) :: st) (wB Γ.cs a S) :=
  x_GVv (ws' := wB Γ.cs a (S.1, S.2.1, (fun i => if i = 3 then S1 else S.2.2.1 i), S.2.2.2)) (wr := (wB Γ.cs a S).take 2 ++ ((wB Γ.cs a S).drop 9).take 23 ++ (wB Γ.cs a S).drop 39) B [.ref (a 1 0)] (k_X1_copyFrom _ _ _ (a 6) (a 1) (S.2.2.1 3) S.2.1 h) [32, 33, 34, 35, 36, 37, 38, 2, 3, 4, 5, 6, 7, 8] [0, 1, 9, 10, 11, 12, 13, 14, 15, 16, 17, 18, 19, 20, 21, 22, 23, 24, 25, 26, 27, 28, 29, 30, 31, 39, 40, 41, 42, 43, 44, 45, 46, 47, 48, 49, 50, 51, 52] [0, 1, 46, 47, 48, 49, 50, 51, 52, 2, 3, 4, 5, 6, 7, 8, 9, 10, 11, 12, 13, 14, 15, 16, 17, 18, 19, 20, 21, 22, 23, 24, 39, 40, 41, 42, 43, 44, 45, 25, 26, 27, 28, 29, 30, 31, 32, 33, 34, 35, 36, 37, 38] rfl rfl rfl rfl (by decide) rfl rfl rfl rfl gv_RX2_212 rfl np_X1_copyFrom hR hroom rfl hsum d hp kk
set_option maxRecDepth 10000 in
theorem b_cpyS4 {Γ : Ctx} {cc : ByteArray} {nL k n pc pc' : Nat} {R0 : Room} {lv : List (Nat × Value)} {st : List Value} (B : CX Γ cc nL RX2 R0) {a : Nat → Nat → Nat} {S : BO} {S1 : OB} (h : f_X1_copyFrom (S.2.2.1 4) S.2.1 = some S1) (hR : 2 ≤ R0.frames ∧ 85 ≤ R0.locals) (hroom : k ≤ R0.cells ∧ n ≤ R0.slots) (hsum : (st.map fun v => v.category).sum ≤ 8) (d : decode cc pc = .ok (.invokevirtual 212, 3)) (hp : pc + 3 = pc') (kk : X Γ nL k n pc' lv st (wB Γ.cs a (S.1, S.2.1, (fun i => if i = 4 then S1 else S.2.2.1 i), S.2.2.2))) : X Γ nL k n pc lv (.ref (a 1 0) :: .ref (a 7 0) :: st) (wB Γ.cs a S) :=
  x_GVv (ws' := wB Γ.cs a (S.1, S.2.1, (fun i => if i = 4 then S1 else S.2.2.1 i), S.2.2.2)) (wr := (wB Γ.cs a S).take 2 ++ ((wB Γ.cs a S).drop 9).take 30 ++ (wB Γ.cs a S).drop 46) B [.ref (a 1 0)] (k_X1_copyFrom _ _ _ (a 7) (a 1) (S.2.2.1 4) S.2.1 h) [39, 40, 41, 42, 43, 44, 45, 2, 3, 4, 5, 6, 7, 8] [0, 1, 9, 10, 11, 12, 13, 14, 15, 16, 17, 18, 19, 20, 21, 22, 23, 24, 25, 26, 27, 28, 29, 30, 31, 32, 33, 34, 35, 36, 37, 38, 46, 47, 48, 49, 50, 51, 52] [0, 1, 46, 47, 48, 49, 50, 51, 52, 2, 3, 4, 5, 6, 7, 8, 9, 10, 11, 12, 13, 14, 15, 16, 17, 18, 19, 20, 21, 22, 23, 24, 25, 26, 27, 28, 29, 30, 31, 39, 40, 41, 42, 43, 44, 45, 32, 33, 34, 35, 36, 37, 38] rfl rfl rfl rfl (by decide) rfl rfl rfl rfl gv_RX2_212 rfl np_X1_copyFrom hR hroom rfl hsum d hp kk
set_option maxRecDepth 10000 in
theorem b_cpyS5 {Γ : Ctx} {cc : ByteArray} {nL k n pc pc' : Nat} {R0 : Room} {lv : List (Nat × Value)} {st : List Value} (B : CX Γ cc nL RX2 R0) {a : Nat → Nat → Nat} {S : BO} {S1 : OB} (h : f_X1_copyFrom (S.2.2.1 5) S.2.1 = some S1) (hR : 2 ≤ R0.frames ∧ 85 ≤ R0.locals) (hroom : k ≤ R0.cells ∧ n ≤ R0.slots) (hsum : (st.map fun v => v.category).sum ≤ 8) (d : decode cc pc = .ok (.invokevirtual 212, 3)) (hp : pc + 3 = pc') (kk : X Γ nL k n pc' lv st (wB Γ.cs a (S.1, S.2.1, (fun i => if i = 5 then S1 else S.2.2.1 i), S.2.2.2))) : X Γ nL k n pc lv (.ref (a 1 0) :: .ref (a 8 0) :: st) (wB Γ.cs a S) :=
  x_GVv (ws' := wB Γ.cs a (S.1, S.2.1, (fun i => if i = 5 then S1 else S.2.2.1 i), S.2.2.2)) (wr := (wB Γ.cs a S).take 2 ++ ((wB Γ.cs a S).drop 9).take 37 ++ (wB Γ.cs a S).drop 53) B [.ref (a 1 0)] (k_X1_copyFrom _ _ _ (a 8) (a 1) (S.2.2.1 5) S.2.1 h) [46, 47, 48, 49, 50, 51, 52, 2, 3, 4, 5, 6, 7, 8] [0, 1, 9, 10, 11, 12, 13, 14, 15, 16, 17, 18, 19, 20, 21, 22, 23, 24, 25, 26, 27, 28, 29, 30, 31, 32, 33, 34, 35, 36, 37, 38, 39, 40, 41, 42, 43, 44, 45] [0, 1, 46, 47, 48, 49, 50, 51, 52, 2, 3, 4, 5, 6, 7, 8, 9, 10, 11, 12, 13, 14, 15, 16, 17, 18, 19, 20, 21, 22, 23, 24, 25, 26, 27, 28, 29, 30, 31, 32, 33, 34, 35, 36, 37, 38, 39, 40, 41, 42, 43, 44, 45] rfl rfl rfl rfl (by decide) rfl rfl rfl rfl gv_RX2_212 rfl np_X1_copyFrom hR hroom rfl hsum d hp kk
theorem b_cpyS {Γ : Ctx} {cc : ByteArray} {nL k n pc pc' : Nat} {R0 : Room} {lv : List (Nat × Value)} {st : List Value} {j : Nat} (hj : j < 6) (B : CX Γ cc nL RX2 R0) {a : Nat → Nat → Nat} {S : BO} {S1 : OB} (h : f_X1_copyFrom (S.2.2.1 j) S.2.1 = some S1) (hR : 2 ≤ R0.frames ∧ 85 ≤ R0.locals) (hroom : k ≤ R0.cells ∧ n ≤ R0.slots) (hsum : (st.map fun v => v.category).sum ≤ 8) (d : decode cc pc = .ok (.invokevirtual 212, 3)) (hp : pc + 3 = pc') (kk : X Γ nL k n pc' lv st (wB Γ.cs a (S.1, S.2.1, (fun i => if i = j then S1 else S.2.2.1 i), S.2.2.2))) : X Γ nL k n pc lv (.ref (a 1 0) :: .ref (a (3 + j) 0) :: st) (wB Γ.cs a S) := by
  match j, hj with
  | 0, _ => exact b_cpyS0 B h hR hroom hsum d hp kk
  | 1, _ => exact b_cpyS1 B h hR hroom hsum d hp kk
  | 2, _ => exact b_cpyS2 B h hR hroom hsum d hp kk
  | 3, _ => exact b_cpyS3 B h hR hroom hsum d hp kk
  | 4, _ => exact b_cpyS4 B h hR hroom hsum d hp kk
  | 5, _ => exact b_cpyS5 B h hR hroom hsum d hp kk
  | j + 6, hj => exact absurd hj (by omega)
set_option maxRecDepth 10000 in
theorem b_cpyU0 {Γ : Ctx} {cc : ByteArray} {nL k n pc pc' : Nat} {R0 : Room} {lv : List (Nat × Value)} {st : List Value} (B : CX Γ cc nL RX2 R0) {a : Nat → Nat → Nat} {S : BO} {S1 : OB} (h : f_X1_copyFrom S.2.1 (S.2.2.1 0) = some S1) (hR : 2 ≤ R0.frames ∧ 85 ≤ R0.locals) (hroom : k ≤ R0.cells ∧ n ≤ R0.slots) (hsum : (st.map fun v => v.category).sum ≤ 8) (d : decode cc pc = .ok (.invokevirtual 212, 3)) (hp : pc + 3 = pc') (kk : X Γ nL k n pc' lv st (wB Γ.cs a (S.1, S1, S.2.2))) : X Γ nL k n pc lv (.ref (a 3 0) :: .ref (a 1 0) :: st) (wB Γ.cs a S) :=
  x_GVv (ws' := wB Γ.cs a (S.1, S1, S.2.2)) (wr := (wB Γ.cs a S).take 2 ++ ((wB Γ.cs a S).drop 9).take 2 ++ (wB Γ.cs a S).drop 18) B [.ref (a 3 0)] (k_X1_copyFrom _ _ _ (a 1) (a 3) S.2.1 (S.2.2.1 0) h) [2, 3, 4, 5, 6, 7, 8, 11, 12, 13, 14, 15, 16, 17] [0, 1, 9, 10, 18, 19, 20, 21, 22, 23, 24, 25, 26, 27, 28, 29, 30, 31, 32, 33, 34, 35, 36, 37, 38, 39, 40, 41, 42, 43, 44, 45, 46, 47, 48, 49, 50, 51, 52] [0, 1, 39, 40, 41, 42, 43, 44, 45, 2, 3, 46, 47, 48, 49, 50, 51, 52, 4, 5, 6, 7, 8, 9, 10, 11, 12, 13, 14, 15, 16, 17, 18, 19, 20, 21, 22, 23, 24, 25, 26, 27, 28, 29, 30, 31, 32, 33, 34, 35, 36, 37, 38] rfl rfl rfl rfl (by decide) rfl rfl rfl rfl gv_RX2_212 rfl np_X1_copyFrom hR hroom rfl hsum d hp kk
set_option maxRecDepth 10000 in
theorem b_cpyU1 {Γ : Ctx} {cc : ByteArray} {nL k n pc pc' : Nat} {R0 : Room} {lv : List (Nat × Value)} {st : List Value} (B : CX Γ cc nL RX2 R0) {a : Nat → Nat → Nat} {S : BO} {S1 : OB} (h : f_X1_copyFrom S.2.1 (S.2.2.1 1) = some S1) (hR : 2 ≤ R0.frames ∧ 85 ≤ R0.locals) (hroom : k ≤ R0.cells ∧ n ≤ R0.slots) (hsum : (st.map fun v => v.category).sum ≤ 8) (d : decode cc pc = .ok (.invokevirtual 212, 3)) (hp : pc + 3 = pc') (kk : X Γ nL k n pc' lv st (wB Γ.cs a (S.1, S1, S.2.2))) : X Γ nL k n pc lv (.ref (a 4 0) :: .ref (a 1 0) :: st) (wB Γ.cs a S) :=
  x_GVv (ws' := wB Γ.cs a (S.1, S1, S.2.2)) (wr := (wB Γ.cs a S).take 2 ++ ((wB Γ.cs a S).drop 9).take 9 ++ (wB Γ.cs a S).drop 25) B [.ref (a 4 0)] (k_X1_copyFrom _ _ _ (a 1) (a 4) S.2.1 (S.2.2.1 1) h) [2, 3, 4, 5, 6, 7, 8, 18, 19, 20, 21, 22, 23, 24] [0, 1, 9, 10, 11, 12, 13, 14, 15, 16, 17, 25, 26, 27, 28, 29, 30, 31, 32, 33, 34, 35, 36, 37, 38, 39, 40, 41, 42, 43, 44, 45, 46, 47, 48, 49, 50, 51, 52] [0, 1, 39, 40, 41, 42, 43, 44, 45, 2, 3, 4, 5, 6, 7, 8, 9, 10, 46, 47, 48, 49, 50, 51, 52, 11, 12, 13, 14, 15, 16, 17, 18, 19, 20, 21, 22, 23, 24, 25, 26, 27, 28, 29, 30, 31, 32, 33, 34, 35, 36, 37, 38] rfl rfl rfl rfl (by decide) rfl rfl rfl rfl gv_RX2_212 rfl np_X1_copyFrom hR hroom rfl hsum d hp kk
set_option maxRecDepth 10000 in
theorem b_cpyU2 {Γ : Ctx} {cc : ByteArray} {nL k n pc pc' : Nat} {R0 : Room} {lv : List (Nat × Value)} {st : List Value} (B : CX Γ cc nL RX2 R0) {a : Nat → Nat → Nat} {S : BO} {S1 : OB} (h : f_X1_copyFrom S.2.1 (S.2.2.1 2) = some S1) (hR : 2 ≤ R0.frames ∧ 85 ≤ R0.locals) (hroom : k ≤ R0.cells ∧ n ≤ R0.slots) (hsum : (st.map fun v => v.category).sum ≤ 8) (d : decode cc pc = .ok (.invokevirtual 212, 3)) (hp : pc + 3 = pc') (kk : X Γ nL k n pc' lv st (wB Γ.cs a (S.1, S1, S.2.2))) : X Γ nL k n pc lv (.ref (a 5 0) :: .ref (a 1 0) :: st) (wB Γ.cs a S) :=
  x_GVv (ws' := wB Γ.cs a (S.1, S1, S.2.2)) (wr := (wB Γ.cs a S).take 2 ++ ((wB Γ.cs a S).drop 9).take 16 ++ (wB Γ.cs a S).drop 32) B [.ref (a 5 0)] (k_X1_copyFrom _ _ _ (a 1) (a 5) S.2.1 (S.2.2.1 2) h) [2, 3, 4, 5, 6, 7, 8, 25, 26, 27, 28, 29, 30, 31] [0, 1, 9, 10, 11, 12, 13, 14, 15, 16, 17, 18, 19, 20, 21, 22, 23, 24, 32, 33, 34, 35, 36, 37, 38, 39, 40, 41, 42, 43, 44, 45, 46, 47, 48, 49, 50, 51, 52] [0, 1, 39, 40, 41, 42, 43, 44, 45, 2, 3, 4, 5, 6, 7, 8, 9, 10, 11, 12, 13, 14, 15, 16, 17, 46, 47, 48, 49, 50, 51, 52, 18, 19, 20, 21, 22, 23, 24, 25, 26, 27, 28, 29, 30, 31, 32, 33, 34, 35, 36, 37, 38] rfl rfl rfl rfl (by decide) rfl rfl rfl rfl gv_RX2_212 rfl np_X1_copyFrom hR hroom rfl hsum d hp kk
set_option maxRecDepth 10000 in
theorem b_cpyU3 {Γ : Ctx} {cc : ByteArray} {nL k n pc pc' : Nat} {R0 : Room} {lv : List (Nat × Value)} {st : List Value} (B : CX Γ cc nL RX2 R0) {a : Nat → Nat → Nat} {S : BO} {S1 : OB} (h : f_X1_copyFrom S.2.1 (S.2.2.1 3) = some S1) (hR : 2 ≤ R0.frames ∧ 85 ≤ R0.locals) (hroom : k ≤ R0.cells ∧ n ≤ R0.slots) (hsum : (st.map fun v => v.category).sum ≤ 8) (d : decode cc pc = .ok (.invokevirtual 212, 3)) (hp : pc + 3 = pc') (kk : X Γ nL k n pc' lv st (wB Γ.cs a (S.1, S1, S.2.2))) : X Γ nL k n pc lv (.ref (a 6 0) :: .ref (a 1 0) :: st) (wB Γ.cs a S) :=
  x_GVv (ws' := wB Γ.cs a (S.1, S1, S.2.2)) (wr := (wB Γ.cs a S).take 2 ++ ((wB Γ.cs a S).drop 9).take 23 ++ (wB Γ.cs a S).drop 39) B [.ref (a 6 0)] (k_X1_copyFrom _ _ _ (a 1) (a 6) S.2.1 (S.2.2.1 3) h) [2, 3, 4, 5, 6, 7, 8, 32, 33, 34, 35, 36, 37, 38] [0, 1, 9, 10, 11, 12, 13, 14, 15, 16, 17, 18, 19, 20, 21, 22, 23, 24, 25, 26, 27, 28, 29, 30, 31, 39, 40, 41, 42, 43, 44, 45, 46, 47, 48, 49, 50, 51, 52] [0, 1, 39, 40, 41, 42, 43, 44, 45, 2, 3, 4, 5, 6, 7, 8, 9, 10, 11, 12, 13, 14, 15, 16, 17, 18, 19, 20, 21, 22, 23, 24, 46, 47, 48, 49, 50, 51, 52, 25, 26, 27, 28, 29, 30, 31, 32, 33, 34, 35, 36, 37, 38] rfl rfl rfl rfl (by decide) rfl rfl rfl rfl gv_RX2_212 rfl np_X1_copyFrom hR hroom rfl hsum d hp kk
set_option maxRecDepth 10000 in
theorem b_cpyU4 {Γ : Ctx} {cc : ByteArray} {nL k n pc pc' : Nat} {R0 : Room} {lv : List (Nat × Value)} {st : List Value} (B : CX Γ cc nL RX2 R0) {a : Nat → Nat → Nat} {S : BO} {S1 : OB} (h : f_X1_copyFrom S.2.1 (S.2.2.1 4) = some S1) (hR : 2 ≤ R0.frames ∧ 85 ≤ R0.locals) (hroom : k ≤ R0.cells ∧ n ≤ R0.slots) (hsum : (st.map fun v => v.category).sum ≤ 8) (d : decode cc pc = .ok (.invokevirtual 212, 3)) (hp : pc + 3 = pc') (kk : X Γ nL k n pc' lv st (wB Γ.cs a (S.1, S1, S.2.2))) : X Γ nL k n pc lv (.ref (a 7 0) :: .ref (a 1 0) :: st) (wB Γ.cs a S) :=
  x_GVv (ws' := wB Γ.cs a (S.1, S1, S.2.2)) (wr := (wB Γ.cs a S).take 2 ++ ((wB Γ.cs a S).drop 9).take 30 ++ (wB Γ.cs a S).drop 46) B [.ref (a 7 0)] (k_X1_copyFrom _ _ _ (a 1) (a 7) S.2.1 (S.2.2.1 4) h) [2, 3, 4, 5, 6, 7, 8, 39, 40, 41, 42, 43, 44, 45] [0, 1, 9, 10, 11, 12, 13, 14, 15, 16, 17, 18, 19, 20, 21, 22, 23, 24, 25, 26, 27, 28, 29, 30, 31, 32, 33, 34, 35, 36, 37, 38, 46, 47, 48, 49, 50, 51, 52] [0, 1, 39, 40, 41, 42, 43, 44, 45, 2, 3, 4, 5, 6, 7, 8, 9, 10, 11, 12, 13, 14, 15, 16, 17, 18, 19, 20, 21, 22, 23, 24, 25, 26, 27, 28, 29, 30, 31, 46, 47, 48, 49, 50, 51, 52, 32, 33, 34, 35, 36, 37, 38] rfl rfl rfl rfl (by decide) rfl rfl rfl rfl gv_RX2_212 rfl np_X1_copyFrom hR hroom rfl hsum d hp kk
set_option maxRecDepth 10000 in
theorem b_cpyU5 {Γ : Ctx} {cc : ByteArray} {nL k n pc pc' : Nat} {R0 : Room} {lv : List (Nat × Value)} {st : List Value} (B : CX Γ cc nL RX2 R0) {a : Nat → Nat → Nat} {S : BO} {S1 : OB} (h : f_X1_copyFrom S.2.1 (S.2.2.1 5) = some S1) (hR : 2 ≤ R0.frames ∧ 85 ≤ R0.locals) (hroom : k ≤ R0.cells ∧ n ≤ R0.slots) (hsum : (st.map fun v => v.category).sum ≤ 8) (d : decode cc pc = .ok (.invokevirtual 212, 3)) (hp : pc + 3 = pc') (kk : X Γ nL k n pc' lv st (wB Γ.cs a (S.1, S1, S.2.2))) : X Γ nL k n pc lv (.ref (a 8 0) :: .ref (a 1 0) :: st) (wB Γ.cs a S) :=
  x_GVv (ws' := wB Γ.cs a (S.1, S1, S.2.2)) (wr := (wB Γ.cs a S).take 2 ++ ((wB Γ.cs a S).drop 9).take 37 ++ (wB Γ.cs a S).drop 53) B [.ref (a 8 0)] (k_X1_copyFrom _ _ _ (a 1) (a 8) S.2.1 (S.2.2.1 5) h) [2, 3, 4, 5, 6, 7, 8, 46, 47, 48, 49, 50, 51, 52] [0, 1, 9, 10, 11, 12, 13, 14, 15, 16, 17, 18, 19, 20, 21, 22, 23, 24, 25, 26, 27, 28, 29, 30, 31, 32, 33, 34, 35, 36, 37, 38, 39, 40, 41, 42, 43, 44, 45] [0, 1, 39, 40, 41, 42, 43, 44, 45, 2, 3, 4, 5, 6, 7, 8, 9, 10, 11, 12, 13, 14, 15, 16, 17, 18, 19, 20, 21, 22, 23, 24, 25, 26, 27, 28, 29, 30, 31, 32, 33, 34, 35, 36, 37, 38, 46, 47, 48, 49, 50, 51, 52] rfl rfl rfl rfl (by decide) rfl rfl rfl rfl gv_RX2_212 rfl np_X1_copyFrom hR hroom rfl hsum d hp kk
theorem b_cpyU {Γ : Ctx} {cc : ByteArray} {nL k n pc pc' : Nat} {R0 : Room} {lv : List (Nat × Value)} {st : List Value} {j : Nat} (hj : j < 6) (B : CX Γ cc nL RX2 R0) {a : Nat → Nat → Nat} {S : BO} {S1 : OB} (h : f_X1_copyFrom S.2.1 (S.2.2.1 j) = some S1) (hR : 2 ≤ R0.frames ∧ 85 ≤ R0.locals) (hroom : k ≤ R0.cells ∧ n ≤ R0.slots) (hsum : (st.map fun v => v.category).sum ≤ 8) (d : decode cc pc = .ok (.invokevirtual 212, 3)) (hp : pc + 3 = pc') (kk : X Γ nL k n pc' lv st (wB Γ.cs a (S.1, S1, S.2.2))) : X Γ nL k n pc lv (.ref (a (3 + j) 0) :: .ref (a 1 0) :: st) (wB Γ.cs a S) := by
  match j, hj with
  | 0, _ => exact b_cpyU0 B h hR hroom hsum d hp kk
  | 1, _ => exact b_cpyU1 B h hR hroom hsum d hp kk
  | 2, _ => exact b_cpyU2 B h hR hroom hsum d hp kk
  | 3, _ => exact b_cpyU3 B h hR hroom hsum d hp kk
  | 4, _ => exact b_cpyU4 B h hR hroom hsum d hp kk
  | 5, _ => exact b_cpyU5 B h hR hroom hsum d hp kk
  | j + 6, hj => exact absurd hj (by omega)
theorem gv_RX2_208 : GoodIn GW (wsV RX2 208 RX2 yX2_slotAt (.code yX2_slotAt cX2_slotAt 2 (some (.object "DictationBelt$State")) :: GW)) := gw_app [Cond.methodLink RX2 208 yX2_slotAt, Cond.instanceMethod yX2_slotAt, Cond.selects RX2 yX2_slotAt yX2_slotAt, Cond.initialized RX2, Cond.code yX2_slotAt cX2_slotAt 2 (some (.object "DictationBelt$State"))] [243, 244, 245, 2, 246] (by decide +kernel) (by decide +kernel)
abbrev rm_X2_slotAt : Room := { frames := 0, cells := 0, slots := 0, locals := 0 }
theorem np_X2_slotAt : yX2_slotAt.cls ≠ "java/lang/invoke/MethodHandle" ∧ yX2_slotAt.cls ≠ "java/lang/invoke/VarHandle" ∧ (parseMethodDescriptor yX2_slotAt.desc).map (fun d => d.parameters.length) = some 1 := by decide +kernel
theorem MR_of {l : Launch} {D : va_G} {cs : CS} {y : MethodName} {bytes : ByteArray} {maxL sz ad : Nat} {nm : String} {rm : Room} {av : List Value} {w w' : va_W} (hy : plainName y.cls = true) (hlen : (lg_sl av).length ≤ maxL)
    (body : ∀ Γ : Ctx, Γ.l = l → Γ.D = D → Γ.cs = cs → CX Γ bytes maxL y.cls rm → (∀ {k n pc : Nat} {lv : List (Nat × Value)}, k ≤ rm.cells → n ≤ rm.slots → decode bytes pc = .ok (.areturn, 1) → X Γ maxL k n pc lv [.ref ad] w') → X Γ maxL 0 0 0 (lv_args 0 av) [] w) : Met l y (.code y bytes maxL (some (.object nm)) :: GW) rm (PR D cs av w sz) (va_Qr (S := Unit) (fun _ => True) (fun u q t => q = ad ∧ PO D w w' sz u t) (va_A w sz)) rm.cells rm.slots (va_A w sz) := by
  refine Met.ofW (cc := bytes) (maxL := maxL) (ret := some (.object nm)) hy rfl ?_
  intro p e s m args below meth c s₁ B hml hv
  obtain ⟨rfl, hsz, hP, hK, hD0⟩ := hv
  subst hsz
  have hts := atoms_spec (ws := .code y bytes maxL (some (.object nm)) :: GW) B.pre
  have hown : s.vm.findClass y.cls = some m.cls := findClass_of_methodNamed B.named
  have hl := lv_entry av (n := maxL) hlen
  rw [lg_entry_eq]
  have hD := hD0.self (sz := s.heap.size)
  refine body (p, l, e, rm, s, m, av.toArray, below, meth, c, _, va_A w s.heap.size, D, cs) rfl rfl rfl ⟨⟨B.exec, B.bytes, hml, hown, fun w h => hts w (List.mem_cons_of_mem _ h)⟩, hK, fun q h => Or.inr h, B.notSynchronized, rfl⟩ ?_ s.heap [] _ hP hD va_S.rf hl
  intro k n pc lv hk hn d H locs ls hP1 hD1 hS hl1
  have hlocks : meth.locks = false := B.notSynchronized
  exact W.widen hk hn (W.aret B.exec B.bytes B.returns (Or.inl ⟨_, rfl⟩) (Or.inr ⟨_, rfl⟩) (fun t ht hW => ⟨⟨(), _, rfl, trivial, rfl, by rw [ht]; exact hP1, hD1⟩, hS.F ht⟩) hS.2.2 d)
set_option maxHeartbeats 4000000 in
set_option maxRecDepth 100000 in
theorem k_X2_slotAt (l : Launch) (D : va_G) (cs : CS) (a : Nat → Nat → Nat) (i : Int32) (S : BO) (hi : vp_in i 6) (sz : Nat) : Met l yX2_slotAt (.code yX2_slotAt cX2_slotAt 2 (some (.object "DictationBelt$State")) :: GW) rm_X2_slotAt (PR D cs [.ref (a 0 0), .int i] (wB cs a S) sz) (va_Qr (S := Unit) (fun _ => True) (fun u q t => q = a (3 + i.toNatClampNeg) 0 ∧ PO D (wB cs a S) (wB cs a S) sz u t) (va_A (wB cs a S) sz)) 0 0 (va_A (wB cs a S) sz) := by
  refine MR_of (rm := rm_X2_slotAt) (by decide) (Nat.le_of_ble_eq_true rfl) ?_
  rintro Γ rfl rfl rfl B ret
  show X Γ 2 0 0 0 [(0, .ref (a 0 0)), (1, .int i)] [] (wB Γ.cs a S)
  have hi1 : ¬ i < 0 := fun h => hi (Or.inl h)
  have hi2 : ¬ (6 : Int32) ≤ i := by
    obtain ⟨j, hj, rfl⟩ := vp_in_of hi (by decide)
    exact nI_ge hj (by decide)
  refine x_iload_n B (pc' := 1) 1 dX2_slotAt_0 rfl rfl rfl ?_
  refine x_if_lt B 22 4 dX2_slotAt_1 (by decide) rfl (fun hc => absurd hc hi1) (fun hc => ?_)
  refine x_iload_n B (pc' := 5) 1 dX2_slotAt_4 rfl rfl rfl ?_
  refine x_aload_n B (pc' := 6) 0 dX2_slotAt_5 rfl rfl rfl ?_
  refine b_ref1 B (pc' := 9) wf_RX2_16 dX2_slotAt_6 rfl ?_
  refine x_alenR B (pc' := 10) 6 1 rfl rfl dX2_slotAt_9 rfl ?_
  refine x_icmp_ge B 22 13 dX2_slotAt_10 (by decide) rfl (fun hc => absurd hc hi2) (fun hc => ?_)
  refine x_aload_n B (pc' := 14) 0 dX2_slotAt_13 rfl rfl rfl ?_
  refine b_ref1 B (pc' := 17) wf_RX2_16 dX2_slotAt_14 rfl ?_
  refine x_iload_n B (pc' := 18) 1 dX2_slotAt_17 rfl rfl rfl ?_
  refine x_aald B (pc' := 19) 1 rfl hi dX2_slotAt_18 rfl ?_
  refine x_goto B (pc' := 23) dX2_slotAt_19 (by decide) ?_
  exact ret (Nat.le_of_ble_eq_true rfl) (Nat.le_of_ble_eq_true rfl) dX2_slotAt_23
theorem b_slotAt {Γ : Ctx} {cc : ByteArray} {nL k n pc pc' : Nat} {R0 : Room} {lv : List (Nat × Value)} {st : List Value} (B : CX Γ cc nL RX2 R0) {a : Nat → Nat → Nat} {S : BO} {i : Int32} {j : Nat} (hi : vp_in i 6) (ej : j = i.toNatClampNeg) (hR : 1 ≤ R0.frames ∧ 21 ≤ R0.locals) (hroom : k ≤ R0.cells ∧ n ≤ R0.slots) (hsum : (st.map fun v => v.category).sum ≤ 8) (d : decode cc pc = .ok (.invokevirtual 208, 3)) (hp : pc + 3 = pc') (kk : X Γ nL k n pc' lv (.ref (a (3 + j) 0) :: st) (wB Γ.cs a S)) : X Γ nL k n pc lv (.int i :: .ref (a 0 0) :: st) (wB Γ.cs a S) := by
  obtain ⟨p, l, e, R, s, m, args, below, meth, c, Q, A, D, cs⟩ := Γ
  subst hp
  subst ej
  obtain ⟨hfix, hKN, hA, hlk, rfl⟩ := B
  intro H locs ls hP hD hS hl
  have hFc : ∀ q, va_A (wB cs a S) H.size q → A q := fun q h => h.elim (fun ⟨k9, e9, h9⟩ => hD.2 k9 (q, e9) h9) (fun h9 => hA q (Nat.le_trans hS.1 h9))
  refine va_callr (va_runV (As := [.int i]) (rest := st) hfix (k_X2_slotAt l D cs a i S hi H.size) (cwV 1 hfix.2.2.2.2 gv_RX2_208 rfl rfl rfl ⟨rfl, np_X2_slotAt⟩ hR) ⟨pr_blind _ _ _ _ _, va_recv (ci := 2) hKN.1 hP (q := (RX2, TX2, 5)) rfl (q0 := 0) rfl, fun U hU hW => ⟨rfl, by rw [hU], by rw [hU]; exact hP, KN.warm hW hKN, hD.weaken (fun _ _ _ _ => trivial)⟩⟩ rfl rfl hl.1 rfl (lv_room hsum) d hroom) hS (fun q _ h => hFc q h) hFc (fun u q t H1 locs1 ht hvm hw hB hz1 hk1 hS1 => ?_)
  obtain ⟨rfl, hP1, hD1⟩ := hB
  rw [ht] at hP1
  exact kk H1 locs1 ls hP1 (hD1.weaken (fun k9 q9 _ h9 => hFc q9.1 h9)) hS1 hl
