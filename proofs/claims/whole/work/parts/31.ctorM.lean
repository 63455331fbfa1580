def b_X3_init_45 (K45 : Int32 → MO → Option MO) (x1 : Int32) (S : MO) : Option MO :=
  if (32 : Int32) ≤ x1 then (some S) else (gd ((27 : Int32) + x1) 1085 (nm (fun (S9 : MO) => nm (fun (v10 : Int32) => K45 v10 S9) (x1 + 1)) (S.1, up2 S.2.1 1 (upd (S.2.1 1) (Int32.toNatClampNeg ((27 : Int32) + x1)) ((-1) : Int32)), S.2.2)))
/-- what the reference's constructor does behind its two arrays -/
def f_X3_init (S : MO) : Option MO :=
  gd (1 : Int32) 1085 (nm (fun (S2 : MO) => gd (5 : Int32) 1085 (nm (fun (S4 : MO) => gd (6 : Int32) 1085 (nm (fun (S6 : MO) => lpf2 (b_X3_init_45) FU (0 : Int32) S6) (S4.1, up2 S4.2.1 1 (upd (S4.2.1 1) (Int32.toNatClampNeg (6 : Int32)) ((-1) : Int32)), S4.2.2))) (S2.1, up2 S2.2.1 1 (upd (S2.2.1 1) (Int32.toNatClampNeg (5 : Int32)) ((-1) : Int32)), S2.2.2))) (S.1, up2 S.2.1 1 (upd (S.2.1 1) (Int32.toNatClampNeg (1 : Int32)) ((-1) : Int32)), S.2.2))
abbrev zM (h : Nat) : va_W := [(h, .inr (3, [.int 0, .null, .int 0, .null, .int 0, .int 0, .int 0, .int 0, .int 0, .long 0]))]
def iM : MO := ((fun _ => 0), (fun _ _ => 0), 0)
abbrev rm_X3_init : Room := { frames := 1, cells := 2, slots := 1145, locals := 20 }
set_option maxHeartbeats 4000000 in
set_option maxRecDepth 100000 in
theorem k_X3_init (l : Launch) (D : va_G) (cs : CS) (h0 : Nat) {S9 : MO} (h : f_X3_init iM = some S9) : KI l D cs yX3_init cX3_init 2 rm_X3_init [.ref h0] (zM h0) (fun (u : Nat → Nat) => u 0 = h0) (fun u => wM cs.1 u S9) := by
  refine KI_of (by decide) rfl (Nat.le_of_ble_eq_true rfl) ?_
  rintro Γ rfl rfl rfl B hin ret0
  show X Γ 2 0 0 0 [(0, .ref h0)] [] (zM h0)
  refine x_aload_n B (pc' := 1) 0 dX3_init_0 rfl rfl rfl ?_
  refine x_objInit B (pc' := 4) wo_RX3_1 wo1 wo2 ⟨Nat.le_of_ble_eq_true rfl, Nat.le_of_ble_eq_true rfl⟩ (Nat.le_of_ble_eq_true rfl) dX3_init_1 rfl ?_
  refine x_aload_n B (pc' := 5) 0 dX3_init_4 rfl rfl rfl ?_
  refine x_sipush B (pc' := 8) 1085 dX3_init_5 (by decide) rfl ?_
  refine x_newa B (pc' := 10) 1085 (by decide) (by decide) (Nat.le_of_ble_eq_true rfl) wac ⟨Nat.le_of_ble_eq_true rfl, Nat.le_of_ble_eq_true rfl⟩ dX3_init_8 rfl (fun q1 => ?_)
  refine x_putF (ws' := [(h0, .inr (3, [.int 0, .ref q1, .int 0, .null, .int 0, .int 0, .int 0, .int 0, .int 0, .long 0])), (q1, .inl (Γ.cs.1, 1085, .inl (fun _ => 0)))]) B hin (pc' := 13) 0 1 tyX3 tyX3_ok nmX3 rfl rfl inlX3 (by decide) wf_RX3_7 rfl rfl rfl rfl (Nat.le_of_ble_eq_true rfl) rfl dX3_init_10 rfl ?_
  refine x_aload_n B (pc' := 14) 0 dX3_init_13 rfl rfl rfl ?_
  refine x_bipush B (pc' := 16) 60 dX3_init_14 (by decide) rfl ?_
  refine x_newa B (pc' := 18) 60 (by decide) (by decide) (Nat.le_of_ble_eq_true rfl) wac ⟨by exact Nat.le_of_ble_eq_true rfl, by exact Nat.le_of_ble_eq_true rfl⟩ dX3_init_16 rfl (fun q2 => ?_)
  refine x_putF (ws' := wM Γ.cs.1 (fun i => if i = 0 then h0 else if i = 1 then q1 else q2) iM) B hin (pc' := 21) 0 3 tyX3 tyX3_ok nmX3 rfl rfl inlX3 (by decide) wf_RX3_13 rfl rfl rfl rfl (Nat.le_of_ble_eq_true rfl) rfl dX3_init_18 rfl ?_
  obtain ⟨a, ea⟩ : ∃ a : Nat → Nat, a = (fun i => if i = 0 then h0 else if i = 1 then q1 else q2) := ⟨_, rfl⟩
  have ea0 : a 0 = h0 := by rw [ea]; rfl
  rw [← ea, ← ea0]
  have ret : ∀ {k n pc : Nat} {lv : List (Nat × Value)}, k ≤ 2 → n ≤ 1145 → decode cX3_init pc = .ok (.return_, 1) → X Γ 2 k n pc lv [] (wM Γ.cs.1 a S9) := fun h1 h2 h3 => ret0 a ea0 h1 h2 h3
  refine x_widen (k' := 2) (n' := 1145) (by exact Nat.le_of_ble_eq_true rfl) (by exact Nat.le_of_ble_eq_true rfl) ?_
  obtain ⟨S, eS⟩ : ∃ S : MO, S = iM := ⟨_, rfl⟩
  rw [← eS]
  rw [← eS] at h
  have h45 : ∀ (n9 : Nat) (x1 : Int32) (S : MO), lpf2 (b_X3_init_45) n9 x1 S = some S9 → X Γ 2 2 1145 45 [(0, .ref (a 0)), (1, .int x1)] [] (wM Γ.cs.1 a S) := by
    refine lpf2_ind (fun K45 hK45 x1 S h => ?_)
    unfold b_X3_init_45 at h
    refine x_iload_n B (pc' := 46) 1 dX3_init_45 rfl rfl rfl ?_
    refine x_bipush B (pc' := 48) 32 dX3_init_46 (by decide) rfl ?_
    refine x_icmp_ge B 67 51 dX3_init_48 (by decide) rfl (fun hc7 => ?_) (fun hc7 => ?_)
    · replace h := ite_t hc7 h
      cases h
      exact ret (by exact Nat.le_of_ble_eq_true rfl) (by exact Nat.le_of_ble_eq_true rfl) dX3_init_67
    · replace h := ite_f hc7 h
      refine x_aload_n B (pc' := 52) 0 dX3_init_51 rfl rfl rfl ?_
      refine m_ref1 B (pc' := 55) wf_RX3_7 dX3_init_52 rfl ?_
      refine x_bipush B (pc' := 57) 27 dX3_init_55 (by decide) rfl ?_
      refine x_iload_n B (pc' := 58) 1 dX3_init_57 rfl rfl rfl ?_
      refine x_iadd B (pc' := 59) dX3_init_58 rfl ?_
      refine x_iconst B (pc' := 60) (-1) dX3_init_59 (by decide) rfl ?_
      obtain ⟨hi8, h⟩ := gd_elim h
      obtain ⟨S9, eS9, h⟩ := nm_elim h
      refine m_ast1 B (pc' := 61) hi8 dX3_init_60 rfl ?_
      refine m_wd eS9 ?_
      obtain ⟨v10, ev10, h⟩ := nm_elim h
      refine x_iinc B (pc' := 64) v10 1 [1, 0] [(0, .ref (a 0)), (1, .int v10)] dX3_init_61 rfl (by rw [ev10]; rfl) (by decide) rfl rfl ?_
      refine x_goto B (pc' := 45) dX3_init_64 (by decide) ?_
      refine x_widen (k' := 2) (n' := 1145) (by exact Nat.le_of_ble_eq_true rfl) (by exact Nat.le_of_ble_eq_true rfl) ?_
      exact hK45 _ _ h
  unfold f_X3_init at h
  refine x_aload_n B (pc' := 22) 0 dX3_init_21 rfl rfl rfl ?_
  refine m_ref1 B (pc' := 25) wf_RX3_7 dX3_init_22 rfl ?_
  refine x_iconst B (pc' := 26) 1 dX3_init_25 (by decide) rfl ?_
  refine x_iconst B (pc' := 27) (-1) dX3_init_26 (by decide) rfl ?_
  obtain ⟨hi1, h⟩ := gd_elim h
  obtain ⟨S2, eS2, h⟩ := nm_elim h
  refine m_ast1 B (pc' := 28) hi1 dX3_init_27 rfl ?_
  refine m_wd eS2 ?_
  refine x_aload_n B (pc' := 29) 0 dX3_init_28 rfl rfl rfl ?_
  refine m_ref1 B (pc' := 32) wf_RX3_7 dX3_init_29 rfl ?_
  refine x_iconst B (pc' := 33) 5 dX3_init_32 (by decide) rfl ?_
  refine x_iconst B (pc' := 34) (-1) dX3_init_33 (by decide) rfl ?_
  obtain ⟨hi3, h⟩ := gd_elim h
  obtain ⟨S4, eS4, h⟩ := nm_elim h
  refine m_ast1 B (pc' := 35) hi3 dX3_init_34 rfl ?_
  refine m_wd eS4 ?_
  refine x_aload_n B (pc' := 36) 0 dX3_init_35 rfl rfl rfl ?_
  refine m_ref1 B (pc' := 39) wf_RX3_7 dX3_init_36 rfl ?_
  refine x_bipush B (pc' := 41) 6 dX3_init_39 (by decide) rfl ?_
  refine x_iconst B (pc' := 42) (-1) dX3_init_41 (by decide) rfl ?_
  obtain ⟨hi5, h⟩ := gd_elim h
  obtain ⟨S6, eS6, h⟩ := nm_elim h
  refine m_ast1 B (pc' := 43) hi5 dX3_init_42 rfl ?_
  refine m_wd eS6 ?_
  refine x_iconst B (pc' := 44) 0 dX3_init_43 (by decide) rfl ?_
  refine x_istore_n B (pc' := 45) [1, 0] [(0, .ref (a 0)), (1, .int (0 : Int32))] dX3_init_44 rfl (by decide) rfl rfl ?_
  refine x_widen (k' := 2) (n' := 1145) (by exact Nat.le_of_ble_eq_true rfl) (by exact Nat.le_of_ble_eq_true rfl) ?_
  exact h45  _ _ _ h
