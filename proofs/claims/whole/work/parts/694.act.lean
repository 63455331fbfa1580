/-! one order obeyed -/
theorem spkN_ok : ∀ (k : Nat) (A : AT) (v : Int32), INV A → A.run = true → k ≤ wrc A → INV (spkN A v k) ∧ (spkN A v k).sp = A.sp + k := by
  intro k
  induction k with
  | zero => intro A v hi _ _; exact ⟨hi, rfl⟩
  | succ k ih =>
    intro A v hi hr hk
    obtain ⟨x, e, hx, hw, es, s1, s2, s3, s4⟩ := spk_ok hi hr (Nat.lt_of_lt_of_le (Nat.succ_pos k) hk) v
    have hk' : k ≤ wrc (spk A v) := Nat.le_of_succ_le_succ (Nat.le_trans hk (Nat.le_of_eq s3.symm))
    clear hk s3
    obtain ⟨i1, i2⟩ := ih (spk A v) v s1 s2 hk'
    refine ⟨i1, ?_⟩
    show (spkN (spk A v) v k).sp = _
    rw [i2, s4]
    clear hk'
    omega
theorem m_spkN {v : Int32} {m : Nat} (hm : m < 2 ^ 31) : ∀ (k f i : Nat) (A : AT) (M : MO), INV A → A.sp + k < 2 ^ 31 → RM A (M.2.1 1) → A.run = true → k ≤ wrc A → i + k = m → k < f → M.1 7 = nI m → M.1 8 = v → ∃ M', lpf2 b_X3_does_122 f (nI i) M = some M' ∧ RM (spkN A v k) (M'.2.1 1) ∧ FR M M' := by
  intro k
  induction k with
  | zero =>
    intro f i A M hi hs h hr hk hj hf h7 h8
    obtain ⟨f, rfl⟩ : ∃ g, f = g + 1 := ⟨f - 1, by clear hk; omega⟩
    rw [lpf2_s]
    unfold b_X3_does_122
    have hj : i = m := hj
    rw [h7, hj, if_pos (Int32.le_refl _)]
    exact ⟨M, rfl, h, FR_r M⟩
  | succ k ih =>
    intro f i A M hi hs h hr hk hj hf h7 h8
    obtain ⟨f, rfl⟩ : ∃ g, f = g + 1 := ⟨f - 1, by clear hk; omega⟩
    obtain ⟨x, e, hx, hw, es, s1, s2, s3, s4⟩ := spk_ok hi hr (Nat.lt_of_lt_of_le (Nat.succ_pos k) hk) v
    have hk' : k ≤ wrc (spk A v) := Nat.le_of_succ_le_succ (Nat.le_trans hk (Nat.le_of_eq s3.symm))
    clear hk s3
    have hs1 : A.sp < 2 ^ 31 := by clear hk'; omega
    have hs2 : (spk A v).sp + k < 2 ^ 31 := by rw [s4]; clear hk'; omega
    have hf2 : k < f := by clear hk'; omega
    have hij : i + 1 + k = m := by clear hk'; omega
    have him : ¬ m ≤ i := by clear hk'; omega
    have hi31 : i < 2 ^ 31 := by clear hk'; omega
    obtain ⟨M1, k1, k2, k3⟩ := m_spk hi hs1 h hr e v
    obtain ⟨M2, j1, j2, j3⟩ := ih f (i + 1) (spk A v) M1 s1 hs2 k2 s2 hk' hij hf2 (by rw [k3.1]; exact h7) (by rw [k3.1]; exact h8)
    rw [lpf2_s]
    generalize lpf2 b_X3_does_122 f = K at j1 ⊢
    unfold b_X3_does_122
    rw [h7, if_neg (by rw [nI_leI hm hi31]; exact him), h8, k1, bd2_some, nm_eq, show nI i + 1 = nI (i + 1) from nI_1 i]
    exact ⟨M2, j1, j2, FR_t k3 j3⟩
/-- the two act alike -/
def AC (A : AT) (S : BO) (M : MO) (x u v : Nat) : Prop := (f_X2_mayObey (nI x) (nI u) (nI v) S = some 0 ∧ f_X3_can M = some 0) ∨ ∃ T M' B, f_X2_mayObey (nI x) (nI u) (nI v) S = some 1 ∧ f_X3_can M = some 1 ∧ f_X2_obey (nI x) (nI u) (nI v) S = some (S.1, T, S.2.2) ∧ f_X3_does M = some M' ∧ INV B ∧ RS B T ∧ RM B (M'.2.1 1) ∧ FR M M' ∧ B.sp ≤ A.sp + 32
theorem ac_98 {A : AT} {S : BO} {M : MO} (hi : INV A) (h : RS A S.2.1) (hm : RM A (M.2.1 1)) (h6 : M.1 6 = nI 98) (u v : Nat) : AC A S M 98 u v := by
  have c1 : f_X2_mayObey (nI 98) (nI u) (nI v) S = some (bZ (mayB A)) := by
    unfold f_X2_mayObey
    rw [if_pos (show nI 98 = 98 from rfl), s_mayB hi h, bd_some, zb_bZ]
  have c2 : f_X3_can M = some (bZ (mayB A)) := by
    unfold f_X3_can
    rw [h6, if_pos (show nI 98 = 98 from rfl), m_mayB hi hm, bd_some, zb_bZ]
  cases e : mayB A with
  | false => rw [e] at c1 c2; exact .inl ⟨c1, c2⟩
  | true =>
    rw [e] at c1 c2
    obtain ⟨T, a1, a2⟩ := s_bgn hi h e
    obtain ⟨N, b1, b2, b3⟩ := m_bgn hi hm e
    refine .inr ⟨T, N, bgn A, c1, c2, ?_, ?_, INV_bgn hi e, a2, b2, b3, by rw [bgn_sp]; omega⟩
    · unfold f_X2_obey
      rw [if_pos (show nI 98 = 98 from rfl), a1, bd2_some, nm_eq]
    · unfold f_X3_does
      rw [h6, if_pos (show nI 98 = 98 from rfl), b1, bd2_some]
theorem ac_104 {A : AT} {S : BO} {M : MO} (hi : INV A) (h : RS A S.2.1) (hm : RM A (M.2.1 1)) (h6 : M.1 6 = nI 104) (u v : Nat) : AC A S M 104 u v := by
  have hn := INV_n hi
  have c1 : f_X2_mayObey (nI 104) (nI u) (nI v) S = some (bZ A.run) := by
    unfold f_X2_mayObey
    rw [if_neg (by decide), if_neg (by decide), if_neg (by decide), if_neg (by decide), if_pos (show nI 104 = 104 from rfl), RS_run h, zb_bZ]
  have c2 : f_X3_can M = some (bZ A.run) := by
    unfold f_X3_can
    rw [h6, if_neg (by decide), if_neg (by decide), if_pos (show nI 104 = 104 from rfl), show gd (1 : Int32) = @gd Int32 (nI 1) from rfl, gd_nI (by omega) (by decide), show Int32.toNatClampNeg 1 = 1 from rfl, RM_run hm]
    cases e : A.run with
    | false => rw [if_pos (show oI (rn A) = -1 by unfold rn; rw [e]; rfl)]; rfl
    | true =>
      have := INV_r hi e
      rw [if_neg (show ¬ oI (rn A) = -1 by rw [rn_run e]; exact nI_m1 (n := A.n - 1) (by omega))]; rfl
  cases e : A.run with
  | false => rw [e] at c1 c2; exact .inl ⟨c1, c2⟩
  | true =>
    rw [e] at c1 c2
    obtain ⟨T, a1, a2⟩ := s_stp hi h e
    obtain ⟨N, b1, b2, b3⟩ := m_stp hi e hm
    refine .inr ⟨T, N, stp A, c1, c2, ?_, ?_, INV_stp hi e, a2, b2, b3, by rw [stp_sp]; omega⟩
    · unfold f_X2_obey
      rw [if_neg (by decide), if_neg (by decide), if_neg (by decide), if_neg (by decide), if_pos (show nI 104 = 104 from rfl), a1, bd2_some, nm_eq]
    · unfold f_X3_does
      rw [h6, if_neg (by decide), if_neg (by decide), if_neg (by decide), if_pos (show nI 104 = 104 from rfl), b1, bd2_some]
theorem ac_112 {A : AT} {S : BO} {M : MO} (hi : INV A) (hs : A.sp < 2 ^ 31) (h : RS A S.2.1) (hm : RM A (M.2.1 1)) (h6 : M.1 6 = nI 112) (u v : Nat) : AC A S M 112 u v := by
  have hn := INV_n hi
  have c1 : f_X2_mayObey (nI 112) (nI u) (nI v) S = if oI (A.P.map Prod.fst) = -1 then some 0 else some 1 := by
    unfold f_X2_mayObey
    rw [if_neg (by decide), if_neg (by decide), if_neg (by decide), if_neg (by decide), if_neg (by decide), if_neg (by decide), if_pos (show nI 112 = 112 from rfl), RS_p1 h]
  have c2 : f_X3_can M = if oI (A.P.map Prod.fst) = -1 then some 0 else some 1 := by
    unfold f_X3_can
    rw [h6, if_neg (by decide), if_neg (by decide), if_neg (by decide), if_neg (by decide), if_pos (show nI 112 = 112 from rfl), show gd (5 : Int32) = @gd Int32 (nI 5) from rfl, gd_nI (by omega) (by decide), show Int32.toNatClampNeg 5 = 5 from rfl, RM_p1 hm]
  cases e : A.P with
  | none =>
    rw [e] at c1 c2
    exact .inl ⟨c1.trans rfl, c2.trans rfl⟩
  | some w =>
    obtain ⟨r, p⟩ := w
    have hP := INV_P hi r p e
    have e1 : ¬ oI (A.P.map Prod.fst) = -1 := by rw [e]; exact nI_m1 (n := r) (by omega)
    rw [if_neg e1] at c1 c2
    obtain ⟨T, a1, a2⟩ := s_play hi h e
    obtain ⟨N, b1, b2, b3⟩ := m_play hi hs hm e
    refine .inr ⟨T, N, ply A r p, c1, c2, ?_, ?_, INV_ply hi hP.1, a2, b2, b3, by rw [ply_sp]; omega⟩
    · unfold f_X2_obey
      rw [if_neg (by decide), if_neg (by decide), if_neg (by decide), if_neg (by decide), if_neg (by decide), if_neg (by decide), if_pos (show nI 112 = 112 from rfl), a1, bd2_some, nm_eq]
    · unfold f_X3_does
      rw [h6, if_neg (by decide), if_neg (by decide), if_neg (by decide), if_neg (by decide), if_neg (by decide), if_pos (show nI 112 = 112 from rfl), b1, bd2_some]
theorem ac_107 {A : AT} {S : BO} {M : MO} (hi : INV A) (h : RS A S.2.1) (hm : RM A (M.2.1 1)) (h6 : M.1 6 = nI 107) (u : Nat) {v : Nat} (hv : v ≤ 9) (h7 : M.1 7 = nI v) : AC A S M 107 u v := by
  have hn := INV_n hi
  have c1 : f_X2_mayObey (nI 107) (nI u) (nI v) S = if oI (A.P.map Prod.fst) = -1 then some 0 else some 1 := by
    unfold f_X2_mayObey
    rw [if_neg (by decide), if_neg (by decide), if_neg (by decide), if_neg (by decide), if_neg (by decide), if_pos (show nI 107 = 107 from rfl), RS_p1 h]
  have c2 : f_X3_can M = if oI (A.P.map Prod.fst) = -1 then some 0 else some 1 := by
    unfold f_X3_can
    rw [h6, if_neg (by decide), if_neg (by decide), if_neg (by decide), if_pos (show nI 107 = 107 from rfl), show gd (5 : Int32) = @gd Int32 (nI 5) from rfl, gd_nI (by omega) (by decide), show Int32.toNatClampNeg 5 = 5 from rfl, RM_p1 hm]
  cases e : A.P with
  | none =>
    rw [e] at c1 c2
    exact .inl ⟨c1.trans rfl, c2.trans rfl⟩
  | some w =>
    obtain ⟨r, p⟩ := w
    have hP := INV_P hi r p e
    have e1 : ¬ oI (A.P.map Prod.fst) = -1 := by rw [e]; exact nI_m1 (n := r) (by omega)
    rw [if_neg e1] at c1 c2
    obtain ⟨T, a1, a2⟩ := s_back hi h hv e
    obtain ⟨N, b1, b2, b3⟩ := m_back hi hm hv e
    refine .inr ⟨T, N, sP A (some (r, p - v)), c1, c2, ?_, ?_, INV_pl hi (fun r' p' e => by cases e; exact ⟨hP.1, by omega⟩), a2, b2, b3, by rw [pl_sp]; omega⟩
    · unfold f_X2_obey
      rw [if_neg (by decide), if_neg (by decide), if_neg (by decide), if_neg (by decide), if_neg (by decide), if_pos (show nI 107 = 107 from rfl), a1, bd2_some, nm_eq]
    · unfold f_X3_does
      rw [h6, if_neg (by decide), if_neg (by decide), if_neg (by decide), if_neg (by decide), if_pos (show nI 107 = 107 from rfl), h7, b1, bd2_some]
