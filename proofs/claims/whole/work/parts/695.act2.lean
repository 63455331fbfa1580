theorem may_rec {A : AT} {S : BO} {M : MO} (hi : INV A) (h : RS A S.2.1) (hm : RM A (M.2.1 1)) {v : Nat} (hv : v < 100) (h7 : M.1 7 = nI v) : f_X1_isRecording (nI v) S.2.1 = some (bZ (decide (v < A.n))) ∧ f_X3_isRecording (M.1 7) M = some (bZ (decide (v < A.n))) := by
  have hn := INV_n hi
  rw [h7]
  rcases sm_rec hi h hm (nI v) with ⟨e1, e2⟩ | ⟨r, hr, e, e1, e2⟩
  · have : ¬ v < A.n := fun q => by
      unfold f_X1_isRecording at e1
      rw [if_neg (nI_pos (by omega)), RS_n h, if_neg (by rw [nI_leI (by omega) (by omega)]; omega)] at e1
      exact absurd e1 (by decide)
    rw [e1, e2, decide_eq_false this]
    exact ⟨rfl, rfl⟩
  · have : v = r := (nI_eq (by omega) (by omega)).mp e
    rw [e1, e2, decide_eq_true (by omega)]
    exact ⟨rfl, rfl⟩
theorem ac_101 {A : AT} {S : BO} {M : MO} (hi : INV A) (h : RS A S.2.1) (hm : RM A (M.2.1 1)) (h6 : M.1 6 = nI 101) (u : Nat) {v : Nat} (hv : v < 100) (h7 : M.1 7 = nI v) : AC A S M 101 u v := by
  have hn := INV_n hi
  obtain ⟨q1, q2⟩ := may_rec hi h hm hv h7
  by_cases hr : v < A.n
  · rw [decide_eq_true hr] at q1 q2
    have c1 : f_X2_mayObey (nI 101) (nI u) (nI v) S = some (bZ (!A.fl v)) := by
      unfold f_X2_mayObey
      rw [if_neg (by decide), if_pos (show nI 101 = 101 from rfl), q1, bd_some, if_neg (by decide), s_flag hi h hr, bd_some]
      cases A.fl v <;> rfl
    have c2 : f_X3_can M = some (bZ (!A.fl v)) := by
      unfold f_X3_can
      rw [h6, if_neg (by decide), if_pos (show nI 101 = 101 from rfl), q2, bd_some, if_neg (by decide), h7, show (7 : Int32) + nI v = nI (7 + v) from nI_add 7 v, gd_nI (by omega) (by decide), nI_clamp (by omega), RM_fl hm hr]
      cases A.fl v <;> rfl
    cases e : A.fl v with
    | true => rw [e] at c1 c2; exact .inl ⟨c1, c2⟩
    | false =>
      rw [e] at c1 c2
      obtain ⟨T, a1, a2⟩ := s_ers hi h hr
      obtain ⟨N, b1, b2, b3⟩ := m_leaves hi hm hr
      refine .inr ⟨T, N, rmv A v, c1, c2, ?_, ?_, INV_rmv hi hr, a2, b2, b3, by rw [rmv_sp]; omega⟩
      · unfold f_X2_obey
        rw [if_neg (by decide), if_pos (show nI 101 = 101 from rfl), a1, bd2_some, nm_eq]
      · unfold f_X3_does
        rw [h6, if_neg (by decide), if_pos (show nI 101 = 101 from rfl), h7, b1, bd_some]
  · rw [decide_eq_false hr] at q1 q2
    refine .inl ⟨?_, ?_⟩
    · unfold f_X2_mayObey
      rw [if_neg (by decide), if_pos (show nI 101 = 101 from rfl), q1]
      rfl
    · unfold f_X3_can
      rw [h6, if_neg (by decide), if_pos (show nI 101 = 101 from rfl), q2]
      rfl
theorem can_rec {M : MO} {x : Nat} (h6 : M.1 6 = nI x) (hx : x = 102 ∨ x = 103 ∨ x = 117) : f_X3_can M = bd (f_X3_isRecording (M.1 7) M) (fun r => zb r (some r)) := by
  unfold f_X3_can
  rw [h6]
  rcases hx with rfl | rfl | rfl <;> rw [if_neg (by decide), if_neg (by decide), if_neg (by decide), if_neg (by decide), if_neg (by decide), if_neg (by decide), if_neg (by decide)]
theorem ac_103 {A : AT} {S : BO} {M : MO} (hi : INV A) (h : RS A S.2.1) (hm : RM A (M.2.1 1)) (h6 : M.1 6 = nI 103) (u : Nat) {v : Nat} (hv : v < 100) (h7 : M.1 7 = nI v) : AC A S M 103 u v := by
  have hn := INV_n hi
  obtain ⟨q1, q2⟩ := may_rec hi h hm hv h7
  have c1 : f_X2_mayObey (nI 103) (nI u) (nI v) S = some (bZ (decide (v < A.n))) := by
    unfold f_X2_mayObey
    rw [if_neg (by decide), if_neg (by decide), if_neg (by decide), if_pos (show nI 103 = 103 from rfl), q1, bd_some, zb_bZ]
  have c2 : f_X3_can M = some (bZ (decide (v < A.n))) := by
    rw [can_rec h6 (by omega), q2, bd_some, zb_bZ]
  by_cases hr : v < A.n
  · rw [decide_eq_true hr] at c1 c2
    obtain ⟨T, a1, a2⟩ := s_go h v
    obtain ⟨N, b1, b2, b3⟩ := m_go hi hm hr
    refine .inr ⟨T, N, sP A (some (v, 0)), c1, c2, ?_, ?_, INV_pl hi (fun r' p' e => by cases e; exact ⟨hr, Nat.zero_le _⟩), a2, b2, b3, by rw [pl_sp]; omega⟩
    · unfold f_X2_obey
      rw [if_neg (by decide), if_neg (by decide), if_neg (by decide), if_pos (show nI 103 = 103 from rfl), a1, bd_some, nm_eq]
    · unfold f_X3_does
      rw [h6, if_neg (by decide), if_neg (by decide), if_pos (show nI 103 = 103 from rfl), h7, b1, bd2_some]
  · rw [decide_eq_false hr] at c1 c2; exact .inl ⟨c1, c2⟩
theorem ac_102 {A : AT} {S : BO} {M : MO} (hi : INV A) (h : RS A S.2.1) (hm : RM A (M.2.1 1)) (h6 : M.1 6 = nI 102) (u : Nat) {v : Nat} (hv : v < 100) (h7 : M.1 7 = nI v) : AC A S M 102 u v := by
  have hn := INV_n hi
  obtain ⟨q1, q2⟩ := may_rec hi h hm hv h7
  have c1 : f_X2_mayObey (nI 102) (nI u) (nI v) S = some (bZ (decide (v < A.n))) := by
    unfold f_X2_mayObey
    rw [if_neg (by decide), if_neg (by decide), if_pos (show nI 102 = 102 from rfl), q1, bd_some, zb_bZ]
  have c2 : f_X3_can M = some (bZ (decide (v < A.n))) := by
    rw [can_rec h6 (by omega), q2, bd_some, zb_bZ]
  by_cases hr : v < A.n
  · rw [decide_eq_true hr] at c1 c2
    obtain ⟨T, a1, a2⟩ := s_put hi h hr true
    obtain ⟨N, b1, b2, b3⟩ := m_put hi hm hr true
    refine .inr ⟨T, N, sFL A (u1 A.fl v true) A.lo, c1, c2, ?_, ?_, INV_fl hi _ _, a2, b2, b3, by rw [fl_sp]; omega⟩
    · unfold f_X2_obey
      rw [if_neg (by decide), if_neg (by decide), if_pos (show nI 102 = 102 from rfl), show f_X1_putFlag (nI v) 1 = f_X1_putFlag (nI v) (bZ true) from rfl, a1, bd_some, nm_eq]
    · unfold f_X3_does
      rw [h6, if_neg (by decide), if_neg (by decide), if_neg (by decide), if_neg (by decide), if_neg (by decide), if_neg (by decide), if_neg (by decide), if_neg (by decide), if_pos (show nI 102 = 102 from rfl), h7]
      exact b1
  · rw [decide_eq_false hr] at c1 c2; exact .inl ⟨c1, c2⟩
theorem ac_117 {A : AT} {S : BO} {M : MO} (hi : INV A) (h : RS A S.2.1) (hm : RM A (M.2.1 1)) (h6 : M.1 6 = nI 117) (u : Nat) {v : Nat} (hv : v < 100) (h7 : M.1 7 = nI v) : AC A S M 117 u v := by
  have hn := INV_n hi
  obtain ⟨q1, q2⟩ := may_rec hi h hm hv h7
  have c1 : f_X2_mayObey (nI 117) (nI u) (nI v) S = some (bZ (decide (v < A.n))) := by
    unfold f_X2_mayObey
    rw [if_neg (by decide), if_neg (by decide), if_neg (by decide), if_neg (by decide), if_neg (by decide), if_neg (by decide), if_neg (by decide), if_neg (by decide), if_neg (by decide), if_pos (show nI 117 = 117 from rfl), q1, bd_some, zb_bZ]
  have c2 : f_X3_can M = some (bZ (decide (v < A.n))) := by
    rw [can_rec h6 (by omega), q2, bd_some, zb_bZ]
  by_cases hr : v < A.n
  · rw [decide_eq_true hr] at c1 c2
    obtain ⟨T, a1, a2⟩ := s_put hi h hr false
    obtain ⟨N, b1, b2, b3⟩ := m_put hi hm hr false
    refine .inr ⟨T, N, sFL A (u1 A.fl v false) A.lo, c1, c2, ?_, ?_, INV_fl hi _ _, a2, b2, b3, by rw [fl_sp]; omega⟩
    · unfold f_X2_obey
      rw [if_neg (by decide), if_neg (by decide), if_neg (by decide), if_neg (by decide), if_neg (by decide), if_neg (by decide), if_neg (by decide), if_neg (by decide), if_neg (by decide), if_pos (show nI 117 = 117 from rfl), show f_X1_putFlag (nI v) 0 = f_X1_putFlag (nI v) (bZ false) from rfl, a1, bd_some, nm_eq]
    · unfold f_X3_does
      rw [h6, if_neg (by decide), if_neg (by decide), if_neg (by decide), if_neg (by decide), if_neg (by decide), if_neg (by decide), if_neg (by decide), if_neg (by decide), if_neg (by decide), h7]
      exact b1
  · rw [decide_eq_false hr] at c1 c2; exact .inl ⟨c1, c2⟩
theorem ac_115 {A : AT} {S : BO} {M : MO} (hi : INV A) (hs : A.sp < 2 ^ 31) (h : RS A S.2.1) (hm : RM A (M.2.1 1)) (h6 : M.1 6 = nI 115) (u : Nat) {v : Nat} (h8 : M.1 8 = nI v) : AC A S M 115 u v := by
  have c1 : f_X2_mayObey (nI 115) (nI u) (nI v) S = some (bZ (A.run && decide (1 ≤ wrc A))) := by
    unfold f_X2_mayObey
    rw [if_neg (by decide), if_neg (by decide), if_neg (by decide), if_neg (by decide), if_neg (by decide), if_neg (by decide), if_neg (by decide), if_neg (by decide), if_pos (show nI 115 = 115 from rfl), show f_X1_maySpeak 1 S.2.1 = f_X1_maySpeak (nI 1) S.2.1 from rfl, s_mayS hi h (by omega), bd_some, zb_bZ]
    rfl
  have c2 : f_X3_can M = some (bZ (A.run && decide (1 ≤ wrc A))) := by
    unfold f_X3_can
    rw [h6, if_neg (by decide), if_neg (by decide), if_neg (by decide), if_neg (by decide), if_neg (by decide), if_neg (by decide), if_pos (show nI 115 = 115 from rfl), show f_X3_canSpeak 1 M = f_X3_canSpeak (nI 1) M from rfl, m_mayS hi hm (by omega), bd_some, zb_bZ]
    rfl
  cases e : (A.run && decide (1 ≤ wrc A)) with
  | false => rw [e] at c1 c2; exact .inl ⟨c1, c2⟩
  | true =>
    rw [e] at c1 c2
    rw [Bool.and_eq_true, decide_eq_true_eq] at e
    obtain ⟨hr, hw⟩ := e
    obtain ⟨x, x1, x2, x3, x4, x5, x6, _, x8⟩ := spk_ok hi hr hw (nI v)
    obtain ⟨la, T, a1, a2, _, _⟩ := s_spkN (v := nI v) (m := 1) (by decide) 1 FU 0 (-1) A S.2.1 hi h hr hw rfl (by decide)
    obtain ⟨N, b1, b2, b3⟩ := m_spk hi hs hm hr x1 (nI v)
    refine .inr ⟨T, N, spk A (nI v), c1, c2, ?_, ?_, x5, a2, b2, b3, by clear hw; omega⟩
    · unfold f_X2_obey
      rw [if_neg (by decide), if_neg (by decide), if_neg (by decide), if_neg (by decide), if_neg (by decide), if_neg (by decide), if_neg (by decide), if_neg (by decide), if_pos (show nI 115 = 115 from rfl), show f_X1_speakTimes 1 (nI v) S.2.1 = some (la, T) from a1, bd2_some, nm_eq]
    · unfold f_X3_does
      rw [h6, if_neg (by decide), if_neg (by decide), if_neg (by decide), if_neg (by decide), if_neg (by decide), if_neg (by decide), if_neg (by decide), if_pos (show nI 115 = 115 from rfl), h8, b1, bd2_some]
theorem ac_114 {A : AT} {S : BO} {M : MO} (hi : INV A) (hs : A.sp + 32 < 2 ^ 31) (h : RS A S.2.1) (hm : RM A (M.2.1 1)) (h6 : M.1 6 = nI 114) {u v : Nat} (hu : u ≤ 32) (h7 : M.1 7 = nI u) (h8 : M.1 8 = nI v) : AC A S M 114 u v := by
  have c1 : f_X2_mayObey (nI 114) (nI u) (nI v) S = some (bZ (A.run && decide (u ≤ wrc A))) := by
    unfold f_X2_mayObey
    rw [if_neg (by decide), if_neg (by decide), if_neg (by decide), if_neg (by decide), if_neg (by decide), if_neg (by decide), if_neg (by decide), if_pos (show nI 114 = 114 from rfl), s_mayS hi h hu, bd_some, zb_bZ]
    rfl
  have c2 : f_X3_can M = some (bZ (A.run && decide (u ≤ wrc A))) := by
    unfold f_X3_can
    rw [h6, if_neg (by decide), if_neg (by decide), if_neg (by decide), if_neg (by decide), if_neg (by decide), if_pos (show nI 114 = 114 from rfl), h7, m_mayS hi hm hu, bd_some, zb_bZ]
    rfl
  cases e : (A.run && decide (u ≤ wrc A)) with
  | false => rw [e] at c1 c2; exact .inl ⟨c1, c2⟩
  | true =>
    rw [e] at c1 c2
    rw [Bool.and_eq_true, decide_eq_true_eq] at e
    obtain ⟨hr, hw⟩ := e
    obtain ⟨g1, g2⟩ := spkN_ok u A (nI v) hi hr hw
    have hu31 : u < 2 ^ 31 := Nat.lt_of_le_of_lt hu (by decide)
    have hf : u < FU := Nat.lt_of_le_of_lt hu (by decide)
    obtain ⟨la, T, a1, a2, _, _⟩ := s_spkN (v := nI v) (m := u) hu31 u FU 0 (-1) A S.2.1 hi h hr hw (Nat.zero_add u) hf
    obtain ⟨N, b1, b2, b3⟩ := m_spkN (v := nI v) (m := u) hu31 u FU 0 A M hi (Nat.lt_of_le_of_lt (Nat.add_le_add_left hu _) hs) hm hr hw (Nat.zero_add u) hf h7 h8
    refine .inr ⟨T, N, spkN A (nI v) u, c1, c2, ?_, ?_, g1, a2, b2, b3, by rw [g2]; exact Nat.add_le_add_left hu _⟩
    · unfold f_X2_obey
      rw [if_neg (by decide), if_neg (by decide), if_neg (by decide), if_neg (by decide), if_neg (by decide), if_neg (by decide), if_neg (by decide), if_pos (show nI 114 = 114 from rfl), show f_X1_speakTimes (nI u) (nI v) S.2.1 = some (la, T) from a1, bd2_some, nm_eq]
    · unfold f_X3_does
      rw [h6, if_neg (by decide), if_neg (by decide), if_neg (by decide), if_neg (by decide), if_neg (by decide), if_neg (by decide), if_pos (show nI 114 = 114 from rfl)]
      exact b1
