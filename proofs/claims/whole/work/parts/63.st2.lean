theorem bI_bZ (x : Int32) : bI x = bZ (!decide (x = 0)) := by
  unfold bI
  by_cases e : x = 0
  · rw [if_pos e, decide_eq_true e]; rfl
  · rw [if_neg e, decide_eq_false e]; rfl
theorem m_set {A : AT} {M : MO} (hi : INV A) (h : RM A (M.2.1 1)) {r : Nat} (hr : r < A.n) (b : Bool) : ∃ M', (gd (7 + nI r) 1085 (if (M.2.1 1) (Int32.toNatClampNeg (7 + nI r)) = 1 then c_X3_setFlag_44 (nI r) (bZ b) 1 M else c_X3_setFlag_44 (nI r) (bZ b) 0 M)) = some (bZ (A.fl r), M') ∧ RM (sFL A (u1 A.fl r b) A.lo) (M'.2.1 1) ∧ FR M M' := by
  have hn := INV_n hi
  have key : ∀ a b : Bool, c_X3_setFlag_44 (nI r) (bZ b) (bZ a) M = some (bZ a, (M.1, up2 M.2.1 1 (upd (M.2.1 1) (7 + r) (bZ b)), M.2.2)) := fun a b => by
    unfold c_X3_setFlag_44 c_X3_setFlag_62
    rw [show (7 : Int32) + nI r = nI (7 + r) from nI_add 7 r, gd_nI (by omega) (by decide), gd_nI (by omega) (by decide)]
    simp only [nm_eq, zb_bZ]
    rw [nI_clamp (by omega)]
    cases b <;> rfl
  refine ⟨(M.1, up2 M.2.1 1 (upd (M.2.1 1) (7 + r) (bZ b)), M.2.2), ?_, RM_fl2 h hn (by omega), FR_u (by omega)⟩
  rw [show (7 : Int32) + nI r = nI (7 + r) from nI_add 7 r, gd_nI (by omega) (by decide), nI_clamp (by omega), RM_fl h hr]
  have k1 := key (A.fl r) b
  cases e : A.fl r with
  | false => rw [e] at k1; exact k1
  | true => rw [e] at k1; exact k1
theorem st_3 {t : Nat} {S : BO} {M : MO} (h : REL t S M) (ht : t < 512) (p1 : Int32) (p2 : Int32) (ob : Nat → Int64) : ∃ (r9 : Int32) (rm : Int32) (S9 : BO) (ob9 : Nat → Int64) (M9 : MO), f_L_setFlag p1 (bI p2) S ob = some (r9, S9, ob9) ∧ f_X3_setFlag p1 (bI p2) M = some (rm, M9) ∧ M9.1 0 = r9 ∧ (r9 = 0 → ob9 0 = if rm = 0 then (0 : Int64) else (1 : Int64)) ∧ REL (t + 1) S9 M9 := by
  have h0 := h
  obtain ⟨A, sv, ns, tx, h1, h2, h3, h4, h5, h6, h7⟩ := h
  have hn := INV_n h1
  have hs : A.sp < 2 ^ 31 := by omega
  obtain ⟨S', M', k1, k2, k3, k4, k5, _, _, _, _, fin⟩ := REL_do h1 h2 h3 h4 h5 h6 h7
  rw [bI_bZ]
  generalize (!decide (p2 = 0)) = b
  rcases sm_rec h1 h2 h3 p1 with ⟨e1, e2⟩ | ⟨r, hr, rfl, e1, e2⟩
  · refine ⟨1, 0, S, ob, (upd M.1 0 1, M.2), ?_, ?_, rfl, fun q => absurd q (by decide), REL_up h0 1⟩
    · have hx : f_X2_setFlag p1 (bZ b) S = some (.inl "java/lang/IndexOutOfBoundsException", S) := by
        unfold f_X2_setFlag f_X2_requireRecording
        rw [e1]; rfl
      unfold f_L_setFlag
      rw [hx]
      rfl
    · unfold f_X3_setFlag
      rw [e2]; rfl
  · obtain ⟨T, a1, a2⟩ := s_put h1 k3 hr b
    obtain ⟨N, b1, b2, b3⟩ := m_set h1 k4 hr b
    refine ⟨0, bZ (A.fl r), (S'.1, T, S'.2.2), vp_updL ob 0 (if bZ (A.fl r) = 0 then (0 : Int64) else (1 : Int64)), N, ?_, ?_, ?_, fun _ => rfl, fin (sFL A (u1 A.fl r b) A.lo) T N (INV_fl h1 _ _) a2 b2 b3 (by rw [fl_sp]; omega)⟩
    · have hx : f_X2_setFlag (nI r) (bZ b) S = some (.inr (bZ (A.fl r)), (S'.1, T, S'.2.2)) := by
        unfold f_X2_setFlag f_X2_requireRecording
        rw [e1, bd_some, if_neg (by decide)]
        show bd (f_X2_save S) _ = _
        rw [k1, bd_some, s_flag h1 k3 hr, bd_some, a1, bd_some, nm_eq, zb_bZ]
      unfold f_L_setFlag
      rw [hx]
    · unfold f_X3_setFlag c_X3_setFlag_14
      rw [e2, bd_some, if_neg (by decide), holds0, bd2_some, if_neg (by decide), k2, bd_some]
      exact b1
    · rw [b3.1, k5]
theorem st_4 {t : Nat} {S : BO} {M : MO} (h : REL t S M) (ht : t < 512) (p1 : Int32) (ob : Nat → Int64) : ∃ (r9 : Int32) (rm : Int32) (S9 : BO) (ob9 : Nat → Int64) (M9 : MO), f_L_erase p1 S ob = some (r9, S9, ob9) ∧ f_X3_erase p1 M = some (rm, M9) ∧ M9.1 0 = r9 ∧ (r9 = 0 → ob9 0 = Int32.toInt64 rm) ∧ REL (t + 1) S9 M9 := by
  have h0 := h
  obtain ⟨A, sv, ns, tx, h1, h2, h3, h4, h5, h6, h7⟩ := h
  have hn := INV_n h1
  have hs : A.sp < 2 ^ 31 := by omega
  obtain ⟨S', M', k1, k2, k3, k4, k5, _, _, _, _, fin⟩ := REL_do h1 h2 h3 h4 h5 h6 h7
  rcases sm_rec h1 h2 h3 p1 with ⟨e1, e2⟩ | ⟨r, hr, rfl, e1, e2⟩
  · refine ⟨1, 0, S, ob, (upd M.1 0 1, M.2), ?_, ?_, rfl, fun q => absurd q (by decide), REL_up h0 1⟩
    · have hx : f_X2_erase p1 S = some (.inl "java/lang/IndexOutOfBoundsException", S) := by
        unfold f_X2_erase f_X2_requireRecording
        rw [e1]; rfl
      unfold f_L_erase
      rw [hx]
      rfl
    · unfold f_X3_erase
      rw [e2]; rfl
  have ef : (M.2.1 1) (Int32.toNatClampNeg (7 + nI r)) = bZ (A.fl r) := by rw [show (7 : Int32) + nI r = nI (7 + r) from nI_add 7 r, nI_clamp (by omega), RM_fl h3 hr]
  have eg : ∀ X : Option (Int32 × MO), gd (7 + nI r) 1085 X = X := fun X => by rw [show (7 : Int32) + nI r = nI (7 + r) from nI_add 7 r, gd_nI (by omega) (by decide)]
  cases hf : A.fl r with
  | true =>
    rw [hf] at ef
    refine ⟨2, 0, S, ob, (upd M.1 0 2, M.2), ?_, ?_, rfl, fun q => absurd q (by decide), REL_up h0 2⟩
    · have hx : f_X2_erase (nI r) S = some (.inl "java/lang/IllegalStateException", S) := by
        unfold f_X2_erase f_X2_requireRecording
        rw [e1, bd_some, if_neg (by decide)]
        show bd (f_X1_isFlagged (nI r) S.2.1) _ = _
        rw [s_flag h1 h2 hr, hf]; rfl
      unfold f_L_erase
      rw [hx]
      rfl
    · unfold f_X3_erase
      rw [e2, bd_some, if_neg (by decide), eg, ef]
      rfl
  | false =>
    rw [hf] at ef
    obtain ⟨T, a1, a2⟩ := s_ers h1 k3 hr
    obtain ⟨N, b1, b2, b3⟩ := m_leaves h1 k4 hr
    refine ⟨0, nI (cnt A (some r)), (S'.1, T, S'.2.2), vp_updL ob 0 (Int32.toInt64 (nI (cnt A (some r)))), N, ?_, ?_, ?_, fun _ => rfl, fin (rmv A r) T N (INV_rmv h1 hr) a2 b2 b3 (by rw [rmv_sp]; omega)⟩
    · have hx : f_X2_erase (nI r) S = some (.inr (nI (cnt A (some r))), (S'.1, T, S'.2.2)) := by
        unfold f_X2_erase f_X2_requireRecording
        rw [e1, bd_some, if_neg (by decide)]
        show bd (f_X1_isFlagged (nI r) S.2.1) _ = _
        rw [s_flag h1 h2 hr, hf, bd_some, if_pos (show bZ false = 0 from rfl), k1, bd_some, a1, bd2_some, nm_eq]
      unfold f_L_erase
      rw [hx]
    · unfold f_X3_erase c_X3_erase_33
      rw [e2, bd_some, if_neg (by decide), eg, ef, if_neg (by decide), holds0, bd2_some, if_neg (by decide), k2, bd_some, show f_X3_cells (nI r) M' = some (nI (cnt A (some r))) from m_cnt (o := some r) h1 k4 (fun q e => by cases e; omega), bd_some, b1, bd_some]
    · rw [b3.1, k5]
theorem st_5 {t : Nat} {S : BO} {M : MO} (h : REL t S M) (ht : t < 512) (p1 : Int32) (ob : Nat → Int64) : ∃ (r9 : Int32) (rm : Int32) (S9 : BO) (ob9 : Nat → Int64) (M9 : MO), f_L_moveHead p1 S ob = some (r9, S9, ob9) ∧ f_X3_moveHead p1 M = some (rm, M9) ∧ M9.1 0 = r9 ∧ (r9 = 0 → ob9 0 = Int32.toInt64 rm) ∧ REL (t + 1) S9 M9 := by
  have h0 := h
  obtain ⟨A, sv, ns, tx, h1, h2, h3, h4, h5, h6, h7⟩ := h
  have hn := INV_n h1
  have hs : A.sp < 2 ^ 31 := by omega
  obtain ⟨S', M', k1, k2, k3, k4, k5, _, _, _, _, fin⟩ := REL_do h1 h2 h3 h4 h5 h6 h7
  rcases sm_cell p1 with ⟨e1, e2⟩ | ⟨k, hk, rfl, e1, e2⟩
  · refine ⟨1, 0, S, ob, (upd M.1 0 1, M.2), ?_, ?_, rfl, fun q => absurd q (by decide), REL_up h0 1⟩
    · have hx : f_X2_moveHead p1 S = some (.inl "java/lang/IndexOutOfBoundsException", S) := by
        unfold f_X2_moveHead
        rw [e1]; rfl
      unfold f_L_moveHead
      rw [hx]
      rfl
    · unfold f_X3_moveHead
      rw [e2]; rfl
  cases hb : A.run with
  | true =>
    have hr := INV_r h1 hb
    have e3 : ¬ (M.2.1 1) 1 = -1 := by rw [RM_run h3, rn_run hb]; exact nI_m1 (n := A.n - 1) (by omega)
    refine ⟨2, 0, S, ob, (upd M.1 0 2, M.2), ?_, ?_, rfl, fun q => absurd q (by decide), REL_up h0 2⟩
    · have hx : f_X2_moveHead (nI k) S = some (.inl "java/lang/IllegalStateException", S) := by
        unfold f_X2_moveHead
        rw [e1]
        show (if S.2.1.1 8 = 0 then _ else _) = _
        rw [if_neg (fun q => by rw [(run_0 h2).mp q] at hb; cases hb)]
      unfold f_L_moveHead
      rw [hx]
      rfl
    · unfold f_X3_moveHead
      rw [e2, bd_some, if_neg (by decide), show gd (1 : Int32) = @gd (Int32 × MO) (nI 1) from rfl, gd_nI (by omega) (by decide), show Int32.toNatClampNeg 1 = 1 from rfl, if_neg e3]
      rfl
  | false =>
    have e3 : (M.2.1 1) 1 = -1 := (RM_run h3).trans (by unfold rn; rw [hb]; rfl)
    have a2 := RS_head k3 (m := k)
    have b2 := RM_hd2 k4 (m := k)
    refine ⟨0, nI A.hd, (S'.1, (upd S'.2.1.1 9 (nI k), S'.2.1.2), S'.2.2), vp_updL ob 0 (Int32.toInt64 (nI A.hd)), (M'.1, up2 M'.2.1 1 (upd (M'.2.1 1) 2 (nI k)), M'.2.2), ?_, ?_, ?_, fun _ => rfl, fin (sHS A k A.sp) _ _ (INV_hs h1 hk _) a2 b2 (FR_u (by omega)) (by rw [hs_sp]; omega)⟩
    · have hx : f_X2_moveHead (nI k) S = some (.inr (nI A.hd), (S'.1, (upd S'.2.1.1 9 (nI k), S'.2.1.2), S'.2.2)) := by
        unfold f_X2_moveHead
        rw [e1]
        show (if S.2.1.1 8 = 0 then _ else _) = _
        rw [if_pos ((run_0 h2).mpr hb), k1, bd_some]
        simp only [nm_eq]
        rw [RS_hd k3]
      unfold f_L_moveHead
      rw [hx]
    · unfold f_X3_moveHead c_X3_moveHead_27
      rw [e2, bd_some, if_neg (by decide), show gd (1 : Int32) = @gd (Int32 × MO) (nI 1) from rfl, gd_nI (by omega) (by decide), show Int32.toNatClampNeg 1 = 1 from rfl, if_pos e3, holds0, bd2_some, if_neg (by decide), k2, bd_some, show gd (2 : Int32) = @gd (Int32 × MO) (nI 2) from rfl, gd_nI (by omega) (by decide), nm_eq, gd_nI (by omega) (by decide), nm_eq, show Int32.toNatClampNeg 2 = 2 from rfl, RM_hd k4]
    · rw [(FR_u (M := M') (i := 2) (v := nI k) (by omega)).1, k5]
theorem st_19 {t : Nat} {S : BO} {M : MO} (h : REL t S M) (ht : t < 512) (p1 : Int32) (ob : Nat → Int64) : ∃ (r9 : Int32) (rm : Int32) (S9 : BO) (ob9 : Nat → Int64) (M9 : MO), f_L_go p1 S ob = some (r9, S9, ob9) ∧ f_X3_go p1 M = some (rm, M9) ∧ M9.1 0 = r9 ∧ (r9 = 0 → ob9 0 = Int32.toInt64 rm) ∧ REL (t + 1) S9 M9 := by
  have h0 := h
  obtain ⟨A, sv, ns, tx, h1, h2, h3, h4, h5, h6, h7⟩ := h
  have hn := INV_n h1
  have hs : A.sp < 2 ^ 31 := by omega
  obtain ⟨S', M', k1, k2, k3, k4, k5, _, _, _, _, fin⟩ := REL_do h1 h2 h3 h4 h5 h6 h7
  rcases sm_rec h1 h2 h3 p1 with ⟨e1, e2⟩ | ⟨r, hr, rfl, e1, e2⟩
  · refine ⟨1, 0, S, ob, (upd M.1 0 1, M.2), ?_, ?_, rfl, fun q => absurd q (by decide), REL_up h0 1⟩
    · have hx : f_X2_go p1 S = some (.inl "java/lang/IndexOutOfBoundsException", S) := by
        unfold f_X2_go f_X2_requireRecording
        rw [e1]; rfl
      unfold f_L_go
      rw [hx]
      rfl
    · unfold f_X3_go
      rw [e2]; rfl
  · obtain ⟨T, a1, a2⟩ := s_go k3 r
    obtain ⟨N, b1, b2, b3⟩ := m_go h1 k4 hr
    have hi' : INV (sP A (some (r, 0))) := INV_pl h1 (fun r' p' e => by cases e; exact ⟨hr, Nat.zero_le _⟩)
    refine ⟨0, nI (cnt A (some r)), (S'.1, T, S'.2.2), vp_updL ob 0 (Int32.toInt64 (nI (cnt A (some r)))), N, ?_, ?_, ?_, fun _ => rfl, fin (sP A (some (r, 0))) T N hi' a2 b2 b3 (by rw [pl_sp]; omega)⟩
    · have hx : f_X2_go (nI r) S = some (.inr (nI (cnt A (some r))), (S'.1, T, S'.2.2)) := by
        unfold f_X2_go f_X2_requireRecording
        rw [e1, bd_some, if_neg (by decide)]
        show bd (f_X2_save S) _ = _
        rw [k1, bd_some, a1, bd_some, nm_eq, show f_X1_cellCount (nI r) T = some (nI (cnt (sP A (some (r, 0))) (some r))) from s_cnt (o := some r) hi' a2 (fun q e => by cases e; omega), bd_some]
        rfl
      unfold f_L_go
      rw [hx]
    · unfold f_X3_go c_X3_go_14
      rw [e2, bd_some, if_neg (by decide), holds0, bd2_some, if_neg (by decide), k2, bd_some, b1, bd2_some]
    · rw [b3.1, k5]
theorem st_20 {t : Nat} {S : BO} {M : MO} (h : REL t S M) (ht : t < 512) (ob : Nat → Int64) : ∃ (r9 : Int32) (rm : Int32) (S9 : BO) (ob9 : Nat → Int64) (M9 : MO), f_L_play S ob = some (r9, S9, ob9) ∧ f_X3_play M = some (rm, M9) ∧ M9.1 0 = r9 ∧ (r9 = 0 → ob9 0 = Int32.toInt64 rm) ∧ REL (t + 1) S9 M9 := by
  have h0 := h
  obtain ⟨A, sv, ns, tx, h1, h2, h3, h4, h5, h6, h7⟩ := h
  have hn := INV_n h1
  have hs : A.sp < 2 ^ 31 := by omega
  obtain ⟨S', M', k1, k2, k3, k4, k5, _, _, _, _, fin⟩ := REL_do h1 h2 h3 h4 h5 h6 h7
  cases hP : A.P with
  | none =>
    have e3 : S.2.1.1 12 = -1 := (RS_p1 h2).trans (by rw [hP]; rfl)
    have e4 : (M.2.1 1) 5 = -1 := (RM_p1 h3).trans (by rw [hP]; rfl)
    refine ⟨1, 0, S, ob, (upd M.1 0 1, M.2), ?_, ?_, rfl, fun q => absurd q (by decide), REL_up h0 1⟩
    · have hx : f_X2_play  S = some (.inl "java/lang/IllegalStateException", S) := by
        unfold f_X2_play f_X2_requirePlayer
        rw [if_pos e3]; rfl
      unfold f_L_play
      rw [hx]
      rfl
    · unfold f_X3_play
      rw [show gd (5 : Int32) = @gd (Int32 × MO) (nI 5) from rfl, gd_nI (by omega) (by decide), show Int32.toNatClampNeg 5 = 5 from rfl, if_pos e4]
      rfl
  | some w =>
    obtain ⟨r, p⟩ := w
    have hP1 := INV_P h1 r p hP
    have e3 : ¬ S.2.1.1 12 = -1 := by rw [RS_p1 h2, hP]; exact nI_m1 (n := r) (by omega)
    have e4 : ¬ (M.2.1 1) 5 = -1 := by rw [RM_p1 h3, hP]; exact nI_m1 (n := r) (by omega)
    obtain ⟨T, a1, a2⟩ := s_play h1 k3 hP
    obtain ⟨N, b1, b2, b3⟩ := m_play h1 hs k4 hP
    refine ⟨0, pl (at_ (isO A r) A.od p) A.sn, (S'.1, T, S'.2.2), vp_updL ob 0 (Int32.toInt64 (pl (at_ (isO A r) A.od p) A.sn)), N, ?_, ?_, ?_, fun _ => rfl, fin (ply A r p) T N (INV_ply h1 hP1.1) a2 b2 b3 (by rw [ply_sp]; omega)⟩
    · have hx : f_X2_play  S = some (.inr (pl (at_ (isO A r) A.od p) A.sn), (S'.1, T, S'.2.2)) := by
        unfold f_X2_play f_X2_requirePlayer
        rw [if_neg e3]
        show bd (f_X2_save S) _ = _
        rw [k1, bd_some, a1, bd2_some, nm_eq]
      unfold f_L_play
      rw [hx]
    · unfold f_X3_play c_X3_play_16
      rw [show gd (5 : Int32) = @gd (Int32 × MO) (nI 5) from rfl, gd_nI (by omega) (by decide), show Int32.toNatClampNeg 5 = 5 from rfl, if_neg e4, holds0, bd2_some, if_neg (by decide), k2, bd_some, b1, bd2_some]
    · rw [b3.1, k5]
theorem sm_nine (p : Int32) : (p < 1 ∧ f_X3_in p 1 9 = some 0) ∨ (¬ p < 1 ∧ ¬ p ≤ 9 ∧ f_X3_in p 1 9 = some 0) ∨ ∃ k, k ≤ 9 ∧ p = nI k ∧ ¬ p < 1 ∧ p ≤ 9 ∧ f_X3_in p 1 9 = some 1 := by
  unfold f_X3_in
  by_cases h0 : p < 1
  · left; rw [if_pos h0]; exact ⟨h0, rfl⟩
  · right
    have h00 : ¬ p < 0 := fun q => h0 (Int32.lt_trans q (by decide))
    obtain ⟨j, hj, rfl⟩ := nI_of h00
    rw [if_neg h0]
    by_cases h1 : j ≤ 9
    · right
      have q : nI j ≤ nI 9 := by rw [nI_leI hj (by omega)]; exact h1
      refine ⟨j, h1, rfl, h0, q, ?_⟩
      exact if_neg (Int32.not_lt.mpr q)
    · left
      have q : ¬ nI j ≤ nI 9 := by rw [nI_leI hj (by omega)]; exact h1
      exact ⟨h0, q, if_pos (Int32.not_le.mp q)⟩
theorem st_21 {t : Nat} {S : BO} {M : MO} (h : REL t S M) (ht : t < 512) (p1 : Int32) (ob : Nat → Int64) : ∃ (r9 : Int32) (rm : Int32) (S9 : BO) (ob9 : Nat → Int64) (M9 : MO), f_L_back p1 S ob = some (r9, S9, ob9) ∧ f_X3_back p1 M = some (rm, M9) ∧ M9.1 0 = r9 ∧ (r9 = 0 → ob9 0 = Int32.toInt64 rm) ∧ REL (t + 1) S9 M9 := by
  have h0 := h
  obtain ⟨A, sv, ns, tx, h1, h2, h3, h4, h5, h6, h7⟩ := h
  have hn := INV_n h1
  have hs : A.sp < 2 ^ 31 := by omega
  obtain ⟨S', M', k1, k2, k3, k4, k5, _, _, _, _, fin⟩ := REL_do h1 h2 h3 h4 h5 h6 h7
  rcases sm_nine p1 with ⟨e1, e2⟩ | ⟨e1, e2, e5⟩ | ⟨m, hm, rfl, e1, e2, e5⟩
  · refine ⟨1, 0, S, ob, (upd M.1 0 1, M.2), ?_, ?_, rfl, fun q => absurd q (by decide), REL_up h0 1⟩
    · have hx : f_X2_back p1 S = some (.inl "java/lang/IllegalArgumentException", S) := by
        unfold f_X2_back
        rw [if_pos e1]; rfl
      unfold f_L_back
      rw [hx]
      rfl
    · unfold f_X3_back
      rw [e2]; rfl
  · refine ⟨1, 0, S, ob, (upd M.1 0 1, M.2), ?_, ?_, rfl, fun q => absurd q (by decide), REL_up h0 1⟩
    · have hx : f_X2_back p1 S = some (.inl "java/lang/IllegalArgumentException", S) := by
        unfold f_X2_back
        rw [if_neg e1, if_neg e2]; rfl
      unfold f_L_back
      rw [hx]
      rfl
    · unfold f_X3_back
      rw [e5]; rfl
  cases hP : A.P with
  | none =>
    have e3 : S.2.1.1 12 = -1 := (RS_p1 h2).trans (by rw [hP]; rfl)
    have e4 : (M.2.1 1) 5 = -1 := (RM_p1 h3).trans (by rw [hP]; rfl)
    refine ⟨2, 0, S, ob, (upd M.1 0 2, M.2), ?_, ?_, rfl, fun q => absurd q (by decide), REL_up h0 2⟩
    · have hx : f_X2_back (nI m) S = some (.inl "java/lang/IllegalStateException", S) := by
        unfold f_X2_back f_X2_requirePlayer
        rw [if_neg e1, if_pos e2, if_pos e3]; rfl
      unfold f_L_back
      rw [hx]
      rfl
    · unfold f_X3_back
      rw [e5, bd_some, if_neg (by decide), show gd (5 : Int32) = @gd (Int32 × MO) (nI 5) from rfl, gd_nI (by omega) (by decide), show Int32.toNatClampNeg 5 = 5 from rfl, if_pos e4]
      rfl
  | some w =>
    obtain ⟨r, p⟩ := w
    have hP1 := INV_P h1 r p hP
    have e3 : ¬ S.2.1.1 12 = -1 := by rw [RS_p1 h2, hP]; exact nI_m1 (n := r) (by omega)
    have e4 : ¬ (M.2.1 1) 5 = -1 := by rw [RM_p1 h3, hP]; exact nI_m1 (n := r) (by omega)
    obtain ⟨T, a1, a2⟩ := s_back h1 k3 hm hP
    obtain ⟨N, b1, b2, b3⟩ := m_back h1 k4 hm hP
    refine ⟨0, nI (p - m), (S'.1, T, S'.2.2), vp_updL ob 0 (Int32.toInt64 (nI (p - m))), N, ?_, ?_, ?_, fun _ => rfl, fin (sP A (some (r, p - m))) T N (INV_pl h1 (fun r' p' e => by cases e; exact ⟨hP1.1, by omega⟩)) a2 b2 b3 (by rw [pl_sp]; omega)⟩
    · have hx : f_X2_back (nI m) S = some (.inr (nI (p - m)), (S'.1, T, S'.2.2)) := by
        unfold f_X2_back f_X2_requirePlayer
        rw [if_neg e1, if_pos e2, if_neg e3]
        show bd (f_X2_save S) _ = _
        rw [k1, bd_some, a1, bd2_some, nm_eq]
      unfold f_L_back
      rw [hx]
    · unfold f_X3_back c_X3_back_30
      rw [e5, bd_some, if_neg (by decide), show gd (5 : Int32) = @gd (Int32 × MO) (nI 5) from rfl, gd_nI (by omega) (by decide), show Int32.toNatClampNeg 5 = 5 from rfl, if_neg e4, holds0, bd2_some, if_neg (by decide), k2, bd_some, b1, bd2_some]
    · rw [b3.1, k5]
