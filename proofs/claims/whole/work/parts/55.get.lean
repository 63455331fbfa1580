/-! steps that change nothing -/
theorem REL_up {t : Nat} {S : BO} {M : MO} (h : REL t S M) (v : Int32) : REL (t + 1) S (upd M.1 0 v, M.2) := by
  obtain ⟨A, sv, ns, tx, h1, h2, h3, h4, ⟨v1, v2, v3, v4, v5, v6⟩, h6, ⟨x1, x2, x3, x4⟩⟩ := h
  exact ⟨A, sv, ns, tx, h1, h2, h3, by omega, ⟨v1, v2, v3, v4, v5, v6⟩, fun B hB => by have := h6 B hB; omega, ⟨x1, x2, x3, x4⟩⟩
theorem st_idle {t : Nat} {S : BO} {M : MO} (h : REL t S M) : REL (t + 1) S M := by
  obtain ⟨A, sv, ns, tx, h1, h2, h3, h4, h5, h6, h7⟩ := h
  exact ⟨A, sv, ns, tx, h1, h2, h3, by omega, h5, fun B hB => by have := h6 B hB; omega, h7⟩
theorem told {M : MO} (x : Int32) : f_X3_told x M = some (x, (upd M.1 0 0, M.2)) := rfl
theorem holds0 {M : MO} : f_X3_holds 0 M = some (1, (upd M.1 0 0, M.2)) := rfl
theorem holdsN {M : MO} {x : Int32} (h : x ≠ 0) : f_X3_holds x M = some (0, (upd M.1 0 x, M.2)) := by
  unfold f_X3_holds
  rw [nm_eq, if_neg h]
theorem st_6 {t : Nat} {S : BO} {M : MO} (h : REL t S M) (ht : t < 512) : ∃ (r9 : Int32) (M9 : MO), f_X2_recordings S = some r9 ∧ f_X3_recordings M = some (r9, M9) ∧ REL (t + 1) S M9 := by
  have h0 := h
  obtain ⟨A, sv, ns, tx, h1, h2, h3, h4, h5, h6, h7⟩ := h
  refine ⟨nI A.n, (upd M.1 0 0, M.2), congrArg some (RS_n h2), ?_, REL_up h0 0⟩
  show some (M.2.1 1 0, (upd M.1 0 0, M.2)) = _
  rw [RM_n h3]
theorem st_7 {t : Nat} {S : BO} {M : MO} (h : REL t S M) (ht : t < 512) : ∃ (r9 : Int32) (M9 : MO), f_X2_running S = some r9 ∧ f_X3_running M = some (r9, M9) ∧ REL (t + 1) S M9 := by
  have h0 := h
  obtain ⟨A, sv, ns, tx, h1, h2, h3, h4, h5, h6, h7⟩ := h
  refine ⟨oI (rn A), (upd M.1 0 0, M.2), ?_, ?_, REL_up h0 0⟩
  · unfold f_X2_running
    rw [s_run h1 h2, bd_some]
  · show some (M.2.1 1 1, (upd M.1 0 0, M.2)) = _
    rw [RM_run h3]
theorem st_8 {t : Nat} {S : BO} {M : MO} (h : REL t S M) (ht : t < 512) : ∃ (r9 : Int32) (M9 : MO), f_X2_head S = some r9 ∧ f_X3_head M = some (r9, M9) ∧ REL (t + 1) S M9 := by
  have h0 := h
  obtain ⟨A, sv, ns, tx, h1, h2, h3, h4, h5, h6, h7⟩ := h
  refine ⟨nI A.hd, (upd M.1 0 0, M.2), congrArg some (RS_hd h2), ?_, REL_up h0 0⟩
  show some (M.2.1 1 2, (upd M.1 0 0, M.2)) = _
  rw [RM_hd h3]
theorem s_free {A : AT} {S : OB} (hi : INV A) (h : RS A S) : 32 - S.1 4 = nI (cnt A none) := by
  have := od_free hi
  rw [RS_us h, show (32 : Int32) = nI 32 from rfl, sub_nI (by omega), show 32 - A.od.length = cnt A none by omega]
theorem st_15 {t : Nat} {S : BO} {M : MO} (h : REL t S M) (ht : t < 512) : ∃ (r9 : Int32) (M9 : MO), f_X2_free S = some r9 ∧ f_X3_free M = some (r9, M9) ∧ REL (t + 1) S M9 := by
  have h0 := h
  obtain ⟨A, sv, ns, tx, h1, h2, h3, h4, h5, h6, h7⟩ := h
  refine ⟨nI (cnt A none), (upd M.1 0 0, M.2), congrArg some (s_free h1 h2), ?_, REL_up h0 0⟩
  unfold f_X3_free
  rw [show (-1 : Int32) = oI none from rfl, m_cnt h1 h3 (fun r e => by cases e), bd_some, told, bd2_some]
theorem st_16 {t : Nat} {S : BO} {M : MO} (h : REL t S M) (ht : t < 512) : ∃ (r9 : Int32) (M9 : MO), f_X2_spoken S = some r9 ∧ f_X3_spoken M = some (r9, M9) ∧ REL (t + 1) S M9 := by
  have h0 := h
  obtain ⟨A, sv, ns, tx, h1, h2, h3, h4, h5, h6, h7⟩ := h
  refine ⟨nI A.sp, (upd M.1 0 0, M.2), congrArg some (RS_sp h2), ?_, REL_up h0 0⟩
  show some (M.2.1 1 3, (upd M.1 0 0, M.2)) = _
  rw [RM_sp h3]
theorem st_17 {t : Nat} {S : BO} {M : MO} (h : REL t S M) (ht : t < 512) : ∃ (r9 : Int32) (M9 : MO), f_X2_gone S = some r9 ∧ f_X3_gone M = some (r9, M9) ∧ REL (t + 1) S M9 := by
  have h0 := h
  obtain ⟨A, sv, ns, tx, h1, h2, h3, h4, h5, h6, h7⟩ := h
  refine ⟨nI A.go, (upd M.1 0 0, M.2), congrArg some (RS_go h2), ?_, REL_up h0 0⟩
  show some (M.2.1 1 4, (upd M.1 0 0, M.2)) = _
  rw [RM_go h3]
theorem st_22 {t : Nat} {S : BO} {M : MO} (h : REL t S M) (ht : t < 512) : ∃ (r9 : Int32) (M9 : MO), f_X2_playing S = some r9 ∧ f_X3_playing M = some (r9, M9) ∧ REL (t + 1) S M9 := by
  have h0 := h
  obtain ⟨A, sv, ns, tx, h1, h2, h3, h4, h5, h6, h7⟩ := h
  refine ⟨oI (A.P.map Prod.fst), (upd M.1 0 0, M.2), congrArg some (RS_p1 h2), ?_, REL_up h0 0⟩
  show some (M.2.1 1 5, (upd M.1 0 0, M.2)) = _
  rw [RM_p1 h3]
theorem st_23 {t : Nat} {S : BO} {M : MO} (h : REL t S M) (ht : t < 512) : ∃ (r9 : Int32) (M9 : MO), f_X2_place S = some r9 ∧ f_X3_place M = some (r9, M9) ∧ REL (t + 1) S M9 := by
  have h0 := h
  obtain ⟨A, sv, ns, tx, h1, h2, h3, h4, h5, h6, h7⟩ := h
  refine ⟨oI (A.P.map Prod.snd), (upd M.1 0 0, M.2), congrArg some (RS_p2 h2), ?_, REL_up h0 0⟩
  show some (M.2.1 1 6, (upd M.1 0 0, M.2)) = _
  rw [RM_p2 h3]
theorem st_26 {t : Nat} {S : BO} {M : MO} (h : REL t S M) (ht : t < 512) : ∃ (r9 : Int32) (M9 : MO), f_X2_corrected S = some r9 ∧ f_X3_corrected M = some (r9, M9) ∧ REL (t + 1) S M9 := by
  have h0 := h
  obtain ⟨A, sv, ns, tx, h1, h2, h3, h4, h5, h6, h7⟩ := h
  refine ⟨nI (cp (cor A) 0 32), (upd M.1 0 0, M.2), ?_, ?_, REL_up h0 0⟩
  · unfold f_X2_corrected
    rw [s_cor h1 h2, bd_some]
  · unfold f_X3_corrected
    rw [m_cor h1 h3, bd_some, told, bd2_some]
theorem st_27 {t : Nat} {S : BO} {M : MO} (h : REL t S M) (ht : t < 512) : ∃ (r9 : Int32) (M9 : MO), f_X2_room S = some r9 ∧ f_X3_room M = some (r9, M9) ∧ REL (t + 1) S M9 := by
  have h0 := h
  obtain ⟨A, sv, ns, tx, h1, h2, h3, h4, h5, h6, h7⟩ := h
  refine ⟨nI (cp (wr A) 0 32), (upd M.1 0 0, M.2), ?_, ?_, REL_up h0 0⟩
  · unfold f_X2_room
    rw [s_wrc h1 h2, bd_some]
  · unfold f_X3_room
    rw [m_wrc h1 h3, bd_some, told, bd2_some]
theorem st_28 {t : Nat} {S : BO} {M : MO} (h : REL t S M) (ht : t < 512) : ∃ (r9 : Int32) (M9 : MO), f_X2_nextLoser S = some r9 ∧ f_X3_nextLoser M = some (r9, M9) ∧ REL (t + 1) S M9 := by
  have h0 := h
  obtain ⟨A, sv, ns, tx, h1, h2, h3, h4, h5, h6, h7⟩ := h
  refine ⟨oI (lsr A 0 32), (upd M.1 0 0, M.2), ?_, ?_, REL_up h0 0⟩
  · unfold f_X2_nextLoser
    rw [s_lsr h1 h2, bd_some]
  · unfold f_X3_nextLoser
    rw [m_lsr h1 h3, bd_some, told, bd2_some]
theorem st_36 {t : Nat} {S : BO} {M : MO} (h : REL t S M) (ht : t < 512) : ∃ (r9 : Int32) (M9 : MO), f_X2_savedStates S = some r9 ∧ f_X3_savedStates M = some (r9, M9) ∧ REL (t + 1) S M9 := by
  have h0 := h
  obtain ⟨A, sv, ns, tx, h1, h2, h3, h4, h5, h6, h7⟩ := h
  refine ⟨nI sv.length, (upd M.1 0 0, M.2), congrArg some h5.2.2.2.1, ?_, REL_up h0 0⟩
  show some (M.1 2, (upd M.1 0 0, M.2)) = _
  rw [h5.2.2.2.2.1]
/-! pieces -/
theorem s_flag {A : AT} {S : OB} (hi : INV A) (h : RS A S) {r : Nat} (hr : r < A.n) : f_X1_isFlagged (nI r) S = some (bZ (A.fl r)) := by
  have hn := INV_n hi
  unfold f_X1_isFlagged
  rw [vAt_nI (by omega) (by decide), RS_fl h hr]
  cases A.fl r <;> rfl
theorem bd2_id {α β : Type} (o : Option (α × β)) : bd2 o (fun a b => some (a, b)) = o := by
  cases o <;> rfl
theorem sm_cell (p : Int32) : (f_X2_requireCell p = some (.inl "java/lang/IndexOutOfBoundsException") ∧ f_X3_isCell p = some 0) ∨ ∃ k, k < 32 ∧ p = nI k ∧ f_X2_requireCell p = some (.inr ()) ∧ f_X3_isCell p = some 1 := by
  unfold f_X2_requireCell f_X3_isCell f_X3_in c_X2_requireCell_10
  by_cases h0 : p < 0
  · left; rw [if_pos h0, if_pos h0]; exact ⟨rfl, rfl⟩
  · obtain ⟨j, hj, rfl⟩ := nI_of h0
    rw [if_neg h0, if_neg h0, show (32 : Int32) = nI 32 from rfl, show (31 : Int32) = nI 31 from rfl]
    by_cases h1 : j < 32
    · right
      refine ⟨j, h1, rfl, ?_⟩
      rw [if_pos (by rw [nI_ltI hj (by omega)]; exact h1), if_neg (by rw [nI_ltI (by omega) hj]; omega)]
      exact ⟨rfl, rfl⟩
    · left
      rw [if_neg (by rw [nI_ltI hj (by omega)]; exact h1), if_pos (by rw [nI_ltI (by omega) hj]; omega)]
      exact ⟨rfl, rfl⟩
theorem sm_place {A : AT} {S : BO} {M : MO} (hi : INV A) (h : RS A S.2.1) (hm : RM A (M.2.1 1)) (p0 p1 : Int32) : (f_X2_requirePlace p0 p1 S = some (.inl "java/lang/IndexOutOfBoundsException") ∧ ∀ o, f_X3_ofPlace p0 p1 o M = some (0, (upd M.1 0 1, M.2))) ∨ ∃ r p, r < A.n ∧ p < 2 ^ 31 ∧ p0 = nI r ∧ p1 = nI p ∧ f_X2_requirePlace p0 p1 S = some (.inr ()) ∧ f_X3_isRecording p0 M = some 1 := by
  unfold f_X2_requirePlace f_X3_ofPlace
  rcases sm_rec hi h hm p0 with ⟨e1, e2⟩ | ⟨r, hr, rfl, e1, e2⟩
  · left
    rw [e1, e2]
    exact ⟨rfl, fun _ => rfl⟩
  · rw [e1, e2]
    by_cases h0 : p1 < 0
    · left
      rw [bd_some, if_neg (by decide), if_neg (Int32.not_le.mpr h0)]
      refine ⟨rfl, fun o => ?_⟩
      rw [bd_some, if_neg (by decide), if_pos h0]
      rfl
    · right
      obtain ⟨j, hj, rfl⟩ := nI_of h0
      refine ⟨r, j, hr, hj, rfl, rfl, ?_, rfl⟩
      rw [bd_some, if_neg (by decide), if_pos (nI_pos' hj)]
/-- what lies in a cell, if there is one -/
def pl (o : Option Nat) (f : Nat → Int32) : Int32 := match o with
  | none => -1
  | some k => f k
theorem vAt_m1 {N : Nat} {f : Nat → Int32} : vAt N f (-1) = -1 := by
  unfold vAt
  rw [if_pos (by decide)]
theorem pl_v {A : AT} {r p : Nat} (hi : INV A) {f g : Nat → Int32} (h : ∀ k, k < 32 → g k = f k) : vAt 32 g (oI (at_ (isO A r) A.od p)) = pl (at_ (isO A r) A.od p) f := by
  cases e : at_ (isO A r) A.od p with
  | none => exact vAt_m1
  | some k =>
    have hk := od_lt hi k ((at_bf (INV_nd hi)).mp e).1
    rw [oI_some, vAt_nI hk (by decide), h k hk]
    rfl
theorem pl_m {A : AT} {r p : Nat} (hi : INV A) {f : Nat → Int32} {M : MO} {o : Nat} (ho : o < 100) (h : ∀ k, k < 32 → (M.2.1 1) (o + k) = f k) : (if oI (at_ (isO A r) A.od p) = -1 then some (oI (at_ (isO A r) A.od p), M) else gd (nI o + oI (at_ (isO A r) A.od p)) 1085 (some ((M.2.1 1) (Int32.toNatClampNeg (nI o + oI (at_ (isO A r) A.od p))), M))) = some (pl (at_ (isO A r) A.od p) f, M) := by
  cases e : at_ (isO A r) A.od p with
  | none => rfl
  | some k =>
    have hk := od_lt hi k ((at_bf (INV_nd hi)).mp e).1
    rw [oI_some, if_neg (fun q => nI_m1 (n := k) (by omega) q), nI_add, gd_nI (by omega) (by decide), nI_clamp (by omega), h k hk]
    rfl
/-! steps that may throw and change nothing -/
theorem st_9 {t : Nat} {S : BO} {M : MO} (h : REL t S M) (ht : t < 512) (p1 : Int32) (ob : Nat → Int64) : ∃ (r9 : Int32) (rm : Int32) (S9 : BO) (ob9 : Nat → Int64) (M9 : MO), f_L_length p1 S ob = some (r9, S9, ob9) ∧ f_X3_length p1 M = some (rm, M9) ∧ M9.1 0 = r9 ∧ (r9 = 0 → ob9 0 = Int32.toInt64 rm) ∧ REL (t + 1) S9 M9 := by
  have h0 := h
  obtain ⟨A, sv, ns, tx, h1, h2, h3, h4, h5, h6, h7⟩ := h
  have hn := INV_n h1
  have hs : A.sp < 2 ^ 31 := by omega
  rcases sm_rec h1 h2 h3 p1 with ⟨e1, e2⟩ | ⟨r, hr, rfl, e1, e2⟩
  · refine ⟨1, 0, S, ob, (upd M.1 0 1, M.2), ?_, ?_, rfl, fun q => absurd q (by decide), REL_up h0 1⟩
    · have hx : f_X2_length p1 S = some (.inl "java/lang/IndexOutOfBoundsException") := by
        unfold f_X2_length f_X2_requireRecording
        rw [e1]; rfl
      unfold f_L_length
      rw [hx]
      rfl
    · unfold f_X3_length
      rw [e2]; rfl
  · refine ⟨0, nI (cnt A (some r)), S, vp_updL ob 0 (Int32.toInt64 (nI (cnt A (some r)))), (upd M.1 0 0, M.2), ?_, ?_, rfl, fun _ => rfl, REL_up h0 0⟩
    · have hx : f_X2_length (nI r) S = some (.inr (nI (cnt A (some r)))) := by
        unfold f_X2_length f_X2_requireRecording
        rw [e1, bd_some, if_neg (by decide)]
        show bd (f_X1_cellCount (oI (some r)) S.2.1) _ = _
        rw [s_cnt h1 h2 (fun q e => by cases e; omega), bd_some]
      unfold f_L_length
      rw [hx]
    · unfold f_X3_length c_X3_length_14
      rw [e2, bd_some, if_neg (by decide), holds0, bd2_some, if_neg (by decide), show nI r = oI (some r) from rfl, m_cnt (M := (upd M.1 0 0, M.2)) h1 h3 (fun q e => by cases e; omega), bd_some]
theorem st_12 {t : Nat} {S : BO} {M : MO} (h : REL t S M) (ht : t < 512) (p1 : Int32) (ob : Nat → Int64) : ∃ (r9 : Int32) (rm : Int32) (S9 : BO) (ob9 : Nat → Int64) (M9 : MO), f_L_hasFlag p1 S ob = some (r9, S9, ob9) ∧ f_X3_hasFlag p1 M = some (rm, M9) ∧ M9.1 0 = r9 ∧ (r9 = 0 → ob9 0 = if rm = 0 then (0 : Int64) else (1 : Int64)) ∧ REL (t + 1) S9 M9 := by
  have h0 := h
  obtain ⟨A, sv, ns, tx, h1, h2, h3, h4, h5, h6, h7⟩ := h
  have hn := INV_n h1
  have hs : A.sp < 2 ^ 31 := by omega
  rcases sm_rec h1 h2 h3 p1 with ⟨e1, e2⟩ | ⟨r, hr, rfl, e1, e2⟩
  · refine ⟨1, 0, S, ob, (upd M.1 0 1, M.2), ?_, ?_, rfl, fun q => absurd q (by decide), REL_up h0 1⟩
    · have hx : f_X2_hasFlag p1 S = some (.inl "java/lang/IndexOutOfBoundsException") := by
        unfold f_X2_hasFlag f_X2_requireRecording
        rw [e1]; rfl
      unfold f_L_hasFlag
      rw [hx]
      rfl
    · unfold f_X3_hasFlag
      rw [e2]; rfl
  · refine ⟨0, bZ (A.fl r), S, vp_updL ob 0 (if bZ (A.fl r) = 0 then (0 : Int64) else (1 : Int64)), (upd M.1 0 0, M.2), ?_, ?_, rfl, fun _ => rfl, REL_up h0 0⟩
    · have hx : f_X2_hasFlag (nI r) S = some (.inr (bZ (A.fl r))) := by
        unfold f_X2_hasFlag f_X2_requireRecording
        rw [e1, bd_some, if_neg (by decide)]
        show bd (f_X1_isFlagged (nI r) S.2.1) _ = _
        rw [s_flag h1 h2 hr, bd_some, zb_bZ]
      unfold f_L_hasFlag
      rw [hx]
    · unfold f_X3_hasFlag c_X3_hasFlag_14
      rw [e2, bd_some, if_neg (by decide), holds0, bd2_some, if_neg (by decide), show (7 : Int32) + nI r = nI (7 + r) from nI_add 7 r, gd_nI (by omega) (by decide), nI_clamp (by omega)]
      show (if (M.2.1 1) (7 + r) = 1 then some ((1 : Int32), (upd M.1 0 0, M.2)) else some (0, (upd M.1 0 0, M.2))) = _
      rw [RM_fl h3 hr]
      cases A.fl r <;> rfl
theorem st_13 {t : Nat} {S : BO} {M : MO} (h : REL t S M) (ht : t < 512) (p1 : Int32) (ob : Nat → Int64) : ∃ (r9 : Int32) (rm : Int32) (S9 : BO) (ob9 : Nat → Int64) (M9 : MO), f_L_lost p1 S ob = some (r9, S9, ob9) ∧ f_X3_lost p1 M = some (rm, M9) ∧ M9.1 0 = r9 ∧ (r9 = 0 → ob9 0 = Int32.toInt64 rm) ∧ REL (t + 1) S9 M9 := by
  have h0 := h
  obtain ⟨A, sv, ns, tx, h1, h2, h3, h4, h5, h6, h7⟩ := h
  have hn := INV_n h1
  have hs : A.sp < 2 ^ 31 := by omega
  rcases sm_rec h1 h2 h3 p1 with ⟨e1, e2⟩ | ⟨r, hr, rfl, e1, e2⟩
  · refine ⟨1, 0, S, ob, (upd M.1 0 1, M.2), ?_, ?_, rfl, fun q => absurd q (by decide), REL_up h0 1⟩
    · have hx : f_X2_lost p1 S = some (.inl "java/lang/IndexOutOfBoundsException") := by
        unfold f_X2_lost f_X2_requireRecording
        rw [e1]; rfl
      unfold f_L_lost
      rw [hx]
      rfl
    · unfold f_X3_lost
      rw [e2]; rfl
  · refine ⟨0, A.lo r, S, vp_updL ob 0 (Int32.toInt64 (A.lo r)), (upd M.1 0 0, M.2), ?_, ?_, rfl, fun _ => rfl, REL_up h0 0⟩
    · have hx : f_X2_lost (nI r) S = some (.inr (A.lo r)) := by
        unfold f_X2_lost f_X2_requireRecording
        rw [e1, bd_some, if_neg (by decide)]
        show some (Sum.inr (vAt 10 (S.2.1.2 6) (nI r))) = _
        rw [vAt_nI (by omega) (by decide), RS_lo h2 hr]
      unfold f_L_lost
      rw [hx]
    · unfold f_X3_lost c_X3_lost_14
      rw [e2, bd_some, if_neg (by decide), holds0, bd2_some, if_neg (by decide), show (17 : Int32) + nI r = nI (17 + r) from nI_add 17 r, gd_nI (by omega) (by decide), nI_clamp (by omega)]
      show some (M.2.1 1 (17 + r), _) = _
      rw [RM_lo h3 hr]
theorem st_14 {t : Nat} {S : BO} {M : MO} (h : REL t S M) (ht : t < 512) (p1 : Int32) (ob : Nat → Int64) : ∃ (r9 : Int32) (rm : Int32) (S9 : BO) (ob9 : Nat → Int64) (M9 : MO), f_L_owner p1 S ob = some (r9, S9, ob9) ∧ f_X3_owner p1 M = some (rm, M9) ∧ M9.1 0 = r9 ∧ (r9 = 0 → ob9 0 = Int32.toInt64 rm) ∧ REL (t + 1) S9 M9 := by
  have h0 := h
  obtain ⟨A, sv, ns, tx, h1, h2, h3, h4, h5, h6, h7⟩ := h
  have hn := INV_n h1
  have hs : A.sp < 2 ^ 31 := by omega
  rcases sm_cell p1 with ⟨e1, e2⟩ | ⟨k, hk, rfl, e1, e2⟩
  · refine ⟨1, 0, S, ob, (upd M.1 0 1, M.2), ?_, ?_, rfl, fun q => absurd q (by decide), REL_up h0 1⟩
    · have hx : f_X2_owner p1 S = some (.inl "java/lang/IndexOutOfBoundsException") := by
        unfold f_X2_owner
        rw [e1]; rfl
      unfold f_L_owner
      rw [hx]
      rfl
    · unfold f_X3_owner
      rw [e2]; rfl
  · refine ⟨0, oI (A.ow k), S, vp_updL ob 0 (Int32.toInt64 (oI (A.ow k))), (upd M.1 0 0, M.2), ?_, ?_, rfl, fun _ => rfl, REL_up h0 0⟩
    · have hx : f_X2_owner (nI k) S = some (.inr (oI (A.ow k))) := by
        unfold f_X2_owner
        rw [e1]
        show some (Sum.inr (vAt 32 (S.2.1.2 0) (nI k))) = _
        rw [vAt_nI hk (by decide), RS_ow h2 hk]
      unfold f_L_owner
      rw [hx]
    · unfold f_X3_owner c_X3_owner_13
      rw [e2, bd_some, if_neg (by decide), holds0, bd2_some, if_neg (by decide), show (27 : Int32) + nI k = nI (27 + k) from nI_add 27 k, gd_nI (by omega) (by decide), nI_clamp (by omega)]
      show some (M.2.1 1 (27 + k), _) = _
      rw [RM_ow h3 hk]
theorem st_10 {t : Nat} {S : BO} {M : MO} (h : REL t S M) (ht : t < 512) (p1 : Int32) (p2 : Int32) (ob : Nat → Int64) : ∃ (r9 : Int32) (rm : Int32) (S9 : BO) (ob9 : Nat → Int64) (M9 : MO), f_L_sound p1 p2 S ob = some (r9, S9, ob9) ∧ f_X3_sound p1 p2 M = some (rm, M9) ∧ M9.1 0 = r9 ∧ (r9 = 0 → ob9 0 = Int32.toInt64 rm) ∧ REL (t + 1) S9 M9 := by
  have h0 := h
  obtain ⟨A, sv, ns, tx, h1, h2, h3, h4, h5, h6, h7⟩ := h
  have hn := INV_n h1
  have hs : A.sp < 2 ^ 31 := by omega
  rcases sm_place h1 h2 h3 p1 p2 with ⟨e1, e2⟩ | ⟨r, p, hr, hp, rfl, rfl, e1, e2⟩
  · refine ⟨1, 0, S, ob, (upd M.1 0 1, M.2), ?_, ?_, rfl, fun q => absurd q (by decide), REL_up h0 1⟩
    · have hx : f_X2_sound p1 p2 S = some (.inl "java/lang/IndexOutOfBoundsException") := by
        unfold f_X2_sound
        rw [e1]; rfl
      unfold f_L_sound
      rw [hx]
      rfl
    · unfold f_X3_sound
      rw [e2]; rfl
  · refine ⟨0, pl (at_ (isO A r) A.od p) A.sn, S, vp_updL ob 0 (Int32.toInt64 (pl (at_ (isO A r) A.od p) A.sn)), (upd M.1 0 0, M.2), ?_, ?_, rfl, fun _ => rfl, REL_up h0 0⟩
    · have hx : f_X2_sound (nI r) (nI p) S = some (.inr (pl (at_ (isO A r) A.od p) A.sn)) := by
        unfold f_X2_sound
        rw [e1]
        show bd (f_X1_cellAt (nI r) (nI p) S.2.1) _ = _
        rw [s_at h1 h2 hr hp, bd_some]
        exact congrArg (fun z => some (Sum.inr z)) (pl_v h1 (fun k hk => RS_sn h2 hk))
      unfold f_L_sound
      rw [hx]
    · unfold f_X3_sound f_X3_ofPlace c_X3_ofPlace_18
      rw [e2, bd_some, if_neg (by decide), if_neg (nI_pos hp), holds0, bd2_some, if_neg (by decide), m_at (M := (upd M.1 0 0, M.2)) h1 hs h3 hr hp, bd_some]
      rw [if_neg (show ¬ (59 : Int32) = 0 by decide)]
      refine (bd2_id _).trans ?_
      exact pl_m h1 (M := (upd M.1 0 0, M.2)) (o := 59) (by decide) (fun k hk => RM_sn h3 hk)
theorem st_11 {t : Nat} {S : BO} {M : MO} (h : REL t S M) (ht : t < 512) (p1 : Int32) (p2 : Int32) (ob : Nat → Int64) : ∃ (r9 : Int32) (rm : Int32) (S9 : BO) (ob9 : Nat → Int64) (M9 : MO), f_L_cellOf p1 p2 S ob = some (r9, S9, ob9) ∧ f_X3_cellOf p1 p2 M = some (rm, M9) ∧ M9.1 0 = r9 ∧ (r9 = 0 → ob9 0 = Int32.toInt64 rm) ∧ REL (t + 1) S9 M9 := by
  have h0 := h
  obtain ⟨A, sv, ns, tx, h1, h2, h3, h4, h5, h6, h7⟩ := h
  have hn := INV_n h1
  have hs : A.sp < 2 ^ 31 := by omega
  rcases sm_place h1 h2 h3 p1 p2 with ⟨e1, e2⟩ | ⟨r, p, hr, hp, rfl, rfl, e1, e2⟩
  · refine ⟨1, 0, S, ob, (upd M.1 0 1, M.2), ?_, ?_, rfl, fun q => absurd q (by decide), REL_up h0 1⟩
    · have hx : f_X2_cellOf p1 p2 S = some (.inl "java/lang/IndexOutOfBoundsException") := by
        unfold f_X2_cellOf
        rw [e1]; rfl
      unfold f_L_cellOf
      rw [hx]
      rfl
    · unfold f_X3_cellOf
      rw [e2]; rfl
  · refine ⟨0, oI (at_ (isO A r) A.od p), S, vp_updL ob 0 (Int32.toInt64 (oI (at_ (isO A r) A.od p))), (upd M.1 0 0, M.2), ?_, ?_, rfl, fun _ => rfl, REL_up h0 0⟩
    · have hx : f_X2_cellOf (nI r) (nI p) S = some (.inr (oI (at_ (isO A r) A.od p))) := by
        unfold f_X2_cellOf
        rw [e1]
        show bd (f_X1_cellAt (nI r) (nI p) S.2.1) _ = _
        rw [s_at h1 h2 hr hp, bd_some]
      unfold f_L_cellOf
      rw [hx]
    · unfold f_X3_cellOf f_X3_ofPlace c_X3_ofPlace_18
      rw [e2, bd_some, if_neg (by decide), if_neg (nI_pos hp), holds0, bd2_some, if_neg (by decide), m_at (M := (upd M.1 0 0, M.2)) h1 hs h3 hr hp, bd_some]
      rw [if_pos rfl]
      split <;> rfl
theorem st_25 {t : Nat} {S : BO} {M : MO} (h : REL t S M) (ht : t < 512) (p1 : Int32) (p2 : Int32) (ob : Nat → Int64) : ∃ (r9 : Int32) (rm : Int32) (S9 : BO) (ob9 : Nat → Int64) (M9 : MO), f_L_carbon p1 p2 S ob = some (r9, S9, ob9) ∧ f_X3_carbon p1 p2 M = some (rm, M9) ∧ M9.1 0 = r9 ∧ (r9 = 0 → ob9 0 = Int32.toInt64 rm) ∧ REL (t + 1) S9 M9 := by
  have h0 := h
  obtain ⟨A, sv, ns, tx, h1, h2, h3, h4, h5, h6, h7⟩ := h
  have hn := INV_n h1
  have hs : A.sp < 2 ^ 31 := by omega
  rcases sm_place h1 h2 h3 p1 p2 with ⟨e1, e2⟩ | ⟨r, p, hr, hp, rfl, rfl, e1, e2⟩
  · refine ⟨1, 0, S, ob, (upd M.1 0 1, M.2), ?_, ?_, rfl, fun q => absurd q (by decide), REL_up h0 1⟩
    · have hx : f_X2_carbon p1 p2 S = some (.inl "java/lang/IndexOutOfBoundsException") := by
        unfold f_X2_carbon
        rw [e1]; rfl
      unfold f_L_carbon
      rw [hx]
      rfl
    · unfold f_X3_carbon
      rw [e2]; rfl
  · refine ⟨0, pl (at_ (isO A r) A.od p) A.ca, S, vp_updL ob 0 (Int32.toInt64 (pl (at_ (isO A r) A.od p) A.ca)), (upd M.1 0 0, M.2), ?_, ?_, rfl, fun _ => rfl, REL_up h0 0⟩
    · have hx : f_X2_carbon (nI r) (nI p) S = some (.inr (pl (at_ (isO A r) A.od p) A.ca)) := by
        unfold f_X2_carbon
        rw [e1]
        show bd (f_X1_cellAt (nI r) (nI p) S.2.1) _ = _
        rw [s_at h1 h2 hr hp, bd_some]
        exact congrArg (fun z => some (Sum.inr z)) (pl_v h1 (fun k hk => RS_ca h2 hk))
      unfold f_L_carbon
      rw [hx]
    · unfold f_X3_carbon f_X3_ofPlace c_X3_ofPlace_18
      rw [e2, bd_some, if_neg (by decide), if_neg (nI_pos hp), holds0, bd2_some, if_neg (by decide), m_at (M := (upd M.1 0 0, M.2)) h1 hs h3 hr hp, bd_some]
      rw [if_neg (show ¬ (91 : Int32) = 0 by decide)]
      refine (bd2_id _).trans ?_
      exact pl_m h1 (M := (upd M.1 0 0, M.2)) (o := 91) (by decide) (fun k hk => RM_ca h3 hk)
