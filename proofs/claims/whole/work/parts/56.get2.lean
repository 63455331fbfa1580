theorem sm_fore (p : Int32) : (f_X2_requireForecast p = some (.inl "java/lang/IllegalArgumentException") ∧ f_X3_in p 1 32 = some 0) ∨ ∃ m, 0 < m ∧ m ≤ 32 ∧ p = nI m ∧ f_X2_requireForecast p = some (.inr ()) ∧ f_X3_in p 1 32 = some 1 := by
  unfold f_X2_requireForecast f_X3_in c_X2_requireForecast_11
  by_cases h0 : p < 1
  · left; rw [if_pos h0, if_pos h0]; exact ⟨rfl, rfl⟩
  · have h00 : ¬ p < 0 := fun q => h0 (Int32.lt_trans q (by decide))
    obtain ⟨j, hj, rfl⟩ := nI_of h00
    have hj0 : 0 < j := by
      have h0 : ¬ nI j < nI 1 := h0
      rw [nI_ltI hj (by omega)] at h0; omega
    rw [if_neg h0, if_neg h0, show (32 : Int32) = nI 32 from rfl]
    by_cases h1 : j ≤ 32
    · right
      refine ⟨j, hj0, h1, rfl, ?_⟩
      rw [if_pos (by rw [nI_leI hj (by omega)]; exact h1), if_neg (by rw [nI_ltI (by omega) hj]; omega)]
      exact ⟨rfl, rfl⟩
    · left
      rw [if_neg (by rw [nI_leI hj (by omega)]; exact h1), if_pos (by rw [nI_ltI (by omega) hj]; omega)]
      exact ⟨rfl, rfl⟩
def gaq (A : AT) (m : Nat) (j : Nat) : Bool := decide (0 < lsa A j m 0 0 32) && decide (lsa A j m 0 0 32 = cnt A (some j))
theorem s_ga {A : AT} {S : BO} (hi : INV A) (h : RS A S.2.1) {m : Nat} (hm : m ≤ 32) : ∀ (d f c j : Nat), j + d = A.n → d < f → lpf3 (b_X2_goneAfter_8 S) f (nI m) (nI c) (nI j) = some (.inr (nI (c + cp (gaq A m) j d)))
  | 0, f + 1, c, j, hj, _ => by
    obtain rfl : j = A.n := hj
    have hn := INV_n hi
    rw [lpf3_s]
    unfold b_X2_goneAfter_8
    rw [RS_n h, if_pos (Int32.le_refl _)]
    rfl
  | d + 1, f + 1, c, j, hj, hf => by
    have hn := INV_n hi
    have ih := fun c => s_ga hi h hm d f c (j + 1) (by omega) (by omega)
    have hl : lsa A j m 0 0 32 ≤ 32 := Nat.le_trans (lsa_le A j 32 m 0 0) (by omega)
    have hc := cnt_le A (some j)
    rw [lpf3_s]
    generalize lpf3 (b_X2_goneAfter_8 S) f = K at ih ⊢
    unfold b_X2_goneAfter_8
    rw [RS_n h, if_neg (by rw [nI_leI (by omega) (by omega)]; omega), s_lsa hi h (by omega) hm, bd_some]
    have e1 : c + cp (gaq A m) j (d + 1) = c + (if gaq A m j then 1 else 0) + cp (gaq A m) (j + 1) d := (Nat.add_assoc ..).symm
    rw [e1]
    simp only [nm_eq, show nI c + 1 = nI (c + 1) from nI_1 c, show nI j + 1 = nI (j + 1) from nI_1 j]
    by_cases q : lsa A j m 0 0 32 = 0
    · rw [if_pos (by rw [q]; decide), ih c, show gaq A m j = false by unfold gaq; rw [q]; rfl]
      rfl
    · rw [if_neg (by rw [show (0 : Int32) = nI 0 from rfl, nI_leI (Nat.lt_of_le_of_lt hl (by decide)) (by omega)]; exact fun w => q (Nat.le_zero.mp w)), show nI j = oI (some j) from rfl, s_cnt hi h (fun q e => by cases e; omega), bd_some]
      by_cases q2 : lsa A j m 0 0 32 = cnt A (some j)
      · rw [if_pos (by rw [q2]), ih (c + 1), show gaq A m j = true by unfold gaq; rw [decide_eq_true q2, decide_eq_true (Nat.pos_of_ne_zero q)]; rfl]
        rfl
      · rw [if_neg (fun w => q2 ((nI_eq (Nat.lt_of_le_of_lt hl (by decide)) (Nat.lt_of_le_of_lt hc (by decide))).mp w)), ih c, show gaq A m j = false by unfold gaq; rw [decide_eq_false q2, Bool.and_false]]
        rfl
theorem m_ga {A : AT} {M : MO} (hi : INV A) (h : RM A (M.2.1 1)) {m : Nat} (hm : m ≤ 32) : ∀ (d f c j : Nat), j + d = A.n → d < f → lpf4 b_X3_goneAfter_28 f (nI m) (nI c) (nI j) M = some (nI (c + cp (gaq A m) j d), M)
  | 0, f + 1, c, j, hj, _ => by
    obtain rfl : j = A.n := hj
    have hn := INV_n hi
    rw [lpf4_s]
    unfold b_X3_goneAfter_28
    rw [show (0 : Int32) = nI 0 from rfl, gd_nI (by omega) (by decide), nI_clamp (by omega), RM_n h, if_pos (Int32.le_refl _)]
    rfl
  | d + 1, f + 1, c, j, hj, hf => by
    have hn := INV_n hi
    have ih := fun c => m_ga hi h hm d f c (j + 1) (by omega) (by omega)
    have hl : lsa A j m 0 0 32 ≤ 32 := Nat.le_trans (lsa_le A j 32 m 0 0) (by omega)
    have hc := cnt_le A (some j)
    rw [lpf4_s]
    generalize lpf4 b_X3_goneAfter_28 f = K at ih ⊢
    unfold b_X3_goneAfter_28
    rw [show gd (0 : Int32) = @gd (Int32 × MO) (nI 0) from rfl, gd_nI (by omega) (by decide), show Int32.toNatClampNeg 0 = 0 from rfl, RM_n h, if_neg (by rw [nI_leI (by omega) (by omega)]; omega), m_lsa hi h (by omega) hm, bd_some]
    have e1 : c + cp (gaq A m) j (d + 1) = c + (if gaq A m j then 1 else 0) + cp (gaq A m) (j + 1) d := (Nat.add_assoc ..).symm
    rw [e1]
    simp only [nm_eq, show nI c + 1 = nI (c + 1) from nI_1 c, show nI c + 0 = nI c from nI_add c 0, show nI j + 1 = nI (j + 1) from nI_1 j]
    by_cases q : lsa A j m 0 0 32 = 0
    · rw [if_pos (by rw [q]; decide), ih c, show gaq A m j = false by unfold gaq; rw [q]; rfl]
      rfl
    · rw [if_neg (by rw [show (0 : Int32) = nI 0 from rfl, nI_leI (Nat.lt_of_le_of_lt hl (by decide)) (by omega)]; exact fun w => q (Nat.le_zero.mp w)), show nI j = oI (some j) from rfl, m_cnt hi h (fun q e => by cases e; omega), bd_some]
      by_cases q2 : lsa A j m 0 0 32 = cnt A (some j)
      · rw [if_pos (by rw [q2]), ih (c + 1), show gaq A m j = true by unfold gaq; rw [decide_eq_true q2, decide_eq_true (Nat.pos_of_ne_zero q)]; rfl]
        rfl
      · rw [if_neg (fun w => q2 ((nI_eq (Nat.lt_of_le_of_lt hl (by decide)) (Nat.lt_of_le_of_lt hc (by decide))).mp w)), ih c, show gaq A m j = false by unfold gaq; rw [decide_eq_false q2, Bool.and_false]]
        rfl
def shq (l : Nat) : Bool := match nn (FP.ddiv (FP.i2d (nI l)) 4629700416936869888) with
  | none => false
  | some r => decide (FP.dcmp r r = some .eq)
theorem sh_ok : ∀ l : Fin 33, shq l.1 = true := by decide +kernel
theorem st_29 {t : Nat} {S : BO} {M : MO} (h : REL t S M) (ht : t < 512) (p1 : Int32) (p2 : Int32) (ob : Nat → Int64) : ∃ (r9 : Int32) (rm : Int32) (S9 : BO) (ob9 : Nat → Int64) (M9 : MO), f_L_lossOf p1 p2 S ob = some (r9, S9, ob9) ∧ f_X3_lossOf p1 p2 M = some (rm, M9) ∧ M9.1 0 = r9 ∧ (r9 = 0 → ob9 0 = Int32.toInt64 rm) ∧ REL (t + 1) S9 M9 := by
  have h0 := h
  obtain ⟨A, sv, ns, tx, h1, h2, h3, h4, h5, h6, h7⟩ := h
  have hn := INV_n h1
  have hs : A.sp < 2 ^ 31 := by omega
  rcases sm_rec h1 h2 h3 p1 with ⟨e1, e2⟩ | ⟨r, hr, rfl, e1, e2⟩
  · refine ⟨1, 0, S, ob, (upd M.1 0 1, M.2), ?_, ?_, rfl, fun q => absurd q (by decide), REL_up h0 1⟩
    · have hx : f_X2_lossOf p1 p2 S = some (.inl "java/lang/IndexOutOfBoundsException") := by
        unfold f_X2_lossOf f_X2_requireRecording
        rw [e1]; rfl
      unfold f_L_lossOf
      rw [hx]
      rfl
    · unfold f_X3_lossOf
      rw [e2]; rfl
  rcases sm_fore p2 with ⟨e3, e4⟩ | ⟨m, m0, hm, rfl, e3, e4⟩
  · refine ⟨2, 0, S, ob, (upd M.1 0 2, M.2), ?_, ?_, rfl, fun q => absurd q (by decide), REL_up h0 2⟩
    · have hx : f_X2_lossOf (nI r) p2 S = some (.inl "java/lang/IllegalArgumentException") := by
        unfold f_X2_lossOf f_X2_requireRecording
        rw [e1, e3]; rfl
      unfold f_L_lossOf
      rw [hx]
      rfl
    · unfold f_X3_lossOf
      rw [e2, e4]; rfl
  · refine ⟨0, nI (lsa A r m 0 0 32), S, vp_updL ob 0 (Int32.toInt64 (nI (lsa A r m 0 0 32))), (upd M.1 0 0, M.2), ?_, ?_, rfl, fun _ => rfl, REL_up h0 0⟩
    · have hx : f_X2_lossOf (nI r) (nI m) S = some (.inr (nI (lsa A r m 0 0 32))) := by
        unfold f_X2_lossOf f_X2_requireRecording
        rw [e1, e3, bd_some, if_neg (by decide)]
        show bd (f_X1_lossAfter (nI r) (nI m) S.2.1) _ = _
        rw [s_lsa h1 h2 hr hm, bd_some]
      unfold f_L_lossOf
      rw [hx]
    · unfold f_X3_lossOf c_X3_lossOf_28
      rw [e2, bd_some, if_neg (by decide), e4, bd_some, if_neg (by decide), holds0, bd2_some, if_neg (by decide), m_lsa (M := (upd M.1 0 0, M.2)) h1 h3 hr hm, bd_some]
theorem st_30 {t : Nat} {S : BO} {M : MO} (h : REL t S M) (ht : t < 512) (p1 : Int32) (ob : Nat → Int64) : ∃ (r9 : Int32) (rm : Int32) (S9 : BO) (ob9 : Nat → Int64) (M9 : MO), f_L_goneAfter p1 S ob = some (r9, S9, ob9) ∧ f_X3_goneAfter p1 M = some (rm, M9) ∧ M9.1 0 = r9 ∧ (r9 = 0 → ob9 0 = Int32.toInt64 rm) ∧ REL (t + 1) S9 M9 := by
  have h0 := h
  obtain ⟨A, sv, ns, tx, h1, h2, h3, h4, h5, h6, h7⟩ := h
  have hn := INV_n h1
  have hs : A.sp < 2 ^ 31 := by omega
  rcases sm_fore p1 with ⟨e3, e4⟩ | ⟨m, m0, hm, rfl, e3, e4⟩
  · refine ⟨1, 0, S, ob, (upd M.1 0 1, M.2), ?_, ?_, rfl, fun q => absurd q (by decide), REL_up h0 1⟩
    · have hx : f_X2_goneAfter p1 S = some (.inl "java/lang/IllegalArgumentException") := by
        unfold f_X2_goneAfter
        rw [e3]; rfl
      unfold f_L_goneAfter
      rw [hx]
      rfl
    · unfold f_X3_goneAfter
      rw [e4]; rfl
  · refine ⟨0, nI (0 + cp (gaq A m) 0 A.n), S, vp_updL ob 0 (Int32.toInt64 (nI (0 + cp (gaq A m) 0 A.n))), (upd M.1 0 0, M.2), ?_, ?_, rfl, fun _ => rfl, REL_up h0 0⟩
    · have hx : f_X2_goneAfter (nI m) S = some (.inr (nI (0 + cp (gaq A m) 0 A.n))) := by
        unfold f_X2_goneAfter
        rw [e3]
        exact s_ga h1 h2 hm A.n FU 0 0 (Nat.zero_add _) (Nat.lt_of_le_of_lt hn (by decide))
      unfold f_L_goneAfter
      rw [hx]
    · unfold f_X3_goneAfter c_X3_goneAfter_16
      rw [e4, bd_some, if_neg (by decide), holds0, bd2_some, if_neg (by decide)]
      exact m_ga (M := (upd M.1 0 0, M.2)) h1 h3 hm A.n FU 0 0 (Nat.zero_add _) (Nat.lt_of_le_of_lt hn (by decide))
theorem st_18 {t : Nat} {S : BO} {M : MO} (h : REL t S M) (ht : t < 512) : ∃ (r9 : UInt64) (M9 : MO), f_X2_usedShare S = some r9 ∧ f_X3_usedShare M = some (r9, M9) ∧ FP.dcmp r9 r9 = some .eq ∧ REL (t + 1) S M9 := by
  have h0 := h
  obtain ⟨A, sv, ns, tx, h1, h2, h3, h4, h5, h6, h7⟩ := h
  have hn := INV_n h1
  have hs : A.sp < 2 ^ 31 := by omega
  have hf := od_free h1
  have hl := od_le h1
  have hq := sh_ok ⟨A.od.length, by omega⟩
  unfold shq at hq
  unfold f_X2_usedShare f_X3_usedShare
  rw [RS_us h2, nm_eq, show (-1 : Int32) = oI none from rfl, m_cnt (M := (upd M.1 0 0, M.2)) h1 h3 (fun r e => by cases e), bd_some, show (32 : Int32) = nI 32 from rfl, sub_nI (by omega), show 32 - cnt A none = A.od.length by omega]
  cases e : nn (FP.ddiv (FP.i2d (nI A.od.length)) 4629700416936869888) with
  | none => rw [e] at hq; cases hq
  | some r =>
    rw [e] at hq
    exact ⟨r, (upd M.1 0 0, M.2), rfl, rfl, of_decide_eq_true hq, REL_up h0 0⟩
theorem st_32 {t : Nat} {S : BO} {M : MO} (h : REL t S M) (ht : t < 512) : ∃ (r9 : Int32) (S9 : BO) (M9 : MO), f_X2_clearText S = some (r9, S9) ∧ f_X3_clearText M = some (r9, M9) ∧ REL (t + 1) S9 M9 := by
  obtain ⟨A, sv, ns, tx, h1, h2, h3, h4, ⟨v1, v2, v3, v4, v5, v6⟩, h6, ⟨x1, x2, x3, x4⟩⟩ := h
  unfold f_X2_clearText f_X3_clearText
  simp only [nm_eq]
  refine ⟨nI tx.length, (S.1, S.2.1, S.2.2.1, (upd S.2.2.2.1 1 0, S.2.2.2.2)), (upd (upd M.1 0 0) 4 0, M.2), by rw [x2], ?_, A, sv, ns, [], h1, h2, h3, by omega, ⟨v1, v2, v3, v4, v5, v6⟩, fun B hB => by have := h6 B hB; omega, ⟨by simp, rfl, rfl, fun i h => absurd h (by simp)⟩⟩
  rw [show upd M.1 0 0 4 = nI tx.length from x3]
