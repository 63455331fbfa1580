theorem sc_0 (M : MO) : (upd M.1 5 0, M.2) = sc M 0 (M.1 6) (M.1 7) (M.1 8) := by
  refine Prod.ext (funext fun k => ?_) rfl
  show (if k = 5 then (0 : Int32) else M.1 k) = if k = 5 then nI 0 else if k = 6 then M.1 6 else if k = 7 then M.1 7 else if k = 8 then M.1 8 else M.1 k
  by_cases e : k = 5
  · rw [if_pos e, if_pos e]; rfl
  · rw [if_neg e, if_neg e]
    split
    · next q => rw [q]
    · split
      · next q => rw [q]
      · split
        · next q => rw [q]
        · rfl
theorem st_34 {t : Nat} {S : BO} {M : MO} (h : REL t S M) (ht : t < 512) (ob : Nat → Int64) : ∃ (r9 : Int32) (rm : Int32) (S9 : BO) (ob9 : Nat → Int64) (M9 : MO), f_L_run S ob = some (r9, S9, ob9) ∧ f_X3_run M = some (rm, M9) ∧ M9.1 0 = r9 ∧ (r9 = 0 → ob9 0 = Int32.toInt64 rm) ∧ REL (t + 1) S9 M9 := by
  obtain ⟨A, sv, ns, tx, h1, h2, h3, h4, h5, h6, h7⟩ := h
  have hMT : MT tx M := ⟨h7.1, h7.2.2.1, fun i hi => ⟨(h7.2.2.2 i hi).1, (h7.2.2.2 i hi).2.1, (h7.2.2.2 i hi).2.2.2⟩⟩
  have hTC : TC tx S := ⟨h7.1, fun i hi => ⟨(h7.2.2.2 i hi).2.1, (h7.2.2.2 i hi).2.2.1⟩⟩
  have h60 := h7.1
  obtain ⟨a, b, c, k1⟩ := f_are hMT
  have kc : f_X0_isComplete S.2.2.2 = some (bZ (decide (fs 0 tx = some 1 ∨ fs 0 tx = some 3))) := by
    have := s_cmp0 (S := S.2.2.2) h7.2.1 h60 (fun i hi => ⟨(h7.2.2.2 i hi).2.1, (h7.2.2.2 i hi).2.2.1⟩) tx.length FU (some 0) 0 (Nat.zero_add _) (Nat.lt_of_le_of_lt h60 (by decide)) (fun r e => by cases e; omega)
    exact this
  obtain ⟨v1, v2, v3, v4, v5, v6⟩ := h5
  obtain ⟨x1, x2, x3, x4⟩ := h7
  have e2 : (sc M (er 0 tx) a b c).1 2 = M.1 2 := sc_k _ _ _ _ _ (by omega) (by omega) (by omega) (by omega)
  have e4 : (sc M (er 0 tx) a b c).1 4 = M.1 4 := sc_k _ _ _ _ _ (by omega) (by omega) (by omega) (by omega)
  by_cases hok : fs 0 tx = some 1 ∨ fs 0 tx = some 3
  · rw [decide_eq_true hok] at k1 kc
    obtain ⟨S', M', s1, s2, s3, s4, s5, s6, s7, s8, ⟨ns', s9⟩, _⟩ := REL_do (M := sc M (er 0 tx) a b c) h1 h2 h3 h4 ⟨v1, v2, v3, v4, by rw [e2]; exact v5, v6⟩ h6 ⟨x1, x2, by rw [e4]; exact x3, x4⟩
    have hMT' : MT tx M' := ⟨x1, by rw [s7 4 (by omega) (by omega), e4]; exact x3, fun i hi => ⟨(x4 i hi).1, (x4 i hi).2.1, by rw [s8]; exact (x4 i hi).2.2.2⟩⟩
    have hTC' : TC tx S' := ⟨x1, fun i hi => by rw [s6]; exact hTC.2 i hi⟩
    obtain ⟨r, T, N, B, p1, p2, p3, p4, p5, p6, p7, p8, p9, p10⟩ := run_ok (tx := tx) tx.length FU FU 0 0 A S' M' (M'.1 6) (M'.1 7) (M'.1 8) (by omega) (Nat.zero_le _) (Nat.le_trans (show tx.length - 0 + 2 ≤ 62 by omega) (by decide)) (Nat.lt_of_le_of_lt (show tx.length + 1 ≤ 61 by omega) (by decide)) hok h1 s3 s4 hMT' hTC' (by omega)
    have hx : f_X2_run S = some (.inr r, (S'.1, T, S'.2.2.1, (upd S'.2.2.2.1 1 0, S'.2.2.2.2))) := by
      unfold f_X2_run f_X2_obeyOrders
      rw [kc, bd_some, if_neg (show ¬ bZ true = 0 by decide), s1, bd_some, s6, x2, if_neg (show ¬ (60 : Int32) < nI tx.length by rw [show (60 : Int32) = nI 60 from rfl, nI_ltI (by omega) (by omega)]; omega), nm_eq]
      rw [show lpf7 b_X2_obeyOrders_26 FU 0 (-1) 0 0 (nI tx.length) 0 S' = lpf7 b_X2_obeyOrders_26 FU (nI 0) (-1) 0 0 (nI tx.length) (nI 0) S' from rfl, p1, bd2_some, nm_eq, ← s6]
    have hm : f_X3_run M = some (r, N) := by
      unfold f_X3_run c_X3_run_13
      rw [k1, bd2_some, if_neg (show ¬ bZ true = 0 by decide), holds0, bd2_some, if_neg (by decide), s2, bd_some, nm_eq, sc_0]
      exact p2
    refine ⟨0, r, (S'.1, T, S'.2.2.1, (upd S'.2.2.2.1 1 0, S'.2.2.2.2)), vp_updL ob 0 (Int32.toInt64 r), N, ?_, hm, ?_, fun _ => rfl, ?_⟩
    · unfold f_L_run
      rw [hx]
    · rw [p7 0 (by omega) (by omega) (by omega) (by omega) (by omega), s5]
    · obtain ⟨w1, w2, w3, w4, w5, w6⟩ := s9
      refine ⟨B, (A :: sv).take 6, ns', [], p3, p4, p5, by omega, ⟨w1, w2, w3, w4, ?_, fun j hj => ?_⟩, fun C hC => ?_, ⟨Nat.zero_le _, rfl, p8, fun i hi => absurd hi (Nat.not_lt_zero i)⟩⟩
      · rw [p7 2 (by omega) (by omega) (by omega) (by omega) (by omega)]; exact w5
      · obtain ⟨z1, z2, z3⟩ := w6 j hj
        exact ⟨z1, z2, RM_cong z3 (INV_n z1) (fun k hk => p10 _ (by omega))⟩
      · rcases List.mem_cons.mp (List.mem_of_mem_take hC) with e | e
        · rw [e]; omega
        · have := h6 C e; omega
  · rw [decide_eq_false hok] at k1 kc
    refine ⟨1, 0, S, ob, (upd (sc M (er 0 tx) a b c).1 0 1, M.2), ?_, ?_, rfl, fun q => absurd q (by decide), A, sv, ns, tx, h1, h2, h3, by omega, ⟨v1, v2, v3, v4, ?_, v6⟩, fun C hC => by have := h6 C hC; omega, ⟨x1, x2, ?_, x4⟩⟩
    · have hx : f_X2_run S = some (.inl "java/lang/IllegalArgumentException", S) := by
        unfold f_X2_run
        rw [kc]
        rfl
      unfold f_L_run
      rw [hx]
      rfl
    · unfold f_X3_run
      rw [k1]
      rfl
    · exact e2.trans v5
    · exact e4.trans x3
