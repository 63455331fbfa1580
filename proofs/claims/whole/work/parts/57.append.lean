/-! a character -/
theorem sm_code (p : Int32) : (p < 33 ∧ f_X3_in p 33 126 = some 0) ∨ (¬ p < 33 ∧ ¬ p ≤ 126 ∧ f_X3_in p 33 126 = some 0) ∨ ∃ k, 33 ≤ k ∧ k ≤ 126 ∧ p = nI k ∧ ¬ p < 33 ∧ p ≤ 126 ∧ f_X3_in p 33 126 = some 1 := by
  unfold f_X3_in
  by_cases h0 : p < 33
  · left; rw [if_pos h0]; exact ⟨h0, rfl⟩
  · right
    have h00 : ¬ p < 0 := fun q => h0 (Int32.lt_trans q (by decide))
    obtain ⟨j, hj, rfl⟩ := nI_of h00
    have hj0 : 33 ≤ j := by
      have h0 : ¬ nI j < nI 33 := h0
      rw [nI_ltI hj (by omega)] at h0; omega
    rw [if_neg h0]
    by_cases h1 : j ≤ 126
    · right
      have q : nI j ≤ nI 126 := by rw [nI_leI hj (by omega)]; exact h1
      refine ⟨j, hj0, h1, rfl, h0, q, ?_⟩
      exact if_neg (Int32.not_lt.mpr q)
    · left
      have q : ¬ nI j ≤ nI 126 := by rw [nI_leI hj (by omega)]; exact h1
      exact ⟨h0, q, if_pos (Int32.not_le.mp q)⟩
theorem st_31 {t : Nat} {S : BO} {M : MO} (h : REL t S M) (ht : t < 512) (p1 : Int32) (ob : Nat → Int64) : ∃ (r9 : Int32) (rm : Int32) (S9 : BO) (ob9 : Nat → Int64) (M9 : MO), f_L_append p1 S ob = some (r9, S9, ob9) ∧ f_X3_append p1 M = some (rm, M9) ∧ M9.1 0 = r9 ∧ (r9 = 0 → ob9 0 = Int32.toInt64 rm) ∧ REL (t + 1) S9 M9 := by
  have h0 := h
  obtain ⟨A, sv, ns, tx, h1, h2, h3, h4, ⟨v1, v2, v3, v4, v5, v6⟩, h6, ⟨x1, x2, x3, x4⟩⟩ := h
  have bad : ∀ c : Int32, c ≠ 0 → f_L_append p1 S ob = some (c, S, ob) → f_X3_append p1 M = some (0, (upd M.1 0 c, M.2)) → ∃ (r9 : Int32) (rm : Int32) (S9 : BO) (ob9 : Nat → Int64) (M9 : MO), f_L_append p1 S ob = some (r9, S9, ob9) ∧ f_X3_append p1 M = some (rm, M9) ∧ M9.1 0 = r9 ∧ (r9 = 0 → ob9 0 = Int32.toInt64 rm) ∧ REL (t + 1) S9 M9 := fun c hc e1 e2 => ⟨c, 0, S, ob, _, e1, e2, rfl, fun q => absurd q hc, REL_up h0 c⟩
  rcases sm_code p1 with ⟨e1, e2⟩ | ⟨e1, e2, e3⟩ | ⟨k, k1, k2, rfl, e1, e2, e3⟩
  · refine bad 1 (by decide) ?_ ?_
    · unfold f_L_append f_X2_append
      rw [if_pos e1]
      rfl
    · unfold f_X3_append
      rw [e2]
      rfl
  · refine bad 1 (by decide) ?_ ?_
    · unfold f_L_append f_X2_append
      rw [if_neg e1, if_neg e2]
      rfl
    · unfold f_X3_append
      rw [e3]
      rfl
  · by_cases hl : tx.length = 60
    · refine bad 2 (by decide) ?_ ?_
      · unfold f_L_append f_X2_append
        rw [if_neg e1, if_pos e2, x2, if_neg (by rw [hl]; decide)]
        rfl
      · unfold f_X3_append
        rw [e3, bd_some, if_neg (by decide), x3, if_pos (by rw [hl]; rfl)]
        rfl
    · have hx : f_X2_append (nI k) S = some (.inr (nI (tx.length + 1)), (S.1, S.2.1, S.2.2.1, (upd S.2.2.2.1 1 (nI (tx.length + 1)), up2 S.2.2.2.2 0 (upd (S.2.2.2.2 0) tx.length (nI k))))) := by
        unfold f_X2_append f_X0_add
        rw [if_neg e1, if_pos e2, x2, show (60 : Int32) = nI 60 from rfl, if_pos (by rw [nI_ltI (by omega) (by omega)]; omega)]
        simp only [nm_eq, bd_some]
        rw [pAt_nI (show tx.length < 60 by omega) (by decide), x2, show nI tx.length + 1 = nI (tx.length + 1) from nI_1 _]
        rfl
      have hm : f_X3_append (nI k) M = some (nI (tx.length + 1), (upd (upd M.1 0 0) 4 (nI (tx.length + 1)), (up2 M.2.1 3 (upd (M.2.1 3) tx.length (nI k)), M.2.2))) := by
        unfold f_X3_append c_X3_append_30
        rw [e3, bd_some, if_neg (by decide), x3, if_neg (show ¬ nI tx.length = 60 from fun q => hl ((nI_eq (by omega) (by decide)).mp (show nI tx.length = nI 60 from q))), holds0, bd2_some, if_neg (by decide)]
        have e4 : upd M.1 0 0 4 = nI tx.length := x3
        show gd (upd M.1 0 0 4) 60 _ = _
        rw [e4, gd_nI (by omega) (by decide)]
        simp only [nm_eq]
        rw [e4, nI_clamp (by omega), show nI tx.length + 1 = nI (tx.length + 1) from nI_1 _]
        rfl
      refine ⟨0, nI (tx.length + 1), (S.1, S.2.1, S.2.2.1, (upd S.2.2.2.1 1 (nI (tx.length + 1)), up2 S.2.2.2.2 0 (upd (S.2.2.2.2 0) tx.length (nI k)))), vp_updL ob 0 (Int32.toInt64 (nI (tx.length + 1))), _, ?_, hm, rfl, fun _ => rfl, ?_⟩
      · unfold f_L_append
        rw [hx]
      · have hlen : (tx ++ [k]).length = tx.length + 1 := by simp
        refine ⟨A, sv, ns, tx ++ [k], h1, h2, h3, by omega, ⟨v1, v2, v3, v4, v5, v6⟩, fun B hB => by have := h6 B hB; omega, ⟨by omega, congrArg nI hlen.symm, congrArg nI hlen.symm, fun i hi => ?_⟩⟩
        show 33 ≤ (tx ++ [k])[i] ∧ (tx ++ [k])[i] ≤ 126 ∧ (if i = tx.length then nI k else S.2.2.2.2 0 i) = nI (tx ++ [k])[i] ∧ (if i = tx.length then nI k else M.2.1 3 i) = nI (tx ++ [k])[i]
        by_cases e : i = tx.length
        · subst e
          rw [if_pos rfl, if_pos rfl, List.getElem_concat_length rfl]
          exact ⟨k1, k2, rfl, rfl⟩
        · have hi2 : i < tx.length := by omega
          rw [if_neg e, if_neg e, List.getElem_append_left hi2]
          exact x4 i hi2
