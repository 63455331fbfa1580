theorem sm_pl {A : AT} {S : BO} {M : MO} (hi : INV A) (h : RS A S.2.1) (hm : RM A (M.2.1 1)) (p0 p1 : Int32) : (f_X2_requirePlace p0 p1 S = some (.inl "java/lang/IndexOutOfBoundsException") ∧ ∀ p2, f_X3_correct p0 p1 p2 M = some (0, (upd M.1 0 1, M.2))) ∨ ∃ r p, r < A.n ∧ p < 2 ^ 31 ∧ p0 = nI r ∧ p1 = nI p ∧ f_X2_requirePlace p0 p1 S = some (.inr ()) ∧ ∀ p2, f_X3_correct p0 p1 p2 M = bd (f_X3_cellAt p0 p1 M) (fun r4 => c_X3_correct_22 p0 p2 r4 M) := by
  unfold f_X2_requirePlace f_X3_correct
  rcases sm_rec hi h hm p0 with ⟨e1, e2⟩ | ⟨r, hr, rfl, e1, e2⟩
  · left
    rw [e1, e2]
    exact ⟨rfl, fun _ => rfl⟩
  · rw [e1, e2]
    by_cases h0 : p1 < 0
    · left
      rw [bd_some, if_neg (by decide), if_neg (Int32.not_le.mpr h0)]
      refine ⟨rfl, fun p2 => ?_⟩
      rw [bd_some, if_neg (by decide), if_pos h0]
      rfl
    · right
      obtain ⟨j, hj, rfl⟩ := nI_of h0
      refine ⟨r, j, hr, hj, rfl, rfl, ?_, fun p2 => ?_⟩
      · rw [bd_some, if_neg (by decide), if_pos (nI_pos' hj)]
      · rw [bd_some, if_neg (by decide), if_neg h0]
theorem st_24 {t : Nat} {S : BO} {M : MO} (h : REL t S M) (ht : t < 512) (p1 : Int32) (p2 : Int32) (p3 : Int32) (ob : Nat → Int64) : ∃ (r9 : Int32) (rm : Int32) (S9 : BO) (ob9 : Nat → Int64) (M9 : MO), f_L_correct p1 p2 p3 S ob = some (r9, S9, ob9) ∧ f_X3_correct p1 p2 p3 M = some (rm, M9) ∧ M9.1 0 = r9 ∧ (r9 = 0 → ob9 0 = Int32.toInt64 rm) ∧ REL (t + 1) S9 M9 := by
  have h0 := h
  obtain ⟨A, sv, ns, tx, h1, h2, h3, h4, h5, h6, h7⟩ := h
  have hn := INV_n h1
  have hs : A.sp < 2 ^ 31 := by omega
  obtain ⟨S', M', k1, k2, k3, k4, k5, _, _, _, _, fin⟩ := REL_do h1 h2 h3 h4 h5 h6 h7
  have bad : ∀ (c : Int32) (E : String), c ≠ 0 → (E = "java/lang/IndexOutOfBoundsException" ∧ c = 1 ∨ E = "java/lang/IllegalArgumentException" ∧ c = 2 ∨ E = "java/lang/IllegalStateException" ∧ c = 3) → f_X2_correct p1 p2 p3 S = some (.inl E, S) → f_X3_correct p1 p2 p3 M = some (0, (upd M.1 0 c, M.2)) → ∃ (r9 : Int32) (rm : Int32) (S9 : BO) (ob9 : Nat → Int64) (M9 : MO), f_L_correct p1 p2 p3 S ob = some (r9, S9, ob9) ∧ f_X3_correct p1 p2 p3 M = some (rm, M9) ∧ M9.1 0 = r9 ∧ (r9 = 0 → ob9 0 = Int32.toInt64 rm) ∧ REL (t + 1) S9 M9 := fun c E hc hE hx hm => by
    refine ⟨c, 0, S, ob, (upd M.1 0 c, M.2), ?_, hm, rfl, fun q => absurd q hc, REL_up h0 c⟩
    unfold f_L_correct
    rw [hx]
    rcases hE with ⟨rfl, rfl⟩ | ⟨rfl, rfl⟩ | ⟨rfl, rfl⟩ <;> rfl
  rcases sm_pl h1 h2 h3 p1 p2 with ⟨e1, e2⟩ | ⟨r, p, hr, hp, rfl, rfl, e1, e2⟩
  · exact bad 1 _ (by decide) (.inl ⟨rfl, rfl⟩) (by unfold f_X2_correct; rw [e1]; rfl) (e2 p3)
  · have sa := s_at h1 h2 hr hp
    have ma := m_at h1 hs h3 hr hp
    have hx0 : f_X2_correct (nI r) (nI p) p3 S = bxw S (f_X2_requireCell (oI (at_ (isO A r) A.od p))) (fun _ => bxw S (f_X2_requireSound p3) (fun _ => bd (f_X1_isFlagged (nI r) S.2.1) (fun r5 => if r5 = 0 then bd (f_X2_save S) (fun S7 => nm (fun v8 => nm (fun S9 => some (.inr v8, S9)) (S7.1, (S7.2.1.1, up2 S7.2.1.2 1 (pAt 32 (S7.2.1.2 1) (oI (at_ (isO A r) A.od p)) p3)), S7.2.2)) (vAt 32 (S7.2.1.2 1) (oI (at_ (isO A r) A.od p)))) else some (.inl "java/lang/IllegalStateException", S)))) := by
      unfold f_X2_correct
      rw [e1]
      show bd (f_X1_cellAt (nI r) (nI p) S.2.1) _ = _
      rw [sa, bd_some]
    have hm0 := e2 p3
    rw [ma, bd_some] at hm0
    cases ea : at_ (isO A r) A.od p with
    | none =>
      rw [ea] at hx0 hm0
      exact bad 1 _ (by decide) (.inl ⟨rfl, rfl⟩) (hx0.trans rfl) (hm0.trans rfl)
    | some k =>
      have hk := (at_lt h1 ea).1
      rw [ea] at hx0 hm0
      rw [oI_some] at hx0 hm0
      have hc : f_X2_requireCell (nI k) = some (.inr ()) := by
        unfold f_X2_requireCell
        rw [if_neg (nI_pos (show k < 2 ^ 31 by omega)), if_pos (show nI k < 32 from (nI_ltI (a := k) (b := 32) (by omega) (by omega)).mpr hk)]
      rw [hc] at hx0
      have hx1 : f_X2_correct (nI r) (nI p) p3 S = bxw S (f_X2_requireSound p3) (fun _ => bd (f_X1_isFlagged (nI r) S.2.1) (fun r5 => if r5 = 0 then bd (f_X2_save S) (fun S7 => nm (fun v8 => nm (fun S9 => some (.inr v8, S9)) (S7.1, (S7.2.1.1, up2 S7.2.1.2 1 (pAt 32 (S7.2.1.2 1) (nI k) p3)), S7.2.2)) (vAt 32 (S7.2.1.2 1) (nI k))) else some (.inl "java/lang/IllegalStateException", S))) := hx0
      have hm1 : f_X3_correct (nI r) (nI p) p3 M = bd (f_X3_isSound p3) (fun r6 => if r6 = 0 then c_X3_correct_64 p3 (nI k) 2 M else gd (7 + nI r) 1085 (if (M.2.1 1) (Int32.toNatClampNeg (7 + nI r)) = 1 then c_X3_correct_64 p3 (nI k) 3 M else c_X3_correct_64 p3 (nI k) 0 M)) := by
        rw [hm0]
        unfold c_X3_correct_22
        rw [if_neg (nI_m1 (n := k) (by omega))]
      rcases sm_sound p3 with ⟨q1, q2⟩ | ⟨q1, q2⟩
      · rw [q1] at hx1
        rw [q2] at hm1
        exact bad 2 _ (by decide) (.inr (.inl ⟨rfl, rfl⟩)) (hx1.trans rfl) (hm1.trans rfl)
      · rw [q1] at hx1
        rw [q2, bd_some, if_neg (by decide), show (7 : Int32) + nI r = nI (7 + r) from nI_add 7 r, gd_nI (by omega) (by decide), nI_clamp (by omega), RM_fl h3 hr] at hm1
        have hx2 : f_X2_correct (nI r) (nI p) p3 S = bd (f_X1_isFlagged (nI r) S.2.1) (fun r5 => if r5 = 0 then bd (f_X2_save S) (fun S7 => nm (fun v8 => nm (fun S9 => some (.inr v8, S9)) (S7.1, (S7.2.1.1, up2 S7.2.1.2 1 (pAt 32 (S7.2.1.2 1) (nI k) p3)), S7.2.2)) (vAt 32 (S7.2.1.2 1) (nI k))) else some (.inl "java/lang/IllegalStateException", S)) := hx1
        rw [s_flag h1 h2 hr, bd_some] at hx2
        cases hf : A.fl r with
        | true =>
          rw [hf] at hx2 hm1
          exact bad 3 _ (by decide) (.inr (.inr ⟨rfl, rfl⟩)) (hx2.trans (if_neg (by decide))) (hm1.trans (if_pos (show bZ true = 1 from rfl)))
        | false =>
          rw [hf, if_pos (show bZ false = 0 from rfl), k1, bd_some] at hx2
          simp only [nm_eq] at hx2
          rw [vAt_nI hk (by decide), pAt_nI hk (by decide), RS_sn k3 hk] at hx2
          rw [hf, if_neg (show ¬ bZ false = 1 by decide)] at hm1
          unfold c_X3_correct_64 at hm1
          rw [holds0, bd2_some, if_neg (by decide), k2, bd_some, show (59 : Int32) + nI k = nI (59 + k) from nI_add 59 k, gd_nI (by omega) (by decide)] at hm1
          simp only [nm_eq] at hm1
          rw [gd_nI (by omega) (by decide)] at hm1
          rw [nI_clamp (by omega), RM_sn k4 hk] at hm1
          refine ⟨0, A.sn k, _, vp_updL ob 0 (Int32.toInt64 (A.sn k)), _, ?_, hm1, k5, fun _ => rfl, fin (sSC A (u1 A.sn k p3) A.ca) _ _ (INV_sc h1 _ _) (RS_sound k3) (RM_sn2 k4 hn hk) (FR_u (by omega)) (by rw [sc_sp]; omega)⟩
          unfold f_L_correct
          rw [hx2]
theorem st_35 {t : Nat} {S : BO} {M : MO} (h : REL t S M) (ht : t < 512) (ob : Nat → Int64) : ∃ (r9 : Int32) (rm : Int32) (S9 : BO) (ob9 : Nat → Int64) (M9 : MO), f_L_undo S ob = some (r9, S9, ob9) ∧ f_X3_undo M = some (rm, M9) ∧ M9.1 0 = r9 ∧ (r9 = 0 → ob9 0 = Int32.toInt64 rm) ∧ REL (t + 1) S9 M9 := by
  have h0 := h
  obtain ⟨A, sv, ns, tx, h1, h2, h3, h4, ⟨v1, v2, v3, v4, v5, v6⟩, h6, ⟨x1, x2, x3, x4⟩⟩ := h
  cases sv with
  | nil =>
    refine ⟨1, 0, S, ob, (upd M.1 0 1, M.2), ?_, ?_, rfl, fun q => absurd q (by decide), REL_up h0 1⟩
    · have hx : f_X2_undo S = some (.inl "java/lang/IllegalStateException", S) := by
        unfold f_X2_undo
        rw [v4]
        rfl
      unfold f_L_undo
      rw [hx]
      rfl
    · unfold f_X3_undo
      rw [v5]
      rfl
  | cons B sv =>
    have hl : (B :: sv).length = sv.length + 1 := rfl
    rw [hl] at v1 v4 v5
    obtain ⟨w1, w2, w3⟩ := v6 0 (by simp)
    have w1 : INV B := w1
    obtain ⟨T, c1, c2⟩ := RS_copy (S := S.2.1) (show RS B (S.2.2.1 ((ns + 5) % 6)) from w2) (INV_n w1) (od_le w1)
    obtain ⟨N, d1, d2, d3, d4, d5⟩ := m_cpy (i := sv.length + 1) (j := 0) (by omega) (by omega) (by omega) (upd M.1 0 0, M.2)
    have hx : f_X2_undo S = some (.inr (nI sv.length), (upd (upd S.1 2 (nI ((ns + 5) % 6))) 3 (nI sv.length), T, S.2.2)) := by
      have fin : ∀ t0, t0 = nI ((ns + 5) % 6) → c_X2_undo_35 t0 S = some (.inr (nI sv.length), (upd (upd S.1 2 (nI ((ns + 5) % 6))) 3 (nI sv.length), T, S.2.2)) := by
        rintro t0 rfl
        unfold c_X2_undo_35
        simp only [nm_eq]
        have e3 : upd S.1 2 (nI ((ns + 5) % 6)) 3 = nI (sv.length + 1) := (pk_un (by omega)).trans v4
        rw [e3, show nI (sv.length + 1) - 1 = nI sv.length from nI_pred _]
        have e2 : upd (upd S.1 2 (nI ((ns + 5) % 6))) 3 (nI sv.length) 2 = nI ((ns + 5) % 6) := rfl
        rw [e2, gd_nI (Nat.mod_lt _ (by omega)) (by decide), nI_clamp (by omega)]
        show bd (f_X1_copyFrom S.2.1 (S.2.2.1 ((ns + 5) % 6))) _ = _
        rw [c1]
        rfl
      unfold f_X2_undo
      rw [v4, v3, if_neg (by rw [show (0 : Int32) = nI 0 from rfl, nI_eq (by omega) (by omega)]; omega)]
      by_cases e : ns = 0
      · rw [if_pos (by rw [e]; rfl)]
        exact fin _ (by rw [e]; rfl)
      · rw [if_neg (by rw [show (0 : Int32) = nI 0 from rfl, nI_eq (by omega) (by omega)]; exact e)]
        refine fin _ ?_
        rw [show (1 : Int32) = nI 1 from rfl, sub_nI (by omega), show (ns + 5) % 6 = ns - 1 by omega]
    have hm : f_X3_undo M = some (nI sv.length, (upd N.1 2 (nI sv.length), N.2)) := by
      unfold f_X3_undo c_X3_undo_13
      rw [v5, if_neg (by rw [show (0 : Int32) = nI 0 from rfl, nI_leI (by omega) (by omega)]; omega), holds0, bd2_some, if_neg (by decide)]
      show bd (f_X3_copies (M.1 2) (nI 0) (upd M.1 0 0, M.2)) _ = _
      rw [v5, d1, bd_some]
      simp only [nm_eq]
      have e2 : N.1 2 = nI (sv.length + 1) := by rw [d2]; exact v5
      rw [e2, show nI (sv.length + 1) - 1 = nI sv.length from nI_pred _]
      rfl
    refine ⟨0, nI sv.length, (upd (upd S.1 2 (nI ((ns + 5) % 6))) 3 (nI sv.length), T, S.2.2), vp_updL ob 0 (Int32.toInt64 (nI sv.length)), (upd N.1 2 (nI sv.length), N.2), ?_, hm, ?_, fun _ => rfl, B, sv, (ns + 5) % 6, tx, w1, c2, ?_, ?_, ⟨by omega, Nat.mod_lt _ (by omega), rfl, rfl, rfl, fun j hj => ?_⟩, fun C hC => ?_, ⟨x1, x2, ?_, fun i hi => ?_⟩⟩
    · unfold f_L_undo
      rw [hx]
    · show upd N.1 2 (nI sv.length) 0 = 0
      rw [pk_un (by omega), d2]
      rfl
    · refine RM_cong (g' := N.2.1 1) w3 (INV_n w1) (fun k hk => ?_)
      have := d5 0 k hk
      rw [if_pos rfl, blk_0] at this
      rw [this]
      rfl
    · have := h6 B (by simp); omega
    · obtain ⟨z1, z2, z3⟩ := v6 (j + 1) (by rw [hl]; omega)
      refine ⟨z1, ?_, ?_⟩
      · show RS sv[j] (S.2.2.1 (((ns + 5) % 6 + 5 - j) % 6))
        rw [show ((ns + 5) % 6 + 5 - j) % 6 = (ns + 5 - (j + 1)) % 6 by omega]
        exact z2
      · refine RM_cong (g' := blk N (sv.length - j)) z3 (INV_n z1) (fun k hk => ?_)
        rw [d5 _ k hk, if_neg (by omega)]
        show M.2.1 1 (155 * (sv.length - j) + k) = M.2.1 1 (155 * (sv.length + 1 - (j + 1)) + k)
        rw [show sv.length + 1 - (j + 1) = sv.length - j by omega]
    · have := h6 C (by simp [hC]); omega
    · show upd N.1 2 (nI sv.length) 4 = _
      rw [pk_un (by omega), d2]
      exact x3
    · show 33 ≤ tx[i] ∧ tx[i] ≤ 126 ∧ S.2.2.2.2 0 i = nI tx[i] ∧ N.2.1 3 i = nI tx[i]
      rw [d4]
      exact x4 i hi
