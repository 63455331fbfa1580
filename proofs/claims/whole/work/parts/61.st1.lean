/-! steps that change the state -/
theorem REL_do {t : Nat} {S : BO} {M : MO} {A : AT} {sv : List AT} {ns : Nat} {tx : List Nat} (h1 : INV A) (h2 : RS A S.2.1) (h3 : RM A (M.2.1 1)) (h4 : A.sp ≤ 2000 * t) (h5 : SV sv ns S M) (h6 : ∀ B ∈ sv, B.sp ≤ 2000 * t) (h7 : TXT tx S M) : ∃ S' M', f_X2_save S = some S' ∧ f_X3_save (upd M.1 0 0, M.2) = some M' ∧ RS A S'.2.1 ∧ RM A (M'.2.1 1) ∧ M'.1 0 = 0 ∧ S'.2.2.2 = S.2.2.2 ∧ (∀ k, k ≠ 2 → k ≠ 0 → M'.1 k = M.1 k) ∧ M'.2.1 3 = M.2.1 3 ∧ (∃ ns', SV ((A :: sv).take 6) ns' S' M') ∧ ∀ (B : AT) (T : OB) (N : MO), INV B → RS B T → RM B (N.2.1 1) → FR M' N → B.sp ≤ 2000 * (t + 1) → REL (t + 1) (S'.1, T, S'.2.2) N := by
  obtain ⟨v1, v2, v3, v4, v5, v6⟩ := h5
  obtain ⟨S', M', ns', k1, k2, k3, k4, k5, k6, k7, k8, k9⟩ := save_ok (M := (upd M.1 0 0, M.2)) (sv := sv) (ns := ns) h1 h2 h3 ⟨v1, v2, v3, v4, v5, v6⟩
  have hB : ∀ B ∈ (A :: sv).take 6, B.sp ≤ 2000 * (t + 1) := fun B hB => by
    rcases List.mem_cons.mp (List.mem_of_mem_take hB) with e | e
    · rw [e]; omega
    · have := h6 B e; omega
  refine ⟨S', M', k1, k2, by rw [k4]; exact h2, k6, (k7 0 (by omega)).trans rfl, k5, fun k q1 q2 => (k7 k q1).trans (pk_un q2), k8, ⟨ns', k3⟩, ?_⟩
  intro B T N b1 b2 b3 b4 b5
  obtain ⟨w1, w2, w3, w4, w5, w6⟩ := k3
  obtain ⟨x1, x2, x3, x4⟩ := h7
  refine ⟨B, (A :: sv).take 6, ns', tx, b1, b2, b3, b5, ⟨w1, w2, w3, w4, by rw [b4.1]; exact w5, fun j hj => ?_⟩, hB, ⟨x1, ?_, ?_, fun i hi => ?_⟩⟩
  · obtain ⟨z1, z2, z3⟩ := w6 j hj
    exact ⟨z1, z2, RM_cong z3 (INV_n z1) (fun k hk => b4.2.2.2 _ (by omega))⟩
  · show S'.2.2.2.1 1 = _
    rw [k5]; exact x2
  · rw [b4.1, k7 4 (by omega)]; exact x3
  · show 33 ≤ tx[i] ∧ tx[i] ≤ 126 ∧ S'.2.2.2.2 0 i = nI tx[i] ∧ N.2.1 3 i = nI tx[i]
    rw [k5, b4.2.2.1, k8]
    exact x4 i hi
theorem nr_sp (A : AT) (n : Nat) (b : Bool) : (sN A n b).sp = A.sp := rfl
theorem stp_sp (A : AT) : (stp A).sp = A.sp := by
  unfold stp
  by_cases e : cnt A (some (A.n - 1)) = 0
  · rw [if_pos e, rmv_sp, nr_sp]
  · rw [if_neg e, nr_sp]
theorem bgn1_sp (A : AT) : (bgn1 A).sp = A.sp := rfl
theorem bgn_sp (A : AT) : (bgn A).sp = A.sp := by
  unfold bgn
  cases A.run with
  | false => rw [if_neg (by decide), bgn1_sp]
  | true => rw [if_pos rfl, bgn1_sp, stp_sp]
theorem run_0 {A : AT} {S : OB} (h : RS A S) : S.1 8 = 0 ↔ A.run = false := by rw [RS_run h]; exact bZ_0 _
theorem sm_sound (p : Int32) : (f_X2_requireSound p = some (.inl "java/lang/IllegalArgumentException") ∧ f_X3_isSound p = some 0) ∨ (f_X2_requireSound p = some (.inr ()) ∧ f_X3_isSound p = some 1) := by
  unfold f_X2_requireSound f_X3_isSound f_X3_in c_X2_requireSound_10
  by_cases h0 : p < 0
  · left; rw [if_pos h0, if_pos h0]; exact ⟨rfl, rfl⟩
  · rw [if_neg h0, if_neg h0]
    by_cases h1 : p ≤ 99
    · right
      rw [if_pos h1, if_neg (Int32.not_lt.mpr h1)]
      exact ⟨rfl, rfl⟩
    · left
      rw [if_neg h1, if_pos (Int32.not_le.mp h1)]
      exact ⟨rfl, rfl⟩
theorem s_mayS {A : AT} {S : OB} (hi : INV A) (h : RS A S) {m : Nat} (hm : m ≤ 32) : f_X1_maySpeak (nI m) S = some (bZ (A.run && decide (m ≤ cp (wr A) 0 32))) := by
  have hw := cp_le (wr A) 32 0
  unfold f_X1_maySpeak
  cases e : A.run with
  | false => rw [if_pos ((run_0 h).mpr e)]; rfl
  | true =>
    rw [if_neg (fun q => by rw [(run_0 h).mp q] at e; cases e), s_wrc hi h, bd_some]
    by_cases q : m ≤ cp (wr A) 0 32
    · rw [if_neg (fun w => absurd ((nI_ltI (Nat.lt_of_le_of_lt hw (by decide)) (Nat.lt_of_le_of_lt hm (by decide))).mp w) (Nat.not_lt.mpr q)), decide_eq_true q]; rfl
    · rw [if_pos ((nI_ltI (Nat.lt_of_le_of_lt hw (by decide)) (Nat.lt_of_le_of_lt hm (by decide))).mpr (Nat.not_le.mp q)), decide_eq_false q]; rfl
theorem m_mayS {A : AT} {M : MO} (hi : INV A) (h : RM A (M.2.1 1)) {m : Nat} (hm : m ≤ 32) : f_X3_canSpeak (nI m) M = some (bZ (A.run && decide (m ≤ cp (wr A) 0 32))) := by
  have hw := cp_le (wr A) 32 0
  unfold f_X3_canSpeak
  rw [show gd (1 : Int32) = @gd Int32 (nI 1) from rfl, gd_nI (by omega) (by decide), show Int32.toNatClampNeg 1 = 1 from rfl, RM_run h]
  cases e : A.run with
  | false => rw [if_pos (show oI (rn A) = -1 by unfold rn; rw [e]; rfl)]; rfl
  | true =>
    have h1 := INV_r hi e
    have hn := INV_n hi
    rw [rn_run e, if_neg (show ¬ oI (some (A.n - 1)) = -1 from fun q => nI_m1 (n := A.n - 1) (by omega) q), m_wrc hi h, bd_some]
    by_cases q : m ≤ cp (wr A) 0 32
    · rw [if_neg (fun w => absurd ((nI_ltI (Nat.lt_of_le_of_lt hw (by decide)) (Nat.lt_of_le_of_lt hm (by decide))).mp w) (Nat.not_lt.mpr q)), decide_eq_true q]; rfl
    · rw [if_pos ((nI_ltI (Nat.lt_of_le_of_lt hw (by decide)) (Nat.lt_of_le_of_lt hm (by decide))).mpr (Nat.not_le.mp q)), decide_eq_false q]; rfl
theorem st_0 {t : Nat} {S : BO} {M : MO} (h : REL t S M) (ht : t < 512) (ob : Nat → Int64) : ∃ (r9 : Int32) (rm : Int32) (S9 : BO) (ob9 : Nat → Int64) (M9 : MO), f_L_begin S ob = some (r9, S9, ob9) ∧ f_X3_begin M = some (rm, M9) ∧ M9.1 0 = r9 ∧ (r9 = 0 → ob9 0 = Int32.toInt64 rm) ∧ REL (t + 1) S9 M9 := by
  have h0 := h
  obtain ⟨A, sv, ns, tx, h1, h2, h3, h4, h5, h6, h7⟩ := h
  have hn := INV_n h1
  have hs : A.sp < 2 ^ 31 := by omega
  obtain ⟨S', M', k1, k2, k3, k4, k5, _, _, _, _, fin⟩ := REL_do h1 h2 h3 h4 h5 h6 h7
  cases hb : mayB A with
  | false =>
    refine ⟨1, 0, S, ob, (upd M.1 0 1, M.2), ?_, ?_, rfl, fun q => absurd q (by decide), REL_up h0 1⟩
    · have hx : f_X2_begin  S = some (.inl "java/lang/IllegalStateException", S) := by
        unfold f_X2_begin
        rw [s_mayB h1 h2, hb]; rfl
      unfold f_L_begin
      rw [hx]
      rfl
    · unfold f_X3_begin
      rw [m_mayB h1 h3, hb]; rfl
  | true =>
    obtain ⟨T, a1, a2⟩ := s_bgn h1 k3 hb
    obtain ⟨N, b1, b2, b3⟩ := m_bgn h1 k4 hb
    refine ⟨0, nI ((bgn A).n - 1), (S'.1, T, S'.2.2), vp_updL ob 0 (Int32.toInt64 (nI ((bgn A).n - 1))), N, ?_, ?_, ?_, fun _ => rfl, fin (bgn A) T N (INV_bgn h1 hb) a2 b2 b3 (by rw [bgn_sp]; omega)⟩
    · have hx : f_X2_begin  S = some (.inr (nI ((bgn A).n - 1)), (S'.1, T, S'.2.2)) := by
        unfold f_X2_begin
        rw [s_mayB h1 h2, hb, bd_some, if_neg (by decide), k1, bd_some, a1, bd2_some, nm_eq]
      unfold f_L_begin
      rw [hx]
    · unfold f_X3_begin c_X3_begin_13
      rw [m_mayB h1 h3, hb, bd_some, if_neg (by decide), holds0, bd2_some, if_neg (by decide), k2, bd_some, b1, bd2_some]
    · rw [b3.1, k5]
theorem st_1 {t : Nat} {S : BO} {M : MO} (h : REL t S M) (ht : t < 512) (ob : Nat → Int64) : ∃ (r9 : Int32) (rm : Int32) (S9 : BO) (ob9 : Nat → Int64) (M9 : MO), f_L_halt S ob = some (r9, S9, ob9) ∧ f_X3_halt M = some (rm, M9) ∧ M9.1 0 = r9 ∧ (r9 = 0 → ob9 0 = Int32.toInt64 rm) ∧ REL (t + 1) S9 M9 := by
  have h0 := h
  obtain ⟨A, sv, ns, tx, h1, h2, h3, h4, h5, h6, h7⟩ := h
  have hn := INV_n h1
  have hs : A.sp < 2 ^ 31 := by omega
  obtain ⟨S', M', k1, k2, k3, k4, k5, _, _, _, _, fin⟩ := REL_do h1 h2 h3 h4 h5 h6 h7
  cases hb : A.run with
  | false =>
    have e1 : (M.2.1 1) 1 = -1 := (RM_run h3).trans (by unfold rn; rw [hb]; rfl)
    refine ⟨1, 0, S, ob, (upd M.1 0 1, M.2), ?_, ?_, rfl, fun q => absurd q (by decide), REL_up h0 1⟩
    · have hx : f_X2_halt  S = some (.inl "java/lang/IllegalStateException", S) := by
        unfold f_X2_halt
        rw [if_pos ((run_0 h2).mpr hb)]
      unfold f_L_halt
      rw [hx]
      rfl
    · unfold f_X3_halt
      rw [show gd (1 : Int32) = @gd (Int32 × MO) (nI 1) from rfl, gd_nI (by omega) (by decide), show Int32.toNatClampNeg 1 = 1 from rfl, e1, if_pos rfl]
      rfl
  | true =>
    have hr := INV_r h1 hb
    have e1 : ¬ (M.2.1 1) 1 = -1 := by rw [RM_run h3, rn_run hb]; exact nI_m1 (n := A.n - 1) (by omega)
    obtain ⟨T, a1, a2⟩ := s_stp h1 k3 hb
    obtain ⟨N, b1, b2, b3⟩ := m_stp h1 hb k4
    refine ⟨0, nI (cnt A (some (A.n - 1))), (S'.1, T, S'.2.2), vp_updL ob 0 (Int32.toInt64 (nI (cnt A (some (A.n - 1))))), N, ?_, ?_, ?_, fun _ => rfl, fin (stp A) T N (INV_stp h1 hb) a2 b2 b3 (by rw [stp_sp]; omega)⟩
    · have hx : f_X2_halt  S = some (.inr (nI (cnt A (some (A.n - 1)))), (S'.1, T, S'.2.2)) := by
        unfold f_X2_halt
        rw [if_neg (fun q => by rw [(run_0 h2).mp q] at hb; cases hb), k1, bd_some, a1, bd2_some, nm_eq]
      unfold f_L_halt
      rw [hx]
    · unfold f_X3_halt c_X3_halt_16
      rw [show gd (1 : Int32) = @gd (Int32 × MO) (nI 1) from rfl, gd_nI (by omega) (by decide), show Int32.toNatClampNeg 1 = 1 from rfl, if_neg e1, holds0, bd2_some, if_neg (by decide), k2, bd_some, b1, bd2_some]
    · rw [b3.1, k5]
theorem st_2 {t : Nat} {S : BO} {M : MO} (h : REL t S M) (ht : t < 512) (p1 : Int32) (ob : Nat → Int64) : ∃ (r9 : Int32) (rm : Int32) (S9 : BO) (ob9 : Nat → Int64) (M9 : MO), f_L_speak p1 S ob = some (r9, S9, ob9) ∧ f_X3_speak p1 M = some (rm, M9) ∧ M9.1 0 = r9 ∧ (r9 = 0 → ob9 0 = Int32.toInt64 rm) ∧ REL (t + 1) S9 M9 := by
  have h0 := h
  obtain ⟨A, sv, ns, tx, h1, h2, h3, h4, h5, h6, h7⟩ := h
  have hn := INV_n h1
  have hs : A.sp < 2 ^ 31 := by omega
  obtain ⟨S', M', k1, k2, k3, k4, k5, _, _, _, _, fin⟩ := REL_do h1 h2 h3 h4 h5 h6 h7
  rcases sm_sound p1 with ⟨e1, e2⟩ | ⟨e1, e2⟩
  · refine ⟨1, 0, S, ob, (upd M.1 0 1, M.2), ?_, ?_, rfl, fun q => absurd q (by decide), REL_up h0 1⟩
    · have hx : f_X2_speak p1 S = some (.inl "java/lang/IllegalArgumentException", S) := by
        unfold f_X2_speak
        rw [e1]; rfl
      unfold f_L_speak
      rw [hx]
      rfl
    · unfold f_X3_speak
      rw [e2]; rfl
  cases hb : (A.run && decide (1 ≤ cp (wr A) 0 32)) with
  | false =>
    refine ⟨2, 0, S, ob, (upd M.1 0 2, M.2), ?_, ?_, rfl, fun q => absurd q (by decide), REL_up h0 2⟩
    · have hx : f_X2_speak p1 S = some (.inl "java/lang/IllegalStateException", S) := by
        unfold f_X2_speak
        rw [e1]
        show bd (f_X1_maySpeak (nI 1) S.2.1) _ = _
        rw [s_mayS h1 h2 (by omega), hb]; rfl
      unfold f_L_speak
      rw [hx]
      rfl
    · unfold f_X3_speak
      rw [e2, show (1 : Int32) = nI 1 from rfl, m_mayS h1 h3 (by omega), hb]; rfl
  | true =>
    rw [Bool.and_eq_true, decide_eq_true_eq] at hb
    obtain ⟨hr, hw⟩ := hb
    have hbb : (A.run && decide (1 ≤ cp (wr A) 0 32)) = true := by rw [hr, decide_eq_true hw]; rfl
    obtain ⟨x, x1, x2, x3, x4, x5, x6, _, x8⟩ := spk_ok h1 hr hw p1
    obtain ⟨la, T, a1, a2, _, a4⟩ := s_spkN (v := p1) (m := 1) (by decide) 1 FU 0 (-1) A S'.2.1 h1 k3 hr hw rfl (by decide)
    obtain ⟨N, b1, b2, b3⟩ := m_spk h1 hs k4 hr x1 p1
    have e3 : la = nI x := by rw [a4 rfl, x1]; rfl
    rw [e3] at a1
    have a5 : RS (spk A p1) T := a2
    refine ⟨0, nI x, (S'.1, T, S'.2.2), vp_updL ob 0 (Int32.toInt64 (nI x)), N, ?_, ?_, ?_, fun _ => rfl, fin (spk A p1) T N x5 a5 b2 b3 (by rw [x8]; omega)⟩
    · have hx : f_X2_speak p1 S = some (.inr (nI x), (S'.1, T, S'.2.2)) := by
        unfold f_X2_speak
        rw [e1]
        show bd (f_X1_maySpeak (nI 1) S.2.1) _ = _
        rw [s_mayS h1 h2 (by omega), hbb, bd_some, if_neg (by decide), k1, bd_some]
        show bd2 (lpf5 b_X1_speakTimes_5 FU (nI 1) p1 (-1) (nI 0) S'.2.1) _ = _
        rw [a1, bd2_some, nm_eq]
      unfold f_L_speak
      rw [hx]
    · unfold f_X3_speak c_X3_speak_25
      rw [e2, bd_some, if_neg (by decide), show (1 : Int32) = nI 1 from rfl, m_mayS h1 h3 (by omega), hbb, bd_some, if_neg (by decide), holds0, bd2_some, if_neg (by decide), k2, bd_some, b1, bd2_some]
    · rw [b3.1, k5]
