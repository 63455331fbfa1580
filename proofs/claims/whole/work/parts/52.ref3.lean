/-! the reference loses a cell -/
theorem RM_rmvgo {A : AT} {g r : Nat} {f : Nat → Int32} (h : RM (rmv A r) f) : RM (sGO (rmv A r) g) (upd f 4 (nI g)) := RQ_RM (RQ_4 (RM_RQ h))
theorem m_loses48 {A : AT} {M : MO} (hi : INV A) {x r : Nat} (hx : x < 32) (hr : r < A.n) (hs : A.sp < 2 ^ 31) (h : RM A (M.2.1 1)) {t0 t1 : Int32} (ht : t1 - t0 = oI ((dcP A x r).map Prod.snd)) : ∃ M', c_X3_loses_48 (nI x) (nI r) t0 t1 6 M = some M' ∧ RM (los A x r) (M'.2.1 1) ∧ FR M M' := by
  have hn := INV_n hi
  have hi1 := INV_los1 hi x r
  unfold c_X3_loses_48
  have g1 := RQ_6 (RM_RQ h) (v := t1 - t0)
  have g2 := RQ_ow g1 hn hx (o := none) (fun q => absurd rfl q)
  have e2 : upd (upd (M.2.1 1) 6 (t1 - t0)) (27 + x) (-1) (17 + r) = A.lo r := g2.2.2.2.2.2.2.2.2.1 r hr
  have g3 := RQ_lo g2 hn (k := r) (by omega) (v := A.lo r + 1)
  have g4 : RM (los1 A x r) (upd (upd (upd (M.2.1 1) 6 (t1 - t0)) (27 + x) (-1)) (17 + r) (A.lo r + 1)) := by
    have g5 := g3
    rw [ht] at g5 ⊢
    have e1 : (dcP A x r).map Prod.fst = A.P.map Prod.fst := by
      unfold dcP
      cases A.P with
      | none => rfl
      | some w =>
        obtain ⟨q, p⟩ := w
        show (if q = r ∧ bf (isO A r) x A.od < p then some (q, p - 1) else some (q, p)).map Prod.fst = _
        split <;> rfl
    rw [← e1] at g5
    exact RQ_RM (A := los1 A x r) (RQ_ext g5 (Nat.le_refl _) rfl rfl rfl (fun _ _ => rfl) (fun _ _ => rfl) (fun _ _ => rfl) (fun _ _ => rfl) (fun _ _ => rfl) ⟨fun k => !decide (k = x), rfl⟩)
  simp (disch := omega) only [nm_eq, gd_nI, nI_clamp, show (27 : Int32) + nI x = nI (27 + x) from nI_add 27 x, show (17 : Int32) + nI r = nI (17 + r) from nI_add 17 r, show (6 : Int32) = nI 6 from rfl, up2_s, up2_2, e2]
  have fr : FR M (M.1, up2 M.2.1 1 (upd (upd (upd (M.2.1 1) 6 (t1 - t0)) (27 + x) (-1)) (17 + r) (A.lo r + 1)), M.2.2) := ⟨rfl, rfl, rfl, fun k hk => by
    show upd (upd (upd (M.2.1 1) 6 (t1 - t0)) (27 + x) (-1)) (17 + r) (A.lo r + 1) k = _
    rw [pk_un (by omega), pk_un (by omega), pk_un (by omega)]⟩
  rw [show nI r = oI (some r) from rfl, m_cnt hi1 (M := (M.1, up2 M.2.1 1 (upd (upd (upd (M.2.1 1) 6 (t1 - t0)) (27 + x) (-1)) (17 + r) (A.lo r + 1)), M.2.2)) g4 (fun q e => by cases e; omega), bd_some]
  have hc := cnt_le (los1 A x r) (some r)
  unfold los
  by_cases e : cnt (los1 A x r) (some r) = 0
  · rw [if_pos e, if_pos (by rw [e]; rfl)]
    obtain ⟨M1, k1, k2, k3⟩ := m_leaves hi1 (M := (M.1, up2 M.2.1 1 (upd (upd (upd (M.2.1 1) 6 (t1 - t0)) (27 + x) (-1)) (17 + r) (A.lo r + 1)), M.2.2)) g4 (r := r) hr
    have k4 : (M1.2.1 1) 4 = nI A.go := k2.2.2.2.2.1
    rw [show oI (some r) = nI r from rfl, k1, bd_some]
    simp (disch := omega) only [show (4 : Int32) = nI 4 from rfl, gd_nI, nI_clamp]
    rw [k4, show nI A.go + 1 = nI (A.go + 1) from nI_1 A.go]
    exact ⟨_, rfl, RM_rmvgo k2, FR_t fr (FR_t k3 (FR_u (by omega)))⟩
  · rw [if_neg e, if_neg (by rw [show (0 : Int32) = nI 0 from rfl, nI_eq (by omega) (by decide)]; exact e)]
    exact ⟨_, rfl, g4, fr⟩
theorem m_loses {A : AT} {M : MO} (hi : INV A) {x r : Nat} (hx : x < 32) (hs : A.sp < 2 ^ 31) (h : RM A (M.2.1 1)) (e : A.ow x = some r) : ∃ M', f_X3_loses (nI x) M = some M' ∧ RM (los A x r) (M'.2.1 1) ∧ FR M M' := by
  have hn := INV_n hi
  have hr := INV_ow hi hx r e
  have h5 := RM_p1 h
  have h6 := RM_p2 h
  have hb := Nat.le_trans (bf_le (isO A r) x A.od) (od_le hi)
  unfold f_X3_loses c_X3_loses_47
  simp (disch := omega) only [nm_eq, show (27 : Int32) + nI x = nI (27 + x) from nI_add 27 x, show (5 : Int32) = nI 5 from rfl, gd_nI, nI_clamp, RM_ow h hx]
  rw [show gd 6 1085 = gd (nI 6) 1085 from rfl]
  simp (disch := omega) only [gd_nI]
  rw [show Int32.toNatClampNeg 6 = 6 from rfl, e, oI_some]
  cases e1 : A.P with
  | none =>
    rw [e1] at h5 h6
    have h5 : (M.2.1 1) 5 = -1 := h5
    have h6 : (M.2.1 1) 6 = -1 := h6
    rw [h5, if_neg (fun q => nI_m1 (n := r) (by omega) q.symm), h6]
    refine m_loses48 hi hx hr hs h ?_
    unfold dcP
    rw [e1]
    rfl
  | some w =>
    obtain ⟨q, p⟩ := w
    have hq := INV_P hi q p e1
    rw [e1] at h5 h6
    have h5 : (M.2.1 1) 5 = nI q := h5
    have h6 : (M.2.1 1) 6 = nI p := h6
    rw [h5, h6]
    have hd : dcP A x r = if q = r ∧ bf (isO A r) x A.od < p then some (q, p - 1) else some (q, p) := by unfold dcP; rw [e1]
    have z0 : nI p - 0 = nI p := by rw [show (0 : Int32) = nI 0 from rfl, sub_nI (Nat.zero_le p)]; rfl
    by_cases e2 : q = r
    · rw [if_pos (by rw [e2]), m_bf hi hs h e hx, bd_some]
      by_cases e3 : p ≤ bf (isO A r) x A.od
      · rw [if_pos (by rw [nI_leI (by omega) (by omega)]; exact e3)]
        refine m_loses48 hi hx hr hs h ?_
        rw [hd, if_neg (fun z => by omega), z0]
        rfl
      · rw [if_neg (by rw [nI_leI (by omega) (by omega)]; exact e3)]
        refine m_loses48 hi hx hr hs h ?_
        rw [hd, if_pos ⟨e2, by omega⟩]
        exact sub_nI (show 1 ≤ p by omega)
    · rw [if_neg (by rw [nI_eq (by omega) (by omega)]; exact e2)]
      refine m_loses48 hi hx hr hs h ?_
      rw [hd, if_neg (fun z => e2 z.1), z0]
      rfl
/-! and stops, and begins -/
theorem m_stp {A : AT} {M : MO} (hi : INV A) (hr : A.run = true) (h : RM A (M.2.1 1)) : ∃ M', f_X3_halts M = some (nI (cnt A (some (A.n - 1))), M') ∧ RM (stp A) (M'.2.1 1) ∧ FR M M' := by
  have hn := INV_n hi
  have h1 := INV_r hi hr
  have hc := cnt_le A (some (A.n - 1))
  unfold f_X3_halts c_X3_halts_22
  simp (disch := omega) only [nm_eq, show (1 : Int32) = nI 1 from rfl, gd_nI, nI_clamp, RM_run h]
  rw [rn_run hr, m_cnt hi h (fun q e => by cases e; omega), bd_some]
  unfold stp
  by_cases e : cnt A (some (A.n - 1)) = 0
  · rw [if_pos e, if_pos (by rw [e]; rfl)]
    obtain ⟨M1, k1, k2, k3⟩ := m_leaves hi h (r := A.n - 1) (by omega)
    rw [show oI (some (A.n - 1)) = nI (A.n - 1) from rfl, k1, bd_some]
    refine ⟨_, rfl, ?_, FR_t k3 (FR_u (by omega))⟩
    have k4 := RQ_1 (RM_RQ k2) (v := -1)
    exact RQ_RM (A := rmv (sN A A.n false) (A.n - 1)) (RQ_ext k4 (Nat.le_refl _) rfl rfl rfl (fun _ _ => rfl) (fun _ _ => rfl) (fun _ _ => rfl) (fun _ _ => rfl) (fun _ _ => rfl) ⟨fun _ => true, (List.filter_eq_self.mpr (fun _ _ => rfl)).symm⟩)
  · rw [if_neg e, if_neg (by rw [show (0 : Int32) = nI 0 from rfl, nI_eq (by omega) (by decide)]; exact e)]
    refine ⟨_, rfl, ?_, FR_u (by omega)⟩
    have k4 := RQ_1 (RM_RQ h) (v := -1)
    exact RQ_RM (A := sN A A.n false) (RQ_ext k4 (Nat.le_refl _) rfl rfl rfl (fun _ _ => rfl) (fun _ _ => rfl) (fun _ _ => rfl) (fun _ _ => rfl) (fun _ _ => rfl) ⟨fun _ => true, (List.filter_eq_self.mpr (fun _ _ => rfl)).symm⟩)
theorem m_bgn1 {A : AT} {M : MO} (hi : INV A) (h : RM A (M.2.1 1)) (hn : A.n < 10) : ∃ M', c_X3_begins_15 M = some (nI ((bgn1 A).n - 1), M') ∧ RM (bgn1 A) (M'.2.1 1) ∧ FR M M' := by
  have h0 : (M.2.1 1) 0 = nI A.n := RM_n h
  unfold c_X3_begins_15
  have e1 : upd (M.2.1 1) (7 + A.n) 0 0 = nI A.n := (pk_un (by omega)).trans h0
  have e2 : upd (upd (M.2.1 1) (7 + A.n) 0) (17 + A.n) 0 0 = nI A.n := (pk_un (by omega)).trans e1
  simp (disch := omega) only [nm_eq, show (0 : Int32) = nI 0 from rfl, show (7 : Int32) = nI 7 from rfl, show (17 : Int32) = nI 17 from rfl, show (1 : Int32) = nI 1 from rfl, gd_nI, nI_clamp, h0, nI_add, up2_s, up2_2] at e1 e2 ⊢
  rw [e1] at *
  simp (disch := omega) only [gd_nI, nI_add, nI_clamp, e2]
  have e3 : upd (upd (upd (M.2.1 1) (7 + A.n) (nI 0)) (17 + A.n) (nI 0)) 1 (nI A.n) 0 = nI A.n := (pk_un (by omega)).trans e2
  rw [e3, nI_add]
  refine ⟨_, rfl, ?_, ⟨rfl, rfl, rfl, fun k hk => ?_⟩⟩
  · obtain ⟨h1, h2, h3, h4, h5, h6, h7, h8, h9, h10, h11, h12, tr, h13, h14⟩ := h
    refine ⟨rfl, rfl, ?_, ?_, ?_, ?_, ?_, fun k hk => ?_, fun k hk => ?_, fun k hk => ?_, fun k hk => ?_, fun k hk => ?_, tr, fun k hk q => ⟨?_, (h13 k hk q).2⟩, h14⟩
    all_goals (try (have hk : k < A.n + 1 := hk))
    · refine Eq.trans ?_ h3; show upd (upd (upd (upd (M.2.1 1) (7 + A.n) (nI 0)) (17 + A.n) (nI 0)) 1 (nI A.n)) 0 (nI (A.n + 1)) 2 = _; rw [pk_un (by omega), pk_un (by omega), pk_un (by omega), pk_un (by omega)]
    · refine Eq.trans ?_ h4; show upd (upd (upd (upd (M.2.1 1) (7 + A.n) (nI 0)) (17 + A.n) (nI 0)) 1 (nI A.n)) 0 (nI (A.n + 1)) 3 = _; rw [pk_un (by omega), pk_un (by omega), pk_un (by omega), pk_un (by omega)]
    · refine Eq.trans ?_ h5; show upd (upd (upd (upd (M.2.1 1) (7 + A.n) (nI 0)) (17 + A.n) (nI 0)) 1 (nI A.n)) 0 (nI (A.n + 1)) 4 = _; rw [pk_un (by omega), pk_un (by omega), pk_un (by omega), pk_un (by omega)]
    · refine Eq.trans ?_ h6; show upd (upd (upd (upd (M.2.1 1) (7 + A.n) (nI 0)) (17 + A.n) (nI 0)) 1 (nI A.n)) 0 (nI (A.n + 1)) 5 = _; rw [pk_un (by omega), pk_un (by omega), pk_un (by omega), pk_un (by omega)]
    · refine Eq.trans ?_ h7; show upd (upd (upd (upd (M.2.1 1) (7 + A.n) (nI 0)) (17 + A.n) (nI 0)) 1 (nI A.n)) 0 (nI (A.n + 1)) 6 = _; rw [pk_un (by omega), pk_un (by omega), pk_un (by omega), pk_un (by omega)]
    · show upd (upd (upd (upd (M.2.1 1) (7 + A.n) (nI 0)) (17 + A.n) (nI 0)) 1 (nI A.n)) 0 (nI (A.n + 1)) (7 + k) = bZ (if k = A.n then false else A.fl k)
      rw [pk_un (by omega), pk_un (by omega), pk_un (by omega)]
      by_cases e : k = A.n
      · rw [if_pos e, e, pk_us]; rfl
      · rw [if_neg e, pk_un (by omega)]; exact h8 k (by omega)
    · show upd (upd (upd (upd (M.2.1 1) (7 + A.n) (nI 0)) (17 + A.n) (nI 0)) 1 (nI A.n)) 0 (nI (A.n + 1)) (17 + k) = if k = A.n then 0 else A.lo k
      rw [pk_un (by omega), pk_un (by omega)]
      by_cases e : k = A.n
      · rw [if_pos e, e, pk_us]; rfl
      · rw [if_neg e, pk_un (by omega), pk_un (by omega)]; exact h9 k (by omega)
    · refine Eq.trans ?_ (h10 k hk); show upd (upd (upd (upd (M.2.1 1) (7 + A.n) (nI 0)) (17 + A.n) (nI 0)) 1 (nI A.n)) 0 (nI (A.n + 1)) _ = _; rw [pk_un (by omega), pk_un (by omega), pk_un (by omega), pk_un (by omega)]
    · refine Eq.trans ?_ (h11 k hk); show upd (upd (upd (upd (M.2.1 1) (7 + A.n) (nI 0)) (17 + A.n) (nI 0)) 1 (nI A.n)) 0 (nI (A.n + 1)) _ = _; rw [pk_un (by omega), pk_un (by omega), pk_un (by omega), pk_un (by omega)]
    · refine Eq.trans ?_ (h12 k hk); show upd (upd (upd (upd (M.2.1 1) (7 + A.n) (nI 0)) (17 + A.n) (nI 0)) 1 (nI A.n)) 0 (nI (A.n + 1)) _ = _; rw [pk_un (by omega), pk_un (by omega), pk_un (by omega), pk_un (by omega)]
    · refine Eq.trans ?_ (h13 k hk q).1; show upd (upd (upd (upd (M.2.1 1) (7 + A.n) (nI 0)) (17 + A.n) (nI 0)) 1 (nI A.n)) 0 (nI (A.n + 1)) _ = _; rw [pk_un (by omega), pk_un (by omega), pk_un (by omega), pk_un (by omega)]
  · show upd (upd (upd (upd (M.2.1 1) (7 + A.n) (nI 0)) (17 + A.n) (nI 0)) 1 (nI A.n)) 0 (nI (A.n + 1)) k = _
    rw [pk_un (by omega), pk_un (by omega), pk_un (by omega), pk_un (by omega)]
theorem m_mayB {A : AT} {M : MO} (hi : INV A) (h : RM A (M.2.1 1)) : f_X3_canBegin M = some (bZ (mayB A)) := by
  have hn := INV_n hi
  unfold f_X3_canBegin mayB
  simp (disch := omega) only [nm_eq, show (0 : Int32) = nI 0 from rfl, show (1 : Int32) = nI 1 from rfl, show (10 : Int32) = nI 10 from rfl, gd_nI, nI_clamp, RM_n h, RM_run h]
  by_cases e : A.n < 10
  · rw [if_pos (by rw [nI_ltI (by omega) (by omega)]; exact e), decide_eq_true e]; rfl
  · rw [if_neg (by rw [nI_ltI (by omega) (by omega)]; exact e), decide_eq_false e]
    cases er : A.run with
    | false => 
      rw [show rn A = none by unfold rn; rw [er]; rfl]
      rfl
    | true =>
      have hc := cnt_le A (some (A.n - 1))
      rw [rn_run er, if_neg (show ¬ oI (some (A.n - 1)) = -nI 1 from fun q => nI_m1 (n := A.n - 1) (by omega) q), m_cnt hi h (fun q e => by cases e; omega), bd_some]
      by_cases e2 : cnt A (some (A.n - 1)) = 0
      · rw [if_pos (by rw [e2]), decide_eq_true e2]; rfl
      · rw [if_neg (by rw [nI_eq (by omega) (by decide)]; exact e2), decide_eq_false e2]; rfl
theorem m_bgn {A : AT} {M : MO} (hi : INV A) (h : RM A (M.2.1 1)) (hm : mayB A = true) : ∃ M', f_X3_begins M = some (nI ((bgn A).n - 1), M') ∧ RM (bgn A) (M'.2.1 1) ∧ FR M M' := by
  unfold f_X3_begins bgn
  rw [show (1 : Int32) = nI 1 from rfl, gd_nI (by omega) (by omega), nI_clamp (by omega), RM_run h]
  cases er : A.run with
  | false =>
    have : A.n < 10 := of_decide_eq_true (show decide (A.n < 10) = true by unfold mayB at hm; rw [er] at hm; simpa using hm)
    rw [if_pos (show oI (rn A) = -nI 1 by rw [show rn A = none by unfold rn; rw [er]; rfl]; rfl), if_neg (by decide)]
    exact m_bgn1 hi h this
  | true =>
    have h1 := INV_r hi er
    have hn := INV_n hi
    obtain ⟨M1, k1, k2, k3⟩ := m_stp hi er h
    rw [if_neg (fun q => nI_m1 (n := A.n - 1) (by omega) (by rw [rn_run er] at q; exact q)), k1, bd2_some, if_pos rfl]
    obtain ⟨M2, k4, k5, k6⟩ := m_bgn1 (INV_stp hi er) k2 (stp_n hi hm er)
    exact ⟨M2, k4, k5, FR_t k3 k6⟩
