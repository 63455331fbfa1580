/-! what the belt's methods change, by the pure state, and what is saved -/
/-- c states are saved, the slot ns is written next -/
def SVs (c ns : Nat) (S : BO) : Prop := c ≤ 6 ∧ ns < 6 ∧ S.1 2 = nI ns ∧ S.1 3 = nI c
/-- behind a change of A to B -/
def AF (A B : AT) (c ns : Nat) (S : BO) : Prop := RS B S.2.1 ∧ SVs (min 6 (c + 1)) ((ns + 1) % 6) S ∧ RS A (S.2.2.1 ns)
theorem v_save {A : AT} {S : BO} {c ns : Nat} (hi : INV A) (h : RS A S.2.1) (hv : SVs c ns S) : ∃ S', f_X2_save S = some S' ∧ S'.2.1 = S.2.1 ∧ SVs (min 6 (c + 1)) ((ns + 1) % 6) S' ∧ RS A (S'.2.2.1 ns) := by
  have hn := INV_n hi
  obtain ⟨v1, v2, v3, v4⟩ := hv
  obtain ⟨T, c1, c2⟩ := RS_copy (S := S.2.2.1 ns) h hn (od_le hi)
  have hS : f_X2_save S = some (upd (upd S.1 2 (nI ((ns + 1) % 6))) 3 (nI (min 6 (c + 1))), S.2.1, (fun i => if i = ns then T else S.2.2.1 i), S.2.2.2) := by
    have fin : ∀ t0, t0 = nI ((ns + 1) % 6) → c_X2_save_43 t0 (S.1, S.2.1, (fun i => if i = ns then T else S.2.2.1 i), S.2.2.2) = some (upd (upd S.1 2 (nI ((ns + 1) % 6))) 3 (nI (min 6 (c + 1))), S.2.1, (fun i => if i = ns then T else S.2.2.1 i), S.2.2.2) := by
      rintro t0 rfl
      unfold c_X2_save_43
      simp only [nm_eq]
      have e3 : upd S.1 2 (nI ((ns + 1) % 6)) 3 = nI c := (pk_un (by omega)).trans v4
      rw [e3]
      by_cases e : c = 6
      · rw [if_pos (by rw [e]; decide)]
        have e4 : upd (upd S.1 2 (nI ((ns + 1) % 6))) 3 (nI (min 6 (c + 1))) = upd S.1 2 (nI ((ns + 1) % 6)) := by
          funext k
          show (if k = 3 then nI (min 6 (c + 1)) else _) = _
          by_cases q : k = 3
          · rw [if_pos q, q, e3, e]; rfl
          · rw [if_neg q]
        rw [e4]
      · rw [if_neg (by rw [show (6 : Int32) = nI 6 from rfl, nI_leI (by omega) (by omega)]; omega), show nI c + 1 = nI (c + 1) from nI_1 _, show min 6 (c + 1) = c + 1 by omega]
    unfold f_X2_save
    simp only [nm_eq]
    rw [v3, gd_nI v2 (by decide), nI_clamp (by omega), c1, bd_some, show nI ns + 1 = nI (ns + 1) from nI_1 ns]
    by_cases e : ns = 5
    · rw [if_pos (by rw [e]; decide)]
      exact fin _ (by rw [e]; rfl)
    · rw [if_neg (by rw [show (6 : Int32) = nI 6 from rfl, nI_leI (by omega) (by omega)]; omega)]
      exact fin _ (by rw [Nat.mod_eq_of_lt (by omega)])
  refine ⟨_, hS, rfl, ⟨by omega, Nat.mod_lt _ (by omega), rfl, rfl⟩, ?_⟩
  show RS A (if ns = ns then T else S.2.2.1 ns)
  rw [if_pos rfl]
  exact c2
theorem c_begin {A : AT} {S : BO} {c ns : Nat} (hi : INV A) (h : RS A S.2.1) (hv : SVs c ns S) (hm : mayB A = true) : ∃ S', f_X2_begin S = some (.inr (nI ((bgn A).n - 1)), S') ∧ AF A (bgn A) c ns S' := by
  obtain ⟨S1, k1, k2, k3, k4⟩ := v_save hi h hv
  obtain ⟨T, a1, a2⟩ := s_bgn hi (S := S1.2.1) (by rw [k2]; exact h) hm
  refine ⟨(S1.1, T, S1.2.2), ?_, a2, k3, k4⟩
  unfold f_X2_begin
  rw [s_mayB hi h, hm, bd_some, if_neg (by decide), k1, bd_some, a1, bd2_some, nm_eq]
theorem c_halt {A : AT} {S : BO} {c ns : Nat} (hi : INV A) (h : RS A S.2.1) (hv : SVs c ns S) (hr : A.run = true) : ∃ S', f_X2_halt S = some (.inr (nI (cnt A (some (A.n - 1)))), S') ∧ AF A (stp A) c ns S' := by
  obtain ⟨S1, k1, k2, k3, k4⟩ := v_save hi h hv
  obtain ⟨T, a1, a2⟩ := s_stp hi (S := S1.2.1) (by rw [k2]; exact h) hr
  refine ⟨(S1.1, T, S1.2.2), ?_, a2, k3, k4⟩
  unfold f_X2_halt
  rw [if_neg (fun q => by rw [(run_0 h).mp q] at hr; cases hr), k1, bd_some, a1, bd2_some, nm_eq]
theorem c_speak {A : AT} {S : BO} {c ns : Nat} (hi : INV A) (h : RS A S.2.1) (hv : SVs c ns S) (hr : A.run = true) (hw : 0 < wrc A) {v : Nat} (hs : v ≤ 99) : ∃ S', f_X2_speak (nI v) S = some (.inr (oI (fwr A 0 32)), S') ∧ AF A (spk A (nI v)) c ns S' := by
  obtain ⟨S1, k1, k2, k3, k4⟩ := v_save hi h hv
  obtain ⟨l', T, a1, a2, _, a4⟩ := s_spkN (v := nI v) (m := 1) (by omega) 1 FU 0 (-1) A S1.2.1 hi (by rw [k2]; exact h) hr hw rfl (by decide)
  refine ⟨(S1.1, T, S1.2.2), ?_, a2, k3, k4⟩
  unfold f_X2_speak
  rw [r_sound hs, bxw_in', show f_X1_maySpeak 1 S.2.1 = some (bZ (A.run && decide (1 ≤ cp (wr A) 0 32))) from s_mayS hi h (m := 1) (by omega), hr, decide_eq_true (show 1 ≤ cp (wr A) 0 32 from hw), bd_some, if_neg (by decide), k1, bd_some]
  have : f_X1_speakTimes 1 (nI v) S1.2.1 = some (l', T) := a1
  rw [this, bd2_some, nm_eq, a4 rfl]
theorem c_setFlag {A : AT} {S : BO} {c ns : Nat} (hi : INV A) (h : RS A S.2.1) (hv : SVs c ns S) {r : Nat} (hr : r < A.n) (b : Bool) : ∃ S', f_X2_setFlag (nI r) (bZ b) S = some (.inr (bZ (A.fl r)), S') ∧ AF A (sFL A (u1 A.fl r b) A.lo) c ns S' := by
  obtain ⟨S1, k1, k2, k3, k4⟩ := v_save hi h hv
  have h1 : RS A S1.2.1 := by rw [k2]; exact h
  obtain ⟨T, a1, a2⟩ := s_put hi h1 hr b
  refine ⟨(S1.1, T, S1.2.2), ?_, a2, k3, k4⟩
  unfold f_X2_setFlag
  rw [r_recording hi h hr, bxw_in', k1, bd_some, s_flag hi h1 hr, bd_some, a1, bd_some, nm_eq, zb_bZ]
theorem c_erase {A : AT} {S : BO} {c ns : Nat} (hi : INV A) (h : RS A S.2.1) (hv : SVs c ns S) {r : Nat} (hr : r < A.n) (hf : A.fl r = false) : ∃ S', f_X2_erase (nI r) S = some (.inr (nI (cnt A (some r))), S') ∧ AF A (rmv A r) c ns S' := by
  obtain ⟨S1, k1, k2, k3, k4⟩ := v_save hi h hv
  obtain ⟨T, a1, a2⟩ := s_ers hi (S := S1.2.1) (by rw [k2]; exact h) hr
  refine ⟨(S1.1, T, S1.2.2), ?_, a2, k3, k4⟩
  unfold f_X2_erase
  rw [r_recording hi h hr, bxw_in', s_flag hi h hr, hf, bd_some, if_pos (show bZ false = 0 from rfl), k1, bd_some, a1, bd2_some, nm_eq]
theorem c_moveHead {A : AT} {S : BO} {c ns : Nat} (hi : INV A) (h : RS A S.2.1) (hv : SVs c ns S) {k : Nat} (hk : k < 32) (hr : A.run = false) : ∃ S', f_X2_moveHead (nI k) S = some (.inr (nI A.hd), S') ∧ AF A (sHS A k A.sp) c ns S' := by
  obtain ⟨S1, k1, k2, k3, k4⟩ := v_save hi h hv
  have h1 : RS A S1.2.1 := by rw [k2]; exact h
  refine ⟨(S1.1, (upd S1.2.1.1 9 (nI k), S1.2.1.2), S1.2.2), ?_, RS_head h1, k3, k4⟩
  unfold f_X2_moveHead
  rw [r_cell hk, bxw_in', if_pos ((run_0 h).mpr hr), k1, bd_some, nm_eq, nm_eq, RS_hd h1]
theorem c_go {A : AT} {S : BO} {c ns : Nat} (hi : INV A) (h : RS A S.2.1) (hv : SVs c ns S) {r : Nat} (hr : r < A.n) : ∃ S', f_X2_go (nI r) S = some (.inr (nI (cnt A (some r))), S') ∧ AF A (sP A (some (r, 0))) c ns S' := by
  obtain ⟨S1, k1, k2, k3, k4⟩ := v_save hi h hv
  obtain ⟨T, a1, a2⟩ := s_go (S := S1.2.1) (A := A) (by rw [k2]; exact h) r
  refine ⟨(S1.1, T, S1.2.2), ?_, a2, k3, k4⟩
  unfold f_X2_go
  have hi2 : INV (sP A (some (r, 0))) := INV_pl hi (fun q p e => by cases e; exact ⟨hr, by omega⟩)
  rw [r_recording hi h hr, bxw_in', k1, bd_some, a1, bd_some, nm_eq, show f_X1_cellCount (nI r) (S1.1, T, S1.2.2).2.1 = some (nI (cnt (sP A (some (r, 0))) (some r))) from s_cntr hi2 a2 hr, bd_some]
  rfl
theorem c_play {A : AT} {S : BO} {c ns : Nat} (hi : INV A) (h : RS A S.2.1) (hv : SVs c ns S) {r p : Nat} (e : A.P = some (r, p)) : ∃ S', f_X2_play S = some (.inr (pl (ce A r p) A.sn), S') ∧ AF A (ply A r p) c ns S' := by
  obtain ⟨S1, k1, k2, k3, k4⟩ := v_save hi h hv
  obtain ⟨T, a1, a2⟩ := s_play hi (S := S1.2.1) (by rw [k2]; exact h) e
  refine ⟨(S1.1, T, S1.2.2), ?_, a2, k3, k4⟩
  unfold f_X2_play
  rw [r_player hi h e, bxw_in', k1, bd_some, a1, bd2_some, nm_eq, at_ce]
theorem c_back {A : AT} {S : BO} {c ns : Nat} (hi : INV A) (h : RS A S.2.1) (hv : SVs c ns S) {r p m : Nat} (h1 : 1 ≤ m) (h9 : m ≤ 9) (e : A.P = some (r, p)) : ∃ S', f_X2_back (nI m) S = some (.inr (nI (p - m)), S') ∧ AF A (sP A (some (r, p - m))) c ns S' := by
  obtain ⟨S1, k1, k2, k3, k4⟩ := v_save hi h hv
  obtain ⟨T, a1, a2⟩ := s_back hi (S := S1.2.1) (by rw [k2]; exact h) h9 e
  refine ⟨(S1.1, T, S1.2.2), ?_, a2, k3, k4⟩
  unfold f_X2_back
  rw [if_neg (by rw [show (1 : Int32) = nI 1 from rfl, nI_ltI (by omega) (by omega)]; omega), if_pos (by rw [show (9 : Int32) = nI 9 from rfl, nI_leI (by omega) (by omega)]; exact h9), r_player hi h e, bxw_in', k1, bd_some, a1, bd2_some, nm_eq]
theorem c_correct {A : AT} {S : BO} {c ns : Nat} (hi : INV A) (h : RS A S.2.1) (hv : SVs c ns S) {r p k v : Nat} (hr : r < A.n) (hp : p < 2 ^ 31) (ek : ce A r p = some k) (hs : v ≤ 99) (hf : A.fl r = false) : ∃ S', f_X2_correct (nI r) (nI p) (nI v) S = some (.inr (A.sn k), S') ∧ AF A (sSC A (u1 A.sn k (nI v)) A.ca) c ns S' := by
  obtain ⟨S1, k1, k2, k3, k4⟩ := v_save hi h hv
  have h1 : RS A S1.2.1 := by rw [k2]; exact h
  have hk := (ce_lt hi ek).1
  have e1 : f_X1_cellAt (nI r) (nI p) S.2.1 = some (nI k) := by rw [s_at hi h hr hp, at_ce, ek]; rfl
  refine ⟨(S1.1, (S1.2.1.1, up2 S1.2.1.2 1 (upd (S1.2.1.2 1) k (nI v))), S1.2.2), ?_, RS_sound h1, k3, k4⟩
  unfold f_X2_correct
  rw [r_place hi h hr hp, bxw_in', e1, bd_some, r_cell hk, bxw_in', r_sound hs, bxw_in', s_flag hi h hr, hf, bd_some, if_pos (show bZ false = 0 from rfl), k1, bd_some, nm_eq, nm_eq, vAt_nI hk (by decide), pAt_nI hk (by decide), RS_sn h1 hk]
theorem c_undo {A : AT} {S : BO} {c ns : Nat} (hn : A.n ≤ 10) (hl : A.od.length ≤ 32) (hv : SVs c ns S) (hc : 0 < c) (h : RS A (S.2.2.1 ((ns + 5) % 6))) : ∃ S', f_X2_undo S = some (.inr (nI (c - 1)), S') ∧ RS A S'.2.1 ∧ SVs (c - 1) ((ns + 5) % 6) S' := by
  obtain ⟨v1, v2, v3, v4⟩ := hv
  obtain ⟨T, c1, c2⟩ := RS_copy (S := S.2.1) h hn hl
  have fin : ∀ t0, t0 = nI ((ns + 5) % 6) → c_X2_undo_35 t0 S = some (.inr (nI (c - 1)), (upd (upd S.1 2 (nI ((ns + 5) % 6))) 3 (nI (c - 1)), T, S.2.2)) := by
    rintro t0 rfl
    unfold c_X2_undo_35
    simp only [nm_eq]
    have e3 : upd S.1 2 (nI ((ns + 5) % 6)) 3 = nI c := (pk_un (by omega)).trans v4
    have e4 : nI c - 1 = nI (c - 1) := sub_nI (a := c) (b := 1) hc
    have e5 : upd (upd S.1 2 (nI ((ns + 5) % 6))) 3 (nI (c - 1)) 2 = nI ((ns + 5) % 6) := (pk_un (by omega)).trans pk_us
    have e6 : upd (upd S.1 2 (nI ((ns + 5) % 6))) 3 (nI (c - 1)) 3 = nI (c - 1) := pk_us
    rw [e3, e4, e5, gd_nI (Nat.mod_lt _ (by omega)) (by decide), nI_clamp (Nat.lt_trans (Nat.mod_lt _ (by omega)) (by decide)), c1, bd_some, e6]
  refine ⟨(upd (upd S.1 2 (nI ((ns + 5) % 6))) 3 (nI (c - 1)), T, S.2.2), ?_, c2, ⟨by omega, Nat.mod_lt _ (by omega), show upd (upd S.1 2 (nI ((ns + 5) % 6))) 3 (nI (c - 1)) 2 = nI ((ns + 5) % 6) from (pk_un (by omega)).trans pk_us, show upd (upd S.1 2 (nI ((ns + 5) % 6))) 3 (nI (c - 1)) 3 = nI (c - 1) from pk_us⟩⟩
  unfold f_X2_undo
  rw [v3, v4, if_neg (by rw [show (0 : Int32) = nI 0 from rfl, nI_eq (by omega) (by omega)]; omega)]
  by_cases e : ns = 0
  · rw [if_pos (by rw [e]; rfl)]
    exact fin _ (by rw [e]; rfl)
  · rw [if_neg (by rw [show (0 : Int32) = nI 0 from rfl, nI_eq (by omega) (by omega)]; exact e)]
    exact fin _ (by rw [show nI ns - 1 = nI (ns - 1) from sub_nI (b := 1) (by omega)]; congr 1; omega)
