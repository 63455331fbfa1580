/-! stopping, beginning, writing -/
def stp (A : AT) : AT := if cnt A (some (A.n - 1)) = 0 then rmv (sN A A.n false) (A.n - 1) else sN A A.n false
theorem INV_nr {A : AT} (h : INV A) : INV (sN A A.n false) := ⟨h.1, fun e => Bool.noConfusion (show false = true from e), h.2.2⟩
theorem INV_stp {A : AT} (h : INV A) (hr : A.run = true) : INV (stp A) := by
  have := INV_r h hr
  unfold stp
  split
  · exact INV_rmv (INV_nr h) (show A.n - 1 < A.n by omega)
  · exact INV_nr h
theorem cnt_0 {A : AT} {r : Nat} (h : cnt A (some r) = 0) : ∀ k, k < 32 → A.ow k ≠ some r := fun k hk q => by
  have h0 : ∀ d j, (∃ z, j ≤ z ∧ z < j + d ∧ isO A r z = true) → cp (isO A r) j d ≠ 0 := by
    intro d
    induction d with
    | zero => rintro j ⟨z, h1, h2, _⟩; omega
    | succ d ih =>
      rintro j ⟨z, h1, h2, h3⟩
      show (if isO A r j then 1 else 0) + cp (isO A r) (j + 1) d ≠ 0
      by_cases e9 : j = z
      · rw [e9, h3]; simp
      · have := ih (j + 1) ⟨z, by omega, by omega, h3⟩
        omega
  exact h0 32 0 ⟨k, by omega, by omega, decide_eq_true q⟩ h
theorem cnt_le (A : AT) (o : Option Nat) : cnt A o ≤ 32 := cp_le _ _ _
theorem rn_run {A : AT} (h : A.run = true) : rn A = some (A.n - 1) := by unfold rn; rw [if_pos h]
theorem s_stp {A : AT} {S : OB} (hi : INV A) (h : RS A S) (hr : A.run = true) : ∃ S', f_X1_stopRecording S = some (nI (cnt A (some (A.n - 1))), S') ∧ RS (stp A) S' := by
  have hn := INV_n hi
  have h1 := INV_r hi hr
  unfold f_X1_stopRecording
  rw [s_run hi h, bd_some, rn_run hr, s_cnt hi h (fun q e => by cases e; omega), bd_some, nm_eq]
  have hc := cnt_le A (some (A.n - 1))
  unfold stp
  by_cases e : cnt A (some (A.n - 1)) = 0
  · rw [if_pos e, if_pos (by rw [e]; rfl)]
    obtain ⟨S', k1, k2⟩ := s_rmv (INV_nr hi) (RS_runs h (b := false)) (show A.n - 1 < A.n by omega) (cnt_0 e)
    refine ⟨S', ?_, k2⟩
    rw [show oI (some (A.n - 1)) = nI (A.n - 1) from rfl, show (upd S.1 8 0, S.2) = (upd S.1 8 (bZ false), S.2) from rfl, k1]
    rfl
  · rw [if_neg e, if_neg (by rw [show (0 : Int32) = nI 0 from rfl, nI_eq (by omega) (by decide)]; exact e)]
    exact ⟨_, rfl, RS_runs h (b := false)⟩
/-- a recording begins -/
def bgn1 (A : AT) : AT := (A.n + 1, true, A.hd, A.sp, A.go, A.P, u1 A.fl A.n false, u1 A.lo A.n 0, A.ow, A.sn, A.ca, A.od)
def bgn (A : AT) : AT := if A.run then bgn1 (stp A) else bgn1 A
theorem INV_bgn1 {A : AT} (h : INV A) (hn : A.n < 10) : INV (bgn1 A) := ⟨by show A.n + 1 ≤ 10; omega, fun _ => by show 0 < A.n + 1; omega, h.2.2.1, fun k hk r e => Nat.lt_succ_of_lt (INV_ow h hk r e), h.2.2.2.2.1, h.2.2.2.2.2.1, fun r p e => ⟨Nat.lt_succ_of_lt (INV_P h r p e).1, (INV_P h r p e).2⟩⟩
theorem s_bgn1 {A : AT} {S : OB} (hi : INV A) (h : RS A S) (hn : A.n < 10) : ∃ S', c_X1_beginRecording_12 S = some (nI ((bgn1 A).n - 1), S') ∧ RS (bgn1 A) S' := by
  unfold c_X1_beginRecording_12
  simp (disch := omega) only [nm_eq, RS_n h, pAt_nI]
  refine ⟨_, rfl, ?_⟩
  obtain ⟨h1, h2, h3, h4, h5, h6, h7, h8, h9, h10, h11, h12, h13, h14⟩ := h
  refine ⟨h1, nI_1 A.n, rfl, h4, h5, h6, h7, h8, h9, h10, h11, h12, fun k hk => ?_, fun k hk => ?_⟩
  · have hk : k < A.n + 1 := hk
    show (if k = A.n then (0 : Int32) else S.2 5 k) = bZ (if k = A.n then false else A.fl k)
    by_cases e : k = A.n
    · rw [if_pos e, if_pos e]; rfl
    · rw [if_neg e, if_neg e]; exact h13 k (by omega)
  · have hk : k < A.n + 1 := hk
    show (if k = A.n then (0 : Int32) else S.2 6 k) = (if k = A.n then (0 : Int32) else A.lo k)
    by_cases e : k = A.n
    · rw [if_pos e, if_pos e]
    · rw [if_neg e, if_neg e]; exact h14 k (by omega)
/-- may one begin -/
def mayB (A : AT) : Bool := decide (A.n < 10) || (A.run && decide (cnt A (some (A.n - 1)) = 0))
theorem stp_n {A : AT} (hi : INV A) (h : mayB A = true) (hr : A.run = true) : (stp A).n < 10 := by
  have hn := INV_n hi
  have h1 := INV_r hi hr
  unfold mayB at h
  unfold stp
  by_cases e : cnt A (some (A.n - 1)) = 0
  · rw [if_pos e]
    show A.n - 1 < 10
    omega
  · rw [if_neg e]
    rw [decide_eq_false e, hr] at h
    have := of_decide_eq_true (show decide (A.n < 10) = true by simpa using h)
    exact this
theorem s_mayB {A : AT} {S : OB} (hi : INV A) (h : RS A S) : f_X1_mayBegin S = some (bZ (mayB A)) := by
  have hn := INV_n hi
  unfold f_X1_mayBegin mayB
  rw [RS_n h, RS_run h, s_run hi h, bd_some, show (10 : Int32) = nI 10 from rfl]
  by_cases e : A.n < 10
  · rw [if_pos (by rw [nI_ltI (by omega) (by omega)]; exact e), decide_eq_true e]; rfl
  · rw [if_neg (by rw [nI_ltI (by omega) (by omega)]; exact e), decide_eq_false e]
    cases er : A.run with
    | false => rfl
    | true =>
      have hc := cnt_le A (some (A.n - 1))
      rw [if_neg (by decide), rn_run er, s_cnt hi h (fun q e => by cases e; omega), bd_some]
      by_cases e2 : cnt A (some (A.n - 1)) = 0
      · rw [if_pos (by rw [e2]; rfl), decide_eq_true e2]; rfl
      · rw [if_neg (by rw [show (0 : Int32) = nI 0 from rfl, nI_eq (by omega) (by decide)]; exact e2), decide_eq_false e2]; rfl
theorem INV_bgn {A : AT} (hi : INV A) (h : mayB A = true) : INV (bgn A) := by
  unfold bgn
  cases er : A.run with
  | false =>
    have : A.n < 10 := of_decide_eq_true (show decide (A.n < 10) = true by unfold mayB at h; rw [er] at h; simpa using h)
    exact INV_bgn1 hi this
  | true => exact INV_bgn1 (INV_stp hi er) (stp_n hi h er)
theorem s_bgn {A : AT} {S : OB} (hi : INV A) (h : RS A S) (hm : mayB A = true) : ∃ S', f_X1_beginRecording S = some (nI ((bgn A).n - 1), S') ∧ RS (bgn A) S' := by
  unfold f_X1_beginRecording bgn
  rw [RS_run h]
  cases er : A.run with
  | false =>
    have : A.n < 10 := of_decide_eq_true (show decide (A.n < 10) = true by unfold mayB at hm; rw [er] at hm; simpa using hm)
    rw [if_pos (show bZ false = 0 from rfl), if_neg (by decide)]
    exact s_bgn1 hi h this
  | true =>
    obtain ⟨S1, k1, k2⟩ := s_stp hi h er
    rw [if_neg (by decide), k1, bd2_some, if_pos rfl]
    exact s_bgn1 (INV_stp hi er) k2 (stp_n hi hm er)
/-- a cell is written -/
def wri (A : AT) (x : Nat) (v : Int32) : AT := (A.n, A.run, (x + 1) % 32, A.sp + 1, A.go, A.P, A.fl, A.lo, u1 A.ow x (some (A.n - 1)), u1 A.sn x v, u1 A.ca x v, A.od ++ [x])
theorem INV_wri {A : AT} (hi : INV A) (hr : A.run = true) {x : Nat} (hx : x < 32) (h0 : A.ow x = none) (v : Int32) : INV (wri A x v) := by
  have h1 := INV_r hi hr
  have hni : x ∉ A.od := fun q => ((INV_od hi x).mp q).2 h0
  refine ⟨hi.1, hi.2.1, Nat.mod_lt _ (by omega), fun k hk r e => ?_, ?_, fun k => ?_, hi.2.2.2.2.2.2⟩
  · have e : (if k = x then some (A.n - 1) else A.ow k) = some r := e
    show r < A.n
    split at e
    · cases e; omega
    · exact INV_ow hi hk r e
  · show (A.od ++ [x]).Nodup
    rw [List.nodup_append]
    exact ⟨INV_nd hi, by simp, fun a ha b hb q => by simp at hb; subst hb; subst q; exact hni ha⟩
  · show k ∈ A.od ++ [x] ↔ k < 32 ∧ (if k = x then some (A.n - 1) else A.ow k) ≠ none
    rw [List.mem_append, INV_od hi k]
    by_cases e : k = x
    · subst e; simp [hx]
    · simp [e]
theorem od_room {A : AT} (hi : INV A) {x : Nat} (hx : x < 32) (h0 : A.ow x = none) : A.od.length < 32 := by
  have := od_free hi
  have h1 : ∀ d j, j ≤ x → x < j + d → 0 < cp (fun k => decide (A.ow k = none)) j d := by
    intro d
    induction d with
    | zero => intro j h1 h2; omega
    | succ d ih =>
      intro j h1 h2
      show 0 < (if decide (A.ow j = none) then 1 else 0) + cp (fun k => decide (A.ow k = none)) (j + 1) d
      by_cases e : j = x
      · rw [e, h0]; simp; omega
      · have := ih (j + 1) (by omega) (by omega); omega
  have h2 : 0 < cnt A none := h1 32 0 (by omega) (by omega)
  omega
theorem s_wri {A : AT} {S : OB} (hi : INV A) (h : RS A S) (hr : A.run = true) {x : Nat} (hx : x < 32) (h0 : A.ow x = none) (v : Int32) : ∃ S', f_X1_writeCell (nI x) v S = some S' ∧ RS (wri A x v) S' := by
  have hl := od_room hi hx h0
  unfold f_X1_writeCell
  rw [s_run hi h, bd_some, rn_run hr]
  simp (disch := omega) only [nm_eq, pAt_nI, lit, nI_add, rem_nI]
  refine ⟨_, rfl, ?_⟩
  obtain ⟨h1, h2, h3, h4, h5, h6, h7, h8, h9, h10, h11, h12, h13, h14⟩ := h
  have e0 : pAt 32 (S.2 3) (S.1 4) (nI x) = upd (S.2 3) A.od.length (nI x) := by rw [h1, pAt_nI hl (by decide)]
  refine ⟨?_, h2, h3, rfl, ?_, h6, h7, h8, fun k hk => ?_, fun k hk => ?_, fun k hk => ?_, fun i hk => ?_, h13, h14⟩
  · show S.1 4 + nI 1 = nI (A.od ++ [x]).length
    rw [h1, nI_add, List.length_append]; rfl
  · show S.1 10 + nI 1 = nI (A.sp + 1)
    rw [h5, nI_add]
  · show (if k = x then oI (some (A.n - 1)) else S.2 0 k) = oI (if k = x then some (A.n - 1) else A.ow k)
    split
    · rfl
    · exact h9 k hk
  · show (if k = x then v else S.2 1 k) = (if k = x then v else A.sn k)
    split
    · rfl
    · exact h10 k hk
  · show (if k = x then v else S.2 2 k) = (if k = x then v else A.ca k)
    split
    · rfl
    · exact h11 k hk
  · have hi2 : i < (A.od ++ [x]).length := hk
    show pAt 32 (S.2 3) (S.1 4) (nI x) i = nI ((A.od ++ [x])[i]'hi2)
    rw [e0]
    show (if i = A.od.length then nI x else S.2 3 i) = _
    by_cases e : i = A.od.length
    · rw [if_pos e]; subst e; simp
    · have : i < A.od.length := by rw [List.length_append, List.length_singleton] at hi2; omega
      rw [if_neg e, List.getElem_append_left this]; exact h12 i this
