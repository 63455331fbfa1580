/-! the digest -/
def hm (a b : Int64) : Int64 := 31 * a + b
def hc (A : AT) (h : Int64) (l : List Nat) : Int64 := l.foldl (fun h x => hm (hm (hm h (Int32.toInt64 (nI x))) (Int32.toInt64 (A.sn x))) (Int32.toInt64 (A.ca x))) h
def hr (A : AT) (h : Int64) (r : Nat) : Int64 := hc A (hm (hm (hm h (Int32.toInt64 (nI (cnt A (some r))))) (Int32.toInt64 (bZ (A.fl r)))) (Int32.toInt64 (A.lo r))) (A.od.filter (isO A r))
def hR (A : AT) : Int64 → Nat → Nat → Int64
  | h, _, 0 => h
  | h, r, d + 1 => hR A (hr A h r) (r + 1) d
def hO (A : AT) : Int64 → Nat → Nat → Int64
  | h, _, 0 => h
  | h, j, d + 1 => hO A (hm h (Int32.toInt64 (oI (A.ow j)))) (j + 1) d
theorem mixed_eq (a b : Int64) : f_X2_mixed a b = some (hm a b) := rfl
theorem hc_cons (A : AT) (h : Int64) (x : Nat) (l : List Nat) : hc A h (x :: l) = hc A (hm (hm (hm h (Int32.toInt64 (nI x))) (Int32.toInt64 (A.sn x))) (Int32.toInt64 (A.ca x))) l := rfl
theorem s_b60 {A : AT} {S : BO} (hi : INV A) (h : RS A S.2.1) {r : Nat} (hr : r < A.n) : ∀ (d f i : Nat) (z : Int64), i + d = A.od.length → d < f → lpf3 (b_X2_withRecording_60 S) f (nI r) z (nI i) = some (hc A z ((A.od.drop i).filter (isO A r)))
  | 0, f + 1, i, z, hj, _ => by
    obtain rfl : i = A.od.length := hj
    rw [lpf3_s]
    unfold b_X2_withRecording_60
    rw [RS_us h, if_pos (Int32.le_refl _), List.drop_length]
    rfl
  | d + 1, f + 1, i, z, hj, hf => by
    have hl := od_le hi
    have hn := INV_n hi
    have hlt : i < A.od.length := by omega
    have hk := od_get hi hlt
    have ih := fun z => s_b60 hi h hr d f (i + 1) z (by omega) (by omega)
    rw [lpf3_s]
    generalize lpf3 (b_X2_withRecording_60 S) f = K at ih ⊢
    unfold b_X2_withRecording_60
    simp only [nm_eq]
    rw [RS_us h, if_neg (by rw [nI_leI (by omega) (by omega)]; omega), vAt_nI (show i < 32 by omega) (by decide), RS_od h hlt, vAt_nI hk (by decide), vAt_nI hk (by decide), vAt_nI hk (by decide), RS_ow h hk, RS_sn h hk, RS_ca h hk, List.drop_eq_getElem_cons hlt, show nI i + 1 = nI (i + 1) from nI_1 i]
    by_cases e : A.ow A.od[i] = some r
    · rw [if_pos (by rw [e]; rfl), List.filter_cons_of_pos (by simp [isO, e]), hc_cons]
      exact ih _
    · rw [if_neg (fun q => e ((oI_nI (owB hi hk) (by omega)).mp q)), List.filter_cons_of_neg (by simp [isO, e])]
      exact ih _
theorem s_wrec {A : AT} {S : BO} (hi : INV A) (h : RS A S.2.1) {r : Nat} (hr' : r < A.n) (z : Int64) : f_X2_withRecording z (nI r) S = some (hr A z r) := by
  have hn := INV_n hi
  have hl := od_le hi
  unfold f_X2_withRecording c_X2_withRecording_33
  rw [show f_X1_cellCount (nI r) S.2.1 = some (nI (cnt A (some r))) from s_cnt (o := some r) hi h (fun q e => by cases e; omega), bd_some, mixed_eq, bd_some, s_flag hi h hr', bd_some]
  have key := fun z => s_b60 hi h hr' A.od.length FU 0 z (Nat.zero_add _) (Nat.lt_of_le_of_lt hl (by decide))
  have ev : vAt 10 (S.2.1.2 6) (nI r) = A.lo r := by rw [vAt_nI (by omega) (by decide), RS_lo h hr']
  rw [ev]
  unfold hr
  cases e : A.fl r with
  | false =>
    rw [if_pos (show bZ false = 0 from rfl), mixed_eq, bd_some, mixed_eq, bd_some]
    exact key _
  | true =>
    rw [if_neg (show ¬ bZ true = 0 by decide), mixed_eq, bd_some, mixed_eq, bd_some]
    exact key _
theorem s_b142 {A : AT} {S : BO} (hi : INV A) (h : RS A S.2.1) : ∀ (d f j : Nat) (z : Int64), j + d = 32 → d < f → lpf2 (b_X2_digest_142 S) f z (nI j) = some (hO A z j d)
  | 0, f + 1, j, z, hj, _ => by
    obtain rfl : j = 32 := hj
    rw [lpf2_s]
    unfold b_X2_digest_142
    rw [if_pos (by decide)]
    rfl
  | d + 1, f + 1, j, z, hj, hf => by
    have hk : j < 32 := by omega
    have ih := fun z => s_b142 hi h d f (j + 1) z (by omega) (by omega)
    rw [lpf2_s]
    generalize lpf2 (b_X2_digest_142 S) f = K at ih ⊢
    unfold b_X2_digest_142
    simp only [nm_eq]
    rw [if_neg (by rw [show (32 : Int32) = nI 32 from rfl, nI_leI (by omega) (by omega)]; omega), vAt_nI hk (by decide), RS_ow h hk, mixed_eq, bd_some, show nI j + 1 = nI (j + 1) from nI_1 j]
    exact ih _
theorem s_b116 {A : AT} {S : BO} (hi : INV A) (h : RS A S.2.1) : ∀ (d f r : Nat) (z : Int64), r + d = A.n → d < f → lpf2 (b_X2_digest_116 S) f z (nI r) = some (hO A (hR A z r d) 0 32)
  | 0, f + 1, r, z, hj, _ => by
    obtain rfl : r = A.n := hj
    rw [lpf2_s]
    unfold b_X2_digest_116
    rw [RS_n h, if_pos (Int32.le_refl _)]
    exact s_b142 hi h 32 FU 0 z rfl (by decide)
  | d + 1, f + 1, r, z, hj, hf => by
    have hn := INV_n hi
    have ih := fun z => s_b116 hi h d f (r + 1) z (by omega) (by omega)
    rw [lpf2_s]
    generalize lpf2 (b_X2_digest_116 S) f = K at ih ⊢
    unfold b_X2_digest_116
    simp only [nm_eq]
    rw [RS_n h, if_neg (by rw [nI_leI (by omega) (by omega)]; omega), s_wrec hi h (by omega), bd_some, show nI r + 1 = nI (r + 1) from nI_1 r]
    exact ih _
/-! the reference's -/
theorem at_get {p : Nat → Bool} : ∀ (l : List Nat) (i : Nat), at_ p l i = (l.filter p)[i]?
  | [], i => rfl
  | y :: l, i => by
    unfold at_
    cases e : p y with
    | false =>
      rw [if_neg (by decide), List.filter_cons_of_neg (by simp [e])]
      exact at_get l i
    | true =>
      rw [if_pos rfl, List.filter_cons_of_pos e]
      cases i with
      | zero => rfl
      | succ i => rw [if_neg (by omega)]; exact at_get l i
theorem cnt_fil {A : AT} (hi : INV A) (r : Nat) : (A.od.filter (isO A r)).length = cnt A (some r) := by
  rw [← cp_len (A.od.filter (isO A r)) ((INV_nd hi).filter _) (fun x hx => od_lt hi x (List.mem_filter.mp hx).1)]
  refine cp_congr 32 0 (fun k _ hk => ?_)
  show decide (k ∈ A.od.filter (isO A r)) = decide (A.ow k = some r)
  refine decide_eq_decide.mpr ⟨fun q => of_decide_eq_true (List.mem_filter.mp q).2, fun e => List.mem_filter.mpr ⟨(INV_od hi k).mpr ⟨by omega, by rw [e]; simp⟩, decide_eq_true e⟩⟩
def Mh (M : MO) (z : Int64) : MO := (M.1, M.2.1, z)
theorem mix_eq (M : MO) (z x : Int64) : f_X3_mix x (Mh M z) = some (Mh M (hm z x)) := rfl
theorem m_b181 {A : AT} {M : MO} (hi : INV A) (hs : A.sp < 2 ^ 31) (h : RM A (M.2.1 1)) {r c : Nat} (hr : r < A.n) (hlc : (A.od.filter (isO A r)).length = c) (hc32 : c ≤ 32) (K : Int32 → MO → Option (Int64 × MO)) : ∀ (d f i : Nat) (z : Int64), i + d = c → d < f → lpf4 (b_X3_digest_181 K) f (nI r) (nI c) (nI i) (Mh M z) = K (nI (r + 1)) (Mh M (hc A z ((A.od.filter (isO A r)).drop i)))
  | 0, f + 1, i, z, hj, _ => by
    have hj : i = c := hj
    rw [lpf4_s]
    unfold b_X3_digest_181
    rw [hj, if_pos (Int32.le_refl _), nm_eq, ← hlc, List.drop_length, show nI r + 1 = nI (r + 1) from nI_1 r]
    rfl
  | d + 1, f + 1, i, z, hj, hf => by
    have hn := INV_n hi
    have hlt : i < (A.od.filter (isO A r)).length := by rw [hlc]; omega
    have ih := fun z => m_b181 hi hs h hr hlc hc32 K d f (i + 1) z (by omega) (by omega)
    have hx : (A.od.filter (isO A r))[i] < 32 := od_lt hi _ (List.mem_filter.mp (List.getElem_mem hlt)).1
    have ha : ∀ z, f_X3_cellAt (nI r) (nI i) (Mh M z) = some (oI (at_ (isO A r) A.od i)) := fun z => m_at (M := Mh M z) hi hs h hr (by omega)
    rw [lpf4_s]
    generalize lpf4 (b_X3_digest_181 K) f = K' at ih ⊢
    rw [List.drop_eq_getElem_cons hlt, hc_cons]
    have hat : at_ (isO A r) A.od i = some (A.od.filter (isO A r))[i] := by rw [at_get, List.getElem?_eq_getElem hlt]
    rw [hat] at ha
    generalize (A.od.filter (isO A r))[i] = x at hx ha ⊢
    have g59 : ∀ z, (Mh M z).2.1 1 (59 + x) = A.sn x := fun _ => RM_sn h hx
    have g91 : ∀ z, (Mh M z).2.1 1 (91 + x) = A.ca x := fun _ => RM_ca h hx
    unfold b_X3_digest_181
    rw [if_neg (by rw [nI_leI (by omega) (by omega)]; omega), ha, bd_some, oI_some, mix_eq, bd_some, show (59 : Int32) + nI x = nI (59 + x) from nI_add 59 x, show (91 : Int32) + nI x = nI (91 + x) from nI_add 91 x, gd_nI (by omega) (by decide), nI_clamp (by omega), nI_clamp (by omega)]
    rw [g59, mix_eq, bd_some, gd_nI (by omega) (by decide)]
    rw [g91, mix_eq, bd_some, nm_eq, show nI i + 1 = nI (i + 1) from nI_1 i]
    exact ih _
theorem m_b245 {A : AT} {M : MO} (hi : INV A) (h : RM A (M.2.1 1)) : ∀ (d f j : Nat) (z : Int64), j + d = 32 → d < f → lpf2 b_X3_digest_245 f (nI j) (Mh M z) = some (hO A z j d, Mh M (hO A z j d))
  | 0, f + 1, j, z, hj, _ => by
    obtain rfl : j = 32 := hj
    rw [lpf2_s]
    unfold b_X3_digest_245
    rw [if_pos (by decide)]
    rfl
  | d + 1, f + 1, j, z, hj, hf => by
    have hk : j < 32 := by omega
    have ih := fun z => m_b245 hi h d f (j + 1) z (by omega) (by omega)
    rw [lpf2_s]
    generalize lpf2 b_X3_digest_245 f = K at ih ⊢
    unfold b_X3_digest_245
    rw [if_neg (by rw [show (32 : Int32) = nI 32 from rfl, nI_leI (by omega) (by omega)]; omega), show (27 : Int32) + nI j = nI (27 + j) from nI_add 27 j, gd_nI (by omega) (by decide), nI_clamp (by omega), show (Mh M z).2.1 1 (27 + j) = oI (A.ow j) from RM_ow h hk, mix_eq, bd_some, nm_eq, show nI j + 1 = nI (j + 1) from nI_1 j]
    exact ih _
theorem m_b129 {A : AT} {M : MO} (hi : INV A) (hs : A.sp < 2 ^ 31) (h : RM A (M.2.1 1)) : ∀ (d f r : Nat) (z : Int64), r + d = A.n → d < f → lpf2 b_X3_digest_129 f (nI r) (Mh M z) = some (hO A (hR A z r d) 0 32, Mh M (hO A (hR A z r d) 0 32))
  | 0, f + 1, r, z, hj, _ => by
    obtain rfl : r = A.n := hj
    rw [lpf2_s]
    unfold b_X3_digest_129
    rw [show gd (0 : Int32) = @gd (Int64 × MO) (nI 0) from rfl, gd_nI (by omega) (by decide), show Int32.toNatClampNeg 0 = 0 from rfl, show (Mh M z).2.1 1 0 = nI A.n from RM_n h, if_pos (Int32.le_refl _)]
    exact m_b245 hi h 32 FU 0 z rfl (by decide)
  | d + 1, f + 1, r, z, hj, hf => by
    have hn := INV_n hi
    have hrn : r < A.n := by omega
    have ih := fun z => m_b129 hi hs h d f (r + 1) z (by omega) (by omega)
    rw [lpf2_s]
    generalize lpf2 b_X3_digest_129 f = K at ih ⊢
    unfold b_X3_digest_129
    have g0 : ∀ z, (Mh M z).2.1 1 0 = nI A.n := fun _ => RM_n h
    have g7 : ∀ z, (Mh M z).2.1 1 (7 + r) = bZ (A.fl r) := fun _ => RM_fl h hrn
    have g17 : ∀ z, (Mh M z).2.1 1 (17 + r) = A.lo r := fun _ => RM_lo h hrn
    have cc : ∀ z, f_X3_cells (nI r) (Mh M z) = some (nI (cnt A (some r))) := fun z => m_cnt (M := Mh M z) (o := some r) hi h (fun q e => by cases e; omega)
    have hh : hR A z r (d + 1) = hR A (hc A (hm (hm (hm z (Int32.toInt64 (nI (cnt A (some r))))) (Int32.toInt64 (bZ (A.fl r)))) (Int32.toInt64 (A.lo r))) (A.od.filter (isO A r))) (r + 1) d := rfl
    rw [hh]
    have hcl := cnt_fil hi r
    have hc32 := cnt_le A (some r)
    generalize cnt A (some r) = c at cc hcl hc32 ⊢
    rw [show gd (0 : Int32) = @gd (Int64 × MO) (nI 0) from rfl, gd_nI (by omega) (by decide), show Int32.toNatClampNeg 0 = 0 from rfl, g0, if_neg (by rw [nI_leI (by omega) (by omega)]; omega), cc, bd_some, mix_eq, bd_some, show (7 : Int32) + nI r = nI (7 + r) from nI_add 7 r, show (17 : Int32) + nI r = nI (17 + r) from nI_add 17 r, gd_nI (by omega) (by decide), nI_clamp (by omega), nI_clamp (by omega)]
    rw [g7, mix_eq, bd_some, gd_nI (by omega) (by decide)]
    rw [g17, mix_eq, bd_some]
    have fin := m_b181 hi hs h hrn hcl hc32 K c FU 0 (hm (hm (hm z (Int32.toInt64 (nI c))) (Int32.toInt64 (bZ (A.fl r)))) (Int32.toInt64 (A.lo r))) (Nat.zero_add _) (Nat.lt_of_le_of_lt hc32 (by decide))
    refine Eq.trans fin ?_
    rw [List.drop_zero]
    exact ih _
theorem st_37 {t : Nat} {S : BO} {M : MO} (h : REL t S M) (ht : t < 512) : ∃ (r9 : Int64) (M9 : MO), f_X2_digest S = some r9 ∧ f_X3_digest M = some (r9, M9) ∧ REL (t + 1) S M9 := by
  have h0 := h
  obtain ⟨A, sv, ns, tx, h1, h2, h3, h4, h5, h6, h7⟩ := h
  have hn := INV_n h1
  have hs : A.sp < 2 ^ 31 := by omega
  have key : ∀ z, f_X2_digest S = some z → f_X3_digest M = some (z, Mh (upd M.1 0 0, M.2) z) → ∃ (r9 : Int64) (M9 : MO), f_X2_digest S = some r9 ∧ f_X3_digest M = some (r9, M9) ∧ REL (t + 1) S M9 := fun z e1 e2 => by
    refine ⟨z, _, e1, e2, ?_⟩
    obtain ⟨v1, v2, v3, v4, v5, v6⟩ := h5
    obtain ⟨x1, x2, x3, x4⟩ := h7
    exact ⟨A, sv, ns, tx, h1, h2, h3, by omega, ⟨v1, v2, v3, v4, v5, v6⟩, fun B hB => by have := h6 B hB; omega, ⟨x1, x2, x3, x4⟩⟩
  refine key (hO A (hR A (hm (hm (hm (hm (hm (hm (hm (hm (hm (hm (hm 4444 (Int32.toInt64 (nI A.n))) (Int32.toInt64 (oI (rn A)))) (Int32.toInt64 (nI A.hd))) (Int32.toInt64 (nI (cnt A none)))) (Int32.toInt64 (nI A.sp))) (Int32.toInt64 (nI A.go))) (Int32.toInt64 (oI (A.P.map Prod.fst)))) (Int32.toInt64 (oI (A.P.map Prod.snd)))) (Int32.toInt64 (nI (cp (cor A) 0 32)))) (Int32.toInt64 (nI (cp (wr A) 0 32)))) (Int32.toInt64 (oI (lsr A 0 32)))) 0 A.n) 0 32) ?_ ?_
  · unfold f_X2_digest
    rw [show f_X2_recordings S = some (nI A.n) from congrArg some (RS_n h2), bd_some, mixed_eq, bd_some, show f_X2_running S = some (oI (rn A)) by (unfold f_X2_running; rw [s_run h1 h2, bd_some]), bd_some, mixed_eq, bd_some, show f_X2_head S = some (nI A.hd) from congrArg some (RS_hd h2), bd_some, mixed_eq, bd_some, show f_X2_free S = some (nI (cnt A none)) from congrArg some (s_free h1 h2), bd_some, mixed_eq, bd_some, show f_X2_spoken S = some (nI A.sp) from congrArg some (RS_sp h2), bd_some, mixed_eq, bd_some, show f_X2_gone S = some (nI A.go) from congrArg some (RS_go h2), bd_some, mixed_eq, bd_some, show f_X2_playing S = some (oI (A.P.map Prod.fst)) from congrArg some (RS_p1 h2), bd_some, mixed_eq, bd_some, show f_X2_place S = some (oI (A.P.map Prod.snd)) from congrArg some (RS_p2 h2), bd_some, mixed_eq, bd_some, show f_X2_corrected S = some (nI (cp (cor A) 0 32)) by (unfold f_X2_corrected; rw [s_cor h1 h2, bd_some]), bd_some, mixed_eq, bd_some, show f_X2_room S = some (nI (cp (wr A) 0 32)) by (unfold f_X2_room; rw [s_wrc h1 h2, bd_some]), bd_some, mixed_eq, bd_some, show f_X2_nextLoser S = some (oI (lsr A 0 32)) by (unfold f_X2_nextLoser; rw [s_lsr h1 h2, bd_some]), bd_some, mixed_eq, bd_some]
    exact s_b116 h1 h2 A.n FU 0 _ (Nat.zero_add _) (Nat.lt_of_le_of_lt hn (by decide))
  · unfold f_X3_digest
    rw [nm_eq, nm_eq, show ((upd M.1 0 0, M.2).1, (upd M.1 0 0, M.2).2.1, (4444 : Int64)) = Mh (upd M.1 0 0, M.2) 4444 from rfl]
    have g0 : ∀ z, (Mh (upd M.1 0 0, M.2) z).2.1 1 0 = nI A.n := fun _ => RM_n h3
    have g1 : ∀ z, (Mh (upd M.1 0 0, M.2) z).2.1 1 1 = oI (rn A) := fun _ => RM_run h3
    have g2 : ∀ z, (Mh (upd M.1 0 0, M.2) z).2.1 1 2 = nI A.hd := fun _ => RM_hd h3
    have g3 : ∀ z, (Mh (upd M.1 0 0, M.2) z).2.1 1 3 = nI A.sp := fun _ => RM_sp h3
    have g4 : ∀ z, (Mh (upd M.1 0 0, M.2) z).2.1 1 4 = nI A.go := fun _ => RM_go h3
    have g5 : ∀ z, (Mh (upd M.1 0 0, M.2) z).2.1 1 5 = oI (A.P.map Prod.fst) := fun _ => RM_p1 h3
    have g6 : ∀ z, (Mh (upd M.1 0 0, M.2) z).2.1 1 6 = oI (A.P.map Prod.snd) := fun _ => RM_p2 h3
    have c0 : ∀ z, f_X3_cells (-1) (Mh (upd M.1 0 0, M.2) z) = some (nI (cnt A none)) := fun z => m_cnt (M := Mh (upd M.1 0 0, M.2) z) (o := none) h1 h3 (fun r e => by cases e)
    have c1 : ∀ z, f_X3_correctedCells (Mh (upd M.1 0 0, M.2) z) = some (nI (cp (cor A) 0 32)) := fun z => m_cor (M := Mh (upd M.1 0 0, M.2) z) h1 h3
    have c2 : ∀ z, f_X3_writable (Mh (upd M.1 0 0, M.2) z) = some (nI (cp (wr A) 0 32)) := fun z => m_wrc (M := Mh (upd M.1 0 0, M.2) z) h1 h3
    have c3 : ∀ z, f_X3_loser (Mh (upd M.1 0 0, M.2) z) = some (oI (lsr A 0 32)) := fun z => m_lsr (M := Mh (upd M.1 0 0, M.2) z) h1 h3
    have gd' : ∀ (k : Nat) (X : Option (Int64 × MO)), k < 1085 → gd (nI k) 1085 X = X := fun k X hk => gd_nI hk (by decide)
    rw [show gd (0 : Int32) = @gd (Int64 × MO) (nI 0) from rfl, show gd (1 : Int32) = @gd (Int64 × MO) (nI 1) from rfl, show gd (2 : Int32) = @gd (Int64 × MO) (nI 2) from rfl, gd' 0 _ (by omega), show Int32.toNatClampNeg 0 = 0 from rfl, g0, mix_eq, bd_some, gd' 1 _ (by omega), show Int32.toNatClampNeg 1 = 1 from rfl, g1, mix_eq, bd_some, gd' 2 _ (by omega), show Int32.toNatClampNeg 2 = 2 from rfl, g2, mix_eq, bd_some, c0, bd_some, mix_eq, bd_some]
    rw [show gd (3 : Int32) = @gd (Int64 × MO) (nI 3) from rfl, show gd (4 : Int32) = @gd (Int64 × MO) (nI 4) from rfl, show gd (5 : Int32) = @gd (Int64 × MO) (nI 5) from rfl, show gd (6 : Int32) = @gd (Int64 × MO) (nI 6) from rfl, gd' 3 _ (by omega), show Int32.toNatClampNeg 3 = 3 from rfl, g3, mix_eq, bd_some, gd' 4 _ (by omega), show Int32.toNatClampNeg 4 = 4 from rfl, g4, mix_eq, bd_some, gd' 5 _ (by omega), show Int32.toNatClampNeg 5 = 5 from rfl, g5, mix_eq, bd_some, gd' 6 _ (by omega), show Int32.toNatClampNeg 6 = 6 from rfl, g6, mix_eq, bd_some, c1, bd_some, mix_eq, bd_some, c2, bd_some, mix_eq, bd_some, c3, bd_some, mix_eq, bd_some]
    exact m_b129 (M := (upd M.1 0 0, M.2)) h1 hs h3 A.n FU 0 _ (Nat.zero_add _) (Nat.lt_of_le_of_lt hn (by decide))
