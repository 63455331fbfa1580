/-! a cell is lost -/
def dcP (A : AT) (x r : Nat) : Option (Nat × Nat) := match A.P with
  | none => none
  | some (q, p) => if q = r ∧ bf (isO A r) x A.od < p then some (q, p - 1) else some (q, p)
def los1 (A : AT) (x r : Nat) : AT := (A.n, A.run, A.hd, A.sp, A.go, dcP A x r, A.fl, u1 A.lo r (A.lo r + 1), (fun k => if k = x then none else A.ow k), A.sn, A.ca, A.od.filter (fun k => !decide (k = x)))
def los (A : AT) (x r : Nat) : AT := if cnt (los1 A x r) (some r) = 0 then sGO (rmv (los1 A x r) r) (A.go + 1) else los1 A x r
theorem INV_go {A : AT} (h : INV A) (g : Nat) : INV (sGO A g) := h
theorem INV_los1 {A : AT} (hi : INV A) (x r : Nat) : INV (los1 A x r) := by
  refine ⟨hi.1, hi.2.1, hi.2.2.1, fun k hk q e => ?_, hi.2.2.2.2.1.filter _, fun k => ?_, fun q p e => ?_⟩
  · have e : (if k = x then none else A.ow k) = some q := e
    split at e
    · cases e
    · exact INV_ow hi hk q e
  · show k ∈ A.od.filter (fun k => !decide (k = x)) ↔ k < 32 ∧ (if k = x then none else A.ow k) ≠ none
    rw [List.mem_filter, INV_od hi k]
    by_cases e : k = x <;> simp [e]
  · have e : dcP A x r = some (q, p) := e
    show q < A.n ∧ p ≤ 32
    cases e1 : A.P with
    | none => unfold dcP at e; rw [e1] at e; cases e
    | some w =>
      obtain ⟨z, y⟩ := w
      have := INV_P hi z y e1
      unfold dcP at e
      rw [e1] at e
      have e : (if z = r ∧ bf (isO A r) x A.od < y then some (z, y - 1) else some (z, y)) = some (q, p) := e
      split at e <;> (cases e; omega)
theorem INV_los {A : AT} (hi : INV A) {x r : Nat} (hr : r < A.n) : INV (los A x r) := by
  unfold los
  split
  · exact INV_go (INV_rmv (INV_los1 hi x r) hr) _
  · exact INV_los1 hi x r
theorem RS_rmvgo {A : AT} {S : OB} {g r : Nat} (h : RS (rmv (sGO A g) r) S) : RS (sGO (rmv A r) g) S := h
theorem s_lose45 {A B : AT} {S : OB} (hi : INV A) {x r : Nat} (hx : x < 32) (hr : r < A.n) (hB : B = sP A (dcP A x r)) (h : RS B S) : ∃ S', c_X1_loseCell_45 (nI x) (nI r) S = some S' ∧ RS (los A x r) S' := by
  have hn := INV_n hi
  unfold c_X1_loseCell_45
  rw [nm_eq, pAt_nI hx (by decide)]
  have e1 : B.od = A.od := by rw [hB]
  have e2 : B.n = A.n := by rw [hB]
  have e3 : B.ow = A.ow := by rw [hB]
  have e4 : B.lo = A.lo := by rw [hB]
  have e5 : B.run = A.run := by rw [hB]
  have e6 : B.hd = A.hd := by rw [hB]
  have e7 : B.sp = A.sp := by rw [hB]
  have e8 : B.go = A.go := by rw [hB]
  have e9 : B.P = dcP A x r := by rw [hB]
  have e10 : B.fl = A.fl := by rw [hB]
  have e11 : B.sn = A.sn := by rw [hB]
  have e12 : B.ca = A.ca := by rw [hB]
  clear hB
  obtain ⟨S1, k1, k2⟩ := s_drop (RS_owner h (k := x) (o := none)) (show B.od.length ≤ 32 by rw [e1]; exact od_le hi) (show ∀ y ∈ B.od, y < 32 by rw [e1]; exact od_lt hi) (fun k hk q e => by
    have e : (if k = x then none else B.ow k) = some q := e
    rw [e3] at e
    split at e
    · cases e
    · exact owB hi hk q e)
  rw [show f_X1_dropFreeCells (S.1, up2 S.2 0 (upd (S.2 0) x (-1))) = some S1 from k1, bd_some, nm_eq, vAt_nI (by omega) (by decide), pAt_nI (by omega) (by decide), RS_lo k2 (show r < B.n by omega)]
  have k3 := RS_loss k2 (k := r) (v := A.lo r + 1)
  have k4 : RS (los1 A x r) (S1.1, up2 S1.2 6 (upd (S1.2 6) r (A.lo r + 1))) := by
    refine RS_ext k3 e2.symm e5.symm e6.symm e7.symm e8.symm e9.symm (fun k _ => ?_) (fun k _ => ?_) (fun k _ => ?_) (fun k _ => ?_) (fun k _ => ?_) ?_
    · show A.fl k = B.fl k
      rw [e10]
    · show u1 A.lo r (A.lo r + 1) k = u1 B.lo r (A.lo r + 1) k
      rw [e4]
    · show (if k = x then none else A.ow k) = if k = x then none else B.ow k
      rw [e3]
    · show A.sn k = B.sn k
      rw [e11]
    · show A.ca k = B.ca k
      rw [e12]
    · show A.od.filter (fun k => !decide (k = x)) = B.od.filter (has (sOW B (u1 B.ow x none)))
      rw [e1]
      refine List.filter_congr (fun k hk => ?_)
      have := ((INV_od hi k).mp hk).2
      show (!decide (k = x)) = decide ((if k = x then none else B.ow k) ≠ none)
      rw [e3]
      by_cases e : k = x <;> simp [e, this]
  have e13 : (sOD (sOW B (u1 B.ow x none)) (B.od.filter (has (sOW B (u1 B.ow x none))))).lo r = A.lo r := (rfl : _ = B.lo r).trans (by rw [e4])
  rw [e13]
  have hi1 := INV_los1 hi x r
  rw [nm_eq, show nI r = oI (some r) from rfl, s_cnt hi1 k4 (fun q e => by cases e; omega), bd_some]
  have hc : cnt (los1 A x r) (some r) < 2 ^ 31 := Nat.lt_of_le_of_lt (cp_le _ _ _) (by decide)
  unfold los
  by_cases e : cnt (los1 A x r) (some r) = 0
  · rw [if_pos e, if_pos (by rw [e]; rfl)]
    have k5 := RS_gone k4 (m := A.go + 1)
    obtain ⟨S2, k6, k7⟩ := s_rmv (INV_go hi1 (A.go + 1)) k5 hr (fun k hk q => by
      have : cnt (los1 A x r) (some r) = 0 := e
      have h0 : ∀ d j, (∃ z, j ≤ z ∧ z < j + d ∧ isO (los1 A x r) r z = true) → cp (isO (los1 A x r) r) j d ≠ 0 := by
        intro d
        induction d with
        | zero => rintro j ⟨z, h1, h2, _⟩; omega
        | succ d ih =>
          rintro j ⟨z, h1, h2, h3⟩
          show (if isO (los1 A x r) r j then 1 else 0) + cp (isO (los1 A x r) r) (j + 1) d ≠ 0
          by_cases e9 : j = z
          · rw [e9, h3]; simp
          · have := ih (j + 1) ⟨z, by omega, by omega, h3⟩
            omega
      exact h0 32 0 ⟨k, by omega, by omega, decide_eq_true q⟩ e)
    refine ⟨S2, ?_, RS_rmvgo k7⟩
    rw [RS_go k4, show nI (los1 A x r).go + 1 = nI (A.go + 1) from nI_1 A.go, show oI (some r) = nI r from rfl, k6]
    rfl
  · rw [if_neg e, if_neg (by rw [show (0 : Int32) = nI 0 from rfl, nI_eq hc (by decide)]; exact e)]
    exact ⟨_, rfl, k4⟩
theorem s_lose {A : AT} {S : OB} (hi : INV A) (h : RS A S) {x : Nat} (hx : x < 32) : ∃ S', f_X1_loseCell (nI x) S = some S' ∧ RS (match A.ow x with | none => A | some r => los A x r) S' := by
  have hn := INV_n hi
  unfold f_X1_loseCell
  rw [nm_eq, vAt_nI hx (by decide), RS_ow h hx]
  cases e : A.ow x with
  | none => 
    rw [if_pos (show oI none = -1 from rfl)]
    exact ⟨S, rfl, h⟩
  | some r =>
    have hr := INV_ow hi hx r e
    have hp1 := RS_p1 h
    have hp2 := RS_p2 h
    have hb := Nat.le_trans (bf_le (isO A r) x A.od) (od_le hi)
    rw [oI_some, if_neg (fun q => nI_m1 (n := r) (by omega) q)]
    cases e1 : A.P with
    | none =>
      rw [e1] at hp1
      have hp1 : S.1 12 = -1 := hp1
      rw [hp1, if_neg (fun q => nI_m1 (n := r) (by omega) q.symm)]
      exact s_lose45 hi hx hr (B := A) (by
        have : dcP A x r = A.P := by unfold dcP; rw [e1]
        rw [this]) h
    | some w =>
      obtain ⟨q, p⟩ := w
      have hq := INV_P hi q p e1
      rw [e1] at hp1 hp2
      have hp1 : S.1 12 = nI q := hp1
      have hp2 : S.1 13 = nI p := hp2
      rw [hp1]
      by_cases e2 : q = r
      · rw [if_pos (by rw [e2]), s_bf hi h e hx, bd_some, hp2]
        by_cases e3 : p ≤ bf (isO A r) x A.od
        · rw [if_pos (by rw [nI_leI (by omega) (by omega)]; exact e3)]
          exact s_lose45 hi hx hr (B := A) (by
            have : dcP A x r = A.P := by unfold dcP; rw [e1]; exact if_neg (fun z => by omega)
            rw [this]) h
        · rw [if_neg (by rw [nI_leI (by omega) (by omega)]; exact e3), nm_eq]
          refine s_lose45 hi hx hr rfl ?_
          have : dcP A x r = some (q, p - 1) := by unfold dcP; rw [e1]; exact if_pos ⟨e2, by omega⟩
          rw [this, show nI p - 1 = nI (p - 1) from sub_nI (show 1 ≤ p by omega)]
          have h2 := RS_player h (P := some (q, p - 1)) (a := S.1 12) (b := nI (p - 1)) hp1 rfl
          have e9 : upd (upd S.1 12 (S.1 12)) 13 (nI (p - 1)) = upd S.1 13 (nI (p - 1)) := by
            funext i
            show (if i = 13 then _ else if i = 12 then _ else S.1 i) = if i = 13 then _ else S.1 i
            by_cases e3 : i = 12
            · subst e3; rfl
            · rw [if_neg e3]
          rw [e9] at h2
          exact h2
      · rw [if_neg (by rw [nI_eq (by omega) (by omega)]; exact e2)]
        exact s_lose45 hi hx hr (B := A) (by
          have : dcP A x r = A.P := by unfold dcP; rw [e1]; exact if_neg (fun z => e2 z.1)
          rw [this]) h
