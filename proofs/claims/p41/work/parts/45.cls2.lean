theorem RS_odset {A : AT} {S : OB} (h : RS A S) {w x : Nat} (hw : w < A.od.length) : RS (sOD A (A.od.set w x)) (S.1, up2 S.2 3 (upd (S.2 3) w (nI x))) := by
  obtain ⟨h1, h2, h3, h4, h5, h6, h7, h8, h9, h10, h11, h12, h13, h14⟩ := h
  refine ⟨h1.trans (congrArg nI (List.length_set ..).symm), h2, h3, h4, h5, h6, h7, h8, h9, h10, h11, fun i hi => ?_, h13, h14⟩
  have hi' : i < A.od.length := by have : i < (A.od.set w x).length := hi; rwa [List.length_set] at this
  show (if i = w then nI x else S.2 3 i) = nI ((A.od.set w x)[i]'hi)
  rw [List.getElem_set]
  by_cases e : i = w
  · rw [if_pos e, if_pos e.symm]
  · rw [if_neg e, if_neg (fun q => e q.symm)]; exact h12 i hi'
theorem RS_odtake {A : AT} {S : OB} (h : RS A S) {w : Nat} (hw : w ≤ A.od.length) : RS (sOD A (A.od.take w)) (upd S.1 4 (nI w), S.2) := by
  obtain ⟨h1, h2, h3, h4, h5, h6, h7, h8, h9, h10, h11, h12, h13, h14⟩ := h
  have hl : (A.od.take w).length = w := by rw [List.length_take]; omega
  refine ⟨congrArg nI hl.symm, h2, h3, h4, h5, h6, h7, h8, h9, h10, h11, fun i hi => ?_, h13, h14⟩
  have hi2 : i < (A.od.take w).length := hi
  show S.2 3 i = nI ((A.od.take w)[i]'hi2)
  rw [List.getElem_take]
  exact h12 i (by omega)
theorem RS_odadd {A : AT} {S : OB} (h : RS A S) {x : Nat} : RS (sOD A (A.od ++ [x])) (upd S.1 4 (nI (A.od.length + 1)), up2 S.2 3 (upd (S.2 3) A.od.length (nI x))) := by
  obtain ⟨h1, h2, h3, h4, h5, h6, h7, h8, h9, h10, h11, h12, h13, h14⟩ := h
  refine ⟨congrArg nI (by show _ = (A.od ++ [x]).length; simp), h2, h3, h4, h5, h6, h7, h8, h9, h10, h11, fun i hi => ?_, h13, h14⟩
  have hi2 : i < (A.od ++ [x]).length := hi
  show (if i = A.od.length then nI x else S.2 3 i) = nI ((A.od ++ [x])[i]'hi2)
  by_cases e : i = A.od.length
  · rw [if_pos e]; subst e; simp
  · have : i < A.od.length := by rw [List.length_append, List.length_singleton] at hi2; omega
    rw [if_neg e, List.getElem_append_left this]; exact h12 i this
def has (A : AT) (k : Nat) : Bool := decide (A.ow k ≠ none)
theorem s_drop0 : ∀ (d f i w : Nat) (A : AT) (S : OB), RS A S → A.od.length ≤ 32 → (∀ y ∈ A.od, y < 32) → (∀ k, k < 32 → ∀ q, A.ow k = some q → q < 2 ^ 31) → i + d = A.od.length → w ≤ i → d < f → ∃ S', lpf3 b_X1_dropFreeCells_4 f (nI w) (nI i) S = some S' ∧ RS (sOD A (A.od.take w ++ (A.od.drop i).filter (has A))) S'
  | 0, f + 1, i, w, A, S, h, hl, hb, hq, hj, hw, _ => by
    show ∃ S', b_X1_dropFreeCells_4 _ _ _ _ = _ ∧ _
    unfold b_X1_dropFreeCells_4
    simp (disch := omega) only [nm_eq, lit, nI_leI, RS_us h]
    rw [if_pos (by omega)]
    refine ⟨_, rfl, ?_⟩
    rw [show A.od.drop i = [] from List.drop_of_length_le (by omega), List.filter_nil, List.append_nil]
    exact RS_odtake h (by omega)
  | d + 1, f + 1, i, w, A, S, h, hl, hb, hq, hj, hw, hf => by
    have hlt : i < A.od.length := by omega
    have hk := hb _ (List.getElem_mem hlt)
    show ∃ S', b_X1_dropFreeCells_4 (lpf3 b_X1_dropFreeCells_4 f) _ _ _ = _ ∧ _
    have ih := s_drop0 d f (i + 1)
    generalize lpf3 b_X1_dropFreeCells_4 f = K at ih ⊢
    unfold b_X1_dropFreeCells_4
    simp (disch := omega) only [nm_eq, lit, neg1, nI_leI, RS_us h, vAt_nI, pAt_nI, RS_od h hlt, RS_ow h hk, oI_eq (hq _ hk) (fun r (e : none = some r) => by cases e), nI_add]
    rw [if_neg (by omega), List.drop_eq_getElem_cons hlt]
    by_cases e : A.ow A.od[i] = none
    · rw [if_pos e, List.filter_cons_of_neg (by simp [has, e])]
      exact ih w A S h hl hb hq (by omega) (by omega) (by omega)
    · rw [if_neg e, List.filter_cons_of_pos (by simp [has, e])]
      have hl2 : (A.od.set w A.od[i]).length = A.od.length := List.length_set ..
      obtain ⟨S', k1, k2⟩ := ih (w + 1) _ _ (RS_odset h (w := w) (x := A.od[i]) (by omega)) (by show (A.od.set w A.od[i]).length ≤ 32; omega) (fun y hy => by
        rcases List.mem_or_eq_of_mem_set hy with q | q
        · exact hb y q
        · rw [q]; exact hk) hq (by show i + 1 + d = (A.od.set w A.od[i]).length; omega) (by omega) (by omega)
      refine ⟨S', k1, RS_ext k2 rfl rfl rfl rfl rfl rfl (fun _ _ => rfl) (fun _ _ => rfl) (fun _ _ => rfl) (fun _ _ => rfl) (fun _ _ => rfl) ?_⟩
      show A.od.take w ++ A.od[i] :: (A.od.drop (i + 1)).filter (has A) = (A.od.set w A.od[i]).take (w + 1) ++ ((A.od.set w A.od[i]).drop (i + 1)).filter (has A)
      rw [List.drop_set_of_lt (by omega), List.take_succ_eq_append_getElem (by omega), List.take_set_of_le (Nat.le_refl w), List.getElem_set_self, List.append_assoc]
      rfl
theorem s_drop {A : AT} {S : OB} (h : RS A S) (hl : A.od.length ≤ 32) (hb : ∀ y ∈ A.od, y < 32) (hq : ∀ k, k < 32 → ∀ q, A.ow k = some q → q < 2 ^ 31) : ∃ S', f_X1_dropFreeCells S = some S' ∧ RS (sOD A (A.od.filter (has A))) S' := by
  obtain ⟨S', k1, k2⟩ := s_drop0 A.od.length FU 0 0 A S h hl hb hq (by omega) (by omega) (Nat.lt_of_le_of_lt hl (by decide))
  exact ⟨S', k1, k2⟩
/-- the cells with q become free -/
def frq (A : AT) (q : Nat → Bool) : AT := sOD (sOW A (fun k => if q k then none else A.ow k)) (A.od.filter (fun k => !q k))
theorem INV_frq {A : AT} (hi : INV A) (q : Nat → Bool) : INV (frq A q) := by
  refine ⟨hi.1, hi.2.1, hi.2.2.1, fun k hk r e => ?_, hi.2.2.2.2.1.filter _, fun k => ?_, hi.2.2.2.2.2.2⟩
  · have e : (if q k then none else A.ow k) = some r := e
    split at e
    · cases e
    · exact INV_ow hi hk r e
  · show k ∈ A.od.filter (fun k => !q k) ↔ k < 32 ∧ (if q k then none else A.ow k) ≠ none
    rw [List.mem_filter, INV_od hi k]
    cases q k <;> simp
theorem s_frq {A : AT} {S : OB} (hi : INV A) {q : Nat → Bool} (h : RS (sOW A (fun k => if q k then none else A.ow k)) S) : ∃ S', f_X1_dropFreeCells S = some S' ∧ RS (frq A q) S' := by
  obtain ⟨S', k1, k2⟩ := s_drop h (show A.od.length ≤ 32 from od_le hi) (show ∀ y ∈ A.od, y < 32 from od_lt hi) (fun k hk r e => by
    have e : (if q k then none else A.ow k) = some r := e
    split at e
    · cases e
    · exact owB hi hk r e)
  refine ⟨S', k1, RS_ext k2 rfl rfl rfl rfl rfl rfl (fun _ _ => rfl) (fun _ _ => rfl) (fun _ _ => rfl) (fun _ _ => rfl) (fun _ _ => rfl) ?_⟩
  show A.od.filter (fun k => !q k) = A.od.filter (has (sOW A (fun k => if q k then none else A.ow k)))
  refine List.filter_congr (fun k hk => ?_)
  have := ((INV_od hi k).mp hk).2
  show (!q k) = decide ((if q k then none else A.ow k) ≠ none)
  cases q k <;> simp [this]
theorem INV_rmv {A : AT} (hi : INV A) {r : Nat} (hr : r < A.n) : INV (rmv A r) := by
  have hn := INV_n hi
  refine ⟨by show A.n - 1 ≤ 10; omega, fun e => ?_, hi.2.2.1, fun k hk q e => ?_, hi.2.2.2.2.1.filter _, fun k => ?_, fun q p e => ?_⟩
  · have e : (A.run && decide (r ≠ A.n - 1)) = true := e
    rw [Bool.and_eq_true, decide_eq_true_eq] at e
    show 0 < A.n - 1
    omega
  · have e : shO r (A.ow k) = some q := e
    show q < A.n - 1
    cases e1 : A.ow k with
    | none => rw [e1] at e; cases e
    | some z =>
      have := INV_ow hi hk z e1
      rw [e1] at e
      have e : (if z = r then none else if z ≤ r then some z else some (z - 1)) = some q := e
      split at e
      · cases e
      · split at e <;> (cases e; omega)
  · show k ∈ A.od.filter (fun k => !isO A r k) ↔ k < 32 ∧ shO r (A.ow k) ≠ none
    rw [List.mem_filter, INV_od hi k]
    unfold isO
    cases e1 : A.ow k with
    | none => simp [shO]
    | some z =>
      by_cases e2 : z = r
      · simp [shO, e2]
      · simp only [shO, if_neg e2]
        by_cases e3 : z ≤ r <;> simp [e2, e3]
  · have e : shP r A.P = some (q, p) := e
    show q < A.n - 1 ∧ p ≤ 32
    cases e1 : A.P with
    | none => rw [e1] at e; cases e
    | some w =>
      obtain ⟨z, y⟩ := w
      have := INV_P hi z y e1
      rw [e1] at e
      have e : (if z = r then none else if z ≤ r then some (z, y) else some (z - 1, y)) = some (q, p) := e
      split at e
      · cases e
      · split at e <;> (cases e; omega)
/-- freeing a recording's cells before it leaves makes no difference -/
theorem RS_rmvf {A : AT} {S : OB} {r : Nat} (h : RS (rmv (frq A (isO A r)) r) S) : RS (rmv A r) S := by
  refine RS_ext h rfl rfl rfl rfl rfl rfl (fun _ _ => rfl) (fun _ _ => rfl) (fun k _ => ?_) (fun _ _ => rfl) (fun _ _ => rfl) ?_
  · show shO r (A.ow k) = shO r (if isO A r k then none else A.ow k)
    unfold isO
    by_cases e : A.ow k = some r
    · simp [e, shO]
    · simp [e]
  · show A.od.filter (fun k => !isO A r k) = (A.od.filter (fun k => !isO A r k)).filter (fun k => !isO (frq A (isO A r)) r k)
    rw [List.filter_filter]
    refine List.filter_congr (fun k _ => ?_)
    show (!isO A r k) = (!decide ((if isO A r k then none else A.ow k) = some r) && !isO A r k)
    unfold isO
    by_cases e : A.ow k = some r <;> simp [e]
theorem s_ers0 {r : Nat} : ∀ (d f c j : Nat) (A : AT) (S : OB), RS A S → (∀ k, k < 32 → ∀ q, A.ow k = some q → q < 2 ^ 31) → r < 2 ^ 31 → j + d = 32 → d < f → ∃ S', lpf4 b_X1_eraseRecording_4 f (nI r) (nI c) (nI j) S = bd (f_X1_dropFreeCells S') (fun S2 => bd (f_X1_removeRecording (nI r) S2) (fun S3 => some (nI (c + cp (isO A r) j d), S3))) ∧ RS (sOW A (fun k => if decide (j ≤ k) && isO A r k then none else A.ow k)) S'
  | 0, f + 1, c, j, A, S, h, hb, hr, hj, _ => by
    obtain rfl : j = 32 := hj
    show ∃ S', b_X1_eraseRecording_4 _ _ _ _ _ = _ ∧ _
    unfold b_X1_eraseRecording_4
    rw [if_pos (by decide)]
    refine ⟨S, rfl, RS_ext h rfl rfl rfl rfl rfl rfl (fun _ _ => rfl) (fun _ _ => rfl) (fun k hk => ?_) (fun _ _ => rfl) (fun _ _ => rfl) rfl⟩
    show (if decide (32 ≤ k) && isO A r k then none else A.ow k) = A.ow k
    rw [decide_eq_false (by omega)]; rfl
  | d + 1, f + 1, c, j, A, S, h, hb, hr, hj, hf => by
    have hk : j < 32 := by omega
    show ∃ S', b_X1_eraseRecording_4 (lpf4 b_X1_eraseRecording_4 f) _ _ _ _ = _ ∧ _
    have ih := @s_ers0 r d f
    generalize lpf4 b_X1_eraseRecording_4 f = K at ih ⊢
    unfold b_X1_eraseRecording_4
    simp (disch := omega) only [nm_eq, lit, neg1, nI_leI, vAt_nI, pAt_nI, RS_ow h hk, oI_nI (hb j hk) hr, nI_add]
    rw [if_neg (by omega)]
    by_cases e : A.ow j = some r
    · rw [if_pos e]
      obtain ⟨S', k1, k2⟩ := ih (c + 1) (j + 1) _ _ (RS_owner h (k := j) (o := none)) (fun k hk q e1 => by
        have e1 : (if k = j then none else A.ow k) = some q := e1
        split at e1
        · cases e1
        · exact hb k hk q e1) hr (by omega) (by omega)
      refine ⟨S', ?_, RS_ext k2 rfl rfl rfl rfl rfl rfl (fun _ _ => rfl) (fun _ _ => rfl) (fun k hk => ?_) (fun _ _ => rfl) (fun _ _ => rfl) rfl⟩
      · rw [k1]
        have e1 : c + 1 + cp (isO (sOW A (u1 A.ow j none)) r) (j + 1) d = c + cp (isO A r) j (d + 1) := by
          show _ = c + ((if isO A r j then 1 else 0) + cp (isO A r) (j + 1) d)
          rw [cp_congr (q := isO A r) d (j + 1) (fun k h1 h2 => by
            show decide ((if k = j then none else A.ow k) = some r) = _
            rw [if_neg (by omega)]; rfl), show isO A r j = true from decide_eq_true e, if_pos rfl]
          omega
        rw [e1]
      · show (if decide (j ≤ k) && decide (A.ow k = some r) then none else A.ow k) = if decide (j + 1 ≤ k) && decide ((if k = j then none else A.ow k) = some r) then none else (if k = j then none else A.ow k)
        by_cases e2 : k = j
        · subst e2; simp [e]
        · rw [if_neg e2]
          by_cases e3 : j ≤ k
          · rw [decide_eq_true e3, decide_eq_true (show j + 1 ≤ k by omega)]
          · rw [decide_eq_false e3, decide_eq_false (show ¬ j + 1 ≤ k by omega)]
    · rw [if_neg e]
      obtain ⟨S', k1, k2⟩ := ih c (j + 1) A S h hb hr (by omega) (by omega)
      refine ⟨S', ?_, RS_ext k2 rfl rfl rfl rfl rfl rfl (fun _ _ => rfl) (fun _ _ => rfl) (fun k hk => ?_) (fun _ _ => rfl) (fun _ _ => rfl) rfl⟩
      · rw [k1]
        have e1 : cp (isO A r) j (d + 1) = cp (isO A r) (j + 1) d := by
          show (if isO A r j then 1 else 0) + cp (isO A r) (j + 1) d = _
          rw [show isO A r j = false from decide_eq_false e]; simp
        rw [e1]
      · show (if decide (j ≤ k) && isO A r k then none else A.ow k) = if decide (j + 1 ≤ k) && isO A r k then none else A.ow k
        by_cases e2 : k = j
        · subst e2; rw [show isO A r k = false from decide_eq_false e]; simp
        · by_cases e3 : j ≤ k
          · rw [decide_eq_true e3, decide_eq_true (show j + 1 ≤ k by omega)]
          · rw [decide_eq_false e3, decide_eq_false (show ¬ j + 1 ≤ k by omega)]
theorem s_ers {A : AT} {S : OB} (hi : INV A) (h : RS A S) {r : Nat} (hr : r < A.n) : ∃ S', f_X1_eraseRecording (nI r) S = some (nI (cnt A (some r)), S') ∧ RS (rmv A r) S' := by
  have hn := INV_n hi
  obtain ⟨S1, k1, k2⟩ := s_ers0 (r := r) 32 FU 0 0 A S h (fun k hk => owB hi hk) (by omega) rfl (by decide)
  obtain ⟨S2, k3, k4⟩ := s_frq (q := isO A r) hi (RS_ext k2 rfl rfl rfl rfl rfl rfl (fun _ _ => rfl) (fun _ _ => rfl) (fun k hk => by
    show (if isO A r k then none else A.ow k) = if decide (0 ≤ k) && isO A r k then none else A.ow k
    rw [decide_eq_true (Nat.zero_le k), Bool.true_and]) (fun _ _ => rfl) (fun _ _ => rfl) rfl)
  obtain ⟨S3, k5, k6⟩ := s_rmv (INV_frq hi (isO A r)) k4 hr (fun k hk e => by
    have e : (if decide (A.ow k = some r) then none else A.ow k) = some r := e
    by_cases e1 : A.ow k = some r
    · rw [decide_eq_true e1] at e; cases e
    · rw [decide_eq_false e1] at e; exact e1 e)
  refine ⟨S3, ?_, RS_rmvf k6⟩
  refine k1.trans ?_
  rw [k3, bd_some, k5, bd_some, Nat.zero_add]
  rfl
