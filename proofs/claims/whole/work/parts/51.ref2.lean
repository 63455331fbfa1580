theorem lpf1_s {A0 β : Type} (b : (A0 → Option β) → A0 → Option β) (n : Nat) (x0 : A0) : lpf1 b (n + 1) x0 = b (lpf1 b n) x0 := rfl
theorem lpf2_s {A0 A1 β : Type} (b : (A0 → A1 → Option β) → A0 → A1 → Option β) (n : Nat) (x0 : A0) (x1 : A1) : lpf2 b (n + 1) x0 x1 = b (lpf2 b n) x0 x1 := rfl
theorem lpf3_s {A0 A1 A2 β : Type} (b : (A0 → A1 → A2 → Option β) → A0 → A1 → A2 → Option β) (n : Nat) (x0 : A0) (x1 : A1) (x2 : A2) : lpf3 b (n + 1) x0 x1 x2 = b (lpf3 b n) x0 x1 x2 := rfl
theorem lpf4_s {A0 A1 A2 A3 β : Type} (b : (A0 → A1 → A2 → A3 → Option β) → A0 → A1 → A2 → A3 → Option β) (n : Nat) (x0 : A0) (x1 : A1) (x2 : A2) (x3 : A3) : lpf4 b (n + 1) x0 x1 x2 x3 = b (lpf4 b n) x0 x1 x2 x3 := rfl
theorem lpf7_s {A0 A1 A2 A3 A4 A5 A6 β : Type} (b : (A0 → A1 → A2 → A3 → A4 → A5 → A6 → Option β) → A0 → A1 → A2 → A3 → A4 → A5 → A6 → Option β) (n : Nat) (x0 : A0) (x1 : A1) (x2 : A2) (x3 : A3) (x4 : A4) (x5 : A5) (x6 : A6) : lpf7 b (n + 1) x0 x1 x2 x3 x4 x5 x6 = b (lpf7 b n) x0 x1 x2 x3 x4 x5 x6 := rfl
def kn3 : Int32 → Int32 → MO → Option MO := fun _ _ _ => none
theorem lv66_end {K : Int32 → Int32 → MO → Option MO} {x : Int32} {m : Nat} (hm : m < 10) {M : MO} (hz : (M.2.1 1) 0 = nI m) : b_X3_leaves_66 K x (nI m) M = b_X3_leaves_66 kn3 x (nI m) M := by
  unfold b_X3_leaves_66
  have le : nI m ≤ nI m := Int32.le_refl _
  simp (disch := omega) only [nm_eq, lit, gd_nI, nI_clamp]
  rw [hz, if_pos le, if_pos le]
theorem lv66_step {K : Int32 → Int32 → MO → Option MO} {x : Int32} {m j : Nat} (hm : m < 10) (hj : j < m) {M : MO} (hz : (M.2.1 1) 0 = nI m) {u v : Int32} (hu : (M.2.1 1) (7 + j + 1) = u) (hv : upd (M.2.1 1) (7 + j) u (17 + j + 1) = v) : b_X3_leaves_66 K x (nI j) M = K x (nI (j + 1)) (M.1, up2 (up2 M.2.1 1 (upd (M.2.1 1) (7 + j) u)) 1 (upd (upd (M.2.1 1) (7 + j) u) (17 + j) v), M.2.2) := by
  unfold b_X3_leaves_66
  simp (disch := omega) only [nm_eq, lit, gd_nI, nI_clamp, nI_add]
  rw [hz, if_neg (by rw [nI_leI (by omega) (by omega)]; omega), hu, up2_s, hv]
theorem m_lv66 {r m : Nat} (hr : r < 10) (hm : m < 10) {a b c : Int32} : ∀ (d f j : Nat) (A : AT) (M : MO), RQ A (nI m) a b c (M.2.1 1) → A.n = m + 1 → j + d = m → d < f → ∃ M', lpf3 b_X3_leaves_66 f (nI r) (nI j) M = b_X3_leaves_66 kn3 (nI r) (nI m) M' ∧ RQ (sN (sFL A (shF j A.fl) (shF j A.lo)) m A.run) (nI m) a b c (M'.2.1 1) ∧ FR M M'
  | 0, f + 1, j, A, M, h, hn, hj, _ => by
    obtain rfl : j = m := hj
    rw [lpf3_s]
    have hz : (M.2.1 1) 0 = nI j := h.1
    refine ⟨M, lv66_end hm hz, RQ_ext h (by show j ≤ A.n; omega) rfl rfl rfl (fun k hk => if_pos hk) (fun k hk => if_pos hk) (fun _ _ => rfl) (fun _ _ => rfl) (fun _ _ => rfl) ⟨fun _ => true, (List.filter_eq_self.mpr (fun _ _ => rfl)).symm⟩, FR_r M⟩
  | d + 1, f + 1, j, A, M, h, hn, hj, hf => by
    have ih := m_lv66 hr hm (a := a) (b := b) (c := c) d f (j + 1)
    rw [lpf3_s]
    generalize lpf3 b_X3_leaves_66 f = K at ih ⊢
    have hz : (M.2.1 1) 0 = nI m := h.1
    have hf1 : (M.2.1 1) (7 + j + 1) = bZ (A.fl (j + 1)) := by rw [Nat.add_assoc]; exact h.2.2.2.2.2.2.2.1 (j + 1) (by omega)
    have h1 := RQ_fl h (by omega) (k := j) (by omega) (v := A.fl (j + 1))
    have hl1 : upd (M.2.1 1) (7 + j) (bZ (A.fl (j + 1))) (17 + j + 1) = A.lo (j + 1) := by rw [Nat.add_assoc]; exact h1.2.2.2.2.2.2.2.2.1 (j + 1) (by show j + 1 < A.n; omega)
    have h2 := RQ_lo h1 (by show A.n ≤ 10; omega) (k := j) (by omega) (v := A.lo (j + 1))
    obtain ⟨M', k1, k2, k3⟩ := ih (sFL A (u1 A.fl j (A.fl (j + 1))) (u1 A.lo j (A.lo (j + 1)))) (M.1, up2 (up2 M.2.1 1 (upd (M.2.1 1) (7 + j) (bZ (A.fl (j + 1))))) 1 (upd (upd (M.2.1 1) (7 + j) (bZ (A.fl (j + 1)))) (17 + j) (A.lo (j + 1))), M.2.2) h2 hn (by omega) (by omega)
    refine ⟨M', ?_, RQ_ext k2 (Nat.le_refl _) rfl rfl rfl (fun k hk => ?_) (fun k hk => ?_) (fun _ _ => rfl) (fun _ _ => rfl) (fun _ _ => rfl) ⟨fun _ => true, (List.filter_eq_self.mpr (fun _ _ => rfl)).symm⟩, FR_t (FR_t (FR_u (i := 7 + j) (v := bZ (A.fl (j + 1))) (by omega)) (FR_u (M := (M.1, up2 M.2.1 1 (upd (M.2.1 1) (7 + j) (bZ (A.fl (j + 1)))), M.2.2)) (i := 17 + j) (v := A.lo (j + 1)) (by omega))) k3⟩
    · rw [← k1]
      exact lv66_step hm (by omega) hz hf1 hl1
    · show shF j A.fl k = shF (j + 1) (u1 A.fl j (A.fl (j + 1))) k
      unfold shF u1
      by_cases e1 : k < j
      · rw [if_pos e1, if_pos (by omega), if_neg (by omega)]
      · rw [if_neg e1]
        by_cases e2 : k = j
        · rw [if_pos (by omega), if_pos e2, e2]
        · rw [if_neg (by omega), if_neg (by omega)]
    · show shF j A.lo k = shF (j + 1) (u1 A.lo j (A.lo (j + 1))) k
      unfold shF u1
      by_cases e1 : k < j
      · rw [if_pos e1, if_pos (by omega), if_neg (by omega)]
      · rw [if_neg e1]
        by_cases e2 : k = j
        · rw [if_pos (by omega), if_pos e2, e2]
        · rw [if_neg (by omega), if_neg (by omega)]
theorem up2_2 {α : Type} (f : Nat → Nat → α) (j : Nat) (g g' : Nat → α) : up2 (up2 f j g) j g' = up2 f j g' := by
  funext i
  unfold up2
  split <;> rfl
theorem m_lv243 {A : AT} {z a b c v : Int32} {M : MO} (h : RQ A z a b c (M.2.1 1)) : ∃ M', c_X3_leaves_243 v 5 M = some M' ∧ RQ A z a v c (M'.2.1 1) ∧ FR M M' := by
  unfold c_X3_leaves_243
  simp (disch := omega) only [nm_eq, lit, gd_nI, nI_clamp]
  exact ⟨_, rfl, RQ_5 h, FR_u (by omega)⟩
theorem m_lv196 {A : AT} {z a c v : Int32} {o : Option Nat} {r : Nat} (hr : r < 10) (ho : ∀ q, o = some q → q < 2 ^ 31) {M : MO} (h : RQ A z a (oI o) c (M.2.1 1)) : ∃ M', c_X3_leaves_196 (nI r) v 6 M = some M' ∧ RQ A z a (oI (shO r o)) v (M'.2.1 1) ∧ FR M M' := by
  unfold c_X3_leaves_196
  have h6 := RQ_6 h (v := v)
  have h5 : upd (M.2.1 1) 6 v 5 = oI o := h6.2.2.2.2.2.1
  simp (disch := omega) only [nm_eq, lit, gd_nI, nI_clamp, up2_s]
  rw [h5]
  have fin : ∀ w, w = oI (shO r o) → ∃ M', c_X3_leaves_243 w (nI 5) (M.1, up2 M.2.1 1 (upd (M.2.1 1) 6 v), M.2.2) = some M' ∧ RQ A z a (oI (shO r o)) v (M'.2.1 1) ∧ FR M M' := by
    rintro w rfl
    obtain ⟨M', k1, k2, k3⟩ := m_lv243 (M := (M.1, up2 M.2.1 1 (upd (M.2.1 1) 6 v), M.2.2)) (v := oI (shO r o)) h6
    exact ⟨M', k1, k2, FR_t (FR_u (by omega)) k3⟩
  cases e : o with
  | none =>
    rw [e] at fin
    rw [oI_none, if_neg (fun q => nI_m1 (n := r) (by omega) q.symm), if_pos (Int32.le_of_lt (Int32.lt_of_lt_of_le m1_lt0 (nI_pos' (by omega))))]
    exact fin _ rfl
  | some q =>
    have hq := ho q e
    rw [e] at fin
    rw [oI_some]
    by_cases e1 : q = r
    · rw [if_pos (by rw [e1])]
      exact fin _ (by show (-1 : Int32) = oI (if q = r then none else if q ≤ r then some q else some (q - 1)); rw [if_pos e1]; rfl)
    · rw [if_neg (by rw [nI_eq (by omega) (by omega)]; exact e1)]
      by_cases e2 : q ≤ r
      · rw [if_pos (by rw [nI_leI (by omega) (by omega)]; exact e2)]
        exact fin _ (by show nI q = oI (if q = r then none else if q ≤ r then some q else some (q - 1)); rw [if_neg e1, if_pos e2]; rfl)
      · rw [if_neg (by rw [nI_leI (by omega) (by omega)]; exact e2)]
        exact fin _ (by show nI q - nI 1 = oI (if q = r then none else if q ≤ r then some q else some (q - 1)); rw [if_neg e1, if_neg e2, sub_nI (by omega)]; rfl)
theorem m_lv168 {A : AT} {z a v : Int32} {P : Option (Nat × Nat)} {r : Nat} (hr : r < 10) (ho : ∀ q, P.map Prod.fst = some q → q < 2 ^ 31) {M : MO} (h : RQ A z a (oI (P.map Prod.fst)) (oI (P.map Prod.snd)) (M.2.1 1)) : ∃ M', c_X3_leaves_168 (nI r) v 1 M = some M' ∧ RQ A z v (oI ((shP r P).map Prod.fst)) (oI ((shP r P).map Prod.snd)) (M'.2.1 1) ∧ FR M M' := by
  unfold c_X3_leaves_168
  have h1 := RQ_1 h (v := v)
  have h5 : upd (M.2.1 1) 1 v 5 = oI (P.map Prod.fst) := h1.2.2.2.2.2.1
  have h6 : upd (M.2.1 1) 1 v 6 = oI (P.map Prod.snd) := h1.2.2.2.2.2.2.1
  simp (disch := omega) only [nm_eq, lit, gd_nI, nI_clamp, up2_s]
  rw [h5, h6]
  have ef : shO r (P.map Prod.fst) = (shP r P).map Prod.fst := by
    cases e : P with
    | none => rfl
    | some w =>
      obtain ⟨q, p⟩ := w
      show (if q = r then none else if q ≤ r then some q else some (q - 1)) = (if q = r then none else if q ≤ r then some (q, p) else some (q - 1, p)).map Prod.fst
      split
      · rfl
      · split <;> rfl
  have fin : ∀ w, w = oI ((shP r P).map Prod.snd) → ∃ M', c_X3_leaves_196 (nI r) w (nI 6) (M.1, up2 M.2.1 1 (upd (M.2.1 1) 1 v), M.2.2) = some M' ∧ RQ A z v (oI ((shP r P).map Prod.fst)) (oI ((shP r P).map Prod.snd)) (M'.2.1 1) ∧ FR M M' := by
    rintro w rfl
    obtain ⟨M', k1, k2, k3⟩ := m_lv196 (M := (M.1, up2 M.2.1 1 (upd (M.2.1 1) 1 v), M.2.2)) (v := oI ((shP r P).map Prod.snd)) hr ho h1
    rw [ef] at k2
    exact ⟨M', k1, k2, FR_t (FR_u (by omega)) k3⟩
  cases e : P with
  | none =>
    rw [e] at fin
    rw [show oI (Option.map Prod.fst (none : Option (Nat × Nat))) = -1 from rfl, if_neg (fun q => nI_m1 (n := r) (by omega) q.symm)]
    exact fin _ rfl
  | some w =>
    obtain ⟨q, p⟩ := w
    have hq := ho q (by rw [e]; rfl)
    rw [e] at fin
    rw [show oI (Option.map Prod.fst (some (q, p))) = nI q from rfl]
    by_cases e1 : q = r
    · rw [if_pos (by rw [e1])]
      exact fin _ (by show (-1 : Int32) = oI ((if q = r then none else if q ≤ r then some (q, p) else some (q - 1, p)).map Prod.snd); rw [if_pos e1]; rfl)
    · rw [if_neg (by rw [nI_eq (by omega) (by omega)]; exact e1)]
      exact fin _ (by
        show nI p = oI ((if q = r then none else if q ≤ r then some (q, p) else some (q - 1, p)).map Prod.snd)
        rw [if_neg e1]
        split <;> rfl)
theorem rn_rmv {A : AT} (hi : INV A) {r : Nat} (hr : r < A.n) : rn (rmv A r) = shO r (rn A) := by
  unfold rn
  rw [rmv_run, show (rmv A r).n = A.n - 1 from rfl]
  cases e : A.run with
  | false => rfl
  | true =>
    rw [if_pos rfl, Bool.true_and]
    show _ = if A.n - 1 = r then none else if A.n - 1 ≤ r then some (A.n - 1) else some (A.n - 1 - 1)
    by_cases e1 : r = A.n - 1
    · rw [if_neg (by simp [e1]), if_pos e1.symm]
    · rw [if_pos (by simp [e1]), if_neg (fun q => e1 q.symm), if_neg (by omega)]
theorem m_leaves {A : AT} {M : MO} (hi : INV A) (h : RM A (M.2.1 1)) {r : Nat} (hr : r < A.n) : ∃ M', f_X3_leaves (nI r) M = some M' ∧ RM (rmv A r) (M'.2.1 1) ∧ FR M M' := by
  have hn := INV_n hi
  obtain ⟨M1, k1, k2, k3⟩ := m_lv2 (r := r) (by omega) 32 FU 0 A M (RM_RQ h) hn (fun k hk => owB hi hk) rfl (by decide)
  have k4 := RQ_0 k2 (v := nI (A.n - 1))
  have hz : (M1.2.1 1) 0 = nI A.n := k2.1
  obtain ⟨M2, k5, k6, k7⟩ := m_lv66 (r := r) (m := A.n - 1) (by omega) (by omega) (A.n - 1 - r) FU r _ (M1.1, up2 M1.2.1 1 (upd (M1.2.1 1) 0 (nI (A.n - 1))), M1.2.2) k4 (by show A.n = A.n - 1 + 1; omega) (by omega) (Nat.lt_of_le_of_lt (show A.n - 1 - r ≤ 10 by omega) (by decide))
  have h0 : (M2.2.1 1) 0 = nI (A.n - 1) := k6.1
  have h1 : (M2.2.1 1) 1 = oI (rn A) := k6.2.1
  have fin : ∀ v, v = oI (shO r (rn A)) → ∃ M', c_X3_leaves_168 (nI r) v (nI 1) M2 = some M' ∧ RM (rmv A r) (M'.2.1 1) ∧ FR M M' := by
    rintro v rfl
    obtain ⟨M3, k8, k9, k10⟩ := m_lv168 (r := r) (v := oI (shO r (rn A))) (by omega) (P1B hi) k6
    refine ⟨M3, k8, RQ_RM ?_, FR_t k3 (FR_t (FR_u (by omega)) (FR_t k7 k10))⟩
    rw [rn_rmv hi hr]
    exact RQ_ext k9 (Nat.le_refl _) rfl rfl rfl (fun _ _ => rfl) (fun _ _ => rfl) (fun _ _ => rfl) (fun _ _ => rfl) (fun _ _ => rfl) ⟨fun k => !isO A r k, rfl⟩
  show ∃ M', f_X3_leaves (nI r) M = some M' ∧ _
  unfold f_X3_leaves
  rw [show (0 : Int32) = nI 0 from rfl, k1, hz, show nI A.n - 1 = nI (A.n - 1) from sub_nI (show 1 ≤ A.n by omega), k5]
  unfold b_X3_leaves_66
  simp (disch := omega) only [nm_eq, lit, gd_nI, nI_clamp]
  rw [h0, if_pos (by rw [nI_leI (by omega) (by omega)]; exact Nat.le_refl _), h1]
  cases e : rn A with
  | none =>
    rw [e] at fin
    rw [oI_none, if_neg (fun q => nI_m1 (n := r) (by omega) q.symm), if_pos (Int32.le_of_lt (Int32.lt_of_lt_of_le m1_lt0 (nI_pos' (by omega))))]
    exact fin _ rfl
  | some q =>
    have hq := rnB hi q e
    rw [e] at fin
    rw [oI_some]
    by_cases e1 : q = r
    · rw [if_pos (by rw [e1])]
      exact fin _ (by show (-1 : Int32) = oI (if q = r then none else if q ≤ r then some q else some (q - 1)); rw [if_pos e1]; rfl)
    · rw [if_neg (by rw [nI_eq (by omega) (by omega)]; exact e1)]
      by_cases e2 : q ≤ r
      · rw [if_pos (by rw [nI_leI (by omega) (by omega)]; exact e2)]
        exact fin _ (by show nI q = oI (if q = r then none else if q ≤ r then some q else some (q - 1)); rw [if_neg e1, if_pos e2]; rfl)
      · rw [if_neg (by rw [nI_leI (by omega) (by omega)]; exact e2)]
        exact fin _ (by show nI q - nI 1 = oI (if q = r then none else if q ≤ r then some q else some (q - 1)); rw [if_neg e1, if_neg e2, sub_nI (by omega)]; rfl)
