/-! saving -/
theorem cpy_k {f g : Nat → Int32} {n k : Nat} (h : k < n) : va_cpy f g 0 0 n k = f k := by
  unfold va_cpy
  rw [if_pos ⟨Nat.zero_le k, by omega⟩, Nat.zero_add, Nat.sub_zero]
theorem RS_copy {A : AT} {S T : OB} (h : RS A T) (hn : A.n ≤ 10) (hl : A.od.length ≤ 32) : ∃ S', f_X1_copyFrom S T = some S' ∧ RS A S' := by
  unfold f_X1_copyFrom
  simp only [nm_eq]
  obtain ⟨h1, h2, h3, h4, h5, h6, h7, h8, h9, h10, h11, h12, h13, h14⟩ := h
  rw [h3, zb_bZ]
  refine ⟨_, rfl, h1, h2, rfl, h4, h5, h6, h7, h8, fun k hk => ?_, fun k hk => ?_, fun k hk => ?_, fun i hk => ?_, fun k hk => ?_, fun k hk => ?_⟩
  · exact (cpy_k (f := T.2 0) hk).trans (h9 k hk)
  · exact (cpy_k (f := T.2 1) hk).trans (h10 k hk)
  · exact (cpy_k (f := T.2 2) hk).trans (h11 k hk)
  · exact (cpy_k (f := T.2 3) (by omega)).trans (h12 i hk)
  · exact (cpy_k (f := T.2 5) (by omega)).trans (h13 k hk)
  · exact (cpy_k (f := T.2 6) (by omega)).trans (h14 k hk)
theorem RM_cong {A : AT} {g g' : Nat → Int32} (h : RM A g) (hn : A.n ≤ 10) (e : ∀ k, k < 155 → g' k = g k) : RM A g' := by
  obtain ⟨h1, h2, h3, h4, h5, h6, h7, h8, h9, h10, h11, h12, tr, h13, h14⟩ := h
  exact ⟨(e 0 (by omega)).trans h1, (e 1 (by omega)).trans h2, (e 2 (by omega)).trans h3, (e 3 (by omega)).trans h4, (e 4 (by omega)).trans h5, (e 5 (by omega)).trans h6, (e 6 (by omega)).trans h7, fun k hk => (e _ (by omega)).trans (h8 k hk), fun k hk => (e _ (by omega)).trans (h9 k hk), fun k hk => (e _ (by omega)).trans (h10 k hk), fun k hk => (e _ (by omega)).trans (h11 k hk), fun k hk => (e _ (by omega)).trans (h12 k hk), tr, fun k hk q => ⟨(e _ (by omega)).trans (h13 k hk q).1, (h13 k hk q).2⟩, h14⟩
def blk (M : MO) (b : Nat) : Nat → Int32 := fun k => M.2.1 1 (155 * b + k)
theorem blk_0 (M : MO) : blk M 0 = M.2.1 1 := by funext k; unfold blk; rw [Nat.mul_zero, Nat.zero_add]
theorem mul_nI (a b : Nat) : nI a * nI b = nI (a * b) := (Int32.ofNat_mul a b).symm
theorem m_cpy0 {i j : Nat} (hi : i ≤ 6) (hj : j ≤ 6) (hij : i ≠ j) : ∀ (d f k : Nat) (M : MO), k + d = 155 → d < f → ∃ M', lpf4 b_X3_copies_2 f (nI i) (nI j) (nI k) M = some M' ∧ M'.1 = M.1 ∧ M'.2.2 = M.2.2 ∧ M'.2.1 3 = M.2.1 3 ∧ ∀ b q, q < 155 → blk M' b q = if b = j ∧ k ≤ q then blk M i q else blk M b q
  | 0, f + 1, k, M, hk, _ => by
    obtain rfl : k = 155 := hk
    rw [lpf4_s]
    unfold b_X3_copies_2
    rw [if_pos (by decide)]
    exact ⟨M, rfl, rfl, rfl, rfl, fun b q hq => by rw [if_neg (by omega)]⟩
  | d + 1, f + 1, k, M, hk, hf => by
    have ih := m_cpy0 hi hj hij d f (k + 1)
    rw [lpf4_s]
    generalize lpf4 b_X3_copies_2 f = K at ih ⊢
    unfold b_X3_copies_2
    simp (disch := omega) only [nm_eq, lit, mul_nI, nI_add, gd_nI, nI_clamp, nI_leI]
    rw [if_neg (by omega)]
    obtain ⟨M', k1, k2, k3, k4, k5⟩ := ih (M.1, up2 M.2.1 1 (upd (M.2.1 1) (155 * j + k) (M.2.1 1 (155 * i + k))), M.2.2) (by omega) (by omega)
    refine ⟨M', k1, k2, k3, k4, fun b q hq => ?_⟩
    rw [k5 b q hq]
    have e1 : ∀ b' q', q' < 155 → blk (M.1, up2 M.2.1 1 (upd (M.2.1 1) (155 * j + k) (M.2.1 1 (155 * i + k))), M.2.2) b' q' = if b' = j ∧ q' = k then blk M i k else blk M b' q' := fun b' q' hq' => by
      show (if 155 * b' + q' = 155 * j + k then M.2.1 1 (155 * i + k) else M.2.1 1 (155 * b' + q')) = _
      by_cases e : b' = j ∧ q' = k
      · rw [if_pos e, if_pos (by rw [e.1, e.2])]; rfl
      · rw [if_neg e, if_neg (by omega)]; rfl
    by_cases q1 : b = j
    · by_cases q2 : k + 1 ≤ q
      · rw [if_pos ⟨q1, q2⟩, e1 i q hq, if_neg (fun z => hij z.1), if_pos ⟨q1, by omega⟩]
      · rw [if_neg (fun z => q2 z.2), e1 b q hq]
        by_cases q3 : q = k
        · rw [if_pos ⟨q1, q3⟩, if_pos ⟨q1, by omega⟩, q3]
        · rw [if_neg (fun z => q3 z.2), if_neg (by omega)]
    · rw [if_neg (fun z => q1 z.1), e1 b q hq, if_neg (fun z => q1 z.1), if_neg (fun z => q1 z.1)]
theorem m_cpy {i j : Nat} (hi : i ≤ 6) (hj : j ≤ 6) (hij : i ≠ j) (M : MO) : ∃ M', f_X3_copies (nI i) (nI j) M = some M' ∧ M'.1 = M.1 ∧ M'.2.2 = M.2.2 ∧ M'.2.1 3 = M.2.1 3 ∧ ∀ b q, q < 155 → blk M' b q = if b = j then blk M i q else blk M b q := by
  obtain ⟨M', k1, k2, k3, k4, k5⟩ := m_cpy0 hi hj hij 155 FU 0 M rfl (by decide)
  refine ⟨M', k1, k2, k3, k4, fun b q hq => ?_⟩
  rw [k5 b q hq]
  by_cases e : b = j
  · rw [if_pos ⟨e, Nat.zero_le q⟩, if_pos e]
  · rw [if_neg (fun z => e z.1), if_neg e]
theorem m_save50 {l : Nat} (h0 : 0 < l) (h6 : l ≤ 6) {t0 t1 : Int32} (ht : t1 + t0 = nI l) (M : MO) : ∃ M', c_X3_save_50 t0 t1 M = some M' ∧ M'.1 = upd M.1 2 (nI l) ∧ M'.2.2 = M.2.2 ∧ M'.2.1 3 = M.2.1 3 ∧ ∀ b q, q < 155 → blk M' b q = if b = l then blk M 0 q else blk M b q := by
  unfold c_X3_save_50
  rw [nm_eq, ht]
  obtain ⟨M', k1, k2, k3, k4, k5⟩ := m_cpy (i := 0) (j := l) (by omega) h6 (by omega) (upd M.1 2 (nI l), M.2)
  refine ⟨M', ?_, k2, k3, k4, k5⟩
  show bd (f_X3_copies (nI 0) (nI l) (upd M.1 2 (nI l), M.2)) _ = _
  rw [k1]
  rfl
theorem m_save2 : ∀ (d f x : Nat) (M : MO), M.1 2 = nI 6 → 0 < x → x + d = 6 → d < f → ∃ M', lpf2 b_X3_save_2 f (nI x) M = c_X3_save_31 M' ∧ M'.1 = M.1 ∧ M'.2.2 = M.2.2 ∧ M'.2.1 3 = M.2.1 3 ∧ ∀ b q, q < 155 → blk M' b q = if x ≤ b ∧ b ≤ 5 then blk M (b + 1) q else blk M b q
  | 0, f + 1, x, M, hM, _, hx, _ => by
    obtain rfl : x = 6 := hx
    rw [lpf2_s]
    unfold b_X3_save_2
    rw [if_pos (by decide)]
    exact ⟨M, rfl, rfl, rfl, rfl, fun b q hq => by rw [if_neg (by omega)]⟩
  | d + 1, f + 1, x, M, hM, h0, hx, hf => by
    have ih := m_save2 d f (x + 1)
    rw [lpf2_s]
    generalize lpf2 b_X3_save_2 f = K at ih ⊢
    unfold b_X3_save_2
    obtain ⟨M1, k1, k2, k3, k4, k5⟩ := m_cpy (i := x + 1) (j := x) (by omega) (by omega) (by omega) M
    obtain ⟨M2, j1, j2, j3, j4, j5⟩ := ih M1 (by rw [k2]; exact hM) (by omega) (by omega) (by omega)
    rw [if_neg (by rw [show (6 : Int32) = nI 6 from rfl, nI_leI (by omega) (by omega)]; omega), if_pos (show M.1 2 = 6 from hM), show nI x + 1 = nI (x + 1) from nI_1 x, k1, bd_some, nm_eq]
    refine ⟨M2, j1, j2.trans k2, j3.trans k3, j4.trans k4, fun b q hq => ?_⟩
    rw [j5 b q hq]
    by_cases e1 : x + 1 ≤ b ∧ b ≤ 5
    · rw [if_pos e1, if_pos (by omega), k5 (b + 1) q hq, if_neg (by omega)]
    · rw [if_neg e1, k5 b q hq]
      by_cases e2 : b = x
      · rw [if_pos e2, if_pos (by omega), e2]
      · rw [if_neg e2, if_neg (by omega)]
/-- what a saving leaves alone -/
theorem save_ok {A : AT} {sv : List AT} {ns : Nat} {S : BO} {M : MO} (hi : INV A) (h : RS A S.2.1) (hm : RM A (M.2.1 1)) (hv : SV sv ns S M) : ∃ S' M' ns', f_X2_save S = some S' ∧ f_X3_save M = some M' ∧ SV ((A :: sv).take 6) ns' S' M' ∧ S'.2.1 = S.2.1 ∧ S'.2.2.2 = S.2.2.2 ∧ RM A (M'.2.1 1) ∧ (∀ k, k ≠ 2 → M'.1 k = M.1 k) ∧ M'.2.1 3 = M.2.1 3 ∧ M'.2.2 = M.2.2 := by
  have hn := INV_n hi
  obtain ⟨v1, v2, v3, v4, v5, v6⟩ := hv
  obtain ⟨T, c1, c2⟩ := RS_copy (S := S.2.2.1 ns) h hn (od_le hi)
  have hlen : ((A :: sv).take 6).length = min 6 (sv.length + 1) := by rw [List.length_take, List.length_cons]
  -- the belt
  have hS : f_X2_save S = some (upd (upd S.1 2 (nI ((ns + 1) % 6))) 3 (nI (min 6 (sv.length + 1))), S.2.1, (fun i => if i = ns then T else S.2.2.1 i), S.2.2.2) := by
    have fin : ∀ t0, t0 = nI ((ns + 1) % 6) → c_X2_save_43 t0 (S.1, S.2.1, (fun i => if i = ns then T else S.2.2.1 i), S.2.2.2) = some (upd (upd S.1 2 (nI ((ns + 1) % 6))) 3 (nI (min 6 (sv.length + 1))), S.2.1, (fun i => if i = ns then T else S.2.2.1 i), S.2.2.2) := by
      rintro t0 rfl
      unfold c_X2_save_43
      simp only [nm_eq]
      have e3 : upd S.1 2 (nI ((ns + 1) % 6)) 3 = nI sv.length := (pk_un (by omega)).trans v4
      rw [e3]
      by_cases e : sv.length = 6
      · rw [if_pos (by rw [e]; decide)]
        have e4 : upd (upd S.1 2 (nI ((ns + 1) % 6))) 3 (nI (min 6 (sv.length + 1))) = upd S.1 2 (nI ((ns + 1) % 6)) := by
          funext k
          show (if k = 3 then nI (min 6 (sv.length + 1)) else _) = _
          by_cases q : k = 3
          · rw [if_pos q, q, e3, e]; rfl
          · rw [if_neg q]
        rw [e4]
      · rw [if_neg (by rw [show (6 : Int32) = nI 6 from rfl, nI_leI (by omega) (by omega)]; omega), show nI sv.length + 1 = nI (sv.length + 1) from nI_1 _, show min 6 (sv.length + 1) = sv.length + 1 by omega]
    unfold f_X2_save
    simp only [nm_eq]
    rw [v3, gd_nI v2 (by decide), nI_clamp (by omega), c1, bd_some, show nI ns + 1 = nI (ns + 1) from nI_1 ns]
    by_cases e : ns = 5
    · rw [if_pos (by rw [e]; decide)]
      exact fin _ (by rw [e]; rfl)
    · rw [if_neg (by rw [show (6 : Int32) = nI 6 from rfl, nI_leI (by omega) (by omega)]; omega)]
      exact fin _ (by rw [Nat.mod_eq_of_lt (by omega)])
  -- the reference
  have hM : ∃ M', f_X3_save M = some M' ∧ M'.1 = upd M.1 2 (nI (min 6 (sv.length + 1))) ∧ M'.2.2 = M.2.2 ∧ M'.2.1 3 = M.2.1 3 ∧ ∀ b q, q < 155 → blk M' b q = if b = min 6 (sv.length + 1) then blk M 0 q else if sv.length = 6 ∧ 1 ≤ b ∧ b ≤ 5 then blk M (b + 1) q else blk M b q := by
    unfold f_X3_save
    by_cases e : sv.length = 6
    · obtain ⟨M1, k1, k2, k3, k4, k5⟩ := m_save2 5 FU 1 M (by rw [v5, e]) (by omega) rfl (by decide)
      obtain ⟨M2, j1, j2, j3, j4, j5⟩ := m_save50 (l := 6) (by omega) (by omega) (t0 := 0) (t1 := nI 6) rfl M1
      refine ⟨M2, ?_, ?_, j3.trans k3, j4.trans k4, fun b q hq => ?_⟩
      · rw [show (1 : Int32) = nI 1 from rfl, k1]
        unfold c_X3_save_31
        rw [show M1.1 2 = nI 6 by rw [k2, v5, e], if_pos (by decide)]
        exact j1
      · rw [j2, k2, e]; rfl
      · rw [j5 b q hq, show blk M1 0 q = blk M 0 q by rw [k5 0 q hq, if_neg (by omega)], k5 b q hq, e]
        show (if b = 6 then blk M 0 q else if 1 ≤ b ∧ b ≤ 5 then _ else _) = if b = 6 then _ else _
        by_cases q1 : b = 6
        · rw [if_pos q1, if_pos q1]
        · rw [if_neg q1, if_neg q1]
          by_cases q2 : 1 ≤ b ∧ b ≤ 5
          · rw [if_pos q2, if_pos ⟨rfl, q2⟩]
          · rw [if_neg q2, if_neg (fun z => q2 z.2)]
    · obtain ⟨M2, j1, j2, j3, j4, j5⟩ := m_save50 (l := sv.length + 1) (by omega) (by omega) (t0 := 1) (t1 := nI sv.length) (nI_1 _) M
      have hmin : min 6 (sv.length + 1) = sv.length + 1 := by omega
      refine ⟨M2, ?_, by rw [hmin]; exact j2, j3, j4, fun b q hq => ?_⟩
      · rw [show FU = 4095 + 1 from rfl, lpf2_s]
        unfold b_X3_save_2 c_X3_save_31
        rw [v5, if_neg (by decide), if_neg (by rw [show (6 : Int32) = nI 6 from rfl, nI_eq (by omega) (by omega)]; exact e), if_neg (by rw [show (6 : Int32) = nI 6 from rfl, nI_leI (by omega) (by omega)]; omega)]
        exact j1
      · rw [j5 b q hq, hmin]
        by_cases q1 : b = sv.length + 1
        · rw [if_pos q1, if_pos q1]
        · rw [if_neg q1, if_neg q1, if_neg (fun z => e z.1)]
  obtain ⟨M', k1, k2, k3, k4, k5⟩ := hM
  have hr0 : RM A (M'.2.1 1) := RM_cong hm hn (fun k hk => by
    have := k5 0 k hk
    rw [if_neg (by omega), if_neg (by omega), blk_0, blk_0] at this
    exact this)
  refine ⟨_, M', (ns + 1) % 6, hS, k1, ⟨by omega, Nat.mod_lt _ (by omega), rfl, by rw [hlen]; rfl, by rw [k2, hlen]; rfl, fun j hj => ?_⟩, rfl, rfl, hr0, fun k hk => by rw [k2]; exact pk_un hk, k4, k3⟩
  have hj6 : j < min 6 (sv.length + 1) := by omega
  have hle : ((A :: sv).take 6).length - j = min 6 (sv.length + 1) - j := by rw [hlen]
  have hjc : j < (A :: sv).length := by rw [List.length_cons]; omega
  rw [List.getElem_take, hle]
  show INV ((A :: sv)[j]'hjc) ∧ RS ((A :: sv)[j]'hjc) (if ((ns + 1) % 6 + 5 - j) % 6 = ns then T else S.2.2.1 (((ns + 1) % 6 + 5 - j) % 6)) ∧ RM ((A :: sv)[j]'hjc) (blk M' (min 6 (sv.length + 1) - j))
  cases j with
  | zero =>
    refine ⟨hi, ?_, ?_⟩
    · rw [if_pos (by omega)]; exact c2
    · refine RM_cong hm hn (fun k hk => ?_)
      rw [Nat.sub_zero, k5 _ k hk, if_pos rfl, blk_0]
  | succ j =>
    have hj' : j < sv.length := by omega
    obtain ⟨w1, w2, w3⟩ := v6 j hj'
    refine ⟨w1, ?_, ?_⟩
    · rw [if_neg (by omega), show ((ns + 1) % 6 + 5 - (j + 1)) % 6 = (ns + 5 - j) % 6 by omega]
      exact w2
    · refine RM_cong w3 (INV_n w1) (fun k hk => ?_)
      rw [k5 _ k hk, if_neg (by omega)]
      show _ = blk M (sv.length - j) k
      by_cases e : sv.length = 6
      · rw [if_pos ⟨e, by omega, by omega⟩, show min 6 (sv.length + 1) - (j + 1) + 1 = sv.length - j by omega]
      · rw [if_neg (fun z => e z.1), show min 6 (sv.length + 1) - (j + 1) = sv.length - j by omega]
