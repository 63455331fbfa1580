/-! the whole text -/
theorem m_are {tx : List Nat} {M : MO} (h : MT tx M) : ∀ (d f i : Nat) (a b c : Int32), tx.length - i ≤ d → i ≤ tx.length → d < f → ∃ (i' : Nat) (a' b' c' : Int32), lpf1 b_X3_areOrders_5 f (sc M i a b c) = some (bZ (decide (fs 0 (tx.drop i) = some 1 ∨ fs 0 (tx.drop i) = some 3)), sc M i' a' b' c') ∧ i' = i + er 0 (tx.drop i) := by
  intro d
  induction d with
  | zero =>
    intro f i a b c hd hi hf
    obtain ⟨f, rfl⟩ : ∃ g, f = g + 1 := ⟨f - 1, by omega⟩
    have h60 := h.1
    obtain rfl : i = tx.length := by omega
    rw [lpf1_s]
    unfold b_X3_areOrders_5
    have e0 : ro tx tx.length b c = (false, tx.length, -1, c) := by unfold ro; rw [sg_out (Nat.le_refl _)]; rfl
    rw [m_ro h a b c (by omega), bd2_some, e0, if_pos (show bZ false = 0 from rfl), List.drop_length]
    exact ⟨_, _, _, _, rfl, rfl⟩
  | succ d ih =>
    intro f i a b c hd hi hf
    obtain ⟨f, rfl⟩ : ∃ g, f = g + 1 := ⟨f - 1, by omega⟩
    have h60 := h.1
    obtain ⟨s, ⟨r1, r2, r3, r4⟩, n1, n2⟩ := ro_st hi b c
    rw [lpf1_s]
    have ih := ih f
    generalize lpf1 b_X3_areOrders_5 f = K at ih ⊢
    unfold b_X3_areOrders_5
    rw [m_ro h a b c (by omega), bd2_some, r3, r4]
    generalize (ro tx i b c).1 = ok at n1 n2 ⊢
    generalize (ro tx i b c).2.1 = j at r1 r2 r3 r4 n2 ⊢
    generalize (ro tx i b c).2.2.1 = b'
    generalize (ro tx i b c).2.2.2 = c'
    cases ok with
    | false =>
      rw [if_pos (show bZ false = 0 from rfl)]
      have hs : ¬ (s = 1 ∨ s = 3) := fun q => by cases n1.mpr q
      refine ⟨_, nI (sg tx i), b', c', ?_, rfl⟩
      by_cases e : j < tx.length
      · have n3 := n2 e
        rw [if_neg (fun q => by cases q.1)] at n3
        rw [List.drop_eq_getElem_cons e, er_c, fs_c, ← sg_in e, n3]
        show some (0, sc M j _ _ _) = some (bZ (decide (none = some 1 ∨ none = some 3)), sc M (i + (j - i + 0)) _ _ _)
        rw [show i + (j - i + 0) = j by omega]
        rfl
      · rw [show j = tx.length by omega, List.drop_length]
        show some (0, sc M tx.length _ _ _) = some (bZ (decide (some s = some 1 ∨ some s = some 3)), sc M (i + (tx.length - i + 0)) _ _ _)
        rw [show i + (tx.length - i + 0) = tx.length by omega, decide_eq_false (fun q => hs (by rcases q with q | q <;> (cases q; simp)))]
        rfl
    | true =>
      have hs := n1.mp rfl
      rw [if_neg (show ¬ bZ true = 0 by decide), show (sc M j (nI (sg tx i)) b' c').1 5 = nI j from rfl, show (sc M j (nI (sg tx i)) b' c').1 4 = nI tx.length from h.2.1]
      by_cases e : j < tx.length
      · have n3 := n2 e
        rw [if_neg (by rw [nI_eq (by omega) (by omega)]; omega), show f_X3_takes 59 = f_X3_takes (nI 59) from rfl, m_take h (by omega) (by omega)]
        rw [List.drop_eq_getElem_cons e, er_c, fs_c, ← sg_in e, n3]
        by_cases q : sg tx j = 59
        · rw [if_pos q, if_pos ⟨rfl, q⟩, bd2_some, if_neg (by decide)]
          obtain ⟨i', a2, b2, c2, k1, k2⟩ := ih (j + 1) (nI (sg tx i)) b' c' (by omega) (by omega) (by omega)
          refine ⟨i', a2, b2, c2, k1, ?_⟩
          rw [k2]
          show j + 1 + er 0 (tx.drop (j + 1)) = i + (j - i + (er 0 (tx.drop (j + 1)) + 1))
          omega
        · rw [if_neg q, if_neg (fun z => q z.2), bd2_some, if_pos rfl]
          refine ⟨_, nI (sg tx i), b', c', ?_, rfl⟩
          show some (0, sc M j _ _ _) = some (bZ (decide (none = some 1 ∨ none = some 3)), sc M (i + (j - i + 0)) _ _ _)
          rw [show i + (j - i + 0) = j by omega]
          rfl
      · have ej : j = tx.length := by omega
        rw [if_pos (by rw [ej])]
        refine ⟨_, nI (sg tx i), b', c', ?_, rfl⟩
        rw [ej, List.drop_length]
        show some (1, sc M tx.length _ _ _) = some (bZ (decide (some s = some 1 ∨ some s = some 3)), sc M (i + (tx.length - i + 0)) _ _ _)
        rw [show i + (tx.length - i + 0) = tx.length by omega, decide_eq_true (by rcases hs with q | q <;> (rw [q]; simp))]
        rfl
theorem sc_k (M : MO) (i : Nat) (a b c : Int32) {k : Nat} (h5 : k ≠ 5) (h6 : k ≠ 6) (h7 : k ≠ 7) (h8 : k ≠ 8) : (sc M i a b c).1 k = M.1 k := by
  show (if k = 5 then nI i else if k = 6 then a else if k = 7 then b else if k = 8 then c else M.1 k) = _
  rw [if_neg h5, if_neg h6, if_neg h7, if_neg h8]
theorem f_are {tx : List Nat} {M : MO} (h : MT tx M) : ∃ (a b c : Int32), f_X3_areOrders M = some (bZ (decide (fs 0 tx = some 1 ∨ fs 0 tx = some 3)), sc M (er 0 tx) a b c) := by
  have h60 := h.1
  unfold f_X3_areOrders
  rw [nm_eq, show (upd M.1 5 0, M.2) = sc M 0 (M.1 6) (M.1 7) (M.1 8) from by
    refine Prod.ext (funext fun k => ?_) rfl
    show (if k = 5 then (0 : Int32) else M.1 k) = if k = 5 then nI 0 else if k = 6 then M.1 6 else if k = 7 then M.1 7 else if k = 8 then M.1 8 else M.1 k
    by_cases e : k = 5
    · rw [if_pos e, if_pos e]; rfl
    · rw [if_neg e, if_neg e]
      split
      · next q => rw [q]
      · split
        · next q => rw [q]
        · split
          · next q => rw [q]
          · rfl]
  obtain ⟨i', a, b, c, k1, k2⟩ := m_are h tx.length FU 0 (M.1 6) (M.1 7) (M.1 8) (by omega) (Nat.zero_le _) (Nat.lt_of_le_of_lt h60 (by decide))
  rw [List.drop_zero] at k1 k2
  rw [Nat.zero_add] at k2
  exact ⟨a, b, c, by rw [k1, k2]⟩
theorem st_33 {t : Nat} {S : BO} {M : MO} (h : REL t S M) (ht : t < 512) : ∃ (r9 : Int32) (M9 : MO), f_X2_firstError S = some r9 ∧ f_X3_firstError M = some (r9, M9) ∧ REL (t + 1) S M9 := by
  obtain ⟨A, sv, ns, tx, h1, h2, h3, h4, ⟨v1, v2, v3, v4, v5, v6⟩, h6, ⟨x1, x2, x3, x4⟩⟩ := h
  have hMT : MT tx (upd M.1 0 0, M.2) := ⟨x1, x3, fun i hi => ⟨(x4 i hi).1, (x4 i hi).2.1, (x4 i hi).2.2.2⟩⟩
  obtain ⟨a, b, c, k1⟩ := f_are hMT
  refine ⟨nI (er 0 tx), sc (upd M.1 0 0, M.2) (er 0 tx) a b c, ?_, ?_, A, sv, ns, tx, h1, h2, h3, by omega, ⟨v1, v2, v3, v4, ?_, v6⟩, fun B hB => by have := h6 B hB; omega, ⟨x1, x2, ?_, x4⟩⟩
  · unfold f_X2_firstError f_X0_errorIndex
    have := s_err0 (S := S.2.2.2) x2 x1 (fun i hi => ⟨(x4 i hi).2.1, (x4 i hi).2.2.1⟩) tx.length FU 0 0 (Nat.zero_add _) (Nat.lt_of_le_of_lt x1 (by decide)) (by omega)
    rw [List.drop_zero, Nat.zero_add] at this
    rw [show (0 : Int32) = nI 0 from rfl, this, bd_some]
  · unfold f_X3_firstError
    rw [nm_eq, k1, bd2_some]
    rfl
  · rw [sc_k _ _ _ _ _ (by omega) (by omega) (by omega) (by omega)]; exact v5
  · rw [sc_k _ _ _ _ _ (by omega) (by omega) (by omega) (by omega)]; exact x3
