theorem ob_ro {tx : List Nat} {S : BO} (h : TC tx S) {i j : Nat} {b c b' c' : Int32} (e : ro tx i b c = (true, j, b', c')) : ∃ u v, i < j ∧ (∀ f x1, lpf7 b_X2_obeyOrders_26 (f + (j - i)) x1 (-1) 0 0 (nI tx.length) (nI i) S = lpf7 b_X2_obeyOrders_26 f x1 (nI (sg tx i)) (nI u) (nI v) (nI tx.length) (nI j) S) ∧ ∀ (A : AT) (M : MO), INV A → A.sp + 32 < 2 ^ 31 → RS A S.2.1 → RM A (M.2.1 1) → M.1 6 = nI (sg tx i) → M.1 7 = b' → M.1 8 = c' → AC A S M (sg tx i) u v := by
  unfold ro at e
  have one : ∀ x, sg tx i = x → x ≠ 0 → x ≠ 59 → x ≠ 61 → ∀ f x1, lpf7 b_X2_obeyOrders_26 (f + 1) x1 (-1) 0 0 (nI tx.length) (nI i) S = lpf7 b_X2_obeyOrders_26 f x1 (nI (sg tx i)) 0 0 (nI tx.length) (nI (i + 1)) S := fun x q q0 q1 q2 f x1 => ob_let h (sg_pos (by omega)) f x1 0 0 (by omega) (by omega)
  have hn : ∀ lo hi v k, num tx lo hi (i + 1) = some (v, k) → ∀ x, sg tx i = x → x < 127 → x ≠ 0 → x ≠ 59 → x ≠ 61 → hi < 100 → i < k ∧ ∀ f x1, lpf7 b_X2_obeyOrders_26 (f + (k - i)) x1 (-1) 0 0 (nI tx.length) (nI i) S = lpf7 b_X2_obeyOrders_26 f x1 (nI (sg tx i)) 0 (nI v) (nI tx.length) (nI k) S := fun lo hi v k q x hx hx0 hx1 hx2 hx3 hh => by
    have nb := num_b hh q
    refine ⟨by omega, fun f x1 => ?_⟩
    rw [show f + (k - i) = f + (k - (i + 1)) + 1 by omega, one x hx hx1 hx2 hx3, ob_num h q f x1 0 (by omega)]
  by_cases e1 : sg tx i = 98
  · rw [if_pos e1] at e
    cases e
    refine ⟨0, 0, by omega, fun f x1 => by rw [show i + 1 - i = 1 by omega]; exact one 98 e1 (by omega) (by omega) (by omega) f x1, fun A M g1 g2 g3 g4 g5 g6 g7 => ?_⟩
    rw [e1] at g5 ⊢
    exact ac_98 g1 g3 g4 g5 0 0
  rw [if_neg e1] at e
  by_cases e2 : sg tx i = 104
  · rw [if_pos e2] at e
    cases e
    refine ⟨0, 0, by omega, fun f x1 => by rw [show i + 1 - i = 1 by omega]; exact one 104 e2 (by omega) (by omega) (by omega) f x1, fun A M g1 g2 g3 g4 g5 g6 g7 => ?_⟩
    rw [e2] at g5 ⊢
    exact ac_104 g1 g3 g4 g5 0 0
  rw [if_neg e2] at e
  by_cases e3 : sg tx i = 112
  · rw [if_pos e3] at e
    cases e
    refine ⟨0, 0, by omega, fun f x1 => by rw [show i + 1 - i = 1 by omega]; exact one 112 e3 (by omega) (by omega) (by omega) f x1, fun A M g1 g2 g3 g4 g5 g6 g7 => ?_⟩
    rw [e3] at g5 ⊢
    exact ac_112 g1 (by omega) g3 g4 g5 0 0
  rw [if_neg e3] at e
  by_cases e4 : sg tx i = 115
  · rw [if_pos e4] at e
    cases q : num tx 0 99 (i + 1) with
    | none => rw [q] at e; cases e
    | some w =>
      obtain ⟨v, k⟩ := w
      rw [q] at e
      cases e
      obtain ⟨z1, z2⟩ := hn 0 99 v _ q 115 e4 (by omega) (by omega) (by omega) (by omega) (by omega)
      refine ⟨0, v, z1, z2, fun A M g1 g2 g3 g4 g5 g6 g7 => ?_⟩
      rw [e4] at g5 ⊢
      exact ac_115 g1 (by omega) g3 g4 g5 0 g7
  rw [if_neg e4] at e
  by_cases e5 : sg tx i = 114
  · rw [if_pos e5] at e
    cases q : num tx 1 32 (i + 1) with
    | none => rw [q] at e; cases e
    | some w =>
      obtain ⟨u, k⟩ := w
      rw [q] at e
      have e : (if sg tx k = 61 then (match num tx 0 99 (k + 1) with | none => (false, k + 1, nI u, -1) | some (w, k2) => (true, k2, nI u, nI w)) else (false, k, nI u, -1) : Bool × Nat × Int32 × Int32) = (true, j, b', c') := e
      by_cases e6 : sg tx k = 61
      · rw [if_pos e6] at e
        cases q2 : num tx 0 99 (k + 1) with
        | none => rw [q2] at e; cases e
        | some w =>
          obtain ⟨v, k2⟩ := w
          rw [q2] at e
          cases e
          have nb := num_b (by omega) q2
          have pk := sg_pos (tx := tx) (i := k) (by omega)
          obtain ⟨z1, z2⟩ := hn 1 32 u k q 114 e5 (by omega) (by omega) (by omega) (by omega) (by omega)
          refine ⟨u, v, by omega, fun f x1 => ?_, fun A M g1 g2 g3 g4 g5 g6 g7 => ?_⟩
          · rw [show f + (j - i) = f + (j - (k + 1)) + 1 + (k - i) by omega, z2, ob_eq h pk _ _ _ _ _ e6, ob_num h q2 f x1 _ (by omega)]
          · rw [e5] at g5 ⊢
            exact ac_114 g1 g2 g3 g4 g5 (num_v (by omega) q) g6 g7
      · rw [if_neg e6] at e; cases e
  rw [if_neg e5] at e
  by_cases e6 : sg tx i = 107
  · rw [if_pos e6] at e
    cases q : num tx 1 9 (i + 1) with
    | none => rw [q] at e; cases e
    | some w =>
      obtain ⟨v, k⟩ := w
      rw [q] at e
      cases e
      obtain ⟨z1, z2⟩ := hn 1 9 v _ q 107 e6 (by omega) (by omega) (by omega) (by omega) (by omega)
      refine ⟨0, v, z1, z2, fun A M g1 g2 g3 g4 g5 g6 g7 => ?_⟩
      rw [e6] at g5 ⊢
      exact ac_107 g1 g3 g4 g5 0 (num_v (by omega) q) g6
  rw [if_neg e6] at e
  by_cases e7 : sg tx i = 102 ∨ sg tx i = 117 ∨ sg tx i = 101 ∨ sg tx i = 103
  · rw [if_pos e7] at e
    cases q : num tx 0 9 (i + 1) with
    | none => rw [q] at e; cases e
    | some w =>
      obtain ⟨v, k⟩ := w
      rw [q] at e
      cases e
      have hv := num_v (by omega) q
      obtain ⟨z1, z2⟩ := hn 0 9 v _ q (sg tx i) rfl (by omega) (by omega) (by omega) (by omega) (by omega)
      refine ⟨0, v, z1, z2, fun A M g1 g2 g3 g4 g5 g6 g7 => ?_⟩
      rcases e7 with e8 | e8 | e8 | e8 <;> rw [e8] at g5 ⊢
      · exact ac_102 g1 g3 g4 g5 0 (by omega) g6
      · exact ac_117 g1 g3 g4 g5 0 (by omega) g6
      · exact ac_101 g1 g3 g4 g5 0 (by omega) g6
      · exact ac_103 g1 g3 g4 g5 0 (by omega) g6
  rw [if_neg e7] at e
  cases e
