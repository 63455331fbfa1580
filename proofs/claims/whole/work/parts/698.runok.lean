theorem ob_end {tx : List Nat} {S : BO} (h : TC tx S) {j : Nat} (hj : j ≤ tx.length) (e : j < tx.length → sg tx j = 59) (f : Nat) (x1 x2 x3 x4 : Int32) : lpf7 b_X2_obeyOrders_26 (f + 1) x1 x2 x3 x4 (nI tx.length) (nI j) S = c_X2_obeyOrders_57 (lpf7 b_X2_obeyOrders_26 f) x1 x2 x3 x4 (nI tx.length) (nI j) 59 S := by
  have h60 := h.1
  by_cases hlt : j < tx.length
  · rw [ob_in h hlt, e hlt]; rfl
  · have hj : j = tx.length := by omega
    rw [lpf7_s]
    generalize lpf7 b_X2_obeyOrders_26 f = K
    unfold b_X2_obeyOrders_26
    rw [hj, if_neg (by rw [nI_ltI (by omega) (by omega)]; omega), if_pos (Int32.le_refl _)]
def PO2 (A : AT) (S : BO) (M : MO) (q : Nat) (o1 : Option (Int32 × BO)) (o2 : Option (Int32 × MO)) : Prop := ∃ r T N B, o1 = some (r, (S.1, T, S.2.2)) ∧ o2 = some (r, N) ∧ INV B ∧ RS B T ∧ RM B (N.2.1 1) ∧ B.sp ≤ A.sp + q ∧ (∀ k, k ≠ 4 → k ≠ 5 → k ≠ 6 → k ≠ 7 → k ≠ 8 → N.1 k = M.1 k) ∧ N.1 4 = 0 ∧ N.2.1 3 = M.2.1 3 ∧ ∀ k, 155 ≤ k → N.2.1 1 k = M.2.1 1 k
theorem run_ok {tx : List Nat} : ∀ (d fc fm i cnt : Nat) (A : AT) (S : BO) (M : MO) (a b c : Int32), tx.length - i ≤ d → i ≤ tx.length → tx.length - i + 2 ≤ fc → d + 1 < fm → (fs 0 (tx.drop i) = some 1 ∨ fs 0 (tx.drop i) = some 3) → INV A → RS A S.2.1 → RM A (M.2.1 1) → MT tx M → TC tx S → A.sp + 32 * (d + 1) < 2 ^ 31 → PO2 A S M (32 * (d + 1)) (lpf7 b_X2_obeyOrders_26 fc (nI cnt) (-1) 0 0 (nI tx.length) (nI i) S) (lpf2 b_X3_run_32 fm (nI cnt) (sc M i a b c)) := by
  intro d
  induction d with
  | zero =>
    intro fc fm i cnt A S M a b c hd hi hfc hfm hfs
    have : i = tx.length := by omega
    rw [this, List.drop_length] at hfs
    exact absurd hfs (by simp [fs])
  | succ d ih =>
    intro fc fm i cnt A S M a b c hd hi hfc hfm hfs hA hS hM hMT hTC hsp
    have h60 := hMT.1
    obtain ⟨s, ⟨r1, r2, r3, r4⟩, n1, n2⟩ := ro_st hi b c
    have hro := m_ro hMT a b c (i := i) (by omega)
    obtain ⟨ok, j, b', c', hq⟩ : ∃ ok j b' c', ro tx i b c = (ok, j, b', c') := ⟨_, _, _, _, rfl⟩
    rw [hq] at r1 r2 r3 r4 n1 n2 hro
    dsimp only at r1 r2 r3 r4 n1 n2 hro
    rw [r4] at hfs
    have hok : ok = true := by
      cases ok with
      | true => rfl
      | false =>
        have hs : ¬ (s = 1 ∨ s = 3) := fun q => by cases n1.mpr q
        by_cases e : j < tx.length
        · have n3 := n2 e
          rw [if_neg (fun q => by cases q.1)] at n3
          rw [List.drop_eq_getElem_cons e, fs_c, ← sg_in e, n3] at hfs
          rcases hfs with q | q <;> cases q
        · rw [show j = tx.length by omega, List.drop_length] at hfs
          exact absurd (by rcases hfs with q | q <;> (cases q; simp)) hs
    subst hok
    have hj59 : j < tx.length → sg tx j = 59 := fun e => by
      have n3 := n2 e
      by_cases q : sg tx j = 59
      · exact q
      · rw [if_neg (fun z => q z.2)] at n3
        rw [List.drop_eq_getElem_cons e, fs_c, ← sg_in e, n3] at hfs
        rcases hfs with q | q <;> cases q
    obtain ⟨u, v, hij, o1, o2⟩ := ob_ro hTC hq
    have hac := o2 A (sc M j (nI (sg tx i)) b' c') hA (by omega) hS hM rfl rfl rfl
    obtain ⟨g, rfl⟩ : ∃ g, fc = g + 1 + (j - i) := ⟨fc - (j - i) - 1, by omega⟩
    obtain ⟨fm, rfl⟩ : ∃ g, fm = g + 1 := ⟨fm - 1, by omega⟩
    rw [o1, ob_end hTC r2 hj59, lpf2_s]
    unfold c_X2_obeyOrders_57
    rw [if_pos rfl]
    have ih := fun cnt A S M a b c => ih g fm (j + 1) cnt A S M a b c
    have iz : ∀ (M : MO) (a b c : Int32) (cnt : Nat), MT tx M → lpf2 b_X3_run_32 fm (nI cnt) (sc M tx.length a b c) = some (nI cnt, (upd (sc M tx.length (nI 0) (-1) c).1 4 0, M.2)) := fun M a b c cnt hMT => by
      obtain ⟨fm, rfl⟩ : ∃ g, fm = g + 1 := ⟨fm - 1, by omega⟩
      rw [lpf2_s]
      unfold b_X3_run_32 c_X3_run_63
      have e0 : ro tx tx.length b c = (false, tx.length, -1, c) := by unfold ro; rw [sg_out (Nat.le_refl _)]; rfl
      rw [m_ro hMT a b c (by omega), bd2_some, e0, if_pos (show bZ false = 0 from rfl), nm_eq, sg_out (Nat.le_refl _)]
      rfl
    generalize hK : lpf2 b_X3_run_32 fm = K at ih iz ⊢
    unfold b_X3_run_32 c_X3_run_63
    rw [hro, bd2_some, if_neg (show ¬ bZ true = 0 by decide)]
    rcases hac with ⟨m1, m2⟩ | ⟨T, M', B, m1, m2, m3, m4, m5, m6, m7, m8, m9⟩
    · rw [m1, bd_some, if_pos rfl, m2, bd_some, if_pos rfl, nm_eq]
      refine ⟨nI cnt, S.2.1, _, A, rfl, rfl, hA, hS, hM, by omega, fun k k4 k5 k6 k7 k8 => ?_, rfl, rfl, fun _ _ => rfl⟩
      show upd (sc M j (nI (sg tx i)) b' c').1 4 0 k = _
      rw [pk_un k4, sc_k _ _ _ _ _ k5 k6 k7 k8]
    · rw [m1, bd_some, if_neg (by decide), m3, bd_some, nm_eq, nm_eq, m2, bd_some, if_neg (by decide), m4, bd_some, nm_eq, show nI cnt + 1 = nI (cnt + 1) from nI_1 cnt, show nI j + 1 = nI (j + 1) from nI_1 j]
      have eM : M' = sc (M.1, M'.2) j (nI (sg tx i)) b' c' := by
        refine Prod.ext ?_ rfl
        rw [m8.1]
        rfl
      have hMT' : MT tx (M.1, M'.2) := ⟨hMT.1, hMT.2.1, fun k hk => ⟨(hMT.2.2 k hk).1, (hMT.2.2 k hk).2.1, by
        show M'.2.1 3 k = _
        rw [m8.2.2.1]
        exact (hMT.2.2 k hk).2.2⟩⟩
      have hTC' : TC tx (S.1, T, S.2.2) := hTC
      rw [eM, show f_X3_takes 59 = f_X3_takes (nI 59) from rfl, m_take hMT' (by omega) (by omega)]
      by_cases e : j < tx.length
      · have n3 := n2 e
        rw [if_pos ⟨rfl, hj59 e⟩] at n3
        rw [List.drop_eq_getElem_cons e, fs_c, ← sg_in e, n3] at hfs
        rw [if_pos (hj59 e), bd2_some]
        obtain ⟨r, T2, N, C, p1, p2, p3, p4, p5, p6, p7, p8, p9, p10⟩ := ih (cnt + 1) B (S.1, T, S.2.2) (M.1, M'.2) (nI (sg tx i)) b' c' (by omega) (by omega) (by omega) (by omega) hfs m5 m6 m7 hMT' hTC' (by omega)
        exact ⟨r, T2, N, C, p1, p2, p3, p4, p5, by omega, p7, p8, p9.trans m8.2.2.1, fun k hk => (p10 k hk).trans (m8.2.2.2 k hk)⟩
      · have ej : j = tx.length := by omega
        rw [ej, if_neg (by rw [sg_out (Nat.le_refl _)]; decide), bd2_some, iz _ _ _ _ _ hMT']
        obtain ⟨g, rfl⟩ : ∃ y, g = y + 1 := ⟨g - 1, by omega⟩
        have ec : lpf7 b_X2_obeyOrders_26 (g + 1) (nI (cnt + 1)) (-1) 0 0 (nI tx.length) (nI (tx.length + 1)) (S.1, T, S.2.2) = some (nI (cnt + 1), (S.1, T, S.2.2)) := by
          rw [lpf7_s]
          generalize lpf7 b_X2_obeyOrders_26 g = K
          unfold b_X2_obeyOrders_26
          rw [if_pos (by rw [nI_ltI (by omega) (by omega)]; omega)]
        rw [ec]
        refine ⟨_, T, _, B, rfl, rfl, m5, m6, m7, by omega, fun k k4 k5 k6 k7 k8 => ?_, rfl, m8.2.2.1, fun k hk => m8.2.2.2 k hk⟩
        show upd (sc (M.1, M'.2) tx.length (nI 0) (-1) c').1 4 0 k = _
        rw [pk_un k4, sc_k _ _ _ _ _ k5 k6 k7 k8]
