/-! the reference's state changed -/
def RQ (A : AT) (z a b c : Int32) (g : Nat → Int32) : Prop := g 0 = z ∧ g 1 = a ∧ g 2 = nI A.hd ∧ g 3 = nI A.sp ∧ g 4 = nI A.go ∧ g 5 = b ∧ g 6 = c ∧ (∀ k, k < A.n → g (7 + k) = bZ (A.fl k)) ∧ (∀ k, k < A.n → g (17 + k) = A.lo k) ∧ (∀ k, k < 32 → g (27 + k) = oI (A.ow k)) ∧ (∀ k, k < 32 → g (59 + k) = A.sn k) ∧ (∀ k, k < 32 → g (91 + k) = A.ca k) ∧ ∃ tr : Nat → Nat, (∀ k, k < 32 → A.ow k ≠ none → g (123 + k) = nI (tr k) ∧ tr k < A.sp) ∧ A.od.Pairwise (fun i j => tr i < tr j)
theorem RM_RQ {A : AT} {g : Nat → Int32} (h : RM A g) : RQ A (nI A.n) (oI (rn A)) (oI (A.P.map Prod.fst)) (oI (A.P.map Prod.snd)) g := h
theorem RQ_RM {A : AT} {g : Nat → Int32} (h : RQ A (nI A.n) (oI (rn A)) (oI (A.P.map Prod.fst)) (oI (A.P.map Prod.snd)) g) : RM A g := h
theorem RQ_ext {A B : AT} {z a b c : Int32} {g : Nat → Int32} (h : RQ A z a b c g) (e1 : B.n ≤ A.n) (e3 : B.hd = A.hd) (e4 : B.sp = A.sp) (e5 : B.go = A.go) (e7 : ∀ k, k < B.n → B.fl k = A.fl k) (e8 : ∀ k, k < B.n → B.lo k = A.lo k) (e9 : ∀ k, k < 32 → B.ow k = A.ow k) (e10 : ∀ k, k < 32 → B.sn k = A.sn k) (e11 : ∀ k, k < 32 → B.ca k = A.ca k) (e12 : ∃ p, B.od = A.od.filter p) : RQ B z a b c g := by
  obtain ⟨h1, h2, h3, h4, h5, h6, h7, h8, h9, h10, h11, h12, tr, h13, h14⟩ := h
  obtain ⟨p, e12⟩ := e12
  refine ⟨h1, h2, h3.trans (congrArg nI e3.symm), h4.trans (congrArg nI e4.symm), h5.trans (congrArg nI e5.symm), h6, h7, fun k hk => (h8 k (Nat.lt_of_lt_of_le hk e1)).trans (congrArg bZ (e7 k hk).symm), fun k hk => (h9 k (Nat.lt_of_lt_of_le hk e1)).trans (e8 k hk).symm, fun k hk => (h10 k hk).trans (congrArg oI (e9 k hk).symm), fun k hk => (h11 k hk).trans (e10 k hk).symm, fun k hk => (h12 k hk).trans (e11 k hk).symm, tr, fun k hk q => ?_, by rw [e12]; exact h14.filter p⟩
  rw [e9 k hk] at q
  rw [e4]
  exact h13 k hk q
theorem RQ_0 {A : AT} {z a b c v : Int32} {g : Nat → Int32} (h : RQ A z a b c g) : RQ A v a b c (upd g 0 v) := by
  obtain ⟨h1, h2, h3, h4, h5, h6, h7, h8, h9, h10, h11, h12, tr, h13, h14⟩ := h
  exact ⟨rfl, h2, h3, h4, h5, h6, h7, fun k hk => (pk_un (by omega)).trans (h8 k hk), fun k hk => (pk_un (by omega)).trans (h9 k hk), fun k hk => (pk_un (by omega)).trans (h10 k hk), fun k hk => (pk_un (by omega)).trans (h11 k hk), fun k hk => (pk_un (by omega)).trans (h12 k hk), tr, fun k hk q => ⟨(pk_un (by omega)).trans (h13 k hk q).1, (h13 k hk q).2⟩, h14⟩
theorem RQ_1 {A : AT} {z a b c v : Int32} {g : Nat → Int32} (h : RQ A z a b c g) : RQ A z v b c (upd g 1 v) := by
  obtain ⟨h1, h2, h3, h4, h5, h6, h7, h8, h9, h10, h11, h12, tr, h13, h14⟩ := h
  exact ⟨h1, rfl, h3, h4, h5, h6, h7, fun k hk => (pk_un (by omega)).trans (h8 k hk), fun k hk => (pk_un (by omega)).trans (h9 k hk), fun k hk => (pk_un (by omega)).trans (h10 k hk), fun k hk => (pk_un (by omega)).trans (h11 k hk), fun k hk => (pk_un (by omega)).trans (h12 k hk), tr, fun k hk q => ⟨(pk_un (by omega)).trans (h13 k hk q).1, (h13 k hk q).2⟩, h14⟩
theorem RQ_2 {A : AT} {z a b c : Int32} {m : Nat} {g : Nat → Int32} (h : RQ A z a b c g) : RQ (sHS A m A.sp) z a b c (upd g 2 (nI m)) := by
  obtain ⟨h1, h2, h3, h4, h5, h6, h7, h8, h9, h10, h11, h12, tr, h13, h14⟩ := h
  exact ⟨h1, h2, rfl, h4, h5, h6, h7, fun k hk => (pk_un (by omega)).trans (h8 k hk), fun k hk => (pk_un (by omega)).trans (h9 k hk), fun k hk => (pk_un (by omega)).trans (h10 k hk), fun k hk => (pk_un (by omega)).trans (h11 k hk), fun k hk => (pk_un (by omega)).trans (h12 k hk), tr, fun k hk q => ⟨(pk_un (by omega)).trans (h13 k hk q).1, (h13 k hk q).2⟩, h14⟩
theorem RQ_4 {A : AT} {z a b c : Int32} {m : Nat} {g : Nat → Int32} (h : RQ A z a b c g) : RQ (sGO A m) z a b c (upd g 4 (nI m)) := by
  obtain ⟨h1, h2, h3, h4, h5, h6, h7, h8, h9, h10, h11, h12, tr, h13, h14⟩ := h
  exact ⟨h1, h2, h3, h4, rfl, h6, h7, fun k hk => (pk_un (by omega)).trans (h8 k hk), fun k hk => (pk_un (by omega)).trans (h9 k hk), fun k hk => (pk_un (by omega)).trans (h10 k hk), fun k hk => (pk_un (by omega)).trans (h11 k hk), fun k hk => (pk_un (by omega)).trans (h12 k hk), tr, fun k hk q => ⟨(pk_un (by omega)).trans (h13 k hk q).1, (h13 k hk q).2⟩, h14⟩
theorem RQ_5 {A : AT} {z a b c v : Int32} {g : Nat → Int32} (h : RQ A z a b c g) : RQ A z a v c (upd g 5 v) := by
  obtain ⟨h1, h2, h3, h4, h5, h6, h7, h8, h9, h10, h11, h12, tr, h13, h14⟩ := h
  exact ⟨h1, h2, h3, h4, h5, rfl, h7, fun k hk => (pk_un (by omega)).trans (h8 k hk), fun k hk => (pk_un (by omega)).trans (h9 k hk), fun k hk => (pk_un (by omega)).trans (h10 k hk), fun k hk => (pk_un (by omega)).trans (h11 k hk), fun k hk => (pk_un (by omega)).trans (h12 k hk), tr, fun k hk q => ⟨(pk_un (by omega)).trans (h13 k hk q).1, (h13 k hk q).2⟩, h14⟩
theorem RQ_6 {A : AT} {z a b c v : Int32} {g : Nat → Int32} (h : RQ A z a b c g) : RQ A z a b v (upd g 6 v) := by
  obtain ⟨h1, h2, h3, h4, h5, h6, h7, h8, h9, h10, h11, h12, tr, h13, h14⟩ := h
  exact ⟨h1, h2, h3, h4, h5, h6, rfl, fun k hk => (pk_un (by omega)).trans (h8 k hk), fun k hk => (pk_un (by omega)).trans (h9 k hk), fun k hk => (pk_un (by omega)).trans (h10 k hk), fun k hk => (pk_un (by omega)).trans (h11 k hk), fun k hk => (pk_un (by omega)).trans (h12 k hk), tr, fun k hk q => ⟨(pk_un (by omega)).trans (h13 k hk q).1, (h13 k hk q).2⟩, h14⟩
theorem RQ_fl {A : AT} {z a b c : Int32} {g : Nat → Int32} (h : RQ A z a b c g) (hn : A.n ≤ 10) {k : Nat} (hk : k < 10) {v : Bool} : RQ (sFL A (u1 A.fl k v) A.lo) z a b c (upd g (7 + k) (bZ v)) := by
  obtain ⟨h1, h2, h3, h4, h5, h6, h7, h8, h9, h10, h11, h12, tr, h13, h14⟩ := h
  refine ⟨(pk_un (by omega)).trans h1, (pk_un (by omega)).trans h2, (pk_un (by omega)).trans h3, (pk_un (by omega)).trans h4, (pk_un (by omega)).trans h5, (pk_un (by omega)).trans h6, (pk_un (by omega)).trans h7, fun i hi => ?_, fun i hi => ?_, fun i hi => (pk_un (by omega)).trans (h10 i hi), fun i hi => (pk_un (by omega)).trans (h11 i hi), fun i hi => (pk_un (by omega)).trans (h12 i hi), tr, fun i hi q => ⟨(pk_un (by omega)).trans (h13 i hi q).1, (h13 i hi q).2⟩, h14⟩
  · show upd g (7 + k) (bZ v) (7 + i) = bZ (if i = k then v else A.fl i)
    by_cases e : i = k
    · rw [if_pos e, e, pk_us]
    · rw [if_neg e, pk_un (by omega)]; exact h8 i hi
  · have hi : i < A.n := hi
    exact (pk_un (by omega)).trans (h9 i hi)
theorem RQ_lo {A : AT} {z a b c : Int32} {g : Nat → Int32} (h : RQ A z a b c g) (hn : A.n ≤ 10) {k : Nat} (hk : k < 10) {v : Int32} : RQ (sFL A A.fl (u1 A.lo k v)) z a b c (upd g (17 + k) v) := by
  obtain ⟨h1, h2, h3, h4, h5, h6, h7, h8, h9, h10, h11, h12, tr, h13, h14⟩ := h
  refine ⟨(pk_un (by omega)).trans h1, (pk_un (by omega)).trans h2, (pk_un (by omega)).trans h3, (pk_un (by omega)).trans h4, (pk_un (by omega)).trans h5, (pk_un (by omega)).trans h6, (pk_un (by omega)).trans h7, fun i hi => ?_, fun i hi => ?_, fun i hi => (pk_un (by omega)).trans (h10 i hi), fun i hi => (pk_un (by omega)).trans (h11 i hi), fun i hi => (pk_un (by omega)).trans (h12 i hi), tr, fun i hi q => ⟨(pk_un (by omega)).trans (h13 i hi q).1, (h13 i hi q).2⟩, h14⟩
  · have hi : i < A.n := hi
    exact (pk_un (by omega)).trans (h8 i hi)
  · show upd g (17 + k) v (17 + i) = if i = k then v else A.lo i
    by_cases e : i = k
    · rw [if_pos e, e, pk_us]
    · rw [if_neg e, pk_un (by omega)]; exact h9 i hi
theorem RQ_ow {A : AT} {z a b c : Int32} {g : Nat → Int32} (h : RQ A z a b c g) (hn : A.n ≤ 10) {k : Nat} (hk : k < 32) {o : Option Nat} (ho : o ≠ none → A.ow k ≠ none) : RQ (sOW A (u1 A.ow k o)) z a b c (upd g (27 + k) (oI o)) := by
  obtain ⟨h1, h2, h3, h4, h5, h6, h7, h8, h9, h10, h11, h12, tr, h13, h14⟩ := h
  refine ⟨(pk_un (by omega)).trans h1, (pk_un (by omega)).trans h2, (pk_un (by omega)).trans h3, (pk_un (by omega)).trans h4, (pk_un (by omega)).trans h5, (pk_un (by omega)).trans h6, (pk_un (by omega)).trans h7, fun i hi => ?_, fun i hi => ?_, fun i hi => ?_, fun i hi => (pk_un (by omega)).trans (h11 i hi), fun i hi => (pk_un (by omega)).trans (h12 i hi), tr, fun i hi q => ?_, h14⟩
  · have hi : i < A.n := hi
    exact (pk_un (by omega)).trans (h8 i hi)
  · have hi : i < A.n := hi
    exact (pk_un (by omega)).trans (h9 i hi)
  · show upd g (27 + k) (oI o) (27 + i) = oI (if i = k then o else A.ow i)
    by_cases e : i = k
    · rw [if_pos e, e, pk_us]
    · rw [if_neg e, pk_un (by omega)]; exact h10 i hi
  · have q : (if i = k then o else A.ow i) ≠ none := q
    have q' : A.ow i ≠ none := by
      by_cases e : i = k
      · rw [if_pos e] at q; rw [e]; exact ho q
      · rw [if_neg e] at q; exact q
    exact ⟨(pk_un (by omega)).trans (h13 i hi q').1, (h13 i hi q').2⟩
theorem RQ_sn {A : AT} {z a b c : Int32} {g : Nat → Int32} (h : RQ A z a b c g) (hn : A.n ≤ 10) {k : Nat} (hk : k < 32) {v : Int32} : RQ (sSC A (u1 A.sn k v) A.ca) z a b c (upd g (59 + k) v) := by
  obtain ⟨h1, h2, h3, h4, h5, h6, h7, h8, h9, h10, h11, h12, tr, h13, h14⟩ := h
  refine ⟨(pk_un (by omega)).trans h1, (pk_un (by omega)).trans h2, (pk_un (by omega)).trans h3, (pk_un (by omega)).trans h4, (pk_un (by omega)).trans h5, (pk_un (by omega)).trans h6, (pk_un (by omega)).trans h7, fun i hi => ?_, fun i hi => ?_, fun i hi => (pk_un (by omega)).trans (h10 i hi), fun i hi => ?_, fun i hi => (pk_un (by omega)).trans (h12 i hi), tr, fun i hi q => ⟨(pk_un (by omega)).trans (h13 i hi q).1, (h13 i hi q).2⟩, h14⟩
  · have hi : i < A.n := hi
    exact (pk_un (by omega)).trans (h8 i hi)
  · have hi : i < A.n := hi
    exact (pk_un (by omega)).trans (h9 i hi)
  · show upd g (59 + k) v (59 + i) = if i = k then v else A.sn i
    by_cases e : i = k
    · rw [if_pos e, e, pk_us]
    · rw [if_neg e, pk_un (by omega)]; exact h11 i hi
/-- what a change of the state leaves alone -/
def FR (M N : MO) : Prop := N.1 = M.1 ∧ N.2.2 = M.2.2 ∧ N.2.1 3 = M.2.1 3 ∧ ∀ k, 155 ≤ k → N.2.1 1 k = M.2.1 1 k
theorem FR_r (M : MO) : FR M M := ⟨rfl, rfl, rfl, fun _ _ => rfl⟩
theorem FR_t {M N O : MO} (h : FR M N) (k : FR N O) : FR M O := ⟨k.1.trans h.1, k.2.1.trans h.2.1, k.2.2.1.trans h.2.2.1, fun i hi => (k.2.2.2 i hi).trans (h.2.2.2 i hi)⟩
theorem FR_u {M : MO} {i : Nat} {v : Int32} (h : i < 155) : FR M (M.1, up2 M.2.1 1 (upd (M.2.1 1) i v), M.2.2) := ⟨rfl, rfl, rfl, fun k hk => pk_un (f := M.2.1 1) (by omega)⟩
theorem sB_n {A : AT} (h : A.n ≤ 10) : A.n < 2 ^ 31 := Nat.lt_of_le_of_lt h (by decide)
/-- a recording leaves: the owners -/
theorem m_lv2 {r : Nat} (hr : r < 10) {z a b c : Int32} : ∀ (d f j : Nat) (A : AT) (M : MO), RQ A z a b c (M.2.1 1) → A.n ≤ 10 → (∀ k, k < 32 → ∀ q, A.ow k = some q → q < 2 ^ 31) → j + d = 32 → d < f → ∃ M', lpf3 b_X3_leaves_2 f (nI r) (nI j) M = lpf3 b_X3_leaves_66 FU (nI r) (nI r) (M'.1, up2 M'.2.1 1 (upd (M'.2.1 1) 0 ((M'.2.1 1) 0 - 1)), M'.2.2) ∧ RQ (sOW A (fun k => if k < j then A.ow k else shO r (A.ow k))) z a b c (M'.2.1 1) ∧ FR M M'
  | 0, f + 1, j, A, M, h, hn, hb, hj, _ => by
    obtain rfl : j = 32 := hj
    show ∃ M', b_X3_leaves_2 _ _ _ _ = _ ∧ _
    unfold b_X3_leaves_2
    rw [if_pos (by decide)]
    simp (disch := omega) only [nm_eq, lit, gd_nI, nI_clamp]
    exact ⟨M, rfl, RQ_ext h (Nat.le_refl _) rfl rfl rfl (fun _ _ => rfl) (fun _ _ => rfl) (fun k hk => if_pos hk) (fun _ _ => rfl) (fun _ _ => rfl) ⟨fun _ => true, (List.filter_eq_self.mpr (fun _ _ => rfl)).symm⟩, FR_r M⟩
  | d + 1, f + 1, j, A, M, h, hn, hb, hj, hf => by
    have hk : j < 32 := by omega
    have ih := m_lv2 hr (z := z) (a := a) (b := b) (c := c) d f (j + 1)
    show ∃ M', b_X3_leaves_2 (lpf3 b_X3_leaves_2 f) _ _ _ = _ ∧ _
    generalize lpf3 b_X3_leaves_2 f = K at ih ⊢
    have how : (M.2.1 1) (27 + j) = oI (A.ow j) := h.2.2.2.2.2.2.2.2.2.1 j hk
    have fin : ∀ v, v = oI (shO r (A.ow j)) → ∃ M', c_X3_leaves_47 K (nI r) (nI j) v (nI 27 + nI j) M = lpf3 b_X3_leaves_66 FU (nI r) (nI r) (M'.1, up2 M'.2.1 1 (upd (M'.2.1 1) 0 ((M'.2.1 1) 0 - 1)), M'.2.2) ∧ RQ (sOW A (fun k => if k < j then A.ow k else shO r (A.ow k))) z a b c (M'.2.1 1) ∧ FR M M' := by
      rintro v rfl
      have h1 := RQ_ow h hn hk (o := shO r (A.ow j)) (fun q e => q (by rw [e]; rfl))
      unfold c_X3_leaves_47
      simp (disch := omega) only [nm_eq, lit, gd_nI, nI_clamp, nI_add]
      obtain ⟨M', k1, k2, k3⟩ := ih (sOW A (u1 A.ow j (shO r (A.ow j)))) (M.1, up2 M.2.1 1 (upd (M.2.1 1) (27 + j) (oI (shO r (A.ow j)))), M.2.2) h1 hn (fun k hk q e => by
        have e : (if k = j then shO r (A.ow j) else A.ow k) = some q := e
        by_cases e3 : k = j
        · rw [if_pos e3] at e
          cases e4 : A.ow j with
          | none => rw [e4] at e; cases e
          | some w =>
            have := hb j (by omega) w e4
            rw [e4] at e
            have e : (if w = r then none else if w ≤ r then some w else some (w - 1)) = some q := e
            split at e
            · cases e
            · split at e <;> (cases e; omega)
        · rw [if_neg e3] at e
          exact hb k hk q e) (by omega) (by omega)
      refine ⟨M', k1, RQ_ext k2 (Nat.le_refl _) rfl rfl rfl (fun _ _ => rfl) (fun _ _ => rfl) (fun k hk => ?_) (fun _ _ => rfl) (fun _ _ => rfl) ⟨fun _ => true, (List.filter_eq_self.mpr (fun _ _ => rfl)).symm⟩, FR_t (FR_u (by omega)) k3⟩
      show (if k < j then A.ow k else shO r (A.ow k)) = if k < j + 1 then (if k = j then shO r (A.ow j) else A.ow k) else shO r (if k = j then shO r (A.ow j) else A.ow k)
      by_cases e1 : k < j
      · rw [if_pos e1, if_pos (by omega), if_neg (by omega)]
      · rw [if_neg e1]
        by_cases e2 : k = j
        · rw [if_pos (by omega), if_pos e2, e2]
        · rw [if_neg (by omega), if_neg e2]
    unfold b_X3_leaves_2
    rw [if_neg (by rw [show (32 : Int32) = nI 32 from rfl, nI_leI (by omega) (by omega)]; omega), show (27 : Int32) + nI j = nI (27 + j) from nI_add 27 j, gd_nI (by omega) (by omega), nm_eq, nI_clamp (by omega), how]
    rw [show nI 27 + nI j = nI (27 + j) from nI_add 27 j] at fin
    cases e : A.ow j with
    | none =>
      rw [e] at fin
      rw [oI_none, if_neg (fun q => nI_m1 (n := r) (by omega) q.symm), if_pos (Int32.le_of_lt (Int32.lt_of_lt_of_le m1_lt0 (nI_pos' (by omega))))]
      exact fin _ rfl
    | some q =>
      have hq := hb j hk q e
      rw [e] at fin
      rw [oI_some]
      by_cases e1 : q = r
      · rw [if_pos (by rw [e1])]
        exact fin _ (by show (-1 : Int32) = oI (if q = r then none else if q ≤ r then some q else some (q - 1)); rw [if_pos e1]; rfl)
      · rw [if_neg (by rw [nI_eq (by omega) (by omega)]; exact e1)]
        by_cases e2 : q ≤ r
        · rw [if_pos (by rw [nI_leI (by omega) (by omega)]; exact e2)]
          exact fin _ (by show nI q = oI (if q = r then none else if q ≤ r then some q else some (q - 1)); rw [if_neg e1, if_pos e2]; rfl)
        · rw [if_neg (by rw [nI_leI (by omega) (by omega)]; exact e2)]
          exact fin _ (by show nI q - nI 1 = oI (if q = r then none else if q ≤ r then some q else some (q - 1)); rw [if_neg e1, if_neg e2, sub_nI (by omega)]; rfl)
