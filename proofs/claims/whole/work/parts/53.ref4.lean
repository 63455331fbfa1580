/-! the reference speaks -/
theorem m_wri {A : AT} {M : MO} (hi : INV A) (hs : A.sp < 2 ^ 31) (h : RM A (M.2.1 1)) (hr : A.run = true) {x : Nat} (hx : x < 32) (h0 : A.ow x = none) (v : Int32) : ∃ M', c_X3_speaks_43 v (nI x) M = some (nI x, M') ∧ RM (wri A x v) (M'.2.1 1) ∧ FR M M' := by
  have hn := INV_n hi
  have a1 : (M.2.1 1) 1 = oI (some (A.n - 1)) := (RM_run h).trans (by rw [rn_run hr])
  have a3 : (M.2.1 1) 3 = nI A.sp := RM_sp h
  unfold c_X3_speaks_43
  simp (disch := omega) only [nm_eq, show (27 : Int32) + nI x = nI (27 + x) from nI_add 27 x, show (59 : Int32) + nI x = nI (59 + x) from nI_add 59 x, show (91 : Int32) + nI x = nI (91 + x) from nI_add 91 x, show (123 : Int32) + nI x = nI (123 + x) from nI_add 123 x, show (1 : Int32) = nI 1 from rfl, show (2 : Int32) = nI 2 from rfl, show (3 : Int32) = nI 3 from rfl, show (32 : Int32) = nI 32 from rfl, gd_nI, nI_clamp, up2_s, up2_2, a1]
  have b3 : upd (upd (upd (M.2.1 1) (27 + x) (oI (some (A.n - 1)))) (59 + x) v) (91 + x) v 3 = nI A.sp := by rw [pk_un (by omega), pk_un (by omega), pk_un (by omega)]; exact a3
  have b4 : upd (upd (upd (upd (M.2.1 1) (27 + x) (oI (some (A.n - 1)))) (59 + x) v) (91 + x) v) (123 + x) (nI A.sp) 3 = nI A.sp := by rw [pk_un (by omega)]; exact b3
  simp (disch := omega) only [b3, b4, nI_add, rem_nI]
  refine ⟨_, rfl, ?_, ⟨rfl, rfl, rfl, fun k hk => ?_⟩⟩
  · obtain ⟨h1, h2, h3, h4, h5, h6, h7, h8, h9, h10, h11, h12, tr, h13, h14⟩ := h
    have hsc : ∀ k, k < 27 → k ≠ 2 → k ≠ 3 → upd (upd (upd (upd (upd (upd (M.2.1 1) (27 + x) (oI (some (A.n - 1)))) (59 + x) v) (91 + x) v) (123 + x) (nI A.sp)) 3 (nI (A.sp + 1))) 2 (nI ((x + 1) % 32)) k = (M.2.1 1) k := fun k hk q1 q2 => by
      rw [pk_un q1, pk_un q2, pk_un (by omega), pk_un (by omega), pk_un (by omega), pk_un (by omega)]
    refine ⟨(hsc 0 (by omega) (by omega) (by omega)).trans h1, (hsc 1 (by omega) (by omega) (by omega)).trans h2, rfl, rfl, (hsc 4 (by omega) (by omega) (by omega)).trans h5, (hsc 5 (by omega) (by omega) (by omega)).trans h6, (hsc 6 (by omega) (by omega) (by omega)).trans h7, fun k hk => ?_, fun k hk => ?_, fun k hk => ?_, fun k hk => ?_, fun k hk => ?_, u1 tr x A.sp, fun k hk q => ?_, ?_⟩
    · have hk : k < A.n := hk
      exact (hsc (7 + k) (by omega) (by omega) (by omega)).trans (h8 k hk)
    · have hk : k < A.n := hk
      exact (hsc (17 + k) (by omega) (by omega) (by omega)).trans (h9 k hk)
    · show upd (upd (upd (upd (upd (upd (M.2.1 1) (27 + x) (oI (some (A.n - 1)))) (59 + x) v) (91 + x) v) (123 + x) (nI A.sp)) 3 (nI (A.sp + 1))) 2 (nI ((x + 1) % 32)) (27 + k) = oI (if k = x then some (A.n - 1) else A.ow k)
      rw [pk_un (by omega), pk_un (by omega), pk_un (by omega), pk_un (by omega), pk_un (by omega)]
      by_cases e : k = x
      · rw [if_pos e, e, pk_us]
      · rw [if_neg e, pk_un (by omega)]; exact h10 k hk
    · show upd (upd (upd (upd (upd (upd (M.2.1 1) (27 + x) (oI (some (A.n - 1)))) (59 + x) v) (91 + x) v) (123 + x) (nI A.sp)) 3 (nI (A.sp + 1))) 2 (nI ((x + 1) % 32)) (59 + k) = if k = x then v else A.sn k
      rw [pk_un (by omega), pk_un (by omega), pk_un (by omega), pk_un (by omega)]
      by_cases e : k = x
      · rw [if_pos e, e, pk_us]
      · rw [if_neg e, pk_un (by omega), pk_un (by omega)]; exact h11 k hk
    · show upd (upd (upd (upd (upd (upd (M.2.1 1) (27 + x) (oI (some (A.n - 1)))) (59 + x) v) (91 + x) v) (123 + x) (nI A.sp)) 3 (nI (A.sp + 1))) 2 (nI ((x + 1) % 32)) (91 + k) = if k = x then v else A.ca k
      rw [pk_un (by omega), pk_un (by omega), pk_un (by omega)]
      by_cases e : k = x
      · rw [if_pos e, e, pk_us]
      · rw [if_neg e, pk_un (by omega), pk_un (by omega), pk_un (by omega)]; exact h12 k hk
    · have q : (if k = x then some (A.n - 1) else A.ow k) ≠ none := q
      show upd (upd (upd (upd (upd (upd (M.2.1 1) (27 + x) (oI (some (A.n - 1)))) (59 + x) v) (91 + x) v) (123 + x) (nI A.sp)) 3 (nI (A.sp + 1))) 2 (nI ((x + 1) % 32)) (123 + k) = nI (if k = x then A.sp else tr k) ∧ (if k = x then A.sp else tr k) < A.sp + 1
      rw [pk_un (by omega), pk_un (by omega)]
      by_cases e : k = x
      · rw [if_pos e, e, pk_us]; exact ⟨rfl, Nat.lt_succ_self _⟩
      · rw [if_neg e] at q
        rw [if_neg e, pk_un (by omega), pk_un (by omega), pk_un (by omega), pk_un (by omega)]
        exact ⟨(h13 k hk q).1, Nat.lt_succ_of_lt (h13 k hk q).2⟩
    · show (A.od ++ [x]).Pairwise (fun i j => (if i = x then A.sp else tr i) < if j = x then A.sp else tr j)
      have hni : ∀ y ∈ A.od, y ≠ x := fun y hy q => ((INV_od hi y).mp hy).2 (q ▸ h0)
      rw [List.pairwise_append]
      refine ⟨?_, by simp, fun y hy z hz => ?_⟩
      · refine h14.imp_of_mem (fun {i j} hi hj q => ?_)
        rw [if_neg (hni i hi), if_neg (hni j hj)]
        exact q
      · have hz : z = x := by simpa using hz
        have hy' := (INV_od hi y).mp hy
        rw [if_neg (hni y hy), if_pos hz]
        exact (h13 y hy'.1 hy'.2).2
  · show upd (upd (upd (upd (upd (upd (M.2.1 1) (27 + x) (oI (some (A.n - 1)))) (59 + x) v) (91 + x) v) (123 + x) (nI A.sp)) 3 (nI (A.sp + 1))) 2 (nI ((x + 1) % 32)) k = _
    rw [pk_un (by omega), pk_un (by omega), pk_un (by omega), pk_un (by omega), pk_un (by omega), pk_un (by omega)]
theorem m_spk0 {A : AT} {M : MO} (hi : INV A) (hs : A.sp < 2 ^ 31) (h : RM A (M.2.1 1)) (hr : A.run = true) {x : Nat} (hx : x < 32) (hw : wr A x = true) (v : Int32) : ∀ (d f j : Nat), fwr A j d = some x → d < f → ∃ M', lpf3 b_X3_speaks_7 f v (nI ((A.hd + j) % 32)) M = some (nI x, M') ∧ RM (wri (fre A x) x v) (M'.2.1 1) ∧ FR M M'
  | 0, _, _, e, _ => by cases e
  | d + 1, f + 1, j, e, hf => by
    have hk : (A.hd + j) % 32 < 32 := Nat.mod_lt _ (by omega)
    have hd := INV_hd hi
    have ih := m_spk0 hi hs h hr hx hw v d f (j + 1)
    rw [lpf3_s]
    generalize lpf3 b_X3_speaks_7 f = K at ih ⊢
    rw [fwr_s] at e
    unfold b_X3_speaks_7
    rw [m_wr hi h hk, bd_some]
    cases e1 : wr A ((A.hd + j) % 32) with
    | false =>
      rw [e1] at e
      rw [if_pos (show bZ false = 0 from rfl), nm_eq, show nI ((A.hd + j) % 32) + 1 = nI ((A.hd + j) % 32 + 1) from nI_1 _, show (32 : Int32) = nI 32 from rfl, rem_nI (by omega) (by omega) (by omega), show ((A.hd + j) % 32 + 1) % 32 = (A.hd + (j + 1)) % 32 by omega]
      exact ih e (by omega)
    | true =>
      rw [e1] at e
      have e : (A.hd + j) % 32 = x := by simpa using e
      rw [if_neg (show ¬ bZ true = 0 by decide), e]
      obtain ⟨f1, f2, f3, f4, f5⟩ := fre_ok hi hr hx hw
      simp (disch := omega) only [show (27 : Int32) + nI x = nI (27 + x) from nI_add 27 x, gd_nI, nI_clamp, RM_ow h hx]
      cases e2 : A.ow x with
      | none =>
        rw [if_pos (show oI none = -1 from rfl)]
        have e3 : fre A x = A := fre_none e2
        rw [e3]
        exact m_wri hi hs h hr hx e2 v
      | some r =>
        have hrn := INV_ow hi hx r e2
        have hn := INV_n hi
        obtain ⟨M1, k1, k2, k3⟩ := m_loses hi hx hs h e2
        rw [if_neg (fun q => nI_m1 (n := r) (by omega) (show oI (some r) = -1 from q)), k1, bd_some]
        have e3 : fre A x = los A x r := fre_some e2
        rw [← e3] at k2
        obtain ⟨M2, k4, k5, k6⟩ := m_wri f1 (by rw [f4]; exact hs) k2 f2 hx f3 v
        exact ⟨M2, k4, k5, FR_t k3 k6⟩
theorem m_spk {A : AT} {M : MO} (hi : INV A) (hs : A.sp < 2 ^ 31) (h : RM A (M.2.1 1)) (hr : A.run = true) {x : Nat} (e : fwr A 0 32 = some x) (v : Int32) : ∃ M', f_X3_speaks v M = some (nI x, M') ∧ RM (spk A v) (M'.2.1 1) ∧ FR M M' := by
  have hd := INV_hd hi
  obtain ⟨hx, hw⟩ := fwr_sm A 32 0 x e
  have es : spk A v = wri (fre A x) x v := by unfold spk; rw [e]
  rw [es]
  unfold f_X3_speaks
  simp (disch := omega) only [nm_eq, show (2 : Int32) = nI 2 from rfl, gd_nI, nI_clamp, RM_hd h]
  obtain ⟨M1, k1, k2, k3⟩ := m_spk0 hi hs h hr hx hw v 32 FU 0 e (by decide)
  rw [show (A.hd + 0) % 32 = A.hd from Nat.mod_eq_of_lt hd] at k1
  exact ⟨M1, k1, k2, k3⟩
