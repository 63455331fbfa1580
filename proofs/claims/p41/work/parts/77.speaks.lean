/-! what is told of a recording; the law's sound -/
/-- all that is told of a recording -/
def tk (A : AT) (r : Nat) : Int64 := hc A (hm (Int32.toInt64 (nI (cnt A (some r)))) (Int32.toInt64 (A.lo r))) (cl A r)
theorem t_loop {A : AT} {S : BO} (hi : INV A) (h : RS A S.2.1) {r c : Nat} (hr : r < A.n) (el : f_X2_length (nI r) S = some (.inr (nI c))) (hlen : (cl A r).length = c) (hc32 : c ≤ 32) : ∀ (d f p : Nat) (z : Int64), p + d = c → d < f → lpf3 (b_L_talk_21 S) f (nI r) z (nI p) = some (hc A z ((cl A r).drop p))
  | 0, f + 1, p, z, hp, _ => by
    obtain rfl : p = c := hp
    rw [lpf3_s]
    unfold b_L_talk_21
    rw [el, bn_in, if_pos (Int32.le_refl _), List.drop_of_length_le (by omega)]
    rfl
  | d + 1, f + 1, p, z, hp, hf => by
    have hpl : p < (cl A r).length := by omega
    have hp31 : p < 2 ^ 31 := by omega
    have hk : ce A r p = some (cl A r)[p] := List.getElem?_eq_getElem hpl
    have eo : f_X2_cellOf (nI r) (nI p) S = some (.inr (nI (cl A r)[p])) := by rw [a_cellOf hi h hr hp31, hk]; rfl
    have es : f_X2_sound (nI r) (nI p) S = some (.inr (A.sn (cl A r)[p])) := by rw [a_sound hi h hr hp31, hk]; rfl
    have ec : f_X2_carbon (nI r) (nI p) S = some (.inr (A.ca (cl A r)[p])) := by rw [a_carbon hi h hr hp31, hk]; rfl
    have ih := fun z => t_loop hi h hr el hlen hc32 d f (p + 1) z (by omega) (by omega)
    rw [lpf3_s]
    generalize lpf3 (b_L_talk_21 S) f = K at ih ⊢
    unfold b_L_talk_21
    rw [el, bn_in, if_neg (by rw [nI_leI (by omega) hp31]; omega), eo, bn_in, es, bn_in, ec, bn_in, nm_eq, nm_eq, nI_s, List.drop_eq_getElem_cons hpl, hc_cons]
    exact ih _
theorem L_talk {A : AT} {S : BO} (hi : INV A) (h : RS A S.2.1) {r : Nat} (hr : r < A.n) : f_L_talk (nI r) S = some (tk A r) := by
  have := t_loop hi h hr (a_length hi h hr) (cl_len hi r) (cnt_le A _) (cnt A (some r)) FU 0 (hm (Int32.toInt64 (nI (cnt A (some r)))) (Int32.toInt64 (A.lo r))) (Nat.zero_add _) (Nat.lt_of_le_of_lt (cnt_le A _) (by decide))
  unfold f_L_talk
  rw [a_length hi h hr, bn_in, a_lost hi h hr, bn_in, nm_eq]
  exact this
theorem hc_congr {A C : AT} (l : List Nat) : ∀ (z : Int64), (∀ y ∈ l, C.sn y = A.sn y ∧ C.ca y = A.ca y) → hc C z l = hc A z l := by
  induction l with
  | nil => intro z _; unfold hc; rw [List.foldl_nil, List.foldl_nil]
  | cons x l ih =>
    intro z h
    rw [hc_cons, hc_cons, (h x (by simp)).1, (h x (by simp)).2]
    exact ih _ (fun y hy => h y (by simp [hy]))
theorem same_cnt {C A : AT} {q k : Nat} (hC : INV C) (hA : INV A) (h : Same C q A k) : cnt C (some q) = cnt A (some k) := by
  rw [← cl_len hC, ← cl_len hA, h.1]
theorem same_tk {C A : AT} {q k : Nat} (hC : INV C) (hA : INV A) (h : Same C q A k) : tk C q = tk A k := by
  unfold tk
  rw [same_cnt hC hA h, h.2.1, hc_congr _ _ h.2.2.2, h.1]
theorem L_isW {A : AT} {S : BO} (hi : INV A) (h : RS A S.2.1) {k : Nat} (hk : k < 32) : f_L_isWritable (nI k) S = some (bZ (wr A k)) := by
  have hn := INV_n hi
  unfold f_L_isWritable
  rw [a_owner h hk, bn_in]
  cases e : A.ow k with
  | none => rw [wr_none e, if_pos (show oI none = -1 from rfl)]; rfl
  | some r =>
    have hr := INV_ow hi hk r e
    rw [if_neg (show ¬ oI (some r) = -1 from fun z => nI_m1 (n := r) (by omega) z), a_run hi h, bd_some, wr_some e]
    by_cases q : rn A = some r
    · rw [if_pos (by rw [q]), if_pos q]; rfl
    · rw [if_neg (fun z => q ((oI_nI (rnB' hi) (by omega)).mp z.symm)), if_neg q, show f_X2_hasFlag (oI (some r)) S = some (.inr (bZ (A.fl r))) from a_flag hi h hr, bn_in]
      cases A.fl r <;> rfl
/-- the law goes on from the head to the first cell that may be written -/
theorem p_find {A : AT} {S : BO} (hi : INV A) (h : RS A S.2.1) {x : Nat} (v : Int32) : ∀ (d f j : Nat), j + d = 32 → d < f → fwr A j d = some x → ∃ K, lpf3 b_L_speaks_44 f v (nI ((A.hd + j) % 32)) S = b_L_speaks_44 K v (nI x) S
  | 0, f + 1, j, _, _, e => by cases e
  | d + 1, f + 1, j, hj, hf, e => by
    have hk : (A.hd + j) % 32 < 32 := Nat.mod_lt _ (by omega)
    rw [lpf3_s]
    rw [fwr_s] at e
    by_cases q : wr A ((A.hd + j) % 32) = true
    · rw [if_pos q] at e
      exact ⟨_, by rw [Option.some.inj e]⟩
    · rw [if_neg q] at e
      obtain ⟨K, ih⟩ := p_find hi h v d f (j + 1) (by omega) (by omega) e
      refine ⟨K, ?_⟩
      rw [← ih]
      generalize lpf3 b_L_speaks_44 f = K'
      unfold b_L_speaks_44
      have q : wr A ((A.hd + j) % 32) = false := by simpa using q
      rw [L_isW hi h hk, bd_some, q, if_pos (show bZ false = 0 from rfl), nm_eq, nI_s, show (32 : Int32) = nI 32 from rfl, rem_nI (by omega) (by omega) (by omega), show ((A.hd + j) % 32 + 1) % 32 = (A.hd + (j + 1)) % 32 by omega]
/-- what was told is kept in the two rows -/
def Kept (A : AT) (T : LO) (m : Nat) : Prop := ∀ i, i < m → T.2.1 i = tk A i ∧ T.2.2 i = bZ (A.fl i)
theorem p_fill {A : AT} {S : BO} (hi : INV A) (h : RS A S.2.1) {x1 x2 x3 x4 x5 x7 x8 x9 x10 : Int32} : ∀ (d f k : Nat) (T : LO), k + d = A.n → d < f → T.1 = S → Kept A T k → ∃ T', T'.1 = S ∧ Kept A T' A.n ∧ ∃ K, lpf12 b_L_speaks_138 f x1 x2 x3 x4 x5 (nI A.n) x7 x8 x9 x10 (nI k) T = b_L_speaks_138 K x1 x2 x3 x4 x5 (nI A.n) x7 x8 x9 x10 (nI A.n) T'
  | 0, f + 1, k, T, hd, _, hT, hK => by
    obtain rfl : k = A.n := hd
    exact ⟨T, hT, hK, _, lpf12_s _ _ _ _ _ _ _ _ _ _ _ _ _ _⟩
  | d + 1, f + 1, k, T, hd, hf, hT, hK => by
    have hn := INV_n hi
    have hk : k < A.n := by omega
    subst hT
    obtain ⟨T', t1, t2, K, t3⟩ := p_fill hi h (x1 := x1) (x2 := x2) (x3 := x3) (x4 := x4) (x5 := x5) (x7 := x7) (x8 := x8) (x9 := x9) (x10 := x10) d f (k + 1) (T.1, vp_updL T.2.1 k (tk A k), upd T.2.2 k (bZ (A.fl k))) (by omega) (by omega) rfl (fun i hi2 => by
      show (if i = k then tk A k else T.2.1 i) = tk A i ∧ (if i = k then bZ (A.fl k) else T.2.2 i) = bZ (A.fl i)
      by_cases e : i = k
      · rw [if_pos e, if_pos e, e]; exact ⟨rfl, rfl⟩
      · rw [if_neg e, if_neg e]; exact hK i (by omega))
    refine ⟨T', t1, t2, K, ?_⟩
    rw [← t3, lpf12_s]
    generalize lpf12 b_L_speaks_138 f = K'
    conv => lhs; unfold b_L_speaks_138
    have ef : f_X2_hasFlag (nI k) T.1 = some (.inr (bZ (A.fl k))) := a_flag hi h hk
    rw [if_neg (by rw [nI_leI (by omega) (by omega)]; omega), L_talk hi h hk, bd_some, gd_nI (by omega) (by decide), nm_eq, ef, bn_in]
    unfold c_L_speaks_174
    rw [gd_nI (by omega) (by decide), gd_nI (by omega) (by decide), nm_eq, nm_eq, nm_eq, nm_eq, nI_clamp (by omega), nI_s]
    cases A.fl k with
    | false => exact if_pos rfl
    | true => exact if_neg (by decide)
/-- each other recording is told as before -/
theorem p_cmp {A C : AT} {S' : BO} (hA : INV A) (hC : INV C) (h : RS C S'.2.1) {x v c : Nat} (hr : A.run = true) (hx : x < 32) (T : LO) (hK : Kept A T A.n) (hs : ∀ k, k < A.n → k ≠ A.n - 1 → A.ow x ≠ some k → thn A x k < C.n ∧ Same C (thn A x k) A k) : ∀ (d f k : Nat), k + d = A.n → d < f → ∃ K, lpf10 b_L_speaks_309 f (nI v) (nI x) (oI (A.ow x)) (nI A.n) (nI (A.n - 1)) (nI c) (bZ (lastQ A x)) 1 (nI k) (S', T.2) = b_L_speaks_309 K (nI v) (nI x) (oI (A.ow x)) (nI A.n) (nI (A.n - 1)) (nI c) (bZ (lastQ A x)) 1 (nI A.n) (S', T.2)
  | 0, f + 1, k, hd, _ => by
    obtain rfl : k = A.n := hd
    exact ⟨_, lpf10_s _ _ _ _ _ _ _ _ _ _ _ _⟩
  | d + 1, f + 1, k, hd, hf => by
    have hn := INV_n hA
    have hk : k < A.n := by omega
    have hk31 : k < 2 ^ 31 := by omega
    obtain ⟨K, ih⟩ := p_cmp hA hC h (v := v) (c := c) hr hx T hK hs d f (k + 1) (by omega) (by omega)
    refine ⟨K, ?_⟩
    rw [← ih, lpf10_s]
    generalize lpf10 b_L_speaks_309 f = K'
    have k336 : c_L_speaks_336 K' (nI v) (nI x) (oI (A.ow x)) (nI A.n) (nI (A.n - 1)) (nI c) (bZ (lastQ A x)) 1 (nI k) (nI (thn A x k)) (S', T.2) = K' (nI v) (nI x) (oI (A.ow x)) (nI A.n) (nI (A.n - 1)) (nI c) (bZ (lastQ A x)) 1 (nI (k + 1)) (S', T.2) := by
      unfold c_L_speaks_336
      rw [if_neg (show ¬ (1 : Int32) = 0 by decide)]
      by_cases e1 : k = A.n - 1
      · rw [if_pos (by rw [e1]), nm_eq, nI_s]
      · rw [if_neg (fun z => e1 ((nI_eq hk31 (by omega)).mp z))]
        by_cases e2 : A.ow x = some k
        · rw [if_pos (by rw [e2]; rfl), nm_eq, nI_s]
        · obtain ⟨w1, w2⟩ := hs k hk e1 e2
          obtain ⟨q1, q2⟩ := hK k hk
          have ef : f_X2_hasFlag (nI (thn A x k)) S' = some (.inr (bZ (A.fl k))) := by rw [a_flag hC h w1, w2.2.2.1]
          rw [if_neg (fun z => e2 ((oI_nI (owB hA hx) hk31).mp z.symm)), show f_L_talk (nI (thn A x k)) (S', T.2).1 = some (tk A k) from by rw [← same_tk hC hA w2]; exact L_talk hC h w1, bd_some, gd_nI (by omega) (by decide), nI_clamp hk31]
          show (if lg_cmp (tk A k) (T.2.1 k) = 0 then _ else _) = _
          rw [q1, if_pos ((lg_cmp_eq _ _).mpr rfl), ef, bn_in, gd_nI (by omega) (by decide)]
          show (if T.2.2 k = 1 then _ else _) = _
          rw [q2]
          unfold c_L_speaks_391
          cases A.fl k with
          | false => rw [if_neg (show ¬ bZ false = 1 by decide), if_pos (show bZ false = 0 from rfl), nm_eq, nI_s]
          | true => rw [if_pos (show bZ true = 1 from rfl), if_pos (show bZ true = 1 from rfl), nm_eq, nI_s]
    conv => lhs; unfold b_L_speaks_309
    rw [if_neg (by rw [nI_leI (by omega) hk31]; omega)]
    unfold c_L_speaks_334
    cases e : A.ow x with
    | none =>
      rw [e, thn_none e, lastQ_none e] at k336
      rw [lastQ_none e, if_pos (show bZ false = 0 from rfl)]
      exact k336
    | some r =>
      have hrr := INV_ow hA hx r e
      rw [e, thn_some e] at k336
      cases el : lastQ A x with
      | false =>
        rw [el, if_neg (fun z => Bool.noConfusion z.1)] at k336
        rw [if_pos (show bZ false = 0 from rfl)]
        exact k336
      | true =>
        rw [el] at k336
        rw [if_neg (show ¬ bZ true = 0 by decide)]
        by_cases q : r < k
        · rw [if_pos ⟨rfl, q⟩] at k336
          rw [if_neg (by rw [oI_some, nI_leI hk31 (by omega)]; omega), show nI k - 1 = nI (k - 1) from sub_nI (b := 1) (by omega)]
          exact k336
        · rw [if_neg (fun z => q z.2)] at k336
          rw [if_pos (by rw [oI_some, nI_leI hk31 (by omega)]; omega)]
          exact k336
/-- nothing is running, or no cell may be written: the first recording's flag stays -/
theorem p_15 {A : AT} {S : BO} {c ns : Nat} (hi : INV A) (h : RS A S.2.1) (hv : SVs c ns S) (hn : 0 < A.n) : ∃ S', c_L_speaks_15 S = some (1, S') ∧ AF A (sFL A (u1 A.fl 0 (A.fl 0)) A.lo) c ns S' := by
  obtain ⟨S', k1, k2⟩ := c_setFlag hi h hv hn (A.fl 0)
  refine ⟨S', ?_, k2⟩
  have e1 : f_X2_hasFlag 0 S = some (.inr (bZ (A.fl 0))) := a_flag hi h hn
  have e2 : f_X2_hasFlag 0 S' = some (.inr (bZ (A.fl 0))) := (a_flag (A := sFL A (u1 A.fl 0 (A.fl 0)) A.lo) hi k2.1 hn).trans (by
    show some (Sum.inr (bZ (if 0 = 0 then A.fl 0 else A.fl 0))) = _
    rw [if_pos rfl])
  unfold c_L_speaks_15
  rw [e1, bn_in, show f_X2_setFlag 0 (bZ (A.fl 0)) S = some (.inr (bZ (A.fl 0)), S') from k1, bn2_in, e2, bn_in, if_pos rfl]
theorem fl_0 (A : AT) : sFL A (u1 A.fl 0 (A.fl 0)) A.lo = A := by
  rw [u1_self rfl]
