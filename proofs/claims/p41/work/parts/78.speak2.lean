/-! the law's sound, whole -/
def spkA (A : AT) (v : Nat) : AT := if A.run = true ∧ 0 < wrc A then spk A (nI v) else A
theorem nI_bZ (b : Bool) : nI (if b = true then 1 else 0) = bZ b := by cases b <;> rfl
theorem p_199 {A : AT} {S : BO} {c ns : Nat} (hj : JN A) (h : RS A S.2.1) (hv : SVs c ns S) (hr : A.run = true) (hw0 : 0 < wrc A) {v x l : Nat} (hv9 : v ≤ 99) (ex : fwr A 0 32 = some x) (hl : cnt A (some (A.n - 1)) = l) (hl32 : l ≤ 32) (T : LO) (hT : T.1 = S) (hK : Kept A T A.n) {t0 : Int32} (ht : t0 = if A.ow x = none then 0 else 1) : ∃ S', c_L_speaks_199 (nI v) (nI x) (oI (A.ow x)) (nI A.go) (nI A.sp) (nI A.n) (nI (A.n - 1)) (nI l) (bZ (lastQ A x)) t0 (bZ (lastQ A x)) T = some (1, S') ∧ AF A (spk A (nI v)) c ns S' := by
  have hi := hj.1
  obtain ⟨x', e', hx, hw, C1, C2, C3, C4, C5, C6, C7, C8, C9, C10, C11, C12⟩ := spk_told hj hr hw0 hv9
  obtain rfl : x' = x := Option.some.inj (e'.symm.trans ex)
  obtain ⟨S', k1, k2⟩ := c_speak hi h hv hr hw0 hv9
  refine ⟨S', ?_, k2⟩
  have hS := k2.1
  rw [ex] at k1
  generalize hC : spk A (nI v) = C at *
  have hiC := C1.1
  have hn := INV_n hi
  have h0 := INV_r hi hr
  have hnC := INV_n hiC
  have hCn : C.n - 1 < C.n := by omega
  subst hT
  unfold c_L_speaks_199
  have eh : (nI x' + 1) - (nI x' + 1) / 32 * 32 = nI C.hd := by rw [nI_s, show (32 : Int32) = nI 32 from rfl, rem_nI (by omega) (by omega) (by omega), C3]
  have eg : nI A.go + bZ (lastQ A x') = nI C.go := by rw [← nI_bZ, nI_add, C8]
  have en : nI A.n - bZ (lastQ A x') = nI C.n := by
    rw [← nI_bZ, sub_nI (by split <;> omega), C7]
  have er : f_X2_running S' = some (nI (C.n - 1)) := by rw [a_run hiC hS, rn_run C2]; rfl
  rw [k1, bn2_in, nm_eq, if_pos (show oI (some x') = nI x' from rfl), show f_X2_head (S', T.2).1 = some (nI C.hd) from a_head hS, bd_some, if_pos eh.symm, show f_X2_spoken (S', T.2).1 = some (nI C.sp) from a_spoken hS, bd_some, if_pos (show nI C.sp = nI A.sp + 1 by rw [nI_s, C4]), show f_X2_gone (S', T.2).1 = some (nI C.go) from a_gone hS, bd_some, if_pos eg.symm]
  -- what is left
  have hce : ce C (C.n - 1) l = some x' := by
    unfold ce
    rw [C9, List.getElem?_append_right (by rw [cl_len hi]; exact Nat.le_of_eq hl), cl_len hi, hl, Nat.sub_self]
    rfl
  have hlC : cnt C (some (C.n - 1)) = l + 1 := by
    rw [← cl_len hiC, C9, List.length_append, cl_len hi, hl]
    rfl
  have k309 : lpf10 b_L_speaks_309 FU (nI v) (nI x') (oI (A.ow x')) (nI A.n) (nI (A.n - 1)) (nI l) (bZ (lastQ A x')) 1 0 (S', T.2) = some (1, S') := by
    obtain ⟨K, e1⟩ := p_cmp hi hiC hS (v := v) (c := l) hr hx T hK C12 A.n FU 0 (Nat.zero_add _) (Nat.lt_of_le_of_lt hn (by decide))
    refine e1.trans ?_
    have hl31 : l < 2 ^ 31 := Nat.lt_of_le_of_lt hl32 (by decide)
    have l1 : f_X2_length (nI (C.n - 1)) S' = some (.inr (nI (l + 1))) := by rw [a_length hiC hS hCn, hlC]
    have l2 : f_X2_sound (nI (C.n - 1)) (nI l) S' = some (.inr (nI v)) := by rw [a_sound hiC hS hCn hl31, hce]; exact congrArg (fun z => some (Sum.inr z)) C10
    have l3 : f_X2_carbon (nI (C.n - 1)) (nI l) S' = some (.inr (nI v)) := by rw [a_carbon hiC hS hCn hl31, hce]; exact congrArg (fun z => some (Sum.inr z)) C11
    have l4 : f_X2_cellOf (nI (C.n - 1)) (nI l) S' = some (.inr (nI x')) := by rw [a_cellOf hiC hS hCn hl31, hce]; rfl
    unfold b_L_speaks_309
    rw [if_pos (Int32.le_refl _), er, bd_some, if_neg (show ¬ (1 : Int32) = 0 by decide), l1, bn_in, if_pos (nI_s l).symm, l2, bn_in, if_pos rfl, l3, bn_in, if_pos rfl, l4, bn_in, if_pos rfl]
  have k272 : ∀ t, c_L_speaks_272 (nI v) (nI x') (oI (A.ow x')) (nI A.n) (nI (A.n - 1)) (nI l) (bZ (lastQ A x')) (bZ (lastQ A x')) t t (S', T.2) = some (1, S') := fun t => by
    unfold c_L_speaks_272
    have eo : f_X2_owner (nI x') S' = some (.inr (nI (C.n - 1))) := by rw [a_owner hS hx, C6]; rfl
    rw [if_pos rfl, show f_X2_recordings (S', T.2).1 = some (nI C.n) from a_recs hS, bd_some, if_pos en.symm, eo, bn_in, er, bd_some, if_pos rfl]
    exact k309
  have k258 : ∀ t, c_L_speaks_258 (nI v) (nI x') (oI (A.ow x')) (nI A.n) (nI (A.n - 1)) (nI l) (bZ (lastQ A x')) t0 (bZ (lastQ A x')) t t (S', T.2) = some (1, S') := fun t => by
    unfold c_L_speaks_258
    rw [if_pos rfl]
    cases e : A.ow x' with
    | none =>
      rw [e, if_pos rfl] at ht
      rw [e] at k272
      rw [if_neg (show ¬ (0 : Int32) ≤ oI none by decide), ht]
      exact k272 0
    | some r =>
      have hrr := INV_ow hi hx r e
      rw [e, if_neg (by simp)] at ht
      rw [e] at k272
      rw [if_pos (show (0 : Int32) ≤ oI (some r) from nI_pos' (by omega)), ht]
      exact k272 1
  cases el : lastQ A x' with
  | false => rw [el] at k258; rw [if_pos (show bZ false = 0 from rfl)]; exact k258 0
  | true => rw [el] at k258; rw [if_neg (show ¬ bZ true = 0 by decide)]; exact k258 1
theorem p_121 {A : AT} {S : BO} {c ns : Nat} (hj : JN A) (h : RS A S.2.1) (hv : SVs c ns S) (hr : A.run = true) (hw0 : 0 < wrc A) {v x l : Nat} (hv9 : v ≤ 99) (ex : fwr A 0 32 = some x) (hx : x < 32) (hl : cnt A (some (A.n - 1)) = l) (hl32 : l ≤ 32) {t0 : Int32} (ht : t0 = if A.ow x = none then 0 else 1) : ∃ S', c_L_speaks_121 (nI v) (nI x) (oI (A.ow x)) (nI A.go) (nI A.sp) (nI A.n) (nI (A.n - 1)) (nI l) (bZ (lastQ A x)) t0 S = some (1, S') ∧ AF A (spk A (nI v)) c ns S' := by
  have hi := hj.1
  have hn := INV_n hi
  obtain ⟨T, t1, t2, K, t3⟩ := p_fill hi h (x1 := nI v) (x2 := nI x) (x3 := oI (A.ow x)) (x4 := nI A.go) (x5 := nI A.sp) (x7 := nI (A.n - 1)) (x8 := nI l) (x9 := bZ (lastQ A x)) (x10 := t0) A.n FU 0 (S, (fun _ => 0), (fun _ => 0)) (Nat.zero_add _) (Nat.lt_of_le_of_lt hn (by decide)) rfl (fun i q => absurd q (Nat.not_lt_zero i))
  obtain ⟨S', k1, k2⟩ := p_199 hj h hv hr hw0 hv9 ex hl hl32 T t1 t2 ht
  refine ⟨S', ?_, k2⟩
  unfold c_L_speaks_121
  rw [nm_eq]
  refine t3.trans ?_
  unfold b_L_speaks_138 c_L_speaks_198
  rw [if_pos (Int32.le_refl _), t1]
  cases e : A.ow x with
  | none =>
    rw [e, lastQ_none e] at k1
    rw [lastQ_none e, if_pos (show oI none < 0 by decide)]
    exact k1
  | some r =>
    have hrr := INV_ow hi hx r e
    rw [e, lastQ_some e] at k1
    rw [lastQ_some e, if_neg (show ¬ oI (some r) < 0 from nI_pos (by omega)), show f_X2_length (oI (some r)) S = some (.inr (nI (cnt A (some r)))) from a_length hi h hrr, bn_in]
    by_cases q : cnt A (some r) = 1
    · rw [decide_eq_true q] at k1
      rw [decide_eq_true q, if_pos (by rw [q]; rfl)]
      exact k1
    · rw [decide_eq_false q] at k1
      rw [decide_eq_false q, if_neg (show ¬ nI (cnt A (some r)) = 1 from fun z => q ((nI_eq (b := 1) (Nat.lt_of_le_of_lt (cnt_le A _) (by decide)) (by decide)).mp z))]
      exact k1
theorem L_speaks {A : AT} {S : BO} {c ns : Nat} (hj : JN A) (h : RS A S.2.1) (hv : SVs c ns S) (hn0 : 0 < A.n) {v : Nat} (hv9 : v ≤ 99) : ∃ S', f_L_speaks (nI v) S = some (1, S') ∧ AF A (spkA A v) c ns S' := by
  have hi := hj.1
  have hn := INV_n hi
  have idle : ¬ (A.run = true ∧ 0 < wrc A) → ∃ S', c_L_speaks_15 S = some (1, S') ∧ AF A (spkA A v) c ns S' := fun q => by
    obtain ⟨S', k1, k2⟩ := p_15 hi h hv hn0
    rw [fl_0] at k2
    unfold spkA
    rw [if_neg q]
    exact ⟨S', k1, k2⟩
  unfold f_L_speaks
  rw [a_run hi h, bd_some]
  cases er : A.run with
  | false =>
    rw [rn_none er, if_pos (show oI none = -1 from rfl)]
    exact idle (fun z => by rw [er] at z; exact Bool.noConfusion z.1)
  | true =>
    have h0 := INV_r hi er
    rw [rn_run er, if_neg (show ¬ oI (some (A.n - 1)) = -1 from fun z => nI_m1 (n := A.n - 1) (by omega) z), a_room hi h, bd_some]
    by_cases hw : wrc A = 0
    · rw [if_pos (by rw [hw]; rfl)]
      exact idle (fun z => by rw [hw] at z; exact Nat.lt_irrefl 0 z.2)
    · have hw0 : 0 < wrc A := Nat.pos_of_ne_zero hw
      have hwb : wrc A < 2 ^ 31 := Nat.lt_of_le_of_lt (show wrc A ≤ 32 from cp_le _ _ _) (by decide)
      obtain ⟨x, ex, hx, hwx, _⟩ := spk_told hj er hw0 hv9
      have hd := INV_hd hi
      obtain ⟨K, e1⟩ := p_find hi h (nI v) 32 FU 0 rfl (by decide) ex
      rw [Nat.add_zero, Nat.mod_eq_of_lt hd] at e1
      have eg : f_X2_goneAfter 1 S = some (.inr (bZ (lastQ A x))) := by
        rw [show f_X2_goneAfter 1 S = some (.inr (nI (ga A 1))) from a_goneAfter hi h (m := 1) (by omega) (by omega), ga_1 hi hx ex, nI_bZ]
      rw [if_neg (show ¬ nI (wrc A) = 0 from fun z => hw ((nI_eq (b := 0) hwb (by decide)).mp z)), a_head h, bd_some, e1]
      unfold b_L_speaks_44 spkA
      rw [if_pos ⟨er, hw0⟩, L_isW hi h hx, bd_some, hwx, if_neg (show ¬ bZ true = 0 by decide), a_owner h hx, bn_in, a_gone h, bd_some, a_spoken h, bd_some, a_recs h, bd_some, a_run hi h, bd_some, rn_run er, show f_X2_length (oI (some (A.n - 1))) S = some (.inr (nI (cnt A (some (A.n - 1))))) from a_length hi h (by omega), bn_in, eg, bn_in]
      obtain ⟨l, hl⟩ : ∃ l, cnt A (some (A.n - 1)) = l := ⟨_, rfl⟩
      have hl32 : l ≤ 32 := hl ▸ cnt_le A _
      rw [hl]
      cases e : A.ow x with
      | none =>
        obtain ⟨S', k1, k2⟩ := p_121 hj h hv er hw0 hv9 ex hx hl hl32 (t0 := 0) (by rw [e, if_pos rfl])
        rw [e] at k1
        rw [if_neg (show ¬ (0 : Int32) ≤ oI none by decide)]
        exact ⟨S', k1, k2⟩
      | some r =>
        have hrr := INV_ow hi hx r e
        obtain ⟨S', k1, k2⟩ := p_121 hj h hv er hw0 hv9 ex hx hl hl32 (t0 := 1) (by rw [e, if_neg (by simp)])
        rw [e] at k1
        have ell : f_X2_lossOf (oI (some r)) 1 S = some (.inr 1) := by
          rw [show f_X2_lossOf (oI (some r)) 1 S = some (.inr (nI (ls A r 1))) from a_loss hi h hrr (m := 1) (by omega) (by omega), ls_1 ex, if_pos e]
          rfl
        rw [if_pos (show (0 : Int32) ≤ oI (some r) from nI_pos' (Nat.lt_trans (Nat.lt_of_lt_of_le hrr hn) (by decide))), ell, bn_in]
        exact ⟨S', k1, k2⟩
theorem J_spkA {A : AT} (hj : JN A) {v : Nat} (hv9 : v ≤ 99) : JN (spkA A v) ∧ (spkA A v).sp ≤ A.sp + 1 := by
  unfold spkA
  by_cases q : A.run = true ∧ 0 < wrc A
  · rw [if_pos q]
    obtain ⟨x, _, _, _, C1, _, _, C4, _⟩ := spk_told hj q.1 q.2 hv9
    exact ⟨C1, Nat.le_of_eq C4⟩
  · rw [if_neg q]
    exact ⟨hj, Nat.le_succ _⟩
