/-! the next loser, what is lost -/
theorem s_cfh {A : AT} {S : OB} (hi : INV A) (h : RS A S) {j : Nat} (hj : j < 32) : f_X1_cellFromHead (nI j) S = some (nI ((A.hd + j) % 32)) := by
  have := INV_hd hi
  unfold f_X1_cellFromHead
  rw [RS_hd h, nI_add, show (32 : Int32) = nI 32 from rfl, rem_nI (by omega) (by omega) (by omega)]
def lsr (A : AT) : Nat → Nat → Option Nat
  | _, 0 => none
  | j, d + 1 => match A.ow ((A.hd + j) % 32) with
    | none => lsr A (j + 1) d
    | some r => if wr A ((A.hd + j) % 32) then some r else lsr A (j + 1) d
theorem lsr_s (A : AT) (j d : Nat) : lsr A j (d + 1) = match A.ow ((A.hd + j) % 32) with
    | none => lsr A (j + 1) d
    | some r => if wr A ((A.hd + j) % 32) then some r else lsr A (j + 1) d := rfl
theorem s_lsr0 {A : AT} {S : OB} (hi : INV A) (h : RS A S) : ∀ (d f j : Nat), j + d = 32 → d < f → lpf1 (b_X1_firstLoser_2 S) f (nI j) = some (oI (lsr A j d))
  | 0, f + 1, j, hj, _ => by
    obtain rfl : j = 32 := hj
    show b_X1_firstLoser_2 S _ (nI 32) = _
    unfold b_X1_firstLoser_2
    simp (disch := omega) only [nm_eq, lit, nI_leI, Nat.le_refl, if_true]
    rfl
  | d + 1, f + 1, j, hj, hf => by
    have hk : (A.hd + j) % 32 < 32 := Nat.mod_lt _ (by omega)
    have ih := s_lsr0 hi h d f (j + 1) (by omega) (by omega)
    show b_X1_firstLoser_2 S (lpf1 (b_X1_firstLoser_2 S) f) (nI j) = _
    generalize lpf1 (b_X1_firstLoser_2 S) f = K at ih ⊢
    unfold b_X1_firstLoser_2
    rw [s_cfh hi h (by omega)]
    simp (disch := omega) only [nm_eq, bd_some, lit, neg1, nI_leI, vAt_nI, RS_ow h hk, s_wr hi h hk, oI_eq (owB hi hk) (fun r (e : none = some r) => by cases e), nI_add, bZ0]
    rw [if_neg (by omega), ih]
    rw [lsr_s]
    cases e : A.ow ((A.hd + j) % 32) with
    | none => simp
    | some r => cases e2 : wr A ((A.hd + j) % 32) <;> simp
theorem s_lsr {A : AT} {S : OB} (hi : INV A) (h : RS A S) : f_X1_firstLoser S = some (oI (lsr A 0 32)) := s_lsr0 hi h 32 FU 0 rfl (by decide)
def lsa (A : AT) (r : Nat) : Nat → Nat → Nat → Nat → Nat
  | _, c, _, 0 => c
  | m, c, j, d + 1 => if m = 0 then c else if wr A ((A.hd + j) % 32) then lsa A r (m - 1) (c + if A.ow ((A.hd + j) % 32) = some r then 1 else 0) (j + 1) d else lsa A r m c (j + 1) d
theorem lsa_le (A : AT) (r : Nat) : ∀ d m c j, lsa A r m c j d ≤ c + d
  | 0, m, c, j => Nat.le_refl c
  | d + 1, m, c, j => by
    unfold lsa
    split
    · omega
    · split
      · exact Nat.le_trans (lsa_le A r d _ _ _) (by split <;> omega)
      · exact Nat.le_trans (lsa_le A r d _ _ _) (by omega)
theorem s_lsa0 {A : AT} {S : OB} (hi : INV A) (h : RS A S) {r : Nat} (hr : r < A.n) : ∀ (d f m c j : Nat), j + d = 32 → d < f → m ≤ 32 → lpf4 (b_X1_lossAfter_8 S) f (nI r) (nI m) (nI c) (nI j) = some (nI (lsa A r m c j d))
  | 0, f + 1, m, c, j, hj, _, _ => by
    obtain rfl : j = 32 := hj
    show b_X1_lossAfter_8 S _ _ _ _ (nI 32) = _
    unfold b_X1_lossAfter_8
    simp (disch := omega) only [nm_eq, lit, nI_leI, Nat.le_refl, if_true]
    rfl
  | d + 1, f + 1, m, c, j, hj, hf, hm => by
    have hn := INV_n hi
    have hk : (A.hd + j) % 32 < 32 := Nat.mod_lt _ (by omega)
    have ih := fun m c (hm : m ≤ 32) => s_lsa0 hi h hr d f m c (j + 1) (by omega) (by omega) hm
    show b_X1_lossAfter_8 S (lpf4 (b_X1_lossAfter_8 S) f) (nI r) (nI m) (nI c) (nI j) = _
    generalize lpf4 (b_X1_lossAfter_8 S) f = K at ih ⊢
    unfold b_X1_lossAfter_8
    rw [s_cfh hi h (by omega), show (-1 : Int32) = 0 - nI 1 from by decide]
    simp (disch := omega) only [nm_eq, bd_some, lit, nI_leI, vAt_nI, RS_ow h hk, s_wr hi h hk, oI_nI (owB hi hk), nI_add, bZ0]
    rw [if_neg (by omega)]
    unfold lsa
    by_cases h0 : m = 0
    · rw [if_pos (by omega), if_pos h0]
    · obtain ⟨m, rfl⟩ : ∃ q, m = q + 1 := ⟨m - 1, by omega⟩
      rw [if_neg (by omega), if_neg h0, show nI (m + 1) + (nI 0 - nI 1) = nI m from by rw [← nI_pred m, show (1 : Int32) = nI 1 from rfl, show nI 0 - nI 1 = -(nI 1) from by decide, Int32.sub_eq_add_neg]]
      cases e2 : wr A ((A.hd + j) % 32) with
      | false => 
        simp only [if_true, Bool.false_eq_true, if_false]
        exact ih (m + 1) c hm
      | true =>
        simp only [Bool.true_eq_false, if_true, if_false, Nat.add_sub_cancel]
        by_cases e3 : A.ow ((A.hd + j) % 32) = some r
        · rw [if_pos e3, if_pos e3]
          exact ih m (c + 1) (by omega)
        · rw [if_neg e3, if_neg e3]
          exact ih m c (by omega)
theorem s_lsa {A : AT} {S : OB} (hi : INV A) (h : RS A S) {r m : Nat} (hr : r < A.n) (hm : m ≤ 32) : f_X1_lossAfter (nI r) (nI m) S = some (nI (lsa A r m 0 0 32)) := s_lsa0 hi h hr 32 FU m 0 0 rfl (by decide) hm
/-! the order in which the cells were written -/
/-- how many of them lie before x -/
def bf (p : Nat → Bool) (x : Nat) : List Nat → Nat
  | [] => 0
  | y :: l => if y = x then 0 else (if p y then 1 else 0) + bf p x l
/-- the one at a place -/
def at_ (p : Nat → Bool) : List Nat → Nat → Option Nat
  | [], _ => none
  | y :: l, i => if p y then (if i = 0 then some y else at_ p l (i - 1)) else at_ p l i
theorem at_bf {p : Nat → Bool} : ∀ {l : List Nat} {i x : Nat}, l.Nodup → (at_ p l i = some x ↔ x ∈ l ∧ p x = true ∧ bf p x l = i)
  | [], i, x, _ => by simp [at_]
  | y :: l, i, x, hn => by
    have hy := (List.nodup_cons.mp hn).1
    have ih := @at_bf p l
    unfold at_ bf
    cases e : p y with
    | false =>
      simp only [Bool.false_eq_true, if_false, Nat.zero_add]
      rw [ih (List.nodup_cons.mp hn).2]
      constructor
      · rintro ⟨h1, h2, h3⟩
        have : y ≠ x := fun q => hy (q ▸ h1)
        exact ⟨by simp [h1], h2, by rw [if_neg this]; exact h3⟩
      · rintro ⟨h1, h2, h3⟩
        have : y ≠ x := fun q => by rw [q, h2] at e; cases e
        rw [if_neg this] at h3
        refine ⟨?_, h2, h3⟩
        rcases List.mem_cons.mp h1 with q | q
        · exact absurd q.symm this
        · exact q
    | true =>
      simp only [if_true]
      by_cases h0 : i = 0
      · subst h0
        rw [if_pos rfl]
        constructor
        · rintro q; cases q; exact ⟨by simp, e, by simp⟩
        · rintro ⟨h1, h2, h3⟩
          by_cases q : y = x
          · rw [q]
          · rw [if_neg q] at h3; omega
      · rw [if_neg h0, ih (List.nodup_cons.mp hn).2]
        constructor
        · rintro ⟨h1, h2, h3⟩
          have : y ≠ x := fun q => hy (q ▸ h1)
          exact ⟨by simp [h1], h2, by rw [if_neg this]; omega⟩
        · rintro ⟨h1, h2, h3⟩
          have : y ≠ x := fun q => by rw [if_pos q] at h3; omega
          rw [if_neg this] at h3
          refine ⟨?_, h2, by omega⟩
          rcases List.mem_cons.mp h1 with q | q
          · exact absurd q.symm this
          · exact q
/-- the places by the turns -/
theorem bf_cp {p : Nat → Bool} {tr : Nat → Nat} : ∀ {l : List Nat} {x : Nat}, l.Nodup → (∀ y ∈ l, y < 32) → l.Pairwise (fun i j => tr i < tr j) → x ∈ l → cp (fun k => decide (k ∈ l) && p k && decide (tr k < tr x)) 0 32 = bf p x l
  | y :: l, x, hn, hb, hp, hx => by
    have hy := (List.nodup_cons.mp hn).1
    have hp1 := (List.pairwise_cons.mp hp).1
    unfold bf
    by_cases q : y = x
    · subst q
      rw [if_pos rfl]
      refine cp_zero 32 0 (fun k _ _ => ?_)
      by_cases hk : k ∈ y :: l
      · rcases List.mem_cons.mp hk with r | r
        · subst r; simp
        · have := hp1 k r
          simp [Nat.not_lt.mpr (Nat.le_of_lt this)]
      · simp [hk]
    · have hx' : x ∈ l := by
        rcases List.mem_cons.mp hx with r | r
        · exact absurd r.symm q
        · exact r
      have ht := hp1 x hx'
      rw [if_neg q, ← bf_cp (p := p) (tr := tr) (List.nodup_cons.mp hn).2 (fun z hz => hb z (by simp [hz])) (List.pairwise_cons.mp hp).2 hx']
      cases e : p y with
      | false =>
        simp only [Bool.false_eq_true, if_false, Nat.zero_add]
        refine cp_congr 32 0 (fun k _ _ => ?_)
        by_cases r : k = y
        · subst r; simp [e]
        · simp [r]
      | true =>
        simp only [if_true]
        rw [Nat.add_comm]
        refine cp_one (a := y) (by simp [e, ht]) (by simp [hy]) (fun k hk => by simp [hk]) 32 0 (by omega) (by have := hb y (by simp); omega)
