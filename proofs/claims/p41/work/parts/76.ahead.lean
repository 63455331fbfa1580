/-! forecasts -/
/-- of the first m places with w: how many have q -/
def lsq (w q : Nat → Bool) : Nat → Nat → Nat → Nat
  | _, _, 0 => 0
  | m, j, d + 1 => if m = 0 then 0 else if w j then (if q j then 1 else 0) + lsq w q (m - 1) (j + 1) d else lsq w q m (j + 1) d
theorem lsq_s (w q : Nat → Bool) (m j d : Nat) : lsq w q m j (d + 1) = if m = 0 then 0 else if w j then (if q j then 1 else 0) + lsq w q (m - 1) (j + 1) d else lsq w q m (j + 1) d := rfl
theorem lsq_0 (w q : Nat → Bool) : ∀ d j, lsq w q 0 j d = 0
  | 0, _ => rfl
  | d + 1, j => by rw [lsq_s, if_pos rfl]
theorem cp_s (p : Nat → Bool) (j d : Nat) : cp p j (d + 1) = (if p j then 1 else 0) + cp p (j + 1) d := rfl
theorem lsq_add {w p q s : Nat → Bool} (h : ∀ i, (if s i then 1 else 0) = (if p i then 1 else 0) + (if q i then (1 : Nat) else 0)) : ∀ d m j, lsq w s m j d = lsq w p m j d + lsq w q m j d
  | 0, _, _ => rfl
  | d + 1, m, j => by
    rw [lsq_s, lsq_s, lsq_s]
    by_cases e : m = 0
    · rw [if_pos e, if_pos e, if_pos e]
    · rw [if_neg e, if_neg e, if_neg e]
      by_cases e2 : w j = true
      · rw [if_pos e2, if_pos e2, if_pos e2, h j, lsq_add h d]; omega
      · rw [if_neg e2, if_neg e2, if_neg e2, lsq_add h d]
theorem lsq_le {w q : Nat → Bool} : ∀ d m j, lsq w q m j d ≤ cp (fun i => w i && q i) j d
  | 0, _, _ => Nat.le_refl 0
  | d + 1, m, j => by
    rw [lsq_s, cp_s]
    by_cases e : m = 0
    · rw [if_pos e]; exact Nat.zero_le _
    · rw [if_neg e]
      by_cases e2 : w j = true
      · rw [if_pos e2, e2, Bool.true_and]
        exact Nat.add_le_add_left (lsq_le d _ _) _
      · rw [if_neg e2]
        exact Nat.le_trans (lsq_le d _ _) (Nat.le_add_left _ _)
theorem lsq_all {w q : Nat → Bool} : ∀ d m j, d ≤ m → lsq w q m j d = cp (fun i => w i && q i) j d
  | 0, _, _, _ => rfl
  | d + 1, m, j, h => by
    rw [lsq_s, cp_s, if_neg (by omega)]
    by_cases e2 : w j = true
    · rw [if_pos e2, e2, Bool.true_and, lsq_all d (m - 1) (j + 1) (by omega)]
    · rw [if_neg e2, lsq_all d m (j + 1) (by omega), show w j = false by simpa using e2]
      simp
theorem lsq_mono {w q : Nat → Bool} : ∀ d m j, lsq w q m j d ≤ lsq w q (m + 1) j d
  | 0, _, _ => Nat.le_refl 0
  | d + 1, m, j => by
    rw [lsq_s, lsq_s, if_neg (show ¬ m + 1 = 0 by omega)]
    by_cases e : m = 0
    · rw [if_pos e]; exact Nat.zero_le _
    · rw [if_neg e]
      by_cases e2 : w j = true
      · rw [if_pos e2, if_pos e2]
        have := lsq_mono (w := w) (q := q) d (m - 1) (j + 1)
        rw [show m - 1 + 1 = m by omega] at this
        exact Nat.add_le_add_left this _
      · rw [if_neg e2, if_neg e2]; exact lsq_mono d m (j + 1)
theorem lsq_true {w : Nat → Bool} : ∀ d m j, lsq w (fun _ => true) m j d = min m (cp w j d)
  | 0, m, _ => by show 0 = min m 0; omega
  | d + 1, m, j => by
    rw [lsq_s, cp_s]
    by_cases e : m = 0
    · rw [if_pos e]; omega
    · rw [if_neg e]
      by_cases e2 : w j = true
      · rw [if_pos e2, if_pos e2, lsq_true d, if_pos rfl]
        generalize cp w (j + 1) d = x
        omega
      · rw [if_neg e2, if_neg e2, lsq_true d, Nat.zero_add]
/-! the belt turned so that the head stands first -/
theorem cp_split (p : Nat → Bool) : ∀ a b j, cp p j (a + b) = cp p j a + cp p (j + a) b
  | 0, b, j => by show cp p j (0 + b) = 0 + cp p (j + 0) b; rw [Nat.zero_add, Nat.zero_add, Nat.add_zero]
  | a + 1, b, j => by
    rw [show a + 1 + b = (a + b) + 1 by omega, cp_s, cp_s, cp_split p a b (j + 1), show j + 1 + a = j + (a + 1) by omega, Nat.add_assoc]
theorem cp_shift (p q : Nat → Bool) (s : Nat) : ∀ d j, (∀ i, j ≤ i → i < j + d → q i = p (i + s)) → cp q j d = cp p (j + s) d
  | 0, _, _ => rfl
  | d + 1, j, h => by
    rw [cp_s, cp_s, h j (by omega) (by omega), cp_shift p q s d (j + 1) (fun i h1 h2 => h i (by omega) (by omega)), show j + 1 + s = j + s + 1 by omega]
theorem cp_back (p q : Nat → Bool) (s : Nat) : ∀ d j, (∀ i, j ≤ i → i < j + d → q (i + s) = p i) → cp q (j + s) d = cp p j d
  | 0, _, _ => rfl
  | d + 1, j, h => by
    rw [cp_s, cp_s, h j (by omega) (by omega), show j + s + 1 = (j + 1) + s by omega, cp_back p q s d (j + 1) (fun i h1 h2 => h i (by omega) (by omega))]
theorem cp_rot (p : Nat → Bool) {h : Nat} (hh : h < 32) : cp (fun i => p ((h + i) % 32)) 0 32 = cp p 0 32 := by
  have e1 := cp_split (fun i => p ((h + i) % 32)) (32 - h) h 0
  have e2 := cp_split p h (32 - h) 0
  rw [show 32 - h + h = 32 by omega] at e1
  rw [show h + (32 - h) = 32 by omega] at e2
  have e3 : cp (fun i => p ((h + i) % 32)) 0 (32 - h) = cp p (0 + h) (32 - h) := cp_shift p _ h (32 - h) 0 (fun i h1 h2 => by
    show p ((h + i) % 32) = p (i + h)
    rw [show (h + i) % 32 = i + h by omega])
  have e4 : cp (fun i => p ((h + i) % 32)) (0 + (32 - h)) h = cp p 0 h := cp_back p _ (32 - h) h 0 (fun i h1 h2 => by
    show p ((h + (i + (32 - h))) % 32) = p i
    rw [show (h + (i + (32 - h))) % 32 = i by omega])
  rw [e1, e2, e3, e4, Nat.add_comm]
/-! losses -/
abbrev tn (A : AT) (p : Nat → Bool) : Nat → Bool := fun i => p ((A.hd + i) % 32)
theorem lsa_lsq (A : AT) (r : Nat) : ∀ d m c j, lsa A r m c j d = c + lsq (tn A (wr A)) (tn A (isO A r)) m j d
  | 0, m, c, j => rfl
  | d + 1, m, c, j => by
    unfold lsa
    rw [lsq_s]
    by_cases e : m = 0
    · rw [if_pos e, if_pos e]; rfl
    · rw [if_neg e, if_neg e]
      by_cases e2 : wr A ((A.hd + j) % 32) = true
      · rw [if_pos e2, if_pos e2, lsa_lsq A r d, Nat.add_assoc]
        congr 2
        show (if A.ow ((A.hd + j) % 32) = some r then 1 else 0) = if decide (A.ow ((A.hd + j) % 32) = some r) = true then 1 else 0
        by_cases e3 : A.ow ((A.hd + j) % 32) = some r <;> simp [e3]
      · rw [if_neg e2, if_neg e2, lsa_lsq A r d]
/-- the first m cells with p that would be taken -/
def lp (A : AT) (p : Nat → Bool) (m : Nat) : Nat := lsq (tn A (wr A)) (tn A p) m 0 32
theorem ls_lp (A : AT) (r m : Nat) : ls A r m = lp A (isO A r) m := (lsa_lsq A r 32 m 0 0).trans (Nat.zero_add _)
theorem lp_le {A : AT} (hi : INV A) (p : Nat → Bool) (m : Nat) : lp A p m ≤ cp (fun k => wr A k && p k) 0 32 :=
  Nat.le_trans (lsq_le 32 m 0) (Nat.le_of_eq (cp_rot (fun k => wr A k && p k) (INV_hd hi)))
theorem ls_le {A : AT} (hi : INV A) (r m : Nat) : ls A r m ≤ cnt A (some r) := by
  rw [ls_lp]
  exact Nat.le_trans (lp_le hi _ m) (cp_mono 32 0 (fun k _ _ h => (Bool.and_eq_true _ _ ▸ h).2))
theorem ls_0 {A : AT} (hi : INV A) {r : Nat} (ho : opn A r = false) (m : Nat) : ls A r m = 0 := by
  rw [ls_lp]
  refine Nat.le_zero.mp (Nat.le_trans (lp_le hi _ m) (Nat.le_of_eq (cp_zero 32 0 (fun k _ _ => ?_))))
  by_cases e : A.ow k = some r
  · rw [wr_opn e, ho]; rfl
  · unfold isO; rw [decide_eq_false e, Bool.and_false]
theorem ls_32 {A : AT} (hi : INV A) {r : Nat} (ho : opn A r = true) : ls A r 32 = cnt A (some r) := by
  rw [ls_lp]
  refine (lsq_all 32 32 0 (Nat.le_refl _)).trans ((cp_rot (fun k => wr A k && isO A r k) (INV_hd hi)).trans (cp_congr 32 0 (fun k _ _ => ?_)))
  show (wr A k && decide (A.ow k = some r)) = decide (A.ow k = some r)
  by_cases e : A.ow k = some r
  · rw [wr_opn e, ho]; rfl
  · rw [decide_eq_false e, Bool.and_false]
theorem ls_mono (A : AT) (r m : Nat) : ls A r m ≤ ls A r (m + 1) := by
  rw [ls_lp, ls_lp]; exact lsq_mono 32 m 0
theorem gaq_mono {A : AT} (hi : INV A) {m j : Nat} (h : gaq A m j = true) : gaq A (m + 1) j = true := by
  unfold gaq at h ⊢
  rw [Bool.and_eq_true, decide_eq_true_eq, decide_eq_true_eq] at h ⊢
  have h1 : ls A j m ≤ ls A j (m + 1) := ls_mono A j m
  have h2 : ls A j (m + 1) ≤ cnt A (some j) := ls_le hi j (m + 1)
  have h3 : ls A j m = cnt A (some j) := h.2
  exact ⟨Nat.lt_of_lt_of_le h.1 h1, Nat.le_antisymm h2 (Nat.le_trans (Nat.le_of_eq h3.symm) h1)⟩
theorem ga_mono {A : AT} (hi : INV A) (m : Nat) : ga A m ≤ ga A (m + 1) := cp_mono _ _ (fun _ _ _ h => gaq_mono hi h)
/-- the sums over the recordings ahead of r -/
def GS (A : AT) (m r d a g : Nat) : Prop := a = lp A (low A r) m ∧ g + cp (gaq A m) r d = ga A m
theorem GS_0 {A : AT} (m : Nat) : GS A m 0 A.n 0 0 := by
  refine ⟨?_, Nat.zero_add _⟩
  refine (Nat.le_zero.mp (Nat.le_trans (lsq_le 32 m 0) (Nat.le_of_eq (cp_zero 32 0 (fun k _ _ => ?_))))).symm
  show (tn A (wr A) k && low A 0 _) = false
  rw [low_0, Bool.and_false]
theorem GS_s {A : AT} {m r d a g : Nat} (h : GS A m r (d + 1) a g) : GS A m (r + 1) d (a + ls A r m) (g + if gaq A m r then 1 else 0) := by
  obtain ⟨h1, h2⟩ := h
  refine ⟨?_, ?_⟩
  · rw [h1, ls_lp]
    refine (lsq_add (fun i => ?_) 32 m 0).symm
    show (if low A (r + 1) ((A.hd + i) % 32) = true then 1 else 0) = (if low A r ((A.hd + i) % 32) = true then 1 else 0) + (if isO A r ((A.hd + i) % 32) = true then 1 else 0)
    rw [low_s]
    unfold isO
    by_cases e : A.ow ((A.hd + i) % 32) = some r
    · rw [low_own e, decide_eq_true e]; rfl
    · rw [decide_eq_false e, Bool.or_false]; rfl
  · rw [Nat.add_assoc]; exact h2
theorem GS_n {A : AT} (hi : INV A) {m a g : Nat} (h : GS A m A.n 0 a g) : a ≤ m ∧ min m (wrc A) ≤ cnt A none + a ∧ g = ga A m := by
  obtain ⟨h1, h2⟩ := h
  have e1 : lsq (tn A (wr A)) (fun _ => true) m 0 32 = lp A (low A A.n) m + lp A (fun k => decide (A.ow k = none)) m := by
    refine lsq_add (fun i => ?_) 32 m 0
    have hk : (A.hd + i) % 32 < 32 := Nat.mod_lt _ (by omega)
    show (if true = true then 1 else 0) = (if low A A.n ((A.hd + i) % 32) = true then 1 else 0) + (if decide (A.ow ((A.hd + i) % 32) = none) = true then 1 else 0)
    rw [low_n hi hk]
    by_cases e : A.ow ((A.hd + i) % 32) = none
    · simp [e]
    · simp [e]
  have e2 : lp A (fun k => decide (A.ow k = none)) m ≤ cnt A none := Nat.le_trans (lp_le hi _ m) (cp_mono 32 0 (fun k _ _ h => (Bool.and_eq_true _ _ ▸ h).2))
  rw [lsq_true, cp_rot (wr A) (INV_hd hi), ← h1] at e1
  refine ⟨Nat.le_trans (Nat.le_trans (Nat.le_add_right a _) (Nat.le_of_eq e1.symm)) (Nat.min_le_left _ _), ?_, h2⟩
  refine Nat.le_trans (Nat.le_of_eq e1) ?_
  rw [Nat.add_comm]
  exact Nat.add_le_add_right e2 a
theorem neg_tab : ∀ x y : Fin 33, x.1 < y.1 → nI x.1 - nI y.1 < 0 := by decide +kernel
theorem sub_not {x y a : Nat} (hx : x ≤ 32) (hy : y ≤ 32) (ha : a ≤ 32) (h : x ≤ y + a) : ¬ nI a < nI x - nI y := by
  by_cases e : y ≤ x
  · rw [sub_nI e, nI_ltI (by omega) (by omega)]; omega
  · have h1 := neg_tab ⟨x, by omega⟩ ⟨y, by omega⟩ (by show x < y; omega)
    exact fun q => nI_pos (n := a) (by omega) (Int32.lt_trans q h1)
theorem ga_le (A : AT) (m : Nat) : ga A m ≤ A.n := cp_le _ _ _
theorem g_233 {A : AT} {S : BO} (hi : INV A) (h : RS A S.2.1) {m x a : Nat} (h1 : 1 ≤ m) (h2 : m ≤ 32) (hx : x ≤ 32) (ha : a ≤ 32) (hxa : x ≤ cnt A none + a) : c_L_isAhead_233 S (nI m) (nI (ga A m)) (nI x) (nI a) = some 1 := by
  unfold c_L_isAhead_233
  rw [a_free hi h, bd_some, if_neg (sub_not hx (cnt_le A _) ha hxa), a_goneAfter hi h h1 h2, bn_in, if_pos rfl]
theorem g_out {A : AT} {S : BO} (hj : JN A) (h : RS A S.2.1) {m : Nat} (h1 : 1 ≤ m) (h2 : m ≤ 32) : ∀ (d f r a g : Nat), r + d = A.n → d < f → GS A m r d a g → lpf5 (b_L_isAhead_40 S) f (nI m) 1 (nI a) (nI g) (nI r) = some 1
  | 0, f + 1, r, a, g, hd, _, hG => by
    have hi := hj.1
    obtain rfl : r = A.n := hd
    obtain ⟨g1, g2, rfl⟩ := GS_n hi hG
    have hw : wrc A ≤ 32 := cp_le _ _ _
    rw [lpf5_s]
    unfold b_L_isAhead_40
    rw [a_recs h, bd_some, if_pos (Int32.le_refl _), if_neg (show ¬ (1 : Int32) = 0 by decide), if_neg (by rw [nI_ltI (Nat.lt_of_le_of_lt h2 (by decide)) (Nat.lt_of_le_of_lt (Nat.le_trans g1 h2) (by decide))]; exact Nat.not_lt.mpr g1), a_room hi h, bd_some]
    by_cases e : wrc A ≤ m
    · rw [if_pos ((nI_leI (Nat.lt_of_le_of_lt hw (by decide)) (Nat.lt_of_le_of_lt h2 (by decide))).mpr e), bd_some]
      rw [Nat.min_eq_right e] at g2
      exact g_233 hi h h1 h2 hw (Nat.le_trans g1 h2) g2
    · rw [if_neg (fun z => e ((nI_leI (Nat.lt_of_le_of_lt hw (by decide)) (Nat.lt_of_le_of_lt h2 (by decide))).mp z))]
      rw [Nat.min_eq_left (Nat.le_of_lt (Nat.not_le.mp e))] at g2
      exact g_233 hi h h1 h2 h2 (Nat.le_trans g1 h2) g2
  | d + 1, f + 1, r, a, g, hd, hf, hG => by
    have hi := hj.1
    have hn := INV_n hi
    have hr : r < A.n := by omega
    have hr31 : r < 2 ^ 31 := by omega
    have hrl : ¬ nI A.n ≤ nI r := by rw [nI_leI (by omega) hr31]; omega
    have hm32 : (32 : Int32) ≤ nI m ↔ 32 ≤ m := by rw [show (32 : Int32) = nI 32 from rfl, nI_leI (by omega) (by omega)]
    have ih := fun a g hG => g_out hj h h1 h2 d f (r + 1) a g (by omega) (by omega) hG
    have hG' := GS_s hG
    have b1 : ∀ o, cnt A o < 2 ^ 31 := fun o => Nat.lt_of_le_of_lt (cnt_le A o) (by decide)
    have b2 : ∀ q, ls A r q < 2 ^ 31 := fun q => Nat.lt_of_le_of_lt (ls_le hi r q) (b1 _)
    rw [lpf5_s]
    generalize lpf5 (b_L_isAhead_40 S) f = K at ih ⊢
    have fin : K (nI m) 1 (nI (a + ls A r m)) (nI (g + if gaq A m r = true then 1 else 0)) (nI (r + 1)) = some 1 := ih _ _ hG'
    -- the last question
    have k189 : ∀ q, 1 ≤ q → q ≤ 32 → ls A r m ≤ ls A r q → c_L_isAhead_189 S K (nI m) (nI (a + ls A r m)) (nI (g + if gaq A m r = true then 1 else 0)) (nI r) (nI q) (nI r) (nI (ls A r m)) = some 1 := fun q q1 q2 q3 => by
      unfold c_L_isAhead_189
      rw [a_loss hi h hr q1 q2, bn_in, if_neg (by rw [nI_ltI (b2 q) (b2 m)]; exact Nat.not_lt.mpr q3), nm_eq, nI_s]
      exact fin
    have k162 : ∀ t, c_L_isAhead_162 S K (nI m) (nI (a + ls A r m)) (nI (g + if gaq A m r = true then 1 else 0)) (nI r) t t = some 1 := fun t => by
      unfold c_L_isAhead_162
      rw [if_pos rfl, a_loss hi h hr h1 h2, bn_in]
      by_cases e : 32 ≤ m
      · have e32 : m = 32 := by omega
        rw [if_pos (hm32.mpr e)]
        exact k189 32 (by omega) (by omega) (by rw [e32]; exact Nat.le_refl _)
      · rw [if_neg (fun z => e (hm32.mp z)), nI_s]
        exact k189 (m + 1) (by omega) (by omega) (ls_mono A r m)
    have k139 : c_L_isAhead_139 S K (nI m) (nI (a + ls A r m)) (nI (g + if gaq A m r = true then 1 else 0)) (nI r) (bZ (opn A r)) = some 1 := by
      unfold c_L_isAhead_139
      rw [show f_X2_lossOf (nI r) 32 S = some (.inr (nI (ls A r 32))) from a_loss hi h hr (m := 32) (by omega) (by omega), bn_in]
      cases eo : opn A r with
      | false =>
        rw [if_pos (show bZ false = 0 from rfl), ls_0 hi eo 32]
        exact k162 0
      | true =>
        rw [if_neg (show ¬ bZ true = 0 by decide), a_length hi h hr, bn_in, ls_32 hi eo]
        exact k162 _
    have k111 : c_L_isAhead_111 S K (nI m) 1 (nI (a + ls A r m)) (nI r) (nI (ls A r m)) (bZ (opn A r)) (bZ (gaq A m r)) (nI g) = some 1 := by
      unfold c_L_isAhead_111
      have eg : nI g + bZ (gaq A m r) = nI (g + if gaq A m r = true then 1 else 0) := by
        cases gaq A m r with
        | false => exact Int32.add_zero _
        | true => exact nI_1 g
      rw [nm_eq, eg, if_neg (show ¬ (1 : Int32) = 0 by decide), a_length hi h hr, bn_in, if_neg (by rw [nI_ltI (b1 _) (b2 m)]; exact Nat.not_lt.mpr (ls_le hi r m))]
      cases eo : opn A r with
      | false =>
        rw [eo] at k139
        rw [if_pos (show bZ false = 0 from rfl), if_pos (by rw [ls_0 hi eo m]; rfl)]
        exact k139
      | true =>
        rw [eo] at k139
        rw [if_neg (show ¬ bZ true = 0 by decide)]
        exact k139
    have k81 : c_L_isAhead_81 S K (nI m) 1 (nI a) (nI g) (nI r) (nI (ls A r m)) (bZ (opn A r)) = some 1 := by
      unfold c_L_isAhead_81 c_L_isAhead_110
      have hg : gaq A m r = (decide (0 < ls A r m) && decide (ls A r m = cnt A (some r))) := rfl
      rw [nm_eq, nI_add]
      by_cases e : ls A r m = 0
      · have e' : ¬ 0 < ls A r m := fun z => by rw [e] at z; exact Nat.lt_irrefl 0 z
        rw [if_pos (by rw [e]; decide)]
        rw [hg, decide_eq_false (show ¬ 0 < ls A r m from fun z => e' z), Bool.false_and] at k111
        exact k111
      · have e' : 0 < ls A r m := Nat.pos_of_ne_zero e
        rw [if_neg (show ¬ nI (ls A r m) ≤ (0 : Int32) from fun z => e (Nat.le_zero.mp ((nI_leI (b2 m) (by decide)).mp (show nI (ls A r m) ≤ nI 0 from z)))), a_length hi h hr, bn_in]
        by_cases e2 : ls A r m = cnt A (some r)
        · rw [if_pos (congrArg nI e2)]
          rw [hg, decide_eq_true e', decide_eq_true e2] at k111
          exact k111
        · rw [if_neg (fun z => e2 ((nI_eq (b2 m) (b1 _)).mp z))]
          rw [hg, decide_eq_true e', decide_eq_false e2] at k111
          exact k111
    unfold b_L_isAhead_40 c_L_isAhead_80
    rw [a_recs h, bd_some, if_neg hrl, a_loss hi h hr h1 h2, bn_in, a_flag hi h hr, bn_in]
    cases ef : A.fl r with
    | true =>
      have : opn A r = false := by unfold opn; rw [ef]; rfl
      rw [this] at k81
      rw [if_neg (show ¬ bZ true = 0 by decide)]
      exact k81
    | false =>
      rw [if_pos (show bZ false = 0 from rfl), a_run hi h, bd_some]
      by_cases q : rn A = some r
      · have : opn A r = false := by unfold opn; rw [ef, q]; simp
        rw [this] at k81
        rw [if_pos (by rw [q]; rfl)]
        exact k81
      · have : opn A r = true := by unfold opn; rw [ef, decide_eq_false q]; rfl
        rw [this] at k81
        rw [if_neg (fun z => q ((oI_nI (rnB' hi) hr31).mp z.symm))]
        exact k81
theorem L_isAhead {A : AT} {S : BO} (hj : JN A) (h : RS A S.2.1) {m : Nat} (h1 : 1 ≤ m) (h2 : m ≤ 32) : f_L_isAhead (nI m) S = some 1 := by
  have hi := hj.1
  have hn := INV_n hi
  have b3 : ∀ q, ga A q < 2 ^ 31 := fun q => Nat.lt_of_le_of_lt (ga_le A q) (Nat.lt_of_le_of_lt hn (by decide))
  have key : c_L_isAhead_31 S (nI m) 1 = some 1 := by
    unfold c_L_isAhead_31
    exact g_out hj h h1 h2 A.n FU 0 0 0 (Nat.zero_add _) (Nat.lt_of_le_of_lt hn (by decide)) (GS_0 m)
  have k20 : ∀ q, 1 ≤ q → q ≤ 32 → ga A m ≤ ga A q → c_L_isAhead_20 S (nI m) (nI q) (nI (ga A m)) = some 1 := fun q q1 q2 q3 => by
    unfold c_L_isAhead_20
    rw [a_goneAfter hi h q1 q2, bn_in, if_neg (by rw [nI_ltI (b3 q) (b3 m)]; exact Nat.not_lt.mpr q3)]
    exact key
  unfold f_L_isAhead
  rw [a_goneAfter hi h h1 h2, bn_in]
  by_cases e : 32 ≤ m
  · have e32 : m = 32 := by omega
    rw [if_pos (by rw [show (32 : Int32) = nI 32 from rfl, nI_leI (by omega) (by omega)]; exact e)]
    exact k20 32 (by omega) (by omega) (by rw [e32]; exact Nat.le_refl _)
  · rw [if_neg (by rw [show (32 : Int32) = nI 32 from rfl, nI_leI (by omega) (by omega)]; exact e), nI_s]
    exact k20 (m + 1) (by omega) (by omega) (ga_mono hi m)
