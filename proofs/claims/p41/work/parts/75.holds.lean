/-! the law's look at the whole belt -/
def low (A : AT) (r k : Nat) : Bool := match A.ow k with
  | none => false
  | some q => decide (q < r)
theorem low_none {A : AT} {r k : Nat} (e : A.ow k = none) : low A r k = false := by unfold low; rw [e]
theorem low_some {A : AT} {r k q : Nat} (e : A.ow k = some q) : low A r k = decide (q < r) := by unfold low; rw [e]
theorem low_s (A : AT) (r k : Nat) : low A (r + 1) k = (low A r k || decide (A.ow k = some r)) := by
  cases e : A.ow k with
  | none => rw [low_none e, low_none e]; simp
  | some q =>
    rw [low_some e, low_some e]
    by_cases q1 : q = r
    · subst q1; simp
    · by_cases q2 : q < r
      · simp [q2, show q < r + 1 by omega]
      · simp [q1, q2, show ¬ q < r + 1 by omega]
theorem low_own {A : AT} {r k : Nat} (e : A.ow k = some r) : low A r k = false := by rw [low_some e]; exact decide_eq_false (Nat.lt_irrefl r)
theorem low_n {A : AT} (hi : INV A) {k : Nat} (hk : k < 32) : low A A.n k = decide (A.ow k ≠ none) := by
  cases e : A.ow k with
  | none => rw [low_none e]; simp
  | some q =>
    rw [low_some e]
    have := INV_ow hi hk q e
    simp [this]
/-- a recording from which cells may be taken -/
def opn (A : AT) (r : Nat) : Bool := !A.fl r && !decide (rn A = some r)
theorem wr_opn {A : AT} {k r : Nat} (e : A.ow k = some r) : wr A k = opn A r := by
  rw [wr_some e]
  unfold opn
  by_cases q : rn A = some r <;> simp [q]
def lw (A : AT) (r k : Nat) : Bool := low A r k && wr A k
def lc (A : AT) (r k : Nat) : Bool := low A r k && cor A k
/-- the sums over the recordings ahead of r -/
def HS (A : AT) (r a2 a3 a4 : Nat) : Prop := a2 = cp (low A r) 0 32 ∧ a3 = cp (lw A r) 0 32 ∧ a4 = cp (lc A r) 0 32
theorem low_0 (A : AT) (k : Nat) : low A 0 k = false := by
  cases e : A.ow k with
  | none => exact low_none e
  | some q => rw [low_some e]; exact decide_eq_false (Nat.not_lt_zero q)
theorem HS_0 (A : AT) : HS A 0 0 0 0 :=
  ⟨(cp_zero 32 0 (fun k _ _ => low_0 A k)).symm, (cp_zero 32 0 (fun k _ _ => by unfold lw; rw [low_0]; rfl)).symm, (cp_zero 32 0 (fun k _ _ => by unfold lc; rw [low_0]; rfl)).symm⟩
def CN (A : AT) (r c : Nat) : Prop := cnt A (some r) = c
theorem mem_cl {A : AT} (hi : INV A) {r k : Nat} (hk : k < 32) : k ∈ cl A r ↔ A.ow k = some r := by
  unfold cl isO
  rw [List.mem_filter, INV_od hi k, decide_eq_true_eq]
  exact ⟨fun h => h.2, fun h => ⟨⟨hk, by rw [h]; simp⟩, h⟩⟩
theorem cl_nd {A : AT} (hi : INV A) (r : Nat) : (cl A r).Nodup := (INV_nd hi).filter _
theorem cl_lt {A : AT} (hi : INV A) {r : Nat} : ∀ x ∈ cl A r, x < 32 := fun x hx => od_lt hi x (List.mem_filter.mp hx).1
theorem HS_s {A : AT} (hi : INV A) {r a2 a3 a4 c : Nat} (hc : CN A r c) (h : HS A r a2 a3 a4) : HS A (r + 1) (a2 + c) (a3 + if opn A r then c else 0) (a4 + ((cl A r).filter (cor A)).length) := by
  obtain ⟨h1, h2, h3⟩ := h
  refine ⟨?_, ?_, ?_⟩
  · rw [h1, ← show cnt A (some r) = c from hc]
    refine (cp_add (s := low A (r + 1)) (p := low A r) (q := fun k => decide (A.ow k = some r)) (fun k _ => ?_) 32 0 (Nat.le_refl _)).symm
    rw [low_s]
    by_cases e : A.ow k = some r
    · rw [low_own e, decide_eq_true e]; rfl
    · rw [decide_eq_false e, Bool.or_false]; rfl
  · have e0 : (if opn A r then c else 0) = cp (fun k => decide (A.ow k = some r) && opn A r) 0 32 := by
      cases e : opn A r with
      | false => rw [if_neg (by decide)]; exact (cp_zero 32 0 (fun k _ _ => Bool.and_false _)).symm
      | true =>
        rw [if_pos rfl, ← show cnt A (some r) = c from hc]
        exact cp_congr 32 0 (fun k _ _ => (Bool.and_true _).symm)
    rw [h2, e0]
    refine (cp_add (s := lw A (r + 1)) (p := lw A r) (q := fun k => decide (A.ow k = some r) && opn A r) (fun k _ => ?_) 32 0 (Nat.le_refl _)).symm
    unfold lw
    rw [low_s]
    by_cases e : A.ow k = some r
    · rw [low_own e, decide_eq_true e, wr_opn e]
      cases opn A r <;> rfl
    · rw [decide_eq_false e, Bool.or_false, Bool.false_and]; rfl
  · have e0 : ((cl A r).filter (cor A)).length = cp (fun k => decide (A.ow k = some r) && cor A k) 0 32 := by
      rw [cp_list (cl_nd hi r) (cl_lt hi)]
      exact cp_congr 32 0 (fun k _ hk => by
        show (decide (k ∈ cl A r) && cor A k) = (decide (A.ow k = some r) && cor A k)
        rw [decide_eq_decide.mpr (mem_cl hi (r := r) (show k < 32 by omega))])
    rw [h3, e0]
    refine (cp_add (s := lc A (r + 1)) (p := lc A r) (q := fun k => decide (A.ow k = some r) && cor A k) (fun k _ => ?_) 32 0 (Nat.le_refl _)).symm
    unfold lc
    rw [low_s]
    by_cases e : A.ow k = some r
    · rw [low_own e, decide_eq_true e]
      cases cor A k <;> rfl
    · rw [decide_eq_false e, Bool.or_false, Bool.false_and]; rfl
theorem lsr_ne {A : AT} : ∀ d j, lsr A j d ≠ none ↔ ∃ i, j ≤ i ∧ i < j + d ∧ A.ow ((A.hd + i) % 32) ≠ none ∧ wr A ((A.hd + i) % 32) = true
  | 0, j => ⟨fun h => absurd rfl h, fun ⟨i, h1, h2, _⟩ => absurd h2 (by omega)⟩
  | d + 1, j => by
    have ih := @lsr_ne A d (j + 1)
    rw [lsr_s]
    have back : (∃ i, j + 1 ≤ i ∧ i < j + 1 + d ∧ A.ow ((A.hd + i) % 32) ≠ none ∧ wr A ((A.hd + i) % 32) = true) → ∃ i, j ≤ i ∧ i < j + (d + 1) ∧ A.ow ((A.hd + i) % 32) ≠ none ∧ wr A ((A.hd + i) % 32) = true := fun ⟨i, h1, h2, h3⟩ => ⟨i, by omega, by omega, h3⟩
    cases e : A.ow ((A.hd + j) % 32) with
    | none =>
      show lsr A (j + 1) d ≠ none ↔ _
      rw [ih]
      refine ⟨back, fun ⟨i, h1, h2, h3, h4⟩ => ⟨i, ?_, by omega, h3, h4⟩⟩
      rcases Nat.lt_or_ge j i with q | q
      · omega
      · have : i = j := by omega
        subst this; exact absurd e h3
    | some r =>
      show (if wr A ((A.hd + j) % 32) = true then some r else lsr A (j + 1) d) ≠ none ↔ _
      by_cases q : wr A ((A.hd + j) % 32) = true
      · rw [if_pos q]
        exact ⟨fun _ => ⟨j, by omega, by omega, by rw [e]; simp, q⟩, fun _ => by simp⟩
      · rw [if_neg q, ih]
        refine ⟨back, fun ⟨i, h1, h2, h3, h4⟩ => ⟨i, ?_, by omega, h3, h4⟩⟩
        rcases Nat.lt_or_ge j i with q2 | q2
        · omega
        · have : i = j := by omega
          subst this; exact absurd h4 q
theorem lsr_any {A : AT} (hi : INV A) : lsr A 0 32 ≠ none ↔ ∃ k, k < 32 ∧ A.ow k ≠ none ∧ wr A k = true := by
  have hd := INV_hd hi
  rw [lsr_ne]
  constructor
  · rintro ⟨i, _, _, h3, h4⟩
    exact ⟨_, Nat.mod_lt _ (by omega), h3, h4⟩
  · rintro ⟨k, h1, h2, h3⟩
    refine ⟨(k + 32 - A.hd) % 32, by omega, by omega, ?_⟩
    rw [show (A.hd + (k + 32 - A.hd) % 32) % 32 = k from by omega]
    exact ⟨h2, h3⟩
theorem HS_n {A : AT} (hi : INV A) {a2 a3 a4 : Nat} (h : HS A A.n a2 a3 a4) : a2 = A.od.length ∧ cnt A none + a2 = 32 ∧ cnt A none + a3 = wrc A ∧ a4 = cp (cor A) 0 32 ∧ (0 < a3 ↔ lsr A 0 32 ≠ none) := by
  obtain ⟨h1, h2, h3⟩ := h
  have e1 : a2 = A.od.length := by
    rw [h1, ← cp_len A.od (INV_nd hi) (od_lt hi)]
    refine cp_congr 32 0 (fun k _ hk => ?_)
    rw [low_n hi (by omega)]
    exact decide_eq_decide.mpr ⟨fun q => (INV_od hi k).mpr ⟨by omega, q⟩, fun q => ((INV_od hi k).mp q).2⟩
  have e2 : a3 = cp (fun k => decide (A.ow k ≠ none) && wr A k) 0 32 := by
    rw [h2]
    exact cp_congr 32 0 (fun k _ hk => by unfold lw; rw [low_n hi (by omega)])
  refine ⟨e1, by rw [e1]; exact od_free hi, ?_, ?_, ?_⟩
  · rw [e2]
    refine (cp_add (s := wr A) (p := fun k => decide (A.ow k = none)) (q := fun k => decide (A.ow k ≠ none) && wr A k) (fun k _ => ?_) 32 0 (Nat.le_refl _)).symm
    cases e : A.ow k with
    | none => rw [wr_none e]; simp
    | some r => simp
  · rw [h3]
    exact cp_congr 32 0 (fun k _ hk => by
      unfold lc
      rw [low_n hi (by omega)]
      unfold cor
      rw [← Bool.and_assoc, Bool.and_self])
  · rw [lsr_any hi, e2]
    constructor
    · intro q
      obtain ⟨k, _, k2, k3⟩ := cp_pos 32 0 q
      rw [Bool.and_eq_true, decide_eq_true_eq] at k3
      exact ⟨k, by omega, k3⟩
    · rintro ⟨k, k1, k2, k3⟩
      exact cp_pos' (k := k) 32 0 (Nat.zero_le _) (by omega) (by rw [Bool.and_eq_true, decide_eq_true_eq]; exact ⟨k2, k3⟩)
theorem nI_s (n : Nat) : nI n + 1 = nI (n + 1) := nI_1 n
/-- the cells of one recording -/
theorem h_in {A : AT} {S : BO} (hj : JN A) (hs : A.sp < 2 ^ 31) (h : RS A S.2.1) {r c : Nat} (hr : r < A.n) (hc1 : ∀ p, p < c → ∃ k, ce A r p = some k) (hc2 : ce A r c = none) (hc0 : c = 0 → rn A = some r) (hlen : (cl A r).length = c) (hc32 : c ≤ 32) (K55 : Int32 → Int32 → Int32 → Int32 → Int32 → Int32 → Int32 → Option Int32) (x2 x3 x5 : Int32) : ∀ (d f p z : Nat) (x1 : Int32), p + d = c → d < f → (∀ k, k < 32 → bt x1 k = (low A r k || decide (k ∈ (cl A r).take p))) → ∃ x1', (∀ k, k < 32 → bt x1' k = low A (r + 1) k) ∧ lpf9 (b_L_holds_141 S K55) f x1 x2 x3 (nI z) x5 1 (nI r) (nI c) (nI p) = K55 x1' x2 x3 (nI (z + (((cl A r).drop p).filter (cor A)).length)) x5 1 (nI (r + 1))
  | 0, f + 1, p, z, x1, hp, _, hm => by
    have hi := hj.1
    obtain rfl : p = c := hp
    have hp31 : p < 2 ^ 31 := by omega
    refine ⟨x1, fun k hk => ?_, ?_⟩
    · rw [hm k hk, low_s, List.take_of_length_le (by omega)]
      exact congrArg (low A r k || ·) (decide_eq_decide.mpr (mem_cl hi hk))
    · have eo : f_X2_cellOf (nI r) (nI p) S = some (.inr (-1)) := by rw [a_cellOf hi h hr hp31, hc2]; rfl
      have es : f_X2_sound (nI r) (nI p) S = some (.inr (-1)) := by rw [a_sound hi h hr hp31, hc2]; rfl
      have ec : f_X2_carbon (nI r) (nI p) S = some (.inr (-1)) := by rw [a_carbon hi h hr hp31, hc2]; rfl
      obtain ⟨q, q1, q2⟩ := hj.2.2.2.1 r hr
      rw [lpf9_s]
      unfold b_L_holds_141
      rw [if_pos (Int32.le_refl _), if_neg (show ¬ (1 : Int32) = 0 by decide), eo, bn_in, if_pos rfl, es, bn_in, if_pos rfl, ec, bn_in, if_pos rfl, a_lost hi h hr, bn_in, q2, if_neg (nI_pos (by omega)), List.drop_of_length_le (by omega)]
      by_cases e : p = 0
      · rw [if_neg (by rw [e]; decide), a_run hi h, bd_some, hc0 e, oI_some, if_pos rfl, nm_eq, nI_s]
        rfl
      · rw [if_pos (by rw [show (0 : Int32) = nI 0 from rfl, nI_ltI (by omega) hp31]; omega), nm_eq, nI_s]
        rfl
  | d + 1, f + 1, p, z, x1, hp, hf, hm => by
    have hi := hj.1
    have hn := INV_n hi
    obtain ⟨k, hk⟩ := hc1 p (by omega)
    obtain ⟨hk32, hko⟩ := ce_lt hi hk
    obtain ⟨s, s1, s2⟩ := hj.2.1 k hk32 (by rw [hko]; simp)
    have hp31 : p < 2 ^ 31 := by omega
    have hpl : p < (cl A r).length := by omega
    have hkg : (cl A r)[p] = k := by
      have := (List.getElem?_eq_some_iff.mp hk).2
      exact this
    have hdr : (cl A r).drop p = k :: (cl A r).drop (p + 1) := by rw [List.drop_eq_getElem_cons hpl, hkg]
    have hnt : k ∉ (cl A r).take p := fun q => by
      have nd : ((cl A r).take p ++ (cl A r).drop p).Nodup := by rw [List.take_append_drop]; exact cl_nd hi r
      exact (List.nodup_append.mp nd).2.2 k q k (by rw [hdr]; simp) rfl
    have hmk : bt x1 k = false := by rw [hm k hk32, low_own hko, decide_eq_false hnt]; rfl
    have eo : f_X2_cellOf (nI r) (nI p) S = some (.inr (nI k)) := by rw [a_cellOf hi h hr hp31, hk]; rfl
    have es : f_X2_sound (nI r) (nI p) S = some (.inr (A.sn k)) := by rw [a_sound hi h hr hp31, hk]; rfl
    have ec : f_X2_carbon (nI r) (nI p) S = some (.inr (A.ca k)) := by rw [a_carbon hi h hr hp31, hk]; rfl
    have ew : f_X2_owner (nI k) S = some (.inr (nI r)) := by rw [a_owner h hk32, hko]; rfl
    have ih := fun z x1 hm => h_in hj hs h hr hc1 hc2 hc0 hlen hc32 K55 x2 x3 x5 d f (p + 1) z x1 (by omega) (by omega) hm
    rw [lpf9_s]
    generalize lpf9 (b_L_holds_141 S K55) f = K at ih ⊢
    unfold b_L_holds_141 c_L_holds_224
    rw [if_neg (by rw [nI_leI (by omega) hp31]; omega), eo, bn_in, if_neg (show ¬ (1 : Int32) = 0 by decide), if_neg (nI_pos (by omega)), if_neg (by rw [show (32 : Int32) = nI 32 from rfl, nI_leI (by omega) (by omega)]; omega), if_pos ((bt_test x1 hk32).mpr hmk), ew, bn_in, if_pos rfl, es, bn_in, if_neg (by rw [s2]; exact nI_pos (by omega)), bn_in, if_neg (by rw [s2, show (99 : Int32) = nI 99 from rfl, nI_ltI (by omega) (by omega)]; omega), nm_eq, bn_in, ec, bn_in]
    have hm' : ∀ j, j < 32 → bt (x1 ||| ((1 : Int32) <<< (nI k &&& 31))) j = (low A r j || decide (j ∈ (cl A r).take (p + 1))) := fun j hj32 => by
      rw [bt_set x1 hk32 hj32, hm j hj32, Bool.or_assoc]
      refine congrArg (low A r j || ·) ?_
      rw [← Bool.decide_or]
      refine decide_eq_decide.mpr ?_
      rw [List.take_succ, show (cl A r)[p]? = some k from hk]
      simp
    rw [hdr]
    by_cases e : A.sn k = A.ca k
    · rw [if_pos e, nm_eq, nm_eq, List.filter_cons_of_neg (by unfold cor; simp [e]), Int32.add_zero, nI_s]
      exact ih z _ hm'
    · rw [if_neg e, nm_eq, nm_eq, List.filter_cons_of_pos (by unfold cor; simp [e, hko]), nI_s, nI_s, List.length_cons]
      obtain ⟨x1', w1, w2⟩ := ih (z + 1) _ hm'
      refine ⟨x1', w1, w2.trans ?_⟩
      rw [Nat.add_assoc, Nat.add_comm 1]
/-! the end of the look -/
theorem lsr_lt {A : AT} (hi : INV A) : ∀ d j r, lsr A j d = some r → r < A.n
  | 0, j, r, e => by cases e
  | d + 1, j, r, e => by
    rw [lsr_s] at e
    have hk : (A.hd + j) % 32 < 32 := Nat.mod_lt _ (by omega)
    cases e1 : A.ow ((A.hd + j) % 32) with
    | none => rw [e1] at e; exact lsr_lt hi d (j + 1) r e
    | some q =>
      rw [e1] at e
      have e : (if wr A ((A.hd + j) % 32) = true then some q else lsr A (j + 1) d) = some r := e
      split at e
      · cases e; exact INV_ow hi hk _ e1
      · exact lsr_lt hi d (j + 1) r e
theorem h_519 {A : AT} {S : BO} (hi : INV A) (h : RS A S.2.1) (t : Int32) : c_L_holds_519 S (nI A.od.length) t t = some 1 := by
  have hl := od_le hi
  have hq := sh_ok ⟨A.od.length, by omega⟩
  unfold c_L_holds_519 f_X2_usedShare
  rw [if_pos rfl, RS_us h]
  unfold shq at hq
  cases e : nn (FP.ddiv (FP.i2d (nI A.od.length)) 4629700416936869888) with
  | none =>
    have hq : (match nn (FP.ddiv (FP.i2d (nI A.od.length)) 4629700416936869888) with
      | none => false
      | some r => decide (FP.dcmp r r = some .eq)) = true := hq
    rw [e] at hq; cases hq
  | some r =>
    have hq : (match nn (FP.ddiv (FP.i2d (nI A.od.length)) 4629700416936869888) with
      | none => false
      | some r => decide (FP.dcmp r r = some .eq)) = true := hq
    rw [e] at hq
    have hq : FP.dcmp r r = some .eq := of_decide_eq_true hq
    have er := (nn_elim e).2
    rw [bd_some, bd_some, ← er, hq]
    exact if_pos rfl
theorem h_456 {A : AT} {S : BO} (hi : INV A) (h : RS A S.2.1) {a2 a3 a4 : Nat} (hH : HS A A.n a2 a3 a4) : c_L_holds_456 S (nI a2) (nI (cnt A none + a3)) (nI a4) (bZ (decide (0 < a3))) 1 1 = some 1 := by
  obtain ⟨e1, e2, e3, e4, e5⟩ := HS_n hi hH
  have hlb : ∀ r, lsr A 0 32 = some r → r < 2 ^ 31 := fun r q => Nat.lt_trans (Nat.lt_of_lt_of_le (lsr_lt hi 32 0 r q) (INV_n hi)) (by decide)
  unfold c_L_holds_456
  rw [if_neg (show ¬ (1 : Int32) = 0 by decide), if_neg (show ¬ (1 : Int32) = 0 by decide), a_free hi h, bd_some, nI_add, e2, if_pos (show nI 32 = (32 : Int32) from rfl), a_room hi h, bd_some, if_pos (congrArg nI e3.symm), a_corrected hi h, bd_some, if_pos (congrArg nI e4.symm), a_next hi h, bd_some]
  unfold c_L_holds_509
  by_cases q : lsr A 0 32 = none
  · rw [if_pos ((oI_m1 hlb).mpr q), decide_eq_false (fun z => e5.mp z q), if_pos (show bZ false = 0 from rfl), e1]
    exact h_519 hi h 1
  · rw [if_neg (fun z => q ((oI_m1 hlb).mp z)), decide_eq_true (e5.mpr q), if_neg (show ¬ bZ true = 0 by decide), e1]
    exact h_519 hi h 0
theorem h_348 {A : AT} {S : BO} (hj : JN A) (h : RS A S.2.1) {x1 x2 x3 x4 x5 : Int32} (hm : ∀ k, k < 32 → bt x1 k = low A A.n k) (he : c_L_holds_456 S x2 x3 x4 x5 1 1 = some 1) : ∀ (d f k : Nat), k + d = 32 → d < f → lpf7 (b_L_holds_348 S) f x1 x2 x3 x4 x5 1 (nI k) = some 1
  | 0, f + 1, k, hk, _ => by
    have hi := hj.1
    have hn := INV_n hi
    obtain rfl : k = 32 := hk
    rw [lpf7_s]
    unfold b_L_holds_348
    rw [if_pos (show (32 : Int32) ≤ nI 32 by decide), a_playing h, bd_some, a_place h]
    cases eP : A.P with
    | none => 
      rw [if_pos (show oI ((none : Option (Nat × Nat)).map Prod.fst) = -1 from rfl), bd_some, if_pos (show oI ((none : Option (Nat × Nat)).map Prod.snd) = -1 from rfl)]
      exact he
    | some w =>
      obtain ⟨r, p⟩ := w
      obtain ⟨p1, p2⟩ := INV_P hi r p eP
      have hp := hj.2.2.2.2 r p eP
      have er : oI ((some (r, p) : Option (Nat × Nat)).map Prod.fst) = nI r := rfl
      have ep : oI ((some (r, p) : Option (Nat × Nat)).map Prod.snd) = nI p := rfl
      rw [er, ep, if_neg (fun z => nI_m1 (n := r) (Nat.lt_trans (Nat.lt_of_lt_of_le p1 hn) (by decide)) z), bd_some, if_neg (nI_pos (Nat.lt_of_le_of_lt p2 (by decide))), bd_some, bd_some, a_length hi h p1, bn_in, if_neg (by rw [nI_ltI (Nat.lt_of_le_of_lt (cnt_le A _) (by decide)) (Nat.lt_of_le_of_lt p2 (by decide))]; exact Nat.not_lt.mpr hp)]
      exact he
  | d + 1, f + 1, k, hk, hf => by
    have hi := hj.1
    have hn := INV_n hi
    have hk32 : k < 32 := by omega
    have ih := h_348 hj h hm he d f (k + 1) (by omega) (by omega)
    rw [lpf7_s]
    generalize lpf7 (b_L_holds_348 S) f = K at ih ⊢
    unfold b_L_holds_348 c_L_holds_375 c_L_holds_389
    rw [if_neg (by rw [show (32 : Int32) = nI 32 from rfl, nI_leI (by omega) (by omega)]; omega), if_neg (show ¬ (1 : Int32) = 0 by decide), a_owner h hk32, bn_in]
    have hb := hm k hk32
    rw [low_n hi hk32] at hb
    cases e : A.ow k with
    | none =>
      rw [e] at hb
      rw [if_pos (show oI none = -1 from rfl), if_pos ((bt_test x1 hk32).mpr (hb.trans (by simp))), if_pos rfl, nm_eq, nI_s]
      exact ih
    | some q =>
      have hq := INV_ow hi hk32 q e
      rw [e] at hb
      rw [if_neg (show ¬ oI (some q) = -1 from fun z => nI_m1 (n := q) (by omega) z), if_neg (fun z => by have := (bt_test x1 hk32).mp z; rw [hb] at this; simp at this), if_pos rfl, nm_eq, nI_s]
      exact ih
/-- the recordings one by one -/
theorem h_out {A : AT} {S : BO} (hj : JN A) (hs : A.sp < 2 ^ 31) (h : RS A S.2.1) : ∀ (d f r a2 a3 a4 : Nat) (x1 : Int32), r + d = A.n → d < f → (∀ k, k < 32 → bt x1 k = low A r k) → HS A r a2 a3 a4 → lpf7 (b_L_holds_55 S) f x1 (nI a2) (nI (cnt A none + a3)) (nI a4) (bZ (decide (0 < a3))) 1 (nI r) = some 1
  | 0, f + 1, r, a2, a3, a4, x1, hd, _, hm, hH => by
    obtain rfl : r = A.n := hd
    rw [lpf7_s]
    unfold b_L_holds_55
    rw [a_recs h, bd_some, if_pos (Int32.le_refl _)]
    exact h_348 hj h hm (h_456 hj.1 h hH) 32 FU 0 rfl (by decide)
  | d + 1, f + 1, r, a2, a3, a4, x1, hd, hf, hm, hH => by
    have hi := hj.1
    have hn := INV_n hi
    have hr : r < A.n := by omega
    have hr31 : r < 2 ^ 31 := by omega
    obtain ⟨c, hc⟩ : ∃ c, CN A r c := ⟨_, rfl⟩
    have el : f_X2_length (nI r) S = some (.inr (nI c)) := by rw [a_length hi h hr, show cnt A (some r) = c from hc]
    have hlen : (cl A r).length = c := (cl_len hi r).trans hc
    have hc32 : c ≤ 32 := by have := cnt_le A (some r); rw [show cnt A (some r) = c from hc] at this; exact this
    have hc1 : ∀ p, p < c → ∃ k, ce A r p = some k := fun p hp => ⟨(cl A r)[p]'(by omega), List.getElem?_eq_getElem (by omega)⟩
    have hc2 : ce A r c = none := List.getElem?_eq_none (by omega)
    have hc0 : c = 0 → rn A = some r := fun z => Decidable.byContradiction (fun q => by
      have := hj.2.2.1 r hr q
      rw [show cnt A (some r) = c from hc, z] at this
      exact Nat.lt_irrefl 0 this)
    have hH' := HS_s hi hc hH
    have ih := fun x1 hm => h_out hj hs h d f (r + 1) _ _ _ x1 (by omega) (by omega) hm hH'
    have hm0 : ∀ k, k < 32 → bt x1 k = (low A r k || decide (k ∈ (cl A r).take 0)) := fun k hk => by rw [hm k hk]; simp
    rw [lpf7_s]
    generalize lpf7 (b_L_holds_55 S) f = K at ih ⊢
    have key : ∀ x3 x5, x3 = nI (cnt A none + (a3 + if opn A r = true then c else 0)) → x5 = bZ (decide (0 < a3 + if opn A r = true then c else 0)) → lpf9 (b_L_holds_141 S K) FU x1 (nI (a2 + c)) x3 (nI a4) x5 1 (nI r) (nI c) 0 = some 1 := by
      rintro x3 x5 rfl rfl
      obtain ⟨x1', w1, w2⟩ := h_in hj hs h hr hc1 hc2 hc0 hlen hc32 K (nI (a2 + c)) (nI (cnt A none + (a3 + if opn A r = true then c else 0))) (bZ (decide (0 < a3 + if opn A r = true then c else 0))) c FU 0 a4 x1 (Nat.zero_add c) (Nat.lt_of_le_of_lt hc32 (by decide)) hm0
      refine w2.trans ?_
      rw [List.drop_zero]
      exact ih x1' w1
    have k95 : c_L_holds_95 S K x1 (nI a2) (nI (cnt A none + a3)) (nI a4) (bZ (decide (0 < a3))) 1 (nI r) (nI c) (bZ (opn A r)) = some 1 := by
      unfold c_L_holds_95
      rw [nm_eq, nI_add]
      unfold c_L_holds_114
      cases eo : opn A r with
      | false =>
        rw [eo] at key
        rw [if_pos (show bZ false = 0 from rfl), nm_eq, if_pos (show bZ false = 0 from rfl)]
        by_cases q : 0 < a3
        · rw [decide_eq_true q, if_neg (show ¬ bZ true = 0 by decide)]
          exact key _ _ (Int32.add_zero _) (by rw [show (a3 + if false = true then c else 0) = a3 from rfl, decide_eq_true q]; rfl)
        · rw [decide_eq_false q, if_pos (show bZ false = 0 from rfl)]
          exact key _ _ (Int32.add_zero _) (by rw [show (a3 + if false = true then c else 0) = a3 from rfl, decide_eq_false q]; rfl)
      | true =>
        rw [eo] at key
        rw [if_neg (show ¬ bZ true = 0 by decide), nm_eq, if_neg (show ¬ bZ true = 0 by decide), nI_add]
        have e3 : nI (cnt A none + a3 + c) = nI (cnt A none + (a3 + if true = true then c else 0)) := by rw [if_pos rfl, Nat.add_assoc]
        by_cases q : 0 < a3
        · rw [decide_eq_true q, if_neg (show ¬ bZ true = 0 by decide)]
          exact key _ _ e3 (by rw [decide_eq_true (Nat.lt_of_lt_of_le q (Nat.le_add_right _ _))]; rfl)
        · rw [decide_eq_false q, if_pos (show bZ false = 0 from rfl)]
          have ha : a3 = 0 := by omega
          by_cases q2 : c = 0
          · rw [if_pos (by rw [q2]; decide)]
            exact key _ _ e3 (by rw [if_pos rfl, ha, q2]; rfl)
          · rw [if_neg (by rw [show (0 : Int32) = nI 0 from rfl, nI_leI (by omega) (by omega)]; omega)]
            exact key _ _ e3 (by rw [if_pos rfl, ha, decide_eq_true (show 0 < 0 + c by omega)]; rfl)
    unfold b_L_holds_55 c_L_holds_94
    rw [a_recs h, bd_some, if_neg (by rw [nI_leI (by omega) hr31]; omega), el, bn_in, a_flag hi h hr, bn_in]
    cases ef : A.fl r with
    | true =>
      have : opn A r = false := by unfold opn; rw [ef]; rfl
      rw [this] at k95
      rw [if_neg (show ¬ bZ true = 0 by decide)]
      exact k95
    | false =>
      rw [if_pos (show bZ false = 0 from rfl), a_run hi h, bd_some]
      by_cases q : rn A = some r
      · have : opn A r = false := by unfold opn; rw [ef, q]; simp
        rw [this] at k95
        rw [if_pos (by rw [q]; rfl)]
        exact k95
      · have : opn A r = true := by unfold opn; rw [ef, decide_eq_false q]; rfl
        rw [this] at k95
        rw [if_neg (fun z => q ((oI_nI (rnB' hi) hr31).mp z.symm))]
        exact k95
theorem L_holds {A : AT} {S : BO} (hj : JN A) (hs : A.sp < 2 ^ 31) (h : RS A S.2.1) : f_L_holds S = some 1 := by
  have hi := hj.1
  have hn := INV_n hi
  have key : lpf7 (b_L_holds_55 S) FU 0 0 (nI (cnt A none)) 0 0 1 0 = some 1 := by
    have := h_out hj hs h A.n FU 0 0 0 0 0 (Nat.zero_add _) (Nat.lt_of_le_of_lt hn (by decide)) (fun k hk => by rw [b_0, low_0]) (HS_0 A)
    rw [Nat.add_zero] at this
    exact this
  unfold f_L_holds
  rw [a_free hi h, bd_some, a_recs h, bd_some, if_neg (by rw [show (10 : Int32) = nI 10 from rfl, nI_ltI (by omega) (by omega)]; omega), a_run hi h, bd_some]
  cases er : A.run with
  | false =>
    rw [rn_none er, if_pos (show oI none = -1 from rfl)]
    exact key
  | true =>
    have h0 := INV_r hi er
    rw [rn_run er, if_neg (show ¬ oI (some (A.n - 1)) = -1 from fun z => nI_m1 (n := A.n - 1) (by omega) z), bd_some, bd_some, if_pos (show oI (some (A.n - 1)) = nI A.n - 1 from (sub_nI (a := A.n) (b := 1) h0).symm)]
    exact key
