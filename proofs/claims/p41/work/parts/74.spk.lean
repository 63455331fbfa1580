/-! a sound is spoken: what holds behind it, and what stays -/
/-- a recording of C is told as one of A was -/
def Same (C : AT) (q : Nat) (A : AT) (k : Nat) : Prop := cl C q = cl A k ∧ C.lo q = A.lo k ∧ C.fl q = A.fl k ∧ ∀ y ∈ cl C q, C.sn y = A.sn y ∧ C.ca y = A.ca y
theorem Same.rfl' (A : AT) (k : Nat) : Same A k A k := ⟨rfl, rfl, rfl, fun _ _ => ⟨rfl, rfl⟩⟩
theorem Same.trans' {C B A : AT} {q k j : Nat} (h1 : Same C q B k) (h2 : Same B k A j) : Same C q A j :=
  ⟨h1.1.trans h2.1, h1.2.1.trans h2.2.1, h1.2.2.1.trans h2.2.2.1, fun y hy => ⟨(h1.2.2.2 y hy).1.trans (h2.2.2.2 y (h1.1 ▸ hy)).1, (h1.2.2.2 y hy).2.trans (h2.2.2.2 y (h1.1 ▸ hy)).2⟩⟩
theorem rmv_same (A : AT) (r q : Nat) : Same (rmv A r) q A (sk r q) := ⟨rmv_cl A r q, rmv_lo A r q, rmv_fl A r q, fun _ _ => ⟨rfl, rfl⟩⟩
theorem los1_own {A : AT} {x r k q : Nat} : (los1 A x r).ow k = some q ↔ k ≠ x ∧ A.ow k = some q := by
  rw [los1_ow]
  by_cases e : k = x <;> simp [e]
theorem los1_cl {A : AT} {x r q : Nat} (h : A.ow x ≠ some q) : cl (los1 A x r) q = cl A q := by
  show (A.od.filter (fun k => !decide (k = x))).filter (isO (los1 A x r) q) = A.od.filter (isO A q)
  rw [List.filter_filter]
  refine List.filter_congr (fun k _ => ?_)
  unfold isO
  by_cases e : k = x
  · subst e; simp [h]
  · simp [e, los1_own]
theorem los1_cnt {A : AT} {x r q : Nat} (h : A.ow x ≠ some q) : cnt (los1 A x r) (some q) = cnt A (some q) :=
  cp_congr 32 0 (fun k _ _ => decide_eq_decide.mpr (by
    rw [los1_own]
    by_cases e : k = x
    · subst e; simp [h]
    · simp [e]))
theorem los1_cntr {A : AT} {x r : Nat} (hx : x < 32) (h : A.ow x = some r) : cnt A (some r) = cnt (los1 A x r) (some r) + 1 :=
  cp_one (a := x) (decide_eq_true h) (decide_eq_false (by rw [los1_own]; simp)) (fun k hk => decide_eq_decide.mpr (by rw [los1_own]; simp [hk])) 32 0 (by omega) (by omega)
theorem los1_same {A : AT} {x r q : Nat} (h : A.ow x = some r) (hq : q ≠ r) : Same (los1 A x r) q A q :=
  ⟨los1_cl (by rw [h]; intro e; exact hq (Option.some.inj e).symm), if_neg hq, rfl, fun _ _ => ⟨rfl, rfl⟩⟩
theorem bf_lt {A : AT} (hi : INV A) {x r : Nat} (hx : x < 32) (h : A.ow x = some r) : bf (isO A r) x A.od < cnt A (some r) := by
  have h1 := (at_bf (i := bf (isO A r) x A.od) (x := x) (p := isO A r) (INV_nd hi)).mpr ⟨(INV_od hi x).mpr ⟨hx, by rw [h]; simp⟩, decide_eq_true h, rfl⟩
  rw [at_ce] at h1
  rw [← cl_len hi]
  exact (List.getElem?_eq_some_iff.mp h1).1
/-- like JN, with another bound of the losses -/
def JM (A : AT) (m : Nat) : Prop := INV A ∧ (∀ k, k < 32 → A.ow k ≠ none → ∃ s, s ≤ 99 ∧ A.sn k = nI s) ∧ (∀ r, r < A.n → rn A ≠ some r → 0 < cnt A (some r)) ∧ (∀ r, r < A.n → ∃ q, q ≤ m ∧ A.lo r = nI q) ∧ ∀ r p, A.P = some (r, p) → p ≤ cnt A (some r)
theorem ar_1 {b c d y : Nat} (hb : b < c) (hc : c = d + 1) (hy : y ≤ c) (h : b < y) : y - 1 ≤ d := by omega
theorem ar_2 {b c d y : Nat} (hb : b < c) (hc : c = d + 1) (h : ¬ b < y) : y ≤ d := by omega
theorem los1_rn (A : AT) (x r : Nat) : rn (los1 A x r) = rn A := rfl
theorem los1_P {A : AT} (hi : INV A) {x r : Nat} (hx : x < 32) (ho : A.ow x = some r) (h5 : ∀ r p, A.P = some (r, p) → p ≤ cnt A (some r)) (q p : Nat) (e : (los1 A x r).P = some (q, p)) : p ≤ cnt (los1 A x r) (some q) := by
  have e : dcP A x r = some (q, p) := e
  have hb := bf_lt hi hx ho
  have hc := los1_cntr hx ho
  cases e1 : A.P with
  | none => unfold dcP at e; rw [e1] at e; cases e
  | some w =>
    obtain ⟨z, y⟩ := w
    have hy := h5 z y e1
    unfold dcP at e
    rw [e1] at e
    have e : (if z = r ∧ bf (isO A r) x A.od < y then some (z, y - 1) else some (z, y)) = some (q, p) := e
    by_cases e2 : z = r
    · subst e2
      split at e
      · next q3 => cases e; exact ar_1 hb hc hy q3.2
      · next q3 => cases e; exact ar_2 hb hc (fun q4 => q3 ⟨rfl, q4⟩)
    · rw [if_neg (fun q3 => e2 q3.1)] at e
      cases e
      rw [los1_cnt (by rw [ho]; intro q3; exact e2 (Option.some.inj q3).symm)]
      exact hy
theorem J_los {A : AT} (h : JN A) {x r : Nat} (hx : x < 32) (ho : A.ow x = some r) (hr : rn A ≠ some r) : JM (los A x r) (A.sp + 1) := by
  obtain ⟨h1, h2, h3, h4, h5⟩ := h
  have hrn := INV_ow h1 hx r ho
  have hne : ∀ q, q ≠ r → A.ow x ≠ some q := fun q hq => by rw [ho]; intro e; exact hq (Option.some.inj e).symm
  have hP := los1_P h1 hx ho h5
  unfold los
  by_cases e : cnt (los1 A x r) (some r) = 0
  · rw [if_pos e]
    have hi := INV_rmv (INV_los1 h1 x r) hrn
    refine ⟨hi, fun k hk e1 => ?_, fun q hq e1 => ?_, fun q hq => ?_, fun q p e1 => ?_⟩
    · refine h2 k hk (fun e2 => e1 ?_)
      show shO r ((los1 A x r).ow k) = none
      rw [los1_ow, e2]
      split <;> rfl
    · show 0 < cnt (rmv (los1 A x r) r) (some q)
      rw [rmv_cnt, los1_cnt (hne _ (sk_ne r q))]
      exact h3 _ (sk_lt hrn hq) (fun e2 => e1 ((rmv_rn (INV_los1 h1 x r) hrn q).mpr e2))
    · show ∃ z, z ≤ A.sp + 1 ∧ (rmv (los1 A x r) r).lo q = nI z
      obtain ⟨z, z1, z2⟩ := h4 _ (sk_lt hrn hq)
      exact ⟨z, Nat.le_succ_of_le z1, ((rmv_lo _ r q).trans (if_neg (sk_ne r q))).trans z2⟩
    · show p ≤ cnt (rmv (los1 A x r) r) (some q)
      rw [rmv_cnt]
      exact hP _ _ ((rmv_P _ r q p).mp e1)
  · rw [if_neg e]
    refine ⟨INV_los1 h1 x r, fun k hk e1 => ?_, fun q hq e1 => ?_, fun q hq => ?_, hP⟩
    · refine h2 k hk (fun e2 => e1 ?_)
      rw [los1_ow, e2]
      split <;> rfl
    · by_cases e2 : q = r
      · rw [e2]; exact Nat.pos_of_ne_zero e
      · rw [los1_cnt (hne q e2)]
        exact h3 q hq e1
    · show ∃ z, z ≤ A.sp + 1 ∧ (if q = r then A.lo r + 1 else A.lo q) = nI z
      by_cases e2 : q = r
      · rw [if_pos e2]
        obtain ⟨z, z1, z2⟩ := h4 r hrn
        exact ⟨z + 1, Nat.succ_le_succ z1, by rw [z2]; exact nI_1 z⟩
      · rw [if_neg e2]
        obtain ⟨z, z1, z2⟩ := h4 q hq
        exact ⟨z, Nat.le_succ_of_le z1, z2⟩
/-- a cell is written -/
theorem wri_own {B : AT} {x k q : Nat} {v : Int32} : (wri B x v).ow k = some q ↔ if k = x then q = B.n - 1 else B.ow k = some q := by
  show (if k = x then some (B.n - 1) else B.ow k) = some q ↔ _
  by_cases e : k = x
  · rw [if_pos e, if_pos e, Option.some.injEq]; exact eq_comm
  · rw [if_neg e, if_neg e]
theorem wri_cnt {B : AT} {x q : Nat} {v : Int32} (h0 : B.ow x = none) (hq : q ≠ B.n - 1) : cnt (wri B x v) (some q) = cnt B (some q) :=
  cp_congr 32 0 (fun k _ _ => decide_eq_decide.mpr (by
    rw [wri_own]
    by_cases e : k = x
    · subst e; simp [h0, hq]
    · simp [e]))
theorem wri_cntr {B : AT} {x : Nat} {v : Int32} (hx : x < 32) (h0 : B.ow x = none) : cnt (wri B x v) (some (B.n - 1)) = cnt B (some (B.n - 1)) + 1 :=
  cp_one (a := x) (decide_eq_true (by rw [wri_own, if_pos rfl])) (decide_eq_false (by rw [h0]; simp)) (fun k hk => decide_eq_decide.mpr (by rw [wri_own, if_neg hk])) 32 0 (by omega) (by omega)
theorem wri_cl {B : AT} (hi : INV B) {x q : Nat} {v : Int32} (h0 : B.ow x = none) : cl (wri B x v) q = if q = B.n - 1 then cl B q ++ [x] else cl B q := by
  have hni : x ∉ B.od := fun q => ((INV_od hi x).mp q).2 h0
  show (B.od ++ [x]).filter (isO (wri B x v) q) = _
  rw [List.filter_append]
  have e1 : B.od.filter (isO (wri B x v) q) = cl B q := by
    refine List.filter_congr (fun k hk => ?_)
    have : k ≠ x := fun e => hni (e ▸ hk)
    exact decide_eq_decide.mpr (by rw [wri_own, if_neg this])
  rw [e1]
  by_cases e : q = B.n - 1
  · rw [if_pos e, List.filter_cons_of_pos (by show decide _ = true; exact decide_eq_true (by rw [wri_own, if_pos rfl]; exact e)), List.filter_nil]
  · rw [if_neg e, List.filter_cons_of_neg (by show ¬ decide _ = true; simp [wri_own, e]), List.filter_nil, List.append_nil]
theorem wri_n (B : AT) (x : Nat) (v : Int32) : (wri B x v).n = B.n := rfl
theorem wri_rn {B : AT} (hr : B.run = true) (x : Nat) (v : Int32) : rn (wri B x v) = some (B.n - 1) := rn_run (A := wri B x v) hr
theorem wri_same {B : AT} (hi : INV B) {x q : Nat} {v : Int32} (h0 : B.ow x = none) (hq : q ≠ B.n - 1) : Same (wri B x v) q B q := by
  have hni : x ∉ B.od := fun q => ((INV_od hi x).mp q).2 h0
  refine ⟨by rw [wri_cl hi h0, if_neg hq], rfl, rfl, fun y hy => ?_⟩
  rw [wri_cl hi h0, if_neg hq] at hy
  have : y ≠ x := fun e => hni (e ▸ (List.mem_filter.mp hy).1)
  exact ⟨if_neg this, if_neg this⟩
theorem J_wri {B : AT} {m : Nat} (h : JM B m) (hr : B.run = true) (hm : m = B.sp + 1) {x v : Nat} (hx : x < 32) (h0 : B.ow x = none) (hv : v ≤ 99) : JN (wri B x (nI v)) := by
  obtain ⟨h1, h2, h3, h4, h5⟩ := h
  subst hm
  refine ⟨INV_wri h1 hr hx h0 _, fun k hk e => ?_, fun q hq e => ?_, h4, fun q p e => ?_⟩
  · show ∃ s, s ≤ 99 ∧ (if k = x then nI v else B.sn k) = nI s
    by_cases e1 : k = x
    · rw [if_pos e1]; exact ⟨v, hv, rfl⟩
    · rw [if_neg e1]
      exact h2 k hk (fun e2 => e ((if_neg e1).trans e2))
  · rw [wri_rn hr] at e
    have e1 : q ≠ B.n - 1 := fun e2 => e (by rw [e2])
    rw [wri_cnt h0 e1]
    exact h3 q hq (by rw [rn_run hr]; intro e2; exact e1 (Option.some.inj e2).symm)
  · have := h5 q p e
    by_cases e1 : q = B.n - 1
    · subst e1; rw [wri_cntr hx h0]; exact Nat.le_succ_of_le this
    · rw [wri_cnt h0 e1]; exact this
/-- the one that would lose its last cell -/
def lastQ (A : AT) (x : Nat) : Bool := match A.ow x with
  | none => false
  | some r => decide (cnt A (some r) = 1)
theorem lastQ_some {A : AT} {x r : Nat} (h : A.ow x = some r) : lastQ A x = decide (cnt A (some r) = 1) := by unfold lastQ; rw [h]
theorem lastQ_none {A : AT} {x : Nat} (h : A.ow x = none) : lastQ A x = false := by unfold lastQ; rw [h]
/-- the number of a recording behind the sound -/
def thn (A : AT) (x k : Nat) : Nat := match A.ow x with
  | none => k
  | some r => if lastQ A x = true ∧ r < k then k - 1 else k
theorem thn_some {A : AT} {x r : Nat} (h : A.ow x = some r) (k : Nat) : thn A x k = if lastQ A x = true ∧ r < k then k - 1 else k := by unfold thn; rw [h]
theorem thn_none {A : AT} {x : Nat} (h : A.ow x = none) (k : Nat) : thn A x k = k := by unfold thn; rw [h]
theorem sk_end {r n : Nat} (h : r < n) (hl : r ≠ n - 1) : sk r (n - 1 - 1) = n - 1 := by unfold sk; split <;> omega
theorem th_if {r k : Nat} : (if true = true ∧ r < k then k - 1 else k) = if r < k then k - 1 else k := by simp
theorem sk_th {r k : Nat} (h : k ≠ r) : sk r (if true = true ∧ r < k then k - 1 else k) = k := by
  rw [th_if]
  unfold sk
  by_cases q : r < k
  · rw [if_pos q, if_neg (by omega)]; omega
  · rw [if_neg q, if_pos (by omega)]
theorem th_lt {r n k : Nat} (hr : r < n) (hl : r ≠ n - 1) (hk : k < n) (hkr : k ≠ r) : (if true = true ∧ r < k then k - 1 else k) < n - 1 := by rw [th_if]; split <;> omega
theorem th_ne {r n k : Nat} (hr : r < n) (hl : r ≠ n - 1) (hk : k < n) (hkr : k ≠ r) (hkl : k ≠ n - 1) : (if true = true ∧ r < k then k - 1 else k) ≠ n - 1 - 1 := by rw [th_if]; split <;> omega
theorem n1_pos {r n : Nat} (hr : r < n) (hl : r ≠ n - 1) : 0 < n - 1 := by omega
/-- the cell x is free then -/
theorem fre_told {A : AT} (h : JN A) (hr : A.run = true) {x : Nat} (hx : x < 32) (hw : wr A x = true) : JM (fre A x) (A.sp + 1) ∧ (fre A x).n = A.n - (if lastQ A x then 1 else 0) ∧ (fre A x).go = A.go + (if lastQ A x then 1 else 0) ∧ 0 < (fre A x).n ∧ Same (fre A x) ((fre A x).n - 1) A (A.n - 1) ∧ ∀ k, k < A.n → A.ow x ≠ some k → thn A x k < (fre A x).n ∧ (k ≠ A.n - 1 → thn A x k ≠ (fre A x).n - 1) ∧ Same (fre A x) (thn A x k) A k := by
  have h0 := INV_r h.1 hr
  cases e : A.ow x with
  | none =>
    rw [fre_none e, lastQ_none e]
    obtain ⟨h1, h2, h3, h4, h5⟩ := h
    refine ⟨⟨h1, h2, h3, fun r hr => ?_, h5⟩, rfl, rfl, h0, Same.rfl' _ _, fun k hk _ => ?_⟩
    · obtain ⟨q, q1, q2⟩ := h4 r hr
      exact ⟨q, Nat.le_succ_of_le q1, q2⟩
    · rw [thn_none e]
      exact ⟨hk, id, Same.rfl' _ _⟩
  | some r =>
    have hq : rn A ≠ some r := fun q => by rw [wr_some e, if_pos q] at hw; cases hw
    have hrn := INV_ow h.1 hx r e
    have hrl : r ≠ A.n - 1 := fun q => hq (by rw [rn_run hr, q])
    have hc := los1_cntr hx e
    have hJ := J_los h hx e hq
    rw [fre_some e]
    refine ⟨hJ, ?_⟩
    unfold los
    by_cases e1 : cnt (los1 A x r) (some r) = 0
    · have hl : lastQ A x = true := by rw [lastQ_some e]; exact decide_eq_true (by rw [hc, e1])
      rw [if_pos e1, hl]
      have hs : ∀ q, Same (sGO (rmv (los1 A x r) r) (A.go + 1)) q A (sk r q) := fun q => Same.trans' (show Same (sGO (rmv (los1 A x r) r) (A.go + 1)) q (los1 A x r) (sk r q) from rmv_same _ r q) (los1_same e (sk_ne r q))
      refine ⟨rfl, rfl, n1_pos hrn hrl, ?_, fun k hk hk2 => ?_⟩
      · have := hs (A.n - 1 - 1)
        rw [sk_end hrn hrl] at this
        exact this
      · have hkr : k ≠ r := fun q => hk2 (by rw [q])
        have := hs (thn A x k)
        rw [show sk r (thn A x k) = k by rw [thn_some e, hl]; exact sk_th hkr] at this
        refine ⟨?_, fun hkl => ?_, this⟩
        · show thn A x k < A.n - 1
          rw [thn_some e, hl]; exact th_lt hrn hrl hk hkr
        · show thn A x k ≠ A.n - 1 - 1
          rw [thn_some e, hl]; exact th_ne hrn hrl hk hkr hkl
    · have hl : lastQ A x = false := by rw [lastQ_some e]; exact decide_eq_false (fun q => e1 (Nat.succ.inj (hc.symm.trans q)))
      rw [if_neg e1, hl]
      refine ⟨rfl, rfl, h0, los1_same e (fun q => hrl q.symm), fun k hk hk2 => ?_⟩
      have hkr : k ≠ r := fun q => hk2 (by rw [q])
      rw [thn_some e, hl, if_neg (fun q => Bool.noConfusion q.1)]
      exact ⟨hk, id, los1_same e hkr⟩
/-- all that the law asks of a sound -/
theorem spk_told {A : AT} (h : JN A) (hr : A.run = true) (hw0 : 0 < wrc A) {v : Nat} (hv : v ≤ 99) : ∃ x, fwr A 0 32 = some x ∧ x < 32 ∧ wr A x = true ∧ JN (spk A (nI v)) ∧ (spk A (nI v)).run = true ∧ (spk A (nI v)).hd = (x + 1) % 32 ∧ (spk A (nI v)).sp = A.sp + 1 ∧ 0 < (spk A (nI v)).n ∧ (spk A (nI v)).ow x = some ((spk A (nI v)).n - 1) ∧ (spk A (nI v)).n = A.n - (if lastQ A x then 1 else 0) ∧ (spk A (nI v)).go = A.go + (if lastQ A x then 1 else 0) ∧ cl (spk A (nI v)) ((spk A (nI v)).n - 1) = cl A (A.n - 1) ++ [x] ∧ (spk A (nI v)).sn x = nI v ∧ (spk A (nI v)).ca x = nI v ∧ ∀ k, k < A.n → k ≠ A.n - 1 → A.ow x ≠ some k → thn A x k < (spk A (nI v)).n ∧ Same (spk A (nI v)) (thn A x k) A k := by
  obtain ⟨x, e, hx, hw⟩ := fwr_ex h.1 hw0
  obtain ⟨f1, f2, f3, f4, f5⟩ := fre_ok h.1 hr hx hw
  obtain ⟨g1, g2, g3, g4, g5, g6⟩ := fre_told h hr hx hw
  have es : spk A (nI v) = wri (fre A x) x (nI v) := by unfold spk; rw [e]
  refine ⟨x, e, hx, hw, ?_⟩
  rw [es]
  refine ⟨J_wri g1 f2 (by rw [f4]) hx f3 hv, (wri_run _ x _).trans f2, rfl, (wri_sp _ x _).trans (by rw [f4]), g4, if_pos rfl, g2, g3, ?_, if_pos rfl, if_pos rfl, fun k hk hkl hk2 => ?_⟩
  · rw [wri_n, wri_cl f1 f3, if_pos rfl, g5.1]
  · obtain ⟨k1, k2, k3⟩ := g6 k hk hk2
    exact ⟨k1, Same.trans' (wri_same f1 f3 (k2 hkl)) k3⟩
/-- the loss by one sound -/
theorem lsa_0 (A : AT) (r c : Nat) : ∀ d j, lsa A r 0 c j d = c
  | 0, _ => rfl
  | d + 1, j => by unfold lsa; rw [if_pos rfl]
theorem lsa_1 {A : AT} {x r : Nat} : ∀ d j, fwr A j d = some x → lsa A r 1 0 j d = if A.ow x = some r then 1 else 0
  | 0, j, e => by cases e
  | d + 1, j, e => by
    rw [fwr_s] at e
    unfold lsa
    rw [if_neg (by omega)]
    by_cases q : wr A ((A.hd + j) % 32) = true
    · rw [if_pos q] at e
      rw [if_pos q, lsa_0, Option.some.inj e]
      split <;> rfl
    · rw [if_neg q] at e
      rw [if_neg q]
      exact lsa_1 d (j + 1) e
theorem ls_1 {A : AT} {x : Nat} (e : fwr A 0 32 = some x) (r : Nat) : ls A r 1 = if A.ow x = some r then 1 else 0 := lsa_1 32 0 e
theorem ga_1 {A : AT} (hi : INV A) {x : Nat} (hx : x < 32) (e : fwr A 0 32 = some x) : ga A 1 = if lastQ A x then 1 else 0 := by
  have hg : ∀ j, gaq A 1 j = (decide (A.ow x = some j) && decide (cnt A (some j) = 1)) := fun j => by
    unfold gaq
    rw [show lsa A j 1 0 0 32 = if A.ow x = some j then 1 else 0 from ls_1 e j]
    by_cases q : A.ow x = some j
    · simp [q, eq_comm]
    · simp [q]
  unfold ga
  cases e1 : A.ow x with
  | none =>
    rw [lastQ_none e1]
    exact cp_zero _ _ (fun k _ _ => by rw [hg, e1]; rfl)
  | some r =>
    have hr := INV_ow hi hx r e1
    rw [lastQ_some e1]
    by_cases q : cnt A (some r) = 1
    · rw [decide_eq_true q, cp_one (p := gaq A 1) (q := fun _ => false) (a := r) (by rw [hg, e1]; simp [q]) rfl (fun k hk => by rw [hg, e1]; simp [Ne.symm hk]) A.n 0 (by omega) (by omega), cp_zero _ _ (fun _ _ _ => rfl)]
      rfl
    · rw [decide_eq_false q]
      refine cp_zero _ _ (fun k _ _ => ?_)
      rw [hg, e1]
      by_cases q2 : r = k
      · subst q2; simp [q]
      · simp [q2]
