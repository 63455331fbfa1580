/-! speaking -/
def fwr (A : AT) : Nat → Nat → Option Nat
  | _, 0 => none
  | j, d + 1 => if wr A ((A.hd + j) % 32) then some ((A.hd + j) % 32) else fwr A (j + 1) d
theorem fwr_s (A : AT) (j d : Nat) : fwr A j (d + 1) = if wr A ((A.hd + j) % 32) then some ((A.hd + j) % 32) else fwr A (j + 1) d := rfl
theorem s_fw0 {A : AT} {S : OB} (hi : INV A) (h : RS A S) : ∀ (d f j : Nat), j + d = 32 → d < f → lpf1 (b_X1_firstWritable_2 S) f (nI j) = some (oI (fwr A j d))
  | 0, f + 1, j, hj, _ => by
    obtain rfl : j = 32 := hj
    show b_X1_firstWritable_2 S _ (nI 32) = _
    unfold b_X1_firstWritable_2
    rw [if_pos (by decide)]
    rfl
  | d + 1, f + 1, j, hj, hf => by
    have hk : (A.hd + j) % 32 < 32 := Nat.mod_lt _ (by omega)
    have ih := s_fw0 hi h d f (j + 1) (by omega) (by omega)
    show b_X1_firstWritable_2 S (lpf1 (b_X1_firstWritable_2 S) f) (nI j) = _
    generalize lpf1 (b_X1_firstWritable_2 S) f = K at ih ⊢
    unfold b_X1_firstWritable_2
    rw [s_cfh hi h (by omega)]
    simp (disch := omega) only [nm_eq, bd_some, lit, neg1, nI_leI, s_wr hi h hk, nI_add, bZ0]
    rw [if_neg (by omega), ih, fwr_s]
    cases e2 : wr A ((A.hd + j) % 32) <;> simp [oI_some]
theorem s_fw {A : AT} {S : OB} (hi : INV A) (h : RS A S) : f_X1_firstWritable S = some (oI (fwr A 0 32)) := s_fw0 hi h 32 FU 0 rfl (by decide)
theorem fwr_sm (A : AT) : ∀ d j x, fwr A j d = some x → x < 32 ∧ wr A x = true
  | 0, j, x, e => by cases e
  | d + 1, j, x, e => by
    rw [fwr_s] at e
    split at e
    · next h => cases e; exact ⟨Nat.mod_lt _ (by omega), h⟩
    · exact fwr_sm A d (j + 1) x e
theorem fwr_nn (A : AT) : ∀ d j, fwr A j d = none → ∀ i, j ≤ i → i < j + d → wr A ((A.hd + i) % 32) = false
  | 0, j, _, i, h1, h2 => absurd h2 (by omega)
  | d + 1, j, e, i, h1, h2 => by
    rw [fwr_s] at e
    split at e
    · cases e
    · next h =>
      by_cases q : i = j
      · rw [q]; simpa using h
      · exact fwr_nn A d (j + 1) e i (by omega) (by omega)
theorem fwr_ex {A : AT} (hi : INV A) (h : 0 < cp (wr A) 0 32) : ∃ x, fwr A 0 32 = some x ∧ x < 32 ∧ wr A x = true := by
  cases e : fwr A 0 32 with
  | some x => exact ⟨x, rfl, fwr_sm A 32 0 x e⟩
  | none =>
    obtain ⟨k, h1, h2, h3⟩ := cp_pos 32 0 h
    have hd := INV_hd hi
    have := fwr_nn A 32 0 e ((k + 32 - A.hd) % 32) (by omega) (by omega)
    rw [show (A.hd + (k + 32 - A.hd) % 32) % 32 = k from by omega, h3] at this
    cases this
/-- the cell is free behind this -/
def fre (A : AT) (x : Nat) : AT := match A.ow x with
  | none => A
  | some r => los A x r
def spk (A : AT) (v : Int32) : AT := match fwr A 0 32 with
  | none => A
  | some x => wri (fre A x) x v
theorem wr_some {A : AT} {k r : Nat} (e : A.ow k = some r) : wr A k = if rn A = some r then false else !A.fl r := by unfold wr; rw [e]
theorem wr_none {A : AT} {k : Nat} (e : A.ow k = none) : wr A k = true := by unfold wr; rw [e]
theorem wr_rmv {A : AT} (hi : INV A) {r k : Nat} (hr : r < A.n) (hk : k < 32) (h : A.ow k ≠ some r) (hq : rn A ≠ some r) : wr (rmv A r) k = wr A k := by
  have hrr : A.run = true → r ≠ A.n - 1 := fun e q => hq (by rw [rn_run e, q])
  cases e : A.ow k with
  | none => rw [wr_none e, wr_none (show shO r (A.ow k) = none by rw [e]; rfl)]
  | some z =>
    have hz := INV_ow hi hk z e
    have hzr : z ≠ r := fun q => h (q ▸ e)
    have e2 : (rmv A r).ow k = some (if z ≤ r then z else z - 1) := by
      show shO r (A.ow k) = _
      rw [e]
      show (if z = r then none else if z ≤ r then some z else some (z - 1)) = _
      rw [if_neg hzr]
      split <;> rfl
    rw [wr_some e, wr_some e2]
    have e3 : rn (rmv A r) = some (if z ≤ r then z else z - 1) ↔ rn A = some z := by
      unfold rn
      cases er : A.run with
      | false =>
        have : (rmv A r).run = false := by show (A.run && decide (r ≠ A.n - 1)) = false; rw [er]; rfl
        rw [this]; simp
      | true =>
        have h1 := hrr er
        have : (rmv A r).run = true := by show (A.run && decide (r ≠ A.n - 1)) = true; rw [er, decide_eq_true h1]; rfl
        rw [this, if_pos rfl, if_pos rfl, show (rmv A r).n = A.n - 1 from rfl, Option.some.injEq, Option.some.injEq]
        split <;> omega
    have e4 : (rmv A r).fl (if z ≤ r then z else z - 1) = A.fl z := by
      show (if (if z ≤ r then z else z - 1) < r then A.fl (if z ≤ r then z else z - 1) else A.fl ((if z ≤ r then z else z - 1) + 1)) = A.fl z
      by_cases q : z ≤ r
      · rw [if_pos q, if_pos (by omega)]
      · rw [if_neg q, if_neg (by omega), Nat.sub_add_cancel (by omega)]
    rw [e4]
    by_cases q : rn A = some z
    · rw [if_pos q, if_pos (e3.mpr q)]
    · rw [if_neg q, if_neg (fun w => q (e3.mp w))]
theorem wr_los1 {A : AT} {x r k : Nat} (h : k ≠ x) : wr (los1 A x r) k = wr A k := by
  have e1 : (los1 A x r).ow k = A.ow k := if_neg h
  cases e : A.ow k with
  | none => rw [wr_none e, wr_none (e1.trans e)]
  | some z => 
    rw [wr_some e, wr_some (e1.trans e)]
    rfl
theorem wr_go {A : AT} (g k : Nat) : wr (sGO A g) k = wr A k := rfl
theorem rmv_run (A : AT) (r : Nat) : (rmv A r).run = (A.run && decide (r ≠ A.n - 1)) := rfl
theorem rmv_sp (A : AT) (r : Nat) : (rmv A r).sp = A.sp := rfl
theorem rmv_ow (A : AT) (r k : Nat) : (rmv A r).ow k = shO r (A.ow k) := rfl
theorem go_run (A : AT) (g : Nat) : (sGO A g).run = A.run := rfl
theorem go_sp (A : AT) (g : Nat) : (sGO A g).sp = A.sp := rfl
theorem go_ow (A : AT) (g : Nat) : (sGO A g).ow = A.ow := rfl
theorem los1_run (A : AT) (x r : Nat) : (los1 A x r).run = A.run := rfl
theorem los1_n (A : AT) (x r : Nat) : (los1 A x r).n = A.n := rfl
theorem los1_sp (A : AT) (x r : Nat) : (los1 A x r).sp = A.sp := rfl
theorem los1_ow (A : AT) (x r k : Nat) : (los1 A x r).ow k = if k = x then none else A.ow k := rfl
theorem wri_run (A : AT) (x : Nat) (v : Int32) : (wri A x v).run = A.run := rfl
theorem wri_sp (A : AT) (x : Nat) (v : Int32) : (wri A x v).sp = A.sp + 1 := rfl
theorem los_run {A : AT} {x r : Nat} (hr : A.run = true) (h : r ≠ A.n - 1) : (los A x r).run = true := by
  unfold los
  by_cases e : cnt (los1 A x r) (some r) = 0
  · rw [if_pos e, go_run, rmv_run, los1_run, los1_n, hr, decide_eq_true h]; rfl
  · rw [if_neg e, los1_run, hr]
theorem los_sp {A : AT} {x r : Nat} : (los A x r).sp = A.sp := by
  unfold los
  by_cases e : cnt (los1 A x r) (some r) = 0
  · rw [if_pos e, go_sp, rmv_sp, los1_sp]
  · rw [if_neg e, los1_sp]
theorem los_x {A : AT} {x r : Nat} : (los A x r).ow x = none := by
  unfold los
  by_cases e : cnt (los1 A x r) (some r) = 0
  · rw [if_pos e, go_ow, rmv_ow, los1_ow, if_pos rfl]; rfl
  · rw [if_neg e, los1_ow, if_pos rfl]
theorem fre_some {A : AT} {x r : Nat} (e : A.ow x = some r) : fre A x = los A x r := by unfold fre; rw [e]
theorem fre_none {A : AT} {x : Nat} (e : A.ow x = none) : fre A x = A := by unfold fre; rw [e]
theorem fre_ok {A : AT} (hi : INV A) (hr : A.run = true) {x : Nat} (hx : x < 32) (hw : wr A x = true) : INV (fre A x) ∧ (fre A x).run = true ∧ (fre A x).ow x = none ∧ (fre A x).sp = A.sp ∧ ∀ k, k < 32 → k ≠ x → wr (fre A x) k = wr A k := by
  cases e : A.ow x with
  | none => rw [fre_none e]; exact ⟨hi, hr, e, rfl, fun _ _ _ => rfl⟩
  | some r =>
    have hrn := INV_ow hi hx r e
    have hq : rn A ≠ some r := fun q => by rw [wr_some e, if_pos q] at hw; cases hw
    rw [fre_some e]
    refine ⟨INV_los hi hrn, los_run hr (fun q => hq (by rw [rn_run hr, q])), los_x, los_sp, fun k hk hkx => ?_⟩
    unfold los
    by_cases h0 : cnt (los1 A x r) (some r) = 0
    · rw [if_pos h0, wr_go, wr_rmv (INV_los1 hi x r) hrn hk (cnt_0 h0 k hk) hq]
      exact wr_los1 hkx
    · rw [if_neg h0]
      exact wr_los1 hkx
theorem wri_x {A : AT} (hr : A.run = true) (x : Nat) (v : Int32) : wr (wri A x v) x = false := by
  rw [wr_some (show (wri A x v).ow x = some (A.n - 1) from if_pos rfl), if_pos]
  exact rn_run (A := wri A x v) hr
theorem wri_k {A : AT} {x k : Nat} (h : k ≠ x) (v : Int32) : wr (wri A x v) k = wr A k := by
  have e1 : (wri A x v).ow k = A.ow k := if_neg h
  cases e : A.ow k with
  | none => rw [wr_none e, wr_none (e1.trans e)]
  | some z => 
    rw [wr_some e, wr_some (e1.trans e)]
    rfl
theorem spk_ok {A : AT} (hi : INV A) (hr : A.run = true) (h0 : 0 < cp (wr A) 0 32) (v : Int32) : ∃ x, fwr A 0 32 = some x ∧ x < 32 ∧ wr A x = true ∧ spk A v = wri (fre A x) x v ∧ INV (spk A v) ∧ (spk A v).run = true ∧ cp (wr (spk A v)) 0 32 + 1 = cp (wr A) 0 32 ∧ (spk A v).sp = A.sp + 1 := by
  obtain ⟨x, e, hx, hw⟩ := fwr_ex hi h0
  obtain ⟨f1, f2, f3, f4, f5⟩ := fre_ok hi hr hx hw
  have es : spk A v = wri (fre A x) x v := by unfold spk; rw [e]
  refine ⟨x, e, hx, hw, es, ?_⟩
  rw [es]
  refine ⟨INV_wri f1 f2 hx f3 v, (wri_run _ x v).trans f2, ?_, by rw [wri_sp, f4]⟩
  rw [cp_one (p := wr A) (q := fun k => if k = x then false else wr A k) (a := x) hw (if_pos rfl) (fun k hk => (if_neg hk).symm) 32 0 (by omega) (by omega)]
  refine congrArg (· + 1) ?_
  refine cp_congr 32 0 (fun k _ hk => ?_)
  show wr (wri (fre A x) x v) k = if k = x then false else wr A k
  by_cases q : k = x
  · rw [if_pos q, q]; exact wri_x f2 x v
  · rw [if_neg q, wri_k q]; exact f5 k (by omega) q
def wrc (A : AT) : Nat := cp (wr A) 0 32
def spkN (A : AT) (v : Int32) : Nat → AT
  | 0 => A
  | k + 1 => spkN (spk A v) v k
theorem s_spkN {v : Int32} {m : Nat} (hm : m < 2 ^ 31) : ∀ (k f i : Nat) (last : Int32) (A : AT) (S : OB), INV A → RS A S → A.run = true → k ≤ wrc A → i + k = m → k < f → ∃ last' S', lpf5 b_X1_speakTimes_5 f (nI m) v last (nI i) S = some (last', S') ∧ RS (spkN A v k) S' ∧ (k = 0 → last' = last) ∧ (k = 1 → last' = oI (fwr A 0 32)) := by
  intro k
  induction k with
  | zero =>
    intro f i last A S hi h hr hk hj hf
    obtain ⟨f, rfl⟩ : ∃ g, f = g + 1 := ⟨f - 1, by omega⟩
    obtain rfl : i = m := hj
    refine ⟨last, S, ?_, h, fun _ => rfl, fun e => by omega⟩
    show b_X1_speakTimes_5 _ _ _ _ _ _ = _
    unfold b_X1_speakTimes_5
    rw [if_pos (by rw [nI_leI hm hm]; exact Nat.le_refl i)]
  | succ k ih =>
    intro f i last A S hi h hr hk hj hf
    obtain ⟨f, rfl⟩ : ∃ g, f = g + 1 := ⟨f - 1, by clear hk; omega⟩
    obtain ⟨x, e, hx, hw, es, s1, s2, s3, s4⟩ := spk_ok hi hr (Nat.lt_of_lt_of_le (Nat.succ_pos k) hk) v
    have hk' : k ≤ wrc (spk A v) := Nat.le_of_succ_le_succ (Nat.le_trans hk (Nat.le_of_eq s3.symm))
    clear hk s3
    obtain ⟨f1, f2, f3, f4, f5⟩ := fre_ok hi hr hx hw
    have ih := fun last S1 h1 => ih f (i + 1) last (spk A v) S1 s1 h1 s2 hk' (by clear hk'; omega) (by clear hk'; omega)
    clear hk'
    show ∃ last' S', b_X1_speakTimes_5 (lpf5 b_X1_speakTimes_5 f) _ _ _ _ _ = _ ∧ _
    generalize lpf5 b_X1_speakTimes_5 f = K at ih ⊢
    unfold b_X1_speakTimes_5
    obtain ⟨S1, k1, k2⟩ := s_lose hi h hx
    obtain ⟨S2, k3, k4⟩ := s_wri f1 (by unfold fre; exact k2) f2 hx f3 v
    obtain ⟨l', S3, k5, k6, k7, k8⟩ := ih (nI x) S2 (by rw [es]; exact k4)
    rw [if_neg (by rw [nI_leI hm (by omega)]; omega), s_fw hi h, bd_some, e, oI_some, if_neg (fun q => nI_m1 (n := x) (by omega) q), k1, bd_some, k3, bd_some, nm_eq, show nI i + 1 = nI (i + 1) from nI_1 i]
    exact ⟨l', S3, k5, k6, fun q => Nat.noConfusion q, fun q => k7 (Nat.succ.inj q)⟩
