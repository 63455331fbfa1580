/-! the law's deeds, one by one -/
/-- the running one has no cells -/
def emp (A : AT) : Bool := A.run && decide (cnt A (some (A.n - 1)) = 0)
theorem mayB_emp (A : AT) : mayB A = (decide (A.n < 10) || emp A) := rfl
theorem stp_n' {A : AT} (hr : A.run = true) : (stp A).n = if emp A = true then A.n - 1 else A.n := by
  unfold stp emp
  rw [hr, Bool.true_and]
  by_cases e : cnt A (some (A.n - 1)) = 0
  · rw [if_pos e, decide_eq_true e, if_pos rfl]; rfl
  · rw [if_neg e, decide_eq_false e, if_neg (by decide)]
theorem bgn1_n (A : AT) : (bgn1 A).n = A.n + 1 := rfl
theorem bgn1_n1 (A : AT) : (bgn1 A).n - 1 = A.n := Nat.add_sub_cancel (n := A.n) (m := 1)
theorem bgn1_c {A : AT} (hi : INV A) : cnt (bgn1 A) (some A.n) = 0 := cp_zero 32 0 (fun k _ hk => decide_eq_false (fun e => Nat.lt_irrefl _ (INV_ow hi (k := k) (by omega) A.n e)))
theorem bgn1_told {A : AT} (hi : INV A) : rn (bgn1 A) = some ((bgn1 A).n - 1) ∧ cnt (bgn1 A) (some ((bgn1 A).n - 1)) = 0 ∧ (bgn1 A).fl ((bgn1 A).n - 1) = false ∧ 0 < (bgn1 A).n := by
  rw [bgn1_n1]
  exact ⟨bgn1_rn A, bgn1_c hi, if_pos rfl, Nat.succ_pos _⟩
theorem bgn_told {A : AT} (hi : INV A) : (bgn A).n - 1 = (if emp A = true then A.n - 1 else A.n) ∧ rn (bgn A) = some ((bgn A).n - 1) ∧ cnt (bgn A) (some ((bgn A).n - 1)) = 0 ∧ (bgn A).fl ((bgn A).n - 1) = false ∧ 0 < (bgn A).n := by
  unfold bgn
  cases er : A.run with
  | false =>
    have : emp A = false := by unfold emp; rw [er]; rfl
    rw [if_neg (by decide), this, if_neg (by decide)]
    exact ⟨bgn1_n1 A, bgn1_told hi⟩
  | true =>
    rw [if_pos rfl]
    exact ⟨(bgn1_n1 (stp A)).trans (stp_n' er), bgn1_told (INV_stp hi er)⟩
/-- the state behind a deed, and what the deed comes to -/
def DEED (A : AT) (f : BO → Option (Int32 × BO)) : Prop := ∃ B, JN B ∧ B.sp ≤ A.sp + 1 ∧ ∀ (S : BO) (c ns : Nat), RS A S.2.1 → SVs c ns S → ∃ S', f S = some (1, S') ∧ AF A B c ns S'
theorem zb_1 {β : Type} (a : Option β) : zb 1 a = a := if_pos (Or.inr rfl)
theorem D_flag {A : AT} (hj : JN A) {r : Nat} (hr : r < A.n) {f : BO → Option (Int32 × BO)} (hf : ∀ S S', RS A S.2.1 → f_X2_setFlag (nI r) (bZ (A.fl r)) S = some (.inr (bZ (A.fl r)), S') → f S = some (1, S')) : DEED A f := by
  refine ⟨sFL A (u1 A.fl r (A.fl r)) A.lo, J_fl hj _, Nat.le_succ _, fun S c ns h hv => ?_⟩
  obtain ⟨S', k1, k2⟩ := c_setFlag hj.1 h hv hr (A.fl r)
  exact ⟨S', hf S S' h k1, k2⟩
theorem rmv_free {A : AT} (hi : INV A) {r : Nat} (hr : r < A.n) : cnt (rmv A r) none = cnt A none + cnt A (some r) := by
  refine cp_add (fun k _ => ?_) 32 0 (Nat.le_refl _)
  have : (rmv A r).ow k = none ↔ A.ow k = none ∨ A.ow k = some r := shO_none
  by_cases e : A.ow k = none
  · rw [decide_eq_true (this.mpr (Or.inl e)), decide_eq_true e, decide_eq_false (by rw [e]; simp)]; rfl
  · by_cases e2 : A.ow k = some r
    · rw [decide_eq_true (this.mpr (Or.inr e2)), decide_eq_false e, decide_eq_true e2]; rfl
    · rw [decide_eq_false (fun z => (this.mp z).elim e e2), decide_eq_false e, decide_eq_false e2]; rfl
section BR
variable {A : AT} {k : Nat} {x2 : Int32}
theorem D_begin (hj : JN A) (hm : mayB A = true) : DEED A (c_L_acts_232 (nI A.n) (bZ (emp A))) := by
  have hi := hj.1
  have hn := INV_n hi
  refine ⟨bgn A, J_bgn hj hm, Nat.le_succ_of_le (Nat.le_of_eq (bgn_sp A)), fun S c ns h hv => ?_⟩
  obtain ⟨S', k1, k2⟩ := c_begin hi h hv hm
  refine ⟨S', ?_, k2⟩
  have hS := k2.1
  have hiB := INV_bgn hi hm
  obtain ⟨b1, b2, b3, b4, b5⟩ := bgn_told hi
  have k248 : c_L_acts_248 (nI ((bgn A).n - 1)) (nI ((bgn A).n - 1)) S' = some (1, S') := by
    unfold c_L_acts_248
    rw [if_pos rfl, a_run hiB hS, bd_some, a_recs hS, bd_some, b2, if_pos (show oI (some ((bgn A).n - 1)) = nI (bgn A).n - 1 from (sub_nI (b := 1) b5).symm), bd_some, show f_X2_length (oI (some ((bgn A).n - 1))) S' = some (.inr (nI (cnt (bgn A) (some ((bgn A).n - 1))))) from a_length hiB hS (Nat.sub_lt b5 (by decide)), bn_in, b3, if_pos (show nI 0 = 0 from rfl)]
  unfold c_L_acts_232
  rw [k1, bn2_in]
  cases ee : emp A with
  | false =>
    rw [ee, if_neg (by decide)] at b1
    rw [b1] at k248 ⊢
    rw [if_pos (show bZ false = 0 from rfl)]
    exact k248
  | true =>
    have er : A.run = true := by unfold emp at ee; exact ((Bool.and_eq_true _ _).mp ee).1
    have h0 := INV_r hi er
    rw [ee, if_pos rfl] at b1
    rw [b1] at k248 ⊢
    rw [if_neg (show ¬ bZ true = 0 by decide), show nI A.n - 1 = nI (A.n - 1) from sub_nI (b := 1) h0]
    exact k248
theorem D_b (hj : JN A) (h0 : A.n = 0) : DEED A br_b := by
  have hi := hj.1
  have er : A.run = false := by
    cases er : A.run with
    | false => rfl
    | true => have := INV_r hi er; omega
  have hm : mayB A = true := by rw [mayB_emp, decide_eq_true (show A.n < 10 by omega)]; rfl
  have ee : emp A = false := by unfold emp; rw [er]; rfl
  refine ⟨bgn A, J_bgn hj hm, Nat.le_succ_of_le (Nat.le_of_eq (bgn_sp A)), fun S c ns h hv => ?_⟩
  obtain ⟨S', k1, k2⟩ := c_begin hi h hv hm
  refine ⟨S', ?_, k2⟩
  have hS := k2.1
  have hiB := INV_bgn hi hm
  obtain ⟨b1, b2, b3, b4, b5⟩ := bgn_told hi
  rw [ee, if_neg (by decide), h0] at b1
  have bn : (bgn A).n = 1 := by omega
  rw [b1] at b2 b3 b4 k1
  have l0 : f_X2_length 0 S' = some (.inr 0) := (a_length hiB hS b5).trans (by rw [b3]; rfl)
  have f0 : f_X2_hasFlag 0 S' = some (.inr 0) := (a_flag hiB hS b5).trans (by rw [b4]; rfl)
  unfold br_b
  rw [k1, bn2_in, if_pos (show nI 0 = 0 from rfl), a_run hiB hS, bd_some, b2, if_pos (show oI (some 0) = 0 from rfl), a_recs hS, bd_some, bn, if_pos (show nI 1 = 1 from rfl), l0, bn_in, if_pos rfl, f0, bn_in, if_pos rfl]
theorem D_erase (hj : JN A) (hk : k < A.n) (hf : A.fl k = false) {f : BO → Option (Int32 × BO)} (hh : ∀ S S', RS A S.2.1 → RS (rmv A k) S'.2.1 → f_X2_erase (nI k) S = some (.inr (nI (cnt A (some k))), S') → f_X2_free S' = some (nI (cnt A none) + nI (cnt A (some k))) → f_X2_recordings S' = some (nI (A.n - 1)) → f S = some (1, S')) : DEED A f := by
  have hi := hj.1
  refine ⟨rmv A k, J_rmv hj hk, Nat.le_succ _, fun S c ns h hv => ?_⟩
  obtain ⟨S', k1, k2⟩ := c_erase hi h hv hk hf
  have e1 : f_X2_free S' = some (nI (cnt A none) + nI (cnt A (some k))) := by
    rw [a_free (INV_rmv hi hk) k2.1, rmv_free hi hk, nI_add]
  have e2 : f_X2_recordings S' = some (nI (A.n - 1)) := a_recs k2.1
  exact ⟨S', hh S S' h k2.1 k1 e1 e2, k2⟩
abbrev Rr (A : AT) (k : Nat) (x2 : Int32) (f : Int32 → Int32 → Int32 → Int32 → Int32 → Int32 → Int32 → Int32 → BO → Option (Int32 × BO)) : BO → Option (Int32 × BO) := f x2 (nI A.n) (oI (rn A)) (bZ (emp A)) (nI k) (nI (cnt A none)) (nI (cnt A (some k))) (bZ (A.fl k))
theorem D_01 (hj : JN A) (hk : k < A.n) {f : Int32 → Int32 → Int32 → Int32 → Int32 → Int32 → Int32 → Int32 → BO → Option (Int32 × BO)} (hf : f = br_0 ∨ f = br_1) : DEED A (Rr A k x2 f) := by
  have hi := hj.1
  have hn := INV_n hi
  have h10 : nI A.n = 10 ↔ A.n = 10 := nI_eq (b := 10) (by omega) (by omega)
  have ht : ∀ S, Rr A k x2 f S = (if A.n = 10 ∧ emp A = false then (if A.fl k = false then (bn2 (f_X2_erase (nI k) S) (fun (r16 : Int32) (T17 : BO) => if r16 = nI (cnt A (some k)) then (bd (f_X2_free T17) (fun (r19 : Int32) => if r19 = (nI (cnt A none) + nI (cnt A (some k))) then (bd (f_X2_recordings T17) (fun (r21 : Int32) => if r21 = (9 : Int32) then (some ((1 : Int32), T17)) else (some ((0 : Int32), T17)))) else (some ((0 : Int32), T17)))) else (some ((0 : Int32), T17)))) else (bn2 (f_X2_setFlag (nI k) (0 : Int32) S) (fun (r23 : Int32) (T24 : BO) => zb r23 (some (r23, T24))))) else c_L_acts_232 (nI A.n) (bZ (emp A)) S) := fun S => by
    have e : Rr A k x2 f S = (if nI A.n = (10 : Int32) then (if bZ (emp A) = 0 then (if bZ (A.fl k) = 0 then (bn2 (f_X2_erase (nI k) S) (fun (r16 : Int32) (T17 : BO) => if r16 = nI (cnt A (some k)) then (bd (f_X2_free T17) (fun (r19 : Int32) => if r19 = (nI (cnt A none) + nI (cnt A (some k))) then (bd (f_X2_recordings T17) (fun (r21 : Int32) => if r21 = (9 : Int32) then (some ((1 : Int32), T17)) else (some ((0 : Int32), T17)))) else (some ((0 : Int32), T17)))) else (some ((0 : Int32), T17)))) else (bn2 (f_X2_setFlag (nI k) (0 : Int32) S) (fun (r23 : Int32) (T24 : BO) => zb r23 (some (r23, T24))))) else (c_L_acts_232 (nI A.n) (bZ (emp A)) S)) else (c_L_acts_232 (nI A.n) (bZ (emp A)) S)) := by
      rcases hf with rfl | rfl <;> rfl
    rw [e]
    by_cases q1 : A.n = 10
    · rw [if_pos (h10.mpr q1)]
      cases q2 : emp A with
      | false =>
        rw [if_pos (show bZ false = 0 from rfl), if_pos (show A.n = 10 ∧ false = false from ⟨q1, rfl⟩)]
        cases A.fl k with
        | false => rw [if_pos (show bZ false = 0 from rfl), if_pos (show false = false from rfl)]
        | true => rw [if_neg (show ¬ bZ true = 0 by decide), if_neg (show ¬ true = false by decide)]
      | true => rw [if_neg (show ¬ bZ true = 0 by decide), if_neg (show ¬ (A.n = 10 ∧ true = false) from fun z => Bool.noConfusion z.2)]
    · rw [if_neg (fun z => q1 (h10.mp z)), if_neg (show ¬ (A.n = 10 ∧ emp A = false) from fun z => q1 z.1)]
  by_cases q : A.n = 10 ∧ emp A = false
  · cases ef : A.fl k with
    | false =>
      refine D_erase hj hk ef (fun S S' _ _ h1 h2 h3 => ?_)
      rw [ht S, if_pos q, ef, if_pos rfl, h1, bn2_in, if_pos rfl, h2, bd_some, if_pos rfl, h3, bd_some, if_pos (by rw [q.1]; rfl)]
    | true =>
      refine ⟨sFL A (u1 A.fl k false) A.lo, J_fl hj _, Nat.le_succ _, fun S c ns h hv => ?_⟩
      obtain ⟨S', k1, k2⟩ := c_setFlag hi h hv hk false
      refine ⟨S', ?_, k2⟩
      rw [ht S, if_pos q, ef, if_neg (by decide), show f_X2_setFlag (nI k) 0 S = some (.inr 1, S') from by rw [← show bZ true = 1 from rfl, ← ef]; exact k1, bn2_in, zb_1]
  · have hm : mayB A = true := by
      rw [mayB_emp]
      by_cases q1 : A.n < 10
      · rw [decide_eq_true q1]; rfl
      · cases q2 : emp A with
        | true => simp
        | false => exact absurd ⟨by omega, q2⟩ q
    obtain ⟨B, B1, B2, B3⟩ := D_begin hj hm
    refine ⟨B, B1, B2, fun S c ns h hv => ?_⟩
    obtain ⟨S', k1, k2⟩ := B3 S c ns h hv
    exact ⟨S', by rw [ht S, if_neg q]; exact k1, k2⟩
theorem D_go (hj : JN A) (hk : k < A.n) {f : BO → Option (Int32 × BO)} (hh : ∀ S S', RS A S.2.1 → RS (sP A (some (k, 0))) S'.2.1 → f_X2_go (nI k) S = some (.inr (nI (cnt A (some k))), S') → f S = some (1, S')) : DEED A f := by
  refine ⟨sP A (some (k, 0)), J_pl hj hk (Nat.zero_le _), Nat.le_succ _, fun S c ns h hv => ?_⟩
  obtain ⟨S', k1, k2⟩ := c_go hj.1 h hv hk
  exact ⟨S', hh S S' h k2.1 k1, k2⟩
theorem D_2 (hj : JN A) (hk : k < A.n) : DEED A (Rr A k x2 br_2) := by
  have hi := hj.1
  have hn := INV_n hi
  cases er : A.run with
  | false =>
    refine D_go hj hk (fun S S' _ hS h1 => ?_)
    show br_2 x2 (nI A.n) (oI (rn A)) (bZ (emp A)) (nI k) (nI (cnt A none)) (nI (cnt A (some k))) (bZ (A.fl k)) S = _
    unfold br_2
    rw [rn_none er, if_neg (show ¬ (0 : Int32) ≤ oI none by decide), h1, bn2_in, if_pos rfl, a_place hS, bd_some]
    exact if_pos rfl
  | true =>
    have h0 := INV_r hi er
    have hiB := INV_stp hi er
    refine ⟨stp A, J_stp hj er, Nat.le_succ_of_le (Nat.le_of_eq (stp_sp A)), fun S c ns h hv => ?_⟩
    obtain ⟨S', k1, k2⟩ := c_halt hi h hv er
    refine ⟨S', ?_, k2⟩
    have hS := k2.1
    have hs := stp_n' er
    show br_2 x2 (nI A.n) (oI (rn A)) (bZ (emp A)) (nI k) (nI (cnt A none)) (nI (cnt A (some k))) (bZ (A.fl k)) S = _
    unfold br_2 c_L_acts_343
    rw [rn_run er, if_pos (show (0 : Int32) ≤ oI (some (A.n - 1)) from nI_pos' (by omega)), k1, bn2_in, if_neg (nI_pos (Nat.lt_of_le_of_lt (cnt_le A _) (by decide))), a_run hiB hS, bd_some, rn_none (stp_run A), if_pos (show oI none = -1 from rfl), a_recs hS, bd_some]
    cases ee : emp A with
    | false =>
      rw [ee, if_neg (by decide)] at hs
      rw [if_pos (show bZ false = 0 from rfl), hs, if_pos rfl]
    | true =>
      rw [ee, if_pos rfl] at hs
      rw [if_neg (show ¬ bZ true = 0 by decide), hs, if_pos (show nI (A.n - 1) = nI A.n - 1 from (sub_nI (a := A.n) (b := 1) h0).symm)]
theorem u1_s {α : Type} (f : Nat → α) (k : Nat) (x : α) : u1 f k x k = x := if_pos rfl
theorem D_3 (hj : JN A) (hk : k < A.n) : DEED A (Rr A k x2 br_3) := by
  have hi := hj.1
  have key : ∀ b, (((x2 >>> ((6 : Int32) &&& 31)) &&& (3 : Int32)) = 0 ↔ b = true) → ∀ (S : BO) (c ns : Nat), RS A S.2.1 → SVs c ns S → ∃ S', c_L_acts_369 x2 (nI k) (bZ (A.fl k)) (bZ b) (nI k) S = some (1, S') ∧ AF A (sFL A (u1 A.fl k b) A.lo) c ns S' := fun b hb S c ns h hv => by
    obtain ⟨S', k1, k2⟩ := c_setFlag hi h hv hk b
    refine ⟨S', ?_, k2⟩
    unfold c_L_acts_369 c_L_acts_397
    have ef : f_X2_hasFlag (nI k) S' = some (.inr (bZ b)) := (a_flag (A := sFL A (u1 A.fl k b) A.lo) hi k2.1 hk).trans (congrArg (fun z => some (Sum.inr (bZ z))) (u1_s A.fl k b))
    rw [k1, bn2_in, if_pos rfl, ef, bn_in]
    cases b with
    | true => rw [if_pos (hb.mpr rfl), if_pos (show bZ true = 1 from rfl)]
    | false => rw [if_neg (fun z => Bool.noConfusion (hb.mp z)), if_pos (show bZ false = 0 from rfl)]
  by_cases q : ((x2 >>> ((6 : Int32) &&& 31)) &&& (3 : Int32)) = 0
  · refine ⟨sFL A (u1 A.fl k true) A.lo, J_fl hj _, Nat.le_succ _, fun S c ns h hv => ?_⟩
    obtain ⟨S', k1, k2⟩ := key true ⟨fun _ => rfl, fun _ => q⟩ S c ns h hv
    refine ⟨S', ?_, k2⟩
    show br_3 x2 (nI A.n) (oI (rn A)) (bZ (emp A)) (nI k) (nI (cnt A none)) (nI (cnt A (some k))) (bZ (A.fl k)) S = _
    unfold br_3
    rw [if_pos q]
    exact k1
  · refine ⟨sFL A (u1 A.fl k false) A.lo, J_fl hj _, Nat.le_succ _, fun S c ns h hv => ?_⟩
    obtain ⟨S', k1, k2⟩ := key false ⟨fun z => absurd z q, (fun z => by cases z)⟩ S c ns h hv
    refine ⟨S', ?_, k2⟩
    show br_3 x2 (nI A.n) (oI (rn A)) (bZ (emp A)) (nI k) (nI (cnt A none)) (nI (cnt A (some k))) (bZ (A.fl k)) S = _
    unfold br_3
    rw [if_neg q]
    exact k1
theorem D_4 (hj : JN A) (hk : k < A.n) : DEED A (Rr A k x2 br_4) := by
  have hi := hj.1
  have no : (∀ S, Rr A k x2 br_4 S = c_L_acts_425 (nI A.n) (nI k) (nI (cnt A none)) (nI (cnt A (some k))) (bZ (A.fl k)) 0 S) → DEED A (Rr A k x2 br_4) := fun hh => by
    refine D_flag hj hk (fun S S' _ k1 => ?_)
    rw [hh S]
    unfold c_L_acts_425
    rw [if_pos rfl, k1, bn2_in, if_pos rfl]
  cases ef : A.fl k with
  | true =>
    refine no (fun S => ?_)
    show br_4 x2 (nI A.n) (oI (rn A)) (bZ (emp A)) (nI k) (nI (cnt A none)) (nI (cnt A (some k))) (bZ (A.fl k)) S = _
    unfold br_4 c_L_acts_424
    rw [ef, if_neg (show ¬ bZ true = 0 by decide)]
  | false =>
    by_cases q : ((x2 >>> ((6 : Int32) &&& 31)) &&& (3 : Int32)) = 0
    · refine D_erase hj hk ef (fun S S' _ _ h1 h2 h3 => ?_)
      show br_4 x2 (nI A.n) (oI (rn A)) (bZ (emp A)) (nI k) (nI (cnt A none)) (nI (cnt A (some k))) (bZ (A.fl k)) S = _
      unfold br_4 c_L_acts_425
      rw [ef, if_pos (show bZ false = 0 from rfl), if_pos q, if_neg (show ¬ (1 : Int32) = 0 by decide), h1, bn2_in, if_pos rfl, h3, bd_some, if_pos (show nI (A.n - 1) = nI A.n - 1 from (sub_nI (a := A.n) (b := 1) (Nat.succ_le_of_lt (Nat.lt_of_le_of_lt (Nat.zero_le k) hk))).symm), h2, bd_some, if_pos rfl]
    · refine no (fun S => ?_)
      show br_4 x2 (nI A.n) (oI (rn A)) (bZ (emp A)) (nI k) (nI (cnt A none)) (nI (cnt A (some k))) (bZ (A.fl k)) S = _
      unfold br_4 c_L_acts_424
      rw [ef, if_pos (show bZ false = 0 from rfl), if_neg q]
theorem D_5 (hj : JN A) (hk : k < A.n) : DEED A (Rr A k x2 br_5) := by
  have hi := hj.1
  have hn := INV_n hi
  cases er : A.run with
  | true =>
    have h0 := INV_r hi er
    refine D_flag hj hk (fun S S' h k1 => ?_)
    show br_5 x2 (nI A.n) (oI (rn A)) (bZ (emp A)) (nI k) (nI (cnt A none)) (nI (cnt A (some k))) (bZ (A.fl k)) S = _
    unfold br_5
    rw [a_head h, bd_some, rn_run er, if_pos (show (0 : Int32) ≤ oI (some (A.n - 1)) from nI_pos' (by omega)), k1, bn2_in, if_pos rfl]
  | false =>
    have hu : u31 (x2 >>> ((4 : Int32) &&& 31)) % 32 < 32 := Nat.mod_lt _ (by decide)
    refine ⟨sHS A (u31 (x2 >>> ((4 : Int32) &&& 31)) % 32) A.sp, J_hs hj hu, Nat.le_succ _, fun S c ns h hv => ?_⟩
    obtain ⟨S', k1, k2⟩ := c_moveHead hi h hv hu er
    refine ⟨S', ?_, k2⟩
    have eu : f_L_up (x2 >>> ((4 : Int32) &&& 31)) 32 = some (nI (u31 (x2 >>> ((4 : Int32) &&& 31)) % 32)) := a_up _ (n := 32) (by omega) (by omega)
    show br_5 x2 (nI A.n) (oI (rn A)) (bZ (emp A)) (nI k) (nI (cnt A none)) (nI (cnt A (some k))) (bZ (A.fl k)) S = _
    unfold br_5
    rw [a_head h, bd_some, rn_none er, if_neg (show ¬ (0 : Int32) ≤ oI none by decide), eu, bd_some, k1, bn2_in, if_pos rfl, a_head k2.1, bd_some, bd_some, if_pos rfl]
theorem D_6 (hj : JN A) (hk : k < A.n) : DEED A (Rr A k x2 br_6) := by
  refine D_go hj hk (fun S S' _ hS h1 => ?_)
  show br_6 x2 (nI A.n) (oI (rn A)) (bZ (emp A)) (nI k) (nI (cnt A none)) (nI (cnt A (some k))) (bZ (A.fl k)) S = _
  unfold br_6
  rw [h1, bn2_in, if_pos rfl, a_playing hS, bd_some, if_pos (show oI ((sP A (some (k, 0))).P.map Prod.fst) = nI k from rfl), a_place hS, bd_some]
  exact if_pos rfl
/-- the player goes on -/
theorem J_ply (hj : JN A) {r p : Nat} (e : A.P = some (r, p)) : JN (ply A r p) := by
  have hi := hj.1
  have hr := (INV_P hi r p e).1
  unfold ply
  rw [at_ce]
  cases e1 : ce A r p with
  | none => exact hj
  | some q =>
    refine J_pl hj hr ?_
    rw [← cl_len hi]
    exact (List.getElem?_eq_some_iff.mp e1).1
theorem D_7 (hj : JN A) (hk : k < A.n) : DEED A (Rr A k x2 br_7) := by
  have hi := hj.1
  have hn := INV_n hi
  cases eP : A.P with
  | none =>
    refine D_go hj hk (fun S S' h hS h1 => ?_)
    show br_7 x2 (nI A.n) (oI (rn A)) (bZ (emp A)) (nI k) (nI (cnt A none)) (nI (cnt A (some k))) (bZ (A.fl k)) S = _
    unfold br_7
    rw [a_playing h, bd_some, eP, if_neg (show ¬ (0 : Int32) ≤ oI ((none : Option (Nat × Nat)).map Prod.fst) by decide), h1, bn2_in, if_pos rfl]
  | some w =>
    obtain ⟨r, p⟩ := w
    obtain ⟨hr, hp⟩ := INV_P hi r p eP
    refine ⟨ply A r p, J_ply hj eP, Nat.le_succ_of_le (Nat.le_of_eq (ply_sp A r p)), fun S c ns h hv => ?_⟩
    obtain ⟨S', k1, k2⟩ := c_play hi h hv eP
    refine ⟨S', ?_, k2⟩
    have e1 : f_X2_playing S = some (nI r) := (a_playing h).trans (by rw [eP]; rfl)
    have e2 : f_X2_place S = some (nI p) := (a_place h).trans (by rw [eP]; rfl)
    have e3 := a_place k2.1
    show br_7 x2 (nI A.n) (oI (rn A)) (bZ (emp A)) (nI k) (nI (cnt A none)) (nI (cnt A (some k))) (bZ (A.fl k)) S = _
    unfold br_7 c_L_acts_664
    rw [e1, bd_some, if_pos (nI_pos' (by omega)), e2, bd_some, bd_some, a_sound hi h hr (by omega), bn_in, k1, bn2_in, if_pos rfl]
    unfold ply at e3
    rw [at_ce] at e3
    cases ec : ce A r p with
    | none =>
      have e3 : f_X2_place S' = some (oI (A.P.map Prod.snd)) := by rw [ec] at e3; exact e3
      rw [e3, eP, bd_some, if_neg (show ¬ (0 : Int32) ≤ pl none A.sn by show ¬ (0 : Int32) ≤ -1; decide)]
      exact if_pos rfl
    | some q =>
      have e3 : f_X2_place S' = some (nI (p + 1)) := by rw [ec] at e3; exact e3
      obtain ⟨q1, q2⟩ := ce_lt hi ec
      obtain ⟨s, s1, s2⟩ := hj.2.1 q q1 (by rw [q2]; simp)
      rw [e3, bd_some, if_pos (show (0 : Int32) ≤ pl (some q) A.sn by show (0 : Int32) ≤ A.sn q; rw [s2]; exact nI_pos' (by omega)), if_pos (nI_s p).symm]
theorem D_8 (hj : JN A) (hk : k < A.n) : DEED A (Rr A k x2 br_8) := by
  have hi := hj.1
  have hn := INV_n hi
  cases eP : A.P with
  | none =>
    refine D_go hj hk (fun S S' h hS h1 => ?_)
    show br_8 x2 (nI A.n) (oI (rn A)) (bZ (emp A)) (nI k) (nI (cnt A none)) (nI (cnt A (some k))) (bZ (A.fl k)) S = _
    unfold br_8
    rw [a_playing h, bd_some, eP, if_neg (show ¬ (0 : Int32) ≤ oI ((none : Option (Nat × Nat)).map Prod.fst) by decide), h1, bn2_in, if_pos rfl]
  | some w =>
    obtain ⟨r, p⟩ := w
    obtain ⟨hr, hp⟩ := INV_P hi r p eP
    obtain ⟨m, hm⟩ : ∃ m, m = 1 + u31 x2 % 9 := ⟨_, rfl⟩
    have hm9 : 1 ≤ m ∧ m ≤ 9 := by have := Nat.mod_lt (u31 x2) (show 0 < 9 by decide); omega
    refine ⟨sP A (some (r, p - m)), J_pl hj hr (Nat.le_trans (Nat.sub_le _ _) (hj.2.2.2.2 r p eP)), Nat.le_succ _, fun S c ns h hv => ?_⟩
    obtain ⟨S', k1, k2⟩ := c_back hi h hv hm9.1 hm9.2 eP
    refine ⟨S', ?_, k2⟩
    have e1 : f_X2_playing S = some (nI r) := (a_playing h).trans (by rw [eP]; rfl)
    have e2 : f_X2_place S = some (nI p) := (a_place h).trans (by rw [eP]; rfl)
    have eu : f_L_up x2 9 = some (nI (u31 x2 % 9)) := a_up _ (n := 9) (by omega) (by omega)
    have em : (1 : Int32) + nI (u31 x2 % 9) = nI m := by rw [hm]; exact nI_add 1 _
    show br_8 x2 (nI A.n) (oI (rn A)) (bZ (emp A)) (nI k) (nI (cnt A none)) (nI (cnt A (some k))) (bZ (A.fl k)) S = _
    unfold br_8 c_L_acts_735
    rw [e1, bd_some, if_pos (nI_pos' (by omega)), e2, bd_some, eu, bd_some, nm_eq, em, k1, bn2_in]
    by_cases q : p ≤ m
    · rw [if_pos ((nI_leI (by omega) (by omega)).mpr q), if_pos (by rw [show p - m = 0 by omega]; rfl)]
    · rw [if_neg (fun z => q ((nI_leI (by omega) (by omega)).mp z)), if_pos (sub_nI (by omega)).symm]
theorem D_9 (hj : JN A) (hk : k < A.n) : DEED A (Rr A k x2 br_9) := by
  have hi := hj.1
  have hn := INV_n hi
  obtain ⟨p, hp⟩ : ∃ p, p = u31 (x2 >>> ((4 : Int32) &&& 31)) % 5 := ⟨_, rfl⟩
  obtain ⟨v, hv9⟩ : ∃ v, v = u31 (x2 >>> ((7 : Int32) &&& 31)) % 100 := ⟨_, rfl⟩
  have hp31 : p < 2 ^ 31 := by have := Nat.mod_lt (u31 (x2 >>> ((4 : Int32) &&& 31))) (show 0 < 5 by decide); omega
  have hv99 : v ≤ 99 := by have := Nat.mod_lt (u31 (x2 >>> ((7 : Int32) &&& 31))) (show 0 < 100 by decide); omega
  have eu : f_L_up (x2 >>> ((4 : Int32) &&& 31)) 5 = some (nI p) := hp ▸ a_up _ (n := 5) (by omega) (by omega)
  have ev : f_L_up (x2 >>> ((7 : Int32) &&& 31)) 100 = some (nI v) := hv9 ▸ a_up _ (n := 100) (by omega) (by omega)
  clear hp hv9
  have ht : ∀ S, RS A S.2.1 → Rr A k x2 br_9 S = (if pl (ce A k p) A.sn < 0 then (c_L_acts_794 (nI k) (bZ (A.fl k)) S) else (if bZ (A.fl k) = 0 then (bn2 (f_X2_correct (nI k) (nI p) (nI v) S) (fun (r113 : Int32) (T114 : BO) => if r113 = pl (ce A k p) A.sn then (bn (f_X2_sound (nI k) (nI p) T114) (fun (r116 : Int32) => if r116 = nI v then (bn (f_X2_carbon (nI k) (nI p) T114) (fun (r118 : Int32) => if r118 = pl (ce A k p) A.ca then (some ((1 : Int32), T114)) else (some ((0 : Int32), T114)))) else (some ((0 : Int32), T114)))) else (some ((0 : Int32), T114)))) else (c_L_acts_794 (nI k) (bZ (A.fl k)) S))) := fun S h => by
    show br_9 x2 (nI A.n) (oI (rn A)) (bZ (emp A)) (nI k) (nI (cnt A none)) (nI (cnt A (some k))) (bZ (A.fl k)) S = _
    unfold br_9
    rw [eu, bd_some, a_sound hi h hk hp31, bn_in, a_carbon hi h hk hp31, bn_in, ev, bd_some]
  have no : (∀ S, RS A S.2.1 → Rr A k x2 br_9 S = c_L_acts_794 (nI k) (bZ (A.fl k)) S) → DEED A (Rr A k x2 br_9) := fun hh => by
    refine D_flag hj hk (fun S S' h k1 => ?_)
    rw [hh S h]
    unfold c_L_acts_794
    rw [k1, bn2_in, if_pos rfl]
  cases ec : ce A k p with
  | none =>
    refine no (fun S h => ?_)
    rw [ht S h, ec]
    exact if_pos (show (-1 : Int32) < 0 by decide)
  | some q =>
    obtain ⟨q1, q2⟩ := ce_lt hi ec
    obtain ⟨s, s1, s2⟩ := hj.2.1 q q1 (by rw [q2]; simp)
    have hs0 : ¬ pl (some q) A.sn < 0 := by show ¬ A.sn q < 0; rw [s2]; exact nI_pos (by omega)
    cases ef : A.fl k with
    | true =>
      refine no (fun S h => ?_)
      rw [ht S h, ec, if_neg hs0, ef, if_neg (show ¬ bZ true = 0 by decide)]
    | false =>
      refine ⟨sSC A (u1 A.sn q (nI v)) A.ca, J_sc hj hv99, Nat.le_succ _, fun S c ns h hv => ?_⟩
      obtain ⟨S', k1, k2⟩ := c_correct hi h hv hk hp31 ec hv99 ef
      refine ⟨S', ?_, k2⟩
      have hi2 : INV (sSC A (u1 A.sn q (nI v)) A.ca) := INV_sc hi _ _
      have e1 : f_X2_sound (nI k) (nI p) S' = some (.inr (nI v)) := by
        rw [a_sound hi2 k2.1 hk hp31, show ce (sSC A (u1 A.sn q (nI v)) A.ca) k p = some q from ec]
        exact congrArg (fun z => some (Sum.inr z)) (u1_s A.sn q (nI v))
      have e2 : f_X2_carbon (nI k) (nI p) S' = some (.inr (A.ca q)) := by
        rw [a_carbon hi2 k2.1 hk hp31, show ce (sSC A (u1 A.sn q (nI v)) A.ca) k p = some q from ec]
        rfl
      rw [ht S h, ec, if_neg hs0, ef, if_pos (show bZ false = 0 from rfl), k1, bn2_in, if_pos (show A.sn q = pl (some q) A.sn from rfl), e1, bn_in, if_pos rfl, e2, bn_in]
      exact if_pos rfl
theorem D_10 (hj : JN A) (hk : k < A.n) : DEED A (Rr A k x2 br_10) := by
  obtain ⟨v, hv9⟩ : ∃ v, v = u31 x2 % 100 := ⟨_, rfl⟩
  have hv99 : v ≤ 99 := by have := Nat.mod_lt (u31 x2) (show 0 < 100 by decide); omega
  have ev : f_L_up x2 100 = some (nI v) := hv9 ▸ a_up _ (n := 100) (by omega) (by omega)
  obtain ⟨j1, j2⟩ := J_spkA hj hv99
  refine ⟨spkA A v, j1, j2, fun S c ns h hv => ?_⟩
  obtain ⟨S', k1, k2⟩ := L_speaks hj h hv (by omega) hv99
  refine ⟨S', ?_, k2⟩
  show br_10 x2 (nI A.n) (oI (rn A)) (bZ (emp A)) (nI k) (nI (cnt A none)) (nI (cnt A (some k))) (bZ (A.fl k)) S = _
  unfold br_10
  rw [ev, bd_some, k1, bd2_some, zb_1]
end BR
theorem acts_0 {A : AT} {S : BO} (hi : INV A) (h : RS A S.2.1) (x y : Int32) : f_L_acts x y S = c_L_acts_30 x y (nI A.n) (oI (rn A)) (bZ (emp A)) S := by
  have hn := INV_n hi
  unfold f_L_acts c_L_acts_29
  rw [a_recs h, bd_some, a_run hi h, bd_some]
  cases er : A.run with
  | false =>
    have : emp A = false := by unfold emp; rw [er]; rfl
    rw [rn_none er, if_pos (show oI none < 0 by decide), this]
    rfl
  | true =>
    have h0 := INV_r hi er
    have ee : emp A = decide (cnt A (some (A.n - 1)) = 0) := by unfold emp; rw [er, Bool.true_and]
    rw [rn_run er, if_neg (show ¬ oI (some (A.n - 1)) < 0 from nI_pos (by omega)), show f_X2_length (oI (some (A.n - 1))) S = some (.inr (nI (cnt A (some (A.n - 1))))) from a_length hi h (by omega), bn_in, ee]
    by_cases q : cnt A (some (A.n - 1)) = 0
    · rw [if_pos (by rw [q]; rfl), decide_eq_true q]; rfl
    · rw [if_neg (show ¬ nI (cnt A (some (A.n - 1))) = 0 from fun z => q ((nI_eq (b := 0) (Nat.lt_of_le_of_lt (cnt_le A _) (by decide)) (by decide)).mp z)), decide_eq_false q]; rfl
theorem L_acts {A : AT} (hj : JN A) (x y : Int32) : DEED A (f_L_acts x y) := by
  have hi := hj.1
  have hn := INV_n hi
  have lift : ∀ {g : BO → Option (Int32 × BO)}, DEED A g → (∀ S, RS A S.2.1 → f_L_acts x y S = g S) → DEED A (f_L_acts x y) := fun ⟨B, b1, b2, b3⟩ hg => ⟨B, b1, b2, fun S c ns h hv => by
    obtain ⟨S', k1, k2⟩ := b3 S c ns h hv
    exact ⟨S', (hg S h).trans k1, k2⟩⟩
  by_cases h0 : A.n = 0
  · refine lift (D_b hj h0) (fun S h => ?_)
    rw [acts_0 hi h, acts_30, if_pos (by rw [h0]; rfl)]
  · obtain ⟨k, hk0⟩ : ∃ k, k = u31 y % A.n := ⟨_, rfl⟩
    have hk : k < A.n := by rw [hk0]; exact Nat.mod_lt _ (by omega)
    obtain ⟨t, ht0⟩ : ∃ t, t = u31 x % 16 := ⟨_, rfl⟩
    have ht : t < 16 := by rw [ht0]; exact Nat.mod_lt _ (by omega)
    have e1 : f_L_up y (nI A.n) = some (nI k) := hk0 ▸ a_up y (by omega) (by omega)
    have e2 : f_L_up x 16 = some (nI t) := ht0 ▸ a_up x (n := 16) (by omega) (by omega)
    have pre : ∀ S, RS A S.2.1 → f_L_acts x y S = chain y (nI A.n) (oI (rn A)) (bZ (emp A)) (nI k) (nI (cnt A none)) (nI (cnt A (some k))) (bZ (A.fl k)) S (nI t) := fun S h => by
      rw [acts_0 hi h, acts_30, if_neg (show ¬ nI A.n = 0 from fun z => h0 ((nI_eq (b := 0) (by omega) (by omega)).mp z)), e1, bd_some, a_free hi h, bd_some, a_length hi h hk, bn_in, a_flag hi h hk, bn_in, e2, bd_some]
    clear ht0 hk0 e2
    by_cases t0 : t = 0
    · subst t0; exact lift (D_01 (x2 := y) hj hk (Or.inl rfl)) (fun S h => (pre S h).trans (chain_0 ..))
    by_cases t1 : t = 1
    · subst t1; exact lift (D_01 (x2 := y) hj hk (Or.inr rfl)) (fun S h => (pre S h).trans (chain_1 ..))
    by_cases t2 : t = 2
    · subst t2; exact lift (D_2 (x2 := y) hj hk) (fun S h => (pre S h).trans (chain_2 ..))
    by_cases t3 : t = 3
    · subst t3; exact lift (D_3 (x2 := y) hj hk) (fun S h => (pre S h).trans (chain_3 ..))
    by_cases t4 : t = 4
    · subst t4; exact lift (D_4 (x2 := y) hj hk) (fun S h => (pre S h).trans (chain_4 ..))
    by_cases t5 : t = 5
    · subst t5; exact lift (D_5 (x2 := y) hj hk) (fun S h => (pre S h).trans (chain_5 ..))
    by_cases t6 : t = 6
    · subst t6; exact lift (D_6 (x2 := y) hj hk) (fun S h => (pre S h).trans (chain_6 ..))
    by_cases t7 : t = 7
    · subst t7; exact lift (D_7 (x2 := y) hj hk) (fun S h => (pre S h).trans (chain_7 ..))
    by_cases t8 : t = 8
    · subst t8; exact lift (D_8 (x2 := y) hj hk) (fun S h => (pre S h).trans (chain_8 ..))
    by_cases t9 : t = 9
    · subst t9; exact lift (D_9 (x2 := y) hj hk) (fun S h => (pre S h).trans (chain_9 ..))
    exact lift (D_10 (x2 := y) hj hk) (fun S h => (pre S h).trans (chain_10 _ _ _ _ _ _ _ _ _ (by omega) ht))
