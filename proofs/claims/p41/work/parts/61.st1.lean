/-! steps that change the state -/
theorem nr_sp (A : AT) (n : Nat) (b : Bool) : (sN A n b).sp = A.sp := rfl
theorem stp_sp (A : AT) : (stp A).sp = A.sp := by
  unfold stp
  by_cases e : cnt A (some (A.n - 1)) = 0
  · rw [if_pos e, rmv_sp, nr_sp]
  · rw [if_neg e, nr_sp]
theorem bgn1_sp (A : AT) : (bgn1 A).sp = A.sp := rfl
theorem bgn_sp (A : AT) : (bgn A).sp = A.sp := by
  unfold bgn
  cases A.run with
  | false => rw [if_neg (by decide), bgn1_sp]
  | true => rw [if_pos rfl, bgn1_sp, stp_sp]
theorem run_0 {A : AT} {S : OB} (h : RS A S) : S.1 8 = 0 ↔ A.run = false := by rw [RS_run h]; exact bZ_0 _
theorem s_mayS {A : AT} {S : OB} (hi : INV A) (h : RS A S) {m : Nat} (hm : m ≤ 32) : f_X1_maySpeak (nI m) S = some (bZ (A.run && decide (m ≤ cp (wr A) 0 32))) := by
  have hw := cp_le (wr A) 32 0
  unfold f_X1_maySpeak
  cases e : A.run with
  | false => rw [if_pos ((run_0 h).mpr e)]; rfl
  | true =>
    rw [if_neg (fun q => by rw [(run_0 h).mp q] at e; cases e), s_wrc hi h, bd_some]
    by_cases q : m ≤ cp (wr A) 0 32
    · rw [if_neg (fun w => absurd ((nI_ltI (Nat.lt_of_le_of_lt hw (by decide)) (Nat.lt_of_le_of_lt hm (by decide))).mp w) (Nat.not_lt.mpr q)), decide_eq_true q]; rfl
    · rw [if_pos ((nI_ltI (Nat.lt_of_le_of_lt hw (by decide)) (Nat.lt_of_le_of_lt hm (by decide))).mpr (Nat.not_le.mp q)), decide_eq_false q]; rfl
