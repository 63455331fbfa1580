def gaq (A : AT) (m : Nat) (j : Nat) : Bool := decide (0 < lsa A j m 0 0 32) && decide (lsa A j m 0 0 32 = cnt A (some j))
theorem s_ga {A : AT} {S : BO} (hi : INV A) (h : RS A S.2.1) {m : Nat} (hm : m ≤ 32) : ∀ (d f c j : Nat), j + d = A.n → d < f → lpf3 (b_X2_goneAfter_8 S) f (nI m) (nI c) (nI j) = some (.inr (nI (c + cp (gaq A m) j d)))
  | 0, f + 1, c, j, hj, _ => by
    obtain rfl : j = A.n := hj
    have hn := INV_n hi
    rw [lpf3_s]
    unfold b_X2_goneAfter_8
    rw [RS_n h, if_pos (Int32.le_refl _)]
    rfl
  | d + 1, f + 1, c, j, hj, hf => by
    have hn := INV_n hi
    have ih := fun c => s_ga hi h hm d f c (j + 1) (by omega) (by omega)
    have hl : lsa A j m 0 0 32 ≤ 32 := Nat.le_trans (lsa_le A j 32 m 0 0) (by omega)
    have hc := cnt_le A (some j)
    rw [lpf3_s]
    generalize lpf3 (b_X2_goneAfter_8 S) f = K at ih ⊢
    unfold b_X2_goneAfter_8
    rw [RS_n h, if_neg (by rw [nI_leI (by omega) (by omega)]; omega), s_lsa hi h (by omega) hm, bd_some]
    have e1 : c + cp (gaq A m) j (d + 1) = c + (if gaq A m j then 1 else 0) + cp (gaq A m) (j + 1) d := (Nat.add_assoc ..).symm
    rw [e1]
    simp only [nm_eq, show nI c + 1 = nI (c + 1) from nI_1 c, show nI j + 1 = nI (j + 1) from nI_1 j]
    by_cases q : lsa A j m 0 0 32 = 0
    · rw [if_pos (by rw [q]; decide), ih c, show gaq A m j = false by unfold gaq; rw [q]; rfl]
      rfl
    · rw [if_neg (by rw [show (0 : Int32) = nI 0 from rfl, nI_leI (Nat.lt_of_le_of_lt hl (by decide)) (by omega)]; exact fun w => q (Nat.le_zero.mp w)), show nI j = oI (some j) from rfl, s_cnt hi h (fun q e => by cases e; omega), bd_some]
      by_cases q2 : lsa A j m 0 0 32 = cnt A (some j)
      · rw [if_pos (by rw [q2]), ih (c + 1), show gaq A m j = true by unfold gaq; rw [decide_eq_true q2, decide_eq_true (Nat.pos_of_ne_zero q)]; rfl]
        rfl
      · rw [if_neg (fun w => q2 ((nI_eq (Nat.lt_of_le_of_lt hl (by decide)) (Nat.lt_of_le_of_lt hc (by decide))).mp w)), ih c, show gaq A m j = false by unfold gaq; rw [decide_eq_false q2, Bool.and_false]]
        rfl
def shq (l : Nat) : Bool := match nn (FP.ddiv (FP.i2d (nI l)) 4629700416936869888) with
  | none => false
  | some r => decide (FP.dcmp r r = some .eq)
theorem sh_ok : ∀ l : Fin 33, shq l.1 = true := by decide +kernel
