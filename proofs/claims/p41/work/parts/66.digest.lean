/-! the digest -/
def hm (a b : Int64) : Int64 := 31 * a + b
def hc (A : AT) (h : Int64) (l : List Nat) : Int64 := l.foldl (fun h x => hm (hm (hm h (Int32.toInt64 (nI x))) (Int32.toInt64 (A.sn x))) (Int32.toInt64 (A.ca x))) h
def hr (A : AT) (h : Int64) (r : Nat) : Int64 := hc A (hm (hm (hm h (Int32.toInt64 (nI (cnt A (some r))))) (Int32.toInt64 (bZ (A.fl r)))) (Int32.toInt64 (A.lo r))) (A.od.filter (isO A r))
def hR (A : AT) : Int64 → Nat → Nat → Int64
  | h, _, 0 => h
  | h, r, d + 1 => hR A (hr A h r) (r + 1) d
def hO (A : AT) : Int64 → Nat → Nat → Int64
  | h, _, 0 => h
  | h, j, d + 1 => hO A (hm h (Int32.toInt64 (oI (A.ow j)))) (j + 1) d
theorem mixed_eq (a b : Int64) : f_X2_mixed a b = some (hm a b) := rfl
theorem hc_cons (A : AT) (h : Int64) (x : Nat) (l : List Nat) : hc A h (x :: l) = hc A (hm (hm (hm h (Int32.toInt64 (nI x))) (Int32.toInt64 (A.sn x))) (Int32.toInt64 (A.ca x))) l := rfl
theorem s_b60 {A : AT} {S : BO} (hi : INV A) (h : RS A S.2.1) {r : Nat} (hr : r < A.n) : ∀ (d f i : Nat) (z : Int64), i + d = A.od.length → d < f → lpf3 (b_X2_withRecording_60 S) f (nI r) z (nI i) = some (hc A z ((A.od.drop i).filter (isO A r)))
  | 0, f + 1, i, z, hj, _ => by
    obtain rfl : i = A.od.length := hj
    rw [lpf3_s]
    unfold b_X2_withRecording_60
    rw [RS_us h, if_pos (Int32.le_refl _), List.drop_length]
    rfl
  | d + 1, f + 1, i, z, hj, hf => by
    have hl := od_le hi
    have hn := INV_n hi
    have hlt : i < A.od.length := by omega
    have hk := od_get hi hlt
    have ih := fun z => s_b60 hi h hr d f (i + 1) z (by omega) (by omega)
    rw [lpf3_s]
    generalize lpf3 (b_X2_withRecording_60 S) f = K at ih ⊢
    unfold b_X2_withRecording_60
    simp only [nm_eq]
    rw [RS_us h, if_neg (by rw [nI_leI (by omega) (by omega)]; omega), vAt_nI (show i < 32 by omega) (by decide), RS_od h hlt, vAt_nI hk (by decide), vAt_nI hk (by decide), vAt_nI hk (by decide), RS_ow h hk, RS_sn h hk, RS_ca h hk, List.drop_eq_getElem_cons hlt, show nI i + 1 = nI (i + 1) from nI_1 i]
    by_cases e : A.ow A.od[i] = some r
    · rw [if_pos (by rw [e]; rfl), List.filter_cons_of_pos (by simp [isO, e]), hc_cons]
      exact ih _
    · rw [if_neg (fun q => e ((oI_nI (owB hi hk) (by omega)).mp q)), List.filter_cons_of_neg (by simp [isO, e])]
      exact ih _
theorem s_wrec {A : AT} {S : BO} (hi : INV A) (h : RS A S.2.1) {r : Nat} (hr' : r < A.n) (z : Int64) : f_X2_withRecording z (nI r) S = some (hr A z r) := by
  have hn := INV_n hi
  have hl := od_le hi
  unfold f_X2_withRecording c_X2_withRecording_33
  rw [show f_X1_cellCount (nI r) S.2.1 = some (nI (cnt A (some r))) from s_cnt (o := some r) hi h (fun q e => by cases e; omega), bd_some, mixed_eq, bd_some, s_flag hi h hr', bd_some]
  have key := fun z => s_b60 hi h hr' A.od.length FU 0 z (Nat.zero_add _) (Nat.lt_of_le_of_lt hl (by decide))
  have ev : vAt 10 (S.2.1.2 6) (nI r) = A.lo r := by rw [vAt_nI (by omega) (by decide), RS_lo h hr']
  rw [ev]
  unfold hr
  cases e : A.fl r with
  | false =>
    rw [if_pos (show bZ false = 0 from rfl), mixed_eq, bd_some, mixed_eq, bd_some]
    exact key _
  | true =>
    rw [if_neg (show ¬ bZ true = 0 by decide), mixed_eq, bd_some, mixed_eq, bd_some]
    exact key _
theorem s_b142 {A : AT} {S : BO} (hi : INV A) (h : RS A S.2.1) : ∀ (d f j : Nat) (z : Int64), j + d = 32 → d < f → lpf2 (b_X2_digest_142 S) f z (nI j) = some (hO A z j d)
  | 0, f + 1, j, z, hj, _ => by
    obtain rfl : j = 32 := hj
    rw [lpf2_s]
    unfold b_X2_digest_142
    rw [if_pos (by decide)]
    rfl
  | d + 1, f + 1, j, z, hj, hf => by
    have hk : j < 32 := by omega
    have ih := fun z => s_b142 hi h d f (j + 1) z (by omega) (by omega)
    rw [lpf2_s]
    generalize lpf2 (b_X2_digest_142 S) f = K at ih ⊢
    unfold b_X2_digest_142
    simp only [nm_eq]
    rw [if_neg (by rw [show (32 : Int32) = nI 32 from rfl, nI_leI (by omega) (by omega)]; omega), vAt_nI hk (by decide), RS_ow h hk, mixed_eq, bd_some, show nI j + 1 = nI (j + 1) from nI_1 j]
    exact ih _
theorem s_b116 {A : AT} {S : BO} (hi : INV A) (h : RS A S.2.1) : ∀ (d f r : Nat) (z : Int64), r + d = A.n → d < f → lpf2 (b_X2_digest_116 S) f z (nI r) = some (hO A (hR A z r d) 0 32)
  | 0, f + 1, r, z, hj, _ => by
    obtain rfl : r = A.n := hj
    rw [lpf2_s]
    unfold b_X2_digest_116
    rw [RS_n h, if_pos (Int32.le_refl _)]
    exact s_b142 hi h 32 FU 0 z rfl (by decide)
  | d + 1, f + 1, r, z, hj, hf => by
    have hn := INV_n hi
    have ih := fun z => s_b116 hi h d f (r + 1) z (by omega) (by omega)
    rw [lpf2_s]
    generalize lpf2 (b_X2_digest_116 S) f = K at ih ⊢
    unfold b_X2_digest_116
    simp only [nm_eq]
    rw [RS_n h, if_neg (by rw [nI_leI (by omega) (by omega)]; omega), s_wrec hi h (by omega), bd_some, show nI r + 1 = nI (r + 1) from nI_1 r]
    exact ih _
/-! the reference's -/
theorem at_get {p : Nat → Bool} : ∀ (l : List Nat) (i : Nat), at_ p l i = (l.filter p)[i]?
  | [], i => rfl
  | y :: l, i => by
    unfold at_
    cases e : p y with
    | false =>
      rw [if_neg (by decide), List.filter_cons_of_neg (by simp [e])]
      exact at_get l i
    | true =>
      rw [if_pos rfl, List.filter_cons_of_pos e]
      cases i with
      | zero => rfl
      | succ i => rw [if_neg (by omega)]; exact at_get l i
theorem cnt_fil {A : AT} (hi : INV A) (r : Nat) : (A.od.filter (isO A r)).length = cnt A (some r) := by
  rw [← cp_len (A.od.filter (isO A r)) ((INV_nd hi).filter _) (fun x hx => od_lt hi x (List.mem_filter.mp hx).1)]
  refine cp_congr 32 0 (fun k _ hk => ?_)
  show decide (k ∈ A.od.filter (isO A r)) = decide (A.ow k = some r)
  refine decide_eq_decide.mpr ⟨fun q => of_decide_eq_true (List.mem_filter.mp q).2, fun e => List.mem_filter.mpr ⟨(INV_od hi k).mpr ⟨by omega, by rw [e]; simp⟩, decide_eq_true e⟩⟩
