/-! bits (rows of the kit's family), the script's numbers, small sums -/
def bt (x : Int32) (i : Nat) : Bool := x.toBitVec.getLsbD i
theorem b_ext {x y : Int32} (h : ∀ i, i < 32 → bt x i = bt y i) : x = y := Int32.toBitVec_inj.mp (BitVec.eq_of_getLsbD_eq (fun i hi => h i hi))
theorem b_or (x y : Int32) (i : Nat) : bt (x ||| y) i = (bt x i || bt y i) := by unfold bt; rw [Int32.toBitVec_or, BitVec.getLsbD_or]
theorem b_and (x y : Int32) (i : Nat) : bt (x &&& y) i = (bt x i && bt y i) := by unfold bt; rw [Int32.toBitVec_and, BitVec.getLsbD_and]
theorem b_0 (i : Nat) : bt 0 i = false := BitVec.getLsbD_zero
theorem b_1 : ∀ i, i < 32 → bt 1 i = decide (i = 0) := by decide +kernel
theorem s_l : ∀ n, n < 32 → ((nI n &&& 31).toBitVec.smod 32).toNat = n := by decide +kernel
theorem b_shl (n : Nat) (hn : n < 32) (x : Int32) {i : Nat} (hi : i < 32) : bt (x <<< (nI n &&& 31)) i = (decide (n ≤ i) && bt x (i - n)) := by
  unfold bt
  rw [Int32.toBitVec_shiftLeft]
  show (x.toBitVec <<< ((nI n &&& 31).toBitVec.smod 32).toNat).getLsbD i = _
  rw [s_l n hn, BitVec.getLsbD_shiftLeft]
  rcases Nat.lt_or_ge i n with h | h
  · simp [h, Nat.not_le.mpr h]
  · simp [hi, h, Nat.not_lt.mpr h]
theorem b_sshr (n : Nat) (hn : n < 32) (x : Int32) {i : Nat} (hi : i < 32) : bt (x >>> (nI n &&& 31)) i = if n + i < 32 then bt x (n + i) else bt x 31 := by
  unfold bt
  rw [Int32.toBitVec_shiftRight]
  show (x.toBitVec.sshiftRight ((nI n &&& 31).toBitVec.smod 32).toNat).getLsbD i = _
  rw [s_l n hn, BitVec.getLsbD_sshiftRight, BitVec.msb_eq_getLsbD_last]
  simp [hi]
theorem nx_and (a b : Nat) : nI a &&& nI b = nI (a &&& b) := by
  apply Int32.toBitVec_inj.1
  show BitVec.ofNat 32 a &&& BitVec.ofNat 32 b = BitVec.ofNat 32 (a &&& b)
  apply BitVec.eq_of_getLsbD_eq
  intro i hi
  simp [hi]
theorem wb_of32 (x : Int32) : x = nI x.toBitVec.toNat := Int32.toBitVec_inj.mp (by show _ = BitVec.ofNat 32 _; simp)
/-- one bit of a mask -/
theorem bt_test (x : Int32) {n : Nat} (hn : n < 32) : ((x >>> (nI n &&& 31)) &&& 1) = 0 ↔ bt x n = false := by
  have key : ∀ i, i < 32 → bt ((x >>> (nI n &&& 31)) &&& 1) i = (bt x n && decide (i = 0)) := fun i hi => by
    rw [b_and, b_1 i hi, b_sshr n hn x hi]
    by_cases e : i = 0
    · subst e; rw [Nat.add_zero, if_pos hn]
    · rw [decide_eq_false e, Bool.and_false, Bool.and_false]
  constructor
  · intro h
    have := key 0 (by omega)
    rw [h, b_0] at this
    simpa using this.symm
  · intro h
    refine b_ext (fun i hi => ?_)
    rw [key i hi, h, b_0]; rfl
theorem bt_set (x : Int32) {n : Nat} (hn : n < 32) {i : Nat} (hi : i < 32) : bt (x ||| ((1 : Int32) <<< (nI n &&& 31))) i = (bt x i || decide (i = n)) := by
  rw [b_or, b_shl n hn 1 hi]
  congr 1
  by_cases e : n ≤ i
  · rw [decide_eq_true e, Bool.true_and, b_1 _ (by omega)]
    exact decide_eq_decide.mpr (by omega)
  · rw [decide_eq_false e, Bool.false_and, decide_eq_false (by omega)]
/-- a number of the script without its sign -/
def u31 (x : Int32) : Nat := x.toBitVec.toNat % 2 ^ 31
theorem u31_lt (x : Int32) : u31 x < 2 ^ 31 := Nat.mod_lt _ (by decide)
theorem u31_eq (x : Int32) : x &&& 2147483647 = nI (u31 x) := by
  have e : x &&& 2147483647 = nI x.toBitVec.toNat &&& nI (2 ^ 31 - 1) := congrArg (· &&& (2147483647 : Int32)) (wb_of32 x)
  rw [e, nx_and, Nat.and_two_pow_sub_one_eq_mod]
  rfl
theorem a_up (x : Int32) {n : Nat} (h0 : 0 < n) (hn : n < 2 ^ 31) : f_L_up x (nI n) = some (nI (u31 x % n)) := by
  unfold f_L_up nz
  rw [if_neg (by rw [show (0 : Int32) = nI 0 from rfl, nI_eq hn (by omega)]; omega), u31_eq, rem_nI (u31_lt x) h0 hn]
/-! counting once more -/
theorem cp_add {p q s : Nat → Bool} (h : ∀ k, k < 32 → (if s k then 1 else 0) = (if p k then 1 else 0) + (if q k then (1 : Nat) else 0)) : ∀ d j, j + d ≤ 32 → cp s j d = cp p j d + cp q j d
  | 0, j, _ => rfl
  | d + 1, j, hj => by
    show (if s j then 1 else 0) + cp s (j + 1) d = (if p j then 1 else 0) + cp p (j + 1) d + ((if q j then 1 else 0) + cp q (j + 1) d)
    rw [h j (by omega), cp_add h d (j + 1) (by omega)]
    omega
theorem cp_mono {p q : Nat → Bool} : ∀ d j, (∀ k, j ≤ k → k < j + d → p k = true → q k = true) → cp p j d ≤ cp q j d
  | 0, _, _ => Nat.le_refl 0
  | d + 1, j, h => by
    show (if p j then 1 else 0) + cp p (j + 1) d ≤ (if q j then 1 else 0) + cp q (j + 1) d
    have := cp_mono d (j + 1) (fun k h1 h2 => h k (by omega) (by omega))
    cases e : p j with
    | false => simp only [Bool.false_eq_true, if_false]; split <;> omega
    | true => rw [h j (by omega) (by omega) e]; simp only [if_true]; omega
theorem cp_pos' {p : Nat → Bool} {k : Nat} : ∀ d j, j ≤ k → k < j + d → p k = true → 0 < cp p j d
  | 0, j, h1, h2, _ => absurd h2 (by omega)
  | d + 1, j, h1, h2, h => by
    show 0 < (if p j then 1 else 0) + cp p (j + 1) d
    by_cases e : j = k
    · rw [e, h, if_pos rfl]; omega
    · have := cp_pos' d (j + 1) (show j + 1 ≤ k by omega) (by omega) h
      omega
theorem cp_list {l : List Nat} (hn : l.Nodup) (hl : ∀ x ∈ l, x < 32) (f : Nat → Bool) : (l.filter f).length = cp (fun k => decide (k ∈ l) && f k) 0 32 := by
  rw [← cp_len (l.filter f) (hn.filter _) (fun x hx => hl x (List.mem_filter.mp hx).1)]
  refine cp_congr 32 0 (fun k _ _ => ?_)
  by_cases e : k ∈ l
  · cases e2 : f k <;> simp [List.mem_filter, e, e2]
  · simp [List.mem_filter, e]
