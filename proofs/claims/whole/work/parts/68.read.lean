/-! order texts: the reference's reading -/
def sg (tx : List Nat) (i : Nat) : Nat := (tx[i]?).getD 0
def MT (tx : List Nat) (M : MO) : Prop := tx.length ≤ 60 ∧ M.1 4 = nI tx.length ∧ ∀ (i : Nat) (h : i < tx.length), 33 ≤ tx[i] ∧ tx[i] ≤ 126 ∧ M.2.1 3 i = nI tx[i]
def sc (M : MO) (i : Nat) (a b c : Int32) : MO := ((fun k => if k = 5 then nI i else if k = 6 then a else if k = 7 then b else if k = 8 then c else M.1 k), M.2)
theorem sc_id (M : MO) {i : Nat} (h : M.1 5 = nI i) : M = sc M i (M.1 6) (M.1 7) (M.1 8) := by
  obtain ⟨g, N⟩ := M
  unfold sc
  refine Prod.ext (funext fun k => ?_) rfl
  have h : g 5 = nI i := h
  show g k = if k = 5 then nI i else if k = 6 then g 6 else if k = 7 then g 7 else if k = 8 then g 8 else g k
  split
  · next e => rw [e, h]
  · split
    · next e => rw [e]
    · split
      · next e => rw [e]
      · split
        · next e => rw [e]
        · rfl
theorem sc_5 (M : MO) (i j : Nat) (a b c : Int32) : (upd (sc M i a b c).1 5 (nI j), (sc M i a b c).2) = sc M j a b c := by
  unfold sc
  refine Prod.ext (funext fun k => ?_) rfl
  show (if k = 5 then nI j else if k = 5 then nI i else _) = if k = 5 then nI j else _
  by_cases e : k = 5
  · rw [if_pos e, if_pos e]
  · rw [if_neg e, if_neg e, if_neg e]
theorem sc_6 (M : MO) (i : Nat) (a b c v : Int32) : (upd (sc M i a b c).1 6 v, (sc M i a b c).2) = sc M i v b c := by
  unfold sc
  refine Prod.ext (funext fun k => ?_) rfl
  show (if k = 6 then v else if k = 5 then nI i else if k = 6 then a else _) = if k = 5 then nI i else if k = 6 then v else _
  by_cases e : k = 6
  · rw [if_pos e, if_neg (by omega), if_pos e]
  · rw [if_neg e, if_neg e, if_neg e]
theorem sc_7 (M : MO) (i : Nat) (a b c v : Int32) : (upd (sc M i a b c).1 7 v, (sc M i a b c).2) = sc M i a v c := by
  unfold sc
  refine Prod.ext (funext fun k => ?_) rfl
  show (if k = 7 then v else if k = 5 then nI i else if k = 6 then a else if k = 7 then b else _) = if k = 5 then nI i else if k = 6 then a else if k = 7 then v else _
  by_cases e : k = 7
  · rw [if_pos e, if_neg (by omega), if_neg (by omega), if_pos e]
  · rw [if_neg e, if_neg e, if_neg e]
theorem sc_8 (M : MO) (i : Nat) (a b c v : Int32) : (upd (sc M i a b c).1 8 v, (sc M i a b c).2) = sc M i a b v := by
  unfold sc
  refine Prod.ext (funext fun k => ?_) rfl
  show (if k = 8 then v else if k = 5 then nI i else if k = 6 then a else if k = 7 then b else if k = 8 then c else _) = if k = 5 then nI i else if k = 6 then a else if k = 7 then b else if k = 8 then v else _
  by_cases e : k = 8
  · rw [if_pos e, if_neg (by omega), if_neg (by omega), if_neg (by omega), if_pos e]
  · rw [if_neg e, if_neg e, if_neg e]
theorem sg_lt {tx : List Nat} {M : MO} (h : MT tx M) (i : Nat) : sg tx i ≤ 126 := by
  unfold sg
  cases e : tx[i]? with
  | none => exact Nat.zero_le _
  | some x =>
    obtain ⟨h1, h2⟩ := List.getElem?_eq_some_iff.mp e
    have := (h.2.2 i h1).2.1
    rw [h2] at this
    exact this
theorem sg_in {tx : List Nat} {i : Nat} (h : i < tx.length) : sg tx i = tx[i] := by unfold sg; rw [List.getElem?_eq_getElem h]; rfl
theorem sg_out {tx : List Nat} {i : Nat} (h : tx.length ≤ i) : sg tx i = 0 := by unfold sg; rw [List.getElem?_eq_none h]; rfl
theorem sg_pos {tx : List Nat} {i : Nat} (h : sg tx i ≠ 0) : i < tx.length := Nat.lt_of_not_le (fun q => h (sg_out q))
theorem m_sign {tx : List Nat} {M : MO} (h : MT tx M) {i : Nat} (hi : i < 2 ^ 31) (a b c : Int32) : f_X3_sign (sc M i a b c) = some (nI (sg tx i)) := by
  obtain ⟨h1, h2, h3⟩ := h
  unfold f_X3_sign
  rw [show (sc M i a b c).1 4 = nI tx.length from h2, show (sc M i a b c).1 5 = nI i from rfl]
  by_cases e : tx.length ≤ i
  · rw [if_pos (by rw [nI_leI (by omega) hi]; exact e), sg_out e]; rfl
  · have hlt : i < tx.length := Nat.lt_of_not_le e
    rw [if_neg (by rw [nI_leI (by omega) hi]; exact e), gd_nI (by omega) (by decide), nI_clamp hi, sg_in hlt]
    exact congrArg some (h3 i hlt).2.2
theorem m_take {tx : List Nat} {M : MO} (h : MT tx M) {i x : Nat} (hi : i < 2 ^ 31) (hx : x < 2 ^ 31) (a b c : Int32) : f_X3_takes (nI x) (sc M i a b c) = some (if sg tx i = x then (1, sc M (i + 1) a b c) else (0, sc M i a b c)) := by
  have hs := sg_lt h i
  unfold f_X3_takes c_X3_takes_13 c_X3_takes_28
  rw [m_sign h hi, bd_some]
  by_cases e : sg tx i = x
  · rw [if_pos (by rw [e]), if_pos e, if_neg (by decide), nm_eq, show (sc M i a b c).1 5 + 1 = nI (i + 1) from nI_1 i, sc_5]
    rfl
  · rw [if_neg (by rw [nI_eq (by omega) hx]; exact e), if_neg e, if_pos rfl, nm_eq, show (sc M i a b c).1 5 + 0 = nI i from nI_add i 0, sc_5]
    rfl
theorem in_nI {a lo hi : Nat} (ha : a < 2 ^ 31) (hl : lo < 2 ^ 31) (hh : hi < 2 ^ 31) : f_X3_in (nI a) (nI lo) (nI hi) = some (bZ (decide (lo ≤ a ∧ a ≤ hi))) := by
  unfold f_X3_in
  by_cases e1 : a < lo
  · rw [if_pos (by rw [nI_ltI ha hl]; exact e1), decide_eq_false (by omega)]; rfl
  · rw [if_neg (by rw [nI_ltI ha hl]; exact e1)]
    by_cases e2 : hi < a
    · rw [if_pos (by rw [nI_ltI hh ha]; exact e2), decide_eq_false (by omega)]; rfl
    · rw [if_neg (by rw [nI_ltI hh ha]; exact e2), decide_eq_true (by omega)]; rfl
/-- a number at i -/
def num (tx : List Nat) (lo hi i : Nat) : Option (Nat × Nat) :=
  if 48 + lo ≤ sg tx i ∧ sg tx i ≤ 57 then
    (if sg tx i = 48 then some (0, i + 1) else if (48 ≤ sg tx (i + 1) ∧ sg tx (i + 1) ≤ 57) ∧ 10 * (sg tx i - 48) + sg tx (i + 1) - 48 ≤ hi then some (10 * (sg tx i - 48) + sg tx (i + 1) - 48, i + 2) else some (sg tx i - 48, i + 1))
  else none
theorem m_47 {tx : List Nat} {M : MO} (h : MT tx M) {hi : Nat} (hh : hi < 100) (a b c : Int32) (f : Nat) {v i : Nat} (hv : 0 < v) (hv2 : v < 100) (hi' : i < 1000) : lpf3 b_X3_number_47 (f + 1) (nI hi) (nI v) (sc M i a b c) = if (48 ≤ sg tx i ∧ sg tx i ≤ 57) ∧ 10 * v + sg tx i - 48 ≤ hi then lpf3 b_X3_number_47 f (nI hi) (nI (10 * v + sg tx i - 48)) (sc M (i + 1) a b c) else some (nI v, sc M i a b c) := by
  have hs := sg_lt h i
  rw [lpf3_s]
  generalize lpf3 b_X3_number_47 f = K
  unfold b_X3_number_47
  rw [if_neg (by rw [show (0 : Int32) = nI 0 from rfl, nI_leI (by omega) (by omega)]; omega)]
  simp only [m_sign h (show i < 2 ^ 31 by omega), bd_some]
  rw [show (48 : Int32) = nI 48 from rfl, show (57 : Int32) = nI 57 from rfl, in_nI (by omega) (by omega) (by omega), bd_some, show (10 : Int32) = nI 10 from rfl, mul_nI, nI_add]
  by_cases e1 : 48 ≤ sg tx i ∧ sg tx i ≤ 57
  · rw [decide_eq_true e1, if_neg (by decide), sub_nI (by omega)]
    by_cases e2 : 10 * v + sg tx i - 48 ≤ hi
    · rw [if_neg (by rw [nI_ltI (by omega) (by omega)]; omega), if_pos ⟨e1, e2⟩, nm_eq, nm_eq, show (sc M i a b c).1 5 + 1 = nI (i + 1) from nI_1 i, sc_5]
    · rw [if_pos (by rw [nI_ltI (by omega) (by omega)]; omega), if_neg (fun z => e2 z.2)]
  · rw [decide_eq_false e1, if_pos (show bZ false = 0 from rfl), if_neg (fun z => e1 z.1)]
theorem m_num {tx : List Nat} {M : MO} (h : MT tx M) {lo hi : Nat} (hh : hi < 100) (hl : lo ≤ 1) (a b c : Int32) {i : Nat} (hi' : i < 900) : f_X3_number (nI lo) (nI hi) (sc M i a b c) = some (match num tx lo hi i with | none => (-1, sc M i a b c) | some (v, j) => (nI v, sc M j a b c)) := by
  have hs := sg_lt h i
  unfold f_X3_number num c_X3_number_27 c_X3_number_43
  simp only [m_sign h (show i < 2 ^ 31 by omega), bd_some]
  rw [show (48 : Int32) = nI 48 from rfl, show (57 : Int32) = nI 57 from rfl, nI_add, in_nI (by omega) (by omega) (by omega), bd_some]
  by_cases e1 : 48 + lo ≤ sg tx i ∧ sg tx i ≤ 57
  · rw [decide_eq_true e1, if_neg (by decide), if_pos e1, sub_nI (by omega), if_neg (nI_m1 (n := sg tx i - 48) (by omega)), nm_eq, show (sc M i a b c).1 5 + 1 = nI (i + 1) from nI_1 i, sc_5]
    by_cases e2 : sg tx i = 48
    · rw [if_pos e2, e2, show FU = 4095 + 1 from rfl, lpf3_s]
      unfold b_X3_number_47
      rw [if_pos (by decide)]
    · rw [if_neg e2, show FU = 4094 + 1 + 1 from rfl, m_47 h hh a b c (4094 + 1) (v := sg tx i - 48) (i := i + 1) (by omega) (by omega) (by omega)]
      by_cases e3 : (48 ≤ sg tx (i + 1) ∧ sg tx (i + 1) ≤ 57) ∧ 10 * (sg tx i - 48) + sg tx (i + 1) - 48 ≤ hi
      · rw [if_pos e3, if_pos e3, m_47 h hh a b c 4094 (v := 10 * (sg tx i - 48) + sg tx (i + 1) - 48) (i := i + 1 + 1) (by omega) (by omega) (by omega), if_neg (by omega)]
      · rw [if_neg e3, if_neg e3]
  · rw [decide_eq_false e1, if_pos (show bZ false = 0 from rfl), if_neg e1, if_pos trivial, nm_eq, show (sc M i a b c).1 5 + 0 = nI i from nI_add i 0, sc_5, show FU = 4095 + 1 from rfl, lpf3_s]
    unfold b_X3_number_47
    rw [if_pos (by decide)]
