/-! the orders of a text -/
theorem num_v {tx : List Nat} {lo hi i v j : Nat} (hh : 9 ≤ hi) (e : num tx lo hi i = some (v, j)) : v ≤ hi := by
  unfold num at e
  split at e
  · split at e
    · cases e; omega
    · split at e
      · cases e; omega
      · cases e; omega
  · cases e
def TC (tx : List Nat) (S : BO) : Prop := tx.length ≤ 60 ∧ ∀ (i : Nat) (h : i < tx.length), tx[i] ≤ 126 ∧ S.2.2.2.2 0 i = nI tx[i]
theorem TC_c {tx : List Nat} {S : BO} (h : TC tx S) {i : Nat} (hi : i < tx.length) : vAt 60 (S.2.2.2.2 0) (nI i) = nI (sg tx i) ∧ sg tx i ≤ 126 := by
  obtain ⟨h1, h2⟩ := h
  rw [vAt_nI (by omega) (by decide), sg_in hi]
  exact ⟨(h2 i hi).2, (h2 i hi).1⟩
theorem ob_in {tx : List Nat} {S : BO} (h : TC tx S) {i : Nat} (hi : i < tx.length) (f : Nat) (x1 x2 x3 x4 : Int32) : lpf7 b_X2_obeyOrders_26 (f + 1) x1 x2 x3 x4 (nI tx.length) (nI i) S = c_X2_obeyOrders_57 (lpf7 b_X2_obeyOrders_26 f) x1 x2 x3 x4 (nI tx.length) (nI i) (nI (sg tx i)) S := by
  have h60 := h.1
  rw [lpf7_s]
  generalize lpf7 b_X2_obeyOrders_26 f = K
  unfold b_X2_obeyOrders_26
  rw [if_neg (by rw [nI_ltI (by omega) (by omega)]; omega), if_neg (by rw [nI_leI (by omega) (by omega)]; omega), (TC_c h hi).1]
theorem ob_let {tx : List Nat} {S : BO} (h : TC tx S) {i : Nat} (hi : i < tx.length) (f : Nat) (x1 x3 x4 : Int32) (h1 : sg tx i ≠ 59) (h2 : sg tx i ≠ 61) : lpf7 b_X2_obeyOrders_26 (f + 1) x1 (-1) x3 x4 (nI tx.length) (nI i) S = lpf7 b_X2_obeyOrders_26 f x1 (nI (sg tx i)) x3 x4 (nI tx.length) (nI (i + 1)) S := by
  have h60 := h.1
  have hc := (TC_c h hi).2
  rw [ob_in h hi]
  generalize lpf7 b_X2_obeyOrders_26 f = K
  unfold c_X2_obeyOrders_57
  rw [if_neg (by rw [show (59 : Int32) = nI 59 from rfl, nI_eq (by omega) (by omega)]; exact h1), if_neg (by rw [show (61 : Int32) = nI 61 from rfl, nI_eq (by omega) (by omega)]; exact h2), if_pos rfl, nm_eq, show nI i + 1 = nI (i + 1) from nI_1 i]
theorem ob_dig {tx : List Nat} {S : BO} (h : TC tx S) {i : Nat} (hi : i < tx.length) (f : Nat) (x1 x3 : Int32) {l z : Nat} (hl : l < 2 ^ 31) (h1 : 48 ≤ sg tx i ∧ sg tx i ≤ 57) : lpf7 b_X2_obeyOrders_26 (f + 1) x1 (nI l) x3 (nI z) (nI tx.length) (nI i) S = lpf7 b_X2_obeyOrders_26 f x1 (nI l) x3 (nI (10 * z + (sg tx i - 48))) (nI tx.length) (nI (i + 1)) S := by
  have h60 := h.1
  rw [ob_in h hi]
  generalize lpf7 b_X2_obeyOrders_26 f = K
  unfold c_X2_obeyOrders_57
  rw [if_neg (by rw [show (59 : Int32) = nI 59 from rfl, nI_eq (by omega) (by omega)]; omega), if_neg (by rw [show (61 : Int32) = nI 61 from rfl, nI_eq (by omega) (by omega)]; omega), if_neg (nI_m1 hl), nm_eq, nm_eq, show nI i + 1 = nI (i + 1) from nI_1 i, show (48 : Int32) = nI 48 from rfl, show (10 : Int32) = nI 10 from rfl, sub_nI h1.1, mul_nI, nI_add]
theorem ob_eq {tx : List Nat} {S : BO} (h : TC tx S) {i : Nat} (hi : i < tx.length) (f : Nat) (x1 x2 x3 x4 : Int32) (h1 : sg tx i = 61) : lpf7 b_X2_obeyOrders_26 (f + 1) x1 x2 x3 x4 (nI tx.length) (nI i) S = lpf7 b_X2_obeyOrders_26 f x1 x2 x4 0 (nI tx.length) (nI (i + 1)) S := by
  rw [ob_in h hi]
  generalize lpf7 b_X2_obeyOrders_26 f = K
  unfold c_X2_obeyOrders_57
  rw [h1, if_neg (by decide), if_pos (show nI 61 = 61 from rfl), nm_eq, show nI i + 1 = nI (i + 1) from nI_1 i]
theorem ob_num {tx : List Nat} {S : BO} (h : TC tx S) {lo hi i v j : Nat} (e : num tx lo hi i = some (v, j)) (f : Nat) (x1 x3 : Int32) {l : Nat} (hl : l < 2 ^ 31) : lpf7 b_X2_obeyOrders_26 (f + (j - i)) x1 (nI l) x3 0 (nI tx.length) (nI i) S = lpf7 b_X2_obeyOrders_26 f x1 (nI l) x3 (nI v) (nI tx.length) (nI j) S := by
  unfold num at e
  by_cases h1 : 48 + lo ≤ sg tx i ∧ sg tx i ≤ 57
  · have p1 := sg_pos (tx := tx) (i := i) (by omega)
    have d1 : 48 ≤ sg tx i ∧ sg tx i ≤ 57 := by omega
    rw [if_pos h1] at e
    by_cases h2 : sg tx i = 48
    · rw [if_pos h2] at e
      cases e
      rw [show i + 1 - i = 1 by omega, show (0 : Int32) = nI 0 from rfl, ob_dig h p1 f x1 x3 hl d1, h2]
    · rw [if_neg h2] at e
      by_cases h3 : (48 ≤ sg tx (i + 1) ∧ sg tx (i + 1) ≤ 57) ∧ 10 * (sg tx i - 48) + sg tx (i + 1) - 48 ≤ hi
      · have p2 := sg_pos (tx := tx) (i := i + 1) (by omega)
        rw [if_pos h3] at e
        cases e
        rw [show i + 2 - i = 1 + 1 by omega, show f + (1 + 1) = f + 1 + 1 from rfl, show (0 : Int32) = nI 0 from rfl, ob_dig h p1 (f + 1) x1 x3 hl d1, ob_dig h p2 f x1 x3 hl h3.1, show 10 * (10 * 0 + (sg tx i - 48)) + (sg tx (i + 1) - 48) = 10 * (sg tx i - 48) + sg tx (i + 1) - 48 by omega]
      · rw [if_neg h3] at e
        cases e
        rw [show i + 1 - i = 1 by omega, show (0 : Int32) = nI 0 from rfl, ob_dig h p1 f x1 x3 hl d1, show 10 * 0 + (sg tx i - 48) = sg tx i - 48 by omega]
  · rw [if_neg h1] at e; cases e
