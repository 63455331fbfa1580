/-! one order -/
def ro (tx : List Nat) (i : Nat) (b c : Int32) : Bool × Nat × Int32 × Int32 :=
  if sg tx i = 98 then (true, i + 1, b, c) else if sg tx i = 104 then (true, i + 1, b, c) else if sg tx i = 112 then (true, i + 1, b, c)
  else if sg tx i = 115 then (match num tx 0 99 (i + 1) with
    | none => (false, i + 1, b, -1)
    | some (v, j) => (true, j, b, nI v))
  else if sg tx i = 114 then (match num tx 1 32 (i + 1) with
    | none => (false, i + 1, -1, -1)
    | some (v, j) => if sg tx j = 61 then (match num tx 0 99 (j + 1) with
      | none => (false, j + 1, nI v, -1)
      | some (w, k) => (true, k, nI v, nI w)) else (false, j, nI v, -1))
  else if sg tx i = 107 then (match num tx 1 9 (i + 1) with
    | none => (false, i + 1, -1, c)
    | some (v, j) => (true, j, nI v, c))
  else if sg tx i = 102 ∨ sg tx i = 117 ∨ sg tx i = 101 ∨ sg tx i = 103 then (match num tx 0 9 (i + 1) with
    | none => (false, i + 1, -1, c)
    | some (v, j) => (true, j, nI v, c))
  else (false, i, -1, c)
theorem num_b {tx : List Nat} {lo hi i v j : Nat} (hh : hi < 100) (e : num tx lo hi i = some (v, j)) : v < 100 ∧ i < j ∧ j ≤ i + 2 ∧ j ≤ tx.length ∧ v ≤ hi + 9 := by
  unfold num at e
  split at e
  · next h1 =>
    have p1 := sg_pos (tx := tx) (i := i) (by omega)
    split at e
    · cases e; omega
    · split at e
      · next h3 =>
        have p2 := sg_pos (tx := tx) (i := i + 1) (by omega)
        cases e; omega
      · cases e; omega
  · cases e
theorem m_ro {tx : List Nat} {M : MO} (h : MT tx M) (a b c : Int32) {i : Nat} (hi : i < 200) : f_X3_readsOrder (sc M i a b c) = some (bZ (ro tx i b c).1, sc M (ro tx i b c).2.1 (nI (sg tx i)) (ro tx i b c).2.2.1 (ro tx i b c).2.2.2) := by
  have h219 : ∀ (S : MO), True := fun _ => trivial
  have tk : ∀ (x j : Nat) (a b c : Int32), x < 2 ^ 31 → j < 2 ^ 31 → f_X3_takes (nI x) (sc M j a b c) = some (if sg tx j = x then (1, sc M (j + 1) a b c) else (0, sc M j a b c)) := fun x j a b c hx hj => m_take h hj hx a b c
  have nu : ∀ (lo hi j : Nat) (a b c : Int32), hi < 100 → lo ≤ 1 → j < 900 → f_X3_number (nI lo) (nI hi) (sc M j a b c) = some (match num tx lo hi j with | none => (-1, sc M j a b c) | some (v, k) => (nI v, sc M k a b c)) := fun lo hi j a b c h1 h2 h3 => m_num h h1 h2 a b c h3
  have r219 : ∀ (v : Int32) (j : Nat) (a b c : Int32), c_X3_readsOrder_219 v (sc M j a b c) = if v = -1 then some (0, sc M j a v c) else some (1, sc M j a v c) := fun v j a b c => by
    unfold c_X3_readsOrder_219
    rw [nm_eq, sc_7]
    rfl
  have r120 : ∀ (v : Int32) (j : Nat) (a b c : Int32), c_X3_readsOrder_120 v (sc M j a b c) = if v = -1 then some (0, sc M j a b v) else some (1, sc M j a b v) := fun v j a b c => by
    unfold c_X3_readsOrder_120
    rw [nm_eq, sc_8]
    rfl
  have r208 : ∀ (j : Nat) (a b c : Int32), j < 900 → c_X3_readsOrder_208 (sc M j a b c) = match num tx 0 9 j with | none => some (0, sc M j a (-1) c) | some (v, k) => some (1, sc M k a (nI v) c) := fun j a b c hj => by
    unfold c_X3_readsOrder_208
    rw [show f_X3_number 0 9 = f_X3_number (nI 0) (nI 9) from rfl, nu 0 9 j a b c (by omega) (by omega) hj]
    cases e : num tx 0 9 j with
    | none => rw [bd2_some, r219, if_pos rfl]
    | some w =>
      obtain ⟨v, k⟩ := w
      have := num_b (by omega) e
      rw [bd2_some, r219, if_neg (nI_m1 (n := v) (by omega))]
  unfold f_X3_readsOrder
  rw [m_sign h (show i < 2 ^ 31 by omega), bd_some, nm_eq, sc_6]
  unfold ro
  rw [show f_X3_takes 98 = f_X3_takes (nI 98) from rfl, tk 98 i _ _ _ (by omega) (by omega)]
  by_cases e1 : sg tx i = 98
  · rw [if_pos e1, if_pos e1, bd2_some, if_neg (by decide)]; rfl
  rw [if_neg e1, if_neg e1, bd2_some, if_pos rfl, show f_X3_takes 104 = f_X3_takes (nI 104) from rfl, tk 104 i _ _ _ (by omega) (by omega)]
  by_cases e2 : sg tx i = 104
  · rw [if_pos e2, if_pos e2, bd2_some, if_neg (by decide)]; rfl
  rw [if_neg e2, if_neg e2, bd2_some, if_pos rfl, show f_X3_takes 112 = f_X3_takes (nI 112) from rfl, tk 112 i _ _ _ (by omega) (by omega)]
  by_cases e3 : sg tx i = 112
  · rw [if_pos e3, if_pos e3, bd2_some, if_neg (by decide)]; rfl
  rw [if_neg e3, if_neg e3, bd2_some, if_pos rfl, show f_X3_takes 115 = f_X3_takes (nI 115) from rfl, tk 115 i _ _ _ (by omega) (by omega)]
  by_cases e4 : sg tx i = 115
  · rw [if_pos e4, if_pos e4, bd2_some, if_neg (by decide), show f_X3_number 0 99 = f_X3_number (nI 0) (nI 99) from rfl, nu 0 99 (i + 1) _ _ _ (by omega) (by omega) (by omega)]
    cases e : num tx 0 99 (i + 1) with
    | none => rw [bd2_some, nm_eq, sc_8]; rfl
    | some w =>
      obtain ⟨v, k⟩ := w
      have := num_b (by omega) e
      rw [bd2_some, nm_eq, sc_8, if_neg (show ¬ (sc M k (nI (sg tx i)) b (nI v)).1 8 = -1 from nI_m1 (n := v) (by omega))]
      rfl
  rw [if_neg e4, if_neg e4, bd2_some, if_pos rfl, show f_X3_takes 114 = f_X3_takes (nI 114) from rfl, tk 114 i _ _ _ (by omega) (by omega)]
  by_cases e5 : sg tx i = 114
  · rw [if_pos e5, if_pos e5, bd2_some, if_neg (by decide), show f_X3_number 1 32 = f_X3_number (nI 1) (nI 32) from rfl, nu 1 32 (i + 1) _ _ _ (by omega) (by omega) (by omega)]
    cases e : num tx 1 32 (i + 1) with
    | none =>
      rw [bd2_some, nm_eq, sc_7, if_pos (show (sc M (i + 1) (nI (sg tx i)) (-1) c).1 7 = -1 from rfl)]
      unfold c_X3_readsOrder_119
      rw [r120, if_pos rfl]
      rfl
    | some w =>
      obtain ⟨v, k⟩ := w
      have := num_b (by omega) e
      rw [bd2_some, nm_eq, sc_7, if_neg (show ¬ (sc M k (nI (sg tx i)) (nI v) c).1 7 = -1 from nI_m1 (n := v) (by omega)), show f_X3_takes 61 = f_X3_takes (nI 61) from rfl, tk 61 k _ _ _ (by omega) (by omega)]
      show _ = some (bZ (if sg tx k = 61 then _ else _ : Bool × Nat × Int32 × Int32).1, sc M (if sg tx k = 61 then _ else _ : Bool × Nat × Int32 × Int32).2.1 _ (if sg tx k = 61 then _ else _ : Bool × Nat × Int32 × Int32).2.2.1 (if sg tx k = 61 then _ else _ : Bool × Nat × Int32 × Int32).2.2.2)
      by_cases e6 : sg tx k = 61
      · rw [if_pos e6, if_pos e6, bd2_some, if_neg (by decide), show f_X3_number 0 99 = f_X3_number (nI 0) (nI 99) from rfl, nu 0 99 (k + 1) _ _ _ (by omega) (by omega) (by omega)]
        cases e7 : num tx 0 99 (k + 1) with
        | none => rw [bd2_some, r120, if_pos rfl]; rfl
        | some w =>
          obtain ⟨v2, k2⟩ := w
          have := num_b (by omega) e7
          rw [bd2_some, r120, if_neg (nI_m1 (n := v2) (by omega))]
          rfl
      · rw [if_neg e6, if_neg e6, bd2_some, if_pos rfl]
        unfold c_X3_readsOrder_119
        rw [r120, if_pos rfl]
        rfl
  rw [if_neg e5, if_neg e5, bd2_some, if_pos rfl, show f_X3_takes 107 = f_X3_takes (nI 107) from rfl, tk 107 i _ _ _ (by omega) (by omega)]
  by_cases e6 : sg tx i = 107
  · rw [if_pos e6, if_pos e6, bd2_some, if_neg (by decide), show f_X3_number 1 9 = f_X3_number (nI 1) (nI 9) from rfl, nu 1 9 (i + 1) _ _ _ (by omega) (by omega) (by omega)]
    cases e : num tx 1 9 (i + 1) with
    | none => rw [bd2_some, nm_eq, sc_7]; rfl
    | some w =>
      obtain ⟨v, k⟩ := w
      have := num_b (by omega) e
      rw [bd2_some, nm_eq, sc_7, if_neg (show ¬ (sc M k (nI (sg tx i)) (nI v) c).1 7 = -1 from nI_m1 (n := v) (by omega))]
      rfl
  rw [if_neg e6, if_neg e6, bd2_some, if_pos rfl, show f_X3_takes 102 = f_X3_takes (nI 102) from rfl, tk 102 i _ _ _ (by omega) (by omega)]
  have fin : ∀ (a b c : Int32), c_X3_readsOrder_208 (sc M (i + 1) a b c) = some (bZ (match num tx 0 9 (i + 1) with | none => (false, i + 1, -1, c) | some (v, j) => (true, j, nI v, c) : Bool × Nat × Int32 × Int32).1, sc M (match num tx 0 9 (i + 1) with | none => (false, i + 1, -1, c) | some (v, j) => (true, j, nI v, c) : Bool × Nat × Int32 × Int32).2.1 a (match num tx 0 9 (i + 1) with | none => (false, i + 1, -1, c) | some (v, j) => (true, j, nI v, c) : Bool × Nat × Int32 × Int32).2.2.1 (match num tx 0 9 (i + 1) with | none => (false, i + 1, -1, c) | some (v, j) => (true, j, nI v, c) : Bool × Nat × Int32 × Int32).2.2.2) := fun a b c => by
    rw [r208 _ a b c (by omega)]
    cases num tx 0 9 (i + 1) with
    | none => rfl
    | some w => rfl
  by_cases e7 : sg tx i = 102
  · rw [if_pos e7, if_pos (.inl e7), bd2_some, if_neg (by decide)]; exact fin _ _ _
  rw [if_neg e7, bd2_some, if_pos rfl, show f_X3_takes 117 = f_X3_takes (nI 117) from rfl, tk 117 i _ _ _ (by omega) (by omega)]
  by_cases e8 : sg tx i = 117
  · rw [if_pos e8, if_pos (.inr (.inl e8)), bd2_some, if_neg (by decide)]; exact fin _ _ _
  rw [if_neg e8, bd2_some, if_pos rfl, show f_X3_takes 101 = f_X3_takes (nI 101) from rfl, tk 101 i _ _ _ (by omega) (by omega)]
  by_cases e9 : sg tx i = 101
  · rw [if_pos e9, if_pos (.inr (.inr (.inl e9))), bd2_some, if_neg (by decide)]; exact fin _ _ _
  rw [if_neg e9, bd2_some, if_pos rfl, show f_X3_takes 103 = f_X3_takes (nI 103) from rfl, tk 103 i _ _ _ (by omega) (by omega)]
  by_cases e10 : sg tx i = 103
  · rw [if_pos e10, if_pos (.inr (.inr (.inr e10))), bd2_some, if_neg (by decide)]; exact fin _ _ _
  rw [if_neg e10, bd2_some, if_pos rfl, if_neg (by omega), r219, if_pos rfl]
  rfl
