/-! the stages and the reading go together -/
def RR (tx : List Nat) (s i s' j : Nat) : Prop := i ≤ j ∧ j ≤ tx.length ∧ er s (tx.drop i) = (j - i) + er s' (tx.drop j) ∧ fs s (tx.drop i) = fs s' (tx.drop j)
def ED (tx : List Nat) (ok : Bool) (s j : Nat) : Prop := (ok = true ↔ s = 1 ∨ s = 3) ∧ (j < tx.length → sa s (sg tx j) = if ok = true ∧ sg tx j = 59 then some 0 else none)
theorem RR_r {tx : List Nat} {s i : Nat} (h : i ≤ tx.length) : RR tx s i s i := ⟨Nat.le_refl i, h, by rw [Nat.sub_self, Nat.zero_add], rfl⟩
theorem RR_t {tx : List Nat} {s i s' j s'' k : Nat} (h : RR tx s i s' j) (g : RR tx s' j s'' k) : RR tx s i s'' k := by
  obtain ⟨h1, h2, h3, h4⟩ := h
  obtain ⟨g1, g2, g3, g4⟩ := g
  exact ⟨by omega, g2, by rw [h3, g3]; omega, h4.trans g4⟩
theorem RR_s {tx : List Nat} {s i r : Nat} (h : i < tx.length) (e : sa s (sg tx i) = some r) : RR tx s i r (i + 1) := by
  rw [sg_in h] at e
  refine ⟨by omega, by omega, ?_, ?_⟩
  · rw [List.drop_eq_getElem_cons h, er_c, e]
    show er r _ + 1 = _
    rw [show i + 1 - i = 1 by omega, Nat.add_comm]
  · rw [List.drop_eq_getElem_cons h, fs_c, e]
theorem sa_1 (x : Nat) : sa 1 x = if x = 59 then some 0 else none := rfl
theorem sa_2 (x : Nat) : sa 2 x = if x = 48 then some 1 else if 49 ≤ x ∧ x ≤ 57 then some 3 else none := rfl
theorem sa_3 (x : Nat) : sa 3 x = if x = 59 then some 0 else if 48 ≤ x ∧ x ≤ 57 then some 1 else none := rfl
theorem sa_4 (x : Nat) : sa 4 x = if 49 ≤ x ∧ x ≤ 50 then some 5 else if x = 51 then some 6 else if 52 ≤ x ∧ x ≤ 57 then some 7 else none := rfl
theorem sa_5 (x : Nat) : sa 5 x = if x = 61 then some 2 else if 48 ≤ x ∧ x ≤ 57 then some 7 else none := rfl
theorem sa_6 (x : Nat) : sa 6 x = if x = 61 then some 2 else if 48 ≤ x ∧ x ≤ 50 then some 7 else none := rfl
theorem sa_7 (x : Nat) : sa 7 x = if x = 61 then some 2 else none := rfl
theorem sa_8 (x : Nat) : sa 8 x = if 48 ≤ x ∧ x ≤ 57 then some 1 else none := rfl
theorem sa_9 (x : Nat) : sa 9 x = if 49 ≤ x ∧ x ≤ 57 then some 1 else none := rfl
theorem sa_0 (x : Nat) : sa 0 x = if x = 98 then some 1 else if x = 101 then some 8 else if x = 102 then some 8 else if x = 103 then some 8 else if x = 104 then some 1 else if x = 107 then some 9 else if x = 112 then some 1 else if x = 114 then some 4 else if x = 115 then some 2 else if x = 117 then some 8 else none := rfl
theorem ED_1 {tx : List Nat} {j : Nat} : ED tx true 1 j := ⟨by simp, fun _ => by rw [sa_1]; simp⟩
theorem ED_f {tx : List Nat} {s j : Nat} (h1 : s ≠ 1) (h3 : s ≠ 3) (h : sa s (sg tx j) = none) : ED tx false s j := ⟨by simp [h1, h3], fun _ => by rw [h]; simp⟩
/-- a sound's number -/
theorem n99 {tx : List Nat} {j : Nat} : match num tx 0 99 j with
    | none => ED tx false 2 j
    | some (_, k) => ∃ s, RR tx 2 j s k ∧ ED tx true s k := by
  unfold num
  by_cases h1 : 48 + 0 ≤ sg tx j ∧ sg tx j ≤ 57
  · have p1 := sg_pos (tx := tx) (i := j) (by omega)
    rw [if_pos h1]
    by_cases h2 : sg tx j = 48
    · rw [if_pos h2]
      exact ⟨1, RR_s p1 (by rw [sa_2, if_pos h2]), ED_1⟩
    · rw [if_neg h2]
      have r1 : RR tx 2 j 3 (j + 1) := RR_s p1 (by rw [sa_2, if_neg h2, if_pos (by omega)])
      by_cases h3 : (48 ≤ sg tx (j + 1) ∧ sg tx (j + 1) ≤ 57) ∧ 10 * (sg tx j - 48) + sg tx (j + 1) - 48 ≤ 99
      · have p2 := sg_pos (tx := tx) (i := j + 1) (by omega)
        rw [if_pos h3]
        exact ⟨1, RR_t r1 (RR_s p2 (by rw [sa_3, if_neg (by omega), if_pos (by omega)])), ED_1⟩
      · rw [if_neg h3]
        refine ⟨3, r1, by simp, fun _ => ?_⟩
        rw [sa_3]
        by_cases h4 : sg tx (j + 1) = 59
        · rw [if_pos h4, if_pos ⟨rfl, h4⟩]
        · rw [if_neg h4, if_neg (by omega), if_neg (fun z => h4 z.2)]
  · rw [if_neg h1]
    exact ED_f (by omega) (by omega) (by rw [sa_2, if_neg (by omega), if_neg (by omega)])
/-- how often -/
theorem n32 {tx : List Nat} {j : Nat} : match num tx 1 32 j with
    | none => ED tx false 4 j
    | some (_, k) => ∃ s, RR tx 4 j s k ∧ s ≠ 1 ∧ s ≠ 3 ∧ sa s (sg tx k) = if sg tx k = 61 then some 2 else none := by
  unfold num
  by_cases h1 : 48 + 1 ≤ sg tx j ∧ sg tx j ≤ 57
  · have p1 := sg_pos (tx := tx) (i := j) (by omega)
    rw [if_pos h1, if_neg (by omega)]
    have r1 : RR tx 4 j (if sg tx j ≤ 50 then 5 else if sg tx j = 51 then 6 else 7) (j + 1) := RR_s p1 (by
      rw [sa_4]
      by_cases q1 : sg tx j ≤ 50
      · rw [if_pos (by omega), if_pos q1]
      · rw [if_neg (by omega), if_neg q1]
        by_cases q2 : sg tx j = 51
        · rw [if_pos q2, if_pos q2]
        · rw [if_neg q2, if_neg q2, if_pos (by omega)])
    by_cases h3 : (48 ≤ sg tx (j + 1) ∧ sg tx (j + 1) ≤ 57) ∧ 10 * (sg tx j - 48) + sg tx (j + 1) - 48 ≤ 32
    · have p2 := sg_pos (tx := tx) (i := j + 1) (by omega)
      rw [if_pos h3]
      refine ⟨7, RR_t r1 (RR_s p2 ?_), by omega, by omega, sa_7 _⟩
      by_cases q1 : sg tx j ≤ 50
      · rw [if_pos q1, sa_5, if_neg (by omega), if_pos h3.1]
      · rw [if_neg q1, if_pos (by omega), sa_6, if_neg (by omega), if_pos (by omega)]
    · rw [if_neg h3]
      refine ⟨_, r1, ?_, ?_, ?_⟩
      · split
        · omega
        · split <;> omega
      · split
        · omega
        · split <;> omega
      · by_cases q1 : sg tx j ≤ 50
        · rw [if_pos q1, sa_5]
          by_cases q2 : sg tx (j + 1) = 61
          · rw [if_pos q2, if_pos q2]
          · rw [if_neg q2, if_neg q2, if_neg (by omega)]
        · rw [if_neg q1]
          by_cases q3 : sg tx j = 51
          · rw [if_pos q3, sa_6]
            by_cases q2 : sg tx (j + 1) = 61
            · rw [if_pos q2, if_pos q2]
            · rw [if_neg q2, if_neg q2, if_neg (by omega)]
          · rw [if_neg q3, sa_7]
  · rw [if_neg h1]
    exact ED_f (by omega) (by omega) (by rw [sa_4, if_neg (by omega), if_neg (by omega), if_neg (by omega)])
theorem n9 {tx : List Nat} {j : Nat} : match num tx 1 9 j with
    | none => ED tx false 9 j
    | some (_, k) => RR tx 9 j 1 k := by
  unfold num
  by_cases h1 : 48 + 1 ≤ sg tx j ∧ sg tx j ≤ 57
  · have p1 := sg_pos (tx := tx) (i := j) (by omega)
    rw [if_pos h1, if_neg (by omega), if_neg (by omega)]
    exact RR_s p1 (by rw [sa_9, if_pos (by omega)])
  · rw [if_neg h1]
    exact ED_f (by omega) (by omega) (by rw [sa_9, if_neg (by omega)])
theorem n09 {tx : List Nat} {j : Nat} : match num tx 0 9 j with
    | none => ED tx false 8 j
    | some (_, k) => RR tx 8 j 1 k := by
  unfold num
  by_cases h1 : 48 + 0 ≤ sg tx j ∧ sg tx j ≤ 57
  · have p1 := sg_pos (tx := tx) (i := j) (by omega)
    rw [if_pos h1]
    by_cases h2 : sg tx j = 48
    · rw [if_pos h2]
      exact RR_s p1 (by rw [sa_8, if_pos (by omega)])
    · rw [if_neg h2, if_neg (by omega)]
      exact RR_s p1 (by rw [sa_8, if_pos (by omega)])
  · rw [if_neg h1]
    exact ED_f (by omega) (by omega) (by rw [sa_8, if_neg (by omega)])
theorem ro_st {tx : List Nat} {i : Nat} (hi : i ≤ tx.length) (b c : Int32) : ∃ s, RR tx 0 i s (ro tx i b c).2.1 ∧ ED tx (ro tx i b c).1 s (ro tx i b c).2.1 := by
  unfold ro
  have st : ∀ r, sa 0 (sg tx i) = some r → RR tx 0 i r (i + 1) := fun r e => RR_s (sg_pos (fun q => by rw [q] at e; cases e)) e
  by_cases e1 : sg tx i = 98
  · rw [if_pos e1]; exact ⟨1, st 1 (by rw [e1]; rfl), ED_1⟩
  rw [if_neg e1]
  by_cases e2 : sg tx i = 104
  · rw [if_pos e2]; exact ⟨1, st 1 (by rw [e2]; rfl), ED_1⟩
  rw [if_neg e2]
  by_cases e3 : sg tx i = 112
  · rw [if_pos e3]; exact ⟨1, st 1 (by rw [e3]; rfl), ED_1⟩
  rw [if_neg e3]
  by_cases e4 : sg tx i = 115
  · rw [if_pos e4]
    have r1 := st 2 (by rw [e4]; rfl)
    have n1 := @n99 tx (i + 1)
    cases e : num tx 0 99 (i + 1) with
    | none => rw [e] at n1; exact ⟨2, r1, n1⟩
    | some w => 
      rw [e] at n1
      obtain ⟨s, q1, q2⟩ := n1
      exact ⟨s, RR_t r1 q1, q2⟩
  rw [if_neg e4]
  by_cases e5 : sg tx i = 114
  · rw [if_pos e5]
    have r1 := st 4 (by rw [e5]; rfl)
    have n1 := @n32 tx (i + 1)
    cases e : num tx 1 32 (i + 1) with
    | none => rw [e] at n1; exact ⟨4, r1, n1⟩
    | some w =>
      obtain ⟨v, j⟩ := w
      rw [e] at n1
      obtain ⟨s, q1, q2, q3, q4⟩ := n1
      have r2 := RR_t r1 q1
      show ∃ s, RR tx 0 i s (if sg tx j = 61 then _ else _ : Bool × Nat × Int32 × Int32).2.1 ∧ ED tx (if sg tx j = 61 then _ else _ : Bool × Nat × Int32 × Int32).1 s (if sg tx j = 61 then _ else _ : Bool × Nat × Int32 × Int32).2.1
      by_cases e6 : sg tx j = 61
      · rw [if_pos e6]
        rw [if_pos e6] at q4
        have r3 := RR_t r2 (RR_s (sg_pos (by omega)) q4)
        have n2 := @n99 tx (j + 1)
        cases e7 : num tx 0 99 (j + 1) with
        | none => rw [e7] at n2; exact ⟨2, r3, n2⟩
        | some w =>
          rw [e7] at n2
          obtain ⟨s, z1, z2⟩ := n2
          exact ⟨s, RR_t r3 z1, z2⟩
      · rw [if_neg e6]
        rw [if_neg e6] at q4
        exact ⟨s, r2, ED_f q2 q3 q4⟩
  rw [if_neg e5]
  by_cases e6 : sg tx i = 107
  · rw [if_pos e6]
    have r1 := st 9 (by rw [e6]; rfl)
    have n1 := @n9 tx (i + 1)
    cases e : num tx 1 9 (i + 1) with
    | none => rw [e] at n1; exact ⟨9, r1, n1⟩
    | some w => rw [e] at n1; exact ⟨1, RR_t r1 n1, ED_1⟩
  rw [if_neg e6]
  by_cases e7 : sg tx i = 102 ∨ sg tx i = 117 ∨ sg tx i = 101 ∨ sg tx i = 103
  · rw [if_pos e7]
    have r1 := st 8 (by rcases e7 with q | q | q | q <;> (rw [q]; rfl))
    have n1 := @n09 tx (i + 1)
    cases e : num tx 0 9 (i + 1) with
    | none => rw [e] at n1; exact ⟨8, r1, n1⟩
    | some w => rw [e] at n1; exact ⟨1, RR_t r1 n1, ED_1⟩
  rw [if_neg e7]
  have a1 : ¬ sg tx i = 102 := fun q => e7 (.inl q)
  have a2 : ¬ sg tx i = 117 := fun q => e7 (.inr (.inl q))
  have a3 : ¬ sg tx i = 101 := fun q => e7 (.inr (.inr (.inl q)))
  have a4 : ¬ sg tx i = 103 := fun q => e7 (.inr (.inr (.inr q)))
  refine ⟨0, RR_r hi, ED_f (by decide) (by decide) ?_⟩
  rw [sa_0, if_neg e1, if_neg a3, if_neg a1, if_neg a4, if_neg e2, if_neg e6, if_neg e3, if_neg e5, if_neg e4, if_neg a2]
