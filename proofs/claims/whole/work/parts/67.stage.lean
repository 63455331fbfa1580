/-! order texts: the belt's stages -/
def sa (s c : Nat) : Option Nat := match s with
  | 0 => if c = 98 then some 1 else if c = 101 then some 8 else if c = 102 then some 8 else if c = 103 then some 8 else if c = 104 then some 1 else if c = 107 then some 9 else if c = 112 then some 1 else if c = 114 then some 4 else if c = 115 then some 2 else if c = 117 then some 8 else none
  | 1 => if c = 59 then some 0 else none
  | 2 => if c = 48 then some 1 else if 49 ≤ c ∧ c ≤ 57 then some 3 else none
  | 3 => if c = 59 then some 0 else if 48 ≤ c ∧ c ≤ 57 then some 1 else none
  | 4 => if 49 ≤ c ∧ c ≤ 50 then some 5 else if c = 51 then some 6 else if 52 ≤ c ∧ c ≤ 57 then some 7 else none
  | 5 => if c = 61 then some 2 else if 48 ≤ c ∧ c ≤ 57 then some 7 else none
  | 6 => if c = 61 then some 2 else if 48 ≤ c ∧ c ≤ 50 then some 7 else none
  | 7 => if c = 61 then some 2 else none
  | 8 => if 48 ≤ c ∧ c ≤ 57 then some 1 else none
  | 9 => if 49 ≤ c ∧ c ≤ 57 then some 1 else none
  | _ => none
theorem sa_fin : ∀ (s : Fin 10) (c : Fin 127), f_X0_stageAfter (nI s.1) (nI c.1) = some (oI (sa s.1 c.1)) := by decide +kernel
theorem sa_bad : ∀ (c : Fin 127), f_X0_stageAfter (-1) (nI c.1) = some (-1) := by decide +kernel
theorem sa_lt : ∀ (s : Fin 10) (c : Fin 127), ∀ r, sa s.1 c.1 = some r → r < 10 := by
  have : ∀ (s : Fin 10) (c : Fin 127), (match sa s.1 c.1 with | none => true | some r => decide (r < 10)) = true := by decide +kernel
  intro s c r e
  have := this s c
  rw [e] at this
  exact of_decide_eq_true this
/-- how far a text goes well -/
def er (s : Nat) : List Nat → Nat
  | [] => 0
  | c :: l => match sa s c with
    | none => 0
    | some r => er r l + 1
/-- the stage behind a text -/
def fs (s : Nat) : List Nat → Option Nat
  | [] => some s
  | c :: l => match sa s c with
    | none => none
    | some r => fs r l
theorem fs_c (s c : Nat) (l : List Nat) : fs s (c :: l) = match sa s c with
    | none => none
    | some r => fs r l := rfl
theorem er_c (s c : Nat) (l : List Nat) : er s (c :: l) = match sa s c with
    | none => 0
    | some r => er r l + 1 := rfl
theorem s_err0 {tx : List Nat} {S : OB} (hl : S.1 1 = nI tx.length) (h60 : tx.length ≤ 60) (hc : ∀ (i : Nat) (h : i < tx.length), tx[i] ≤ 126 ∧ S.2 0 i = nI tx[i]) : ∀ (d f s j : Nat), j + d = tx.length → d < f → s < 10 → lpf2 (b_X0_errorIndex_4 S) f (nI s) (nI j) = some (nI (j + er s (tx.drop j)))
  | 0, f + 1, s, j, hj, _, _ => by
    obtain rfl : j = tx.length := hj
    rw [lpf2_s]
    unfold b_X0_errorIndex_4
    rw [hl, if_pos (Int32.le_refl _), List.drop_length]
    rfl
  | d + 1, f + 1, s, j, hj, hf, hs => by
    have hlt : j < tx.length := by omega
    obtain ⟨c1, c2⟩ := hc j hlt
    have ih := fun s hs => s_err0 hl h60 hc d f s (j + 1) (by omega) (by omega) hs
    rw [lpf2_s]
    generalize lpf2 (b_X0_errorIndex_4 S) f = K at ih ⊢
    unfold b_X0_errorIndex_4
    rw [hl, if_neg (by rw [nI_leI (by omega) (by omega)]; omega), vAt_nI (show j < 60 by omega) (by decide), c2, List.drop_eq_getElem_cons hlt]
    generalize tx[j] = c at c1 ⊢
    have e1 := sa_fin ⟨s, hs⟩ ⟨c, by omega⟩
    have e2 := sa_lt ⟨s, hs⟩ ⟨c, by omega⟩
    dsimp only at e1 e2
    rw [e1, bd_some]
    unfold er
    cases e : sa s c with
    | none => rw [if_pos (show oI none = -1 from rfl)]; rfl
    | some r =>
      have hr := e2 r e
      rw [oI_some, if_neg (nI_m1 (n := r) (by omega)), nm_eq, show nI j + 1 = nI (j + 1) from nI_1 j, ih r hr, show j + 1 + er r (tx.drop (j + 1)) = j + (er r (tx.drop (j + 1)) + 1) by omega]
theorem s_cmp0 {tx : List Nat} {S : OB} (hl : S.1 1 = nI tx.length) (h60 : tx.length ≤ 60) (hc : ∀ (i : Nat) (h : i < tx.length), tx[i] ≤ 126 ∧ S.2 0 i = nI tx[i]) : ∀ (d f : Nat) (s : Option Nat) (j : Nat), j + d = tx.length → d < f → (∀ r, s = some r → r < 10) → lpf2 (b_X0_isComplete_4 S) f (oI s) (nI j) = some (bZ (match s with | none => false | some s => decide (fs s (tx.drop j) = some 1 ∨ fs s (tx.drop j) = some 3)))
  | 0, f + 1, s, j, hj, _, hs => by
    obtain rfl : j = tx.length := hj
    rw [lpf2_s]
    unfold b_X0_isComplete_4
    rw [hl, if_pos (Int32.le_refl _), List.drop_length]
    cases s with
    | none => rfl
    | some s =>
      have hs := hs s rfl
      unfold fs
      rw [oI_some]
      by_cases e1 : s = 1
      · rw [e1]; rfl
      · rw [if_neg (show ¬ nI s = 1 from fun q => e1 ((nI_eq (b := 1) (by omega) (by omega)).mp q))]
        by_cases e3 : s = 3
        · rw [e3]; rfl
        · rw [if_neg (show ¬ nI s = 3 from fun q => e3 ((nI_eq (b := 3) (by omega) (by omega)).mp q))]
          simp [e1, e3]; rfl
  | d + 1, f + 1, s, j, hj, hf, hs => by
    have hlt : j < tx.length := by omega
    obtain ⟨c1, c2⟩ := hc j hlt
    have ih := fun s hs => s_cmp0 hl h60 hc d f s (j + 1) (by omega) (by omega) hs
    rw [lpf2_s]
    generalize lpf2 (b_X0_isComplete_4 S) f = K at ih ⊢
    unfold b_X0_isComplete_4
    rw [hl, if_neg (by rw [nI_leI (by omega) (by omega)]; omega), vAt_nI (show j < 60 by omega) (by decide), c2, List.drop_eq_getElem_cons hlt]
    generalize tx[j] = c at c1 ⊢
    cases s with
    | none =>
      have e1 := sa_bad ⟨c, by omega⟩
      dsimp only at e1
      rw [oI_none, e1, bd_some, nm_eq, show nI j + 1 = nI (j + 1) from nI_1 j]
      exact ih none (fun r e => by cases e)
    | some s =>
      have hs := hs s rfl
      have e1 := sa_fin ⟨s, hs⟩ ⟨c, by omega⟩
      have e2 := sa_lt ⟨s, hs⟩ ⟨c, by omega⟩
      dsimp only at e1 e2
      rw [oI_some, e1, bd_some, nm_eq, show nI j + 1 = nI (j + 1) from nI_1 j, ih (sa s c) e2]
      show _ = some (bZ (decide (fs s (c :: tx.drop (j + 1)) = some 1 ∨ fs s (c :: tx.drop (j + 1)) = some 3)))
      rw [fs_c]
      cases e : sa s c with
      | none => simp
      | some r => rfl
