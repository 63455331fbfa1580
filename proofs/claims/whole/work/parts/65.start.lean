/-! the beginning -/
theorem m_ini : ∀ (d f j : Nat) (M : MO), j + d = 32 → d < f → ∃ M', lpf2 b_X3_init_45 f (nI j) M = some M' ∧ M'.1 = M.1 ∧ M'.2.2 = M.2.2 ∧ (∀ i, i ≠ 1 → M'.2.1 i = M.2.1 i) ∧ ∀ k, M'.2.1 1 k = if 27 + j ≤ k ∧ k < 59 then -1 else M.2.1 1 k
  | 0, f + 1, j, M, hj, _ => by
    obtain rfl : j = 32 := hj
    rw [lpf2_s]
    unfold b_X3_init_45
    rw [if_pos (by decide)]
    exact ⟨M, rfl, rfl, rfl, fun _ _ => rfl, fun k => by rw [if_neg (by omega)]⟩
  | d + 1, f + 1, j, M, hj, hf => by
    have ih := m_ini d f (j + 1)
    rw [lpf2_s]
    generalize lpf2 b_X3_init_45 f = K at ih ⊢
    unfold b_X3_init_45
    simp only [nm_eq]
    rw [if_neg (by rw [show (32 : Int32) = nI 32 from rfl, nI_leI (by omega) (by omega)]; omega), show (27 : Int32) + nI j = nI (27 + j) from nI_add 27 j, gd_nI (by omega) (by decide), nI_clamp (by omega), show nI j + 1 = nI (j + 1) from nI_1 j]
    obtain ⟨M', k1, k2, k3, k4, k5⟩ := ih (M.1, up2 M.2.1 1 (upd (M.2.1 1) (27 + j) (-1)), M.2.2) (by omega) (by omega)
    refine ⟨M', k1, k2, k3, fun i hi => (k4 i hi).trans (up2_n _ _ hi), fun k => ?_⟩
    rw [k5 k]
    show (if 27 + (j + 1) ≤ k ∧ k < 59 then -1 else if k = 27 + j then -1 else M.2.1 1 k) = _
    by_cases e : 27 + (j + 1) ≤ k ∧ k < 59
    · rw [if_pos e, if_pos (by omega)]
    · rw [if_neg e]
      by_cases e2 : k = 27 + j
      · rw [if_pos e2, if_pos (by omega)]
      · rw [if_neg e2, if_neg (by omega)]
def A0 : AT := (0, false, 0, 0, 0, none, fun _ => false, fun _ => 0, fun _ => none, fun _ => 0, fun _ => 0, [])
theorem INV_0 : INV A0 := by
  refine ⟨Nat.zero_le _, fun e => Bool.noConfusion (show false = true from e), by decide, fun k hk r e => ?_, List.nodup_nil, fun k => ?_, fun r p e => ?_⟩
  · have e : (none : Option Nat) = some r := e
    cases e
  · show k ∈ ([] : List Nat) ↔ k < 32 ∧ (none : Option Nat) ≠ none
    simp
  · have e : (none : Option (Nat × Nat)) = some (r, p) := e
    cases e
theorem st_start : ∃ M : MO, f_X3_init iM = some M ∧ ∀ S : BO, IB S → REL 0 S M := by
  obtain ⟨M', k1, k2, k3, k4, k5⟩ := m_ini 32 FU 0 (iM.1, up2 (up2 (up2 iM.2.1 1 (upd (iM.2.1 1) 1 (-1))) 1 (upd (upd (iM.2.1 1) 1 (-1)) 5 (-1))) 1 (upd (upd (upd (iM.2.1 1) 1 (-1)) 5 (-1)) 6 (-1)), iM.2.2) rfl (by decide)
  have hg : ∀ k, M'.2.1 1 k = if 27 ≤ k ∧ k < 59 then -1 else if k = 6 then -1 else if k = 5 then -1 else if k = 1 then -1 else 0 := fun k => k5 k
  refine ⟨M', ?_, fun S hS => ?_⟩
  · unfold f_X3_init
    rw [show (1 : Int32) = nI 1 from rfl, show (5 : Int32) = nI 5 from rfl, show (6 : Int32) = nI 6 from rfl, gd_nI (by omega) (by decide)]
    simp only [nm_eq]
    rw [gd_nI (by omega) (by decide), gd_nI (by omega) (by decide)]
    exact k1
  · obtain ⟨s1, s2, ⟨f, s3, s4⟩, s5⟩ := hS
    refine ⟨A0, [], 0, [], INV_0, ?_, ?_, Nat.zero_le _, ⟨by simp, by decide, s1, s2, by rw [k2]; rfl, fun j hj => absurd hj (Nat.not_lt_zero j)⟩, fun B hB => by simp at hB, ⟨by simp, by rw [s5]; rfl, by rw [k2]; rfl, fun i hi => absurd hi (Nat.not_lt_zero i)⟩⟩
    · rw [s3]
      exact ⟨rfl, rfl, rfl, rfl, rfl, rfl, rfl, rfl, fun k hk => s4 k hk, fun _ _ => rfl, fun _ _ => rfl, fun i hi => absurd hi (Nat.not_lt_zero i), fun k hk => absurd hk (Nat.not_lt_zero k), fun k hk => absurd hk (Nat.not_lt_zero k)⟩
    · refine ⟨hg 0, hg 1, hg 2, hg 3, hg 4, hg 5, hg 6, fun k hk => absurd hk (Nat.not_lt_zero k), fun k hk => absurd hk (Nat.not_lt_zero k), fun k hk => ?_, fun k hk => ?_, fun k hk => ?_, fun _ => 0, fun k hk q => absurd rfl q, List.Pairwise.nil⟩
      · rw [hg, if_pos (by omega)]; rfl
      · rw [hg, if_neg (by omega), if_neg (by omega), if_neg (by omega), if_neg (by omega)]; rfl
      · rw [hg, if_neg (by omega), if_neg (by omega), if_neg (by omega), if_neg (by omega)]; rfl
