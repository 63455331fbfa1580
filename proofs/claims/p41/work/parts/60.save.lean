/-! saving -/
theorem cpy_k {f g : Nat → Int32} {n k : Nat} (h : k < n) : va_cpy f g 0 0 n k = f k := by
  unfold va_cpy
  rw [if_pos ⟨Nat.zero_le k, by omega⟩, Nat.zero_add, Nat.sub_zero]
theorem RS_copy {A : AT} {S T : OB} (h : RS A T) (hn : A.n ≤ 10) (hl : A.od.length ≤ 32) : ∃ S', f_X1_copyFrom S T = some S' ∧ RS A S' := by
  unfold f_X1_copyFrom
  simp only [nm_eq]
  obtain ⟨h1, h2, h3, h4, h5, h6, h7, h8, h9, h10, h11, h12, h13, h14⟩ := h
  rw [h3, zb_bZ]
  refine ⟨_, rfl, h1, h2, rfl, h4, h5, h6, h7, h8, fun k hk => ?_, fun k hk => ?_, fun k hk => ?_, fun i hk => ?_, fun k hk => ?_, fun k hk => ?_⟩
  · exact (cpy_k (f := T.2 0) hk).trans (h9 k hk)
  · exact (cpy_k (f := T.2 1) hk).trans (h10 k hk)
  · exact (cpy_k (f := T.2 2) hk).trans (h11 k hk)
  · exact (cpy_k (f := T.2 3) (by omega)).trans (h12 i hk)
  · exact (cpy_k (f := T.2 5) (by omega)).trans (h13 k hk)
  · exact (cpy_k (f := T.2 6) (by omega)).trans (h14 k hk)
theorem mul_nI (a b : Nat) : nI a * nI b = nI (a * b) := (Int32.ofNat_mul a b).symm
