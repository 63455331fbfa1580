theorem law_end {i L : Nat} (h : L < i + 4) (h1 : i ≤ 2048) (h2 : L ≤ 2048) : nI L - 4 < nI i := by
  rw [Int32.lt_iff_toInt_lt, show (4 : Int32) = nI 4 from rfl, pk_sub_toInt (by omega) (by omega), nI_toInt (by omega)]
  omega
set_option maxHeartbeats 8000000 in
set_option maxRecDepth 100000 in
/-- the law's loop: i ints are read, t calls are done -/
theorem law_loop {Γ : Ctx} (hst : Γ.l.stackTraces = false) (B : CX Γ cL_law 9 RL room_1) (Z : CZ Γ) {b0 L : Nat} {xs : Nat → Int32} (C : SCR Γ b0 L xs) (hL : L ≤ 2048) {a : Nat → Nat → Nat} {b : Nat} {am : Nat → Nat}
    (fin : ∀ (k n : Nat) (lv : List (Nat × Value)) (ws : va_W), k ≤ 600000 → n ≤ 7000000 → X Γ 9 k n 1734 lv [.int 1] ws) :
    ∀ (f t i : Nat) (S : BO) (ob : Nat → Int64) (M : MO), i = 4 * t → i ≤ L → L < 4 * f + i + 4 → REL t S M → X Γ 9 (60 + 4 * t) (3000 + 24 * t) 23 [(0, .ref b0), (1, .ref (a 0 0)), (2, .ref (am 0)), (3, .ref b), (4, .int (nI i))] [] (wLw Γ.cs a b am S ob M) := by
  intro f
  induction f with
  | zero =>
    intro t i S ob M hi hiL hf hR
    refine x_iload B (pc' := 25) 4 dL_law_23 rfl rfl ?_
    refine x_aload_n B (pc' := 26) 0 dL_law_25 rfl rfl rfl ?_
    refine x_slen B C (pc' := 27) dL_law_26 rfl ?_
    refine x_iconst B (pc' := 28) 4 dL_law_27 (by decide) rfl ?_
    refine x_isub B (pc' := 29) dL_law_28 rfl ?_
    refine x_icmp_gt B 1733 32 dL_law_29 (by decide) rfl (fun _ => ?_) (fun hc => absurd (law_end (i := i) (L := L) (by omega) (by omega) (by omega)) hc)
    refine x_iconst B (pc' := 1734) 1 dL_law_1733 (by decide) rfl ?_
    exact fin _ _ _ _ (by omega) (by omega)
  | succ f ih =>
    intro t i S ob M hi hiL hf hR
    rcases Nat.lt_or_ge L (i + 4) with hlt | hge
    · refine x_iload B (pc' := 25) 4 dL_law_23 rfl rfl ?_
      refine x_aload_n B (pc' := 26) 0 dL_law_25 rfl rfl rfl ?_
      refine x_slen B C (pc' := 27) dL_law_26 rfl ?_
      refine x_iconst B (pc' := 28) 4 dL_law_27 (by decide) rfl ?_
      refine x_isub B (pc' := 29) dL_law_28 rfl ?_
      refine x_icmp_gt B 1733 32 dL_law_29 (by decide) rfl (fun _ => ?_) (fun hc => absurd (law_end (i := i) (L := L) (by omega) (by omega) (by omega)) hc)
      refine x_iconst B (pc' := 1734) 1 dL_law_1733 (by decide) rfl ?_
      exact fin _ _ _ _ (by omega) (by omega)
    · have ht : t < 512 := by omega
      have done : ∀ (S' : BO) (ob' : Nat → Int64) (M' : MO), REL (t + 1) S' M' → X Γ 9 (60 + 4 * t + 4) (3000 + 24 * t + 24) 1727 [(0, .ref b0), (1, .ref (a 0 0)), (2, .ref (am 0)), (3, .ref b), (4, .int (nI i))] [] (wLw Γ.cs a b am S' ob' M') := by
        intro S' ob' M' hR'
        refine x_iinc B (pc' := 1730) (nI (i + 4)) 4 [1, 2, 3, 4, 0] [(0, .ref b0), (1, .ref (a 0 0)), (2, .ref (am 0)), (3, .ref b), (4, .int (nI (i + 4)))] dL_law_1727 rfl (by rw [← nI_add]; rfl) (by decide) rfl rfl ?_
        refine x_goto B (pc' := 23) dL_law_1730 (by decide) ?_
        have h9 := ih (t + 1) (i + 4) S' ob' M' (by omega) (by omega) (by omega) hR'
        rw [show 60 + 4 * (t + 1) = 60 + 4 * t + 4 by omega, show 3000 + 24 * (t + 1) = 3000 + 24 * t + 24 by omega] at h9
        exact h9
      refine x_iload B (pc' := 25) 4 dL_law_23 rfl rfl ?_
      refine x_aload_n B (pc' := 26) 0 dL_law_25 rfl rfl rfl ?_
      refine x_slen B C (pc' := 27) dL_law_26 rfl ?_
      refine x_iconst B (pc' := 28) 4 dL_law_27 (by decide) rfl ?_
      refine x_isub B (pc' := 29) dL_law_28 rfl ?_
      refine x_icmp_gt B 1733 32 dL_law_29 (by decide) rfl (fun hc => absurd hc ?_) (fun _ => ?_)
      · rw [show nI L - 4 = nI (L - 4) from pk_sub (b := 4) (by omega)]
        exact nI_nlt (by omega) (by omega)
      refine x_aload_n B (pc' := 33) 0 dL_law_32 rfl rfl rfl ?_
      refine x_iload B (pc' := 35) 4 dL_law_33 rfl rfl ?_
      refine x_sld B C i rfl (by omega) hL dL_law_35 (pc' := 36) rfl ?_
      refine x_bipush B (pc' := 38) 63 dL_law_36 (by decide) rfl ?_
      refine x_iand B (pc' := 39) dL_law_38 rfl ?_
      by_cases c0 : xs i &&& 63 = 0
      · refine x_tableIn B (off := 165) (pc' := 204) dL_law_39 (by rw [c0]; decide) (by rw [c0]; decide) (by rw [c0]; rfl) (by decide) ?_
        obtain ⟨r9, rm, S9, ob9, M9, hf, hm, hth, hv, hR9⟩ := st_0 hR ht ob
        exact lc_0 hst B Z C hL (by omega) (by omega) (by omega) hf hm hth hv (done S9 ob9 M9 hR9)
      by_cases c1 : xs i &&& 63 = 1
      · refine x_tableIn B (off := 209) (pc' := 248) dL_law_39 (by rw [c1]; decide) (by rw [c1]; decide) (by rw [c1]; rfl) (by decide) ?_
        obtain ⟨r9, rm, S9, ob9, M9, hf, hm, hth, hv, hR9⟩ := st_1 hR ht ob
        exact lc_1 hst B Z C hL (by omega) (by omega) (by omega) hf hm hth hv (done S9 ob9 M9 hR9)
      by_cases c2 : xs i &&& 63 = 2
      · refine x_tableIn B (off := 253) (pc' := 292) dL_law_39 (by rw [c2]; decide) (by rw [c2]; decide) (by rw [c2]; rfl) (by decide) ?_
        obtain ⟨r9, rm, S9, ob9, M9, hf, hm, hth, hv, hR9⟩ := st_2 hR ht (xs (i + 1)) ob
        exact lc_2 hst B Z C hL (by omega) (by omega) (by omega) hf hm hth hv (done S9 ob9 M9 hR9)
      by_cases c3 : xs i &&& 63 = 3
      · refine x_tableIn B (off := 309) (pc' := 348) dL_law_39 (by rw [c3]; decide) (by rw [c3]; decide) (by rw [c3]; rfl) (by decide) ?_
        obtain ⟨r9, rm, S9, ob9, M9, hf, hm, hth, hv, hR9⟩ := st_3 hR ht (xs (i + 1)) (xs (i + 2)) ob
        exact lc_3 hst B Z C hL (by omega) (by omega) (by omega) hf hm hth hv (done S9 ob9 M9 hR9)
      by_cases c4 : xs i &&& 63 = 4
      · refine x_tableIn B (off := 400) (pc' := 439) dL_law_39 (by rw [c4]; decide) (by rw [c4]; decide) (by rw [c4]; rfl) (by decide) ?_
        obtain ⟨r9, rm, S9, ob9, M9, hf, hm, hth, hv, hR9⟩ := st_4 hR ht (xs (i + 1)) ob
        exact lc_4 hst B Z C hL (by omega) (by omega) (by omega) hf hm hth hv (done S9 ob9 M9 hR9)
      by_cases c5 : xs i &&& 63 = 5
      · refine x_tableIn B (off := 456) (pc' := 495) dL_law_39 (by rw [c5]; decide) (by rw [c5]; decide) (by rw [c5]; rfl) (by decide) ?_
        obtain ⟨r9, rm, S9, ob9, M9, hf, hm, hth, hv, hR9⟩ := st_5 hR ht (xs (i + 1)) ob
        exact lc_5 hst B Z C hL (by omega) (by omega) (by omega) hf hm hth hv (done S9 ob9 M9 hR9)
      by_cases c6 : xs i &&& 63 = 6
      · refine x_tableIn B (off := 512) (pc' := 551) dL_law_39 (by rw [c6]; decide) (by rw [c6]; decide) (by rw [c6]; rfl) (by decide) ?_
        obtain ⟨r9, M9, hf, hm, hR9⟩ := st_6 hR ht
        exact lc_6 hst B Z C hL (by omega) (by omega) (by omega) hf hm (done S ob M9 hR9)
      by_cases c7 : xs i &&& 63 = 7
      · refine x_tableIn B (off := 525) (pc' := 564) dL_law_39 (by rw [c7]; decide) (by rw [c7]; decide) (by rw [c7]; rfl) (by decide) ?_
        obtain ⟨r9, M9, hf, hm, hR9⟩ := st_7 hR ht
        exact lc_7 hst B Z C hL (by omega) (by omega) (by omega) hf hm (done S ob M9 hR9)
      by_cases c8 : xs i &&& 63 = 8
      · refine x_tableIn B (off := 538) (pc' := 577) dL_law_39 (by rw [c8]; decide) (by rw [c8]; decide) (by rw [c8]; rfl) (by decide) ?_
        obtain ⟨r9, M9, hf, hm, hR9⟩ := st_8 hR ht
        exact lc_8 hst B Z C hL (by omega) (by omega) (by omega) hf hm (done S ob M9 hR9)
      by_cases c9 : xs i &&& 63 = 9
      · refine x_tableIn B (off := 551) (pc' := 590) dL_law_39 (by rw [c9]; decide) (by rw [c9]; decide) (by rw [c9]; rfl) (by decide) ?_
        obtain ⟨r9, rm, S9, ob9, M9, hf, hm, hth, hv, hR9⟩ := st_9 hR ht (xs (i + 1)) ob
        exact lc_9 hst B Z C hL (by omega) (by omega) (by omega) hf hm hth hv (done S9 ob9 M9 hR9)
      by_cases c10 : xs i &&& 63 = 10
      · refine x_tableIn B (off := 607) (pc' := 646) dL_law_39 (by rw [c10]; decide) (by rw [c10]; decide) (by rw [c10]; rfl) (by decide) ?_
        obtain ⟨r9, rm, S9, ob9, M9, hf, hm, hth, hv, hR9⟩ := st_10 hR ht (xs (i + 1)) (xs (i + 2)) ob
        exact lc_10 hst B Z C hL (by omega) (by omega) (by omega) hf hm hth hv (done S9 ob9 M9 hR9)
      by_cases c11 : xs i &&& 63 = 11
      · refine x_tableIn B (off := 675) (pc' := 714) dL_law_39 (by rw [c11]; decide) (by rw [c11]; decide) (by rw [c11]; rfl) (by decide) ?_
        obtain ⟨r9, rm, S9, ob9, M9, hf, hm, hth, hv, hR9⟩ := st_11 hR ht (xs (i + 1)) (xs (i + 2)) ob
        exact lc_11 hst B Z C hL (by omega) (by omega) (by omega) hf hm hth hv (done S9 ob9 M9 hR9)
      by_cases c12 : xs i &&& 63 = 12
      · refine x_tableIn B (off := 743) (pc' := 782) dL_law_39 (by rw [c12]; decide) (by rw [c12]; decide) (by rw [c12]; rfl) (by decide) ?_
        obtain ⟨r9, rm, S9, ob9, M9, hf, hm, hth, hv, hR9⟩ := st_12 hR ht (xs (i + 1)) ob
        exact lc_12 hst B Z C hL (by omega) (by omega) (by omega) hf hm hth hv (done S9 ob9 M9 hR9)
      by_cases c13 : xs i &&& 63 = 13
      · refine x_tableIn B (off := 806) (pc' := 845) dL_law_39 (by rw [c13]; decide) (by rw [c13]; decide) (by rw [c13]; rfl) (by decide) ?_
        obtain ⟨r9, rm, S9, ob9, M9, hf, hm, hth, hv, hR9⟩ := st_13 hR ht (xs (i + 1)) ob
        exact lc_13 hst B Z C hL (by omega) (by omega) (by omega) hf hm hth hv (done S9 ob9 M9 hR9)
      by_cases c14 : xs i &&& 63 = 14
      · refine x_tableIn B (off := 862) (pc' := 901) dL_law_39 (by rw [c14]; decide) (by rw [c14]; decide) (by rw [c14]; rfl) (by decide) ?_
        obtain ⟨r9, rm, S9, ob9, M9, hf, hm, hth, hv, hR9⟩ := st_14 hR ht (xs (i + 1)) ob
        exact lc_14 hst B Z C hL (by omega) (by omega) (by omega) hf hm hth hv (done S9 ob9 M9 hR9)
      by_cases c15 : xs i &&& 63 = 15
      · refine x_tableIn B (off := 918) (pc' := 957) dL_law_39 (by rw [c15]; decide) (by rw [c15]; decide) (by rw [c15]; rfl) (by decide) ?_
        obtain ⟨r9, M9, hf, hm, hR9⟩ := st_15 hR ht
        exact lc_15 hst B Z C hL (by omega) (by omega) (by omega) hf hm (done S ob M9 hR9)
      by_cases c16 : xs i &&& 63 = 16
      · refine x_tableIn B (off := 931) (pc' := 970) dL_law_39 (by rw [c16]; decide) (by rw [c16]; decide) (by rw [c16]; rfl) (by decide) ?_
        obtain ⟨r9, M9, hf, hm, hR9⟩ := st_16 hR ht
        exact lc_16 hst B Z C hL (by omega) (by omega) (by omega) hf hm (done S ob M9 hR9)
      by_cases c17 : xs i &&& 63 = 17
      · refine x_tableIn B (off := 944) (pc' := 983) dL_law_39 (by rw [c17]; decide) (by rw [c17]; decide) (by rw [c17]; rfl) (by decide) ?_
        obtain ⟨r9, M9, hf, hm, hR9⟩ := st_17 hR ht
        exact lc_17 hst B Z C hL (by omega) (by omega) (by omega) hf hm (done S ob M9 hR9)
      by_cases c18 : xs i &&& 63 = 18
      · refine x_tableIn B (off := 957) (pc' := 996) dL_law_39 (by rw [c18]; decide) (by rw [c18]; decide) (by rw [c18]; rfl) (by decide) ?_
        obtain ⟨r9, M9, hf, hm, hd, hR9⟩ := st_18 hR ht
        exact lc_18 hst B Z C hL (by omega) (by omega) (by omega) hf hm hd (done S ob M9 hR9)
      by_cases c19 : xs i &&& 63 = 19
      · refine x_tableIn B (off := 998) (pc' := 1037) dL_law_39 (by rw [c19]; decide) (by rw [c19]; decide) (by rw [c19]; rfl) (by decide) ?_
        obtain ⟨r9, rm, S9, ob9, M9, hf, hm, hth, hv, hR9⟩ := st_19 hR ht (xs (i + 1)) ob
        exact lc_19 hst B Z C hL (by omega) (by omega) (by omega) hf hm hth hv (done S9 ob9 M9 hR9)
      by_cases c20 : xs i &&& 63 = 20
      · refine x_tableIn B (off := 1054) (pc' := 1093) dL_law_39 (by rw [c20]; decide) (by rw [c20]; decide) (by rw [c20]; rfl) (by decide) ?_
        obtain ⟨r9, rm, S9, ob9, M9, hf, hm, hth, hv, hR9⟩ := st_20 hR ht ob
        exact lc_20 hst B Z C hL (by omega) (by omega) (by omega) hf hm hth hv (done S9 ob9 M9 hR9)
      by_cases c21 : xs i &&& 63 = 21
      · refine x_tableIn B (off := 1098) (pc' := 1137) dL_law_39 (by rw [c21]; decide) (by rw [c21]; decide) (by rw [c21]; rfl) (by decide) ?_
        obtain ⟨r9, rm, S9, ob9, M9, hf, hm, hth, hv, hR9⟩ := st_21 hR ht (xs (i + 1)) ob
        exact lc_21 hst B Z C hL (by omega) (by omega) (by omega) hf hm hth hv (done S9 ob9 M9 hR9)
      by_cases c22 : xs i &&& 63 = 22
      · refine x_tableIn B (off := 1154) (pc' := 1193) dL_law_39 (by rw [c22]; decide) (by rw [c22]; decide) (by rw [c22]; rfl) (by decide) ?_
        obtain ⟨r9, M9, hf, hm, hR9⟩ := st_22 hR ht
        exact lc_22 hst B Z C hL (by omega) (by omega) (by omega) hf hm (done S ob M9 hR9)
      by_cases c23 : xs i &&& 63 = 23
      · refine x_tableIn B (off := 1167) (pc' := 1206) dL_law_39 (by rw [c23]; decide) (by rw [c23]; decide) (by rw [c23]; rfl) (by decide) ?_
        obtain ⟨r9, M9, hf, hm, hR9⟩ := st_23 hR ht
        exact lc_23 hst B Z C hL (by omega) (by omega) (by omega) hf hm (done S ob M9 hR9)
      by_cases c24 : xs i &&& 63 = 24
      · refine x_tableIn B (off := 1180) (pc' := 1219) dL_law_39 (by rw [c24]; decide) (by rw [c24]; decide) (by rw [c24]; rfl) (by decide) ?_
        obtain ⟨r9, rm, S9, ob9, M9, hf, hm, hth, hv, hR9⟩ := st_24 hR ht (xs (i + 1)) (xs (i + 2)) (xs (i + 3)) ob
        exact lc_24 hst B Z C hL (by omega) (by omega) (by omega) hf hm hth hv (done S9 ob9 M9 hR9)
      by_cases c25 : xs i &&& 63 = 25
      · refine x_tableIn B (off := 1260) (pc' := 1299) dL_law_39 (by rw [c25]; decide) (by rw [c25]; decide) (by rw [c25]; rfl) (by decide) ?_
        obtain ⟨r9, rm, S9, ob9, M9, hf, hm, hth, hv, hR9⟩ := st_25 hR ht (xs (i + 1)) (xs (i + 2)) ob
        exact lc_25 hst B Z C hL (by omega) (by omega) (by omega) hf hm hth hv (done S9 ob9 M9 hR9)
      by_cases c26 : xs i &&& 63 = 26
      · refine x_tableIn B (off := 1328) (pc' := 1367) dL_law_39 (by rw [c26]; decide) (by rw [c26]; decide) (by rw [c26]; rfl) (by decide) ?_
        obtain ⟨r9, M9, hf, hm, hR9⟩ := st_26 hR ht
        exact lc_26 hst B Z C hL (by omega) (by omega) (by omega) hf hm (done S ob M9 hR9)
      by_cases c27 : xs i &&& 63 = 27
      · refine x_tableIn B (off := 1341) (pc' := 1380) dL_law_39 (by rw [c27]; decide) (by rw [c27]; decide) (by rw [c27]; rfl) (by decide) ?_
        obtain ⟨r9, M9, hf, hm, hR9⟩ := st_27 hR ht
        exact lc_27 hst B Z C hL (by omega) (by omega) (by omega) hf hm (done S ob M9 hR9)
      by_cases c28 : xs i &&& 63 = 28
      · refine x_tableIn B (off := 1354) (pc' := 1393) dL_law_39 (by rw [c28]; decide) (by rw [c28]; decide) (by rw [c28]; rfl) (by decide) ?_
        obtain ⟨r9, M9, hf, hm, hR9⟩ := st_28 hR ht
        exact lc_28 hst B Z C hL (by omega) (by omega) (by omega) hf hm (done S ob M9 hR9)
      by_cases c29 : xs i &&& 63 = 29
      · refine x_tableIn B (off := 1367) (pc' := 1406) dL_law_39 (by rw [c29]; decide) (by rw [c29]; decide) (by rw [c29]; rfl) (by decide) ?_
        obtain ⟨r9, rm, S9, ob9, M9, hf, hm, hth, hv, hR9⟩ := st_29 hR ht (xs (i + 1)) (xs (i + 2)) ob
        exact lc_29 hst B Z C hL (by omega) (by omega) (by omega) hf hm hth hv (done S9 ob9 M9 hR9)
      by_cases c30 : xs i &&& 63 = 30
      · refine x_tableIn B (off := 1435) (pc' := 1474) dL_law_39 (by rw [c30]; decide) (by rw [c30]; decide) (by rw [c30]; rfl) (by decide) ?_
        obtain ⟨r9, rm, S9, ob9, M9, hf, hm, hth, hv, hR9⟩ := st_30 hR ht (xs (i + 1)) ob
        exact lc_30 hst B Z C hL (by omega) (by omega) (by omega) hf hm hth hv (done S9 ob9 M9 hR9)
      by_cases c31 : xs i &&& 63 = 31
      · refine x_tableIn B (off := 1491) (pc' := 1530) dL_law_39 (by rw [c31]; decide) (by rw [c31]; decide) (by rw [c31]; rfl) (by decide) ?_
        obtain ⟨r9, rm, S9, ob9, M9, hf, hm, hth, hv, hR9⟩ := st_31 hR ht (xs (i + 1)) ob
        exact lc_31 hst B Z C hL (by omega) (by omega) (by omega) hf hm hth hv (done S9 ob9 M9 hR9)
      by_cases c32 : xs i &&& 63 = 32
      · refine x_tableIn B (off := 1547) (pc' := 1586) dL_law_39 (by rw [c32]; decide) (by rw [c32]; decide) (by rw [c32]; rfl) (by decide) ?_
        obtain ⟨r9, S9, M9, hf, hm, hR9⟩ := st_32 hR ht
        exact lc_32 hst B Z C hL (by omega) (by omega) (by omega) hf hm (done S9 ob M9 hR9)
      by_cases c33 : xs i &&& 63 = 33
      · refine x_tableIn B (off := 1560) (pc' := 1599) dL_law_39 (by rw [c33]; decide) (by rw [c33]; decide) (by rw [c33]; rfl) (by decide) ?_
        obtain ⟨r9, M9, hf, hm, hR9⟩ := st_33 hR ht
        exact lc_33 hst B Z C hL (by omega) (by omega) (by omega) hf hm (done S ob M9 hR9)
      by_cases c34 : xs i &&& 63 = 34
      · refine x_tableIn B (off := 1573) (pc' := 1612) dL_law_39 (by rw [c34]; decide) (by rw [c34]; decide) (by rw [c34]; rfl) (by decide) ?_
        obtain ⟨r9, rm, S9, ob9, M9, hf, hm, hth, hv, hR9⟩ := st_34 hR ht ob
        exact lc_34 hst B Z C hL (by omega) (by omega) (by omega) hf hm hth hv (done S9 ob9 M9 hR9)
      by_cases c35 : xs i &&& 63 = 35
      · refine x_tableIn B (off := 1617) (pc' := 1656) dL_law_39 (by rw [c35]; decide) (by rw [c35]; decide) (by rw [c35]; rfl) (by decide) ?_
        obtain ⟨r9, rm, S9, ob9, M9, hf, hm, hth, hv, hR9⟩ := st_35 hR ht ob
        exact lc_35 hst B Z C hL (by omega) (by omega) (by omega) hf hm hth hv (done S9 ob9 M9 hR9)
      by_cases c36 : xs i &&& 63 = 36
      · refine x_tableIn B (off := 1661) (pc' := 1700) dL_law_39 (by rw [c36]; decide) (by rw [c36]; decide) (by rw [c36]; rfl) (by decide) ?_
        obtain ⟨r9, M9, hf, hm, hR9⟩ := st_36 hR ht
        exact lc_36 hst B Z C hL (by omega) (by omega) (by omega) hf hm (done S ob M9 hR9)
      by_cases c37 : xs i &&& 63 = 37
      · refine x_tableIn B (off := 1674) (pc' := 1713) dL_law_39 (by rw [c37]; decide) (by rw [c37]; decide) (by rw [c37]; rfl) (by decide) ?_
        obtain ⟨r9, M9, hf, hm, hR9⟩ := st_37 hR ht
        exact lc_37 hst B Z C hL (by omega) (by omega) (by omega) hf hm (done S ob M9 hR9)
      refine x_tableOut B (pc' := 1727) dL_law_39 (by have n0 := lv_neT c0 (a := 0) (by decide); have n1 := lv_neT c1 (a := 1) (by decide); have n2 := lv_neT c2 (a := 2) (by decide); have n3 := lv_neT c3 (a := 3) (by decide); have n4 := lv_neT c4 (a := 4) (by decide); have n5 := lv_neT c5 (a := 5) (by decide); have n6 := lv_neT c6 (a := 6) (by decide); have n7 := lv_neT c7 (a := 7) (by decide); have n8 := lv_neT c8 (a := 8) (by decide); have n9 := lv_neT c9 (a := 9) (by decide); have n10 := lv_neT c10 (a := 10) (by decide); have n11 := lv_neT c11 (a := 11) (by decide); have n12 := lv_neT c12 (a := 12) (by decide); have n13 := lv_neT c13 (a := 13) (by decide); have n14 := lv_neT c14 (a := 14) (by decide); have n15 := lv_neT c15 (a := 15) (by decide); have n16 := lv_neT c16 (a := 16) (by decide); have n17 := lv_neT c17 (a := 17) (by decide); have n18 := lv_neT c18 (a := 18) (by decide); have n19 := lv_neT c19 (a := 19) (by decide); have n20 := lv_neT c20 (a := 20) (by decide); have n21 := lv_neT c21 (a := 21) (by decide); have n22 := lv_neT c22 (a := 22) (by decide); have n23 := lv_neT c23 (a := 23) (by decide); have n24 := lv_neT c24 (a := 24) (by decide); have n25 := lv_neT c25 (a := 25) (by decide); have n26 := lv_neT c26 (a := 26) (by decide); have n27 := lv_neT c27 (a := 27) (by decide); have n28 := lv_neT c28 (a := 28) (by decide); have n29 := lv_neT c29 (a := 29) (by decide); have n30 := lv_neT c30 (a := 30) (by decide); have n31 := lv_neT c31 (a := 31) (by decide); have n32 := lv_neT c32 (a := 32) (by decide); have n33 := lv_neT c33 (a := 33) (by decide); have n34 := lv_neT c34 (a := 34) (by decide); have n35 := lv_neT c35 (a := 35) (by decide); have n36 := lv_neT c36 (a := 36) (by decide); have n37 := lv_neT c37 (a := 37) (by decide); omega) (by decide) ?_
      exact x_widen (by omega) (by omega) (done S ob M (st_idle hR))
