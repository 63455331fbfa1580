set_option maxRecDepth 100000 in
theorem gv_RL_132 : GoodIn GW (va_wsS RL 132 yL_holds (.code yL_holds cL_holds 12 (some .boolean) :: GW)) := gw_app [Cond.methodLink RL 132 yL_holds, Cond.static yL_holds, Cond.initialized RL, Cond.code yL_holds cL_holds 12 (some .boolean)] [45, 46, 47, 48] rfl (by decide +kernel)
set_option maxRecDepth 100000 in
theorem gv_RL_136 : GoodIn GW (va_wsS RL 136 yL_cell (.code yL_cell cL_cell 2 (some .int) :: GW)) := gw_app [Cond.methodLink RL 136 yL_cell, Cond.static yL_cell, Cond.initialized RL, Cond.code yL_cell cL_cell 2 (some .int)] [180, 181, 47, 182] (by decide +kernel) (by decide +kernel)
set_option maxRecDepth 100000 in
theorem gv_RL_140 : GoodIn GW (wsV RL 140 RX2 yX2_digest (.code yX2_digest cX2_digest 4 (some .long) :: GW)) := gw_app [Cond.methodLink RL 140 yX2_digest, Cond.instanceMethod yX2_digest, Cond.selects RX2 yX2_digest yX2_digest, Cond.initialized RX2, Cond.code yX2_digest cX2_digest 4 (some .long)] [184, 185, 186, 2, 187] (by decide +kernel) (by decide +kernel)
set_option maxRecDepth 100000 in
theorem gv_RL_144 : GoodIn GW (wsV RL 144 RX2 yX2_savedStates (.code yX2_savedStates cX2_savedStates 1 (some .int) :: GW)) := gw_app [Cond.methodLink RL 144 yX2_savedStates, Cond.instanceMethod yX2_savedStates, Cond.selects RX2 yX2_savedStates yX2_savedStates, Cond.initialized RX2, Cond.code yX2_savedStates cX2_savedStates 1 (some .int)] [221, 222, 223, 2, 224] (by decide +kernel) (by decide +kernel)
set_option maxRecDepth 100000 in
theorem gv_RL_147 : GoodIn GW (va_wsS RL 147 yL_acts (.code yL_acts cL_acts 20 (some .boolean) :: GW)) := gw_app [Cond.methodLink RL 147 yL_acts, Cond.static yL_acts, Cond.initialized RL, Cond.code yL_acts cL_acts 20 (some .boolean)] [225, 226, 47, 227] rfl (by decide +kernel)
set_option maxRecDepth 100000 in
theorem gv_RL_151 : GoodIn GW (wsV RL 151 RX2 yX2_undo (.code yX2_undo cX2_undo 2 (some .int) :: GW)) := gw_app [Cond.methodLink RL 151 yX2_undo, Cond.instanceMethod yX2_undo, Cond.selects RX2 yX2_undo yX2_undo, Cond.initialized RX2, Cond.code yX2_undo cX2_undo 2 (some .int)] [404, 405, 406, 2, 407] (by decide +kernel) (by decide +kernel)
set_option maxRecDepth 100000 in
theorem gv_RL_154 : GoodIn GW (va_wsS RL 154 yL_isAhead (.code yL_isAhead cL_isAhead 8 (some .boolean) :: GW)) := gw_app [Cond.methodLink RL 154 yL_isAhead, Cond.static yL_isAhead, Cond.initialized RL, Cond.code yL_isAhead cL_isAhead 8 (some .boolean)] [408, 409, 47, 410] (by decide +kernel) (by decide +kernel)
set_option maxHeartbeats 8000000 in
set_option maxRecDepth 100000 in
theorem law_loop {Γ : Ctx} {b L : Nat} {xs : Nat → Int32} {a : Nat → Nat → Nat} (B : CX Γ cL_law 12 RL room_1) (C : SCR Γ b L xs) (hL : L ≤ 260) (fin : ∀ (k n : Nat) (lv : List (Nat × Value)) (ws : va_W), k ≤ 600000 → n ≤ 7000000 → X Γ 12 k n 237 lv [.int 1] ws) : ∀ (d t : Nat) (A : AT) (S : BO) (c ns k n : Nat), t + d = 72 → JN A → A.sp ≤ t → RS A S.2.1 → SVs c ns S → k + 4 * d ≤ 400 → n + 40 * d ≤ 6000 → X Γ 12 k n 32 [(0, .ref b), (1, .ref (a 0 0)), (2, .int 1), (3, .int (nI t))] [] (wB Γ.cs a S)
  | 0, t, A, S, c, ns, k, n, ht, _, _, _, _, hk, hn => by
    refine x_iload_n B (pc' := 33) 3 dL_law_32 rfl rfl rfl ?_
    refine x_bipush B (pc' := 35) 72 dL_law_33 (by decide) rfl ?_
    refine x_icmp_ge B 236 38 dL_law_35 (by decide) rfl (fun _ => ?_) (fun hc => absurd (show (72 : Int32) ≤ nI t by rw [show (72 : Int32) = nI 72 from rfl, nI_leI (by omega) (by omega)]; omega) hc)
    refine x_iload_n B (pc' := 237) 2 dL_law_236 rfl rfl rfl ?_
    exact fin _ _ _ _ (by omega) (by omega)
  | d + 1, t, A, S, c, ns, k, n, ht, hj, hsp, h, hv, hk, hn => by
    have hi := hj.1
    have ih := law_loop (a := a) B C hL fin d (t + 1)
    obtain ⟨x, hx⟩ : ∃ x, x = cel L xs (2 * t) := ⟨_, rfl⟩
    obtain ⟨y, hy⟩ : ∃ y, y = cel L xs (2 * t + 1) := ⟨_, rfl⟩
    obtain ⟨A1, hj1, hsp1, deed⟩ := L_acts hj x y
    have hi1 := hj1.1
    obtain ⟨S1, da, dS, dv, dz⟩ := deed S c ns h hv
    have hv1 := dv
    generalize hc1 : min 6 (c + 1) = c1 at dv hv1
    generalize hn1 : (ns + 1) % 6 = ns1 at dv hv1
    have j188 : ∀ (S2 : BO) (c2 ns2 k n : Nat), RS A1 S2.2.1 → SVs c2 ns2 S2 → k + 4 * d ≤ 400 → n + 40 * d ≤ 6000 → X Γ 12 k n 188 [(0, .ref b), (1, .ref (a 0 0)), (2, .int 1), (3, .int (nI t)), (5, .int y)] [] (wB Γ.cs a S2) := by
      intro S2 c2 ns2 k n h2 hv2 hk hn
      refine x_iload_n B (pc' := 189) 2 dL_law_188 rfl rfl rfl ?_
      refine x_if_eq B 228 192 dL_law_189 (by decide) rfl (fun hc => absurd hc (by decide)) (fun _ => ?_)
      refine x_aload_n B (pc' := 193) 1 dL_law_192 rfl rfl rfl ?_
      refine n_belSi B (pc' := 196) [.ref (a 0 0)] (k_L_holds _ _ _ a S2 (L_holds hj1 (by omega) h2)) gv_RL_132 np_L_holds ⟨Nat.le_of_ble_eq_true rfl, Nat.le_of_ble_eq_true rfl⟩ ⟨by show k + 0 ≤ 600130; omega, by show n + 0 ≤ 7301079; omega⟩ rfl (Nat.le_of_ble_eq_true rfl) dL_law_193 rfl ?_
      refine x_if_eq B 228 199 dL_law_196 (by decide) rfl (fun hc => absurd hc (by decide)) (fun _ => ?_)
      have j224 : X Γ 12 k n 224 [(0, .ref b), (1, .ref (a 0 0)), (2, .int 1), (3, .int (nI t)), (5, .int y)] [] (wB Γ.cs a S2) := by
        refine x_iconst B (pc' := 225) 1 dL_law_224 (by decide) rfl ?_
        refine x_goto B (pc' := 229) dL_law_225 (by decide) ?_
        refine x_istore_n B (pc' := 230) [1, 2, 0, 3, 4] [(0, .ref b), (1, .ref (a 0 0)), (2, .int (1 : Int32)), (3, .int (nI t)), (5, .int y)] dL_law_229 rfl (by decide) rfl rfl ?_
        refine x_iinc B (pc' := 233) (nI (t + 1)) 3 [1, 2, 3, 0, 4] [(0, .ref b), (1, .ref (a 0 0)), (2, .int (1 : Int32)), (3, .int (nI (t + 1))), (5, .int y)] dL_law_230 rfl (by rw [← nI_s t]; rfl) (by decide) rfl rfl ?_
        refine x_goto B (pc' := 32) dL_law_233 (by decide) ?_
        refine x_lv [0, 1, 2, 3] (lv' := [(0, .ref b), (1, .ref (a 0 0)), (2, .int (1 : Int32)), (3, .int (nI (t + 1)))]) rfl ?_
        exact ih A1 S2 c2 ns2 k n (by omega) hj1 (by omega) h2 hv2 hk hn
      refine x_iload_n B (pc' := 200) 3 dL_law_199 rfl rfl rfl ?_
      refine x_iconst B (pc' := 201) 4 dL_law_200 (by decide) rfl ?_
      refine x_irem B (pc' := 202) dL_law_201 (by decide) rfl ?_
      refine x_topi (v := nI (t % 4)) ((rem_nI (a := t) (b := 4) (by omega) (by omega) (by omega)).symm) ?_
      refine x_iconst B (pc' := 203) 2 dL_law_202 (by decide) rfl ?_
      refine x_icmp_ne B 224 206 dL_law_203 (by decide) rfl (fun _ => j224) (fun _ => ?_)
      have hu : u31 (y >>> ((5 : Int32) &&& 31)) % 32 < 32 := Nat.mod_lt _ (by decide)
      refine x_aload_n B (pc' := 207) 1 dL_law_206 rfl rfl rfl ?_
      refine x_iconst B (pc' := 208) 1 dL_law_207 (by decide) rfl ?_
      refine x_iload B (pc' := 210) 4 dL_law_208 rfl rfl ?_
      refine x_iconst B (pc' := 211) 5 dL_law_210 (by decide) rfl ?_
      refine x_ishr B (pc' := 212) dL_law_211 rfl ?_
      refine x_bipush B (pc' := 214) 32 dL_law_212 (by decide) rfl ?_
      refine x_pureSi B (pc' := 217) [.int (y >>> ((5 : Int32) &&& 31)), .int (32 : Int32)] (k_L_up _ _ _ _ _ (a_up (y >>> ((5 : Int32) &&& 31)) (n := 32) (by omega) (by omega))) gv_RL_82 np_L_up ⟨Nat.le_of_ble_eq_true rfl, Nat.le_of_ble_eq_true rfl⟩ ⟨by show k + 0 ≤ 600130; omega, by show n + 0 ≤ 7301079; omega⟩ rfl (Nat.le_of_ble_eq_true rfl) dL_law_214 rfl ?_
      refine x_iadd B (pc' := 218) dL_law_217 rfl ?_
      refine x_topi (v := nI (u31 (y >>> ((5 : Int32) &&& 31)) % 32 + 1)) (((Int32.add_comm _ _).trans (nI_s _)).symm) ?_
      refine n_belSi B (pc' := 221) [.ref (a 0 0), .int (nI (u31 (y >>> ((5 : Int32) &&& 31)) % 32 + 1))] (k_L_isAhead _ _ _ a (nI (u31 (y >>> ((5 : Int32) &&& 31)) % 32 + 1)) S2 (L_isAhead hj1 h2 (by omega) (by omega))) gv_RL_154 np_L_isAhead ⟨Nat.le_of_ble_eq_true rfl, Nat.le_of_ble_eq_true rfl⟩ ⟨by show k + 0 ≤ 600130; omega, by show n + 0 ≤ 7301079; omega⟩ rfl (Nat.le_of_ble_eq_true rfl) dL_law_218 rfl ?_
      refine x_if_eq B 228 224 dL_law_221 (by decide) rfl (fun hc => absurd hc (by decide)) (fun _ => ?_)
      exact j224
    have j113 : ∀ k n : Nat, k + 4 * d + 2 ≤ 400 → n + 40 * d + 20 ≤ 6000 → X Γ 12 k n 113 [(0, .ref b), (1, .ref (a 0 0)), (2, .int 1), (3, .int (nI t)), (4, .int x), (5, .int y), (6, .long (dg A)), (8, .int (nI c))] [.int 1] (wB Γ.cs a S1) := by
      intro k n hk hn
      refine x_istore_n B (pc' := 114) [1, 2, 0, 3, 4, 5, 6, 7] [(0, .ref b), (1, .ref (a 0 0)), (2, .int 1), (3, .int (nI t)), (4, .int x), (5, .int y), (6, .long (dg A)), (8, .int (nI c))] dL_law_113 rfl (by decide) rfl rfl ?_
      refine x_iload_n B (pc' := 115) 2 dL_law_114 rfl rfl rfl ?_
      refine x_if_eq B 188 118 dL_law_115 (by decide) rfl (fun hc => absurd hc (by decide)) (fun _ => ?_)
      refine x_iload B (pc' := 120) 4 dL_law_118 rfl rfl ?_
      refine x_bipush B (pc' := 122) 8 dL_law_120 (by decide) rfl ?_
      refine x_ishr B (pc' := 123) dL_law_122 rfl ?_
      refine x_iconst B (pc' := 124) 3 dL_law_123 (by decide) rfl ?_
      refine x_iand B (pc' := 125) dL_law_124 rfl ?_
      refine x_if_ne B 188 128 dL_law_125 (by decide) rfl (fun _ => ?_) (fun _ => ?_)
      · refine x_lv [0, 1, 2, 3, 5] (lv' := [(0, .ref b), (1, .ref (a 0 0)), (2, .int 1), (3, .int (nI t)), (5, .int y)]) rfl ?_
        exact j188 S1 c1 ns1 k n dS hv1 (by omega) (by omega)
      · have hc0 : 0 < c1 := by omega
        refine x_aload_n B (pc' := 129) 1 dL_law_128 rfl rfl rfl ?_
        refine n_belVl B (pc' := 132) [] (k_X2_digest _ _ _ a S1 (a_digest hi1 dS)) gv_RL_140 rfl np_X2_digest ⟨Nat.le_of_ble_eq_true rfl, Nat.le_of_ble_eq_true rfl⟩ ⟨by show k + 0 ≤ 600130; omega, by show n + 0 ≤ 7301079; omega⟩ rfl (Nat.le_of_ble_eq_true rfl) dL_law_129 rfl ?_
        refine x_lstore B (pc' := 134) [1, 2, 3, 4, 5, 6, 7, 8, 0] [(0, .ref b), (1, .ref (a 0 0)), (2, .int 1), (3, .int (nI t)), (4, .int x), (5, .int y), (6, .long (dg A)), (8, .int (nI c)), (9, .long (dg A1))] dL_law_132 (by decide) rfl rfl ?_
        refine x_aload_n B (pc' := 135) 1 dL_law_134 rfl rfl rfl ?_
        refine n_belVi B (pc' := 138) [] (k_X2_savedStates _ _ _ a S1 (congrArg some hv1.2.2.2)) gv_RL_144 rfl np_X2_savedStates ⟨Nat.le_of_ble_eq_true rfl, Nat.le_of_ble_eq_true rfl⟩ ⟨by show k + 0 ≤ 600130; omega, by show n + 0 ≤ 7301079; omega⟩ rfl (Nat.le_of_ble_eq_true rfl) dL_law_135 rfl ?_
        refine x_iconst B (pc' := 139) 1 dL_law_138 (by decide) rfl ?_
        refine x_isub B (pc' := 140) dL_law_139 rfl ?_
        refine x_topi (v := nI (c1 - 1)) ((sub_nI (a := c1) (b := 1) hc0).symm) ?_
        refine x_istore B (pc' := 142) [1, 2, 3, 4, 5, 6, 7, 8, 9, 0] [(0, .ref b), (1, .ref (a 0 0)), (2, .int 1), (3, .int (nI t)), (4, .int x), (5, .int y), (6, .long (dg A)), (8, .int (nI c)), (9, .long (dg A1)), (11, .int (nI (c1 - 1)))] dL_law_140 (by decide) rfl rfl ?_
        refine x_aload_n B (pc' := 143) 1 dL_law_142 rfl rfl rfl ?_
        obtain ⟨S2, u1, u2, u3⟩ := c_undo (INV_n hi) (od_le hi) hv1 hc0 (show RS A (S1.2.2.1 ((ns1 + 5) % 6)) by rw [← hn1, show ((ns + 1) % 6 + 5) % 6 = ns by have := hv.2.1; omega]; exact dz)
        refine n_belVi B (pc' := 146) [] (k_X2_undo _ _ _ a S1 u1) gv_RL_151 rfl np_X2_undo ⟨Nat.le_of_ble_eq_true rfl, Nat.le_of_ble_eq_true rfl⟩ ⟨by show k + 0 ≤ 600130; omega, by show n + 0 ≤ 7301079; omega⟩ rfl (Nat.le_of_ble_eq_true rfl) dL_law_143 rfl ?_
        refine x_iload B (pc' := 148) 9 dL_law_146 rfl rfl ?_
        refine x_icmp_ne B 186 151 dL_law_148 (by decide) rfl (fun hc => absurd hc (fun z => z rfl)) (fun _ => ?_)
        refine x_aload_n B (pc' := 152) 1 dL_law_151 rfl rfl rfl ?_
        refine n_belVl B (pc' := 155) [] (k_X2_digest _ _ _ a S2 (a_digest hi u2)) gv_RL_140 rfl np_X2_digest ⟨Nat.le_of_ble_eq_true rfl, Nat.le_of_ble_eq_true rfl⟩ ⟨by show k + 0 ≤ 600130; omega, by show n + 0 ≤ 7301079; omega⟩ rfl (Nat.le_of_ble_eq_true rfl) dL_law_152 rfl ?_
        refine x_lload B (pc' := 157) 6 dL_law_155 rfl rfl ?_
        refine x_lcmp B (pc' := 158) dL_law_157 rfl ?_
        refine x_if_ne B 186 161 dL_law_158 (by decide) rfl (fun hc => absurd hc (fun z => z ((lg_cmp_eq _ _).mpr rfl))) (fun _ => ?_)
        obtain ⟨S3, ea, eS, ev, _⟩ := deed S2 _ _ u2 u3
        refine x_aload_n B (pc' := 162) 1 dL_law_161 rfl rfl rfl ?_
        refine x_iload B (pc' := 164) 4 dL_law_162 rfl rfl ?_
        refine x_iload B (pc' := 166) 5 dL_law_164 rfl rfl ?_
        refine n_belSi B (pc' := 169) [.ref (a 0 0), .int x, .int y] (k_L_acts _ _ _ a x y S2 ea) gv_RL_147 np_L_acts ⟨Nat.le_of_ble_eq_true rfl, Nat.le_of_ble_eq_true rfl⟩ ⟨by show k + 2 ≤ 600130; omega, by show n + 20 ≤ 7301079; omega⟩ rfl (Nat.le_of_ble_eq_true rfl) dL_law_166 rfl ?_
        refine x_if_eq B 186 172 dL_law_169 (by decide) rfl (fun hc => absurd hc (by decide)) (fun _ => ?_)
        refine x_aload_n B (pc' := 173) 1 dL_law_172 rfl rfl rfl ?_
        refine n_belVl B (pc' := 176) [] (k_X2_digest _ _ _ a S3 (a_digest hi1 eS)) gv_RL_140 rfl np_X2_digest ⟨Nat.le_of_ble_eq_true rfl, Nat.le_of_ble_eq_true rfl⟩ ⟨by show k + 2 ≤ 600130; omega, by show n + 20 ≤ 7301079; omega⟩ rfl (Nat.le_of_ble_eq_true rfl) dL_law_173 rfl ?_
        refine x_lload B (pc' := 178) 8 dL_law_176 rfl rfl ?_
        refine x_lcmp B (pc' := 179) dL_law_178 rfl ?_
        refine x_if_ne B 186 182 dL_law_179 (by decide) rfl (fun hc => absurd hc (fun z => z ((lg_cmp_eq _ _).mpr rfl))) (fun _ => ?_)
        refine x_iconst B (pc' := 183) 1 dL_law_182 (by decide) rfl ?_
        refine x_goto B (pc' := 187) dL_law_183 (by decide) ?_
        refine x_istore_n B (pc' := 188) [1, 2, 0, 3, 4, 5, 6, 7, 8, 9] [(0, .ref b), (1, .ref (a 0 0)), (2, .int (1 : Int32)), (3, .int (nI t)), (4, .int x), (5, .int y), (6, .long (dg A)), (8, .int (nI c)), (9, .long (dg A1)), (11, .int (nI (c1 - 1)))] dL_law_187 rfl (by decide) rfl rfl ?_
        refine x_lv [0, 1, 2, 3, 5] (lv' := [(0, .ref b), (1, .ref (a 0 0)), (2, .int 1), (3, .int (nI t)), (5, .int y)]) rfl ?_
        exact j188 S3 _ _ _ _ eS ev (by show k + 2 + 4 * d ≤ 400; omega) (by show n + 20 + 40 * d ≤ 6000; omega)
    refine x_iload_n B (pc' := 33) 3 dL_law_32 rfl rfl rfl ?_
    refine x_bipush B (pc' := 35) 72 dL_law_33 (by decide) rfl ?_
    refine x_icmp_ge B 236 38 dL_law_35 (by decide) rfl (fun hc => absurd hc (by rw [show (72 : Int32) = nI 72 from rfl, nI_leI (by omega) (by omega)]; omega)) (fun _ => ?_)
    refine x_iload_n B (pc' := 39) 2 dL_law_38 rfl rfl rfl ?_
    refine x_if_eq B 236 42 dL_law_39 (by decide) rfl (fun hc => absurd hc (by decide)) (fun _ => ?_)
    refine x_aload_n B (pc' := 43) 0 dL_law_42 rfl rfl rfl ?_
    refine x_iconst B (pc' := 44) 2 dL_law_43 (by decide) rfl ?_
    refine x_iload_n B (pc' := 45) 3 dL_law_44 rfl rfl rfl ?_
    refine x_imul B (pc' := 46) dL_law_45 rfl ?_
    refine x_topi (v := nI (2 * t)) ((mul_nI 2 t).symm) ?_
    refine x_scr B C (pc' := 49) [.ref b, .int (nI (2 * t))] (k_L_cell _ _ _ b L xs (by omega) (2 * t) (by omega)) gv_RL_136 np_L_cell ⟨Nat.le_of_ble_eq_true rfl, Nat.le_of_ble_eq_true rfl⟩ ⟨by show k + 0 ≤ 600130; omega, by show n + 0 ≤ 7301079; omega⟩ rfl (Nat.le_of_ble_eq_true rfl) dL_law_46 rfl ?_
    refine x_topi (v := x) (hx) ?_
    refine x_istore B (pc' := 51) [1, 2, 3, 4, 0] [(0, .ref b), (1, .ref (a 0 0)), (2, .int 1), (3, .int (nI t)), (4, .int x)] dL_law_49 (by decide) rfl rfl ?_
    refine x_aload_n B (pc' := 52) 0 dL_law_51 rfl rfl rfl ?_
    refine x_iconst B (pc' := 53) 2 dL_law_52 (by decide) rfl ?_
    refine x_iload_n B (pc' := 54) 3 dL_law_53 rfl rfl rfl ?_
    refine x_imul B (pc' := 55) dL_law_54 rfl ?_
    refine x_topi (v := nI (2 * t)) ((mul_nI 2 t).symm) ?_
    refine x_iconst B (pc' := 56) 1 dL_law_55 (by decide) rfl ?_
    refine x_iadd B (pc' := 57) dL_law_56 rfl ?_
    refine x_topi (v := nI (2 * t + 1)) ((nI_s (2 * t)).symm) ?_
    refine x_scr B C (pc' := 60) [.ref b, .int (nI (2 * t + 1))] (k_L_cell _ _ _ b L xs (by omega) (2 * t + 1) (by omega)) gv_RL_136 np_L_cell ⟨Nat.le_of_ble_eq_true rfl, Nat.le_of_ble_eq_true rfl⟩ ⟨by show k + 0 ≤ 600130; omega, by show n + 0 ≤ 7301079; omega⟩ rfl (Nat.le_of_ble_eq_true rfl) dL_law_57 rfl ?_
    refine x_topi (v := y) (hy) ?_
    refine x_istore B (pc' := 62) [1, 2, 3, 4, 5, 0] [(0, .ref b), (1, .ref (a 0 0)), (2, .int 1), (3, .int (nI t)), (4, .int x), (5, .int y)] dL_law_60 (by decide) rfl rfl ?_
    refine x_aload_n B (pc' := 63) 1 dL_law_62 rfl rfl rfl ?_
    refine n_belVl B (pc' := 66) [] (k_X2_digest _ _ _ a S (a_digest hi h)) gv_RL_140 rfl np_X2_digest ⟨Nat.le_of_ble_eq_true rfl, Nat.le_of_ble_eq_true rfl⟩ ⟨by show k + 0 ≤ 600130; omega, by show n + 0 ≤ 7301079; omega⟩ rfl (Nat.le_of_ble_eq_true rfl) dL_law_63 rfl ?_
    refine x_lstore B (pc' := 68) [1, 2, 3, 4, 5, 6, 0] [(0, .ref b), (1, .ref (a 0 0)), (2, .int 1), (3, .int (nI t)), (4, .int x), (5, .int y), (6, .long (dg A))] dL_law_66 (by decide) rfl rfl ?_
    refine x_aload_n B (pc' := 69) 1 dL_law_68 rfl rfl rfl ?_
    refine n_belVi B (pc' := 72) [] (k_X2_savedStates _ _ _ a S (congrArg some hv.2.2.2)) gv_RL_144 rfl np_X2_savedStates ⟨Nat.le_of_ble_eq_true rfl, Nat.le_of_ble_eq_true rfl⟩ ⟨by show k + 0 ≤ 600130; omega, by show n + 0 ≤ 7301079; omega⟩ rfl (Nat.le_of_ble_eq_true rfl) dL_law_69 rfl ?_
    refine x_istore B (pc' := 74) [1, 2, 3, 4, 5, 6, 7, 0] [(0, .ref b), (1, .ref (a 0 0)), (2, .int 1), (3, .int (nI t)), (4, .int x), (5, .int y), (6, .long (dg A)), (8, .int (nI c))] dL_law_72 (by decide) rfl rfl ?_
    refine x_aload_n B (pc' := 75) 1 dL_law_74 rfl rfl rfl ?_
    refine x_iload B (pc' := 77) 4 dL_law_75 rfl rfl ?_
    refine x_iload B (pc' := 79) 5 dL_law_77 rfl rfl ?_
    refine n_belSi B (pc' := 82) [.ref (a 0 0), .int x, .int y] (k_L_acts _ _ _ a x y S da) gv_RL_147 np_L_acts ⟨Nat.le_of_ble_eq_true rfl, Nat.le_of_ble_eq_true rfl⟩ ⟨by show k + 2 ≤ 600130; omega, by show n + 20 ≤ 7301079; omega⟩ rfl (Nat.le_of_ble_eq_true rfl) dL_law_79 rfl ?_
    refine x_if_eq B 112 85 dL_law_82 (by decide) rfl (fun hc => absurd hc (by decide)) (fun _ => ?_)
    refine x_aload_n B (pc' := 86) 1 dL_law_85 rfl rfl rfl ?_
    refine n_belVi B (pc' := 89) [] (k_X2_savedStates _ _ _ a S1 (congrArg some hv1.2.2.2)) gv_RL_144 rfl np_X2_savedStates ⟨Nat.le_of_ble_eq_true rfl, Nat.le_of_ble_eq_true rfl⟩ ⟨by show k + 2 ≤ 600130; omega, by show n + 20 ≤ 7301079; omega⟩ rfl (Nat.le_of_ble_eq_true rfl) dL_law_86 rfl ?_
    refine x_iload B (pc' := 91) 7 dL_law_89 rfl rfl ?_
    refine x_bipush B (pc' := 93) 6 dL_law_91 (by decide) rfl ?_
    have j105 : X Γ 12 (k + 2) (n + 20) 105 [(0, .ref b), (1, .ref (a 0 0)), (2, .int 1), (3, .int (nI t)), (4, .int x), (5, .int y), (6, .long (dg A)), (8, .int (nI c))] [.int (nI c1), .int (nI c1)] (wB Γ.cs a S1) := by
      refine x_icmp_ne B 112 108 dL_law_105 (by decide) rfl (fun hc => absurd hc (fun z => z rfl)) (fun _ => ?_)
      refine x_iconst B (pc' := 109) 1 dL_law_108 (by decide) rfl ?_
      refine x_goto B (pc' := 113) dL_law_109 (by decide) ?_
      exact j113 _ _ (by omega) (by omega)
    refine x_icmp_ge B 103 96 dL_law_93 (by decide) rfl (fun hc => ?_) (fun hc => ?_)
    · have h6 : 6 ≤ c := by rw [show (6 : Int32) = nI 6 from rfl, nI_leI (by omega) (by have := hv.1; omega)] at hc; exact hc
      refine x_bipush B (pc' := 105) 6 dL_law_103 (by decide) rfl ?_
      refine x_topi (v := nI c1) (by rw [← hc1, show min 6 (c + 1) = 6 by omega]; rfl) ?_
      exact j105
    · have h6 : c < 6 := by rw [show (6 : Int32) = nI 6 from rfl, nI_leI (by omega) (by have := hv.1; omega)] at hc; omega
      refine x_iload B (pc' := 98) 7 dL_law_96 rfl rfl ?_
      refine x_iconst B (pc' := 99) 1 dL_law_98 (by decide) rfl ?_
      refine x_iadd B (pc' := 100) dL_law_99 rfl ?_
      refine x_topi (v := nI c1) (by rw [← hc1, nI_s, show min 6 (c + 1) = c + 1 by omega]) ?_
      refine x_goto B (pc' := 105) dL_law_100 (by decide) ?_
      exact j105
