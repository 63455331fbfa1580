theorem INV_fl {A : AT} (h : INV A) (f : Nat → Bool) (l : Nat → Int32) : INV (sFL A f l) := h
theorem INV_hs {A : AT} (h : INV A) {m : Nat} (hm : m < 32) (sp : Nat) : INV (sHS A m sp) := ⟨h.1, h.2.1, hm, h.2.2.2⟩
theorem INV_sc {A : AT} (h : INV A) (f g : Nat → Int32) : INV (sSC A f g) := h
theorem INV_pl {A : AT} (h : INV A) {P : Option (Nat × Nat)} (hP : ∀ r p, P = some (r, p) → r < A.n ∧ p ≤ 32) : INV (sP A P) := ⟨h.1, h.2.1, h.2.2.1, h.2.2.2.1, h.2.2.2.2.1, h.2.2.2.2.2.1, hP⟩
theorem pl_sp (A : AT) (P : Option (Nat × Nat)) : (sP A P).sp = A.sp := rfl
theorem fl_sp (A : AT) (f : Nat → Bool) (l : Nat → Int32) : (sFL A f l).sp = A.sp := rfl
theorem sc_sp (A : AT) (f g : Nat → Int32) : (sSC A f g).sp = A.sp := rfl
theorem hs_sp (A : AT) (m : Nat) : (sHS A m A.sp).sp = A.sp := rfl
theorem RM_fl2 {A : AT} {g : Nat → Int32} (h : RM A g) (hn : A.n ≤ 10) {k : Nat} (hk : k < 10) {v : Bool} : RM (sFL A (u1 A.fl k v) A.lo) (upd g (7 + k) (bZ v)) := RQ_RM (A := sFL A (u1 A.fl k v) A.lo) (RQ_fl (RM_RQ h) hn hk)
theorem RM_pl {A : AT} {g : Nat → Int32} (h : RM A g) {P : Option (Nat × Nat)} {a b : Int32} (ha : a = oI (P.map Prod.fst)) (hb : b = oI (P.map Prod.snd)) : RM (sP A P) (upd (upd g 5 a) 6 b) := by
  subst ha hb
  obtain ⟨h1, h2, h3, h4, h5, h6, h7, h8, h9, h10, h11, h12, tr, h13, h14⟩ := RQ_6 (v := oI (P.map Prod.snd)) (RQ_5 (v := oI (P.map Prod.fst)) (RM_RQ h))
  exact ⟨h1, h2, h3, h4, h5, h6, h7, h8, h9, h10, h11, h12, tr, h13, h14⟩
theorem RM_hd2 {A : AT} {g : Nat → Int32} (h : RM A g) {m : Nat} : RM (sHS A m A.sp) (upd g 2 (nI m)) := RQ_RM (A := sHS A m A.sp) (RQ_2 (RM_RQ h))
theorem RM_sn2 {A : AT} {g : Nat → Int32} (h : RM A g) (hn : A.n ≤ 10) {k : Nat} (hk : k < 32) {v : Int32} : RM (sSC A (u1 A.sn k v) A.ca) (upd g (59 + k) v) := RQ_RM (A := sSC A (u1 A.sn k v) A.ca) (RQ_sn (RM_RQ h) hn hk)
/-- flags -/
theorem s_put {A : AT} {S : OB} (hi : INV A) (h : RS A S) {r : Nat} (hr : r < A.n) (b : Bool) : ∃ S', f_X1_putFlag (nI r) (bZ b) S = some S' ∧ RS (sFL A (u1 A.fl r b) A.lo) S' := by
  have hn := INV_n hi
  have := RS_flag h (k := r) (b := b)
  unfold f_X1_putFlag c_X1_putFlag_14
  rw [pAt_nI (by omega) (by decide), pAt_nI (by omega) (by decide)]
  cases b with
  | false => exact ⟨_, rfl, this⟩
  | true => exact ⟨_, rfl, this⟩
theorem m_put {A : AT} {M : MO} (hi : INV A) (h : RM A (M.2.1 1)) {r : Nat} (hr : r < A.n) (b : Bool) : ∃ M', c_X3_does_216 (bZ b) (7 + nI r) M = some M' ∧ RM (sFL A (u1 A.fl r b) A.lo) (M'.2.1 1) ∧ FR M M' := by
  have hn := INV_n hi
  unfold c_X3_does_216
  rw [show (7 : Int32) + nI r = nI (7 + r) from nI_add 7 r, gd_nI (by omega) (by decide), nm_eq, nI_clamp (by omega)]
  exact ⟨_, rfl, RM_fl2 h hn (by omega), FR_u (by omega)⟩
/-- the player -/
theorem s_go {A : AT} {S : OB} (h : RS A S) (r : Nat) : ∃ S', f_X1_bringPlayer (nI r) S = some S' ∧ RS (sP A (some (r, 0))) S' := ⟨_, rfl, RS_player h rfl rfl⟩
theorem m_go {A : AT} {M : MO} (hi : INV A) (h : RM A (M.2.1 1)) {r : Nat} (hr : r < A.n) : ∃ M', f_X3_goes (nI r) M = some (nI (cnt A (some r)), M') ∧ RM (sP A (some (r, 0))) (M'.2.1 1) ∧ FR M M' := by
  have hn := INV_n hi
  have h' := RM_pl h (P := some (r, 0)) (a := nI r) (b := 0) rfl rfl
  have hi' : INV (sP A (some (r, 0))) := INV_pl hi (fun r' p' e => by cases e; exact ⟨hr, Nat.zero_le _⟩)
  unfold f_X3_goes
  rw [show (5 : Int32) = nI 5 from rfl, show (6 : Int32) = nI 6 from rfl, gd_nI (by omega) (by decide), nm_eq, gd_nI (by omega) (by decide), nm_eq, nI_clamp (by omega), nI_clamp (by omega)]
  show ∃ M', bd (f_X3_cells (nI r) (M.1, up2 (up2 M.2.1 1 (upd (M.2.1 1) 5 (nI r))) 1 (upd (upd (M.2.1 1) 5 (nI r)) 6 0), M.2.2)) _ = _ ∧ _
  rw [show nI r = oI (some r) from rfl, m_cnt (M := (M.1, up2 (up2 M.2.1 1 (upd (M.2.1 1) 5 (oI (some r)))) 1 (upd (upd (M.2.1 1) 5 (oI (some r))) 6 0), M.2.2)) hi' h' (fun q e => by cases e; omega), bd_some]
  exact ⟨_, rfl, h', FR_t (FR_u (i := 5) (v := oI (some r)) (by omega)) (FR_u (M := (M.1, up2 M.2.1 1 (upd (M.2.1 1) 5 (oI (some r))), M.2.2)) (i := 6) (by omega))⟩
def ply (A : AT) (r p : Nat) : AT := match at_ (isO A r) A.od p with
  | none => A
  | some _ => sP A (some (r, p + 1))
theorem at_lt {A : AT} (hi : INV A) {r p k : Nat} (e : at_ (isO A r) A.od p = some k) : k < 32 ∧ p < 32 := by
  have h := (at_bf (INV_nd hi)).mp e
  refine ⟨od_lt hi k h.1, ?_⟩
  have h1 : ∀ l : List Nat, k ∈ l → bf (isO A r) k l < l.length := by
    intro l
    induction l with
    | nil => intro q; cases q
    | cons y l ih =>
      intro q
      unfold bf
      rw [List.length_cons]
      by_cases e1 : y = k
      · rw [if_pos e1]; omega
      · rw [if_neg e1]
        have := ih (by rcases List.mem_cons.mp q with z | z; · exact absurd z.symm e1
                       · exact z)
        split <;> omega
  have := h1 A.od h.1
  have := od_le hi
  omega
theorem INV_ply {A : AT} (hi : INV A) {r p : Nat} (hr : r < A.n) : INV (ply A r p) := by
  unfold ply
  cases e : at_ (isO A r) A.od p with
  | none => exact hi
  | some k =>
    have := at_lt hi e
    exact INV_pl hi (fun r' p' q => by cases q; exact ⟨hr, by omega⟩)
theorem ply_sp (A : AT) (r p : Nat) : (ply A r p).sp = A.sp := by
  unfold ply
  cases at_ (isO A r) A.od p with
  | none => rfl
  | some k => rw [pl_sp]
theorem s_play {A : AT} {S : OB} (hi : INV A) (h : RS A S) {r p : Nat} (e : A.P = some (r, p)) : ∃ S', f_X1_playCell S = some (pl (at_ (isO A r) A.od p) A.sn, S') ∧ RS (ply A r p) S' := by
  have hP := INV_P hi r p e
  have hp1 : S.1 12 = nI r := (RS_p1 h).trans (by rw [e]; rfl)
  have hp2 : S.1 13 = nI p := (RS_p2 h).trans (by rw [e]; rfl)
  unfold f_X1_playCell ply
  rw [hp1, hp2, s_at hi h hP.1 (by omega), bd_some]
  cases e1 : at_ (isO A r) A.od p with
  | none => exact ⟨S, rfl, h⟩
  | some k =>
    have hk := at_lt hi e1
    rw [oI_some, if_neg (fun q => nI_m1 (n := k) (by omega) q), nm_eq, vAt_nI hk.1 (by decide), show nI p + 1 = nI (p + 1) from nI_1 p]
    refine ⟨(upd S.1 13 (nI (p + 1)), S.2), ?_, ?_⟩
    · show some (S.2 1 k, (upd S.1 13 (nI (p + 1)), S.2)) = some (A.sn k, (upd S.1 13 (nI (p + 1)), S.2))
      rw [RS_sn h hk.1]
    · have h2 := RS_player h (P := some (r, p + 1)) (a := S.1 12) (b := nI (p + 1)) hp1 rfl
      have e9 : upd (upd S.1 12 (S.1 12)) 13 (nI (p + 1)) = upd S.1 13 (nI (p + 1)) := by
        funext i
        show (if i = 13 then _ else if i = 12 then _ else S.1 i) = if i = 13 then _ else S.1 i
        by_cases e3 : i = 12
        · subst e3; rfl
        · rw [if_neg e3]
      rw [e9] at h2
      exact h2
theorem m_play {A : AT} {M : MO} (hi : INV A) (hs : A.sp < 2 ^ 31) (h : RM A (M.2.1 1)) {r p : Nat} (e : A.P = some (r, p)) : ∃ M', f_X3_plays M = some (pl (at_ (isO A r) A.od p) A.sn, M') ∧ RM (ply A r p) (M'.2.1 1) ∧ FR M M' := by
  have hP := INV_P hi r p e
  have hp1 : (M.2.1 1) 5 = nI r := (RM_p1 h).trans (by rw [e]; rfl)
  have hp2 : (M.2.1 1) 6 = nI p := (RM_p2 h).trans (by rw [e]; rfl)
  have hset : ∀ q v, v = nI q → upd (upd (M.2.1 1) 5 (nI r)) 6 v = upd (M.2.1 1) 6 v := fun q v _ => by
    funext i
    show (if i = 6 then _ else if i = 5 then nI r else M.2.1 1 i) = if i = 6 then _ else M.2.1 1 i
    by_cases e3 : i = 5
    · rw [e3, hp1]; rfl
    · rw [if_neg e3]
  unfold f_X3_plays ply c_X3_plays_36
  rw [show (5 : Int32) = nI 5 from rfl, show (6 : Int32) = nI 6 from rfl, gd_nI (by omega) (by decide), gd_nI (by omega) (by decide), nI_clamp (by omega), nI_clamp (by omega), hp1, hp2, m_at hi hs h hP.1 (by omega), bd_some, gd_nI (by omega) (by decide), gd_nI (by omega) (by decide), gd_nI (by omega) (by decide)]
  simp only [nm_eq]
  cases e1 : at_ (isO A r) A.od p with
  | none =>
    rw [if_pos (show oI none = -1 from rfl), if_pos (show oI none = -1 from rfl), show nI p + 0 = nI p from nI_add p 0]
    have h2 := RM_pl h (P := some (r, p)) (a := nI r) (b := nI p) rfl rfl
    rw [hset p _ rfl] at h2
    refine ⟨_, rfl, ?_, FR_u (by omega)⟩
    have e4 : sP A (some (r, p)) = A := by rw [← e]
    rw [e4] at h2
    exact h2
  | some k =>
    have hk := at_lt hi e1
    rw [oI_some, if_neg (fun q => nI_m1 (n := k) (by omega) q), if_neg (fun q => nI_m1 (n := k) (by omega) q), show (59 : Int32) + nI k = nI (59 + k) from nI_add 59 k, gd_nI (by omega) (by decide), nI_clamp (by omega), show nI p + 1 = nI (p + 1) from nI_1 p]
    have h2 := RM_pl h (P := some (r, p + 1)) (a := nI r) (b := nI (p + 1)) rfl rfl
    rw [hset (p + 1) _ rfl] at h2
    refine ⟨_, ?_, h2, FR_u (by omega)⟩
    show some (upd (M.2.1 1) 6 (nI (p + 1)) (59 + k), _) = some (A.sn k, _)
    rw [pk_un (by omega), RM_sn h hk.1]
theorem s_back {A : AT} {S : OB} (hi : INV A) (h : RS A S) {r p m : Nat} (hm : m ≤ 9) (e : A.P = some (r, p)) : ∃ S', f_X1_stepBack (nI m) S = some (nI (p - m), S') ∧ RS (sP A (some (r, p - m))) S' := by
  have hP := INV_P hi r p e
  have hp1 : S.1 12 = nI r := (RS_p1 h).trans (by rw [e]; rfl)
  have hp2 : S.1 13 = nI p := (RS_p2 h).trans (by rw [e]; rfl)
  unfold f_X1_stepBack
  rw [nm_eq, hp2]
  have e1 : (if 0 < nI p - nI m then nI p - nI m else 0) = nI (p - m) := by
    by_cases q : m ≤ p
    · rw [sub_nI q]
      by_cases q2 : p - m = 0
      · rw [q2]; rfl
      · rw [if_pos (by rw [show (0 : Int32) = nI 0 from rfl, nI_ltI (by omega) (by omega)]; omega)]
    · rw [if_neg, show p - m = 0 by omega]
      · rfl
      · rw [Int32.lt_iff_toInt_lt, pk_sub_toInt (by omega) (by omega), show (0 : Int32).toInt = 0 from rfl]
        omega
  rw [e1]
  refine ⟨_, rfl, ?_⟩
  have h2 := RS_player h (P := some (r, p - m)) (a := S.1 12) (b := nI (p - m)) hp1 rfl
  have e9 : upd (upd S.1 12 (S.1 12)) 13 (nI (p - m)) = upd S.1 13 (nI (p - m)) := by
    funext i
    show (if i = 13 then _ else if i = 12 then _ else S.1 i) = if i = 13 then _ else S.1 i
    by_cases e3 : i = 12
    · subst e3; rfl
    · rw [if_neg e3]
  rw [e9] at h2
  exact h2
theorem m_back {A : AT} {M : MO} (hi : INV A) (h : RM A (M.2.1 1)) {r p m : Nat} (hm : m ≤ 9) (e : A.P = some (r, p)) : ∃ M', f_X3_goesBack (nI m) M = some (nI (p - m), M') ∧ RM (sP A (some (r, p - m))) (M'.2.1 1) ∧ FR M M' := by
  have hP := INV_P hi r p e
  have hp1 : (M.2.1 1) 5 = nI r := (RM_p1 h).trans (by rw [e]; rfl)
  have hp2 : (M.2.1 1) 6 = nI p := (RM_p2 h).trans (by rw [e]; rfl)
  have h2 := RM_pl h (P := some (r, p - m)) (a := nI r) (b := nI (p - m)) rfl rfl
  have hset : upd (upd (M.2.1 1) 5 (nI r)) 6 (nI (p - m)) = upd (M.2.1 1) 6 (nI (p - m)) := by
    funext i
    show (if i = 6 then _ else if i = 5 then nI r else M.2.1 1 i) = if i = 6 then _ else M.2.1 1 i
    by_cases e3 : i = 5
    · rw [e3, hp1]; rfl
    · rw [if_neg e3]
  rw [hset] at h2
  have fin : ∀ v, v = nI (p - m) → ∃ M', c_X3_goesBack_30 v (nI 6) M = some (nI (p - m), M') ∧ RM (sP A (some (r, p - m))) (M'.2.1 1) ∧ FR M M' := by
    rintro v rfl
    unfold c_X3_goesBack_30
    rw [gd_nI (by omega) (by decide), nm_eq, nI_clamp (by omega), show gd (6 : Int32) = @gd (Int32 × MO) (nI 6) from rfl, gd_nI (by omega) (by decide)]
    exact ⟨_, rfl, h2, FR_u (by omega)⟩
  unfold f_X3_goesBack
  rw [show (6 : Int32) = nI 6 from rfl, gd_nI (by omega) (by decide), nI_clamp (by omega), hp2, gd_nI (by omega) (by decide)]
  by_cases q : m ≤ p
  · rw [if_pos (by rw [nI_leI (by omega) (by omega)]; exact q), sub_nI q]
    exact fin _ rfl
  · rw [if_neg (by rw [nI_leI (by omega) (by omega)]; exact q)]
    exact fin _ (by rw [show p - m = 0 by omega]; rfl)
