theorem INV_fl {A : AT} (h : INV A) (f : Nat → Bool) (l : Nat → Int32) : INV (sFL A f l) := h
theorem INV_hs {A : AT} (h : INV A) {m : Nat} (hm : m < 32) (sp : Nat) : INV (sHS A m sp) := ⟨h.1, h.2.1, hm, h.2.2.2⟩
theorem INV_sc {A : AT} (h : INV A) (f g : Nat → Int32) : INV (sSC A f g) := h
theorem INV_pl {A : AT} (h : INV A) {P : Option (Nat × Nat)} (hP : ∀ r p, P = some (r, p) → r < A.n ∧ p ≤ 32) : INV (sP A P) := ⟨h.1, h.2.1, h.2.2.1, h.2.2.2.1, h.2.2.2.2.1, h.2.2.2.2.2.1, hP⟩
theorem pl_sp (A : AT) (P : Option (Nat × Nat)) : (sP A P).sp = A.sp := rfl
theorem fl_sp (A : AT) (f : Nat → Bool) (l : Nat → Int32) : (sFL A f l).sp = A.sp := rfl
theorem sc_sp (A : AT) (f g : Nat → Int32) : (sSC A f g).sp = A.sp := rfl
theorem hs_sp (A : AT) (m : Nat) : (sHS A m A.sp).sp = A.sp := rfl
/-- flags -/
theorem s_put {A : AT} {S : OB} (hi : INV A) (h : RS A S) {r : Nat} (hr : r < A.n) (b : Bool) : ∃ S', f_X1_putFlag (nI r) (bZ b) S = some S' ∧ RS (sFL A (u1 A.fl r b) A.lo) S' := by
  have hn := INV_n hi
  have := RS_flag h (k := r) (b := b)
  unfold f_X1_putFlag c_X1_putFlag_14
  rw [pAt_nI (by omega) (by decide), pAt_nI (by omega) (by decide)]
  cases b with
  | false => exact ⟨_, rfl, this⟩
  | true => exact ⟨_, rfl, this⟩
/-- the player -/
theorem s_go {A : AT} {S : OB} (h : RS A S) (r : Nat) : ∃ S', f_X1_bringPlayer (nI r) S = some S' ∧ RS (sP A (some (r, 0))) S' := ⟨_, rfl, RS_player h rfl rfl⟩
def ply (A : AT) (r p : Nat) : AT := match at_ (isO A r) A.od p with
  | none => A
  | some _ => sP A (some (r, p + 1))
theorem at_lt {A : AT} (hi : INV A) {r p k : Nat} (e : at_ (isO A r) A.od p = some k) : k < 32 ∧ p < 32 := by
  have h := (at_bf (INV_nd hi)).mp e
  refine ⟨od_lt hi k h.1, ?_⟩
  have h1 : ∀ l : List Nat, k ∈ l → bf (isO A r) k l < l.length := by
    intro l
    induction l with
    | nil => intro q; cases q
    | cons y l ih =>
      intro q
      unfold bf
      rw [List.length_cons]
      by_cases e1 : y = k
      · rw [if_pos e1]; omega
      · rw [if_neg e1]
        have := ih (by rcases List.mem_cons.mp q with z | z; · exact absurd z.symm e1
                       · exact z)
        split <;> omega
  have := h1 A.od h.1
  have := od_le hi
  omega
theorem INV_ply {A : AT} (hi : INV A) {r p : Nat} (hr : r < A.n) : INV (ply A r p) := by
  unfold ply
  cases e : at_ (isO A r) A.od p with
  | none => exact hi
  | some k =>
    have := at_lt hi e
    exact INV_pl hi (fun r' p' q => by cases q; exact ⟨hr, by omega⟩)
theorem ply_sp (A : AT) (r p : Nat) : (ply A r p).sp = A.sp := by
  unfold ply
  cases at_ (isO A r) A.od p with
  | none => rfl
  | some k => rw [pl_sp]
theorem s_play {A : AT} {S : OB} (hi : INV A) (h : RS A S) {r p : Nat} (e : A.P = some (r, p)) : ∃ S', f_X1_playCell S = some (pl (at_ (isO A r) A.od p) A.sn, S') ∧ RS (ply A r p) S' := by
  have hP := INV_P hi r p e
  have hp1 : S.1 12 = nI r := (RS_p1 h).trans (by rw [e]; rfl)
  have hp2 : S.1 13 = nI p := (RS_p2 h).trans (by rw [e]; rfl)
  unfold f_X1_playCell ply
  rw [hp1, hp2, s_at hi h hP.1 (by omega), bd_some]
  cases e1 : at_ (isO A r) A.od p with
  | none => exact ⟨S, rfl, h⟩
  | some k =>
    have hk := at_lt hi e1
    rw [oI_some, if_neg (fun q => nI_m1 (n := k) (by omega) q), nm_eq, vAt_nI hk.1 (by decide), show nI p + 1 = nI (p + 1) from nI_1 p]
    refine ⟨(upd S.1 13 (nI (p + 1)), S.2), ?_, ?_⟩
    · show some (S.2 1 k, (upd S.1 13 (nI (p + 1)), S.2)) = some (A.sn k, (upd S.1 13 (nI (p + 1)), S.2))
      rw [RS_sn h hk.1]
    · have h2 := RS_player h (P := some (r, p + 1)) (a := S.1 12) (b := nI (p + 1)) hp1 rfl
      have e9 : upd (upd S.1 12 (S.1 12)) 13 (nI (p + 1)) = upd S.1 13 (nI (p + 1)) := by
        funext i
        show (if i = 13 then _ else if i = 12 then _ else S.1 i) = if i = 13 then _ else S.1 i
        by_cases e3 : i = 12
        · subst e3; rfl
        · rw [if_neg e3]
      rw [e9] at h2
      exact h2
theorem s_back {A : AT} {S : OB} (hi : INV A) (h : RS A S) {r p m : Nat} (hm : m ≤ 9) (e : A.P = some (r, p)) : ∃ S', f_X1_stepBack (nI m) S = some (nI (p - m), S') ∧ RS (sP A (some (r, p - m))) S' := by
  have hP := INV_P hi r p e
  have hp1 : S.1 12 = nI r := (RS_p1 h).trans (by rw [e]; rfl)
  have hp2 : S.1 13 = nI p := (RS_p2 h).trans (by rw [e]; rfl)
  unfold f_X1_stepBack
  rw [nm_eq, hp2]
  have e1 : (if 0 < nI p - nI m then nI p - nI m else 0) = nI (p - m) := by
    by_cases q : m ≤ p
    · rw [sub_nI q]
      by_cases q2 : p - m = 0
      · rw [q2]; rfl
      · rw [if_pos (by rw [show (0 : Int32) = nI 0 from rfl, nI_ltI (by omega) (by omega)]; omega)]
    · rw [if_neg, show p - m = 0 by omega]
      · rfl
      · rw [Int32.lt_iff_toInt_lt, pk_sub_toInt (by omega) (by omega), show (0 : Int32).toInt = 0 from rfl]
        omega
  rw [e1]
  refine ⟨_, rfl, ?_⟩
  have h2 := RS_player h (P := some (r, p - m)) (a := S.1 12) (b := nI (p - m)) hp1 rfl
  have e9 : upd (upd S.1 12 (S.1 12)) 13 (nI (p - m)) = upd S.1 13 (nI (p - m)) := by
    funext i
    show (if i = 13 then _ else if i = 12 then _ else S.1 i) = if i = 13 then _ else S.1 i
    by_cases e3 : i = 12
    · subst e3; rfl
    · rw [if_neg e3]
  rw [e9] at h2
  exact h2
