/-! the belt's state changed -/
abbrev sN (A : AT) (n : Nat) (run : Bool) : AT := (n, run, A.hd, A.sp, A.go, A.P, A.fl, A.lo, A.ow, A.sn, A.ca, A.od)
abbrev sFL (A : AT) (fl : Nat → Bool) (lo : Nat → Int32) : AT := (A.n, A.run, A.hd, A.sp, A.go, A.P, fl, lo, A.ow, A.sn, A.ca, A.od)
abbrev sOW (A : AT) (ow : Nat → Option Nat) : AT := (A.n, A.run, A.hd, A.sp, A.go, A.P, A.fl, A.lo, ow, A.sn, A.ca, A.od)
abbrev sOD (A : AT) (od : List Nat) : AT := (A.n, A.run, A.hd, A.sp, A.go, A.P, A.fl, A.lo, A.ow, A.sn, A.ca, od)
abbrev sP (A : AT) (P : Option (Nat × Nat)) : AT := (A.n, A.run, A.hd, A.sp, A.go, P, A.fl, A.lo, A.ow, A.sn, A.ca, A.od)
abbrev sGO (A : AT) (go : Nat) : AT := (A.n, A.run, A.hd, A.sp, go, A.P, A.fl, A.lo, A.ow, A.sn, A.ca, A.od)
abbrev sHS (A : AT) (hd sp : Nat) : AT := (A.n, A.run, hd, sp, A.go, A.P, A.fl, A.lo, A.ow, A.sn, A.ca, A.od)
abbrev sSC (A : AT) (sn ca : Nat → Int32) : AT := (A.n, A.run, A.hd, A.sp, A.go, A.P, A.fl, A.lo, A.ow, sn, ca, A.od)
def u1 {α : Type} (f : Nat → α) (k : Nat) (x : α) : Nat → α := fun i => if i = k then x else f i
theorem u1_self {α : Type} {f : Nat → α} {k : Nat} {x : α} (h : f k = x) : u1 f k x = f := by
  funext i
  unfold u1
  split
  · next q => rw [q, h]
  · rfl
theorem RS_ext {A B : AT} {S : OB} (h : RS A S) (e1 : B.n = A.n) (e2 : B.run = A.run) (e3 : B.hd = A.hd) (e4 : B.sp = A.sp) (e5 : B.go = A.go) (e6 : B.P = A.P) (e7 : ∀ k, k < A.n → B.fl k = A.fl k) (e8 : ∀ k, k < A.n → B.lo k = A.lo k) (e9 : ∀ k, k < 32 → B.ow k = A.ow k) (e10 : ∀ k, k < 32 → B.sn k = A.sn k) (e11 : ∀ k, k < 32 → B.ca k = A.ca k) (e12 : B.od = A.od) : RS B S := by
  obtain ⟨h1, h2, h3, h4, h5, h6, h7, h8, h9, h10, h11, h12, h13, h14⟩ := h
  obtain ⟨bn, brun, bhd, bsp, bgo, bP, bfl, blo, bow, bsn, bca, bod⟩ := B
  obtain ⟨an, arun, ahd, asp, ago, aP, afl, alo, aow, asn, aca, aod⟩ := A
  dsimp only [AT.n, AT.run, AT.hd, AT.sp, AT.go, AT.P, AT.fl, AT.lo, AT.ow, AT.sn, AT.ca, AT.od] at *
  subst e1 e2 e3 e4 e5 e6 e12
  exact ⟨h1, h2, h3, h4, h5, h6, h7, h8, fun k hk => (h9 k hk).trans (congrArg oI (e9 k hk).symm), fun k hk => (h10 k hk).trans (e10 k hk).symm, fun k hk => (h11 k hk).trans (e11 k hk).symm, h12, fun k hk => (h13 k hk).trans (congrArg bZ (e7 k hk).symm), fun k hk => (h14 k hk).trans (e8 k hk).symm⟩
theorem RS_flag {A : AT} {S : OB} (h : RS A S) {k : Nat} {b : Bool} : RS (sFL A (u1 A.fl k b) A.lo) (S.1, up2 S.2 5 (upd (S.2 5) k (bZ b))) := by
  obtain ⟨h1, h2, h3, h4, h5, h6, h7, h8, h9, h10, h11, h12, h13, h14⟩ := h
  refine ⟨h1, h2, h3, h4, h5, h6, h7, h8, h9, h10, h11, h12, fun i hi => ?_, h14⟩
  show (if i = k then bZ b else S.2 5 i) = bZ (if i = k then b else A.fl i)
  split
  · rfl
  · exact h13 i hi
theorem RS_loss {A : AT} {S : OB} (h : RS A S) {k : Nat} {v : Int32} : RS (sFL A A.fl (u1 A.lo k v)) (S.1, up2 S.2 6 (upd (S.2 6) k v)) := by
  obtain ⟨h1, h2, h3, h4, h5, h6, h7, h8, h9, h10, h11, h12, h13, h14⟩ := h
  refine ⟨h1, h2, h3, h4, h5, h6, h7, h8, h9, h10, h11, h12, h13, fun i hi => ?_⟩
  show (if i = k then v else S.2 6 i) = (if i = k then v else A.lo i)
  split
  · rfl
  · exact h14 i hi
theorem RS_owner {A : AT} {S : OB} (h : RS A S) {k : Nat} {o : Option Nat} : RS (sOW A (u1 A.ow k o)) (S.1, up2 S.2 0 (upd (S.2 0) k (oI o))) := by
  obtain ⟨h1, h2, h3, h4, h5, h6, h7, h8, h9, h10, h11, h12, h13, h14⟩ := h
  refine ⟨h1, h2, h3, h4, h5, h6, h7, h8, fun i hi => ?_, h10, h11, h12, h13, h14⟩
  show (if i = k then oI o else S.2 0 i) = oI (if i = k then o else A.ow i)
  split
  · rfl
  · exact h9 i hi
theorem RS_sound {A : AT} {S : OB} (h : RS A S) {k : Nat} {v : Int32} : RS (sSC A (u1 A.sn k v) A.ca) (S.1, up2 S.2 1 (upd (S.2 1) k v)) := by
  obtain ⟨h1, h2, h3, h4, h5, h6, h7, h8, h9, h10, h11, h12, h13, h14⟩ := h
  refine ⟨h1, h2, h3, h4, h5, h6, h7, h8, h9, fun i hi => ?_, h11, h12, h13, h14⟩
  show (if i = k then v else S.2 1 i) = (if i = k then v else A.sn i)
  split
  · rfl
  · exact h10 i hi
theorem RS_carbon {A : AT} {S : OB} (h : RS A S) {k : Nat} {v : Int32} : RS (sSC A A.sn (u1 A.ca k v)) (S.1, up2 S.2 2 (upd (S.2 2) k v)) := by
  obtain ⟨h1, h2, h3, h4, h5, h6, h7, h8, h9, h10, h11, h12, h13, h14⟩ := h
  refine ⟨h1, h2, h3, h4, h5, h6, h7, h8, h9, h10, fun i hi => ?_, h12, h13, h14⟩
  show (if i = k then v else S.2 2 i) = (if i = k then v else A.ca i)
  split
  · rfl
  · exact h11 i hi
theorem RS_runs {A : AT} {S : OB} (h : RS A S) {b : Bool} : RS (sN A A.n b) (upd S.1 8 (bZ b), S.2) := by
  obtain ⟨h1, h2, h3, h4, h5, h6, h7, h8, h9, h10, h11, h12, h13, h14⟩ := h
  exact ⟨h1, h2, rfl, h4, h5, h6, h7, h8, h9, h10, h11, h12, h13, h14⟩
theorem RS_less {A : AT} {S : OB} (h : RS A S) {m : Nat} (hm : m ≤ A.n) : RS (sN A m A.run) (upd S.1 7 (nI m), S.2) := by
  obtain ⟨h1, h2, h3, h4, h5, h6, h7, h8, h9, h10, h11, h12, h13, h14⟩ := h
  exact ⟨h1, rfl, h3, h4, h5, h6, h7, h8, h9, h10, h11, h12, fun k hk => h13 k (Nat.lt_of_lt_of_le hk hm), fun k hk => h14 k (Nat.lt_of_lt_of_le hk hm)⟩
theorem RS_gone {A : AT} {S : OB} (h : RS A S) {m : Nat} : RS (sGO A m) (upd S.1 11 (nI m), S.2) := by
  obtain ⟨h1, h2, h3, h4, h5, h6, h7, h8, h9, h10, h11, h12, h13, h14⟩ := h
  exact ⟨h1, h2, h3, h4, h5, rfl, h7, h8, h9, h10, h11, h12, h13, h14⟩
theorem RS_head {A : AT} {S : OB} (h : RS A S) {m : Nat} : RS (sHS A m A.sp) (upd S.1 9 (nI m), S.2) := by
  obtain ⟨h1, h2, h3, h4, h5, h6, h7, h8, h9, h10, h11, h12, h13, h14⟩ := h
  exact ⟨h1, h2, h3, rfl, h5, h6, h7, h8, h9, h10, h11, h12, h13, h14⟩
theorem RS_spoken {A : AT} {S : OB} (h : RS A S) {m : Nat} : RS (sHS A A.hd m) (upd S.1 10 (nI m), S.2) := by
  obtain ⟨h1, h2, h3, h4, h5, h6, h7, h8, h9, h10, h11, h12, h13, h14⟩ := h
  exact ⟨h1, h2, h3, h4, rfl, h6, h7, h8, h9, h10, h11, h12, h13, h14⟩
theorem RS_player {A : AT} {S : OB} (h : RS A S) {a b : Int32} {P : Option (Nat × Nat)} (ha : a = oI (P.map Prod.fst)) (hb : b = oI (P.map Prod.snd)) : RS (sP A P) (upd (upd S.1 12 a) 13 b, S.2) := by
  obtain ⟨h1, h2, h3, h4, h5, h6, h7, h8, h9, h10, h11, h12, h13, h14⟩ := h
  exact ⟨h1, h2, h3, h4, h5, h6, ha, hb, h9, h10, h11, h12, h13, h14⟩
/-! a recording leaves -/
def sh1 (r : Nat) (o : Option Nat) : Option Nat := match o with
  | none => none
  | some q => if q ≤ r then some q else some (q - 1)
def shO (r : Nat) (o : Option Nat) : Option Nat := match o with
  | none => none
  | some q => if q = r then none else if q ≤ r then some q else some (q - 1)
def shP (r : Nat) (o : Option (Nat × Nat)) : Option (Nat × Nat) := match o with
  | none => none
  | some (q, p) => if q = r then none else if q ≤ r then some (q, p) else some (q - 1, p)
def shF {α : Type} (r : Nat) (f : Nat → α) : Nat → α := fun k => if k < r then f k else f (k + 1)
/-- recording r leaves -/
def rmv (A : AT) (r : Nat) : AT := (A.n - 1, A.run && decide (r ≠ A.n - 1), A.hd, A.sp, A.go, shP r A.P, shF r A.fl, shF r A.lo, (fun k => shO r (A.ow k)), A.sn, A.ca, A.od.filter (fun k => !isO A r k))
theorem s_rm79 (r : Nat) (hr : r < 2 ^ 31 - 1) : ∀ (d f j : Nat) (A : AT) (S : OB), RS A S → (∀ k, k < 32 → ∀ q, A.ow k = some q → q < 2 ^ 31) → (∀ q, A.P.map Prod.fst = some q → q < 2 ^ 31) → j + d = 32 → d < f → ∃ S', lpf3 b_X1_removeRecording_79 f (nI r) (nI j) S = some S' ∧ RS (sP (sOW A (fun k => if k < j then A.ow k else sh1 r (A.ow k))) (shP r A.P)) S'
  | 0, f + 1, j, A, S, h, hb, hq, hj, _ => by
    obtain rfl : j = 32 := hj
    show ∃ S', b_X1_removeRecording_79 _ _ _ _ = some S' ∧ _
    unfold b_X1_removeRecording_79
    simp (disch := omega) only [nm_eq, lit, neg1, nI_leI, Nat.le_refl, if_true]
    have hp := RS_p1 h
    have h' : RS (sOW A (fun k => if k < 32 then A.ow k else sh1 r (A.ow k))) S := RS_ext h rfl rfl rfl rfl rfl rfl (fun _ _ => rfl) (fun _ _ => rfl) (fun k hk => if_pos hk) (fun _ _ => rfl) (fun _ _ => rfl) rfl
    cases e : A.P with
    | none => 
      rw [e] at hp
      have hp : S.1 12 = -1 := hp
      rw [hp, if_neg (fun q => nI_m1 (n := r) (by omega) q.symm), if_pos (Int32.le_of_lt (Int32.lt_of_lt_of_le m1_lt0 (nI_pos' (by omega))))]
      exact ⟨S, rfl, RS_ext h' rfl rfl rfl rfl rfl (by show shP r none = A.P; rw [e]; rfl) (fun _ _ => rfl) (fun _ _ => rfl) (fun _ _ => rfl) (fun _ _ => rfl) (fun _ _ => rfl) rfl⟩
    | some w =>
      obtain ⟨q, p⟩ := w
      have hq' := hq q (by rw [e]; rfl)
      rw [e] at hp
      have hp : S.1 12 = nI q := hp
      rw [hp]
      by_cases e1 : q = r
      · rw [if_pos (by rw [e1])]
        refine ⟨_, rfl, ?_⟩
        rw [show shP r (some (q, p)) = none from if_pos e1]
        exact RS_player h' rfl rfl
      · rw [if_neg (by rw [nI_eq (by omega) (by omega)]; exact e1)]
        by_cases e2 : q ≤ r
        · rw [if_pos (by rw [nI_leI (by omega) (by omega)]; exact e2)]
          refine ⟨S, rfl, ?_⟩
          rw [show shP r (some (q, p)) = some (q, p) from by simp only [shP]; rw [if_neg e1, if_pos e2]]
          exact RS_ext h' rfl rfl rfl rfl rfl e.symm (fun _ _ => rfl) (fun _ _ => rfl) (fun _ _ => rfl) (fun _ _ => rfl) (fun _ _ => rfl) rfl
        · rw [if_neg (by rw [nI_leI (by omega) (by omega)]; exact e2)]
          refine ⟨_, rfl, ?_⟩
          rw [show shP r (some (q, p)) = some (q - 1, p) from by simp only [shP]; rw [if_neg e1, if_neg e2]]
          have := RS_p2 h
          rw [e] at this
          have h2 := RS_player h' (P := some (q - 1, p)) (a := nI q - nI 1) (b := S.1 13) (sub_nI (by omega)) this
          have e9 : upd (upd S.1 12 (nI q - nI 1)) 13 (S.1 13) = upd S.1 12 (nI q - nI 1) := by
            funext i
            show (if i = 13 then S.1 13 else if i = 12 then _ else S.1 i) = if i = 12 then _ else S.1 i
            by_cases e3 : i = 13
            · subst e3; rfl
            · rw [if_neg e3]
          rw [e9] at h2
          exact h2
  | d + 1, f + 1, j, A, S, h, hb, hq, hj, hf => by
    have hk : j < 32 := by omega
    show ∃ S', b_X1_removeRecording_79 (lpf3 b_X1_removeRecording_79 f) _ _ _ = some S' ∧ _
    have ih := s_rm79 r hr d f (j + 1)
    generalize lpf3 b_X1_removeRecording_79 f = K at ih ⊢
    unfold b_X1_removeRecording_79
    simp (disch := omega) only [nm_eq, lit, neg1, nI_leI, vAt_nI, pAt_nI, RS_ow h hk, nI_add]
    rw [if_neg (by omega)]
    have fin : ∀ (B : AT) (S' : OB), RS B S' → B = sOW A (u1 A.ow j (sh1 r (A.ow j))) → ∃ S'', K (nI r) (nI (j + 1)) S' = some S'' ∧ RS (sP (sOW A (fun k => if k < j then A.ow k else sh1 r (A.ow k))) (shP r A.P)) S'' := by
      rintro B S' h' rfl
      obtain ⟨S'', k1, k2⟩ := ih _ S' h' (fun k hk q e => by
        have e : u1 A.ow j (sh1 r (A.ow j)) k = some q := e
        by_cases e3 : k = j
        · rw [show u1 A.ow j (sh1 r (A.ow j)) k = sh1 r (A.ow j) from if_pos e3] at e
          cases e4 : A.ow j with
          | none => rw [e4] at e; cases e
          | some z =>
            have := hb j (by omega) z e4
            rw [e4] at e
            have e : (if z ≤ r then some z else some (z - 1)) = some q := e
            split at e <;> (cases e; omega)
        · rw [show u1 A.ow j (sh1 r (A.ow j)) k = A.ow k from if_neg e3] at e
          exact hb k hk q e) hq (by omega) (by omega)
      refine ⟨S'', k1, RS_ext k2 rfl rfl rfl rfl rfl rfl (fun _ _ => rfl) (fun _ _ => rfl) (fun k hk => ?_) (fun _ _ => rfl) (fun _ _ => rfl) rfl⟩
      show (if k < j then A.ow k else sh1 r (A.ow k)) = if k < j + 1 then u1 A.ow j (sh1 r (A.ow j)) k else sh1 r (u1 A.ow j (sh1 r (A.ow j)) k)
      unfold u1
      by_cases e1 : k < j
      · rw [if_pos e1, if_pos (by omega), if_neg (by omega)]
      · rw [if_neg e1]
        by_cases e2 : k = j
        · rw [if_pos (by omega), if_pos e2, e2]
        · rw [if_neg (by omega), if_neg e2]
    cases e : A.ow j with
    | none =>
      rw [oI_none, if_pos (Int32.le_of_lt (Int32.lt_of_lt_of_le m1_lt0 (nI_pos' (by omega))))]
      refine fin A S h ?_
      rw [e]
      show A = sOW A (u1 A.ow j none)
      rw [u1_self e]
    | some q =>
      have hq' := hb j hk q e
      rw [oI_some]
      by_cases e1 : q ≤ r
      · rw [if_pos (by rw [nI_leI (by omega) (by omega)]; exact e1)]
        refine fin A S h ?_
        rw [u1_self (show A.ow j = sh1 r (A.ow j) by rw [e]; exact (if_pos e1).symm)]
      · rw [if_neg (by rw [nI_leI (by omega) (by omega)]; exact e1), sub_nI (by omega)]
        refine fin _ _ (RS_owner h (k := j) (o := some (q - 1))) ?_
        rw [e, show sh1 r (some q) = some (q - 1) from if_neg e1]
theorem s_rm15 (r : Nat) : ∀ (d f j : Nat) (A : AT) (S : OB), RS A S → A.n ≤ 10 → j + 1 + d = A.n → d < f → ∃ S', lpf3 b_X1_removeRecording_15 f (nI r) (nI j) S = lpf3 b_X1_removeRecording_79 FU (nI r) (nI 0) S' ∧ RS (sN (sFL A (shF j A.fl) (shF j A.lo)) (A.n - 1) A.run) S'
  | 0, f + 1, j, A, S, h, hn, hj, _ => by
    show ∃ S', b_X1_removeRecording_15 _ _ _ _ = _ ∧ _
    unfold b_X1_removeRecording_15
    simp (disch := omega) only [nm_eq, lit, neg1, nI_leI, RS_n h, nI_add]
    rw [if_pos (by omega), sub_nI (by omega)]
    refine ⟨_, rfl, ?_⟩
    have h' := RS_less h (m := A.n - 1) (by omega)
    exact RS_ext h' rfl rfl rfl rfl rfl rfl (fun k hk => if_pos (show k < j by have hk : k < A.n - 1 := hk; omega)) (fun k hk => if_pos (show k < j by have hk : k < A.n - 1 := hk; omega)) (fun _ _ => rfl) (fun _ _ => rfl) (fun _ _ => rfl) rfl
  | d + 1, f + 1, j, A, S, h, hn, hj, hf => by
    show ∃ S', b_X1_removeRecording_15 (lpf3 b_X1_removeRecording_15 f) _ _ _ = _ ∧ _
    have ih := s_rm15 r d f (j + 1)
    generalize lpf3 b_X1_removeRecording_15 f = K at ih ⊢
    unfold b_X1_removeRecording_15
    have h1 := RS_flag h (k := j) (b := A.fl (j + 1))
    have h2 := RS_loss h1 (k := j) (v := A.lo (j + 1))
    simp (disch := omega) only [nm_eq, lit, nI_leI, RS_n h, nI_add, vAt_nI, pAt_nI, RS_fl h (show j + 1 < A.n by omega)]
    rw [if_neg (by omega), show (up2 S.2 5 (upd (S.2 5) j (bZ (A.fl (j + 1))))) 6 (j + 1) = A.lo (j + 1) from RS_lo h (by omega)]
    obtain ⟨S', k1, k2⟩ := ih _ _ h2 hn (by show j + 1 + 1 + d = A.n; omega) (by omega)
    refine ⟨S', k1, RS_ext k2 rfl rfl rfl rfl rfl rfl (fun k hk => ?_) (fun k hk => ?_) (fun _ _ => rfl) (fun _ _ => rfl) (fun _ _ => rfl) rfl⟩
    · show shF j A.fl k = shF (j + 1) (u1 A.fl j (A.fl (j + 1))) k
      unfold shF u1
      by_cases e1 : k < j
      · rw [if_pos e1, if_pos (by omega), if_neg (by omega)]
      · rw [if_neg e1]
        by_cases e2 : k = j
        · rw [if_pos (by omega), if_pos e2, e2]
        · rw [if_neg (by omega), if_neg (by omega)]
    · show shF j A.lo k = shF (j + 1) (u1 A.lo j (A.lo (j + 1))) k
      unfold shF u1
      by_cases e1 : k < j
      · rw [if_pos e1, if_pos (by omega), if_neg (by omega)]
      · rw [if_neg e1]
        by_cases e2 : k = j
        · rw [if_pos (by omega), if_pos e2, e2]
        · rw [if_neg (by omega), if_neg (by omega)]
theorem s_rmv {A : AT} {S : OB} (hi : INV A) (h : RS A S) {r : Nat} (hr : r < A.n) (h0 : ∀ k, k < 32 → A.ow k ≠ some r) : ∃ S', f_X1_removeRecording (nI r) S = some S' ∧ RS (rmv A r) S' := by
  have hn := INV_n hi
  unfold f_X1_removeRecording
  rw [s_run hi h, bd_some]
  have main : ∀ (b : Bool) (S1 : OB), RS (sN A A.n b) S1 → b = (A.run && decide (r ≠ A.n - 1)) → ∃ S', lpf3 b_X1_removeRecording_15 FU (nI r) (nI r) S1 = some S' ∧ RS (rmv A r) S' := by
    rintro b S1 h1 rfl
    obtain ⟨S2, k1, k2⟩ := s_rm15 r (A.n - 1 - r) FU r _ S1 h1 hn (by show r + 1 + (A.n - 1 - r) = A.n; omega) (Nat.lt_of_le_of_lt (show A.n - 1 - r ≤ 10 by omega) (by decide))
    obtain ⟨S3, k3, k4⟩ := s_rm79 r (by omega) 32 FU 0 _ S2 k2 (fun k hk => owB hi hk) (show ∀ q, A.P.map Prod.fst = some q → q < 2 ^ 31 from P1B hi) rfl (by decide)
    refine ⟨S3, k1.trans k3, RS_ext k4 rfl rfl rfl rfl rfl rfl (fun _ _ => rfl) (fun _ _ => rfl) (fun k hk => ?_) (fun _ _ => rfl) (fun _ _ => rfl) ?_⟩
    · show shO r (A.ow k) = sh1 r (A.ow k)
      unfold shO sh1
      cases e : A.ow k with
      | none => rfl
      | some q =>
        have : q ≠ r := fun e1 => h0 k hk (e1 ▸ e)
        simp only [if_neg this]
    · show A.od.filter (fun k => !isO A r k) = A.od
      refine List.filter_eq_self.mpr (fun k hk => ?_)
      have := h0 k (od_lt hi k hk)
      simp [isO, this]
  by_cases e : rn A = some r
  · rw [if_pos (by rw [e]; rfl)]
    have e1 : A.run = true := by
      cases e2 : A.run with
      | true => rfl
      | false => unfold rn at e; rw [e2] at e; cases e
    have e2 : r = A.n - 1 := by unfold rn at e; rw [e1, if_pos rfl] at e; cases e; rfl
    exact main false _ (RS_runs h) (by rw [e2]; simp)
  · rw [if_neg (fun q => e ((oI_nI (rnB' hi) (by omega)).mp q.symm))]
    refine main A.run _ h ?_
    cases e2 : A.run with
    | false => rfl
    | true =>
      have : r ≠ A.n - 1 := fun q => e (by unfold rn; rw [e2, if_pos rfl, q])
      simp [this]
