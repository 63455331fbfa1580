/-! what the belt's methods answer, by the pure state; no argument is out of range -/
theorem bxr_in' {α β : Type} (a : α) (k : α → Option (String ⊕ β)) : bxr (some (.inr a)) k = k a := rfl
theorem bxw_in' {α β σ : Type} (S : σ) (a : α) (k : α → Option ((String ⊕ β) × σ)) : bxw S (some (.inr a)) k = k a := rfl
theorem bn_in {α β : Type} (a : α) (k : α → Option β) : bn (some (.inr a)) k = k a := rfl
theorem bn2_in {α σ β : Type} (a : α) (S : σ) (k : α → σ → Option β) : bn2 (some (.inr a, S)) k = k a S := rfl
theorem n31 {n : Nat} (h : n < 100) : n < 2 ^ 31 := by omega
theorem r_rec {A : AT} {S : OB} (hi : INV A) (h : RS A S) {r : Nat} (hr : r < A.n) : f_X1_isRecording (nI r) S = some 1 := by
  have hn := INV_n hi
  unfold f_X1_isRecording
  rw [RS_n h, if_neg (nI_pos (by omega)), if_neg (by rw [nI_leI (by omega) (by omega)]; omega)]
theorem r_recording {A : AT} {S : BO} (hi : INV A) (h : RS A S.2.1) {r : Nat} (hr : r < A.n) : f_X2_requireRecording (nI r) S = some (.inr ()) := by
  unfold f_X2_requireRecording
  rw [r_rec hi h hr, bd_some, if_neg (by decide)]
theorem r_place {A : AT} {S : BO} (hi : INV A) (h : RS A S.2.1) {r p : Nat} (hr : r < A.n) (hp : p < 2 ^ 31) : f_X2_requirePlace (nI r) (nI p) S = some (.inr ()) := by
  unfold f_X2_requirePlace
  rw [r_rec hi h hr, bd_some, if_neg (by decide), if_pos (nI_pos' hp)]
theorem r_cell {k : Nat} (hk : k < 32) : f_X2_requireCell (nI k) = some (.inr ()) := by
  unfold f_X2_requireCell
  rw [if_neg (nI_pos (by omega)), if_pos (by rw [show (32 : Int32) = nI 32 from rfl, nI_ltI (by omega) (by omega)]; exact hk)]
theorem r_sound {v : Nat} (hv : v ≤ 99) : f_X2_requireSound (nI v) = some (.inr ()) := by
  unfold f_X2_requireSound
  rw [if_neg (nI_pos (by omega)), if_pos (by rw [show (99 : Int32) = nI 99 from rfl, nI_leI (by omega) (by omega)]; exact hv)]
theorem r_fore {m : Nat} (h1 : 1 ≤ m) (h2 : m ≤ 32) : f_X2_requireForecast (nI m) = some (.inr ()) := by
  unfold f_X2_requireForecast
  rw [if_neg (by rw [show (1 : Int32) = nI 1 from rfl, nI_ltI (by omega) (by omega)]; omega), if_pos (by rw [show (32 : Int32) = nI 32 from rfl, nI_leI (by omega) (by omega)]; exact h2)]
theorem r_player {A : AT} {S : BO} (hi : INV A) (h : RS A S.2.1) {r p : Nat} (e : A.P = some (r, p)) : f_X2_requirePlayer S = some (.inr ()) := by
  have hn := INV_n hi
  have := (INV_P hi r p e).1
  unfold f_X2_requirePlayer
  rw [RS_p1 h, e]
  exact if_neg (fun q => nI_m1 (n := r) (by omega) q)
theorem a_recs {A : AT} {S : BO} (h : RS A S.2.1) : f_X2_recordings S = some (nI A.n) := congrArg some (RS_n h)
theorem a_run {A : AT} {S : BO} (hi : INV A) (h : RS A S.2.1) : f_X2_running S = some (oI (rn A)) := by
  unfold f_X2_running
  rw [s_run hi h, bd_some]
theorem a_head {A : AT} {S : BO} (h : RS A S.2.1) : f_X2_head S = some (nI A.hd) := congrArg some (RS_hd h)
theorem a_free {A : AT} {S : BO} (hi : INV A) (h : RS A S.2.1) : f_X2_free S = some (nI (cnt A none)) := congrArg some (s_free hi h)
theorem a_spoken {A : AT} {S : BO} (h : RS A S.2.1) : f_X2_spoken S = some (nI A.sp) := congrArg some (RS_sp h)
theorem a_gone {A : AT} {S : BO} (h : RS A S.2.1) : f_X2_gone S = some (nI A.go) := congrArg some (RS_go h)
theorem a_playing {A : AT} {S : BO} (h : RS A S.2.1) : f_X2_playing S = some (oI (A.P.map Prod.fst)) := congrArg some (RS_p1 h)
theorem a_place {A : AT} {S : BO} (h : RS A S.2.1) : f_X2_place S = some (oI (A.P.map Prod.snd)) := congrArg some (RS_p2 h)
theorem a_corrected {A : AT} {S : BO} (hi : INV A) (h : RS A S.2.1) : f_X2_corrected S = some (nI (cp (cor A) 0 32)) := by
  unfold f_X2_corrected
  rw [s_cor hi h, bd_some]
theorem a_room {A : AT} {S : BO} (hi : INV A) (h : RS A S.2.1) : f_X2_room S = some (nI (wrc A)) := by
  unfold f_X2_room
  rw [s_wrc hi h, bd_some]
  rfl
theorem a_next {A : AT} {S : BO} (hi : INV A) (h : RS A S.2.1) : f_X2_nextLoser S = some (oI (lsr A 0 32)) := by
  unfold f_X2_nextLoser
  rw [s_lsr hi h, bd_some]
theorem s_cntr {A : AT} {S : OB} (hi : INV A) (h : RS A S) {r : Nat} (hr : r < A.n) : f_X1_cellCount (nI r) S = some (nI (cnt A (some r))) :=
  s_cnt (o := some r) hi h (fun q e => by have := INV_n hi; cases e; omega)
theorem a_length {A : AT} {S : BO} (hi : INV A) (h : RS A S.2.1) {r : Nat} (hr : r < A.n) : f_X2_length (nI r) S = some (.inr (nI (cnt A (some r)))) := by
  unfold f_X2_length
  rw [r_recording hi h hr, bxr_in', s_cntr hi h hr, bd_some]
/-- the cells of a recording in their order -/
def cl (A : AT) (r : Nat) : List Nat := A.od.filter (isO A r)
theorem cl_len {A : AT} (hi : INV A) (r : Nat) : (cl A r).length = cnt A (some r) := cnt_fil hi r
/-- the cell at a place -/
def ce (A : AT) (r p : Nat) : Option Nat := (cl A r)[p]?
theorem at_ce (A : AT) (r p : Nat) : at_ (isO A r) A.od p = ce A r p := at_get A.od p
theorem ce_lt {A : AT} (hi : INV A) {r p k : Nat} (e : ce A r p = some k) : k < 32 ∧ A.ow k = some r := by
  obtain ⟨h1, h2⟩ := List.mem_filter.mp (List.mem_of_getElem? e)
  exact ⟨od_lt hi k h1, of_decide_eq_true h2⟩
theorem ce_none {A : AT} (hi : INV A) {r p : Nat} : ce A r p = none ↔ cnt A (some r) ≤ p := by
  unfold ce
  rw [List.getElem?_eq_none_iff, cl_len hi]
theorem a_cellOf {A : AT} {S : BO} (hi : INV A) (h : RS A S.2.1) {r p : Nat} (hr : r < A.n) (hp : p < 2 ^ 31) : f_X2_cellOf (nI r) (nI p) S = some (.inr (oI (ce A r p))) := by
  unfold f_X2_cellOf
  rw [r_place hi h hr hp, bxr_in', s_at hi h hr hp, bd_some, at_ce]
theorem a_sound {A : AT} {S : BO} (hi : INV A) (h : RS A S.2.1) {r p : Nat} (hr : r < A.n) (hp : p < 2 ^ 31) : f_X2_sound (nI r) (nI p) S = some (.inr (pl (ce A r p) A.sn)) := by
  unfold f_X2_sound
  rw [r_place hi h hr hp, bxr_in', s_at hi h hr hp, bd_some, pl_v hi (f := A.sn) (fun k hk => RS_sn h hk), at_ce]
theorem a_carbon {A : AT} {S : BO} (hi : INV A) (h : RS A S.2.1) {r p : Nat} (hr : r < A.n) (hp : p < 2 ^ 31) : f_X2_carbon (nI r) (nI p) S = some (.inr (pl (ce A r p) A.ca)) := by
  unfold f_X2_carbon
  rw [r_place hi h hr hp, bxr_in', s_at hi h hr hp, bd_some, pl_v hi (f := A.ca) (fun k hk => RS_ca h hk), at_ce]
theorem a_flag {A : AT} {S : BO} (hi : INV A) (h : RS A S.2.1) {r : Nat} (hr : r < A.n) : f_X2_hasFlag (nI r) S = some (.inr (bZ (A.fl r))) := by
  unfold f_X2_hasFlag
  rw [r_recording hi h hr, bxr_in', s_flag hi h hr, bd_some, zb_bZ]
theorem a_lost {A : AT} {S : BO} (hi : INV A) (h : RS A S.2.1) {r : Nat} (hr : r < A.n) : f_X2_lost (nI r) S = some (.inr (A.lo r)) := by
  have hn := INV_n hi
  unfold f_X2_lost
  rw [r_recording hi h hr, bxr_in', vAt_nI (by omega) (by decide), RS_lo h hr]
theorem a_owner {A : AT} {S : BO} (h : RS A S.2.1) {k : Nat} (hk : k < 32) : f_X2_owner (nI k) S = some (.inr (oI (A.ow k))) := by
  unfold f_X2_owner
  rw [r_cell hk, bxr_in', vAt_nI hk (by decide), RS_ow h hk]
/-- how many cells a recording would lose -/
def ls (A : AT) (r m : Nat) : Nat := lsa A r m 0 0 32
theorem a_loss {A : AT} {S : BO} (hi : INV A) (h : RS A S.2.1) {r m : Nat} (hr : r < A.n) (h1 : 1 ≤ m) (h2 : m ≤ 32) : f_X2_lossOf (nI r) (nI m) S = some (.inr (nI (ls A r m))) := by
  unfold f_X2_lossOf
  rw [r_recording hi h hr, bxr_in', r_fore h1 h2, bxr_in', s_lsa hi h hr h2, bd_some]
  rfl
/-- how many recordings would go away -/
def ga (A : AT) (m : Nat) : Nat := cp (gaq A m) 0 A.n
theorem a_goneAfter {A : AT} {S : BO} (hi : INV A) (h : RS A S.2.1) {m : Nat} (h1 : 1 ≤ m) (h2 : m ≤ 32) : f_X2_goneAfter (nI m) S = some (.inr (nI (ga A m))) := by
  have hn := INV_n hi
  have := s_ga hi h h2 A.n FU 0 0 (Nat.zero_add _) (Nat.lt_of_le_of_lt hn (by decide))
  rw [Nat.zero_add] at this
  unfold f_X2_goneAfter
  rw [r_fore h1 h2, bxr_in']
  exact this
/-- the digest -/
def dg (A : AT) : Int64 := hO A (hR A (hm (hm (hm (hm (hm (hm (hm (hm (hm (hm (hm 4444 (Int32.toInt64 (nI A.n))) (Int32.toInt64 (oI (rn A)))) (Int32.toInt64 (nI A.hd))) (Int32.toInt64 (nI (cnt A none)))) (Int32.toInt64 (nI A.sp))) (Int32.toInt64 (nI A.go))) (Int32.toInt64 (oI (A.P.map Prod.fst)))) (Int32.toInt64 (oI (A.P.map Prod.snd)))) (Int32.toInt64 (nI (cp (cor A) 0 32)))) (Int32.toInt64 (nI (wrc A)))) (Int32.toInt64 (oI (lsr A 0 32)))) 0 A.n) 0 32
theorem a_digest {A : AT} {S : BO} (hi : INV A) (h : RS A S.2.1) : f_X2_digest S = some (dg A) := by
  have hn := INV_n hi
  unfold f_X2_digest
  rw [a_recs h, bd_some, mixed_eq, bd_some, a_run hi h, bd_some, mixed_eq, bd_some, a_head h, bd_some, mixed_eq, bd_some, a_free hi h, bd_some, mixed_eq, bd_some, a_spoken h, bd_some, mixed_eq, bd_some, a_gone h, bd_some, mixed_eq, bd_some, a_playing h, bd_some, mixed_eq, bd_some, a_place h, bd_some, mixed_eq, bd_some, a_corrected hi h, bd_some, mixed_eq, bd_some, a_room hi h, bd_some, mixed_eq, bd_some, a_next hi h, bd_some, mixed_eq, bd_some]
  exact s_b116 hi h A.n FU 0 _ (Nat.zero_add _) (Nat.lt_of_le_of_lt hn (by decide))
