/-! steps that change nothing -/
theorem s_free {A : AT} {S : OB} (hi : INV A) (h : RS A S) : 32 - S.1 4 = nI (cnt A none) := by
  have := od_free hi
  rw [RS_us h, show (32 : Int32) = nI 32 from rfl, sub_nI (by omega), show 32 - A.od.length = cnt A none by omega]
/-! pieces -/
theorem s_flag {A : AT} {S : OB} (hi : INV A) (h : RS A S) {r : Nat} (hr : r < A.n) : f_X1_isFlagged (nI r) S = some (bZ (A.fl r)) := by
  have hn := INV_n hi
  unfold f_X1_isFlagged
  rw [vAt_nI (by omega) (by decide), RS_fl h hr]
  cases A.fl r <;> rfl
theorem bd2_id {α β : Type} (o : Option (α × β)) : bd2 o (fun a b => some (a, b)) = o := by
  cases o <;> rfl
/-- what lies in a cell, if there is one -/
def pl (o : Option Nat) (f : Nat → Int32) : Int32 := match o with
  | none => -1
  | some k => f k
theorem vAt_m1 {N : Nat} {f : Nat → Int32} : vAt N f (-1) = -1 := by
  unfold vAt
  rw [if_pos (by decide)]
theorem pl_v {A : AT} {r p : Nat} (hi : INV A) {f g : Nat → Int32} (h : ∀ k, k < 32 → g k = f k) : vAt 32 g (oI (at_ (isO A r) A.od p)) = pl (at_ (isO A r) A.od p) f := by
  cases e : at_ (isO A r) A.od p with
  | none => exact vAt_m1
  | some k =>
    have hk := od_lt hi k ((at_bf (INV_nd hi)).mp e).1
    rw [oI_some, vAt_nI hk (by decide), h k hk]
    rfl
/-! steps that may throw and change nothing -/
