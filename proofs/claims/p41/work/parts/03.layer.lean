/-! THE LAYER: one word list for all methods, one judgement X over a context, the rows of the kit lifted to it; words for the code that is read out of the bytecode -/
abbrev GW : List Cond := wsL_law
set_option maxRecDepth 100000 in
theorem gw_good : wsL_law.all goodWord = true := by decide +kernel
theorem gw_self : GoodIn GW GW := goodIn_sub (fun _ h => h) gw_good
theorem gw_app (ws : List Cond) (ps : List Nat) (hp : ws = ps.filterMap (fun i => GW[i]?)) (h : ws.all goodWord = true) : GoodIn GW (ws ++ GW) := goodIn_app (goodIn_r ws ps hp h) gw_self
/-- the classes of the arrays: of ints, of longs, of states -/
abbrev CS : Type := ClassId × ClassId × ClassId
abbrev TY (cs : CS) : List (ClassId × FieldType) := [(cs.1, .int), (cs.2.1, .long), (cs.2.2, .object RX1)]
def nestW : List Cond := [.methodLinkNest RX1 62 yX2_valueAt RX2, .methodLinkNest RX1 66 yX2_putAt RX2]
def castW : List Cond := [.castable "java/lang/IllegalStateException" "java/lang/IllegalStateException", .castable "java/lang/IllegalArgumentException" "java/lang/IllegalArgumentException", .castable "java/lang/IndexOutOfBoundsException" "java/lang/IndexOutOfBoundsException", .declares ⟨"java/lang/RuntimeException", "<init>", "(Ljava/lang/String;)V"⟩, .declares ⟨"java/lang/Exception", "<init>", "(Ljava/lang/String;)V"⟩, .declares ⟨"java/lang/Throwable", "<init>", "(Ljava/lang/String;)V"⟩, .arrayOver (.object RX1)]
def ncW : List (String × String) := []
def strW : List (Nat × String) := [(40, "there are 10 recordings"), (56, "no recording is running"), (290, "a sound is 0 to 99"), (69, "no recording is running, or the belt is full"), (281, "there is no such recording"), (85, "the recording has a flag"), (288, "there is no such cell"), (94, "a recording is running"), (284, "there is no such recording or place"), (286, "the player is nowhere"), (151, "the pedal goes back by 1 to 9 cells"), (292, "a forecast is for 1 to 32 sounds"), (206, "no state is saved")]
/-- the tables' facts that each callee is handed -/
def KN (D : va_G) (cs : CS) (U : State) : Prop := va_K D vwCl (TY cs) U ∧ (∀ w ∈ nestW, va_Nw w U) ∧ (∀ w ∈ castW, va_Nw w U) ∧ (∀ q ∈ ncW, va_Nc q.1 q.2 U) ∧ ∀ q ∈ strW, ∃ a, vk_R RX2 q.1 q.2 a U
theorem nest_shape {w : Cond} (h : w ∈ nestW) : ∃ (a : String) (i : Nat) (x : MethodName) (b : String), w = .methodLinkNest a i x b := by
  simp only [nestW, List.mem_cons, List.not_mem_nil, or_false] at h
  rcases h with h | h <;> exact ⟨_, _, _, _, h⟩
theorem cast_shape {w : Cond} (h : w ∈ castW) : (∃ (a b : String), w = .castable a b) ∨ (∃ x : MethodName, w = .declares x) ∨ w = .arrayOver (.object RX1) := by
  simp only [castW, List.mem_cons, List.not_mem_nil, or_false] at h
  rcases h with h | h | h | h | h | h | h
  · exact Or.inl ⟨_, _, h⟩
  · exact Or.inl ⟨_, _, h⟩
  · exact Or.inl ⟨_, _, h⟩
  · exact Or.inr (Or.inl ⟨_, h⟩)
  · exact Or.inr (Or.inl ⟨_, h⟩)
  · exact Or.inr (Or.inl ⟨_, h⟩)
  · exact Or.inr (Or.inr h)
theorem KN.warm {D : va_G} {cs : CS} {s U : State} (hW : s.WarmedH U.vm) (h : KN D cs s) : KN D cs U := by
  refine ⟨va_K.moved hW.alike h.1, fun w hw => ?_, fun w hw => ?_, fun q hq => va_Nc.moved hW.alike (h.2.2.2.1 q hq), fun q hq => ?_⟩
  · obtain ⟨a, i, x, b, rfl⟩ := nest_shape hw
    exact va_Nw.warmM hW (h.2.1 _ hw)
  · rcases cast_shape hw with ⟨a, b, rfl⟩ | ⟨x, rfl⟩ | rfl
    · exact va_Nw.warmC hW (h.2.2.1 _ hw)
    · exact va_Nw.warmD hW (h.2.2.1 _ hw)
    · exact va_AO.moved hW.alike (h.2.2.1 _ hw)
  · obtain ⟨a, ha⟩ := h.2.2.2.2 q hq
    exact ⟨a, vk_R.warm hW ha⟩
theorem KN.same {D : va_G} {cs : CS} {s U : State} (hv : s.vm = U.vm) (h : KN D cs s) : KN D cs U := by
  refine ⟨va_K.moved (by rw [hv]; exact Vm.Alike.refl U.vm) h.1, fun w hw => ?_, fun w hw => ?_, fun q hq => va_Nc.moved (by rw [hv]; exact Vm.Alike.refl U.vm) (h.2.2.2.1 q hq), fun q hq => ?_⟩
  · obtain ⟨a, i, x, b, rfl⟩ := nest_shape hw
    exact va_Nw.same rfl hv (h.2.1 _ hw)
  · rcases cast_shape hw with ⟨a, b, rfl⟩ | ⟨x, rfl⟩ | rfl
    · exact va_Nw.same rfl hv (h.2.2.1 _ hw)
    · exact va_Nw.same rfl hv (h.2.2.1 _ hw)
    · exact va_AO.moved (by rw [hv]; exact Vm.Alike.refl U.vm) (h.2.2.1 _ hw)
  · obtain ⟨a, ha⟩ := h.2.2.2.2 q hq
    exact ⟨a, vk_R.same hv.symm ha⟩
/-- what a walk stands in: the program, launch, .. , the end to reach, the cells that may be written, the classes -/
abbrev Ctx : Type := Program × Launch × Env × Room × State × MethodId × Array Value × List Frame × Method × Code × (State → Prop) × (Nat → Prop) × va_G × CS
abbrev Ctx.l (Γ : Ctx) : Launch := Γ.2.1
abbrev Ctx.D (Γ : Ctx) : va_G := Γ.2.2.2.2.2.2.2.2.2.2.2.2.1
abbrev Ctx.cs (Γ : Ctx) : CS := Γ.2.2.2.2.2.2.2.2.2.2.2.2.2
/-- the frame at pc, with the locals lv, the stack st, in the world ws, reaches its end; k cells of n slots were made so far -/
def X (Γ : Ctx) (nL k n pc : Nat) (lv : List (Nat × Value)) (st : List Value) (ws : va_W) : Prop := match Γ with
  | (p, l, e, R, s, m, args, below, meth, c, Q, A, D, _) => ∀ (H : Heap) (locs : List Loc) (ls : Array Slot), va_P D vwCl ws H → va_D A ws → va_S A s.heap H locs → lv_has ls nL lv → W p l e R s m args below meth c H locs k n Q (F0 m pc ls st)
/-- the method's own facts: its code, locals, class, room -/
def CX (Γ : Ctx) (cc : ByteArray) (nL : Nat) (own : String) (R0 : Room) : Prop := match Γ with
  | (p, _, _, R, s, m, args, _, meth, c, _, A, D, cs) => CallFix p m c cc nL s args GW own ∧ KN D cs s ∧ (∀ q, s.heap.size ≤ q → A q) ∧ meth.locks = false ∧ R = R0
/-! words of the code read out -/
def nm {α β : Type} (k : α → β) (x : α) : β := k x
def bd {α β : Type} (o : Option α) (k : α → Option β) : Option β := match o with
  | none => none
  | some a => k a
def bd2 {α γ β : Type} (o : Option (α × γ)) (k : α → γ → Option β) : Option β := match o with
  | none => none
  | some q => k q.1 q.2
def gd {β : Type} (i : Int32) (n : Nat) (a : Option β) : Option β := if i < 0 ∨ n ≤ i.toNatClampNeg then none else a
def zb {β : Type} (r : Int32) (a : Option β) : Option β := if r = 0 ∨ r = 1 then a else none
def nz {β : Type} (r : Int32) (a : Option β) : Option β := if r = 0 then none else a
theorem nm_elim {α β : Type} {k : α → Option β} {x : α} {r : β} (h : nm k x = some r) : ∃ y, y = x ∧ k y = some r := ⟨x, rfl, h⟩
theorem bd_elim {α β : Type} {o : Option α} {k : α → Option β} {r : β} (h : bd o k = some r) : ∃ a, o = some a ∧ k a = some r := by
  cases o with
  | none => cases h
  | some a => exact ⟨a, rfl, h⟩
theorem bd2_elim {α γ β : Type} {o : Option (α × γ)} {k : α → γ → Option β} {r : β} (h : bd2 o k = some r) : ∃ a b, o = some (a, b) ∧ k a b = some r := by
  cases o with
  | none => cases h
  | some q => exact ⟨q.1, q.2, rfl, h⟩
theorem gd_elim {β : Type} {i : Int32} {n : Nat} {a : Option β} {r : β} (h : gd i n a = some r) : vp_in i n ∧ a = some r := by
  unfold gd at h
  split at h
  · cases h
  · exact ⟨by assumption, h⟩
theorem zb_elim {β : Type} {i : Int32} {a : Option β} {r : β} (h : zb i a = some r) : (i = 0 ∨ i = 1) ∧ a = some r := by
  unfold zb at h
  split at h
  · exact ⟨by assumption, h⟩
  · cases h
theorem nz_elim {β : Type} {i : Int32} {a : Option β} {r : β} (h : nz i a = some r) : ¬ i = 0 ∧ a = some r := by
  unfold nz at h
  split at h
  · cases h
  · exact ⟨by assumption, h⟩
theorem ite_t {β : Type} {c : Prop} [Decidable c] {a b : Option β} {r : β} (hc : c) (h : (if c then a else b) = some r) : a = some r := by rwa [if_pos hc] at h
theorem ite_f {β : Type} {c : Prop} [Decidable c] {a b : Option β} {r : β} (hc : ¬ c) (h : (if c then a else b) = some r) : b = some r := by rwa [if_neg hc] at h
theorem some2 {α γ : Type} {a a' : α} {b b' : γ} (h : some (a, b) = some (a', b')) : a = a' ∧ b = b' := by cases h; exact ⟨rfl, rfl⟩
theorem zb_nar {r : Int32} (h : r = 0 ∨ r = 1) : narrow .boolean (.int r) = .int r := by rcases h with rfl | rfl <;> rfl
def up2 {α : Type} (f : Nat → Nat → α) (j : Nat) (g : Nat → α) : Nat → Nat → α := fun i => if i = j then g else f i
/-- valueAt and putAt -/
def vAt (N : Nat) (f : Nat → Int32) (i : Int32) : Int32 := if i < 0 then -1 else if nI N ≤ i then -1 else f i.toNatClampNeg
def pAt (N : Nat) (f : Nat → Int32) (i v : Int32) : Nat → Int32 := if i < 0 then f else if nI N ≤ i then f else upd f i.toNatClampNeg v
