section ROWS2
variable {Γ : Ctx} {cc : ByteArray} {nL k n pc pc' : Nat} {own : String} {R0 : Room} {lv lv' : List (Nat × Value)} {st : List Value} {ws : va_W}
theorem x_iconst (B : CX Γ cc nL own R0) {i : Int} (v : Int32) (d : decode cc pc = .ok (.iconst i, 1)) (hv : Int32.ofInt i = v) (hp : pc + 1 = pc') (kk : X Γ nL k n pc' lv (.int v :: st) ws) : X Γ nL k n pc lv st ws := by
  obtain ⟨p, l, e, R, s, m, args, below, meth, c, Q, A, D, cs⟩ := Γ
  subst hp
  intro H locs ls hP hD hS hl
  exact lv_iconst B.1.1 B.1.2.1 d hv (kk H locs ls hP hD hS hl)
theorem x_bipush (B : CX Γ cc nL own R0) {i : Int} (v : Int32) (d : decode cc pc = .ok (.bipush i, 2)) (hv : (Int8.ofInt i).toInt32 = v) (hp : pc + 2 = pc') (kk : X Γ nL k n pc' lv (.int v :: st) ws) : X Γ nL k n pc lv st ws := by
  obtain ⟨p, l, e, R, s, m, args, below, meth, c, Q, A, D, cs⟩ := Γ
  subst hp
  intro H locs ls hP hD hS hl
  exact lv_bipush B.1.1 B.1.2.1 d hv (kk H locs ls hP hD hS hl)
theorem x_sipush (B : CX Γ cc nL own R0) {i : Int} (v : Int32) (d : decode cc pc = .ok (.sipush i, 3)) (hv : (Int16.ofInt i).toInt32 = v) (hp : pc + 3 = pc') (kk : X Γ nL k n pc' lv (.int v :: st) ws) : X Γ nL k n pc lv st ws := by
  obtain ⟨p, l, e, R, s, m, args, below, meth, c, Q, A, D, cs⟩ := Γ
  subst hp
  intro H locs ls hP hD hS hl
  exact lv_sipush B.1.1 B.1.2.1 d hv (kk H locs ls hP hD hS hl)
theorem x_lconst (B : CX Γ cc nL own R0) {i : Fin 2} (v : Int64) (d : decode cc pc = .ok (.lconst i, 1)) (hv : Int64.ofNat (i : Nat) = v) (hp : pc + 1 = pc') (kk : X Γ nL k n pc' lv (.long v :: st) ws) : X Γ nL k n pc lv st ws := by
  obtain ⟨p, l, e, R, s, m, args, below, meth, c, Q, A, D, cs⟩ := Γ
  subst hp
  intro H locs ls hP hD hS hl
  exact lv_lconst B.1.1 B.1.2.1 d hv (kk H locs ls hP hD hS hl)
theorem x_ldc2 (B : CX Γ cc nL own R0) {index : Nat} (v : Int64) (hw : Cond.constantLong own index v ∈ GW) (d : decode cc pc = .ok (.ldc2_w index, 3)) (hp : pc + 3 = pc') (kk : X Γ nL k n pc' lv (.long v :: st) ws) : X Γ nL k n pc lv st ws := by
  obtain ⟨p, l, e, R, s, m, args, below, meth, c, Q, A, D, cs⟩ := Γ
  subst hp
  intro H locs ls hP hD hS hl
  exact lv_ldc2 B.1.1 B.1.2.1 B.1.2.2.2.1 (B.1.2.2.2.2 _ hw) d (kk H locs ls hP hD hS hl)
theorem x_ldc2d (B : CX Γ cc nL own R0) {index : Nat} (v : UInt64) (hw : Cond.constantDouble own index v ∈ GW) (d : decode cc pc = .ok (.ldc2_w index, 3)) (hp : pc + 3 = pc') (kk : X Γ nL k n pc' lv (.double v :: st) ws) : X Γ nL k n pc lv st ws := by
  obtain ⟨p, l, e, R, s, m, args, below, meth, c, Q, A, D, cs⟩ := Γ
  subst hp
  intro H locs ls hP hD hS hl
  exact lv_ldc2d B.1.1 B.1.2.1 B.1.2.2.2.1 (B.1.2.2.2.2 _ hw) d (kk H locs ls hP hD hS hl)
theorem x_iload_n (B : CX Γ cc nL own R0) {f : Fin 4} {i : Nat} {x : Int32} (j : Nat) (d : decode cc pc = .ok (.iload_n f, 1)) (hi : (f : Nat) = i) (hj : lv[j]? = some (i, .int x)) (hp : pc + 1 = pc') (kk : X Γ nL k n pc' lv (.int x :: st) ws) : X Γ nL k n pc lv st ws := by
  obtain ⟨p, l, e, R, s, m, args, below, meth, c, Q, A, D, cs⟩ := Γ
  subst hp
  intro H locs ls hP hD hS hl
  exact lv_iload_n B.1.1 B.1.2.1 d hi (lv_at hl j hj) (kk H locs ls hP hD hS hl)
theorem x_iload (B : CX Γ cc nL own R0) {i : Nat} {x : Int32} (j : Nat) (d : decode cc pc = .ok (.iload i, 2)) (hj : lv[j]? = some (i, .int x)) (hp : pc + 2 = pc') (kk : X Γ nL k n pc' lv (.int x :: st) ws) : X Γ nL k n pc lv st ws := by
  obtain ⟨p, l, e, R, s, m, args, below, meth, c, Q, A, D, cs⟩ := Γ
  subst hp
  intro H locs ls hP hD hS hl
  exact lv_iload B.1.1 B.1.2.1 d (lv_at hl j hj) (kk H locs ls hP hD hS hl)
theorem x_lload_n (B : CX Γ cc nL own R0) {f : Fin 4} {i : Nat} {x : Int64} (j : Nat) (d : decode cc pc = .ok (.lload_n f, 1)) (hi : (f : Nat) = i) (hj : lv[j]? = some (i, .long x)) (hp : pc + 1 = pc') (kk : X Γ nL k n pc' lv (.long x :: st) ws) : X Γ nL k n pc lv st ws := by
  obtain ⟨p, l, e, R, s, m, args, below, meth, c, Q, A, D, cs⟩ := Γ
  subst hp
  intro H locs ls hP hD hS hl
  exact lv_lload_n B.1.1 B.1.2.1 d hi (lv_at hl j hj) (kk H locs ls hP hD hS hl)
theorem x_lload (B : CX Γ cc nL own R0) {i : Nat} {x : Int64} (j : Nat) (d : decode cc pc = .ok (.lload i, 2)) (hj : lv[j]? = some (i, .long x)) (hp : pc + 2 = pc') (kk : X Γ nL k n pc' lv (.long x :: st) ws) : X Γ nL k n pc lv st ws := by
  obtain ⟨p, l, e, R, s, m, args, below, meth, c, Q, A, D, cs⟩ := Γ
  subst hp
  intro H locs ls hP hD hS hl
  exact lv_lload B.1.1 B.1.2.1 d (lv_at hl j hj) (kk H locs ls hP hD hS hl)
theorem x_aload_n (B : CX Γ cc nL own R0) {f : Fin 4} {i : Nat} {x : Nat} (j : Nat) (d : decode cc pc = .ok (.aload_n f, 1)) (hi : (f : Nat) = i) (hj : lv[j]? = some (i, .ref x)) (hp : pc + 1 = pc') (kk : X Γ nL k n pc' lv (.ref x :: st) ws) : X Γ nL k n pc lv st ws := by
  obtain ⟨p, l, e, R, s, m, args, below, meth, c, Q, A, D, cs⟩ := Γ
  subst hp
  intro H locs ls hP hD hS hl
  exact lv_aload_n B.1.1 B.1.2.1 d hi (lv_at hl j hj) (kk H locs ls hP hD hS hl)
theorem x_aload (B : CX Γ cc nL own R0) {i : Nat} {x : Nat} (j : Nat) (d : decode cc pc = .ok (.aload i, 2)) (hj : lv[j]? = some (i, .ref x)) (hp : pc + 2 = pc') (kk : X Γ nL k n pc' lv (.ref x :: st) ws) : X Γ nL k n pc lv st ws := by
  obtain ⟨p, l, e, R, s, m, args, below, meth, c, Q, A, D, cs⟩ := Γ
  subst hp
  intro H locs ls hP hD hS hl
  exact lv_aload B.1.1 B.1.2.1 d (lv_at hl j hj) (kk H locs ls hP hD hS hl)
theorem x_istore_n (B : CX Γ cc nL own R0) {f : Fin 4} {i : Nat} {x : Int32} (is : List Nat) (lv' : List (Nat × Value)) (d : decode cc pc = .ok (.istore_n f, 1)) (hi : (f : Nat) = i) (hn : i < nL) (hk : lv_pick ((i, Value.int x) :: lv.filter (fun q => !(q.1 == i) && !(q.1 + 1 == i && q.2.category == 2))) is = lv') (hp : pc + 1 = pc') (kk : X Γ nL k n pc' lv' st ws) : X Γ nL k n pc lv (Value.int x :: st) ws := by
  obtain ⟨p, l, e, R, s, m, args, below, meth, c, Q, A, D, cs⟩ := Γ
  subst hp
  intro H locs ls hP hD hS hl
  exact lv_istore_n B.1.1 B.1.2.1 d hi hl hn rfl (fun ls' hl' => kk H locs ls' hP hD hS (lv_sub hl' is hk))
theorem x_istore (B : CX Γ cc nL own R0) {i : Nat} {x : Int32} (is : List Nat) (lv' : List (Nat × Value)) (d : decode cc pc = .ok (.istore i, 2)) (hn : i < nL) (hk : lv_pick ((i, Value.int x) :: lv.filter (fun q => !(q.1 == i) && !(q.1 + 1 == i && q.2.category == 2))) is = lv') (hp : pc + 2 = pc') (kk : X Γ nL k n pc' lv' st ws) : X Γ nL k n pc lv (Value.int x :: st) ws := by
  obtain ⟨p, l, e, R, s, m, args, below, meth, c, Q, A, D, cs⟩ := Γ
  subst hp
  intro H locs ls hP hD hS hl
  exact lv_istore B.1.1 B.1.2.1 d hl hn rfl (fun ls' hl' => kk H locs ls' hP hD hS (lv_sub hl' is hk))
theorem x_lstore_n (B : CX Γ cc nL own R0) {f : Fin 4} {i : Nat} {x : Int64} (is : List Nat) (lv' : List (Nat × Value)) (d : decode cc pc = .ok (.lstore_n f, 1)) (hi : (f : Nat) = i) (hn : i + 1 < nL) (hk : lv_pick ((i, Value.long x) :: lv.filter (fun q => !(q.1 == i) && (!(q.1 == i + 1) && !(q.1 + 1 == i && q.2.category == 2)))) is = lv') (hp : pc + 1 = pc') (kk : X Γ nL k n pc' lv' st ws) : X Γ nL k n pc lv (Value.long x :: st) ws := by
  obtain ⟨p, l, e, R, s, m, args, below, meth, c, Q, A, D, cs⟩ := Γ
  subst hp
  intro H locs ls hP hD hS hl
  exact lv_lstore_n B.1.1 B.1.2.1 d hi hl hn rfl (fun ls' hl' => kk H locs ls' hP hD hS (lv_sub hl' is hk))
theorem x_lstore (B : CX Γ cc nL own R0) {i : Nat} {x : Int64} (is : List Nat) (lv' : List (Nat × Value)) (d : decode cc pc = .ok (.lstore i, 2)) (hn : i + 1 < nL) (hk : lv_pick ((i, Value.long x) :: lv.filter (fun q => !(q.1 == i) && (!(q.1 == i + 1) && !(q.1 + 1 == i && q.2.category == 2)))) is = lv') (hp : pc + 2 = pc') (kk : X Γ nL k n pc' lv' st ws) : X Γ nL k n pc lv (Value.long x :: st) ws := by
  obtain ⟨p, l, e, R, s, m, args, below, meth, c, Q, A, D, cs⟩ := Γ
  subst hp
  intro H locs ls hP hD hS hl
  exact lv_lstore B.1.1 B.1.2.1 d hl hn rfl (fun ls' hl' => kk H locs ls' hP hD hS (lv_sub hl' is hk))
theorem x_astore_n (B : CX Γ cc nL own R0) {f : Fin 4} {i : Nat} {x : Nat} (is : List Nat) (lv' : List (Nat × Value)) (d : decode cc pc = .ok (.astore_n f, 1)) (hi : (f : Nat) = i) (hn : i < nL) (hk : lv_pick ((i, Value.ref x) :: lv.filter (fun q => !(q.1 == i) && !(q.1 + 1 == i && q.2.category == 2))) is = lv') (hp : pc + 1 = pc') (kk : X Γ nL k n pc' lv' st ws) : X Γ nL k n pc lv (Value.ref x :: st) ws := by
  obtain ⟨p, l, e, R, s, m, args, below, meth, c, Q, A, D, cs⟩ := Γ
  subst hp
  intro H locs ls hP hD hS hl
  exact lv_astore_n B.1.1 B.1.2.1 d hi hl hn rfl (fun ls' hl' => kk H locs ls' hP hD hS (lv_sub hl' is hk))
theorem x_astore (B : CX Γ cc nL own R0) {i : Nat} {x : Nat} (is : List Nat) (lv' : List (Nat × Value)) (d : decode cc pc = .ok (.astore i, 2)) (hn : i < nL) (hk : lv_pick ((i, Value.ref x) :: lv.filter (fun q => !(q.1 == i) && !(q.1 + 1 == i && q.2.category == 2))) is = lv') (hp : pc + 2 = pc') (kk : X Γ nL k n pc' lv' st ws) : X Γ nL k n pc lv (Value.ref x :: st) ws := by
  obtain ⟨p, l, e, R, s, m, args, below, meth, c, Q, A, D, cs⟩ := Γ
  subst hp
  intro H locs ls hP hD hS hl
  exact lv_astore B.1.1 B.1.2.1 d hl hn rfl (fun ls' hl' => kk H locs ls' hP hD hS (lv_sub hl' is hk))
theorem x_iinc (B : CX Γ cc nL own R0) {i : Nat} {z : Int} {x : Int32} (v : Int32) (j : Nat) (is : List Nat) (lv' : List (Nat × Value)) (d : decode cc pc = .ok (.iinc i z, 3)) (hj : lv[j]? = some (i, .int x)) (hv : x + Int32.ofInt z = v) (hn : i < nL) (hk : lv_pick ((i, Value.int v) :: lv.filter (fun q => !(q.1 == i) && !(q.1 + 1 == i && q.2.category == 2))) is = lv') (hp : pc + 3 = pc') (kk : X Γ nL k n pc' lv' st ws) : X Γ nL k n pc lv st ws := by
  obtain ⟨p, l, e, R, s, m, args, below, meth, c, Q, A, D, cs⟩ := Γ
  subst hp
  intro H locs ls hP hD hS hl
  exact lv_iinc B.1.1 B.1.2.1 d hl hj hv hn rfl (fun ls' hl' => kk H locs ls' hP hD hS (lv_sub hl' is hk))
theorem x_iadd (B : CX Γ cc nL own R0) {x y : Int32} (d : decode cc pc = .ok (.iadd, 1)) (hp : pc + 1 = pc') (kk : X Γ nL k n pc' lv (.int (x + y) :: st) ws) : X Γ nL k n pc lv (.int y :: .int x :: st) ws := by
  obtain ⟨p, l, e, R, s, m, args, below, meth, c, Q, A, D, cs⟩ := Γ
  subst hp
  intro H locs ls hP hD hS hl
  exact lv_iadd B.1.1 B.1.2.1 d (kk H locs ls hP hD hS hl)
theorem x_isub (B : CX Γ cc nL own R0) {x y : Int32} (d : decode cc pc = .ok (.isub, 1)) (hp : pc + 1 = pc') (kk : X Γ nL k n pc' lv (.int (x - y) :: st) ws) : X Γ nL k n pc lv (.int y :: .int x :: st) ws := by
  obtain ⟨p, l, e, R, s, m, args, below, meth, c, Q, A, D, cs⟩ := Γ
  subst hp
  intro H locs ls hP hD hS hl
  exact lv_isub B.1.1 B.1.2.1 d (kk H locs ls hP hD hS hl)
theorem x_imul (B : CX Γ cc nL own R0) {x y : Int32} (d : decode cc pc = .ok (.imul, 1)) (hp : pc + 1 = pc') (kk : X Γ nL k n pc' lv (.int (x * y) :: st) ws) : X Γ nL k n pc lv (.int y :: .int x :: st) ws := by
  obtain ⟨p, l, e, R, s, m, args, below, meth, c, Q, A, D, cs⟩ := Γ
  subst hp
  intro H locs ls hP hD hS hl
  exact lv_imul B.1.1 B.1.2.1 d (kk H locs ls hP hD hS hl)
theorem x_iand (B : CX Γ cc nL own R0) {x y : Int32} (d : decode cc pc = .ok (.iand, 1)) (hp : pc + 1 = pc') (kk : X Γ nL k n pc' lv (.int (x &&& y) :: st) ws) : X Γ nL k n pc lv (.int y :: .int x :: st) ws := by
  obtain ⟨p, l, e, R, s, m, args, below, meth, c, Q, A, D, cs⟩ := Γ
  subst hp
  intro H locs ls hP hD hS hl
  exact lv_iand B.1.1 B.1.2.1 d (kk H locs ls hP hD hS hl)
theorem x_ladd (B : CX Γ cc nL own R0) {x y : Int64} (d : decode cc pc = .ok (.ladd, 1)) (hp : pc + 1 = pc') (kk : X Γ nL k n pc' lv (.long (x + y) :: st) ws) : X Γ nL k n pc lv (.long y :: .long x :: st) ws := by
  obtain ⟨p, l, e, R, s, m, args, below, meth, c, Q, A, D, cs⟩ := Γ
  subst hp
  intro H locs ls hP hD hS hl
  exact lv_ladd B.1.1 B.1.2.1 d (kk H locs ls hP hD hS hl)
theorem x_lmul (B : CX Γ cc nL own R0) {x y : Int64} (d : decode cc pc = .ok (.lmul, 1)) (hp : pc + 1 = pc') (kk : X Γ nL k n pc' lv (.long (x * y) :: st) ws) : X Γ nL k n pc lv (.long y :: .long x :: st) ws := by
  obtain ⟨p, l, e, R, s, m, args, below, meth, c, Q, A, D, cs⟩ := Γ
  subst hp
  intro H locs ls hP hD hS hl
  exact lv_lmul B.1.1 B.1.2.1 d (kk H locs ls hP hD hS hl)
theorem x_lsub (B : CX Γ cc nL own R0) {x y : Int64} (d : decode cc pc = .ok (.lsub, 1)) (hp : pc + 1 = pc') (kk : X Γ nL k n pc' lv (.long (x - y) :: st) ws) : X Γ nL k n pc lv (.long y :: .long x :: st) ws := by
  obtain ⟨p, l, e, R, s, m, args, below, meth, c, Q, A, D, cs⟩ := Γ
  subst hp
  intro H locs ls hP hD hS hl
  exact lv_lsub B.1.1 B.1.2.1 d (kk H locs ls hP hD hS hl)
theorem x_irem (B : CX Γ cc nL own R0) {x y : Int32} (d : decode cc pc = .ok (.irem, 1)) (hy : ¬ y = 0) (hp : pc + 1 = pc') (kk : X Γ nL k n pc' lv (.int (x - x / y * y) :: st) ws) : X Γ nL k n pc lv (.int y :: .int x :: st) ws := by
  obtain ⟨p, l, e, R, s, m, args, below, meth, c, Q, A, D, cs⟩ := Γ
  subst hp
  intro H locs ls hP hD hS hl
  exact lv_irem B.1.1 B.1.2.1 d hy (kk H locs ls hP hD hS hl)
theorem x_i2l (B : CX Γ cc nL own R0) {x : Int32} (d : decode cc pc = .ok (.i2l, 1)) (hp : pc + 1 = pc') (kk : X Γ nL k n pc' lv (.long x.toInt64 :: st) ws) : X Γ nL k n pc lv (.int x :: st) ws := by
  obtain ⟨p, l, e, R, s, m, args, below, meth, c, Q, A, D, cs⟩ := Γ
  subst hp
  intro H locs ls hP hD hS hl
  exact lv_i2l B.1.1 B.1.2.1 d rfl (kk H locs ls hP hD hS hl)
theorem x_i2d (B : CX Γ cc nL own R0) {x : Int32} (d : decode cc pc = .ok (.i2d, 1)) (hp : pc + 1 = pc') (kk : X Γ nL k n pc' lv (.double (FP.i2d x) :: st) ws) : X Γ nL k n pc lv (.int x :: st) ws := by
  obtain ⟨p, l, e, R, s, m, args, below, meth, c, Q, A, D, cs⟩ := Γ
  subst hp
  intro H locs ls hP hD hS hl
  exact lv_i2d B.1.1 B.1.2.1 d (kk H locs ls hP hD hS hl)
theorem x_ddiv (B : CX Γ cc nL own R0) {x y : UInt64} (d : decode cc pc = .ok (.ddiv, 1)) (hy : vf_n64 (FP.ddiv x y)) (hp : pc + 1 = pc') (kk : X Γ nL k n pc' lv (.double (FP.ddiv x y) :: st) ws) : X Γ nL k n pc lv (.double y :: .double x :: st) ws := by
  obtain ⟨p, l, e, R, s, m, args, below, meth, c, Q, A, D, cs⟩ := Γ
  subst hp
  intro H locs ls hP hD hS hl
  exact lv_ddiv B.1.1 B.1.2.1 d hy (kk H locs ls hP hD hS hl)
theorem x_pop (B : CX Γ cc nL own R0) {v : Value} (d : decode cc pc = .ok (.pop, 1)) (hv : v.category = 1) (hp : pc + 1 = pc') (kk : X Γ nL k n pc' lv st ws) : X Γ nL k n pc lv (v :: st) ws := by
  obtain ⟨p, l, e, R, s, m, args, below, meth, c, Q, A, D, cs⟩ := Γ
  subst hp
  intro H locs ls hP hD hS hl
  exact lv_pop B.1.1 B.1.2.1 d hv (kk H locs ls hP hD hS hl)
theorem x_dup (B : CX Γ cc nL own R0) {v : Value} (d : decode cc pc = .ok (.dup, 1)) (hv : v.category = 1) (hp : pc + 1 = pc') (kk : X Γ nL k n pc' lv (v :: v :: st) ws) : X Γ nL k n pc lv (v :: st) ws := by
  obtain ⟨p, l, e, R, s, m, args, below, meth, c, Q, A, D, cs⟩ := Γ
  subst hp
  intro H locs ls hP hD hS hl
  exact lv_dup B.1.1 B.1.2.1 d hv (kk H locs ls hP hD hS hl)
theorem x_dup_x1 (B : CX Γ cc nL own R0) {v w : Value} (d : decode cc pc = .ok (.dup_x1, 1)) (hv : v.category = 1) (hw : w.category = 1) (hp : pc + 1 = pc') (kk : X Γ nL k n pc' lv (v :: w :: v :: st) ws) : X Γ nL k n pc lv (v :: w :: st) ws := by
  obtain ⟨p, l, e, R, s, m, args, below, meth, c, Q, A, D, cs⟩ := Γ
  subst hp
  intro H locs ls hP hD hS hl
  exact lv_dup_x1 B.1.1 B.1.2.1 d hv hw (kk H locs ls hP hD hS hl)
theorem x_dup2 (B : CX Γ cc nL own R0) {v w : Value} (d : decode cc pc = .ok (.dup2, 1)) (hv : v.category = 1) (hw : w.category = 1) (hp : pc + 1 = pc') (kk : X Γ nL k n pc' lv (v :: w :: v :: w :: st) ws) : X Γ nL k n pc lv (v :: w :: st) ws := by
  obtain ⟨p, l, e, R, s, m, args, below, meth, c, Q, A, D, cs⟩ := Γ
  subst hp
  intro H locs ls hP hD hS hl
  exact lv_dup2_11 B.1.1 B.1.2.1 d hv hw (kk H locs ls hP hD hS hl)
theorem x_goto (B : CX Γ cc nL own R0) {off : Int} (d : decode cc pc = .ok (.goto off, 3)) (hp : (pc : Int) + off = (pc' : Int)) (kk : X Γ nL k n pc' lv st ws) : X Γ nL k n pc lv st ws := by
  obtain ⟨p, l, e, R, s, m, args, below, meth, c, Q, A, D, cs⟩ := Γ
  intro H locs ls hP hD hS hl
  exact lv_goto B.1.1 B.1.2.1 d hp (kk H locs ls hP hD hS hl)
theorem x_if_eq (B : CX Γ cc nL own R0) {x : Int32} {off : Int} (tgt pc' : Nat) (d : decode cc pc = .ok (.ifCond .eq off, 3)) (ht : (pc : Int) + off = (tgt : Int)) (hp : pc + 3 = pc') (kt : x = 0 → X Γ nL k n tgt lv st ws) (kf : ¬ x = 0 → X Γ nL k n pc' lv st ws) : X Γ nL k n pc lv (.int x :: st) ws := by
  obtain ⟨p, l, e, R, s, m, args, below, meth, c, Q, A, D, cs⟩ := Γ
  subst hp
  intro H locs ls hP hD hS hl
  exact lv_if_eq B.1.1 B.1.2.1 d ht (fun h => kt h H locs ls hP hD hS hl) (fun h => kf h H locs ls hP hD hS hl)
theorem x_icmp_eq (B : CX Γ cc nL own R0) {x y : Int32} {off : Int} (tgt pc' : Nat) (d : decode cc pc = .ok (.if_icmp .eq off, 3)) (ht : (pc : Int) + off = (tgt : Int)) (hp : pc + 3 = pc') (kt : x = y → X Γ nL k n tgt lv st ws) (kf : ¬ x = y → X Γ nL k n pc' lv st ws) : X Γ nL k n pc lv (.int y :: .int x :: st) ws := by
  obtain ⟨p, l, e, R, s, m, args, below, meth, c, Q, A, D, cs⟩ := Γ
  subst hp
  intro H locs ls hP hD hS hl
  exact lv_icmp_eq B.1.1 B.1.2.1 d ht (fun h => kt h H locs ls hP hD hS hl) (fun h => kf h H locs ls hP hD hS hl)
theorem x_if_ne (B : CX Γ cc nL own R0) {x : Int32} {off : Int} (tgt pc' : Nat) (d : decode cc pc = .ok (.ifCond .ne off, 3)) (ht : (pc : Int) + off = (tgt : Int)) (hp : pc + 3 = pc') (kt : ¬ x = 0 → X Γ nL k n tgt lv st ws) (kf : x = 0 → X Γ nL k n pc' lv st ws) : X Γ nL k n pc lv (.int x :: st) ws := by
  obtain ⟨p, l, e, R, s, m, args, below, meth, c, Q, A, D, cs⟩ := Γ
  subst hp
  intro H locs ls hP hD hS hl
  exact lv_if_ne B.1.1 B.1.2.1 d ht (fun h => kt h H locs ls hP hD hS hl) (fun h => kf h H locs ls hP hD hS hl)
theorem x_icmp_ne (B : CX Γ cc nL own R0) {x y : Int32} {off : Int} (tgt pc' : Nat) (d : decode cc pc = .ok (.if_icmp .ne off, 3)) (ht : (pc : Int) + off = (tgt : Int)) (hp : pc + 3 = pc') (kt : ¬ x = y → X Γ nL k n tgt lv st ws) (kf : x = y → X Γ nL k n pc' lv st ws) : X Γ nL k n pc lv (.int y :: .int x :: st) ws := by
  obtain ⟨p, l, e, R, s, m, args, below, meth, c, Q, A, D, cs⟩ := Γ
  subst hp
  intro H locs ls hP hD hS hl
  exact lv_icmp_ne B.1.1 B.1.2.1 d ht (fun h => kt h H locs ls hP hD hS hl) (fun h => kf h H locs ls hP hD hS hl)
theorem x_if_lt (B : CX Γ cc nL own R0) {x : Int32} {off : Int} (tgt pc' : Nat) (d : decode cc pc = .ok (.ifCond .lt off, 3)) (ht : (pc : Int) + off = (tgt : Int)) (hp : pc + 3 = pc') (kt : x < 0 → X Γ nL k n tgt lv st ws) (kf : ¬ x < 0 → X Γ nL k n pc' lv st ws) : X Γ nL k n pc lv (.int x :: st) ws := by
  obtain ⟨p, l, e, R, s, m, args, below, meth, c, Q, A, D, cs⟩ := Γ
  subst hp
  intro H locs ls hP hD hS hl
  exact lv_if_lt B.1.1 B.1.2.1 d ht (fun h => kt h H locs ls hP hD hS hl) (fun h => kf h H locs ls hP hD hS hl)
theorem x_icmp_lt (B : CX Γ cc nL own R0) {x y : Int32} {off : Int} (tgt pc' : Nat) (d : decode cc pc = .ok (.if_icmp .lt off, 3)) (ht : (pc : Int) + off = (tgt : Int)) (hp : pc + 3 = pc') (kt : x < y → X Γ nL k n tgt lv st ws) (kf : ¬ x < y → X Γ nL k n pc' lv st ws) : X Γ nL k n pc lv (.int y :: .int x :: st) ws := by
  obtain ⟨p, l, e, R, s, m, args, below, meth, c, Q, A, D, cs⟩ := Γ
  subst hp
  intro H locs ls hP hD hS hl
  exact lv_icmp_lt B.1.1 B.1.2.1 d ht (fun h => kt h H locs ls hP hD hS hl) (fun h => kf h H locs ls hP hD hS hl)
theorem x_if_ge (B : CX Γ cc nL own R0) {x : Int32} {off : Int} (tgt pc' : Nat) (d : decode cc pc = .ok (.ifCond .ge off, 3)) (ht : (pc : Int) + off = (tgt : Int)) (hp : pc + 3 = pc') (kt : 0 ≤ x → X Γ nL k n tgt lv st ws) (kf : ¬ 0 ≤ x → X Γ nL k n pc' lv st ws) : X Γ nL k n pc lv (.int x :: st) ws := by
  obtain ⟨p, l, e, R, s, m, args, below, meth, c, Q, A, D, cs⟩ := Γ
  subst hp
  intro H locs ls hP hD hS hl
  exact lv_if_ge B.1.1 B.1.2.1 d ht (fun h => kt h H locs ls hP hD hS hl) (fun h => kf h H locs ls hP hD hS hl)
theorem x_icmp_ge (B : CX Γ cc nL own R0) {x y : Int32} {off : Int} (tgt pc' : Nat) (d : decode cc pc = .ok (.if_icmp .ge off, 3)) (ht : (pc : Int) + off = (tgt : Int)) (hp : pc + 3 = pc') (kt : y ≤ x → X Γ nL k n tgt lv st ws) (kf : ¬ y ≤ x → X Γ nL k n pc' lv st ws) : X Γ nL k n pc lv (.int y :: .int x :: st) ws := by
  obtain ⟨p, l, e, R, s, m, args, below, meth, c, Q, A, D, cs⟩ := Γ
  subst hp
  intro H locs ls hP hD hS hl
  exact lv_icmp_ge B.1.1 B.1.2.1 d ht (fun h => kt h H locs ls hP hD hS hl) (fun h => kf h H locs ls hP hD hS hl)
theorem x_if_gt (B : CX Γ cc nL own R0) {x : Int32} {off : Int} (tgt pc' : Nat) (d : decode cc pc = .ok (.ifCond .gt off, 3)) (ht : (pc : Int) + off = (tgt : Int)) (hp : pc + 3 = pc') (kt : 0 < x → X Γ nL k n tgt lv st ws) (kf : ¬ 0 < x → X Γ nL k n pc' lv st ws) : X Γ nL k n pc lv (.int x :: st) ws := by
  obtain ⟨p, l, e, R, s, m, args, below, meth, c, Q, A, D, cs⟩ := Γ
  subst hp
  intro H locs ls hP hD hS hl
  exact lv_if_gt B.1.1 B.1.2.1 d ht (fun h => kt h H locs ls hP hD hS hl) (fun h => kf h H locs ls hP hD hS hl)
theorem x_icmp_gt (B : CX Γ cc nL own R0) {x y : Int32} {off : Int} (tgt pc' : Nat) (d : decode cc pc = .ok (.if_icmp .gt off, 3)) (ht : (pc : Int) + off = (tgt : Int)) (hp : pc + 3 = pc') (kt : y < x → X Γ nL k n tgt lv st ws) (kf : ¬ y < x → X Γ nL k n pc' lv st ws) : X Γ nL k n pc lv (.int y :: .int x :: st) ws := by
  obtain ⟨p, l, e, R, s, m, args, below, meth, c, Q, A, D, cs⟩ := Γ
  subst hp
  intro H locs ls hP hD hS hl
  exact lv_icmp_gt B.1.1 B.1.2.1 d ht (fun h => kt h H locs ls hP hD hS hl) (fun h => kf h H locs ls hP hD hS hl)
theorem x_if_le (B : CX Γ cc nL own R0) {x : Int32} {off : Int} (tgt pc' : Nat) (d : decode cc pc = .ok (.ifCond .le off, 3)) (ht : (pc : Int) + off = (tgt : Int)) (hp : pc + 3 = pc') (kt : x ≤ 0 → X Γ nL k n tgt lv st ws) (kf : ¬ x ≤ 0 → X Γ nL k n pc' lv st ws) : X Γ nL k n pc lv (.int x :: st) ws := by
  obtain ⟨p, l, e, R, s, m, args, below, meth, c, Q, A, D, cs⟩ := Γ
  subst hp
  intro H locs ls hP hD hS hl
  exact lv_if_le B.1.1 B.1.2.1 d ht (fun h => kt h H locs ls hP hD hS hl) (fun h => kf h H locs ls hP hD hS hl)
theorem x_icmp_le (B : CX Γ cc nL own R0) {x y : Int32} {off : Int} (tgt pc' : Nat) (d : decode cc pc = .ok (.if_icmp .le off, 3)) (ht : (pc : Int) + off = (tgt : Int)) (hp : pc + 3 = pc') (kt : x ≤ y → X Γ nL k n tgt lv st ws) (kf : ¬ x ≤ y → X Γ nL k n pc' lv st ws) : X Γ nL k n pc lv (.int y :: .int x :: st) ws := by
  obtain ⟨p, l, e, R, s, m, args, below, meth, c, Q, A, D, cs⟩ := Γ
  subst hp
  intro H locs ls hP hD hS hl
  exact lv_icmp_le B.1.1 B.1.2.1 d ht (fun h => kt h H locs ls hP hD hS hl) (fun h => kf h H locs ls hP hD hS hl)
theorem x_lookup (B : CX Γ cc nL own R0) {dflt : Int} {ps : Array (Int × Int)} {len : Nat} {x : Int32} {off : Int} (d : decode cc pc = .ok (.lookupswitch dflt ps, len)) (hs : (ps.toList.zip (ps.toList.drop 1)).all (fun (a, next) => a.1 < next.1) = true) (ho : Op.lookupswitch.offset ps.toList dflt x.toInt = off) (hp : (pc : Int) + off = (pc' : Int)) (kk : X Γ nL k n pc' lv st ws) : X Γ nL k n pc lv (.int x :: st) ws := by
  obtain ⟨p, l, e, R, s, m, args, below, meth, c, Q, A, D, cs⟩ := Γ
  intro H locs ls hP hD hS hl
  exact lv_lookup B.1.1 B.1.2.1 d hs ho hp (kk H locs ls hP hD hS hl)
theorem x_tableIn (B : CX Γ cc nL own R0) {dflt lo hi : Int} {offs : Array Int} {len : Nat} {x : Int32} {off : Int} (d : decode cc pc = .ok (.tableswitch dflt lo hi offs, len)) (h1 : ¬ x.toInt < lo) (h2 : ¬ hi < x.toInt) (ho : offs[(x.toInt - lo).toNat]? = some off) (hp : (pc : Int) + off = (pc' : Int)) (kk : X Γ nL k n pc' lv st ws) : X Γ nL k n pc lv (.int x :: st) ws := by
  obtain ⟨p, l, e, R, s, m, args, below, meth, c, Q, A, D, cs⟩ := Γ
  intro H locs ls hP hD hS hl
  exact lv_tableIn B.1.1 B.1.2.1 d h1 h2 ho hp (kk H locs ls hP hD hS hl)
theorem x_tableOut (B : CX Γ cc nL own R0) {dflt lo hi : Int} {offs : Array Int} {len : Nat} {x : Int32} (d : decode cc pc = .ok (.tableswitch dflt lo hi offs, len)) (h : x.toInt < lo ∨ hi < x.toInt) (hp : (pc : Int) + dflt = (pc' : Int)) (kk : X Γ nL k n pc' lv st ws) : X Γ nL k n pc lv (.int x :: st) ws := by
  obtain ⟨p, l, e, R, s, m, args, below, meth, c, Q, A, D, cs⟩ := Γ
  intro H locs ls hP hD hS hl
  exact lv_tableOut B.1.1 B.1.2.1 d h hp (kk H locs ls hP hD hS hl)
end ROWS2
