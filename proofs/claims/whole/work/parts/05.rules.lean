/-! RULES: one instruction each, as equations of zk (written by wip/whole/gen/rules.py). -/
section ZI
variable {α : Type} {k : z_Q → Option α} {X : Nat × (Nat → Int32)} {d mi pc : Nat} {ls st : List Value} {S : z_S} {mk : Option (List Nat)} {ts : List Nat} {x y w : Nat} {v : Int}
theorem k_iconst {n : Int} {z : Int32} (hf : z_ft mi pc = some (.iconst n, 1, mk, ts, x, y, w, v)) (hm : z_mk mk ls = ls) (hz : Int32.ofInt n = z) : zk k X d mi pc ls (st) S = zk k X d mi (pc + 1) ls (.int z :: st) S := by
  exact zk_go (c' := (pc + 1, ls, .int z :: st, S)) hf (by rw [hm]; rw [← hz]; rfl)
theorem k_bipush {n : Int} {z : Int32} (hf : z_ft mi pc = some (.bipush n, 2, mk, ts, x, y, w, v)) (hm : z_mk mk ls = ls) (hz : (Int8.ofInt n).toInt32 = z) : zk k X d mi pc ls (st) S = zk k X d mi (pc + 2) ls (.int z :: st) S := by
  exact zk_go (c' := (pc + 2, ls, .int z :: st, S)) hf (by rw [hm]; rw [← hz]; rfl)
theorem k_sipush {n : Int} {z : Int32} (hf : z_ft mi pc = some (.sipush n, 3, mk, ts, x, y, w, v)) (hm : z_mk mk ls = ls) (hz : (Int16.ofInt n).toInt32 = z) : zk k X d mi pc ls (st) S = zk k X d mi (pc + 3) ls (.int z :: st) S := by
  exact zk_go (c' := (pc + 3, ls, .int z :: st, S)) hf (by rw [hm]; rw [← hz]; rfl)
theorem k_lconst {n : Fin 2} {z : Int64} (hf : z_ft mi pc = some (.lconst n, 1, mk, ts, x, y, w, v)) (hm : z_mk mk ls = ls) (hz : Int64.ofNat (n : Nat) = z) : zk k X d mi pc ls (st) S = zk k X d mi (pc + 1) ls (.long z :: st) S := by
  exact zk_go (c' := (pc + 1, ls, .long z :: st, S)) hf (by rw [hm]; rw [← hz]; rfl)
theorem k_ldc {n : Nat} {z : Int32} (hf : z_ft mi pc = some (.ldc n, 2, mk, ts, x, y, w, v)) (hm : z_mk mk ls = ls) (hx : x = 0) (hz : Int32.ofInt v = z) : zk k X d mi pc ls (st) S = zk k X d mi (pc + 2) ls (.int z :: st) S := by
  subst hx; exact zk_go (c' := (pc + 2, ls, .int z :: st, S)) hf (by rw [hm]; rw [← hz]; rfl)
theorem k_ldcS {n : Nat} (hf : z_ft mi pc = some (.ldc n, 2, mk, ts, x, y, w, v)) (hm : z_mk mk ls = ls) (hx : x = 1) : zk k X d mi pc ls (st) S = zk k X d mi (pc + 2) ls (.retAddr 2 :: st) S := by
  subst hx; exact zk_go (c' := (pc + 2, ls, .retAddr 2 :: st, S)) hf (by rw [hm]; rfl)
theorem k_ldc_w {n : Nat} {z : Int32} (hf : z_ft mi pc = some (.ldc_w n, 3, mk, ts, x, y, w, v)) (hm : z_mk mk ls = ls) (hz : Int32.ofInt v = z) : zk k X d mi pc ls (st) S = zk k X d mi (pc + 3) ls (.int z :: st) S := by
  exact zk_go (c' := (pc + 3, ls, .int z :: st, S)) hf (by rw [hm]; rw [← hz]; rfl)
theorem k_ldc2_w {n : Nat} {z : Int64} (hf : z_ft mi pc = some (.ldc2_w n, 3, mk, ts, x, y, w, v)) (hm : z_mk mk ls = ls) (hz : Int64.ofInt v = z) : zk k X d mi pc ls (st) S = zk k X d mi (pc + 3) ls (.long z :: st) S := by
  exact zk_go (c' := (pc + 3, ls, .long z :: st, S)) hf (by rw [hm]; rw [← hz]; rfl)
theorem k_dupI {a : Int32} (hf : z_ft mi pc = some (.dup, 1, mk, ts, x, y, w, v)) (hm : z_mk mk ls = ls) : zk k X d mi pc ls (.int a :: st) S = zk k X d mi (pc + 1) ls (.int a :: .int a :: st) S := by
  exact zk_go (c' := (pc + 1, ls, .int a :: .int a :: st, S)) hf (by rw [hm]; rfl)
theorem k_dupR {a : Nat} (hf : z_ft mi pc = some (.dup, 1, mk, ts, x, y, w, v)) (hm : z_mk mk ls = ls) : zk k X d mi pc ls (.ref a :: st) S = zk k X d mi (pc + 1) ls (.ref a :: .ref a :: st) S := by
  exact zk_go (c' := (pc + 1, ls, .ref a :: .ref a :: st, S)) hf (by rw [hm]; rfl)
theorem k_dup2IR {a : Int32} {b : Nat} (hf : z_ft mi pc = some (.dup2, 1, mk, ts, x, y, w, v)) (hm : z_mk mk ls = ls) : zk k X d mi pc ls (.int a :: .ref b :: st) S = zk k X d mi (pc + 1) ls (.int a :: .ref b :: .int a :: .ref b :: st) S := by
  exact zk_go (c' := (pc + 1, ls, .int a :: .ref b :: .int a :: .ref b :: st, S)) hf (by rw [hm]; rfl)
theorem k_popI {a : Int32} (hf : z_ft mi pc = some (.pop, 1, mk, ts, x, y, w, v)) (hm : z_mk mk ls = ls) : zk k X d mi pc ls (.int a :: st) S = zk k X d mi (pc + 1) ls (st) S := by
  exact zk_go (c' := (pc + 1, ls, st, S)) hf (by rw [hm]; rfl)
theorem k_iadd {a b : Int32} (hf : z_ft mi pc = some (.iadd, 1, mk, ts, x, y, w, v)) (hm : z_mk mk ls = ls) : zk k X d mi pc ls (.int b :: .int a :: st) S = zk k X d mi (pc + 1) ls (.int (a + b) :: st) S := by
  exact zk_go (c' := (pc + 1, ls, .int (a + b) :: st, S)) hf (by rw [hm]; rfl)
theorem k_isub {a b : Int32} (hf : z_ft mi pc = some (.isub, 1, mk, ts, x, y, w, v)) (hm : z_mk mk ls = ls) : zk k X d mi pc ls (.int b :: .int a :: st) S = zk k X d mi (pc + 1) ls (.int (a - b) :: st) S := by
  exact zk_go (c' := (pc + 1, ls, .int (a - b) :: st, S)) hf (by rw [hm]; rfl)
theorem k_imul {a b : Int32} (hf : z_ft mi pc = some (.imul, 1, mk, ts, x, y, w, v)) (hm : z_mk mk ls = ls) : zk k X d mi pc ls (.int b :: .int a :: st) S = zk k X d mi (pc + 1) ls (.int (a * b) :: st) S := by
  exact zk_go (c' := (pc + 1, ls, .int (a * b) :: st, S)) hf (by rw [hm]; rfl)
theorem k_iand {a b : Int32} (hf : z_ft mi pc = some (.iand, 1, mk, ts, x, y, w, v)) (hm : z_mk mk ls = ls) : zk k X d mi pc ls (.int b :: .int a :: st) S = zk k X d mi (pc + 1) ls (.int (a &&& b) :: st) S := by
  exact zk_go (c' := (pc + 1, ls, .int (a &&& b) :: st, S)) hf (by rw [hm]; rfl)
theorem k_ior {a b : Int32} (hf : z_ft mi pc = some (.ior, 1, mk, ts, x, y, w, v)) (hm : z_mk mk ls = ls) : zk k X d mi pc ls (.int b :: .int a :: st) S = zk k X d mi (pc + 1) ls (.int (a ||| b) :: st) S := by
  exact zk_go (c' := (pc + 1, ls, .int (a ||| b) :: st, S)) hf (by rw [hm]; rfl)
theorem k_ixor {a b : Int32} (hf : z_ft mi pc = some (.ixor, 1, mk, ts, x, y, w, v)) (hm : z_mk mk ls = ls) : zk k X d mi pc ls (.int b :: .int a :: st) S = zk k X d mi (pc + 1) ls (.int (a ^^^ b) :: st) S := by
  exact zk_go (c' := (pc + 1, ls, .int (a ^^^ b) :: st, S)) hf (by rw [hm]; rfl)
theorem k_ishl {a b : Int32} (hf : z_ft mi pc = some (.ishl, 1, mk, ts, x, y, w, v)) (hm : z_mk mk ls = ls) : zk k X d mi pc ls (.int b :: .int a :: st) S = zk k X d mi (pc + 1) ls (.int (a <<< (b &&& 31)) :: st) S := by
  exact zk_go (c' := (pc + 1, ls, .int (a <<< (b &&& 31)) :: st, S)) hf (by rw [hm]; rfl)
theorem k_ishr {a b : Int32} (hf : z_ft mi pc = some (.ishr, 1, mk, ts, x, y, w, v)) (hm : z_mk mk ls = ls) : zk k X d mi pc ls (.int b :: .int a :: st) S = zk k X d mi (pc + 1) ls (.int (a >>> (b &&& 31)) :: st) S := by
  exact zk_go (c' := (pc + 1, ls, .int (a >>> (b &&& 31)) :: st, S)) hf (by rw [hm]; rfl)
theorem k_iushr {a b : Int32} (hf : z_ft mi pc = some (.iushr, 1, mk, ts, x, y, w, v)) (hm : z_mk mk ls = ls) : zk k X d mi pc ls (.int b :: .int a :: st) S = zk k X d mi (pc + 1) ls (.int ((a.toUInt32 >>> (b.toUInt32 &&& Int32.toUInt32 31)).toInt32) :: st) S := by
  exact zk_go (c' := (pc + 1, ls, .int ((a.toUInt32 >>> (b.toUInt32 &&& Int32.toUInt32 31)).toInt32) :: st, S)) hf (by rw [hm]; rfl)
theorem k_ladd {a b : Int64} (hf : z_ft mi pc = some (.ladd, 1, mk, ts, x, y, w, v)) (hm : z_mk mk ls = ls) : zk k X d mi pc ls (.long b :: .long a :: st) S = zk k X d mi (pc + 1) ls (.long (a + b) :: st) S := by
  exact zk_go (c' := (pc + 1, ls, .long (a + b) :: st, S)) hf (by rw [hm]; rfl)
theorem k_lsub {a b : Int64} (hf : z_ft mi pc = some (.lsub, 1, mk, ts, x, y, w, v)) (hm : z_mk mk ls = ls) : zk k X d mi pc ls (.long b :: .long a :: st) S = zk k X d mi (pc + 1) ls (.long (a - b) :: st) S := by
  exact zk_go (c' := (pc + 1, ls, .long (a - b) :: st, S)) hf (by rw [hm]; rfl)
theorem k_lmul {a b : Int64} (hf : z_ft mi pc = some (.lmul, 1, mk, ts, x, y, w, v)) (hm : z_mk mk ls = ls) : zk k X d mi pc ls (.long b :: .long a :: st) S = zk k X d mi (pc + 1) ls (.long (a * b) :: st) S := by
  exact zk_go (c' := (pc + 1, ls, .long (a * b) :: st, S)) hf (by rw [hm]; rfl)
theorem k_land {a b : Int64} (hf : z_ft mi pc = some (.land, 1, mk, ts, x, y, w, v)) (hm : z_mk mk ls = ls) : zk k X d mi pc ls (.long b :: .long a :: st) S = zk k X d mi (pc + 1) ls (.long (a &&& b) :: st) S := by
  exact zk_go (c' := (pc + 1, ls, .long (a &&& b) :: st, S)) hf (by rw [hm]; rfl)
theorem k_lor {a b : Int64} (hf : z_ft mi pc = some (.lor, 1, mk, ts, x, y, w, v)) (hm : z_mk mk ls = ls) : zk k X d mi pc ls (.long b :: .long a :: st) S = zk k X d mi (pc + 1) ls (.long (a ||| b) :: st) S := by
  exact zk_go (c' := (pc + 1, ls, .long (a ||| b) :: st, S)) hf (by rw [hm]; rfl)
theorem k_lxor {a b : Int64} (hf : z_ft mi pc = some (.lxor, 1, mk, ts, x, y, w, v)) (hm : z_mk mk ls = ls) : zk k X d mi pc ls (.long b :: .long a :: st) S = zk k X d mi (pc + 1) ls (.long (a ^^^ b) :: st) S := by
  exact zk_go (c' := (pc + 1, ls, .long (a ^^^ b) :: st, S)) hf (by rw [hm]; rfl)
theorem k_lshl {a : Int64} {b : Int32} (hf : z_ft mi pc = some (.lshl, 1, mk, ts, x, y, w, v)) (hm : z_mk mk ls = ls) : zk k X d mi pc ls (.int b :: .long a :: st) S = zk k X d mi (pc + 1) ls (.long (a <<< (b.toInt64 &&& 63)) :: st) S := by
  exact zk_go (c' := (pc + 1, ls, .long (a <<< (b.toInt64 &&& 63)) :: st, S)) hf (by rw [hm]; rfl)
theorem k_lshr {a : Int64} {b : Int32} (hf : z_ft mi pc = some (.lshr, 1, mk, ts, x, y, w, v)) (hm : z_mk mk ls = ls) : zk k X d mi pc ls (.int b :: .long a :: st) S = zk k X d mi (pc + 1) ls (.long (a >>> (b.toInt64 &&& 63)) :: st) S := by
  exact zk_go (c' := (pc + 1, ls, .long (a >>> (b.toInt64 &&& 63)) :: st, S)) hf (by rw [hm]; rfl)
theorem k_lcmp {a b : Int64} (hf : z_ft mi pc = some (.lcmp, 1, mk, ts, x, y, w, v)) (hm : z_mk mk ls = ls) : zk k X d mi pc ls (.long b :: .long a :: st) S = zk k X d mi (pc + 1) ls (.int (lg_cmp a b) :: st) S := by
  exact zk_go (c' := (pc + 1, ls, .int (lg_cmp a b) :: st, S)) hf (by rw [hm]; rfl)
theorem k_i2l {a : Int32} (hf : z_ft mi pc = some (.i2l, 1, mk, ts, x, y, w, v)) (hm : z_mk mk ls = ls) : zk k X d mi pc ls (.int a :: st) S = zk k X d mi (pc + 1) ls (.long a.toInt64 :: st) S := by
  exact zk_go (c' := (pc + 1, ls, .long a.toInt64 :: st, S)) hf (by rw [hm]; rfl)
theorem k_l2i {a : Int64} (hf : z_ft mi pc = some (.l2i, 1, mk, ts, x, y, w, v)) (hm : z_mk mk ls = ls) : zk k X d mi pc ls (.long a :: st) S = zk k X d mi (pc + 1) ls (.int a.toInt32 :: st) S := by
  exact zk_go (c' := (pc + 1, ls, .int a.toInt32 :: st, S)) hf (by rw [hm]; rfl)
theorem k_i2c {a : Int32} (hf : z_ft mi pc = some (.i2c, 1, mk, ts, x, y, w, v)) (hm : z_mk mk ls = ls) : zk k X d mi pc ls (.int a :: st) S = zk k X d mi (pc + 1) ls (.int (a.toUInt32 % 65536).toInt32 :: st) S := by
  exact zk_go (c' := (pc + 1, ls, .int (a.toUInt32 % 65536).toInt32 :: st, S)) hf (by rw [hm]; rfl)
theorem k_idiv {a b : Int32} (hf : z_ft mi pc = some (.idiv, 1, mk, ts, x, y, w, v)) (hm : z_mk mk ls = ls) : zk k X d mi pc ls (.int b :: .int a :: st) S = if b = 0 then none else zk k X d mi (pc + 1) ls (.int (a / b) :: st) S := by
  by_cases h : b = 0
  · rw [if_pos h]
    exact zk_no hf (by rw [hm]; show ((if b = 0 then none else _ : Option (List Value)).map _) = none; rw [if_pos h]; rfl)
  · rw [if_neg h]
    exact zk_go (c' := (pc + 1, ls, .int (a / b) :: st, S)) hf (by rw [hm]; show ((if b = 0 then none else _ : Option (List Value)).map _) = _; rw [if_neg h]; rfl)
theorem k_irem {a b : Int32} (hf : z_ft mi pc = some (.irem, 1, mk, ts, x, y, w, v)) (hm : z_mk mk ls = ls) : zk k X d mi pc ls (.int b :: .int a :: st) S = if b = 0 then none else zk k X d mi (pc + 1) ls (.int (a - a / b * b) :: st) S := by
  by_cases h : b = 0
  · rw [if_pos h]
    exact zk_no hf (by rw [hm]; show ((if b = 0 then none else _ : Option (List Value)).map _) = none; rw [if_pos h]; rfl)
  · rw [if_neg h]
    exact zk_go (c' := (pc + 1, ls, .int (a - a / b * b) :: st, S)) hf (by rw [hm]; show ((if b = 0 then none else _ : Option (List Value)).map _) = _; rw [if_neg h]; rfl)
theorem k_ldiv {a b : Int64} (hf : z_ft mi pc = some (.ldiv, 1, mk, ts, x, y, w, v)) (hm : z_mk mk ls = ls) : zk k X d mi pc ls (.long b :: .long a :: st) S = if b = 0 then none else zk k X d mi (pc + 1) ls (.long (a / b) :: st) S := by
  by_cases h : b = 0
  · rw [if_pos h]
    exact zk_no hf (by rw [hm]; show ((if b = 0 then none else _ : Option (List Value)).map _) = none; rw [if_pos h]; rfl)
  · rw [if_neg h]
    exact zk_go (c' := (pc + 1, ls, .long (a / b) :: st, S)) hf (by rw [hm]; show ((if b = 0 then none else _ : Option (List Value)).map _) = _; rw [if_neg h]; rfl)
theorem k_lrem {a b : Int64} (hf : z_ft mi pc = some (.lrem, 1, mk, ts, x, y, w, v)) (hm : z_mk mk ls = ls) : zk k X d mi pc ls (.long b :: .long a :: st) S = if b = 0 then none else zk k X d mi (pc + 1) ls (.long (a - a / b * b) :: st) S := by
  by_cases h : b = 0
  · rw [if_pos h]
    exact zk_no hf (by rw [hm]; show ((if b = 0 then none else _ : Option (List Value)).map _) = none; rw [if_pos h]; rfl)
  · rw [if_neg h]
    exact zk_go (c' := (pc + 1, ls, .long (a - a / b * b) :: st, S)) hf (by rw [hm]; show ((if b = 0 then none else _ : Option (List Value)).map _) = _; rw [if_neg h]; rfl)
theorem k_iload {j : Nat} {a : Int32} (hf : z_ft mi pc = some (.iload j, 2, mk, ts, x, y, w, v)) (hm : z_mk mk ls = ls) (hl : ls.getD j z_j = .int a) : zk k X d mi pc ls st S = zk k X d mi (pc + 2) ls (.int a :: st) S := zk_go (c' := (pc + 2, ls, .int a :: st, S)) hf (by rw [hm]; show (z_ldi ls j st).map _ = _; rw [z_ldi, hl]; rfl)
theorem k_iload_n {j : Fin 4} {a : Int32} (hf : z_ft mi pc = some (.iload_n j, 1, mk, ts, x, y, w, v)) (hm : z_mk mk ls = ls) (hl : ls.getD j z_j = .int a) : zk k X d mi pc ls st S = zk k X d mi (pc + 1) ls (.int a :: st) S := zk_go (c' := (pc + 1, ls, .int a :: st, S)) hf (by rw [hm]; show (z_ldi ls j st).map _ = _; rw [z_ldi, hl]; rfl)
theorem k_lload {j : Nat} {a : Int64} (hf : z_ft mi pc = some (.lload j, 2, mk, ts, x, y, w, v)) (hm : z_mk mk ls = ls) (hl : ls.getD j z_j = .long a) : zk k X d mi pc ls st S = zk k X d mi (pc + 2) ls (.long a :: st) S := zk_go (c' := (pc + 2, ls, .long a :: st, S)) hf (by rw [hm]; show (z_ldl ls j st).map _ = _; rw [z_ldl, hl]; rfl)
theorem k_lload_n {j : Fin 4} {a : Int64} (hf : z_ft mi pc = some (.lload_n j, 1, mk, ts, x, y, w, v)) (hm : z_mk mk ls = ls) (hl : ls.getD j z_j = .long a) : zk k X d mi pc ls st S = zk k X d mi (pc + 1) ls (.long a :: st) S := zk_go (c' := (pc + 1, ls, .long a :: st, S)) hf (by rw [hm]; show (z_ldl ls j st).map _ = _; rw [z_ldl, hl]; rfl)
theorem k_aload {j : Nat} {a : Nat} (hf : z_ft mi pc = some (.aload j, 2, mk, ts, x, y, w, v)) (hm : z_mk mk ls = ls) (hl : ls.getD j z_j = .ref a) : zk k X d mi pc ls st S = zk k X d mi (pc + 2) ls (.ref a :: st) S := zk_go (c' := (pc + 2, ls, .ref a :: st, S)) hf (by rw [hm]; show (z_lda ls j st).map _ = _; rw [z_lda, hl]; rfl)
theorem k_aload_n {j : Fin 4} {a : Nat} (hf : z_ft mi pc = some (.aload_n j, 1, mk, ts, x, y, w, v)) (hm : z_mk mk ls = ls) (hl : ls.getD j z_j = .ref a) : zk k X d mi pc ls st S = zk k X d mi (pc + 1) ls (.ref a :: st) S := zk_go (c' := (pc + 1, ls, .ref a :: st, S)) hf (by rw [hm]; show (z_lda ls j st).map _ = _; rw [z_lda, hl]; rfl)
theorem k_aloadX {j : Nat} (hf : z_ft mi pc = some (.aload j, 2, mk, ts, x, y, w, v)) (hm : z_mk mk ls = ls) (hl : ls.getD j z_j = .retAddr 1) : zk k X d mi pc ls st S = zk k X d mi (pc + 2) ls (.retAddr 1 :: st) S := zk_go (c' := (pc + 2, ls, .retAddr 1 :: st, S)) hf (by rw [hm]; show (z_lda ls j st).map _ = _; rw [z_lda, hl]; rfl)
theorem k_aload_nX {j : Fin 4} (hf : z_ft mi pc = some (.aload_n j, 1, mk, ts, x, y, w, v)) (hm : z_mk mk ls = ls) (hl : ls.getD j z_j = .retAddr 1) : zk k X d mi pc ls st S = zk k X d mi (pc + 1) ls (.retAddr 1 :: st) S := zk_go (c' := (pc + 1, ls, .retAddr 1 :: st, S)) hf (by rw [hm]; show (z_lda ls j st).map _ = _; rw [z_lda, hl]; rfl)
theorem k_istore {j : Nat} {a : Int32} {ls' : List Value} (hf : z_ft mi pc = some (.istore j, 2, mk, ts, x, y, w, v)) (hm : z_mk mk ls = ls) (hl : z_s1 ls j (.int a) = some ls') : zk k X d mi pc ls (.int a :: st) S = zk k X d mi (pc + 2) ls' st S := zk_go (c' := (pc + 2, ls', st, S)) hf (by rw [hm]; show (z_sti ls j (.int a :: st)).map _ = _; rw [z_sti, hl]; rfl)
theorem k_istore_n {j : Fin 4} {a : Int32} {ls' : List Value} (hf : z_ft mi pc = some (.istore_n j, 1, mk, ts, x, y, w, v)) (hm : z_mk mk ls = ls) (hl : z_s1 ls j (.int a) = some ls') : zk k X d mi pc ls (.int a :: st) S = zk k X d mi (pc + 1) ls' st S := zk_go (c' := (pc + 1, ls', st, S)) hf (by rw [hm]; show (z_sti ls j (.int a :: st)).map _ = _; rw [z_sti, hl]; rfl)
theorem k_lstore {j : Nat} {a : Int64} {ls' : List Value} (hf : z_ft mi pc = some (.lstore j, 2, mk, ts, x, y, w, v)) (hm : z_mk mk ls = ls) (hl : z_s2 ls j (.long a) = some ls') : zk k X d mi pc ls (.long a :: st) S = zk k X d mi (pc + 2) ls' st S := zk_go (c' := (pc + 2, ls', st, S)) hf (by rw [hm]; show (z_stl ls j (.long a :: st)).map _ = _; rw [z_stl, hl]; rfl)
theorem k_lstore_n {j : Fin 4} {a : Int64} {ls' : List Value} (hf : z_ft mi pc = some (.lstore_n j, 1, mk, ts, x, y, w, v)) (hm : z_mk mk ls = ls) (hl : z_s2 ls j (.long a) = some ls') : zk k X d mi pc ls (.long a :: st) S = zk k X d mi (pc + 1) ls' st S := zk_go (c' := (pc + 1, ls', st, S)) hf (by rw [hm]; show (z_stl ls j (.long a :: st)).map _ = _; rw [z_stl, hl]; rfl)
theorem k_astore {j : Nat} {a : Nat} {ls' : List Value} (hf : z_ft mi pc = some (.astore j, 2, mk, ts, x, y, w, v)) (hm : z_mk mk ls = ls) (hl : z_s1 ls j (.ref a) = some ls') : zk k X d mi pc ls (.ref a :: st) S = zk k X d mi (pc + 2) ls' st S := zk_go (c' := (pc + 2, ls', st, S)) hf (by rw [hm]; show (z_sta ls j (.ref a :: st)).map _ = _; rw [z_sta, hl]; rfl)
theorem k_astore_n {j : Fin 4} {a : Nat} {ls' : List Value} (hf : z_ft mi pc = some (.astore_n j, 1, mk, ts, x, y, w, v)) (hm : z_mk mk ls = ls) (hl : z_s1 ls j (.ref a) = some ls') : zk k X d mi pc ls (.ref a :: st) S = zk k X d mi (pc + 1) ls' st S := zk_go (c' := (pc + 1, ls', st, S)) hf (by rw [hm]; show (z_sta ls j (.ref a :: st)).map _ = _; rw [z_sta, hl]; rfl)
theorem k_iinc {j : Nat} {n : Int} {a b : Int32} {ls' : List Value} (hf : z_ft mi pc = some (.iinc j n, 3, mk, ts, x, y, w, v)) (hm : z_mk mk ls = ls) (hl : ls.getD j z_j = .int a) (hb : a + Int32.ofInt n = b) (hs : z_s1 ls j (.int b) = some ls') : zk k X d mi pc ls st S = zk k X d mi (pc + 3) ls' st S := zk_go (c' := (pc + 3, ls', st, S)) hf (by subst hb; rw [hm]; show (z_so (.iinc j n) ls st).map _ = _; rw [show z_so (.iinc j n) ls st = (match ls.getD j z_j with | .int x => (z_s1 ls j (.int (x + Int32.ofInt n))).map (fun l => (l, st)) | _ => none) from rfl, hl]; show ((z_s1 ls j (.int (a + Int32.ofInt n))).map _).map _ = _; rw [hs]; rfl)
theorem k_goto {o : Int} (hf : z_ft mi pc = some (.goto o, 3, mk, ts, x, y, w, v)) (hm : z_mk mk ls = ls) : zk k X d mi pc ls st S = zk k X d mi x ls st S := zk_go (c' := (x, ls, st, S)) hf (by rw [hm]; rfl)
theorem k_if_eq {a : Int32} {o : Int} (hf : z_ft mi pc = some (.ifCond .eq o, 3, mk, ts, x, y, w, v)) (hm : z_mk mk ls = ls) : zk k X d mi pc ls (.int a :: st) S = if a = (0 : Int32) then zk k X d mi x ls st S else zk k X d mi (pc + 3) ls st S := by
  by_cases h : a = (0 : Int32)
  · rw [if_pos h]
    exact zk_go (c' := (x, ls, st, S)) hf (by rw [hm]; show some (Sum.inr ((if decide (a = (0 : Int32)) then x else pc + 3), ls, st, S)) = _; rw [if_pos (decide_eq_true h)])
  · rw [if_neg h]
    exact zk_go (c' := (pc + 3, ls, st, S)) hf (by rw [hm]; show some (Sum.inr ((if decide (a = (0 : Int32)) then x else pc + 3), ls, st, S)) = _; rw [if_neg (fun q => h (of_decide_eq_true q))])
theorem k_icmp_eq {a b : Int32} {o : Int} (hf : z_ft mi pc = some (.if_icmp .eq o, 3, mk, ts, x, y, w, v)) (hm : z_mk mk ls = ls) : zk k X d mi pc ls (.int b :: .int a :: st) S = if a = b then zk k X d mi x ls st S else zk k X d mi (pc + 3) ls st S := by
  by_cases h : a = b
  · rw [if_pos h]
    exact zk_go (c' := (x, ls, st, S)) hf (by rw [hm]; show some (Sum.inr ((if decide (a = b) then x else pc + 3), ls, st, S)) = _; rw [if_pos (decide_eq_true h)])
  · rw [if_neg h]
    exact zk_go (c' := (pc + 3, ls, st, S)) hf (by rw [hm]; show some (Sum.inr ((if decide (a = b) then x else pc + 3), ls, st, S)) = _; rw [if_neg (fun q => h (of_decide_eq_true q))])
theorem k_if_ne {a : Int32} {o : Int} (hf : z_ft mi pc = some (.ifCond .ne o, 3, mk, ts, x, y, w, v)) (hm : z_mk mk ls = ls) : zk k X d mi pc ls (.int a :: st) S = if ¬ a = (0 : Int32) then zk k X d mi x ls st S else zk k X d mi (pc + 3) ls st S := by
  by_cases h : ¬ a = (0 : Int32)
  · rw [if_pos h]
    exact zk_go (c' := (x, ls, st, S)) hf (by rw [hm]; show some (Sum.inr ((if decide (¬ a = (0 : Int32)) then x else pc + 3), ls, st, S)) = _; rw [if_pos (decide_eq_true h)])
  · rw [if_neg h]
    exact zk_go (c' := (pc + 3, ls, st, S)) hf (by rw [hm]; show some (Sum.inr ((if decide (¬ a = (0 : Int32)) then x else pc + 3), ls, st, S)) = _; rw [if_neg (fun q => h (of_decide_eq_true q))])
theorem k_icmp_ne {a b : Int32} {o : Int} (hf : z_ft mi pc = some (.if_icmp .ne o, 3, mk, ts, x, y, w, v)) (hm : z_mk mk ls = ls) : zk k X d mi pc ls (.int b :: .int a :: st) S = if ¬ a = b then zk k X d mi x ls st S else zk k X d mi (pc + 3) ls st S := by
  by_cases h : ¬ a = b
  · rw [if_pos h]
    exact zk_go (c' := (x, ls, st, S)) hf (by rw [hm]; show some (Sum.inr ((if decide (¬ a = b) then x else pc + 3), ls, st, S)) = _; rw [if_pos (decide_eq_true h)])
  · rw [if_neg h]
    exact zk_go (c' := (pc + 3, ls, st, S)) hf (by rw [hm]; show some (Sum.inr ((if decide (¬ a = b) then x else pc + 3), ls, st, S)) = _; rw [if_neg (fun q => h (of_decide_eq_true q))])
theorem k_if_lt {a : Int32} {o : Int} (hf : z_ft mi pc = some (.ifCond .lt o, 3, mk, ts, x, y, w, v)) (hm : z_mk mk ls = ls) : zk k X d mi pc ls (.int a :: st) S = if a < (0 : Int32) then zk k X d mi x ls st S else zk k X d mi (pc + 3) ls st S := by
  by_cases h : a < (0 : Int32)
  · rw [if_pos h]
    exact zk_go (c' := (x, ls, st, S)) hf (by rw [hm]; show some (Sum.inr ((if decide (a < (0 : Int32)) then x else pc + 3), ls, st, S)) = _; rw [if_pos (decide_eq_true h)])
  · rw [if_neg h]
    exact zk_go (c' := (pc + 3, ls, st, S)) hf (by rw [hm]; show some (Sum.inr ((if decide (a < (0 : Int32)) then x else pc + 3), ls, st, S)) = _; rw [if_neg (fun q => h (of_decide_eq_true q))])
theorem k_icmp_lt {a b : Int32} {o : Int} (hf : z_ft mi pc = some (.if_icmp .lt o, 3, mk, ts, x, y, w, v)) (hm : z_mk mk ls = ls) : zk k X d mi pc ls (.int b :: .int a :: st) S = if a < b then zk k X d mi x ls st S else zk k X d mi (pc + 3) ls st S := by
  by_cases h : a < b
  · rw [if_pos h]
    exact zk_go (c' := (x, ls, st, S)) hf (by rw [hm]; show some (Sum.inr ((if decide (a < b) then x else pc + 3), ls, st, S)) = _; rw [if_pos (decide_eq_true h)])
  · rw [if_neg h]
    exact zk_go (c' := (pc + 3, ls, st, S)) hf (by rw [hm]; show some (Sum.inr ((if decide (a < b) then x else pc + 3), ls, st, S)) = _; rw [if_neg (fun q => h (of_decide_eq_true q))])
theorem k_if_ge {a : Int32} {o : Int} (hf : z_ft mi pc = some (.ifCond .ge o, 3, mk, ts, x, y, w, v)) (hm : z_mk mk ls = ls) : zk k X d mi pc ls (.int a :: st) S = if (0 : Int32) ≤ a then zk k X d mi x ls st S else zk k X d mi (pc + 3) ls st S := by
  by_cases h : (0 : Int32) ≤ a
  · rw [if_pos h]
    exact zk_go (c' := (x, ls, st, S)) hf (by rw [hm]; show some (Sum.inr ((if decide ((0 : Int32) ≤ a) then x else pc + 3), ls, st, S)) = _; rw [if_pos (decide_eq_true h)])
  · rw [if_neg h]
    exact zk_go (c' := (pc + 3, ls, st, S)) hf (by rw [hm]; show some (Sum.inr ((if decide ((0 : Int32) ≤ a) then x else pc + 3), ls, st, S)) = _; rw [if_neg (fun q => h (of_decide_eq_true q))])
theorem k_icmp_ge {a b : Int32} {o : Int} (hf : z_ft mi pc = some (.if_icmp .ge o, 3, mk, ts, x, y, w, v)) (hm : z_mk mk ls = ls) : zk k X d mi pc ls (.int b :: .int a :: st) S = if b ≤ a then zk k X d mi x ls st S else zk k X d mi (pc + 3) ls st S := by
  by_cases h : b ≤ a
  · rw [if_pos h]
    exact zk_go (c' := (x, ls, st, S)) hf (by rw [hm]; show some (Sum.inr ((if decide (b ≤ a) then x else pc + 3), ls, st, S)) = _; rw [if_pos (decide_eq_true h)])
  · rw [if_neg h]
    exact zk_go (c' := (pc + 3, ls, st, S)) hf (by rw [hm]; show some (Sum.inr ((if decide (b ≤ a) then x else pc + 3), ls, st, S)) = _; rw [if_neg (fun q => h (of_decide_eq_true q))])
theorem k_if_gt {a : Int32} {o : Int} (hf : z_ft mi pc = some (.ifCond .gt o, 3, mk, ts, x, y, w, v)) (hm : z_mk mk ls = ls) : zk k X d mi pc ls (.int a :: st) S = if (0 : Int32) < a then zk k X d mi x ls st S else zk k X d mi (pc + 3) ls st S := by
  by_cases h : (0 : Int32) < a
  · rw [if_pos h]
    exact zk_go (c' := (x, ls, st, S)) hf (by rw [hm]; show some (Sum.inr ((if decide ((0 : Int32) < a) then x else pc + 3), ls, st, S)) = _; rw [if_pos (decide_eq_true h)])
  · rw [if_neg h]
    exact zk_go (c' := (pc + 3, ls, st, S)) hf (by rw [hm]; show some (Sum.inr ((if decide ((0 : Int32) < a) then x else pc + 3), ls, st, S)) = _; rw [if_neg (fun q => h (of_decide_eq_true q))])
theorem k_icmp_gt {a b : Int32} {o : Int} (hf : z_ft mi pc = some (.if_icmp .gt o, 3, mk, ts, x, y, w, v)) (hm : z_mk mk ls = ls) : zk k X d mi pc ls (.int b :: .int a :: st) S = if b < a then zk k X d mi x ls st S else zk k X d mi (pc + 3) ls st S := by
  by_cases h : b < a
  · rw [if_pos h]
    exact zk_go (c' := (x, ls, st, S)) hf (by rw [hm]; show some (Sum.inr ((if decide (b < a) then x else pc + 3), ls, st, S)) = _; rw [if_pos (decide_eq_true h)])
  · rw [if_neg h]
    exact zk_go (c' := (pc + 3, ls, st, S)) hf (by rw [hm]; show some (Sum.inr ((if decide (b < a) then x else pc + 3), ls, st, S)) = _; rw [if_neg (fun q => h (of_decide_eq_true q))])
theorem k_if_le {a : Int32} {o : Int} (hf : z_ft mi pc = some (.ifCond .le o, 3, mk, ts, x, y, w, v)) (hm : z_mk mk ls = ls) : zk k X d mi pc ls (.int a :: st) S = if a ≤ (0 : Int32) then zk k X d mi x ls st S else zk k X d mi (pc + 3) ls st S := by
  by_cases h : a ≤ (0 : Int32)
  · rw [if_pos h]
    exact zk_go (c' := (x, ls, st, S)) hf (by rw [hm]; show some (Sum.inr ((if decide (a ≤ (0 : Int32)) then x else pc + 3), ls, st, S)) = _; rw [if_pos (decide_eq_true h)])
  · rw [if_neg h]
    exact zk_go (c' := (pc + 3, ls, st, S)) hf (by rw [hm]; show some (Sum.inr ((if decide (a ≤ (0 : Int32)) then x else pc + 3), ls, st, S)) = _; rw [if_neg (fun q => h (of_decide_eq_true q))])
theorem k_icmp_le {a b : Int32} {o : Int} (hf : z_ft mi pc = some (.if_icmp .le o, 3, mk, ts, x, y, w, v)) (hm : z_mk mk ls = ls) : zk k X d mi pc ls (.int b :: .int a :: st) S = if a ≤ b then zk k X d mi x ls st S else zk k X d mi (pc + 3) ls st S := by
  by_cases h : a ≤ b
  · rw [if_pos h]
    exact zk_go (c' := (x, ls, st, S)) hf (by rw [hm]; show some (Sum.inr ((if decide (a ≤ b) then x else pc + 3), ls, st, S)) = _; rw [if_pos (decide_eq_true h)])
  · rw [if_neg h]
    exact zk_go (c' := (pc + 3, ls, st, S)) hf (by rw [hm]; show some (Sum.inr ((if decide (a ≤ b) then x else pc + 3), ls, st, S)) = _; rw [if_neg (fun q => h (of_decide_eq_true q))])
theorem k_switch {a : Int32} {df lo hi : Int} {of : Array Int} {n : Nat} (hf : z_ft mi pc = some (.tableswitch df lo hi of, n, mk, ts, x, y, w, v)) (hm : z_mk mk ls = ls) : zk k X d mi pc ls (.int a :: st) S = zk k X d mi (z_sw lo ts x a) ls st S := zk_go (c' := (z_sw lo ts x a, ls, st, S)) hf (by rw [hm]; rfl)
theorem zk_sw {lo : Int} {t df : Nat} {a : Int32} : zk k X d mi (z_sw lo (t :: ts) df a) ls st S = if a = Int32.ofInt lo then zk k X d mi t ls st S else zk k X d mi (z_sw (lo + 1) ts df a) ls st S := by
  show zk k X d mi (if a = Int32.ofInt lo then t else z_sw (lo + 1) ts df a) ls st S = _
  split <;> rfl
theorem k_ireturn {a : Int32} (hf : z_ft mi pc = some (.ireturn, 1, mk, ts, x, y, w, v)) (hm : z_mk mk ls = ls) (hr : z_rk mi = 1) : zk k X d mi pc ls [.int a] S = k (some (.int a), S) := zk_end hf (by rw [hm]; show ((if z_rk mi = 1 ∨ z_rk mi = 3 ∧ (a = 0 ∨ a = 1) then some (some (Value.int a)) else none : Option (Option Value)).map _) = _; rw [if_pos (Or.inl hr)]; rfl)
theorem k_zreturn {a : Int32} (hf : z_ft mi pc = some (.ireturn, 1, mk, ts, x, y, w, v)) (hm : z_mk mk ls = ls) (hr : z_rk mi = 3) : zk k X d mi pc ls [.int a] S = if a = 0 ∨ a = 1 then k (some (.int a), S) else none := by
  by_cases h : a = 0 ∨ a = 1
  · rw [if_pos h]
    exact zk_end hf (by rw [hm]; show ((if z_rk mi = 1 ∨ z_rk mi = 3 ∧ (a = 0 ∨ a = 1) then some (some (Value.int a)) else none : Option (Option Value)).map _) = _; rw [if_pos (Or.inr ⟨hr, h⟩)]; rfl)
  · rw [if_neg h]
    exact zk_no hf (by rw [hm]; show ((if z_rk mi = 1 ∨ z_rk mi = 3 ∧ (a = 0 ∨ a = 1) then some (some (Value.int a)) else none : Option (Option Value)).map _) = _; rw [if_neg (fun q => q.elim (fun q => by omega) (fun q => h q.2))]; rfl)
theorem k_lreturn {a : Int64} (hf : z_ft mi pc = some (.lreturn, 1, mk, ts, x, y, w, v)) (hm : z_mk mk ls = ls) (hr : z_rk mi = 2) : zk k X d mi pc ls [.long a] S = k (some (.long a), S) := zk_end hf (by rw [hm]; show ((if z_rk mi = 2 then some (some (Value.long a)) else none : Option (Option Value)).map _) = _; rw [if_pos hr]; rfl)
theorem k_return (hf : z_ft mi pc = some (.return_, 1, mk, ts, x, y, w, v)) (hm : z_mk mk ls = ls) (hr : z_rk mi = 0) : zk k X d mi pc ls [] S = k (none, S) := zk_end hf (by rw [hm]; show ((if z_rk mi = 0 then some none else none : Option (Option Value)).map _) = _; rw [if_pos hr]; rfl)
end ZI
