/-! THE LITE MACHINE: a store of cells by numbers (kind, length, ints, longs, references), one step of a method's code, calls by depth. -/
/-- size, kind, length, ints, longs, references -/
abbrev z_S : Type := Nat × (Nat → Nat) × (Nat → Nat) × (Nat → Nat → Int32) × (Nat → Nat → Int64) × (Nat → Nat → Option Nat)
abbrev z_sz (S : z_S) : Nat := S.1
abbrev z_kd (S : z_S) : Nat → Nat := S.2.1
abbrev z_ln (S : z_S) : Nat → Nat := S.2.2.1
def gI (S : z_S) : Nat → Nat → Int32 := S.2.2.2.1
def gL (S : z_S) : Nat → Nat → Int64 := S.2.2.2.2.1
def gR (S : z_S) : Nat → Nat → Option Nat := S.2.2.2.2.2
def z_u2 {α : Type} (f : Nat → Nat → α) (c k : Nat) (v : α) : Nat → Nat → α := fun c' k' => if c' = c then (if k' = k then v else f c' k') else f c' k'
def sI (S : z_S) (c k : Nat) (v : Int32) : z_S := (S.1, S.2.1, S.2.2.1, z_u2 S.2.2.2.1 c k v, S.2.2.2.2.1, S.2.2.2.2.2)
def sL (S : z_S) (c k : Nat) (v : Int64) : z_S := (S.1, S.2.1, S.2.2.1, S.2.2.2.1, z_u2 S.2.2.2.2.1 c k v, S.2.2.2.2.2)
def sR (S : z_S) (c k : Nat) (v : Option Nat) : z_S := (S.1, S.2.1, S.2.2.1, S.2.2.2.1, S.2.2.2.2.1, z_u2 S.2.2.2.2.2 c k v)
/-- n ints from place sp of cell a to place dp of cell b -/
def cI (S : z_S) (a sp b dp n : Nat) : z_S := (S.1, S.2.1, S.2.2.1, fun c k => if c = b then va_cpy (S.2.2.2.1 a) (S.2.2.2.1 b) sp dp n k else S.2.2.2.1 c k, S.2.2.2.2.1, S.2.2.2.2.2)
/-- a new cell of a kind, of n places -/
def z_nw (S : z_S) (kind n : Nat) : z_S := (S.1 + 1, fun c => if c = S.1 then kind else S.2.1 c, fun c => if c = S.1 then n else S.2.2.1 c,
  fun c k => if c = S.1 then 0 else S.2.2.2.1 c k, fun c k => if c = S.1 then 0 else S.2.2.2.2.1 c k, fun c k => if c = S.1 then none else S.2.2.2.2.2 c k)
def z_S0 : z_S := (0, fun _ => 0, fun _ => 0, fun _ _ => 0, fun _ _ => 0, fun _ _ => none)
theorem gI_sI (S : z_S) (c k : Nat) (v : Int32) (c' k' : Nat) : gI (sI S c k v) c' k' = if c' = c then (if k' = k then v else gI S c' k') else gI S c' k' := rfl
theorem gL_sI (S : z_S) (c k : Nat) (v : Int32) : gL (sI S c k v) = gL S := rfl
theorem gR_sI (S : z_S) (c k : Nat) (v : Int32) : gR (sI S c k v) = gR S := rfl
theorem gI_sL (S : z_S) (c k : Nat) (v : Int64) : gI (sL S c k v) = gI S := rfl
theorem gL_sL (S : z_S) (c k : Nat) (v : Int64) (c' k' : Nat) : gL (sL S c k v) c' k' = if c' = c then (if k' = k then v else gL S c' k') else gL S c' k' := rfl
theorem gR_sL (S : z_S) (c k : Nat) (v : Int64) : gR (sL S c k v) = gR S := rfl
theorem gI_sR (S : z_S) (c k : Nat) (v : Option Nat) : gI (sR S c k v) = gI S := rfl
theorem gL_sR (S : z_S) (c k : Nat) (v : Option Nat) : gL (sR S c k v) = gL S := rfl
theorem gR_sR (S : z_S) (c k : Nat) (v : Option Nat) (c' k' : Nat) : gR (sR S c k v) c' k' = if c' = c then (if k' = k then v else gR S c' k') else gR S c' k' := rfl
theorem gI_cI (S : z_S) (a sp b dp n c k : Nat) : gI (cI S a sp b dp n) c k = if c = b then va_cpy (gI S a) (gI S b) sp dp n k else gI S c k := rfl
theorem gL_cI (S : z_S) (a sp b dp n : Nat) : gL (cI S a sp b dp n) = gL S := rfl
theorem gR_cI (S : z_S) (a sp b dp n : Nat) : gR (cI S a sp b dp n) = gR S := rfl
/-- an index within a length -/
abbrev z_in (i : Int32) (n : Nat) : Prop := ¬ (i < 0 ∨ n ≤ i.toNatClampNeg)
/-- no value: the second half of a long, a local that nothing reads -/
abbrev z_j : Value := .retAddr 0
def z_mkL : Nat → List Nat → List Value → List Value
  | _, _, [] => []
  | i, l, v :: r => (if l.contains i then v else z_j) :: z_mkL (i + 1) l r
/-- the locals that live at a block's head -/
def z_mk (o : Option (List Nat)) (ls : List Value) : List Value := match o with
  | none => ls
  | some l => z_mkL 0 l ls
def z_lg (v : Value) : Bool := match v with
  | .long _ => true
  | .double _ => true
  | _ => false
/-- a store at i spoils a long that begins ahead of it -/
def z_inv (ls : List Value) (i : Nat) : List Value := match i with
  | 0 => ls
  | j + 1 => if z_lg (ls.getD j z_j) then ls.set j z_j else ls
def z_s1 (ls : List Value) (i : Nat) (v : Value) : Option (List Value) := if i < ls.length then some ((z_inv ls i).set i v) else none
def z_s2 (ls : List Value) (i : Nat) (v : Value) : Option (List Value) := if i + 1 < ls.length then some (((z_inv ls i).set i v).set (i + 1) z_j) else none
def z_cl1 (n : Nat) (v : Value) : Bool := match v with
  | .ref c => decide (c < n)
  | _ => true
/-- all references of a frame are of cells that are -/
def z_clF (n : Nat) (ls st : List Value) : Bool := ls.all (z_cl1 n) && st.all (z_cl1 n)
def z_cnd (c : ClassFile.Cond) (x y : Int32) : Bool := match c with
  | .eq => decide (x = y)
  | .ne => decide (¬ x = y)
  | .lt => decide (x < y)
  | .ge => decide (y ≤ x)
  | .gt => decide (y < x)
  | .le => decide (x ≤ y)
/-- a switch: the targets of lo, lo + 1 .., else d -/
def z_sw (lo : Int) (ts : List Nat) (d : Nat) (x : Int32) : Nat := match ts with
  | [] => d
  | t :: r => if x = Int32.ofInt lo then t else z_sw (lo + 1) r d x
def z_M (mi : Nat) : z_Mt := z_ms.getD mi z_m0
abbrev z_nm (mi : Nat) : MethodName := (z_M mi).1
abbrev z_cc (mi : Nat) : ByteArray := (z_M mi).2.1
abbrev z_mL (mi : Nat) : Nat := (z_M mi).2.2.1
abbrev z_rt (mi : Nat) : Option FieldType := (z_M mi).2.2.2.1
abbrev z_ow (mi : Nat) : Nat := (z_M mi).2.2.2.2.1
abbrev z_na (mi : Nat) : Nat := (z_M mi).2.2.2.2.2.1
abbrev z_rk (mi : Nat) : Nat := (z_M mi).2.2.2.2.2.2.1
abbrev z_stc (mi : Nat) : Bool := (z_M mi).2.2.2.2.2.2.2.1
abbrev z_al (mi : Nat) : Bool := (z_M mi).2.2.2.2.2.2.2.2
def z_lk (pc : Nat) : List (Nat × z_En) → Option z_En
  | [] => none
  | q :: r => if q.1 = pc then some q.2 else z_lk pc r
def z_ft (mi pc : Nat) : Option z_En := z_lk pc (z_cs.getD mi [])
/-- what only moves the operand stack -/
def z_pu (i : Instr) (x : Nat) (v : Int) (st : List Value) : Option (List Value) := match i with
  | .iconst n => some (.int (Int32.ofInt n) :: st)
  | .bipush n => some (.int (Int8.ofInt n).toInt32 :: st)
  | .sipush n => some (.int (Int16.ofInt n).toInt32 :: st)
  | .lconst n => some (.long (Int64.ofNat (n : Nat)) :: st)
  | .ldc _ => if x = 0 then some (.int (Int32.ofInt v) :: st) else some (.retAddr 2 :: st)
  | .ldc_w _ => some (.int (Int32.ofInt v) :: st)
  | .ldc2_w _ => some (.long (Int64.ofInt v) :: st)
  | .dup => match st with
    | a :: r => if z_lg a then none else some (a :: a :: r)
    | _ => none
  | .dup2 => match st with
    | a :: b :: r => if z_lg a || z_lg b then none else some (a :: b :: a :: b :: r)
    | _ => none
  | .pop => match st with
    | a :: r => if z_lg a then none else some r
    | _ => none
  | .iadd => match st with
    | .int y :: .int x :: r => some (.int (x + y) :: r)
    | _ => none
  | .isub => match st with
    | .int y :: .int x :: r => some (.int (x - y) :: r)
    | _ => none
  | .imul => match st with
    | .int y :: .int x :: r => some (.int (x * y) :: r)
    | _ => none
  | .idiv => match st with
    | .int y :: .int x :: r => if y = 0 then none else some (.int (x / y) :: r)
    | _ => none
  | .irem => match st with
    | .int y :: .int x :: r => if y = 0 then none else some (.int (x - x / y * y) :: r)
    | _ => none
  | .iand => match st with
    | .int y :: .int x :: r => some (.int (x &&& y) :: r)
    | _ => none
  | .ior => match st with
    | .int y :: .int x :: r => some (.int (x ||| y) :: r)
    | _ => none
  | .ixor => match st with
    | .int y :: .int x :: r => some (.int (x ^^^ y) :: r)
    | _ => none
  | .ishl => match st with
    | .int y :: .int x :: r => some (.int (x <<< (y &&& 31)) :: r)
    | _ => none
  | .ishr => match st with
    | .int y :: .int x :: r => some (.int (x >>> (y &&& 31)) :: r)
    | _ => none
  | .iushr => match st with
    | .int y :: .int x :: r => some (.int (x.toUInt32 >>> (y.toUInt32 &&& Int32.toUInt32 31)).toInt32 :: r)
    | _ => none
  | .ladd => match st with
    | .long y :: .long x :: r => some (.long (x + y) :: r)
    | _ => none
  | .lsub => match st with
    | .long y :: .long x :: r => some (.long (x - y) :: r)
    | _ => none
  | .lmul => match st with
    | .long y :: .long x :: r => some (.long (x * y) :: r)
    | _ => none
  | .ldiv => match st with
    | .long y :: .long x :: r => if y = 0 then none else some (.long (x / y) :: r)
    | _ => none
  | .lrem => match st with
    | .long y :: .long x :: r => if y = 0 then none else some (.long (x - x / y * y) :: r)
    | _ => none
  | .land => match st with
    | .long y :: .long x :: r => some (.long (x &&& y) :: r)
    | _ => none
  | .lor => match st with
    | .long y :: .long x :: r => some (.long (x ||| y) :: r)
    | _ => none
  | .lxor => match st with
    | .long y :: .long x :: r => some (.long (x ^^^ y) :: r)
    | _ => none
  | .lshl => match st with
    | .int y :: .long x :: r => some (.long (x <<< (y.toInt64 &&& 63)) :: r)
    | _ => none
  | .lshr => match st with
    | .int y :: .long x :: r => some (.long (x >>> (y.toInt64 &&& 63)) :: r)
    | _ => none
  | .lcmp => match st with
    | .long y :: .long x :: r => some (.int (lg_cmp x y) :: r)
    | _ => none
  | .i2l => match st with
    | .int x :: r => some (.long x.toInt64 :: r)
    | _ => none
  | .l2i => match st with
    | .long x :: r => some (.int x.toInt32 :: r)
    | _ => none
  | .i2c => match st with
    | .int x :: r => some (.int (x.toUInt32 % 65536).toInt32 :: r)
    | _ => none
  | _ => none
def z_ldi (ls : List Value) (i : Nat) (st : List Value) : Option (List Value) := match ls.getD i z_j with
  | .int x => some (.int x :: st)
  | _ => none
def z_ldl (ls : List Value) (i : Nat) (st : List Value) : Option (List Value) := match ls.getD i z_j with
  | .long x => some (.long x :: st)
  | _ => none
def z_lda (ls : List Value) (i : Nat) (st : List Value) : Option (List Value) := match ls.getD i z_j with
  | .ref x => some (.ref x :: st)
  | .retAddr 1 => some (.retAddr 1 :: st)
  | _ => none
/-- what reads a local -/
def z_lo (i : Instr) (ls st : List Value) : Option (List Value) := match i with
  | .iload n => z_ldi ls n st
  | .iload_n n => z_ldi ls n st
  | .lload n => z_ldl ls n st
  | .lload_n n => z_ldl ls n st
  | .aload n => z_lda ls n st
  | .aload_n n => z_lda ls n st
  | _ => none
def z_sti (ls : List Value) (i : Nat) (st : List Value) : Option (List Value × List Value) := match st with
  | .int x :: r => (z_s1 ls i (.int x)).map (fun l => (l, r))
  | _ => none
def z_stl (ls : List Value) (i : Nat) (st : List Value) : Option (List Value × List Value) := match st with
  | .long x :: r => (z_s2 ls i (.long x)).map (fun l => (l, r))
  | _ => none
def z_sta (ls : List Value) (i : Nat) (st : List Value) : Option (List Value × List Value) := match st with
  | .ref x :: r => (z_s1 ls i (.ref x)).map (fun l => (l, r))
  | _ => none
/-- what writes a local -/
def z_so (i : Instr) (ls st : List Value) : Option (List Value × List Value) := match i with
  | .istore n => z_sti ls n st
  | .istore_n n => z_sti ls n st
  | .lstore n => z_stl ls n st
  | .lstore_n n => z_stl ls n st
  | .astore n => z_sta ls n st
  | .astore_n n => z_sta ls n st
  | .iinc n k => match ls.getD n z_j with
    | .int x => (z_s1 ls n (.int (x + Int32.ofInt k))).map (fun l => (l, st))
    | _ => none
  | _ => none
/-- where it goes on: the target, the stack -/
def z_br (i : Instr) (nx x : Nat) (ts : List Nat) (st : List Value) : Option (Nat × List Value) := match i with
  | .goto _ => some (x, st)
  | .ifCond c _ => match st with
    | .int a :: r => some (if z_cnd c a 0 then x else nx, r)
    | _ => none
  | .if_icmp c _ => match st with
    | .int b :: .int a :: r => some (if z_cnd c a b then x else nx, r)
    | _ => none
  | .tableswitch _ lo _ _ => match st with
    | .int a :: r => some (z_sw lo ts x a, r)
    | _ => none
  | _ => none
/-- reads of the store; X: the script's length and one more (0: no script here), its ints -/
def z_rd (X : Nat × (Nat → Int32)) (i : Instr) (x y : Nat) (st : List Value) (S : z_S) : Option (List Value) := match i with
  | .getfield _ => match st with
    | .ref c :: r => if c < z_sz S ∧ z_kd S c = x ∧ y < z_nf x then
        (if z_ty x y = 0 ∨ z_ty x y = 3 then some (.int (gI S c y) :: r) else if z_ty x y = 1 then some (.long (gL S c y) :: r) else match gR S c y with
          | some a => some (.ref a :: r)
          | none => none) else none
    | _ => none
  | .iaload => match st with
    | .int k :: .ref a :: r => if a < z_sz S ∧ z_kd S a = 20 ∧ z_in k (z_ln S a) then some (.int (gI S a k.toNatClampNeg) :: r) else none
    | .int k :: .retAddr 1 :: r => if 0 < X.1 ∧ z_in k (X.1 - 1) then some (.int (X.2 k.toNatClampNeg) :: r) else none
    | _ => none
  | .laload => match st with
    | .int k :: .ref a :: r => if a < z_sz S ∧ z_kd S a = 21 ∧ z_in k (z_ln S a) then some (.long (gL S a k.toNatClampNeg) :: r) else none
    | _ => none
  | .baload => match st with
    | .int k :: .ref a :: r => if a < z_sz S ∧ z_kd S a = 22 ∧ z_in k (z_ln S a) then some (.int (gI S a k.toNatClampNeg) :: r) else none
    | _ => none
  | .aaload => match st with
    | .int k :: .ref a :: r => if a < z_sz S ∧ (z_kd S a = 23 ∨ z_kd S a = 24) ∧ z_in k (z_ln S a) then (match gR S a k.toNatClampNeg with
        | some q => some (.ref q :: r)
        | none => none) else none
    | _ => none
  | .arraylength => match st with
    | .ref a :: r => if a < z_sz S ∧ 20 ≤ z_kd S a ∧ z_kd S a ≤ 24 then some (.int (Int32.ofNat (z_ln S a)) :: r) else none
    | .retAddr 1 :: r => if 0 < X.1 then some (.int (Int32.ofNat (X.1 - 1)) :: r) else none
    | _ => none
  | _ => none
/-- writes of the store; al: in a constructor of class ow -/
def z_wr (al : Bool) (ow : Nat) (i : Instr) (x y : Nat) (st : List Value) (S : z_S) : Option (List Value × z_S) := match i with
  | .putfield _ => match st with
    | .int v :: .ref c :: r => if c < z_sz S ∧ z_kd S c = x ∧ y < z_nf x ∧ z_fi x y = false ∧ (z_ty x y = 0 ∨ z_ty x y = 3 ∧ (v = 0 ∨ v = 1)) then some (r, sI S c y v) else none
    | .long v :: .ref c :: r => if c < z_sz S ∧ z_kd S c = x ∧ y < z_nf x ∧ z_fi x y = false ∧ z_ty x y = 1 then some (r, sL S c y v) else none
    | .ref v :: .ref c :: r => if c < z_sz S ∧ z_kd S c = x ∧ y < z_nf x ∧ (z_fi x y = false ∨ al = true ∧ ow = x) ∧ v < z_sz S ∧ z_ty x y = 4 + z_kd S v then some (r, sR S c y (some v)) else none
    | _ => none
  | .iastore => match st with
    | .int v :: .int k :: .ref a :: r => if a < z_sz S ∧ z_kd S a = 20 ∧ z_in k (z_ln S a) then some (r, sI S a k.toNatClampNeg v) else none
    | _ => none
  | .lastore => match st with
    | .long v :: .int k :: .ref a :: r => if a < z_sz S ∧ z_kd S a = 21 ∧ z_in k (z_ln S a) then some (r, sL S a k.toNatClampNeg v) else none
    | _ => none
  | .bastore => match st with
    | .int v :: .int k :: .ref a :: r => if a < z_sz S ∧ z_kd S a = 22 ∧ z_in k (z_ln S a) ∧ (v = 0 ∨ v = 1) then some (r, sI S a k.toNatClampNeg v) else none
    | _ => none
  | .aastore => match st with
    | .ref v :: .int k :: .ref a :: r => if al = true ∧ a < z_sz S ∧ v < z_sz S ∧ (z_kd S a = 23 ∧ z_kd S v = 8 ∨ z_kd S a = 24 ∧ z_kd S v = 4) ∧ z_in k (z_ln S a) then some (r, sR S a k.toNatClampNeg (some v)) else none
    | _ => none
  | _ => none
/-- new cells: their kind and length, the stack under them -/
def z_aw (i : Instr) (x : Nat) (st : List Value) : Option (Nat × Nat × List Value) := match i with
  | .new _ => some (x, z_nf x, st)
  | .newarray t => match st with
    | .int n :: r => if 0 ≤ n ∧ n ≤ 100000 then (match t with
      | .int => some (20, n.toNatClampNeg, r)
      | .long => some (21, n.toNatClampNeg, r)
      | .boolean => some (22, n.toNatClampNeg, r)
      | _ => none) else none
    | _ => none
  | .anewarray _ => match st with
    | .int n :: r => if 0 ≤ n ∧ n ≤ 100000 then some (x, n.toNatClampNeg, r) else none
    | _ => none
  | _ => none
/-- the text of the one String constant -/
def z_tx : List Nat := "rooms bench steps knock lodger has in shut yields leaves rents night room nights empty step first if or and not all min max ".toList.map Char.toNat
def z_wt (st : List Value) : Nat := (st.map fun v => v.category).sum
/-- the calls that are no code of ours: Object's constructor, arraycopy, the constant's length and charAt -/
def z_sp (i : Instr) (x : Nat) (st : List Value) (S : z_S) : Option (List Value × z_S) :=
  if x = 900 then (match i, st with
    | .invokespecial _, .ref _ :: r => if z_wt r ≤ 8 then some (r, S) else none
    | _, _ => none)
  else if x = 901 then (match i, st with
    | .invokestatic _, .int n :: .int dp :: .ref b :: .int sp :: .ref a :: r =>
      if z_wt r ≤ 8 ∧ a < z_sz S ∧ b < z_sz S ∧ z_kd S a = 20 ∧ z_kd S b = 20 ∧ 0 ≤ n.toInt ∧ 0 ≤ sp.toInt ∧ 0 ≤ dp.toInt ∧ sp.toInt + n.toInt ≤ z_ln S a ∧ dp.toInt + n.toInt ≤ z_ln S b
      then some (r, cI S a sp.toNatClampNeg b dp.toNatClampNeg n.toNatClampNeg) else none
    | _, _ => none)
  else if x = 902 then (match i, st with
    | .invokevirtual _, .retAddr 2 :: r => if z_wt r ≤ 8 then some (.int (Int32.ofNat z_tx.length) :: r, S) else none
    | _, _ => none)
  else if x = 903 then (match i, st with
    | .invokevirtual _, .int k :: .retAddr 2 :: r => if z_wt r ≤ 8 ∧ z_in k z_tx.length then some (.int (Int32.ofNat (z_tx.getD k.toNatClampNeg 0)) :: r, S) else none
    | _, _ => none)
  else none
/-- the receiver stands there -/
def z_rc (mi x : Nat) (as : List Value) (S : z_S) : Bool := if z_stc x then true else match as with
  | .ref c :: _ => decide (c < z_sz S ∧ z_kd S c = z_ow x)
  | _ => false
def z_iv (i : Instr) (x : Nat) : Bool := match i with
  | .invokestatic _ => z_stc x
  | .invokevirtual _ => !z_stc x && !z_al x
  | .invokespecial _ => !z_stc x && z_al x
  | _ => false
/-- what a call pushes -/
def z_ps (rk : Nat) (r : Option Value) (st : List Value) : Option (List Value) := match r with
  | none => if rk = 0 then some st else none
  | some (.int v) => if rk = 1 ∨ rk = 3 then some (.int v :: st) else none
  | some (.long v) => if rk = 2 then some (.long v :: st) else none
  | _ => none
abbrev z_Q : Type := Option Value × z_S
abbrev z_C : Type := Nat × List Value × List Value × z_S
/-- a return -/
def z_re (rk : Nat) (i : Instr) (st : List Value) : Option (Option Value) := match i with
  | .ireturn => match st with
    | [.int v] => if rk = 1 ∨ rk = 3 ∧ (v = 0 ∨ v = 1) then some (some (.int v)) else none
    | _ => none
  | .lreturn => match st with
    | [.long v] => if rk = 2 then some (some (.long v)) else none
    | _ => none
  | .return_ => match st with
    | [] => if rk = 0 then some none else none
    | _ => none
  | _ => none
/-- the group of an instruction: 0 stack, 1 load, 2 store, 3 branch, 4 read, 5 write, 6 new, 7 call, 8 return -/
def z_gr (i : Instr) : Nat := match i with
  | .iload _ => 1
  | .iload_n _ => 1
  | .lload _ => 1
  | .lload_n _ => 1
  | .aload _ => 1
  | .aload_n _ => 1
  | .istore _ => 2
  | .istore_n _ => 2
  | .lstore _ => 2
  | .lstore_n _ => 2
  | .astore _ => 2
  | .astore_n _ => 2
  | .iinc _ _ => 2
  | .goto _ => 3
  | .ifCond _ _ => 3
  | .if_icmp _ _ => 3
  | .tableswitch _ _ _ _ => 3
  | .getfield _ => 4
  | .iaload => 4
  | .laload => 4
  | .baload => 4
  | .aaload => 4
  | .arraylength => 4
  | .putfield _ => 5
  | .iastore => 5
  | .lastore => 5
  | .bastore => 5
  | .aastore => 5
  | .new _ => 6
  | .newarray _ => 6
  | .anewarray _ => 6
  | .invokestatic _ => 7
  | .invokevirtual _ => 7
  | .invokespecial _ => 7
  | .ireturn => 8
  | .lreturn => 8
  | .return_ => 8
  | _ => 0
/-- one step: an end, or where it goes on -/
def z_ex (X : Nat × (Nat → Int32)) (call : Nat → List Value → z_S → Option z_Q) (mi pc : Nat) (e : z_En) (ls st : List Value) (S : z_S) : Option (z_Q ⊕ z_C) :=
  match z_gr e.1 with
  | 0 => (z_pu e.1 e.2.2.2.2.1 e.2.2.2.2.2.2.2 st).map fun r => .inr (pc + e.2.1, ls, r, S)
  | 1 => (z_lo e.1 ls st).map fun r => .inr (pc + e.2.1, ls, r, S)
  | 2 => (z_so e.1 ls st).map fun r => .inr (pc + e.2.1, r.1, r.2, S)
  | 3 => (z_br e.1 (pc + e.2.1) e.2.2.2.2.1 e.2.2.2.1 st).map fun r => .inr (r.1, ls, r.2, S)
  | 4 => (z_rd X e.1 e.2.2.2.2.1 e.2.2.2.2.2.1 st S).map fun r => .inr (pc + e.2.1, ls, r, S)
  | 5 => (z_wr (z_al mi) (z_ow mi) e.1 e.2.2.2.2.1 e.2.2.2.2.2.1 st S).map fun r => .inr (pc + e.2.1, ls, r.1, r.2)
  | 6 => if z_al mi then (z_aw e.1 e.2.2.2.2.1 st).bind fun r => if z_clF (z_sz S) ls r.2.2 then some (.inr (pc + e.2.1, ls, .ref (z_sz S) :: r.2.2, z_nw S r.1 r.2.1)) else none else none
  | 7 => if 900 ≤ e.2.2.2.2.1 then (z_sp e.1 e.2.2.2.2.1 st S).map fun r => .inr (pc + e.2.1, ls, r.1, r.2) else
      if st.length < z_na e.2.2.2.2.1 ∨ 8 < z_wt (st.drop (z_na e.2.2.2.2.1)) then none else
      if z_iv e.1 e.2.2.2.2.1 && z_rc mi e.2.2.2.2.1 (st.take (z_na e.2.2.2.2.1)).reverse S && (!z_al e.2.2.2.2.1 || (z_al mi && z_clF (z_sz S) ls st)) then
        (call e.2.2.2.2.1 (st.take (z_na e.2.2.2.2.1)).reverse S).bind fun q => (z_ps (z_rk e.2.2.2.2.1) q.1 (st.drop (z_na e.2.2.2.2.1))).map fun r => .inr (pc + e.2.1, ls, r, q.2)
      else none
  | _ => (z_re (z_rk mi) e.1 st).map fun r => .inl (r, S)
def z_st (X : Nat × (Nat → Int32)) (call : Nat → List Value → z_S → Option z_Q) (mi : Nat) (c : z_C) : Option (z_Q ⊕ z_C) :=
  (z_ft mi c.1).bind fun e => z_ex X call mi c.1 e (z_mk e.2.2.1 c.2.1) c.2.2.1 c.2.2.2
def z_run (X : Nat × (Nat → Int32)) (call : Nat → List Value → z_S → Option z_Q) (mi : Nat) : Nat → z_C → Option z_Q
  | 0, _ => none
  | n + 1, c => match z_st X call mi c with
    | none => none
    | some (.inl q) => some q
    | some (.inr c') => z_run X call mi n c'
def z_args : List Value → List Value
  | [] => []
  | v :: r => if z_lg v then v :: z_j :: z_args r else v :: z_args r
/-- the locals at the entry -/
def z_en (n : Nat) (as : List Value) : List Value := z_args as ++ List.replicate (n - (z_args as).length) z_j
/-- what a run comes to, however long it takes -/
noncomputable def z_lim {α : Type} (f : Nat → Option α) : Option α := by
  classical exact if h : ∃ n q, f n = some q then some (Classical.choose (Classical.choose_spec h)) else none
/-- no script -/
def z_X0 : Nat × (Nat → Int32) := (0, fun _ => 0)
noncomputable def z_call : Nat → Nat → List Value → z_S → Option z_Q
  | 0 => fun _ _ _ => none
  | d + 1 => fun mi as S => if (z_args as).length ≤ z_mL mi then z_lim (fun n => z_run z_X0 (z_call d) mi n (0, z_en (z_mL mi) as, [], S)) else none
/-- a method's run from a place on, at depth d -/
noncomputable def z_ev (X : Nat × (Nat → Int32)) (d mi : Nat) (c : z_C) : Option z_Q := z_lim (fun n => z_run X (z_call d) mi n c)
