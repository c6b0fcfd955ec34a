/-! SOUNDNESS 1: what moves the stack and the locals alone (written by wip/whole/gen/sound1.py). -/
/-- a lite value as the machine has it: rho the cells' addresses, b the script's, q the String constant's -/
def z_rv (rho : Nat → Nat) (b q : Nat) (v : Value) : Value := match v with
  | .ref c => .ref (rho c)
  | .retAddr 1 => .ref b
  | .retAddr 2 => .ref q
  | u => u
theorem z_rv_cat (rho : Nat → Nat) (b q : Nat) (v : Value) (h : z_lg v = false) : (z_rv rho b q v).category = 1 := by
  cases v with
  | int a => rfl
  | long a => cases h
  | float a => rfl
  | double a => cases h
  | null => rfl
  | ref a => rfl
  | retAddr n =>
    match n with
    | 0 => rfl
    | 1 => rfl
    | 2 => rfl
    | n + 3 => rfl
/-- a length that an instruction has -/
def z_len (i : Instr) : Nat := match i with
  | .bipush _ => 2
  | .sipush _ => 3
  | .ldc _ => 2
  | .ldc_w _ => 3
  | .ldc2_w _ => 3
  | .iload _ => 2
  | .lload _ => 2
  | .aload _ => 2
  | .istore _ => 2
  | .lstore _ => 2
  | .astore _ => 2
  | .iinc _ _ => 3
  | .goto _ => 3
  | .ifCond _ _ => 3
  | .if_icmp _ _ => 3
  | .getfield _ => 3
  | .putfield _ => 3
  | .new _ => 3
  | .newarray _ => 2
  | .anewarray _ => 3
  | .invokestatic _ => 3
  | .invokevirtual _ => 3
  | .invokespecial _ => 3
  | _ => 1
/-- the words of constants -/
def z_okK (o : Nat) (i : Instr) (x w : Nat) (v : Int) : Prop := match i with
  | .ldc n => if x = 0 then (z_wl o)[w]? = some (.constant (z_RO o) n (Int32.ofInt v)) else x = 1 ∧ o = 10 ∧ n = 40
  | .ldc_w n => (z_wl o)[w]? = some (.constant (z_RO o) n (Int32.ofInt v))
  | .ldc2_w n => (z_wl o)[w]? = some (.constantLong (z_RO o) n (Int64.ofInt v))
  | _ => True
section ZW1
variable {p : Program} {l : Launch} {e : Env} {R : Room} {s : State} {m : MethodId} {args : Array Value} {below : List Frame} {meth : Method} {c : Code} {H : Heap} {locs : List Loc} {cells slots : Nat} {Q : State → Prop}
variable {cc : ByteArray} {pc : Nat} {ls : Array Slot} {rho : Nat → Nat} {b q : Nat}

theorem z_w0 (hx : p.tables.exec = Jvm.exec) (hb : c.code = cc) {o : Nat} (hown : s.vm.findClass (z_RO o) = some m.cls) (hts : ∀ w ∈ z_wl o, w.before args s = true) (hstr : o = 10 → vk_R (z_RO 10) 40 "rooms bench steps knock lodger has in shut yields leaves rents night room nights empty step first if or and not all min max " q s)
    {i : Instr} {x w n : Nat} {v : Int} (hd : decode cc pc = .ok (i, n)) (hn : z_len i = n) (hok : z_okK o i x w v) {st st' : List Value} (h : z_pu i x v st = some st')
    (K : W p l e R s m args below meth c H locs cells slots Q (F0 m (pc + n) ls (st'.map (z_rv rho b q)))) : W p l e R s m args below meth c H locs cells slots Q (F0 m pc ls (st.map (z_rv rho b q))) := by
  subst hn
  cases i with
  | iconst n => cases h; exact lv_iconst hx hb hd rfl K
  | bipush n => cases h; exact lv_bipush hx hb hd rfl K
  | sipush n => cases h; exact lv_sipush hx hb hd rfl K
  | lconst n => cases h; exact lv_lconst hx hb hd rfl K
  | ldc n =>
    by_cases hx0 : x = 0
    · rw [show z_pu (.ldc n) x v st = (if x = 0 then some (.int (Int32.ofInt v) :: st) else some (.retAddr 2 :: st)) from rfl, if_pos hx0] at h
      cases h
      rw [z_okK, if_pos hx0] at hok
      exact lv_ldc hx hb hown (hts _ (List.mem_of_getElem? hok)) hd K
    · rw [show z_pu (.ldc n) x v st = (if x = 0 then some (.int (Int32.ofInt v) :: st) else some (.retAddr 2 :: st)) from rfl, if_neg hx0] at h
      cases h
      rw [z_okK, if_neg hx0] at hok
      obtain ⟨-, ho, hn⟩ := hok
      subst ho; subst hn
      exact va_ldcS hx hb hown (hstr rfl) hd K
  | ldc_w n => cases h; exact lv_ldcw hx hb hown (hts _ (List.mem_of_getElem? hok)) hd K
  | ldc2_w n => cases h; exact lv_ldc2 hx hb hown (hts _ (List.mem_of_getElem? hok)) hd K
  | dup =>
    match st, h with
    | a :: r, h =>
      by_cases hz : z_lg a = true
      · rw [show z_pu .dup x v (a :: r) = (if z_lg a then none else some (a :: a :: r)) from rfl, if_pos hz] at h
        cases h
      · rw [show z_pu .dup x v (a :: r) = (if z_lg a then none else some (a :: a :: r)) from rfl, if_neg hz] at h
        cases h
        exact lv_dup hx hb hd (z_rv_cat rho b q a (by simpa using hz)) K
  | dup2 =>
    match st, h with
    | a :: a2 :: r, h =>
      by_cases hz : (z_lg a || z_lg a2) = true
      · rw [show z_pu .dup2 x v (a :: a2 :: r) = (if z_lg a || z_lg a2 then none else some (a :: a2 :: a :: a2 :: r)) from rfl, if_pos hz] at h
        cases h
      · rw [show z_pu .dup2 x v (a :: a2 :: r) = (if z_lg a || z_lg a2 then none else some (a :: a2 :: a :: a2 :: r)) from rfl, if_neg hz] at h
        cases h
        have hz1 : z_lg a = false ∧ z_lg a2 = false := by simpa using hz
        exact lv_dup2_11 hx hb hd (z_rv_cat rho b q a hz1.1) (z_rv_cat rho b q a2 hz1.2) K
  | pop =>
    match st, h with
    | a :: r, h =>
      by_cases hz : z_lg a = true
      · rw [show z_pu .pop x v (a :: r) = (if z_lg a then none else some r) from rfl, if_pos hz] at h
        cases h
      · rw [show z_pu .pop x v (a :: r) = (if z_lg a then none else some r) from rfl, if_neg hz] at h
        cases h
        exact lv_pop hx hb hd (z_rv_cat rho b q a (by simpa using hz)) K
  | iadd =>
    match st, h with
    | .int a2 :: .int a1 :: r, h => cases h; exact lv_iadd hx hb hd K
  | isub =>
    match st, h with
    | .int a2 :: .int a1 :: r, h => cases h; exact lv_isub hx hb hd K
  | imul =>
    match st, h with
    | .int a2 :: .int a1 :: r, h => cases h; exact lv_imul hx hb hd K
  | iand =>
    match st, h with
    | .int a2 :: .int a1 :: r, h => cases h; exact lv_iand hx hb hd K
  | ior =>
    match st, h with
    | .int a2 :: .int a1 :: r, h => cases h; exact lv_ior hx hb hd K
  | ixor =>
    match st, h with
    | .int a2 :: .int a1 :: r, h => cases h; exact lv_ixor hx hb hd K
  | ishl =>
    match st, h with
    | .int a2 :: .int a1 :: r, h => cases h; exact lv_ishl hx hb hd K
  | ishr =>
    match st, h with
    | .int a2 :: .int a1 :: r, h => cases h; exact lv_ishr hx hb hd K
  | iushr =>
    match st, h with
    | .int a2 :: .int a1 :: r, h => cases h; exact lv_iushr hx hb hd rfl K
  | ladd =>
    match st, h with
    | .long a2 :: .long a1 :: r, h => cases h; exact lv_ladd hx hb hd K
  | lsub =>
    match st, h with
    | .long a2 :: .long a1 :: r, h => cases h; exact lv_lsub hx hb hd K
  | lmul =>
    match st, h with
    | .long a2 :: .long a1 :: r, h => cases h; exact lv_lmul hx hb hd K
  | land =>
    match st, h with
    | .long a2 :: .long a1 :: r, h => cases h; exact lv_land hx hb hd K
  | lor =>
    match st, h with
    | .long a2 :: .long a1 :: r, h => cases h; exact lv_lor hx hb hd K
  | lxor =>
    match st, h with
    | .long a2 :: .long a1 :: r, h => cases h; exact lv_lxor hx hb hd K
  | idiv =>
    match st, h with
    | .int a2 :: .int a1 :: r, h =>
      by_cases hz : a2 = 0
      · rw [show z_pu .idiv x v (.int a2 :: .int a1 :: r) = (if a2 = 0 then none else some (.int (a1 / a2) :: r)) from rfl, if_pos hz] at h
        cases h
      · rw [show z_pu .idiv x v (.int a2 :: .int a1 :: r) = (if a2 = 0 then none else some (.int (a1 / a2) :: r)) from rfl, if_neg hz] at h
        cases h
        exact lv_idiv hx hb hd hz K
  | irem =>
    match st, h with
    | .int a2 :: .int a1 :: r, h =>
      by_cases hz : a2 = 0
      · rw [show z_pu .irem x v (.int a2 :: .int a1 :: r) = (if a2 = 0 then none else some (.int (a1 - a1 / a2 * a2) :: r)) from rfl, if_pos hz] at h
        cases h
      · rw [show z_pu .irem x v (.int a2 :: .int a1 :: r) = (if a2 = 0 then none else some (.int (a1 - a1 / a2 * a2) :: r)) from rfl, if_neg hz] at h
        cases h
        exact lv_irem hx hb hd hz K
  | ldiv =>
    match st, h with
    | .long a2 :: .long a1 :: r, h =>
      by_cases hz : a2 = 0
      · rw [show z_pu .ldiv x v (.long a2 :: .long a1 :: r) = (if a2 = 0 then none else some (.long (a1 / a2) :: r)) from rfl, if_pos hz] at h
        cases h
      · rw [show z_pu .ldiv x v (.long a2 :: .long a1 :: r) = (if a2 = 0 then none else some (.long (a1 / a2) :: r)) from rfl, if_neg hz] at h
        cases h
        exact lv_ldiv hx hb hd hz K
  | lrem =>
    match st, h with
    | .long a2 :: .long a1 :: r, h =>
      by_cases hz : a2 = 0
      · rw [show z_pu .lrem x v (.long a2 :: .long a1 :: r) = (if a2 = 0 then none else some (.long (a1 - a1 / a2 * a2) :: r)) from rfl, if_pos hz] at h
        cases h
      · rw [show z_pu .lrem x v (.long a2 :: .long a1 :: r) = (if a2 = 0 then none else some (.long (a1 - a1 / a2 * a2) :: r)) from rfl, if_neg hz] at h
        cases h
        exact lv_lrem hx hb hd hz K
  | lshl =>
    match st, h with
    | .int a2 :: .long a1 :: r, h => cases h; exact lv_lshl hx hb hd rfl K
  | lshr =>
    match st, h with
    | .int a2 :: .long a1 :: r, h => cases h; exact lv_lshr hx hb hd rfl K
  | lcmp =>
    match st, h with
    | .long a2 :: .long a1 :: r, h => cases h; exact W.lcmp hx hb hd K
  | i2l =>
    match st, h with
    | .int a1 :: r, h => cases h; exact lv_i2l hx hb hd rfl K
  | l2i =>
    match st, h with
    | .long a1 :: r, h => cases h; exact lv_l2i hx hb hd rfl K
  | i2c =>
    match st, h with
    | .int a1 :: r, h => cases h; exact lv_i2c hx hb hd rfl K
  | _ => cases h
/-- the targets of a branch are those of its offset -/
def z_okB (i : Instr) (pc x : Nat) (ts : List Nat) : Prop := match i with
  | .goto off => (pc : Int) + off = (x : Int)
  | .ifCond _ off => (pc : Int) + off = (x : Int)
  | .if_icmp _ off => (pc : Int) + off = (x : Int)
  | .tableswitch df lo hi of => (pc : Int) + df = (x : Int) ∧ hi = lo + (ts.length : Int) - 1 ∧ -1000 ≤ lo ∧ ts.length ≤ 1000 ∧ lo ≤ 1000 ∧ of.toList.map (fun o => (pc : Int) + o) = ts.map (fun (t : Nat) => (t : Int))
  | _ => True
theorem z_sw_in : ∀ (ts : List Nat) (lo : Int) (d : Nat) (a : Int32), -2000 ≤ lo → lo + (ts.length : Int) ≤ 3000 → ¬ a.toInt < lo → a.toInt < lo + (ts.length : Int) → ts[(a.toInt - lo).toNat]? = some (z_sw lo ts d a)
  | [], lo, d, a, _, _, h1, h2 => by simp at h2; omega
  | t :: r, lo, d, a, g1, g2, h1, h2 => by
    have e : (Int32.ofInt lo).toInt = lo := by
      rw [Int32.toInt_ofInt_of_le] <;> simp at g2 ⊢ <;> omega
    rw [z_sw]
    by_cases hz : a = Int32.ofInt lo
    · rw [if_pos hz, hz, e]
      simp
    · rw [if_neg hz]
      have hne : a.toInt ≠ lo := fun q => hz (Int32.toInt_inj.mp (by rw [q, e]))
      have ih := z_sw_in r (lo + 1) d a (by omega) (by simp at g2; omega) (by omega) (by simp at h2; omega)
      rw [← ih, show (a.toInt - lo).toNat = (a.toInt - (lo + 1)).toNat + 1 by omega]
      simp
theorem z_sw_out : ∀ (ts : List Nat) (lo : Int) (d : Nat) (a : Int32), -2000 ≤ lo → lo + (ts.length : Int) ≤ 3000 → (a.toInt < lo ∨ lo + (ts.length : Int) ≤ a.toInt) → z_sw lo ts d a = d
  | [], lo, d, a, _, _, h => rfl
  | t :: r, lo, d, a, g1, g2, h => by
    have e : (Int32.ofInt lo).toInt = lo := by
      rw [Int32.toInt_ofInt_of_le] <;> simp at g2 ⊢ <;> omega
    rw [z_sw]
    have hz : ¬ a = Int32.ofInt lo := fun q => by
      rw [q, e] at h
      simp at h
      omega
    rw [if_neg hz]
    exact z_sw_out r (lo + 1) d a (by omega) (by simp at g2; omega) (by simp at h; omega)
/-- its length -/
def z_l3 (i : Instr) (n : Nat) : Prop := match i with
  | .tableswitch _ _ _ _ => True
  | _ => n = 3
theorem z_w3 (hx : p.tables.exec = Jvm.exec) (hb : c.code = cc) {i : Instr} {x n : Nat} {ts : List Nat} (hd : decode cc pc = .ok (i, n)) (hn0 : z_gr i = 3 → z_l3 i n) (hg : z_gr i = 3) (hok : z_okB i pc x ts) {st : List Value} {r : Nat × List Value} (h : z_br i (pc + n) x ts st = some r)
    (K : W p l e R s m args below meth c H locs cells slots Q (F0 m r.1 ls (r.2.map (z_rv rho b q)))) : W p l e R s m args below meth c H locs cells slots Q (F0 m pc ls (st.map (z_rv rho b q))) := by
  have hn1 := hn0 hg
  clear hn0 hg
  cases i with
  | goto off => cases h; have hn2 : n = 3 := hn1; clear hn1; subst hn2; exact lv_goto hx hb hd hok K
  | ifCond cnd off =>
    have hn2 : n = 3 := hn1
    clear hn1
    subst hn2
    match st, h with
    | .int a1 :: r, h =>
      cases h
      cases cnd with
      | eq => exact lv_if_eq hx hb hd hok (fun hc => by rw [show z_cnd .eq a1 (0 : Int32) = decide (a1 = (0 : Int32)) from rfl, if_pos (decide_eq_true hc)] at K; exact K) (fun hc => by rw [show z_cnd .eq a1 (0 : Int32) = decide (a1 = (0 : Int32)) from rfl, if_neg (fun q => absurd (of_decide_eq_true q) (by exact hc))] at K; exact K)
      | ne => exact lv_if_ne hx hb hd hok (fun hc => by rw [show z_cnd .ne a1 (0 : Int32) = decide (¬ a1 = (0 : Int32)) from rfl, if_pos (decide_eq_true hc)] at K; exact K) (fun hc => by rw [show z_cnd .ne a1 (0 : Int32) = decide (¬ a1 = (0 : Int32)) from rfl, if_neg (fun q => absurd (of_decide_eq_true q) (by exact fun z => z hc))] at K; exact K)
      | lt => exact lv_if_lt hx hb hd hok (fun hc => by rw [show z_cnd .lt a1 (0 : Int32) = decide (a1 < (0 : Int32)) from rfl, if_pos (decide_eq_true hc)] at K; exact K) (fun hc => by rw [show z_cnd .lt a1 (0 : Int32) = decide (a1 < (0 : Int32)) from rfl, if_neg (fun q => absurd (of_decide_eq_true q) (by exact hc))] at K; exact K)
      | ge => exact lv_if_ge hx hb hd hok (fun hc => by rw [show z_cnd .ge a1 (0 : Int32) = decide ((0 : Int32) ≤ a1) from rfl, if_pos (decide_eq_true hc)] at K; exact K) (fun hc => by rw [show z_cnd .ge a1 (0 : Int32) = decide ((0 : Int32) ≤ a1) from rfl, if_neg (fun q => absurd (of_decide_eq_true q) (by exact hc))] at K; exact K)
      | gt => exact lv_if_gt hx hb hd hok (fun hc => by rw [show z_cnd .gt a1 (0 : Int32) = decide ((0 : Int32) < a1) from rfl, if_pos (decide_eq_true hc)] at K; exact K) (fun hc => by rw [show z_cnd .gt a1 (0 : Int32) = decide ((0 : Int32) < a1) from rfl, if_neg (fun q => absurd (of_decide_eq_true q) (by exact hc))] at K; exact K)
      | le => exact lv_if_le hx hb hd hok (fun hc => by rw [show z_cnd .le a1 (0 : Int32) = decide (a1 ≤ (0 : Int32)) from rfl, if_pos (decide_eq_true hc)] at K; exact K) (fun hc => by rw [show z_cnd .le a1 (0 : Int32) = decide (a1 ≤ (0 : Int32)) from rfl, if_neg (fun q => absurd (of_decide_eq_true q) (by exact hc))] at K; exact K)
  | if_icmp cnd off =>
    have hn2 : n = 3 := hn1
    clear hn1
    subst hn2
    match st, h with
    | .int a2 :: .int a1 :: r, h =>
      cases h
      cases cnd with
      | eq => exact lv_icmp_eq hx hb hd hok (fun hc => by rw [show z_cnd .eq a1 a2 = decide (a1 = a2) from rfl, if_pos (decide_eq_true hc)] at K; exact K) (fun hc => by rw [show z_cnd .eq a1 a2 = decide (a1 = a2) from rfl, if_neg (fun q => absurd (of_decide_eq_true q) (by exact hc))] at K; exact K)
      | ne => exact lv_icmp_ne hx hb hd hok (fun hc => by rw [show z_cnd .ne a1 a2 = decide (¬ a1 = a2) from rfl, if_pos (decide_eq_true hc)] at K; exact K) (fun hc => by rw [show z_cnd .ne a1 a2 = decide (¬ a1 = a2) from rfl, if_neg (fun q => absurd (of_decide_eq_true q) (by exact fun z => z hc))] at K; exact K)
      | lt => exact lv_icmp_lt hx hb hd hok (fun hc => by rw [show z_cnd .lt a1 a2 = decide (a1 < a2) from rfl, if_pos (decide_eq_true hc)] at K; exact K) (fun hc => by rw [show z_cnd .lt a1 a2 = decide (a1 < a2) from rfl, if_neg (fun q => absurd (of_decide_eq_true q) (by exact hc))] at K; exact K)
      | ge => exact lv_icmp_ge hx hb hd hok (fun hc => by rw [show z_cnd .ge a1 a2 = decide (a2 ≤ a1) from rfl, if_pos (decide_eq_true hc)] at K; exact K) (fun hc => by rw [show z_cnd .ge a1 a2 = decide (a2 ≤ a1) from rfl, if_neg (fun q => absurd (of_decide_eq_true q) (by exact hc))] at K; exact K)
      | gt => exact lv_icmp_gt hx hb hd hok (fun hc => by rw [show z_cnd .gt a1 a2 = decide (a2 < a1) from rfl, if_pos (decide_eq_true hc)] at K; exact K) (fun hc => by rw [show z_cnd .gt a1 a2 = decide (a2 < a1) from rfl, if_neg (fun q => absurd (of_decide_eq_true q) (by exact hc))] at K; exact K)
      | le => exact lv_icmp_le hx hb hd hok (fun hc => by rw [show z_cnd .le a1 a2 = decide (a1 ≤ a2) from rfl, if_pos (decide_eq_true hc)] at K; exact K) (fun hc => by rw [show z_cnd .le a1 a2 = decide (a1 ≤ a2) from rfl, if_neg (fun q => absurd (of_decide_eq_true q) (by exact hc))] at K; exact K)
  | tableswitch df lo hi of =>
    match st, h with
    | .int a1 :: r, h =>
      cases h
      obtain ⟨o1, o2, o3, o4, o5, o6⟩ := hok
      by_cases ho : a1.toInt < lo ∨ hi < a1.toInt
      · have e := z_sw_out ts lo x a1 (by omega) (by omega) (by omega)
        refine lv_tableOut hx hb hd ho (tgt := z_sw lo ts x a1) ?_ K
        rw [e]
        exact o1
      · have e := z_sw_in ts lo x a1 (by omega) (by omega) (by omega) (by omega)
        have hl : (a1.toInt - lo).toNat < of.toList.length := by
          have h1 := congrArg List.length o6
          simp only [List.length_map] at h1
          rw [h1]
          omega
        have e2 : of[(a1.toInt - lo).toNat]? = some (of.toList[(a1.toInt - lo).toNat]) := by
          rw [← Array.getElem?_toList, List.getElem?_eq_getElem hl]
        refine lv_tableIn hx hb hd (fun z => ho (Or.inl z)) (fun z => ho (Or.inr z)) e2 (tgt := z_sw lo ts x a1) ?_ K
        have h2 : (of.toList.map (fun o => (pc : Int) + o))[(a1.toInt - lo).toNat]? = (ts.map (fun (t : Nat) => (t : Int)))[(a1.toInt - lo).toNat]? := by rw [o6]
        rw [List.getElem?_map, List.getElem?_map, e, List.getElem?_eq_getElem hl] at h2
        exact Option.some.inj h2
  | _ => cases h
end ZW1
