/-! CHECKS of every row of code against the program's bytes and the words. -/
/-- the words of a call: x the callee, y 1 for a nest mate's constructor -/
def z_okC (o : Nat) (i : Instr) (x y w : Nat) : Prop := match i with
  | .invokestatic n => if x = 901 then (z_wl o)[w]? = some (.methodLink (z_RO o) n arraycopyName) else x < 282 ∧ (z_wl o)[w]? = some (.methodLink (z_RO o) n (z_nm x))
  | .invokevirtual n => (x = 902 ∧ o = 10 ∧ (z_wl o)[w]? = some (.methodLink (z_RO o) n ⟨"java/lang/String", "length", "()I"⟩)) ∨ (x = 903 ∧ o = 10 ∧ (z_wl o)[w]? = some (.methodLink (z_RO o) n ⟨"java/lang/String", "charAt", "(I)C"⟩)) ∨ (x < 282 ∧ (z_wl o)[w]? = some (.methodLink (z_RO o) n (z_nm x)))
  | .invokespecial n => if x = 900 then (z_wl o)[w]? = some (.methodLink (z_RO o) n objectInit) else x < 282 ∧ (if y = 1 then z_nst[w]? = some (z_RO o, n, z_nm x) else (z_wl o)[w]? = some (.methodLink (z_RO o) n (z_nm x)))
  | _ => True
def z_bK (o : Nat) (i : Instr) (x y w : Nat) (v : Int) (pc : Nat) (ts : List Nat) : Bool := match i with
  | .ldc n => if x = 0 then decide ((z_wl o)[w]? = some (.constant (z_RO o) n (Int32.ofInt v))) else decide (x = 1 ∧ o = 10 ∧ n = 40)
  | .ldc_w n => decide ((z_wl o)[w]? = some (.constant (z_RO o) n (Int32.ofInt v)))
  | .ldc2_w n => decide ((z_wl o)[w]? = some (.constantLong (z_RO o) n (Int64.ofInt v)))
  | .goto off => decide ((pc : Int) + off = (x : Int))
  | .ifCond _ off => decide ((pc : Int) + off = (x : Int))
  | .if_icmp _ off => decide ((pc : Int) + off = (x : Int))
  | .tableswitch df lo hi of => decide ((pc : Int) + df = (x : Int) ∧ hi = lo + (ts.length : Int) - 1 ∧ -1000 ≤ lo ∧ ts.length ≤ 1000 ∧ lo ≤ 1000 ∧ of.toList.map (fun o => (pc : Int) + o) = ts.map (fun (t : Nat) => (t : Int)))
  | .getfield n => decide ((z_wl o)[w]? = some (.fieldLink (z_RO o) n (z_T x y).1 (z_T x y).2.1 (z_T x y).2.2.1))
  | .putfield n => decide ((z_wl o)[w]? = some (.fieldLink (z_RO o) n (z_T x y).1 (z_T x y).2.1 (z_T x y).2.2.1))
  | .new n => decide (x < 13 ∧ (z_wl o)[w]? = some (.classLink (z_RO o) n (z_RO x)))
  | .anewarray n => decide ((x = 23 ∨ x = 24) ∧ (z_wl o)[w]? = some (.classLink (z_RO o) n (z_el x)))
  | .invokestatic n => if x = 901 then decide ((z_wl o)[w]? = some (.methodLink (z_RO o) n arraycopyName)) else decide (x < 282 ∧ (z_wl o)[w]? = some (.methodLink (z_RO o) n (z_nm x)))
  | .invokevirtual n => decide ((x = 902 ∧ o = 10 ∧ (z_wl o)[w]? = some (.methodLink (z_RO o) n ⟨"java/lang/String", "length", "()I"⟩)) ∨ (x = 903 ∧ o = 10 ∧ (z_wl o)[w]? = some (.methodLink (z_RO o) n ⟨"java/lang/String", "charAt", "(I)C"⟩)) ∨ (x < 282 ∧ (z_wl o)[w]? = some (.methodLink (z_RO o) n (z_nm x))))
  | .invokespecial n => if x = 900 then decide ((z_wl o)[w]? = some (.methodLink (z_RO o) n objectInit)) else decide (x < 282) && (if y = 1 then decide (z_nst[w]? = some (z_RO o, n, z_nm x)) else decide ((z_wl o)[w]? = some (.methodLink (z_RO o) n (z_nm x))))
  | _ => true
theorem z_bK_ok {o : Nat} {i : Instr} {x y w : Nat} {v : Int} {pc : Nat} {ts : List Nat} (h : z_bK o i x y w v pc ts = true) : z_okK o i x w v ∧ z_okB i pc x ts ∧ z_okF o i x y w ∧ z_okN o i x w ∧ z_okC o i x y w := by
  cases i with
  | ldc n =>
    refine ⟨?_, trivial, trivial, trivial, trivial⟩
    unfold z_okK
    unfold z_bK at h
    dsimp only at h ⊢
    split at h
    · rename_i hx; rw [if_pos hx]; exact of_decide_eq_true h
    · rename_i hx; rw [if_neg hx]; exact of_decide_eq_true h
  | ldc_w n => exact ⟨(of_decide_eq_true (p := (z_wl o)[w]? = some (.constant (z_RO o) n (Int32.ofInt v))) h), trivial, trivial, trivial, trivial⟩
  | ldc2_w n => exact ⟨(of_decide_eq_true (p := (z_wl o)[w]? = some (.constantLong (z_RO o) n (Int64.ofInt v))) h), trivial, trivial, trivial, trivial⟩
  | goto off => exact ⟨trivial, of_decide_eq_true (p := (pc : Int) + off = (x : Int)) h, trivial, trivial, trivial⟩
  | ifCond c off => exact ⟨trivial, of_decide_eq_true (p := (pc : Int) + off = (x : Int)) h, trivial, trivial, trivial⟩
  | if_icmp c off => exact ⟨trivial, of_decide_eq_true (p := (pc : Int) + off = (x : Int)) h, trivial, trivial, trivial⟩
  | tableswitch df lo hi of => exact ⟨trivial, of_decide_eq_true (p := (pc : Int) + df = (x : Int) ∧ hi = lo + (ts.length : Int) - 1 ∧ -1000 ≤ lo ∧ ts.length ≤ 1000 ∧ lo ≤ 1000 ∧ of.toList.map (fun o => (pc : Int) + o) = ts.map (fun (t : Nat) => (t : Int))) h, trivial, trivial, trivial⟩
  | getfield n => exact ⟨trivial, trivial, of_decide_eq_true (p := (z_wl o)[w]? = some (.fieldLink (z_RO o) n (z_T x y).1 (z_T x y).2.1 (z_T x y).2.2.1)) h, trivial, trivial⟩
  | putfield n => exact ⟨trivial, trivial, of_decide_eq_true (p := (z_wl o)[w]? = some (.fieldLink (z_RO o) n (z_T x y).1 (z_T x y).2.1 (z_T x y).2.2.1)) h, trivial, trivial⟩
  | new n => exact ⟨trivial, trivial, trivial, of_decide_eq_true (p := x < 13 ∧ (z_wl o)[w]? = some (.classLink (z_RO o) n (z_RO x))) h, trivial⟩
  | anewarray n => exact ⟨trivial, trivial, trivial, of_decide_eq_true (p := (x = 23 ∨ x = 24) ∧ (z_wl o)[w]? = some (.classLink (z_RO o) n (z_el x))) h, trivial⟩
  | invokestatic n =>
    refine ⟨trivial, trivial, trivial, trivial, ?_⟩
    unfold z_okC
    unfold z_bK at h
    dsimp only at h ⊢
    split at h
    · rename_i hx; rw [if_pos hx]; exact of_decide_eq_true h
    · rename_i hx; rw [if_neg hx]; exact of_decide_eq_true h
  | invokevirtual n => exact ⟨trivial, trivial, trivial, trivial, of_decide_eq_true (p := (x = 902 ∧ o = 10 ∧ (z_wl o)[w]? = some (.methodLink (z_RO o) n ⟨"java/lang/String", "length", "()I"⟩)) ∨ (x = 903 ∧ o = 10 ∧ (z_wl o)[w]? = some (.methodLink (z_RO o) n ⟨"java/lang/String", "charAt", "(I)C"⟩)) ∨ (x < 282 ∧ (z_wl o)[w]? = some (.methodLink (z_RO o) n (z_nm x)))) h⟩
  | invokespecial n =>
    refine ⟨trivial, trivial, trivial, trivial, ?_⟩
    unfold z_okC
    unfold z_bK at h
    dsimp only at h ⊢
    split at h
    · rename_i hx; rw [if_pos hx]; exact of_decide_eq_true h
    · rename_i hx
      rw [if_neg hx]
      rw [Bool.and_eq_true] at h
      refine ⟨of_decide_eq_true h.1, ?_⟩
      have h2 := h.2
      split at h2
      · rename_i hy; rw [if_pos hy]; exact of_decide_eq_true h2
      · rename_i hy; rw [if_neg hy]; exact of_decide_eq_true h2
  | _ => exact ⟨trivial, trivial, trivial, trivial, trivial⟩
def z_isT (i : Instr) : Bool := match i with
  | .tableswitch _ _ _ _ => true
  | _ => false
/-- a row of code is right -/
def z_bE (o : Nat) (cc : ByteArray) (q : Nat × z_En) : Bool :=
  decide (decode cc q.1 = .ok (q.2.1, q.2.2.1)) && ((z_isT q.2.1 || decide (z_len q.2.1 = q.2.2.1)) && z_bK o q.2.1 q.2.2.2.2.2.1 q.2.2.2.2.2.2.1 q.2.2.2.2.2.2.2.1 q.2.2.2.2.2.2.2.2 q.1 q.2.2.2.2.1)
def z_bM (mi : Nat) (l : List (Nat × z_En)) : Bool := l.all (z_bE (z_ow mi) (z_cc mi))

