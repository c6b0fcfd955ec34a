/-! BEDS: in how many ways. -/
section BH
variable {G : w_G} {R L : Nat}
/-- how many ways, each in one of his two rooms, all in rooms that are not in Z, no two in one -/
def w_nw (G : w_G) : List Nat → Nat → Nat
  | [], _ => 1
  | k :: l, Z => (if Z.testBit (w_f G k) then 0 else w_nw G l (Z ||| 2 ^ w_f G k)) + (if Z.testBit (w_o G k) then 0 else w_nw G l (Z ||| 2 ^ w_o G k))
/-- the product of f 0 .. -/
def w_pr (f : Nat → Nat) : Nat → Nat
  | 0 => 1
  | n + 1 => w_pr f n * f n
theorem w_pr_cong {f g : Nat → Nat} : ∀ n, (∀ k, k < n → f k = g k) → w_pr f n = w_pr g n
  | 0, _ => rfl
  | n + 1, h => by rw [w_pr, w_pr, w_pr_cong n fun k hk => h k (by omega), h n (by omega)]
theorem w_pr_at {f : Nat → Nat} {i : Nat} : ∀ n, i < n → w_pr f n = f i * w_pr (fun x => if x = i then 1 else f x) n
  | 0, h => by omega
  | n + 1, h => by
    rw [w_pr, w_pr]
    by_cases c : i = n
    · rw [if_pos c.symm, Nat.mul_one, c, Nat.mul_comm]
      congr 1
      refine w_pr_cong n fun k hk => ?_
      rw [if_neg (by omega)]
    · rw [if_neg (fun z => c z.symm), w_pr_at (f := f) (i := i) n (by omega), Nat.mul_assoc]
/-- ways of a heap: how it is full, its rooms, how many of them are taken -/
def w_c (t n z : Nat) : Nat := if t = 0 then (if z = 0 then n else if z = 1 then 1 else 0) else if z = 0 then t else 0
def w_sz (R : Nat) (U : w_U) (h : Nat) : Nat := fb_ct (fun x => decide (U.1 x = h)) R
def w_zz (G : w_G) (R : Nat) (U : w_U) (Z h : Nat) : Nat := fb_ct (fun x => w_op G x && Z.testBit x && decide (U.1 x = h)) R
def w_wt (G : w_G) (R : Nat) (U : w_U) (Z h : Nat) : Nat := if U.1 h = h then w_c (U.2 h) (w_sz R U h) (w_zz G R U Z h) else 1
def w_wp (G : w_G) (R : Nat) (U : w_U) (Z : Nat) : Nat := w_pr (w_wt G R U Z) R
theorem w_zz_add {U : w_U} {Z x h : Nat} (hx : x < R) (ho : w_op G x = true) (hz : Z.testBit x = false) : w_zz G R U (Z ||| 2 ^ x) h = w_zz G R U Z h + if U.1 x = h then 1 else 0 := by
  unfold w_zz
  have e : fb_ct (fun y => w_op G y && (Z ||| 2 ^ x).testBit y && decide (U.1 y = h)) R = fb_ct (fun y => if y = x then decide (U.1 x = h) else (w_op G y && Z.testBit y && decide (U.1 y = h))) R := fb_ct_cong fun y _ => by
    rw [fb_bit_set]
    by_cases c : y = x
    · rw [if_pos c, c, ho, decide_eq_true rfl, Bool.or_true]; rfl
    · rw [if_neg c, decide_eq_false c, Bool.or_false]
  have u := fb_ct_upd (fun y => w_op G y && Z.testBit y && decide (U.1 y = h)) (decide (U.1 x = h)) hx
  rw [← e] at u
  rw [hz, Bool.and_false, Bool.false_and] at u
  by_cases c : U.1 x = h
  · rw [if_pos c]
    rw [decide_eq_true c, if_neg (by decide), if_pos rfl] at u
    omega
  · rw [if_neg c]
    rw [decide_eq_false c, if_neg (by decide)] at u
    omega
theorem w_zz_pos {U : w_U} {Z x : Nat} (hx : x < R) (ho : w_op G x = true) (hz : Z.testBit x = true) : 0 < w_zz G R U Z (U.1 x) := fb_ct_pos.mpr ⟨x, hx, by rw [ho, hz, decide_eq_true rfl]; rfl⟩
/-- roots are rooms -/
def w_rr (R : Nat) (U : w_U) : Prop := (∀ x, x < R → U.1 x < R) ∧ ∀ x, U.1 (U.1 x) = U.1 x
theorem w_rr_st {U : w_U} {k : Nat} (h : w_rr R U) (hr : w_r1 G k < R) : w_rr R (w_st G U k) := by
  by_cases c : w_ab G U k = true
  · obtain ⟨v, e, _⟩ := w_st_t c
    rw [e]
    refine ⟨fun x hx => ?_, fun x => ?_⟩
    · show (if U.1 x = U.1 (w_r2 G k) then U.1 (w_r1 G k) else U.1 x) < R
      split
      · exact h.1 _ hr
      · exact h.1 _ hx
    · show (if U.1 (if U.1 x = U.1 (w_r2 G k) then U.1 (w_r1 G k) else U.1 x) = U.1 (w_r2 G k) then U.1 (w_r1 G k) else U.1 (if U.1 x = U.1 (w_r2 G k) then U.1 (w_r1 G k) else U.1 x)) = (if U.1 x = U.1 (w_r2 G k) then U.1 (w_r1 G k) else U.1 x)
      by_cases w : U.1 x = U.1 (w_r2 G k)
      · rw [if_pos w, h.2, ite_self]
      · rw [if_neg w, h.2 x, if_neg w]
  · rw [w_st_f c]; exact h
/-- the others' product -/
def w_ot (G : w_G) (R : Nat) (U : w_U) (Z a b : Nat) : Nat := w_pr (fun x => if x = b then 1 else if x = a then 1 else w_wt G R U Z x) R
theorem w_wp_two {U : w_U} {Z a b : Nat} (ha : a < R) (hb : b < R) (hne : a ≠ b) (ra : U.1 a = a) (rb : U.1 b = b) : w_wp G R U Z = w_c (U.2 a) (w_sz R U a) (w_zz G R U Z a) * w_c (U.2 b) (w_sz R U b) (w_zz G R U Z b) * w_ot G R U Z a b := by
  unfold w_wp w_ot
  rw [w_pr_at R ha, w_pr_at (f := fun x => if x = a then 1 else w_wt G R U Z x) R hb]
  show w_wt G R U Z a * ((if b = a then 1 else w_wt G R U Z b) * _) = _
  rw [if_neg (fun z => hne z.symm), ← Nat.mul_assoc]
  unfold w_wt
  rw [if_pos ra, if_pos rb]
theorem w_wp_one {U : w_U} {Z a : Nat} (ha : a < R) (ra : U.1 a = a) : w_wp G R U Z = w_c (U.2 a) (w_sz R U a) (w_zz G R U Z a) * w_ot G R U Z a a := by
  unfold w_wp w_ot
  rw [w_pr_at R ha]
  unfold w_wt
  rw [if_pos ra]
  congr 1
  refine w_pr_cong R fun x _ => ?_
  split <;> rfl
theorem w_ot_add {U : w_U} {Z x a b : Nat} (hx : x < R) (ho : w_op G x = true) (hz : Z.testBit x = false) (hr : U.1 x = a ∨ U.1 x = b) : w_ot G R U (Z ||| 2 ^ x) a b = w_ot G R U Z a b := by
  unfold w_ot
  refine w_pr_cong R fun h _ => ?_
  split
  · rfl
  · rename_i c1
    split
    · rfl
    · rename_i c2
      unfold w_wt
      rw [w_zz_add hx ho hz, if_neg (show ¬ U.1 x = h by omega), Nat.add_zero]
theorem w_c_two {ta tb na nb za zb : Nat} {f o : Bool} (h : ta = 0 ∨ tb = 0) (hf : f = true → 0 < za) (ho : o = true → 0 < zb) : (if f then 0 else w_c ta na (za + 1) * w_c tb nb zb) + (if o then 0 else w_c ta na za * w_c tb nb (zb + 1)) = w_c (max ta tb) (na + nb) (za + zb) := by
  unfold w_c
  by_cases a0 : za = 0
  · have f0 : f = false := by cases f with
      | false => rfl
      | true => have := hf rfl; omega
    by_cases b0 : zb = 0
    · have o0 : o = false := by cases o with
        | false => rfl
        | true => have := ho rfl; omega
      subst a0 b0 f0 o0
      by_cases ta0 : ta = 0
      · by_cases tb0 : tb = 0
        · subst ta0 tb0
          simp
          omega
        · subst ta0
          simp [tb0]
      · have tb0 : tb = 0 := by omega
        subst tb0
        simp [ta0]
    · subst a0 f0
      by_cases ta0 : ta = 0
      · subst ta0
        by_cases tb0 : tb = 0
        · subst tb0
          by_cases b1 : zb = 1
          · subst b1
            cases o <;> simp
          · simp [b0, b1]
        · simp [tb0, b0]
      · have tb0 : tb = 0 := by omega
        subst tb0
        simp [ta0, b0]
  · by_cases b0 : zb = 0
    · have o0 : o = false := by cases o with
        | false => rfl
        | true => have := ho rfl; omega
      subst b0 o0
      by_cases ta0 : ta = 0
      · subst ta0
        by_cases tb0 : tb = 0
        · subst tb0
          by_cases a1 : za = 1
          · subst a1
            cases f <;> simp
          · simp [a0, a1]
        · simp [tb0, a0]
      · have tb0 : tb = 0 := by omega
        subst tb0
        simp [ta0, a0]
    · have e1 : ¬ za + zb = 0 := by omega
      have e2 : ¬ za + zb = 1 := by omega
      by_cases ta0 : ta = 0
      · by_cases tb0 : tb = 0
        · subst ta0 tb0
          simp [a0, b0, e2]
        · subst ta0
          simp [tb0, a0, b0]
      · have tb0 : tb = 0 := by omega
        subst tb0
        simp [ta0, a0, b0]
/-- the rooms that are shut are in Z -/
def w_sh (G : w_G) (Z : Nat) : Prop := ∀ x, w_op G x = false → Z.testBit x = true
theorem w_sh.add {Z : Nat} (h : w_sh G Z) (x : Nat) : w_sh G (Z ||| 2 ^ x) := fun y hy => by rw [fb_bit_set, h y hy]; rfl
theorem w_nz {Z x : Nat} (h : w_sh G Z) (hz : ¬ Z.testBit x = true) : w_op G x = true := by
  cases hb : w_op G x with
  | true => rfl
  | false => exact absurd (h x hb) hz
theorem w_wp_0 {U : w_U} {Z x : Nat} (h : w_rr R U) (hx : x < R) (ho : w_op G x = true) (hz : Z.testBit x = false) (hf : U.2 (U.1 x) ≠ 0) : w_wp G R U (Z ||| 2 ^ x) = 0 := by
  rw [w_wp_one (a := U.1 x) (h.1 x hx) (h.2 x), w_zz_add hx ho hz, if_pos rfl]
  unfold w_c
  rw [if_neg hf, if_neg (by omega), Nat.zero_mul]
theorem w_wp_t1 {U : w_U} {Z x : Nat} (h : w_rr R U) (hx : x < R) (ho : w_op G x = true) (hz : Z.testBit x = false) (hf : U.2 (U.1 x) = 0) : w_wp G R U (Z ||| 2 ^ x) = (if w_zz G R U Z (U.1 x) = 0 then 1 else 0) * w_ot G R U Z (U.1 x) (U.1 x) := by
  rw [w_wp_one (a := U.1 x) (h.1 x hx) (h.2 x), w_zz_add hx ho hz, if_pos rfl, w_ot_add hx ho hz (Or.inl rfl)]
  congr 1
  unfold w_c
  rw [if_pos hf, if_neg (by omega)]
  by_cases c : w_zz G R U Z (U.1 x) = 0
  · rw [if_pos c, if_pos (by omega)]
  · rw [if_neg c, if_neg (by omega)]
/-- the heap of one root becomes full -/
theorem w_wp_u {U : w_U} {Z a v : Nat} (ha : a < R) (ra : U.1 a = a) (hv : v ≠ 0) : w_wp G R (U.1, q_u U.2 a v) Z = (if w_zz G R U Z a = 0 then v else 0) * w_ot G R U Z a a := by
  rw [w_wp_one (U := (U.1, q_u U.2 a v)) ha ra]
  have e1 : w_zz G R (U.1, q_u U.2 a v) Z a = w_zz G R U Z a := rfl
  have e2 : (q_u U.2 a v) a = v := q_us _ _ _
  show w_c ((q_u U.2 a v) a) _ _ * _ = _
  rw [e1, e2]
  unfold w_c
  rw [if_neg hv]
  congr 1
  unfold w_ot
  refine w_pr_cong R fun x _ => ?_
  split
  · rfl
  · rename_i c
    unfold w_wt
    show (if U.1 x = x then w_c ((q_u U.2 a v) x) _ _ else 1) = _
    rw [q_un c]
    rfl
theorem w_wp_m {U : w_U} {Z a b v : Nat} (h : w_rr R U) (ha : a < R) (hb : b < R) (hne : a ≠ b) (ra : U.1 a = a) (rb : U.1 b = b) : w_wp G R (fun x => if U.1 x = b then a else U.1 x, q_u U.2 a v) Z = w_c v (w_sz R U a + w_sz R U b) (w_zz G R U Z a + w_zz G R U Z b) * w_ot G R U Z a b := by
  have ra' : (if U.1 a = b then a else U.1 a) = a := by split <;> first | rfl | exact ra
  rw [w_wp_one (U := (fun x => if U.1 x = b then a else U.1 x, q_u U.2 a v)) ha ra']
  have e1 : w_sz R (fun x => if U.1 x = b then a else U.1 x, q_u U.2 a v) a = w_sz R U a + w_sz R U b := by
    unfold w_sz
    rw [← fb_ct_or]
    · refine fb_ct_cong fun x _ => ?_
      show decide ((if U.1 x = b then a else U.1 x) = a) = (decide (U.1 x = a) || decide (U.1 x = b))
      by_cases c : U.1 x = b
      · rw [if_pos c, decide_eq_true rfl, decide_eq_true c, Bool.or_true]
      · rw [if_neg c, decide_eq_false c, Bool.or_false]
    · intro x _ ⟨z1, z2⟩
      rw [decide_eq_true_eq] at z1 z2
      omega
  have e2 : w_zz G R (fun x => if U.1 x = b then a else U.1 x, q_u U.2 a v) Z a = w_zz G R U Z a + w_zz G R U Z b := by
    unfold w_zz
    rw [← fb_ct_or]
    · refine fb_ct_cong fun x _ => ?_
      show (_ && decide ((if U.1 x = b then a else U.1 x) = a)) = _
      by_cases c : U.1 x = b
      · rw [if_pos c, decide_eq_true rfl, decide_eq_true c, decide_eq_false (show ¬ U.1 x = a by omega), Bool.and_false, Bool.false_or]
      · rw [if_neg c, decide_eq_false c, Bool.and_false, Bool.or_false]
    · intro x _ ⟨z1, z2⟩
      rw [Bool.and_eq_true, decide_eq_true_eq] at z1 z2
      omega
  show w_c ((q_u U.2 a v) a) _ _ * _ = _
  rw [e1, e2, q_us]
  congr 1
  unfold w_ot
  refine w_pr_cong R fun x _ => ?_
  by_cases c1 : x = a
  · rw [if_pos c1]
    split
    · rfl
    · rfl
  · simp only [if_neg c1]
    unfold w_wt
    show (if (if U.1 x = b then a else U.1 x) = x then w_c ((q_u U.2 a v) x) _ _ else 1) = _
    by_cases c2 : x = b
    · rw [if_pos c2, c2, if_pos rb, if_neg hne]
    · rw [if_neg c2, q_un c1]
      by_cases c3 : U.1 x = b
      · rw [if_pos c3, if_neg (fun z => c1 z.symm), if_neg (fun z => c2 (z.symm.trans c3))]
      · rw [if_neg c3]
        by_cases c4 : U.1 x = x
        · rw [if_pos c4, if_pos c4]
          have e3 : w_sz R (fun x => if U.1 x = b then a else U.1 x, q_u U.2 a v) x = w_sz R U x := by
            unfold w_sz
            refine fb_ct_cong fun y _ => ?_
            show decide ((if U.1 y = b then a else U.1 y) = x) = _
            by_cases c : U.1 y = b
            · rw [if_pos c, decide_eq_false (fun z => c1 z.symm), decide_eq_false (show ¬ U.1 y = x by omega)]
            · rw [if_neg c]
          have e4 : w_zz G R (fun x => if U.1 x = b then a else U.1 x, q_u U.2 a v) Z x = w_zz G R U Z x := by
            unfold w_zz
            refine fb_ct_cong fun y _ => ?_
            show (_ && decide ((if U.1 y = b then a else U.1 y) = x)) = _
            by_cases c : U.1 y = b
            · rw [if_pos c, decide_eq_false (fun z => c1 z.symm), decide_eq_false (show ¬ U.1 y = x by omega)]
            · rw [if_neg c]
          rw [e3, e4]
        · rw [if_neg c4, if_neg c4]
end BH
