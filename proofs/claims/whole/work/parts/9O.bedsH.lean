/-! BEDS: crowd. -/
section BQ
variable {d q sh : Nat} {P : q_Pl}
/-- without him fewer are left over -/
def w_cdb (G : w_G) (L sp k : Nat) : Bool := decide (q_pc (w_lft G L (q_cl (2 ^ L - 1) (2 ^ k))) < sp)
def w_cdn (G : w_G) (L sp : Nat) : Nat → Nat
  | 0 => 0
  | i + 1 => if w_cdb G L sp i then w_cdn G L sp i ||| 2 ^ i else w_cdn G L sp i
def w_rcn (G : w_G) (L sp : Nat) : Nat → Nat
  | 0 => 0
  | i + 1 => if w_cdb G L sp i then w_rcn G L sp i ||| w_rs G i else w_rcn G L sp i
theorem w_cdn_bit {G : w_G} {L sp k : Nat} : ∀ i, (w_cdn G L sp i).testBit k = true ↔ k < i ∧ w_cdb G L sp k = true
  | 0 => by
    rw [w_cdn, Nat.zero_testBit]
    exact ⟨fun z => (by cases z), fun z => by omega⟩
  | i + 1 => by
    have ih := w_cdn_bit (G := G) (L := L) (sp := sp) (k := k) i
    rw [w_cdn]
    cases hb : w_cdb G L sp i with
    | true =>
      rw [if_pos rfl, fb_bit_set, Bool.or_eq_true, ih, decide_eq_true_eq]
      constructor
      · intro z
        rcases z with z | z
        · exact ⟨by omega, z.2⟩
        · rw [z]; exact ⟨by omega, hb⟩
      · intro z
        by_cases c : k = i
        · exact Or.inr c
        · exact Or.inl ⟨by omega, z.2⟩
    | false =>
      rw [if_neg (by decide), ih]
      constructor
      · intro z; exact ⟨by omega, z.2⟩
      · intro z
        refine ⟨?_, z.2⟩
        have : k ≠ i := fun w => by rw [w, hb] at z; cases z.2
        omega
theorem w_rcn_bit {G : w_G} {L sp k x : Nat} (hk : w_cdb G L sp k = true) (hx : (w_rs G k).testBit x = true) : ∀ i, k < i → (w_rcn G L sp i).testBit x = true
  | 0, h => by omega
  | i + 1, h => by
    rw [w_rcn]
    by_cases c : k = i
    · rw [← c, hk, if_pos rfl, Nat.testBit_or, hx, Bool.or_true]
    · have ih := w_rcn_bit hk hx i (by omega)
      split
      · rw [Nat.testBit_or, ih]; rfl
      · exact ih
theorem w_cdn_lt {G : w_G} {L sp : Nat} : ∀ i, i ≤ 16 → w_cdn G L sp i < 65536
  | 0, _ => by rw [w_cdn]; decide
  | i + 1, h => by
    have ih := w_cdn_lt (G := G) (L := L) (sp := sp) i (by omega)
    rw [w_cdn]
    split
    · exact q_or16 ih (q_p16 (by omega))
    · exact ih
theorem w_rcn_lt {G : w_G} {L sp : Nat} (h : ∀ k, k < L → w_rs G k < 65536) : ∀ i, i ≤ L → w_rcn G L sp i < 65536
  | 0, _ => by rw [w_rcn]; decide
  | i + 1, hi => by
    have ih := w_rcn_lt (sp := sp) h i (by omega)
    rw [w_rcn]
    split
    · exact q_or16 ih (h i (by omega))
    · exact ih
theorem w_rs16 (hP : p_Wf P) (sh : Nat) {k : Nat} (hk : k < p_L P) : w_rs (w_GP sh P) k < 65536 := by
  have o := w_GP_ok hP sh k hk
  have hR := hP.1
  exact w_rs_lt (n := 16) ⟨by omega, by omega⟩
def wC : Nat → Nat → Prop := fun c k => c = 387 ∧ k = 5 ∨ 388 ≤ c ∧ c ≤ 392
theorem c5_39 {sp : Nat} (hsh : sh < 65536) (hq2 : q ≤ 10) (hsp : sp ≤ 16) : ∀ (m i : Nat) (S : z_S), i + m = p_L P → cH S q P → gI S 387 5 = nI (w_cdn (w_GP sh P) (p_L P) sp i) → (∀ k, k < i → gI S 391 k = nI (w_rs (w_GP sh P) k) ∧ gI S 392 k = nI (w_rcn (w_GP sh P) (p_L P) sp k)) → ∃ S', b5_39 (d + 4) q (nI sh) (nI (2 ^ p_L P - 1)) (nI sp) (nI (w_rcn (w_GP sh P) (p_L P) sp i)) (nI i) S = b5_39 (d + 4) q (nI sh) (nI (2 ^ p_L P - 1)) (nI sp) (nI (w_rcn (w_GP sh P) (p_L P) sp (p_L P))) (nI (p_L P)) S' ∧ onI wC S S' ∧ gI S' 387 5 = nI (w_cdn (w_GP sh P) (p_L P) sp (p_L P)) ∧ ∀ k, k < p_L P → gI S' 391 k = nI (w_rs (w_GP sh P) k) ∧ gI S' 392 k = nI (w_rcn (w_GP sh P) (p_L P) sp k)
  | 0, i, S, hi, hH, h1, h2 => by
    rw [show i = p_L P by omega] at h1 h2 ⊢
    exact ⟨S, rfl, onI.refl hH.1, h1, h2⟩
  | m + 1, i, S, hi, hH, h1, h2 => by
    have hW := hH.1
    have hq := hH.2.1
    have hC := hH.2.2.2.1
    have hP := hH.2.2.2.2
    have hL := hP.2.2.2.2.1
    have hp2 : 2 ^ p_L P ≤ 65536 := Nat.pow_le_pow_right (n := 2) (by omega) hL
    have hl : gI S q 6 = nI (p_L P) := hC.2.2.2.2.2.2.1
    have e := b5_39_eq (d + 4) q (nI sh) (nI (2 ^ p_L P - 1)) (nI sp) (nI (w_rcn (w_GP sh P) (p_L P) sp i)) (nI i) S hW hq
    have a62 : fI (d + 4) 62 [.ref q, .int (nI i), .int (nI sh)] S = some (nI (w_rs (w_GP sh P) i), S) := c62 (d := d + 3) hW hq hC hP (show i < p_L P by omega)
    have zi : z_in (nI i) 16 := (ni_in (by omega)).mpr (by omega)
    have es : (1 : Int32) <<< (nI i &&& (31 : Int32)) = nI (2 ^ i) := ni_shl (by omega)
    have ec : nI (2 ^ p_L P - 1) &&& (nI (2 ^ i) ^^^ (-1 : Int32)) = nI (q_cl (2 ^ p_L P - 1) (2 ^ i)) := ni_clr _ _
    have ecl : (nI i).toNatClampNeg = i := nI_clamp (by omega)
    rw [hl, if_neg (nI_ge (by omega) (by omega)), a62, zb_some, if_pos zi, if_pos zi, es, ec] at e
    generalize hS1 : sI (sI S 391 (nI i).toNatClampNeg (nI (w_rs (w_GP sh P) i))) 392 (nI i).toNatClampNeg (nI (w_rcn (w_GP sh P) (p_L P) sp i)) = S1 at e
    have o1 : onI wC S S1 := by
      rw [← hS1]
      exact onI_sI (D := wC) (c := 392) (k := _) (onI_sI (D := wC) (c := 391) (k := _) (onI.refl hW) (Or.inr ⟨by omega, by omega⟩)) (Or.inr ⟨by omega, by omega⟩)
    have H1 := hH.on o1 fun c k z => by unfold wC; omega
    have lt1 := q_cl_lt (a := 2 ^ p_L P - 1) (b := 2 ^ i) (n := p_L P) w_all_lt
    obtain ⟨S2, b1, b2, _⟩ := c1 (d := d + 1) H1 hq2 hsh (show q_cl (2 ^ p_L P - 1) (2 ^ i) < 65536 by omega)
    have lt2 := w_lft_lt (G := w_GP sh P) (L := p_L P) (q_cl (2 ^ p_L P - 1) (2 ^ i))
    rw [b1, zb_some, c274 (d := d + 3) b2.W (show w_lft (w_GP sh P) (p_L P) (q_cl (2 ^ p_L P - 1) (2 ^ i)) < 65536 by omega), zb_some] at e
    have lp := q_pc_le (w_lft (w_GP sh P) (p_L P) (q_cl (2 ^ p_L P - 1) (2 ^ i)))
    have H2 := H1.on b2 fun c k z => by unfold w_D; omega
    have o2 : onI wC S S2 := o1.trans (b2.mono fun c k z => by unfold w_D at z; unfold wC; omega)
    have x1 : ∀ k, k < i + 1 → gI S2 391 k = nI (w_rs (w_GP sh P) k) ∧ gI S2 392 k = nI (w_rcn (w_GP sh P) (p_L P) sp k) := fun k hk => by
      rw [b2.I (by unfold w_D; omega), b2.I (by unfold w_D; omega), ← hS1, ecl]
      by_cases z : k = i
      · rw [z]
        simp (disch := omega) only [ni_lit, nI_add, pk_mul, pk_sub, pk_div, nI_leI, nI_ltI, nI_eq, nI_clamp, ni_in, ni_inm, ni_ltm, ni_mlt, ni_lem, ni_mle, ni_eqm, ni_meq, ni_mm, ni_mmle, ni_bit, ni_shl, ni_clr, fa_or, Nat.add_zero, Nat.zero_add, Nat.zero_mul, Nat.mul_zero, eOn, eOs, if_true, if_false, not_true_eq_false, not_false_eq_true, ite_true, ite_false, true_and, and_true, false_and, and_false, or_true, true_or, or_false, false_or, Bool.false_eq_true, reduceIte, Bool.not_true, Bool.not_false, and_self, or_self, q_ef, q_et, q_ltt, q_ltf, q_let, q_lef, gIs, gIl, gIr, gLs, gLl, gLr, gPs, gPl, gPr, gLc, gPc, zb_some, Option.bind_some, q_nm, q_pm, q_hm, q_tm, q_sm, q_wm, q_ym, q_lm, q_ua]
      · have := h2 k (by omega)
        simp (disch := omega) only [ni_lit, nI_add, pk_mul, pk_sub, pk_div, nI_leI, nI_ltI, nI_eq, nI_clamp, ni_in, ni_inm, ni_ltm, ni_mlt, ni_lem, ni_mle, ni_eqm, ni_meq, ni_mm, ni_mmle, ni_bit, ni_shl, ni_clr, fa_or, Nat.add_zero, Nat.zero_add, Nat.zero_mul, Nat.mul_zero, eOn, eOs, if_true, if_false, not_true_eq_false, not_false_eq_true, ite_true, ite_false, true_and, and_true, false_and, and_false, or_true, true_or, or_false, false_or, Bool.false_eq_true, reduceIte, Bool.not_true, Bool.not_false, and_self, or_self, q_ef, q_et, q_ltt, q_ltf, q_let, q_lef, gIs, gIl, gIr, gLs, gLl, gLr, gPs, gPl, gPr, gLc, gPc, zb_some, Option.bind_some, q_nm, q_pm, q_hm, q_tm, q_sm, q_wm, q_ym, q_lm, q_ua, this.1, this.2]
    have x0 : gI S2 387 5 = nI (w_cdn (w_GP sh P) (p_L P) sp i) := by
      rw [b2.I (by unfold w_D; omega), ← hS1]
      simp (disch := omega) only [ni_lit, nI_add, pk_mul, pk_sub, pk_div, nI_leI, nI_ltI, nI_eq, nI_clamp, ni_in, ni_inm, ni_ltm, ni_mlt, ni_lem, ni_mle, ni_eqm, ni_meq, ni_mm, ni_mmle, ni_bit, ni_shl, ni_clr, fa_or, Nat.add_zero, Nat.zero_add, Nat.zero_mul, Nat.mul_zero, eOn, eOs, if_true, if_false, not_true_eq_false, not_false_eq_true, ite_true, ite_false, true_and, and_true, false_and, and_false, or_true, true_or, or_false, false_or, Bool.false_eq_true, reduceIte, Bool.not_true, Bool.not_false, and_self, or_self, q_ef, q_et, q_ltt, q_ltf, q_let, q_lef, gIs, gIl, gIr, gLs, gLl, gLr, gPs, gPl, gPr, gLc, gPc, zb_some, Option.bind_some, q_nm, q_pm, q_hm, q_tm, q_sm, q_wm, q_ym, q_lm, q_ua, h1]
    have nx : ∀ y S', z_W S' → b5_118 (d + 4) q (nI sh) (nI (2 ^ p_L P - 1)) (nI sp) y (nI i) S' = b5_39 (d + 4) q (nI sh) (nI (2 ^ p_L P - 1)) (nI sp) y (nI (i + 1)) S' := fun y S' w => by rw [b5_118_eq (d + 4) q (nI sh) (nI (2 ^ p_L P - 1)) (nI sp) y (nI i) S' w hq, nI_1]
    by_cases c : q_pc (w_lft (w_GP sh P) (p_L P) (q_cl (2 ^ p_L P - 1) (2 ^ i))) < sp
    · have hcb : w_cdb (w_GP sh P) (p_L P) sp i = true := decide_eq_true c
      have xr : gI (sI S2 387 5 (nI (w_cdn (w_GP sh P) (p_L P) sp i ||| 2 ^ i))) 391 (nI i).toNatClampNeg = nI (w_rs (w_GP sh P) i) := by
        rw [ecl]
        have := (x1 i (by omega)).1
        simp (disch := omega) only [ni_lit, nI_add, pk_mul, pk_sub, pk_div, nI_leI, nI_ltI, nI_eq, nI_clamp, ni_in, ni_inm, ni_ltm, ni_mlt, ni_lem, ni_mle, ni_eqm, ni_meq, ni_mm, ni_mmle, ni_bit, ni_shl, ni_clr, fa_or, Nat.add_zero, Nat.zero_add, Nat.zero_mul, Nat.mul_zero, eOn, eOs, if_true, if_false, not_true_eq_false, not_false_eq_true, ite_true, ite_false, true_and, and_true, false_and, and_false, or_true, true_or, or_false, false_or, Bool.false_eq_true, reduceIte, Bool.not_true, Bool.not_false, and_self, or_self, q_ef, q_et, q_ltt, q_ltf, q_let, q_lef, gIs, gIl, gIr, gLs, gLl, gLr, gPs, gPl, gPr, gLc, gPc, zb_some, Option.bind_some, q_nm, q_pm, q_hm, q_tm, q_sm, q_wm, q_ym, q_lm, q_ua, this]
      have W3 : z_W (sI S2 387 5 (nI (w_cdn (w_GP sh P) (p_L P) sp i ||| 2 ^ i))) := b2.W
      rw [if_neg (nI_ge c (by omega)), if_pos zi, x0, fa_or, xr, fa_or, nx _ _ W3] at e
      generalize hS3 : sI S2 387 5 (nI (w_cdn (w_GP sh P) (p_L P) sp i ||| 2 ^ i)) = S3 at *
      have o3 : onI wC S2 S3 := by
        rw [← hS3]
        exact onI_sI (D := wC) (c := 387) (k := 5) (onI.refl b2.W) (Or.inl ⟨rfl, rfl⟩)
      have ec1 : w_cdn (w_GP sh P) (p_L P) sp (i + 1) = w_cdn (w_GP sh P) (p_L P) sp i ||| 2 ^ i := by rw [w_cdn, hcb, if_pos rfl]
      have ec2 : w_rcn (w_GP sh P) (p_L P) sp (i + 1) = w_rcn (w_GP sh P) (p_L P) sp i ||| w_rs (w_GP sh P) i := by rw [w_rcn, hcb, if_pos rfl]
      obtain ⟨S', f1, f2, f3, f4⟩ := c5_39 hsh hq2 hsp m (i + 1) S3 (by omega) (H2.on o3 fun c k z => by unfold wC; omega) (by
        rw [ec1, ← hS3]
        simp (disch := omega) only [ni_lit, nI_add, pk_mul, pk_sub, pk_div, nI_leI, nI_ltI, nI_eq, nI_clamp, ni_in, ni_inm, ni_ltm, ni_mlt, ni_lem, ni_mle, ni_eqm, ni_meq, ni_mm, ni_mmle, ni_bit, ni_shl, ni_clr, fa_or, Nat.add_zero, Nat.zero_add, Nat.zero_mul, Nat.mul_zero, eOn, eOs, if_true, if_false, not_true_eq_false, not_false_eq_true, ite_true, ite_false, true_and, and_true, false_and, and_false, or_true, true_or, or_false, false_or, Bool.false_eq_true, reduceIte, Bool.not_true, Bool.not_false, and_self, or_self, q_ef, q_et, q_ltt, q_ltf, q_let, q_lef, gIs, gIl, gIr, gLs, gLl, gLr, gPs, gPl, gPr, gLc, gPc, zb_some, Option.bind_some, q_nm, q_pm, q_hm, q_tm, q_sm, q_wm, q_ym, q_lm, q_ua]) fun k hk => by
        have := x1 k hk
        rw [← hS3]
        simp (disch := omega) only [ni_lit, nI_add, pk_mul, pk_sub, pk_div, nI_leI, nI_ltI, nI_eq, nI_clamp, ni_in, ni_inm, ni_ltm, ni_mlt, ni_lem, ni_mle, ni_eqm, ni_meq, ni_mm, ni_mmle, ni_bit, ni_shl, ni_clr, fa_or, Nat.add_zero, Nat.zero_add, Nat.zero_mul, Nat.mul_zero, eOn, eOs, if_true, if_false, not_true_eq_false, not_false_eq_true, ite_true, ite_false, true_and, and_true, false_and, and_false, or_true, true_or, or_false, false_or, Bool.false_eq_true, reduceIte, Bool.not_true, Bool.not_false, and_self, or_self, q_ef, q_et, q_ltt, q_ltf, q_let, q_lef, gIs, gIl, gIr, gLs, gLl, gLr, gPs, gPl, gPr, gLc, gPc, zb_some, Option.bind_some, q_nm, q_pm, q_hm, q_tm, q_sm, q_wm, q_ym, q_lm, q_ua, this.1, this.2]
      rw [ec2] at f1
      exact ⟨S', e.trans f1, (o2.trans o3).trans f2, f3, f4⟩
    · have hcb : w_cdb (w_GP sh P) (p_L P) sp i = false := decide_eq_false c
      rw [if_pos (nI_le (by omega) (by omega)), nx _ _ b2.W] at e
      have ec1 : w_cdn (w_GP sh P) (p_L P) sp (i + 1) = w_cdn (w_GP sh P) (p_L P) sp i := by rw [w_cdn, hcb, if_neg (by decide)]
      have ec2 : w_rcn (w_GP sh P) (p_L P) sp (i + 1) = w_rcn (w_GP sh P) (p_L P) sp i := by rw [w_rcn, hcb, if_neg (by decide)]
      obtain ⟨S', f1, f2, f3, f4⟩ := c5_39 hsh hq2 hsp m (i + 1) S2 (by omega) H2 (by rw [ec1]; exact x0) x1
      rw [ec2] at f1
      exact ⟨S', e.trans f1, o2.trans f2, f3, f4⟩
/-- the class's answer -/
def w_ca (G : w_G) (L : Nat) : Option Nat := if q_pc (w_lft G L (2 ^ L - 1)) = 0 then none else if q_pc (w_lft G L (2 ^ L - 1)) = 1 then some (w_cdn G L (q_pc (w_lft G L (2 ^ L - 1))) L) else w_lp (fun ct => w_se G (w_rcn G L (q_pc (w_lft G L (2 ^ L - 1)))) (w_cdn G L (q_pc (w_lft G L (2 ^ L - 1))) L) ct ct L 0 0 0) L 1
theorem w_ca_cr (hP : p_Wf P) (sh : Nat) : w_cr (w_GP sh P) (p_R P) (p_L P) (w_ca (w_GP sh P) (p_L P)) (2 ^ p_L P) := by
  have hL := hP.2.2.2.2.1
  have hO := w_GP_ok hP sh
  refine w_cls hL hP.1 hO (fun k => ?_) (fun j k x hk h1 _ h3 => w_rcn_bit ((w_cdn_bit _).mp hk).2 h3 j h1)
  rw [w_cdn_bit]
  refine and_congr_right fun hk => ?_
  unfold w_cdb
  rw [decide_eq_true_eq]
  have a1 := w_lft_pc hL hO (w_all_lt (L := p_L P))
  have a2 := w_lft_pc hL hO (q_cl_lt (b := 2 ^ k) (w_all_lt (L := p_L P)))
  rw [w_pc hL (w_all_lt (L := p_L P)), w_all_len] at a1
  have p := w_but_p hk
  have e := p.length_eq
  rw [w_all_len, List.length_cons] at e
  rw [w_pc hL (q_cl_lt (b := 2 ^ k) (w_all_lt (L := p_L P)))] at a2
  have t := w_T_c (w_ok_perm (hO.sl (2 ^ p_L P - 1)) p)
  rw [← w_T_perm p] at t
  have e1 : w_tg (w_GP sh P) (p_R P) (p_L P) (2 ^ p_L P - 1) = w_T (w_GP sh P) (p_R P) (w_sl (p_L P) (2 ^ p_L P - 1)) := rfl
  have e2 : w_tg (w_GP sh P) (p_R P) (p_L P) (q_cl (2 ^ p_L P - 1) (2 ^ k)) = w_T (w_GP sh P) (p_R P) (w_sl (p_L P) (q_cl (2 ^ p_L P - 1) (2 ^ k))) := rfl
  constructor
  · intro z w
    have := t.1 w
    omega
  · intro z
    have := t.2 z
    omega
theorem c5 {S : z_S} (hH : cH S q P) (hq2 : q ≤ 10) (hsh : sh < 65536) : ∃ S', fI (d + 19) 5 [.ref 387, .ref q, .int (nI sh)] S = some (eO (w_ca (w_GP sh P) (p_L P)), S') ∧ onI wC S S' := by
  have hW := hH.1
  have hq := hH.2.1
  have hP := hH.2.2.2.2
  have hL := hP.2.2.2.2.1
  have hp2 : 2 ^ p_L P ≤ 65536 := Nat.pow_le_pow_right (n := 2) (by omega) hL
  have hl : gI S q 6 = nI (p_L P) := hH.2.2.2.1.2.2.2.2.2.2.1
  have e := e5 (d + 18) q (nI sh) S hW hq
  have ea : ((1 : Int32) <<< (nI (p_L P) &&& (31 : Int32))) - (1 : Int32) = nI (2 ^ p_L P - 1) := by
    have : (1 : Int32) <<< (nI (p_L P) &&& (31 : Int32)) = nI (2 ^ p_L P) := ni_shl (by omega)
    rw [this]
    exact pk_sub (b := 1) (by have := Nat.two_pow_pos (p_L P); omega)
  have lt0 := w_all_lt (L := p_L P)
  obtain ⟨S1, a1, a2, _⟩ := c1 (d := d + 15) hH hq2 hsh (show 2 ^ p_L P - 1 < 65536 by omega)
  have lt1 := w_lft_lt (G := w_GP sh P) (L := p_L P) (2 ^ p_L P - 1)
  have lp := q_pc_le (w_lft (w_GP sh P) (p_L P) (2 ^ p_L P - 1))
  rw [hl, ea, a1, zb_some, c274 (d := d + 17) a2.W (show w_lft (w_GP sh P) (p_L P) (2 ^ p_L P - 1) < 65536 by omega), zb_some] at e
  have o1 : onI wC S S1 := a2.mono fun c k z => by unfold w_D at z; unfold wC; omega
  unfold w_ca
  generalize hsp : q_pc (w_lft (w_GP sh P) (p_L P) (2 ^ p_L P - 1)) = sp at *
  by_cases c0 : sp = 0
  · rw [c0, if_neg (show ¬ ¬ nI 0 = (0 : Int32) by decide)] at e
    rw [if_pos c0]
    exact ⟨S1, e, o1⟩
  · rw [if_pos (show ¬ nI sp = (0 : Int32) from fun z => c0 ((nI_eq (b := 0) (by omega) (by omega)).mp z))] at e
    rw [if_neg c0]
    generalize hS2 : sI S1 387 5 (0 : Int32) = S2 at e
    have o2 : onI wC S1 S2 := by
      rw [← hS2]
      exact onI_sI (D := wC) (c := 387) (k := 5) (onI.refl a2.W) (Or.inl ⟨rfl, rfl⟩)
    have H2 := hH.on (o1.trans o2) fun c k z => by unfold wC; omega
    obtain ⟨S3, b1, b2, b3, b4⟩ := c5_39 (d := d + 14) (sp := sp) hsh hq2 lp (p_L P) 0 S2 (by omega) H2 (by
      rw [← hS2, gIs, if_pos rfl, if_pos rfl]
      rfl) fun k hk => by omega
    have b1' : b5_39 (d + 18) q (nI sh) (nI (2 ^ p_L P - 1)) (nI sp) (0 : Int32) (0 : Int32) S2 = _ := b1
    have H3 := H2.on b2 fun c k z => by unfold wC; omega
    have hl3 : gI S3 q 6 = nI (p_L P) := H3.2.2.2.1.2.2.2.2.2.2.1
    have e3 := b5_39_eq (d + 18) q (nI sh) (nI (2 ^ p_L P - 1)) (nI sp) (nI (w_rcn (w_GP sh P) (p_L P) sp (p_L P))) (nI (p_L P)) S3 H3.1 hq
    rw [hl3, if_pos (nI_le (Nat.le_refl _) (by omega))] at e3
    by_cases c1 : sp = 1
    · rw [if_neg (show ¬ ¬ nI sp = (1 : Int32) from fun z => z (by rw [c1]; rfl)), b3] at e3
      rw [if_pos c1]
      exact ⟨S3, (e.trans b1').trans e3, (o1.trans o2).trans b2⟩
    · rw [if_pos (show ¬ nI sp = (1 : Int32) from fun z => c1 ((nI_eq (b := 1) (by omega) (by omega)).mp z))] at e3
      rw [if_neg c1]
      have hx : xS S3 (w_GP sh P) (w_rcn (w_GP sh P) (p_L P) sp) (w_cdn (w_GP sh P) (p_L P) sp (p_L P)) (p_L P) := ⟨H3.1, hL, w_cdn_lt _ hL, b3, fun k hk => ⟨(b4 k hk).1, (b4 k hk).2, w_rs16 hP sh hk, w_rcn_lt (fun k hk => w_rs16 hP sh hk) k (by omega)⟩⟩
      have f := c5_141 (d := d) hq hl3 hx (p_L P) 1 (by omega)
      exact ⟨S3, ((e.trans b1').trans e3).trans f, (o1.trans o2).trans b2⟩
end BQ
