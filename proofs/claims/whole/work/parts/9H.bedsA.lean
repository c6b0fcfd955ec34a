/-! BEDS: the class's cells. -/
section BJ
variable {d q : Nat} {S : z_S} {P : q_Pl}
def w_GP (sh : Nat) (P : q_Pl) : w_G := (sh, p_f P, p_o P)
theorem w_GP_ok (hP : p_Wf P) (sh : Nat) : w_Ok (w_GP sh P) (p_R P) (p_L P) := fun k hk => ⟨(hP.2.2.2.2.2.2.2.1 k hk).1, (hP.2.2.2.2.2.2.2.1 k hk).2.1⟩
/-- parents lead to roots -/
def w_tr (R : Nat) (U : w_U) (pr dp : Nat → Nat) : Prop := ∀ x, x < R → U.1 x < R ∧ dp x < w_sz R U (U.1 x) ∧ (dp x = 0 ↔ U.1 x = x) ∧ (dp x = 0 → pr x = x) ∧ (dp x ≠ 0 → pr x ≠ x ∧ pr x < R ∧ dp (pr x) + 1 = dp x ∧ U.1 (pr x) = U.1 x)
def cB (S : z_S) (R : Nat) (U : w_U) : Prop := w_rr R U ∧ (∀ x, U.2 x ≤ 2) ∧ (∀ x, x < 16 → gI S 390 x = nI (U.2 x)) ∧ (∀ x, x < R → U.1 x = x → gI S 389 x = nI (w_sz R U x)) ∧ ∃ pr dp, w_tr R U pr dp ∧ ∀ x, x < R → gI S 388 x = nI (pr x)
theorem c3_l {R : Nat} {U : w_U} {pr dp : Nat → Nat} (hW : z_W S) (hR : R ≤ 16) (ht : w_tr R U pr dp) (hp : ∀ x, x < R → gI S 388 x = nI (pr x)) : ∀ (m y n : Nat), y < R → dp y = m → n + m ≤ 15 → b3_4 d (nI y) (nI n) S = some (nI (U.1 y), S)
  | 0, y, n, hy, hm, hn => by
    have e := b3_4_eq d (nI y) (nI n) S hW
    obtain ⟨_, _, t1, t2, _⟩ := ht y hy
    have e1 := hp y hy
    rw [t2 hm] at e1
    simp (disch := omega) only [ni_lit, nI_add, pk_mul, pk_sub, pk_div, nI_leI, nI_ltI, nI_eq, nI_clamp, ni_in, ni_inm, ni_ltm, ni_mlt, ni_lem, ni_mle, ni_eqm, ni_meq, ni_mm, ni_mmle, ni_bit, ni_shl, ni_clr, fa_or, Nat.add_zero, Nat.zero_add, Nat.zero_mul, Nat.mul_zero, eOn, eOs, if_true, if_false, not_true_eq_false, not_false_eq_true, ite_true, ite_false, true_and, and_true, false_and, and_false, or_true, true_or, or_false, false_or, Bool.false_eq_true, reduceIte, Bool.not_true, Bool.not_false, and_self, or_self, q_ef, q_et, q_ltt, q_ltf, q_let, q_lef, gIs, gIl, gIr, gLs, gLl, gLr, gPs, gPl, gPr, gLc, gPc, zb_some, Option.bind_some, q_nm, q_pm, q_hm, q_tm, q_sm, q_wm, q_ym, q_lm, q_ua, e1] at e
    rw [t1.mp hm]
    exact e
  | m + 1, y, n, hy, hm, hn => by
    have e := b3_4_eq d (nI y) (nI n) S hW
    obtain ⟨_, _, _, _, t⟩ := ht y hy
    obtain ⟨t1, t2, t3, t4⟩ := t (by omega)
    have e1 := hp y hy
    simp (disch := omega) only [ni_lit, nI_add, pk_mul, pk_sub, pk_div, nI_leI, nI_ltI, nI_eq, nI_clamp, ni_in, ni_inm, ni_ltm, ni_mlt, ni_lem, ni_mle, ni_eqm, ni_meq, ni_mm, ni_mmle, ni_bit, ni_shl, ni_clr, fa_or, Nat.add_zero, Nat.zero_add, Nat.zero_mul, Nat.mul_zero, eOn, eOs, if_true, if_false, not_true_eq_false, not_false_eq_true, ite_true, ite_false, true_and, and_true, false_and, and_false, or_true, true_or, or_false, false_or, Bool.false_eq_true, reduceIte, Bool.not_true, Bool.not_false, and_self, or_self, q_ef, q_et, q_ltt, q_ltf, q_let, q_lef, gIs, gIl, gIr, gLs, gLl, gLr, gPs, gPl, gPr, gLc, gPc, zb_some, Option.bind_some, q_nm, q_pm, q_hm, q_tm, q_sm, q_wm, q_ym, q_lm, q_ua, e1] at e
    rw [← t4]
    exact e.trans (c3_l hW hR ht hp m (pr y) (n + 1) t2 (by omega) (by omega))
theorem c3 {R x : Nat} {U : w_U} (hW : z_W S) (hR : R ≤ 16) (hB : cB S R U) (hx : x < R) : fI (d + 1) 3 [.ref 387, .int (nI x)] S = some (nI (U.1 x), S) := by
  obtain ⟨_, _, _, _, pr, dp, ht, hp⟩ := hB
  have e : fI (d + 1) 3 [.ref 387, .int (nI x)] S = b3_4 d (nI x) (nI 0) S := e3 d (nI x) S hW
  have h1 := (ht x hx).2.1
  have h2 : w_sz R U (U.1 x) ≤ R := fb_ct_le _ _
  exact e.trans (c3_l hW hR ht hp (dp x) x 0 hx rfl (by omega))
theorem w_sz_a {R a b v : Nat} {U : w_U} (hne : a ≠ b) : w_sz R (fun x => if U.1 x = b then a else U.1 x, q_u U.2 a v) a = w_sz R U a + w_sz R U b := by
  unfold w_sz
  rw [← fb_ct_or]
  · refine fb_ct_cong fun x _ => ?_
    show decide ((if U.1 x = b then a else U.1 x) = a) = (decide (U.1 x = a) || decide (U.1 x = b))
    by_cases c : U.1 x = b
    · rw [if_pos c, decide_eq_true rfl, decide_eq_true c, Bool.or_true]
    · rw [if_neg c, decide_eq_false c, Bool.or_false]
  · intro x _ ⟨z1, z2⟩
    rw [decide_eq_true_eq] at z1 z2
    omega
theorem w_sz_n {R a b v x : Nat} {U : w_U} (h1 : x ≠ a) (h2 : x ≠ b) : w_sz R (fun x => if U.1 x = b then a else U.1 x, q_u U.2 a v) x = w_sz R U x := by
  unfold w_sz
  refine fb_ct_cong fun y _ => ?_
  show decide ((if U.1 y = b then a else U.1 y) = x) = _
  by_cases c : U.1 y = b
  · rw [if_pos c, decide_eq_false (fun z => h1 z.symm), decide_eq_false (show ¬ U.1 y = x by omega)]
  · rw [if_neg c]
theorem w_sz_p {R x : Nat} {U : w_U} (hx : x < R) : 0 < w_sz R U (U.1 x) := fb_ct_pos.mpr ⟨x, hx, decide_eq_true rfl⟩
theorem w_tr_m {R a b v : Nat} {U : w_U} {pr dp : Nat → Nat} (ht : w_tr R U pr dp) (ha : a < R) (hb : b < R) (hne : a ≠ b) (ra : U.1 a = a) (rb : U.1 b = b) : w_tr R (fun x => if U.1 x = b then a else U.1 x, q_u U.2 a v) (q_u pr b a) (fun x => if U.1 x = b then dp x + 1 else dp x) := by
  intro x hx
  obtain ⟨t0, t1, t2, t3, t4⟩ := ht x hx
  have da : dp a = 0 := (ht a ha).2.2.1.mpr ra
  have db : dp b = 0 := (ht b hb).2.2.1.mpr rb
  have sa := w_sz_p (U := U) ha
  rw [ra] at sa
  show (if U.1 x = b then a else U.1 x) < R ∧ (if U.1 x = b then dp x + 1 else dp x) < w_sz R (fun x => if U.1 x = b then a else U.1 x, q_u U.2 a v) (if U.1 x = b then a else U.1 x) ∧ ((if U.1 x = b then dp x + 1 else dp x) = 0 ↔ (if U.1 x = b then a else U.1 x) = x) ∧ ((if U.1 x = b then dp x + 1 else dp x) = 0 → q_u pr b a x = x) ∧ ((if U.1 x = b then dp x + 1 else dp x) ≠ 0 → q_u pr b a x ≠ x ∧ q_u pr b a x < R ∧ (if U.1 (q_u pr b a x) = b then dp (q_u pr b a x) + 1 else dp (q_u pr b a x)) + 1 = (if U.1 x = b then dp x + 1 else dp x) ∧ (if U.1 (q_u pr b a x) = b then a else U.1 (q_u pr b a x)) = (if U.1 x = b then a else U.1 x))
  by_cases c : U.1 x = b
  · simp only [if_pos c]
    rw [c] at t1
    refine ⟨ha, ?_, ⟨fun z => by omega, fun z => ?_⟩, fun z => by omega, fun _ => ?_⟩
    · rw [w_sz_a hne]; omega
    · rw [← z, ra] at c; exact absurd c hne
    · by_cases e : x = b
      · subst e
        rw [q_us, ra, if_neg hne, if_neg hne]
        exact ⟨hne, ha, by omega, rfl⟩
      · obtain ⟨u1, u2, u3, u4⟩ := t4 (fun z => e ((t2.mp z).symm.trans c))
        rw [q_un e, u4, c, if_pos rfl, if_pos rfl]
        exact ⟨u1, u2, by omega, rfl⟩
  · simp only [if_neg c]
    have e : x ≠ b := fun z => c (by rw [z]; exact rb)
    refine ⟨t0, ?_, t2, fun z => ?_, fun z => ?_⟩
    · by_cases e2 : U.1 x = a
      · rw [e2, w_sz_a hne]
        rw [e2] at t1
        omega
      · rw [w_sz_n e2 c]; exact t1
    · rw [q_un e]; exact t3 z
    · obtain ⟨u1, u2, u3, u4⟩ := t4 z
      rw [q_un e, u4, if_neg c, if_neg c]
      exact ⟨u1, u2, u3, rfl⟩
theorem w_rr_m {R a b v : Nat} {U : w_U} (h : w_rr R U) (ha : a < R) (ra : U.1 a = a) : w_rr R (fun x => if U.1 x = b then a else U.1 x, q_u U.2 a v) := by
  refine ⟨fun x hx => ?_, fun x => ?_⟩
  · show (if U.1 x = b then a else U.1 x) < R
    split
    · exact ha
    · exact h.1 _ hx
  · show (if U.1 (if U.1 x = b then a else U.1 x) = b then a else U.1 (if U.1 x = b then a else U.1 x)) = (if U.1 x = b then a else U.1 x)
    by_cases w : U.1 x = b
    · rw [if_pos w, ra, ite_self]
    · rw [if_neg w, h.2 x, if_neg w]
theorem q_bz {a r : Nat} : (nI (q_b a r) = nI 0) = (a.testBit r = false) := by
  unfold q_b
  cases a.testBit r <;> decide
theorem q_bo {a r : Nat} : (nI (q_b a r) = nI 1) = (a.testBit r = true) := by
  unfold q_b
  cases a.testBit r <;> decide
section BJ2
variable {k sh : Nat} {U : w_U}
theorem c2_a (hC : cPl S q P) (hP : p_Wf P) (hW : z_W S) (hq : z_K q = 6) (hs : sh < 65536) (hk : k < p_L P) : fI (d + 1) 2 [.ref 387, .ref q, .int (nI sh), .int (nI k)] S = b2_61 d q (nI k) (bI (w_op (w_GP sh P) (p_f P k))) (bI (w_op (w_GP sh P) (p_o P k))) (nI (w_r1 (w_GP sh P) k)) S := by
  have hR := hP.1
  have hL := hP.2.2.2.2.1
  obtain ⟨f1, f2, f3⟩ := hP.2.2.2.2.2.2.2.1 k hk
  have gf := hC.2.2.2.2.2.2.2.2.2.1 k hk
  have go := hC.2.2.2.2.2.2.2.2.2.2.1 k hk
  have s1 : fI (d + 1) 2 [.ref 387, .ref q, .int (nI sh), .int (nI k)] S = b2_18 d q (nI sh) (nI k) (bI (w_op (w_GP sh P) (p_f P k))) S := by
    have e := e2 d q (nI sh) (nI k) S hW hq
    simp (disch := omega) only [ni_lit, nI_add, pk_mul, pk_sub, pk_div, nI_leI, nI_ltI, nI_eq, nI_clamp, ni_in, ni_inm, ni_ltm, ni_mlt, ni_lem, ni_mle, ni_eqm, ni_meq, ni_mm, ni_mmle, ni_bit, ni_shl, ni_clr, fa_or, Nat.add_zero, Nat.zero_add, Nat.zero_mul, Nat.mul_zero, eOn, eOs, if_true, if_false, not_true_eq_false, not_false_eq_true, ite_true, ite_false, true_and, and_true, false_and, and_false, or_true, true_or, or_false, false_or, Bool.false_eq_true, reduceIte, Bool.not_true, Bool.not_false, and_self, or_self, q_ef, q_et, q_ltt, q_ltf, q_let, q_lef, gIs, gIl, gIr, gLs, gLl, gLr, gPs, gPl, gPr, gLc, gPc, zb_some, Option.bind_some, q_nm, q_pm, q_hm, q_tm, q_sm, q_wm, q_ym, q_lm, q_ua, gf, q_bz] at e
    show _ = b2_18 d q (nI sh) (nI k) (bI (!sh.testBit (p_f P k))) S
    cases hb : sh.testBit (p_f P k) with
    | true => simp only [hb, if_true, if_false, not_true_eq_false, not_false_eq_true, ite_true, ite_false, true_and, and_true, false_and, and_false, or_true, true_or, or_false, false_or, Bool.false_eq_true, reduceIte, Bool.not_true, Bool.not_false, and_self, or_self, Bool.true_eq_false] at e; exact e
    | false => simp only [hb, if_true, if_false, not_true_eq_false, not_false_eq_true, ite_true, ite_false, true_and, and_true, false_and, and_false, or_true, true_or, or_false, false_or, Bool.false_eq_true, reduceIte, Bool.not_true, Bool.not_false, and_self, or_self] at e; exact e
  have s2 : ∀ x, b2_18 d q (nI sh) (nI k) x S = b2_38 d q (nI k) x (bI (w_op (w_GP sh P) (p_o P k))) S := fun x => by
    have e := b2_18_eq d q (nI sh) (nI k) x S hW hq
    simp (disch := omega) only [ni_lit, nI_add, pk_mul, pk_sub, pk_div, nI_leI, nI_ltI, nI_eq, nI_clamp, ni_in, ni_inm, ni_ltm, ni_mlt, ni_lem, ni_mle, ni_eqm, ni_meq, ni_mm, ni_mmle, ni_bit, ni_shl, ni_clr, fa_or, Nat.add_zero, Nat.zero_add, Nat.zero_mul, Nat.mul_zero, eOn, eOs, if_true, if_false, not_true_eq_false, not_false_eq_true, ite_true, ite_false, true_and, and_true, false_and, and_false, or_true, true_or, or_false, false_or, Bool.false_eq_true, reduceIte, Bool.not_true, Bool.not_false, and_self, or_self, q_ef, q_et, q_ltt, q_ltf, q_let, q_lef, gIs, gIl, gIr, gLs, gLl, gLr, gPs, gPl, gPr, gLc, gPc, zb_some, Option.bind_some, q_nm, q_pm, q_hm, q_tm, q_sm, q_wm, q_ym, q_lm, q_ua, go, q_bz] at e
    show _ = b2_38 d q (nI k) x (bI (!sh.testBit (p_o P k))) S
    cases hb : sh.testBit (p_o P k) with
    | true => simp only [hb, if_true, if_false, not_true_eq_false, not_false_eq_true, ite_true, ite_false, true_and, and_true, false_and, and_false, or_true, true_or, or_false, false_or, Bool.false_eq_true, reduceIte, Bool.not_true, Bool.not_false, and_self, or_self, Bool.true_eq_false] at e; exact e
    | false => simp only [hb, if_true, if_false, not_true_eq_false, not_false_eq_true, ite_true, ite_false, true_and, and_true, false_and, and_false, or_true, true_or, or_false, false_or, Bool.false_eq_true, reduceIte, Bool.not_true, Bool.not_false, and_self, or_self] at e; exact e
  rw [s1, s2]
  have e := b2_38_eq d q (nI k) (bI (w_op (w_GP sh P) (p_f P k))) (bI (w_op (w_GP sh P) (p_o P k))) S hW hq
  simp (disch := omega) only [ni_lit, nI_add, pk_mul, pk_sub, pk_div, nI_leI, nI_ltI, nI_eq, nI_clamp, ni_in, ni_inm, ni_ltm, ni_mlt, ni_lem, ni_mle, ni_eqm, ni_meq, ni_mm, ni_mmle, ni_bit, ni_shl, ni_clr, fa_or, Nat.add_zero, Nat.zero_add, Nat.zero_mul, Nat.mul_zero, eOn, eOs, if_true, if_false, not_true_eq_false, not_false_eq_true, ite_true, ite_false, true_and, and_true, false_and, and_false, or_true, true_or, or_false, false_or, Bool.false_eq_true, reduceIte, Bool.not_true, Bool.not_false, and_self, or_self, q_ef, q_et, q_ltt, q_ltf, q_let, q_lef, gIs, gIl, gIr, gLs, gLl, gLr, gPs, gPl, gPr, gLc, gPc, zb_some, Option.bind_some, q_nm, q_pm, q_hm, q_tm, q_sm, q_wm, q_ym, q_lm, q_ua, go, gf, bI_0] at e
  unfold w_r1
  show _ = b2_61 d q (nI k) _ _ (nI (if w_op (w_GP sh P) (p_f P k) then p_f P k else p_o P k)) S
  cases hb : w_op (w_GP sh P) (p_f P k) with
  | true => simp only [hb, if_true, if_false, not_true_eq_false, not_false_eq_true, ite_true, ite_false, true_and, and_true, false_and, and_false, or_true, true_or, or_false, false_or, Bool.false_eq_true, reduceIte, Bool.not_true, Bool.not_false, and_self, or_self, Bool.true_eq_false] at e; exact e
  | false => simp only [hb, if_true, if_false, not_true_eq_false, not_false_eq_true, ite_true, ite_false, true_and, and_true, false_and, and_false, or_true, true_or, or_false, false_or, Bool.false_eq_true, reduceIte, Bool.not_true, Bool.not_false, and_self, or_self] at e; exact e
theorem w_r_lt (hP : p_Wf P) (hk : k < p_L P) : w_r1 (w_GP sh P) k < p_R P ∧ w_r2 (w_GP sh P) k < p_R P := by
  obtain ⟨f1, f2, f3⟩ := hP.2.2.2.2.2.2.2.1 k hk
  unfold w_r1 w_r2
  constructor
  · split
    · exact f1
    · exact f2
  · split
    · exact f2
    · exact f1
theorem c2_b (hC : cPl S q P) (hP : p_Wf P) (hW : z_W S) (hq : z_K q = 6) (hs : sh < 65536) (hk : k < p_L P) (hB : cB S (p_R P) U) : fI (d + 2) 2 [.ref 387, .ref q, .int (nI sh), .int (nI k)] S = if w_an (w_GP sh P) k then b2_102 (d + 1) (bI (w_op (w_GP sh P) (p_f P k))) (bI (w_op (w_GP sh P) (p_o P k))) (nI (U.1 (w_r1 (w_GP sh P) k))) (nI (U.1 (w_r2 (w_GP sh P) k))) S else some (0, S) := by
  have hR := hP.1
  have hL := hP.2.2.2.2.1
  obtain ⟨f1, f2, f3⟩ := hP.2.2.2.2.2.2.2.1 k hk
  have hr := w_r_lt (sh := sh) hP hk
  have gf := hC.2.2.2.2.2.2.2.2.2.1 k hk
  have go := hC.2.2.2.2.2.2.2.2.2.2.1 k hk
  rw [c2_a hC hP hW hq hs hk]
  have a1 := c3 (d := d) hW hR hB hr.1
  have e := b2_61_eq (d + 1) q (nI k) (bI (w_op (w_GP sh P) (p_f P k))) (bI (w_op (w_GP sh P) (p_o P k))) (nI (w_r1 (w_GP sh P) k)) S hW hq
  rw [a1, zb_some] at e
  simp (disch := omega) only [ni_lit, nI_add, pk_mul, pk_sub, pk_div, nI_leI, nI_ltI, nI_eq, nI_clamp, ni_in, ni_inm, ni_ltm, ni_mlt, ni_lem, ni_mle, ni_eqm, ni_meq, ni_mm, ni_mmle, ni_bit, ni_shl, ni_clr, fa_or, Nat.add_zero, Nat.zero_add, Nat.zero_mul, Nat.mul_zero, eOn, eOs, if_true, if_false, not_true_eq_false, not_false_eq_true, ite_true, ite_false, true_and, and_true, false_and, and_false, or_true, true_or, or_false, false_or, Bool.false_eq_true, reduceIte, Bool.not_true, Bool.not_false, and_self, or_self, q_ef, q_et, q_ltt, q_ltf, q_let, q_lef, gIs, gIl, gIr, gLs, gLl, gLr, gPs, gPl, gPr, gLc, gPc, zb_some, Option.bind_some, q_nm, q_pm, q_hm, q_tm, q_sm, q_wm, q_ym, q_lm, q_ua, go, gf, bI_0] at e
  have s1 : b2_61 (d + 1) q (nI k) (bI (w_op (w_GP sh P) (p_f P k))) (bI (w_op (w_GP sh P) (p_o P k))) (nI (w_r1 (w_GP sh P) k)) S = b2_87 (d + 1) (bI (w_op (w_GP sh P) (p_f P k))) (bI (w_op (w_GP sh P) (p_o P k))) (nI (U.1 (w_r1 (w_GP sh P) k))) (nI (w_r2 (w_GP sh P) k)) S := by
    rw [e]
    have e2 : w_r2 (w_GP sh P) k = if w_op (w_GP sh P) (p_o P k) then p_o P k else p_f P k := rfl
    rw [e2]
    cases hb : w_op (w_GP sh P) (p_o P k) with
    | true => simp only [if_true, if_false, not_true_eq_false, not_false_eq_true, ite_true, ite_false, true_and, and_true, false_and, and_false, or_true, true_or, or_false, false_or, Bool.false_eq_true, reduceIte, Bool.not_true, Bool.not_false, and_self, or_self, Bool.true_eq_false]
    | false => simp only [if_true, if_false, not_true_eq_false, not_false_eq_true, ite_true, ite_false, true_and, and_true, false_and, and_false, or_true, true_or, or_false, false_or, Bool.false_eq_true, reduceIte, Bool.not_true, Bool.not_false, and_self, or_self]
  rw [s1]
  have a2 := c3 (d := d) hW hR hB hr.2
  have e2 := b2_87_eq (d + 1) (bI (w_op (w_GP sh P) (p_f P k))) (bI (w_op (w_GP sh P) (p_o P k))) (nI (U.1 (w_r1 (w_GP sh P) k))) (nI (w_r2 (w_GP sh P) k)) S hW
  rw [a2, zb_some] at e2
  rw [e2]
  have e3 : w_an (w_GP sh P) k = (w_op (w_GP sh P) (p_f P k) || w_op (w_GP sh P) (p_o P k)) := rfl
  rw [e3]
  cases w_op (w_GP sh P) (p_f P k) with
  | true => rw [if_pos (show ¬ bI true = (0 : Int32) by decide), Bool.true_or, if_pos rfl]
  | false =>
    rw [if_neg (show ¬ ¬ bI false = (0 : Int32) by decide), Bool.false_or]
    cases w_op (w_GP sh P) (p_o P k) with
    | true => rw [if_neg (show ¬ bI true = (0 : Int32) by decide), if_pos rfl]
    | false => rw [if_pos (show bI false = (0 : Int32) by decide), if_neg (by decide)]
theorem c2 (hC : cPl S q P) (hP : p_Wf P) (hW : z_W S) (hq : z_K q = 6) (hs : sh < 65536) (hk : k < p_L P) (hB : cB S (p_R P) U) : ∃ S', fI (d + 2) 2 [.ref 387, .ref q, .int (nI sh), .int (nI k)] S = some (bI (w_ab (w_GP sh P) U k), S') ∧ onI (fun c _ => 388 ≤ c ∧ c ≤ 390) S S' ∧ cB S' (p_R P) (w_st (w_GP sh P) U k) := by
  have hR := hP.1
  have hL := hP.2.2.2.2.1
  have hr := w_r_lt (sh := sh) hP hk
  rw [c2_b hC hP hW hq hs hk hB]
  have hB0 := hB
  obtain ⟨b1, b2, b3, b4, pr, dp, b5, b6⟩ := hB
  have ra := b1.1 _ hr.1
  have rb := b1.1 _ hr.2
  have qa := b1.2 (w_r1 (w_GP sh P) k)
  have qb := b1.2 (w_r2 (w_GP sh P) k)
  have ua := b2 (U.1 (w_r1 (w_GP sh P) k))
  have ub := b2 (U.1 (w_r2 (w_GP sh P) k))
  have fa := b3 (U.1 (w_r1 (w_GP sh P) k)) (by omega)
  have fb := b3 (U.1 (w_r2 (w_GP sh P) k)) (by omega)
  cases han : w_an (w_GP sh P) k with
  | false =>
    have c : ¬ w_ab (w_GP sh P) U k = true := fun z => by rw [(w_ab_t z).1] at han; cases han
    have c' : w_ab (w_GP sh P) U k = false := by simpa using c
    rw [if_neg (by decide), c', w_st_f c]
    exact ⟨S, rfl, onI.refl hW, hB0⟩
  | true =>
    rw [if_pos rfl]
    have e := b2_102_eq (d + 1) (bI (w_op (w_GP sh P) (p_f P k))) (bI (w_op (w_GP sh P) (p_o P k))) (nI (U.1 (w_r1 (w_GP sh P) k))) (nI (U.1 (w_r2 (w_GP sh P) k))) S hW
    by_cases c : w_ab (w_GP sh P) U k = true
    · have hz := (w_ab_t c).2
      have s1 : b2_102 (d + 1) (bI (w_op (w_GP sh P) (p_f P k))) (bI (w_op (w_GP sh P) (p_o P k))) (nI (U.1 (w_r1 (w_GP sh P) k))) (nI (U.1 (w_r2 (w_GP sh P) k))) S = b2_124 (d + 1) (bI (w_op (w_GP sh P) (p_f P k))) (bI (w_op (w_GP sh P) (p_o P k))) (nI (U.1 (w_r1 (w_GP sh P) k))) (nI (U.1 (w_r2 (w_GP sh P) k))) S := by
        by_cases z : U.2 (U.1 (w_r1 (w_GP sh P) k)) = 0
        · simp (disch := omega) only [ni_lit, nI_add, pk_mul, pk_sub, pk_div, nI_leI, nI_ltI, nI_eq, nI_clamp, ni_in, ni_inm, ni_ltm, ni_mlt, ni_lem, ni_mle, ni_eqm, ni_meq, ni_mm, ni_mmle, ni_bit, ni_shl, ni_clr, fa_or, Nat.add_zero, Nat.zero_add, Nat.zero_mul, Nat.mul_zero, eOn, eOs, if_true, if_false, not_true_eq_false, not_false_eq_true, ite_true, ite_false, true_and, and_true, false_and, and_false, or_true, true_or, or_false, false_or, Bool.false_eq_true, reduceIte, Bool.not_true, Bool.not_false, and_self, or_self, q_ef, q_et, q_ltt, q_ltf, q_let, q_lef, gIs, gIl, gIr, gLs, gLl, gLr, gPs, gPl, gPr, gLc, gPc, zb_some, Option.bind_some, q_nm, q_pm, q_hm, q_tm, q_sm, q_wm, q_ym, q_lm, q_ua, fa, z] at e
          exact e
        · have z2 : U.2 (U.1 (w_r2 (w_GP sh P) k)) = 0 := hz.resolve_left z
          simp (disch := omega) only [ni_lit, nI_add, pk_mul, pk_sub, pk_div, nI_leI, nI_ltI, nI_eq, nI_clamp, ni_in, ni_inm, ni_ltm, ni_mlt, ni_lem, ni_mle, ni_eqm, ni_meq, ni_mm, ni_mmle, ni_bit, ni_shl, ni_clr, fa_or, Nat.add_zero, Nat.zero_add, Nat.zero_mul, Nat.mul_zero, eOn, eOs, if_true, if_false, not_true_eq_false, not_false_eq_true, ite_true, ite_false, true_and, and_true, false_and, and_false, or_true, true_or, or_false, false_or, Bool.false_eq_true, reduceIte, Bool.not_true, Bool.not_false, and_self, or_self, q_ef, q_et, q_ltt, q_ltf, q_let, q_lef, gIs, gIl, gIr, gLs, gLl, gLr, gPs, gPl, gPr, gLc, gPc, zb_some, Option.bind_some, q_nm, q_pm, q_hm, q_tm, q_sm, q_wm, q_ym, q_lm, q_ua, fa, fb, z2] at e
          exact e
      rw [s1, c]
      have e2 := b2_124_eq (d + 1) (bI (w_op (w_GP sh P) (p_f P k))) (bI (w_op (w_GP sh P) (p_o P k))) (nI (U.1 (w_r1 (w_GP sh P) k))) (nI (U.1 (w_r2 (w_GP sh P) k))) S hW
      unfold w_st
      rw [if_pos c]
      generalize hA : U.1 (w_r1 (w_GP sh P) k) = a at *
      generalize hBb : U.1 (w_r2 (w_GP sh P) k) = b at *
      by_cases hab : a = b
      · rw [if_pos hab]
        rw [← hab, if_neg (fun z => z rfl)] at e2
        rw [← hab]
        have fin : ∀ v, v ≤ 2 → cB (sI S 390 a (nI v)) (p_R P) (U.1, q_u U.2 a v) := fun v hv => by
          refine ⟨b1, fun x => ?_, fun x hx => ?_, fun x hx hx2 => ?_, pr, dp, b5, fun x hx => ?_⟩
          · show q_u U.2 a v x ≤ 2
            unfold q_u
            split
            · exact hv
            · exact b2 x
          · show gI (sI S 390 a (nI v)) 390 x = nI (q_u U.2 a v x)
            by_cases cx : x = a
            · simp (disch := omega) only [ni_lit, nI_add, pk_mul, pk_sub, pk_div, nI_leI, nI_ltI, nI_eq, nI_clamp, ni_in, ni_inm, ni_ltm, ni_mlt, ni_lem, ni_mle, ni_eqm, ni_meq, ni_mm, ni_mmle, ni_bit, ni_shl, ni_clr, fa_or, Nat.add_zero, Nat.zero_add, Nat.zero_mul, Nat.mul_zero, eOn, eOs, if_true, if_false, not_true_eq_false, not_false_eq_true, ite_true, ite_false, true_and, and_true, false_and, and_false, or_true, true_or, or_false, false_or, Bool.false_eq_true, reduceIte, Bool.not_true, Bool.not_false, and_self, or_self, q_ef, q_et, q_ltt, q_ltf, q_let, q_lef, gIs, gIl, gIr, gLs, gLl, gLr, gPs, gPl, gPr, gLc, gPc, zb_some, Option.bind_some, q_nm, q_pm, q_hm, q_tm, q_sm, q_wm, q_ym, q_lm, q_ua, cx]
            · simp (disch := omega) only [ni_lit, nI_add, pk_mul, pk_sub, pk_div, nI_leI, nI_ltI, nI_eq, nI_clamp, ni_in, ni_inm, ni_ltm, ni_mlt, ni_lem, ni_mle, ni_eqm, ni_meq, ni_mm, ni_mmle, ni_bit, ni_shl, ni_clr, fa_or, Nat.add_zero, Nat.zero_add, Nat.zero_mul, Nat.mul_zero, eOn, eOs, if_true, if_false, not_true_eq_false, not_false_eq_true, ite_true, ite_false, true_and, and_true, false_and, and_false, or_true, true_or, or_false, false_or, Bool.false_eq_true, reduceIte, Bool.not_true, Bool.not_false, and_self, or_self, q_ef, q_et, q_ltt, q_ltf, q_let, q_lef, gIs, gIl, gIr, gLs, gLl, gLr, gPs, gPl, gPr, gLc, gPc, zb_some, Option.bind_some, q_nm, q_pm, q_hm, q_tm, q_sm, q_wm, q_ym, q_lm, q_ua, cx, b3 x hx]
          · have := b4 x hx hx2
            simp (disch := omega) only [ni_lit, nI_add, pk_mul, pk_sub, pk_div, nI_leI, nI_ltI, nI_eq, nI_clamp, ni_in, ni_inm, ni_ltm, ni_mlt, ni_lem, ni_mle, ni_eqm, ni_meq, ni_mm, ni_mmle, ni_bit, ni_shl, ni_clr, fa_or, Nat.add_zero, Nat.zero_add, Nat.zero_mul, Nat.mul_zero, eOn, eOs, if_true, if_false, not_true_eq_false, not_false_eq_true, ite_true, ite_false, true_and, and_true, false_and, and_false, or_true, true_or, or_false, false_or, Bool.false_eq_true, reduceIte, Bool.not_true, Bool.not_false, and_self, or_self, q_ef, q_et, q_ltt, q_ltf, q_let, q_lef, gIs, gIl, gIr, gLs, gLl, gLr, gPs, gPl, gPr, gLc, gPc, zb_some, Option.bind_some, q_nm, q_pm, q_hm, q_tm, q_sm, q_wm, q_ym, q_lm, q_ua]
            exact this
          · simp (disch := omega) only [ni_lit, nI_add, pk_mul, pk_sub, pk_div, nI_leI, nI_ltI, nI_eq, nI_clamp, ni_in, ni_inm, ni_ltm, ni_mlt, ni_lem, ni_mle, ni_eqm, ni_meq, ni_mm, ni_mmle, ni_bit, ni_shl, ni_clr, fa_or, Nat.add_zero, Nat.zero_add, Nat.zero_mul, Nat.mul_zero, eOn, eOs, if_true, if_false, not_true_eq_false, not_false_eq_true, ite_true, ite_false, true_and, and_true, false_and, and_false, or_true, true_or, or_false, false_or, Bool.false_eq_true, reduceIte, Bool.not_true, Bool.not_false, and_self, or_self, q_ef, q_et, q_ltt, q_ltf, q_let, q_lef, gIs, gIl, gIr, gLs, gLl, gLr, gPs, gPl, gPr, gLc, gPc, zb_some, Option.bind_some, q_nm, q_pm, q_hm, q_tm, q_sm, q_wm, q_ym, q_lm, q_ua, b6 x hx]
        have on1 : ∀ v, onI (fun c _ => 388 ≤ c ∧ c ≤ 390) S (sI S 390 a (nI v)) := fun v => onI_sI (D := fun c _ => 388 ≤ c ∧ c ≤ 390) (c := 390) (k := a) (onI.refl hW) ⟨by omega, by omega⟩
        have e3 : w_bo (w_GP sh P) k = (w_op (w_GP sh P) (p_f P k) && w_op (w_GP sh P) (p_o P k)) := rfl
        have e4 := b2_151_eq (d + 1) (nI a) S hW
        simp (disch := omega) only [ni_lit, nI_add, pk_mul, pk_sub, pk_div, nI_leI, nI_ltI, nI_eq, nI_clamp, ni_in, ni_inm, ni_ltm, ni_mlt, ni_lem, ni_mle, ni_eqm, ni_meq, ni_mm, ni_mmle, ni_bit, ni_shl, ni_clr, fa_or, Nat.add_zero, Nat.zero_add, Nat.zero_mul, Nat.mul_zero, eOn, eOs, if_true, if_false, not_true_eq_false, not_false_eq_true, ite_true, ite_false, true_and, and_true, false_and, and_false, or_true, true_or, or_false, false_or, Bool.false_eq_true, reduceIte, Bool.not_true, Bool.not_false, and_self, or_self, q_ef, q_et, q_ltt, q_ltf, q_let, q_lef, gIs, gIl, gIr, gLs, gLl, gLr, gPs, gPl, gPr, gLc, gPc, zb_some, Option.bind_some, q_nm, q_pm, q_hm, q_tm, q_sm, q_wm, q_ym, q_lm, q_ua] at e4
        rw [e3]
        cases hf : w_op (w_GP sh P) (p_f P k) with
        | false =>
          rw [hf, if_pos (by decide)] at e2
          rw [Bool.false_and, if_neg (by decide)]
          exact ⟨_, e2.trans e4, on1 1, fin 1 (by omega)⟩
        | true =>
          rw [hf, if_neg (by decide)] at e2
          rw [Bool.true_and]
          cases ho : w_op (w_GP sh P) (p_o P k) with
          | false =>
            rw [ho, if_pos (by decide)] at e2
            rw [if_neg (by decide)]
            exact ⟨_, e2.trans e4, on1 1, fin 1 (by omega)⟩
          | true =>
            rw [ho, if_neg (by decide)] at e2
            simp (disch := omega) only [ni_lit, nI_add, pk_mul, pk_sub, pk_div, nI_leI, nI_ltI, nI_eq, nI_clamp, ni_in, ni_inm, ni_ltm, ni_mlt, ni_lem, ni_mle, ni_eqm, ni_meq, ni_mm, ni_mmle, ni_bit, ni_shl, ni_clr, fa_or, Nat.add_zero, Nat.zero_add, Nat.zero_mul, Nat.mul_zero, eOn, eOs, if_true, if_false, not_true_eq_false, not_false_eq_true, ite_true, ite_false, true_and, and_true, false_and, and_false, or_true, true_or, or_false, false_or, Bool.false_eq_true, reduceIte, Bool.not_true, Bool.not_false, and_self, or_self, q_ef, q_et, q_ltt, q_ltf, q_let, q_lef, gIs, gIl, gIr, gLs, gLl, gLr, gPs, gPl, gPr, gLc, gPc, zb_some, Option.bind_some, q_nm, q_pm, q_hm, q_tm, q_sm, q_wm, q_ym, q_lm, q_ua] at e2
            rw [if_pos rfl]
            exact ⟨_, e2, on1 2, fin 2 (by omega)⟩
      · rw [if_neg hab]
        have sa := b4 a ra qa
        have sb := b4 b rb qb
        have za : w_sz (p_R P) U a ≤ p_R P := fb_ct_le _ _
        have zb' : w_sz (p_R P) U b ≤ p_R P := fb_ct_le _ _
        rw [if_pos (fun z => hab ((nI_eq (by omega) (by omega)).mp z))] at e2
        have mx := fun S' (hW' : z_W S') => c277 (d := d) (a := U.2 a) (b := U.2 b) (S := S') hW' (by omega) (by omega)
        have w1 : z_W (sI (sI S 388 b (nI a)) 389 a (nI (w_sz (p_R P) U a + w_sz (p_R P) U b))) := hW
        have mx1 := mx _ w1
        simp (disch := omega) only [ni_lit, nI_add, pk_mul, pk_sub, pk_div, nI_leI, nI_ltI, nI_eq, nI_clamp, ni_in, ni_inm, ni_ltm, ni_mlt, ni_lem, ni_mle, ni_eqm, ni_meq, ni_mm, ni_mmle, ni_bit, ni_shl, ni_clr, fa_or, Nat.add_zero, Nat.zero_add, Nat.zero_mul, Nat.mul_zero, eOn, eOs, if_true, if_false, not_true_eq_false, not_false_eq_true, ite_true, ite_false, true_and, and_true, false_and, and_false, or_true, true_or, or_false, false_or, Bool.false_eq_true, reduceIte, Bool.not_true, Bool.not_false, and_self, or_self, q_ef, q_et, q_ltt, q_ltf, q_let, q_lef, gIs, gIl, gIr, gLs, gLl, gLr, gPs, gPl, gPr, gLc, gPc, zb_some, Option.bind_some, q_nm, q_pm, q_hm, q_tm, q_sm, q_wm, q_ym, q_lm, q_ua, sa, sb, fa, fb, mx1] at e2
        refine ⟨_, e2, ?_, w_rr_m b1 ra qa, fun x => ?_, fun x hx => ?_, fun x hx hx2 => ?_, q_u pr b a, _, w_tr_m b5 ra rb hab qa qb, fun x hx => ?_⟩
        · exact onI_sI (D := fun c _ => 388 ≤ c ∧ c ≤ 390) (c := 390) (k := a) (onI_sI (D := fun c _ => 388 ≤ c ∧ c ≤ 390) (c := 389) (k := a) (onI_sI (D := fun c _ => 388 ≤ c ∧ c ≤ 390) (c := 388) (k := b) (onI.refl hW) ⟨by omega, by omega⟩) ⟨by omega, by omega⟩) ⟨by omega, by omega⟩
        · show q_u U.2 a _ x ≤ 2
          unfold q_u
          split
          · omega
          · exact b2 x
        · show _ = nI (q_u U.2 a _ x)
          by_cases cx : x = a
          · simp (disch := omega) only [ni_lit, nI_add, pk_mul, pk_sub, pk_div, nI_leI, nI_ltI, nI_eq, nI_clamp, ni_in, ni_inm, ni_ltm, ni_mlt, ni_lem, ni_mle, ni_eqm, ni_meq, ni_mm, ni_mmle, ni_bit, ni_shl, ni_clr, fa_or, Nat.add_zero, Nat.zero_add, Nat.zero_mul, Nat.mul_zero, eOn, eOs, if_true, if_false, not_true_eq_false, not_false_eq_true, ite_true, ite_false, true_and, and_true, false_and, and_false, or_true, true_or, or_false, false_or, Bool.false_eq_true, reduceIte, Bool.not_true, Bool.not_false, and_self, or_self, q_ef, q_et, q_ltt, q_ltf, q_let, q_lef, gIs, gIl, gIr, gLs, gLl, gLr, gPs, gPl, gPr, gLc, gPc, zb_some, Option.bind_some, q_nm, q_pm, q_hm, q_tm, q_sm, q_wm, q_ym, q_lm, q_ua, cx]
          · simp (disch := omega) only [ni_lit, nI_add, pk_mul, pk_sub, pk_div, nI_leI, nI_ltI, nI_eq, nI_clamp, ni_in, ni_inm, ni_ltm, ni_mlt, ni_lem, ni_mle, ni_eqm, ni_meq, ni_mm, ni_mmle, ni_bit, ni_shl, ni_clr, fa_or, Nat.add_zero, Nat.zero_add, Nat.zero_mul, Nat.mul_zero, eOn, eOs, if_true, if_false, not_true_eq_false, not_false_eq_true, ite_true, ite_false, true_and, and_true, false_and, and_false, or_true, true_or, or_false, false_or, Bool.false_eq_true, reduceIte, Bool.not_true, Bool.not_false, and_self, or_self, q_ef, q_et, q_ltt, q_ltf, q_let, q_lef, gIs, gIl, gIr, gLs, gLl, gLr, gPs, gPl, gPr, gLc, gPc, zb_some, Option.bind_some, q_nm, q_pm, q_hm, q_tm, q_sm, q_wm, q_ym, q_lm, q_ua, cx, b3 x hx]
        · have hx2' : (if U.1 x = b then a else U.1 x) = x := hx2
          by_cases cx : x = a
          · rw [cx, w_sz_a hab]
            simp (disch := omega) only [ni_lit, nI_add, pk_mul, pk_sub, pk_div, nI_leI, nI_ltI, nI_eq, nI_clamp, ni_in, ni_inm, ni_ltm, ni_mlt, ni_lem, ni_mle, ni_eqm, ni_meq, ni_mm, ni_mmle, ni_bit, ni_shl, ni_clr, fa_or, Nat.add_zero, Nat.zero_add, Nat.zero_mul, Nat.mul_zero, eOn, eOs, if_true, if_false, not_true_eq_false, not_false_eq_true, ite_true, ite_false, true_and, and_true, false_and, and_false, or_true, true_or, or_false, false_or, Bool.false_eq_true, reduceIte, Bool.not_true, Bool.not_false, and_self, or_self, q_ef, q_et, q_ltt, q_ltf, q_let, q_lef, gIs, gIl, gIr, gLs, gLl, gLr, gPs, gPl, gPr, gLc, gPc, zb_some, Option.bind_some, q_nm, q_pm, q_hm, q_tm, q_sm, q_wm, q_ym, q_lm, q_ua]
          · have cb : ¬ U.1 x = b := fun z => by rw [if_pos z] at hx2'; exact cx hx2'.symm
            rw [if_neg cb] at hx2'
            rw [w_sz_n cx (fun z => cb (by rw [hx2']; exact z))]
            have := b4 x hx hx2'
            simp (disch := omega) only [ni_lit, nI_add, pk_mul, pk_sub, pk_div, nI_leI, nI_ltI, nI_eq, nI_clamp, ni_in, ni_inm, ni_ltm, ni_mlt, ni_lem, ni_mle, ni_eqm, ni_meq, ni_mm, ni_mmle, ni_bit, ni_shl, ni_clr, fa_or, Nat.add_zero, Nat.zero_add, Nat.zero_mul, Nat.mul_zero, eOn, eOs, if_true, if_false, not_true_eq_false, not_false_eq_true, ite_true, ite_false, true_and, and_true, false_and, and_false, or_true, true_or, or_false, false_or, Bool.false_eq_true, reduceIte, Bool.not_true, Bool.not_false, and_self, or_self, q_ef, q_et, q_ltt, q_ltf, q_let, q_lef, gIs, gIl, gIr, gLs, gLl, gLr, gPs, gPl, gPr, gLc, gPc, zb_some, Option.bind_some, q_nm, q_pm, q_hm, q_tm, q_sm, q_wm, q_ym, q_lm, q_ua, cx]
            exact this
        · by_cases cx : x = b
          · simp (disch := omega) only [ni_lit, nI_add, pk_mul, pk_sub, pk_div, nI_leI, nI_ltI, nI_eq, nI_clamp, ni_in, ni_inm, ni_ltm, ni_mlt, ni_lem, ni_mle, ni_eqm, ni_meq, ni_mm, ni_mmle, ni_bit, ni_shl, ni_clr, fa_or, Nat.add_zero, Nat.zero_add, Nat.zero_mul, Nat.mul_zero, eOn, eOs, if_true, if_false, not_true_eq_false, not_false_eq_true, ite_true, ite_false, true_and, and_true, false_and, and_false, or_true, true_or, or_false, false_or, Bool.false_eq_true, reduceIte, Bool.not_true, Bool.not_false, and_self, or_self, q_ef, q_et, q_ltt, q_ltf, q_let, q_lef, gIs, gIl, gIr, gLs, gLl, gLr, gPs, gPl, gPr, gLc, gPc, zb_some, Option.bind_some, q_nm, q_pm, q_hm, q_tm, q_sm, q_wm, q_ym, q_lm, q_ua, cx]
          · simp (disch := omega) only [ni_lit, nI_add, pk_mul, pk_sub, pk_div, nI_leI, nI_ltI, nI_eq, nI_clamp, ni_in, ni_inm, ni_ltm, ni_mlt, ni_lem, ni_mle, ni_eqm, ni_meq, ni_mm, ni_mmle, ni_bit, ni_shl, ni_clr, fa_or, Nat.add_zero, Nat.zero_add, Nat.zero_mul, Nat.mul_zero, eOn, eOs, if_true, if_false, not_true_eq_false, not_false_eq_true, ite_true, ite_false, true_and, and_true, false_and, and_false, or_true, true_or, or_false, false_or, Bool.false_eq_true, reduceIte, Bool.not_true, Bool.not_false, and_self, or_self, q_ef, q_et, q_ltt, q_ltf, q_let, q_lef, gIs, gIl, gIr, gLs, gLl, gLr, gPs, gPl, gPr, gLc, gPc, zb_some, Option.bind_some, q_nm, q_pm, q_hm, q_tm, q_sm, q_wm, q_ym, q_lm, q_ua, cx, b6 x hx]
    · have c' : w_ab (w_GP sh P) U k = false := by simpa using c
      have hz : ¬ U.2 (U.1 (w_r1 (w_GP sh P) k)) = 0 ∧ ¬ U.2 (U.1 (w_r2 (w_GP sh P) k)) = 0 := by
        unfold w_ab at c'
        rw [han, Bool.true_and] at c'
        constructor
        · intro z
          rw [decide_eq_true z, Bool.true_or] at c'
          cases c'
        · intro z
          rw [decide_eq_true z, Bool.or_true] at c'
          cases c'
      simp (disch := omega) only [ni_lit, nI_add, pk_mul, pk_sub, pk_div, nI_leI, nI_ltI, nI_eq, nI_clamp, ni_in, ni_inm, ni_ltm, ni_mlt, ni_lem, ni_mle, ni_eqm, ni_meq, ni_mm, ni_mmle, ni_bit, ni_shl, ni_clr, fa_or, Nat.add_zero, Nat.zero_add, Nat.zero_mul, Nat.mul_zero, eOn, eOs, if_true, if_false, not_true_eq_false, not_false_eq_true, ite_true, ite_false, true_and, and_true, false_and, and_false, or_true, true_or, or_false, false_or, Bool.false_eq_true, reduceIte, Bool.not_true, Bool.not_false, and_self, or_self, q_ef, q_et, q_ltt, q_ltf, q_let, q_lef, gIs, gIl, gIr, gLs, gLl, gLr, gPs, gPl, gPr, gLc, gPc, zb_some, Option.bind_some, q_nm, q_pm, q_hm, q_tm, q_sm, q_wm, q_ym, q_lm, q_ua, fa, fb, hz.1, hz.2] at e
      rw [c', w_st_f c]
      exact ⟨S, e, onI.refl hW, hB0⟩
end BJ2
end BJ
