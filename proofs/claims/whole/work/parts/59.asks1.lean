/-! WHAT IS ASKED, the plain ones. -/
theorem m155g {d : Nat} {S : z_S} {x y z : Int32} (hW : z_W S) : fI (d + 1) 155 [.int x, .int y, .int z] S = some (bI (decide (y.toInt ≤ x.toInt ∧ x.toInt ≤ z.toInt)), S) := by
  have e := e155 d x y z S hW
  simp only [b155_14_eq d S hW, fa_lt] at e
  rw [e]
  by_cases c1 : x.toInt < y.toInt
  · rw [if_pos c1, decide_eq_false (by omega)]; rfl
  · rw [if_neg c1]
    by_cases c2 : z.toInt < x.toInt
    · rw [if_pos c2, decide_eq_false (by omega)]; rfl
    · rw [if_neg c2, decide_eq_true (by omega)]; rfl
theorem ixO_d {n : Nat} {x : Int32} : ixO n x = decide ((nI 0).toInt ≤ x.toInt ∧ x.toInt ≤ (n : Int) - 1) := by
  have : (nI 0).toInt = 0 := rfl
  unfold ixO
  by_cases c : 0 ≤ x.toInt ∧ x.toInt < n
  · rw [decide_eq_true c, decide_eq_true (by omega)]
  · rw [decide_eq_false c, decide_eq_false (by omega)]
theorem nI_pm {n : Nat} (h : n < 2147483648) : (nI n - nI 1).toInt = (n : Int) - 1 := by
  have h1 : (nI 1).toInt = 1 := rfl
  rw [fb_subI (by rw [nI_toInt h, h1]; omega) (by rw [nI_toInt h, h1]; omega), nI_toInt h, h1]
theorem ifc {α : Type} {c : Prop} {i j : Decidable c} {a a' b b' : α} (h1 : c → a = a') (h2 : ¬ c → b = b') : @ite α c i a b = @ite α c j a' b' := by
  by_cases h : c
  · rw [if_pos h, if_pos h]; exact h1 h
  · rw [if_neg h, if_neg h]; exact h2 h
theorem smi {c : Prop} [Decidable c] (a b : Int32) (S : z_S) : some ((if c then a else b), S) = if c then some (a, S) else some (b, S) := by
  by_cases h : c
  · rw [if_pos h, if_pos h]
  · rw [if_neg h, if_neg h]
section TA
variable {d : Nat} {A : q_A} {x y : Int32}
theorem t_fault : twoI (d + 20) 111 193 [.int x] A A := by
  refine two_q (if ¬ x = 0 then (if ¬ x = 1 then -1 else eO (a_ft A).2) else nI (a_ft A).1) (fun S h hA => ⟨S, ?_, onI.refl h.1⟩) (fun S h hA => ⟨S, ?_, onM.refl h.W⟩)
  · rw [e111 (d + 19) x S h.1, h.2.2.2.2.2.2.2.1.2.1, h.2.2.2.2.2.2.2.1.2.2]
    (repeat' split) <;> rfl
  · rw [e193 (d + 19) x S h.W, h.2.2.2.2.2.2.2.2.1.2.1, h.2.2.2.2.2.2.2.2.1.2.2]
    (repeat' split) <;> rfl
theorem t_status : twoI (d + 20) 149 195 [.int x] A A := by
  refine two_q (if ixO 6 x = true then nI (a_rf A x.toInt.toNat) else -nI 1) (fun S h hA => ⟨S, ?_, onI.refl h.1⟩) (fun S h hA => ⟨S, ?_, onM.refl h.W⟩)
  · have e := e149 (d + 19) x S h.1
    have h9 := h.2.2.2.2.2.2.2.2.1
    by_cases c : ixO 6 x = true
    · obtain ⟨k, h1, rfl⟩ := ixO_t c (by omega)
      rw [if_pos c, nI_toInt (by omega), show ((k : Int)).toNat = k from rfl]
      simp (disch := omega) only [ni_lit, nI_add, pk_mul, pk_sub, pk_div, nI_leI, nI_ltI, nI_eq, nI_clamp, ni_in, ni_inm, ni_ltm, ni_mlt, ni_lem, ni_mle, ni_eqm, ni_meq, ni_mm, ni_mmle, ni_bit, ni_shl, ni_clr, fa_or, Nat.add_zero, Nat.zero_add, Nat.zero_mul, Nat.mul_zero, eOn, eOs, if_true, if_false, not_true_eq_false, not_false_eq_true, ite_true, ite_false, true_and, and_true, false_and, and_false, or_true, true_or, or_false, false_or, Bool.false_eq_true, reduceIte, Bool.not_true, Bool.not_false, and_self, or_self, q_ef, q_et, q_ltt, q_ltf, q_let, q_lef, gIs, gIl, gIr, gLs, gLl, gLr, gPs, gPl, gPr, gLc, gPc, zb_some, Option.bind_some, q_nm, q_pm, q_hm, q_tm, q_sm, q_wm, q_ym, q_lm, q_ua, h9 k h1, b149_19_eq (d + 19) S h.1] at e
      exact e
    · rw [if_neg c]
      rw [b149_19_eq (d + 19) S h.1] at e
      by_cases c1 : x < 0
      · rw [if_pos c1] at e; exact e
      · rw [if_neg c1] at e
        by_cases c2 : (6 : Int32) ≤ x
        · rw [if_pos c2] at e; exact e
        · exfalso
          rw [x_lt0] at c1
          rw [fa_le, show (6 : Int32).toInt = 6 from rfl] at c2
          exact c (decide_eq_true (by omega))
  · have e := e195 (d + 19) x S h.W
    have a1 : fI (d + 19) 155 [.int x, .int 0, .int 5] S = some (bI (ixO 6 x), S) := by
      rw [m155g (d := d + 18) h.W, ixO_d]; rfl
    rw [a1, zb_some] at e
    by_cases c : ixO 6 x = true
    · obtain ⟨k, h1, rfl⟩ := ixO_t c (by omega)
      rw [if_pos c, nI_toInt (by omega), show ((k : Int)).toNat = k from rfl]
      rw [c, if_neg (by decide)] at e
      simp (disch := omega) only [ni_lit, nI_add, pk_mul, pk_sub, pk_div, nI_leI, nI_ltI, nI_eq, nI_clamp, ni_in, ni_inm, ni_ltm, ni_mlt, ni_lem, ni_mle, ni_eqm, ni_meq, ni_mm, ni_mmle, ni_bit, ni_shl, ni_clr, fa_or, Nat.add_zero, Nat.zero_add, Nat.zero_mul, Nat.mul_zero, eOn, eOs, if_true, if_false, not_true_eq_false, not_false_eq_true, ite_true, ite_false, true_and, and_true, false_and, and_false, or_true, true_or, or_false, false_or, Bool.false_eq_true, reduceIte, Bool.not_true, Bool.not_false, and_self, or_self, q_ef, q_et, q_ltt, q_ltf, q_let, q_lef, gIs, gIl, gIr, gLs, gLl, gLr, gPs, gPl, gPr, gLc, gPc, zb_some, Option.bind_some, q_nm, q_pm, q_hm, q_tm, q_sm, q_wm, q_ym, q_lm, q_ua, h.2.2.2.2.2.2.2.2.2.1 k h1] at e
      exact e
    · have c' : ixO 6 x = false := by simpa using c
      rw [if_neg c]
      rw [c', if_pos (by decide)] at e
      exact e
theorem t_bench : twoI (d + 20) 116 234 [.int x] A A := by
  refine two_q (if ixO (q_l (a_s A)).length x = true then nI ((q_l (a_s A)).getD x.toInt.toNat 0) else -nI 1) (fun S h hA => ⟨S, ?_, onI.refl h.1⟩) (fun S h hA => ⟨S, ?_, onM.refl h.W⟩)
  · have e := e116 (d + 19) x S h.1
    have hl := (hA.2.1.Bd hA.1).2.2.1
    have h4 : gI S 27 4 = nI (q_l (a_s A)).length := h.s.2.2.2.2.1
    by_cases c : ixO (q_l (a_s A)).length x = true
    · obtain ⟨k, h1, rfl⟩ := ixO_t c (by omega)
      have h8 : gI S 31 k = nI ((q_l (a_s A)).getD k 0) := h.s.2.2.2.2.2.2.2.2 k h1
      rw [if_pos c, nI_toInt (by omega), show ((k : Int)).toNat = k from rfl]
      simp (disch := omega) only [ni_lit, nI_add, pk_mul, pk_sub, pk_div, nI_leI, nI_ltI, nI_eq, nI_clamp, ni_in, ni_inm, ni_ltm, ni_mlt, ni_lem, ni_mle, ni_eqm, ni_meq, ni_mm, ni_mmle, ni_bit, ni_shl, ni_clr, fa_or, Nat.add_zero, Nat.zero_add, Nat.zero_mul, Nat.mul_zero, eOn, eOs, if_true, if_false, not_true_eq_false, not_false_eq_true, ite_true, ite_false, true_and, and_true, false_and, and_false, or_true, true_or, or_false, false_or, Bool.false_eq_true, reduceIte, Bool.not_true, Bool.not_false, and_self, or_self, q_ef, q_et, q_ltt, q_ltf, q_let, q_lef, gIs, gIl, gIr, gLs, gLl, gLr, gPs, gPl, gPr, gLc, gPc, zb_some, Option.bind_some, q_nm, q_pm, q_hm, q_tm, q_sm, q_wm, q_ym, q_lm, q_ua, h4, h8, b116_27_eq (d + 19) S h.1] at e
      exact e
    · rw [if_neg c]
      rw [b116_27_eq (d + 19) S h.1, h4] at e
      by_cases c1 : x < 0
      · rw [if_pos c1] at e; exact e
      · rw [if_neg c1] at e
        by_cases c2 : nI (q_l (a_s A)).length ≤ x
        · rw [if_pos c2] at e; exact e
        · exfalso
          rw [x_lt0] at c1
          rw [fa_le, nI_toInt (by omega)] at c2
          exact c (decide_eq_true (by omega))
  · have e := e234 (d + 19) x S h.W
    have hl := (hA.2.1.Bd hA.1).2.2.1
    have h3 : gI S 425 0 = nI (q_l (a_s A)).length := h.2.2.2.2.1.2.2.2.1
    have a1 : fI (d + 19) 155 [.int x, .int 0, .int (gI S 425 ((0 : Int32)).toNatClampNeg - 1)] S = some (bI (ixO (q_l (a_s A)).length x), S) := by
      rw [m155g (d := d + 18) h.W, ixO_d, show ((0 : Int32)).toNatClampNeg = 0 from rfl, h3, show (1 : Int32) = nI 1 from rfl, nI_pm (by omega)]; rfl
    rw [if_pos (by decide), a1, zb_some] at e
    by_cases c : ixO (q_l (a_s A)).length x = true
    · obtain ⟨k, h1, rfl⟩ := ixO_t c (by omega)
      have h6 := h.2.2.2.2.1.2.2.2.2.2.2 k h1
      rw [Nat.mul_zero, Nat.zero_add] at h6
      rw [if_pos c, nI_toInt (by omega), show ((k : Int)).toNat = k from rfl]
      rw [c, if_neg (by decide)] at e
      simp (disch := omega) only [ni_lit, nI_add, pk_mul, pk_sub, pk_div, nI_leI, nI_ltI, nI_eq, nI_clamp, ni_in, ni_inm, ni_ltm, ni_mlt, ni_lem, ni_mle, ni_eqm, ni_meq, ni_mm, ni_mmle, ni_bit, ni_shl, ni_clr, fa_or, Nat.add_zero, Nat.zero_add, Nat.zero_mul, Nat.mul_zero, eOn, eOs, if_true, if_false, not_true_eq_false, not_false_eq_true, ite_true, ite_false, true_and, and_true, false_and, and_false, or_true, true_or, or_false, false_or, Bool.false_eq_true, reduceIte, Bool.not_true, Bool.not_false, and_self, or_self, q_ef, q_et, q_ltt, q_ltf, q_let, q_lef, gIs, gIl, gIr, gLs, gLl, gLr, gPs, gPl, gPr, gLc, gPc, zb_some, Option.bind_some, q_nm, q_pm, q_hm, q_tm, q_sm, q_wm, q_ym, q_lm, q_ua, h6] at e
      exact e
    · have c' : ixO (q_l (a_s A)).length x = false := by simpa using c
      rw [if_neg c]
      rw [c', if_pos (by decide)] at e
      exact e
theorem t_octet : twoI (d + 20) 147 269 [.int x] A A := by
  refine two_q (if ixO (a_im A).length x = true then nI ((a_im A).getD x.toInt.toNat 0) else -nI 1) (fun S h hA => ⟨S, ?_, onI.refl h.1⟩) (fun S h hA => ⟨S, ?_, onM.refl h.W⟩)
  · have e := e147 (d + 19) x S h.1
    have hl := hA.2.2.2.2.2.2.2.2.1
    have h4 := h.2.2.2.2.2.2.2.2.2.1
    by_cases c : ixO (a_im A).length x = true
    · obtain ⟨k, h1, rfl⟩ := ixO_t c (by omega)
      rw [if_pos c, nI_toInt (by omega), show ((k : Int)).toNat = k from rfl]
      simp (disch := omega) only [ni_lit, nI_add, pk_mul, pk_sub, pk_div, nI_leI, nI_ltI, nI_eq, nI_clamp, ni_in, ni_inm, ni_ltm, ni_mlt, ni_lem, ni_mle, ni_eqm, ni_meq, ni_mm, ni_mmle, ni_bit, ni_shl, ni_clr, fa_or, Nat.add_zero, Nat.zero_add, Nat.zero_mul, Nat.mul_zero, eOn, eOs, if_true, if_false, not_true_eq_false, not_false_eq_true, ite_true, ite_false, true_and, and_true, false_and, and_false, or_true, true_or, or_false, false_or, Bool.false_eq_true, reduceIte, Bool.not_true, Bool.not_false, and_self, or_self, q_ef, q_et, q_ltt, q_ltf, q_let, q_lef, gIs, gIl, gIr, gLs, gLl, gLr, gPs, gPl, gPr, gLc, gPc, zb_some, Option.bind_some, q_nm, q_pm, q_hm, q_tm, q_sm, q_wm, q_ym, q_lm, q_ua, h4.1, h4.2 k h1, b147_27_eq (d + 19) S h.1] at e
      exact e
    · rw [if_neg c]
      rw [b147_27_eq (d + 19) S h.1, h4.1] at e
      by_cases c1 : x < 0
      · rw [if_pos c1] at e; exact e
      · rw [if_neg c1] at e
        by_cases c2 : nI (a_im A).length ≤ x
        · rw [if_pos c2] at e; exact e
        · exfalso
          rw [x_lt0] at c1
          rw [fa_le, nI_toInt (by omega)] at c2
          exact c (decide_eq_true (by omega))
  · have e := e269 (d + 19) x S h.W
    have hl := hA.2.2.2.2.2.2.2.2.1
    have h4 := h.2.2.2.2.2.2.2.2.2.2
    have a1 : fI (d + 19) 155 [.int x, .int 0, .int (gI S 396 71 - 1)] S = some (bI (ixO (a_im A).length x), S) := by
      rw [m155g (d := d + 18) h.W, ixO_d, h4.1, show (1 : Int32) = nI 1 from rfl, nI_pm (by omega)]; rfl
    rw [a1, zb_some] at e
    by_cases c : ixO (a_im A).length x = true
    · obtain ⟨k, h1, rfl⟩ := ixO_t c (by omega)
      rw [if_pos c, nI_toInt (by omega), show ((k : Int)).toNat = k from rfl]
      rw [c, if_neg (by decide)] at e
      simp (disch := omega) only [ni_lit, nI_add, pk_mul, pk_sub, pk_div, nI_leI, nI_ltI, nI_eq, nI_clamp, ni_in, ni_inm, ni_ltm, ni_mlt, ni_lem, ni_mle, ni_eqm, ni_meq, ni_mm, ni_mmle, ni_bit, ni_shl, ni_clr, fa_or, Nat.add_zero, Nat.zero_add, Nat.zero_mul, Nat.mul_zero, eOn, eOs, if_true, if_false, not_true_eq_false, not_false_eq_true, ite_true, ite_false, true_and, and_true, false_and, and_false, or_true, true_or, or_false, false_or, Bool.false_eq_true, reduceIte, Bool.not_true, Bool.not_false, and_self, or_self, q_ef, q_et, q_ltt, q_ltf, q_let, q_lef, gIs, gIl, gIr, gLs, gLl, gLr, gPs, gPl, gPr, gLc, gPc, zb_some, Option.bind_some, q_nm, q_pm, q_hm, q_tm, q_sm, q_wm, q_ym, q_lm, q_ua, h4.2 k h1] at e
      exact e
    · have c' : ixO (a_im A).length x = false := by simpa using c
      rw [if_neg c]
      rw [c', if_pos (by decide)] at e
      exact e
theorem t_lodger : twoI (d + 20) 115 233 [.int x, .int y] A A := by
  have hv : ∀ k : Nat, nI k = x → (x.toInt.toNat = k ∨ 2147483648 ≤ k) := fun k h => by
    by_cases c : k < 2147483648
    · left; rw [← h, nI_toInt c]; rfl
    · right; omega
  refine two_q (if ixO (p_L (a_P A)) x = true then (if y = 0 then nI (p_f (a_P A) x.toInt.toNat) else if y = 1 then nI (p_o (a_P A) x.toInt.toNat) else if y = 2 then eO (q_rm (a_s A) x.toInt.toNat) else if y = 3 then nI (q_y (a_s A) x.toInt.toNat) else if y = 4 then eO (q_ix (q_l (a_s A)) x.toInt.toNat 0) else -nI 1) else -nI 1) (fun S h hA => ⟨S, ?_, onI.refl h.1⟩) (fun S h hA => ⟨S, ?_, onM.refl h.W⟩)
  · obtain ⟨q, hH, hq⟩ := h.H hA
    have hL := hA.1.2.2.2.2.1
    have e := e115 (d + 19) x y S h.1
    rw [hq, c59x (d := d + 18) hH.1 hH.2.1 hH.2.2.2.1 hA.1, zb_some] at e
    by_cases c : ixO (p_L (a_P A)) x = true
    · obtain ⟨k, h1, rfl⟩ := ixO_t c (by omega)
      have g1 := hH.2.2.2.1.2.2.2.2.2.2.2.2.2.1 k h1
      have g2 := hH.2.2.2.1.2.2.2.2.2.2.2.2.2.2.1 k h1
      have hB := hA.2.1.Bd hA.1
      have hw2 := hB.2.2.2.2.2.2.1 k
      have g3 : gI S 29 k = nI (q_w (a_s A) k) := h.s.2.2.2.2.2.2.1 k (by omega) (by omega)
      have g4 : gI S 30 k = nI (q_y (a_s A) k) := h.s.2.2.2.2.2.2.2.1 k (by omega) (by omega)
      rw [if_pos c, nI_toInt (by omega), show ((k : Int)).toNat = k from rfl]
      rw [c, if_pos (by decide)] at e
      rw [e, hq, c77 (d := d + 18) h.1 (by decide +kernel) h.s hB (show k < 16 by omega) (by omega), zb_some, c78 (d := d + 18) h.1 (by decide +kernel) h.s hB (show k < 16 by omega), zb_some]
      simp (disch := omega) only [ni_lit, nI_add, pk_mul, pk_sub, pk_div, nI_leI, nI_ltI, nI_eq, nI_clamp, ni_in, ni_inm, ni_ltm, ni_mlt, ni_lem, ni_mle, ni_eqm, ni_meq, ni_mm, ni_mmle, ni_bit, ni_shl, ni_clr, fa_or, Nat.add_zero, Nat.zero_add, Nat.zero_mul, Nat.mul_zero, eOn, eOs, q_ltt, if_true, g1, g2, g3, g4, smi, bI_0]
      refine ifc (fun _ => rfl) (fun _ => ifc (fun _ => rfl) (fun _ => ifc (fun _ => ?_) (fun _ => rfl)))
      unfold q_rm
      by_cases c2 : q_w (a_s A) k < 16
      · rw [if_neg (by simpa using c2), if_pos c2]; rfl
      · rw [if_pos (by simpa using c2), if_neg c2]; rfl
    · have c' : ixO (p_L (a_P A)) x = false := by simpa using c
      rw [if_neg c]
      rw [c', if_neg (by decide)] at e
      exact e
  · obtain ⟨_, ⟨b, hM⟩, _, _, hs, _⟩ := h
    have hL := hA.1.2.2.2.2.1
    have e := e233 (d + 19) x y S hM.1
    rw [m228 (d := d + 18) hM, zb_some] at e
    by_cases c : ixO (p_L (a_P A)) x = true
    · obtain ⟨k, h1, rfl⟩ := ixO_t c (by omega)
      rw [m_s_eq (hA.mL h1)] at hs
      have hB := hA.2.1.Bd hA.1
      have g4 := hs.2.2.2.2.2.1 k (by omega)
      rw [Nat.mul_zero, Nat.zero_add] at g4
      rw [if_pos c, nI_toInt (by omega), show ((k : Int)).toNat = k from rfl]
      rw [c, if_pos (by decide)] at e
      rw [e, m210 (d := d + 18) hM h1, zb_some, m211 (d := d + 18) hM h1, zb_some]
      have a3 : fI (d + 19) 213 [.ref 396, .int 0, .int (nI k)] S = _ := m213 (d := d + 18) (v := 0) hM (by omega) hs hA.2.1 (by omega)
      have a4 : fI (d + 19) 214 [.ref 396, .int 0, .int (nI k)] S = _ := m214 (d := d + 18) (v := 0) hM.1 (by omega) hs hB (by omega)
      rw [a3, zb_some, a4, zb_some]
      simp (disch := omega) only [ni_lit, nI_add, pk_mul, pk_sub, pk_div, nI_leI, nI_ltI, nI_eq, nI_clamp, ni_in, ni_inm, ni_ltm, ni_mlt, ni_lem, ni_mle, ni_eqm, ni_meq, ni_mm, ni_mmle, ni_bit, ni_shl, ni_clr, fa_or, Nat.add_zero, Nat.zero_add, Nat.zero_mul, Nat.mul_zero, eOn, eOs, q_ltt, if_true, g4, smi]
    · have c' : ixO (p_L (a_P A)) x = false := by simpa using c
      rw [if_neg c]
      rw [c', if_neg (by decide)] at e
      exact e
end TA
