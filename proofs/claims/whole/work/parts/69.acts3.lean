/-! ACTS: shut, undo, nights. -/
def q_seth (s : q_St) (h : Nat) : q_St := (q_n s, q_p s, h, q_t s, q_s s, q_w s, q_y s, q_l s)
section TK
variable {d : Nat} {S : z_S} {A : q_A} {x y : Int32}
/-- a room can be shut, or opened -/
def q_cs (A : q_A) (x y : Int32) : Bool := ixO (p_R (a_P A)) x && ((decide (y = 1) && q_free (a_s A) x.toInt.toNat) || (decide (y = 0) && (q_h (a_s A)).testBit x.toInt.toNat))
theorem c137 (h : cA S A) (hA : aOk A) : fI (d + 2) 137 [.ref 0, .int x, .int y] S = some (bI (q_cs A x y), S) := by
  obtain ⟨q, hH, hq⟩ := h.H hA
  have hR := hA.1.1
  have hB := hA.2.1.Bd hA.1
  have hBh := hB.1
  have e := e137 (d + 1) x y S h.1
  rw [hq, c58x (d := d) hH.1 hH.2.1 hH.2.2.2.1 hA.1, zb_some] at e
  unfold q_cs
  by_cases c : ixO (p_R (a_P A)) x = true
  · obtain ⟨k, h1, rfl⟩ := ixO_t c (by omega)
    have s2 : gI S 27 2 = nI (q_h (a_s A)) := h.s.2.2.1
    rw [c, if_pos (by decide), s2, c76 (d := d) h.1 (by decide +kernel) h.s hB (show k < 16 by omega), zb_some, b137_50_eq (d + 1) S h.1] at e
    rw [c, nI_toInt (by omega), show ((k : Int)).toNat = k from rfl, Bool.true_and]
    by_cases y1 : y = 1
    · subst y1
      rw [if_neg (fun z => z rfl)] at e
      rw [e]
      cases q_free (a_s A) k
      · rfl
      · rfl
    · rw [if_pos y1] at e
      rw [decide_eq_false y1, Bool.false_and, Bool.false_or]
      by_cases y0 : y = 0
      · subst y0
        rw [if_neg (fun z => z rfl)] at e
        simp (disch := omega) only [ni_lit, ni_bit] at e
        unfold q_b at e
        refine Eq.trans e ?_
        cases (q_h (a_s A)).testBit k
        · rfl
        · rfl
      · rw [if_pos y0] at e
        rw [decide_eq_false y0]
        exact e
  · have c' : ixO (p_R (a_P A)) x = false := by simpa using c
    rw [c', if_neg (by decide)] at e
    rw [c', Bool.false_and]
    exact e
theorem q_Gd.seth {P : q_Pl} {s : q_St} (h : q_Gd P s) (hP : p_Wf P) {r : Nat} (hr : r < p_R P) (hc : q_free s r = true ∨ (q_h s).testBit r = true) : q_Gd P (q_seth s (q_h s ^^^ 2 ^ r)) := by
  have hf := q_free_iff h r
  obtain ⟨g1, g2, g3, g4, g5, g6, g7, g8, g9, g10, g11, g12, g13, g14⟩ := h
  refine ⟨Nat.xor_lt_two_pow g1 (Nat.pow_lt_pow_right (by decide) hr), g2, g3, g4, g5, g6, g7, g8, g9, g10, g11, fun j hj => ?_, g13, g14⟩
  have hj2 : (q_h s ^^^ 2 ^ r).testBit j = true := hj
  rw [fb_bit_flip] at hj2
  by_cases z : j = r
  · subst z
    rcases hc with c | c
    · exact (hf.mp c).2
    · exact g12 j c
  · rw [decide_eq_false z, Bool.xor_false] at hj2
    exact g12 j hj2
theorem t_shut : ∃ A', twoI (d + 20) 136 261 [.int x, .int y] A A' := by
  by_cases hok : aOk A
  · have hR := hok.1.1
    by_cases c : q_cs A x y = true
    · have c2 := c
      unfold q_cs at c2
      rw [Bool.and_eq_true] at c2
      obtain ⟨k, k1, rfl⟩ := ixO_t c2.1 (by omega)
      have c3 := c2.2
      rw [nI_toInt (by omega), show ((k : Int)).toNat = k from rfl, Bool.or_eq_true, Bool.and_eq_true, Bool.and_eq_true, decide_eq_true_eq, decide_eq_true_eq] at c3
      have c4 : q_free (a_s A) k = true ∨ (q_h (a_s A)).testBit k = true := c3.elim (fun z => Or.inl z.2) (fun z => Or.inr z.2)
      refine ⟨a_set (a_set A (a_s A) (a_kl A) (q_psh (a_ud A) (a_s A, a_kl A))) (q_seth (a_s A) (q_h (a_s A) ^^^ 2 ^ k)) (a_kl A) (q_psh (a_ud A) (a_s A, a_kl A)), two_m (nI 1) (fun hA => ?_) (fun S h hA => ?_) (fun S h hA => ?_)⟩
      · exact hA.set (p_m_R hA (by omega)) (hA.2.1.seth hA.1 k1 c4) hA.2.2.1 hA.2.2.2.1 hA.psh
      · have e := e136 (d + 19) (nI k) y S h.1
        obtain ⟨S1, a1, a2, a3⟩ := c_rem (d := d + 17) h hA
        have g2 : gI S1 27 2 = nI (q_h (a_s A)) := a3.s.2.2.1
        have hsh : (1 : Int32) <<< (nI k &&& 31) = nI (2 ^ k) := ni_shl (by omega)
        rw [c137 (d := d + 17) h hA, zb_some, c, if_pos (by decide), a1, Option.bind_some, g2, hsh, fb_xorI] at e
        have ho : onI (fun c k => c = 27 ∧ k = 2) S1 (sI S1 27 2 (nI (q_h (a_s A) ^^^ 2 ^ k))) := onI_sI (D := fun c k => c = 27 ∧ k = 2) (c := 27) (onI.refl a3.1) ⟨rfl, rfl⟩
        refine ⟨_, e, (a2.M.mono fun c k z => by omega).trans (ho.M.mono fun c k z => by omega), a3.set ho (fun c k z => by omega) ?_ (a3.2.2.2.2.1.ag (ho.ag fun c k z => by omega)) (a3.2.2.2.2.2.1.ag (ho.ag fun c k z => by omega))⟩
        obtain ⟨s0, s1, s2, s3, s4, s5, s6, s7, s8⟩ := a3.s
        refine ⟨?_, ?_, ?_, ?_, ?_, fun j hj => ?_, fun j hj hg => ?_, fun j hj hg => ?_, fun j hj => ?_⟩
        · simp (disch := omega) only [ni_lit, nI_add, pk_mul, pk_sub, pk_div, nI_leI, nI_ltI, nI_eq, nI_clamp, ni_in, ni_inm, ni_ltm, ni_mlt, ni_lem, ni_mle, ni_eqm, ni_meq, ni_mm, ni_mmle, ni_bit, ni_shl, ni_clr, fa_or, Nat.add_zero, Nat.zero_add, Nat.zero_mul, Nat.mul_zero, eOn, eOs, if_true, if_false, not_true_eq_false, not_false_eq_true, ite_true, ite_false, true_and, and_true, false_and, and_false, or_true, true_or, or_false, false_or, Bool.false_eq_true, reduceIte, Bool.not_true, Bool.not_false, and_self, or_self, q_ef, q_et, q_ltt, q_ltf, q_let, q_lef, gIs, gIl, gIr, gLs, gLl, gLr, gPs, gPl, gPr, gLc, gPc, zb_some, Option.bind_some, q_nm, q_pm, q_hm, q_tm, q_sm, q_wm, q_ym, q_lm, q_ua]; exact s0
        · simp (disch := omega) only [ni_lit, nI_add, pk_mul, pk_sub, pk_div, nI_leI, nI_ltI, nI_eq, nI_clamp, ni_in, ni_inm, ni_ltm, ni_mlt, ni_lem, ni_mle, ni_eqm, ni_meq, ni_mm, ni_mmle, ni_bit, ni_shl, ni_clr, fa_or, Nat.add_zero, Nat.zero_add, Nat.zero_mul, Nat.mul_zero, eOn, eOs, if_true, if_false, not_true_eq_false, not_false_eq_true, ite_true, ite_false, true_and, and_true, false_and, and_false, or_true, true_or, or_false, false_or, Bool.false_eq_true, reduceIte, Bool.not_true, Bool.not_false, and_self, or_self, q_ef, q_et, q_ltt, q_ltf, q_let, q_lef, gIs, gIl, gIr, gLs, gLl, gLr, gPs, gPl, gPr, gLc, gPc, zb_some, Option.bind_some, q_nm, q_pm, q_hm, q_tm, q_sm, q_wm, q_ym, q_lm, q_ua]; exact s1
        · simp (disch := omega) only [ni_lit, nI_add, pk_mul, pk_sub, pk_div, nI_leI, nI_ltI, nI_eq, nI_clamp, ni_in, ni_inm, ni_ltm, ni_mlt, ni_lem, ni_mle, ni_eqm, ni_meq, ni_mm, ni_mmle, ni_bit, ni_shl, ni_clr, fa_or, Nat.add_zero, Nat.zero_add, Nat.zero_mul, Nat.mul_zero, eOn, eOs, if_true, if_false, not_true_eq_false, not_false_eq_true, ite_true, ite_false, true_and, and_true, false_and, and_false, or_true, true_or, or_false, false_or, Bool.false_eq_true, reduceIte, Bool.not_true, Bool.not_false, and_self, or_self, q_ef, q_et, q_ltt, q_ltf, q_let, q_lef, gIs, gIl, gIr, gLs, gLl, gLr, gPs, gPl, gPr, gLc, gPc, zb_some, Option.bind_some, q_nm, q_pm, q_hm, q_tm, q_sm, q_wm, q_ym, q_lm, q_ua]; rfl
        · simp (disch := omega) only [ni_lit, nI_add, pk_mul, pk_sub, pk_div, nI_leI, nI_ltI, nI_eq, nI_clamp, ni_in, ni_inm, ni_ltm, ni_mlt, ni_lem, ni_mle, ni_eqm, ni_meq, ni_mm, ni_mmle, ni_bit, ni_shl, ni_clr, fa_or, Nat.add_zero, Nat.zero_add, Nat.zero_mul, Nat.mul_zero, eOn, eOs, if_true, if_false, not_true_eq_false, not_false_eq_true, ite_true, ite_false, true_and, and_true, false_and, and_false, or_true, true_or, or_false, false_or, Bool.false_eq_true, reduceIte, Bool.not_true, Bool.not_false, and_self, or_self, q_ef, q_et, q_ltt, q_ltf, q_let, q_lef, gIs, gIl, gIr, gLs, gLl, gLr, gPs, gPl, gPr, gLc, gPc, zb_some, Option.bind_some, q_nm, q_pm, q_hm, q_tm, q_sm, q_wm, q_ym, q_lm, q_ua]; exact s3
        · simp (disch := omega) only [ni_lit, nI_add, pk_mul, pk_sub, pk_div, nI_leI, nI_ltI, nI_eq, nI_clamp, ni_in, ni_inm, ni_ltm, ni_mlt, ni_lem, ni_mle, ni_eqm, ni_meq, ni_mm, ni_mmle, ni_bit, ni_shl, ni_clr, fa_or, Nat.add_zero, Nat.zero_add, Nat.zero_mul, Nat.mul_zero, eOn, eOs, if_true, if_false, not_true_eq_false, not_false_eq_true, ite_true, ite_false, true_and, and_true, false_and, and_false, or_true, true_or, or_false, false_or, Bool.false_eq_true, reduceIte, Bool.not_true, Bool.not_false, and_self, or_self, q_ef, q_et, q_ltt, q_ltf, q_let, q_lef, gIs, gIl, gIr, gLs, gLl, gLr, gPs, gPl, gPr, gLc, gPc, zb_some, Option.bind_some, q_nm, q_pm, q_hm, q_tm, q_sm, q_wm, q_ym, q_lm, q_ua]; exact s4
        · simp (disch := omega) only [gIs, q_ef, q_et, q_ltt, q_ltf, q_let, q_lef, if_true, if_false, not_true_eq_false, not_false_eq_true, ite_true, ite_false, true_and, and_true, false_and, and_false, or_true, true_or, or_false, false_or, Bool.false_eq_true, reduceIte, Bool.not_true, Bool.not_false, and_self, or_self]; exact s5 j hj
        · simp (disch := omega) only [gIs, q_ef, q_et, q_ltt, q_ltf, q_let, q_lef, if_true, if_false, not_true_eq_false, not_false_eq_true, ite_true, ite_false, true_and, and_true, false_and, and_false, or_true, true_or, or_false, false_or, Bool.false_eq_true, reduceIte, Bool.not_true, Bool.not_false, and_self, or_self]; exact s6 j hj hg
        · simp (disch := omega) only [gIs, q_ef, q_et, q_ltt, q_ltf, q_let, q_lef, if_true, if_false, not_true_eq_false, not_false_eq_true, ite_true, ite_false, true_and, and_true, false_and, and_false, or_true, true_or, or_false, false_or, Bool.false_eq_true, reduceIte, Bool.not_true, Bool.not_false, and_self, or_self]; exact s7 j hj hg
        · simp (disch := omega) only [gIs, q_ef, q_et, q_ltt, q_ltf, q_let, q_lef, if_true, if_false, not_true_eq_false, not_false_eq_true, ite_true, ite_false, true_and, and_true, false_and, and_false, or_true, true_or, or_false, false_or, Bool.false_eq_true, reduceIte, Bool.not_true, Bool.not_false, and_self, or_self]; exact s8 j hj
      · have hW := h.W
        obtain ⟨b0, hM0⟩ := h.2.1
        have hB := hA.2.1.Bd hA.1
        have hBh := hB.1
        have e := e261 (d + 19) (nI k) y S hW
        have e2 := b261_57_eq (d + 19) (nI k) S hW
        obtain ⟨S1, a1, a2, a3⟩ := m_keep (d := d + 17) h hA (hA.mR k1)
        have g2 : gI S1 422 ((0 : Int32)).toNatClampNeg = nI (q_h (a_s A)) := a3.2.2.2.2.1.2.2.1
        have hsh : (1 : Int32) <<< (nI k &&& 31) = nI (2 ^ k) := ni_shl (by omega)
        rw [a1, Option.bind_some, if_pos (by decide), if_pos (by decide), g2, hsh, fb_xorI, show ((0 : Int32)).toNatClampNeg = 0 from rfl] at e2
        have a7 : fI (d + 19) 207 [.ref 396, .int (0 : Int32), .int (nI k)] S = _ := m207 (d := d + 17) (v := 0) hM0.1 (by omega) (h.st (hA.mR k1)) hB (by omega)
        have a8 : fI (d + 19) 208 [.ref 396, .int (0 : Int32), .int (nI k)] S = _ := m208 (d := d + 16) (v := 0) hM0.1 (by omega) (h.st (hA.mR k1)) hA.2.1 hA.1 (by omega)
        have a9 : fI (d + 19) 155 [.int y, .int 0, .int 1] S = some (bI (ixO 2 y), S) := by rw [m155g (d := d + 18) hW, ixO_d]; rfl
        have e3 : fI (d + 20) 261 [.ref 396, .int (nI k), .int y] S = b261_57 (d + 19) (nI k) S := by
          rw [e, m227 (d := d + 18) hM0, zb_some, c2.1, if_neg (by decide), a9, zb_some]
          rcases c3 with ⟨z1, z2⟩ | ⟨z1, z2⟩
          · subst z1
            rw [show ixO 2 (1 : Int32) = true by decide, if_neg (by decide), if_neg (fun z => z rfl), a8, zb_some, z2, if_pos (by decide)]
          · subst z1
            rw [show ixO 2 (0 : Int32) = true by decide, if_neg (by decide), if_pos (by decide), a7, zb_some, z2, if_pos (by decide)]
        have ho : onM (fun c k => c = 422 ∧ k = 0) S1 (sI S1 422 0 (nI (q_h (a_s A) ^^^ 2 ^ k))) := onM_sI (D := fun c k => c = 422 ∧ k = 0) (c := 422) (onM.refl a3.W) ⟨rfl, rfl⟩
        have hA1 : aOk (a_set A (a_s A) (a_kl A) (q_psh (a_ud A) (a_s A, a_kl A))) := hA.set (p_m_R hA (by omega)) hA.2.1 hA.2.2.1 hA.2.2.2.1 hA.psh
        refine ⟨_, e3.trans e2, (a2.mono fun c k z => by have := uD_ok z; omega).trans (ho.mono fun c k z => by omega), a3.set (hA.mR k1) ho (fun c k z => by omega) ?_ (a3.2.2.2.2.2.1.ag (ho.ag fun c k z w => by unfold kD at z; omega)) (a3.2.2.2.2.2.2.1.ag (fun u hu => ((hA1.2.2.2.2.1 u hu).1.Bd hA1.1).2.2.1) (ho.ag fun c k z w => ?_))⟩
        · obtain ⟨s0, s1, s2, s3, s4, s5, s6⟩ := a3.st (hA.mR k1)
          refine ⟨?_, ?_, ?_, ?_, fun j hj => ?_, fun j hj => ?_, fun j hj => ?_⟩
          · simp (disch := omega) only [gIs, q_ef, q_et, q_ltt, q_ltf, q_let, q_lef, if_true, if_false, not_true_eq_false, not_false_eq_true, ite_true, ite_false, true_and, and_true, false_and, and_false, or_true, true_or, or_false, false_or, Bool.false_eq_true, reduceIte, Bool.not_true, Bool.not_false, and_self, or_self]; exact s0
          · simp (disch := omega) only [gIs, q_ef, q_et, q_ltt, q_ltf, q_let, q_lef, if_true, if_false, not_true_eq_false, not_false_eq_true, ite_true, ite_false, true_and, and_true, false_and, and_false, or_true, true_or, or_false, false_or, Bool.false_eq_true, reduceIte, Bool.not_true, Bool.not_false, and_self, or_self]; exact s1
          · simp (disch := omega) only [gIs, q_ef, q_et, q_ltt, q_ltf, q_let, q_lef, if_true, if_false, not_true_eq_false, not_false_eq_true, ite_true, ite_false, true_and, and_true, false_and, and_false, or_true, true_or, or_false, false_or, Bool.false_eq_true, reduceIte, Bool.not_true, Bool.not_false, and_self, or_self]; rfl
          · simp (disch := omega) only [gIs, q_ef, q_et, q_ltt, q_ltf, q_let, q_lef, if_true, if_false, not_true_eq_false, not_false_eq_true, ite_true, ite_false, true_and, and_true, false_and, and_false, or_true, true_or, or_false, false_or, Bool.false_eq_true, reduceIte, Bool.not_true, Bool.not_false, and_self, or_self]; exact s3
          · simp (disch := omega) only [gIs, q_ef, q_et, q_ltt, q_ltf, q_let, q_lef, if_true, if_false, not_true_eq_false, not_false_eq_true, ite_true, ite_false, true_and, and_true, false_and, and_false, or_true, true_or, or_false, false_or, Bool.false_eq_true, reduceIte, Bool.not_true, Bool.not_false, and_self, or_self]; exact s4 j hj
          · simp (disch := omega) only [gIs, q_ef, q_et, q_ltt, q_ltf, q_let, q_lef, if_true, if_false, not_true_eq_false, not_false_eq_true, ite_true, ite_false, true_and, and_true, false_and, and_false, or_true, true_or, or_false, false_or, Bool.false_eq_true, reduceIte, Bool.not_true, Bool.not_false, and_self, or_self]; exact s5 j hj
          · simp (disch := omega) only [gIs, q_ef, q_et, q_ltt, q_ltf, q_let, q_lef, if_true, if_false, not_true_eq_false, not_false_eq_true, ite_true, ite_false, true_and, and_true, false_and, and_false, or_true, true_or, or_false, false_or, Bool.false_eq_true, reduceIte, Bool.not_true, Bool.not_false, and_self, or_self]; exact s6 j hj
        · rcases z with z | ⟨v, z1, z2⟩
          · omega
          · unfold vD kD at z2; omega
    · have c' : q_cs A x y = false := by simpa using c
      refine ⟨a_ref A 3, two_m (nI 0) (fun hA => hA.ref) (fun S h hA => ?_) (fun S h hA => ?_)⟩
      · have e := e136 (d + 19) x y S h.1
        have h0 := h.2.2.2.2.2.2.2.2.1 3 (by omega)
        rw [c137 (d := d + 17) h hA, zb_some, c', if_neg (by decide), if_pos (by decide), if_pos (by decide), show ((3 : Int32)).toNatClampNeg = 3 from rfl, h0, show (1 : Int32) = nI 1 from rfl, nI_add] at e
        exact ⟨_, e, onM_sI (D := fun c _ => c < 396) (c := 395) (onM.refl h.1) (by decide), h.ref⟩
      · have hW := h.W
        obtain ⟨b0, hM0⟩ := h.2.1
        have hB := hA.2.1.Bd hA.1
        have e := e261 (d + 19) x y S hW
        have e2 := b261_43_eq (d + 19) S hW
        have a1 : fI (d + 19) 194 [.ref 396, .int 3] S = _ := m194 (d := d + 18) (j := 3) hW h.2.2.2.2.2.2.2.2.2.1 (by omega)
        rw [a1, zb_some, if_pos (by decide)] at e2
        have a9 : fI (d + 19) 155 [.int y, .int 0, .int 1] S = some (bI (ixO 2 y), S) := by rw [m155g (d := d + 18) hW, ixO_d]; rfl
        have e3 : fI (d + 20) 261 [.ref 396, .int x, .int y] S = b261_43 (d + 19) S := by
          rw [e, m227 (d := d + 18) hM0, zb_some]
          by_cases cL : ixO (p_R (a_P A)) x = true
          · obtain ⟨k, k1, rfl⟩ := ixO_t cL (by omega)
            unfold q_cs at c'
            rw [cL, nI_toInt (by omega), show ((k : Int)).toNat = k from rfl, Bool.true_and, Bool.or_eq_false_iff] at c'
            have a7 : fI (d + 19) 207 [.ref 396, .int (0 : Int32), .int (nI k)] S = _ := m207 (d := d + 17) (v := 0) hM0.1 (by omega) (h.st (hA.mR k1)) hB (by omega)
            have a8 : fI (d + 19) 208 [.ref 396, .int (0 : Int32), .int (nI k)] S = _ := m208 (d := d + 16) (v := 0) hM0.1 (by omega) (h.st (hA.mR k1)) hA.2.1 hA.1 (by omega)
            rw [cL, if_neg (by decide), a9, zb_some]
            by_cases cy : ixO 2 y = true
            · rw [cy, if_neg (by decide)]
              by_cases y1 : y = 1
              · subst y1
                have := c'.1
                rw [decide_eq_true rfl, Bool.true_and] at this
                rw [if_neg (fun z => z rfl), a8, zb_some, this, if_neg (by decide)]
              · rw [if_pos y1, a7, zb_some]
                have y0 : y = 0 := by
                  obtain ⟨j, j1, rfl⟩ := ixO_t cy (by omega)
                  have : j = 0 ∨ j = 1 := by omega
                  rcases this with z | z
                  · rw [z]; rfl
                  · exact absurd (by rw [z]; rfl) y1
                subst y0
                have := c'.2
                rw [decide_eq_true rfl, Bool.true_and] at this
                rw [this, if_neg (by decide)]
            · have cy' : ixO 2 y = false := by simpa using cy
              rw [cy', if_pos (by decide)]
          · have cL' : ixO (p_R (a_P A)) x = false := by simpa using cL
            rw [cL', if_pos (by decide)]
        exact ⟨_, e3.trans e2, onM_sI (D := fun c _ => 396 ≤ c) (c := 419) (onM.refl hW) (by decide), h.ref hA⟩
  · exact ⟨A, fun S h => absurd h.2.2 hok⟩
theorem t_undo : ∃ A', twoI (d + 20) 143 200 [] A A' := by
  by_cases hok : aOk A
  · cases hu : a_ud A with
    | nil =>
      refine ⟨a_ref A 4, two_m (nI 0) (fun hA => hA.ref) (fun S h hA => ?_) (fun S h hA => ?_)⟩
      · have e := e143 (d + 19) S h.1
        have h0 := h.2.2.2.2.2.2.2.2.1 4 (by omega)
        have hc : gI S 39 0 = nI 0 := by rw [h.2.2.2.2.2.1.2.1, hu]; rfl
        rw [hc, if_neg (fun z => z rfl), if_pos (by decide), if_pos (by decide), show ((4 : Int32)).toNatClampNeg = 4 from rfl, h0, show (1 : Int32) = nI 1 from rfl, nI_add] at e
        exact ⟨_, e, onM_sI (D := fun c _ => c < 396) (c := 395) (onM.refl h.1) (by decide), h.ref⟩
      · have hW := h.W
        have e := e200 (d + 19) S hW
        have hc : gI S 396 54 = nI 0 := by rw [h.2.2.2.2.2.2.1.2.1, hu]; rfl
        have a1 : fI (d + 19) 194 [.ref 396, .int 4] S = _ := m194 (d := d + 18) (j := 4) hW h.2.2.2.2.2.2.2.2.2.1 (by omega)
        rw [hc, if_neg (fun z => z rfl), a1, zb_some, if_pos (by decide)] at e
        exact ⟨_, e, onM_sI (D := fun c _ => 396 ≤ c) (c := 419) (onM.refl hW) (by decide), h.ref hA⟩
    | cons u rest =>
      have hum : u ∈ a_ud A := by rw [hu]; exact List.mem_cons_self
      have hm0 : 0 < p_m (a_P A) := by
        rcases Nat.eq_zero_or_pos (p_m (a_P A)) with z | z
        · have := (hok.2.2.2.2.2.2.2.2.2 z).2.2.2.2.2.2.2.1
          rw [hu] at this
          cases this
        · exact z
      refine ⟨a_set A u.1 u.2 rest, two_m (nI 1) (fun hA => ?_) (fun S h hA => ?_) (fun S h hA => ?_)⟩
      · obtain ⟨z1, z2, z3⟩ := hA.2.2.2.2.1 u hum
        exact hA.set hm0 z1 z2 z3 (fun w hw => hA.2.2.2.2.1 w (by rw [hu]; exact List.mem_cons_of_mem _ hw))
      · have e := e143 (d + 19) S h.1
        obtain ⟨u1, u2, nx, u3, u4, u5⟩ := h.2.2.2.2.2.1
        rw [hu] at u1 u2 u5
        rw [List.length_cons] at u1 u2 u5
        have hBu := (hA.2.2.2.2.1 u hum).1.Bd hA.1
        have hrem : nI nx + (20 : Int32) - (1 : Int32) - (nI nx + (20 : Int32) - (1 : Int32)) / (20 : Int32) * (20 : Int32) = nI ((nx + 19) % 20) := by
          rw [show (20 : Int32) = nI 20 from rfl, nI_add, show (1 : Int32) = nI 1 from rfl, pk_sub (by omega)]
          exact pk_rem (a := nx + 20 - 1) (d := 20) (by omega) (by omega) (by omega)
        have e5 := e55 (d + 18) 27 37 S h.1 (by decide +kernel) (by decide +kernel)
        have hx : gI (sI S 39 1 (nI ((nx + 19) % 20))) 39 0 = nI (rest.length + 1) := by rw [gI_sI, if_pos rfl, if_neg (by decide)]; exact u2
        rw [u4, hrem, hx, show (1 : Int32) = nI 1 from rfl, pk_sub (by omega), Nat.add_sub_cancel] at e5
        have hx2 : gI (sI (sI S 39 1 (nI ((nx + 19) % 20))) 39 0 (nI rest.length)) 39 1 = nI ((nx + 19) % 20) := by rw [gI_sI, if_pos rfl, if_neg (by decide), gI_sI, if_pos rfl, if_pos rfl]
        have hmod : (nx + 19) % 20 < 20 := Nat.mod_lt _ (by decide)
        have o0 : onI (fun c _ => c = 39) S (sI (sI S 39 1 (nI ((nx + 19) % 20))) 39 0 (nI rest.length)) := onI_sI (D := fun c _ => c = 39) (c := 39) (onI_sI (D := fun c _ => c = 39) (c := 39) (onI.refl h.1) rfl) rfl
        have y0 : gI (sI (sI S 39 1 (nI ((nx + 19) % 20))) 39 0 (nI rest.length)) 39 0 = nI rest.length := by rw [gI_sI, if_pos rfl, if_pos rfl]
        rw [hx2, if_pos ((ni_in (by omega)).mpr hmod), nI_clamp (by omega)] at e5
        generalize sI (sI S 39 1 (nI ((nx + 19) % 20))) 39 0 (nI rest.length) = S0 at *
        obtain ⟨w1, w2⟩ := u5 0 (by omega)
        rw [show (nx + 19 - 0) % 20 = (nx + 19) % 20 from rfl] at w1 w2
        obtain ⟨S1, a1, a2, a3⟩ := c75 (d := d + 17) (p := 27) (p1 := 42 + 7 * ((nx + 19) % 20)) o0.W (by decide +kernel) (zAa_40 _ hmod).2 (by omega) (w1.ag (o0.ag fun c k z => by unfold pD at z; omega)) hBu
        have g1 : gI S1 39 1 = nI ((nx + 19) % 20) := by rw [a2.I (by unfold pD; omega)]; exact hx2
        rw [a1, Option.bind_some, g1, if_pos ((ni_in (by omega)).mpr hmod), nI_clamp (by omega)] at e5
        obtain ⟨S2, b1, b2, b3⟩ := c52 (d := d + 17) (p := 37) (p1 := 47 + 7 * ((nx + 19) % 20)) a2.W (by decide +kernel) (zAa_41 _ hmod).2 (by omega) ((w2.ag (o0.ag fun c k z => by omega)).ag (a2.ag fun c k z => by unfold pD; omega))
        rw [b1, Option.bind_some] at e5
        rw [u2, if_pos (show ¬ nI (rest.length + 1) = 0 from nI_ne0 (by omega) (by omega)), e5, Option.bind_some] at e
        have ho : onI (fun c _ => 27 ≤ c ∧ c ≤ 39) S S2 := ((o0.mono fun c k z => by omega).trans (a2.mono fun c k z => by unfold pD at z; omega)).trans (b2.mono fun c k z => by omega)
        refine ⟨S2, e, ho.M.mono fun c k z => by omega, h.set ho (fun c k z => by omega) (a3.ag (b2.ag fun c k z => by unfold pD at z; omega)) b3 ⟨by omega, ?_, (nx + 19) % 20, hmod, ?_, fun j hj => ?_⟩⟩
        · rw [b2.I (by omega), a2.I (by unfold pD; omega)]; exact y0
        · rw [b2.I (by omega)]; exact g1
        · obtain ⟨v1, v2⟩ := u5 (j + 1) (by omega)
          rw [show ((nx + 19) % 20 + 19 - j) % 20 = (nx + 19 - (j + 1)) % 20 by omega]
          have hlt : (nx + 19 - (j + 1)) % 20 < 20 := Nat.mod_lt _ (by decide)
          have hg : (u :: rest).getD (j + 1) q_ud0 = rest.getD j q_ud0 := rfl
          rw [hg] at v1 v2
          generalize (nx + 19 - (j + 1)) % 20 = t at *
          exact ⟨v1.ag (ho.ag fun c k z => by unfold pD at z; omega), v2.ag (ho.ag fun c k z => by omega)⟩
      · have hW := h.W
        have e := e200 (d + 19) S hW
        obtain ⟨u1, u2, uf, u3, u4, u5⟩ := h.2.2.2.2.2.2.1
        rw [hu] at u1 u2 u5
        rw [List.length_cons] at u1 u2 u5
        have hBu := (hA.2.2.2.2.1 u hum).1.Bd hA.1
        obtain ⟨w1, w2⟩ := u5 0 (by omega)
        have hi0 : rest.length + 1 - 1 - 0 = rest.length := by omega
        rw [hi0] at w1 w2
        have hmod : (uf + rest.length) % 20 < 20 := Nat.mod_lt _ (by decide)
        rw [u2, if_pos (show ¬ nI (rest.length + 1) = 0 from nI_ne0 (by omega) (by omega)), show (1 : Int32) = nI 1 from rfl, pk_sub (by omega), Nat.add_sub_cancel] at e
        have o0 : onM (fun c k => c = 396 ∧ k = 54) S (sI S 396 54 (nI rest.length)) := onM_sI (D := fun c k => c = 396 ∧ k = 54) (c := 396) (onM.refl hW) ⟨rfl, rfl⟩
        have y0 : gI (sI S 396 54 (nI rest.length)) 396 54 = nI rest.length := by rw [gI_sI, if_pos rfl, if_pos rfl]
        have y1 : gI (sI S 396 54 (nI rest.length)) 396 53 = nI uf := by rw [gI_sI, if_pos rfl, if_neg (by decide)]; exact u4
        rw [y0] at e
        generalize sI S 396 54 (nI rest.length) = S0 at *
        rw [m198 (d := d + 18) o0.W y1 u3 (by omega), zb_some] at e
        obtain ⟨S1, a1, a2, a3, a4⟩ := m196 (d := d + 18) (t := 0) (f := 2 + (uf + rest.length) % 20) o0.W (by omega) (by omega) (by omega) (w1.ag hBu.2.2.1 (o0.ag fun c k z => by unfold vD at z; omega)) (w2.ag (o0.ag fun c k z => by unfold kD at z; omega)) hBu.2.2.1
        have a1' : fV (d + 19) 196 [.ref 396, .int (0 : Int32), .int (nI (2 + (uf + rest.length) % 20))] S0 = some S1 := a1
        rw [a1', Option.bind_some] at e
        have ho : onM (fun c k => c = 396 ∧ k = 54 ∨ vD 0 c k ∨ kD 0 c k) S S1 := (o0.mono fun c k z => Or.inl z).trans (a2.mono fun c k z => Or.inr z)
        refine ⟨S1, e, ho.mono fun c k z => by unfold vD kD at z; omega, h.set hm0 ho (fun c k z => by unfold vD kD at z; omega) a3 a4 ⟨by omega, by rw [a2.I (by unfold vD kD; omega)]; exact y0, uf, u3, by rw [a2.I (by unfold vD kD; omega)]; exact y1, fun j hj => ?_⟩⟩
        obtain ⟨v1, v2⟩ := u5 (j + 1) (by omega)
        have hg : (u :: rest).getD (j + 1) q_ud0 = rest.getD j q_ud0 := rfl
        rw [hg, show rest.length + 1 - 1 - (j + 1) = rest.length - 1 - j by omega] at v1 v2
        have hmm : rest.getD j q_ud0 ∈ a_ud A := by
          rw [hu, List.getD_eq_getElem?_getD, List.getElem?_eq_getElem hj]
          exact List.mem_cons_of_mem _ (List.getElem_mem _)
        exact ⟨v1.ag ((hA.2.2.2.2.1 _ hmm).1.Bd hA.1).2.2.1 (ho.ag fun c k z w => by unfold vD kD at *; omega), v2.ag (ho.ag fun c k z w => by unfold vD kD at *; omega)⟩
  · exact ⟨A, fun S h => absurd h.2.2 hok⟩
end TK
