/-! THE REFERENCE: a whole night. -/
def tD (v : Nat) : Nat → Nat → Prop := fun c k => vD v c k ∨ c = 429 ∨ c = 430
theorem mSt.cong {S : z_S} {v : Nat} {s s' : q_St} (h : mSt S v s) (h1 : q_n s = q_n s') (h2 : q_p s = q_p s') (h3 : q_h s = q_h s') (h4 : q_s s = q_s s') (h5 : ∀ k, k < 16 → q_y s k = q_y s' k) (h6 : q_l s = q_l s') : mSt S v s' := by
  obtain ⟨g0, g1, g2, g3, g4, g5, g6⟩ := h
  refine ⟨by rw [← h1]; exact g0, by rw [← h2]; exact g1, by rw [← h3]; exact g2, by rw [← h6]; exact g3, fun r hr => by rw [← h4]; exact g4 r hr, fun k hk => by rw [← h5 k hk]; exact g5 k hk, fun i hi => ?_⟩
  rw [← h6] at hi ⊢
  exact g6 i hi
/-- those in the first j rooms have stayed a night more -/
def q_yr (s : q_St) (j : Nat) : Nat → Nat := fun k => if q_w s k < j then min 99 (q_y s k + 1) else q_y s k
theorem q_yr0 (s : q_St) (k : Nat) : q_yr s 0 k = q_y s k := by
  unfold q_yr
  rw [if_neg (by omega)]
section MF
variable {d b v : Nat} {S : z_S} {P : q_Pl} {s : q_St}
theorem m226_1 (hv : v < 22) (hG : q_Gd P s) : ∀ (m i : Nat) (S : z_S), i + m = p_R P → cM S b P → mSt S v s → ∃ S', b226_9 (d + 6) (nI v) (nI (q_paid P s i)) (nI i) S = b226_92 (d + 6) (nI v) (nI (q_paid P s (p_R P))) (nI 0) S' ∧ onM (tD v) S S' ∧ mSt S' v (q_setp s (min 999999 (q_p s + q_paid P s (p_R P))))
  | 0, i, S, hi, hM, hs => by
    obtain ⟨hW, hb, hbk, hC, hP⟩ := hM
    have hR := hP.1
    have hiR : i = p_R P := by omega
    subst hiR
    have hpl := q_paid_le P s (p_R P)
    have hpp := hG.2.2.2.2.2.2.2.2.2.2.2.2.2
    have hl6 := (hG.Bd hP).2.2.1
    have e := b226_9_eq (d + 6) (nI v) (nI (q_paid P s (p_R P))) (nI (p_R P)) S hW
    have fin : ∀ x : Nat, x = min 999999 (q_p s + q_paid P s (p_R P)) → onM (tD v) S (sI S 421 v (nI x)) ∧ mSt (sI S 421 v (nI x)) v (q_setp s (min 999999 (q_p s + q_paid P s (p_R P)))) := fun x hx => by
      refine ⟨onM_sI (D := tD v) (c := 421) (k := v) (onM.refl hW) (Or.inl (Or.inl ⟨Or.inr (Or.inl rfl), rfl⟩)), ?_⟩
      obtain ⟨g0, g1, g2, g3, g4, g5, g6⟩ := hs
      rw [← hx]
      refine ⟨?_, ?_, ?_, ?_, fun r hr => ?_, fun j hj => ?_, fun i hi => ?_⟩
      · simp (disch := omega) only [ni_lit, nI_add, pk_mul, pk_sub, pk_div, nI_leI, nI_ltI, nI_eq, nI_clamp, ni_in, ni_inm, ni_ltm, ni_mlt, ni_lem, ni_mle, ni_eqm, ni_meq, ni_mm, ni_mmle, ni_bit, ni_shl, ni_clr, fa_or, Nat.add_zero, Nat.zero_add, Nat.zero_mul, Nat.mul_zero, eOn, eOs, if_true, if_false, not_true_eq_false, not_false_eq_true, ite_true, ite_false, true_and, and_true, false_and, and_false, or_true, true_or, or_false, false_or, Bool.false_eq_true, reduceIte, Bool.not_true, Bool.not_false, and_self, or_self, q_ef, q_et, q_ltt, q_ltf, q_let, q_lef, gIs, gIl, gIr, gLs, gLl, gLr, gPs, gPl, gPr, gLc, gPc, zb_some, Option.bind_some, q_nm, q_pm, q_hm, q_tm, q_sm, q_wm, q_ym, q_lm, q_ua, g0]; rfl
      · simp (disch := omega) only [ni_lit, nI_add, pk_mul, pk_sub, pk_div, nI_leI, nI_ltI, nI_eq, nI_clamp, ni_in, ni_inm, ni_ltm, ni_mlt, ni_lem, ni_mle, ni_eqm, ni_meq, ni_mm, ni_mmle, ni_bit, ni_shl, ni_clr, fa_or, Nat.add_zero, Nat.zero_add, Nat.zero_mul, Nat.mul_zero, eOn, eOs, if_true, if_false, not_true_eq_false, not_false_eq_true, ite_true, ite_false, true_and, and_true, false_and, and_false, or_true, true_or, or_false, false_or, Bool.false_eq_true, reduceIte, Bool.not_true, Bool.not_false, and_self, or_self, q_ef, q_et, q_ltt, q_ltf, q_let, q_lef, gIs, gIl, gIr, gLs, gLl, gLr, gPs, gPl, gPr, gLc, gPc, zb_some, Option.bind_some, q_nm, q_pm, q_hm, q_tm, q_sm, q_wm, q_ym, q_lm, q_ua]; rfl
      · simp (disch := omega) only [ni_lit, nI_add, pk_mul, pk_sub, pk_div, nI_leI, nI_ltI, nI_eq, nI_clamp, ni_in, ni_inm, ni_ltm, ni_mlt, ni_lem, ni_mle, ni_eqm, ni_meq, ni_mm, ni_mmle, ni_bit, ni_shl, ni_clr, fa_or, Nat.add_zero, Nat.zero_add, Nat.zero_mul, Nat.mul_zero, eOn, eOs, if_true, if_false, not_true_eq_false, not_false_eq_true, ite_true, ite_false, true_and, and_true, false_and, and_false, or_true, true_or, or_false, false_or, Bool.false_eq_true, reduceIte, Bool.not_true, Bool.not_false, and_self, or_self, q_ef, q_et, q_ltt, q_ltf, q_let, q_lef, gIs, gIl, gIr, gLs, gLl, gLr, gPs, gPl, gPr, gLc, gPc, zb_some, Option.bind_some, q_nm, q_pm, q_hm, q_tm, q_sm, q_wm, q_ym, q_lm, q_ua, g2]; rfl
      · simp (disch := omega) only [ni_lit, nI_add, pk_mul, pk_sub, pk_div, nI_leI, nI_ltI, nI_eq, nI_clamp, ni_in, ni_inm, ni_ltm, ni_mlt, ni_lem, ni_mle, ni_eqm, ni_meq, ni_mm, ni_mmle, ni_bit, ni_shl, ni_clr, fa_or, Nat.add_zero, Nat.zero_add, Nat.zero_mul, Nat.mul_zero, eOn, eOs, if_true, if_false, not_true_eq_false, not_false_eq_true, ite_true, ite_false, true_and, and_true, false_and, and_false, or_true, true_or, or_false, false_or, Bool.false_eq_true, reduceIte, Bool.not_true, Bool.not_false, and_self, or_self, q_ef, q_et, q_ltt, q_ltf, q_let, q_lef, gIs, gIl, gIr, gLs, gLl, gLr, gPs, gPl, gPr, gLc, gPc, zb_some, Option.bind_some, q_nm, q_pm, q_hm, q_tm, q_sm, q_wm, q_ym, q_lm, q_ua, g3]; rfl
      · simp (disch := omega) only [ni_lit, nI_add, pk_mul, pk_sub, pk_div, nI_leI, nI_ltI, nI_eq, nI_clamp, ni_in, ni_inm, ni_ltm, ni_mlt, ni_lem, ni_mle, ni_eqm, ni_meq, ni_mm, ni_mmle, ni_bit, ni_shl, ni_clr, fa_or, Nat.add_zero, Nat.zero_add, Nat.zero_mul, Nat.mul_zero, eOn, eOs, if_true, if_false, not_true_eq_false, not_false_eq_true, ite_true, ite_false, true_and, and_true, false_and, and_false, or_true, true_or, or_false, false_or, Bool.false_eq_true, reduceIte, Bool.not_true, Bool.not_false, and_self, or_self, q_ef, q_et, q_ltt, q_ltf, q_let, q_lef, gIs, gIl, gIr, gLs, gLl, gLr, gPs, gPl, gPr, gLc, gPc, zb_some, Option.bind_some, q_nm, q_pm, q_hm, q_tm, q_sm, q_wm, q_ym, q_lm, q_ua, g4 r hr]; rfl
      · simp (disch := omega) only [ni_lit, nI_add, pk_mul, pk_sub, pk_div, nI_leI, nI_ltI, nI_eq, nI_clamp, ni_in, ni_inm, ni_ltm, ni_mlt, ni_lem, ni_mle, ni_eqm, ni_meq, ni_mm, ni_mmle, ni_bit, ni_shl, ni_clr, fa_or, Nat.add_zero, Nat.zero_add, Nat.zero_mul, Nat.mul_zero, eOn, eOs, if_true, if_false, not_true_eq_false, not_false_eq_true, ite_true, ite_false, true_and, and_true, false_and, and_false, or_true, true_or, or_false, false_or, Bool.false_eq_true, reduceIte, Bool.not_true, Bool.not_false, and_self, or_self, q_ef, q_et, q_ltt, q_ltf, q_let, q_lef, gIs, gIl, gIr, gLs, gLl, gLr, gPs, gPl, gPr, gLc, gPc, zb_some, Option.bind_some, q_nm, q_pm, q_hm, q_tm, q_sm, q_wm, q_ym, q_lm, q_ua, g5 j hj]; rfl
      · have hi2 : i < (q_l s).length := hi
        simp (disch := omega) only [ni_lit, nI_add, pk_mul, pk_sub, pk_div, nI_leI, nI_ltI, nI_eq, nI_clamp, ni_in, ni_inm, ni_ltm, ni_mlt, ni_lem, ni_mle, ni_eqm, ni_meq, ni_mm, ni_mmle, ni_bit, ni_shl, ni_clr, fa_or, Nat.add_zero, Nat.zero_add, Nat.zero_mul, Nat.mul_zero, eOn, eOs, if_true, if_false, not_true_eq_false, not_false_eq_true, ite_true, ite_false, true_and, and_true, false_and, and_false, or_true, true_or, or_false, false_or, Bool.false_eq_true, reduceIte, Bool.not_true, Bool.not_false, and_self, or_self, q_ef, q_et, q_ltt, q_ltf, q_let, q_lef, gIs, gIl, gIr, gLs, gLl, gLr, gPs, gPl, gPr, gLc, gPc, zb_some, Option.bind_some, q_nm, q_pm, q_hm, q_tm, q_sm, q_wm, q_ym, q_lm, q_ua, g6 i hi2]; rfl
    by_cases c : q_p s + q_paid P s (p_R P) ≤ 999999
    · simp (disch := omega) only [ni_lit, nI_add, pk_mul, pk_sub, pk_div, nI_leI, nI_ltI, nI_eq, nI_clamp, ni_in, ni_inm, ni_ltm, ni_mlt, ni_lem, ni_mle, ni_eqm, ni_meq, ni_mm, ni_mmle, ni_bit, ni_shl, ni_clr, fa_or, Nat.add_zero, Nat.zero_add, Nat.zero_mul, Nat.mul_zero, eOn, eOs, if_true, if_false, not_true_eq_false, not_false_eq_true, ite_true, ite_false, true_and, and_true, false_and, and_false, or_true, true_or, or_false, false_or, Bool.false_eq_true, reduceIte, Bool.not_true, Bool.not_false, and_self, or_self, q_ef, q_et, q_ltt, q_ltf, q_let, q_lef, gIs, gIl, gIr, gLs, gLl, gLr, gPs, gPl, gPr, gLc, gPc, zb_some, Option.bind_some, q_nm, q_pm, q_hm, q_tm, q_sm, q_wm, q_ym, q_lm, q_ua, hbk, hC.1, hs.2.1, b226_89_eq (d + 6) _ _ _ _ S hW] at e
      obtain ⟨f1, f2⟩ := fin (q_p s + q_paid P s (p_R P)) (by omega)
      exact ⟨_, e, f1, f2⟩
    · simp (disch := omega) only [ni_lit, nI_add, pk_mul, pk_sub, pk_div, nI_leI, nI_ltI, nI_eq, nI_clamp, ni_in, ni_inm, ni_ltm, ni_mlt, ni_lem, ni_mle, ni_eqm, ni_meq, ni_mm, ni_mmle, ni_bit, ni_shl, ni_clr, fa_or, Nat.add_zero, Nat.zero_add, Nat.zero_mul, Nat.mul_zero, eOn, eOs, if_true, if_false, not_true_eq_false, not_false_eq_true, ite_true, ite_false, true_and, and_true, false_and, and_false, or_true, true_or, or_false, false_or, Bool.false_eq_true, reduceIte, Bool.not_true, Bool.not_false, and_self, or_self, q_ef, q_et, q_ltt, q_ltf, q_let, q_lef, gIs, gIl, gIr, gLs, gLl, gLr, gPs, gPl, gPr, gLc, gPc, zb_some, Option.bind_some, q_nm, q_pm, q_hm, q_tm, q_sm, q_wm, q_ym, q_lm, q_ua, hbk, hC.1, hs.2.1, b226_89_eq (d + 6) _ _ _ _ S hW] at e
      obtain ⟨f1, f2⟩ := fin 999999 (by omega)
      exact ⟨_, e, f1, f2⟩
  | m + 1, i, S, hi, hM, hs => by
    have hM' := hM
    obtain ⟨hW, hb, hbk, hC, hP⟩ := hM
    have hR := hP.1
    have e := b226_9_eq (d + 6) (nI v) (nI (q_paid P s i)) (nI i) S hW
    have s5 := hs.2.2.2.2.1 i (by omega)
    have hsm : q_paid P s (i + 1) = q_paid P s i + q_pay P s i := fb_sm_succ _ _
    have hpl := q_paid_le P s (i + 1)
    have hl6 := (hG.Bd hP).2.2.1
    cases hk : q_s s i with
    | none =>
      have hz : q_pay P s i = 0 := by unfold q_pay; rw [hk]
      rw [hk] at s5
      have hneg : ((-nI 1 : Int32) = -nI 1) = True := eq_true rfl
      simp (disch := omega) only [ni_lit, nI_add, pk_mul, pk_sub, pk_div, nI_leI, nI_ltI, nI_eq, nI_clamp, ni_in, ni_inm, ni_ltm, ni_mlt, ni_lem, ni_mle, ni_eqm, ni_meq, ni_mm, ni_mmle, ni_bit, ni_shl, ni_clr, fa_or, Nat.add_zero, Nat.zero_add, Nat.zero_mul, Nat.mul_zero, eOn, eOs, if_true, if_false, not_true_eq_false, not_false_eq_true, ite_true, ite_false, true_and, and_true, false_and, and_false, or_true, true_or, or_false, false_or, Bool.false_eq_true, reduceIte, Bool.not_true, Bool.not_false, and_self, or_self, q_ef, q_et, q_ltt, q_ltf, q_let, q_lef, gIs, gIl, gIr, gLs, gLl, gLr, gPs, gPl, gPr, gLc, gPc, zb_some, Option.bind_some, q_nm, q_pm, q_hm, q_tm, q_sm, q_wm, q_ym, q_lm, q_ua, hbk, hC.1, s5, hneg, b226_48_eq (d + 6) _ _ _ _ S hW] at e
      rw [hz, Nat.add_zero] at hsm
      obtain ⟨S', j1, j2, j3⟩ := m226_1 hv hG m (i + 1) S (by omega) hM' hs
      rw [hsm] at j1
      exact ⟨S', e.trans j1, j2, j3⟩
    | some k =>
      have hz : q_pay P s i = q_rent P s i k := by unfold q_pay; rw [hk]
      have hk16 := (hG.Bd hP).2.2.2.2.2.1 i k hk
      rw [hk] at s5
      obtain ⟨S1, a1, a2⟩ := m224 (d := d) hM' hv hs hG hk
      simp (disch := omega) only [ni_lit, nI_add, pk_mul, pk_sub, pk_div, nI_leI, nI_ltI, nI_eq, nI_clamp, ni_in, ni_inm, ni_ltm, ni_mlt, ni_lem, ni_mle, ni_eqm, ni_meq, ni_mm, ni_mmle, ni_bit, ni_shl, ni_clr, fa_or, Nat.add_zero, Nat.zero_add, Nat.zero_mul, Nat.mul_zero, eOn, eOs, if_true, if_false, not_true_eq_false, not_false_eq_true, ite_true, ite_false, true_and, and_true, false_and, and_false, or_true, true_or, or_false, false_or, Bool.false_eq_true, reduceIte, Bool.not_true, Bool.not_false, and_self, or_self, q_ef, q_et, q_ltt, q_ltf, q_let, q_lef, gIs, gIl, gIr, gLs, gLl, gLr, gPs, gPl, gPr, gLc, gPc, zb_some, Option.bind_some, q_nm, q_pm, q_hm, q_tm, q_sm, q_wm, q_ym, q_lm, q_ua, hbk, hC.1, s5, a1, b226_48_eq (d + 6) _ _ _ _ S1 a2.W] at e
      rw [hz] at hsm
      obtain ⟨S', j1, j2, j3⟩ := m226_1 hv hG m (i + 1) S1 (by omega) (hM'.on a2 (fun c k a b => by omega)) (hs.on hl6 a2 (fun c k z1 z2 => by unfold vD at z1; omega))
      rw [hsm] at j1
      exact ⟨S', e.trans j1, (a2.mono fun c k z => Or.inr z).trans j2, j3⟩
theorem m226_2 {x : Int32} (hv : v < 22) (hG : q_Gd P s) : ∀ (m i : Nat) (S : z_S), i + m = p_R P → cM S b P → mSt S v (q_sety s (q_yr s i)) → ∃ S', b226_92 d (nI v) x (nI i) S = b226_165 d (nI v) x (nI 0) S' ∧ onM (tD v) S S' ∧ mSt S' v (q_sety s (q_yr s (p_R P)))
  | 0, i, S, hi, hM, hs => by
    obtain ⟨hW, hb, hbk, hC, hP⟩ := hM
    have hR := hP.1
    have hiR : i = p_R P := by omega
    subst hiR
    have e := b226_92_eq d (nI v) x (nI (p_R P)) S hW
    simp (disch := omega) only [ni_lit, nI_add, pk_mul, pk_sub, pk_div, nI_leI, nI_ltI, nI_eq, nI_clamp, ni_in, ni_inm, ni_ltm, ni_mlt, ni_lem, ni_mle, ni_eqm, ni_meq, ni_mm, ni_mmle, ni_bit, ni_shl, ni_clr, fa_or, Nat.add_zero, Nat.zero_add, Nat.zero_mul, Nat.mul_zero, eOn, eOs, if_true, if_false, not_true_eq_false, not_false_eq_true, ite_true, ite_false, true_and, and_true, false_and, and_false, or_true, true_or, or_false, false_or, Bool.false_eq_true, reduceIte, Bool.not_true, Bool.not_false, and_self, or_self, q_ef, q_et, q_ltt, q_ltf, q_let, q_lef, gIs, gIl, gIr, gLs, gLl, gLr, gPs, gPl, gPr, gLc, gPc, zb_some, Option.bind_some, q_nm, q_pm, q_hm, q_tm, q_sm, q_wm, q_ym, q_lm, q_ua, hbk, hC.1] at e
    exact ⟨S, e, onM.refl hW, hs⟩
  | m + 1, i, S, hi, hM, hs => by
    have hM' := hM
    obtain ⟨hW, hb, hbk, hC, hP⟩ := hM
    have hR := hP.1
    have hB := hG.Bd hP
    have hl6 := hB.2.2.1
    have e := b226_92_eq d (nI v) x (nI i) S hW
    have s5 := hs.2.2.2.2.1 i (by omega)
    have s5' : gI S 423 (16 * v + i) = eO (q_s s i) := s5
    cases hk : q_s s i with
    | none =>
      rw [hk] at s5'
      have hneg : ((-nI 1 : Int32) = -nI 1) = True := eq_true rfl
      simp (disch := omega) only [ni_lit, nI_add, pk_mul, pk_sub, pk_div, nI_leI, nI_ltI, nI_eq, nI_clamp, ni_in, ni_inm, ni_ltm, ni_mlt, ni_lem, ni_mle, ni_eqm, ni_meq, ni_mm, ni_mmle, ni_bit, ni_shl, ni_clr, fa_or, Nat.add_zero, Nat.zero_add, Nat.zero_mul, Nat.mul_zero, eOn, eOs, if_true, if_false, not_true_eq_false, not_false_eq_true, ite_true, ite_false, true_and, and_true, false_and, and_false, or_true, true_or, or_false, false_or, Bool.false_eq_true, reduceIte, Bool.not_true, Bool.not_false, and_self, or_self, q_ef, q_et, q_ltt, q_ltf, q_let, q_lef, gIs, gIl, gIr, gLs, gLl, gLr, gPs, gPl, gPr, gLc, gPc, zb_some, Option.bind_some, q_nm, q_pm, q_hm, q_tm, q_sm, q_wm, q_ym, q_lm, q_ua, hbk, hC.1, s5', hneg, b226_157_eq d _ _ _ S hW] at e
      have hs2 : mSt S v (q_sety s (q_yr s (i + 1))) := hs.cong rfl rfl rfl rfl (fun k hk2 => by
        show q_yr s i k = q_yr s (i + 1) k
        unfold q_yr
        have hne : q_w s k ≠ i := fun z => by
          have := hG.2.2.2.2.1 k (by omega)
          rw [z, hk] at this
          cases this
        by_cases z : q_w s k < i
        · rw [if_pos z, if_pos (by omega)]
        · rw [if_neg z, if_neg (by omega)]) rfl
      obtain ⟨S', j1, j2, j3⟩ := m226_2 (x := x) hv hG m (i + 1) S (by omega) hM' hs2
      exact ⟨S', e.trans j1, j2, j3⟩
    | some k =>
      have hk16 := hB.2.2.2.2.2.1 i k hk
      have hwk := (hG.sl hP hk).2.2.1
      rw [hk] at s5'
      have y5 := hs.2.2.2.2.2.1 k hk16
      have y5' : gI S 424 (16 * v + k) = nI (q_y s k) := by rw [y5]; show nI (q_yr s i k) = _; unfold q_yr; rw [if_neg (by omega)]
      have y99 := hB.2.2.2.2.2.2.2.1 k
      have upd : ∀ j, q_yr s (i + 1) j = if j = k then min 99 (q_y s k + 1) else q_yr s i j := fun j => by
        unfold q_yr
        by_cases z : j = k
        · rw [if_pos z, z, if_pos (by omega)]
        · rw [if_neg z]
          have hne : q_w s j ≠ i := fun z2 => by
            have := hG.2.2.2.2.1 j (by omega)
            rw [z2, hk] at this
            cases this
            exact z rfl
          by_cases z3 : q_w s j < i
          · rw [if_pos z3, if_pos (by omega)]
          · rw [if_neg z3, if_neg (by omega)]
      by_cases c : 99 ≤ q_y s k
      · simp (disch := omega) only [ni_lit, nI_add, pk_mul, pk_sub, pk_div, nI_leI, nI_ltI, nI_eq, nI_clamp, ni_in, ni_inm, ni_ltm, ni_mlt, ni_lem, ni_mle, ni_eqm, ni_meq, ni_mm, ni_mmle, ni_bit, ni_shl, ni_clr, fa_or, Nat.add_zero, Nat.zero_add, Nat.zero_mul, Nat.mul_zero, eOn, eOs, if_true, if_false, not_true_eq_false, not_false_eq_true, ite_true, ite_false, true_and, and_true, false_and, and_false, or_true, true_or, or_false, false_or, Bool.false_eq_true, reduceIte, Bool.not_true, Bool.not_false, and_self, or_self, q_ef, q_et, q_ltt, q_ltf, q_let, q_lef, gIs, gIl, gIr, gLs, gLl, gLr, gPs, gPl, gPr, gLc, gPc, zb_some, Option.bind_some, q_nm, q_pm, q_hm, q_tm, q_sm, q_wm, q_ym, q_lm, q_ua, hbk, hC.1, s5', y5', b226_157_eq d _ _ _ S hW] at e
        have hs2 : mSt S v (q_sety s (q_yr s (i + 1))) := hs.cong rfl rfl rfl rfl (fun j _ => by
          show q_yr s i j = q_yr s (i + 1) j
          rw [upd j]
          by_cases z : j = k
          · rw [if_pos z, z]; unfold q_yr; rw [if_neg (by omega)]; omega
          · rw [if_neg z]) rfl
        obtain ⟨S', j1, j2, j3⟩ := m226_2 (x := x) hv hG m (i + 1) S (by omega) hM' hs2
        exact ⟨S', e.trans j1, j2, j3⟩
      · have hW2 : z_W (sI S 424 (16 * v + k) (nI (q_y s k + 1))) := hW
        simp (disch := omega) only [ni_lit, nI_add, pk_mul, pk_sub, pk_div, nI_leI, nI_ltI, nI_eq, nI_clamp, ni_in, ni_inm, ni_ltm, ni_mlt, ni_lem, ni_mle, ni_eqm, ni_meq, ni_mm, ni_mmle, ni_bit, ni_shl, ni_clr, fa_or, Nat.add_zero, Nat.zero_add, Nat.zero_mul, Nat.mul_zero, eOn, eOs, if_true, if_false, not_true_eq_false, not_false_eq_true, ite_true, ite_false, true_and, and_true, false_and, and_false, or_true, true_or, or_false, false_or, Bool.false_eq_true, reduceIte, Bool.not_true, Bool.not_false, and_self, or_self, q_ef, q_et, q_ltt, q_ltf, q_let, q_lef, gIs, gIl, gIr, gLs, gLl, gLr, gPs, gPl, gPr, gLc, gPc, zb_some, Option.bind_some, q_nm, q_pm, q_hm, q_tm, q_sm, q_wm, q_ym, q_lm, q_ua, hbk, hC.1, s5', y5', b226_157_eq d _ _ _ _ hW2] at e
        have ho : onM (tD v) S (sI S 424 (16 * v + k) (nI (q_y s k + 1))) := onM_sI (D := tD v) (c := 424) (k := 16 * v + k) (onM.refl hW) (Or.inl (Or.inr (Or.inl ⟨Or.inr rfl, by omega, by omega⟩)))
        have hs2 : mSt (sI S 424 (16 * v + k) (nI (q_y s k + 1))) v (q_sety s (q_yr s (i + 1))) := by
          obtain ⟨g0, g1, g2, g3, g4, g5, g6⟩ := hs
          refine ⟨?_, ?_, ?_, ?_, fun r hr => ?_, fun j hj => ?_, fun i hi => ?_⟩
          · simp (disch := omega) only [ni_lit, nI_add, pk_mul, pk_sub, pk_div, nI_leI, nI_ltI, nI_eq, nI_clamp, ni_in, ni_inm, ni_ltm, ni_mlt, ni_lem, ni_mle, ni_eqm, ni_meq, ni_mm, ni_mmle, ni_bit, ni_shl, ni_clr, fa_or, Nat.add_zero, Nat.zero_add, Nat.zero_mul, Nat.mul_zero, eOn, eOs, if_true, if_false, not_true_eq_false, not_false_eq_true, ite_true, ite_false, true_and, and_true, false_and, and_false, or_true, true_or, or_false, false_or, Bool.false_eq_true, reduceIte, Bool.not_true, Bool.not_false, and_self, or_self, q_ef, q_et, q_ltt, q_ltf, q_let, q_lef, gIs, gIl, gIr, gLs, gLl, gLr, gPs, gPl, gPr, gLc, gPc, zb_some, Option.bind_some, q_nm, q_pm, q_hm, q_tm, q_sm, q_wm, q_ym, q_lm, q_ua, g0]; rfl
          · simp (disch := omega) only [ni_lit, nI_add, pk_mul, pk_sub, pk_div, nI_leI, nI_ltI, nI_eq, nI_clamp, ni_in, ni_inm, ni_ltm, ni_mlt, ni_lem, ni_mle, ni_eqm, ni_meq, ni_mm, ni_mmle, ni_bit, ni_shl, ni_clr, fa_or, Nat.add_zero, Nat.zero_add, Nat.zero_mul, Nat.mul_zero, eOn, eOs, if_true, if_false, not_true_eq_false, not_false_eq_true, ite_true, ite_false, true_and, and_true, false_and, and_false, or_true, true_or, or_false, false_or, Bool.false_eq_true, reduceIte, Bool.not_true, Bool.not_false, and_self, or_self, q_ef, q_et, q_ltt, q_ltf, q_let, q_lef, gIs, gIl, gIr, gLs, gLl, gLr, gPs, gPl, gPr, gLc, gPc, zb_some, Option.bind_some, q_nm, q_pm, q_hm, q_tm, q_sm, q_wm, q_ym, q_lm, q_ua, g1]; rfl
          · simp (disch := omega) only [ni_lit, nI_add, pk_mul, pk_sub, pk_div, nI_leI, nI_ltI, nI_eq, nI_clamp, ni_in, ni_inm, ni_ltm, ni_mlt, ni_lem, ni_mle, ni_eqm, ni_meq, ni_mm, ni_mmle, ni_bit, ni_shl, ni_clr, fa_or, Nat.add_zero, Nat.zero_add, Nat.zero_mul, Nat.mul_zero, eOn, eOs, if_true, if_false, not_true_eq_false, not_false_eq_true, ite_true, ite_false, true_and, and_true, false_and, and_false, or_true, true_or, or_false, false_or, Bool.false_eq_true, reduceIte, Bool.not_true, Bool.not_false, and_self, or_self, q_ef, q_et, q_ltt, q_ltf, q_let, q_lef, gIs, gIl, gIr, gLs, gLl, gLr, gPs, gPl, gPr, gLc, gPc, zb_some, Option.bind_some, q_nm, q_pm, q_hm, q_tm, q_sm, q_wm, q_ym, q_lm, q_ua, g2]; rfl
          · simp (disch := omega) only [ni_lit, nI_add, pk_mul, pk_sub, pk_div, nI_leI, nI_ltI, nI_eq, nI_clamp, ni_in, ni_inm, ni_ltm, ni_mlt, ni_lem, ni_mle, ni_eqm, ni_meq, ni_mm, ni_mmle, ni_bit, ni_shl, ni_clr, fa_or, Nat.add_zero, Nat.zero_add, Nat.zero_mul, Nat.mul_zero, eOn, eOs, if_true, if_false, not_true_eq_false, not_false_eq_true, ite_true, ite_false, true_and, and_true, false_and, and_false, or_true, true_or, or_false, false_or, Bool.false_eq_true, reduceIte, Bool.not_true, Bool.not_false, and_self, or_self, q_ef, q_et, q_ltt, q_ltf, q_let, q_lef, gIs, gIl, gIr, gLs, gLl, gLr, gPs, gPl, gPr, gLc, gPc, zb_some, Option.bind_some, q_nm, q_pm, q_hm, q_tm, q_sm, q_wm, q_ym, q_lm, q_ua, g3]; rfl
          · simp (disch := omega) only [ni_lit, nI_add, pk_mul, pk_sub, pk_div, nI_leI, nI_ltI, nI_eq, nI_clamp, ni_in, ni_inm, ni_ltm, ni_mlt, ni_lem, ni_mle, ni_eqm, ni_meq, ni_mm, ni_mmle, ni_bit, ni_shl, ni_clr, fa_or, Nat.add_zero, Nat.zero_add, Nat.zero_mul, Nat.mul_zero, eOn, eOs, if_true, if_false, not_true_eq_false, not_false_eq_true, ite_true, ite_false, true_and, and_true, false_and, and_false, or_true, true_or, or_false, false_or, Bool.false_eq_true, reduceIte, Bool.not_true, Bool.not_false, and_self, or_self, q_ef, q_et, q_ltt, q_ltf, q_let, q_lef, gIs, gIl, gIr, gLs, gLl, gLr, gPs, gPl, gPr, gLc, gPc, zb_some, Option.bind_some, q_nm, q_pm, q_hm, q_tm, q_sm, q_wm, q_ym, q_lm, q_ua, g4 r hr]; rfl
          · show _ = nI (q_yr s (i + 1) j)
            rw [upd j]
            by_cases z : j = k
            · have hmin : min 99 (q_y s k + 1) = q_y s k + 1 := Nat.min_eq_right (by omega)
              simp (disch := omega) only [ni_lit, nI_add, pk_mul, pk_sub, pk_div, nI_leI, nI_ltI, nI_eq, nI_clamp, ni_in, ni_inm, ni_ltm, ni_mlt, ni_lem, ni_mle, ni_eqm, ni_meq, ni_mm, ni_mmle, ni_bit, ni_shl, ni_clr, fa_or, Nat.add_zero, Nat.zero_add, Nat.zero_mul, Nat.mul_zero, eOn, eOs, if_true, if_false, not_true_eq_false, not_false_eq_true, ite_true, ite_false, true_and, and_true, false_and, and_false, or_true, true_or, or_false, false_or, Bool.false_eq_true, reduceIte, Bool.not_true, Bool.not_false, and_self, or_self, q_ef, q_et, q_ltt, q_ltf, q_let, q_lef, gIs, gIl, gIr, gLs, gLl, gLr, gPs, gPl, gPr, gLc, gPc, zb_some, Option.bind_some, q_nm, q_pm, q_hm, q_tm, q_sm, q_wm, q_ym, q_lm, q_ua, hmin]
            · simp (disch := omega) only [ni_lit, nI_add, pk_mul, pk_sub, pk_div, nI_leI, nI_ltI, nI_eq, nI_clamp, ni_in, ni_inm, ni_ltm, ni_mlt, ni_lem, ni_mle, ni_eqm, ni_meq, ni_mm, ni_mmle, ni_bit, ni_shl, ni_clr, fa_or, Nat.add_zero, Nat.zero_add, Nat.zero_mul, Nat.mul_zero, eOn, eOs, if_true, if_false, not_true_eq_false, not_false_eq_true, ite_true, ite_false, true_and, and_true, false_and, and_false, or_true, true_or, or_false, false_or, Bool.false_eq_true, reduceIte, Bool.not_true, Bool.not_false, and_self, or_self, q_ef, q_et, q_ltt, q_ltf, q_let, q_lef, gIs, gIl, gIr, gLs, gLl, gLr, gPs, gPl, gPr, gLc, gPc, zb_some, Option.bind_some, q_nm, q_pm, q_hm, q_tm, q_sm, q_wm, q_ym, q_lm, q_ua, g5 j hj]; rfl
          · have hi2 : i < (q_l s).length := hi
            simp (disch := omega) only [ni_lit, nI_add, pk_mul, pk_sub, pk_div, nI_leI, nI_ltI, nI_eq, nI_clamp, ni_in, ni_inm, ni_ltm, ni_mlt, ni_lem, ni_mle, ni_eqm, ni_meq, ni_mm, ni_mmle, ni_bit, ni_shl, ni_clr, fa_or, Nat.add_zero, Nat.zero_add, Nat.zero_mul, Nat.mul_zero, eOn, eOs, if_true, if_false, not_true_eq_false, not_false_eq_true, ite_true, ite_false, true_and, and_true, false_and, and_false, or_true, true_or, or_false, false_or, Bool.false_eq_true, reduceIte, Bool.not_true, Bool.not_false, and_self, or_self, q_ef, q_et, q_ltt, q_ltf, q_let, q_lef, gIs, gIl, gIr, gLs, gLl, gLr, gPs, gPl, gPr, gLc, gPc, zb_some, Option.bind_some, q_nm, q_pm, q_hm, q_tm, q_sm, q_wm, q_ym, q_lm, q_ua, g6 i hi]; rfl
        obtain ⟨S', j1, j2, j3⟩ := m226_2 (x := x) hv hG m (i + 1) _ (by omega) (hM'.on ho (fun c k a b => by unfold tD vD at b; omega)) hs2
        exact ⟨S', e.trans j1, ho.trans j2, j3⟩
/-- who leaves, told for both: with a formula and without -/
def q_lw (P : q_Pl) (s : q_St) (j : Nat) : q_St := if (p_d P 1).isEmpty then s else q_lv P s j
theorem q_lw_G (hP : p_Wf P) (h : q_Gd P s) (j : Nat) : q_Gd P (q_lw P s j) := by
  unfold q_lw
  split
  · exact h
  · exact q_lv_G hP h j
theorem m226_3 {x : Int32} (hv : v < 22) (hG : q_Gd P s) : ∀ (m i : Nat) (S : z_S), i + m = p_L P → cM S b P → mSt S v (q_lw P s i) → ∃ S', b226_165 (d + 6) (nI v) x (nI i) S = some (x, S') ∧ onM (tD v) S S' ∧ mSt S' v (q_setn (q_lw P s (p_L P)) (q_n s + 1))
  | 0, i, S, hi, hM, hs => by
    obtain ⟨hW, hb, hbk, hC, hP⟩ := hM
    have hL := hP.2.2.2.2.1
    have hiR : i = p_L P := by omega
    subst hiR
    have hn := hG.2.2.2.2.2.2.2.2.2.2.2.2.1
    have hl6 := ((q_lw_G hP hG (p_L P)).Bd hP).2.2.1
    have hnn : q_n (q_lw P s (p_L P)) = q_n s := by
      unfold q_lw
      split
      · rfl
      · exact (q_lv_n P s _).1
    have e := b226_165_eq (d + 6) (nI v) x (nI (p_L P)) S hW
    obtain ⟨g0, g1, g2, g3, g4, g5, g6⟩ := hs
    rw [hnn] at g0
    simp (disch := omega) only [ni_lit, nI_add, pk_mul, pk_sub, pk_div, nI_leI, nI_ltI, nI_eq, nI_clamp, ni_in, ni_inm, ni_ltm, ni_mlt, ni_lem, ni_mle, ni_eqm, ni_meq, ni_mm, ni_mmle, ni_bit, ni_shl, ni_clr, fa_or, Nat.add_zero, Nat.zero_add, Nat.zero_mul, Nat.mul_zero, eOn, eOs, if_true, if_false, not_true_eq_false, not_false_eq_true, ite_true, ite_false, true_and, and_true, false_and, and_false, or_true, true_or, or_false, false_or, Bool.false_eq_true, reduceIte, Bool.not_true, Bool.not_false, and_self, or_self, q_ef, q_et, q_ltt, q_ltf, q_let, q_lef, gIs, gIl, gIr, gLs, gLl, gLr, gPs, gPl, gPr, gLc, gPc, zb_some, Option.bind_some, q_nm, q_pm, q_hm, q_tm, q_sm, q_wm, q_ym, q_lm, q_ua, hbk, hC.2.2.2.2.1, g0] at e
    refine ⟨_, e, onM_sI (D := tD v) (c := 420) (k := v) (onM.refl hW) (Or.inl (Or.inl ⟨Or.inl rfl, rfl⟩)), ?_⟩
    refine ⟨?_, ?_, ?_, ?_, fun r hr => ?_, fun j hj => ?_, fun i hi => ?_⟩
    · simp (disch := omega) only [ni_lit, nI_add, pk_mul, pk_sub, pk_div, nI_leI, nI_ltI, nI_eq, nI_clamp, ni_in, ni_inm, ni_ltm, ni_mlt, ni_lem, ni_mle, ni_eqm, ni_meq, ni_mm, ni_mmle, ni_bit, ni_shl, ni_clr, fa_or, Nat.add_zero, Nat.zero_add, Nat.zero_mul, Nat.mul_zero, eOn, eOs, if_true, if_false, not_true_eq_false, not_false_eq_true, ite_true, ite_false, true_and, and_true, false_and, and_false, or_true, true_or, or_false, false_or, Bool.false_eq_true, reduceIte, Bool.not_true, Bool.not_false, and_self, or_self, q_ef, q_et, q_ltt, q_ltf, q_let, q_lef, gIs, gIl, gIr, gLs, gLl, gLr, gPs, gPl, gPr, gLc, gPc, zb_some, Option.bind_some, q_nm, q_pm, q_hm, q_tm, q_sm, q_wm, q_ym, q_lm, q_ua]; rfl
    · simp (disch := omega) only [ni_lit, nI_add, pk_mul, pk_sub, pk_div, nI_leI, nI_ltI, nI_eq, nI_clamp, ni_in, ni_inm, ni_ltm, ni_mlt, ni_lem, ni_mle, ni_eqm, ni_meq, ni_mm, ni_mmle, ni_bit, ni_shl, ni_clr, fa_or, Nat.add_zero, Nat.zero_add, Nat.zero_mul, Nat.mul_zero, eOn, eOs, if_true, if_false, not_true_eq_false, not_false_eq_true, ite_true, ite_false, true_and, and_true, false_and, and_false, or_true, true_or, or_false, false_or, Bool.false_eq_true, reduceIte, Bool.not_true, Bool.not_false, and_self, or_self, q_ef, q_et, q_ltt, q_ltf, q_let, q_lef, gIs, gIl, gIr, gLs, gLl, gLr, gPs, gPl, gPr, gLc, gPc, zb_some, Option.bind_some, q_nm, q_pm, q_hm, q_tm, q_sm, q_wm, q_ym, q_lm, q_ua, g1]; rfl
    · simp (disch := omega) only [ni_lit, nI_add, pk_mul, pk_sub, pk_div, nI_leI, nI_ltI, nI_eq, nI_clamp, ni_in, ni_inm, ni_ltm, ni_mlt, ni_lem, ni_mle, ni_eqm, ni_meq, ni_mm, ni_mmle, ni_bit, ni_shl, ni_clr, fa_or, Nat.add_zero, Nat.zero_add, Nat.zero_mul, Nat.mul_zero, eOn, eOs, if_true, if_false, not_true_eq_false, not_false_eq_true, ite_true, ite_false, true_and, and_true, false_and, and_false, or_true, true_or, or_false, false_or, Bool.false_eq_true, reduceIte, Bool.not_true, Bool.not_false, and_self, or_self, q_ef, q_et, q_ltt, q_ltf, q_let, q_lef, gIs, gIl, gIr, gLs, gLl, gLr, gPs, gPl, gPr, gLc, gPc, zb_some, Option.bind_some, q_nm, q_pm, q_hm, q_tm, q_sm, q_wm, q_ym, q_lm, q_ua, g2]; rfl
    · simp (disch := omega) only [ni_lit, nI_add, pk_mul, pk_sub, pk_div, nI_leI, nI_ltI, nI_eq, nI_clamp, ni_in, ni_inm, ni_ltm, ni_mlt, ni_lem, ni_mle, ni_eqm, ni_meq, ni_mm, ni_mmle, ni_bit, ni_shl, ni_clr, fa_or, Nat.add_zero, Nat.zero_add, Nat.zero_mul, Nat.mul_zero, eOn, eOs, if_true, if_false, not_true_eq_false, not_false_eq_true, ite_true, ite_false, true_and, and_true, false_and, and_false, or_true, true_or, or_false, false_or, Bool.false_eq_true, reduceIte, Bool.not_true, Bool.not_false, and_self, or_self, q_ef, q_et, q_ltt, q_ltf, q_let, q_lef, gIs, gIl, gIr, gLs, gLl, gLr, gPs, gPl, gPr, gLc, gPc, zb_some, Option.bind_some, q_nm, q_pm, q_hm, q_tm, q_sm, q_wm, q_ym, q_lm, q_ua, g3]; rfl
    · simp (disch := omega) only [ni_lit, nI_add, pk_mul, pk_sub, pk_div, nI_leI, nI_ltI, nI_eq, nI_clamp, ni_in, ni_inm, ni_ltm, ni_mlt, ni_lem, ni_mle, ni_eqm, ni_meq, ni_mm, ni_mmle, ni_bit, ni_shl, ni_clr, fa_or, Nat.add_zero, Nat.zero_add, Nat.zero_mul, Nat.mul_zero, eOn, eOs, if_true, if_false, not_true_eq_false, not_false_eq_true, ite_true, ite_false, true_and, and_true, false_and, and_false, or_true, true_or, or_false, false_or, Bool.false_eq_true, reduceIte, Bool.not_true, Bool.not_false, and_self, or_self, q_ef, q_et, q_ltt, q_ltf, q_let, q_lef, gIs, gIl, gIr, gLs, gLl, gLr, gPs, gPl, gPr, gLc, gPc, zb_some, Option.bind_some, q_nm, q_pm, q_hm, q_tm, q_sm, q_wm, q_ym, q_lm, q_ua, g4 r hr]; rfl
    · simp (disch := omega) only [ni_lit, nI_add, pk_mul, pk_sub, pk_div, nI_leI, nI_ltI, nI_eq, nI_clamp, ni_in, ni_inm, ni_ltm, ni_mlt, ni_lem, ni_mle, ni_eqm, ni_meq, ni_mm, ni_mmle, ni_bit, ni_shl, ni_clr, fa_or, Nat.add_zero, Nat.zero_add, Nat.zero_mul, Nat.mul_zero, eOn, eOs, if_true, if_false, not_true_eq_false, not_false_eq_true, ite_true, ite_false, true_and, and_true, false_and, and_false, or_true, true_or, or_false, false_or, Bool.false_eq_true, reduceIte, Bool.not_true, Bool.not_false, and_self, or_self, q_ef, q_et, q_ltt, q_ltf, q_let, q_lef, gIs, gIl, gIr, gLs, gLl, gLr, gPs, gPl, gPr, gLc, gPc, zb_some, Option.bind_some, q_nm, q_pm, q_hm, q_tm, q_sm, q_wm, q_ym, q_lm, q_ua, g5 j hj]; rfl
    · have hi2 : i < (q_l (q_lw P s (p_L P))).length := hi
      simp (disch := omega) only [ni_lit, nI_add, pk_mul, pk_sub, pk_div, nI_leI, nI_ltI, nI_eq, nI_clamp, ni_in, ni_inm, ni_ltm, ni_mlt, ni_lem, ni_mle, ni_eqm, ni_meq, ni_mm, ni_mmle, ni_bit, ni_shl, ni_clr, fa_or, Nat.add_zero, Nat.zero_add, Nat.zero_mul, Nat.mul_zero, eOn, eOs, if_true, if_false, not_true_eq_false, not_false_eq_true, ite_true, ite_false, true_and, and_true, false_and, and_false, or_true, true_or, or_false, false_or, Bool.false_eq_true, reduceIte, Bool.not_true, Bool.not_false, and_self, or_self, q_ef, q_et, q_ltt, q_ltf, q_let, q_lef, gIs, gIl, gIr, gLs, gLl, gLr, gPs, gPl, gPr, gLc, gPc, zb_some, Option.bind_some, q_nm, q_pm, q_hm, q_tm, q_sm, q_wm, q_ym, q_lm, q_ua, g6 i hi2]; rfl
  | m + 1, i, S, hi, hM, hs => by
    have hM' := hM
    obtain ⟨hW, hb, hbk, hC, hP⟩ := hM
    have hL := hP.2.2.2.2.1
    have hR := hP.1
    have hGi := q_lw_G hP hG i
    have hBi := hGi.Bd hP
    have e := b226_165_eq (d + 6) (nI v) x (nI i) S hW
    have a1 := m213 (d := d + 5) (k := i) hM' hv hs hGi (by omega)
    by_cases c : q_w (q_lw P s i) i < 16
    · have hr : q_rm (q_lw P s i) i = some (q_w (q_lw P s i) i) := by unfold q_rm; rw [if_pos c]
      have hsi := hGi.2.2.2.2.1 i c
      rw [hr] at a1
      obtain ⟨S1, b1, b2⟩ := m225 (d := d) hM' hv hs hGi hsi
      have hM1 := hM'.on b2 (fun c k a b => by omega)
      have hs1 : mSt S1 v (q_lw P s i) := hs.on hBi.2.2.1 b2 (fun c k z1 z2 => by unfold vD at z1; omega)
      simp (disch := omega) only [ni_lit, nI_add, pk_mul, pk_sub, pk_div, nI_leI, nI_ltI, nI_eq, nI_clamp, ni_in, ni_inm, ni_ltm, ni_mlt, ni_lem, ni_mle, ni_eqm, ni_meq, ni_mm, ni_mmle, ni_bit, ni_shl, ni_clr, fa_or, Nat.add_zero, Nat.zero_add, Nat.zero_mul, Nat.mul_zero, eOn, eOs, if_true, if_false, not_true_eq_false, not_false_eq_true, ite_true, ite_false, true_and, and_true, false_and, and_false, or_true, true_or, or_false, false_or, Bool.false_eq_true, reduceIte, Bool.not_true, Bool.not_false, and_self, or_self, q_ef, q_et, q_ltt, q_ltf, q_let, q_lef, gIs, gIl, gIr, gLs, gLl, gLr, gPs, gPl, gPr, gLc, gPc, zb_some, Option.bind_some, q_nm, q_pm, q_hm, q_tm, q_sm, q_wm, q_ym, q_lm, q_ua, hbk, hC.2.2.2.2.1, a1, b1, bI_0] at e
      by_cases c2 : (!(p_d P 1).isEmpty && !decide (q_val (q_env P (q_lw P s i) (q_w (q_lw P s i) i) i (q_l (q_lw P s i)).length) (p_d P 1) = 0)) = true
      · obtain ⟨S2, f1, f2, f3⟩ := m222 (d := d + 4) (k := i) hM1 hv hs1 hGi (by omega) (by omega)
        have hM2 := hM1.on f2 (fun c k a b => by unfold vD at b; omega)
        rw [c2] at e
        simp only [Bool.true_eq_false, if_false] at e
        rw [f1, Option.bind_some, b226_208_eq (d + 6) _ _ _ S2 f2.W, fa_lit, nI_add] at e
        rw [Bool.and_eq_true] at c2
        have hemp : (p_d P 1).isEmpty = false := by simpa using c2.1
        have hval : q_val (q_env P (q_lw P s i) (q_w (q_lw P s i) i) i (q_l (q_lw P s i)).length) (p_d P 1) ≠ 0 := by simpa using c2.2
        have hlw : ∀ j, q_lw P s j = q_lv P s j := fun j => by unfold q_lw; rw [hemp, if_neg (by decide)]
        have hst : q_lw P s (i + 1) = q_away (q_lw P s i) i := by
          rw [hlw] at c hval
          rw [hlw, hlw, q_lv, if_pos ⟨c, hval⟩]
        obtain ⟨S', j1, j2, j3⟩ := m226_3 hv hG m (i + 1) S2 (by omega) hM2 (by rw [hst]; exact f3)
        exact ⟨S', e.trans j1, ((b2.mono fun c k z => Or.inr z).trans (f2.mono fun c k z => Or.inl z)).trans j2, j3⟩
      · have c2' : (!(p_d P 1).isEmpty && !decide (q_val (q_env P (q_lw P s i) (q_w (q_lw P s i) i) i (q_l (q_lw P s i)).length) (p_d P 1) = 0)) = false := by simpa using c2
        rw [c2'] at e
        simp only [if_true] at e
        rw [b226_208_eq (d + 6) _ _ _ S1 b2.W, fa_lit, nI_add] at e
        have hst : q_lw P s (i + 1) = q_lw P s i := by
          cases hemp : (p_d P 1).isEmpty with
          | true => unfold q_lw; rw [hemp, if_pos rfl, if_pos rfl]
          | false =>
            have hlw : ∀ j, q_lw P s j = q_lv P s j := fun j => by unfold q_lw; rw [hemp, if_neg (by decide)]
            rw [hemp] at c2'
            have hval : q_val (q_env P (q_lw P s i) (q_w (q_lw P s i) i) i (q_l (q_lw P s i)).length) (p_d P 1) = 0 := by simpa using c2'
            rw [hlw] at hval
            rw [hlw, hlw, q_lv, if_neg (fun z => z.2 hval)]
        obtain ⟨S', j1, j2, j3⟩ := m226_3 hv hG m (i + 1) S1 (by omega) hM1 (by rw [hst]; exact hs1)
        exact ⟨S', e.trans j1, (b2.mono fun c k z => Or.inr z).trans j2, j3⟩
    · have hr : q_rm (q_lw P s i) i = none := by unfold q_rm; rw [if_neg c]
      rw [hr] at a1
      have hneg : ((-nI 1 : Int32) = -nI 1) = True := eq_true rfl
      simp (disch := omega) only [ni_lit, nI_add, pk_mul, pk_sub, pk_div, nI_leI, nI_ltI, nI_eq, nI_clamp, ni_in, ni_inm, ni_ltm, ni_mlt, ni_lem, ni_mle, ni_eqm, ni_meq, ni_mm, ni_mmle, ni_bit, ni_shl, ni_clr, fa_or, Nat.add_zero, Nat.zero_add, Nat.zero_mul, Nat.mul_zero, eOn, eOs, if_true, if_false, not_true_eq_false, not_false_eq_true, ite_true, ite_false, true_and, and_true, false_and, and_false, or_true, true_or, or_false, false_or, Bool.false_eq_true, reduceIte, Bool.not_true, Bool.not_false, and_self, or_self, q_ef, q_et, q_ltt, q_ltf, q_let, q_lef, gIs, gIl, gIr, gLs, gLl, gLr, gPs, gPl, gPr, gLc, gPc, zb_some, Option.bind_some, q_nm, q_pm, q_hm, q_tm, q_sm, q_wm, q_ym, q_lm, q_ua, hbk, hC.2.2.2.2.1, a1, hneg, b226_208_eq (d + 6) _ _ _ S hW] at e
      have hst : q_lw P s (i + 1) = q_lw P s i := by
        cases hemp : (p_d P 1).isEmpty with
        | true => unfold q_lw; rw [hemp, if_pos rfl, if_pos rfl]
        | false =>
          have hlw : ∀ j, q_lw P s j = q_lv P s j := fun j => by unfold q_lw; rw [hemp, if_neg (by decide)]
          rw [hlw] at c
          rw [hlw, hlw, q_lv, if_neg (fun z => c z.1)]
      obtain ⟨S', j1, j2, j3⟩ := m226_3 hv hG m (i + 1) S (by omega) hM' (by rw [hst]; exact hs)
      exact ⟨S', e.trans j1, j2, j3⟩
theorem m226 (hM : cM S b P) (hv : v < 22) (hs : mSt S v s) (hG : q_Gd P s) : ∃ S', fI (d + 7) 226 [.ref 396, .int (nI v)] S = some (nI (q_ntp P s), S') ∧ onM (tD v) S S' ∧ mSt S' v (q_setn (q_nt P true s) (q_n s + 1)) := by
  have hP := hM.2.2.2.2
  have hL := hP.2.2.2.2.1
  have e := e226 (d + 6) (nI v) S hM.1
  obtain ⟨S1, a1, a2, a3⟩ := m223 (d := d + 2) hM hv hs hG
  have hG1 : q_Gd P (q_seat P (q_l s) [] s) := q_seat_G hP _ _ _ hG
  have hn1 := q_seat_n P (q_l s) [] s
  have hM1 := hM.on a2 (fun c k a b => by unfold vD at b; omega)
  rw [a1, Option.bind_some] at e
  obtain ⟨S2, b1, b2, b3⟩ := m226_1 (d := d) hv hG1 (p_R P) 0 S1 (by omega) hM1 a3
  have hM2 := hM1.on b2 (fun c k a b => by unfold tD vD at b; omega)
  have hG2 : q_Gd P (q_setp (q_seat P (q_l s) [] s) (min 999999 (q_p (q_seat P (q_l s) [] s) + q_paid P (q_seat P (q_l s) [] s) (p_R P)))) := hG1.setp (by omega)
  obtain ⟨S3, f1, f2, f3⟩ := m226_2 (d := d + 6) (x := nI (q_paid P (q_seat P (q_l s) [] s) (p_R P))) hv hG2 (p_R P) 0 S2 (by omega) hM2 (b3.cong rfl rfl rfl rfl (fun k _ => (q_yr0 _ k).symm) rfl)
  have hM3 := hM2.on f2 (fun c k a b => by unfold tD vD at b; omega)
  generalize hx : q_setp (q_seat P (q_l s) [] s) (min 999999 (q_p (q_seat P (q_l s) [] s) + q_paid P (q_seat P (q_l s) [] s) (p_R P))) = s2 at *
  have hs3 : mSt S3 v (q_lw P (q_sety s2 (q_yj s2 (p_L P))) 0) := by
    have : q_lw P (q_sety s2 (q_yj s2 (p_L P))) 0 = q_sety s2 (q_yj s2 (p_L P)) := by unfold q_lw; split <;> rfl
    rw [this]
    refine f3.cong rfl rfl rfl rfl (fun k _ => ?_) rfl
    show q_yr s2 (p_R P) k = q_yj s2 (p_L P) k
    unfold q_yr q_yj
    have hR := hP.1
    by_cases z : q_w s2 k < 16
    · have h5 := hG2.2.2.2.2.1 k z
      have h6 := hG2.sl hP h5
      rw [if_pos h6.1, if_pos ⟨h6.2.1, z⟩]
    · rw [if_neg (by omega), if_neg (fun w => z w.2)]
  obtain ⟨S4, j1, j2, j3⟩ := m226_3 (d := d) (x := nI (q_paid P (q_seat P (q_l s) [] s) (p_R P))) hv (hG2.sety (p_L P)) (p_L P) 0 S3 (by omega) hM3 hs3
  refine ⟨S4, ((e.trans b1).trans f1).trans j1, (((a2.mono fun c k z => Or.inl z).trans b2).trans f2).trans j2, ?_⟩
  have hq : q_nt P true s = q_end P s2 := by
    unfold q_nt
    rw [if_pos rfl, ← hx, hn1.2.1]
  have hn2 : q_n s2 = q_n s := by rw [← hx]; exact hn1.1
  rw [hq]
  have hn3 : q_n (q_sety s2 (q_yj s2 (p_L P))) = q_n s := hn2
  rw [hn3] at j3
  exact j3
end MF
