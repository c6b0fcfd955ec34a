/-! BEDS: how many sleep together, as the reference finds it: rooms, lodgers, the sum. -/
section BM
variable {d b s : Nat} {P : q_Pl} {st : q_St}
theorem m243_104 {g : Nat → Nat} (hg : ∀ x, x < p_R P → g x < p_R P) : ∀ (m r : Nat) (S : z_S), r + m = p_R P → xH S b P st → xHp S (p_R P) g → (∀ h, h < 16 → gI S 433 h = nI (fb_ct (fun x => w_op (w_Gs P st) x && decide (g x = h)) r)) → ∃ S', b243_104 (d + 4) (nI s) (nI r) S = b243_152 (d + 4) (nI s) (nI 0) S' ∧ onM (fun c _ => c = 433) S S' ∧ ∀ h, h < 16 → gI S' 433 h = nI (w_ro (w_Gs P st) (p_R P) g h)
  | 0, r, S, hr, h, hx, hc => by
    have e := b243_104_eq (d + 4) (nI s) (nI r) S h.1.1
    have hbk := h.1.2.2.1
    have hb := h.1.2.1
    have hR := h.1.2.2.2.2.1
    have hl := h.1.2.2.2.1.1
    simp (disch := omega) only [ni_lit, nI_add, pk_mul, pk_sub, pk_div, nI_leI, nI_ltI, nI_eq, nI_clamp, ni_in, ni_inm, ni_ltm, ni_mlt, ni_lem, ni_mle, ni_eqm, ni_meq, ni_mm, ni_mmle, ni_bit, ni_shl, ni_clr, fa_or, Nat.add_zero, Nat.zero_add, Nat.zero_mul, Nat.mul_zero, eOn, eOs, if_true, if_false, not_true_eq_false, not_false_eq_true, ite_true, ite_false, true_and, and_true, false_and, and_false, or_true, true_or, or_false, false_or, Bool.false_eq_true, reduceIte, Bool.not_true, Bool.not_false, and_self, or_self, q_ef, q_et, q_ltt, q_ltf, q_let, q_lef, gIs, gIl, gIr, gLs, gLl, gLr, gPs, gPl, gPr, gLc, gPc, zb_some, Option.bind_some, q_nm, q_pm, q_hm, q_tm, q_sm, q_wm, q_ym, q_lm, q_ua, hbk, hl] at e
    rw [show r = p_R P by omega] at hc
    exact ⟨S, e, onM.refl h.1.1, hc⟩
  | m + 1, r, S, hr, h, hx, hc => by
    have e := b243_104_eq (d + 4) (nI s) (nI r) S h.1.1
    have hW := h.1.1
    have hbk := h.1.2.2.1
    have hb := h.1.2.1
    have hR := h.1.2.2.2.2.1
    have hl := h.1.2.2.2.1.1
    have gr := hg r (by omega)
    have xr := hx r (by omega)
    have ao := m241 (d := d + 1) (r := r) h (by omega)
    have cr := hc (g r) (by omega)
    simp (disch := omega) only [ni_lit, nI_add, pk_mul, pk_sub, pk_div, nI_leI, nI_ltI, nI_eq, nI_clamp, ni_in, ni_inm, ni_ltm, ni_mlt, ni_lem, ni_mle, ni_eqm, ni_meq, ni_mm, ni_mmle, ni_bit, ni_shl, ni_clr, fa_or, Nat.add_zero, Nat.zero_add, Nat.zero_mul, Nat.mul_zero, eOn, eOs, if_true, if_false, not_true_eq_false, not_false_eq_true, ite_true, ite_false, true_and, and_true, false_and, and_false, or_true, true_or, or_false, false_or, Bool.false_eq_true, reduceIte, Bool.not_true, Bool.not_false, and_self, or_self, q_ef, q_et, q_ltt, q_ltf, q_let, q_lef, gIs, gIl, gIr, gLs, gLl, gLr, gPs, gPl, gPr, gLc, gPc, zb_some, Option.bind_some, q_nm, q_pm, q_hm, q_tm, q_sm, q_wm, q_ym, q_lm, q_ua, hbk, hl, xr, ao, cr, bI_0] at e
    have fin : ∀ v : Nat, (v = if w_op (w_Gs P st) r then 1 else 0) → ∃ S', b243_142 (d + 4) (nI s) (nI r) (nI v) (nI (fb_ct (fun x => w_op (w_Gs P st) x && decide (g x = g r)) r)) (nI (g r)) S = b243_152 (d + 4) (nI s) (nI 0) S' ∧ onM (fun c _ => c = 433) S S' ∧ ∀ h, h < 16 → gI S' 433 h = nI (w_ro (w_Gs P st) (p_R P) g h) := fun v hv => by
      have e2 := b243_142_eq (d + 4) (nI s) (nI r) (nI v) (nI (fb_ct (fun x => w_op (w_Gs P st) x && decide (g x = g r)) r)) (nI (g r)) S hW
      simp (disch := omega) only [ni_lit, nI_add, pk_mul, pk_sub, pk_div, nI_leI, nI_ltI, nI_eq, nI_clamp, ni_in, ni_inm, ni_ltm, ni_mlt, ni_lem, ni_mle, ni_eqm, ni_meq, ni_mm, ni_mmle, ni_bit, ni_shl, ni_clr, fa_or, Nat.add_zero, Nat.zero_add, Nat.zero_mul, Nat.mul_zero, eOn, eOs, if_true, if_false, not_true_eq_false, not_false_eq_true, ite_true, ite_false, true_and, and_true, false_and, and_false, or_true, true_or, or_false, false_or, Bool.false_eq_true, reduceIte, Bool.not_true, Bool.not_false, and_self, or_self, q_ef, q_et, q_ltt, q_ltf, q_let, q_lef, gIs, gIl, gIr, gLs, gLl, gLr, gPs, gPl, gPr, gLc, gPc, zb_some, Option.bind_some, q_nm, q_pm, q_hm, q_tm, q_sm, q_wm, q_ym, q_lm, q_ua] at e2
      generalize hS1 : sI S 433 (g r) (nI (fb_ct (fun x => w_op (w_Gs P st) x && decide (g x = g r)) r + v)) = S1 at e2
      have o1 : onM (fun c _ => c = 433) S S1 := by
        rw [← hS1]
        exact onM_sI (D := fun c _ => c = 433) (c := 433) (onM.refl hW) rfl
      obtain ⟨S', a1, a2, a3⟩ := m243_104 hg m (r + 1) S1 (by omega) (h.on o1 fun c k z => by omega) (fun x z => by rw [o1.I (by omega)]; exact hx x z) fun y hy => by
        rw [fb_ct_succ]
        have cy := hc y hy
        by_cases z : y = g r
        · rw [← hS1, z, decide_eq_true rfl, Bool.and_true, ← hv]
          simp (disch := omega) only [ni_lit, nI_add, pk_mul, pk_sub, pk_div, nI_leI, nI_ltI, nI_eq, nI_clamp, ni_in, ni_inm, ni_ltm, ni_mlt, ni_lem, ni_mle, ni_eqm, ni_meq, ni_mm, ni_mmle, ni_bit, ni_shl, ni_clr, fa_or, Nat.add_zero, Nat.zero_add, Nat.zero_mul, Nat.mul_zero, eOn, eOs, if_true, if_false, not_true_eq_false, not_false_eq_true, ite_true, ite_false, true_and, and_true, false_and, and_false, or_true, true_or, or_false, false_or, Bool.false_eq_true, reduceIte, Bool.not_true, Bool.not_false, and_self, or_self, q_ef, q_et, q_ltt, q_ltf, q_let, q_lef, gIs, gIl, gIr, gLs, gLl, gLr, gPs, gPl, gPr, gLc, gPc, zb_some, Option.bind_some, q_nm, q_pm, q_hm, q_tm, q_sm, q_wm, q_ym, q_lm, q_ua]
        · rw [← hS1, decide_eq_false (show ¬ g r = y from fun w => z w.symm), Bool.and_false, if_neg (by decide), Nat.add_zero, ← cy]
          simp (disch := omega) only [ni_lit, nI_add, pk_mul, pk_sub, pk_div, nI_leI, nI_ltI, nI_eq, nI_clamp, ni_in, ni_inm, ni_ltm, ni_mlt, ni_lem, ni_mle, ni_eqm, ni_meq, ni_mm, ni_mmle, ni_bit, ni_shl, ni_clr, fa_or, Nat.add_zero, Nat.zero_add, Nat.zero_mul, Nat.mul_zero, eOn, eOs, if_true, if_false, not_true_eq_false, not_false_eq_true, ite_true, ite_false, true_and, and_true, false_and, and_false, or_true, true_or, or_false, false_or, Bool.false_eq_true, reduceIte, Bool.not_true, Bool.not_false, and_self, or_self, q_ef, q_et, q_ltt, q_ltf, q_let, q_lef, gIs, gIl, gIr, gLs, gLl, gLr, gPs, gPl, gPr, gLc, gPc, zb_some, Option.bind_some, q_nm, q_pm, q_hm, q_tm, q_sm, q_wm, q_ym, q_lm, q_ua]
      exact ⟨S', e2.trans a1, o1.trans a2, a3⟩
    cases ho : w_op (w_Gs P st) r with
    | true =>
      simp only [ho, if_true, if_false, not_true_eq_false, not_false_eq_true, ite_true, ite_false, true_and, and_true, false_and, and_false, or_true, true_or, or_false, false_or, Bool.false_eq_true, reduceIte, Bool.not_true, Bool.not_false, and_self, or_self, Bool.true_eq_false] at e
      rw [e]
      exact fin 1 (by rw [ho]; rfl)
    | false =>
      simp only [ho, if_true, if_false, not_true_eq_false, not_false_eq_true, ite_true, ite_false, true_and, and_true, false_and, and_false, or_true, true_or, or_false, false_or, Bool.false_eq_true, reduceIte, Bool.not_true, Bool.not_false, and_self, or_self] at e
      rw [e]
      exact fin 0 (by rw [ho]; rfl)
theorem m243_152 {g : Nat → Nat} (hs : s < 65536) (hg : ∀ x, x < p_R P → g x < p_R P) : ∀ (m k : Nat) (S : z_S), k + m = p_L P → xH S b P st → xHp S (p_R P) g → (∀ h, h < 16 → gI S 434 h = nI (w_lo (w_Gs P st) g (w_dl s k) h)) → ∃ S', b243_152 (d + 4) (nI s) (nI k) S = b243_235 (d + 4) (nI 0) (nI 0) S' ∧ onM (fun c _ => c = 434) S S' ∧ ∀ h, h < 16 → gI S' 434 h = nI (w_lo (w_Gs P st) g (w_dl s (p_L P)) h)
  | 0, k, S, hk, h, hx, hc => by
    have e := b243_152_eq (d + 4) (nI s) (nI k) S h.1.1
    have hbk := h.1.2.2.1
    have hb := h.1.2.1
    have hL := h.1.2.2.2.2.2.2.2.2.1
    have hl := h.1.2.2.2.1.2.2.2.2.1
    simp (disch := omega) only [ni_lit, nI_add, pk_mul, pk_sub, pk_div, nI_leI, nI_ltI, nI_eq, nI_clamp, ni_in, ni_inm, ni_ltm, ni_mlt, ni_lem, ni_mle, ni_eqm, ni_meq, ni_mm, ni_mmle, ni_bit, ni_shl, ni_clr, fa_or, Nat.add_zero, Nat.zero_add, Nat.zero_mul, Nat.mul_zero, eOn, eOs, if_true, if_false, not_true_eq_false, not_false_eq_true, ite_true, ite_false, true_and, and_true, false_and, and_false, or_true, true_or, or_false, false_or, Bool.false_eq_true, reduceIte, Bool.not_true, Bool.not_false, and_self, or_self, q_ef, q_et, q_ltt, q_ltf, q_let, q_lef, gIs, gIl, gIr, gLs, gLl, gLr, gPs, gPl, gPr, gLc, gPc, zb_some, Option.bind_some, q_nm, q_pm, q_hm, q_tm, q_sm, q_wm, q_ym, q_lm, q_ua, hbk, hl] at e
    rw [show k = p_L P by omega] at hc
    exact ⟨S, e, onM.refl h.1.1, hc⟩
  | m + 1, k, S, hk, h, hx, hc => by
    have e := b243_152_eq (d + 4) (nI s) (nI k) S h.1.1
    have hW := h.1.1
    have hbk := h.1.2.2.1
    have hP := h.1.2.2.2.2
    have hL := hP.2.2.2.2.1
    have hR := hP.1
    have hl := h.1.2.2.2.1.2.2.2.2.1
    have hb := h.1.2.1
    obtain ⟨f1, f2, f3⟩ := hP.2.2.2.2.2.2.2.1 k (by omega)
    have nx : ∀ S1, z_W S1 → b243_225 (d + 4) (nI s) (nI k) S1 = b243_152 (d + 4) (nI s) (nI (k + 1)) S1 := fun S1 w => by rw [b243_225_eq (d + 4) (nI s) (nI k) S1 w, nI_1]
    have a182 := m182 (d := d + 3) (a := s) (r := k) hW (by omega) (by omega)
    have a210 := m210 (d := d + 3) (k := k) h.1 (by omega)
    have a211 := m211 (d := d + 3) (k := k) h.1 (by omega)
    have af := m241 (d := d + 1) (r := p_f P k) h (by omega)
    have ao := m241 (d := d + 1) (r := p_o P k) h (by omega)
    simp (disch := omega) only [ni_lit, nI_add, pk_mul, pk_sub, pk_div, nI_leI, nI_ltI, nI_eq, nI_clamp, ni_in, ni_inm, ni_ltm, ni_mlt, ni_lem, ni_mle, ni_eqm, ni_meq, ni_mm, ni_mmle, ni_bit, ni_shl, ni_clr, fa_or, Nat.add_zero, Nat.zero_add, Nat.zero_mul, Nat.mul_zero, eOn, eOs, if_true, if_false, not_true_eq_false, not_false_eq_true, ite_true, ite_false, true_and, and_true, false_and, and_false, or_true, true_or, or_false, false_or, Bool.false_eq_true, reduceIte, Bool.not_true, Bool.not_false, and_self, or_self, q_ef, q_et, q_ltt, q_ltf, q_let, q_lef, gIs, gIl, gIr, gLs, gLl, gLr, gPs, gPl, gPr, gLc, gPc, zb_some, Option.bind_some, q_nm, q_pm, q_hm, q_tm, q_sm, q_wm, q_ym, q_lm, q_ua, hbk, hl, a182, a210, a211, af, bI_0] at e
    have go : ∀ S1, xH S1 b P st → onM (fun c _ => c = 434) S S1 → (∀ h, h < 16 → gI S1 434 h = nI (w_lo (w_Gs P st) g (w_dl s (k + 1)) h)) → ∃ S', b243_225 (d + 4) (nI s) (nI k) S1 = b243_235 (d + 4) (nI 0) (nI 0) S' ∧ onM (fun c _ => c = 434) S S' ∧ ∀ h, h < 16 → gI S' 434 h = nI (w_lo (w_Gs P st) g (w_dl s (p_L P)) h) := fun S1 h1 o1 x1 => by
      rw [nx S1 h1.1.1]
      obtain ⟨S', a1, a2, a3⟩ := m243_152 hs hg m (k + 1) S1 (by omega) h1 (fun x z => by rw [o1.I (by omega)]; exact hx x z) x1
      exact ⟨S', a1, o1.trans a2, a3⟩
    cases ht : s.testBit k with
    | false =>
      simp only [ht, if_true, if_false, not_true_eq_false, not_false_eq_true, ite_true, ite_false, true_and, and_true, false_and, and_false, or_true, true_or, or_false, false_or, Bool.false_eq_true, reduceIte, Bool.not_true, Bool.not_false, and_self, or_self, Bool.true_eq_false] at e
      rw [e]
      exact go S h (onM.refl hW) (by rw [w_dl, ht, if_neg (by decide)]; exact hc)
    | true =>
      have hdl : w_dl s (k + 1) = k :: w_dl s k := by rw [w_dl, ht, if_pos rfl]
      have fin : ∀ r, r < p_R P → r = w_r1 (w_Gs P st) k → w_op (w_Gs P st) r = w_an (w_Gs P st) k → ∃ S', b243_201 (d + 4) (nI s) (nI k) (nI r) S = b243_235 (d + 4) (nI 0) (nI 0) S' ∧ onM (fun c _ => c = 434) S S' ∧ ∀ h, h < 16 → gI S' 434 h = nI (w_lo (w_Gs P st) g (w_dl s (p_L P)) h) := fun r hr hr1 hr2 => by
        have e2 := b243_201_eq (d + 4) (nI s) (nI k) (nI r) S hW
        have ar := m241 (d := d + 1) (r := r) h (by omega)
        have gr := hg r hr
        have xr := hx r hr
        have cr := hc (g r) (by omega)
        cases han : w_an (w_Gs P st) k with
        | false =>
          rw [han] at hr2
          rw [ar, hr2, zb_some, if_pos (by decide)] at e2
          rw [e2]
          exact go S h (onM.refl hW) fun y hy => by rw [hdl, w_lo_c0 _ _ (by rw [han]; decide)]; exact hc y hy
        | true =>
          rw [han] at hr2
          rw [ar, hr2, zb_some, if_neg (by decide)] at e2
          simp (disch := omega) only [ni_lit, nI_add, pk_mul, pk_sub, pk_div, nI_leI, nI_ltI, nI_eq, nI_clamp, ni_in, ni_inm, ni_ltm, ni_mlt, ni_lem, ni_mle, ni_eqm, ni_meq, ni_mm, ni_mmle, ni_bit, ni_shl, ni_clr, fa_or, Nat.add_zero, Nat.zero_add, Nat.zero_mul, Nat.mul_zero, eOn, eOs, if_true, if_false, not_true_eq_false, not_false_eq_true, ite_true, ite_false, true_and, and_true, false_and, and_false, or_true, true_or, or_false, false_or, Bool.false_eq_true, reduceIte, Bool.not_true, Bool.not_false, and_self, or_self, q_ef, q_et, q_ltt, q_ltf, q_let, q_lef, gIs, gIl, gIr, gLs, gLl, gLr, gPs, gPl, gPr, gLc, gPc, zb_some, Option.bind_some, q_nm, q_pm, q_hm, q_tm, q_sm, q_wm, q_ym, q_lm, q_ua, xr, cr] at e2
          rw [e2]
          generalize hS1 : sI S 434 (g r) (nI (w_lo (w_Gs P st) g (w_dl s k) (g r) + 1)) = S1
          have o1 : onM (fun c _ => c = 434) S S1 := by
            rw [← hS1]
            exact onM_sI (D := fun c _ => c = 434) (c := 434) (onM.refl hW) rfl
          refine go S1 (h.on o1 fun c k z => by omega) o1 fun y hy => ?_
          have cy := hc y hy
          rw [hdl, w_lo_c _ _ han, ← hr1]
          by_cases z : g r = y
          · rw [if_pos z, ← hS1, ← z]
            simp (disch := omega) only [ni_lit, nI_add, pk_mul, pk_sub, pk_div, nI_leI, nI_ltI, nI_eq, nI_clamp, ni_in, ni_inm, ni_ltm, ni_mlt, ni_lem, ni_mle, ni_eqm, ni_meq, ni_mm, ni_mmle, ni_bit, ni_shl, ni_clr, fa_or, Nat.add_zero, Nat.zero_add, Nat.zero_mul, Nat.mul_zero, eOn, eOs, if_true, if_false, not_true_eq_false, not_false_eq_true, ite_true, ite_false, true_and, and_true, false_and, and_false, or_true, true_or, or_false, false_or, Bool.false_eq_true, reduceIte, Bool.not_true, Bool.not_false, and_self, or_self, q_ef, q_et, q_ltt, q_ltf, q_let, q_lef, gIs, gIl, gIr, gLs, gLl, gLr, gPs, gPl, gPr, gLc, gPc, zb_some, Option.bind_some, q_nm, q_pm, q_hm, q_tm, q_sm, q_wm, q_ym, q_lm, q_ua]
          · rw [if_neg z, Nat.add_zero, ← hS1, ← cy]
            simp (disch := omega) only [ni_lit, nI_add, pk_mul, pk_sub, pk_div, nI_leI, nI_ltI, nI_eq, nI_clamp, ni_in, ni_inm, ni_ltm, ni_mlt, ni_lem, ni_mle, ni_eqm, ni_meq, ni_mm, ni_mmle, ni_bit, ni_shl, ni_clr, fa_or, Nat.add_zero, Nat.zero_add, Nat.zero_mul, Nat.mul_zero, eOn, eOs, if_true, if_false, not_true_eq_false, not_false_eq_true, ite_true, ite_false, true_and, and_true, false_and, and_false, or_true, true_or, or_false, false_or, Bool.false_eq_true, reduceIte, Bool.not_true, Bool.not_false, and_self, or_self, q_ef, q_et, q_ltt, q_ltf, q_let, q_lef, gIs, gIl, gIr, gLs, gLl, gLr, gPs, gPl, gPr, gLc, gPc, zb_some, Option.bind_some, q_nm, q_pm, q_hm, q_tm, q_sm, q_wm, q_ym, q_lm, q_ua]
      cases hf : w_op (w_Gs P st) (p_f P k) with
      | false =>
        simp only [ht, hf, if_true, if_false, not_true_eq_false, not_false_eq_true, ite_true, ite_false, true_and, and_true, false_and, and_false, or_true, true_or, or_false, false_or, Bool.false_eq_true, reduceIte, Bool.not_true, Bool.not_false, and_self, or_self, Bool.true_eq_false] at e
        rw [e]
        have e1 : w_r1 (w_Gs P st) k = p_o P k := by
          show (if w_op (w_Gs P st) (p_f P k) then p_f P k else p_o P k) = _
          rw [hf, if_neg (by decide)]
        have e3 : w_an (w_Gs P st) k = w_op (w_Gs P st) (p_o P k) := by
          show (w_op (w_Gs P st) (p_f P k) || w_op (w_Gs P st) (p_o P k)) = _
          rw [hf, Bool.false_or]
        exact fin _ f2 e1.symm e3.symm
      | true =>
        simp only [ht, hf, if_true, if_false, not_true_eq_false, not_false_eq_true, ite_true, ite_false, true_and, and_true, false_and, and_false, or_true, true_or, or_false, false_or, Bool.false_eq_true, reduceIte, Bool.not_true, Bool.not_false, and_self, or_self, Bool.true_eq_false] at e
        rw [e]
        have e1 : w_r1 (w_Gs P st) k = p_f P k := by
          show (if w_op (w_Gs P st) (p_f P k) then p_f P k else p_o P k) = _
          rw [hf, if_pos rfl]
        have e3 : w_an (w_Gs P st) k = w_op (w_Gs P st) (p_f P k) := by
          show (w_op (w_Gs P st) (p_f P k) || w_op (w_Gs P st) (p_o P k)) = _
          rw [hf, Bool.true_or]
        exact fin _ f1 e1.symm e3.symm
theorem m243_235 {S : z_S} {f g : Nat → Nat} (h : xH S b P st) (hf : ∀ y, y < 16 → gI S 433 y = nI (f y) ∧ f y ≤ 16) (hg : ∀ y, y < 16 → gI S 434 y = nI (g y) ∧ g y ≤ 16) : ∀ (m r : Nat), r + m = p_R P → b243_235 (d + 4) (nI (fb_sm (fun y => min (f y) (g y)) r)) (nI r) S = some (nI (fb_sm (fun y => min (f y) (g y)) (p_R P)), S)
  | 0, r, hr => by
    have e := b243_235_eq (d + 4) (nI (fb_sm (fun y => min (f y) (g y)) r)) (nI r) S h.1.1
    have hbk := h.1.2.2.1
    have hb := h.1.2.1
    have hR := h.1.2.2.2.2.1
    have hl := h.1.2.2.2.1.1
    simp (disch := omega) only [ni_lit, nI_add, pk_mul, pk_sub, pk_div, nI_leI, nI_ltI, nI_eq, nI_clamp, ni_in, ni_inm, ni_ltm, ni_mlt, ni_lem, ni_mle, ni_eqm, ni_meq, ni_mm, ni_mmle, ni_bit, ni_shl, ni_clr, fa_or, Nat.add_zero, Nat.zero_add, Nat.zero_mul, Nat.mul_zero, eOn, eOs, if_true, if_false, not_true_eq_false, not_false_eq_true, ite_true, ite_false, true_and, and_true, false_and, and_false, or_true, true_or, or_false, false_or, Bool.false_eq_true, reduceIte, Bool.not_true, Bool.not_false, and_self, or_self, q_ef, q_et, q_ltt, q_ltf, q_let, q_lef, gIs, gIl, gIr, gLs, gLl, gLr, gPs, gPl, gPr, gLc, gPc, zb_some, Option.bind_some, q_nm, q_pm, q_hm, q_tm, q_sm, q_wm, q_ym, q_lm, q_ua, hbk, hl] at e
    rw [e, show r = p_R P by omega]
  | m + 1, r, hr => by
    have e := b243_235_eq (d + 4) (nI (fb_sm (fun y => min (f y) (g y)) r)) (nI r) S h.1.1
    have hbk := h.1.2.2.1
    have hb := h.1.2.1
    have hR := h.1.2.2.2.2.1
    have hl := h.1.2.2.2.1.1
    have ih := m243_235 h hf hg m (r + 1) (by omega)
    have h3 := hf r (by omega)
    have h4 := hg r (by omega)
    have b3 := h3.2
    have b4 := h4.2
    have nx : ∀ v, b243_279 (d + 4) (nI r) (nI v) (nI (fb_sm (fun y => min (f y) (g y)) r)) S = b243_235 (d + 4) (nI (fb_sm (fun y => min (f y) (g y)) r + v)) (nI (r + 1)) S := fun v => by
      rw [b243_279_eq (d + 4) (nI r) (nI v) (nI (fb_sm (fun y => min (f y) (g y)) r)) S h.1.1, nI_1, nI_add]
    rw [fb_sm_succ] at ih
    by_cases c : g r ≤ f r
    · simp (disch := omega) only [ni_lit, nI_add, pk_mul, pk_sub, pk_div, nI_leI, nI_ltI, nI_eq, nI_clamp, ni_in, ni_inm, ni_ltm, ni_mlt, ni_lem, ni_mle, ni_eqm, ni_meq, ni_mm, ni_mmle, ni_bit, ni_shl, ni_clr, fa_or, Nat.add_zero, Nat.zero_add, Nat.zero_mul, Nat.mul_zero, eOn, eOs, if_true, if_false, not_true_eq_false, not_false_eq_true, ite_true, ite_false, true_and, and_true, false_and, and_false, or_true, true_or, or_false, false_or, Bool.false_eq_true, reduceIte, Bool.not_true, Bool.not_false, and_self, or_self, q_ef, q_et, q_ltt, q_ltf, q_let, q_lef, gIs, gIl, gIr, gLs, gLl, gLr, gPs, gPl, gPr, gLc, gPc, zb_some, Option.bind_some, q_nm, q_pm, q_hm, q_tm, q_sm, q_wm, q_ym, q_lm, q_ua, hbk, hl, h3.1, h4.1] at e
      rw [e, nx]
      rw [Nat.min_eq_right c] at ih
      exact ih
    · simp (disch := omega) only [ni_lit, nI_add, pk_mul, pk_sub, pk_div, nI_leI, nI_ltI, nI_eq, nI_clamp, ni_in, ni_inm, ni_ltm, ni_mlt, ni_lem, ni_mle, ni_eqm, ni_meq, ni_mm, ni_mmle, ni_bit, ni_shl, ni_clr, fa_or, Nat.add_zero, Nat.zero_add, Nat.zero_mul, Nat.mul_zero, eOn, eOs, if_true, if_false, not_true_eq_false, not_false_eq_true, ite_true, ite_false, true_and, and_true, false_and, and_false, or_true, true_or, or_false, false_or, Bool.false_eq_true, reduceIte, Bool.not_true, Bool.not_false, and_self, or_self, q_ef, q_et, q_ltt, q_ltf, q_let, q_lef, gIs, gIl, gIr, gLs, gLl, gLr, gPs, gPl, gPr, gLc, gPc, zb_some, Option.bind_some, q_nm, q_pm, q_hm, q_tm, q_sm, q_wm, q_ym, q_lm, q_ua, hbk, hl, h3.1, h4.1] at e
      rw [e, nx]
      rw [Nat.min_eq_left (by omega)] at ih
      exact ih
theorem m243 {S : z_S} (h : xH S b P st) (hs : s < 65536) : ∃ S', fI (d + 5) 243 [.ref 396, .int (nI s)] S = some (nI (w_tg (w_Gs P st) (p_R P) (p_L P) s), S') ∧ onM (fun c _ => 432 ≤ c ∧ c ≤ 434) S S' := by
  have hW := h.1.1
  have hP := h.1.2.2.2.2
  have hR := hP.1
  have hL := hP.2.2.2.2.1
  have e : fI (d + 5) 243 [.ref 396, .int (nI s)] S = b243_2 (d + 4) (nI s) (nI 0) S := e243 (d + 4) (nI s) S hW
  obtain ⟨S1, a1, a2, a3⟩ := m243_2 (d := d + 4) (y := nI s) 16 0 S (by omega) hW fun x z => by omega
  have h1 := h.on a2 fun c k z => z
  obtain ⟨S2, b1, b2, b3⟩ := m243_37 (d := d) hs (p_L P) 0 S1 (by omega) h1 fun x z => (a3 x (by omega)).1
  have h2 := h1.on b2 fun c k z => by omega
  have hgl : ∀ x, x < p_R P → w_lb (w_Gs P st) (w_dl s (p_L P)) x < p_R P := fun x z => w_lb_lt _ z
  obtain ⟨S3, c1, c2, c3⟩ := m243_104 (d := d) (s := s) hgl (p_R P) 0 S2 (by omega) h2 b3 fun y hy => by
    rw [b2.I (by omega)]
    exact (a3 y hy).2.1
  have h3 := h2.on c2 fun c k z => by omega
  obtain ⟨S4, f1, f2, f3⟩ := m243_152 (d := d) hs hgl (p_L P) 0 S3 (by omega) h3 (fun x z => by rw [c2.I (by omega)]; exact b3 x z) fun y hy => by
    rw [c2.I (by omega), b2.I (by omega)]
    exact (a3 y hy).2.2
  have h4 := h3.on f2 fun c k z => by omega
  have lb : ∀ n y, w_lo (w_Gs P st) (w_lb (w_Gs P st) (w_dl s (p_L P))) (w_dl s n) y ≤ n := fun n y => by
    refine Nat.le_trans List.countP_le_length ?_
    rw [← (w_dl_sl s n).length_eq, w_sl_len]
    exact fb_ct_le _ _
  have g1 := m243_235 (d := d) (f := w_ro (w_Gs P st) (p_R P) (w_lb (w_Gs P st) (w_dl s (p_L P)))) (g := w_lo (w_Gs P st) (w_lb (w_Gs P st) (w_dl s (p_L P))) (w_dl s (p_L P))) h4 (fun y hy => ⟨by rw [f2.I (by omega)]; exact c3 y hy, Nat.le_trans (fb_ct_le _ _) hR⟩) (fun y hy => ⟨f3 y hy, Nat.le_trans (lb _ _) hL⟩) (p_R P) 0 (by omega)
  refine ⟨S4, ?_, ?_⟩
  · rw [e, a1, b1, c1, f1]
    refine g1.trans ?_
    congr 3
    exact (w_T_perm (w_dl_sl s (p_L P))).symm
  · exact ((a2.trans (b2.mono fun c k z => by omega)).trans (c2.mono fun c k z => by omega)).trans (f2.mono fun c k z => by omega)
theorem m244 {S : z_S} {x : Int32} (h : cM S b P) : fI (d + 1) 244 [.ref 396, .int x] S = some (bI (ixO (2 ^ p_L P) x), S) := by
  obtain ⟨hW, hb, hbk, hC, hP⟩ := h
  have hL := hP.2.2.2.2.1
  have hp : 2 ^ p_L P ≤ 65536 := Nat.pow_le_pow_right (n := 2) (by omega) hL
  have e := e244 d x S hW
  have hl := hC.2.2.2.2.1
  rw [hbk] at e
  unfold ixO
  by_cases c1 : x < 0
  · rw [if_pos c1, b244_23_eq d S hW] at e
    rw [x_lt0] at c1
    rw [decide_eq_false (by omega)]; exact e
  · rw [if_neg c1] at e
    obtain ⟨j, hj, rfl⟩ := nI_of c1
    rw [nI_toInt (by omega)]
    have z2 : z_in (nI b) 2 := (ni_in (by omega)).mpr hb
    have hl' : gI S 402 (nI b).toNatClampNeg = nI (p_L P) := by rw [nI_clamp (by omega)]; exact hl
    have es : (1 : Int32) <<< (nI (p_L P) &&& (31 : Int32)) = nI (2 ^ p_L P) := ni_shl (by omega)
    rw [if_pos z2, hl', es, b244_23_eq d S hW] at e
    by_cases c2 : 2 ^ p_L P ≤ j
    · rw [if_pos (nI_le c2 (by omega))] at e
      rw [decide_eq_false (by omega)]; exact e
    · rw [if_neg (nI_ge (by omega) (by omega))] at e
      rw [decide_eq_true (by omega)]; exact e
end BM
