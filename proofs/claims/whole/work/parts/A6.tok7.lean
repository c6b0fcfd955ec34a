/-! THE TEXT: the reference's numbers. -/
section GG
variable {d : Nat} {T : List Nat}
theorem m163_d {s : Nat} : ∀ (m j : Nat) (S : z_S), s + j + m = T.length → mTx S T → gI S 396 6 = nI (g_dv T s (min j 4)) → gI S 396 12 = eO (g_lx T s 4 j) → g_rn g_d T s = g_rn g_d T (s + j) → ∃ S', b163_204 (d + 1) (nI (s + j)) (0 : Int32) (1 : Int32) (4 : Int32) (nI j) S = some S' ∧ onM tDm S S' ∧ gI S' 396 3 = gI S 396 3 ∧ gI S' 396 4 = gI S 396 4 ∧ gI S' 396 5 = nI (g_rn g_d T s) ∧ gI S' 396 6 = nI (g_dv T s (min (g_rn g_d T s - s) 4)) ∧ gI S' 396 12 = eO (g_lx T s 4 (g_rn g_d T s - s))
  | m, j, S, hj, h, h7, h12, he => by
    have h1600 := h.2.2.1
    have e := b163_204_eq (d + 1) (nI (s + j)) (0 : Int32) (1 : Int32) (4 : Int32) (nI j) S h.1
    have fin : g_rn g_d T s = s + j → ∃ S', some (sI S 396 5 (nI (s + j))) = some S' ∧ onM tDm S S' ∧ gI S' 396 3 = gI S 396 3 ∧ gI S' 396 4 = gI S 396 4 ∧ gI S' 396 5 = nI (g_rn g_d T s) ∧ gI S' 396 6 = nI (g_dv T s (min (g_rn g_d T s - s) 4)) ∧ gI S' 396 12 = eO (g_lx T s 4 (g_rn g_d T s - s)) := fun z => by
      rw [z, show s + j - s = j by omega]
      refine ⟨_, rfl, onM_sI (D := tDm) (c := 396) (k := 5) (onM.refl h.1) ⟨rfl, by omega⟩, ?_, ?_, ?_, ?_, ?_⟩
      · simp (disch := omega) only [ni_lit, nI_add, pk_mul, pk_sub, pk_div, nI_leI, nI_ltI, nI_eq, nI_clamp, ni_in, ni_inm, ni_ltm, ni_mlt, ni_lem, ni_mle, ni_eqm, ni_meq, ni_mm, ni_mmle, ni_bit, ni_shl, ni_clr, fa_or, Nat.add_zero, Nat.zero_add, Nat.zero_mul, Nat.mul_zero, eOn, eOs, if_true, if_false, not_true_eq_false, not_false_eq_true, ite_true, ite_false, true_and, and_true, false_and, and_false, or_true, true_or, or_false, false_or, Bool.false_eq_true, reduceIte, Bool.not_true, Bool.not_false, and_self, or_self, q_ef, q_et, q_ltt, q_ltf, q_let, q_lef, gIs, gIl, gIr, gLs, gLl, gLr, gPs, gPl, gPr, gLc, gPc, zb_some, Option.bind_some, q_nm, q_pm, q_hm, q_tm, q_sm, q_wm, q_ym, q_lm, q_ua]
      · simp (disch := omega) only [ni_lit, nI_add, pk_mul, pk_sub, pk_div, nI_leI, nI_ltI, nI_eq, nI_clamp, ni_in, ni_inm, ni_ltm, ni_mlt, ni_lem, ni_mle, ni_eqm, ni_meq, ni_mm, ni_mmle, ni_bit, ni_shl, ni_clr, fa_or, Nat.add_zero, Nat.zero_add, Nat.zero_mul, Nat.mul_zero, eOn, eOs, if_true, if_false, not_true_eq_false, not_false_eq_true, ite_true, ite_false, true_and, and_true, false_and, and_false, or_true, true_or, or_false, false_or, Bool.false_eq_true, reduceIte, Bool.not_true, Bool.not_false, and_self, or_self, q_ef, q_et, q_ltt, q_ltf, q_let, q_lef, gIs, gIl, gIr, gLs, gLl, gLr, gPs, gPl, gPr, gLc, gPc, zb_some, Option.bind_some, q_nm, q_pm, q_hm, q_tm, q_sm, q_wm, q_ym, q_lm, q_ua]
      · simp (disch := omega) only [ni_lit, nI_add, pk_mul, pk_sub, pk_div, nI_leI, nI_ltI, nI_eq, nI_clamp, ni_in, ni_inm, ni_ltm, ni_mlt, ni_lem, ni_mle, ni_eqm, ni_meq, ni_mm, ni_mmle, ni_bit, ni_shl, ni_clr, fa_or, Nat.add_zero, Nat.zero_add, Nat.zero_mul, Nat.mul_zero, eOn, eOs, if_true, if_false, not_true_eq_false, not_false_eq_true, ite_true, ite_false, true_and, and_true, false_and, and_false, or_true, true_or, or_false, false_or, Bool.false_eq_true, reduceIte, Bool.not_true, Bool.not_false, and_self, or_self, q_ef, q_et, q_ltt, q_ltf, q_let, q_lef, gIs, gIl, gIr, gLs, gLl, gLr, gPs, gPl, gPr, gLc, gPc, zb_some, Option.bind_some, q_nm, q_pm, q_hm, q_tm, q_sm, q_wm, q_ym, q_lm, q_ua]
      · rw [← h7]; simp (disch := omega) only [ni_lit, nI_add, pk_mul, pk_sub, pk_div, nI_leI, nI_ltI, nI_eq, nI_clamp, ni_in, ni_inm, ni_ltm, ni_mlt, ni_lem, ni_mle, ni_eqm, ni_meq, ni_mm, ni_mmle, ni_bit, ni_shl, ni_clr, fa_or, Nat.add_zero, Nat.zero_add, Nat.zero_mul, Nat.mul_zero, eOn, eOs, if_true, if_false, not_true_eq_false, not_false_eq_true, ite_true, ite_false, true_and, and_true, false_and, and_false, or_true, true_or, or_false, false_or, Bool.false_eq_true, reduceIte, Bool.not_true, Bool.not_false, and_self, or_self, q_ef, q_et, q_ltt, q_ltf, q_let, q_lef, gIs, gIl, gIr, gLs, gLl, gLr, gPs, gPl, gPr, gLc, gPc, zb_some, Option.bind_some, q_nm, q_pm, q_hm, q_tm, q_sm, q_wm, q_ym, q_lm, q_ua]
      · rw [← h12]; simp (disch := omega) only [ni_lit, nI_add, pk_mul, pk_sub, pk_div, nI_leI, nI_ltI, nI_eq, nI_clamp, ni_in, ni_inm, ni_ltm, ni_mlt, ni_lem, ni_mle, ni_eqm, ni_meq, ni_mm, ni_mmle, ni_bit, ni_shl, ni_clr, fa_or, Nat.add_zero, Nat.zero_add, Nat.zero_mul, Nat.mul_zero, eOn, eOs, if_true, if_false, not_true_eq_false, not_false_eq_true, ite_true, ite_false, true_and, and_true, false_and, and_false, or_true, true_or, or_false, false_or, Bool.false_eq_true, reduceIte, Bool.not_true, Bool.not_false, and_self, or_self, q_ef, q_et, q_ltt, q_ltf, q_let, q_lef, gIs, gIl, gIr, gLs, gLl, gLr, gPs, gPl, gPr, gLc, gPc, zb_some, Option.bind_some, q_nm, q_pm, q_hm, q_tm, q_sm, q_wm, q_ym, q_lm, q_ua]
    by_cases c1 : s + j < T.length
    · obtain ⟨z1, z2⟩ := h.at c1
      have hb := (h.2.2.2 _ c1).2
      rw [h.2.1, if_neg (nI_ge c1 (by omega)), if_pos (show (0 : Int32) = 0 from rfl), if_pos z1, z2, m161 h.1 hb, zb_some] at e
      cases c2 : g_d (g_t T (s + j)) with
      | false =>
        rw [c2, if_pos (by decide)] at e
        rw [e]
        exact fin (by rw [he, g_rn_n c1 c2])
      | true =>
        rw [c2, if_neg (by decide)] at e
        rw [g_rn_y c1 c2] at he
        match m with
        | 0 => omega
        | m + 1 =>
          have hc := g_d_i.mp c2
          have e2 := b163_243_eq (d + 1) (nI (s + j)) (0 : Int32) (1 : Int32) (4 : Int32) (nI j) S h.1
          have g3 : ∀ S1, z_W S1 → b163_325 (d + 1) (nI (s + j)) (0 : Int32) (1 : Int32) (4 : Int32) (nI j) S1 = b163_204 (d + 1) (nI (s + (j + 1))) (0 : Int32) (1 : Int32) (4 : Int32) (nI (j + 1)) S1 := fun S1 w => by
            rw [b163_325_eq (d + 1) (nI (s + j)) (0 : Int32) (1 : Int32) (4 : Int32) (nI j) S1 w, nI_1, nI_1, Nat.add_assoc]
          have go : ∀ S1, onM tDm S S1 → gI S1 396 3 = gI S 396 3 → gI S1 396 4 = gI S 396 4 → gI S1 396 6 = gI S 396 6 → gI S1 396 12 = eO (g_lx T s 4 (j + 1)) → ∃ S', b163_263 (d + 1) (nI (s + j)) (0 : Int32) (1 : Int32) (4 : Int32) (nI j) S1 = some S' ∧ onM tDm S S' ∧ gI S' 396 3 = gI S 396 3 ∧ gI S' 396 4 = gI S 396 4 ∧ gI S' 396 5 = nI (g_rn g_d T s) ∧ gI S' 396 6 = nI (g_dv T s (min (g_rn g_d T s - s) 4)) ∧ gI S' 396 12 = eO (g_lx T s 4 (g_rn g_d T s - s)) := fun S1 o1 k3 k4 k7 k12 => by
            have hx1 : mTx S1 T := h.on o1 fun c k z => by unfold tDm at z; omega
            have e3 := b163_263_eq (d + 1) (nI (s + j)) (0 : Int32) (1 : Int32) (4 : Int32) (nI j) S1 o1.W
            rw [if_pos (show (0 : Int32) = 0 from rfl), ite_self] at e3
            have e4 := b163_293_eq (d + 1) (nI (s + j)) (0 : Int32) (1 : Int32) (4 : Int32) (nI j) S1 o1.W
            by_cases c6 : j < 4
            · have ev : ((10 : Int32) * gI S1 396 6) + nI (g_t T (s + j)) - (48 : Int32) = nI (g_dv T s (min (j + 1) 4)) := by
                rw [k7, h7, Nat.min_eq_left (by omega), Nat.min_eq_left (by omega), g_dv]
                simp (disch := omega) only [ni_lit, nI_add, pk_mul, pk_sub, pk_div, nI_leI, nI_ltI, nI_eq, nI_clamp, ni_in, ni_inm, ni_ltm, ni_mlt, ni_lem, ni_mle, ni_eqm, ni_meq, ni_mm, ni_mmle, ni_bit, ni_shl, ni_clr, fa_or, Nat.add_zero, Nat.zero_add, Nat.zero_mul, Nat.mul_zero, eOn, eOs, if_true, if_false, not_true_eq_false, not_false_eq_true, ite_true, ite_false, true_and, and_true, false_and, and_false, or_true, true_or, or_false, false_or, Bool.false_eq_true, reduceIte, Bool.not_true, Bool.not_false, and_self, or_self, q_ef, q_et, q_ltt, q_ltf, q_let, q_lef, gIs, gIl, gIr, gLs, gLl, gLr, gPs, gPl, gPr, gLc, gPc, zb_some, Option.bind_some, q_nm, q_pm, q_hm, q_tm, q_sm, q_wm, q_ym, q_lm, q_ua]
                congr 1
                omega
              rw [if_neg (show ¬ (4 : Int32) ≤ nI j from nI_ge (a := j) (b := 4) c6 (by omega)), if_neg (show ¬ (1 : Int32) = 0 by decide), if_pos z1, (hx1.at c1).2, ev] at e4
              have W2 : z_W (sI S1 396 6 (nI (g_dv T s (min (j + 1) 4)))) := o1.W
              rw [g3 _ W2] at e4
              have o2 : onM tDm S1 (sI S1 396 6 (nI (g_dv T s (min (j + 1) 4)))) := onM_sI (D := tDm) (c := 396) (k := 6) (onM.refl o1.W) ⟨rfl, by omega⟩
              have u3 : ∀ k, k ≠ 6 → gI (sI S1 396 6 (nI (g_dv T s (min (j + 1) 4)))) 396 k = gI S1 396 k := fun k hk => by rw [gIs, if_pos rfl, if_neg hk]
              have u7 : gI (sI S1 396 6 (nI (g_dv T s (min (j + 1) 4)))) 396 6 = nI (g_dv T s (min (j + 1) 4)) := by rw [gIs, if_pos rfl, if_pos rfl]
              generalize hS2 : sI S1 396 6 (nI (g_dv T s (min (j + 1) 4))) = S2 at *
              obtain ⟨S', q1, q2, q3, q4, q5, q6, q7⟩ := m163_d m (j + 1) S2 (by omega) (hx1.on o2 fun c k z => by unfold tDm at z; omega) u7 (by rw [u3 12 (by omega)]; exact k12) he
              exact ⟨S', (e3.trans e4).trans q1, (o1.trans o2).trans q2, by rw [q3, u3 3 (by omega), k3], by rw [q4, u3 4 (by omega), k4], q5, q6, q7⟩
            · rw [if_pos (show (4 : Int32) ≤ nI j from nI_le (a := 4) (by omega) (by omega)), g3 _ o1.W] at e4
              obtain ⟨S', q1, q2, q3, q4, q5, q6, q7⟩ := m163_d m (j + 1) S1 (by omega) hx1 (by rw [k7, h7, Nat.min_eq_right (by omega), Nat.min_eq_right (by omega)]) k12 he
              exact ⟨S', (e3.trans e4).trans q1, o1.trans q2, by rw [q3, k3], by rw [q4, k4], q5, q6, q7⟩
          by_cases c6 : j = 4
          · rw [c6, if_neg (show ¬ ¬ nI 4 = (4 : Int32) from fun z => z rfl)] at e2
            rw [← c6] at e2
            cases ha : g_ad T s with
            | true =>
              have hl6 : gI S 396 12 = nI s := by rw [h12]; unfold g_lx; rw [ha, if_pos rfl]; rfl
              rw [hl6, if_pos (show ¬ nI s = (-1 : Int32) from fun z => (ni_eqm (a := s) (by omega)).mp z)] at e2
              obtain ⟨S', q1, q2⟩ := go S (onM.refl h.1) rfl rfl rfl (by rw [hl6]; unfold g_lx; rw [ha, if_pos rfl]; rfl)
              exact ⟨S', (e.trans e2).trans q1, q2⟩
            | false =>
              have hl6 : gI S 396 12 = -nI 1 := by rw [h12, c6]; unfold g_lx; rw [ha, if_neg (by decide), if_neg (by omega)]; rfl
              rw [hl6, if_neg (show ¬ ¬ -nI 1 = (-1 : Int32) from fun z => z rfl)] at e2
              obtain ⟨S', q1, q2⟩ := go (sI S 396 12 (nI (s + j))) (onM_sI (D := tDm) (c := 396) (k := 12) (onM.refl h.1) ⟨rfl, by omega⟩) (by simp (disch := omega) only [ni_lit, nI_add, pk_mul, pk_sub, pk_div, nI_leI, nI_ltI, nI_eq, nI_clamp, ni_in, ni_inm, ni_ltm, ni_mlt, ni_lem, ni_mle, ni_eqm, ni_meq, ni_mm, ni_mmle, ni_bit, ni_shl, ni_clr, fa_or, Nat.add_zero, Nat.zero_add, Nat.zero_mul, Nat.mul_zero, eOn, eOs, if_true, if_false, not_true_eq_false, not_false_eq_true, ite_true, ite_false, true_and, and_true, false_and, and_false, or_true, true_or, or_false, false_or, Bool.false_eq_true, reduceIte, Bool.not_true, Bool.not_false, and_self, or_self, q_ef, q_et, q_ltt, q_ltf, q_let, q_lef, gIs, gIl, gIr, gLs, gLl, gLr, gPs, gPl, gPr, gLc, gPc, zb_some, Option.bind_some, q_nm, q_pm, q_hm, q_tm, q_sm, q_wm, q_ym, q_lm, q_ua]) (by simp (disch := omega) only [ni_lit, nI_add, pk_mul, pk_sub, pk_div, nI_leI, nI_ltI, nI_eq, nI_clamp, ni_in, ni_inm, ni_ltm, ni_mlt, ni_lem, ni_mle, ni_eqm, ni_meq, ni_mm, ni_mmle, ni_bit, ni_shl, ni_clr, fa_or, Nat.add_zero, Nat.zero_add, Nat.zero_mul, Nat.mul_zero, eOn, eOs, if_true, if_false, not_true_eq_false, not_false_eq_true, ite_true, ite_false, true_and, and_true, false_and, and_false, or_true, true_or, or_false, false_or, Bool.false_eq_true, reduceIte, Bool.not_true, Bool.not_false, and_self, or_self, q_ef, q_et, q_ltt, q_ltf, q_let, q_lef, gIs, gIl, gIr, gLs, gLl, gLr, gPs, gPl, gPr, gLc, gPc, zb_some, Option.bind_some, q_nm, q_pm, q_hm, q_tm, q_sm, q_wm, q_ym, q_lm, q_ua]) (by simp (disch := omega) only [ni_lit, nI_add, pk_mul, pk_sub, pk_div, nI_leI, nI_ltI, nI_eq, nI_clamp, ni_in, ni_inm, ni_ltm, ni_mlt, ni_lem, ni_mle, ni_eqm, ni_meq, ni_mm, ni_mmle, ni_bit, ni_shl, ni_clr, fa_or, Nat.add_zero, Nat.zero_add, Nat.zero_mul, Nat.mul_zero, eOn, eOs, if_true, if_false, not_true_eq_false, not_false_eq_true, ite_true, ite_false, true_and, and_true, false_and, and_false, or_true, true_or, or_false, false_or, Bool.false_eq_true, reduceIte, Bool.not_true, Bool.not_false, and_self, or_self, q_ef, q_et, q_ltt, q_ltf, q_let, q_lef, gIs, gIl, gIr, gLs, gLl, gLr, gPs, gPl, gPr, gLc, gPc, zb_some, Option.bind_some, q_nm, q_pm, q_hm, q_tm, q_sm, q_wm, q_ym, q_lm, q_ua]) (by
                unfold g_lx
                rw [ha, if_neg (by decide), if_pos (by omega), c6]
                simp (disch := omega) only [ni_lit, nI_add, pk_mul, pk_sub, pk_div, nI_leI, nI_ltI, nI_eq, nI_clamp, ni_in, ni_inm, ni_ltm, ni_mlt, ni_lem, ni_mle, ni_eqm, ni_meq, ni_mm, ni_mmle, ni_bit, ni_shl, ni_clr, fa_or, Nat.add_zero, Nat.zero_add, Nat.zero_mul, Nat.mul_zero, eOn, eOs, if_true, if_false, not_true_eq_false, not_false_eq_true, ite_true, ite_false, true_and, and_true, false_and, and_false, or_true, true_or, or_false, false_or, Bool.false_eq_true, reduceIte, Bool.not_true, Bool.not_false, and_self, or_self, q_ef, q_et, q_ltt, q_ltf, q_let, q_lef, gIs, gIl, gIr, gLs, gLl, gLr, gPs, gPl, gPr, gLc, gPc, zb_some, Option.bind_some, q_nm, q_pm, q_hm, q_tm, q_sm, q_wm, q_ym, q_lm, q_ua])
              exact ⟨S', (e.trans e2).trans q1, q2⟩
          · rw [if_pos (show ¬ nI j = (4 : Int32) from fun z => c6 ((nI_eq (b := 4) (by omega) (by omega)).mp z))] at e2
            obtain ⟨S', q1, q2⟩ := go S (onM.refl h.1) rfl rfl rfl (by
              rw [h12]
              unfold g_lx
              by_cases w : 4 < j
              · rw [if_pos w, if_pos (show 4 < j + 1 by omega)]
              · rw [if_neg w, if_neg (show ¬ 4 < j + 1 by omega)])
            exact ⟨S', (e.trans e2).trans q1, q2⟩
    · rw [h.2.1, if_pos (nI_le (by omega) (by omega))] at e
      rw [e]
      exact fin (by rw [he, g_rn_e (by omega)])
end GG
