/-! THE TEXT: the class goes on to the next token. -/
section GD
variable {d : Nat} {T : List Nat}
/-- what readNumber leaves -/
def xNm (S' : z_S) (T : List Nat) (s : Nat) : Prop := gI S' 19 7 = -nI 1 ∧ (g_rn g_d T s - s ≤ 4 → gI S' 19 4 = nI 2 ∧ gI S' 19 3 = nI (g_rn g_d T s) ∧ gI S' 19 6 = nI (g_dv T s (g_rn g_d T s - s)) ∧ gI S' 19 8 = nI s) ∧ (4 < g_rn g_d T s - s → gI S' 19 4 = nI 4 ∧ gI S' 19 8 = nI (s + 4))
theorem c100_l {s : Nat} : ∀ (m j : Nat) (S : z_S), j + m = 4 → cTx S T → s + j ≤ T.length → gI S 19 3 = nI (s + j) → gI S 19 4 = nI 2 → gI S 19 5 = nI s → gI S 19 6 = nI (g_dv T s j) → gI S 19 7 = -nI 1 → gI S 19 8 = nI s → g_rn g_d T s = g_rn g_d T (s + j) → ∃ S', b100_5 (d + 1) S = some S' ∧ onI tDw S S' ∧ xNm S' T s
  | m, j, S, hj, h, hs, h3, h4, h5, h6, h7, h8, he => by
    have h1600 := h.2.2.2.1
    have e := b100_5_eq (d + 1) S h.1
    by_cases c1 : s + j < T.length
    · obtain ⟨z1, z2⟩ := h.at c1 h3
      have hb := (h.2.2.2.2.1 (s + j) c1).2
      rw [h.2.2.1, h3, if_neg (nI_ge c1 (by omega)), ← h3, if_pos z1, z2, c102 h.1 hb, zb_some] at e
      cases c2 : g_d (g_t T (s + j)) with
      | false =>
        rw [c2, if_pos (by decide)] at e
        rw [g_rn_n c1 c2] at he
        refine ⟨S, e, onI.refl h.1, h7, fun _ => ?_, fun z => by omega⟩
        rw [he, show s + j - s = j by omega]
        exact ⟨h4, h3, h6, h8⟩
      | true =>
        rw [c2, if_neg (by decide)] at e
        have es : gI S 19 3 - gI S 19 5 = nI j := by rw [h3, h5, pk_sub (by omega), show s + j - s = j by omega]
        rw [es] at e
        have hy := g_rn_y c1 c2
        rw [hy] at he
        have hge := (g_rn_b (f := g_d) (T := T) (p := s + j + 1) (by omega)).1
        match m with
        | 0 =>
          have j6 : j = 4 := by omega
          rw [j6, if_neg (fun z => z rfl)] at e
          refine ⟨_, e, ?_, ?_, fun z => by omega, fun _ => ⟨?_, ?_⟩⟩
          · exact onI_sI (D := tDw) (c := 19) (k := 8) (onI_sI (D := tDw) (c := 19) (k := 4) (onI.refl h.1) ⟨rfl, by omega⟩) ⟨rfl, by omega⟩
          · simp (disch := omega) only [ni_lit, nI_add, pk_mul, pk_sub, pk_div, nI_leI, nI_ltI, nI_eq, nI_clamp, ni_in, ni_inm, ni_ltm, ni_mlt, ni_lem, ni_mle, ni_eqm, ni_meq, ni_mm, ni_mmle, ni_bit, ni_shl, ni_clr, fa_or, Nat.add_zero, Nat.zero_add, Nat.zero_mul, Nat.mul_zero, eOn, eOs, if_true, if_false, not_true_eq_false, not_false_eq_true, ite_true, ite_false, true_and, and_true, false_and, and_false, or_true, true_or, or_false, false_or, Bool.false_eq_true, reduceIte, Bool.not_true, Bool.not_false, and_self, or_self, q_ef, q_et, q_ltt, q_ltf, q_let, q_lef, gIs, gIl, gIr, gLs, gLl, gLr, gPs, gPl, gPr, gLc, gPc, zb_some, Option.bind_some, q_nm, q_pm, q_hm, q_tm, q_sm, q_wm, q_ym, q_lm, q_ua, h7]
          · simp (disch := omega) only [ni_lit, nI_add, pk_mul, pk_sub, pk_div, nI_leI, nI_ltI, nI_eq, nI_clamp, ni_in, ni_inm, ni_ltm, ni_mlt, ni_lem, ni_mle, ni_eqm, ni_meq, ni_mm, ni_mmle, ni_bit, ni_shl, ni_clr, fa_or, Nat.add_zero, Nat.zero_add, Nat.zero_mul, Nat.mul_zero, eOn, eOs, if_true, if_false, not_true_eq_false, not_false_eq_true, ite_true, ite_false, true_and, and_true, false_and, and_false, or_true, true_or, or_false, false_or, Bool.false_eq_true, reduceIte, Bool.not_true, Bool.not_false, and_self, or_self, q_ef, q_et, q_ltt, q_ltf, q_let, q_lef, gIs, gIl, gIr, gLs, gLl, gLr, gPs, gPl, gPr, gLc, gPc, zb_some, Option.bind_some, q_nm, q_pm, q_hm, q_tm, q_sm, q_wm, q_ym, q_lm, q_ua]
          · have : gI S 19 3 = nI (s + 4) := by rw [h3, j6]
            simp (disch := omega) only [ni_lit, nI_add, pk_mul, pk_sub, pk_div, nI_leI, nI_ltI, nI_eq, nI_clamp, ni_in, ni_inm, ni_ltm, ni_mlt, ni_lem, ni_mle, ni_eqm, ni_meq, ni_mm, ni_mmle, ni_bit, ni_shl, ni_clr, fa_or, Nat.add_zero, Nat.zero_add, Nat.zero_mul, Nat.mul_zero, eOn, eOs, if_true, if_false, not_true_eq_false, not_false_eq_true, ite_true, ite_false, true_and, and_true, false_and, and_false, or_true, true_or, or_false, false_or, Bool.false_eq_true, reduceIte, Bool.not_true, Bool.not_false, and_self, or_self, q_ef, q_et, q_ltt, q_ltf, q_let, q_lef, gIs, gIl, gIr, gLs, gLl, gLr, gPs, gPl, gPr, gLc, gPc, zb_some, Option.bind_some, q_nm, q_pm, q_hm, q_tm, q_sm, q_wm, q_ym, q_lm, q_ua, this]
        | m + 1 =>
          rw [if_pos (show ¬ nI j = (4 : Int32) from fun z => by have := (nI_eq (b := 4) (by omega) (by omega)).mp z; omega)] at e
          have hc := (g_d_i.mp c2)
          have ev : (gI S 19 6 * (10 : Int32)) + nI (g_t T (s + j)) - (48 : Int32) = nI (g_dv T s (j + 1)) := by
            rw [h6, g_dv]
            simp (disch := omega) only [ni_lit, nI_add, pk_mul, pk_sub, pk_div, nI_leI, nI_ltI, nI_eq, nI_clamp, ni_in, ni_inm, ni_ltm, ni_mlt, ni_lem, ni_mle, ni_eqm, ni_meq, ni_mm, ni_mmle, ni_bit, ni_shl, ni_clr, fa_or, Nat.add_zero, Nat.zero_add, Nat.zero_mul, Nat.mul_zero, eOn, eOs, if_true, if_false, not_true_eq_false, not_false_eq_true, ite_true, ite_false, true_and, and_true, false_and, and_false, or_true, true_or, or_false, false_or, Bool.false_eq_true, reduceIte, Bool.not_true, Bool.not_false, and_self, or_self, q_ef, q_et, q_ltt, q_ltf, q_let, q_lef, gIs, gIl, gIr, gLs, gLl, gLr, gPs, gPl, gPr, gLc, gPc, zb_some, Option.bind_some, q_nm, q_pm, q_hm, q_tm, q_sm, q_wm, q_ym, q_lm, q_ua]
            congr 1
            omega
          rw [if_pos z1, z2, ev] at e
          have e3 : gI (sI S 19 6 (nI (g_dv T s (j + 1)))) 19 3 + (1 : Int32) = nI (s + (j + 1)) := by
            simp (disch := omega) only [ni_lit, nI_add, pk_mul, pk_sub, pk_div, nI_leI, nI_ltI, nI_eq, nI_clamp, ni_in, ni_inm, ni_ltm, ni_mlt, ni_lem, ni_mle, ni_eqm, ni_meq, ni_mm, ni_mmle, ni_bit, ni_shl, ni_clr, fa_or, Nat.add_zero, Nat.zero_add, Nat.zero_mul, Nat.mul_zero, eOn, eOs, if_true, if_false, not_true_eq_false, not_false_eq_true, ite_true, ite_false, true_and, and_true, false_and, and_false, or_true, true_or, or_false, false_or, Bool.false_eq_true, reduceIte, Bool.not_true, Bool.not_false, and_self, or_self, q_ef, q_et, q_ltt, q_ltf, q_let, q_lef, gIs, gIl, gIr, gLs, gLl, gLr, gPs, gPl, gPr, gLc, gPc, zb_some, Option.bind_some, q_nm, q_pm, q_hm, q_tm, q_sm, q_wm, q_ym, q_lm, q_ua, h3, Nat.add_assoc]
          rw [e3] at e
          generalize hS1 : sI (sI S 19 6 (nI (g_dv T s (j + 1)))) 19 3 (nI (s + (j + 1))) = S1 at e
          have o1 : onI tDw S S1 := by
            rw [← hS1]
            exact onI_sI (D := tDw) (c := 19) (k := 3) (onI_sI (D := tDw) (c := 19) (k := 6) (onI.refl h.1) ⟨rfl, by omega⟩) ⟨rfl, by omega⟩
          obtain ⟨S', a1, a2, a3⟩ := c100_l m (j + 1) S1 (by omega) (h.on o1 fun c k z => by unfold tDw at z; omega) (by omega) (by rw [← hS1]; simp (disch := omega) only [ni_lit, nI_add, pk_mul, pk_sub, pk_div, nI_leI, nI_ltI, nI_eq, nI_clamp, ni_in, ni_inm, ni_ltm, ni_mlt, ni_lem, ni_mle, ni_eqm, ni_meq, ni_mm, ni_mmle, ni_bit, ni_shl, ni_clr, fa_or, Nat.add_zero, Nat.zero_add, Nat.zero_mul, Nat.mul_zero, eOn, eOs, if_true, if_false, not_true_eq_false, not_false_eq_true, ite_true, ite_false, true_and, and_true, false_and, and_false, or_true, true_or, or_false, false_or, Bool.false_eq_true, reduceIte, Bool.not_true, Bool.not_false, and_self, or_self, q_ef, q_et, q_ltt, q_ltf, q_let, q_lef, gIs, gIl, gIr, gLs, gLl, gLr, gPs, gPl, gPr, gLc, gPc, zb_some, Option.bind_some, q_nm, q_pm, q_hm, q_tm, q_sm, q_wm, q_ym, q_lm, q_ua]) (by rw [← hS1]; simp (disch := omega) only [ni_lit, nI_add, pk_mul, pk_sub, pk_div, nI_leI, nI_ltI, nI_eq, nI_clamp, ni_in, ni_inm, ni_ltm, ni_mlt, ni_lem, ni_mle, ni_eqm, ni_meq, ni_mm, ni_mmle, ni_bit, ni_shl, ni_clr, fa_or, Nat.add_zero, Nat.zero_add, Nat.zero_mul, Nat.mul_zero, eOn, eOs, if_true, if_false, not_true_eq_false, not_false_eq_true, ite_true, ite_false, true_and, and_true, false_and, and_false, or_true, true_or, or_false, false_or, Bool.false_eq_true, reduceIte, Bool.not_true, Bool.not_false, and_self, or_self, q_ef, q_et, q_ltt, q_ltf, q_let, q_lef, gIs, gIl, gIr, gLs, gLl, gLr, gPs, gPl, gPr, gLc, gPc, zb_some, Option.bind_some, q_nm, q_pm, q_hm, q_tm, q_sm, q_wm, q_ym, q_lm, q_ua, h4]) (by rw [← hS1]; simp (disch := omega) only [ni_lit, nI_add, pk_mul, pk_sub, pk_div, nI_leI, nI_ltI, nI_eq, nI_clamp, ni_in, ni_inm, ni_ltm, ni_mlt, ni_lem, ni_mle, ni_eqm, ni_meq, ni_mm, ni_mmle, ni_bit, ni_shl, ni_clr, fa_or, Nat.add_zero, Nat.zero_add, Nat.zero_mul, Nat.mul_zero, eOn, eOs, if_true, if_false, not_true_eq_false, not_false_eq_true, ite_true, ite_false, true_and, and_true, false_and, and_false, or_true, true_or, or_false, false_or, Bool.false_eq_true, reduceIte, Bool.not_true, Bool.not_false, and_self, or_self, q_ef, q_et, q_ltt, q_ltf, q_let, q_lef, gIs, gIl, gIr, gLs, gLl, gLr, gPs, gPl, gPr, gLc, gPc, zb_some, Option.bind_some, q_nm, q_pm, q_hm, q_tm, q_sm, q_wm, q_ym, q_lm, q_ua, h5]) (by rw [← hS1]; simp (disch := omega) only [ni_lit, nI_add, pk_mul, pk_sub, pk_div, nI_leI, nI_ltI, nI_eq, nI_clamp, ni_in, ni_inm, ni_ltm, ni_mlt, ni_lem, ni_mle, ni_eqm, ni_meq, ni_mm, ni_mmle, ni_bit, ni_shl, ni_clr, fa_or, Nat.add_zero, Nat.zero_add, Nat.zero_mul, Nat.mul_zero, eOn, eOs, if_true, if_false, not_true_eq_false, not_false_eq_true, ite_true, ite_false, true_and, and_true, false_and, and_false, or_true, true_or, or_false, false_or, Bool.false_eq_true, reduceIte, Bool.not_true, Bool.not_false, and_self, or_self, q_ef, q_et, q_ltt, q_ltf, q_let, q_lef, gIs, gIl, gIr, gLs, gLl, gLr, gPs, gPl, gPr, gLc, gPc, zb_some, Option.bind_some, q_nm, q_pm, q_hm, q_tm, q_sm, q_wm, q_ym, q_lm, q_ua]) (by rw [← hS1]; simp (disch := omega) only [ni_lit, nI_add, pk_mul, pk_sub, pk_div, nI_leI, nI_ltI, nI_eq, nI_clamp, ni_in, ni_inm, ni_ltm, ni_mlt, ni_lem, ni_mle, ni_eqm, ni_meq, ni_mm, ni_mmle, ni_bit, ni_shl, ni_clr, fa_or, Nat.add_zero, Nat.zero_add, Nat.zero_mul, Nat.mul_zero, eOn, eOs, if_true, if_false, not_true_eq_false, not_false_eq_true, ite_true, ite_false, true_and, and_true, false_and, and_false, or_true, true_or, or_false, false_or, Bool.false_eq_true, reduceIte, Bool.not_true, Bool.not_false, and_self, or_self, q_ef, q_et, q_ltt, q_ltf, q_let, q_lef, gIs, gIl, gIr, gLs, gLl, gLr, gPs, gPl, gPr, gLc, gPc, zb_some, Option.bind_some, q_nm, q_pm, q_hm, q_tm, q_sm, q_wm, q_ym, q_lm, q_ua, h7]) (by rw [← hS1]; simp (disch := omega) only [ni_lit, nI_add, pk_mul, pk_sub, pk_div, nI_leI, nI_ltI, nI_eq, nI_clamp, ni_in, ni_inm, ni_ltm, ni_mlt, ni_lem, ni_mle, ni_eqm, ni_meq, ni_mm, ni_mmle, ni_bit, ni_shl, ni_clr, fa_or, Nat.add_zero, Nat.zero_add, Nat.zero_mul, Nat.mul_zero, eOn, eOs, if_true, if_false, not_true_eq_false, not_false_eq_true, ite_true, ite_false, true_and, and_true, false_and, and_false, or_true, true_or, or_false, false_or, Bool.false_eq_true, reduceIte, Bool.not_true, Bool.not_false, and_self, or_self, q_ef, q_et, q_ltt, q_ltf, q_let, q_lef, gIs, gIl, gIr, gLs, gLl, gLr, gPs, gPl, gPr, gLc, gPc, zb_some, Option.bind_some, q_nm, q_pm, q_hm, q_tm, q_sm, q_wm, q_ym, q_lm, q_ua, h8]) he
          exact ⟨S', e.trans a1, o1.trans a2, a3⟩
    · rw [h.2.2.1, h3, if_pos (nI_le (by omega) (by omega))] at e
      rw [g_rn_e (p := s + j) (by omega)] at he
      refine ⟨S, e, onI.refl h.1, h7, fun _ => ?_, fun z => by omega⟩
      rw [he, show s + j - s = j by omega]
      exact ⟨h4, h3, h6, h8⟩
theorem c100 {s : Nat} {S : z_S} (h : cTx S T) (hs : s ≤ T.length) (h3 : gI S 19 3 = nI s) (h5 : gI S 19 5 = nI s) (h6 : gI S 19 6 = nI 0) (h7 : gI S 19 7 = -nI 1) (h8 : gI S 19 8 = nI s) : ∃ S', fV (d + 2) 100 [.ref 19] S = some S' ∧ onI tDw S S' ∧ xNm S' T s := by
  have e := e100 (d + 1) S h.1
  have o1 : onI tDw S (sI S 19 4 (2 : Int32)) := onI_sI (D := tDw) (c := 19) (k := 4) (onI.refl h.1) ⟨rfl, by omega⟩
  have n4 : ∀ k, k ≠ 4 → gI (sI S 19 4 (2 : Int32)) 19 k = gI S 19 k := fun k hk => by rw [gIs, if_pos rfl, if_neg hk]
  have v4 : gI (sI S 19 4 (2 : Int32)) 19 4 = nI 2 := by rw [gIs, if_pos rfl, if_pos rfl]; rfl
  generalize hS1 : sI S 19 4 (2 : Int32) = S1 at *
  obtain ⟨S', a1, a2, a3⟩ := c100_l (d := d) (s := s) 4 0 S1 (by omega) (h.on o1 fun c k z => by unfold tDw at z; omega) (by omega) (by rw [n4 3 (by omega)]; exact h3) v4 (by rw [n4 5 (by omega)]; exact h5) (by rw [n4 6 (by omega)]; exact h6) (by rw [n4 7 (by omega)]; exact h7) (by rw [n4 8 (by omega)]; exact h8) rfl
  exact ⟨S', e.trans a1, o1.trans a2, a3⟩
/-- the token behind p, as the class has it -/
def cTk (S : z_S) (T : List Nat) (p : Nat) : Prop := cTx S T ∧ p ≤ T.length ∧ gI S 19 4 = nI (g_kd T p) ∧ gI S 19 5 = nI (g_st T p) ∧ gI S 19 8 = nI (g_ft T p) ∧ (g_kd T p ≠ 4 → gI S 19 3 = nI (g_en T p)) ∧ (g_kd T p = 1 → gI S 19 6 = nI (q_nv (g_wl T p))) ∧ (g_kd T p = 2 ∨ g_kd T p = 3 → gI S 19 6 = nI (g_vl T p)) ∧ (g_ok T p → gI S 19 7 = eO (if g_kd T p = 1 then g_oi (g_wl T p) 24 else none))
theorem cTk.on {S S' : z_S} {D : Nat → Nat → Prop} {p : Nat} (h : cTk S T p) (ho : onI D S S') (hd : ∀ c k, D c k → 2 ≤ c ∧ c ≤ 18) : cTk S' T p := by
  obtain ⟨h1, h2, h3, h4, h5, h6, h7, h8, h9⟩ := h
  have g : ∀ k, gI S' 19 k = gI S 19 k := fun k => ho.I fun z => by have := hd _ _ z; omega
  refine ⟨h1.on ho fun c k z => Or.inl (hd c k z), h2, ?_⟩
  rw [g, g, g, g, g, g]
  exact ⟨h3, h4, h5, h6, h7, h8, h9⟩
def tDa : Nat → Nat → Prop := fun c k => c = 19 ∧ 3 ≤ k ∧ k ≤ 8
/-- the last test of advance -/
theorem c98_e {S : z_S} {p k0 : Nat} (h : cTx S T) (hp : p ≤ T.length) (hk : p < T.length → ((k0 = 1 ∨ k0 = 2) ↔ g_ad T p = true)) (hs : gI S 19 5 = nI (g_st T p)) (hkd : ∃ kr, kr ≤ 4 ∧ gI S 19 4 = nI kr ∧ ((kr = 0 ∨ kr = 3) ↔ (g_kd T p = 0 ∨ g_kd T p = 3)) ∧ (g_ad T (g_st T p) = false ∨ kr = 0 ∨ kr = 3 → kr = g_kd T p ∧ gI S 19 8 = nI (g_ft T p))) (h3 : g_kd T p ≠ 4 → gI S 19 3 = nI (g_en T p)) (h1 : g_kd T p = 1 → gI S 19 6 = nI (q_nv (g_wl T p))) (h2 : g_kd T p = 2 ∨ g_kd T p = 3 → gI S 19 6 = nI (g_vl T p)) (h7 : g_ok T p → gI S 19 7 = eO (if g_kd T p = 1 then g_oi (g_wl T p) 24 else none)) : ∃ S', b98_196 d (bI (decide (k0 = 1 ∨ k0 = 2))) (nI p) S = some S' ∧ onI tDa S S' ∧ cTk S' T p := by
  have h1600 := h.2.2.2.1
  have hsb := g_st_b hp
  obtain ⟨kr, k1, k2, k3, k4⟩ := hkd
  have e := b98_196_eq d (bI (decide (k0 = 1 ∨ k0 = 2))) (nI p) S h.1
  rw [hs, k2] at e
  have plain : (g_ad T (g_st T p) = false ∨ kr = 0 ∨ kr = 3) → cTk S T p := fun z => by
    obtain ⟨q1, q2⟩ := k4 z
    exact ⟨h, hp, by rw [k2, q1], hs, q2, h3, h1, h2, h7⟩
  by_cases cb : k0 = 1 ∨ k0 = 2
  · rw [decide_eq_true cb] at e ⊢
    rw [if_neg (by decide)] at e
    by_cases cs : p = g_st T p
    · rw [if_neg (fun z => z (by rw [← cs]))] at e
      by_cases c0 : kr = 0
      · rw [c0, if_pos (show nI 0 = (0 : Int32) from rfl)] at e
        exact ⟨S, e, onI.refl h.1, plain (Or.inr (Or.inl c0))⟩
      · rw [if_neg (show ¬ nI kr = (0 : Int32) from fun z => c0 ((nI_eq (b := 0) (by omega) (by omega)).mp z))] at e
        by_cases c3 : kr = 3
        · rw [c3, if_pos (show nI 3 = (3 : Int32) from rfl)] at e
          exact ⟨S, e, onI.refl h.1, plain (Or.inr (Or.inr c3))⟩
        · rw [if_neg (show ¬ nI kr = (3 : Int32) from fun z => c3 ((nI_eq (b := 3) (by omega) (by omega)).mp z))] at e
          have hn : ¬ (g_kd T p = 0 ∨ g_kd T p = 3) := fun z => by have := k3.mpr z; omega
          have hlt : g_st T p < T.length := by
            apply Classical.byContradiction
            intro z
            exact hn (Or.inl (g_kd_0.mpr z))
          have had : g_ad T (g_st T p) = true := by rw [← cs]; exact (hk (by omega)).mp cb
          have hk4 : g_kd T p = 4 := by
            have h4 := g_kd_le (T := T) (p := p)
            have n1 : g_kd T p ≠ 1 := fun z => by rw [(g_kd_1 z).2.2.1] at had; cases had
            have n2 : g_kd T p ≠ 2 := fun z => by rw [(g_kd_2 z).2.2.1] at had; cases had
            omega
          have hft : g_ft T p = g_st T p := by unfold g_ft; rw [if_pos hk4, had, if_pos rfl]
          refine ⟨_, e, ?_, h.on (D := tDa) ?_ (fun c k z => by unfold tDa at z; omega), hp, ?_, ?_, ?_, fun z => absurd hk4 z, fun z => by omega, fun z => by omega, fun z => ?_⟩
          · exact onI_sI (D := tDa) (c := 19) (k := 8) (onI_sI (D := tDa) (c := 19) (k := 4) (onI.refl h.1) ⟨rfl, by omega, by omega⟩) ⟨rfl, by omega, by omega⟩
          · exact onI_sI (D := tDa) (c := 19) (k := 8) (onI_sI (D := tDa) (c := 19) (k := 4) (onI.refl h.1) ⟨rfl, by omega, by omega⟩) ⟨rfl, by omega, by omega⟩
          · rw [hk4]; simp (disch := omega) only [ni_lit, nI_add, pk_mul, pk_sub, pk_div, nI_leI, nI_ltI, nI_eq, nI_clamp, ni_in, ni_inm, ni_ltm, ni_mlt, ni_lem, ni_mle, ni_eqm, ni_meq, ni_mm, ni_mmle, ni_bit, ni_shl, ni_clr, fa_or, Nat.add_zero, Nat.zero_add, Nat.zero_mul, Nat.mul_zero, eOn, eOs, if_true, if_false, not_true_eq_false, not_false_eq_true, ite_true, ite_false, true_and, and_true, false_and, and_false, or_true, true_or, or_false, false_or, Bool.false_eq_true, reduceIte, Bool.not_true, Bool.not_false, and_self, or_self, q_ef, q_et, q_ltt, q_ltf, q_let, q_lef, gIs, gIl, gIr, gLs, gLl, gLr, gPs, gPl, gPr, gLc, gPc, zb_some, Option.bind_some, q_nm, q_pm, q_hm, q_tm, q_sm, q_wm, q_ym, q_lm, q_ua]
          · simp (disch := omega) only [ni_lit, nI_add, pk_mul, pk_sub, pk_div, nI_leI, nI_ltI, nI_eq, nI_clamp, ni_in, ni_inm, ni_ltm, ni_mlt, ni_lem, ni_mle, ni_eqm, ni_meq, ni_mm, ni_mmle, ni_bit, ni_shl, ni_clr, fa_or, Nat.add_zero, Nat.zero_add, Nat.zero_mul, Nat.mul_zero, eOn, eOs, if_true, if_false, not_true_eq_false, not_false_eq_true, ite_true, ite_false, true_and, and_true, false_and, and_false, or_true, true_or, or_false, false_or, Bool.false_eq_true, reduceIte, Bool.not_true, Bool.not_false, and_self, or_self, q_ef, q_et, q_ltt, q_ltf, q_let, q_lef, gIs, gIl, gIr, gLs, gLl, gLr, gPs, gPl, gPr, gLc, gPc, zb_some, Option.bind_some, q_nm, q_pm, q_hm, q_tm, q_sm, q_wm, q_ym, q_lm, q_ua, hs]
          · rw [hft]; simp (disch := omega) only [ni_lit, nI_add, pk_mul, pk_sub, pk_div, nI_leI, nI_ltI, nI_eq, nI_clamp, ni_in, ni_inm, ni_ltm, ni_mlt, ni_lem, ni_mle, ni_eqm, ni_meq, ni_mm, ni_mmle, ni_bit, ni_shl, ni_clr, fa_or, Nat.add_zero, Nat.zero_add, Nat.zero_mul, Nat.mul_zero, eOn, eOs, if_true, if_false, not_true_eq_false, not_false_eq_true, ite_true, ite_false, true_and, and_true, false_and, and_false, or_true, true_or, or_false, false_or, Bool.false_eq_true, reduceIte, Bool.not_true, Bool.not_false, and_self, or_self, q_ef, q_et, q_ltt, q_ltf, q_let, q_lef, gIs, gIl, gIr, gLs, gLl, gLr, gPs, gPl, gPr, gLc, gPc, zb_some, Option.bind_some, q_nm, q_pm, q_hm, q_tm, q_sm, q_wm, q_ym, q_lm, q_ua, hs]
          · have := h7 z
            rw [← this]
            simp (disch := omega) only [ni_lit, nI_add, pk_mul, pk_sub, pk_div, nI_leI, nI_ltI, nI_eq, nI_clamp, ni_in, ni_inm, ni_ltm, ni_mlt, ni_lem, ni_mle, ni_eqm, ni_meq, ni_mm, ni_mmle, ni_bit, ni_shl, ni_clr, fa_or, Nat.add_zero, Nat.zero_add, Nat.zero_mul, Nat.mul_zero, eOn, eOs, if_true, if_false, not_true_eq_false, not_false_eq_true, ite_true, ite_false, true_and, and_true, false_and, and_false, or_true, true_or, or_false, false_or, Bool.false_eq_true, reduceIte, Bool.not_true, Bool.not_false, and_self, or_self, q_ef, q_et, q_ltt, q_ltf, q_let, q_lef, gIs, gIl, gIr, gLs, gLl, gLr, gPs, gPl, gPr, gLc, gPc, zb_some, Option.bind_some, q_nm, q_pm, q_hm, q_tm, q_sm, q_wm, q_ym, q_lm, q_ua]
    · rw [if_pos (fun z => cs ((nI_eq (by omega) (by omega)).mp z))] at e
      exact ⟨S, e, onI.refl h.1, plain (Or.inl (g_st_ad hp (by omega)))⟩
  · rw [decide_eq_false cb] at e ⊢
    rw [if_pos (by decide)] at e
    refine ⟨S, e, onI.refl h.1, plain ?_⟩
    by_cases cs : p = g_st T p
    · by_cases hlt : p < T.length
      · left
        rw [← cs]
        cases ha : g_ad T p with
        | false => rfl
        | true => exact absurd ((hk hlt).mpr ha) cb
      · right
        have : g_kd T p = 0 := g_kd_0.mpr (by omega)
        exact k3.mpr (Or.inl this)
    · exact Or.inl (g_st_ad hp (by omega))
end GD
