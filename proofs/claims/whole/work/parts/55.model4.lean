/-! THE REFERENCE: the bench, going away, a night. -/
theorem q_erase {l : List Nat} {i : Nat} (j : Nat) : (l.eraseIdx i).getD j 0 = if j < i then l.getD j 0 else l.getD (j + 1) 0 := by
  rw [List.getD_eq_getElem?_getD, List.getElem?_eraseIdx, List.getD_eq_getElem?_getD, List.getD_eq_getElem?_getD]
  split
  · rfl
  · rfl
theorem q_eraseL (a : List Nat) (k : Nat) (r : List Nat) : (a ++ k :: r).eraseIdx a.length = a ++ r := by
  rw [List.eraseIdx_append_of_length_le (Nat.le_refl _)]
  simp
theorem q_ix_split {k : Nat} : ∀ (l : List Nat) (i j : Nat), q_ix l k i = some j → ∃ a r, l = a ++ k :: r ∧ j = i + a.length
  | [], i, j, h => by cases h
  | x :: l, i, j, h => by
    rw [q_ix] at h
    by_cases c : x = k
    · rw [if_pos c] at h
      cases h
      exact ⟨[], l, by rw [c]; rfl, by simp⟩
    · rw [if_neg c] at h
      obtain ⟨a, r, h1, h2⟩ := q_ix_split l (i + 1) j h
      exact ⟨x :: a, r, by rw [h1]; rfl, by simp; omega⟩
section ME
variable {d b v : Nat} {S : z_S} {P : q_Pl} {s : q_St}
theorem m221_l {n : Nat} {c : Nat → Int32} (hv : v < 22) (hn : n ≤ 6) (hn0 : 0 < n) : ∀ (m k : Nat) (S : z_S), k + m = n - 1 → z_W S → gI S 425 v = nI n → (∀ j, k ≤ j → j < n → gI S 426 (6 * v + j) = c j) → ∃ S', b221_2 d (nI v) (nI k) S = some S' ∧ onM (fun c k => c = 425 ∧ k = v ∨ c = 426 ∧ 6 * v ≤ k ∧ k < 6 * v + 6) S S' ∧ gI S' 425 v = nI (n - 1) ∧ (∀ j, j < k → gI S' 426 (6 * v + j) = gI S 426 (6 * v + j)) ∧ ∀ j, k ≤ j → j < n - 1 → gI S' 426 (6 * v + j) = c (j + 1)
  | 0, k, S, hk, hW, h1, h2 => by
    have e := b221_2_eq d (nI v) (nI k) S hW
    simp (disch := omega) only [ni_lit, nI_add, pk_mul, pk_sub, pk_div, nI_leI, nI_ltI, nI_eq, nI_clamp, ni_in, ni_inm, ni_ltm, ni_mlt, ni_lem, ni_mle, ni_eqm, ni_meq, ni_mm, ni_mmle, ni_bit, ni_shl, ni_clr, fa_or, Nat.add_zero, Nat.zero_add, Nat.zero_mul, Nat.mul_zero, eOn, eOs, if_true, if_false, not_true_eq_false, not_false_eq_true, ite_true, ite_false, true_and, and_true, false_and, and_false, or_true, true_or, or_false, false_or, Bool.false_eq_true, reduceIte, Bool.not_true, Bool.not_false, and_self, or_self, q_ef, q_et, q_ltt, q_ltf, q_let, q_lef, gIs, gIl, gIr, gLs, gLl, gLr, gPs, gPl, gPr, gLc, gPc, zb_some, Option.bind_some, q_nm, q_pm, q_hm, q_tm, q_sm, q_wm, q_ym, q_lm, q_ua, h1] at e
    refine ⟨_, e, onM_sI (D := fun c k => c = 425 ∧ k = v ∨ c = 426 ∧ 6 * v ≤ k ∧ k < 6 * v + 6) (c := 425) (k := v) (onM.refl hW) (Or.inl ⟨rfl, rfl⟩), ?_, fun j hj => ?_, fun j a b => by omega⟩
    · simp (disch := omega) only [ni_lit, nI_add, pk_mul, pk_sub, pk_div, nI_leI, nI_ltI, nI_eq, nI_clamp, ni_in, ni_inm, ni_ltm, ni_mlt, ni_lem, ni_mle, ni_eqm, ni_meq, ni_mm, ni_mmle, ni_bit, ni_shl, ni_clr, fa_or, Nat.add_zero, Nat.zero_add, Nat.zero_mul, Nat.mul_zero, eOn, eOs, if_true, if_false, not_true_eq_false, not_false_eq_true, ite_true, ite_false, true_and, and_true, false_and, and_false, or_true, true_or, or_false, false_or, Bool.false_eq_true, reduceIte, Bool.not_true, Bool.not_false, and_self, or_self, q_ef, q_et, q_ltt, q_ltf, q_let, q_lef, gIs, gIl, gIr, gLs, gLl, gLr, gPs, gPl, gPr, gLc, gPc, zb_some, Option.bind_some, q_nm, q_pm, q_hm, q_tm, q_sm, q_wm, q_ym, q_lm, q_ua]
    · simp (disch := omega) only [ni_lit, nI_add, pk_mul, pk_sub, pk_div, nI_leI, nI_ltI, nI_eq, nI_clamp, ni_in, ni_inm, ni_ltm, ni_mlt, ni_lem, ni_mle, ni_eqm, ni_meq, ni_mm, ni_mmle, ni_bit, ni_shl, ni_clr, fa_or, Nat.add_zero, Nat.zero_add, Nat.zero_mul, Nat.mul_zero, eOn, eOs, if_true, if_false, not_true_eq_false, not_false_eq_true, ite_true, ite_false, true_and, and_true, false_and, and_false, or_true, true_or, or_false, false_or, Bool.false_eq_true, reduceIte, Bool.not_true, Bool.not_false, and_self, or_self, q_ef, q_et, q_ltt, q_ltf, q_let, q_lef, gIs, gIl, gIr, gLs, gLl, gLr, gPs, gPl, gPr, gLc, gPc, zb_some, Option.bind_some, q_nm, q_pm, q_hm, q_tm, q_sm, q_wm, q_ym, q_lm, q_ua]
  | m + 1, k, S, hk, hW, h1, h2 => by
    have e := b221_2_eq d (nI v) (nI k) S hW
    have h2k := h2 (k + 1) (by omega) (by omega)
    rw [show 6 * v + (k + 1) = 6 * v + k + 1 by omega] at h2k
    simp (disch := omega) only [ni_lit, nI_add, pk_mul, pk_sub, pk_div, nI_leI, nI_ltI, nI_eq, nI_clamp, ni_in, ni_inm, ni_ltm, ni_mlt, ni_lem, ni_mle, ni_eqm, ni_meq, ni_mm, ni_mmle, ni_bit, ni_shl, ni_clr, fa_or, Nat.add_zero, Nat.zero_add, Nat.zero_mul, Nat.mul_zero, eOn, eOs, if_true, if_false, not_true_eq_false, not_false_eq_true, ite_true, ite_false, true_and, and_true, false_and, and_false, or_true, true_or, or_false, false_or, Bool.false_eq_true, reduceIte, Bool.not_true, Bool.not_false, and_self, or_self, q_ef, q_et, q_ltt, q_ltf, q_let, q_lef, gIs, gIl, gIr, gLs, gLl, gLr, gPs, gPl, gPr, gLc, gPc, zb_some, Option.bind_some, q_nm, q_pm, q_hm, q_tm, q_sm, q_wm, q_ym, q_lm, q_ua, h1, h2k] at e
    have hW2 : z_W (sI S 426 (6 * v + k) (c (k + 1))) := hW
    obtain ⟨S', a1, a2, a3, a4, a5⟩ := m221_l (c := c) hv hn hn0 m (k + 1) (sI S 426 (6 * v + k) (c (k + 1))) (by omega) hW2 (by simp (disch := omega) only [ni_lit, nI_add, pk_mul, pk_sub, pk_div, nI_leI, nI_ltI, nI_eq, nI_clamp, ni_in, ni_inm, ni_ltm, ni_mlt, ni_lem, ni_mle, ni_eqm, ni_meq, ni_mm, ni_mmle, ni_bit, ni_shl, ni_clr, fa_or, Nat.add_zero, Nat.zero_add, Nat.zero_mul, Nat.mul_zero, eOn, eOs, if_true, if_false, not_true_eq_false, not_false_eq_true, ite_true, ite_false, true_and, and_true, false_and, and_false, or_true, true_or, or_false, false_or, Bool.false_eq_true, reduceIte, Bool.not_true, Bool.not_false, and_self, or_self, q_ef, q_et, q_ltt, q_ltf, q_let, q_lef, gIs, gIl, gIr, gLs, gLl, gLr, gPs, gPl, gPr, gLc, gPc, zb_some, Option.bind_some, q_nm, q_pm, q_hm, q_tm, q_sm, q_wm, q_ym, q_lm, q_ua, h1]) (fun j j1 j2 => by simp (disch := omega) only [ni_lit, nI_add, pk_mul, pk_sub, pk_div, nI_leI, nI_ltI, nI_eq, nI_clamp, ni_in, ni_inm, ni_ltm, ni_mlt, ni_lem, ni_mle, ni_eqm, ni_meq, ni_mm, ni_mmle, ni_bit, ni_shl, ni_clr, fa_or, Nat.add_zero, Nat.zero_add, Nat.zero_mul, Nat.mul_zero, eOn, eOs, if_true, if_false, not_true_eq_false, not_false_eq_true, ite_true, ite_false, true_and, and_true, false_and, and_false, or_true, true_or, or_false, false_or, Bool.false_eq_true, reduceIte, Bool.not_true, Bool.not_false, and_self, or_self, q_ef, q_et, q_ltt, q_ltf, q_let, q_lef, gIs, gIl, gIr, gLs, gLl, gLr, gPs, gPl, gPr, gLc, gPc, zb_some, Option.bind_some, q_nm, q_pm, q_hm, q_tm, q_sm, q_wm, q_ym, q_lm, q_ua]; exact h2 j (by omega) j2)
    refine ⟨S', e.trans a1, ?_, a3, fun j hj => ?_, fun j j1 j2 => ?_⟩
    · exact onM.trans (onM_sI (D := fun c k => c = 425 ∧ k = v ∨ c = 426 ∧ 6 * v ≤ k ∧ k < 6 * v + 6) (c := 426) (k := 6 * v + k) (onM.refl hW) (Or.inr ⟨rfl, by omega, by omega⟩)) a2
    · rw [a4 j (by omega)]
      simp (disch := omega) only [ni_lit, nI_add, pk_mul, pk_sub, pk_div, nI_leI, nI_ltI, nI_eq, nI_clamp, ni_in, ni_inm, ni_ltm, ni_mlt, ni_lem, ni_mle, ni_eqm, ni_meq, ni_mm, ni_mmle, ni_bit, ni_shl, ni_clr, fa_or, Nat.add_zero, Nat.zero_add, Nat.zero_mul, Nat.mul_zero, eOn, eOs, if_true, if_false, not_true_eq_false, not_false_eq_true, ite_true, ite_false, true_and, and_true, false_and, and_false, or_true, true_or, or_false, false_or, Bool.false_eq_true, reduceIte, Bool.not_true, Bool.not_false, and_self, or_self, q_ef, q_et, q_ltt, q_ltf, q_let, q_lef, gIs, gIl, gIr, gLs, gLl, gLr, gPs, gPl, gPr, gLc, gPc, zb_some, Option.bind_some, q_nm, q_pm, q_hm, q_tm, q_sm, q_wm, q_ym, q_lm, q_ua]
    · by_cases z : j = k
      · rw [a4 j (by omega), z]
        simp (disch := omega) only [ni_lit, nI_add, pk_mul, pk_sub, pk_div, nI_leI, nI_ltI, nI_eq, nI_clamp, ni_in, ni_inm, ni_ltm, ni_mlt, ni_lem, ni_mle, ni_eqm, ni_meq, ni_mm, ni_mmle, ni_bit, ni_shl, ni_clr, fa_or, Nat.add_zero, Nat.zero_add, Nat.zero_mul, Nat.mul_zero, eOn, eOs, if_true, if_false, not_true_eq_false, not_false_eq_true, ite_true, ite_false, true_and, and_true, false_and, and_false, or_true, true_or, or_false, false_or, Bool.false_eq_true, reduceIte, Bool.not_true, Bool.not_false, and_self, or_self, q_ef, q_et, q_ltt, q_ltf, q_let, q_lef, gIs, gIl, gIr, gLs, gLl, gLr, gPs, gPl, gPr, gLc, gPc, zb_some, Option.bind_some, q_nm, q_pm, q_hm, q_tm, q_sm, q_wm, q_ym, q_lm, q_ua]
      · exact a5 j (by omega) j2
theorem m221 {i : Nat} (hW : z_W S) (hv : v < 22) (hs : mSt S v s) (hl : (q_l s).length ≤ 6) (hi : i < (q_l s).length) : ∃ S', fV (d + 1) 221 [.ref 396, .int (nI v), .int (nI i)] S = some S' ∧ onM (vD v) S S' ∧ mSt S' v (q_setl s ((q_l s).eraseIdx i)) := by
  have e := e221 d (nI v) (nI i) S hW
  obtain ⟨h0, h1, h2, h3, h4, h5, h6⟩ := hs
  obtain ⟨S', a1, a2, a3, a4, a5⟩ := m221_l (d := d) (n := (q_l s).length) (c := fun j => nI ((q_l s).getD j 0)) hv hl (by omega) ((q_l s).length - 1 - i) i S (by omega) hW h3 (fun j j1 j2 => h6 j j2)
  have hlen : ((q_l s).eraseIdx i).length = (q_l s).length - 1 := by rw [List.length_eraseIdx, if_pos hi]
  refine ⟨S', e.trans a1, a2.mono fun c k z => ?_, ?_, ?_, ?_, ?_, fun r hr => ?_, fun k hk => ?_, fun j hj => ?_⟩
  · unfold vD; omega
  · rw [a2.I (by omega)]; exact h0
  · rw [a2.I (by omega)]; exact h1
  · rw [a2.I (by omega)]; exact h2
  · rw [a3]; show _ = nI ((q_l s).eraseIdx i).length; rw [hlen]
  · rw [a2.I (by omega)]; exact h4 r hr
  · rw [a2.I (by omega)]; exact h5 k hk
  · have hj2 : j < ((q_l s).eraseIdx i).length := hj
    rw [hlen] at hj2
    show _ = nI (((q_l s).eraseIdx i).getD j 0)
    rw [q_erase]
    by_cases c : j < i
    · rw [if_pos c, a4 j c]; exact h6 j (by omega)
    · rw [if_neg c, a5 j (by omega) hj2]
theorem m222_e {S : z_S} {k : Nat} (hW : z_W S) (hv : v < 22) (hk : k < 16) : b222_38 d (nI v) (nI k) S = some (sI S 424 (16 * v + k) (nI 0)) := by
  have e := b222_38_eq d (nI v) (nI k) S hW
  simp (disch := omega) only [ni_lit, nI_add, pk_mul, pk_sub, pk_div, nI_leI, nI_ltI, nI_eq, nI_clamp, ni_in, ni_inm, ni_ltm, ni_mlt, ni_lem, ni_mle, ni_eqm, ni_meq, ni_mm, ni_mmle, ni_bit, ni_shl, ni_clr, fa_or, Nat.add_zero, Nat.zero_add, Nat.zero_mul, Nat.mul_zero, eOn, eOs, if_true, if_false, not_true_eq_false, not_false_eq_true, ite_true, ite_false, true_and, and_true, false_and, and_false, or_true, true_or, or_false, false_or, Bool.false_eq_true, reduceIte, Bool.not_true, Bool.not_false, and_self, or_self, q_ef, q_et, q_ltt, q_ltf, q_let, q_lef, gIs, gIl, gIr, gLs, gLl, gLr, gPs, gPl, gPr, gLc, gPc, zb_some, Option.bind_some, q_nm, q_pm, q_hm, q_tm, q_sm, q_wm, q_ym, q_lm, q_ua] at e
  exact e
theorem mSt.sety {k : Nat} {s s' : q_St} (hv : v < 22) (hs : mSt S v s) (hk : k < 16) (hl : (q_l s).length ≤ 6) (h1 : q_n s' = q_n s) (h2 : q_p s' = q_p s) (h3 : q_h s' = q_h s) (h4 : q_s s' = q_s s) (h5 : q_y s' = q_u (q_y s) k 0) (h6 : q_l s' = q_l s) : mSt (sI S 424 (16 * v + k) (nI 0)) v s' := by
  obtain ⟨g0, g1, g2, g3, g4, g5, g6⟩ := hs
  refine ⟨?_, ?_, ?_, ?_, fun r hr => ?_, fun j hj => ?_, fun i hi => ?_⟩
  · simp (disch := omega) only [ni_lit, nI_add, pk_mul, pk_sub, pk_div, nI_leI, nI_ltI, nI_eq, nI_clamp, ni_in, ni_inm, ni_ltm, ni_mlt, ni_lem, ni_mle, ni_eqm, ni_meq, ni_mm, ni_mmle, ni_bit, ni_shl, ni_clr, fa_or, Nat.add_zero, Nat.zero_add, Nat.zero_mul, Nat.mul_zero, eOn, eOs, if_true, if_false, not_true_eq_false, not_false_eq_true, ite_true, ite_false, true_and, and_true, false_and, and_false, or_true, true_or, or_false, false_or, Bool.false_eq_true, reduceIte, Bool.not_true, Bool.not_false, and_self, or_self, q_ef, q_et, q_ltt, q_ltf, q_let, q_lef, gIs, gIl, gIr, gLs, gLl, gLr, gPs, gPl, gPr, gLc, gPc, zb_some, Option.bind_some, q_nm, q_pm, q_hm, q_tm, q_sm, q_wm, q_ym, q_lm, q_ua, g0, h1]
  · simp (disch := omega) only [ni_lit, nI_add, pk_mul, pk_sub, pk_div, nI_leI, nI_ltI, nI_eq, nI_clamp, ni_in, ni_inm, ni_ltm, ni_mlt, ni_lem, ni_mle, ni_eqm, ni_meq, ni_mm, ni_mmle, ni_bit, ni_shl, ni_clr, fa_or, Nat.add_zero, Nat.zero_add, Nat.zero_mul, Nat.mul_zero, eOn, eOs, if_true, if_false, not_true_eq_false, not_false_eq_true, ite_true, ite_false, true_and, and_true, false_and, and_false, or_true, true_or, or_false, false_or, Bool.false_eq_true, reduceIte, Bool.not_true, Bool.not_false, and_self, or_self, q_ef, q_et, q_ltt, q_ltf, q_let, q_lef, gIs, gIl, gIr, gLs, gLl, gLr, gPs, gPl, gPr, gLc, gPc, zb_some, Option.bind_some, q_nm, q_pm, q_hm, q_tm, q_sm, q_wm, q_ym, q_lm, q_ua, g1, h2]
  · simp (disch := omega) only [ni_lit, nI_add, pk_mul, pk_sub, pk_div, nI_leI, nI_ltI, nI_eq, nI_clamp, ni_in, ni_inm, ni_ltm, ni_mlt, ni_lem, ni_mle, ni_eqm, ni_meq, ni_mm, ni_mmle, ni_bit, ni_shl, ni_clr, fa_or, Nat.add_zero, Nat.zero_add, Nat.zero_mul, Nat.mul_zero, eOn, eOs, if_true, if_false, not_true_eq_false, not_false_eq_true, ite_true, ite_false, true_and, and_true, false_and, and_false, or_true, true_or, or_false, false_or, Bool.false_eq_true, reduceIte, Bool.not_true, Bool.not_false, and_self, or_self, q_ef, q_et, q_ltt, q_ltf, q_let, q_lef, gIs, gIl, gIr, gLs, gLl, gLr, gPs, gPl, gPr, gLc, gPc, zb_some, Option.bind_some, q_nm, q_pm, q_hm, q_tm, q_sm, q_wm, q_ym, q_lm, q_ua, g2, h3]
  · simp (disch := omega) only [ni_lit, nI_add, pk_mul, pk_sub, pk_div, nI_leI, nI_ltI, nI_eq, nI_clamp, ni_in, ni_inm, ni_ltm, ni_mlt, ni_lem, ni_mle, ni_eqm, ni_meq, ni_mm, ni_mmle, ni_bit, ni_shl, ni_clr, fa_or, Nat.add_zero, Nat.zero_add, Nat.zero_mul, Nat.mul_zero, eOn, eOs, if_true, if_false, not_true_eq_false, not_false_eq_true, ite_true, ite_false, true_and, and_true, false_and, and_false, or_true, true_or, or_false, false_or, Bool.false_eq_true, reduceIte, Bool.not_true, Bool.not_false, and_self, or_self, q_ef, q_et, q_ltt, q_ltf, q_let, q_lef, gIs, gIl, gIr, gLs, gLl, gLr, gPs, gPl, gPr, gLc, gPc, zb_some, Option.bind_some, q_nm, q_pm, q_hm, q_tm, q_sm, q_wm, q_ym, q_lm, q_ua, g3, h6]
  · simp (disch := omega) only [ni_lit, nI_add, pk_mul, pk_sub, pk_div, nI_leI, nI_ltI, nI_eq, nI_clamp, ni_in, ni_inm, ni_ltm, ni_mlt, ni_lem, ni_mle, ni_eqm, ni_meq, ni_mm, ni_mmle, ni_bit, ni_shl, ni_clr, fa_or, Nat.add_zero, Nat.zero_add, Nat.zero_mul, Nat.mul_zero, eOn, eOs, if_true, if_false, not_true_eq_false, not_false_eq_true, ite_true, ite_false, true_and, and_true, false_and, and_false, or_true, true_or, or_false, false_or, Bool.false_eq_true, reduceIte, Bool.not_true, Bool.not_false, and_self, or_self, q_ef, q_et, q_ltt, q_ltf, q_let, q_lef, gIs, gIl, gIr, gLs, gLl, gLr, gPs, gPl, gPr, gLc, gPc, zb_some, Option.bind_some, q_nm, q_pm, q_hm, q_tm, q_sm, q_wm, q_ym, q_lm, q_ua, g4 r hr, h4]
  · rw [h5]
    by_cases c : j = k
    · simp (disch := omega) only [ni_lit, nI_add, pk_mul, pk_sub, pk_div, nI_leI, nI_ltI, nI_eq, nI_clamp, ni_in, ni_inm, ni_ltm, ni_mlt, ni_lem, ni_mle, ni_eqm, ni_meq, ni_mm, ni_mmle, ni_bit, ni_shl, ni_clr, fa_or, Nat.add_zero, Nat.zero_add, Nat.zero_mul, Nat.mul_zero, eOn, eOs, if_true, if_false, not_true_eq_false, not_false_eq_true, ite_true, ite_false, true_and, and_true, false_and, and_false, or_true, true_or, or_false, false_or, Bool.false_eq_true, reduceIte, Bool.not_true, Bool.not_false, and_self, or_self, q_ef, q_et, q_ltt, q_ltf, q_let, q_lef, gIs, gIl, gIr, gLs, gLl, gLr, gPs, gPl, gPr, gLc, gPc, zb_some, Option.bind_some, q_nm, q_pm, q_hm, q_tm, q_sm, q_wm, q_ym, q_lm, q_ua]
    · simp (disch := omega) only [ni_lit, nI_add, pk_mul, pk_sub, pk_div, nI_leI, nI_ltI, nI_eq, nI_clamp, ni_in, ni_inm, ni_ltm, ni_mlt, ni_lem, ni_mle, ni_eqm, ni_meq, ni_mm, ni_mmle, ni_bit, ni_shl, ni_clr, fa_or, Nat.add_zero, Nat.zero_add, Nat.zero_mul, Nat.mul_zero, eOn, eOs, if_true, if_false, not_true_eq_false, not_false_eq_true, ite_true, ite_false, true_and, and_true, false_and, and_false, or_true, true_or, or_false, false_or, Bool.false_eq_true, reduceIte, Bool.not_true, Bool.not_false, and_self, or_self, q_ef, q_et, q_ltt, q_ltf, q_let, q_lef, gIs, gIl, gIr, gLs, gLl, gLr, gPs, gPl, gPr, gLc, gPc, zb_some, Option.bind_some, q_nm, q_pm, q_hm, q_tm, q_sm, q_wm, q_ym, q_lm, q_ua, g5 j hj]
  · rw [h6] at hi ⊢
    simp (disch := omega) only [ni_lit, nI_add, pk_mul, pk_sub, pk_div, nI_leI, nI_ltI, nI_eq, nI_clamp, ni_in, ni_inm, ni_ltm, ni_mlt, ni_lem, ni_mle, ni_eqm, ni_meq, ni_mm, ni_mmle, ni_bit, ni_shl, ni_clr, fa_or, Nat.add_zero, Nat.zero_add, Nat.zero_mul, Nat.mul_zero, eOn, eOs, if_true, if_false, not_true_eq_false, not_false_eq_true, ite_true, ite_false, true_and, and_true, false_and, and_false, or_true, true_or, or_false, false_or, Bool.false_eq_true, reduceIte, Bool.not_true, Bool.not_false, and_self, or_self, q_ef, q_et, q_ltt, q_ltf, q_let, q_lef, gIs, gIl, gIr, gLs, gLl, gLr, gPs, gPl, gPr, gLc, gPc, zb_some, Option.bind_some, q_nm, q_pm, q_hm, q_tm, q_sm, q_wm, q_ym, q_lm, q_ua, g6 i hi]
theorem m222 {k : Nat} (hM : cM S b P) (hv : v < 22) (hs : mSt S v s) (hG : q_Gd P s) (hk : k < 16) (hw : q_w s k ≠ 255) : ∃ S', fV (d + 2) 222 [.ref 396, .int (nI v), .int (nI k)] S = some S' ∧ onM (vD v) S S' ∧ mSt S' v (q_away s k) := by
  have hP := hM.2.2.2.2
  have hB := hG.Bd hP
  have hl := hB.2.2.1
  have e := e222 (d + 1) (nI v) (nI k) S hM.1
  rw [m213 (d := d) hM hv hs hG hk, zb_some] at e
  unfold q_away
  by_cases c : q_w s k < 16
  · have hr : q_rm s k = some (q_w s k) := by unfold q_rm; rw [if_pos c]
    rw [hr] at e
    have hW2 : z_W (sI S 423 (16 * v + q_w s k) (-nI 1)) := hM.1
    simp (disch := omega) only [ni_lit, nI_add, pk_mul, pk_sub, pk_div, nI_leI, nI_ltI, nI_eq, nI_clamp, ni_in, ni_inm, ni_ltm, ni_mlt, ni_lem, ni_mle, ni_eqm, ni_meq, ni_mm, ni_mmle, ni_bit, ni_shl, ni_clr, fa_or, Nat.add_zero, Nat.zero_add, Nat.zero_mul, Nat.mul_zero, eOn, eOs, if_true, if_false, not_true_eq_false, not_false_eq_true, ite_true, ite_false, true_and, and_true, false_and, and_false, or_true, true_or, or_false, false_or, Bool.false_eq_true, reduceIte, Bool.not_true, Bool.not_false, and_self, or_self, q_ef, q_et, q_ltt, q_ltf, q_let, q_lef, gIs, gIl, gIr, gLs, gLl, gLr, gPs, gPl, gPr, gLc, gPc, zb_some, Option.bind_some, q_nm, q_pm, q_hm, q_tm, q_sm, q_wm, q_ym, q_lm, q_ua, m222_e hW2 hv hk] at e
    rw [if_pos c]
    have hs1 : mSt (sI S 423 (16 * v + q_w s k) (-nI 1)) v (q_n s, q_p s, q_h s, q_t s, q_u (q_s s) (q_w s k) none, q_w s, q_y s, q_l s) := by
      obtain ⟨g0, g1, g2, g3, g4, g5, g6⟩ := hs
      refine ⟨?_, ?_, ?_, ?_, fun r hr => ?_, fun j hj => ?_, fun i hi => ?_⟩
      · simp (disch := omega) only [ni_lit, nI_add, pk_mul, pk_sub, pk_div, nI_leI, nI_ltI, nI_eq, nI_clamp, ni_in, ni_inm, ni_ltm, ni_mlt, ni_lem, ni_mle, ni_eqm, ni_meq, ni_mm, ni_mmle, ni_bit, ni_shl, ni_clr, fa_or, Nat.add_zero, Nat.zero_add, Nat.zero_mul, Nat.mul_zero, eOn, eOs, if_true, if_false, not_true_eq_false, not_false_eq_true, ite_true, ite_false, true_and, and_true, false_and, and_false, or_true, true_or, or_false, false_or, Bool.false_eq_true, reduceIte, Bool.not_true, Bool.not_false, and_self, or_self, q_ef, q_et, q_ltt, q_ltf, q_let, q_lef, gIs, gIl, gIr, gLs, gLl, gLr, gPs, gPl, gPr, gLc, gPc, zb_some, Option.bind_some, q_nm, q_pm, q_hm, q_tm, q_sm, q_wm, q_ym, q_lm, q_ua, g0]
      · simp (disch := omega) only [ni_lit, nI_add, pk_mul, pk_sub, pk_div, nI_leI, nI_ltI, nI_eq, nI_clamp, ni_in, ni_inm, ni_ltm, ni_mlt, ni_lem, ni_mle, ni_eqm, ni_meq, ni_mm, ni_mmle, ni_bit, ni_shl, ni_clr, fa_or, Nat.add_zero, Nat.zero_add, Nat.zero_mul, Nat.mul_zero, eOn, eOs, if_true, if_false, not_true_eq_false, not_false_eq_true, ite_true, ite_false, true_and, and_true, false_and, and_false, or_true, true_or, or_false, false_or, Bool.false_eq_true, reduceIte, Bool.not_true, Bool.not_false, and_self, or_self, q_ef, q_et, q_ltt, q_ltf, q_let, q_lef, gIs, gIl, gIr, gLs, gLl, gLr, gPs, gPl, gPr, gLc, gPc, zb_some, Option.bind_some, q_nm, q_pm, q_hm, q_tm, q_sm, q_wm, q_ym, q_lm, q_ua, g1]
      · simp (disch := omega) only [ni_lit, nI_add, pk_mul, pk_sub, pk_div, nI_leI, nI_ltI, nI_eq, nI_clamp, ni_in, ni_inm, ni_ltm, ni_mlt, ni_lem, ni_mle, ni_eqm, ni_meq, ni_mm, ni_mmle, ni_bit, ni_shl, ni_clr, fa_or, Nat.add_zero, Nat.zero_add, Nat.zero_mul, Nat.mul_zero, eOn, eOs, if_true, if_false, not_true_eq_false, not_false_eq_true, ite_true, ite_false, true_and, and_true, false_and, and_false, or_true, true_or, or_false, false_or, Bool.false_eq_true, reduceIte, Bool.not_true, Bool.not_false, and_self, or_self, q_ef, q_et, q_ltt, q_ltf, q_let, q_lef, gIs, gIl, gIr, gLs, gLl, gLr, gPs, gPl, gPr, gLc, gPc, zb_some, Option.bind_some, q_nm, q_pm, q_hm, q_tm, q_sm, q_wm, q_ym, q_lm, q_ua, g2]
      · simp (disch := omega) only [ni_lit, nI_add, pk_mul, pk_sub, pk_div, nI_leI, nI_ltI, nI_eq, nI_clamp, ni_in, ni_inm, ni_ltm, ni_mlt, ni_lem, ni_mle, ni_eqm, ni_meq, ni_mm, ni_mmle, ni_bit, ni_shl, ni_clr, fa_or, Nat.add_zero, Nat.zero_add, Nat.zero_mul, Nat.mul_zero, eOn, eOs, if_true, if_false, not_true_eq_false, not_false_eq_true, ite_true, ite_false, true_and, and_true, false_and, and_false, or_true, true_or, or_false, false_or, Bool.false_eq_true, reduceIte, Bool.not_true, Bool.not_false, and_self, or_self, q_ef, q_et, q_ltt, q_ltf, q_let, q_lef, gIs, gIl, gIr, gLs, gLl, gLr, gPs, gPl, gPr, gLc, gPc, zb_some, Option.bind_some, q_nm, q_pm, q_hm, q_tm, q_sm, q_wm, q_ym, q_lm, q_ua, g3]
      · by_cases z : r = q_w s k
        · simp (disch := omega) only [ni_lit, nI_add, pk_mul, pk_sub, pk_div, nI_leI, nI_ltI, nI_eq, nI_clamp, ni_in, ni_inm, ni_ltm, ni_mlt, ni_lem, ni_mle, ni_eqm, ni_meq, ni_mm, ni_mmle, ni_bit, ni_shl, ni_clr, fa_or, Nat.add_zero, Nat.zero_add, Nat.zero_mul, Nat.mul_zero, eOn, eOs, if_true, if_false, not_true_eq_false, not_false_eq_true, ite_true, ite_false, true_and, and_true, false_and, and_false, or_true, true_or, or_false, false_or, Bool.false_eq_true, reduceIte, Bool.not_true, Bool.not_false, and_self, or_self, q_ef, q_et, q_ltt, q_ltf, q_let, q_lef, gIs, gIl, gIr, gLs, gLl, gLr, gPs, gPl, gPr, gLc, gPc, zb_some, Option.bind_some, q_nm, q_pm, q_hm, q_tm, q_sm, q_wm, q_ym, q_lm, q_ua]
        · simp (disch := omega) only [ni_lit, nI_add, pk_mul, pk_sub, pk_div, nI_leI, nI_ltI, nI_eq, nI_clamp, ni_in, ni_inm, ni_ltm, ni_mlt, ni_lem, ni_mle, ni_eqm, ni_meq, ni_mm, ni_mmle, ni_bit, ni_shl, ni_clr, fa_or, Nat.add_zero, Nat.zero_add, Nat.zero_mul, Nat.mul_zero, eOn, eOs, if_true, if_false, not_true_eq_false, not_false_eq_true, ite_true, ite_false, true_and, and_true, false_and, and_false, or_true, true_or, or_false, false_or, Bool.false_eq_true, reduceIte, Bool.not_true, Bool.not_false, and_self, or_self, q_ef, q_et, q_ltt, q_ltf, q_let, q_lef, gIs, gIl, gIr, gLs, gLl, gLr, gPs, gPl, gPr, gLc, gPc, zb_some, Option.bind_some, q_nm, q_pm, q_hm, q_tm, q_sm, q_wm, q_ym, q_lm, q_ua, g4 r hr]
      · simp (disch := omega) only [ni_lit, nI_add, pk_mul, pk_sub, pk_div, nI_leI, nI_ltI, nI_eq, nI_clamp, ni_in, ni_inm, ni_ltm, ni_mlt, ni_lem, ni_mle, ni_eqm, ni_meq, ni_mm, ni_mmle, ni_bit, ni_shl, ni_clr, fa_or, Nat.add_zero, Nat.zero_add, Nat.zero_mul, Nat.mul_zero, eOn, eOs, if_true, if_false, not_true_eq_false, not_false_eq_true, ite_true, ite_false, true_and, and_true, false_and, and_false, or_true, true_or, or_false, false_or, Bool.false_eq_true, reduceIte, Bool.not_true, Bool.not_false, and_self, or_self, q_ef, q_et, q_ltt, q_ltf, q_let, q_lef, gIs, gIl, gIr, gLs, gLl, gLr, gPs, gPl, gPr, gLc, gPc, zb_some, Option.bind_some, q_nm, q_pm, q_hm, q_tm, q_sm, q_wm, q_ym, q_lm, q_ua, g5 j hj]
      · have hi2 : i < (q_l s).length := hi
        simp (disch := omega) only [ni_lit, nI_add, pk_mul, pk_sub, pk_div, nI_leI, nI_ltI, nI_eq, nI_clamp, ni_in, ni_inm, ni_ltm, ni_mlt, ni_lem, ni_mle, ni_eqm, ni_meq, ni_mm, ni_mmle, ni_bit, ni_shl, ni_clr, fa_or, Nat.add_zero, Nat.zero_add, Nat.zero_mul, Nat.mul_zero, eOn, eOs, if_true, if_false, not_true_eq_false, not_false_eq_true, ite_true, ite_false, true_and, and_true, false_and, and_false, or_true, true_or, or_false, false_or, Bool.false_eq_true, reduceIte, Bool.not_true, Bool.not_false, and_self, or_self, q_ef, q_et, q_ltt, q_ltf, q_let, q_lef, gIs, gIl, gIr, gLs, gLl, gLr, gPs, gPl, gPr, gLc, gPc, zb_some, Option.bind_some, q_nm, q_pm, q_hm, q_tm, q_sm, q_wm, q_ym, q_lm, q_ua, g6 i hi2]
    refine ⟨_, e, ?_, hs1.sety hv hk hl rfl rfl rfl rfl rfl rfl⟩
    refine onM_sI (D := vD v) (c := 424) (k := 16 * v + k) (onM_sI (D := vD v) (c := 423) (k := 16 * v + q_w s k) (onM.refl hM.1) ?_) ?_
    · exact Or.inr (Or.inl ⟨Or.inl rfl, by omega, by omega⟩)
    · exact Or.inr (Or.inl ⟨Or.inr rfl, by omega, by omega⟩)
  · have h254 : q_w s k = 254 := by rcases hG.2.2.2.2.2.2.1 k with z | z | z
                                    · exact absurd z c
                                    · exact z
                                    · exact absurd z hw
    have hr : q_rm s k = none := by unfold q_rm; rw [if_neg c]
    rw [hr] at e
    have hm := (hG.2.2.2.2.2.1 k).mp h254
    obtain ⟨j, hj⟩ : ∃ j, q_ix (q_l s) k 0 = some j := by
      cases hq : q_ix (q_l s) k 0 with
      | none => exact absurd hm ((q_ix_none _ _).mp hq)
      | some j => exact ⟨j, rfl⟩
    obtain ⟨a, r, hsp, hja⟩ := q_ix_split _ _ _ hj
    have hjl := q_ix_lt _ _ _ hj
    have a2 := m214 (d := d) hM.1 hv hs hB hk
    rw [hj] at a2
    obtain ⟨S1, b1, b2, b3⟩ := m221 (d := d) (i := j) hM.1 hv hs hl (by omega)
    have hfl : (q_l s).eraseIdx j = (q_l s).filter (fun j => !decide (j = k)) := by
      have hn := hG.2.2.2.2.2.2.2.1
      rw [hsp] at hn ⊢
      rw [q_filt hn, hja, Nat.zero_add, q_eraseL]
    rw [hfl] at b3
    simp (disch := omega) only [ni_lit, nI_add, pk_mul, pk_sub, pk_div, nI_leI, nI_ltI, nI_eq, nI_clamp, ni_in, ni_inm, ni_ltm, ni_mlt, ni_lem, ni_mle, ni_eqm, ni_meq, ni_mm, ni_mmle, ni_bit, ni_shl, ni_clr, fa_or, Nat.add_zero, Nat.zero_add, Nat.zero_mul, Nat.mul_zero, eOn, eOs, if_true, if_false, not_true_eq_false, not_false_eq_true, ite_true, ite_false, true_and, and_true, false_and, and_false, or_true, true_or, or_false, false_or, Bool.false_eq_true, reduceIte, Bool.not_true, Bool.not_false, and_self, or_self, q_ef, q_et, q_ltt, q_ltf, q_let, q_lef, gIs, gIl, gIr, gLs, gLl, gLr, gPs, gPl, gPr, gLc, gPc, zb_some, Option.bind_some, q_nm, q_pm, q_hm, q_tm, q_sm, q_wm, q_ym, q_lm, q_ua, a2, b1, m222_e b2.W hv hk] at e
    rw [if_neg c, if_pos h254]
    have hl2 : (q_l (q_setl s ((q_l s).filter (fun j => !decide (j = k))))).length ≤ 6 := Nat.le_trans (List.length_filter_le _ _) hl
    refine ⟨_, e, ?_, b3.sety hv hk hl2 rfl rfl rfl rfl rfl rfl⟩
    exact onM_sI (D := vD v) (c := 424) (k := 16 * v + k) b2 (Or.inr (Or.inl ⟨Or.inr rfl, by omega, by omega⟩))
theorem m223_l (hv : v < 22) : ∀ (rest kp : List Nat) (s : q_St) (S : z_S), cM S b P → mSt S v (q_setl s (kp ++ rest)) → q_Gd P (q_setl s (kp ++ rest)) → ∃ S', b223_2 (d + 3) (nI v) (nI kp.length) S = some S' ∧ onM (vD v) S S' ∧ mSt S' v (q_seat P rest kp s)
  | [], kp, s, S, hM, hs, hG => by
    rw [List.append_nil] at hs hG
    have hl6 := (hG.Bd hM.2.2.2.2).2.2.1
    have hl6' : kp.length ≤ 6 := hl6
    have e := b223_2_eq (d + 3) (nI v) (nI kp.length) S hM.1
    have h3 : gI S 425 v = nI kp.length := hs.2.2.2.1
    simp (disch := omega) only [ni_lit, nI_add, pk_mul, pk_sub, pk_div, nI_leI, nI_ltI, nI_eq, nI_clamp, ni_in, ni_inm, ni_ltm, ni_mlt, ni_lem, ni_mle, ni_eqm, ni_meq, ni_mm, ni_mmle, ni_bit, ni_shl, ni_clr, fa_or, Nat.add_zero, Nat.zero_add, Nat.zero_mul, Nat.mul_zero, eOn, eOs, if_true, if_false, not_true_eq_false, not_false_eq_true, ite_true, ite_false, true_and, and_true, false_and, and_false, or_true, true_or, or_false, false_or, Bool.false_eq_true, reduceIte, Bool.not_true, Bool.not_false, and_self, or_self, q_ef, q_et, q_ltt, q_ltf, q_let, q_lef, gIs, gIl, gIr, gLs, gLl, gLr, gPs, gPl, gPr, gLc, gPc, zb_some, Option.bind_some, q_nm, q_pm, q_hm, q_tm, q_sm, q_wm, q_ym, q_lm, q_ua, h3] at e
    exact ⟨S, e, onM.refl hM.1, hs⟩
  | k :: rest, kp, s, S, hM, hs, hG => by
    have hP := hM.2.2.2.2
    have hL := hP.2.2.2.2.1
    have hR := hP.1
    have hl6 := (hG.Bd hP).2.2.1
    have hl6' : (kp ++ k :: rest).length ≤ 6 := hl6
    rw [List.length_append, List.length_cons] at hl6'
    have hkL : k < p_L P := hG.2.2.2.2.2.2.2.2.1 k (by show k ∈ kp ++ k :: rest; simp)
    have ff := hP.2.2.2.2.2.2.2.1 k hkL
    have e := b223_2_eq (d + 3) (nI v) (nI kp.length) S hM.1
    have h3 : gI S 425 v = nI (kp.length + (rest.length + 1)) := by
      have := hs.2.2.2.1
      rw [this]
      show nI (kp ++ k :: rest).length = _
      rw [List.length_append, List.length_cons]
    have h6 : gI S 426 (6 * v + kp.length) = nI k := by
      rw [hs.2.2.2.2.2.2 kp.length (by show kp.length < (kp ++ k :: rest).length; rw [List.length_append, List.length_cons]; omega)]
      show nI ((kp ++ k :: rest).getD kp.length 0) = nI k
      simp
    have a1 := m208 (d := d) (r := p_f P k) hM.1 hv hs hG hP (by omega)
    have a2 := m208 (d := d) (r := p_o P k) hM.1 hv hs hG hP (by omega)
    have fr : ∀ x, q_free (q_setl s (kp ++ k :: rest)) x = q_free s x := fun x => rfl
    rw [fr] at a1 a2
    have go : ∀ x, x < 16 → q_in P s k = some (q_bed s k x) → ∃ S', b223_67 (d + 3) (nI v) (nI kp.length) (nI k) (nI x) S = some S' ∧ onM (vD v) S S' ∧ mSt S' v (q_seat P rest kp (q_bed s k x)) := fun x hx hin => by
      have e2 := b223_67_eq (d + 3) (nI v) (nI kp.length) (nI k) (nI x) S hM.1
      obtain ⟨S1, b1, b2, b3⟩ := m221 (d := d + 2) (i := kp.length) hM.1 hv hs hl6 (by show kp.length < (kp ++ k :: rest).length; rw [List.length_append, List.length_cons]; omega)
      have b3' : mSt S1 v (q_setl s (kp ++ rest)) := by
        have : (q_l (q_setl s (kp ++ k :: rest))).eraseIdx kp.length = kp ++ rest := q_eraseL kp k rest
        rw [this] at b3
        exact b3
      obtain ⟨S2, f1, f2, f3⟩ := m219 (d := d + 2) (k := k) (r := x) b2.W hv b3' (by omega) hx (by show (kp ++ rest).length ≤ 6; rw [List.length_append]; omega)
      have hM2 := hM.on (b2.trans f2) (fun c k a b => by unfold vD at b; omega)
      simp (disch := omega) only [ni_lit, nI_add, pk_mul, pk_sub, pk_div, nI_leI, nI_ltI, nI_eq, nI_clamp, ni_in, ni_inm, ni_ltm, ni_mlt, ni_lem, ni_mle, ni_eqm, ni_meq, ni_mm, ni_mmle, ni_bit, ni_shl, ni_clr, fa_or, Nat.add_zero, Nat.zero_add, Nat.zero_mul, Nat.mul_zero, eOn, eOs, if_true, if_false, not_true_eq_false, not_false_eq_true, ite_true, ite_false, true_and, and_true, false_and, and_false, or_true, true_or, or_false, false_or, Bool.false_eq_true, reduceIte, Bool.not_true, Bool.not_false, and_self, or_self, q_ef, q_et, q_ltt, q_ltf, q_let, q_lef, gIs, gIl, gIr, gLs, gLl, gLr, gPs, gPl, gPr, gLc, gPc, zb_some, Option.bind_some, q_nm, q_pm, q_hm, q_tm, q_sm, q_wm, q_ym, q_lm, q_ua, b1, f1, b223_95_eq (d + 3) _ _ S2 f2.W] at e2
      obtain ⟨S3, j1, j2, j3⟩ := m223_l hv rest kp (q_bed s k x) S2 hM2 f3 (q_seat_G1 hP hG hin)
      exact ⟨S3, e2.trans j1, (b2.trans f2).trans j2, j3⟩
    rw [q_seat]
    by_cases c1 : q_free s (p_f P k) = true
    · have hin : q_in P s k = some (q_bed s k (p_f P k)) := by unfold q_in; rw [if_pos c1]
      rw [c1] at a1
      simp (disch := omega) only [ni_lit, nI_add, pk_mul, pk_sub, pk_div, nI_leI, nI_ltI, nI_eq, nI_clamp, ni_in, ni_inm, ni_ltm, ni_mlt, ni_lem, ni_mle, ni_eqm, ni_meq, ni_mm, ni_mmle, ni_bit, ni_shl, ni_clr, fa_or, Nat.add_zero, Nat.zero_add, Nat.zero_mul, Nat.mul_zero, eOn, eOs, if_true, if_false, not_true_eq_false, not_false_eq_true, ite_true, ite_false, true_and, and_true, false_and, and_false, or_true, true_or, or_false, false_or, Bool.false_eq_true, reduceIte, Bool.not_true, Bool.not_false, and_self, or_self, q_ef, q_et, q_ltt, q_ltf, q_let, q_lef, gIs, gIl, gIr, gLs, gLl, gLr, gPs, gPl, gPr, gLc, gPc, zb_some, Option.bind_some, q_nm, q_pm, q_hm, q_tm, q_sm, q_wm, q_ym, q_lm, q_ua, h3, h6, m210 (d := d + 2) hM hkL, a1, bIt] at e
      obtain ⟨S', j1, j2, j3⟩ := go _ (by omega) hin
      rw [hin]
      exact ⟨S', e.trans j1, j2, j3⟩
    · have c1' : q_free s (p_f P k) = false := by simpa using c1
      rw [c1'] at a1
      by_cases c2 : q_free s (p_o P k) = true
      · have hin : q_in P s k = some (q_bed s k (p_o P k)) := by unfold q_in; rw [if_neg c1, if_pos c2]
        rw [c2] at a2
        simp (disch := omega) only [ni_lit, nI_add, pk_mul, pk_sub, pk_div, nI_leI, nI_ltI, nI_eq, nI_clamp, ni_in, ni_inm, ni_ltm, ni_mlt, ni_lem, ni_mle, ni_eqm, ni_meq, ni_mm, ni_mmle, ni_bit, ni_shl, ni_clr, fa_or, Nat.add_zero, Nat.zero_add, Nat.zero_mul, Nat.mul_zero, eOn, eOs, if_true, if_false, not_true_eq_false, not_false_eq_true, ite_true, ite_false, true_and, and_true, false_and, and_false, or_true, true_or, or_false, false_or, Bool.false_eq_true, reduceIte, Bool.not_true, Bool.not_false, and_self, or_self, q_ef, q_et, q_ltt, q_ltf, q_let, q_lef, gIs, gIl, gIr, gLs, gLl, gLr, gPs, gPl, gPr, gLc, gPc, zb_some, Option.bind_some, q_nm, q_pm, q_hm, q_tm, q_sm, q_wm, q_ym, q_lm, q_ua, h3, h6, m210 (d := d + 2) hM hkL, a1, bIf, m211 (d := d + 2) hM hkL, a2, bIt] at e
        obtain ⟨S', j1, j2, j3⟩ := go _ (by omega) hin
        rw [hin]
        exact ⟨S', e.trans j1, j2, j3⟩
      · have c2' : q_free s (p_o P k) = false := by simpa using c2
        have hin : q_in P s k = none := by unfold q_in; rw [if_neg c1, if_neg c2]
        rw [c2'] at a2
        have e2 := b223_67_eq (d + 3) (nI v) (nI kp.length) (nI k) (-nI 1) S hM.1
        have hneg : ((-nI 1 : Int32) = -nI 1) = True := eq_true rfl
        simp (disch := omega) only [ni_lit, nI_add, pk_mul, pk_sub, pk_div, nI_leI, nI_ltI, nI_eq, nI_clamp, ni_in, ni_inm, ni_ltm, ni_mlt, ni_lem, ni_mle, ni_eqm, ni_meq, ni_mm, ni_mmle, ni_bit, ni_shl, ni_clr, fa_or, Nat.add_zero, Nat.zero_add, Nat.zero_mul, Nat.mul_zero, eOn, eOs, if_true, if_false, not_true_eq_false, not_false_eq_true, ite_true, ite_false, true_and, and_true, false_and, and_false, or_true, true_or, or_false, false_or, Bool.false_eq_true, reduceIte, Bool.not_true, Bool.not_false, and_self, or_self, q_ef, q_et, q_ltt, q_ltf, q_let, q_lef, gIs, gIl, gIr, gLs, gLl, gLr, gPs, gPl, gPr, gLc, gPc, zb_some, Option.bind_some, q_nm, q_pm, q_hm, q_tm, q_sm, q_wm, q_ym, q_lm, q_ua, hneg, b223_95_eq (d + 3) _ _ S hM.1] at e2
        simp (disch := omega) only [ni_lit, nI_add, pk_mul, pk_sub, pk_div, nI_leI, nI_ltI, nI_eq, nI_clamp, ni_in, ni_inm, ni_ltm, ni_mlt, ni_lem, ni_mle, ni_eqm, ni_meq, ni_mm, ni_mmle, ni_bit, ni_shl, ni_clr, fa_or, Nat.add_zero, Nat.zero_add, Nat.zero_mul, Nat.mul_zero, eOn, eOs, if_true, if_false, not_true_eq_false, not_false_eq_true, ite_true, ite_false, true_and, and_true, false_and, and_false, or_true, true_or, or_false, false_or, Bool.false_eq_true, reduceIte, Bool.not_true, Bool.not_false, and_self, or_self, q_ef, q_et, q_ltt, q_ltf, q_let, q_lef, gIs, gIl, gIr, gLs, gLl, gLr, gPs, gPl, gPr, gLc, gPc, zb_some, Option.bind_some, q_nm, q_pm, q_hm, q_tm, q_sm, q_wm, q_ym, q_lm, q_ua, h3, h6, m210 (d := d + 2) hM hkL, a1, bIf, m211 (d := d + 2) hM hkL, a2] at e
        rw [hin]
        have hl2 : (kp ++ [k]).length = kp.length + 1 := by simp
        obtain ⟨S', j1, j2, j3⟩ := m223_l hv rest (kp ++ [k]) s S hM (by rw [List.append_assoc]; exact hs) (by rw [List.append_assoc]; exact hG)
        rw [hl2] at j1
        exact ⟨S', (e.trans e2).trans j1, j2, j3⟩
theorem m223 (hM : cM S b P) (hv : v < 22) (hs : mSt S v s) (hG : q_Gd P s) : ∃ S', fV (d + 4) 223 [.ref 396, .int (nI v)] S = some S' ∧ onM (vD v) S S' ∧ mSt S' v (q_seat P (q_l s) [] s) := by
  have e := e223 (d + 3) (nI v) S hM.1
  obtain ⟨S', a1, a2, a3⟩ := m223_l (d := d) hv (q_l s) [] s S hM hs hG
  exact ⟨S', e.trans a1, a2, a3⟩
theorem m224 {r k : Nat} (hM : cM S b P) (hv : v < 22) (hs : mSt S v s) (hG : q_Gd P s) (hk : q_s s r = some k) : ∃ S', fI (d + 6) 224 [.ref 396, .int (nI v), .int (nI r)] S = some (nI (q_rent P s r k), S') ∧ onM (fun c _ => c = 429 ∨ c = 430) S S' := by
  have hP := hM.2.2.2.2
  obtain ⟨v1, v2, v3, v4⟩ := hG.sl hP hk
  have hL := hP.2.2.2.2.1
  have hR := hP.1
  have ff := hP.2.2.2.2.2.2.2.1 k v2
  have e := e224 (d + 5) (nI v) (nI r) S hM.1
  have a1 := m205 (d := d + 4) (w := 2) hM (by omega)
  have a1' : fI (d + 5) 205 [.ref 396, .int (2 : Int32)] S = some (bI (!(p_d P 2).isEmpty), S) := a1
  rw [a1', zb_some] at e
  unfold q_rent
  cases hd : (p_d P 2).isEmpty with
  | true =>
    rw [hd, if_neg (by decide)] at e
    exact ⟨S, e, onM.refl hM.1⟩
  | false =>
    have hne : p_d P 2 ≠ [] := fun z => by rw [z] at hd; cases hd
    have hty : q_tyL (p_d P 2) [] = some [false] := by
      rcases hP.2.2.2.2.2.2.2.2.2.2.2.2.2.1 with z | z
      · exact absurd z hne
      · exact z
    obtain ⟨S1, b1, b2, b3⟩ := m216 (d := d) hM hv hs hG hk
    have hM1 := hM.on b2 (fun c k a b => by omega)
    have s5 : gI S1 423 (16 * v + r) = nI k := by
      rw [b2.I (by omega), hs.2.2.2.2.1 r (by omega), hk]
      rfl
    have key : ∀ own : Nat, own ≤ 1 → ∃ S', b224_46 (d + 5) (nI own) (nI 7) S1 = some (nI (q_clp (q_val (q_env P s r k own) (p_d P 2))), S') ∧ onM (fun c _ => c = 429 ∨ c = 430) S S' := fun own hown => by
      have ho2 : onM (fun c _ => c = 429 ∨ c = 430) S (sI S1 430 7 (nI own)) := onM_sI (D := fun c _ => c = 429 ∨ c = 430) (c := 430) (b2.mono fun c k z => Or.inr z) (Or.inr rfl)
      have hM2 := hM.on ho2 (fun c k a b => by omega)
      have hES := q_env_S (P := P) (s := s) (r := r) (k := k) (own := own) hP (hG.Bd hP) (by omega) (by omega)
      obtain ⟨S2, f1, f2⟩ := m204 (d := d + 2) (w := 2) (e := q_env P s r k own) hM2 (by omega) hES (fun j j1 j2 => by simp (disch := omega) only [gIs, q_ef, q_et, q_ltt, q_ltf, q_let, q_lef, if_true, if_false, not_true_eq_false, not_false_eq_true, ite_true, ite_false, true_and, and_true, false_and, and_false, or_true, true_or, or_false, false_or, Bool.false_eq_true, reduceIte, Bool.not_true, Bool.not_false, and_self, or_self]; exact b3 own j j1 j2) (by rw [q_env5, ← iI_n]; simp (disch := omega) only [gIs, q_ef, q_et, q_ltt, q_ltf, q_let, q_lef, if_true, if_false, not_true_eq_false, not_false_eq_true, ite_true, ite_false, true_and, and_true, false_and, and_false, or_true, true_or, or_false, false_or, Bool.false_eq_true, reduceIte, Bool.not_true, Bool.not_false, and_self, or_self]) hne hty
      have hvt := (q_val_VT (e := q_env P s r k own) hES hty).1
      unfold iS at hvt
      refine ⟨S2, ?_, ho2.trans (f2.mono fun c k z => Or.inl z)⟩
      have e2 := b224_46_eq (d + 5) (nI own) (nI 7) S1 b2.W
      have f1' : fL (d + 5) 204 [.ref 396, .int (2 : Int32)] (sI S1 430 (nI 7).toNatClampNeg (nI own)) = some (iL (q_val (q_env P s r k own) (p_d P 2)), S2) := f1
      rw [if_pos (show z_in (nI 7) 10 by decide), f1', zb_some] at e2
      rw [e2]
      have h99 : (99 : Int64) = iL 99 := rfl
      simp only [lg_cmp_ge, lg_cmp_le, iL_0, h99, iL_le (a := 0) (b := q_val (q_env P s r k own) (p_d P 2)) (by omega) (by omega) (by omega) (by omega), iL_le (a := q_val (q_env P s r k own) (p_d P 2)) (b := 99) (by omega) (by omega) (by omega) (by omega)]
      unfold q_clp
      by_cases g1 : q_val (q_env P s r k own) (p_d P 2) < 0
      · rw [if_neg (by omega), if_pos g1]; rfl
      · rw [if_pos (by omega), if_neg g1]
        by_cases g2 : 99 < q_val (q_env P s r k own) (p_d P 2)
        · rw [if_neg (by omega), if_pos g2]; rfl
        · rw [if_pos (by omega), if_neg g2, iL_i, iI_n]
          congr 3
          omega
    rw [hd, if_pos (by decide), b1, Option.bind_some] at e
    simp (disch := omega) only [ni_lit, nI_add, pk_mul, pk_sub, pk_div, nI_leI, nI_ltI, nI_eq, nI_clamp, ni_in, ni_inm, ni_ltm, ni_mlt, ni_lem, ni_mle, ni_eqm, ni_meq, ni_mm, ni_mmle, ni_bit, ni_shl, ni_clr, fa_or, Nat.add_zero, Nat.zero_add, Nat.zero_mul, Nat.mul_zero, eOn, eOs, q_ltt, if_true, s5] at e
    rw [m210 (d := d + 4) hM1 v2, zb_some] at e
    rw [if_neg (by decide)]
    by_cases c : p_f P k = r
    · obtain ⟨S', j1, j2⟩ := key 1 (by omega)
      rw [if_neg (fun z => z (by rw [c]))] at e
      rw [if_pos c]
      exact ⟨S', e.trans j1, j2⟩
    · obtain ⟨S', j1, j2⟩ := key 0 (by omega)
      rw [if_pos (fun z => c ((nI_eq (by omega) (by omega)).mp z))] at e
      rw [if_neg c]
      exact ⟨S', e.trans j1, j2⟩
theorem m225 {r k : Nat} (hM : cM S b P) (hv : v < 22) (hs : mSt S v s) (hG : q_Gd P s) (hk : q_s s r = some k) : ∃ S', fI (d + 6) 225 [.ref 396, .int (nI v), .int (nI r)] S = some (bI (!(p_d P 1).isEmpty && !decide (q_val (q_env P s r k (q_l s).length) (p_d P 1) = 0)), S') ∧ onM (fun c _ => c = 429 ∨ c = 430) S S' := by
  have hP := hM.2.2.2.2
  obtain ⟨v1, v2, v3, v4⟩ := hG.sl hP hk
  have hR := hP.1
  have hl := (hG.Bd hP).2.2.1
  have e := e225 (d + 5) (nI v) (nI r) S hM.1
  have a1 := m205 (d := d + 4) (w := 1) hM (by omega)
  have a1' : fI (d + 5) 205 [.ref 396, .int (1 : Int32)] S = some (bI (!(p_d P 1).isEmpty), S) := a1
  rw [a1', zb_some] at e
  cases hd : (p_d P 1).isEmpty with
  | true =>
    rw [hd, if_neg (by decide)] at e
    exact ⟨S, e, onM.refl hM.1⟩
  | false =>
    have hne : p_d P 1 ≠ [] := fun z => by rw [z] at hd; cases hd
    have hty : q_tyL (p_d P 1) [] = some [true] := by
      rcases hP.2.2.2.2.2.2.2.2.2.2.2.2.1 with z | z
      · exact absurd z hne
      · exact z
    obtain ⟨S1, b1, b2, b3⟩ := m216 (d := d) hM hv hs hG hk
    have s3 : gI S1 425 v = nI (q_l s).length := by rw [b2.I (by omega)]; exact hs.2.2.2.1
    have ho2 : onM (fun c _ => c = 429 ∨ c = 430) S (sI S1 430 6 (nI (q_l s).length)) := onM_sI (D := fun c _ => c = 429 ∨ c = 430) (c := 430) (b2.mono fun c k z => Or.inr z) (Or.inr rfl)
    have hM2 := hM.on ho2 (fun c k a b => by omega)
    have hES := q_env_S (P := P) (s := s) (r := r) (k := k) (own := (q_l s).length) hP (hG.Bd hP) (by omega) (by omega)
    obtain ⟨S2, f1, f2⟩ := m204 (d := d + 2) (w := 1) (e := q_env P s r k (q_l s).length) hM2 (by omega) hES (fun j j1 j2 => by simp (disch := omega) only [gIs, q_ef, q_et, q_ltt, q_ltf, q_let, q_lef, if_true, if_false, not_true_eq_false, not_false_eq_true, ite_true, ite_false, true_and, and_true, false_and, and_false, or_true, true_or, or_false, false_or, Bool.false_eq_true, reduceIte, Bool.not_true, Bool.not_false, and_self, or_self]; exact b3 _ j j1 j2) (by rw [q_env5, ← iI_n]; simp (disch := omega) only [gIs, q_ef, q_et, q_ltt, q_ltf, q_let, q_lef, if_true, if_false, not_true_eq_false, not_false_eq_true, ite_true, ite_false, true_and, and_true, false_and, and_false, or_true, true_or, or_false, false_or, Bool.false_eq_true, reduceIte, Bool.not_true, Bool.not_false, and_self, or_self]) hne hty
    have hvt := (q_val_VT (e := q_env P s r k (q_l s).length) hES hty).2 rfl
    rw [hd, if_pos (by decide), b1, Option.bind_some] at e
    simp (disch := omega) only [ni_lit, nI_add, pk_mul, pk_sub, pk_div, nI_leI, nI_ltI, nI_eq, nI_clamp, ni_in, ni_inm, ni_ltm, ni_mlt, ni_lem, ni_mle, ni_eqm, ni_meq, ni_mm, ni_mmle, ni_bit, ni_shl, ni_clr, fa_or, Nat.add_zero, Nat.zero_add, Nat.zero_mul, Nat.mul_zero, eOn, eOs, q_ltt, if_true, s3] at e
    have f1' : fL (d + 5) 204 [.ref 396, .int (nI 1)] (sI S1 430 6 (nI (q_l s).length)) = some (iL (q_val (q_env P s r k (q_l s).length) (p_d P 1)), S2) := f1
    rw [f1', zb_some] at e
    have hz : (iL (q_val (q_env P s r k (q_l s).length) (p_d P 1)) = iL 1) ↔ q_val (q_env P s r k (q_l s).length) (p_d P 1) = 1 := iL_eq (by omega) (by omega) (by omega) (by omega)
    simp only [lgE, iL_1, hz] at e
    refine ⟨S2, ?_, ho2.trans (f2.mono fun c k z => Or.inl z)⟩
    rw [e]
    rcases hvt with z | z
    · rw [z]; rfl
    · rw [z]; rfl
end ME
