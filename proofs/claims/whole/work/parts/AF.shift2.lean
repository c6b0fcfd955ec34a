/-! THE FORMULAS: the reference's stack. -/
section GQ
variable {d b w f0 : Nat} {T : List Nat} {S : z_S} {p : Nat} {cs : List Nat} {fs : List g_Fr} {F : g_Fr} {o : Nat} {od : Bool}
theorem mG.W (h : mG S T b w f0 p cs fs o od) : z_W S := h.1.1.1
/-- a state that differs only where these frames are not -/
theorem mG.mv {S' : z_S} {D : Nat → Nat → Prop} (h : mG S T b w f0 p cs fs o od) (ho : onM D S S') (hd : ∀ c k, D c k → ¬ (c = 396 ∧ (2 ≤ k ∧ k ≤ 9 ∨ k = 12 ∨ 29 ≤ k ∧ k ≤ 31 ∨ 37 ≤ k ∧ k ≤ 41)) ∧ c ≠ 397 ∧ ¬ (410 ≤ c ∧ c ≤ 411) ∧ ¬ (413 ≤ c ∧ c ≤ 417 ∧ k < fs.length) ∧ ¬ (c = 418 ∧ k < f_oc fs)) : mG S' T b w f0 p cs fs o od := by
  obtain ⟨h1, h2, h3, h4, h5, h6, h7, h8, h9, h10, h11, h12, h13⟩ := h
  have g : ∀ k, (2 ≤ k ∧ k ≤ 9 ∨ k = 12 ∨ 29 ≤ k ∧ k ≤ 31 ∨ 37 ≤ k ∧ k ≤ 41) → gI S' 396 k = gI S 396 k := fun k hk => ho.I fun z => (hd _ _ z).1 ⟨rfl, hk⟩
  refine ⟨h1.on ho fun c k z => ⟨fun w => (hd c k z).1 ⟨w.1, by omega⟩, (hd c k z).2.1⟩, by rw [g 8 (by omega)]; exact h2, h3, by rw [g 30 (by omega)]; exact h4, by rw [g 31 (by omega)]; exact h5, ⟨h6.1, by rw [g 9 (by omega)]; exact h6.2⟩, h7, ⟨by rw [g 29 (by omega)]; exact h8.1, fun i hi hf => ?_⟩, by rw [g 37 (by omega)]; exact h9, by rw [g 40 (by omega)]; exact h10, by rw [g 38 (by omega)]; exact h11, by rw [g 41 (by omega)]; exact h12, h13.ag (fun c k z1 z2 z3 _ => ho.I fun z => (hd _ _ z).2.2.2.1 ⟨by omega, by omega, z3⟩) fun k hk => ho.I fun z => (hd _ _ z).2.2.2.2 ⟨rfl, hk⟩⟩
  rw [ho.I (fun z => (hd _ _ z).2.2.1 ⟨by omega, by omega⟩), ho.I (fun z => (hd _ _ z).2.2.1 ⟨by omega, by omega⟩)]
  exact h8.2 i hi hf
theorem m163g (h : mG S T b w f0 p cs fs o od) : ∃ S', fV (d + 2) 163 [.ref 396] S = some S' ∧ onM (g_mD b f0) S S' ∧ mG S' T b w f0 (g_en T p) cs fs o od := by
  obtain ⟨S', a1, a2, a3⟩ := m163n (d := d) h.1
  obtain ⟨h1, h2, h3, h4, h5, h6, h7, h8, h9, h10, h11, h12, h13⟩ := h
  have g : ∀ k, ¬ (3 ≤ k ∧ k ≤ 7 ∨ k = 12) → gI S' 396 k = gI S 396 k := fun k hk => a2.I fun z => hk z.2
  refine ⟨S', a1, a2.mono fun c k z => by unfold tDm at z; unfold g_mD; omega, a3, by rw [g 8 (by omega)]; exact h2, h3, by rw [g 30 (by omega)]; exact h4, by rw [g 31 (by omega)]; exact h5, ⟨h6.1, by rw [g 9 (by omega)]; exact h6.2⟩, h7, ⟨by rw [g 29 (by omega)]; exact h8.1, fun i hi hf => ?_⟩, by rw [g 37 (by omega)]; exact h9, by rw [g 40 (by omega)]; exact h10, by rw [g 38 (by omega)]; exact h11, by rw [g 41 (by omega)]; exact h12, h13.ag (fun c k z1 z2 z3 _ => a2.I fun z => by unfold tDm at z; omega) fun k hk => a2.I fun z => by unfold tDm at z; omega⟩
  rw [a2.I (by unfold tDm; omega), a2.I (by unfold tDm; omega)]
  exact h8.2 i hi hf
theorem m170g {c : Nat} {x y : Int32} (h : mG S T b w f0 p cs fs o od) (hl : cs.length < 1600) (hc : q_mc w c x y) : ∃ S', fV (d + 1) 170 [.ref 396, .int x, .int y] S = some S' ∧ onM (g_mD b f0) S S' ∧ (∀ k, gI S' 418 k = gI S 418 k) ∧ mG S' T b w f0 p (cs ++ [c]) fs o od := by
  have hW := h.W
  obtain ⟨h1, h2, h3, h4, h5, h6, h7, h8, h9, h10, h11, h12, h13⟩ := h
  have e := e170 d x y S hW
  have h29 := h8.1
  have q1 : gI (sI S 410 (1600 * b + cs.length) x) 396 30 = nI b := by simp (disch := omega) only [ni_lit, nI_add, pk_mul, pk_sub, pk_div, nI_leI, nI_ltI, nI_eq, nI_clamp, ni_in, ni_inm, ni_ltm, ni_mlt, ni_lem, ni_mle, ni_eqm, ni_meq, ni_mm, ni_mmle, ni_bit, ni_shl, ni_clr, fa_or, Nat.add_zero, Nat.zero_add, Nat.zero_mul, Nat.mul_zero, eOn, eOs, if_true, if_false, not_true_eq_false, not_false_eq_true, ite_true, ite_false, true_and, and_true, false_and, and_false, or_true, true_or, or_false, false_or, Bool.false_eq_true, reduceIte, Bool.not_true, Bool.not_false, and_self, or_self, q_ef, q_et, q_ltt, q_ltf, q_let, q_lef, gIs, gIl, gIr, gLs, gLl, gLr, gPs, gPl, gPr, gLc, gPc, zb_some, Option.bind_some, q_nm, q_pm, q_hm, q_tm, q_sm, q_wm, q_ym, q_lm, q_ua, h4]
  have q2 : gI (sI S 410 (1600 * b + cs.length) x) 396 29 = nI cs.length := by simp (disch := omega) only [ni_lit, nI_add, pk_mul, pk_sub, pk_div, nI_leI, nI_ltI, nI_eq, nI_clamp, ni_in, ni_inm, ni_ltm, ni_mlt, ni_lem, ni_mle, ni_eqm, ni_meq, ni_mm, ni_mmle, ni_bit, ni_shl, ni_clr, fa_or, Nat.add_zero, Nat.zero_add, Nat.zero_mul, Nat.mul_zero, eOn, eOs, if_true, if_false, not_true_eq_false, not_false_eq_true, ite_true, ite_false, true_and, and_true, false_and, and_false, or_true, true_or, or_false, false_or, Bool.false_eq_true, reduceIte, Bool.not_true, Bool.not_false, and_self, or_self, q_ef, q_et, q_ltt, q_ltf, q_let, q_lef, gIs, gIl, gIr, gLs, gLl, gLr, gPs, gPl, gPr, gLc, gPc, zb_some, Option.bind_some, q_nm, q_pm, q_hm, q_tm, q_sm, q_wm, q_ym, q_lm, q_ua, h29]
  simp (disch := omega) only [ni_lit, nI_add, pk_mul, pk_sub, pk_div, nI_leI, nI_ltI, nI_eq, nI_clamp, ni_in, ni_inm, ni_ltm, ni_mlt, ni_lem, ni_mle, ni_eqm, ni_meq, ni_mm, ni_mmle, ni_bit, ni_shl, ni_clr, fa_or, Nat.add_zero, Nat.zero_add, Nat.zero_mul, Nat.mul_zero, eOn, eOs, if_true, if_false, not_true_eq_false, not_false_eq_true, ite_true, ite_false, true_and, and_true, false_and, and_false, or_true, true_or, or_false, false_or, Bool.false_eq_true, reduceIte, Bool.not_true, Bool.not_false, and_self, or_self, q_ef, q_et, q_ltt, q_ltf, q_let, q_lef, gIs, gIl, gIr, gLs, gLl, gLr, gPs, gPl, gPr, gLc, gPc, zb_some, Option.bind_some, q_nm, q_pm, q_hm, q_tm, q_sm, q_wm, q_ym, q_lm, q_ua, h4, h29, q1, q2] at e
  have oc : onM (g_mD b f0) S (sI (sI (sI S 410 (1600 * b + cs.length) x) 411 (1600 * b + cs.length) y) 396 29 (nI (cs.length + 1))) := onM_sI (D := g_mD b f0) (c := 396) (k := 29) (onM_sI (D := g_mD b f0) (c := 411) (k := 1600 * b + cs.length) (onM_sI (D := g_mD b f0) (c := 410) (k := 1600 * b + cs.length) (onM.refl hW) (Or.inr (Or.inr ⟨Or.inl rfl, by omega, by omega⟩))) (Or.inr (Or.inr ⟨Or.inr rfl, by omega, by omega⟩))) (Or.inl ⟨rfl, by omega⟩)
  have o2 : onM (fun c k => c = 396 ∧ k = 29 ∨ (c = 410 ∨ c = 411)) S (sI (sI (sI S 410 (1600 * b + cs.length) x) 411 (1600 * b + cs.length) y) 396 29 (nI (cs.length + 1))) := onM_sI (D := fun c k => c = 396 ∧ k = 29 ∨ (c = 410 ∨ c = 411)) (c := 396) (k := 29) (onM_sI (D := fun c k => c = 396 ∧ k = 29 ∨ (c = 410 ∨ c = 411)) (c := 411) (k := 1600 * b + cs.length) (onM_sI (D := fun c k => c = 396 ∧ k = 29 ∨ (c = 410 ∨ c = 411)) (c := 410) (k := 1600 * b + cs.length) (onM.refl hW) (Or.inr (Or.inl rfl))) (Or.inr (Or.inr rfl))) (Or.inl ⟨rfl, rfl⟩)
  refine ⟨_, e, oc, fun k => o2.I (by omega), h1.on o2 (fun c k z => by omega), by rw [o2.I (by omega)]; exact h2, h3, by rw [o2.I (by omega)]; exact h4, by rw [o2.I (by omega)]; exact h5, ⟨h6.1, by rw [o2.I (by omega)]; exact h6.2⟩, by rw [List.length_append]; omega, ⟨?_, fun i hi hf => ?_⟩, by rw [o2.I (by omega)]; exact h9, by rw [o2.I (by omega)]; exact h10, by rw [o2.I (by omega)]; exact h11, by rw [o2.I (by omega)]; exact h12, h13.ag (fun c k z1 z2 z3 _ => o2.I (by omega)) fun k hk => o2.I (by omega)⟩
  · rw [List.length_append, List.length_singleton]
    simp (disch := omega) only [ni_lit, nI_add, pk_mul, pk_sub, pk_div, nI_leI, nI_ltI, nI_eq, nI_clamp, ni_in, ni_inm, ni_ltm, ni_mlt, ni_lem, ni_mle, ni_eqm, ni_meq, ni_mm, ni_mmle, ni_bit, ni_shl, ni_clr, fa_or, Nat.add_zero, Nat.zero_add, Nat.zero_mul, Nat.mul_zero, eOn, eOs, if_true, if_false, not_true_eq_false, not_false_eq_true, ite_true, ite_false, true_and, and_true, false_and, and_false, or_true, true_or, or_false, false_or, Bool.false_eq_true, reduceIte, Bool.not_true, Bool.not_false, and_self, or_self, q_ef, q_et, q_ltt, q_ltf, q_let, q_lef, gIs, gIl, gIr, gLs, gLl, gLr, gPs, gPl, gPr, gLc, gPc, zb_some, Option.bind_some, q_nm, q_pm, q_hm, q_tm, q_sm, q_wm, q_ym, q_lm, q_ua]
  · rw [List.length_append, List.length_singleton] at hi
    by_cases z : i = cs.length
    · rw [z, List.getD_eq_getElem?_getD, List.getElem?_append_right (Nat.le_refl _), Nat.sub_self]
      simp (disch := omega) only [ni_lit, nI_add, pk_mul, pk_sub, pk_div, nI_leI, nI_ltI, nI_eq, nI_clamp, ni_in, ni_inm, ni_ltm, ni_mlt, ni_lem, ni_mle, ni_eqm, ni_meq, ni_mm, ni_mmle, ni_bit, ni_shl, ni_clr, fa_or, Nat.add_zero, Nat.zero_add, Nat.zero_mul, Nat.mul_zero, eOn, eOs, if_true, if_false, not_true_eq_false, not_false_eq_true, ite_true, ite_false, true_and, and_true, false_and, and_false, or_true, true_or, or_false, false_or, Bool.false_eq_true, reduceIte, Bool.not_true, Bool.not_false, and_self, or_self, q_ef, q_et, q_ltt, q_ltf, q_let, q_lef, gIs, gIl, gIr, gLs, gLl, gLr, gPs, gPl, gPr, gLc, gPc, zb_some, Option.bind_some, q_nm, q_pm, q_hm, q_tm, q_sm, q_wm, q_ym, q_lm, q_ua]
      exact hc
    · rw [List.getD_eq_getElem?_getD, List.getElem?_append_left (by omega), ← List.getD_eq_getElem?_getD]
      have := h8.2 i (by omega) hf
      simp (disch := omega) only [ni_lit, nI_add, pk_mul, pk_sub, pk_div, nI_leI, nI_ltI, nI_eq, nI_clamp, ni_in, ni_inm, ni_ltm, ni_mlt, ni_lem, ni_mle, ni_eqm, ni_meq, ni_mm, ni_mmle, ni_bit, ni_shl, ni_clr, fa_or, Nat.add_zero, Nat.zero_add, Nat.zero_mul, Nat.mul_zero, eOn, eOs, if_true, if_false, not_true_eq_false, not_false_eq_true, ite_true, ite_false, true_and, and_true, false_and, and_false, or_true, true_or, or_false, false_or, Bool.false_eq_true, reduceIte, Bool.not_true, Bool.not_false, and_self, or_self, q_ef, q_et, q_ltt, q_ltf, q_let, q_lef, gIs, gIl, gIr, gLs, gLl, gLr, gPs, gPl, gPr, gLc, gPc, zb_some, Option.bind_some, q_nm, q_pm, q_hm, q_tm, q_sm, q_wm, q_ym, q_lm, q_ua]
      exact this
/-- an operator waits -/
theorem m173g {c : Nat} (h : mG S T b w f0 p cs (F :: fs) o od) (hc : 10006 ≤ c ∧ c ≤ 10018) (hl : f_oc (F :: fs) < 500) : ∃ S', fV (d + 1) 173 [.ref 396, .int (nI (c - 9975))] S = some S' ∧ onM (g_mD b f0) S S' ∧ mG S' T b w f0 p cs ((f_k F, f_h F, f_b F, f_p F, c :: f_o F) :: fs) o od := by
  have hW := h.W
  obtain ⟨h1, h2, h3, h4, h5, h6, h7, h8, h9, h10, h11, h12, h13⟩ := h
  have e := e173 d (nI (c - 9975)) S hW
  simp (disch := omega) only [ni_lit, nI_add, pk_mul, pk_sub, pk_div, nI_leI, nI_ltI, nI_eq, nI_clamp, ni_in, ni_inm, ni_ltm, ni_mlt, ni_lem, ni_mle, ni_eqm, ni_meq, ni_mm, ni_mmle, ni_bit, ni_shl, ni_clr, fa_or, Nat.add_zero, Nat.zero_add, Nat.zero_mul, Nat.mul_zero, eOn, eOs, if_true, if_false, not_true_eq_false, not_false_eq_true, ite_true, ite_false, true_and, and_true, false_and, and_false, or_true, true_or, or_false, false_or, Bool.false_eq_true, reduceIte, Bool.not_true, Bool.not_false, and_self, or_self, q_ef, q_et, q_ltt, q_ltf, q_let, q_lef, gIs, gIl, gIr, gLs, gLl, gLr, gPs, gPl, gPr, gLc, gPc, zb_some, Option.bind_some, q_nm, q_pm, q_hm, q_tm, q_sm, q_wm, q_ym, q_lm, q_ua, h10] at e
  have oc : onM (fun c k => c = 418 ∧ k = f_oc (F :: fs) ∨ c = 396 ∧ k = 40) S (sI (sI S 418 (f_oc (F :: fs)) (nI (c - 9975))) 396 40 (nI (f_oc (F :: fs) + 1))) := onM_sI (D := fun c k => c = 418 ∧ k = f_oc (F :: fs) ∨ c = 396 ∧ k = 40) (c := 396) (k := 40) (onM_sI (D := fun c k => c = 418 ∧ k = f_oc (F :: fs) ∨ c = 396 ∧ k = 40) (c := 418) (k := f_oc (F :: fs)) (onM.refl hW) (Or.inl ⟨rfl, rfl⟩)) (Or.inr ⟨rfl, rfl⟩)
  have v40 : gI (sI (sI S 418 (f_oc (F :: fs)) (nI (c - 9975))) 396 40 (nI (f_oc (F :: fs) + 1))) 396 40 = nI (f_oc (F :: fs) + 1) := by simp (disch := omega) only [ni_lit, nI_add, pk_mul, pk_sub, pk_div, nI_leI, nI_ltI, nI_eq, nI_clamp, ni_in, ni_inm, ni_ltm, ni_mlt, ni_lem, ni_mle, ni_eqm, ni_meq, ni_mm, ni_mmle, ni_bit, ni_shl, ni_clr, fa_or, Nat.add_zero, Nat.zero_add, Nat.zero_mul, Nat.mul_zero, eOn, eOs, if_true, if_false, not_true_eq_false, not_false_eq_true, ite_true, ite_false, true_and, and_true, false_and, and_false, or_true, true_or, or_false, false_or, Bool.false_eq_true, reduceIte, Bool.not_true, Bool.not_false, and_self, or_self, q_ef, q_et, q_ltt, q_ltf, q_let, q_lef, gIs, gIl, gIr, gLs, gLl, gLr, gPs, gPl, gPr, gLc, gPc, zb_some, Option.bind_some, q_nm, q_pm, q_hm, q_tm, q_sm, q_wm, q_ym, q_lm, q_ua]
  have v418 : gI (sI (sI S 418 (f_oc (F :: fs)) (nI (c - 9975))) 396 40 (nI (f_oc (F :: fs) + 1))) 418 (f_oc (F :: fs)) = nI (c - 9975) := by simp (disch := omega) only [ni_lit, nI_add, pk_mul, pk_sub, pk_div, nI_leI, nI_ltI, nI_eq, nI_clamp, ni_in, ni_inm, ni_ltm, ni_mlt, ni_lem, ni_mle, ni_eqm, ni_meq, ni_mm, ni_mmle, ni_bit, ni_shl, ni_clr, fa_or, Nat.add_zero, Nat.zero_add, Nat.zero_mul, Nat.mul_zero, eOn, eOs, if_true, if_false, not_true_eq_false, not_false_eq_true, ite_true, ite_false, true_and, and_true, false_and, and_false, or_true, true_or, or_false, false_or, Bool.false_eq_true, reduceIte, Bool.not_true, Bool.not_false, and_self, or_self, q_ef, q_et, q_ltt, q_ltf, q_let, q_lef, gIs, gIl, gIr, gLs, gLl, gLr, gPs, gPl, gPr, gLc, gPc, zb_some, Option.bind_some, q_nm, q_pm, q_hm, q_tm, q_sm, q_wm, q_ym, q_lm, q_ua]
  generalize hS1 : sI (sI S 418 (f_oc (F :: fs)) (nI (c - 9975))) 396 40 (nI (f_oc (F :: fs) + 1)) = S1 at *
  have eo : f_oc (F :: fs) = f_oc fs + (f_o F).length := rfl
  have eo2 : f_oc ((f_k F, f_h F, f_b F, f_p F, c :: f_o F) :: fs) = f_oc fs + ((f_o F).length + 1) := rfl
  obtain ⟨a1, a2, a3, a4, a5, a6, a7, a8⟩ := h13
  refine ⟨S1, e, oc.mono fun c k z => by unfold g_mD; omega, h1.on oc (fun c k z => by omega), by rw [oc.I (by omega)]; exact h2, h3, by rw [oc.I (by omega)]; exact h4, by rw [oc.I (by omega)]; exact h5, ⟨h6.1, by rw [oc.I (by omega)]; exact h6.2⟩, h7, ⟨by rw [oc.I (by omega)]; exact h8.1, fun i hi hf => by rw [oc.I (by omega), oc.I (by omega)]; exact h8.2 i hi hf⟩, by rw [oc.I (by omega)]; exact h9, by rw [v40, eo2, eo]; rfl, by rw [oc.I (by omega)]; exact h11, by rw [oc.I (by omega)]; exact h12, ?_⟩
  refine ⟨by rw [oc.I (by omega)]; exact a1, by rw [oc.I (by omega)]; exact a2, by rw [oc.I (by omega)]; exact a3, fun z => by rw [oc.I (by omega)]; exact a4 z, by rw [oc.I (by omega)]; exact a5, fun i hi => ?_, fun x hx => ?_, a8.ag (fun c k z1 z2 z3 _ => oc.I (by omega)) fun k hk => oc.I (by omega)⟩
  · have hi' : i < (f_o F).length + 1 := hi
    show gI S1 418 (f_oc fs + i) = nI ((c :: f_o F).reverse.getD i 0 - 9975)
    rw [List.reverse_cons]
    by_cases z : i = (f_o F).length
    · rw [z, ← eo, v418, List.getD_eq_getElem?_getD, List.getElem?_append_right (by rw [List.length_reverse]; exact Nat.le_refl _), List.length_reverse, Nat.sub_self]
      rfl
    · rw [oc.I (by omega), a6 i (by omega), List.getD_eq_getElem?_getD, List.getD_eq_getElem?_getD, List.getElem?_append_left (by rw [List.length_reverse]; omega)]
  · rcases List.mem_cons.mp hx with z | z
    · rw [z]; exact hc
    · exact a7 x z
def g_rk (c : Nat) : Nat := if c = 10017 then 1 else if c = 10016 then 2 else if c = 10018 then 3 else if 10013 ≤ c ∧ c ≤ 10015 then 4 else if c ≤ 10007 then 5 else 6
theorem m171 {c : Nat} (hW : z_W S) (hc : 10006 ≤ c ∧ c ≤ 10018) : fI (d + 1) 171 [.int (nI (c - 9975))] S = some (nI (g_rk c), S) := by
  have e := e171 d (nI (c - 9975)) S hW
  rw [b171_48_eq d S hW, b171_64_eq d S hW] at e
  have hr : c = 10006 ∨ c = 10007 ∨ c = 10008 ∨ c = 10009 ∨ c = 10010 ∨ c = 10011 ∨ c = 10012 ∨ c = 10013 ∨ c = 10014 ∨ c = 10015 ∨ c = 10016 ∨ c = 10017 ∨ c = 10018 := by omega
  rcases hr with z | z | z | z | z | z | z | z | z | z | z | z | z <;> rw [z] at e ⊢ <;> exact e
def g_nn (r : List Nat) : Nat := r.countP (fun c => decide (c = 10018))
/-- those of rank R on are joined -/
theorem m172g {R : Nat} {os : List Nat} (hR : R ≤ 6) (hos : ∀ c, c ∈ os.head? → g_rk c < R) : ∀ (r : List Nat) (S : z_S) (cs : List Nat) (o : Nat), mG S T b w f0 p cs ((f_k F, f_h F, f_b F, f_p F, r ++ os) :: fs) o od → (∀ c, c ∈ r → R ≤ g_rk c) → fs.length < 19 → f_oc fs + (r ++ os).length < 500 → cs.length + r.length ≤ 1600 → g_nn r ≤ o → o < 100 → ∃ S', b172_0 (d + 1) (nI R) S = some S' ∧ onM (g_mD b f0) S S' ∧ mG S' T b w f0 p (cs ++ r) ((f_k F, f_h F, f_b F, f_p F, os) :: fs) (o - g_nn r) od
  | [], S, cs, o, h, hr, hl, ho, hc, hn, ho2 => by
    have e := b172_0_eq (d + 1) (nI R) S h.W
    have h37 := h.2.2.2.2.2.2.2.2.1
    have h40 := h.2.2.2.2.2.2.2.2.2.1
    obtain ⟨a1, a2, a3, a4, a5, a6, a7, a8⟩ := h.2.2.2.2.2.2.2.2.2.2.2.2
    have hlen : ((f_k F, f_h F, f_b F, f_p F, [] ++ os) :: fs).length = fs.length + 1 := rfl
    have hoc : f_oc ((f_k F, f_h F, f_b F, f_p F, [] ++ os) :: fs) = f_oc fs + os.length := rfl
    rw [hlen] at h37
    rw [hoc] at h40
    rw [List.nil_append] at ho
    have e37 : gI S 396 37 - (1 : Int32) = nI fs.length := by rw [h37]; exact pk_sub (b := 1) (by omega)
    have z1 : z_in (nI fs.length) 20 := (ni_in (by omega)).mpr (by omega)
    have r17 : gI S 417 (nI fs.length).toNatClampNeg = nI (f_oc fs) := by rw [nI_clamp (by omega)]; exact a5
    rw [e37, if_pos z1, r17, h40] at e
    have fin : mG S T b w f0 p (cs ++ []) ((f_k F, f_h F, f_b F, f_p F, os) :: fs) (o - g_nn []) od := by
      rw [List.append_nil]
      exact h
    cases hos2 : os with
    | nil =>
      rw [hos2, List.length_nil, if_pos (show nI (f_oc fs + 0) ≤ nI (f_oc fs) from nI_le (Nat.le_refl _) (by omega))] at e
      rw [hos2] at fin
      exact ⟨S, e, onM.refl h.W, fin⟩
    | cons c os' =>
      have hc0 := hos c (by rw [hos2]; rfl)
      rw [hos2, List.length_cons] at ho e
      have e40 : nI (f_oc fs + (os'.length + 1)) - (1 : Int32) = nI (f_oc fs + os'.length) := pk_sub (a := f_oc fs + (os'.length + 1)) (b := 1) (by omega)
      have z2 : z_in (nI (f_oc fs + os'.length)) 500 := (ni_in (by omega)).mpr (by omega)
      have hop : f_o (f_k F, f_h F, f_b F, f_p F, [] ++ os) = c :: os' := hos2
      have r18 : gI S 418 (nI (f_oc fs + os'.length)).toNatClampNeg = nI (c - 9975) := by
        rw [nI_clamp (by omega), a6 os'.length (by rw [hop, List.length_cons]; omega), hop, List.reverse_cons, List.getD_eq_getElem?_getD, List.getElem?_append_right (by rw [List.length_reverse]; exact Nat.le_refl _), List.length_reverse, Nat.sub_self]
        rfl
      have hcr := a7 c (by rw [hop]; exact List.mem_cons_self)
      rw [if_neg (nI_ge (show f_oc fs < f_oc fs + (os'.length + 1) by omega) (by omega)), e40, if_pos z2, r18, m171 (d := d) h.W hcr, zb_some, if_pos (nI_lt hc0 (by omega))] at e
      rw [hos2] at fin
      exact ⟨S, e, onM.refl h.W, fin⟩
  | c :: r, S, cs, o, h, hr, hl, ho, hc, hn, ho2 => by
    have e := b172_0_eq (d + 1) (nI R) S h.W
    have h37 := h.2.2.2.2.2.2.2.2.1
    have h40 := h.2.2.2.2.2.2.2.2.2.1
    have h38 := h.2.2.2.2.2.2.2.2.2.2.1
    obtain ⟨a1, a2, a3, a4, a5, a6, a7, a8⟩ := h.2.2.2.2.2.2.2.2.2.2.2.2
    have hop : f_o (f_k F, f_h F, f_b F, f_p F, (c :: r) ++ os) = c :: (r ++ os) := rfl
    have hlen : ((f_k F, f_h F, f_b F, f_p F, (c :: r) ++ os) :: fs).length = fs.length + 1 := rfl
    have hoc : f_oc ((f_k F, f_h F, f_b F, f_p F, (c :: r) ++ os) :: fs) = f_oc fs + ((r ++ os).length + 1) := rfl
    rw [hlen] at h37
    rw [hoc] at h40
    rw [List.cons_append, List.length_cons] at ho
    rw [List.length_cons] at hc
    have hcr := a7 c (by rw [hop]; exact List.mem_cons_self)
    have hrk := hr c List.mem_cons_self
    have hrk6 : g_rk c ≤ 6 := by
      unfold g_rk
      repeat' split
      all_goals omega
    have e37 : gI S 396 37 - (1 : Int32) = nI fs.length := by rw [h37]; exact pk_sub (b := 1) (by omega)
    have z1 : z_in (nI fs.length) 20 := (ni_in (by omega)).mpr (by omega)
    have r17 : gI S 417 (nI fs.length).toNatClampNeg = nI (f_oc fs) := by rw [nI_clamp (by omega)]; exact a5
    have e40 : nI (f_oc fs + ((r ++ os).length + 1)) - (1 : Int32) = nI (f_oc fs + (r ++ os).length) := pk_sub (a := f_oc fs + ((r ++ os).length + 1)) (b := 1) (by omega)
    have z2 : z_in (nI (f_oc fs + (r ++ os).length)) 500 := (ni_in (by omega)).mpr (by omega)
    have r18 : gI S 418 (nI (f_oc fs + (r ++ os).length)).toNatClampNeg = nI (c - 9975) := by
      rw [nI_clamp (by omega), a6 (r ++ os).length (by rw [hop, List.length_cons]; omega), hop, List.reverse_cons, List.getD_eq_getElem?_getD, List.getElem?_append_right (by rw [List.length_reverse]; exact Nat.le_refl _), List.length_reverse, Nat.sub_self]
      rfl
    rw [e37, if_pos z1, r17, h40, if_neg (nI_ge (show f_oc fs < f_oc fs + ((r ++ os).length + 1) by omega) (by omega)), e40, if_pos z2, r18, m171 (d := d) h.W hcr, zb_some, if_neg (fun z => by have := (nI_ltI (by omega) (by omega)).mp z; omega), h40, e40] at e
    have v40 : gI (sI S 396 40 (nI (f_oc fs + (r ++ os).length))) 396 40 = nI (f_oc fs + (r ++ os).length) := by rw [gIs, if_pos rfl, if_pos rfl]
    have u : ∀ c k, ¬ (c = 396 ∧ k = 40) → gI (sI S 396 40 (nI (f_oc fs + (r ++ os).length))) c k = gI S c k := fun c k hk => by
      rw [gIs]
      by_cases z : c = 396
      · rw [if_pos z, if_neg (fun w => hk ⟨z, w⟩)]
      · rw [if_neg z]
    have o1 : onM (fun c k => c = 396 ∧ k = 40) S (sI S 396 40 (nI (f_oc fs + (r ++ os).length))) := onM_sI (D := fun c k => c = 396 ∧ k = 40) (c := 396) (k := 40) (onM.refl h.W) ⟨rfl, rfl⟩
    generalize hS1 : sI S 396 40 (nI (f_oc fs + (r ++ os).length)) = S1 at *
    have h1 : mG S1 T b w f0 p cs ((f_k F, f_h F, f_b F, f_p F, r ++ os) :: fs) o od := by
      obtain ⟨b1, b2, b3, b4, b5, b6, b7, b8, b9, b10, b11, b12, b13⟩ := h
      refine ⟨b1.on o1 (fun c k z => by omega), by rw [u _ _ (by omega)]; exact b2, b3, by rw [u _ _ (by omega)]; exact b4, by rw [u _ _ (by omega)]; exact b5, ⟨b6.1, by rw [u _ _ (by omega)]; exact b6.2⟩, b7, ⟨by rw [u _ _ (by omega)]; exact b8.1, fun i hi hf => by rw [u _ _ (by omega), u _ _ (by omega)]; exact b8.2 i hi hf⟩, by rw [u _ _ (by omega)]; exact b9, v40, by rw [u _ _ (by omega)]; exact b11, by rw [u _ _ (by omega)]; exact b12, by rw [u _ _ (by omega)]; exact a1, by rw [u _ _ (by omega)]; exact a2, by rw [u _ _ (by omega)]; exact a3, fun z => by rw [u _ _ (by omega)]; exact a4 z, by rw [u _ _ (by omega)]; exact a5, fun i hi => ?_, fun x hx => a7 x (List.mem_cons_of_mem _ hx), a8.ag (fun c k z1 z2 z3 _ => u _ _ (by omega)) fun k hk => u _ _ (by omega)⟩
      have hi' : i < (r ++ os).length := hi
      show gI S1 418 (f_oc fs + i) = nI ((r ++ os).reverse.getD i 0 - 9975)
      rw [u _ _ (by omega), a6 i (by rw [hop, List.length_cons]; omega), hop, List.reverse_cons, List.getD_eq_getElem?_getD, List.getD_eq_getElem?_getD, List.getElem?_append_left (by rw [List.length_reverse]; exact hi')]
    have z3 : z_in (gI S1 396 40) 500 := by rw [v40]; exact z2
    have r18' : gI S1 418 (gI S1 396 40).toNatClampNeg = nI (c - 9975) := by rw [v40, u _ _ (by omega)]; exact r18
    have hmc : q_mc w c (nI (c - 9975)) (0 : Int32) := by
      unfold q_mc
      rw [if_neg (by omega), if_neg (by omega), if_neg (by omega), if_neg (by omega), show c - 10000 + 25 = c - 9975 by omega]
    obtain ⟨S2, q1, q2, q4, q3⟩ := m170g (d := d) h1 (by omega) hmc
    rw [if_pos z3, r18', q1, Option.bind_some] at e
    have w40 : gI S2 396 40 = nI (f_oc fs + (r ++ os).length) := q3.2.2.2.2.2.2.2.2.2.1
    have z4 : z_in (gI S2 396 40) 500 := by rw [w40]; exact z2
    have hcs : (cs ++ [c]) ++ r = cs ++ (c :: r) := by rw [List.append_assoc]; rfl
    have onm : onM (g_mD b f0) S S2 := (o1.mono fun c k z => by unfold g_mD; omega).trans q2
    by_cases cn : c = 10018
    · have hnn : g_nn (c :: r) = g_nn r + 1 := by unfold g_nn; rw [List.countP_cons, cn]; rfl
      rw [hnn] at hn
      have r18'' : gI S2 418 (gI S2 396 40).toNatClampNeg = (43 : Int32) := by
        have hh : gI S2 418 (gI S2 396 40).toNatClampNeg = gI S1 418 (gI S1 396 40).toNatClampNeg := by
          rw [w40, v40]
          exact q4 _
        rw [hh, r18', cn]; rfl
      have w38 : gI S2 396 38 = nI o := q3.2.2.2.2.2.2.2.2.2.2.1
      have e38 : nI o - (1 : Int32) = nI (o - 1) := pk_sub (b := 1) (by omega)
      rw [if_pos z4, r18'', if_neg (fun z => z rfl), w38, e38] at e
      have o3 : onM (fun c k => c = 396 ∧ k = 38) S2 (sI S2 396 38 (nI (o - 1))) := onM_sI (D := fun c k => c = 396 ∧ k = 38) (c := 396) (k := 38) (onM.refl q2.W) ⟨rfl, rfl⟩
      have h3 : mG (sI S2 396 38 (nI (o - 1))) T b w f0 p (cs ++ [c]) ((f_k F, f_h F, f_b F, f_p F, r ++ os) :: fs) (o - 1) od := by
        obtain ⟨b1, b2, b3, b4, b5, b6, b7, b8, b9, b10, b11, b12, b13⟩ := q3
        refine ⟨b1.on o3 (fun c k z => by omega), by rw [o3.I (by omega)]; exact b2, b3, by rw [o3.I (by omega)]; exact b4, by rw [o3.I (by omega)]; exact b5, ⟨b6.1, by rw [o3.I (by omega)]; exact b6.2⟩, b7, ⟨by rw [o3.I (by omega)]; exact b8.1, fun i hi hf => by rw [o3.I (by omega), o3.I (by omega)]; exact b8.2 i hi hf⟩, by rw [o3.I (by omega)]; exact b9, by rw [o3.I (by omega)]; exact b10, by rw [gIs, if_pos rfl, if_pos rfl], by rw [o3.I (by omega)]; exact b12, b13.ag (fun c k z1 z2 z3 _ => o3.I (by omega)) fun k hk => o3.I (by omega)⟩
      obtain ⟨S', f1, f2, f3⟩ := m172g hR hos r (sI S2 396 38 (nI (o - 1))) (cs ++ [c]) (o - 1) h3 (fun x hx => hr x (List.mem_cons_of_mem _ hx)) hl (by omega) (by rw [List.length_append, List.length_singleton]; omega) (by omega) (by omega)
      refine ⟨S', e.trans f1, (onm.trans (o3.mono fun c k z => by unfold g_mD; omega)).trans f2, ?_⟩
      rw [← hcs, hnn, show o - (g_nn r + 1) = o - 1 - g_nn r by omega]
      exact f3
    · have hnn : g_nn (c :: r) = g_nn r := by unfold g_nn; rw [List.countP_cons, decide_eq_false cn]; rfl
      rw [hnn] at hn
      have r18'' : ¬ gI S2 418 (gI S2 396 40).toNatClampNeg = (43 : Int32) := by
        have hh : gI S2 418 (gI S2 396 40).toNatClampNeg = gI S1 418 (gI S1 396 40).toNatClampNeg := by
          rw [w40, v40]
          exact q4 _
        rw [hh, r18']
        intro z
        have := (nI_eq (a := c - 9975) (b := 43) (by omega) (by omega)).mp z
        omega
      rw [if_pos z4, if_pos r18''] at e
      obtain ⟨S', f1, f2, f3⟩ := m172g hR hos r S2 (cs ++ [c]) o q3 (fun x hx => hr x (List.mem_cons_of_mem _ hx)) hl (by omega) (by rw [List.length_append, List.length_singleton]; omega) (by omega) (by omega)
      refine ⟨S', e.trans f1, onm.trans f2, ?_⟩
      rw [← hcs, hnn]
      exact f3
end GQ
