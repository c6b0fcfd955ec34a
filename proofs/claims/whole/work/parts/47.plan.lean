/-! WHAT THE TEXT TELLS, as numbers; the class's Plan holds it. -/
/-- statements, rooms, places, steps, knock, shut, lodgers, first, other, names, comers, codes -/
abbrev q_Pl : Type := Nat × Nat × Nat × Nat × Nat × Nat × Nat × (Nat → Nat) × (Nat → Nat) × (Nat → List Nat) × List Nat × (Nat → List Nat)
def p_m (P : q_Pl) : Nat := P.1
def p_R (P : q_Pl) : Nat := P.2.1
def p_B (P : q_Pl) : Nat := P.2.2.1
def p_T (P : q_Pl) : Nat := P.2.2.2.1
def p_K (P : q_Pl) : Nat := P.2.2.2.2.1
def p_H (P : q_Pl) : Nat := P.2.2.2.2.2.1
def p_L (P : q_Pl) : Nat := P.2.2.2.2.2.2.1
def p_f (P : q_Pl) : Nat → Nat := P.2.2.2.2.2.2.2.1
def p_o (P : q_Pl) : Nat → Nat := P.2.2.2.2.2.2.2.2.1
def p_a (P : q_Pl) : Nat → List Nat := P.2.2.2.2.2.2.2.2.2.1
def p_c (P : q_Pl) : List Nat := P.2.2.2.2.2.2.2.2.2.2.1
def p_d (P : q_Pl) : Nat → List Nat := P.2.2.2.2.2.2.2.2.2.2.2
/-- a name: letters 1 .. 26, at most 6; a number to base 27 -/
def q_nv (l : List Nat) : Nat := l.foldl (fun w a => w * 27 + a) 0
/-- a formula is none, or of its kind -/
def q_fo (l : List Nat) (t : Bool) : Prop := l = [] ∨ q_tyL l [] = some [t]
/-- right plans -/
def p_Wf (P : q_Pl) : Prop := p_R P ≤ 16 ∧ p_B P ≤ 6 ∧ p_T P ≤ 40 ∧ p_K P ≤ 100 ∧ p_L P ≤ 16 ∧ p_m P ≤ 60 ∧ p_H P < 2 ^ p_R P ∧ (∀ i, i < p_L P → p_f P i < p_R P ∧ p_o P i < p_R P ∧ p_f P i ≠ p_o P i) ∧ (p_c P).length ≤ 16 ∧ (∀ c, c ∈ p_c P → c < p_L P) ∧ (p_c P).Nodup ∧ q_fo (p_d P 0) true ∧ q_fo (p_d P 1) true ∧ q_fo (p_d P 2) false ∧ (∀ i, i < p_L P → (p_a P i).length ≤ 6 ∧ ∀ x, x ∈ p_a P i → 1 ≤ x ∧ x ≤ 26)
/-- the Plan at q holds P -/
def cPl (S : z_S) (q : Nat) (P : q_Pl) : Prop :=
  gI S q 0 = nI (p_m P) ∧ gI S q 1 = nI (p_R P) ∧ gI S q 2 = nI (p_B P) ∧ gI S q 3 = nI (p_T P) ∧ gI S q 4 = nI (p_K P) ∧ gI S q 5 = nI (p_H P) ∧ gI S q 6 = nI (p_L P) ∧ gI S q 7 = nI (p_c P).length ∧
  (∀ i, i < p_L P → gI S (q + 1) i = nI (q_nv (p_a P i))) ∧ (∀ i, i < p_L P → gI S (q + 2) i = nI (p_f P i)) ∧ (∀ i, i < p_L P → gI S (q + 3) i = nI (p_o P i)) ∧ (∀ i, i < (p_c P).length → gI S (q + 4) i = nI ((p_c P).getD i 0)) ∧
  ∀ w, w < 3 → ∃ f, f + (p_d P w).length ≤ 1600 ∧ gI S (q + 6) w = nI f ∧ gI S (q + 7) w = nI (f + (p_d P w).length) ∧ ∀ i c, (p_d P w)[i]? = some c → gI S (q + 5) (f + i) = q_en c
theorem cPl.on {S S' : z_S} {q : Nat} {P : q_Pl} {D : Nat → Nat → Prop} (h : cPl S q P) (ho : onI D S S') (hd : ∀ c k, q ≤ c → c ≤ q + 7 → ¬ D c k) : cPl S' q P := by
  obtain ⟨h0, h1, h2, h3, h4, h5, h6, h7, h8, h9, h10, h11, h12⟩ := h
  have z : ∀ c k, q ≤ c → c ≤ q + 7 → gI S' c k = gI S c k := fun c k a b => ho.I (hd c k a b)
  refine ⟨?_, ?_, ?_, ?_, ?_, ?_, ?_, ?_, fun i hi => ?_, fun i hi => ?_, fun i hi => ?_, fun i hi => ?_, fun w hw => ?_⟩
  · rw [z _ _ (by omega) (by omega)]; exact h0
  · rw [z _ _ (by omega) (by omega)]; exact h1
  · rw [z _ _ (by omega) (by omega)]; exact h2
  · rw [z _ _ (by omega) (by omega)]; exact h3
  · rw [z _ _ (by omega) (by omega)]; exact h4
  · rw [z _ _ (by omega) (by omega)]; exact h5
  · rw [z _ _ (by omega) (by omega)]; exact h6
  · rw [z _ _ (by omega) (by omega)]; exact h7
  · rw [z _ _ (by omega) (by omega)]; exact h8 i hi
  · rw [z _ _ (by omega) (by omega)]; exact h9 i hi
  · rw [z _ _ (by omega) (by omega)]; exact h10 i hi
  · rw [z _ _ (by omega) (by omega)]; exact h11 i hi
  · obtain ⟨f, g1, g2, g3, g4⟩ := h12 w hw
    refine ⟨f, g1, ?_, ?_, fun i c hc => ?_⟩
    · rw [z _ _ (by omega) (by omega)]; exact g2
    · rw [z _ _ (by omega) (by omega)]; exact g3
    · rw [z _ _ (by omega) (by omega)]; exact g4 i c hc
section QP
variable {d q : Nat} {S : z_S} {P : q_Pl}
theorem c58 {x : Int32} (hW : z_W S) (hq : z_K q = 6) (h : cPl S q P) (hP : p_Wf P) : ∃ b : Bool, fI (d + 1) 58 [.ref q, .int x] S = some (bI b, S) ∧ (b = true ↔ ∃ r, r < p_R P ∧ x = nI r) := by
  have e := e58 d q x S hW hq
  have hR := hP.1
  rw [h.2.1, b58_16_eq d S hW] at e
  by_cases h1 : x < 0
  · rw [if_pos h1] at e
    refine ⟨false, e, ⟨fun q => Bool.noConfusion q, fun ⟨r, h2, h3⟩ => ?_⟩⟩
    subst h3
    exact absurd h1 (nI_pos (by omega))
  · rw [if_neg h1] at e
    obtain ⟨j, hj, rfl⟩ := nI_of h1
    by_cases h2 : p_R P ≤ j
    · rw [if_pos ((nI_leI (by omega) (by omega)).mpr h2)] at e
      refine ⟨false, e, ⟨fun q => Bool.noConfusion q, fun ⟨r, h3, h4⟩ => ?_⟩⟩
      have := (nI_eq (by omega) (by omega)).mp h4
      omega
    · rw [if_neg (fun q => h2 ((nI_leI (by omega) (by omega)).mp q))] at e
      exact ⟨true, e, ⟨fun _ => ⟨j, by omega, rfl⟩, fun _ => rfl⟩⟩
theorem c59 {x : Int32} (hW : z_W S) (hq : z_K q = 6) (h : cPl S q P) (hP : p_Wf P) : ∃ b : Bool, fI (d + 1) 59 [.ref q, .int x] S = some (bI b, S) ∧ (b = true ↔ ∃ r, r < p_L P ∧ x = nI r) := by
  have e := e59 d q x S hW hq
  have hR := hP.2.2.2.2.1
  rw [h.2.2.2.2.2.2.1, b59_16_eq d S hW] at e
  by_cases h1 : x < 0
  · rw [if_pos h1] at e
    refine ⟨false, e, ⟨fun q => Bool.noConfusion q, fun ⟨r, h2, h3⟩ => ?_⟩⟩
    subst h3
    exact absurd h1 (nI_pos (by omega))
  · rw [if_neg h1] at e
    obtain ⟨j, hj, rfl⟩ := nI_of h1
    by_cases h2 : p_L P ≤ j
    · rw [if_pos ((nI_leI (by omega) (by omega)).mpr h2)] at e
      refine ⟨false, e, ⟨fun q => Bool.noConfusion q, fun ⟨r, h3, h4⟩ => ?_⟩⟩
      have := (nI_eq (by omega) (by omega)).mp h4
      omega
    · rw [if_neg (fun q => h2 ((nI_leI (by omega) (by omega)).mp q))] at e
      exact ⟨true, e, ⟨fun _ => ⟨j, by omega, rfl⟩, fun _ => rfl⟩⟩
theorem c60 {w : Nat} (hW : z_W S) (hq : z_K q = 6) (h : cPl S q P) (hw : w < 3) : fI (d + 1) 60 [.ref q, .int (nI w)] S = some (bI (!(p_d P w).isEmpty), S) := by
  have e := e60 d q (nI w) S hW hq
  obtain ⟨f, g1, g2, g3, g4⟩ := h.2.2.2.2.2.2.2.2.2.2.2.2 w hw
  cases hd : p_d P w with
  | nil =>
    rw [hd] at g3 g1
    simp only [List.length_nil, Nat.add_zero] at g3 g1
    simp (disch := omega) only [ni_lit, nI_add, pk_mul, pk_sub, pk_div, nI_leI, nI_ltI, nI_eq, nI_clamp, ni_in, ni_inm, ni_ltm, ni_mlt, ni_lem, ni_mle, ni_eqm, ni_meq, ni_mm, ni_mmle, ni_bit, ni_shl, ni_clr, fa_or, Nat.add_zero, Nat.zero_add, Nat.zero_mul, Nat.mul_zero, eOn, eOs, if_true, if_false, not_true_eq_false, not_false_eq_true, ite_true, ite_false, true_and, and_true, false_and, and_false, or_true, true_or, or_false, false_or, Bool.false_eq_true, reduceIte, Bool.not_true, Bool.not_false, and_self, or_self, q_ef, q_et, q_ltt, q_ltf, q_let, q_lef, gIs, gIl, gIr, gLs, gLl, gLr, gPs, gPl, gPr, gLc, gPc, zb_some, Option.bind_some, q_nm, q_pm, q_hm, q_tm, q_sm, q_wm, q_ym, q_lm, q_ua, g2, g3] at e
    exact e
  | cons c r =>
    rw [hd] at g3 g1
    simp only [List.length_cons] at g3 g1
    simp (disch := omega) only [ni_lit, nI_add, pk_mul, pk_sub, pk_div, nI_leI, nI_ltI, nI_eq, nI_clamp, ni_in, ni_inm, ni_ltm, ni_mlt, ni_lem, ni_mle, ni_eqm, ni_meq, ni_mm, ni_mmle, ni_bit, ni_shl, ni_clr, fa_or, Nat.add_zero, Nat.zero_add, Nat.zero_mul, Nat.mul_zero, eOn, eOs, if_true, if_false, not_true_eq_false, not_false_eq_true, ite_true, ite_false, true_and, and_true, false_and, and_false, or_true, true_or, or_false, false_or, Bool.false_eq_true, reduceIte, Bool.not_true, Bool.not_false, and_self, or_self, q_ef, q_et, q_ltt, q_ltf, q_let, q_lef, gIs, gIl, gIr, gLs, gLl, gLr, gPs, gPl, gPr, gLc, gPc, zb_some, Option.bind_some, q_nm, q_pm, q_hm, q_tm, q_sm, q_wm, q_ym, q_lm, q_ua, g2, g3] at e
    exact e
/-- the other one of his two rooms -/
def q_oth (P : q_Pl) (k r : Nat) : Nat := if p_f P k = r then p_o P k else p_f P k
theorem c61 {k r : Nat} (hW : z_W S) (hq : z_K q = 6) (h : cPl S q P) (hP : p_Wf P) (hk : k < p_L P) (hr : r < 2147483648) : fI (d + 1) 61 [.ref q, .int (nI k), .int (nI r)] S = some (nI (q_oth P k r), S) := by
  have e := e61 d q (nI k) (nI r) S hW hq
  have hL := hP.2.2.2.2.1
  have hR := hP.1
  obtain ⟨f1, f2, f3⟩ := hP.2.2.2.2.2.2.2.1 k hk
  have g1 := h.2.2.2.2.2.2.2.2.2.1 k hk
  have g2 := h.2.2.2.2.2.2.2.2.2.2.1 k hk
  unfold q_oth
  by_cases c : p_f P k = r
  · simp (disch := omega) only [ni_lit, nI_add, pk_mul, pk_sub, pk_div, nI_leI, nI_ltI, nI_eq, nI_clamp, ni_in, ni_inm, ni_ltm, ni_mlt, ni_lem, ni_mle, ni_eqm, ni_meq, ni_mm, ni_mmle, ni_bit, ni_shl, ni_clr, fa_or, Nat.add_zero, Nat.zero_add, Nat.zero_mul, Nat.mul_zero, eOn, eOs, if_true, if_false, not_true_eq_false, not_false_eq_true, ite_true, ite_false, true_and, and_true, false_and, and_false, or_true, true_or, or_false, false_or, Bool.false_eq_true, reduceIte, Bool.not_true, Bool.not_false, and_self, or_self, q_ef, q_et, q_ltt, q_ltf, q_let, q_lef, gIs, gIl, gIr, gLs, gLl, gLr, gPs, gPl, gPr, gLc, gPc, zb_some, Option.bind_some, q_nm, q_pm, q_hm, q_tm, q_sm, q_wm, q_ym, q_lm, q_ua, g1, g2] at e
    rw [if_pos c]; exact e
  · simp (disch := omega) only [ni_lit, nI_add, pk_mul, pk_sub, pk_div, nI_leI, nI_ltI, nI_eq, nI_clamp, ni_in, ni_inm, ni_ltm, ni_mlt, ni_lem, ni_mle, ni_eqm, ni_meq, ni_mm, ni_mmle, ni_bit, ni_shl, ni_clr, fa_or, Nat.add_zero, Nat.zero_add, Nat.zero_mul, Nat.mul_zero, eOn, eOs, if_true, if_false, not_true_eq_false, not_false_eq_true, ite_true, ite_false, true_and, and_true, false_and, and_false, or_true, true_or, or_false, false_or, Bool.false_eq_true, reduceIte, Bool.not_true, Bool.not_false, and_self, or_self, q_ef, q_et, q_ltt, q_ltf, q_let, q_lef, gIs, gIl, gIr, gLs, gLl, gLr, gPs, gPl, gPr, gLc, gPc, zb_some, Option.bind_some, q_nm, q_pm, q_hm, q_tm, q_sm, q_wm, q_ym, q_lm, q_ua, g1, g2] at e
    rw [if_neg c]; exact e
theorem c62 {k h0 : Nat} (hW : z_W S) (hq : z_K q = 6) (h : cPl S q P) (hP : p_Wf P) (hk : k < p_L P) : fI (d + 1) 62 [.ref q, .int (nI k), .int (nI h0)] S = some (nI (q_cl (2 ^ p_f P k ||| 2 ^ p_o P k) h0), S) := by
  have e := e62 d q (nI k) (nI h0) S hW hq
  have hL := hP.2.2.2.2.1
  have hR := hP.1
  obtain ⟨f1, f2, f3⟩ := hP.2.2.2.2.2.2.2.1 k hk
  have g1 := h.2.2.2.2.2.2.2.2.2.1 k hk
  have g2 := h.2.2.2.2.2.2.2.2.2.2.1 k hk
  simp (disch := omega) only [ni_lit, nI_add, pk_mul, pk_sub, pk_div, nI_leI, nI_ltI, nI_eq, nI_clamp, ni_in, ni_inm, ni_ltm, ni_mlt, ni_lem, ni_mle, ni_eqm, ni_meq, ni_mm, ni_mmle, ni_bit, ni_shl, ni_clr, fa_or, Nat.add_zero, Nat.zero_add, Nat.zero_mul, Nat.mul_zero, eOn, eOs, if_true, if_false, not_true_eq_false, not_false_eq_true, ite_true, ite_false, true_and, and_true, false_and, and_false, or_true, true_or, or_false, false_or, Bool.false_eq_true, reduceIte, Bool.not_true, Bool.not_false, and_self, or_self, q_ef, q_et, q_ltt, q_ltf, q_let, q_lef, gIs, gIl, gIr, gLs, gLl, gLr, gPs, gPl, gPr, gLc, gPc, zb_some, Option.bind_some, q_nm, q_pm, q_hm, q_tm, q_sm, q_wm, q_ym, q_lm, q_ua, g1, g2] at e
  exact e
/-- how many lodgers have a room -/
def q_hol (P : q_Pl) (r : Nat) : Nat → Nat := fb_ct (fun k => decide (p_f P k = r ∨ p_o P k = r))
theorem c63_l {r : Nat} (hW : z_W S) (hq : z_K q = 6) (h : cPl S q P) (hP : p_Wf P) (hr : r < 2147483648) : ∀ (m i : Nat), i + m = p_L P → b63_4 d q (nI r) (nI (q_hol P r i)) (nI i) S = some (nI (q_hol P r (p_L P)), S)
  | 0, i, hi => by
    have e := b63_4_eq d q (nI r) (nI (q_hol P r i)) (nI i) S hW hq
    have hL := hP.2.2.2.2.1
    simp (disch := omega) only [ni_lit, nI_add, pk_mul, pk_sub, pk_div, nI_leI, nI_ltI, nI_eq, nI_clamp, ni_in, ni_inm, ni_ltm, ni_mlt, ni_lem, ni_mle, ni_eqm, ni_meq, ni_mm, ni_mmle, ni_bit, ni_shl, ni_clr, fa_or, Nat.add_zero, Nat.zero_add, Nat.zero_mul, Nat.mul_zero, eOn, eOs, if_true, if_false, not_true_eq_false, not_false_eq_true, ite_true, ite_false, true_and, and_true, false_and, and_false, or_true, true_or, or_false, false_or, Bool.false_eq_true, reduceIte, Bool.not_true, Bool.not_false, and_self, or_self, q_ef, q_et, q_ltt, q_ltf, q_let, q_lef, gIs, gIl, gIr, gLs, gLl, gLr, gPs, gPl, gPr, gLc, gPc, zb_some, Option.bind_some, q_nm, q_pm, q_hm, q_tm, q_sm, q_wm, q_ym, q_lm, q_ua, h.2.2.2.2.2.2.1] at e
    rw [e, ← hi, Nat.add_zero]
  | m + 1, i, hi => by
    have e := b63_4_eq d q (nI r) (nI (q_hol P r i)) (nI i) S hW hq
    have hL := hP.2.2.2.2.1
    have hR := hP.1
    have hk : i < p_L P := by omega
    have hct : q_hol P r i ≤ i := fb_ct_le _ _
    obtain ⟨f1, f2, f3⟩ := hP.2.2.2.2.2.2.2.1 i hk
    have g1 := h.2.2.2.2.2.2.2.2.2.1 i hk
    have g2 := h.2.2.2.2.2.2.2.2.2.2.1 i hk
    have g6 := h.2.2.2.2.2.2.1
    have ih := c63_l (r := r) hW hq h hP hr m (i + 1) (by omega)
    have hs : q_hol P r (i + 1) = q_hol P r i + (if decide (p_f P i = r ∨ p_o P i = r) then 1 else 0) := fb_ct_succ _ _
    by_cases c1 : p_f P i = r
    · simp (disch := omega) only [ni_lit, nI_add, pk_mul, pk_sub, pk_div, nI_leI, nI_ltI, nI_eq, nI_clamp, ni_in, ni_inm, ni_ltm, ni_mlt, ni_lem, ni_mle, ni_eqm, ni_meq, ni_mm, ni_mmle, ni_bit, ni_shl, ni_clr, fa_or, Nat.add_zero, Nat.zero_add, Nat.zero_mul, Nat.mul_zero, eOn, eOs, if_true, if_false, not_true_eq_false, not_false_eq_true, ite_true, ite_false, true_and, and_true, false_and, and_false, or_true, true_or, or_false, false_or, Bool.false_eq_true, reduceIte, Bool.not_true, Bool.not_false, and_self, or_self, q_ef, q_et, q_ltt, q_ltf, q_let, q_lef, gIs, gIl, gIr, gLs, gLl, gLr, gPs, gPl, gPr, gLc, gPc, zb_some, Option.bind_some, q_nm, q_pm, q_hm, q_tm, q_sm, q_wm, q_ym, q_lm, q_ua, g1, g2, g6, b63_32_eq d q _ _ _ S hW hq, b63_35_eq d q _ _ _ S hW hq] at e
      rw [decide_eq_true (Or.inl c1), if_pos rfl] at hs
      rw [hs] at ih
      exact e.trans ih
    · by_cases c2 : p_o P i = r
      · simp (disch := omega) only [ni_lit, nI_add, pk_mul, pk_sub, pk_div, nI_leI, nI_ltI, nI_eq, nI_clamp, ni_in, ni_inm, ni_ltm, ni_mlt, ni_lem, ni_mle, ni_eqm, ni_meq, ni_mm, ni_mmle, ni_bit, ni_shl, ni_clr, fa_or, Nat.add_zero, Nat.zero_add, Nat.zero_mul, Nat.mul_zero, eOn, eOs, if_true, if_false, not_true_eq_false, not_false_eq_true, ite_true, ite_false, true_and, and_true, false_and, and_false, or_true, true_or, or_false, false_or, Bool.false_eq_true, reduceIte, Bool.not_true, Bool.not_false, and_self, or_self, q_ef, q_et, q_ltt, q_ltf, q_let, q_lef, gIs, gIl, gIr, gLs, gLl, gLr, gPs, gPl, gPr, gLc, gPc, zb_some, Option.bind_some, q_nm, q_pm, q_hm, q_tm, q_sm, q_wm, q_ym, q_lm, q_ua, g1, g2, g6, b63_32_eq d q _ _ _ S hW hq, b63_35_eq d q _ _ _ S hW hq] at e
        rw [decide_eq_true (Or.inr c2), if_pos rfl] at hs
        rw [hs] at ih
        exact e.trans ih
      · simp (disch := omega) only [ni_lit, nI_add, pk_mul, pk_sub, pk_div, nI_leI, nI_ltI, nI_eq, nI_clamp, ni_in, ni_inm, ni_ltm, ni_mlt, ni_lem, ni_mle, ni_eqm, ni_meq, ni_mm, ni_mmle, ni_bit, ni_shl, ni_clr, fa_or, Nat.add_zero, Nat.zero_add, Nat.zero_mul, Nat.mul_zero, eOn, eOs, if_true, if_false, not_true_eq_false, not_false_eq_true, ite_true, ite_false, true_and, and_true, false_and, and_false, or_true, true_or, or_false, false_or, Bool.false_eq_true, reduceIte, Bool.not_true, Bool.not_false, and_self, or_self, q_ef, q_et, q_ltt, q_ltf, q_let, q_lef, gIs, gIl, gIr, gLs, gLl, gLr, gPs, gPl, gPr, gLc, gPc, zb_some, Option.bind_some, q_nm, q_pm, q_hm, q_tm, q_sm, q_wm, q_ym, q_lm, q_ua, g1, g2, g6, b63_32_eq d q _ _ _ S hW hq, b63_35_eq d q _ _ _ S hW hq] at e
        rw [decide_eq_false (fun z => z.elim c1 c2), if_neg (by decide), Nat.add_zero] at hs
        rw [hs] at ih
        exact e.trans ih
theorem c63 {r : Nat} (hW : z_W S) (hq : z_K q = 6) (h : cPl S q P) (hP : p_Wf P) (hr : r < 2147483648) : fI (d + 1) 63 [.ref q, .int (nI r)] S = some (nI (q_hol P r (p_L P)), S) := by
  rw [e63 d q (nI r) S hW hq]
  exact c63_l hW hq h hP hr (p_L P) 0 (by omega)
/-- the numbers that a formula asks -/
def q_env (P : q_Pl) (s : q_St) (r k own : Nat) : Nat → Int := fun j => if j = 1 then (q_n s : Int) else if j = 2 then (r : Int) else if j = 3 then (q_y s k : Int) else if j = 4 then ((p_R P - q_pc (q_h s ||| q_t s) : Nat) : Int) else (own : Int)
/-- a formula's value -/
def q_val (e : Nat → Int) (l : List Nat) : Int := (q_ev e l []).headD 0
theorem c68_l {w : Nat} {e : Nat → Int} (hq : z_K q = 6) (hw : w < 3) {N : Nat} (hN3 : N ≤ 1600) (hes : ∀ j, iS (e j)) : ∀ (l : List Nat) (i : Nat) (st : List Int) (ts : List Bool) (v : Bool) (S : z_S), z_W S → gI S (q + 7) w = nI N → i + l.length = N → (∀ j, 1 ≤ j → j ≤ 5 → gI S 23 j = iI (e j)) → (∀ j c, l[j]? = some c → gI S (q + 5) (i + j) = q_en c) → q_tyL l ts = some [v] → q_VT st ts → ts.length ≤ 60 → rS S 24 st → ∃ S', b68_68 (d + 3) q (nI w) (nI st.length) (nI i) S = some (iI ((q_ev e l st).headD 0), S') ∧ onI (fun c _ => c = 24) S S'
  | [], i, st, ts, v, S, hW, hN, hi, he, hc, hT, hV, hl, hr => by
    cases hT
    obtain ⟨a, r, rfl, g1, g2⟩ := q_VT_c hV
    have e0 := q_VT_len r [] g2
    have e1 : r = [] := List.eq_nil_of_length_eq_zero e0
    subst e1
    have E := b68_68_eq (d + 3) q (nI w) (nI 1) (nI i) S hW hq
    rw [List.length_nil, Nat.add_zero] at hi
    have k1 := (rS_c hr).1
    rw [List.length_nil] at k1
    simp (disch := omega) only [ni_lit, nI_add, pk_mul, pk_sub, pk_div, nI_leI, nI_ltI, nI_eq, nI_clamp, ni_in, ni_inm, ni_ltm, ni_mlt, ni_lem, ni_mle, ni_eqm, ni_meq, ni_mm, ni_mmle, ni_bit, ni_shl, ni_clr, fa_or, Nat.add_zero, Nat.zero_add, Nat.zero_mul, Nat.mul_zero, eOn, eOs, if_true, if_false, not_true_eq_false, not_false_eq_true, ite_true, ite_false, true_and, and_true, false_and, and_false, or_true, true_or, or_false, false_or, Bool.false_eq_true, reduceIte, Bool.not_true, Bool.not_false, and_self, or_self, q_ef, q_et, q_ltt, q_ltf, q_let, q_lef, gIs, gIl, gIr, gLs, gLl, gLr, gPs, gPl, gPr, gLc, gPc, zb_some, Option.bind_some, q_nm, q_pm, q_hm, q_tm, q_sm, q_wm, q_ym, q_lm, q_ua, hN, Nat.sub_self, k1] at E
    exact ⟨S, E, onI.refl hW⟩
  | n :: l, i, st, ts, v, S, hW, hN, hi, he, hc, hT, hV, hl, hr => by
    rw [q_tyL] at hT
    rw [List.length_cons] at hi
    split at hT
    · rename_i t h1
      split at hT
      · rename_i h2
        have hc0 := hc 0 n rfl
        rw [Nat.add_zero] at hc0
        obtain ⟨S1, a1, a2, a3⟩ := c68_s (d := d) (e := e) hW hq hw (by omega) hc0 hN (by omega) hN3 he h1 hV hl h2 hr
        have q6 := zP6 hq
        have hf : ∀ c k, ¬ c = 24 → gI S1 c k = gI S c k := fun c k z => a2.I z
        obtain ⟨S2, b1, b2⟩ := c68_l (e := e) hq hw hN3 hes l (i + 1) (q_stp e st n) t v S1 a2.W (by rw [hf _ _ (by omega)]; exact hN) (by omega) (fun j j1 j2 => by rw [hf _ _ (by omega)]; exact he j j1 j2) (fun j c z => by
          rw [hf _ _ (by omega)]
          have := hc (j + 1) c (by simpa using z)
          rw [← this]
          congr 1
          omega) hT (q_stp_VT hes hV h1) h2 a3
        exact ⟨S2, a1.trans b1, a2.trans b2⟩
      · cases hT
    · cases hT
theorem c68 {w k p g own : Nat} {s : q_St} {t : Bool} (hW : z_W S) (hq : z_K q = 6) (hp : z_K p = 8) (h : cPl S q P) (hP : p_Wf P) (hs : cSt S p g s) (hB : q_Bd s) (hk : k < 16) (hg : k ≠ g) (hw : w < 3) (hown : own ≤ 1000) (hE : q_pc (q_h s ||| q_t s) ≤ p_R P) (hT : q_tyL (p_d P w) [] = some [t]) : ∃ S', fI (d + 4) 68 [.ref 23, .ref q, .int (nI w), .ref p, .int (nI k), .int (nI own)] S = some (iI (q_val (q_env P s (q_w s k) k own) (p_d P w)), S') ∧ onI (fun c _ => c = 23 ∨ c = 24) S S' := by
  have E := e68 (d + 3) q (nI w) p (nI k) (nI own) S hW hq hp
  obtain ⟨s0, s1, s2, s3, s4, s5, s6, s7, s8⟩ := hs
  have q6 := zP6 hq
  have p8 := zP8 hp
  have b1 := q_or16 hB.1 hB.2.1
  obtain ⟨f, g1, g2, g3, g4⟩ := h.2.2.2.2.2.2.2.2.2.2.2.2 w hw
  have w1 := s6 k hk hg
  have w2 := s7 k hk hg
  have x : ∀ (S : z_S) (j : Nat) (v : Int32) (c k' : Nat), c ≠ 23 → gI (sI S 23 j v) c k' = gI S c k' := fun S j v c k' z => by rw [gI_sI, if_neg z]
  simp (disch := omega) only [x, nI_clamp, s0, s2, s3, w1, w2, ni_in, hk, hw, if_true, fa_or, h.2.1, g2] at E
  have hW3 : z_W (sI (sI (sI S 23 1 (nI (q_n s))) 23 2 (nI (q_w s k))) 23 3 (nI (q_y s k))) := hW
  rw [c274 (d := d + 2) hW3 b1, zb_some, x _ _ _ _ _ (by omega), x _ _ _ _ _ (by omega), x _ _ _ _ _ (by omega), g2, pk_sub hE] at E
  have hPR := hP.1
  have hBd := hB
  obtain ⟨_, _, _, n1, _, _, n2, n3, _⟩ := hBd
  obtain ⟨S', a1, a2⟩ := c68_l (d := d) (q := q) (w := w) (e := q_env P s (q_w s k) k own) hq hw g1 (fun j => by
      have := n2 k
      have := n3 k
      unfold q_env iS
      (repeat' split) <;> omega) (p_d P w) f [] [] t (sI (sI (sI (sI (sI S 23 1 (nI (q_n s))) 23 2 (nI (q_w s k))) 23 3 (nI (q_y s k))) 23 4 (nI (p_R P - q_pc (q_h s ||| q_t s)))) 23 5 (nI own)) hW (by
      rw [x _ _ _ _ _ (by omega), x _ _ _ _ _ (by omega), x _ _ _ _ _ (by omega), x _ _ _ _ _ (by omega), x _ _ _ _ _ (by omega)]; exact g3) rfl (fun j j1 j2 => by
      have : j = 1 ∨ j = 2 ∨ j = 3 ∨ j = 4 ∨ j = 5 := by omega
      rcases this with z | z | z | z | z <;> subst z <;> simp only [gIs, if_true] <;> simp [q_env, iI_n]) (fun j c z => by
      rw [x _ _ _ _ _ (by omega), x _ _ _ _ _ (by omega), x _ _ _ _ _ (by omega), x _ _ _ _ _ (by omega), x _ _ _ _ _ (by omega)]; exact g4 j c z) hT trivial (Nat.zero_le _) (fun i v z => by cases z)
  refine ⟨S', E.trans a1, ?_⟩
  refine onI.trans ?_ (a2.mono fun c k z => Or.inr z)
  exact onI_sI (onI_sI (onI_sI (onI_sI (onI_sI (onI.refl hW) (Or.inl rfl)) (Or.inl rfl)) (Or.inl rfl)) (Or.inl rfl)) (Or.inl rfl)
end QP
