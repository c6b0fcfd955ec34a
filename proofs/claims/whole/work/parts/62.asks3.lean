/-! THE SEED; a room; what is kept; letters. -/
def a_see (A : q_A) (n : Nat) : q_A := (a_tp A, a_P A, a_s A, a_kl A, a_ud A, a_mt A, n, a_ft A, a_rf A, a_im A)
section TD
variable {d : Nat} {S : z_S} {A : q_A} {x y : Int32}
theorem aOk.see {n : Nat} (h : aOk A) (hn : n < 2147483648) : aOk (a_see A n) := by
  obtain ⟨g1, g2, g3, g4, g5, g6, g7, g8, g9, g10⟩ := h
  exact ⟨g1, g2, g3, g4, g5, g6, hn, g8, g9, g10⟩
theorem cA.see {n : Nat} (h : cA S A) : cA (sI S 0 14 (nI n)) (a_see A n) := by
  obtain ⟨h1, h2, ⟨q, k1, k2, k3, k4, k5⟩, h4, h5, h6, h7, h8, h9, h10, h11⟩ := h
  have ho : onI (fun c k => c = 0 ∧ k = 14) S (sI S 0 14 (nI n)) := onI_sI (D := fun c k => c = 0 ∧ k = 14) (c := 0) (onI.refl h1) ⟨rfl, rfl⟩
  refine ⟨h1, h2.ag (ho.ag fun c k z => by omega), ⟨q, k1, k2, k3, k4, k5.ag (ho.ag fun c k z => by omega)⟩, h4.ag (ho.ag fun c k z => by unfold pD at z; omega), h5.ag (ho.ag fun c k z => by omega), h6.ag (ho.ag fun c k z => by omega), h7.ag (ho.ag fun c k z => by omega), ⟨?_, ?_, ?_⟩, h9.ag (ho.ag fun c k z => by omega), h10.ag (ho.ag fun c k z => by omega), h11.ag (ho.ag fun c k z => by omega)⟩
  · simp (disch := omega) only [ni_lit, nI_add, pk_mul, pk_sub, pk_div, nI_leI, nI_ltI, nI_eq, nI_clamp, ni_in, ni_inm, ni_ltm, ni_mlt, ni_lem, ni_mle, ni_eqm, ni_meq, ni_mm, ni_mmle, ni_bit, ni_shl, ni_clr, fa_or, Nat.add_zero, Nat.zero_add, Nat.zero_mul, Nat.mul_zero, eOn, eOs, if_true, if_false, not_true_eq_false, not_false_eq_true, ite_true, ite_false, true_and, and_true, false_and, and_false, or_true, true_or, or_false, false_or, Bool.false_eq_true, reduceIte, Bool.not_true, Bool.not_false, and_self, or_self, q_ef, q_et, q_ltt, q_ltf, q_let, q_lef, gIs, gIl, gIr, gLs, gLl, gLr, gPs, gPl, gPr, gLc, gPc, zb_some, Option.bind_some, q_nm, q_pm, q_hm, q_tm, q_sm, q_wm, q_ym, q_lm, q_ua]; rfl
  · simp (disch := omega) only [ni_lit, nI_add, pk_mul, pk_sub, pk_div, nI_leI, nI_ltI, nI_eq, nI_clamp, ni_in, ni_inm, ni_ltm, ni_mlt, ni_lem, ni_mle, ni_eqm, ni_meq, ni_mm, ni_mmle, ni_bit, ni_shl, ni_clr, fa_or, Nat.add_zero, Nat.zero_add, Nat.zero_mul, Nat.mul_zero, eOn, eOs, if_true, if_false, not_true_eq_false, not_false_eq_true, ite_true, ite_false, true_and, and_true, false_and, and_false, or_true, true_or, or_false, false_or, Bool.false_eq_true, reduceIte, Bool.not_true, Bool.not_false, and_self, or_self, q_ef, q_et, q_ltt, q_ltf, q_let, q_lef, gIs, gIl, gIr, gLs, gLl, gLr, gPs, gPl, gPr, gLc, gPc, zb_some, Option.bind_some, q_nm, q_pm, q_hm, q_tm, q_sm, q_wm, q_ym, q_lm, q_ua]; exact h8.2.1
  · simp (disch := omega) only [ni_lit, nI_add, pk_mul, pk_sub, pk_div, nI_leI, nI_ltI, nI_eq, nI_clamp, ni_in, ni_inm, ni_ltm, ni_mlt, ni_lem, ni_mle, ni_eqm, ni_meq, ni_mm, ni_mmle, ni_bit, ni_shl, ni_clr, fa_or, Nat.add_zero, Nat.zero_add, Nat.zero_mul, Nat.mul_zero, eOn, eOs, if_true, if_false, not_true_eq_false, not_false_eq_true, ite_true, ite_false, true_and, and_true, false_and, and_false, or_true, true_or, or_false, false_or, Bool.false_eq_true, reduceIte, Bool.not_true, Bool.not_false, and_self, or_self, q_ef, q_et, q_ltt, q_ltf, q_let, q_lef, gIs, gIl, gIr, gLs, gLl, gLr, gPs, gPl, gPr, gLc, gPc, zb_some, Option.bind_some, q_nm, q_pm, q_hm, q_tm, q_sm, q_wm, q_ym, q_lm, q_ua]; exact h8.2.2
theorem mA.see {n : Nat} (h : mA S A) (hA : aOk A) : mA (sL S 396 55 (lN n)) (a_see A n) := by
  have hW := h.W
  have ho : onM (fun c k => c = 396 ∧ k = 55) S (sL S 396 55 (lN n)) := onM_sL (D := fun c k => c = 396 ∧ k = 55) (c := 396) (onM.refl hW) ⟨rfl, rfl⟩
  have hI : ∀ c k, gI (sL S 396 55 (lN n)) c k = gI S c k := fun c k => rfl
  obtain ⟨h1, ⟨b, h2⟩, h3, h4, h5, h6, h7, h8, h9, h10, h11⟩ := h
  have hP := hA.1
  refine ⟨h1, ⟨b, h2.on ho (fun c k z w => by omega)⟩, h3, h4, h5, h6, h7, h8, ⟨?_, h9.2.1, h9.2.2⟩, h10, h11⟩
  simp (disch := omega) only [ni_lit, nI_add, pk_mul, pk_sub, pk_div, nI_leI, nI_ltI, nI_eq, nI_clamp, ni_in, ni_inm, ni_ltm, ni_mlt, ni_lem, ni_mle, ni_eqm, ni_meq, ni_mm, ni_mmle, ni_bit, ni_shl, ni_clr, fa_or, Nat.add_zero, Nat.zero_add, Nat.zero_mul, Nat.mul_zero, eOn, eOs, if_true, if_false, not_true_eq_false, not_false_eq_true, ite_true, ite_false, true_and, and_true, false_and, and_false, or_true, true_or, or_false, false_or, Bool.false_eq_true, reduceIte, Bool.not_true, Bool.not_false, and_self, or_self, q_ef, q_et, q_ltt, q_ltf, q_let, q_lef, gIs, gIl, gIr, gLs, gLl, gLr, gPs, gPl, gPr, gLc, gPc, zb_some, Option.bind_some, q_nm, q_pm, q_hm, q_tm, q_sm, q_wm, q_ym, q_lm, q_ua]; rfl
theorem t_seed : ∃ A', twoI (d + 20) 144 265 [.int x] A A' := by
  by_cases c : (0 : Int32) ≤ x
  · obtain ⟨k, hk, rfl⟩ := nI_of (x := x) (fun z => by rw [fa_le] at c; rw [fa_lt] at z; omega)
    refine ⟨a_see A k, two_m (nI 1) (fun hA => hA.see (by omega)) (fun S h hA => ?_) (fun S h hA => ?_)⟩
    · have e := e144 (d + 19) (nI k) S h.1
      rw [if_pos c] at e
      exact ⟨_, e, onM_sI (D := fun c _ => c < 396) (c := 0) (onM.refl h.1) (by decide), h.see⟩
    · have e := e265 (d + 19) (nI k) S h.W
      rw [if_pos c, nI_l (by omega)] at e
      exact ⟨_, e, onM_sL (D := fun c _ => 396 ≤ c) (c := 396) (onM.refl h.W) (by decide), h.see hA⟩
  · refine ⟨a_ref A 5, two_m (nI 0) (fun hA => hA.ref) (fun S h hA => ?_) (fun S h hA => ?_)⟩
    · have e := e144 (d + 19) x S h.1
      have h0 := h.2.2.2.2.2.2.2.2.1 5 (by omega)
      rw [if_neg c, if_pos (by decide), if_pos (by decide), show ((5 : Int32)).toNatClampNeg = 5 from rfl, h0, show (1 : Int32) = nI 1 from rfl, nI_add] at e
      exact ⟨_, e, onM_sI (D := fun c _ => c < 396) (c := 395) (onM.refl h.1) (by decide), h.ref⟩
    · have e := e265 (d + 19) x S h.W
      have a1 : fI (d + 19) 194 [.ref 396, .int 5] S = _ := m194 (d := d + 18) (j := 5) h.W h.2.2.2.2.2.2.2.2.2.1 (by omega)
      rw [if_neg c, a1, zb_some, if_pos (by decide)] at e
      exact ⟨_, e, onM_sI (D := fun c _ => 396 ≤ c) (c := 419) (onM.refl h.W) (by decide), h.ref hA⟩
theorem m232_l {b r : Nat} {P : q_Pl} (hM : cM S b P) (hr : r < 2147483648) : ∀ (m i : Nat), i + m = p_L P → b232_88 (d + 1) (nI r) (nI (q_hol P r i)) (nI i) S = some (nI (q_hol P r (p_L P)), S)
  | 0, i, hi => by
    obtain ⟨hW, hb, hbk, hC, hP⟩ := hM
    have hL := hP.2.2.2.2.1
    have e := b232_88_eq (d + 1) (nI r) (nI (q_hol P r i)) (nI i) S hW
    simp (disch := omega) only [ni_lit, nI_add, pk_mul, pk_sub, pk_div, nI_leI, nI_ltI, nI_eq, nI_clamp, ni_in, ni_inm, ni_ltm, ni_mlt, ni_lem, ni_mle, ni_eqm, ni_meq, ni_mm, ni_mmle, ni_bit, ni_shl, ni_clr, fa_or, Nat.add_zero, Nat.zero_add, Nat.zero_mul, Nat.mul_zero, eOn, eOs, if_true, if_false, not_true_eq_false, not_false_eq_true, ite_true, ite_false, true_and, and_true, false_and, and_false, or_true, true_or, or_false, false_or, Bool.false_eq_true, reduceIte, Bool.not_true, Bool.not_false, and_self, or_self, q_ef, q_et, q_ltt, q_ltf, q_let, q_lef, gIs, gIl, gIr, gLs, gLl, gLr, gPs, gPl, gPr, gLc, gPc, zb_some, Option.bind_some, q_nm, q_pm, q_hm, q_tm, q_sm, q_wm, q_ym, q_lm, q_ua, hbk, hC.2.2.2.2.1] at e
    rw [e, ← hi, Nat.add_zero]
  | m + 1, i, hi => by
    have hM' := hM
    obtain ⟨hW, hb, hbk, hC, hP⟩ := hM
    have hL := hP.2.2.2.2.1
    have hR := hP.1
    have hk : i < p_L P := by omega
    have hct : q_hol P r i ≤ i := fb_ct_le _ _
    have ff := hP.2.2.2.2.2.2.2.1 i hk
    have e := b232_88_eq (d + 1) (nI r) (nI (q_hol P r i)) (nI i) S hW
    have ih := m232_l hM' hr m (i + 1) (by omega)
    have hs : q_hol P r (i + 1) = q_hol P r i + (if decide (p_f P i = r ∨ p_o P i = r) then 1 else 0) := fb_ct_succ _ _
    by_cases c1 : p_f P i = r
    · simp (disch := omega) only [ni_lit, nI_add, pk_mul, pk_sub, pk_div, nI_leI, nI_ltI, nI_eq, nI_clamp, ni_in, ni_inm, ni_ltm, ni_mlt, ni_lem, ni_mle, ni_eqm, ni_meq, ni_mm, ni_mmle, ni_bit, ni_shl, ni_clr, fa_or, Nat.add_zero, Nat.zero_add, Nat.zero_mul, Nat.mul_zero, eOn, eOs, if_true, if_false, not_true_eq_false, not_false_eq_true, ite_true, ite_false, true_and, and_true, false_and, and_false, or_true, true_or, or_false, false_or, Bool.false_eq_true, reduceIte, Bool.not_true, Bool.not_false, and_self, or_self, q_ef, q_et, q_ltt, q_ltf, q_let, q_lef, gIs, gIl, gIr, gLs, gLl, gLr, gPs, gPl, gPr, gLc, gPc, zb_some, Option.bind_some, q_nm, q_pm, q_hm, q_tm, q_sm, q_wm, q_ym, q_lm, q_ua, hbk, hC.2.2.2.2.1, m210 (d := d) hM' hk, b232_123_eq (d + 1) _ _ _ S hW, b232_128_eq (d + 1) _ _ _ _ S hW] at e
      rw [decide_eq_true (Or.inl c1), if_pos rfl] at hs
      rw [hs] at ih
      exact e.trans ih
    · by_cases c2 : p_o P i = r
      · simp (disch := omega) only [ni_lit, nI_add, pk_mul, pk_sub, pk_div, nI_leI, nI_ltI, nI_eq, nI_clamp, ni_in, ni_inm, ni_ltm, ni_mlt, ni_lem, ni_mle, ni_eqm, ni_meq, ni_mm, ni_mmle, ni_bit, ni_shl, ni_clr, fa_or, Nat.add_zero, Nat.zero_add, Nat.zero_mul, Nat.mul_zero, eOn, eOs, if_true, if_false, not_true_eq_false, not_false_eq_true, ite_true, ite_false, true_and, and_true, false_and, and_false, or_true, true_or, or_false, false_or, Bool.false_eq_true, reduceIte, Bool.not_true, Bool.not_false, and_self, or_self, q_ef, q_et, q_ltt, q_ltf, q_let, q_lef, gIs, gIl, gIr, gLs, gLl, gLr, gPs, gPl, gPr, gLc, gPc, zb_some, Option.bind_some, q_nm, q_pm, q_hm, q_tm, q_sm, q_wm, q_ym, q_lm, q_ua, hbk, hC.2.2.2.2.1, m210 (d := d) hM' hk, m211 (d := d) hM' hk, b232_123_eq (d + 1) _ _ _ S hW, b232_128_eq (d + 1) _ _ _ _ S hW] at e
        rw [decide_eq_true (Or.inr c2), if_pos rfl] at hs
        rw [hs] at ih
        exact e.trans ih
      · simp (disch := omega) only [ni_lit, nI_add, pk_mul, pk_sub, pk_div, nI_leI, nI_ltI, nI_eq, nI_clamp, ni_in, ni_inm, ni_ltm, ni_mlt, ni_lem, ni_mle, ni_eqm, ni_meq, ni_mm, ni_mmle, ni_bit, ni_shl, ni_clr, fa_or, Nat.add_zero, Nat.zero_add, Nat.zero_mul, Nat.mul_zero, eOn, eOs, if_true, if_false, not_true_eq_false, not_false_eq_true, ite_true, ite_false, true_and, and_true, false_and, and_false, or_true, true_or, or_false, false_or, Bool.false_eq_true, reduceIte, Bool.not_true, Bool.not_false, and_self, or_self, q_ef, q_et, q_ltt, q_ltf, q_let, q_lef, gIs, gIl, gIr, gLs, gLl, gLr, gPs, gPl, gPr, gLc, gPc, zb_some, Option.bind_some, q_nm, q_pm, q_hm, q_tm, q_sm, q_wm, q_ym, q_lm, q_ua, hbk, hC.2.2.2.2.1, m210 (d := d) hM' hk, m211 (d := d) hM' hk, b232_128_eq (d + 1) _ _ _ _ S hW] at e
        rw [decide_eq_false (fun z => z.elim c1 c2), if_neg (by decide), Nat.add_zero] at hs
        rw [hs] at ih
        exact e.trans ih
theorem t_room : twoI (d + 20) 114 232 [.int x, .int y] A A := by
  refine two_q (if ixO (p_R (a_P A)) x = true then (if y = 0 then eO (q_s (a_s A) x.toInt.toNat) else if y = 1 then bI ((q_h (a_s A)).testBit x.toInt.toNat) else if y = 2 then bI (q_free (a_s A) x.toInt.toNat) else if y = 3 then nI (q_hol (a_P A) x.toInt.toNat (p_L (a_P A))) else if y = 4 then bI (q_yl (a_P A) (a_s A) x.toInt.toNat 0 (p_T (a_P A))) else -nI 1) else -nI 1) (fun S h hA => ?_) (fun S h hA => ?_)
  · obtain ⟨q, hH, hq⟩ := h.H hA
    have hR := hA.1.1
    have hT := hA.1.2.2.1
    have e := e114 (d + 19) x y S h.1
    rw [hq, c58x (d := d + 18) hH.1 hH.2.1 hH.2.2.2.1 hA.1, zb_some] at e
    by_cases c : ixO (p_R (a_P A)) x = true
    · obtain ⟨k, h1, rfl⟩ := ixO_t c (by omega)
      have hB := hA.2.1.Bd hA.1
      have hBh := hB.1
      have g3 : gI S 28 k = eO (q_s (a_s A) k) := h.s.2.2.2.2.2.1 k (by omega)
      have s2 : gI S 27 2 = nI (q_h (a_s A)) := h.s.2.2.1
      rw [if_pos c, nI_toInt (by omega), show ((k : Int)).toNat = k from rfl]
      rw [c, if_pos (by decide)] at e
      by_cases y4 : y = 4
      · subst y4
        have hT3 : gI S q 3 = nI (p_T (a_P A)) := hH.2.2.2.1.2.2.2.1
        obtain ⟨S1, a1, a2⟩ := c34 (d := d + 14) (r := k) (out := 0) (T := p_T (a_P A)) hH (by decide +kernel) h.s hA.2.1 (Or.inr (Nat.le_refl _)) (by omega) (by omega) hT
        have a1' : fI (d + 19) 34 [.ref 22, .ref 27, .int (nI k), .int (0 : Int32), .int (nI (p_T (a_P A)))] S = _ := a1
        rw [if_neg (by decide), if_neg (by decide), if_neg (by decide), if_neg (by decide), if_pos rfl, hq, hT3, a1', zb_some] at e
        refine ⟨S1, ?_, a2.mono fun c k z => ⟨by omega, by unfold cScr; omega⟩⟩
        rw [e, if_neg (show ¬ (4 : Int32) = 0 by decide), if_neg (show ¬ (4 : Int32) = 1 by decide), if_neg (show ¬ (4 : Int32) = 2 by decide), if_neg (show ¬ (4 : Int32) = 3 by decide), if_pos (show (4 : Int32) = 4 from rfl)]
        cases q_yl (a_P A) (a_s A) k 0 (p_T (a_P A))
        · rfl
        · rfl
      · refine ⟨S, ?_, onI.refl h.1⟩
        rw [e, hq, s2, c76 (d := d + 18) h.1 (by decide +kernel) h.s hB (show k < 16 by omega), zb_some, c63 (d := d + 18) (r := k) h.1 hH.2.1 hH.2.2.2.1 hA.1 (by omega), zb_some]
        rw [if_neg y4, if_neg y4]
        simp (disch := omega) only [ni_lit, nI_add, pk_mul, pk_sub, pk_div, nI_leI, nI_ltI, nI_eq, nI_clamp, ni_in, ni_inm, ni_ltm, ni_mlt, ni_lem, ni_mle, ni_eqm, ni_meq, ni_mm, ni_mmle, ni_bit, ni_shl, ni_clr, fa_or, Nat.add_zero, Nat.zero_add, Nat.zero_mul, Nat.mul_zero, eOn, eOs, q_ltt, if_true, g3, smi, bI_0]
        refine ifc (fun _ => rfl) (fun _ => ifc (fun _ => ?_) (fun _ => ifc (fun _ => ?_) (fun _ => rfl)))
        · unfold q_b
          cases (q_h (a_s A)).testBit k
          · rfl
          · rfl
        · cases q_free (a_s A) k
          · rfl
          · rfl
    · have c' : ixO (p_R (a_P A)) x = false := by simpa using c
      rw [if_neg c]
      rw [c', if_neg (by decide)] at e
      exact ⟨S, e, onI.refl h.1⟩
  · have hW := h.W
    obtain ⟨_, ⟨b, hM⟩, _, hT0, hs, _⟩ := h
    have hR := hA.1.1
    have hT := hA.1.2.2.1
    have e := e232 (d + 19) x y S hM.1
    rw [m227 (d := d + 18) hM, zb_some] at e
    by_cases c : ixO (p_R (a_P A)) x = true
    · obtain ⟨k, h1, rfl⟩ := ixO_t c (by omega)
      have hB := hA.2.1.Bd hA.1
      rw [m_s_eq (hA.mR h1)] at hs
      have g4 := hs.2.2.2.2.1 k (by omega)
      rw [Nat.mul_zero, Nat.zero_add] at g4
      rw [if_pos c, nI_toInt (by omega), show ((k : Int)).toNat = k from rfl]
      rw [c, if_pos (by decide)] at e
      by_cases y4 : y = 4
      · subst y4
        obtain ⟨S1, a1, a2⟩ := m217 (d := d + 13) (v := 0) (r := k) (out := 0) (T := p_T (a_P A)) hM (by omega) hs hA.2.1 hT0 (by omega) (by omega) hT
        have a1' : fI (d + 19) 217 [.ref 396, .int (0 : Int32), .int (nI k), .int (0 : Int32)] S = _ := a1
        rw [if_neg (by decide), if_neg (by decide), if_neg (by decide), if_neg (by decide), if_pos rfl, a1', zb_some] at e
        refine ⟨S1, ?_, a2.mono fun c k z => ⟨by omega, by unfold mScr; omega⟩⟩
        rw [e, if_neg (show ¬ (4 : Int32) = 0 by decide), if_neg (show ¬ (4 : Int32) = 1 by decide), if_neg (show ¬ (4 : Int32) = 2 by decide), if_neg (show ¬ (4 : Int32) = 3 by decide), if_pos (show (4 : Int32) = 4 from rfl)]
        cases q_yl (a_P A) (a_s A) k 0 (p_T (a_P A))
        · rfl
        · rfl
      · refine ⟨S, ?_, onM.refl hW⟩
        have a7 : fI (d + 19) 207 [.ref 396, .int (0 : Int32), .int (nI k)] S = _ := m207 (d := d + 17) (v := 0) hM.1 (by omega) hs hB (by omega)
        have a8 : fI (d + 19) 208 [.ref 396, .int (0 : Int32), .int (nI k)] S = _ := m208 (d := d + 16) (v := 0) hM.1 (by omega) hs hA.2.1 hA.1 (by omega)
        have a9 : b232_88 (d + 19) (nI k) (0 : Int32) (0 : Int32) S = _ := m232_l (d := d + 18) (r := k) hM (by omega) (p_L (a_P A)) 0 (by omega)
        rw [e, a7, zb_some, a8, zb_some, a9]
        rw [if_neg y4, if_neg y4]
        simp (disch := omega) only [ni_lit, nI_add, pk_mul, pk_sub, pk_div, nI_leI, nI_ltI, nI_eq, nI_clamp, ni_in, ni_inm, ni_ltm, ni_mlt, ni_lem, ni_mle, ni_eqm, ni_meq, ni_mm, ni_mmle, ni_bit, ni_shl, ni_clr, fa_or, Nat.add_zero, Nat.zero_add, Nat.zero_mul, Nat.mul_zero, eOn, eOs, q_ltt, if_true, g4, smi, bI_0]
        refine ifc (fun _ => rfl) (fun _ => ifc (fun _ => ?_) (fun _ => ifc (fun _ => ?_) (fun _ => rfl)))
        · cases (q_h (a_s A)).testBit k
          · rfl
          · rfl
        · cases q_free (a_s A) k
          · rfl
          · rfl
    · have c' : ixO (p_R (a_P A)) x = false := by simpa using c
      rw [if_neg c]
      rw [c', if_neg (by decide)] at e
      exact ⟨S, e, onM.refl hW⟩
theorem q_kv_d {u : Nat × Nat × Nat} (h : u.1 ≤ 999 ∧ u.2.1 < 16 ∧ u.2.2 < 16) : q_kv u / 256 = u.1 ∧ q_kv u / 16 % 16 = u.2.1 ∧ q_kv u % 16 = u.2.2 ∧ q_kv u < 260000 := by
  unfold q_kv
  omega
theorem c51 {p : Nat} {kl : List (Nat × Nat × Nat)} (hW : z_W S) (hp : z_K p = 4) (hk : cKp S p kl) (ho : q_kok kl) : fI (d + 1) 51 [.ref p, .int x, .int y] S = some ((if ixO kl.length x = true then (if y = 0 then nI (kl.getD x.toInt.toNat (0, 0, 0)).1 else if y = 1 then nI (kl.getD x.toInt.toNat (0, 0, 0)).2.1 else if y = 2 then nI (kl.getD x.toInt.toNat (0, 0, 0)).2.2 else -nI 1) else -nI 1), S) := by
  have e := e51 d p x y S hW hp
  obtain ⟨h1, h2, od, h3, h4, h5⟩ := hk
  by_cases c : ixO kl.length x = true
  · obtain ⟨k, hk, rfl⟩ := ixO_t c (by omega)
    rw [if_pos c, nI_toInt (by omega), show ((k : Int)).toNat = k from rfl]
    have hm : kl.getD k (0, 0, 0) ∈ kl := by rw [List.getD_eq_getElem?_getD, List.getElem?_eq_getElem hk]; exact List.getElem_mem _
    obtain ⟨d1, d2, d3, d4⟩ := q_kv_d (ho _ hm)
    have h5k := h5 k hk
    have hmod : (od + k) % 40 < 40 := Nat.mod_lt _ (by decide)
    have hrem : nI od + nI k - (nI od + nI k) / (40 : Int32) * (40 : Int32) = nI ((od + k) % 40) := by
      rw [nI_add]
      exact pk_rem (a := od + k) (d := 40) (by omega) (by omega) (by omega)
    rw [h2, h4, hrem] at e
    simp (disch := omega) only [ni_lit, nI_ltI, q_ltt, q_ltf, if_true, if_false, nI_clamp, ni_in, h5k] at e
    have sh8 : nI (q_kv (kl.getD k (0, 0, 0))) >>> (nI 8 &&& nI 31) = nI (kl.getD k (0, 0, 0)).1 := by
      rw [pk_shrN (by omega) _ 8 (by decide), ← d1]
    have sh4 : nI (q_kv (kl.getD k (0, 0, 0))) >>> (nI 4 &&& nI 31) &&& nI 15 = nI (kl.getD k (0, 0, 0)).2.1 := by
      rw [pk_shrN (by omega) _ 4 (by decide), fa_mask _ 4, ← d2]
    have sh0 : nI (q_kv (kl.getD k (0, 0, 0))) &&& nI 15 = nI (kl.getD k (0, 0, 0)).2.2 := by
      rw [fa_mask _ 4, ← d3]
    rw [e, sh8, sh4, sh0]
    simp only [smi, ni_lit]
  · rw [if_neg c]
    rw [h2] at e
    by_cases c1 : x < 0
    · rw [if_pos c1] at e; exact e
    · rw [if_neg c1] at e
      by_cases c2 : x < nI kl.length
      · exfalso
        rw [x_lt0] at c1
        rw [fa_lt, nI_toInt (by omega)] at c2
        exact c (decide_eq_true (by omega))
      · rw [if_neg c2] at e; exact e
theorem t_kept : twoI (d + 20) 145 266 [.int x, .int y] A A := by
  refine two_q (if ixO (a_kl A).length x = true then (if y = 0 then nI ((a_kl A).getD x.toInt.toNat (0, 0, 0)).1 else if y = 1 then nI ((a_kl A).getD x.toInt.toNat (0, 0, 0)).2.1 else if y = 2 then nI ((a_kl A).getD x.toInt.toNat (0, 0, 0)).2.2 else -nI 1) else -nI 1) (fun S h hA => ⟨S, ?_, onI.refl h.1⟩) (fun S h hA => ⟨S, ?_, onM.refl h.W⟩)
  · rw [e145 (d + 19) x y S h.1, c51 (d := d + 18) h.1 (by decide +kernel) h.2.2.2.2.1 hA.2.2.2.1, zb_some]
  · have e := e266 (d + 19) x y S h.W
    have hk := h.2.2.2.2.2.1
    obtain ⟨k1, k2, k3⟩ := hk
    have a1 : fI (d + 19) 155 [.int x, .int 0, .int (gI S 427 ((0 : Int32)).toNatClampNeg - 1)] S = some (bI (ixO (a_kl A).length x), S) := by
      rw [m155g (d := d + 18) h.W, ixO_d, show ((0 : Int32)).toNatClampNeg = 0 from rfl, k2, show (1 : Int32) = nI 1 from rfl, nI_pm (by omega)]; rfl
    have a2 : fI (d + 19) 155 [.int y, .int 0, .int 2] S = some (bI (ixO 3 y), S) := by
      rw [m155g (d := d + 18) h.W, ixO_d]; rfl
    rw [if_pos (by decide), a1, zb_some, a2, zb_some, b266_38_eq (d + 19) S h.W] at e
    by_cases c : ixO (a_kl A).length x = true
    · obtain ⟨k, hk, rfl⟩ := ixO_t c (by omega)
      rw [if_pos c, nI_toInt (by omega), show ((k : Int)).toNat = k from rfl]
      rw [c, if_neg (by decide)] at e
      obtain ⟨l1, l2, l3⟩ := k3 k hk
      rw [Nat.mul_zero, Nat.zero_add] at l1 l2 l3
      by_cases cy : ixO 3 y = true
      · obtain ⟨j, hj, rfl⟩ := ixO_t cy (by omega)
        rw [cy, if_neg (by decide)] at e
        have : j = 0 ∨ j = 1 ∨ j = 2 := by omega
        rcases this with z | z | z <;> subst z
        · simp (disch := omega) only [ni_lit, nI_add, pk_mul, pk_sub, pk_div, nI_leI, nI_ltI, nI_eq, nI_clamp, ni_in, ni_inm, ni_ltm, ni_mlt, ni_lem, ni_mle, ni_eqm, ni_meq, ni_mm, ni_mmle, ni_bit, ni_shl, ni_clr, fa_or, Nat.add_zero, Nat.zero_add, Nat.zero_mul, Nat.mul_zero, eOn, eOs, q_ltt, if_true, l1] at e
          exact e
        · simp (disch := omega) only [ni_lit, nI_add, pk_mul, pk_sub, pk_div, nI_leI, nI_ltI, nI_eq, nI_clamp, ni_in, ni_inm, ni_ltm, ni_mlt, ni_lem, ni_mle, ni_eqm, ni_meq, ni_mm, ni_mmle, ni_bit, ni_shl, ni_clr, fa_or, Nat.add_zero, Nat.zero_add, Nat.zero_mul, Nat.mul_zero, eOn, eOs, q_ltt, if_true, l2] at e
          exact e
        · simp (disch := omega) only [ni_lit, nI_add, pk_mul, pk_sub, pk_div, nI_leI, nI_ltI, nI_eq, nI_clamp, ni_in, ni_inm, ni_ltm, ni_mlt, ni_lem, ni_mle, ni_eqm, ni_meq, ni_mm, ni_mmle, ni_bit, ni_shl, ni_clr, fa_or, Nat.add_zero, Nat.zero_add, Nat.zero_mul, Nat.mul_zero, eOn, eOs, q_ltt, if_true, l3] at e
          exact e
      · have cy' : ixO 3 y = false := by simpa using cy
        rw [cy', if_pos (by decide)] at e
        have nk : ∀ k : Nat, k < 3 → ¬ y = nI k := fun k hk z => by rw [z, ixO_n hk (by omega)] at cy'; cases cy'
        rw [if_neg (show ¬ y = 0 from nk 0 (by omega)), if_neg (show ¬ y = 1 from nk 1 (by omega)), if_neg (show ¬ y = 2 from nk 2 (by omega))]
        exact e
    · have c' : ixO (a_kl A).length x = false := by simpa using c
      rw [if_neg c]
      rw [c', if_pos (by decide)] at e
      exact e
end TD
