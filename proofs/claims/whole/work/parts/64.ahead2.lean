/-! AHEAD: later, purse, sleeps. -/
section TF
variable {d : Nat} {S : z_S} {A : q_A} {x y : Int32}
theorem c_pass {b : Bool} {s : q_St} (h : cA S A) (hA : aOk A) (hs : cSt S 32 16 s) (hG : q_Gd (a_P A) s) : ∃ v S1, fI (d + 7) 35 [.ref 22, .ref 32, .int (bI b)] S = some (v, S1) ∧ onI (fun c k => c < 396 ∧ cScr c k) S S1 ∧ cSt S1 32 16 (q_nt (a_P A) b s) ∧ cA S1 A := by
  obtain ⟨q, hH, hq⟩ := h.H hA
  obtain ⟨S1, a1, a2, a3, a4⟩ := c35 (d := d) (p := 32) (b := b) hH (by decide +kernel) hs hG
  have a5 : onI (fun c k => c < 396 ∧ cScr c k) S S1 := a2.mono fun c k z => by unfold hD at z; unfold cScr; omega
  exact ⟨_, S1, a1, a5, a3, h.scr a5 fun c k z => z.2⟩
theorem m_pass {s : q_St} (h : mA S A) (hA : aOk A) (hs : mSt S 1 s) (hG : q_Gd (a_P A) s) : ∃ v S1, fI (d + 7) 226 [.ref 396, .int (nI 1)] S = some (v, S1) ∧ onM (fun c k => 396 ≤ c ∧ mScr c k) S S1 ∧ mSt S1 1 (q_setn (q_nt (a_P A) true s) (q_n s + 1)) ∧ mA S1 A := by
  obtain ⟨b, hM⟩ := h.2.1
  obtain ⟨S1, a1, a2, a3⟩ := m226 (d := d) (v := 1) hM (by omega) hs hG
  have a4 : onM (fun c k => 396 ≤ c ∧ mScr c k) S S1 := a2.mono fun c k z => by unfold tD vD at z; unfold mScr vD kD; omega
  exact ⟨_, S1, a1, a4, a3, h.scr hA a4 fun c k z => z.2⟩
theorem c118_l {r n : Nat} (hA : aOk A) (hr : r < 16) (hn : n ≤ 40) : ∀ (m i : Nat) (S : z_S), i + m = n → cA S A → cSt S 32 16 (q_nf (a_P A) i (a_s A)) → ∃ S', b118_34 (d + 7) (nI r) (nI n) (nI i) S = some (eO (q_s (q_nf (a_P A) n (a_s A)) r), S') ∧ onI (fun c k => c < 396 ∧ cScr c k) S S'
  | 0, i, S, hi, h, hs => by
    have e := b118_34_eq (d + 7) (nI r) (nI n) (nI i) S h.1
    have s5 : gI S 33 r = eO (q_s (q_nf (a_P A) i (a_s A)) r) := hs.2.2.2.2.2.1 r hr
    simp (disch := omega) only [ni_lit, nI_add, pk_mul, pk_sub, pk_div, nI_leI, nI_ltI, nI_eq, nI_clamp, ni_in, ni_inm, ni_ltm, ni_mlt, ni_lem, ni_mle, ni_eqm, ni_meq, ni_mm, ni_mmle, ni_bit, ni_shl, ni_clr, fa_or, Nat.add_zero, Nat.zero_add, Nat.zero_mul, Nat.mul_zero, eOn, eOs, if_true, if_false, not_true_eq_false, not_false_eq_true, ite_true, ite_false, true_and, and_true, false_and, and_false, or_true, true_or, or_false, false_or, Bool.false_eq_true, reduceIte, Bool.not_true, Bool.not_false, and_self, or_self, q_ef, q_et, q_ltt, q_ltf, q_let, q_lef, gIs, gIl, gIr, gLs, gLl, gLr, gPs, gPl, gPr, gLc, gPc, zb_some, Option.bind_some, q_nm, q_pm, q_hm, q_tm, q_sm, q_wm, q_ym, q_lm, q_ua, s5] at e
    rw [show i = n by omega] at e ⊢
    exact ⟨S, e, onI.refl h.1⟩
  | m + 1, i, S, hi, h, hs => by
    have e := b118_34_eq (d + 7) (nI r) (nI n) (nI i) S h.1
    obtain ⟨v, S1, a1, a2, a3, a4⟩ := c_pass (d := d) (b := false) h hA hs (q_nf_G hA.1 hA.2.1 i)
    have a1' : fI (d + 7) 35 [.ref 22, .ref 32, .int (0 : Int32)] S = some (v, S1) := a1
    rw [if_neg (fun z => by have := (nI_leI (by omega) (by omega)).mp z; omega), a1', zb_some, show (1 : Int32) = nI 1 from rfl, nI_add] at e
    obtain ⟨S', b1, b2⟩ := c118_l hA hr hn m (i + 1) S1 (by omega) a4 a3
    exact ⟨S', e.trans b1, a2.trans b2⟩
theorem m236_l {n : Nat} (hA : aOk A) (hn : n ≤ 40) (hn2 : q_n (a_s A) + n ≤ 999) : ∀ (m i : Nat) (S : z_S), i + m = n → mA S A → mSt S 1 (q_ns (a_P A) i (a_s A)) → ∃ S', b236_2 (d + 7) (nI n) (nI i) S = some S' ∧ onM (fun c k => 396 ≤ c ∧ mScr c k) S S' ∧ mSt S' 1 (q_ns (a_P A) n (a_s A)) ∧ mA S' A
  | 0, i, S, hi, h, hs => by
    have e := b236_2_eq (d + 7) (nI n) (nI i) S h.W
    simp (disch := omega) only [ni_lit, nI_add, pk_mul, pk_sub, pk_div, nI_leI, nI_ltI, nI_eq, nI_clamp, ni_in, ni_inm, ni_ltm, ni_mlt, ni_lem, ni_mle, ni_eqm, ni_meq, ni_mm, ni_mmle, ni_bit, ni_shl, ni_clr, fa_or, Nat.add_zero, Nat.zero_add, Nat.zero_mul, Nat.mul_zero, eOn, eOs, if_true, if_false, not_true_eq_false, not_false_eq_true, ite_true, ite_false, true_and, and_true, false_and, and_false, or_true, true_or, or_false, false_or, Bool.false_eq_true, reduceIte, Bool.not_true, Bool.not_false, and_self, or_self, q_ef, q_et, q_ltt, q_ltf, q_let, q_lef, gIs, gIl, gIr, gLs, gLl, gLr, gPs, gPl, gPr, gLc, gPc, zb_some, Option.bind_some, q_nm, q_pm, q_hm, q_tm, q_sm, q_wm, q_ym, q_lm, q_ua] at e
    rw [show i = n by omega] at e hs ⊢
    exact ⟨S, e, onM.refl h.W, hs, h⟩
  | m + 1, i, S, hi, h, hs => by
    have e := b236_2_eq (d + 7) (nI n) (nI i) S h.W
    obtain ⟨v, S1, a1, a2, a3, a4⟩ := m_pass (d := d) h hA hs (q_ns_G hA.1 hA.2.1 i)
    have a1' : fI (d + 7) 226 [.ref 396, .int (1 : Int32)] S = some (v, S1) := a1
    rw [if_neg (fun z => by have := (nI_leI (by omega) (by omega)).mp z; omega), a1', zb_some, show (1 : Int32) = nI 1 from rfl, nI_add] at e
    rw [q_nt_setn (by rw [q_ns_n _ _ _ (by omega)]; omega)] at a3
    obtain ⟨S', b1, b2, b3, b4⟩ := m236_l hA hn hn2 m (i + 1) S1 (by omega) a4 a3
    exact ⟨S', e.trans b1, a2.trans b2, b3, b4⟩
theorem t_later : twoI (d + 20) 118 238 [.int x, .int y] A A := by
  refine two_q (if ixO (p_R (a_P A)) x = true ∧ q_ca A y = true then eO (q_s (q_ns (a_P A) y.toInt.toNat (a_s A)) x.toInt.toNat) else -1) (fun S h hA => ?_) (fun S h hA => ?_)
  · obtain ⟨q, hH, hq⟩ := h.H hA
    have hR := hA.1.1
    have e := e118 (d + 19) x y S h.1
    rw [hq, c58x (d := d + 18) hH.1 hH.2.1 hH.2.2.2.1 hA.1, zb_some, c121 (d := d + 18) h hA, zb_some] at e
    by_cases c1 : ixO (p_R (a_P A)) x = true
    · rw [c1, if_neg (by decide)] at e
      by_cases c2 : q_ca A y = true
      · obtain ⟨k, k1, rfl⟩ := ixO_t c1 (by omega)
        obtain ⟨n, n1, rfl, n3⟩ := q_ca_t c2
        rw [c2, if_pos (by decide)] at e
        obtain ⟨S1, q1, a1, a2, a3, a4, hH1, hq1⟩ := c_try (d := d + 18) h hA
        rw [a1, Option.bind_some] at e
        obtain ⟨S2, b1, b2⟩ := c118_l (d := d + 12) (r := k) (n := n) hA (by omega) n1 n 0 S1 (by omega) a4 a3
        refine ⟨S2, ?_, (a2.mono fun c k z => by unfold pD at z; unfold cScr; omega).trans b2⟩
        rw [if_pos ⟨c1, c2⟩, nI_toInt (by omega), show ((n : Int)).toNat = n from rfl, nI_toInt (by omega), show ((k : Int)).toNat = k from rfl, ← (q_nf_s (a_P A) (a_s A) n).1]
        exact e.trans b1
      · have c2' : q_ca A y = false := by simpa using c2
        rw [c2', if_neg (by decide)] at e
        rw [if_neg (fun z => c2 z.2)]
        exact ⟨S, e, onI.refl h.1⟩
    · have c1' : ixO (p_R (a_P A)) x = false := by simpa using c1
      rw [c1', if_pos (by decide)] at e
      rw [if_neg (fun z => c1 z.1)]
      exact ⟨S, e, onI.refl h.1⟩
  · have hW := h.W
    obtain ⟨b0, hM0⟩ := h.2.1
    have hR := hA.1.1
    have e := e238 (d + 19) x y S hW
    have a0 : fI (d + 19) 235 [.ref 396, .int y, .int (0 : Int32), .int (40 : Int32)] S = _ := m235 (d := d + 17) (a := 0) (c := 40) h hA (by omega) (by omega)
    rw [m227 (d := d + 18) hM0, zb_some, a0, zb_some] at e
    by_cases c1 : ixO (p_R (a_P A)) x = true
    · rw [c1, if_neg (by decide)] at e
      obtain ⟨k, k1, rfl⟩ := ixO_t c1 (by omega)
      have hm : 0 < p_m (a_P A) := by
        rcases Nat.eq_zero_or_pos (p_m (a_P A)) with z | z
        · have := (hA.2.2.2.2.2.2.2.2.2 z).1; omega
        · exact z
      have hca : (decide (0 < p_m (a_P A)) && decide (((0 : Nat) : Int) ≤ y.toInt ∧ y.toInt ≤ ((40 : Nat) : Int) ∧ (q_n (a_s A) : Int) + y.toInt ≤ 999)) = q_ca A y := by rw [decide_eq_true hm]; rfl
      rw [hca] at e
      by_cases c2 : q_ca A y = true
      · obtain ⟨n, n1, rfl, n3⟩ := q_ca_t c2
        rw [c2, if_pos (by decide)] at e
        obtain ⟨S1, b, a1, a2, a3, a4, a5, hM⟩ := m_try (d := d + 18) h hA hm
        have a1' : fV (d + 19) 196 [.ref 396, .int (1 : Int32), .int (0 : Int32)] S = some S1 := a1
        obtain ⟨S2, b1, b2, b3, b4⟩ := m236_l (d := d + 11) (n := n) hA n1 n3 n 0 S1 (by omega) a5 a3
        have b1' : fV (d + 19) 236 [.ref 396, .int (nI n)] S1 = some S2 := (e236 (d + 18) (nI n) S1 a5.W).trans b1
        have s5 := b3.2.2.2.2.1 k (by omega)
        rw [a1', Option.bind_some, b1', Option.bind_some] at e
        have s5' : gI S2 423 (16 + k) = eO (q_s (q_ns (a_P A) n (a_s A)) k) := s5
        simp (disch := omega) only [ni_lit, nI_add, pk_mul, pk_sub, pk_div, nI_leI, nI_ltI, nI_eq, nI_clamp, ni_in, ni_inm, ni_ltm, ni_mlt, ni_lem, ni_mle, ni_eqm, ni_meq, ni_mm, ni_mmle, ni_bit, ni_shl, ni_clr, fa_or, Nat.add_zero, Nat.zero_add, Nat.zero_mul, Nat.mul_zero, eOn, eOs, q_ltt, if_true, s5'] at e
        refine ⟨S2, ?_, (a2.mono fun c k z => by unfold vD kD at z; unfold mScr vD kD; omega).trans b2⟩
        rw [if_pos ⟨c1, c2⟩, nI_toInt (by omega), show ((n : Int)).toNat = n from rfl, nI_toInt (by omega), show ((k : Int)).toNat = k from rfl]
        exact e
      · have c2' : q_ca A y = false := by simpa using c2
        rw [c2', if_neg (by decide)] at e
        rw [if_neg (fun z => c2 z.2)]
        exact ⟨S, e, onM.refl hW⟩
    · have c1' : ixO (p_R (a_P A)) x = false := by simpa using c1
      rw [c1', if_pos (by decide)] at e
      rw [if_neg (fun z => c1 z.1)]
      exact ⟨S, e, onM.refl hW⟩
theorem c120_l {n : Nat} (hA : aOk A) (hn : n ≤ 40) : ∀ (m i : Nat) (S : z_S), i + m = n → cA S A → cSt S 32 16 (q_ns (a_P A) i (a_s A)) → ∃ S', b120_30 (d + 7) (nI n) (nI i) S = some (nI (q_p (q_ns (a_P A) n (a_s A))), S') ∧ onI (fun c k => c < 396 ∧ cScr c k) S S'
  | 0, i, S, hi, h, hs => by
    have e := b120_30_eq (d + 7) (nI n) (nI i) S h.1
    have s1 : gI S 32 1 = nI (q_p (q_ns (a_P A) i (a_s A))) := hs.2.1
    simp (disch := omega) only [ni_lit, nI_add, pk_mul, pk_sub, pk_div, nI_leI, nI_ltI, nI_eq, nI_clamp, ni_in, ni_inm, ni_ltm, ni_mlt, ni_lem, ni_mle, ni_eqm, ni_meq, ni_mm, ni_mmle, ni_bit, ni_shl, ni_clr, fa_or, Nat.add_zero, Nat.zero_add, Nat.zero_mul, Nat.mul_zero, eOn, eOs, if_true, if_false, not_true_eq_false, not_false_eq_true, ite_true, ite_false, true_and, and_true, false_and, and_false, or_true, true_or, or_false, false_or, Bool.false_eq_true, reduceIte, Bool.not_true, Bool.not_false, and_self, or_self, q_ef, q_et, q_ltt, q_ltf, q_let, q_lef, gIs, gIl, gIr, gLs, gLl, gLr, gPs, gPl, gPr, gLc, gPc, zb_some, Option.bind_some, q_nm, q_pm, q_hm, q_tm, q_sm, q_wm, q_ym, q_lm, q_ua, s1] at e
    rw [show i = n by omega] at e ⊢
    exact ⟨S, e, onI.refl h.1⟩
  | m + 1, i, S, hi, h, hs => by
    have e := b120_30_eq (d + 7) (nI n) (nI i) S h.1
    obtain ⟨v, S1, a1, a2, a3, a4⟩ := c_pass (d := d) (b := true) h hA hs (q_ns_G hA.1 hA.2.1 i)
    have a1' : fI (d + 7) 35 [.ref 22, .ref 32, .int (1 : Int32)] S = some (v, S1) := a1
    rw [if_neg (fun z => by have := (nI_leI (by omega) (by omega)).mp z; omega), a1', zb_some, show (1 : Int32) = nI 1 from rfl, nI_add] at e
    obtain ⟨S', b1, b2⟩ := c120_l hA hn m (i + 1) S1 (by omega) a4 a3
    exact ⟨S', e.trans b1, a2.trans b2⟩
theorem t_purse : twoI (d + 20) 120 240 [.int x] A A := by
  refine two_q (if 0 < p_m (a_P A) ∧ q_ca A x = true then nI (q_p (q_ns (a_P A) x.toInt.toNat (a_s A))) else -1) (fun S h hA => ?_) (fun S h hA => ?_)
  · have e := e120 (d + 19) x S h.1
    rw [c151 (d := d + 18) h hA, zb_some, c121 (d := d + 18) h hA, zb_some] at e
    by_cases c1 : 0 < p_m (a_P A)
    · rw [decide_eq_true c1, if_neg (by decide)] at e
      by_cases c2 : q_ca A x = true
      · obtain ⟨n, n1, rfl, n3⟩ := q_ca_t c2
        rw [c2, if_pos (by decide)] at e
        obtain ⟨S1, q1, a1, a2, a3, a4, hH1, hq1⟩ := c_try (d := d + 18) h hA
        rw [a1, Option.bind_some] at e
        obtain ⟨S2, b1, b2⟩ := c120_l (d := d + 12) (n := n) hA n1 n 0 S1 (by omega) a4 a3
        refine ⟨S2, ?_, (a2.mono fun c k z => by unfold pD at z; unfold cScr; omega).trans b2⟩
        rw [if_pos ⟨c1, c2⟩, nI_toInt (by omega), show ((n : Int)).toNat = n from rfl]
        exact e.trans b1
      · have c2' : q_ca A x = false := by simpa using c2
        rw [c2', if_neg (by decide)] at e
        rw [if_neg (fun z => c2 z.2)]
        exact ⟨S, e, onI.refl h.1⟩
    · rw [decide_eq_false c1, if_pos (by decide)] at e
      rw [if_neg (fun z => c1 z.1)]
      exact ⟨S, e, onI.refl h.1⟩
  · have hW := h.W
    have e := e240 (d + 19) x S hW
    have a0 : fI (d + 19) 235 [.ref 396, .int x, .int (0 : Int32), .int (40 : Int32)] S = _ := m235 (d := d + 17) (a := 0) (c := 40) h hA (by omega) (by omega)
    rw [a0, zb_some] at e
    by_cases c1 : 0 < p_m (a_P A)
    · have hca : (decide (0 < p_m (a_P A)) && decide (((0 : Nat) : Int) ≤ x.toInt ∧ x.toInt ≤ ((40 : Nat) : Int) ∧ (q_n (a_s A) : Int) + x.toInt ≤ 999)) = q_ca A x := by rw [decide_eq_true c1]; rfl
      rw [hca] at e
      by_cases c2 : q_ca A x = true
      · obtain ⟨n, n1, rfl, n3⟩ := q_ca_t c2
        rw [c2, if_pos (by decide)] at e
        obtain ⟨S1, b, a1, a2, a3, a4, a5, hM⟩ := m_try (d := d + 18) h hA c1
        have a1' : fV (d + 19) 196 [.ref 396, .int (1 : Int32), .int (0 : Int32)] S = some S1 := a1
        obtain ⟨S2, b1, b2, b3, b4⟩ := m236_l (d := d + 11) (n := n) hA n1 n3 n 0 S1 (by omega) a5 a3
        have b1' : fV (d + 19) 236 [.ref 396, .int (nI n)] S1 = some S2 := (e236 (d + 18) (nI n) S1 a5.W).trans b1
        have s1 : gI S2 421 ((1 : Int32)).toNatClampNeg = nI (q_p (q_ns (a_P A) n (a_s A))) := b3.2.1
        rw [a1', Option.bind_some, b1', Option.bind_some, if_pos (by decide), s1] at e
        refine ⟨S2, ?_, (a2.mono fun c k z => by unfold vD kD at z; unfold mScr vD kD; omega).trans b2⟩
        rw [if_pos ⟨c1, c2⟩, nI_toInt (by omega), show ((n : Int)).toNat = n from rfl]
        exact e
      · have c2' : q_ca A x = false := by simpa using c2
        rw [c2', if_neg (by decide)] at e
        rw [if_neg (fun z => c2 z.2)]
        exact ⟨S, e, onM.refl hW⟩
    · rw [decide_eq_false c1, Bool.false_and, if_neg (by decide)] at e
      rw [if_neg (fun z => c1 z.1)]
      exact ⟨S, e, onM.refl hW⟩
/-- behind how many nights he sleeps: m tries from i on -/
def q_slp (A : q_A) (k : Nat) : Nat → Nat → Int32
  | 0, _ => -1
  | m + 1, i => if q_n (a_s A) + i ≤ 999 then (if q_w (q_ns (a_P A) i (a_s A)) k < 16 then nI i else q_slp A k m (i + 1)) else -1
theorem c119_l {k : Nat} (hA : aOk A) (hk : k < 16) : ∀ (m i : Nat) (S : z_S), i + m = 41 → cA S A → cSt S 32 16 (q_nf (a_P A) (i - 1) (a_s A)) → ∃ S', b119_41 (d + 7) (nI k) (nI i) S = some (q_slp A k m i, S') ∧ onI (fun c k => c < 396 ∧ cScr c k) S S'
  | 0, i, S, hi, h, hs => by
    have e := b119_41_eq (d + 7) (nI k) (nI i) S h.1
    simp (disch := omega) only [ni_lit, nI_add, pk_mul, pk_sub, pk_div, nI_leI, nI_ltI, nI_eq, nI_clamp, ni_in, ni_inm, ni_ltm, ni_mlt, ni_lem, ni_mle, ni_eqm, ni_meq, ni_mm, ni_mmle, ni_bit, ni_shl, ni_clr, fa_or, Nat.add_zero, Nat.zero_add, Nat.zero_mul, Nat.mul_zero, eOn, eOs, if_true, if_false, not_true_eq_false, not_false_eq_true, ite_true, ite_false, true_and, and_true, false_and, and_false, or_true, true_or, or_false, false_or, Bool.false_eq_true, reduceIte, Bool.not_true, Bool.not_false, and_self, or_self, q_ef, q_et, q_ltt, q_ltf, q_let, q_lef, gIs, gIl, gIr, gLs, gLl, gLr, gPs, gPl, gPr, gLc, gPc, zb_some, Option.bind_some, q_nm, q_pm, q_hm, q_tm, q_sm, q_wm, q_ym, q_lm, q_ua] at e
    exact ⟨S, e, onI.refl h.1⟩
  | m + 1, i, S, hi, h, hs => by
    have hn := hA.2.2.1
    have h0 : gI S 27 0 = nI (q_n (a_s A)) := h.s.1
    have e := b119_41_eq (d + 7) (nI k) (nI i) S h.1
    rw [q_slp]
    by_cases c1 : q_n (a_s A) + i ≤ 999
    · rw [if_pos c1]
      have step : ∃ S1, b119_41 (d + 7) (nI k) (nI i) S = b119_79 (d + 7) (nI k) (nI i) S1 ∧ onI (fun c k => c < 396 ∧ cScr c k) S S1 ∧ cSt S1 32 16 (q_nf (a_P A) i (a_s A)) ∧ cA S1 A := by
        by_cases c2 : i = 0
        · subst c2
          simp (disch := omega) only [ni_lit, nI_add, pk_mul, pk_sub, pk_div, nI_leI, nI_ltI, nI_eq, nI_clamp, ni_in, ni_inm, ni_ltm, ni_mlt, ni_lem, ni_mle, ni_eqm, ni_meq, ni_mm, ni_mmle, ni_bit, ni_shl, ni_clr, fa_or, Nat.add_zero, Nat.zero_add, Nat.zero_mul, Nat.mul_zero, eOn, eOs, if_true, if_false, not_true_eq_false, not_false_eq_true, ite_true, ite_false, true_and, and_true, false_and, and_false, or_true, true_or, or_false, false_or, Bool.false_eq_true, reduceIte, Bool.not_true, Bool.not_false, and_self, or_self, q_ef, q_et, q_ltt, q_ltf, q_let, q_lef, gIs, gIl, gIr, gLs, gLl, gLr, gPs, gPl, gPr, gLc, gPc, zb_some, Option.bind_some, q_nm, q_pm, q_hm, q_tm, q_sm, q_wm, q_ym, q_lm, q_ua, h0] at e
          exact ⟨S, e, onI.refl h.1, hs, h⟩
        · obtain ⟨v, S1, a1, a2, a3, a4⟩ := c_pass (d := d) (b := false) h hA hs (q_nf_G hA.1 hA.2.1 _)
          have a1' : fI (d + 7) 35 [.ref 22, .ref 32, .int (nI 0)] S = some (v, S1) := a1
          simp (disch := omega) only [ni_lit, nI_add, pk_mul, pk_sub, pk_div, nI_leI, nI_ltI, nI_eq, nI_clamp, ni_in, ni_inm, ni_ltm, ni_mlt, ni_lem, ni_mle, ni_eqm, ni_meq, ni_mm, ni_mmle, ni_bit, ni_shl, ni_clr, fa_or, Nat.add_zero, Nat.zero_add, Nat.zero_mul, Nat.mul_zero, eOn, eOs, if_true, if_false, not_true_eq_false, not_false_eq_true, ite_true, ite_false, true_and, and_true, false_and, and_false, or_true, true_or, or_false, false_or, Bool.false_eq_true, reduceIte, Bool.not_true, Bool.not_false, and_self, or_self, q_ef, q_et, q_ltt, q_ltf, q_let, q_lef, gIs, gIl, gIr, gLs, gLl, gLr, gPs, gPl, gPr, gLc, gPc, zb_some, Option.bind_some, q_nm, q_pm, q_hm, q_tm, q_sm, q_wm, q_ym, q_lm, q_ua, h0, a1'] at e
          have : q_nt (a_P A) false (q_nf (a_P A) (i - 1) (a_s A)) = q_nf (a_P A) i (a_s A) := by
            obtain ⟨j, rfl⟩ : ∃ j, i = j + 1 := ⟨i - 1, by omega⟩
            rfl
          rw [this] at a3
          exact ⟨S1, e, a2, a3, a4⟩
      obtain ⟨S1, s1, s2, s3, s4⟩ := step
      have hG := q_nf_G hA.1 hA.2.1 i
      have e2 := b119_79_eq (d + 7) (nI k) (nI i) S1 s4.1
      rw [c77 (d := d + 6) s4.1 (by decide +kernel) s3 (hG.Bd hA.1) hk (by omega), zb_some, (q_nf_s (a_P A) (a_s A) i).2] at e2
      by_cases c3 : q_w (q_ns (a_P A) i (a_s A)) k < 16
      · rw [decide_eq_true c3, if_neg (by decide)] at e2
        rw [if_pos c3]
        exact ⟨S1, s1.trans e2, s2⟩
      · rw [decide_eq_false c3, if_pos (by decide), show (1 : Int32) = nI 1 from rfl, nI_add] at e2
        rw [if_neg c3]
        obtain ⟨S2, j1, j2⟩ := c119_l hA hk m (i + 1) S1 (by omega) s4 s3
        exact ⟨S2, (s1.trans e2).trans j1, s2.trans j2⟩
    · rw [if_neg c1]
      simp (disch := omega) only [ni_lit, nI_add, pk_mul, pk_sub, pk_div, nI_leI, nI_ltI, nI_eq, nI_clamp, ni_in, ni_inm, ni_ltm, ni_mlt, ni_lem, ni_mle, ni_eqm, ni_meq, ni_mm, ni_mmle, ni_bit, ni_shl, ni_clr, fa_or, Nat.add_zero, Nat.zero_add, Nat.zero_mul, Nat.mul_zero, eOn, eOs, if_true, if_false, not_true_eq_false, not_false_eq_true, ite_true, ite_false, true_and, and_true, false_and, and_false, or_true, true_or, or_false, false_or, Bool.false_eq_true, reduceIte, Bool.not_true, Bool.not_false, and_self, or_self, q_ef, q_et, q_ltt, q_ltf, q_let, q_lef, gIs, gIl, gIr, gLs, gLl, gLr, gPs, gPl, gPr, gLc, gPc, zb_some, Option.bind_some, q_nm, q_pm, q_hm, q_tm, q_sm, q_wm, q_ym, q_lm, q_ua, h0] at e
      exact ⟨S, e, onI.refl h.1⟩
theorem m239_l {k : Nat} (hA : aOk A) (hk : k < 16) (hm0 : 0 < p_m (a_P A)) : ∀ (m i : Nat) (S : z_S), i + m = 41 → mA S A → mSt S 1 (q_setn (q_ns (a_P A) i (a_s A)) (q_n (a_s A) + i)) ∨ 999 < q_n (a_s A) + i → ∃ S', b239_18 (d + 7) (nI k) (nI i) S = some (q_slp A k m i, S') ∧ onM (fun c k => 396 ≤ c ∧ mScr c k) S S'
  | 0, i, S, hi, h, hs => by
    have e := b239_18_eq (d + 7) (nI k) (nI i) S h.W
    have a0 : fI (d + 7) 235 [.ref 396, .int (nI i), .int (0 : Int32), .int (40 : Int32)] S = _ := m235 (d := d + 5) (a := 0) (c := 40) h hA (by omega) (by omega)
    rw [nI_toInt (by omega)] at a0
    rw [a0, zb_some, decide_eq_false (p := ((0 : Nat) : Int) ≤ (i : Int) ∧ _) (by omega), Bool.and_false, if_pos (by decide)] at e
    exact ⟨S, e, onM.refl h.W⟩
  | m + 1, i, S, hi, h, hs => by
    have e := b239_18_eq (d + 7) (nI k) (nI i) S h.W
    have a0 : fI (d + 7) 235 [.ref 396, .int (nI i), .int (0 : Int32), .int (40 : Int32)] S = _ := m235 (d := d + 5) (a := 0) (c := 40) h hA (by omega) (by omega)
    rw [nI_toInt (by omega)] at a0
    rw [q_slp]
    by_cases c1 : q_n (a_s A) + i ≤ 999
    · rw [if_pos c1]
      rw [a0, zb_some, decide_eq_true (p := ((0 : Nat) : Int) ≤ (i : Int) ∧ _) (by omega), decide_eq_true hm0, if_neg (by decide)] at e
      have hs' : mSt S 1 (q_ns (a_P A) i (a_s A)) := by
        rcases hs with z | z
        · rw [q_setn_id (q_ns_n _ _ _ c1)] at z; exact z
        · omega
      obtain ⟨b, hM⟩ := h.2.1
      have hG := q_ns_G hA.1 hA.2.1 i
      have a1 : fI (d + 7) 213 [.ref 396, .int (1 : Int32), .int (nI k)] S = _ := m213 (d := d + 6) (v := 1) hM (by omega) hs' hG hk
      rw [a1, zb_some] at e
      by_cases c3 : q_w (q_ns (a_P A) i (a_s A)) k < 16
      · have hr : q_rm (q_ns (a_P A) i (a_s A)) k = some (q_w (q_ns (a_P A) i (a_s A)) k) := by unfold q_rm; rw [if_pos c3]
        rw [hr, if_neg (show ¬ eO (some _) = -1 from fun z => (ni_eqm (by omega)).mp z)] at e
        rw [if_pos c3]
        exact ⟨S, e, onM.refl h.W⟩
      · have hr : q_rm (q_ns (a_P A) i (a_s A)) k = none := by unfold q_rm; rw [if_neg c3]
        obtain ⟨v, S1, a1, a2, a3, a4⟩ := m_pass (d := d) h hA hs' hG
        have a1' : fI (d + 7) 226 [.ref 396, .int (1 : Int32)] S = some (v, S1) := a1
        rw [hr, if_pos (by decide), a1', zb_some, show (1 : Int32) = nI 1 from rfl, nI_add] at e
        rw [if_neg c3]
        rw [q_ns_n _ _ _ c1] at a3
        obtain ⟨S2, j1, j2⟩ := m239_l hA hk hm0 m (i + 1) S1 (by omega) a4 (by
          left
          exact a3)
        exact ⟨S2, e.trans j1, a2.trans j2⟩
    · rw [if_neg c1]
      rw [a0, zb_some, decide_eq_false (p := ((0 : Nat) : Int) ≤ (i : Int) ∧ _) (by omega), Bool.and_false, if_pos (by decide)] at e
      exact ⟨S, e, onM.refl h.W⟩
theorem q_slp_no {k : Nat} (hA : aOk A) (h : q_w (a_s A) k = 255) : ∀ m i, q_slp A k m i = -1
  | 0, i => rfl
  | m + 1, i => by
    rw [q_slp]
    split
    · rw [if_neg (by rw [q_ns_w hA.1 hA.2.1 h i]; omega)]
      exact q_slp_no hA h m (i + 1)
    · rfl
theorem t_sleeps : twoI (d + 20) 119 239 [.int x] A A := by
  refine two_q (if ixO (p_L (a_P A)) x = true then q_slp A x.toInt.toNat 41 0 else -1) (fun S h hA => ?_) (fun S h hA => ?_)
  · obtain ⟨q, hH, hq⟩ := h.H hA
    have hL := hA.1.2.2.2.2.1
    have e := e119 (d + 19) x S h.1
    rw [hq, c59x (d := d + 18) hH.1 hH.2.1 hH.2.2.2.1 hA.1, zb_some] at e
    by_cases c1 : ixO (p_L (a_P A)) x = true
    · obtain ⟨k, k1, rfl⟩ := ixO_t c1 (by omega)
      have hw2 := (hA.2.1.Bd hA.1).2.2.2.2.2.2.1 k
      have g3 : gI S 29 k = nI (q_w (a_s A) k) := h.s.2.2.2.2.2.2.1 k (by omega) (by omega)
      rw [c1, if_neg (by decide)] at e
      rw [if_pos c1, nI_toInt (by omega), show ((k : Int)).toNat = k from rfl]
      by_cases c2 : q_w (a_s A) k = 255
      · simp (disch := omega) only [ni_lit, nI_add, pk_mul, pk_sub, pk_div, nI_leI, nI_ltI, nI_eq, nI_clamp, ni_in, ni_inm, ni_ltm, ni_mlt, ni_lem, ni_mle, ni_eqm, ni_meq, ni_mm, ni_mmle, ni_bit, ni_shl, ni_clr, fa_or, Nat.add_zero, Nat.zero_add, Nat.zero_mul, Nat.mul_zero, eOn, eOs, if_true, if_false, not_true_eq_false, not_false_eq_true, ite_true, ite_false, true_and, and_true, false_and, and_false, or_true, true_or, or_false, false_or, Bool.false_eq_true, reduceIte, Bool.not_true, Bool.not_false, and_self, or_self, q_ef, q_et, q_ltt, q_ltf, q_let, q_lef, g3] at e
        rw [q_slp_no hA c2]
        exact ⟨S, e, onI.refl h.1⟩
      · simp (disch := omega) only [ni_lit, nI_add, pk_mul, pk_sub, pk_div, nI_leI, nI_ltI, nI_eq, nI_clamp, ni_in, ni_inm, ni_ltm, ni_mlt, ni_lem, ni_mle, ni_eqm, ni_meq, ni_mm, ni_mmle, ni_bit, ni_shl, ni_clr, fa_or, Nat.add_zero, Nat.zero_add, Nat.zero_mul, Nat.mul_zero, eOn, eOs, if_true, if_false, not_true_eq_false, not_false_eq_true, ite_true, ite_false, true_and, and_true, false_and, and_false, or_true, true_or, or_false, false_or, Bool.false_eq_true, reduceIte, Bool.not_true, Bool.not_false, and_self, or_self, q_ef, q_et, q_ltt, q_ltf, q_let, q_lef, g3] at e
        obtain ⟨S1, q1, a1, a2, a3, a4, hH1, hq1⟩ := c_try (d := d + 18) h hA
        rw [a1, Option.bind_some] at e
        obtain ⟨S2, b1, b2⟩ := c119_l (d := d + 12) (k := k) hA (by omega) 41 0 S1 (by omega) a4 a3
        exact ⟨S2, e.trans b1, (a2.mono fun c k z => by unfold pD at z; unfold cScr; omega).trans b2⟩
    · have c1' : ixO (p_L (a_P A)) x = false := by simpa using c1
      rw [c1', if_pos (by decide)] at e
      rw [if_neg c1]
      exact ⟨S, e, onI.refl h.1⟩
  · have hW := h.W
    obtain ⟨b0, hM0⟩ := h.2.1
    have hL := hA.1.2.2.2.2.1
    have e := e239 (d + 19) x S hW
    rw [m228 (d := d + 18) hM0, zb_some] at e
    by_cases c1 : ixO (p_L (a_P A)) x = true
    · obtain ⟨k, k1, rfl⟩ := ixO_t c1 (by omega)
      have hm : 0 < p_m (a_P A) := by
        rcases Nat.eq_zero_or_pos (p_m (a_P A)) with z | z
        · have := (hA.2.2.2.2.2.2.2.2.2 z).2.2.2.1; omega
        · exact z
      rw [c1, if_pos (by decide)] at e
      rw [if_pos c1, nI_toInt (by omega), show ((k : Int)).toNat = k from rfl]
      obtain ⟨S1, b, a1, a2, a3, a4, a5, hM⟩ := m_try (d := d + 18) h hA hm
      have a1' : fV (d + 19) 196 [.ref 396, .int (1 : Int32), .int (0 : Int32)] S = some S1 := a1
      rw [a1', Option.bind_some] at e
      obtain ⟨S2, b1, b2⟩ := m239_l (d := d + 12) (k := k) hA (by omega) hm 41 0 S1 (by omega) a5 (Or.inl a3)
      exact ⟨S2, e.trans b1, (a2.mono fun c k z => by unfold vD kD at z; unfold mScr vD kD; omega).trans b2⟩
    · have c1' : ixO (p_L (a_P A)) x = false := by simpa using c1
      rw [c1', if_neg (by decide)] at e
      rw [if_neg c1]
      exact ⟨S, e, onM.refl hW⟩
end TF
