/-! SMALL PIECES of both: what is a room, a lodger, ahead; copies of layers; keeping for undo. -/
def ixO (n : Nat) (x : Int32) : Bool := decide (0 ≤ x.toInt ∧ x.toInt < n)
theorem ixO_n {n k : Nat} (hk : k < n) (hn : n < 2147483648) : ixO n (nI k) = true := decide_eq_true (by rw [nI_toInt (by omega)]; omega)
theorem ixO_t {n : Nat} {x : Int32} (h : ixO n x = true) (hn : n < 2147483648) : ∃ k, k < n ∧ x = nI k := by
  have h1 := of_decide_eq_true h
  refine ⟨x.toInt.toNat, by omega, ?_⟩
  rw [fa_eq, nI_toInt (by omega)]
  omega
theorem ixO_b {n : Nat} {x : Int32} {b : Bool} (hn : n < 2147483648) (h : b = true ↔ ∃ r, r < n ∧ x = nI r) : b = ixO n x := by
  cases hb : ixO n x with
  | true => exact h.mpr (ixO_t hb hn)
  | false =>
    cases b with
    | false => rfl
    | true =>
      obtain ⟨r, h1, h2⟩ := h.mp rfl
      rw [h2, ixO_n h1 hn] at hb
      cases hb
theorem x_lt0 {x : Int32} : x < 0 ↔ x.toInt < 0 := by rw [fa_lt]; exact Iff.rfl
section PA
variable {d : Nat} {S : z_S} {A : q_A}
theorem c58x {q : Nat} {P : q_Pl} {x : Int32} (hW : z_W S) (hq : z_K q = 6) (h : cPl S q P) (hP : p_Wf P) : fI (d + 1) 58 [.ref q, .int x] S = some (bI (ixO (p_R P) x), S) := by
  obtain ⟨b, h1, h2⟩ := c58 (d := d) (x := x) hW hq h hP
  have hR := hP.1
  rw [h1, ixO_b (by omega) h2]
theorem c59x {q : Nat} {P : q_Pl} {x : Int32} (hW : z_W S) (hq : z_K q = 6) (h : cPl S q P) (hP : p_Wf P) : fI (d + 1) 59 [.ref q, .int x] S = some (bI (ixO (p_L P) x), S) := by
  obtain ⟨b, h1, h2⟩ := c59 (d := d) (x := x) hW hq h hP
  have hR := hP.2.2.2.2.1
  rw [h1, ixO_b (by omega) h2]
theorem zK2 {q : Nat} (h : q = 2 ∨ q = 10) : z_K q = 6 := by
  rcases h with h | h <;> subst h <;> decide +kernel
theorem cA.H (h : cA S A) (hA : aOk A) : ∃ q, cH S q (a_P A) ∧ gP S 0 2 = q := by
  obtain ⟨h1, h2, ⟨q, k1, k2, k3, k4, k5⟩, _⟩ := h
  exact ⟨q, ⟨h1, zK2 k1, k3, k5, hA.1⟩, k2⟩
theorem cA.s (h : cA S A) : cSt S 27 16 (a_s A) := h.2.2.2.1
/-- a lodger who is away -/
def q_aw (A : q_A) (x : Int32) : Bool := ixO (p_L (a_P A)) x && decide (q_w (a_s A) x.toInt.toNat = 255)
theorem q_aw_t {A : q_A} {x : Int32} (hA : aOk A) (h : q_aw A x = true) : ∃ k, k < p_L (a_P A) ∧ x = nI k ∧ q_w (a_s A) k = 255 := by
  unfold q_aw at h
  rw [Bool.and_eq_true] at h
  have hL := hA.1.2.2.2.2.1
  obtain ⟨k, h1, h2⟩ := ixO_t h.1 (by omega)
  refine ⟨k, h1, h2, ?_⟩
  have := of_decide_eq_true h.2
  rw [h2, nI_toInt (by omega)] at this
  simpa using this
theorem c152 {x : Int32} (h : cA S A) (hA : aOk A) : fI (d + 2) 152 [.ref 0, .int x] S = some (bI (q_aw A x), S) := by
  obtain ⟨q, hH, hq⟩ := h.H hA
  have e := e152 (d + 1) x S h.1
  have hL := hA.1.2.2.2.2.1
  rw [hq, c59x hH.1 hH.2.1 hH.2.2.2.1 hA.1, zb_some] at e
  unfold q_aw
  cases hx : ixO (p_L (a_P A)) x with
  | false =>
    rw [hx, if_pos (by decide), b152_30_eq (d + 1) S h.1] at e
    exact e
  | true =>
    obtain ⟨k, h1, h2⟩ := ixO_t hx (by omega)
    have hw := h.s.2.2.2.2.2.2.1 k (by omega) (by omega)
    have hw2 := (hA.2.1.Bd hA.1).2.2.2.2.2.2.1 k
    rw [hx, if_neg (by decide), h2] at e
    have hw' : gI S 29 k = nI (q_w (a_s A) k) := hw
    rw [h2, nI_toInt (by omega), show ((k : Int)).toNat = k from rfl, Bool.true_and]
    by_cases c : q_w (a_s A) k = 255
    · simp (disch := omega) only [ni_lit, nI_add, pk_mul, pk_sub, pk_div, nI_leI, nI_ltI, nI_eq, nI_clamp, ni_in, ni_inm, ni_ltm, ni_mlt, ni_lem, ni_mle, ni_eqm, ni_meq, ni_mm, ni_mmle, ni_bit, ni_shl, ni_clr, fa_or, Nat.add_zero, Nat.zero_add, Nat.zero_mul, Nat.mul_zero, eOn, eOs, if_true, if_false, not_true_eq_false, not_false_eq_true, ite_true, ite_false, true_and, and_true, false_and, and_false, or_true, true_or, or_false, false_or, Bool.false_eq_true, reduceIte, Bool.not_true, Bool.not_false, and_self, or_self, q_ef, q_et, q_ltt, q_ltf, q_let, q_lef, gIs, gIl, gIr, gLs, gLl, gLr, gPs, gPl, gPr, gLc, gPc, zb_some, Option.bind_some, q_nm, q_pm, q_hm, q_tm, q_sm, q_wm, q_ym, q_lm, q_ua, hw', b152_30_eq (d + 1) S h.1] at e
      rw [decide_eq_true c]; exact e
    · simp (disch := omega) only [ni_lit, nI_add, pk_mul, pk_sub, pk_div, nI_leI, nI_ltI, nI_eq, nI_clamp, ni_in, ni_inm, ni_ltm, ni_mlt, ni_lem, ni_mle, ni_eqm, ni_meq, ni_mm, ni_mmle, ni_bit, ni_shl, ni_clr, fa_or, Nat.add_zero, Nat.zero_add, Nat.zero_mul, Nat.mul_zero, eOn, eOs, if_true, if_false, not_true_eq_false, not_false_eq_true, ite_true, ite_false, true_and, and_true, false_and, and_false, or_true, true_or, or_false, false_or, Bool.false_eq_true, reduceIte, Bool.not_true, Bool.not_false, and_self, or_self, q_ef, q_et, q_ltt, q_ltf, q_let, q_lef, gIs, gIl, gIr, gLs, gLl, gLr, gPs, gPl, gPr, gLc, gPc, zb_some, Option.bind_some, q_nm, q_pm, q_hm, q_tm, q_sm, q_wm, q_ym, q_lm, q_ua, hw', b152_30_eq (d + 1) S h.1] at e
      rw [decide_eq_false c]; exact e
theorem c151 (h : cA S A) (hA : aOk A) : fI (d + 1) 151 [.ref 0] S = some (bI (decide (0 < p_m (a_P A))), S) := by
  obtain ⟨q, hH, hq⟩ := h.H hA
  have e := e151 d S h.1
  have hm := hA.1.2.2.2.2.2.1
  rw [hq, hH.2.2.2.1.1] at e
  by_cases c : 0 < p_m (a_P A)
  · simp (disch := omega) only [ni_lit, nI_add, pk_mul, pk_sub, pk_div, nI_leI, nI_ltI, nI_eq, nI_clamp, ni_in, ni_inm, ni_ltm, ni_mlt, ni_lem, ni_mle, ni_eqm, ni_meq, ni_mm, ni_mmle, ni_bit, ni_shl, ni_clr, fa_or, Nat.add_zero, Nat.zero_add, Nat.zero_mul, Nat.mul_zero, eOn, eOs, if_true, if_false, not_true_eq_false, not_false_eq_true, ite_true, ite_false, true_and, and_true, false_and, and_false, or_true, true_or, or_false, false_or, Bool.false_eq_true, reduceIte, Bool.not_true, Bool.not_false, and_self, or_self, q_ef, q_et, q_ltt, q_ltf, q_let, q_lef, gIs, gIl, gIr, gLs, gLl, gLr, gPs, gPl, gPr, gLc, gPc, zb_some, Option.bind_some, q_nm, q_pm, q_hm, q_tm, q_sm, q_wm, q_ym, q_lm, q_ua] at e
    rw [decide_eq_true c]; exact e
  · simp (disch := omega) only [ni_lit, nI_add, pk_mul, pk_sub, pk_div, nI_leI, nI_ltI, nI_eq, nI_clamp, ni_in, ni_inm, ni_ltm, ni_mlt, ni_lem, ni_mle, ni_eqm, ni_meq, ni_mm, ni_mmle, ni_bit, ni_shl, ni_clr, fa_or, Nat.add_zero, Nat.zero_add, Nat.zero_mul, Nat.mul_zero, eOn, eOs, if_true, if_false, not_true_eq_false, not_false_eq_true, ite_true, ite_false, true_and, and_true, false_and, and_false, or_true, true_or, or_false, false_or, Bool.false_eq_true, reduceIte, Bool.not_true, Bool.not_false, and_self, or_self, q_ef, q_et, q_ltt, q_ltf, q_let, q_lef, gIs, gIl, gIr, gLs, gLl, gLr, gPs, gPl, gPr, gLc, gPc, zb_some, Option.bind_some, q_nm, q_pm, q_hm, q_tm, q_sm, q_wm, q_ym, q_lm, q_ua] at e
    rw [decide_eq_false c]; exact e
/-- so many nights can be ahead -/
def q_ca (A : q_A) (x : Int32) : Bool := decide (0 ≤ x.toInt ∧ x.toInt ≤ 40 ∧ (q_n (a_s A) : Int) + x.toInt ≤ 999)
theorem q_ca_t {A : q_A} {x : Int32} (h : q_ca A x = true) : ∃ n, n ≤ 40 ∧ x = nI n ∧ q_n (a_s A) + n ≤ 999 := by
  have h1 := of_decide_eq_true h
  refine ⟨x.toInt.toNat, by omega, ?_, by omega⟩
  rw [fa_eq, nI_toInt (by omega)]
  omega
theorem c121 {x : Int32} (h : cA S A) (hA : aOk A) : fI (d + 1) 121 [.ref 0, .int x] S = some (bI (q_ca A x), S) := by
  have e := e121 d x S h.1
  have hn := hA.2.2.1
  have h0 : gI S 27 0 = nI (q_n (a_s A)) := h.s.1
  have hx := fb_rng x
  rw [h0, b121_29_eq d S h.1] at e
  unfold q_ca
  by_cases c1 : x < 0
  · rw [if_pos c1] at e
    rw [fa_lt] at c1
    rw [decide_eq_false (fun z => by have := z.1; have : (0 : Int32).toInt = 0 := rfl; omega)]
    exact e
  · rw [if_neg c1] at e
    obtain ⟨j, hj, rfl⟩ := nI_of c1
    rw [nI_toInt (by omega)]
    by_cases c2 : 40 < j
    · simp (disch := omega) only [ni_lit, nI_add, pk_mul, pk_sub, pk_div, nI_leI, nI_ltI, nI_eq, nI_clamp, ni_in, ni_inm, ni_ltm, ni_mlt, ni_lem, ni_mle, ni_eqm, ni_meq, ni_mm, ni_mmle, ni_bit, ni_shl, ni_clr, fa_or, Nat.add_zero, Nat.zero_add, Nat.zero_mul, Nat.mul_zero, eOn, eOs, if_true, if_false, not_true_eq_false, not_false_eq_true, ite_true, ite_false, true_and, and_true, false_and, and_false, or_true, true_or, or_false, false_or, Bool.false_eq_true, reduceIte, Bool.not_true, Bool.not_false, and_self, or_self, q_ef, q_et, q_ltt, q_ltf, q_let, q_lef, gIs, gIl, gIr, gLs, gLl, gLr, gPs, gPl, gPr, gLc, gPc, zb_some, Option.bind_some, q_nm, q_pm, q_hm, q_tm, q_sm, q_wm, q_ym, q_lm, q_ua] at e
      rw [decide_eq_false (by omega)]; exact e
    · by_cases c3 : q_n (a_s A) + j ≤ 999
      · simp (disch := omega) only [ni_lit, nI_add, pk_mul, pk_sub, pk_div, nI_leI, nI_ltI, nI_eq, nI_clamp, ni_in, ni_inm, ni_ltm, ni_mlt, ni_lem, ni_mle, ni_eqm, ni_meq, ni_mm, ni_mmle, ni_bit, ni_shl, ni_clr, fa_or, Nat.add_zero, Nat.zero_add, Nat.zero_mul, Nat.mul_zero, eOn, eOs, if_true, if_false, not_true_eq_false, not_false_eq_true, ite_true, ite_false, true_and, and_true, false_and, and_false, or_true, true_or, or_false, false_or, Bool.false_eq_true, reduceIte, Bool.not_true, Bool.not_false, and_self, or_self, q_ef, q_et, q_ltt, q_ltf, q_let, q_lef, gIs, gIl, gIr, gLs, gLl, gLr, gPs, gPl, gPr, gLc, gPc, zb_some, Option.bind_some, q_nm, q_pm, q_hm, q_tm, q_sm, q_wm, q_ym, q_lm, q_ua] at e
        rw [decide_eq_true (by omega)]; exact e
      · simp (disch := omega) only [ni_lit, nI_add, pk_mul, pk_sub, pk_div, nI_leI, nI_ltI, nI_eq, nI_clamp, ni_in, ni_inm, ni_ltm, ni_mlt, ni_lem, ni_mle, ni_eqm, ni_meq, ni_mm, ni_mmle, ni_bit, ni_shl, ni_clr, fa_or, Nat.add_zero, Nat.zero_add, Nat.zero_mul, Nat.mul_zero, eOn, eOs, if_true, if_false, not_true_eq_false, not_false_eq_true, ite_true, ite_false, true_and, and_true, false_and, and_false, or_true, true_or, or_false, false_or, Bool.false_eq_true, reduceIte, Bool.not_true, Bool.not_false, and_self, or_self, q_ef, q_et, q_ltt, q_ltf, q_let, q_lef, gIs, gIl, gIr, gLs, gLl, gLr, gPs, gPl, gPr, gLc, gPc, zb_some, Option.bind_some, q_nm, q_pm, q_hm, q_tm, q_sm, q_wm, q_ym, q_lm, q_ua] at e
        rw [decide_eq_false (by omega)]; exact e
theorem c140 {x : Int32} (h : cA S A) (hA : aOk A) : fI (d + 2) 140 [.ref 0, .int x] S = some (bI (decide (0 < p_m (a_P A)) && decide (1 ≤ x.toInt) && q_ca A x), S) := by
  have e := e140 (d + 1) x S h.1
  rw [c151 h hA, zb_some, c121 h hA, zb_some] at e
  simp only [b140_24_eq (d + 1) S h.1] at e
  rw [e]
  by_cases c1 : 0 < p_m (a_P A)
  · rw [decide_eq_true c1, if_neg (by decide), Bool.true_and]
    by_cases c2 : x < 1
    · rw [if_pos c2]
      rw [fa_lt] at c2
      have : (1 : Int32).toInt = 1 := rfl
      rw [decide_eq_false (by omega)]; rfl
    · rw [if_neg c2]
      rw [fa_lt] at c2
      have : (1 : Int32).toInt = 1 := rfl
      rw [decide_eq_true (by omega), Bool.true_and]
      cases q_ca A x
      · rfl
      · rfl
  · rw [decide_eq_false c1, if_pos (by decide)]; rfl
theorem c150 {j : Nat} {rf : Nat → Nat} (hW : z_W S) (hr : xRf S 395 rf) (hj : j < 6) : fI (d + 1) 150 [.ref 0, .int (nI j)] S = some (-nI 1, sI S 395 j (nI (rf j + 1))) := by
  have e := e150 d (nI j) S hW
  simp (disch := omega) only [ni_lit, nI_add, pk_mul, pk_sub, pk_div, nI_leI, nI_ltI, nI_eq, nI_clamp, ni_in, ni_inm, ni_ltm, ni_mlt, ni_lem, ni_mle, ni_eqm, ni_meq, ni_mm, ni_mmle, ni_bit, ni_shl, ni_clr, fa_or, Nat.add_zero, Nat.zero_add, Nat.zero_mul, Nat.mul_zero, eOn, eOs, if_true, if_false, not_true_eq_false, not_false_eq_true, ite_true, ite_false, true_and, and_true, false_and, and_false, or_true, true_or, or_false, false_or, Bool.false_eq_true, reduceIte, Bool.not_true, Bool.not_false, and_self, or_self, q_ef, q_et, q_ltt, q_ltf, q_let, q_lef, gIs, gIl, gIr, gLs, gLl, gLr, gPs, gPl, gPr, gLc, gPc, zb_some, Option.bind_some, q_nm, q_pm, q_hm, q_tm, q_sm, q_wm, q_ym, q_lm, q_ua, hr j hj] at e
  exact e
theorem xRf.up {c j : Nat} {rf : Nat → Nat} (hr : xRf S c rf) : xRf (sI S c j (nI (rf j + 1))) c (q_u rf j (rf j + 1)) := fun i hi => by
  by_cases z : i = j
  · simp (disch := omega) only [ni_lit, nI_add, pk_mul, pk_sub, pk_div, nI_leI, nI_ltI, nI_eq, nI_clamp, ni_in, ni_inm, ni_ltm, ni_mlt, ni_lem, ni_mle, ni_eqm, ni_meq, ni_mm, ni_mmle, ni_bit, ni_shl, ni_clr, fa_or, Nat.add_zero, Nat.zero_add, Nat.zero_mul, Nat.mul_zero, eOn, eOs, if_true, if_false, not_true_eq_false, not_false_eq_true, ite_true, ite_false, true_and, and_true, false_and, and_false, or_true, true_or, or_false, false_or, Bool.false_eq_true, reduceIte, Bool.not_true, Bool.not_false, and_self, or_self, q_ef, q_et, q_ltt, q_ltf, q_let, q_lef, gIs, gIl, gIr, gLs, gLl, gLr, gPs, gPl, gPr, gLc, gPc, zb_some, Option.bind_some, q_nm, q_pm, q_hm, q_tm, q_sm, q_wm, q_ym, q_lm, q_ua]
  · simp (disch := omega) only [ni_lit, nI_add, pk_mul, pk_sub, pk_div, nI_leI, nI_ltI, nI_eq, nI_clamp, ni_in, ni_inm, ni_ltm, ni_mlt, ni_lem, ni_mle, ni_eqm, ni_meq, ni_mm, ni_mmle, ni_bit, ni_shl, ni_clr, fa_or, Nat.add_zero, Nat.zero_add, Nat.zero_mul, Nat.mul_zero, eOn, eOs, if_true, if_false, not_true_eq_false, not_false_eq_true, ite_true, ite_false, true_and, and_true, false_and, and_false, or_true, true_or, or_false, false_or, Bool.false_eq_true, reduceIte, Bool.not_true, Bool.not_false, and_self, or_self, q_ef, q_et, q_ltt, q_ltf, q_let, q_lef, gIs, gIl, gIr, gLs, gLl, gLr, gPs, gPl, gPr, gLc, gPc, zb_some, Option.bind_some, q_nm, q_pm, q_hm, q_tm, q_sm, q_wm, q_ym, q_lm, q_ua]; exact hr i hi
/-- one refusal more -/
def a_ref (A : q_A) (j : Nat) : q_A := (a_tp A, a_P A, a_s A, a_kl A, a_ud A, a_mt A, a_sd A, a_ft A, q_u (a_rf A) j (a_rf A j + 1), a_im A)
theorem aOk.ref {j : Nat} (h : aOk A) : aOk (a_ref A j) := h
theorem cA.ref {j : Nat} (h : cA S A) : cA (sI S 395 j (nI (a_rf A j + 1))) (a_ref A j) := by
  obtain ⟨h1, h2, ⟨q, k1, k2, k3, k4, k5⟩, h4, h5, h6, h7, h8, h9, h10, h11⟩ := h
  have ho : onI (fun c _ => c = 395) S (sI S 395 j (nI (a_rf A j + 1))) := onI_sI (D := fun c _ => c = 395) (c := 395) (onI.refl h1) rfl
  exact ⟨h1, h2.ag (ho.ag fun c k z => by omega), ⟨q, k1, k2, k3, k4, k5.ag (ho.ag fun c k z => by omega)⟩, h4.ag (ho.ag fun c k z => by unfold pD at z; omega), h5.ag (ho.ag fun c k z => by omega), h6.ag (ho.ag fun c k z => by omega), h7.ag (ho.ag fun c k z => by omega), h8.ag (ho.ag fun c k z => by omega), h9.up, h10.ag (ho.ag fun c k z => by omega), h11.ag (ho.ag fun c k z => by omega)⟩
theorem m155 {x : Int32} {a b : Nat} (hW : z_W S) (ha : a < 2147483648) (hb : b < 2147483648) : fI (d + 1) 155 [.int x, .int (nI a), .int (nI b)] S = some (bI (decide ((a : Int) ≤ x.toInt ∧ x.toInt ≤ b)), S) := by
  have e := e155 d x (nI a) (nI b) S hW
  simp only [b155_14_eq d S hW, fa_lt, nI_toInt ha, nI_toInt hb] at e
  rw [e]
  by_cases c1 : x.toInt < a
  · rw [if_pos c1, decide_eq_false (by omega)]; rfl
  · rw [if_neg c1]
    by_cases c2 : (b : Int) < x.toInt
    · rw [if_pos c2, decide_eq_false (by omega)]; rfl
    · rw [if_neg c2, decide_eq_true (by omega)]; rfl
theorem m194 {j : Nat} {rf : Nat → Nat} (hW : z_W S) (hr : xRf S 419 rf) (hj : j < 6) : fI (d + 1) 194 [.ref 396, .int (nI j)] S = some (-nI 1, sI S 419 j (nI (rf j + 1))) := by
  have e := e194 d (nI j) S hW
  simp (disch := omega) only [ni_lit, nI_add, pk_mul, pk_sub, pk_div, nI_leI, nI_ltI, nI_eq, nI_clamp, ni_in, ni_inm, ni_ltm, ni_mlt, ni_lem, ni_mle, ni_eqm, ni_meq, ni_mm, ni_mmle, ni_bit, ni_shl, ni_clr, fa_or, Nat.add_zero, Nat.zero_add, Nat.zero_mul, Nat.mul_zero, eOn, eOs, if_true, if_false, not_true_eq_false, not_false_eq_true, ite_true, ite_false, true_and, and_true, false_and, and_false, or_true, true_or, or_false, false_or, Bool.false_eq_true, reduceIte, Bool.not_true, Bool.not_false, and_self, or_self, q_ef, q_et, q_ltt, q_ltf, q_let, q_lef, gIs, gIl, gIr, gLs, gLl, gLr, gPs, gPl, gPr, gLc, gPc, zb_some, Option.bind_some, q_nm, q_pm, q_hm, q_tm, q_sm, q_wm, q_ym, q_lm, q_ua, hr j hj] at e
  exact e
theorem mA.W (h : mA S A) : z_W S := by
  obtain ⟨_, ⟨b, hb⟩, _⟩ := h
  exact hb.1
theorem mA.ref {j : Nat} (h : mA S A) (hA : aOk A) : mA (sI S 419 j (nI (a_rf A j + 1))) (a_ref A j) := by
  have hW := h.W
  obtain ⟨h1, ⟨b, h2⟩, h3, h4, h5, h6, h7, h8, h9, h10, h11⟩ := h
  have ho : onM (fun c _ => c = 419) S (sI S 419 j (nI (a_rf A j + 1))) := onM_sI (D := fun c _ => c = 419) (c := 419) (onM.refl hW) rfl
  have hP := hA.1
  refine ⟨h1.ag (ho.ag fun c k z => by omega), ⟨b, h2.on ho (fun c k z w => by omega)⟩, by rw [ho.I (by omega)]; exact h3, by rw [ho.I (by omega)]; exact h4, h5.ag (hA.2.1.Bd hP).2.2.1 (ho.ag fun c k z => by unfold vD at z; omega), h6.ag (ho.ag fun c k z => by unfold kD at z; omega), h7.ag (fun u hu => ((hA.2.2.2.2.1 u hu).1.Bd hP).2.2.1) (ho.ag fun c k z => ?_), h8.ag (ho.ag fun c k z => by omega), ⟨by rw [ho.L (by omega)]; exact h9.1, by rw [ho.I (by omega)]; exact h9.2.1, by rw [ho.I (by omega)]; exact h9.2.2⟩, h10.up, h11.ag (ho.ag fun c k z => by omega)⟩
  rcases z with z | ⟨v, z1, z2⟩
  · omega
  · unfold vD kD at z2; omega
theorem m227 {b : Nat} {P : q_Pl} {x : Int32} (hM : cM S b P) : fI (d + 1) 227 [.ref 396, .int x] S = some (bI (ixO (p_R P) x), S) := by
  obtain ⟨hW, hb, hbk, hC, hP⟩ := hM
  have hR := hP.1
  have e := e227 d x S hW
  unfold ixO
  by_cases c1 : x < 0
  · rw [if_pos c1, b227_21_eq d S hW] at e
    rw [x_lt0] at c1
    rw [decide_eq_false (by omega)]; exact e
  · rw [if_neg c1] at e
    obtain ⟨j, hj, rfl⟩ := nI_of c1
    rw [nI_toInt (by omega)]
    by_cases c2 : p_R P ≤ j
    · simp (disch := omega) only [ni_lit, nI_add, pk_mul, pk_sub, pk_div, nI_leI, nI_ltI, nI_eq, nI_clamp, ni_in, ni_inm, ni_ltm, ni_mlt, ni_lem, ni_mle, ni_eqm, ni_meq, ni_mm, ni_mmle, ni_bit, ni_shl, ni_clr, fa_or, Nat.add_zero, Nat.zero_add, Nat.zero_mul, Nat.mul_zero, eOn, eOs, if_true, if_false, not_true_eq_false, not_false_eq_true, ite_true, ite_false, true_and, and_true, false_and, and_false, or_true, true_or, or_false, false_or, Bool.false_eq_true, reduceIte, Bool.not_true, Bool.not_false, and_self, or_self, q_ef, q_et, q_ltt, q_ltf, q_let, q_lef, gIs, gIl, gIr, gLs, gLl, gLr, gPs, gPl, gPr, gLc, gPc, zb_some, Option.bind_some, q_nm, q_pm, q_hm, q_tm, q_sm, q_wm, q_ym, q_lm, q_ua, hbk, hC.1, b227_21_eq d S hW] at e
      rw [decide_eq_false (by omega)]; exact e
    · simp (disch := omega) only [ni_lit, nI_add, pk_mul, pk_sub, pk_div, nI_leI, nI_ltI, nI_eq, nI_clamp, ni_in, ni_inm, ni_ltm, ni_mlt, ni_lem, ni_mle, ni_eqm, ni_meq, ni_mm, ni_mmle, ni_bit, ni_shl, ni_clr, fa_or, Nat.add_zero, Nat.zero_add, Nat.zero_mul, Nat.mul_zero, eOn, eOs, if_true, if_false, not_true_eq_false, not_false_eq_true, ite_true, ite_false, true_and, and_true, false_and, and_false, or_true, true_or, or_false, false_or, Bool.false_eq_true, reduceIte, Bool.not_true, Bool.not_false, and_self, or_self, q_ef, q_et, q_ltt, q_ltf, q_let, q_lef, gIs, gIl, gIr, gLs, gLl, gLr, gPs, gPl, gPr, gLc, gPc, zb_some, Option.bind_some, q_nm, q_pm, q_hm, q_tm, q_sm, q_wm, q_ym, q_lm, q_ua, hbk, hC.1] at e
      rw [decide_eq_true (by omega)]; exact e
theorem m228 {b : Nat} {P : q_Pl} {x : Int32} (hM : cM S b P) : fI (d + 1) 228 [.ref 396, .int x] S = some (bI (ixO (p_L P) x), S) := by
  obtain ⟨hW, hb, hbk, hC, hP⟩ := hM
  have hR := hP.2.2.2.2.1
  have e := e228 d x S hW
  unfold ixO
  by_cases c1 : x < 0
  · rw [if_pos c1, b228_21_eq d S hW] at e
    rw [x_lt0] at c1
    rw [decide_eq_false (by omega)]; exact e
  · rw [if_neg c1] at e
    obtain ⟨j, hj, rfl⟩ := nI_of c1
    rw [nI_toInt (by omega)]
    by_cases c2 : p_L P ≤ j
    · simp (disch := omega) only [ni_lit, nI_add, pk_mul, pk_sub, pk_div, nI_leI, nI_ltI, nI_eq, nI_clamp, ni_in, ni_inm, ni_ltm, ni_mlt, ni_lem, ni_mle, ni_eqm, ni_meq, ni_mm, ni_mmle, ni_bit, ni_shl, ni_clr, fa_or, Nat.add_zero, Nat.zero_add, Nat.zero_mul, Nat.mul_zero, eOn, eOs, if_true, if_false, not_true_eq_false, not_false_eq_true, ite_true, ite_false, true_and, and_true, false_and, and_false, or_true, true_or, or_false, false_or, Bool.false_eq_true, reduceIte, Bool.not_true, Bool.not_false, and_self, or_self, q_ef, q_et, q_ltt, q_ltf, q_let, q_lef, gIs, gIl, gIr, gLs, gLl, gLr, gPs, gPl, gPr, gLc, gPc, zb_some, Option.bind_some, q_nm, q_pm, q_hm, q_tm, q_sm, q_wm, q_ym, q_lm, q_ua, hbk, hC.2.2.2.2.1, b228_21_eq d S hW] at e
      rw [decide_eq_false (by omega)]; exact e
    · simp (disch := omega) only [ni_lit, nI_add, pk_mul, pk_sub, pk_div, nI_leI, nI_ltI, nI_eq, nI_clamp, ni_in, ni_inm, ni_ltm, ni_mlt, ni_lem, ni_mle, ni_eqm, ni_meq, ni_mm, ni_mmle, ni_bit, ni_shl, ni_clr, fa_or, Nat.add_zero, Nat.zero_add, Nat.zero_mul, Nat.mul_zero, eOn, eOs, if_true, if_false, not_true_eq_false, not_false_eq_true, ite_true, ite_false, true_and, and_true, false_and, and_false, or_true, true_or, or_false, false_or, Bool.false_eq_true, reduceIte, Bool.not_true, Bool.not_false, and_self, or_self, q_ef, q_et, q_ltt, q_ltf, q_let, q_lef, gIs, gIl, gIr, gLs, gLl, gLr, gPs, gPl, gPr, gLc, gPc, zb_some, Option.bind_some, q_nm, q_pm, q_hm, q_tm, q_sm, q_wm, q_ym, q_lm, q_ua, hbk, hC.2.2.2.2.1] at e
      rw [decide_eq_true (by omega)]; exact e
theorem m235 {x : Int32} {a c : Nat} (h : mA S A) (hA : aOk A) (ha : a ≤ 40) (hc : c ≤ 40) : fI (d + 2) 235 [.ref 396, .int x, .int (nI a), .int (nI c)] S = some (bI (decide (0 < p_m (a_P A)) && decide ((a : Int) ≤ x.toInt ∧ x.toInt ≤ c ∧ (q_n (a_s A) : Int) + x.toInt ≤ 999)), S) := by
  have hW := h.W
  have e := e235 (d + 1) x (nI a) (nI c) S hW
  have hn := hA.2.2.1
  have hn0 : gI S 420 0 = nI (q_n (a_s A)) := h.2.2.2.2.1.1
  rw [h.2.2.1, m155 hW (by omega) (by omega), zb_some] at e
  simp only [b235_34_eq (d + 1) S hW] at e
  by_cases c1 : 0 < p_m (a_P A)
  · rw [decide_eq_true c1, if_neg (by decide)] at e
    rw [decide_eq_true c1, Bool.true_and]
    by_cases c2 : (a : Int) ≤ x.toInt ∧ x.toInt ≤ c
    · have hx : x = nI x.toInt.toNat := by rw [fa_eq, nI_toInt (by omega)]; omega
      rw [decide_eq_true c2, if_neg (by decide)] at e
      have key : ∀ j : Nat, x = nI j → j ≤ 40 → fI (d + 2) 235 [.ref 396, .int x, .int (nI a), .int (nI c)] S = some (bI (decide (q_n (a_s A) + j ≤ 999)), S) := fun j hj hj2 => by
        rw [hj] at e ⊢
        by_cases c3 : q_n (a_s A) + j ≤ 999
        · simp (disch := omega) only [ni_lit, nI_add, pk_mul, pk_sub, pk_div, nI_leI, nI_ltI, nI_eq, nI_clamp, ni_in, ni_inm, ni_ltm, ni_mlt, ni_lem, ni_mle, ni_eqm, ni_meq, ni_mm, ni_mmle, ni_bit, ni_shl, ni_clr, fa_or, Nat.add_zero, Nat.zero_add, Nat.zero_mul, Nat.mul_zero, eOn, eOs, if_true, if_false, not_true_eq_false, not_false_eq_true, ite_true, ite_false, true_and, and_true, false_and, and_false, or_true, true_or, or_false, false_or, Bool.false_eq_true, reduceIte, Bool.not_true, Bool.not_false, and_self, or_self, q_ef, q_et, q_ltt, q_ltf, q_let, q_lef, gIs, gIl, gIr, gLs, gLl, gLr, gPs, gPl, gPr, gLc, gPc, zb_some, Option.bind_some, q_nm, q_pm, q_hm, q_tm, q_sm, q_wm, q_ym, q_lm, q_ua, hn0] at e
          rw [decide_eq_true c3]; exact e
        · simp (disch := omega) only [ni_lit, nI_add, pk_mul, pk_sub, pk_div, nI_leI, nI_ltI, nI_eq, nI_clamp, ni_in, ni_inm, ni_ltm, ni_mlt, ni_lem, ni_mle, ni_eqm, ni_meq, ni_mm, ni_mmle, ni_bit, ni_shl, ni_clr, fa_or, Nat.add_zero, Nat.zero_add, Nat.zero_mul, Nat.mul_zero, eOn, eOs, if_true, if_false, not_true_eq_false, not_false_eq_true, ite_true, ite_false, true_and, and_true, false_and, and_false, or_true, true_or, or_false, false_or, Bool.false_eq_true, reduceIte, Bool.not_true, Bool.not_false, and_self, or_self, q_ef, q_et, q_ltt, q_ltf, q_let, q_lef, gIs, gIl, gIr, gLs, gLl, gLr, gPs, gPl, gPr, gLc, gPc, zb_some, Option.bind_some, q_nm, q_pm, q_hm, q_tm, q_sm, q_wm, q_ym, q_lm, q_ua, hn0] at e
          rw [decide_eq_false c3]; exact e
      rw [key _ hx (by omega)]
      congr 3
      by_cases c3 : q_n (a_s A) + x.toInt.toNat ≤ 999
      · rw [decide_eq_true c3, decide_eq_true (by omega)]
      · rw [decide_eq_false c3, decide_eq_false (by omega)]
    · rw [decide_eq_false c2, if_pos (by decide)] at e
      rw [decide_eq_false (fun z => c2 ⟨z.1, z.2.1⟩)]; exact e
  · rw [decide_eq_false c1, if_pos (by decide)] at e
    rw [decide_eq_false c1, Bool.false_and]; exact e
end PA
section PB
variable {d t f : Nat}
theorem m196_38 (ht : t < 22) (hf : f < 22) (hne : t ≠ f) : ∀ (m i : Nat) (S : z_S), i + m = 16 → z_W S → ∃ S2, b196_38 d (nI t) (nI f) (nI i) S = b196_74 d (nI t) (nI f) (nI 0) S2 ∧ onM (fun c k => c = 423 ∧ 16 * t ≤ k ∧ k < 16 * t + 16) S S2 ∧ (∀ j, i ≤ j → j < 16 → gI S2 423 (16 * t + j) = gI S 423 (16 * f + j)) ∧ ∀ j, j < i → gI S2 423 (16 * t + j) = gI S 423 (16 * t + j)
  | 0, i, S, hi, hW => by
    have e := b196_38_eq d (nI t) (nI f) (nI i) S hW
    simp (disch := omega) only [ni_lit, nI_add, pk_mul, pk_sub, pk_div, nI_leI, nI_ltI, nI_eq, nI_clamp, ni_in, ni_inm, ni_ltm, ni_mlt, ni_lem, ni_mle, ni_eqm, ni_meq, ni_mm, ni_mmle, ni_bit, ni_shl, ni_clr, fa_or, Nat.add_zero, Nat.zero_add, Nat.zero_mul, Nat.mul_zero, eOn, eOs, if_true, if_false, not_true_eq_false, not_false_eq_true, ite_true, ite_false, true_and, and_true, false_and, and_false, or_true, true_or, or_false, false_or, Bool.false_eq_true, reduceIte, Bool.not_true, Bool.not_false, and_self, or_self, q_ef, q_et, q_ltt, q_ltf, q_let, q_lef, gIs, gIl, gIr, gLs, gLl, gLr, gPs, gPl, gPr, gLc, gPc, zb_some, Option.bind_some, q_nm, q_pm, q_hm, q_tm, q_sm, q_wm, q_ym, q_lm, q_ua] at e
    exact ⟨S, e, onM.refl hW, fun j a b => by omega, fun j a => rfl⟩
  | m + 1, i, S, hi, hW => by
    have e := b196_38_eq d (nI t) (nI f) (nI i) S hW
    simp (disch := omega) only [ni_lit, nI_add, pk_mul, pk_sub, pk_div, nI_leI, nI_ltI, nI_eq, nI_clamp, ni_in, ni_inm, ni_ltm, ni_mlt, ni_lem, ni_mle, ni_eqm, ni_meq, ni_mm, ni_mmle, ni_bit, ni_shl, ni_clr, fa_or, Nat.add_zero, Nat.zero_add, Nat.zero_mul, Nat.mul_zero, eOn, eOs, if_true, if_false, not_true_eq_false, not_false_eq_true, ite_true, ite_false, true_and, and_true, false_and, and_false, or_true, true_or, or_false, false_or, Bool.false_eq_true, reduceIte, Bool.not_true, Bool.not_false, and_self, or_self, q_ef, q_et, q_ltt, q_ltf, q_let, q_lef, gIs, gIl, gIr, gLs, gLl, gLr, gPs, gPl, gPr, gLc, gPc, zb_some, Option.bind_some, q_nm, q_pm, q_hm, q_tm, q_sm, q_wm, q_ym, q_lm, q_ua] at e
    have hW2 : z_W (sI S 423 (16 * t + i) (gI S 423 (16 * f + i))) := hW
    obtain ⟨S2, a1, a2, a3, a4⟩ := m196_38 ht hf hne m (i + 1) _ (by omega) hW2
    refine ⟨S2, e.trans a1, onM.trans (onM_sI (D := fun c k => c = 423 ∧ 16 * t ≤ k ∧ k < 16 * t + 16) (c := 423) (k := 16 * t + i) (onM.refl hW) ⟨rfl, by omega, by omega⟩) a2, fun j j1 j2 => ?_, fun j j1 => ?_⟩
    · by_cases z : j = i
      · rw [a4 j (by omega), z]
        simp (disch := omega) only [ni_lit, nI_add, pk_mul, pk_sub, pk_div, nI_leI, nI_ltI, nI_eq, nI_clamp, ni_in, ni_inm, ni_ltm, ni_mlt, ni_lem, ni_mle, ni_eqm, ni_meq, ni_mm, ni_mmle, ni_bit, ni_shl, ni_clr, fa_or, Nat.add_zero, Nat.zero_add, Nat.zero_mul, Nat.mul_zero, eOn, eOs, if_true, if_false, not_true_eq_false, not_false_eq_true, ite_true, ite_false, true_and, and_true, false_and, and_false, or_true, true_or, or_false, false_or, Bool.false_eq_true, reduceIte, Bool.not_true, Bool.not_false, and_self, or_self, q_ef, q_et, q_ltt, q_ltf, q_let, q_lef, gIs, gIl, gIr, gLs, gLl, gLr, gPs, gPl, gPr, gLc, gPc, zb_some, Option.bind_some, q_nm, q_pm, q_hm, q_tm, q_sm, q_wm, q_ym, q_lm, q_ua]
      · rw [a3 j (by omega) j2]
        have : ¬ 16 * f + j = 16 * t + i := by omega
        simp (disch := omega) only [ni_lit, nI_add, pk_mul, pk_sub, pk_div, nI_leI, nI_ltI, nI_eq, nI_clamp, ni_in, ni_inm, ni_ltm, ni_mlt, ni_lem, ni_mle, ni_eqm, ni_meq, ni_mm, ni_mmle, ni_bit, ni_shl, ni_clr, fa_or, Nat.add_zero, Nat.zero_add, Nat.zero_mul, Nat.mul_zero, eOn, eOs, if_true, if_false, not_true_eq_false, not_false_eq_true, ite_true, ite_false, true_and, and_true, false_and, and_false, or_true, true_or, or_false, false_or, Bool.false_eq_true, reduceIte, Bool.not_true, Bool.not_false, and_self, or_self, q_ef, q_et, q_ltt, q_ltf, q_let, q_lef, gIs, gIl, gIr, gLs, gLl, gLr, gPs, gPl, gPr, gLc, gPc, zb_some, Option.bind_some, q_nm, q_pm, q_hm, q_tm, q_sm, q_wm, q_ym, q_lm, q_ua, this]
    · rw [a4 j (by omega)]
      simp (disch := omega) only [ni_lit, nI_add, pk_mul, pk_sub, pk_div, nI_leI, nI_ltI, nI_eq, nI_clamp, ni_in, ni_inm, ni_ltm, ni_mlt, ni_lem, ni_mle, ni_eqm, ni_meq, ni_mm, ni_mmle, ni_bit, ni_shl, ni_clr, fa_or, Nat.add_zero, Nat.zero_add, Nat.zero_mul, Nat.mul_zero, eOn, eOs, if_true, if_false, not_true_eq_false, not_false_eq_true, ite_true, ite_false, true_and, and_true, false_and, and_false, or_true, true_or, or_false, false_or, Bool.false_eq_true, reduceIte, Bool.not_true, Bool.not_false, and_self, or_self, q_ef, q_et, q_ltt, q_ltf, q_let, q_lef, gIs, gIl, gIr, gLs, gLl, gLr, gPs, gPl, gPr, gLc, gPc, zb_some, Option.bind_some, q_nm, q_pm, q_hm, q_tm, q_sm, q_wm, q_ym, q_lm, q_ua]
theorem m196_74 (ht : t < 22) (hf : f < 22) (hne : t ≠ f) : ∀ (m i : Nat) (S : z_S), i + m = 16 → z_W S → ∃ S2, b196_74 d (nI t) (nI f) (nI i) S = b196_122 d (nI t) (nI f) (nI 0) (sI S2 425 t (gI S2 425 f)) ∧ onM (fun c k => c = 424 ∧ 16 * t ≤ k ∧ k < 16 * t + 16) S S2 ∧ (∀ j, i ≤ j → j < 16 → gI S2 424 (16 * t + j) = gI S 424 (16 * f + j)) ∧ ∀ j, j < i → gI S2 424 (16 * t + j) = gI S 424 (16 * t + j)
  | 0, i, S, hi, hW => by
    have e := b196_74_eq d (nI t) (nI f) (nI i) S hW
    simp (disch := omega) only [ni_lit, nI_add, pk_mul, pk_sub, pk_div, nI_leI, nI_ltI, nI_eq, nI_clamp, ni_in, ni_inm, ni_ltm, ni_mlt, ni_lem, ni_mle, ni_eqm, ni_meq, ni_mm, ni_mmle, ni_bit, ni_shl, ni_clr, fa_or, Nat.add_zero, Nat.zero_add, Nat.zero_mul, Nat.mul_zero, eOn, eOs, if_true, if_false, not_true_eq_false, not_false_eq_true, ite_true, ite_false, true_and, and_true, false_and, and_false, or_true, true_or, or_false, false_or, Bool.false_eq_true, reduceIte, Bool.not_true, Bool.not_false, and_self, or_self, q_ef, q_et, q_ltt, q_ltf, q_let, q_lef, gIs, gIl, gIr, gLs, gLl, gLr, gPs, gPl, gPr, gLc, gPc, zb_some, Option.bind_some, q_nm, q_pm, q_hm, q_tm, q_sm, q_wm, q_ym, q_lm, q_ua] at e
    exact ⟨S, e, onM.refl hW, fun j a b => by omega, fun j a => rfl⟩
  | m + 1, i, S, hi, hW => by
    have e := b196_74_eq d (nI t) (nI f) (nI i) S hW
    simp (disch := omega) only [ni_lit, nI_add, pk_mul, pk_sub, pk_div, nI_leI, nI_ltI, nI_eq, nI_clamp, ni_in, ni_inm, ni_ltm, ni_mlt, ni_lem, ni_mle, ni_eqm, ni_meq, ni_mm, ni_mmle, ni_bit, ni_shl, ni_clr, fa_or, Nat.add_zero, Nat.zero_add, Nat.zero_mul, Nat.mul_zero, eOn, eOs, if_true, if_false, not_true_eq_false, not_false_eq_true, ite_true, ite_false, true_and, and_true, false_and, and_false, or_true, true_or, or_false, false_or, Bool.false_eq_true, reduceIte, Bool.not_true, Bool.not_false, and_self, or_self, q_ef, q_et, q_ltt, q_ltf, q_let, q_lef, gIs, gIl, gIr, gLs, gLl, gLr, gPs, gPl, gPr, gLc, gPc, zb_some, Option.bind_some, q_nm, q_pm, q_hm, q_tm, q_sm, q_wm, q_ym, q_lm, q_ua] at e
    have hW2 : z_W (sI S 424 (16 * t + i) (gI S 424 (16 * f + i))) := hW
    obtain ⟨S2, a1, a2, a3, a4⟩ := m196_74 ht hf hne m (i + 1) _ (by omega) hW2
    refine ⟨S2, e.trans a1, onM.trans (onM_sI (D := fun c k => c = 424 ∧ 16 * t ≤ k ∧ k < 16 * t + 16) (c := 424) (k := 16 * t + i) (onM.refl hW) ⟨rfl, by omega, by omega⟩) a2, fun j j1 j2 => ?_, fun j j1 => ?_⟩
    · by_cases z : j = i
      · rw [a4 j (by omega), z]
        simp (disch := omega) only [ni_lit, nI_add, pk_mul, pk_sub, pk_div, nI_leI, nI_ltI, nI_eq, nI_clamp, ni_in, ni_inm, ni_ltm, ni_mlt, ni_lem, ni_mle, ni_eqm, ni_meq, ni_mm, ni_mmle, ni_bit, ni_shl, ni_clr, fa_or, Nat.add_zero, Nat.zero_add, Nat.zero_mul, Nat.mul_zero, eOn, eOs, if_true, if_false, not_true_eq_false, not_false_eq_true, ite_true, ite_false, true_and, and_true, false_and, and_false, or_true, true_or, or_false, false_or, Bool.false_eq_true, reduceIte, Bool.not_true, Bool.not_false, and_self, or_self, q_ef, q_et, q_ltt, q_ltf, q_let, q_lef, gIs, gIl, gIr, gLs, gLl, gLr, gPs, gPl, gPr, gLc, gPc, zb_some, Option.bind_some, q_nm, q_pm, q_hm, q_tm, q_sm, q_wm, q_ym, q_lm, q_ua]
      · rw [a3 j (by omega) j2]
        have : ¬ 16 * f + j = 16 * t + i := by omega
        simp (disch := omega) only [ni_lit, nI_add, pk_mul, pk_sub, pk_div, nI_leI, nI_ltI, nI_eq, nI_clamp, ni_in, ni_inm, ni_ltm, ni_mlt, ni_lem, ni_mle, ni_eqm, ni_meq, ni_mm, ni_mmle, ni_bit, ni_shl, ni_clr, fa_or, Nat.add_zero, Nat.zero_add, Nat.zero_mul, Nat.mul_zero, eOn, eOs, if_true, if_false, not_true_eq_false, not_false_eq_true, ite_true, ite_false, true_and, and_true, false_and, and_false, or_true, true_or, or_false, false_or, Bool.false_eq_true, reduceIte, Bool.not_true, Bool.not_false, and_self, or_self, q_ef, q_et, q_ltt, q_ltf, q_let, q_lef, gIs, gIl, gIr, gLs, gLl, gLr, gPs, gPl, gPr, gLc, gPc, zb_some, Option.bind_some, q_nm, q_pm, q_hm, q_tm, q_sm, q_wm, q_ym, q_lm, q_ua, this]
    · rw [a4 j (by omega)]
      simp (disch := omega) only [ni_lit, nI_add, pk_mul, pk_sub, pk_div, nI_leI, nI_ltI, nI_eq, nI_clamp, ni_in, ni_inm, ni_ltm, ni_mlt, ni_lem, ni_mle, ni_eqm, ni_meq, ni_mm, ni_mmle, ni_bit, ni_shl, ni_clr, fa_or, Nat.add_zero, Nat.zero_add, Nat.zero_mul, Nat.mul_zero, eOn, eOs, if_true, if_false, not_true_eq_false, not_false_eq_true, ite_true, ite_false, true_and, and_true, false_and, and_false, or_true, true_or, or_false, false_or, Bool.false_eq_true, reduceIte, Bool.not_true, Bool.not_false, and_self, or_self, q_ef, q_et, q_ltt, q_ltf, q_let, q_lef, gIs, gIl, gIr, gLs, gLl, gLr, gPs, gPl, gPr, gLc, gPc, zb_some, Option.bind_some, q_nm, q_pm, q_hm, q_tm, q_sm, q_wm, q_ym, q_lm, q_ua]
theorem m196_122 (ht : t < 22) (hf : f < 22) (hne : t ≠ f) : ∀ (m i : Nat) (S : z_S), i + m = 6 → z_W S → ∃ S2, b196_122 d (nI t) (nI f) (nI i) S = b196_170 d (nI t) (nI f) (nI 0) (sI S2 427 t (gI S2 427 f)) ∧ onM (fun c k => c = 426 ∧ 6 * t ≤ k ∧ k < 6 * t + 6) S S2 ∧ (∀ j, i ≤ j → j < 6 → gI S2 426 (6 * t + j) = gI S 426 (6 * f + j)) ∧ ∀ j, j < i → gI S2 426 (6 * t + j) = gI S 426 (6 * t + j)
  | 0, i, S, hi, hW => by
    have e := b196_122_eq d (nI t) (nI f) (nI i) S hW
    simp (disch := omega) only [ni_lit, nI_add, pk_mul, pk_sub, pk_div, nI_leI, nI_ltI, nI_eq, nI_clamp, ni_in, ni_inm, ni_ltm, ni_mlt, ni_lem, ni_mle, ni_eqm, ni_meq, ni_mm, ni_mmle, ni_bit, ni_shl, ni_clr, fa_or, Nat.add_zero, Nat.zero_add, Nat.zero_mul, Nat.mul_zero, eOn, eOs, if_true, if_false, not_true_eq_false, not_false_eq_true, ite_true, ite_false, true_and, and_true, false_and, and_false, or_true, true_or, or_false, false_or, Bool.false_eq_true, reduceIte, Bool.not_true, Bool.not_false, and_self, or_self, q_ef, q_et, q_ltt, q_ltf, q_let, q_lef, gIs, gIl, gIr, gLs, gLl, gLr, gPs, gPl, gPr, gLc, gPc, zb_some, Option.bind_some, q_nm, q_pm, q_hm, q_tm, q_sm, q_wm, q_ym, q_lm, q_ua] at e
    exact ⟨S, e, onM.refl hW, fun j a b => by omega, fun j a => rfl⟩
  | m + 1, i, S, hi, hW => by
    have e := b196_122_eq d (nI t) (nI f) (nI i) S hW
    simp (disch := omega) only [ni_lit, nI_add, pk_mul, pk_sub, pk_div, nI_leI, nI_ltI, nI_eq, nI_clamp, ni_in, ni_inm, ni_ltm, ni_mlt, ni_lem, ni_mle, ni_eqm, ni_meq, ni_mm, ni_mmle, ni_bit, ni_shl, ni_clr, fa_or, Nat.add_zero, Nat.zero_add, Nat.zero_mul, Nat.mul_zero, eOn, eOs, if_true, if_false, not_true_eq_false, not_false_eq_true, ite_true, ite_false, true_and, and_true, false_and, and_false, or_true, true_or, or_false, false_or, Bool.false_eq_true, reduceIte, Bool.not_true, Bool.not_false, and_self, or_self, q_ef, q_et, q_ltt, q_ltf, q_let, q_lef, gIs, gIl, gIr, gLs, gLl, gLr, gPs, gPl, gPr, gLc, gPc, zb_some, Option.bind_some, q_nm, q_pm, q_hm, q_tm, q_sm, q_wm, q_ym, q_lm, q_ua] at e
    have hW2 : z_W (sI S 426 (6 * t + i) (gI S 426 (6 * f + i))) := hW
    obtain ⟨S2, a1, a2, a3, a4⟩ := m196_122 ht hf hne m (i + 1) _ (by omega) hW2
    refine ⟨S2, e.trans a1, onM.trans (onM_sI (D := fun c k => c = 426 ∧ 6 * t ≤ k ∧ k < 6 * t + 6) (c := 426) (k := 6 * t + i) (onM.refl hW) ⟨rfl, by omega, by omega⟩) a2, fun j j1 j2 => ?_, fun j j1 => ?_⟩
    · by_cases z : j = i
      · rw [a4 j (by omega), z]
        simp (disch := omega) only [ni_lit, nI_add, pk_mul, pk_sub, pk_div, nI_leI, nI_ltI, nI_eq, nI_clamp, ni_in, ni_inm, ni_ltm, ni_mlt, ni_lem, ni_mle, ni_eqm, ni_meq, ni_mm, ni_mmle, ni_bit, ni_shl, ni_clr, fa_or, Nat.add_zero, Nat.zero_add, Nat.zero_mul, Nat.mul_zero, eOn, eOs, if_true, if_false, not_true_eq_false, not_false_eq_true, ite_true, ite_false, true_and, and_true, false_and, and_false, or_true, true_or, or_false, false_or, Bool.false_eq_true, reduceIte, Bool.not_true, Bool.not_false, and_self, or_self, q_ef, q_et, q_ltt, q_ltf, q_let, q_lef, gIs, gIl, gIr, gLs, gLl, gLr, gPs, gPl, gPr, gLc, gPc, zb_some, Option.bind_some, q_nm, q_pm, q_hm, q_tm, q_sm, q_wm, q_ym, q_lm, q_ua]
      · rw [a3 j (by omega) j2]
        have : ¬ 6 * f + j = 6 * t + i := by omega
        simp (disch := omega) only [ni_lit, nI_add, pk_mul, pk_sub, pk_div, nI_leI, nI_ltI, nI_eq, nI_clamp, ni_in, ni_inm, ni_ltm, ni_mlt, ni_lem, ni_mle, ni_eqm, ni_meq, ni_mm, ni_mmle, ni_bit, ni_shl, ni_clr, fa_or, Nat.add_zero, Nat.zero_add, Nat.zero_mul, Nat.mul_zero, eOn, eOs, if_true, if_false, not_true_eq_false, not_false_eq_true, ite_true, ite_false, true_and, and_true, false_and, and_false, or_true, true_or, or_false, false_or, Bool.false_eq_true, reduceIte, Bool.not_true, Bool.not_false, and_self, or_self, q_ef, q_et, q_ltt, q_ltf, q_let, q_lef, gIs, gIl, gIr, gLs, gLl, gLr, gPs, gPl, gPr, gLc, gPc, zb_some, Option.bind_some, q_nm, q_pm, q_hm, q_tm, q_sm, q_wm, q_ym, q_lm, q_ua, this]
    · rw [a4 j (by omega)]
      simp (disch := omega) only [ni_lit, nI_add, pk_mul, pk_sub, pk_div, nI_leI, nI_ltI, nI_eq, nI_clamp, ni_in, ni_inm, ni_ltm, ni_mlt, ni_lem, ni_mle, ni_eqm, ni_meq, ni_mm, ni_mmle, ni_bit, ni_shl, ni_clr, fa_or, Nat.add_zero, Nat.zero_add, Nat.zero_mul, Nat.mul_zero, eOn, eOs, if_true, if_false, not_true_eq_false, not_false_eq_true, ite_true, ite_false, true_and, and_true, false_and, and_false, or_true, true_or, or_false, false_or, Bool.false_eq_true, reduceIte, Bool.not_true, Bool.not_false, and_self, or_self, q_ef, q_et, q_ltt, q_ltf, q_let, q_lef, gIs, gIl, gIr, gLs, gLl, gLr, gPs, gPl, gPr, gLc, gPc, zb_some, Option.bind_some, q_nm, q_pm, q_hm, q_tm, q_sm, q_wm, q_ym, q_lm, q_ua]
theorem m196_170 {n : Nat} (ht : t < 22) (hf : f < 22) (hne : t ≠ f) (hn : n ≤ 120) : ∀ (m i : Nat) (S : z_S), i + m = n → z_W S → (nI 3) * gI S 427 f = nI n → ∃ S2, b196_170 d (nI t) (nI f) (nI i) S = some S2 ∧ onM (fun c k => c = 428 ∧ 120 * t ≤ k ∧ k < 120 * t + 120) S S2 ∧ (∀ j, i ≤ j → j < n → gI S2 428 (120 * t + j) = gI S 428 (120 * f + j)) ∧ ∀ j, j < i → gI S2 428 (120 * t + j) = gI S 428 (120 * t + j)
  | 0, i, S, hi, hW, hk => by
    have e := b196_170_eq d (nI t) (nI f) (nI i) S hW
    simp (disch := omega) only [ni_lit, nI_add, pk_mul, pk_sub, pk_div, nI_leI, nI_ltI, nI_eq, nI_clamp, ni_in, ni_inm, ni_ltm, ni_mlt, ni_lem, ni_mle, ni_eqm, ni_meq, ni_mm, ni_mmle, ni_bit, ni_shl, ni_clr, fa_or, Nat.add_zero, Nat.zero_add, Nat.zero_mul, Nat.mul_zero, eOn, eOs, if_true, if_false, not_true_eq_false, not_false_eq_true, ite_true, ite_false, true_and, and_true, false_and, and_false, or_true, true_or, or_false, false_or, Bool.false_eq_true, reduceIte, Bool.not_true, Bool.not_false, and_self, or_self, q_ef, q_et, q_ltt, q_ltf, q_let, q_lef, gIs, gIl, gIr, gLs, gLl, gLr, gPs, gPl, gPr, gLc, gPc, zb_some, Option.bind_some, q_nm, q_pm, q_hm, q_tm, q_sm, q_wm, q_ym, q_lm, q_ua, hk] at e
    exact ⟨S, e, onM.refl hW, fun j a b => by omega, fun j a => rfl⟩
  | m + 1, i, S, hi, hW, hk => by
    have e := b196_170_eq d (nI t) (nI f) (nI i) S hW
    simp (disch := omega) only [ni_lit, nI_add, pk_mul, pk_sub, pk_div, nI_leI, nI_ltI, nI_eq, nI_clamp, ni_in, ni_inm, ni_ltm, ni_mlt, ni_lem, ni_mle, ni_eqm, ni_meq, ni_mm, ni_mmle, ni_bit, ni_shl, ni_clr, fa_or, Nat.add_zero, Nat.zero_add, Nat.zero_mul, Nat.mul_zero, eOn, eOs, if_true, if_false, not_true_eq_false, not_false_eq_true, ite_true, ite_false, true_and, and_true, false_and, and_false, or_true, true_or, or_false, false_or, Bool.false_eq_true, reduceIte, Bool.not_true, Bool.not_false, and_self, or_self, q_ef, q_et, q_ltt, q_ltf, q_let, q_lef, gIs, gIl, gIr, gLs, gLl, gLr, gPs, gPl, gPr, gLc, gPc, zb_some, Option.bind_some, q_nm, q_pm, q_hm, q_tm, q_sm, q_wm, q_ym, q_lm, q_ua, hk] at e
    have hW2 : z_W (sI S 428 (120 * t + i) (gI S 428 (120 * f + i))) := hW
    obtain ⟨S2, a1, a2, a3, a4⟩ := m196_170 ht hf hne hn m (i + 1) _ (by omega) hW2 (by rw [gI_sI, if_neg (by decide)]; exact hk)
    refine ⟨S2, e.trans a1, onM.trans (onM_sI (D := fun c k => c = 428 ∧ 120 * t ≤ k ∧ k < 120 * t + 120) (c := 428) (k := 120 * t + i) (onM.refl hW) ⟨rfl, by omega, by omega⟩) a2, fun j j1 j2 => ?_, fun j j1 => ?_⟩
    · by_cases z : j = i
      · rw [a4 j (by omega), z]
        simp (disch := omega) only [ni_lit, nI_add, pk_mul, pk_sub, pk_div, nI_leI, nI_ltI, nI_eq, nI_clamp, ni_in, ni_inm, ni_ltm, ni_mlt, ni_lem, ni_mle, ni_eqm, ni_meq, ni_mm, ni_mmle, ni_bit, ni_shl, ni_clr, fa_or, Nat.add_zero, Nat.zero_add, Nat.zero_mul, Nat.mul_zero, eOn, eOs, if_true, if_false, not_true_eq_false, not_false_eq_true, ite_true, ite_false, true_and, and_true, false_and, and_false, or_true, true_or, or_false, false_or, Bool.false_eq_true, reduceIte, Bool.not_true, Bool.not_false, and_self, or_self, q_ef, q_et, q_ltt, q_ltf, q_let, q_lef, gIs, gIl, gIr, gLs, gLl, gLr, gPs, gPl, gPr, gLc, gPc, zb_some, Option.bind_some, q_nm, q_pm, q_hm, q_tm, q_sm, q_wm, q_ym, q_lm, q_ua]
      · rw [a3 j (by omega) j2]
        simp (disch := omega) only [ni_lit, nI_add, pk_mul, pk_sub, pk_div, nI_leI, nI_ltI, nI_eq, nI_clamp, ni_in, ni_inm, ni_ltm, ni_mlt, ni_lem, ni_mle, ni_eqm, ni_meq, ni_mm, ni_mmle, ni_bit, ni_shl, ni_clr, fa_or, Nat.add_zero, Nat.zero_add, Nat.zero_mul, Nat.mul_zero, eOn, eOs, if_true, if_false, not_true_eq_false, not_false_eq_true, ite_true, ite_false, true_and, and_true, false_and, and_false, or_true, true_or, or_false, false_or, Bool.false_eq_true, reduceIte, Bool.not_true, Bool.not_false, and_self, or_self, q_ef, q_et, q_ltt, q_ltf, q_let, q_lef, gIs, gIl, gIr, gLs, gLl, gLr, gPs, gPl, gPr, gLc, gPc, zb_some, Option.bind_some, q_nm, q_pm, q_hm, q_tm, q_sm, q_wm, q_ym, q_lm, q_ua]
    · rw [a4 j (by omega)]
      simp (disch := omega) only [ni_lit, nI_add, pk_mul, pk_sub, pk_div, nI_leI, nI_ltI, nI_eq, nI_clamp, ni_in, ni_inm, ni_ltm, ni_mlt, ni_lem, ni_mle, ni_eqm, ni_meq, ni_mm, ni_mmle, ni_bit, ni_shl, ni_clr, fa_or, Nat.add_zero, Nat.zero_add, Nat.zero_mul, Nat.mul_zero, eOn, eOs, if_true, if_false, not_true_eq_false, not_false_eq_true, ite_true, ite_false, true_and, and_true, false_and, and_false, or_true, true_or, or_false, false_or, Bool.false_eq_true, reduceIte, Bool.not_true, Bool.not_false, and_self, or_self, q_ef, q_et, q_ltt, q_ltf, q_let, q_lef, gIs, gIl, gIr, gLs, gLl, gLr, gPs, gPl, gPr, gLc, gPc, zb_some, Option.bind_some, q_nm, q_pm, q_hm, q_tm, q_sm, q_wm, q_ym, q_lm, q_ua]
theorem m196 {S : z_S} {s : q_St} {kl : List (Nat × Nat × Nat)} (hW : z_W S) (ht : t < 22) (hf : f < 22) (hne : t ≠ f) (hs : mSt S f s) (hk : mKp S f kl) (hl : (q_l s).length ≤ 6) : ∃ S', fV (d + 1) 196 [.ref 396, .int (nI t), .int (nI f)] S = some S' ∧ onM (fun c k => vD t c k ∨ kD t c k) S S' ∧ mSt S' t s ∧ mKp S' t kl := by
  have e := e196 d (nI t) (nI f) S hW
  obtain ⟨h0, h1, h2, h3, h4, h5, h6⟩ := hs
  obtain ⟨k1, k2, k3⟩ := hk
  simp (disch := omega) only [ni_lit, nI_add, pk_mul, pk_sub, pk_div, nI_leI, nI_ltI, nI_eq, nI_clamp, ni_in, ni_inm, ni_ltm, ni_mlt, ni_lem, ni_mle, ni_eqm, ni_meq, ni_mm, ni_mmle, ni_bit, ni_shl, ni_clr, fa_or, Nat.add_zero, Nat.zero_add, Nat.zero_mul, Nat.mul_zero, eOn, eOs, if_true, if_false, not_true_eq_false, not_false_eq_true, ite_true, ite_false, true_and, and_true, false_and, and_false, or_true, true_or, or_false, false_or, Bool.false_eq_true, reduceIte, Bool.not_true, Bool.not_false, and_self, or_self, q_ef, q_et, q_ltt, q_ltf, q_let, q_lef, gIs, gIl, gIr, gLs, gLl, gLr, gPs, gPl, gPr, gLc, gPc, zb_some, Option.bind_some, q_nm, q_pm, q_hm, q_tm, q_sm, q_wm, q_ym, q_lm, q_ua, h0, h1, h2] at e
  have o0 : onM (fun c k => vD t c k ∨ kD t c k) S (sI (sI (sI S 420 t (nI (q_n s))) 421 t (nI (q_p s))) 422 t (nI (q_h s))) :=
    onM_sI (D := fun c k => vD t c k ∨ kD t c k) (c := 422) (k := t) (onM_sI (D := fun c k => vD t c k ∨ kD t c k) (c := 421) (k := t) (onM_sI (D := fun c k => vD t c k ∨ kD t c k) (c := 420) (k := t) (onM.refl hW) (Or.inl (Or.inl ⟨Or.inl rfl, rfl⟩))) (Or.inl (Or.inl ⟨Or.inr (Or.inl rfl), rfl⟩))) (Or.inl (Or.inl ⟨Or.inr (Or.inr (Or.inl rfl)), rfl⟩))
  have v0 : gI (sI (sI (sI S 420 t (nI (q_n s))) 421 t (nI (q_p s))) 422 t (nI (q_h s))) 420 t = nI (q_n s) := by simp (disch := omega) only [ni_lit, nI_add, pk_mul, pk_sub, pk_div, nI_leI, nI_ltI, nI_eq, nI_clamp, ni_in, ni_inm, ni_ltm, ni_mlt, ni_lem, ni_mle, ni_eqm, ni_meq, ni_mm, ni_mmle, ni_bit, ni_shl, ni_clr, fa_or, Nat.add_zero, Nat.zero_add, Nat.zero_mul, Nat.mul_zero, eOn, eOs, if_true, if_false, not_true_eq_false, not_false_eq_true, ite_true, ite_false, true_and, and_true, false_and, and_false, or_true, true_or, or_false, false_or, Bool.false_eq_true, reduceIte, Bool.not_true, Bool.not_false, and_self, or_self, q_ef, q_et, q_ltt, q_ltf, q_let, q_lef, gIs, gIl, gIr, gLs, gLl, gLr, gPs, gPl, gPr, gLc, gPc, zb_some, Option.bind_some, q_nm, q_pm, q_hm, q_tm, q_sm, q_wm, q_ym, q_lm, q_ua]
  have v1 : gI (sI (sI (sI S 420 t (nI (q_n s))) 421 t (nI (q_p s))) 422 t (nI (q_h s))) 421 t = nI (q_p s) := by simp (disch := omega) only [ni_lit, nI_add, pk_mul, pk_sub, pk_div, nI_leI, nI_ltI, nI_eq, nI_clamp, ni_in, ni_inm, ni_ltm, ni_mlt, ni_lem, ni_mle, ni_eqm, ni_meq, ni_mm, ni_mmle, ni_bit, ni_shl, ni_clr, fa_or, Nat.add_zero, Nat.zero_add, Nat.zero_mul, Nat.mul_zero, eOn, eOs, if_true, if_false, not_true_eq_false, not_false_eq_true, ite_true, ite_false, true_and, and_true, false_and, and_false, or_true, true_or, or_false, false_or, Bool.false_eq_true, reduceIte, Bool.not_true, Bool.not_false, and_self, or_self, q_ef, q_et, q_ltt, q_ltf, q_let, q_lef, gIs, gIl, gIr, gLs, gLl, gLr, gPs, gPl, gPr, gLc, gPc, zb_some, Option.bind_some, q_nm, q_pm, q_hm, q_tm, q_sm, q_wm, q_ym, q_lm, q_ua]
  have v2 : gI (sI (sI (sI S 420 t (nI (q_n s))) 421 t (nI (q_p s))) 422 t (nI (q_h s))) 422 t = nI (q_h s) := by simp (disch := omega) only [ni_lit, nI_add, pk_mul, pk_sub, pk_div, nI_leI, nI_ltI, nI_eq, nI_clamp, ni_in, ni_inm, ni_ltm, ni_mlt, ni_lem, ni_mle, ni_eqm, ni_meq, ni_mm, ni_mmle, ni_bit, ni_shl, ni_clr, fa_or, Nat.add_zero, Nat.zero_add, Nat.zero_mul, Nat.mul_zero, eOn, eOs, if_true, if_false, not_true_eq_false, not_false_eq_true, ite_true, ite_false, true_and, and_true, false_and, and_false, or_true, true_or, or_false, false_or, Bool.false_eq_true, reduceIte, Bool.not_true, Bool.not_false, and_self, or_self, q_ef, q_et, q_ltt, q_ltf, q_let, q_lef, gIs, gIl, gIr, gLs, gLl, gLr, gPs, gPl, gPr, gLc, gPc, zb_some, Option.bind_some, q_nm, q_pm, q_hm, q_tm, q_sm, q_wm, q_ym, q_lm, q_ua]
  have vo : ∀ c k, 423 ≤ c → gI (sI (sI (sI S 420 t (nI (q_n s))) 421 t (nI (q_p s))) 422 t (nI (q_h s))) c k = gI S c k := fun c k z => by simp (disch := omega) only [ni_lit, nI_add, pk_mul, pk_sub, pk_div, nI_leI, nI_ltI, nI_eq, nI_clamp, ni_in, ni_inm, ni_ltm, ni_mlt, ni_lem, ni_mle, ni_eqm, ni_meq, ni_mm, ni_mmle, ni_bit, ni_shl, ni_clr, fa_or, Nat.add_zero, Nat.zero_add, Nat.zero_mul, Nat.mul_zero, eOn, eOs, if_true, if_false, not_true_eq_false, not_false_eq_true, ite_true, ite_false, true_and, and_true, false_and, and_false, or_true, true_or, or_false, false_or, Bool.false_eq_true, reduceIte, Bool.not_true, Bool.not_false, and_self, or_self, q_ef, q_et, q_ltt, q_ltf, q_let, q_lef, gIs, gIl, gIr, gLs, gLl, gLr, gPs, gPl, gPr, gLc, gPc, zb_some, Option.bind_some, q_nm, q_pm, q_hm, q_tm, q_sm, q_wm, q_ym, q_lm, q_ua]
  generalize hS0 : sI (sI (sI S 420 t (nI (q_n s))) 421 t (nI (q_p s))) 422 t (nI (q_h s)) = S0 at *
  obtain ⟨S1, a1, a2, a3, _⟩ := m196_38 (d := d) ht hf hne 16 0 S0 (by omega) o0.W
  obtain ⟨S2, b1, b2, b3, _⟩ := m196_74 (d := d) ht hf hne 16 0 S1 (by omega) a2.W
  have q3 : gI S2 425 f = nI (q_l s).length := by rw [b2.I (by omega), a2.I (by omega), vo _ _ (by omega)]; exact h3
  rw [q3] at b1
  have o2 : onM (fun c k => c = 425 ∧ k = t) S2 (sI S2 425 t (nI (q_l s).length)) := onM_sI (D := fun c k => c = 425 ∧ k = t) (c := 425) (k := t) (onM.refl b2.W) ⟨rfl, rfl⟩
  have w2 : gI (sI S2 425 t (nI (q_l s).length)) 425 t = nI (q_l s).length := by simp (disch := omega) only [ni_lit, nI_add, pk_mul, pk_sub, pk_div, nI_leI, nI_ltI, nI_eq, nI_clamp, ni_in, ni_inm, ni_ltm, ni_mlt, ni_lem, ni_mle, ni_eqm, ni_meq, ni_mm, ni_mmle, ni_bit, ni_shl, ni_clr, fa_or, Nat.add_zero, Nat.zero_add, Nat.zero_mul, Nat.mul_zero, eOn, eOs, if_true, if_false, not_true_eq_false, not_false_eq_true, ite_true, ite_false, true_and, and_true, false_and, and_false, or_true, true_or, or_false, false_or, Bool.false_eq_true, reduceIte, Bool.not_true, Bool.not_false, and_self, or_self, q_ef, q_et, q_ltt, q_ltf, q_let, q_lef, gIs, gIl, gIr, gLs, gLl, gLr, gPs, gPl, gPr, gLc, gPc, zb_some, Option.bind_some, q_nm, q_pm, q_hm, q_tm, q_sm, q_wm, q_ym, q_lm, q_ua]
  generalize hS2 : sI S2 425 t (nI (q_l s).length) = S2b at *
  obtain ⟨S3, c1, c2, c3, _⟩ := m196_122 (d := d) ht hf hne 6 0 S2b (by omega) o2.W
  have q4 : gI S3 427 f = nI kl.length := by rw [c2.I (by omega), o2.I (by omega), b2.I (by omega), a2.I (by omega), vo _ _ (by omega)]; exact k2
  rw [q4] at c1
  have o3 : onM (fun c k => c = 427 ∧ k = t) S3 (sI S3 427 t (nI kl.length)) := onM_sI (D := fun c k => c = 427 ∧ k = t) (c := 427) (k := t) (onM.refl c2.W) ⟨rfl, rfl⟩
  have w3 : gI (sI S3 427 t (nI kl.length)) 427 t = nI kl.length := by simp (disch := omega) only [ni_lit, nI_add, pk_mul, pk_sub, pk_div, nI_leI, nI_ltI, nI_eq, nI_clamp, ni_in, ni_inm, ni_ltm, ni_mlt, ni_lem, ni_mle, ni_eqm, ni_meq, ni_mm, ni_mmle, ni_bit, ni_shl, ni_clr, fa_or, Nat.add_zero, Nat.zero_add, Nat.zero_mul, Nat.mul_zero, eOn, eOs, if_true, if_false, not_true_eq_false, not_false_eq_true, ite_true, ite_false, true_and, and_true, false_and, and_false, or_true, true_or, or_false, false_or, Bool.false_eq_true, reduceIte, Bool.not_true, Bool.not_false, and_self, or_self, q_ef, q_et, q_ltt, q_ltf, q_let, q_lef, gIs, gIl, gIr, gLs, gLl, gLr, gPs, gPl, gPr, gLc, gPc, zb_some, Option.bind_some, q_nm, q_pm, q_hm, q_tm, q_sm, q_wm, q_ym, q_lm, q_ua]
  have w4 : gI (sI S3 427 t (nI kl.length)) 427 f = nI kl.length := by simp (disch := omega) only [ni_lit, nI_add, pk_mul, pk_sub, pk_div, nI_leI, nI_ltI, nI_eq, nI_clamp, ni_in, ni_inm, ni_ltm, ni_mlt, ni_lem, ni_mle, ni_eqm, ni_meq, ni_mm, ni_mmle, ni_bit, ni_shl, ni_clr, fa_or, Nat.add_zero, Nat.zero_add, Nat.zero_mul, Nat.mul_zero, eOn, eOs, if_true, if_false, not_true_eq_false, not_false_eq_true, ite_true, ite_false, true_and, and_true, false_and, and_false, or_true, true_or, or_false, false_or, Bool.false_eq_true, reduceIte, Bool.not_true, Bool.not_false, and_self, or_self, q_ef, q_et, q_ltt, q_ltf, q_let, q_lef, gIs, gIl, gIr, gLs, gLl, gLr, gPs, gPl, gPr, gLc, gPc, zb_some, Option.bind_some, q_nm, q_pm, q_hm, q_tm, q_sm, q_wm, q_ym, q_lm, q_ua, q4]
  generalize hS3 : sI S3 427 t (nI kl.length) = S3b at *
  obtain ⟨S4, f1, f2, f3, _⟩ := m196_170 (d := d) (n := 3 * kl.length) ht hf hne (by omega) (3 * kl.length) 0 S3b (by omega) o3.W (by rw [w4, pk_mul])
  refine ⟨S4, (((e.trans a1).trans b1).trans c1).trans f1, ?_, ⟨?_, ?_, ?_, ?_, fun r hr => ?_, fun k hk => ?_, fun i hi => ?_⟩, k1, ?_, fun i hi => ?_⟩
  · refine ((((o0.trans (a2.mono fun c k z => ?_)).trans (b2.mono fun c k z => ?_)).trans (o2.mono fun c k z => ?_)).trans (c2.mono fun c k z => ?_)).trans ((o3.mono fun c k z => ?_).trans (f2.mono fun c k z => ?_)) <;> unfold vD kD <;> omega
  · rw [f2.I (by omega), o3.I (by omega), c2.I (by omega), o2.I (by omega), b2.I (by omega), a2.I (by omega)]; exact v0
  · rw [f2.I (by omega), o3.I (by omega), c2.I (by omega), o2.I (by omega), b2.I (by omega), a2.I (by omega)]; exact v1
  · rw [f2.I (by omega), o3.I (by omega), c2.I (by omega), o2.I (by omega), b2.I (by omega), a2.I (by omega)]; exact v2
  · rw [f2.I (by omega), o3.I (by omega), c2.I (by omega)]; exact w2
  · rw [f2.I (by omega), o3.I (by omega), c2.I (by omega), o2.I (by omega), b2.I (by omega), a3 r (by omega) hr, vo _ _ (by omega)]; exact h4 r hr
  · rw [f2.I (by omega), o3.I (by omega), c2.I (by omega), o2.I (by omega), b3 k (by omega) hk, a2.I (by omega), vo _ _ (by omega)]; exact h5 k hk
  · rw [f2.I (by omega), o3.I (by omega), c3 i (by omega) (by omega), o2.I (by omega), b2.I (by omega), a2.I (by omega), vo _ _ (by omega)]; exact h6 i hi
  · rw [f2.I (by omega)]; exact w3
  · have g : ∀ j, j < 3 * kl.length → gI S4 428 (120 * t + j) = gI S 428 (120 * f + j) := fun j hj => by
      rw [f3 j (by omega) hj, o3.I (by omega), c2.I (by omega), o2.I (by omega), b2.I (by omega), a2.I (by omega), vo _ _ (by omega)]
    obtain ⟨l1, l2, l3⟩ := k3 i hi
    refine ⟨by rw [g _ (by omega)]; exact l1, by rw [Nat.add_assoc, g _ (by omega), ← Nat.add_assoc]; exact l2, by rw [Nat.add_assoc, g _ (by omega), ← Nat.add_assoc]; exact l3⟩
end PB
