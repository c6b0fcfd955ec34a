/-! BEDS: how many sleep together, as the reference finds it. -/
section BL
variable {d b s : Nat} {P : q_Pl} {st : q_St}
def xH (S : z_S) (b : Nat) (P : q_Pl) (st : q_St) : Prop := cM S b P ∧ mSt S 0 st ∧ q_Bd st
theorem xH.on {S S' : z_S} {D : Nat → Nat → Prop} (h : xH S b P st) (ho : onM D S S') (hd : ∀ c k, D c k → 432 ≤ c ∧ c ≤ 434) : xH S' b P st :=
  ⟨h.1.on ho fun c k z w => by have := hd c k w; omega, h.2.1.on h.2.2.2.2.1 ho fun c k z w => by have := hd c k w; unfold vD at z; omega, h.2.2⟩
def w_Gs (P : q_Pl) (st : q_St) : w_G := w_GP (q_h st) P
theorem m241 {S : z_S} {r : Nat} (h : xH S b P st) (hr : r < 16) : fI (d + 3) 241 [.ref 396, .int (nI r)] S = some (bI (w_op (w_Gs P st) r), S) := by
  have e := e241 (d + 2) (nI r) S h.1.1
  have a : fI (d + 2) 207 [.ref 396, .int (0 : Int32), .int (nI r)] S = _ := m207 (d := d) (v := 0) h.1.1 (by omega) h.2.1 h.2.2 hr
  rw [a, zb_some] at e
  show _ = some (bI (!(q_h st).testBit r), S)
  cases hb : (q_h st).testBit r with
  | true => rw [hb, if_pos (by decide)] at e; exact e
  | false => rw [hb, if_neg (by decide)] at e; exact e
/-- the heaps as cells -/
def xHp (S : z_S) (R : Nat) (g : Nat → Nat) : Prop := ∀ x, x < R → gI S 432 x = nI (g x)
theorem m242_l {R fr to : Nat} {g : Nat → Nat} (hR : R ≤ 16) (hb : b < 2) (hg : ∀ x, x < R → g x < 16) (hfr : fr < 16) : ∀ (m i : Nat) (S : z_S), i + m = R → z_W S → gI S 396 13 = nI b → gI S 398 b = nI R → (∀ x, x < i → gI S 432 x = nI (if g x = fr then to else g x)) → (∀ x, i ≤ x → x < R → gI S 432 x = nI (g x)) → ∃ S', b242_66 d (nI fr) (nI to) (nI i) S = some S' ∧ onM (fun c _ => c = 432) S S' ∧ ∀ x, x < R → gI S' 432 x = nI (if g x = fr then to else g x)
  | 0, i, S, hi, hW, h1, h2, hx, hy => by
    have e := b242_66_eq d (nI fr) (nI to) (nI i) S hW
    simp (disch := omega) only [ni_lit, nI_add, pk_mul, pk_sub, pk_div, nI_leI, nI_ltI, nI_eq, nI_clamp, ni_in, ni_inm, ni_ltm, ni_mlt, ni_lem, ni_mle, ni_eqm, ni_meq, ni_mm, ni_mmle, ni_bit, ni_shl, ni_clr, fa_or, Nat.add_zero, Nat.zero_add, Nat.zero_mul, Nat.mul_zero, eOn, eOs, if_true, if_false, not_true_eq_false, not_false_eq_true, ite_true, ite_false, true_and, and_true, false_and, and_false, or_true, true_or, or_false, false_or, Bool.false_eq_true, reduceIte, Bool.not_true, Bool.not_false, and_self, or_self, q_ef, q_et, q_ltt, q_ltf, q_let, q_lef, gIs, gIl, gIr, gLs, gLl, gLr, gPs, gPl, gPr, gLc, gPc, zb_some, Option.bind_some, q_nm, q_pm, q_hm, q_tm, q_sm, q_wm, q_ym, q_lm, q_ua, h1, h2] at e
    exact ⟨S, e, onM.refl hW, fun x hx2 => hx x (by omega)⟩
  | m + 1, i, S, hi, hW, h1, h2, hx, hy => by
    have e := b242_66_eq d (nI fr) (nI to) (nI i) S hW
    have nx : ∀ S1, z_W S1 → b242_100 d (nI fr) (nI to) (nI i) S1 = b242_66 d (nI fr) (nI to) (nI (i + 1)) S1 := fun S1 w => by rw [b242_100_eq d (nI fr) (nI to) (nI i) S1 w, nI_1]
    have hxi : gI S 432 i = nI (g i) := hy i (by omega) (by omega)
    have hgi := hg i (by omega)
    by_cases c : g i = fr
    · simp (disch := omega) only [ni_lit, nI_add, pk_mul, pk_sub, pk_div, nI_leI, nI_ltI, nI_eq, nI_clamp, ni_in, ni_inm, ni_ltm, ni_mlt, ni_lem, ni_mle, ni_eqm, ni_meq, ni_mm, ni_mmle, ni_bit, ni_shl, ni_clr, fa_or, Nat.add_zero, Nat.zero_add, Nat.zero_mul, Nat.mul_zero, eOn, eOs, if_true, if_false, not_true_eq_false, not_false_eq_true, ite_true, ite_false, true_and, and_true, false_and, and_false, or_true, true_or, or_false, false_or, Bool.false_eq_true, reduceIte, Bool.not_true, Bool.not_false, and_self, or_self, q_ef, q_et, q_ltt, q_ltf, q_let, q_lef, gIs, gIl, gIr, gLs, gLl, gLr, gPs, gPl, gPr, gLc, gPc, zb_some, Option.bind_some, q_nm, q_pm, q_hm, q_tm, q_sm, q_wm, q_ym, q_lm, q_ua, h1, h2, hxi] at e
      have hW2 : z_W (sI S 432 i (nI to)) := hW
      rw [nx _ hW2] at e
      obtain ⟨S2, a1, a2, a3⟩ := m242_l (fr := fr) (to := to) hR hb hg hfr m (i + 1) (sI S 432 i (nI to)) (by omega) hW2 (by simp (disch := omega) only [ni_lit, nI_add, pk_mul, pk_sub, pk_div, nI_leI, nI_ltI, nI_eq, nI_clamp, ni_in, ni_inm, ni_ltm, ni_mlt, ni_lem, ni_mle, ni_eqm, ni_meq, ni_mm, ni_mmle, ni_bit, ni_shl, ni_clr, fa_or, Nat.add_zero, Nat.zero_add, Nat.zero_mul, Nat.mul_zero, eOn, eOs, if_true, if_false, not_true_eq_false, not_false_eq_true, ite_true, ite_false, true_and, and_true, false_and, and_false, or_true, true_or, or_false, false_or, Bool.false_eq_true, reduceIte, Bool.not_true, Bool.not_false, and_self, or_self, q_ef, q_et, q_ltt, q_ltf, q_let, q_lef, gIs, gIl, gIr, gLs, gLl, gLr, gPs, gPl, gPr, gLc, gPc, zb_some, Option.bind_some, q_nm, q_pm, q_hm, q_tm, q_sm, q_wm, q_ym, q_lm, q_ua, h1]) (by simp (disch := omega) only [ni_lit, nI_add, pk_mul, pk_sub, pk_div, nI_leI, nI_ltI, nI_eq, nI_clamp, ni_in, ni_inm, ni_ltm, ni_mlt, ni_lem, ni_mle, ni_eqm, ni_meq, ni_mm, ni_mmle, ni_bit, ni_shl, ni_clr, fa_or, Nat.add_zero, Nat.zero_add, Nat.zero_mul, Nat.mul_zero, eOn, eOs, if_true, if_false, not_true_eq_false, not_false_eq_true, ite_true, ite_false, true_and, and_true, false_and, and_false, or_true, true_or, or_false, false_or, Bool.false_eq_true, reduceIte, Bool.not_true, Bool.not_false, and_self, or_self, q_ef, q_et, q_ltt, q_ltf, q_let, q_lef, gIs, gIl, gIr, gLs, gLl, gLr, gPs, gPl, gPr, gLc, gPc, zb_some, Option.bind_some, q_nm, q_pm, q_hm, q_tm, q_sm, q_wm, q_ym, q_lm, q_ua, h2]) (fun x hx2 => by
        by_cases z : x = i
        · rw [z, if_pos c]
          simp (disch := omega) only [ni_lit, nI_add, pk_mul, pk_sub, pk_div, nI_leI, nI_ltI, nI_eq, nI_clamp, ni_in, ni_inm, ni_ltm, ni_mlt, ni_lem, ni_mle, ni_eqm, ni_meq, ni_mm, ni_mmle, ni_bit, ni_shl, ni_clr, fa_or, Nat.add_zero, Nat.zero_add, Nat.zero_mul, Nat.mul_zero, eOn, eOs, if_true, if_false, not_true_eq_false, not_false_eq_true, ite_true, ite_false, true_and, and_true, false_and, and_false, or_true, true_or, or_false, false_or, Bool.false_eq_true, reduceIte, Bool.not_true, Bool.not_false, and_self, or_self, q_ef, q_et, q_ltt, q_ltf, q_let, q_lef, gIs, gIl, gIr, gLs, gLl, gLr, gPs, gPl, gPr, gLc, gPc, zb_some, Option.bind_some, q_nm, q_pm, q_hm, q_tm, q_sm, q_wm, q_ym, q_lm, q_ua]
        · rw [← hx x (by omega)]
          simp (disch := omega) only [ni_lit, nI_add, pk_mul, pk_sub, pk_div, nI_leI, nI_ltI, nI_eq, nI_clamp, ni_in, ni_inm, ni_ltm, ni_mlt, ni_lem, ni_mle, ni_eqm, ni_meq, ni_mm, ni_mmle, ni_bit, ni_shl, ni_clr, fa_or, Nat.add_zero, Nat.zero_add, Nat.zero_mul, Nat.mul_zero, eOn, eOs, if_true, if_false, not_true_eq_false, not_false_eq_true, ite_true, ite_false, true_and, and_true, false_and, and_false, or_true, true_or, or_false, false_or, Bool.false_eq_true, reduceIte, Bool.not_true, Bool.not_false, and_self, or_self, q_ef, q_et, q_ltt, q_ltf, q_let, q_lef, gIs, gIl, gIr, gLs, gLl, gLr, gPs, gPl, gPr, gLc, gPc, zb_some, Option.bind_some, q_nm, q_pm, q_hm, q_tm, q_sm, q_wm, q_ym, q_lm, q_ua]) (fun x z1 z2 => by
        rw [← hy x (by omega) z2]
        simp (disch := omega) only [ni_lit, nI_add, pk_mul, pk_sub, pk_div, nI_leI, nI_ltI, nI_eq, nI_clamp, ni_in, ni_inm, ni_ltm, ni_mlt, ni_lem, ni_mle, ni_eqm, ni_meq, ni_mm, ni_mmle, ni_bit, ni_shl, ni_clr, fa_or, Nat.add_zero, Nat.zero_add, Nat.zero_mul, Nat.mul_zero, eOn, eOs, if_true, if_false, not_true_eq_false, not_false_eq_true, ite_true, ite_false, true_and, and_true, false_and, and_false, or_true, true_or, or_false, false_or, Bool.false_eq_true, reduceIte, Bool.not_true, Bool.not_false, and_self, or_self, q_ef, q_et, q_ltt, q_ltf, q_let, q_lef, gIs, gIl, gIr, gLs, gLl, gLr, gPs, gPl, gPr, gLc, gPc, zb_some, Option.bind_some, q_nm, q_pm, q_hm, q_tm, q_sm, q_wm, q_ym, q_lm, q_ua])
      exact ⟨S2, e.trans a1, (onM_sI (D := fun c _ => c = 432) (c := 432) (onM.refl hW) rfl).trans a2, a3⟩
    · simp (disch := omega) only [ni_lit, nI_add, pk_mul, pk_sub, pk_div, nI_leI, nI_ltI, nI_eq, nI_clamp, ni_in, ni_inm, ni_ltm, ni_mlt, ni_lem, ni_mle, ni_eqm, ni_meq, ni_mm, ni_mmle, ni_bit, ni_shl, ni_clr, fa_or, Nat.add_zero, Nat.zero_add, Nat.zero_mul, Nat.mul_zero, eOn, eOs, if_true, if_false, not_true_eq_false, not_false_eq_true, ite_true, ite_false, true_and, and_true, false_and, and_false, or_true, true_or, or_false, false_or, Bool.false_eq_true, reduceIte, Bool.not_true, Bool.not_false, and_self, or_self, q_ef, q_et, q_ltt, q_ltf, q_let, q_lef, gIs, gIl, gIr, gLs, gLl, gLr, gPs, gPl, gPr, gLc, gPc, zb_some, Option.bind_some, q_nm, q_pm, q_hm, q_tm, q_sm, q_wm, q_ym, q_lm, q_ua, h1, h2, hxi] at e
      rw [nx _ hW] at e
      obtain ⟨S2, a1, a2, a3⟩ := m242_l (fr := fr) (to := to) hR hb hg hfr m (i + 1) S (by omega) hW h1 h2 (fun x hx2 => by
        by_cases z : x = i
        · rw [z, if_neg c]; exact hxi
        · exact hx x (by omega)) (fun x z1 z2 => hy x (by omega) z2)
      exact ⟨S2, e.trans a1, a2, a3⟩
theorem m242 {S : z_S} {a c : Nat} {g : Nat → Nat} (h : cM S b P) (hg : ∀ x, x < p_R P → g x < 16) (hx : xHp S (p_R P) g) (ha : a < p_R P) (hc : c < p_R P) : ∃ S', fV (d + 1) 242 [.ref 396, .int (nI a), .int (nI c)] S = some S' ∧ onM (fun c _ => c = 432) S S' ∧ xHp S' (p_R P) (w_hg g a c) := by
  obtain ⟨hW, hb, hbk, hC, hP⟩ := h
  have hR := hP.1
  have e := e242 d (nI a) (nI c) S hW
  have ga := hg a ha
  have gc := hg c hc
  have xa := hx a ha
  have xc := hx c hc
  have l := m242_l (d := d) (b := b) (fr := max (g a) (g c)) (to := min (g a) (g c)) (g := g) hR hb hg (by omega) (p_R P) 0 S (by omega) hW hbk hC.1 (fun x z => by omega) (fun x _ z => hx x z)
  obtain ⟨S', l1, l2, l3⟩ := l
  refine ⟨S', ?_, l2, l3⟩
  have t : ∀ u v, b242_61 d (nI u) (nI v) S = b242_66 d (nI u) (nI v) (nI 0) S := fun u v => b242_61_eq d (nI u) (nI v) S hW
  by_cases z : g a ≤ g c
  · have e2 := b242_30_eq d (nI a) (nI c) (nI (g c)) S hW
    simp (disch := omega) only [ni_lit, nI_add, pk_mul, pk_sub, pk_div, nI_leI, nI_ltI, nI_eq, nI_clamp, ni_in, ni_inm, ni_ltm, ni_mlt, ni_lem, ni_mle, ni_eqm, ni_meq, ni_mm, ni_mmle, ni_bit, ni_shl, ni_clr, fa_or, Nat.add_zero, Nat.zero_add, Nat.zero_mul, Nat.mul_zero, eOn, eOs, if_true, if_false, not_true_eq_false, not_false_eq_true, ite_true, ite_false, true_and, and_true, false_and, and_false, or_true, true_or, or_false, false_or, Bool.false_eq_true, reduceIte, Bool.not_true, Bool.not_false, and_self, or_self, q_ef, q_et, q_ltt, q_ltf, q_let, q_lef, gIs, gIl, gIr, gLs, gLl, gLr, gPs, gPl, gPr, gLc, gPc, zb_some, Option.bind_some, q_nm, q_pm, q_hm, q_tm, q_sm, q_wm, q_ym, q_lm, q_ua, xa, xc] at e e2
    rw [e, e2, t]
    rw [Nat.max_eq_right z, Nat.min_eq_left z] at l1
    exact l1
  · have e2 := b242_30_eq d (nI a) (nI c) (nI (g a)) S hW
    simp (disch := omega) only [ni_lit, nI_add, pk_mul, pk_sub, pk_div, nI_leI, nI_ltI, nI_eq, nI_clamp, ni_in, ni_inm, ni_ltm, ni_mlt, ni_lem, ni_mle, ni_eqm, ni_meq, ni_mm, ni_mmle, ni_bit, ni_shl, ni_clr, fa_or, Nat.add_zero, Nat.zero_add, Nat.zero_mul, Nat.mul_zero, eOn, eOs, if_true, if_false, not_true_eq_false, not_false_eq_true, ite_true, ite_false, true_and, and_true, false_and, and_false, or_true, true_or, or_false, false_or, Bool.false_eq_true, reduceIte, Bool.not_true, Bool.not_false, and_self, or_self, q_ef, q_et, q_ltt, q_ltf, q_let, q_lef, gIs, gIl, gIr, gLs, gLl, gLr, gPs, gPl, gPr, gLc, gPc, zb_some, Option.bind_some, q_nm, q_pm, q_hm, q_tm, q_sm, q_wm, q_ym, q_lm, q_ua, xa, xc] at e e2
    rw [e, e2, t]
    rw [Nat.max_eq_left (by omega), Nat.min_eq_right (by omega)] at l1
    exact l1
/-- the lodgers below n, the last one first -/
def w_dl (s : Nat) : Nat → List Nat
  | 0 => []
  | n + 1 => if s.testBit n then n :: w_dl s n else w_dl s n
theorem w_dl_sl (s : Nat) : ∀ n, List.Perm (w_sl n s) (w_dl s n)
  | 0 => List.Perm.refl _
  | n + 1 => by
    have ih := w_dl_sl s n
    unfold w_sl at ih ⊢
    rw [List.range_succ, List.filter_append, w_dl, List.filter_cons, List.filter_nil]
    split
    · exact List.perm_append_comm.trans (List.Perm.cons n ih)
    · rw [List.append_nil]; exact ih
theorem w_dl_ok (hP : p_Wf P) (sh : Nat) {n : Nat} (hn : n ≤ p_L P) : w_ok (w_GP sh P) (p_R P) (w_dl s n) := fun k hk => w_GP_ok hP sh k (by have := (w_sl_mem.mp ((w_dl_sl s n).mem_iff.mpr hk)).1; omega)
theorem w_lb_o {G : w_G} {k : Nat} {l : List Nat} (h : ¬ (w_op G (w_f G k) = true ∧ w_op G (w_o G k) = true)) : w_lb G (k :: l) = w_lb G l := by
  rw [w_lb]
  split
  · rename_i c
    refine w_hg_eq (congrArg _ ?_)
    unfold w_r1 w_r2
    cases hf : w_op G (w_f G k) with
    | true =>
      cases ho : w_op G (w_o G k) with
      | true => exact absurd ⟨hf, ho⟩ h
      | false => rfl
    | false =>
      cases ho : w_op G (w_o G k) with
      | true => rfl
      | false =>
        unfold w_an at c
        rw [hf, ho] at c
        cases c
  · rfl
theorem w_lb_b {G : w_G} {k : Nat} {l : List Nat} (h1 : w_op G (w_f G k) = true) (h2 : w_op G (w_o G k) = true) : w_lb G (k :: l) = w_hg (w_lb G l) (w_f G k) (w_o G k) := by
  rw [w_lb]
  unfold w_an w_r1 w_r2
  rw [h1, h2]
  rfl
theorem m243_2 {y : Int32} : ∀ (m i : Nat) (S : z_S), i + m = 16 → z_W S → (∀ x, x < i → gI S 432 x = nI x ∧ gI S 433 x = nI 0 ∧ gI S 434 x = nI 0) → ∃ S', b243_2 d y (nI i) S = b243_37 d y (nI 0) S' ∧ onM (fun c _ => 432 ≤ c ∧ c ≤ 434) S S' ∧ ∀ x, x < 16 → gI S' 432 x = nI x ∧ gI S' 433 x = nI 0 ∧ gI S' 434 x = nI 0
  | 0, i, S, hi, hW, hx => by
    have e := b243_2_eq d y (nI i) S hW
    simp (disch := omega) only [ni_lit, nI_add, pk_mul, pk_sub, pk_div, nI_leI, nI_ltI, nI_eq, nI_clamp, ni_in, ni_inm, ni_ltm, ni_mlt, ni_lem, ni_mle, ni_eqm, ni_meq, ni_mm, ni_mmle, ni_bit, ni_shl, ni_clr, fa_or, Nat.add_zero, Nat.zero_add, Nat.zero_mul, Nat.mul_zero, eOn, eOs, if_true, if_false, not_true_eq_false, not_false_eq_true, ite_true, ite_false, true_and, and_true, false_and, and_false, or_true, true_or, or_false, false_or, Bool.false_eq_true, reduceIte, Bool.not_true, Bool.not_false, and_self, or_self, q_ef, q_et, q_ltt, q_ltf, q_let, q_lef, gIs, gIl, gIr, gLs, gLl, gLr, gPs, gPl, gPr, gLc, gPc, zb_some, Option.bind_some, q_nm, q_pm, q_hm, q_tm, q_sm, q_wm, q_ym, q_lm, q_ua] at e
    exact ⟨S, e, onM.refl hW, fun x h => hx x (by omega)⟩
  | m + 1, i, S, hi, hW, hx => by
    have e := b243_2_eq d y (nI i) S hW
    simp (disch := omega) only [ni_lit, nI_add, pk_mul, pk_sub, pk_div, nI_leI, nI_ltI, nI_eq, nI_clamp, ni_in, ni_inm, ni_ltm, ni_mlt, ni_lem, ni_mle, ni_eqm, ni_meq, ni_mm, ni_mmle, ni_bit, ni_shl, ni_clr, fa_or, Nat.add_zero, Nat.zero_add, Nat.zero_mul, Nat.mul_zero, eOn, eOs, if_true, if_false, not_true_eq_false, not_false_eq_true, ite_true, ite_false, true_and, and_true, false_and, and_false, or_true, true_or, or_false, false_or, Bool.false_eq_true, reduceIte, Bool.not_true, Bool.not_false, and_self, or_self, q_ef, q_et, q_ltt, q_ltf, q_let, q_lef, gIs, gIl, gIr, gLs, gLl, gLr, gPs, gPl, gPr, gLc, gPc, zb_some, Option.bind_some, q_nm, q_pm, q_hm, q_tm, q_sm, q_wm, q_ym, q_lm, q_ua] at e
    have hW2 : z_W (sI (sI (sI S 432 i (nI i)) 433 i (nI 0)) 434 i (nI 0)) := hW
    obtain ⟨S', a1, a2, a3⟩ := m243_2 (y := y) m (i + 1) _ (by omega) hW2 fun x h => by
      by_cases z : x = i
      · rw [z]
        simp (disch := omega) only [ni_lit, nI_add, pk_mul, pk_sub, pk_div, nI_leI, nI_ltI, nI_eq, nI_clamp, ni_in, ni_inm, ni_ltm, ni_mlt, ni_lem, ni_mle, ni_eqm, ni_meq, ni_mm, ni_mmle, ni_bit, ni_shl, ni_clr, fa_or, Nat.add_zero, Nat.zero_add, Nat.zero_mul, Nat.mul_zero, eOn, eOs, if_true, if_false, not_true_eq_false, not_false_eq_true, ite_true, ite_false, true_and, and_true, false_and, and_false, or_true, true_or, or_false, false_or, Bool.false_eq_true, reduceIte, Bool.not_true, Bool.not_false, and_self, or_self, q_ef, q_et, q_ltt, q_ltf, q_let, q_lef, gIs, gIl, gIr, gLs, gLl, gLr, gPs, gPl, gPr, gLc, gPc, zb_some, Option.bind_some, q_nm, q_pm, q_hm, q_tm, q_sm, q_wm, q_ym, q_lm, q_ua]
      · have := hx x (by omega)
        simp (disch := omega) only [ni_lit, nI_add, pk_mul, pk_sub, pk_div, nI_leI, nI_ltI, nI_eq, nI_clamp, ni_in, ni_inm, ni_ltm, ni_mlt, ni_lem, ni_mle, ni_eqm, ni_meq, ni_mm, ni_mmle, ni_bit, ni_shl, ni_clr, fa_or, Nat.add_zero, Nat.zero_add, Nat.zero_mul, Nat.mul_zero, eOn, eOs, if_true, if_false, not_true_eq_false, not_false_eq_true, ite_true, ite_false, true_and, and_true, false_and, and_false, or_true, true_or, or_false, false_or, Bool.false_eq_true, reduceIte, Bool.not_true, Bool.not_false, and_self, or_self, q_ef, q_et, q_ltt, q_ltf, q_let, q_lef, gIs, gIl, gIr, gLs, gLl, gLr, gPs, gPl, gPr, gLc, gPc, zb_some, Option.bind_some, q_nm, q_pm, q_hm, q_tm, q_sm, q_wm, q_ym, q_lm, q_ua, this.1, this.2.1, this.2.2]
    refine ⟨S', e.trans a1, onM.trans ?_ a2, a3⟩
    exact onM_sI (D := fun c _ => 432 ≤ c ∧ c ≤ 434) (c := 434) (k := i) (onM_sI (D := fun c _ => 432 ≤ c ∧ c ≤ 434) (c := 433) (k := i) (onM_sI (D := fun c _ => 432 ≤ c ∧ c ≤ 434) (c := 432) (k := i) (onM.refl hW) ⟨by omega, by omega⟩) ⟨by omega, by omega⟩) ⟨by omega, by omega⟩
theorem m243_37 (hs : s < 65536) : ∀ (m k : Nat) (S : z_S), k + m = p_L P → xH S b P st → xHp S (p_R P) (w_lb (w_Gs P st) (w_dl s k)) → ∃ S', b243_37 (d + 4) (nI s) (nI k) S = b243_104 (d + 4) (nI s) (nI 0) S' ∧ onM (fun c _ => c = 432) S S' ∧ xHp S' (p_R P) (w_lb (w_Gs P st) (w_dl s (p_L P)))
  | 0, k, S, hk, h, hx => by
    have e := b243_37_eq (d + 4) (nI s) (nI k) S h.1.1
    have hbk := h.1.2.2.1
    have hL := h.1.2.2.2.2.2.2.2.2.1
    have hl := h.1.2.2.2.1.2.2.2.2.1
    have hb := h.1.2.1
    simp (disch := omega) only [ni_lit, nI_add, pk_mul, pk_sub, pk_div, nI_leI, nI_ltI, nI_eq, nI_clamp, ni_in, ni_inm, ni_ltm, ni_mlt, ni_lem, ni_mle, ni_eqm, ni_meq, ni_mm, ni_mmle, ni_bit, ni_shl, ni_clr, fa_or, Nat.add_zero, Nat.zero_add, Nat.zero_mul, Nat.mul_zero, eOn, eOs, if_true, if_false, not_true_eq_false, not_false_eq_true, ite_true, ite_false, true_and, and_true, false_and, and_false, or_true, true_or, or_false, false_or, Bool.false_eq_true, reduceIte, Bool.not_true, Bool.not_false, and_self, or_self, q_ef, q_et, q_ltt, q_ltf, q_let, q_lef, gIs, gIl, gIr, gLs, gLl, gLr, gPs, gPl, gPr, gLc, gPc, zb_some, Option.bind_some, q_nm, q_pm, q_hm, q_tm, q_sm, q_wm, q_ym, q_lm, q_ua, hbk, hl] at e
    rw [show k = p_L P by omega] at hx
    exact ⟨S, e, onM.refl h.1.1, hx⟩
  | m + 1, k, S, hk, h, hx => by
    have e := b243_37_eq (d + 4) (nI s) (nI k) S h.1.1
    have hW := h.1.1
    have hbk := h.1.2.2.1
    have hP := h.1.2.2.2.2
    have hL := hP.2.2.2.2.1
    have hR := hP.1
    have hl := h.1.2.2.2.1.2.2.2.2.1
    have hb := h.1.2.1
    obtain ⟨f1, f2, f3⟩ := hP.2.2.2.2.2.2.2.1 k (by omega)
    have nx : ∀ S1, z_W S1 → b243_96 (d + 4) (nI s) (nI k) S1 = b243_37 (d + 4) (nI s) (nI (k + 1)) S1 := fun S1 w => by rw [b243_96_eq (d + 4) (nI s) (nI k) S1 w, nI_1]
    have a182 := m182 (d := d + 3) (a := s) (r := k) hW (by omega) (by omega)
    have a210 := m210 (d := d + 3) (k := k) h.1 (by omega)
    have a211 := m211 (d := d + 3) (k := k) h.1 (by omega)
    have af := m241 (d := d + 1) (r := p_f P k) h (by omega)
    have ao := m241 (d := d + 1) (r := p_o P k) h (by omega)
    simp (disch := omega) only [ni_lit, nI_add, pk_mul, pk_sub, pk_div, nI_leI, nI_ltI, nI_eq, nI_clamp, ni_in, ni_inm, ni_ltm, ni_mlt, ni_lem, ni_mle, ni_eqm, ni_meq, ni_mm, ni_mmle, ni_bit, ni_shl, ni_clr, fa_or, Nat.add_zero, Nat.zero_add, Nat.zero_mul, Nat.mul_zero, eOn, eOs, if_true, if_false, not_true_eq_false, not_false_eq_true, ite_true, ite_false, true_and, and_true, false_and, and_false, or_true, true_or, or_false, false_or, Bool.false_eq_true, reduceIte, Bool.not_true, Bool.not_false, and_self, or_self, q_ef, q_et, q_ltt, q_ltf, q_let, q_lef, gIs, gIl, gIr, gLs, gLl, gLr, gPs, gPl, gPr, gLc, gPc, zb_some, Option.bind_some, q_nm, q_pm, q_hm, q_tm, q_sm, q_wm, q_ym, q_lm, q_ua, hbk, hl, a182, a210, a211, af, ao, bI_0] at e
    have go : ∀ S1, xH S1 b P st → onM (fun c _ => c = 432) S S1 → xHp S1 (p_R P) (w_lb (w_Gs P st) (w_dl s (k + 1))) → ∃ S', b243_96 (d + 4) (nI s) (nI k) S1 = b243_104 (d + 4) (nI s) (nI 0) S' ∧ onM (fun c _ => c = 432) S S' ∧ xHp S' (p_R P) (w_lb (w_Gs P st) (w_dl s (p_L P))) := fun S1 h1 o1 x1 => by
      rw [nx S1 h1.1.1]
      obtain ⟨S', a1, a2, a3⟩ := m243_37 hs m (k + 1) S1 (by omega) h1 x1
      exact ⟨S', a1, o1.trans a2, a3⟩
    cases ht : s.testBit k with
    | false =>
      simp only [ht, if_true, if_false, not_true_eq_false, not_false_eq_true, ite_true, ite_false, true_and, and_true, false_and, and_false, or_true, true_or, or_false, false_or, Bool.false_eq_true, reduceIte, Bool.not_true, Bool.not_false, and_self, or_self] at e
      rw [e]
      exact go S h (onM.refl hW) (by rw [w_dl, ht, if_neg (by decide)]; exact hx)
    | true =>
      simp only [ht, if_true, if_false, not_true_eq_false, not_false_eq_true, ite_true, ite_false, true_and, and_true, false_and, and_false, or_true, true_or, or_false, false_or, Bool.false_eq_true, reduceIte, Bool.not_true, Bool.not_false, and_self, or_self, Bool.true_eq_false] at e
      have hdl : w_dl s (k + 1) = k :: w_dl s k := by rw [w_dl, ht, if_pos rfl]
      cases hf : w_op (w_Gs P st) (p_f P k) with
      | false =>
        simp only [hf, if_true, if_false, not_true_eq_false, not_false_eq_true, ite_true, ite_false, true_and, and_true, false_and, and_false, or_true, true_or, or_false, false_or, Bool.false_eq_true, reduceIte, Bool.not_true, Bool.not_false, and_self, or_self] at e
        rw [e]
        exact go S h (onM.refl hW) (by rw [hdl, w_lb_o (fun z => by have := z.1.symm.trans (show w_op (w_Gs P st) (w_f (w_Gs P st) k) = false from hf); cases this)]; exact hx)
      | true =>
        simp only [hf, if_true, if_false, not_true_eq_false, not_false_eq_true, ite_true, ite_false, true_and, and_true, false_and, and_false, or_true, true_or, or_false, false_or, Bool.false_eq_true, reduceIte, Bool.not_true, Bool.not_false, and_self, or_self, Bool.true_eq_false] at e
        cases ho : w_op (w_Gs P st) (p_o P k) with
        | false =>
          simp only [ho, if_true, if_false, not_true_eq_false, not_false_eq_true, ite_true, ite_false, true_and, and_true, false_and, and_false, or_true, true_or, or_false, false_or, Bool.false_eq_true, reduceIte, Bool.not_true, Bool.not_false, and_self, or_self] at e
          rw [e]
          exact go S h (onM.refl hW) (by rw [hdl, w_lb_o (fun z => by have := z.2.symm.trans (show w_op (w_Gs P st) (w_o (w_Gs P st) k) = false from ho); cases this)]; exact hx)
        | true =>
          obtain ⟨S1, b1, b2, b3⟩ := m242 (d := d + 3) h.1 (fun x hx2 => Nat.lt_of_lt_of_le (w_lb_lt (w_dl s k) hx2) hR) hx f1 f2
          simp only [ho, if_true, if_false, not_true_eq_false, not_false_eq_true, ite_true, ite_false, true_and, and_true, false_and, and_false, or_true, true_or, or_false, false_or, Bool.false_eq_true, reduceIte, Bool.not_true, Bool.not_false, and_self, or_self, Bool.true_eq_false, b1, Option.bind_some] at e
          rw [e]
          exact go S1 (h.on b2 fun c k z => by omega) b2 (by rw [hdl, w_lb_b hf ho]; exact b3)
end BL
