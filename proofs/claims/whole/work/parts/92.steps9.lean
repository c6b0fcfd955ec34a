/-! STEPS: the reference tries so many steps. -/
section TZ8
variable {d b : Nat} {S : z_S} {A : q_A} {k T : Nat}
/-- what of the reference is needed while steps are tried -/
def mB (S : z_S) (A : q_A) (b : Nat) : Prop := cM S b (a_P A) ∧ gI S 396 42 = bI (decide (0 < p_m (a_P A))) ∧ mSt S 0 (a_s A) ∧ mKp S 0 (a_kl A) ∧ mMt S (a_mt A)
theorem mB.on {D : Nat → Nat → Prop} {S' : z_S} (h : mB S A b) (hA : aOk A) (ho : onM D S S') (hd : ∀ c j, D c j → vD 1 c j ∨ kD 1 c j ∨ 429 ≤ c ∧ c ≤ 434 ∨ 438 ≤ c ∧ c ≤ 440 ∨ c = 396 ∧ j = 56) : mB S' A b := by
  obtain ⟨h1, h2, h3, h4, h5⟩ := h
  have hl := (hA.2.1.Bd hA.1).2.2.1
  have hd' : ∀ c j, ¬ (vD 1 c j ∨ kD 1 c j ∨ 429 ≤ c ∧ c ≤ 434 ∨ 438 ≤ c ∧ c ≤ 440 ∨ c = 396 ∧ j = 56) → ¬ D c j := fun c j w z => w (hd c j z)
  unfold vD kD at hd'
  refine ⟨h1.on ho (fun c j z => hd' c j (by omega)), by rw [ho.I (hd' _ _ (by omega))]; exact h2, h3.ag hl (ho.ag fun c j z => hd' c j (by unfold vD at z; omega)), h4.ag (ho.ag fun c j z => hd' c j (by unfold kD at z; omega)), h5.ag (ho.ag fun c j z => hd' c j (by omega))⟩
theorem m235b {x : Int32} {a c n : Nat} {m : Bool} (hW : z_W S) (h1 : gI S 396 42 = bI m) (hn0 : gI S 420 0 = nI n) (hn : n ≤ 999) (ha : a ≤ 40) (hc : c ≤ 40) {j : Nat} (hx : x = nI j) (hj : j ≤ 100) : fI (d + 2) 235 [.ref 396, .int x, .int (nI a), .int (nI c)] S = some (bI (m && decide (a ≤ j ∧ j ≤ c ∧ n + j ≤ 999)), S) := by
  subst hx
  have e := e235 (d + 1) (nI j) (nI a) (nI c) S hW
  rw [h1, m155 hW (by omega) (by omega), nI_toInt (by omega), zb_some] at e
  simp only [b235_34_eq (d + 1) S hW] at e
  cases m with
  | false => rw [if_pos (by decide)] at e; exact e
  | true =>
    rw [if_neg (by decide)] at e
    rw [Bool.true_and]
    by_cases c2 : (a : Int) ≤ (j : Int) ∧ (j : Int) ≤ (c : Int)
    · rw [decide_eq_true c2, if_neg (by decide)] at e
      by_cases c3 : n + j ≤ 999
      · simp (disch := omega) only [ni_lit, nI_add, pk_mul, pk_sub, pk_div, nI_leI, nI_ltI, nI_eq, nI_clamp, ni_in, ni_inm, ni_ltm, ni_mlt, ni_lem, ni_mle, ni_eqm, ni_meq, ni_mm, ni_mmle, ni_bit, ni_shl, ni_clr, fa_or, Nat.add_zero, Nat.zero_add, Nat.zero_mul, Nat.mul_zero, eOn, eOs, if_true, if_false, not_true_eq_false, not_false_eq_true, ite_true, ite_false, true_and, and_true, false_and, and_false, or_true, true_or, or_false, false_or, Bool.false_eq_true, reduceIte, Bool.not_true, Bool.not_false, and_self, or_self, q_ef, q_et, q_ltt, q_ltf, q_let, q_lef, gIs, gIl, gIr, gLs, gLl, gLr, gPs, gPl, gPr, gLc, gPc, zb_some, Option.bind_some, q_nm, q_pm, q_hm, q_tm, q_sm, q_wm, q_ym, q_lm, q_ua, hn0] at e
        rw [decide_eq_true (by omega)]; exact e
      · simp (disch := omega) only [ni_lit, nI_add, pk_mul, pk_sub, pk_div, nI_leI, nI_ltI, nI_eq, nI_clamp, ni_in, ni_inm, ni_ltm, ni_mlt, ni_lem, ni_mle, ni_eqm, ni_meq, ni_mm, ni_mmle, ni_bit, ni_shl, ni_clr, fa_or, Nat.add_zero, Nat.zero_add, Nat.zero_mul, Nat.mul_zero, eOn, eOs, if_true, if_false, not_true_eq_false, not_false_eq_true, ite_true, ite_false, true_and, and_true, false_and, and_false, or_true, true_or, or_false, false_or, Bool.false_eq_true, reduceIte, Bool.not_true, Bool.not_false, and_self, or_self, q_ef, q_et, q_ltt, q_ltf, q_let, q_lef, gIs, gIl, gIr, gLs, gLl, gLr, gPs, gPl, gPr, gLc, gPc, zb_some, Option.bind_some, q_nm, q_pm, q_hm, q_tm, q_sm, q_wm, q_ym, q_lm, q_ua, hn0] at e
        rw [decide_eq_false (by omega)]; exact e
    · rw [decide_eq_false c2, if_pos (by decide)] at e
      rw [decide_eq_false (by omega)]; exact e
def yD (T nt : Nat) : Nat → Nat → Prop := fun c j => c = 439 ∧ 496 * T + 16 * nt ≤ j ∧ j < 496 * T + 16 * nt + 16
theorem m254_a {P : q_Pl} {y3 : Int32} {nt : Nat} (hT : T ≤ 40) (hnt : nt ≤ 30) : ∀ (m i : Nat) (S : z_S), i + m = p_R P → cM S b P → ∃ S', b254_38 d (nI T) y3 (nI nt) (nI i) S = b254_89 d (nI T) y3 (nI nt) (0 : Int32) S' ∧ onM (yD T nt) S S' ∧ ∀ r, r < p_R P → gI S' 439 (496 * T + 16 * nt + r) = if i ≤ r then gI S 423 (16 + r) else gI S 439 (496 * T + 16 * nt + r)
  | 0, i, S, hi, hM => by
    have hR := hM.2.2.2.2.1
    have hb := hM.2.1
    have e := b254_38_eq d (nI T) y3 (nI nt) (nI i) S hM.1
    have g : gI S 398 (nI b).toNatClampNeg = nI (p_R P) := by rw [nI_clamp (by omega)]; exact hM.2.2.2.1.1
    rw [hM.2.2.1, if_pos ((ni_in (by omega)).mpr (by omega)), g, if_pos ((nI_leI (by omega) (by omega)).mpr (by omega))] at e
    exact ⟨S, e, onM.refl hM.1, fun r h2 => by rw [if_neg (by omega)]⟩
  | m + 1, i, S, hi, hM => by
    have hR := hM.2.2.2.2.1
    have hb := hM.2.1
    have e := b254_38_eq d (nI T) y3 (nI nt) (nI i) S hM.1
    have g : gI S 398 (nI b).toNatClampNeg = nI (p_R P) := by rw [nI_clamp (by omega)]; exact hM.2.2.2.1.1
    have x1 : (16 : Int32) * (((31 : Int32) * nI T) + nI nt) + nI i = nI (496 * T + 16 * nt + i) := by
      rw [show (31 : Int32) * nI T = nI (31 * T) from pk_mul 31 T, nI_add, show (16 : Int32) * nI (31 * T + nt) = nI (16 * (31 * T + nt)) from pk_mul 16 _, nI_add]
      congr 1
      omega
    rw [hM.2.2.1, if_pos ((ni_in (by omega)).mpr (by omega)), g, if_neg (show ¬ nI (p_R P) ≤ nI i from fun z => by have := (nI_leI (by omega) (by omega)).mp z; omega), show (16 : Int32) + nI i = nI (16 + i) from nI_add 16 i, x1, if_pos ((ni_in (by omega)).mpr (by omega)), if_pos ((ni_in (by omega)).mpr (by omega)), show (nI (496 * T + 16 * nt + i)).toNatClampNeg = 496 * T + 16 * nt + i from nI_clamp (by omega), show (nI (16 + i)).toNatClampNeg = 16 + i from nI_clamp (by omega), show nI i + (1 : Int32) = nI (i + 1) from nI_add i 1] at e
    have o : onM (yD T nt) S (sI S 439 (496 * T + 16 * nt + i) (gI S 423 (16 + i))) := onM_sI (D := yD T nt) (c := 439) (onM.refl hM.1) (by unfold yD; omega)
    obtain ⟨S', a1, a2, a3⟩ := m254_a hT hnt m (i + 1) _ (by omega) (hM.on o (fun c j z => by unfold yD; omega))
    refine ⟨S', e.trans a1, o.trans a2, fun r h2 => ?_⟩
    rw [a3 r h2]
    by_cases z : r = i
    · rw [z, if_neg (by omega), if_pos (Nat.le_refl _), gI_sI, if_pos rfl, if_pos rfl]
    · by_cases w : i ≤ r
      · rw [if_pos (by omega), if_pos w, gI_sI, if_neg (by decide)]
      · rw [if_neg (by omega), if_neg w, gI_sI, if_pos rfl, if_neg (by omega)]
theorem q_dg {α : Type} {l : List α} {i : Nat} (z : α) (h : i < l.length) : l.drop i = l.getD i z :: l.drop (i + 1) := by
  rw [List.drop_eq_getElem_cons h, List.getD_eq_getElem?_getD, List.getElem?_eq_getElem h]
  rfl
/-- a row is so tonight -/
def q_rn (nt : Nat) (e : q_St) (x : Nat × Nat × Nat) : Bool := decide (x.1 = nt) && decide (q_s e x.2.1 = if x.2.2 = 255 then none else some x.2.2)
theorem m254_b {P : q_Pl} {mt : List (Nat × Nat × Nat)} {e : q_St} {nt : Nat} (hP : p_Wf P) (hm : mtOk P mt) (hW : z_W S) (hM : mMt S mt) (hs : mSt S 1 e) (hB : q_Bd e) (hnt : nt ≤ 30) : ∀ (m i c : Nat), i + m = mt.length → b254_89 d (nI T) (nI c) (nI nt) (nI i) S = (zb (fI d 226 [.ref 396, .int (1 : Int32)] S) fun v14 S15 => b254_23 d (nI T) (nI (c + (mt.drop i).countP (q_rn nt e))) (nI (nt + 1)) S15)
  | 0, i, c, hi => by
    have h16 := hm.1
    have ee := b254_89_eq d (nI T) (nI c) (nI nt) (nI i) S hW
    rw [hM.1, if_pos ((nI_leI (by omega) (by omega)).mpr (by omega)), show nI nt + (1 : Int32) = nI (nt + 1) from nI_add nt 1] at ee
    rw [ee, List.drop_of_length_le (by omega)]
    rfl
  | m + 1, i, c, hi => by
    have h16 := hm.1
    have hR := hP.1
    have hL := hP.2.2.2.2.1
    obtain ⟨x1, x2, x3⟩ := hm.2 _ (q_gdm (j := i) (z := (0, 0, 0)) (by omega))
    obtain ⟨y1, y2, y3⟩ := hM.2 i (by omega)
    have ee := b254_89_eq d (nI T) (nI c) (nI nt) (nI i) S hW
    rw [hM.1, if_neg (show ¬ nI mt.length ≤ nI i from fun z => by have := (nI_leI (by omega) (by omega)).mp z; omega), if_pos ((ni_in (by omega)).mpr (by omega)), if_pos ((ni_in (by omega)).mpr (by omega)), if_pos ((ni_in (by omega)).mpr (by omega)), show (nI i).toNatClampNeg = i from nI_clamp (by omega), y1, y2, y3, b254_140_eq d (nI T) (nI nt) (nI i) (nI c) S hW, b254_141_eq d (nI T) (nI nt) (nI i) (0 : Int32) (nI c) S hW, b254_141_eq d (nI T) (nI nt) (nI i) (1 : Int32) (nI c) S hW, show nI i + (1 : Int32) = nI (i + 1) from nI_add i 1, show nI c + (0 : Int32) = nI (c + 0) from nI_add c 0, show nI c + (1 : Int32) = nI (c + 1) from nI_add c 1] at ee
    rw [q_dg (0, 0, 0) (show i < mt.length by omega), List.countP_cons]
    generalize hx : mt.getD i (0, 0, 0) = x at *
    rw [show (16 : Int32) + nI x.2.1 = nI (16 + x.2.1) from nI_add 16 _, if_pos ((ni_in (by omega)).mpr (by omega)), show (nI (16 + x.2.1)).toNatClampNeg = 16 + x.2.1 from nI_clamp (by omega), show gI S 423 (16 + x.2.1) = eO (q_s e x.2.1) from hs.2.2.2.2.1 x.2.1 (by omega), m254_b hP hm hW hM hs hB hnt m (i + 1) (c + 0) (by omega), m254_b hP hm hW hM hs hB hnt m (i + 1) (c + 1) (by omega)] at ee
    rw [ee]
    unfold q_rn
    by_cases c1 : x.1 = nt
    · rw [if_neg (fun w => w (by rw [c1])), decide_eq_true c1, Bool.true_and]
      have he : eO (q_s e x.2.1) = eO (if x.2.2 = 255 then none else some x.2.2) ↔ q_s e x.2.1 = if x.2.2 = 255 then none else some x.2.2 := eO_inj (fun j hj => by have := hB.2.2.2.2.2.1 x.2.1 j hj; omega) (fun j hj => by
        by_cases w : x.2.2 = 255
        · rw [if_pos w] at hj; cases hj
        · rw [if_neg w] at hj; cases hj; omega)
      by_cases c2 : q_s e x.2.1 = if x.2.2 = 255 then none else some x.2.2
      · rw [if_neg (fun w => w (he.mpr c2)), decide_eq_true c2, if_pos rfl, Nat.add_assoc, Nat.add_comm 1]
      · rw [if_pos (fun w => c2 (he.mp w)), decide_eq_false c2, if_neg (by decide), Nat.add_zero]; rfl
    · rw [if_pos (fun w => c1 ((nI_eq (by omega) (by omega)).mp w)), decide_eq_false c1, Bool.false_and, if_neg (by decide), Nat.add_zero]; rfl
end TZ8
