/-! BEDS: who is left over, as the class finds it. -/
section BK
variable {d q sh s : Nat} {P : q_Pl}
def w_D : Nat → Nat → Prop := fun c _ => 388 ≤ c ∧ c ≤ 390
/-- one less -/
def w_pi : Nat → Int32
  | 0 => -nI 1
  | m + 1 => nI m
theorem w_pi_s (m : Nat) : nI m - (1 : Int32) = w_pi m := by
  cases m with
  | zero => rfl
  | succ m => exact pk_sub (a := m + 1) (b := 1) (by omega)
theorem w_pi_a (m : Nat) : nI m + (-1 : Int32) = w_pi m := by
  cases m with
  | zero => rfl
  | succ m => exact pk_m1 m
theorem c1_3 (hq : z_K q = 6) {x y : Int32} : ∀ (m i : Nat) (S : z_S), i + m = 16 → z_W S → ∃ S2, b1_3 d q x y (nI i) S = b1_52 d q x y (0 : Int32) ((gI S2 q 6) - (1 : Int32)) S2 ∧ onI w_D S S2 ∧ (∀ j, i ≤ j → j < 16 → gI S2 388 j = nI j ∧ gI S2 389 j = nI 1 ∧ gI S2 390 j = nI 0) ∧ ∀ c j, j < i → gI S2 c j = gI S c j
  | 0, i, S, hi, hW => by
    have e := b1_3_eq d q x y (nI i) S hW hq
    rw [if_pos (show (16 : Int32) ≤ nI i from nI_le (a := 16) (by omega) (by omega))] at e
    exact ⟨S, e, onI.refl hW, fun j a b => by omega, fun c j _ => rfl⟩
  | m + 1, i, S, hi, hW => by
    have e := b1_3_eq d q x y (nI i) S hW hq
    simp (disch := omega) only [ni_lit, nI_add, pk_mul, pk_sub, pk_div, nI_leI, nI_ltI, nI_eq, nI_clamp, ni_in, ni_inm, ni_ltm, ni_mlt, ni_lem, ni_mle, ni_eqm, ni_meq, ni_mm, ni_mmle, ni_bit, ni_shl, ni_clr, fa_or, Nat.add_zero, Nat.zero_add, Nat.zero_mul, Nat.mul_zero, eOn, eOs, if_true, if_false, not_true_eq_false, not_false_eq_true, ite_true, ite_false, true_and, and_true, false_and, and_false, or_true, true_or, or_false, false_or, Bool.false_eq_true, reduceIte, Bool.not_true, Bool.not_false, and_self, or_self, q_ef, q_et, q_ltt, q_ltf, q_let, q_lef, gIs, gIl, gIr, gLs, gLl, gLr, gPs, gPl, gPr, gLc, gPc, zb_some, Option.bind_some, q_nm, q_pm, q_hm, q_tm, q_sm, q_wm, q_ym, q_lm, q_ua] at e
    have hW2 : z_W (sI (sI (sI S 388 i (nI i)) 389 i (nI 1)) 390 i (nI 0)) := hW
    obtain ⟨S2, a1, a2, a3, a4⟩ := c1_3 hq (x := x) (y := y) m (i + 1) _ (by omega) hW2
    refine ⟨S2, e.trans a1, onI.trans ?_ a2, fun j j1 j2 => ?_, fun c j j1 => ?_⟩
    · exact onI_sI (D := w_D) (c := 390) (k := i) (onI_sI (D := w_D) (c := 389) (k := i) (onI_sI (D := w_D) (c := 388) (k := i) (onI.refl hW) ⟨by omega, by omega⟩) ⟨by omega, by omega⟩) ⟨by omega, by omega⟩
    · by_cases z : j = i
      · rw [a4 _ j (by omega), a4 _ j (by omega), a4 _ j (by omega), z]
        simp (disch := omega) only [ni_lit, nI_add, pk_mul, pk_sub, pk_div, nI_leI, nI_ltI, nI_eq, nI_clamp, ni_in, ni_inm, ni_ltm, ni_mlt, ni_lem, ni_mle, ni_eqm, ni_meq, ni_mm, ni_mmle, ni_bit, ni_shl, ni_clr, fa_or, Nat.add_zero, Nat.zero_add, Nat.zero_mul, Nat.mul_zero, eOn, eOs, if_true, if_false, not_true_eq_false, not_false_eq_true, ite_true, ite_false, true_and, and_true, false_and, and_false, or_true, true_or, or_false, false_or, Bool.false_eq_true, reduceIte, Bool.not_true, Bool.not_false, and_self, or_self, q_ef, q_et, q_ltt, q_ltf, q_let, q_lef, gIs, gIl, gIr, gLs, gLl, gLr, gPs, gPl, gPr, gLc, gPc, zb_some, Option.bind_some, q_nm, q_pm, q_hm, q_tm, q_sm, q_wm, q_ym, q_lm, q_ua]
      · exact a3 j (by omega) j2
    · rw [a4 c j (by omega)]
      have z : ¬ j = i := by omega
      rw [gIs, gIs, gIs]
      simp only [z, if_false, ite_self]
theorem c1_n {S : z_S} {R : Nat} (hR : R ≤ 16) (h : ∀ j, j < 16 → gI S 388 j = nI j ∧ gI S 389 j = nI 1 ∧ gI S 390 j = nI 0) {G : w_G} : cB S R (w_Us G []) := by
  have hz : ∀ x, x < R → w_sz R (w_Us G []) x = 1 := fun x hx => w_ct_one R hx
  refine ⟨⟨fun x hx => hx, fun x => rfl⟩, fun x => Nat.zero_le _, fun x hx => (h x hx).2.2, fun x hx _ => ?_, fun x => x, fun _ => 0, fun x hx => ⟨hx, ?_, ⟨fun _ => rfl, fun _ => rfl⟩, fun _ => rfl, fun z => absurd rfl z⟩, fun x hx => (h x (by omega)).1⟩
  · rw [hz x hx]; exact (h x (by omega)).2.1
  · rw [show (w_Us G []).1 x = x from rfl, hz x hx]
    exact Nat.zero_lt_one
theorem c1_52 (hq : z_K q = 6) (hP : p_Wf P) (hsh : sh < 65536) (hs : s < 65536) : ∀ (m : Nat) (S : z_S), m ≤ p_L P → z_W S → cPl S q P → cB S (p_R P) (w_Us (w_GP sh P) (w_al s (p_L P - m) m)) → q ≤ 10 → ∃ S', b1_52 (d + 2) q (nI sh) (nI s) (nI (w_bm (w_lv (w_GP sh P) (w_al s (p_L P - m) m)))) (w_pi m) S = some (nI (w_lft (w_GP sh P) (p_L P) s), S') ∧ onI w_D S S' ∧ cB S' (p_R P) (w_Us (w_GP sh P) (w_al s (p_L P) 0))
  | 0, S, hm, hW, hC, hB, hq2 => by
    have e := b1_52_eq (d + 2) q (nI sh) (nI s) (nI (w_bm (w_lv (w_GP sh P) (w_al s (p_L P - 0) 0)))) (w_pi 0) S hW hq
    rw [if_pos (by decide)] at e
    exact ⟨S, e, onI.refl hW, hB⟩
  | m + 1, S, hm, hW, hC, hB, hq2 => by
    have hL := hP.2.2.2.2.1
    have e := b1_52_eq (d + 2) q (nI sh) (nI s) (nI (w_bm (w_lv (w_GP sh P) (w_al s (p_L P - (m + 1)) (m + 1))))) (nI m) S hW hq
    have hal : w_al s (p_L P - m) m = if s.testBit m then m :: w_al s (p_L P - (m + 1)) (m + 1) else w_al s (p_L P - (m + 1)) (m + 1) := by
      rw [show p_L P - m = (p_L P - (m + 1)) + 1 by omega, w_al]
    rw [if_neg (nI_pos (by omega))] at e
    have eb : (nI s >>> (nI m &&& (31 : Int32))) &&& (1 : Int32) = nI (q_b s m) := ni_bit (by omega) (by omega)
    have eo : (nI (q_b s m) = (1 : Int32)) = (s.testBit m = true) := q_bo
    rw [eb] at e
    show ∃ S', b1_52 (d + 2) q (nI sh) (nI s) _ (nI m) S = _ ∧ _
    generalize hl : w_al s (p_L P - (m + 1)) (m + 1) = l at *
    have nx : ∀ S1 v, z_W S1 → b1_87 (d + 2) q (nI sh) (nI s) v (nI m) S1 = b1_52 (d + 2) q (nI sh) (nI s) v (w_pi m) S1 := fun S1 v h1 => by
      rw [b1_87_eq (d + 2) q (nI sh) (nI s) v (nI m) S1 h1 hq, w_pi_a]
    cases hb : s.testBit m with
    | false =>
      rw [hb, if_neg (by decide)] at hal
      rw [if_pos (fun z => by rw [eo, hb] at z; cases z), nx S _ hW] at e
      obtain ⟨S', a1, a2, a3⟩ := c1_52 hq hP hsh hs m S (by omega) hW hC (by rw [hal]; exact hB) hq2
      rw [hal] at a1
      exact ⟨S', e.trans a1, a2, a3⟩
    | true =>
      rw [hb, if_pos rfl] at hal
      obtain ⟨S1, a1, a2, a3⟩ := c2 (d := d) (U := w_Us (w_GP sh P) l) hC hP hW hq hsh (show m < p_L P by omega) hB
      rw [if_neg (fun z => z (by rw [eo]; exact hb)), a1, zb_some] at e
      have hC1 : cPl S1 q P := hC.on a2 fun c k z1 z2 => by omega
      obtain ⟨S', f1, f2, f3⟩ := c1_52 hq hP hsh hs m S1 (by omega) a2.W hC1 (by rw [hal]; exact a3) hq2
      refine ⟨S', ?_, a2.trans f2, f3⟩
      rw [hal] at f1
      rw [w_lv] at f1
      cases hab : w_ab (w_GP sh P) (w_Us (w_GP sh P) l) m with
      | true =>
        rw [hab, if_pos rfl] at f1
        rw [hab, if_pos (by decide), nx S1 _ a2.W] at e
        exact e.trans f1
      | false =>
        rw [hab, if_neg (by decide)] at f1
        have es : (1 : Int32) <<< (nI m &&& (31 : Int32)) = nI (2 ^ m) := ni_shl (by omega)
        rw [hab, if_neg (by decide), nx S1 _ a2.W, es, fa_or] at e
        exact e.trans f1
theorem c1 {S : z_S} (hH : cH S q P) (hq2 : q ≤ 10) (hsh : sh < 65536) (hs : s < 65536) : ∃ S', fI (d + 3) 1 [.ref 387, .ref q, .int (nI sh), .int (nI s)] S = some (nI (w_lft (w_GP sh P) (p_L P) s), S') ∧ onI w_D S S' ∧ cB S' (p_R P) (w_Us (w_GP sh P) (w_al s (p_L P) 0)) := by
  obtain ⟨hW, hq, _, hC, hP⟩ := hH
  have e : fI (d + 3) 1 [.ref 387, .ref q, .int (nI sh), .int (nI s)] S = b1_3 (d + 2) q (nI sh) (nI s) (nI 0) S := e1 (d + 2) q (nI sh) (nI s) S hW hq
  obtain ⟨S1, a1, a2, a3, _⟩ := c1_3 (d := d + 2) hq (x := nI sh) (y := nI s) 16 0 S (by omega) hW
  have hC1 : cPl S1 q P := hC.on a2 fun c k z1 z2 => by unfold w_D; omega
  rw [hC1.2.2.2.2.2.2.1, w_pi_s] at a1
  obtain ⟨S2, b1, b2, b3⟩ := c1_52 (d := d) (s := s) hq hP hsh hs (p_L P) S1 (Nat.le_refl _) a2.W hC1 (by
    rw [Nat.sub_self]
    exact c1_n hP.1 fun j hj => a3 j (by omega) hj) hq2
  rw [Nat.sub_self] at b1
  exact ⟨S2, (e.trans a1).trans b1, a2.trans b2, b3⟩
def w_fw (R : Nat) (U : w_U) : Nat → Nat := fun h => if U.1 h = h then (if U.2 h = 0 then w_sz R U h else U.2 h) else 1
theorem c4_l {S : z_S} {R : Nat} {U : w_U} (hW : z_W S) (hR : R ≤ 16) (hB : cB S R U) : ∀ (m i : Nat), i + m = R → b4_4 d (nI R) (nI (w_pr (w_fw R U) i)) (nI i) S = some (nI (w_pr (w_fw R U) R), S)
  | 0, i, hi => by
    have e := b4_4_eq d (nI R) (nI (w_pr (w_fw R U) i)) (nI i) S hW
    have hi' : i = R := by omega
    rw [if_pos (nI_le (by omega) (by omega)), hi'] at e
    rw [hi']
    exact e
  | m + 1, i, hi => by
    have e := b4_4_eq d (nI R) (nI (w_pr (w_fw R U) i)) (nI i) S hW
    have ih := c4_l hW hR hB m (i + 1) (by omega)
    obtain ⟨b1, b2, b3, b4, pr, dp, b5, b6⟩ := hB
    obtain ⟨t0, t1, t2, t3, t4⟩ := b5 i (by omega)
    have hp : gI S 388 (nI i).toNatClampNeg = nI (pr i) := by rw [nI_clamp (by omega)]; exact b6 i (by omega)
    have hf : gI S 390 (nI i).toNatClampNeg = nI (U.2 i) := by rw [nI_clamp (by omega)]; exact b3 i (by omega)
    have hu := b2 i
    rw [if_neg (nI_ge (by omega) (by omega)), hp, hf] at e
    have zi : z_in (nI i) 16 := (ni_in (by omega)).mpr (by omega)
    simp only [if_pos zi] at e
    have nx : ∀ v, b4_46 d (nI R) (nI v) (nI i) S = b4_4 d (nI R) (nI v) (nI (i + 1)) S := fun v => by rw [b4_46_eq d (nI R) (nI v) (nI i) S hW, nI_1]
    have nx2 : ∀ x, b4_44 d (nI R) (nI i) (nI x) (nI (w_pr (w_fw R U) i)) S = b4_46 d (nI R) (nI (w_pr (w_fw R U) i * x)) (nI i) S := fun x => by rw [b4_44_eq d (nI R) (nI i) (nI x) (nI (w_pr (w_fw R U) i)) S hW, pk_mul]
    rw [w_pr] at ih
    by_cases c : U.1 i = i
    · have hd := t2.mpr c
      rw [t3 hd, if_neg (fun z => z rfl)] at e
      have hz : gI S 389 (nI i).toNatClampNeg = nI (w_sz R U i) := by rw [nI_clamp (by omega)]; exact b4 i (by omega) c
      by_cases c2 : U.2 i = 0
      · have ef : w_fw R U i = w_sz R U i := by unfold w_fw; rw [if_pos c, if_pos c2]
        rw [c2, if_neg (show ¬ ¬ nI 0 = (0 : Int32) from fun z => z rfl), hz, nx2, nx] at e
        rw [ef] at ih
        exact e.trans ih
      · have ef : w_fw R U i = U.2 i := by unfold w_fw; rw [if_pos c, if_neg c2]
        rw [if_pos (show ¬ nI (U.2 i) = (0 : Int32) from fun z => c2 ((nI_eq (b := 0) (by omega) (by omega)).mp z)), nx2, nx] at e
        rw [ef] at ih
        exact e.trans ih
    · have hd : dp i ≠ 0 := fun z => c (t2.mp z)
      obtain ⟨u1, u2, _⟩ := t4 hd
      have ef : w_fw R U i = 1 := by unfold w_fw; rw [if_neg c]
      rw [if_pos (fun z => u1 ((nI_eq (by omega) (by omega)).mp z)), nx] at e
      rw [ef, Nat.mul_one] at ih
      exact e.trans ih
theorem c4 {S : z_S} {R : Nat} {U : w_U} (hW : z_W S) (hR : R ≤ 16) (hB : cB S R U) : fI (d + 1) 4 [.ref 387, .int (nI R)] S = some (nI (w_pr (w_fw R U) R), S) := by
  have e : fI (d + 1) 4 [.ref 387, .int (nI R)] S = b4_4 d (nI R) (nI (w_pr (w_fw R U) 0)) (nI 0) S := e4 d (nI R) S hW
  exact e.trans (c4_l hW hR hB R 0 (by omega))
theorem c153 {S : z_S} {A : q_A} {x : Int32} (h : cA S A) (hA : aOk A) : fI (d + 1) 153 [.ref 0, .int x] S = some (bI (ixO (2 ^ p_L (a_P A)) x), S) := by
  obtain ⟨q, hH, hq⟩ := h.H hA
  have hL := hA.1.2.2.2.2.1
  have hp : 2 ^ p_L (a_P A) ≤ 65536 := Nat.pow_le_pow_right (n := 2) (by omega) hL
  have e := e153 d x S h.1
  have hl : gI S q 6 = nI (p_L (a_P A)) := hH.2.2.2.1.2.2.2.2.2.2.1
  rw [hq, hl] at e
  simp only [b153_20_eq d S h.1] at e
  unfold ixO
  by_cases c1 : x < 0
  · rw [if_pos c1] at e
    rw [x_lt0] at c1
    rw [decide_eq_false (by omega)]; exact e
  · rw [if_neg c1] at e
    obtain ⟨j, hj, rfl⟩ := nI_of c1
    rw [nI_toInt (by omega)]
    have es : nI j >>> (nI (p_L (a_P A)) &&& (31 : Int32)) = nI (j / 2 ^ p_L (a_P A)) := pk_shrN hj (nI (p_L (a_P A)) &&& nI 31) (p_L (a_P A)) (s_l _ (by omega))
    have hd : j / 2 ^ p_L (a_P A) ≤ j := Nat.div_le_self _ _
    have ez : (nI (j / 2 ^ p_L (a_P A)) = (0 : Int32)) ↔ j < 2 ^ p_L (a_P A) := by
      have : (nI (j / 2 ^ p_L (a_P A)) = nI 0) ↔ j / 2 ^ p_L (a_P A) = 0 := nI_eq (by omega) (by omega)
      rw [show (0 : Int32) = nI 0 from rfl, this, Nat.div_eq_zero_iff]
      have := Nat.two_pow_pos (p_L (a_P A))
      omega
    rw [es] at e
    by_cases c2 : j < 2 ^ p_L (a_P A)
    · rw [if_neg (fun z => z (ez.mpr c2))] at e
      rw [decide_eq_true (by omega)]; exact e
    · rw [if_pos (fun z => c2 (ez.mp z))] at e
      rw [decide_eq_false (by omega)]; exact e
end BK
