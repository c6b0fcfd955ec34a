/-! THE TAPE, the seed. -/
/-- a byte of a number -/
def q_by (x k : Int32) : Nat := ((x >>> (k &&& 31)) &&& 255).toNatClampNeg
theorem q_by_ok (x k : Int32) : q_by x k < 256 ∧ (x >>> (k &&& 31)) &&& 255 = nI (q_by x k) := by
  obtain ⟨j, h1, h2⟩ := pk_andE (x >>> (k &&& 31)) (m := 255) 8 (by decide)
  unfold q_by
  rw [h2, nI_clamp (by omega)]
  exact ⟨h1, rfl⟩
def q_b4 (x : Int32) : List Nat := [q_by x 24, q_by x 16, q_by x 8, q_by x 0]
theorem xTp.push {S : z_S} {o k c : Nat} {tp : List Nat} {b : Nat} (h : xTp S o k c tp) (hne : o ≠ c) : xTp (sI (sI S c tp.length (nI b)) o k (nI (tp.length + 1))) o k c (tp ++ [b]) := by
  refine ⟨?_, fun i hi => ?_⟩
  · simp (disch := omega) only [ni_lit, nI_add, pk_mul, pk_sub, pk_div, nI_leI, nI_ltI, nI_eq, nI_clamp, ni_in, ni_inm, ni_ltm, ni_mlt, ni_lem, ni_mle, ni_eqm, ni_meq, ni_mm, ni_mmle, ni_bit, ni_shl, ni_clr, fa_or, Nat.add_zero, Nat.zero_add, Nat.zero_mul, Nat.mul_zero, eOn, eOs, if_true, if_false, not_true_eq_false, not_false_eq_true, ite_true, ite_false, true_and, and_true, false_and, and_false, or_true, true_or, or_false, false_or, Bool.false_eq_true, reduceIte, Bool.not_true, Bool.not_false, and_self, or_self, q_ef, q_et, q_ltt, q_ltf, q_let, q_lef, gIs, gIl, gIr, gLs, gLl, gLr, gPs, gPl, gPr, gLc, gPc, zb_some, Option.bind_some, q_nm, q_pm, q_hm, q_tm, q_sm, q_wm, q_ym, q_lm, q_ua]; simp
  · rw [List.length_append, List.length_singleton] at hi
    by_cases z : i = tp.length
    · simp (disch := omega) only [ni_lit, nI_add, pk_mul, pk_sub, pk_div, nI_leI, nI_ltI, nI_eq, nI_clamp, ni_in, ni_inm, ni_ltm, ni_mlt, ni_lem, ni_mle, ni_eqm, ni_meq, ni_mm, ni_mmle, ni_bit, ni_shl, ni_clr, fa_or, Nat.add_zero, Nat.zero_add, Nat.zero_mul, Nat.mul_zero, eOn, eOs, if_true, if_false, not_true_eq_false, not_false_eq_true, ite_true, ite_false, true_and, and_true, false_and, and_false, or_true, true_or, or_false, false_or, Bool.false_eq_true, reduceIte, Bool.not_true, Bool.not_false, and_self, or_self, q_ef, q_et, q_ltt, q_ltf, q_let, q_lef, gIs, gIl, gIr, gLs, gLl, gLr, gPs, gPl, gPr, gLc, gPc, zb_some, Option.bind_some, q_nm, q_pm, q_hm, q_tm, q_sm, q_wm, q_ym, q_lm, q_ua]; simp [z]
    · have hi2 : i < tp.length := by omega
      simp (disch := omega) only [ni_lit, nI_add, pk_mul, pk_sub, pk_div, nI_leI, nI_ltI, nI_eq, nI_clamp, ni_in, ni_inm, ni_ltm, ni_mlt, ni_lem, ni_mle, ni_eqm, ni_meq, ni_mm, ni_mmle, ni_bit, ni_shl, ni_clr, fa_or, Nat.add_zero, Nat.zero_add, Nat.zero_mul, Nat.mul_zero, eOn, eOs, if_true, if_false, not_true_eq_false, not_false_eq_true, ite_true, ite_false, true_and, and_true, false_and, and_false, or_true, true_or, or_false, false_or, Bool.false_eq_true, reduceIte, Bool.not_true, Bool.not_false, and_self, or_self, q_ef, q_et, q_ltt, q_ltf, q_let, q_lef, gIs, gIl, gIr, gLs, gLl, gLr, gPs, gPl, gPr, gLc, gPc, zb_some, Option.bind_some, q_nm, q_pm, q_hm, q_tm, q_sm, q_wm, q_ym, q_lm, q_ua]
      rw [h.2 i hi2, List.getD_eq_getElem?_getD, List.getD_eq_getElem?_getD, List.getElem?_append_left hi2]
section TC
variable {d : Nat} {S : z_S} {A : q_A} {x : Int32}
theorem c107_s {tp : List Nat} {y : Int32} (hW : z_W S) (h : xTp S 0 1 1 tp) (hl : tp.length < 1600) (hy : ¬ y < 0) : ∃ S', b107_3 d x y S = b107_3 d x (y + -8) S' ∧ xTp S' 0 1 1 (tp ++ [q_by x y]) ∧ onI (fun c k => c = 1 ∨ c = 0 ∧ k = 1) S S' := by
  have e := b107_3_eq d x y S hW
  rw [if_neg hy] at e
  have e1 : gI (sI S 1 (gI S 0 1).toNatClampNeg ((x >>> (y &&& 31)) &&& 255)) 0 1 = nI tp.length := by rw [gI_sI, if_neg (by decide)]; exact h.1
  rw [e1, h.1, (q_by_ok x y).2] at e
  simp (disch := omega) only [ni_lit, nI_leI, q_lef, if_false, ni_in, q_ltt, if_true, nI_clamp, nI_add] at e
  refine ⟨_, e, h.push (by decide), ?_⟩
  exact onI_sI (D := fun c k => c = 1 ∨ c = 0 ∧ k = 1) (c := 0) (onI_sI (D := fun c k => c = 1 ∨ c = 0 ∧ k = 1) (c := 1) (onI.refl hW) (Or.inl rfl)) (Or.inr ⟨rfl, rfl⟩)
theorem c107 {tp : List Nat} (hW : z_W S) (h : xTp S 0 1 1 tp) (hl : tp.length + 4 ≤ 1600) : ∃ S', fV (d + 1) 107 [.ref 0, .int x] S = some S' ∧ xTp S' 0 1 1 (tp ++ q_b4 x) ∧ onI (fun c k => c = 1 ∨ c = 0 ∧ k = 1) S S' := by
  have e := e107 d x S hW
  obtain ⟨S1, a1, a2, a3⟩ := c107_s (d := d) (x := x) (y := 24) hW h (by omega) (by decide)
  obtain ⟨S2, b1, b2, b3⟩ := c107_s (d := d) (x := x) (y := 16) a3.W a2 (by simp; omega) (by decide)
  obtain ⟨S3, c1, c2, c3⟩ := c107_s (d := d) (x := x) (y := 8) b3.W b2 (by simp; omega) (by decide)
  obtain ⟨S4, f1, f2, f3⟩ := c107_s (d := d) (x := x) (y := 0) c3.W c2 (by simp; omega) (by decide)
  rw [show (24 : Int32) + -8 = 16 by decide] at a1
  rw [show (16 : Int32) + -8 = 8 by decide] at b1
  rw [show (8 : Int32) + -8 = 0 by decide] at c1
  have e4 := b107_3_eq d x (0 + -8) S4 f3.W
  rw [if_pos (by decide)] at e4
  refine ⟨S4, ((((e.trans a1).trans b1).trans c1).trans f1).trans e4, ?_, ((a3.trans b3).trans c3).trans f3⟩
  simp only [List.append_assoc, List.singleton_append, List.cons_append, List.nil_append] at f2
  exact f2
theorem m156_s {tp : List Nat} {y : Int32} (hW : z_W S) (h : xTp S 396 1 397 tp) (hl : tp.length < 1600) (hy : ¬ y < 0) : ∃ S', b156_3 d x y S = b156_3 d x (y + -8) S' ∧ xTp S' 396 1 397 (tp ++ [q_by x y]) ∧ onM (fun c k => c = 397 ∨ c = 396 ∧ k = 1) S S' := by
  have e := b156_3_eq d x y S hW
  rw [if_neg hy] at e
  have e1 : gI (sI S 397 (gI S 396 1).toNatClampNeg ((x >>> (y &&& 31)) &&& 255)) 396 1 = nI tp.length := by rw [gI_sI, if_neg (by decide)]; exact h.1
  rw [e1, h.1, (q_by_ok x y).2] at e
  simp (disch := omega) only [ni_lit, nI_leI, q_lef, if_false, ni_in, q_ltt, if_true, nI_clamp, nI_add] at e
  refine ⟨_, e, h.push (by decide), ?_⟩
  exact onM_sI (D := fun c k => c = 397 ∨ c = 396 ∧ k = 1) (c := 396) (onM_sI (D := fun c k => c = 397 ∨ c = 396 ∧ k = 1) (c := 397) (onM.refl hW) (Or.inl rfl)) (Or.inr ⟨rfl, rfl⟩)
theorem m156 {tp : List Nat} (hW : z_W S) (h : xTp S 396 1 397 tp) (hl : tp.length + 4 ≤ 1600) : ∃ S', fV (d + 1) 156 [.ref 396, .int x] S = some S' ∧ xTp S' 396 1 397 (tp ++ q_b4 x) ∧ onM (fun c k => c = 397 ∨ c = 396 ∧ k = 1) S S' := by
  have e := e156 d x S hW
  obtain ⟨S1, a1, a2, a3⟩ := m156_s (d := d) (x := x) (y := 24) hW h (by omega) (by decide)
  obtain ⟨S2, b1, b2, b3⟩ := m156_s (d := d) (x := x) (y := 16) a3.W a2 (by simp; omega) (by decide)
  obtain ⟨S3, c1, c2, c3⟩ := m156_s (d := d) (x := x) (y := 8) b3.W b2 (by simp; omega) (by decide)
  obtain ⟨S4, f1, f2, f3⟩ := m156_s (d := d) (x := x) (y := 0) c3.W c2 (by simp; omega) (by decide)
  rw [show (24 : Int32) + -8 = 16 by decide] at a1
  rw [show (16 : Int32) + -8 = 8 by decide] at b1
  rw [show (8 : Int32) + -8 = 0 by decide] at c1
  have e4 := b156_3_eq d x (0 + -8) S4 f3.W
  rw [if_pos (by decide)] at e4
  refine ⟨S4, ((((e.trans a1).trans b1).trans c1).trans f1).trans e4, ?_, ((a3.trans b3).trans c3).trans f3⟩
  simp only [List.append_assoc, List.singleton_append, List.cons_append, List.nil_append] at f2
  exact f2
/-- another tape -/
def a_tap (A : q_A) (t : List Nat) : q_A := (t, a_P A, a_s A, a_kl A, a_ud A, a_mt A, a_sd A, a_ft A, a_rf A, a_im A)
theorem aOk.tap {t : List Nat} (h : aOk A) (h1 : t.length ≤ 1600) (h2 : ∀ x, x ∈ t → x < 256) : aOk (a_tap A t) := by
  obtain ⟨g1, g2, g3, g4, g5, g6, g7, g8, g9, g10⟩ := h
  exact ⟨g1, g2, g3, g4, g5, g6, g7, ⟨h1, h2⟩, g9, g10⟩
theorem cA.tap {S' : z_S} {t : List Nat} (h : cA S A) (ho : onI (fun c k => c = 1 ∨ c = 0 ∧ k = 1) S S') (ht : xTp S' 0 1 1 t) : cA S' (a_tap A t) := by
  obtain ⟨h1, h2, ⟨q, k1, k2, k3, k4, k5⟩, h4, h5, h6, h7, h8, h9, h10, h11⟩ := h
  exact ⟨ho.W, ht, ⟨q, k1, by rw [ho.P]; exact k2, by rw [ho.P]; exact k3, by rw [ho.P]; exact k4, k5.ag (ho.ag fun c k z => by omega)⟩, h4.ag (ho.ag fun c k z => by unfold pD at z; omega), h5.ag (ho.ag fun c k z => by omega), h6.ag (ho.ag fun c k z => by omega), h7.ag (ho.ag fun c k z => by omega), h8.ag (ho.ag fun c k z => by omega), h9.ag (ho.ag fun c k z => by omega), h10.ag (ho.ag fun c k z => by omega), h11.ag (ho.ag fun c k z => by omega)⟩
/-- what the reference holds beside some places that have changed -/
theorem mA.but {S' : z_S} {D : Nat → Nat → Prop} (h : mA S A) (hA : aOk A) (ho : onM D S S') (hd : ∀ c k, D c k → c = 397 ∨ c = 396 ∧ (k = 1 ∨ 2 ≤ k ∧ k ≤ 9 ∨ k = 12 ∨ k = 63 ∨ k = 71) ∨ 429 ≤ c) : (∃ b, cM S' b (a_P A)) ∧ gI S' 396 42 = bI (decide (0 < p_m (a_P A))) ∧ gI S' 396 56 = nI (p_T (a_P A)) ∧ mSt S' 0 (m_s A) ∧ mKp S' 0 (a_kl A) ∧ mPa S' (a_ud A) ∧ mSc S' (a_sd A) (a_ft A) ∧ xRf S' 419 (a_rf A) := by
  obtain ⟨h1, ⟨b, h2⟩, h3, h4, h5, h6, h7, h8, h9, h10, h11⟩ := h
  have hP := hA.1
  refine ⟨⟨b, h2.on ho (fun c k z w => by have := hd c k w; omega)⟩, by rw [ho.I (fun w => by have := hd _ _ w; omega)]; exact h3, by rw [ho.I (fun w => by have := hd _ _ w; omega)]; exact h4, h5.ag (hA.2.1.Bd hP).2.2.1 (ho.ag fun c k z w => by unfold vD at z; have := hd c k w; omega), h6.ag (ho.ag fun c k z w => by unfold kD at z; have := hd c k w; omega), h7.ag (fun u hu => ((hA.2.2.2.2.1 u hu).1.Bd hP).2.2.1) (ho.ag fun c k z w => ?_), ⟨by rw [ho.L (fun w => by have := hd _ _ w; omega)]; exact h9.1, by rw [ho.I (fun w => by have := hd _ _ w; omega)]; exact h9.2.1, by rw [ho.I (fun w => by have := hd _ _ w; omega)]; exact h9.2.2⟩, h10.ag (ho.ag fun c k z w => by have := hd c k w; omega)⟩
  have := hd c k w
  rcases z with z | ⟨v, z1, z2⟩
  · omega
  · unfold vD kD at z2; omega
theorem mA.tap {S' : z_S} {t : List Nat} (h : mA S A) (hA : aOk A) (ho : onM (fun c k => c = 397 ∨ c = 396 ∧ k = 1) S S') (ht : xTp S' 396 1 397 t) : mA S' (a_tap A t) := by
  obtain ⟨g1, g2, g3, g4, g5, g6, g7, g8⟩ := h.but hA ho (fun c k z => by omega)
  obtain ⟨h1, ⟨b, h2⟩, h3, h4, h5, h6, h7, h8, h9, h10, h11⟩ := h
  exact ⟨ht, g1, g2, g3, g4, g5, g6, h8.ag (ho.ag fun c k z => by omega), g7, g8, h11.ag (ho.ag fun c k z => by omega)⟩
theorem t_feed {x1 x2 x3 x4 x5 : Int32} : ∃ A', twoI (d + 20) 106 157 [.int x1, .int x2, .int x3, .int x4, .int x5] A A' := by
  by_cases c : (a_tp A).length + 20 ≤ 1600
  · refine ⟨a_tap A (a_tp A ++ q_b4 x1 ++ q_b4 x2 ++ q_b4 x3 ++ q_b4 x4 ++ q_b4 x5), two_m (nI ((a_tp A).length + 20)) (fun hA => hA.tap ?_ ?_) (fun S h hA => ?_) (fun S h hA => ?_)⟩
    · simp [q_b4]; omega
    · have hb : ∀ (x : Int32) (z : Nat), z ∈ q_b4 x → z < 256 := fun x z hz => by
        unfold q_b4 at hz
        simp only [List.mem_cons, List.not_mem_nil, or_false] at hz
        rcases hz with q | q | q | q <;> rw [q] <;> exact (q_by_ok _ _).1
      intro z hz
      simp only [List.mem_append] at hz
      rcases hz with ((((q | q) | q) | q) | q) | q
      · exact hA.2.2.2.2.2.2.2.1.2 z q
      · exact hb _ _ q
      · exact hb _ _ q
      · exact hb _ _ q
      · exact hb _ _ q
      · exact hb _ _ q
    · have e := e106 (d + 19) x1 x2 x3 x4 x5 S h.1
      obtain ⟨S1, a1, a2, a3⟩ := c107 (d := d + 18) (x := x1) h.1 h.2.1 (by omega)
      obtain ⟨S2, b1, b2, b3⟩ := c107 (d := d + 18) (x := x2) a3.W a2 (by simp [q_b4]; omega)
      obtain ⟨S3, c1, c2, c3⟩ := c107 (d := d + 18) (x := x3) b3.W b2 (by simp [q_b4]; omega)
      obtain ⟨S4, f1, f2, f3⟩ := c107 (d := d + 18) (x := x4) c3.W c2 (by simp [q_b4]; omega)
      obtain ⟨S5, g1, g2, g3⟩ := c107 (d := d + 18) (x := x5) f3.W f2 (by simp [q_b4]; omega)
      have ho := ((((a3.trans b3).trans c3).trans f3).trans g3)
      rw [h.2.1.1, if_pos (by rw [show (20 : Int32) = nI 20 from rfl, nI_add, show (1600 : Int32) = nI 1600 from rfl]; exact (nI_leI (by omega) (by omega)).mpr c), a1, Option.bind_some, b1, Option.bind_some, c1, Option.bind_some, f1, Option.bind_some, g1, Option.bind_some, g2.1] at e
      refine ⟨S5, ?_, ho.M.mono fun c k z => by omega, h.tap ho g2⟩
      rw [e]
      simp [q_b4]
    · have e := e157 (d + 19) x1 x2 x3 x4 x5 S h.W
      obtain ⟨S1, a1, a2, a3⟩ := m156 (d := d + 18) (x := x1) h.W h.1 (by omega)
      obtain ⟨S2, b1, b2, b3⟩ := m156 (d := d + 18) (x := x2) a3.W a2 (by simp [q_b4]; omega)
      obtain ⟨S3, c1, c2, c3⟩ := m156 (d := d + 18) (x := x3) b3.W b2 (by simp [q_b4]; omega)
      obtain ⟨S4, f1, f2, f3⟩ := m156 (d := d + 18) (x := x4) c3.W c2 (by simp [q_b4]; omega)
      obtain ⟨S5, g1, g2, g3⟩ := m156 (d := d + 18) (x := x5) f3.W f2 (by simp [q_b4]; omega)
      have ho := ((((a3.trans b3).trans c3).trans f3).trans g3)
      rw [h.1.1, if_pos (by rw [show (20 : Int32) = nI 20 from rfl, nI_add, show (1600 : Int32) = nI 1600 from rfl]; exact (nI_leI (by omega) (by omega)).mpr c), a1, Option.bind_some, b1, Option.bind_some, c1, Option.bind_some, f1, Option.bind_some, g1, Option.bind_some, g2.1] at e
      refine ⟨S5, ?_, ho.mono fun c k z => by omega, h.tap hA ho g2⟩
      rw [e]
      simp [q_b4]
  · refine ⟨a_ref A 0, two_m (-nI 1) (fun hA => hA.ref) (fun S h hA => ?_) (fun S h hA => ?_)⟩
    · have e := e106 (d + 19) x1 x2 x3 x4 x5 S h.1
      have hl := hA.2.2.2.2.2.2.2.1.1
      have a1 : fI (d + 19) 150 [.ref 0, .int 0] S = _ := c150 (d := d + 18) (j := 0) h.1 h.2.2.2.2.2.2.2.2.1 (by omega)
      rw [h.2.1.1, if_neg (fun z => c (by rw [show (20 : Int32) = nI 20 from rfl, nI_add, show (1600 : Int32) = nI 1600 from rfl] at z; exact (nI_leI (by omega) (by omega)).mp z)), a1, zb_some] at e
      exact ⟨_, e, onM_sI (D := fun c _ => c < 396) (c := 395) (onM.refl h.1) (by decide), h.ref⟩
    · have e := e157 (d + 19) x1 x2 x3 x4 x5 S h.W
      have hl := hA.2.2.2.2.2.2.2.1.1
      have a1 : fI (d + 19) 194 [.ref 396, .int 0] S = _ := m194 (d := d + 18) (j := 0) h.W h.2.2.2.2.2.2.2.2.2.1 (by omega)
      rw [h.1.1, if_neg (fun z => c (by rw [show (20 : Int32) = nI 20 from rfl, nI_add, show (1600 : Int32) = nI 1600 from rfl] at z; exact (nI_leI (by omega) (by omega)).mp z)), a1, zb_some] at e
      exact ⟨_, e, onM_sI (D := fun c _ => 396 ≤ c) (c := 419) (onM.refl h.W) (by decide), h.ref hA⟩
theorem t_end : ∃ A', twoI (d + 20) 108 158 [.int x] A A' := by
  by_cases c : ixO ((a_tp A).length + 1) x = true
  · refine ⟨a_tap A ((a_tp A).take x.toInt.toNat), two_m (nI 1) (fun hA => hA.tap ?_ ?_) (fun S h hA => ?_) (fun S h hA => ?_)⟩
    · have := hA.2.2.2.2.2.2.2.1.1
      rw [List.length_take]; omega
    · exact fun z hz => hA.2.2.2.2.2.2.2.1.2 z (List.mem_of_mem_take hz)
    · have hl := hA.2.2.2.2.2.2.2.1.1
      obtain ⟨k, h1, rfl⟩ := ixO_t c (by omega)
      rw [nI_toInt (by omega), show ((k : Int)).toNat = k from rfl]
      have e := e108 (d + 19) (nI k) S h.1
      simp (disch := omega) only [ni_lit, nI_add, pk_mul, pk_sub, pk_div, nI_leI, nI_ltI, nI_eq, nI_clamp, ni_in, ni_inm, ni_ltm, ni_mlt, ni_lem, ni_mle, ni_eqm, ni_meq, ni_mm, ni_mmle, ni_bit, ni_shl, ni_clr, fa_or, Nat.add_zero, Nat.zero_add, Nat.zero_mul, Nat.mul_zero, eOn, eOs, if_true, if_false, not_true_eq_false, not_false_eq_true, ite_true, ite_false, true_and, and_true, false_and, and_false, or_true, true_or, or_false, false_or, Bool.false_eq_true, reduceIte, Bool.not_true, Bool.not_false, and_self, or_self, q_ef, q_et, q_ltt, q_ltf, q_let, q_lef, gIs, gIl, gIr, gLs, gLl, gLr, gPs, gPl, gPr, gLc, gPc, zb_some, Option.bind_some, q_nm, q_pm, q_hm, q_tm, q_sm, q_wm, q_ym, q_lm, q_ua, h.2.1.1] at e
      have ho : onI (fun c k => c = 1 ∨ c = 0 ∧ k = 1) S (sI S 0 1 (nI k)) := onI_sI (D := fun c k => c = 1 ∨ c = 0 ∧ k = 1) (c := 0) (onI.refl h.1) (Or.inr ⟨rfl, rfl⟩)
      refine ⟨_, e, ho.M.mono fun c k z => by omega, h.tap ho ⟨?_, fun i hi => ?_⟩⟩
      · simp (disch := omega) only [ni_lit, nI_add, pk_mul, pk_sub, pk_div, nI_leI, nI_ltI, nI_eq, nI_clamp, ni_in, ni_inm, ni_ltm, ni_mlt, ni_lem, ni_mle, ni_eqm, ni_meq, ni_mm, ni_mmle, ni_bit, ni_shl, ni_clr, fa_or, Nat.add_zero, Nat.zero_add, Nat.zero_mul, Nat.mul_zero, eOn, eOs, if_true, if_false, not_true_eq_false, not_false_eq_true, ite_true, ite_false, true_and, and_true, false_and, and_false, or_true, true_or, or_false, false_or, Bool.false_eq_true, reduceIte, Bool.not_true, Bool.not_false, and_self, or_self, q_ef, q_et, q_ltt, q_ltf, q_let, q_lef, gIs, gIl, gIr, gLs, gLl, gLr, gPs, gPl, gPr, gLc, gPc, zb_some, Option.bind_some, q_nm, q_pm, q_hm, q_tm, q_sm, q_wm, q_ym, q_lm, q_ua]; rw [List.length_take, Nat.min_eq_left (by omega)]
      · rw [List.length_take] at hi
        simp (disch := omega) only [ni_lit, nI_add, pk_mul, pk_sub, pk_div, nI_leI, nI_ltI, nI_eq, nI_clamp, ni_in, ni_inm, ni_ltm, ni_mlt, ni_lem, ni_mle, ni_eqm, ni_meq, ni_mm, ni_mmle, ni_bit, ni_shl, ni_clr, fa_or, Nat.add_zero, Nat.zero_add, Nat.zero_mul, Nat.mul_zero, eOn, eOs, if_true, if_false, not_true_eq_false, not_false_eq_true, ite_true, ite_false, true_and, and_true, false_and, and_false, or_true, true_or, or_false, false_or, Bool.false_eq_true, reduceIte, Bool.not_true, Bool.not_false, and_self, or_self, q_ef, q_et, q_ltt, q_ltf, q_let, q_lef, gIs, gIl, gIr, gLs, gLl, gLr, gPs, gPl, gPr, gLc, gPc, zb_some, Option.bind_some, q_nm, q_pm, q_hm, q_tm, q_sm, q_wm, q_ym, q_lm, q_ua]
        rw [h.2.1.2 i (by omega), List.getD_eq_getElem?_getD, List.getD_eq_getElem?_getD, List.getElem?_take_of_lt (by omega)]
    · have hl := hA.2.2.2.2.2.2.2.1.1
      obtain ⟨k, h1, rfl⟩ := ixO_t c (by omega)
      rw [nI_toInt (by omega), show ((k : Int)).toNat = k from rfl]
      have e := e158 (d + 19) (nI k) S h.W
      simp (disch := omega) only [ni_lit, nI_add, pk_mul, pk_sub, pk_div, nI_leI, nI_ltI, nI_eq, nI_clamp, ni_in, ni_inm, ni_ltm, ni_mlt, ni_lem, ni_mle, ni_eqm, ni_meq, ni_mm, ni_mmle, ni_bit, ni_shl, ni_clr, fa_or, Nat.add_zero, Nat.zero_add, Nat.zero_mul, Nat.mul_zero, eOn, eOs, if_true, if_false, not_true_eq_false, not_false_eq_true, ite_true, ite_false, true_and, and_true, false_and, and_false, or_true, true_or, or_false, false_or, Bool.false_eq_true, reduceIte, Bool.not_true, Bool.not_false, and_self, or_self, q_ef, q_et, q_ltt, q_ltf, q_let, q_lef, gIs, gIl, gIr, gLs, gLl, gLr, gPs, gPl, gPr, gLc, gPc, zb_some, Option.bind_some, q_nm, q_pm, q_hm, q_tm, q_sm, q_wm, q_ym, q_lm, q_ua, h.1.1] at e
      have ho : onM (fun c k => c = 397 ∨ c = 396 ∧ k = 1) S (sI S 396 1 (nI k)) := onM_sI (D := fun c k => c = 397 ∨ c = 396 ∧ k = 1) (c := 396) (onM.refl h.W) (Or.inr ⟨rfl, rfl⟩)
      refine ⟨_, e, ho.mono fun c k z => by omega, h.tap hA ho ⟨?_, fun i hi => ?_⟩⟩
      · simp (disch := omega) only [ni_lit, nI_add, pk_mul, pk_sub, pk_div, nI_leI, nI_ltI, nI_eq, nI_clamp, ni_in, ni_inm, ni_ltm, ni_mlt, ni_lem, ni_mle, ni_eqm, ni_meq, ni_mm, ni_mmle, ni_bit, ni_shl, ni_clr, fa_or, Nat.add_zero, Nat.zero_add, Nat.zero_mul, Nat.mul_zero, eOn, eOs, if_true, if_false, not_true_eq_false, not_false_eq_true, ite_true, ite_false, true_and, and_true, false_and, and_false, or_true, true_or, or_false, false_or, Bool.false_eq_true, reduceIte, Bool.not_true, Bool.not_false, and_self, or_self, q_ef, q_et, q_ltt, q_ltf, q_let, q_lef, gIs, gIl, gIr, gLs, gLl, gLr, gPs, gPl, gPr, gLc, gPc, zb_some, Option.bind_some, q_nm, q_pm, q_hm, q_tm, q_sm, q_wm, q_ym, q_lm, q_ua]; rw [List.length_take, Nat.min_eq_left (by omega)]
      · rw [List.length_take] at hi
        simp (disch := omega) only [ni_lit, nI_add, pk_mul, pk_sub, pk_div, nI_leI, nI_ltI, nI_eq, nI_clamp, ni_in, ni_inm, ni_ltm, ni_mlt, ni_lem, ni_mle, ni_eqm, ni_meq, ni_mm, ni_mmle, ni_bit, ni_shl, ni_clr, fa_or, Nat.add_zero, Nat.zero_add, Nat.zero_mul, Nat.mul_zero, eOn, eOs, if_true, if_false, not_true_eq_false, not_false_eq_true, ite_true, ite_false, true_and, and_true, false_and, and_false, or_true, true_or, or_false, false_or, Bool.false_eq_true, reduceIte, Bool.not_true, Bool.not_false, and_self, or_self, q_ef, q_et, q_ltt, q_ltf, q_let, q_lef, gIs, gIl, gIr, gLs, gLl, gLr, gPs, gPl, gPr, gLc, gPc, zb_some, Option.bind_some, q_nm, q_pm, q_hm, q_tm, q_sm, q_wm, q_ym, q_lm, q_ua]
        rw [h.1.2 i (by omega), List.getD_eq_getElem?_getD, List.getD_eq_getElem?_getD, List.getElem?_take_of_lt (by omega)]
  · refine ⟨a_ref A 0, two_m (nI 0) (fun hA => hA.ref) (fun S h hA => ?_) (fun S h hA => ?_)⟩
    · have hl := hA.2.2.2.2.2.2.2.1.1
      have e := e108 (d + 19) x S h.1
      have e2 := b108_12_eq (d + 19) S h.1
      have h0 := h.2.2.2.2.2.2.2.2.1 0 (by omega)
      rw [if_pos (by decide), if_pos (by decide), show ((0 : Int32)).toNatClampNeg = 0 from rfl, h0, show (1 : Int32) = nI 1 from rfl, nI_add] at e2
      have e3 : fI (d + 20) 108 [.ref 0, .int x] S = b108_12 (d + 19) S := by
        rw [h.2.1.1] at e
        by_cases c1 : x < 0
        · rw [if_pos c1] at e; exact e
        · rw [if_neg c1] at e
          by_cases c2 : x ≤ nI (a_tp A).length
          · exfalso
            rw [x_lt0] at c1
            rw [fa_le, nI_toInt (by omega)] at c2
            exact c (decide_eq_true (by omega))
          · rw [if_neg c2] at e; exact e
      exact ⟨_, e3.trans e2, onM_sI (D := fun c _ => c < 396) (c := 395) (onM.refl h.1) (by decide), h.ref⟩
    · have hl := hA.2.2.2.2.2.2.2.1.1
      have e := e158 (d + 19) x S h.W
      have e2 := b158_12_eq (d + 19) S h.W
      have a1 : fI (d + 19) 194 [.ref 396, .int 0] S = _ := m194 (d := d + 18) (j := 0) h.W h.2.2.2.2.2.2.2.2.2.1 (by omega)
      rw [a1, zb_some, if_pos (by decide)] at e2
      have e3 : fI (d + 20) 158 [.ref 396, .int x] S = b158_12 (d + 19) S := by
        rw [h.1.1] at e
        by_cases c1 : x < 0
        · rw [if_pos c1] at e; exact e
        · rw [if_neg c1] at e
          by_cases c2 : x ≤ nI (a_tp A).length
          · exfalso
            rw [x_lt0] at c1
            rw [fa_le, nI_toInt (by omega)] at c2
            exact c (decide_eq_true (by omega))
          · rw [if_neg c2] at e; exact e
      exact ⟨_, e3.trans e2, onM_sI (D := fun c _ => 396 ≤ c) (c := 419) (onM.refl h.W) (by decide), h.ref hA⟩
end TC
