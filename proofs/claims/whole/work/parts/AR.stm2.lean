/-! THE TEXT: the class reads statements; pieces. -/
section HD
variable {d q : Nat} {T : List Nat} {S : z_S} {p : Nat} {Q : g_Q}
/-- the plan on the way, in cell q -/
def xP (S : z_S) (q : Nat) (Q : g_Q) : Prop := gI S q 0 = nI (p_m Q.1) ∧ gI S q 1 = nI (p_R Q.1) ∧ gI S q 2 = nI (p_B Q.1) ∧ gI S q 3 = nI (p_T Q.1) ∧ gI S q 4 = nI (p_K Q.1) ∧ gI S q 5 = nI (p_H Q.1) ∧ gI S q 6 = nI (p_L Q.1) ∧ gI S q 7 = nI (p_c Q.1).length ∧ gI S q 8 = nI Q.2.1.length ∧ (∀ i, i < p_L Q.1 → gI S (q + 1) i = nI (q_nv (p_a Q.1 i))) ∧ (∀ i, i < p_L Q.1 → gI S (q + 2) i = nI (p_f Q.1 i)) ∧ (∀ i, i < p_L Q.1 → gI S (q + 3) i = nI (p_o Q.1 i)) ∧ (∀ i, i < (p_c Q.1).length → gI S (q + 4) i = nI ((p_c Q.1).getD i 0)) ∧ (∀ i, i < Q.2.1.length → gI S (q + 5) i = q_en (Q.2.1.getD i 0)) ∧ ∀ w, w < 3 → gI S (q + 6) w = nI (Q.2.2 w) ∧ gI S (q + 7) w = nI (Q.2.2 w + (p_d Q.1 w).length)
theorem xP.ag {S' : z_S} (h : xP S q Q) (ha : ∀ c k, q ≤ c → c ≤ q + 7 → gI S' c k = gI S c k) : xP S' q Q := by
  obtain ⟨h0, h1, h2, h3, h4, h5, h6, h7, h8, h9, h10, h11, h12, h13, h14⟩ := h
  refine ⟨?_, ?_, ?_, ?_, ?_, ?_, ?_, ?_, ?_, fun i hi => ?_, fun i hi => ?_, fun i hi => ?_, fun i hi => ?_, fun i hi => ?_, fun w hw => ?_⟩
  · rw [ha _ _ (by omega) (by omega)]; exact h0
  · rw [ha _ _ (by omega) (by omega)]; exact h1
  · rw [ha _ _ (by omega) (by omega)]; exact h2
  · rw [ha _ _ (by omega) (by omega)]; exact h3
  · rw [ha _ _ (by omega) (by omega)]; exact h4
  · rw [ha _ _ (by omega) (by omega)]; exact h5
  · rw [ha _ _ (by omega) (by omega)]; exact h6
  · rw [ha _ _ (by omega) (by omega)]; exact h7
  · rw [ha _ _ (by omega) (by omega)]; exact h8
  · rw [ha _ _ (by omega) (by omega)]; exact h9 i hi
  · rw [ha _ _ (by omega) (by omega)]; exact h10 i hi
  · rw [ha _ _ (by omega) (by omega)]; exact h11 i hi
  · rw [ha _ _ (by omega) (by omega)]; exact h12 i hi
  · rw [ha _ _ (by omega) (by omega)]; exact h13 i hi
  · rw [ha _ _ (by omega) (by omega), ha _ _ (by omega) (by omega)]; exact h14 w hw
def cS (S : z_S) (T : List Nat) (q p : Nat) (Q : g_Q) : Prop := cTk S T p ∧ g_zf S q ∧ gP S 18 3 = q ∧ xP S q Q
def g_sD (q : Nat) : Nat → Nat → Prop := fun c k => c = 18 ∧ (k ≤ 1 ∨ k = 4) ∨ c = 19 ∧ 3 ≤ k ∧ k ≤ 8 ∨ q ≤ c ∧ c ≤ q + 7
theorem cS.W (h : cS S T q p Q) : z_W S := h.1.1.1
theorem cS.qq (h : cS S T q p Q) : q = 2 ∨ q = 10 := zP6 h.2.1.1
def cFl (r : Option (Int32 × z_S)) (S : z_S) (q : Nat) (e : Nat × Nat) : Prop := ∃ S', r = some (0, S') ∧ onI (g_sD q) S S' ∧ gI S' 18 0 = nI e.1 ∧ gI S' 18 1 = nI e.2
def cRq (r : Option (Int32 × z_S)) (S : z_S) (T : List Nat) (q : Nat) (g : g_RS) : Prop := match g with
  | .inl e => cFl r S q e
  | .inr x => ∃ S', r = some (1, S') ∧ onI (g_sD q) S S' ∧ cS S' T q x.1 x.2
theorem cFl.tr {r : Option (Int32 × z_S)} {S S' : z_S} {e : Nat × Nat} (h : cFl r S' q e) (o : onI (g_sD q) S S') : cFl r S q e := by
  obtain ⟨S2, a1, a2, a3⟩ := h
  exact ⟨S2, a1, o.trans a2, a3⟩
theorem cRq.tr {r : Option (Int32 × z_S)} {S S' : z_S} {g : g_RS} (h : cRq r S' T q g) (o : onI (g_sD q) S S') : cRq r S T q g := by
  cases g with
  | inl e => exact cFl.tr h o
  | inr x =>
    obtain ⟨S2, a1, a2, a3⟩ := h
    exact ⟨S2, a1, o.trans a2, a3⟩
theorem cFl.C {r : Option (Int32 × z_S)} {S : z_S} {e : Nat × Nat} (h : cFl r S q e) : cFl (zb r fun v S' => if v = 0 ∨ v = 1 then some (v, S') else none) S q e := by
  obtain ⟨S2, a1, a2, a3⟩ := h
  exact ⟨S2, by rw [a1, zb_some, if_pos (Or.inl rfl)], a2, a3⟩
theorem cRq.C {r : Option (Int32 × z_S)} {S : z_S} {g : g_RS} (h : cRq r S T q g) : cRq (zb r fun v S' => if v = 0 ∨ v = 1 then some (v, S') else none) S T q g := by
  cases g with
  | inl e => exact cFl.C h
  | inr x =>
    obtain ⟨S2, a1, a2, a3⟩ := h
    exact ⟨S2, by rw [a1, zb_some, if_pos (Or.inr rfl)], a2, a3⟩
theorem c9s (h : cTk S T p) : cFl (fI (d + 1) 9 [.ref 18] S) S q (1, g_ft T p) := by
  have e := e9 d S h.1.1
  refine ⟨_, e, onI_sI (D := g_sD q) (c := 18) (k := 1) (onI_sI (D := g_sD q) (c := 18) (k := 0) (onI.refl h.1.1) (Or.inl ⟨rfl, by omega⟩)) (Or.inl ⟨rfl, by omega⟩), ?_, ?_⟩
  · show _ = nI 1; simp (disch := omega) only [ni_lit, nI_add, pk_mul, pk_sub, pk_div, nI_leI, nI_ltI, nI_eq, nI_clamp, ni_in, ni_inm, ni_ltm, ni_mlt, ni_lem, ni_mle, ni_eqm, ni_meq, ni_mm, ni_mmle, ni_bit, ni_shl, ni_clr, fa_or, Nat.add_zero, Nat.zero_add, Nat.zero_mul, Nat.mul_zero, eOn, eOs, if_true, if_false, not_true_eq_false, not_false_eq_true, ite_true, ite_false, true_and, and_true, false_and, and_false, or_true, true_or, or_false, false_or, Bool.false_eq_true, reduceIte, Bool.not_true, Bool.not_false, and_self, or_self, q_ef, q_et, q_ltt, q_ltf, q_let, q_lef, gIs, gIl, gIr, gLs, gLl, gLr, gPs, gPl, gPr, gLc, gPc, zb_some, Option.bind_some, q_nm, q_pm, q_hm, q_tm, q_sm, q_wm, q_ym, q_lm, q_ua]
  · have := h.2.2.2.2.1
    show _ = nI (g_ft T p)
    simp (disch := omega) only [ni_lit, nI_add, pk_mul, pk_sub, pk_div, nI_leI, nI_ltI, nI_eq, nI_clamp, ni_in, ni_inm, ni_ltm, ni_mlt, ni_lem, ni_mle, ni_eqm, ni_meq, ni_mm, ni_mmle, ni_bit, ni_shl, ni_clr, fa_or, Nat.add_zero, Nat.zero_add, Nat.zero_mul, Nat.mul_zero, eOn, eOs, if_true, if_false, not_true_eq_false, not_false_eq_true, ite_true, ite_false, true_and, and_true, false_and, and_false, or_true, true_or, or_false, false_or, Bool.false_eq_true, reduceIte, Bool.not_true, Bool.not_false, and_self, or_self, q_ef, q_et, q_ltt, q_ltf, q_let, q_lef, gIs, gIl, gIr, gLs, gLl, gLr, gPs, gPl, gPr, gLc, gPc, zb_some, Option.bind_some, q_nm, q_pm, q_hm, q_tm, q_sm, q_wm, q_ym, q_lm, q_ua, this]
theorem c10s {k : Nat} (h : cTk S T p) : cFl (fI (d + 1) 10 [.ref 18, .int (nI k)] S) S q (k, g_st T p) := by
  have e := e10 d (nI k) S h.1.1
  refine ⟨_, e, onI_sI (D := g_sD q) (c := 18) (k := 1) (onI_sI (D := g_sD q) (c := 18) (k := 0) (onI.refl h.1.1) (Or.inl ⟨rfl, by omega⟩)) (Or.inl ⟨rfl, by omega⟩), ?_, ?_⟩
  · show _ = nI k; simp (disch := omega) only [ni_lit, nI_add, pk_mul, pk_sub, pk_div, nI_leI, nI_ltI, nI_eq, nI_clamp, ni_in, ni_inm, ni_ltm, ni_mlt, ni_lem, ni_mle, ni_eqm, ni_meq, ni_mm, ni_mmle, ni_bit, ni_shl, ni_clr, fa_or, Nat.add_zero, Nat.zero_add, Nat.zero_mul, Nat.mul_zero, eOn, eOs, if_true, if_false, not_true_eq_false, not_false_eq_true, ite_true, ite_false, true_and, and_true, false_and, and_false, or_true, true_or, or_false, false_or, Bool.false_eq_true, reduceIte, Bool.not_true, Bool.not_false, and_self, or_self, q_ef, q_et, q_ltt, q_ltf, q_let, q_lef, gIs, gIl, gIr, gLs, gLl, gLr, gPs, gPl, gPr, gLc, gPc, zb_some, Option.bind_some, q_nm, q_pm, q_hm, q_tm, q_sm, q_wm, q_ym, q_lm, q_ua]
  · have := h.2.2.2.1
    show _ = nI (g_st T p)
    simp (disch := omega) only [ni_lit, nI_add, pk_mul, pk_sub, pk_div, nI_leI, nI_ltI, nI_eq, nI_clamp, ni_in, ni_inm, ni_ltm, ni_mlt, ni_lem, ni_mle, ni_eqm, ni_meq, ni_mm, ni_mmle, ni_bit, ni_shl, ni_clr, fa_or, Nat.add_zero, Nat.zero_add, Nat.zero_mul, Nat.mul_zero, eOn, eOs, if_true, if_false, not_true_eq_false, not_false_eq_true, ite_true, ite_false, true_and, and_true, false_and, and_false, or_true, true_or, or_false, false_or, Bool.false_eq_true, reduceIte, Bool.not_true, Bool.not_false, and_self, or_self, q_ef, q_et, q_ltt, q_ltf, q_let, q_lef, gIs, gIl, gIr, gLs, gLl, gLr, gPs, gPl, gPr, gLc, gPc, zb_some, Option.bind_some, q_nm, q_pm, q_hm, q_tm, q_sm, q_wm, q_ym, q_lm, q_ua, this]
theorem c98s (h : cS S T q p Q) (hk : g_kd T p ≠ 4) : ∃ S', fV (d + 3) 98 [.ref 19] S = some S' ∧ onI (g_sD q) S S' ∧ cS S' T q (g_en T p) Q := by
  obtain ⟨S', a1, a2, a3⟩ := c98n (d := d) h.1 hk
  have hq := h.qq
  refine ⟨S', a1, a2.mono fun c k z => by unfold tDa at z; unfold g_sD; omega, a3, h.2.1.on a2 (fun c k z => by unfold tDa at z; omega), by rw [a2.P]; exact h.2.2.1, h.2.2.2.ag fun c k z1 z2 => a2.I (by unfold tDa; omega)⟩
/-- a cell of the plan is put -/
theorem cS.put {S' : z_S} {Q' : g_Q} (h : cS S T q p Q) (o : onI (fun c _ => q ≤ c ∧ c ≤ q + 7) S S') (hx : xP S' q Q') : onI (g_sD q) S S' ∧ cS S' T q p Q' := by
  have hq := h.qq
  exact ⟨o.mono fun c k z => by unfold g_sD; omega, h.1.on o fun c k z => by omega, h.2.1.on o (fun c k z => by omega), by rw [o.P]; exact h.2.2.1, hx⟩
theorem c13s {lo hi : Nat} (h : cS S T q p Q) (hh : hi < 2147483648) (hlo : lo < 2147483648) : (g_kd T p = 2 → lo ≤ g_vl T p ∧ g_vl T p ≤ hi → fI (d + 2) 13 [.ref 18, .int (nI lo), .int (nI hi)] S = some (1, S)) ∧ (g_kd T p = 2 → ¬ (lo ≤ g_vl T p ∧ g_vl T p ≤ hi) → cFl (fI (d + 2) 13 [.ref 18, .int (nI lo), .int (nI hi)] S) S q (4, g_st T p)) ∧ (g_kd T p ≠ 2 → cFl (fI (d + 2) 13 [.ref 18, .int (nI lo), .int (nI hi)] S) S q (1, g_ft T p)) := by
  have e := e13 (d + 1) (nI lo) (nI hi) S h.W
  have h4 := g_kd_le (T := T) (p := p)
  rw [h.1.2.2.1] at e
  have e38 := b13_38_eq (d + 1) S h.W
  have bad : cFl (b13_38 (d + 1) S) S q (4, g_st T p) := by
    obtain ⟨S2, a1, a2, a3⟩ := c10s (d := d) (q := q) (k := 4) h.1
    have a1' : fI (d + 1) 10 [.ref 18, .int (4 : Int32)] S = some (0, S2) := a1
    rw [a1', zb_some, if_pos rfl] at e38
    exact ⟨S2, e38, a2, a3⟩
  refine ⟨fun k2 hv => ?_, fun k2 hv => ?_, fun k2 => ?_⟩
  · have hv4 := g_vl_lt k2
    rw [k2, if_pos (show nI 2 = (2 : Int32) from rfl), h.1.2.2.2.2.2.2.2.1 (Or.inl k2), if_neg (fun z => by have := (nI_ltI (by omega) (by omega)).mp z; omega), if_pos (nI_le hv.2 (by omega)), b13_46_eq (d + 1) S h.W] at e
    exact e
  · have hv4 := g_vl_lt k2
    rw [k2, if_pos (show nI 2 = (2 : Int32) from rfl), h.1.2.2.2.2.2.2.2.1 (Or.inl k2)] at e
    rw [e]
    by_cases c1 : g_vl T p < lo
    · rw [if_pos (nI_lt c1 (by omega))]; exact bad
    · rw [if_neg (fun z => by have := (nI_ltI (by omega) (by omega)).mp z; omega), if_neg (nI_ge (by omega) (by omega))]; exact bad
  · rw [if_neg (show ¬ nI (g_kd T p) = (2 : Int32) from fun z => k2 ((nI_eq (b := 2) (by omega) (by omega)).mp z))] at e
    rw [e]
    exact (c9s (d := d) h.1).C
theorem c64 {l : List Nat} (hx : xP S q Q) (hW : z_W S) (hq : z_K q = 6) (hP : p_Wf Q.1) (hv : g_vd l) (hl : l.length ≤ 6) : fI (d + 1) 64 [.ref q, .int (nI (q_nv l))] S = some (eO (g_who Q.1 l), S) := by
  have hL := hP.2.2.2.2.1
  have hw := hP.2.2.2.2.2.2.2.2.2.2.2.2.2.2
  rw [e64 d q (nI (q_nv l)) S hW hq]
  have key : ∀ (m i : Nat), i + m = p_L Q.1 → b64_2 d q (nI (q_nv l)) (nI i) S = some (eO (w_lp (fun i => if p_a Q.1 i = l then some i else none) m i), S) := by
    intro m
    induction m with
    | zero =>
      intro i hi
      rw [b64_2_eq d q (nI (q_nv l)) (nI i) S hW hq, hx.2.2.2.2.2.2.1, if_pos (nI_le (by omega) (by omega))]
      rfl
    | succ m ih =>
      intro i hi
      obtain ⟨x1, x2⟩ := hw i (by omega)
      have b1 := q_nv_lt hv hl
      have b2 := q_nv_lt x2 x1
      have r : gI S (q + 1) (nI i).toNatClampNeg = nI (q_nv (p_a Q.1 i)) := by rw [nI_clamp (by omega)]; exact hx.2.2.2.2.2.2.2.2.2.1 i (by omega)
      rw [b64_2_eq d q (nI (q_nv l)) (nI i) S hW hq, hx.2.2.2.2.2.2.1, if_neg (nI_ge (by omega) (by omega)), if_pos ((ni_in (by omega)).mpr (by omega)), r, w_lp]
      by_cases c : p_a Q.1 i = l
      · rw [c, if_neg (fun z => z rfl), if_pos rfl]
        rfl
      · rw [if_pos (fun z => c ((q_nv_inj x2 hv).mp ((nI_eq (by omega) (by omega)).mp z))), if_neg c, nI_1]
        exact ih (i + 1) (by omega)
  exact key (p_L Q.1) 0 (by omega)
theorem c65 {k : Nat} (hx : xP S q Q) (hW : z_W S) (hq : z_K q = 6) (hP : p_Wf Q.1) (hk : k < 16) : fI (d + 1) 65 [.ref q, .int (nI k)] S = some (bI (decide (k ∈ p_c Q.1)), S) := by
  have hc := hP.2.2.2.2.2.2.2.2.1
  have hcl := hP.2.2.2.2.2.2.2.2.2.1
  have hL := hP.2.2.2.2.1
  rw [e65 d q (nI k) S hW hq]
  have key : ∀ (m i : Nat), i + m = (p_c Q.1).length → b65_2 d q (nI k) (nI i) S = some (bI (decide (k ∈ (p_c Q.1).drop i)), S) := by
    intro m
    induction m with
    | zero =>
      intro i hi
      rw [b65_2_eq d q (nI k) (nI i) S hW hq, hx.2.2.2.2.2.2.2.1, if_pos (nI_le (by omega) (by omega)), List.drop_eq_nil_of_le (by omega)]
      rfl
    | succ m ih =>
      intro i hi
      have hi' : i < (p_c Q.1).length := by omega
      have hm : (p_c Q.1)[i] ∈ p_c Q.1 := List.getElem_mem _
      have hlt := hcl _ hm
      have gd : (p_c Q.1).getD i 0 = (p_c Q.1)[i] := by rw [List.getD_eq_getElem?_getD, List.getElem?_eq_getElem hi']; rfl
      have r : gI S (q + 4) (nI i).toNatClampNeg = nI (p_c Q.1)[i] := by rw [nI_clamp (by omega), hx.2.2.2.2.2.2.2.2.2.2.2.2.1 i hi', gd]
      rw [b65_2_eq d q (nI k) (nI i) S hW hq, hx.2.2.2.2.2.2.2.1, if_neg (nI_ge (by omega) (by omega)), if_pos ((ni_in (by omega)).mpr (by omega)), r, List.drop_eq_getElem_cons hi']
      by_cases c : (p_c Q.1)[i] = k
      · rw [if_neg (fun z => z (by rw [c])), decide_eq_true (by rw [c]; exact List.mem_cons_self)]
        rfl
      · rw [if_pos (fun z => c ((nI_eq (by omega) (by omega)).mp z)), nI_1, ih (i + 1) (by omega)]
        congr 3
        refine decide_eq_decide.mpr ⟨fun z => List.mem_cons_of_mem _ z, fun z => ?_⟩
        rcases List.mem_cons.mp z with y | y
        · exact absurd y.symm c
        · exact y
  have := key (p_c Q.1).length 0 (by omega)
  rw [List.drop_zero] at this
  exact this
end HD
