/-! THE TEXT: the class's tokens. -/
section GC
variable {d : Nat} {T : List Nat}
theorem c101 {S : z_S} {c : Nat} (hW : z_W S) (hc : c < 256) : fI (d + 1) 101 [.int (nI c)] S = some (bI (g_l c), S) := by
  have e := e101 d (nI c) S hW
  rw [b101_16_eq d S hW] at e
  unfold g_l
  by_cases c1 : 97 ≤ c
  · by_cases c2 : c ≤ 122
    · simp (disch := omega) only [ni_lit, nI_add, pk_mul, pk_sub, pk_div, nI_leI, nI_ltI, nI_eq, nI_clamp, ni_in, ni_inm, ni_ltm, ni_mlt, ni_lem, ni_mle, ni_eqm, ni_meq, ni_mm, ni_mmle, ni_bit, ni_shl, ni_clr, fa_or, Nat.add_zero, Nat.zero_add, Nat.zero_mul, Nat.mul_zero, eOn, eOs, if_true, if_false, not_true_eq_false, not_false_eq_true, ite_true, ite_false, true_and, and_true, false_and, and_false, or_true, true_or, or_false, false_or, Bool.false_eq_true, reduceIte, Bool.not_true, Bool.not_false, and_self, or_self, q_ef, q_et, q_ltt, q_ltf, q_let, q_lef, gIs, gIl, gIr, gLs, gLl, gLr, gPs, gPl, gPr, gLc, gPc, zb_some, Option.bind_some, q_nm, q_pm, q_hm, q_tm, q_sm, q_wm, q_ym, q_lm, q_ua] at e
      rw [decide_eq_true c1, decide_eq_true c2]; exact e
    · simp (disch := omega) only [ni_lit, nI_add, pk_mul, pk_sub, pk_div, nI_leI, nI_ltI, nI_eq, nI_clamp, ni_in, ni_inm, ni_ltm, ni_mlt, ni_lem, ni_mle, ni_eqm, ni_meq, ni_mm, ni_mmle, ni_bit, ni_shl, ni_clr, fa_or, Nat.add_zero, Nat.zero_add, Nat.zero_mul, Nat.mul_zero, eOn, eOs, if_true, if_false, not_true_eq_false, not_false_eq_true, ite_true, ite_false, true_and, and_true, false_and, and_false, or_true, true_or, or_false, false_or, Bool.false_eq_true, reduceIte, Bool.not_true, Bool.not_false, and_self, or_self, q_ef, q_et, q_ltt, q_ltf, q_let, q_lef, gIs, gIl, gIr, gLs, gLl, gLr, gPs, gPl, gPr, gLc, gPc, zb_some, Option.bind_some, q_nm, q_pm, q_hm, q_tm, q_sm, q_wm, q_ym, q_lm, q_ua] at e
      rw [decide_eq_false c2, Bool.and_false]; exact e
  · simp (disch := omega) only [ni_lit, nI_add, pk_mul, pk_sub, pk_div, nI_leI, nI_ltI, nI_eq, nI_clamp, ni_in, ni_inm, ni_ltm, ni_mlt, ni_lem, ni_mle, ni_eqm, ni_meq, ni_mm, ni_mmle, ni_bit, ni_shl, ni_clr, fa_or, Nat.add_zero, Nat.zero_add, Nat.zero_mul, Nat.mul_zero, eOn, eOs, if_true, if_false, not_true_eq_false, not_false_eq_true, ite_true, ite_false, true_and, and_true, false_and, and_false, or_true, true_or, or_false, false_or, Bool.false_eq_true, reduceIte, Bool.not_true, Bool.not_false, and_self, or_self, q_ef, q_et, q_ltt, q_ltf, q_let, q_lef, gIs, gIl, gIr, gLs, gLl, gLr, gPs, gPl, gPr, gLc, gPc, zb_some, Option.bind_some, q_nm, q_pm, q_hm, q_tm, q_sm, q_wm, q_ym, q_lm, q_ua] at e
    rw [decide_eq_false c1, Bool.false_and]; exact e
theorem c102 {S : z_S} {c : Nat} (hW : z_W S) (hc : c < 256) : fI (d + 1) 102 [.int (nI c)] S = some (bI (g_d c), S) := by
  have e := e102 d (nI c) S hW
  rw [b102_16_eq d S hW] at e
  unfold g_d
  by_cases c1 : 48 ≤ c
  · by_cases c2 : c ≤ 57
    · simp (disch := omega) only [ni_lit, nI_add, pk_mul, pk_sub, pk_div, nI_leI, nI_ltI, nI_eq, nI_clamp, ni_in, ni_inm, ni_ltm, ni_mlt, ni_lem, ni_mle, ni_eqm, ni_meq, ni_mm, ni_mmle, ni_bit, ni_shl, ni_clr, fa_or, Nat.add_zero, Nat.zero_add, Nat.zero_mul, Nat.mul_zero, eOn, eOs, if_true, if_false, not_true_eq_false, not_false_eq_true, ite_true, ite_false, true_and, and_true, false_and, and_false, or_true, true_or, or_false, false_or, Bool.false_eq_true, reduceIte, Bool.not_true, Bool.not_false, and_self, or_self, q_ef, q_et, q_ltt, q_ltf, q_let, q_lef, gIs, gIl, gIr, gLs, gLl, gLr, gPs, gPl, gPr, gLc, gPc, zb_some, Option.bind_some, q_nm, q_pm, q_hm, q_tm, q_sm, q_wm, q_ym, q_lm, q_ua] at e
      rw [decide_eq_true c1, decide_eq_true c2]; exact e
    · simp (disch := omega) only [ni_lit, nI_add, pk_mul, pk_sub, pk_div, nI_leI, nI_ltI, nI_eq, nI_clamp, ni_in, ni_inm, ni_ltm, ni_mlt, ni_lem, ni_mle, ni_eqm, ni_meq, ni_mm, ni_mmle, ni_bit, ni_shl, ni_clr, fa_or, Nat.add_zero, Nat.zero_add, Nat.zero_mul, Nat.mul_zero, eOn, eOs, if_true, if_false, not_true_eq_false, not_false_eq_true, ite_true, ite_false, true_and, and_true, false_and, and_false, or_true, true_or, or_false, false_or, Bool.false_eq_true, reduceIte, Bool.not_true, Bool.not_false, and_self, or_self, q_ef, q_et, q_ltt, q_ltf, q_let, q_lef, gIs, gIl, gIr, gLs, gLl, gLr, gPs, gPl, gPr, gLc, gPc, zb_some, Option.bind_some, q_nm, q_pm, q_hm, q_tm, q_sm, q_wm, q_ym, q_lm, q_ua] at e
      rw [decide_eq_false c2, Bool.and_false]; exact e
  · simp (disch := omega) only [ni_lit, nI_add, pk_mul, pk_sub, pk_div, nI_leI, nI_ltI, nI_eq, nI_clamp, ni_in, ni_inm, ni_ltm, ni_mlt, ni_lem, ni_mle, ni_eqm, ni_meq, ni_mm, ni_mmle, ni_bit, ni_shl, ni_clr, fa_or, Nat.add_zero, Nat.zero_add, Nat.zero_mul, Nat.mul_zero, eOn, eOs, if_true, if_false, not_true_eq_false, not_false_eq_true, ite_true, ite_false, true_and, and_true, false_and, and_false, or_true, true_or, or_false, false_or, Bool.false_eq_true, reduceIte, Bool.not_true, Bool.not_false, and_self, or_self, q_ef, q_et, q_ltt, q_ltf, q_let, q_lef, gIs, gIl, gIr, gLs, gLl, gLr, gPs, gPl, gPr, gLc, gPc, zb_some, Option.bind_some, q_nm, q_pm, q_hm, q_tm, q_sm, q_wm, q_ym, q_lm, q_ua] at e
    rw [decide_eq_false c1, Bool.false_and]; exact e
theorem c96_l {S : z_S} (hW : z_W S) : ∀ (m j v : Nat), j + m = 6 → b96_4 d (nI v) (nI j) S = some (nI (v * 27 ^ m), S)
  | 0, j, v, h => by
    have e := b96_4_eq d (nI v) (nI j) S hW
    simp (disch := omega) only [ni_lit, nI_add, pk_mul, pk_sub, pk_div, nI_leI, nI_ltI, nI_eq, nI_clamp, ni_in, ni_inm, ni_ltm, ni_mlt, ni_lem, ni_mle, ni_eqm, ni_meq, ni_mm, ni_mmle, ni_bit, ni_shl, ni_clr, fa_or, Nat.add_zero, Nat.zero_add, Nat.zero_mul, Nat.mul_zero, eOn, eOs, if_true, if_false, not_true_eq_false, not_false_eq_true, ite_true, ite_false, true_and, and_true, false_and, and_false, or_true, true_or, or_false, false_or, Bool.false_eq_true, reduceIte, Bool.not_true, Bool.not_false, and_self, or_self, q_ef, q_et, q_ltt, q_ltf, q_let, q_lef, gIs, gIl, gIr, gLs, gLl, gLr, gPs, gPl, gPr, gLc, gPc, zb_some, Option.bind_some, q_nm, q_pm, q_hm, q_tm, q_sm, q_wm, q_ym, q_lm, q_ua] at e
    rw [e, Nat.pow_zero, Nat.mul_one]
  | m + 1, j, v, h => by
    have e := b96_4_eq d (nI v) (nI j) S hW
    simp (disch := omega) only [ni_lit, nI_add, pk_mul, pk_sub, pk_div, nI_leI, nI_ltI, nI_eq, nI_clamp, ni_in, ni_inm, ni_ltm, ni_mlt, ni_lem, ni_mle, ni_eqm, ni_meq, ni_mm, ni_mmle, ni_bit, ni_shl, ni_clr, fa_or, Nat.add_zero, Nat.zero_add, Nat.zero_mul, Nat.mul_zero, eOn, eOs, if_true, if_false, not_true_eq_false, not_false_eq_true, ite_true, ite_false, true_and, and_true, false_and, and_false, or_true, true_or, or_false, false_or, Bool.false_eq_true, reduceIte, Bool.not_true, Bool.not_false, and_self, or_self, q_ef, q_et, q_ltt, q_ltf, q_let, q_lef, gIs, gIl, gIr, gLs, gLl, gLr, gPs, gPl, gPr, gLc, gPc, zb_some, Option.bind_some, q_nm, q_pm, q_hm, q_tm, q_sm, q_wm, q_ym, q_lm, q_ua] at e
    rw [e, c96_l hW m (j + 1) (v * 27) (by omega), Nat.pow_succ, Nat.mul_assoc, Nat.mul_comm 27]
theorem c96 {S : z_S} {j v : Nat} (hW : z_W S) (h : j ≤ 6) : fI (d + 1) 96 [.int (nI v), .int (nI j)] S = some (nI (v * 27 ^ (6 - j)), S) := by
  rw [e96 d (nI v) (nI j) S hW]
  exact c96_l hW (6 - j) j v (by omega)
/-- the text, as the class has it before it -/
def cTx (S : z_S) (T : List Nat) : Prop := z_W S ∧ gP S 19 1 = 1 ∧ gI S 19 2 = nI T.length ∧ T.length ≤ 1600 ∧ (∀ i, i < T.length → gI S 1 i = nI (g_t T i) ∧ g_t T i < 256) ∧ cOw S
theorem cTx.on {S S' : z_S} {D : Nat → Nat → Prop} (h : cTx S T) (ho : onI D S S') (hd : ∀ c k, D c k → 2 ≤ c ∧ c ≤ 18 ∨ c = 19 ∧ 3 ≤ k) : cTx S' T := by
  obtain ⟨h1, h2, h3, h4, h5, h6⟩ := h
  refine ⟨ho.W, by rw [ho.P]; exact h2, by rw [ho.I (fun z => by have := hd _ _ z; omega)]; exact h3, h4, fun i hi => ⟨by rw [ho.I (fun z => by have := hd _ _ z; omega)]; exact (h5 i hi).1, (h5 i hi).2⟩, fun i hi => by rw [ho.I (fun z => by have := hd _ _ z; omega)]; exact h6 i hi⟩
theorem zLn1 : z_Ln 1 = 1600 := by decide +kernel
/-- the byte looked at -/
theorem cTx.at {S : z_S} (h : cTx S T) {i : Nat} (hi : i < T.length) (ha : gI S 19 3 = nI i) : z_in (gI S 19 3) (z_Ln (gP S 19 1)) ∧ gI S (gP S 19 1) (gI S 19 3).toNatClampNeg = nI (g_t T i) := by
  obtain ⟨h1, h2, h3, h4, h5, h6⟩ := h
  rw [ha, h2, zLn1, nI_clamp (by omega)]
  exact ⟨(ni_in (by omega)).mpr (by omega), (h5 i hi).1⟩
theorem g_ls_s (T : List Nat) (s n : Nat) : g_ls T s (n + 1) = g_ls T s n ++ [g_t T (s + n) - 96] := by
  unfold g_ls
  rw [List.range_succ, List.map_append]
  rfl
theorem g_ls_len (T : List Nat) (s n : Nat) : (g_ls T s n).length = n := by
  unfold g_ls
  rw [List.length_map, List.length_range]
theorem g_ls_vd {s n : Nat} (h : ∀ i, i < n → g_l (g_t T (s + i)) = true) : g_vd (g_ls T s n) := fun x hx => by
  unfold g_ls at hx
  obtain ⟨i, hi, e⟩ := List.mem_map.mp hx
  have := h i (List.mem_range.mp hi)
  rw [g_l_i] at this
  omega
theorem c99_w {l : List Nat} (hv : g_vd l) (hl : l.length ≤ 6) : ∀ (m i : Nat) (S : z_S), i + m = 24 → z_W S → cOw S → gI S 19 6 = nI (q_nv l) → gI S 19 7 = eO (g_oi l i) → ∃ S', b99_120 d (nI i) S = some S' ∧ onI (fun c k => c = 19 ∧ k = 7) S S' ∧ gI S' 19 7 = eO (g_oi l 24)
  | 0, i, S, hi, hW, ho, h6, h7 => by
    have e := b99_120_eq d (nI i) S hW
    simp (disch := omega) only [ni_lit, nI_add, pk_mul, pk_sub, pk_div, nI_leI, nI_ltI, nI_eq, nI_clamp, ni_in, ni_inm, ni_ltm, ni_mlt, ni_lem, ni_mle, ni_eqm, ni_meq, ni_mm, ni_mmle, ni_bit, ni_shl, ni_clr, fa_or, Nat.add_zero, Nat.zero_add, Nat.zero_mul, Nat.mul_zero, eOn, eOs, if_true, if_false, not_true_eq_false, not_false_eq_true, ite_true, ite_false, true_and, and_true, false_and, and_false, or_true, true_or, or_false, false_or, Bool.false_eq_true, reduceIte, Bool.not_true, Bool.not_false, and_self, or_self, q_ef, q_et, q_ltt, q_ltf, q_let, q_lef, gIs, gIl, gIr, gLs, gLl, gLr, gPs, gPl, gPr, gLc, gPc, zb_some, Option.bind_some, q_nm, q_pm, q_hm, q_tm, q_sm, q_wm, q_ym, q_lm, q_ua] at e
    rw [show i = 24 by omega] at h7
    exact ⟨S, e, onI.refl hW, h7⟩
  | m + 1, i, S, hi, hW, ho, h6, h7 => by
    have e := b99_120_eq d (nI i) S hW
    obtain ⟨k1, k2, k3⟩ := g_o_k (i := i) (by omega)
    have hoi := ho i (by omega)
    rw [k3] at hoi
    have b1 := q_nv_lt hv
    have b2 := q_nv_lt k1
    have inj := q_nv_inj k1 hv k2 hl
    have nx : ∀ S1, z_W S1 → b99_144 d (nI i) S1 = b99_120 d (nI (i + 1)) S1 := fun S1 w => by rw [b99_144_eq d (nI i) S1 w, nI_1]
    by_cases c : g_o i = l
    · have c2 := inj.mpr c
      simp (disch := omega) only [ni_lit, nI_add, pk_mul, pk_sub, pk_div, nI_leI, nI_ltI, nI_eq, nI_clamp, ni_in, ni_inm, ni_ltm, ni_mlt, ni_lem, ni_mle, ni_eqm, ni_meq, ni_mm, ni_mmle, ni_bit, ni_shl, ni_clr, fa_or, Nat.add_zero, Nat.zero_add, Nat.zero_mul, Nat.mul_zero, eOn, eOs, if_true, if_false, not_true_eq_false, not_false_eq_true, ite_true, ite_false, true_and, and_true, false_and, and_false, or_true, true_or, or_false, false_or, Bool.false_eq_true, reduceIte, Bool.not_true, Bool.not_false, and_self, or_self, q_ef, q_et, q_ltt, q_ltf, q_let, q_lef, gIs, gIl, gIr, gLs, gLl, gLr, gPs, gPl, gPr, gLc, gPc, zb_some, Option.bind_some, q_nm, q_pm, q_hm, q_tm, q_sm, q_wm, q_ym, q_lm, q_ua, hoi, h6] at e
      have W2 : z_W (sI S 19 7 (nI i)) := hW
      rw [nx _ W2] at e
      have o1 : onI (fun c k => c = 19 ∧ k = 7) S (sI S 19 7 (nI i)) := onI_sI (D := fun c k => c = 19 ∧ k = 7) (c := 19) (k := 7) (onI.refl hW) ⟨rfl, rfl⟩
      obtain ⟨S', a1, a2, a3⟩ := c99_w hv hl m (i + 1) (sI S 19 7 (nI i)) (by omega) W2 (ho.ag (o1.ag fun c k z => by omega)) (by rw [o1.I (by omega)]; exact h6) (by
        rw [g_oi, if_pos c]
        simp (disch := omega) only [ni_lit, nI_add, pk_mul, pk_sub, pk_div, nI_leI, nI_ltI, nI_eq, nI_clamp, ni_in, ni_inm, ni_ltm, ni_mlt, ni_lem, ni_mle, ni_eqm, ni_meq, ni_mm, ni_mmle, ni_bit, ni_shl, ni_clr, fa_or, Nat.add_zero, Nat.zero_add, Nat.zero_mul, Nat.mul_zero, eOn, eOs, if_true, if_false, not_true_eq_false, not_false_eq_true, ite_true, ite_false, true_and, and_true, false_and, and_false, or_true, true_or, or_false, false_or, Bool.false_eq_true, reduceIte, Bool.not_true, Bool.not_false, and_self, or_self, q_ef, q_et, q_ltt, q_ltf, q_let, q_lef, gIs, gIl, gIr, gLs, gLl, gLr, gPs, gPl, gPr, gLc, gPc, zb_some, Option.bind_some, q_nm, q_pm, q_hm, q_tm, q_sm, q_wm, q_ym, q_lm, q_ua])
      exact ⟨S', e.trans a1, o1.trans a2, a3⟩
    · have c2 : ¬ q_nv (g_o i) = q_nv l := fun z => c (inj.mp z)
      simp (disch := omega) only [ni_lit, nI_add, pk_mul, pk_sub, pk_div, nI_leI, nI_ltI, nI_eq, nI_clamp, ni_in, ni_inm, ni_ltm, ni_mlt, ni_lem, ni_mle, ni_eqm, ni_meq, ni_mm, ni_mmle, ni_bit, ni_shl, ni_clr, fa_or, Nat.add_zero, Nat.zero_add, Nat.zero_mul, Nat.mul_zero, eOn, eOs, if_true, if_false, not_true_eq_false, not_false_eq_true, ite_true, ite_false, true_and, and_true, false_and, and_false, or_true, true_or, or_false, false_or, Bool.false_eq_true, reduceIte, Bool.not_true, Bool.not_false, and_self, or_self, q_ef, q_et, q_ltt, q_ltf, q_let, q_lef, gIs, gIl, gIr, gLs, gLl, gLr, gPs, gPl, gPr, gLc, gPc, zb_some, Option.bind_some, q_nm, q_pm, q_hm, q_tm, q_sm, q_wm, q_ym, q_lm, q_ua, hoi, h6] at e
      rw [nx _ hW] at e
      obtain ⟨S', a1, a2, a3⟩ := c99_w hv hl m (i + 1) S (by omega) hW ho h6 (by rw [g_oi, if_neg c]; exact h7)
      exact ⟨S', e.trans a1, a2, a3⟩
def tDw : Nat → Nat → Prop := fun c k => c = 19 ∧ (k = 3 ∨ k = 4 ∨ k = 6 ∨ k = 7 ∨ k = 8)
/-- what readWord leaves -/
def xWd (S' : z_S) (T : List Nat) (s : Nat) : Prop := (g_rn g_l T s - s ≤ 6 → gI S' 19 4 = nI 1 ∧ gI S' 19 3 = nI (g_rn g_l T s) ∧ gI S' 19 6 = nI (q_nv (g_ls T s (g_rn g_l T s - s))) ∧ gI S' 19 7 = eO (g_oi (g_ls T s (g_rn g_l T s - s)) 24) ∧ gI S' 19 8 = nI s) ∧ (6 < g_rn g_l T s - s → gI S' 19 4 = nI 4 ∧ gI S' 19 8 = nI (s + 6) ∧ gI S' 19 7 = -nI 1)
theorem c99_e {s j : Nat} {S : z_S} (h : cTx S T) (hs : s + j ≤ T.length) (hj : j ≤ 6) (hl : ∀ i, i < j → g_l (g_t T (s + i)) = true) (h3 : gI S 19 3 = nI (s + j)) (h4 : gI S 19 4 = nI 1) (h5 : gI S 19 5 = nI s) (h6 : gI S 19 6 = nI (g_27 (g_ls T s j))) (h7 : gI S 19 7 = -nI 1) (h8 : gI S 19 8 = nI s) (he : g_rn g_l T s = s + j) : ∃ S', b99_98 (d + 1) S = some S' ∧ onI tDw S S' ∧ xWd S' T s := by
  have h1600 := h.2.2.2.1
  have e := b99_98_eq (d + 1) S h.1
  have es : gI S 19 3 - gI S 19 5 = nI j := by
    rw [h3, h5, pk_sub (by omega), show s + j - s = j by omega]
  have hlen : (g_ls T s j).length = j := g_ls_len T s j
  have ev : g_27 (g_ls T s j) * 27 ^ (6 - j) = q_nv (g_ls T s j) := by
    have := g_27_nv 6 (g_ls T s j) (by omega)
    rw [hlen] at this
    exact this.symm
  rw [es, h6, c96 h.1 hj, zb_some, ev] at e
  generalize hS1 : sI S 19 6 (nI (q_nv (g_ls T s j))) = S1 at e
  have o1 : onI (fun c k => c = 19 ∧ k = 6) S S1 := by
    rw [← hS1]
    exact onI_sI (D := fun c k => c = 19 ∧ k = 6) (c := 19) (k := 6) (onI.refl h.1) ⟨rfl, rfl⟩
  have v1 : gI S1 19 6 = nI (q_nv (g_ls T s j)) := by rw [← hS1]; simp (disch := omega) only [ni_lit, nI_add, pk_mul, pk_sub, pk_div, nI_leI, nI_ltI, nI_eq, nI_clamp, ni_in, ni_inm, ni_ltm, ni_mlt, ni_lem, ni_mle, ni_eqm, ni_meq, ni_mm, ni_mmle, ni_bit, ni_shl, ni_clr, fa_or, Nat.add_zero, Nat.zero_add, Nat.zero_mul, Nat.mul_zero, eOn, eOs, if_true, if_false, not_true_eq_false, not_false_eq_true, ite_true, ite_false, true_and, and_true, false_and, and_false, or_true, true_or, or_false, false_or, Bool.false_eq_true, reduceIte, Bool.not_true, Bool.not_false, and_self, or_self, q_ef, q_et, q_ltt, q_ltf, q_let, q_lef, gIs, gIl, gIr, gLs, gLl, gLr, gPs, gPl, gPr, gLc, gPc, zb_some, Option.bind_some, q_nm, q_pm, q_hm, q_tm, q_sm, q_wm, q_ym, q_lm, q_ua]
  obtain ⟨S', a1, a2, a3⟩ := c99_w (d := d + 1) (g_ls_vd hl) (by omega) 24 0 S1 (by omega) o1.W (h.2.2.2.2.2.ag (o1.ag fun c k z => by omega)) v1 (by rw [o1.I (by omega)]; exact h7)
  have a1' : b99_120 (d + 1) (0 : Int32) S1 = some S' := a1
  refine ⟨S', e.trans a1', (o1.mono fun c k z => by unfold tDw; omega).trans (a2.mono fun c k z => by unfold tDw; omega), fun _ => ?_, fun z => by omega⟩
  rw [he, show s + j - s = j by omega]
  refine ⟨?_, ?_, ?_, a3, ?_⟩
  · rw [a2.I (by omega), o1.I (by omega)]; exact h4
  · rw [a2.I (by omega), o1.I (by omega)]; exact h3
  · rw [a2.I (by omega)]; exact v1
  · rw [a2.I (by omega), o1.I (by omega)]; exact h8
theorem c99_l {s : Nat} : ∀ (m j : Nat) (S : z_S), j + m = 6 → cTx S T → s + j ≤ T.length → (∀ i, i < j → g_l (g_t T (s + i)) = true) → gI S 19 3 = nI (s + j) → gI S 19 4 = nI 1 → gI S 19 5 = nI s → gI S 19 6 = nI (g_27 (g_ls T s j)) → gI S 19 7 = -nI 1 → gI S 19 8 = nI s → g_rn g_l T s = g_rn g_l T (s + j) → ∃ S', b99_5 (d + 1) S = some S' ∧ onI tDw S S' ∧ xWd S' T s
  | m, j, S, hj, h, hs, hl, h3, h4, h5, h6, h7, h8, he => by
    have h1600 := h.2.2.2.1
    have e := b99_5_eq (d + 1) S h.1
    by_cases c1 : s + j < T.length
    · obtain ⟨z1, z2⟩ := h.at c1 h3
      have hb := (h.2.2.2.2.1 (s + j) c1).2
      rw [h.2.2.1, h3, if_neg (nI_ge c1 (by omega)), ← h3, if_pos z1, z2, c101 h.1 hb, zb_some] at e
      cases c2 : g_l (g_t T (s + j)) with
      | false =>
        rw [c2, if_pos (by decide)] at e
        rw [g_rn_n c1 c2] at he
        obtain ⟨S', a1, a2, a3⟩ := c99_e (d := d) h hs (by omega) hl h3 h4 h5 h6 h7 h8 he
        exact ⟨S', e.trans a1, a2, a3⟩
      | true =>
        rw [c2, if_neg (by decide)] at e
        have es : gI S 19 3 - gI S 19 5 = nI j := by rw [h3, h5, pk_sub (by omega), show s + j - s = j by omega]
        rw [es] at e
        have hy := g_rn_y c1 c2
        rw [hy] at he
        have hge := (g_rn_b (f := g_l) (T := T) (p := s + j + 1) (by omega)).1
        match m with
        | 0 =>
          have j6 : j = 6 := by omega
          rw [j6, if_neg (fun z => z rfl)] at e
          refine ⟨_, e, ?_, fun z => by omega, fun _ => ⟨?_, ?_, ?_⟩⟩
          · exact onI_sI (D := tDw) (c := 19) (k := 8) (onI_sI (D := tDw) (c := 19) (k := 4) (onI.refl h.1) ⟨rfl, by omega⟩) ⟨rfl, by omega⟩
          · simp (disch := omega) only [ni_lit, nI_add, pk_mul, pk_sub, pk_div, nI_leI, nI_ltI, nI_eq, nI_clamp, ni_in, ni_inm, ni_ltm, ni_mlt, ni_lem, ni_mle, ni_eqm, ni_meq, ni_mm, ni_mmle, ni_bit, ni_shl, ni_clr, fa_or, Nat.add_zero, Nat.zero_add, Nat.zero_mul, Nat.mul_zero, eOn, eOs, if_true, if_false, not_true_eq_false, not_false_eq_true, ite_true, ite_false, true_and, and_true, false_and, and_false, or_true, true_or, or_false, false_or, Bool.false_eq_true, reduceIte, Bool.not_true, Bool.not_false, and_self, or_self, q_ef, q_et, q_ltt, q_ltf, q_let, q_lef, gIs, gIl, gIr, gLs, gLl, gLr, gPs, gPl, gPr, gLc, gPc, zb_some, Option.bind_some, q_nm, q_pm, q_hm, q_tm, q_sm, q_wm, q_ym, q_lm, q_ua]
          · have : gI S 19 3 = nI (s + 6) := by rw [h3, j6]
            simp (disch := omega) only [ni_lit, nI_add, pk_mul, pk_sub, pk_div, nI_leI, nI_ltI, nI_eq, nI_clamp, ni_in, ni_inm, ni_ltm, ni_mlt, ni_lem, ni_mle, ni_eqm, ni_meq, ni_mm, ni_mmle, ni_bit, ni_shl, ni_clr, fa_or, Nat.add_zero, Nat.zero_add, Nat.zero_mul, Nat.mul_zero, eOn, eOs, if_true, if_false, not_true_eq_false, not_false_eq_true, ite_true, ite_false, true_and, and_true, false_and, and_false, or_true, true_or, or_false, false_or, Bool.false_eq_true, reduceIte, Bool.not_true, Bool.not_false, and_self, or_self, q_ef, q_et, q_ltt, q_ltf, q_let, q_lef, gIs, gIl, gIr, gLs, gLl, gLr, gPs, gPl, gPr, gLc, gPc, zb_some, Option.bind_some, q_nm, q_pm, q_hm, q_tm, q_sm, q_wm, q_ym, q_lm, q_ua, this]
          · simp (disch := omega) only [ni_lit, nI_add, pk_mul, pk_sub, pk_div, nI_leI, nI_ltI, nI_eq, nI_clamp, ni_in, ni_inm, ni_ltm, ni_mlt, ni_lem, ni_mle, ni_eqm, ni_meq, ni_mm, ni_mmle, ni_bit, ni_shl, ni_clr, fa_or, Nat.add_zero, Nat.zero_add, Nat.zero_mul, Nat.mul_zero, eOn, eOs, if_true, if_false, not_true_eq_false, not_false_eq_true, ite_true, ite_false, true_and, and_true, false_and, and_false, or_true, true_or, or_false, false_or, Bool.false_eq_true, reduceIte, Bool.not_true, Bool.not_false, and_self, or_self, q_ef, q_et, q_ltt, q_ltf, q_let, q_lef, gIs, gIl, gIr, gLs, gLl, gLr, gPs, gPl, gPr, gLc, gPc, zb_some, Option.bind_some, q_nm, q_pm, q_hm, q_tm, q_sm, q_wm, q_ym, q_lm, q_ua, h7]
        | m + 1 =>
          rw [if_pos (show ¬ nI j = (6 : Int32) from fun z => by have := (nI_eq (b := 6) (by omega) (by omega)).mp z; omega)] at e
          have hc := (g_l_i.mp c2)
          have ev : ((gI S 19 6 * (27 : Int32)) + nI (g_t T (s + j)) - (97 : Int32)) + (1 : Int32) = nI (g_27 (g_ls T s (j + 1))) := by
            rw [h6, g_ls_s, g_27_s]
            simp (disch := omega) only [ni_lit, nI_add, pk_mul, pk_sub, pk_div, nI_leI, nI_ltI, nI_eq, nI_clamp, ni_in, ni_inm, ni_ltm, ni_mlt, ni_lem, ni_mle, ni_eqm, ni_meq, ni_mm, ni_mmle, ni_bit, ni_shl, ni_clr, fa_or, Nat.add_zero, Nat.zero_add, Nat.zero_mul, Nat.mul_zero, eOn, eOs, if_true, if_false, not_true_eq_false, not_false_eq_true, ite_true, ite_false, true_and, and_true, false_and, and_false, or_true, true_or, or_false, false_or, Bool.false_eq_true, reduceIte, Bool.not_true, Bool.not_false, and_self, or_self, q_ef, q_et, q_ltt, q_ltf, q_let, q_lef, gIs, gIl, gIr, gLs, gLl, gLr, gPs, gPl, gPr, gLc, gPc, zb_some, Option.bind_some, q_nm, q_pm, q_hm, q_tm, q_sm, q_wm, q_ym, q_lm, q_ua]
            congr 1
            omega
          rw [if_pos z1, z2, ev] at e
          have W2 : z_W (sI S 19 6 (nI (g_27 (g_ls T s (j + 1))))) := h.1
          have e3 : gI (sI S 19 6 (nI (g_27 (g_ls T s (j + 1))))) 19 3 + (1 : Int32) = nI (s + (j + 1)) := by
            simp (disch := omega) only [ni_lit, nI_add, pk_mul, pk_sub, pk_div, nI_leI, nI_ltI, nI_eq, nI_clamp, ni_in, ni_inm, ni_ltm, ni_mlt, ni_lem, ni_mle, ni_eqm, ni_meq, ni_mm, ni_mmle, ni_bit, ni_shl, ni_clr, fa_or, Nat.add_zero, Nat.zero_add, Nat.zero_mul, Nat.mul_zero, eOn, eOs, if_true, if_false, not_true_eq_false, not_false_eq_true, ite_true, ite_false, true_and, and_true, false_and, and_false, or_true, true_or, or_false, false_or, Bool.false_eq_true, reduceIte, Bool.not_true, Bool.not_false, and_self, or_self, q_ef, q_et, q_ltt, q_ltf, q_let, q_lef, gIs, gIl, gIr, gLs, gLl, gLr, gPs, gPl, gPr, gLc, gPc, zb_some, Option.bind_some, q_nm, q_pm, q_hm, q_tm, q_sm, q_wm, q_ym, q_lm, q_ua, h3, Nat.add_assoc]
          rw [e3] at e
          generalize hS1 : sI (sI S 19 6 (nI (g_27 (g_ls T s (j + 1))))) 19 3 (nI (s + (j + 1))) = S1 at e
          have o1 : onI tDw S S1 := by
            rw [← hS1]
            exact onI_sI (D := tDw) (c := 19) (k := 3) (onI_sI (D := tDw) (c := 19) (k := 6) (onI.refl h.1) ⟨rfl, by omega⟩) ⟨rfl, by omega⟩
          obtain ⟨S', a1, a2, a3⟩ := c99_l m (j + 1) S1 (by omega) (h.on o1 fun c k z => by unfold tDw at z; omega) (by omega) (fun i hi => by
            by_cases w : i = j
            · rw [w]; exact c2
            · exact hl i (by omega)) (by rw [← hS1]; simp (disch := omega) only [ni_lit, nI_add, pk_mul, pk_sub, pk_div, nI_leI, nI_ltI, nI_eq, nI_clamp, ni_in, ni_inm, ni_ltm, ni_mlt, ni_lem, ni_mle, ni_eqm, ni_meq, ni_mm, ni_mmle, ni_bit, ni_shl, ni_clr, fa_or, Nat.add_zero, Nat.zero_add, Nat.zero_mul, Nat.mul_zero, eOn, eOs, if_true, if_false, not_true_eq_false, not_false_eq_true, ite_true, ite_false, true_and, and_true, false_and, and_false, or_true, true_or, or_false, false_or, Bool.false_eq_true, reduceIte, Bool.not_true, Bool.not_false, and_self, or_self, q_ef, q_et, q_ltt, q_ltf, q_let, q_lef, gIs, gIl, gIr, gLs, gLl, gLr, gPs, gPl, gPr, gLc, gPc, zb_some, Option.bind_some, q_nm, q_pm, q_hm, q_tm, q_sm, q_wm, q_ym, q_lm, q_ua]) (by rw [← hS1]; simp (disch := omega) only [ni_lit, nI_add, pk_mul, pk_sub, pk_div, nI_leI, nI_ltI, nI_eq, nI_clamp, ni_in, ni_inm, ni_ltm, ni_mlt, ni_lem, ni_mle, ni_eqm, ni_meq, ni_mm, ni_mmle, ni_bit, ni_shl, ni_clr, fa_or, Nat.add_zero, Nat.zero_add, Nat.zero_mul, Nat.mul_zero, eOn, eOs, if_true, if_false, not_true_eq_false, not_false_eq_true, ite_true, ite_false, true_and, and_true, false_and, and_false, or_true, true_or, or_false, false_or, Bool.false_eq_true, reduceIte, Bool.not_true, Bool.not_false, and_self, or_self, q_ef, q_et, q_ltt, q_ltf, q_let, q_lef, gIs, gIl, gIr, gLs, gLl, gLr, gPs, gPl, gPr, gLc, gPc, zb_some, Option.bind_some, q_nm, q_pm, q_hm, q_tm, q_sm, q_wm, q_ym, q_lm, q_ua, h4]) (by rw [← hS1]; simp (disch := omega) only [ni_lit, nI_add, pk_mul, pk_sub, pk_div, nI_leI, nI_ltI, nI_eq, nI_clamp, ni_in, ni_inm, ni_ltm, ni_mlt, ni_lem, ni_mle, ni_eqm, ni_meq, ni_mm, ni_mmle, ni_bit, ni_shl, ni_clr, fa_or, Nat.add_zero, Nat.zero_add, Nat.zero_mul, Nat.mul_zero, eOn, eOs, if_true, if_false, not_true_eq_false, not_false_eq_true, ite_true, ite_false, true_and, and_true, false_and, and_false, or_true, true_or, or_false, false_or, Bool.false_eq_true, reduceIte, Bool.not_true, Bool.not_false, and_self, or_self, q_ef, q_et, q_ltt, q_ltf, q_let, q_lef, gIs, gIl, gIr, gLs, gLl, gLr, gPs, gPl, gPr, gLc, gPc, zb_some, Option.bind_some, q_nm, q_pm, q_hm, q_tm, q_sm, q_wm, q_ym, q_lm, q_ua, h5]) (by rw [← hS1]; simp (disch := omega) only [ni_lit, nI_add, pk_mul, pk_sub, pk_div, nI_leI, nI_ltI, nI_eq, nI_clamp, ni_in, ni_inm, ni_ltm, ni_mlt, ni_lem, ni_mle, ni_eqm, ni_meq, ni_mm, ni_mmle, ni_bit, ni_shl, ni_clr, fa_or, Nat.add_zero, Nat.zero_add, Nat.zero_mul, Nat.mul_zero, eOn, eOs, if_true, if_false, not_true_eq_false, not_false_eq_true, ite_true, ite_false, true_and, and_true, false_and, and_false, or_true, true_or, or_false, false_or, Bool.false_eq_true, reduceIte, Bool.not_true, Bool.not_false, and_self, or_self, q_ef, q_et, q_ltt, q_ltf, q_let, q_lef, gIs, gIl, gIr, gLs, gLl, gLr, gPs, gPl, gPr, gLc, gPc, zb_some, Option.bind_some, q_nm, q_pm, q_hm, q_tm, q_sm, q_wm, q_ym, q_lm, q_ua]) (by rw [← hS1]; simp (disch := omega) only [ni_lit, nI_add, pk_mul, pk_sub, pk_div, nI_leI, nI_ltI, nI_eq, nI_clamp, ni_in, ni_inm, ni_ltm, ni_mlt, ni_lem, ni_mle, ni_eqm, ni_meq, ni_mm, ni_mmle, ni_bit, ni_shl, ni_clr, fa_or, Nat.add_zero, Nat.zero_add, Nat.zero_mul, Nat.mul_zero, eOn, eOs, if_true, if_false, not_true_eq_false, not_false_eq_true, ite_true, ite_false, true_and, and_true, false_and, and_false, or_true, true_or, or_false, false_or, Bool.false_eq_true, reduceIte, Bool.not_true, Bool.not_false, and_self, or_self, q_ef, q_et, q_ltt, q_ltf, q_let, q_lef, gIs, gIl, gIr, gLs, gLl, gLr, gPs, gPl, gPr, gLc, gPc, zb_some, Option.bind_some, q_nm, q_pm, q_hm, q_tm, q_sm, q_wm, q_ym, q_lm, q_ua, h7]) (by rw [← hS1]; simp (disch := omega) only [ni_lit, nI_add, pk_mul, pk_sub, pk_div, nI_leI, nI_ltI, nI_eq, nI_clamp, ni_in, ni_inm, ni_ltm, ni_mlt, ni_lem, ni_mle, ni_eqm, ni_meq, ni_mm, ni_mmle, ni_bit, ni_shl, ni_clr, fa_or, Nat.add_zero, Nat.zero_add, Nat.zero_mul, Nat.mul_zero, eOn, eOs, if_true, if_false, not_true_eq_false, not_false_eq_true, ite_true, ite_false, true_and, and_true, false_and, and_false, or_true, true_or, or_false, false_or, Bool.false_eq_true, reduceIte, Bool.not_true, Bool.not_false, and_self, or_self, q_ef, q_et, q_ltt, q_ltf, q_let, q_lef, gIs, gIl, gIr, gLs, gLl, gLr, gPs, gPl, gPr, gLc, gPc, zb_some, Option.bind_some, q_nm, q_pm, q_hm, q_tm, q_sm, q_wm, q_ym, q_lm, q_ua, h8]) he
          exact ⟨S', e.trans a1, o1.trans a2, a3⟩
    · rw [h.2.2.1, h3, if_pos (nI_le (by omega) (by omega))] at e
      rw [g_rn_e (p := s + j) (by omega)] at he
      obtain ⟨S', a1, a2, a3⟩ := c99_e (d := d) h hs (by omega) hl h3 h4 h5 h6 h7 h8 he
      exact ⟨S', e.trans a1, a2, a3⟩
theorem c99 {s : Nat} {S : z_S} (h : cTx S T) (hs : s ≤ T.length) (h3 : gI S 19 3 = nI s) (h5 : gI S 19 5 = nI s) (h6 : gI S 19 6 = nI 0) (h7 : gI S 19 7 = -nI 1) (h8 : gI S 19 8 = nI s) : ∃ S', fV (d + 2) 99 [.ref 19] S = some S' ∧ onI tDw S S' ∧ xWd S' T s := by
  have e := e99 (d + 1) S h.1
  have o1 : onI tDw S (sI S 19 4 (1 : Int32)) := onI_sI (D := tDw) (c := 19) (k := 4) (onI.refl h.1) ⟨rfl, by omega⟩
  have n4 : ∀ k, k ≠ 4 → gI (sI S 19 4 (1 : Int32)) 19 k = gI S 19 k := fun k hk => by rw [gIs, if_pos rfl, if_neg hk]
  have v4 : gI (sI S 19 4 (1 : Int32)) 19 4 = nI 1 := by rw [gIs, if_pos rfl, if_pos rfl]; rfl
  generalize hS1 : sI S 19 4 (1 : Int32) = S1 at *
  obtain ⟨S', a1, a2, a3⟩ := c99_l (d := d) (s := s) 6 0 S1 (by omega) (h.on o1 fun c k z => by unfold tDw at z; omega) (by omega) (fun i hi => by omega) (by rw [n4 3 (by omega)]; exact h3) v4 (by rw [n4 5 (by omega)]; exact h5) (by rw [n4 6 (by omega)]; exact h6) (by rw [n4 7 (by omega)]; exact h7) (by rw [n4 8 (by omega)]; exact h8) rfl
  exact ⟨S', e.trans a1, o1.trans a2, a3⟩
end GC
