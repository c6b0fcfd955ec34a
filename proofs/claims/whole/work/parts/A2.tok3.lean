/-! THE TEXT: the class's tokens. -/
section GC
variable {d : Nat} {T : List Nat}
theorem c101 {S : z_S} {c : Nat} (hW : z_W S) (hc : c < 256) : fI (d + 1) 101 [.int (nI c)] S = some (bI (g_l c), S) := by
  have e := e101 d (nI c) S hW
  rw [b101_16_eq d S hW] at e
  unfold g_l
  by_cases c1 : 97 ≤ c
  · by_cases c2 : c ≤ 122
    · simp (disch := omega) only [ni_lit, nI_add, pk_mul, pk_sub, pk_div, nI_leI, nI_ltI, nI_eq, nI_clamp, ni_in, ni_inm, ni_ltm, ni_mlt, ni_lem, ni_mle, ni_eqm, ni_meq, ni_mm, ni_mmle, ni_bit, ni_shl, ni_clr, fa_or, Nat.add_zero, Nat.zero_add, Nat.zero_mul, Nat.mul_zero, eOn, eOs, if_true, if_false, not_true_eq_false, not_false_eq_true, ite_true, ite_false, true_and, and_true, false_and, and_false, or_true, true_or, or_false, false_or, Bool.false_eq_true, reduceIte, Bool.not_true, Bool.not_false, and_self, or_self, q_ef, q_et, q_ltt, q_ltf, q_let, q_lef, gIs, gIl, gIr, gLs, gLl, gLr, gPs, gPl, gPr, gLc, gPc, zb_some, Option.bind_some, q_nm, q_pm, q_hm, q_tm, q_sm, q_wm, q_ym, q_lm, q_ua] at e
      rw [decide_eq_true c1, decide_eq_true c2]; exact e
    · simp (disch := omega) only [ni_lit, nI_add, pk_mul, pk_sub, pk_div, nI_leI, nI_ltI, nI_eq, nI_clamp, ni_in, ni_inm, ni_ltm, ni_mlt, ni_lem, ni_mle, ni_eqm, ni_meq, ni_mm, ni_mmle, ni_bit, ni_shl, ni_clr, fa_or, Nat.add_zero, Nat.zero_add, Nat.zero_mul, Nat.mul_zero, eOn, eOs, if_true, if_false, not_true_eq_false, not_false_eq_true, ite_true, ite_false, true_and, and_true, false_and, and_false, or_true, true_or, or_false, false_or, Bool.false_eq_true, reduceIte, Bool.not_true, Bool.not_false, and_self, or_self, q_ef, q_et, q_ltt, q_ltf, q_let, q_lef, gIs, gIl, gIr, gLs, gLl, gLr, gPs, gPl, gPr, gLc, gPc, zb_some, Option.bind_some, q_nm, q_pm, q_hm, q_tm, q_sm, q_wm, q_ym, q_lm, q_ua] at e
      rw [decide_eq_false c2, Bool.and_false]; exact e
  · simp (disch := omega) only [ni_lit, nI_add, pk_mul, pk_sub, pk_div, nI_leI, nI_ltI, nI_eq, nI_clamp, ni_in, ni_inm, ni_ltm, ni_mlt, ni_lem, ni_mle, ni_eqm, ni_meq, ni_mm, ni_mmle, ni_bit, ni_shl, ni_clr, fa_or, Nat.add_zero, Nat.zero_add, Nat.zero_mul, Nat.mul_zero, eOn, eOs, if_true, if_false, not_true_eq_false, not_false_eq_true, ite_true, ite_false, true_and, and_true, false_and, and_false, or_true, true_or, or_false, false_or, Bool.false_eq_true, reduceIte, Bool.not_true, Bool.not_false, and_self, or_self, q_ef, q_et, q_ltt, q_ltf, q_let, q_lef, gIs, gIl, gIr, gLs, gLl, gLr, gPs, gPl, gPr, gLc, gPc, zb_some, Option.bind_some, q_nm, q_pm, q_hm, q_tm, q_sm, q_wm, q_ym, q_lm, q_ua] at e
    rw [decide_eq_false c1, Bool.false_and]; exact e
theorem c102 {S : z_S} {c : Nat} (hW : z_W S) (hc : c < 256) : fI (d + 1) 102 [.int (nI c)] S = some (bI (g_d c), S) := by
  have e := e102 d (nI c) S hW
  rw [b102_16_eq d S hW] at e
  unfold g_d
  by_cases c1 : 48 ≤ c
  · by_cases c2 : c ≤ 57
    · simp (disch := omega) only [ni_lit, nI_add, pk_mul, pk_sub, pk_div, nI_leI, nI_ltI, nI_eq, nI_clamp, ni_in, ni_inm, ni_ltm, ni_mlt, ni_lem, ni_mle, ni_eqm, ni_meq, ni_mm, ni_mmle, ni_bit, ni_shl, ni_clr, fa_or, Nat.add_zero, Nat.zero_add, Nat.zero_mul, Nat.mul_zero, eOn, eOs, if_true, if_false, not_true_eq_false, not_false_eq_true, ite_true, ite_false, true_and, and_true, false_and, and_false, or_true, true_or, or_false, false_or, Bool.false_eq_true, reduceIte, Bool.not_true, Bool.not_false, and_self, or_self, q_ef, q_et, q_ltt, q_ltf, q_let, q_lef, gIs, gIl, gIr, gLs, gLl, gLr, gPs, gPl, gPr, gLc, gPc, zb_some, Option.bind_some, q_nm, q_pm, q_hm, q_tm, q_sm, q_wm, q_ym, q_lm, q_ua] at e
      rw [decide_eq_true c1, decide_eq_true c2]; exact e
    · simp (disch := omega) only [ni_lit, nI_add, pk_mul, pk_sub, pk_div, nI_leI, nI_ltI, nI_eq, nI_clamp, ni_in, ni_inm, ni_ltm, ni_mlt, ni_lem, ni_mle, ni_eqm, ni_meq, ni_mm, ni_mmle, ni_bit, ni_shl, ni_clr, fa_or, Nat.add_zero, Nat.zero_add, Nat.zero_mul, Nat.mul_zero, eOn, eOs, if_true, if_false, not_true_eq_false, not_false_eq_true, ite_true, ite_false, true_and, and_true, false_and, and_false, or_true, true_or, or_false, false_or, Bool.false_eq_true, reduceIte, Bool.not_true, Bool.not_false, and_self, or_self, q_ef, q_et, q_ltt, q_ltf, q_let, q_lef, gIs, gIl, gIr, gLs, gLl, gLr, gPs, gPl, gPr, gLc, gPc, zb_some, Option.bind_some, q_nm, q_pm, q_hm, q_tm, q_sm, q_wm, q_ym, q_lm, q_ua] at e
      rw [decide_eq_false c2, Bool.and_false]; exact e
  · simp (disch := omega) only [ni_lit, nI_add, pk_mul, pk_sub, pk_div, nI_leI, nI_ltI, nI_eq, nI_clamp, ni_in, ni_inm, ni_ltm, ni_mlt, ni_lem, ni_mle, ni_eqm, ni_meq, ni_mm, ni_mmle, ni_bit, ni_shl, ni_clr, fa_or, Nat.add_zero, Nat.zero_add, Nat.zero_mul, Nat.mul_zero, eOn, eOs, if_true, if_false, not_true_eq_false, not_false_eq_true, ite_true, ite_false, true_and, and_true, false_and, and_false, or_true, true_or, or_false, false_or, Bool.false_eq_true, reduceIte, Bool.not_true, Bool.not_false, and_self, or_self, q_ef, q_et, q_ltt, q_ltf, q_let, q_lef, gIs, gIl, gIr, gLs, gLl, gLr, gPs, gPl, gPr, gLc, gPc, zb_some, Option.bind_some, q_nm, q_pm, q_hm, q_tm, q_sm, q_wm, q_ym, q_lm, q_ua] at e
    rw [decide_eq_false c1, Bool.false_and]; exact e
/-- the text, as the class has it before it -/
def cTx (S : z_S) (T : List Nat) : Prop := z_W S ∧ gP S 19 1 = 1 ∧ gI S 19 2 = nI T.length ∧ T.length ≤ 1600 ∧ (∀ i, i < T.length → gI S 1 i = nI (g_t T i) ∧ g_t T i < 256) ∧ cOw S
theorem cTx.on {S S' : z_S} {D : Nat → Nat → Prop} (h : cTx S T) (ho : onI D S S') (hd : ∀ c k, D c k → 2 ≤ c ∧ c ≤ 18 ∨ c = 19 ∧ 3 ≤ k) : cTx S' T := by
  obtain ⟨h1, h2, h3, h4, h5, h6⟩ := h
  refine ⟨ho.W, by rw [ho.P]; exact h2, by rw [ho.I (fun z => by have := hd _ _ z; omega)]; exact h3, h4, fun i hi => ⟨by rw [ho.I (fun z => by have := hd _ _ z; omega)]; exact (h5 i hi).1, (h5 i hi).2⟩, fun i hi => by rw [ho.I (fun z => by have := hd _ _ z; omega)]; exact h6 i hi⟩
theorem zLn1 : z_Ln 1 = 1600 := by decide +kernel
/-- the byte looked at -/
theorem cTx.at {S : z_S} (h : cTx S T) {i : Nat} (hi : i < T.length) (ha : gI S 19 3 = nI i) : z_in (gI S 19 3) (z_Ln (gP S 19 1)) ∧ gI S (gP S 19 1) (gI S 19 3).toNatClampNeg = nI (g_t T i) := by
  obtain ⟨h1, h2, h3, h4, h5, h6⟩ := h
  rw [ha, h2, zLn1, nI_clamp (by omega)]
  exact ⟨(ni_in (by omega)).mpr (by omega), (h5 i hi).1⟩
theorem g_ls_s (T : List Nat) (s n : Nat) : g_ls T s (n + 1) = g_ls T s n ++ [g_t T (s + n) - 96] := by
  unfold g_ls
  rw [List.range_succ, List.map_append]
  rfl
theorem g_ls_len (T : List Nat) (s n : Nat) : (g_ls T s n).length = n := by
  unfold g_ls
  rw [List.length_map, List.length_range]
theorem g_ls_vd {s n : Nat} (h : ∀ i, i < n → g_l (g_t T (s + i)) = true) : g_vd (g_ls T s n) := fun x hx => by
  unfold g_ls at hx
  obtain ⟨i, hi, e⟩ := List.mem_map.mp hx
  have := h i (List.mem_range.mp hi)
  rw [g_l_i] at this
  omega
theorem c100_l {S : z_S} {l : List Nat} (hW : z_W S) (ho : cOw S) (hv : g_vd l) (hl : l.length ≤ 6) : ∀ (m i : Nat), i + m = 24 → (∀ k, k < i → l ≠ g_o k) → b100_2 d (nI (q_nv l)) (nI i) S = some (eO (g_oi l 24), S)
  | 0, i, hi, hn => by
    have e := b100_2_eq d (nI (q_nv l)) (nI i) S hW
    rw [if_pos (show (24 : Int32) ≤ nI i from (nI_leI (a := 24) (by omega) (by omega)).mpr (by omega))] at e
    rw [e, g_oi_none.mpr (fun k hk => hn k (by omega))]
    rfl
  | m + 1, i, hi, hn => by
    have e := b100_2_eq d (nI (q_nv l)) (nI i) S hW
    obtain ⟨k1, k2, k3⟩ := g_o_k (i := i) (by omega)
    have hoi := ho i (by omega)
    rw [k3] at hoi
    have b1 := q_nv_lt hv hl
    have b2 := q_nv_lt k1 k2
    have inj := q_nv_inj k1 hv
    rw [if_neg (show ¬ (24 : Int32) ≤ nI i from fun z => by have := (nI_leI (a := 24) (by omega) (by omega)).mp z; omega), if_pos ((ni_in (by omega)).mpr (by omega)), nI_clamp (by omega), hoi] at e
    by_cases c : g_o i = l
    · rw [if_neg (fun z => z (by rw [c]))] at e
      rw [e, (g_oi_i (by omega) l).mpr c.symm]
      rfl
    · rw [if_pos (fun z => c (inj.mp ((nI_eq (by omega) (by omega)).mp z))), nI_1] at e
      rw [e]
      exact c100_l hW ho hv hl m (i + 1) (by omega) (fun k hk => by
        by_cases w : k = i
        · rw [w]; exact fun z => c z.symm
        · exact hn k (by omega))
/-- which own word it is -/
theorem c100 {S : z_S} {l : List Nat} (hW : z_W S) (ho : cOw S) (hv : g_vd l) (hl : l.length ≤ 6) : fI (d + 1) 100 [.ref 19, .int (nI (q_nv l))] S = some (eO (g_oi l 24), S) := by
  rw [e100 d (nI (q_nv l)) S hW]
  exact c100_l hW ho hv hl 24 0 (by omega) (fun k hk => by omega)
def tDw : Nat → Nat → Prop := fun c k => c = 19 ∧ (k = 3 ∨ k = 4 ∨ k = 6 ∨ k = 8)
/-- what readRun leaves: f says which signs, V the number of the first j of them, L how many may be -/
def xRn (S' : z_S) (T : List Nat) (f : Nat → Bool) (V : Nat → Nat) (L k0 s : Nat) : Prop := (g_rn f T s - s ≤ L → gI S' 19 4 = nI k0 ∧ gI S' 19 3 = nI (g_rn f T s) ∧ gI S' 19 6 = nI (V (g_rn f T s - s)) ∧ gI S' 19 8 = nI s) ∧ (L < g_rn f T s - s → gI S' 19 4 = nI 4 ∧ gI S' 19 8 = nI (s + L))
theorem c99_l {f : Nat → Bool} {V : Nat → Nat} {a b w L B k0 s : Nat} (hf : ∀ c, f c = true ↔ a ≤ c ∧ c ≤ b) (ha : a < 256) (hb : b < 256) (hV : ∀ j, f (g_t T (s + j)) = true → V (j + 1) = V j * B + g_t T (s + j) - a + w) (hL : L ≤ 6) : ∀ (m j : Nat) (S : z_S), j + m = L → cTx S T → s + j ≤ T.length → gI S 19 3 = nI (s + j) → gI S 19 4 = nI k0 → gI S 19 5 = nI s → gI S 19 6 = nI (V j) → gI S 19 8 = nI s → g_rn f T s = g_rn f T (s + j) → ∃ S', b99_9 d (nI a) (nI b) (nI w) (nI L) (nI B) S = some S' ∧ onI tDw S S' ∧ xRn S' T f V L k0 s
  | m, j, S, hj, h, hs, h3, h4, h5, h6, h8, he => by
    have h1600 := h.2.2.2.1
    have e := b99_9_eq d (nI a) (nI b) (nI w) (nI L) (nI B) S h.1
    have stop : g_rn f T s = s + j → xRn S T f V L k0 s := fun z => by
      refine ⟨fun _ => ?_, fun y => by omega⟩
      rw [z, show s + j - s = j by omega]
      exact ⟨h4, h3, h6, h8⟩
    by_cases c1 : s + j < T.length
    · obtain ⟨z1, z2⟩ := h.at c1 h3
      have hc := (h.2.2.2.2.1 (s + j) c1).2
      rw [h.2.2.1, h3, if_neg (nI_ge c1 (by omega)), ← h3, if_pos z1, z2, if_pos z1] at e
      cases c2 : f (g_t T (s + j)) with
      | false =>
        have nf : ¬ (a ≤ g_t T (s + j) ∧ g_t T (s + j) ≤ b) := fun z => by rw [(hf _).mpr z] at c2; cases c2
        rw [g_rn_n c1 c2] at he
        refine ⟨S, ?_, onI.refl h.1, stop he⟩
        by_cases y1 : g_t T (s + j) < a
        · rw [if_pos ((nI_ltI (by omega) (by omega)).mpr y1)] at e
          exact e
        · rw [if_neg (fun z => y1 ((nI_ltI (by omega) (by omega)).mp z)), if_pos ((nI_ltI (by omega) (by omega)).mpr (by omega))] at e
          exact e
      | true =>
        obtain ⟨f1, f2⟩ := (hf _).mp c2
        have es : gI S 19 3 - gI S 19 5 = nI j := by rw [h3, h5, pk_sub (by omega), show s + j - s = j by omega]
        rw [if_neg (fun z => by have := (nI_ltI (by omega) (by omega)).mp z; omega), if_neg (fun z => by have := (nI_ltI (by omega) (by omega)).mp z; omega), es] at e
        have hy := g_rn_y c1 c2
        rw [hy] at he
        have hge := (g_rn_b (f := f) (T := T) (p := s + j + 1) (by omega)).1
        match m with
        | 0 =>
          have jL : j = L := by omega
          rw [jL, if_neg (fun z => z rfl)] at e
          refine ⟨_, e, ?_, fun z => by omega, fun _ => ⟨?_, ?_⟩⟩
          · exact onI_sI (D := tDw) (c := 19) (k := 8) (onI_sI (D := tDw) (c := 19) (k := 4) (onI.refl h.1) ⟨rfl, by omega⟩) ⟨rfl, by omega⟩
          · simp (disch := omega) only [ni_lit, nI_add, pk_mul, pk_sub, pk_div, nI_leI, nI_ltI, nI_eq, nI_clamp, ni_in, ni_inm, ni_ltm, ni_mlt, ni_lem, ni_mle, ni_eqm, ni_meq, ni_mm, ni_mmle, ni_bit, ni_shl, ni_clr, fa_or, Nat.add_zero, Nat.zero_add, Nat.zero_mul, Nat.mul_zero, eOn, eOs, if_true, if_false, not_true_eq_false, not_false_eq_true, ite_true, ite_false, true_and, and_true, false_and, and_false, or_true, true_or, or_false, false_or, Bool.false_eq_true, reduceIte, Bool.not_true, Bool.not_false, and_self, or_self, q_ef, q_et, q_ltt, q_ltf, q_let, q_lef, gIs, gIl, gIr, gLs, gLl, gLr, gPs, gPl, gPr, gLc, gPc, zb_some, Option.bind_some, q_nm, q_pm, q_hm, q_tm, q_sm, q_wm, q_ym, q_lm, q_ua]
          · have : gI S 19 3 = nI (s + L) := by rw [h3, jL]
            simp (disch := omega) only [ni_lit, nI_add, pk_mul, pk_sub, pk_div, nI_leI, nI_ltI, nI_eq, nI_clamp, ni_in, ni_inm, ni_ltm, ni_mlt, ni_lem, ni_mle, ni_eqm, ni_meq, ni_mm, ni_mmle, ni_bit, ni_shl, ni_clr, fa_or, Nat.add_zero, Nat.zero_add, Nat.zero_mul, Nat.mul_zero, eOn, eOs, if_true, if_false, not_true_eq_false, not_false_eq_true, ite_true, ite_false, true_and, and_true, false_and, and_false, or_true, true_or, or_false, false_or, Bool.false_eq_true, reduceIte, Bool.not_true, Bool.not_false, and_self, or_self, q_ef, q_et, q_ltt, q_ltf, q_let, q_lef, gIs, gIl, gIr, gLs, gLl, gLr, gPs, gPl, gPr, gLc, gPc, zb_some, Option.bind_some, q_nm, q_pm, q_hm, q_tm, q_sm, q_wm, q_ym, q_lm, q_ua, this]
        | m + 1 =>
          rw [if_pos (show ¬ nI j = nI L from fun z => by have := (nI_eq (by omega) (by omega)).mp z; omega)] at e
          have ev : ((gI S 19 6 * nI B) + nI (g_t T (s + j)) - nI a) + nI w = nI (V (j + 1)) := by
            rw [h6, hV j c2, pk_mul, nI_add, pk_sub (by omega), nI_add]
          rw [if_pos z1, ev] at e
          have e3 : gI (sI S 19 6 (nI (V (j + 1)))) 19 3 + (1 : Int32) = nI (s + (j + 1)) := by
            simp (disch := omega) only [ni_lit, nI_add, pk_mul, pk_sub, pk_div, nI_leI, nI_ltI, nI_eq, nI_clamp, ni_in, ni_inm, ni_ltm, ni_mlt, ni_lem, ni_mle, ni_eqm, ni_meq, ni_mm, ni_mmle, ni_bit, ni_shl, ni_clr, fa_or, Nat.add_zero, Nat.zero_add, Nat.zero_mul, Nat.mul_zero, eOn, eOs, if_true, if_false, not_true_eq_false, not_false_eq_true, ite_true, ite_false, true_and, and_true, false_and, and_false, or_true, true_or, or_false, false_or, Bool.false_eq_true, reduceIte, Bool.not_true, Bool.not_false, and_self, or_self, q_ef, q_et, q_ltt, q_ltf, q_let, q_lef, gIs, gIl, gIr, gLs, gLl, gLr, gPs, gPl, gPr, gLc, gPc, zb_some, Option.bind_some, q_nm, q_pm, q_hm, q_tm, q_sm, q_wm, q_ym, q_lm, q_ua, h3, Nat.add_assoc]
          rw [e3] at e
          generalize hS1 : sI (sI S 19 6 (nI (V (j + 1)))) 19 3 (nI (s + (j + 1))) = S1 at e
          have o1 : onI tDw S S1 := by
            rw [← hS1]
            exact onI_sI (D := tDw) (c := 19) (k := 3) (onI_sI (D := tDw) (c := 19) (k := 6) (onI.refl h.1) ⟨rfl, by omega⟩) ⟨rfl, by omega⟩
          obtain ⟨S', a1, a2, a3⟩ := c99_l (k0 := k0) hf ha hb hV hL m (j + 1) S1 (by omega) (h.on o1 fun c k z => by unfold tDw at z; omega) (by omega) (by rw [← hS1]; simp (disch := omega) only [ni_lit, nI_add, pk_mul, pk_sub, pk_div, nI_leI, nI_ltI, nI_eq, nI_clamp, ni_in, ni_inm, ni_ltm, ni_mlt, ni_lem, ni_mle, ni_eqm, ni_meq, ni_mm, ni_mmle, ni_bit, ni_shl, ni_clr, fa_or, Nat.add_zero, Nat.zero_add, Nat.zero_mul, Nat.mul_zero, eOn, eOs, if_true, if_false, not_true_eq_false, not_false_eq_true, ite_true, ite_false, true_and, and_true, false_and, and_false, or_true, true_or, or_false, false_or, Bool.false_eq_true, reduceIte, Bool.not_true, Bool.not_false, and_self, or_self, q_ef, q_et, q_ltt, q_ltf, q_let, q_lef, gIs, gIl, gIr, gLs, gLl, gLr, gPs, gPl, gPr, gLc, gPc, zb_some, Option.bind_some, q_nm, q_pm, q_hm, q_tm, q_sm, q_wm, q_ym, q_lm, q_ua]) (by rw [← hS1]; simp (disch := omega) only [ni_lit, nI_add, pk_mul, pk_sub, pk_div, nI_leI, nI_ltI, nI_eq, nI_clamp, ni_in, ni_inm, ni_ltm, ni_mlt, ni_lem, ni_mle, ni_eqm, ni_meq, ni_mm, ni_mmle, ni_bit, ni_shl, ni_clr, fa_or, Nat.add_zero, Nat.zero_add, Nat.zero_mul, Nat.mul_zero, eOn, eOs, if_true, if_false, not_true_eq_false, not_false_eq_true, ite_true, ite_false, true_and, and_true, false_and, and_false, or_true, true_or, or_false, false_or, Bool.false_eq_true, reduceIte, Bool.not_true, Bool.not_false, and_self, or_self, q_ef, q_et, q_ltt, q_ltf, q_let, q_lef, gIs, gIl, gIr, gLs, gLl, gLr, gPs, gPl, gPr, gLc, gPc, zb_some, Option.bind_some, q_nm, q_pm, q_hm, q_tm, q_sm, q_wm, q_ym, q_lm, q_ua, h4]) (by rw [← hS1]; simp (disch := omega) only [ni_lit, nI_add, pk_mul, pk_sub, pk_div, nI_leI, nI_ltI, nI_eq, nI_clamp, ni_in, ni_inm, ni_ltm, ni_mlt, ni_lem, ni_mle, ni_eqm, ni_meq, ni_mm, ni_mmle, ni_bit, ni_shl, ni_clr, fa_or, Nat.add_zero, Nat.zero_add, Nat.zero_mul, Nat.mul_zero, eOn, eOs, if_true, if_false, not_true_eq_false, not_false_eq_true, ite_true, ite_false, true_and, and_true, false_and, and_false, or_true, true_or, or_false, false_or, Bool.false_eq_true, reduceIte, Bool.not_true, Bool.not_false, and_self, or_self, q_ef, q_et, q_ltt, q_ltf, q_let, q_lef, gIs, gIl, gIr, gLs, gLl, gLr, gPs, gPl, gPr, gLc, gPc, zb_some, Option.bind_some, q_nm, q_pm, q_hm, q_tm, q_sm, q_wm, q_ym, q_lm, q_ua, h5]) (by rw [← hS1]; simp (disch := omega) only [ni_lit, nI_add, pk_mul, pk_sub, pk_div, nI_leI, nI_ltI, nI_eq, nI_clamp, ni_in, ni_inm, ni_ltm, ni_mlt, ni_lem, ni_mle, ni_eqm, ni_meq, ni_mm, ni_mmle, ni_bit, ni_shl, ni_clr, fa_or, Nat.add_zero, Nat.zero_add, Nat.zero_mul, Nat.mul_zero, eOn, eOs, if_true, if_false, not_true_eq_false, not_false_eq_true, ite_true, ite_false, true_and, and_true, false_and, and_false, or_true, true_or, or_false, false_or, Bool.false_eq_true, reduceIte, Bool.not_true, Bool.not_false, and_self, or_self, q_ef, q_et, q_ltt, q_ltf, q_let, q_lef, gIs, gIl, gIr, gLs, gLl, gLr, gPs, gPl, gPr, gLc, gPc, zb_some, Option.bind_some, q_nm, q_pm, q_hm, q_tm, q_sm, q_wm, q_ym, q_lm, q_ua]) (by rw [← hS1]; simp (disch := omega) only [ni_lit, nI_add, pk_mul, pk_sub, pk_div, nI_leI, nI_ltI, nI_eq, nI_clamp, ni_in, ni_inm, ni_ltm, ni_mlt, ni_lem, ni_mle, ni_eqm, ni_meq, ni_mm, ni_mmle, ni_bit, ni_shl, ni_clr, fa_or, Nat.add_zero, Nat.zero_add, Nat.zero_mul, Nat.mul_zero, eOn, eOs, if_true, if_false, not_true_eq_false, not_false_eq_true, ite_true, ite_false, true_and, and_true, false_and, and_false, or_true, true_or, or_false, false_or, Bool.false_eq_true, reduceIte, Bool.not_true, Bool.not_false, and_self, or_self, q_ef, q_et, q_ltt, q_ltf, q_let, q_lef, gIs, gIl, gIr, gLs, gLl, gLr, gPs, gPl, gPr, gLc, gPc, zb_some, Option.bind_some, q_nm, q_pm, q_hm, q_tm, q_sm, q_wm, q_ym, q_lm, q_ua, h8]) he
          exact ⟨S', e.trans a1, o1.trans a2, a3⟩
    · rw [h.2.2.1, h3, if_pos (nI_le (by omega) (by omega))] at e
      rw [g_rn_e (p := s + j) (by omega)] at he
      exact ⟨S, e, onI.refl h.1, stop he⟩
/-- a word's letters are read -/
theorem c99w {s : Nat} {S : z_S} (h : cTx S T) (hs : s ≤ T.length) (h3 : gI S 19 3 = nI s) (h4 : gI S 19 4 = nI 1) (h5 : gI S 19 5 = nI s) (h6 : gI S 19 6 = nI 0) (h8 : gI S 19 8 = nI s) : ∃ S', fV (d + 1) 99 [.ref 19, .int (97 : Int32), .int (122 : Int32), .int (1 : Int32), .int (6 : Int32)] S = some S' ∧ onI tDw S S' ∧ xRn S' T g_l (fun j => q_nv (g_ls T s j)) 6 1 s := by
  have e := e99 d (97 : Int32) (122 : Int32) (1 : Int32) (6 : Int32) S h.1
  rw [show ((122 : Int32) - 97 + 1) + 1 = nI 27 by decide] at e
  obtain ⟨S', a1, a2, a3⟩ := c99_l (d := d) (T := T) (f := g_l) (V := fun j => q_nv (g_ls T s j)) (a := 97) (b := 122) (w := 1) (L := 6) (B := 27) (k0 := 1) (s := s) (fun c => g_l_i) (by omega) (by omega) (fun j hj => by
    have := g_l_i.mp hj
    show q_nv (g_ls T s (j + 1)) = q_nv (g_ls T s j) * 27 + g_t T (s + j) - 97 + 1
    rw [g_ls_s, q_nv_s]
    omega) (by omega) 6 0 S (by omega) h (by omega) h3 h4 h5 h6 h8 rfl
  exact ⟨S', e.trans a1, a2, a3⟩
/-- a number's digits -/
theorem c99n {s : Nat} {S : z_S} (h : cTx S T) (hs : s ≤ T.length) (h3 : gI S 19 3 = nI s) (h4 : gI S 19 4 = nI 2) (h5 : gI S 19 5 = nI s) (h6 : gI S 19 6 = nI 0) (h8 : gI S 19 8 = nI s) : ∃ S', fV (d + 1) 99 [.ref 19, .int (48 : Int32), .int (57 : Int32), .int (0 : Int32), .int (4 : Int32)] S = some S' ∧ onI tDw S S' ∧ xRn S' T g_d (g_dv T s) 4 2 s := by
  have e := e99 d (48 : Int32) (57 : Int32) (0 : Int32) (4 : Int32) S h.1
  rw [show ((57 : Int32) - 48 + 1) + 0 = nI 10 by decide] at e
  obtain ⟨S', a1, a2, a3⟩ := c99_l (d := d) (T := T) (f := g_d) (V := g_dv T s) (a := 48) (b := 57) (w := 0) (L := 4) (B := 10) (k0 := 2) (s := s) (fun c => g_d_i) (by omega) (by omega) (fun j hj => by
    have := g_d_i.mp hj
    rw [g_dv]
    omega) (by omega) 4 0 S (by omega) h (by omega) h3 h4 h5 h6 h8 rfl
  exact ⟨S', e.trans a1, a2, a3⟩
end GC
