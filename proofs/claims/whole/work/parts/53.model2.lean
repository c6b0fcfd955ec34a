/-! THE REFERENCE reckons a formula. -/
theorem ni_pm1 (n : Nat) : nI (n + 1) + -nI 1 = nI n := pk_m1 n
theorem lgE (x y : Int64) : (lg_cmp x y = nI 0) ↔ x = y := lg_cmp_eq x y
theorem lgLe (x y : Int64) : (lg_cmp x y ≤ nI 0) ↔ x ≤ y := lg_cmp_le x y
theorem lgGe (x y : Int64) : (nI 0 ≤ lg_cmp x y) ↔ y ≤ x := lg_cmp_ge x y
theorem lgLt (x y : Int64) : (lg_cmp x y < nI 0) ↔ x < y := lg_cmp_lt x y
theorem lgGt (x y : Int64) : (nI 0 < lg_cmp x y) ↔ y < x := lg_cmp_gt x y
/-- a stack in a row of longs, its top last -/
def rL (S : z_S) (c : Nat) (st : List Int) : Prop := ∀ i v, st[i]? = some v → gL S c (st.length - 1 - i) = iL v
theorem rL_c {S : z_S} {c : Nat} {v : Int} {st : List Int} (h : rL S c (v :: st)) : gL S c st.length = iL v ∧ rL S c st := by
  refine ⟨?_, fun i w hi => ?_⟩
  · have := h 0 v rfl
    simpa using this
  · have := h (i + 1) w (by simpa using hi)
    rw [List.length_cons] at this
    rw [← this]
    congr 1
    omega
theorem rL_p {S S' : z_S} {c : Nat} {v : Int} {st : List Int} (h : rL S c st) (h1 : gL S' c st.length = iL v) (h2 : ∀ k, k < st.length → gL S' c k = gL S c k) : rL S' c (v :: st) := by
  intro i w hi
  cases i with
  | zero =>
    simp at hi
    subst hi
    simpa using h1
  | succ i =>
    have hi2 : st[i]? = some w := by simpa using hi
    have hl : i < st.length := by
      rcases Nat.lt_or_ge i st.length with q | q
      · exact q
      · rw [List.getElem?_eq_none q] at hi2; cases hi2
    rw [List.length_cons, show st.length + 1 - 1 - (i + 1) = st.length - 1 - i by omega, h2 _ (by omega)]
    exact h i w hi2
section MB
variable {d b v : Nat} {S : z_S} {P : q_Pl} {s : q_St}
theorem m201 {a : Int} (hW : z_W S) (ha : -1000000000000 ≤ a ∧ a ≤ 1000000000000) : fL (d + 1) 201 [.long (iL a)] S = some (iL (q_lim a), S) := by
  have e := e201 d (iL a) S hW
  have h1 : (1000000 : Int64) = iL 1000000 := rfl
  have h2 : (-1000000 : Int64) = iL (-1000000) := by decide
  simp only [lg_cmp_le, lg_cmp_ge] at e
  rw [h2, h1] at e
  rw [e]
  unfold q_lim
  by_cases g1 : a ≤ 1000000
  · rw [if_pos ((iL_le (by omega) (by omega) (by omega) (by omega)).mpr g1), if_neg (show ¬ 1000000 < a by omega)]
    by_cases g2 : -1000000 ≤ a
    · rw [if_pos ((iL_le (by omega) (by omega) (by omega) (by omega)).mpr g2), if_neg (show ¬ a < -1000000 by omega)]
    · rw [if_neg (fun z => g2 ((iL_le (by omega) (by omega) (by omega) (by omega)).mp z)), if_pos (show a < -1000000 by omega)]
  · rw [if_neg (fun z => g1 ((iL_le (by omega) (by omega) (by omega) (by omega)).mp z)), if_pos (show 1000000 < a by omega)]
theorem m202 {a b : Int} (hW : z_W S) (ha : iS a) (hb : iS b) : fL (d + 1) 202 [.long (iL a), .long (iL b)] S = some (iL (q_fl a b), S) := by
  have e := e202 d (iL a) (iL b) S hW
  have hq := iS_tdiv (b := b) ha
  have hm := iS_tmod (b := b) ha
  have z0 : (iL b = 0) ↔ b = 0 := by rw [iL_0]; unfold iS at hb; exact iL_eq (by omega) (by omega) (by omega) (by omega)
  have zm : (iL (a - a.tdiv b * b) = 0) ↔ a - a.tdiv b * b = 0 := by rw [iL_0]; unfold iS at hm; exact iL_eq (by omega) (by omega) (by omega) (by omega)
  have za : ((0 : Int64) ≤ iL a) ↔ 0 ≤ a := by rw [iL_0]; unfold iS at ha; exact iL_le (by omega) (by omega) (by omega) (by omega)
  have zb' : ((0 : Int64) ≤ iL b) ↔ 0 ≤ b := by rw [iL_0]; unfold iS at hb; exact iL_le (by omega) (by omega) (by omega) (by omega)
  simp only [lg_cmp_ge, lg_cmp_eq, iL_div ha hb, iL_mul, iL_sub, z0, zm, za, b202_53_eq d _ S hW, b202_32_eq d _ _ _ S hW, b202_43_eq d _ _ _ S hW, zb'] at e
  rw [e]
  unfold q_fl
  by_cases h0 : b = 0
  · rw [if_neg (fun z => z h0), if_pos h0]; rfl
  · rw [if_pos h0, if_neg h0, if_neg h0, if_neg h0]
    by_cases h1 : a - a.tdiv b * b = 0
    · rw [if_pos h1, if_neg (fun z => z.1 h1)]
    · rw [if_neg h1]
      have hs1 : iL (a.tdiv b) - 1 = iL (a.tdiv b - 1) := by rw [iL_1, iL_sub]
      by_cases h2 : 0 ≤ a
      · rw [if_pos h2]
        by_cases h3 : 0 ≤ b
        · rw [if_pos h3, if_pos trivial, if_neg (fun z => z.2 (by omega))]
        · rw [if_neg h3, if_neg (by decide), if_pos ⟨h1, by omega⟩, hs1]
      · rw [if_neg h2]
        by_cases h3 : 0 ≤ b
        · rw [if_pos h3, if_neg (by decide), if_pos ⟨h1, by omega⟩, hs1]
        · rw [if_neg h3, if_pos trivial, if_neg (fun z => z.2 (by omega))]
theorem m203 {n : Nat} {a b : Int} (hW : z_W S) (h1 : 10006 ≤ n) (h2 : n ≤ 10017) (ha : iS a) (hb : iS b) (h3 : 10016 ≤ n → (a = 0 ∨ a = 1) ∧ (b = 0 ∨ b = 1)) : fL (d + 2) 203 [.int (nI (n - 10000 + 25)), .long (iL a), .long (iL b)] S = some (iL (q_lim (q_rw (n - 10000) a b)), S) := by
  have hS := ha
  have hT := hb
  unfold iS at hS hT
  have h4 : n = 10006 ∨ n = 10007 ∨ n = 10008 ∨ n = 10009 ∨ n = 10010 ∨ n = 10011 ∨ n = 10012 ∨ n = 10013 ∨ n = 10014 ∨ n = 10015 ∨ n = 10016 ∨ n = 10017 := by omega
  have hm := iS_mul ha hb
  have hf := q_fl_bd (b := b) ha
  have hd := q_md_bd ha hb
  have E := e203 (d + 1) (nI (n - 10000 + 25)) (iL a) (iL b) S hW
  rcases h4 with q | q | q | q | q | q | q | q | q | q | q | q <;> subst q
  · rw [if_pos (by decide), iL_add, m201 hW (by omega), zb_some] at E
    exact E
  · rw [if_neg (by decide), if_pos (by decide), iL_sub, m201 hW (by omega), zb_some] at E
    exact E
  · rw [if_neg (by decide), if_neg (by decide), if_pos (by decide), iL_mul, m201 hW (by omega), zb_some] at E
    exact E
  · rw [if_neg (by decide), if_neg (by decide), if_neg (by decide), if_pos (by decide), m202 hW ha hb, zb_some, m201 hW (by omega), zb_some] at E
    exact E
  · rw [if_neg (by decide), if_neg (by decide), if_neg (by decide), if_neg (by decide), if_pos (by decide)] at E
    show _ = some (iL (q_lim (q_md a b)), S)
    by_cases q : b = 0
    · rw [if_neg (fun z => z ((lg_cmp_eq _ _).mpr (by rw [q]; rfl)))] at E
      unfold q_md
      rw [if_pos q]
      exact E
    · have z0 : (iL b = iL 0) ↔ b = 0 := iL_eq (by omega) (by omega) (by omega) (by omega)
      have hq : q_md a b = a - b * q_fl a b := by unfold q_md; rw [if_neg q]
      rw [if_pos (show ¬ lg_cmp (iL b) 0 = 0 from fun z => q (z0.mp ((lg_cmp_eq _ _).mp z))), m202 hW ha hb, zb_some, iL_mul, iL_sub, ← hq, m201 hW (by omega), zb_some] at E
      exact E
  · rw [if_neg (by decide), if_neg (by decide), if_neg (by decide), if_neg (by decide), if_neg (by decide), if_pos (by decide)] at E
    show _ = some (iL (q_lim (if b < a then b else a)), S)
    rw [q_lim_id (by unfold iS; split <;> omega), E]
    by_cases q : b ≤ a
    · rw [if_pos ((lg_cmp_ge _ _).mpr ((iL_le (by omega) (by omega) (by omega) (by omega)).mpr q))]
      by_cases q2 : b < a
      · rw [if_pos q2]
      · rw [if_neg q2, show b = a by omega]
    · rw [if_neg (fun z => q ((iL_le (by omega) (by omega) (by omega) (by omega)).mp ((lg_cmp_ge _ _).mp z))), if_neg (by omega)]
  · rw [if_neg (by decide), if_neg (by decide), if_neg (by decide), if_neg (by decide), if_neg (by decide), if_neg (by decide), if_pos (by decide)] at E
    show _ = some (iL (q_lim (if a < b then b else a)), S)
    rw [q_lim_id (by unfold iS; split <;> omega), E]
    by_cases q : a ≤ b
    · rw [if_pos ((lg_cmp_le _ _).mpr ((iL_le (by omega) (by omega) (by omega) (by omega)).mpr q))]
      by_cases q2 : a < b
      · rw [if_pos q2]
      · rw [if_neg q2, show b = a by omega]
    · rw [if_neg (fun z => q ((iL_le (by omega) (by omega) (by omega) (by omega)).mp ((lg_cmp_le _ _).mp z))), if_neg (by omega)]
  · rw [if_neg (by decide), if_neg (by decide), if_neg (by decide), if_neg (by decide), if_neg (by decide), if_neg (by decide), if_neg (by decide), if_pos (by decide)] at E
    show _ = some (iL (q_lim (if a < b then 1 else 0)), S)
    rw [E]
    by_cases q : a < b
    · rw [if_neg (fun z => by have := (iL_le (by omega) (by omega) (by omega) (by omega)).mp ((lg_cmp_ge _ _).mp z); omega), if_pos q]; rfl
    · rw [if_pos ((lg_cmp_ge _ _).mpr ((iL_le (by omega) (by omega) (by omega) (by omega)).mpr (by omega))), if_neg q]; rfl
  · rw [if_neg (by decide), if_neg (by decide), if_neg (by decide), if_neg (by decide), if_neg (by decide), if_neg (by decide), if_neg (by decide), if_neg (by decide), if_pos (by decide)] at E
    show _ = some (iL (q_lim (if b < a then 1 else 0)), S)
    rw [E]
    by_cases q : b < a
    · rw [if_neg (fun z => by have := (iL_le (by omega) (by omega) (by omega) (by omega)).mp ((lg_cmp_le _ _).mp z); omega), if_pos q]; rfl
    · rw [if_pos ((lg_cmp_le _ _).mpr ((iL_le (by omega) (by omega) (by omega) (by omega)).mpr (by omega))), if_neg q]; rfl
  · rw [if_neg (by decide), if_neg (by decide), if_neg (by decide), if_neg (by decide), if_neg (by decide), if_neg (by decide), if_neg (by decide), if_neg (by decide), if_neg (by decide), if_pos (by decide)] at E
    show _ = some (iL (q_lim (if a = b then 1 else 0)), S)
    rw [E]
    by_cases q : a = b
    · rw [if_neg (fun z => z ((lg_cmp_eq _ _).mpr (by rw [q]))), if_pos q]; rfl
    · rw [if_pos (fun z => q ((iL_eq (by omega) (by omega) (by omega) (by omega)).mp ((lg_cmp_eq _ _).mp z))), if_neg q]; rfl
  · rw [if_neg (by decide), if_neg (by decide), if_neg (by decide), if_neg (by decide), if_neg (by decide), if_neg (by decide), if_neg (by decide), if_neg (by decide), if_neg (by decide), if_neg (by decide), if_pos (by decide)] at E
    obtain ⟨g1, g2⟩ := h3 (by omega)
    rw [E]
    rcases g1 with g1 | g1 <;> rcases g2 with g2 | g2 <;> subst g1 <;> subst g2 <;> rfl
  · rw [if_neg (by decide), if_neg (by decide), if_neg (by decide), if_neg (by decide), if_neg (by decide), if_neg (by decide), if_neg (by decide), if_neg (by decide), if_neg (by decide), if_neg (by decide), if_neg (by decide)] at E
    obtain ⟨g1, g2⟩ := h3 (by omega)
    rw [E]
    rcases g1 with g1 | g1 <;> rcases g2 with g2 | g2 <;> subst g1 <;> subst g2 <;> rfl
theorem q_mc_b {w n : Nat} {so va : Int32} (h : q_mc w n so va) (h1 : 10006 ≤ n) : so = nI (n - 10000 + 25) := by
  unfold q_mc at h
  rw [if_neg (by omega), if_neg (by omega), if_neg (by omega), if_neg (by omega)] at h
  exact h
theorem m204_s {w i n N : Nat} {e : Nat → Int} {st : List Int} {ts ts' : List Bool} (hW : z_W S) (hb : b < 2) (hbk : gI S 396 13 = nI b) (hw : w < 3) (hc : q_mc w n (gI S 410 i) (gI S 411 i)) (hN : gI S 409 (3 * b + w) = nI N) (hN2 : i < 1600 * b + N) (hN3 : N ≤ 1600) (he : ∀ j, 1 ≤ j → j ≤ 4 → gI S 430 j = iI (e j)) (he5 : gI S 430 (5 + w) = iI (e 5)) (hes : ∀ j, iS (e j)) (hT : q_ty ts n = some ts') (hV : q_VT st ts) (hl : ts.length ≤ 60) (hl2 : ts'.length ≤ 60) (hr : rL S 429 st) : ∃ S', b204_25 (d + 2) (nI w) (nI st.length) (nI i) S = b204_25 (d + 2) (nI w) (nI (q_stp e st n).length) (nI (i + 1)) S' ∧ onM (fun c _ => c = 429) S S' ∧ rL S' 429 (q_stp e st n) := by
  have hlen := q_VT_len st ts hV
  have E := b204_25_eq (d + 2) (nI w) (nI st.length) (nI i) S hW
  have fin : ∀ (k : Nat) (x : Int64), onM (fun c _ => c = 429) S (sL S 429 k x) := fun k x => onM_sL (onM.refl hW) rfl
  have hW2 : ∀ (k : Nat) (x : Int64), z_W (sL S 429 k x) := fun k x => hW
  rcases q_ty_cases hT with ⟨h1, rfl⟩ | ⟨h1, h2, r, rfl, rfl⟩ | ⟨h1, h2, r, rfl, rfl⟩ | ⟨rfl, r, rfl, rfl⟩ | ⟨rfl, r, rfl, rfl⟩
  · have hv : ∃ x, q_stp e st n = x :: st ∧ b204_25 (d + 2) (nI w) (nI st.length) (nI i) S = b204_25 (d + 2) (nI w) (nI (st.length + 1)) (nI (i + 1)) (sL S 429 st.length (iL x)) := by
      rw [List.length_cons] at hl2
      unfold q_mc at hc
      by_cases g1 : n < 10000
      · rw [if_pos g1] at hc
        refine ⟨n, by unfold q_stp; rw [if_pos g1], ?_⟩
        simp (disch := omega) only [ni_lit, nI_add, pk_mul, pk_sub, pk_div, nI_leI, nI_ltI, nI_eq, nI_clamp, ni_in, ni_inm, ni_ltm, ni_mlt, ni_lem, ni_mle, ni_eqm, ni_meq, ni_mm, ni_mmle, ni_bit, ni_shl, ni_clr, fa_or, Nat.add_zero, Nat.zero_add, Nat.zero_mul, Nat.mul_zero, eOn, eOs, if_true, if_false, not_true_eq_false, not_false_eq_true, ite_true, ite_false, true_and, and_true, false_and, and_false, or_true, true_or, or_false, false_or, Bool.false_eq_true, reduceIte, Bool.not_true, Bool.not_false, and_self, or_self, q_ef, q_et, q_ltt, q_ltf, q_let, q_lef, gIs, gIl, gIr, gLs, gLl, gLr, gPs, gPl, gPr, gLc, gPc, zb_some, Option.bind_some, q_nm, q_pm, q_hm, q_tm, q_sm, q_wm, q_ym, q_lm, q_ua, hbk, hN, hc.1, hc.2, b204_105_eq (d + 2) _ _ _ _ _ S hW, b204_221_eq (d + 2) _ _ _ _ (hW2 _ _)] at E
        have hnl : (nI n).toInt64 = iL n := by rw [iI_n, iI_l (by omega) (by omega)]
        rw [E, hnl]
      · rw [if_neg g1] at hc
        by_cases g2 : n = 10000
        · rw [if_pos g2] at hc
          refine ⟨1, by unfold q_stp; rw [if_neg g1, if_pos g2], ?_⟩
          simp (disch := omega) only [ni_lit, nI_add, pk_mul, pk_sub, pk_div, nI_leI, nI_ltI, nI_eq, nI_clamp, ni_in, ni_inm, ni_ltm, ni_mlt, ni_lem, ni_mle, ni_eqm, ni_meq, ni_mm, ni_mmle, ni_bit, ni_shl, ni_clr, fa_or, Nat.add_zero, Nat.zero_add, Nat.zero_mul, Nat.mul_zero, eOn, eOs, if_true, if_false, not_true_eq_false, not_false_eq_true, ite_true, ite_false, true_and, and_true, false_and, and_false, or_true, true_or, or_false, false_or, Bool.false_eq_true, reduceIte, Bool.not_true, Bool.not_false, and_self, or_self, q_ef, q_et, q_ltt, q_ltf, q_let, q_lef, gIs, gIl, gIr, gLs, gLl, gLr, gPs, gPl, gPr, gLc, gPc, zb_some, Option.bind_some, q_nm, q_pm, q_hm, q_tm, q_sm, q_wm, q_ym, q_lm, q_ua, hbk, hN, hc, b204_105_eq (d + 2) _ _ _ _ _ S hW, b204_221_eq (d + 2) _ _ _ _ (hW2 _ _)] at E
          rw [E, iL_1]
        · rw [if_neg g2] at hc
          refine ⟨e (n - 10000), by unfold q_stp; rw [if_neg g1, if_neg g2, if_pos h1], ?_⟩
          have hbd := hes (n - 10000)
          have hbd5 := hes 5
          unfold iS at hbd hbd5
          by_cases g3 : n ≤ 10004
          · rw [if_pos g3] at hc
            simp (disch := omega) only [ni_lit, nI_add, pk_mul, pk_sub, pk_div, nI_leI, nI_ltI, nI_eq, nI_clamp, ni_in, ni_inm, ni_ltm, ni_mlt, ni_lem, ni_mle, ni_eqm, ni_meq, ni_mm, ni_mmle, ni_bit, ni_shl, ni_clr, fa_or, Nat.add_zero, Nat.zero_add, Nat.zero_mul, Nat.mul_zero, eOn, eOs, if_true, if_false, not_true_eq_false, not_false_eq_true, ite_true, ite_false, true_and, and_true, false_and, and_false, or_true, true_or, or_false, false_or, Bool.false_eq_true, reduceIte, Bool.not_true, Bool.not_false, and_self, or_self, q_ef, q_et, q_ltt, q_ltf, q_let, q_lef, gIs, gIl, gIr, gLs, gLl, gLr, gPs, gPl, gPr, gLc, gPc, zb_some, Option.bind_some, q_nm, q_pm, q_hm, q_tm, q_sm, q_wm, q_ym, q_lm, q_ua, hbk, hN, hc, he (n - 10000) (by omega) (by omega), b204_105_eq (d + 2) _ _ _ _ _ S hW, b204_221_eq (d + 2) _ _ _ _ (hW2 _ _)] at E
            rw [E, iI_l (by omega) (by omega)]
          · have g4 : n = 10005 := by omega
            subst g4
            rw [if_neg g3, if_pos rfl] at hc
            simp (disch := omega) only [ni_lit, nI_add, pk_mul, pk_sub, pk_div, nI_leI, nI_ltI, nI_eq, nI_clamp, ni_in, ni_inm, ni_ltm, ni_mlt, ni_lem, ni_mle, ni_eqm, ni_meq, ni_mm, ni_mmle, ni_bit, ni_shl, ni_clr, fa_or, Nat.add_zero, Nat.zero_add, Nat.zero_mul, Nat.mul_zero, eOn, eOs, if_true, if_false, not_true_eq_false, not_false_eq_true, ite_true, ite_false, true_and, and_true, false_and, and_false, or_true, true_or, or_false, false_or, Bool.false_eq_true, reduceIte, Bool.not_true, Bool.not_false, and_self, or_self, q_ef, q_et, q_ltt, q_ltf, q_let, q_lef, gIs, gIl, gIr, gLs, gLl, gLr, gPs, gPl, gPr, gLc, gPc, zb_some, Option.bind_some, q_nm, q_pm, q_hm, q_tm, q_sm, q_wm, q_ym, q_lm, q_ua, hbk, hN, hc, he5, b204_105_eq (d + 2) _ _ _ _ _ S hW, b204_221_eq (d + 2) _ _ _ _ (hW2 _ _)] at E
            rw [E, iI_l (by omega) (by omega)]
    obtain ⟨x, hx1, hx2⟩ := hv
    rw [hx1]
    refine ⟨_, hx2, fin _ _, rL_p hr ?_ (fun k hk => ?_)⟩
    · simp (disch := omega) only [ni_lit, nI_add, pk_mul, pk_sub, pk_div, nI_leI, nI_ltI, nI_eq, nI_clamp, ni_in, ni_inm, ni_ltm, ni_mlt, ni_lem, ni_mle, ni_eqm, ni_meq, ni_mm, ni_mmle, ni_bit, ni_shl, ni_clr, fa_or, Nat.add_zero, Nat.zero_add, Nat.zero_mul, Nat.mul_zero, eOn, eOs, if_true, if_false, not_true_eq_false, not_false_eq_true, ite_true, ite_false, true_and, and_true, false_and, and_false, or_true, true_or, or_false, false_or, Bool.false_eq_true, reduceIte, Bool.not_true, Bool.not_false, and_self, or_self, q_ef, q_et, q_ltt, q_ltf, q_let, q_lef, gIs, gIl, gIr, gLs, gLl, gLr, gPs, gPl, gPr, gLc, gPc, zb_some, Option.bind_some, q_nm, q_pm, q_hm, q_tm, q_sm, q_wm, q_ym, q_lm, q_ua]
    · simp (disch := omega) only [ni_lit, nI_add, pk_mul, pk_sub, pk_div, nI_leI, nI_ltI, nI_eq, nI_clamp, ni_in, ni_inm, ni_ltm, ni_mlt, ni_lem, ni_mle, ni_eqm, ni_meq, ni_mm, ni_mmle, ni_bit, ni_shl, ni_clr, fa_or, Nat.add_zero, Nat.zero_add, Nat.zero_mul, Nat.mul_zero, eOn, eOs, if_true, if_false, not_true_eq_false, not_false_eq_true, ite_true, ite_false, true_and, and_true, false_and, and_false, or_true, true_or, or_false, false_or, Bool.false_eq_true, reduceIte, Bool.not_true, Bool.not_false, and_self, or_self, q_ef, q_et, q_ltt, q_ltf, q_let, q_lef, gIs, gIl, gIr, gLs, gLl, gLr, gPs, gPl, gPr, gLc, gPc, zb_some, Option.bind_some, q_nm, q_pm, q_hm, q_tm, q_sm, q_wm, q_ym, q_lm, q_ua]
  · obtain ⟨y, r1, rfl, g1, g2⟩ := q_VT_c hV
    obtain ⟨a, r2, rfl, g3, g4⟩ := q_VT_c g2
    obtain ⟨k1, k2⟩ := rL_c hr
    obtain ⟨k3, k4⟩ := rL_c k2
    have hs : q_stp e (y :: a :: r2) n = q_lim (q_rw (n - 10000) a y) :: r2 := by
      unfold q_stp
      rw [if_neg (by omega), if_neg (by omega), if_neg (by omega), if_pos (by omega)]
    rw [List.length_cons] at k1
    simp only [List.length_cons] at E hl hlen
    have hc2 := q_mc_b hc h1
    have j1 := m203 (d := d) (S := S) (n := n) (a := a) (b := y) hW h1 (by omega) g3.1 g1.1 (fun q => by omega)
    simp (disch := omega) only [ni_lit, nI_add, pk_mul, pk_sub, pk_div, nI_leI, nI_ltI, nI_eq, nI_clamp, ni_in, ni_inm, ni_ltm, ni_mlt, ni_lem, ni_mle, ni_eqm, ni_meq, ni_mm, ni_mmle, ni_bit, ni_shl, ni_clr, fa_or, Nat.add_zero, Nat.zero_add, Nat.zero_mul, Nat.mul_zero, eOn, eOs, if_true, if_false, not_true_eq_false, not_false_eq_true, ite_true, ite_false, true_and, and_true, false_and, and_false, or_true, true_or, or_false, false_or, Bool.false_eq_true, reduceIte, Bool.not_true, Bool.not_false, and_self, or_self, q_ef, q_et, q_ltt, q_ltf, q_let, q_lef, gIs, gIl, gIr, gLs, gLl, gLr, gPs, gPl, gPr, gLc, gPc, zb_some, Option.bind_some, q_nm, q_pm, q_hm, q_tm, q_sm, q_wm, q_ym, q_lm, q_ua, hbk, hN, hc2, ni_pm1, show r2.length + 1 - 1 = r2.length by omega, k1, k3, j1, b204_221_eq (d + 2) _ _ _ _ (hW2 _ _)] at E
    rw [hs]
    refine ⟨_, E, fin _ _, rL_p k4 ?_ (fun k hk => ?_)⟩
    · simp (disch := omega) only [ni_lit, nI_add, pk_mul, pk_sub, pk_div, nI_leI, nI_ltI, nI_eq, nI_clamp, ni_in, ni_inm, ni_ltm, ni_mlt, ni_lem, ni_mle, ni_eqm, ni_meq, ni_mm, ni_mmle, ni_bit, ni_shl, ni_clr, fa_or, Nat.add_zero, Nat.zero_add, Nat.zero_mul, Nat.mul_zero, eOn, eOs, if_true, if_false, not_true_eq_false, not_false_eq_true, ite_true, ite_false, true_and, and_true, false_and, and_false, or_true, true_or, or_false, false_or, Bool.false_eq_true, reduceIte, Bool.not_true, Bool.not_false, and_self, or_self, q_ef, q_et, q_ltt, q_ltf, q_let, q_lef, gIs, gIl, gIr, gLs, gLl, gLr, gPs, gPl, gPr, gLc, gPc, zb_some, Option.bind_some, q_nm, q_pm, q_hm, q_tm, q_sm, q_wm, q_ym, q_lm, q_ua]
    · simp (disch := omega) only [ni_lit, nI_add, pk_mul, pk_sub, pk_div, nI_leI, nI_ltI, nI_eq, nI_clamp, ni_in, ni_inm, ni_ltm, ni_mlt, ni_lem, ni_mle, ni_eqm, ni_meq, ni_mm, ni_mmle, ni_bit, ni_shl, ni_clr, fa_or, Nat.add_zero, Nat.zero_add, Nat.zero_mul, Nat.mul_zero, eOn, eOs, if_true, if_false, not_true_eq_false, not_false_eq_true, ite_true, ite_false, true_and, and_true, false_and, and_false, or_true, true_or, or_false, false_or, Bool.false_eq_true, reduceIte, Bool.not_true, Bool.not_false, and_self, or_self, q_ef, q_et, q_ltt, q_ltf, q_let, q_lef, gIs, gIl, gIr, gLs, gLl, gLr, gPs, gPl, gPr, gLc, gPc, zb_some, Option.bind_some, q_nm, q_pm, q_hm, q_tm, q_sm, q_wm, q_ym, q_lm, q_ua]
  · obtain ⟨y, r1, rfl, g1, g2⟩ := q_VT_c hV
    obtain ⟨a, r2, rfl, g3, g4⟩ := q_VT_c g2
    obtain ⟨k1, k2⟩ := rL_c hr
    obtain ⟨k3, k4⟩ := rL_c k2
    have hs : q_stp e (y :: a :: r2) n = q_lim (q_rw (n - 10000) a y) :: r2 := by
      unfold q_stp
      rw [if_neg (by omega), if_neg (by omega), if_neg (by omega), if_pos (by omega)]
    rw [List.length_cons] at k1
    simp only [List.length_cons] at E hl hlen
    have hc2 := q_mc_b hc (by omega)
    have j1 := m203 (d := d) (S := S) (n := n) (a := a) (b := y) hW (by omega) h2 g3.1 g1.1 (fun q => ⟨g3.2 rfl, g1.2 rfl⟩)
    simp (disch := omega) only [ni_lit, nI_add, pk_mul, pk_sub, pk_div, nI_leI, nI_ltI, nI_eq, nI_clamp, ni_in, ni_inm, ni_ltm, ni_mlt, ni_lem, ni_mle, ni_eqm, ni_meq, ni_mm, ni_mmle, ni_bit, ni_shl, ni_clr, fa_or, Nat.add_zero, Nat.zero_add, Nat.zero_mul, Nat.mul_zero, eOn, eOs, if_true, if_false, not_true_eq_false, not_false_eq_true, ite_true, ite_false, true_and, and_true, false_and, and_false, or_true, true_or, or_false, false_or, Bool.false_eq_true, reduceIte, Bool.not_true, Bool.not_false, and_self, or_self, q_ef, q_et, q_ltt, q_ltf, q_let, q_lef, gIs, gIl, gIr, gLs, gLl, gLr, gPs, gPl, gPr, gLc, gPc, zb_some, Option.bind_some, q_nm, q_pm, q_hm, q_tm, q_sm, q_wm, q_ym, q_lm, q_ua, hbk, hN, hc2, ni_pm1, show r2.length + 1 - 1 = r2.length by omega, k1, k3, j1, b204_221_eq (d + 2) _ _ _ _ (hW2 _ _)] at E
    rw [hs]
    refine ⟨_, E, fin _ _, rL_p k4 ?_ (fun k hk => ?_)⟩
    · simp (disch := omega) only [ni_lit, nI_add, pk_mul, pk_sub, pk_div, nI_leI, nI_ltI, nI_eq, nI_clamp, ni_in, ni_inm, ni_ltm, ni_mlt, ni_lem, ni_mle, ni_eqm, ni_meq, ni_mm, ni_mmle, ni_bit, ni_shl, ni_clr, fa_or, Nat.add_zero, Nat.zero_add, Nat.zero_mul, Nat.mul_zero, eOn, eOs, if_true, if_false, not_true_eq_false, not_false_eq_true, ite_true, ite_false, true_and, and_true, false_and, and_false, or_true, true_or, or_false, false_or, Bool.false_eq_true, reduceIte, Bool.not_true, Bool.not_false, and_self, or_self, q_ef, q_et, q_ltt, q_ltf, q_let, q_lef, gIs, gIl, gIr, gLs, gLl, gLr, gPs, gPl, gPr, gLc, gPc, zb_some, Option.bind_some, q_nm, q_pm, q_hm, q_tm, q_sm, q_wm, q_ym, q_lm, q_ua]
    · simp (disch := omega) only [ni_lit, nI_add, pk_mul, pk_sub, pk_div, nI_leI, nI_ltI, nI_eq, nI_clamp, ni_in, ni_inm, ni_ltm, ni_mlt, ni_lem, ni_mle, ni_eqm, ni_meq, ni_mm, ni_mmle, ni_bit, ni_shl, ni_clr, fa_or, Nat.add_zero, Nat.zero_add, Nat.zero_mul, Nat.mul_zero, eOn, eOs, if_true, if_false, not_true_eq_false, not_false_eq_true, ite_true, ite_false, true_and, and_true, false_and, and_false, or_true, true_or, or_false, false_or, Bool.false_eq_true, reduceIte, Bool.not_true, Bool.not_false, and_self, or_self, q_ef, q_et, q_ltt, q_ltf, q_let, q_lef, gIs, gIl, gIr, gLs, gLl, gLr, gPs, gPl, gPr, gLc, gPc, zb_some, Option.bind_some, q_nm, q_pm, q_hm, q_tm, q_sm, q_wm, q_ym, q_lm, q_ua]
  · obtain ⟨a, r2, rfl, g3, g4⟩ := q_VT_c hV
    obtain ⟨k3, k4⟩ := rL_c hr
    have hs : q_stp e (a :: r2) 10018 = (1 - a) :: r2 := rfl
    simp only [List.length_cons] at E hl hlen
    have hc2 := q_mc_b hc (by omega)
    simp (disch := omega) only [ni_lit, nI_add, pk_mul, pk_sub, pk_div, nI_leI, nI_ltI, nI_eq, nI_clamp, ni_in, ni_inm, ni_ltm, ni_mlt, ni_lem, ni_mle, ni_eqm, ni_meq, ni_mm, ni_mmle, ni_bit, ni_shl, ni_clr, fa_or, Nat.add_zero, Nat.zero_add, Nat.zero_mul, Nat.mul_zero, eOn, eOs, if_true, if_false, not_true_eq_false, not_false_eq_true, ite_true, ite_false, true_and, and_true, false_and, and_false, or_true, true_or, or_false, false_or, Bool.false_eq_true, reduceIte, Bool.not_true, Bool.not_false, and_self, or_self, q_ef, q_et, q_ltt, q_ltf, q_let, q_lef, gIs, gIl, gIr, gLs, gLl, gLr, gPs, gPl, gPr, gLc, gPc, zb_some, Option.bind_some, q_nm, q_pm, q_hm, q_tm, q_sm, q_wm, q_ym, q_lm, q_ua, hbk, hN, hc2, show r2.length + 1 - 1 = r2.length by omega, k3, iL_1, iL_sub, b204_221_eq (d + 2) _ _ _ _ (hW2 _ _)] at E
    rw [hs]
    refine ⟨_, E, fin _ _, rL_p k4 ?_ (fun k hk => ?_)⟩
    · simp (disch := omega) only [ni_lit, nI_add, pk_mul, pk_sub, pk_div, nI_leI, nI_ltI, nI_eq, nI_clamp, ni_in, ni_inm, ni_ltm, ni_mlt, ni_lem, ni_mle, ni_eqm, ni_meq, ni_mm, ni_mmle, ni_bit, ni_shl, ni_clr, fa_or, Nat.add_zero, Nat.zero_add, Nat.zero_mul, Nat.mul_zero, eOn, eOs, if_true, if_false, not_true_eq_false, not_false_eq_true, ite_true, ite_false, true_and, and_true, false_and, and_false, or_true, true_or, or_false, false_or, Bool.false_eq_true, reduceIte, Bool.not_true, Bool.not_false, and_self, or_self, q_ef, q_et, q_ltt, q_ltf, q_let, q_lef, gIs, gIl, gIr, gLs, gLl, gLr, gPs, gPl, gPr, gLc, gPc, zb_some, Option.bind_some, q_nm, q_pm, q_hm, q_tm, q_sm, q_wm, q_ym, q_lm, q_ua]
    · simp (disch := omega) only [ni_lit, nI_add, pk_mul, pk_sub, pk_div, nI_leI, nI_ltI, nI_eq, nI_clamp, ni_in, ni_inm, ni_ltm, ni_mlt, ni_lem, ni_mle, ni_eqm, ni_meq, ni_mm, ni_mmle, ni_bit, ni_shl, ni_clr, fa_or, Nat.add_zero, Nat.zero_add, Nat.zero_mul, Nat.mul_zero, eOn, eOs, if_true, if_false, not_true_eq_false, not_false_eq_true, ite_true, ite_false, true_and, and_true, false_and, and_false, or_true, true_or, or_false, false_or, Bool.false_eq_true, reduceIte, Bool.not_true, Bool.not_false, and_self, or_self, q_ef, q_et, q_ltt, q_ltf, q_let, q_lef, gIs, gIl, gIr, gLs, gLl, gLr, gPs, gPl, gPr, gLc, gPc, zb_some, Option.bind_some, q_nm, q_pm, q_hm, q_tm, q_sm, q_wm, q_ym, q_lm, q_ua]
  · obtain ⟨c, r0, rfl, g1, g2⟩ := q_VT_c hV
    obtain ⟨y, r1, rfl, g3, g4⟩ := q_VT_c g2
    obtain ⟨a, r2, rfl, g5, g6⟩ := q_VT_c g4
    obtain ⟨k1, k2⟩ := rL_c hr
    obtain ⟨k3, k4⟩ := rL_c k2
    obtain ⟨k5, k6⟩ := rL_c k4
    have hs : q_stp e (c :: y :: a :: r2) 10019 = (if a = 1 then y else c) :: r2 := rfl
    have g7 := g5.2 rfl
    rw [List.length_cons, List.length_cons] at k1
    rw [List.length_cons] at k3
    simp only [List.length_cons] at E hl hlen
    have hc2 := q_mc_b hc (by omega)
    have m2 : ∀ n : Nat, nI (n + 1 + 1 + 1) + (-nI 2) = nI (n + 1) := fun n => by
      have := pk_sub (a := n + 1 + 1 + 1) (b := 2) (by omega)
      rw [show n + 1 + 1 + 1 - 2 = n + 1 by omega] at this
      rw [← this, Int32.sub_eq_add_neg]
    have z1 : (iL a = iL 1) ↔ a = 1 := iL_eq (by omega) (by omega) (by omega) (by omega)
    simp (disch := omega) only [ni_lit, nI_add, pk_mul, pk_sub, pk_div, nI_leI, nI_ltI, nI_eq, nI_clamp, ni_in, ni_inm, ni_ltm, ni_mlt, ni_lem, ni_mle, ni_eqm, ni_meq, ni_mm, ni_mmle, ni_bit, ni_shl, ni_clr, fa_or, Nat.add_zero, Nat.zero_add, Nat.zero_mul, Nat.mul_zero, eOn, eOs, if_true, if_false, not_true_eq_false, not_false_eq_true, ite_true, ite_false, true_and, and_true, false_and, and_false, or_true, true_or, or_false, false_or, Bool.false_eq_true, reduceIte, Bool.not_true, Bool.not_false, and_self, or_self, q_ef, q_et, q_ltt, q_ltf, q_let, q_lef, gIs, gIl, gIr, gLs, gLl, gLr, gPs, gPl, gPr, gLc, gPc, zb_some, Option.bind_some, q_nm, q_pm, q_hm, q_tm, q_sm, q_wm, q_ym, q_lm, q_ua, hbk, hN, hc2, m2, show r2.length + 1 - 1 = r2.length by omega, k5, iL_1, lgE, z1, k3, k1, b204_187_eq (d + 2) _ _ _ _ _ S hW, b204_221_eq (d + 2) _ _ _ _ (hW2 _ _)] at E
    rw [hs]
    by_cases c1 : a = 1
    · simp only [c1, if_true, if_false, not_true_eq_false, not_false_eq_true, ite_true, ite_false, true_and, and_true, false_and, and_false, or_true, true_or, or_false, false_or, Bool.false_eq_true, reduceIte, Bool.not_true, Bool.not_false, and_self, or_self] at E
      rw [if_pos c1]
      refine ⟨_, E, fin _ _, rL_p k6 ?_ (fun k hk => ?_)⟩
      · simp (disch := omega) only [ni_lit, nI_add, pk_mul, pk_sub, pk_div, nI_leI, nI_ltI, nI_eq, nI_clamp, ni_in, ni_inm, ni_ltm, ni_mlt, ni_lem, ni_mle, ni_eqm, ni_meq, ni_mm, ni_mmle, ni_bit, ni_shl, ni_clr, fa_or, Nat.add_zero, Nat.zero_add, Nat.zero_mul, Nat.mul_zero, eOn, eOs, if_true, if_false, not_true_eq_false, not_false_eq_true, ite_true, ite_false, true_and, and_true, false_and, and_false, or_true, true_or, or_false, false_or, Bool.false_eq_true, reduceIte, Bool.not_true, Bool.not_false, and_self, or_self, q_ef, q_et, q_ltt, q_ltf, q_let, q_lef, gIs, gIl, gIr, gLs, gLl, gLr, gPs, gPl, gPr, gLc, gPc, zb_some, Option.bind_some, q_nm, q_pm, q_hm, q_tm, q_sm, q_wm, q_ym, q_lm, q_ua]
      · simp (disch := omega) only [ni_lit, nI_add, pk_mul, pk_sub, pk_div, nI_leI, nI_ltI, nI_eq, nI_clamp, ni_in, ni_inm, ni_ltm, ni_mlt, ni_lem, ni_mle, ni_eqm, ni_meq, ni_mm, ni_mmle, ni_bit, ni_shl, ni_clr, fa_or, Nat.add_zero, Nat.zero_add, Nat.zero_mul, Nat.mul_zero, eOn, eOs, if_true, if_false, not_true_eq_false, not_false_eq_true, ite_true, ite_false, true_and, and_true, false_and, and_false, or_true, true_or, or_false, false_or, Bool.false_eq_true, reduceIte, Bool.not_true, Bool.not_false, and_self, or_self, q_ef, q_et, q_ltt, q_ltf, q_let, q_lef, gIs, gIl, gIr, gLs, gLl, gLr, gPs, gPl, gPr, gLc, gPc, zb_some, Option.bind_some, q_nm, q_pm, q_hm, q_tm, q_sm, q_wm, q_ym, q_lm, q_ua]
    · simp only [c1, if_true, if_false, not_true_eq_false, not_false_eq_true, ite_true, ite_false, true_and, and_true, false_and, and_false, or_true, true_or, or_false, false_or, Bool.false_eq_true, reduceIte, Bool.not_true, Bool.not_false, and_self, or_self] at E
      rw [if_neg c1]
      refine ⟨_, E, fin _ _, rL_p k6 ?_ (fun k hk => ?_)⟩
      · simp (disch := omega) only [ni_lit, nI_add, pk_mul, pk_sub, pk_div, nI_leI, nI_ltI, nI_eq, nI_clamp, ni_in, ni_inm, ni_ltm, ni_mlt, ni_lem, ni_mle, ni_eqm, ni_meq, ni_mm, ni_mmle, ni_bit, ni_shl, ni_clr, fa_or, Nat.add_zero, Nat.zero_add, Nat.zero_mul, Nat.mul_zero, eOn, eOs, if_true, if_false, not_true_eq_false, not_false_eq_true, ite_true, ite_false, true_and, and_true, false_and, and_false, or_true, true_or, or_false, false_or, Bool.false_eq_true, reduceIte, Bool.not_true, Bool.not_false, and_self, or_self, q_ef, q_et, q_ltt, q_ltf, q_let, q_lef, gIs, gIl, gIr, gLs, gLl, gLr, gPs, gPl, gPr, gLc, gPc, zb_some, Option.bind_some, q_nm, q_pm, q_hm, q_tm, q_sm, q_wm, q_ym, q_lm, q_ua]
      · simp (disch := omega) only [ni_lit, nI_add, pk_mul, pk_sub, pk_div, nI_leI, nI_ltI, nI_eq, nI_clamp, ni_in, ni_inm, ni_ltm, ni_mlt, ni_lem, ni_mle, ni_eqm, ni_meq, ni_mm, ni_mmle, ni_bit, ni_shl, ni_clr, fa_or, Nat.add_zero, Nat.zero_add, Nat.zero_mul, Nat.mul_zero, eOn, eOs, if_true, if_false, not_true_eq_false, not_false_eq_true, ite_true, ite_false, true_and, and_true, false_and, and_false, or_true, true_or, or_false, false_or, Bool.false_eq_true, reduceIte, Bool.not_true, Bool.not_false, and_self, or_self, q_ef, q_et, q_ltt, q_ltf, q_let, q_lef, gIs, gIl, gIr, gLs, gLl, gLr, gPs, gPl, gPr, gLc, gPc, zb_some, Option.bind_some, q_nm, q_pm, q_hm, q_tm, q_sm, q_wm, q_ym, q_lm, q_ua]
theorem m204_l {w N : Nat} {e : Nat → Int} (hb : b < 2) (hw : w < 3) (hN3 : N ≤ 1600) (hes : ∀ j, iS (e j)) : ∀ (l : List Nat) (i : Nat) (st : List Int) (ts : List Bool) (t : Bool) (S : z_S), z_W S → gI S 396 13 = nI b → gI S 409 (3 * b + w) = nI N → i + l.length = 1600 * b + N → (∀ j, 1 ≤ j → j ≤ 4 → gI S 430 j = iI (e j)) → gI S 430 (5 + w) = iI (e 5) → (∀ j c, l[j]? = some c → q_mc w c (gI S 410 (i + j)) (gI S 411 (i + j))) → q_tyL l ts = some [t] → q_VT st ts → ts.length ≤ 60 → rL S 429 st → ∃ S', b204_25 (d + 2) (nI w) (nI st.length) (nI i) S = some (iL ((q_ev e l st).headD 0), S') ∧ onM (fun c _ => c = 429) S S'
  | [], i, st, ts, t, S, hW, hbk, hN, hi, he, he5, hc, hT, hV, hl, hr => by
    cases hT
    obtain ⟨a, r, rfl, g1, g2⟩ := q_VT_c hV
    have e0 := q_VT_len r [] g2
    have e1 : r = [] := List.eq_nil_of_length_eq_zero e0
    subst e1
    have E := b204_25_eq (d + 2) (nI w) (nI 1) (nI i) S hW
    rw [List.length_nil, Nat.add_zero] at hi
    have k1 := (rL_c hr).1
    rw [List.length_nil] at k1
    simp (disch := omega) only [ni_lit, nI_add, pk_mul, pk_sub, pk_div, nI_leI, nI_ltI, nI_eq, nI_clamp, ni_in, ni_inm, ni_ltm, ni_mlt, ni_lem, ni_mle, ni_eqm, ni_meq, ni_mm, ni_mmle, ni_bit, ni_shl, ni_clr, fa_or, Nat.add_zero, Nat.zero_add, Nat.zero_mul, Nat.mul_zero, eOn, eOs, if_true, if_false, not_true_eq_false, not_false_eq_true, ite_true, ite_false, true_and, and_true, false_and, and_false, or_true, true_or, or_false, false_or, Bool.false_eq_true, reduceIte, Bool.not_true, Bool.not_false, and_self, or_self, q_ef, q_et, q_ltt, q_ltf, q_let, q_lef, gIs, gIl, gIr, gLs, gLl, gLr, gPs, gPl, gPr, gLc, gPc, zb_some, Option.bind_some, q_nm, q_pm, q_hm, q_tm, q_sm, q_wm, q_ym, q_lm, q_ua, hbk, hN, k1] at E
    exact ⟨S, E, onM.refl hW⟩
  | n :: l, i, st, ts, t, S, hW, hbk, hN, hi, he, he5, hc, hT, hV, hl, hr => by
    rw [q_tyL] at hT
    rw [List.length_cons] at hi
    split at hT
    · rename_i t1 h1
      split at hT
      · rename_i h2
        have hc0 := hc 0 n rfl
        rw [Nat.add_zero] at hc0
        obtain ⟨S1, a1, a2, a3⟩ := m204_s (d := d) (e := e) hW hb hbk hw hc0 hN (by omega) hN3 he he5 hes h1 hV hl h2 hr
        have hf : ∀ c k, ¬ c = 429 → gI S1 c k = gI S c k := fun c k z => a2.I z
        obtain ⟨S2, b1, b2⟩ := m204_l (e := e) hb hw hN3 hes l (i + 1) (q_stp e st n) t1 t S1 a2.W (by rw [hf _ _ (by omega)]; exact hbk) (by rw [hf _ _ (by omega)]; exact hN) (by omega) (fun j j1 j2 => by rw [hf _ _ (by omega)]; exact he j j1 j2) (by rw [hf _ _ (by omega)]; exact he5) (fun j c z => by
          rw [hf _ _ (by omega), hf _ _ (by omega)]
          have := hc (j + 1) c (by simpa using z)
          rw [show i + 1 + j = i + (j + 1) by omega]
          exact this) hT (q_stp_VT hes hV h1) h2 a3
        exact ⟨S2, a1.trans b1, a2.trans b2⟩
      · cases hT
    · cases hT
theorem m204 {w : Nat} {e : Nat → Int} {t : Bool} (hM : cM S b P) (hw : w < 3) (hes : ∀ j, iS (e j)) (he : ∀ j, 1 ≤ j → j ≤ 4 → gI S 430 j = iI (e j)) (he5 : gI S 430 (5 + w) = iI (e 5)) (hne : p_d P w ≠ []) (hT : q_tyL (p_d P w) [] = some [t]) : ∃ S', fL (d + 3) 204 [.ref 396, .int (nI w)] S = some (iL (q_val e (p_d P w)), S') ∧ onM (fun c _ => c = 429) S S' := by
  obtain ⟨hW, hb, hbk, hC, hP⟩ := hM
  have E := e204 (d + 2) (nI w) S hW
  rcases hC.2.2.2.2.2.2.2.2.2.2.2 w hw with ⟨k1, k2⟩ | ⟨k1, f, k2, k3, k4, k5⟩
  · exact absurd k1 hne
  · simp (disch := omega) only [ni_lit, nI_add, pk_mul, pk_sub, pk_div, nI_leI, nI_ltI, nI_eq, nI_clamp, ni_in, ni_inm, ni_ltm, ni_mlt, ni_lem, ni_mle, ni_eqm, ni_meq, ni_mm, ni_mmle, ni_bit, ni_shl, ni_clr, fa_or, Nat.add_zero, Nat.zero_add, Nat.zero_mul, Nat.mul_zero, eOn, eOs, if_true, if_false, not_true_eq_false, not_false_eq_true, ite_true, ite_false, true_and, and_true, false_and, and_false, or_true, true_or, or_false, false_or, Bool.false_eq_true, reduceIte, Bool.not_true, Bool.not_false, and_self, or_self, q_ef, q_et, q_ltt, q_ltf, q_let, q_lef, gIs, gIl, gIr, gLs, gLl, gLr, gPs, gPl, gPr, gLc, gPc, zb_some, Option.bind_some, q_nm, q_pm, q_hm, q_tm, q_sm, q_wm, q_ym, q_lm, q_ua, hbk, k3] at E
    obtain ⟨S', a1, a2⟩ := m204_l (d := d) (e := e) hb hw k2 hes (p_d P w) (1600 * b + f) [] [] t S hW hbk k4 (by omega) he he5 (fun j c z => by rw [Nat.add_assoc]; exact k5 j c z) hT trivial (Nat.zero_le _) (fun i v z => by cases z)
    exact ⟨S', E.trans a1, a2⟩
end MB
