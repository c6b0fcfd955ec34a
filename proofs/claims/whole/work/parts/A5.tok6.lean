/-! THE TEXT: the reference's tokens. -/
section GF
variable {d : Nat} {T : List Nat}
theorem l_shl8 (a : Nat) : lN a <<< (((8 : Int32)).toInt64 &&& 63) = lN (a * 256) := by
  apply Int64.toBitVec_inj.1
  rw [Int64.toBitVec_shiftLeft, show ((8 : Int32).toInt64 &&& 63).toBitVec.smod 64 = BitVec.ofNat 64 8 by decide]
  show BitVec.ofNat 64 a <<< BitVec.ofNat 64 8 = BitVec.ofNat 64 (a * 256)
  apply BitVec.eq_of_toNat_eq
  rw [BitVec.shiftLeft_eq', BitVec.toNat_shiftLeft, BitVec.toNat_ofNat, BitVec.toNat_ofNat, BitVec.toNat_ofNat, Nat.mod_eq_of_lt (show 8 < 2 ^ 64 by decide), Nat.shiftLeft_eq, Nat.mul_mod, Nat.mod_mod, ← Nat.mul_mod]
theorem l_add8 {a c : Nat} (hc : c < 256) : (lN a <<< (((8 : Int32)).toInt64 &&& 63)) ||| (nI c).toInt64 = lN (a * 256 + c) := by
  rw [l_shl8, nI_l (by omega), Nat.mul_comm]
  exact fb_or_sumL (k := 8) a hc
theorem m160 {S : z_S} {c : Nat} (hW : z_W S) (hc : c < 256) : fI (d + 1) 160 [.int (nI c)] S = some (bI (g_l c), S) := by
  have e := e160 d (nI c) S hW
  rw [b160_16_eq d S hW] at e
  unfold g_l
  by_cases c1 : 97 ≤ c
  · by_cases c2 : c ≤ 122
    · simp (disch := omega) only [ni_lit, nI_add, pk_mul, pk_sub, pk_div, nI_leI, nI_ltI, nI_eq, nI_clamp, ni_in, ni_inm, ni_ltm, ni_mlt, ni_lem, ni_mle, ni_eqm, ni_meq, ni_mm, ni_mmle, ni_bit, ni_shl, ni_clr, fa_or, Nat.add_zero, Nat.zero_add, Nat.zero_mul, Nat.mul_zero, eOn, eOs, if_true, if_false, not_true_eq_false, not_false_eq_true, ite_true, ite_false, true_and, and_true, false_and, and_false, or_true, true_or, or_false, false_or, Bool.false_eq_true, reduceIte, Bool.not_true, Bool.not_false, and_self, or_self, q_ef, q_et, q_ltt, q_ltf, q_let, q_lef, gIs, gIl, gIr, gLs, gLl, gLr, gPs, gPl, gPr, gLc, gPc, zb_some, Option.bind_some, q_nm, q_pm, q_hm, q_tm, q_sm, q_wm, q_ym, q_lm, q_ua] at e
      rw [decide_eq_true c1, decide_eq_true c2]; exact e
    · simp (disch := omega) only [ni_lit, nI_add, pk_mul, pk_sub, pk_div, nI_leI, nI_ltI, nI_eq, nI_clamp, ni_in, ni_inm, ni_ltm, ni_mlt, ni_lem, ni_mle, ni_eqm, ni_meq, ni_mm, ni_mmle, ni_bit, ni_shl, ni_clr, fa_or, Nat.add_zero, Nat.zero_add, Nat.zero_mul, Nat.mul_zero, eOn, eOs, if_true, if_false, not_true_eq_false, not_false_eq_true, ite_true, ite_false, true_and, and_true, false_and, and_false, or_true, true_or, or_false, false_or, Bool.false_eq_true, reduceIte, Bool.not_true, Bool.not_false, and_self, or_self, q_ef, q_et, q_ltt, q_ltf, q_let, q_lef, gIs, gIl, gIr, gLs, gLl, gLr, gPs, gPl, gPr, gLc, gPc, zb_some, Option.bind_some, q_nm, q_pm, q_hm, q_tm, q_sm, q_wm, q_ym, q_lm, q_ua] at e
      rw [decide_eq_false c2, Bool.and_false]; exact e
  · simp (disch := omega) only [ni_lit, nI_add, pk_mul, pk_sub, pk_div, nI_leI, nI_ltI, nI_eq, nI_clamp, ni_in, ni_inm, ni_ltm, ni_mlt, ni_lem, ni_mle, ni_eqm, ni_meq, ni_mm, ni_mmle, ni_bit, ni_shl, ni_clr, fa_or, Nat.add_zero, Nat.zero_add, Nat.zero_mul, Nat.mul_zero, eOn, eOs, if_true, if_false, not_true_eq_false, not_false_eq_true, ite_true, ite_false, true_and, and_true, false_and, and_false, or_true, true_or, or_false, false_or, Bool.false_eq_true, reduceIte, Bool.not_true, Bool.not_false, and_self, or_self, q_ef, q_et, q_ltt, q_ltf, q_let, q_lef, gIs, gIl, gIr, gLs, gLl, gLr, gPs, gPl, gPr, gLc, gPc, zb_some, Option.bind_some, q_nm, q_pm, q_hm, q_tm, q_sm, q_wm, q_ym, q_lm, q_ua] at e
    rw [decide_eq_false c1, Bool.false_and]; exact e
theorem m161 {S : z_S} {c : Nat} (hW : z_W S) (hc : c < 256) : fI (d + 1) 161 [.int (nI c)] S = some (bI (g_d c), S) := by
  have e := e161 d (nI c) S hW
  rw [b161_16_eq d S hW] at e
  unfold g_d
  by_cases c1 : 48 ≤ c
  · by_cases c2 : c ≤ 57
    · simp (disch := omega) only [ni_lit, nI_add, pk_mul, pk_sub, pk_div, nI_leI, nI_ltI, nI_eq, nI_clamp, ni_in, ni_inm, ni_ltm, ni_mlt, ni_lem, ni_mle, ni_eqm, ni_meq, ni_mm, ni_mmle, ni_bit, ni_shl, ni_clr, fa_or, Nat.add_zero, Nat.zero_add, Nat.zero_mul, Nat.mul_zero, eOn, eOs, if_true, if_false, not_true_eq_false, not_false_eq_true, ite_true, ite_false, true_and, and_true, false_and, and_false, or_true, true_or, or_false, false_or, Bool.false_eq_true, reduceIte, Bool.not_true, Bool.not_false, and_self, or_self, q_ef, q_et, q_ltt, q_ltf, q_let, q_lef, gIs, gIl, gIr, gLs, gLl, gLr, gPs, gPl, gPr, gLc, gPc, zb_some, Option.bind_some, q_nm, q_pm, q_hm, q_tm, q_sm, q_wm, q_ym, q_lm, q_ua] at e
      rw [decide_eq_true c1, decide_eq_true c2]; exact e
    · simp (disch := omega) only [ni_lit, nI_add, pk_mul, pk_sub, pk_div, nI_leI, nI_ltI, nI_eq, nI_clamp, ni_in, ni_inm, ni_ltm, ni_mlt, ni_lem, ni_mle, ni_eqm, ni_meq, ni_mm, ni_mmle, ni_bit, ni_shl, ni_clr, fa_or, Nat.add_zero, Nat.zero_add, Nat.zero_mul, Nat.mul_zero, eOn, eOs, if_true, if_false, not_true_eq_false, not_false_eq_true, ite_true, ite_false, true_and, and_true, false_and, and_false, or_true, true_or, or_false, false_or, Bool.false_eq_true, reduceIte, Bool.not_true, Bool.not_false, and_self, or_self, q_ef, q_et, q_ltt, q_ltf, q_let, q_lef, gIs, gIl, gIr, gLs, gLl, gLr, gPs, gPl, gPr, gLc, gPc, zb_some, Option.bind_some, q_nm, q_pm, q_hm, q_tm, q_sm, q_wm, q_ym, q_lm, q_ua] at e
      rw [decide_eq_false c2, Bool.and_false]; exact e
  · simp (disch := omega) only [ni_lit, nI_add, pk_mul, pk_sub, pk_div, nI_leI, nI_ltI, nI_eq, nI_clamp, ni_in, ni_inm, ni_ltm, ni_mlt, ni_lem, ni_mle, ni_eqm, ni_meq, ni_mm, ni_mmle, ni_bit, ni_shl, ni_clr, fa_or, Nat.add_zero, Nat.zero_add, Nat.zero_mul, Nat.mul_zero, eOn, eOs, if_true, if_false, not_true_eq_false, not_false_eq_true, ite_true, ite_false, true_and, and_true, false_and, and_false, or_true, true_or, or_false, false_or, Bool.false_eq_true, reduceIte, Bool.not_true, Bool.not_false, and_self, or_self, q_ef, q_et, q_ltt, q_ltf, q_let, q_lef, gIs, gIl, gIr, gLs, gLl, gLr, gPs, gPl, gPr, gLc, gPc, zb_some, Option.bind_some, q_nm, q_pm, q_hm, q_tm, q_sm, q_wm, q_ym, q_lm, q_ua] at e
    rw [decide_eq_false c1, Bool.false_and]; exact e
def mTx (S : z_S) (T : List Nat) : Prop := z_W S ∧ gI S 396 2 = nI T.length ∧ T.length ≤ 1600 ∧ ∀ i, i < T.length → gI S 397 i = nI (g_t T i) ∧ g_t T i < 256
def tDm : Nat → Nat → Prop := fun c k => c = 396 ∧ (3 ≤ k ∧ k ≤ 7 ∨ k = 12)
theorem mTx.on {S S' : z_S} {D : Nat → Nat → Prop} (h : mTx S T) (ho : onM D S S') (hd : ∀ c k, D c k → ¬ (c = 396 ∧ k = 2) ∧ c ≠ 397) : mTx S' T := by
  obtain ⟨h1, h2, h3, h4⟩ := h
  refine ⟨ho.W, by rw [ho.I (fun z => (hd _ _ z).1 ⟨rfl, rfl⟩)]; exact h2, h3, fun i hi => ⟨by rw [ho.I (fun z => (hd _ _ z).2 rfl)]; exact (h4 i hi).1, (h4 i hi).2⟩⟩
theorem mTx.at {S : z_S} (h : mTx S T) {i : Nat} (hi : i < T.length) : z_in (nI i) 1800 ∧ gI S 397 (nI i).toNatClampNeg = nI (g_t T i) := by
  have h3 := h.2.2.1
  rw [nI_clamp (by omega)]
  exact ⟨(ni_in (by omega)).mpr (by omega), (h.2.2.2 i hi).1⟩
/-- the sign's kind in the reference, where it is faulty too -/
def g_km (T : List Nat) (p : Nat) : Nat := if g_kd T p = 4 then (if g_l (g_t T (g_st T p)) then 1 else 2) else g_kd T p
def mTk (S : z_S) (T : List Nat) (p : Nat) : Prop := mTx S T ∧ p ≤ T.length ∧ gI S 396 3 = nI (g_km T p) ∧ gI S 396 4 = nI (g_st T p) ∧ gI S 396 5 = nI (g_en T p) ∧ gI S 396 12 = eO (if g_kd T p = 4 then some (g_ft T p) else none) ∧ (g_kd T p = 2 ∨ g_kd T p = 3 → gI S 396 6 = nI (g_vl T p)) ∧ (g_kd T p = 1 → gL S 396 7 = lN (q_nw (g_wl T p)))
theorem mTk.on {S S' : z_S} {D : Nat → Nat → Prop} {p : Nat} (h : mTk S T p) (ho : onM D S S') (hd : ∀ c k, D c k → ¬ (c = 396 ∧ (2 ≤ k ∧ k ≤ 7 ∨ k = 12)) ∧ c ≠ 397) : mTk S' T p := by
  obtain ⟨h1, h2, h3, h4, h5, h6, h7, h8⟩ := h
  have g : ∀ k, (2 ≤ k ∧ k ≤ 7 ∨ k = 12) → gI S' 396 k = gI S 396 k := fun k hk => ho.I fun z => (hd _ _ z).1 ⟨rfl, hk⟩
  have gl : gL S' 396 7 = gL S 396 7 := ho.L fun z => (hd _ _ z).1 ⟨rfl, by omega⟩
  refine ⟨h1.on ho fun c k z => ⟨fun w => (hd c k z).1 ⟨w.1, by omega⟩, (hd c k z).2⟩, h2, ?_⟩
  rw [g 3 (by omega), g 4 (by omega), g 5 (by omega), g 12 (by omega), g 6 (by omega), gl]
  exact ⟨h3, h4, h5, h6, h7, h8⟩
theorem m163_5 {p : Nat} : ∀ (m i : Nat) (S : z_S), i + m = T.length → mTx S T → g_st T p = g_rn g_w T i → b163_5 d (nI i) S = b163_41 d (nI (g_st T p)) S
  | 0, i, S, hi, h, hs => by
    have e := b163_5_eq d (nI i) S h.1
    have h1600 := h.2.2.1
    rw [h.2.1, if_pos (nI_le (by omega) (by omega))] at e
    rw [g_rn_e (p := i) (by omega)] at hs
    rw [hs]; exact e
  | m + 1, i, S, hi, h, hs => by
    have e := b163_5_eq d (nI i) S h.1
    have h1600 := h.2.2.1
    have c1 : i < T.length := by omega
    obtain ⟨z1, z2⟩ := h.at c1
    have hb := (h.2.2.2 i c1).2
    rw [h.2.1, if_neg (nI_ge c1 (by omega)), if_pos z1, z2, if_pos z1] at e
    have nx : b163_35 d (nI i) S = b163_5 d (nI (i + 1)) S := by rw [b163_35_eq d (nI i) S h.1, nI_1]
    by_cases cw : g_w (g_t T i) = true
    · have hw := g_w_i.mp cw
      rw [g_rn_y c1 cw] at hs
      have ih := m163_5 (p := p) m (i + 1) S (by omega) h hs
      rw [e]
      by_cases c32 : g_t T i = 32
      · rw [c32, if_pos (show nI 32 = (32 : Int32) from rfl), nx]; exact ih
      · have c10 : g_t T i = 10 := by omega
        rw [c10, if_neg (show ¬ nI 10 = (32 : Int32) by decide), if_neg (show ¬ ¬ nI 10 = (10 : Int32) from fun z => z rfl), nx]; exact ih
    · have cw' : g_w (g_t T i) = false := by simpa using cw
      have hw : ¬ (g_t T i = 32 ∨ g_t T i = 10) := fun z => cw (g_w_i.mpr z)
      rw [g_rn_n c1 cw'] at hs
      rw [if_neg (show ¬ nI (g_t T i) = (32 : Int32) from fun z => by have := (nI_eq (b := 32) (by omega) (by omega)).mp z; omega), if_pos (show ¬ nI (g_t T i) = (10 : Int32) from fun z => by have := (nI_eq (b := 10) (by omega) (by omega)).mp z; omega)] at e
      rw [hs]; exact e
/-- where the sign is faulty, j bytes behind its begin; n are right -/
def g_lx (T : List Nat) (s n j : Nat) : Option Nat := if g_ad T s then some s else if n < j then some (s + n) else none
theorem m163_w {s : Nat} : ∀ (m j : Nat) (S : z_S), s + j + m = T.length → mTx S T → (∀ i, i < j → g_l (g_t T (s + i)) = true) → gL S 396 7 = lN (q_nw (g_ls T s (min j 6))) → gI S 396 12 = eO (g_lx T s 6 j) → g_rn g_l T s = g_rn g_l T (s + j) → ∃ S', b163_204 (d + 1) (nI (s + j)) (1 : Int32) (0 : Int32) (6 : Int32) (nI j) S = some S' ∧ onM tDm S S' ∧ gI S' 396 3 = gI S 396 3 ∧ gI S' 396 4 = gI S 396 4 ∧ gI S' 396 5 = nI (g_rn g_l T s) ∧ gL S' 396 7 = lN (q_nw (g_ls T s (min (g_rn g_l T s - s) 6))) ∧ gI S' 396 12 = eO (g_lx T s 6 (g_rn g_l T s - s))
  | m, j, S, hj, h, hl, h7, h12, he => by
    have h1600 := h.2.2.1
    have e := b163_204_eq (d + 1) (nI (s + j)) (1 : Int32) (0 : Int32) (6 : Int32) (nI j) S h.1
    have fin : g_rn g_l T s = s + j → ∃ S', some (sI S 396 5 (nI (s + j))) = some S' ∧ onM tDm S S' ∧ gI S' 396 3 = gI S 396 3 ∧ gI S' 396 4 = gI S 396 4 ∧ gI S' 396 5 = nI (g_rn g_l T s) ∧ gL S' 396 7 = lN (q_nw (g_ls T s (min (g_rn g_l T s - s) 6))) ∧ gI S' 396 12 = eO (g_lx T s 6 (g_rn g_l T s - s)) := fun z => by
      rw [z, show s + j - s = j by omega]
      refine ⟨_, rfl, onM_sI (D := tDm) (c := 396) (k := 5) (onM.refl h.1) ⟨rfl, by omega⟩, ?_, ?_, ?_, ?_, ?_⟩
      · simp (disch := omega) only [ni_lit, nI_add, pk_mul, pk_sub, pk_div, nI_leI, nI_ltI, nI_eq, nI_clamp, ni_in, ni_inm, ni_ltm, ni_mlt, ni_lem, ni_mle, ni_eqm, ni_meq, ni_mm, ni_mmle, ni_bit, ni_shl, ni_clr, fa_or, Nat.add_zero, Nat.zero_add, Nat.zero_mul, Nat.mul_zero, eOn, eOs, if_true, if_false, not_true_eq_false, not_false_eq_true, ite_true, ite_false, true_and, and_true, false_and, and_false, or_true, true_or, or_false, false_or, Bool.false_eq_true, reduceIte, Bool.not_true, Bool.not_false, and_self, or_self, q_ef, q_et, q_ltt, q_ltf, q_let, q_lef, gIs, gIl, gIr, gLs, gLl, gLr, gPs, gPl, gPr, gLc, gPc, zb_some, Option.bind_some, q_nm, q_pm, q_hm, q_tm, q_sm, q_wm, q_ym, q_lm, q_ua]
      · simp (disch := omega) only [ni_lit, nI_add, pk_mul, pk_sub, pk_div, nI_leI, nI_ltI, nI_eq, nI_clamp, ni_in, ni_inm, ni_ltm, ni_mlt, ni_lem, ni_mle, ni_eqm, ni_meq, ni_mm, ni_mmle, ni_bit, ni_shl, ni_clr, fa_or, Nat.add_zero, Nat.zero_add, Nat.zero_mul, Nat.mul_zero, eOn, eOs, if_true, if_false, not_true_eq_false, not_false_eq_true, ite_true, ite_false, true_and, and_true, false_and, and_false, or_true, true_or, or_false, false_or, Bool.false_eq_true, reduceIte, Bool.not_true, Bool.not_false, and_self, or_self, q_ef, q_et, q_ltt, q_ltf, q_let, q_lef, gIs, gIl, gIr, gLs, gLl, gLr, gPs, gPl, gPr, gLc, gPc, zb_some, Option.bind_some, q_nm, q_pm, q_hm, q_tm, q_sm, q_wm, q_ym, q_lm, q_ua]
      · simp (disch := omega) only [ni_lit, nI_add, pk_mul, pk_sub, pk_div, nI_leI, nI_ltI, nI_eq, nI_clamp, ni_in, ni_inm, ni_ltm, ni_mlt, ni_lem, ni_mle, ni_eqm, ni_meq, ni_mm, ni_mmle, ni_bit, ni_shl, ni_clr, fa_or, Nat.add_zero, Nat.zero_add, Nat.zero_mul, Nat.mul_zero, eOn, eOs, if_true, if_false, not_true_eq_false, not_false_eq_true, ite_true, ite_false, true_and, and_true, false_and, and_false, or_true, true_or, or_false, false_or, Bool.false_eq_true, reduceIte, Bool.not_true, Bool.not_false, and_self, or_self, q_ef, q_et, q_ltt, q_ltf, q_let, q_lef, gIs, gIl, gIr, gLs, gLl, gLr, gPs, gPl, gPr, gLc, gPc, zb_some, Option.bind_some, q_nm, q_pm, q_hm, q_tm, q_sm, q_wm, q_ym, q_lm, q_ua]
      · rw [gLs]; exact h7
      · rw [← h12]; simp (disch := omega) only [ni_lit, nI_add, pk_mul, pk_sub, pk_div, nI_leI, nI_ltI, nI_eq, nI_clamp, ni_in, ni_inm, ni_ltm, ni_mlt, ni_lem, ni_mle, ni_eqm, ni_meq, ni_mm, ni_mmle, ni_bit, ni_shl, ni_clr, fa_or, Nat.add_zero, Nat.zero_add, Nat.zero_mul, Nat.mul_zero, eOn, eOs, if_true, if_false, not_true_eq_false, not_false_eq_true, ite_true, ite_false, true_and, and_true, false_and, and_false, or_true, true_or, or_false, false_or, Bool.false_eq_true, reduceIte, Bool.not_true, Bool.not_false, and_self, or_self, q_ef, q_et, q_ltt, q_ltf, q_let, q_lef, gIs, gIl, gIr, gLs, gLl, gLr, gPs, gPl, gPr, gLc, gPc, zb_some, Option.bind_some, q_nm, q_pm, q_hm, q_tm, q_sm, q_wm, q_ym, q_lm, q_ua]
    by_cases c1 : s + j < T.length
    · obtain ⟨z1, z2⟩ := h.at c1
      have hb := (h.2.2.2 _ c1).2
      rw [h.2.1, if_neg (nI_ge c1 (by omega)), if_neg (show ¬ (1 : Int32) = 0 by decide), if_pos z1, z2, m160 h.1 hb, zb_some] at e
      cases c2 : g_l (g_t T (s + j)) with
      | false =>
        rw [c2, if_pos (by decide)] at e
        rw [e]
        exact fin (by rw [he, g_rn_n c1 c2])
      | true =>
        rw [c2, if_neg (by decide)] at e
        rw [g_rn_y c1 c2] at he
        match m with
        | 0 => omega
        | m + 1 =>
          have hc := g_l_i.mp c2
          have e2 := b163_243_eq (d + 1) (nI (s + j)) (1 : Int32) (0 : Int32) (6 : Int32) (nI j) S h.1
          have g3 : ∀ S1, z_W S1 → b163_293 (d + 1) (nI (s + j)) (1 : Int32) (0 : Int32) (6 : Int32) (nI j) S1 = b163_204 (d + 1) (nI (s + (j + 1))) (1 : Int32) (0 : Int32) (6 : Int32) (nI (j + 1)) S1 := fun S1 w => by
            rw [b163_293_eq (d + 1) (nI (s + j)) (1 : Int32) (0 : Int32) (6 : Int32) (nI j) S1 w, if_pos (show (0 : Int32) = 0 from rfl), ite_self, b163_325_eq (d + 1) (nI (s + j)) (1 : Int32) (0 : Int32) (6 : Int32) (nI j) S1 w, nI_1, nI_1, Nat.add_assoc]
          have go : ∀ S1, onM tDm S S1 → gI S1 396 3 = gI S 396 3 → gI S1 396 4 = gI S 396 4 → gL S1 396 7 = gL S 396 7 → gI S1 396 12 = eO (g_lx T s 6 (j + 1)) → ∃ S', b163_263 (d + 1) (nI (s + j)) (1 : Int32) (0 : Int32) (6 : Int32) (nI j) S1 = some S' ∧ onM tDm S S' ∧ gI S' 396 3 = gI S 396 3 ∧ gI S' 396 4 = gI S 396 4 ∧ gI S' 396 5 = nI (g_rn g_l T s) ∧ gL S' 396 7 = lN (q_nw (g_ls T s (min (g_rn g_l T s - s) 6))) ∧ gI S' 396 12 = eO (g_lx T s 6 (g_rn g_l T s - s)) := fun S1 o1 k3 k4 k7 k12 => by
            have hx1 : mTx S1 T := h.on o1 fun c k z => by unfold tDm at z; omega
            have e3 := b163_263_eq (d + 1) (nI (s + j)) (1 : Int32) (0 : Int32) (6 : Int32) (nI j) S1 o1.W
            by_cases c6 : j < 6
            · rw [if_neg (show ¬ (6 : Int32) ≤ nI j from nI_ge (a := j) (b := 6) c6 (by omega)), if_neg (show ¬ (1 : Int32) = 0 by decide), if_pos z1, (hx1.at c1).2, k7, h7, l_add8 hb] at e3
              have ev : q_nw (g_ls T s (min j 6)) * 256 + g_t T (s + j) = q_nw (g_ls T s (min (j + 1) 6)) := by
                rw [Nat.min_eq_left (by omega), Nat.min_eq_left (by omega), g_ls_s, q_nw_s]
                omega
              rw [ev] at e3
              have W2 : z_W (sL S1 396 7 (lN (q_nw (g_ls T s (min (j + 1) 6))))) := o1.W
              rw [g3 _ W2] at e3
              have o2 : onM tDm S1 (sL S1 396 7 (lN (q_nw (g_ls T s (min (j + 1) 6))))) := onM_sL (D := tDm) (c := 396) (k := 7) (onM.refl o1.W) ⟨rfl, by omega⟩
              have u3 : ∀ k, gI (sL S1 396 7 (lN (q_nw (g_ls T s (min (j + 1) 6))))) 396 k = gI S1 396 k := fun k => gIl _ _ _ _ _ _
              have u7 : gL (sL S1 396 7 (lN (q_nw (g_ls T s (min (j + 1) 6))))) 396 7 = lN (q_nw (g_ls T s (min (j + 1) 6))) := by rw [gLl, if_pos rfl, if_pos rfl]
              generalize hS2 : sL S1 396 7 (lN (q_nw (g_ls T s (min (j + 1) 6)))) = S2 at *
              obtain ⟨S', q1, q2, q3, q4, q5, q6, q7⟩ := m163_w m (j + 1) S2 (by omega) (hx1.on o2 fun c k z => by unfold tDm at z; omega) (fun i hi => by
                by_cases w : i = j
                · rw [w]; exact c2
                · exact hl i (by omega)) u7 (by rw [u3]; exact k12) he
              exact ⟨S', e3.trans q1, (o1.trans o2).trans q2, by rw [q3, u3, k3], by rw [q4, u3, k4], q5, q6, q7⟩
            · rw [if_pos (show (6 : Int32) ≤ nI j from nI_le (a := 6) (by omega) (by omega)), g3 _ o1.W] at e3
              obtain ⟨S', q1, q2, q3, q4, q5, q6, q7⟩ := m163_w m (j + 1) S1 (by omega) hx1 (fun i hi => by
                by_cases w : i = j
                · rw [w]; exact c2
                · exact hl i (by omega)) (by rw [k7, h7, Nat.min_eq_right (by omega), Nat.min_eq_right (by omega)]) k12 he
              exact ⟨S', e3.trans q1, o1.trans q2, by rw [q3, k3], by rw [q4, k4], q5, q6, q7⟩
          by_cases c6 : j = 6
          · rw [c6, if_neg (show ¬ ¬ nI 6 = (6 : Int32) from fun z => z rfl)] at e2
            rw [← c6] at e2
            cases ha : g_ad T s with
            | true =>
              have hl6 : gI S 396 12 = nI s := by rw [h12]; unfold g_lx; rw [ha, if_pos rfl]; rfl
              rw [hl6, if_pos (show ¬ nI s = (-1 : Int32) from fun z => (ni_eqm (a := s) (by omega)).mp z)] at e2
              obtain ⟨S', q1, q2⟩ := go S (onM.refl h.1) rfl rfl rfl (by rw [hl6]; unfold g_lx; rw [ha, if_pos rfl]; rfl)
              exact ⟨S', (e.trans e2).trans q1, q2⟩
            | false =>
              have hl6 : gI S 396 12 = -nI 1 := by rw [h12, c6]; unfold g_lx; rw [ha, if_neg (by decide), if_neg (by omega)]; rfl
              rw [hl6, if_neg (show ¬ ¬ -nI 1 = (-1 : Int32) from fun z => z rfl)] at e2
              obtain ⟨S', q1, q2⟩ := go (sI S 396 12 (nI (s + j))) (onM_sI (D := tDm) (c := 396) (k := 12) (onM.refl h.1) ⟨rfl, by omega⟩) (by simp (disch := omega) only [ni_lit, nI_add, pk_mul, pk_sub, pk_div, nI_leI, nI_ltI, nI_eq, nI_clamp, ni_in, ni_inm, ni_ltm, ni_mlt, ni_lem, ni_mle, ni_eqm, ni_meq, ni_mm, ni_mmle, ni_bit, ni_shl, ni_clr, fa_or, Nat.add_zero, Nat.zero_add, Nat.zero_mul, Nat.mul_zero, eOn, eOs, if_true, if_false, not_true_eq_false, not_false_eq_true, ite_true, ite_false, true_and, and_true, false_and, and_false, or_true, true_or, or_false, false_or, Bool.false_eq_true, reduceIte, Bool.not_true, Bool.not_false, and_self, or_self, q_ef, q_et, q_ltt, q_ltf, q_let, q_lef, gIs, gIl, gIr, gLs, gLl, gLr, gPs, gPl, gPr, gLc, gPc, zb_some, Option.bind_some, q_nm, q_pm, q_hm, q_tm, q_sm, q_wm, q_ym, q_lm, q_ua]) (by simp (disch := omega) only [ni_lit, nI_add, pk_mul, pk_sub, pk_div, nI_leI, nI_ltI, nI_eq, nI_clamp, ni_in, ni_inm, ni_ltm, ni_mlt, ni_lem, ni_mle, ni_eqm, ni_meq, ni_mm, ni_mmle, ni_bit, ni_shl, ni_clr, fa_or, Nat.add_zero, Nat.zero_add, Nat.zero_mul, Nat.mul_zero, eOn, eOs, if_true, if_false, not_true_eq_false, not_false_eq_true, ite_true, ite_false, true_and, and_true, false_and, and_false, or_true, true_or, or_false, false_or, Bool.false_eq_true, reduceIte, Bool.not_true, Bool.not_false, and_self, or_self, q_ef, q_et, q_ltt, q_ltf, q_let, q_lef, gIs, gIl, gIr, gLs, gLl, gLr, gPs, gPl, gPr, gLc, gPc, zb_some, Option.bind_some, q_nm, q_pm, q_hm, q_tm, q_sm, q_wm, q_ym, q_lm, q_ua]) (gLs _ _ _ _ _ _) (by
                unfold g_lx
                rw [ha, if_neg (by decide), if_pos (by omega), c6]
                simp (disch := omega) only [ni_lit, nI_add, pk_mul, pk_sub, pk_div, nI_leI, nI_ltI, nI_eq, nI_clamp, ni_in, ni_inm, ni_ltm, ni_mlt, ni_lem, ni_mle, ni_eqm, ni_meq, ni_mm, ni_mmle, ni_bit, ni_shl, ni_clr, fa_or, Nat.add_zero, Nat.zero_add, Nat.zero_mul, Nat.mul_zero, eOn, eOs, if_true, if_false, not_true_eq_false, not_false_eq_true, ite_true, ite_false, true_and, and_true, false_and, and_false, or_true, true_or, or_false, false_or, Bool.false_eq_true, reduceIte, Bool.not_true, Bool.not_false, and_self, or_self, q_ef, q_et, q_ltt, q_ltf, q_let, q_lef, gIs, gIl, gIr, gLs, gLl, gLr, gPs, gPl, gPr, gLc, gPc, zb_some, Option.bind_some, q_nm, q_pm, q_hm, q_tm, q_sm, q_wm, q_ym, q_lm, q_ua])
              exact ⟨S', (e.trans e2).trans q1, q2⟩
          · rw [if_pos (show ¬ nI j = (6 : Int32) from fun z => c6 ((nI_eq (b := 6) (by omega) (by omega)).mp z))] at e2
            obtain ⟨S', q1, q2⟩ := go S (onM.refl h.1) rfl rfl rfl (by
              rw [h12]
              unfold g_lx
              by_cases w : 6 < j
              · rw [if_pos w, if_pos (show 6 < j + 1 by omega)]
              · rw [if_neg w, if_neg (show ¬ 6 < j + 1 by omega)])
            exact ⟨S', (e.trans e2).trans q1, q2⟩
    · rw [h.2.1, if_pos (nI_le (by omega) (by omega))] at e
      rw [e]
      exact fin (by rw [he, g_rn_e (by omega)])
end GF
