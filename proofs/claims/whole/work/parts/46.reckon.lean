/-! THE RECKONER reckons a formula. -/
theorem zP6a : ∀ q, q < 442 → z_K q = 6 → q = 2 ∨ q = 10 := by decide +kernel
theorem zP6 {q : Nat} (h : z_K q = 6) : q = 2 ∨ q = 10 := zP6a q (z_K_lt (by omega)) h
theorem zP8a : ∀ q, q < 442 → z_K q = 8 → 27 ≤ q ∧ q + 4 < 387 ∧ (q + 4 < 182 ∨ 187 ≤ q) := by decide +kernel
theorem zP8 {q : Nat} (h : z_K q = 8) : 27 ≤ q ∧ q + 4 < 387 ∧ (q + 4 < 182 ∨ 187 ≤ q) := zP8a q (z_K_lt (by omega)) h
theorem ni_of (n : Nat) : Int32.ofNat n = nI n := Eq.trans (Eq.refl _) (Eq.refl _)
theorem q_fl_bd {a b : Int} (ha : iS a) : -1000001 ≤ q_fl a b ∧ q_fl a b ≤ 1000000 := by
  have h := iS_tdiv (b := b) ha
  unfold iS at h
  unfold q_fl
  (repeat' split) <;> omega
theorem q_md_bd {a b : Int} (ha : iS a) (hb : iS b) : -2000000 ≤ q_md a b ∧ q_md a b ≤ 2000000 := by
  have h := iS_tmod (b := b) ha
  unfold iS at h hb
  unfold q_md q_fl
  by_cases h0 : b = 0
  · rw [if_pos h0]; omega
  · rw [if_neg h0, if_neg h0]
    split
    · rw [Int.mul_sub, Int.mul_comm b (a.tdiv b), Int.mul_one]; omega
    · rw [Int.mul_comm b (a.tdiv b)]; omega
theorem q_rw_bd {a b : Int} (ha : iS a) (hb : iS b) (j : Nat) : -1000000000000 ≤ q_rw j a b ∧ q_rw j a b ≤ 1000000000000 := by
  have h1 := iS_mul ha hb
  have h2 := q_fl_bd (b := b) ha
  have h3 := q_md_bd ha hb
  unfold iS at ha hb
  unfold q_rw
  (repeat' split) <;> omega
section QK
variable {d : Nat} {S : z_S}
theorem c69b {n : Nat} (hW : z_W S) (h1 : 10006 ≤ n) (h2 : n ≤ 10017) : fI (d + 1) 69 [.int (q_en n)] S = some (nI 2, S) := by
  rw [e69 d (q_en n) S hW]
  have h4 : n = 10006 ∨ n = 10007 ∨ n = 10008 ∨ n = 10009 ∨ n = 10010 ∨ n = 10011 ∨ n = 10012 ∨ n = 10013 ∨ n = 10014 ∨ n = 10015 ∨ n = 10016 ∨ n = 10017 := by omega
  rcases h4 with q | q | q | q | q | q | q | q | q | q | q | q <;> subst q <;> rw [if_pos (by decide), if_pos (by decide), if_pos (by decide)] <;> rfl
theorem c69n (hW : z_W S) : fI (d + 1) 69 [.int (q_en 10018)] S = some (nI 1, S) := by
  rw [e69 d (q_en 10018) S hW, if_pos (by decide), if_neg (by decide)]; rfl
theorem c69i (hW : z_W S) : fI (d + 1) 69 [.int (q_en 10019)] S = some (nI 3, S) := by
  rw [e69 d (q_en 10019) S hW, if_pos (by decide), if_pos (by decide), if_neg (by decide)]; rfl
theorem c71 {n k : Nat} {a b : Int} (hW : z_W S) (h1 : 10006 ≤ n) (h2 : n ≤ 10017) (ha : iS a) (hb : iS b) (h3 : 10016 ≤ n → (a = 0 ∨ a = 1) ∧ (b = 0 ∨ b = 1)) (hk : k < 60) (ga : gI S 24 k = iI a) (gb : gI S 24 (k + 1) = iI b) : fL (d + 2) 71 [.ref 23, .int (q_en n), .int (nI k)] S = some (iL (q_rw (n - 10000) a b), S) := by
  have e := e71 (d + 1) (q_en n) (nI k) S hW
  simp (disch := omega) only [ni_lit, nI_add, pk_mul, pk_sub, pk_div, nI_leI, nI_ltI, nI_eq, nI_clamp, ni_in, ni_inm, ni_ltm, ni_mlt, ni_lem, ni_mle, ni_eqm, ni_meq, ni_mm, ni_mmle, ni_bit, ni_shl, ni_clr, fa_or, Nat.add_zero, Nat.zero_add, Nat.zero_mul, Nat.mul_zero, eOn, eOs, if_true, if_false, not_true_eq_false, not_false_eq_true, ite_true, ite_false, true_and, and_true, false_and, and_false, or_true, true_or, or_false, false_or, Bool.false_eq_true, reduceIte, Bool.not_true, Bool.not_false, and_self, or_self, q_ef, q_et, q_ltt, q_ltf, q_let, q_lef, gIs, gIl, gIr, gLs, gLl, gLr, gPs, gPl, gPr, gLc, gPc, zb_some, Option.bind_some, q_nm, q_pm, q_hm, q_tm, q_sm, q_wm, q_ym, q_lm, q_ua, ni_of, ga, gb] at e
  unfold iS at ha hb
  rw [iI_l (by omega) (by omega), iI_l (by omega) (by omega)] at e
  rw [e]
  exact c71b hW h1 h2 ha hb h3
theorem c71n {k : Nat} {a : Int} (hW : z_W S) (ha : iS a) (hk : k < 60) (ga : gI S 24 k = iI a) : fL (d + 2) 71 [.ref 23, .int (q_en 10018), .int (nI k)] S = some (iL (1 - a), S) := by
  have e := e71 (d + 1) (q_en 10018) (nI k) S hW
  simp (disch := omega) only [ni_lit, nI_add, pk_mul, pk_sub, pk_div, nI_leI, nI_ltI, nI_eq, nI_clamp, ni_in, ni_inm, ni_ltm, ni_mlt, ni_lem, ni_mle, ni_eqm, ni_meq, ni_mm, ni_mmle, ni_bit, ni_shl, ni_clr, fa_or, Nat.add_zero, Nat.zero_add, Nat.zero_mul, Nat.mul_zero, eOn, eOs, if_true, if_false, not_true_eq_false, not_false_eq_true, ite_true, ite_false, true_and, and_true, false_and, and_false, or_true, true_or, or_false, false_or, Bool.false_eq_true, reduceIte, Bool.not_true, Bool.not_false, and_self, or_self, q_ef, q_et, q_ltt, q_ltf, q_let, q_lef, gIs, gIl, gIr, gLs, gLl, gLr, gPs, gPl, gPr, gLc, gPc, zb_some, Option.bind_some, q_nm, q_pm, q_hm, q_tm, q_sm, q_wm, q_ym, q_lm, q_ua, ni_of, ga] at e
  unfold iS at ha
  rw [iI_l (by omega) (by omega), b71_32_eq (d + 1) _ _ _ _ S hW, if_pos (by decide), iL_1, iL_sub] at e
  exact e
theorem c71i {k : Nat} {a b c : Int} (hW : z_W S) (h3 : a = 0 ∨ a = 1) (hb : iS b) (hc : iS c) (hk : k < 60) (ga : gI S 24 k = iI a) (gb : gI S 24 (k + 1) = iI b) (gc : gI S 24 (k + 2) = iI c) : fL (d + 2) 71 [.ref 23, .int (q_en 10019), .int (nI k)] S = some (iL (if a = 1 then b else c), S) := by
  have e := e71 (d + 1) (q_en 10019) (nI k) S hW
  simp (disch := omega) only [ni_lit, nI_add, pk_mul, pk_sub, pk_div, nI_leI, nI_ltI, nI_eq, nI_clamp, ni_in, ni_inm, ni_ltm, ni_mlt, ni_lem, ni_mle, ni_eqm, ni_meq, ni_mm, ni_mmle, ni_bit, ni_shl, ni_clr, fa_or, Nat.add_zero, Nat.zero_add, Nat.zero_mul, Nat.mul_zero, eOn, eOs, if_true, if_false, not_true_eq_false, not_false_eq_true, ite_true, ite_false, true_and, and_true, false_and, and_false, or_true, true_or, or_false, false_or, Bool.false_eq_true, reduceIte, Bool.not_true, Bool.not_false, and_self, or_self, q_ef, q_et, q_ltt, q_ltf, q_let, q_lef, gIs, gIl, gIr, gLs, gLl, gLr, gPs, gPl, gPr, gLc, gPc, zb_some, Option.bind_some, q_nm, q_pm, q_hm, q_tm, q_sm, q_wm, q_ym, q_lm, q_ua, ni_of, ga, gb] at e
  unfold iS at hb hc
  rw [iI_l (by omega) (by omega), iI_l (by omega) (by omega), b71_32_eq (d + 1) _ _ _ _ S hW, if_neg (by decide), if_neg (by decide), if_neg (by decide), if_neg (by decide), if_neg (by decide), if_neg (by decide), if_neg (by decide), if_neg (by decide), if_neg (by decide), if_neg (by decide), if_neg (by decide), if_neg (by decide), if_neg (by decide)] at e
  rcases h3 with q | q
  · subst q
    rw [if_neg (by decide)] at e
    simp (disch := omega) only [ni_lit, nI_add, pk_mul, pk_sub, pk_div, nI_leI, nI_ltI, nI_eq, nI_clamp, ni_in, ni_inm, ni_ltm, ni_mlt, ni_lem, ni_mle, ni_eqm, ni_meq, ni_mm, ni_mmle, ni_bit, ni_shl, ni_clr, fa_or, Nat.add_zero, Nat.zero_add, Nat.zero_mul, Nat.mul_zero, eOn, eOs, if_true, if_false, not_true_eq_false, not_false_eq_true, ite_true, ite_false, true_and, and_true, false_and, and_false, or_true, true_or, or_false, false_or, Bool.false_eq_true, reduceIte, Bool.not_true, Bool.not_false, and_self, or_self, q_ef, q_et, q_ltt, q_ltf, q_let, q_lef, gIs, gIl, gIr, gLs, gLl, gLr, gPs, gPl, gPr, gLc, gPc, zb_some, Option.bind_some, q_nm, q_pm, q_hm, q_tm, q_sm, q_wm, q_ym, q_lm, q_ua, ni_of, gc] at e
    rw [iI_l (by omega) (by omega)] at e
    rw [if_neg (by decide)]
    exact e
  · subst q
    rw [if_pos (by decide), b71_235_eq (d + 1) _ S hW] at e
    rw [if_pos rfl]
    exact e
/-- a step of the loop: the code's stack behind it -/
theorem c68_s {q w i n : Nat} {e : Nat → Int} {st : List Int} {ts ts' : List Bool} (hW : z_W S) (hq : z_K q = 6) (hw : w < 3) (hi : i < 1600) (hc : gI S (q + 5) i = q_en n) {N : Nat} (hN : gI S (q + 7) w = nI N) (hN2 : i < N) (hN3 : N ≤ 1600) (he : ∀ j, 1 ≤ j → j ≤ 5 → gI S 23 j = iI (e j)) (hT : q_ty ts n = some ts') (hV : q_VT st ts) (hl : ts.length ≤ 60) (hl2 : ts'.length ≤ 60) (hr : rS S 24 st) : ∃ S', b68_68 (d + 3) q (nI w) (nI st.length) (nI i) S = b68_68 (d + 3) q (nI w) (nI (q_stp e st n).length) (nI (i + 1)) S' ∧ onI (fun c _ => c = 24) S S' ∧ rS S' 24 (q_stp e st n) := by
  have hlen := q_VT_len st ts hV
  have E := b68_68_eq (d + 3) q (nI w) (nI st.length) (nI i) S hW hq
  rcases q_ty_cases hT with ⟨h1, rfl⟩ | ⟨h1, h2, r, rfl, rfl⟩ | ⟨h1, h2, r, rfl, rfl⟩ | ⟨rfl, r, rfl, rfl⟩ | ⟨rfl, r, rfl, rfl⟩
  · obtain ⟨v, hv⟩ : ∃ v, ∀ st, q_stp e st n = v :: st := by
      by_cases g1 : n < 10000
      · exact ⟨n, fun st => by unfold q_stp; rw [if_pos g1]⟩
      · by_cases g2 : n = 10000
        · exact ⟨1, fun st => by unfold q_stp; rw [if_neg g1, if_pos g2]⟩
        · exact ⟨e (n - 10000), fun st => by unfold q_stp; rw [if_neg g1, if_neg g2, if_pos h1]⟩
    rw [List.length_cons] at hl2
    simp (disch := omega) only [ni_lit, nI_add, pk_mul, pk_sub, pk_div, nI_leI, nI_ltI, nI_eq, nI_clamp, ni_in, ni_inm, ni_ltm, ni_mlt, ni_lem, ni_mle, ni_eqm, ni_meq, ni_mm, ni_mmle, ni_bit, ni_shl, ni_clr, fa_or, Nat.add_zero, Nat.zero_add, Nat.zero_mul, Nat.mul_zero, eOn, eOs, if_true, if_false, not_true_eq_false, not_false_eq_true, ite_true, ite_false, true_and, and_true, false_and, and_false, or_true, true_or, or_false, false_or, Bool.false_eq_true, reduceIte, Bool.not_true, Bool.not_false, and_self, or_self, q_ef, q_et, q_ltt, q_ltf, q_let, q_lef, gIs, gIl, gIr, gLs, gLl, gLr, gPs, gPl, gPr, gLc, gPc, zb_some, Option.bind_some, q_nm, q_pm, q_hm, q_tm, q_sm, q_wm, q_ym, q_lm, q_ua, ni_of, hN, hc, c69s (d := d + 2) hW h1, c70 (d := d + 2) hW h1 he hv, Nat.sub_zero, b68_155_eq (d + 3) q _ _ _ _ _ S hW hq] at E
    rw [hv st]
    refine ⟨_, E, onI_sI (onI.refl hW) rfl, rS_p hr ?_ (fun k hk => ?_)⟩
    · simp (disch := omega) only [ni_lit, nI_add, pk_mul, pk_sub, pk_div, nI_leI, nI_ltI, nI_eq, nI_clamp, ni_in, ni_inm, ni_ltm, ni_mlt, ni_lem, ni_mle, ni_eqm, ni_meq, ni_mm, ni_mmle, ni_bit, ni_shl, ni_clr, fa_or, Nat.add_zero, Nat.zero_add, Nat.zero_mul, Nat.mul_zero, eOn, eOs, if_true, if_false, not_true_eq_false, not_false_eq_true, ite_true, ite_false, true_and, and_true, false_and, and_false, or_true, true_or, or_false, false_or, Bool.false_eq_true, reduceIte, Bool.not_true, Bool.not_false, and_self, or_self, q_ef, q_et, q_ltt, q_ltf, q_let, q_lef, gIs, gIl, gIr, gLs, gLl, gLr, gPs, gPl, gPr, gLc, gPc, zb_some, Option.bind_some, q_nm, q_pm, q_hm, q_tm, q_sm, q_wm, q_ym, q_lm, q_ua]
    · simp (disch := omega) only [ni_lit, nI_add, pk_mul, pk_sub, pk_div, nI_leI, nI_ltI, nI_eq, nI_clamp, ni_in, ni_inm, ni_ltm, ni_mlt, ni_lem, ni_mle, ni_eqm, ni_meq, ni_mm, ni_mmle, ni_bit, ni_shl, ni_clr, fa_or, Nat.add_zero, Nat.zero_add, Nat.zero_mul, Nat.mul_zero, eOn, eOs, if_true, if_false, not_true_eq_false, not_false_eq_true, ite_true, ite_false, true_and, and_true, false_and, and_false, or_true, true_or, or_false, false_or, Bool.false_eq_true, reduceIte, Bool.not_true, Bool.not_false, and_self, or_self, q_ef, q_et, q_ltt, q_ltf, q_let, q_lef, gIs, gIl, gIr, gLs, gLl, gLr, gPs, gPl, gPr, gLc, gPc, zb_some, Option.bind_some, q_nm, q_pm, q_hm, q_tm, q_sm, q_wm, q_ym, q_lm, q_ua]
  · obtain ⟨b, r1, rfl, g1, g2⟩ := q_VT_c hV
    obtain ⟨a, r2, rfl, g3, g4⟩ := q_VT_c g2
    obtain ⟨k1, k2⟩ := rS_c hr
    obtain ⟨k3, k4⟩ := rS_c k2
    have hs : q_stp e (b :: a :: r2) n = q_lim (q_rw (n - 10000) a b) :: r2 := by
      unfold q_stp
      rw [if_neg (by omega), if_neg (by omega), if_neg (by omega), if_pos (by omega)]
    rw [List.length_cons] at k1
    simp only [List.length_cons] at E hl hlen
    have j1 := c71 (d := d + 1) (n := n) (k := r2.length) hW h1 (by omega) g3.1 g1.1 (fun q => by omega) (by omega) k3 k1
    have j2 := c72 (d := d + 1) (S := S) hW (q_rw_bd g3.1 g1.1 (n - 10000))
    simp (disch := omega) only [ni_lit, nI_add, pk_mul, pk_sub, pk_div, nI_leI, nI_ltI, nI_eq, nI_clamp, ni_in, ni_inm, ni_ltm, ni_mlt, ni_lem, ni_mle, ni_eqm, ni_meq, ni_mm, ni_mmle, ni_bit, ni_shl, ni_clr, fa_or, Nat.add_zero, Nat.zero_add, Nat.zero_mul, Nat.mul_zero, eOn, eOs, if_true, if_false, not_true_eq_false, not_false_eq_true, ite_true, ite_false, true_and, and_true, false_and, and_false, or_true, true_or, or_false, false_or, Bool.false_eq_true, reduceIte, Bool.not_true, Bool.not_false, and_self, or_self, q_ef, q_et, q_ltt, q_ltf, q_let, q_lef, gIs, gIl, gIr, gLs, gLl, gLr, gPs, gPl, gPr, gLc, gPc, zb_some, Option.bind_some, q_nm, q_pm, q_hm, q_tm, q_sm, q_wm, q_ym, q_lm, q_ua, ni_of, hN, hc, c69b (d := d + 2) hW h1 (show n ≤ 10017 by omega), show r2.length + 1 + 1 - 2 = r2.length by omega, j1, j2, b68_155_eq (d + 3) q _ _ _ _ _ S hW hq] at E
    rw [hs]
    refine ⟨_, E, onI_sI (onI.refl hW) rfl, rS_p k4 ?_ (fun k hk => ?_)⟩
    · simp (disch := omega) only [ni_lit, nI_add, pk_mul, pk_sub, pk_div, nI_leI, nI_ltI, nI_eq, nI_clamp, ni_in, ni_inm, ni_ltm, ni_mlt, ni_lem, ni_mle, ni_eqm, ni_meq, ni_mm, ni_mmle, ni_bit, ni_shl, ni_clr, fa_or, Nat.add_zero, Nat.zero_add, Nat.zero_mul, Nat.mul_zero, eOn, eOs, if_true, if_false, not_true_eq_false, not_false_eq_true, ite_true, ite_false, true_and, and_true, false_and, and_false, or_true, true_or, or_false, false_or, Bool.false_eq_true, reduceIte, Bool.not_true, Bool.not_false, and_self, or_self, q_ef, q_et, q_ltt, q_ltf, q_let, q_lef, gIs, gIl, gIr, gLs, gLl, gLr, gPs, gPl, gPr, gLc, gPc, zb_some, Option.bind_some, q_nm, q_pm, q_hm, q_tm, q_sm, q_wm, q_ym, q_lm, q_ua]
    · simp (disch := omega) only [ni_lit, nI_add, pk_mul, pk_sub, pk_div, nI_leI, nI_ltI, nI_eq, nI_clamp, ni_in, ni_inm, ni_ltm, ni_mlt, ni_lem, ni_mle, ni_eqm, ni_meq, ni_mm, ni_mmle, ni_bit, ni_shl, ni_clr, fa_or, Nat.add_zero, Nat.zero_add, Nat.zero_mul, Nat.mul_zero, eOn, eOs, if_true, if_false, not_true_eq_false, not_false_eq_true, ite_true, ite_false, true_and, and_true, false_and, and_false, or_true, true_or, or_false, false_or, Bool.false_eq_true, reduceIte, Bool.not_true, Bool.not_false, and_self, or_self, q_ef, q_et, q_ltt, q_ltf, q_let, q_lef, gIs, gIl, gIr, gLs, gLl, gLr, gPs, gPl, gPr, gLc, gPc, zb_some, Option.bind_some, q_nm, q_pm, q_hm, q_tm, q_sm, q_wm, q_ym, q_lm, q_ua]
  · obtain ⟨b, r1, rfl, g1, g2⟩ := q_VT_c hV
    obtain ⟨a, r2, rfl, g3, g4⟩ := q_VT_c g2
    obtain ⟨k1, k2⟩ := rS_c hr
    obtain ⟨k3, k4⟩ := rS_c k2
    have hs : q_stp e (b :: a :: r2) n = q_lim (q_rw (n - 10000) a b) :: r2 := by
      unfold q_stp
      rw [if_neg (by omega), if_neg (by omega), if_neg (by omega), if_pos (by omega)]
    rw [List.length_cons] at k1
    simp only [List.length_cons] at E hl hlen
    have j1 := c71 (d := d + 1) (n := n) (k := r2.length) hW (by omega) h2 g3.1 g1.1 (fun q => ⟨g3.2 rfl, g1.2 rfl⟩) (by omega) k3 k1
    have j2 := c72 (d := d + 1) (S := S) hW (q_rw_bd g3.1 g1.1 (n - 10000))
    simp (disch := omega) only [ni_lit, nI_add, pk_mul, pk_sub, pk_div, nI_leI, nI_ltI, nI_eq, nI_clamp, ni_in, ni_inm, ni_ltm, ni_mlt, ni_lem, ni_mle, ni_eqm, ni_meq, ni_mm, ni_mmle, ni_bit, ni_shl, ni_clr, fa_or, Nat.add_zero, Nat.zero_add, Nat.zero_mul, Nat.mul_zero, eOn, eOs, if_true, if_false, not_true_eq_false, not_false_eq_true, ite_true, ite_false, true_and, and_true, false_and, and_false, or_true, true_or, or_false, false_or, Bool.false_eq_true, reduceIte, Bool.not_true, Bool.not_false, and_self, or_self, q_ef, q_et, q_ltt, q_ltf, q_let, q_lef, gIs, gIl, gIr, gLs, gLl, gLr, gPs, gPl, gPr, gLc, gPc, zb_some, Option.bind_some, q_nm, q_pm, q_hm, q_tm, q_sm, q_wm, q_ym, q_lm, q_ua, ni_of, hN, hc, c69b (d := d + 2) hW (show 10006 ≤ n by omega) h2, show r2.length + 1 + 1 - 2 = r2.length by omega, j1, j2, b68_155_eq (d + 3) q _ _ _ _ _ S hW hq] at E
    rw [hs]
    refine ⟨_, E, onI_sI (onI.refl hW) rfl, rS_p k4 ?_ (fun k hk => ?_)⟩
    · simp (disch := omega) only [ni_lit, nI_add, pk_mul, pk_sub, pk_div, nI_leI, nI_ltI, nI_eq, nI_clamp, ni_in, ni_inm, ni_ltm, ni_mlt, ni_lem, ni_mle, ni_eqm, ni_meq, ni_mm, ni_mmle, ni_bit, ni_shl, ni_clr, fa_or, Nat.add_zero, Nat.zero_add, Nat.zero_mul, Nat.mul_zero, eOn, eOs, if_true, if_false, not_true_eq_false, not_false_eq_true, ite_true, ite_false, true_and, and_true, false_and, and_false, or_true, true_or, or_false, false_or, Bool.false_eq_true, reduceIte, Bool.not_true, Bool.not_false, and_self, or_self, q_ef, q_et, q_ltt, q_ltf, q_let, q_lef, gIs, gIl, gIr, gLs, gLl, gLr, gPs, gPl, gPr, gLc, gPc, zb_some, Option.bind_some, q_nm, q_pm, q_hm, q_tm, q_sm, q_wm, q_ym, q_lm, q_ua]
    · simp (disch := omega) only [ni_lit, nI_add, pk_mul, pk_sub, pk_div, nI_leI, nI_ltI, nI_eq, nI_clamp, ni_in, ni_inm, ni_ltm, ni_mlt, ni_lem, ni_mle, ni_eqm, ni_meq, ni_mm, ni_mmle, ni_bit, ni_shl, ni_clr, fa_or, Nat.add_zero, Nat.zero_add, Nat.zero_mul, Nat.mul_zero, eOn, eOs, if_true, if_false, not_true_eq_false, not_false_eq_true, ite_true, ite_false, true_and, and_true, false_and, and_false, or_true, true_or, or_false, false_or, Bool.false_eq_true, reduceIte, Bool.not_true, Bool.not_false, and_self, or_self, q_ef, q_et, q_ltt, q_ltf, q_let, q_lef, gIs, gIl, gIr, gLs, gLl, gLr, gPs, gPl, gPr, gLc, gPc, zb_some, Option.bind_some, q_nm, q_pm, q_hm, q_tm, q_sm, q_wm, q_ym, q_lm, q_ua]
  · obtain ⟨a, r2, rfl, g3, g4⟩ := q_VT_c hV
    obtain ⟨k3, k4⟩ := rS_c hr
    have hs : q_stp e (a :: r2) 10018 = (1 - a) :: r2 := rfl
    have g5 := g3.2 rfl
    simp only [List.length_cons] at E hl hlen
    have j1 := c71n (d := d + 1) (k := r2.length) hW g3.1 (by omega) k3
    have j2 := c72 (d := d + 1) (S := S) (a := 1 - a) hW (by omega)
    rw [q_lim_id (by unfold iS; omega)] at j2
    simp (disch := omega) only [ni_lit, nI_add, pk_mul, pk_sub, pk_div, nI_leI, nI_ltI, nI_eq, nI_clamp, ni_in, ni_inm, ni_ltm, ni_mlt, ni_lem, ni_mle, ni_eqm, ni_meq, ni_mm, ni_mmle, ni_bit, ni_shl, ni_clr, fa_or, Nat.add_zero, Nat.zero_add, Nat.zero_mul, Nat.mul_zero, eOn, eOs, if_true, if_false, not_true_eq_false, not_false_eq_true, ite_true, ite_false, true_and, and_true, false_and, and_false, or_true, true_or, or_false, false_or, Bool.false_eq_true, reduceIte, Bool.not_true, Bool.not_false, and_self, or_self, q_ef, q_et, q_ltt, q_ltf, q_let, q_lef, gIs, gIl, gIr, gLs, gLl, gLr, gPs, gPl, gPr, gLc, gPc, zb_some, Option.bind_some, q_nm, q_pm, q_hm, q_tm, q_sm, q_wm, q_ym, q_lm, q_ua, ni_of, hN, hc, c69n (d := d + 2) hW, Nat.add_sub_cancel, j1, j2, b68_155_eq (d + 3) q _ _ _ _ _ S hW hq] at E
    rw [hs]
    refine ⟨_, E, onI_sI (onI.refl hW) rfl, rS_p k4 ?_ (fun k hk => ?_)⟩
    · simp (disch := omega) only [ni_lit, nI_add, pk_mul, pk_sub, pk_div, nI_leI, nI_ltI, nI_eq, nI_clamp, ni_in, ni_inm, ni_ltm, ni_mlt, ni_lem, ni_mle, ni_eqm, ni_meq, ni_mm, ni_mmle, ni_bit, ni_shl, ni_clr, fa_or, Nat.add_zero, Nat.zero_add, Nat.zero_mul, Nat.mul_zero, eOn, eOs, if_true, if_false, not_true_eq_false, not_false_eq_true, ite_true, ite_false, true_and, and_true, false_and, and_false, or_true, true_or, or_false, false_or, Bool.false_eq_true, reduceIte, Bool.not_true, Bool.not_false, and_self, or_self, q_ef, q_et, q_ltt, q_ltf, q_let, q_lef, gIs, gIl, gIr, gLs, gLl, gLr, gPs, gPl, gPr, gLc, gPc, zb_some, Option.bind_some, q_nm, q_pm, q_hm, q_tm, q_sm, q_wm, q_ym, q_lm, q_ua]
    · simp (disch := omega) only [ni_lit, nI_add, pk_mul, pk_sub, pk_div, nI_leI, nI_ltI, nI_eq, nI_clamp, ni_in, ni_inm, ni_ltm, ni_mlt, ni_lem, ni_mle, ni_eqm, ni_meq, ni_mm, ni_mmle, ni_bit, ni_shl, ni_clr, fa_or, Nat.add_zero, Nat.zero_add, Nat.zero_mul, Nat.mul_zero, eOn, eOs, if_true, if_false, not_true_eq_false, not_false_eq_true, ite_true, ite_false, true_and, and_true, false_and, and_false, or_true, true_or, or_false, false_or, Bool.false_eq_true, reduceIte, Bool.not_true, Bool.not_false, and_self, or_self, q_ef, q_et, q_ltt, q_ltf, q_let, q_lef, gIs, gIl, gIr, gLs, gLl, gLr, gPs, gPl, gPr, gLc, gPc, zb_some, Option.bind_some, q_nm, q_pm, q_hm, q_tm, q_sm, q_wm, q_ym, q_lm, q_ua]
  · obtain ⟨c, r0, rfl, g1, g2⟩ := q_VT_c hV
    obtain ⟨b, r1, rfl, g3, g4⟩ := q_VT_c g2
    obtain ⟨a, r2, rfl, g5, g6⟩ := q_VT_c g4
    obtain ⟨k1, k2⟩ := rS_c hr
    obtain ⟨k3, k4⟩ := rS_c k2
    obtain ⟨k5, k6⟩ := rS_c k4
    have hs : q_stp e (c :: b :: a :: r2) 10019 = (if a = 1 then b else c) :: r2 := rfl
    have g7 := g5.2 rfl
    rw [List.length_cons, List.length_cons] at k1
    rw [List.length_cons] at k3
    simp only [List.length_cons] at E hl hlen
    have j0 : iS (if a = 1 then b else c) := by
      split
      · exact g3.1
      · exact g1.1
    have j1 := c71i (d := d + 1) (k := r2.length) hW g7 g3.1 g1.1 (by omega) k5 k3 k1
    have j2 := c72 (d := d + 1) (S := S) (a := if a = 1 then b else c) hW (by unfold iS at j0; omega)
    rw [q_lim_id j0] at j2
    simp (disch := omega) only [ni_lit, nI_add, pk_mul, pk_sub, pk_div, nI_leI, nI_ltI, nI_eq, nI_clamp, ni_in, ni_inm, ni_ltm, ni_mlt, ni_lem, ni_mle, ni_eqm, ni_meq, ni_mm, ni_mmle, ni_bit, ni_shl, ni_clr, fa_or, Nat.add_zero, Nat.zero_add, Nat.zero_mul, Nat.mul_zero, eOn, eOs, if_true, if_false, not_true_eq_false, not_false_eq_true, ite_true, ite_false, true_and, and_true, false_and, and_false, or_true, true_or, or_false, false_or, Bool.false_eq_true, reduceIte, Bool.not_true, Bool.not_false, and_self, or_self, q_ef, q_et, q_ltt, q_ltf, q_let, q_lef, gIs, gIl, gIr, gLs, gLl, gLr, gPs, gPl, gPr, gLc, gPc, zb_some, Option.bind_some, q_nm, q_pm, q_hm, q_tm, q_sm, q_wm, q_ym, q_lm, q_ua, ni_of, hN, hc, c69i (d := d + 2) hW, show r2.length + 1 + 1 + 1 - 3 = r2.length by omega, j1, j2, b68_155_eq (d + 3) q _ _ _ _ _ S hW hq] at E
    rw [hs]
    refine ⟨_, E, onI_sI (onI.refl hW) rfl, rS_p k6 ?_ (fun k hk => ?_)⟩
    · simp (disch := omega) only [ni_lit, nI_add, pk_mul, pk_sub, pk_div, nI_leI, nI_ltI, nI_eq, nI_clamp, ni_in, ni_inm, ni_ltm, ni_mlt, ni_lem, ni_mle, ni_eqm, ni_meq, ni_mm, ni_mmle, ni_bit, ni_shl, ni_clr, fa_or, Nat.add_zero, Nat.zero_add, Nat.zero_mul, Nat.mul_zero, eOn, eOs, if_true, if_false, not_true_eq_false, not_false_eq_true, ite_true, ite_false, true_and, and_true, false_and, and_false, or_true, true_or, or_false, false_or, Bool.false_eq_true, reduceIte, Bool.not_true, Bool.not_false, and_self, or_self, q_ef, q_et, q_ltt, q_ltf, q_let, q_lef, gIs, gIl, gIr, gLs, gLl, gLr, gPs, gPl, gPr, gLc, gPc, zb_some, Option.bind_some, q_nm, q_pm, q_hm, q_tm, q_sm, q_wm, q_ym, q_lm, q_ua]
    · simp (disch := omega) only [ni_lit, nI_add, pk_mul, pk_sub, pk_div, nI_leI, nI_ltI, nI_eq, nI_clamp, ni_in, ni_inm, ni_ltm, ni_mlt, ni_lem, ni_mle, ni_eqm, ni_meq, ni_mm, ni_mmle, ni_bit, ni_shl, ni_clr, fa_or, Nat.add_zero, Nat.zero_add, Nat.zero_mul, Nat.mul_zero, eOn, eOs, if_true, if_false, not_true_eq_false, not_false_eq_true, ite_true, ite_false, true_and, and_true, false_and, and_false, or_true, true_or, or_false, false_or, Bool.false_eq_true, reduceIte, Bool.not_true, Bool.not_false, and_self, or_self, q_ef, q_et, q_ltt, q_ltf, q_let, q_lef, gIs, gIl, gIr, gLs, gLl, gLr, gPs, gPl, gPr, gLc, gPc, zb_some, Option.bind_some, q_nm, q_pm, q_hm, q_tm, q_sm, q_wm, q_ym, q_lm, q_ua]
end QK
