/-! THE TEXT: the reference goes on to the next sign. -/
section GH
variable {d : Nat} {T : List Nat}
theorem g_lx_kd {p n : Nat} (hs : g_st T p < T.length) (h : g_kd T p = if g_ad T (g_st T p) || decide (n < g_en T p - g_st T p) then 4 else g_km T p) (hm : g_km T p ≠ 4) (hf : g_kd T p = 4 → g_ft T p = if g_ad T (g_st T p) then g_st T p else g_st T p + n) : g_lx T (g_st T p) n (g_en T p - g_st T p) = if g_kd T p = 4 then some (g_ft T p) else none := by
  unfold g_lx
  cases ha : g_ad T (g_st T p) with
  | true =>
    rw [ha, Bool.true_or, if_pos rfl] at h
    have := hf h
    rw [ha, if_pos rfl] at this
    rw [if_pos rfl, if_pos h, this]
  | false =>
    rw [ha, Bool.false_or] at h
    rw [if_neg (by decide)]
    by_cases c : n < g_en T p - g_st T p
    · rw [decide_eq_true c, if_pos rfl] at h
      have := hf h
      rw [ha, if_neg (by decide)] at this
      rw [if_pos c, if_pos h, this]
    · rw [decide_eq_false c, if_neg (by decide)] at h
      rw [if_neg c, if_neg (by omega)]
/-- what is faulty in the sign itself -/
theorem m163_176 {S : z_S} {p : Nat} (h : mTx S T) (hp : p ≤ T.length) (hs : g_st T p < T.length) (h4 : gI S 396 4 = nI (g_st T p)) (h6 : gI S 396 6 = nI 0) (h7 : gL S 396 7 = lN 0) (h12 : gI S 396 12 = eO (if g_ad T (g_st T p) then some (g_st T p) else none)) (hc : g_l (g_t T (g_st T p)) = true ∨ g_d (g_t T (g_st T p)) = true) : ∃ S', b163_176 (d + 1) (nI (g_st T p)) (bI (g_l (g_t T (g_st T p)))) (bI (g_d (g_t T (g_st T p)))) S = some S' ∧ onM tDm S S' ∧ mTk S' T p := by
  have e1 := b163_176_eq (d + 1) (nI (g_st T p)) (bI (g_l (g_t T (g_st T p)))) (bI (g_d (g_t T (g_st T p)))) S h.1
  have e2 : ∀ x, b163_186 (d + 1) (nI (g_st T p)) (bI (g_l (g_t T (g_st T p)))) (bI (g_d (g_t T (g_st T p)))) x S = _ := fun x => b163_186_eq (d + 1) (nI (g_st T p)) (bI (g_l (g_t T (g_st T p)))) (bI (g_d (g_t T (g_st T p)))) x S h.1
  cases cl : g_l (g_t T (g_st T p)) with
  | true =>
    have cd := g_ld cl
    rw [cl, cd] at e1 e2
    rw [cd]
    have een : g_en T p = g_rn g_l T (g_st T p) := by unfold g_en; rw [if_pos hs, cl, if_pos rfl]
    have kk : g_kd T p = if g_ad T (g_st T p) || decide (6 < g_en T p - g_st T p) then 4 else 1 := by unfold g_kd; rw [if_pos hs, cl, if_pos rfl]
    have km : g_km T p = 1 := by
      unfold g_km
      by_cases c : g_kd T p = 4
      · rw [if_pos c, cl, if_pos rfl]
      · rw [if_neg c, kk, if_neg (fun z => c (by rw [kk, if_pos z]))]
    rw [if_neg (by decide), e2, if_neg (by decide)] at e1
    generalize hS1 : sI S 396 3 (1 : Int32) = S1 at e1
    have o1 : onM tDm S S1 := by rw [← hS1]; exact onM_sI (D := tDm) (c := 396) (k := 3) (onM.refl h.1) ⟨rfl, by omega⟩
    have u : ∀ k, k ≠ 3 → gI S1 396 k = gI S 396 k := fun k hk => by rw [← hS1, gIs, if_pos rfl, if_neg hk]
    have u3 : gI S1 396 3 = nI 1 := by rw [← hS1, gIs, if_pos rfl, if_pos rfl]; rfl
    have u7 : gL S1 396 7 = lN 0 := by rw [← hS1, gLs]; exact h7
    rw [b163_199_eq (d + 1) (nI (g_st T p)) (bI true) (bI false) (6 : Int32) S1 o1.W] at e1
    obtain ⟨S2, q1, q2, q3, q4, q5, q6, q7⟩ := m163_w (d := d) (s := g_st T p) (T.length - g_st T p) 0 S1 (by omega) (h.on o1 fun c k z => by unfold tDm at z; omega) (fun i hi => by omega) u7 (by
      rw [u 12 (by omega), h12]
      unfold g_lx
      rw [if_neg (show ¬ 6 < 0 by omega)]) rfl
    have q1' : b163_204 (d + 1) (nI (g_st T p)) (bI true) (bI false) (6 : Int32) (0 : Int32) S1 = some S2 := q1
    rw [← een] at q5 q6 q7
    have hft : g_kd T p = 4 → g_ft T p = if g_ad T (g_st T p) then g_st T p else g_st T p + 6 := fun z => by unfold g_ft; rw [if_pos z, cl, if_pos rfl]
    refine ⟨S2, e1.trans q1', o1.trans q2, (h.on o1 fun c k z => by unfold tDm at z; omega).on q2 (fun c k z => by unfold tDm at z; omega), hp, ?_, ?_, q5, ?_, fun z => ?_, fun z => ?_⟩
    · rw [q3, u3, km]
    · rw [q4, u 4 (by omega)]; exact h4
    · rw [q7, g_lx_kd hs (by rw [km]; exact kk) (by omega) hft]
    · exfalso
      rcases z with z | z
      · rw [(g_kd_2 z).2.1] at cd; cases cd
      · rw [(g_kd_3 z).2.1] at cl; cases cl
    · rw [q6, Nat.min_eq_left (g_kd_1 z).2.2.2.2]
      rfl
  | false =>
    have cd : g_d (g_t T (g_st T p)) = true := by
      rcases hc with z | z
      · rw [z] at cl; cases cl
      · exact z
    rw [cl, cd] at e1 e2
    rw [cd]
    have een : g_en T p = g_rn g_d T (g_st T p) := by unfold g_en; rw [if_pos hs, cl, if_neg (by decide), cd, if_pos rfl]
    have kk : g_kd T p = if g_ad T (g_st T p) || decide (4 < g_en T p - g_st T p) then 4 else 2 := by unfold g_kd; rw [if_pos hs, cl, if_neg (by decide), cd, if_pos rfl]
    have km : g_km T p = 2 := by
      unfold g_km
      by_cases c : g_kd T p = 4
      · rw [if_pos c, cl, if_neg (by decide)]
      · rw [if_neg c, kk, if_neg (fun z => c (by rw [kk, if_pos z]))]
    rw [if_pos (by decide), e2, if_pos (by decide)] at e1
    generalize hS1 : sI S 396 3 (2 : Int32) = S1 at e1
    have o1 : onM tDm S S1 := by rw [← hS1]; exact onM_sI (D := tDm) (c := 396) (k := 3) (onM.refl h.1) ⟨rfl, by omega⟩
    have u : ∀ k, k ≠ 3 → gI S1 396 k = gI S 396 k := fun k hk => by rw [← hS1, gIs, if_pos rfl, if_neg hk]
    have u3 : gI S1 396 3 = nI 2 := by rw [← hS1, gIs, if_pos rfl, if_pos rfl]; rfl
    rw [b163_199_eq (d + 1) (nI (g_st T p)) (bI false) (bI true) (4 : Int32) S1 o1.W] at e1
    obtain ⟨S2, q1, q2, q3, q4, q5, q6, q7⟩ := m163_d (d := d) (s := g_st T p) (T.length - g_st T p) 0 S1 (by omega) (h.on o1 fun c k z => by unfold tDm at z; omega) (by rw [u 6 (by omega)]; exact h6) (by
      rw [u 12 (by omega), h12]
      unfold g_lx
      rw [if_neg (show ¬ 4 < 0 by omega)]) rfl
    have q1' : b163_204 (d + 1) (nI (g_st T p)) (bI false) (bI true) (4 : Int32) (0 : Int32) S1 = some S2 := q1
    rw [← een] at q5 q6 q7
    have hft : g_kd T p = 4 → g_ft T p = if g_ad T (g_st T p) then g_st T p else g_st T p + 4 := fun z => by unfold g_ft; rw [if_pos z, cl, if_neg (show ¬ false = true by decide)]
    refine ⟨S2, e1.trans q1', o1.trans q2, (h.on o1 fun c k z => by unfold tDm at z; omega).on q2 (fun c k z => by unfold tDm at z; omega), hp, ?_, ?_, q5, ?_, fun z => ?_, fun z => ?_⟩
    · rw [q3, u3, km]
    · rw [q4, u 4 (by omega)]; exact h4
    · rw [q7, g_lx_kd hs (by rw [km]; exact kk) (by omega) hft]
    · rcases z with z | z
      · rw [q6, Nat.min_eq_left (g_kd_2 z).2.2.2.2]
        unfold g_vl
        rw [cd, if_pos rfl]
      · exfalso
        rw [(g_kd_3 z).2.2.1] at cd; cases cd
    · exfalso
      rw [(g_kd_1 z).2.1] at cl; cases cl
theorem m163 {S : z_S} {p : Nat} (h : mTx S T) (hp : p ≤ T.length) (h5 : gI S 396 5 = nI p) : ∃ S', fV (d + 2) 163 [.ref 396] S = some S' ∧ onM tDm S S' ∧ mTk S' T p := by
  have h1600 := h.2.2.1
  have hsb := g_st_b hp
  have e := e163 (d + 1) S h.1
  rw [h5, m163_5 (d := d + 1) (p := p) (T.length - p) p S (by omega) h rfl] at e
  have e2 := b163_41_eq (d + 1) (nI (g_st T p)) S h.1
  have oc : onM tDm S (sI (sI (sI (sI S 396 4 (nI (g_st T p))) 396 5 (nI (g_st T p))) 396 3 (0 : Int32)) 396 12 (-1 : Int32)) := onM_sI (D := tDm) (c := 396) (k := 12) (onM_sI (D := tDm) (c := 396) (k := 3) (onM_sI (D := tDm) (c := 396) (k := 5) (onM_sI (D := tDm) (c := 396) (k := 4) (onM.refl h.1) ⟨rfl, by omega⟩) ⟨rfl, by omega⟩) ⟨rfl, by omega⟩) ⟨rfl, by omega⟩
  have v3 : gI (sI (sI (sI (sI S 396 4 (nI (g_st T p))) 396 5 (nI (g_st T p))) 396 3 (0 : Int32)) 396 12 (-1 : Int32)) 396 3 = nI 0 := by simp (disch := omega) only [ni_lit, nI_add, pk_mul, pk_sub, pk_div, nI_leI, nI_ltI, nI_eq, nI_clamp, ni_in, ni_inm, ni_ltm, ni_mlt, ni_lem, ni_mle, ni_eqm, ni_meq, ni_mm, ni_mmle, ni_bit, ni_shl, ni_clr, fa_or, Nat.add_zero, Nat.zero_add, Nat.zero_mul, Nat.mul_zero, eOn, eOs, if_true, if_false, not_true_eq_false, not_false_eq_true, ite_true, ite_false, true_and, and_true, false_and, and_false, or_true, true_or, or_false, false_or, Bool.false_eq_true, reduceIte, Bool.not_true, Bool.not_false, and_self, or_self, q_ef, q_et, q_ltt, q_ltf, q_let, q_lef, gIs, gIl, gIr, gLs, gLl, gLr, gPs, gPl, gPr, gLc, gPc, zb_some, Option.bind_some, q_nm, q_pm, q_hm, q_tm, q_sm, q_wm, q_ym, q_lm, q_ua]
  have v4 : gI (sI (sI (sI (sI S 396 4 (nI (g_st T p))) 396 5 (nI (g_st T p))) 396 3 (0 : Int32)) 396 12 (-1 : Int32)) 396 4 = nI (g_st T p) := by simp (disch := omega) only [ni_lit, nI_add, pk_mul, pk_sub, pk_div, nI_leI, nI_ltI, nI_eq, nI_clamp, ni_in, ni_inm, ni_ltm, ni_mlt, ni_lem, ni_mle, ni_eqm, ni_meq, ni_mm, ni_mmle, ni_bit, ni_shl, ni_clr, fa_or, Nat.add_zero, Nat.zero_add, Nat.zero_mul, Nat.mul_zero, eOn, eOs, if_true, if_false, not_true_eq_false, not_false_eq_true, ite_true, ite_false, true_and, and_true, false_and, and_false, or_true, true_or, or_false, false_or, Bool.false_eq_true, reduceIte, Bool.not_true, Bool.not_false, and_self, or_self, q_ef, q_et, q_ltt, q_ltf, q_let, q_lef, gIs, gIl, gIr, gLs, gLl, gLr, gPs, gPl, gPr, gLc, gPc, zb_some, Option.bind_some, q_nm, q_pm, q_hm, q_tm, q_sm, q_wm, q_ym, q_lm, q_ua]
  have v5 : gI (sI (sI (sI (sI S 396 4 (nI (g_st T p))) 396 5 (nI (g_st T p))) 396 3 (0 : Int32)) 396 12 (-1 : Int32)) 396 5 = nI (g_st T p) := by simp (disch := omega) only [ni_lit, nI_add, pk_mul, pk_sub, pk_div, nI_leI, nI_ltI, nI_eq, nI_clamp, ni_in, ni_inm, ni_ltm, ni_mlt, ni_lem, ni_mle, ni_eqm, ni_meq, ni_mm, ni_mmle, ni_bit, ni_shl, ni_clr, fa_or, Nat.add_zero, Nat.zero_add, Nat.zero_mul, Nat.mul_zero, eOn, eOs, if_true, if_false, not_true_eq_false, not_false_eq_true, ite_true, ite_false, true_and, and_true, false_and, and_false, or_true, true_or, or_false, false_or, Bool.false_eq_true, reduceIte, Bool.not_true, Bool.not_false, and_self, or_self, q_ef, q_et, q_ltt, q_ltf, q_let, q_lef, gIs, gIl, gIr, gLs, gLl, gLr, gPs, gPl, gPr, gLc, gPc, zb_some, Option.bind_some, q_nm, q_pm, q_hm, q_tm, q_sm, q_wm, q_ym, q_lm, q_ua]
  have v12 : gI (sI (sI (sI (sI S 396 4 (nI (g_st T p))) 396 5 (nI (g_st T p))) 396 3 (0 : Int32)) 396 12 (-1 : Int32)) 396 12 = -nI 1 := by simp (disch := omega) only [ni_lit, nI_add, pk_mul, pk_sub, pk_div, nI_leI, nI_ltI, nI_eq, nI_clamp, ni_in, ni_inm, ni_ltm, ni_mlt, ni_lem, ni_mle, ni_eqm, ni_meq, ni_mm, ni_mmle, ni_bit, ni_shl, ni_clr, fa_or, Nat.add_zero, Nat.zero_add, Nat.zero_mul, Nat.mul_zero, eOn, eOs, if_true, if_false, not_true_eq_false, not_false_eq_true, ite_true, ite_false, true_and, and_true, false_and, and_false, or_true, true_or, or_false, false_or, Bool.false_eq_true, reduceIte, Bool.not_true, Bool.not_false, and_self, or_self, q_ef, q_et, q_ltt, q_ltf, q_let, q_lef, gIs, gIl, gIr, gLs, gLl, gLr, gPs, gPl, gPr, gLc, gPc, zb_some, Option.bind_some, q_nm, q_pm, q_hm, q_tm, q_sm, q_wm, q_ym, q_lm, q_ua]
  generalize hS1 : sI (sI (sI (sI S 396 4 (nI (g_st T p))) 396 5 (nI (g_st T p))) 396 3 (0 : Int32)) 396 12 (-1 : Int32) = S1 at *
  have h1 : mTx S1 T := h.on oc fun c k z => by unfold tDm at z; omega
  by_cases c1 : g_st T p < T.length
  · obtain ⟨z1, z2⟩ := h1.at c1
    have hb := (h1.2.2.2 _ c1).2
    rw [h1.2.1, if_pos (nI_lt c1 (by omega)), if_pos z1, z2, m160 h1.1 hb, zb_some, if_pos z1, z2, m161 h1.1 hb, zb_some] at e2
    have hz : ∀ S2, z_W S2 → onM tDm S S2 → onM tDm S1 S2 → gI S2 396 4 = nI (g_st T p) → gI S2 396 12 = eO (if g_ad T (g_st T p) then some (g_st T p) else none) → (g_l (g_t T (g_st T p)) = true ∨ g_d (g_t T (g_st T p)) = true) → ∃ S', b163_135 (d + 1) (nI (g_st T p)) (bI (g_l (g_t T (g_st T p)))) (bI (g_d (g_t T (g_st T p)))) S2 = some S' ∧ onM tDm S S' ∧ mTk S' T p := fun S2 W2 o2 o12 k4 k12 hc => by
      have e3 := b163_135_eq (d + 1) (nI (g_st T p)) (bI (g_l (g_t T (g_st T p)))) (bI (g_d (g_t T (g_st T p)))) S2 W2
      have o3 : onM tDm S2 (sI (sI (sL (sI S2 396 6 (0 : Int32)) 396 7 (0 : Int64)) 396 3 (3 : Int32)) 396 5 (nI (g_st T p) + (1 : Int32))) := onM_sI (D := tDm) (c := 396) (k := 5) (onM_sI (D := tDm) (c := 396) (k := 3) (onM_sL (D := tDm) (c := 396) (k := 7) (onM_sI (D := tDm) (c := 396) (k := 6) (onM.refl W2) ⟨rfl, by omega⟩) ⟨rfl, by omega⟩) ⟨rfl, by omega⟩) ⟨rfl, by omega⟩
      have x4 : gI (sI (sI (sL (sI S2 396 6 (0 : Int32)) 396 7 (0 : Int64)) 396 3 (3 : Int32)) 396 5 (nI (g_st T p) + (1 : Int32))) 396 4 = nI (g_st T p) := by simp (disch := omega) only [ni_lit, nI_add, pk_mul, pk_sub, pk_div, nI_leI, nI_ltI, nI_eq, nI_clamp, ni_in, ni_inm, ni_ltm, ni_mlt, ni_lem, ni_mle, ni_eqm, ni_meq, ni_mm, ni_mmle, ni_bit, ni_shl, ni_clr, fa_or, Nat.add_zero, Nat.zero_add, Nat.zero_mul, Nat.mul_zero, eOn, eOs, if_true, if_false, not_true_eq_false, not_false_eq_true, ite_true, ite_false, true_and, and_true, false_and, and_false, or_true, true_or, or_false, false_or, Bool.false_eq_true, reduceIte, Bool.not_true, Bool.not_false, and_self, or_self, q_ef, q_et, q_ltt, q_ltf, q_let, q_lef, gIs, gIl, gIr, gLs, gLl, gLr, gPs, gPl, gPr, gLc, gPc, zb_some, Option.bind_some, q_nm, q_pm, q_hm, q_tm, q_sm, q_wm, q_ym, q_lm, q_ua, k4]
      have x6 : gI (sI (sI (sL (sI S2 396 6 (0 : Int32)) 396 7 (0 : Int64)) 396 3 (3 : Int32)) 396 5 (nI (g_st T p) + (1 : Int32))) 396 6 = nI 0 := by simp (disch := omega) only [ni_lit, nI_add, pk_mul, pk_sub, pk_div, nI_leI, nI_ltI, nI_eq, nI_clamp, ni_in, ni_inm, ni_ltm, ni_mlt, ni_lem, ni_mle, ni_eqm, ni_meq, ni_mm, ni_mmle, ni_bit, ni_shl, ni_clr, fa_or, Nat.add_zero, Nat.zero_add, Nat.zero_mul, Nat.mul_zero, eOn, eOs, if_true, if_false, not_true_eq_false, not_false_eq_true, ite_true, ite_false, true_and, and_true, false_and, and_false, or_true, true_or, or_false, false_or, Bool.false_eq_true, reduceIte, Bool.not_true, Bool.not_false, and_self, or_self, q_ef, q_et, q_ltt, q_ltf, q_let, q_lef, gIs, gIl, gIr, gLs, gLl, gLr, gPs, gPl, gPr, gLc, gPc, zb_some, Option.bind_some, q_nm, q_pm, q_hm, q_tm, q_sm, q_wm, q_ym, q_lm, q_ua]
      have x7 : gL (sI (sI (sL (sI S2 396 6 (0 : Int32)) 396 7 (0 : Int64)) 396 3 (3 : Int32)) 396 5 (nI (g_st T p) + (1 : Int32))) 396 7 = lN 0 := by rw [gLs, gLs, gLl, if_pos rfl, if_pos rfl]; rfl
      have x12 : gI (sI (sI (sL (sI S2 396 6 (0 : Int32)) 396 7 (0 : Int64)) 396 3 (3 : Int32)) 396 5 (nI (g_st T p) + (1 : Int32))) 396 12 = gI S2 396 12 := by simp (disch := omega) only [ni_lit, nI_add, pk_mul, pk_sub, pk_div, nI_leI, nI_ltI, nI_eq, nI_clamp, ni_in, ni_inm, ni_ltm, ni_mlt, ni_lem, ni_mle, ni_eqm, ni_meq, ni_mm, ni_mmle, ni_bit, ni_shl, ni_clr, fa_or, Nat.add_zero, Nat.zero_add, Nat.zero_mul, Nat.mul_zero, eOn, eOs, if_true, if_false, not_true_eq_false, not_false_eq_true, ite_true, ite_false, true_and, and_true, false_and, and_false, or_true, true_or, or_false, false_or, Bool.false_eq_true, reduceIte, Bool.not_true, Bool.not_false, and_self, or_self, q_ef, q_et, q_ltt, q_ltf, q_let, q_lef, gIs, gIl, gIr, gLs, gLl, gLr, gPs, gPl, gPr, gLc, gPc, zb_some, Option.bind_some, q_nm, q_pm, q_hm, q_tm, q_sm, q_wm, q_ym, q_lm, q_ua]
      generalize hS3 : sI (sI (sL (sI S2 396 6 (0 : Int32)) 396 7 (0 : Int64)) 396 3 (3 : Int32)) 396 5 (nI (g_st T p) + (1 : Int32)) = S3 at *
      obtain ⟨S', q1, q2, q3⟩ := m163_176 (d := d) ((h.on o2 fun c k z => by unfold tDm at z; omega).on o3 fun c k z => by unfold tDm at z; omega) hp c1 x4 x6 x7 (by rw [x12]; exact k12) hc
      refine ⟨S', ?_, (o2.trans o3).trans q2, q3⟩
      rw [e3]
      rcases hc with z | z
      · rw [z] at q1 ⊢
        rw [if_pos (by decide)]; exact q1
      · rw [z] at q1 ⊢
        cases hq : g_l (g_t T (g_st T p)) with
        | true => rw [hq] at q1; rw [if_pos (by decide)]; exact q1
        | false => rw [hq] at q1; rw [if_neg (by decide), if_pos (by decide)]; exact q1
    have hy : (g_l (g_t T (g_st T p)) = true ∨ g_d (g_t T (g_st T p)) = true) → ∃ S', b163_98 (d + 1) (nI (g_st T p)) (bI (g_l (g_t T (g_st T p)))) (bI (g_d (g_t T (g_st T p)))) S1 = some S' ∧ onM tDm S S' ∧ mTk S' T p := fun hc => by
      have e4 := b163_98_eq (d + 1) (nI (g_st T p)) (bI (g_l (g_t T (g_st T p)))) (bI (g_d (g_t T (g_st T p)))) S1 h1.1
      have g130 : b163_130 (d + 1) (nI (g_st T p)) (bI (g_l (g_t T (g_st T p)))) (bI (g_d (g_t T (g_st T p)))) S1 = b163_135 (d + 1) (nI (g_st T p)) (bI (g_l (g_t T (g_st T p)))) (bI (g_d (g_t T (g_st T p)))) (sI S1 396 12 (nI (g_st T p))) := b163_130_eq (d + 1) _ _ _ S1 h1.1
      have no := hz S1 h1.1 oc (onM.refl h1.1) v4
      have o5 : onM tDm S1 (sI S1 396 12 (nI (g_st T p))) := onM_sI (D := tDm) (c := 396) (k := 12) (onM.refl h1.1) ⟨rfl, by omega⟩
      have yes := hz (sI S1 396 12 (nI (g_st T p))) h1.1 (oc.trans o5) o5 (by rw [gIs, if_pos rfl, if_neg (by decide)]; exact v4)
      by_cases c0 : g_st T p = 0
      · have had : g_ad T (g_st T p) = false := by unfold g_ad; rw [c0]; rfl
        rw [had] at no
        rw [c0, if_pos (show nI 0 ≤ (0 : Int32) by decide), ← c0] at e4
        obtain ⟨S', q1, q2, q3⟩ := no v12 hc
        exact ⟨S', e4.trans q1, q2, q3⟩
      · have c1' : g_st T p - 1 < T.length := by omega
        have es : nI (g_st T p) - (1 : Int32) = nI (g_st T p - 1) := pk_sub (b := 1) (by omega)
        obtain ⟨y1, y2⟩ := h1.at c1'
        have hb' := (h1.2.2.2 _ c1').2
        rw [if_neg (show ¬ nI (g_st T p) ≤ (0 : Int32) from fun z => by have := (nI_leI (b := 0) (by omega) (by omega)).mp z; omega), es, if_pos y1, y2, m160 h1.1 hb', zb_some] at e4
        have had : g_ad T (g_st T p) = (g_l (g_t T (g_st T p - 1)) || g_d (g_t T (g_st T p - 1))) := by unfold g_ad; rw [decide_eq_true (by omega), Bool.true_and]
        cases hl : g_l (g_t T (g_st T p - 1)) with
        | true =>
          rw [hl, Bool.true_or] at had
          rw [hl, if_pos (by decide), g130] at e4
          rw [had, if_pos rfl] at yes
          obtain ⟨S', q1, q2, q3⟩ := yes (by rw [gIs, if_pos rfl, if_pos rfl]; rfl) hc
          exact ⟨S', e4.trans q1, q2, q3⟩
        | false =>
          rw [hl, Bool.false_or] at had
          rw [hl, if_neg (by decide), if_pos y1, y2, m161 h1.1 hb', zb_some] at e4
          cases hd : g_d (g_t T (g_st T p - 1)) with
          | true =>
            rw [hd] at had
            rw [hd, if_neg (by decide), g130] at e4
            rw [had, if_pos rfl] at yes
            obtain ⟨S', q1, q2, q3⟩ := yes (by rw [gIs, if_pos rfl, if_pos rfl]; rfl) hc
            exact ⟨S', e4.trans q1, q2, q3⟩
          | false =>
            rw [hd] at had
            rw [hd, if_pos (by decide)] at e4
            rw [had] at no
            obtain ⟨S', q1, q2, q3⟩ := no v12 hc
            exact ⟨S', e4.trans q1, q2, q3⟩
    cases cl : g_l (g_t T (g_st T p)) with
    | true =>
      obtain ⟨S', q1, q2, q3⟩ := hy (Or.inl cl)
      rw [cl] at q1 e2
      rw [if_pos (by decide)] at e2
      exact ⟨S', (e.trans e2).trans q1, q2, q3⟩
    | false =>
      cases cd : g_d (g_t T (g_st T p)) with
      | true =>
        obtain ⟨S', q1, q2, q3⟩ := hy (Or.inr cd)
        rw [cl, cd] at q1 e2
        rw [if_neg (by decide), if_neg (by decide)] at e2
        exact ⟨S', (e.trans e2).trans q1, q2, q3⟩
      | false =>
        rw [cl, cd, if_neg (by decide), if_pos (by decide)] at e2
        have e3 := b163_135_eq (d + 1) (nI (g_st T p)) (bI false) (bI false) S1 h1.1
        rw [if_neg (by decide), if_neg (by decide), if_pos z1] at e3
        have kk : g_kd T p = 3 := by unfold g_kd; rw [if_pos c1, cl, if_neg (by decide), cd, if_neg (by decide)]
        have een : g_en T p = g_st T p + 1 := (g_kd_3 kk).2.2.2
        have o3 : onM tDm S1 (sI (sI (sL (sI S1 396 6 (0 : Int32)) 396 7 (0 : Int64)) 396 3 (3 : Int32)) 396 5 (nI (g_st T p) + (1 : Int32))) := onM_sI (D := tDm) (c := 396) (k := 5) (onM_sI (D := tDm) (c := 396) (k := 3) (onM_sL (D := tDm) (c := 396) (k := 7) (onM_sI (D := tDm) (c := 396) (k := 6) (onM.refl h1.1) ⟨rfl, by omega⟩) ⟨rfl, by omega⟩) ⟨rfl, by omega⟩) ⟨rfl, by omega⟩
        have x3 : gI (sI (sI (sL (sI S1 396 6 (0 : Int32)) 396 7 (0 : Int64)) 396 3 (3 : Int32)) 396 5 (nI (g_st T p) + (1 : Int32))) 396 3 = nI 3 := by simp (disch := omega) only [ni_lit, nI_add, pk_mul, pk_sub, pk_div, nI_leI, nI_ltI, nI_eq, nI_clamp, ni_in, ni_inm, ni_ltm, ni_mlt, ni_lem, ni_mle, ni_eqm, ni_meq, ni_mm, ni_mmle, ni_bit, ni_shl, ni_clr, fa_or, Nat.add_zero, Nat.zero_add, Nat.zero_mul, Nat.mul_zero, eOn, eOs, if_true, if_false, not_true_eq_false, not_false_eq_true, ite_true, ite_false, true_and, and_true, false_and, and_false, or_true, true_or, or_false, false_or, Bool.false_eq_true, reduceIte, Bool.not_true, Bool.not_false, and_self, or_self, q_ef, q_et, q_ltt, q_ltf, q_let, q_lef, gIs, gIl, gIr, gLs, gLl, gLr, gPs, gPl, gPr, gLc, gPc, zb_some, Option.bind_some, q_nm, q_pm, q_hm, q_tm, q_sm, q_wm, q_ym, q_lm, q_ua]
        have x4 : gI (sI (sI (sL (sI S1 396 6 (0 : Int32)) 396 7 (0 : Int64)) 396 3 (3 : Int32)) 396 5 (nI (g_st T p) + (1 : Int32))) 396 4 = nI (g_st T p) := by simp (disch := omega) only [ni_lit, nI_add, pk_mul, pk_sub, pk_div, nI_leI, nI_ltI, nI_eq, nI_clamp, ni_in, ni_inm, ni_ltm, ni_mlt, ni_lem, ni_mle, ni_eqm, ni_meq, ni_mm, ni_mmle, ni_bit, ni_shl, ni_clr, fa_or, Nat.add_zero, Nat.zero_add, Nat.zero_mul, Nat.mul_zero, eOn, eOs, if_true, if_false, not_true_eq_false, not_false_eq_true, ite_true, ite_false, true_and, and_true, false_and, and_false, or_true, true_or, or_false, false_or, Bool.false_eq_true, reduceIte, Bool.not_true, Bool.not_false, and_self, or_self, q_ef, q_et, q_ltt, q_ltf, q_let, q_lef, gIs, gIl, gIr, gLs, gLl, gLr, gPs, gPl, gPr, gLc, gPc, zb_some, Option.bind_some, q_nm, q_pm, q_hm, q_tm, q_sm, q_wm, q_ym, q_lm, q_ua, v4]
        have x5 : gI (sI (sI (sL (sI S1 396 6 (0 : Int32)) 396 7 (0 : Int64)) 396 3 (3 : Int32)) 396 5 (nI (g_st T p) + (1 : Int32))) 396 5 = nI (g_en T p) := by rw [een]; simp (disch := omega) only [ni_lit, nI_add, pk_mul, pk_sub, pk_div, nI_leI, nI_ltI, nI_eq, nI_clamp, ni_in, ni_inm, ni_ltm, ni_mlt, ni_lem, ni_mle, ni_eqm, ni_meq, ni_mm, ni_mmle, ni_bit, ni_shl, ni_clr, fa_or, Nat.add_zero, Nat.zero_add, Nat.zero_mul, Nat.mul_zero, eOn, eOs, if_true, if_false, not_true_eq_false, not_false_eq_true, ite_true, ite_false, true_and, and_true, false_and, and_false, or_true, true_or, or_false, false_or, Bool.false_eq_true, reduceIte, Bool.not_true, Bool.not_false, and_self, or_self, q_ef, q_et, q_ltt, q_ltf, q_let, q_lef, gIs, gIl, gIr, gLs, gLl, gLr, gPs, gPl, gPr, gLc, gPc, zb_some, Option.bind_some, q_nm, q_pm, q_hm, q_tm, q_sm, q_wm, q_ym, q_lm, q_ua]
        have x12 : gI (sI (sI (sL (sI S1 396 6 (0 : Int32)) 396 7 (0 : Int64)) 396 3 (3 : Int32)) 396 5 (nI (g_st T p) + (1 : Int32))) 396 12 = -nI 1 := by simp (disch := omega) only [ni_lit, nI_add, pk_mul, pk_sub, pk_div, nI_leI, nI_ltI, nI_eq, nI_clamp, ni_in, ni_inm, ni_ltm, ni_mlt, ni_lem, ni_mle, ni_eqm, ni_meq, ni_mm, ni_mmle, ni_bit, ni_shl, ni_clr, fa_or, Nat.add_zero, Nat.zero_add, Nat.zero_mul, Nat.mul_zero, eOn, eOs, if_true, if_false, not_true_eq_false, not_false_eq_true, ite_true, ite_false, true_and, and_true, false_and, and_false, or_true, true_or, or_false, false_or, Bool.false_eq_true, reduceIte, Bool.not_true, Bool.not_false, and_self, or_self, q_ef, q_et, q_ltt, q_ltf, q_let, q_lef, gIs, gIl, gIr, gLs, gLl, gLr, gPs, gPl, gPr, gLc, gPc, zb_some, Option.bind_some, q_nm, q_pm, q_hm, q_tm, q_sm, q_wm, q_ym, q_lm, q_ua, v12]
        generalize hS3 : sI (sI (sL (sI S1 396 6 (0 : Int32)) 396 7 (0 : Int64)) 396 3 (3 : Int32)) 396 5 (nI (g_st T p) + (1 : Int32)) = S3 at *
        have h3 := h1.on o3 fun c k z => by unfold tDm at z; omega
        rw [(h3.at c1).2] at e3
        have o4 : onM tDm S3 (sI S3 396 6 (nI (g_t T (g_st T p)))) := onM_sI (D := tDm) (c := 396) (k := 6) (onM.refl h3.1) ⟨rfl, by omega⟩
        have u : ∀ k, k ≠ 6 → gI (sI S3 396 6 (nI (g_t T (g_st T p)))) 396 k = gI S3 396 k := fun k hk => by rw [gIs, if_pos rfl, if_neg hk]
        refine ⟨_, (e.trans e2).trans e3, (oc.trans o3).trans o4, h3.on o4 (fun c k z => by unfold tDm at z; omega), hp, ?_, ?_, ?_, ?_, fun _ => ?_, fun z => by omega⟩
        · rw [u 3 (by omega), x3]; unfold g_km; rw [if_neg (by omega), kk]
        · rw [u 4 (by omega)]; exact x4
        · rw [u 5 (by omega)]; exact x5
        · rw [u 12 (by omega), if_neg (by omega)]; exact x12
        · rw [gIs, if_pos rfl, if_pos rfl, g_vl_3 kk]
  · have kk : g_kd T p = 0 := g_kd_0.mpr c1
    have een : g_en T p = g_st T p := by unfold g_en; rw [if_neg c1]
    rw [h1.2.1, if_neg (fun z => by have := (nI_ltI (by omega) (by omega)).mp z; omega)] at e2
    refine ⟨S1, e.trans e2, oc, h1, hp, ?_, v4, by rw [een]; exact v5, ?_, fun z => by omega, fun z => by omega⟩
    · rw [v3]; unfold g_km; rw [if_neg (by omega), kk]
    · rw [if_neg (by omega)]; exact v12
theorem m163n {S : z_S} {p : Nat} (h : mTk S T p) : ∃ S', fV (d + 2) 163 [.ref 396] S = some S' ∧ onM tDm S S' ∧ mTk S' T (g_en T p) := m163 h.1 (g_en_b h.2.1).2.1 h.2.2.2.2.1
end GH
