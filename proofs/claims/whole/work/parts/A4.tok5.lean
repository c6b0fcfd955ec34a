/-! THE TEXT: the class's advance. -/
section GE
variable {d : Nat} {T : List Nat} {y1 y2 : Int32}
theorem c98_27 {p : Nat} : ∀ (m i : Nat) (S : z_S), i + m = T.length → cTx S T → gI S 19 3 = nI i → g_st T p = g_rn g_w T i → ∃ S', b98_27 d y1 y2 S = b98_79 d y1 y2 S' ∧ onI (fun c k => c = 19 ∧ k = 3) S S' ∧ gI S' 19 3 = nI (g_st T p)
  | 0, i, S, hi, h, h3, hs => by
    have e := b98_27_eq d y1 y2 S h.1
    have h1600 := h.2.2.2.1
    rw [h.2.2.1, h3, if_pos (nI_le (by omega) (by omega))] at e
    rw [g_rn_e (p := i) (by omega)] at hs
    exact ⟨S, e, onI.refl h.1, by rw [hs]; exact h3⟩
  | m + 1, i, S, hi, h, h3, hs => by
    have e := b98_27_eq d y1 y2 S h.1
    have h1600 := h.2.2.2.1
    have c1 : i < T.length := by omega
    obtain ⟨z1, z2⟩ := h.at c1 h3
    have hb := (h.2.2.2.2.1 i c1).2
    rw [h.2.2.1, h3, if_neg (nI_ge c1 (by omega)), ← h3, if_pos z1, z2, if_pos z1] at e
    have nx : b98_66 d y1 y2 S = b98_27 d y1 y2 (sI S 19 3 (nI (i + 1))) := by rw [b98_66_eq d y1 y2 S h.1, h3, nI_1]
    have o1 : onI (fun c k => c = 19 ∧ k = 3) S (sI S 19 3 (nI (i + 1))) := onI_sI (D := fun c k => c = 19 ∧ k = 3) (c := 19) (k := 3) (onI.refl h.1) ⟨rfl, rfl⟩
    have v1 : gI (sI S 19 3 (nI (i + 1))) 19 3 = nI (i + 1) := by rw [gIs, if_pos rfl, if_pos rfl]
    by_cases cw : g_w (g_t T i) = true
    · have hw := g_w_i.mp cw
      rw [g_rn_y c1 cw] at hs
      obtain ⟨S', a1, a2, a3⟩ := c98_27 (p := p) m (i + 1) (sI S 19 3 (nI (i + 1))) (by omega) (h.on o1 fun c k z => by omega) v1 hs
      refine ⟨S', ?_, o1.trans a2, a3⟩
      rw [e]
      by_cases c32 : g_t T i = 32
      · rw [c32, if_pos (show nI 32 = (32 : Int32) from rfl), nx]; exact a1
      · have c10 : g_t T i = 10 := by omega
        rw [c10, if_neg (show ¬ nI 10 = (32 : Int32) by decide), if_neg (show ¬ ¬ nI 10 = (10 : Int32) from fun z => z rfl), nx]; exact a1
    · have cw' : g_w (g_t T i) = false := by simpa using cw
      have hw : ¬ (g_t T i = 32 ∨ g_t T i = 10) := fun z => cw (g_w_i.mpr z)
      rw [g_rn_n c1 cw'] at hs
      rw [if_neg (show ¬ nI (g_t T i) = (32 : Int32) from fun z => by have := (nI_eq (b := 32) (by omega) (by omega)).mp z; omega), if_pos (show ¬ nI (g_t T i) = (10 : Int32) from fun z => by have := (nI_eq (b := 10) (by omega) (by omega)).mp z; omega)] at e
      exact ⟨S, e, onI.refl h.1, by rw [hs]; exact h3⟩
theorem c98_79 {S : z_S} {p k0 : Nat} (h : cTx S T) (hp : p ≤ T.length) (hk : p < T.length → ((k0 = 1 ∨ k0 = 2) ↔ g_ad T p = true)) (h3 : gI S 19 3 = nI (g_st T p)) : ∃ S', b98_79 (d + 2) (bI (decide (k0 = 1 ∨ k0 = 2))) (nI p) S = some S' ∧ onI tDa S S' ∧ cTk S' T p := by
  have h1600 := h.2.2.2.1
  have hsb := g_st_b hp
  have e := b98_79_eq (d + 2) (bI (decide (k0 = 1 ∨ k0 = 2))) (nI p) S h.1
  have r1 : gI (sI S 19 5 (nI (g_st T p))) 19 3 = nI (g_st T p) := by rw [gIs, if_pos rfl, if_neg (by decide)]; exact h3
  rw [h3, r1] at e
  have oc : onI tDa S (sI (sI (sI S 19 5 (nI (g_st T p))) 19 8 (nI (g_st T p))) 19 6 (0 : Int32)) := onI_sI (D := tDa) (c := 19) (k := 6) (onI_sI (D := tDa) (c := 19) (k := 8) (onI_sI (D := tDa) (c := 19) (k := 5) (onI.refl h.1) ⟨rfl, by omega, by omega⟩) ⟨rfl, by omega, by omega⟩) ⟨rfl, by omega, by omega⟩
  have v3 : gI (sI (sI (sI S 19 5 (nI (g_st T p))) 19 8 (nI (g_st T p))) 19 6 (0 : Int32)) 19 3 = nI (g_st T p) := by simp (disch := omega) only [ni_lit, nI_add, pk_mul, pk_sub, pk_div, nI_leI, nI_ltI, nI_eq, nI_clamp, ni_in, ni_inm, ni_ltm, ni_mlt, ni_lem, ni_mle, ni_eqm, ni_meq, ni_mm, ni_mmle, ni_bit, ni_shl, ni_clr, fa_or, Nat.add_zero, Nat.zero_add, Nat.zero_mul, Nat.mul_zero, eOn, eOs, if_true, if_false, not_true_eq_false, not_false_eq_true, ite_true, ite_false, true_and, and_true, false_and, and_false, or_true, true_or, or_false, false_or, Bool.false_eq_true, reduceIte, Bool.not_true, Bool.not_false, and_self, or_self, q_ef, q_et, q_ltt, q_ltf, q_let, q_lef, gIs, gIl, gIr, gLs, gLl, gLr, gPs, gPl, gPr, gLc, gPc, zb_some, Option.bind_some, q_nm, q_pm, q_hm, q_tm, q_sm, q_wm, q_ym, q_lm, q_ua, h3]
  have v5 : gI (sI (sI (sI S 19 5 (nI (g_st T p))) 19 8 (nI (g_st T p))) 19 6 (0 : Int32)) 19 5 = nI (g_st T p) := by simp (disch := omega) only [ni_lit, nI_add, pk_mul, pk_sub, pk_div, nI_leI, nI_ltI, nI_eq, nI_clamp, ni_in, ni_inm, ni_ltm, ni_mlt, ni_lem, ni_mle, ni_eqm, ni_meq, ni_mm, ni_mmle, ni_bit, ni_shl, ni_clr, fa_or, Nat.add_zero, Nat.zero_add, Nat.zero_mul, Nat.mul_zero, eOn, eOs, if_true, if_false, not_true_eq_false, not_false_eq_true, ite_true, ite_false, true_and, and_true, false_and, and_false, or_true, true_or, or_false, false_or, Bool.false_eq_true, reduceIte, Bool.not_true, Bool.not_false, and_self, or_self, q_ef, q_et, q_ltt, q_ltf, q_let, q_lef, gIs, gIl, gIr, gLs, gLl, gLr, gPs, gPl, gPr, gLc, gPc, zb_some, Option.bind_some, q_nm, q_pm, q_hm, q_tm, q_sm, q_wm, q_ym, q_lm, q_ua]
  have v6 : gI (sI (sI (sI S 19 5 (nI (g_st T p))) 19 8 (nI (g_st T p))) 19 6 (0 : Int32)) 19 6 = nI 0 := by simp (disch := omega) only [ni_lit, nI_add, pk_mul, pk_sub, pk_div, nI_leI, nI_ltI, nI_eq, nI_clamp, ni_in, ni_inm, ni_ltm, ni_mlt, ni_lem, ni_mle, ni_eqm, ni_meq, ni_mm, ni_mmle, ni_bit, ni_shl, ni_clr, fa_or, Nat.add_zero, Nat.zero_add, Nat.zero_mul, Nat.mul_zero, eOn, eOs, if_true, if_false, not_true_eq_false, not_false_eq_true, ite_true, ite_false, true_and, and_true, false_and, and_false, or_true, true_or, or_false, false_or, Bool.false_eq_true, reduceIte, Bool.not_true, Bool.not_false, and_self, or_self, q_ef, q_et, q_ltt, q_ltf, q_let, q_lef, gIs, gIl, gIr, gLs, gLl, gLr, gPs, gPl, gPr, gLc, gPc, zb_some, Option.bind_some, q_nm, q_pm, q_hm, q_tm, q_sm, q_wm, q_ym, q_lm, q_ua]
  have v8 : gI (sI (sI (sI S 19 5 (nI (g_st T p))) 19 8 (nI (g_st T p))) 19 6 (0 : Int32)) 19 8 = nI (g_st T p) := by simp (disch := omega) only [ni_lit, nI_add, pk_mul, pk_sub, pk_div, nI_leI, nI_ltI, nI_eq, nI_clamp, ni_in, ni_inm, ni_ltm, ni_mlt, ni_lem, ni_mle, ni_eqm, ni_meq, ni_mm, ni_mmle, ni_bit, ni_shl, ni_clr, fa_or, Nat.add_zero, Nat.zero_add, Nat.zero_mul, Nat.mul_zero, eOn, eOs, if_true, if_false, not_true_eq_false, not_false_eq_true, ite_true, ite_false, true_and, and_true, false_and, and_false, or_true, true_or, or_false, false_or, Bool.false_eq_true, reduceIte, Bool.not_true, Bool.not_false, and_self, or_self, q_ef, q_et, q_ltt, q_ltf, q_let, q_lef, gIs, gIl, gIr, gLs, gLl, gLr, gPs, gPl, gPr, gLc, gPc, zb_some, Option.bind_some, q_nm, q_pm, q_hm, q_tm, q_sm, q_wm, q_ym, q_lm, q_ua]
  generalize hS1 : sI (sI (sI S 19 5 (nI (g_st T p))) 19 8 (nI (g_st T p))) 19 6 (0 : Int32) = S1 at *
  have h1 : cTx S1 T := h.on oc fun c k z => by unfold tDa at z; omega
  by_cases c1 : g_st T p < T.length
  · obtain ⟨z1, z2⟩ := h1.at c1 v3
    have hb := (h1.2.2.2.2.1 (g_st T p) c1).2
    rw [v3, h1.2.2.1, if_pos (nI_lt c1 (by omega)), ← v3, if_pos z1, z2, c101 h1.1 hb, zb_some] at e
    cases cl : g_l (g_t T (g_st T p)) with
    | true =>
      have oq : onI tDa S1 (sI S1 19 4 (1 : Int32)) := onI_sI (D := tDa) (c := 19) (k := 4) (onI.refl h1.1) ⟨rfl, by omega, by omega⟩
      have hq : cTx (sI S1 19 4 (1 : Int32)) T := h1.on oq fun c k z => by unfold tDa at z; omega
      have n4 : ∀ k, k ≠ 4 → gI (sI S1 19 4 (1 : Int32)) 19 k = gI S1 19 k := fun k hk => by rw [gIs, if_pos rfl, if_neg hk]
      have q4 : gI (sI S1 19 4 (1 : Int32)) 19 4 = nI 1 := by rw [gIs, if_pos rfl, if_pos rfl]; rfl
      obtain ⟨S2, a1, a2, a3⟩ := c99w (d := d + 1) (s := g_st T p) hq (by omega) (by rw [n4 3 (by omega)]; exact v3) q4 (by rw [n4 5 (by omega)]; exact v5) (by rw [n4 6 (by omega)]; exact v6) (by rw [n4 8 (by omega)]; exact v8)
      have een : g_en T p = g_rn g_l T (g_st T p) := by unfold g_en; rw [if_pos c1, cl, if_pos rfl]
      have kk : g_kd T p = if g_ad T (g_st T p) || decide (6 < g_en T p - g_st T p) then 4 else 1 := by unfold g_kd; rw [if_pos c1, cl, if_pos rfl]
      unfold xRn at a3
      rw [← een] at a3
      rw [cl, if_neg (by decide), a1, Option.bind_some] at e
      have h2 : cTx S2 T := hq.on a2 fun c k z => by unfold tDw at z; omega
      have w5 : gI S2 19 5 = nI (g_st T p) := by rw [a2.I (by unfold tDw; omega), n4 5 (by omega)]; exact v5
      have kd14 : g_kd T p = 1 ∨ g_kd T p = 4 := by rw [kk]; split <;> omega
      obtain ⟨S3, b1, b2, b3⟩ := c98_e (d := d + 1) (k0 := k0) h2 hp hk w5 (by
        by_cases c6 : g_en T p - g_st T p ≤ 6
        · obtain ⟨x1, x2, x3, x5⟩ := a3.1 c6
          refine ⟨1, by omega, x1, by omega, fun z => ?_⟩
          have za : g_ad T (g_st T p) = false := by rcases z with z | z | z <;> first | exact z | omega
          have k1 : g_kd T p = 1 := by rw [kk, za, Bool.false_or, decide_eq_false (by omega), if_neg (by decide)]
          refine ⟨k1.symm, ?_⟩
          unfold g_ft
          rw [if_neg (by omega)]; exact x5
        · obtain ⟨x1, x2⟩ := a3.2 (by omega)
          refine ⟨4, by omega, x1, by omega, fun z => ?_⟩
          have za : g_ad T (g_st T p) = false := by rcases z with z | z | z <;> first | exact z | omega
          have k1 : g_kd T p = 4 := by rw [kk, za, Bool.false_or, decide_eq_true (by omega), if_pos rfl]
          refine ⟨k1.symm, ?_⟩
          unfold g_ft
          rw [if_pos k1, za, if_neg (by decide), cl, if_pos rfl]; exact x2) (fun z => by
        have k1 : g_kd T p = 1 := by omega
        exact (a3.1 (g_kd_1 k1).2.2.2.2).2.1) (fun z => (a3.1 (g_kd_1 z).2.2.2.2).2.2.1) (fun z => by omega)
      exact ⟨S3, e.trans b1, ((oc.trans oq).trans (a2.mono fun c k z => by unfold tDw at z; unfold tDa; omega)).trans b2, b3⟩
    | false =>
      rw [cl, if_pos (by decide), if_pos z1, z2, c102 h1.1 hb, zb_some] at e
      cases cd : g_d (g_t T (g_st T p)) with
      | true =>
        have oq : onI tDa S1 (sI S1 19 4 (2 : Int32)) := onI_sI (D := tDa) (c := 19) (k := 4) (onI.refl h1.1) ⟨rfl, by omega, by omega⟩
        have hq : cTx (sI S1 19 4 (2 : Int32)) T := h1.on oq fun c k z => by unfold tDa at z; omega
        have n4 : ∀ k, k ≠ 4 → gI (sI S1 19 4 (2 : Int32)) 19 k = gI S1 19 k := fun k hk => by rw [gIs, if_pos rfl, if_neg hk]
        have q4 : gI (sI S1 19 4 (2 : Int32)) 19 4 = nI 2 := by rw [gIs, if_pos rfl, if_pos rfl]; rfl
        obtain ⟨S2, a1, a2, a3⟩ := c99n (d := d + 1) (s := g_st T p) hq (by omega) (by rw [n4 3 (by omega)]; exact v3) q4 (by rw [n4 5 (by omega)]; exact v5) (by rw [n4 6 (by omega)]; exact v6) (by rw [n4 8 (by omega)]; exact v8)
        have een : g_en T p = g_rn g_d T (g_st T p) := by unfold g_en; rw [if_pos c1, cl, if_neg (by decide), cd, if_pos rfl]
        have evl : g_vl T p = g_dv T (g_st T p) (g_en T p - g_st T p) := by unfold g_vl; rw [cd, if_pos rfl]
        have kk : g_kd T p = if g_ad T (g_st T p) || decide (4 < g_en T p - g_st T p) then 4 else 2 := by unfold g_kd; rw [if_pos c1, cl, if_neg (by decide), cd, if_pos rfl]
        unfold xRn at a3
        rw [← een] at a3
        rw [cd, if_neg (by decide), a1, Option.bind_some] at e
        have h2 : cTx S2 T := hq.on a2 fun c k z => by unfold tDw at z; omega
        have w5 : gI S2 19 5 = nI (g_st T p) := by rw [a2.I (by unfold tDw; omega), n4 5 (by omega)]; exact v5
        have kd24 : g_kd T p = 2 ∨ g_kd T p = 4 := by rw [kk]; split <;> omega
        obtain ⟨S3, b1, b2, b3⟩ := c98_e (d := d + 1) (k0 := k0) h2 hp hk w5 (by
          by_cases c6 : g_en T p - g_st T p ≤ 4
          · obtain ⟨x1, x2, x3, x5⟩ := a3.1 c6
            refine ⟨2, by omega, x1, by omega, fun z => ?_⟩
            have za : g_ad T (g_st T p) = false := by rcases z with z | z | z <;> first | exact z | omega
            have k1 : g_kd T p = 2 := by rw [kk, za, Bool.false_or, decide_eq_false (by omega), if_neg (by decide)]
            refine ⟨k1.symm, ?_⟩
            unfold g_ft
            rw [if_neg (by omega)]; exact x5
          · obtain ⟨x1, x2⟩ := a3.2 (by omega)
            refine ⟨4, by omega, x1, by omega, fun z => ?_⟩
            have za : g_ad T (g_st T p) = false := by rcases z with z | z | z <;> first | exact z | omega
            have k1 : g_kd T p = 4 := by rw [kk, za, Bool.false_or, decide_eq_true (by omega), if_pos rfl]
            refine ⟨k1.symm, ?_⟩
            unfold g_ft
            rw [if_pos k1, za, if_neg (by decide), cl, if_neg (by decide)]; exact x2) (fun z => by
          have k1 : g_kd T p = 2 := by omega
          exact (a3.1 (g_kd_2 k1).2.2.2.2).2.1) (fun z => by omega) (fun z => by
          have k1 : g_kd T p = 2 := by omega
          rw [evl]
          exact (a3.1 (g_kd_2 k1).2.2.2.2).2.2.1)
        exact ⟨S3, e.trans b1, ((oc.trans oq).trans (a2.mono fun c k z => by unfold tDw at z; unfold tDa; omega)).trans b2, b3⟩
      | false =>
        have kk : g_kd T p = 3 := by unfold g_kd; rw [if_pos c1, cl, if_neg (by decide), cd, if_neg (by decide)]
        have een : g_en T p = g_st T p + 1 := (g_kd_3 kk).2.2.2
        have evl : g_vl T p = g_t T (g_st T p) := by unfold g_vl; rw [cd, if_neg (by decide)]
        rw [cd, if_pos (by decide)] at e
        have oq : onI tDa S1 (sI S1 19 4 (3 : Int32)) := onI_sI (D := tDa) (c := 19) (k := 4) (onI.refl h1.1) ⟨rfl, by omega, by omega⟩
        have hq : cTx (sI S1 19 4 (3 : Int32)) T := h1.on oq fun c k z => by unfold tDa at z; omega
        have q3 : gI (sI S1 19 4 (3 : Int32)) 19 3 = nI (g_st T p) := by rw [gIs, if_pos rfl, if_neg (by decide)]; exact v3
        obtain ⟨y1', y2'⟩ := hq.at c1 q3
        rw [if_pos y1', y2'] at e
        have q4 : gI (sI (sI S1 19 4 (3 : Int32)) 19 6 (nI (g_t T (g_st T p)))) 19 3 + (1 : Int32) = nI (g_en T p) := by
          rw [een]
          simp (disch := omega) only [ni_lit, nI_add, pk_mul, pk_sub, pk_div, nI_leI, nI_ltI, nI_eq, nI_clamp, ni_in, ni_inm, ni_ltm, ni_mlt, ni_lem, ni_mle, ni_eqm, ni_meq, ni_mm, ni_mmle, ni_bit, ni_shl, ni_clr, fa_or, Nat.add_zero, Nat.zero_add, Nat.zero_mul, Nat.mul_zero, eOn, eOs, if_true, if_false, not_true_eq_false, not_false_eq_true, ite_true, ite_false, true_and, and_true, false_and, and_false, or_true, true_or, or_false, false_or, Bool.false_eq_true, reduceIte, Bool.not_true, Bool.not_false, and_self, or_self, q_ef, q_et, q_ltt, q_ltf, q_let, q_lef, gIs, gIl, gIr, gLs, gLl, gLr, gPs, gPl, gPr, gLc, gPc, zb_some, Option.bind_some, q_nm, q_pm, q_hm, q_tm, q_sm, q_wm, q_ym, q_lm, q_ua, v3]
        rw [q4] at e
        have o2 : onI tDa S1 (sI (sI (sI S1 19 4 (3 : Int32)) 19 6 (nI (g_t T (g_st T p)))) 19 3 (nI (g_en T p))) := onI_sI (D := tDa) (c := 19) (k := 3) (onI_sI (D := tDa) (c := 19) (k := 6) oq ⟨rfl, by omega, by omega⟩) ⟨rfl, by omega, by omega⟩
        have x3 : gI (sI (sI (sI S1 19 4 (3 : Int32)) 19 6 (nI (g_t T (g_st T p)))) 19 3 (nI (g_en T p))) 19 3 = nI (g_en T p) := by simp (disch := omega) only [ni_lit, nI_add, pk_mul, pk_sub, pk_div, nI_leI, nI_ltI, nI_eq, nI_clamp, ni_in, ni_inm, ni_ltm, ni_mlt, ni_lem, ni_mle, ni_eqm, ni_meq, ni_mm, ni_mmle, ni_bit, ni_shl, ni_clr, fa_or, Nat.add_zero, Nat.zero_add, Nat.zero_mul, Nat.mul_zero, eOn, eOs, if_true, if_false, not_true_eq_false, not_false_eq_true, ite_true, ite_false, true_and, and_true, false_and, and_false, or_true, true_or, or_false, false_or, Bool.false_eq_true, reduceIte, Bool.not_true, Bool.not_false, and_self, or_self, q_ef, q_et, q_ltt, q_ltf, q_let, q_lef, gIs, gIl, gIr, gLs, gLl, gLr, gPs, gPl, gPr, gLc, gPc, zb_some, Option.bind_some, q_nm, q_pm, q_hm, q_tm, q_sm, q_wm, q_ym, q_lm, q_ua]
        have x4 : gI (sI (sI (sI S1 19 4 (3 : Int32)) 19 6 (nI (g_t T (g_st T p)))) 19 3 (nI (g_en T p))) 19 4 = nI 3 := by simp (disch := omega) only [ni_lit, nI_add, pk_mul, pk_sub, pk_div, nI_leI, nI_ltI, nI_eq, nI_clamp, ni_in, ni_inm, ni_ltm, ni_mlt, ni_lem, ni_mle, ni_eqm, ni_meq, ni_mm, ni_mmle, ni_bit, ni_shl, ni_clr, fa_or, Nat.add_zero, Nat.zero_add, Nat.zero_mul, Nat.mul_zero, eOn, eOs, if_true, if_false, not_true_eq_false, not_false_eq_true, ite_true, ite_false, true_and, and_true, false_and, and_false, or_true, true_or, or_false, false_or, Bool.false_eq_true, reduceIte, Bool.not_true, Bool.not_false, and_self, or_self, q_ef, q_et, q_ltt, q_ltf, q_let, q_lef, gIs, gIl, gIr, gLs, gLl, gLr, gPs, gPl, gPr, gLc, gPc, zb_some, Option.bind_some, q_nm, q_pm, q_hm, q_tm, q_sm, q_wm, q_ym, q_lm, q_ua]
        have x5 : gI (sI (sI (sI S1 19 4 (3 : Int32)) 19 6 (nI (g_t T (g_st T p)))) 19 3 (nI (g_en T p))) 19 5 = nI (g_st T p) := by simp (disch := omega) only [ni_lit, nI_add, pk_mul, pk_sub, pk_div, nI_leI, nI_ltI, nI_eq, nI_clamp, ni_in, ni_inm, ni_ltm, ni_mlt, ni_lem, ni_mle, ni_eqm, ni_meq, ni_mm, ni_mmle, ni_bit, ni_shl, ni_clr, fa_or, Nat.add_zero, Nat.zero_add, Nat.zero_mul, Nat.mul_zero, eOn, eOs, if_true, if_false, not_true_eq_false, not_false_eq_true, ite_true, ite_false, true_and, and_true, false_and, and_false, or_true, true_or, or_false, false_or, Bool.false_eq_true, reduceIte, Bool.not_true, Bool.not_false, and_self, or_self, q_ef, q_et, q_ltt, q_ltf, q_let, q_lef, gIs, gIl, gIr, gLs, gLl, gLr, gPs, gPl, gPr, gLc, gPc, zb_some, Option.bind_some, q_nm, q_pm, q_hm, q_tm, q_sm, q_wm, q_ym, q_lm, q_ua, v5]
        have x6 : gI (sI (sI (sI S1 19 4 (3 : Int32)) 19 6 (nI (g_t T (g_st T p)))) 19 3 (nI (g_en T p))) 19 6 = nI (g_vl T p) := by rw [evl]; simp (disch := omega) only [ni_lit, nI_add, pk_mul, pk_sub, pk_div, nI_leI, nI_ltI, nI_eq, nI_clamp, ni_in, ni_inm, ni_ltm, ni_mlt, ni_lem, ni_mle, ni_eqm, ni_meq, ni_mm, ni_mmle, ni_bit, ni_shl, ni_clr, fa_or, Nat.add_zero, Nat.zero_add, Nat.zero_mul, Nat.mul_zero, eOn, eOs, if_true, if_false, not_true_eq_false, not_false_eq_true, ite_true, ite_false, true_and, and_true, false_and, and_false, or_true, true_or, or_false, false_or, Bool.false_eq_true, reduceIte, Bool.not_true, Bool.not_false, and_self, or_self, q_ef, q_et, q_ltt, q_ltf, q_let, q_lef, gIs, gIl, gIr, gLs, gLl, gLr, gPs, gPl, gPr, gLc, gPc, zb_some, Option.bind_some, q_nm, q_pm, q_hm, q_tm, q_sm, q_wm, q_ym, q_lm, q_ua]
        have x8 : gI (sI (sI (sI S1 19 4 (3 : Int32)) 19 6 (nI (g_t T (g_st T p)))) 19 3 (nI (g_en T p))) 19 8 = nI (g_st T p) := by simp (disch := omega) only [ni_lit, nI_add, pk_mul, pk_sub, pk_div, nI_leI, nI_ltI, nI_eq, nI_clamp, ni_in, ni_inm, ni_ltm, ni_mlt, ni_lem, ni_mle, ni_eqm, ni_meq, ni_mm, ni_mmle, ni_bit, ni_shl, ni_clr, fa_or, Nat.add_zero, Nat.zero_add, Nat.zero_mul, Nat.mul_zero, eOn, eOs, if_true, if_false, not_true_eq_false, not_false_eq_true, ite_true, ite_false, true_and, and_true, false_and, and_false, or_true, true_or, or_false, false_or, Bool.false_eq_true, reduceIte, Bool.not_true, Bool.not_false, and_self, or_self, q_ef, q_et, q_ltt, q_ltf, q_let, q_lef, gIs, gIl, gIr, gLs, gLl, gLr, gPs, gPl, gPr, gLc, gPc, zb_some, Option.bind_some, q_nm, q_pm, q_hm, q_tm, q_sm, q_wm, q_ym, q_lm, q_ua, v8]
        generalize hS2 : sI (sI (sI S1 19 4 (3 : Int32)) 19 6 (nI (g_t T (g_st T p)))) 19 3 (nI (g_en T p)) = S2 at *
        have hft : g_ft T p = g_st T p := by unfold g_ft; rw [if_neg (by omega)]
        obtain ⟨S3, b1, b2, b3⟩ := c98_e (d := d + 1) (k0 := k0) (h1.on o2 fun c k z => by unfold tDa at z; omega) hp hk x5 ⟨3, by omega, x4, by omega, fun _ => ⟨kk.symm, by rw [hft]; exact x8⟩⟩ (fun _ => x3) (fun z => by omega) (fun _ => x6)
        exact ⟨S3, e.trans b1, (oc.trans o2).trans b2, b3⟩
  · have kk : g_kd T p = 0 := g_kd_0.mpr c1
    have een : g_en T p = g_st T p := by unfold g_en; rw [if_neg c1]
    have hft : g_ft T p = g_st T p := by unfold g_ft; rw [if_neg (by omega)]
    rw [v3, h1.2.2.1, if_neg (fun z => by have := (nI_ltI (by omega) (by omega)).mp z; omega)] at e
    have o2 : onI tDa S1 (sI S1 19 4 (0 : Int32)) := onI_sI (D := tDa) (c := 19) (k := 4) (onI.refl h1.1) ⟨rfl, by omega, by omega⟩
    have n4 : ∀ k, k ≠ 4 → gI (sI S1 19 4 (0 : Int32)) 19 k = gI S1 19 k := fun k hk => by rw [gIs, if_pos rfl, if_neg hk]
    have x4 : gI (sI S1 19 4 (0 : Int32)) 19 4 = nI 0 := by rw [gIs, if_pos rfl, if_pos rfl]; rfl
    generalize hS2 : sI S1 19 4 (0 : Int32) = S2 at *
    obtain ⟨S3, b1, b2, b3⟩ := c98_e (d := d + 1) (k0 := k0) (h1.on o2 fun c k z => by unfold tDa at z; omega) hp hk (by rw [n4 5 (by omega)]; exact v5) ⟨0, by omega, x4, by omega, fun _ => ⟨kk.symm, by rw [hft, n4 8 (by omega)]; exact v8⟩⟩ (fun _ => by rw [een, n4 3 (by omega)]; exact v3) (fun z => by omega) (fun z => by omega)
    exact ⟨S3, e.trans b1, (oc.trans o2).trans b2, b3⟩
theorem c98 {S : z_S} {p k0 : Nat} (h : cTx S T) (hp : p ≤ T.length) (hk0 : k0 ≤ 3) (h4 : gI S 19 4 = nI k0) (h3 : gI S 19 3 = nI p) (hk : p < T.length → ((k0 = 1 ∨ k0 = 2) ↔ g_ad T p = true)) : ∃ S', fV (d + 3) 98 [.ref 19] S = some S' ∧ onI tDa S S' ∧ cTk S' T p := by
  have e := e98 (d + 2) S h.1
  have s1 : fV (d + 3) 98 [.ref 19] S = b98_27 (d + 2) (bI (decide (k0 = 1 ∨ k0 = 2))) (nI p) S := by
    have t : ∀ x, b98_21 (d + 2) x S = b98_27 (d + 2) x (nI p) S := fun x => by rw [b98_21_eq (d + 2) x S h.1, h3]
    rw [h4, b98_16_eq (d + 2) S h.1, t, t] at e
    rw [e]
    by_cases c1 : k0 = 1
    · rw [c1, if_pos (show nI 1 = (1 : Int32) from rfl)]; rfl
    · rw [if_neg (show ¬ nI k0 = (1 : Int32) from fun z => c1 ((nI_eq (b := 1) (by omega) (by omega)).mp z))]
      by_cases c2 : k0 = 2
      · rw [c2, if_neg (show ¬ ¬ nI 2 = (2 : Int32) from fun z => z rfl)]; rfl
      · rw [if_pos (show ¬ nI k0 = (2 : Int32) from fun z => c2 ((nI_eq (b := 2) (by omega) (by omega)).mp z)), decide_eq_false (by omega)]; rfl
  obtain ⟨S1, a1, a2, a3⟩ := c98_27 (d := d + 2) (p := p) (y1 := bI (decide (k0 = 1 ∨ k0 = 2))) (y2 := nI p) (T.length - p) p S (by omega) h h3 rfl
  obtain ⟨S2, b1, b2, b3⟩ := c98_79 (d := d) (k0 := k0) (h.on a2 fun c k z => by omega) hp hk a3
  exact ⟨S2, (s1.trans a1).trans b1, (a2.mono fun c k z => by unfold tDa; omega).trans b2, b3⟩
/-- on to the next token -/
theorem c98n {S : z_S} {p : Nat} (h : cTk S T p) (hk : g_kd T p ≠ 4) : ∃ S', fV (d + 3) 98 [.ref 19] S = some S' ∧ onI tDa S S' ∧ cTk S' T (g_en T p) := by
  have h4 := g_kd_le (T := T) (p := p)
  exact c98 (k0 := g_kd T p) h.1 (g_en_b h.2.1).2.1 (by omega) h.2.2.1 (h.2.2.2.2.2.1 hk) (fun z => g_en_ad h.2.1 hk z)
/-- an own word; a sign -/
def g_ow (T : List Nat) (p i : Nat) : Bool := decide (g_kd T p = 1) && decide (g_wl T p = g_o i)
def g_sg (T : List Nat) (p c : Nat) : Bool := decide (g_kd T p = 3) && decide (g_t T (g_st T p) = c)
theorem g_ok_1 {p : Nat} (h : g_kd T p ≠ 4) : g_ok T p := fun z => h z.1
theorem c103 {S : z_S} {p i : Nat} (h : cTk S T p) (hi : i < 24) : fI (d + 1) 103 [.ref 19, .int (nI i)] S = some (bI (g_ow T p i), S) := by
  have e := e103 d (nI i) S h.1.1
  rw [b103_20_eq d S h.1.1, h.2.2.1] at e
  have h4 := g_kd_le (T := T) (p := p)
  unfold g_ow
  by_cases c1 : g_kd T p = 1
  · have h7 := h.2.2.2.2.2.2.2.2 (g_ok_1 (by omega))
    rw [if_pos c1] at h7
    rw [if_neg (show ¬ ¬ nI (g_kd T p) = (1 : Int32) from fun z => z (by rw [c1]; rfl)), h7] at e
    rw [decide_eq_true c1, Bool.true_and]
    have ie : eO (g_oi (g_wl T p) 24) = nI i ↔ g_oi (g_wl T p) 24 = some i := eO_eq (fun j hj => by have := g_oi_lt 24 hj; omega) (by omega)
    rw [g_oi_i hi] at ie
    by_cases c2 : g_wl T p = g_o i
    · rw [if_neg (fun z => z (ie.mpr c2))] at e
      rw [decide_eq_true c2]; exact e
    · rw [if_pos (fun z => c2 (ie.mp z))] at e
      rw [decide_eq_false c2]; exact e
  · rw [if_pos (show ¬ nI (g_kd T p) = (1 : Int32) from fun z => c1 ((nI_eq (b := 1) (by omega) (by omega)).mp z))] at e
    rw [decide_eq_false c1, Bool.false_and]; exact e
theorem g_vl_3 {p : Nat} (h : g_kd T p = 3) : g_vl T p = g_t T (g_st T p) := by
  unfold g_vl
  rw [(g_kd_3 h).2.2.1, if_neg (by decide)]
theorem c104 {S : z_S} {p c : Nat} (h : cTk S T p) (hc : c < 256) : fI (d + 1) 104 [.ref 19, .int (nI c)] S = some (bI (g_sg T p c), S) := by
  have e := e104 d (nI c) S h.1.1
  rw [b104_20_eq d S h.1.1, h.2.2.1] at e
  have h4 := g_kd_le (T := T) (p := p)
  unfold g_sg
  by_cases c1 : g_kd T p = 3
  · have h6 := h.2.2.2.2.2.2.2.1 (Or.inr c1)
    rw [g_vl_3 c1] at h6
    have hb := (h.1.2.2.2.2.1 _ (g_kd_3 c1).1).2
    rw [if_neg (show ¬ ¬ nI (g_kd T p) = (3 : Int32) from fun z => z (by rw [c1]; rfl)), h6] at e
    rw [decide_eq_true c1, Bool.true_and]
    by_cases c2 : g_t T (g_st T p) = c
    · rw [if_neg (fun z => z (by rw [c2]))] at e
      rw [decide_eq_true c2]; exact e
    · rw [if_pos (fun z => c2 ((nI_eq (by omega) (by omega)).mp z))] at e
      rw [decide_eq_false c2]; exact e
  · rw [if_pos (show ¬ nI (g_kd T p) = (3 : Int32) from fun z => c1 ((nI_eq (b := 3) (by omega) (by omega)).mp z))] at e
    rw [decide_eq_false c1, Bool.false_and]; exact e
end GE
