/-! THE TEXT: the class goes on to the next token. -/
section GD
variable {d : Nat} {T : List Nat}
/-- the token behind p, as the class has it -/
def cTk (S : z_S) (T : List Nat) (p : Nat) : Prop := cTx S T ∧ p ≤ T.length ∧ gI S 19 4 = nI (g_kd T p) ∧ gI S 19 5 = nI (g_st T p) ∧ gI S 19 8 = nI (g_ft T p) ∧ (g_kd T p ≠ 4 → gI S 19 3 = nI (g_en T p)) ∧ (g_kd T p = 1 → gI S 19 6 = nI (q_nv (g_wl T p))) ∧ (g_kd T p = 2 ∨ g_kd T p = 3 → gI S 19 6 = nI (g_vl T p)) ∧ (g_ok T p → gI S 19 7 = eO (if g_kd T p = 1 then g_oi (g_wl T p) 24 else none))
theorem cTk.on {S S' : z_S} {D : Nat → Nat → Prop} {p : Nat} (h : cTk S T p) (ho : onI D S S') (hd : ∀ c k, D c k → 2 ≤ c ∧ c ≤ 18) : cTk S' T p := by
  obtain ⟨h1, h2, h3, h4, h5, h6, h7, h8, h9⟩ := h
  have g : ∀ k, gI S' 19 k = gI S 19 k := fun k => ho.I fun z => by have := hd _ _ z; omega
  refine ⟨h1.on ho fun c k z => Or.inl (hd c k z), h2, ?_⟩
  rw [g, g, g, g, g, g]
  exact ⟨h3, h4, h5, h6, h7, h8, h9⟩
def tDa : Nat → Nat → Prop := fun c k => c = 19 ∧ 3 ≤ k ∧ k ≤ 8
theorem g_wl_v {p : Nat} (hk : g_kd T p = 1) : g_vd (g_wl T p) ∧ (g_wl T p).length ≤ 6 := by
  obtain ⟨k1, k2, k3, k4, k5⟩ := g_kd_1 hk
  have hb := g_rn_b (f := g_l) (Nat.le_of_lt k1)
  unfold g_wl
  rw [g_ls_len]
  exact ⟨g_ls_vd fun i hi => hb.2.2.1 _ (by omega) (by omega), k5⟩
/-- the end of advance: which own word it is -/
theorem c98_w {S : z_S} {p : Nat} (h : cTx S T) (hp : p ≤ T.length) (hkd : gI S 19 4 = nI (g_kd T p)) (hs : gI S 19 5 = nI (g_st T p)) (hft : gI S 19 8 = nI (g_ft T p)) (h3 : g_kd T p ≠ 4 → gI S 19 3 = nI (g_en T p)) (h1 : g_kd T p = 1 → gI S 19 6 = nI (q_nv (g_wl T p))) (h2 : g_kd T p = 2 ∨ g_kd T p = 3 → gI S 19 6 = nI (g_vl T p)) : ∃ S', b98_254 (d + 1) S = some S' ∧ onI tDa S S' ∧ cTk S' T p := by
  have e := b98_254_eq (d + 1) S h.1
  have h4 := g_kd_le (T := T) (p := p)
  have key : ∀ v, v = eO (if g_kd T p = 1 then g_oi (g_wl T p) 24 else none) → onI tDa S (sI S 19 7 v) ∧ cTk (sI S 19 7 v) T p := fun v hv => by
    have o1 : onI tDa S (sI S 19 7 v) := onI_sI (D := tDa) (c := 19) (k := 7) (onI.refl h.1) ⟨rfl, by omega, by omega⟩
    have n7 : ∀ k, k ≠ 7 → gI (sI S 19 7 v) 19 k = gI S 19 k := fun k hk => by rw [gIs, if_pos rfl, if_neg hk]
    have v7 : gI (sI S 19 7 v) 19 7 = v := by rw [gIs, if_pos rfl, if_pos rfl]
    refine ⟨o1, h.on o1 fun c k z => by unfold tDa at z; omega, hp, ?_⟩
    rw [n7 4 (by omega), n7 5 (by omega), n7 8 (by omega), n7 3 (by omega), n7 6 (by omega), v7]
    exact ⟨hkd, hs, hft, h3, h1, h2, fun _ => hv⟩
  rw [hkd] at e
  by_cases c1 : g_kd T p = 1
  · obtain ⟨w1, w2⟩ := g_wl_v c1
    rw [if_neg (show ¬ ¬ nI (g_kd T p) = (1 : Int32) from fun z => z (by rw [c1]; rfl)), h1 c1, c100 (d := d) h.1 h.2.2.2.2.2 w1 w2, zb_some] at e
    obtain ⟨k1, k2⟩ := key (eO (g_oi (g_wl T p) 24)) (by rw [if_pos c1])
    exact ⟨_, e, k1, k2⟩
  · rw [if_pos (show ¬ nI (g_kd T p) = (1 : Int32) from fun z => c1 ((nI_eq (b := 1) (by omega) (by omega)).mp z))] at e
    obtain ⟨k1, k2⟩ := key (-1 : Int32) (by rw [if_neg c1]; rfl)
    exact ⟨_, e, k1, k2⟩
/-- the last test of advance -/
theorem c98_e {S : z_S} {p k0 : Nat} (h : cTx S T) (hp : p ≤ T.length) (hk : p < T.length → ((k0 = 1 ∨ k0 = 2) ↔ g_ad T p = true)) (hs : gI S 19 5 = nI (g_st T p)) (hkd : ∃ kr, kr ≤ 4 ∧ gI S 19 4 = nI kr ∧ ((kr = 0 ∨ kr = 3) ↔ (g_kd T p = 0 ∨ g_kd T p = 3)) ∧ (g_ad T (g_st T p) = false ∨ kr = 0 ∨ kr = 3 → kr = g_kd T p ∧ gI S 19 8 = nI (g_ft T p))) (h3 : g_kd T p ≠ 4 → gI S 19 3 = nI (g_en T p)) (h1 : g_kd T p = 1 → gI S 19 6 = nI (q_nv (g_wl T p))) (h2 : g_kd T p = 2 ∨ g_kd T p = 3 → gI S 19 6 = nI (g_vl T p)) : ∃ S', b98_214 (d + 1) (bI (decide (k0 = 1 ∨ k0 = 2))) (nI p) S = some S' ∧ onI tDa S S' ∧ cTk S' T p := by
  have h1600 := h.2.2.2.1
  have hsb := g_st_b hp
  obtain ⟨kr, k1, k2, k3, k4⟩ := hkd
  have e := b98_214_eq (d + 1) (bI (decide (k0 = 1 ∨ k0 = 2))) (nI p) S h.1
  rw [hs, k2] at e
  have plain : (g_ad T (g_st T p) = false ∨ kr = 0 ∨ kr = 3) → ∃ S', b98_254 (d + 1) S = some S' ∧ onI tDa S S' ∧ cTk S' T p := fun z => by
    obtain ⟨q1, q2⟩ := k4 z
    exact c98_w h hp (by rw [k2, q1]) hs q2 h3 h1 h2
  by_cases cb : k0 = 1 ∨ k0 = 2
  · rw [decide_eq_true cb] at e ⊢
    rw [if_neg (by decide)] at e
    by_cases cs : p = g_st T p
    · rw [if_neg (fun z => z (by rw [← cs]))] at e
      by_cases c0 : kr = 0
      · rw [c0, if_pos (show nI 0 = (0 : Int32) from rfl)] at e
        obtain ⟨S', x1, x2⟩ := plain (Or.inr (Or.inl c0))
        exact ⟨S', e.trans x1, x2⟩
      · rw [if_neg (show ¬ nI kr = (0 : Int32) from fun z => c0 ((nI_eq (b := 0) (by omega) (by omega)).mp z))] at e
        by_cases c3 : kr = 3
        · rw [c3, if_pos (show nI 3 = (3 : Int32) from rfl)] at e
          obtain ⟨S', x1, x2⟩ := plain (Or.inr (Or.inr c3))
          exact ⟨S', e.trans x1, x2⟩
        · rw [if_neg (show ¬ nI kr = (3 : Int32) from fun z => c3 ((nI_eq (b := 3) (by omega) (by omega)).mp z))] at e
          have hn : ¬ (g_kd T p = 0 ∨ g_kd T p = 3) := fun z => by have := k3.mpr z; omega
          have hlt : g_st T p < T.length := by
            apply Classical.byContradiction
            intro z
            exact hn (Or.inl (g_kd_0.mpr z))
          have had : g_ad T (g_st T p) = true := by rw [← cs]; exact (hk (by omega)).mp cb
          have hk4 : g_kd T p = 4 := by
            have h4 := g_kd_le (T := T) (p := p)
            have n1 : g_kd T p ≠ 1 := fun z => by rw [(g_kd_1 z).2.2.1] at had; cases had
            have n2 : g_kd T p ≠ 2 := fun z => by rw [(g_kd_2 z).2.2.1] at had; cases had
            omega
          have hft : g_ft T p = g_st T p := by unfold g_ft; rw [if_pos hk4, had, if_pos rfl]
          have o1 : onI tDa S (sI (sI S 19 4 (4 : Int32)) 19 8 (gI (sI S 19 4 (4 : Int32)) 19 5)) := onI_sI (D := tDa) (c := 19) (k := 8) (onI_sI (D := tDa) (c := 19) (k := 4) (onI.refl h.1) ⟨rfl, by omega, by omega⟩) ⟨rfl, by omega, by omega⟩
          have v4 : gI (sI (sI S 19 4 (4 : Int32)) 19 8 (gI (sI S 19 4 (4 : Int32)) 19 5)) 19 4 = nI (g_kd T p) := by rw [hk4]; simp (disch := omega) only [ni_lit, nI_add, pk_mul, pk_sub, pk_div, nI_leI, nI_ltI, nI_eq, nI_clamp, ni_in, ni_inm, ni_ltm, ni_mlt, ni_lem, ni_mle, ni_eqm, ni_meq, ni_mm, ni_mmle, ni_bit, ni_shl, ni_clr, fa_or, Nat.add_zero, Nat.zero_add, Nat.zero_mul, Nat.mul_zero, eOn, eOs, if_true, if_false, not_true_eq_false, not_false_eq_true, ite_true, ite_false, true_and, and_true, false_and, and_false, or_true, true_or, or_false, false_or, Bool.false_eq_true, reduceIte, Bool.not_true, Bool.not_false, and_self, or_self, q_ef, q_et, q_ltt, q_ltf, q_let, q_lef, gIs, gIl, gIr, gLs, gLl, gLr, gPs, gPl, gPr, gLc, gPc, zb_some, Option.bind_some, q_nm, q_pm, q_hm, q_tm, q_sm, q_wm, q_ym, q_lm, q_ua]
          have v5 : gI (sI (sI S 19 4 (4 : Int32)) 19 8 (gI (sI S 19 4 (4 : Int32)) 19 5)) 19 5 = nI (g_st T p) := by simp (disch := omega) only [ni_lit, nI_add, pk_mul, pk_sub, pk_div, nI_leI, nI_ltI, nI_eq, nI_clamp, ni_in, ni_inm, ni_ltm, ni_mlt, ni_lem, ni_mle, ni_eqm, ni_meq, ni_mm, ni_mmle, ni_bit, ni_shl, ni_clr, fa_or, Nat.add_zero, Nat.zero_add, Nat.zero_mul, Nat.mul_zero, eOn, eOs, if_true, if_false, not_true_eq_false, not_false_eq_true, ite_true, ite_false, true_and, and_true, false_and, and_false, or_true, true_or, or_false, false_or, Bool.false_eq_true, reduceIte, Bool.not_true, Bool.not_false, and_self, or_self, q_ef, q_et, q_ltt, q_ltf, q_let, q_lef, gIs, gIl, gIr, gLs, gLl, gLr, gPs, gPl, gPr, gLc, gPc, zb_some, Option.bind_some, q_nm, q_pm, q_hm, q_tm, q_sm, q_wm, q_ym, q_lm, q_ua, hs]
          have v8 : gI (sI (sI S 19 4 (4 : Int32)) 19 8 (gI (sI S 19 4 (4 : Int32)) 19 5)) 19 8 = nI (g_ft T p) := by rw [hft]; simp (disch := omega) only [ni_lit, nI_add, pk_mul, pk_sub, pk_div, nI_leI, nI_ltI, nI_eq, nI_clamp, ni_in, ni_inm, ni_ltm, ni_mlt, ni_lem, ni_mle, ni_eqm, ni_meq, ni_mm, ni_mmle, ni_bit, ni_shl, ni_clr, fa_or, Nat.add_zero, Nat.zero_add, Nat.zero_mul, Nat.mul_zero, eOn, eOs, if_true, if_false, not_true_eq_false, not_false_eq_true, ite_true, ite_false, true_and, and_true, false_and, and_false, or_true, true_or, or_false, false_or, Bool.false_eq_true, reduceIte, Bool.not_true, Bool.not_false, and_self, or_self, q_ef, q_et, q_ltt, q_ltf, q_let, q_lef, gIs, gIl, gIr, gLs, gLl, gLr, gPs, gPl, gPr, gLc, gPc, zb_some, Option.bind_some, q_nm, q_pm, q_hm, q_tm, q_sm, q_wm, q_ym, q_lm, q_ua, hs]
          generalize hS1 : sI (sI S 19 4 (4 : Int32)) 19 8 (gI (sI S 19 4 (4 : Int32)) 19 5) = S1 at e o1 v4 v5 v8
          obtain ⟨S', x1, x2, x3⟩ := c98_w (d := d) (h.on o1 fun c k z => by unfold tDa at z; omega) hp v4 v5 v8 (fun z => absurd hk4 z) (fun z => by omega) (fun z => by omega)
          exact ⟨S', e.trans x1, o1.trans x2, x3⟩
    · rw [if_pos (fun z => cs ((nI_eq (by omega) (by omega)).mp z))] at e
      obtain ⟨S', x1, x2⟩ := plain (Or.inl (g_st_ad hp (by omega)))
      exact ⟨S', e.trans x1, x2⟩
  · rw [decide_eq_false cb] at e ⊢
    rw [if_pos (by decide)] at e
    obtain ⟨S', x1, x2⟩ := plain (by
      by_cases cs : p = g_st T p
      · by_cases hlt : p < T.length
        · left
          rw [← cs]
          cases ha : g_ad T p with
          | false => rfl
          | true => exact absurd ((hk hlt).mpr ha) cb
        · right
          have : g_kd T p = 0 := g_kd_0.mpr (by omega)
          exact k3.mpr (Or.inl this)
      · exact Or.inl (g_st_ad hp (by omega)))
    exact ⟨S', e.trans x1, x2⟩
end GD
