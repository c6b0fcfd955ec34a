/-! THE REFERENCE: who comes. -/
/-- what is told as kept: night, lodger, room, the last 40 -/
def mKp (S : z_S) (v : Nat) (kl : List (Nat × Nat × Nat)) : Prop := kl.length ≤ 40 ∧ gI S 427 v = nI kl.length ∧ ∀ i, i < kl.length → gI S 428 (120 * v + 3 * i) = nI (kl.getD i (0, 0, 0)).1 ∧ gI S 428 (120 * v + 3 * i + 1) = nI (kl.getD i (0, 0, 0)).2.1 ∧ gI S 428 (120 * v + 3 * i + 2) = nI (kl.getD i (0, 0, 0)).2.2
def kD (v : Nat) : Nat → Nat → Prop := fun c k => c = 427 ∧ k = v ∨ c = 428 ∧ 120 * v ≤ k ∧ k < 120 * v + 120
theorem mKp.on {S S' : z_S} {v : Nat} {kl : List (Nat × Nat × Nat)} {D : Nat → Nat → Prop} (h : mKp S v kl) (ho : onM D S S') (hd : ∀ c k, kD v c k → ¬ D c k) : mKp S' v kl := by
  obtain ⟨h1, h2, h3⟩ := h
  unfold kD at hd
  refine ⟨h1, by rw [ho.I (hd _ _ (by omega))]; exact h2, fun i hi => ?_⟩
  rw [ho.I (hd _ _ (by omega)), ho.I (hd _ _ (by omega)), ho.I (hd _ _ (by omega))]
  exact h3 i hi
def q_kp (kl : List (Nat × Nat × Nat)) (x : Nat × Nat × Nat) : List (Nat × Nat × Nat) := if kl.length = 40 then kl.drop 1 ++ [x] else kl ++ [x]
def q_kpF (n : Nat) (kl : List (Nat × Nat × Nat)) (l : List (Nat × Nat)) : List (Nat × Nat × Nat) := l.foldl (fun a x => q_kp a (n, x.1, x.2)) kl
theorem q_kpF_1 (n : Nat) (kl : List (Nat × Nat × Nat)) (l : List (Nat × Nat)) (x : Nat × Nat) : q_kpF n kl (l ++ [x]) = q_kp (q_kpF n kl l) (n, x.1, x.2) := by unfold q_kpF; rw [List.foldl_append]; rfl
theorem q_kp_len {kl : List (Nat × Nat × Nat)} {x : Nat × Nat × Nat} (h : kl.length ≤ 40) : (q_kp kl x).length ≤ 40 := by
  unfold q_kp
  split
  · simp; omega
  · simp; omega
theorem q_env1 (P : q_Pl) (s : q_St) (r k own : Nat) : q_env P s r k own 1 = (q_n s : Int) := if_pos rfl
theorem q_env2 (P : q_Pl) (s : q_St) (r k own : Nat) : q_env P s r k own 2 = (r : Int) := by unfold q_env; rw [if_neg (by decide), if_pos rfl]
theorem q_env3 (P : q_Pl) (s : q_St) (r k own : Nat) : q_env P s r k own 3 = (q_y s k : Int) := by unfold q_env; rw [if_neg (by decide), if_neg (by decide), if_pos rfl]
theorem q_env4 (P : q_Pl) (s : q_St) (r k own : Nat) : q_env P s r k own 4 = ((p_R P - q_pc (q_h s ||| q_t s) : Nat) : Int) := by unfold q_env; rw [if_neg (by decide), if_neg (by decide), if_neg (by decide), if_pos rfl]
theorem q_env5 (P : q_Pl) (s : q_St) (r k own : Nat) : q_env P s r k own 5 = (own : Int) := by unfold q_env; rw [if_neg (by decide), if_neg (by decide), if_neg (by decide), if_neg (by decide)]
section MC
variable {d b v : Nat} {S : z_S} {P : q_Pl} {s : q_St}
theorem m218_2 {y x z : Nat} {kl : List (Nat × Nat × Nat)} (hW : z_W S) (hv : v < 22) (hn : gI S 420 v = nI y) (hk : mKp S v kl) (hl : kl.length < 40) : ∃ S', b218_63 d (nI v) (nI x) (nI z) S = some S' ∧ onM (kD v) S S' ∧ mKp S' v (kl ++ [(y, x, z)]) := by
  have e := b218_63_eq d (nI v) (nI x) (nI z) S hW
  obtain ⟨h1, h2, h3⟩ := hk
  simp (disch := omega) only [ni_lit, nI_add, pk_mul, pk_sub, pk_div, nI_leI, nI_ltI, nI_eq, nI_clamp, ni_in, ni_inm, ni_ltm, ni_mlt, ni_lem, ni_mle, ni_eqm, ni_meq, ni_mm, ni_mmle, ni_bit, ni_shl, ni_clr, fa_or, Nat.add_zero, Nat.zero_add, Nat.zero_mul, Nat.mul_zero, eOn, eOs, if_true, if_false, not_true_eq_false, not_false_eq_true, ite_true, ite_false, true_and, and_true, false_and, and_false, or_true, true_or, or_false, false_or, Bool.false_eq_true, reduceIte, Bool.not_true, Bool.not_false, and_self, or_self, q_ef, q_et, q_ltt, q_ltf, q_let, q_lef, gIs, gIl, gIr, gLs, gLl, gLr, gPs, gPl, gPr, gLc, gPc, zb_some, Option.bind_some, q_nm, q_pm, q_hm, q_tm, q_sm, q_wm, q_ym, q_lm, q_ua, h2, hn] at e
  refine ⟨_, e, ?_, ?_, ?_, fun i hi => ?_⟩
  · refine onM_sI (onM_sI (onM_sI (onM_sI (onM.refl hW) ?_) ?_) ?_) ?_
    · exact Or.inr ⟨rfl, by omega, by omega⟩
    · exact Or.inr ⟨rfl, by omega, by omega⟩
    · exact Or.inr ⟨rfl, by omega, by omega⟩
    · exact Or.inl ⟨rfl, rfl⟩
  · simp; omega
  · simp (disch := omega) only [ni_lit, nI_add, pk_mul, pk_sub, pk_div, nI_leI, nI_ltI, nI_eq, nI_clamp, ni_in, ni_inm, ni_ltm, ni_mlt, ni_lem, ni_mle, ni_eqm, ni_meq, ni_mm, ni_mmle, ni_bit, ni_shl, ni_clr, fa_or, Nat.add_zero, Nat.zero_add, Nat.zero_mul, Nat.mul_zero, eOn, eOs, if_true, if_false, not_true_eq_false, not_false_eq_true, ite_true, ite_false, true_and, and_true, false_and, and_false, or_true, true_or, or_false, false_or, Bool.false_eq_true, reduceIte, Bool.not_true, Bool.not_false, and_self, or_self, q_ef, q_et, q_ltt, q_ltf, q_let, q_lef, gIs, gIl, gIr, gLs, gLl, gLr, gPs, gPl, gPr, gLc, gPc, zb_some, Option.bind_some, q_nm, q_pm, q_hm, q_tm, q_sm, q_wm, q_ym, q_lm, q_ua]
    simp
  · rw [List.length_append, List.length_singleton] at hi
    by_cases c : i = kl.length
    · refine ⟨?_, ?_, ?_⟩
      · simp (disch := omega) only [ni_lit, nI_add, pk_mul, pk_sub, pk_div, nI_leI, nI_ltI, nI_eq, nI_clamp, ni_in, ni_inm, ni_ltm, ni_mlt, ni_lem, ni_mle, ni_eqm, ni_meq, ni_mm, ni_mmle, ni_bit, ni_shl, ni_clr, fa_or, Nat.add_zero, Nat.zero_add, Nat.zero_mul, Nat.mul_zero, eOn, eOs, if_true, if_false, not_true_eq_false, not_false_eq_true, ite_true, ite_false, true_and, and_true, false_and, and_false, or_true, true_or, or_false, false_or, Bool.false_eq_true, reduceIte, Bool.not_true, Bool.not_false, and_self, or_self, q_ef, q_et, q_ltt, q_ltf, q_let, q_lef, gIs, gIl, gIr, gLs, gLl, gLr, gPs, gPl, gPr, gLc, gPc, zb_some, Option.bind_some, q_nm, q_pm, q_hm, q_tm, q_sm, q_wm, q_ym, q_lm, q_ua]; simp [c]
      · simp (disch := omega) only [ni_lit, nI_add, pk_mul, pk_sub, pk_div, nI_leI, nI_ltI, nI_eq, nI_clamp, ni_in, ni_inm, ni_ltm, ni_mlt, ni_lem, ni_mle, ni_eqm, ni_meq, ni_mm, ni_mmle, ni_bit, ni_shl, ni_clr, fa_or, Nat.add_zero, Nat.zero_add, Nat.zero_mul, Nat.mul_zero, eOn, eOs, if_true, if_false, not_true_eq_false, not_false_eq_true, ite_true, ite_false, true_and, and_true, false_and, and_false, or_true, true_or, or_false, false_or, Bool.false_eq_true, reduceIte, Bool.not_true, Bool.not_false, and_self, or_self, q_ef, q_et, q_ltt, q_ltf, q_let, q_lef, gIs, gIl, gIr, gLs, gLl, gLr, gPs, gPl, gPr, gLc, gPc, zb_some, Option.bind_some, q_nm, q_pm, q_hm, q_tm, q_sm, q_wm, q_ym, q_lm, q_ua]; simp [c]
      · simp (disch := omega) only [ni_lit, nI_add, pk_mul, pk_sub, pk_div, nI_leI, nI_ltI, nI_eq, nI_clamp, ni_in, ni_inm, ni_ltm, ni_mlt, ni_lem, ni_mle, ni_eqm, ni_meq, ni_mm, ni_mmle, ni_bit, ni_shl, ni_clr, fa_or, Nat.add_zero, Nat.zero_add, Nat.zero_mul, Nat.mul_zero, eOn, eOs, if_true, if_false, not_true_eq_false, not_false_eq_true, ite_true, ite_false, true_and, and_true, false_and, and_false, or_true, true_or, or_false, false_or, Bool.false_eq_true, reduceIte, Bool.not_true, Bool.not_false, and_self, or_self, q_ef, q_et, q_ltt, q_ltf, q_let, q_lef, gIs, gIl, gIr, gLs, gLl, gLr, gPs, gPl, gPr, gLc, gPc, zb_some, Option.bind_some, q_nm, q_pm, q_hm, q_tm, q_sm, q_wm, q_ym, q_lm, q_ua]; simp [c]
    · have hi2 : i < kl.length := by omega
      have hg : (kl ++ [(y, x, z)]).getD i (0, 0, 0) = kl.getD i (0, 0, 0) := by rw [List.getD_eq_getElem?_getD, List.getD_eq_getElem?_getD, List.getElem?_append_left hi2]
      rw [hg]
      obtain ⟨k1, k2, k3⟩ := h3 i hi2
      refine ⟨?_, ?_, ?_⟩
      · simp (disch := omega) only [ni_lit, nI_add, pk_mul, pk_sub, pk_div, nI_leI, nI_ltI, nI_eq, nI_clamp, ni_in, ni_inm, ni_ltm, ni_mlt, ni_lem, ni_mle, ni_eqm, ni_meq, ni_mm, ni_mmle, ni_bit, ni_shl, ni_clr, fa_or, Nat.add_zero, Nat.zero_add, Nat.zero_mul, Nat.mul_zero, eOn, eOs, if_true, if_false, not_true_eq_false, not_false_eq_true, ite_true, ite_false, true_and, and_true, false_and, and_false, or_true, true_or, or_false, false_or, Bool.false_eq_true, reduceIte, Bool.not_true, Bool.not_false, and_self, or_self, q_ef, q_et, q_ltt, q_ltf, q_let, q_lef, gIs, gIl, gIr, gLs, gLl, gLr, gPs, gPl, gPr, gLc, gPc, zb_some, Option.bind_some, q_nm, q_pm, q_hm, q_tm, q_sm, q_wm, q_ym, q_lm, q_ua, k1]
      · simp (disch := omega) only [ni_lit, nI_add, pk_mul, pk_sub, pk_div, nI_leI, nI_ltI, nI_eq, nI_clamp, ni_in, ni_inm, ni_ltm, ni_mlt, ni_lem, ni_mle, ni_eqm, ni_meq, ni_mm, ni_mmle, ni_bit, ni_shl, ni_clr, fa_or, Nat.add_zero, Nat.zero_add, Nat.zero_mul, Nat.mul_zero, eOn, eOs, if_true, if_false, not_true_eq_false, not_false_eq_true, ite_true, ite_false, true_and, and_true, false_and, and_false, or_true, true_or, or_false, false_or, Bool.false_eq_true, reduceIte, Bool.not_true, Bool.not_false, and_self, or_self, q_ef, q_et, q_ltt, q_ltf, q_let, q_lef, gIs, gIl, gIr, gLs, gLl, gLr, gPs, gPl, gPr, gLc, gPc, zb_some, Option.bind_some, q_nm, q_pm, q_hm, q_tm, q_sm, q_wm, q_ym, q_lm, q_ua, k2]
      · simp (disch := omega) only [ni_lit, nI_add, pk_mul, pk_sub, pk_div, nI_leI, nI_ltI, nI_eq, nI_clamp, ni_in, ni_inm, ni_ltm, ni_mlt, ni_lem, ni_mle, ni_eqm, ni_meq, ni_mm, ni_mmle, ni_bit, ni_shl, ni_clr, fa_or, Nat.add_zero, Nat.zero_add, Nat.zero_mul, Nat.mul_zero, eOn, eOs, if_true, if_false, not_true_eq_false, not_false_eq_true, ite_true, ite_false, true_and, and_true, false_and, and_false, or_true, true_or, or_false, false_or, Bool.false_eq_true, reduceIte, Bool.not_true, Bool.not_false, and_self, or_self, q_ef, q_et, q_ltt, q_ltf, q_let, q_lef, gIs, gIl, gIr, gLs, gLl, gLr, gPs, gPl, gPr, gLc, gPc, zb_some, Option.bind_some, q_nm, q_pm, q_hm, q_tm, q_sm, q_wm, q_ym, q_lm, q_ua, k3]
theorem m218_1 {x z : Int32} (hv : v < 22) : ∀ (m j : Nat) (S : z_S), j + m = 117 → z_W S → gI S 427 v = nI 40 → ∃ S', b218_17 d (nI v) x z (nI (120 * v + j)) S = b218_63 d (nI v) x z (sI S' 427 v (nI 39)) ∧ onM (fun c k => c = 428 ∧ 120 * v + j ≤ k ∧ k < 120 * v + 117) S S' ∧ ∀ i, j ≤ i → i < 117 → gI S' 428 (120 * v + i) = gI S 428 (120 * v + i + 3)
  | 0, j, S, hj, hW, hk => by
    have e := b218_17_eq d (nI v) x z (nI (120 * v + j)) S hW
    simp (disch := omega) only [ni_lit, nI_add, pk_mul, pk_sub, pk_div, nI_leI, nI_ltI, nI_eq, nI_clamp, ni_in, ni_inm, ni_ltm, ni_mlt, ni_lem, ni_mle, ni_eqm, ni_meq, ni_mm, ni_mmle, ni_bit, ni_shl, ni_clr, fa_or, Nat.add_zero, Nat.zero_add, Nat.zero_mul, Nat.mul_zero, eOn, eOs, if_true, if_false, not_true_eq_false, not_false_eq_true, ite_true, ite_false, true_and, and_true, false_and, and_false, or_true, true_or, or_false, false_or, Bool.false_eq_true, reduceIte, Bool.not_true, Bool.not_false, and_self, or_self, q_ef, q_et, q_ltt, q_ltf, q_let, q_lef, gIs, gIl, gIr, gLs, gLl, gLr, gPs, gPl, gPr, gLc, gPc, zb_some, Option.bind_some, q_nm, q_pm, q_hm, q_tm, q_sm, q_wm, q_ym, q_lm, q_ua, hk] at e
    exact ⟨S, e, onM.refl hW, fun i a b => by omega⟩
  | m + 1, j, S, hj, hW, hk => by
    have e := b218_17_eq d (nI v) x z (nI (120 * v + j)) S hW
    simp (disch := omega) only [ni_lit, nI_add, pk_mul, pk_sub, pk_div, nI_leI, nI_ltI, nI_eq, nI_clamp, ni_in, ni_inm, ni_ltm, ni_mlt, ni_lem, ni_mle, ni_eqm, ni_meq, ni_mm, ni_mmle, ni_bit, ni_shl, ni_clr, fa_or, Nat.add_zero, Nat.zero_add, Nat.zero_mul, Nat.mul_zero, eOn, eOs, if_true, if_false, not_true_eq_false, not_false_eq_true, ite_true, ite_false, true_and, and_true, false_and, and_false, or_true, true_or, or_false, false_or, Bool.false_eq_true, reduceIte, Bool.not_true, Bool.not_false, and_self, or_self, q_ef, q_et, q_ltt, q_ltf, q_let, q_lef, gIs, gIl, gIr, gLs, gLl, gLr, gPs, gPl, gPr, gLc, gPc, zb_some, Option.bind_some, q_nm, q_pm, q_hm, q_tm, q_sm, q_wm, q_ym, q_lm, q_ua] at e
    have hW2 : z_W (sI S 428 (120 * v + j) (gI S 428 (120 * v + j + 3))) := hW
    obtain ⟨S', a1, a2, a3⟩ := m218_1 (x := x) (z := z) hv m (j + 1) (sI S 428 (120 * v + j) (gI S 428 (120 * v + j + 3))) (by omega) hW2 (by rw [gI_sI, if_neg (by decide)]; exact hk)
    refine ⟨S', e.trans (by rw [show 120 * v + j + 1 = 120 * v + (j + 1) by omega]; exact a1), ?_, fun i i1 i2 => ?_⟩
    · refine onM.trans (onM_sI (onM.refl hW) ⟨rfl, by omega, by omega⟩) (a2.mono fun c k z => ⟨z.1, by omega, z.2.2⟩)
    · by_cases c : i = j
      · rw [a2.I (by omega), c]
        simp (disch := omega) only [ni_lit, nI_add, pk_mul, pk_sub, pk_div, nI_leI, nI_ltI, nI_eq, nI_clamp, ni_in, ni_inm, ni_ltm, ni_mlt, ni_lem, ni_mle, ni_eqm, ni_meq, ni_mm, ni_mmle, ni_bit, ni_shl, ni_clr, fa_or, Nat.add_zero, Nat.zero_add, Nat.zero_mul, Nat.mul_zero, eOn, eOs, if_true, if_false, not_true_eq_false, not_false_eq_true, ite_true, ite_false, true_and, and_true, false_and, and_false, or_true, true_or, or_false, false_or, Bool.false_eq_true, reduceIte, Bool.not_true, Bool.not_false, and_self, or_self, q_ef, q_et, q_ltt, q_ltf, q_let, q_lef, gIs, gIl, gIr, gLs, gLl, gLr, gPs, gPl, gPr, gLc, gPc, zb_some, Option.bind_some, q_nm, q_pm, q_hm, q_tm, q_sm, q_wm, q_ym, q_lm, q_ua]
      · rw [a3 i (by omega) i2]
        simp (disch := omega) only [ni_lit, nI_add, pk_mul, pk_sub, pk_div, nI_leI, nI_ltI, nI_eq, nI_clamp, ni_in, ni_inm, ni_ltm, ni_mlt, ni_lem, ni_mle, ni_eqm, ni_meq, ni_mm, ni_mmle, ni_bit, ni_shl, ni_clr, fa_or, Nat.add_zero, Nat.zero_add, Nat.zero_mul, Nat.mul_zero, eOn, eOs, if_true, if_false, not_true_eq_false, not_false_eq_true, ite_true, ite_false, true_and, and_true, false_and, and_false, or_true, true_or, or_false, false_or, Bool.false_eq_true, reduceIte, Bool.not_true, Bool.not_false, and_self, or_self, q_ef, q_et, q_ltt, q_ltf, q_let, q_lef, gIs, gIl, gIr, gLs, gLl, gLr, gPs, gPl, gPr, gLc, gPc, zb_some, Option.bind_some, q_nm, q_pm, q_hm, q_tm, q_sm, q_wm, q_ym, q_lm, q_ua]
theorem m218 {y x z : Nat} {kl : List (Nat × Nat × Nat)} (hW : z_W S) (hv : v < 22) (hn : gI S 420 v = nI y) (hk : mKp S v kl) : ∃ S', fV (d + 1) 218 [.ref 396, .int (nI v), .int (nI x), .int (nI z)] S = some S' ∧ onM (kD v) S S' ∧ mKp S' v (q_kp kl (y, x, z)) := by
  have e := e218 d (nI v) (nI x) (nI z) S hW
  have hk' := hk
  obtain ⟨h1, h2, h3⟩ := hk
  unfold q_kp
  by_cases c : kl.length = 40
  · rw [c] at h2
    simp (disch := omega) only [ni_lit, nI_add, pk_mul, pk_sub, pk_div, nI_leI, nI_ltI, nI_eq, nI_clamp, ni_in, ni_inm, ni_ltm, ni_mlt, ni_lem, ni_mle, ni_eqm, ni_meq, ni_mm, ni_mmle, ni_bit, ni_shl, ni_clr, fa_or, Nat.add_zero, Nat.zero_add, Nat.zero_mul, Nat.mul_zero, eOn, eOs, if_true, if_false, not_true_eq_false, not_false_eq_true, ite_true, ite_false, true_and, and_true, false_and, and_false, or_true, true_or, or_false, false_or, Bool.false_eq_true, reduceIte, Bool.not_true, Bool.not_false, and_self, or_self, q_ef, q_et, q_ltt, q_ltf, q_let, q_lef, gIs, gIl, gIr, gLs, gLl, gLr, gPs, gPl, gPr, gLc, gPc, zb_some, Option.bind_some, q_nm, q_pm, q_hm, q_tm, q_sm, q_wm, q_ym, q_lm, q_ua, h2] at e
    obtain ⟨S1, a1, a2, a3⟩ := m218_1 (d := d) (x := nI x) (z := nI z) hv 117 0 S (by omega) hW h2
    rw [Nat.add_zero] at a1
    have hD : kl.drop 1 ++ [(y, x, z)] = kl.drop 1 ++ [(y, x, z)] := rfl
    have ho : onM (kD v) S (sI S1 427 v (nI 39)) := onM_sI (a2.mono fun c k z => Or.inr ⟨z.1, by omega, by omega⟩) (Or.inl ⟨rfl, rfl⟩)
    have hk1 : mKp (sI S1 427 v (nI 39)) v (kl.drop 1) := by
      refine ⟨by simp; omega, ?_, fun i hi => ?_⟩
      · simp (disch := omega) only [ni_lit, nI_add, pk_mul, pk_sub, pk_div, nI_leI, nI_ltI, nI_eq, nI_clamp, ni_in, ni_inm, ni_ltm, ni_mlt, ni_lem, ni_mle, ni_eqm, ni_meq, ni_mm, ni_mmle, ni_bit, ni_shl, ni_clr, fa_or, Nat.add_zero, Nat.zero_add, Nat.zero_mul, Nat.mul_zero, eOn, eOs, if_true, if_false, not_true_eq_false, not_false_eq_true, ite_true, ite_false, true_and, and_true, false_and, and_false, or_true, true_or, or_false, false_or, Bool.false_eq_true, reduceIte, Bool.not_true, Bool.not_false, and_self, or_self, q_ef, q_et, q_ltt, q_ltf, q_let, q_lef, gIs, gIl, gIr, gLs, gLl, gLr, gPs, gPl, gPr, gLc, gPc, zb_some, Option.bind_some, q_nm, q_pm, q_hm, q_tm, q_sm, q_wm, q_ym, q_lm, q_ua]; simp [c]
      · rw [List.length_drop, c] at hi
        have hg : (kl.drop 1).getD i (0, 0, 0) = kl.getD (i + 1) (0, 0, 0) := by rw [List.getD_eq_getElem?_getD, List.getD_eq_getElem?_getD, List.getElem?_drop, Nat.add_comm]
        rw [hg]
        obtain ⟨k1, k2, k3⟩ := h3 (i + 1) (by omega)
        refine ⟨?_, ?_, ?_⟩
        · simp (disch := omega) only [ni_lit, nI_add, pk_mul, pk_sub, pk_div, nI_leI, nI_ltI, nI_eq, nI_clamp, ni_in, ni_inm, ni_ltm, ni_mlt, ni_lem, ni_mle, ni_eqm, ni_meq, ni_mm, ni_mmle, ni_bit, ni_shl, ni_clr, fa_or, Nat.add_zero, Nat.zero_add, Nat.zero_mul, Nat.mul_zero, eOn, eOs, if_true, if_false, not_true_eq_false, not_false_eq_true, ite_true, ite_false, true_and, and_true, false_and, and_false, or_true, true_or, or_false, false_or, Bool.false_eq_true, reduceIte, Bool.not_true, Bool.not_false, and_self, or_self, q_ef, q_et, q_ltt, q_ltf, q_let, q_lef, gIs, gIl, gIr, gLs, gLl, gLr, gPs, gPl, gPr, gLc, gPc, zb_some, Option.bind_some, q_nm, q_pm, q_hm, q_tm, q_sm, q_wm, q_ym, q_lm, q_ua]
          rw [show 120 * v + 3 * i = 120 * v + (3 * i) by omega, a3 (3 * i) (by omega) (by omega), show 120 * v + 3 * i + 3 = 120 * v + 3 * (i + 1) by omega]; exact k1
        · simp (disch := omega) only [ni_lit, nI_add, pk_mul, pk_sub, pk_div, nI_leI, nI_ltI, nI_eq, nI_clamp, ni_in, ni_inm, ni_ltm, ni_mlt, ni_lem, ni_mle, ni_eqm, ni_meq, ni_mm, ni_mmle, ni_bit, ni_shl, ni_clr, fa_or, Nat.add_zero, Nat.zero_add, Nat.zero_mul, Nat.mul_zero, eOn, eOs, if_true, if_false, not_true_eq_false, not_false_eq_true, ite_true, ite_false, true_and, and_true, false_and, and_false, or_true, true_or, or_false, false_or, Bool.false_eq_true, reduceIte, Bool.not_true, Bool.not_false, and_self, or_self, q_ef, q_et, q_ltt, q_ltf, q_let, q_lef, gIs, gIl, gIr, gLs, gLl, gLr, gPs, gPl, gPr, gLc, gPc, zb_some, Option.bind_some, q_nm, q_pm, q_hm, q_tm, q_sm, q_wm, q_ym, q_lm, q_ua]
          rw [show 120 * v + 3 * i + 1 = 120 * v + (3 * i + 1) by omega, a3 (3 * i + 1) (by omega) (by omega), show 120 * v + (3 * i + 1) + 3 = 120 * v + 3 * (i + 1) + 1 by omega]; exact k2
        · simp (disch := omega) only [ni_lit, nI_add, pk_mul, pk_sub, pk_div, nI_leI, nI_ltI, nI_eq, nI_clamp, ni_in, ni_inm, ni_ltm, ni_mlt, ni_lem, ni_mle, ni_eqm, ni_meq, ni_mm, ni_mmle, ni_bit, ni_shl, ni_clr, fa_or, Nat.add_zero, Nat.zero_add, Nat.zero_mul, Nat.mul_zero, eOn, eOs, if_true, if_false, not_true_eq_false, not_false_eq_true, ite_true, ite_false, true_and, and_true, false_and, and_false, or_true, true_or, or_false, false_or, Bool.false_eq_true, reduceIte, Bool.not_true, Bool.not_false, and_self, or_self, q_ef, q_et, q_ltt, q_ltf, q_let, q_lef, gIs, gIl, gIr, gLs, gLl, gLr, gPs, gPl, gPr, gLc, gPc, zb_some, Option.bind_some, q_nm, q_pm, q_hm, q_tm, q_sm, q_wm, q_ym, q_lm, q_ua]
          rw [show 120 * v + 3 * i + 2 = 120 * v + (3 * i + 2) by omega, a3 (3 * i + 2) (by omega) (by omega), show 120 * v + (3 * i + 2) + 3 = 120 * v + 3 * (i + 1) + 2 by omega]; exact k3
    obtain ⟨S', b1, b2, b3⟩ := m218_2 (d := d) (x := x) (z := z) ho.W hv (by rw [ho.I (by unfold kD; omega)]; exact hn) hk1 (by simp; omega)
    rw [if_pos c]
    exact ⟨S', (e.trans a1).trans b1, ho.trans b2, b3⟩
  · simp (disch := omega) only [ni_lit, nI_add, pk_mul, pk_sub, pk_div, nI_leI, nI_ltI, nI_eq, nI_clamp, ni_in, ni_inm, ni_ltm, ni_mlt, ni_lem, ni_mle, ni_eqm, ni_meq, ni_mm, ni_mmle, ni_bit, ni_shl, ni_clr, fa_or, Nat.add_zero, Nat.zero_add, Nat.zero_mul, Nat.mul_zero, eOn, eOs, if_true, if_false, not_true_eq_false, not_false_eq_true, ite_true, ite_false, true_and, and_true, false_and, and_false, or_true, true_or, or_false, false_or, Bool.false_eq_true, reduceIte, Bool.not_true, Bool.not_false, and_self, or_self, q_ef, q_et, q_ltt, q_ltf, q_let, q_lef, gIs, gIl, gIr, gLs, gLl, gLr, gPs, gPl, gPr, gLc, gPc, zb_some, Option.bind_some, q_nm, q_pm, q_hm, q_tm, q_sm, q_wm, q_ym, q_lm, q_ua, h2] at e
    obtain ⟨S', b1, b2, b3⟩ := m218_2 (d := d) (x := x) (z := z) hW hv hn hk' (by omega)
    rw [if_neg c]
    exact ⟨S', e.trans b1, b2, b3⟩
theorem m219 {k r : Nat} (hW : z_W S) (hv : v < 22) (hs : mSt S v s) (hk : k < 16) (hr : r < 16) (hl : (q_l s).length ≤ 6) : ∃ S', fV (d + 1) 219 [.ref 396, .int (nI v), .int (nI k), .int (nI r)] S = some S' ∧ onM (vD v) S S' ∧ mSt S' v (q_bed s k r) := by
  have e := e219 d (nI v) (nI k) (nI r) S hW
  simp (disch := omega) only [ni_lit, nI_add, pk_mul, pk_sub, pk_div, nI_leI, nI_ltI, nI_eq, nI_clamp, ni_in, ni_inm, ni_ltm, ni_mlt, ni_lem, ni_mle, ni_eqm, ni_meq, ni_mm, ni_mmle, ni_bit, ni_shl, ni_clr, fa_or, Nat.add_zero, Nat.zero_add, Nat.zero_mul, Nat.mul_zero, eOn, eOs, if_true, if_false, not_true_eq_false, not_false_eq_true, ite_true, ite_false, true_and, and_true, false_and, and_false, or_true, true_or, or_false, false_or, Bool.false_eq_true, reduceIte, Bool.not_true, Bool.not_false, and_self, or_self, q_ef, q_et, q_ltt, q_ltf, q_let, q_lef, gIs, gIl, gIr, gLs, gLl, gLr, gPs, gPl, gPr, gLc, gPc, zb_some, Option.bind_some, q_nm, q_pm, q_hm, q_tm, q_sm, q_wm, q_ym, q_lm, q_ua] at e
  obtain ⟨h0, h1, h2, h3, h4, h5, h6⟩ := hs
  refine ⟨_, e, ?_, ?_, ?_, ?_, ?_, fun j hj => ?_, fun j hj => ?_, fun i hi => ?_⟩
  · refine onM_sI (onM_sI (onM.refl hW) ?_) ?_
    · exact Or.inr (Or.inl ⟨Or.inl rfl, by omega, by omega⟩)
    · exact Or.inr (Or.inl ⟨Or.inr rfl, by omega, by omega⟩)
  · simp (disch := omega) only [ni_lit, nI_add, pk_mul, pk_sub, pk_div, nI_leI, nI_ltI, nI_eq, nI_clamp, ni_in, ni_inm, ni_ltm, ni_mlt, ni_lem, ni_mle, ni_eqm, ni_meq, ni_mm, ni_mmle, ni_bit, ni_shl, ni_clr, fa_or, Nat.add_zero, Nat.zero_add, Nat.zero_mul, Nat.mul_zero, eOn, eOs, if_true, if_false, not_true_eq_false, not_false_eq_true, ite_true, ite_false, true_and, and_true, false_and, and_false, or_true, true_or, or_false, false_or, Bool.false_eq_true, reduceIte, Bool.not_true, Bool.not_false, and_self, or_self, q_ef, q_et, q_ltt, q_ltf, q_let, q_lef, gIs, gIl, gIr, gLs, gLl, gLr, gPs, gPl, gPr, gLc, gPc, zb_some, Option.bind_some, q_nm, q_pm, q_hm, q_tm, q_sm, q_wm, q_ym, q_lm, q_ua, h0]; rfl
  · simp (disch := omega) only [ni_lit, nI_add, pk_mul, pk_sub, pk_div, nI_leI, nI_ltI, nI_eq, nI_clamp, ni_in, ni_inm, ni_ltm, ni_mlt, ni_lem, ni_mle, ni_eqm, ni_meq, ni_mm, ni_mmle, ni_bit, ni_shl, ni_clr, fa_or, Nat.add_zero, Nat.zero_add, Nat.zero_mul, Nat.mul_zero, eOn, eOs, if_true, if_false, not_true_eq_false, not_false_eq_true, ite_true, ite_false, true_and, and_true, false_and, and_false, or_true, true_or, or_false, false_or, Bool.false_eq_true, reduceIte, Bool.not_true, Bool.not_false, and_self, or_self, q_ef, q_et, q_ltt, q_ltf, q_let, q_lef, gIs, gIl, gIr, gLs, gLl, gLr, gPs, gPl, gPr, gLc, gPc, zb_some, Option.bind_some, q_nm, q_pm, q_hm, q_tm, q_sm, q_wm, q_ym, q_lm, q_ua, h1]; rfl
  · simp (disch := omega) only [ni_lit, nI_add, pk_mul, pk_sub, pk_div, nI_leI, nI_ltI, nI_eq, nI_clamp, ni_in, ni_inm, ni_ltm, ni_mlt, ni_lem, ni_mle, ni_eqm, ni_meq, ni_mm, ni_mmle, ni_bit, ni_shl, ni_clr, fa_or, Nat.add_zero, Nat.zero_add, Nat.zero_mul, Nat.mul_zero, eOn, eOs, if_true, if_false, not_true_eq_false, not_false_eq_true, ite_true, ite_false, true_and, and_true, false_and, and_false, or_true, true_or, or_false, false_or, Bool.false_eq_true, reduceIte, Bool.not_true, Bool.not_false, and_self, or_self, q_ef, q_et, q_ltt, q_ltf, q_let, q_lef, gIs, gIl, gIr, gLs, gLl, gLr, gPs, gPl, gPr, gLc, gPc, zb_some, Option.bind_some, q_nm, q_pm, q_hm, q_tm, q_sm, q_wm, q_ym, q_lm, q_ua, h2]; rfl
  · simp (disch := omega) only [ni_lit, nI_add, pk_mul, pk_sub, pk_div, nI_leI, nI_ltI, nI_eq, nI_clamp, ni_in, ni_inm, ni_ltm, ni_mlt, ni_lem, ni_mle, ni_eqm, ni_meq, ni_mm, ni_mmle, ni_bit, ni_shl, ni_clr, fa_or, Nat.add_zero, Nat.zero_add, Nat.zero_mul, Nat.mul_zero, eOn, eOs, if_true, if_false, not_true_eq_false, not_false_eq_true, ite_true, ite_false, true_and, and_true, false_and, and_false, or_true, true_or, or_false, false_or, Bool.false_eq_true, reduceIte, Bool.not_true, Bool.not_false, and_self, or_self, q_ef, q_et, q_ltt, q_ltf, q_let, q_lef, gIs, gIl, gIr, gLs, gLl, gLr, gPs, gPl, gPr, gLc, gPc, zb_some, Option.bind_some, q_nm, q_pm, q_hm, q_tm, q_sm, q_wm, q_ym, q_lm, q_ua, h3]; rfl
  · show _ = eO (q_u (q_s s) r (some k) j)
    by_cases c : j = r
    · simp (disch := omega) only [ni_lit, nI_add, pk_mul, pk_sub, pk_div, nI_leI, nI_ltI, nI_eq, nI_clamp, ni_in, ni_inm, ni_ltm, ni_mlt, ni_lem, ni_mle, ni_eqm, ni_meq, ni_mm, ni_mmle, ni_bit, ni_shl, ni_clr, fa_or, Nat.add_zero, Nat.zero_add, Nat.zero_mul, Nat.mul_zero, eOn, eOs, if_true, if_false, not_true_eq_false, not_false_eq_true, ite_true, ite_false, true_and, and_true, false_and, and_false, or_true, true_or, or_false, false_or, Bool.false_eq_true, reduceIte, Bool.not_true, Bool.not_false, and_self, or_self, q_ef, q_et, q_ltt, q_ltf, q_let, q_lef, gIs, gIl, gIr, gLs, gLl, gLr, gPs, gPl, gPr, gLc, gPc, zb_some, Option.bind_some, q_nm, q_pm, q_hm, q_tm, q_sm, q_wm, q_ym, q_lm, q_ua]
    · simp (disch := omega) only [ni_lit, nI_add, pk_mul, pk_sub, pk_div, nI_leI, nI_ltI, nI_eq, nI_clamp, ni_in, ni_inm, ni_ltm, ni_mlt, ni_lem, ni_mle, ni_eqm, ni_meq, ni_mm, ni_mmle, ni_bit, ni_shl, ni_clr, fa_or, Nat.add_zero, Nat.zero_add, Nat.zero_mul, Nat.mul_zero, eOn, eOs, if_true, if_false, not_true_eq_false, not_false_eq_true, ite_true, ite_false, true_and, and_true, false_and, and_false, or_true, true_or, or_false, false_or, Bool.false_eq_true, reduceIte, Bool.not_true, Bool.not_false, and_self, or_self, q_ef, q_et, q_ltt, q_ltf, q_let, q_lef, gIs, gIl, gIr, gLs, gLl, gLr, gPs, gPl, gPr, gLc, gPc, zb_some, Option.bind_some, q_nm, q_pm, q_hm, q_tm, q_sm, q_wm, q_ym, q_lm, q_ua, h4 j hj]
  · show _ = nI (q_u (q_y s) k 0 j)
    by_cases c : j = k
    · simp (disch := omega) only [ni_lit, nI_add, pk_mul, pk_sub, pk_div, nI_leI, nI_ltI, nI_eq, nI_clamp, ni_in, ni_inm, ni_ltm, ni_mlt, ni_lem, ni_mle, ni_eqm, ni_meq, ni_mm, ni_mmle, ni_bit, ni_shl, ni_clr, fa_or, Nat.add_zero, Nat.zero_add, Nat.zero_mul, Nat.mul_zero, eOn, eOs, if_true, if_false, not_true_eq_false, not_false_eq_true, ite_true, ite_false, true_and, and_true, false_and, and_false, or_true, true_or, or_false, false_or, Bool.false_eq_true, reduceIte, Bool.not_true, Bool.not_false, and_self, or_self, q_ef, q_et, q_ltt, q_ltf, q_let, q_lef, gIs, gIl, gIr, gLs, gLl, gLr, gPs, gPl, gPr, gLc, gPc, zb_some, Option.bind_some, q_nm, q_pm, q_hm, q_tm, q_sm, q_wm, q_ym, q_lm, q_ua]
    · simp (disch := omega) only [ni_lit, nI_add, pk_mul, pk_sub, pk_div, nI_leI, nI_ltI, nI_eq, nI_clamp, ni_in, ni_inm, ni_ltm, ni_mlt, ni_lem, ni_mle, ni_eqm, ni_meq, ni_mm, ni_mmle, ni_bit, ni_shl, ni_clr, fa_or, Nat.add_zero, Nat.zero_add, Nat.zero_mul, Nat.mul_zero, eOn, eOs, if_true, if_false, not_true_eq_false, not_false_eq_true, ite_true, ite_false, true_and, and_true, false_and, and_false, or_true, true_or, or_false, false_or, Bool.false_eq_true, reduceIte, Bool.not_true, Bool.not_false, and_self, or_self, q_ef, q_et, q_ltt, q_ltf, q_let, q_lef, gIs, gIl, gIr, gLs, gLl, gLr, gPs, gPl, gPr, gLc, gPc, zb_some, Option.bind_some, q_nm, q_pm, q_hm, q_tm, q_sm, q_wm, q_ym, q_lm, q_ua, h5 j hj]
  · have hi2 : i < (q_l s).length := hi
    simp (disch := omega) only [ni_lit, nI_add, pk_mul, pk_sub, pk_div, nI_leI, nI_ltI, nI_eq, nI_clamp, ni_in, ni_inm, ni_ltm, ni_mlt, ni_lem, ni_mle, ni_eqm, ni_meq, ni_mm, ni_mmle, ni_bit, ni_shl, ni_clr, fa_or, Nat.add_zero, Nat.zero_add, Nat.zero_mul, Nat.mul_zero, eOn, eOs, if_true, if_false, not_true_eq_false, not_false_eq_true, ite_true, ite_false, true_and, and_true, false_and, and_false, or_true, true_or, or_false, false_or, Bool.false_eq_true, reduceIte, Bool.not_true, Bool.not_false, and_self, or_self, q_ef, q_et, q_ltt, q_ltf, q_let, q_lef, gIs, gIl, gIr, gLs, gLl, gLr, gPs, gPl, gPr, gLc, gPc, zb_some, Option.bind_some, q_nm, q_pm, q_hm, q_tm, q_sm, q_wm, q_ym, q_lm, q_ua, h6 i hi2]; rfl
theorem m205 {w : Nat} (hM : cM S b P) (hw : w < 3) : fI (d + 1) 205 [.ref 396, .int (nI w)] S = some (bI (!(p_d P w).isEmpty), S) := by
  obtain ⟨hW, hb, hbk, hC, hP⟩ := hM
  have e := e205 d (nI w) S hW
  rcases hC.2.2.2.2.2.2.2.2.2.2.2 w hw with ⟨k1, k2⟩ | ⟨k1, f, k2, k3, k4, k5⟩
  · simp (disch := omega) only [ni_lit, nI_add, pk_mul, pk_sub, pk_div, nI_leI, nI_ltI, nI_eq, nI_clamp, ni_in, ni_inm, ni_ltm, ni_mlt, ni_lem, ni_mle, ni_eqm, ni_meq, ni_mm, ni_mmle, ni_bit, ni_shl, ni_clr, fa_or, Nat.add_zero, Nat.zero_add, Nat.zero_mul, Nat.mul_zero, eOn, eOs, if_true, if_false, not_true_eq_false, not_false_eq_true, ite_true, ite_false, true_and, and_true, false_and, and_false, or_true, true_or, or_false, false_or, Bool.false_eq_true, reduceIte, Bool.not_true, Bool.not_false, and_self, or_self, q_ef, q_et, q_ltt, q_ltf, q_let, q_lef, gIs, gIl, gIr, gLs, gLl, gLr, gPs, gPl, gPr, gLc, gPc, zb_some, Option.bind_some, q_nm, q_pm, q_hm, q_tm, q_sm, q_wm, q_ym, q_lm, q_ua, hbk, k2] at e
    rw [k1]
    exact e
  · simp (disch := omega) only [ni_lit, nI_add, pk_mul, pk_sub, pk_div, nI_leI, nI_ltI, nI_eq, nI_clamp, ni_in, ni_inm, ni_ltm, ni_mlt, ni_lem, ni_mle, ni_eqm, ni_meq, ni_mm, ni_mmle, ni_bit, ni_shl, ni_clr, fa_or, Nat.add_zero, Nat.zero_add, Nat.zero_mul, Nat.mul_zero, eOn, eOs, if_true, if_false, not_true_eq_false, not_false_eq_true, ite_true, ite_false, true_and, and_true, false_and, and_false, or_true, true_or, or_false, false_or, Bool.false_eq_true, reduceIte, Bool.not_true, Bool.not_false, and_self, or_self, q_ef, q_et, q_ltt, q_ltf, q_let, q_lef, gIs, gIl, gIr, gLs, gLl, gLr, gPs, gPl, gPr, gLc, gPc, zb_some, Option.bind_some, q_nm, q_pm, q_hm, q_tm, q_sm, q_wm, q_ym, q_lm, q_ua, hbk, k3] at e
    cases hd : p_d P w with
    | nil => exact absurd hd k1
    | cons c r => exact e
theorem m216 {r k : Nat} (hM : cM S b P) (hv : v < 22) (hs : mSt S v s) (hG : q_Gd P s) (hk : q_s s r = some k) : ∃ S', fV (d + 5) 216 [.ref 396, .int (nI v), .int (nI r)] S = some S' ∧ onM (fun c _ => c = 430) S S' ∧ ∀ own j, 1 ≤ j → j ≤ 4 → gI S' 430 j = iI (q_env P s r k own j) := by
  have hP := hM.2.2.2.2
  obtain ⟨v1, v2, v3, v4⟩ := hG.sl hP hk
  have hL := hP.2.2.2.2.1
  have hR := hP.1
  have e := e216 (d + 4) (nI v) (nI r) S hM.1
  have a4 := hs.2.2.2.2.1 r (by omega)
  rw [hk] at a4
  have a5 := hs.2.2.2.2.2.1 k (by omega)
  have g1 : gI (sI (sI S 430 (1 : Int32).toNatClampNeg (gI S 420 (nI v).toNatClampNeg)) 430 (2 : Int32).toNatClampNeg (nI r)) 423 ((16 : Int32) * nI v + nI r).toNatClampNeg = nI k := by
    rw [gI_sI, if_neg (by decide), gI_sI, if_neg (by decide), show (16 : Int32) = nI 16 from rfl, pk_mul, nI_add, nI_clamp (by omega)]
    exact a4
  have g2 : gI (sI (sI S 430 (1 : Int32).toNatClampNeg (gI S 420 (nI v).toNatClampNeg)) 430 (2 : Int32).toNatClampNeg (nI r)) 424 ((16 : Int32) * nI v + nI k).toNatClampNeg = nI (q_y s k) := by
    rw [gI_sI, if_neg (by decide), gI_sI, if_neg (by decide), show (16 : Int32) = nI 16 from rfl, pk_mul, nI_add, nI_clamp (by omega)]
    exact a5
  have i1 : z_in (nI v) 22 := (ni_in (by omega)).mpr hv
  have i2 : z_in ((16 : Int32) * nI v + nI r) 352 := by rw [show (16 : Int32) = nI 16 from rfl, pk_mul, nI_add]; exact (ni_in (by omega)).mpr (by omega)
  have i3 : z_in ((16 : Int32) * nI v + nI k) 352 := by rw [show (16 : Int32) = nI 16 from rfl, pk_mul, nI_add]; exact (ni_in (by omega)).mpr (by omega)
  rw [g1, g2, if_pos i1, if_pos (show z_in (1 : Int32) 10 by decide), if_pos (show z_in (2 : Int32) 10 by decide), if_pos i2, if_pos i3, if_pos (show z_in (3 : Int32) 10 by decide), nI_clamp (by omega), hs.1] at e
  have ho : onM (fun c _ => c = 430) S (sI (sI (sI S 430 1 (nI (q_n s))) 430 2 (nI r)) 430 3 (nI (q_y s k))) := onM_sI (D := fun c _ => c = 430) (c := 430) (onM_sI (D := fun c _ => c = 430) (c := 430) (onM_sI (D := fun c _ => c = 430) (c := 430) (onM.refl hM.1) rfl) rfl) rfl
  have hM1 := hM.on ho (fun c k a b => by omega)
  have hs1 := hs.on (hG.Bd hP).2.2.1 ho (fun c k a b => by unfold vD at a; omega)
  have a9 := m209 (d := d) hM1 hv hs1 hG
  rw [show (1 : Int32).toNatClampNeg = 1 from rfl, show (2 : Int32).toNatClampNeg = 2 from rfl, show (3 : Int32).toNatClampNeg = 3 from rfl, a9, zb_some, if_pos (show z_in (4 : Int32) 10 by decide), show (4 : Int32).toNatClampNeg = 4 from rfl] at e
  refine ⟨_, e, onM_sI (D := fun c _ => c = 430) (c := 430) ho rfl, fun own j j1 j2 => ?_⟩
  have : j = 1 ∨ j = 2 ∨ j = 3 ∨ j = 4 := by omega
  rcases this with z | z | z | z <;> subst z
  · rw [q_env1, ← iI_n]; simp (disch := omega) only [gIs, ni_lit, nI_clamp, q_ef, q_et, q_ltt, q_ltf, q_let, q_lef, if_true, if_false, not_true_eq_false, not_false_eq_true, ite_true, ite_false, true_and, and_true, false_and, and_false, or_true, true_or, or_false, false_or, Bool.false_eq_true, reduceIte, Bool.not_true, Bool.not_false, and_self, or_self]
  · rw [q_env2, ← iI_n]; simp (disch := omega) only [gIs, ni_lit, nI_clamp, q_ef, q_et, q_ltt, q_ltf, q_let, q_lef, if_true, if_false, not_true_eq_false, not_false_eq_true, ite_true, ite_false, true_and, and_true, false_and, and_false, or_true, true_or, or_false, false_or, Bool.false_eq_true, reduceIte, Bool.not_true, Bool.not_false, and_self, or_self]
  · rw [q_env3, ← iI_n]; simp (disch := omega) only [gIs, ni_lit, nI_clamp, q_ef, q_et, q_ltt, q_ltf, q_let, q_lef, if_true, if_false, not_true_eq_false, not_false_eq_true, ite_true, ite_false, true_and, and_true, false_and, and_false, or_true, true_or, or_false, false_or, Bool.false_eq_true, reduceIte, Bool.not_true, Bool.not_false, and_self, or_self]
  · rw [q_env4, ← iI_n]; simp (disch := omega) only [gIs, ni_lit, nI_clamp, q_ef, q_et, q_ltt, q_ltf, q_let, q_lef, if_true, if_false, not_true_eq_false, not_false_eq_true, ite_true, ite_false, true_and, and_true, false_and, and_false, or_true, true_or, or_false, false_or, Bool.false_eq_true, reduceIte, Bool.not_true, Bool.not_false, and_self, or_self]
theorem m217 {r out T : Nat} (hM : cM S b P) (hv : v < 22) (hs : mSt S v s) (hG : q_Gd P s) (hT : gI S 396 56 = nI T) (hr : r < 16) (ho : out ≤ 40) (hT2 : T ≤ 40) : ∃ S', fI (d + 6) 217 [.ref 396, .int (nI v), .int (nI r), .int (nI out)] S = some (bI (q_yl P s r out T), S') ∧ onM (fun c _ => c = 429 ∨ c = 430) S S' := by
  have hP := hM.2.2.2.2
  have e := e217 (d + 5) (nI v) (nI r) (nI out) S hM.1
  have s5 := hs.2.2.2.2.1 r hr
  unfold q_yl
  cases hk : q_s s r with
  | none =>
    rw [hk] at s5
    simp (disch := omega) only [ni_lit, nI_add, pk_mul, pk_sub, pk_div, nI_leI, nI_ltI, nI_eq, nI_clamp, ni_in, ni_inm, ni_ltm, ni_mlt, ni_lem, ni_mle, ni_eqm, ni_meq, ni_mm, ni_mmle, ni_bit, ni_shl, ni_clr, fa_or, Nat.add_zero, Nat.zero_add, Nat.zero_mul, Nat.mul_zero, eOn, eOs, if_true, if_false, not_true_eq_false, not_false_eq_true, ite_true, ite_false, true_and, and_true, false_and, and_false, or_true, true_or, or_false, false_or, Bool.false_eq_true, reduceIte, Bool.not_true, Bool.not_false, and_self, or_self, q_ef, q_et, q_ltt, q_ltf, q_let, q_lef, gIs, gIl, gIr, gLs, gLl, gLr, gPs, gPl, gPr, gLc, gPc, zb_some, Option.bind_some, q_nm, q_pm, q_hm, q_tm, q_sm, q_wm, q_ym, q_lm, q_ua, s5] at e
    exact ⟨S, e, onM.refl hM.1⟩
  | some k =>
    obtain ⟨v1, v2, v3, v4⟩ := hG.sl hP hk
    have hL := hP.2.2.2.2.1
    have hR := hP.1
    rw [hk] at s5
    dsimp only
    by_cases c1 : out < T
    · have a1 := m205 (d := d + 4) (w := 0) hM (by omega)
      rw [decide_eq_true c1, Bool.true_and]
      cases hd : (p_d P 0).isEmpty with
      | true =>
        rw [hd] at a1
        simp (disch := omega) only [ni_lit, nI_add, pk_mul, pk_sub, pk_div, nI_leI, nI_ltI, nI_eq, nI_clamp, ni_in, ni_inm, ni_ltm, ni_mlt, ni_lem, ni_mle, ni_eqm, ni_meq, ni_mm, ni_mmle, ni_bit, ni_shl, ni_clr, fa_or, Nat.add_zero, Nat.zero_add, Nat.zero_mul, Nat.mul_zero, eOn, eOs, if_true, if_false, not_true_eq_false, not_false_eq_true, ite_true, ite_false, true_and, and_true, false_and, and_false, or_true, true_or, or_false, false_or, Bool.false_eq_true, reduceIte, Bool.not_true, Bool.not_false, and_self, or_self, q_ef, q_et, q_ltt, q_ltf, q_let, q_lef, gIs, gIl, gIr, gLs, gLl, gLr, gPs, gPl, gPr, gLc, gPc, zb_some, Option.bind_some, q_nm, q_pm, q_hm, q_tm, q_sm, q_wm, q_ym, q_lm, q_ua, s5, hT, a1, bIf] at e
        exact ⟨S, e, onM.refl hM.1⟩
      | false =>
        rw [hd] at a1
        have hne : p_d P 0 ≠ [] := fun z => by rw [z] at hd; cases hd
        have hty : q_tyL (p_d P 0) [] = some [true] := by
          rcases hP.2.2.2.2.2.2.2.2.2.2.2.1 with z | z
          · exact absurd z hne
          · exact z
        obtain ⟨S1, b1, b2, b3⟩ := m216 (d := d) hM hv hs hG hk
        simp (disch := omega) only [ni_lit, nI_add, pk_mul, pk_sub, pk_div, nI_leI, nI_ltI, nI_eq, nI_clamp, ni_in, ni_inm, ni_ltm, ni_mlt, ni_lem, ni_mle, ni_eqm, ni_meq, ni_mm, ni_mmle, ni_bit, ni_shl, ni_clr, fa_or, Nat.add_zero, Nat.zero_add, Nat.zero_mul, Nat.mul_zero, eOn, eOs, if_true, if_false, not_true_eq_false, not_false_eq_true, ite_true, ite_false, true_and, and_true, false_and, and_false, or_true, true_or, or_false, false_or, Bool.false_eq_true, reduceIte, Bool.not_true, Bool.not_false, and_self, or_self, q_ef, q_et, q_ltt, q_ltf, q_let, q_lef, gIs, gIl, gIr, gLs, gLl, gLr, gPs, gPl, gPr, gLc, gPc, zb_some, Option.bind_some, q_nm, q_pm, q_hm, q_tm, q_sm, q_wm, q_ym, q_lm, q_ua, s5, hT, a1, bIt, b1] at e
        have ho2 : onM (fun c _ => c = 429 ∨ c = 430) S (sI S1 430 5 (nI out)) := onM_sI (b2.mono fun c k z => Or.inr z) (Or.inr rfl)
        have hM1 := hM.on ho2 (fun c k a b => by omega)
        have hES := q_env_S (P := P) (s := s) (r := r) (k := k) (own := out) hP (hG.Bd hP) (by omega) (by omega)
        obtain ⟨S2, f1, f2⟩ := m204 (d := d + 2) (w := 0) (e := q_env P s r k out) hM1 (by omega) hES (fun j j1 j2 => by simp (disch := omega) only [ni_lit, nI_add, pk_mul, pk_sub, pk_div, nI_leI, nI_ltI, nI_eq, nI_clamp, ni_in, ni_inm, ni_ltm, ni_mlt, ni_lem, ni_mle, ni_eqm, ni_meq, ni_mm, ni_mmle, ni_bit, ni_shl, ni_clr, fa_or, Nat.add_zero, Nat.zero_add, Nat.zero_mul, Nat.mul_zero, eOn, eOs, if_true, if_false, not_true_eq_false, not_false_eq_true, ite_true, ite_false, true_and, and_true, false_and, and_false, or_true, true_or, or_false, false_or, Bool.false_eq_true, reduceIte, Bool.not_true, Bool.not_false, and_self, or_self, q_ef, q_et, q_ltt, q_ltf, q_let, q_lef, gIs, gIl, gIr, gLs, gLl, gLr, gPs, gPl, gPr, gLc, gPc, zb_some, Option.bind_some, q_nm, q_pm, q_hm, q_tm, q_sm, q_wm, q_ym, q_lm, q_ua]; exact b3 out j j1 j2) (by rw [q_env5, ← iI_n]; simp (disch := omega) only [gIs, q_ef, q_et, q_ltt, q_ltf, q_let, q_lef, if_true, if_false, not_true_eq_false, not_false_eq_true, ite_true, ite_false, true_and, and_true, false_and, and_false, or_true, true_or, or_false, false_or, Bool.false_eq_true, reduceIte, Bool.not_true, Bool.not_false, and_self, or_self]) hne hty
        have hvt := (q_val_VT (e := q_env P s r k out) hES hty).2 rfl
        have hz : (iL (q_val (q_env P s r k out) (p_d P 0)) = iL 1) ↔ q_val (q_env P s r k out) (p_d P 0) = 1 := iL_eq (by omega) (by omega) (by omega) (by omega)
        rw [f1, zb_some] at e
        simp only [lgE, iL_1, hz] at e
        refine ⟨S2, ?_, ho2.trans (f2.mono fun c k z => Or.inl z)⟩
        rw [e]
        rcases hvt with z | z
        · rw [z]; rfl
        · rw [z]; rfl
    · simp (disch := omega) only [ni_lit, nI_add, pk_mul, pk_sub, pk_div, nI_leI, nI_ltI, nI_eq, nI_clamp, ni_in, ni_inm, ni_ltm, ni_mlt, ni_lem, ni_mle, ni_eqm, ni_meq, ni_mm, ni_mmle, ni_bit, ni_shl, ni_clr, fa_or, Nat.add_zero, Nat.zero_add, Nat.zero_mul, Nat.mul_zero, eOn, eOs, if_true, if_false, not_true_eq_false, not_false_eq_true, ite_true, ite_false, true_and, and_true, false_and, and_false, or_true, true_or, or_false, false_or, Bool.false_eq_true, reduceIte, Bool.not_true, Bool.not_false, and_self, or_self, q_ef, q_et, q_ltt, q_ltf, q_let, q_lef, gIs, gIl, gIr, gLs, gLl, gLr, gPs, gPl, gPr, gLc, gPc, zb_some, Option.bind_some, q_nm, q_pm, q_hm, q_tm, q_sm, q_wm, q_ym, q_lm, q_ua, s5, hT] at e
      rw [decide_eq_false c1, Bool.false_and]
      exact ⟨S, e, onM.refl hM.1⟩
/-- what coming and nights change in layer v -/
def mD (v : Nat) : Nat → Nat → Prop := fun c k => vD v c k ∨ kD v c k ∨ c = 429 ∨ c = 430 ∨ c = 431
/-- who was put out stands in the reference -/
def mO (S : z_S) (o : List (Nat × Nat)) : Prop := ∀ i, i < o.length → gI S 431 i = nI (o.getD i (0, 0)).1
theorem m220_b {k out : Nat} (hM : cM S b P) (hv : v < 22) (hs : mSt S v s) (hG : q_Gd P s) (hk : k < p_L P) (hw : q_w s k = 255) : ∃ S', b220_84 d (nI v) (nI out) (nI k) (-nI 1) S = some (nI out, S') ∧ onM (vD v) S S' ∧ mSt S' v (q_ben (p_B P) s k) := by
  have hP := hM.2.2.2.2
  obtain ⟨hW, hb, hbk, hC, _⟩ := hM
  have e := b220_84_eq d (nI v) (nI out) (nI k) (-nI 1) S hW
  have hB6 := hP.2.1
  have hL := hP.2.2.2.2.1
  have hl := hG.2.2.2.2.2.2.2.2.2.1
  have y0 := (hG.2.2.2.2.2.2.2.2.2.2.1 k).2 (by omega)
  obtain ⟨h0, h1, h2, h3, h4, h5, h6⟩ := hs
  have hneg : ((-nI 1 : Int32) = -nI 1) = True := eq_true rfl
  unfold q_ben
  by_cases c : (q_l s).length < p_B P
  · simp (disch := omega) only [ni_lit, nI_add, pk_mul, pk_sub, pk_div, nI_leI, nI_ltI, nI_eq, nI_clamp, ni_in, ni_inm, ni_ltm, ni_mlt, ni_lem, ni_mle, ni_eqm, ni_meq, ni_mm, ni_mmle, ni_bit, ni_shl, ni_clr, fa_or, Nat.add_zero, Nat.zero_add, Nat.zero_mul, Nat.mul_zero, eOn, eOs, if_true, if_false, not_true_eq_false, not_false_eq_true, ite_true, ite_false, true_and, and_true, false_and, and_false, or_true, true_or, or_false, false_or, Bool.false_eq_true, reduceIte, Bool.not_true, Bool.not_false, and_self, or_self, q_ef, q_et, q_ltt, q_ltf, q_let, q_lef, gIs, gIl, gIr, gLs, gLl, gLr, gPs, gPl, gPr, gLc, gPc, zb_some, Option.bind_some, q_nm, q_pm, q_hm, q_tm, q_sm, q_wm, q_ym, q_lm, q_ua, hbk, h3, hC.2.1, hneg] at e
    rw [if_pos ⟨c, by omega⟩]
    refine ⟨_, e, ?_, ?_, ?_, ?_, ?_, fun j hj => ?_, fun j hj => ?_, fun i hi => ?_⟩
    · refine onM_sI (onM_sI (onM.refl hW) ?_) ?_
      · exact Or.inr (Or.inr ⟨rfl, by omega, by omega⟩)
      · exact Or.inl ⟨Or.inr (Or.inr (Or.inr rfl)), rfl⟩
    · simp (disch := omega) only [ni_lit, nI_add, pk_mul, pk_sub, pk_div, nI_leI, nI_ltI, nI_eq, nI_clamp, ni_in, ni_inm, ni_ltm, ni_mlt, ni_lem, ni_mle, ni_eqm, ni_meq, ni_mm, ni_mmle, ni_bit, ni_shl, ni_clr, fa_or, Nat.add_zero, Nat.zero_add, Nat.zero_mul, Nat.mul_zero, eOn, eOs, if_true, if_false, not_true_eq_false, not_false_eq_true, ite_true, ite_false, true_and, and_true, false_and, and_false, or_true, true_or, or_false, false_or, Bool.false_eq_true, reduceIte, Bool.not_true, Bool.not_false, and_self, or_self, q_ef, q_et, q_ltt, q_ltf, q_let, q_lef, gIs, gIl, gIr, gLs, gLl, gLr, gPs, gPl, gPr, gLc, gPc, zb_some, Option.bind_some, q_nm, q_pm, q_hm, q_tm, q_sm, q_wm, q_ym, q_lm, q_ua, h0]
    · simp (disch := omega) only [ni_lit, nI_add, pk_mul, pk_sub, pk_div, nI_leI, nI_ltI, nI_eq, nI_clamp, ni_in, ni_inm, ni_ltm, ni_mlt, ni_lem, ni_mle, ni_eqm, ni_meq, ni_mm, ni_mmle, ni_bit, ni_shl, ni_clr, fa_or, Nat.add_zero, Nat.zero_add, Nat.zero_mul, Nat.mul_zero, eOn, eOs, if_true, if_false, not_true_eq_false, not_false_eq_true, ite_true, ite_false, true_and, and_true, false_and, and_false, or_true, true_or, or_false, false_or, Bool.false_eq_true, reduceIte, Bool.not_true, Bool.not_false, and_self, or_self, q_ef, q_et, q_ltt, q_ltf, q_let, q_lef, gIs, gIl, gIr, gLs, gLl, gLr, gPs, gPl, gPr, gLc, gPc, zb_some, Option.bind_some, q_nm, q_pm, q_hm, q_tm, q_sm, q_wm, q_ym, q_lm, q_ua, h1]
    · simp (disch := omega) only [ni_lit, nI_add, pk_mul, pk_sub, pk_div, nI_leI, nI_ltI, nI_eq, nI_clamp, ni_in, ni_inm, ni_ltm, ni_mlt, ni_lem, ni_mle, ni_eqm, ni_meq, ni_mm, ni_mmle, ni_bit, ni_shl, ni_clr, fa_or, Nat.add_zero, Nat.zero_add, Nat.zero_mul, Nat.mul_zero, eOn, eOs, if_true, if_false, not_true_eq_false, not_false_eq_true, ite_true, ite_false, true_and, and_true, false_and, and_false, or_true, true_or, or_false, false_or, Bool.false_eq_true, reduceIte, Bool.not_true, Bool.not_false, and_self, or_self, q_ef, q_et, q_ltt, q_ltf, q_let, q_lef, gIs, gIl, gIr, gLs, gLl, gLr, gPs, gPl, gPr, gLc, gPc, zb_some, Option.bind_some, q_nm, q_pm, q_hm, q_tm, q_sm, q_wm, q_ym, q_lm, q_ua, h2]
    · simp (disch := omega) only [ni_lit, nI_add, pk_mul, pk_sub, pk_div, nI_leI, nI_ltI, nI_eq, nI_clamp, ni_in, ni_inm, ni_ltm, ni_mlt, ni_lem, ni_mle, ni_eqm, ni_meq, ni_mm, ni_mmle, ni_bit, ni_shl, ni_clr, fa_or, Nat.add_zero, Nat.zero_add, Nat.zero_mul, Nat.mul_zero, eOn, eOs, if_true, if_false, not_true_eq_false, not_false_eq_true, ite_true, ite_false, true_and, and_true, false_and, and_false, or_true, true_or, or_false, false_or, Bool.false_eq_true, reduceIte, Bool.not_true, Bool.not_false, and_self, or_self, q_ef, q_et, q_ltt, q_ltf, q_let, q_lef, gIs, gIl, gIr, gLs, gLl, gLr, gPs, gPl, gPr, gLc, gPc, zb_some, Option.bind_some, q_nm, q_pm, q_hm, q_tm, q_sm, q_wm, q_ym, q_lm, q_ua]; simp
    · simp (disch := omega) only [ni_lit, nI_add, pk_mul, pk_sub, pk_div, nI_leI, nI_ltI, nI_eq, nI_clamp, ni_in, ni_inm, ni_ltm, ni_mlt, ni_lem, ni_mle, ni_eqm, ni_meq, ni_mm, ni_mmle, ni_bit, ni_shl, ni_clr, fa_or, Nat.add_zero, Nat.zero_add, Nat.zero_mul, Nat.mul_zero, eOn, eOs, if_true, if_false, not_true_eq_false, not_false_eq_true, ite_true, ite_false, true_and, and_true, false_and, and_false, or_true, true_or, or_false, false_or, Bool.false_eq_true, reduceIte, Bool.not_true, Bool.not_false, and_self, or_self, q_ef, q_et, q_ltt, q_ltf, q_let, q_lef, gIs, gIl, gIr, gLs, gLl, gLr, gPs, gPl, gPr, gLc, gPc, zb_some, Option.bind_some, q_nm, q_pm, q_hm, q_tm, q_sm, q_wm, q_ym, q_lm, q_ua, h4 j hj]
    · by_cases z : j = k
      · simp (disch := omega) only [ni_lit, nI_add, pk_mul, pk_sub, pk_div, nI_leI, nI_ltI, nI_eq, nI_clamp, ni_in, ni_inm, ni_ltm, ni_mlt, ni_lem, ni_mle, ni_eqm, ni_meq, ni_mm, ni_mmle, ni_bit, ni_shl, ni_clr, fa_or, Nat.add_zero, Nat.zero_add, Nat.zero_mul, Nat.mul_zero, eOn, eOs, if_true, if_false, not_true_eq_false, not_false_eq_true, ite_true, ite_false, true_and, and_true, false_and, and_false, or_true, true_or, or_false, false_or, Bool.false_eq_true, reduceIte, Bool.not_true, Bool.not_false, and_self, or_self, q_ef, q_et, q_ltt, q_ltf, q_let, q_lef, gIs, gIl, gIr, gLs, gLl, gLr, gPs, gPl, gPr, gLc, gPc, zb_some, Option.bind_some, q_nm, q_pm, q_hm, q_tm, q_sm, q_wm, q_ym, q_lm, q_ua, h5 j hj]
        rw [z, y0]
      · simp (disch := omega) only [ni_lit, nI_add, pk_mul, pk_sub, pk_div, nI_leI, nI_ltI, nI_eq, nI_clamp, ni_in, ni_inm, ni_ltm, ni_mlt, ni_lem, ni_mle, ni_eqm, ni_meq, ni_mm, ni_mmle, ni_bit, ni_shl, ni_clr, fa_or, Nat.add_zero, Nat.zero_add, Nat.zero_mul, Nat.mul_zero, eOn, eOs, if_true, if_false, not_true_eq_false, not_false_eq_true, ite_true, ite_false, true_and, and_true, false_and, and_false, or_true, true_or, or_false, false_or, Bool.false_eq_true, reduceIte, Bool.not_true, Bool.not_false, and_self, or_self, q_ef, q_et, q_ltt, q_ltf, q_let, q_lef, gIs, gIl, gIr, gLs, gLl, gLr, gPs, gPl, gPr, gLc, gPc, zb_some, Option.bind_some, q_nm, q_pm, q_hm, q_tm, q_sm, q_wm, q_ym, q_lm, q_ua, h5 j hj]
    · have hi2 : i < (q_l s).length + 1 := by simpa [q_lm] using hi
      show _ = nI ((q_l s ++ [k]).getD i 0)
      by_cases z : i = (q_l s).length
      · simp (disch := omega) only [ni_lit, nI_add, pk_mul, pk_sub, pk_div, nI_leI, nI_ltI, nI_eq, nI_clamp, ni_in, ni_inm, ni_ltm, ni_mlt, ni_lem, ni_mle, ni_eqm, ni_meq, ni_mm, ni_mmle, ni_bit, ni_shl, ni_clr, fa_or, Nat.add_zero, Nat.zero_add, Nat.zero_mul, Nat.mul_zero, eOn, eOs, if_true, if_false, not_true_eq_false, not_false_eq_true, ite_true, ite_false, true_and, and_true, false_and, and_false, or_true, true_or, or_false, false_or, Bool.false_eq_true, reduceIte, Bool.not_true, Bool.not_false, and_self, or_self, q_ef, q_et, q_ltt, q_ltf, q_let, q_lef, gIs, gIl, gIr, gLs, gLl, gLr, gPs, gPl, gPr, gLc, gPc, zb_some, Option.bind_some, q_nm, q_pm, q_hm, q_tm, q_sm, q_wm, q_ym, q_lm, q_ua]; simp [z]
      · have hi3 : i < (q_l s).length := by omega
        simp (disch := omega) only [ni_lit, nI_add, pk_mul, pk_sub, pk_div, nI_leI, nI_ltI, nI_eq, nI_clamp, ni_in, ni_inm, ni_ltm, ni_mlt, ni_lem, ni_mle, ni_eqm, ni_meq, ni_mm, ni_mmle, ni_bit, ni_shl, ni_clr, fa_or, Nat.add_zero, Nat.zero_add, Nat.zero_mul, Nat.mul_zero, eOn, eOs, if_true, if_false, not_true_eq_false, not_false_eq_true, ite_true, ite_false, true_and, and_true, false_and, and_false, or_true, true_or, or_false, false_or, Bool.false_eq_true, reduceIte, Bool.not_true, Bool.not_false, and_self, or_self, q_ef, q_et, q_ltt, q_ltf, q_let, q_lef, gIs, gIl, gIr, gLs, gLl, gLr, gPs, gPl, gPr, gLc, gPc, zb_some, Option.bind_some, q_nm, q_pm, q_hm, q_tm, q_sm, q_wm, q_ym, q_lm, q_ua, h6 i hi3]; simp [List.getElem?_append_left hi3]
  · simp (disch := omega) only [ni_lit, nI_add, pk_mul, pk_sub, pk_div, nI_leI, nI_ltI, nI_eq, nI_clamp, ni_in, ni_inm, ni_ltm, ni_mlt, ni_lem, ni_mle, ni_eqm, ni_meq, ni_mm, ni_mmle, ni_bit, ni_shl, ni_clr, fa_or, Nat.add_zero, Nat.zero_add, Nat.zero_mul, Nat.mul_zero, eOn, eOs, if_true, if_false, not_true_eq_false, not_false_eq_true, ite_true, ite_false, true_and, and_true, false_and, and_false, or_true, true_or, or_false, false_or, Bool.false_eq_true, reduceIte, Bool.not_true, Bool.not_false, and_self, or_self, q_ef, q_et, q_ltt, q_ltf, q_let, q_lef, gIs, gIl, gIr, gLs, gLl, gLr, gPs, gPl, gPr, gLc, gPc, zb_some, Option.bind_some, q_nm, q_pm, q_hm, q_tm, q_sm, q_wm, q_ym, q_lm, q_ua, hbk, h3, hC.2.1, hneg] at e
    rw [if_neg (fun z => c z.1), q_out_id hG hw]
    exact ⟨S, e, onM.refl hW, ⟨h0, h1, h2, h3, h4, h5, h6⟩⟩
theorem m220_l {T : Nat} {kl : List (Nat × Nat × Nat)} (hv : v < 22) (hT2 : T ≤ 40) : ∀ (n : Nat) (s : q_St) (g r : Nat) (o : List (Nat × Nat)) (S : z_S), cM S b P → gI S 396 56 = nI T → mSt S v s → mKp S v (q_kpF (q_n s) kl o) → q_Gd P s → g < p_L P → q_w s g = 255 → (r = p_f P g ∨ r = p_o P g) → (q_s s r).isSome = true → o.length < T → T ≤ o.length + n → mO S o → ∃ S', b220_84 (d + 6) (nI v) (nI o.length) (nI g) (nI r) S = some (nI (q_chn P T n s g r o).2.length, S') ∧ onM (mD v) S S' ∧ mSt S' v (q_chn P T n s g r o).1 ∧ mKp S' v (q_kpF (q_n s) kl (q_chn P T n s g r o).2) ∧ mO S' (q_chn P T n s g r o).2
  | 0, s, g, r, o, S, _, _, _, _, _, _, _, _, _, h1, h2, _ => absurd h1 (by omega)
  | n + 1, s, g, r, o, S, hM, hT, hs, hk, hG, hgL, hw, hr, hv0, h1, h2, hO1 => by
    obtain ⟨x, hx⟩ := Option.isSome_iff_exists.mp hv0
    have hP := hM.2.2.2.2
    have hL := hP.2.2.2.2.1
    have hR := hP.1
    obtain ⟨v1, v2, v3, v4⟩ := hG.sl hP hx
    obtain ⟨hG1, _, hne⟩ := hG.put hP hgL hw hr hx
    have hB := hG.Bd hP
    have s5 := hs.2.2.2.2.1 r (by omega)
    rw [hx] at s5
    obtain ⟨S1, a1, a2, a3⟩ := m219 (d := d + 5) (k := g) (r := r) hM.1 hv hs (by omega) (by omega) hB.2.2.1
    have E := b220_84_eq (d + 6) (nI v) (nI o.length) (nI g) (nI r) S hM.1
    obtain ⟨nx1, nx2⟩ := q_oth_R hP v2 r
    simp (disch := omega) only [ni_lit, nI_add, pk_mul, pk_sub, pk_div, nI_leI, nI_ltI, nI_eq, nI_clamp, ni_in, ni_inm, ni_ltm, ni_mlt, ni_lem, ni_mle, ni_eqm, ni_meq, ni_mm, ni_mmle, ni_bit, ni_shl, ni_clr, fa_or, Nat.add_zero, Nat.zero_add, Nat.zero_mul, Nat.mul_zero, eOn, eOs, if_true, if_false, not_true_eq_false, not_false_eq_true, ite_true, ite_false, true_and, and_true, false_and, and_false, or_true, true_or, or_false, false_or, Bool.false_eq_true, reduceIte, Bool.not_true, Bool.not_false, and_self, or_self, q_ef, q_et, q_ltt, q_ltf, q_let, q_lef, zb_some, Option.bind_some, s5, a1] at E
    have hz : ∃ S2, S2 = sI (sI S1 431 o.length (nI x)) 424 (16 * v + x) (nI 0) ∧ onM (mD v) S S2 := ⟨sI (sI S1 431 o.length (nI x)) 424 (16 * v + x) (nI 0), rfl, onM_sI (D := mD v) (c := 424) (k := 16 * v + x) (onM_sI (D := mD v) (c := 431) (k := o.length) (a2.mono fun c k z => Or.inl z) (Or.inr (Or.inr (Or.inr (Or.inr rfl))))) (Or.inl (Or.inr (Or.inl ⟨Or.inr rfl, by omega, by omega⟩)))⟩
    obtain ⟨S2, hS2, ho2⟩ := hz
    rw [← hS2] at E
    have hs2 : mSt S2 v (q_out (q_bed s g r) x) := by
      obtain ⟨g0, g1, g2, g3, g4, g5, g6⟩ := a3
      have hl6 := hB.2.2.1
      rw [hS2]
      refine ⟨?_, ?_, ?_, ?_, fun j hj => ?_, fun j hj => ?_, fun i hi => ?_⟩
      · simp (disch := omega) only [ni_lit, nI_add, pk_mul, pk_sub, pk_div, nI_leI, nI_ltI, nI_eq, nI_clamp, ni_in, ni_inm, ni_ltm, ni_mlt, ni_lem, ni_mle, ni_eqm, ni_meq, ni_mm, ni_mmle, ni_bit, ni_shl, ni_clr, fa_or, Nat.add_zero, Nat.zero_add, Nat.zero_mul, Nat.mul_zero, eOn, eOs, if_true, if_false, not_true_eq_false, not_false_eq_true, ite_true, ite_false, true_and, and_true, false_and, and_false, or_true, true_or, or_false, false_or, Bool.false_eq_true, reduceIte, Bool.not_true, Bool.not_false, and_self, or_self, q_ef, q_et, q_ltt, q_ltf, q_let, q_lef, gIs, gIl, gIr, gLs, gLl, gLr, gPs, gPl, gPr, gLc, gPc, zb_some, Option.bind_some, q_nm, q_pm, q_hm, q_tm, q_sm, q_wm, q_ym, q_lm, q_ua, g0]; rfl
      · simp (disch := omega) only [ni_lit, nI_add, pk_mul, pk_sub, pk_div, nI_leI, nI_ltI, nI_eq, nI_clamp, ni_in, ni_inm, ni_ltm, ni_mlt, ni_lem, ni_mle, ni_eqm, ni_meq, ni_mm, ni_mmle, ni_bit, ni_shl, ni_clr, fa_or, Nat.add_zero, Nat.zero_add, Nat.zero_mul, Nat.mul_zero, eOn, eOs, if_true, if_false, not_true_eq_false, not_false_eq_true, ite_true, ite_false, true_and, and_true, false_and, and_false, or_true, true_or, or_false, false_or, Bool.false_eq_true, reduceIte, Bool.not_true, Bool.not_false, and_self, or_self, q_ef, q_et, q_ltt, q_ltf, q_let, q_lef, gIs, gIl, gIr, gLs, gLl, gLr, gPs, gPl, gPr, gLc, gPc, zb_some, Option.bind_some, q_nm, q_pm, q_hm, q_tm, q_sm, q_wm, q_ym, q_lm, q_ua, g1]; rfl
      · simp (disch := omega) only [ni_lit, nI_add, pk_mul, pk_sub, pk_div, nI_leI, nI_ltI, nI_eq, nI_clamp, ni_in, ni_inm, ni_ltm, ni_mlt, ni_lem, ni_mle, ni_eqm, ni_meq, ni_mm, ni_mmle, ni_bit, ni_shl, ni_clr, fa_or, Nat.add_zero, Nat.zero_add, Nat.zero_mul, Nat.mul_zero, eOn, eOs, if_true, if_false, not_true_eq_false, not_false_eq_true, ite_true, ite_false, true_and, and_true, false_and, and_false, or_true, true_or, or_false, false_or, Bool.false_eq_true, reduceIte, Bool.not_true, Bool.not_false, and_self, or_self, q_ef, q_et, q_ltt, q_ltf, q_let, q_lef, gIs, gIl, gIr, gLs, gLl, gLr, gPs, gPl, gPr, gLc, gPc, zb_some, Option.bind_some, q_nm, q_pm, q_hm, q_tm, q_sm, q_wm, q_ym, q_lm, q_ua, g2]; rfl
      · simp (disch := omega) only [ni_lit, nI_add, pk_mul, pk_sub, pk_div, nI_leI, nI_ltI, nI_eq, nI_clamp, ni_in, ni_inm, ni_ltm, ni_mlt, ni_lem, ni_mle, ni_eqm, ni_meq, ni_mm, ni_mmle, ni_bit, ni_shl, ni_clr, fa_or, Nat.add_zero, Nat.zero_add, Nat.zero_mul, Nat.mul_zero, eOn, eOs, if_true, if_false, not_true_eq_false, not_false_eq_true, ite_true, ite_false, true_and, and_true, false_and, and_false, or_true, true_or, or_false, false_or, Bool.false_eq_true, reduceIte, Bool.not_true, Bool.not_false, and_self, or_self, q_ef, q_et, q_ltt, q_ltf, q_let, q_lef, gIs, gIl, gIr, gLs, gLl, gLr, gPs, gPl, gPr, gLc, gPc, zb_some, Option.bind_some, q_nm, q_pm, q_hm, q_tm, q_sm, q_wm, q_ym, q_lm, q_ua, g3]; rfl
      · simp (disch := omega) only [ni_lit, nI_add, pk_mul, pk_sub, pk_div, nI_leI, nI_ltI, nI_eq, nI_clamp, ni_in, ni_inm, ni_ltm, ni_mlt, ni_lem, ni_mle, ni_eqm, ni_meq, ni_mm, ni_mmle, ni_bit, ni_shl, ni_clr, fa_or, Nat.add_zero, Nat.zero_add, Nat.zero_mul, Nat.mul_zero, eOn, eOs, if_true, if_false, not_true_eq_false, not_false_eq_true, ite_true, ite_false, true_and, and_true, false_and, and_false, or_true, true_or, or_false, false_or, Bool.false_eq_true, reduceIte, Bool.not_true, Bool.not_false, and_self, or_self, q_ef, q_et, q_ltt, q_ltf, q_let, q_lef, gIs, gIl, gIr, gLs, gLl, gLr, gPs, gPl, gPr, gLc, gPc, zb_some, Option.bind_some, q_nm, q_pm, q_hm, q_tm, q_sm, q_wm, q_ym, q_lm, q_ua, g4 j hj]; rfl
      · show _ = nI (q_u (q_y (q_bed s g r)) x 0 j)
        by_cases z : j = x
        · simp (disch := omega) only [ni_lit, nI_add, pk_mul, pk_sub, pk_div, nI_leI, nI_ltI, nI_eq, nI_clamp, ni_in, ni_inm, ni_ltm, ni_mlt, ni_lem, ni_mle, ni_eqm, ni_meq, ni_mm, ni_mmle, ni_bit, ni_shl, ni_clr, fa_or, Nat.add_zero, Nat.zero_add, Nat.zero_mul, Nat.mul_zero, eOn, eOs, if_true, if_false, not_true_eq_false, not_false_eq_true, ite_true, ite_false, true_and, and_true, false_and, and_false, or_true, true_or, or_false, false_or, Bool.false_eq_true, reduceIte, Bool.not_true, Bool.not_false, and_self, or_self, q_ef, q_et, q_ltt, q_ltf, q_let, q_lef, gIs, gIl, gIr, gLs, gLl, gLr, gPs, gPl, gPr, gLc, gPc, zb_some, Option.bind_some, q_nm, q_pm, q_hm, q_tm, q_sm, q_wm, q_ym, q_lm, q_ua]
        · simp (disch := omega) only [ni_lit, nI_add, pk_mul, pk_sub, pk_div, nI_leI, nI_ltI, nI_eq, nI_clamp, ni_in, ni_inm, ni_ltm, ni_mlt, ni_lem, ni_mle, ni_eqm, ni_meq, ni_mm, ni_mmle, ni_bit, ni_shl, ni_clr, fa_or, Nat.add_zero, Nat.zero_add, Nat.zero_mul, Nat.mul_zero, eOn, eOs, if_true, if_false, not_true_eq_false, not_false_eq_true, ite_true, ite_false, true_and, and_true, false_and, and_false, or_true, true_or, or_false, false_or, Bool.false_eq_true, reduceIte, Bool.not_true, Bool.not_false, and_self, or_self, q_ef, q_et, q_ltt, q_ltf, q_let, q_lef, gIs, gIl, gIr, gLs, gLl, gLr, gPs, gPl, gPr, gLc, gPc, zb_some, Option.bind_some, q_nm, q_pm, q_hm, q_tm, q_sm, q_wm, q_ym, q_lm, q_ua, g5 j hj]
      · have hi2 : i < (q_l s).length := hi
        simp (disch := omega) only [ni_lit, nI_add, pk_mul, pk_sub, pk_div, nI_leI, nI_ltI, nI_eq, nI_clamp, ni_in, ni_inm, ni_ltm, ni_mlt, ni_lem, ni_mle, ni_eqm, ni_meq, ni_mm, ni_mmle, ni_bit, ni_shl, ni_clr, fa_or, Nat.add_zero, Nat.zero_add, Nat.zero_mul, Nat.mul_zero, eOn, eOs, if_true, if_false, not_true_eq_false, not_false_eq_true, ite_true, ite_false, true_and, and_true, false_and, and_false, or_true, true_or, or_false, false_or, Bool.false_eq_true, reduceIte, Bool.not_true, Bool.not_false, and_self, or_self, q_ef, q_et, q_ltt, q_ltf, q_let, q_lef, gIs, gIl, gIr, gLs, gLl, gLr, gPs, gPl, gPr, gLc, gPc, zb_some, Option.bind_some, q_nm, q_pm, q_hm, q_tm, q_sm, q_wm, q_ym, q_lm, q_ua, g6 i hi]; rfl
    have hk2 : mKp S2 v (q_kpF (q_n s) kl o) := by
      refine hk.on (D := fun c k => vD v c k ∨ c = 431) ?_ (fun c k z1 z2 => ?_)
      · rw [hS2]
        exact onM_sI (D := fun c k => vD v c k ∨ c = 431) (c := 424) (k := 16 * v + x) (onM_sI (D := fun c k => vD v c k ∨ c = 431) (c := 431) (k := o.length) (a2.mono fun c k z => Or.inl z) (Or.inr rfl)) (Or.inl (Or.inr (Or.inl ⟨Or.inr rfl, by omega, by omega⟩)))
      · unfold kD at z1
        unfold vD at z2
        omega
    have hn2 : gI S2 420 v = nI (q_n s) := hs2.1
    obtain ⟨S3, b1, b2, b3⟩ := m218 (d := d + 5) (x := x) (z := r) ho2.W hv hn2 hk2
    have hlo : onM (mD v) S S3 := ho2.trans (b2.mono fun c k z => Or.inr (Or.inl z))
    have hM3 := hM.on hlo (fun c k a b => by unfold mD vD kD at b; omega)
    have hs3 : mSt S3 v (q_out (q_bed s g r) x) := hs2.on hB.2.2.1 b2 (fun c k z1 z2 => by unfold vD at z1; unfold kD at z2; omega)
    have hk3 : mKp S3 v (q_kpF (q_n s) kl (o ++ [(x, r)])) := by rw [q_kpF_1]; exact b3
    have hT3 : gI S3 396 56 = nI T := by rw [hlo.I (by unfold mD vD kD; omega)]; exact hT
    have hlen : (o ++ [(x, r)]).length = o.length + 1 := by simp
    have hO3 : mO S3 (o ++ [(x, r)]) := by
      intro i hi
      rw [hlen] at hi
      rw [b2.I (by unfold kD; omega), hS2]
      by_cases z : i = o.length
      · simp (disch := omega) only [ni_lit, nI_add, pk_mul, pk_sub, pk_div, nI_leI, nI_ltI, nI_eq, nI_clamp, ni_in, ni_inm, ni_ltm, ni_mlt, ni_lem, ni_mle, ni_eqm, ni_meq, ni_mm, ni_mmle, ni_bit, ni_shl, ni_clr, fa_or, Nat.add_zero, Nat.zero_add, Nat.zero_mul, Nat.mul_zero, eOn, eOs, if_true, if_false, not_true_eq_false, not_false_eq_true, ite_true, ite_false, true_and, and_true, false_and, and_false, or_true, true_or, or_false, false_or, Bool.false_eq_true, reduceIte, Bool.not_true, Bool.not_false, and_self, or_self, q_ef, q_et, q_ltt, q_ltf, q_let, q_lef, gIs, gIl, gIr, gLs, gLl, gLr, gPs, gPl, gPr, gLc, gPc, zb_some, Option.bind_some, q_nm, q_pm, q_hm, q_tm, q_sm, q_wm, q_ym, q_lm, q_ua]; simp [z]
      · have hi2 : i < o.length := by omega
        have hgi : (o ++ [(x, r)]).getD i (0, 0) = o.getD i (0, 0) := by rw [List.getD_eq_getElem?_getD, List.getD_eq_getElem?_getD, List.getElem?_append_left hi2]
        rw [hgi]
        simp (disch := omega) only [ni_lit, nI_add, pk_mul, pk_sub, pk_div, nI_leI, nI_ltI, nI_eq, nI_clamp, ni_in, ni_inm, ni_ltm, ni_mlt, ni_lem, ni_mle, ni_eqm, ni_meq, ni_mm, ni_mmle, ni_bit, ni_shl, ni_clr, fa_or, Nat.add_zero, Nat.zero_add, Nat.zero_mul, Nat.mul_zero, eOn, eOs, if_true, if_false, not_true_eq_false, not_false_eq_true, ite_true, ite_false, true_and, and_true, false_and, and_false, or_true, true_or, or_false, false_or, Bool.false_eq_true, reduceIte, Bool.not_true, Bool.not_false, and_self, or_self, q_ef, q_et, q_ltt, q_ltf, q_let, q_lef, gIs, gIl, gIr, gLs, gLl, gLr, gPs, gPl, gPr, gLc, gPc, zb_some, Option.bind_some, q_nm, q_pm, q_hm, q_tm, q_sm, q_wm, q_ym, q_lm, q_ua]
        rw [a2.I (by unfold vD; omega)]
        exact hO1 i hi2
    have c4 := m212 (d := d + 4) (k := x) (r := r) hM3 v2 (by omega)
    have c5 := m208 (d := d + 3) (r := q_oth P x r) hM3.1 hv hs3 hG1 hP (by omega)
    rw [b1, Option.bind_some, c4, zb_some, c5, zb_some] at E
    have hchn : q_chn P T (n + 1) s g r o = (if q_free (q_out (q_bed s g r) x) (q_oth P x r) then (q_bed (q_out (q_bed s g r) x) x (q_oth P x r), o ++ [(x, r)])
      else if q_yl P (q_out (q_bed s g r) x) (q_oth P x r) (o.length + 1) T then q_chn P T n (q_out (q_bed s g r) x) x (q_oth P x r) (o ++ [(x, r)])
      else (q_ben (p_B P) (q_out (q_bed s g r) x) x, o ++ [(x, r)])) := by rw [q_chn, hx]
    rw [hchn]
    have hw1 : q_w (q_out (q_bed s g r) x) x = 255 := q_us _ _ _
    by_cases c1 : q_free (q_out (q_bed s g r) x) (q_oth P x r) = true
    · rw [c1, if_pos (by decide), b220_189_eq (d + 6) _ _ _ _ S3 hM3.1, b220_195_eq (d + 6) _ _ _ _ S3 hM3.1, b220_84_eq (d + 6) _ _ _ _ S3 hM3.1] at E
      have hnx := ((q_free_iff hG1 _).mp c1).2
      have s6 := hs3.2.2.2.2.1 (q_oth P x r) (by omega)
      rw [hnx] at s6
      obtain ⟨S4, f1, f2, f3⟩ := m219 (d := d + 5) (k := x) (r := q_oth P x r) hM3.1 hv hs3 (by omega) (by omega) hB.2.2.1
      simp (disch := omega) only [ni_lit, nI_add, pk_mul, pk_sub, pk_div, nI_leI, nI_ltI, nI_eq, nI_clamp, ni_in, ni_inm, ni_ltm, ni_mlt, ni_lem, ni_mle, ni_eqm, ni_meq, ni_mm, ni_mmle, ni_bit, ni_shl, ni_clr, fa_or, Nat.add_zero, Nat.zero_add, Nat.zero_mul, Nat.mul_zero, eOn, eOs, if_true, if_false, not_true_eq_false, not_false_eq_true, ite_true, ite_false, true_and, and_true, false_and, and_false, or_true, true_or, or_false, false_or, Bool.false_eq_true, reduceIte, Bool.not_true, Bool.not_false, and_self, or_self, q_ef, q_et, q_ltt, q_ltf, q_let, q_lef, zb_some, Option.bind_some, s6, f1, not_true_eq_false] at E
      rw [if_pos c1]
      refine ⟨S4, ?_, hlo.trans (f2.mono fun c k z => Or.inl z), f3, hk3.on f2 (fun c k z1 z2 => by unfold kD at z1; unfold vD at z2; omega), fun i hi => ?_⟩
      · rw [hlen]
        exact E
      · rw [f2.I (by unfold vD; omega)]; exact hO3 i hi
    · have c1' : q_free (q_out (q_bed s g r) x) (q_oth P x r) = false := by simpa using c1
      obtain ⟨S4, f1, f2⟩ := m217 (d := d) (r := q_oth P x r) (out := o.length + 1) (T := T) hM3 hv hs3 hG1 hT3 (by omega) (by omega) hT2
      have hlo4 : onM (mD v) S S4 := hlo.trans (f2.mono fun c k z => Or.inr (Or.inr (by omega)))
      have hM4 := hM3.on f2 (fun c k a b => by omega)
      have hs4 : mSt S4 v (q_out (q_bed s g r) x) := hs3.on hB.2.2.1 f2 (fun c k z1 z2 => by unfold vD at z1; omega)
      have hk4 : mKp S4 v (q_kpF (q_n s) kl (o ++ [(x, r)])) := hk3.on f2 (fun c k z1 z2 => by unfold kD at z1; omega)
      have hT4 : gI S4 396 56 = nI T := by rw [f2.I (by omega)]; exact hT3
      have hO4 : mO S4 (o ++ [(x, r)]) := fun i hi => by rw [f2.I (by omega)]; exact hO3 i hi
      rw [c1', if_neg (by decide), f1, zb_some] at E
      rw [if_neg c1]
      by_cases c2 : q_yl P (q_out (q_bed s g r) x) (q_oth P x r) (o.length + 1) T = true
      · rw [c2, if_neg (by decide), b220_189_eq (d + 6) _ _ _ _ S4 hM4.1, b220_195_eq (d + 6) _ _ _ _ S4 hM4.1] at E
        rw [if_pos c2]
        have c3 : o.length + 1 < T ∧ (q_s (q_out (q_bed s g r) x) (q_oth P x r)).isSome = true := by
          unfold q_yl at c2
          split at c2
          · cases c2
          · rename_i k hk
            rw [Bool.and_eq_true] at c2
            exact ⟨of_decide_eq_true c2.1, by rw [hk]; rfl⟩
        obtain ⟨S5, j1, j2, j3, j4, j5⟩ := m220_l hv hT2 n (q_out (q_bed s g r) x) x (q_oth P x r) (o ++ [(x, r)]) S4 hM4 hT4 hs4 hk4 hG1 v2 hw1 nx2 c3.2 (by rw [hlen]; exact c3.1) (by rw [hlen]; omega) hO4
        rw [hlen] at j1
        exact ⟨S5, E.trans j1, hlo4.trans j2, j3, j4, j5⟩
      · have c2' : q_yl P (q_out (q_bed s g r) x) (q_oth P x r) (o.length + 1) T = false := by simpa using c2
        rw [c2', if_pos (by decide), b220_195_eq (d + 6) _ _ _ _ S4 hM4.1] at E
        rw [if_neg c2]
        obtain ⟨S5, j1, j2, j3⟩ := m220_b (d := d + 6) (k := x) (out := o.length + 1) hM4 hv hs4 hG1 v2 hw1
        refine ⟨S5, ?_, hlo4.trans (j2.mono fun c k z => Or.inl z), j3, hk4.on j2 (fun c k z1 z2 => by unfold kD at z1; unfold vD at z2; omega), fun i hi => ?_⟩
        · rw [hlen]; exact E.trans j1
        · rw [j2.I (by unfold vD; omega)]; exact hO4 i hi
theorem m220 {T k : Nat} {kl : List (Nat × Nat × Nat)} (hM : cM S b P) (hv : v < 22) (hT : gI S 396 56 = nI T) (hT2 : T ≤ 40) (hs : mSt S v s) (hk : mKp S v kl) (hG : q_Gd P s) (hkL : k < p_L P) (hw : q_w s k = 255) : ∃ S', fI (d + 7) 220 [.ref 396, .int (nI v), .int (nI k)] S = some (nI (q_arr P T s k).2.length, S') ∧ onM (mD v) S S' ∧ mSt S' v (q_arr P T s k).1 ∧ mKp S' v (q_kpF (q_n s) kl (q_arr P T s k).2) ∧ mO S' (q_arr P T s k).2 := by
  have hP := hM.2.2.2.2
  have hL := hP.2.2.2.2.1
  have hR := hP.1
  have ff := hP.2.2.2.2.2.2.2.1 k hkL
  have hB := hG.Bd hP
  have E := e220 (d + 6) (nI v) (nI k) S hM.1
  rw [m210 (d := d + 5) hM hkL, zb_some, m211 (d := d + 5) hM hkL, zb_some, m208 (d := d + 3) (r := p_f P k) hM.1 hv hs hG hP (by omega), zb_some, m208 (d := d + 3) (r := p_o P k) hM.1 hv hs hG hP (by omega)] at E
  have free : ∀ r, r < 16 → q_free s r = true → ∃ S', b220_82 (d + 6) (nI v) (nI 0) (nI k) (nI r) S = some (nI 0, S') ∧ onM (mD v) S S' ∧ mSt S' v (q_bed s k r) ∧ mKp S' v kl := fun r hr hf => by
    have hnx := ((q_free_iff hG _).mp hf).2
    have s6 := hs.2.2.2.2.1 r hr
    rw [hnx] at s6
    obtain ⟨S4, f1, f2, f3⟩ := m219 (d := d + 5) (k := k) (r := r) hM.1 hv hs (by omega) hr hB.2.2.1
    have e := b220_84_eq (d + 6) (nI v) (nI 0) (nI k) (nI r) S hM.1
    simp (disch := omega) only [ni_lit, nI_add, pk_mul, pk_sub, pk_div, nI_leI, nI_ltI, nI_eq, nI_clamp, ni_in, ni_inm, ni_ltm, ni_mlt, ni_lem, ni_mle, ni_eqm, ni_meq, ni_mm, ni_mmle, ni_bit, ni_shl, ni_clr, fa_or, Nat.add_zero, Nat.zero_add, Nat.zero_mul, Nat.mul_zero, eOn, eOs, if_true, if_false, not_true_eq_false, not_false_eq_true, ite_true, ite_false, true_and, and_true, false_and, and_false, or_true, true_or, or_false, false_or, Bool.false_eq_true, reduceIte, Bool.not_true, Bool.not_false, and_self, or_self, q_ef, q_et, q_ltt, q_ltf, q_let, q_lef, zb_some, Option.bind_some, s6, f1, not_true_eq_false] at e
    exact ⟨S4, by rw [b220_82_eq (d + 6) _ _ _ _ S hM.1]; exact e, f2.mono fun c k z => Or.inl z, f3, hk.on f2 (fun c k z1 z2 => by unfold kD at z1; unfold vD at z2; omega)⟩
  unfold q_arr q_in
  by_cases c1 : q_free s (p_f P k) = true
  · obtain ⟨S', f1, f2, f3, f4⟩ := free _ (by omega) c1
    rw [c1, if_neg (by decide)] at E
    rw [if_pos c1]
    exact ⟨S', E.trans f1, f2, f3, f4, fun i hi => absurd hi (Nat.not_lt_zero _)⟩
  · have c1' : q_free s (p_f P k) = false := by simpa using c1
    rw [c1', if_pos (by decide), zb_some] at E
    rw [if_neg c1]
    by_cases c2 : q_free s (p_o P k) = true
    · obtain ⟨S', f1, f2, f3, f4⟩ := free _ (by omega) c2
      rw [c2, if_neg (by decide)] at E
      rw [if_pos c2]
      exact ⟨S', E.trans f1, f2, f3, f4, fun i hi => absurd hi (Nat.not_lt_zero _)⟩
    · have c2' : q_free s (p_o P k) = false := by simpa using c2
      rw [c2', if_pos (by decide)] at E
      rw [if_neg c2]
      dsimp only
      have hyS : ∀ r, q_yl P s r 0 T = true → 0 < T ∧ (q_s s r).isSome = true := fun r c2 => by
        unfold q_yl at c2
        split at c2
        · cases c2
        · rename_i k hk
          rw [Bool.and_eq_true] at c2
          exact ⟨of_decide_eq_true c2.1, by rw [hk]; rfl⟩
      obtain ⟨S1, a1, a2⟩ := m217 (d := d) (r := p_f P k) (out := 0) (T := T) hM hv hs hG hT (by omega) (by omega) hT2
      have a1' : fI (d + 6) 217 [.ref 396, .int (nI v), .int (nI (p_f P k)), .int (0 : Int32)] S = some (bI (q_yl P s (p_f P k) 0 T), S1) := a1
      have hM1 := hM.on a2 (fun c k a b => by omega)
      have hs1 : mSt S1 v s := hs.on hB.2.2.1 a2 (fun c k z1 z2 => by unfold vD at z1; omega)
      have hk1 : mKp S1 v kl := hk.on a2 (fun c k z1 z2 => by unfold kD at z1; omega)
      have hT1 : gI S1 396 56 = nI T := by rw [a2.I (by omega)]; exact hT
      have l1 : onM (mD v) S S1 := a2.mono fun c k z => Or.inr (Or.inr (by omega))
      rw [a1', zb_some] at E
      by_cases c3 : q_yl P s (p_f P k) 0 T = true
      · obtain ⟨t1, t2⟩ := hyS _ c3
        rw [c3, if_neg (by decide), b220_82_eq (d + 6) _ _ _ _ S1 hM1.1] at E
        obtain ⟨S5, j1, j2, j3, j4, j5⟩ := m220_l (d := d) (kl := kl) hv hT2 T s k (p_f P k) [] S1 hM1 hT1 hs1 hk1 hG hkL hw (Or.inl rfl) t2 t1 (by simp) (fun i hi => absurd hi (Nat.not_lt_zero _))
        simp only [c3, if_true]
        exact ⟨S5, E.trans j1, l1.trans j2, j3, j4, j5⟩
      · have c3' : q_yl P s (p_f P k) 0 T = false := by simpa using c3
        rw [c3', if_pos (by decide)] at E
        simp only [c3', Bool.false_eq_true, if_false]
        obtain ⟨S2, b1, b2⟩ := m217 (d := d) (r := p_o P k) (out := 0) (T := T) hM1 hv hs1 hG hT1 (by omega) (by omega) hT2
        have b1' : fI (d + 6) 217 [.ref 396, .int (nI v), .int (nI (p_o P k)), .int (0 : Int32)] S1 = some (bI (q_yl P s (p_o P k) 0 T), S2) := b1
        have hM2 := hM1.on b2 (fun c k a b => by omega)
        have hs2 : mSt S2 v s := hs1.on hB.2.2.1 b2 (fun c k z1 z2 => by unfold vD at z1; omega)
        have hk2 : mKp S2 v kl := hk1.on b2 (fun c k z1 z2 => by unfold kD at z1; omega)
        have hT2' : gI S2 396 56 = nI T := by rw [b2.I (by omega)]; exact hT1
        have l2 : onM (mD v) S S2 := l1.trans (b2.mono fun c k z => Or.inr (Or.inr (by omega)))
        rw [b1', zb_some] at E
        by_cases c4 : q_yl P s (p_o P k) 0 T = true
        · obtain ⟨t1, t2⟩ := hyS _ c4
          rw [c4, if_neg (by decide), b220_82_eq (d + 6) _ _ _ _ S2 hM2.1] at E
          obtain ⟨S5, j1, j2, j3, j4, j5⟩ := m220_l (d := d) (kl := kl) hv hT2 T s k (p_o P k) [] S2 hM2 hT2' hs2 hk2 hG hkL hw (Or.inr rfl) t2 t1 (by simp) (fun i hi => absurd hi (Nat.not_lt_zero _))
          simp only [c4, if_true]
          exact ⟨S5, E.trans j1, l2.trans j2, j3, j4, j5⟩
        · have c4' : q_yl P s (p_o P k) 0 T = false := by simpa using c4
          rw [c4', if_pos (by decide), b220_82_eq (d + 6) _ _ _ _ S2 hM2.1] at E
          obtain ⟨S5, j1, j2, j3⟩ := m220_b (d := d + 6) (k := k) (out := 0) hM2 hv hs2 hG hkL hw
          simp only [c4', Bool.false_eq_true, if_false]
          exact ⟨S5, E.trans j1, l2.trans (j2.mono fun c k z => Or.inl z), j3, hk2.on j2 (fun c k z1 z2 => by unfold kD at z1; unfold vD at z2; omega), fun i hi => absurd hi (Nat.not_lt_zero _)⟩
end MC
