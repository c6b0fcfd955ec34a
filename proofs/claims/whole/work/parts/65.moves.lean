/-! TO CLEAR a room, to MOVE for one, the ODDS. -/
/-- one behind the other to their other rooms: m rooms more at the most -/
def q_clr (P : q_Pl) (s : q_St) : Nat → Nat → Nat → Nat → Option Nat
  | 0, _, _, _ => none
  | m + 1, seen, r, n => if (q_h s ||| seen).testBit r then none else match q_s s r with
    | none => some n
    | some k => q_clr P s m (seen ||| 2 ^ r) (q_oth P k r) (n + 1)
theorem q_clr_le (P : q_Pl) (s : q_St) : ∀ (m seen r n j : Nat), q_clr P s m seen r n = some j → n ≤ j ∧ j < n + m
  | 0, _, _, _, j, h => by cases h
  | m + 1, seen, r, n, j, h => by
    rw [q_clr] at h
    split at h
    · cases h
    · split at h
      · cases h; omega
      · have := q_clr_le P s m _ _ _ j h; omega
/-- the same without what was seen: m rooms more at the most -/
def q_c2 (P : q_Pl) (s : q_St) : Nat → Nat → Nat → Option Nat
  | 0, _, _ => none
  | m + 1, r, n => if (q_h s).testBit r then none else match q_s s r with
    | none => some n
    | some k => q_c2 P s m (q_oth P k r) (n + 1)
/-- a row of rooms that goes round has no end -/
theorem q_c2_V {P : q_Pl} {s : q_St} {V : Nat → Prop} (hV : ∀ v, V v → (q_h s).testBit v = false ∧ ∃ k, q_s s v = some k ∧ V (q_oth P k v)) : ∀ (m r n : Nat), V r → q_c2 P s m r n = none
  | 0, r, n, _ => rfl
  | m + 1, r, n, h => by
    obtain ⟨h1, k, h2, h3⟩ := hV r h
    rw [q_c2, h1, if_neg (by decide), h2]
    exact q_c2_V hV m _ _ h3
/-- the rooms seen: open, slept in, each leads to one that was seen or to this one -/
def q_sn (P : q_Pl) (s : q_St) (seen r : Nat) : Prop := ∀ v, seen.testBit v = true → (q_h s).testBit v = false ∧ ∃ k, q_s s v = some k ∧ (seen.testBit (q_oth P k v) = true ∨ q_oth P k v = r)
theorem q_c2_s {P : q_Pl} {s : q_St} {m seen r n : Nat} (hb : seen.testBit r = true) (hI : q_sn P s seen r) : q_c2 P s m r n = q_clr P s (m + 1) seen r n := by
  rw [q_clr, Nat.testBit_or, hb, Bool.or_true, if_pos rfl]
  refine q_c2_V (V := fun v => seen.testBit v = true) (fun v hv => ?_) m r n hb
  obtain ⟨h1, k, h2, h3⟩ := hI v hv
  refine ⟨h1, k, h2, ?_⟩
  rcases h3 with h3 | h3
  · exact h3
  · show seen.testBit (q_oth P k v) = true
    rw [h3]
    exact hb
theorem q_c2_eq {P : q_Pl} {s : q_St} (hP : p_Wf P) (hG : q_Gd P s) : ∀ (m seen r n : Nat), r < p_R P → fb_ct (fun i => !seen.testBit i) 16 ≤ m → q_sn P s seen r → q_c2 P s m r n = q_clr P s (m + 1) seen r n
  | 0, seen, r, n, hr, hc, hI => by
    have hR := hP.1
    have h := fb_ct_zero.mp (Nat.le_zero.mp hc) r (by omega)
    exact q_c2_s (by simpa using h) hI
  | m + 1, seen, r, n, hr, hc, hI => by
    have hR := hP.1
    cases hb : seen.testBit r with
    | true => exact q_c2_s hb hI
    | false =>
      rw [q_clr, q_c2, Nat.testBit_or, hb, Bool.or_false]
      cases hs : (q_h s).testBit r with
      | true => rfl
      | false =>
        rw [if_neg (by decide), if_neg (by decide)]
        cases hk : q_s s r with
        | none => rfl
        | some k =>
          have hkL := (hG.sl hP hk).2.1
          refine q_c2_eq hP hG m (seen ||| 2 ^ r) (q_oth P k r) (n + 1) (q_oth_R hP hkL r).1 ?_ ?_
          · have hu := fb_ct_upd (fun i => !seen.testBit i) false (i := r) (n := 16) (by omega)
            have hcg : fb_ct (fun i => !(seen ||| 2 ^ r).testBit i) 16 = fb_ct (fun j => if j = r then false else !seen.testBit j) 16 := fb_ct_cong (fun j _ => by
              show (!(seen ||| 2 ^ r).testBit j) = if j = r then false else !seen.testBit j
              rw [fb_bit_set]
              by_cases e : j = r
              · rw [if_pos e, decide_eq_true e, Bool.or_true]; rfl
              · rw [if_neg e, decide_eq_false e, Bool.or_false])
            have h1 : (if (!seen.testBit r) = true then 1 else 0) = 1 := by rw [hb]; rfl
            have h2 : (if false = true then 1 else 0) = 0 := rfl
            rw [hcg]
            have hu' : fb_ct (fun j => if j = r then false else !seen.testBit j) 16 + (if (!seen.testBit r) = true then 1 else 0) = fb_ct (fun i => !seen.testBit i) 16 + (if false = true then 1 else 0) := hu
            rw [h1, h2] at hu'
            omega
          · intro v hv
            rw [fb_bit_set] at hv
            by_cases e : v = r
            · subst e
              exact ⟨hs, k, hk, Or.inr rfl⟩
            · rw [decide_eq_false e, Bool.or_false] at hv
              obtain ⟨h1, k', h2, h3⟩ := hI v hv
              refine ⟨h1, k', h2, Or.inl ?_⟩
              rw [fb_bit_set]
              rcases h3 with h3 | h3
              · rw [h3, Bool.true_or]
              · rw [h3, decide_eq_true rfl, Bool.or_true]
section TG
variable {d : Nat} {S : z_S} {A : q_A} {x y : Int32}
theorem c40_l {q p : Nat} {P : q_Pl} {s : q_St} (hH : cH S q P) (hp : z_K p = 8) (hs : cSt S p 16 s) (hG : q_Gd P s) : ∀ (m r n : Nat), n + m = 16 → r < p_R P → b40_5 (d + 1) p (nI r) (nI n) S = some (eO (q_c2 P s m r n), S)
  | 0, r, n, hn, hr => by
    have e := b40_5_eq (d + 1) p (nI r) (nI n) S hH.1 hp
    simp (disch := omega) only [ni_lit, nI_add, pk_mul, pk_sub, pk_div, nI_leI, nI_ltI, nI_eq, nI_clamp, ni_in, ni_inm, ni_ltm, ni_mlt, ni_lem, ni_mle, ni_eqm, ni_meq, ni_mm, ni_mmle, ni_bit, ni_shl, ni_clr, fa_or, Nat.add_zero, Nat.zero_add, Nat.zero_mul, Nat.mul_zero, eOn, eOs, if_true, if_false, not_true_eq_false, not_false_eq_true, ite_true, ite_false, true_and, and_true, false_and, and_false, or_true, true_or, or_false, false_or, Bool.false_eq_true, reduceIte, Bool.not_true, Bool.not_false, and_self, or_self, q_ef, q_et, q_ltt, q_ltf, q_let, q_lef, gIs, gIl, gIr, gLs, gLl, gLr, gPs, gPl, gPr, gLc, gPc, zb_some, Option.bind_some, q_nm, q_pm, q_hm, q_tm, q_sm, q_wm, q_ym, q_lm, q_ua] at e
    exact e
  | m + 1, r, n, hn, hr => by
    have hP := hH.2.2.2.2
    have hR := hP.1
    have hB := hG.Bd hP
    have hB1 := hB.1
    have e := b40_5_eq (d + 1) p (nI r) (nI n) S hH.1 hp
    have s5 := hs.2.2.2.2.2.1 r (by omega)
    rw [q_c2]
    cases hb : (q_h s).testBit r with
    | true =>
      have hq : q_b (q_h s) r = 1 := by unfold q_b; rw [hb]; rfl
      simp (disch := omega) only [ni_lit, nI_add, pk_mul, pk_sub, pk_div, nI_leI, nI_ltI, nI_eq, nI_clamp, ni_in, ni_inm, ni_ltm, ni_mlt, ni_lem, ni_mle, ni_eqm, ni_meq, ni_mm, ni_mmle, ni_bit, ni_shl, ni_clr, fa_or, Nat.add_zero, Nat.zero_add, Nat.zero_mul, Nat.mul_zero, eOn, eOs, if_true, if_false, not_true_eq_false, not_false_eq_true, ite_true, ite_false, true_and, and_true, false_and, and_false, or_true, true_or, or_false, false_or, Bool.false_eq_true, reduceIte, Bool.not_true, Bool.not_false, and_self, or_self, q_ef, q_et, q_ltt, q_ltf, q_let, q_lef, gIs, gIl, gIr, gLs, gLl, gLr, gPs, gPl, gPr, gLc, gPc, zb_some, Option.bind_some, q_nm, q_pm, q_hm, q_tm, q_sm, q_wm, q_ym, q_lm, q_ua, hs.2.2.1, hq] at e
      rw [if_pos rfl]
      exact e
    | false =>
      have hq : q_b (q_h s) r = 0 := by unfold q_b; rw [hb]; rfl
      rw [if_neg (by decide)]
      cases hk : q_s s r with
      | none =>
        rw [hk] at s5
        have hneg : ((-nI 1 : Int32) = -nI 1) = True := eq_true rfl
        simp (disch := omega) only [ni_lit, nI_add, pk_mul, pk_sub, pk_div, nI_leI, nI_ltI, nI_eq, nI_clamp, ni_in, ni_inm, ni_ltm, ni_mlt, ni_lem, ni_mle, ni_eqm, ni_meq, ni_mm, ni_mmle, ni_bit, ni_shl, ni_clr, fa_or, Nat.add_zero, Nat.zero_add, Nat.zero_mul, Nat.mul_zero, eOn, eOs, if_true, if_false, not_true_eq_false, not_false_eq_true, ite_true, ite_false, true_and, and_true, false_and, and_false, or_true, true_or, or_false, false_or, Bool.false_eq_true, reduceIte, Bool.not_true, Bool.not_false, and_self, or_self, q_ef, q_et, q_ltt, q_ltf, q_let, q_lef, gIs, gIl, gIr, gLs, gLl, gLr, gPs, gPl, gPr, gLc, gPc, zb_some, Option.bind_some, q_nm, q_pm, q_hm, q_tm, q_sm, q_wm, q_ym, q_lm, q_ua, hs.2.2.1, hq, s5, hneg] at e
        exact e
      | some k =>
        have hk16 := hB.2.2.2.2.2.1 r k hk
        have hkL := (hG.sl hP hk).2.1
        rw [hk] at s5
        have a1 := c61 (d := d) (k := k) (r := r) hH.1 hH.2.1 hH.2.2.2.1 hP hkL (by omega)
        simp (disch := omega) only [ni_lit, nI_add, pk_mul, pk_sub, pk_div, nI_leI, nI_ltI, nI_eq, nI_clamp, ni_in, ni_inm, ni_ltm, ni_mlt, ni_lem, ni_mle, ni_eqm, ni_meq, ni_mm, ni_mmle, ni_bit, ni_shl, ni_clr, fa_or, Nat.add_zero, Nat.zero_add, Nat.zero_mul, Nat.mul_zero, eOn, eOs, if_true, if_false, not_true_eq_false, not_false_eq_true, ite_true, ite_false, true_and, and_true, false_and, and_false, or_true, true_or, or_false, false_or, Bool.false_eq_true, reduceIte, Bool.not_true, Bool.not_false, and_self, or_self, q_ef, q_et, q_ltt, q_ltf, q_let, q_lef, gIs, gIl, gIr, gLs, gLl, gLr, gPs, gPl, gPr, gLc, gPc, zb_some, Option.bind_some, q_nm, q_pm, q_hm, q_tm, q_sm, q_wm, q_ym, q_lm, q_ua, hs.2.2.1, hq, s5, hH.2.2.1, a1] at e
        exact e.trans (c40_l hH hp hs hG m (q_oth P k r) (n + 1) (by omega) (q_oth_R hP hkL r).1)
theorem c40 {q p r : Nat} {P : q_Pl} {s : q_St} (hH : cH S q P) (hp : z_K p = 8) (hs : cSt S p 16 s) (hG : q_Gd P s) (hr : r < p_R P) : fI (d + 2) 40 [.ref 22, .ref p, .int (nI r)] S = some (eO (q_clr P s 17 0 r 0), S) := by
  have h : q_c2 P s 16 r 0 = q_clr P s 17 0 r 0 := q_c2_eq hH.2.2.2.2 hG 16 0 r 0 hr (fb_ct_le _ _) (fun v hv => by rw [Nat.zero_testBit] at hv; cases hv)
  rw [e40 (d + 1) p (nI r) S hH.1 hp, ← h]
  exact c40_l hH hp hs hG 16 r 0 (by omega) hr
theorem m249_l {b : Nat} {P : q_Pl} {s : q_St} (hM : cM S b P) (hs : mSt S 0 s) (hG : q_Gd P s) : ∀ (m seen r n : Nat), n + m = 17 → seen < 65536 → r < p_R P → b249_7 (d + 2) (nI seen) (nI r) (nI n) S = some (eO (q_clr P s m seen r n), S)
  | 0, seen, r, n, hn, hz, hr => by
    have e := b249_7_eq (d + 2) (nI seen) (nI r) (nI n) S hM.1
    simp (disch := omega) only [ni_lit, nI_add, pk_mul, pk_sub, pk_div, nI_leI, nI_ltI, nI_eq, nI_clamp, ni_in, ni_inm, ni_ltm, ni_mlt, ni_lem, ni_mle, ni_eqm, ni_meq, ni_mm, ni_mmle, ni_bit, ni_shl, ni_clr, fa_or, Nat.add_zero, Nat.zero_add, Nat.zero_mul, Nat.mul_zero, eOn, eOs, if_true, if_false, not_true_eq_false, not_false_eq_true, ite_true, ite_false, true_and, and_true, false_and, and_false, or_true, true_or, or_false, false_or, Bool.false_eq_true, reduceIte, Bool.not_true, Bool.not_false, and_self, or_self, q_ef, q_et, q_ltt, q_ltf, q_let, q_lef, gIs, gIl, gIr, gLs, gLl, gLr, gPs, gPl, gPr, gLc, gPc, zb_some, Option.bind_some, q_nm, q_pm, q_hm, q_tm, q_sm, q_wm, q_ym, q_lm, q_ua] at e
    exact e
  | m + 1, seen, r, n, hn, hz, hr => by
    have hP := hM.2.2.2.2
    have hR := hP.1
    have hB := hG.Bd hP
    have hp16 := q_p16 (show r < 16 by omega)
    have e := b249_7_eq (d + 2) (nI seen) (nI r) (nI n) S hM.1
    have s5 := hs.2.2.2.2.1 r (by omega)
    rw [Nat.mul_zero, Nat.zero_add] at s5
    have a1 : fI (d + 2) 207 [.ref 396, .int (nI 0), .int (nI r)] S = _ := m207 (d := d) (v := 0) hM.1 (by omega) hs hB (by omega)
    have a2 := m182 (d := d + 1) (a := seen) (r := r) hM.1 (by omega) (by omega)
    rw [q_clr, Nat.testBit_or]
    cases h1 : (q_h s).testBit r with
    | true =>
      rw [h1] at a1
      simp (disch := omega) only [ni_lit, nI_add, pk_mul, pk_sub, pk_div, nI_leI, nI_ltI, nI_eq, nI_clamp, ni_in, ni_inm, ni_ltm, ni_mlt, ni_lem, ni_mle, ni_eqm, ni_meq, ni_mm, ni_mmle, ni_bit, ni_shl, ni_clr, fa_or, Nat.add_zero, Nat.zero_add, Nat.zero_mul, Nat.mul_zero, eOn, eOs, if_true, if_false, not_true_eq_false, not_false_eq_true, ite_true, ite_false, true_and, and_true, false_and, and_false, or_true, true_or, or_false, false_or, Bool.false_eq_true, reduceIte, Bool.not_true, Bool.not_false, and_self, or_self, q_ef, q_et, q_ltt, q_ltf, q_let, q_lef, gIs, gIl, gIr, gLs, gLl, gLr, gPs, gPl, gPr, gLc, gPc, zb_some, Option.bind_some, q_nm, q_pm, q_hm, q_tm, q_sm, q_wm, q_ym, q_lm, q_ua, a1, bIt] at e
      rw [Bool.true_or, if_pos rfl]
      exact e
    | false =>
      rw [h1] at a1
      rw [Bool.false_or]
      cases h2 : seen.testBit r with
      | true =>
        rw [h2] at a2
        simp (disch := omega) only [ni_lit, nI_add, pk_mul, pk_sub, pk_div, nI_leI, nI_ltI, nI_eq, nI_clamp, ni_in, ni_inm, ni_ltm, ni_mlt, ni_lem, ni_mle, ni_eqm, ni_meq, ni_mm, ni_mmle, ni_bit, ni_shl, ni_clr, fa_or, Nat.add_zero, Nat.zero_add, Nat.zero_mul, Nat.mul_zero, eOn, eOs, if_true, if_false, not_true_eq_false, not_false_eq_true, ite_true, ite_false, true_and, and_true, false_and, and_false, or_true, true_or, or_false, false_or, Bool.false_eq_true, reduceIte, Bool.not_true, Bool.not_false, and_self, or_self, q_ef, q_et, q_ltt, q_ltf, q_let, q_lef, gIs, gIl, gIr, gLs, gLl, gLr, gPs, gPl, gPr, gLc, gPc, zb_some, Option.bind_some, q_nm, q_pm, q_hm, q_tm, q_sm, q_wm, q_ym, q_lm, q_ua, a1, bIf, a2, bIt] at e
        rw [if_pos rfl]
        exact e
      | false =>
        rw [h2] at a2
        rw [if_neg (by decide)]
        cases hk : q_s s r with
        | none =>
          rw [hk] at s5
          have hneg : ((-nI 1 : Int32) = -nI 1) = True := eq_true rfl
          simp (disch := omega) only [ni_lit, nI_add, pk_mul, pk_sub, pk_div, nI_leI, nI_ltI, nI_eq, nI_clamp, ni_in, ni_inm, ni_ltm, ni_mlt, ni_lem, ni_mle, ni_eqm, ni_meq, ni_mm, ni_mmle, ni_bit, ni_shl, ni_clr, fa_or, Nat.add_zero, Nat.zero_add, Nat.zero_mul, Nat.mul_zero, eOn, eOs, if_true, if_false, not_true_eq_false, not_false_eq_true, ite_true, ite_false, true_and, and_true, false_and, and_false, or_true, true_or, or_false, false_or, Bool.false_eq_true, reduceIte, Bool.not_true, Bool.not_false, and_self, or_self, q_ef, q_et, q_ltt, q_ltf, q_let, q_lef, gIs, gIl, gIr, gLs, gLl, gLr, gPs, gPl, gPr, gLc, gPc, zb_some, Option.bind_some, q_nm, q_pm, q_hm, q_tm, q_sm, q_wm, q_ym, q_lm, q_ua, a1, bIf, a2, s5, hneg] at e
          exact e
        | some k =>
          have hk16 := hB.2.2.2.2.2.1 r k hk
          have hkL := (hG.sl hP hk).2.1
          rw [hk] at s5
          have a3 := m212 (d := d) (k := k) (r := r) hM hkL (by omega)
          simp (disch := omega) only [ni_lit, nI_add, pk_mul, pk_sub, pk_div, nI_leI, nI_ltI, nI_eq, nI_clamp, ni_in, ni_inm, ni_ltm, ni_mlt, ni_lem, ni_mle, ni_eqm, ni_meq, ni_mm, ni_mmle, ni_bit, ni_shl, ni_clr, fa_or, Nat.add_zero, Nat.zero_add, Nat.zero_mul, Nat.mul_zero, eOn, eOs, if_true, if_false, not_true_eq_false, not_false_eq_true, ite_true, ite_false, true_and, and_true, false_and, and_false, or_true, true_or, or_false, false_or, Bool.false_eq_true, reduceIte, Bool.not_true, Bool.not_false, and_self, or_self, q_ef, q_et, q_ltt, q_ltf, q_let, q_lef, gIs, gIl, gIr, gLs, gLl, gLr, gPs, gPl, gPr, gLc, gPc, zb_some, Option.bind_some, q_nm, q_pm, q_hm, q_tm, q_sm, q_wm, q_ym, q_lm, q_ua, a1, bIf, a2, s5, a3] at e
          exact e.trans (m249_l hM hs hG m (seen ||| 2 ^ r) (q_oth P k r) (n + 1) (by omega) (q_or16 hz hp16) (q_oth_R hP hkL r).1)
theorem m249 {b r : Nat} {P : q_Pl} {s : q_St} (hM : cM S b P) (hs : mSt S 0 s) (hG : q_Gd P s) (hr : r < p_R P) : fI (d + 3) 249 [.ref 396, .int (nI r)] S = some (eO (q_clr P s 17 0 r 0), S) := by
  rw [e249 (d + 2) (nI r) S hM.1]
  exact m249_l hM hs hG 17 0 r 0 (by omega) (by omega) hr
theorem t_clear : twoI (d + 20) 126 250 [.int x] A A := by
  refine two_q (if ixO (p_R (a_P A)) x = true then eO (q_clr (a_P A) (a_s A) 17 0 x.toInt.toNat 0) else -1) (fun S h hA => ⟨S, ?_, onI.refl h.1⟩) (fun S h hA => ⟨S, ?_, onM.refl h.W⟩)
  · obtain ⟨q, hH, hq⟩ := h.H hA
    have hR := hA.1.1
    have e := e126 (d + 19) x S h.1
    rw [hq, c58x (d := d + 18) hH.1 hH.2.1 hH.2.2.2.1 hA.1, zb_some] at e
    by_cases c1 : ixO (p_R (a_P A)) x = true
    · obtain ⟨k, k1, rfl⟩ := ixO_t c1 (by omega)
      rw [c1, if_neg (by decide), c40 (d := d + 17) hH (by decide +kernel) h.s hA.2.1 k1, zb_some] at e
      rw [if_pos c1, nI_toInt (by omega), show ((k : Int)).toNat = k from rfl]
      exact e
    · have c1' : ixO (p_R (a_P A)) x = false := by simpa using c1
      rw [c1', if_pos (by decide)] at e
      rw [if_neg c1]
      exact e
  · obtain ⟨b, hM⟩ := h.2.1
    have hR := hA.1.1
    have e := e250 (d + 19) x S hM.1
    rw [m227 (d := d + 18) hM, zb_some] at e
    by_cases c1 : ixO (p_R (a_P A)) x = true
    · obtain ⟨k, k1, rfl⟩ := ixO_t c1 (by omega)
      rw [c1, if_neg (by decide), m249 (d := d + 16) hM (h.st (hA.mR k1)) hA.2.1 k1, zb_some] at e
      rw [if_pos c1, nI_toInt (by omega), show ((k : Int)).toNat = k from rfl]
      exact e
    · have c1' : ixO (p_R (a_P A)) x = false := by simpa using c1
      rw [c1', if_pos (by decide)] at e
      rw [if_neg c1]
      exact e
/-- the less of two, if there is one -/
def q_mn (a b : Option Nat) : Option Nat := match a, b with
  | none, b => b
  | some x, none => some x
  | some x, some y => some (min x y)
theorem t_moves : twoI (d + 20) 127 251 [.int x] A A := by
  refine two_q (if ixO (p_L (a_P A)) x = true ∧ ¬ q_w (a_s A) x.toInt.toNat < 16 then eO (q_mn (q_clr (a_P A) (a_s A) 17 0 (p_f (a_P A) x.toInt.toNat) 0) (q_clr (a_P A) (a_s A) 17 0 (p_o (a_P A) x.toInt.toNat) 0)) else -1) (fun S h hA => ⟨S, ?_, onI.refl h.1⟩) (fun S h hA => ⟨S, ?_, onM.refl h.W⟩)
  · obtain ⟨q, hH, hq⟩ := h.H hA
    have hL := hA.1.2.2.2.2.1
    have e := e127 (d + 19) x S h.1
    rw [hq, c59x (d := d + 18) hH.1 hH.2.1 hH.2.2.2.1 hA.1, zb_some] at e
    by_cases c1 : ixO (p_L (a_P A)) x = true
    · obtain ⟨k, k1, rfl⟩ := ixO_t c1 (by omega)
      have ff := hA.1.2.2.2.2.2.2.2.1 k k1
      have g1 := hH.2.2.2.1.2.2.2.2.2.2.2.2.2.1 k k1
      have g2 := hH.2.2.2.1.2.2.2.2.2.2.2.2.2.2.1 k k1
      rw [c1, if_neg (by decide), c77 (d := d + 18) h.1 (by decide +kernel) h.s (hA.2.1.Bd hA.1) (show k < 16 by omega) (by omega), zb_some] at e
      rw [nI_toInt (by omega), show ((k : Int)).toNat = k from rfl]
      by_cases c2 : q_w (a_s A) k < 16
      · rw [decide_eq_true c2, if_neg (by decide)] at e
        rw [if_neg (fun z => z.2 c2)]
        exact e
      · have i1 : z_in (nI k) 16 := (ni_in (by omega)).mpr (by omega)
        rw [decide_eq_false c2, if_pos (by decide)] at e
        simp (disch := omega) only [ni_in, q_ltt, if_true, nI_clamp] at e
        rw [hq, g1, c40 (d := d + 17) hH (by decide +kernel) h.s hA.2.1 ff.1, zb_some, hq, g2, c40 (d := d + 17) hH (by decide +kernel) h.s hA.2.1 ff.2.1, zb_some] at e
        rw [if_pos ⟨c1, c2⟩]
        cases ha : q_clr (a_P A) (a_s A) 17 0 (p_f (a_P A) k) 0 with
        | none =>
          rw [ha, if_neg (by decide)] at e
          exact e
        | some u =>
          have hu := q_clr_le _ _ _ _ _ _ _ ha
          rw [ha, if_pos (show ¬ eO (some u) = -1 from fun z => (ni_eqm (by omega)).mp z)] at e
          cases hb : q_clr (a_P A) (a_s A) 17 0 (p_o (a_P A) k) 0 with
          | none =>
            rw [hb, if_neg (by decide)] at e
            exact e
          | some w =>
            have hw := q_clr_le _ _ _ _ _ _ _ hb
            have a9 : fI (d + 19) 279 [.int (eO (some u)), .int (eO (some w))] S = _ := c279 (d := d + 18) (a := u) (b := w) h.1 (by omega) (by omega)
            rw [hb, if_pos (show ¬ eO (some w) = -1 from fun z => (ni_eqm (by omega)).mp z), a9, zb_some] at e
            exact e
    · have c1' : ixO (p_L (a_P A)) x = false := by simpa using c1
      rw [c1', if_pos (by decide)] at e
      rw [if_neg (fun z => c1 z.1)]
      exact e
  · obtain ⟨b, hM⟩ := h.2.1
    have hL := hA.1.2.2.2.2.1
    have e := e251 (d + 19) x S hM.1
    rw [m228 (d := d + 18) hM, zb_some] at e
    by_cases c1 : ixO (p_L (a_P A)) x = true
    · obtain ⟨k, k1, rfl⟩ := ixO_t c1 (by omega)
      have ff := hA.1.2.2.2.2.2.2.2.1 k k1
      have a3 : fI (d + 19) 213 [.ref 396, .int (0 : Int32), .int (nI k)] S = _ := m213 (d := d + 18) (v := 0) hM (by omega) (h.st (hA.mL k1)) hA.2.1 (by omega)
      rw [c1, if_neg (by decide), a3, zb_some] at e
      rw [nI_toInt (by omega), show ((k : Int)).toNat = k from rfl]
      by_cases c2 : q_w (a_s A) k < 16
      · have hr : q_rm (a_s A) k = some (q_w (a_s A) k) := by unfold q_rm; rw [if_pos c2]
        rw [hr, if_neg (show ¬ eO (some _) = -1 from fun z => (ni_eqm (by omega)).mp z)] at e
        rw [if_neg (fun z => z.2 c2)]
        exact e
      · have hr : q_rm (a_s A) k = none := by unfold q_rm; rw [if_neg c2]
        rw [hr, if_pos (by decide), m210 (d := d + 18) hM k1, zb_some, m249 (d := d + 16) hM (h.st (hA.mL k1)) hA.2.1 ff.1, zb_some, m211 (d := d + 18) hM k1, zb_some, m249 (d := d + 16) hM (h.st (hA.mL k1)) hA.2.1 ff.2.1, zb_some] at e
        simp only [b251_55_eq (d + 19) _ S hM.1, b251_59_eq (d + 19) _ S hM.1] at e
        rw [if_pos ⟨c1, c2⟩]
        cases ha : q_clr (a_P A) (a_s A) 17 0 (p_f (a_P A) k) 0 with
        | none =>
          rw [ha, if_pos (by decide)] at e
          exact e
        | some u =>
          have hu := q_clr_le _ _ _ _ _ _ _ ha
          rw [ha, if_neg (show ¬ eO (some u) = -1 from fun z => (ni_eqm (by omega)).mp z)] at e
          cases hb : q_clr (a_P A) (a_s A) 17 0 (p_o (a_P A) k) 0 with
          | none =>
            rw [hb, if_pos (by decide)] at e
            exact e
          | some w =>
            have hw := q_clr_le _ _ _ _ _ _ _ hb
            rw [hb, if_neg (show ¬ eO (some w) = -1 from fun z => (ni_eqm (by omega)).mp z)] at e
            rw [e]
            show (if nI u ≤ nI w then some (nI u, S) else some (nI w, S)) = some (nI (min u w), S)
            by_cases c3 : u ≤ w
            · rw [if_pos ((nI_leI (by omega) (by omega)).mpr c3), Nat.min_eq_left c3]
            · rw [if_neg (fun z => c3 ((nI_leI (by omega) (by omega)).mp z)), Nat.min_eq_right (by omega)]
    · have c1' : ixO (p_L (a_P A)) x = false := by simpa using c1
      rw [c1', if_pos (by decide)] at e
      rw [if_neg (fun z => c1 z.1)]
      exact e
end TG
