/-! WHAT IS ASKED: a room, how many there are. -/
theorem q_and1 : ∀ (n x : Nat), 0 < x → x < 2 ^ n → q_pcn n (x &&& (x - 1)) + 1 = q_pcn n x
  | 0, x, h1, h2 => absurd h2 (by rw [Nat.pow_zero]; omega)
  | n + 1, x, h1, h2 => by
    rw [q_pcn, q_pcn, Nat.and_div_two]
    have hm : (x &&& (x - 1)) % 2 = 0 := by
      have h3 : (x &&& (x - 1)) % 2 = 1 ↔ x % 2 = 1 ∧ (x - 1) % 2 = 1 := by
        have := Nat.testBit_and x (x - 1) 0
        rw [Nat.testBit_zero, Nat.testBit_zero, Nat.testBit_zero] at this
        by_cases c1 : x % 2 = 1 <;> by_cases c2 : (x - 1) % 2 = 1 <;> simp [c1, c2] at this ⊢ <;> omega
      by_cases c : (x &&& (x - 1)) % 2 = 1
      · have := h3.mp c; omega
      · omega
    rw [hm]
    by_cases c : x % 2 = 1
    · rw [show (x - 1) / 2 = x / 2 by omega, Nat.and_self]
      omega
    · have ih := q_and1 n (x / 2) (by omega) (by rw [Nat.pow_succ] at h2; omega)
      rw [show (x - 1) / 2 = x / 2 - 1 by omega]
      omega
section TB
variable {d : Nat} {A : q_A} {x y : Int32}
theorem m206_l {S : z_S} (hW : z_W S) : ∀ (m n z : Nat), z < 65536 → q_pc z = m → n + m ≤ 100 → b206_4 d (nI n) (nI z) S = some (nI (n + m), S)
  | 0, n, z, hz, hm, hn => by
    have e := b206_4_eq d (nI n) (nI z) S hW
    have z0 : z = 0 := by
      rcases Nat.eq_zero_or_pos z with c | c
      · exact c
      · have := q_and1 16 z c hz
        rw [q_pcn_16, q_pcn_16] at this
        omega
    subst z0
    rw [if_pos (show nI 0 = 0 from rfl)] at e
    exact e
  | m + 1, n, z, hz, hm, hn => by
    have e := b206_4_eq d (nI n) (nI z) S hW
    have z0 : 0 < z := by
      rcases Nat.eq_zero_or_pos z with c | c
      · rw [c, show q_pc 0 = 0 by decide] at hm; omega
      · exact c
    have h1 := q_and1 16 z z0 hz
    rw [q_pcn_16, q_pcn_16] at h1
    have h2 : z &&& (z - 1) < 65536 := q_and16 hz
    rw [if_neg (show ¬ nI z = 0 from nI_ne0 z0 (by omega)), show (1 : Int32) = nI 1 from rfl, pk_sub (by omega), fa_and, nI_add] at e
    rw [e, m206_l hW m (n + 1) (z &&& (z - 1)) h2 (by omega) (by omega), show n + 1 + m = n + (m + 1) by omega]
theorem m206 {S : z_S} {z : Nat} (hW : z_W S) (hz : z < 65536) : fI (d + 1) 206 [.int (nI z)] S = some (nI (q_pc z), S) := by
  have := q_pc_le z
  rw [e206 d (nI z) S hW]
  have h := m206_l (d := d) hW (q_pc z) 0 z hz rfl (by omega)
  rw [Nat.zero_add] at h
  exact h
theorem q_pcR {z R : Nat} (h : z < 2 ^ R) (hR : R ≤ 16) : q_pc z = fb_ct (fun r => z.testBit r) R := by
  have h1 : q_pc z = fb_ct (fun i => z.testBit i) (R + (16 - R)) := by unfold q_pc; rw [show R + (16 - R) = 16 by omega]
  rw [h1, fb_ct_split]
  have h2 : fb_ct (fun k => z.testBit (R + k)) (16 - R) = 0 := fb_ct_zero.mpr fun k _ => q_tb R h (by omega)
  omega
theorem m229_l {S : z_S} {b : Nat} {P : q_Pl} {s : q_St} (hM : cM S b P) (hs : mSt S 0 s) (hG : q_Gd P s) : ∀ (m i : Nat), i + m = p_R P → b229_4 d (nI (fb_ct (fun r => (q_t s).testBit r) i)) (nI i) S = some (nI (fb_ct (fun r => (q_t s).testBit r) (p_R P)), S)
  | 0, i, hi => by
    obtain ⟨hW, hb, hbk, hC, hP⟩ := hM
    have hR := hP.1
    have e := b229_4_eq d (nI (fb_ct (fun r => (q_t s).testBit r) i)) (nI i) S hW
    simp (disch := omega) only [ni_lit, nI_add, pk_mul, pk_sub, pk_div, nI_leI, nI_ltI, nI_eq, nI_clamp, ni_in, ni_inm, ni_ltm, ni_mlt, ni_lem, ni_mle, ni_eqm, ni_meq, ni_mm, ni_mmle, ni_bit, ni_shl, ni_clr, fa_or, Nat.add_zero, Nat.zero_add, Nat.zero_mul, Nat.mul_zero, eOn, eOs, if_true, if_false, not_true_eq_false, not_false_eq_true, ite_true, ite_false, true_and, and_true, false_and, and_false, or_true, true_or, or_false, false_or, Bool.false_eq_true, reduceIte, Bool.not_true, Bool.not_false, and_self, or_self, q_ef, q_et, q_ltt, q_ltf, q_let, q_lef, gIs, gIl, gIr, gLs, gLl, gLr, gPs, gPl, gPr, gLc, gPc, zb_some, Option.bind_some, q_nm, q_pm, q_hm, q_tm, q_sm, q_wm, q_ym, q_lm, q_ua, hbk, hC.1] at e
    rw [e, show i = p_R P by omega]
  | m + 1, i, hi => by
    have hM' := hM
    obtain ⟨hW, hb, hbk, hC, hP⟩ := hM
    have hR := hP.1
    have e := b229_4_eq d (nI (fb_ct (fun r => (q_t s).testBit r) i)) (nI i) S hW
    have s5 := hs.2.2.2.2.1 i (by omega)
    rw [Nat.mul_zero, Nat.zero_add] at s5
    have ih := m229_l hM' hs hG m (i + 1) (by omega)
    have hct := fb_ct_le (fun r => (q_t s).testBit r) i
    rw [fb_ct_succ, hG.2.2.1 i] at ih
    cases hk : q_s s i with
    | none =>
      rw [hk] at s5 ih
      have hneg : ((-nI 1 : Int32) = -nI 1) = True := eq_true rfl
      simp (disch := omega) only [ni_lit, nI_add, pk_mul, pk_sub, pk_div, nI_leI, nI_ltI, nI_eq, nI_clamp, ni_in, ni_inm, ni_ltm, ni_mlt, ni_lem, ni_mle, ni_eqm, ni_meq, ni_mm, ni_mmle, ni_bit, ni_shl, ni_clr, fa_or, Nat.add_zero, Nat.zero_add, Nat.zero_mul, Nat.mul_zero, eOn, eOs, if_true, if_false, not_true_eq_false, not_false_eq_true, ite_true, ite_false, true_and, and_true, false_and, and_false, or_true, true_or, or_false, false_or, Bool.false_eq_true, reduceIte, Bool.not_true, Bool.not_false, and_self, or_self, q_ef, q_et, q_ltt, q_ltf, q_let, q_lef, gIs, gIl, gIr, gLs, gLl, gLr, gPs, gPl, gPr, gLc, gPc, zb_some, Option.bind_some, q_nm, q_pm, q_hm, q_tm, q_sm, q_wm, q_ym, q_lm, q_ua, hbk, hC.1, s5, hneg, b229_33_eq d _ _ _ S hW] at e
      exact e.trans ih
    | some k =>
      have hk2 := (hG.Bd hP).2.2.2.2.2.1 i k hk
      rw [hk] at s5 ih
      simp (disch := omega) only [ni_lit, nI_add, pk_mul, pk_sub, pk_div, nI_leI, nI_ltI, nI_eq, nI_clamp, ni_in, ni_inm, ni_ltm, ni_mlt, ni_lem, ni_mle, ni_eqm, ni_meq, ni_mm, ni_mmle, ni_bit, ni_shl, ni_clr, fa_or, Nat.add_zero, Nat.zero_add, Nat.zero_mul, Nat.mul_zero, eOn, eOs, if_true, if_false, not_true_eq_false, not_false_eq_true, ite_true, ite_false, true_and, and_true, false_and, and_false, or_true, true_or, or_false, false_or, Bool.false_eq_true, reduceIte, Bool.not_true, Bool.not_false, and_self, or_self, q_ef, q_et, q_ltt, q_ltf, q_let, q_lef, gIs, gIl, gIr, gLs, gLl, gLr, gPs, gPl, gPr, gLc, gPc, zb_some, Option.bind_some, q_nm, q_pm, q_hm, q_tm, q_sm, q_wm, q_ym, q_lm, q_ua, hbk, hC.1, s5, b229_33_eq d _ _ _ S hW] at e
      exact e.trans ih
theorem m229 {S : z_S} {b : Nat} {P : q_Pl} {s : q_St} (hM : cM S b P) (hs : mSt S 0 s) (hG : q_Gd P s) : fI (d + 1) 229 [.ref 396] S = some (nI (q_pc (q_t s)), S) := by
  rw [e229 d S hM.1, q_pcR hG.2.1 hM.2.2.2.2.1]
  exact m229_l hM hs hG (p_R P) 0 (by omega)
theorem t_has : twoI (d + 20) 112 230 [.int x] A A := by
  refine two_q (if x = 0 then nI (p_R (a_P A)) else if x = 1 then nI (p_L (a_P A)) else if x = 2 then nI (q_pc (q_t (a_s A))) else if x = 3 then nI (q_l (a_s A)).length else if x = 4 then nI (p_L (a_P A)) - nI (q_pc (q_t (a_s A))) - nI (q_l (a_s A)).length else if x = 5 then nI (p_R (a_P A) - q_pc (q_h (a_s A) ||| q_t (a_s A))) else if x = 6 then nI (q_pc (q_h (a_s A))) else if x = 7 then nI (q_n (a_s A)) else if x = 8 then nI (q_p (a_s A)) else if x = 9 then nI (p_B (a_P A)) else if x = 10 then nI (p_T (a_P A)) else if x = 11 then nI (a_kl A).length else if x = 12 then nI (a_mt A).length else if x = 13 then nI (a_ud A).length else if x = 14 then nI (a_sd A) else -nI 1) (fun S h hA => ⟨S, ?_, onI.refl h.1⟩) (fun S h hA => ⟨S, ?_, onM.refl h.W⟩)
  · obtain ⟨q, hH, hq⟩ := h.H hA
    have hB := hA.2.1.Bd hA.1
    have e := e112 (d + 19) x S h.1
    have s0 : gI S 27 0 = nI (q_n (a_s A)) := h.s.1
    have s1 : gI S 27 1 = nI (q_p (a_s A)) := h.s.2.1
    have s2 : gI S 27 2 = nI (q_h (a_s A)) := h.s.2.2.1
    have s3 : gI S 27 3 = nI (q_t (a_s A)) := h.s.2.2.2.1
    have s4 : gI S 27 4 = nI (q_l (a_s A)).length := h.s.2.2.2.2.1
    rw [hq, s2, s3, fa_or, c274 (d := d + 18) h.1 hB.2.1, zb_some, zb_some, c274 (d := d + 18) h.1 (q_or16 hB.1 hB.2.1), zb_some, c274 (d := d + 18) h.1 hB.1, zb_some, s0, s1, s4, hH.2.2.2.1.2.1, hH.2.2.2.1.2.2.1, hH.2.2.2.1.2.2.2.1, hH.2.2.2.1.2.2.2.2.2.2.1, h.2.2.2.2.1.2.1, h.2.2.2.2.2.1.2.1, h.2.2.2.2.2.2.1.1, h.2.2.2.2.2.2.2.1.1, pk_sub (hA.2.1.pc hA.1)] at e
    rw [e]
    simp only [smi]
    rfl
  · have hW := h.W
    have e := e230 (d + 19) x S hW
    have hB := hA.2.1.Bd hA.1
    have hm := hA.1.2.2.2.2.2.1
    obtain ⟨h1, ⟨b, hM⟩, h3, h4, h5, h6, h7, h8, h9, h10, h11⟩ := h
    by_cases c : 0 < p_m (a_P A)
    · rw [decide_eq_true c] at h3
      rw [m_s_eq c] at h5
      have i0 : z_in (0 : Int32) 22 := by decide
      have ib : z_in (nI b) 2 := (ni_in (by have := hM.2.1; omega)).mpr hM.2.1
      have hb2 := hM.2.1
      have a9 : fI (d + 19) 209 [.ref 396, .int (0 : Int32)] S = _ := m209 (d := d + 15) (v := 0) hM (by omega) h5 hA.2.1
      have g0 : gI S 420 (0 : Int32).toNatClampNeg = nI (q_n (a_s A)) := h5.1
      have g1 : gI S 421 (0 : Int32).toNatClampNeg = nI (q_p (a_s A)) := h5.2.1
      have g2 : gI S 422 (0 : Int32).toNatClampNeg = nI (q_h (a_s A)) := h5.2.2.1
      have g3 : gI S 425 (0 : Int32).toNatClampNeg = nI (q_l (a_s A)).length := h5.2.2.2.1
      have g4 : gI S 427 (0 : Int32).toNatClampNeg = nI (a_kl A).length := h6.2.1
      have n1 : ¬ bI true = (0 : Int32) := by decide
      have hls : (lN (a_sd A)).toInt32 = nI (a_sd A) := lN_i _
      rw [h3, if_pos n1, hM.2.2.1, if_pos ib, if_pos ib, if_pos ib, if_pos ib, if_pos ib, nI_clamp (by omega), m229 (d := d + 18) hM h5 hA.2.1, zb_some, zb_some, if_pos i0, if_pos i0, g2, m206 (d := d + 18) hW hB.1, zb_some, a9, zb_some, g0, g1, g3, g4, hM.2.2.2.1.1, hM.2.2.2.1.2.1, hM.2.2.2.1.2.2.1, hM.2.2.2.1.2.2.2.2.1, h7.2.1, h8.1, h9.1, hls] at e
      rw [e]
      simp only [smi]
      simp only [if_pos i0]
      rfl
    · rw [decide_eq_false c] at h3
      obtain ⟨z1, z2, z3, z4, z5, z6, z7, z8, z9⟩ := hA.2.2.2.2.2.2.2.2.2 (by omega)
      have n1 : ¬ ¬ bI false = (0 : Int32) := by decide
      have t0 : q_t (a_s A) = 0 := by have := hA.2.1.2.1; rw [z1] at this; omega
      have hh0 : q_h (a_s A) = 0 := by have := hA.2.1.1; rw [z1] at this; omega
      have l0 : (q_l (a_s A)).length = 0 := by have := hA.2.1.2.2.2.2.2.2.2.2.2.1; rw [z2] at this; omega
      have hls : (lN (a_sd A)).toInt32 = nI (a_sd A) := lN_i _
      rw [h3, if_neg n1, h9.1, hls] at e
      rw [e, z1, z2, z3, z4, z5, z6, z7, z8, z9, t0, hh0, l0]
      have a1 : fI (d + 19) 155 [.int x, .int 0, .int 13] S = some (bI (ixO 14 x), S) := by
        rw [m155g (d := d + 18) hW, ixO_d]; rfl
      rw [a1, zb_some]
      by_cases c14 : x = 14
      · subst c14
        rfl
      · have n14 : (if x = 14 then nI (a_sd A) else -nI 1) = -nI 1 := if_neg c14
        by_cases cx : ixO 14 x = true
        · obtain ⟨k, k1, rfl⟩ := ixO_t cx (by omega)
          rw [cx]
          have : k = 0 ∨ k = 1 ∨ k = 2 ∨ k = 3 ∨ k = 4 ∨ k = 5 ∨ k = 6 ∨ k = 7 ∨ k = 8 ∨ k = 9 ∨ k = 10 ∨ k = 11 ∨ k = 12 ∨ k = 13 := by omega
          rcases this with q | q | q | q | q | q | q | q | q | q | q | q | q | q <;> subst q <;> rfl
        · have cx' : ixO 14 x = false := by simpa using cx
          rw [cx']
          have nk : ∀ k : Nat, k < 14 → ¬ x = nI k := fun k hk z => by rw [z, ixO_n hk (by omega)] at cx'; cases cx'
          rw [if_neg (show ¬ x = 0 from nk 0 (by omega)), if_neg (show ¬ x = 1 from nk 1 (by omega)), if_neg (show ¬ x = 2 from nk 2 (by omega)), if_neg (show ¬ x = 3 from nk 3 (by omega)), if_neg (show ¬ x = 4 from nk 4 (by omega)), if_neg (show ¬ x = 5 from nk 5 (by omega)), if_neg (show ¬ x = 6 from nk 6 (by omega)), if_neg (show ¬ x = 7 from nk 7 (by omega)), if_neg (show ¬ x = 8 from nk 8 (by omega)), if_neg (show ¬ x = 9 from nk 9 (by omega)), if_neg (show ¬ x = 10 from nk 10 (by omega)), if_neg (show ¬ x = 11 from nk 11 (by omega)), if_neg (show ¬ x = 12 from nk 12 (by omega)), if_neg (show ¬ x = 13 from nk 13 (by omega)), n14, if_pos c14]
          rfl
end TB
