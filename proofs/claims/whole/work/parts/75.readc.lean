/-! READING AN IMAGE: the class. -/
def q_rsi (tp : List Nat) (i : Nat) : q_St := (tp.getD 0 0 * 256 + tp.getD 1 0, tp.getD 2 0 * 65536 + tp.getD 3 0 * 256 + tp.getD 4 0, q_rh tp i, 0, fun _ => none, fun _ => 255, fun _ => 0, [])
/-- the first i on the bench -/
def q_bl (P : q_Pl) (tp : List Nat) (i : Nat) : List Nat := (List.range i).map fun j => tp.getD (5 + p_R P + 2 * p_L P + 1 + j) 0
theorem q_bl_s (P : q_Pl) (tp : List Nat) (i : Nat) : q_bl P tp (i + 1) = q_bl P tp i ++ [tp.getD (5 + p_R P + 2 * p_L P + 1 + i) 0] := by
  unfold q_bl
  rw [List.range_succ, List.map_append]
  rfl
theorem q_bl_l (P : q_Pl) (tp : List Nat) (i : Nat) : (q_bl P tp i).length = i := by unfold q_bl; rw [List.length_map, List.length_range]
theorem q_s31 : ∀ k : Fin 16, ((nI k.val &&& 31).toBitVec.smod 32).toNat = k.val := by decide +kernel
section TP
variable {d q : Nat} {S : z_S} {P : q_Pl} {tp : List Nat}
def rE (S : z_S) (q : Nat) (P : q_Pl) (tp : List Nat) : Prop := z_W S ∧ (q = 2 ∨ q = 10) ∧ z_K q = 6 ∧ cPl S q P ∧ xTp S 0 1 1 tp
theorem rE.on {S' : z_S} (h : rE S q P tp) (ho : onI (pD 32) S S') : rE S' q P tp := by
  obtain ⟨h1, h2, h3, h4, h5⟩ := h
  exact ⟨ho.W, h2, h3, h4.on ho (fun c k a b => by unfold pD; omega), h5.ag (ho.ag fun c k z => by unfold pD; omega)⟩
theorem c46_l (hP : p_Wf P) (hb : ∀ x, x ∈ tp → x < 256) (hl : 5 + p_R P ≤ tp.length) (hl2 : tp.length ≤ 1600) : ∀ (m i : Nat) (S : z_S), i + m = p_R P → rE S q P tp → cSt S 32 16 (q_rsi tp i) → (∀ r, r < i → tp.getD (5 + r) 0 ≤ 1) → ∃ (v : Bool) (S' : z_S), b46_2 d 1 q 32 (nI i) S = some (bI v, S') ∧ onI (pD 32) S S' ∧ (v = true ↔ ∀ r, r < p_R P → tp.getD (5 + r) 0 ≤ 1) ∧ (v = true → cSt S' 32 16 (q_rsi tp (p_R P)))
  | 0, i, S, hi, h, hs, hf => by
    have hR := hP.1
    have e := b46_2_eq d 1 q 32 (nI i) S h.1 (by decide +kernel) h.2.2.1 (by decide +kernel)
    rw [h.2.2.2.1.2.1, if_pos ((nI_leI (by omega) (by omega)).mpr (by omega))] at e
    rw [show i = p_R P by omega] at hs hf
    exact ⟨true, S, e, onI.refl h.1, ⟨fun _ => hf, fun _ => rfl⟩, fun _ => hs⟩
  | m + 1, i, S, hi, h, hs, hf => by
    have hR := hP.1
    have e := b46_2_eq d 1 q 32 (nI i) S h.1 (by decide +kernel) h.2.2.1 (by decide +kernel)
    have hln : z_Ln 1 = 1600 := by decide +kernel
    have g0 : gI S 1 (nI (5 + i)).toNatClampNeg = nI (tp.getD (5 + i) 0) := by rw [nI_clamp (by omega)]; exact h.2.2.2.2.2 _ (by omega)
    have l0 := tp_b hb (5 + i)
    have hrl := q_rh_lt i hf
    have hp16 := q_p2 (show i ≤ 16 by omega)
    have hml : tp.getD (5 + i) 0 * 2 ^ i ≤ 255 * 65536 := Nat.mul_le_mul (by omega) hp16
    have hsl : nI (tp.getD (5 + i) 0) <<< (nI i &&& 31) = nI (tp.getD (5 + i) 0 * 2 ^ i) := pk_shlN (nI i &&& 31) i (q_s31 ⟨i, by omega⟩) (by omega)
    have g2 : gI S 32 2 = nI (q_rh tp i) := hs.2.2.1
    rw [h.2.2.2.1.2.1, if_neg (show ¬ nI (p_R P) ≤ nI i from fun z => by have := (nI_leI (by omega) (by omega)).mp z; omega), hln, show (5 : Int32) = nI 5 from rfl, nI_add, if_pos ((ni_in (by omega)).mpr (by omega)), g0, g2, hsl, fa_or, show (1 : Int32) = nI 1 from rfl, nI_add] at e
    by_cases c : tp.getD (5 + i) 0 ≤ 1
    · rw [if_pos ((nI_leI (by omega) (by omega)).mpr c)] at e
      have ho : onI (pD 32) S (sI S 32 2 (nI (q_rh tp i ||| tp.getD (5 + i) 0 * 2 ^ i))) := onI_sI (D := pD 32) (c := 32) (onI.refl h.1) (by unfold pD; omega)
      have hs1 : cSt (sI S 32 2 (nI (q_rh tp i ||| tp.getD (5 + i) 0 * 2 ^ i))) 32 16 (q_rsi tp (i + 1)) := by
        obtain ⟨s0, s1, s2, s3, s4, s5, s6, s7, s8⟩ := hs
        refine ⟨?_, ?_, ?_, ?_, ?_, fun j hj => ?_, fun j hj hg => ?_, fun j hj hg => ?_, fun j hj => ?_⟩
        · simp (disch := omega) only [ni_lit, nI_add, pk_mul, pk_sub, pk_div, nI_leI, nI_ltI, nI_eq, nI_clamp, ni_in, ni_inm, ni_ltm, ni_mlt, ni_lem, ni_mle, ni_eqm, ni_meq, ni_mm, ni_mmle, ni_bit, ni_shl, ni_clr, fa_or, Nat.add_zero, Nat.zero_add, Nat.zero_mul, Nat.mul_zero, eOn, eOs, if_true, if_false, not_true_eq_false, not_false_eq_true, ite_true, ite_false, true_and, and_true, false_and, and_false, or_true, true_or, or_false, false_or, Bool.false_eq_true, reduceIte, Bool.not_true, Bool.not_false, and_self, or_self, q_ef, q_et, q_ltt, q_ltf, q_let, q_lef, gIs, gIl, gIr, gLs, gLl, gLr, gPs, gPl, gPr, gLc, gPc, zb_some, Option.bind_some, q_nm, q_pm, q_hm, q_tm, q_sm, q_wm, q_ym, q_lm, q_ua]; exact s0
        · simp (disch := omega) only [ni_lit, nI_add, pk_mul, pk_sub, pk_div, nI_leI, nI_ltI, nI_eq, nI_clamp, ni_in, ni_inm, ni_ltm, ni_mlt, ni_lem, ni_mle, ni_eqm, ni_meq, ni_mm, ni_mmle, ni_bit, ni_shl, ni_clr, fa_or, Nat.add_zero, Nat.zero_add, Nat.zero_mul, Nat.mul_zero, eOn, eOs, if_true, if_false, not_true_eq_false, not_false_eq_true, ite_true, ite_false, true_and, and_true, false_and, and_false, or_true, true_or, or_false, false_or, Bool.false_eq_true, reduceIte, Bool.not_true, Bool.not_false, and_self, or_self, q_ef, q_et, q_ltt, q_ltf, q_let, q_lef, gIs, gIl, gIr, gLs, gLl, gLr, gPs, gPl, gPr, gLc, gPc, zb_some, Option.bind_some, q_nm, q_pm, q_hm, q_tm, q_sm, q_wm, q_ym, q_lm, q_ua]; exact s1
        · rw [gI_sI, if_pos rfl, if_pos rfl]; rfl
        · simp (disch := omega) only [ni_lit, nI_add, pk_mul, pk_sub, pk_div, nI_leI, nI_ltI, nI_eq, nI_clamp, ni_in, ni_inm, ni_ltm, ni_mlt, ni_lem, ni_mle, ni_eqm, ni_meq, ni_mm, ni_mmle, ni_bit, ni_shl, ni_clr, fa_or, Nat.add_zero, Nat.zero_add, Nat.zero_mul, Nat.mul_zero, eOn, eOs, if_true, if_false, not_true_eq_false, not_false_eq_true, ite_true, ite_false, true_and, and_true, false_and, and_false, or_true, true_or, or_false, false_or, Bool.false_eq_true, reduceIte, Bool.not_true, Bool.not_false, and_self, or_self, q_ef, q_et, q_ltt, q_ltf, q_let, q_lef, gIs, gIl, gIr, gLs, gLl, gLr, gPs, gPl, gPr, gLc, gPc, zb_some, Option.bind_some, q_nm, q_pm, q_hm, q_tm, q_sm, q_wm, q_ym, q_lm, q_ua]; exact s3
        · simp (disch := omega) only [ni_lit, nI_add, pk_mul, pk_sub, pk_div, nI_leI, nI_ltI, nI_eq, nI_clamp, ni_in, ni_inm, ni_ltm, ni_mlt, ni_lem, ni_mle, ni_eqm, ni_meq, ni_mm, ni_mmle, ni_bit, ni_shl, ni_clr, fa_or, Nat.add_zero, Nat.zero_add, Nat.zero_mul, Nat.mul_zero, eOn, eOs, if_true, if_false, not_true_eq_false, not_false_eq_true, ite_true, ite_false, true_and, and_true, false_and, and_false, or_true, true_or, or_false, false_or, Bool.false_eq_true, reduceIte, Bool.not_true, Bool.not_false, and_self, or_self, q_ef, q_et, q_ltt, q_ltf, q_let, q_lef, gIs, gIl, gIr, gLs, gLl, gLr, gPs, gPl, gPr, gLc, gPc, zb_some, Option.bind_some, q_nm, q_pm, q_hm, q_tm, q_sm, q_wm, q_ym, q_lm, q_ua]; exact s4
        · rw [gI_sI, if_neg (by omega)]; exact s5 j hj
        · rw [gI_sI, if_neg (by omega)]; exact s6 j hj hg
        · rw [gI_sI, if_neg (by omega)]; exact s7 j hj hg
        · rw [gI_sI, if_neg (by omega)]; exact s8 j hj
      obtain ⟨v, S', a1, a2, a3, a4⟩ := c46_l hP hb hl hl2 m (i + 1) _ (by omega) (h.on ho) hs1 (fun r hr => by
        by_cases z : r = i
        · rw [z]; exact c
        · exact hf r (by omega))
      exact ⟨v, S', e.trans a1, ho.trans a2, a3, a4⟩
    · rw [if_neg (fun z => c ((nI_leI (by omega) (by omega)).mp z))] at e
      exact ⟨false, S, e, onI.refl h.1, ⟨fun z => Bool.noConfusion z, fun z => absurd (z i (by omega)) c⟩, fun z => Bool.noConfusion z⟩
theorem c47_l (hP : p_Wf P) (hb : ∀ x, x ∈ tp → x < 256) (hl : 5 + p_R P + 2 * p_L P ≤ tp.length) (hl2 : tp.length ≤ 1600) : ∀ (m k : Nat) (S : z_S) (s : q_St), k + m = p_L P → rE S q P tp → cSt S 32 16 s → q_RI P k s → ∃ (v : Bool) (S' : z_S), b47_3 (d + 1) 1 (nI (5 + p_R P)) q 32 (nI k) S = some (bI v, S') ∧ onI (pD 32) S S' ∧ (v = true ↔ (q_rl P tp m k s).isSome = true) ∧ ∀ s', q_rl P tp m k s = some s' → cSt S' 32 16 s'
  | 0, k, S, s, hk, h, hs, hI => by
    have hL := hP.2.2.2.2.1
    have e := b47_3_eq (d + 1) 1 (nI (5 + p_R P)) q 32 (nI k) S h.1 (by decide +kernel) h.2.2.1 (by decide +kernel)
    rw [h.2.2.2.1.2.2.2.2.2.2.1, if_pos ((nI_leI (by omega) (by omega)).mpr (by omega))] at e
    refine ⟨true, S, e, onI.refl h.1, ⟨fun _ => rfl, fun _ => rfl⟩, fun s' z => ?_⟩
    rw [q_rl] at z
    injection z with z
    rw [← z]; exact hs
  | m + 1, k, S, s, hk, h, hs, hI => by
    have hL := hP.2.2.2.2.1
    have hR := hP.1
    have hB := hI.Bd hP
    have ff := hP.2.2.2.2.2.2.2.1 k (by omega)
    have e := b47_3_eq (d + 1) 1 (nI (5 + p_R P)) q 32 (nI k) S h.1 (by decide +kernel) h.2.2.1 (by decide +kernel)
    have hln : z_Ln 1 = 1600 := by decide +kernel
    have g0 : gI S 1 (nI (5 + p_R P + 2 * k)).toNatClampNeg = nI (tp.getD (5 + p_R P + 2 * k) 0) := by rw [nI_clamp (by omega)]; exact h.2.2.2.2.2 _ (by omega)
    have g1 : gI S 1 (nI (5 + p_R P + 2 * k + 1)).toNatClampNeg = nI (tp.getD (5 + p_R P + 2 * k + 1) 0) := by rw [nI_clamp (by omega)]; exact h.2.2.2.2.2 _ (by omega)
    have gf : gI S (q + 2) (nI k).toNatClampNeg = nI (p_f P k) := by rw [nI_clamp (by omega)]; exact h.2.2.2.1.2.2.2.2.2.2.2.2.2.1 k (by omega)
    have go : gI S (q + 3) (nI k).toNatClampNeg = nI (p_o P k) := by rw [nI_clamp (by omega)]; exact h.2.2.2.1.2.2.2.2.2.2.2.2.2.2.1 k (by omega)
    have l0 := tp_b hb (5 + p_R P + 2 * k)
    have l1 := tp_b hb (5 + p_R P + 2 * k + 1)
    have i0 : z_in (nI (5 + p_R P + 2 * k)) 1600 := (ni_in (by omega)).mpr (by omega)
    have i1 : z_in (nI (5 + p_R P + 2 * k + 1)) 1600 := (ni_in (by omega)).mpr (by omega)
    have i2 : z_in (nI k) 16 := (ni_in (by omega)).mpr (by omega)
    rw [h.2.2.2.1.2.2.2.2.2.2.1, if_neg (show ¬ nI (p_L P) ≤ nI k from fun z => by have := (nI_leI (by omega) (by omega)).mp z; omega), hln, show (2 : Int32) = nI 2 from rfl, pk_mul, show (1 : Int32) = nI 1 from rfl, nI_add, nI_add, if_pos i0, if_pos i1, if_pos i2, if_pos i2, g0, g1, gf, go] at e
    have ih := fun S s => c47_l hP hb hl hl2 m (k + 1) S s (by omega)
    have rk : q_rl P tp (m + 1) k s = (q_rk P tp s k).bind (q_rl P tp m (k + 1)) := by rw [q_rl]
    have hstep : ∀ s1, q_rk P tp s k = some s1 → q_RI P (k + 1) s1 := fun s1 z => q_RI_k hP (by omega) hI z
    rw [rk]
    unfold q_rk at hstep ⊢
    revert e hstep l0 l1
    generalize tp.getD (5 + p_R P + 2 * k) 0 = w
    generalize tp.getD (5 + p_R P + 2 * k + 1) 0 = y
    intro e l0 l1 hstep
    have nx : ∀ (S1 : z_S) (s1 : q_St), onI (pD 32) S S1 → cSt S1 32 16 s1 → q_RI P (k + 1) s1 → ∃ (v : Bool) (S' : z_S), b47_128 (d + 1) 1 (nI (5 + p_R P)) q 32 (nI k) S1 = some (bI v, S') ∧ onI (pD 32) S S' ∧ (v = true ↔ (q_rl P tp m (k + 1) s1).isSome = true) ∧ ∀ s', q_rl P tp m (k + 1) s1 = some s' → cSt S' 32 16 s' := fun S1 s1 o1 c1 r1 => by
      have e2 := b47_128_eq (d + 1) 1 (nI (5 + p_R P)) q 32 (nI k) S1 o1.W (by decide +kernel) h.2.2.1 (by decide +kernel)
      rw [show (1 : Int32) = nI 1 from rfl, nI_add] at e2
      obtain ⟨v, S', a1, a2, a3, a4⟩ := ih S1 s1 (h.on o1) c1 r1
      exact ⟨v, S', e2.trans a1, o1.trans a2, a3, a4⟩
    by_cases c1 : w = p_f P k ∨ w = p_o P k
    · rw [if_pos c1] at hstep ⊢
      have hw16 : w < 16 := by omega
      have e58 := b47_58_eq (d + 1) 1 (nI (5 + p_R P)) q 32 (nI k) (nI w) (nI y) S h.1 (by decide +kernel) h.2.2.1 (by decide +kernel)
      have e' : b47_3 (d + 1) 1 (nI (5 + p_R P)) q 32 (nI k) S = b47_58 (d + 1) 1 (nI (5 + p_R P)) q 32 (nI k) (nI w) (nI y) S := by
        rw [e]
        rcases c1 with z | z
        · rw [if_pos (by rw [z])]
        · by_cases z2 : nI w = nI (p_f P k)
          · rw [if_pos z2]
          · rw [if_neg z2, if_neg (fun q => q (by rw [z]))]
      rw [c76 (d := d) h.1 (by decide +kernel) hs hB hw16, zb_some] at e58
      by_cases c2 : q_free s w = true ∧ y ≤ 99
      · rw [if_pos c2] at hstep ⊢
        obtain ⟨S1, a1, a2, a3⟩ := c79 (d := d) (p := 32) (k := k) (r := w) (g' := 16) h.1 (by decide +kernel) hs hB (by omega) hw16 (fun j a b _ => b)
        rw [c2.1, if_neg (by decide), if_pos (show nI y ≤ (99 : Int32) from (nI_leI (b := 99) (by omega) (by omega)).mpr c2.2), a1, Option.bind_some, if_pos i2, nI_clamp (by omega)] at e58
        have o1 : onI (pD 32) S (sI S1 (32 + 3) k (nI y)) := onI_sI (D := pD 32) (c := 32 + 3) a2 (by unfold pD; omega)
        have s1 : cSt (sI S1 (32 + 3) k (nI y)) 32 16 (q_yy (q_bed s k w) k y) := by
          obtain ⟨s0, s1, s2, s3, s4, s5, s6, s7, s8⟩ := a3
          refine ⟨?_, ?_, ?_, ?_, ?_, fun j hj => ?_, fun j hj hg => ?_, fun j hj hg => ?_, fun j hj => ?_⟩
          · rw [gI_sI, if_neg (by omega)]; exact s0
          · rw [gI_sI, if_neg (by omega)]; exact s1
          · rw [gI_sI, if_neg (by omega)]; exact s2
          · rw [gI_sI, if_neg (by omega)]; exact s3
          · rw [gI_sI, if_neg (by omega)]; exact s4
          · rw [gI_sI, if_neg (by omega)]; exact s5 j hj
          · rw [gI_sI, if_neg (by omega)]; exact s6 j hj hg
          · rw [gI_sI, if_pos rfl]
            show _ = nI (q_u (q_y (q_bed s k w)) k y j)
            by_cases z : j = k
            · subst z; rw [if_pos rfl, q_us]
            · rw [if_neg z, q_un z]; exact s7 j hj hg
          · rw [gI_sI, if_neg (by omega)]; exact s8 j hj
        obtain ⟨v, S', b1, b2, b3, b4⟩ := nx _ _ o1 s1 (hstep _ rfl)
        exact ⟨v, S', e'.trans (e58.trans b1), b2, b3, b4⟩
      · rw [if_neg c2]
        refine ⟨false, S, ?_, onI.refl h.1, ⟨fun z => Bool.noConfusion z, fun z => by cases z⟩, fun s' z => by cases z⟩
        rw [e', e58]
        cases hf : q_free s w
        · rfl
        · rw [if_neg (by decide), if_neg (show ¬ nI y ≤ (99 : Int32) from fun z => c2 ⟨hf, (nI_leI (b := 99) (by omega) (by omega)).mp z⟩)]
          rfl
    · rw [if_neg c1] at hstep ⊢
      have e112 := b47_112_eq (d + 1) 1 (nI (5 + p_R P)) q 32 (nI k) (nI w) (nI y) S h.1 (by decide +kernel) h.2.2.1 (by decide +kernel)
      rw [if_neg (fun z => c1 (Or.inl ((nI_eq (by omega) (by omega)).mp z))), if_pos (fun z => c1 (Or.inr ((nI_eq (by omega) (by omega)).mp z)))] at e
      have k4 : nI w = (254 : Int32) ↔ w = 254 := nI_eq (b := 254) (by omega) (by omega)
      have k5 : nI w = (255 : Int32) ↔ w = 255 := nI_eq (b := 255) (by omega) (by omega)
      have ky : nI y = (0 : Int32) ↔ y = 0 := nI_eq (b := 0) (by omega) (by omega)
      by_cases c2 : w = 254 ∨ w = 255
      · have e' : b47_3 (d + 1) 1 (nI (5 + p_R P)) q 32 (nI k) S = b47_112 (d + 1) 1 (nI (5 + p_R P)) q 32 (nI k) (nI w) (nI y) S := by
          rw [e]
          by_cases z : w = 254
          · rw [if_pos (k4.mpr z)]
          · rw [if_neg (fun q => z (k4.mp q)), if_neg (fun q => q (k5.mpr (by omega)))]
        by_cases c3 : y = 0
        · rw [if_pos ⟨c2, c3⟩] at hstep ⊢
          rw [if_pos (ky.mpr c3), if_pos i2, nI_clamp (by omega)] at e112
          have o1 : onI (pD 32) S (sI S (32 + 2) k (nI w)) := onI_sI (D := pD 32) (c := 32 + 2) (onI.refl h.1) (by unfold pD; omega)
          have s1 : cSt (sI S (32 + 2) k (nI w)) 32 16 (q_ww s k w) := by
            obtain ⟨s0, s1, s2, s3, s4, s5, s6, s7, s8⟩ := hs
            refine ⟨?_, ?_, ?_, ?_, ?_, fun j hj => ?_, fun j hj hg => ?_, fun j hj hg => ?_, fun j hj => ?_⟩
            · rw [gI_sI, if_neg (by omega)]; exact s0
            · rw [gI_sI, if_neg (by omega)]; exact s1
            · rw [gI_sI, if_neg (by omega)]; exact s2
            · rw [gI_sI, if_neg (by omega)]; exact s3
            · rw [gI_sI, if_neg (by omega)]; exact s4
            · rw [gI_sI, if_neg (by omega)]; exact s5 j hj
            · rw [gI_sI, if_pos rfl]
              show _ = nI (q_u (q_w s) k w j)
              by_cases z : j = k
              · subst z; rw [if_pos rfl, q_us]
              · rw [if_neg z, q_un z]; exact s6 j hj hg
            · rw [gI_sI, if_neg (by omega)]; exact s7 j hj hg
            · rw [gI_sI, if_neg (by omega)]; exact s8 j hj
          obtain ⟨v, S', b1, b2, b3, b4⟩ := nx _ _ o1 s1 (hstep _ rfl)
          exact ⟨v, S', e'.trans (e112.trans b1), b2, b3, b4⟩
        · rw [if_neg (fun z => c3 z.2)]
          rw [if_neg (fun z => c3 (ky.mp z))] at e112
          exact ⟨false, S, e'.trans e112, onI.refl h.1, ⟨fun z => Bool.noConfusion z, fun z => by cases z⟩, fun s' z => by cases z⟩
      · rw [if_neg (fun z => c2 z.1)]
        rw [if_neg (fun q => c2 (Or.inl (k4.mp q))), if_pos (fun q => c2 (Or.inr (k5.mp q)))] at e
        exact ⟨false, S, e, onI.refl h.1, ⟨fun z => Bool.noConfusion z, fun z => by cases z⟩, fun s' z => by cases z⟩
end TP
