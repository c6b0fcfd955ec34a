/-! THE REFERENCE'S rows: layers of states, banks of plans. -/
/-- what has changed, ints and longs -/
def onM (D : Nat → Nat → Prop) (S S' : z_S) : Prop := z_W S' ∧ gR S' = gR S ∧ (∀ c k, ¬ D c k → gI S' c k = gI S c k) ∧ ∀ c k, ¬ D c k → gL S' c k = gL S c k
theorem onM.refl {D : Nat → Nat → Prop} {S : z_S} (h : z_W S) : onM D S S := ⟨h, rfl, fun _ _ _ => rfl, fun _ _ _ => rfl⟩
theorem onM.mono {D D' : Nat → Nat → Prop} {S S' : z_S} (h : onM D S S') (hd : ∀ c k, D c k → D' c k) : onM D' S S' := ⟨h.1, h.2.1, fun c k hn => h.2.2.1 c k fun q => hn (hd c k q), fun c k hn => h.2.2.2 c k fun q => hn (hd c k q)⟩
theorem onM.trans {D : Nat → Nat → Prop} {S S' S'' : z_S} (h : onM D S S') (h2 : onM D S' S'') : onM D S S'' := ⟨h2.1, h2.2.1.trans h.2.1, fun c k hn => (h2.2.2.1 c k hn).trans (h.2.2.1 c k hn), fun c k hn => (h2.2.2.2 c k hn).trans (h.2.2.2 c k hn)⟩
theorem onM.W {D : Nat → Nat → Prop} {S S' : z_S} (h : onM D S S') : z_W S' := h.1
theorem onM.I {D : Nat → Nat → Prop} {S S' : z_S} (h : onM D S S') {c k : Nat} (hn : ¬ D c k) : gI S' c k = gI S c k := h.2.2.1 c k hn
theorem onM.L {D : Nat → Nat → Prop} {S S' : z_S} (h : onM D S S') {c k : Nat} (hn : ¬ D c k) : gL S' c k = gL S c k := h.2.2.2 c k hn
theorem onM.P {D : Nat → Nat → Prop} {S S' : z_S} (h : onM D S S') (c k : Nat) : gP S' c k = gP S c k := by unfold gP; rw [h.2.1]
theorem onI.M {D : Nat → Nat → Prop} {S S' : z_S} (h : onI D S S') : onM D S S' := ⟨h.1, h.2.1, h.2.2.2, fun c k _ => by rw [h.2.2.1]⟩
theorem onM_sI {D : Nat → Nat → Prop} {S S' : z_S} (h : onM D S S') {c k : Nat} {v : Int32} (hd : D c k) : onM D S (sI S' c k v) := by
  refine ⟨h.1, h.2.1, fun c' k' hn => ?_, h.2.2.2⟩
  rw [gI_sI]
  split
  · split
    · rename_i e1 e2
      exact absurd (e1 ▸ e2 ▸ hd) hn
    · exact h.2.2.1 c' k' hn
  · exact h.2.2.1 c' k' hn
theorem onM_sL {D : Nat → Nat → Prop} {S S' : z_S} (h : onM D S S') {c k : Nat} {v : Int64} (hd : D c k) : onM D S (sL S' c k v) := by
  refine ⟨h.1, h.2.1, h.2.2.1, fun c' k' hn => ?_⟩
  rw [gL_sL]
  split
  · split
    · rename_i e1 e2
      exact absurd (e1 ▸ e2 ▸ hd) hn
    · exact h.2.2.2 c' k' hn
  · exact h.2.2.2 c' k' hn
/-- layer v holds a state -/
def mSt (S : z_S) (v : Nat) (s : q_St) : Prop :=
  gI S 420 v = nI (q_n s) ∧ gI S 421 v = nI (q_p s) ∧ gI S 422 v = nI (q_h s) ∧ gI S 425 v = nI (q_l s).length ∧
  (∀ r, r < 16 → gI S 423 (16 * v + r) = eO (q_s s r)) ∧ (∀ k, k < 16 → gI S 424 (16 * v + k) = nI (q_y s k)) ∧ ∀ i, i < (q_l s).length → gI S 426 (6 * v + i) = nI ((q_l s).getD i 0)
/-- the places of layer v, but for what is kept -/
def vD (v : Nat) : Nat → Nat → Prop := fun c k => (c = 420 ∨ c = 421 ∨ c = 422 ∨ c = 425) ∧ k = v ∨ (c = 423 ∨ c = 424) ∧ 16 * v ≤ k ∧ k < 16 * v + 16 ∨ c = 426 ∧ 6 * v ≤ k ∧ k < 6 * v + 6
theorem mSt.on {S S' : z_S} {v : Nat} {s : q_St} {D : Nat → Nat → Prop} (h : mSt S v s) (hl : (q_l s).length ≤ 6) (ho : onM D S S') (hd : ∀ c k, vD v c k → ¬ D c k) : mSt S' v s := by
  obtain ⟨h0, h1, h2, h3, h4, h5, h6⟩ := h
  unfold vD at hd
  refine ⟨?_, ?_, ?_, ?_, fun r hr => ?_, fun k hk => ?_, fun i hi => ?_⟩
  · rw [ho.I (hd _ _ (by omega))]; exact h0
  · rw [ho.I (hd _ _ (by omega))]; exact h1
  · rw [ho.I (hd _ _ (by omega))]; exact h2
  · rw [ho.I (hd _ _ (by omega))]; exact h3
  · rw [ho.I (hd _ _ (by omega))]; exact h4 r hr
  · rw [ho.I (hd _ _ (by omega))]; exact h5 k hk
  · rw [ho.I (hd _ _ (by omega))]; exact h6 i hi
/-- a code as the reference writes it -/
def q_mc (w c : Nat) (so va : Int32) : Prop := if c < 10000 then so = nI 0 ∧ va = nI c else if c = 10000 then so = nI 30 else if c ≤ 10004 then so = nI (c - 10000) else if c = 10005 then so = nI (5 + w) else so = nI (c - 10000 + 25)
/-- a name's letters as bytes in a long -/
def q_nw (l : List Nat) : Nat := l.foldl (fun w a => w * 256 + (a + 96)) 0
/-- bank b holds a plan -/
def mPl (S : z_S) (b : Nat) (P : q_Pl) : Prop :=
  gI S 398 b = nI (p_R P) ∧ gI S 399 b = nI (p_B P) ∧ gI S 400 b = nI (p_T P) ∧ gI S 401 b = nI (p_K P) ∧ gI S 402 b = nI (p_L P) ∧ gI S 405 b = nI (p_c P).length ∧ gI S 407 b = nI (p_H P) ∧
  (∀ i, i < p_L P → gI S 403 (16 * b + i) = nI (p_f P i)) ∧ (∀ i, i < p_L P → gI S 404 (16 * b + i) = nI (p_o P i)) ∧ (∀ i, i < (p_c P).length → gI S 406 (16 * b + i) = nI ((p_c P).getD i 0)) ∧ (∀ i, i < p_L P → gL S 412 (16 * b + i) = lN (q_nw (p_a P i))) ∧
  ∀ w, w < 3 → (p_d P w = [] ∧ gI S 408 (3 * b + w) = -nI 1) ∨ (p_d P w ≠ [] ∧ ∃ f, f + (p_d P w).length ≤ 1600 ∧ gI S 408 (3 * b + w) = nI f ∧ gI S 409 (3 * b + w) = nI (f + (p_d P w).length) ∧ ∀ i c, (p_d P w)[i]? = some c → q_mc w c (gI S 410 (1600 * b + (f + i))) (gI S 411 (1600 * b + (f + i))))
def cM (S : z_S) (b : Nat) (P : q_Pl) : Prop := z_W S ∧ b < 2 ∧ gI S 396 13 = nI b ∧ mPl S b P ∧ p_Wf P
theorem cM.on {S S' : z_S} {b : Nat} {P : q_Pl} {D : Nat → Nat → Prop} (h : cM S b P) (ho : onM D S S') (hd : ∀ c k, 398 ≤ c ∧ c ≤ 412 ∨ c = 396 ∧ k = 13 → ¬ D c k) : cM S' b P := by
  obtain ⟨h1, h2, h3, h4, h5⟩ := h
  have z : ∀ c k, 398 ≤ c → c ≤ 412 → gI S' c k = gI S c k := fun c k a b => ho.I (hd c k (Or.inl ⟨a, b⟩))
  have zl : ∀ c k, 398 ≤ c → c ≤ 412 → gL S' c k = gL S c k := fun c k a b => ho.L (hd c k (Or.inl ⟨a, b⟩))
  obtain ⟨g0, g1, g2, g3, g4, g5, g6, g7, g8, g9, g10, g11⟩ := h4
  refine ⟨ho.W, h2, by rw [ho.I (hd _ _ (Or.inr ⟨rfl, rfl⟩))]; exact h3, ⟨?_, ?_, ?_, ?_, ?_, ?_, ?_, fun i hi => ?_, fun i hi => ?_, fun i hi => ?_, fun i hi => ?_, fun w hw => ?_⟩, h5⟩
  · rw [z _ _ (by omega) (by omega)]; exact g0
  · rw [z _ _ (by omega) (by omega)]; exact g1
  · rw [z _ _ (by omega) (by omega)]; exact g2
  · rw [z _ _ (by omega) (by omega)]; exact g3
  · rw [z _ _ (by omega) (by omega)]; exact g4
  · rw [z _ _ (by omega) (by omega)]; exact g5
  · rw [z _ _ (by omega) (by omega)]; exact g6
  · rw [z _ _ (by omega) (by omega)]; exact g7 i hi
  · rw [z _ _ (by omega) (by omega)]; exact g8 i hi
  · rw [z _ _ (by omega) (by omega)]; exact g9 i hi
  · rw [zl _ _ (by omega) (by omega)]; exact g10 i hi
  · rcases g11 w hw with ⟨k1, k2⟩ | ⟨k1, f, k2, k3, k4, k5⟩
    · exact Or.inl ⟨k1, by rw [z _ _ (by omega) (by omega)]; exact k2⟩
    · refine Or.inr ⟨k1, f, k2, ?_, ?_, fun i c hc => ?_⟩
      · rw [z _ _ (by omega) (by omega)]; exact k3
      · rw [z _ _ (by omega) (by omega)]; exact k4
      · rw [z _ _ (by omega) (by omega), z _ _ (by omega) (by omega)]; exact k5 i c hc
section MA
variable {d b v : Nat} {S : z_S} {P : q_Pl} {s : q_St}
theorem m182 {a r : Nat} (hW : z_W S) (ha : a < 2147483648) (hr : r < 31) : fI (d + 1) 182 [.int (nI a), .int (nI r)] S = some (bI (a.testBit r), S) := by
  have e := e182 d (nI a) (nI r) S hW
  simp (disch := omega) only [ni_lit, nI_add, pk_mul, pk_sub, pk_div, nI_leI, nI_ltI, nI_eq, nI_clamp, ni_in, ni_inm, ni_ltm, ni_mlt, ni_lem, ni_mle, ni_eqm, ni_meq, ni_mm, ni_mmle, ni_bit, ni_shl, ni_clr, fa_or, Nat.add_zero, Nat.zero_add, Nat.zero_mul, Nat.mul_zero, eOn, eOs, if_true, if_false, not_true_eq_false, not_false_eq_true, ite_true, ite_false, true_and, and_true, false_and, and_false, or_true, true_or, or_false, false_or, Bool.false_eq_true, reduceIte, Bool.not_true, Bool.not_false, and_self, or_self, q_ef, q_et, q_ltt, q_ltf, q_let, q_lef, gIs, gIl, gIr, gLs, gLl, gLr, gPs, gPl, gPr, gLc, gPc, zb_some, Option.bind_some, q_nm, q_pm, q_hm, q_tm, q_sm, q_wm, q_ym, q_lm, q_ua] at e
  unfold q_b at e
  cases h : a.testBit r with
  | true => rw [h] at e; exact e
  | false => rw [h] at e; exact e
theorem m207 {r : Nat} (hW : z_W S) (hv : v < 22) (hs : mSt S v s) (hB : q_Bd s) (hr : r < 16) : fI (d + 2) 207 [.ref 396, .int (nI v), .int (nI r)] S = some (bI ((q_h s).testBit r), S) := by
  have e := e207 (d + 1) (nI v) (nI r) S hW
  have h1 := hB.1
  have a1 := m182 (d := d) (a := q_h s) (r := r) hW (by omega) (by omega)
  simp (disch := omega) only [ni_lit, nI_add, pk_mul, pk_sub, pk_div, nI_leI, nI_ltI, nI_eq, nI_clamp, ni_in, ni_inm, ni_ltm, ni_mlt, ni_lem, ni_mle, ni_eqm, ni_meq, ni_mm, ni_mmle, ni_bit, ni_shl, ni_clr, fa_or, Nat.add_zero, Nat.zero_add, Nat.zero_mul, Nat.mul_zero, eOn, eOs, if_true, if_false, not_true_eq_false, not_false_eq_true, ite_true, ite_false, true_and, and_true, false_and, and_false, or_true, true_or, or_false, false_or, Bool.false_eq_true, reduceIte, Bool.not_true, Bool.not_false, and_self, or_self, q_ef, q_et, q_ltt, q_ltf, q_let, q_lef, gIs, gIl, gIr, gLs, gLl, gLr, gPs, gPl, gPr, gLc, gPc, zb_some, Option.bind_some, q_nm, q_pm, q_hm, q_tm, q_sm, q_wm, q_ym, q_lm, q_ua, hs.2.2.1, a1] at e
  rw [e]
  cases (q_h s).testBit r
  · rfl
  · rfl
theorem m208 {r : Nat} (hW : z_W S) (hv : v < 22) (hs : mSt S v s) (hG : q_Gd P s) (hP : p_Wf P) (hr : r < 16) : fI (d + 3) 208 [.ref 396, .int (nI v), .int (nI r)] S = some (bI (q_free s r), S) := by
  have e := e208 (d + 2) (nI v) (nI r) S hW
  have hB := hG.Bd hP
  have a1 := m207 (d := d) hW hv hs hB hr
  have a2 := hs.2.2.2.2.1 r hr
  have hf := q_free_iff hG r
  cases hk : q_s s r with
  | none =>
    rw [hk] at a2
    simp (disch := omega) only [ni_lit, nI_add, pk_mul, pk_sub, pk_div, nI_leI, nI_ltI, nI_eq, nI_clamp, ni_in, ni_inm, ni_ltm, ni_mlt, ni_lem, ni_mle, ni_eqm, ni_meq, ni_mm, ni_mmle, ni_bit, ni_shl, ni_clr, fa_or, Nat.add_zero, Nat.zero_add, Nat.zero_mul, Nat.mul_zero, eOn, eOs, if_true, if_false, not_true_eq_false, not_false_eq_true, ite_true, ite_false, true_and, and_true, false_and, and_false, or_true, true_or, or_false, false_or, Bool.false_eq_true, reduceIte, Bool.not_true, Bool.not_false, and_self, or_self, q_ef, q_et, q_ltt, q_ltf, q_let, q_lef, gIs, gIl, gIr, gLs, gLl, gLr, gPs, gPl, gPr, gLc, gPc, zb_some, Option.bind_some, q_nm, q_pm, q_hm, q_tm, q_sm, q_wm, q_ym, q_lm, q_ua, a2, a1, b208_28_eq (d + 2) S hW, bI_0] at e
    rw [hk] at hf
    cases ht : (q_h s).testBit r with
    | true =>
      rw [ht] at e hf
      have : q_free s r = false := by
        cases hq : q_free s r with
        | false => rfl
        | true => exact absurd (hf.mp hq).1 (by decide)
      rw [this]
      simp only [if_true, if_false, not_true_eq_false, not_false_eq_true, ite_true, ite_false, true_and, and_true, false_and, and_false, or_true, true_or, or_false, false_or, Bool.false_eq_true, reduceIte, Bool.not_true, Bool.not_false, and_self, or_self, Bool.true_eq_false] at e
      exact e
    | false =>
      rw [ht] at e hf
      rw [hf.mpr ⟨rfl, rfl⟩]
      simp only [if_true, if_false, not_true_eq_false, not_false_eq_true, ite_true, ite_false, true_and, and_true, false_and, and_false, or_true, true_or, or_false, false_or, Bool.false_eq_true, reduceIte, Bool.not_true, Bool.not_false, and_self, or_self] at e
      exact e
  | some k =>
    have hk2 := hB.2.2.2.2.2.1 r k hk
    rw [hk] at a2
    simp (disch := omega) only [ni_lit, nI_add, pk_mul, pk_sub, pk_div, nI_leI, nI_ltI, nI_eq, nI_clamp, ni_in, ni_inm, ni_ltm, ni_mlt, ni_lem, ni_mle, ni_eqm, ni_meq, ni_mm, ni_mmle, ni_bit, ni_shl, ni_clr, fa_or, Nat.add_zero, Nat.zero_add, Nat.zero_mul, Nat.mul_zero, eOn, eOs, if_true, if_false, not_true_eq_false, not_false_eq_true, ite_true, ite_false, true_and, and_true, false_and, and_false, or_true, true_or, or_false, false_or, Bool.false_eq_true, reduceIte, Bool.not_true, Bool.not_false, and_self, or_self, q_ef, q_et, q_ltt, q_ltf, q_let, q_lef, gIs, gIl, gIr, gLs, gLl, gLr, gPs, gPl, gPr, gLc, gPc, zb_some, Option.bind_some, q_nm, q_pm, q_hm, q_tm, q_sm, q_wm, q_ym, q_lm, q_ua, a2, b208_28_eq (d + 2) S hW] at e
    have : q_free s r = false := by
      cases hq : q_free s r with
      | false => rfl
      | true => rw [hk] at hf; exact absurd (hf.mp hq).2 (by simp)
    rw [this]
    exact e
theorem q_fr (h : q_Gd P s) (hP : p_Wf P) : fb_ct (fun r => q_free s r) (p_R P) = p_R P - q_pc (q_h s ||| q_t s) := by
  have hR := hP.1
  have hlt := Nat.or_lt_two_pow h.1 h.2.1
  have h1 : q_pc (q_h s ||| q_t s) = fb_ct (fun i => (q_h s ||| q_t s).testBit i) (p_R P + (16 - p_R P)) := by unfold q_pc; rw [show p_R P + (16 - p_R P) = 16 by omega]
  rw [fb_ct_split] at h1
  have h2 : fb_ct (fun k => (q_h s ||| q_t s).testBit (p_R P + k)) (16 - p_R P) = 0 := fb_ct_zero.mpr fun k _ => q_tb (p_R P) hlt (by omega)
  have h3 := fb_ct_not (fun i => (q_h s ||| q_t s).testBit i) (p_R P)
  show fb_ct (fun r => !((q_h s ||| q_t s).testBit r)) (p_R P) = _
  omega
theorem m209_l (hM : cM S b P) (hv : v < 22) (hs : mSt S v s) (hG : q_Gd P s) : ∀ (m i : Nat), i + m = p_R P → b209_4 (d + 3) (nI v) (nI (fb_ct (fun r => q_free s r) i)) (nI i) S = some (nI (fb_ct (fun r => q_free s r) (p_R P)), S)
  | 0, i, hi => by
    obtain ⟨hW, hb, hbk, hC, hP⟩ := hM
    have hR := hP.1
    have e := b209_4_eq (d + 3) (nI v) (nI (fb_ct (fun r => q_free s r) i)) (nI i) S hW
    simp (disch := omega) only [ni_lit, nI_add, pk_mul, pk_sub, pk_div, nI_leI, nI_ltI, nI_eq, nI_clamp, ni_in, ni_inm, ni_ltm, ni_mlt, ni_lem, ni_mle, ni_eqm, ni_meq, ni_mm, ni_mmle, ni_bit, ni_shl, ni_clr, fa_or, Nat.add_zero, Nat.zero_add, Nat.zero_mul, Nat.mul_zero, eOn, eOs, if_true, if_false, not_true_eq_false, not_false_eq_true, ite_true, ite_false, true_and, and_true, false_and, and_false, or_true, true_or, or_false, false_or, Bool.false_eq_true, reduceIte, Bool.not_true, Bool.not_false, and_self, or_self, q_ef, q_et, q_ltt, q_ltf, q_let, q_lef, gIs, gIl, gIr, gLs, gLl, gLr, gPs, gPl, gPr, gLc, gPc, zb_some, Option.bind_some, q_nm, q_pm, q_hm, q_tm, q_sm, q_wm, q_ym, q_lm, q_ua, hbk, hC.1] at e
    rw [e, show i = p_R P by omega]
  | m + 1, i, hi => by
    have hM' := hM
    obtain ⟨hW, hb, hbk, hC, hP⟩ := hM
    have hR := hP.1
    have hct := fb_ct_le (fun r => q_free s r) i
    have e := b209_4_eq (d + 3) (nI v) (nI (fb_ct (fun r => q_free s r) i)) (nI i) S hW
    have a1 := m208 (d := d) (r := i) hW hv hs hG hP (by omega)
    have ih := m209_l hM' hv hs hG m (i + 1) (by omega)
    rw [fb_ct_succ] at ih
    simp (disch := omega) only [ni_lit, nI_add, pk_mul, pk_sub, pk_div, nI_leI, nI_ltI, nI_eq, nI_clamp, ni_in, ni_inm, ni_ltm, ni_mlt, ni_lem, ni_mle, ni_eqm, ni_meq, ni_mm, ni_mmle, ni_bit, ni_shl, ni_clr, fa_or, Nat.add_zero, Nat.zero_add, Nat.zero_mul, Nat.mul_zero, eOn, eOs, if_true, if_false, not_true_eq_false, not_false_eq_true, ite_true, ite_false, true_and, and_true, false_and, and_false, or_true, true_or, or_false, false_or, Bool.false_eq_true, reduceIte, Bool.not_true, Bool.not_false, and_self, or_self, q_ef, q_et, q_ltt, q_ltf, q_let, q_lef, gIs, gIl, gIr, gLs, gLl, gLr, gPs, gPl, gPr, gLc, gPc, zb_some, Option.bind_some, q_nm, q_pm, q_hm, q_tm, q_sm, q_wm, q_ym, q_lm, q_ua, hbk, hC.1, a1, bI_0, b209_32_eq (d + 3) _ _ _ _ S hW] at e
    cases hf : q_free s i with
    | true =>
      rw [hf] at e ih
      simp only [if_true, if_true, if_false, not_true_eq_false, not_false_eq_true, ite_true, ite_false, true_and, and_true, false_and, and_false, or_true, true_or, or_false, false_or, Bool.false_eq_true, reduceIte, Bool.not_true, Bool.not_false, and_self, or_self, Bool.true_eq_false] at e ih
      exact e.trans ih
    | false =>
      rw [hf] at e ih
      simp only [if_true, if_true, if_false, not_true_eq_false, not_false_eq_true, ite_true, ite_false, true_and, and_true, false_and, and_false, or_true, true_or, or_false, false_or, Bool.false_eq_true, reduceIte, Bool.not_true, Bool.not_false, and_self, or_self, Nat.add_zero] at e ih
      exact e.trans ih
theorem m209 (hM : cM S b P) (hv : v < 22) (hs : mSt S v s) (hG : q_Gd P s) : fI (d + 4) 209 [.ref 396, .int (nI v)] S = some (nI (p_R P - q_pc (q_h s ||| q_t s)), S) := by
  rw [e209 (d + 3) (nI v) S hM.1, ← q_fr hG hM.2.2.2.2]
  exact m209_l hM hv hs hG (p_R P) 0 (by omega)
theorem m210 {k : Nat} (hM : cM S b P) (hk : k < p_L P) : fI (d + 1) 210 [.ref 396, .int (nI k)] S = some (nI (p_f P k), S) := by
  obtain ⟨hW, hb, hbk, hC, hP⟩ := hM
  have hL := hP.2.2.2.2.1
  have e := e210 d (nI k) S hW
  simp (disch := omega) only [ni_lit, nI_add, pk_mul, pk_sub, pk_div, nI_leI, nI_ltI, nI_eq, nI_clamp, ni_in, ni_inm, ni_ltm, ni_mlt, ni_lem, ni_mle, ni_eqm, ni_meq, ni_mm, ni_mmle, ni_bit, ni_shl, ni_clr, fa_or, Nat.add_zero, Nat.zero_add, Nat.zero_mul, Nat.mul_zero, eOn, eOs, if_true, if_false, not_true_eq_false, not_false_eq_true, ite_true, ite_false, true_and, and_true, false_and, and_false, or_true, true_or, or_false, false_or, Bool.false_eq_true, reduceIte, Bool.not_true, Bool.not_false, and_self, or_self, q_ef, q_et, q_ltt, q_ltf, q_let, q_lef, gIs, gIl, gIr, gLs, gLl, gLr, gPs, gPl, gPr, gLc, gPc, zb_some, Option.bind_some, q_nm, q_pm, q_hm, q_tm, q_sm, q_wm, q_ym, q_lm, q_ua, hbk, hC.2.2.2.2.2.2.2.1 k hk] at e
  exact e
theorem m211 {k : Nat} (hM : cM S b P) (hk : k < p_L P) : fI (d + 1) 211 [.ref 396, .int (nI k)] S = some (nI (p_o P k), S) := by
  obtain ⟨hW, hb, hbk, hC, hP⟩ := hM
  have hL := hP.2.2.2.2.1
  have e := e211 d (nI k) S hW
  simp (disch := omega) only [ni_lit, nI_add, pk_mul, pk_sub, pk_div, nI_leI, nI_ltI, nI_eq, nI_clamp, ni_in, ni_inm, ni_ltm, ni_mlt, ni_lem, ni_mle, ni_eqm, ni_meq, ni_mm, ni_mmle, ni_bit, ni_shl, ni_clr, fa_or, Nat.add_zero, Nat.zero_add, Nat.zero_mul, Nat.mul_zero, eOn, eOs, if_true, if_false, not_true_eq_false, not_false_eq_true, ite_true, ite_false, true_and, and_true, false_and, and_false, or_true, true_or, or_false, false_or, Bool.false_eq_true, reduceIte, Bool.not_true, Bool.not_false, and_self, or_self, q_ef, q_et, q_ltt, q_ltf, q_let, q_lef, gIs, gIl, gIr, gLs, gLl, gLr, gPs, gPl, gPr, gLc, gPc, zb_some, Option.bind_some, q_nm, q_pm, q_hm, q_tm, q_sm, q_wm, q_ym, q_lm, q_ua, hbk, hC.2.2.2.2.2.2.2.2.1 k hk] at e
  exact e
theorem m212 {k r : Nat} (hM : cM S b P) (hk : k < p_L P) (hr : r < 2147483648) : fI (d + 2) 212 [.ref 396, .int (nI k), .int (nI r)] S = some (nI (q_oth P k r), S) := by
  have e := e212 (d + 1) (nI k) (nI r) S hM.1
  have hR := hM.2.2.2.2.1
  have ff := hM.2.2.2.2.2.2.2.2.2.2.2.1 k hk
  unfold q_oth
  by_cases c : p_f P k = r
  · simp (disch := omega) only [ni_lit, nI_add, pk_mul, pk_sub, pk_div, nI_leI, nI_ltI, nI_eq, nI_clamp, ni_in, ni_inm, ni_ltm, ni_mlt, ni_lem, ni_mle, ni_eqm, ni_meq, ni_mm, ni_mmle, ni_bit, ni_shl, ni_clr, fa_or, Nat.add_zero, Nat.zero_add, Nat.zero_mul, Nat.mul_zero, eOn, eOs, if_true, if_false, not_true_eq_false, not_false_eq_true, ite_true, ite_false, true_and, and_true, false_and, and_false, or_true, true_or, or_false, false_or, Bool.false_eq_true, reduceIte, Bool.not_true, Bool.not_false, and_self, or_self, q_ef, q_et, q_ltt, q_ltf, q_let, q_lef, gIs, gIl, gIr, gLs, gLl, gLr, gPs, gPl, gPr, gLc, gPc, zb_some, Option.bind_some, q_nm, q_pm, q_hm, q_tm, q_sm, q_wm, q_ym, q_lm, q_ua, m210 (d := d) hM hk, m211 (d := d) hM hk] at e
    rw [if_pos c]; exact e
  · simp (disch := omega) only [ni_lit, nI_add, pk_mul, pk_sub, pk_div, nI_leI, nI_ltI, nI_eq, nI_clamp, ni_in, ni_inm, ni_ltm, ni_mlt, ni_lem, ni_mle, ni_eqm, ni_meq, ni_mm, ni_mmle, ni_bit, ni_shl, ni_clr, fa_or, Nat.add_zero, Nat.zero_add, Nat.zero_mul, Nat.mul_zero, eOn, eOs, if_true, if_false, not_true_eq_false, not_false_eq_true, ite_true, ite_false, true_and, and_true, false_and, and_false, or_true, true_or, or_false, false_or, Bool.false_eq_true, reduceIte, Bool.not_true, Bool.not_false, and_self, or_self, q_ef, q_et, q_ltt, q_ltf, q_let, q_lef, gIs, gIl, gIr, gLs, gLl, gLr, gPs, gPl, gPr, gLc, gPc, zb_some, Option.bind_some, q_nm, q_pm, q_hm, q_tm, q_sm, q_wm, q_ym, q_lm, q_ua, m210 (d := d) hM hk, m211 (d := d) hM hk] at e
    rw [if_neg c]; exact e
/-- his room, if he sleeps -/
def q_rm (s : q_St) (k : Nat) : Option Nat := if q_w s k < 16 then some (q_w s k) else none
theorem m213_l {k : Nat} (hM : cM S b P) (hv : v < 22) (hs : mSt S v s) (hG : q_Gd P s) (hk : k < 16) : ∀ (m i : Nat), i + m = p_R P → (∀ j, j < i → q_s s j ≠ some k) → b213_2 d (nI v) (nI k) (nI i) S = some (eO (q_rm s k), S)
  | 0, i, hi, hn => by
    obtain ⟨hW, hb, hbk, hC, hP⟩ := hM
    have hR := hP.1
    have e := b213_2_eq d (nI v) (nI k) (nI i) S hW
    simp (disch := omega) only [ni_lit, nI_add, pk_mul, pk_sub, pk_div, nI_leI, nI_ltI, nI_eq, nI_clamp, ni_in, ni_inm, ni_ltm, ni_mlt, ni_lem, ni_mle, ni_eqm, ni_meq, ni_mm, ni_mmle, ni_bit, ni_shl, ni_clr, fa_or, Nat.add_zero, Nat.zero_add, Nat.zero_mul, Nat.mul_zero, eOn, eOs, if_true, if_false, not_true_eq_false, not_false_eq_true, ite_true, ite_false, true_and, and_true, false_and, and_false, or_true, true_or, or_false, false_or, Bool.false_eq_true, reduceIte, Bool.not_true, Bool.not_false, and_self, or_self, q_ef, q_et, q_ltt, q_ltf, q_let, q_lef, gIs, gIl, gIr, gLs, gLl, gLr, gPs, gPl, gPr, gLc, gPc, zb_some, Option.bind_some, q_nm, q_pm, q_hm, q_tm, q_sm, q_wm, q_ym, q_lm, q_ua, hbk, hC.1] at e
    rw [e]
    unfold q_rm
    by_cases c : q_w s k < 16
    · have h5 := hG.2.2.2.2.1 k c
      have := (hG.sl hP h5).1
      exact absurd h5 (hn _ (by omega))
    · rw [if_neg c]; rfl
  | m + 1, i, hi, hn => by
    have hM' := hM
    obtain ⟨hW, hb, hbk, hC, hP⟩ := hM
    have hR := hP.1
    have e := b213_2_eq d (nI v) (nI k) (nI i) S hW
    have a2 := hs.2.2.2.2.1 i (by omega)
    by_cases c : q_s s i = some k
    · rw [c] at a2
      simp (disch := omega) only [ni_lit, nI_add, pk_mul, pk_sub, pk_div, nI_leI, nI_ltI, nI_eq, nI_clamp, ni_in, ni_inm, ni_ltm, ni_mlt, ni_lem, ni_mle, ni_eqm, ni_meq, ni_mm, ni_mmle, ni_bit, ni_shl, ni_clr, fa_or, Nat.add_zero, Nat.zero_add, Nat.zero_mul, Nat.mul_zero, eOn, eOs, if_true, if_false, not_true_eq_false, not_false_eq_true, ite_true, ite_false, true_and, and_true, false_and, and_false, or_true, true_or, or_false, false_or, Bool.false_eq_true, reduceIte, Bool.not_true, Bool.not_false, and_self, or_self, q_ef, q_et, q_ltt, q_ltf, q_let, q_lef, gIs, gIl, gIr, gLs, gLl, gLr, gPs, gPl, gPr, gLc, gPc, zb_some, Option.bind_some, q_nm, q_pm, q_hm, q_tm, q_sm, q_wm, q_ym, q_lm, q_ua, hbk, hC.1, a2] at e
      rw [e]
      have h5 := (hG.sl hP c).2.2.1
      unfold q_rm
      rw [h5, if_pos (by omega)]
      rfl
    · have hne : ¬ eO (q_s s i) = nI k := fun z => c ((eO_eq (fun j hj => by have := (hG.Bd hP).2.2.2.2.2.1 i j hj; omega) (by omega)).mp z)
      simp (disch := omega) only [ni_lit, nI_add, pk_mul, pk_sub, pk_div, nI_leI, nI_ltI, nI_eq, nI_clamp, ni_in, ni_inm, ni_ltm, ni_mlt, ni_lem, ni_mle, ni_eqm, ni_meq, ni_mm, ni_mmle, ni_bit, ni_shl, ni_clr, fa_or, Nat.add_zero, Nat.zero_add, Nat.zero_mul, Nat.mul_zero, eOn, eOs, if_true, if_false, not_true_eq_false, not_false_eq_true, ite_true, ite_false, true_and, and_true, false_and, and_false, or_true, true_or, or_false, false_or, Bool.false_eq_true, reduceIte, Bool.not_true, Bool.not_false, and_self, or_self, q_ef, q_et, q_ltt, q_ltf, q_let, q_lef, gIs, gIl, gIr, gLs, gLl, gLr, gPs, gPl, gPr, gLc, gPc, zb_some, Option.bind_some, q_nm, q_pm, q_hm, q_tm, q_sm, q_wm, q_ym, q_lm, q_ua, hbk, hC.1, a2, hne] at e
      exact e.trans (m213_l hM' hv hs hG hk m (i + 1) (by omega) (fun j hj => by
        by_cases z : j = i
        · rw [z]; exact c
        · exact hn j (by omega)))
theorem m213 {k : Nat} (hM : cM S b P) (hv : v < 22) (hs : mSt S v s) (hG : q_Gd P s) (hk : k < 16) : fI (d + 1) 213 [.ref 396, .int (nI v), .int (nI k)] S = some (eO (q_rm s k), S) := by
  rw [e213 d (nI v) (nI k) S hM.1]
  exact m213_l hM hv hs hG hk (p_R P) 0 (by omega) (fun j hj => absurd hj (Nat.not_lt_zero _))
theorem m214_l {k : Nat} (hW : z_W S) (hv : v < 22) (hs : mSt S v s) (hB : q_Bd s) (hk : k < 16) : ∀ (m i : Nat), i + m = (q_l s).length → b214_2 d (nI v) (nI k) (nI i) S = some (eO (q_ix ((q_l s).drop i) k i), S)
  | 0, i, hi => by
    have h1 := hB.2.2.1
    have e := b214_2_eq d (nI v) (nI k) (nI i) S hW
    simp (disch := omega) only [ni_lit, nI_add, pk_mul, pk_sub, pk_div, nI_leI, nI_ltI, nI_eq, nI_clamp, ni_in, ni_inm, ni_ltm, ni_mlt, ni_lem, ni_mle, ni_eqm, ni_meq, ni_mm, ni_mmle, ni_bit, ni_shl, ni_clr, fa_or, Nat.add_zero, Nat.zero_add, Nat.zero_mul, Nat.mul_zero, eOn, eOs, if_true, if_false, not_true_eq_false, not_false_eq_true, ite_true, ite_false, true_and, and_true, false_and, and_false, or_true, true_or, or_false, false_or, Bool.false_eq_true, reduceIte, Bool.not_true, Bool.not_false, and_self, or_self, q_ef, q_et, q_ltt, q_ltf, q_let, q_lef, gIs, gIl, gIr, gLs, gLl, gLr, gPs, gPl, gPr, gLc, gPc, zb_some, Option.bind_some, q_nm, q_pm, q_hm, q_tm, q_sm, q_wm, q_ym, q_lm, q_ua, hs.2.2.2.1] at e
    rw [e, List.drop_of_length_le (by omega)]
    rfl
  | m + 1, i, hi => by
    have h1 := hB.2.2.1
    have e := b214_2_eq d (nI v) (nI k) (nI i) S hW
    have hil : i < (q_l s).length := by omega
    have h3 : (q_l s).getD i 0 < 16 := by
      refine hB.2.2.2.2.2.2.2.2 _ ?_
      rw [List.getD_eq_getElem?_getD, List.getElem?_eq_getElem hil]
      exact List.getElem_mem _
    have a2 := hs.2.2.2.2.2.2 i hil
    rw [q_dropc hil, q_ix]
    by_cases c : (q_l s).getD i 0 = k
    · simp (disch := omega) only [ni_lit, nI_add, pk_mul, pk_sub, pk_div, nI_leI, nI_ltI, nI_eq, nI_clamp, ni_in, ni_inm, ni_ltm, ni_mlt, ni_lem, ni_mle, ni_eqm, ni_meq, ni_mm, ni_mmle, ni_bit, ni_shl, ni_clr, fa_or, Nat.add_zero, Nat.zero_add, Nat.zero_mul, Nat.mul_zero, eOn, eOs, if_true, if_false, not_true_eq_false, not_false_eq_true, ite_true, ite_false, true_and, and_true, false_and, and_false, or_true, true_or, or_false, false_or, Bool.false_eq_true, reduceIte, Bool.not_true, Bool.not_false, and_self, or_self, q_ef, q_et, q_ltt, q_ltf, q_let, q_lef, gIs, gIl, gIr, gLs, gLl, gLr, gPs, gPl, gPr, gLc, gPc, zb_some, Option.bind_some, q_nm, q_pm, q_hm, q_tm, q_sm, q_wm, q_ym, q_lm, q_ua, hs.2.2.2.1, a2] at e
      rw [if_pos c]
      exact e
    · simp (disch := omega) only [ni_lit, nI_add, pk_mul, pk_sub, pk_div, nI_leI, nI_ltI, nI_eq, nI_clamp, ni_in, ni_inm, ni_ltm, ni_mlt, ni_lem, ni_mle, ni_eqm, ni_meq, ni_mm, ni_mmle, ni_bit, ni_shl, ni_clr, fa_or, Nat.add_zero, Nat.zero_add, Nat.zero_mul, Nat.mul_zero, eOn, eOs, if_true, if_false, not_true_eq_false, not_false_eq_true, ite_true, ite_false, true_and, and_true, false_and, and_false, or_true, true_or, or_false, false_or, Bool.false_eq_true, reduceIte, Bool.not_true, Bool.not_false, and_self, or_self, q_ef, q_et, q_ltt, q_ltf, q_let, q_lef, gIs, gIl, gIr, gLs, gLl, gLr, gPs, gPl, gPr, gLc, gPc, zb_some, Option.bind_some, q_nm, q_pm, q_hm, q_tm, q_sm, q_wm, q_ym, q_lm, q_ua, hs.2.2.2.1, a2] at e
      rw [if_neg c]
      exact e.trans (m214_l hW hv hs hB hk m (i + 1) (by omega))
theorem m214 {k : Nat} (hW : z_W S) (hv : v < 22) (hs : mSt S v s) (hB : q_Bd s) (hk : k < 16) : fI (d + 1) 214 [.ref 396, .int (nI v), .int (nI k)] S = some (eO (q_ix (q_l s) k 0), S) := by
  rw [e214 d (nI v) (nI k) S hW]
  exact m214_l hW hv hs hB hk (q_l s).length 0 (by omega)
theorem q_ix_none {k : Nat} : ∀ (l : List Nat) (i : Nat), q_ix l k i = none ↔ k ∉ l
  | [], i => by simp [q_ix]
  | a :: l, i => by
    rw [q_ix]
    by_cases c : a = k
    · rw [if_pos c]; simp [c]
    · rw [if_neg c, q_ix_none l (i + 1)]; simp [Ne.symm c]
theorem q_ix_lt {k : Nat} : ∀ (l : List Nat) (i j : Nat), q_ix l k i = some j → i ≤ j ∧ j < i + l.length ∧ l.getD (j - i) 0 = k
  | [], i, j, h => by cases h
  | a :: l, i, j, h => by
    rw [q_ix] at h
    by_cases c : a = k
    · rw [if_pos c] at h
      cases h
      exact ⟨Nat.le_refl _, by simp, by simpa using c⟩
    · rw [if_neg c] at h
      obtain ⟨h1, h2, h3⟩ := q_ix_lt l (i + 1) j h
      refine ⟨by omega, by simp; omega, ?_⟩
      rw [show j - i = (j - (i + 1)) + 1 by omega]
      simpa using h3
theorem m215 {k : Nat} (hM : cM S b P) (hv : v < 22) (hs : mSt S v s) (hG : q_Gd P s) (hk : k < 16) : fI (d + 2) 215 [.ref 396, .int (nI v), .int (nI k)] S = some (bI (decide (q_w s k = 255)), S) := by
  have hP := hM.2.2.2.2
  have hB := hG.Bd hP
  have e := e215 (d + 1) (nI v) (nI k) S hM.1
  have a1 := m213 (d := d) hM hv hs hG hk
  have a2 := m214 (d := d) hM.1 hv hs hB hk
  rcases hG.2.2.2.2.2.2.1 k with c | c | c
  · have : q_rm s k = some (q_w s k) := by unfold q_rm; rw [if_pos c]
    rw [this] at a1
    simp (disch := omega) only [ni_lit, nI_add, pk_mul, pk_sub, pk_div, nI_leI, nI_ltI, nI_eq, nI_clamp, ni_in, ni_inm, ni_ltm, ni_mlt, ni_lem, ni_mle, ni_eqm, ni_meq, ni_mm, ni_mmle, ni_bit, ni_shl, ni_clr, fa_or, Nat.add_zero, Nat.zero_add, Nat.zero_mul, Nat.mul_zero, eOn, eOs, if_true, if_false, not_true_eq_false, not_false_eq_true, ite_true, ite_false, true_and, and_true, false_and, and_false, or_true, true_or, or_false, false_or, Bool.false_eq_true, reduceIte, Bool.not_true, Bool.not_false, and_self, or_self, q_ef, q_et, q_ltt, q_ltf, q_let, q_lef, gIs, gIl, gIr, gLs, gLl, gLr, gPs, gPl, gPr, gLc, gPc, zb_some, Option.bind_some, q_nm, q_pm, q_hm, q_tm, q_sm, q_wm, q_ym, q_lm, q_ua, a1, b215_24_eq (d + 1) S hM.1] at e
    rw [decide_eq_false (by omega)]
    exact e
  · have : q_rm s k = none := by unfold q_rm; rw [if_neg (by omega)]
    rw [this] at a1
    have hm := (hG.2.2.2.2.2.1 k).mp c
    obtain ⟨j, hj⟩ : ∃ j, q_ix (q_l s) k 0 = some j := by
      cases hq : q_ix (q_l s) k 0 with
      | none => exact absurd hm ((q_ix_none _ _).mp hq)
      | some j => exact ⟨j, rfl⟩
    have hj2 := q_ix_lt _ _ _ hj
    have hl := hB.2.2.1
    rw [hj] at a2
    simp (disch := omega) only [ni_lit, nI_add, pk_mul, pk_sub, pk_div, nI_leI, nI_ltI, nI_eq, nI_clamp, ni_in, ni_inm, ni_ltm, ni_mlt, ni_lem, ni_mle, ni_eqm, ni_meq, ni_mm, ni_mmle, ni_bit, ni_shl, ni_clr, fa_or, Nat.add_zero, Nat.zero_add, Nat.zero_mul, Nat.mul_zero, eOn, eOs, if_true, if_false, not_true_eq_false, not_false_eq_true, ite_true, ite_false, true_and, and_true, false_and, and_false, or_true, true_or, or_false, false_or, Bool.false_eq_true, reduceIte, Bool.not_true, Bool.not_false, and_self, or_self, q_ef, q_et, q_ltt, q_ltf, q_let, q_lef, gIs, gIl, gIr, gLs, gLl, gLr, gPs, gPl, gPr, gLc, gPc, zb_some, Option.bind_some, q_nm, q_pm, q_hm, q_tm, q_sm, q_wm, q_ym, q_lm, q_ua, a1, a2, b215_24_eq (d + 1) S hM.1] at e
    rw [decide_eq_false (by omega)]
    exact e
  · have : q_rm s k = none := by unfold q_rm; rw [if_neg (by omega)]
    rw [this] at a1
    have hm : k ∉ q_l s := fun z => by have := (hG.2.2.2.2.2.1 k).mpr z; omega
    rw [(q_ix_none _ _).mpr hm] at a2
    simp (disch := omega) only [ni_lit, nI_add, pk_mul, pk_sub, pk_div, nI_leI, nI_ltI, nI_eq, nI_clamp, ni_in, ni_inm, ni_ltm, ni_mlt, ni_lem, ni_mle, ni_eqm, ni_meq, ni_mm, ni_mmle, ni_bit, ni_shl, ni_clr, fa_or, Nat.add_zero, Nat.zero_add, Nat.zero_mul, Nat.mul_zero, eOn, eOs, if_true, if_false, not_true_eq_false, not_false_eq_true, ite_true, ite_false, true_and, and_true, false_and, and_false, or_true, true_or, or_false, false_or, Bool.false_eq_true, reduceIte, Bool.not_true, Bool.not_false, and_self, or_self, q_ef, q_et, q_ltt, q_ltf, q_let, q_lef, gIs, gIl, gIr, gLs, gLl, gLr, gPs, gPl, gPr, gLc, gPc, zb_some, Option.bind_some, q_nm, q_pm, q_hm, q_tm, q_sm, q_wm, q_ym, q_lm, q_ua, a1, a2] at e
    rw [decide_eq_true c]
    exact e
end MA
