/-! THE FORMULAS: the class reads them; pieces. -/
section GL
variable {d q w : Nat} {T : List Nat}
/-- a plan's cell, and no fault yet -/
def g_zf (S : z_S) (q : Nat) : Prop := z_K q = 6 ∧ gI S 18 0 = (0 : Int32) ∧ gI S 18 1 = (-1 : Int32)
theorem g_zf.on {S S' : z_S} {D : Nat → Nat → Prop} (h : g_zf S q) (o : onI D S S') (hd : ∀ c k, D c k → c ≠ 18 ∨ 2 ≤ k) : g_zf S' q := ⟨h.1, by rw [o.I (fun z => by have := hd _ _ z; omega)]; exact h.2.1, by rw [o.I (fun z => by have := hd _ _ z; omega)]; exact h.2.2⟩
def cG (S : z_S) (T : List Nat) (q w p : Nat) (cs : List Nat) : Prop := cTk S T p ∧ g_zf S q ∧ gP S 18 3 = q ∧ gI S 18 4 = nI w ∧ w < 3 ∧ gI S q 8 = nI cs.length ∧ ∀ i, i < cs.length → gI S (q + 5) i = q_en (cs.getD i 0)
def gD (q : Nat) : Nat → Nat → Prop := fun c k => c = 18 ∧ k ≤ 1 ∨ c = 19 ∧ 3 ≤ k ∧ k ≤ 8 ∨ c = q ∧ k = 8 ∨ c = q + 5
theorem cG.W {S : z_S} {p : Nat} {cs : List Nat} (h : cG S T q w p cs) : z_W S := h.1.1.1
theorem cG.qq {S : z_S} {p : Nat} {cs : List Nat} (h : cG S T q w p cs) : q = 2 ∨ q = 10 := zP6 h.2.1.1
/-- what a reading method leaves -/
def cRs (r : Option (Int32 × z_S)) (S : z_S) (T : List Nat) (q w : Nat) (g : g_R) : Prop := match g with
  | .inl e => ∃ S', r = some (0, S') ∧ onI (gD q) S S' ∧ gI S' 18 0 = nI e.1 ∧ gI S' 18 1 = nI e.2
  | .inr x => ∃ S', r = some (1, S') ∧ onI (gD q) S S' ∧ cG S' T q w x.1 x.2
theorem cRs.tr {r : Option (Int32 × z_S)} {S S' : z_S} {g : g_R} (h : cRs r S' T q w g) (o : onI (gD q) S S') : cRs r S T q w g := by
  cases g with
  | inl e =>
    obtain ⟨S2, a1, a2, a3⟩ := h
    exact ⟨S2, a1, o.trans a2, a3⟩
  | inr x =>
    obtain ⟨S2, a1, a2, a3⟩ := h
    exact ⟨S2, a1, o.trans a2, a3⟩
theorem g_bd_id (g : g_R) : g_bd g (fun p cs => .inr (p, cs)) = g := by
  cases g with
  | inl e => rfl
  | inr x => rfl
theorem cRs_A {r : Option (Int32 × z_S)} {S : z_S} {g : g_R} {f : g_F} {K F : z_S → Option (Int32 × z_S)} (h : cRs r S T q w g) (hF : ∀ S', z_W S' → F S' = some (0, S')) (hK : ∀ S' p cs, g = .inr (p, cs) → onI (gD q) S S' → cG S' T q w p cs → cRs (K S') S' T q w (f p cs)) : cRs (zb r fun v S' => if v = (0 : Int32) then F S' else K S') S T q w (g_bd g f) := by
  cases g with
  | inl e =>
    obtain ⟨S2, a1, a2, a3⟩ := h
    refine ⟨S2, ?_, a2, a3⟩
    rw [a1, zb_some, if_pos rfl, hF S2 a2.W]
  | inr x =>
    obtain ⟨S2, a1, a2, a3⟩ := h
    rw [a1, zb_some, if_neg (by decide)]
    exact (hK S2 x.1 x.2 rfl a2 a3).tr a2
theorem cRs_B {r : Option (Int32 × z_S)} {S : z_S} {g : g_R} {f : g_F} {K F : z_S → Option (Int32 × z_S)} (h : cRs r S T q w g) (hF : ∀ S', z_W S' → F S' = some (0, S')) (hK : ∀ S' p cs, g = .inr (p, cs) → onI (gD q) S S' → cG S' T q w p cs → cRs (K S') S' T q w (f p cs)) : cRs (zb r fun v S' => if ¬ v = (0 : Int32) then K S' else F S') S T q w (g_bd g f) := by
  cases g with
  | inl e =>
    obtain ⟨S2, a1, a2, a3⟩ := h
    refine ⟨S2, ?_, a2, a3⟩
    rw [a1, zb_some, if_neg (fun z => z rfl), hF S2 a2.W]
  | inr x =>
    obtain ⟨S2, a1, a2, a3⟩ := h
    rw [a1, zb_some, if_pos (by decide)]
    exact (hK S2 x.1 x.2 rfl a2 a3).tr a2
theorem cRs_C {r : Option (Int32 × z_S)} {S : z_S} {g : g_R} (h : cRs r S T q w g) : cRs (zb r fun v S' => if v = 0 ∨ v = 1 then some (v, S') else none) S T q w g := by
  cases g with
  | inl e =>
    obtain ⟨S2, a1, a2, a3⟩ := h
    exact ⟨S2, by rw [a1, zb_some, if_pos (Or.inl rfl)], a2, a3⟩
  | inr x =>
    obtain ⟨S2, a1, a2, a3⟩ := h
    exact ⟨S2, by rw [a1, zb_some, if_pos (Or.inr rfl)], a2, a3⟩
/-- the last of an and, as the class writes it -/
theorem cRs_E {r : Option (Int32 × z_S)} {S : z_S} {g : g_R} {F : z_S → Option (Int32 × z_S)} (h : cRs r S T q w g) (hF : ∀ S', z_W S' → F S' = some (0, S')) : cRs (zb r fun v S' => if v = (0 : Int32) then F S' else some ((1 : Int32), S')) S T q w g := by
  have := cRs_A (f := fun p cs => .inr (p, cs)) (K := fun S' => some ((1 : Int32), S')) h hF fun S' p cs _ o hg => ⟨S', rfl, onI.refl o.W, hg⟩
  rw [g_bd_id] at this
  exact this
variable {S : z_S} {p : Nat} {cs : List Nat}
theorem c9g (h : cG S T q w p cs) : cRs (fI (d + 1) 9 [.ref 18] S) S T q w (g_un T p) := by
  have e := e9 d S h.W
  refine ⟨_, e, ?_, ?_, ?_⟩
  · exact onI_sI (D := gD q) (c := 18) (k := 1) (onI_sI (D := gD q) (c := 18) (k := 0) (onI.refl h.W) (Or.inl ⟨rfl, by omega⟩)) (Or.inl ⟨rfl, by omega⟩)
  · simp (disch := omega) only [ni_lit, nI_add, pk_mul, pk_sub, pk_div, nI_leI, nI_ltI, nI_eq, nI_clamp, ni_in, ni_inm, ni_ltm, ni_mlt, ni_lem, ni_mle, ni_eqm, ni_meq, ni_mm, ni_mmle, ni_bit, ni_shl, ni_clr, fa_or, Nat.add_zero, Nat.zero_add, Nat.zero_mul, Nat.mul_zero, eOn, eOs, if_true, if_false, not_true_eq_false, not_false_eq_true, ite_true, ite_false, true_and, and_true, false_and, and_false, or_true, true_or, or_false, false_or, Bool.false_eq_true, reduceIte, Bool.not_true, Bool.not_false, and_self, or_self, q_ef, q_et, q_ltt, q_ltf, q_let, q_lef, gIs, gIl, gIr, gLs, gLl, gLr, gPs, gPl, gPr, gLc, gPc, zb_some, Option.bind_some, q_nm, q_pm, q_hm, q_tm, q_sm, q_wm, q_ym, q_lm, q_ua]
  · have := h.1.2.2.2.2.1
    simp (disch := omega) only [ni_lit, nI_add, pk_mul, pk_sub, pk_div, nI_leI, nI_ltI, nI_eq, nI_clamp, ni_in, ni_inm, ni_ltm, ni_mlt, ni_lem, ni_mle, ni_eqm, ni_meq, ni_mm, ni_mmle, ni_bit, ni_shl, ni_clr, fa_or, Nat.add_zero, Nat.zero_add, Nat.zero_mul, Nat.mul_zero, eOn, eOs, if_true, if_false, not_true_eq_false, not_false_eq_true, ite_true, ite_false, true_and, and_true, false_and, and_false, or_true, true_or, or_false, false_or, Bool.false_eq_true, reduceIte, Bool.not_true, Bool.not_false, and_self, or_self, q_ef, q_et, q_ltt, q_ltf, q_let, q_lef, gIs, gIl, gIr, gLs, gLl, gLr, gPs, gPl, gPr, gLc, gPc, zb_some, Option.bind_some, q_nm, q_pm, q_hm, q_tm, q_sm, q_wm, q_ym, q_lm, q_ua, this]
theorem c10g {k : Nat} (h : cG S T q w p cs) : cRs (fI (d + 1) 10 [.ref 18, .int (nI k)] S) S T q w (g_fa T k p) := by
  have e := e10 d (nI k) S h.W
  refine ⟨_, e, ?_, ?_, ?_⟩
  · exact onI_sI (D := gD q) (c := 18) (k := 1) (onI_sI (D := gD q) (c := 18) (k := 0) (onI.refl h.W) (Or.inl ⟨rfl, by omega⟩)) (Or.inl ⟨rfl, by omega⟩)
  · simp (disch := omega) only [ni_lit, nI_add, pk_mul, pk_sub, pk_div, nI_leI, nI_ltI, nI_eq, nI_clamp, ni_in, ni_inm, ni_ltm, ni_mlt, ni_lem, ni_mle, ni_eqm, ni_meq, ni_mm, ni_mmle, ni_bit, ni_shl, ni_clr, fa_or, Nat.add_zero, Nat.zero_add, Nat.zero_mul, Nat.mul_zero, eOn, eOs, if_true, if_false, not_true_eq_false, not_false_eq_true, ite_true, ite_false, true_and, and_true, false_and, and_false, or_true, true_or, or_false, false_or, Bool.false_eq_true, reduceIte, Bool.not_true, Bool.not_false, and_self, or_self, q_ef, q_et, q_ltt, q_ltf, q_let, q_lef, gIs, gIl, gIr, gLs, gLl, gLr, gPs, gPl, gPr, gLc, gPc, zb_some, Option.bind_some, q_nm, q_pm, q_hm, q_tm, q_sm, q_wm, q_ym, q_lm, q_ua]
  · have := h.1.2.2.2.1
    simp (disch := omega) only [ni_lit, nI_add, pk_mul, pk_sub, pk_div, nI_leI, nI_ltI, nI_eq, nI_clamp, ni_in, ni_inm, ni_ltm, ni_mlt, ni_lem, ni_mle, ni_eqm, ni_meq, ni_mm, ni_mmle, ni_bit, ni_shl, ni_clr, fa_or, Nat.add_zero, Nat.zero_add, Nat.zero_mul, Nat.mul_zero, eOn, eOs, if_true, if_false, not_true_eq_false, not_false_eq_true, ite_true, ite_false, true_and, and_true, false_and, and_false, or_true, true_or, or_false, false_or, Bool.false_eq_true, reduceIte, Bool.not_true, Bool.not_false, and_self, or_self, q_ef, q_et, q_ltt, q_ltf, q_let, q_lef, gIs, gIl, gIr, gLs, gLl, gLr, gPs, gPl, gPr, gLc, gPc, zb_some, Option.bind_some, q_nm, q_pm, q_hm, q_tm, q_sm, q_wm, q_ym, q_lm, q_ua, this]
/-- on to the next token -/
theorem c98g (h : cG S T q w p cs) (hk : g_kd T p ≠ 4) : ∃ S', fV (d + 3) 98 [.ref 19] S = some S' ∧ onI (gD q) S S' ∧ cG S' T q w (g_en T p) cs := by
  obtain ⟨S', a1, a2, a3⟩ := c98n (d := d) h.1 hk
  have hq := h.qq
  obtain ⟨h1, h2, h3, h4, h5, h6, h7⟩ := h
  refine ⟨S', a1, a2.mono fun c k z => by unfold tDa at z; unfold gD; omega, a3, h2.on a2 (fun c k z => by unfold tDa at z; omega), by rw [a2.P]; exact h3, by rw [a2.I (by unfold tDa; omega)]; exact h4, h5, by rw [a2.I (by unfold tDa; omega)]; exact h6, fun i hi => by rw [a2.I (by unfold tDa; omega)]; exact h7 i hi⟩
theorem c11g {c : Nat} (hc : c < 256) (h : cG S T q w p cs) : cRs (fI (d + 4) 11 [.ref 18, .int (nI c)] S) S T q w (g_tk T c p cs) := by
  rw [e11 (d + 3) (nI c) S h.W, c104 (d := d + 2) h.1 hc, zb_some]
  unfold g_tk
  cases hs : g_sg T p c with
  | true =>
    obtain ⟨S', a1, a2, a3⟩ := c98g (d := d) h (by rw [g_sg_k hs]; decide)
    rw [if_pos (by decide), a1, Option.bind_some, if_pos rfl]
    exact ⟨S', rfl, a2, a3⟩
  | false =>
    rw [if_neg (by decide), if_neg (by decide)]
    exact cRs_C (c9g (d := d + 2) h)
theorem c24g {k : Nat} (hk7 : k ≤ 7) (h : cG S T q w p cs) (hk : g_kd T p ≠ 4) : cRs (fI (d + 4) 24 [.ref 18, .int (nI (7 - k))] S) S T q w (g_op T k p cs) := by
  rw [e24 (d + 3) (nI (7 - k)) S h.W]
  unfold g_op
  by_cases c : k = 0
  · rw [if_neg (show ¬ nI (7 - k) < (7 : Int32) from fun z => by have := (nI_ltI (b := 7) (by omega) (by omega)).mp z; omega), if_pos c]
    exact cRs_C (c10g (d := d + 2) (k := 5) h)
  · obtain ⟨S', a1, a2, a3⟩ := c98g (d := d) h hk
    rw [if_pos (show nI (7 - k) < (7 : Int32) from nI_lt (b := 7) (by omega) (by omega)), if_neg c, a1, Option.bind_some]
    exact ⟨S', rfl, a2, a3⟩
/-- a code more -/
theorem c66g {n : Nat} (h : cG S T q w p cs) (hl : cs.length < 1600) : ∃ S', fV (d + 1) 66 [.ref q, .int (q_en n)] S = some S' ∧ onI (gD q) S S' ∧ cG S' T q w p (cs ++ [n]) := by
  have hq := h.qq
  have hW := h.W
  have h0 := h
  obtain ⟨h1, h2, h3, h4, h5, h6, h7⟩ := h
  have e := e66 d q (q_en n) S hW h2.1
  have ev : gI (sI S (q + 5) cs.length (q_en n)) q 8 = nI cs.length := by rw [gIs, if_neg (by omega)]; exact h6
  have e16 : (Int32.ofNat 1600) = nI 1600 := rfl
  rw [h6, e16, if_neg (nI_ge hl (by omega)), if_pos ((ni_in (by omega)).mpr hl), nI_clamp (by omega), ev, nI_1] at e
  have o1 : onI (gD q) S (sI (sI S (q + 5) cs.length (q_en n)) q 8 (nI (cs.length + 1))) := onI_sI (D := gD q) (c := q) (k := 8) (onI_sI (D := gD q) (c := q + 5) (k := cs.length) (onI.refl hW) (Or.inr (Or.inr (Or.inr rfl)))) (Or.inr (Or.inr (Or.inl ⟨rfl, rfl⟩)))
  have o2 : onI (fun c _ => c = q ∨ c = q + 5) S (sI (sI S (q + 5) cs.length (q_en n)) q 8 (nI (cs.length + 1))) := onI_sI (D := fun c _ => c = q ∨ c = q + 5) (c := q) (k := 8) (onI_sI (D := fun c _ => c = q ∨ c = q + 5) (c := q + 5) (k := cs.length) (onI.refl hW) (Or.inr rfl)) (Or.inl rfl)
  refine ⟨_, e, o1, h1.on o2 (fun c k z => by omega), h2.on o2 (fun c k z => by omega), by rw [o2.P]; exact h3, by rw [o2.I (by omega)]; exact h4, h5, ?_, fun i hi => ?_⟩
  · rw [List.length_append, List.length_singleton, gIs, if_pos rfl, if_pos rfl]
  · rw [List.length_append, List.length_singleton] at hi
    rw [gIs, if_neg (by omega), gIs, if_pos rfl]
    by_cases c : i = cs.length
    · rw [if_pos c, c, List.getD_eq_getElem?_getD, List.getElem?_append_right (Nat.le_refl _), Nat.sub_self]
      rfl
    · rw [if_neg c, h7 i (by omega), List.getD_eq_getElem?_getD, List.getD_eq_getElem?_getD, List.getElem?_append_left (by omega)]
theorem g_gd.len {t : Bool} {b : Nat} {f : g_F} (hf : g_gd T t b f) {p' : Nat} {cs' : List Nat} (hp : p ≤ T.length) (e : f p cs = .inr (p', cs')) : cs'.length + p ≤ cs.length + p' ∧ p < p' ∧ p' ≤ T.length := by
  obtain ⟨a1, a2, r, a3, a4, _⟩ := hf _ _ _ _ hp e
  rw [a3, List.length_append]
  exact ⟨by omega, a1, a2⟩
/-- a contract of a reading method at level k -/
def cCt (D mi : Nat) (T : List Nat) (q w k : Nat) (f : g_F) : Prop := ∀ S p cs, cG S T q w p cs → cs.length ≤ p → g_ok T p → cRs (fI D mi [.ref 18, .int (nI (7 - k))] S) S T q w (f p cs)
theorem cG.pp (h : cG S T q w p cs) : p ≤ T.length ∧ T.length ≤ 1600 := ⟨h.1.2.1, h.1.1.2.2.2.1⟩
end GL
