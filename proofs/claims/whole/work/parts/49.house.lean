/-! THE HOUSE: who comes. -/
def q_in (P : q_Pl) (s : q_St) (k : Nat) : Option q_St := if q_free s (p_f P k) then some (q_bed s k (p_f P k)) else if q_free s (p_o P k) then some (q_bed s k (p_o P k)) else none
/-- the sleeper of a room yields, so many having been put out -/
def q_yl (P : q_Pl) (s : q_St) (r out T : Nat) : Bool := match q_s s r with
  | none => false
  | some k => decide (out < T) && ((p_d P 0).isEmpty || !decide (q_val (q_env P s r k out) (p_d P 0) = 0))
/-- one goes into a room whose sleeper yields, and so on -/
def q_chn (P : q_Pl) (T : Nat) : Nat → q_St → Nat → Nat → List (Nat × Nat) → q_St × List (Nat × Nat)
  | 0, s, _, _, o => (s, o)
  | n + 1, s, g, r, o => match q_s s r with
    | none => (s, o)
    | some v => if q_free (q_out (q_bed s g r) v) (q_oth P v r) then (q_bed (q_out (q_bed s g r) v) v (q_oth P v r), o ++ [(v, r)])
      else if q_yl P (q_out (q_bed s g r) v) (q_oth P v r) (o.length + 1) T then q_chn P T n (q_out (q_bed s g r) v) v (q_oth P v r) (o ++ [(v, r)])
      else (q_ben (p_B P) (q_out (q_bed s g r) v) v, o ++ [(v, r)])
/-- one comes: who is put out, of which room -/
def q_arr (P : q_Pl) (T : Nat) (s : q_St) (k : Nat) : q_St × List (Nat × Nat) := match q_in P s k with
  | some s' => (s', [])
  | none => if q_yl P s (p_f P k) 0 T then q_chn P T T s k (p_f P k) [] else if q_yl P s (p_o P k) 0 T then q_chn P T T s k (p_o P k) [] else (q_ben (p_B P) s k, [])
/-- the house stands on plan q -/
def cH (S : z_S) (q : Nat) (P : q_Pl) : Prop := z_W S ∧ z_K q = 6 ∧ gP S 22 0 = q ∧ cPl S q P ∧ p_Wf P
theorem cH.on {S S' : z_S} {q : Nat} {P : q_Pl} {D : Nat → Nat → Prop} (h : cH S q P) (ho : onI D S S') (hd : ∀ c k, c ≤ 17 → ¬ D c k) : cH S' q P := by
  obtain ⟨h1, h2, h3, h4, h5⟩ := h
  have := zP6 h2
  exact ⟨ho.W, h2, by rw [ho.P]; exact h3, h4.on ho (fun c k a b => hd c k (by omega)), h5⟩
/-- the cells that the house's rules change: the State's, the Reckoner's, who was put out -/
def hD (p : Nat) : Nat → Nat → Prop := fun c _ => (p ≤ c ∧ c ≤ p + 4) ∨ (23 ≤ c ∧ c ≤ 26)
theorem q_oth_R {P : q_Pl} (hP : p_Wf P) {k : Nat} (hk : k < p_L P) (r : Nat) : q_oth P k r < p_R P ∧ (q_oth P k r = p_f P k ∨ q_oth P k r = p_o P k) := by
  have := hP.2.2.2.2.2.2.2.1 k hk
  unfold q_oth
  split
  · exact ⟨this.2.1, Or.inr rfl⟩
  · exact ⟨this.1, Or.inl rfl⟩
theorem q_env_S {P : q_Pl} {s : q_St} {r k own : Nat} (hP : p_Wf P) (hB : q_Bd s) (hr : r < 1000) (ho : own ≤ 1000) (j : Nat) : iS (q_env P s r k own j) := by
  obtain ⟨_, _, _, n1, _, _, n2, n3, _⟩ := hB
  have := n3 k
  have := hP.1
  unfold q_env iS
  (repeat' split) <;> omega
theorem q_val_VT {e : Nat → Int} (he : ∀ j, iS (e j)) {l : List Nat} {t : Bool} (h : q_tyL l [] = some [t]) : q_vt (q_val e l) t := by
  have h1 := q_ev_VT he l [] [t] [] trivial h
  obtain ⟨v, r, h2, h3, h4⟩ := q_VT_c h1
  unfold q_val
  rw [h2]
  exact h3
section QH
variable {d q p g : Nat} {S : z_S} {P : q_Pl} {s : q_St}
theorem c33 {k : Nat} (hH : cH S q P) (hp : z_K p = 8) (hs : cSt S p 16 s) (hB : q_Bd s) (hk : k < p_L P) : ∃ S', fI (d + 2) 33 [.ref 22, .ref p, .int (nI k)] S = some (bI (q_in P s k).isSome, S') ∧ onI (pD p) S S' ∧ cSt S' p 16 ((q_in P s k).getD s) := by
  obtain ⟨hW, hq, hg, hC, hP⟩ := hH
  have hL := hP.2.2.2.2.1
  have hR := hP.1
  have ff := hP.2.2.2.2.2.2.2.1 k hk
  have g1 := hC.2.2.2.2.2.2.2.2.2.1 k hk
  have g2 := hC.2.2.2.2.2.2.2.2.2.2.1 k hk
  have e := e33 (d + 1) p (nI k) S hW hp
  have a1 := c76 (d := d) (r := p_f P k) hW hp hs hB (by omega)
  have a2 := c76 (d := d) (r := p_o P k) hW hp hs hB (by omega)
  simp (disch := omega) only [ni_lit, nI_add, pk_mul, pk_sub, pk_div, nI_leI, nI_ltI, nI_eq, nI_clamp, ni_in, ni_inm, ni_ltm, ni_mlt, ni_lem, ni_mle, ni_eqm, ni_meq, ni_mm, ni_mmle, ni_bit, ni_shl, ni_clr, fa_or, Nat.add_zero, Nat.zero_add, Nat.zero_mul, Nat.mul_zero, eOn, eOs, if_true, if_false, not_true_eq_false, not_false_eq_true, ite_true, ite_false, true_and, and_true, false_and, and_false, or_true, true_or, or_false, false_or, Bool.false_eq_true, reduceIte, Bool.not_true, Bool.not_false, and_self, or_self, q_ef, q_et, q_ltt, q_ltf, q_let, q_lef, gIs, gIl, gIr, gLs, gLl, gLr, gPs, gPl, gPr, gLc, gPc, zb_some, Option.bind_some, q_nm, q_pm, q_hm, q_tm, q_sm, q_wm, q_ym, q_lm, q_ua, hg, g1, g2, a1, bI_0, b33_37_eq (d + 1) p _ _ S hW hp, a2] at e
  unfold q_in
  by_cases c1 : q_free s (p_f P k) = true
  · obtain ⟨S', b1, b2, b3⟩ := c79 (d := d) (k := k) (r := p_f P k) (g' := 16) hW hp hs hB (by omega) (by omega) (fun j a b c => by omega)
    simp only [c1, if_true, if_false, not_true_eq_false, not_false_eq_true, ite_true, ite_false, true_and, and_true, false_and, and_false, or_true, true_or, or_false, false_or, Bool.false_eq_true, reduceIte, Bool.not_true, Bool.not_false, and_self, or_self, b1, zb_some, Option.bind_some, Bool.true_eq_false] at e
    rw [if_pos c1]
    exact ⟨S', e, b2, b3⟩
  · have c1' : q_free s (p_f P k) = false := by simpa using c1
    rw [if_neg c1]
    by_cases c2 : q_free s (p_o P k) = true
    · obtain ⟨S', b1, b2, b3⟩ := c79 (d := d) (k := k) (r := p_o P k) (g' := 16) hW hp hs hB (by omega) (by omega) (fun j a b c => by omega)
      simp only [c1', c2, if_true, if_false, not_true_eq_false, not_false_eq_true, ite_true, ite_false, true_and, and_true, false_and, and_false, or_true, true_or, or_false, false_or, Bool.false_eq_true, reduceIte, Bool.not_true, Bool.not_false, and_self, or_self, b1, zb_some, Option.bind_some, Bool.true_eq_false] at e
      rw [if_pos c2]
      exact ⟨S', e, b2, b3⟩
    · have c2' : q_free s (p_o P k) = false := by simpa using c2
      simp only [c1', c2', if_true, if_false, not_true_eq_false, not_false_eq_true, ite_true, ite_false, true_and, and_true, false_and, and_false, or_true, true_or, or_false, false_or, Bool.false_eq_true, reduceIte, Bool.not_true, Bool.not_false, and_self, or_self] at e
      rw [if_neg c2]
      exact ⟨S, e, onI.refl hW, hs⟩
theorem c34 {r out T : Nat} (hH : cH S q P) (hp : z_K p = 8) (hs : cSt S p g s) (hG : q_Gd P s) (hg : 16 ≤ q_w s g ∨ 16 ≤ g) (hr : r < 16) (ho : out ≤ 40) (hT : T ≤ 40) : ∃ S', fI (d + 5) 34 [.ref 22, .ref p, .int (nI r), .int (nI out), .int (nI T)] S = some (bI (q_yl P s r out T), S') ∧ onI (fun c _ => c = 23 ∨ c = 24) S S' := by
  have hH' := hH
  obtain ⟨hW, hq, hgp, hC, hP⟩ := hH
  have e := e34 (d + 4) p (nI r) (nI out) (nI T) S hW hp
  have s5 := hs.2.2.2.2.2.1 r hr
  cases hv : q_s s r with
  | none =>
    rw [hv] at s5
    simp (disch := omega) only [ni_lit, nI_add, pk_mul, pk_sub, pk_div, nI_leI, nI_ltI, nI_eq, nI_clamp, ni_in, ni_inm, ni_ltm, ni_mlt, ni_lem, ni_mle, ni_eqm, ni_meq, ni_mm, ni_mmle, ni_bit, ni_shl, ni_clr, fa_or, Nat.add_zero, Nat.zero_add, Nat.zero_mul, Nat.mul_zero, eOn, eOs, if_true, if_false, not_true_eq_false, not_false_eq_true, ite_true, ite_false, true_and, and_true, false_and, and_false, or_true, true_or, or_false, false_or, Bool.false_eq_true, reduceIte, Bool.not_true, Bool.not_false, and_self, or_self, q_ef, q_et, q_ltt, q_ltf, q_let, q_lef, gIs, gIl, gIr, gLs, gLl, gLr, gPs, gPl, gPr, gLc, gPc, zb_some, Option.bind_some, q_nm, q_pm, q_hm, q_tm, q_sm, q_wm, q_ym, q_lm, q_ua, s5] at e
    refine ⟨S, ?_, onI.refl hW⟩
    unfold q_yl
    rw [hv]
    exact e
  | some v =>
    obtain ⟨v1, v2, v3, v4⟩ := hG.sl hP hv
    have hL := hP.2.2.2.2.1
    rw [hv] at s5
    have hyl : q_yl P s r out T = (decide (out < T) && ((p_d P 0).isEmpty || !decide (q_val (q_env P s r v out) (p_d P 0) = 0))) := by unfold q_yl; rw [hv]
    rw [hyl]
    by_cases c1 : out < T
    · have a1 := c60 (d := d + 3) (w := 0) hW hq hC (by omega)
      rw [decide_eq_true c1, Bool.true_and]
      cases hd : (p_d P 0).isEmpty with
      | true =>
        rw [hd] at a1
        simp (disch := omega) only [ni_lit, nI_add, pk_mul, pk_sub, pk_div, nI_leI, nI_ltI, nI_eq, nI_clamp, ni_in, ni_inm, ni_ltm, ni_mlt, ni_lem, ni_mle, ni_eqm, ni_meq, ni_mm, ni_mmle, ni_bit, ni_shl, ni_clr, fa_or, Nat.add_zero, Nat.zero_add, Nat.zero_mul, Nat.mul_zero, eOn, eOs, if_true, if_false, not_true_eq_false, not_false_eq_true, ite_true, ite_false, true_and, and_true, false_and, and_false, or_true, true_or, or_false, false_or, Bool.false_eq_true, reduceIte, Bool.not_true, Bool.not_false, and_self, or_self, q_ef, q_et, q_ltt, q_ltf, q_let, q_lef, gIs, gIl, gIr, gLs, gLl, gLr, gPs, gPl, gPr, gLc, gPc, zb_some, Option.bind_some, q_nm, q_pm, q_hm, q_tm, q_sm, q_wm, q_ym, q_lm, q_ua, s5, hgp, a1, bIf, b34_52_eq (d + 4) S hW] at e
        exact ⟨S, e, onI.refl hW⟩
      | false =>
        rw [hd] at a1
        have hty : q_tyL (p_d P 0) [] = some [true] := by
          rcases hP.2.2.2.2.2.2.2.2.2.2.2.1 with z | z
          · rw [z] at hd; cases hd
          · exact z
        have hne : v ≠ g := fun z => by rcases hg with q | q
                                        · rw [← z, v3] at q; omega
                                        · omega
        obtain ⟨S', b1, b2⟩ := c68 (d := d) (w := 0) (k := v) (own := out) hW hq hp hC hP hs (hG.Bd hP) (by omega) hne (by omega) (by omega) (hG.pc hP) hty
        rw [v3] at b1
        have hvt := q_val_VT (e := q_env P s r v out) (q_env_S hP (hG.Bd hP) (by omega) (by omega)) hty
        have hvs := hvt.1
        unfold iS at hvs
        have hz : ∀ z : Int, iS z → ((iI z = nI 0) = (z = 0)) := fun z h => by unfold iS at h; rw [iI_n, iI_eq (by omega) (by omega) (by omega) (by omega)]; rfl
        simp (disch := omega) only [ni_lit, nI_add, pk_mul, pk_sub, pk_div, nI_leI, nI_ltI, nI_eq, nI_clamp, ni_in, ni_inm, ni_ltm, ni_mlt, ni_lem, ni_mle, ni_eqm, ni_meq, ni_mm, ni_mmle, ni_bit, ni_shl, ni_clr, fa_or, Nat.add_zero, Nat.zero_add, Nat.zero_mul, Nat.mul_zero, eOn, eOs, if_true, if_false, not_true_eq_false, not_false_eq_true, ite_true, ite_false, true_and, and_true, false_and, and_false, or_true, true_or, or_false, false_or, Bool.false_eq_true, reduceIte, Bool.not_true, Bool.not_false, and_self, or_self, q_ef, q_et, q_ltt, q_ltf, q_let, q_lef, gIs, gIl, gIr, gLs, gLl, gLr, gPs, gPl, gPr, gLc, gPc, zb_some, Option.bind_some, q_nm, q_pm, q_hm, q_tm, q_sm, q_wm, q_ym, q_lm, q_ua, s5, hgp, a1, bIt, b1, hz _ hvt.1, b34_52_eq (d + 4) S' b2.W] at e
        refine ⟨S', ?_, b2⟩
        rw [e]
        by_cases c2 : q_val (q_env P s r v out) (p_d P 0) = 0
        · simp only [c2, if_true, if_false, not_true_eq_false, not_false_eq_true, ite_true, ite_false, true_and, and_true, false_and, and_false, or_true, true_or, or_false, false_or, Bool.false_eq_true, reduceIte, Bool.not_true, Bool.not_false, and_self, or_self, decide_true, Bool.or_false]; rfl
        · simp only [c2, if_true, if_false, not_true_eq_false, not_false_eq_true, ite_true, ite_false, true_and, and_true, false_and, and_false, or_true, true_or, or_false, false_or, Bool.false_eq_true, reduceIte, Bool.not_true, Bool.not_false, and_self, or_self, decide_false, Bool.or_true]; rfl
    · simp (disch := omega) only [ni_lit, nI_add, pk_mul, pk_sub, pk_div, nI_leI, nI_ltI, nI_eq, nI_clamp, ni_in, ni_inm, ni_ltm, ni_mlt, ni_lem, ni_mle, ni_eqm, ni_meq, ni_mm, ni_mmle, ni_bit, ni_shl, ni_clr, fa_or, Nat.add_zero, Nat.zero_add, Nat.zero_mul, Nat.mul_zero, eOn, eOs, if_true, if_false, not_true_eq_false, not_false_eq_true, ite_true, ite_false, true_and, and_true, false_and, and_false, or_true, true_or, or_false, false_or, Bool.false_eq_true, reduceIte, Bool.not_true, Bool.not_false, and_self, or_self, q_ef, q_et, q_ltt, q_ltf, q_let, q_lef, gIs, gIl, gIr, gLs, gLl, gLr, gPs, gPl, gPr, gLc, gPc, zb_some, Option.bind_some, q_nm, q_pm, q_hm, q_tm, q_sm, q_wm, q_ym, q_lm, q_ua, s5] at e
      rw [decide_eq_false c1, Bool.false_and]
      exact ⟨S, e, onI.refl hW⟩
/-- who was put out stands in the house -/
def hO (S : z_S) (o : List (Nat × Nat)) : Prop := ∀ i, i < o.length → gI S 25 i = nI (o.getD i (0, 0)).1 ∧ gI S 26 i = nI (o.getD i (0, 0)).2
theorem c32_l {T : Nat} (hp : z_K p = 8) (hT : T ≤ 40) : ∀ (n : Nat) (s : q_St) (g r : Nat) (o : List (Nat × Nat)) (S : z_S), cH S q P → cSt S p g s → q_Gd P s → g < p_L P → q_w s g = 255 → (r = p_f P g ∨ r = p_o P g) → (q_s s r).isSome = true → o.length < T → T ≤ o.length + n → hO S o → ∃ S', b32_76 (d + 5) p (nI T) (nI o.length) (nI g) (nI r) S = some (nI (q_chn P T n s g r o).2.length, S') ∧ onI (hD p) S S' ∧ cSt S' p 16 (q_chn P T n s g r o).1 ∧ hO S' (q_chn P T n s g r o).2 ∧ q_Gd P (q_chn P T n s g r o).1 ∧ (q_chn P T n s g r o).2.length ≤ T
  | 0, s, g, r, o, S, _, _, _, _, _, _, _, h1, h2, _ => absurd h1 (by omega)
  | n + 1, s, g, r, o, S, hH, hs, hG, hgL, hw, hr, hv, h1, h2, hO1 => by
    obtain ⟨v, hv⟩ := Option.isSome_iff_exists.mp hv
    have hH' := hH
    obtain ⟨hW, hq, hgp, hC, hP⟩ := hH
    have hL := hP.2.2.2.2.1
    have hR := hP.1
    have p8 := zP8 hp
    have q6 := zP6 hq
    obtain ⟨v1, v2, v3, v4⟩ := hG.sl hP hv
    obtain ⟨hG1, _, hne⟩ := hG.put hP hgL hw hr hv
    have s5 := hs.2.2.2.2.2.1 r (by omega)
    rw [hv] at s5
    obtain ⟨S1, a1, a2, a3⟩ := c79 (d := d + 4) (k := g) (r := r) (g' := v) hW hp hs (hG.Bd hP) (by omega) (by omega) (fun j b c e => e)
    have E := b32_76_eq (d + 5) p (nI T) (nI o.length) (nI g) (nI r) S hW hp
    obtain ⟨nx1, nx2⟩ := q_oth_R hP v2 r
    -- the store behind who was put out is written down
    have hz : ∃ S2, S2 = sI (sI S1 25 o.length (nI v)) 26 o.length (nI r) ∧ onI (hD p) S S2 := ⟨_, rfl, onI_sI (onI_sI (a2.mono fun c k z => Or.inl z) (Or.inr (by omega))) (Or.inr (by omega))⟩
    obtain ⟨S2, hS2, ho2⟩ := hz
    have hH2 : cH S2 q P := hH'.on ho2 (fun c k a b => by unfold hD at b; omega)
    have f2 : onI (fun c _ => c = 25 ∨ c = 26) S1 S2 := by rw [hS2]; exact onI_sI (onI_sI (onI.refl a2.W) (Or.inl rfl)) (Or.inr rfl)
    have hs2 : cSt S2 p v (q_out (q_bed s g r) v) := (a3.on f2 (fun c k a b z => by omega)).out
    have hO2 : hO S2 (o ++ [(v, r)]) := by
      intro i hi
      rw [List.length_append, List.length_singleton] at hi
      rw [hS2]
      by_cases z : i = o.length
      · refine ⟨?_, ?_⟩
        · simp (disch := omega) only [ni_lit, nI_add, pk_mul, pk_sub, pk_div, nI_leI, nI_ltI, nI_eq, nI_clamp, ni_in, ni_inm, ni_ltm, ni_mlt, ni_lem, ni_mle, ni_eqm, ni_meq, ni_mm, ni_mmle, ni_bit, ni_shl, ni_clr, fa_or, Nat.add_zero, Nat.zero_add, Nat.zero_mul, Nat.mul_zero, eOn, eOs, if_true, if_false, not_true_eq_false, not_false_eq_true, ite_true, ite_false, true_and, and_true, false_and, and_false, or_true, true_or, or_false, false_or, Bool.false_eq_true, reduceIte, Bool.not_true, Bool.not_false, and_self, or_self, q_ef, q_et, q_ltt, q_ltf, q_let, q_lef, gIs, gIl, gIr, gLs, gLl, gLr, gPs, gPl, gPr, gLc, gPc, zb_some, Option.bind_some, q_nm, q_pm, q_hm, q_tm, q_sm, q_wm, q_ym, q_lm, q_ua]; simp [z]
        · simp (disch := omega) only [ni_lit, nI_add, pk_mul, pk_sub, pk_div, nI_leI, nI_ltI, nI_eq, nI_clamp, ni_in, ni_inm, ni_ltm, ni_mlt, ni_lem, ni_mle, ni_eqm, ni_meq, ni_mm, ni_mmle, ni_bit, ni_shl, ni_clr, fa_or, Nat.add_zero, Nat.zero_add, Nat.zero_mul, Nat.mul_zero, eOn, eOs, if_true, if_false, not_true_eq_false, not_false_eq_true, ite_true, ite_false, true_and, and_true, false_and, and_false, or_true, true_or, or_false, false_or, Bool.false_eq_true, reduceIte, Bool.not_true, Bool.not_false, and_self, or_self, q_ef, q_et, q_ltt, q_ltf, q_let, q_lef, gIs, gIl, gIr, gLs, gLl, gLr, gPs, gPl, gPr, gLc, gPc, zb_some, Option.bind_some, q_nm, q_pm, q_hm, q_tm, q_sm, q_wm, q_ym, q_lm, q_ua]; simp [z]
      · have hi2 : i < o.length := by omega
        have hgi : (o ++ [(v, r)]).getD i (0, 0) = o.getD i (0, 0) := by
          rw [List.getD_eq_getElem?_getD, List.getD_eq_getElem?_getD, List.getElem?_append_left hi2]
        rw [hgi]
        refine ⟨?_, ?_⟩
        · simp (disch := omega) only [ni_lit, nI_add, pk_mul, pk_sub, pk_div, nI_leI, nI_ltI, nI_eq, nI_clamp, ni_in, ni_inm, ni_ltm, ni_mlt, ni_lem, ni_mle, ni_eqm, ni_meq, ni_mm, ni_mmle, ni_bit, ni_shl, ni_clr, fa_or, Nat.add_zero, Nat.zero_add, Nat.zero_mul, Nat.mul_zero, eOn, eOs, if_true, if_false, not_true_eq_false, not_false_eq_true, ite_true, ite_false, true_and, and_true, false_and, and_false, or_true, true_or, or_false, false_or, Bool.false_eq_true, reduceIte, Bool.not_true, Bool.not_false, and_self, or_self, q_ef, q_et, q_ltt, q_ltf, q_let, q_lef, gIs, gIl, gIr, gLs, gLl, gLr, gPs, gPl, gPr, gLc, gPc, zb_some, Option.bind_some, q_nm, q_pm, q_hm, q_tm, q_sm, q_wm, q_ym, q_lm, q_ua]; rw [a2.I (by unfold pD; omega)]; exact (hO1 i hi2).1
        · simp (disch := omega) only [ni_lit, nI_add, pk_mul, pk_sub, pk_div, nI_leI, nI_ltI, nI_eq, nI_clamp, ni_in, ni_inm, ni_ltm, ni_mlt, ni_lem, ni_mle, ni_eqm, ni_meq, ni_mm, ni_mmle, ni_bit, ni_shl, ni_clr, fa_or, Nat.add_zero, Nat.zero_add, Nat.zero_mul, Nat.mul_zero, eOn, eOs, if_true, if_false, not_true_eq_false, not_false_eq_true, ite_true, ite_false, true_and, and_true, false_and, and_false, or_true, true_or, or_false, false_or, Bool.false_eq_true, reduceIte, Bool.not_true, Bool.not_false, and_self, or_self, q_ef, q_et, q_ltt, q_ltf, q_let, q_lef, gIs, gIl, gIr, gLs, gLl, gLr, gPs, gPl, gPr, gLc, gPc, zb_some, Option.bind_some, q_nm, q_pm, q_hm, q_tm, q_sm, q_wm, q_ym, q_lm, q_ua]; rw [a2.I (by unfold pD; omega)]; exact (hO1 i hi2).2
    have a4 := c61 (d := d + 4) (k := v) (r := r) hH2.1 hq hH2.2.2.2.1 hP v2 (by omega)
    have a5 := c76 (d := d + 4) (r := q_oth P v r) hH2.1 hp hs2 (hG1.Bd hP) (by omega)
    simp (disch := omega) only [ni_lit, nI_add, pk_mul, pk_sub, pk_div, nI_leI, nI_ltI, nI_eq, nI_clamp, ni_in, ni_inm, ni_ltm, ni_mlt, ni_lem, ni_mle, ni_eqm, ni_meq, ni_mm, ni_mmle, ni_bit, ni_shl, ni_clr, fa_or, Nat.add_zero, Nat.zero_add, Nat.zero_mul, Nat.mul_zero, eOn, eOs, if_true, if_false, not_true_eq_false, not_false_eq_true, ite_true, ite_false, true_and, and_true, false_and, and_false, or_true, true_or, or_false, false_or, Bool.false_eq_true, reduceIte, Bool.not_true, Bool.not_false, and_self, or_self, q_ef, q_et, q_ltt, q_ltf, q_let, q_lef, zb_some, Option.bind_some, s5, a1] at E
    rw [← hS2, hH2.2.2.1, a4, zb_some, a5, zb_some] at E
    have hchn : q_chn P T (n + 1) s g r o = (if q_free (q_out (q_bed s g r) v) (q_oth P v r) then (q_bed (q_out (q_bed s g r) v) v (q_oth P v r), o ++ [(v, r)])
      else if q_yl P (q_out (q_bed s g r) v) (q_oth P v r) (o.length + 1) T then q_chn P T n (q_out (q_bed s g r) v) v (q_oth P v r) (o ++ [(v, r)])
      else (q_ben (p_B P) (q_out (q_bed s g r) v) v, o ++ [(v, r)])) := by rw [q_chn, hv]
    rw [hchn]
    have hw1 : q_w (q_out (q_bed s g r) v) v = 255 := q_us _ _ _
    have hlen : (o ++ [(v, r)]).length = o.length + 1 := by simp
    by_cases c1 : q_free (q_out (q_bed s g r) v) (q_oth P v r) = true
    · obtain ⟨S3, b1, b2, b3⟩ := c79 (d := d + 4) (k := v) (r := q_oth P v r) (g' := 16) hH2.1 hp hs2 (hG1.Bd hP) (by omega) (by omega) (fun j x y z => z)
      rw [c1, if_neg (by decide), b1, Option.bind_some] at E
      rw [if_pos c1]
      refine ⟨S3, ?_, ho2.trans (b2.mono fun c k z => Or.inl z), b3, fun i hi => ?_, hG1.bed hP v2 hw1 nx2 c1, by rw [hlen]; omega⟩
      · rw [hlen]; exact E
      · rw [b2.I (by unfold pD; omega), b2.I (by unfold pD; omega)]; exact hO2 i hi
    · have c1' : q_free (q_out (q_bed s g r) v) (q_oth P v r) = false := by simpa using c1
      obtain ⟨S3, b1, b2⟩ := c34 (d := d) (r := q_oth P v r) (out := o.length + 1) (T := T) hH2 hp hs2 hG1 (Or.inl (by rw [hw1]; omega)) (by omega) (by omega) hT
      rw [c1', if_pos (by decide), b1, zb_some] at E
      rw [if_neg c1]
      have ho3 : onI (hD p) S S3 := ho2.trans (b2.mono fun c k z => Or.inr (by omega))
      have hH3 : cH S3 q P := hH2.on b2 (fun c k a b => by omega)
      have hs3 : cSt S3 p v (q_out (q_bed s g r) v) := hs2.on b2 (fun c k a b z => by omega)
      have hO3 : hO S3 (o ++ [(v, r)]) := fun i hi => by rw [b2.I (by omega), b2.I (by omega)]; exact hO2 i hi
      by_cases c2 : q_yl P (q_out (q_bed s g r) v) (q_oth P v r) (o.length + 1) T = true
      · rw [c2, if_neg (by decide), b32_189_eq (d + 5) p _ _ _ _ S3 hH3.1 hp] at E
        rw [if_pos c2]
        have c3 : o.length + 1 < T ∧ (q_s (q_out (q_bed s g r) v) (q_oth P v r)).isSome = true := by
          unfold q_yl at c2
          split at c2
          · cases c2
          · rename_i k hk
            rw [Bool.and_eq_true] at c2
            exact ⟨of_decide_eq_true c2.1, by rw [hk]; rfl⟩
        obtain ⟨S4, f1, f2, f3, f4, f5, f6⟩ := c32_l hp hT n (q_out (q_bed s g r) v) v (q_oth P v r) (o ++ [(v, r)]) S3 hH3 hs3 hG1 v2 hw1 nx2 c3.2 (by rw [hlen]; exact c3.1) (by rw [hlen]; omega) hO3
        rw [hlen] at f1
        exact ⟨S4, E.trans f1, ho3.trans f2, f3, f4, f5, f6⟩
      · have c2' : q_yl P (q_out (q_bed s g r) v) (q_oth P v r) (o.length + 1) T = false := by simpa using c2
        rw [c2', if_pos (by decide), b32_189_eq (d + 5) p _ _ _ _ S3 hH3.1 hp, b32_76_eq (d + 5) p _ _ _ _ S3 hH3.1 hp, if_pos (by decide), b32_194_eq (d + 5) p _ _ S3 hH3.1 hp] at E
        rw [if_neg c2]
        obtain ⟨S4, f1, f2, f3⟩ := c80 (d := d + 4) (k := v) (B := p_B P) (g' := 16) hH3.1 hp hs3 (hG1.Bd hP) (by omega) hP.2.1 (fun j x y z => z)
        rw [hH3.2.2.1, hH3.2.2.2.1.2.2.1, f1, Option.bind_some] at E
        refine ⟨S4, ?_, ho3.trans (f2.mono fun c k z => Or.inl z), f3, fun i hi => ?_, hG1.ben hP v2 hw1, by rw [hlen]; omega⟩
        · rw [hlen]; exact E
        · rw [f2.I (by unfold pD; omega), f2.I (by unfold pD; omega)]; exact hO3 i hi
theorem c32 {T k : Nat} (hH : cH S q P) (hp : z_K p = 8) (hs : cSt S p 16 s) (hG : q_Gd P s) (hk : k < p_L P) (hw : q_w s k = 255) (hT : T ≤ 40) : ∃ S', fI (d + 6) 32 [.ref 22, .ref p, .int (nI k), .int (nI T)] S = some (nI (q_arr P T s k).2.length, S') ∧ onI (hD p) S S' ∧ cSt S' p 16 (q_arr P T s k).1 ∧ hO S' (q_arr P T s k).2 ∧ q_Gd P (q_arr P T s k).1 ∧ (q_arr P T s k).2.length ≤ T := by
  have hH' := hH
  obtain ⟨hW, hq, hgp, hC, hP⟩ := hH
  have hL := hP.2.2.2.2.1
  have hR := hP.1
  have p8 := zP8 hp
  have ff := hP.2.2.2.2.2.2.2.1 k hk
  have E := e32 (d + 5) p (nI k) (nI T) S hW hp
  obtain ⟨S1, a1, a2, a3⟩ := c33 (d := d + 3) hH' hp hs (hG.Bd hP) hk
  rw [a1, zb_some] at E
  unfold q_arr
  cases hin : q_in P s k with
  | some s1 =>
    rw [hin] at E a3
    simp only [Option.isSome_some, Option.getD_some] at E a3
    rw [if_neg (by decide)] at E
    refine ⟨S1, E, a2.mono fun c k z => Or.inl z, a3, fun i hi => absurd hi (Nat.not_lt_zero _), ?_, Nat.zero_le _⟩
    unfold q_in at hin
    split at hin
    · rename_i c; cases hin; exact hG.bed hP hk hw (Or.inl rfl) c
    · split at hin
      · rename_i c; cases hin; exact hG.bed hP hk hw (Or.inr rfl) c
      · cases hin
  | none =>
    rw [hin] at E a3
    simp only [Option.isSome_none, Option.getD_none] at E a3
    have hH1 : cH S1 q P := hH'.on a2 (fun c k a b => by unfold pD at b; omega)
    have g1 := hH1.2.2.2.1.2.2.2.2.2.2.2.2.2.1 k hk
    obtain ⟨S2, b1, b2⟩ := c34 (d := d) (r := p_f P k) (out := 0) (T := T) hH1 hp a3 hG (Or.inr (Nat.le_refl _)) (by omega) (by omega) hT
    have ho2 : onI (hD p) S S2 := (a2.mono fun c k z => Or.inl z).trans (b2.mono fun c k z => Or.inr (by omega))
    have hH2 : cH S2 q P := hH1.on b2 (fun c k a b => by omega)
    have hs2 : cSt S2 p 16 s := a3.on b2 (fun c k a b z => by omega)
    have g2 := hH2.2.2.2.1.2.2.2.2.2.2.2.2.2.2.1 k hk
    simp (disch := omega) only [ni_lit, nI_add, pk_mul, pk_sub, pk_div, nI_leI, nI_ltI, nI_eq, nI_clamp, ni_in, ni_inm, ni_ltm, ni_mlt, ni_lem, ni_mle, ni_eqm, ni_meq, ni_mm, ni_mmle, ni_bit, ni_shl, ni_clr, fa_or, Nat.add_zero, Nat.zero_add, Nat.zero_mul, Nat.mul_zero, eOn, eOs, if_true, if_false, not_true_eq_false, not_false_eq_true, ite_true, ite_false, true_and, and_true, false_and, and_false, or_true, true_or, or_false, false_or, Bool.false_eq_true, reduceIte, Bool.not_true, Bool.not_false, and_self, or_self, q_ef, q_et, q_ltt, q_ltf, q_let, q_lef, bIf, hH1.2.2.1, g1, b1, zb_some] at E
    have hyS : ∀ r, q_yl P s r 0 T = true → 0 < T ∧ (q_s s r).isSome = true := fun r c2 => by
      unfold q_yl at c2
      split at c2
      · cases c2
      · rename_i k hk
        rw [Bool.and_eq_true] at c2
        exact ⟨of_decide_eq_true c2.1, by rw [hk]; rfl⟩
    by_cases c1 : q_yl P s (p_f P k) 0 T = true
    · rw [c1, if_pos (by decide)] at E
      obtain ⟨c2, c3⟩ := hyS _ c1
      obtain ⟨S4, f1, f2, f3, f4, f5, f6⟩ := c32_l (d := d) hp hT T s k (p_f P k) [] S2 hH2 (hs2.ex fun j a b => by omega) hG hk hw (Or.inl rfl) c3 c2 (by simp) (fun i hi => absurd hi (Nat.not_lt_zero _))
      simp only [c1, if_true]
      exact ⟨S4, E.trans f1, ho2.trans f2, f3, f4, f5, f6⟩
    · have c1' : q_yl P s (p_f P k) 0 T = false := by simpa using c1
      rw [c1', if_neg (by decide), hH2.2.2.1, g2] at E
      obtain ⟨S3, d1, d2⟩ := c34 (d := d) (r := p_o P k) (out := 0) (T := T) hH2 hp hs2 hG (Or.inr (Nat.le_refl _)) (by omega) (by omega) hT
      have ho3 : onI (hD p) S S3 := ho2.trans (d2.mono fun c k z => Or.inr (by omega))
      have hH3 : cH S3 q P := hH2.on d2 (fun c k a b => by omega)
      have hs3 : cSt S3 p 16 s := hs2.on d2 (fun c k a b z => by omega)
      have g3 := hH3.2.2.2.1.2.2.2.2.2.2.2.2.2.2.1 k hk
      rw [d1, zb_some] at E
      simp only [c1', Bool.false_eq_true, if_false]
      by_cases c4 : q_yl P s (p_o P k) 0 T = true
      · rw [c4, if_neg (by decide), hH3.2.2.1, g3, b32_74_eq (d + 5) p _ _ _ _ S3 hH3.1 hp] at E
        obtain ⟨c2, c3⟩ := hyS _ c4
        obtain ⟨S4, f1, f2, f3, f4, f5, f6⟩ := c32_l (d := d) hp hT T s k (p_o P k) [] S3 hH3 (hs3.ex fun j a b => by omega) hG hk hw (Or.inr rfl) c3 c2 (by simp) (fun i hi => absurd hi (Nat.not_lt_zero _))
        simp only [c4, if_true]
        exact ⟨S4, E.trans f1, ho3.trans f2, f3, f4, f5, f6⟩
      · have c4' : q_yl P s (p_o P k) 0 T = false := by simpa using c4
        rw [c4', if_pos (by decide), b32_74_eq (d + 5) p _ _ _ _ S3 hH3.1 hp, b32_76_eq (d + 5) p _ _ _ _ S3 hH3.1 hp, if_pos (by decide), b32_194_eq (d + 5) p _ _ S3 hH3.1 hp] at E
        obtain ⟨S4, f1, f2, f3⟩ := c80 (d := d + 4) (k := k) (B := p_B P) (g' := 16) hH3.1 hp hs3 (hG.Bd hP) (by omega) hP.2.1 (fun j x y z => y)
        rw [hH3.2.2.1, hH3.2.2.2.1.2.2.1, f1, Option.bind_some] at E
        simp only [c4', Bool.false_eq_true, if_false]
        exact ⟨S4, E, ho3.trans (f2.mono fun c k z => Or.inl z), f3, fun i hi => absurd hi (Nat.not_lt_zero _), hG.ben hP hk hw, Nat.zero_le _⟩
end QH
