/-! THE HOUSE: a night. -/
def q_setl (s : q_St) (l : List Nat) : q_St := (q_n s, q_p s, q_h s, q_t s, q_s s, q_w s, q_y s, l)
/-- those on the bench, one by one; kp: who stays there -/
def q_seat (P : q_Pl) : List Nat → List Nat → q_St → q_St
  | [], kp, s => q_setl s kp
  | k :: r, kp, s => match q_in P s k with
    | some s' => q_seat P r kp s'
    | none => q_seat P r (kp ++ [k]) s
theorem q_in_setl (P : q_Pl) (s : q_St) (l : List Nat) (k : Nat) : q_in P (q_setl s l) k = (q_in P s k).map (fun s' => q_setl s' l) := by
  have e : ∀ r, q_free (q_setl s l) r = q_free s r := fun r => rfl
  unfold q_in
  rw [e, e]
  split
  · rfl
  · split
    · rfl
    · rfl
theorem q_Bd.bed {s : q_St} (h : q_Bd s) {k r : Nat} (hk : k < 16) (hr : r < 16) : q_Bd (q_bed s k r) := by
  obtain ⟨g1, g2, g3, g4, g5, g6, g7, g8, g9⟩ := h
  refine ⟨g1, q_or16 g2 (q_p16 hr), g3, g4, g5, fun j i hj => ?_, fun j => ?_, fun j => ?_, g9⟩
  · have hj2 : q_u (q_s s) r (some k) j = some i := hj
    by_cases q : j = r
    · rw [q, q_us] at hj2; cases hj2; exact hk
    · rw [q_un q] at hj2; exact g6 j i hj2
  · show q_u (q_w s) k r j < 256
    by_cases q : j = k
    · rw [q, q_us]; omega
    · rw [q_un q]; exact g7 j
  · show q_u (q_y s) k 0 j ≤ 99
    by_cases q : j = k
    · rw [q, q_us]; omega
    · rw [q_un q]; exact g8 j
theorem q_in_bed {P : q_Pl} {s s' : q_St} {k : Nat} (h : q_in P s k = some s') : ∃ r, (r = p_f P k ∨ r = p_o P k) ∧ q_free s r = true ∧ s' = q_bed s k r := by
  unfold q_in at h
  split at h
  · rename_i c; cases h; exact ⟨_, Or.inl rfl, c, rfl⟩
  · split at h
    · rename_i c; cases h; exact ⟨_, Or.inr rfl, c, rfl⟩
    · cases h
theorem q_uu {α : Type} (f : Nat → α) (i : Nat) (v w : α) : q_u (q_u f i v) i w = q_u f i w := by
  funext j
  by_cases q : j = i
  · rw [q, q_us, q_us]
  · rw [q_un q, q_un q, q_un q]
theorem q_filt {k : Nat} : ∀ {a b : List Nat}, (a ++ k :: b).Nodup → (a ++ k :: b).filter (fun j => !decide (j = k)) = a ++ b := by
  intro a b h
  rw [List.nodup_append] at h
  obtain ⟨h1, h2, h3⟩ := h
  rw [List.nodup_cons] at h2
  rw [List.filter_append, List.filter_cons_of_neg (by simp)]
  congr 1
  · rw [List.filter_eq_self]
    intro x hx
    have := h3 x hx k (by simp)
    simpa using this
  · rw [List.filter_eq_self]
    intro x hx
    have : x ≠ k := fun z => h2.1 (z ▸ hx)
    simpa using this
theorem q_seat_G1 {P : q_Pl} {s s' : q_St} {k : Nat} {kp r : List Nat} (hP : p_Wf P) (h : q_Gd P (q_setl s (kp ++ k :: r))) (hi : q_in P s k = some s') : q_Gd P (q_setl s' (kp ++ r)) := by
  have hm : k ∈ q_l (q_setl s (kp ++ k :: r)) := by show k ∈ kp ++ k :: r; simp
  have hw : q_w s k = 254 := (h.2.2.2.2.2.1 k).mpr hm
  have hk : k < p_L P := h.2.2.2.2.2.2.2.2.1 k hm
  have hn : (kp ++ k :: r).Nodup := h.2.2.2.2.2.2.2.1
  obtain ⟨g1, g2⟩ := h.away hP k
  have e : q_away (q_setl s (kp ++ k :: r)) k = (q_n s, q_p s, q_h s, q_t s, q_s s, q_u (q_w s) k 255, q_u (q_y s) k 0, kp ++ r) := by
    unfold q_away
    have hw2 : q_w (q_setl s (kp ++ k :: r)) k = 254 := hw
    rw [if_neg (by omega), if_pos hw2]
    show (q_n s, q_p s, q_h s, q_t s, q_s s, q_u (q_w s) k 255, q_u (q_y s) k 0, (kp ++ k :: r).filter (fun j => !decide (j = k))) = _
    rw [q_filt hn]
  obtain ⟨x, hx1, hx2, hx3⟩ := q_in_bed hi
  have hf : q_free (q_away (q_setl s (kp ++ k :: r)) k) x = true := by rw [e]; exact hx2
  have g3 := g1.bed hP hk g2 hx1 hf
  have e2 : q_bed (q_away (q_setl s (kp ++ k :: r)) k) k x = q_setl s' (kp ++ r) := by
    rw [e, hx3]
    show (q_n s, q_p s, q_h s, q_t s ||| 2 ^ x, q_u (q_s s) x (some k), q_u (q_u (q_w s) k 255) k x, q_u (q_u (q_y s) k 0) k 0, kp ++ r) = (q_n s, q_p s, q_h s, q_t s ||| 2 ^ x, q_u (q_s s) x (some k), q_u (q_w s) k x, q_u (q_y s) k 0, kp ++ r)
    rw [q_uu, q_uu]
  rw [← e2]
  exact g3
theorem q_seat_G {P : q_Pl} (hP : p_Wf P) : ∀ (r kp : List Nat) (s : q_St), q_Gd P (q_setl s (kp ++ r)) → q_Gd P (q_seat P r kp s)
  | [], kp, s, h => by
    rw [List.append_nil] at h
    exact h
  | k :: r, kp, s, h => by
    rw [q_seat]
    cases hi : q_in P s k with
    | some s' => exact q_seat_G hP r kp s' (q_seat_G1 hP h hi)
    | none =>
      refine q_seat_G hP r (kp ++ [k]) s ?_
      rw [List.append_assoc]
      exact h
theorem q_dropc {l : List Nat} {i : Nat} (h : i < l.length) : l.drop i = l.getD i 0 :: l.drop (i + 1) := by
  rw [List.drop_eq_getElem_cons h, List.getD_eq_getElem?_getD, List.getElem?_eq_getElem h]
  rfl
section QN
variable {d q p : Nat} {S : z_S} {P : q_Pl} {s : q_St}
theorem c36_l {l0 : List Nat} (hp : z_K p = 8) (hl6 : l0.length ≤ 6) (hl : ∀ k, k ∈ l0 → k < p_L P) : ∀ (m i : Nat) (kp : List Nat) (s : q_St) (S : z_S), i + m = l0.length → kp.length ≤ i → cH S q P → cSt S p 16 (q_setl s (kp ++ l0.drop kp.length)) → q_Bd (q_setl s (kp ++ l0.drop kp.length)) → ∃ S', b36_4 (d + 2) p (nI kp.length) (nI i) S = some S' ∧ onI (pD p) S S' ∧ cSt S' p 16 (q_seat P (l0.drop i) kp s)
  | 0, i, kp, s, S, hi, hk, hH, hs, hB => by
    have e := b36_4_eq (d + 2) p (nI kp.length) (nI i) S hH.1 hp
    have hlen : (kp ++ l0.drop kp.length).length = l0.length := by rw [List.length_append, List.length_drop]; omega
    obtain ⟨s0, s1, s2, s3, s4, s5, s6, s7, s8⟩ := hs
    have s4' : gI S p 4 = nI l0.length := by rw [s4]; show nI (kp ++ l0.drop kp.length).length = _; rw [hlen]
    simp (disch := omega) only [ni_lit, nI_add, pk_mul, pk_sub, pk_div, nI_leI, nI_ltI, nI_eq, nI_clamp, ni_in, ni_inm, ni_ltm, ni_mlt, ni_lem, ni_mle, ni_eqm, ni_meq, ni_mm, ni_mmle, ni_bit, ni_shl, ni_clr, fa_or, Nat.add_zero, Nat.zero_add, Nat.zero_mul, Nat.mul_zero, eOn, eOs, if_true, if_false, not_true_eq_false, not_false_eq_true, ite_true, ite_false, true_and, and_true, false_and, and_false, or_true, true_or, or_false, false_or, Bool.false_eq_true, reduceIte, Bool.not_true, Bool.not_false, and_self, or_self, q_ef, q_et, q_ltt, q_ltf, q_let, q_lef, gIs, gIl, gIr, gLs, gLl, gLr, gPs, gPl, gPr, gLc, gPc, zb_some, Option.bind_some, q_nm, q_pm, q_hm, q_tm, q_sm, q_wm, q_ym, q_lm, q_ua, s4'] at e
    refine ⟨_, e, onI_sI (onI.refl hH.1) ⟨by omega, by omega⟩, ?_⟩
    rw [List.drop_of_length_le (by omega)]
    show cSt _ p 16 (q_setl s kp)
    refine ⟨?_, ?_, ?_, ?_, ?_, fun j hj => ?_, fun j hj hg => ?_, fun j hj hg => ?_, fun j hj => ?_⟩
    · simp (disch := omega) only [ni_lit, nI_add, pk_mul, pk_sub, pk_div, nI_leI, nI_ltI, nI_eq, nI_clamp, ni_in, ni_inm, ni_ltm, ni_mlt, ni_lem, ni_mle, ni_eqm, ni_meq, ni_mm, ni_mmle, ni_bit, ni_shl, ni_clr, fa_or, Nat.add_zero, Nat.zero_add, Nat.zero_mul, Nat.mul_zero, eOn, eOs, if_true, if_false, not_true_eq_false, not_false_eq_true, ite_true, ite_false, true_and, and_true, false_and, and_false, or_true, true_or, or_false, false_or, Bool.false_eq_true, reduceIte, Bool.not_true, Bool.not_false, and_self, or_self, q_ef, q_et, q_ltt, q_ltf, q_let, q_lef, gIs, gIl, gIr, gLs, gLl, gLr, gPs, gPl, gPr, gLc, gPc, zb_some, Option.bind_some, q_nm, q_pm, q_hm, q_tm, q_sm, q_wm, q_ym, q_lm, q_ua, s0]; rfl
    · simp (disch := omega) only [ni_lit, nI_add, pk_mul, pk_sub, pk_div, nI_leI, nI_ltI, nI_eq, nI_clamp, ni_in, ni_inm, ni_ltm, ni_mlt, ni_lem, ni_mle, ni_eqm, ni_meq, ni_mm, ni_mmle, ni_bit, ni_shl, ni_clr, fa_or, Nat.add_zero, Nat.zero_add, Nat.zero_mul, Nat.mul_zero, eOn, eOs, if_true, if_false, not_true_eq_false, not_false_eq_true, ite_true, ite_false, true_and, and_true, false_and, and_false, or_true, true_or, or_false, false_or, Bool.false_eq_true, reduceIte, Bool.not_true, Bool.not_false, and_self, or_self, q_ef, q_et, q_ltt, q_ltf, q_let, q_lef, gIs, gIl, gIr, gLs, gLl, gLr, gPs, gPl, gPr, gLc, gPc, zb_some, Option.bind_some, q_nm, q_pm, q_hm, q_tm, q_sm, q_wm, q_ym, q_lm, q_ua, s1]; rfl
    · simp (disch := omega) only [ni_lit, nI_add, pk_mul, pk_sub, pk_div, nI_leI, nI_ltI, nI_eq, nI_clamp, ni_in, ni_inm, ni_ltm, ni_mlt, ni_lem, ni_mle, ni_eqm, ni_meq, ni_mm, ni_mmle, ni_bit, ni_shl, ni_clr, fa_or, Nat.add_zero, Nat.zero_add, Nat.zero_mul, Nat.mul_zero, eOn, eOs, if_true, if_false, not_true_eq_false, not_false_eq_true, ite_true, ite_false, true_and, and_true, false_and, and_false, or_true, true_or, or_false, false_or, Bool.false_eq_true, reduceIte, Bool.not_true, Bool.not_false, and_self, or_self, q_ef, q_et, q_ltt, q_ltf, q_let, q_lef, gIs, gIl, gIr, gLs, gLl, gLr, gPs, gPl, gPr, gLc, gPc, zb_some, Option.bind_some, q_nm, q_pm, q_hm, q_tm, q_sm, q_wm, q_ym, q_lm, q_ua, s2]; rfl
    · simp (disch := omega) only [ni_lit, nI_add, pk_mul, pk_sub, pk_div, nI_leI, nI_ltI, nI_eq, nI_clamp, ni_in, ni_inm, ni_ltm, ni_mlt, ni_lem, ni_mle, ni_eqm, ni_meq, ni_mm, ni_mmle, ni_bit, ni_shl, ni_clr, fa_or, Nat.add_zero, Nat.zero_add, Nat.zero_mul, Nat.mul_zero, eOn, eOs, if_true, if_false, not_true_eq_false, not_false_eq_true, ite_true, ite_false, true_and, and_true, false_and, and_false, or_true, true_or, or_false, false_or, Bool.false_eq_true, reduceIte, Bool.not_true, Bool.not_false, and_self, or_self, q_ef, q_et, q_ltt, q_ltf, q_let, q_lef, gIs, gIl, gIr, gLs, gLl, gLr, gPs, gPl, gPr, gLc, gPc, zb_some, Option.bind_some, q_nm, q_pm, q_hm, q_tm, q_sm, q_wm, q_ym, q_lm, q_ua, s3]; rfl
    · simp (disch := omega) only [ni_lit, nI_add, pk_mul, pk_sub, pk_div, nI_leI, nI_ltI, nI_eq, nI_clamp, ni_in, ni_inm, ni_ltm, ni_mlt, ni_lem, ni_mle, ni_eqm, ni_meq, ni_mm, ni_mmle, ni_bit, ni_shl, ni_clr, fa_or, Nat.add_zero, Nat.zero_add, Nat.zero_mul, Nat.mul_zero, eOn, eOs, if_true, if_false, not_true_eq_false, not_false_eq_true, ite_true, ite_false, true_and, and_true, false_and, and_false, or_true, true_or, or_false, false_or, Bool.false_eq_true, reduceIte, Bool.not_true, Bool.not_false, and_self, or_self, q_ef, q_et, q_ltt, q_ltf, q_let, q_lef, gIs, gIl, gIr, gLs, gLl, gLr, gPs, gPl, gPr, gLc, gPc, zb_some, Option.bind_some, q_nm, q_pm, q_hm, q_tm, q_sm, q_wm, q_ym, q_lm, q_ua]; rfl
    · simp (disch := omega) only [ni_lit, nI_add, pk_mul, pk_sub, pk_div, nI_leI, nI_ltI, nI_eq, nI_clamp, ni_in, ni_inm, ni_ltm, ni_mlt, ni_lem, ni_mle, ni_eqm, ni_meq, ni_mm, ni_mmle, ni_bit, ni_shl, ni_clr, fa_or, Nat.add_zero, Nat.zero_add, Nat.zero_mul, Nat.mul_zero, eOn, eOs, if_true, if_false, not_true_eq_false, not_false_eq_true, ite_true, ite_false, true_and, and_true, false_and, and_false, or_true, true_or, or_false, false_or, Bool.false_eq_true, reduceIte, Bool.not_true, Bool.not_false, and_self, or_self, q_ef, q_et, q_ltt, q_ltf, q_let, q_lef, gIs, gIl, gIr, gLs, gLl, gLr, gPs, gPl, gPr, gLc, gPc, zb_some, Option.bind_some, q_nm, q_pm, q_hm, q_tm, q_sm, q_wm, q_ym, q_lm, q_ua, s5 j hj]; rfl
    · simp (disch := omega) only [ni_lit, nI_add, pk_mul, pk_sub, pk_div, nI_leI, nI_ltI, nI_eq, nI_clamp, ni_in, ni_inm, ni_ltm, ni_mlt, ni_lem, ni_mle, ni_eqm, ni_meq, ni_mm, ni_mmle, ni_bit, ni_shl, ni_clr, fa_or, Nat.add_zero, Nat.zero_add, Nat.zero_mul, Nat.mul_zero, eOn, eOs, if_true, if_false, not_true_eq_false, not_false_eq_true, ite_true, ite_false, true_and, and_true, false_and, and_false, or_true, true_or, or_false, false_or, Bool.false_eq_true, reduceIte, Bool.not_true, Bool.not_false, and_self, or_self, q_ef, q_et, q_ltt, q_ltf, q_let, q_lef, gIs, gIl, gIr, gLs, gLl, gLr, gPs, gPl, gPr, gLc, gPc, zb_some, Option.bind_some, q_nm, q_pm, q_hm, q_tm, q_sm, q_wm, q_ym, q_lm, q_ua, s6 j hj hg]; rfl
    · simp (disch := omega) only [ni_lit, nI_add, pk_mul, pk_sub, pk_div, nI_leI, nI_ltI, nI_eq, nI_clamp, ni_in, ni_inm, ni_ltm, ni_mlt, ni_lem, ni_mle, ni_eqm, ni_meq, ni_mm, ni_mmle, ni_bit, ni_shl, ni_clr, fa_or, Nat.add_zero, Nat.zero_add, Nat.zero_mul, Nat.mul_zero, eOn, eOs, if_true, if_false, not_true_eq_false, not_false_eq_true, ite_true, ite_false, true_and, and_true, false_and, and_false, or_true, true_or, or_false, false_or, Bool.false_eq_true, reduceIte, Bool.not_true, Bool.not_false, and_self, or_self, q_ef, q_et, q_ltt, q_ltf, q_let, q_lef, gIs, gIl, gIr, gLs, gLl, gLr, gPs, gPl, gPr, gLc, gPc, zb_some, Option.bind_some, q_nm, q_pm, q_hm, q_tm, q_sm, q_wm, q_ym, q_lm, q_ua, s7 j hj hg]; rfl
    · have hj2 : j < kp.length := hj
      have h8 := s8 j (by show j < (kp ++ l0.drop kp.length).length; rw [hlen]; omega)
      simp (disch := omega) only [ni_lit, nI_add, pk_mul, pk_sub, pk_div, nI_leI, nI_ltI, nI_eq, nI_clamp, ni_in, ni_inm, ni_ltm, ni_mlt, ni_lem, ni_mle, ni_eqm, ni_meq, ni_mm, ni_mmle, ni_bit, ni_shl, ni_clr, fa_or, Nat.add_zero, Nat.zero_add, Nat.zero_mul, Nat.mul_zero, eOn, eOs, if_true, if_false, not_true_eq_false, not_false_eq_true, ite_true, ite_false, true_and, and_true, false_and, and_false, or_true, true_or, or_false, false_or, Bool.false_eq_true, reduceIte, Bool.not_true, Bool.not_false, and_self, or_self, q_ef, q_et, q_ltt, q_ltf, q_let, q_lef, gIs, gIl, gIr, gLs, gLl, gLr, gPs, gPl, gPr, gLc, gPc, zb_some, Option.bind_some, q_nm, q_pm, q_hm, q_tm, q_sm, q_wm, q_ym, q_lm, q_ua, h8]
      show nI ((kp ++ l0.drop kp.length).getD j 0) = nI (kp.getD j 0)
      rw [List.getD_eq_getElem?_getD, List.getD_eq_getElem?_getD, List.getElem?_append_left hj2]
  | m + 1, i, kp, s, S, hi, hk, hH, hs, hB => by
    have e := b36_4_eq (d + 2) p (nI kp.length) (nI i) S hH.1 hp
    have hlen : (kp ++ l0.drop kp.length).length = l0.length := by rw [List.length_append, List.length_drop]; omega
    have s4' : gI S p 4 = nI l0.length := by rw [hs.2.2.2.2.1]; show nI (kp ++ l0.drop kp.length).length = _; rw [hlen]
    have hil : i < l0.length := by omega
    have hki : l0.getD i 0 < p_L P := by
      refine hl _ ?_
      rw [List.getD_eq_getElem?_getD, List.getElem?_eq_getElem hil]
      exact List.getElem_mem _
    have hL := hH.2.2.2.2.2.2.2.2.1
    have hR := hH.2.2.2.2.1
    have p8 := zP8 hp
    have s8' : gI S (p + 4) i = nI (l0.getD i 0) := by
      rw [hs.2.2.2.2.2.2.2.2 i (by show i < (kp ++ l0.drop kp.length).length; rw [hlen]; omega)]
      show nI ((kp ++ l0.drop kp.length).getD i 0) = _
      rw [List.getD_eq_getElem?_getD, List.getElem?_append_right hk, List.getElem?_drop, List.getD_eq_getElem?_getD]
      rw [show kp.length + (i - kp.length) = i by omega]
    obtain ⟨S1, a1, a2, a3⟩ := c33 (d := d) (k := l0.getD i 0) hH hp hs hB hki
    have hH1 : cH S1 q P := hH.on a2 (fun c k a b => by unfold pD at b; omega)
    rw [q_in_setl] at a1 a3
    rw [q_dropc hil, q_seat]
    cases hin : q_in P s (l0.getD i 0) with
    | some s' =>
      rw [hin] at a1 a3
      simp (disch := omega) only [ni_lit, nI_add, pk_mul, pk_sub, pk_div, nI_leI, nI_ltI, nI_eq, nI_clamp, ni_in, ni_inm, ni_ltm, ni_mlt, ni_lem, ni_mle, ni_eqm, ni_meq, ni_mm, ni_mmle, ni_bit, ni_shl, ni_clr, fa_or, Nat.add_zero, Nat.zero_add, Nat.zero_mul, Nat.mul_zero, eOn, eOs, if_true, if_false, not_true_eq_false, not_false_eq_true, ite_true, ite_false, true_and, and_true, false_and, and_false, or_true, true_or, or_false, false_or, Bool.false_eq_true, reduceIte, Bool.not_true, Bool.not_false, and_self, or_self, q_ef, q_et, q_ltt, q_ltf, q_let, q_lef, gIs, gIl, gIr, gLs, gLl, gLr, gPs, gPl, gPr, gLc, gPc, zb_some, Option.bind_some, q_nm, q_pm, q_hm, q_tm, q_sm, q_wm, q_ym, q_lm, q_ua, s4', s8', a1, Option.map_some, Option.isSome_some, bIt, b36_41_eq (d + 2) p _ _ S1 hH1.1 hp] at e
      obtain ⟨x, hx1, hx2, hx3⟩ := q_in_bed hin
      have ff := hH.2.2.2.2.2.2.2.2.2.2.2.1 _ hki
      have hB1 : q_Bd (q_setl s' (kp ++ l0.drop kp.length)) := by
        rw [hx3]
        exact q_Bd.bed hB (by omega) (by rcases hx1 with z | z <;> omega)
      obtain ⟨S2, b1, b2, b3⟩ := c36_l hp hl6 hl m (i + 1) kp s' S1 (by omega) (by omega) hH1 a3 hB1
      exact ⟨S2, e.trans b1, a2.trans b2, b3⟩
    | none =>
      rw [hin] at a1 a3
      have hW2 : z_W (sI S1 (p + 4) kp.length (nI (l0.getD i 0))) := hH1.1
      simp (disch := omega) only [ni_lit, nI_add, pk_mul, pk_sub, pk_div, nI_leI, nI_ltI, nI_eq, nI_clamp, ni_in, ni_inm, ni_ltm, ni_mlt, ni_lem, ni_mle, ni_eqm, ni_meq, ni_mm, ni_mmle, ni_bit, ni_shl, ni_clr, fa_or, Nat.add_zero, Nat.zero_add, Nat.zero_mul, Nat.mul_zero, eOn, eOs, if_true, if_false, not_true_eq_false, not_false_eq_true, ite_true, ite_false, true_and, and_true, false_and, and_false, or_true, true_or, or_false, false_or, Bool.false_eq_true, reduceIte, Bool.not_true, Bool.not_false, and_self, or_self, q_ef, q_et, q_ltt, q_ltf, q_let, q_lef, gIs, gIl, gIr, gLs, gLl, gLr, gPs, gPl, gPr, gLc, gPc, zb_some, Option.bind_some, q_nm, q_pm, q_hm, q_tm, q_sm, q_wm, q_ym, q_lm, q_ua, s4', s8', a1, Option.map_none, Option.isSome_none, bIf, b36_41_eq (d + 2) p _ _ _ hW2 hp] at e
      have ho2 : onI (pD p) S1 (sI S1 (p + 4) kp.length (nI (l0.getD i 0))) := onI_sI (onI.refl hH1.1) ⟨by omega, by omega⟩
      have hl2 : (kp ++ [l0.getD i 0]).length = kp.length + 1 := by simp
      have hset : ∀ j, (kp ++ [l0.getD i 0] ++ l0.drop (kp.length + 1)).getD j 0 = if j = kp.length then l0.getD i 0 else (kp ++ l0.drop kp.length).getD j 0 := fun j => by
        rw [List.getD_eq_getElem?_getD, List.getD_eq_getElem?_getD (l := kp ++ l0.drop kp.length)]
        by_cases z : j = kp.length
        · rw [if_pos z, z, List.append_assoc, List.getElem?_append_right (Nat.le_refl _)]; simp
        · rw [if_neg z]
          rcases Nat.lt_or_ge j kp.length with y | y
          · rw [List.append_assoc, List.getElem?_append_left y, List.getElem?_append_left y]
          · rw [List.getElem?_append_right (by rw [hl2]; omega), List.getElem?_append_right y, List.getElem?_drop, List.getElem?_drop, hl2]
            congr 2
            omega
      have hlen2 : (kp ++ [l0.getD i 0] ++ l0.drop (kp.length + 1)).length = l0.length := by rw [List.length_append, hl2, List.length_drop]; omega
      have hs2 : cSt (sI S1 (p + 4) kp.length (nI (l0.getD i 0))) p 16 (q_setl s (kp ++ [l0.getD i 0] ++ l0.drop (kp ++ [l0.getD i 0]).length)) := by
        rw [hl2]
        obtain ⟨s0, s1, s2, s3, s4, s5, s6, s7, s8⟩ := a3
        refine ⟨?_, ?_, ?_, ?_, ?_, fun j hj => ?_, fun j hj hg => ?_, fun j hj hg => ?_, fun j hj => ?_⟩
        · simp (disch := omega) only [ni_lit, nI_add, pk_mul, pk_sub, pk_div, nI_leI, nI_ltI, nI_eq, nI_clamp, ni_in, ni_inm, ni_ltm, ni_mlt, ni_lem, ni_mle, ni_eqm, ni_meq, ni_mm, ni_mmle, ni_bit, ni_shl, ni_clr, fa_or, Nat.add_zero, Nat.zero_add, Nat.zero_mul, Nat.mul_zero, eOn, eOs, if_true, if_false, not_true_eq_false, not_false_eq_true, ite_true, ite_false, true_and, and_true, false_and, and_false, or_true, true_or, or_false, false_or, Bool.false_eq_true, reduceIte, Bool.not_true, Bool.not_false, and_self, or_self, q_ef, q_et, q_ltt, q_ltf, q_let, q_lef, gIs, gIl, gIr, gLs, gLl, gLr, gPs, gPl, gPr, gLc, gPc, zb_some, Option.bind_some, q_nm, q_pm, q_hm, q_tm, q_sm, q_wm, q_ym, q_lm, q_ua, s0]; rfl
        · simp (disch := omega) only [ni_lit, nI_add, pk_mul, pk_sub, pk_div, nI_leI, nI_ltI, nI_eq, nI_clamp, ni_in, ni_inm, ni_ltm, ni_mlt, ni_lem, ni_mle, ni_eqm, ni_meq, ni_mm, ni_mmle, ni_bit, ni_shl, ni_clr, fa_or, Nat.add_zero, Nat.zero_add, Nat.zero_mul, Nat.mul_zero, eOn, eOs, if_true, if_false, not_true_eq_false, not_false_eq_true, ite_true, ite_false, true_and, and_true, false_and, and_false, or_true, true_or, or_false, false_or, Bool.false_eq_true, reduceIte, Bool.not_true, Bool.not_false, and_self, or_self, q_ef, q_et, q_ltt, q_ltf, q_let, q_lef, gIs, gIl, gIr, gLs, gLl, gLr, gPs, gPl, gPr, gLc, gPc, zb_some, Option.bind_some, q_nm, q_pm, q_hm, q_tm, q_sm, q_wm, q_ym, q_lm, q_ua, s1]; rfl
        · simp (disch := omega) only [ni_lit, nI_add, pk_mul, pk_sub, pk_div, nI_leI, nI_ltI, nI_eq, nI_clamp, ni_in, ni_inm, ni_ltm, ni_mlt, ni_lem, ni_mle, ni_eqm, ni_meq, ni_mm, ni_mmle, ni_bit, ni_shl, ni_clr, fa_or, Nat.add_zero, Nat.zero_add, Nat.zero_mul, Nat.mul_zero, eOn, eOs, if_true, if_false, not_true_eq_false, not_false_eq_true, ite_true, ite_false, true_and, and_true, false_and, and_false, or_true, true_or, or_false, false_or, Bool.false_eq_true, reduceIte, Bool.not_true, Bool.not_false, and_self, or_self, q_ef, q_et, q_ltt, q_ltf, q_let, q_lef, gIs, gIl, gIr, gLs, gLl, gLr, gPs, gPl, gPr, gLc, gPc, zb_some, Option.bind_some, q_nm, q_pm, q_hm, q_tm, q_sm, q_wm, q_ym, q_lm, q_ua, s2]; rfl
        · simp (disch := omega) only [ni_lit, nI_add, pk_mul, pk_sub, pk_div, nI_leI, nI_ltI, nI_eq, nI_clamp, ni_in, ni_inm, ni_ltm, ni_mlt, ni_lem, ni_mle, ni_eqm, ni_meq, ni_mm, ni_mmle, ni_bit, ni_shl, ni_clr, fa_or, Nat.add_zero, Nat.zero_add, Nat.zero_mul, Nat.mul_zero, eOn, eOs, if_true, if_false, not_true_eq_false, not_false_eq_true, ite_true, ite_false, true_and, and_true, false_and, and_false, or_true, true_or, or_false, false_or, Bool.false_eq_true, reduceIte, Bool.not_true, Bool.not_false, and_self, or_self, q_ef, q_et, q_ltt, q_ltf, q_let, q_lef, gIs, gIl, gIr, gLs, gLl, gLr, gPs, gPl, gPr, gLc, gPc, zb_some, Option.bind_some, q_nm, q_pm, q_hm, q_tm, q_sm, q_wm, q_ym, q_lm, q_ua, s3]; rfl
        · simp (disch := omega) only [ni_lit, nI_add, pk_mul, pk_sub, pk_div, nI_leI, nI_ltI, nI_eq, nI_clamp, ni_in, ni_inm, ni_ltm, ni_mlt, ni_lem, ni_mle, ni_eqm, ni_meq, ni_mm, ni_mmle, ni_bit, ni_shl, ni_clr, fa_or, Nat.add_zero, Nat.zero_add, Nat.zero_mul, Nat.mul_zero, eOn, eOs, if_true, if_false, not_true_eq_false, not_false_eq_true, ite_true, ite_false, true_and, and_true, false_and, and_false, or_true, true_or, or_false, false_or, Bool.false_eq_true, reduceIte, Bool.not_true, Bool.not_false, and_self, or_self, q_ef, q_et, q_ltt, q_ltf, q_let, q_lef, gIs, gIl, gIr, gLs, gLl, gLr, gPs, gPl, gPr, gLc, gPc, zb_some, Option.bind_some, q_nm, q_pm, q_hm, q_tm, q_sm, q_wm, q_ym, q_lm, q_ua, s4]
          show nI (kp ++ l0.drop kp.length).length = nI (kp ++ [l0.getD i 0] ++ l0.drop (kp.length + 1)).length
          rw [hlen, hlen2]
        · simp (disch := omega) only [ni_lit, nI_add, pk_mul, pk_sub, pk_div, nI_leI, nI_ltI, nI_eq, nI_clamp, ni_in, ni_inm, ni_ltm, ni_mlt, ni_lem, ni_mle, ni_eqm, ni_meq, ni_mm, ni_mmle, ni_bit, ni_shl, ni_clr, fa_or, Nat.add_zero, Nat.zero_add, Nat.zero_mul, Nat.mul_zero, eOn, eOs, if_true, if_false, not_true_eq_false, not_false_eq_true, ite_true, ite_false, true_and, and_true, false_and, and_false, or_true, true_or, or_false, false_or, Bool.false_eq_true, reduceIte, Bool.not_true, Bool.not_false, and_self, or_self, q_ef, q_et, q_ltt, q_ltf, q_let, q_lef, gIs, gIl, gIr, gLs, gLl, gLr, gPs, gPl, gPr, gLc, gPc, zb_some, Option.bind_some, q_nm, q_pm, q_hm, q_tm, q_sm, q_wm, q_ym, q_lm, q_ua, s5 j hj]; rfl
        · simp (disch := omega) only [ni_lit, nI_add, pk_mul, pk_sub, pk_div, nI_leI, nI_ltI, nI_eq, nI_clamp, ni_in, ni_inm, ni_ltm, ni_mlt, ni_lem, ni_mle, ni_eqm, ni_meq, ni_mm, ni_mmle, ni_bit, ni_shl, ni_clr, fa_or, Nat.add_zero, Nat.zero_add, Nat.zero_mul, Nat.mul_zero, eOn, eOs, if_true, if_false, not_true_eq_false, not_false_eq_true, ite_true, ite_false, true_and, and_true, false_and, and_false, or_true, true_or, or_false, false_or, Bool.false_eq_true, reduceIte, Bool.not_true, Bool.not_false, and_self, or_self, q_ef, q_et, q_ltt, q_ltf, q_let, q_lef, gIs, gIl, gIr, gLs, gLl, gLr, gPs, gPl, gPr, gLc, gPc, zb_some, Option.bind_some, q_nm, q_pm, q_hm, q_tm, q_sm, q_wm, q_ym, q_lm, q_ua, s6 j hj hg]; rfl
        · simp (disch := omega) only [ni_lit, nI_add, pk_mul, pk_sub, pk_div, nI_leI, nI_ltI, nI_eq, nI_clamp, ni_in, ni_inm, ni_ltm, ni_mlt, ni_lem, ni_mle, ni_eqm, ni_meq, ni_mm, ni_mmle, ni_bit, ni_shl, ni_clr, fa_or, Nat.add_zero, Nat.zero_add, Nat.zero_mul, Nat.mul_zero, eOn, eOs, if_true, if_false, not_true_eq_false, not_false_eq_true, ite_true, ite_false, true_and, and_true, false_and, and_false, or_true, true_or, or_false, false_or, Bool.false_eq_true, reduceIte, Bool.not_true, Bool.not_false, and_self, or_self, q_ef, q_et, q_ltt, q_ltf, q_let, q_lef, gIs, gIl, gIr, gLs, gLl, gLr, gPs, gPl, gPr, gLc, gPc, zb_some, Option.bind_some, q_nm, q_pm, q_hm, q_tm, q_sm, q_wm, q_ym, q_lm, q_ua, s7 j hj hg]; rfl
        · show _ = nI ((kp ++ [l0.getD i 0] ++ l0.drop (kp.length + 1)).getD j 0)
          have hj2 : j < l0.length := by rw [← hlen2]; exact hj
          rw [hset j]
          by_cases z : j = kp.length
          · simp (disch := omega) only [ni_lit, nI_add, pk_mul, pk_sub, pk_div, nI_leI, nI_ltI, nI_eq, nI_clamp, ni_in, ni_inm, ni_ltm, ni_mlt, ni_lem, ni_mle, ni_eqm, ni_meq, ni_mm, ni_mmle, ni_bit, ni_shl, ni_clr, fa_or, Nat.add_zero, Nat.zero_add, Nat.zero_mul, Nat.mul_zero, eOn, eOs, if_true, if_false, not_true_eq_false, not_false_eq_true, ite_true, ite_false, true_and, and_true, false_and, and_false, or_true, true_or, or_false, false_or, Bool.false_eq_true, reduceIte, Bool.not_true, Bool.not_false, and_self, or_self, q_ef, q_et, q_ltt, q_ltf, q_let, q_lef, gIs, gIl, gIr, gLs, gLl, gLr, gPs, gPl, gPr, gLc, gPc, zb_some, Option.bind_some, q_nm, q_pm, q_hm, q_tm, q_sm, q_wm, q_ym, q_lm, q_ua]
          · have h8 := s8 j (by show j < (kp ++ l0.drop kp.length).length; rw [hlen]; omega)
            simp (disch := omega) only [ni_lit, nI_add, pk_mul, pk_sub, pk_div, nI_leI, nI_ltI, nI_eq, nI_clamp, ni_in, ni_inm, ni_ltm, ni_mlt, ni_lem, ni_mle, ni_eqm, ni_meq, ni_mm, ni_mmle, ni_bit, ni_shl, ni_clr, fa_or, Nat.add_zero, Nat.zero_add, Nat.zero_mul, Nat.mul_zero, eOn, eOs, if_true, if_false, not_true_eq_false, not_false_eq_true, ite_true, ite_false, true_and, and_true, false_and, and_false, or_true, true_or, or_false, false_or, Bool.false_eq_true, reduceIte, Bool.not_true, Bool.not_false, and_self, or_self, q_ef, q_et, q_ltt, q_ltf, q_let, q_lef, gIs, gIl, gIr, gLs, gLl, gLr, gPs, gPl, gPr, gLc, gPc, zb_some, Option.bind_some, q_nm, q_pm, q_hm, q_tm, q_sm, q_wm, q_ym, q_lm, q_ua, h8]
            rfl
      have hB2 : q_Bd (q_setl s (kp ++ [l0.getD i 0] ++ l0.drop (kp ++ [l0.getD i 0]).length)) := by
        obtain ⟨g1, g2, g3, g4, g5, g6, g7, g8, g9⟩ := hB
        refine ⟨g1, g2, ?_, g4, g5, g6, g7, g8, fun k hk2 => ?_⟩
        · show (kp ++ [l0.getD i 0] ++ l0.drop (kp ++ [l0.getD i 0]).length).length ≤ 6
          rw [hl2, hlen2]; exact hl6
        · have hk3 : k ∈ kp ++ [l0.getD i 0] ++ l0.drop (kp ++ [l0.getD i 0]).length := hk2
          rcases List.mem_append.mp hk3 with z | z
          · rcases List.mem_append.mp z with y | y
            · exact g9 k (List.mem_append.mpr (Or.inl y))
            · rw [List.mem_singleton] at y; omega
          · have := hl k (List.mem_of_mem_drop z); omega
      obtain ⟨S2, b1, b2, b3⟩ := c36_l hp hl6 hl m (i + 1) (kp ++ [l0.getD i 0]) s _ (by omega) (by rw [hl2]; omega) (hH1.on ho2 (fun c k a b => by unfold pD at b; omega)) hs2 hB2
      rw [hl2] at b1
      exact ⟨S2, e.trans b1, (a2.trans ho2).trans b2, b3⟩
theorem c36 (hH : cH S q P) (hp : z_K p = 8) (hs : cSt S p 16 s) (hG : q_Gd P s) : ∃ S', fV (d + 3) 36 [.ref 22, .ref p] S = some S' ∧ onI (pD p) S S' ∧ cSt S' p 16 (q_seat P (q_l s) [] s) ∧ q_Gd P (q_seat P (q_l s) [] s) := by
  have hB := hG.Bd hH.2.2.2.2
  have e := e36 (d + 2) p S hH.1 hp
  obtain ⟨S', a1, a2, a3⟩ := c36_l (d := d) (l0 := q_l s) (P := P) hp hB.2.2.1 hG.2.2.2.2.2.2.2.2.1 (q_l s).length 0 [] s S (by omega) (Nat.le_refl _) hH hs hB
  exact ⟨S', e.trans a1, a2, a3, q_seat_G hH.2.2.2.2 _ _ _ hG⟩
end QN
