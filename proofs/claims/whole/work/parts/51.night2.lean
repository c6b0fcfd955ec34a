/-! THE HOUSE: rents, stays, who leaves; a whole night; what must move. -/
theorem c279i {d : Nat} {S : z_S} {a b : Int} (hW : z_W S) (ha : iS a) (hb : iS b) : fI (d + 1) 279 [.int (iI a), .int (iI b)] S = some (iI (if b < a then b else a), S) := by
  unfold iS at ha hb
  rw [e279 d (iI a) (iI b) S hW]
  by_cases h : b < a
  · rw [if_pos ((iI_lt (by omega) (by omega) (by omega) (by omega)).mpr h), if_pos h]
  · rw [if_neg (fun z => h ((iI_lt (by omega) (by omega) (by omega) (by omega)).mp z)), if_neg h]
theorem c277i {d : Nat} {S : z_S} {a b : Int} (hW : z_W S) (ha : iS a) (hb : iS b) : fI (d + 1) 277 [.int (iI a), .int (iI b)] S = some (iI (if a < b then b else a), S) := by
  unfold iS at ha hb
  rw [e277 d (iI a) (iI b) S hW]
  by_cases h : a < b
  · rw [if_pos ((iI_lt (by omega) (by omega) (by omega) (by omega)).mpr h), if_pos h]
  · rw [if_neg (fun z => h ((iI_lt (by omega) (by omega) (by omega) (by omega)).mp z)), if_neg h]
/-- what a sleeper pays -/
def q_clp (v : Int) : Nat := if v < 0 then 0 else if 99 < v then 99 else v.toNat
def q_rent (P : q_Pl) (s : q_St) (r k : Nat) : Nat := if (p_d P 2).isEmpty then 1 else q_clp (q_val (q_env P s r k (if p_f P k = r then 1 else 0)) (p_d P 2))
def q_pay (P : q_Pl) (s : q_St) (r : Nat) : Nat := match q_s s r with
  | none => 0
  | some k => q_rent P s r k
def q_paid (P : q_Pl) (s : q_St) : Nat → Nat := fb_sm (q_pay P s)
theorem q_clp_le (v : Int) : q_clp v ≤ 99 := by
  unfold q_clp
  (repeat' split) <;> omega
theorem q_pay_le (P : q_Pl) (s : q_St) (r : Nat) : q_pay P s r ≤ 99 := by
  unfold q_pay
  split
  · omega
  · unfold q_rent
    split
    · omega
    · exact q_clp_le _
theorem q_paid_le (P : q_Pl) (s : q_St) (n : Nat) : q_paid P s n ≤ n * 99 := by
  have h := fb_sm_le (f := q_pay P s) (g := fun _ => 99) (n := n) (fun k _ => q_pay_le P s k)
  rw [fb_sm_const] at h
  exact h
def q_setp (s : q_St) (x : Nat) : q_St := (q_n s, x, q_h s, q_t s, q_s s, q_w s, q_y s, q_l s)
def q_sety (s : q_St) (y : Nat → Nat) : q_St := (q_n s, q_p s, q_h s, q_t s, q_s s, q_w s, y, q_l s)
def q_setn (s : q_St) (n : Nat) : q_St := (n, q_p s, q_h s, q_t s, q_s s, q_w s, q_y s, q_l s)
/-- the first j lodgers have stayed a night more -/
def q_yj (s : q_St) (j : Nat) : Nat → Nat := fun k => if k < j ∧ q_w s k < 16 then min 99 (q_y s k + 1) else q_y s k
/-- the first j lodgers have left, if they leave -/
def q_lv (P : q_Pl) (s : q_St) : Nat → q_St
  | 0 => s
  | j + 1 => if q_w (q_lv P s j) j < 16 ∧ q_val (q_env P (q_lv P s j) (q_w (q_lv P s j) j) j (q_l (q_lv P s j)).length) (p_d P 1) ≠ 0 then q_away (q_lv P s j) j else q_lv P s j
/-- behind the bench and what is paid -/
def q_end (P : q_Pl) (s : q_St) : q_St := q_setn (if (p_d P 1).isEmpty then q_sety s (q_yj s (p_L P)) else q_lv P (q_sety s (q_yj s (p_L P))) (p_L P)) (min 999 (q_n s + 1))
def q_nt (P : q_Pl) (b : Bool) (s : q_St) : q_St := q_end P (if b then q_setp (q_seat P (q_l s) [] s) (min 999999 (q_p s + q_paid P (q_seat P (q_l s) [] s) (p_R P))) else q_seat P (q_l s) [] s)
def q_ntp (P : q_Pl) (s : q_St) : Nat := q_paid P (q_seat P (q_l s) [] s) (p_R P)
theorem q_Gd.setp {P : q_Pl} {s : q_St} (h : q_Gd P s) {x : Nat} (hx : x ≤ 999999) : q_Gd P (q_setp s x) := by
  obtain ⟨g1, g2, g3, g4, g5, g6, g7, g8, g9, g10, g11, g12, g13, g14⟩ := h
  exact ⟨g1, g2, g3, g4, g5, g6, g7, g8, g9, g10, g11, g12, g13, hx⟩
theorem q_Gd.setn {P : q_Pl} {s : q_St} (h : q_Gd P s) {x : Nat} (hx : x ≤ 1000) : q_Gd P (q_setn s x) := by
  obtain ⟨g1, g2, g3, g4, g5, g6, g7, g8, g9, g10, g11, g12, g13, g14⟩ := h
  exact ⟨g1, g2, g3, g4, g5, g6, g7, g8, g9, g10, g11, g12, hx, g14⟩
theorem q_Gd.sety {P : q_Pl} {s : q_St} (h : q_Gd P s) (j : Nat) : q_Gd P (q_sety s (q_yj s j)) := by
  obtain ⟨g1, g2, g3, g4, g5, g6, g7, g8, g9, g10, g11, g12, g13, g14⟩ := h
  refine ⟨g1, g2, g3, g4, g5, g6, g7, g8, g9, g10, fun k => ?_, g12, g13, g14⟩
  show q_yj s j k ≤ 99 ∧ (16 ≤ q_w s k → q_yj s j k = 0)
  have := g11 k
  unfold q_yj
  split
  · exact ⟨by omega, fun z => by omega⟩
  · exact this
theorem q_lv_G {P : q_Pl} {s : q_St} (hP : p_Wf P) (h : q_Gd P s) : ∀ j, q_Gd P (q_lv P s j)
  | 0 => h
  | j + 1 => by
    rw [q_lv]
    split
    · exact ((q_lv_G hP h j).away hP j).1
    · exact q_lv_G hP h j
theorem q_away_n (s : q_St) (k : Nat) : q_n (q_away s k) = q_n s ∧ q_p (q_away s k) = q_p s ∧ q_h (q_away s k) = q_h s := by
  unfold q_away
  split
  · exact ⟨rfl, rfl, rfl⟩
  · exact ⟨rfl, rfl, rfl⟩
theorem q_lv_n (P : q_Pl) (s : q_St) : ∀ j, q_n (q_lv P s j) = q_n s ∧ q_p (q_lv P s j) = q_p s ∧ q_h (q_lv P s j) = q_h s
  | 0 => ⟨rfl, rfl, rfl⟩
  | j + 1 => by
    rw [q_lv]
    have ih := q_lv_n P s j
    split
    · have := q_away_n (q_lv P s j) j
      exact ⟨this.1.trans ih.1, this.2.1.trans ih.2.1, this.2.2.trans ih.2.2⟩
    · exact ih
theorem q_end_G {P : q_Pl} {s : q_St} (hP : p_Wf P) (h : q_Gd P s) : q_Gd P (q_end P s) := by
  unfold q_end
  refine q_Gd.setn ?_ (by omega)
  split
  · exact h.sety _
  · exact q_lv_G hP (h.sety _) _
theorem q_seat_n (P : q_Pl) : ∀ (r kp : List Nat) (s : q_St), q_n (q_seat P r kp s) = q_n s ∧ q_p (q_seat P r kp s) = q_p s ∧ q_h (q_seat P r kp s) = q_h s
  | [], kp, s => ⟨rfl, rfl, rfl⟩
  | k :: r, kp, s => by
    rw [q_seat]
    cases hi : q_in P s k with
    | some s' =>
      obtain ⟨x, _, _, hx⟩ := q_in_bed hi
      have := q_seat_n P r kp s'
      rw [hx] at this
      rw [hx]
      exact this
    | none => exact q_seat_n P r (kp ++ [k]) s
theorem q_nt_G {P : q_Pl} {s : q_St} {b : Bool} (hP : p_Wf P) (h : q_Gd P s) : q_Gd P (q_nt P b s) := by
  have h1 : q_Gd P (q_seat P (q_l s) [] s) := q_seat_G hP _ _ _ h
  unfold q_nt
  refine q_end_G hP ?_
  split
  · exact h1.setp (by omega)
  · exact h1
section QN
variable {d q p : Nat} {S : z_S} {P : q_Pl} {s : q_St}
theorem c37_71 {r k own n : Nat} (hH : cH S q P) (hp : z_K p = 8) (hs : cSt S p 16 s) (hG : q_Gd P s) (hk : q_s s r = some k) (ho : own ≤ 1) (hd : (p_d P 2).isEmpty = false) : ∃ S', b37_71 (d + 5) p (nI n) (nI r) (nI own) (nI k) p (nI 2) q S = b37_102 (d + 5) p (nI (n + q_clp (q_val (q_env P s r k own) (p_d P 2)))) (nI r) S' ∧ onI (fun c _ => c = 23 ∨ c = 24) S S' := by
  obtain ⟨hW, hq, hgp, hC, hP⟩ := hH
  obtain ⟨v1, v2, v3, v4⟩ := hG.sl hP hk
  have hL := hP.2.2.2.2.1
  have hR := hP.1
  have hty : q_tyL (p_d P 2) [] = some [false] := by
    rcases hP.2.2.2.2.2.2.2.2.2.2.2.2.2.1 with z | z
    · rw [z] at hd; cases hd
    · exact z
  obtain ⟨S', b1, b2⟩ := c68 (d := d + 1) (w := 2) (k := k) (own := own) hW hq hp hC hP hs (hG.Bd hP) (by omega) (by omega) (by omega) (by omega) (hG.pc hP) hty
  rw [v3] at b1
  have hvt := (q_val_VT (e := q_env P s r k own) (q_env_S hP (hG.Bd hP) (by omega) (by omega)) hty).1
  have hv := hvt
  unfold iS at hv
  refine ⟨S', ?_, b2⟩
  have h99 : iS 99 := by unfold iS; omega
  have h0 : iS 0 := by unfold iS; omega
  have hm : iS (if q_val (q_env P s r k own) (p_d P 2) < 99 then q_val (q_env P s r k own) (p_d P 2) else 99) := by
    split
    · exact hvt
    · exact h99
  have hc : iI (if 0 < (if q_val (q_env P s r k own) (p_d P 2) < 99 then q_val (q_env P s r k own) (p_d P 2) else 99) then (if q_val (q_env P s r k own) (p_d P 2) < 99 then q_val (q_env P s r k own) (p_d P 2) else 99) else 0) = nI (q_clp (q_val (q_env P s r k own) (p_d P 2))) := by
    rw [iI_n]
    unfold q_clp
    congr 1
    (repeat' split) <;> omega
  rw [b37_71_eq (d + 5) p (nI n) (nI r) (nI own) (nI k) p (nI 2) q S hW hp hp hq, b1, zb_some, show (99 : Int32) = iI 99 by rfl, c279i (d := d + 4) b2.W h99 hvt, zb_some, show (0 : Int32) = iI 0 by rfl, c277i (d := d + 4) b2.W h0 hm, zb_some, hc, nI_add]
theorem c37_l (hp : z_K p = 8) (hG : q_Gd P s) : ∀ (m i : Nat) (S : z_S), i + m = p_R P → cH S q P → cSt S p 16 s → ∃ S', b37_4 (d + 5) p (nI (q_paid P s i)) (nI i) S = some (nI (q_paid P s (p_R P)), S') ∧ onI (hD p) S S' ∧ cSt S' p 16 (q_setp s (min 999999 (q_p s + q_paid P s (p_R P))))
  | 0, i, S, hi, hH, hs => by
    have e := b37_4_eq (d + 5) p (nI (q_paid P s i)) (nI i) S hH.1 hp
    have hR := hH.2.2.2.2.1
    have hq6 := zP6 hH.2.1
    have p8 := zP8 hp
    have hiR : i = p_R P := by omega
    subst hiR
    have hpl := q_paid_le P s (p_R P)
    have hpp := hG.2.2.2.2.2.2.2.2.2.2.2.2.2
    have g1 := hH.2.2.2.1.2.1
    have a1 := c279 (d := d + 4) (a := 999999) (b := q_p s + q_paid P s (p_R P)) (S := S) hH.1 (by omega) (by omega)
    simp (disch := omega) only [ni_lit, nI_add, pk_mul, pk_sub, pk_div, nI_leI, nI_ltI, nI_eq, nI_clamp, ni_in, ni_inm, ni_ltm, ni_mlt, ni_lem, ni_mle, ni_eqm, ni_meq, ni_mm, ni_mmle, ni_bit, ni_shl, ni_clr, fa_or, Nat.add_zero, Nat.zero_add, Nat.zero_mul, Nat.mul_zero, eOn, eOs, if_true, if_false, not_true_eq_false, not_false_eq_true, ite_true, ite_false, true_and, and_true, false_and, and_false, or_true, true_or, or_false, false_or, Bool.false_eq_true, reduceIte, Bool.not_true, Bool.not_false, and_self, or_self, q_ef, q_et, q_ltt, q_ltf, q_let, q_lef, gIs, gIl, gIr, gLs, gLl, gLr, gPs, gPl, gPr, gLc, gPc, zb_some, Option.bind_some, q_nm, q_pm, q_hm, q_tm, q_sm, q_wm, q_ym, q_lm, q_ua, hH.2.2.1, g1, hs.2.1, a1] at e
    refine ⟨_, e, onI_sI (onI.refl hH.1) (Or.inl (by omega)), ?_⟩
    obtain ⟨s0, s1, s2, s3, s4, s5, s6, s7, s8⟩ := hs
    refine ⟨?_, ?_, ?_, ?_, ?_, fun j hj => ?_, fun j hj hg => ?_, fun j hj hg => ?_, fun j hj => ?_⟩
    · simp (disch := omega) only [ni_lit, nI_add, pk_mul, pk_sub, pk_div, nI_leI, nI_ltI, nI_eq, nI_clamp, ni_in, ni_inm, ni_ltm, ni_mlt, ni_lem, ni_mle, ni_eqm, ni_meq, ni_mm, ni_mmle, ni_bit, ni_shl, ni_clr, fa_or, Nat.add_zero, Nat.zero_add, Nat.zero_mul, Nat.mul_zero, eOn, eOs, if_true, if_false, not_true_eq_false, not_false_eq_true, ite_true, ite_false, true_and, and_true, false_and, and_false, or_true, true_or, or_false, false_or, Bool.false_eq_true, reduceIte, Bool.not_true, Bool.not_false, and_self, or_self, q_ef, q_et, q_ltt, q_ltf, q_let, q_lef, gIs, gIl, gIr, gLs, gLl, gLr, gPs, gPl, gPr, gLc, gPc, zb_some, Option.bind_some, q_nm, q_pm, q_hm, q_tm, q_sm, q_wm, q_ym, q_lm, q_ua, s0]; rfl
    · simp (disch := omega) only [ni_lit, nI_add, pk_mul, pk_sub, pk_div, nI_leI, nI_ltI, nI_eq, nI_clamp, ni_in, ni_inm, ni_ltm, ni_mlt, ni_lem, ni_mle, ni_eqm, ni_meq, ni_mm, ni_mmle, ni_bit, ni_shl, ni_clr, fa_or, Nat.add_zero, Nat.zero_add, Nat.zero_mul, Nat.mul_zero, eOn, eOs, if_true, if_false, not_true_eq_false, not_false_eq_true, ite_true, ite_false, true_and, and_true, false_and, and_false, or_true, true_or, or_false, false_or, Bool.false_eq_true, reduceIte, Bool.not_true, Bool.not_false, and_self, or_self, q_ef, q_et, q_ltt, q_ltf, q_let, q_lef, gIs, gIl, gIr, gLs, gLl, gLr, gPs, gPl, gPr, gLc, gPc, zb_some, Option.bind_some, q_nm, q_pm, q_hm, q_tm, q_sm, q_wm, q_ym, q_lm, q_ua]; rfl
    · simp (disch := omega) only [ni_lit, nI_add, pk_mul, pk_sub, pk_div, nI_leI, nI_ltI, nI_eq, nI_clamp, ni_in, ni_inm, ni_ltm, ni_mlt, ni_lem, ni_mle, ni_eqm, ni_meq, ni_mm, ni_mmle, ni_bit, ni_shl, ni_clr, fa_or, Nat.add_zero, Nat.zero_add, Nat.zero_mul, Nat.mul_zero, eOn, eOs, if_true, if_false, not_true_eq_false, not_false_eq_true, ite_true, ite_false, true_and, and_true, false_and, and_false, or_true, true_or, or_false, false_or, Bool.false_eq_true, reduceIte, Bool.not_true, Bool.not_false, and_self, or_self, q_ef, q_et, q_ltt, q_ltf, q_let, q_lef, gIs, gIl, gIr, gLs, gLl, gLr, gPs, gPl, gPr, gLc, gPc, zb_some, Option.bind_some, q_nm, q_pm, q_hm, q_tm, q_sm, q_wm, q_ym, q_lm, q_ua, s2]; rfl
    · simp (disch := omega) only [ni_lit, nI_add, pk_mul, pk_sub, pk_div, nI_leI, nI_ltI, nI_eq, nI_clamp, ni_in, ni_inm, ni_ltm, ni_mlt, ni_lem, ni_mle, ni_eqm, ni_meq, ni_mm, ni_mmle, ni_bit, ni_shl, ni_clr, fa_or, Nat.add_zero, Nat.zero_add, Nat.zero_mul, Nat.mul_zero, eOn, eOs, if_true, if_false, not_true_eq_false, not_false_eq_true, ite_true, ite_false, true_and, and_true, false_and, and_false, or_true, true_or, or_false, false_or, Bool.false_eq_true, reduceIte, Bool.not_true, Bool.not_false, and_self, or_self, q_ef, q_et, q_ltt, q_ltf, q_let, q_lef, gIs, gIl, gIr, gLs, gLl, gLr, gPs, gPl, gPr, gLc, gPc, zb_some, Option.bind_some, q_nm, q_pm, q_hm, q_tm, q_sm, q_wm, q_ym, q_lm, q_ua, s3]; rfl
    · simp (disch := omega) only [ni_lit, nI_add, pk_mul, pk_sub, pk_div, nI_leI, nI_ltI, nI_eq, nI_clamp, ni_in, ni_inm, ni_ltm, ni_mlt, ni_lem, ni_mle, ni_eqm, ni_meq, ni_mm, ni_mmle, ni_bit, ni_shl, ni_clr, fa_or, Nat.add_zero, Nat.zero_add, Nat.zero_mul, Nat.mul_zero, eOn, eOs, if_true, if_false, not_true_eq_false, not_false_eq_true, ite_true, ite_false, true_and, and_true, false_and, and_false, or_true, true_or, or_false, false_or, Bool.false_eq_true, reduceIte, Bool.not_true, Bool.not_false, and_self, or_self, q_ef, q_et, q_ltt, q_ltf, q_let, q_lef, gIs, gIl, gIr, gLs, gLl, gLr, gPs, gPl, gPr, gLc, gPc, zb_some, Option.bind_some, q_nm, q_pm, q_hm, q_tm, q_sm, q_wm, q_ym, q_lm, q_ua, s4]; rfl
    · simp (disch := omega) only [ni_lit, nI_add, pk_mul, pk_sub, pk_div, nI_leI, nI_ltI, nI_eq, nI_clamp, ni_in, ni_inm, ni_ltm, ni_mlt, ni_lem, ni_mle, ni_eqm, ni_meq, ni_mm, ni_mmle, ni_bit, ni_shl, ni_clr, fa_or, Nat.add_zero, Nat.zero_add, Nat.zero_mul, Nat.mul_zero, eOn, eOs, if_true, if_false, not_true_eq_false, not_false_eq_true, ite_true, ite_false, true_and, and_true, false_and, and_false, or_true, true_or, or_false, false_or, Bool.false_eq_true, reduceIte, Bool.not_true, Bool.not_false, and_self, or_self, q_ef, q_et, q_ltt, q_ltf, q_let, q_lef, gIs, gIl, gIr, gLs, gLl, gLr, gPs, gPl, gPr, gLc, gPc, zb_some, Option.bind_some, q_nm, q_pm, q_hm, q_tm, q_sm, q_wm, q_ym, q_lm, q_ua, s5 j hj]; rfl
    · simp (disch := omega) only [ni_lit, nI_add, pk_mul, pk_sub, pk_div, nI_leI, nI_ltI, nI_eq, nI_clamp, ni_in, ni_inm, ni_ltm, ni_mlt, ni_lem, ni_mle, ni_eqm, ni_meq, ni_mm, ni_mmle, ni_bit, ni_shl, ni_clr, fa_or, Nat.add_zero, Nat.zero_add, Nat.zero_mul, Nat.mul_zero, eOn, eOs, if_true, if_false, not_true_eq_false, not_false_eq_true, ite_true, ite_false, true_and, and_true, false_and, and_false, or_true, true_or, or_false, false_or, Bool.false_eq_true, reduceIte, Bool.not_true, Bool.not_false, and_self, or_self, q_ef, q_et, q_ltt, q_ltf, q_let, q_lef, gIs, gIl, gIr, gLs, gLl, gLr, gPs, gPl, gPr, gLc, gPc, zb_some, Option.bind_some, q_nm, q_pm, q_hm, q_tm, q_sm, q_wm, q_ym, q_lm, q_ua, s6 j hj hg]; rfl
    · simp (disch := omega) only [ni_lit, nI_add, pk_mul, pk_sub, pk_div, nI_leI, nI_ltI, nI_eq, nI_clamp, ni_in, ni_inm, ni_ltm, ni_mlt, ni_lem, ni_mle, ni_eqm, ni_meq, ni_mm, ni_mmle, ni_bit, ni_shl, ni_clr, fa_or, Nat.add_zero, Nat.zero_add, Nat.zero_mul, Nat.mul_zero, eOn, eOs, if_true, if_false, not_true_eq_false, not_false_eq_true, ite_true, ite_false, true_and, and_true, false_and, and_false, or_true, true_or, or_false, false_or, Bool.false_eq_true, reduceIte, Bool.not_true, Bool.not_false, and_self, or_self, q_ef, q_et, q_ltt, q_ltf, q_let, q_lef, gIs, gIl, gIr, gLs, gLl, gLr, gPs, gPl, gPr, gLc, gPc, zb_some, Option.bind_some, q_nm, q_pm, q_hm, q_tm, q_sm, q_wm, q_ym, q_lm, q_ua, s7 j hj hg]; rfl
    · simp (disch := omega) only [ni_lit, nI_add, pk_mul, pk_sub, pk_div, nI_leI, nI_ltI, nI_eq, nI_clamp, ni_in, ni_inm, ni_ltm, ni_mlt, ni_lem, ni_mle, ni_eqm, ni_meq, ni_mm, ni_mmle, ni_bit, ni_shl, ni_clr, fa_or, Nat.add_zero, Nat.zero_add, Nat.zero_mul, Nat.mul_zero, eOn, eOs, if_true, if_false, not_true_eq_false, not_false_eq_true, ite_true, ite_false, true_and, and_true, false_and, and_false, or_true, true_or, or_false, false_or, Bool.false_eq_true, reduceIte, Bool.not_true, Bool.not_false, and_self, or_self, q_ef, q_et, q_ltt, q_ltf, q_let, q_lef, gIs, gIl, gIr, gLs, gLl, gLr, gPs, gPl, gPr, gLc, gPc, zb_some, Option.bind_some, q_nm, q_pm, q_hm, q_tm, q_sm, q_wm, q_ym, q_lm, q_ua, s8 j hj]; rfl
  | m + 1, i, S, hi, hH, hs => by
    have e := b37_4_eq (d + 5) p (nI (q_paid P s i)) (nI i) S hH.1 hp
    have hR := hH.2.2.2.2.1
    have hq6 := zP6 hH.2.1
    have p8 := zP8 hp
    have g1 := hH.2.2.2.1.2.1
    have s5 := hs.2.2.2.2.2.1 i (by omega)
    have hsm : q_paid P s (i + 1) = q_paid P s i + q_pay P s i := fb_sm_succ _ _
    have hpl := q_paid_le P s (i + 1)
    cases hv : q_s s i with
    | none =>
      have hz : q_pay P s i = 0 := by unfold q_pay; rw [hv]
      rw [hv] at s5
      simp (disch := omega) only [ni_lit, nI_add, pk_mul, pk_sub, pk_div, nI_leI, nI_ltI, nI_eq, nI_clamp, ni_in, ni_inm, ni_ltm, ni_mlt, ni_lem, ni_mle, ni_eqm, ni_meq, ni_mm, ni_mmle, ni_bit, ni_shl, ni_clr, fa_or, Nat.add_zero, Nat.zero_add, Nat.zero_mul, Nat.mul_zero, eOn, eOs, if_true, if_false, not_true_eq_false, not_false_eq_true, ite_true, ite_false, true_and, and_true, false_and, and_false, or_true, true_or, or_false, false_or, Bool.false_eq_true, reduceIte, Bool.not_true, Bool.not_false, and_self, or_self, q_ef, q_et, q_ltt, q_ltf, q_let, q_lef, gIs, gIl, gIr, gLs, gLl, gLr, gPs, gPl, gPr, gLc, gPc, zb_some, Option.bind_some, q_nm, q_pm, q_hm, q_tm, q_sm, q_wm, q_ym, q_lm, q_ua, hH.2.2.1, g1, s5, b37_93_eq (d + 5) p _ _ _ S hH.1 hp, b37_102_eq (d + 5) p _ _ S hH.1 hp] at e
      rw [hz, Nat.add_zero] at hsm
      obtain ⟨S', b1, b2, b3⟩ := c37_l hp hG m (i + 1) S (by omega) hH hs
      rw [hsm] at b1
      exact ⟨S', e.trans b1, b2, b3⟩
    | some k =>
      have hz : q_pay P s i = q_rent P s i k := by unfold q_pay; rw [hv]
      obtain ⟨v1, v2, v3, v4⟩ := hG.sl hH.2.2.2.2 hv
      have hL := hH.2.2.2.2.2.2.2.2.1
      have ff := hH.2.2.2.2.2.2.2.2.2.2.2.1 k v2
      have g2 := hH.2.2.2.1.2.2.2.2.2.2.2.2.2.1 k v2
      have a0 := c60 (d := d + 4) (w := 2) hH.1 hH.2.1 hH.2.2.2.1 (by omega)
      rw [hv] at s5
      rw [hz] at hsm
      cases hd : (p_d P 2).isEmpty with
      | true =>
        have hr : q_rent P s i k = 1 := by unfold q_rent; rw [hd, if_pos rfl]
        rw [hd] at a0
        rw [hr] at hsm
        simp (disch := omega) only [ni_lit, nI_add, pk_mul, pk_sub, pk_div, nI_leI, nI_ltI, nI_eq, nI_clamp, ni_in, ni_inm, ni_ltm, ni_mlt, ni_lem, ni_mle, ni_eqm, ni_meq, ni_mm, ni_mmle, ni_bit, ni_shl, ni_clr, fa_or, Nat.add_zero, Nat.zero_add, Nat.zero_mul, Nat.mul_zero, eOn, eOs, if_true, if_false, not_true_eq_false, not_false_eq_true, ite_true, ite_false, true_and, and_true, false_and, and_false, or_true, true_or, or_false, false_or, Bool.false_eq_true, reduceIte, Bool.not_true, Bool.not_false, and_self, or_self, q_ef, q_et, q_ltt, q_ltf, q_let, q_lef, gIs, gIl, gIr, gLs, gLl, gLr, gPs, gPl, gPr, gLc, gPc, zb_some, Option.bind_some, q_nm, q_pm, q_hm, q_tm, q_sm, q_wm, q_ym, q_lm, q_ua, hH.2.2.1, g1, s5, a0, bIf, b37_93_eq (d + 5) p _ _ _ S hH.1 hp, b37_102_eq (d + 5) p _ _ S hH.1 hp] at e
        obtain ⟨S', b1, b2, b3⟩ := c37_l hp hG m (i + 1) S (by omega) hH hs
        rw [hsm] at b1
        exact ⟨S', e.trans b1, b2, b3⟩
      | false =>
        rw [hd] at a0
        obtain ⟨S1, a1, a2⟩ : ∃ S1, b37_4 (d + 5) p (nI (q_paid P s i)) (nI i) S = b37_102 (d + 5) p (nI (q_paid P s i + q_rent P s i k)) (nI i) S1 ∧ onI (fun c _ => c = 23 ∨ c = 24) S S1 := by
          unfold q_rent
          rw [hd, if_neg (by decide)]
          by_cases c : p_f P k = i
          · obtain ⟨S1, b1, b2⟩ := c37_71 (d := d) (n := q_paid P s i) (own := 1) hH hp hs hG hv (by omega) hd
            simp (disch := omega) only [ni_lit, nI_add, pk_mul, pk_sub, pk_div, nI_leI, nI_ltI, nI_eq, nI_clamp, ni_in, ni_inm, ni_ltm, ni_mlt, ni_lem, ni_mle, ni_eqm, ni_meq, ni_mm, ni_mmle, ni_bit, ni_shl, ni_clr, fa_or, Nat.add_zero, Nat.zero_add, Nat.zero_mul, Nat.mul_zero, eOn, eOs, if_true, if_false, not_true_eq_false, not_false_eq_true, ite_true, ite_false, true_and, and_true, false_and, and_false, or_true, true_or, or_false, false_or, Bool.false_eq_true, reduceIte, Bool.not_true, Bool.not_false, and_self, or_self, q_ef, q_et, q_ltt, q_ltf, q_let, q_lef, gIs, gIl, gIr, gLs, gLl, gLr, gPs, gPl, gPr, gLc, gPc, zb_some, Option.bind_some, q_nm, q_pm, q_hm, q_tm, q_sm, q_wm, q_ym, q_lm, q_ua, hH.2.2.1, g1, s5, a0, bIt, g2, b1] at e
            rw [if_pos c]
            exact ⟨S1, e, b2⟩
          · obtain ⟨S1, b1, b2⟩ := c37_71 (d := d) (n := q_paid P s i) (own := 0) hH hp hs hG hv (by omega) hd
            simp (disch := omega) only [ni_lit, nI_add, pk_mul, pk_sub, pk_div, nI_leI, nI_ltI, nI_eq, nI_clamp, ni_in, ni_inm, ni_ltm, ni_mlt, ni_lem, ni_mle, ni_eqm, ni_meq, ni_mm, ni_mmle, ni_bit, ni_shl, ni_clr, fa_or, Nat.add_zero, Nat.zero_add, Nat.zero_mul, Nat.mul_zero, eOn, eOs, if_true, if_false, not_true_eq_false, not_false_eq_true, ite_true, ite_false, true_and, and_true, false_and, and_false, or_true, true_or, or_false, false_or, Bool.false_eq_true, reduceIte, Bool.not_true, Bool.not_false, and_self, or_self, q_ef, q_et, q_ltt, q_ltf, q_let, q_lef, gIs, gIl, gIr, gLs, gLl, gLr, gPs, gPl, gPr, gLc, gPc, zb_some, Option.bind_some, q_nm, q_pm, q_hm, q_tm, q_sm, q_wm, q_ym, q_lm, q_ua, hH.2.2.1, g1, s5, a0, bIt, g2, b1] at e
            rw [if_neg c]
            exact ⟨S1, e, b2⟩
        rw [b37_102_eq (d + 5) p _ _ S1 a2.W hp, show nI i + (1 : Int32) = nI (i + 1) by simp (disch := omega) only [ni_lit, nI_add, pk_mul, pk_sub, pk_div, nI_leI, nI_ltI, nI_eq, nI_clamp, ni_in, ni_inm, ni_ltm, ni_mlt, ni_lem, ni_mle, ni_eqm, ni_meq, ni_mm, ni_mmle, ni_bit, ni_shl, ni_clr, fa_or, Nat.add_zero, Nat.zero_add, Nat.zero_mul, Nat.mul_zero, eOn, eOs]] at a1
        obtain ⟨S', b1, b2, b3⟩ := c37_l hp hG m (i + 1) S1 (by omega) (hH.on a2 (fun c k a b => by omega)) (hs.on a2 (fun c k a b z => by omega))
        rw [hsm] at b1
        exact ⟨S', a1.trans b1, (a2.mono fun c k z => Or.inr (by omega)).trans b2, b3⟩
theorem c37 (hH : cH S q P) (hp : z_K p = 8) (hs : cSt S p 16 s) (hG : q_Gd P s) : ∃ S', fI (d + 6) 37 [.ref 22, .ref p] S = some (nI (q_paid P s (p_R P)), S') ∧ onI (hD p) S S' ∧ cSt S' p 16 (q_setp s (min 999999 (q_p s + q_paid P s (p_R P)))) := by
  have e := e37 (d + 5) p S hH.1 hp
  obtain ⟨S', a1, a2, a3⟩ := c37_l (d := d) hp hG (p_R P) 0 S (by omega) hH hs
  exact ⟨S', e.trans a1, a2, a3⟩
theorem cSt.cong {g : Nat} {s s' : q_St} (h : cSt S p g s) (h1 : q_n s = q_n s') (h2 : q_p s = q_p s') (h3 : q_h s = q_h s') (h4 : q_t s = q_t s') (h5 : ∀ r, r < 16 → q_s s r = q_s s' r) (h6 : ∀ k, k < 16 → q_w s k = q_w s' k) (h7 : ∀ k, k < 16 → q_y s k = q_y s' k) (h8 : q_l s = q_l s') : cSt S p g s' := by
  obtain ⟨s0, s1, s2, s3, s4, s5, s6, s7, s8⟩ := h
  refine ⟨by rw [← h1]; exact s0, by rw [← h2]; exact s1, by rw [← h3]; exact s2, by rw [← h4]; exact s3, by rw [← h8]; exact s4, fun r hr => by rw [← h5 r hr]; exact s5 r hr, fun k hk hg => by rw [← h6 k hk]; exact s6 k hk hg, fun k hk hg => by rw [← h7 k hk]; exact s7 k hk hg, fun i hi => ?_⟩
  rw [← h8] at hi ⊢
  exact s8 i hi
theorem c39_1 (hp : z_K p = 8) (hB : q_Bd s) : ∀ (m i : Nat) (S : z_S), i + m = p_L P → cH S q P → cSt S p 16 (q_sety s (q_yj s i)) → ∃ S', b39_2 (d + 1) p (nI i) S = b39_48 (d + 1) p (nI 0) S' ∧ onI (pD p) S S' ∧ cSt S' p 16 (q_sety s (q_yj s (p_L P)))
  | 0, i, S, hi, hH, hs => by
    have e := b39_2_eq (d + 1) p (nI i) S hH.1 hp
    have hL := hH.2.2.2.2.2.2.2.2.1
    have g6 := hH.2.2.2.1.2.2.2.2.2.2.1
    have hiR : i = p_L P := by omega
    subst hiR
    simp (disch := omega) only [ni_lit, nI_add, pk_mul, pk_sub, pk_div, nI_leI, nI_ltI, nI_eq, nI_clamp, ni_in, ni_inm, ni_ltm, ni_mlt, ni_lem, ni_mle, ni_eqm, ni_meq, ni_mm, ni_mmle, ni_bit, ni_shl, ni_clr, fa_or, Nat.add_zero, Nat.zero_add, Nat.zero_mul, Nat.mul_zero, eOn, eOs, if_true, if_false, not_true_eq_false, not_false_eq_true, ite_true, ite_false, true_and, and_true, false_and, and_false, or_true, true_or, or_false, false_or, Bool.false_eq_true, reduceIte, Bool.not_true, Bool.not_false, and_self, or_self, q_ef, q_et, q_ltt, q_ltf, q_let, q_lef, gIs, gIl, gIr, gLs, gLl, gLr, gPs, gPl, gPr, gLc, gPc, zb_some, Option.bind_some, q_nm, q_pm, q_hm, q_tm, q_sm, q_wm, q_ym, q_lm, q_ua, hH.2.2.1, g6] at e
    exact ⟨S, e, onI.refl hH.1, hs⟩
  | m + 1, i, S, hi, hH, hs => by
    have e := b39_2_eq (d + 1) p (nI i) S hH.1 hp
    have hL := hH.2.2.2.2.2.2.2.2.1
    have g6 := hH.2.2.2.1.2.2.2.2.2.2.1
    have p8 := zP8 hp
    have hB' : q_Bd (q_sety s (q_yj s i)) := by
      obtain ⟨g1, g2, g3, g4, g5, g6, g7, g8, g9⟩ := hB
      refine ⟨g1, g2, g3, g4, g5, g6, g7, fun k => ?_, g9⟩
      show q_yj s i k ≤ 99
      have := g8 k
      unfold q_yj
      split <;> omega
    have a1 := c77 (d := d) (k := i) hH.1 hp hs hB' (by omega) (by omega)
    have hw : q_w (q_sety s (q_yj s i)) i = q_w s i := rfl
    rw [hw] at a1
    have yi : q_yj s i i = q_y s i := by unfold q_yj; rw [if_neg (by omega)]
    have s7 := hs.2.2.2.2.2.2.2.1 i (by omega) (by omega)
    have s7' : gI S (p + 3) i = nI (q_y s i) := by rw [s7]; show nI (q_yj s i i) = _; rw [yi]
    have y99 := hB.2.2.2.2.2.2.2.1 i
    by_cases c : q_w s i < 16
    · rw [decide_eq_true c] at a1
      have a2 := c279 (d := d) (a := 99) (b := q_y s i + 1) (S := S) hH.1 (by omega) (by omega)
      have hW2 : z_W (sI S (p + 3) i (nI (min 99 (q_y s i + 1)))) := hH.1
      simp (disch := omega) only [ni_lit, nI_add, pk_mul, pk_sub, pk_div, nI_leI, nI_ltI, nI_eq, nI_clamp, ni_in, ni_inm, ni_ltm, ni_mlt, ni_lem, ni_mle, ni_eqm, ni_meq, ni_mm, ni_mmle, ni_bit, ni_shl, ni_clr, fa_or, Nat.add_zero, Nat.zero_add, Nat.zero_mul, Nat.mul_zero, eOn, eOs, if_true, if_false, not_true_eq_false, not_false_eq_true, ite_true, ite_false, true_and, and_true, false_and, and_false, or_true, true_or, or_false, false_or, Bool.false_eq_true, reduceIte, Bool.not_true, Bool.not_false, and_self, or_self, q_ef, q_et, q_ltt, q_ltf, q_let, q_lef, gIs, gIl, gIr, gLs, gLl, gLr, gPs, gPl, gPr, gLc, gPc, zb_some, Option.bind_some, q_nm, q_pm, q_hm, q_tm, q_sm, q_wm, q_ym, q_lm, q_ua, hH.2.2.1, g6, a1, bIt, s7', a2, b39_40_eq (d + 1) p _ _ hW2 hp] at e
      have ho : onI (pD p) S (sI S (p + 3) i (nI (min 99 (q_y s i + 1)))) := onI_sI (onI.refl hH.1) ⟨by omega, by omega⟩
      have hs2 : cSt (sI S (p + 3) i (nI (min 99 (q_y s i + 1)))) p 16 (q_sety s (q_yj s (i + 1))) := by
        obtain ⟨s0, s1, s2, s3, s4, s5, s6, s7, s8⟩ := hs
        refine ⟨?_, ?_, ?_, ?_, ?_, fun j hj => ?_, fun j hj hg => ?_, fun j hj hg => ?_, fun j hj => ?_⟩
        · simp (disch := omega) only [ni_lit, nI_add, pk_mul, pk_sub, pk_div, nI_leI, nI_ltI, nI_eq, nI_clamp, ni_in, ni_inm, ni_ltm, ni_mlt, ni_lem, ni_mle, ni_eqm, ni_meq, ni_mm, ni_mmle, ni_bit, ni_shl, ni_clr, fa_or, Nat.add_zero, Nat.zero_add, Nat.zero_mul, Nat.mul_zero, eOn, eOs, if_true, if_false, not_true_eq_false, not_false_eq_true, ite_true, ite_false, true_and, and_true, false_and, and_false, or_true, true_or, or_false, false_or, Bool.false_eq_true, reduceIte, Bool.not_true, Bool.not_false, and_self, or_self, q_ef, q_et, q_ltt, q_ltf, q_let, q_lef, gIs, gIl, gIr, gLs, gLl, gLr, gPs, gPl, gPr, gLc, gPc, zb_some, Option.bind_some, q_nm, q_pm, q_hm, q_tm, q_sm, q_wm, q_ym, q_lm, q_ua, s0]; rfl
        · simp (disch := omega) only [ni_lit, nI_add, pk_mul, pk_sub, pk_div, nI_leI, nI_ltI, nI_eq, nI_clamp, ni_in, ni_inm, ni_ltm, ni_mlt, ni_lem, ni_mle, ni_eqm, ni_meq, ni_mm, ni_mmle, ni_bit, ni_shl, ni_clr, fa_or, Nat.add_zero, Nat.zero_add, Nat.zero_mul, Nat.mul_zero, eOn, eOs, if_true, if_false, not_true_eq_false, not_false_eq_true, ite_true, ite_false, true_and, and_true, false_and, and_false, or_true, true_or, or_false, false_or, Bool.false_eq_true, reduceIte, Bool.not_true, Bool.not_false, and_self, or_self, q_ef, q_et, q_ltt, q_ltf, q_let, q_lef, gIs, gIl, gIr, gLs, gLl, gLr, gPs, gPl, gPr, gLc, gPc, zb_some, Option.bind_some, q_nm, q_pm, q_hm, q_tm, q_sm, q_wm, q_ym, q_lm, q_ua, s1]; rfl
        · simp (disch := omega) only [ni_lit, nI_add, pk_mul, pk_sub, pk_div, nI_leI, nI_ltI, nI_eq, nI_clamp, ni_in, ni_inm, ni_ltm, ni_mlt, ni_lem, ni_mle, ni_eqm, ni_meq, ni_mm, ni_mmle, ni_bit, ni_shl, ni_clr, fa_or, Nat.add_zero, Nat.zero_add, Nat.zero_mul, Nat.mul_zero, eOn, eOs, if_true, if_false, not_true_eq_false, not_false_eq_true, ite_true, ite_false, true_and, and_true, false_and, and_false, or_true, true_or, or_false, false_or, Bool.false_eq_true, reduceIte, Bool.not_true, Bool.not_false, and_self, or_self, q_ef, q_et, q_ltt, q_ltf, q_let, q_lef, gIs, gIl, gIr, gLs, gLl, gLr, gPs, gPl, gPr, gLc, gPc, zb_some, Option.bind_some, q_nm, q_pm, q_hm, q_tm, q_sm, q_wm, q_ym, q_lm, q_ua, s2]; rfl
        · simp (disch := omega) only [ni_lit, nI_add, pk_mul, pk_sub, pk_div, nI_leI, nI_ltI, nI_eq, nI_clamp, ni_in, ni_inm, ni_ltm, ni_mlt, ni_lem, ni_mle, ni_eqm, ni_meq, ni_mm, ni_mmle, ni_bit, ni_shl, ni_clr, fa_or, Nat.add_zero, Nat.zero_add, Nat.zero_mul, Nat.mul_zero, eOn, eOs, if_true, if_false, not_true_eq_false, not_false_eq_true, ite_true, ite_false, true_and, and_true, false_and, and_false, or_true, true_or, or_false, false_or, Bool.false_eq_true, reduceIte, Bool.not_true, Bool.not_false, and_self, or_self, q_ef, q_et, q_ltt, q_ltf, q_let, q_lef, gIs, gIl, gIr, gLs, gLl, gLr, gPs, gPl, gPr, gLc, gPc, zb_some, Option.bind_some, q_nm, q_pm, q_hm, q_tm, q_sm, q_wm, q_ym, q_lm, q_ua, s3]; rfl
        · simp (disch := omega) only [ni_lit, nI_add, pk_mul, pk_sub, pk_div, nI_leI, nI_ltI, nI_eq, nI_clamp, ni_in, ni_inm, ni_ltm, ni_mlt, ni_lem, ni_mle, ni_eqm, ni_meq, ni_mm, ni_mmle, ni_bit, ni_shl, ni_clr, fa_or, Nat.add_zero, Nat.zero_add, Nat.zero_mul, Nat.mul_zero, eOn, eOs, if_true, if_false, not_true_eq_false, not_false_eq_true, ite_true, ite_false, true_and, and_true, false_and, and_false, or_true, true_or, or_false, false_or, Bool.false_eq_true, reduceIte, Bool.not_true, Bool.not_false, and_self, or_self, q_ef, q_et, q_ltt, q_ltf, q_let, q_lef, gIs, gIl, gIr, gLs, gLl, gLr, gPs, gPl, gPr, gLc, gPc, zb_some, Option.bind_some, q_nm, q_pm, q_hm, q_tm, q_sm, q_wm, q_ym, q_lm, q_ua, s4]; rfl
        · simp (disch := omega) only [ni_lit, nI_add, pk_mul, pk_sub, pk_div, nI_leI, nI_ltI, nI_eq, nI_clamp, ni_in, ni_inm, ni_ltm, ni_mlt, ni_lem, ni_mle, ni_eqm, ni_meq, ni_mm, ni_mmle, ni_bit, ni_shl, ni_clr, fa_or, Nat.add_zero, Nat.zero_add, Nat.zero_mul, Nat.mul_zero, eOn, eOs, if_true, if_false, not_true_eq_false, not_false_eq_true, ite_true, ite_false, true_and, and_true, false_and, and_false, or_true, true_or, or_false, false_or, Bool.false_eq_true, reduceIte, Bool.not_true, Bool.not_false, and_self, or_self, q_ef, q_et, q_ltt, q_ltf, q_let, q_lef, gIs, gIl, gIr, gLs, gLl, gLr, gPs, gPl, gPr, gLc, gPc, zb_some, Option.bind_some, q_nm, q_pm, q_hm, q_tm, q_sm, q_wm, q_ym, q_lm, q_ua, s5 j hj]; rfl
        · simp (disch := omega) only [ni_lit, nI_add, pk_mul, pk_sub, pk_div, nI_leI, nI_ltI, nI_eq, nI_clamp, ni_in, ni_inm, ni_ltm, ni_mlt, ni_lem, ni_mle, ni_eqm, ni_meq, ni_mm, ni_mmle, ni_bit, ni_shl, ni_clr, fa_or, Nat.add_zero, Nat.zero_add, Nat.zero_mul, Nat.mul_zero, eOn, eOs, if_true, if_false, not_true_eq_false, not_false_eq_true, ite_true, ite_false, true_and, and_true, false_and, and_false, or_true, true_or, or_false, false_or, Bool.false_eq_true, reduceIte, Bool.not_true, Bool.not_false, and_self, or_self, q_ef, q_et, q_ltt, q_ltf, q_let, q_lef, gIs, gIl, gIr, gLs, gLl, gLr, gPs, gPl, gPr, gLc, gPc, zb_some, Option.bind_some, q_nm, q_pm, q_hm, q_tm, q_sm, q_wm, q_ym, q_lm, q_ua, s6 j hj hg]; rfl
        · show _ = nI (q_yj s (i + 1) j)
          by_cases z : j = i
          · simp (disch := omega) only [ni_lit, nI_add, pk_mul, pk_sub, pk_div, nI_leI, nI_ltI, nI_eq, nI_clamp, ni_in, ni_inm, ni_ltm, ni_mlt, ni_lem, ni_mle, ni_eqm, ni_meq, ni_mm, ni_mmle, ni_bit, ni_shl, ni_clr, fa_or, Nat.add_zero, Nat.zero_add, Nat.zero_mul, Nat.mul_zero, eOn, eOs, if_true, if_false, not_true_eq_false, not_false_eq_true, ite_true, ite_false, true_and, and_true, false_and, and_false, or_true, true_or, or_false, false_or, Bool.false_eq_true, reduceIte, Bool.not_true, Bool.not_false, and_self, or_self, q_ef, q_et, q_ltt, q_ltf, q_let, q_lef, gIs, gIl, gIr, gLs, gLl, gLr, gPs, gPl, gPr, gLc, gPc, zb_some, Option.bind_some, q_nm, q_pm, q_hm, q_tm, q_sm, q_wm, q_ym, q_lm, q_ua]
            unfold q_yj
            rw [z, if_pos ⟨by omega, c⟩]
          · simp (disch := omega) only [ni_lit, nI_add, pk_mul, pk_sub, pk_div, nI_leI, nI_ltI, nI_eq, nI_clamp, ni_in, ni_inm, ni_ltm, ni_mlt, ni_lem, ni_mle, ni_eqm, ni_meq, ni_mm, ni_mmle, ni_bit, ni_shl, ni_clr, fa_or, Nat.add_zero, Nat.zero_add, Nat.zero_mul, Nat.mul_zero, eOn, eOs, if_true, if_false, not_true_eq_false, not_false_eq_true, ite_true, ite_false, true_and, and_true, false_and, and_false, or_true, true_or, or_false, false_or, Bool.false_eq_true, reduceIte, Bool.not_true, Bool.not_false, and_self, or_self, q_ef, q_et, q_ltt, q_ltf, q_let, q_lef, gIs, gIl, gIr, gLs, gLl, gLr, gPs, gPl, gPr, gLc, gPc, zb_some, Option.bind_some, q_nm, q_pm, q_hm, q_tm, q_sm, q_wm, q_ym, q_lm, q_ua, s7 j hj hg]
            show nI (q_yj s i j) = nI (q_yj s (i + 1) j)
            unfold q_yj
            by_cases y : j < i ∧ q_w s j < 16
            · rw [if_pos y, if_pos ⟨by omega, y.2⟩]
            · rw [if_neg y, if_neg (fun x => y ⟨by omega, x.2⟩)]
        · simp (disch := omega) only [ni_lit, nI_add, pk_mul, pk_sub, pk_div, nI_leI, nI_ltI, nI_eq, nI_clamp, ni_in, ni_inm, ni_ltm, ni_mlt, ni_lem, ni_mle, ni_eqm, ni_meq, ni_mm, ni_mmle, ni_bit, ni_shl, ni_clr, fa_or, Nat.add_zero, Nat.zero_add, Nat.zero_mul, Nat.mul_zero, eOn, eOs, if_true, if_false, not_true_eq_false, not_false_eq_true, ite_true, ite_false, true_and, and_true, false_and, and_false, or_true, true_or, or_false, false_or, Bool.false_eq_true, reduceIte, Bool.not_true, Bool.not_false, and_self, or_self, q_ef, q_et, q_ltt, q_ltf, q_let, q_lef, gIs, gIl, gIr, gLs, gLl, gLr, gPs, gPl, gPr, gLc, gPc, zb_some, Option.bind_some, q_nm, q_pm, q_hm, q_tm, q_sm, q_wm, q_ym, q_lm, q_ua, s8 j hj]; rfl
      obtain ⟨S', b1, b2, b3⟩ := c39_1 hp hB m (i + 1) _ (by omega) (hH.on ho (fun c k a b => by unfold pD at b; omega)) hs2
      exact ⟨S', e.trans b1, ho.trans b2, b3⟩
    · rw [decide_eq_false c] at a1
      simp (disch := omega) only [ni_lit, nI_add, pk_mul, pk_sub, pk_div, nI_leI, nI_ltI, nI_eq, nI_clamp, ni_in, ni_inm, ni_ltm, ni_mlt, ni_lem, ni_mle, ni_eqm, ni_meq, ni_mm, ni_mmle, ni_bit, ni_shl, ni_clr, fa_or, Nat.add_zero, Nat.zero_add, Nat.zero_mul, Nat.mul_zero, eOn, eOs, if_true, if_false, not_true_eq_false, not_false_eq_true, ite_true, ite_false, true_and, and_true, false_and, and_false, or_true, true_or, or_false, false_or, Bool.false_eq_true, reduceIte, Bool.not_true, Bool.not_false, and_self, or_self, q_ef, q_et, q_ltt, q_ltf, q_let, q_lef, gIs, gIl, gIr, gLs, gLl, gLr, gPs, gPl, gPr, gLc, gPc, zb_some, Option.bind_some, q_nm, q_pm, q_hm, q_tm, q_sm, q_wm, q_ym, q_lm, q_ua, hH.2.2.1, g6, a1, bIf, b39_40_eq (d + 1) p _ S hH.1 hp] at e
      have hs2 : cSt S p 16 (q_sety s (q_yj s (i + 1))) := hs.cong rfl rfl rfl rfl (fun _ _ => rfl) (fun _ _ => rfl) (fun k _ => by
        show q_yj s i k = q_yj s (i + 1) k
        unfold q_yj
        by_cases z : k = i
        · rw [if_neg (by omega), if_neg (fun x => c (z ▸ x.2))]
        · by_cases y : k < i ∧ q_w s k < 16
          · rw [if_pos y, if_pos ⟨by omega, y.2⟩]
          · rw [if_neg y, if_neg (fun x => y ⟨by omega, x.2⟩)]) rfl
      obtain ⟨S', b1, b2, b3⟩ := c39_1 hp hB m (i + 1) S (by omega) hH hs2
      exact ⟨S', e.trans b1, b2, b3⟩
theorem c39_2 (hp : z_K p = 8) (hG : q_Gd P s) (hd : (p_d P 1).isEmpty = false) : ∀ (m i : Nat) (S : z_S), i + m = p_L P → cH S q P → cSt S p 16 (q_lv P s i) → ∃ S', b39_48 (d + 4) p (nI i) S = b39_110 (d + 4) p S' ∧ onI (hD p) S S' ∧ cSt S' p 16 (q_lv P s (p_L P))
  | 0, i, S, hi, hH, hs => by
    have e := b39_48_eq (d + 4) p (nI i) S hH.1 hp
    have hL := hH.2.2.2.2.2.2.2.2.1
    have g6 := hH.2.2.2.1.2.2.2.2.2.2.1
    have hiR : i = p_L P := by omega
    subst hiR
    simp (disch := omega) only [ni_lit, nI_add, pk_mul, pk_sub, pk_div, nI_leI, nI_ltI, nI_eq, nI_clamp, ni_in, ni_inm, ni_ltm, ni_mlt, ni_lem, ni_mle, ni_eqm, ni_meq, ni_mm, ni_mmle, ni_bit, ni_shl, ni_clr, fa_or, Nat.add_zero, Nat.zero_add, Nat.zero_mul, Nat.mul_zero, eOn, eOs, if_true, if_false, not_true_eq_false, not_false_eq_true, ite_true, ite_false, true_and, and_true, false_and, and_false, or_true, true_or, or_false, false_or, Bool.false_eq_true, reduceIte, Bool.not_true, Bool.not_false, and_self, or_self, q_ef, q_et, q_ltt, q_ltf, q_let, q_lef, gIs, gIl, gIr, gLs, gLl, gLr, gPs, gPl, gPr, gLc, gPc, zb_some, Option.bind_some, q_nm, q_pm, q_hm, q_tm, q_sm, q_wm, q_ym, q_lm, q_ua, hH.2.2.1, g6] at e
    exact ⟨S, e, onI.refl hH.1, hs⟩
  | m + 1, i, S, hi, hH, hs => by
    have hP := hH.2.2.2.2
    have e := b39_48_eq (d + 4) p (nI i) S hH.1 hp
    have hL := hH.2.2.2.2.2.2.2.2.1
    have g6 := hH.2.2.2.1.2.2.2.2.2.2.1
    have p8 := zP8 hp
    have hGi := q_lv_G hP hG i
    have a0 := c60 (d := d + 3) (w := 1) hH.1 hH.2.1 hH.2.2.2.1 (by omega)
    rw [hd] at a0
    have a1 := c77 (d := d + 3) (k := i) hH.1 hp hs (hGi.Bd hP) (by omega) (by omega)
    have hty : q_tyL (p_d P 1) [] = some [true] := by
      rcases hP.2.2.2.2.2.2.2.2.2.2.2.2.1 with z | z
      · rw [z] at hd; cases hd
      · exact z
    have hlen : (q_l (q_lv P s i)).length ≤ 6 := (hGi.Bd hP).2.2.1
    by_cases c : q_w (q_lv P s i) i < 16
    · rw [decide_eq_true c] at a1
      obtain ⟨S1, b1, b2⟩ := c68 (d := d) (w := 1) (k := i) (own := (q_l (q_lv P s i)).length) hH.1 hH.2.1 hp hH.2.2.2.1 hP hs (hGi.Bd hP) (by omega) (by omega) (by omega) (by omega) (hGi.pc hP) hty
      have hH1 : cH S1 q P := hH.on b2 (fun c k a b => by omega)
      have hs1 : cSt S1 p 16 (q_lv P s i) := hs.on b2 (fun c k a b z => by omega)
      have hvt := (q_val_VT (e := q_env P (q_lv P s i) (q_w (q_lv P s i) i) i (q_l (q_lv P s i)).length) (q_env_S hP (hGi.Bd hP) (by omega) (by omega)) hty).1
      have hz : ∀ z : Int, iS z → ((iI z = nI 0) = (z = 0)) := fun z h => by unfold iS at h; rw [iI_n, iI_eq (by omega) (by omega) (by omega) (by omega)]; rfl
      simp (disch := omega) only [ni_lit, nI_add, pk_mul, pk_sub, pk_div, nI_leI, nI_ltI, nI_eq, nI_clamp, ni_in, ni_inm, ni_ltm, ni_mlt, ni_lem, ni_mle, ni_eqm, ni_meq, ni_mm, ni_mmle, ni_bit, ni_shl, ni_clr, fa_or, Nat.add_zero, Nat.zero_add, Nat.zero_mul, Nat.mul_zero, eOn, eOs, if_true, if_false, not_true_eq_false, not_false_eq_true, ite_true, ite_false, true_and, and_true, false_and, and_false, or_true, true_or, or_false, false_or, Bool.false_eq_true, reduceIte, Bool.not_true, Bool.not_false, and_self, or_self, q_ef, q_et, q_ltt, q_ltf, q_let, q_lef, gIs, gIl, gIr, gLs, gLl, gLr, gPs, gPl, gPr, gLc, gPc, zb_some, Option.bind_some, q_nm, q_pm, q_hm, q_tm, q_sm, q_wm, q_ym, q_lm, q_ua, hH.2.2.1, g6, a0, a1, bIt, hs.2.2.2.2.1, b1, hz _ hvt] at e
      by_cases c2 : q_val (q_env P (q_lv P s i) (q_w (q_lv P s i) i) i (q_l (q_lv P s i)).length) (p_d P 1) = 0
      · rw [if_pos c2, b39_104_eq (d + 4) p _ S1 hH1.1 hp, fa_lit, nI_add] at e
        obtain ⟨S', f1, f2, f3⟩ := c39_2 hp hG hd m (i + 1) S1 (by omega) hH1 (by rw [q_lv, if_neg (fun z => z.2 c2)]; exact hs1)
        exact ⟨S', e.trans f1, (b2.mono fun c k z => Or.inr (by omega)).trans f2, f3⟩
      · obtain ⟨S2, g1, g2, g3⟩ := c81 (d := d + 2) (k := i) hH1.1 hp hs1 (hGi.Bd hP) (by omega)
        have hH2 : cH S2 q P := hH1.on g2 (fun c k a b => by unfold pD at b; omega)
        rw [if_neg c2, g1, Option.bind_some, b39_104_eq (d + 4) p _ S2 hH2.1 hp, fa_lit, nI_add] at e
        obtain ⟨S', f1, f2, f3⟩ := c39_2 hp hG hd m (i + 1) S2 (by omega) hH2 (by rw [q_lv, if_pos ⟨c, c2⟩]; exact g3)
        exact ⟨S', e.trans f1, ((b2.mono fun c k z => Or.inr (by omega)).trans (g2.mono fun c k z => Or.inl z)).trans f2, f3⟩
    · rw [decide_eq_false c] at a1
      simp (disch := omega) only [ni_lit, nI_add, pk_mul, pk_sub, pk_div, nI_leI, nI_ltI, nI_eq, nI_clamp, ni_in, ni_inm, ni_ltm, ni_mlt, ni_lem, ni_mle, ni_eqm, ni_meq, ni_mm, ni_mmle, ni_bit, ni_shl, ni_clr, fa_or, Nat.add_zero, Nat.zero_add, Nat.zero_mul, Nat.mul_zero, eOn, eOs, if_true, if_false, not_true_eq_false, not_false_eq_true, ite_true, ite_false, true_and, and_true, false_and, and_false, or_true, true_or, or_false, false_or, Bool.false_eq_true, reduceIte, Bool.not_true, Bool.not_false, and_self, or_self, q_ef, q_et, q_ltt, q_ltf, q_let, q_lef, gIs, gIl, gIr, gLs, gLl, gLr, gPs, gPl, gPr, gLc, gPc, zb_some, Option.bind_some, q_nm, q_pm, q_hm, q_tm, q_sm, q_wm, q_ym, q_lm, q_ua, hH.2.2.1, g6, a0, a1, bIf, bIt, b39_104_eq (d + 4) p _ S hH.1 hp] at e
      obtain ⟨S', f1, f2, f3⟩ := c39_2 hp hG hd m (i + 1) S (by omega) hH (by rw [q_lv, if_neg (fun z => c z.1)]; exact hs)
      exact ⟨S', e.trans f1, f2, f3⟩
theorem c39_3 {s : q_St} (hp : z_K p = 8) (hW : z_W S) (hs : cSt S p 16 s) (hn : q_n s ≤ 1000) : ∃ S', b39_110 (d + 1) p S = some S' ∧ onI (pD p) S S' ∧ cSt S' p 16 (q_setn s (min 999 (q_n s + 1))) := by
  have e := b39_110_eq (d + 1) p S hW hp
  have a1 := c279 (d := d) (a := 999) (b := q_n s + 1) (S := S) hW (by omega) (by omega)
  obtain ⟨s0, s1, s2, s3, s4, s5, s6, s7, s8⟩ := hs
  simp (disch := omega) only [ni_lit, nI_add, pk_mul, pk_sub, pk_div, nI_leI, nI_ltI, nI_eq, nI_clamp, ni_in, ni_inm, ni_ltm, ni_mlt, ni_lem, ni_mle, ni_eqm, ni_meq, ni_mm, ni_mmle, ni_bit, ni_shl, ni_clr, fa_or, Nat.add_zero, Nat.zero_add, Nat.zero_mul, Nat.mul_zero, eOn, eOs, if_true, if_false, not_true_eq_false, not_false_eq_true, ite_true, ite_false, true_and, and_true, false_and, and_false, or_true, true_or, or_false, false_or, Bool.false_eq_true, reduceIte, Bool.not_true, Bool.not_false, and_self, or_self, q_ef, q_et, q_ltt, q_ltf, q_let, q_lef, gIs, gIl, gIr, gLs, gLl, gLr, gPs, gPl, gPr, gLc, gPc, zb_some, Option.bind_some, q_nm, q_pm, q_hm, q_tm, q_sm, q_wm, q_ym, q_lm, q_ua, s0, a1] at e
  refine ⟨_, e, onI_sI (onI.refl hW) ⟨by omega, by omega⟩, ?_⟩
  refine ⟨?_, ?_, ?_, ?_, ?_, fun j hj => ?_, fun j hj hg => ?_, fun j hj hg => ?_, fun j hj => ?_⟩
  · simp (disch := omega) only [ni_lit, nI_add, pk_mul, pk_sub, pk_div, nI_leI, nI_ltI, nI_eq, nI_clamp, ni_in, ni_inm, ni_ltm, ni_mlt, ni_lem, ni_mle, ni_eqm, ni_meq, ni_mm, ni_mmle, ni_bit, ni_shl, ni_clr, fa_or, Nat.add_zero, Nat.zero_add, Nat.zero_mul, Nat.mul_zero, eOn, eOs, if_true, if_false, not_true_eq_false, not_false_eq_true, ite_true, ite_false, true_and, and_true, false_and, and_false, or_true, true_or, or_false, false_or, Bool.false_eq_true, reduceIte, Bool.not_true, Bool.not_false, and_self, or_self, q_ef, q_et, q_ltt, q_ltf, q_let, q_lef, gIs, gIl, gIr, gLs, gLl, gLr, gPs, gPl, gPr, gLc, gPc, zb_some, Option.bind_some, q_nm, q_pm, q_hm, q_tm, q_sm, q_wm, q_ym, q_lm, q_ua]; rfl
  · simp (disch := omega) only [ni_lit, nI_add, pk_mul, pk_sub, pk_div, nI_leI, nI_ltI, nI_eq, nI_clamp, ni_in, ni_inm, ni_ltm, ni_mlt, ni_lem, ni_mle, ni_eqm, ni_meq, ni_mm, ni_mmle, ni_bit, ni_shl, ni_clr, fa_or, Nat.add_zero, Nat.zero_add, Nat.zero_mul, Nat.mul_zero, eOn, eOs, if_true, if_false, not_true_eq_false, not_false_eq_true, ite_true, ite_false, true_and, and_true, false_and, and_false, or_true, true_or, or_false, false_or, Bool.false_eq_true, reduceIte, Bool.not_true, Bool.not_false, and_self, or_self, q_ef, q_et, q_ltt, q_ltf, q_let, q_lef, gIs, gIl, gIr, gLs, gLl, gLr, gPs, gPl, gPr, gLc, gPc, zb_some, Option.bind_some, q_nm, q_pm, q_hm, q_tm, q_sm, q_wm, q_ym, q_lm, q_ua, s1]; rfl
  · simp (disch := omega) only [ni_lit, nI_add, pk_mul, pk_sub, pk_div, nI_leI, nI_ltI, nI_eq, nI_clamp, ni_in, ni_inm, ni_ltm, ni_mlt, ni_lem, ni_mle, ni_eqm, ni_meq, ni_mm, ni_mmle, ni_bit, ni_shl, ni_clr, fa_or, Nat.add_zero, Nat.zero_add, Nat.zero_mul, Nat.mul_zero, eOn, eOs, if_true, if_false, not_true_eq_false, not_false_eq_true, ite_true, ite_false, true_and, and_true, false_and, and_false, or_true, true_or, or_false, false_or, Bool.false_eq_true, reduceIte, Bool.not_true, Bool.not_false, and_self, or_self, q_ef, q_et, q_ltt, q_ltf, q_let, q_lef, gIs, gIl, gIr, gLs, gLl, gLr, gPs, gPl, gPr, gLc, gPc, zb_some, Option.bind_some, q_nm, q_pm, q_hm, q_tm, q_sm, q_wm, q_ym, q_lm, q_ua, s2]; rfl
  · simp (disch := omega) only [ni_lit, nI_add, pk_mul, pk_sub, pk_div, nI_leI, nI_ltI, nI_eq, nI_clamp, ni_in, ni_inm, ni_ltm, ni_mlt, ni_lem, ni_mle, ni_eqm, ni_meq, ni_mm, ni_mmle, ni_bit, ni_shl, ni_clr, fa_or, Nat.add_zero, Nat.zero_add, Nat.zero_mul, Nat.mul_zero, eOn, eOs, if_true, if_false, not_true_eq_false, not_false_eq_true, ite_true, ite_false, true_and, and_true, false_and, and_false, or_true, true_or, or_false, false_or, Bool.false_eq_true, reduceIte, Bool.not_true, Bool.not_false, and_self, or_self, q_ef, q_et, q_ltt, q_ltf, q_let, q_lef, gIs, gIl, gIr, gLs, gLl, gLr, gPs, gPl, gPr, gLc, gPc, zb_some, Option.bind_some, q_nm, q_pm, q_hm, q_tm, q_sm, q_wm, q_ym, q_lm, q_ua, s3]; rfl
  · simp (disch := omega) only [ni_lit, nI_add, pk_mul, pk_sub, pk_div, nI_leI, nI_ltI, nI_eq, nI_clamp, ni_in, ni_inm, ni_ltm, ni_mlt, ni_lem, ni_mle, ni_eqm, ni_meq, ni_mm, ni_mmle, ni_bit, ni_shl, ni_clr, fa_or, Nat.add_zero, Nat.zero_add, Nat.zero_mul, Nat.mul_zero, eOn, eOs, if_true, if_false, not_true_eq_false, not_false_eq_true, ite_true, ite_false, true_and, and_true, false_and, and_false, or_true, true_or, or_false, false_or, Bool.false_eq_true, reduceIte, Bool.not_true, Bool.not_false, and_self, or_self, q_ef, q_et, q_ltt, q_ltf, q_let, q_lef, gIs, gIl, gIr, gLs, gLl, gLr, gPs, gPl, gPr, gLc, gPc, zb_some, Option.bind_some, q_nm, q_pm, q_hm, q_tm, q_sm, q_wm, q_ym, q_lm, q_ua, s4]; rfl
  · simp (disch := omega) only [ni_lit, nI_add, pk_mul, pk_sub, pk_div, nI_leI, nI_ltI, nI_eq, nI_clamp, ni_in, ni_inm, ni_ltm, ni_mlt, ni_lem, ni_mle, ni_eqm, ni_meq, ni_mm, ni_mmle, ni_bit, ni_shl, ni_clr, fa_or, Nat.add_zero, Nat.zero_add, Nat.zero_mul, Nat.mul_zero, eOn, eOs, if_true, if_false, not_true_eq_false, not_false_eq_true, ite_true, ite_false, true_and, and_true, false_and, and_false, or_true, true_or, or_false, false_or, Bool.false_eq_true, reduceIte, Bool.not_true, Bool.not_false, and_self, or_self, q_ef, q_et, q_ltt, q_ltf, q_let, q_lef, gIs, gIl, gIr, gLs, gLl, gLr, gPs, gPl, gPr, gLc, gPc, zb_some, Option.bind_some, q_nm, q_pm, q_hm, q_tm, q_sm, q_wm, q_ym, q_lm, q_ua, s5 j hj]; rfl
  · simp (disch := omega) only [ni_lit, nI_add, pk_mul, pk_sub, pk_div, nI_leI, nI_ltI, nI_eq, nI_clamp, ni_in, ni_inm, ni_ltm, ni_mlt, ni_lem, ni_mle, ni_eqm, ni_meq, ni_mm, ni_mmle, ni_bit, ni_shl, ni_clr, fa_or, Nat.add_zero, Nat.zero_add, Nat.zero_mul, Nat.mul_zero, eOn, eOs, if_true, if_false, not_true_eq_false, not_false_eq_true, ite_true, ite_false, true_and, and_true, false_and, and_false, or_true, true_or, or_false, false_or, Bool.false_eq_true, reduceIte, Bool.not_true, Bool.not_false, and_self, or_self, q_ef, q_et, q_ltt, q_ltf, q_let, q_lef, gIs, gIl, gIr, gLs, gLl, gLr, gPs, gPl, gPr, gLc, gPc, zb_some, Option.bind_some, q_nm, q_pm, q_hm, q_tm, q_sm, q_wm, q_ym, q_lm, q_ua, s6 j hj hg]; rfl
  · simp (disch := omega) only [ni_lit, nI_add, pk_mul, pk_sub, pk_div, nI_leI, nI_ltI, nI_eq, nI_clamp, ni_in, ni_inm, ni_ltm, ni_mlt, ni_lem, ni_mle, ni_eqm, ni_meq, ni_mm, ni_mmle, ni_bit, ni_shl, ni_clr, fa_or, Nat.add_zero, Nat.zero_add, Nat.zero_mul, Nat.mul_zero, eOn, eOs, if_true, if_false, not_true_eq_false, not_false_eq_true, ite_true, ite_false, true_and, and_true, false_and, and_false, or_true, true_or, or_false, false_or, Bool.false_eq_true, reduceIte, Bool.not_true, Bool.not_false, and_self, or_self, q_ef, q_et, q_ltt, q_ltf, q_let, q_lef, gIs, gIl, gIr, gLs, gLl, gLr, gPs, gPl, gPr, gLc, gPc, zb_some, Option.bind_some, q_nm, q_pm, q_hm, q_tm, q_sm, q_wm, q_ym, q_lm, q_ua, s7 j hj hg]; rfl
  · simp (disch := omega) only [ni_lit, nI_add, pk_mul, pk_sub, pk_div, nI_leI, nI_ltI, nI_eq, nI_clamp, ni_in, ni_inm, ni_ltm, ni_mlt, ni_lem, ni_mle, ni_eqm, ni_meq, ni_mm, ni_mmle, ni_bit, ni_shl, ni_clr, fa_or, Nat.add_zero, Nat.zero_add, Nat.zero_mul, Nat.mul_zero, eOn, eOs, if_true, if_false, not_true_eq_false, not_false_eq_true, ite_true, ite_false, true_and, and_true, false_and, and_false, or_true, true_or, or_false, false_or, Bool.false_eq_true, reduceIte, Bool.not_true, Bool.not_false, and_self, or_self, q_ef, q_et, q_ltt, q_ltf, q_let, q_lef, gIs, gIl, gIr, gLs, gLl, gLr, gPs, gPl, gPr, gLc, gPc, zb_some, Option.bind_some, q_nm, q_pm, q_hm, q_tm, q_sm, q_wm, q_ym, q_lm, q_ua, s8 j hj]; rfl
theorem c39 (hH : cH S q P) (hp : z_K p = 8) (hs : cSt S p 16 s) (hG : q_Gd P s) : ∃ S', fV (d + 5) 39 [.ref 22, .ref p] S = some S' ∧ onI (hD p) S S' ∧ cSt S' p 16 (q_end P s) := by
  have hP := hH.2.2.2.2
  have hL := hP.2.2.2.2.1
  have p8 := zP8 hp
  have e := e39 (d + 4) p S hH.1 hp
  have hn := hG.2.2.2.2.2.2.2.2.2.2.2.2.1
  have hs0 : cSt S p 16 (q_sety s (q_yj s 0)) := hs.cong rfl rfl rfl rfl (fun _ _ => rfl) (fun _ _ => rfl) (fun k _ => by show q_y s k = q_yj s 0 k; unfold q_yj; rw [if_neg (by omega)]) rfl
  obtain ⟨S1, a1, a2, a3⟩ := c39_1 (d := d + 3) hp (hG.Bd hP) (p_L P) 0 S (by omega) hH hs0
  have hH1 : cH S1 q P := hH.on a2 (fun c k a b => by unfold pD at b; omega)
  have hGy := hG.sety (p_L P)
  have e1 := e.trans a1
  unfold q_end
  cases hd : (p_d P 1).isEmpty with
  | true =>
    have e2 := b39_48_eq (d + 4) p (nI 0) S1 hH1.1 hp
    have a0 := c60 (d := d + 3) (w := 1) hH1.1 hH1.2.1 hH1.2.2.2.1 (by omega)
    rw [hd] at a0
    have e3 : b39_48 (d + 4) p (nI 0) S1 = b39_110 (d + 4) p S1 := by
      by_cases c : p_L P ≤ 0
      · simp (disch := omega) only [ni_lit, nI_add, pk_mul, pk_sub, pk_div, nI_leI, nI_ltI, nI_eq, nI_clamp, ni_in, ni_inm, ni_ltm, ni_mlt, ni_lem, ni_mle, ni_eqm, ni_meq, ni_mm, ni_mmle, ni_bit, ni_shl, ni_clr, fa_or, Nat.add_zero, Nat.zero_add, Nat.zero_mul, Nat.mul_zero, eOn, eOs, if_true, if_false, not_true_eq_false, not_false_eq_true, ite_true, ite_false, true_and, and_true, false_and, and_false, or_true, true_or, or_false, false_or, Bool.false_eq_true, reduceIte, Bool.not_true, Bool.not_false, and_self, or_self, q_ef, q_et, q_ltt, q_ltf, q_let, q_lef, gIs, gIl, gIr, gLs, gLl, gLr, gPs, gPl, gPr, gLc, gPc, zb_some, Option.bind_some, q_nm, q_pm, q_hm, q_tm, q_sm, q_wm, q_ym, q_lm, q_ua, hH1.2.2.1, hH1.2.2.2.1.2.2.2.2.2.2.1] at e2
        exact e2
      · simp (disch := omega) only [ni_lit, nI_add, pk_mul, pk_sub, pk_div, nI_leI, nI_ltI, nI_eq, nI_clamp, ni_in, ni_inm, ni_ltm, ni_mlt, ni_lem, ni_mle, ni_eqm, ni_meq, ni_mm, ni_mmle, ni_bit, ni_shl, ni_clr, fa_or, Nat.add_zero, Nat.zero_add, Nat.zero_mul, Nat.mul_zero, eOn, eOs, if_true, if_false, not_true_eq_false, not_false_eq_true, ite_true, ite_false, true_and, and_true, false_and, and_false, or_true, true_or, or_false, false_or, Bool.false_eq_true, reduceIte, Bool.not_true, Bool.not_false, and_self, or_self, q_ef, q_et, q_ltt, q_ltf, q_let, q_lef, gIs, gIl, gIr, gLs, gLl, gLr, gPs, gPl, gPr, gLc, gPc, zb_some, Option.bind_some, q_nm, q_pm, q_hm, q_tm, q_sm, q_wm, q_ym, q_lm, q_ua, hH1.2.2.1, hH1.2.2.2.1.2.2.2.2.2.2.1, a0, bIf] at e2
        exact e2
    obtain ⟨S', f1, f2, f3⟩ := c39_3 (d := d + 3) hp hH1.1 a3 hn
    refine ⟨S', (e1.trans e3).trans f1, (a2.trans f2).mono fun c k z => Or.inl z, ?_⟩
    rw [if_pos rfl]
    exact f3
  | false =>
    obtain ⟨S2, b1, b2, b3⟩ := c39_2 (d := d) hp hGy hd (p_L P) 0 S1 (by omega) hH1 a3
    have hn2 := q_lv_n P (q_sety s (q_yj s (p_L P))) (p_L P)
    obtain ⟨S', f1, f2, f3⟩ := c39_3 (d := d + 3) hp b2.W b3 (by rw [hn2.1]; exact hn)
    refine ⟨S', (e1.trans b1).trans f1, ((a2.mono fun c k z => Or.inl z).trans b2).trans (f2.mono fun c k z => Or.inl z), ?_⟩
    rw [if_neg (by decide)]
    rw [hn2.1] at f3
    exact f3
theorem c35 {b : Bool} (hH : cH S q P) (hp : z_K p = 8) (hs : cSt S p 16 s) (hG : q_Gd P s) : ∃ S', fI (d + 7) 35 [.ref 22, .ref p, .int (bI b)] S = some (nI (if b then q_ntp P s else 0), S') ∧ onI (hD p) S S' ∧ cSt S' p 16 (q_nt P b s) ∧ q_Gd P (q_nt P b s) := by
  have hP := hH.2.2.2.2
  have p8 := zP8 hp
  have e := e35 (d + 6) p (bI b) S hH.1 hp
  obtain ⟨S1, a1, a2, a3, a4⟩ := c36 (d := d + 3) hH hp hs hG
  have hH1 : cH S1 q P := hH.on a2 (fun c k a b => by unfold pD at b; omega)
  rw [a1, Option.bind_some] at e
  have hn := q_seat_n P (q_l s) [] s
  cases b with
  | false =>
    rw [if_pos (by decide), b35_18_eq (d + 6) p _ S1 hH1.1 hp] at e
    obtain ⟨S2, b1, b2, b3⟩ := c39 (d := d + 1) hH1 hp a3 a4
    rw [b1, Option.bind_some] at e
    exact ⟨S2, e, (a2.mono fun c k z => Or.inl z).trans b2, b3, q_nt_G hP hG⟩
  | true =>
    obtain ⟨S2, b1, b2, b3⟩ := c37 (d := d) hH1 hp a3 a4
    have hH2 : cH S2 q P := hH1.on b2 (fun c k a b => by unfold hD at b; omega)
    rw [if_neg (by decide), b1, zb_some, b35_18_eq (d + 6) p _ S2 hH2.1 hp] at e
    obtain ⟨S3, d1, d2, d3⟩ := c39 (d := d + 1) hH2 hp b3 (a4.setp (by omega))
    rw [d1, Option.bind_some] at e
    refine ⟨S3, e, ((a2.mono fun c k z => Or.inl z).trans b2).trans d2, ?_, q_nt_G hP hG⟩
    rw [hn.2.1] at d3
    exact d3
end QN
