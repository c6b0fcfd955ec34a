/-! NIGHTS AHEAD: the purse is seen by nobody; who is away stays away. -/
theorem q_in_setp (P : q_Pl) (s : q_St) (x k : Nat) : q_in P (q_setp s x) k = (q_in P s k).map (fun s' => q_setp s' x) := by
  have e : ∀ r, q_free (q_setp s x) r = q_free s r := fun r => rfl
  unfold q_in
  rw [e, e]
  split
  · rfl
  · split
    · rfl
    · rfl
theorem q_seat_setp (P : q_Pl) (x : Nat) : ∀ (r kp : List Nat) (s : q_St), q_seat P r kp (q_setp s x) = q_setp (q_seat P r kp s) x
  | [], kp, s => rfl
  | k :: r, kp, s => by
    rw [q_seat, q_seat, q_in_setp]
    cases hi : q_in P s k with
    | some s' => exact q_seat_setp P x r kp s'
    | none => exact q_seat_setp P x r (kp ++ [k]) s
theorem q_away_setp (s : q_St) (x k : Nat) : q_away (q_setp s x) k = q_setp (q_away s k) x := by
  have e : q_w (q_setp s x) k = q_w s k := rfl
  unfold q_away
  rw [e]
  split
  · rfl
  · rfl
theorem q_lv_setp (P : q_Pl) (s : q_St) (x : Nat) : ∀ j, q_lv P (q_setp s x) j = q_setp (q_lv P s j) x
  | 0 => rfl
  | j + 1 => by
    rw [q_lv, q_lv, q_lv_setp P s x j]
    have e1 : q_w (q_setp (q_lv P s j) x) j = q_w (q_lv P s j) j := rfl
    have e2 : q_env P (q_setp (q_lv P s j) x) (q_w (q_setp (q_lv P s j) x) j) j (q_l (q_setp (q_lv P s j) x)).length = q_env P (q_lv P s j) (q_w (q_lv P s j) j) j (q_l (q_lv P s j)).length := rfl
    rw [e2, e1]
    split
    · exact q_away_setp _ _ _
    · rfl
theorem q_end_setp (P : q_Pl) (s : q_St) (x : Nat) : q_end P (q_setp s x) = q_setp (q_end P s) x := by
  have e : q_sety (q_setp s x) (q_yj (q_setp s x) (p_L P)) = q_setp (q_sety s (q_yj s (p_L P))) x := rfl
  unfold q_end
  rw [e, q_lv_setp]
  split
  · rfl
  · rfl
theorem q_nt_setp (P : q_Pl) (b : Bool) (s : q_St) (x : Nat) : ∃ y, q_nt P b (q_setp s x) = q_setp (q_nt P true s) y := by
  have e : q_l (q_setp s x) = q_l s := rfl
  unfold q_nt
  rw [e, q_seat_setp]
  simp only [if_true]
  cases b with
  | true =>
    rw [if_pos rfl]
    refine ⟨min 999999 (q_p (q_setp s x) + q_paid P (q_setp (q_seat P (q_l s) [] s) x) (p_R P)), ?_⟩
    rw [← q_end_setp]
    rfl
  | false =>
    rw [if_neg (by decide)]
    refine ⟨x, ?_⟩
    rw [← q_end_setp]
    rfl
/-- n nights, with what is paid -/
def q_ns (P : q_Pl) : Nat → q_St → q_St
  | 0, s => s
  | n + 1, s => q_nt P true (q_ns P n s)
/-- n nights, nobody paying -/
def q_nf (P : q_Pl) : Nat → q_St → q_St
  | 0, s => s
  | n + 1, s => q_nt P false (q_nf P n s)
theorem q_setp_id (s : q_St) : q_setp s (q_p s) = s := rfl
theorem q_nf_ns (P : q_Pl) (s : q_St) : ∀ n, ∃ y, q_nf P n s = q_setp (q_ns P n s) y
  | 0 => ⟨q_p s, rfl⟩
  | n + 1 => by
    obtain ⟨y, hy⟩ := q_nf_ns P s n
    rw [q_nf, q_ns, hy]
    exact q_nt_setp P false (q_ns P n s) y
theorem q_nf_s (P : q_Pl) (s : q_St) (n : Nat) : q_s (q_nf P n s) = q_s (q_ns P n s) ∧ q_w (q_nf P n s) = q_w (q_ns P n s) := by
  obtain ⟨y, hy⟩ := q_nf_ns P s n
  rw [hy]
  exact ⟨rfl, rfl⟩
theorem q_nt_n (P : q_Pl) (b : Bool) (s : q_St) : q_n (q_nt P b s) = min 999 (q_n s + 1) := by
  have h := (q_seat_n P (q_l s) [] s).1
  unfold q_nt q_end
  cases b with
  | true => show min 999 (q_n (q_seat P (q_l s) [] s) + 1) = _; rw [h]
  | false => show min 999 (q_n (q_seat P (q_l s) [] s) + 1) = _; rw [h]
theorem q_ns_n (P : q_Pl) (s : q_St) : ∀ n, q_n s + n ≤ 999 → q_n (q_ns P n s) = q_n s + n
  | 0, _ => rfl
  | n + 1, h => by rw [q_ns, q_nt_n, q_ns_n P s n (by omega)]; omega
theorem q_ns_G {P : q_Pl} {s : q_St} (hP : p_Wf P) (h : q_Gd P s) : ∀ n, q_Gd P (q_ns P n s)
  | 0 => h
  | n + 1 => q_nt_G hP (q_ns_G hP h n)
theorem q_nf_G {P : q_Pl} {s : q_St} (hP : p_Wf P) (h : q_Gd P s) : ∀ n, q_Gd P (q_nf P n s)
  | 0 => h
  | n + 1 => q_nt_G hP (q_nf_G hP h n)
theorem q_setn_id {s : q_St} {n : Nat} (h : q_n s = n) : q_setn s n = s := by rw [← h]; rfl
theorem q_nt_setn {P : q_Pl} {s : q_St} (h : q_n s ≤ 998) : q_setn (q_nt P true s) (q_n s + 1) = q_nt P true s := q_setn_id (by rw [q_nt_n]; omega)
theorem q_seat_w {P : q_Pl} {k : Nat} : ∀ (r kp : List Nat) (s : q_St), k ∉ r → q_w (q_seat P r kp s) k = q_w s k
  | [], kp, s, _ => rfl
  | j :: r, kp, s, h => by
    have hj : k ≠ j := fun z => h (by rw [z]; exact List.mem_cons_self)
    have hr : k ∉ r := fun z => h (List.mem_cons_of_mem _ z)
    rw [q_seat]
    cases hi : q_in P s j with
    | some s' =>
      obtain ⟨x, _, _, hx⟩ := q_in_bed hi
      show q_w (q_seat P r kp s') k = q_w s k
      rw [q_seat_w r kp s' hr, hx]
      exact q_un hj
    | none => exact q_seat_w r (kp ++ [j]) s hr
theorem q_lv_w {P : q_Pl} {s : q_St} {k : Nat} (h : q_w s k = 255) : ∀ j, q_w (q_lv P s j) k = 255
  | 0 => h
  | j + 1 => by
    rw [q_lv]
    split
    · unfold q_away
      split
      · show q_u (q_w (q_lv P s j)) j 255 k = 255
        by_cases z : k = j
        · rw [z, q_us]
        · rw [q_un z]; exact q_lv_w h j
      · show q_u (q_w (q_lv P s j)) j 255 k = 255
        by_cases z : k = j
        · rw [z, q_us]
        · rw [q_un z]; exact q_lv_w h j
    · exact q_lv_w h j
theorem q_end_w {P : q_Pl} {s : q_St} {k : Nat} (h : q_w s k = 255) : q_w (q_end P s) k = 255 := by
  unfold q_end
  show q_w (if (p_d P 1).isEmpty then q_sety s (q_yj s (p_L P)) else q_lv P (q_sety s (q_yj s (p_L P))) (p_L P)) k = 255
  split
  · exact h
  · exact q_lv_w (s := q_sety s (q_yj s (p_L P))) h _
theorem q_nt_w {P : q_Pl} {s : q_St} {k : Nat} {b : Bool} (hG : q_Gd P s) (h : q_w s k = 255) : q_w (q_nt P b s) k = 255 := by
  have hk : k ∉ q_l s := fun z => by have := (hG.2.2.2.2.2.1 k).mpr z; omega
  have h1 := q_seat_w (P := P) (q_l s) [] s hk
  unfold q_nt
  refine q_end_w ?_
  cases b with
  | true => exact h1.trans h
  | false => exact h1.trans h
theorem q_ns_w {P : q_Pl} {s : q_St} {k : Nat} (hP : p_Wf P) (hG : q_Gd P s) (h : q_w s k = 255) : ∀ n, q_w (q_ns P n s) k = 255
  | 0 => h
  | n + 1 => q_nt_w (q_ns_G hP hG n) (q_ns_w hP hG h n)
theorem q_yl_lt {P : q_Pl} {s : q_St} {r out T : Nat} (h : q_yl P s r out T = true) : out < T ∧ (q_s s r).isSome = true := by
  unfold q_yl at h
  split at h
  · cases h
  · rename_i k hk
    rw [Bool.and_eq_true] at h
    exact ⟨of_decide_eq_true h.1, by rw [hk]; rfl⟩
theorem q_chn_len (P : q_Pl) (T : Nat) : ∀ (n : Nat) (s : q_St) (g r : Nat) (o : List (Nat × Nat)), o.length + 1 ≤ T → (q_chn P T n s g r o).2.length ≤ T
  | 0, s, g, r, o, h => by rw [q_chn]; show o.length ≤ T; omega
  | n + 1, s, g, r, o, h => by
    rw [q_chn]
    split
    · show o.length ≤ T; omega
    · split
      · show (o ++ _).length ≤ T; simp; omega
      · split
        · rename_i hy
          have := (q_yl_lt hy).1
          exact q_chn_len P T n _ _ _ _ (by simp; omega)
        · show (o ++ _).length ≤ T; simp; omega
theorem q_arr_len (P : q_Pl) (T : Nat) (s : q_St) (k : Nat) : (q_arr P T s k).2.length ≤ T := by
  unfold q_arr
  split
  · exact Nat.zero_le _
  · split
    · rename_i hy
      exact q_chn_len P T T s k _ [] (by have := (q_yl_lt hy).1; simp; omega)
    · split
      · rename_i hy
        exact q_chn_len P T T s k _ [] (by have := (q_yl_lt hy).1; simp; omega)
      · exact Nat.zero_le _
section TE
variable {d : Nat} {S : z_S} {A : q_A} {x y : Int32}
/-- the class's other state becomes the one that is now -/
theorem c_try (h : cA S A) (hA : aOk A) : ∃ S1 q, fV (d + 1) 75 [.ref 32, .ref 27] S = some S1 ∧ onI (pD 32) S S1 ∧ cSt S1 32 16 (a_s A) ∧ cA S1 A ∧ cH S1 q (a_P A) ∧ gP S1 0 2 = q := by
  obtain ⟨S1, a1, a2, a3⟩ := c75 (d := d) (p := 32) (p1 := 27) h.1 (by decide +kernel) (by decide +kernel) (by decide) h.s (hA.2.1.Bd hA.1)
  have h1 := h.scr a2 (fun c k z => by unfold pD at z; unfold cScr; omega)
  obtain ⟨q, hH, hq⟩ := h1.H hA
  exact ⟨S1, q, a1, a2, a3, h1, hH, hq⟩
theorem m_try (h : mA S A) (hA : aOk A) (hm : 0 < p_m (a_P A)) : ∃ S1 b, fV (d + 1) 196 [.ref 396, .int (nI 1), .int (nI 0)] S = some S1 ∧ onM (fun c k => vD 1 c k ∨ kD 1 c k) S S1 ∧ mSt S1 1 (a_s A) ∧ mKp S1 1 (a_kl A) ∧ mA S1 A ∧ cM S1 b (a_P A) := by
  obtain ⟨S1, a1, a2, a3, a4⟩ := m196 (d := d) (t := 1) (f := 0) h.W (by omega) (by omega) (by omega) (h.st hm) h.2.2.2.2.2.1 (hA.2.1.Bd hA.1).2.2.1
  have h1 := h.scr hA a2 (fun c k z => z.elim (fun w => Or.inl w) (fun w => Or.inr (Or.inl w)))
  obtain ⟨b, hb⟩ := h1.2.1
  exact ⟨S1, b, a1, a2, a3, a4, h1, hb⟩
theorem t_chain : twoI (d + 20) 117 237 [.int x, .int y] A A := by
  refine two_q (if q_aw A x = true then (if y = -1 then nI (q_arr (a_P A) (p_T (a_P A)) (a_s A) x.toInt.toNat).2.length else if ixO (q_arr (a_P A) (p_T (a_P A)) (a_s A) x.toInt.toNat).2.length y = true then nI ((q_arr (a_P A) (p_T (a_P A)) (a_s A) x.toInt.toNat).2.getD y.toInt.toNat (0, 0)).1 else -1) else -1) (fun S h hA => ?_) (fun S h hA => ?_)
  · have e := e117 (d + 19) x y S h.1
    rw [c152 (d := d + 17) h hA, zb_some] at e
    by_cases c : q_aw A x = true
    · obtain ⟨k, k1, rfl, k3⟩ := q_aw_t hA c
      have hL := hA.1.2.2.2.2.1
      rw [if_pos c, nI_toInt (by omega), show ((k : Int)).toNat = k from rfl]
      obtain ⟨S1, q, a1, a2, a3, a4, hH, hq⟩ := c_try (d := d + 18) h hA
      obtain ⟨S2, b1, b2, b3, b4, b5, b6⟩ := c32 (d := d + 13) (p := 32) hH (by decide +kernel) a3 hA.2.1 k1 k3 hA.1.2.2.1
      have hT : gI S1 q 3 = nI (p_T (a_P A)) := hH.2.2.2.1.2.2.2.1
      rw [c, if_pos (by decide), a1, Option.bind_some, hq, hT, b1, zb_some, b117_69_eq (d + 19) S2 b2.W] at e
      have ho : onI (fun c k => c < 396 ∧ cScr c k) S S2 := (a2.mono fun c k z => by unfold pD at z; unfold cScr; omega).trans (b2.mono fun c k z => by unfold hD at z; unfold cScr; omega)
      refine ⟨S2, ?_, ho⟩
      rw [e]
      by_cases y1 : y = -1
      · rw [if_neg (fun z => z y1), if_pos y1]
      · rw [if_pos y1, if_neg y1]
        have hT40 := hA.1.2.2.1
        by_cases cy : ixO (q_arr (a_P A) (p_T (a_P A)) (a_s A) k).2.length y = true
        · obtain ⟨j, j1, rfl⟩ := ixO_t cy (by omega)
          rw [if_pos cy, nI_toInt (by omega), show ((j : Int)).toNat = j from rfl]
          have hO := (b4 j j1).1
          simp (disch := omega) only [ni_lit, nI_add, pk_mul, pk_sub, pk_div, nI_leI, nI_ltI, nI_eq, nI_clamp, ni_in, ni_inm, ni_ltm, ni_mlt, ni_lem, ni_mle, ni_eqm, ni_meq, ni_mm, ni_mmle, ni_bit, ni_shl, ni_clr, fa_or, Nat.add_zero, Nat.zero_add, Nat.zero_mul, Nat.mul_zero, eOn, eOs, if_true, if_false, not_true_eq_false, not_false_eq_true, ite_true, ite_false, true_and, and_true, false_and, and_false, or_true, true_or, or_false, false_or, Bool.false_eq_true, reduceIte, Bool.not_true, Bool.not_false, and_self, or_self, q_ef, q_et, q_ltt, q_ltf, q_let, q_lef, gIs, gIl, gIr, gLs, gLl, gLr, gPs, gPl, gPr, gLc, gPc, zb_some, Option.bind_some, q_nm, q_pm, q_hm, q_tm, q_sm, q_wm, q_ym, q_lm, q_ua, hO]
        · rw [if_neg cy]
          by_cases c1 : y < 0
          · rw [if_pos c1]
          · rw [if_neg c1]
            by_cases c2 : nI (q_arr (a_P A) (p_T (a_P A)) (a_s A) k).2.length ≤ y
            · rw [if_pos c2]
            · exfalso
              rw [x_lt0] at c1
              rw [fa_le, nI_toInt (by omega)] at c2
              exact cy (decide_eq_true (by omega))
    · have c' : q_aw A x = false := by simpa using c
      rw [if_neg c]
      rw [c', if_neg (by decide)] at e
      exact ⟨S, e, onI.refl h.1⟩
  · have hW := h.W
    have hL := hA.1.2.2.2.2.1
    obtain ⟨b0, hM0⟩ := h.2.1
    have e := e237 (d + 19) x y S hW
    rw [m228 (d := d + 18) hM0, zb_some] at e
    by_cases cL : ixO (p_L (a_P A)) x = true
    · obtain ⟨k, k1, rfl⟩ := ixO_t cL (by omega)
      have haw : q_aw A (nI k) = decide (q_w (a_s A) k = 255) := by unfold q_aw; rw [cL, nI_toInt (by omega)]; rfl
      have a0 : fI (d + 19) 215 [.ref 396, .int (0 : Int32), .int (nI k)] S = _ := m215 (d := d + 17) (v := 0) hM0 (by omega) (h.st (hA.mL k1)) hA.2.1 (by omega)
      rw [cL, if_neg (by decide), a0, zb_some] at e
      rw [haw, nI_toInt (by omega), show ((k : Int)).toNat = k from rfl]
      by_cases c : q_w (a_s A) k = 255
      · rw [decide_eq_true c, if_pos rfl]
        rw [decide_eq_true c, if_neg (by decide)] at e
        by_cases cm : (-1 : Int32) ≤ y
        · obtain ⟨S1, b, a1, a2, a3, a4, a5, hM⟩ := m_try (d := d + 18) h hA (hA.mL k1)
          have a1' : fV (d + 19) 196 [.ref 396, .int (1 : Int32), .int (0 : Int32)] S = some S1 := a1
          obtain ⟨S2, b1, b2, b3, b4, b5⟩ := m220 (d := d + 12) (v := 1) hM (by omega) a5.2.2.2.1 hA.1.2.2.1 a3 a4 hA.2.1 k1 c
          have b1' : fI (d + 19) 220 [.ref 396, .int (1 : Int32), .int (nI k)] S1 = _ := b1
          rw [if_pos cm, a1', Option.bind_some, b1', zb_some] at e
          have ho : onM (fun c k => 396 ≤ c ∧ mScr c k) S S2 := (a2.mono fun c k z => by unfold vD kD at z; unfold mScr vD kD; omega).trans (b2.mono fun c k z => by unfold mD vD kD at z; unfold mScr vD kD; omega)
          refine ⟨S2, ?_, ho⟩
          rw [e]
          by_cases y1 : y = -1
          · rw [if_neg (fun z => z y1), if_pos y1]
          · rw [if_pos y1, if_neg y1]
            have hT40 := hA.1.2.2.1
            have hlen := q_arr_len (a_P A) (p_T (a_P A)) (a_s A) k
            by_cases cy : ixO (q_arr (a_P A) (p_T (a_P A)) (a_s A) k).2.length y = true
            · obtain ⟨j, j1, rfl⟩ := ixO_t cy (by omega)
              rw [if_pos cy, nI_toInt (by omega), show ((j : Int)).toNat = j from rfl]
              have hO := b5 j j1
              simp (disch := omega) only [ni_lit, nI_add, pk_mul, pk_sub, pk_div, nI_leI, nI_ltI, nI_eq, nI_clamp, ni_in, ni_inm, ni_ltm, ni_mlt, ni_lem, ni_mle, ni_eqm, ni_meq, ni_mm, ni_mmle, ni_bit, ni_shl, ni_clr, fa_or, Nat.add_zero, Nat.zero_add, Nat.zero_mul, Nat.mul_zero, eOn, eOs, if_true, if_false, not_true_eq_false, not_false_eq_true, ite_true, ite_false, true_and, and_true, false_and, and_false, or_true, true_or, or_false, false_or, Bool.false_eq_true, reduceIte, Bool.not_true, Bool.not_false, and_self, or_self, q_ef, q_et, q_ltt, q_ltf, q_let, q_lef, gIs, gIl, gIr, gLs, gLl, gLr, gPs, gPl, gPr, gLc, gPc, zb_some, Option.bind_some, q_nm, q_pm, q_hm, q_tm, q_sm, q_wm, q_ym, q_lm, q_ua, hO]
            · rw [if_neg cy]
              by_cases c2 : nI (q_arr (a_P A) (p_T (a_P A)) (a_s A) k).2.length ≤ y
              · rw [if_pos c2]
              · exfalso
                rw [fa_le] at cm
                rw [fa_le, nI_toInt (by omega)] at c2
                rw [fa_eq] at y1
                have : (-1 : Int32).toInt = -1 := rfl
                exact cy (decide_eq_true (by omega))
        · rw [if_neg cm] at e
          refine ⟨S, ?_, onM.refl hW⟩
          rw [e]
          have y1 : ¬ y = -1 := fun z => cm (by rw [z]; decide)
          have cy : ¬ ixO (q_arr (a_P A) (p_T (a_P A)) (a_s A) k).2.length y = true := fun z => by
            have := of_decide_eq_true z
            rw [fa_le] at cm
            have h1 : (-1 : Int32).toInt = -1 := rfl
            omega
          rw [if_neg y1, if_neg cy]
      · rw [decide_eq_false c, if_neg (by decide)]
        rw [decide_eq_false c, if_pos (by decide)] at e
        exact ⟨S, e, onM.refl hW⟩
    · have cL' : ixO (p_L (a_P A)) x = false := by simpa using cL
      have haw : q_aw A x = false := by unfold q_aw; rw [cL']; rfl
      rw [haw, if_neg (by decide)]
      rw [cL', if_pos (by decide)] at e
      exact ⟨S, e, onM.refl hW⟩
end TE
