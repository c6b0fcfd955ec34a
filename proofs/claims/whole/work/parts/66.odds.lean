/-! THE ODDS. -/
/-- he sleeps behind the next night, if nobody knocks -/
def q_o0 (A : q_A) (k : Nat) : Nat := if q_w (q_nt (a_P A) true (a_s A)) k < 16 then 1 else 0
/-- .. if j knocks -/
def q_oj (A : q_A) (k j : Nat) : Nat := if q_w (a_s A) j = 255 then (if q_w (q_nt (a_P A) true (q_arr (a_P A) (p_T (a_P A)) (a_s A) j).1) k < 16 then 1 else 0) else q_o0 A k
def q_od (A : q_A) (k : Nat) (n : Nat) : Nat := (100 - p_K (a_P A)) * p_L (a_P A) * q_o0 A k + fb_sm (fun j => p_K (a_P A) * q_oj A k j) n
theorem q_o0_le (A : q_A) (k : Nat) : q_o0 A k ≤ 1 := by unfold q_o0; split <;> omega
theorem q_oj_le (A : q_A) (k j : Nat) : q_oj A k j ≤ 1 := by
  unfold q_oj
  split
  · split <;> omega
  · exact q_o0_le A k
theorem q_od_le {A : q_A} (hA : aOk A) (k : Nat) {n : Nat} (hn : n ≤ 16) : q_od A k n ≤ 3200 := by
  have hK := hA.1.2.2.2.1
  have hL := hA.1.2.2.2.2.1
  have h0 := q_o0_le A k
  have h1 : fb_sm (fun j => p_K (a_P A) * q_oj A k j) n ≤ n * 100 := by
    have := fb_sm_le (f := fun j => p_K (a_P A) * q_oj A k j) (g := fun _ => 100) (n := n) (fun j _ => by
      have := Nat.mul_le_mul hK (q_oj_le A k j)
      omega)
    rw [fb_sm_const] at this
    exact this
  have h2 : (100 - p_K (a_P A)) * p_L (a_P A) ≤ 100 * 16 := Nat.mul_le_mul (by omega) hL
  have h3 : (100 - p_K (a_P A)) * p_L (a_P A) * q_o0 A k ≤ 100 * 16 * 1 := Nat.mul_le_mul h2 h0
  unfold q_od
  omega
theorem q_nt_fw (P : q_Pl) (s : q_St) (k : Nat) : q_w (q_nt P false s) k = q_w (q_nt P true s) k := by
  obtain ⟨y, hy⟩ := q_nt_setp P false s (q_p s)
  rw [q_setp_id] at hy
  rw [hy]
  rfl
/-- the state of q_arr is right -/
theorem q_chn_G {P : q_Pl} {T : Nat} (hP : p_Wf P) : ∀ (n : Nat) (s : q_St) (g r : Nat) (o : List (Nat × Nat)), q_Gd P s → g < p_L P → q_w s g = 255 → (r = p_f P g ∨ r = p_o P g) → q_Gd P (q_chn P T n s g r o).1
  | 0, s, g, r, o, hG, _, _, _ => hG
  | n + 1, s, g, r, o, hG, hg, hw, hr => by
    rw [q_chn]
    cases hv : q_s s r with
    | none => exact hG
    | some v =>
      obtain ⟨hG1, v2, hne⟩ := hG.put hP hg hw hr hv
      obtain ⟨nx1, nx2⟩ := q_oth_R hP v2 r
      have hw1 : q_w (q_out (q_bed s g r) v) v = 255 := q_us _ _ _
      dsimp only
      split
      · rename_i c; exact hG1.bed hP v2 hw1 nx2 c
      · split
        · exact q_chn_G hP n _ _ _ _ hG1 v2 hw1 nx2
        · exact hG1.ben hP v2 hw1
theorem q_arr_G {P : q_Pl} {T k : Nat} {s : q_St} (hP : p_Wf P) (hG : q_Gd P s) (hk : k < p_L P) (hw : q_w s k = 255) : q_Gd P (q_arr P T s k).1 := by
  unfold q_arr
  cases hin : q_in P s k with
  | some s1 =>
    obtain ⟨r, h1, h2, h3⟩ := q_in_bed hin
    rw [h3]
    exact hG.bed hP hk hw h1 h2
  | none =>
    dsimp only
    split
    · exact q_chn_G hP _ _ _ _ _ hG hk hw (Or.inl rfl)
    · split
      · exact q_chn_G hP _ _ _ _ _ hG hk hw (Or.inr rfl)
      · exact hG.ben hP hk hw
theorem q_chn_n (P : q_Pl) (T : Nat) : ∀ (n : Nat) (s : q_St) (g r : Nat) (o : List (Nat × Nat)), q_n (q_chn P T n s g r o).1 = q_n s
  | 0, s, g, r, o => rfl
  | n + 1, s, g, r, o => by
    rw [q_chn]
    cases hv : q_s s r with
    | none => rfl
    | some v =>
      dsimp only
      split
      · rfl
      · split
        · rw [q_chn_n P T n]; rfl
        · unfold q_ben; split <;> rfl
theorem q_arr_n (P : q_Pl) (T : Nat) (s : q_St) (k : Nat) : q_n (q_arr P T s k).1 = q_n s := by
  unfold q_arr
  cases hin : q_in P s k with
  | some s1 =>
    obtain ⟨r, h1, h2, h3⟩ := q_in_bed hin
    rw [h3]
    rfl
  | none =>
    dsimp only
    split
    · exact q_chn_n P T _ _ _ _ _
    · split
      · exact q_chn_n P T _ _ _ _ _
      · unfold q_ben; split <;> rfl
section TH
variable {d : Nat} {S : z_S} {A : q_A} {x y : Int32}
theorem c129_e {k : Nat} {s : q_St} (h : cA S A) (hA : aOk A) (hs : cSt S 32 16 s) (hG : q_Gd (a_P A) s) (hk : k < 16) : ∃ S1, b129_36 (d + 7) (nI k) S = some (nI (if q_w (q_nt (a_P A) true s) k < 16 then 1 else 0), S1) ∧ onI (fun c k => c < 396 ∧ cScr c k) S S1 ∧ cA S1 A := by
  have e := b129_36_eq (d + 7) (nI k) S h.1
  obtain ⟨v, S1, a1, a2, a3, a4⟩ := c_pass (d := d) (b := false) h hA hs hG
  have a1' : fI (d + 7) 35 [.ref 22, .ref 32, .int (0 : Int32)] S = some (v, S1) := a1
  rw [a1', zb_some, c77 (d := d + 6) a4.1 (by decide +kernel) a3 ((q_nt_G hA.1 hG).Bd hA.1) hk (by omega), zb_some, q_nt_fw] at e
  refine ⟨S1, ?_, a2, a4⟩
  rw [e]
  by_cases c : q_w (q_nt (a_P A) true s) k < 16
  · rw [decide_eq_true c, if_neg (by decide), if_pos c]; rfl
  · rw [decide_eq_false c, if_pos (by decide), if_neg c]; rfl
theorem c129_0 {k : Nat} (h : cA S A) (hA : aOk A) (hk : k < 16) : ∃ S1, fI (d + 8) 129 [.ref 0, .int (nI k), .int (-1)] S = some (nI (q_o0 A k), S1) ∧ onI (fun c k => c < 396 ∧ cScr c k) S S1 ∧ cA S1 A := by
  have e := e129 (d + 7) (nI k) (-1) S h.1
  obtain ⟨S1, q1, a1, a2, a3, a4, hH1, hq1⟩ := c_try (d := d + 6) h hA
  rw [a1, Option.bind_some, if_pos rfl] at e
  obtain ⟨S2, b1, b2, b3⟩ := c129_e (d := d) a4 hA a3 hA.2.1 hk
  exact ⟨S2, e.trans b1, (a2.mono fun c k z => by unfold pD at z; unfold cScr; omega).trans b2, b3⟩
theorem c129_j {k j : Nat} (h : cA S A) (hA : aOk A) (hk : k < 16) (hj : j < p_L (a_P A)) (hw : q_w (a_s A) j = 255) : ∃ S1, fI (d + 8) 129 [.ref 0, .int (nI k), .int (nI j)] S = some (nI (q_oj A k j), S1) ∧ onI (fun c k => c < 396 ∧ cScr c k) S S1 ∧ cA S1 A := by
  have hL := hA.1.2.2.2.2.1
  have e := e129 (d + 7) (nI k) (nI j) S h.1
  obtain ⟨S1, q1, a1, a2, a3, a4, hH1, hq1⟩ := c_try (d := d + 6) h hA
  obtain ⟨S2, b1, b2, b3, b4, b5, b6⟩ := c32 (d := d + 1) (p := 32) hH1 (by decide +kernel) a3 hA.2.1 hj hw hA.1.2.2.1
  have hT : gI S1 q1 3 = nI (p_T (a_P A)) := hH1.2.2.2.1.2.2.2.1
  have b2' : onI (fun c k => c < 396 ∧ cScr c k) S1 S2 := b2.mono fun c k z => by unfold hD at z; unfold cScr; omega
  have h2 : cA S2 A := a4.scr b2' fun c k z => z.2
  rw [a1, Option.bind_some, if_neg (show ¬ nI j = -1 from fun z => (ni_eqm (by omega)).mp z), hq1, hT, b1, zb_some] at e
  obtain ⟨S3, f1, f2, f3⟩ := c129_e (d := d) h2 hA b3 b5 hk
  refine ⟨S3, ?_, ((a2.mono fun c k z => by unfold pD at z; unfold cScr; omega).trans b2').trans f2, f3⟩
  unfold q_oj
  rw [if_pos hw]
  exact e.trans f1
theorem c128_l {k : Nat} (hA : aOk A) (hk : k < 16) : ∀ (m i : Nat) (S : z_S), i + m = p_L (a_P A) → cA S A → ∃ S1, b128_85 (d + 8) (nI k) (nI (q_o0 A k)) (nI (q_od A k i)) (nI i) S = some (nI (q_od A k (p_L (a_P A))), S1) ∧ onI (fun c k => c < 396 ∧ cScr c k) S S1
  | 0, i, S, hi, h => by
    obtain ⟨q, hH, hq⟩ := h.H hA
    have hL := hA.1.2.2.2.2.1
    have e := b128_85_eq (d + 8) (nI k) (nI (q_o0 A k)) (nI (q_od A k i)) (nI i) S h.1
    rw [hq, hH.2.2.2.1.2.2.2.2.2.2.1, if_pos ((nI_leI (by omega) (by omega)).mpr (by omega)), show i = p_L (a_P A) by omega] at e
    rw [show i = p_L (a_P A) by omega]
    exact ⟨S, e, onI.refl h.1⟩
  | m + 1, i, S, hi, h => by
    obtain ⟨q, hH, hq⟩ := h.H hA
    have hL := hA.1.2.2.2.2.1
    have hK := hA.1.2.2.2.1
    have e := b128_85_eq (d + 8) (nI k) (nI (q_o0 A k)) (nI (q_od A k i)) (nI i) S h.1
    have a0 := c152 (d := d + 6) (x := nI i) h hA
    have haw : q_aw A (nI i) = decide (q_w (a_s A) i = 255) := by unfold q_aw; rw [ixO_n (by omega) (by omega), nI_toInt (by omega)]; rfl
    rw [haw] at a0
    have hod : q_od A k (i + 1) = q_od A k i + p_K (a_P A) * q_oj A k i := by unfold q_od; rw [fb_sm_succ, Nat.add_assoc]
    rw [hq, hH.2.2.2.1.2.2.2.2.2.2.1, hH.2.2.2.1.2.2.2.2.1, if_neg (fun z => by have := (nI_leI (by omega) (by omega)).mp z; omega), a0, zb_some] at e
    by_cases c : q_w (a_s A) i = 255
    · obtain ⟨S1, a1, a2, a3⟩ := c129_j (d := d) (k := k) (j := i) h hA hk (by omega) c
      rw [decide_eq_true c, if_neg (by decide), a1, zb_some, b128_125_eq (d + 8) _ _ _ _ _ _ S1 a2.W, pk_mul, nI_add, show (1 : Int32) = nI 1 from rfl, nI_add, ← hod] at e
      obtain ⟨S2, b1, b2⟩ := c128_l hA hk m (i + 1) S1 (by omega) a3
      exact ⟨S2, e.trans b1, a2.trans b2⟩
    · have hoj : q_oj A k i = q_o0 A k := by unfold q_oj; rw [if_neg c]
      rw [hoj] at hod
      rw [decide_eq_false c, if_pos (by decide), b128_125_eq (d + 8) _ _ _ _ _ _ S h.1, pk_mul, nI_add, show (1 : Int32) = nI 1 from rfl, nI_add, ← hod] at e
      obtain ⟨S2, b1, b2⟩ := c128_l hA hk m (i + 1) S (by omega) h
      exact ⟨S2, e.trans b1, b2⟩
theorem m252_e {k j : Nat} {s : q_St} {z : Int32} {w : Nat} (h : mA S A) (hA : aOk A) (hs : mSt S 1 s) (hG : q_Gd (a_P A) s) (hn : q_n s ≤ 998) (hk : k < 16) (hz : z = -1 ∧ w = (100 - p_K (a_P A)) * p_L (a_P A) ∨ z ≠ -1 ∧ w = p_K (a_P A)) {y : Nat} : ∃ S1, b252_99 (d + 7) (nI k) (nI y) z S = b252_59 (d + 7) (nI k) (nI (y + w * (if q_w (q_nt (a_P A) true s) k < 16 then 1 else 0))) (z + 1) S1 ∧ onM (fun c k => 396 ≤ c ∧ mScr c k) S S1 ∧ mA S1 A := by
  have e := b252_99_eq (d + 7) (nI k) (nI y) z S h.W
  obtain ⟨v, S1, a1, a2, a3, a4⟩ := m_pass (d := d) h hA hs hG
  have a1' : fI (d + 7) 226 [.ref 396, .int (1 : Int32)] S = some (v, S1) := a1
  obtain ⟨b, hM⟩ := a4.2.1
  have hb := hM.2.1
  have hK := hA.1.2.2.2.1
  rw [q_nt_setn hn] at a3
  have hG1 := q_nt_G (b := true) hA.1 hG
  have ib : z_in (nI b) 2 := (ni_in (by omega)).mpr hb
  rw [a1', zb_some, hM.2.2.1] at e
  simp only [if_pos ib] at e
  rw [nI_clamp (by omega), hM.2.2.2.1.2.2.2.1, hM.2.2.2.1.2.2.2.2.1, show (100 : Int32) = nI 100 from rfl, pk_sub hK, pk_mul] at e
  have e1 : b252_99 (d + 7) (nI k) (nI y) z S = b252_144 (d + 7) (nI k) (nI y) z (nI w) S1 := by
    rw [e]
    rcases hz with ⟨z1, z2⟩ | ⟨z1, z2⟩
    · rw [if_neg (fun q => q z1), z2]
    · rw [if_pos z1, z2]
  have e2 := b252_144_eq (d + 7) (nI k) (nI y) z (nI w) S1 a4.W
  have a5 : fI (d + 7) 213 [.ref 396, .int (1 : Int32), .int (nI k)] S1 = _ := m213 (d := d + 6) (v := 1) hM (by omega) a3 hG1 hk
  rw [a5, zb_some] at e2
  refine ⟨S1, e1.trans ?_, a2, a4⟩
  rw [e2]
  by_cases c : q_w (q_nt (a_P A) true s) k < 16
  · have hr : q_rm (q_nt (a_P A) true s) k = some (q_w (q_nt (a_P A) true s) k) := by unfold q_rm; rw [if_pos c]
    rw [hr, if_neg (show ¬ eO (some _) = -1 from fun z => (ni_eqm (by omega)).mp z), b252_163_eq (d + 7) _ _ _ _ S1 a4.W, nI_add, if_pos c, Nat.mul_one]
  · have hr : q_rm (q_nt (a_P A) true s) k = none := by unfold q_rm; rw [if_neg c]
    rw [hr, if_pos (by decide), b252_163_eq (d + 7) _ _ _ _ S1 a4.W, show (0 : Int32) = nI 0 from rfl, nI_add, if_neg c, Nat.mul_zero]
theorem m252_l {k : Nat} (hA : aOk A) (hk : k < 16) (hn : q_n (a_s A) ≤ 998) : ∀ (m i : Nat) (S : z_S), i + m = p_L (a_P A) → mA S A → ∃ S1, b252_59 (d + 7) (nI k) (nI (q_od A k i)) (nI i) S = some (nI (q_od A k (p_L (a_P A))), S1) ∧ onM (fun c k => 396 ≤ c ∧ mScr c k) S S1
  | 0, i, S, hi, h => by
    obtain ⟨b, hM⟩ := h.2.1
    have hb := hM.2.1
    have hL := hA.1.2.2.2.2.1
    have e := b252_59_eq (d + 7) (nI k) (nI (q_od A k i)) (nI i) S h.W
    simp (disch := omega) only [ni_lit, nI_add, pk_mul, pk_sub, pk_div, nI_leI, nI_ltI, nI_eq, nI_clamp, ni_in, ni_inm, ni_ltm, ni_mlt, ni_lem, ni_mle, ni_eqm, ni_meq, ni_mm, ni_mmle, ni_bit, ni_shl, ni_clr, fa_or, Nat.add_zero, Nat.zero_add, Nat.zero_mul, Nat.mul_zero, eOn, eOs, q_ef, q_et, q_ltt, q_ltf, q_let, q_lef, if_true, hM.2.2.1, hM.2.2.2.1.2.2.2.2.1] at e
    rw [show i = p_L (a_P A) by omega] at e ⊢
    exact ⟨S, e, onM.refl h.W⟩
  | m + 1, i, S, hi, h => by
    obtain ⟨b, hM⟩ := h.2.1
    have hb := hM.2.1
    have hL := hA.1.2.2.2.2.1
    have e := b252_59_eq (d + 7) (nI k) (nI (q_od A k i)) (nI i) S h.W
    obtain ⟨S1, b1, a1, a2, a3, a4, a5, hM1⟩ := m_try (d := d + 6) h hA (hA.mL (k := i) (by omega))
    have a1' : fV (d + 7) 196 [.ref 396, .int (nI 1), .int (nI 0)] S = some S1 := a1
    have aw : fI (d + 7) 215 [.ref 396, .int (nI 1), .int (nI i)] S1 = _ := m215 (d := d + 5) (v := 1) hM1 (by omega) a3 hA.2.1 (by omega)
    have hod : q_od A k (i + 1) = q_od A k i + p_K (a_P A) * q_oj A k i := by unfold q_od; rw [fb_sm_succ, Nat.add_assoc]
    have l1 : onM (fun c k => 396 ≤ c ∧ mScr c k) S S1 := a2.mono fun c k z => by unfold vD kD at z; unfold mScr vD kD; omega
    simp (disch := omega) only [ni_lit, nI_add, pk_mul, pk_sub, pk_div, nI_leI, nI_ltI, nI_eq, nI_clamp, ni_in, ni_inm, ni_ltm, ni_mlt, ni_lem, ni_mle, ni_eqm, ni_meq, ni_mm, ni_mmle, ni_bit, ni_shl, ni_clr, fa_or, Nat.add_zero, Nat.zero_add, Nat.zero_mul, Nat.mul_zero, eOn, eOs, q_ef, q_et, q_ltt, q_ltf, q_let, q_lef, zb_some, Option.bind_some, if_true, if_false, hM.2.2.1, hM.2.2.2.1.2.2.2.2.1, a1', aw] at e
    have hne : nI i ≠ -1 := fun z => (ni_eqm (by omega)).mp z
    by_cases c : q_w (a_s A) i = 255
    · obtain ⟨S2, f1, f2, f3, f4, f5⟩ := m220 (d := d) (v := 1) hM1 (by omega) a5.2.2.2.1 hA.1.2.2.1 a3 a4 hA.2.1 (show i < p_L (a_P A) by omega) c
      have l2 : onM (fun c k => 396 ≤ c ∧ mScr c k) S1 S2 := f2.mono fun c k z => by unfold mD vD kD at z; unfold mScr vD kD; omega
      have h2 : mA S2 A := a5.scr hA l2 fun c k z => z.2
      have f1' : fI (d + 7) 220 [.ref 396, .int (nI 1), .int (nI i)] S1 = _ := f1
      rw [decide_eq_true c, if_neg (by decide), f1', zb_some] at e
      obtain ⟨S3, g1, g2, g3⟩ := m252_e (d := d) (j := i) (k := k) (z := nI i) (w := p_K (a_P A)) (y := q_od A k i) h2 hA f3 (q_arr_G hA.1 hA.2.1 (by omega) c) (by rw [q_arr_n]; exact hn) hk (Or.inr ⟨hne, rfl⟩)
      have hoj : (if q_w (q_nt (a_P A) true (q_arr (a_P A) (p_T (a_P A)) (a_s A) i).1) k < 16 then 1 else 0) = q_oj A k i := by unfold q_oj; rw [if_pos c]
      rw [hoj, ← hod, show (1 : Int32) = nI 1 from rfl, nI_add] at g1
      obtain ⟨S4, j1, j2⟩ := m252_l hA hk hn m (i + 1) S3 (by omega) g3
      exact ⟨S4, (e.trans g1).trans j1, ((l1.trans l2).trans g2).trans j2⟩
    · rw [decide_eq_false c, if_pos (by decide)] at e
      obtain ⟨S3, g1, g2, g3⟩ := m252_e (d := d) (j := i) (k := k) (z := nI i) (w := p_K (a_P A)) (y := q_od A k i) a5 hA a3 hA.2.1 hn hk (Or.inr ⟨hne, rfl⟩)
      have hoj : (if q_w (q_nt (a_P A) true (a_s A)) k < 16 then 1 else 0) = q_oj A k i := by unfold q_oj; rw [if_neg c]; rfl
      rw [hoj, ← hod, show (1 : Int32) = nI 1 from rfl, nI_add] at g1
      obtain ⟨S4, j1, j2⟩ := m252_l hA hk hn m (i + 1) S3 (by omega) g3
      exact ⟨S4, (e.trans g1).trans j1, (l1.trans g2).trans j2⟩
theorem t_odds : twoI (d + 20) 128 252 [.int x] A A := by
  refine two_q (if p_L (a_P A) = 0 ∨ 999 ≤ q_n (a_s A) then -1 else if x = -1 then nI (100 * p_L (a_P A)) else if ixO (p_L (a_P A)) x = true then nI (q_od A x.toInt.toNat (p_L (a_P A))) else -1) (fun S h hA => ?_) (fun S h hA => ?_)
  · obtain ⟨q, hH, hq⟩ := h.H hA
    have hL := hA.1.2.2.2.2.1
    have hK := hA.1.2.2.2.1
    have hn := hA.2.2.1
    have h0 : gI S 27 0 = nI (q_n (a_s A)) := h.s.1
    have e := e128 (d + 19) x S h.1
    rw [hq, hH.2.2.2.1.2.2.2.2.2.2.1, h0, c59x (d := d + 18) hH.1 hH.2.1 hH.2.2.2.1 hA.1, zb_some] at e
    by_cases c1 : p_L (a_P A) = 0
    · rw [if_pos (Or.inl c1)]
      rw [c1, if_pos (by decide)] at e
      exact ⟨S, e, onI.refl h.1⟩
    · rw [if_neg (show ¬ nI (p_L (a_P A)) = 0 from nI_ne0 (by omega) (by omega))] at e
      by_cases c2 : 999 ≤ q_n (a_s A)
      · rw [if_pos (Or.inr c2)]
        rw [if_neg (show ¬ nI (q_n (a_s A)) < 999 from fun z => by have := (nI_ltI (b := 999) (by omega) (by omega)).mp z; omega)] at e
        exact ⟨S, e, onI.refl h.1⟩
      · rw [if_neg (fun z => z.elim c1 c2)]
        rw [if_pos (show nI (q_n (a_s A)) < 999 from (nI_ltI (b := 999) (by omega) (by omega)).mpr (by omega))] at e
        by_cases c3 : x = -1
        · rw [if_neg (fun z => z c3), show (100 : Int32) = nI 100 from rfl, pk_mul] at e
          rw [if_pos c3]
          exact ⟨S, e, onI.refl h.1⟩
        · rw [if_pos c3] at e
          rw [if_neg c3]
          by_cases c4 : ixO (p_L (a_P A)) x = true
          · obtain ⟨k, k1, rfl⟩ := ixO_t c4 (by omega)
            rw [if_pos c4, nI_toInt (by omega), show ((k : Int)).toNat = k from rfl]
            obtain ⟨S1, a1, a2, a3⟩ := c129_0 (d := d + 11) (k := k) h hA (by omega)
            obtain ⟨q1, hH1, hq1⟩ := a3.H hA
            rw [c4, if_pos (by decide), a1, zb_some, hq1, hH1.2.2.2.1.2.2.2.2.1, hH1.2.2.2.1.2.2.2.2.2.2.1, show (100 : Int32) = nI 100 from rfl, pk_sub hK, pk_mul, pk_mul] at e
            obtain ⟨S2, b1, b2⟩ := c128_l (d := d + 11) (k := k) hA (by omega) (p_L (a_P A)) 0 S1 (by omega) a3
            exact ⟨S2, e.trans b1, a2.trans b2⟩
          · have c4' : ixO (p_L (a_P A)) x = false := by simpa using c4
            rw [if_neg c4]
            rw [c4', if_neg (by decide)] at e
            exact ⟨S, e, onI.refl h.1⟩
  · have hW := h.W
    obtain ⟨b, hM⟩ := h.2.1
    have hb := hM.2.1
    have hL := hA.1.2.2.2.2.1
    have hn := hA.2.2.1
    have e := e252 (d + 19) x S hW
    have e2 := b252_13_eq (d + 19) x S hW
    have a0 : fI (d + 19) 235 [.ref 396, .int (1 : Int32), .int (1 : Int32), .int (1 : Int32)] S = _ := m235 (d := d + 17) (x := nI 1) (a := 1) (c := 1) h hA (by omega) (by omega)
    have ib : z_in (nI b) 2 := (ni_in (by omega)).mpr hb
    rw [hM.2.2.1, if_pos ib, nI_clamp (by omega), hM.2.2.2.1.2.2.2.2.1, a0, zb_some, hM.2.2.1, if_pos ib, nI_clamp (by omega), hM.2.2.2.1.2.2.2.2.1, show (100 : Int32) = nI 100 from rfl, pk_mul] at e2
    rw [m228 (d := d + 18) hM, zb_some] at e
    by_cases c0 : ixO (p_L (a_P A)) x = true ∨ x = -1
    · have e3 : fI (d + 20) 252 [.ref 396, .int x] S = b252_13 (d + 19) x S := by
        rw [e]
        by_cases c3 : x = -1
        · rw [if_pos c3]
        · rw [if_neg c3]
          rcases c0 with z | z
          · rw [z, if_neg (by decide)]
          · exact absurd z c3
      by_cases c1 : p_L (a_P A) = 0
      · rw [if_pos (Or.inl c1)]
        rw [if_pos (show nI (p_L (a_P A)) = 0 by rw [c1]; rfl)] at e2
        exact ⟨S, e3.trans e2, onM.refl hW⟩
      · have hm : 0 < p_m (a_P A) := by
          rcases Nat.eq_zero_or_pos (p_m (a_P A)) with z | z
          · exact absurd (hA.2.2.2.2.2.2.2.2.2 z).2.2.2.1 c1
          · exact z
        rw [if_neg (show ¬ nI (p_L (a_P A)) = 0 from nI_ne0 (by omega) (by omega)), decide_eq_true hm, Bool.true_and] at e2
        have h1 : (nI 1).toInt = 1 := rfl
        rw [h1] at e2
        by_cases c2 : 999 ≤ q_n (a_s A)
        · rw [if_pos (Or.inr c2)]
          rw [decide_eq_false (by omega), if_neg (by decide)] at e2
          exact ⟨S, e3.trans e2, onM.refl hW⟩
        · rw [if_neg (fun z => z.elim c1 c2)]
          rw [decide_eq_true (by omega), if_pos (by decide)] at e2
          by_cases c3 : x = -1
          · rw [if_neg (fun z => z c3)] at e2
            rw [if_pos c3]
            exact ⟨S, e3.trans e2, onM.refl hW⟩
          · rw [if_pos c3] at e2
            rw [if_neg c3]
            have c4 : ixO (p_L (a_P A)) x = true := c0.resolve_right c3
            obtain ⟨k, k1, rfl⟩ := ixO_t c4 (by omega)
            rw [if_pos c4, nI_toInt (by omega), show ((k : Int)).toNat = k from rfl]
            have e4 := b252_59_eq (d + 19) (nI k) (nI 0) (-1) S hW
            obtain ⟨S1, b1, a1, a2, a3, a4, a5, hM1⟩ := m_try (d := d + 18) h hA (hA.mL k1)
            have a1' : fV (d + 19) 196 [.ref 396, .int (1 : Int32), .int (0 : Int32)] S = some S1 := a1
            rw [hM.2.2.1, if_pos ib, nI_clamp (by omega), hM.2.2.2.1.2.2.2.2.1, if_neg (show ¬ nI (p_L (a_P A)) ≤ -1 from fun z => (ni_lem (by omega)).mp z), a1', Option.bind_some, if_pos rfl] at e4
            obtain ⟨S3, g1, g2, g3⟩ := m252_e (d := d + 12) (j := 0) (k := k) (z := -1) (w := (100 - p_K (a_P A)) * p_L (a_P A)) (y := 0) a5 hA a3 hA.2.1 (by omega) (by omega) (Or.inl ⟨rfl, rfl⟩)
            have g1' : b252_99 (d + 19) (nI k) (nI 0) (-1) S1 = b252_59 (d + 19) (nI k) (nI (q_od A k 0)) (nI 0) S3 := by
              rw [g1, Nat.zero_add]
              rfl
            obtain ⟨S4, j1, j2⟩ := m252_l (d := d + 12) (k := k) hA (by omega) (by omega) (p_L (a_P A)) 0 S3 (by omega) g3
            exact ⟨S4, (((e3.trans e2).trans e4).trans g1').trans j1, ((a2.mono fun c k z => by unfold vD kD at z; unfold mScr vD kD; omega).trans g2).trans j2⟩
    · have c3 : ¬ x = -1 := fun z => c0 (Or.inr z)
      have c4 : ¬ ixO (p_L (a_P A)) x = true := fun z => c0 (Or.inl z)
      have c4' : ixO (p_L (a_P A)) x = false := by simpa using c4
      rw [if_neg c3, c4', if_pos (by decide)] at e
      refine ⟨S, ?_, onM.refl hW⟩
      rw [if_neg c3, if_neg c4, ite_self]
      exact e
end TH
