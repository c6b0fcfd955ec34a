/-! THE TEXT: the reference's words and names. -/
section HN
variable {d b : Nat} {T : List Nat} {S : z_S} {p : Nat} {Q : g_Q}
theorem m167 {l : List Nat} (hW : z_W S) (hv : g_vd l) (hl : l.length ≤ 6) : fI (d + 1) 167 [.ref 396, .long (lN (q_nw l))] S = some (bI (decide (g_oi l 24 ≠ none)), S) := by
  have l1 := q_nw_l6 hv hl
  have k : ∀ i n, i < 24 → q_nw (g_o i) = n → (lg_cmp (lN (q_nw l)) (lN n) = (0 : Int32) ↔ l = g_o i) := fun i n h24 hn => by
    obtain ⟨o1, o2, _⟩ := g_o_k h24
    have l2 := q_nw_l6 o1 o2
    rw [show (0 : Int32) = nI 0 from rfl, lgE, ← hn, fb_lN_inj (by omega) (by omega)]
    exact q_nw_inj hv o1
  have own : ∀ i, i < 24 → l = g_o i → some ((1 : Int32), S) = some (bI (decide (g_oi l 24 ≠ none)), S) := fun i h24 z => by
    rw [decide_eq_true (show g_oi l 24 ≠ none from fun y => by rw [(g_oi_i h24 l).mpr z] at y; cases y)]
    rfl
  rw [e167 d (lN (q_nw l)) S hW]
  have e0 : lg_cmp (lN (q_nw l)) (491495845235 : Int64) = (0 : Int32) ↔ l = g_o 0 := k 0 491495845235 (by decide) (by decide +kernel)
  have e1 : lg_cmp (lN (q_nw l)) (422608528232 : Int64) = (0 : Int32) ↔ l = g_o 1 := k 1 422608528232 (by decide) (by decide +kernel)
  have e2 : lg_cmp (lN (q_nw l)) (495874044019 : Int64) = (0 : Int32) ↔ l = g_o 2 := k 2 495874044019 (by decide) (by decide +kernel)
  have e3 : lg_cmp (lN (q_nw l)) (461414294379 : Int64) = (0 : Int32) ↔ l = g_o 3 := k 3 461414294379 (by decide) (by decide +kernel)
  have e4 : lg_cmp (lN (q_nw l)) (119225681667442 : Int64) = (0 : Int32) ↔ l = g_o 4 := k 4 119225681667442 (by decide) (by decide +kernel)
  have e5 : lg_cmp (lN (q_nw l)) (6840691 : Int64) = (0 : Int32) ↔ l = g_o 5 := k 5 6840691 (by decide) (by decide +kernel)
  have e6 : lg_cmp (lN (q_nw l)) (26990 : Int64) = (0 : Int32) ↔ l = g_o 6 := k 6 26990 (by decide) (by decide +kernel)
  have e7 : lg_cmp (lN (q_nw l)) (1936225652 : Int64) = (0 : Int32) ↔ l = g_o 7 := k 7 1936225652 (by decide) (by decide +kernel)
  have e8 : lg_cmp (lN (q_nw l)) (133493580129395 : Int64) = (0 : Int32) ↔ l = g_o 8 := k 8 133493580129395 (by decide) (by decide +kernel)
  have e9 : lg_cmp (lN (q_nw l)) (119182682645875 : Int64) = (0 : Int32) ↔ l = g_o 9 := k 9 119182682645875 (by decide) (by decide +kernel)
  have e10 : lg_cmp (lN (q_nw l)) (491328009331 : Int64) = (0 : Int32) ↔ l = g_o 10 := k 10 491328009331 (by decide) (by decide +kernel)
  have e11 : lg_cmp (lN (q_nw l)) (474214787188 : Int64) = (0 : Int32) ↔ l = g_o 11 := k 11 474214787188 (by decide) (by decide +kernel)
  have e12 : lg_cmp (lN (q_nw l)) (1919905645 : Int64) = (0 : Int32) ↔ l = g_o 12 := k 12 1919905645 (by decide) (by decide +kernel)
  have e13 : lg_cmp (lN (q_nw l)) (121398985520243 : Int64) = (0 : Int32) ↔ l = g_o 13 := k 13 121398985520243 (by decide) (by decide +kernel)
  have e14 : lg_cmp (lN (q_nw l)) (435627783289 : Int64) = (0 : Int32) ↔ l = g_o 14 := k 14 435627783289 (by decide) (by decide +kernel)
  have e15 : lg_cmp (lN (q_nw l)) (1937007984 : Int64) = (0 : Int32) ↔ l = g_o 15 := k 15 1937007984 (by decide) (by decide +kernel)
  have e16 : lg_cmp (lN (q_nw l)) (439855772532 : Int64) = (0 : Int32) ↔ l = g_o 16 := k 16 439855772532 (by decide) (by decide +kernel)
  have e17 : lg_cmp (lN (q_nw l)) (26982 : Int64) = (0 : Int32) ↔ l = g_o 17 := k 17 26982 (by decide) (by decide +kernel)
  have e18 : lg_cmp (lN (q_nw l)) (28530 : Int64) = (0 : Int32) ↔ l = g_o 18 := k 18 28530 (by decide) (by decide +kernel)
  have e19 : lg_cmp (lN (q_nw l)) (6385252 : Int64) = (0 : Int32) ↔ l = g_o 19 := k 19 6385252 (by decide) (by decide +kernel)
  have e20 : lg_cmp (lN (q_nw l)) (7237492 : Int64) = (0 : Int32) ↔ l = g_o 20 := k 20 7237492 (by decide) (by decide +kernel)
  have e21 : lg_cmp (lN (q_nw l)) (6384748 : Int64) = (0 : Int32) ↔ l = g_o 21 := k 21 6384748 (by decide) (by decide +kernel)
  have e22 : lg_cmp (lN (q_nw l)) (7170414 : Int64) = (0 : Int32) ↔ l = g_o 22 := k 22 7170414 (by decide) (by decide +kernel)
  have e23 : lg_cmp (lN (q_nw l)) (7168376 : Int64) = (0 : Int32) ↔ l = g_o 23 := k 23 7168376 (by decide) (by decide +kernel)
  by_cases c0 : l = g_o 0
  · rw [if_pos (e0.mpr c0)]; exact own 0 (by decide) c0
  rw [if_neg (fun z => c0 (e0.mp z))]
  by_cases c1 : l = g_o 1
  · rw [if_pos (e1.mpr c1)]; exact own 1 (by decide) c1
  rw [if_neg (fun z => c1 (e1.mp z))]
  by_cases c2 : l = g_o 2
  · rw [if_pos (e2.mpr c2)]; exact own 2 (by decide) c2
  rw [if_neg (fun z => c2 (e2.mp z))]
  by_cases c3 : l = g_o 3
  · rw [if_pos (e3.mpr c3)]; exact own 3 (by decide) c3
  rw [if_neg (fun z => c3 (e3.mp z))]
  by_cases c4 : l = g_o 4
  · rw [if_neg (fun z => z (e4.mpr c4))]; exact own 4 (by decide) c4
  rw [if_pos (show ¬ lg_cmp (lN (q_nw l)) (119225681667442 : Int64) = (0 : Int32) from fun z => c4 (e4.mp z))]
  by_cases c5 : l = g_o 5
  · rw [if_pos (e5.mpr c5)]; exact own 5 (by decide) c5
  rw [if_neg (fun z => c5 (e5.mp z))]
  by_cases c6 : l = g_o 6
  · rw [if_pos (e6.mpr c6)]; exact own 6 (by decide) c6
  rw [if_neg (fun z => c6 (e6.mp z))]
  by_cases c7 : l = g_o 7
  · rw [if_pos (e7.mpr c7)]; exact own 7 (by decide) c7
  rw [if_neg (fun z => c7 (e7.mp z))]
  by_cases c8 : l = g_o 8
  · rw [if_pos (e8.mpr c8)]; exact own 8 (by decide) c8
  rw [if_neg (fun z => c8 (e8.mp z))]
  by_cases c9 : l = g_o 9
  · rw [if_neg (fun z => z (e9.mpr c9))]; exact own 9 (by decide) c9
  rw [if_pos (show ¬ lg_cmp (lN (q_nw l)) (119182682645875 : Int64) = (0 : Int32) from fun z => c9 (e9.mp z))]
  by_cases c10 : l = g_o 10
  · rw [if_pos (e10.mpr c10)]; exact own 10 (by decide) c10
  rw [if_neg (fun z => c10 (e10.mp z))]
  by_cases c11 : l = g_o 11
  · rw [if_pos (e11.mpr c11)]; exact own 11 (by decide) c11
  rw [if_neg (fun z => c11 (e11.mp z))]
  by_cases c12 : l = g_o 12
  · rw [if_pos (e12.mpr c12)]; exact own 12 (by decide) c12
  rw [if_neg (fun z => c12 (e12.mp z))]
  by_cases c13 : l = g_o 13
  · rw [if_pos (e13.mpr c13)]; exact own 13 (by decide) c13
  rw [if_neg (fun z => c13 (e13.mp z))]
  by_cases c14 : l = g_o 14
  · rw [if_neg (fun z => z (e14.mpr c14))]; exact own 14 (by decide) c14
  rw [if_pos (show ¬ lg_cmp (lN (q_nw l)) (435627783289 : Int64) = (0 : Int32) from fun z => c14 (e14.mp z))]
  by_cases c15 : l = g_o 15
  · rw [if_pos (e15.mpr c15)]; exact own 15 (by decide) c15
  rw [if_neg (fun z => c15 (e15.mp z))]
  by_cases c16 : l = g_o 16
  · rw [if_pos (e16.mpr c16)]; exact own 16 (by decide) c16
  rw [if_neg (fun z => c16 (e16.mp z))]
  by_cases c17 : l = g_o 17
  · rw [if_pos (e17.mpr c17)]; exact own 17 (by decide) c17
  rw [if_neg (fun z => c17 (e17.mp z))]
  by_cases c18 : l = g_o 18
  · rw [if_pos (e18.mpr c18)]; exact own 18 (by decide) c18
  rw [if_neg (fun z => c18 (e18.mp z))]
  by_cases c19 : l = g_o 19
  · rw [if_neg (fun z => z (e19.mpr c19))]; exact own 19 (by decide) c19
  rw [if_pos (show ¬ lg_cmp (lN (q_nw l)) (6385252 : Int64) = (0 : Int32) from fun z => c19 (e19.mp z))]
  by_cases c20 : l = g_o 20
  · rw [if_pos (e20.mpr c20)]; exact own 20 (by decide) c20
  rw [if_neg (fun z => c20 (e20.mp z))]
  by_cases c21 : l = g_o 21
  · rw [if_pos (e21.mpr c21)]; exact own 21 (by decide) c21
  rw [if_neg (fun z => c21 (e21.mp z))]
  by_cases c22 : l = g_o 22
  · rw [if_pos (e22.mpr c22)]; exact own 22 (by decide) c22
  rw [if_neg (fun z => c22 (e22.mp z))]
  by_cases c23 : l = g_o 23
  · rw [if_neg (fun z => z (e23.mpr c23))]; exact own 23 (by decide) c23
  rw [if_pos (show ¬ lg_cmp (lN (q_nw l)) (7168376 : Int64) = (0 : Int32) from fun z => c23 (e23.mp z))]
  have all : ∀ i, i < 24 → l ≠ g_o i := by
    intro i hi
    match i, hi with
    | 0, _ => exact c0
    | 1, _ => exact c1
    | 2, _ => exact c2
    | 3, _ => exact c3
    | 4, _ => exact c4
    | 5, _ => exact c5
    | 6, _ => exact c6
    | 7, _ => exact c7
    | 8, _ => exact c8
    | 9, _ => exact c9
    | 10, _ => exact c10
    | 11, _ => exact c11
    | 12, _ => exact c12
    | 13, _ => exact c13
    | 14, _ => exact c14
    | 15, _ => exact c15
    | 16, _ => exact c16
    | 17, _ => exact c17
    | 18, _ => exact c18
    | 19, _ => exact c19
    | 20, _ => exact c20
    | 21, _ => exact c21
    | 22, _ => exact c22
    | 23, _ => exact c23
    | n + 24, h => omega
  rw [decide_eq_false (fun z => z (g_oi_none.mpr all))]
  rfl
theorem m168s {l : List Nat} (h : mS S T b p Q) (hP : p_Wf Q.1) (hv : g_vd l) (hl : l.length ≤ 6) : fI (d + 1) 168 [.ref 396, .long (lN (q_nw l))] S = some (eO (g_who Q.1 l), S) := by
  have hL := hP.2.2.2.2.1
  have hw := hP.2.2.2.2.2.2.2.2.2.2.2.2.2.2
  have hb := h.2.2.1.1
  have l1 := q_nw_l6 hv hl
  have zin : z_in (nI b) 2 := (ni_in (by omega)).mpr hb
  have r2 : gI S 402 (nI b).toNatClampNeg = nI (p_L Q.1) := by rw [nI_clamp (by omega)]; exact h.2.2.2.2.1.2.2.2.2.1
  rw [e168 d (lN (q_nw l)) S h.W]
  have key : ∀ (m i : Nat), i + m = p_L Q.1 → b168_2 d (lN (q_nw l)) (nI i) S = some (eO (w_lp (fun i => if p_a Q.1 i = l then some i else none) m i), S) := by
    intro m
    induction m with
    | zero =>
      intro i hi
      rw [b168_2_eq d (lN (q_nw l)) (nI i) S h.W, h.2.2.1.2, if_pos zin, r2, if_pos (nI_le (by omega) (by omega))]
      rfl
    | succ m ih =>
      intro i hi
      obtain ⟨x1, x2⟩ := hw i (by omega)
      have l2 := q_nw_l6 x2 x1
      have ad : (16 : Int32) * nI b + nI i = nI (16 * b + i) := by simp (disch := omega) only [ni_lit, nI_add, pk_mul, pk_sub, pk_div, nI_leI, nI_ltI, nI_eq, nI_clamp, ni_in, ni_inm, ni_ltm, ni_mlt, ni_lem, ni_mle, ni_eqm, ni_meq, ni_mm, ni_mmle, ni_bit, ni_shl, ni_clr, fa_or, Nat.add_zero, Nat.zero_add, Nat.zero_mul, Nat.mul_zero, eOn, eOs]
      have r : gL S 412 (nI (16 * b + i)).toNatClampNeg = lN (q_nw (p_a Q.1 i)) := by rw [nI_clamp (by omega)]; exact (h.2.2.2.2.2.1 i (by omega)).2.2
      have ie : lg_cmp (lN (q_nw (p_a Q.1 i))) (lN (q_nw l)) = (0 : Int32) ↔ p_a Q.1 i = l := by
        rw [show (0 : Int32) = nI 0 from rfl, lgE, fb_lN_inj (by omega) (by omega)]
        exact q_nw_inj x2 hv
      rw [b168_2_eq d (lN (q_nw l)) (nI i) S h.W, h.2.2.1.2, if_pos zin, r2, if_neg (nI_ge (by omega) (by omega)), ad, if_pos ((ni_in (by omega)).mpr (by omega)), r, w_lp]
      by_cases c : p_a Q.1 i = l
      · rw [if_neg (fun z => z (ie.mpr c)), if_pos c]
        rfl
      · rw [if_pos (fun z => c (ie.mp z)), if_neg c, nI_1]
        exact ih (i + 1) (by omega)
  exact key (p_L Q.1) 0 (by omega)
theorem m186s {k : Nat} (h : mS S T b p Q) (hP : p_Wf Q.1) (hk : k < 16) : fI (d + 1) 186 [.ref 396, .int (nI k)] S = some (bI (decide (k ∈ p_c Q.1)), S) := by
  have hc := hP.2.2.2.2.2.2.2.2.1
  have hcl := hP.2.2.2.2.2.2.2.2.2.1
  have hL := hP.2.2.2.2.1
  have hb := h.2.2.1.1
  have zin : z_in (nI b) 2 := (ni_in (by omega)).mpr hb
  have r2 : gI S 405 (nI b).toNatClampNeg = nI (p_c Q.1).length := by rw [nI_clamp (by omega)]; exact h.2.2.2.2.1.2.2.2.2.2.1
  rw [e186 d (nI k) S h.W]
  have key : ∀ (m i : Nat), i + m = (p_c Q.1).length → b186_2 d (nI k) (nI i) S = some (bI (decide (k ∈ (p_c Q.1).drop i)), S) := by
    intro m
    induction m with
    | zero =>
      intro i hi
      rw [b186_2_eq d (nI k) (nI i) S h.W, h.2.2.1.2, if_pos zin, r2, if_pos (nI_le (by omega) (by omega)), List.drop_eq_nil_of_le (by omega)]
      rfl
    | succ m ih =>
      intro i hi
      have hi' : i < (p_c Q.1).length := by omega
      have hm : (p_c Q.1)[i] ∈ p_c Q.1 := List.getElem_mem _
      have hlt := hcl _ hm
      have gd : (p_c Q.1).getD i 0 = (p_c Q.1)[i] := by rw [List.getD_eq_getElem?_getD, List.getElem?_eq_getElem hi']; rfl
      have ad : (16 : Int32) * nI b + nI i = nI (16 * b + i) := by simp (disch := omega) only [ni_lit, nI_add, pk_mul, pk_sub, pk_div, nI_leI, nI_ltI, nI_eq, nI_clamp, ni_in, ni_inm, ni_ltm, ni_mlt, ni_lem, ni_mle, ni_eqm, ni_meq, ni_mm, ni_mmle, ni_bit, ni_shl, ni_clr, fa_or, Nat.add_zero, Nat.zero_add, Nat.zero_mul, Nat.mul_zero, eOn, eOs]
      have r : gI S 406 (nI (16 * b + i)).toNatClampNeg = nI (p_c Q.1)[i] := by rw [nI_clamp (by omega), h.2.2.2.2.2.2.1 i hi', gd]
      rw [b186_2_eq d (nI k) (nI i) S h.W, h.2.2.1.2, if_pos zin, r2, if_neg (nI_ge (by omega) (by omega)), ad, if_pos ((ni_in (by omega)).mpr (by omega)), r, List.drop_eq_getElem_cons hi']
      by_cases c : (p_c Q.1)[i] = k
      · rw [if_neg (fun z => z (by rw [c])), decide_eq_true (by rw [c]; exact List.mem_cons_self)]
        rfl
      · rw [if_pos (fun z => c ((nI_eq (by omega) (by omega)).mp z)), nI_1, ih (i + 1) (by omega)]
        congr 3
        refine decide_eq_decide.mpr ⟨fun z => List.mem_cons_of_mem _ z, fun z => ?_⟩
        rcases List.mem_cons.mp z with y | y
        · exact absurd y.symm c
        · exact y
  have := key (p_c Q.1).length 0 (by omega)
  rw [List.drop_zero] at this
  exact this
/-- the word's statement is counted -/
theorem m180s {p' : Nat} (h : mS S T b p Q) (hi : g_iv T p' Q) : ∃ S', fI (d + 3) 180 [.ref 396, .int (0 : Int32)] S = some (1, S') ∧ onM tDm S S' ∧ onM (g_rD b) S S' ∧ mS S' T b (g_en T p) Q := by
  obtain ⟨S', a1, a2, a3, a4⟩ := m163s (d := d) h hi
  rw [e180 (d + 2) 0 S h.W, if_neg (fun z => z h.z8.2), if_pos (show (0 : Int32) = 0 from rfl), b180_21_eq (d + 2) S h.W, if_neg (fun z => z h.z8.2), a1, Option.bind_some, b180_32_eq (d + 2) S' a4.W, if_neg (fun z => z a4.z8.2)]
  exact ⟨S', rfl, a2, a3, a4⟩
theorem m180f (h : mS S T b p Q) (n4 : g_kd T p ≠ 4) : ∃ S', fI (d + 3) 180 [.ref 396, .int (1 : Int32)] S = some (0, S') ∧ mFr S S' b (6, g_st T p) := by
  obtain ⟨S', a1, a2⟩ := m159s (d := d + 1) (k := 6) h (by decide) (by decide) n4
  have a1' : fV (d + 2) 159 [.ref 396, .int (6 : Int32), .int (gI S 396 4)] S = some S' := a1
  rw [e180 (d + 2) 1 S h.W, if_neg (fun z => z h.z8.2), if_neg (show ¬ (1 : Int32) = 0 by decide), a1', Option.bind_some, b180_21_eq (d + 2) S' a2.1.W, if_pos a2.n8.2, b180_32_eq (d + 2) S' a2.1.W, if_pos a2.n8.2]
  exact ⟨S', rfl, a2⟩
/-- a word that must stand -/
theorem m181s {i n p' : Nat} (h : mS S T b p Q) (hi : g_iv T p' Q) (h24 : i < 24) (hn : q_nw (g_o i) = n) : (g_ow T p i = true → ∃ S', fV (d + 3) 181 [.ref 396, .long (lN n)] S = some S' ∧ onM tDm S S' ∧ onM (g_rD b) S S' ∧ mS S' T b (g_en T p) Q) ∧ (g_ow T p i = false → ∃ S', fV (d + 3) 181 [.ref 396, .long (lN n)] S = some S' ∧ mFr S S' b (1, g_ft T p)) := by
  have e := e181 (d + 2) (lN n) S h.W
  refine ⟨fun hw => ?_, fun hw => ?_⟩
  · have k1 := g_ow_k hw
    obtain ⟨S', a1, a2, a3, a4⟩ := m163s (d := d) h hi
    rw [m162 (d := d + 1) h.1 (by omega), Option.bind_some, if_pos h.z8.1, m165 (d := d + 1) h.1 (by omega) h24 hn, zb_some, hw, if_pos (show ¬ bI true = (0 : Int32) by decide), b181_29_eq (d + 2) S h.W, if_neg (fun z => z h.z8.2), a1, Option.bind_some] at e
    exact ⟨S', e, a2, a3, a4⟩
  · by_cases k4 : g_kd T p = 4
    · obtain ⟨S', a1, a2⟩ := m162s (d := d) h k4
      rw [a1, Option.bind_some, if_neg a2.n8.1] at e
      exact ⟨S', e, a2⟩
    · obtain ⟨S', a1, a2⟩ := m159s (d := d + 1) (k := 1) h (by decide) (by decide) k4
      have a1' : fV (d + 2) 159 [.ref 396, .int (1 : Int32), .int (gI S 396 4)] S = some S' := a1
      rw [m162 (d := d + 1) h.1 k4, Option.bind_some, if_pos h.z8.1, m165 (d := d + 1) h.1 k4 h24 hn, zb_some, hw, if_neg (show ¬ ¬ bI false = (0 : Int32) from fun z => z rfl), a1', Option.bind_some, b181_29_eq (d + 2) S' a2.1.W, if_pos a2.n8.2] at e
      rw [g_ft_n k4]
      exact ⟨S', e, a2⟩
theorem m181f {S' : z_S} {e : Nat × Nat} {x : Int64} (h : mFr S S' b e) : fV (d + 3) 181 [.ref 396, .long x] S' = some S' := by
  rw [e181 (d + 2) x S' h.1.W, h.f162 (d := d), Option.bind_some, if_neg h.n8.1]
end HN
