/-! THE TEXT: the class reads lodgers and comers. -/
section HF
variable {d q : Nat} {T : List Nat} {S : z_S} {p : Nat} {Q : g_Q}
theorem eO_m1 {o : Option Nat} (h : ∀ j, o = some j → j < 2147483648) : eO o = (-1 : Int32) ↔ o = none := eO_inj (u := none) h (fun j z => by cases z)
theorem c98t (h : cS S T q p Q) (hk : g_kd T p ≠ 4) : ∃ S', fV (d + 3) 98 [.ref 19] S = some S' ∧ onI tDa S S' ∧ onI (g_sD q) S S' ∧ cS S' T q (g_en T p) Q := by
  obtain ⟨S', a1, a2, a3⟩ := c98n (d := d) h.1 hk
  have hq := h.qq
  exact ⟨S', a1, a2, a2.mono fun c k z => by unfold tDa at z; unfold g_sD; omega, a3, h.2.1.on a2 (fun c k z => by unfold tDa at z; omega), by rw [a2.P]; exact h.2.2.1, h.2.2.2.ag fun c k z1 z2 => a2.I (by unfold tDa; omega)⟩
/-- a cell behind the lodgers -/
theorem xP.hi {c k : Nat} {v : Int32} (h : xP S q Q) (hc : (c = q + 1 ∨ c = q + 2 ∨ c = q + 3) ∧ p_L Q.1 ≤ k ∨ c = q + 4 ∧ (p_c Q.1).length ≤ k) : xP (sI S c k v) q Q := by
  obtain ⟨h0, h1, h2, h3, h4, h5, h6, h7, h8, h9, h10, h11, h12, h13, h14⟩ := h
  have ne : ∀ {c' k' : Nat}, ¬ (c' = c ∧ k' = k) → gI (sI S c k v) c' k' = gI S c' k' := fun {c' k'} z => by
    rw [gI_sI]
    by_cases y : c' = c
    · rw [if_pos y, if_neg (fun x => z ⟨y, x⟩)]
    · rw [if_neg y]
  refine ⟨?_, ?_, ?_, ?_, ?_, ?_, ?_, ?_, ?_, fun i hi => ?_, fun i hi => ?_, fun i hi => ?_, fun i hi => ?_, fun i hi => ?_, fun w hw => ?_⟩
  · rw [ne (by omega)]; exact h0
  · rw [ne (by omega)]; exact h1
  · rw [ne (by omega)]; exact h2
  · rw [ne (by omega)]; exact h3
  · rw [ne (by omega)]; exact h4
  · rw [ne (by omega)]; exact h5
  · rw [ne (by omega)]; exact h6
  · rw [ne (by omega)]; exact h7
  · rw [ne (by omega)]; exact h8
  · rw [ne (by omega)]; exact h9 i hi
  · rw [ne (by omega)]; exact h10 i hi
  · rw [ne (by omega)]; exact h11 i hi
  · rw [ne (by omega)]; exact h12 i hi
  · rw [ne (by omega)]; exact h13 i hi
  · rw [ne (by omega), ne (by omega)]; exact h14 w hw
theorem cS.hi {c k : Nat} {v : Int32} (h : cS S T q p Q) (hc : (c = q + 1 ∨ c = q + 2 ∨ c = q + 3) ∧ p_L Q.1 ≤ k ∨ c = q + 4 ∧ (p_c Q.1).length ≤ k) : onI (g_sD q) S (sI S c k v) ∧ cS (sI S c k v) T q p Q :=
  h.put (onI_sI (D := fun c _ => q ≤ c ∧ c ≤ q + 7) (c := c) (k := k) (onI.refl h.W) ⟨by omega, by omega⟩) (h.2.2.2.hi hc)
theorem xP.lo {x y : Nat} {l : List Nat} (h : xP S q Q) (i1 : gI S (q + 1) (p_L Q.1) = nI (q_nv l)) (i2 : gI S (q + 2) (p_L Q.1) = nI x) (i3 : gI S (q + 3) (p_L Q.1) = nI y) : xP (sI S q 6 (nI (p_L Q.1 + 1))) q (P_lo Q.1 x y l, Q.2) := by
  obtain ⟨h0, h1, h2, h3, h4, h5, h6, h7, h8, h9, h10, h11, h12, h13, h14⟩ := h
  refine ⟨?_, ?_, ?_, ?_, ?_, ?_, ?_, ?_, ?_, fun i hi => ?_, fun i hi => ?_, fun i hi => ?_, fun i hi => ?_, fun i hi => ?_, fun w hw => ?_⟩
  · rw [gI_sI, if_pos rfl, if_neg (by omega)]; exact h0
  · rw [gI_sI, if_pos rfl, if_neg (by omega)]; exact h1
  · rw [gI_sI, if_pos rfl, if_neg (by omega)]; exact h2
  · rw [gI_sI, if_pos rfl, if_neg (by omega)]; exact h3
  · rw [gI_sI, if_pos rfl, if_neg (by omega)]; exact h4
  · rw [gI_sI, if_pos rfl, if_neg (by omega)]; exact h5
  · rw [gI_sI, if_pos rfl, if_pos rfl]; rfl
  · rw [gI_sI, if_pos rfl, if_neg (by omega)]; exact h7
  · rw [gI_sI, if_pos rfl, if_neg (by omega)]; exact h8
  · rw [gI_sI, if_neg (by omega)]
    have hi' : i < p_L Q.1 + 1 := hi
    show _ = nI (q_nv (q_u (p_a Q.1) (p_L Q.1) l i))
    by_cases c : i = p_L Q.1
    · rw [c, q_us]; exact i1
    · rw [q_un c]; exact h9 i (by omega)
  · rw [gI_sI, if_neg (by omega)]
    have hi' : i < p_L Q.1 + 1 := hi
    show _ = nI (q_u (p_f Q.1) (p_L Q.1) x i)
    by_cases c : i = p_L Q.1
    · rw [c, q_us]; exact i2
    · rw [q_un c]; exact h10 i (by omega)
  · rw [gI_sI, if_neg (by omega)]
    have hi' : i < p_L Q.1 + 1 := hi
    show _ = nI (q_u (p_o Q.1) (p_L Q.1) y i)
    by_cases c : i = p_L Q.1
    · rw [c, q_us]; exact i3
    · rw [q_un c]; exact h11 i (by omega)
  · rw [gI_sI, if_neg (by omega)]; exact h12 i hi
  · rw [gI_sI, if_neg (by omega)]; exact h13 i hi
  · rw [gI_sI, if_neg (by omega), gI_sI, if_neg (by omega)]; exact h14 w hw
theorem c17s {l : List Nat} (h : cS S T q p Q) (hP : p_Wf Q.1) (hR : 2 ≤ p_R Q.1) (hL : p_L Q.1 < 16) (hn : gI S (q + 1) (p_L Q.1) = nI (q_nv l)) : cRq (fI (d + 4) 17 [.ref 18, .int (nI (p_L Q.1))] S) S T q (g_num T p 0 (p_R Q.1 - 1) fun v p3 => g_num T p3 0 (p_R Q.1 - 1) fun v2 p4 => if v2 = v then .inl (4, g_st T p3) else .inr (p4, P_lo Q.1 v v2 l, Q.2)) := by
  have hR1 := hP.1
  have hq := h.qq
  have sb : nI (p_R Q.1) - (1 : Int32) = nI (p_R Q.1 - 1) := by simp (disch := omega) only [ni_lit, nI_add, pk_mul, pk_sub, pk_div, nI_leI, nI_ltI, nI_eq, nI_clamp, ni_in, ni_inm, ni_ltm, ni_mlt, ni_lem, ni_mle, ni_eqm, ni_meq, ni_mm, ni_mmle, ni_bit, ni_shl, ni_clr, fa_or, Nat.add_zero, Nat.zero_add, Nat.zero_mul, Nat.mul_zero, eOn, eOs]
  have zin : z_in (nI (p_L Q.1)) 16 := (ni_in (by omega)).mpr hL
  have cl : (nI (p_L Q.1)).toNatClampNeg = p_L Q.1 := nI_clamp (by omega)
  have num : ∀ {S p}, cS S T q p Q → (g_kd T p = 2 → g_vl T p ≤ p_R Q.1 - 1 → fI (d + 3) 13 [.ref 18, .int (0 : Int32), .int (nI (p_R Q.1 - 1))] S = some (1, S)) ∧ (¬ (g_kd T p = 2 ∧ g_vl T p ≤ p_R Q.1 - 1) → ∀ K, ∃ e, g_num T p 0 (p_R Q.1 - 1) K = .inl e ∧ cFl (fI (d + 3) 13 [.ref 18, .int (0 : Int32), .int (nI (p_R Q.1 - 1))] S) S q e) := fun {S p} h => by
    obtain ⟨n1, n2, n3⟩ := c13s (d := d + 1) (lo := 0) (hi := p_R Q.1 - 1) h (by omega) (by omega)
    refine ⟨fun k2 b => n1 k2 ⟨Nat.zero_le _, b⟩, fun z K => ?_⟩
    unfold g_num
    by_cases k2 : g_kd T p = 2
    · have bb : ¬ (0 ≤ g_vl T p ∧ g_vl T p ≤ p_R Q.1 - 1) := fun y => z ⟨k2, y.2⟩
      exact ⟨_, by rw [if_pos k2, if_neg bb], n2 k2 bb⟩
    · exact ⟨_, by rw [if_neg k2], n3 k2⟩
  have numK : ∀ {p K}, g_kd T p = 2 → g_vl T p ≤ p_R Q.1 - 1 → g_num T p 0 (p_R Q.1 - 1) K = K (g_vl T p) (g_en T p) := fun {p K} k2 b => by
    unfold g_num
    rw [if_pos k2, if_pos ⟨Nat.zero_le _, b⟩]
  rw [e17 (d + 3) (nI (p_L Q.1)) S h.W, h.2.2.1, h.2.2.2.2.1, sb]
  by_cases b1 : g_kd T p = 2 ∧ g_vl T p ≤ p_R Q.1 - 1
  · rw [(num h).1 b1.1 b1.2, zb_some, if_pos (show ¬ (1 : Int32) = 0 by decide), if_pos zin, h.2.2.1, h.1.2.2.2.2.2.2.2.1 (Or.inl b1.1), numK b1.1 b1.2]
    obtain ⟨o1, s1⟩ := h.hi (c := q + 2) (k := (nI (p_L Q.1)).toNatClampNeg) (v := nI (g_vl T p)) (Or.inl ⟨by omega, Nat.le_of_eq cl.symm⟩)
    obtain ⟨S2, a1, a2, a3, a4⟩ := c98t (d := d) s1 (by omega)
    rw [a1, Option.bind_some, a4.2.2.1, a4.2.2.2.2.1, sb]
    have r1 : gI S2 (q + 1) (p_L Q.1) = nI (q_nv l) := by rw [a2.I (by unfold tDa; omega), gI_sI, if_neg (by omega)]; exact hn
    have r2 : gI S2 (q + 2) (nI (p_L Q.1)).toNatClampNeg = nI (g_vl T p) := by rw [a2.I (by unfold tDa; omega), gI_sI, if_pos rfl, if_pos rfl]
    by_cases b2 : g_kd T (g_en T p) = 2 ∧ g_vl T (g_en T p) ≤ p_R Q.1 - 1
    · rw [(num a4).1 b2.1 b2.2, zb_some, if_pos (show ¬ (1 : Int32) = 0 by decide), if_pos zin, a4.2.2.1, a4.1.2.2.2.2.2.2.2.1 (Or.inl b2.1), r2, numK b2.1 b2.2]
      show cRq _ S T q (if g_vl T (g_en T p) = g_vl T p then .inl (4, g_st T (g_en T p)) else .inr (g_en T (g_en T p), P_lo Q.1 (g_vl T p) (g_vl T (g_en T p)) l, Q.2))
      by_cases c : g_vl T (g_en T p) = g_vl T p
      · rw [if_pos c, if_neg (fun z => z (by rw [c]))]
        exact ((c10s (d := d + 2) (k := 4) a4.1).C.tr (o1.trans a3) : cFl _ _ _ _)
      · rw [if_neg c, if_pos (show ¬ nI (g_vl T (g_en T p)) = nI (g_vl T p) from fun z => c ((nI_eq (by omega) (by omega)).mp z)), if_pos zin]
        obtain ⟨o2, s2⟩ := a4.hi (c := q + 3) (k := (nI (p_L Q.1)).toNatClampNeg) (v := nI (g_vl T (g_en T p))) (Or.inl ⟨by omega, Nat.le_of_eq cl.symm⟩)
        obtain ⟨S3, f1, f2, f3, f4⟩ := c98t (d := d) s2 (by omega)
        rw [f1, Option.bind_some, f4.2.2.1, f4.2.2.2.2.2.2.2.2.2.1, nI_1]
        have t1 : gI S3 (q + 1) (p_L Q.1) = nI (q_nv l) := by rw [f2.I (by unfold tDa; omega), gI_sI, if_neg (by omega)]; exact r1
        have t2 : gI S3 (q + 2) (p_L Q.1) = nI (g_vl T p) := by rw [f2.I (by unfold tDa; omega), gI_sI, if_neg (by omega)]; rw [cl] at r2; exact r2
        have t3 : gI S3 (q + 3) (p_L Q.1) = nI (g_vl T (g_en T p)) := by rw [f2.I (by unfold tDa; omega), gI_sI, if_pos rfl, if_pos cl.symm]
        obtain ⟨x1, x2⟩ := f4.set (f4.2.2.2.lo t1 t2 t3)
        exact ⟨_, rfl, o1.trans (a3.trans (o2.trans (f3.trans x1))), x2⟩
    · obtain ⟨e, g1, g2⟩ := (num a4).2 b2 fun v2 p4 => if v2 = g_vl T p then .inl (4, g_st T (g_en T p)) else .inr (p4, P_lo Q.1 (g_vl T p) v2 l, Q.2)
      obtain ⟨S4, g3, g4⟩ := g2.tr (o1.trans a3)
      rw [g1, g3, zb_some, if_neg (show ¬ ¬ (0 : Int32) = 0 by decide)]
      exact ⟨S4, rfl, g4⟩
  · obtain ⟨e, g1, g2⟩ := (num h).2 b1 fun v p3 => g_num T p3 0 (p_R Q.1 - 1) fun v2 p4 => if v2 = v then .inl (4, g_st T p3) else .inr (p4, P_lo Q.1 v v2 l, Q.2)
    obtain ⟨S4, g3, g4⟩ := g2
    rw [g1, g3, zb_some, if_neg (show ¬ ¬ (0 : Int32) = 0 by decide)]
    exact ⟨S4, rfl, g4⟩
/-- the name at p -/
theorem cS.nam (h : cS S T q p Q) : (gI S 19 4 = (1 : Int32) ∧ gI S 19 7 = (-1 : Int32)) ↔ g_nam T p = true := by
  have h4 := g_kd_le (T := T) (p := p)
  unfold g_nam
  rw [h.1.2.2.1, Bool.and_eq_true, decide_eq_true_eq, decide_eq_true_eq]
  have k1 : nI (g_kd T p) = (1 : Int32) ↔ g_kd T p = 1 := nI_eq (b := 1) (by omega) (by omega)
  rw [k1]
  refine and_congr_right fun c => ?_
  rw [h.1.2.2.2.2.2.2.2.2 (g_ok_1 (by omega)), if_pos c]
  exact eO_m1 fun j hj => by have := g_oi_lt 24 hj; omega
theorem g_who_lt {P : q_Pl} {l : List Nat} (hL : p_L P ≤ 16) : ∀ j, g_who P l = some j → j < 2147483648 := fun j z => by
  have := (g_who_i z).1
  omega
theorem c16s (h : cS S T q p Q) (hk : g_kd T p ≠ 4) (hP : p_Wf Q.1) (hR : 2 ≤ p_R Q.1) : cRq (fI (d + 5) 16 [.ref 18] S) S T q (g_lod T p Q) := by
  have hL := hP.2.2.2.2.1
  have hq := h.qq
  unfold g_lod
  rw [e16 (d + 4) S h.W, h.2.2.1, h.2.2.2.2.2.2.2.2.2.1]
  by_cases c0 : 16 ≤ p_L Q.1
  · rw [if_pos c0, if_neg (fun z => by have := (nI_ltI (b := 16) (by omega) (by omega)).mp z; omega)]
    exact ((c10s (d := d + 3) (k := 6) h.1).C : cFl _ _ _ _)
  rw [if_neg c0, if_pos (show nI (p_L Q.1) < (16 : Int32) from nI_lt (b := 16) (by omega) (by omega))]
  obtain ⟨S3, a1, a2, a3, a4⟩ := c98t (d := d + 1) h hk
  rw [a1, Option.bind_some]
  have bad : ∀ {e}, e = (1, g_ft T (g_en T p)) → cRq (b16_48 (d + 4) S3) S T q (.inl e) := fun {e} z => by
    rw [z, b16_48_eq (d + 4) S3 a4.W]
    exact ((c9s (d := d + 3) a4.1).C.tr a3 : cFl _ _ _ _)
  by_cases cn : ¬ g_nam T (g_en T p) = true
  · rw [if_neg cn]
    by_cases k1 : gI S3 19 4 = (1 : Int32)
    · rw [if_neg (fun z => z k1), if_neg (fun z => cn (a4.nam.mp ⟨k1, z⟩))]
      exact bad rfl
    · rw [if_pos k1]
      exact bad rfl
  have cn := Classical.not_not.mp cn
  obtain ⟨k1, k7⟩ := a4.nam.mpr cn
  obtain ⟨g1, g2⟩ := g_nam_i cn
  obtain ⟨v1, v2⟩ := g_wl_vd g1
  rw [if_pos cn, if_neg (fun z => z k1), if_pos k7, a4.2.2.1, a4.1.2.2.2.2.2.2.1 g1, c64 (d := d + 3) a4.2.2.2 a4.W a4.2.1.1 hP v1 v2, zb_some]
  by_cases cw : ¬ g_who Q.1 (g_wl T (g_en T p)) = none
  · rw [if_neg cw, if_neg (fun z => cw ((eO_m1 (g_who_lt hL)).mp z))]
    exact ((c10s (d := d + 3) (k := 2) a4.1).C.tr a3 : cFl _ _ _ _)
  have cw := Classical.not_not.mp cw
  have zin : z_in (nI (p_L Q.1)) 16 := (ni_in (by omega)).mpr (by omega)
  have cl : (nI (p_L Q.1)).toNatClampNeg = p_L Q.1 := nI_clamp (by omega)
  rw [if_pos cw, if_pos ((eO_m1 (g_who_lt hL)).mpr cw), a4.2.2.1, a4.2.2.2.2.2.2.2.2.2.1, if_pos zin, cl, a4.1.2.2.2.2.2.2.1 g1]
  obtain ⟨o1, s1⟩ := a4.hi (c := q + 1) (k := p_L Q.1) (v := nI (q_nv (g_wl T (g_en T p)))) (Or.inl ⟨by omega, by omega⟩)
  obtain ⟨S5, b1, b2, b3, b4⟩ := c98t (d := d + 1) s1 (by omega)
  have s5 : fI (d + 4) 103 [.ref 19, .int (5 : Int32)] S5 = _ := c103 (d := d + 3) (i := 5) b4.1 (by omega)
  rw [b1, Option.bind_some, s5, zb_some]
  have r1 : gI S5 (q + 1) (p_L Q.1) = nI (q_nv (g_wl T (g_en T p))) := by rw [b2.I (by unfold tDa; omega), gI_sI, if_pos rfl, if_pos rfl]
  by_cases c5 : ¬ g_ow T (g_en T (g_en T p)) 5 = true
  · have c5' : g_ow T (g_en T (g_en T p)) 5 = false := by simpa using c5
    rw [c5', if_neg (show ¬ false = true by decide), if_neg (show ¬ ¬ bI false = (0 : Int32) from fun z => z rfl)]
    exact ((c9s (d := d + 3) b4.1).C.tr (a3.trans (o1.trans b3)) : cFl _ _ _ _)
  have c5 := Classical.not_not.mp c5
  rw [c5, if_pos rfl, if_pos (show ¬ bI true = (0 : Int32) by decide)]
  obtain ⟨S6, f1, f2, f3, f4⟩ := c98t (d := d + 1) b4 (by rw [g_ow_k c5]; decide)
  have r2 : gI S6 (q + 1) (p_L Q.1) = nI (q_nv (g_wl T (g_en T p))) := by rw [f2.I (by unfold tDa; omega)]; exact r1
  rw [f1, Option.bind_some, f4.2.2.1, f4.2.2.2.2.2.2.2.2.2.1]
  exact ((c17s (d := d) f4 hP hR (by omega) r2).C).tr (a3.trans (o1.trans (b3.trans f3)))
theorem xP.co {k : Nat} (h : xP S q Q) (i1 : gI S (q + 4) (p_c Q.1).length = nI k) : xP (sI S q 7 (nI ((p_c Q.1).length + 1))) q (P_co Q.1 k, Q.2) := by
  obtain ⟨h0, h1, h2, h3, h4, h5, h6, h7, h8, h9, h10, h11, h12, h13, h14⟩ := h
  have ll : (p_c (P_co Q.1 k)).length = (p_c Q.1).length + 1 := by show (p_c Q.1 ++ [k]).length = _; rw [List.length_append]; rfl
  refine ⟨?_, ?_, ?_, ?_, ?_, ?_, ?_, ?_, ?_, fun i hi => ?_, fun i hi => ?_, fun i hi => ?_, fun i hi => ?_, fun i hi => ?_, fun w hw => ?_⟩
  · rw [gI_sI, if_pos rfl, if_neg (by omega)]; exact h0
  · rw [gI_sI, if_pos rfl, if_neg (by omega)]; exact h1
  · rw [gI_sI, if_pos rfl, if_neg (by omega)]; exact h2
  · rw [gI_sI, if_pos rfl, if_neg (by omega)]; exact h3
  · rw [gI_sI, if_pos rfl, if_neg (by omega)]; exact h4
  · rw [gI_sI, if_pos rfl, if_neg (by omega)]; exact h5
  · rw [gI_sI, if_pos rfl, if_neg (by omega)]; exact h6
  · rw [gI_sI, if_pos rfl, if_pos rfl, ll]
  · rw [gI_sI, if_pos rfl, if_neg (by omega)]; exact h8
  · rw [gI_sI, if_neg (by omega)]; exact h9 i hi
  · rw [gI_sI, if_neg (by omega)]; exact h10 i hi
  · rw [gI_sI, if_neg (by omega)]; exact h11 i hi
  · rw [gI_sI, if_neg (by omega)]
    rw [ll] at hi
    show _ = nI ((p_c Q.1 ++ [k]).getD i 0)
    rw [List.getD_eq_getElem?_getD]
    by_cases c : i = (p_c Q.1).length
    · rw [c, List.getElem?_append_right (Nat.le_refl _), Nat.sub_self]; exact i1
    · rw [List.getElem?_append_left (by omega), ← List.getD_eq_getElem?_getD]; exact h12 i (by omega)
  · rw [gI_sI, if_neg (by omega)]; exact h13 i hi
  · rw [gI_sI, if_neg (by omega), gI_sI, if_neg (by omega)]; exact h14 w hw
theorem c18s (h : cS S T q p Q) (hP : p_Wf Q.1) : cRq (fI (d + 4) 18 [.ref 18] S) S T q (if g_nam T p then (match g_who Q.1 (g_wl T p) with
    | none => .inl (3, g_st T p)
    | some k => if k ∈ p_c Q.1 then .inl (3, g_st T p) else .inr (g_en T p, P_co Q.1 k, Q.2)) else .inl (1, g_ft T p)) := by
  have hL := hP.2.2.2.2.1
  have hq := h.qq
  rw [e18 (d + 3) S h.W]
  have bad : cRq (b18_22 (d + 3) S) S T q (.inl (1, g_ft T p)) := by
    rw [b18_22_eq (d + 3) S h.W]
    exact ((c9s (d := d + 2) h.1).C : cFl _ _ _ _)
  have bad3 : cRq (b18_70 (d + 3) S) S T q (.inl (3, g_st T p)) := by
    rw [b18_70_eq (d + 3) S h.W]
    exact ((c10s (d := d + 2) (k := 3) h.1).C : cFl _ _ _ _)
  by_cases cn : ¬ g_nam T p = true
  · rw [if_neg cn]
    by_cases k1 : gI S 19 4 = (1 : Int32)
    · rw [if_neg (fun z => z k1), if_neg (fun z => cn (h.nam.mp ⟨k1, z⟩))]
      exact bad
    · rw [if_pos k1]
      exact bad
  have cn := Classical.not_not.mp cn
  obtain ⟨k1, k7⟩ := h.nam.mpr cn
  obtain ⟨g1, g2⟩ := g_nam_i cn
  obtain ⟨v1, v2⟩ := g_wl_vd g1
  rw [if_pos cn, if_neg (fun z => z k1), if_pos k7, h.2.2.1, h.1.2.2.2.2.2.2.1 g1, c64 (d := d + 2) h.2.2.2 h.W h.2.1.1 hP v1 v2, zb_some]
  cases cw : g_who Q.1 (g_wl T p) with
  | none =>
    rw [if_pos (show eO none = (-1 : Int32) from rfl)]
    exact bad3
  | some k =>
    have kl := (g_who_i cw).1
    rw [if_neg (fun z => by have := (eO_m1 (o := some k) (fun j z => by cases z; omega)).mp z; cases this), eO_some, h.2.2.1, c65 (d := d + 2) h.2.2.2 h.W h.2.1.1 hP (by omega), zb_some]
    by_cases cm : k ∈ p_c Q.1
    · rw [decide_eq_true cm, if_pos (show ¬ bI true = (0 : Int32) by decide)]
      show cRq _ S T q (if k ∈ p_c Q.1 then _ else _)
      rw [if_pos cm]
      exact bad3
    · have nd : (p_c Q.1 ++ [k]).Nodup := List.nodup_append.mpr ⟨hP.2.2.2.2.2.2.2.2.2.2.1, List.nodup_cons.mpr ⟨(fun z => by cases z), List.nodup_nil⟩, fun a ha b hb z => cm (by rw [List.mem_singleton.mp hb] at z; rw [← z]; exact ha)⟩
      have lt : ∀ c, c ∈ p_c Q.1 ++ [k] → c < p_L Q.1 := fun c hc => by
        rcases List.mem_append.mp hc with z | z
        · exact hP.2.2.2.2.2.2.2.2.2.1 c z
        · rw [List.mem_singleton.mp z]; exact kl
      have len : (p_c Q.1).length < 16 := by
        have := List.Nodup.length_le_of_subset (l₂ := List.range (p_L Q.1)) nd (fun c hc => List.mem_range.mpr (lt c hc))
        rw [List.length_range, List.length_append] at this
        have e1 : [k].length = 1 := rfl
        omega
      have zin : z_in (nI (p_c Q.1).length) 16 := (ni_in (by omega)).mpr (by omega)
      have cl : (nI (p_c Q.1).length).toNatClampNeg = (p_c Q.1).length := nI_clamp (by omega)
      rw [decide_eq_false cm, if_neg (show ¬ ¬ bI false = (0 : Int32) from fun z => z rfl), h.2.2.1, h.2.2.2.2.2.2.2.2.2.2.1, if_pos (show nI (p_c Q.1).length < (16 : Int32) from nI_lt (b := 16) (by omega) (by omega)), if_pos zin, cl]
      show cRq _ S T q (if k ∈ p_c Q.1 then _ else _)
      rw [if_neg cm]
      obtain ⟨o1, s1⟩ := h.hi (c := q + 4) (k := (p_c Q.1).length) (v := nI k) (Or.inr ⟨by omega, by omega⟩)
      rw [s1.2.2.1, s1.2.2.2.2.2.2.2.2.2.2.1, nI_1]
      obtain ⟨o2, s2⟩ := s1.set (s1.2.2.2.co (k := k) (by rw [gI_sI, if_pos rfl, if_pos rfl]))
      obtain ⟨S3, f1, f2, f3, f4⟩ := c98t (d := d) s2 (by omega)
      rw [f1, Option.bind_some]
      exact ⟨S3, rfl, o1.trans (o2.trans f3), f4⟩
end HF
