/-! THE TEXT: the reference reads a lodger's rooms. -/
section HR
variable {d b : Nat} {T : List Nat} {S : z_S} {p p' : Nat} {Q : g_Q}
theorem m185b (h : mS S T b p Q) (hi : g_iv T p' Q) (k1 : g_kd T p = 1) (hR : 2 ≤ p_R Q.1) (hL : p_L Q.1 < 16) : mRq (b185_95 (d + 3) S) S T b (if g_ow T (g_en T p) 5 then g_num T (g_en T (g_en T p)) 0 (p_R Q.1 - 1) fun v p3 => g_num T p3 0 (p_R Q.1 - 1) fun v2 p4 => if v2 = v then .inl (4, g_st T p3) else .inr (p4, P_lo Q.1 v v2 (g_wl T p), Q.2) else .inl (1, g_ft T (g_en T p))) := by
  have hb := h.2.2.1.1
  have hP := hi.2.2.1
  have hR1 := hP.1
  have zin : z_in (nI b) 2 := (ni_in (by omega)).mpr hb
  have cl : (nI b).toNatClampNeg = b := nI_clamp (by omega)
  have sb : nI (p_R Q.1) - (1 : Int32) = nI (p_R Q.1 - 1) := by simp (disch := omega) only [ni_lit, nI_add, pk_mul, pk_sub, pk_div, nI_leI, nI_ltI, nI_eq, nI_clamp, ni_in, ni_inm, ni_ltm, ni_mlt, ni_lem, ni_mle, ni_eqm, ni_meq, ni_mm, ni_mmle, ni_bit, ni_shl, ni_clr, fa_or, Nat.add_zero, Nat.zero_add, Nat.zero_mul, Nat.mul_zero, eOn, eOs]
  have r2 : gI S 402 (nI b).toNatClampNeg = nI (p_L Q.1) := by rw [cl]; exact h.2.2.2.2.1.2.2.2.2.1
  have ad : (16 : Int32) * nI b + nI (p_L Q.1) = nI (16 * b + p_L Q.1) := by simp (disch := omega) only [ni_lit, nI_add, pk_mul, pk_sub, pk_div, nI_leI, nI_ltI, nI_eq, nI_clamp, ni_in, ni_inm, ni_ltm, ni_mlt, ni_lem, ni_mle, ni_eqm, ni_meq, ni_mm, ni_mmle, ni_bit, ni_shl, ni_clr, fa_or, Nat.add_zero, Nat.zero_add, Nat.zero_mul, Nat.mul_zero, eOn, eOs]
  have zx : z_in (nI (16 * b + p_L Q.1)) 32 := (ni_in (by omega)).mpr (by omega)
  have cx : (nI (16 * b + p_L Q.1)).toNatClampNeg = 16 * b + p_L Q.1 := nI_clamp (by omega)
  have bk3 : bkD b 403 (nI (16 * b + p_L Q.1)).toNatClampNeg := by rw [cx]; exact Or.inr (Or.inl ⟨by omega, by omega, by omega⟩)
  have bk4 : bkD b 404 (nI (16 * b + p_L Q.1)).toNatClampNeg := by rw [cx]; exact Or.inr (Or.inl ⟨by omega, by omega, by omega⟩)
  have bkL : bkD b 412 (nI (16 * b + p_L Q.1)).toNatClampNeg := by rw [cx]; exact Or.inr (Or.inl ⟨by omega, by omega, by omega⟩)
  have e := b185_95_eq (d + 3) S h.W
  rw [if_pos h.z8.1, h.2.2.1.2, if_pos zin, r2, ad, if_pos zx, h.1.2.2.2.2.2.2.2 k1] at e
  obtain ⟨oa, sa⟩ := h.put (S' := sL S 412 (nI (16 * b + p_L Q.1)).toNatClampNeg (lN (q_nw (g_wl T p)))) (Q' := Q) (onM_sL (D := bkD b) (c := 412) (k := (nI (16 * b + p_L Q.1)).toNatClampNeg) (onM.refl h.W) bkL) (by rw [cx]; exact h.2.2.2.2.hiL (Nat.le_refl _)) rfl
  obtain ⟨S1, a1, a2, a3, a4⟩ := m163s (d := d + 1) sa hi
  have o1 := oa.trans a3
  have n1 : gL S1 412 (16 * b + p_L Q.1) = lN (q_nw (g_wl T p)) := by rw [a2.L (by unfold tDm; omega), gLl, if_pos rfl, if_pos cx.symm]
  rw [a1, Option.bind_some] at e
  obtain ⟨w1, w2⟩ := m181s (d := d) (i := 5) (n := 6840691) a4 hi (by decide) (by decide +kernel)
  -- what follows a fault
  by_cases c5 : ¬ g_ow T (g_en T p) 5 = true
  · obtain ⟨S2, b1, b2⟩ := w2 (by simpa using c5)
    have b1' : fV (d + 3) 181 [.ref 396, .long (6840691 : Int64)] S1 = some S2 := b1
    have f3 := b2.sI (v := 0) bk3
    have f4 := f3.sI (v := 0) bk4
    rw [b1', Option.bind_some, b2.r30 a4.2.2.1.2, if_pos zin, m169f (d := d) b2, zb_some, if_pos zx, f3.f162 (d := d + 1), Option.bind_some, f3.r30 a4.2.2.1.2, if_pos zin, m169f (d := d) f3, zb_some, if_pos zx, if_pos f4.n8.2, b185_f f4] at e
    rw [e, if_neg c5]
    exact ⟨_, rfl, f4.tr o1⟩
  have c5 := Classical.not_not.mp c5
  obtain ⟨S2, b1, b2, b3, b4⟩ := w1 c5
  have b1' : fV (d + 3) 181 [.ref 396, .long (6840691 : Int64)] S1 = some S2 := b1
  have o2 := o1.trans b3
  have r8 : gI S2 398 (nI b).toNatClampNeg = nI (p_R Q.1) := by rw [cl]; exact b4.2.2.2.2.1.1 hR
  have n2 : gL S2 412 (16 * b + p_L Q.1) = lN (q_nw (g_wl T p)) := by rw [b2.L (by unfold tDm; omega)]; exact n1
  rw [b1', Option.bind_some, b4.2.2.1.2, if_pos zin, r8, sb] at e
  rw [if_pos c5]
  obtain ⟨u1, u2⟩ := m169s (d := d) (lo := 0) (hi := p_R Q.1 - 1) b4 hi (by omega) (by omega)
  by_cases bb : ¬ (g_kd T (g_en T (g_en T p)) = 2 ∧ 0 ≤ g_vl T (g_en T (g_en T p)) ∧ g_vl T (g_en T (g_en T p)) ≤ p_R Q.1 - 1)
  · obtain ⟨v, S3, d1, d2⟩ := u2 bb
    have d1' : fI (d + 3) 169 [.ref 396, .int (0 : Int32), .int (nI (p_R Q.1 - 1))] S2 = some (v, S3) := d1
    have f3 := d2.sI (v := v) bk3
    have f4 := f3.sI (v := 0) bk4
    rw [d1', zb_some, if_pos zx, f3.f162 (d := d + 1), Option.bind_some, f3.r30 b4.2.2.1.2, if_pos zin, m169f (d := d) f3, zb_some, if_pos zx, if_pos f4.n8.2, b185_f f4] at e
    rw [e]
    unfold g_num
    by_cases k2 : g_kd T (g_en T (g_en T p)) = 2
    · rw [if_pos k2] at f4 ⊢
      rw [if_neg (fun z => bb ⟨k2, z⟩)]
      exact ⟨_, rfl, f4.tr o2⟩
    · rw [if_neg k2] at f4 ⊢
      exact ⟨_, rfl, f4.tr o2⟩
  have bb := Classical.not_not.mp bb
  obtain ⟨S3, d1, d2, d3, d4⟩ := u1 bb.1 bb.2
  have d1' : fI (d + 3) 169 [.ref 396, .int (0 : Int32), .int (nI (p_R Q.1 - 1))] S2 = some (nI (g_vl T (g_en T (g_en T p))), S3) := d1
  have o3 := o2.trans d3
  have n3 : gL S3 412 (16 * b + p_L Q.1) = lN (q_nw (g_wl T p)) := by rw [d2.L (by unfold tDm; omega)]; exact n2
  obtain ⟨ob, s4⟩ := d4.put (S' := sI S3 403 (nI (16 * b + p_L Q.1)).toNatClampNeg (nI (g_vl T (g_en T (g_en T p))))) (Q' := Q) (onM_sI (D := bkD b) (c := 403) (k := (nI (16 * b + p_L Q.1)).toNatClampNeg) (onM.refl d4.W) bk3) (by rw [cx]; exact d4.2.2.2.2.hi (Or.inl rfl) (Nat.le_refl _)) rfl
  have n4 : gL (sI S3 403 (nI (16 * b + p_L Q.1)).toNatClampNeg (nI (g_vl T (g_en T (g_en T p))))) 412 (16 * b + p_L Q.1) = lN (q_nw (g_wl T p)) := n3
  have t4 : gI (sI S3 403 (nI (16 * b + p_L Q.1)).toNatClampNeg (nI (g_vl T (g_en T (g_en T p))))) 403 (nI (16 * b + p_L Q.1)).toNatClampNeg = nI (g_vl T (g_en T (g_en T p))) := by rw [gI_sI, if_pos rfl, if_pos rfl]
  rw [d1', zb_some, if_pos zx] at e
  have gn : ∀ K, g_num T (g_en T (g_en T p)) 0 (p_R Q.1 - 1) K = K (g_vl T (g_en T (g_en T p))) (g_en T (g_en T (g_en T p))) := fun K => by
    unfold g_num
    rw [if_pos bb.1, if_pos bb.2]
  rw [gn]
  have o4 := o3.trans ob
  generalize sI S3 403 (nI (16 * b + p_L Q.1)).toNatClampNeg (nI (g_vl T (g_en T (g_en T p)))) = S4 at *
  have hv1 := g_vl_lt bb.1
  generalize hp3 : g_en T (g_en T (g_en T p)) = p3 at *
  generalize hv : g_vl T (g_en T (g_en T p)) = v at *
  show mRq _ S T b (g_num T p3 0 (p_R Q.1 - 1) fun v2 p4 => if v2 = v then .inl (4, g_st T p3) else .inr (p4, P_lo Q.1 v v2 (g_wl T p), Q.2))
  by_cases k4 : g_kd T p3 = 4
  · obtain ⟨S5, f1, f2⟩ := m162s (d := d + 1) s4 k4
    have f4 := f2.sI (v := 0) bk4
    rw [f1, Option.bind_some, f2.r30 s4.2.2.1.2, if_pos zin, m169f (d := d) f2, zb_some, if_pos zx, if_pos f4.n8.2, b185_f f4] at e
    rw [e]
    unfold g_num
    rw [if_neg (by omega)]
    exact ⟨_, rfl, f4.tr o4⟩
  have r8' : gI S4 398 (nI b).toNatClampNeg = nI (p_R Q.1) := by rw [cl]; exact s4.2.2.2.2.1.1 hR
  rw [m162 (d := d + 2) s4.1 k4, Option.bind_some, s4.2.2.1.2, if_pos zin, r8', sb] at e
  obtain ⟨y1, y2⟩ := m169s (d := d) (lo := 0) (hi := p_R Q.1 - 1) s4 hi (by omega) (by omega)
  by_cases bc : ¬ (g_kd T p3 = 2 ∧ 0 ≤ g_vl T p3 ∧ g_vl T p3 ≤ p_R Q.1 - 1)
  · obtain ⟨v', S5, f1, f2⟩ := y2 bc
    have f1' : fI (d + 3) 169 [.ref 396, .int (0 : Int32), .int (nI (p_R Q.1 - 1))] S4 = some (v', S5) := f1
    have f4 := f2.sI (v := v') bk4
    rw [f1', zb_some, if_pos zx, if_pos f4.n8.2, b185_f f4] at e
    rw [e]
    unfold g_num
    by_cases k2 : g_kd T p3 = 2
    · rw [if_pos k2] at f4 ⊢
      rw [if_neg (fun z => bc ⟨k2, z⟩)]
      exact ⟨_, rfl, f4.tr o4⟩
    · rw [if_neg k2] at f4 ⊢
      exact ⟨_, rfl, f4.tr o4⟩
  have bc := Classical.not_not.mp bc
  have hv2 := g_vl_lt bc.1
  obtain ⟨S5, f1, f2, f3, f4⟩ := y1 bc.1 bc.2
  have f1' : fI (d + 3) 169 [.ref 396, .int (0 : Int32), .int (nI (p_R Q.1 - 1))] S4 = some (nI (g_vl T p3), S5) := f1
  obtain ⟨oc, s6⟩ := f4.put (S' := sI S5 404 (nI (16 * b + p_L Q.1)).toNatClampNeg (nI (g_vl T p3))) (Q' := Q) (onM_sI (D := bkD b) (c := 404) (k := (nI (16 * b + p_L Q.1)).toNatClampNeg) (onM.refl f4.W) bk4) (by rw [cx]; exact f4.2.2.2.2.hi (Or.inr rfl) (Nat.le_refl _)) rfl
  have n6 : gL (sI S5 404 (nI (16 * b + p_L Q.1)).toNatClampNeg (nI (g_vl T p3))) 412 (16 * b + p_L Q.1) = lN (q_nw (g_wl T p)) := by
    show gL S5 412 (16 * b + p_L Q.1) = _
    rw [f2.L (by unfold tDm; omega)]; exact n4
  have t6 : gI (sI S5 404 (nI (16 * b + p_L Q.1)).toNatClampNeg (nI (g_vl T p3))) 403 (nI (16 * b + p_L Q.1)).toNatClampNeg = nI v := by rw [gI_sI, if_neg (by decide), f2.I (by unfold tDm; omega)]; exact t4
  have t7 : gI (sI S5 404 (nI (16 * b + p_L Q.1)).toNatClampNeg (nI (g_vl T p3))) 404 (nI (16 * b + p_L Q.1)).toNatClampNeg = nI (g_vl T p3) := by rw [gI_sI, if_pos rfl, if_pos rfl]
  have o6 := o4.trans (f3.trans oc)
  rw [f1', zb_some, if_pos zx] at e
  generalize sI S5 404 (nI (16 * b + p_L Q.1)).toNatClampNeg (nI (g_vl T p3)) = S6 at *
  rw [if_neg (fun z => z s6.z8.2), if_pos zx, if_pos zx, t6, t7] at e
  unfold g_num
  rw [if_pos bc.1, if_pos bc.2]
  show mRq _ S T b (if g_vl T p3 = v then .inl (4, g_st T p3) else .inr (g_en T p3, P_lo Q.1 v (g_vl T p3) (g_wl T p), Q.2))
  by_cases c : g_vl T p3 = v
  · have g9 := m159 (d := d + 2) (k := 4) (pl := g_st T p3) s6.W s6.2.1.1
    have g9' : fV (d + 3) 159 [.ref 396, .int (4 : Int32), .int (gI S4 396 4)] S6 = some (sI (sI S6 396 8 (nI 4)) 396 9 (nI (g_st T p3))) := by rw [s4.1.2.2.2.1]; exact g9
    have fr := m_br (b := b) (k := 4) (pl := g_st T p3) s6.W (by decide) (by decide)
    rw [if_neg (fun z => z (by rw [c])), g9', Option.bind_some, b185_f fr] at e
    rw [e, if_pos c]
    exact ⟨_, rfl, fr.tr o6⟩
  · have r26 : gI S6 402 (nI b).toNatClampNeg = nI (p_L Q.1) := by rw [cl]; exact s6.2.2.2.2.1.2.2.2.2.1
    rw [if_pos (show ¬ nI v = nI (g_vl T p3) from fun z => c ((nI_eq (by omega) (by omega)).mp z).symm), b185_223_eq (d + 3) S6 s6.W, if_neg (fun z => z s6.z8.2), s6.2.2.1.2, if_pos zin, if_pos zin, r26, nI_1, cl] at e
    rw [cx] at t6 t7
    rw [e, if_neg c]
    obtain ⟨x1, x2⟩ := s6.set (c := 402) (v := nI (p_L Q.1 + 1)) (Q' := (P_lo Q.1 v (g_vl T p3) (g_wl T p), Q.2)) (Or.inl ⟨by omega, rfl⟩) (s6.2.2.2.2.lo n6 t6 t7) rfl
    exact ⟨_, rfl, o6.trans x1, x2⟩
end HR
