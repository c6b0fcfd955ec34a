/-! THE TEXT: the class reads settings. -/
section HE
variable {d q : Nat} {T : List Nat} {S : z_S} {p : Nat} {Q : g_Q}
theorem xP.set {j : Nat} {v : Int32} {Q' : g_Q} (h : xP S q Q) (hj : j ≤ 5) (e2 : Q'.2 = Q.2) (er : p_L Q'.1 = p_L Q.1 ∧ p_f Q'.1 = p_f Q.1 ∧ p_o Q'.1 = p_o Q.1 ∧ p_a Q'.1 = p_a Q.1 ∧ p_c Q'.1 = p_c Q.1 ∧ p_d Q'.1 = p_d Q.1) (e : (if 0 = j then v else nI (p_m Q.1)) = nI (p_m Q'.1) ∧ (if 1 = j then v else nI (p_R Q.1)) = nI (p_R Q'.1) ∧ (if 2 = j then v else nI (p_B Q.1)) = nI (p_B Q'.1) ∧ (if 3 = j then v else nI (p_T Q.1)) = nI (p_T Q'.1) ∧ (if 4 = j then v else nI (p_K Q.1)) = nI (p_K Q'.1) ∧ (if 5 = j then v else nI (p_H Q.1)) = nI (p_H Q'.1)) : xP (sI S q j v) q Q' := by
  obtain ⟨h0, h1, h2, h3, h4, h5, h6, h7, h8, h9, h10, h11, h12, h13, h14⟩ := h
  obtain ⟨r1, r2, r3, r4, r5, r6⟩ := er
  obtain ⟨e0, e1, e3, e4, e5, e6⟩ := e
  unfold xP
  rw [e2, r1, r2, r3, r4, r5, r6]
  refine ⟨?_, ?_, ?_, ?_, ?_, ?_, ?_, ?_, ?_, fun i hi => ?_, fun i hi => ?_, fun i hi => ?_, fun i hi => ?_, fun i hi => ?_, fun w hw => ?_⟩
  · rw [gI_sI, if_pos rfl, h0]; exact e0
  · rw [gI_sI, if_pos rfl, h1]; exact e1
  · rw [gI_sI, if_pos rfl, h2]; exact e3
  · rw [gI_sI, if_pos rfl, h3]; exact e4
  · rw [gI_sI, if_pos rfl, h4]; exact e5
  · rw [gI_sI, if_pos rfl, h5]; exact e6
  · rw [gI_sI, if_pos rfl, if_neg (by omega)]; exact h6
  · rw [gI_sI, if_pos rfl, if_neg (by omega)]; exact h7
  · rw [gI_sI, if_pos rfl, if_neg (by omega)]; exact h8
  · rw [gI_sI, if_neg (by omega)]; exact h9 i hi
  · rw [gI_sI, if_neg (by omega)]; exact h10 i hi
  · rw [gI_sI, if_neg (by omega)]; exact h11 i hi
  · rw [gI_sI, if_neg (by omega)]; exact h12 i hi
  · rw [gI_sI, if_neg (by omega)]; exact h13 i hi
  · rw [gI_sI, if_neg (by omega), gI_sI, if_neg (by omega)]; exact h14 w hw
theorem cS.set {j : Nat} {v : Int32} {Q' : g_Q} (h : cS S T q p Q) (hx : xP (sI S q j v) q Q') : onI (g_sD q) S (sI S q j v) ∧ cS (sI S q j v) T q p Q' :=
  h.put (onI_sI (D := fun c _ => q ≤ c ∧ c ≤ q + 7) (c := q) (k := j) (onI.refl h.W) ⟨by omega, by omega⟩) hx
/-- the number is kept -/
theorem c14b {y v : Nat} {Q' : g_Q} (h : cS S T q p Q) (hk : g_kd T p ≠ 4) (hy : y < 8) (hQ : ∀ S', onI (g_sD q) S S' → cS S' T q (g_en T p) Q → ∃ S2, (if nI y = (0 : Int32) then some ((1 : Int32), sI S' q 1 (nI v)) else (if nI y = (1 : Int32) then some ((1 : Int32), sI S' q 2 (nI v)) else (if nI y = (2 : Int32) then some ((1 : Int32), sI S' q 3 (nI v)) else (if nI y = (3 : Int32) then some ((1 : Int32), sI S' q 4 (nI v)) else some ((1 : Int32), sI S' q 5 ((gI S' q 5) ||| ((1 : Int32) <<< ((nI v) &&& 31)))))))) = some (1, S2) ∧ onI (g_sD q) S' S2 ∧ cS S2 T q (g_en T p) Q') : cRq (b14_69 (d + 3) (nI y) (nI v) S) S T q (.inr (g_en T p, Q')) := by
  obtain ⟨S', a1, a2, a3⟩ := c98s (d := d) h hk
  rw [b14_69_eq (d + 3) (nI y) (nI v) S h.W, a1, Option.bind_some, a3.2.2.1]
  obtain ⟨S2, b1, b2, b3⟩ := hQ S' a2 a3
  rw [b1]
  exact ⟨S2, rfl, a2.trans b2, b3⟩
theorem c14a {y lo hi : Nat} {K : Nat → Nat → g_RS} (h : cS S T q p Q) (hy : y < 8) (hlo : lo < 100) (hhi : hi < 200) (e15 : fI (d + 3) 15 [.ref 18, .int (nI y)] S = some (nI hi, S)) (h7 : y ≠ 7) (hK : g_kd T p = 2 → lo ≤ g_vl T p → g_vl T p ≤ hi → cRq (b14_69 (d + 3) (nI y) (nI (g_vl T p)) S) S T q (K (g_vl T p) (g_en T p))) : cRq (b14_18 (d + 3) (nI y) (nI lo) S) S T q (g_num T p lo hi K) := by
  obtain ⟨n1, n2, n3⟩ := c13s (d := d + 1) (lo := lo) (hi := hi) h (by omega) (by omega)
  rw [b14_18_eq (d + 3) (nI y) (nI lo) S h.W, e15, zb_some]
  unfold g_num
  by_cases k2 : g_kd T p = 2
  · by_cases bb : lo ≤ g_vl T p ∧ g_vl T p ≤ hi
    · rw [n1 k2 bb, zb_some, if_pos (show ¬ (1 : Int32) = 0 by decide), if_pos (show ¬ nI y = (7 : Int32) from fun z => h7 ((nI_eq (b := 7) (by omega) (by omega)).mp z)), if_pos k2, if_pos bb, h.1.2.2.2.2.2.2.2.1 (Or.inl k2)]
      exact hK k2 bb.1 bb.2
    · obtain ⟨S2, a1, a2⟩ := n2 k2 bb
      rw [a1, zb_some, if_neg (show ¬ ¬ (0 : Int32) = 0 by decide), if_pos k2, if_neg bb]
      exact ⟨S2, rfl, a2⟩
  · obtain ⟨S2, a1, a2⟩ := n3 k2
    rw [a1, zb_some, if_neg (show ¬ ¬ (0 : Int32) = 0 by decide), if_neg k2]
    exact ⟨S2, rfl, a2⟩
theorem c14_0 (h : cS S T q p Q) : cRq (fI (d + 4) 14 [.ref 18, .int (nI 0)] S) S T q (g_num T p 2 16 fun v p' => .inr (p', P_R Q.1 v, Q.2)) := by
  have e := e14 (d + 3) (nI 0) S h.W
  rw [if_neg (show ¬ ¬ nI 0 = (0 : Int32) from fun z => z rfl)] at e
  rw [e]
  have e15 := e15 (d + 2) (nI 0) S h.W
  rw [if_pos (show nI 0 = (0 : Int32) from rfl)] at e15
  refine c14a (d := d) (y := 0) (lo := 2) (hi := 16) h (by omega) (by omega) (by omega) e15 (by omega) fun k2 b1 b2 => c14b h (by omega) (by omega) fun S' o hs => ?_
  rw [if_pos (show nI 0 = (0 : Int32) from rfl)]
  obtain ⟨x1, x2⟩ := hs.set (hs.2.2.2.set (j := 1) (v := nI (g_vl T p)) (Q' := (P_R Q.1 (g_vl T p), Q.2)) (by omega) rfl ⟨rfl, rfl, rfl, rfl, rfl, rfl⟩ ⟨rfl, rfl, rfl, rfl, rfl, rfl⟩)
  exact ⟨_, rfl, x1, x2⟩
theorem c14_1 (h : cS S T q p Q) : cRq (fI (d + 4) 14 [.ref 18, .int (nI 1)] S) S T q (g_num T p 0 6 fun v p' => .inr (p', P_B Q.1 v, Q.2)) := by
  have e := e14 (d + 3) (nI 1) S h.W
  rw [if_pos (show ¬ nI 1 = (0 : Int32) by decide), if_pos (show ¬ nI 1 = (2 : Int32) by decide)] at e
  rw [e]
  have e15 := e15 (d + 2) (nI 1) S h.W
  rw [if_neg (show ¬ nI 1 = (0 : Int32) by decide), if_pos (show nI 1 = (1 : Int32) from rfl)] at e15
  refine c14a (d := d) (y := 1) (lo := 0) (hi := 6) h (by omega) (by omega) (by omega) e15 (by omega) fun k2 b1 b2 => c14b h (by omega) (by omega) fun S' o hs => ?_
  rw [if_neg (show ¬ nI 1 = (0 : Int32) by decide), if_pos (show nI 1 = (1 : Int32) from rfl)]
  obtain ⟨x1, x2⟩ := hs.set (hs.2.2.2.set (j := 2) (v := nI (g_vl T p)) (Q' := (P_B Q.1 (g_vl T p), Q.2)) (by omega) rfl ⟨rfl, rfl, rfl, rfl, rfl, rfl⟩ ⟨rfl, rfl, rfl, rfl, rfl, rfl⟩)
  exact ⟨_, rfl, x1, x2⟩
theorem c14_2 (h : cS S T q p Q) : cRq (fI (d + 4) 14 [.ref 18, .int (nI 2)] S) S T q (g_num T p 1 40 fun v p' => .inr (p', P_T Q.1 v, Q.2)) := by
  have e := e14 (d + 3) (nI 2) S h.W
  rw [if_pos (show ¬ nI 2 = (0 : Int32) by decide), if_neg (show ¬ ¬ nI 2 = (2 : Int32) from fun z => z rfl)] at e
  rw [e]
  have e15 := e15 (d + 2) (nI 2) S h.W
  rw [if_neg (show ¬ nI 2 = (0 : Int32) by decide), if_neg (show ¬ nI 2 = (1 : Int32) by decide), if_pos (show nI 2 = (2 : Int32) from rfl)] at e15
  refine c14a (d := d) (y := 2) (lo := 1) (hi := 40) h (by omega) (by omega) (by omega) e15 (by omega) fun k2 b1 b2 => c14b h (by omega) (by omega) fun S' o hs => ?_
  rw [if_neg (show ¬ nI 2 = (0 : Int32) by decide), if_neg (show ¬ nI 2 = (1 : Int32) by decide), if_pos (show nI 2 = (2 : Int32) from rfl)]
  obtain ⟨x1, x2⟩ := hs.set (hs.2.2.2.set (j := 3) (v := nI (g_vl T p)) (Q' := (P_T Q.1 (g_vl T p), Q.2)) (by omega) rfl ⟨rfl, rfl, rfl, rfl, rfl, rfl⟩ ⟨rfl, rfl, rfl, rfl, rfl, rfl⟩)
  exact ⟨_, rfl, x1, x2⟩
theorem c14_3 (h : cS S T q p Q) : cRq (fI (d + 4) 14 [.ref 18, .int (nI 3)] S) S T q (g_num T p 0 100 fun v p' => .inr (p', P_K Q.1 v, Q.2)) := by
  have e := e14 (d + 3) (nI 3) S h.W
  rw [if_pos (show ¬ nI 3 = (0 : Int32) by decide), if_pos (show ¬ nI 3 = (2 : Int32) by decide)] at e
  rw [e]
  have e15 := e15 (d + 2) (nI 3) S h.W
  rw [if_neg (show ¬ nI 3 = (0 : Int32) by decide), if_neg (show ¬ nI 3 = (1 : Int32) by decide), if_neg (show ¬ nI 3 = (2 : Int32) by decide), if_pos (show nI 3 = (3 : Int32) from rfl)] at e15
  refine c14a (d := d) (y := 3) (lo := 0) (hi := 100) h (by omega) (by omega) (by omega) e15 (by omega) fun k2 b1 b2 => c14b h (by omega) (by omega) fun S' o hs => ?_
  rw [if_neg (show ¬ nI 3 = (0 : Int32) by decide), if_neg (show ¬ nI 3 = (1 : Int32) by decide), if_neg (show ¬ nI 3 = (2 : Int32) by decide), if_pos (show nI 3 = (3 : Int32) from rfl)]
  obtain ⟨x1, x2⟩ := hs.set (hs.2.2.2.set (j := 4) (v := nI (g_vl T p)) (Q' := (P_K Q.1 (g_vl T p), Q.2)) (by omega) rfl ⟨rfl, rfl, rfl, rfl, rfl, rfl⟩ ⟨rfl, rfl, rfl, rfl, rfl, rfl⟩)
  exact ⟨_, rfl, x1, x2⟩
theorem p_H_lt {P : q_Pl} (h : p_Wf P) : p_H P < 65536 := by
  have h1 := h.1
  have h2 := h.2.2.2.2.2.2.1
  have := Nat.pow_le_pow_right (n := 2) (by omega) h1
  omega
theorem c14_7 (h : cS S T q p Q) (hP : p_Wf Q.1) (hR : 2 ≤ p_R Q.1) : cRq (fI (d + 4) 14 [.ref 18, .int (nI 7)] S) S T q (g_num T p 0 (p_R Q.1 - 1) fun v p' => if (p_H Q.1).testBit v then .inl (4, g_st T p) else .inr (p', P_H Q.1 (p_H Q.1 ||| 2 ^ v), Q.2)) := by
  have hR1 := hP.1
  have hH := p_H_lt hP
  have e := e14 (d + 3) (nI 7) S h.W
  rw [if_pos (show ¬ nI 7 = (0 : Int32) by decide), if_pos (show ¬ nI 7 = (2 : Int32) by decide)] at e
  rw [e]
  have e15 := e15 (d + 2) (nI 7) S h.W
  have sb : nI (p_R Q.1) - (1 : Int32) = nI (p_R Q.1 - 1) := by simp (disch := omega) only [ni_lit, nI_add, pk_mul, pk_sub, pk_div, nI_leI, nI_ltI, nI_eq, nI_clamp, ni_in, ni_inm, ni_ltm, ni_mlt, ni_lem, ni_mle, ni_eqm, ni_meq, ni_mm, ni_mmle, ni_bit, ni_shl, ni_clr, fa_or, Nat.add_zero, Nat.zero_add, Nat.zero_mul, Nat.mul_zero, eOn, eOs]
  rw [if_neg (show ¬ nI 7 = (0 : Int32) by decide), if_neg (show ¬ nI 7 = (1 : Int32) by decide), if_neg (show ¬ nI 7 = (2 : Int32) by decide), if_neg (show ¬ nI 7 = (3 : Int32) by decide), h.2.2.1, h.2.2.2.2.1, sb] at e15
  obtain ⟨n1, n2, n3⟩ := c13s (d := d + 1) (lo := 0) (hi := p_R Q.1 - 1) h (by omega) (by omega)
  have n1' : g_kd T p = 2 → 0 ≤ g_vl T p ∧ g_vl T p ≤ p_R Q.1 - 1 → fI (d + 3) 13 [.ref 18, .int (0 : Int32), .int (nI (p_R Q.1 - 1))] S = some (1, S) := n1
  have n2' : g_kd T p = 2 → ¬ (0 ≤ g_vl T p ∧ g_vl T p ≤ p_R Q.1 - 1) → cFl (fI (d + 3) 13 [.ref 18, .int (0 : Int32), .int (nI (p_R Q.1 - 1))] S) S q (4, g_st T p) := n2
  have n3' : g_kd T p ≠ 2 → cFl (fI (d + 3) 13 [.ref 18, .int (0 : Int32), .int (nI (p_R Q.1 - 1))] S) S q (1, g_ft T p) := n3
  rw [b14_18_eq (d + 3) (nI 7) 0 S h.W, e15, zb_some]
  unfold g_num
  by_cases k2 : g_kd T p = 2
  · by_cases bb : 0 ≤ g_vl T p ∧ g_vl T p ≤ p_R Q.1 - 1
    · rw [n1' k2 bb, zb_some, if_pos (show ¬ (1 : Int32) = 0 by decide), if_neg (show ¬ ¬ nI 7 = (7 : Int32) from fun z => z rfl), if_pos k2, if_pos bb, h.1.2.2.2.2.2.2.2.1 (Or.inl k2), h.2.2.1, h.2.2.2.2.2.2.2.2.1]
      have ib : ((nI (p_H Q.1) >>> (nI (g_vl T p) &&& 31)) &&& (1 : Int32)) = nI (q_b (p_H Q.1) (g_vl T p)) := ni_bit (by omega) (by omega)
      show cRq _ S T q (if (p_H Q.1).testBit (g_vl T p) = true then .inl (4, g_st T p) else .inr (g_en T p, P_H Q.1 (p_H Q.1 ||| 2 ^ g_vl T p), Q.2))
      by_cases cb : (p_H Q.1).testBit (g_vl T p) = true
      · rw [if_neg (fun z => z (by rw [ib]; exact q_bo.mpr cb)), if_pos cb]
        exact (c10s (d := d + 2) (k := 4) h.1).C
      · rw [if_pos (show ¬ ((nI (p_H Q.1) >>> (nI (g_vl T p) &&& 31)) &&& (1 : Int32)) = (1 : Int32) from fun z => cb (by rw [ib] at z; exact q_bo.mp z)), if_neg cb]
        refine c14b h (by omega) (by omega) fun S' o hs => ?_
        rw [if_neg (show ¬ nI 7 = (0 : Int32) by decide), if_neg (show ¬ nI 7 = (1 : Int32) by decide), if_neg (show ¬ nI 7 = (2 : Int32) by decide), if_neg (show ¬ nI 7 = (3 : Int32) by decide), hs.2.2.2.2.2.2.2.2.1]
        have io : nI (p_H Q.1) ||| ((1 : Int32) <<< (nI (g_vl T p) &&& 31)) = nI (p_H Q.1 ||| 2 ^ g_vl T p) := by
          have : (1 : Int32) <<< (nI (g_vl T p) &&& 31) = nI (2 ^ g_vl T p) := ni_shl (by omega)
          rw [this, fa_or]
        rw [io]
        obtain ⟨x1, x2⟩ := hs.set (hs.2.2.2.set (j := 5) (v := nI (p_H Q.1 ||| 2 ^ g_vl T p)) (Q' := (P_H Q.1 (p_H Q.1 ||| 2 ^ g_vl T p), Q.2)) (by omega) rfl ⟨rfl, rfl, rfl, rfl, rfl, rfl⟩ ⟨rfl, rfl, rfl, rfl, rfl, rfl⟩)
        exact ⟨_, rfl, x1, x2⟩
    · obtain ⟨S2, a1, a2⟩ := n2' k2 bb
      rw [a1, zb_some, if_neg (show ¬ ¬ (0 : Int32) = 0 by decide), if_pos k2, if_neg bb]
      exact ⟨S2, rfl, a2⟩
  · obtain ⟨S2, a1, a2⟩ := n3' k2
    rw [a1, zb_some, if_neg (show ¬ ¬ (0 : Int32) = 0 by decide), if_neg k2]
    exact ⟨S2, rfl, a2⟩
end HE
