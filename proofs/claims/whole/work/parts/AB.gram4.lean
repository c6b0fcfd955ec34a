/-! THE FORMULAS: the class reads a part. -/
section GM
variable {d q w k : Nat} {T : List Nat} {su te fc : g_F} {S : z_S} {p : Nat} {cs : List Nat}
theorem g_lv {k : Nat} (hk : k ≠ 0) (h7 : k ≤ 7) : nI (7 - k) + (1 : Int32) = nI (7 - (k - 1)) := by
  rw [nI_1]
  congr 1
  omega
theorem c28g (h : cG S T q w p cs) (hN : g_ok T p) (h2 : g_kd T p ≠ 2) : fI (d + 2) 28 [.ref 18] S = some (if g_var T w p = 0 then 0 else q_en (g_var T w p), S) := by
  have e := e28 (d + 1) S h.W
  have h4 := g_kd_le (T := T) (p := p)
  have hw := h.2.2.2.2.1
  have h7 := h.1.2.2.2.2.2.2.2.2 hN
  have e2 : ∀ j, j < 24 → j = g_own w → b28_26 (d + 1) (nI j) S = some (if g_var T w p = 0 then 0 else q_en (g_var T w p), S) := fun j hj hjw => by
    rw [b28_26_eq (d + 1) (nI j) S h.W, c103 (d := d) h.1 hj, zb_some]
    unfold g_var
    rw [← hjw]
    cases ho : g_ow T p j with
    | true => rw [if_neg (by decide), if_pos rfl, if_neg (by decide)]; rfl
    | false =>
      rw [if_pos (by decide), if_neg (show ¬ false = true by decide)]
      have iw : ∀ i, i < 24 → (gI S 19 7 = nI i ↔ g_ow T p i = true) := fun i hi => by
        rw [h7]
        unfold g_ow
        by_cases c1 : g_kd T p = 1
        · rw [if_pos c1, decide_eq_true c1, Bool.true_and, decide_eq_true_eq, ← g_oi_i hi]
          exact eO_eq (fun j hj => by have := g_oi_lt 24 hj; omega) (by omega)
        · rw [if_neg c1, decide_eq_false c1, Bool.false_and]
          exact ⟨fun z => absurd ((ni_meq (a := i) (by omega)).mp z) id, fun z => by cases z⟩
      by_cases c1 : g_ow T p 11 = true
      · rw [if_pos c1, if_pos (show gI S 19 7 = (11 : Int32) from (iw 11 (by omega)).mpr c1), if_neg (by decide)]; rfl
      rw [if_neg c1, if_neg (show ¬ gI S 19 7 = (11 : Int32) from fun z => c1 ((iw 11 (by omega)).mp z))]
      by_cases c2 : g_ow T p 12 = true
      · rw [if_pos c2, if_pos (show gI S 19 7 = (12 : Int32) from (iw 12 (by omega)).mpr c2), if_neg (by decide)]; rfl
      rw [if_neg c2, if_neg (show ¬ gI S 19 7 = (12 : Int32) from fun z => c2 ((iw 12 (by omega)).mp z))]
      by_cases c3 : g_ow T p 13 = true
      · rw [if_pos c3, if_pos (show gI S 19 7 = (13 : Int32) from (iw 13 (by omega)).mpr c3), if_neg (by decide)]; rfl
      rw [if_neg c3, if_neg (show ¬ gI S 19 7 = (13 : Int32) from fun z => c3 ((iw 13 (by omega)).mp z))]
      by_cases c4 : g_ow T p 14 = true
      · rw [if_pos c4, if_pos (show gI S 19 7 = (14 : Int32) from (iw 14 (by omega)).mpr c4), if_neg (by decide)]; rfl
      rw [if_neg c4, if_neg (show ¬ gI S 19 7 = (14 : Int32) from fun z => c4 ((iw 14 (by omega)).mp z)), if_pos rfl]
  rw [e, h.2.2.2.1]
  by_cases w0 : w = 0
  · rw [w0, if_neg (show ¬ ¬ nI 0 = (0 : Int32) from fun z => z rfl)]
    rw [w0] at e2
    exact e2 15 (by omega) rfl
  · rw [if_pos (show ¬ nI w = (0 : Int32) from fun z => w0 ((nI_eq (b := 0) (by omega) (by omega)).mp z))]
    by_cases w1 : w = 1
    · rw [w1, if_neg (show ¬ ¬ nI 1 = (1 : Int32) from fun z => z rfl)]
      rw [w1] at e2
      exact e2 1 (by omega) rfl
    · rw [if_pos (show ¬ nI w = (1 : Int32) from fun z => w1 ((nI_eq (b := 1) (by omega) (by omega)).mp z))]
      have w2 : w = 2 := by omega
      rw [w2] at e2 ⊢
      exact e2 16 (by omega) rfl
/-- a pair in brackets -/
theorem c29g {n : Nat} (h7 : k ≤ 7) (hs : k ≠ 0 → ∀ d, cCt (d + 8 * (k - 1) + 8) 25 T q w (k - 1) su) (gs : k ≠ 0 → g_gd T false (5 * k - 2) su) (h : cG S T q w p cs) (hl : cs.length ≤ p) (hk : g_kd T p = 1) : cRs (fI (d + 8 * k + 5) 29 [.ref 18, .int (nI (7 - k)), .int (q_en n)] S) S T q w (g_pa T k su n p cs) := by
  have hp := h.pp
  have ek := g_en_k hp.1 (show g_kd T p ≠ 0 by omega)
  obtain ⟨S1, a1, a2, a3⟩ := c98g (d := d + 8 * k + 1) h (by omega)
  have s40 : fI (d + 8 * k + 4) 104 [.ref 19, .int (40 : Int32)] S1 = _ := c104 (d := d + 8 * k + 3) (c := 40) a3.1 (by omega)
  rw [e29 (d + 8 * k + 4) (nI (7 - k)) (q_en n) S h.W, a1, Option.bind_some, s40, zb_some]
  unfold g_pa
  cases hc : g_sg T (g_en T p) 40 with
  | false =>
    rw [if_neg (by decide), if_neg (by decide)]
    exact (cRs_C (c9g (d := d + 8 * k + 3) a3)).tr a2
  | true =>
    rw [if_pos (by decide), if_pos rfl]
    refine (cRs_A (c24g (d := d + 8 * k) h7 a3 (by rw [g_sg_k hc]; decide)) (F := fun S' => some ((0 : Int32), S')) (fun _ _ => rfl) fun S2 p2 cs2 e2 o2 g2 => ?_).tr a2
    obtain ⟨k0, q2⟩ := g_op_i e2
    cases q2
    have ek2 := g_en_k ek.2 (show g_kd T (g_en T p) ≠ 0 by rw [g_sg_k hc]; decide)
    rw [g_lv k0 h7]
    have c1 := hs k0 (d + 4) S2 (g_en T (g_en T p)) cs g2 (by omega) (g_ok_en ek.2 (Or.inr (g_sg_k hc)))
    rw [show d + 4 + 8 * (k - 1) + 8 = d + 8 * k + 4 by omega] at c1
    refine cRs_A c1 (F := fun S' => some ((0 : Int32), S')) (fun _ _ => rfl) fun S3 p3 cs3 e3 o3 g3 => ?_
    have l3 := (gs k0).len ek2.2 e3
    refine cRs_A (c11g (d := d + 8 * k) (c := 44) (by decide) g3) (F := fun S' => some ((0 : Int32), S')) (fun _ _ => rfl) fun S4 p4 cs4 e4 o4 g4 => ?_
    obtain ⟨z4, q4⟩ := g_tk_i e4
    cases q4
    have ek4 := g_en_k l3.2.2 (show g_kd T p3 ≠ 0 by rw [g_sg_k z4]; decide)
    have c2 := hs k0 (d + 4) S4 (g_en T p3) cs3 g4 (by omega) (g_ok_en l3.2.2 (Or.inr (g_sg_k z4)))
    rw [show d + 4 + 8 * (k - 1) + 8 = d + 8 * k + 4 by omega] at c2
    refine cRs_B c2 (F := fun S' => some ((0 : Int32), S')) (fun _ _ => rfl) fun S5 p5 cs5 e5 o5 g5 => ?_
    have l5 := (gs k0).len ek4.2 e5
    obtain ⟨S6, f1, f2, f3⟩ := c66g (d := d + 8 * k + 3) (n := n) g5 (by omega)
    rw [g5.2.2.1, f1, Option.bind_some]
    exact (cRs_C (c11g (d := d + 8 * k) (c := 41) (by decide) f3)).tr f2
theorem c30g (h7 : k ≤ 7) (hs : k ≠ 0 → ∀ d, cCt (d + 8 * (k - 1) + 8) 25 T q w (k - 1) su) (gs : k ≠ 0 → g_gd T false (5 * k - 2) su) (ht : k ≠ 0 → ∀ d, cCt (d + 8 * (k - 1) + 12) 20 T q w (k - 1) te) (gt : k ≠ 0 → g_gd T true (5 * k + 1) te) (h : cG S T q w p cs) (hl : cs.length ≤ p) (hk : g_kd T p = 1) : cRs (fI (d + 8 * k + 5) 30 [.ref 18, .int (nI (7 - k))] S) S T q w (g_ch T k su te p cs) := by
  have hp := h.pp
  have ek := g_en_k hp.1 (show g_kd T p ≠ 0 by omega)
  obtain ⟨S1, a1, a2, a3⟩ := c98g (d := d + 8 * k + 1) h (by omega)
  have s40 : fI (d + 8 * k + 4) 104 [.ref 19, .int (40 : Int32)] S1 = _ := c104 (d := d + 8 * k + 3) (c := 40) a3.1 (by omega)
  rw [e30 (d + 8 * k + 4) (nI (7 - k)) S h.W, a1, Option.bind_some, s40, zb_some]
  unfold g_ch
  cases hc : g_sg T (g_en T p) 40 with
  | false =>
    rw [if_neg (by decide), if_neg (by decide)]
    exact (cRs_C (c9g (d := d + 8 * k + 3) a3)).tr a2
  | true =>
    rw [if_pos (by decide), if_pos rfl]
    refine (cRs_A (c24g (d := d + 8 * k) h7 a3 (by rw [g_sg_k hc]; decide)) (F := fun S' => some ((0 : Int32), S')) (fun _ _ => rfl) fun S2 p2 cs2 e2 o2 g2 => ?_).tr a2
    obtain ⟨k0, q2⟩ := g_op_i e2
    cases q2
    have ek2 := g_en_k ek.2 (show g_kd T (g_en T p) ≠ 0 by rw [g_sg_k hc]; decide)
    rw [g_lv k0 h7]
    have c1 := ht k0 d S2 (g_en T (g_en T p)) cs g2 (by omega) (g_ok_en ek.2 (Or.inr (g_sg_k hc)))
    rw [show d + 8 * (k - 1) + 12 = d + 8 * k + 4 by omega] at c1
    refine cRs_A c1 (F := fun S' => some ((0 : Int32), S')) (fun _ _ => rfl) fun S3 p3 cs3 e3 o3 g3 => ?_
    have l3 := (gt k0).len ek2.2 e3
    refine cRs_B (c11g (d := d + 8 * k) (c := 44) (by decide) g3) (F := fun S' => some ((0 : Int32), S')) (fun _ _ => rfl) fun S4 p4 cs4 e4 o4 g4 => ?_
    obtain ⟨z4, q4⟩ := g_tk_i e4
    cases q4
    have ek4 := g_en_k l3.2.2 (show g_kd T p3 ≠ 0 by rw [g_sg_k z4]; decide)
    have c2 := hs k0 (d + 4) S4 (g_en T p3) cs3 g4 (by omega) (g_ok_en l3.2.2 (Or.inr (g_sg_k z4)))
    rw [show d + 4 + 8 * (k - 1) + 8 = d + 8 * k + 4 by omega] at c2
    refine cRs_A c2 (F := fun S' => some ((0 : Int32), S')) (fun _ _ => rfl) fun S5 p5 cs5 e5 o5 g5 => ?_
    have l5 := (gs k0).len ek4.2 e5
    refine cRs_A (c11g (d := d + 8 * k) (c := 44) (by decide) g5) (F := fun S' => some ((0 : Int32), S')) (fun _ _ => rfl) fun S6 p6 cs6 e6 o6 g6 => ?_
    obtain ⟨z6, q6⟩ := g_tk_i e6
    cases q6
    have ek6 := g_en_k l5.2.2 (show g_kd T p5 ≠ 0 by rw [g_sg_k z6]; decide)
    have c3 := hs k0 (d + 4) S6 (g_en T p5) cs5 g6 (by omega) (g_ok_en l5.2.2 (Or.inr (g_sg_k z6)))
    rw [show d + 4 + 8 * (k - 1) + 8 = d + 8 * k + 4 by omega] at c3
    refine cRs_B c3 (F := fun S' => some ((0 : Int32), S')) (fun _ _ => rfl) fun S7 p7 cs7 e7 o7 g7 => ?_
    have l7 := (gs k0).len ek6.2 e7
    obtain ⟨S8, f1, f2, f3⟩ := c66g (d := d + 8 * k + 3) (n := 10019) g7 (by omega)
    have f1' : fV (d + 8 * k + 4) 66 [.ref q, .int (-19 : Int32)] S7 = some S8 := f1
    rw [g7.2.2.1, f1', Option.bind_some]
    exact (cRs_C (c11g (d := d + 8 * k) (c := 41) (by decide) f3)).tr f2
theorem c27g (h7 : k ≤ 7) (hs : k ≠ 0 → ∀ d, cCt (d + 8 * (k - 1) + 8) 25 T q w (k - 1) su) (gs : k ≠ 0 → g_gd T false (5 * k - 2) su) (ht : k ≠ 0 → ∀ d, cCt (d + 8 * (k - 1) + 12) 20 T q w (k - 1) te) (gt : k ≠ 0 → g_gd T true (5 * k + 1) te) (d : Nat) : cCt (d + 8 * k + 6) 27 T q w k (g_pr T w k su te) := by
  intro S p cs h hl hN
  have hp := h.pp
  have hW := h.W
  rw [e27 (d + 8 * k + 5) (nI (7 - k)) S hW]
  have s40 := c104 (d := d + 8 * k + 4) (c := 40) h.1 (by omega)
  have w22 := c103 (d := d + 8 * k + 4) (i := 22) h.1 (by omega)
  have w23 := c103 (d := d + 8 * k + 4) (i := 23) h.1 (by omega)
  have w17 := c103 (d := d + 8 * k + 4) (i := 17) h.1 (by omega)
  have s40' : fI (d + 8 * k + 5) 104 [.ref 19, .int (40 : Int32)] S = _ := s40
  have w22' : fI (d + 8 * k + 5) 103 [.ref 19, .int (22 : Int32)] S = _ := w22
  have w23' : fI (d + 8 * k + 5) 103 [.ref 19, .int (23 : Int32)] S = _ := w23
  have w17' : fI (d + 8 * k + 5) 103 [.ref 19, .int (17 : Int32)] S = _ := w17
  rw [s40', zb_some]
  unfold g_pr
  cases c0 : g_sg T p 40 with
  | true =>
    rw [if_neg (by decide), if_pos rfl]
    have ek := g_en_k hp.1 (show g_kd T p ≠ 0 by rw [g_sg_k c0]; decide)
    refine cRs_A (c24g (d := d + 8 * k + 1) h7 h (by rw [g_sg_k c0]; decide)) (F := fun S' => b27_43 (d + 8 * k + 5) S') (fun S' w' => b27_43_eq (d + 8 * k + 5) S' w') fun S2 p2 cs2 e2 o2 g2 => ?_
    obtain ⟨k0, q2⟩ := g_op_i e2
    cases q2
    rw [g_lv k0 h7]
    have c1 := hs k0 (d + 5) S2 (g_en T p) cs g2 (by omega) (g_ok_en hp.1 (Or.inr (g_sg_k c0)))
    rw [show d + 5 + 8 * (k - 1) + 8 = d + 8 * k + 5 by omega] at c1
    refine cRs_A c1 (F := fun S' => b27_43 (d + 8 * k + 5) S') (fun S' w' => b27_43_eq (d + 8 * k + 5) S' w') fun S3 p3 cs3 e3 o3 g3 => ?_
    exact cRs_E (c11g (d := d + 8 * k + 1) (c := 41) (by omega) g3) (F := fun S' => b27_43 (d + 8 * k + 5) S') (fun S' w' => b27_43_eq (d + 8 * k + 5) S' w')
  | false =>
    rw [if_pos (by decide), if_neg (by decide), w22', zb_some]
    cases c1 : g_ow T p 22 with
    | true =>
      rw [if_neg (by decide), if_pos rfl]
      exact cRs_C (c29g (d := d) (n := 10011) h7 hs gs h hl (g_ow_k c1))
    | false =>
      rw [if_pos (by decide), if_neg (by decide), w23', zb_some]
      cases c2 : g_ow T p 23 with
      | true =>
        rw [if_neg (by decide), if_pos rfl]
        exact cRs_C (c29g (d := d) (n := 10012) h7 hs gs h hl (g_ow_k c2))
      | false =>
        rw [if_pos (by decide), if_neg (by decide), w17', zb_some]
        cases c3 : g_ow T p 17 with
        | true =>
          rw [if_neg (by decide), if_pos rfl]
          exact cRs_C (c30g (d := d) h7 hs gs ht gt h hl (g_ow_k c3))
        | false =>
          rw [if_pos (by decide), if_neg (show ¬ false = true by decide), h.1.2.2.1]
          have h4 := g_kd_le (T := T) (p := p)
          have fin : ∀ n, g_kd T p ≠ 4 → g_kd T p ≠ 0 → cRs ((fV (d + 8 * k + 5) 66 [.ref (gP S 18 3), .int (q_en n)] S).bind fun S22 => b27_153 (d + 8 * k + 5) S22) S T q w (.inr (g_en T p, cs ++ [n])) := fun n n4 n0 => by
            have ek := g_en_k hp.1 n0
            obtain ⟨S6, f1, f2, f3⟩ := c66g (d := d + 8 * k + 4) (n := n) h (by omega)
            obtain ⟨S7, b1, b2, b3⟩ := c98g (d := d + 8 * k + 2) f3 n4
            rw [h.2.2.1, f1, Option.bind_some, b27_153_eq (d + 8 * k + 5) S6 f2.W, b1, Option.bind_some]
            exact ⟨S7, rfl, f2.trans b2, b3⟩
          by_cases c4 : g_kd T p = 2
          · rw [if_neg (show ¬ ¬ nI (g_kd T p) = (2 : Int32) from fun z => z (by rw [c4]; rfl)), if_pos c4, h.1.2.2.2.2.2.2.2.1 (Or.inl c4)]
            have hv := g_vl_lt c4
            have ee : nI (g_vl T p) = q_en (g_vl T p) := by unfold q_en; rw [if_pos hv]
            rw [ee]
            exact fin (g_vl T p) (by omega) (by omega)
          · rw [if_pos (show ¬ nI (g_kd T p) = (2 : Int32) from fun z => c4 ((nI_eq (b := 2) (by omega) (by omega)).mp z)), if_neg c4, c28g (d := d + 8 * k + 3) h hN c4, zb_some]
            by_cases c5 : g_var T w p = 0
            · rw [if_pos c5, if_neg (fun z => z rfl), if_pos c5]
              exact cRs_C (c9g (d := d + 8 * k + 4) h)
            · obtain ⟨v1, v2, v3⟩ := g_var_k c5
              have ne : ¬ q_en (g_var T w p) = (0 : Int32) := by
                have hr : g_var T w p = 10001 ∨ g_var T w p = 10002 ∨ g_var T w p = 10003 ∨ g_var T w p = 10004 ∨ g_var T w p = 10005 := by omega
                rcases hr with z | z | z | z | z <;> rw [z] <;> decide
              rw [if_neg c5, if_pos ne, if_neg c5]
              exact fin (g_var T w p) (by omega) (by omega)
end GM
