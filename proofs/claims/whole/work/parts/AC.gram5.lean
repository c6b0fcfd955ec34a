/-! THE FORMULAS: the class reads sums and tests. -/
section GN
variable {D mi M q w k b : Nat} {T : List Nat} {t : Bool} {op : Nat → Nat} {pt : g_F} {B : Nat → z_S → Option (Int32 × z_S)}
theorem c_lp (hB0 : ∀ S, z_W S → B 1600 S = some (1, S)) (hB1 : ∀ n S p cs, n < 1600 → cG S T q w p cs → op p = 0 → B n S = some (1, S)) (hB2 : ∀ n S p cs, n < 1600 → cG S T q w p cs → op p ≠ 0 → B n S = (fV (D + 3) 98 [.ref 19] S).bind fun S15 => zb (fI (D + 3) mi [.ref 18, .int (nI (7 - k))] S15) fun v16 S17 => if ¬ v16 = (0 : Int32) then (fV (D + 3) 66 [.ref (gP S17 18 3), .int (q_en (op p))] S17).bind fun S20 => B (n + 1) S20 else some ((0 : Int32), S17)) (hpt : cCt (D + 3) mi T q w k pt) (gpt : g_gd T t b pt) (hj : g_jn T t op) : ∀ (m n : Nat) (S : z_S) (p : Nat) (cs : List Nat), n + m = 1600 → cG S T q w p cs → cs.length ≤ p → cRs (B n S) S T q w (g_lp T op pt m p cs)
  | 0, n, S, p, cs, hn, h, hl => by
    rw [show n = 1600 by omega, hB0 S h.W, g_lp]
    exact ⟨S, rfl, onI.refl h.W, h⟩
  | m + 1, n, S, p, cs, hn, h, hl => by
    rw [g_lp]
    have hp := h.pp
    by_cases c : op p = 0
    · rw [if_pos c, hB1 n S p cs (by omega) h c]
      exact ⟨S, rfl, onI.refl h.W, h⟩
    · obtain ⟨hk, _⟩ := hj p c
      have ek := g_en_k hp.1 (show g_kd T p ≠ 0 by omega)
      obtain ⟨S1, a1, a2, a3⟩ := c98g (d := D) h (by omega)
      rw [if_neg c, hB2 n S p cs (by omega) h c, a1, Option.bind_some]
      refine (cRs_B (hpt S1 (g_en T p) cs a3 (by omega) (g_ok_en hp.1 hk)) (F := fun S' => some ((0 : Int32), S')) (fun _ _ => rfl) fun S2 p2 cs2 e2 o2 g2 => ?_).tr a2
      have l2 := gpt.len ek.2 e2
      obtain ⟨S3, f1, f2, f3⟩ := c66g (d := D + 2) (n := op p) g2 (by omega)
      rw [g2.2.2.1, f1, Option.bind_some]
      exact (c_lp hB0 hB1 hB2 hpt gpt hj m (n + 1) S3 p2 (cs2 ++ [op p]) (by omega) f3 (by rw [List.length_append, List.length_singleton]; omega)).tr f2
theorem c_sq (hB0 : ∀ S, z_W S → B 1600 S = some (1, S)) (hB1 : ∀ n S p cs, n < 1600 → cG S T q w p cs → op p = 0 → B n S = some (1, S)) (hB2 : ∀ n S p cs, n < 1600 → cG S T q w p cs → op p ≠ 0 → B n S = (fV (D + 3) 98 [.ref 19] S).bind fun S15 => zb (fI (D + 3) mi [.ref 18, .int (nI (7 - k))] S15) fun v16 S17 => if ¬ v16 = (0 : Int32) then (fV (D + 3) 66 [.ref (gP S17 18 3), .int (q_en (op p))] S17).bind fun S20 => B (n + 1) S20 else some ((0 : Int32), S17)) (hpt : cCt (D + 3) mi T q w k pt) (gpt : g_gd T t b pt) (hj : g_jn T t op) (hM : ∀ S, z_W S → fI (D + 4) M [.ref 18, .int (nI (7 - k))] S = zb (fI (D + 3) mi [.ref 18, .int (nI (7 - k))] S) fun v1 S2 => if ¬ v1 = (0 : Int32) then B 0 S2 else some ((0 : Int32), S2)) : cCt (D + 4) M T q w k (g_sq T op pt) := by
  intro S p cs h hl hN
  rw [hM S h.W]
  refine cRs_B (hpt S p cs h hl hN) (F := fun S' => some ((0 : Int32), S')) (fun _ _ => rfl) fun S2 p2 cs2 e2 o2 g2 => ?_
  have l2 := gpt.len h.pp.1 e2
  exact c_lp hB0 hB1 hB2 hpt gpt hj 1600 0 S2 p2 cs2 (by omega) g2 (by omega)
theorem n16 {n : Nat} (h : n < 1600) : ¬ (1600 : Int32) ≤ nI n := nI_ge (b := 1600) h (by decide)
/-- products -/
theorem c26g (hpt : cCt (D + 3) 27 T q w k pt) (gpt : g_gd T false b pt) : cCt (D + 4) 26 T q w k (g_sq T (g_oP T) pt) := by
  refine c_sq (B := fun n S => b26_12 (D + 3) (nI (7 - k)) (nI n) S) (mi := 27) (fun S hW => ?_) (fun n S p cs hn h c => ?_) (fun n S p cs hn h c => ?_) hpt gpt g_oP_j (fun S hW => e26 (D + 3) (nI (7 - k)) S hW)
  · show b26_12 (D + 3) (nI (7 - k)) (nI 1600) S = _
    rw [b26_12_eq (D + 3) (nI (7 - k)) (nI 1600) S hW, if_pos (by decide)]
  all_goals
    show b26_12 (D + 3) (nI (7 - k)) (nI n) S = _
    have s1 : fI (D + 3) 104 [.ref 19, .int (42 : Int32)] S = _ := c104 (d := D + 2) (c := 42) h.1 (by decide)
    have s2 : fI (D + 3) 104 [.ref 19, .int (47 : Int32)] S = _ := c104 (d := D + 2) (c := 47) h.1 (by decide)
    have s3 : fI (D + 3) 104 [.ref 19, .int (37 : Int32)] S = _ := c104 (d := D + 2) (c := 37) h.1 (by decide)
    rw [b26_12_eq (D + 3) (nI (7 - k)) (nI n) S h.W, if_neg (n16 hn), s1, zb_some, s2, zb_some, s3, zb_some]
    have e7 : ∀ x, b26_71 (D + 3) (nI (7 - k)) (nI n) x S = _ := fun x => b26_71_eq (D + 3) (nI (7 - k)) (nI n) x S h.W
    unfold g_oP at c
  · cases c1 : g_sg T p 42 with
    | true => rw [if_pos c1] at c; cases c
    | false =>
      cases c2 : g_sg T p 47 with
      | true => rw [c1, if_neg (by decide), if_pos c2] at c; cases c
      | false =>
        cases c3 : g_sg T p 37 with
        | true => rw [c1, if_neg (by decide), c2, if_neg (by decide), if_pos c3] at c; cases c
        | false => rw [if_pos (by decide), if_pos (by decide), if_pos (by decide), e7, if_neg (by decide)]
  · unfold g_oP
    cases c1 : g_sg T p 42 with
    | true =>
      rw [if_neg (show ¬ bI true = 0 by decide), e7, if_pos (by decide), if_pos rfl]
      simp only [nI_1]
      rfl
    | false =>
      rw [if_pos (show bI false = 0 by decide)]
      cases c2 : g_sg T p 47 with
      | true =>
        rw [if_neg (show ¬ bI true = 0 by decide), e7, if_pos (by decide), if_neg (show ¬ false = true by decide), if_pos rfl]
        simp only [nI_1]
        rfl
      | false =>
        rw [if_pos (show bI false = 0 by decide)]
        cases c3 : g_sg T p 37 with
        | true =>
          rw [if_neg (show ¬ bI true = 0 by decide), e7, if_pos (by decide), if_neg (show ¬ false = true by decide), if_neg (show ¬ false = true by decide), if_pos rfl]
          simp only [nI_1]
          rfl
        | false => rw [c1, if_neg (by decide), c2, if_neg (by decide), c3, if_neg (by decide)] at c; exact absurd rfl c
/-- sums -/
theorem c25g (hpt : cCt (D + 3) 26 T q w k pt) (gpt : g_gd T false b pt) : cCt (D + 4) 25 T q w k (g_sq T (g_oS T) pt) := by
  refine c_sq (B := fun n S => b25_12 (D + 3) (nI (7 - k)) (nI n) S) (mi := 26) (fun S hW => ?_) (fun n S p cs hn h c => ?_) (fun n S p cs hn h c => ?_) hpt gpt g_oS_j (fun S hW => e25 (D + 3) (nI (7 - k)) S hW)
  · show b25_12 (D + 3) (nI (7 - k)) (nI 1600) S = _
    rw [b25_12_eq (D + 3) (nI (7 - k)) (nI 1600) S hW, if_pos (by decide)]
  all_goals
    show b25_12 (D + 3) (nI (7 - k)) (nI n) S = _
    have s1 : fI (D + 3) 104 [.ref 19, .int (43 : Int32)] S = _ := c104 (d := D + 2) (c := 43) h.1 (by decide)
    have s2 : fI (D + 3) 104 [.ref 19, .int (45 : Int32)] S = _ := c104 (d := D + 2) (c := 45) h.1 (by decide)
    rw [b25_12_eq (D + 3) (nI (7 - k)) (nI n) S h.W, if_neg (n16 hn), s1, zb_some, s2, zb_some]
    have e43 := b25_43_eq (D + 3) (nI (7 - k)) (nI n) S h.W
    rw [s1, zb_some] at e43
    have e7 : ∀ x, b25_62 (D + 3) (nI (7 - k)) (nI n) x S = _ := fun x => b25_62_eq (D + 3) (nI (7 - k)) (nI n) x S h.W
    unfold g_oS at c
  · cases c1 : g_sg T p 43 with
    | true => rw [if_pos c1] at c; cases c
    | false =>
      cases c2 : g_sg T p 45 with
      | true => rw [c1, if_neg (by decide), if_pos c2] at c; cases c
      | false => rw [if_neg (by decide), if_pos (by decide)]
  · unfold g_oS
    cases c1 : g_sg T p 43 with
    | true =>
      rw [c1, if_neg (show ¬ bI true = 0 by decide), e7] at e43
      rw [if_pos (show ¬ bI true = 0 by decide), e43, if_pos rfl]
      simp only [nI_1]
      rfl
    | false =>
      rw [c1, if_pos (show bI false = 0 by decide), e7] at e43
      rw [if_neg (show ¬ ¬ bI false = 0 by decide)]
      cases c2 : g_sg T p 45 with
      | true =>
        rw [if_neg (show ¬ bI true = 0 by decide), e43, if_neg (show ¬ false = true by decide), if_pos rfl]
        simp only [nI_1]
        rfl
      | false => rw [c1, if_neg (by decide), c2, if_neg (by decide)] at c; exact absurd rfl c
/-- both, either -/
theorem c21g (hpt : cCt (D + 3) 22 T q w k pt) (gpt : g_gd T true b pt) : cCt (D + 4) 21 T q w k (g_sq T (g_oA T) pt) := by
  refine c_sq (B := fun n S => b21_12 (D + 3) (nI (7 - k)) (nI n) S) (mi := 22) (fun S hW => ?_) (fun n S p cs hn h c => ?_) (fun n S p cs hn h c => ?_) hpt gpt g_oA_j (fun S hW => e21 (D + 3) (nI (7 - k)) S hW)
  · show b21_12 (D + 3) (nI (7 - k)) (nI 1600) S = _
    rw [b21_12_eq (D + 3) (nI (7 - k)) (nI 1600) S hW, if_pos (by decide)]
  all_goals
    show b21_12 (D + 3) (nI (7 - k)) (nI n) S = _
    have s1 : fI (D + 3) 103 [.ref 19, .int (19 : Int32)] S = _ := c103 (d := D + 2) (i := 19) h.1 (by decide)
    rw [b21_12_eq (D + 3) (nI (7 - k)) (nI n) S h.W, if_neg (n16 hn), s1, zb_some]
    unfold g_oA at c
  · cases c1 : g_ow T p 19 with
    | true => rw [if_pos c1] at c; cases c
    | false => rw [if_pos (by decide)]
  · unfold g_oA
    cases c1 : g_ow T p 19 with
    | true =>
      rw [if_neg (show ¬ bI true = 0 by decide), if_pos rfl]
      simp only [nI_1]
      rfl
    | false => rw [c1, if_neg (by decide)] at c; exact absurd rfl c
theorem c20g (hpt : cCt (D + 3) 21 T q w k pt) (gpt : g_gd T true b pt) : cCt (D + 4) 20 T q w k (g_sq T (g_oO T) pt) := by
  refine c_sq (B := fun n S => b20_12 (D + 3) (nI (7 - k)) (nI n) S) (mi := 21) (fun S hW => ?_) (fun n S p cs hn h c => ?_) (fun n S p cs hn h c => ?_) hpt gpt g_oO_j (fun S hW => e20 (D + 3) (nI (7 - k)) S hW)
  · show b20_12 (D + 3) (nI (7 - k)) (nI 1600) S = _
    rw [b20_12_eq (D + 3) (nI (7 - k)) (nI 1600) S hW, if_pos (by decide)]
  all_goals
    show b20_12 (D + 3) (nI (7 - k)) (nI n) S = _
    have s1 : fI (D + 3) 103 [.ref 19, .int (18 : Int32)] S = _ := c103 (d := D + 2) (i := 18) h.1 (by decide)
    rw [b20_12_eq (D + 3) (nI (7 - k)) (nI n) S h.W, if_neg (n16 hn), s1, zb_some]
    unfold g_oO at c
  · cases c1 : g_ow T p 18 with
    | true => rw [if_pos c1] at c; cases c
    | false => rw [if_pos (by decide)]
  · unfold g_oO
    cases c1 : g_ow T p 18 with
    | true =>
      rw [if_neg (show ¬ bI true = 0 by decide), if_pos rfl]
      simp only [nI_1]
      rfl
    | false => rw [c1, if_neg (by decide)] at c; exact absurd rfl c
end GN
