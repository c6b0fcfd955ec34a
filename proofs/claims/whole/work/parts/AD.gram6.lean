/-! THE FORMULAS: the class reads a fact; all levels. -/
section GO
variable {d q w k : Nat} {T : List Nat} {su te fc sm : g_F} {S : z_S} {p : Nat} {cs : List Nat}
theorem c23g {b : Nat} (hsu : ∀ d, cCt (d + 8 * k + 8) 25 T q w k sm) (gsu : g_gd T false b sm) (h : cG S T q w p cs) (hl : cs.length ≤ p) : cRs (fI (d + 8 * k + 9) 23 [.ref 18, .int (nI (7 - k))] S) S T q w (if g_oC T p = 0 then g_un T p else g_bd (sm (g_en T p) cs) fun p' cs' => .inr (p', cs' ++ [g_oC T p])) := by
  have hp := h.pp
  have s1 : fI (d + 8 * k + 8) 104 [.ref 19, .int (60 : Int32)] S = _ := c104 (d := d + 8 * k + 7) (c := 60) h.1 (by decide)
  have s2 : fI (d + 8 * k + 8) 104 [.ref 19, .int (62 : Int32)] S = _ := c104 (d := d + 8 * k + 7) (c := 62) h.1 (by decide)
  have s3 : fI (d + 8 * k + 8) 104 [.ref 19, .int (61 : Int32)] S = _ := c104 (d := d + 8 * k + 7) (c := 61) h.1 (by decide)
  rw [e23 (d + 8 * k + 8) (nI (7 - k)) S h.W, s1, zb_some, s2, zb_some, s3, zb_some]
  have yes : ∀ n x, q_en n = x → ¬ x = (0 : Int32) → g_oC T p = n → n ≠ 0 → cRs (b23_52 (d + 8 * k + 8) (nI (7 - k)) x S) S T q w (if g_oC T p = 0 then g_un T p else g_bd (sm (g_en T p) cs) fun p' cs' => .inr (p', cs' ++ [g_oC T p])) := fun n x hx hx0 hn hn0 => by
    have hoc : g_oC T p ≠ 0 := by rw [hn]; exact hn0
    obtain ⟨hk, _⟩ := g_oC_j hoc
    have ek := g_en_k hp.1 (show g_kd T p ≠ 0 by omega)
    obtain ⟨S1, a1, a2, a3⟩ := c98g (d := d + 8 * k + 5) h (by omega)
    rw [b23_52_eq (d + 8 * k + 8) (nI (7 - k)) x S h.W, if_pos hx0, a1, Option.bind_some, if_neg hoc]
    refine (cRs_B (hsu d S1 (g_en T p) cs a3 (by omega) (g_ok_en hp.1 (Or.inr hk))) (F := fun S' => some ((0 : Int32), S')) (fun _ _ => rfl) fun S2 p2 cs2 e2 o2 g2 => ?_).tr a2
    have l2 := gsu.len ek.2 e2
    obtain ⟨S3, f1, f2, f3⟩ := c66g (d := d + 8 * k + 7) (n := n) g2 (by omega)
    rw [g2.2.2.1, ← hx, f1, Option.bind_some, hn]
    exact ⟨S3, rfl, f2, f3⟩
  cases c1 : g_sg T p 60 with
  | true =>
    rw [if_neg (by decide)]
    exact yes 10013 _ rfl (by decide) (by unfold g_oC; rw [if_pos c1]) (by decide)
  | false =>
    rw [if_pos (by decide)]
    cases c2 : g_sg T p 62 with
    | true =>
      rw [if_neg (by decide)]
      exact yes 10014 _ rfl (by decide) (by unfold g_oC; rw [c1, if_neg (by decide), if_pos c2]) (by decide)
    | false =>
      rw [if_pos (by decide)]
      cases c3 : g_sg T p 61 with
      | true =>
        rw [if_neg (by decide)]
        exact yes 10015 _ rfl (by decide) (by unfold g_oC; rw [c1, if_neg (by decide), c2, if_neg (by decide), if_pos c3]) (by decide)
      | false =>
        have hoc : g_oC T p = 0 := by unfold g_oC; rw [c1, if_neg (by decide), c2, if_neg (by decide), c3, if_neg (by decide)]
        rw [if_pos (by decide), if_pos hoc, b23_52_eq (d + 8 * k + 8) (nI (7 - k)) 0 S h.W, if_neg (fun z => z rfl)]
        exact cRs_C (c9g (d := d + 8 * k + 7) h)
theorem c22g (h7 : k ≤ 7) (hsu : ∀ d, cCt (d + 8 * k + 8) 25 T q w k (g_su T w k su te)) (gsu : g_gd T false (5 * k + 3) (g_su T w k su te)) (ht : k ≠ 0 → ∀ d, cCt (d + 8 * (k - 1) + 12) 20 T q w (k - 1) te) (gt : k ≠ 0 → g_gd T true (5 * k + 1) te) (hf : k ≠ 0 → ∀ d, cCt (d + 8 * (k - 1) + 10) 22 T q w (k - 1) fc) (gf : k ≠ 0 → g_gd T true (5 * k - 1) fc) (d : Nat) : cCt (d + 8 * k + 10) 22 T q w k (g_fc T w k su te fc) := by
  intro S p cs h hl hN
  have hp := h.pp
  have s1 : fI (d + 8 * k + 9) 103 [.ref 19, .int (20 : Int32)] S = _ := c103 (d := d + 8 * k + 8) (i := 20) h.1 (by decide)
  have s2 : fI (d + 8 * k + 9) 104 [.ref 19, .int (91 : Int32)] S = _ := c104 (d := d + 8 * k + 8) (c := 91) h.1 (by decide)
  have s3 : fI (d + 8 * k + 9) 103 [.ref 19, .int (21 : Int32)] S = _ := c103 (d := d + 8 * k + 8) (i := 21) h.1 (by decide)
  rw [e22 (d + 8 * k + 9) (nI (7 - k)) S h.W, s1, zb_some, s2, zb_some, s3, zb_some]
  unfold g_fc
  cases c1 : g_ow T p 20 with
  | true =>
    rw [if_neg (by decide), if_pos rfl]
    have ek := g_en_k hp.1 (show g_kd T p ≠ 0 by rw [g_ow_k c1]; decide)
    refine cRs_A (c24g (d := d + 8 * k + 5) h7 h (by rw [g_ow_k c1]; decide)) (F := fun S' => some ((0 : Int32), S')) (fun _ _ => rfl) fun S2 p2 cs2 e2 o2 g2 => ?_
    obtain ⟨k0, q2⟩ := g_op_i e2
    cases q2
    rw [g_lv k0 h7]
    have c := hf k0 (d + 7) S2 (g_en T p) cs g2 (by omega) (g_ok_en hp.1 (Or.inl (g_ow_k c1)))
    rw [show d + 7 + 8 * (k - 1) + 10 = d + 8 * k + 9 by omega] at c
    refine cRs_B c (F := fun S' => some ((0 : Int32), S')) (fun _ _ => rfl) fun S3 p3 cs3 e3 o3 g3 => ?_
    have l3 := (gf k0).len ek.2 e3
    obtain ⟨S4, f1, f2, f3⟩ := c66g (d := d + 8 * k + 8) (n := 10018) g3 (by omega)
    have f1' : fV (d + 8 * k + 9) 66 [.ref q, .int (-18 : Int32)] S3 = some S4 := f1
    rw [g3.2.2.1, f1', Option.bind_some]
    exact ⟨S4, rfl, f2, f3⟩
  | false =>
    rw [if_pos (by decide), if_neg (show ¬ false = true by decide)]
    cases c2 : g_sg T p 91 with
    | true =>
      rw [if_neg (by decide), if_pos rfl]
      have ek := g_en_k hp.1 (show g_kd T p ≠ 0 by rw [g_sg_k c2]; decide)
      refine cRs_A (c24g (d := d + 8 * k + 5) h7 h (by rw [g_sg_k c2]; decide)) (F := fun S' => b22_86 (d + 8 * k + 9) S') (fun S' w' => b22_86_eq (d + 8 * k + 9) S' w') fun S2 p2 cs2 e2 o2 g2 => ?_
      obtain ⟨k0, q2⟩ := g_op_i e2
      cases q2
      rw [g_lv k0 h7]
      have c := ht k0 (d + 5) S2 (g_en T p) cs g2 (by omega) (g_ok_en hp.1 (Or.inr (g_sg_k c2)))
      rw [show d + 5 + 8 * (k - 1) + 12 = d + 8 * k + 9 by omega] at c
      refine cRs_A c (F := fun S' => b22_86 (d + 8 * k + 9) S') (fun S' w' => b22_86_eq (d + 8 * k + 9) S' w') fun S3 p3 cs3 e3 o3 g3 => ?_
      exact cRs_E (c11g (d := d + 8 * k + 5) (c := 93) (by decide) g3) (F := fun S' => b22_86 (d + 8 * k + 9) S') (fun S' w' => b22_86_eq (d + 8 * k + 9) S' w')
    | false =>
      rw [if_pos (by decide), if_neg (show ¬ false = true by decide)]
      cases c3 : g_ow T p 21 with
      | true =>
        rw [if_neg (by decide), if_pos rfl]
        have ek := g_en_k hp.1 (show g_kd T p ≠ 0 by rw [g_ow_k c3]; decide)
        obtain ⟨S1, a1, a2, a3⟩ := c98g (d := d + 8 * k + 6) h (by rw [g_ow_k c3]; decide)
        obtain ⟨S4, f1, f2, f3⟩ := c66g (d := d + 8 * k + 8) (n := 10000) a3 (by omega)
        have f1' : fV (d + 8 * k + 9) 66 [.ref q, .int (1 : Int32)] S1 = some S4 := f1
        rw [a1, Option.bind_some, a3.2.2.1, f1', Option.bind_some]
        exact ⟨S4, rfl, a2.trans f2, f3⟩
      | false =>
        rw [if_pos (by decide), if_neg (show ¬ false = true by decide)]
        have c := hsu (d + 1) S p cs h hl hN
        rw [show d + 1 + 8 * k + 8 = d + 8 * k + 9 by omega] at c
        refine cRs_A c (F := fun S' => b22_137 (d + 8 * k + 9) S') (fun S' w' => b22_137_eq (d + 8 * k + 9) S' w') fun S3 p3 cs3 e3 o3 g3 => ?_
        have l3 := gsu.len hp.1 e3
        exact cRs_E (c23g (d := d) hsu gsu g3 (by omega)) (F := fun S' => b22_137 (d + 8 * k + 9) S') (fun S' w' => b22_137_eq (d + 8 * k + 9) S' w')
theorem c_su (h7 : k ≤ 7) (hs : k ≠ 0 → ∀ d, cCt (d + 8 * (k - 1) + 8) 25 T q w (k - 1) su) (gs : k ≠ 0 → g_gd T false (5 * k - 2) su) (ht : k ≠ 0 → ∀ d, cCt (d + 8 * (k - 1) + 12) 20 T q w (k - 1) te) (gt : k ≠ 0 → g_gd T true (5 * k + 1) te) (d : Nat) : cCt (d + 8 * k + 8) 25 T q w k (g_su T w k su te) := c25g (D := d + 8 * k + 4) (c26g (D := d + 8 * k + 3) (c27g h7 hs gs ht gt d) (g_pr_gd gs gt)) (g_sq_gd g_oP_j (g_pr_gd gs gt))
theorem c_all : ∀ k, k ≤ 7 → (∀ d, cCt (d + 8 * k + 8) 25 T q w k (g_L T w k).1) ∧ (∀ d, cCt (d + 8 * k + 12) 20 T q w k (g_L T w k).2.1) ∧ ∀ d, cCt (d + 8 * k + 10) 22 T q w k (g_L T w k).2.2
  | 0, h7 => by
    have z1 : ∀ {X : Prop}, (0 : Nat) ≠ 0 → X := fun z => absurd rfl z
    have a := c_su (T := T) (q := q) (w := w) (su := g_no) (te := g_no) (k := 0) h7 z1 z1 z1 z1
    have ga := g_su_gd (T := T) (w := w) (su := g_no) (te := g_no) (k := 0) z1 z1
    have f := c22g (T := T) (q := q) (w := w) (su := g_no) (te := g_no) (fc := g_no) (k := 0) h7 a ga z1 z1 z1 z1
    have gf := g_fc_gd (T := T) (w := w) (su := g_no) (te := g_no) (fc := g_no) (k := 0) z1 z1 z1
    exact ⟨a, fun d => c20g (D := d + 8 * 0 + 8) (c21g (D := d + 8 * 0 + 7) (f d) gf) (g_sq_gd g_oA_j gf), f⟩
  | k + 1, h7 => by
    obtain ⟨i1, i2, i3⟩ := c_all k (by omega)
    obtain ⟨g1, g2, g3⟩ := g_L_gd (T := T) (w := w) k
    have e1 : 5 * k + 3 = 5 * (k + 1) - 2 := by omega
    have e2 : 5 * k + 6 = 5 * (k + 1) + 1 := by omega
    have e3 : 5 * k + 4 = 5 * (k + 1) - 1 := by omega
    rw [e1] at g1
    rw [e2] at g2
    rw [e3] at g3
    have a := c_su (k := k + 1) h7 (fun _ => i1) (fun _ => g1) (fun _ => i2) (fun _ => g2)
    have ga := g_su_gd (T := T) (w := w) (k := k + 1) (fun _ => g1) (fun _ => g2)
    have f := c22g (k := k + 1) (fc := (g_L T w k).2.2) h7 a ga (fun _ => i2) (fun _ => g2) (fun _ => i3) (fun _ => g3)
    have gf := g_fc_gd (T := T) (w := w) (k := k + 1) (fun _ => g1) (fun _ => g2) (fun _ => g3)
    exact ⟨a, fun d => c20g (D := d + 8 * (k + 1) + 8) (c21g (D := d + 8 * (k + 1) + 7) (f d) gf) (g_sq_gd g_oA_j gf), f⟩
end GO
