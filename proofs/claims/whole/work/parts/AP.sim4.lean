/-! THE FORMULAS: the reference's loop does what reading by rules does: facts, all levels, a whole formula. -/
section HA
variable {d b w f0 k : Nat} {T : List Nat} {su te fc : g_F}
theorem g_rk_C {p : Nat} (h : g_oC T p ≠ 0) : g_rk (g_oC T p) = 4 ∧ g_oC T p ≠ 10018 := by
  unfold g_oC at h ⊢
  by_cases c1 : g_sg T p 60 = true
  · rw [if_pos c1]; exact ⟨rfl, by decide⟩
  · rw [if_neg c1] at h ⊢
    by_cases c2 : g_sg T p 62 = true
    · rw [if_pos c2]; exact ⟨rfl, by decide⟩
    · rw [if_neg c2] at h ⊢
      by_cases c3 : g_sg T p 61 = true
      · rw [if_pos c3]; exact ⟨rfl, by decide⟩
      · rw [if_neg c3] at h; exact absurd rfl h
theorem s_fc (h7 : k ≤ 7) (hsu : gSm d T b w f0 k 5 (6 * k + 2) (g_su T w k su te)) (gsu : g_gd T false (5 * k + 3) (g_su T w k su te)) (ht : k ≠ 0 → gTm d T b w f0 (k - 1) 1 1 (6 * (k - 1) + 5) te) (gt : k ≠ 0 → g_gd T true (5 * k + 1) te) (hf : k ≠ 0 → gTm d T b w f0 (k - 1) 3 5 (6 * (k - 1) + 3) fc) (gf : k ≠ 0 → g_gd T true (5 * k - 1) fc) : gTm d T b w f0 k 3 5 (6 * k + 3) (g_fc T w k su te fc) := by
  intro S p cs kk pr os fs h hkk htt hfs hC hb hp1 hos
  have hT := h.1.2.1
  have h1600 := h.1.1.2.2.1
  have hoc : f_oc ((kk, 0, true, pr, os) :: fs) = f_oc fs + os.length := rfl
  have hoc2 : f_oc ((kk, 0, false, pr, os) :: fs) = f_oc fs + os.length := rfl
  have hlen : ((kk, 0, false, pr, os) :: fs : List g_Fr).length = fs.length + 1 := rfl
  unfold g_fc
  cases c1 : g_ow T p 20 with
  | true =>
    rw [if_pos rfl]
    have ek := g_en_k hT (show g_kd T p ≠ 0 by rw [g_ow_k c1]; decide)
    unfold g_op
    by_cases k0 : k = 0
    · rw [if_pos k0]
      exact t_not5 (d := d) h hkk (by omega) htt rfl c1 (by omega)
    · rw [if_neg k0]
      obtain ⟨S1, a1, a2, a3⟩ := t_not (d := d) h hkk (by omega) htt rfl c1 (by omega) (by omega)
      rw [show 7 - k + 1 = 7 - (k - 1) by omega] at a3
      have hl1 : (10018 :: os).length = os.length + 1 := rfl
      have sim := hf k0 S1 (g_en T p) cs kk pr (10018 :: os) fs a3 hkk htt (by omega) (by omega) (by omega) (by omega) (fun x hx => by
        have : x = 10018 := by simpa using hx.symm
        rw [this]; decide)
      show gPt d S T b w f0 k 3 kk pr os fs (g_bd (fc (g_en T p) cs) fun p cs => .inr (p, cs ++ [10018]))
      cases hg : fc (g_en T p) cs with
      | inl x =>
        rw [hg] at sim
        exact gPt.tr (S1 := S1) (k := k) (R := 3) (kk := kk) (pr := pr) (os := os) (fs := fs) (g := .inl x) sim a1 a2
      | inr x =>
        rw [hg] at sim
        obtain ⟨S2, r1, cs2, ph2, b1, b2, b3, b4, b5, b6, b7, b8, b9, b10, b11⟩ := sim
        have e1 : g_nn (r1 ++ [10018]) = g_nn r1 + 1 := by rw [g_nn_app]; rfl
        refine ⟨S2, r1 ++ [10018], cs2, ph2, a1.trans b1, a2.trans b2, ?_, by show x.2 ++ [10018] = _; rw [b4, List.append_assoc], fun y hy => ?_, by omega, by rw [List.length_append, List.length_singleton]; omega, b8, b9, fun z => by omega, fun z => by omega⟩
        · rw [List.append_assoc, e1, show 7 - k + (g_nn r1 + 1) = 7 - (k - 1) + g_nn r1 by omega]
          exact b3
        · rcases List.mem_append.mp hy with z | z
          · exact b5 y z
          · rw [List.mem_singleton.mp z]; decide
  | false =>
    rw [if_neg (show ¬ false = true by decide)]
    cases c2 : g_sg T p 91 with
    | true =>
      rw [if_pos rfl]
      have ek := g_en_k hT (show g_kd T p ≠ 0 by rw [g_sg_k c2]; decide)
      obtain ⟨t1, t2⟩ := t_br (d := d) h hkk (by omega) htt rfl c2
      unfold g_op
      by_cases k0 : k = 0
      · rw [if_pos k0]
        exact t1 (by omega)
      · rw [if_neg k0]
        obtain ⟨S1, a1, a2, a3⟩ := t2 (by omega)
        rw [show 7 - k + 1 = 7 - (k - 1) by omega] at a3
        have a3' : mG S1 T b w f0 (g_en T p) cs ((5, 0, true, 0, []) :: (kk, 0, false, pr, os) :: fs) (7 - (k - 1)) false := a3
        have sim := ht k0 S1 (g_en T p) cs 5 0 [] ((kk, 0, false, pr, os) :: fs) a3' (by omega) rfl (by omega) (by rw [List.length_nil]; omega) (by rw [List.length_nil]; omega) (by omega) (fun c hc => by cases hc)
        show gPt d S T b w f0 k 3 kk pr os fs (g_bd (te (g_en T p) cs) fun p cs => g_tk T 93 p cs)
        cases hg : te (g_en T p) cs with
        | inl x =>
          rw [hg] at sim
          exact gPt.tr (S1 := S1) (k := k) (R := 3) (kk := kk) (pr := pr) (os := os) (fs := fs) (g := .inl x) sim a1 a2
        | inr x =>
          rw [hg] at sim
          obtain ⟨S2, r1, cs2, ph2, b1, b2, b3, b4, b5, b6, b7, b8, b9, b10, b11⟩ := sim
          have l2 := (gt k0).len ek.2 hg
          rw [List.append_nil] at b3
          have hcl : x.2.length = cs2.length + r1.length := by rw [b4, List.length_append]
          refine gPt.tr (S1 := S2) ?_ (a1.trans b1) (a2.trans b2)
          show gPt d S2 T b w f0 k 3 kk pr os fs (g_tk T 93 x.1 x.2)
          unfold g_tk
          by_cases c4 : g_kd T x.1 = 4
          · rw [g_sg_n c4, if_neg (by decide)]
            exact t_lex b3 c4
          · have t := t_clo (d := d) (c := 93) (Or.inr (Or.inr ⟨rfl, rfl⟩)) b3 c4 (by omega) (by omega) ⟨fun z => b9 (by omega), fun _ => ⟨by omega, b10 (by omega), b11 (by omega)⟩⟩ (by omega) (by omega) (by omega) (by omega) (fun z => by omega)
            cases hs : g_sg T x.1 93 with
            | false =>
              rw [if_neg (by decide)]
              show ∃ S', gLo d S2 = some S' ∧ mFl S2 S' b f0 (1, g_ft T x.1)
              rw [g_ft_n c4]
              exact t.1 hs
            | true =>
              rw [if_pos rfl]
              obtain ⟨S', q1, q2, q3⟩ := t.2 hs
              rw [if_neg (show ¬ 5 = 4 by decide), List.append_nil, if_pos rfl, ← b4, show 7 - (k - 1) + g_nn r1 - g_nn r1 - 1 = 7 - k by omega] at q3
              exact ⟨S', [], x.2, 2, q1, q2, q3, by rw [List.append_nil], fun c hc => (by cases hc), Nat.zero_le _, by rw [List.length_nil]; omega, Or.inr rfl, fun z => by omega, fun z => by omega, fun z => by omega⟩
    | false =>
      rw [if_neg (show ¬ false = true by decide)]
      cases c3 : g_ow T p 21 with
      | true =>
        rw [if_pos rfl]
        have ek := g_en_k hT (show g_kd T p ≠ 0 by rw [g_ow_k c3]; decide)
        obtain ⟨S', a1, a2, a3⟩ := t_all (d := d) h hkk (by omega) htt rfl c3 (by omega)
        exact ⟨S', [], cs ++ [10000], 2, a1, a2, a3, by rw [List.append_nil], fun c hc => (by cases hc), Nat.zero_le _, by rw [List.length_nil]; omega, Or.inr rfl, fun z => by omega, fun z => by omega, fun z => by omega⟩
      | false =>
        rw [if_neg (show ¬ false = true by decide)]
        have sim := hsu S p cs kk 0 true pr os fs h hkk (by omega) (fun _ => ⟨c1, c2, c3⟩) hfs (by omega) hb hp1 hos
        cases hg : g_su T w k su te p cs with
        | inl x =>
          rw [hg] at sim
          exact sim
        | inr x =>
          rw [hg] at sim
          obtain ⟨S2, r1, cs2, b1, b2, b3, b4, b5, b6, b7, b8, b9⟩ := sim
          have l2 := gsu.len hT hg
          have hcl : x.2.length = cs2.length + r1.length := by rw [b4, List.length_append]
          have hna : g_na T x.1 := ⟨b9 (by omega), b8 (by omega)⟩
          refine gPt.tr (S1 := S2) ?_ b1 b2
          show gPt d S2 T b w f0 k 3 kk pr os fs (if g_oC T x.1 = 0 then g_un T x.1 else g_bd (g_su T w k su te (g_en T x.1) x.2) fun p' cs' => .inr (p', cs' ++ [g_oC T x.1]))
          by_cases c4 : g_oC T x.1 = 0
          · rw [if_pos c4]
            exact t_un b3 fun hk => t_f0 (d := d) c4 b3 htt hkk (by omega) hna hk
          · rw [if_neg c4]
            obtain ⟨hk3, _⟩ := g_oC_j c4
            have ek := g_en_k l2.2.2 (show g_kd T x.1 ≠ 0 by omega)
            obtain ⟨S3, a1, a2, a3⟩ := t_cmp (d := d) c4 b3 htt hkk (by omega) hna hos (fun c hc => b5 c hc) (by rw [List.length_append]; omega) (by omega) (by omega) (by omega)
            rw [b6, Nat.sub_zero, ← b4] at a3
            obtain ⟨rk1, rk2⟩ := g_rk_C c4
            have hl1 : (g_oC T x.1 :: os).length = os.length + 1 := rfl
            have sim2 := hsu S3 (g_en T x.1) x.2 kk 1 false pr (g_oC T x.1 :: os) fs a3 hkk (by omega) (fun z => by rw [show f_b (kk, 1, false, pr, g_oC T x.1 :: os) = false from rfl, Bool.and_false] at z; cases z) hfs (by omega) (by omega) (by omega) (fun y hy => by
              have : y = g_oC T x.1 := by simpa using hy.symm
              rw [this]; omega)
            cases hg2 : g_su T w k su te (g_en T x.1) x.2 with
            | inl y =>
              rw [hg2] at sim2
              exact gPt.tr (S1 := S3) (k := k) (R := 3) (kk := kk) (pr := pr) (os := os) (fs := fs) (g := .inl y) sim2 a1 a2
            | inr y =>
              rw [hg2] at sim2
              obtain ⟨S4, r2, cs3, q1, q2, q3, q4, q5, q6, q7, q8, q9⟩ := sim2
              have e1 : g_nn (r2 ++ [g_oC T x.1]) = 0 := by rw [g_nn_app, q6, g_nn_1 rk2]
              refine ⟨S4, r2 ++ [g_oC T x.1], cs3, 1, a1.trans q1, a2.trans q2, ?_, by show y.2 ++ [g_oC T x.1] = _; rw [q4, List.append_assoc], fun c hc => ?_, by omega, by rw [List.length_append, List.length_singleton]; omega, Or.inl rfl, fun _ => ⟨q9 (by omega), q8 (by omega)⟩, fun z => by omega, fun z => by omega⟩
              · rw [List.append_assoc, e1]
                exact q3
              · rcases List.mem_append.mp hc with z | z
                · have := q5 c z; omega
                · rw [List.mem_singleton.mp z]; omega
theorem s_su (h7 : k ≤ 7) (hs : k ≠ 0 → gSm d T b w f0 (k - 1) 5 (6 * (k - 1) + 2) su) (gs : k ≠ 0 → g_gd T false (5 * k - 2) su) (ht : k ≠ 0 → gTm d T b w f0 (k - 1) 1 1 (6 * (k - 1) + 5) te) (gt : k ≠ 0 → g_gd T true (5 * k + 1) te) : gSm d T b w f0 k 5 (6 * k + 2) (g_su T w k su te) := g_sqA h7 (Or.inl ⟨rfl, rfl⟩) g_oS_j (g_sqA h7 (Or.inr ⟨rfl, rfl⟩) g_oP_j (s_pr h7 hs gs ht gt) (g_pr_gd gs gt)) (g_sq_gd g_oP_j (g_pr_gd gs gt))
theorem s_te (h7 : k ≤ 7) (hf : gTm d T b w f0 k 3 5 (6 * k + 3) fc) (gf : g_gd T true (5 * k + 4) fc) : gTm d T b w f0 k 1 1 (6 * k + 5) (g_sq T (g_oO T) (g_sq T (g_oA T) fc)) := g_sqL (Qp := 2) (i := 18) (n := 10017) h7 (Or.inr ⟨rfl, rfl, rfl, rfl⟩) (by decide) (g_sqL (Qp := 5) (i := 19) (n := 10016) h7 (Or.inl ⟨rfl, rfl, rfl, rfl⟩) (by decide) hf gf) (g_sq_gd g_oA_j gf)
theorem s_all : ∀ k, k ≤ 7 → gSm d T b w f0 k 5 (6 * k + 2) (g_L T w k).1 ∧ gTm d T b w f0 k 1 1 (6 * k + 5) (g_L T w k).2.1 ∧ gTm d T b w f0 k 3 5 (6 * k + 3) (g_L T w k).2.2
  | 0, h7 => by
    have z1 : ∀ {X : Prop}, (0 : Nat) ≠ 0 → X := fun z => absurd rfl z
    have a := s_su (d := d) (T := T) (b := b) (w := w) (f0 := f0) (su := g_no) (te := g_no) (k := 0) h7 z1 z1 z1 z1
    have ga := g_su_gd (T := T) (w := w) (su := g_no) (te := g_no) (k := 0) z1 z1
    have f := s_fc (d := d) (T := T) (b := b) (w := w) (f0 := f0) (su := g_no) (te := g_no) (fc := g_no) (k := 0) h7 a ga z1 z1 z1 z1
    have gf := g_fc_gd (T := T) (w := w) (su := g_no) (te := g_no) (fc := g_no) (k := 0) z1 z1 z1
    exact ⟨a, s_te h7 f gf, f⟩
  | k + 1, h7 => by
    obtain ⟨i1, i2, i3⟩ := s_all k (by omega)
    obtain ⟨g1, g2, g3⟩ := g_L_gd (T := T) (w := w) k
    have e1 : 5 * k + 3 = 5 * (k + 1) - 2 := by omega
    have e2 : 5 * k + 6 = 5 * (k + 1) + 1 := by omega
    have e3 : 5 * k + 4 = 5 * (k + 1) - 1 := by omega
    rw [e1] at g1
    rw [e2] at g2
    rw [e3] at g3
    have a := s_su (d := d) (b := b) (f0 := f0) (k := k + 1) h7 (fun _ => i1) (fun _ => g1) (fun _ => i2) (fun _ => g2)
    have ga := g_su_gd (T := T) (w := w) (k := k + 1) (fun _ => g1) (fun _ => g2)
    have f := s_fc (d := d) (b := b) (f0 := f0) (k := k + 1) (fc := (g_L T w k).2.2) h7 a ga (fun _ => i2) (fun _ => g2) (fun _ => i3) (fun _ => g3)
    have gf := g_fc_gd (T := T) (w := w) (k := k + 1) (fun _ => g1) (fun _ => g2) (fun _ => g3)
    exact ⟨a, s_te h7 f gf, f⟩
end HA
