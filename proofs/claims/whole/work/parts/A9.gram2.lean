/-! THE FORMULAS: what is read is of its kind. -/
section GK
variable {T : List Nat} {w k : Nat} {su te fc : g_F}
theorem g_dv_lt {s : Nat} : ∀ n, (∀ i, i < n → g_d (g_t T (s + i)) = true) → g_dv T s n < 10 ^ n
  | 0, _ => by rw [g_dv]; decide
  | n + 1, h => by
    have ih := g_dv_lt n fun i hi => h i (by omega)
    have := g_d_i.mp (h n (by omega))
    rw [g_dv, Nat.pow_succ]
    omega
theorem g_vl_lt {p : Nat} (h : g_kd T p = 2) : g_vl T p < 10000 := by
  obtain ⟨h1, h2, h3, h4, h5⟩ := g_kd_2 h
  unfold g_vl
  rw [h2, if_pos rfl]
  have := g_dv_lt (T := T) (s := g_st T p) (g_en T p - g_st T p) fun i hi => (g_rn_b (f := g_d) (Nat.le_of_lt h1)).2.2.1 (g_st T p + i) (by omega) (by omega)
  exact Nat.lt_of_lt_of_le this (Nat.pow_le_pow_right (n := 10) (by omega) h5)
theorem g_var_k {p : Nat} (h : g_var T w p ≠ 0) : g_kd T p = 1 ∧ 10001 ≤ g_var T w p ∧ g_var T w p ≤ 10005 := by
  unfold g_var at h ⊢
  by_cases c0 : g_ow T p (g_own w) = true
  · rw [if_pos c0]; exact ⟨g_ow_k c0, by omega, by omega⟩
  rw [if_neg c0] at h ⊢
  by_cases c1 : g_ow T p 11 = true
  · rw [if_pos c1]; exact ⟨g_ow_k c1, by omega, by omega⟩
  rw [if_neg c1] at h ⊢
  by_cases c2 : g_ow T p 12 = true
  · rw [if_pos c2]; exact ⟨g_ow_k c2, by omega, by omega⟩
  rw [if_neg c2] at h ⊢
  by_cases c3 : g_ow T p 13 = true
  · rw [if_pos c3]; exact ⟨g_ow_k c3, by omega, by omega⟩
  rw [if_neg c3] at h ⊢
  by_cases c4 : g_ow T p 14 = true
  · rw [if_pos c4]; exact ⟨g_ow_k c4, by omega, by omega⟩
  rw [if_neg c4] at h; exact absurd rfl h
theorem g_one {p b n : Nat} {cs cs' : List Nat} {p' : Nat} {t : Bool} (hb : 1 ≤ b) (hk : g_kd T p ≠ 0) (h : p ≤ T.length) (e : (.inr (g_en T p, cs ++ [n]) : g_R) = .inr (p', cs')) (ht : ∀ ts, q_ty ts n = some (t :: ts)) : p < p' ∧ p' ≤ T.length ∧ ∃ r, cs' = cs ++ r ∧ r.length + p ≤ p' ∧ ∀ ts : List Bool, ts.length + b ≤ 60 → q_tyL r ts = some (t :: ts) := by
  cases e
  have a := g_en_k h hk
  exact ⟨a.1, a.2, [n], rfl, by rw [List.length_singleton]; omega, fun ts hts => q_tyL_1 (ht ts) (by rw [List.length_cons]; omega)⟩
theorem g_pa_gd {c : Nat} (hs : k ≠ 0 → g_gd T false (5 * k - 2) su) (hc : ∀ ts : List Bool, q_ty (false :: false :: ts) c = some (false :: ts)) {p : Nat} {cs : List Nat} {p' : Nat} {cs' : List Nat} (h : p ≤ T.length) (hk : g_kd T p ≠ 0) (e : g_pa T k su c p cs = .inr (p', cs')) : p < p' ∧ p' ≤ T.length ∧ ∃ r, cs' = cs ++ r ∧ r.length + p ≤ p' ∧ ∀ ts : List Bool, ts.length + (5 * k + 1) ≤ 60 → q_tyL r ts = some (false :: ts) := by
  have a1 := g_en_k h hk
  unfold g_pa at e
  by_cases z : g_sg T (g_en T p) 40 = true
  · rw [if_pos z] at e
    have a2 := g_en_k a1.2 (by rw [g_sg_k z]; decide)
    obtain ⟨p1, cs1, e1, f1⟩ := g_bd_i e
    obtain ⟨k0, q1⟩ := g_op_i e1
    cases q1
    obtain ⟨p2, cs2, e2, f2⟩ := g_bd_i f1
    obtain ⟨p3, cs3, e3, f3⟩ := g_bd_i f2
    obtain ⟨p4, cs4, e4, f4⟩ := g_bd_i f3
    obtain ⟨b1, b2, r2, b3, b4, b5⟩ := hs k0 _ _ _ _ a2.2 e2
    obtain ⟨z3, q3⟩ := g_tk_i e3
    cases q3
    have a3 := g_en_k b2 (by rw [g_sg_k z3]; decide)
    obtain ⟨c1, c2, r4, c3, c4, c5⟩ := hs k0 _ _ _ _ a3.2 e4
    obtain ⟨z5, q5⟩ := g_tk_i f4
    cases q5
    have a5 := g_en_k c2 (by rw [g_sg_k z5]; decide)
    refine ⟨by omega, a5.2, r2 ++ (r4 ++ [c]), by rw [c3, b3, List.append_assoc, List.append_assoc], ?_, fun ts hts => ?_⟩
    · rw [List.length_append, List.length_append, List.length_singleton]; omega
    · rw [q_tyL_app, b5 ts (by omega), Option.bind_some, q_tyL_app, c5 (false :: ts) (by rw [List.length_cons]; omega), Option.bind_some, q_tyL_1 (hc ts) (by rw [List.length_cons]; omega)]
  · rw [if_neg z] at e
    cases e
theorem g_ch_gd (hs : k ≠ 0 → g_gd T false (5 * k - 2) su) (ht : k ≠ 0 → g_gd T true (5 * k + 1) te) {p : Nat} {cs : List Nat} {p' : Nat} {cs' : List Nat} (h : p ≤ T.length) (hk : g_kd T p ≠ 0) (e : g_ch T k su te p cs = .inr (p', cs')) : p < p' ∧ p' ≤ T.length ∧ ∃ r, cs' = cs ++ r ∧ r.length + p ≤ p' ∧ ∀ ts : List Bool, ts.length + (5 * k + 1) ≤ 60 → q_tyL r ts = some (false :: ts) := by
  have a1 := g_en_k h hk
  unfold g_ch at e
  by_cases z : g_sg T (g_en T p) 40 = true
  · rw [if_pos z] at e
    have a2 := g_en_k a1.2 (by rw [g_sg_k z]; decide)
    obtain ⟨p1, cs1, e1, f1⟩ := g_bd_i e
    obtain ⟨k0, q1⟩ := g_op_i e1
    cases q1
    obtain ⟨p2, cs2, e2, f2⟩ := g_bd_i f1
    obtain ⟨p3, cs3, e3, f3⟩ := g_bd_i f2
    obtain ⟨p4, cs4, e4, f4⟩ := g_bd_i f3
    obtain ⟨p5, cs5, e5, f5⟩ := g_bd_i f4
    obtain ⟨p6, cs6, e6, f6⟩ := g_bd_i f5
    obtain ⟨b1, b2, r2, b3, b4, b5⟩ := ht k0 _ _ _ _ a2.2 e2
    obtain ⟨z3, q3⟩ := g_tk_i e3
    cases q3
    have a3 := g_en_k b2 (by rw [g_sg_k z3]; decide)
    obtain ⟨c1, c2, r4, c3, c4, c5⟩ := hs k0 _ _ _ _ a3.2 e4
    obtain ⟨z5, q5⟩ := g_tk_i e5
    cases q5
    have a5 := g_en_k c2 (by rw [g_sg_k z5]; decide)
    obtain ⟨d1, d2, r6, d3, d4, d5⟩ := hs k0 _ _ _ _ a5.2 e6
    obtain ⟨z7, q7⟩ := g_tk_i f6
    cases q7
    have a7 := g_en_k d2 (by rw [g_sg_k z7]; decide)
    refine ⟨by omega, a7.2, r2 ++ (r4 ++ (r6 ++ [10019])), by rw [d3, c3, b3, List.append_assoc, List.append_assoc, List.append_assoc], ?_, fun ts hts => ?_⟩
    · rw [List.length_append, List.length_append, List.length_append, List.length_singleton]; omega
    · rw [q_tyL_app, b5 ts (by omega), Option.bind_some, q_tyL_app, c5 (true :: ts) (by rw [List.length_cons]; omega), Option.bind_some, q_tyL_app, d5 (false :: true :: ts) (by rw [List.length_cons, List.length_cons]; omega), Option.bind_some, q_tyL_1 (n := 10019) (t := false :: ts) rfl (by rw [List.length_cons]; omega)]
  · rw [if_neg z] at e
    cases e
theorem g_pr_gd (hs : k ≠ 0 → g_gd T false (5 * k - 2) su) (ht : k ≠ 0 → g_gd T true (5 * k + 1) te) : g_gd T false (5 * k + 1) (g_pr T w k su te) := by
  intro p cs p' cs' h e
  unfold g_pr at e
  by_cases c0 : g_sg T p 40 = true
  · rw [if_pos c0] at e
    have a1 := g_en_k h (by rw [g_sg_k c0]; decide)
    obtain ⟨p1, cs1, e1, f1⟩ := g_bd_i e
    obtain ⟨k0, q1⟩ := g_op_i e1
    cases q1
    obtain ⟨p2, cs2, e2, f2⟩ := g_bd_i f1
    obtain ⟨b1, b2, r2, b3, b4, b5⟩ := hs k0 _ _ _ _ a1.2 e2
    obtain ⟨z3, q3⟩ := g_tk_i f2
    cases q3
    have a3 := g_en_k b2 (by rw [g_sg_k z3]; decide)
    exact ⟨by omega, a3.2, r2, b3, by omega, fun ts hts => b5 ts (by omega)⟩
  rw [if_neg c0] at e
  by_cases c1 : g_ow T p 22 = true
  · rw [if_pos c1] at e
    exact g_pa_gd hs (fun ts => rfl) h (by rw [g_ow_k c1]; decide) e
  rw [if_neg c1] at e
  by_cases c2 : g_ow T p 23 = true
  · rw [if_pos c2] at e
    exact g_pa_gd hs (fun ts => rfl) h (by rw [g_ow_k c2]; decide) e
  rw [if_neg c2] at e
  by_cases c3 : g_ow T p 17 = true
  · rw [if_pos c3] at e
    exact g_ch_gd hs ht h (by rw [g_ow_k c3]; decide) e
  rw [if_neg c3] at e
  by_cases c4 : g_kd T p = 2
  · rw [if_pos c4] at e
    refine g_one (by omega) (by omega) h e fun ts => ?_
    unfold q_ty
    rw [if_pos (g_vl_lt c4)]
  rw [if_neg c4] at e
  by_cases c5 : g_var T w p = 0
  · rw [if_pos c5] at e; cases e
  · rw [if_neg c5] at e
    obtain ⟨v1, v2, v3⟩ := g_var_k c5
    refine g_one (by omega) (by omega) h e fun ts => ?_
    unfold q_ty
    rw [if_neg (by omega), if_neg (by omega), if_pos v3]
theorem g_su_gd (hs : k ≠ 0 → g_gd T false (5 * k - 2) su) (ht : k ≠ 0 → g_gd T true (5 * k + 1) te) : g_gd T false (5 * k + 3) (g_su T w k su te) := g_sq_gd g_oS_j (g_sq_gd g_oP_j (g_pr_gd hs ht))
theorem g_fc_gd (hs : k ≠ 0 → g_gd T false (5 * k - 2) su) (ht : k ≠ 0 → g_gd T true (5 * k + 1) te) (hf : k ≠ 0 → g_gd T true (5 * k - 1) fc) : g_gd T true (5 * k + 4) (g_fc T w k su te fc) := by
  intro p cs p' cs' h e
  have hsu := g_su_gd (w := w) hs ht
  unfold g_fc at e
  by_cases c0 : g_ow T p 20 = true
  · rw [if_pos c0] at e
    have a1 := g_en_k h (by rw [g_ow_k c0]; decide)
    obtain ⟨p1, cs1, e1, f1⟩ := g_bd_i e
    obtain ⟨k0, q1⟩ := g_op_i e1
    cases q1
    obtain ⟨p2, cs2, e2, f2⟩ := g_bd_i f1
    obtain ⟨b1, b2, r2, b3, b4, b5⟩ := hf k0 _ _ _ _ a1.2 e2
    cases f2
    refine ⟨by omega, b2, r2 ++ [10018], by rw [b3, List.append_assoc], by rw [List.length_append, List.length_singleton]; omega, fun ts hts => ?_⟩
    rw [q_tyL_app, b5 ts (by omega), Option.bind_some, q_tyL_1 (n := 10018) (t := true :: ts) rfl (by rw [List.length_cons]; omega)]
  rw [if_neg c0] at e
  by_cases c1 : g_sg T p 91 = true
  · rw [if_pos c1] at e
    have a1 := g_en_k h (by rw [g_sg_k c1]; decide)
    obtain ⟨p1, cs1, e1, f1⟩ := g_bd_i e
    obtain ⟨k0, q1⟩ := g_op_i e1
    cases q1
    obtain ⟨p2, cs2, e2, f2⟩ := g_bd_i f1
    obtain ⟨b1, b2, r2, b3, b4, b5⟩ := ht k0 _ _ _ _ a1.2 e2
    obtain ⟨z3, q3⟩ := g_tk_i f2
    cases q3
    have a3 := g_en_k b2 (by rw [g_sg_k z3]; decide)
    exact ⟨by omega, a3.2, r2, b3, by omega, fun ts hts => b5 ts (by omega)⟩
  rw [if_neg c1] at e
  by_cases c2 : g_ow T p 21 = true
  · rw [if_pos c2] at e
    exact g_one (by omega) (by rw [g_ow_k c2]; decide) h e fun ts => rfl
  rw [if_neg c2] at e
  obtain ⟨p1, cs1, e1, f1⟩ := g_bd_i e
  obtain ⟨b1, b2, r1, b3, b4, b5⟩ := hsu _ _ _ _ h e1
  by_cases c3 : g_oC T p1 = 0
  · rw [if_pos c3] at f1; cases f1
  · rw [if_neg c3] at f1
    obtain ⟨hk, hty⟩ := g_oC_j c3
    have a3 := g_en_k b2 (by omega)
    obtain ⟨p2, cs2, e2, f2⟩ := g_bd_i f1
    obtain ⟨d1, d2, r2, d3, d4, d5⟩ := hsu _ _ _ _ a3.2 e2
    cases f2
    refine ⟨by omega, d2, r1 ++ (r2 ++ [g_oC T p1]), by rw [d3, b3, List.append_assoc, List.append_assoc], ?_, fun ts hts => ?_⟩
    · rw [List.length_append, List.length_append, List.length_singleton]; omega
    · rw [q_tyL_app, b5 ts (by omega), Option.bind_some, q_tyL_app, d5 (false :: ts) (by rw [List.length_cons]; omega), Option.bind_some, q_tyL_1 (hty ts) (by rw [List.length_cons]; omega)]
theorem g_te_gd (hs : k ≠ 0 → g_gd T false (5 * k - 2) su) (ht : k ≠ 0 → g_gd T true (5 * k + 1) te) (hf : k ≠ 0 → g_gd T true (5 * k - 1) fc) : g_gd T true (5 * k + 6) (g_te T w k su te fc) := g_sq_gd g_oO_j (g_sq_gd g_oA_j (g_fc_gd hs ht hf))
theorem g_L_gd : ∀ k, g_gd T false (5 * k + 3) (g_L T w k).1 ∧ g_gd T true (5 * k + 6) (g_L T w k).2.1 ∧ g_gd T true (5 * k + 4) (g_L T w k).2.2
  | 0 => ⟨g_su_gd (fun z => absurd rfl z) (fun z => absurd rfl z), g_te_gd (fun z => absurd rfl z) (fun z => absurd rfl z) (fun z => absurd rfl z), g_fc_gd (fun z => absurd rfl z) (fun z => absurd rfl z) (fun z => absurd rfl z)⟩
  | k + 1 => by
    obtain ⟨h1, h2, h3⟩ := g_L_gd k
    have e1 : 5 * k + 3 = 5 * (k + 1) - 2 := by omega
    have e2 : 5 * k + 6 = 5 * (k + 1) + 1 := by omega
    have e3 : 5 * k + 4 = 5 * (k + 1) - 1 := by omega
    rw [e1] at h1
    rw [e2] at h2
    rw [e3] at h3
    exact ⟨g_su_gd (fun _ => h1) (fun _ => h2), g_te_gd (fun _ => h1) (fun _ => h2) (fun _ => h3), g_fc_gd (fun _ => h1) (fun _ => h2) (fun _ => h3)⟩
end GK
