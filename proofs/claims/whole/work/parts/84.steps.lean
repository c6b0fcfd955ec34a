/-! STEPS: more than are needed change nothing. -/
theorem q_yl_T {P : q_Pl} {s : q_St} {r n T T' : Nat} (h : n < T) (h' : n < T') : q_yl P s r n T' = q_yl P s r n T := by
  unfold q_yl
  rw [decide_eq_true h, decide_eq_true h']
theorem q_yl_0 {P : q_Pl} {s : q_St} {r n T : Nat} (h : ¬ n < T) : q_yl P s r n T = false := by
  unfold q_yl
  rw [decide_eq_false h]
  cases q_s s r <;> rfl
theorem q_chn_T (P : q_Pl) (T T' : Nat) (hT : T ≤ T') : ∀ (n n' : Nat) (s : q_St) (g r : Nat) (o : List (Nat × Nat)), o.length + n = T → o.length + n' = T' → (q_chn P T n s g r o).2.length < T → q_chn P T' n' s g r o = q_chn P T n s g r o
  | 0, n', s, g, r, o, h1, h2, h3 => by
    have h4 : o.length < T := h3
    omega
  | n + 1, 0, s, g, r, o, h1, h2, h3 => by omega
  | n + 1, n' + 1, s, g, r, o, h1, h2, h3 => by
    rw [q_chn] at h3
    rw [q_chn, q_chn]
    cases hv : q_s s r with
    | none => rfl
    | some v =>
      rw [hv] at h3
      dsimp only at h3 ⊢
      by_cases c1 : q_free (q_out (q_bed s g r) v) (q_oth P v r) = true
      · rw [if_pos c1, if_pos c1]
      · rw [if_neg c1] at h3 ⊢
        rw [if_neg c1]
        by_cases c2 : o.length + 1 < T
        · rw [q_yl_T c2 (Nat.lt_of_lt_of_le c2 hT)]
          by_cases c3 : q_yl P (q_out (q_bed s g r) v) (q_oth P v r) (o.length + 1) T = true
          · rw [if_pos c3] at h3 ⊢
            rw [if_pos c3]
            exact q_chn_T P T T' hT n n' _ _ _ _ (by rw [List.length_append, List.length_singleton]; omega) (by rw [List.length_append, List.length_singleton]; omega) h3
          · rw [if_neg c3, if_neg c3]
        · rw [q_yl_0 c2, if_neg (by decide)] at h3
          have h4 : (o ++ [(v, r)]).length < T := h3
          rw [List.length_append, List.length_singleton] at h4
          omega
theorem q_arr_T {P : q_Pl} {s : q_St} {k T T' : Nat} (hT : T ≤ T') (h : (q_arr P T s k).2.length < T) : q_arr P T' s k = q_arr P T s k := by
  have h0 : 0 < T := by omega
  unfold q_arr at h ⊢
  cases hi : q_in P s k with
  | some s1 => rfl
  | none =>
    rw [hi] at h
    dsimp only at h ⊢
    rw [q_yl_T h0 (Nat.lt_of_lt_of_le h0 hT), q_yl_T h0 (Nat.lt_of_lt_of_le h0 hT)]
    by_cases c1 : q_yl P s (p_f P k) 0 T = true
    · rw [if_pos c1] at h ⊢
      rw [if_pos c1]
      exact q_chn_T P T T' hT T T' s k _ [] (by simp) (by simp) h
    · rw [if_neg c1] at h ⊢
      rw [if_neg c1]
      by_cases c2 : q_yl P s (p_o P k) 0 T = true
      · rw [if_pos c2] at h ⊢
        rw [if_pos c2]
        exact q_chn_T P T T' hT T T' s k _ [] (by simp) (by simp) h
      · rw [if_neg c2, if_neg c2]
