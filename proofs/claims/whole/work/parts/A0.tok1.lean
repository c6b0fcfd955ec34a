/-! THE TEXT: words, numbers, signs. -/
section GA
def g_l (c : Nat) : Bool := decide (97 ≤ c) && decide (c ≤ 122)
def g_d (c : Nat) : Bool := decide (48 ≤ c) && decide (c ≤ 57)
def g_w (c : Nat) : Bool := decide (c = 32) || decide (c = 10)
theorem g_l_i {c : Nat} : g_l c = true ↔ 97 ≤ c ∧ c ≤ 122 := by
  unfold g_l
  rw [Bool.and_eq_true, decide_eq_true_eq, decide_eq_true_eq]
theorem g_d_i {c : Nat} : g_d c = true ↔ 48 ≤ c ∧ c ≤ 57 := by
  unfold g_d
  rw [Bool.and_eq_true, decide_eq_true_eq, decide_eq_true_eq]
theorem g_w_i {c : Nat} : g_w c = true ↔ c = 32 ∨ c = 10 := by
  unfold g_w
  rw [Bool.or_eq_true, decide_eq_true_eq, decide_eq_true_eq]
/-- the byte at a place -/
def g_t (T : List Nat) (i : Nat) : Nat := T.getD i 0
/-- behind a run -/
def g_r (f : Nat → Bool) (T : List Nat) : Nat → Nat → Nat
  | 0, p => p
  | m + 1, p => if f (g_t T p) then g_r f T m (p + 1) else p
def g_rn (f : Nat → Bool) (T : List Nat) (p : Nat) : Nat := g_r f T (T.length - p) p
variable {f : Nat → Bool} {T : List Nat} {p : Nat}
theorem g_rn_y (h : p < T.length) (hf : f (g_t T p) = true) : g_rn f T p = g_rn f T (p + 1) := by
  unfold g_rn
  rw [show T.length - p = (T.length - (p + 1)) + 1 by omega, g_r, if_pos hf]
theorem g_rn_n (h : p < T.length) (hf : f (g_t T p) = false) : g_rn f T p = p := by
  unfold g_rn
  rw [show T.length - p = (T.length - (p + 1)) + 1 by omega, g_r, hf, if_neg (by decide)]
theorem g_rn_e (h : T.length ≤ p) : g_rn f T p = p := by
  unfold g_rn
  rw [show T.length - p = 0 by omega, g_r]
theorem g_r_b : ∀ (m p : Nat), p + m = T.length → p ≤ g_r f T m p ∧ g_r f T m p ≤ T.length ∧ (∀ i, p ≤ i → i < g_r f T m p → f (g_t T i) = true) ∧ (g_r f T m p < T.length → f (g_t T (g_r f T m p)) = false)
  | 0, p, h => by
    rw [g_r]
    exact ⟨Nat.le_refl _, by omega, fun i a b => by omega, fun z => by omega⟩
  | m + 1, p, h => by
    rw [g_r]
    cases hf : f (g_t T p) with
    | true =>
      rw [if_pos rfl]
      obtain ⟨a1, a2, a3, a4⟩ := g_r_b m (p + 1) (by omega)
      refine ⟨by omega, a2, fun i b1 b2 => ?_, a4⟩
      by_cases c : i = p
      · rw [c]; exact hf
      · exact a3 i (by omega) b2
    | false =>
      rw [if_neg (by decide)]
      exact ⟨Nat.le_refl _, by omega, fun i a b => by omega, fun _ => hf⟩
theorem g_rn_b (h : p ≤ T.length) : p ≤ g_rn f T p ∧ g_rn f T p ≤ T.length ∧ (∀ i, p ≤ i → i < g_rn f T p → f (g_t T i) = true) ∧ (g_rn f T p < T.length → f (g_t T (g_rn f T p)) = false) := g_r_b (T.length - p) p (by omega)
/-- where the token behind p begins -/
def g_st (T : List Nat) (p : Nat) : Nat := g_rn g_w T p
/-- right behind a letter or a digit -/
def g_ad (T : List Nat) (s : Nat) : Bool := decide (0 < s) && (g_l (g_t T (s - 1)) || g_d (g_t T (s - 1)))
/-- where it ends -/
def g_en (T : List Nat) (p : Nat) : Nat := if g_st T p < T.length then (if g_l (g_t T (g_st T p)) then g_rn g_l T (g_st T p) else if g_d (g_t T (g_st T p)) then g_rn g_d T (g_st T p) else g_st T p + 1) else g_st T p
/-- its letters -/
def g_ls (T : List Nat) (s n : Nat) : List Nat := (List.range n).map fun i => g_t T (s + i) - 96
def g_wl (T : List Nat) (p : Nat) : List Nat := g_ls T (g_st T p) (g_en T p - g_st T p)
/-- its number -/
def g_dv (T : List Nat) (s : Nat) : Nat → Nat
  | 0 => 0
  | n + 1 => g_dv T s n * 10 + (g_t T (s + n) - 48)
def g_vl (T : List Nat) (p : Nat) : Nat := if g_d (g_t T (g_st T p)) then g_dv T (g_st T p) (g_en T p - g_st T p) else g_t T (g_st T p)
/-- its kind: 0 the end, 1 a word, 2 a number, 3 a sign, 4 none of these -/
def g_kd (T : List Nat) (p : Nat) : Nat := if g_st T p < T.length then (if g_l (g_t T (g_st T p)) then (if g_ad T (g_st T p) || decide (6 < g_en T p - g_st T p) then 4 else 1) else if g_d (g_t T (g_st T p)) then (if g_ad T (g_st T p) || decide (4 < g_en T p - g_st T p) then 4 else 2) else 3) else 0
/-- where a fault is, if it can't stand here -/
def g_ft (T : List Nat) (p : Nat) : Nat := if g_kd T p = 4 then (if g_ad T (g_st T p) then g_st T p else if g_l (g_t T (g_st T p)) then g_st T p + 6 else g_st T p + 4) else g_st T p
/-- no word of ours right behind a number -/
def g_ok (T : List Nat) (p : Nat) : Prop := ¬ (g_kd T p = 4 ∧ g_l (g_t T (g_st T p)) = true ∧ g_en T p - g_st T p ≤ 6)
theorem g_ld {c : Nat} (h : g_l c = true) : g_d c = false := by
  rw [g_l_i] at h
  cases hb : g_d c with
  | false => rfl
  | true => rw [g_d_i] at hb; omega
theorem g_st_b (h : p ≤ T.length) : p ≤ g_st T p ∧ g_st T p ≤ T.length := ⟨(g_rn_b h).1, (g_rn_b h).2.1⟩
theorem g_st_ad (h : p ≤ T.length) (hs : p < g_st T p) : g_ad T (g_st T p) = false := by
  have h1 := (g_rn_b (f := g_w) h).2.2.1 (g_st T p - 1) (by omega) (by unfold g_st; unfold g_st at hs; omega)
  rw [g_w_i] at h1
  unfold g_ad
  have a : g_l (g_t T (g_st T p - 1)) = false := by
    cases hb : g_l (g_t T (g_st T p - 1)) with
    | false => rfl
    | true => rw [g_l_i] at hb; omega
  have b : g_d (g_t T (g_st T p - 1)) = false := by
    cases hb : g_d (g_t T (g_st T p - 1)) with
    | false => rfl
    | true => rw [g_d_i] at hb; omega
  rw [a, b, Bool.or_false, Bool.and_false]
/-- a token has a byte at least -/
theorem g_en_b (h : p ≤ T.length) : g_st T p ≤ g_en T p ∧ g_en T p ≤ T.length ∧ (g_st T p < T.length → g_st T p < g_en T p) := by
  have hs := g_st_b h
  unfold g_en
  by_cases c : g_st T p < T.length
  · rw [if_pos c]
    split
    · rename_i c1
      have a := g_rn_b (f := g_l) (Nat.le_of_lt c)
      rw [g_rn_y c c1] at a ⊢
      have b := g_rn_b (f := g_l) (T := T) (p := g_st T p + 1) (by omega)
      exact ⟨by omega, by omega, fun _ => by omega⟩
    · split
      · rename_i c1
        have a := g_rn_b (f := g_d) (Nat.le_of_lt c)
        rw [g_rn_y c c1] at a ⊢
        have b := g_rn_b (f := g_d) (T := T) (p := g_st T p + 1) (by omega)
        exact ⟨by omega, by omega, fun _ => by omega⟩
      · exact ⟨by omega, by omega, fun _ => by omega⟩
  · rw [if_neg c]
    exact ⟨by omega, by omega, fun z => absurd z c⟩
theorem g_kd_le : g_kd T p ≤ 4 := by
  unfold g_kd
  repeat' split
  all_goals omega
theorem g_kd_0 : g_kd T p = 0 ↔ ¬ g_st T p < T.length := by
  unfold g_kd
  by_cases c : g_st T p < T.length
  · rw [if_pos c]
    refine ⟨fun z => ?_, fun z => absurd c z⟩
    exfalso
    revert z
    repeat' split
    all_goals omega
  · rw [if_neg c]
    exact ⟨fun _ => c, fun _ => rfl⟩
theorem g_kd_1 (h : g_kd T p = 1) : g_st T p < T.length ∧ g_l (g_t T (g_st T p)) = true ∧ g_ad T (g_st T p) = false ∧ g_en T p = g_rn g_l T (g_st T p) ∧ g_en T p - g_st T p ≤ 6 := by
  have c : g_st T p < T.length := by
    apply Classical.byContradiction
    intro z
    rw [g_kd_0.mpr z] at h
    omega
  unfold g_kd at h
  rw [if_pos c] at h
  cases hl : g_l (g_t T (g_st T p)) with
  | true =>
    rw [hl, if_pos rfl] at h
    have e : g_en T p = g_rn g_l T (g_st T p) := by unfold g_en; rw [if_pos c, hl, if_pos rfl]
    cases ha : g_ad T (g_st T p) with
    | true => rw [ha, Bool.true_or, if_pos rfl] at h; omega
    | false =>
      by_cases z : 6 < g_en T p - g_st T p
      · rw [decide_eq_true z, Bool.or_true, if_pos rfl] at h; omega
      · exact ⟨c, rfl, rfl, e, by omega⟩
  | false =>
    exfalso
    rw [hl, if_neg (by decide)] at h
    revert h
    repeat' split
    all_goals omega
theorem g_kd_2 (h : g_kd T p = 2) : g_st T p < T.length ∧ g_d (g_t T (g_st T p)) = true ∧ g_ad T (g_st T p) = false ∧ g_en T p = g_rn g_d T (g_st T p) ∧ g_en T p - g_st T p ≤ 4 := by
  have c : g_st T p < T.length := by
    apply Classical.byContradiction
    intro z
    rw [g_kd_0.mpr z] at h
    omega
  unfold g_kd at h
  rw [if_pos c] at h
  cases hl : g_l (g_t T (g_st T p)) with
  | true =>
    exfalso
    rw [hl, if_pos rfl] at h
    revert h
    split <;> omega
  | false =>
    rw [hl, if_neg (by decide)] at h
    cases hd : g_d (g_t T (g_st T p)) with
    | true =>
      rw [hd, if_pos rfl] at h
      have e : g_en T p = g_rn g_d T (g_st T p) := by unfold g_en; rw [if_pos c, hl, if_neg (by decide), hd, if_pos rfl]
      cases ha : g_ad T (g_st T p) with
      | true => rw [ha, Bool.true_or, if_pos rfl] at h; omega
      | false =>
        by_cases z : 4 < g_en T p - g_st T p
        · rw [decide_eq_true z, Bool.or_true, if_pos rfl] at h; omega
        · exact ⟨c, rfl, rfl, e, by omega⟩
    | false => rw [hd, if_neg (by decide)] at h; omega
theorem g_kd_3 (h : g_kd T p = 3) : g_st T p < T.length ∧ g_l (g_t T (g_st T p)) = false ∧ g_d (g_t T (g_st T p)) = false ∧ g_en T p = g_st T p + 1 := by
  have c : g_st T p < T.length := by
    apply Classical.byContradiction
    intro z
    rw [g_kd_0.mpr z] at h
    omega
  unfold g_kd at h
  rw [if_pos c] at h
  cases hl : g_l (g_t T (g_st T p)) with
  | true =>
    exfalso
    rw [hl, if_pos rfl] at h
    revert h
    split <;> omega
  | false =>
    rw [hl, if_neg (by decide)] at h
    cases hd : g_d (g_t T (g_st T p)) with
    | true =>
      exfalso
      rw [hd, if_pos rfl] at h
      revert h
      split <;> omega
    | false =>
      refine ⟨c, rfl, rfl, ?_⟩
      unfold g_en
      rw [if_pos c, hl, if_neg (by decide), hd, if_neg (by decide)]
/-- what stands ahead of the end of a token -/
theorem g_en_ad (h : p ≤ T.length) (hk : g_kd T p ≠ 4) (he : g_en T p < T.length) : (g_kd T p = 1 ∨ g_kd T p = 2) ↔ g_ad T (g_en T p) = true := by
  have hb := g_en_b h
  have h4 := g_kd_le (T := T) (p := p)
  have h0 : g_kd T p ≠ 0 := fun z => by
    have z2 := g_kd_0.mp z
    unfold g_en at he
    rw [if_neg z2] at he
    omega
  have hs : g_st T p < T.length := by
    apply Classical.byContradiction
    intro z
    exact h0 (g_kd_0.mpr z)
  have hp := hb.2.2 hs
  unfold g_ad
  rw [decide_eq_true (show 0 < g_en T p by omega), Bool.true_and]
  by_cases c1 : g_kd T p = 1
  · obtain ⟨_, _, _, e, _⟩ := g_kd_1 c1
    have a := (g_rn_b (f := g_l) (Nat.le_of_lt hs)).2.2.1 (g_en T p - 1) (by omega) (by omega)
    rw [a]
    exact ⟨fun _ => rfl, fun _ => Or.inl c1⟩
  · by_cases c2 : g_kd T p = 2
    · obtain ⟨_, _, _, e, _⟩ := g_kd_2 c2
      have a := (g_rn_b (f := g_d) (Nat.le_of_lt hs)).2.2.1 (g_en T p - 1) (by omega) (by omega)
      rw [a, Bool.or_true]
      exact ⟨fun _ => rfl, fun _ => Or.inr c2⟩
    · obtain ⟨_, a, b, e⟩ := g_kd_3 (show g_kd T p = 3 by omega)
      rw [e, Nat.add_sub_cancel, a, b]
      exact ⟨fun z => by omega, fun z => by cases z⟩
/-- behind a word or a sign stands no word of ours that is none -/
theorem g_ok_en (h : p ≤ T.length) (hk : g_kd T p = 1 ∨ g_kd T p = 3) : g_ok T (g_en T p) := by
  intro ⟨z1, z2, z3⟩
  have hb := g_en_b h
  have hs2 := g_st_b hb.2.1
  have hs : g_st T (g_en T p) < T.length := by
    apply Classical.byContradiction
    intro z
    rw [g_kd_0.mpr z] at z1
    omega
  have had : g_ad T (g_st T (g_en T p)) = true := by
    unfold g_kd at z1
    rw [if_pos hs, z2, if_pos rfl] at z1
    cases ha : g_ad T (g_st T (g_en T p)) with
    | true => rfl
    | false =>
      rw [ha, Bool.false_or, decide_eq_false (by omega), if_neg (by decide)] at z1
      omega
  have heq : g_st T (g_en T p) = g_en T p := by
    apply Classical.byContradiction
    intro z
    rw [g_st_ad hb.2.1 (by omega)] at had
    cases had
  rw [heq] at had hs z2
  have hc := (g_en_ad h (by omega) hs).mpr had
  have c1 : g_kd T p = 1 := by omega
  obtain ⟨q1, _, _, e, _⟩ := g_kd_1 c1
  have a := (g_rn_b (f := g_l) (Nat.le_of_lt q1)).2.2.2
  rw [← e] at a
  rw [a hs] at z2
  cases z2
theorem g_ok_0 : g_ok T 0 := by
  intro ⟨z1, z2, z3⟩
  have hb := g_st_b (T := T) (p := 0) (by omega)
  have hs : g_st T 0 < T.length := by
    apply Classical.byContradiction
    intro z
    rw [g_kd_0.mpr z] at z1
    omega
  unfold g_kd at z1
  rw [if_pos hs, z2, if_pos rfl] at z1
  have had : g_ad T (g_st T 0) = false := by
    by_cases c : 0 < g_st T 0
    · exact g_st_ad (by omega) c
    · unfold g_ad
      rw [decide_eq_false c, Bool.false_and]
  rw [had, Bool.false_or, decide_eq_false (by omega), if_neg (by decide)] at z1
  omega
end GA
