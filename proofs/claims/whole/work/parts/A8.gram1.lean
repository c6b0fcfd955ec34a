/-! THE FORMULAS: how they are read. -/
section GI
abbrev g_R : Type := Sum (Nat × Nat) (Nat × List Nat)
abbrev g_F : Type := Nat → List Nat → g_R
def g_bd (r : g_R) (f : g_F) : g_R := match r with
  | .inl e => .inl e
  | .inr x => f x.1 x.2
theorem g_bd_l (e : Nat × Nat) (f : g_F) : g_bd (.inl e) f = .inl e := rfl
theorem g_bd_r (p : Nat) (cs : List Nat) (f : g_F) : g_bd (.inr (p, cs)) f = f p cs := rfl
theorem g_bd_i {r : g_R} {f : g_F} {y : Nat × List Nat} (h : g_bd r f = .inr y) : ∃ p cs, r = .inr (p, cs) ∧ f p cs = .inr y := by
  cases r with
  | inl e => cases h
  | inr x => exact ⟨x.1, x.2, rfl, h⟩
variable (T : List Nat) (w : Nat)
def g_un (p : Nat) : g_R := .inl (1, g_ft T p)
def g_fa (k p : Nat) : g_R := .inl (k, g_st T p)
def g_tk (c p : Nat) (cs : List Nat) : g_R := if g_sg T p c then .inr (g_en T p, cs) else g_un T p
def g_op (k p : Nat) (cs : List Nat) : g_R := if k = 0 then g_fa T 5 p else .inr (g_en T p, cs)
def g_oP (p : Nat) : Nat := if g_sg T p 42 then 10008 else if g_sg T p 47 then 10009 else if g_sg T p 37 then 10010 else 0
def g_oS (p : Nat) : Nat := if g_sg T p 43 then 10006 else if g_sg T p 45 then 10007 else 0
def g_oC (p : Nat) : Nat := if g_sg T p 60 then 10013 else if g_sg T p 62 then 10014 else if g_sg T p 61 then 10015 else 0
def g_oA (p : Nat) : Nat := if g_ow T p 19 then 10016 else 0
def g_oO (p : Nat) : Nat := if g_ow T p 18 then 10017 else 0
/-- its own part: step, bench or first -/
def g_own (w : Nat) : Nat := if w = 0 then 15 else if w = 1 then 1 else 16
def g_var (p : Nat) : Nat := if g_ow T p (g_own w) then 10005 else if g_ow T p 11 then 10001 else if g_ow T p 12 then 10002 else if g_ow T p 13 then 10003 else if g_ow T p 14 then 10004 else 0
/-- one, and more behind signs that join them -/
def g_lp (op : Nat → Nat) (pt : g_F) : Nat → g_F
  | 0, p, cs => .inr (p, cs)
  | m + 1, p, cs => if op p = 0 then .inr (p, cs) else g_bd (pt (g_en T p) cs) fun p' cs' => g_lp op pt m p' (cs' ++ [op p])
def g_sq (op : Nat → Nat) (pt : g_F) : g_F := fun p cs => g_bd (pt p cs) (g_lp T op pt 1600)
def g_pa (k : Nat) (su : g_F) (c : Nat) : g_F := fun p cs => if g_sg T (g_en T p) 40 then g_bd (g_op T k (g_en T p) cs) fun p cs => g_bd (su p cs) fun p cs => g_bd (g_tk T 44 p cs) fun p cs => g_bd (su p cs) fun p cs => g_tk T 41 p (cs ++ [c]) else g_un T (g_en T p)
def g_ch (k : Nat) (su te : g_F) : g_F := fun p cs => if g_sg T (g_en T p) 40 then g_bd (g_op T k (g_en T p) cs) fun p cs => g_bd (te p cs) fun p cs => g_bd (g_tk T 44 p cs) fun p cs => g_bd (su p cs) fun p cs => g_bd (g_tk T 44 p cs) fun p cs => g_bd (su p cs) fun p cs => g_tk T 41 p (cs ++ [10019]) else g_un T (g_en T p)
def g_pr (k : Nat) (su te : g_F) : g_F := fun p cs =>
  if g_sg T p 40 then g_bd (g_op T k p cs) fun p cs => g_bd (su p cs) fun p cs => g_tk T 41 p cs
  else if g_ow T p 22 then g_pa T k su 10011 p cs else if g_ow T p 23 then g_pa T k su 10012 p cs else if g_ow T p 17 then g_ch T k su te p cs
  else if g_kd T p = 2 then .inr (g_en T p, cs ++ [g_vl T p]) else if g_var T w p = 0 then g_un T p else .inr (g_en T p, cs ++ [g_var T w p])
def g_su (k : Nat) (su te : g_F) : g_F := g_sq T (g_oS T) (g_sq T (g_oP T) (g_pr T w k su te))
def g_fc (k : Nat) (su te fc : g_F) : g_F := fun p cs =>
  if g_ow T p 20 then g_bd (g_op T k p cs) fun p cs => g_bd (fc p cs) fun p cs => .inr (p, cs ++ [10018])
  else if g_sg T p 91 then g_bd (g_op T k p cs) fun p cs => g_bd (te p cs) fun p cs => g_tk T 93 p cs
  else if g_ow T p 21 then .inr (g_en T p, cs ++ [10000])
  else g_bd (g_su T w k su te p cs) fun p cs => if g_oC T p = 0 then g_un T p else g_bd (g_su T w k su te (g_en T p) cs) fun p' cs' => .inr (p', cs' ++ [g_oC T p])
def g_te (k : Nat) (su te fc : g_F) : g_F := g_sq T (g_oO T) (g_sq T (g_oA T) (g_fc T w k su te fc))
def g_no : g_F := fun _ _ => .inl (0, 0)
/-- sums, tests, facts where k may still be opened -/
def g_L : Nat → g_F × g_F × g_F
  | 0 => (g_su T w 0 g_no g_no, g_te T w 0 g_no g_no g_no, g_fc T w 0 g_no g_no g_no)
  | k + 1 => (g_su T w (k + 1) (g_L k).1 (g_L k).2.1, g_te T w (k + 1) (g_L k).1 (g_L k).2.1 (g_L k).2.2, g_fc T w (k + 1) (g_L k).1 (g_L k).2.1 (g_L k).2.2)
end GI
section GJ
variable {T : List Nat} {w : Nat}
theorem q_tyL_app : ∀ (r r' : List Nat) (ts : List Bool), q_tyL (r ++ r') ts = (q_tyL r ts).bind (q_tyL r')
  | [], r', ts => rfl
  | n :: r, r', ts => by
    rw [List.cons_append, q_tyL, q_tyL]
    cases q_ty ts n with
    | none => rfl
    | some t =>
      show (if t.length ≤ 60 then q_tyL (r ++ r') t else none) = (if t.length ≤ 60 then q_tyL r t else none).bind (q_tyL r')
      split
      · exact q_tyL_app r r' t
      · rfl
theorem q_tyL_1 {n : Nat} {ts t : List Bool} (h : q_ty ts n = some t) (hl : t.length ≤ 60) : q_tyL [n] ts = some t := by
  rw [q_tyL, h]
  show (if t.length ≤ 60 then q_tyL [] t else none) = some t
  rw [if_pos hl, q_tyL]
theorem g_en_k {p : Nat} (h : p ≤ T.length) (hk : g_kd T p ≠ 0) : p < g_en T p ∧ g_en T p ≤ T.length := by
  have a := g_st_b h
  have b := g_en_b h
  have c : g_st T p < T.length := by
    apply Classical.byContradiction
    intro z
    exact hk (g_kd_0.mpr z)
  have := b.2.2 c
  omega
theorem g_sg_k {p c : Nat} (h : g_sg T p c = true) : g_kd T p = 3 := by
  unfold g_sg at h
  rw [Bool.and_eq_true, decide_eq_true_eq] at h
  exact h.1
theorem g_ow_k {p i : Nat} (h : g_ow T p i = true) : g_kd T p = 1 := by
  unfold g_ow at h
  rw [Bool.and_eq_true, decide_eq_true_eq] at h
  exact h.1
/-- what is read: of kind t, no more codes than bytes, the stack at most b higher -/
def g_gd (T : List Nat) (t : Bool) (b : Nat) (f : g_F) : Prop := ∀ p cs p' cs', p ≤ T.length → f p cs = .inr (p', cs') → p < p' ∧ p' ≤ T.length ∧ ∃ r, cs' = cs ++ r ∧ r.length + p ≤ p' ∧ ∀ ts : List Bool, ts.length + b ≤ 60 → q_tyL r ts = some (t :: ts)
/-- operators that join two of a kind -/
def g_jn (T : List Nat) (t : Bool) (op : Nat → Nat) : Prop := ∀ p, op p ≠ 0 → (g_kd T p = 1 ∨ g_kd T p = 3) ∧ ∀ ts : List Bool, q_ty (t :: t :: ts) (op p) = some (t :: ts)
theorem g_oP_j : g_jn T false (g_oP T) := fun p h => by
  unfold g_oP at h ⊢
  by_cases c1 : g_sg T p 42 = true
  · rw [if_pos c1]; exact ⟨Or.inr (g_sg_k c1), fun ts => rfl⟩
  · rw [if_neg c1] at h ⊢
    by_cases c2 : g_sg T p 47 = true
    · rw [if_pos c2]; exact ⟨Or.inr (g_sg_k c2), fun ts => rfl⟩
    · rw [if_neg c2] at h ⊢
      by_cases c3 : g_sg T p 37 = true
      · rw [if_pos c3]; exact ⟨Or.inr (g_sg_k c3), fun ts => rfl⟩
      · rw [if_neg c3] at h; exact absurd rfl h
theorem g_oS_j : g_jn T false (g_oS T) := fun p h => by
  unfold g_oS at h ⊢
  by_cases c1 : g_sg T p 43 = true
  · rw [if_pos c1]; exact ⟨Or.inr (g_sg_k c1), fun ts => rfl⟩
  · rw [if_neg c1] at h ⊢
    by_cases c2 : g_sg T p 45 = true
    · rw [if_pos c2]; exact ⟨Or.inr (g_sg_k c2), fun ts => rfl⟩
    · rw [if_neg c2] at h; exact absurd rfl h
theorem g_oA_j : g_jn T true (g_oA T) := fun p h => by
  unfold g_oA at h ⊢
  by_cases c1 : g_ow T p 19 = true
  · rw [if_pos c1]; exact ⟨Or.inl (g_ow_k c1), fun ts => rfl⟩
  · rw [if_neg c1] at h; exact absurd rfl h
theorem g_oO_j : g_jn T true (g_oO T) := fun p h => by
  unfold g_oO at h ⊢
  by_cases c1 : g_ow T p 18 = true
  · rw [if_pos c1]; exact ⟨Or.inl (g_ow_k c1), fun ts => rfl⟩
  · rw [if_neg c1] at h; exact absurd rfl h
theorem g_oC_j {p : Nat} (h : g_oC T p ≠ 0) : g_kd T p = 3 ∧ ∀ ts : List Bool, q_ty (false :: false :: ts) (g_oC T p) = some (true :: ts) := by
  unfold g_oC at h ⊢
  by_cases c1 : g_sg T p 60 = true
  · rw [if_pos c1]; exact ⟨g_sg_k c1, fun ts => rfl⟩
  · rw [if_neg c1] at h ⊢
    by_cases c2 : g_sg T p 62 = true
    · rw [if_pos c2]; exact ⟨g_sg_k c2, fun ts => rfl⟩
    · rw [if_neg c2] at h ⊢
      by_cases c3 : g_sg T p 61 = true
      · rw [if_pos c3]; exact ⟨g_sg_k c3, fun ts => rfl⟩
      · rw [if_neg c3] at h; exact absurd rfl h
theorem g_lp_gd {t : Bool} {b : Nat} {op : Nat → Nat} {pt : g_F} (hj : g_jn T t op) (hp : g_gd T t b pt) : ∀ (m p : Nat) (cs : List Nat) (p' : Nat) (cs' : List Nat), p ≤ T.length → g_lp T op pt m p cs = .inr (p', cs') → p ≤ p' ∧ p' ≤ T.length ∧ ∃ r, cs' = cs ++ r ∧ r.length + p ≤ p' ∧ ∀ ts : List Bool, ts.length + (b + 1) ≤ 60 → q_tyL r (t :: ts) = some (t :: ts)
  | 0, p, cs, p', cs', h, e => by
    rw [g_lp] at e
    cases e
    exact ⟨Nat.le_refl _, h, [], by rw [List.append_nil], by rw [List.length_nil]; omega, fun ts _ => rfl⟩
  | m + 1, p, cs, p', cs', h, e => by
    rw [g_lp] at e
    by_cases c : op p = 0
    · rw [if_pos c] at e
      cases e
      exact ⟨Nat.le_refl _, h, [], by rw [List.append_nil], by rw [List.length_nil]; omega, fun ts _ => rfl⟩
    · rw [if_neg c] at e
      obtain ⟨p1, cs1, e1, e2⟩ := g_bd_i e
      obtain ⟨hk, hty⟩ := hj p c
      have hen := g_en_k h (by omega)
      obtain ⟨a1, a2, r1, a3, a4, a5⟩ := hp _ _ _ _ hen.2 e1
      obtain ⟨b1, b2, r2, b3, b4, b5⟩ := g_lp_gd hj hp m p1 _ p' cs' a2 e2
      refine ⟨by omega, b2, r1 ++ ([op p] ++ r2), by rw [b3, a3, List.append_assoc, List.append_assoc], ?_, fun ts hts => ?_⟩
      · rw [List.length_append, List.length_append, List.length_singleton]; omega
      · rw [q_tyL_app, a5 (t :: ts) (by rw [List.length_cons]; omega), Option.bind_some, q_tyL_app, q_tyL_1 (hty ts) (by rw [List.length_cons]; omega), Option.bind_some, b5 ts hts]
theorem g_sq_gd {t : Bool} {b : Nat} {op : Nat → Nat} {pt : g_F} (hj : g_jn T t op) (hp : g_gd T t b pt) : g_gd T t (b + 1) (g_sq T op pt) := by
  intro p cs p' cs' h e
  obtain ⟨p1, cs1, e1, e2⟩ := g_bd_i e
  obtain ⟨a1, a2, r1, a3, a4, a5⟩ := hp _ _ _ _ h e1
  obtain ⟨b1, b2, r2, b3, b4, b5⟩ := g_lp_gd hj hp 1600 p1 cs1 p' cs' a2 e2
  refine ⟨by omega, b2, r1 ++ r2, by rw [b3, a3, List.append_assoc], by rw [List.length_append]; omega, fun ts hts => ?_⟩
  rw [q_tyL_app, a5 ts (by omega), Option.bind_some, b5 ts hts]
theorem g_tk_i {c p : Nat} {cs : List Nat} {y : Nat × List Nat} (h : g_tk T c p cs = .inr y) : g_sg T p c = true ∧ y = (g_en T p, cs) := by
  unfold g_tk at h
  by_cases z : g_sg T p c = true
  · rw [if_pos z] at h
    cases h
    exact ⟨z, rfl⟩
  · rw [if_neg z] at h
    cases h
theorem g_op_i {k p : Nat} {cs : List Nat} {y : Nat × List Nat} (h : g_op T k p cs = .inr y) : k ≠ 0 ∧ y = (g_en T p, cs) := by
  unfold g_op at h
  by_cases z : k = 0
  · rw [if_pos z] at h
    cases h
  · rw [if_neg z] at h
    cases h
    exact ⟨z, rfl⟩
end GJ
