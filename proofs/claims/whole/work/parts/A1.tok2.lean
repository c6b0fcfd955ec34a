/-! THE TEXT: names as numbers. -/
section GB
/-- letters -/
def g_vd (l : List Nat) : Prop := ∀ x, x ∈ l → 1 ≤ x ∧ x ≤ 26
theorem q_nv_lt {l : List Nat} (h : g_vd l) (h6 : l.length ≤ 6) : q_nv l < 387420489 := q_nv_6 (fun x hx => (h x hx).2) h6
def g_27 : List Nat → Nat
  | [] => 0
  | a :: r => g_27 r * 27 + a
theorem g_27_inj : ∀ (l l' : List Nat), g_vd l → g_vd l' → g_27 l = g_27 l' → l = l'
  | [], [], _, _, _ => rfl
  | [], a :: r, _, hv, h => by have := hv a List.mem_cons_self; rw [g_27, g_27] at h; omega
  | a :: r, [], hv, _, h => by have := hv a List.mem_cons_self; rw [g_27, g_27] at h; omega
  | a :: r, b :: s, hv, hv', h => by
    have h1 := hv a List.mem_cons_self
    have h2 := hv' b List.mem_cons_self
    rw [g_27, g_27] at h
    have e : a = b := by omega
    subst e
    rw [g_27_inj r s (fun x hx => hv x (List.mem_cons_of_mem _ hx)) (fun x hx => hv' x (List.mem_cons_of_mem _ hx)) (by omega)]
theorem g_27_nv : ∀ l : List Nat, g_27 l.reverse = q_nv l := by
  intro l
  unfold q_nv
  rw [← List.foldr_reverse]
  generalize l.reverse = r
  induction r with
  | nil => rfl
  | cons a r ih => rw [g_27, ih]; rfl
theorem q_nv_inj {l l' : List Nat} (h : g_vd l) (h' : g_vd l') : q_nv l = q_nv l' ↔ l = l' := by
  constructor
  · intro z
    rw [← g_27_nv, ← g_27_nv] at z
    have := g_27_inj _ _ (fun x hx => h x (List.mem_reverse.mp hx)) (fun x hx => h' x (List.mem_reverse.mp hx)) z
    rw [← List.reverse_reverse l, this, List.reverse_reverse]
  · intro z; rw [z]
def g_256 : List Nat → Nat
  | [] => 0
  | a :: r => g_256 r * 256 + (a + 96)
theorem g_256_inj : ∀ (l l' : List Nat), g_vd l → g_vd l' → g_256 l = g_256 l' → l = l'
  | [], [], _, _, _ => rfl
  | [], a :: r, _, _, h => by rw [g_256, g_256] at h; omega
  | a :: r, [], _, _, h => by rw [g_256, g_256] at h; omega
  | a :: r, b :: s, hv, hv', h => by
    have h1 := hv a List.mem_cons_self
    have h2 := hv' b List.mem_cons_self
    rw [g_256, g_256] at h
    have e : a = b := by omega
    subst e
    rw [g_256_inj r s (fun x hx => hv x (List.mem_cons_of_mem _ hx)) (fun x hx => hv' x (List.mem_cons_of_mem _ hx)) (by omega)]
theorem g_256_nw : ∀ l : List Nat, g_256 l.reverse = q_nw l := by
  intro l
  unfold q_nw
  rw [← List.foldr_reverse]
  generalize l.reverse = r
  induction r with
  | nil => rfl
  | cons a r ih => rw [g_256, ih]; rfl
theorem q_nw_inj {l l' : List Nat} (h : g_vd l) (h' : g_vd l') : q_nw l = q_nw l' ↔ l = l' := by
  constructor
  · intro z
    rw [← g_256_nw, ← g_256_nw] at z
    have := g_256_inj _ _ (fun x hx => h x (List.mem_reverse.mp hx)) (fun x hx => h' x (List.mem_reverse.mp hx)) z
    rw [← List.reverse_reverse l, this, List.reverse_reverse]
  · intro z; rw [z]
theorem g_256_lt : ∀ l : List Nat, g_vd l → g_256 l < 256 ^ l.length
  | [], _ => by decide
  | a :: r, h => by
    have h1 := h a List.mem_cons_self
    have ih := g_256_lt r fun x hx => h x (List.mem_cons_of_mem _ hx)
    rw [g_256, List.length_cons, Nat.pow_succ]
    omega
theorem q_nw_l6 {l : List Nat} (h : g_vd l) (h1 : l.length ≤ 6) : q_nw l < 281474976710656 := by
  have := g_256_lt l.reverse fun x hx => h x (List.mem_reverse.mp hx)
  rw [g_256_nw, List.length_reverse] at this
  exact Nat.lt_of_lt_of_le this (Nat.pow_le_pow_right (n := 256) (by omega) h1)
/-- the own words, in letters -/
def g_owl : List (List Nat) := [["rooms", "bench", "steps", "knock", "lodger", "has", "in", "shut"], ["yields", "leaves", "rents", "night", "room", "nights", "empty", "step"], ["first", "if", "or", "and", "not", "all", "min", "max"]].flatten.map (fun w => w.toList.map fun c => c.toNat - 96)
def g_o (i : Nat) : List Nat := g_owl.getD i []
theorem g_o_ck : (List.range 24).all (fun i => decide ((g_o i).length ≤ 6) && (g_o i).all (fun x => decide (1 ≤ x) && decide (x ≤ 26)) && decide (q_own.getD i 0 = q_nv (g_o i))) = true := by decide +kernel
theorem g_o_k {i : Nat} (h : i < 24) : g_vd (g_o i) ∧ (g_o i).length ≤ 6 ∧ q_own.getD i 0 = q_nv (g_o i) := by
  have := List.all_eq_true.mp g_o_ck i (List.mem_range.mpr h)
  rw [Bool.and_eq_true, Bool.and_eq_true, decide_eq_true_eq, decide_eq_true_eq, List.all_eq_true] at this
  refine ⟨fun x hx => ?_, this.1.1, this.2⟩
  have := this.1.2 x hx
  rw [Bool.and_eq_true, decide_eq_true_eq, decide_eq_true_eq] at this
  exact this
/-- which of the first n own words it is -/
def g_oi (l : List Nat) : Nat → Option Nat
  | 0 => none
  | n + 1 => if g_o n = l then some n else g_oi l n
theorem g_oi_lt {l : List Nat} {i : Nat} : ∀ n, g_oi l n = some i → i < n
  | 0, h => by cases h
  | n + 1, h => by
    rw [g_oi] at h
    split at h
    · have := Option.some.inj h; omega
    · have := g_oi_lt n h; omega
theorem g_oi_eq {l : List Nat} {i : Nat} : ∀ n, g_oi l n = some i → g_o i = l
  | 0, h => by cases h
  | n + 1, h => by
    rw [g_oi] at h
    split at h
    · rename_i c; rw [← Option.some.inj h]; exact c
    · exact g_oi_eq n h
theorem g_oi_ck : (List.range 24).all (fun i => decide (g_oi (g_o i) 24 = some i)) = true := by decide +kernel
theorem g_oi_i {i : Nat} (h : i < 24) (l : List Nat) : g_oi l 24 = some i ↔ l = g_o i := by
  constructor
  · intro z; exact (g_oi_eq 24 z).symm
  · intro z
    rw [z]
    exact of_decide_eq_true (List.all_eq_true.mp g_oi_ck i (List.mem_range.mpr h))
theorem g_oi_none {l : List Nat} : g_oi l 24 = none ↔ ∀ i, i < 24 → l ≠ g_o i := by
  constructor
  · intro z i hi e
    rw [(g_oi_i hi l).mpr e] at z
    cases z
  · intro z
    cases h : g_oi l 24 with
    | none => rfl
    | some i => exact absurd (g_oi_eq 24 h).symm (z i (g_oi_lt 24 h))
end GB
