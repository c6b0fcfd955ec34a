/-! BEDS: which rooms hang together, how many sleep at once. -/
section BA
/-- shut rooms, first, other room of each lodger -/
abbrev w_G : Type := Nat × (Nat → Nat) × (Nat → Nat)
def w_f (G : w_G) : Nat → Nat := G.2.1
def w_o (G : w_G) : Nat → Nat := G.2.2
def w_op (G : w_G) (x : Nat) : Bool := !(G.1.testBit x)
def w_an (G : w_G) (k : Nat) : Bool := w_op G (w_f G k) || w_op G (w_o G k)
def w_r1 (G : w_G) (k : Nat) : Nat := if w_op G (w_f G k) then w_f G k else w_o G k
def w_r2 (G : w_G) (k : Nat) : Nat := if w_op G (w_o G k) then w_o G k else w_f G k
variable {G : w_G} {R : Nat}
theorem w_r1_op {k : Nat} (h : w_an G k = true) : w_op G (w_r1 G k) = true := by
  unfold w_r1
  split
  · assumption
  · rename_i c
    unfold w_an at h
    rw [Bool.or_eq_true] at h
    rcases h with h | h
    · exact absurd h c
    · exact h
theorem w_r2_op {k : Nat} (h : w_an G k = true) : w_op G (w_r2 G k) = true := by
  unfold w_r2
  split
  · assumption
  · rename_i c
    unfold w_an at h
    rw [Bool.or_eq_true] at h
    rcases h with h | h
    · exact h
    · exact absurd h c
/-- two heaps become one, of the lesser name -/
def w_hg (g : Nat → Nat) (a b : Nat) : Nat → Nat := fun r => if g r = max (g a) (g b) then min (g a) (g b) else g r
theorem w_hg_c1 (A B C D p : Nat) : (if (if p = max A B then min A B else p) = max (if C = max A B then min A B else C) (if D = max A B then min A B else D) then min (if C = max A B then min A B else C) (if D = max A B then min A B else D) else (if p = max A B then min A B else p)) = (if (if p = max C D then min C D else p) = max (if A = max C D then min C D else A) (if B = max C D then min C D else B) then min (if A = max C D then min C D else A) (if B = max C D then min C D else B) else (if p = max C D then min C D else p)) := by
  rcases Nat.le_total A B with h1 | h1 <;> rcases Nat.le_total C D with h2 | h2 <;> simp only [h1, h2, Nat.max_eq_right, Nat.max_eq_left, Nat.min_eq_left, Nat.min_eq_right] <;> (repeat' split) <;> omega
theorem w_hg_comm (g : Nat → Nat) (a b c d : Nat) : w_hg (w_hg g a b) c d = w_hg (w_hg g c d) a b := by
  funext r
  exact w_hg_c1 (g a) (g b) (g c) (g d) (g r)
/-- the heaps by a row of lodgers, the last one first -/
def w_lb (G : w_G) : List Nat → Nat → Nat
  | [] => fun x => x
  | k :: l => if w_an G k then w_hg (w_lb G l) (w_r1 G k) (w_r2 G k) else w_lb G l
theorem w_lb_perm {l l' : List Nat} (h : List.Perm l l') : w_lb G l = w_lb G l' := by
  induction h with
  | nil => rfl
  | cons x _ ih => rw [w_lb, w_lb, ih]
  | swap x y l =>
    rw [w_lb, w_lb, w_lb, w_lb]
    by_cases c1 : w_an G x = true
    · by_cases c2 : w_an G y = true
      · rw [if_pos c1, if_pos c2, if_pos c1, if_pos c2]; exact w_hg_comm _ _ _ _ _
      · rw [if_pos c1, if_neg c2, if_pos c1, if_neg c2]
    · by_cases c2 : w_an G y = true
      · simp only [if_neg c1, if_pos c2]
      · simp only [if_neg c1, if_neg c2]
  | trans _ _ ih1 ih2 => exact ih1.trans ih2
/-- open rooms of a heap, its lodgers -/
def w_ro (G : w_G) (R : Nat) (g : Nat → Nat) (h : Nat) : Nat := fb_ct (fun x => w_op G x && decide (g x = h)) R
def w_lo (G : w_G) (g : Nat → Nat) (l : List Nat) (h : Nat) : Nat := l.countP (fun k => w_an G k && decide (g (w_r1 G k) = h))
/-- how many sleep at once -/
def w_T (G : w_G) (R : Nat) (l : List Nat) : Nat := fb_sm (fun h => min (w_ro G R (w_lb G l) h) (w_lo G (w_lb G l) l h)) R
/-- the heap of a room is full -/
def w_F (G : w_G) (R : Nat) (l : List Nat) (x : Nat) : Prop := w_ro G R (w_lb G l) (w_lb G l x) ≤ w_lo G (w_lb G l) l (w_lb G l x)
theorem w_lo_perm {g : Nat → Nat} {l l' : List Nat} (h : List.Perm l l') (x : Nat) : w_lo G g l x = w_lo G g l' x := h.countP_eq _
theorem w_T_perm {l l' : List Nat} (h : List.Perm l l') : w_T G R l = w_T G R l' := by
  unfold w_T
  rw [w_lb_perm h]
  exact fb_sm_cong fun k _ => by rw [w_lo_perm h]
theorem w_F_perm {l l' : List Nat} (h : List.Perm l l') (x : Nat) : w_F G R l x ↔ w_F G R l' x := by
  unfold w_F
  rw [w_lb_perm h, w_lo_perm h]
/-- rooms are below R -/
def w_ok (G : w_G) (R : Nat) (l : List Nat) : Prop := ∀ k, k ∈ l → w_f G k < R ∧ w_o G k < R
theorem w_ok.r {k : Nat} {l : List Nat} (h : w_ok G R (k :: l)) : w_r1 G k < R ∧ w_r2 G k < R := by
  have h1 := h k List.mem_cons_self
  unfold w_r1 w_r2
  constructor
  · split
    · exact h1.1
    · exact h1.2
  · split
    · exact h1.2
    · exact h1.1
theorem w_ok.t {k : Nat} {l : List Nat} (h : w_ok G R (k :: l)) : w_ok G R l := fun j hj => h j (List.mem_cons_of_mem _ hj)
theorem w_lb_le : ∀ (l : List Nat) (x : Nat), w_lb G l x ≤ x
  | [], x => Nat.le_refl _
  | k :: l, x => by
    have h := w_lb_le l x
    rw [w_lb]
    split
    · unfold w_hg
      split
      · omega
      · exact h
    · exact h
/-! one more lodger -/
theorem w_hg_eq {g : Nat → Nat} {a b : Nat} (h : g a = g b) : w_hg g a b = g := by
  funext r
  unfold w_hg
  rw [h, Nat.max_self, Nat.min_self]
  split
  · rename_i c; exact c.symm
  · rfl
theorem w_hg_m {g : Nat → Nat} {a b : Nat} (h : g a ≠ g b) (r : Nat) : w_hg g a b r = min (g a) (g b) ↔ g r = g a ∨ g r = g b := by
  unfold w_hg
  split
  · constructor
    · intro _; omega
    · intro _; rfl
  · constructor
    · intro _; omega
    · intro _; omega
theorem w_hg_M {g : Nat → Nat} {a b : Nat} (h : g a ≠ g b) (r : Nat) : ¬ w_hg g a b r = max (g a) (g b) := by
  unfold w_hg
  split <;> omega
theorem w_hg_n {g : Nat → Nat} {a b x : Nat} (h1 : x ≠ g a) (h2 : x ≠ g b) (r : Nat) : w_hg g a b r = x ↔ g r = x := by
  unfold w_hg
  split
  · constructor
    · intro _; omega
    · intro _; omega
  · exact Iff.rfl
theorem w_hg_s {g : Nat → Nat} {a b : Nat} (x y : Nat) : w_hg g a b x = w_hg g a b y ↔ g x = g y ∨ (g x = g a ∨ g x = g b) ∧ (g y = g a ∨ g y = g b) := by
  unfold w_hg
  split <;> split <;> constructor <;> intro _ <;> omega
theorem w_ro_m {g : Nat → Nat} {a b : Nat} (h : g a ≠ g b) : w_ro G R (w_hg g a b) (min (g a) (g b)) = w_ro G R g (g a) + w_ro G R g (g b) := by
  unfold w_ro
  rw [← fb_ct_or]
  · refine fb_ct_cong fun k _ => ?_
    by_cases c : g k = g a ∨ g k = g b
    · rw [decide_eq_true ((w_hg_m h k).mpr c)]
      rcases c with c | c
      · rw [decide_eq_true c, decide_eq_false (show ¬ g k = g b from fun z => h (c.symm.trans z))]
        cases w_op G k <;> rfl
      · rw [decide_eq_true c, decide_eq_false (show ¬ g k = g a from fun z => h (z.symm.trans c))]
        cases w_op G k <;> rfl
    · rw [decide_eq_false (fun z => c ((w_hg_m h k).mp z)), decide_eq_false (fun z => c (Or.inl z)), decide_eq_false (fun z => c (Or.inr z))]
      cases w_op G k <;> rfl
  · intro k _ ⟨z1, z2⟩
    rw [Bool.and_eq_true] at z1 z2
    exact h ((of_decide_eq_true z1.2).symm.trans (of_decide_eq_true z2.2))
theorem w_ro_M {g : Nat → Nat} {a b : Nat} (h : g a ≠ g b) : w_ro G R (w_hg g a b) (max (g a) (g b)) = 0 := by
  unfold w_ro
  refine fb_ct_zero.mpr fun k _ => ?_
  rw [decide_eq_false (w_hg_M h k), Bool.and_false]
theorem w_ro_n {g : Nat → Nat} {a b x : Nat} (h1 : x ≠ g a) (h2 : x ≠ g b) : w_ro G R (w_hg g a b) x = w_ro G R g x := by
  unfold w_ro
  refine fb_ct_cong fun k _ => ?_
  rw [decide_eq_decide.mpr (w_hg_n h1 h2 k)]
theorem w_lo_m {g : Nat → Nat} {a b : Nat} (h : g a ≠ g b) : ∀ l : List Nat, w_lo G (w_hg g a b) l (min (g a) (g b)) = w_lo G g l (g a) + w_lo G g l (g b)
  | [] => rfl
  | j :: l => by
    have ih := w_lo_m h l
    unfold w_lo at ih ⊢
    rw [List.countP_cons, List.countP_cons, List.countP_cons, ih]
    cases w_an G j with
    | false => simp only [Bool.false_and, Bool.false_eq_true, if_false]; omega
    | true =>
      simp only [Bool.true_and, decide_eq_true_eq]
      have hm := w_hg_m h (w_r1 G j)
      by_cases c1 : g (w_r1 G j) = g a
      · rw [if_pos (hm.mpr (Or.inl c1)), if_pos c1, if_neg (fun z => h (c1.symm.trans z))]; omega
      · by_cases c2 : g (w_r1 G j) = g b
        · rw [if_pos (hm.mpr (Or.inr c2)), if_neg c1, if_pos c2]; omega
        · rw [if_neg (fun z => (hm.mp z).elim c1 c2), if_neg c1, if_neg c2]; rfl
theorem w_lo_M {g : Nat → Nat} {a b : Nat} (h : g a ≠ g b) (l : List Nat) : w_lo G (w_hg g a b) l (max (g a) (g b)) = 0 := by
  unfold w_lo
  rw [List.countP_eq_zero]
  intro j _
  rw [decide_eq_false (w_hg_M h _), Bool.and_false]
  decide
theorem w_lo_n {g : Nat → Nat} {a b x : Nat} (h1 : x ≠ g a) (h2 : x ≠ g b) (l : List Nat) : w_lo G (w_hg g a b) l x = w_lo G g l x := by
  unfold w_lo
  refine List.countP_congr fun j _ => ?_
  rw [decide_eq_decide.mpr (w_hg_n h1 h2 (w_r1 G j))]
theorem w_lo_c {g : Nat → Nat} {k : Nat} (l : List Nat) (x : Nat) (h : w_an G k = true) : w_lo G g (k :: l) x = w_lo G g l x + if g (w_r1 G k) = x then 1 else 0 := by
  unfold w_lo
  rw [List.countP_cons, h]
  simp only [Bool.true_and, decide_eq_true_eq]
theorem w_lo_c0 {g : Nat → Nat} {k : Nat} (l : List Nat) (x : Nat) (h : ¬ w_an G k = true) : w_lo G g (k :: l) x = w_lo G g l x := by
  unfold w_lo
  rw [List.countP_cons, if_neg (fun z => by rw [Bool.and_eq_true] at z; exact h z.1)]
  rfl
end BA
