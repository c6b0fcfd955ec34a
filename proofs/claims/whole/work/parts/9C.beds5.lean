/-! BEDS: rooms of a crowd. -/
section BE
variable {G : w_G} {R L : Nat}
/-- his open rooms -/
def w_rs (G : w_G) (k : Nat) : Nat := q_cl (2 ^ w_f G k ||| 2 ^ w_o G k) G.1
theorem w_rs_bit {k x : Nat} : (w_rs G k).testBit x = true ↔ (x = w_f G k ∨ x = w_o G k) ∧ w_op G x = true := by
  unfold w_rs w_op
  rw [q_cl_bit, Bool.and_eq_true, Nat.testBit_or, Bool.or_eq_true, Nat.testBit_two_pow, Nat.testBit_two_pow, decide_eq_true_eq, decide_eq_true_eq]
  constructor
  · intro ⟨z1, z2⟩
    refine ⟨?_, z2⟩
    rcases z1 with z | z
    · exact Or.inl z.symm
    · exact Or.inr z.symm
  · intro ⟨z1, z2⟩
    refine ⟨?_, z2⟩
    rcases z1 with z | z
    · exact Or.inl z.symm
    · exact Or.inr z.symm
theorem w_rs_r {k x : Nat} (h : (w_rs G k).testBit x = true) : w_an G k = true ∧ (x = w_r1 G k ∨ x = w_r2 G k) := by
  obtain ⟨h1, h2⟩ := w_rs_bit.mp h
  unfold w_an w_r1 w_r2
  rcases h1 with z | z
  · rw [z] at h2
    rw [h2]
    exact ⟨rfl, Or.inl (by rw [if_pos rfl]; exact z)⟩
  · rw [z] at h2
    rw [h2]
    exact ⟨by rw [Bool.or_true], Or.inr (by rw [if_pos rfl]; exact z)⟩
theorem w_rs_r1 {k : Nat} (h : w_an G k = true) : (w_rs G k).testBit (w_r1 G k) = true := by
  refine w_rs_bit.mpr ⟨?_, w_r1_op h⟩
  unfold w_r1
  split
  · exact Or.inl rfl
  · exact Or.inr rfl
theorem w_rs_r2 {k : Nat} (h : w_an G k = true) : (w_rs G k).testBit (w_r2 G k) = true := by
  refine w_rs_bit.mpr ⟨?_, w_r2_op h⟩
  unfold w_r2
  split
  · exact Or.inr rfl
  · exact Or.inl rfl
theorem w_rs_lt {k n : Nat} (h : w_f G k < n ∧ w_o G k < n) : w_rs G k < 2 ^ n := q_cl_lt (Nat.or_lt_two_pow (Nat.pow_lt_pow_right (by decide) h.1) (Nat.pow_lt_pow_right (by decide) h.2))
/-- how many of them have a room; the rooms that they have -/
def w_ct (G : w_G) (l : List Nat) (x : Nat) : Nat := l.countP (fun k => (w_rs G k).testBit x)
def w_ru (G : w_G) : List Nat → Nat
  | [] => 0
  | k :: l => w_ru G l ||| w_rs G k
theorem w_ct_c (k : Nat) (l : List Nat) (x : Nat) : w_ct G (k :: l) x = w_ct G l x + if (w_rs G k).testBit x then 1 else 0 := by
  unfold w_ct
  rw [List.countP_cons]
theorem w_ct_perm {l l' : List Nat} (h : List.Perm l l') (x : Nat) : w_ct G l x = w_ct G l' x := h.countP_eq _
theorem w_ct_app (l l' : List Nat) (x : Nat) : w_ct G (l ++ l') x = w_ct G l x + w_ct G l' x := by
  unfold w_ct
  rw [List.countP_append]
theorem w_ru_bit (x : Nat) : ∀ l, (w_ru G l).testBit x = true ↔ 0 < w_ct G l x
  | [] => by
    rw [w_ru, Nat.zero_testBit]
    exact ⟨fun z => (by cases z), fun z => absurd z (Nat.lt_irrefl 0)⟩
  | k :: l => by
    rw [w_ru, Nat.testBit_or, Bool.or_eq_true, w_ru_bit x l, w_ct_c]
    constructor
    · intro z
      rcases z with z | z
      · omega
      · rw [if_pos z]; omega
    · intro z
      by_cases c : (w_rs G k).testBit x = true
      · exact Or.inr c
      · rw [if_neg c] at z; exact Or.inl (by omega)
theorem w_ru_lt {n : Nat} : ∀ l : List Nat, (∀ k, k ∈ l → w_f G k < n ∧ w_o G k < n) → w_ru G l < 2 ^ n
  | [], _ => Nat.two_pow_pos _
  | k :: l, h => Nat.or_lt_two_pow (w_ru_lt l fun j hj => h j (List.mem_cons_of_mem _ hj)) (w_rs_lt (h k List.mem_cons_self))
theorem w_F_nil {x : Nat} (hx : x < R) (ox : w_op G x = true) : ¬ w_F G R [] x := by
  unfold w_F w_ro w_lo
  have : 0 < fb_ct (fun y => w_op G y && decide (w_lb G [] y = w_lb G [] x)) R := fb_ct_pos.mpr ⟨x, hx, by rw [ox, decide_eq_true rfl]; rfl⟩
  have e : List.countP (fun k => w_an G k && decide (w_lb G [] (w_r1 G k) = w_lb G [] x)) [] = 0 := rfl
  omega
/-- a room that nobody has hangs with none -/
theorem w_alone {x : Nat} (hx : x < R) (ox : w_op G x = true) : ∀ l : List Nat, w_ct G l x = 0 → (∀ y, w_lb G l y = w_lb G l x → y = x) ∧ ¬ w_F G R l x
  | [], _ => ⟨fun y z => z, w_F_nil hx ox⟩
  | k :: l, h => by
    rw [w_ct_c] at h
    have ih := w_alone hx ox l (by omega)
    have hk : ¬ (w_rs G k).testBit x = true := fun z => by rw [if_pos z] at h; omega
    by_cases c : w_an G k = true
    · have n1 : w_lb G l x ≠ w_lb G l (w_r1 G k) := fun z => hk (by rw [← ih.1 _ z.symm]; exact w_rs_r1 c)
      have n2 : w_lb G l x ≠ w_lb G l (w_r2 G k) := fun z => hk (by rw [← ih.1 _ z.symm]; exact w_rs_r2 c)
      refine ⟨fun y z => ?_, fun z => ih.2 ((w_F_n c n1 n2).mp z)⟩
      rw [w_lb, if_pos c] at z
      rcases (w_hg_s y x).mp z with w | ⟨_, w⟩
      · exact ih.1 y w
      · rcases w with w | w
        · exact absurd w n1
        · exact absurd w n2
    · refine ⟨fun y z => ?_, fun z => ih.2 ((w_F_0 c x).mp z)⟩
      rw [w_lb, if_neg c] at z
      exact ih.1 y z
theorem w_dbl {p : Nat → Bool} {g : Nat → Nat} : ∀ n, (∀ x, x < n → g x < R) → fb_sm (fun h => fb_ct (fun x => p x && decide (g x = h)) n) R = fb_ct p n
  | 0, _ => by
    show fb_sm (fun _ => 0) R = 0
    rw [fb_sm_const, Nat.mul_zero]
  | n + 1, h => by
    have ih := w_dbl (p := p) n fun x hx => h x (by omega)
    rw [fb_ct_succ, ← ih]
    have e : (fun h => fb_ct (fun x => p x && decide (g x = h)) (n + 1)) = fun h => fb_ct (fun x => p x && decide (g x = h)) n + (if h = g n then (if p n then 1 else 0) else 0) := by
      funext y
      rw [fb_ct_succ]
      congr 1
      by_cases c : y = g n
      · rw [if_pos c, decide_eq_true c.symm, Bool.and_true]
      · rw [if_neg c, decide_eq_false (fun z => c z.symm), Bool.and_false, if_neg (by decide)]
    rw [e, fb_sm_add]
    have u := fb_sm_upd (fun _ => 0) (if p n then 1 else 0) (i := g n) (n := R) (h n (by omega))
    rw [fb_sm_const, Nat.mul_zero] at u
    omega
theorem w_lb_lt (l : List Nat) {x : Nat} (h : x < R) : w_lb G l x < R := Nat.lt_of_le_of_lt (w_lb_le l x) h
/-- so many rooms are full -/
theorem w_full_ct (l : List Nat) : fb_ct (fun x => w_op G x && decide (w_ro G R (w_lb G l) (w_lb G l x) ≤ w_lo G (w_lb G l) l (w_lb G l x))) R ≤ w_T G R l := by
  rw [← w_dbl (R := R) (g := w_lb G l) R fun x hx => w_lb_lt l hx]
  unfold w_T
  refine fb_sm_le fun h _ => ?_
  by_cases c : w_ro G R (w_lb G l) h ≤ w_lo G (w_lb G l) l h
  · rw [Nat.min_eq_left c]
    unfold w_ro
    refine fb_ct_sub fun x _ z => ?_
    rw [Bool.and_eq_true, Bool.and_eq_true] at z
    rw [Bool.and_eq_true]
    exact ⟨z.1.1, z.2⟩
  · have : fb_ct (fun x => (w_op G x && decide (w_ro G R (w_lb G l) (w_lb G l x) ≤ w_lo G (w_lb G l) l (w_lb G l x))) && decide (w_lb G l x = h)) R = 0 := fb_ct_zero.mpr fun x _ => by
      by_cases e : w_lb G l x = h
      · rw [e, decide_eq_false c, Bool.and_false, Bool.false_and]
      · rw [decide_eq_false e, Bool.and_false]
    omega
/-- no more sleep than there are rooms -/
theorem w_T_ru (l : List Nat) : w_T G R l ≤ fb_ct (fun x => (w_ru G l).testBit x) R := by
  rw [← w_dbl (R := R) (g := w_lb G l) R fun x hx => w_lb_lt l hx]
  unfold w_T
  refine fb_sm_le fun h _ => ?_
  by_cases c : w_lo G (w_lb G l) l h = 0
  · rw [c, Nat.min_zero]; exact Nat.zero_le _
  · refine Nat.le_trans (Nat.min_le_left _ _) ?_
    have hc : 0 < w_lo G (w_lb G l) l h := by omega
    unfold w_lo at hc
    rw [List.countP_pos_iff] at hc
    obtain ⟨j, hj, hj2⟩ := hc
    rw [Bool.and_eq_true, decide_eq_true_eq] at hj2
    unfold w_ro
    refine fb_ct_sub fun x hx z => ?_
    rw [Bool.and_eq_true, decide_eq_true_eq] at z
    rw [Bool.and_eq_true, decide_eq_true_eq, w_ru_bit]
    refine ⟨?_, z.2⟩
    apply Classical.byContradiction
    intro w
    have a := (w_alone hx z.1 l (by omega)).1 (w_r1 G j) (hj2.2.trans z.2.symm)
    have b : 0 < w_ct G l x := List.countP_pos_iff.mpr ⟨j, hj, by rw [← a]; exact w_rs_r1 hj2.1⟩
    exact w b
/-- the others of a set -/
def w_wo (K : List Nat) (k : Nat) : List Nat := K.filter (fun x => decide (x ≠ k))
theorem w_wo_nd {K : List Nat} {k : Nat} (h : K.Nodup) : (w_wo K k).Nodup := List.Pairwise.filter _ h
theorem w_wo_mem {K : List Nat} {k x : Nat} : x ∈ w_wo K k ↔ x ∈ K ∧ x ≠ k := by
  unfold w_wo
  rw [List.mem_filter, decide_eq_true_eq]
theorem w_wo_p {K : List Nat} {k : Nat} (h : K.Nodup) (hk : k ∈ K) : List.Perm K (k :: w_wo K k) := by
  rw [List.perm_ext_iff_of_nodup h (List.nodup_cons.mpr ⟨fun z => (w_wo_mem.mp z).2 rfl, w_wo_nd h⟩)]
  intro a
  rw [List.mem_cons, w_wo_mem]
  constructor
  · intro z
    by_cases c : a = k
    · exact Or.inl c
    · exact Or.inr ⟨z, c⟩
  · intro z
    rcases z with z | z
    · rw [z]; exact hk
    · exact z.1
/-- a crowd of which none can be left out -/
def w_ci (G : w_G) (R L : Nat) (K : List Nat) : Prop := K.Nodup ∧ (∀ k, k ∈ K → k < L) ∧ (∀ k, k ∈ K → ¬ w_ac G R k (w_wo K k)) ∧ w_T G R K < K.length
theorem w_ci_of {K : List Nat} (hO : w_Ok G R L) (hn : K.Nodup) (hl : ∀ k, k ∈ K → k < L) (hd : w_T G R K < K.length) (hm : ∀ c : List Nat, c.Nodup → (∀ x, x ∈ c → x ∈ K) → c.length < K.length → w_in G R c) : w_ci G R L K := by
  refine ⟨hn, hl, fun k hk z => ?_, hd⟩
  have p := w_wo_p hn hk
  have e := p.length_eq
  rw [List.length_cons] at e
  have i := hm (w_wo K k) (w_wo_nd hn) (fun x hx => (w_wo_mem.mp hx).1) (by omega)
  have c := (w_T_c (w_ok_perm (fun j hj => hO j (hl j hj)) p)).1 z
  rw [← w_T_perm p] at c
  unfold w_in at i
  omega
theorem w_ci.F {K : List Nat} {k x : Nat} (h : w_ci G R L K) (hk : k ∈ K) (hx : (w_rs G k).testBit x = true) : w_F G R (w_wo K k) x ∧ w_F G R K x := by
  obtain ⟨r1, r2⟩ := w_rs_r hx
  have f : w_F G R (w_wo K k) (w_r1 G k) ∧ w_F G R (w_wo K k) (w_r2 G k) := by
    apply Classical.byContradiction
    intro z
    exact h.2.2.1 k hk ⟨r1, z⟩
  have g : w_F G R (w_wo K k) x := by
    rcases r2 with z | z
    · rw [z]; exact f.1
    · rw [z]; exact f.2
  exact ⟨g, (w_F_perm (w_wo_p h.1 hk) x).mpr (w_F_mono g)⟩
theorem w_ci.two {K : List Nat} {x : Nat} (hO : w_Ok G R L) (h : w_ci G R L K) (hx : 0 < w_ct G K x) : 2 ≤ w_ct G K x := by
  apply Classical.byContradiction
  intro c
  obtain ⟨k, hk, hk2⟩ := List.countP_pos_iff.mp hx
  have p := w_wo_p h.1 hk
  have e := w_ct_perm (G := G) p x
  rw [w_ct_c, if_pos hk2] at e
  have b := w_rs_bit.mp hk2
  have o := hO k (h.2.1 k hk)
  have hR : x < R := by rcases b.1 with z | z <;> omega
  exact (w_alone hR b.2 (w_wo K k) (by omega)).2 (h.F hk hk2).1
theorem w_ci.pc {K : List Nat} (hO : w_Ok G R L) (hR : R ≤ 16) (h : w_ci G R L K) : q_pc (w_ru G K) < K.length := by
  have hl := w_ru_lt (n := R) K fun k hk => hO k (h.2.1 k hk)
  rw [w_pc hR hl, w_sl_len]
  refine Nat.lt_of_le_of_lt (Nat.le_trans (fb_ct_sub fun x hx z => ?_) (w_full_ct K)) h.2.2.2
  rw [w_ru_bit] at z
  obtain ⟨k, hk, hk2⟩ := List.countP_pos_iff.mp z
  rw [Bool.and_eq_true, decide_eq_true_eq]
  exact ⟨(w_rs_bit.mp hk2).2, (h.F hk hk2).2⟩
theorem w_pc_or (a b : Nat) : q_pc (a ||| b) ≤ q_pc a + q_pc b := by
  unfold q_pc
  generalize 16 = n
  induction n with
  | zero => exact Nat.le_refl _
  | succ n ih =>
    rw [fb_ct_succ, fb_ct_succ, fb_ct_succ, Nat.testBit_or]
    cases a.testBit n <;> cases b.testBit n <;> simp only [Bool.or_true, Bool.or_false, Bool.false_eq_true, if_true, if_false] <;> omega
theorem w_pc_sub {a b : Nat} (h : ∀ x, a.testBit x = true → b.testBit x = true) : q_pc a ≤ q_pc b := fb_ct_sub fun x _ z => h x z
theorem w_pc_p {k : Nat} : q_pc (2 ^ k) ≤ 1 := by
  unfold q_pc
  have h1 : fb_ct (fun i => (2 ^ k).testBit i) 16 = fb_ct (fun i => true && decide (i = k)) 16 := fb_ct_cong fun i _ => by
    rw [Nat.testBit_two_pow, Bool.true_and]
    exact decide_eq_decide.mpr ⟨fun z => z.symm, fun z => z.symm⟩
  rw [h1]
  exact w_ct1 16
theorem w_pc_rs (k : Nat) : q_pc (w_rs G k) ≤ 2 := by
  have h1 : q_pc (w_rs G k) ≤ q_pc (2 ^ w_f G k ||| 2 ^ w_o G k) := w_pc_sub fun x z => by
    unfold w_rs at z
    rw [q_cl_bit, Bool.and_eq_true] at z
    exact z.1
  have h2 := w_pc_or (2 ^ w_f G k) (2 ^ w_o G k)
  have h3 := w_pc_p (k := w_f G k)
  have h4 := w_pc_p (k := w_o G k)
  omega
theorem w_pc_ru : ∀ l : List Nat, q_pc (w_ru G l) ≤ 2 * l.length
  | [] => Nat.le_of_eq (fb_ct_zero.mpr fun k _ => Nat.zero_testBit k)
  | k :: l => by
    have h1 := w_pc_ru l
    have h2 := w_pc_rs (G := G) k
    have h3 := w_pc_or (w_ru G l) (w_rs G k)
    rw [w_ru, List.length_cons]
    omega
end BE
