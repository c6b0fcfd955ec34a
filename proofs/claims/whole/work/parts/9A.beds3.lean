/-! BEDS: the class's way, heaps with a root each. -/
section BC
variable {G : w_G} {R : Nat}
/-- roots, and whether the heap of a root is full -/
abbrev w_U : Type := (Nat → Nat) × (Nat → Nat)
def w_ab (G : w_G) (U : w_U) (k : Nat) : Bool := w_an G k && (decide (U.2 (U.1 (w_r1 G k)) = 0) || decide (U.2 (U.1 (w_r2 G k)) = 0))
def w_bo (G : w_G) (k : Nat) : Bool := w_op G (w_f G k) && w_op G (w_o G k)
def w_st (G : w_G) (U : w_U) (k : Nat) : w_U :=
  if w_ab G U k then (if U.1 (w_r1 G k) = U.1 (w_r2 G k) then (U.1, q_u U.2 (U.1 (w_r1 G k)) (if w_bo G k then 2 else 1)) else (fun x => if U.1 x = U.1 (w_r2 G k) then U.1 (w_r1 G k) else U.1 x, q_u U.2 (U.1 (w_r1 G k)) (max (U.2 (U.1 (w_r1 G k))) (U.2 (U.1 (w_r2 G k)))))) else U
def w_Us (G : w_G) : List Nat → w_U
  | [] => (fun x => x, fun _ => 0)
  | k :: l => w_st G (w_Us G l) k
def w_UI (G : w_G) (R : Nat) (l : List Nat) (U : w_U) : Prop :=
  (∀ x, U.1 (U.1 x) = U.1 x) ∧ (∀ x y, x < R → y < R → w_op G x = true → w_op G y = true → U.1 x = U.1 y → w_lb G l x = w_lb G l y) ∧ (∀ x y, x < R → y < R → w_op G x = true → w_op G y = true → w_lb G l x = w_lb G l y → U.1 x = U.1 y ∨ w_F G R l x) ∧ ∀ x, x < R → w_op G x = true → (w_F G R l x ↔ U.2 (U.1 x) ≠ 0)
theorem w_st_t {U : w_U} {k : Nat} (h : w_ab G U k = true) : ∃ v, w_st G U k = (fun x => if U.1 x = U.1 (w_r2 G k) then U.1 (w_r1 G k) else U.1 x, q_u U.2 (U.1 (w_r1 G k)) v) ∧ (v ≠ 0 ↔ U.1 (w_r1 G k) = U.1 (w_r2 G k) ∨ U.2 (U.1 (w_r1 G k)) ≠ 0 ∨ U.2 (U.1 (w_r2 G k)) ≠ 0) := by
  unfold w_st
  rw [if_pos h]
  by_cases c : U.1 (w_r1 G k) = U.1 (w_r2 G k)
  · refine ⟨if w_bo G k then 2 else 1, ?_, ⟨fun _ => Or.inl c, fun _ => by split <;> omega⟩⟩
    rw [if_pos c]
    congr 1
    funext x
    split
    · rename_i z; rw [z, c]
    · rfl
  · refine ⟨max (U.2 (U.1 (w_r1 G k))) (U.2 (U.1 (w_r2 G k))), ?_, ⟨fun _ => by omega, fun z => ?_⟩⟩
    · rw [if_neg c]
    · rcases z with z | z | z
      · exact absurd z c
      · omega
      · omega
theorem w_st_f {U : w_U} {k : Nat} (h : ¬ w_ab G U k = true) : w_st G U k = U := by
  unfold w_st
  rw [if_neg h]
theorem w_UI.ac {U : w_U} {k : Nat} {l : List Nat} (h : w_UI G R l U) (hk : w_ok G R (k :: l)) : w_ab G U k = true ↔ w_ac G R k l := by
  unfold w_ab w_ac
  rw [Bool.and_eq_true, Bool.or_eq_true, decide_eq_true_eq, decide_eq_true_eq]
  constructor
  · intro ⟨z1, z2⟩
    refine ⟨z1, fun ⟨f1, f2⟩ => ?_⟩
    have a1 := (h.2.2.2 _ hk.r.1 (w_r1_op z1)).mp f1
    have a2 := (h.2.2.2 _ hk.r.2 (w_r2_op z1)).mp f2
    rcases z2 with z2 | z2
    · exact a1 z2
    · exact a2 z2
  · intro ⟨z1, z2⟩
    refine ⟨z1, ?_⟩
    by_cases c : U.2 (U.1 (w_r1 G k)) = 0
    · exact Or.inl c
    · right
      apply Classical.byContradiction
      intro c2
      exact z2 ⟨(h.2.2.2 _ hk.r.1 (w_r1_op z1)).mpr c, (h.2.2.2 _ hk.r.2 (w_r2_op z1)).mpr c2⟩
theorem w_UI.step {U : w_U} {k : Nat} {l : List Nat} (h : w_UI G R l U) (hk : w_ok G R (k :: l)) : w_UI G R (k :: l) (w_st G U k) := by
  have hac := h.ac hk
  obtain ⟨h0, h1, h2, h3⟩ := h
  by_cases c : w_an G k = true
  · have hr := hk.r
    have o1 := w_r1_op c
    have o2 := w_r2_op c
    have hl : ∀ x y, w_lb G (k :: l) x = w_lb G (k :: l) y ↔ w_lb G l x = w_lb G l y ∨ (w_lb G l x = w_lb G l (w_r1 G k) ∨ w_lb G l x = w_lb G l (w_r2 G k)) ∧ (w_lb G l y = w_lb G l (w_r1 G k) ∨ w_lb G l y = w_lb G l (w_r2 G k)) := fun x y => by
      rw [w_lb, if_pos c]; exact w_hg_s x y
    by_cases c2 : w_ab G U k = true
    · obtain ⟨v, e, hv⟩ := w_st_t c2
      rw [e]
      have a1 : ∀ x, x < R → w_op G x = true → w_lb G l x = w_lb G l (w_r1 G k) → U.1 x = U.1 (w_r1 G k) ∨ w_F G R l x := fun x hx ho z => h2 x _ hx hr.1 ho o1 z
      have a2 : ∀ x, x < R → w_op G x = true → w_lb G l x = w_lb G l (w_r2 G k) → U.1 x = U.1 (w_r2 G k) ∨ w_F G R l x := fun x hx ho z => h2 x _ hx hr.2 ho o2 z
      have i1 := h3 _ hr.1 o1
      have i2 := h3 _ hr.2 o2
      have i3 := h1 _ _ hr.1 hr.2 o1 o2
      have i4 := h2 _ _ hr.1 hr.2 o1 o2
      have g1 := h0 (w_r1 G k)
      have hin : ∀ x, x < R → w_op G x = true → (w_lb G l x = w_lb G l (w_r1 G k) ∨ w_lb G l x = w_lb G l (w_r2 G k)) → ¬ w_F G R l x → U.1 x = U.1 (w_r1 G k) ∨ U.1 x = U.1 (w_r2 G k) := fun x hx ho z w => by
        rcases z with z | z
        · exact Or.inl ((a1 x hx ho z).resolve_right w)
        · exact Or.inr ((a2 x hx ho z).resolve_right w)
      have hout : ∀ x, x < R → w_op G x = true → (U.1 x = U.1 (w_r1 G k) ∨ U.1 x = U.1 (w_r2 G k)) → w_lb G l x = w_lb G l (w_r1 G k) ∨ w_lb G l x = w_lb G l (w_r2 G k) := fun x hx ho z => by
        rcases z with z | z
        · exact Or.inl (h1 _ _ hx hr.1 ho o1 z)
        · exact Or.inr (h1 _ _ hx hr.2 ho o2 z)
      refine ⟨fun x => ?_, fun x y hx hy ox oy z => ?_, fun x y hx hy ox oy z => ?_, fun x hx ox => ?_⟩
      · show (if U.1 (if U.1 x = U.1 (w_r2 G k) then U.1 (w_r1 G k) else U.1 x) = U.1 (w_r2 G k) then U.1 (w_r1 G k) else U.1 (if U.1 x = U.1 (w_r2 G k) then U.1 (w_r1 G k) else U.1 x)) = (if U.1 x = U.1 (w_r2 G k) then U.1 (w_r1 G k) else U.1 x)
        by_cases w : U.1 x = U.1 (w_r2 G k)
        · rw [if_pos w, g1, ite_self]
        · rw [if_neg w, h0 x, if_neg w]
      · have z' : (if U.1 x = U.1 (w_r2 G k) then U.1 (w_r1 G k) else U.1 x) = (if U.1 y = U.1 (w_r2 G k) then U.1 (w_r1 G k) else U.1 y) := z
        rw [hl]
        by_cases w : U.1 x = U.1 y
        · exact Or.inl (h1 _ _ hx hy ox oy w)
        · refine Or.inr ⟨hout x hx ox ?_, hout y hy oy ?_⟩
          · split at z' <;> split at z' <;> omega
          · split at z' <;> split at z' <;> omega
      · show (if U.1 x = U.1 (w_r2 G k) then U.1 (w_r1 G k) else U.1 x) = (if U.1 y = U.1 (w_r2 G k) then U.1 (w_r1 G k) else U.1 y) ∨ _
        by_cases f1 : w_F G R l x
        · exact Or.inr (w_F_mono f1)
        · by_cases f2 : w_F G R l y
          · exact Or.inr ((w_F_s z).mpr (w_F_mono f2))
          · left
            rcases (hl x y).mp z with w | ⟨w1, w2⟩
            · rw [(h2 _ _ hx hy ox oy w).resolve_right f1]
            · have b1 := hin x hx ox w1 f1
              have b2 := hin y hy oy w2 f2
              split <;> split <;> omega
      · show _ ↔ q_u U.2 (U.1 (w_r1 G k)) v (if U.1 x = U.1 (w_r2 G k) then U.1 (w_r1 G k) else U.1 x) ≠ 0
        by_cases w : U.1 x = U.1 (w_r1 G k) ∨ U.1 x = U.1 (w_r2 G k)
        · have e2 : (if U.1 x = U.1 (w_r2 G k) then U.1 (w_r1 G k) else U.1 x) = U.1 (w_r1 G k) := by
            split
            · rfl
            · omega
          rw [e2, q_us, hv, w_F_y c (hout x hx ox w), i1, i2]
          constructor
          · intro z
            rcases z with z | z | z
            · rcases i4 z with q | q
              · exact Or.inl q
              · exact Or.inr (Or.inl (i1.mp q))
            · exact Or.inr (Or.inl z)
            · exact Or.inr (Or.inr z)
          · intro z
            rcases z with z | z | z
            · exact Or.inl (i3 z)
            · exact Or.inr (Or.inl z)
            · exact Or.inr (Or.inr z)
        · have w1 : ¬ U.1 x = U.1 (w_r1 G k) := fun q => w (Or.inl q)
          have w2 : ¬ U.1 x = U.1 (w_r2 G k) := fun q => w (Or.inr q)
          rw [if_neg w2, q_un w1, ← h3 x hx ox]
          constructor
          · intro z
            by_cases q : w_lb G l x = w_lb G l (w_r1 G k) ∨ w_lb G l x = w_lb G l (w_r2 G k)
            · apply Classical.byContradiction
              intro f
              exact w (hin x hx ox q f)
            · exact (w_F_n c (fun q1 => q (Or.inl q1)) (fun q1 => q (Or.inr q1))).mp z
          · exact w_F_mono
    · rw [w_st_f c2]
      have hf : w_F G R l (w_r1 G k) ∧ w_F G R l (w_r2 G k) := by
        apply Classical.byContradiction
        intro q
        exact c2 (hac.mpr ⟨c, q⟩)
      have hin : ∀ x, (w_lb G l x = w_lb G l (w_r1 G k) ∨ w_lb G l x = w_lb G l (w_r2 G k)) → w_F G R l x := fun x z => by
        rcases z with z | z
        · exact (w_F_s z).mpr hf.1
        · exact (w_F_s z).mpr hf.2
      refine ⟨h0, fun x y hx hy ox oy z => (hl x y).mpr (Or.inl (h1 _ _ hx hy ox oy z)), fun x y hx hy ox oy z => ?_, fun x hx ox => ?_⟩
      · rcases (hl x y).mp z with w | ⟨w1, w2⟩
        · rcases h2 _ _ hx hy ox oy w with q | q
          · exact Or.inl q
          · exact Or.inr (w_F_mono q)
        · exact Or.inr (w_F_mono (hin x w1))
      · rw [← h3 x hx ox]
        constructor
        · intro z
          by_cases q : w_lb G l x = w_lb G l (w_r1 G k) ∨ w_lb G l x = w_lb G l (w_r2 G k)
          · exact hin x q
          · exact (w_F_n c (fun q1 => q (Or.inl q1)) (fun q1 => q (Or.inr q1))).mp z
        · exact w_F_mono
  · have c2 : ¬ w_ab G U k = true := fun z => by
      unfold w_ab at z
      rw [Bool.and_eq_true] at z
      exact c z.1
    have e : w_lb G (k :: l) = w_lb G l := by rw [w_lb, if_neg c]
    rw [w_st_f c2]
    refine ⟨h0, fun x y hx hy ox oy z => by rw [e]; exact h1 _ _ hx hy ox oy z, fun x y hx hy ox oy z => ?_, fun x hx ox => ?_⟩
    · rw [e] at z
      rw [w_F_0 c]
      exact h2 _ _ hx hy ox oy z
    · rw [w_F_0 c]
      exact h3 x hx ox
theorem w_UI_all : ∀ l, w_ok G R l → w_UI G R l (w_Us G l)
  | [], _ => by
    refine ⟨fun x => rfl, fun x y _ _ _ _ z => z, fun x y _ _ _ _ z => Or.inl z, fun x hx ox => ⟨fun z => absurd z ?_, fun z => absurd rfl z⟩⟩
    unfold w_F w_ro w_lo
    have : 0 < fb_ct (fun y => w_op G y && decide (w_lb G [] y = w_lb G [] x)) R := fb_ct_pos.mpr ⟨x, hx, by rw [ox, decide_eq_true rfl]; rfl⟩
    have e : List.countP (fun k => w_an G k && decide (w_lb G [] (w_r1 G k) = w_lb G [] x)) [] = 0 := rfl
    omega
  | k :: l, h => (w_UI_all l h.t).step h
/-- those for whom no bed is left -/
def w_lv (G : w_G) : List Nat → List Nat
  | [] => []
  | k :: l => if w_ab G (w_Us G l) k then w_lv G l else k :: w_lv G l
/-- the others -/
def w_av (G : w_G) : List Nat → List Nat
  | [] => []
  | k :: l => if w_ab G (w_Us G l) k then k :: w_av G l else w_av G l
theorem w_av_lv : ∀ l, List.Perm l (w_lv G l ++ w_av G l)
  | [] => List.Perm.refl _
  | k :: l => by
    have ih := w_av_lv l
    rw [w_lv, w_av]
    split
    · exact (List.Perm.cons k ih).trans List.perm_middle.symm
    · exact List.Perm.cons k ih
theorem w_ok_perm {l l' : List Nat} (h : w_ok G R l) (p : List.Perm l l') : w_ok G R l' := fun k hk => h k (p.mem_iff.mpr hk)
theorem w_ok_app {l l' : List Nat} (h : w_ok G R (l ++ l')) : w_ok G R l' := fun k hk => h k (List.mem_append_right _ hk)
theorem w_ac_app {k : Nat} {l : List Nat} : ∀ e : List Nat, w_ac G R k (e ++ l) → w_ac G R k l
  | [], h => h
  | m :: e, h => w_ac_app e (w_ac_mono h)
theorem w_T_app {l : List Nat} : ∀ e : List Nat, w_ok G R (e ++ l) → w_T G R l ≤ w_T G R (e ++ l) ∧ w_T G R (e ++ l) ≤ w_T G R l + e.length
  | [], _ => ⟨Nat.le_refl _, Nat.le_refl _⟩
  | m :: e, h => by
    have ih := w_T_app e h.t
    have hc := w_T_c (l := e ++ l) h
    rw [List.length_cons, List.cons_append]
    by_cases c : w_ac G R m (e ++ l)
    · have := hc.1 c; omega
    · have := hc.2 c; omega
theorem w_T_nil : w_T G R [] = 0 := by
  unfold w_T
  have : fb_sm (fun h => min (w_ro G R (w_lb G []) h) (w_lo G (w_lb G []) [] h)) R ≤ fb_sm (fun _ => 0) R := fb_sm_le fun k _ => Nat.le_trans (Nat.min_le_right _ _) (Nat.le_refl 0)
  rw [fb_sm_const] at this
  omega
theorem w_T_len {l : List Nat} (h : w_ok G R l) : w_T G R l ≤ l.length := by
  have := w_T_app (l := []) l (by rw [List.append_nil]; exact h)
  rw [List.append_nil, w_T_nil] at this
  omega
theorem w_T_av : ∀ l, w_ok G R l → w_T G R l = (w_av G l).length ∧ w_T G R (w_av G l) = (w_av G l).length
  | [], _ => ⟨w_T_nil, w_T_nil⟩
  | k :: l, h => by
    have ih := w_T_av l h.t
    have hp := w_av_lv (G := G) l
    have hac := (w_UI_all l h.t).ac h
    have hc := w_T_c h
    rw [w_av]
    by_cases c : w_ab G (w_Us G l) k = true
    · rw [if_pos c, List.length_cons, hc.1 (hac.mp c), ih.1]
      refine ⟨rfl, ?_⟩
      have c1 : w_ac G R k (w_av G l) := w_ac_app _ ((w_ac_perm hp).mp (hac.mp c))
      have c2 : w_ok G R (k :: w_av G l) := fun j hj => by
        rcases List.mem_cons.mp hj with z | z
        · rw [z]; exact h k List.mem_cons_self
        · exact h j (List.mem_cons_of_mem _ (hp.mem_iff.mpr (List.mem_append_right _ z)))
      rw [(w_T_c c2).1 c1, ih.2]
    · rw [if_neg c, hc.2 (fun z => c (hac.mpr z))]
      exact ih
end BC
