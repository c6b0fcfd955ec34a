/-! BEDS: one more lodger. -/
section BB
variable {G : w_G} {R : Nat}
theorem w_ct1 {p : Nat → Bool} {h : Nat} : ∀ n, fb_ct (fun x => p x && decide (x = h)) n ≤ 1 := by
  intro n
  have h1 : fb_ct (fun x => p x && decide (x = h)) n ≤ fb_ct (fun x => if x = h then true else false) n := fb_ct_sub fun k _ z => by
    rw [Bool.and_eq_true] at z
    rw [if_pos (of_decide_eq_true z.2)]
  by_cases c : h < n
  · have h2 := fb_ct_upd (fun _ => false) true c
    have h3 : fb_ct (fun _ => false) n = 0 := fb_ct_zero.mpr fun _ _ => rfl
    rw [h3] at h2
    simp only [Bool.false_eq_true, if_false, if_true] at h2
    omega
  · have h2 := fb_ct_out (fun _ => false) true (show n ≤ h by omega)
    have h3 : fb_ct (fun _ => false) n = 0 := fb_ct_zero.mpr fun _ _ => rfl
    rw [h3] at h2
    omega
theorem w_inv : ∀ (l : List Nat) (x : Nat), w_ro G R (w_lb G l) x ≤ w_lo G (w_lb G l) l x + 1
  | [], x => w_ct1 R
  | k :: l, x => by
    have ih := w_inv l
    rw [w_lb]
    by_cases c : w_an G k = true
    · rw [if_pos c, w_lo_c l x c]
      by_cases e : w_lb G l (w_r1 G k) = w_lb G l (w_r2 G k)
      · rw [w_hg_eq e]
        have := ih x
        omega
      · by_cases h1 : x = w_lb G l (w_r1 G k) ∨ x = w_lb G l (w_r2 G k)
        · by_cases h2 : x = min (w_lb G l (w_r1 G k)) (w_lb G l (w_r2 G k))
          · have a1 := ih (w_lb G l (w_r1 G k))
            have a2 := ih (w_lb G l (w_r2 G k))
            rw [h2, w_ro_m e, w_lo_m e, if_pos ((w_hg_m e _).mpr (Or.inl rfl))]
            omega
          · have h3 : x = max (w_lb G l (w_r1 G k)) (w_lb G l (w_r2 G k)) := by omega
            rw [h3, w_ro_M e]
            omega
        · rw [w_ro_n (fun z => h1 (Or.inl z)) (fun z => h1 (Or.inr z)), w_lo_n (fun z => h1 (Or.inl z)) (fun z => h1 (Or.inr z))]
          have := ih x
          omega
    · rw [if_neg c, w_lo_c0 l x c]
      exact ih x
theorem w_F_0 {k : Nat} {l : List Nat} (h : ¬ w_an G k = true) (x : Nat) : w_F G R (k :: l) x ↔ w_F G R l x := by
  unfold w_F
  rw [w_lb, if_neg h, w_lo_c0 l _ h]
/-- in the heap of one of his rooms -/
theorem w_F_y {k : Nat} {l : List Nat} (h : w_an G k = true) {x : Nat} (hx : w_lb G l x = w_lb G l (w_r1 G k) ∨ w_lb G l x = w_lb G l (w_r2 G k)) : w_F G R (k :: l) x ↔ w_lb G l (w_r1 G k) = w_lb G l (w_r2 G k) ∨ w_F G R l (w_r1 G k) ∨ w_F G R l (w_r2 G k) := by
  have ih := w_inv (G := G) (R := R) l
  unfold w_F
  rw [w_lb, if_pos h]
  by_cases e : w_lb G l (w_r1 G k) = w_lb G l (w_r2 G k)
  · rw [w_hg_eq e, w_lo_c l _ h]
    have hx' : w_lb G l x = w_lb G l (w_r1 G k) := by omega
    rw [hx', if_pos rfl]
    have := ih (w_lb G l (w_r1 G k))
    exact ⟨fun _ => Or.inl e, fun _ => this⟩
  · have a1 := ih (w_lb G l (w_r1 G k))
    have a2 := ih (w_lb G l (w_r2 G k))
    rw [(w_hg_m e x).mpr hx, w_ro_m e, w_lo_c l _ h, w_lo_m e, if_pos ((w_hg_m e _).mpr (Or.inl rfl))]
    constructor
    · intro z; omega
    · intro z; omega
theorem w_F_n {k : Nat} {l : List Nat} (h : w_an G k = true) {x : Nat} (h1 : w_lb G l x ≠ w_lb G l (w_r1 G k)) (h2 : w_lb G l x ≠ w_lb G l (w_r2 G k)) : w_F G R (k :: l) x ↔ w_F G R l x := by
  unfold w_F
  rw [w_lb, if_pos h]
  have e1 : w_hg (w_lb G l) (w_r1 G k) (w_r2 G k) x = w_lb G l x := (w_hg_n h1 h2 x).mpr rfl
  rw [e1, w_ro_n h1 h2, w_lo_c l _ h, w_lo_n h1 h2, if_neg (fun z => ?_)]
  · rw [Nat.add_zero]
  · have z2 := (w_hg_n h1 h2 (w_r1 G k)).mp z
    exact h1 z2.symm
theorem w_F_s {l : List Nat} {x y : Nat} (h : w_lb G l x = w_lb G l y) : w_F G R l x ↔ w_F G R l y := by
  unfold w_F
  rw [h]
theorem w_F_mono {k : Nat} {l : List Nat} {x : Nat} (h : w_F G R l x) : w_F G R (k :: l) x := by
  by_cases c : w_an G k = true
  · by_cases c1 : w_lb G l x = w_lb G l (w_r1 G k)
    · exact (w_F_y c (Or.inl c1)).mpr (Or.inr (Or.inl ((w_F_s c1).mp h)))
    · by_cases c2 : w_lb G l x = w_lb G l (w_r2 G k)
      · exact (w_F_y c (Or.inr c2)).mpr (Or.inr (Or.inr ((w_F_s c2).mp h)))
      · exact (w_F_n c c1 c2).mpr h
  · exact (w_F_0 c x).mpr h
/-- he finds a bed -/
def w_ac (G : w_G) (R k : Nat) (l : List Nat) : Prop := w_an G k = true ∧ ¬ (w_F G R l (w_r1 G k) ∧ w_F G R l (w_r2 G k))
theorem w_ac_perm {k : Nat} {l l' : List Nat} (h : List.Perm l l') : w_ac G R k l ↔ w_ac G R k l' := by
  unfold w_ac
  rw [w_F_perm h, w_F_perm h]
theorem w_ac_mono {k m : Nat} {l : List Nat} (h : w_ac G R k (m :: l)) : w_ac G R k l := ⟨h.1, fun z => h.2 ⟨w_F_mono z.1, w_F_mono z.2⟩⟩
theorem w_T_c {k : Nat} {l : List Nat} (hk : w_ok G R (k :: l)) : (w_ac G R k l → w_T G R (k :: l) = w_T G R l + 1) ∧ (¬ w_ac G R k l → w_T G R (k :: l) = w_T G R l) := by
  have ih := w_inv (G := G) (R := R) l
  by_cases h : w_an G k = true
  · have hr := hk.r
    have b1 := w_lb_le (G := G) l (w_r1 G k)
    have b2 := w_lb_le (G := G) l (w_r2 G k)
    have a1 := ih (w_lb G l (w_r1 G k))
    have a2 := ih (w_lb G l (w_r2 G k))
    have hac : w_ac G R k l ↔ ¬ (w_ro G R (w_lb G l) (w_lb G l (w_r1 G k)) ≤ w_lo G (w_lb G l) l (w_lb G l (w_r1 G k)) ∧ w_ro G R (w_lb G l) (w_lb G l (w_r2 G k)) ≤ w_lo G (w_lb G l) l (w_lb G l (w_r2 G k))) := ⟨fun z => z.2, fun z => ⟨h, z⟩⟩
    rw [hac]
    by_cases e : w_lb G l (w_r1 G k) = w_lb G l (w_r2 G k)
    · have hT : w_T G R (k :: l) = fb_sm (fun x => if x = w_lb G l (w_r1 G k) then min (w_ro G R (w_lb G l) (w_lb G l (w_r1 G k))) (w_lo G (w_lb G l) l (w_lb G l (w_r1 G k)) + 1) else min (w_ro G R (w_lb G l) x) (w_lo G (w_lb G l) l x)) R := by
        unfold w_T
        refine fb_sm_cong fun x _ => ?_
        rw [w_lb, if_pos h, w_hg_eq e, w_lo_c l _ h]
        by_cases c : x = w_lb G l (w_r1 G k)
        · rw [if_pos c, if_pos c.symm, c]
        · rw [if_neg c, if_neg (fun z => c z.symm), Nat.add_zero]
      have hu := fb_sm_upd (fun x => min (w_ro G R (w_lb G l) x) (w_lo G (w_lb G l) l x)) (min (w_ro G R (w_lb G l) (w_lb G l (w_r1 G k))) (w_lo G (w_lb G l) l (w_lb G l (w_r1 G k)) + 1)) (i := w_lb G l (w_r1 G k)) (n := R) (by omega)
      rw [← hT] at hu
      have hT0 : fb_sm (fun x => min (w_ro G R (w_lb G l) x) (w_lo G (w_lb G l) l x)) R = w_T G R l := rfl
      rw [hT0] at hu
      rw [← e]
      constructor
      · intro z; omega
      · intro z; omega
    · generalize hA : w_lb G l (w_r1 G k) = A at *
      generalize hB : w_lb G l (w_r2 G k) = B at *
      have hT : w_T G R (k :: l) = fb_sm (fun x => if x = min A B then min (w_ro G R (w_lb G l) A + w_ro G R (w_lb G l) B) (w_lo G (w_lb G l) l A + w_lo G (w_lb G l) l B + 1) else (fun y => if y = max A B then 0 else min (w_ro G R (w_lb G l) y) (w_lo G (w_lb G l) l y)) x) R := by
        unfold w_T
        refine fb_sm_cong fun x _ => ?_
        have e' : w_lb G l (w_r1 G k) ≠ w_lb G l (w_r2 G k) := by rw [hA, hB]; exact e
        have hm := w_hg_m (g := w_lb G l) e'
        have q1 := w_ro_m (G := G) (R := R) e'
        have q2 := w_lo_m (G := G) e' l
        have q3 := w_ro_M (G := G) (R := R) e'
        have hmr := (hm (w_r1 G k)).mpr (Or.inl rfl)
        rw [hA, hB] at q1 q2 q3 hmr
        rw [w_lb, if_pos h, w_lo_c l _ h, hmr]
        by_cases c : x = min A B
        · rw [if_pos c, c, if_pos rfl, q1, q2]
        · rw [if_neg c, if_neg (fun z => c z.symm), Nat.add_zero]
          show _ = if x = max A B then 0 else _
          by_cases c2 : x = max A B
          · rw [if_pos c2, c2, q3, Nat.zero_min]
          · rw [if_neg c2, w_ro_n (show x ≠ w_lb G l (w_r1 G k) by omega) (show x ≠ w_lb G l (w_r2 G k) by omega), w_lo_n (show x ≠ w_lb G l (w_r1 G k) by omega) (show x ≠ w_lb G l (w_r2 G k) by omega)]
      have hu1 := fb_sm_upd (fun x => min (w_ro G R (w_lb G l) x) (w_lo G (w_lb G l) l x)) 0 (i := max A B) (n := R) (by omega)
      have hu2 := fb_sm_upd (fun y => if y = max A B then 0 else min (w_ro G R (w_lb G l) y) (w_lo G (w_lb G l) l y)) (min (w_ro G R (w_lb G l) A + w_ro G R (w_lb G l) B) (w_lo G (w_lb G l) l A + w_lo G (w_lb G l) l B + 1)) (i := min A B) (n := R) (by omega)
      rw [← hT] at hu2
      have hT0 : fb_sm (fun x => min (w_ro G R (w_lb G l) x) (w_lo G (w_lb G l) l x)) R = w_T G R l := rfl
      rw [hT0] at hu1
      simp only [if_neg (show ¬ min A B = max A B by omega)] at hu2
      have key : min (w_ro G R (w_lb G l) (min A B)) (w_lo G (w_lb G l) l (min A B)) + min (w_ro G R (w_lb G l) (max A B)) (w_lo G (w_lb G l) l (max A B)) = min (w_ro G R (w_lb G l) A) (w_lo G (w_lb G l) l A) + min (w_ro G R (w_lb G l) B) (w_lo G (w_lb G l) l B) := by
        rcases Nat.le_total A B with z | z
        · rw [Nat.min_eq_left z, Nat.max_eq_right z]
        · rw [Nat.min_eq_right z, Nat.max_eq_left z]; omega
      constructor
      · intro z; omega
      · intro z; omega
  · refine ⟨fun z => absurd z.1 h, fun _ => ?_⟩
    unfold w_T
    rw [w_lb, if_neg h]
    exact fb_sm_cong fun x _ => by rw [w_lo_c0 l x h]
end BB
