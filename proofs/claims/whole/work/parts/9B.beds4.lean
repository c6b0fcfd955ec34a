/-! BEDS: sets of lodgers as numbers; who is turned away. -/
section BD
variable {G : w_G} {R L : Nat}
def w_sl (L s : Nat) : List Nat := (List.range L).filter (fun k => s.testBit k)
theorem w_sl_mem {s k : Nat} : k ∈ w_sl L s ↔ k < L ∧ s.testBit k = true := by
  unfold w_sl
  rw [List.mem_filter, List.mem_range]
theorem w_sl_nd (s : Nat) : (w_sl L s).Nodup := List.Pairwise.filter _ List.nodup_range
theorem w_sl_len (s : Nat) : ∀ L, (w_sl L s).length = fb_ct (fun i => s.testBit i) L
  | 0 => rfl
  | n + 1 => by
    have ih := w_sl_len s n
    unfold w_sl at ih ⊢
    rw [List.range_succ, List.filter_append, List.length_append, ih, fb_ct_succ]
    congr 1
    rw [List.filter_cons]
    split
    · rfl
    · rfl
theorem w_bit_lt {s k : Nat} (h : s < 2 ^ L) (hk : s.testBit k = true) : k < L := by
  apply Classical.byContradiction
  intro c
  have h1 : s < 2 ^ k := Nat.lt_of_lt_of_le h (Nat.pow_le_pow_right (by omega) (by omega))
  rw [Nat.testBit_lt_two_pow h1] at hk
  cases hk
theorem w_pc {s : Nat} (hL : L ≤ 16) (h : s < 2 ^ L) : q_pc s = (w_sl L s).length := by
  rw [w_sl_len]
  unfold q_pc
  have e := fb_ct_split (fun i => s.testBit i) L (16 - L)
  rw [show L + (16 - L) = 16 by omega] at e
  have z : fb_ct (fun k => s.testBit (L + k)) (16 - L) = 0 := fb_ct_zero.mpr fun k _ => by
    cases hb : s.testBit (L + k) with
    | false => rfl
    | true => have := w_bit_lt h hb; omega
  omega
theorem w_pc16 {s : Nat} (h : s < 65536) : q_pc s = (w_sl 16 s).length := w_pc (Nat.le_refl _) h
/-- the number of a set -/
def w_bm : List Nat → Nat
  | [] => 0
  | k :: l => w_bm l ||| 2 ^ k
theorem w_bm_bit (i : Nat) : ∀ l, (w_bm l).testBit i = true ↔ i ∈ l
  | [] => by
    rw [w_bm, Nat.zero_testBit]
    constructor
    · intro z; cases z
    · intro z; cases z
  | k :: l => by
    rw [w_bm, fb_bit_set, Bool.or_eq_true, w_bm_bit i l, decide_eq_true_eq, List.mem_cons]
    constructor
    · intro z
      rcases z with z | z
      · exact Or.inr z
      · exact Or.inl z
    · intro z
      rcases z with z | z
      · exact Or.inr z
      · exact Or.inl z
theorem w_bm_lt : ∀ l : List Nat, (∀ k, k ∈ l → k < L) → w_bm l < 2 ^ L
  | [], _ => Nat.two_pow_pos _
  | k :: l, h => Nat.or_lt_two_pow (w_bm_lt l fun j hj => h j (List.mem_cons_of_mem _ hj)) (Nat.pow_lt_pow_right (by decide) (h k List.mem_cons_self))
theorem w_bm_sl {l : List Nat} (h : ∀ k, k ∈ l → k < L) (hn : l.Nodup) : List.Perm (w_sl L (w_bm l)) l := by
  rw [List.perm_ext_iff_of_nodup (w_sl_nd _) hn]
  intro a
  rw [w_sl_mem, w_bm_bit]
  exact ⟨fun z => z.2, fun z => ⟨h a z, z⟩⟩
theorem w_sl_bm {s : Nat} (h : s < 2 ^ L) : w_bm (w_sl L s) = s := by
  apply Nat.eq_of_testBit_eq
  intro i
  apply Bool.eq_iff_iff.mpr
  rw [w_bm_bit, w_sl_mem]
  exact ⟨fun z => z.2, fun z => ⟨w_bit_lt h z, z⟩⟩
theorem w_bm_perm {l l' : List Nat} (h : List.Perm l l') : w_bm l = w_bm l' := by
  apply Nat.eq_of_testBit_eq
  intro i
  apply Bool.eq_iff_iff.mpr
  rw [w_bm_bit, w_bm_bit, h.mem_iff]
theorem w_bm_pc {l : List Nat} (h : ∀ k, k ∈ l → k < 16) (hn : l.Nodup) : q_pc (w_bm l) = l.length := by
  rw [w_pc16 (w_bm_lt (L := 16) l h)]
  exact (w_bm_sl h hn).length_eq
/-- a part of a set -/
theorem w_part {l c : List Nat} (hl : l.Nodup) (hc : c.Nodup) (h : ∀ x, x ∈ c → x ∈ l) : List.Perm l (l.filter (fun x => decide (x ∉ c)) ++ c) := by
  rw [List.perm_ext_iff_of_nodup hl (List.nodup_append.mpr ⟨List.Pairwise.filter _ hl, hc, fun a ha b hb => ?_⟩)]
  · intro a
    rw [List.mem_append, List.mem_filter, decide_eq_true_eq]
    constructor
    · intro z
      by_cases w : a ∈ c
      · exact Or.inr w
      · exact Or.inl ⟨z, w⟩
    · intro z
      rcases z with z | z
      · exact z.1
      · exact h a z
  · intro z
    rw [List.mem_filter, decide_eq_true_eq] at ha
    exact ha.2 (z ▸ hb)
theorem w_T_part {l c : List Nat} (hl : l.Nodup) (hc : c.Nodup) (h : ∀ x, x ∈ c → x ∈ l) (hk : w_ok G R l) : w_T G R c ≤ w_T G R l ∧ w_T G R l + c.length ≤ w_T G R c + l.length := by
  have p := w_part hl hc h
  have a := w_T_app (l := c) (l.filter (fun x => decide (x ∉ c))) (w_ok_perm hk p)
  have e := p.length_eq
  rw [List.length_append] at e
  rw [w_T_perm p]
  omega
theorem w_ac_part {l c : List Nat} {k : Nat} (hl : l.Nodup) (hc : c.Nodup) (h : ∀ x, x ∈ c → x ∈ l) (ha : w_ac G R k l) : w_ac G R k c := w_ac_app _ ((w_ac_perm (w_part hl hc h)).mp ha)
/-- none of them is one too many -/
def w_in (G : w_G) (R : Nat) (l : List Nat) : Prop := w_T G R l = l.length
theorem w_in_part {l c : List Nat} (hl : l.Nodup) (hc : c.Nodup) (h : ∀ x, x ∈ c → x ∈ l) (hk : w_ok G R l) (hi : w_in G R l) : w_in G R c := by
  have a := w_T_part (G := G) (R := R) hl hc h hk
  have b := w_T_len (G := G) (R := R) (l := c) fun k hk' => hk k (h k hk')
  unfold w_in at hi ⊢
  omega
/-- the lodgers from i on, as the class takes them, the last one first -/
def w_al (s : Nat) : Nat → Nat → List Nat
  | 0, _ => []
  | n + 1, i => if s.testBit i then i :: w_al s n (i + 1) else w_al s n (i + 1)
theorem w_al_mem {s k : Nat} : ∀ (n i : Nat), k ∈ w_al s n i ↔ i ≤ k ∧ k < i + n ∧ s.testBit k = true
  | 0, i => by
    rw [w_al]
    exact ⟨fun z => (by cases z), fun z => by omega⟩
  | n + 1, i => by
    have ih := w_al_mem (s := s) (k := k) n (i + 1)
    rw [w_al]
    by_cases c : k = i
    · subst c
      cases hb : s.testBit k with
      | true => rw [if_pos rfl]; exact ⟨fun _ => ⟨by omega, by omega, rfl⟩, fun _ => List.mem_cons_self⟩
      | false =>
        rw [if_neg (by decide), ih]
        exact ⟨fun z => by omega, fun z => (by cases z.2.2)⟩
    · split
      · rw [List.mem_cons, ih]
        constructor
        · intro z
          rcases z with z | z
          · exact absurd z c
          · exact ⟨by omega, by omega, z.2.2⟩
        · intro z
          exact Or.inr ⟨by omega, by omega, z.2.2⟩
      · rw [ih]
        exact ⟨fun z => ⟨by omega, by omega, z.2.2⟩, fun z => ⟨by omega, by omega, z.2.2⟩⟩
theorem w_al_nd (s : Nat) : ∀ (n i : Nat), (w_al s n i).Nodup
  | 0, i => List.nodup_nil
  | n + 1, i => by
    rw [w_al]
    split
    · refine List.nodup_cons.mpr ⟨fun z => ?_, w_al_nd s n (i + 1)⟩
      have := (w_al_mem n (i + 1)).mp z
      omega
    · exact w_al_nd s n (i + 1)
theorem w_al_sl (s : Nat) : List.Perm (w_sl L s) (w_al s L 0) := by
  rw [List.perm_ext_iff_of_nodup (w_sl_nd _) (w_al_nd _ _ _)]
  intro a
  rw [w_sl_mem, w_al_mem]
  exact ⟨fun z => ⟨by omega, by omega, z.2⟩, fun z => ⟨by omega, z.2.2⟩⟩
theorem w_lv_sub {k : Nat} {l : List Nat} (h : k ∈ w_lv G l) : k ∈ l := (w_av_lv l).mem_iff.mpr (List.mem_append_left _ h)
theorem w_av_sub {k : Nat} {l : List Nat} (h : k ∈ w_av G l) : k ∈ l := (w_av_lv l).mem_iff.mpr (List.mem_append_right _ h)
theorem w_lv_nd {l : List Nat} (h : l.Nodup) : (w_lv G l).Nodup := (List.nodup_append.mp (((w_av_lv (G := G) l).nodup_iff).mp h)).1
theorem w_av_nd {l : List Nat} (h : l.Nodup) : (w_av G l).Nodup := (List.nodup_append.mp (((w_av_lv (G := G) l).nodup_iff).mp h)).2.1
theorem w_av_mem {k : Nat} {l : List Nat} (h : l.Nodup) : k ∈ w_av G l ↔ k ∈ l ∧ k ∉ w_lv G l := by
  have hp := w_av_lv (G := G) l
  constructor
  · intro z
    refine ⟨w_av_sub z, fun w => ?_⟩
    exact (List.nodup_append.mp (hp.nodup_iff.mp h)).2.2 k w k z rfl
  · intro ⟨z1, z2⟩
    rcases List.mem_append.mp (hp.mem_iff.mp z1) with w | w
    · exact absurd w z2
    · exact w
/-- one that is left over is so behind those above him -/
theorem w_lv_at {s j : Nat} : ∀ (n i : Nat), j ∈ w_lv G (w_al s n i) → ¬ w_ab G (w_Us G (w_al s (i + n - (j + 1)) (j + 1))) j = true ∧ ∀ k, j < k → (k ∈ w_lv G (w_al s (i + n - (j + 1)) (j + 1)) ↔ k ∈ w_lv G (w_al s n i))
  | 0, i, h => by cases h
  | n + 1, i, h => by
    have hm := w_lv_sub h
    rw [w_al_mem] at hm
    rw [w_al] at h
    by_cases c : j = i
    · rw [c] at h hm ⊢
      have e : w_al s (n + 1) i = i :: w_al s n (i + 1) := by rw [w_al, if_pos hm.2.2]
      rw [show i + (n + 1) - (i + 1) = n by omega, e]
      rw [if_pos hm.2.2] at h
      rw [w_lv] at h ⊢
      by_cases c2 : w_ab G (w_Us G (w_al s n (i + 1))) i = true
      · rw [if_pos c2] at h
        have := w_lv_sub h
        rw [w_al_mem] at this
        omega
      · refine ⟨c2, fun k hk => ?_⟩
        rw [if_neg c2, List.mem_cons]
        exact ⟨fun z => Or.inr z, fun z => z.resolve_left (by omega)⟩
    · have h2 : j ∈ w_lv G (w_al s n (i + 1)) := by
        split at h
        · rw [w_lv] at h
          split at h
          · exact h
          · exact (List.mem_cons.mp h).resolve_left c
        · exact h
      have ih := w_lv_at n (i + 1) h2
      rw [show i + 1 + n - (j + 1) = i + (n + 1) - (j + 1) by omega] at ih
      refine ⟨ih.1, fun k hk => ?_⟩
      rw [ih.2 k hk, w_al]
      split
      · rw [w_lv]
        split
        · exact Iff.rfl
        · rw [List.mem_cons]
          exact ⟨fun z => Or.inr z, fun z => z.resolve_left (by omega)⟩
      · exact Iff.rfl
theorem w_lt {a b i : Nat} (ha : a.testBit i = false) (hb : b.testBit i = true) (h : ∀ j, i < j → a.testBit j = b.testBit j) : a < b := by
  rw [Nat.testBit_eq_decide_div_mod_eq, decide_eq_false_iff_not] at ha
  rw [Nat.testBit_eq_decide_div_mod_eq, decide_eq_true_eq] at hb
  have e : a / 2 ^ i / 2 = b / 2 ^ i / 2 := by
    apply Nat.eq_of_testBit_eq
    intro j
    have := h (i + (j + 1)) (by omega)
    rw [Nat.testBit_div_two, Nat.testBit_div_two, Nat.testBit_div_two_pow, Nat.testBit_div_two_pow]
    rw [show j + 1 + i = i + (j + 1) by omega]
    exact this
  have : a / 2 ^ i < b / 2 ^ i := by omega
  apply Classical.byContradiction
  intro c
  have := Nat.div_le_div_right (c := 2 ^ i) (show b ≤ a by omega)
  omega
/-- the number of those who are left over -/
def w_lft (G : w_G) (L s : Nat) : Nat := w_bm (w_lv G (w_al s L 0))
/-- how many of a set can sleep at once -/
def w_tg (G : w_G) (R L s : Nat) : Nat := w_T G R (w_sl L s)
/-- rooms of all lodgers -/
def w_Ok (G : w_G) (R L : Nat) : Prop := ∀ k, k < L → w_f G k < R ∧ w_o G k < R
theorem w_Ok.al (h : w_Ok G R L) (s n i : Nat) (hn : i + n ≤ L) : w_ok G R (w_al s n i) := fun k hk => h k (by have := (w_al_mem n i).mp hk; omega)
theorem w_Ok.sl (h : w_Ok G R L) (s : Nat) : w_ok G R (w_sl L s) := fun k hk => h k (w_sl_mem.mp hk).1
theorem w_tg_al (s : Nat) : w_tg G R L s = w_T G R (w_al s L 0) := w_T_perm (w_al_sl s)
theorem w_lft_lt (s : Nat) : w_lft G L s < 2 ^ L := w_bm_lt _ fun k hk => by
  have := (w_al_mem L 0).mp (w_lv_sub hk)
  omega
theorem w_lft_bit {s k : Nat} (h : (w_lft G L s).testBit k = true) : k < L ∧ s.testBit k = true := by
  have := (w_al_mem L 0).mp (w_lv_sub ((w_bm_bit k _).mp h))
  exact ⟨by omega, this.2.2⟩
theorem w_lft_pc {s : Nat} (hL : L ≤ 16) (h : w_Ok G R L) (hs : s < 2 ^ L) : q_pc (w_lft G L s) + w_tg G R L s = q_pc s := by
  have a := (w_T_av (w_al s L 0) (h.al s L 0 (by omega))).1
  have b := (w_av_lv (G := G) (w_al s L 0)).length_eq
  rw [List.length_append] at b
  have c : q_pc (w_lft G L s) = (w_lv G (w_al s L 0)).length := w_bm_pc (fun k hk => by have := (w_al_mem L 0).mp (w_lv_sub hk); omega) (w_lv_nd (w_al_nd _ _ _))
  rw [w_pc hL hs, (w_al_sl s).length_eq, c, w_tg_al, a, b]
/-- what is asked of those that are turned away -/
def w_tn (G : w_G) (R L s o : Nat) : Prop := q_cl o s = 0 ∧ q_pc o + w_tg G R L s = q_pc s ∧ w_tg G R L (q_cl s o) + q_pc o = q_pc s
theorem q_cl_0 {a b : Nat} : q_cl a b = 0 ↔ ∀ i, a.testBit i = true → b.testBit i = true := by
  constructor
  · intro h i hi
    have := q_cl_bit a b i
    rw [h, Nat.zero_testBit, hi] at this
    cases hb : b.testBit i with
    | true => rfl
    | false => rw [hb] at this; cases this
  · intro h
    apply Nat.eq_of_testBit_eq
    intro i
    rw [q_cl_bit, Nat.zero_testBit]
    cases ha : a.testBit i with
    | false => rfl
    | true => rw [h i ha]; rfl
theorem q_cl_lt {a b n : Nat} (h : a < 2 ^ n) : q_cl a b < 2 ^ n := by
  apply Nat.lt_pow_two_of_testBit
  intro i hi
  rw [q_cl_bit, Nat.testBit_lt_two_pow (Nat.lt_of_lt_of_le h (Nat.pow_le_pow_right (by omega) hi))]
  rfl
theorem w_cl_pc {s o : Nat} (hs : s < 65536) (h : q_cl o s = 0) : q_pc (q_cl s o) + q_pc o = q_pc s := by
  unfold q_pc
  rw [← fb_ct_or]
  · refine fb_ct_cong fun k _ => ?_
    show (_ || _) = _
    rw [q_cl_bit]
    have := q_cl_0.mp h k
    cases ho : o.testBit k with
    | true => rw [this ho]; rfl
    | false => cases s.testBit k <;> rfl
  · intro k _ ⟨z1, z2⟩
    rw [q_cl_bit, z2] at z1
    cases hb : s.testBit k <;> rw [hb] at z1 <;> cases z1
theorem w_tn_self {s : Nat} (hL : L ≤ 16) (h : w_Ok G R L) (hs : s < 2 ^ L) : w_tn G R L s (w_lft G L s) := by
  have h1 : q_cl (w_lft G L s) s = 0 := q_cl_0.mpr fun i hi => (w_lft_bit hi).2
  have h2 := w_lft_pc hL h hs
  have hs16 : s < 65536 := Nat.lt_of_lt_of_le hs (Nat.pow_le_pow_right (n := 2) (by omega) hL)
  have h3 := w_cl_pc hs16 h1
  refine ⟨h1, h2, ?_⟩
  have hp : List.Perm (w_sl L (q_cl s (w_lft G L s))) (w_av G (w_al s L 0)) := by
    rw [List.perm_ext_iff_of_nodup (w_sl_nd _) (w_av_nd (w_al_nd _ _ _))]
    intro a
    rw [w_sl_mem, w_av_mem (w_al_nd _ _ _), w_al_mem, q_cl_bit, Bool.and_eq_true]
    have e := w_bm_bit a (w_lv G (w_al s L 0))
    constructor
    · intro ⟨z1, z2, z3⟩
      refine ⟨⟨by omega, by omega, z2⟩, fun w => ?_⟩
      have : (w_lft G L s).testBit a = true := e.mpr w
      rw [this] at z3
      cases z3
    · intro ⟨z1, z2⟩
      refine ⟨by omega, z1.2.2, ?_⟩
      cases hb : (w_lft G L s).testBit a with
      | false => rfl
      | true => exact absurd (e.mp hb) z2
  have a := w_T_av (w_al s L 0) (h.al s L 0 (by omega))
  have e : w_tg G R L (q_cl s (w_lft G L s)) = w_tg G R L s := by
    rw [w_tg_al s, a.1, ← a.2]
    exact w_T_perm hp
  omega
theorem w_tn_least {s o : Nat} (hL : L ≤ 16) (h : w_Ok G R L) (hs : s < 2 ^ L) (ho : w_tn G R L s o) : w_lft G L s ≤ o := by
  have hs16 : s < 65536 := Nat.lt_of_lt_of_le hs (Nat.pow_le_pow_right (n := 2) (by omega) hL)
  obtain ⟨o1, o2, o3⟩ := ho
  have ind : w_in G R (w_sl L (q_cl s o)) := by
    unfold w_in
    have e1 := w_cl_pc hs16 o1
    rw [← w_pc hL (q_cl_lt hs)]
    show w_tg G R L (q_cl s o) = _
    omega
  have key : ∀ m, m ≤ L → (∀ j, L - m ≤ j → (w_lft G L s).testBit j = o.testBit j) ∨ w_lft G L s < o := by
    intro m
    induction m with
    | zero =>
      intro _
      left
      intro j hj
      rw [Nat.testBit_lt_two_pow (Nat.lt_of_lt_of_le (w_lft_lt (G := G) (L := L) s) (Nat.pow_le_pow_right (by omega) (by omega)))]
      cases hb : o.testBit j with
      | false => rfl
      | true => have := w_bit_lt hs (q_cl_0.mp o1 j hb); omega
    | succ m ih =>
      intro hm
      rcases ih (by omega) with w | w
      · generalize hj : L - (m + 1) = j at *
        have hj2 : L - m = j + 1 := by omega
        rw [hj2] at w
        cases hb : (w_lft G L s).testBit j with
        | false =>
          cases hc : o.testBit j with
          | true => exact Or.inr (w_lt hb hc fun i hi => w i hi)
          | false =>
            left
            intro i hi
            by_cases c : i = j
            · rw [c, hb, hc]
            · exact w i (by omega)
        | true =>
          cases hc : o.testBit j with
          | true =>
            left
            intro i hi
            by_cases c : i = j
            · rw [c, hb, hc]
            · exact w i (by omega)
          | false =>
            exfalso
            have hjl := (w_bm_bit j _).mp hb
            have hat := w_lv_at L 0 hjl
            rw [show 0 + L - (j + 1) = m by omega] at hat
            have hok : w_ok G R (j :: w_al s m (j + 1)) := fun k hk => by
              rcases List.mem_cons.mp hk with z | z
              · exact h k (by omega)
              · exact h k (by have := (w_al_mem m (j + 1)).mp z; omega)
            have hna : ¬ w_ac G R j (w_al s m (j + 1)) := fun z => hat.1 (((w_UI_all _ hok.t).ac hok).mpr z)
            have hav := w_T_av (w_al s m (j + 1)) hok.t
            have hjs : s.testBit j = true := (w_lft_bit hb).2
            have hsub : ∀ x, x ∈ j :: w_av G (w_al s m (j + 1)) → x ∈ w_sl L (q_cl s o) := fun x hx => by
              rw [w_sl_mem, q_cl_bit, Bool.and_eq_true]
              rcases List.mem_cons.mp hx with z | z
              · rw [z, hjs, hc]; exact ⟨by omega, rfl, rfl⟩
              · have z2 := (w_av_mem (w_al_nd _ _ _)).mp z
                have z3 := (w_al_mem m (j + 1)).mp z2.1
                refine ⟨by omega, z3.2.2, ?_⟩
                rw [← w x (by omega)]
                cases hx2 : (w_lft G L s).testBit x with
                | false => rfl
                | true => exact absurd ((hat.2 x (by omega)).mpr ((w_bm_bit x _).mp hx2)) z2.2
            have hnd : (j :: w_av G (w_al s m (j + 1))).Nodup := List.nodup_cons.mpr ⟨fun z => by have := (w_al_mem m (j + 1)).mp (w_av_sub z); omega, w_av_nd (w_al_nd _ _ _)⟩
            have hin := w_in_part (w_sl_nd _) hnd hsub (h.sl _) ind
            unfold w_in at hin
            rw [List.length_cons] at hin
            have hle := (w_T_part (G := G) (R := R) (l := j :: w_al s m (j + 1)) (c := j :: w_av G (w_al s m (j + 1))) (List.nodup_cons.mpr ⟨fun z => by have := (w_al_mem m (j + 1)).mp z; omega, w_al_nd _ _ _⟩) hnd (fun x hx => by
              rcases List.mem_cons.mp hx with z | z
              · rw [z]; exact List.mem_cons_self
              · exact List.mem_cons_of_mem _ (w_av_sub z)) hok).1
            have := (w_T_c hok).2 hna
            omega
      · exact Or.inr w
  rcases key L (Nat.le_refl _) with w | w
  · apply Nat.le_of_eq
    apply Nat.eq_of_testBit_eq
    intro i
    exact w i (by omega)
  · omega
end BD
