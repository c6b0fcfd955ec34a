/-! BEDS: the search for the least crowd. -/
section BF
variable {G : w_G} {R L : Nat}
/-- the first answer from i on -/
def w_lp (f : Nat → Option Nat) : Nat → Nat → Option Nat
  | 0, _ => none
  | m + 1, i => match f i with
    | some v => some v
    | none => w_lp f m (i + 1)
theorem w_lp_s {f : Nat → Option Nat} {v : Nat} : ∀ (m i : Nat), w_lp f m i = some v → ∃ j, i ≤ j ∧ j < i + m ∧ f j = some v ∧ ∀ j', i ≤ j' → j' < j → f j' = none
  | 0, i, h => by cases h
  | m + 1, i, h => by
    rw [w_lp] at h
    cases hf : f i with
    | some w =>
      rw [hf] at h
      exact ⟨i, Nat.le_refl _, by omega, hf.trans h, fun j' a b => by omega⟩
    | none =>
      rw [hf] at h
      obtain ⟨j, h1, h2, h3, h4⟩ := w_lp_s m (i + 1) h
      refine ⟨j, by omega, by omega, h3, fun j' a b => ?_⟩
      by_cases c : j' = i
      · rw [c]; exact hf
      · exact h4 j' (by omega) b
theorem w_lp_e {f : Nat → Option Nat} {j : Nat} (hj : f j ≠ none) : ∀ (m i : Nat), i ≤ j → j < i + m → ∃ v, w_lp f m i = some v
  | 0, i, a, b => by omega
  | m + 1, i, a, b => by
    rw [w_lp]
    cases hf : f i with
    | some w => exact ⟨w, rfl⟩
    | none =>
      by_cases c : j = i
      · rw [c] at hj; exact absurd hf hj
      · exact w_lp_e hj m (i + 1) (by omega) (by omega)
theorem w_lp_n {f : Nat → Option Nat} : ∀ (m i : Nat), (∀ j, i ≤ j → j < i + m → f j = none) → w_lp f m i = none
  | 0, i, _ => rfl
  | m + 1, i, h => by
    rw [w_lp, h i (Nat.le_refl _) (by omega)]
    exact w_lp_n m (i + 1) fun j a b => h j (by omega) (by omega)
/-- rooms of more than one; of one -/
def w_mo (G : w_G) (on mo j : Nat) : Nat := mo ||| (on &&& w_rs G j)
def w_on (G : w_G) (on mo j : Nat) : Nat := q_cl (on ||| w_rs G j) (w_mo G on mo j)
def w_cb (G : w_G) (rch : Nat → Nat) (cd ct n on mo j : Nat) : Bool := cd.testBit j && decide (q_pc (w_on G on mo j ||| w_mo G on mo j) < ct) && decide (q_cl (w_on G on mo j) (rch j) = 0) && decide (q_pc (w_on G on mo j) ≤ 2 * n)
def w_se (G : w_G) (rch : Nat → Nat) (cd ct : Nat) : Nat → Nat → Nat → Nat → Nat → Option Nat
  | 0, _, ch, _, _ => some ch
  | n + 1, be, ch, on, mo => w_lp (fun j => if w_cb G rch cd ct n on mo j then w_se G rch cd ct n j (ch ||| 2 ^ j) (w_on G on mo j) (w_mo G on mo j) else none) (be - n) n
/-- which rooms one, and which more than one, of a set have -/
def w_om (G : w_G) (c : List Nat) (on mo : Nat) : Prop := ∀ x, (on.testBit x = true ↔ w_ct G c x = 1) ∧ (mo.testBit x = true ↔ 2 ≤ w_ct G c x)
theorem w_om_nil : w_om G [] 0 0 := fun x => by
  have e : w_ct G [] x = 0 := rfl
  rw [Nat.zero_testBit, e]
  exact ⟨⟨fun z => (by cases z), fun z => by omega⟩, ⟨fun z => (by cases z), fun z => by omega⟩⟩
theorem w_om.c {c : List Nat} {on mo : Nat} (h : w_om G c on mo) (j : Nat) : w_om G (j :: c) (w_on G on mo j) (w_mo G on mo j) := fun x => by
  obtain ⟨h1, h2⟩ := h x
  have hm : (w_mo G on mo j).testBit x = true ↔ 2 ≤ w_ct G (j :: c) x := by
    unfold w_mo
    rw [Nat.testBit_or, Nat.testBit_and, Bool.or_eq_true, Bool.and_eq_true, h1, h2, w_ct_c]
    split <;> rename_i z <;> simp only [z] <;> simp <;> omega
  refine ⟨?_, hm⟩
  unfold w_on
  rw [q_cl_bit, Nat.testBit_or, Bool.and_eq_true, Bool.or_eq_true, h1]
  have hm' : ((!(w_mo G on mo j).testBit x) = true) ↔ ¬ 2 ≤ w_ct G (j :: c) x := by
    rw [← hm]
    cases (w_mo G on mo j).testBit x <;> simp
  rw [hm', w_ct_c]
  split <;> rename_i z <;> simp only [z] <;> simp <;> omega
theorem w_om.u {c : List Nat} {on mo : Nat} (h : w_om G c on mo) : on ||| mo = w_ru G c := by
  apply Nat.eq_of_testBit_eq
  intro x
  apply Bool.eq_iff_iff.mpr
  obtain ⟨h1, h2⟩ := h x
  rw [Nat.testBit_or, Bool.or_eq_true, h1, h2, w_ru_bit]
  omega
theorem w_se_s {rch : Nat → Nat} {cd ct : Nat} : ∀ (n be : Nat) (c : List Nat) (on mo m : Nat), w_se G rch cd ct n be (w_bm c) on mo = some m → c.Nodup → (∀ x, x ∈ c → be ≤ x) → w_om G c on mo → (n = 0 → q_pc (on ||| mo) < ct) → ∃ y : List Nat, m = w_bm (y ++ c) ∧ (y ++ c).Nodup ∧ (∀ x, x ∈ y → x < be) ∧ y.length = n ∧ q_pc (w_ru G (y ++ c)) < ct
  | 0, be, c, on, mo, m, h, hn, hb, ho, hz => by
    rw [w_se] at h
    exact ⟨[], (Option.some.inj h).symm, hn, fun x hx => (by cases hx), rfl, by rw [List.nil_append, ← ho.u]; exact hz rfl⟩
  | n + 1, be, c, on, mo, m, h, hn, hb, ho, hz => by
    rw [w_se] at h
    obtain ⟨j, j1, j2, j3, _⟩ := w_lp_s _ _ h
    by_cases c1 : w_cb G rch cd ct n on mo j = true
    · rw [if_pos c1] at j3
      unfold w_cb at c1
      rw [Bool.and_eq_true, Bool.and_eq_true, Bool.and_eq_true, decide_eq_true_eq, decide_eq_true_eq, decide_eq_true_eq] at c1
      obtain ⟨y, y1, y2, y3, y4, y5⟩ := w_se_s n j (j :: c) _ _ m j3 (List.nodup_cons.mpr ⟨fun z => by have := hb j z; omega, hn⟩) (fun x hx => by
        rcases List.mem_cons.mp hx with z | z
        · omega
        · have := hb x z; omega) (ho.c j) (fun _ => c1.1.1.2)
      refine ⟨y ++ [j], ?_, ?_, fun x hx => ?_, ?_, ?_⟩
      · rw [List.append_assoc]; exact y1
      · rw [List.append_assoc]; exact y2
      · rcases List.mem_append.mp hx with z | z
        · have := y3 x z; omega
        · have := List.mem_singleton.mp z; omega
      · rw [List.length_append, y4]; rfl
      · rw [List.append_assoc]; exact y5
    · rw [if_neg c1] at j3
      cases j3
theorem w_desc_len : ∀ (y : List Nat) (t : Nat), List.Pairwise (fun a b => b < a) (t :: y) → y.length ≤ t
  | [], t, _ => Nat.zero_le _
  | u :: y, t, h => by
    rw [List.pairwise_cons] at h
    have h1 := h.1 u List.mem_cons_self
    have h2 := w_desc_len y u h.2
    rw [List.length_cons]
    omega
theorem w_se_c {rch : Nat → Nat} {cd : Nat} {K : List Nat} (hO : w_Ok G R L) (hR : R ≤ 16) (hK : w_ci G R L K) (hcd : ∀ k, k ∈ K → cd.testBit k = true) (hrc : ∀ j k x, k ∈ K → k < j → j < L → (w_rs G k).testBit x = true → (rch j).testBit x = true) : ∀ (n be : Nat) (c : List Nat) (on mo : Nat) (y : List Nat), y.length = n → List.Pairwise (fun a b => b < a) y → (∀ x, x ∈ y → x < be) → c.Nodup → (∀ x, x ∈ c → be ≤ x) → w_om G c on mo → List.Perm K (y ++ c) → ∃ m, w_se G rch cd K.length n be (w_bm c) on mo = some m ∧ m ≤ w_bm K
  | 0, be, c, on, mo, y, hy, _, _, _, _, _, hp => by
    have : y = [] := List.length_eq_zero_iff.mp hy
    subst this
    exact ⟨w_bm c, by rw [w_se], Nat.le_of_eq (w_bm_perm hp).symm⟩
  | n + 1, be, c, on, mo, [], hy, _, _, _, _, _, _ => by cases hy
  | n + 1, be, c, on, mo, t :: y, hy, hd, hb, hn, hc, ho, hp => by
    rw [List.length_cons] at hy
    have hy' : y.length = n := by omega
    have hd' := List.pairwise_cons.mp hd
    have ht := hb t List.mem_cons_self
    have htK : t ∈ K := hp.mem_iff.mpr List.mem_cons_self
    have htL := hK.2.1 t htK
    have hnt : n ≤ t := by have := w_desc_len y t hd; omega
    have hp2 : List.Perm K (y ++ t :: c) := hp.trans List.perm_middle.symm
    have hnt2 : (t :: c).Nodup := List.nodup_cons.mpr ⟨fun z => by have := hc t z; omega, hn⟩
    have hom := ho.c t
    have hct : ∀ x, w_ct G K x = w_ct G y x + w_ct G (t :: c) x := fun x => by rw [w_ct_perm hp2 x, w_ct_app]
    have hone : ∀ x, (w_on G on mo t).testBit x = true → 0 < w_ct G y x := fun x z => by
      have z1 := (hom x).1.mp z
      have z2 := hct x
      have z3 := hK.two hO (x := x) (by omega)
      omega
    have hcb : w_cb G rch cd K.length n on mo t = true := by
      unfold w_cb
      rw [Bool.and_eq_true, Bool.and_eq_true, Bool.and_eq_true, decide_eq_true_eq, decide_eq_true_eq, decide_eq_true_eq]
      refine ⟨⟨⟨hcd t htK, ?_⟩, ?_⟩, ?_⟩
      · rw [hom.u]
        refine Nat.lt_of_le_of_lt (w_pc_sub fun x z => ?_) (hK.pc hO hR)
        rw [w_ru_bit] at z ⊢
        have := hct x
        omega
      · refine q_cl_0.mpr fun x z => ?_
        obtain ⟨k, hk, hk2⟩ := List.countP_pos_iff.mp (hone x z)
        exact hrc t k x (hp.mem_iff.mpr (List.mem_append_left _ (List.mem_cons_of_mem _ hk))) (hd'.1 k hk) htL hk2
      · refine Nat.le_trans (Nat.le_trans (w_pc_sub fun x z => ?_) (w_pc_ru (G := G) y)) (by omega)
        rw [w_ru_bit]
        exact hone x z
    obtain ⟨mt, m1, m2⟩ := w_se_c hO hR hK hcd hrc n t (t :: c) _ _ y hy' hd'.2 hd'.1 hnt2 (fun x hx => by
      rcases List.mem_cons.mp hx with z | z
      · omega
      · have := hc x z; omega) hom hp2
    rw [w_se]
    generalize hf : (fun j => if w_cb G rch cd K.length n on mo j then w_se G rch cd K.length n j (w_bm c ||| 2 ^ j) (w_on G on mo j) (w_mo G on mo j) else none) = f
    have hft : f t = some mt := by
      rw [← hf]
      show (if w_cb G rch cd K.length n on mo t then _ else none) = _
      rw [if_pos hcb]
      exact m1
    obtain ⟨v, hv⟩ := w_lp_e (f := f) (j := t) (by rw [hft]; exact fun z => by cases z) (be - n) n hnt (by omega)
    refine ⟨v, hv, ?_⟩
    obtain ⟨j, j1, j2, j3, j4⟩ := w_lp_s _ _ hv
    have hjt : j ≤ t := by
      apply Classical.byContradiction
      intro z
      have := j4 t hnt (by omega)
      rw [hft] at this
      cases this
    by_cases e : j = t
    · rw [e, hft] at j3
      rw [← Option.some.inj j3]
      exact m2
    · rw [← hf] at j3
      have j3' : (if w_cb G rch cd K.length n on mo j then w_se G rch cd K.length n j (w_bm c ||| 2 ^ j) (w_on G on mo j) (w_mo G on mo j) else none) = some v := j3
      by_cases c1 : w_cb G rch cd K.length n on mo j = true
      · rw [if_pos c1] at j3'
        unfold w_cb at c1
        rw [Bool.and_eq_true, Bool.and_eq_true, Bool.and_eq_true, decide_eq_true_eq, decide_eq_true_eq, decide_eq_true_eq] at c1
        obtain ⟨y3, q1, q2, q3, q4, q5⟩ := w_se_s n j (j :: c) _ _ v j3' (List.nodup_cons.mpr ⟨fun z => by have := hc j z; omega, hn⟩) (fun x hx => by
          rcases List.mem_cons.mp hx with z | z
          · omega
          · have := hc x z; omega) (ho.c j) (fun _ => c1.1.1.2)
        apply Nat.le_of_lt
        rw [q1]
        refine w_lt (i := t) ?_ ((w_bm_bit t K).mpr htK) fun i hi => ?_
        · cases hb2 : (w_bm (y3 ++ j :: c)).testBit t with
          | false => rfl
          | true =>
            have z := (w_bm_bit t _).mp hb2
            rcases List.mem_append.mp z with z | z
            · have := q3 t z; omega
            · rcases List.mem_cons.mp z with z | z
              · omega
              · have := hc t z; omega
        · apply Bool.eq_iff_iff.mpr
          rw [w_bm_bit, w_bm_bit, hp2.mem_iff, List.mem_append, List.mem_cons, List.mem_append, List.mem_cons]
          constructor
          · intro z
            rcases z with z | z | z
            · have := q3 i z; omega
            · omega
            · exact Or.inr (Or.inr z)
          · intro z
            rcases z with z | z | z
            · have := hd'.1 i z; omega
            · omega
            · exact Or.inr (Or.inr z)
      · rw [if_neg c1] at j3'
        cases j3'
/-- one too many -/
def w_dp (G : w_G) (R L s : Nat) : Prop := w_tg G R L s < q_pc s
/-- what is asked of the least crowd among the sets below n -/
def w_cr (G : w_G) (R L : Nat) (o : Option Nat) (n : Nat) : Prop := match o with
  | none => ∀ s, s < n → ¬ w_dp G R L s
  | some m => m < n ∧ w_dp G R L m ∧ ∀ s, s < n → w_dp G R L s → q_pc m < q_pc s ∨ q_pc m = q_pc s ∧ m ≤ s
theorem w_cr_one {o o' : Option Nat} {n : Nat} (h : w_cr G R L o n) (h' : w_cr G R L o' n) : o = o' := by
  cases o with
  | none =>
    cases o' with
    | none => rfl
    | some m => exact absurd h'.2.1 (h m h'.1)
  | some m =>
    cases o' with
    | none => exact absurd h.2.1 (h' m h.1)
    | some m' =>
      have a := h.2.2 m' h'.1 h'.2.1
      have b := h'.2.2 m h.1 h.2.1
      congr 1
      omega
theorem w_cr_ex (hL : L ≤ 16) (n : Nat) : ∃ o, w_cr G R L o n := by
  by_cases c : ∃ s, s < n ∧ w_dp G R L s
  · obtain ⟨s, hs, hd⟩ := c
    haveI : DecidablePred fun q => ∃ s, s < n ∧ w_dp G R L s ∧ q_pc s = q := fun _ => Classical.propDecidable _
    obtain ⟨q, _, ⟨s1, a1, a2, a3⟩, q3⟩ := fb_first (p := fun q => ∃ s, s < n ∧ w_dp G R L s ∧ q_pc s = q) (n := 17) ⟨q_pc s, by have := q_pc_le s; omega, s, hs, hd, rfl⟩
    haveI : DecidablePred fun s => w_dp G R L s ∧ q_pc s = q := fun _ => Classical.propDecidable _
    obtain ⟨m, m1, m2, m3⟩ := fb_first (p := fun s => w_dp G R L s ∧ q_pc s = q) (n := n) ⟨s1, a1, a2, a3⟩
    refine ⟨some m, m1, m2.1, fun u hu hd2 => ?_⟩
    by_cases e : q_pc u = q
    · right
      refine ⟨m2.2.trans e.symm, ?_⟩
      apply Classical.byContradiction
      intro z
      exact m3 u (by omega) ⟨hd2, e⟩
    · left
      rw [m2.2]
      apply Classical.byContradiction
      intro z
      exact q3 (q_pc u) (by omega) ⟨u, hu, hd2, rfl⟩
  · exact ⟨none, fun s hs hd => c ⟨s, hs, hd⟩⟩
end BF
