/-! BEDS: in how many ways, by the heaps. -/
section BI
variable {G : w_G} {R L : Nat}
theorem w_pr_1 {f : Nat → Nat} : ∀ n, (∀ k, k < n → f k = 1) → w_pr f n = 1
  | 0, _ => rfl
  | n + 1, h => by rw [w_pr, w_pr_1 n fun k hk => h k (by omega), h n (by omega)]
theorem w_ct_one {h : Nat} : ∀ n, h < n → fb_ct (fun x => decide (x = h)) n = 1 := fun n hn => by
  have h2 := fb_ct_upd (fun _ => false) true hn
  have h3 : fb_ct (fun _ => false) n = 0 := fb_ct_zero.mpr fun _ _ => rfl
  have h4 : fb_ct (fun x => decide (x = h)) n = fb_ct (fun k => if k = h then true else false) n := fb_ct_cong fun k _ => by
    by_cases c : k = h
    · rw [if_pos c, decide_eq_true c]
    · rw [if_neg c, decide_eq_false c]
  rw [h3] at h2
  simp only [Bool.false_eq_true, if_false, if_true] at h2
  omega
theorem w_wp_nil (Z : Nat) : w_wp G R (w_Us G []) Z = 1 := by
  unfold w_wp
  refine w_pr_1 R fun h hh => ?_
  unfold w_wt
  rw [if_pos (show (w_Us G []).1 h = h from rfl)]
  have e1 : w_sz R (w_Us G []) h = 1 := w_ct_one R hh
  have e2 : w_zz G R (w_Us G []) Z h ≤ w_sz R (w_Us G []) h := fb_ct_sub fun x _ z => by
    rw [Bool.and_eq_true] at z
    exact z.2
  rw [e1] at e2 ⊢
  unfold w_c
  rw [if_pos (show (w_Us G []).2 h = 0 from rfl)]
  split
  · rfl
  · rw [if_pos (by omega)]
theorem w_ab_t {U : w_U} {k : Nat} (h : w_ab G U k = true) : w_an G k = true ∧ (U.2 (U.1 (w_r1 G k)) = 0 ∨ U.2 (U.1 (w_r2 G k)) = 0) := by
  unfold w_ab at h
  rw [Bool.and_eq_true, Bool.or_eq_true, decide_eq_true_eq, decide_eq_true_eq] at h
  exact h
theorem w_if_mul {c : Bool} {x y : Nat} : (if c then 0 else x * y) = (if c then 0 else x) * y := by
  cases c
  · rfl
  · rw [if_pos rfl, if_pos rfl, Nat.zero_mul]
/-- one who has one open room, or two in one heap -/
theorem w_nw_x {U : w_U} {Z x : Nat} (h : w_rr R U) (hx : x < R) (ho : w_op G x = true) (hf : U.2 (U.1 x) = 0) : (if Z.testBit x then 0 else w_wp G R U (Z ||| 2 ^ x)) = (if w_zz G R U Z (U.1 x) = 0 then 1 else 0) * w_ot G R U Z (U.1 x) (U.1 x) := by
  cases hz : Z.testBit x with
  | true =>
    have := w_zz_pos (U := U) hx ho hz
    rw [if_pos rfl, if_neg (by omega), Nat.zero_mul]
  | false => rw [if_neg (by decide)]; exact w_wp_t1 h hx ho hz hf
theorem w_nw_st {U : w_U} {k Z : Nat} (h : w_rr R U) (hr : w_f G k < R ∧ w_o G k < R) (hZ : w_sh G Z) (hc : w_ab G U k = true) : (if Z.testBit (w_f G k) then 0 else w_wp G R U (Z ||| 2 ^ w_f G k)) + (if Z.testBit (w_o G k) then 0 else w_wp G R U (Z ||| 2 ^ w_o G k)) = w_wp G R (w_st G U k) Z := by
  obtain ⟨han, hz⟩ := w_ab_t hc
  unfold w_st
  rw [if_pos hc]
  cases of : w_op G (w_f G k) with
  | true =>
    cases oo : w_op G (w_o G k) with
    | true =>
      have e1 : w_r1 G k = w_f G k := by unfold w_r1; rw [of, if_pos rfl]
      have e2 : w_r2 G k = w_o G k := by unfold w_r2; rw [oo, if_pos rfl]
      have e3 : w_bo G k = true := by unfold w_bo; rw [of, oo]; rfl
      rw [e1, e2] at hz ⊢
      rw [e3, if_pos rfl]
      by_cases c : U.1 (w_f G k) = U.1 (w_o G k)
      · rw [if_pos c, w_wp_u (h.1 _ hr.1) (h.2 _) (by decide), w_nw_x h hr.1 of (by rw [← c, or_self] at hz; exact hz), w_nw_x h hr.2 oo (by rw [c, or_self] at hz; exact hz), ← c, ← Nat.add_mul]
        congr 1
        split <;> rfl
      · rw [if_neg c, w_wp_m h (h.1 _ hr.1) (h.1 _ hr.2) c (h.2 _) (h.2 _)]
        have t := w_c_two (na := w_sz R U (U.1 (w_f G k))) (nb := w_sz R U (U.1 (w_o G k))) (za := w_zz G R U Z (U.1 (w_f G k))) (zb := w_zz G R U Z (U.1 (w_o G k))) (f := Z.testBit (w_f G k)) (o := Z.testBit (w_o G k)) hz (fun z => w_zz_pos hr.1 of z) (fun z => w_zz_pos hr.2 oo z)
        rw [← t, Nat.add_mul, ← w_if_mul, ← w_if_mul]
        congr 1
        · cases hb : Z.testBit (w_f G k) with
          | true => rfl
          | false =>
            rw [if_neg (by decide), if_neg (by decide), w_wp_two (h.1 _ hr.1) (h.1 _ hr.2) c (h.2 _) (h.2 _), w_zz_add hr.1 of hb, w_zz_add hr.1 of hb, if_pos rfl, if_neg c, w_ot_add hr.1 of hb (Or.inl rfl)]
            rfl
        · cases hb : Z.testBit (w_o G k) with
          | true => rfl
          | false =>
            rw [if_neg (by decide), if_neg (by decide), w_wp_two (h.1 _ hr.1) (h.1 _ hr.2) c (h.2 _) (h.2 _), w_zz_add hr.2 oo hb, w_zz_add hr.2 oo hb, if_pos rfl, if_neg (fun z => c z.symm), w_ot_add hr.2 oo hb (Or.inr rfl)]
            rfl
    | false =>
      have e1 : w_r1 G k = w_f G k := by unfold w_r1; rw [of, if_pos rfl]
      have e2 : w_r2 G k = w_f G k := by unfold w_r2; rw [oo, if_neg (by decide)]
      have e3 : w_bo G k = false := by unfold w_bo; rw [of, oo]; rfl
      rw [e1, e2] at hz ⊢
      rw [e3, if_neg (show ¬ false = true by decide), if_pos rfl, hZ _ oo, if_pos rfl, Nat.add_zero, w_wp_u (h.1 _ hr.1) (h.2 _) (by decide), w_nw_x h hr.1 of (by rw [or_self] at hz; exact hz)]
  | false =>
    have oo : w_op G (w_o G k) = true := by
      unfold w_an at han
      rw [of, Bool.false_or] at han
      exact han
    have e1 : w_r1 G k = w_o G k := by unfold w_r1; rw [of, if_neg (by decide)]
    have e2 : w_r2 G k = w_o G k := by unfold w_r2; rw [oo, if_pos rfl]
    have e3 : w_bo G k = false := by unfold w_bo; rw [of, oo]; rfl
    rw [e1, e2] at hz ⊢
    rw [e3, if_neg (show ¬ false = true by decide), if_pos rfl, hZ _ of, if_pos rfl, Nat.zero_add, w_wp_u (h.1 _ hr.2) (h.2 _) (by decide), w_nw_x h hr.2 oo (by rw [or_self] at hz; exact hz)]
theorem w_nw_no {U : w_U} {k x Z : Nat} (h : w_rr R U) (hx : x = w_f G k ∨ x = w_o G k) (hr : w_f G k < R ∧ w_o G k < R) (hZ : w_sh G Z) (hc : ¬ w_ab G U k = true) : (if Z.testBit x then 0 else w_wp G R U (Z ||| 2 ^ x)) = 0 := by
  cases hz : Z.testBit x with
  | true => rfl
  | false =>
    rw [if_neg (by decide)]
    have ho := w_nz hZ (show ¬ Z.testBit x = true by rw [hz]; decide)
    obtain ⟨a1, a2⟩ := w_rs_r (w_rs_bit.mpr ⟨hx, ho⟩)
    refine w_wp_0 h (by rcases hx with q | q <;> omega) ho hz fun e => hc ?_
    unfold w_ab
    rw [Bool.and_eq_true, Bool.or_eq_true, decide_eq_true_eq, decide_eq_true_eq]
    refine ⟨a1, ?_⟩
    rcases a2 with q | q
    · exact Or.inl (q ▸ e)
    · exact Or.inr (q ▸ e)
theorem w_nw_all : ∀ l, w_ok G R l → w_rr R (w_Us G l) ∧ ∀ Z, w_sh G Z → w_nw G l Z = if w_lv G l = [] then w_wp G R (w_Us G l) Z else 0
  | [], _ => ⟨⟨fun x hx => hx, fun x => rfl⟩, fun Z _ => by rw [w_nw, w_lv, if_pos rfl, w_wp_nil]⟩
  | k :: l, h => by
    obtain ⟨i1, i2⟩ := w_nw_all l h.t
    have hr := h k List.mem_cons_self
    refine ⟨w_rr_st i1 h.r.1, fun Z hZ => ?_⟩
    rw [w_nw, i2 _ (hZ.add _), i2 _ (hZ.add _), w_lv, w_Us]
    by_cases c : w_ab G (w_Us G l) k = true
    · rw [if_pos c]
      by_cases e : w_lv G l = []
      · simp only [if_pos e]
        exact w_nw_st i1 hr hZ c
      · simp only [if_neg e, ite_self]
    · rw [if_neg c, if_neg (show ¬ k :: w_lv G l = [] from List.cons_ne_nil _ _)]
      by_cases e : w_lv G l = []
      · simp only [if_pos e]
        rw [w_nw_no i1 (Or.inl rfl) hr hZ c, w_nw_no i1 (Or.inr rfl) hr hZ c]
      · simp only [if_neg e, ite_self]
/-- where only the shut rooms are taken -/
theorem w_wp_z (U : w_U) : w_wp G R U G.1 = w_pr (fun h => if U.1 h = h then (if U.2 h = 0 then w_sz R U h else U.2 h) else 1) R := by
  unfold w_wp
  refine w_pr_cong R fun h _ => ?_
  unfold w_wt
  have e : w_zz G R U G.1 h = 0 := fb_ct_zero.mpr fun x _ => by
    unfold w_op
    cases G.1.testBit x <;> rfl
  rw [e]
  unfold w_c
  rw [if_pos rfl, if_pos rfl]
theorem w_sh_0 : w_sh G G.1 := fun x h => by
  unfold w_op at h
  cases hb : G.1.testBit x with
  | true => rfl
  | false => rw [hb] at h; cases h
end BI
