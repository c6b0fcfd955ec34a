/-! STEPS: stepped. -/
section TZA
variable {d b : Nat} {S : z_S} {A : q_A} {k : Nat} {x y : Int32}
/-- what the tries have left: for T from 1 up to below n -/
def mLf (S : z_S) (A : q_A) (k n : Nat) : Prop := ∀ T, 1 ≤ T → T < n → gI S 438 T = bI (q_gT A k T) ∧ ∀ l r, l ≤ 30 → q_n (a_s A) + l ≤ 999 → r < p_R (a_P A) → gI S 439 (496 * T + 16 * l + r) = eO (q_s (q_ns (a_P A) l (q_arr (a_P A) T (a_s A) k).1) r)
def wD : Nat → Nat → Prop := fun c j => vD 1 c j ∨ kD 1 c j ∨ c = 429 ∨ c = 430 ∨ c = 431 ∨ c = 396 ∧ j = 56 ∨ c = 438 ∨ c = 439
theorem m255_l (hA : aOk A) (hk : k < p_L (a_P A)) (hw : q_w (a_s A) k = 255) : ∀ (m T : Nat) (S : z_S), T + m = 40 → mB S A b → mLf S A k (T + 1) → ∃ S', b255_4 (d + 8) (nI k) (nI (q_ct (q_gT A k) T)) (nI (T + 1)) S = some (nI (q_ct (q_gT A k) 40), sI S' 396 56 (nI (p_T (a_P A)))) ∧ onM wD S S' ∧ gL S' 396 56 = gL S 396 56 ∧ mLf S' A k 41
  | 0, T, S, hi, hB, hL => by
    have hb := hB.1.2.1
    have e := b255_4_eq (d + 8) (nI k) (nI (q_ct (q_gT A k) T)) (nI (T + 1)) S hB.1.1
    have g : gI S 400 (nI b).toNatClampNeg = nI (p_T (a_P A)) := by rw [nI_clamp (by omega)]; exact hB.1.2.2.2.1.2.2.1
    rw [if_pos (show (40 : Int32) < nI (T + 1) from (nI_ltI (a := 40) (by omega) (by omega)).mpr (by omega)), hB.1.2.2.1, if_pos ((ni_in (by omega)).mpr (by omega)), g] at e
    refine ⟨S, ?_, onM.refl hB.1.1, rfl, ?_⟩
    · rw [e, show T = 40 by omega]
    · rw [show 41 = T + 1 by omega]; exact hL
  | m + 1, T, S, hi, hB, hL => by
    have e := b255_4_eq (d + 8) (nI k) (nI (q_ct (q_gT A k) T)) (nI (T + 1)) S hB.1.1
    obtain ⟨S1, a1, a2, a3L, a3⟩ := m254 (d := d) (T := T + 1) hA (by omega) hB hk hw
    rw [if_neg (show ¬ (40 : Int32) < nI (T + 1) from fun z => by have := (nI_ltI (a := 40) (by omega) (by omega)).mp z; omega), a1, zb_some] at e
    have step : b255_4 (d + 8) (nI k) (nI (q_ct (q_gT A k) T)) (nI (T + 1)) S = b255_29 (d + 8) (nI k) (nI (q_ct (q_gT A k) T)) (nI (T + 1)) (bI (q_gT A k (T + 1))) (nI (T + 1)) S1 := by
      rw [e]
      cases q_gT A k (T + 1) with
      | false => rw [if_pos (by decide)]; rfl
      | true => rw [if_neg (by decide)]; rfl
    have e2 := b255_29_eq (d + 8) (nI k) (nI (q_ct (q_gT A k) T)) (nI (T + 1)) (bI (q_gT A k (T + 1))) (nI (T + 1)) S1 a2.W
    have hadd : nI (q_ct (q_gT A k) T) + bI (q_gT A k (T + 1)) = nI (q_ct (q_gT A k) (T + 1)) := nI_add _ _
    rw [if_pos ((ni_in (by omega)).mpr (by omega)), if_pos ((ni_in (by omega)).mpr (by omega)), show (nI (T + 1)).toNatClampNeg = T + 1 from nI_clamp (by omega), gI_sI, if_pos rfl, if_pos rfl, hadd, show nI (T + 1) + (1 : Int32) = nI (T + 1 + 1) from nI_add (T + 1) 1] at e2
    have o : onM wD S (sI S1 438 (T + 1) (bI (q_gT A k (T + 1)))) := onM_sI (D := wD) (c := 438) (a2.mono fun c j z => by
      rcases z with z | z | z
      · exact Or.inl z
      · exact Or.inr (Or.inl z)
      · exact Or.inr (Or.inr (by omega))) (by unfold wD; omega)
    obtain ⟨S', b1, b2, b3L, b3⟩ := m255_l hA hk hw m (T + 1) _ (by omega) (hB.on hA o fun c j z => by
      rcases z with z | z | z
      · exact Or.inl z
      · exact Or.inr (Or.inl z)
      · exact Or.inr (Or.inr (by omega))) (fun U u1 u2 => by
      by_cases z : U = T + 1
      · refine ⟨by rw [gI_sI, if_pos rfl, if_pos z, z], fun l r h1 h2 h3 => ?_⟩
        rw [gI_sI, if_neg (by decide), z]
        exact a3 l r h1 h2 h3
      · obtain ⟨v1, v2⟩ := hL U u1 (by omega)
        refine ⟨?_, fun l r h1 h2 h3 => ?_⟩
        · rw [gI_sI, if_pos rfl, if_neg z, a2.I (by unfold uuD vD kD; omega)]; exact v1
        · have hR := hA.1.1
          rw [gI_sI, if_neg (by decide), a2.I (by unfold uuD vD kD; omega)]; exact v2 l r h1 h2 h3)
    exact ⟨S', (step.trans e2).trans b1, o.trans b2, b3L.trans a3L, b3⟩
theorem m255 (h : mA S A) (hA : aOk A) (hk : k < p_L (a_P A)) (hw : q_w (a_s A) k = 255) : ∃ S', fI (d + 9) 255 [.ref 396, .int (nI k)] S = some (nI (q_ct (q_gT A k) 40), S') ∧ onM (fun c k => 396 ≤ c ∧ mScr c k) S S' ∧ mLf S' A k 41 := by
  obtain ⟨b, hM⟩ := h.2.1
  have hB : mB S A b := ⟨hM, h.2.2.1, h.st (hA.mL hk), h.2.2.2.2.2.1, h.2.2.2.2.2.2.2.1⟩
  obtain ⟨S1, a1, a2, aL, a3⟩ := m255_l (d := d) hA hk hw 40 0 S (by omega) hB (fun T h1 h2 => by omega)
  refine ⟨_, (e255 (d + 8) (nI k) S hM.1).trans a1, ⟨a2.W, a2.2.1, fun c j hn => ?_, fun c j hn => ?_⟩, fun T h1 h2 => ?_⟩
  · rw [gI_sI]
    by_cases z : c = 396
    · by_cases w : j = 56
      · rw [if_pos z, if_pos w, z, w]; exact h.2.2.2.1.symm
      · rw [if_pos z, if_neg w]; exact a2.I (by unfold mScr vD kD at hn; unfold wD vD kD; omega)
    · rw [if_neg z]; exact a2.I (by unfold mScr vD kD at hn; unfold wD vD kD; omega)
  · rw [gL_sI]
    by_cases z : c = 396 ∧ j = 56
    · rw [z.1, z.2]; exact aL
    · exact a2.L (by unfold mScr vD kD at hn; unfold wD vD kD; omega)
  · obtain ⟨v1, v2⟩ := a3 T h1 h2
    refine ⟨by rw [gI_sI, if_neg (by decide)]; exact v1, fun l r h1 h2 h3 => ?_⟩
    rw [gI_sI, if_neg (by decide)]
    exact v2 l r h1 h2 h3
theorem m256_l {j : Nat} (hW : z_W S) (hL : mLf S A k 41) : ∀ (m T a : Nat), T + m = 41 → 1 ≤ T → a ≤ T → b256_43 d y (nI a) (nI T) S = some (eO (q_kth (q_gT A k) y.toInt m T a), S)
  | 0, T, a, hi, h1, ha => by
    have e := b256_43_eq d y (nI a) (nI T) S hW
    rw [if_pos (show (40 : Int32) < nI T from (nI_ltI (a := 40) (by omega) (by omega)).mpr (by omega))] at e
    exact e
  | m + 1, T, a, hi, h1, ha => by
    have e := b256_43_eq d y (nI a) (nI T) S hW
    have e7 := b256_70_eq d y (nI a) (nI T) S hW
    have g : gI S 438 (nI T).toNatClampNeg = bI (q_gT A k T) := by rw [nI_clamp (by omega)]; exact (hL T h1 (by omega)).1
    have hadd : nI a + bI (q_gT A k T) = nI (a + (q_gT A k T).toNat) := nI_add _ _
    have hy : nI a = y ↔ (a : Int) = y.toInt := by rw [fa_eq, nI_toInt (by omega)]
    rw [if_pos ((ni_in (by omega)).mpr (by omega)), g, hadd, show nI T + (1 : Int32) = nI (T + 1) from nI_add T 1] at e7
    rw [if_neg (show ¬ (40 : Int32) < nI T from fun z => by have := (nI_ltI (a := 40) (by omega) (by omega)).mp z; omega), if_pos ((ni_in (by omega)).mpr (by omega)), g, e7] at e
    have ih := m256_l (j := j) hW hL m (T + 1) (a + (q_gT A k T).toNat) (by omega) (by omega) (by cases q_gT A k T <;> simp only [Bool.toNat_true, Bool.toNat_false] <;> omega)
    rw [q_kth]
    by_cases c : q_gT A k T = true ∧ (a : Int) = y.toInt
    · rw [if_pos c]
      rw [if_neg (fun w => w (by rw [c.1]; rfl)), if_neg (fun w => w (hy.mpr c.2))] at e
      exact e
    · rw [if_neg c]
      by_cases c1 : q_gT A k T = true
      · rw [if_neg (fun w => w (by rw [c1]; rfl)), if_pos (fun w => c ⟨c1, hy.mp w⟩)] at e
        exact e.trans ih
      · rw [if_pos (show ¬ bI (q_gT A k T) = (1 : Int32) from fun w => c1 ((bI_1 _).mp w))] at e
        exact e.trans ih
theorem q_kth_neg {g : Nat → Bool} {j : Int} (hj : j < 0) : ∀ m T a, q_kth g j m T a = none
  | 0, T, a => rfl
  | m + 1, T, a => by rw [q_kth, if_neg (by omega)]; exact q_kth_neg hj m _ _
theorem t_stepped : twoI (d + 20) 131 256 [.int x, .int y] A A := by
  refine two_q (if q_aw A x = true then (if y = -1 then nI (q_ct (q_gT A x.toInt.toNat) 40) else eO (q_kth (q_gT A x.toInt.toNat) y.toInt 40 1 0)) else -1) (fun S h hA => ?_) (fun S h hA => ?_)
  · have e := e131 (d + 19) x y S h.1
    rw [c152 (d := d + 17) h hA, zb_some] at e
    by_cases c : q_aw A x = true
    · obtain ⟨k, k1, rfl, k3⟩ := q_aw_t hA c
      have hL := hA.1.2.2.2.2.1
      obtain ⟨q, hH, hq⟩ := h.H hA
      rw [if_pos c, nI_toInt (by omega), show ((k : Int)).toNat = k from rfl]
      obtain ⟨n, S1, f, a1, a2, a3, a4, a5, _, a6⟩ := c85 (d := d + 10) hA.2.2.2.2.2.1 hA.2.1 hA.2.2.1 k1 k3 hH h.2.2.2.2.2.2.1 h.s
      have h40 := a3.1
      have hf : ∀ j, j < n → f j = q_gT A k (j + 1) := fun j hj => by
        have := a6 j hj
        rw [← q_gT_t (by omega)] at this
        exact Bool.eq_iff_iff.mpr this
      have hg := q_gT_c (A := A) (k := k) h40 a5
      rw [c, if_pos (by decide), a1, Option.bind_some] at e
      refine ⟨S1, ?_, a2.mono fun c j z => by unfold sD at z; unfold cScr; omega⟩
      rw [e]
      by_cases y1 : y = -1
      · rw [if_neg (fun z => z y1), if_pos y1, c91 (d := d + 17) a2.W a3, zb_some, q_wts_all a4 h40 hf hg]
      · rw [if_pos y1, if_neg y1]
        obtain ⟨i, rfl⟩ : ∃ i, n = i + 1 := ⟨n - 1, by omega⟩
        have e92' := (e92 (d + 18) y S1 a2.W).trans (c92_l (d := d + 17) (x := y) a2.W a3 (i + 1) 0 0 (by omega) (by omega))
        rw [q_la_kth h40 hf hg i 0 0 (by omega)] at e92'
        rw [e92', zb_some]
    · have c' : q_aw A x = false := by simpa using c
      rw [if_neg c]
      rw [c', if_neg (by decide)] at e
      exact ⟨S, e, onI.refl h.1⟩
  · have hW := h.W
    have hL := hA.1.2.2.2.2.1
    obtain ⟨b0, hM0⟩ := h.2.1
    have e := e256 (d + 19) x y S hW
    rw [m228 (d := d + 18) hM0, zb_some] at e
    by_cases cL : ixO (p_L (a_P A)) x = true
    · obtain ⟨k, k1, rfl⟩ := ixO_t cL (by omega)
      have haw : q_aw A (nI k) = decide (q_w (a_s A) k = 255) := by unfold q_aw; rw [cL, nI_toInt (by omega)]; rfl
      have a0 : fI (d + 19) 215 [.ref 396, .int (0 : Int32), .int (nI k)] S = _ := m215 (d := d + 17) (v := 0) hM0 (by omega) (h.st (hA.mL k1)) hA.2.1 (by omega)
      rw [cL, if_neg (by decide), a0, zb_some] at e
      rw [haw, nI_toInt (by omega), show ((k : Int)).toNat = k from rfl]
      by_cases c : q_w (a_s A) k = 255
      · rw [decide_eq_true c, if_pos rfl]
        rw [decide_eq_true c, if_neg (by decide)] at e
        by_cases cm : (-1 : Int32) ≤ y
        · obtain ⟨S1, b1, b2, b3⟩ := m255 (d := d + 10) h hA k1 c
          rw [if_pos cm, b1, zb_some] at e
          refine ⟨S1, ?_, b2⟩
          rw [e]
          by_cases y1 : y = -1
          · rw [if_neg (fun z => z y1), if_pos y1]
          · rw [if_pos y1, if_neg y1]
            exact m256_l (d := d + 19) (j := 0) b2.W b3 40 1 0 (by omega) (by omega) (by omega)
        · rw [if_neg cm] at e
          refine ⟨S, ?_, onM.refl hW⟩
          rw [e]
          have y1 : ¬ y = -1 := fun z => cm (by rw [z]; decide)
          rw [if_neg y1, q_kth_neg (by
            rw [fa_le] at cm
            have : (-1 : Int32).toInt = -1 := rfl
            omega)]
          rfl
      · rw [decide_eq_false c, if_neg (by decide)]
        rw [decide_eq_false c, if_pos (by decide)] at e
        exact ⟨S, e, onM.refl hW⟩
    · have cL' : ixO (p_L (a_P A)) x = false := by simpa using cL
      have haw : q_aw A x = false := by unfold q_aw; rw [cL']; rfl
      rw [haw, if_neg (by decide)]
      rw [cL', if_pos (by decide)] at e
      exact ⟨S, e, onM.refl hW⟩
end TZA
