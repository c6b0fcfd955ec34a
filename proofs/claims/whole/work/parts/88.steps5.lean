/-! STEPS: a night for all that fit. -/
section TZ3
variable {d n q : Nat} {S : z_S} {f : Nat → Bool} {P : q_Pl}
theorem c88_l (hn : n ≤ 40) : ∀ (m i : Nat) (S : z_S) (E : Nat → q_St), i + m = n → cH S q P → cFt S n f → (∀ j, j < n → q_Gd P (E j)) → (∀ j, j < n → cSt S (187 + 5 * j) 16 (E j)) → ∃ S', b88_2 (d + 7) (nI i) S = some S' ∧ onI (fun c _ => 187 ≤ c ∧ c ≤ 386 ∨ 23 ≤ c ∧ c ≤ 26) S S' ∧ ∀ j, j < n → cSt S' (187 + 5 * j) 16 (if i ≤ j ∧ f j = true then q_nt P false (E j) else E j)
  | 0, i, S, E, hi, hH, hF, hG, hE => by
    have e := b88_2_eq (d + 7) (nI i) S hH.1
    rw [hF.2.1, if_pos ((nI_leI (by omega) (by omega)).mpr (by omega))] at e
    exact ⟨S, e, onI.refl hH.1, fun j hj => by rw [if_neg (by omega)]; exact hE j hj⟩
  | m + 1, i, S, E, hi, hH, hF, hG, hE => by
    have e := b88_2_eq (d + 7) (nI i) S hH.1
    have g : gI S 185 (nI i).toNatClampNeg = bI (f i) := by rw [nI_clamp (by omega)]; exact hF.2.2 i (by omega)
    rw [hF.2.1, if_neg (show ¬ nI n ≤ nI i from fun z => by have := (nI_leI (by omega) (by omega)).mp z; omega), if_pos ((ni_in (by omega)).mpr (by omega)), if_pos ((ni_in (by omega)).mpr (by omega)), g, show (nI i).toNatClampNeg = i from nI_clamp (by omega)] at e
    cases hf : f i with
    | false =>
      rw [hf, if_pos (show bI false = (0 : Int32) from rfl), b88_31_eq (d + 7) (nI i) S hH.1, show nI i + (1 : Int32) = nI (i + 1) from nI_add i 1] at e
      obtain ⟨S', a1, a2, a3⟩ := c88_l hn m (i + 1) S E (by omega) hH hF hG hE
      refine ⟨S', e.trans a1, a2, fun j hj => ?_⟩
      have := a3 j hj
      by_cases z : j = i
      · subst z
        rw [if_neg (by omega)] at this
        rw [if_neg (fun w => by rw [hf] at w; exact absurd w.2 (by decide))]
        exact this
      · by_cases w : i ≤ j ∧ f j = true
        · rw [if_pos ⟨by omega, w.2⟩] at this; rw [if_pos w]; exact this
        · rw [if_neg (fun v => w ⟨by omega, v.2⟩)] at this; rw [if_neg w]; exact this
    | true =>
      obtain ⟨S1, a1, a2, a3, a4⟩ := c35 (d := d) (p := 187 + 5 * i) (b := false) hH ((zAa_184 i (by omega)).2) (hE i (by omega)) (hG i (by omega))
      have a1' : fI (d + 7) 35 [.ref 22, .ref (187 + 5 * i), .int (0 : Int32)] S = _ := a1
      have o1 : onI (fun c _ => 187 ≤ c ∧ c ≤ 386 ∨ 23 ≤ c ∧ c ≤ 26) S S1 := a2.mono fun c k z => by unfold hD at z; omega
      rw [hf, if_neg (show ¬ bI true = (0 : Int32) by decide), a1', zb_some, b88_31_eq (d + 7) (nI i) S1 a2.W, show nI i + (1 : Int32) = nI (i + 1) from nI_add i 1] at e
      obtain ⟨S', b1, b2, b3⟩ := c88_l hn m (i + 1) S1 (q_u E i (q_nt P false (E i))) (by omega) (hH.on o1 (fun c j z => by omega)) ⟨hF.1, by rw [o1.I (by omega)]; exact hF.2.1, fun j hj => by rw [o1.I (by omega)]; exact hF.2.2 j hj⟩ (fun j hj => by
        by_cases z : j = i
        · rw [z, q_us]; exact a4
        · rw [q_un z]; exact hG j hj) (fun j hj => by
        by_cases z : j = i
        · rw [z, q_us]; exact a3
        · rw [q_un z]; exact (hE j hj).ag (a2.ag fun c k w => by unfold pD at w; unfold hD; omega))
      refine ⟨S', e.trans b1, o1.trans b2, fun j hj => ?_⟩
      have := b3 j hj
      by_cases z : j = i
      · subst z
        rw [if_neg (by omega), q_us] at this
        rw [if_pos ⟨Nat.le_refl _, hf⟩]
        exact this
      · rw [q_un z] at this
        by_cases w : i ≤ j ∧ f j = true
        · rw [if_pos ⟨by omega, w.2⟩] at this; rw [if_pos w]; exact this
        · rw [if_neg (fun v => w ⟨by omega, v.2⟩)] at this; rw [if_neg w]; exact this
end TZ3
