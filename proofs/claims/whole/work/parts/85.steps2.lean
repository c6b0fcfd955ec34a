/-! STEPS: the class's ends. -/
section TY
variable {d q : Nat} {S : z_S} {P : q_Pl} {s : q_St} {k : Nat}
def eD : Nat → Nat → Prop := fun c i => c = 182 ∧ i = 4 ∨ 187 ≤ c ∧ c ≤ 386 ∨ 23 ≤ c ∧ c ≤ 26
/-- the ends of 1 .. n steps -/
def cEn (S : z_S) (P : q_Pl) (s : q_St) (k n : Nat) : Prop := gI S 182 4 = nI n ∧ ∀ j, j < n → cSt S (187 + 5 * j) 16 (q_arr P (j + 1) s k).1
theorem c86_l (hG : q_Gd P s) (hk : k < p_L P) (hw : q_w s k = 255) (z8 : ∀ j, j < 40 → z_K (187 + 5 * j) = 8) : ∀ (m i : Nat) (S : z_S), i + m = 40 → cH S q P → cSt S 27 16 s → cEn S P s k i → ∃ (n : Nat) (S' : z_S), b86_8 (d + 6) 27 (nI k) (0 : Int32) S = some S' ∧ onI eD S S' ∧ cEn S' P s k n ∧ i ≤ n ∧ n ≤ 40 ∧ (n = 40 ∨ i < n ∧ (q_arr P n s k).2.length < n) ∧ ∀ j, i < j → j < n → ¬ (q_arr P j s k).2.length < j
  | 0, i, S, hi, hH, hs, hE => by
    have e := b86_8_eq (d + 6) 27 (nI k) (0 : Int32) S hH.1 (by decide +kernel)
    rw [hE.1, if_pos (show (40 : Int32) ≤ nI i from (nI_leI (a := 40) (by omega) (by omega)).mpr (by omega))] at e
    exact ⟨i, S, e, onI.refl hH.1, hE, Nat.le_refl _, by omega, Or.inl (by omega), fun j h1 h2 => by omega⟩
  | m + 1, i, S, hi, hH, hs, hE => by
    have hP := hH.2.2.2.2
    have e := b86_8_eq (d + 6) 27 (nI k) (0 : Int32) S hH.1 (by decide +kernel)
    obtain ⟨S1, a1, a2, a3⟩ := c75 (d := d + 5) (p := 187 + 5 * i) (p1 := 27) hH.1 (z8 i (by omega)) (by decide +kernel) (by omega) hs (hG.Bd hP)
    have g1 : gI S1 182 4 = nI i := by rw [a2.I (by unfold pD; omega)]; exact hE.1
    have g2 : gI (sI S1 182 4 (nI (i + 1))) 182 4 = nI (i + 1) := by rw [gI_sI, if_pos rfl, if_pos rfl]
    have o1 : onI eD S (sI S1 182 4 (nI (i + 1))) := onI_sI (D := eD) (c := 182) (a2.mono fun c j z => by unfold pD at z; unfold eD; omega) (Or.inl ⟨rfl, rfl⟩)
    have hH1 : cH (sI S1 182 4 (nI (i + 1))) q P := hH.on o1 (fun c j z => by unfold eD; omega)
    have hs1 : cSt (sI S1 182 4 (nI (i + 1))) (187 + 5 * i) 16 s := a3.ag fun c j z => by unfold pD at z; rw [gI_sI, if_neg (by omega)]
    obtain ⟨S2, b1, b2, b3, b4, b5, b6⟩ := c32 (d := d) (p := 187 + 5 * i) (T := i + 1) hH1 (z8 i (by omega)) hs1 hG hk hw (by omega)
    have hsub : nI (i + 1) - (1 : Int32) = nI i := pk_sub (a := i + 1) (b := 1) (by omega)
    have g3 : gI S2 182 4 = nI (i + 1) := by rw [b2.I (by unfold hD; omega)]; exact g2
    rw [hE.1, if_neg (show ¬ (40 : Int32) ≤ nI i from fun z => by have := (nI_leI (a := 40) (by omega) (by omega)).mp z; omega), if_neg (fun z => z rfl), if_pos ((ni_in (by omega)).mpr (by omega)), show (nI i).toNatClampNeg = i from nI_clamp (by omega), a1, Option.bind_some, g1, show nI i + (1 : Int32) = nI (i + 1) from nI_add i 1, g2, hsub, if_pos ((ni_in (by omega)).mpr (by omega)), show (nI i).toNatClampNeg = i from nI_clamp (by omega), b1, zb_some, g3] at e
    have o2 : onI eD S S2 := o1.trans (b2.mono fun c j z => by unfold hD at z; unfold eD; omega)
    have hE2 : cEn S2 P s k (i + 1) := ⟨g3, fun j hj => by
      by_cases z : j = i
      · rw [z]; exact b3
      · exact (hE.2 j (by omega)).ag fun c l w => by
          unfold pD at w
          rw [b2.I (by unfold hD; omega), gI_sI, if_neg (by omega), a2.I (by unfold pD; omega)]⟩
    by_cases c : (q_arr P (i + 1) s k).2.length < i + 1
    · rw [if_neg (fun z => by have := (nI_leI (by omega) (by omega)).mp z; omega), b86_77_eq (d + 6) 27 (nI k) (1 : Int32) S2 b2.W (by decide +kernel)] at e
      have e2 := b86_8_eq (d + 6) 27 (nI k) (1 : Int32) S2 b2.W (by decide +kernel)
      rw [if_pos (show ¬ (1 : Int32) = 0 by decide), ite_self] at e2
      exact ⟨i + 1, S2, e.trans e2, o2, hE2, by omega, by omega, Or.inr ⟨by omega, c⟩, fun j h1 h2 => by omega⟩
    · rw [if_pos ((nI_leI (by omega) (by omega)).mpr (by omega)), b86_77_eq (d + 6) 27 (nI k) (0 : Int32) S2 b2.W (by decide +kernel)] at e
      obtain ⟨n, S3, f1, f2, f3, f4, f5, f6, f7⟩ := c86_l hG hk hw z8 m (i + 1) S2 (by omega) (hH.on o2 (fun c j z => by unfold eD; omega)) (hs.ag (o2.ag fun c j z => by unfold pD at z; unfold eD; omega)) hE2
      exact ⟨n, S3, e.trans f1, o2.trans f2, f3, by omega, f5, f6.imp id fun z => ⟨by omega, z.2⟩, fun j h1 h2 => by
        by_cases z : j = i + 1
        · rw [z]; exact c
        · exact f7 j (by omega) h2⟩
end TY
