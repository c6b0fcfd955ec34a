/-! READING AN IMAGE: the reference's lodgers and bench. -/
section TS
variable {d b : Nat} {S : z_S} {P : q_Pl} {tp : List Nat} {s : q_St} {A : q_A}
/-- layer 1 while an image is read: lodgers below i told -/
def mR (S : z_S) (P : q_Pl) (i : Nat) (s : q_St) : Prop := gI S 420 1 = nI (q_n s) ∧ gI S 421 1 = nI (q_p s) ∧ gI S 422 1 = nI (q_h s) ∧ gI S 427 1 = nI 0 ∧ (∀ r, r < 16 → gI S 423 (16 + r) = eO (q_s s r)) ∧ ∀ k, k < 16 → k < i ∨ p_L P ≤ k → gI S 424 (16 + k) = nI (q_y s k)
def rD : Nat → Nat → Prop := fun c k => vD 1 c k ∨ kD 1 c k
/-- what the reference has while it reads -/
def mE (S : z_S) (b : Nat) (P : q_Pl) (tp : List Nat) : Prop := cM S b P ∧ ∀ i, i < tp.length → gI S 397 i = nI (tp.getD i 0)
theorem mE.on {S' : z_S} (h : mE S b P tp) (ho : onM rD S S') : mE S' b P tp :=
  ⟨h.1.on ho (fun c k z => by unfold rD vD kD; omega), fun i hi => by rw [ho.I (by unfold rD vD kD; omega)]; exact h.2 i hi⟩
theorem m270 {k : Nat} (hb : ∀ x, x ∈ tp → x < 256) (hl : 5 + p_R P + 2 * p_L P ≤ tp.length) (hl2 : tp.length ≤ 1600) (hk : k < p_L P) (h : mE S b P tp) (hs : mR S P k s) (hI : q_RI P k s) : ∃ (v : Bool) (S' : z_S), fI (d + 3) 270 [.ref 396, .int (nI k), .int (nI (5 + p_R P + 2 * k))] S = some (bI v, S') ∧ onM rD S S' ∧ (v = true ↔ (q_rk P tp s k).isSome = true) ∧ ∀ s1, q_rk P tp s k = some s1 → mR S' P (k + 1) s1 := by
  have hP := h.1.2.2.2.2
  have hL := hP.2.2.2.2.1
  have hR := hP.1
  have hW := h.1.1
  have hB := hI.Bd hP
  have hBh := hB.1
  have ff := hP.2.2.2.2.2.2.2.1 k hk
  have e := e270 (d + 2) (nI k) (nI (5 + p_R P + 2 * k)) S hW
  have g0 : gI S 397 (nI (5 + p_R P + 2 * k)).toNatClampNeg = nI (tp.getD (5 + p_R P + 2 * k) 0) := by rw [nI_clamp (by omega)]; exact h.2 _ (by omega)
  have g1 : gI S 397 (nI (5 + p_R P + 2 * k + 1)).toNatClampNeg = nI (tp.getD (5 + p_R P + 2 * k + 1) 0) := by rw [nI_clamp (by omega)]; exact h.2 _ (by omega)
  have l0 := tp_b hb (5 + p_R P + 2 * k)
  have l1 := tp_b hb (5 + p_R P + 2 * k + 1)
  rw [show (16 : Int32) = nI 16 from rfl, show (1 : Int32) = nI 1 from rfl, nI_add, nI_add, if_pos ((ni_in (by omega)).mpr (by omega)), if_pos ((ni_in (by omega)).mpr (by omega)), if_pos ((ni_in (by omega)).mpr (by omega)), g0, g1, show (nI (16 + k)).toNatClampNeg = 16 + k from nI_clamp (by omega)] at e
  unfold q_rk
  revert e l0 l1
  generalize tp.getD (5 + p_R P + 2 * k) 0 = w
  generalize tp.getD (5 + p_R P + 2 * k + 1) 0 = y
  intro e l0 l1
  have o1 : onM rD S (sI S 424 (16 + k) (nI y)) := onM_sI (D := rD) (c := 424) (onM.refl hW) (by unfold rD vD; omega)
  have h1 := h.on o1
  have hW1 := h1.1.1
  have k4 : nI w = (254 : Int32) ↔ w = 254 := nI_eq (b := 254) (by omega) (by omega)
  have k5 : nI w = (255 : Int32) ↔ w = 255 := nI_eq (b := 255) (by omega) (by omega)
  have ky : nI y = (0 : Int32) ↔ y = 0 := nI_eq (b := 0) (by omega) (by omega)
  obtain ⟨s0, s1, s2, s3, s4, s5⟩ := hs
  rw [m210 (d := d + 1) h1.1 hk, zb_some, m211 (d := d + 1) h1.1 hk, zb_some] at e
  by_cases c1 : w = p_f P k ∨ w = p_o P k
  · rw [if_pos c1]
    have hw16 : w < 16 := by omega
    have e' : fI (d + 3) 270 [.ref 396, .int (nI k), .int (nI (5 + p_R P + 2 * k))] S = b270_71 (d + 2) (nI k) (nI w) (nI y) (sI S 424 (16 + k) (nI y)) := by
      rw [e, if_neg (fun z => by have := k4.mp z; omega), if_pos (fun z => by have := k5.mp z; omega)]
      rcases c1 with z | z
      · rw [if_pos (by rw [z])]
      · by_cases z2 : nI w = nI (p_f P k)
        · rw [if_pos z2]
        · rw [if_neg z2, if_neg (fun q => q (by rw [z]))]
    have e7 := b270_71_eq (d + 2) (nI k) (nI w) (nI y) (sI S 424 (16 + k) (nI y)) hW1
    have a207 : fI (d + 2) 207 [.ref 396, .int (1 : Int32), .int (nI w)] (sI S 424 (16 + k) (nI y)) = some (bI ((q_h s).testBit w), sI S 424 (16 + k) (nI y)) := by
      have e8 := e207 (d + 1) (1 : Int32) (nI w) (sI S 424 (16 + k) (nI y)) hW1
      have g2 : gI (sI S 424 (16 + k) (nI y)) 422 ((1 : Int32)).toNatClampNeg = nI (q_h s) := by rw [gI_sI, if_neg (by decide)]; exact s2
      rw [if_pos (show z_in (1 : Int32) 22 by decide), g2, m182 (d := d) (a := q_h s) (r := w) hW1 (by omega) (by omega), zb_some] at e8
      rw [e8]
      cases (q_h s).testBit w
      · rfl
      · rfl
    have g3 : gI (sI S 424 (16 + k) (nI y)) 423 (nI (16 + w)).toNatClampNeg = eO (q_s s w) := by rw [nI_clamp (by omega), gI_sI, if_neg (by decide)]; exact s4 w hw16
    have k99 : (99 : Int32) < nI y ↔ 99 < y := nI_ltI (a := 99) (by omega) (by omega)
    rw [a207, zb_some, show (16 : Int32) = nI 16 from rfl, nI_add, if_pos ((ni_in (by omega)).mpr (by omega)), if_pos ((ni_in (by omega)).mpr (by omega)), g3, show (nI (16 + w)).toNatClampNeg = 16 + w from nI_clamp (by omega)] at e7
    have hfr := q_free_RI (r := w) hI
    have fl : ∀ S', onM rD S S' → (¬ (q_free s w = true ∧ y ≤ 99)) → fI (d + 3) 270 [.ref 396, .int (nI k), .int (nI (5 + p_R P + 2 * k))] S = some ((0 : Int32), S') → ∃ (v : Bool) (S' : z_S), fI (d + 3) 270 [.ref 396, .int (nI k), .int (nI (5 + p_R P + 2 * k))] S = some (bI v, S') ∧ onM rD S S' ∧ (v = true ↔ (if q_free s w = true ∧ y ≤ 99 then some (q_yy (q_bed s k w) k y) else none).isSome = true) ∧ ∀ s1, (if q_free s w = true ∧ y ≤ 99 then some (q_yy (q_bed s k w) k y) else none) = some s1 → mR S' P (k + 1) s1 := fun S' ho hn he => by
      rw [if_neg hn]
      exact ⟨false, S', he, ho, ⟨fun z => Bool.noConfusion z, fun z => by cases z⟩, fun s1 z => by cases z⟩
    cases hh : (q_h s).testBit w with
    | true =>
      rw [hh, if_pos (by decide)] at e7
      exact fl _ o1 (fun z => by have := (hfr.mp z.1).1; rw [hh] at this; cases this) (e'.trans e7)
    | false =>
      rw [hh, if_neg (by decide)] at e7
      cases hq : q_s s w with
      | some j =>
        have hj := (hI.2.2.2.1 w j hq).1
        rw [hq, if_neg (show ¬ eO (some j) = (-1 : Int32) from fun z => by have := congrArg Int32.toInt (show nI j = -1 from z); rw [nI_toInt (by omega)] at this; simp at this)] at e7
        exact fl _ o1 (fun z => by have := (hfr.mp z.1).2; rw [hq] at this; cases this) (e'.trans e7)
      | none =>
        rw [hq, if_pos (show eO none = (-1 : Int32) from rfl)] at e7
        have o2 : onM rD S (sI (sI S 424 (16 + k) (nI y)) 423 (16 + w) (nI k)) := onM_sI (D := rD) (c := 423) o1 (by unfold rD vD; omega)
        by_cases c3 : y ≤ 99
        · rw [if_neg (fun z => by have := k99.mp z; omega)] at e7
          have hfree : q_free s w = true ∧ y ≤ 99 := ⟨hfr.mpr ⟨hh, hq⟩, c3⟩
          rw [if_pos hfree]
          refine ⟨true, _, e'.trans e7, o2, ⟨fun _ => rfl, fun _ => rfl⟩, fun s' z => ?_⟩
          injection z with z
          rw [← z]
          refine ⟨?_, ?_, ?_, ?_, fun r hr => ?_, fun j hj hj2 => ?_⟩
          · rw [gI_sI, if_neg (by decide), gI_sI, if_neg (by decide)]; exact s0
          · rw [gI_sI, if_neg (by decide), gI_sI, if_neg (by decide)]; exact s1
          · rw [gI_sI, if_neg (by decide), gI_sI, if_neg (by decide)]; exact s2
          · rw [gI_sI, if_neg (by decide), gI_sI, if_neg (by decide)]; exact s3
          · rw [gI_sI, if_pos rfl]
            show _ = eO (q_u (q_s s) w (some k) r)
            by_cases zr : r = w
            · rw [if_pos (by omega), zr, q_us]; rfl
            · rw [if_neg (by omega), gI_sI, if_neg (by decide), q_un zr]; exact s4 r hr
          · rw [gI_sI, if_neg (by decide), gI_sI, if_pos rfl]
            show _ = nI (q_u (q_u (q_y s) k 0) k y j)
            by_cases zj : j = k
            · rw [if_pos (by omega), zj, q_us]
            · rw [if_neg (by omega), q_un zj, q_un zj]; exact s5 j hj (by omega)
        · rw [if_pos (k99.mpr (by omega))] at e7
          exact fl _ o2 (fun z => c3 z.2) (e'.trans e7)
  · rw [if_neg c1]
    have e4 := b270_42_eq (d + 2) (nI y) (sI S 424 (16 + k) (nI y)) hW1
    by_cases c2 : w = 254 ∨ w = 255
    · have e' : fI (d + 3) 270 [.ref 396, .int (nI k), .int (nI (5 + p_R P + 2 * k))] S = b270_42 (d + 2) (nI y) (sI S 424 (16 + k) (nI y)) := by
        rw [e]
        by_cases z : w = 254
        · rw [if_pos (k4.mpr z)]
        · rw [if_neg (fun q => z (k4.mp q)), if_neg (fun q => q (k5.mpr (by omega)))]
      by_cases c3 : y = 0
      · rw [if_neg (fun z => z (ky.mpr c3))] at e4
        rw [if_pos ⟨c2, c3⟩]
        refine ⟨true, _, e'.trans e4, o1, ⟨fun _ => rfl, fun _ => rfl⟩, fun s' z => ?_⟩
        injection z with z
        rw [← z]
        have hy0 : q_y s k = 0 := (hI.2.2.2.2.2.2.2.2.1 k).2 (by rw [hI.2.2.2.2.2.1 k (Nat.le_refl _)]; omega)
        refine ⟨?_, ?_, ?_, ?_, fun r hr => ?_, fun j hj hj2 => ?_⟩
        · rw [gI_sI, if_neg (by decide)]; exact s0
        · rw [gI_sI, if_neg (by decide)]; exact s1
        · rw [gI_sI, if_neg (by decide)]; exact s2
        · rw [gI_sI, if_neg (by decide)]; exact s3
        · rw [gI_sI, if_neg (by decide)]; exact s4 r hr
        · rw [gI_sI, if_pos rfl]
          show _ = nI (q_y s j)
          by_cases zj : j = k
          · rw [if_pos (by omega), zj, hy0, c3]
          · rw [if_neg (by omega)]; exact s5 j hj (by omega)
      · rw [if_pos (fun z => c3 (ky.mp z))] at e4
        rw [if_neg (fun z => c3 z.2)]
        exact ⟨false, _, e'.trans e4, o1, ⟨fun z => Bool.noConfusion z, fun z => by cases z⟩, fun s1 z => by cases z⟩
    · rw [if_neg (fun z => c2 z.1)]
      rw [if_neg (fun z => c2 (Or.inl (k4.mp z))), if_pos (fun z => c2 (Or.inr (k5.mp z))), if_neg (fun z => c1 (Or.inl ((nI_eq (by omega) (by omega)).mp z))), if_pos (fun z => c1 (Or.inr ((nI_eq (by omega) (by omega)).mp z)))] at e
      exact ⟨false, _, e, o1, ⟨fun z => Bool.noConfusion z, fun z => by cases z⟩, fun s1 z => by cases z⟩
end TS
