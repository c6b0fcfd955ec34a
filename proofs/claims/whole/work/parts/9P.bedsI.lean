/-! BEDS: crowd of the reference. -/
section BR
variable {d b : Nat} {P : q_Pl} {st : q_St}
theorem w_cr_no {G : w_G} {R L i : Nat} {o : Option Nat} (h : w_cr G R L o i) (hd : ¬ w_dp G R L i) : w_cr G R L o (i + 1) := by
  cases o with
  | none =>
    intro s hs
    by_cases c : s = i
    · rw [c]; exact hd
    · exact h s (by omega)
  | some m =>
    refine ⟨by have := h.1; omega, h.2.1, fun s hs hd2 => ?_⟩
    by_cases c : s = i
    · rw [c] at hd2; exact absurd hd2 hd
    · exact h.2.2 s (by omega) hd2
theorem w_cr_ge {G : w_G} {R L i m : Nat} (h : w_cr G R L (some m) i) (hd : q_pc m ≤ q_pc i) : w_cr G R L (some m) (i + 1) := by
  refine ⟨by have := h.1; omega, h.2.1, fun s hs hd2 => ?_⟩
  by_cases c : s = i
  · have := h.1
    rw [c]
    omega
  · exact h.2.2 s (by omega) hd2
theorem w_cr_yes {G : w_G} {R L i : Nat} {o : Option Nat} (h : w_cr G R L o i) (ho : ∀ m, o = some m → q_pc i < q_pc m) (hd : w_dp G R L i) : w_cr G R L (some i) (i + 1) := by
  refine ⟨by omega, hd, fun s hs hd2 => ?_⟩
  by_cases c : s = i
  · rw [c]; exact Or.inr ⟨rfl, Nat.le_refl _⟩
  · cases o with
    | none => exact absurd hd2 (h s (by omega))
    | some m =>
      have := h.2.2 s (by omega) hd2
      have := ho m rfl
      omega
theorem m248_l : ∀ (m i : Nat) (o : Option Nat) (S : z_S), i + m = 2 ^ p_L P → xH S b P st → w_cr (w_Gs P st) (p_R P) (p_L P) o i → ∃ o' S', b248_4 (d + 5) (eO o) (nI i) S = some (eO o', S') ∧ w_cr (w_Gs P st) (p_R P) (p_L P) o' (2 ^ p_L P) ∧ onM (fun c _ => 432 ≤ c ∧ c ≤ 434) S S'
  | 0, i, o, S, hi, h, hc => by
    have hbk := h.1.2.2.1
    have hb := h.1.2.1
    have hP := h.1.2.2.2.2
    have hL := hP.2.2.2.2.1
    have h2 : 2 ^ p_L P ≤ 65536 := Nat.pow_le_pow_right (n := 2) (by omega) hL
    have hl : gI S 402 (nI b).toNatClampNeg = nI (p_L P) := by rw [nI_clamp (by omega)]; exact h.1.2.2.2.1.2.2.2.2.1
    have zi : z_in (nI b) 2 := (ni_in (by omega)).mpr hb
    have es : (1 : Int32) <<< (nI (p_L P) &&& (31 : Int32)) = nI (2 ^ p_L P) := ni_shl (by omega)
    have e := b248_4_eq (d + 5) (eO o) (nI i) S h.1.1
    rw [hbk, if_pos zi, hl, es, if_pos (nI_le (by omega) (by omega))] at e
    rw [show i = 2 ^ p_L P by omega] at hc
    exact ⟨o, S, e, hc, onM.refl h.1.1⟩
  | m + 1, i, o, S, hi, h, hc => by
    have hW := h.1.1
    have hbk := h.1.2.2.1
    have hb := h.1.2.1
    have hP := h.1.2.2.2.2
    have hL := hP.2.2.2.2.1
    have h2 : 2 ^ p_L P ≤ 65536 := Nat.pow_le_pow_right (n := 2) (by omega) hL
    have hl : gI S 402 (nI b).toNatClampNeg = nI (p_L P) := by rw [nI_clamp (by omega)]; exact h.1.2.2.2.1.2.2.2.2.1
    have zi : z_in (nI b) 2 := (ni_in (by omega)).mpr hb
    have es : (1 : Int32) <<< (nI (p_L P) &&& (31 : Int32)) = nI (2 ^ p_L P) := ni_shl (by omega)
    have e := b248_4_eq (d + 5) (eO o) (nI i) S hW
    rw [hbk, if_pos zi, hl, es, if_neg (nI_ge (by omega) (by omega))] at e
    have nx : ∀ y S1, z_W S1 → b248_49 (d + 5) y (nI i) S1 = b248_4 (d + 5) y (nI (i + 1)) S1 := fun y S1 w => by rw [b248_49_eq (d + 5) y (nI i) S1 w, nI_1]
    have p1 := q_pc_le i
    have try_ : (∀ m, o = some m → q_pc i < q_pc m) → ∃ o' S', b248_35 (d + 5) (eO o) (nI i) S = some (eO o', S') ∧ w_cr (w_Gs P st) (p_R P) (p_L P) o' (2 ^ p_L P) ∧ onM (fun c _ => 432 ≤ c ∧ c ≤ 434) S S' := fun ho => by
      have e2 := b248_35_eq (d + 5) (eO o) (nI i) S hW
      obtain ⟨S1, a1, a2⟩ := m243 (d := d) h (show i < 65536 by omega)
      have hT : w_tg (w_Gs P st) (p_R P) (p_L P) i ≤ q_pc i := by
        have := w_lft_pc hL (w_GP_ok hP (q_h st)) (show i < 2 ^ p_L P by omega)
        have e : w_tg (w_Gs P st) (p_R P) (p_L P) i = w_tg (w_GP (q_h st) P) (p_R P) (p_L P) i := rfl
        omega
      rw [a1, zb_some, m206 (d := d + 4) a2.W (show i < 65536 by omega), zb_some, nx _ _ a2.W, nx _ _ a2.W] at e2
      by_cases c : w_tg (w_Gs P st) (p_R P) (p_L P) i < q_pc i
      · rw [if_neg (nI_ge c (by omega))] at e2
        obtain ⟨o', S', b1, b2, b3⟩ := m248_l m (i + 1) (some i) S1 (by omega) (h.on a2 fun c k z => z) (w_cr_yes hc ho c)
        exact ⟨o', S', e2.trans b1, b2, a2.trans b3⟩
      · rw [if_pos (nI_le (by omega) (by omega))] at e2
        obtain ⟨o', S', b1, b2, b3⟩ := m248_l m (i + 1) o S1 (by omega) (h.on a2 fun c k z => z) (w_cr_no hc c)
        exact ⟨o', S', e2.trans b1, b2, a2.trans b3⟩
    cases o with
    | none =>
      rw [if_pos (show eO none = (-1 : Int32) from rfl)] at e
      obtain ⟨o', S', b1, b2, b3⟩ := try_ fun m z => by cases z
      exact ⟨o', S', e.trans b1, b2, b3⟩
    | some v =>
      have hv := hc.1
      have p2 := q_pc_le v
      have a2 : fI (d + 5) 206 [.int (eO (some v))] S = some (nI (q_pc v), S) := m206 (d := d + 4) (z := v) hW (by omega)
      rw [if_neg (show ¬ eO (some v) = (-1 : Int32) from fun z => (ni_eqm (a := v) (by omega)).mp z), m206 (d := d + 4) hW (show i < 65536 by omega), zb_some, a2, zb_some] at e
      by_cases c : q_pc v ≤ q_pc i
      · rw [if_pos (nI_le c (by omega)), nx _ _ hW] at e
        obtain ⟨o', S', b1, b2, b3⟩ := m248_l m (i + 1) (some v) S (by omega) h (w_cr_ge hc c)
        exact ⟨o', S', e.trans b1, b2, b3⟩
      · rw [if_neg (nI_ge (by omega) (by omega))] at e
        obtain ⟨o', S', b1, b2, b3⟩ := try_ fun m z => by
          cases z
          omega
        exact ⟨o', S', e.trans b1, b2, b3⟩
theorem t_crowd {A : q_A} : twoI (d + 20) 125 248 [] A A := by
  refine two_q (eO (w_ca (a_G A) (p_L (a_P A)))) (fun S h hA => ?_) (fun S h hA => ?_)
  · have e := e125 (d + 19) S h.1
    have hB := (hA.2.1.Bd hA.1).1
    obtain ⟨q, hH, hq, hq2⟩ := h.Hq hA
    have hsh : gI S 27 2 = nI (q_h (a_s A)) := h.s.2.2.1
    obtain ⟨S1, a1, a2⟩ := c5 (d := d) hH hq2 hB
    rw [hq, hsh, a1, zb_some] at e
    exact ⟨S1, e, a2.mono fun c k z => by unfold wC at z; unfold cScr; omega⟩
  · obtain ⟨b, hb⟩ := h.xH hA
    have e := e248 (d + 19) S hb.1.1
    have h2 := Nat.two_pow_pos (p_L (a_P A))
    obtain ⟨o', S', b1, b2, b3⟩ := m248_l (d := d + 14) (2 ^ p_L (a_P A) - 1) 1 none S (by omega) hb fun s hs => by
      have : s = 0 := by omega
      rw [this]
      unfold w_dp
      have z : q_pc 0 = 0 := fb_ct_zero.mpr fun k _ => Nat.zero_testBit k
      omega
    have b1' : b248_4 (d + 19) (-1 : Int32) (1 : Int32) S = _ := b1
    rw [w_cr_one (w_ca_cr hA.1 (q_h (a_s A))) b2 |> fun (z : w_ca (a_G A) (p_L (a_P A)) = o') => z]
    exact ⟨S', e.trans b1', w_Dm b3⟩
end BR
