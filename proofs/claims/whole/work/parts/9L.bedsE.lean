/-! BEDS: most and turned. -/
section BN
variable {d : Nat} {A : q_A} {x : Int32}
def a_G (A : q_A) : w_G := w_GP (q_h (a_s A)) (a_P A)
theorem cA.Hq {S : z_S} (h : cA S A) (hA : aOk A) : ∃ q, cH S q (a_P A) ∧ gP S 0 2 = q ∧ q ≤ 10 := by
  obtain ⟨h1, h2, ⟨q, k1, k2, k3, k4, k5⟩, _⟩ := h
  exact ⟨q, ⟨h1, zK2 k1, k3, k5, hA.1⟩, k2, by omega⟩
theorem mA.xH {S : z_S} (h : mA S A) (hA : aOk A) : ∃ b, xH S b (a_P A) (m_s A) := by
  obtain ⟨b, hb⟩ := h.2.1
  exact ⟨b, hb, h.2.2.2.2.1, m_s_Bd (hA.2.1.Bd hA.1)⟩
theorem w_2L (hA : aOk A) : 2 ^ p_L (a_P A) ≤ 65536 := Nat.pow_le_pow_right (n := 2) (by omega) hA.1.2.2.2.2.1
theorem w_Ds {S S1 : z_S} (h : onI w_D S S1) : onI (fun c k => c < 396 ∧ cScr c k) S S1 := h.mono fun c k z => by
  unfold w_D at z
  unfold cScr
  omega
theorem w_Dm {S S1 : z_S} (h : onM (fun c _ => 432 ≤ c ∧ c ≤ 434) S S1) : onM (fun c k => 396 ≤ c ∧ mScr c k) S S1 := h.mono fun c k z => by
  unfold mScr
  omega
theorem t_most : twoI (d + 20) 122 245 [.int x] A A := by
  refine two_q (if ixO (2 ^ p_L (a_P A)) x = true then nI (w_tg (a_G A) (p_R (a_P A)) (p_L (a_P A)) x.toInt.toNat) else -1) (fun S h hA => ?_) (fun S h hA => ?_)
  · have e := e122 (d + 19) x S h.1
    have hL := hA.1.2.2.2.2.1
    have h2 := w_2L hA
    have hB := (hA.2.1.Bd hA.1).1
    rw [c153 (d := d + 18) h hA, zb_some] at e
    cases c : ixO (2 ^ p_L (a_P A)) x with
    | false =>
      rw [c, if_neg (by decide)] at e
      rw [if_neg (by decide)]
      exact ⟨S, e, onI.refl h.1⟩
    | true =>
      obtain ⟨s, hs, rfl⟩ := ixO_t c (by omega)
      obtain ⟨q, hH, hq, hq2⟩ := h.Hq hA
      have hsh : gI S 27 2 = nI (q_h (a_s A)) := h.s.2.2.1
      rw [c, if_pos (by decide), c274 (d := d + 18) h.1 (by omega), zb_some, hq, hsh] at e
      obtain ⟨S1, a1, a2, a3⟩ := c1 (d := d + 16) hH hq2 hB (show s < 65536 by omega)
      have hlt := w_lft_lt (G := w_GP (q_h (a_s A)) (a_P A)) (L := p_L (a_P A)) s
      have hpc := w_lft_pc hL (w_GP_ok hA.1 (q_h (a_s A))) hs
      rw [a1, zb_some, c274 (d := d + 18) a2.W (by omega), zb_some, pk_sub (by omega)] at e
      rw [if_pos rfl, nI_toInt (by omega), show ((s : Int)).toNat = s from rfl]
      have ev : q_pc s - q_pc (w_lft (w_GP (q_h (a_s A)) (a_P A)) (p_L (a_P A)) s) = w_tg (a_G A) (p_R (a_P A)) (p_L (a_P A)) s := by
        show _ = w_tg (w_GP (q_h (a_s A)) (a_P A)) (p_R (a_P A)) (p_L (a_P A)) s
        omega
      rw [ev] at e
      exact ⟨S1, e, w_Ds a2⟩
  · obtain ⟨b, hb⟩ := h.xH hA
    have h2 := w_2L hA
    have e := e245 (d + 19) x S hb.1.1
    rw [m244 (d := d + 18) hb.1, zb_some] at e
    cases c : ixO (2 ^ p_L (a_P A)) x with
    | false =>
      rw [c, if_pos (by decide)] at e
      rw [if_neg (by decide)]
      exact ⟨S, e, onM.refl hb.1.1⟩
    | true =>
      obtain ⟨s, hs, rfl⟩ := ixO_t c (by omega)
      obtain ⟨S1, a1, a2⟩ := m243 (d := d + 14) hb (show s < 65536 by omega)
      rw [c, if_neg (by decide), a1, zb_some] at e
      rw [if_pos rfl, nI_toInt (by omega), show ((s : Int)).toNat = s from rfl]
      exact ⟨S1, e, w_Dm a2⟩
theorem m247_s {b s i : Nat} {S : z_S} {P : q_Pl} {st : q_St} (h : xH S b P st) (hs : s < 2 ^ p_L P) (hi : i < 2 ^ p_L P) : ∃ S', onM (fun c _ => 432 ≤ c ∧ c ≤ 434) S S' ∧ (w_tn (w_Gs P st) (p_R P) (p_L P) s i → b247_23 (d + 6) (nI s) (nI (q_pc s - w_tg (w_Gs P st) (p_R P) (p_L P) s)) (nI i) S = some (nI i, S')) ∧ (¬ w_tn (w_Gs P st) (p_R P) (p_L P) s i → b247_23 (d + 6) (nI s) (nI (q_pc s - w_tg (w_Gs P st) (p_R P) (p_L P) s)) (nI i) S = b247_23 (d + 6) (nI s) (nI (q_pc s - w_tg (w_Gs P st) (p_R P) (p_L P) s)) (nI (i + 1)) S') := by
  have hW := h.1.1
  have hbk := h.1.2.2.1
  have hb := h.1.2.1
  have hP := h.1.2.2.2.2
  have hL := hP.2.2.2.2.1
  have h2 : 2 ^ p_L P ≤ 65536 := Nat.pow_le_pow_right (n := 2) (by omega) hL
  have hl : gI S 402 (nI b).toNatClampNeg = nI (p_L P) := by rw [nI_clamp (by omega)]; exact h.1.2.2.2.1.2.2.2.2.1
  have zi : z_in (nI b) 2 := (ni_in (by omega)).mpr hb
  have es : (1 : Int32) <<< (nI (p_L P) &&& (31 : Int32)) = nI (2 ^ p_L P) := ni_shl (by omega)
  have hT : w_tg (w_Gs P st) (p_R P) (p_L P) s ≤ q_pc s := by
    have := w_lft_pc hL (w_GP_ok hP (q_h st)) hs
    have e : w_tg (w_Gs P st) (p_R P) (p_L P) s = w_tg (w_GP (q_h st) P) (p_R P) (p_L P) s := rfl
    omega
  have p1 := q_pc_le s
  have p2 := q_pc_le i
  generalize hM : q_pc s - w_tg (w_Gs P st) (p_R P) (p_L P) s = M
  have e := b247_23_eq (d + 6) (nI s) (nI M) (nI i) S hW
  have ec : nI i &&& (nI s ^^^ (-1 : Int32)) = nI (q_cl i s) := ni_clr i s
  have ec2 : nI s &&& (nI i ^^^ (-1 : Int32)) = nI (q_cl s i) := ni_clr s i
  rw [hbk, if_pos zi, hl, es, if_neg (nI_ge (by omega) (by omega)), ec, ec2] at e
  have nx : ∀ S1, z_W S1 → b247_74 (d + 6) (nI s) (nI M) (nI i) S1 = b247_23 (d + 6) (nI s) (nI M) (nI (i + 1)) S1 := fun S1 w => by rw [b247_74_eq (d + 6) (nI s) (nI M) (nI i) S1 w, nI_1]
  have q1 := q_cl_lt (b := s) hi
  have q2 := q_cl_lt (b := i) hs
  by_cases c1 : q_cl i s = 0
  · rw [if_neg (show ¬ ¬ nI (q_cl i s) = (0 : Int32) from fun z => z (by rw [c1]; rfl)), m206 (d := d + 5) hW (show i < 65536 by omega), zb_some] at e
    by_cases c2 : q_pc i = M
    · rw [c2, if_neg (fun z => z rfl)] at e
      obtain ⟨S1, a1, a2⟩ := m243 (d := d + 1) h (show q_cl s i < 65536 by omega)
      rw [a1, zb_some, m206 (d := d + 5) a2.W (show s < 65536 by omega), zb_some, pk_sub (by omega)] at e
      have hT2 : w_tg (w_Gs P st) (p_R P) (p_L P) (q_cl s i) ≤ 16 := by
        have := w_lft_pc hL (w_GP_ok hP (q_h st)) q2
        have e : w_tg (w_Gs P st) (p_R P) (p_L P) (q_cl s i) = w_tg (w_GP (q_h st) P) (p_R P) (p_L P) (q_cl s i) := rfl
        have := q_pc_le (q_cl s i)
        omega
      by_cases c3 : w_tg (w_Gs P st) (p_R P) (p_L P) (q_cl s i) = q_pc s - M
      · rw [c3, if_neg (fun z => z rfl)] at e
        refine ⟨S1, a2, fun _ => e, fun z => absurd ⟨c1, by omega, by omega⟩ z⟩
      · rw [if_pos (fun z => c3 ((nI_eq (by omega) (by omega)).mp z)), nx S1 a2.W] at e
        exact ⟨S1, a2, fun z => absurd (by have := z.2.2; omega) c3, fun _ => e⟩
    · rw [if_pos (fun z => c2 ((nI_eq (by omega) (by omega)).mp z)), nx S hW] at e
      exact ⟨S, onM.refl hW, fun z => absurd (by have := z.2.1; omega) c2, fun _ => e⟩
  · rw [if_pos (show ¬ nI (q_cl i s) = (0 : Int32) from fun z => c1 ((nI_eq (b := 0) (by omega) (by omega)).mp z)), nx S hW] at e
    exact ⟨S, onM.refl hW, fun z => absurd z.1 c1, fun _ => e⟩
theorem m247_l {b s : Nat} {P : q_Pl} {st : q_St} (hs : s < 2 ^ p_L P) : ∀ (m i : Nat) (S : z_S), xH S b P st → i + m = w_lft (w_Gs P st) (p_L P) s → ∃ S', b247_23 (d + 6) (nI s) (nI (q_pc s - w_tg (w_Gs P st) (p_R P) (p_L P) s)) (nI i) S = some (nI (w_lft (w_Gs P st) (p_L P) s), S') ∧ onM (fun c _ => 432 ≤ c ∧ c ≤ 434) S S'
  | 0, i, S, h, hi => by
    have hP := h.1.2.2.2.2
    have hlt := w_lft_lt (G := w_Gs P st) (L := p_L P) s
    obtain ⟨S1, a1, a2, a3⟩ := m247_s (d := d) h hs (show i < 2 ^ p_L P by omega)
    have hi' : i = w_lft (w_Gs P st) (p_L P) s := by omega
    have t : w_tn (w_Gs P st) (p_R P) (p_L P) s i := by
      rw [hi']
      exact w_tn_self hP.2.2.2.2.1 (w_GP_ok hP (q_h st)) hs
    have := a2 t
    rw [this, hi']
    exact ⟨S1, rfl, a1⟩
  | m + 1, i, S, h, hi => by
    have hP := h.1.2.2.2.2
    have hlt := w_lft_lt (G := w_Gs P st) (L := p_L P) s
    obtain ⟨S1, a1, a2, a3⟩ := m247_s (d := d) h hs (show i < 2 ^ p_L P by omega)
    have t : ¬ w_tn (w_Gs P st) (p_R P) (p_L P) s i := fun z => by
      have := w_tn_least hP.2.2.2.2.1 (w_GP_ok hP (q_h st)) hs z
      have e : w_lft (w_Gs P st) (p_L P) s = w_lft (w_GP (q_h st) P) (p_L P) s := rfl
      omega
    obtain ⟨S2, b1, b2⟩ := m247_l hs m (i + 1) S1 (h.on a1 fun c k z => z) (by omega)
    exact ⟨S2, (a3 t).trans b1, a1.trans b2⟩
theorem t_turned : twoI (d + 20) 124 247 [.int x] A A := by
  refine two_q (if ixO (2 ^ p_L (a_P A)) x = true then nI (w_lft (a_G A) (p_L (a_P A)) x.toInt.toNat) else -1) (fun S h hA => ?_) (fun S h hA => ?_)
  · have e := e124 (d + 19) x S h.1
    have h2 := w_2L hA
    have hB := (hA.2.1.Bd hA.1).1
    rw [c153 (d := d + 18) h hA, zb_some] at e
    cases c : ixO (2 ^ p_L (a_P A)) x with
    | false =>
      rw [c, if_pos (by decide)] at e
      rw [if_neg (by decide)]
      exact ⟨S, e, onI.refl h.1⟩
    | true =>
      obtain ⟨s, hs, rfl⟩ := ixO_t c (by omega)
      obtain ⟨q, hH, hq, hq2⟩ := h.Hq hA
      have hsh : gI S 27 2 = nI (q_h (a_s A)) := h.s.2.2.1
      obtain ⟨S1, a1, a2, a3⟩ := c1 (d := d + 16) hH hq2 hB (show s < 65536 by omega)
      rw [c, if_neg (by decide), hq, hsh, a1, zb_some] at e
      rw [if_pos rfl, nI_toInt (by omega), show ((s : Int)).toNat = s from rfl]
      exact ⟨S1, e, w_Ds a2⟩
  · obtain ⟨b, hb⟩ := h.xH hA
    have h2 := w_2L hA
    have hL := hA.1.2.2.2.2.1
    have e := e247 (d + 19) x S hb.1.1
    rw [m244 (d := d + 18) hb.1, zb_some] at e
    cases c : ixO (2 ^ p_L (a_P A)) x with
    | false =>
      rw [c, if_neg (by decide)] at e
      rw [if_neg (by decide)]
      exact ⟨S, e, onM.refl hb.1.1⟩
    | true =>
      obtain ⟨s, hs, rfl⟩ := ixO_t c (by omega)
      obtain ⟨S1, a1, a2⟩ := m243 (d := d + 14) hb (show s < 65536 by omega)
      have hT := w_lft_pc hL (w_GP_ok hA.1 (q_h (a_s A))) hs
      have eT : w_tg (w_Gs (a_P A) (m_s A)) (p_R (a_P A)) (p_L (a_P A)) s = w_tg (w_GP (q_h (a_s A)) (a_P A)) (p_R (a_P A)) (p_L (a_P A)) s := rfl
      have eL : w_lft (w_Gs (a_P A) (m_s A)) (p_L (a_P A)) s = w_lft (w_GP (q_h (a_s A)) (a_P A)) (p_L (a_P A)) s := rfl
      rw [c, if_pos (by decide), m206 (d := d + 18) hb.1.1 (show s < 65536 by omega), zb_some, a1, zb_some, pk_sub (by omega)] at e
      obtain ⟨S2, b1, b2⟩ := m247_l (d := d + 13) hs (w_lft (w_Gs (a_P A) (m_s A)) (p_L (a_P A)) s) 0 S1 (hb.on a2 fun c k z => z) (by omega)
      rw [if_pos rfl, nI_toInt (by omega), show ((s : Int)).toNat = s from rfl]
      exact ⟨S2, e.trans b1, w_Dm (a2.trans b2)⟩
end BN
