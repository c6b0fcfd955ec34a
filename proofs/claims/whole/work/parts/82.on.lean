/-! ON: go on from an image. -/
section TW
variable {d b : Nat} {S : z_S} {P : q_Pl} {tp : List Nat} {s : q_St} {A : q_A} {kl : List (Nat × Nat × Nat)}
theorem m272 (hb : ∀ x, x ∈ tp → x < 256) (hl2 : tp.length ≤ 1600) (h : mE S b P tp) (h42 : gI S 396 42 = bI (decide (0 < p_m P))) (hs : 0 < p_m P → mSt S 0 s) (hk : mKp S 0 kl) (hG : q_Gd P s) : ∃ (v : Bool) (S' : z_S), fI (d + 4) 272 [.ref 396, .int (nI tp.length)] S = some (bI v, S') ∧ onM rD S S' ∧ (v = true ↔ 0 < p_m P ∧ ∃ s', q_RD P tp s') ∧ (v = true → ∀ s', q_RD P tp s' → mSt S' 1 s' ∧ mKp S' 1 []) := by
  have hM := h.1
  have hP := hM.2.2.2.2
  have hL := hP.2.2.2.2.1
  have hR := hP.1
  have hBB := hP.2.1
  have hbb := hM.2.1
  have hW := hM.1
  have e := e272 (d + 3) (nI tp.length) S hW
  have ib : z_in (nI b) 2 := (ni_in (by omega)).mpr hbb
  have gR : gI S 398 (nI b).toNatClampNeg = nI (p_R P) := by rw [nI_clamp (by omega)]; exact hM.2.2.2.1.1
  have gB : gI S 399 (nI b).toNatClampNeg = nI (p_B P) := by rw [nI_clamp (by omega)]; exact hM.2.2.2.1.2.1
  have gL2 : gI S 402 (nI b).toNatClampNeg = nI (p_L P) := by rw [nI_clamp (by omega)]; exact hM.2.2.2.1.2.2.2.2.1
  have fail : (¬ (0 < p_m P ∧ ∃ s', q_RD P tp s')) → ∀ S', onM rD S S' → fI (d + 4) 272 [.ref 396, .int (nI tp.length)] S = some ((0 : Int32), S') → ∃ (v : Bool) (S' : z_S), fI (d + 4) 272 [.ref 396, .int (nI tp.length)] S = some (bI v, S') ∧ onM rD S S' ∧ (v = true ↔ 0 < p_m P ∧ ∃ s', q_RD P tp s') ∧ (v = true → ∀ s', q_RD P tp s' → mSt S' 1 s' ∧ mKp S' 1 []) := fun hx S' ho he => ⟨false, S', he, ho, ⟨fun z => Bool.noConfusion z, fun z => absurd z hx⟩, fun z => Bool.noConfusion z⟩
  rw [hM.2.2.1, h42, gR, gB, gL2, if_pos ib, if_pos ib, if_pos (show z_in (2 : Int32) 1800 by decide), if_pos (show z_in (3 : Int32) 1800 by decide), if_pos (show z_in (4 : Int32) 1800 by decide)] at e
  rcases Classical.em (¬ 0 < p_m P) with c0 | c0
  · rw [decide_eq_false c0, if_pos (by rfl)] at e
    exact fail (fun z => c0 z.1) S (onM.refl hW) e
  have c0' := Classical.not_not.mp c0
  rw [decide_eq_true c0', if_neg (show ¬ bI true = (0 : Int32) by decide)] at e
  rw [show (5 : Int32) = nI 5 from rfl, show (2 : Int32) = nI 2 from rfl, nI_add, pk_mul, nI_add, nI_add] at e
  by_cases c1 : tp.length < 5 + p_R P + 2 * p_L P + 2
  · rw [if_pos ((nI_ltI (by omega) (by omega)).mpr c1)] at e
    exact fail (fun ⟨_, s', z, _⟩ => by have := z.1; omega) S (onM.refl hW) e
  have g0 : gI S 397 (nI (5 + p_R P + 2 * p_L P)).toNatClampNeg = nI (tp.getD (5 + p_R P + 2 * p_L P) 0) := by rw [nI_clamp (by omega)]; exact h.2 _ (by omega)
  have l0 := tp_b hb (5 + p_R P + 2 * p_L P)
  have iA : z_in (nI (5 + p_R P + 2 * p_L P)) 1800 := (ni_in (by omega)).mpr (by omega)
  rw [if_neg (fun z => c1 ((nI_ltI (by omega) (by omega)).mp z)), if_pos iA, if_pos ib, g0, if_pos iA, nI_add, nI_add] at e
  rcases Classical.em (¬ tp.getD (5 + p_R P + 2 * p_L P) 0 ≤ p_B P) with c2 | c2
  · rw [if_pos ((nI_ltI (by omega) (by omega)).mpr (by omega))] at e
    exact fail (fun ⟨_, s', _, s, _, z, _⟩ => c2 z.1) S (onM.refl hW) e
  have c2' := Classical.not_not.mp c2
  rw [if_neg (fun z => by have := (nI_ltI (by omega) (by omega)).mp z; omega)] at e
  rcases Classical.em (¬ 5 + p_R P + 2 * p_L P + 2 + tp.getD (5 + p_R P + 2 * p_L P) 0 = tp.length) with c3 | c3
  · rw [if_pos (fun z => by have := (nI_eq (by omega) (by omega)).mp z; omega)] at e
    exact fail (fun ⟨_, s', z, _⟩ => c3 z.1) S (onM.refl hW) e
  have c3' := Classical.not_not.mp c3
  have t0 : gI S 397 ((0 : Int32)).toNatClampNeg = nI (tp.getD 0 0) := h.2 0 (by omega)
  have t1 : gI S 397 ((1 : Int32)).toNatClampNeg = nI (tp.getD 1 0) := h.2 1 (by omega)
  have t2 : gI S 397 (nI 2).toNatClampNeg = nI (tp.getD 2 0) := h.2 2 (by omega)
  have t3 : gI S 397 ((3 : Int32)).toNatClampNeg = nI (tp.getD 3 0) := h.2 3 (by omega)
  have t4 : gI S 397 ((4 : Int32)).toNatClampNeg = nI (tp.getD 4 0) := h.2 4 (by omega)
  have b0 := tp_b hb 0
  have b1 := tp_b hb 1
  have b2 := tp_b hb 2
  have b3 := tp_b hb 3
  have b4 := tp_b hb 4
  have hN := q_999 (q_hN b0 b1)
  rw [if_neg (fun z => z (show nI tp.length = nI (5 + p_R P + 2 * p_L P + tp.getD (5 + p_R P + 2 * p_L P) 0 + 2) from congrArg nI (by omega))), if_pos (show z_in (0 : Int32) 1800 by decide), if_pos (show z_in (1 : Int32) 1800 by decide), t0, t1, t2, t3, t4, q_n2 b1 b0, q_n3 b2 b3 b4] at e
  rcases Classical.em (¬ tp.getD 0 0 * 256 + tp.getD 1 0 ≤ 999) with c4 | c4
  · rw [if_pos (hN.mpr c4)] at e
    exact fail (fun ⟨_, s', z, _⟩ => c4 z.2.2.1) S (onM.refl hW) e
  have c4' := Classical.not_not.mp c4
  have hPp : nI (tp.getD 2 0 * 65536 + tp.getD 3 0 * 256 + tp.getD 4 0) ≤ (999999 : Int32) ↔ tp.getD 2 0 * 65536 + tp.getD 3 0 * 256 + tp.getD 4 0 ≤ 999999 := nI_leI (b := 999999) (q_hP b2 b3 b4) (by decide)
  rw [if_neg (fun z => hN.mp z c4')] at e
  rcases Classical.em (¬ tp.getD 2 0 * 65536 + tp.getD 3 0 * 256 + tp.getD 4 0 ≤ 999999) with c5 | c5
  · rw [if_neg (fun z => c5 (hPp.mp z))] at e
    exact fail (fun ⟨_, s', z, _⟩ => c5 z.2.2.2.1) S (onM.refl hW) e
  have c5' := Classical.not_not.mp c5
  rw [if_pos (hPp.mpr c5')] at e
  have ek := m272_k (d := d + 3) (y2 := nI (5 + p_R P)) (y3 := nI (5 + p_R P + 2 * p_L P)) (y4 := nI (tp.getD 2 0 * 65536 + tp.getD 3 0 * 256 + tp.getD 4 0)) hb hW h.2 hl2 (tp.length - 1) 0 (by omega)
  have e6 := e.trans ek
  have eE := b272_140_eq (d + 3) (nI tp.length) (nI (5 + p_R P)) (nI (5 + p_R P + 2 * p_L P)) (nI (tp.getD 2 0 * 65536 + tp.getD 3 0 * 256 + tp.getD 4 0)) (nI (q_ck (tp.take (tp.length - 1)))) (nI (tp.length - 1)) S hW
  have hm1 : nI tp.length - (1 : Int32) = nI (tp.length - 1) := pk_sub (b := 1) (by omega)
  have g9 : gI S 397 (nI (tp.length - 1)).toNatClampNeg = nI (tp.getD (tp.length - 1) 0) := by rw [nI_clamp (by omega)]; exact h.2 _ (by omega)
  have l9 := tp_b hb (tp.length - 1)
  have lck := q_ck_lt (tp.take (tp.length - 1))
  obtain ⟨S1, m1, m2, m3, m4⟩ := m196 (d := d + 2) (t := 1) (f := 0) hW (by omega) (by omega) (by omega) (hs c0') hk (hG.Bd hP).2.2.1
  have m1' : fV (d + 3) 196 [.ref 396, .int (1 : Int32), .int (0 : Int32)] S = some S1 := m1
  have o1 : onM rD S S1 := m2
  have h1 := h.on o1
  have v0 : gI S1 397 ((0 : Int32)).toNatClampNeg = nI (tp.getD 0 0) := h1.2 0 (by omega)
  have v1 : gI S1 397 ((1 : Int32)).toNatClampNeg = nI (tp.getD 1 0) := h1.2 1 (by omega)
  have i22 : z_in (1 : Int32) 22 := by decide
  rw [hm1, if_pos (show nI (tp.length - 1) ≤ nI (tp.length - 1) from (nI_leI (by omega) (by omega)).mpr (Nat.le_refl _)), if_pos (show z_in (nI (tp.length - 1)) 1800 from (ni_in (by omega)).mpr (by omega)), g9] at eE
  rcases Classical.em (¬ tp.getD (tp.length - 1) 0 = q_ck (tp.take (tp.length - 1))) with c6 | c6
  · rw [if_neg (fun z => c6 ((nI_eq (by omega) (by omega)).mp z))] at eE
    exact fail (fun ⟨_, s', z, _⟩ => c6 z.2.1) S (onM.refl hW) (e6.trans eE)
  have c6' := Classical.not_not.mp c6
  rw [if_pos (show nI (tp.getD (tp.length - 1) 0) = nI (q_ck (tp.take (tp.length - 1))) by rw [c6']), m1', Option.bind_some, if_pos (show z_in (0 : Int32) 1800 by decide), if_pos (show z_in (1 : Int32) 1800 by decide), if_pos i22, if_pos i22, if_pos i22, if_pos i22, v0, v1, q_n2 b1 b0, show ((1 : Int32)).toNatClampNeg = 1 from rfl] at eE
  have o2 : onM rD S1 (sI (sI (sI (sI S1 420 1 (nI (tp.getD 0 0 * 256 + tp.getD 1 0))) 421 1 (nI (tp.getD 2 0 * 65536 + tp.getD 3 0 * 256 + tp.getD 4 0))) 422 1 (0 : Int32)) 427 1 (0 : Int32)) := onM_sI (D := rD) (c := 427) (onM_sI (D := rD) (c := 422) (onM_sI (D := rD) (c := 421) (onM_sI (D := rD) (c := 420) (onM.refl h1.1.1) (by unfold rD vD; omega)) (by unfold rD vD; omega)) (by unfold rD vD; omega)) (by unfold rD kD; omega)
  obtain ⟨S3, k1, k2, k3⟩ := m272_c (d := d + 3) (y2 := nI (5 + p_R P)) (y3 := nI (5 + p_R P + 2 * p_L P)) 16 0 _ (by omega) o2.W (fun r hr => absurd hr (by omega))
  have o3 := o2.trans (k2.mono fun c k z => show rD c k by unfold rD vD; omega)
  have h3 := h1.on o3
  have r3 : mR S3 P 0 (q_rsi tp 0) := by
    refine ⟨?_, ?_, ?_, ?_, fun r hr => k3 r hr, fun k hk hk2 => ?_⟩
    · rw [k2.I (by omega), gI_sI, if_neg (by decide), gI_sI, if_neg (by decide), gI_sI, if_neg (by decide), gI_sI, if_pos rfl, if_pos rfl]; rfl
    · rw [k2.I (by omega), gI_sI, if_neg (by decide), gI_sI, if_neg (by decide), gI_sI, if_pos rfl, if_pos rfl]; rfl
    · rw [k2.I (by omega), gI_sI, if_neg (by decide), gI_sI, if_pos rfl, if_pos rfl]; rfl
    · rw [k2.I (by omega), gI_sI, if_pos rfl, if_pos rfl]; rfl
    · rw [k2.I (by omega), gI_sI, if_neg (by decide), gI_sI, if_neg (by decide), gI_sI, if_neg (by decide), gI_sI, if_neg (by decide)]
      have h424 := m3.2.2.2.2.2.1 k hk
      have hw : 16 ≤ q_w s k := by
        rcases Nat.lt_or_ge (q_w s k) 16 with z | z
        · have := (hG.2.2.2.1 _ k (hG.2.2.2.2.1 k z)).1
          omega
        · exact z
      rw [(hG.2.2.2.2.2.2.2.2.2.2.1 k).2 hw] at h424
      exact h424
  obtain ⟨v, S4, w1, w2, w3, w4⟩ := m272_t (d := d) hb c3' hl2 c2' c6' c4' c5' h3 r3
  exact ⟨v, S4, e6.trans (eE.trans (k1.trans w1)), (o1.trans o3).trans w2, ⟨fun z => ⟨c0', w3.mp z⟩, fun z => w3.mpr z.2⟩, fun _ => w4⟩
end TW
