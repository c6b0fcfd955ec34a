/-! THE TEXT: lodge() of the class. -/
section HL
variable {d q : Nat} {T : List Nat} {S : z_S} {A : q_A}
def g_lA (A : q_A) : q_A := match g_txt (a_tp A) with
  | .inl e => ([], a_P A, a_s A, a_kl A, a_ud A, a_mt A, a_sd A, (e.1, some e.2), q_u (a_rf A) 1 (a_rf A 1 + 1), a_im A)
  | .inr Q => ([], Q.1, q_opn Q.1 (p_c Q.1) (q_no (p_H Q.1)), [], [], [], a_sd A, (0, none), a_rf A, a_im A)
def g_lvl (A : q_A) : Int32 := match g_txt (a_tp A) with
  | .inl _ => -nI 1
  | .inr Q => nI (p_m Q.1)
theorem xP.pl {p : Nat} {Q : g_Q} (h : xP S q Q) (hi : g_iv T p Q) (hT : T.length ≤ 1600) : cPl S q Q.1 := by
  obtain ⟨h0, h1, h2, h3, h4, h5, h6, h7, h8, h9, h10, h11, h12, h13, h14⟩ := h
  refine ⟨h0, h1, h2, h3, h4, h5, h6, h7, h9, h10, h11, h12, fun w hw => ?_⟩
  obtain ⟨i1, i2⟩ := hi.2.2.2.2.2.2 w hw
  have := hi.1
  have := hi.2.1
  obtain ⟨a1, a2⟩ := h14 w hw
  refine ⟨Q.2.2 w, by omega, a1, a2, fun i c z => ?_⟩
  have y := i2 i c z
  have yl : Q.2.2 w + i < Q.2.1.length := by
    rcases Nat.lt_or_ge (Q.2.2 w + i) Q.2.1.length with x | x
    · exact x
    · rw [List.getElem?_eq_none x] at y; cases y
  rw [h13 _ yl, List.getD_eq_getElem?_getD, y]
  rfl
theorem c109 (h : cA S A) (hA : aOk A) : ∃ S1, fI (d + 72) 109 [.ref 0] S = some (g_lvl A, S1) ∧ lR (fun c _ => c < 396) (fun c => c < 396) S S1 ∧ cA S1 (g_lA A) := by
  obtain ⟨h1, h2, ⟨q0, k1, k2, k3, k4, k5⟩, h4, h5, h6, h7, h8, h9, h10, h11⟩ := h
  obtain ⟨q, hq⟩ : ∃ q, q = 12 - q0 := ⟨_, rfl⟩
  have hq6 : z_K q = 6 := by
    rcases k1 with z | z
    · rw [hq, z]; decide +kernel
    · rw [hq, z]; decide +kernel
  have hq06 : z_K q0 = 6 := by
    rcases k1 with z | z
    · rw [z]; decide +kernel
    · rw [z]; decide +kernel
  have q2 := zP6 hq6
  have tp := hA.2.2.2.2.2.2.2.1
  obtain ⟨S0, l0, r0⟩ := c8s (d := d) (T := a_tp A) h1 hq6 tp.1 (fun i hi => ⟨h2.2 i hi, by
    show (a_tp A).getD i 0 < 256
    rw [List.getD_eq_getElem?_getD, List.getElem?_eq_getElem hi]
    exact tp.2 _ (List.getElem_mem hi)⟩) h11
  have e := e109 (d + 71) S h1
  rw [h2.1, k4, ← hq] at e
  have g0 : ∀ {S' : z_S} {c k : Nat}, c ≠ 0 → gI (sI (sI (sI S' 0 1 (0 : Int32)) 0 15 (gI (sI S' 0 1 (0 : Int32)) 18 0)) 0 16 (gI (sI (sI S' 0 1 (0 : Int32)) 0 15 (gI (sI S' 0 1 (0 : Int32)) 18 0)) 18 1)) c k = gI S' c k := fun {S' c k} z => by rw [gI_sI, if_neg z, gI_sI, if_neg z, gI_sI, if_neg z]
  have g1 : ∀ {S' : z_S} {k : Nat}, k ≠ 1 → k ≠ 15 → k ≠ 16 → gI (sI (sI (sI S' 0 1 (0 : Int32)) 0 15 (gI (sI S' 0 1 (0 : Int32)) 18 0)) 0 16 (gI (sI (sI S' 0 1 (0 : Int32)) 0 15 (gI (sI S' 0 1 (0 : Int32)) 18 0)) 18 1)) 0 k = gI S' 0 k := fun {S' k} z1 z2 z3 => by rw [gI_sI, if_pos rfl, if_neg z3, gI_sI, if_pos rfl, if_neg z2, gI_sI, if_pos rfl, if_neg z1]
  have g2 : ∀ {S' : z_S}, gI (sI (sI (sI S' 0 1 (0 : Int32)) 0 15 (gI (sI S' 0 1 (0 : Int32)) 18 0)) 0 16 (gI (sI (sI S' 0 1 (0 : Int32)) 0 15 (gI (sI S' 0 1 (0 : Int32)) 18 0)) 18 1)) 0 1 = 0 := fun {S'} => rfl
  have g3 : ∀ {S' : z_S}, gI (sI (sI (sI S' 0 1 (0 : Int32)) 0 15 (gI (sI S' 0 1 (0 : Int32)) 18 0)) 0 16 (gI (sI (sI S' 0 1 (0 : Int32)) 0 15 (gI (sI S' 0 1 (0 : Int32)) 18 0)) 18 1)) 0 15 = gI S' 18 0 := fun {S'} => rfl
  have g4 : ∀ {S' : z_S}, gI (sI (sI (sI S' 0 1 (0 : Int32)) 0 15 (gI (sI S' 0 1 (0 : Int32)) 18 0)) 0 16 (gI (sI (sI S' 0 1 (0 : Int32)) 0 15 (gI (sI S' 0 1 (0 : Int32)) 18 0)) 18 1)) 0 16 = gI S' 18 1 := fun {S'} => rfl
  have gp : ∀ {S' : z_S} {c k : Nat}, gR (sI (sI (sI S' 0 1 (0 : Int32)) 0 15 (gI (sI S' 0 1 (0 : Int32)) 18 0)) 0 16 (gI (sI (sI S' 0 1 (0 : Int32)) 0 15 (gI (sI S' 0 1 (0 : Int32)) 18 0)) 18 1)) c k = gR S' c k := fun {S' c k} => rfl
  have gl : ∀ {S' : z_S}, gL (sI (sI (sI S' 0 1 (0 : Int32)) 0 15 (gI (sI S' 0 1 (0 : Int32)) 18 0)) 0 16 (gI (sI (sI S' 0 1 (0 : Int32)) 0 15 (gI (sI S' 0 1 (0 : Int32)) 18 0)) 18 1)) = gL S' := fun {S'} => rfl
  have gw : ∀ {S' : z_S}, z_W S' → z_W (sI (sI (sI S' 0 1 (0 : Int32)) 0 15 (gI (sI S' 0 1 (0 : Int32)) 18 0)) 0 16 (gI (sI (sI S' 0 1 (0 : Int32)) 0 15 (gI (sI S' 0 1 (0 : Int32)) 18 0)) 18 1)) := fun {S'} w => w.sI.sI.sI
  unfold g_lvl g_lA
  cases eg : g_txt (a_tp A) with
  | inl f =>
    rw [eg] at r0
    obtain ⟨S', a1, a2, a3, a4⟩ := r0
    rw [a1, zb_some, if_neg (show ¬ ¬ (0 : Int32) = 0 by decide)] at e
    have lS : lR (lD q) (fun c => c = 18 ∨ c = 19) S S' := l0.o (a2.mono fun c k z => by unfold g_sD at z; unfold lD; omega)
    have G0 := @g0 S'
    have G1 := @g1 S'
    have G2 := @g2 S'
    have G3 := @g3 S'
    have G4 := @g4 S'
    have GP := @gp S'
    have GL := @gl S'
    have GW := gw a2.W
    clear g0 g1 g2 g3 g4 gp gl gw
    generalize sI (sI (sI S' 0 1 (0 : Int32)) 0 15 (gI (sI S' 0 1 (0 : Int32)) 18 0)) 0 16 (gI (sI (sI S' 0 1 (0 : Int32)) 0 15 (gI (sI S' 0 1 (0 : Int32)) 18 0)) 18 1) = S3 at *
    have fr : ∀ c k, ¬ lD q c k → c ≠ 0 → gI S3 c k = gI S c k := fun c k z y => (G0 y).trans (lS.2.2.2 c k z)
    have rf3 : xRf S3 395 (a_rf A) := h9.ag fun c k z => fr c k (by unfold lD; omega) (by omega)
    have e150 : fI (d + 71) 150 [.ref 0, .int (1 : Int32)] S3 = _ := c150 (d := d + 70) (j := 1) GW rf3 (by omega)
    rw [e150, zb_some] at e
    have ne : ∀ {c k}, c ≠ 395 → gI (sI S3 395 1 (nI (a_rf A 1 + 1))) c k = gI S3 c k := fun {c k} z => by rw [gI_sI, if_neg z]
    have fz : ∀ c k, ¬ lD q c k → c ≠ 0 → c ≠ 395 → gI (sI S3 395 1 (nI (a_rf A 1 + 1))) c k = gI S c k := fun c k z y x => (ne x).trans (fr c k z y)
    have rr : ∀ c k, c ≠ 18 → c ≠ 19 → gP (sI S3 395 1 (nI (a_rf A 1 + 1))) c k = gP S c k := fun c k z y => by
      show (gR S3 c k).getD 0 = _
      rw [GP, lS.2.2.1 c k (by omega)]; rfl
    refine ⟨_, e, ⟨GW.sI, by show gL S3 = _; rw [GL]; exact lS.2.1, fun c k z => ?_, fun c k z => fz c k (by unfold lD; omega) (by omega) (by omega)⟩, GW.sI, ⟨by rw [ne (by decide), G2]; rfl, fun i hi => absurd hi (Nat.not_lt_zero _)⟩, ⟨q0, k1, by rw [rr _ _ (by decide) (by decide)]; exact k2, by rw [rr _ _ (by decide) (by decide)]; exact k3, by rw [rr _ _ (by decide) (by decide)]; exact k4, k5.ag fun c k z => fz c k (by unfold lD; omega) (by omega) (by omega)⟩, h4.ag fun c k z => have z' : 27 ≤ c ∧ c ≤ 27 + 4 := z; fz c k (by unfold lD; omega) (by omega) (by omega), h5.ag fun c k z => fz c k (by unfold lD; omega) (by omega) (by omega), h6.ag fun c k z => fz c k (by unfold lD; omega) (by omega) (by omega), h7.ag fun c k z => fz c k (by unfold lD; omega) (by omega) (by omega), ⟨?_, ?_, ?_⟩, fun j hj => ?_, h10.ag fun c k z => fz c k (by unfold lD; omega) (by omega) (by omega), h11.ag fun c k z => fz c k (by unfold lD; omega) (by omega) (by omega)⟩
    · show gR S3 c k = _
      rw [GP]; exact lS.2.2.1 c k (by omega)
    · rw [ne (by decide), G1 (by decide) (by decide) (by decide), lS.2.2.2 0 14 (by unfold lD; omega)]; exact h8.1
    · rw [ne (by decide), G3]; exact a3
    · rw [ne (by decide), G4]; exact a4
    · show _ = nI (q_u (a_rf A) 1 (a_rf A 1 + 1) j)
      rw [gI_sI, if_pos rfl]
      by_cases c : j = 1
      · rw [if_pos c, c, q_us]
      · rw [if_neg c, q_un c]; exact rf3 j hj
  | inr Q =>
    rw [eg] at r0
    obtain ⟨S', p, a1, a2, a3, a4, a5⟩ := r0
    rw [a1, zb_some, if_pos (show ¬ (1 : Int32) = 0 by decide)] at e
    have lS : lR (lD q) (fun c => c = 18 ∨ c = 19) S S' := l0.o (a2.mono fun c k z => by unfold g_sD at z; unfold lD; omega)
    have G0 := @g0 S'
    have G1 := @g1 S'
    have G2 := @g2 S'
    have G3 := @g3 S'
    have G4 := @g4 S'
    have GP := @gp S'
    have GL := @gl S'
    have GW := gw a2.W
    clear g0 g1 g2 g3 g4 gp gl gw
    generalize sI (sI (sI S' 0 1 (0 : Int32)) 0 15 (gI (sI S' 0 1 (0 : Int32)) 18 0)) 0 16 (gI (sI (sI S' 0 1 (0 : Int32)) 0 15 (gI (sI S' 0 1 (0 : Int32)) 18 0)) 18 1) = S3 at *
    have p2 : gP S3 0 2 = q0 := by rw [← k2]; unfold gP; rw [GP, lS.2.2.1 0 2 (by omega)]
    have p3 : gP S3 0 3 = q := by rw [hq, ← k4]; unfold gP; rw [GP, lS.2.2.1 0 3 (by omega)]
    rw [p2, p3] at e
    have p4 : gP (sR (sR S3 0 2 (some q)) 0 3 (some q0)) 0 2 = q := rfl
    rw [p4] at e
    have W4 : z_W (sR (sR (sR S3 0 2 (some q)) 0 3 (some q0)) 22 0 (some q)) := zR_22_0 (zR_0_3 (zR_0_2 GW hq6) hq06) hq6
    have P2 : gP (sR (sR (sR S3 0 2 (some q)) 0 3 (some q0)) 22 0 (some q)) 0 2 = q := rfl
    have P3 : gP (sR (sR (sR S3 0 2 (some q)) 0 3 (some q0)) 22 0 (some q)) 0 3 = q0 := rfl
    have P22 : gP (sR (sR (sR S3 0 2 (some q)) 0 3 (some q0)) 22 0 (some q)) 22 0 = q := rfl
    have PR : ∀ c k, c ≠ 0 → c ≠ 22 → gR (sR (sR (sR S3 0 2 (some q)) 0 3 (some q0)) 22 0 (some q)) c k = gR S3 c k := fun c k z1 z2 => by rw [gR_sR, if_neg z2, gR_sR, if_neg z1, gR_sR, if_neg z1]
    have PI : gI (sR (sR (sR S3 0 2 (some q)) 0 3 (some q0)) 22 0 (some q)) = gI S3 := rfl
    have PL : gL (sR (sR (sR S3 0 2 (some q)) 0 3 (some q0)) 22 0 (some q)) = gL S3 := rfl
    generalize sR (sR (sR S3 0 2 (some q)) 0 3 (some q0)) 22 0 (some q) = S4 at *
    have hP := a4.2.2.1
    have pl3 : cPl S3 q Q.1 := by
      have := a3.2.2.2.pl a4 tp.1
      exact this.ag fun c k z => G0 (by omega)
    have pl4 : cPl S4 q Q.1 := pl3.ag fun c k z => by rw [PI]
    have e110' := e110 (d + 70) S4 W4
    rw [P2, pl4.2.2.2.2.2.1] at e110'
    obtain ⟨S5, b1, b2, b3⟩ := c74 (d := d + 68) (p := 27) (h := p_H Q.1) W4 zK_27
    rw [b1, Option.bind_some] at e110'
    have o6 : onI (fun c k => c = 37 ∧ k = 0 ∨ c = 39 ∧ k = 0 ∨ c = 182 ∧ k = 0) S5 (sI (sI (sI S5 37 0 (0 : Int32)) 39 0 (0 : Int32)) 182 0 (0 : Int32)) := onI_sI (D := fun c k => c = 37 ∧ k = 0 ∨ c = 39 ∧ k = 0 ∨ c = 182 ∧ k = 0) (c := 182) (k := 0) (onI_sI (D := fun c k => c = 37 ∧ k = 0 ∨ c = 39 ∧ k = 0 ∨ c = 182 ∧ k = 0) (c := 39) (k := 0) (onI_sI (D := fun c k => c = 37 ∧ k = 0 ∨ c = 39 ∧ k = 0 ∨ c = 182 ∧ k = 0) (c := 37) (k := 0) (onI.refl b2.W) (by omega)) (by omega)) (by omega)
    have z37 : gI (sI (sI (sI S5 37 0 (0 : Int32)) 39 0 (0 : Int32)) 182 0 (0 : Int32)) 37 0 = 0 := rfl
    have z39 : gI (sI (sI (sI S5 37 0 (0 : Int32)) 39 0 (0 : Int32)) 182 0 (0 : Int32)) 39 0 = 0 := rfl
    have z182 : gI (sI (sI (sI S5 37 0 (0 : Int32)) 39 0 (0 : Int32)) 182 0 (0 : Int32)) 182 0 = 0 := rfl
    generalize sI (sI (sI S5 37 0 (0 : Int32)) 39 0 (0 : Int32)) 182 0 (0 : Int32) = S6 at *
    have o46 : onI (fun c k => 27 ≤ c ∧ c ≤ 31 ∨ c = 37 ∧ k = 0 ∨ c = 39 ∧ k = 0 ∨ c = 182 ∧ k = 0) S4 S6 := (b2.mono fun c k z => by unfold pD at z; omega).trans (o6.mono fun c k z => by omega)
    have hH : cH S6 q Q.1 := ⟨o46.W, hq6, by rw [o46.P]; exact P22, pl4.on o46 fun c k y1 y2 y3 => by omega, hP⟩
    have hs6 : cSt S6 27 16 (q_no (p_H Q.1)) := b3.on o6 fun c k y1 y2 y3 => by omega
    obtain ⟨S7, f1, f2, f3⟩ := c110_l (d := d + 64) (q := q) (P := Q.1) (p_c Q.1).length 0 S6 _ (by omega) hH (by rw [o46.P]; exact P2) hs6 (q_no_G hP) (fun _ _ => rfl)
    have f1' : b110_40 (d + 70) 0 S6 = some S7 := f1
    rw [f1'] at e110'
    rw [List.drop_zero] at f3
    have o47 : onI (fun c k => 23 ≤ c ∧ c ≤ 31 ∨ c = 37 ∧ k = 0 ∨ c = 39 ∧ k = 0 ∨ c = 182 ∧ k = 0) S4 S7 := (o46.mono fun c k z => by omega).trans (f2.mono fun c k z => by unfold hD at z; omega)
    have r7 : gI S7 q 0 = nI (p_m Q.1) := by rw [o47.I (by omega)]; exact pl4.1
    rw [e110', Option.bind_some, o47.P, P2, r7] at e
    have fr : ∀ c k, ¬ lD q c k → c ≠ 0 → ¬ (23 ≤ c ∧ c ≤ 31 ∨ c = 37 ∧ k = 0 ∨ c = 39 ∧ k = 0 ∨ c = 182 ∧ k = 0) → gI S7 c k = gI S c k := fun c k z y x => by
      rw [o47.I x, PI, G0 y]; exact lS.2.2.2 c k z
    have c7 : ∀ {k}, gI S7 0 k = gI S3 0 k := fun {k} => by rw [o47.I (by omega), PI]
    refine ⟨S7, e, ⟨o47.W, by rw [o47.2.2.1, PL, GL]; exact lS.2.1, fun c k z => ?_, fun c k z => fr c k (by unfold lD; omega) (by omega) (by omega)⟩, o47.W, ⟨by rw [c7, G2]; rfl, fun i hi => absurd hi (Nat.not_lt_zero _)⟩, ⟨q, q2, by rw [o47.P]; exact P2, by rw [o47.P]; exact P22, by rw [o47.P, P3]; omega, pl4.on o47 fun c k y1 y2 y3 => by omega⟩, f3, ?_, ?_, ⟨?_, fun i hi => absurd hi (Nat.not_lt_zero _)⟩, ⟨?_, ?_, ?_⟩, h9.ag fun c k z => fr c k (by unfold lD; omega) (by omega) (by omega), h10.ag fun c k z => fr c k (by unfold lD; omega) (by omega) (by omega), h11.ag fun c k z => fr c k (by unfold lD; omega) (by omega) (by omega)⟩
    · have : gR S7 c k = gR S4 c k := by rw [o47.2.1]
      rw [this, PR c k (by omega) (by omega), GP]; exact lS.2.2.1 c k (by omega)
    · obtain ⟨_, _, od, y1, y2, _⟩ := h5
      refine ⟨Nat.zero_le _, by rw [f2.I (by unfold hD; omega), z37]; rfl, od, y1, by rw [fr 37 1 (by unfold lD; omega) (by decide) (by omega)]; exact y2, fun i hi => absurd hi (Nat.not_lt_zero _)⟩
    · obtain ⟨_, _, nx, y1, y2, _⟩ := h6
      refine ⟨Nat.zero_le _, by rw [f2.I (by unfold hD; omega), z39]; rfl, nx, y1, by rw [fr 39 1 (by unfold lD; omega) (by decide) (by omega)]; exact y2, fun i hi => absurd hi (Nat.not_lt_zero _)⟩
    · rw [f2.I (by unfold hD; omega), z182]; rfl
    · rw [c7, G1 (by decide) (by decide) (by decide), lS.2.2.2 0 14 (by unfold lD; omega)]; exact h8.1
    · rw [c7, G3]; exact a3.2.1.2.1
    · rw [c7, G4]; exact a3.2.1.2.2
end HL
