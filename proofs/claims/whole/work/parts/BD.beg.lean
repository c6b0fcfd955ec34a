/-! THE TEXT: the reference opens a house. -/
section IA
variable {d b : Nat} {P : q_Pl}
def bgD : Nat → Nat → Prop := fun c k => mD 0 c k ∨ c = 396 ∧ (k = 54 ∨ k = 56 ∨ k = 63)
theorem bgD_c {c k : Nat} (h : bgD c k) : 420 ≤ c ∧ c ≤ 431 ∨ c = 396 ∧ (k = 54 ∨ k = 56 ∨ k = 63) := by
  unfold bgD mD vD kD at h
  omega
theorem m197_31 {D : Nat} : ∀ (m i : Nat) (S : z_S), i + m = 16 → z_W S → ∃ S', b197_31 D (nI i) S = b197_52 D (0 : Int32) S' ∧ onM (fun c k => c = 423 ∧ i ≤ k ∧ k < 16) S S' ∧ ∀ k, i ≤ k → k < 16 → gI S' 423 k = -nI 1
  | 0, i, S, hi, hW => by
    rw [b197_31_eq D (nI i) S hW, if_pos (show (16 : Int32) ≤ nI i from nI_le (a := 16) (by omega) (by omega))]
    exact ⟨S, rfl, onM.refl hW, fun k z1 z2 => by omega⟩
  | m + 1, i, S, hi, hW => by
    have cl : (nI i).toNatClampNeg = i := nI_clamp (by omega)
    have o : onM (fun c k => c = 423 ∧ i ≤ k ∧ k < 16) S (sI S 423 i (-1 : Int32)) := onM_sI (D := fun c k => c = 423 ∧ i ≤ k ∧ k < 16) (c := 423) (k := i) (onM.refl hW) ⟨rfl, by omega, by omega⟩
    obtain ⟨S', a1, a2, a3⟩ := m197_31 m (i + 1) (sI S 423 i (-1 : Int32)) (by omega) o.W
    rw [b197_31_eq D (nI i) S hW, if_neg (show ¬ (16 : Int32) ≤ nI i from nI_ge (b := 16) (by omega) (by omega)), if_pos ((ni_in (by omega)).mpr (by omega)), cl, nI_1]
    refine ⟨S', a1, o.trans (a2.mono fun c k z => ⟨z.1, by omega, z.2.2⟩), fun k z1 z2 => ?_⟩
    by_cases c : k = i
    · rw [c, a2.I (by omega), gI_sI, if_pos rfl, if_pos rfl]; rfl
    · exact a3 k (by omega) z2
theorem m197_52 {D : Nat} : ∀ (m i : Nat) (S : z_S), i + m = 16 → cM S b P → ∃ S', b197_52 D (nI i) S = b197_93 D (0 : Int32) (sI (sI S' 425 0 (0 : Int32)) 396 56 (nI (p_T P))) ∧ onM (fun c k => c = 424 ∧ i ≤ k ∧ k < 16) S S' ∧ ∀ k, i ≤ k → k < 16 → gI S' 424 k = nI 0
  | 0, i, S, hi, hM => by
    have zin : z_in (nI b) 2 := (ni_in (by have := hM.2.1; omega)).mpr hM.2.1
    have cl : (nI b).toNatClampNeg = b := nI_clamp (by have := hM.2.1; omega)
    have z0 : ((0 : Int32)).toNatClampNeg = 0 := rfl
    have z22 : z_in (0 : Int32) 22 := (ni_in (a := 0) (by omega)).mpr (by omega)
    have g13 : gI (sI S 425 ((0 : Int32)).toNatClampNeg (0 : Int32)) 396 13 = nI b := by rw [gI_sI, if_neg (by decide)]; exact hM.2.2.1
    have g40 : gI (sI S 425 0 (0 : Int32)) 400 b = nI (p_T P) := by rw [gI_sI, if_neg (by decide)]; exact hM.2.2.2.1.2.2.1
    rw [b197_52_eq D (nI i) S hM.1, if_pos (show (16 : Int32) ≤ nI i from nI_le (a := 16) (by omega) (by omega)), if_pos z22, g13, if_pos zin, z0, cl, g40]
    exact ⟨S, rfl, onM.refl hM.1, fun k z1 z2 => by omega⟩
  | m + 1, i, S, hi, hM => by
    have cl : (nI i).toNatClampNeg = i := nI_clamp (by omega)
    have o : onM (fun c k => c = 424 ∧ i ≤ k ∧ k < 16) S (sI S 424 i (0 : Int32)) := onM_sI (D := fun c k => c = 424 ∧ i ≤ k ∧ k < 16) (c := 424) (k := i) (onM.refl hM.1) ⟨rfl, by omega, by omega⟩
    obtain ⟨S', a1, a2, a3⟩ := m197_52 m (i + 1) (sI S 424 i (0 : Int32)) (by omega) (hM.on o fun c k z y => by omega)
    rw [b197_52_eq D (nI i) S hM.1, if_neg (show ¬ (16 : Int32) ≤ nI i from nI_ge (b := 16) (by omega) (by omega)), if_pos ((ni_in (by omega)).mpr (by omega)), cl, nI_1]
    refine ⟨S', a1, o.trans (a2.mono fun c k z => ⟨z.1, by omega, z.2.2⟩), fun k z1 z2 => ?_⟩
    by_cases c : k = i
    · rw [c, a2.I (by omega), gI_sI, if_pos rfl, if_pos rfl]; rfl
    · exact a3 k (by omega) z2
theorem m197_93 : ∀ (m i : Nat) (S : z_S) (s : q_St), i + m = (p_c P).length → cM S b P → gI S 396 56 = nI (p_T P) → mSt S 0 s → (∃ kl, mKp S 0 kl) → q_Gd P s → (∀ k, k ∈ (p_c P).drop i → q_w s k = 255) → ∃ S', b197_93 (d + 7) (nI i) S = some S' ∧ onM bgD S S' ∧ mSt S' 0 (q_opn P ((p_c P).drop i) s) ∧ mKp S' 0 [] ∧ gI S' 396 54 = nI 0 ∧ gI S' 396 63 = nI 0 ∧ gI S' 396 56 = nI (p_T P)
  | 0, i, S, s, hi, hM, hT, hs, hk, hG, hw => by
    have hP := hM.2.2.2.2
    have l16 := hP.2.2.2.2.2.2.2.2.1
    have zin : z_in (nI b) 2 := (ni_in (by have := hM.2.1; omega)).mpr hM.2.1
    have r5 : gI S 405 (nI b).toNatClampNeg = nI (p_c P).length := by rw [nI_clamp (by have := hM.2.1; omega)]; exact hM.2.2.2.1.2.2.2.2.2.1
    have z0 : ((0 : Int32)).toNatClampNeg = 0 := rfl
    have z22 : z_in (0 : Int32) 22 := (ni_in (a := 0) (by omega)).mpr (by omega)
    have hB6 := hP.2.1
    have l6 := hG.2.2.2.2.2.2.2.2.2.1
    rw [b197_93_eq (d + 7) (nI i) S hM.1, hM.2.2.1, if_pos zin, r5, if_pos (nI_le (by omega) (by omega)), if_pos z22, z0, List.drop_eq_nil_of_le (by omega)]
    have o : onM (fun c k => c = 427 ∧ k = 0 ∨ c = 396 ∧ (k = 54 ∨ k = 63)) S (sI (sI (sI S 427 0 (0 : Int32)) 396 54 (0 : Int32)) 396 63 (0 : Int32)) := onM_sI (D := fun c k => c = 427 ∧ k = 0 ∨ c = 396 ∧ (k = 54 ∨ k = 63)) (c := 396) (k := 63) (onM_sI (D := fun c k => c = 427 ∧ k = 0 ∨ c = 396 ∧ (k = 54 ∨ k = 63)) (c := 396) (k := 54) (onM_sI (D := fun c k => c = 427 ∧ k = 0 ∨ c = 396 ∧ (k = 54 ∨ k = 63)) (c := 427) (k := 0) (onM.refl hM.1) (by omega)) (by omega)) (by omega)
    have v1 : gI (sI (sI (sI S 427 0 (0 : Int32)) 396 54 (0 : Int32)) 396 63 (0 : Int32)) 427 0 = nI 0 := rfl
    have v2 : gI (sI (sI (sI S 427 0 (0 : Int32)) 396 54 (0 : Int32)) 396 63 (0 : Int32)) 396 54 = nI 0 := rfl
    have v3 : gI (sI (sI (sI S 427 0 (0 : Int32)) 396 54 (0 : Int32)) 396 63 (0 : Int32)) 396 63 = nI 0 := rfl
    generalize sI (sI (sI S 427 0 (0 : Int32)) 396 54 (0 : Int32)) 396 63 (0 : Int32) = S1 at *
    exact ⟨S1, rfl, o.mono fun c k z => by unfold bgD mD kD; omega, hs.on (by omega) o fun c k z y => by unfold vD at z; omega, ⟨Nat.zero_le _, v1, fun j hj => absurd hj (Nat.not_lt_zero _)⟩, v2, v3, by rw [o.I (by omega)]; exact hT⟩
  | m + 1, i, S, s, hi, hM, hT, hs, ⟨kl, hk⟩, hG, hw => by
    have hP := hM.2.2.2.2
    have hb := hM.2.1
    have l16 := hP.2.2.2.2.2.2.2.2.1
    have l0 := hP.2.2.2.2.1
    have hi' : i < (p_c P).length := by omega
    have gd : (p_c P).getD i 0 = (p_c P)[i] := by rw [List.getD_eq_getElem?_getD, List.getElem?_eq_getElem hi']; rfl
    have zin : z_in (nI b) 2 := (ni_in (by omega)).mpr hb
    have r5 : gI S 405 (nI b).toNatClampNeg = nI (p_c P).length := by rw [nI_clamp (by omega)]; exact hM.2.2.2.1.2.2.2.2.2.1
    have ad : (16 : Int32) * nI b + nI i = nI (16 * b + i) := by simp (disch := omega) only [ni_lit, nI_add, pk_mul, pk_sub, pk_div, nI_leI, nI_ltI, nI_eq, nI_clamp, ni_in, ni_inm, ni_ltm, ni_mlt, ni_lem, ni_mle, ni_eqm, ni_meq, ni_mm, ni_mmle, ni_bit, ni_shl, ni_clr, fa_or, Nat.add_zero, Nat.zero_add, Nat.zero_mul, Nat.mul_zero, eOn, eOs]
    have r6 : gI S 406 (nI (16 * b + i)).toNatClampNeg = nI (p_c P)[i] := by rw [nI_clamp (by omega), hM.2.2.2.1.2.2.2.2.2.2.2.2.2.1 i hi', gd]
    have dc := List.drop_eq_getElem_cons hi'
    rw [dc] at hw
    have kl' := hP.2.2.2.2.2.2.2.2.2.1 _ (List.getElem_mem hi')
    have kw := hw _ List.mem_cons_self
    have nd := hP.2.2.2.2.2.2.2.2.2.2.1
    have nd2 : ((p_c P)[i] :: (p_c P).drop (i + 1)).Nodup := by rw [← dc]; exact nd.sublist (List.drop_sublist _ _)
    obtain ⟨n1, n2⟩ := List.nodup_cons.mp nd2
    obtain ⟨S', a1, a2, a3, a4, _⟩ := m220 (d := d) (v := 0) hM (by omega) hT hP.2.2.1 hs hk hG kl' kw
    have a1' : fI (d + 7) 220 [.ref 396, .int (0 : Int32), .int (nI (p_c P)[i])] S = some (nI (q_arr P (p_T P) s (p_c P)[i]).2.length, S') := a1
    rw [b197_93_eq (d + 7) (nI i) S hM.1, hM.2.2.1, if_pos zin, r5, if_neg (nI_ge (by omega) (by omega)), ad, if_pos ((ni_in (by omega)).mpr (by omega)), r6, a1', zb_some, nI_1]
    have mc : ∀ {c k}, mD 0 c k → 420 ≤ c ∧ c ≤ 431 := fun {c k} z => by unfold mD vD kD at z; omega
    obtain ⟨S2, b1, b2, b3⟩ := m197_93 m (i + 1) S' _ (by omega) (hM.on a2 fun c k z y => by have := mc y; omega) (by rw [a2.I (fun z => by have := mc z; omega)]; exact hT) a3 ⟨_, a4⟩ (q_arr_G hP hG kl' kw) (fun j hj => q_arr_w hP hG kl' kw (fun z => n1 (by rw [← z]; exact hj)) (hw j (List.mem_cons_of_mem _ hj)))
    refine ⟨S2, b1, (a2.mono fun c k z => Or.inl z).trans b2, ?_⟩
    rw [dc]
    exact b3
theorem m197 {S : z_S} {kl : List (Nat × Nat × Nat)} (hM : cM S b P) (hk : mKp S 0 kl) : ∃ S', fV (d + 8) 197 [.ref 396] S = some S' ∧ onM bgD S S' ∧ mSt S' 0 (q_opn P (p_c P) (q_no (p_H P))) ∧ mKp S' 0 [] ∧ gI S' 396 54 = nI 0 ∧ gI S' 396 63 = nI 0 ∧ gI S' 396 56 = nI (p_T P) := by
  have hb := hM.2.1
  have hP := hM.2.2.2.2
  have zin : z_in (nI b) 2 := (ni_in (by omega)).mpr hb
  have z0 : ((0 : Int32)).toNatClampNeg = 0 := rfl
  have z22 : z_in (0 : Int32) 22 := (ni_in (a := 0) (by omega)).mpr (by omega)
  have g13 : gI (sI (sI S 420 ((0 : Int32)).toNatClampNeg (0 : Int32)) 421 ((0 : Int32)).toNatClampNeg (0 : Int32)) 396 13 = nI b := by rw [gI_sI, if_neg (by decide), gI_sI, if_neg (by decide)]; exact hM.2.2.1
  have g7 : gI (sI (sI S 420 0 (0 : Int32)) 421 0 (0 : Int32)) 407 (nI b).toNatClampNeg = nI (p_H P) := by rw [nI_clamp (by omega), gI_sI, if_neg (by decide), gI_sI, if_neg (by decide)]; exact hM.2.2.2.1.2.2.2.2.2.2.1
  have e := e197 (d + 7) S hM.1
  rw [if_pos z22, if_pos z22, g13, if_pos zin, if_pos z22, z0, g7] at e
  have o : onM (fun c k => (c = 420 ∨ c = 421 ∨ c = 422) ∧ k = 0) S (sI (sI (sI S 420 0 (0 : Int32)) 421 0 (0 : Int32)) 422 0 (nI (p_H P))) := onM_sI (D := fun c k => (c = 420 ∨ c = 421 ∨ c = 422) ∧ k = 0) (c := 422) (k := 0) (onM_sI (D := fun c k => (c = 420 ∨ c = 421 ∨ c = 422) ∧ k = 0) (c := 421) (k := 0) (onM_sI (D := fun c k => (c = 420 ∨ c = 421 ∨ c = 422) ∧ k = 0) (c := 420) (k := 0) (onM.refl hM.1) (by omega)) (by omega)) (by omega)
  have v0 : gI (sI (sI (sI S 420 0 (0 : Int32)) 421 0 (0 : Int32)) 422 0 (nI (p_H P))) 420 0 = nI 0 := rfl
  have v1 : gI (sI (sI (sI S 420 0 (0 : Int32)) 421 0 (0 : Int32)) 422 0 (nI (p_H P))) 421 0 = nI 0 := rfl
  have v2 : gI (sI (sI (sI S 420 0 (0 : Int32)) 421 0 (0 : Int32)) 422 0 (nI (p_H P))) 422 0 = nI (p_H P) := rfl
  generalize sI (sI (sI S 420 0 (0 : Int32)) 421 0 (0 : Int32)) 422 0 (nI (p_H P)) = S1 at *
  obtain ⟨S2, a1, a2, a3⟩ := m197_31 (D := d + 7) 16 0 S1 (by omega) o.W
  have a1' : b197_31 (d + 7) (0 : Int32) S1 = b197_52 (d + 7) (0 : Int32) S2 := a1
  have hM2 : cM S2 b P := (hM.on o fun c k z y => by omega).on a2 fun c k z y => by omega
  obtain ⟨S3, b1, b2, b3⟩ := m197_52 (D := d + 7) 16 0 S2 (by omega) hM2
  have b1' : b197_52 (d + 7) (0 : Int32) S2 = b197_93 (d + 7) (0 : Int32) (sI (sI S3 425 0 (0 : Int32)) 396 56 (nI (p_T P))) := b1
  rw [a1', b1'] at e
  have o4 : onM (fun c k => c = 425 ∧ k = 0 ∨ c = 396 ∧ k = 56) S3 (sI (sI S3 425 0 (0 : Int32)) 396 56 (nI (p_T P))) := onM_sI (D := fun c k => c = 425 ∧ k = 0 ∨ c = 396 ∧ k = 56) (c := 396) (k := 56) (onM_sI (D := fun c k => c = 425 ∧ k = 0 ∨ c = 396 ∧ k = 56) (c := 425) (k := 0) (onM.refl b2.W) (by omega)) (by omega)
  have v5 : gI (sI (sI S3 425 0 (0 : Int32)) 396 56 (nI (p_T P))) 425 0 = nI 0 := rfl
  have v6 : gI (sI (sI S3 425 0 (0 : Int32)) 396 56 (nI (p_T P))) 396 56 = nI (p_T P) := rfl
  generalize sI (sI S3 425 0 (0 : Int32)) 396 56 (nI (p_T P)) = S4 at *
  have hM4 : cM S4 b P := (hM2.on b2 fun c k z y => by omega).on o4 fun c k z y => by omega
  have oo : onM bgD S S4 := (o.mono fun c k z => by unfold bgD mD vD; omega).trans ((a2.mono fun c k z => by unfold bgD mD vD; omega).trans ((b2.mono fun c k z => by unfold bgD mD vD; omega).trans (o4.mono fun c k z => by unfold bgD mD vD; omega)))
  have s4 : mSt S4 0 (q_no (p_H P)) := by
    refine ⟨?_, ?_, ?_, v5, fun r hr => ?_, fun k hk => ?_, fun i hi => absurd hi (Nat.not_lt_zero _)⟩
    · rw [o4.I (by omega), b2.I (by omega), a2.I (by omega)]; exact v0
    · rw [o4.I (by omega), b2.I (by omega), a2.I (by omega)]; exact v1
    · rw [o4.I (by omega), b2.I (by omega), a2.I (by omega)]; exact v2
    · rw [o4.I (by omega), b2.I (by omega), show 16 * 0 + r = r by omega]; exact a3 r (by omega) hr
    · rw [o4.I (by omega), show 16 * 0 + k = k by omega]; exact b3 k (by omega) hk
  have k4 : mKp S4 0 kl := (((hk.on o fun c k z y => by unfold kD at z; omega).on a2 fun c k z y => by unfold kD at z; omega).on b2 fun c k z y => by unfold kD at z; omega).on o4 fun c k z y => by unfold kD at z; omega
  obtain ⟨S5, c1, c2, c3, c4⟩ := m197_93 (d := d) (p_c P).length 0 S4 (q_no (p_H P)) (by omega) hM4 v6 s4 ⟨kl, k4⟩ (q_no_G hP) (fun k _ => rfl)
  have c1' : b197_93 (d + 7) (0 : Int32) S4 = some S5 := c1
  rw [c1'] at e
  rw [List.drop_zero] at c3
  exact ⟨S5, e, oo.trans c2, c3, c4⟩
end IA
