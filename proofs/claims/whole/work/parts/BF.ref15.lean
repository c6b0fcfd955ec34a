/-! THE TEXT: lodge() of the reference. -/
section IC
variable {d b : Nat} {T : List Nat} {S : z_S} {A : q_A}
def m_X (S : z_S) (v : Int32) : z_S := sI (sI (sI (sI (sI (sI (sI (sI (sI (sI (sI (sI S 396 2 (gI S 396 1)) 396 1 (0 : Int32)) 396 5 (0 : Int32)) 396 8 (0 : Int32)) 396 9 (-1 : Int32)) 396 30 v) 399 v.toNatClampNeg (1 : Int32)) 400 v.toNatClampNeg (10 : Int32)) 401 v.toNatClampNeg (0 : Int32)) 402 v.toNatClampNeg (0 : Int32)) 405 v.toNatClampNeg (0 : Int32)) 407 v.toNatClampNeg (0 : Int32)
theorem e192n (hW : z_W S) (hz : z_in ((1 : Int32) - gI S 396 13) 2) : fI (d + 1) 192 [.ref 396] S = b192_106 d ((3 : Int32) * ((1 : Int32) - gI S 396 13)) (m_X S ((1 : Int32) - gI S 396 13)) := by
  rw [e192 d S hW]
  refine (if_pos (by exact hz)).trans ?_
  refine (if_pos (by exact hz)).trans ?_
  refine (if_pos (by exact hz)).trans ?_
  refine (if_pos (by exact hz)).trans ?_
  refine (if_pos (by exact hz)).trans ?_
  refine (if_pos (by exact hz)).trans ?_
  rfl
theorem m_X_k (hW : z_W S) (hb : b < 2) : onM (lgD b) S (m_X S (nI b)) ∧ (gI (m_X S (nI b)) 396 2 = gI S 396 1 ∧ gI (m_X S (nI b)) 396 1 = nI 0 ∧ gI (m_X S (nI b)) 396 5 = nI 0 ∧ gI (m_X S (nI b)) 396 8 = nI 0 ∧ gI (m_X S (nI b)) 396 9 = -nI 1 ∧ gI (m_X S (nI b)) 396 30 = nI b) ∧ gI (m_X S (nI b)) 399 b = nI 1 ∧ gI (m_X S (nI b)) 400 b = nI 10 ∧ gI (m_X S (nI b)) 401 b = nI 0 ∧ gI (m_X S (nI b)) 402 b = nI 0 ∧ gI (m_X S (nI b)) 405 b = nI 0 ∧ gI (m_X S (nI b)) 407 b = nI 0 := by
  have cl : (nI b).toNatClampNeg = b := nI_clamp (by omega)
  unfold m_X
  rw [cl]
  have a : ∀ {S' : z_S} {k : Nat} {v : Int32}, (k = 1 ∨ k = 2 ∨ k = 5 ∨ k = 8 ∨ k = 9 ∨ k = 30) → onM (lgD b) S S' → onM (lgD b) S (sI S' 396 k v) := fun {S' k v} z o => onM_sI (D := lgD b) (c := 396) (k := k) o (by unfold lgD g_rD; omega)
  have a2 : ∀ {S' : z_S} {c : Nat} {v : Int32}, 398 ≤ c ∧ c ≤ 402 ∨ c = 405 ∨ c = 407 → onM (lgD b) S S' → onM (lgD b) S (sI S' c b v) := fun {S' c v} z o => onM_sI (D := lgD b) (c := c) (k := b) o (by unfold lgD g_rD bkD; omega)
  refine ⟨a2 (by omega) (a2 (by omega) (a2 (by omega) (a2 (by omega) (a2 (by omega) (a2 (by omega) (a (by omega) (a (by omega) (a (by omega) (a (by omega) (a (by omega) (a (by omega) (onM.refl hW)))))))))))), ⟨rfl, rfl, rfl, rfl, rfl, rfl⟩, ?_, ?_, ?_, ?_, ?_, ?_⟩
  · repeat rw [gI_sI, if_neg (by decide)]
    rw [gI_sI, if_pos rfl, if_pos rfl]; rfl
  · repeat rw [gI_sI, if_neg (by decide)]
    rw [gI_sI, if_pos rfl, if_pos rfl]; rfl
  · repeat rw [gI_sI, if_neg (by decide)]
    rw [gI_sI, if_pos rfl, if_pos rfl]; rfl
  · repeat rw [gI_sI, if_neg (by decide)]
    rw [gI_sI, if_pos rfl, if_pos rfl]; rfl
  · repeat rw [gI_sI, if_neg (by decide)]
    rw [gI_sI, if_pos rfl, if_pos rfl]; rfl
  · rw [gI_sI, if_pos rfl, if_pos rfl]; rfl
theorem m192_106 {D : Nat} : ∀ (m i : Nat) (S : z_S), i + m = 3 → z_W S → b < 2 → gI S 396 30 = nI b → ∃ S', b192_106 D (nI (3 * b + i)) S = ((fV D 163 [.ref 396] (sI S' 396 29 (0 : Int32))).bind fun S9 => ((fV D 184 [.ref 396] S9).bind fun S11 => ((fV D 191 [.ref 396, .int (1 : Int32)] S11).bind fun S13 => b192_151 D (1 : Int32) S13))) ∧ onM (fun c k => c = 408 ∧ 3 * b + i ≤ k ∧ k < 3 * b + 3) S S' ∧ ∀ w, i ≤ w → w < 3 → gI S' 408 (3 * b + w) = -nI 1
  | 0, i, S, hi, hW, hb, h30 => by
    have ad : (3 : Int32) * nI b + (3 : Int32) = nI (3 * b + 3) := by simp (disch := omega) only [ni_lit, nI_add, pk_mul, pk_sub, pk_div, nI_leI, nI_ltI, nI_eq, nI_clamp, ni_in, ni_inm, ni_ltm, ni_mlt, ni_lem, ni_mle, ni_eqm, ni_meq, ni_mm, ni_mmle, ni_bit, ni_shl, ni_clr, fa_or, Nat.add_zero, Nat.zero_add, Nat.zero_mul, Nat.mul_zero, eOn, eOs]
    rw [b192_106_eq D _ S hW, h30, ad, if_pos (nI_le (by omega) (by omega))]
    exact ⟨S, rfl, onM.refl hW, fun w z1 z2 => by omega⟩
  | m + 1, i, S, hi, hW, hb, h30 => by
    have ad : (3 : Int32) * nI b + (3 : Int32) = nI (3 * b + 3) := by simp (disch := omega) only [ni_lit, nI_add, pk_mul, pk_sub, pk_div, nI_leI, nI_ltI, nI_eq, nI_clamp, ni_in, ni_inm, ni_ltm, ni_mlt, ni_lem, ni_mle, ni_eqm, ni_meq, ni_mm, ni_mmle, ni_bit, ni_shl, ni_clr, fa_or, Nat.add_zero, Nat.zero_add, Nat.zero_mul, Nat.mul_zero, eOn, eOs]
    have cl : (nI (3 * b + i)).toNatClampNeg = 3 * b + i := nI_clamp (by omega)
    have o : onM (fun c k => c = 408 ∧ 3 * b + i ≤ k ∧ k < 3 * b + 3) S (sI S 408 (3 * b + i) (-1 : Int32)) := onM_sI (D := fun c k => c = 408 ∧ 3 * b + i ≤ k ∧ k < 3 * b + 3) (c := 408) (k := 3 * b + i) (onM.refl hW) ⟨rfl, by omega, by omega⟩
    obtain ⟨S', a1, a2, a3⟩ := m192_106 (D := D) m (i + 1) (sI S 408 (3 * b + i) (-1 : Int32)) (by omega) o.W hb (by rw [o.I (by omega)]; exact h30)
    rw [b192_106_eq D _ S hW, h30, ad, if_neg (nI_ge (by omega) (by omega)), if_pos ((ni_in (by omega)).mpr (by omega)), cl, nI_1]
    refine ⟨S', a1, o.trans (a2.mono fun c k z => ⟨z.1, by omega, z.2.2⟩), fun w z1 z2 => ?_⟩
    by_cases c : w = i
    · rw [c, a2.I (by omega), gI_sI, if_pos rfl, if_pos rfl]; rfl
    · exact a3 w (by omega) z2
/-- the text is read -/
theorem m192a (hW : z_W S) (hb : b < 2) (h13 : gI S 396 13 = nI (1 - b)) (ht : gI S 396 1 = nI T.length ∧ ∀ i, i < T.length → gI S 397 i = nI (g_t T i) ∧ g_t T i < 256) (hT : T.length ≤ 1600) : ∃ S0, onM (lgD b) S S0 ∧ gI S0 396 1 = nI 0 ∧ gI S0 396 30 = nI b ∧ mRl (fI (d + 8) 192 [.ref 396] S) (d + 7) S0 T b (g_txt T) := by
  have hv : (1 : Int32) - gI S 396 13 = nI b := by
    rw [h13]
    have : b = 0 ∨ b = 1 := by omega
    rcases this with z | z
    · rw [z]; rfl
    · rw [z]; rfl
  have zin : z_in (nI b) 2 := (ni_in (by omega)).mpr hb
  have e := e192n (d := d + 7) hW (by rw [hv]; exact zin)
  obtain ⟨o1, ⟨x2, x1, x5, x8, x9, x30⟩, y1, y2, y3, y4, y5, y6⟩ := m_X_k (b := b) hW hb
  have m3 : (3 : Int32) * nI b = nI (3 * b + 0) := by simp (disch := omega) only [ni_lit, nI_add, pk_mul, pk_sub, pk_div, nI_leI, nI_ltI, nI_eq, nI_clamp, ni_in, ni_inm, ni_ltm, ni_mlt, ni_lem, ni_mle, ni_eqm, ni_meq, ni_mm, ni_mmle, ni_bit, ni_shl, ni_clr, fa_or, Nat.add_zero, Nat.zero_add, Nat.zero_mul, Nat.mul_zero, eOn, eOs]
  rw [hv, m3] at e
  generalize m_X S (nI b) = S1 at *
  obtain ⟨S2, a1, a2, a3⟩ := m192_106 (D := d + 7) (b := b) 3 0 S1 (by omega) o1.W hb x30
  rw [a1] at e
  have o3 : onM (fun c k => c = 396 ∧ k = 29) S2 (sI S2 396 29 (0 : Int32)) := onM_sI (D := fun c k => c = 396 ∧ k = 29) (c := 396) (k := 29) (onM.refl a2.W) ⟨rfl, rfl⟩
  have v29 : gI (sI S2 396 29 (0 : Int32)) 396 29 = nI 0 := rfl
  generalize sI S2 396 29 (0 : Int32) = S3 at *
  have k3 : ∀ {k}, k ≠ 29 → gI S3 396 k = gI S1 396 k := fun {k} z => by rw [o3.I (by omega), a2.I (by omega)]
  have tx : mTx S3 T := ⟨o3.W, by rw [k3 (by decide), x2]; exact ht.1, hT, fun i hi => ⟨by rw [o3.I (by omega), a2.I (by omega), o1.I (fun z => by have := lgD_c z; omega)]; exact (ht.2 i hi).1, (ht.2 i hi).2⟩⟩
  obtain ⟨S4, b1, b2, b3⟩ := m163 (d := d + 5) (p := 0) tx (Nat.zero_le _) (by rw [k3 (by decide)]; exact x5)
  rw [b1, Option.bind_some] at e
  have k4 : ∀ {c k}, ¬ tDm c k → ¬ (c = 396 ∧ k = 29) → c ≠ 408 → gI S4 c k = gI S1 c k := fun {c k} z1 z2 z3 => by rw [b2.I z1, o3.I z2, a2.I (by omega)]
  have t4 : ∀ {c k}, ¬ (c = 396) → ¬ tDm c k := fun {c k} z y => by unfold tDm at y; omega
  have s4 : mS S4 T b 0 (g_P0, [], fun _ => 0) := by
    refine ⟨b3, ⟨?_, ?_⟩, ⟨hb, ?_⟩, ?_, ⟨fun z => absurd z (by decide), ?_, ?_, ?_, ?_, ?_, ?_⟩, fun i z => absurd z (Nat.not_lt_zero _), fun i z => absurd z (Nat.not_lt_zero _), fun w hw => Or.inl ⟨rfl, ?_⟩⟩
    · rw [k4 (by unfold tDm; omega) (by omega) (by decide)]; exact x8
    · rw [k4 (by unfold tDm; omega) (by omega) (by decide)]; exact x9
    · rw [k4 (by unfold tDm; omega) (by omega) (by decide)]; exact x30
    · rw [b2.I (by unfold tDm; omega)]; exact v29
    · rw [k4 (t4 (by decide)) (by omega) (by decide)]; exact y1
    · rw [k4 (t4 (by decide)) (by omega) (by decide)]; exact y2
    · rw [k4 (t4 (by decide)) (by omega) (by decide)]; exact y3
    · rw [k4 (t4 (by decide)) (by omega) (by decide)]; exact y4
    · rw [k4 (t4 (by decide)) (by omega) (by decide)]; exact y5
    · rw [k4 (t4 (by decide)) (by omega) (by decide)]; exact y6
    · rw [b2.I (t4 (by decide)), o3.I (by omega)]; exact a3 w (by omega) hw
  have oo : onM (lgD b) S S4 := o1.trans ((a2.mono fun c k z => by unfold lgD g_rD bkD; omega).trans ((o3.mono fun c k z => by unfold lgD g_rD; omega).trans (b2.mono fun c k z => by unfold tDm at z; unfold lgD g_rD; omega)))
  have g := m192f (d := d) s4
  rw [← e] at g
  exact ⟨S4, oo, by rw [k4 (by unfold tDm; omega) (by omega) (by decide)]; exact x1, s4.2.2.1.2, g⟩
end IC
