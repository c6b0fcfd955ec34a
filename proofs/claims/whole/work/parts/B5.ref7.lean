/-! THE TEXT: the reference reads a lodger, whole. -/
section HS
variable {d b : Nat} {T : List Nat} {S : z_S} {p : Nat} {Q : g_Q}
theorem m185s (h : mS S T b p Q) (hi : g_iv T p Q) (hk : g_kd T p ≠ 4) (hR : 2 ≤ p_R Q.1) : mRq (fV (d + 4) 185 [.ref 396] S) S T b (g_lod T p Q) := by
  have hb := h.2.2.1.1
  have hP := hi.2.2.1
  have hL := hP.2.2.2.2.1
  have h4 := g_kd_le (T := T) (p := g_en T p)
  have zin : z_in (nI b) 2 := (ni_in (by omega)).mpr hb
  have cl : (nI b).toNatClampNeg = b := nI_clamp (by omega)
  have r2 : gI S 402 (nI b).toNatClampNeg = nI (p_L Q.1) := by rw [cl]; exact h.2.2.2.2.1.2.2.2.2.1
  have e := e185 (d + 3) S h.W
  rw [h.2.2.1.2, if_pos zin, r2] at e
  unfold g_lod
  by_cases c0 : 16 ≤ p_L Q.1
  · obtain ⟨S2, b1, b2⟩ := m180f (d := d) h hk
    rw [if_neg (show ¬ ¬ nI (p_L Q.1) = (16 : Int32) from fun z => z (by rw [show p_L Q.1 = 16 by omega]; rfl)), b185_20_eq (d + 3) 1 S h.W, b1, zb_some, if_neg (show ¬ ¬ (0 : Int32) = 0 by decide)] at e
    rw [e, if_pos c0]
    exact ⟨S2, rfl, b2⟩
  obtain ⟨S1, a1, _, a2, a3⟩ := m180s (d := d) h hi
  rw [if_pos (show ¬ nI (p_L Q.1) = (16 : Int32) from fun z => c0 (Nat.le_of_eq ((nI_eq (b := 16) (by omega) (by omega)).mp z).symm)), b185_20_eq (d + 3) 0 S h.W, a1, zb_some, if_pos (show ¬ (1 : Int32) = 0 by decide)] at e
  rw [if_neg c0]
  by_cases k4 : g_kd T (g_en T p) = 4
  · obtain ⟨S2, b1, b2⟩ := m162s (d := d + 1) a3 k4
    rw [b1, Option.bind_some, if_neg b2.n8.1] at e
    rw [e, if_neg (fun z => by have := (g_nam_i z).1; omega)]
    exact ⟨S2, rfl, b2.tr a2⟩
  rw [m162 (d := d + 2) a3.1 k4, Option.bind_some, if_pos a3.z8.1] at e
  have bad : ∃ S2, b185_58 (d + 3) S1 = some S2 ∧ mFr S S2 b (1, g_ft T (g_en T p)) := by
    obtain ⟨S2, b1, b2⟩ := m159s (d := d + 2) (k := 1) a3 (by decide) (by decide) k4
    have b1' : fV (d + 3) 159 [.ref 396, .int (1 : Int32), .int (gI S1 396 4)] S1 = some S2 := b1
    refine ⟨S2, ?_, by rw [g_ft_n k4]; exact b2.tr a2⟩
    rw [b185_58_eq (d + 3) S1 a3.W, b1', Option.bind_some, b185_67_eq (d + 3) S2 b2.1.W, if_pos b2.n8.2, b185_f95 b2]
  have kk : gI S1 396 3 = (1 : Int32) ↔ g_kd T (g_en T p) = 1 := by
    rw [a3.1.2.2.1, g_km_n k4]
    exact nI_eq (b := 1) (by omega) (by omega)
  by_cases k1 : ¬ g_kd T (g_en T p) = 1
  · obtain ⟨S2, b1, b2⟩ := bad
    rw [if_pos (show ¬ gI S1 396 3 = (1 : Int32) from fun z => k1 (kk.mp z)), b1] at e
    rw [e, if_neg (fun z => k1 (g_nam_i z).1)]
    exact ⟨S2, rfl, b2⟩
  have k1 := Classical.not_not.mp k1
  obtain ⟨v1, v2⟩ := g_wl_vd k1
  rw [if_neg (fun z => z (kk.mpr k1)), a3.1.2.2.2.2.2.2.2 k1, m167 (d := d + 2) a3.W v1 v2, zb_some] at e
  by_cases co : ¬ g_oi (g_wl T (g_en T p)) 24 = none
  · obtain ⟨S2, b1, b2⟩ := bad
    rw [decide_eq_true co, if_neg (show ¬ bI true = (0 : Int32) by decide), b1] at e
    rw [e, if_neg (fun z => co (g_nam_i z).2)]
    exact ⟨S2, rfl, b2⟩
  have nm : g_nam T (g_en T p) = true := by
    unfold g_nam
    rw [decide_eq_true k1, decide_eq_true (Classical.not_not.mp co)]
    rfl
  rw [decide_eq_false co, if_pos (show bI false = (0 : Int32) from rfl), b185_67_eq (d + 3) S1 a3.W, if_neg (fun z => z a3.z8.2), a3.1.2.2.2.2.2.2.2 k1, m168s (d := d + 2) a3 hP v1 v2, zb_some] at e
  rw [if_pos nm]
  by_cases cw : ¬ g_who Q.1 (g_wl T (g_en T p)) = none
  · obtain ⟨S2, b1, b2⟩ := m159s (d := d + 2) (k := 2) a3 (by decide) (by decide) k4
    have b1' : fV (d + 3) 159 [.ref 396, .int (2 : Int32), .int (gI S1 396 4)] S1 = some S2 := b1
    rw [if_neg (fun z => cw ((eO_m1 (g_who_lt hL)).mp z)), b1', Option.bind_some, b185_f95 b2] at e
    rw [e, if_neg cw]
    exact ⟨S2, rfl, b2.tr a2⟩
  have cw := Classical.not_not.mp cw
  rw [if_pos ((eO_m1 (g_who_lt hL)).mpr cw)] at e
  rw [e, if_pos cw]
  exact (m185b (d := d) a3 hi k1 hR (by omega)).tr a2
/-- no statement: under a fault -/
theorem m191f {S' : z_S} {e : Nat × Nat} {x : Int32} (h : mFr S S' b e) : fV (d + 3) 191 [.ref 396, .int x] S' = some S' := by
  rw [e191 (d + 2) x S' h.1.W, h.f162 (d := d), Option.bind_some, if_neg h.n8.1]
theorem m190f {S' : z_S} {e : Nat × Nat} (h : mFr S S' b e) : fV (d + 3) 190 [.ref 396] S' = some S' := by
  rw [e190 (d + 2) S' h.1.W, h.f162 (d := d), Option.bind_some, if_neg h.n8.1]
end HS
