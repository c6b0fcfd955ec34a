/-! THE TEXT: the reference looks behind a semicolon. -/
section HU
variable {d b : Nat} {T : List Nat} {S : z_S} {p : Nat} {Q : g_Q}
theorem m191_17 {y : Int32} (h : mTx S T) : ∀ (m i : Nat), i + m = T.length → b191_17 d y (nI i) S = b191_53 d y (nI (g_st T i)) S
  | 0, i, hi => by
    have h1600 := h.2.2.1
    rw [b191_17_eq d y (nI i) S h.1, h.2.1, if_pos (nI_le (by omega) (by omega))]
    unfold g_st
    rw [g_rn_e (p := i) (by omega)]
  | m + 1, i, hi => by
    have h1600 := h.2.2.1
    have c1 : i < T.length := by omega
    have z1 : z_in (nI i) 1800 := (ni_in (by omega)).mpr (by omega)
    have z2 : gI S 397 (nI i).toNatClampNeg = nI (g_t T i) := by rw [nI_clamp (by omega)]; exact (h.2.2.2 i c1).1
    have hb := (h.2.2.2 i c1).2
    have nx : b191_47 d y (nI i) S = b191_17 d y (nI (i + 1)) S := by rw [b191_47_eq d y (nI i) S h.1, nI_1]
    rw [b191_17_eq d y (nI i) S h.1, h.2.1, if_neg (nI_ge c1 (by omega)), if_pos z1, z2, if_pos z1]
    by_cases cw : g_w (g_t T i) = true
    · have hw := g_w_i.mp cw
      have es : g_st T i = g_st T (i + 1) := by unfold g_st; rw [g_rn_y c1 cw]
      rw [es, ← m191_17 h m (i + 1) (by omega), ← nx]
      by_cases c32 : g_t T i = 32
      · rw [c32, if_pos (show nI 32 = (32 : Int32) from rfl)]
      · have c10 : g_t T i = 10 := by omega
        rw [c10, if_neg (show ¬ nI 10 = (32 : Int32) by decide), if_neg (show ¬ ¬ nI 10 = (10 : Int32) from fun z => z rfl)]
    · have cw' : g_w (g_t T i) = false := by simpa using cw
      have hw : ¬ (g_t T i = 32 ∨ g_t T i = 10) := fun z => cw (g_w_i.mpr z)
      have es : g_st T i = i := by unfold g_st; rw [g_rn_n c1 cw']
      rw [es, if_neg (show ¬ nI (g_t T i) = (32 : Int32) from fun z => by have := (nI_eq (b := 32) (by omega) (by omega)).mp z; omega), if_pos (show ¬ nI (g_t T i) = (10 : Int32) from fun z => by have := (nI_eq (b := 10) (by omega) (by omega)).mp z; omega)]
end HU
