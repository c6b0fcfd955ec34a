/-! THE TEXT: the reference ends a statement. -/
section HV
variable {d b : Nat} {T : List Nat} {S : z_S} {p : Nat} {Q : g_Q}
/-- under a fault -/
theorem m166f {S' : z_S} {e : Nat × Nat} {x : Int32} (h : mFr S S' b e) : fV (d + 3) 166 [.ref 396, .int x] S' = some S' := by
  have hv : ∃ v, fI (d + 2) 164 [.ref 396, .int x] S' = some (v, S') := by
    rw [e164 (d + 1) x S' h.1.W, b164_20_eq (d + 1) S' h.1.W]
    split
    · exact ⟨_, rfl⟩
    · split
      · exact ⟨_, rfl⟩
      · exact ⟨_, rfl⟩
  obtain ⟨v, ev⟩ := hv
  rw [e166 (d + 2) x S' h.1.W, h.f162 (d := d), Option.bind_some, ev, zb_some, h.f159 (d := d + 1), Option.bind_some, b166_21_eq (d + 2) S' h.1.W, if_pos h.n8.2]
  split <;> rfl
/-- the semicolon, and whether the statement behind is one too many -/
theorem m191s {n : Nat} (h : mS S T b p Q) (hi : g_iv T p Q) (hn : n ≤ 60) : (g_sg T p 59 = false → ∃ S', fV (d + 4) 191 [.ref 396, .int (nI n)] S = some S' ∧ mFr S S' b (1, g_ft T p)) ∧ (g_sg T p 59 = true → n = 60 → g_st T (g_en T p) < T.length → ∃ S', fV (d + 4) 191 [.ref 396, .int (nI n)] S = some S' ∧ mFr S S' b (6, g_st T (g_en T p))) ∧ (g_sg T p 59 = true → ¬ (n = 60 ∧ g_st T (g_en T p) < T.length) → ∃ S', fV (d + 4) 191 [.ref 396, .int (nI n)] S = some S' ∧ onM (g_rD b) S S' ∧ mS S' T b (g_en T p) Q) := by
  have hT := h.1.1.2.2.1
  have hen := g_en_b h.1.2.1
  have hst := g_st_b (T := T) hen.2.1
  have e := e191 (d + 3) (nI n) S h.W
  have body : g_kd T p ≠ 4 → fV (d + 4) 191 [.ref 396, .int (nI n)] S = b191_53 (d + 3) (nI n) (nI (g_st T (g_en T p))) S := fun k4 => by
    rw [m162 (d := d + 2) h.1 k4, Option.bind_some, if_pos h.z8.1, h.1.2.2.2.2.1, m191_17 h.1.1 (T.length - g_en T p) (g_en T p) (by omega)] at e
    exact e
  have s9 : g_kd T p ≠ 4 → ∀ D, fI (D + 1) 164 [.ref 396, .int (59 : Int32)] S = some (bI (g_sg T p 59), S) := fun k4 D => m164 (d := D) (c := 59) h.1 k4 (by decide)
  refine ⟨fun hs => ?_, fun hs h6 hl => ?_, fun hs hnn => ?_⟩
  · by_cases k4 : g_kd T p = 4
    · obtain ⟨S', a1, a2⟩ := m162s (d := d + 1) h k4
      rw [a1, Option.bind_some, if_neg a2.n8.1] at e
      exact ⟨S', e, a2⟩
    · obtain ⟨S', a1, a2⟩ := m159s (d := d + 1) (k := 1) h (by decide) (by decide) k4
      have a1' : fV (d + 2) 159 [.ref 396, .int (1 : Int32), .int (gI S 396 4)] S = some S' := a1
      rw [body k4, b191_53_eq (d + 3) _ _ S h.W, s9 k4 (d + 2), zb_some, hs, if_pos (show bI false = (0 : Int32) from rfl), b191_83_eq (d + 3) S h.W, e166 (d + 2) 59 S h.W, m162 (d := d + 1) h.1 k4, Option.bind_some, s9 k4 (d + 1), zb_some, hs, if_neg (show ¬ ¬ bI false = (0 : Int32) from fun z => z rfl), a1', Option.bind_some, b166_21_eq (d + 2) S' a2.1.W, if_pos a2.n8.2, Option.bind_some, g_ft_n k4]
      exact ⟨S', rfl, a2⟩
  · have k4 : g_kd T p ≠ 4 := by rw [g_sg_k hs]; decide
    have f9 := m159 (d := d + 2) (k := 6) (pl := g_st T (g_en T p)) h.W h.2.1.1
    have f9' : fV (d + 3) 159 [.ref 396, .int (6 : Int32), .int (nI (g_st T (g_en T p)))] S = some (sI (sI S 396 8 (nI 6)) 396 9 (nI (g_st T (g_en T p)))) := f9
    have fr := m_br (b := b) (k := 6) (pl := g_st T (g_en T p)) h.W (by decide) (by decide)
    rw [body k4, b191_53_eq (d + 3) _ _ S h.W, s9 k4 (d + 2), zb_some, hs, if_neg (show ¬ bI true = (0 : Int32) by decide), if_neg (show ¬ ¬ nI n = (60 : Int32) from fun z => z (by rw [h6]; rfl)), h.1.1.2.1, if_neg (nI_ge hl (by omega)), f9', Option.bind_some, b191_83_eq (d + 3) _ fr.1.W, m166f (d := d) fr, Option.bind_some]
    exact ⟨_, rfl, fr⟩
  · have k4 : g_kd T p ≠ 4 := by rw [g_sg_k hs]; decide
    obtain ⟨S', a1, _, a2, a3⟩ := m163s (d := d) h hi
    have m6 : fV (d + 3) 166 [.ref 396, .int (59 : Int32)] S = some S' := by
      rw [e166 (d + 2) 59 S h.W, m162 (d := d + 1) h.1 k4, Option.bind_some, s9 k4 (d + 1), zb_some, hs, if_pos (show ¬ bI true = (0 : Int32) by decide), b166_21_eq (d + 2) S h.W, if_neg (fun z => z h.z8.2), a1, Option.bind_some]
    have r : b191_83 (d + 3) S = some S' := by rw [b191_83_eq (d + 3) S h.W, m6, Option.bind_some]
    rw [body k4, b191_53_eq (d + 3) _ _ S h.W, s9 k4 (d + 2), zb_some, hs, if_neg (show ¬ bI true = (0 : Int32) by decide), r, h.1.1.2.1]
    by_cases h6 : n = 60
    · rw [if_neg (show ¬ ¬ nI n = (60 : Int32) from fun z => z (by rw [h6]; rfl)), if_pos (nI_le (by omega) (by omega))]
      exact ⟨S', rfl, a2, a3⟩
    · rw [if_pos (show ¬ nI n = (60 : Int32) from fun z => h6 ((nI_eq (b := 60) (by omega) (by omega)).mp z))]
      exact ⟨S', rfl, a2, a3⟩
end HV
