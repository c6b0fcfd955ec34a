/-! THE TEXT: the reference reads a statement. -/
section HY
variable {d b : Nat} {T : List Nat} {S : z_S} {p : Nat} {Q : g_Q}
theorem g_ow_u {i j : Nat} (hi : g_ow T p i = true) (h24 : i < 24) (h24' : j < 24) (hij : j ≠ i) : g_ow T p j = false := by
  cases hj : g_ow T p j with
  | false => rfl
  | true =>
    unfold g_ow at hi hj
    rw [Bool.and_eq_true, decide_eq_true_eq, decide_eq_true_eq] at hi hj
    have a := (g_oi_i h24 (g_wl T p)).mpr hi.2
    have c := (g_oi_i h24' (g_wl T p)).mpr hj.2
    rw [a] at c
    cases c
    exact absurd rfl hij
theorem m190s (h : mS S T b p Q) (hi : g_iv T p Q) (hm : p_m Q.1 ≠ 0) : mRz (fV (d + 7) 190 [.ref 396] S) S T b (g_stm T p Q) := by
  have hR := hi.2.2.2.2.1 hm
  have bs : ∀ (x : Option z_S), (x.bind fun s => some s) = x := fun x => by cases x <;> rfl
  have e := e190 (d + 6) S h.W
  unfold g_stm
  rw [decide_eq_false hm]
  by_cases k4 : g_kd T p = 4
  · obtain ⟨S', a1, a2⟩ := m162s (d := d + 4) h k4
    rw [a1, Option.bind_some, if_neg a2.n8.1] at e
    rw [e, g_ow_n k4, if_pos rfl, if_neg (by decide)]
    rw [g_ow_n k4, if_neg (by decide)]
    rw [g_ow_n k4, if_neg (by decide)]
    rw [g_ow_n k4, if_neg (by decide)]
    rw [g_ow_n k4, if_neg (by decide)]
    rw [g_ow_n k4, if_neg (by decide)]
    rw [g_ow_n k4, if_neg (by decide)]
    rw [g_ow_n k4, if_neg (by decide)]
    rw [g_ow_n k4, if_neg (by decide)]
    rw [g_ow_n k4, if_neg (by decide)]
    exact ⟨S', rfl, a2⟩
  rw [m162 (d := d + 5) h.1 k4, Option.bind_some, if_pos h.z8.1] at e
  have un : ∀ {i j}, g_ow T p i = true → i < 24 → j < 24 → j ≠ i → g_ow T p j = false := fun {i j} a1 a2 a3 a4 => g_ow_u a1 a2 a3 a4
  have bad : ∃ S', fV (d + 6) 159 [.ref 396, .int (1 : Int32), .int (gI S 396 4)] S = some S' ∧ mFr S S' b (1, g_ft T p) := by
    rw [g_ft_n k4]
    exact m159s (d := d + 5) (k := 1) h (by decide) (by decide) k4
  have s1 : fI (d + 6) 165 [.ref 396, .long (422608528232 : Int64)] S = some (bI (g_ow T p 1), S) := m165 (d := d + 5) (i := 1) (n := 422608528232) h.1 k4 (by decide) (by decide +kernel)
  have s2 : fI (d + 6) 165 [.ref 396, .long (495874044019 : Int64)] S = some (bI (g_ow T p 2), S) := m165 (d := d + 5) (i := 2) (n := 495874044019) h.1 k4 (by decide) (by decide +kernel)
  have s3 : fI (d + 6) 165 [.ref 396, .long (461414294379 : Int64)] S = some (bI (g_ow T p 3), S) := m165 (d := d + 5) (i := 3) (n := 461414294379) h.1 k4 (by decide) (by decide +kernel)
  have s4 : fI (d + 6) 165 [.ref 396, .long (119225681667442 : Int64)] S = some (bI (g_ow T p 4), S) := m165 (d := d + 5) (i := 4) (n := 119225681667442) h.1 k4 (by decide) (by decide +kernel)
  have s6 : fI (d + 6) 165 [.ref 396, .long (26990 : Int64)] S = some (bI (g_ow T p 6), S) := m165 (d := d + 5) (i := 6) (n := 26990) h.1 k4 (by decide) (by decide +kernel)
  have s7 : fI (d + 6) 165 [.ref 396, .long (1936225652 : Int64)] S = some (bI (g_ow T p 7), S) := m165 (d := d + 5) (i := 7) (n := 1936225652) h.1 k4 (by decide) (by decide +kernel)
  have s8 : fI (d + 6) 165 [.ref 396, .long (133493580129395 : Int64)] S = some (bI (g_ow T p 8), S) := m165 (d := d + 5) (i := 8) (n := 133493580129395) h.1 k4 (by decide) (by decide +kernel)
  have s9 : fI (d + 6) 165 [.ref 396, .long (119182682645875 : Int64)] S = some (bI (g_ow T p 9), S) := m165 (d := d + 5) (i := 9) (n := 119182682645875) h.1 k4 (by decide) (by decide +kernel)
  have s10 : fI (d + 6) 165 [.ref 396, .long (491328009331 : Int64)] S = some (bI (g_ow T p 10), S) := m165 (d := d + 5) (i := 10) (n := 491328009331) h.1 k4 (by decide) (by decide +kernel)
  have kn : ∀ {i}, g_ow T p i = true → g_kd T p ≠ 0 := fun {i} z => by rw [g_ow_k z]; decide
  have T0 : ¬ bI true = (0 : Int32) := by decide
  have F0 : bI false = (0 : Int32) := rfl
  rw [s1, zb_some] at e
  by_cases c1 : g_ow T p 1 = true
  · rw [c1, if_neg T0] at e
    rw [un c1 (by decide) (by decide) (show 0 ≠ 1 by decide), if_pos rfl, if_neg Bool.false_ne_true]
    rw [if_pos c1]
    rw [e]
    exact (m183b (d := d + 2) (c := 399) (lo := 0) (hi := 6) (F := fun v => (P_B Q.1 v, Q.2)) h hi (by decide) (by decide) (Or.inl ⟨by omega, rfl⟩) (fun v S' hs => hs.2.2.2.2.set (Or.inl ⟨by omega, by omega⟩) rfl (Or.inr rfl) ⟨rfl, rfl, rfl, rfl, rfl, rfl⟩ ⟨rfl, rfl, rfl, rfl, rfl⟩) (fun _ => rfl)).z
  have c1 : g_ow T p 1 = false := by simpa using c1
  rw [c1, if_pos F0] at e
  rw [s2, zb_some] at e
  by_cases c2 : g_ow T p 2 = true
  · rw [c2, if_neg T0] at e
    rw [un c2 (by decide) (by decide) (show 0 ≠ 2 by decide), if_pos rfl, if_neg Bool.false_ne_true]
    rw [un c2 (by decide) (by decide) (show 1 ≠ 2 by decide), if_neg Bool.false_ne_true]
    rw [if_pos c2]
    rw [e]
    exact (m183b (d := d + 2) (c := 400) (lo := 1) (hi := 40) (F := fun v => (P_T Q.1 v, Q.2)) h hi (by decide) (by decide) (Or.inl ⟨by omega, rfl⟩) (fun v S' hs => hs.2.2.2.2.set (Or.inl ⟨by omega, by omega⟩) rfl (Or.inr rfl) ⟨rfl, rfl, rfl, rfl, rfl, rfl⟩ ⟨rfl, rfl, rfl, rfl, rfl⟩) (fun _ => rfl)).z
  have c2 : g_ow T p 2 = false := by simpa using c2
  rw [c2, if_pos F0] at e
  rw [s3, zb_some] at e
  by_cases c3 : g_ow T p 3 = true
  · rw [c3, if_neg T0] at e
    rw [un c3 (by decide) (by decide) (show 0 ≠ 3 by decide), if_pos rfl, if_neg Bool.false_ne_true]
    rw [un c3 (by decide) (by decide) (show 1 ≠ 3 by decide), if_neg Bool.false_ne_true]
    rw [un c3 (by decide) (by decide) (show 2 ≠ 3 by decide), if_neg Bool.false_ne_true]
    rw [if_pos c3]
    rw [e]
    exact (m183b (d := d + 2) (c := 401) (lo := 0) (hi := 100) (F := fun v => (P_K Q.1 v, Q.2)) h hi (by decide) (by decide) (Or.inl ⟨by omega, rfl⟩) (fun v S' hs => hs.2.2.2.2.set (Or.inl ⟨by omega, by omega⟩) rfl (Or.inr rfl) ⟨rfl, rfl, rfl, rfl, rfl, rfl⟩ ⟨rfl, rfl, rfl, rfl, rfl⟩) (fun _ => rfl)).z
  have c3 : g_ow T p 3 = false := by simpa using c3
  rw [c3, if_pos F0] at e
  rw [s4, zb_some] at e
  by_cases c4 : g_ow T p 4 = true
  · rw [c4, if_neg T0] at e
    rw [un c4 (by decide) (by decide) (show 0 ≠ 4 by decide), if_pos rfl, if_neg Bool.false_ne_true]
    rw [un c4 (by decide) (by decide) (show 1 ≠ 4 by decide), if_neg Bool.false_ne_true]
    rw [un c4 (by decide) (by decide) (show 2 ≠ 4 by decide), if_neg Bool.false_ne_true]
    rw [un c4 (by decide) (by decide) (show 3 ≠ 4 by decide), if_neg Bool.false_ne_true]
    rw [un c4 (by decide) (by decide) (show 7 ≠ 4 by decide), if_neg Bool.false_ne_true]
    rw [if_pos c4]
    rw [bs] at e
    rw [e]
    exact (m185s (d := d + 2) h hi k4 hR).z
  have c4 : g_ow T p 4 = false := by simpa using c4
  rw [c4, if_pos F0] at e
  rw [s6, zb_some] at e
  by_cases c6 : g_ow T p 6 = true
  · rw [c6, if_neg T0] at e
    rw [un c6 (by decide) (by decide) (show 0 ≠ 6 by decide), if_pos rfl, if_neg Bool.false_ne_true]
    rw [un c6 (by decide) (by decide) (show 1 ≠ 6 by decide), if_neg Bool.false_ne_true]
    rw [un c6 (by decide) (by decide) (show 2 ≠ 6 by decide), if_neg Bool.false_ne_true]
    rw [un c6 (by decide) (by decide) (show 3 ≠ 6 by decide), if_neg Bool.false_ne_true]
    rw [un c6 (by decide) (by decide) (show 7 ≠ 6 by decide), if_neg Bool.false_ne_true]
    rw [un c6 (by decide) (by decide) (show 4 ≠ 6 by decide), if_neg Bool.false_ne_true]
    rw [if_pos c6]
    rw [bs] at e
    rw [e]
    exact (m187s (d := d + 2) h hi).z
  have c6 : g_ow T p 6 = false := by simpa using c6
  rw [c6, if_pos F0] at e
  rw [s7, zb_some] at e
  by_cases c7 : g_ow T p 7 = true
  · rw [c7, if_neg T0] at e
    rw [un c7 (by decide) (by decide) (show 0 ≠ 7 by decide), if_pos rfl, if_neg Bool.false_ne_true]
    rw [un c7 (by decide) (by decide) (show 1 ≠ 7 by decide), if_neg Bool.false_ne_true]
    rw [un c7 (by decide) (by decide) (show 2 ≠ 7 by decide), if_neg Bool.false_ne_true]
    rw [un c7 (by decide) (by decide) (show 3 ≠ 7 by decide), if_neg Bool.false_ne_true]
    rw [if_pos c7]
    rw [bs] at e
    rw [e]
    exact (m188s (d := d + 2) h hi hR).z
  have c7 : g_ow T p 7 = false := by simpa using c7
  rw [c7, if_pos F0] at e
  rw [s8, zb_some] at e
  by_cases c8 : g_ow T p 8 = true
  · rw [c8, if_neg T0] at e
    rw [un c8 (by decide) (by decide) (show 0 ≠ 8 by decide), if_pos rfl, if_neg Bool.false_ne_true]
    rw [un c8 (by decide) (by decide) (show 1 ≠ 8 by decide), if_neg Bool.false_ne_true]
    rw [un c8 (by decide) (by decide) (show 2 ≠ 8 by decide), if_neg Bool.false_ne_true]
    rw [un c8 (by decide) (by decide) (show 3 ≠ 8 by decide), if_neg Bool.false_ne_true]
    rw [un c8 (by decide) (by decide) (show 7 ≠ 8 by decide), if_neg Bool.false_ne_true]
    rw [un c8 (by decide) (by decide) (show 4 ≠ 8 by decide), if_neg Bool.false_ne_true]
    rw [un c8 (by decide) (by decide) (show 6 ≠ 8 by decide), if_neg Bool.false_ne_true]
    rw [if_pos c8]
    rw [bs] at e
    rw [e]
    exact m189s (d := d) (w := 0) h hi k4 (kn c8) (by decide)
  have c8 : g_ow T p 8 = false := by simpa using c8
  rw [c8, if_pos F0] at e
  rw [s9, zb_some] at e
  by_cases c9 : g_ow T p 9 = true
  · rw [c9, if_neg T0] at e
    rw [un c9 (by decide) (by decide) (show 0 ≠ 9 by decide), if_pos rfl, if_neg Bool.false_ne_true]
    rw [un c9 (by decide) (by decide) (show 1 ≠ 9 by decide), if_neg Bool.false_ne_true]
    rw [un c9 (by decide) (by decide) (show 2 ≠ 9 by decide), if_neg Bool.false_ne_true]
    rw [un c9 (by decide) (by decide) (show 3 ≠ 9 by decide), if_neg Bool.false_ne_true]
    rw [un c9 (by decide) (by decide) (show 7 ≠ 9 by decide), if_neg Bool.false_ne_true]
    rw [un c9 (by decide) (by decide) (show 4 ≠ 9 by decide), if_neg Bool.false_ne_true]
    rw [un c9 (by decide) (by decide) (show 6 ≠ 9 by decide), if_neg Bool.false_ne_true]
    rw [un c9 (by decide) (by decide) (show 8 ≠ 9 by decide), if_neg Bool.false_ne_true]
    rw [if_pos c9]
    rw [bs] at e
    rw [e]
    exact m189s (d := d) (w := 1) h hi k4 (kn c9) (by decide)
  have c9 : g_ow T p 9 = false := by simpa using c9
  rw [c9, if_pos F0] at e
  rw [s10, zb_some] at e
  by_cases c10 : g_ow T p 10 = true
  · rw [c10, if_neg T0] at e
    rw [un c10 (by decide) (by decide) (show 0 ≠ 10 by decide), if_pos rfl, if_neg Bool.false_ne_true]
    rw [un c10 (by decide) (by decide) (show 1 ≠ 10 by decide), if_neg Bool.false_ne_true]
    rw [un c10 (by decide) (by decide) (show 2 ≠ 10 by decide), if_neg Bool.false_ne_true]
    rw [un c10 (by decide) (by decide) (show 3 ≠ 10 by decide), if_neg Bool.false_ne_true]
    rw [un c10 (by decide) (by decide) (show 7 ≠ 10 by decide), if_neg Bool.false_ne_true]
    rw [un c10 (by decide) (by decide) (show 4 ≠ 10 by decide), if_neg Bool.false_ne_true]
    rw [un c10 (by decide) (by decide) (show 6 ≠ 10 by decide), if_neg Bool.false_ne_true]
    rw [un c10 (by decide) (by decide) (show 8 ≠ 10 by decide), if_neg Bool.false_ne_true]
    rw [un c10 (by decide) (by decide) (show 9 ≠ 10 by decide), if_neg Bool.false_ne_true]
    rw [if_pos c10]
    rw [bs] at e
    rw [e]
    exact m189s (d := d) (w := 2) h hi k4 (kn c10) (by decide)
  have c10 : g_ow T p 10 = false := by simpa using c10
  rw [c10, if_pos F0] at e
  obtain ⟨S', a1, a2⟩ := bad
  rw [a1, Option.bind_some] at e
  rw [e]
  by_cases c0 : g_ow T p 0 = true
  · rw [c0, if_neg (show ¬ false = true by decide)]
    exact ⟨S', rfl, a2⟩
  have c0 : g_ow T p 0 = false := by simpa using c0
  rw [c0, if_pos rfl, if_neg Bool.false_ne_true, c1, if_neg Bool.false_ne_true, c2, if_neg Bool.false_ne_true, c3, if_neg Bool.false_ne_true, c7, if_neg Bool.false_ne_true, c4, if_neg Bool.false_ne_true, c6, if_neg Bool.false_ne_true, c8, if_neg Bool.false_ne_true, c9, if_neg Bool.false_ne_true, c10, if_neg Bool.false_ne_true]
  exact ⟨S', rfl, a2⟩
end HY
