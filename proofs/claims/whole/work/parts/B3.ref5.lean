/-! THE TEXT: the reference reads a lodger. -/
section HQ
variable {d b : Nat} {T : List Nat} {S : z_S} {p : Nat} {Q : g_Q}
theorem b185_f {S' : z_S} {e : Nat × Nat} (h : mFr S S' b e) : b185_223 d S' = some S' := by rw [b185_223_eq d S' h.1.W, if_pos h.n8.2]
theorem b185_f95 {S' : z_S} {e : Nat × Nat} (h : mFr S S' b e) : b185_95 d S' = some S' := by rw [b185_95_eq d S' h.1.W, if_neg h.n8.1]
theorem mFr.sL {S' : z_S} {e : Nat × Nat} {c k : Nat} {v : Int64} (h : mFr S S' b e) (hc : bkD b c k) : mFr S (sL S' c k v) b e := by
  obtain ⟨h1, h2, h3, h4⟩ := h
  exact ⟨onM_sL (D := g_rD b) (c := c) (k := k) h1 (Or.inr (Or.inr hc)), h2, h3, h4⟩
/-- a cell behind the lodgers -/
theorem mQ.hi {c i : Nat} {v : Int32} (h : mQ S b Q) (hc : c = 403 ∨ c = 404) (hi : p_L Q.1 ≤ i) : mQ (sI S c (16 * b + i) v) b Q := by
  obtain ⟨⟨h1, h2, h3, h4, h5, h6, h7⟩, h8, h9, h10⟩ := h
  have gn : ∀ {c' k'}, ¬ (c' = c ∧ k' = 16 * b + i) → gI (sI S c (16 * b + i) v) c' k' = gI S c' k' := fun {c' k'} z => by
    rw [gI_sI]
    by_cases y : c' = c
    · rw [if_pos y, if_neg (fun x => z ⟨y, x⟩)]
    · rw [if_neg y]
  refine ⟨⟨fun y => by rw [gn (by omega)]; exact h1 y, by rw [gn (by omega)]; exact h2, by rw [gn (by omega)]; exact h3, by rw [gn (by omega)]; exact h4, by rw [gn (by omega)]; exact h5, by rw [gn (by omega)]; exact h6, by rw [gn (by omega)]; exact h7⟩, fun j hj => ?_, fun j hj => by rw [gn (by omega)]; exact h9 j hj, fun w hw => ?_⟩
  · obtain ⟨a1, a2, a3⟩ := h8 j hj
    exact ⟨by rw [gn (by omega)]; exact a1, by rw [gn (by omega)]; exact a2, a3⟩
  · rcases h10 w hw with ⟨a1, a2⟩ | ⟨a1, a2, a3, a4⟩
    · exact Or.inl ⟨a1, by rw [gn (by omega)]; exact a2⟩
    · exact Or.inr ⟨a1, by rw [gn (by omega)]; exact a2, by rw [gn (by omega)]; exact a3, fun j c' z => by rw [gn (by omega), gn (by omega)]; exact a4 j c' z⟩
theorem mQ.hiL {i : Nat} {v : Int64} (h : mQ S b Q) (hi : p_L Q.1 ≤ i) : mQ (sL S 412 (16 * b + i) v) b Q := by
  obtain ⟨h1, h8, h9, h10⟩ := h
  refine ⟨h1, fun j hj => ?_, h9, h10⟩
  obtain ⟨a1, a2, a3⟩ := h8 j hj
  refine ⟨a1, a2, ?_⟩
  rw [gLl, if_pos rfl, if_neg (by omega)]
  exact a3
theorem mQ.lo {x y : Nat} {l : List Nat} (h : mQ S b Q) (i1 : gL S 412 (16 * b + p_L Q.1) = lN (q_nw l)) (i2 : gI S 403 (16 * b + p_L Q.1) = nI x) (i3 : gI S 404 (16 * b + p_L Q.1) = nI y) : mQ (sI S 402 b (nI (p_L Q.1 + 1))) b (P_lo Q.1 x y l, Q.2) := by
  obtain ⟨⟨h1, h2, h3, h4, h5, h6, h7⟩, h8, h9, h10⟩ := h
  have gn : ∀ {c' k'}, c' ≠ 402 → gI (sI S 402 b (nI (p_L Q.1 + 1))) c' k' = gI S c' k' := fun {c' k'} z => by rw [gI_sI, if_neg z]
  refine ⟨⟨fun y => by rw [gn (by decide)]; exact h1 y, by rw [gn (by decide)]; exact h2, by rw [gn (by decide)]; exact h3, by rw [gn (by decide)]; exact h4, by rw [gI_sI, if_pos rfl, if_pos rfl]; rfl, by rw [gn (by decide)]; exact h6, by rw [gn (by decide)]; exact h7⟩, fun j hj => ?_, fun j hj => by rw [gn (by decide)]; exact h9 j hj, fun w hw => ?_⟩
  · have hj' : j < p_L Q.1 + 1 := hj
    show _ = nI (q_u (p_f Q.1) (p_L Q.1) x j) ∧ _ = nI (q_u (p_o Q.1) (p_L Q.1) y j) ∧ _ = lN (q_nw (q_u (p_a Q.1) (p_L Q.1) l j))
    by_cases c : j = p_L Q.1
    · rw [c, q_us, q_us, q_us]
      exact ⟨by rw [gn (by decide)]; exact i2, by rw [gn (by decide)]; exact i3, i1⟩
    · rw [q_un c, q_un c, q_un c]
      obtain ⟨a1, a2, a3⟩ := h8 j (by omega)
      exact ⟨by rw [gn (by decide)]; exact a1, by rw [gn (by decide)]; exact a2, a3⟩
  · rcases h10 w hw with ⟨a1, a2⟩ | ⟨a1, a2, a3, a4⟩
    · exact Or.inl ⟨a1, by rw [gn (by decide)]; exact a2⟩
    · exact Or.inr ⟨a1, by rw [gn (by decide)]; exact a2, by rw [gn (by decide)]; exact a3, fun j c' z => by rw [gn (by decide), gn (by decide)]; exact a4 j c' z⟩
end HQ
