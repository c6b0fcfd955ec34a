/-! THE TEXT: plans in banks. -/
section IB
variable {d b : Nat} {T : List Nat} {S : z_S} {P : q_Pl} {A : q_A}
theorem mQ.pl {p : Nat} {Q : g_Q} (h : mQ S b Q) (hi : g_iv T p Q) (hT : T.length ≤ 1600) (hR : 2 ≤ p_R Q.1) : mPl S b Q.1 := by
  obtain ⟨⟨h1, h2, h3, h4, h5, h6, h7⟩, h8, h9, h10⟩ := h
  refine ⟨h1 hR, h2, h3, h4, h5, h6, h7, fun i z => (h8 i z).1, fun i z => (h8 i z).2.1, h9, fun i z => (h8 i z).2.2, fun w hw => ?_⟩
  have hb := g_iv_b hi hT w hw
  rcases h10 w hw with ⟨a1, a2⟩ | ⟨a1, a2, a3, a4⟩
  · exact Or.inl ⟨a1, a2⟩
  · exact Or.inr ⟨a1, Q.2.2 w, hb, a2, a3, a4⟩
/-- a plan keeps to the cells of its bank -/
theorem cM.bk {S' : z_S} {D : Nat → Nat → Prop} (h : cM S b P) (ho : onM D S S') (hd : ∀ c k, bkD b c k ∨ c = 396 ∧ k = 13 → ¬ D c k) : cM S' b P := by
  obtain ⟨h1, h2, h3, h4, h5⟩ := h
  have hl := h5.2.2.2.2.1
  have hc := h5.2.2.2.2.2.2.2.2.1
  have z : ∀ {c k}, bkD b c k → gI S' c k = gI S c k := fun {c k} a => ho.I (hd c k (Or.inl a))
  have zl : ∀ {c k}, bkD b c k → gL S' c k = gL S c k := fun {c k} a => ho.L (hd c k (Or.inl a))
  obtain ⟨g0, g1, g2, g3, g4, g5, g6, g7, g8, g9, g10, g11⟩ := h4
  refine ⟨ho.W, h2, by rw [ho.I (hd _ _ (Or.inr ⟨rfl, rfl⟩))]; exact h3, ⟨?_, ?_, ?_, ?_, ?_, ?_, ?_, fun i hi => ?_, fun i hi => ?_, fun i hi => ?_, fun i hi => ?_, fun w hw => ?_⟩, h5⟩
  · rw [z (by unfold bkD; omega)]; exact g0
  · rw [z (by unfold bkD; omega)]; exact g1
  · rw [z (by unfold bkD; omega)]; exact g2
  · rw [z (by unfold bkD; omega)]; exact g3
  · rw [z (by unfold bkD; omega)]; exact g4
  · rw [z (by unfold bkD; omega)]; exact g5
  · rw [z (by unfold bkD; omega)]; exact g6
  · rw [z (by unfold bkD; omega)]; exact g7 i hi
  · rw [z (by unfold bkD; omega)]; exact g8 i hi
  · rw [z (by unfold bkD; omega)]; exact g9 i hi
  · rw [zl (by unfold bkD; omega)]; exact g10 i hi
  · rcases g11 w hw with ⟨k1, k2⟩ | ⟨k1, f, k2, k3, k4, k5⟩
    · exact Or.inl ⟨k1, by rw [z (by unfold bkD; omega)]; exact k2⟩
    · refine Or.inr ⟨k1, f, k2, ?_, ?_, fun i c hc => ?_⟩
      · rw [z (by unfold bkD; omega)]; exact k3
      · rw [z (by unfold bkD; omega)]; exact k4
      · have il : i < (p_d P w).length := by
          rcases Nat.lt_or_ge i (p_d P w).length with x | x
          · exact x
          · rw [List.getElem?_eq_none x] at hc; cases hc
        rw [z (by unfold bkD; omega), z (by unfold bkD; omega)]; exact k5 i c hc
/-- what reading a text may change -/
def lgD (b : Nat) : Nat → Nat → Prop := fun c k => g_rD b c k ∨ c = 396 ∧ (k = 1 ∨ k = 2 ∨ k = 30)
theorem lgD_o {b0 c k : Nat} (hb : b0 ≠ b) (h : bkD b0 c k ∨ c = 396 ∧ k = 13) : ¬ lgD b c k := by
  unfold lgD g_rD
  unfold bkD at *
  omega
theorem lgD_c {c k : Nat} (h : lgD b c k) : c = 396 ∧ (1 ≤ k ∧ k ≤ 9 ∨ k = 12 ∨ 29 ≤ k ∧ k ≤ 41) ∨ 398 ≤ c ∧ c ≤ 418 := by
  unfold lgD g_rD bkD at h
  omega
end IB
