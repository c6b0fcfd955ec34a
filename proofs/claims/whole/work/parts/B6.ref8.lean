/-! THE TEXT: the reference reads a formula. -/
section HT
variable {d b w : Nat} {T : List Nat} {S : z_S} {p : Nat} {cs : List Nat}
/-- a formula from its first token on -/
theorem m179a {kd : Nat} (h : mG S T b w cs.length p cs [] 0 false) (hkd : kd = if w = 2 then 0 else 1) (hp : cs.length ≤ p) (h1 : 1 ≤ p) : match g_fm T w p cs with
    | .inl e => ∃ S', b179_38 (d + 4) (nI kd) S = some S' ∧ mFl S S' b cs.length e
    | .inr x => (g_kd T x.1 = 4 ∧ ∃ S', b179_38 (d + 4) (nI kd) S = some S' ∧ mFl S S' b cs.length (1, g_ft T x.1)) ∨ (g_kd T x.1 ≠ 4 ∧ ∃ S' fs' o', b179_38 (d + 4) (nI kd) S = some S' ∧ onM (g_mD b cs.length) S S' ∧ mG S' T b w cs.length x.1 x.2 fs' o' true) := by
  obtain ⟨S1, a1, a2, a3⟩ := m174g (d := d + 3) (kd := kd) h (by decide)
  have hT := h.1.1.2.2.1
  have e : b179_38 (d + 4) (nI kd) S = gLo d S1 := by
    rw [b179_38_eq (d + 4) (nI kd) S h.W, a1, Option.bind_some]
    rfl
  have len : ∀ {x}, g_fm T w p cs = .inr x → x.2.length ≤ 1600 := fun {x} z => by
    obtain ⟨z1, z2, r, z3, z4, _⟩ := g_fm_gd (T := T) (w := w) p cs x.1 x.2 h.1.2.1 z
    rw [z3, List.length_append]
    omega
  rw [e]
  obtain ⟨A1, A2, _⟩ := s_all (d := d) (T := T) (b := b) (w := w) (f0 := cs.length) 7 (by omega)
  by_cases w2 : w = 2
  · rw [if_pos w2] at hkd
    have ef : g_fm T w = (g_L T w 7).1 := by unfold g_fm; rw [if_pos w2]
    have g := A1 S1 p cs kd 0 true 0 [] [] a3 (by omega) (by decide) (fun z => by rw [hkd] at z; cases z) (by decide) (by decide) (by show cs.length + 0 + 0 + 0 ≤ p; omega) h1 (fun c hc => by cases hc)
    rw [← ef] at g
    cases eg : g_fm T w p cs with
    | inl x =>
      rw [eg] at g
      obtain ⟨S', b1, b2⟩ := g
      exact ⟨S', b1, b2.tr a2⟩
    | inr x =>
      have ll := len eg
      rw [eg] at g
      obtain ⟨S', r, cs1, b1, b2, b3, b4, b5, b6, b7, b8, b9⟩ := g
      rw [List.append_nil] at b3
      rw [b4, List.length_append] at ll
      by_cases k4 : g_kd T x.1 = 4
      · obtain ⟨S2, c1, c2⟩ := t_lex (d := d) b3 k4
        exact Or.inl ⟨k4, S2, b1.trans c1, (c2.tr b2).tr a2⟩
      · obtain ⟨S2, c1, c2, c3⟩ := t_fin (d := d) b3 k4 (by omega) (by decide) (by decide) ⟨fun _ => ⟨b9 (by decide), b8 (by decide)⟩, fun z => by rw [hkd] at z; cases z⟩ (by show 0 + r.length < 499; omega) (by omega) (by omega) (by decide)
        rw [← b4] at c3
        exact Or.inr ⟨k4, S2, _, _, b1.trans c1, a2.trans (b2.trans c2), c3⟩
  · rw [if_neg w2] at hkd
    have ef : g_fm T w = (g_L T w 7).2.1 := by unfold g_fm; rw [if_neg w2]
    have g := A2 S1 p cs kd 0 [] [] a3 (by omega) (by rw [hkd]; rfl) (by decide) (by decide) (by show cs.length + 0 + 0 + 0 ≤ p; omega) h1 (fun c hc => by cases hc)
    rw [← ef] at g
    cases eg : g_fm T w p cs with
    | inl x =>
      rw [eg] at g
      obtain ⟨S', b1, b2⟩ := g
      exact ⟨S', b1, b2.tr a2⟩
    | inr x =>
      have ll := len eg
      rw [eg] at g
      obtain ⟨S', r, cs1, ph, b1, b2, b3, b4, b5, b6, b7, b8, b9, b10, b11⟩ := g
      rw [List.append_nil] at b3
      rw [b4, List.length_append] at ll
      by_cases k4 : g_kd T x.1 = 4
      · obtain ⟨S2, c1, c2⟩ := t_lex (d := d) b3 k4
        exact Or.inl ⟨k4, S2, b1.trans c1, (c2.tr b2).tr a2⟩
      · obtain ⟨S2, c1, c2, c3⟩ := t_fin (d := d) b3 k4 (by omega) (by omega) (by decide) ⟨fun z => b9 (by omega), fun _ => ⟨by omega, b10 (by decide), b11 (by decide)⟩⟩ (by show 0 + r.length < 499; omega) (by omega) (by omega) (by omega)
        rw [← b4] at c3
        exact Or.inr ⟨k4, S2, _, _, b1.trans c1, a2.trans (b2.trans c2), c3⟩
end HT
