/-! STEPS: weights. -/
section TZ
variable {d n : Nat} {S : z_S} {f : Nat → Bool}
def cFt (S : z_S) (n : Nat) (f : Nat → Bool) : Prop := n ≤ 40 ∧ gI S 182 4 = nI n ∧ ∀ j, j < 40 → gI S 185 j = bI (f j)
def q_wt (n : Nat) (f : Nat → Bool) (i : Nat) : Nat := if f i then (if i + 1 = n then 40 - i else 1) else 0
def q_wts (n : Nat) (f : Nat → Bool) : Nat → Nat
  | 0 => 0
  | i + 1 => q_wts n f i + q_wt n f i
theorem c90 {i : Nat} (hW : z_W S) (h : cFt S n f) (hi : i < n) : fI (d + 1) 90 [.ref 182, .int (nI i)] S = some (nI (q_wt n f i), S) := by
  obtain ⟨h1, h2, h3⟩ := h
  have e := e90 d (nI i) S hW
  have g : gI S 185 (nI i).toNatClampNeg = bI (f i) := by rw [nI_clamp (by omega)]; exact h3 i (by omega)
  have hs : nI n - (1 : Int32) = nI (n - 1) := pk_sub (b := 1) (by omega)
  have h4 : (40 : Int32) - nI i = nI (40 - i) := pk_sub (a := 40) (by omega)
  rw [if_pos ((ni_in (by omega)).mpr (by omega)), g, h2, hs, h4] at e
  unfold q_wt
  cases hf : f i
  · rw [hf, if_neg (fun z => z rfl)] at e
    rw [if_neg (by decide)]
    exact e
  · rw [hf, if_pos (show ¬ bI true = (0 : Int32) by decide)] at e
    rw [if_pos rfl]
    by_cases c : i + 1 = n
    · rw [if_neg (fun z => z (by rw [show n - 1 = i by omega]))] at e
      rw [if_pos c]
      exact e
    · rw [if_pos (fun z => c (by have := (nI_eq (by omega) (by omega)).mp z; omega))] at e
      rw [if_neg c]
      exact e
theorem c91_l (hW : z_W S) (h : cFt S n f) : ∀ m i, i + m = n → b91_4 (d + 1) (nI (q_wts n f i)) (nI i) S = some (nI (q_wts n f n), S)
  | 0, i, hi => by
    have h1 := h.1
    have e := b91_4_eq (d + 1) (nI (q_wts n f i)) (nI i) S hW
    rw [h.2.1, if_pos ((nI_leI (by omega) (by omega)).mpr (by omega))] at e
    rw [e, show i = n by omega]
  | m + 1, i, hi => by
    have h1 := h.1
    have e := b91_4_eq (d + 1) (nI (q_wts n f i)) (nI i) S hW
    rw [h.2.1, if_neg (show ¬ nI n ≤ nI i from fun z => by have := (nI_leI (by omega) (by omega)).mp z; omega), c90 (d := d) hW h (by omega), zb_some, nI_add, show nI i + (1 : Int32) = nI (i + 1) from nI_add i 1] at e
    rw [e]
    exact c91_l hW h m (i + 1) (by omega)
theorem c91 (hW : z_W S) (h : cFt S n f) : fI (d + 2) 91 [.ref 182] S = some (nI (q_wts n f n), S) :=
  (e91 (d + 1) S hW).trans (c91_l hW h n 0 (Nat.zero_add _))
end TZ
