/-! STEPS: the k-th of those left. -/
section TZ2
variable {d n : Nat} {S : z_S} {f : Nat → Bool}
/-- m ends from i on, a ahead: which steps are the k-th left -/
def q_la (n : Nat) (f : Nat → Bool) (k : Int) : Nat → Nat → Nat → Option Nat
  | 0, _, _ => none
  | m + 1, i, a => if (a : Int) ≤ k ∧ k < (a : Int) + q_wt n f i then some (i + 1 + (k - a).toNat) else q_la n f k m (i + 1) (a + q_wt n f i)
theorem q_wt_le {i : Nat} : q_wt n f i ≤ 40 := by
  unfold q_wt
  split
  · split <;> omega
  · omega
theorem c92_l {x : Int32} (hW : z_W S) (h : cFt S n f) : ∀ m i a, i + m = n → a ≤ 40 * i → b92_4 (d + 1) x (nI a) (nI i) S = some (eO (q_la n f x.toInt m i a), S)
  | 0, i, a, hi, ha => by
    have h1 := h.1
    have e := b92_4_eq (d + 1) x (nI a) (nI i) S hW
    rw [h.2.1, if_pos ((nI_leI (by omega) (by omega)).mpr (by omega))] at e
    exact e
  | m + 1, i, a, hi, ha => by
    have h1 := h.1
    have hw := q_wt_le (n := n) (f := f) (i := i)
    have e := b92_4_eq (d + 1) x (nI a) (nI i) S hW
    have e40 := b92_40_eq (d + 1) x (nI a) (nI i) (nI (q_wt n f i)) S hW
    have ih := c92_l (x := x) hW h m (i + 1) (a + q_wt n f i) (by omega) (by omega)
    rw [nI_add, show nI i + (1 : Int32) = nI (i + 1) from nI_add i 1, ih] at e40
    rw [h.2.1, if_neg (show ¬ nI n ≤ nI i from fun z => by have := (nI_leI (by omega) (by omega)).mp z; omega), c90 (d := d) hW h (by omega), zb_some, e40, nI_add, show nI i + (1 : Int32) = nI (i + 1) from nI_add i 1] at e
    have k1 : x < nI a ↔ x.toInt < a := by rw [fa_lt, nI_toInt (by omega)]
    have k2 : nI (a + q_wt n f i) ≤ x ↔ ((a + q_wt n f i : Nat) : Int) ≤ x.toInt := by rw [fa_le, nI_toInt (by omega)]
    rw [q_la]
    by_cases c1 : x.toInt < a
    · rw [if_pos (k1.mpr c1)] at e
      rw [if_neg (by omega)]
      exact e
    · rw [if_neg (fun z => c1 (k1.mp z))] at e
      by_cases c2 : ((a + q_wt n f i : Nat) : Int) ≤ x.toInt
      · rw [if_pos (k2.mpr c2)] at e
        rw [if_neg (by omega)]
        exact e
      · rw [if_neg (fun z => c2 (k2.mp z))] at e
        obtain ⟨j, hj, rfl⟩ := nI_of (x := x) (fun z => by rw [fa_lt] at z; have : ((0 : Int32)).toInt = 0 := rfl; omega)
        rw [nI_toInt (by omega)] at c1 c2 ⊢
        rw [nI_add, pk_sub (by omega)] at e
        rw [if_pos (by omega), e]
        show some (nI (i + 1 + j - a), S) = some (nI (i + 1 + ((j : Int) - a).toNat), S)
        rw [show i + 1 + j - a = i + 1 + ((j : Int) - a).toNat by omega]
end TZ2
