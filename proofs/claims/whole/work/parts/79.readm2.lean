/-! READING AN IMAGE: the reference's loops. -/
def q_mk : List Nat → Nat
  | [] => 0
  | a :: r => q_mk r ||| 2 ^ a
theorem q_mk_b : ∀ (l : List Nat) (j : Nat), (q_mk l).testBit j = true ↔ j ∈ l
  | [], j => by rw [q_mk, Nat.zero_testBit]; simp
  | a :: r, j => by
    rw [q_mk, Nat.testBit_or, Nat.testBit_two_pow, Bool.or_eq_true, q_mk_b r j, decide_eq_true_eq, List.mem_cons]
    constructor
    · rintro (z | z)
      · exact Or.inr z
      · exact Or.inl z.symm
    · rintro (z | z)
      · exact Or.inr z.symm
      · exact Or.inl z
theorem q_mk_lt {n : Nat} : ∀ (l : List Nat), (∀ k, k ∈ l → k < n) → q_mk l < 2 ^ n
  | [], _ => Nat.pow_pos (by decide)
  | a :: r, h => Nat.or_lt_two_pow (q_mk_lt r (fun k hk => h k (List.mem_cons_of_mem _ hk))) (Nat.pow_lt_pow_right (by decide) (h a List.mem_cons_self))
theorem q_mk_eq {l1 l2 : List Nat} (h : ∀ k, k ∈ l1 ↔ k ∈ l2) : q_mk l1 = q_mk l2 := Nat.eq_of_testBit_eq fun j => by
  have := h j
  rw [← q_mk_b, ← q_mk_b] at this
  cases h1 : (q_mk l1).testBit j <;> cases h2 : (q_mk l2).testBit j
  · rfl
  · rw [h1, h2] at this; exact absurd (this.mpr rfl) (by decide)
  · rw [h1, h2] at this; exact absurd (this.mp rfl) (by decide)
  · rfl
theorem q_mk_s (l : List Nat) (x : Nat) : q_mk l ||| 2 ^ x = q_mk (l ++ [x]) := by
  rw [show q_mk l ||| 2 ^ x = q_mk (x :: l) from rfl]
  exact q_mk_eq fun k => by rw [List.mem_cons, List.mem_append, List.mem_singleton, or_comm]
/-- those whom the image tells on the bench -/
def q_mw (P : q_Pl) (tp : List Nat) : Nat → Nat
  | 0 => 0
  | i + 1 => q_mw P tp i ||| (if tp.getD (5 + p_R P + 2 * i) 0 = 254 then 2 ^ i else 0)
theorem q_mw_b (P : q_Pl) (tp : List Nat) (j : Nat) : ∀ i, (q_mw P tp i).testBit j = true ↔ j < i ∧ tp.getD (5 + p_R P + 2 * j) 0 = 254
  | 0 => by rw [q_mw, Nat.zero_testBit]; simp
  | i + 1 => by
    rw [q_mw, Nat.testBit_or, Bool.or_eq_true, q_mw_b P tp j i]
    by_cases c : tp.getD (5 + p_R P + 2 * i) 0 = 254
    · rw [if_pos c, Nat.testBit_two_pow, decide_eq_true_eq]
      constructor
      · rintro (z | z)
        · exact ⟨by omega, z.2⟩
        · subst z; exact ⟨by omega, c⟩
      · intro z
        by_cases w : i = j
        · exact Or.inr w
        · exact Or.inl ⟨by omega, z.2⟩
    · rw [if_neg c, Nat.zero_testBit]
      constructor
      · rintro (z | z)
        · exact ⟨by omega, z.2⟩
        · cases z
      · intro z
        refine Or.inl ⟨?_, z.2⟩
        rcases Nat.lt_or_ge j i with w | w
        · exact w
        · have : j = i := by omega
          rw [this] at z; exact absurd z.2 c
theorem q_mw_lt (P : q_Pl) (tp : List Nat) : ∀ i, q_mw P tp i < 2 ^ i
  | 0 => by show 0 < 1; decide
  | i + 1 => by
    rw [q_mw]
    refine Nat.or_lt_two_pow (Nat.lt_of_lt_of_le (q_mw_lt P tp i) (Nat.pow_le_pow_right (by decide) (by omega))) ?_
    split
    · exact Nat.pow_lt_pow_right (by decide) (by omega)
    · exact Nat.pow_pos (by decide)
theorem q_rk_w {P : q_Pl} {tp : List Nat} {s s' : q_St} {k : Nat} (hP : p_Wf P) (hk : k < p_L P) (e : q_rk P tp s k = some s') : ∀ j, q_w s' j = 254 ↔ (if j = k then tp.getD (5 + p_R P + 2 * k) 0 = 254 else q_w s j = 254) := by
  have ff := hP.2.2.2.2.2.2.2.1 k hk
  have hR := hP.1
  intro j
  unfold q_rk at e
  generalize tp.getD (5 + p_R P + 2 * k) 0 = w at e ⊢
  generalize tp.getD (5 + p_R P + 2 * k + 1) 0 = y at e
  split at e
  · rename_i c1
    split at e
    · injection e with e
      subst e
      show q_u (q_w s) k w j = 254 ↔ _
      by_cases z : j = k
      · subst z; rw [q_us, if_pos rfl]
      · rw [q_un z, if_neg z]
    · cases e
  · split at e
    · injection e with e
      subst e
      show q_u (q_w s) k w j = 254 ↔ _
      by_cases z : j = k
      · subst z; rw [q_us, if_pos rfl]
      · rw [q_un z, if_neg z]
    · cases e
theorem q_rl_w {P : q_Pl} {tp : List Nat} (hP : p_Wf P) : ∀ (m k : Nat) (s s' : q_St), k + m = p_L P → q_rl P tp m k s = some s' → ∀ j, q_w s' j = 254 ↔ (if k ≤ j ∧ j < p_L P then tp.getD (5 + p_R P + 2 * j) 0 = 254 else q_w s j = 254)
  | 0, k, s, s', hk, e, j => by
    rw [q_rl] at e
    injection e with e
    rw [e, if_neg (by omega)]
  | m + 1, k, s, s', hk, e, j => by
    rw [q_rl] at e
    cases hq : q_rk P tp s k with
    | none => rw [hq] at e; cases e
    | some s1 =>
      rw [hq] at e
      rw [q_rl_w hP m (k + 1) s1 s' (by omega) e j]
      have h1 := q_rk_w hP (by omega) hq j
      by_cases z : j = k
      · subst z
        rw [if_neg (by omega), h1, if_pos rfl, if_pos ⟨Nat.le_refl _, by omega⟩]
      · rw [if_neg z] at h1
        by_cases w : k ≤ j ∧ j < p_L P
        · rw [if_pos ⟨by omega, w.2⟩, if_pos w]
        · rw [if_neg (by omega), if_neg w, h1]
section TT
variable {d b : Nat} {S : z_S} {P : q_Pl} {tp : List Nat} {s : q_St} {A : q_A}
theorem m272_l (hb : ∀ x, x ∈ tp → x < 256) (hl : 5 + p_R P + 2 * p_L P < tp.length) (hl2 : tp.length ≤ 1600) : ∀ (m k : Nat) (S : z_S) (s : q_St), k + m = p_L P → mE S b P tp → mR S P k s → q_RI P k s → ∃ S', onM rD S S' ∧ ((q_rl P tp m k s = none ∧ b272_329 (d + 3) (nI (5 + p_R P)) (nI (5 + p_R P + 2 * p_L P)) (nI (q_mw P tp k)) (nI k) S = some ((0 : Int32), S')) ∨ ∃ s', q_rl P tp m k s = some s' ∧ mR S' P (p_L P) s' ∧ b272_329 (d + 3) (nI (5 + p_R P)) (nI (5 + p_R P + 2 * p_L P)) (nI (q_mw P tp k)) (nI k) S = zb (fI (d + 3) 271 [.ref 396, .int (nI (5 + p_R P + 2 * p_L P + 1)), .int (nI (tp.getD (5 + p_R P + 2 * p_L P) 0)), .int (nI (q_mw P tp (p_L P)))] S') fun v S => if v = 0 ∨ v = 1 then some (v, S) else none)
  | 0, k, S, s, hk, h, hs, hI => by
    have hP := h.1.2.2.2.2
    have hL := hP.2.2.2.2.1
    have hR := hP.1
    have e := b272_329_eq (d + 3) (nI (5 + p_R P)) (nI (5 + p_R P + 2 * p_L P)) (nI (q_mw P tp k)) (nI k) S h.1.1
    have hbb := h.1.2.1
    have gl : gI S 402 (nI b).toNatClampNeg = nI (p_L P) := by rw [nI_clamp (by omega)]; exact h.1.2.2.2.1.2.2.2.2.1
    have g0 : gI S 397 (nI (5 + p_R P + 2 * p_L P)).toNatClampNeg = nI (tp.getD (5 + p_R P + 2 * p_L P) 0) := by rw [nI_clamp (by omega)]; exact h.2 _ hl
    rw [h.1.2.2.1, if_pos ((ni_in (by omega)).mpr hbb), gl, if_pos ((nI_leI (by omega) (by omega)).mpr (by omega)), if_pos ((ni_in (by omega)).mpr (by omega)), g0] at e
    have hkL : k = p_L P := by omega
    subst hkL
    refine ⟨S, onM.refl h.1.1, Or.inr ⟨s, by rw [q_rl], hs, ?_⟩⟩
    rw [e, ← nI_add (5 + p_R P + 2 * p_L P) 1]
    rfl
  | m + 1, k, S, s, hk, h, hs, hI => by
    have hP := h.1.2.2.2.2
    have hL := hP.2.2.2.2.1
    have hR := hP.1
    have e := b272_329_eq (d + 3) (nI (5 + p_R P)) (nI (5 + p_R P + 2 * p_L P)) (nI (q_mw P tp k)) (nI k) S h.1.1
    have hbb := h.1.2.1
    have gl : gI S 402 (nI b).toNatClampNeg = nI (p_L P) := by rw [nI_clamp (by omega)]; exact h.1.2.2.2.1.2.2.2.2.1
    obtain ⟨v, S1, a1, a2, a3, a4⟩ := m270 (d := d) (k := k) hb (by omega) hl2 (by omega) h hs hI
    have h1 := h.on a2
    have g0 : gI S1 397 (nI (5 + p_R P + 2 * k)).toNatClampNeg = nI (tp.getD (5 + p_R P + 2 * k) 0) := by rw [nI_clamp (by omega)]; exact h1.2 _ (by omega)
    have l0 := tp_b hb (5 + p_R P + 2 * k)
    rw [h.1.2.2.1, if_pos ((ni_in (by omega)).mpr hbb), gl, if_neg (show ¬ nI (p_L P) ≤ nI k from fun z => by have := (nI_leI (by omega) (by omega)).mp z; omega), show (2 : Int32) = nI 2 from rfl, pk_mul, nI_add, a1, zb_some] at e
    cases v with
    | false =>
      have hn : q_rk P tp s k = none := by
        cases hq : q_rk P tp s k with
        | none => rfl
        | some s1 => have := a3.mpr (by rw [hq]; rfl); cases this
      rw [if_neg (by decide)] at e
      refine ⟨S1, a2, Or.inl ⟨by rw [q_rl, hn]; rfl, e⟩⟩
    | true =>
      obtain ⟨s1, hs1⟩ := Option.isSome_iff_exists.mp (a3.mp rfl)
      have k4 : nI (tp.getD (5 + p_R P + 2 * k) 0) = (254 : Int32) ↔ tp.getD (5 + p_R P + 2 * k) 0 = 254 := nI_eq (b := 254) (by omega) (by omega)
      have hsh : (1 : Int32) <<< (nI k &&& 31) = nI (2 ^ k) := ni_shl (by omega)
      have e387 : ∀ t : Nat, b272_387 (d + 3) (nI (5 + p_R P)) (nI (5 + p_R P + 2 * p_L P)) (nI k) (nI t) (nI (q_mw P tp k)) S1 = b272_329 (d + 3) (nI (5 + p_R P)) (nI (5 + p_R P + 2 * p_L P)) (nI (q_mw P tp k ||| t)) (nI (k + 1)) S1 := fun t => by
        have e2 := b272_387_eq (d + 3) (nI (5 + p_R P)) (nI (5 + p_R P + 2 * p_L P)) (nI k) (nI t) (nI (q_mw P tp k)) S1 h1.1.1
        rw [fa_or, show (1 : Int32) = nI 1 from rfl, nI_add] at e2
        exact e2
      rw [if_pos (by decide), if_pos ((ni_in (by omega)).mpr (by omega)), g0, hsh, show (0 : Int32) = nI 0 from rfl, e387, e387] at e
      have e' : b272_329 (d + 3) (nI (5 + p_R P)) (nI (5 + p_R P + 2 * p_L P)) (nI (q_mw P tp k)) (nI k) S = b272_329 (d + 3) (nI (5 + p_R P)) (nI (5 + p_R P + 2 * p_L P)) (nI (q_mw P tp (k + 1))) (nI (k + 1)) S1 := by
        rw [e, q_mw]
        by_cases c : tp.getD (5 + p_R P + 2 * k) 0 = 254
        · rw [if_neg (fun z => z (k4.mpr c)), if_pos c]
        · rw [if_pos (fun z => c (k4.mp z)), if_neg c]
      obtain ⟨S2, b1, b2⟩ := m272_l hb hl hl2 m (k + 1) S1 s1 (by omega) h1 (a4 s1 hs1) (q_RI_k hP (by omega) hI hs1)
      have hrl : q_rl P tp (m + 1) k s = q_rl P tp m (k + 1) s1 := by rw [q_rl, hs1]; rfl
      refine ⟨S2, a2.trans b1, ?_⟩
      rw [hrl, e']
      exact b2
end TT
