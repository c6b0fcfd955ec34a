/-! THE TEXT: the reference reads all statements. -/
section HZ
variable {d b : Nat} {T : List Nat}
def mRl (r : Option (Int32 × z_S)) (D : Nat) (S : z_S) (T : List Nat) (b : Nat) (g : Sum (Nat × Nat) g_Q) : Prop := match g with
  | .inl e => ∃ v S', r = b192_180 D v S' ∧ mFr S S' b e
  | .inr Q => ∃ p S', r = b192_180 D (nI (p_m Q.1)) S' ∧ onM (g_rD b) S S' ∧ mS S' T b p Q ∧ g_iv T p Q ∧ p_m Q.1 ≠ 0
theorem mRl.tr {r : Option (Int32 × z_S)} {D : Nat} {S S' : z_S} {g : Sum (Nat × Nat) g_Q} (h : mRl r D S' T b g) (o : onM (g_rD b) S S') : mRl r D S T b g := by
  cases g with
  | inl e =>
    obtain ⟨v, S2, a1, a2⟩ := h
    exact ⟨v, S2, a1, a2.tr o⟩
  | inr x =>
    obtain ⟨p, S2, a1, a2, a3⟩ := h
    exact ⟨p, S2, a1, o.trans a2, a3⟩
/-- under a fault the loop ends -/
theorem b192_f {S S' : z_S} {e : Nat × Nat} {D : Nat} {y : Int32} (h : mFr S S' b e) : b192_151 D y S' = b192_180 D y S' := by rw [b192_151_eq D y S' h.1.W, if_pos h.n8.2]
/-- behind a statement -/
theorem m192k {S : z_S} {n : Nat} {x : Nat × g_Q} (h : mS S T b x.1 x.2) (hi : g_iv T x.1 x.2) (hR : 2 ≤ p_R x.2.1) (hn : p_m x.2.1 = n) (h60 : n < 60)
    (ih : ∀ S', mS S' T b (g_en T x.1) (P_m x.2.1 (n + 1), x.2.2) → g_iv T (g_en T x.1) (P_m x.2.1 (n + 1), x.2.2) → (n + 1 = 60 → g_kd T (g_en T x.1) = 0) → mRl (b192_151 (d + 7) (nI (n + 1)) S') (d + 7) S' T b (g_lop T (60 - n) (g_en T x.1) (P_m x.2.1 (n + 1), x.2.2))) :
    ∃ S', fV (d + 7) 191 [.ref 396, .int (nI (n + 1))] S = some S' ∧ mRl (b192_151 (d + 7) (nI (n + 1)) S') (d + 7) S T b (if g_sg T x.1 59 then g_lop T (60 - n) (g_en T x.1) (P_m x.2.1 (n + 1), x.2.2) else .inl (1, g_ft T x.1)) := by
  obtain ⟨c1, c2, c3⟩ := m191s (d := d + 3) (n := n + 1) h hi (by omega)
  cases hs : g_sg T x.1 59 with
  | false =>
    obtain ⟨S', a1, a2⟩ := c1 hs
    refine ⟨S', a1, ?_⟩
    rw [if_neg Bool.false_ne_true]
    exact ⟨_, S', b192_f a2, a2⟩
  | true =>
    rw [if_pos rfl]
    by_cases c : n + 1 = 60 ∧ g_st T (g_en T x.1) < T.length
    · obtain ⟨S', a1, a2⟩ := c2 hs c.1 c.2
      refine ⟨S', a1, ?_⟩
      have k0 : ¬ g_kd T (g_en T x.1) = 0 := fun z => (g_kd_0.mp z) c.2
      rw [show 60 - n = 0 + 1 by omega, g_lop, if_neg k0, if_pos (show p_m (P_m x.2.1 (n + 1)) = 60 from c.1)]
      exact ⟨_, S', b192_f a2, a2⟩
    · obtain ⟨S', a1, a2, a3⟩ := c3 hs c
      have hi' := g_iv_m (x := x) hi hR (by omega) hs
      rw [hn] at hi'
      refine ⟨S', a1, (ih S' a3 hi' (fun z => g_kd_0.mpr fun y => c ⟨z, y⟩)).tr a2⟩
theorem m192l : ∀ (m n : Nat) (S : z_S) (p : Nat) (Q : g_Q), n + m = 61 → n ≠ 0 → p_m Q.1 = n → mS S T b p Q → g_iv T p Q → (n = 60 → g_kd T p = 0) → mRl (b192_151 (d + 7) (nI n) S) (d + 7) S T b (g_lop T m p Q)
  | 0, n, S, p, Q, hn, hn0, hm, h, hi, hk => by
    have := hi.2.2.1.2.2.2.2.2.1
    omega
  | m + 1, n, S, p, Q, hn, hn0, hm, h, hi, hk => by
    have n60 := hi.2.2.1.2.2.2.2.2.1
    have h4 := g_kd_le (T := T) (p := p)
    have k3 : gI S 396 3 = (0 : Int32) ↔ g_kd T p = 0 := by
      rw [h.1.2.2.1]
      by_cases k4 : g_kd T p = 4
      · unfold g_km
        rw [if_pos k4]
        constructor
        · intro z
          split at z
          · exact absurd z (by decide)
          · exact absurd z (by decide)
        · intro z; omega
      · rw [g_km_n k4]
        exact nI_eq (b := 0) (by omega) (by omega)
    rw [b192_151_eq (d + 7) (nI n) S h.W, if_neg (fun z => z h.z8.2), g_lop]
    by_cases k0 : g_kd T p = 0
    · rw [if_pos (k3.mpr k0), if_pos k0, if_neg (by omega)]
      exact ⟨p, S, by rw [hm], onM.refl h.W, h, hi, by omega⟩
    · rw [if_neg (fun z => k0 (k3.mp z)), if_neg k0, if_neg (by omega)]
      have g := m190s (d := d) h hi (by omega)
      rw [nI_1]
      cases eg : g_stm T p Q with
      | inl f =>
        rw [eg] at g
        obtain ⟨S', a1, a2⟩ := g
        rw [a1, Option.bind_some, m191f (d := d + 4) a2, Option.bind_some]
        exact ⟨_, S', b192_f a2, a2⟩
      | inr x =>
        rw [eg] at g
        obtain ⟨y1, y2, y3, y4⟩ := g_stm_iv hi eg
        rcases g with ⟨k4, S', a1, a2⟩ | ⟨S', a1, a2, a3⟩
        · have ns : g_sg T x.1 59 = false := by unfold g_sg; rw [decide_eq_false (by omega), Bool.false_and]
          rw [a1, Option.bind_some, m191f (d := d + 4) a2, Option.bind_some]
          show mRl _ _ S T b (if g_sg T x.1 59 then _ else _)
          rw [ns, if_neg Bool.false_ne_true]
          exact ⟨_, S', b192_f a2, a2⟩
        · obtain ⟨S2, b1, b2⟩ := m192k (d := d) (n := n) (x := x) a3 y2 y4 (y3.trans hm) (by omega) (fun S2 z1 z2 z3 => by
            rw [show 60 - n = m by omega]
            exact m192l m (n + 1) S2 _ _ (by omega) (by omega) rfl z1 z2 z3)
          rw [a1, Option.bind_some, b1, Option.bind_some]
          show mRl _ _ S T b (if g_sg T x.1 59 then g_lop T m (g_en T x.1) (P_m x.2.1 (p_m x.2.1 + 1), x.2.2) else _)
          rw [y3, hm]
          rw [show 60 - n = m by omega] at b2
          exact b2.tr a2
/-- from the first token on -/
theorem m192f {S : z_S} (h : mS S T b 0 (g_P0, [], fun _ => 0)) : mRl ((fV (d + 7) 184 [.ref 396] S).bind fun S11 => ((fV (d + 7) 191 [.ref 396, .int (1 : Int32)] S11).bind fun S13 => b192_151 (d + 7) (1 : Int32) S13)) (d + 7) S T b (g_txt T) := by
  have hi := g_iv_0 (T := T)
  have g := m184s (d := d + 3) h hi rfl
  unfold g_txt
  rw [g_lop]
  by_cases k0 : g_kd T 0 = 0
  · have w0 : g_ow T 0 0 = false := by unfold g_ow; rw [decide_eq_false (by omega), Bool.false_and]
    rw [if_pos k0, if_pos (show p_m g_P0 = 0 from rfl)]
    unfold g_stm at g
    rw [w0, decide_eq_true (show p_m g_P0 = 0 from rfl), if_neg (by decide)] at g
    obtain ⟨S', a1, a2⟩ := g
    rw [a1, Option.bind_some, m191f (d := d + 4) a2, Option.bind_some]
    exact ⟨_, S', b192_f a2, a2⟩
  · rw [if_neg k0, if_neg (show ¬ p_m g_P0 = 60 by decide)]
    cases eg : g_stm T 0 (g_P0, [], fun _ => 0) with
    | inl f =>
      rw [eg] at g
      obtain ⟨S', a1, a2⟩ := g
      rw [a1, Option.bind_some, m191f (d := d + 4) a2, Option.bind_some]
      exact ⟨_, S', b192_f a2, a2⟩
    | inr x =>
      rw [eg] at g
      obtain ⟨y1, y2, y3, y4⟩ := g_stm_iv hi eg
      obtain ⟨S', a1, a2, a3⟩ := g
      have y3 : p_m x.2.1 = 0 := y3
      obtain ⟨S2, b1, b2⟩ := m192k (d := d) (n := 0) (x := x) a3 y2 y4 y3 (by omega) (fun S2 z1 z2 z3 => m192l 60 1 S2 _ _ (by omega) (by omega) rfl z1 z2 z3)
      have b1' : fV (d + 7) 191 [.ref 396, .int (1 : Int32)] S' = some S2 := b1
      rw [a1, Option.bind_some, b1', Option.bind_some]
      show mRl _ _ S T b (if g_sg T x.1 59 then g_lop T 60 (g_en T x.1) (P_m x.2.1 (p_m x.2.1 + 1), x.2.2) else _)
      rw [y3]
      exact b2.tr a2
end HZ
