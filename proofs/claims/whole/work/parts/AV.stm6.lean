/-! THE TEXT: the class reads statement by statement. -/
section HI
variable {d q : Nat} {T : List Nat} {S : z_S} {p : Nat} {Q : g_Q}
theorem c11s (h : cS S T q p Q) : (g_sg T p 59 = true → ∃ S', fI (d + 4) 11 [.ref 18, .int (59 : Int32)] S = some (1, S') ∧ onI (g_sD q) S S' ∧ cS S' T q (g_en T p) Q) ∧ (g_sg T p 59 = false → cFl (fI (d + 4) 11 [.ref 18, .int (59 : Int32)] S) S q (1, g_ft T p)) := by
  have s : fI (d + 3) 104 [.ref 19, .int (59 : Int32)] S = _ := c104 (d := d + 2) (c := 59) h.1 (by omega)
  rw [e11 (d + 3) 59 S h.W, s, zb_some]
  refine ⟨fun hs => ?_, fun hs => ?_⟩
  · obtain ⟨S', a1, a2, a3⟩ := c98s (d := d) h (by rw [g_sg_k hs]; decide)
    rw [hs, if_pos (show ¬ bI true = (0 : Int32) by decide), a1, Option.bind_some]
    exact ⟨S', rfl, a2, a3⟩
  · rw [hs, if_neg (show ¬ ¬ bI false = (0 : Int32) from fun z => z rfl)]
    exact (c9s (d := d + 2) h.1).C
def cRl (r : Option (Int32 × z_S)) (S : z_S) (T : List Nat) (q : Nat) (g : Sum (Nat × Nat) g_Q) : Prop := match g with
  | .inl e => cFl r S q e
  | .inr Q => ∃ S' p, r = some (1, S') ∧ onI (g_sD q) S S' ∧ cS S' T q p Q ∧ g_iv T p Q ∧ 0 < p_m Q.1
theorem cRl.tr {r : Option (Int32 × z_S)} {S S' : z_S} {g : Sum (Nat × Nat) g_Q} (h : cRl r S' T q g) (o : onI (g_sD q) S S') : cRl r S T q g := by
  cases g with
  | inl e => exact cFl.tr h o
  | inr x =>
    obtain ⟨S2, p, a1, a2, a3⟩ := h
    exact ⟨S2, p, a1, o.trans a2, a3⟩
theorem g_iv_m {x : Nat × g_Q} (h : g_iv T x.1 x.2) (hR : 2 ≤ p_R x.2.1) (hm : p_m x.2.1 < 60) (hs : g_sg T x.1 59 = true) : g_iv T (g_en T x.1) (P_m x.2.1 (p_m x.2.1 + 1), x.2.2) := by
  obtain ⟨h1, h2, h3, h4, h5, h6, h7⟩ := h
  obtain ⟨w1, w2, w3, w4, w5, w6, w7⟩ := h3
  have a := g_en_k h1 (by rw [g_sg_k hs]; decide)
  exact ⟨a.2, by show x.2.2.1.length ≤ g_en T x.1; omega, ⟨w1, w2, w3, w4, w5, by show p_m x.2.1 + 1 ≤ 60; omega, w7⟩, fun z => absurd z (Nat.succ_ne_zero _), fun _ => hR, h6, h7⟩
theorem c8l : ∀ (m n : Nat) (S : z_S) (p : Nat) (Q : g_Q), n + m = 61 → p_m Q.1 = n → cS S T q p Q → g_iv T p Q → g_ok T p → cRl (b8_34 (d + 70) (nI n) S) S T q (g_lop T m p Q)
  | 0, n, S, p, Q, hn, hm, h, hi, hk => by
    have := hi.2.2.1.2.2.2.2.2.1
    omega
  | m + 1, n, S, p, Q, hn, hm, h, hi, hk => by
    have h4 := g_kd_le (T := T) (p := p)
    rw [b8_34_eq (d + 70) (nI n) S h.W, if_neg (show ¬ (60 : Int32) < nI n from fun z => by have := (nI_ltI (a := 60) (by omega) (by omega)).mp z; omega), h.1.2.2.1]
    unfold g_lop
    by_cases c0 : g_kd T p = 0
    · rw [if_pos c0, if_pos (show nI (g_kd T p) = (0 : Int32) by rw [c0]; rfl), b8_102_eq (d + 70) S h.W, h.2.2.1, h.2.2.2.1, hm]
      by_cases cn : n = 0
      · obtain ⟨S2, a1, a2, a3⟩ := c9s (d := d + 69) (q := q) h.1
        rw [if_pos cn, if_neg (show ¬ (0 : Int32) < nI n from fun z => by have := (nI_ltI (a := 0) (by omega) (by omega)).mp z; omega), a1, zb_some, if_pos (show (0 : Int32) = 0 from rfl)]
        exact ⟨S2, rfl, a2, a3⟩
      · rw [if_neg cn, if_pos (show (0 : Int32) < nI n from nI_lt (a := 0) (by omega) (by omega)), b8_119_eq (d + 70) S h.W]
        exact ⟨S, p, rfl, onI.refl h.W, h, hi, by omega⟩
    · rw [if_neg c0, if_neg (show ¬ nI (g_kd T p) = (0 : Int32) from fun z => c0 ((nI_eq (b := 0) (by omega) (by omega)).mp z)), hm]
      by_cases c6 : n = 60
      · rw [if_pos c6, if_neg (show ¬ ¬ nI n = (60 : Int32) from fun z => z (by rw [c6]; rfl))]
        exact ((c10s (d := d + 69) (k := 6) h.1).C : cFl _ _ _ _)
      · rw [if_neg c6, if_pos (show ¬ nI n = (60 : Int32) from fun z => c6 ((nI_eq (b := 60) (by omega) (by omega)).mp z))]
        have hst := c12s (d := d) h hi hk
        cases eg : g_stm T p Q with
        | inl e =>
          rw [eg] at hst
          obtain ⟨S2, a1, a2⟩ := hst
          rw [a1, zb_some, if_pos (show (0 : Int32) = 0 from rfl)]
          exact ⟨S2, rfl, a2⟩
        | inr x =>
          rw [eg] at hst
          obtain ⟨S2, a1, a2, a3⟩ := hst
          obtain ⟨v1, v2, v3, v4⟩ := g_stm_iv hi eg
          rw [a1, zb_some, if_neg (show ¬ (1 : Int32) = 0 by decide)]
          obtain ⟨t1, t2⟩ := c11s (d := d + 66) a3
          show cRl _ S T q (if g_sg T x.1 59 = true then g_lop T m (g_en T x.1) (P_m x.2.1 (p_m x.2.1 + 1), x.2.2) else .inl (1, g_ft T x.1))
          by_cases cs : g_sg T x.1 59 = true
          · obtain ⟨S3, b1, b2, b3⟩ := t1 cs
            rw [if_pos cs, b1, zb_some, if_pos (show ¬ (1 : Int32) = 0 by decide), b3.2.2.1, b3.2.2.2.1, nI_1, nI_1]
            obtain ⟨x1, x2⟩ := b3.set (b3.2.2.2.set (j := 0) (v := nI (p_m x.2.1 + 1)) (Q' := (P_m x.2.1 (p_m x.2.1 + 1), x.2.2)) (by omega) rfl ⟨rfl, rfl, rfl, rfl, rfl, rfl⟩ ⟨rfl, rfl, rfl, rfl, rfl, rfl⟩)
            exact (c8l m (n + 1) _ _ _ (by omega) (by show p_m x.2.1 + 1 = _; omega) x2 (g_iv_m v2 v4 (by omega) cs) (g_ok_en v2.1 (Or.inr (g_sg_k cs)))).tr (a2.trans (b2.trans x1))
          · have cs' : g_sg T x.1 59 = false := by simpa using cs
            obtain ⟨S3, b1, b2⟩ := (t2 cs').tr a2
            rw [if_neg cs, b1, zb_some, if_neg (show ¬ ¬ (0 : Int32) = 0 by decide)]
            exact ⟨S3, rfl, b2⟩
theorem g_Ln1 : z_Ln 1 = 1600 := by decide +kernel
theorem zK_p6 : ∀ q, q = 2 ∨ q = 10 → z_K (q + 6) = 20 ∧ z_Ln (q + 6) = 3 ∧ z_K (q + 7) = 20 ∧ z_Ln (q + 7) = 3 := by
  intro q h
  rcases h with h | h
  · rw [h]; decide +kernel
  · rw [h]; decide +kernel
/-- a plan begins -/
theorem c57s (hW : z_W S) (hq : z_K q = 6) : ∃ S', fV (d + 2) 57 [.ref q] S = some S' ∧ onI (fun c _ => q ≤ c ∧ c ≤ q + 7) S S' ∧ xP S' q (g_P0, [], fun _ => 0) := by
  obtain ⟨k1, k2, k3, k4⟩ := zK_p6 q (zP6 hq)
  have o1 : onI (fun c _ => q ≤ c ∧ c ≤ q + 7) S (sI (sI (sI (sI (sI (sI (sI (sI (sI S q 0 (0 : Int32)) q 1 (0 : Int32)) q 2 (1 : Int32)) q 3 (10 : Int32)) q 4 (0 : Int32)) q 5 (0 : Int32)) q 6 (0 : Int32)) q 7 (0 : Int32)) q 8 (0 : Int32)) := by
    have st : ∀ {S' : z_S} {k : Nat} {v : Int32}, onI (fun c _ => q ≤ c ∧ c ≤ q + 7) S S' → onI (fun c _ => q ≤ c ∧ c ≤ q + 7) S (sI S' q k v) := fun {S' k v} o => onI_sI (D := fun c _ => q ≤ c ∧ c ≤ q + 7) (c := q) (k := k) o ⟨by omega, by omega⟩
    exact st (st (st (st (st (st (st (st (st (onI.refl hW)))))))))
  have e := e57 (d + 1) q S hW hq
  generalize hS1 : sI (sI (sI (sI (sI (sI (sI (sI (sI S q 0 (0 : Int32)) q 1 (0 : Int32)) q 2 (1 : Int32)) q 3 (10 : Int32)) q 4 (0 : Int32)) q 5 (0 : Int32)) q 6 (0 : Int32)) q 7 (0 : Int32)) q 8 (0 : Int32) = S1 at e o1
  obtain ⟨S2, a1, a2, a3⟩ := c281 (d := d) (a := q + 6) (x := 0) (N := 3) (S := S1) k1 k2 (by omega) o1.W
  obtain ⟨S3, b1, b2, b3⟩ := c281 (d := d) (a := q + 7) (x := 0) (N := 3) (S := S2) k3 k4 (by omega) a2.W
  rw [a1, Option.bind_some, b1, Option.bind_some] at e
  refine ⟨S3, e, o1.trans ((a2.mono fun c k z => by omega).trans (b2.mono fun c k z => by omega)), ?_⟩
  have rd : ∀ {k}, gI S3 q k = gI S1 q k := fun {k} => by rw [b2.I (by omega), a2.I (by omega)]
  refine ⟨?_, ?_, ?_, ?_, ?_, ?_, ?_, ?_, ?_, fun i hi => ?_, fun i hi => ?_, fun i hi => ?_, fun i hi => ?_, fun i hi => ?_, fun w hw => ?_⟩
  · rw [rd, ← hS1]; simp only [gI_sI]; rfl
  · rw [rd, ← hS1]; simp only [gI_sI]; rfl
  · rw [rd, ← hS1]; simp only [gI_sI]; rfl
  · rw [rd, ← hS1]; simp only [gI_sI]; rfl
  · rw [rd, ← hS1]; simp only [gI_sI]; rfl
  · rw [rd, ← hS1]; simp only [gI_sI]; rfl
  · rw [rd, ← hS1]; simp only [gI_sI]; rfl
  · rw [rd, ← hS1]; simp only [gI_sI]; rfl
  · rw [rd, ← hS1]; simp only [gI_sI]; rfl
  · exact absurd hi (Nat.not_lt_zero _)
  · exact absurd hi (Nat.not_lt_zero _)
  · exact absurd hi (Nat.not_lt_zero _)
  · exact absurd hi (Nat.not_lt_zero _)
  · exact absurd hi (Nat.not_lt_zero _)
  · exact ⟨by rw [b2.I (by omega), a3, if_pos hw]; rfl, by rw [b3, if_pos hw]; rfl⟩
theorem g_iv_0 : g_iv T 0 (g_P0, [], fun _ => 0) := by
  refine ⟨Nat.zero_le _, Nat.le_refl _, ⟨Nat.zero_le _, by decide, by decide, by decide, by decide, by decide, by decide, fun i hi => absurd hi (Nat.not_lt_zero _), by decide, (fun c hc => by cases hc), List.nodup_nil, ?_, ?_, ?_, fun i hi => absurd hi (Nat.not_lt_zero _)⟩, fun _ => ⟨rfl, rfl⟩, fun z => absurd rfl z, by decide, fun w hw => ⟨Nat.le_refl _, fun i c z => by cases z⟩⟩
  · exact Or.inl rfl
  · exact Or.inl rfl
  · exact Or.inl rfl
end HI
