/-! READING AN IMAGE: the class's bench, and all of it. -/
theorem q_bl_t (P : q_Pl) (tp : List Nat) {j n : Nat} (h : j ≤ n) : q_bl P tp j = (q_bl P tp n).take j := by
  unfold q_bl
  rw [← List.map_take, List.take_range, Nat.min_eq_left h]
theorem q_bl_m (P : q_Pl) (tp : List Nat) {i n : Nat} (h : i < n) : tp.getD (5 + p_R P + 2 * p_L P + 1 + i) 0 ∈ q_bl P tp n := by
  unfold q_bl
  rw [List.mem_map]
  exact ⟨i, List.mem_range.mpr h, rfl⟩
/-- the bench that an image tells is right -/
def q_bok (P : q_Pl) (tp : List Nat) (s : q_St) : Prop := tp.getD (5 + p_R P + 2 * p_L P) 0 ≤ p_B P ∧ (q_bl P tp (tp.getD (5 + p_R P + 2 * p_L P) 0)).Nodup ∧ ∀ k, k ∈ q_bl P tp (tp.getD (5 + p_R P + 2 * p_L P) 0) ↔ k < p_L P ∧ q_w s k = 254
theorem q_RI.Bl {P : q_Pl} {i : Nat} {s : q_St} {l : List Nat} (h : q_RI P i s) (hP : p_Wf P) (h1 : l.length ≤ 6) (h2 : ∀ k, k ∈ l → k < 16) : q_Bd (q_setl s l) := by
  obtain ⟨b1, b2, b3, b4, b5, b6, b7, b8, b9⟩ := h.Bd hP
  exact ⟨b1, b2, h1, b4, b5, b6, b7, b8, h2⟩
section TQ
variable {d q : Nat} {S : z_S} {P : q_Pl} {tp : List Nat} {s : q_St}
theorem c48_1 (hP : p_Wf P) (hb : ∀ x, x ∈ tp → x < 256) (hl : 5 + p_R P + 2 * p_L P < tp.length) (hl2 : tp.length ≤ 1600) (h : rE S q P tp) (hs : cSt S 32 16 s) (hI : q_RI P (p_L P) s) : ∀ m k, k + m = p_L P → b48_6 d 1 (nI (5 + p_R P + 2 * p_L P)) q 32 (nI (fb_ct (fun j => decide (q_w s j = 254)) k)) (nI k) S = (if tp.getD (5 + p_R P + 2 * p_L P) 0 = fb_ct (fun j => decide (q_w s j = 254)) (p_L P) ∧ tp.getD (5 + p_R P + 2 * p_L P) 0 ≤ p_B P then b48_70 d 1 (nI (5 + p_R P + 2 * p_L P)) q 32 (nI (tp.getD (5 + p_R P + 2 * p_L P) 0)) (nI 0) S else some ((0 : Int32), S))
  | 0, k, hk => by
    have hL := hP.2.2.2.2.1
    have hR := hP.1
    have hBB := hP.2.1
    have e := b48_6_eq d 1 (nI (5 + p_R P + 2 * p_L P)) q 32 (nI (fb_ct (fun j => decide (q_w s j = 254)) k)) (nI k) S h.1 (by decide +kernel) h.2.2.1 (by decide +kernel)
    have hln : z_Ln 1 = 1600 := by decide +kernel
    have g0 : gI S 1 (nI (5 + p_R P + 2 * p_L P)).toNatClampNeg = nI (tp.getD (5 + p_R P + 2 * p_L P) 0) := by rw [nI_clamp (by omega)]; exact h.2.2.2.2.2 _ hl
    have l0 := tp_b hb (5 + p_R P + 2 * p_L P)
    have hct : fb_ct (fun j => decide (q_w s j = 254)) (p_L P) ≤ p_L P := fb_ct_le _ _
    have hB2 : gI S q 2 = nI (p_B P) := h.2.2.2.1.2.2.1
    rw [h.2.2.2.1.2.2.2.2.2.2.1, if_pos ((nI_leI (by omega) (by omega)).mpr (by omega)), hln, if_pos ((ni_in (by omega)).mpr (by omega)), g0, hB2, show k = p_L P by omega] at e
    rw [show k = p_L P by omega, e]
    by_cases c1 : tp.getD (5 + p_R P + 2 * p_L P) 0 = fb_ct (fun j => decide (q_w s j = 254)) (p_L P)
    · rw [if_neg (fun z => z (by rw [c1]))]
      by_cases c2 : tp.getD (5 + p_R P + 2 * p_L P) 0 ≤ p_B P
      · rw [if_pos ((nI_leI (by omega) (by omega)).mpr c2), if_pos ⟨c1, c2⟩]
        rfl
      · rw [if_neg (fun z => c2 ((nI_leI (by omega) (by omega)).mp z)), if_neg (fun z => c2 z.2)]
    · rw [if_pos (fun z => c1 ((nI_eq (by omega) (by omega)).mp z)), if_neg (fun z => c1 z.1)]
  | m + 1, k, hk => by
    have hL := hP.2.2.2.2.1
    have e := b48_6_eq d 1 (nI (5 + p_R P + 2 * p_L P)) q 32 (nI (fb_ct (fun j => decide (q_w s j = 254)) k)) (nI k) S h.1 (by decide +kernel) h.2.2.1 (by decide +kernel)
    have gw : gI S (32 + 2) (nI k).toNatClampNeg = nI (q_w s k) := by rw [nI_clamp (by omega)]; exact hs.2.2.2.2.2.2.1 k (by omega) (by omega)
    have hw := (hI.Bd hP).2.2.2.2.2.2.1 k
    have k4 : nI (q_w s k) = (254 : Int32) ↔ q_w s k = 254 := nI_eq (b := 254) (by omega) (by omega)
    have e35 : ∀ t : Nat, b48_35 d 1 (nI (5 + p_R P + 2 * p_L P)) q 32 (nI k) (nI t) (nI (fb_ct (fun j => decide (q_w s j = 254)) k)) S = b48_6 d 1 (nI (5 + p_R P + 2 * p_L P)) q 32 (nI (fb_ct (fun j => decide (q_w s j = 254)) k + t)) (nI (k + 1)) S := fun t => by
      have e2 := b48_35_eq d 1 (nI (5 + p_R P + 2 * p_L P)) q 32 (nI k) (nI t) (nI (fb_ct (fun j => decide (q_w s j = 254)) k)) S h.1 (by decide +kernel) h.2.2.1 (by decide +kernel)
      rw [nI_add, show (1 : Int32) = nI 1 from rfl, nI_add] at e2
      exact e2
    have ih := c48_1 hP hb hl hl2 h hs hI m (k + 1) (by omega)
    rw [h.2.2.2.1.2.2.2.2.2.2.1, if_neg (show ¬ nI (p_L P) ≤ nI k from fun z => by have := (nI_leI (by omega) (by omega)).mp z; omega), if_pos ((ni_in (by omega)).mpr (by omega)), gw, show (0 : Int32) = nI 0 from rfl, show (1 : Int32) = nI 1 from rfl, e35, e35] at e
    rw [← ih, e, fb_ct_succ]
    by_cases c : q_w s k = 254
    · rw [if_neg (fun z => z (k4.mpr c)), decide_eq_true c, if_pos rfl]
    · rw [if_pos (fun z => c (k4.mp z)), decide_eq_false c, if_neg (by decide)]
theorem c48_2 (hP : p_Wf P) (hb : ∀ x, x ∈ tp → x < 256) {n : Nat} (hl : 5 + p_R P + 2 * p_L P + 1 + n ≤ tp.length) (hl2 : tp.length ≤ 1600) (hn : n ≤ p_B P) (hI : q_RI P (p_L P) s) : ∀ (m i : Nat) (S : z_S), i + m = n → rE S q P tp → cSt S 32 16 (q_setl s (q_bl P tp i)) → (q_bl P tp i).Nodup → (∀ k, k ∈ q_bl P tp i → k < p_L P ∧ q_w s k = 254) → ∃ (v : Bool) (S' : z_S), b48_70 (d + 1) 1 (nI (5 + p_R P + 2 * p_L P)) q 32 (nI n) (nI i) S = some (bI v, S') ∧ onI (pD 32) S S' ∧ (v = true ↔ (q_bl P tp n).Nodup ∧ ∀ k, k ∈ q_bl P tp n → k < p_L P ∧ q_w s k = 254) ∧ (v = true → cSt S' 32 16 (q_setl s (q_bl P tp n)))
  | 0, i, S, hi, h, hs, h1, h2 => by
    have hBB := hP.2.1
    have e := b48_70_eq (d + 1) 1 (nI (5 + p_R P + 2 * p_L P)) q 32 (nI n) (nI i) S h.1 (by decide +kernel) h.2.2.1 (by decide +kernel)
    rw [if_pos ((nI_leI (by omega) (by omega)).mpr (by omega))] at e
    rw [show i = n by omega] at hs h1 h2
    exact ⟨true, S, e, onI.refl h.1, ⟨fun _ => ⟨h1, h2⟩, fun _ => rfl⟩, fun _ => hs⟩
  | m + 1, i, S, hi, h, hs, h1, h2 => by
    have hL := hP.2.2.2.2.1
    have hR := hP.1
    have hBB := hP.2.1
    have e := b48_70_eq (d + 1) 1 (nI (5 + p_R P + 2 * p_L P)) q 32 (nI n) (nI i) S h.1 (by decide +kernel) h.2.2.1 (by decide +kernel)
    have hln : z_Ln 1 = 1600 := by decide +kernel
    have g0 : gI S 1 (nI (5 + p_R P + 2 * p_L P + 1 + i)).toNatClampNeg = nI (tp.getD (5 + p_R P + 2 * p_L P + 1 + i) 0) := by rw [nI_clamp (by omega)]; exact h.2.2.2.2.2 _ (by omega)
    have l0 := tp_b hb (5 + p_R P + 2 * p_L P + 1 + i)
    have hmem := q_bl_m P tp (show i < n by omega)
    have hsucc := q_bl_s P tp i
    have htk := q_bl_t P tp (show i + 1 ≤ n by omega)
    rw [if_neg (show ¬ nI n ≤ nI i from fun z => by have := (nI_leI (by omega) (by omega)).mp z; omega), hln, show (1 : Int32) = nI 1 from rfl, nI_add, nI_add, nI_add, if_pos ((ni_in (by omega)).mpr (by omega)), g0, c59x (d := d) h.1 h.2.2.1 h.2.2.2.1 hP, zb_some] at e
    revert e g0 l0 hmem hsucc
    generalize tp.getD (5 + p_R P + 2 * p_L P + 1 + i) 0 = x
    intro e g0 l0 hmem hsucc
    have fail : (¬ ((q_bl P tp n).Nodup ∧ ∀ k, k ∈ q_bl P tp n → k < p_L P ∧ q_w s k = 254)) → b48_70 (d + 1) 1 (nI (5 + p_R P + 2 * p_L P)) q 32 (nI n) (nI i) S = some ((0 : Int32), S) → ∃ (v : Bool) (S' : z_S), b48_70 (d + 1) 1 (nI (5 + p_R P + 2 * p_L P)) q 32 (nI n) (nI i) S = some (bI v, S') ∧ onI (pD 32) S S' ∧ (v = true ↔ (q_bl P tp n).Nodup ∧ ∀ k, k ∈ q_bl P tp n → k < p_L P ∧ q_w s k = 254) ∧ (v = true → cSt S' 32 16 (q_setl s (q_bl P tp n))) := fun hx he => ⟨false, S, he, onI.refl h.1, ⟨fun z => Bool.noConfusion z, fun z => absurd z hx⟩, fun z => Bool.noConfusion z⟩
    by_cases c1 : x < p_L P
    · have gw : gI S (32 + 2) (nI x).toNatClampNeg = nI (q_w s x) := by rw [nI_clamp (by omega)]; exact hs.2.2.2.2.2.2.1 x (by omega) (by omega)
      have hw := (hI.Bd hP).2.2.2.2.2.2.1 x
      have k4 : nI (q_w s x) = (254 : Int32) ↔ q_w s x = 254 := nI_eq (b := 254) (by omega) (by omega)
      have hBl : q_Bd (q_setl s (q_bl P tp i)) := hI.Bl hP (by rw [q_bl_l]; omega) (fun k hk => by have := (h2 k hk).1; omega)
      rw [ixO_n c1 (by omega), if_neg (by decide), if_pos ((ni_in (by omega)).mpr (by omega)), gw, c78 (d := d) h.1 (by decide +kernel) hs hBl (by omega), zb_some] at e
      by_cases c2 : q_w s x = 254
      · rw [if_neg (fun z => z (k4.mpr c2))] at e
        have hql : q_l (q_setl s (q_bl P tp i)) = q_bl P tp i := rfl
        rw [hql] at e
        by_cases c3 : x ∈ q_bl P tp i
        · obtain ⟨j, hj⟩ : ∃ j, q_ix (q_bl P tp i) x 0 = some j := by
            cases hq : q_ix (q_bl P tp i) x 0 with
            | none => exact absurd c3 ((q_ix_none _ _).mp hq)
            | some j => exact ⟨j, rfl⟩
          have hj2 := q_ix_lt _ _ _ hj
          rw [q_bl_l] at hj2
          rw [hj, if_neg (show ¬ eO (some j) = -nI 1 from fun z => by have := congrArg Int32.toInt (show nI j = -1 from z); rw [nI_toInt (by omega)] at this; simp at this)] at e
          refine fail (fun z => ?_) e
          have := z.1.sublist (List.take_sublist (i + 1) _)
          rw [← htk, hsucc, List.nodup_append] at this
          exact this.2.2 x c3 x (List.mem_singleton.mpr rfl) rfl
        · rw [(q_ix_none _ _).mpr c3, if_pos (show eO none = -nI 1 from rfl)] at e
          obtain ⟨S1, a1, a2, a3⟩ := c80 (d := d) (p := 32) (k := x) (B := p_B P) (g' := 16) h.1 (by decide +kernel) hs hBl (by omega) hBB (fun j a b _ => b)
          have hB2 : gI S q 2 = nI (p_B P) := h.2.2.2.1.2.2.1
          rw [hB2, a1, Option.bind_some] at e
          have hy : q_y s x = 0 := (hI.2.2.2.2.2.2.2.2.1 x).2 (by omega)
          have heq : q_ben (p_B P) (q_setl s (q_bl P tp i)) x = q_setl s (q_bl P tp (i + 1)) := by
            have u1 : q_u (q_w s) x 254 = q_w s := by
              funext j
              by_cases z : j = x
              · rw [z, q_us, c2]
              · rw [q_un z]
            have u2 : q_u (q_y s) x 0 = q_y s := by
              funext j
              by_cases z : j = x
              · rw [z, q_us, hy]
              · rw [q_un z]
            unfold q_ben
            rw [if_pos (by rw [hql, q_bl_l]; omega), hql, hsucc]
            show (q_n s, q_p s, q_h s, q_t s, q_s s, q_u (q_w s) x 254, q_u (q_y s) x 0, q_bl P tp i ++ [x]) = _
            rw [u1, u2]
            rfl
          rw [heq] at a3
          obtain ⟨v, S', b1, b2, b3, b4⟩ := c48_2 hP hb hl hl2 hn hI m (i + 1) S1 (by omega) (h.on a2) a3 (by
            rw [hsucc, List.nodup_append]
            exact ⟨h1, by simp, fun a ha b hb2 hab => c3 (by rw [List.mem_singleton] at hb2; rw [← hb2, ← hab]; exact ha)⟩) (fun k hk => by
            rw [hsucc, List.mem_append, List.mem_singleton] at hk
            rcases hk with z | z
            · exact h2 k z
            · rw [z]; exact ⟨c1, c2⟩)
          exact ⟨v, S', e.trans b1, a2.trans b2, b3, b4⟩
      · rw [if_pos (fun z => c2 (k4.mp z))] at e
        exact fail (fun z => c2 (z.2 x hmem).2) e
    · have : ixO (p_L P) (nI x) = false := by
        unfold ixO
        rw [decide_eq_false_iff_not, nI_toInt (by omega)]
        omega
      rw [this, if_pos (by decide)] at e
      exact fail (fun z => c1 (z.2 x hmem).1) e
theorem c48 (hP : p_Wf P) (hb : ∀ x, x ∈ tp → x < 256) (hl : 5 + p_R P + 2 * p_L P + 2 + tp.getD (5 + p_R P + 2 * p_L P) 0 = tp.length) (hl2 : tp.length ≤ 1600) (h : rE S q P tp) (hs : cSt S 32 16 s) (hI : q_RI P (p_L P) s) : ∃ (v : Bool) (S' : z_S), fI (d + 2) 48 [.ref 1, .int (nI (5 + p_R P + 2 * p_L P)), .ref q, .ref 32] S = some (bI v, S') ∧ onI (pD 32) S S' ∧ (v = true ↔ q_bok P tp s) ∧ (v = true → cSt S' 32 16 (q_setl s (q_bl P tp (tp.getD (5 + p_R P + 2 * p_L P) 0)))) := by
  have e := e48 (d + 1) 1 (nI (5 + p_R P + 2 * p_L P)) q 32 S h.1 (by decide +kernel) h.2.2.1 (by decide +kernel)
  have e1 := c48_1 (d := d + 1) hP hb (by omega) hl2 h hs hI (p_L P) 0 (by omega)
  have e2 := e.trans e1
  have key : ∀ n, tp.getD (5 + p_R P + 2 * p_L P) 0 = n → (q_bok P tp s ↔ (n = fb_ct (fun j => decide (q_w s j = 254)) (p_L P) ∧ n ≤ p_B P) ∧ (q_bl P tp n).Nodup ∧ ∀ k, k ∈ q_bl P tp n → k < p_L P ∧ q_w s k = 254) := fun n hn => by
    unfold q_bok
    rw [hn]
    constructor
    · intro ⟨z1, z2, z3⟩
      have := (nd_all (p := fun j => decide (q_w s j = 254)) (n := p_L P) z2).mpr (fun k => by rw [decide_eq_true_eq]; exact z3 k)
      rw [q_bl_l] at this
      exact ⟨⟨this.1, z1⟩, z2, fun k hk => (z3 k).mp hk⟩
    · intro ⟨⟨z0, z1⟩, z2, z3⟩
      have := (nd_all (p := fun j => decide (q_w s j = 254)) (n := p_L P) z2).mp ⟨by rw [q_bl_l]; exact z0, fun k hk => by rw [decide_eq_true_eq]; exact z3 k hk⟩
      exact ⟨z1, z2, fun k => by have w := this k; rw [decide_eq_true_eq] at w; exact w⟩
  have key2 := key _ rfl
  by_cases c : tp.getD (5 + p_R P + 2 * p_L P) 0 = fb_ct (fun j => decide (q_w s j = 254)) (p_L P) ∧ tp.getD (5 + p_R P + 2 * p_L P) 0 ≤ p_B P
  · rw [if_pos c] at e2
    have hs0 : cSt S 32 16 (q_setl s (q_bl P tp 0)) := by
      have : q_l s = [] := hI.2.2.2.2.2.2.2.1
      have : q_setl s (q_bl P tp 0) = s := by
        show (q_n s, q_p s, q_h s, q_t s, q_s s, q_w s, q_y s, ([] : List Nat)) = s
        rw [← this]
        rfl
      rw [this]
      exact hs
    obtain ⟨v, S', a1, a2, a3, a4⟩ := c48_2 (d := d) hP hb (n := tp.getD (5 + p_R P + 2 * p_L P) 0) (by omega) hl2 c.2 hI _ 0 S (Nat.zero_add _) h hs0 (by simp [q_bl]) (fun k hk => by simp [q_bl] at hk)
    exact ⟨v, S', e2.trans a1, a2, ⟨fun z => key2.mpr ⟨c, a3.mp z⟩, fun z => a3.mpr (key2.mp z).2⟩, a4⟩
  · rw [if_neg c] at e2
    exact ⟨false, S, e2, onI.refl h.1, ⟨fun z => Bool.noConfusion z, fun z => absurd (key2.mp z).1 c⟩, fun z => Bool.noConfusion z⟩
end TQ
