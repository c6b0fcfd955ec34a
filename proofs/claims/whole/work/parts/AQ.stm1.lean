/-! THE TEXT: statements. -/
section HB
abbrev g_Q : Type := q_Pl × List Nat × (Nat → Nat)
abbrev g_RS : Type := Sum (Nat × Nat) (Nat × g_Q)
def P_m (P : q_Pl) (v : Nat) : q_Pl := (v, P.2)
def P_R (P : q_Pl) (v : Nat) : q_Pl := (P.1, v, P.2.2)
def P_B (P : q_Pl) (v : Nat) : q_Pl := (P.1, P.2.1, v, P.2.2.2)
def P_T (P : q_Pl) (v : Nat) : q_Pl := (P.1, P.2.1, P.2.2.1, v, P.2.2.2.2)
def P_K (P : q_Pl) (v : Nat) : q_Pl := (P.1, P.2.1, P.2.2.1, P.2.2.2.1, v, P.2.2.2.2.2)
def P_H (P : q_Pl) (v : Nat) : q_Pl := (P.1, P.2.1, P.2.2.1, P.2.2.2.1, P.2.2.2.2.1, v, P.2.2.2.2.2.2)
def P_lo (P : q_Pl) (x y : Nat) (l : List Nat) : q_Pl := (p_m P, p_R P, p_B P, p_T P, p_K P, p_H P, p_L P + 1, q_u (p_f P) (p_L P) x, q_u (p_o P) (p_L P) y, q_u (p_a P) (p_L P) l, p_c P, p_d P)
def P_co (P : q_Pl) (k : Nat) : q_Pl := (p_m P, p_R P, p_B P, p_T P, p_K P, p_H P, p_L P, p_f P, p_o P, p_a P, p_c P ++ [k], p_d P)
def P_fo (P : q_Pl) (w : Nat) (l : List Nat) : q_Pl := (p_m P, p_R P, p_B P, p_T P, p_K P, p_H P, p_L P, p_f P, p_o P, p_a P, p_c P, q_u (p_d P) w l)
variable (T : List Nat)
/-- a number in its bounds -/
def g_num (p lo hi : Nat) (K : Nat → Nat → g_RS) : g_RS := if g_kd T p = 2 then (if lo ≤ g_vl T p ∧ g_vl T p ≤ hi then K (g_vl T p) (g_en T p) else .inl (4, g_st T p)) else .inl (1, g_ft T p)
/-- a name: no own word -/
def g_nam (p : Nat) : Bool := decide (g_kd T p = 1) && decide (g_oi (g_wl T p) 24 = none)
/-- whose name -/
def g_who (P : q_Pl) (l : List Nat) : Option Nat := w_lp (fun i => if p_a P i = l then some i else none) (p_L P) 0
def g_lod (p : Nat) (Q : g_Q) : g_RS :=
  if 16 ≤ p_L Q.1 then .inl (6, g_st T p) else if g_nam T (g_en T p) then (if g_who Q.1 (g_wl T (g_en T p)) = none then (if g_ow T (g_en T (g_en T p)) 5 then g_num T (g_en T (g_en T (g_en T p))) 0 (p_R Q.1 - 1) fun v p3 => g_num T p3 0 (p_R Q.1 - 1) fun v2 p4 => if v2 = v then .inl (4, g_st T p3) else .inr (p4, P_lo Q.1 v v2 (g_wl T (g_en T p)), Q.2) else .inl (1, g_ft T (g_en T (g_en T p)))) else .inl (2, g_st T (g_en T p))) else .inl (1, g_ft T (g_en T p))
def g_inn (p : Nat) (Q : g_Q) : g_RS :=
  if g_nam T (g_en T p) then (match g_who Q.1 (g_wl T (g_en T p)) with
    | none => .inl (3, g_st T (g_en T p))
    | some k => if k ∈ p_c Q.1 then .inl (3, g_st T (g_en T p)) else .inr (g_en T (g_en T p), P_co Q.1 k, Q.2)) else .inl (1, g_ft T (g_en T p))
/-- what a formula is read by -/
def g_fm (w : Nat) : g_F := if w = 2 then (g_L T w 7).1 else (g_L T w 7).2.1
def g_for (w p : Nat) (Q : g_Q) : g_RS :=
  if p_d Q.1 w = [] then (match g_fm T w (g_en T p) Q.2.1 with
    | .inl e => .inl e
    | .inr x => .inr (x.1, P_fo Q.1 w (x.2.drop Q.2.1.length), x.2, q_u Q.2.2 w Q.2.1.length)) else .inl (6, g_st T p)
def g_stm (p : Nat) (Q : g_Q) : g_RS :=
  if decide (p_m Q.1 = 0) = g_ow T p 0 then
    (if g_ow T p 0 then g_num T (g_en T p) 2 16 fun v p' => .inr (p', P_R Q.1 v, Q.2)
    else if g_ow T p 1 then g_num T (g_en T p) 0 6 fun v p' => .inr (p', P_B Q.1 v, Q.2)
    else if g_ow T p 2 then g_num T (g_en T p) 1 40 fun v p' => .inr (p', P_T Q.1 v, Q.2)
    else if g_ow T p 3 then g_num T (g_en T p) 0 100 fun v p' => .inr (p', P_K Q.1 v, Q.2)
    else if g_ow T p 7 then g_num T (g_en T p) 0 (p_R Q.1 - 1) fun v p' => if (p_H Q.1).testBit v then .inl (4, g_st T (g_en T p)) else .inr (p', P_H Q.1 (p_H Q.1 ||| 2 ^ v), Q.2)
    else if g_ow T p 4 then g_lod T p Q else if g_ow T p 6 then g_inn T p Q
    else if g_ow T p 8 then g_for T 0 p Q else if g_ow T p 9 then g_for T 1 p Q else if g_ow T p 10 then g_for T 2 p Q else .inl (1, g_ft T p))
  else .inl (1, g_ft T p)
/-- statement by statement -/
def g_lop : Nat → Nat → g_Q → Sum (Nat × Nat) g_Q
  | 0, p, _ => .inl (6, g_st T p)
  | m + 1, p, Q => if g_kd T p = 0 then (if p_m Q.1 = 0 then .inl (1, g_ft T p) else .inr Q) else if p_m Q.1 = 60 then .inl (6, g_st T p) else match g_stm T p Q with
    | .inl e => .inl e
    | .inr x => if g_sg T x.1 59 then g_lop m (g_en T x.1) (P_m x.2.1 (p_m x.2.1 + 1), x.2.2) else .inl (1, g_ft T x.1)
def g_P0 : q_Pl := (0, 0, 1, 10, 0, 0, 0, fun _ => 0, fun _ => 0, fun _ => [], [], fun _ => [])
def g_txt : Sum (Nat × Nat) g_Q := g_lop T 61 0 (g_P0, [], fun _ => 0)
end HB
section HC
variable {T : List Nat}
/-- what stands of a plan on the way -/
def g_iv (T : List Nat) (p : Nat) (Q : g_Q) : Prop := p ≤ T.length ∧ Q.2.1.length ≤ p ∧ p_Wf Q.1 ∧ (p_m Q.1 = 0 → p_L Q.1 = 0 ∧ p_H Q.1 = 0) ∧ (p_m Q.1 ≠ 0 → 2 ≤ p_R Q.1) ∧ (1 ≤ p_T Q.1) ∧ ∀ w, w < 3 → Q.2.2 w + (p_d Q.1 w).length ≤ Q.2.1.length ∧ ∀ i c, (p_d Q.1 w)[i]? = some c → Q.2.1[Q.2.2 w + i]? = some c
theorem g_num_i {p lo hi : Nat} {K : Nat → Nat → g_RS} {x : Nat × g_Q} (h : g_num T p lo hi K = .inr x) : g_kd T p = 2 ∧ lo ≤ g_vl T p ∧ g_vl T p ≤ hi ∧ K (g_vl T p) (g_en T p) = .inr x := by
  unfold g_num at h
  by_cases c1 : g_kd T p = 2
  · rw [if_pos c1] at h
    by_cases c2 : lo ≤ g_vl T p ∧ g_vl T p ≤ hi
    · rw [if_pos c2] at h
      exact ⟨c1, c2.1, c2.2, h⟩
    · rw [if_neg c2] at h; cases h
  · rw [if_neg c1] at h; cases h
theorem g_nam_i {p : Nat} (h : g_nam T p = true) : g_kd T p = 1 ∧ g_oi (g_wl T p) 24 = none := by
  unfold g_nam at h
  rw [Bool.and_eq_true, decide_eq_true_eq, decide_eq_true_eq] at h
  exact h
theorem g_who_i {P : q_Pl} {l : List Nat} {k : Nat} (h : g_who P l = some k) : k < p_L P ∧ p_a P k = l := by
  obtain ⟨j, _, j2, j3, _⟩ := w_lp_s _ _ h
  by_cases c : p_a P j = l
  · rw [if_pos c] at j3
    cases j3
    exact ⟨by omega, c⟩
  · rw [if_neg c] at j3; cases j3
theorem g_fm_gd {w : Nat} : g_gd T (decide (w ≠ 2)) 41 (g_fm T w) := by
  unfold g_fm
  by_cases c : w = 2
  · rw [if_pos c, decide_eq_false (fun z => z c)]
    have := (g_L_gd (T := T) (w := w) 7).1
    intro p cs p' cs' hp e
    obtain ⟨a1, a2, r, a3, a4, a5⟩ := this p cs p' cs' hp e
    exact ⟨a1, a2, r, a3, a4, fun ts hts => a5 ts (by omega)⟩
  · rw [if_neg c, decide_eq_true c]
    exact (g_L_gd (T := T) (w := w) 7).2.1
theorem g_stm_iv {p : Nat} {Q : g_Q} {x : Nat × g_Q} (h : g_iv T p Q) (e : g_stm T p Q = .inr x) : p < x.1 ∧ g_iv T x.1 x.2 ∧ p_m x.2.1 = p_m Q.1 ∧ 2 ≤ p_R x.2.1 := by
  obtain ⟨h1, h2, h3, h4, h5, h6, h7⟩ := h
  obtain ⟨w1, w2, w3, w4, w5, w6, w7, w8, w9, w10, w11, w12, w13, w14, w15⟩ := h3
  unfold g_stm at e
  by_cases cc : decide (p_m Q.1 = 0) = g_ow T p 0
  · rw [if_pos cc] at e
    have adv : ∀ {i}, g_ow T p i = true → p < g_en T p ∧ g_en T p ≤ T.length := fun {i} hw => g_en_k h1 (by rw [g_ow_k hw]; decide)
    have adn : ∀ {q}, q ≤ T.length → g_kd T q = 2 → q < g_en T q ∧ g_en T q ≤ T.length := fun {q} hq hk => g_en_k hq (by omega)
    by_cases c0 : g_ow T p 0 = true
    · rw [if_pos c0] at e
      obtain ⟨n1, n2, n3, n4⟩ := g_num_i e
      have a1 := adv c0
      have a2 := adn a1.2 n1
      have m0 : p_m Q.1 = 0 := by rw [c0] at cc; exact of_decide_eq_true cc
      obtain ⟨l0, s0⟩ := h4 m0
      cases n4
      refine ⟨by show p < g_en T (g_en T p); omega, ⟨a2.2, by show Q.2.1.length ≤ g_en T (g_en T p); omega, ⟨n3, w2, w3, w4, w5, w6, ?_, fun i hi => ?_, w9, w10, w11, w12, w13, w14, w15⟩, fun _ => ⟨l0, s0⟩, fun z => absurd m0 z, h6, h7⟩, rfl, n2⟩
      · show p_H Q.1 < 2 ^ g_vl T (g_en T p)
        rw [s0]; exact Nat.two_pow_pos _
      · have : i < p_L Q.1 := hi
        omega
    rw [if_neg c0] at e
    have c0' : g_ow T p 0 = false := by simpa using c0
    have mn : p_m Q.1 ≠ 0 := fun z => by rw [c0', decide_eq_true z] at cc; cases cc
    have hR2 := h5 mn
    by_cases c1 : g_ow T p 1 = true
    · rw [if_pos c1] at e
      obtain ⟨n1, n2, n3, n4⟩ := g_num_i e
      have a1 := adv c1
      have a2 := adn a1.2 n1
      cases n4
      exact ⟨by show p < g_en T (g_en T p); omega, ⟨a2.2, by show Q.2.1.length ≤ g_en T (g_en T p); omega, ⟨w1, n3, w3, w4, w5, w6, w7, w8, w9, w10, w11, w12, w13, w14, w15⟩, h4, h5, h6, h7⟩, rfl, hR2⟩
    rw [if_neg c1] at e
    by_cases c2 : g_ow T p 2 = true
    · rw [if_pos c2] at e
      obtain ⟨n1, n2, n3, n4⟩ := g_num_i e
      have a1 := adv c2
      have a2 := adn a1.2 n1
      cases n4
      exact ⟨by show p < g_en T (g_en T p); omega, ⟨a2.2, by show Q.2.1.length ≤ g_en T (g_en T p); omega, ⟨w1, w2, n3, w4, w5, w6, w7, w8, w9, w10, w11, w12, w13, w14, w15⟩, h4, h5, n2, h7⟩, rfl, hR2⟩
    rw [if_neg c2] at e
    by_cases c3 : g_ow T p 3 = true
    · rw [if_pos c3] at e
      obtain ⟨n1, n2, n3, n4⟩ := g_num_i e
      have a1 := adv c3
      have a2 := adn a1.2 n1
      cases n4
      exact ⟨by show p < g_en T (g_en T p); omega, ⟨a2.2, by show Q.2.1.length ≤ g_en T (g_en T p); omega, ⟨w1, w2, w3, n3, w5, w6, w7, w8, w9, w10, w11, w12, w13, w14, w15⟩, h4, h5, h6, h7⟩, rfl, hR2⟩
    rw [if_neg c3] at e
    by_cases c7 : g_ow T p 7 = true
    · rw [if_pos c7] at e
      obtain ⟨n1, n2, n3, n4⟩ := g_num_i e
      have a1 := adv c7
      have a2 := adn a1.2 n1
      by_cases cb : (p_H Q.1).testBit (g_vl T (g_en T p)) = true
      · rw [if_pos cb] at n4; cases n4
      · rw [if_neg cb] at n4
        cases n4
        refine ⟨by show p < g_en T (g_en T p); omega, ⟨a2.2, by show Q.2.1.length ≤ g_en T (g_en T p); omega, ⟨w1, w2, w3, w4, w5, w6, ?_, w8, w9, w10, w11, w12, w13, w14, w15⟩, fun z => absurd z mn, h5, h6, h7⟩, rfl, hR2⟩
        show p_H Q.1 ||| 2 ^ g_vl T (g_en T p) < 2 ^ p_R Q.1
        exact Nat.or_lt_two_pow w7 (Nat.pow_lt_pow_right (by decide) (by omega))
    rw [if_neg c7] at e
    by_cases c4 : g_ow T p 4 = true
    · rw [if_pos c4] at e
      unfold g_lod at e
      have a1 := adv c4
      by_cases d1 : 16 ≤ p_L Q.1
      · rw [if_pos d1] at e; cases e
      rw [if_neg d1] at e
      by_cases d2 : g_nam T (g_en T p) = true
      · rw [if_pos d2] at e
        obtain ⟨k1, _⟩ := g_nam_i d2
        have a2 := g_en_k a1.2 (show g_kd T (g_en T p) ≠ 0 by omega)
        by_cases d3 : g_who Q.1 (g_wl T (g_en T p)) = none
        · rw [if_pos d3] at e
          by_cases d4 : g_ow T (g_en T (g_en T p)) 5 = true
          · rw [if_pos d4] at e
            have a3 := g_en_k a2.2 (show g_kd T (g_en T (g_en T p)) ≠ 0 by rw [g_ow_k d4]; decide)
            obtain ⟨n1, n2, n3, n4⟩ := g_num_i e
            have a4 := adn a3.2 n1
            obtain ⟨o1, o2, o3, o4⟩ := g_num_i n4
            have a5 := adn a4.2 o1
            by_cases d5 : g_vl T (g_en T (g_en T (g_en T (g_en T p)))) = g_vl T (g_en T (g_en T (g_en T p)))
            · rw [if_pos d5] at o4; cases o4
            · rw [if_neg d5] at o4
              cases o4
              obtain ⟨v1, v2⟩ := g_wl_vd k1
              refine ⟨by show p < g_en T _; omega, ⟨a5.2, by show Q.2.1.length ≤ g_en T _; omega, ⟨w1, w2, w3, w4, by show p_L Q.1 + 1 ≤ 16; omega, w6, w7, fun i hi => ?_, w9, fun c hc => ?_, w11, w12, w13, w14, fun i hi => ?_⟩, fun z => absurd z mn, h5, h6, h7⟩, rfl, hR2⟩
              · have hi' : i < p_L Q.1 + 1 := hi
                show q_u (p_f Q.1) (p_L Q.1) _ i < p_R Q.1 ∧ q_u (p_o Q.1) (p_L Q.1) _ i < p_R Q.1 ∧ q_u (p_f Q.1) (p_L Q.1) _ i ≠ q_u (p_o Q.1) (p_L Q.1) _ i
                by_cases z : i = p_L Q.1
                · rw [z, q_us, q_us]; exact ⟨by omega, by omega, fun y => d5 y.symm⟩
                · rw [q_un z, q_un z]; exact w8 i (by omega)
              · have := w10 c hc
                show c < p_L Q.1 + 1
                omega
              · have hi' : i < p_L Q.1 + 1 := hi
                show (q_u (p_a Q.1) (p_L Q.1) _ i).length ≤ 6 ∧ ∀ y, y ∈ q_u (p_a Q.1) (p_L Q.1) _ i → 1 ≤ y ∧ y ≤ 26
                by_cases z : i = p_L Q.1
                · rw [z, q_us]; exact ⟨v2, v1⟩
                · rw [q_un z]; exact w15 i (by omega)
          · rw [if_neg d4] at e; cases e
        · rw [if_neg d3] at e; cases e
      · rw [if_neg d2] at e; cases e
    rw [if_neg c4] at e
    by_cases c6 : g_ow T p 6 = true
    · rw [if_pos c6] at e
      unfold g_inn at e
      have a1 := adv c6
      by_cases d2 : g_nam T (g_en T p) = true
      · rw [if_pos d2] at e
        obtain ⟨k1, _⟩ := g_nam_i d2
        have a2 := g_en_k a1.2 (show g_kd T (g_en T p) ≠ 0 by omega)
        cases hw : g_who Q.1 (g_wl T (g_en T p)) with
        | none => rw [hw] at e; cases e
        | some k =>
          rw [hw] at e
          obtain ⟨k2, _⟩ := g_who_i hw
          have e' : (if k ∈ p_c Q.1 then (.inl (3, g_st T (g_en T p)) : g_RS) else .inr (g_en T (g_en T p), P_co Q.1 k, Q.2)) = .inr x := e
          by_cases d5 : k ∈ p_c Q.1
          · rw [if_pos d5] at e'; cases e'
          · rw [if_neg d5] at e'
            cases e'
            have nd : (p_c Q.1 ++ [k]).Nodup := List.nodup_append.mpr ⟨w11, List.nodup_cons.mpr ⟨fun z => (by cases z), List.nodup_nil⟩, fun y hy z hz => by rw [List.mem_singleton.mp hz]; exact fun q => d5 (q ▸ hy)⟩
            have lt : ∀ c, c ∈ p_c Q.1 ++ [k] → c < p_L Q.1 := fun c hc => by
              rcases List.mem_append.mp hc with z | z
              · exact w10 c z
              · rw [List.mem_singleton.mp z]; exact k2
            have len : (p_c Q.1 ++ [k]).length ≤ 16 := by
              have := List.Nodup.length_le_of_subset (l₂ := List.range (p_L Q.1)) nd (fun c hc => List.mem_range.mpr (lt c hc))
              rw [List.length_range] at this
              omega
            exact ⟨by show p < g_en T _; omega, ⟨a2.2, by show Q.2.1.length ≤ g_en T _; omega, ⟨w1, w2, w3, w4, w5, w6, w7, w8, len, lt, nd, w12, w13, w14, w15⟩, fun z => absurd z mn, h5, h6, h7⟩, rfl, hR2⟩
      · rw [if_neg d2] at e; cases e
    rw [if_neg c6] at e
    have forms : ∀ w, w < 3 → ∀ {i}, g_ow T p i = true → g_for T w p Q = .inr x → p < x.1 ∧ g_iv T x.1 x.2 ∧ p_m x.2.1 = p_m Q.1 ∧ 2 ≤ p_R x.2.1 := fun w hw {i} hi ef => by
      unfold g_for at ef
      have a1 := adv hi
      by_cases d1 : p_d Q.1 w = []
      · rw [if_pos d1] at ef
        cases hg : g_fm T w (g_en T p) Q.2.1 with
        | inl y => rw [hg] at ef; cases ef
        | inr y =>
          rw [hg] at ef
          cases ef
          obtain ⟨b1, b2, r, b3, b4, b5⟩ := g_fm_gd (T := T) (w := w) _ _ _ _ a1.2 hg
          have hr : y.2.drop Q.2.1.length = r := by rw [b3, List.drop_left]
          have hty := b5 [] (by decide)
          have hfo : q_fo r (decide (w ≠ 2)) := Or.inr hty
          have hd : ∀ v, q_u (p_d Q.1) w (y.2.drop Q.2.1.length) v = if v = w then r else p_d Q.1 v := fun v => by
            unfold q_u
            by_cases z : v = w
            · rw [if_pos z, if_pos z, hr]
            · rw [if_neg z, if_neg z]
          have hlen : y.2.length = Q.2.1.length + r.length := by rw [b3, List.length_append]
          refine ⟨by show p < y.1; omega, ⟨b2, by show y.2.length ≤ y.1; omega, ⟨w1, w2, w3, w4, w5, w6, w7, w8, w9, w10, w11, ?_, ?_, ?_, w15⟩, fun z => absurd z mn, h5, h6, fun v hv => ?_⟩, rfl, hR2⟩
          · show q_fo (q_u (p_d Q.1) w (y.2.drop Q.2.1.length) 0) true
            rw [hd]
            by_cases z : 0 = w
            · rw [if_pos z]; rw [← z] at hfo; exact hfo
            · rw [if_neg z]; exact w12
          · show q_fo (q_u (p_d Q.1) w (y.2.drop Q.2.1.length) 1) true
            rw [hd]
            by_cases z : 1 = w
            · rw [if_pos z]; rw [← z] at hfo; exact hfo
            · rw [if_neg z]; exact w13
          · show q_fo (q_u (p_d Q.1) w (y.2.drop Q.2.1.length) 2) false
            rw [hd]
            by_cases z : 2 = w
            · rw [if_pos z]; rw [← z] at hfo; exact hfo
            · rw [if_neg z]; exact w14
          · show q_u Q.2.2 w Q.2.1.length v + (q_u (p_d Q.1) w (y.2.drop Q.2.1.length) v).length ≤ y.2.length ∧ ∀ i c, (q_u (p_d Q.1) w (y.2.drop Q.2.1.length) v)[i]? = some c → y.2[q_u Q.2.2 w Q.2.1.length v + i]? = some c
            rw [hd]
            by_cases z : v = w
            · rw [if_pos z, z, q_us]
              refine ⟨by omega, fun i c hc => ?_⟩
              rw [b3, List.getElem?_append_right (by omega), Nat.add_sub_cancel_left]
              exact hc
            · rw [if_neg z, q_un z]
              obtain ⟨s1, s2⟩ := h7 v hv
              refine ⟨by omega, fun i c hc => ?_⟩
              have := s2 i c hc
              rw [b3]
              have hlt : Q.2.2 v + i < Q.2.1.length := by
                apply Classical.byContradiction
                intro q
                rw [List.getElem?_eq_none (by omega)] at this
                cases this
              rw [List.getElem?_append_left hlt]
              exact this
      · rw [if_neg d1] at ef; cases ef
    by_cases c8 : g_ow T p 8 = true
    · rw [if_pos c8] at e
      exact forms 0 (by decide) c8 e
    rw [if_neg c8] at e
    by_cases c9 : g_ow T p 9 = true
    · rw [if_pos c9] at e
      exact forms 1 (by decide) c9 e
    rw [if_neg c9] at e
    by_cases c10 : g_ow T p 10 = true
    · rw [if_pos c10] at e
      exact forms 2 (by decide) c10 e
    rw [if_neg c10] at e
    cases e
  · rw [if_neg cc] at e; cases e
end HC
