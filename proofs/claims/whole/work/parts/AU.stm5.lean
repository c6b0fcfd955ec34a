/-! THE TEXT: the class reads formulas and statements. -/
section HG
variable {d q : Nat} {T : List Nat} {S : z_S} {p : Nat} {Q : g_Q}
theorem c19s {w : Nat} (h : cS S T q p Q) (hw : w < 3) (hi : g_iv T p Q) (hk : g_kd T p = 1) : cRq (fI (d + 69) 19 [.ref 18, .int (nI w)] S) S T q (g_for T w p Q) := by
  have hq := h.qq
  obtain ⟨i1, i2, i3, i4, i5, i6, i7⟩ := hi
  have hT := h.1.1.2.2.2.1
  have hx := h.2.2.2
  have cl : (nI w).toNatClampNeg = w := nI_clamp (by omega)
  have zin : z_in (nI w) 3 := (ni_in (by omega)).mpr hw
  obtain ⟨f1, f2⟩ := hx.2.2.2.2.2.2.2.2.2.2.2.2.2.2 w hw
  have bw := (i7 w hw).1
  have e60' : fI (d + 68) 60 [.ref q, .int (nI w)] S = some (if p_d Q.1 w = [] then (0 : Int32) else 1, S) := by
    rw [e60 (d + 67) q (nI w) S h.W h.2.1.1, if_pos zin, if_pos zin]
    have c1 : gI S (q + 7) (nI w).toNatClampNeg = nI (Q.2.2 w + (p_d Q.1 w).length) := by rw [cl]; exact f2
    have c2 : gI S (q + 6) (nI w).toNatClampNeg = nI (Q.2.2 w) := by rw [cl]; exact f1
    rw [c1, c2]
    by_cases c : p_d Q.1 w = []
    · have l0 : (p_d Q.1 w).length = 0 := by rw [c]; rfl
      rw [if_pos c, if_pos (nI_le (by omega) (by omega))]
    · have l0 : (p_d Q.1 w).length ≠ 0 := fun z => c (List.length_eq_zero_iff.mp z)
      rw [if_neg c, if_neg (nI_ge (by omega) (by omega))]
  unfold g_for
  rw [e19 (d + 68) (nI w) S h.W, h.2.2.1, e60', zb_some]
  by_cases c : ¬ p_d Q.1 w = []
  · rw [if_neg c, if_neg c, if_neg (show ¬ (1 : Int32) = 0 by decide)]
    exact ((c10s (d := d + 67) (k := 6) h.1).C : cFl _ _ _ _)
  have c := Classical.not_not.mp c
  rw [if_pos c, if_pos c, if_pos (show (0 : Int32) = 0 from rfl)]
  have o1 : onI (g_sD q) S (sI S 18 4 (nI w)) := onI_sI (D := g_sD q) (c := 18) (k := 4) (onI.refl h.W) (Or.inl ⟨rfl, by omega⟩)
  have s1 : cS (sI S 18 4 (nI w)) T q p Q := by
    have oo : onI (fun c k => c = 18 ∧ k = 4) S (sI S 18 4 (nI w)) := onI_sI (D := fun c k => c = 18 ∧ k = 4) (c := 18) (k := 4) (onI.refl h.W) ⟨rfl, rfl⟩
    exact ⟨h.1.on oo fun c k z => by omega, h.2.1.on oo (fun c k z => by omega), by rw [oo.P]; exact h.2.2.1, hx.ag fun c k z1 z2 => oo.I (by omega)⟩
  obtain ⟨S5, a1, a2, a3, a4⟩ := c98t (d := d + 65) s1 (by omega)
  rw [a1, Option.bind_some]
  have r4 : gI S5 18 4 = nI w := by rw [a2.I (by unfold tDa; omega), gI_sI, if_pos rfl, if_pos rfl]
  have hG : cG S5 T q w (g_en T p) Q.2.1 := ⟨a4.1, a4.2.1, a4.2.2.1, r4, hw, a4.2.2.2.2.2.2.2.2.2.2.2.1, a4.2.2.2.2.2.2.2.2.2.2.2.2.2.2.2.2.1⟩
  have adv := g_en_k (T := T) i1 (by omega)
  have gok : g_ok T (g_en T p) := g_ok_en i1 (Or.inl hk)
  obtain ⟨C1, C2, _⟩ := c_all (T := T) (q := q) (w := w) 7 (by omega)
  have mo : ∀ c k, gD q c k → g_sD q c k := fun c k z => by unfold gD at z; unfold g_sD; omega
  have fin : ∀ (D mi : Nat) (g : g_R), (∀ x, g = .inr x → ∃ r, x.2 = Q.2.1 ++ r ∧ x.1 ≤ T.length) → cRs (fI D mi [.ref 18, .int (0 : Int32)] S5) S5 T q w g → cRq (zb (fI D mi [.ref 18, .int (0 : Int32)] S5) fun v S8 => (if ¬ v = (0 : Int32) then b19_64 (d + 68) (nI w) (gI S5 (gP S5 18 3) 8) S8 else some ((0 : Int32), S8))) S T q (match g with
    | .inl e => .inl e
    | .inr x => .inr (x.1, P_fo Q.1 w (x.2.drop Q.2.1.length), x.2, q_u Q.2.2 w Q.2.1.length)) := by
    intro D mi g hg hr
    cases g with
    | inl e =>
      obtain ⟨S8, b1, b2, b3⟩ := hr
      rw [b1, zb_some, if_neg (show ¬ ¬ (0 : Int32) = 0 by decide)]
      exact ⟨S8, rfl, o1.trans (a3.trans (b2.mono mo)), b3⟩
    | inr x =>
      obtain ⟨S8, b1, b2, b3⟩ := hr
      obtain ⟨r, g1, g2⟩ := hg x rfl
      have dr : x.2.drop Q.2.1.length = r := by rw [g1, List.drop_left]
      have xl : x.2.length = Q.2.1.length + r.length := by rw [g1, List.length_append]
      have p8 : gP S8 18 3 = q := b3.2.2.1
      have p8' : ∀ {k v}, gP (sI S8 (q + 6) k v) 18 3 = q := fun {k v} => p8
      rw [b1, zb_some, if_pos (show ¬ (1 : Int32) = 0 by decide), b19_64_eq (d + 68) (nI w) _ S8 b3.W, if_pos zin, if_pos zin, p8, p8', a4.2.2.1, a4.2.2.2.2.2.2.2.2.2.2.2.1, cl]
      have r8 : gI (sI S8 (q + 6) w (nI Q.2.1.length)) q 8 = nI x.2.length := by rw [gI_sI, if_neg (by omega)]; exact b3.2.2.2.2.2.1
      rw [r8]
      have oo : onI (fun c k => q ≤ c ∧ c ≤ q + 7) S8 (sI (sI S8 (q + 6) w (nI Q.2.1.length)) (q + 7) w (nI x.2.length)) := onI_sI (D := fun c k => q ≤ c ∧ c ≤ q + 7) (c := q + 7) (k := w) (onI_sI (D := fun c k => q ≤ c ∧ c ≤ q + 7) (c := q + 6) (k := w) (onI.refl b3.W) ⟨by omega, by omega⟩) ⟨by omega, by omega⟩
      refine ⟨_, rfl, o1.trans (a3.trans ((b2.mono mo).trans (oo.mono fun c k z => by unfold g_sD; omega))), b3.1.on oo fun c k z => by omega, b3.2.1.on oo (fun c k z => by omega), by rw [oo.P]; exact p8, ?_⟩
      have rd : ∀ {c k}, q ≤ c → c ≤ q + 5 → gI (sI (sI S8 (q + 6) w (nI Q.2.1.length)) (q + 7) w (nI x.2.length)) c k = gI S8 c k := fun {c k} z1 z2 => by rw [gI_sI, if_neg (by omega), gI_sI, if_neg (by omega)]
      have r5 : ∀ {c k}, q ≤ c → c ≤ q + 4 → ¬ (c = q ∧ k = 8) → gI S8 c k = gI S5 c k := fun {c k} z1 z2 z3 => b2.I (by unfold gD; omega)
      obtain ⟨h0, h1, h2, h3, h4, h5, h6, h7, h8, h9, h10, h11, h12, h13, h14⟩ := a4.2.2.2
      refine ⟨?_, ?_, ?_, ?_, ?_, ?_, ?_, ?_, ?_, fun i hi => ?_, fun i hi => ?_, fun i hi => ?_, fun i hi => ?_, fun i hi => ?_, fun v hv => ?_⟩
      · rw [rd (by omega) (by omega), r5 (by omega) (by omega) (by omega)]; exact h0
      · rw [rd (by omega) (by omega), r5 (by omega) (by omega) (by omega)]; exact h1
      · rw [rd (by omega) (by omega), r5 (by omega) (by omega) (by omega)]; exact h2
      · rw [rd (by omega) (by omega), r5 (by omega) (by omega) (by omega)]; exact h3
      · rw [rd (by omega) (by omega), r5 (by omega) (by omega) (by omega)]; exact h4
      · rw [rd (by omega) (by omega), r5 (by omega) (by omega) (by omega)]; exact h5
      · rw [rd (by omega) (by omega), r5 (by omega) (by omega) (by omega)]; exact h6
      · rw [rd (by omega) (by omega), r5 (by omega) (by omega) (by omega)]; exact h7
      · rw [rd (by omega) (by omega)]; exact b3.2.2.2.2.2.1
      · rw [rd (by omega) (by omega), r5 (by omega) (by omega) (by omega)]; exact h9 i hi
      · rw [rd (by omega) (by omega), r5 (by omega) (by omega) (by omega)]; exact h10 i hi
      · rw [rd (by omega) (by omega), r5 (by omega) (by omega) (by omega)]; exact h11 i hi
      · rw [rd (by omega) (by omega), r5 (by omega) (by omega) (by omega)]; exact h12 i hi
      · rw [rd (by omega) (by omega)]; exact b3.2.2.2.2.2.2 i hi
      · show gI _ (q + 6) v = nI (q_u Q.2.2 w Q.2.1.length v) ∧ gI _ (q + 7) v = nI (q_u Q.2.2 w Q.2.1.length v + (q_u (p_d Q.1) w (x.2.drop Q.2.1.length) v).length)
        obtain ⟨y1, y2⟩ := h14 v hv
        by_cases cv : v = w
        · rw [cv, q_us, q_us, dr, ← xl]
          exact ⟨by rw [gI_sI, if_neg (by omega), gI_sI, if_pos rfl, if_pos rfl], by rw [gI_sI, if_pos rfl, if_pos rfl]⟩
        · rw [q_un cv, q_un cv]
          have u1 : gI S8 (q + 6) v = gI S5 (q + 6) v := b2.I (by unfold gD; omega)
          have u2 : gI S8 (q + 7) v = gI S5 (q + 7) v := b2.I (by unfold gD; omega)
          exact ⟨by rw [gI_sI, if_neg (by omega), gI_sI, if_pos rfl, if_neg cv, u1]; exact y1, by rw [gI_sI, if_pos rfl, if_neg cv, gI_sI, if_neg (by omega), u2]; exact y2⟩
  have gd : ∀ x, g_fm T w (g_en T p) Q.2.1 = .inr x → ∃ r, x.2 = Q.2.1 ++ r ∧ x.1 ≤ T.length := fun x e => by
    obtain ⟨z1, z2, r, z3, _⟩ := g_fm_gd (T := T) (w := w) (g_en T p) Q.2.1 x.1 x.2 adv.2 e
    exact ⟨r, z3, z2⟩
  by_cases w2 : w = 2
  · rw [if_neg (show ¬ ¬ nI w = (2 : Int32) from fun z => z (by rw [w2]; rfl))]
    have ef : g_fm T w = (g_L T w 7).1 := by unfold g_fm; rw [if_pos w2]
    refine fin (d + 68) 25 _ gd ?_
    rw [ef]
    exact C1 (d + 4) S5 (g_en T p) Q.2.1 hG (by omega) gok
  · rw [if_pos (show ¬ nI w = (2 : Int32) from fun z => w2 ((nI_eq (b := 2) (by omega) (by omega)).mp z))]
    have ef : g_fm T w = (g_L T w 7).2.1 := by unfold g_fm; rw [if_neg w2]
    refine fin (d + 68) 20 _ gd ?_
    rw [ef]
    exact C2 d S5 (g_en T p) Q.2.1 hG (by omega) gok
/-- the word at p -/
def g_wo (T : List Nat) (p : Nat) : Option Nat := if g_kd T p = 1 then g_oi (g_wl T p) 24 else none
theorem g_wo_i {i : Nat} (hi : i < 24) : g_ow T p i = true ↔ g_wo T p = some i := by
  unfold g_ow g_wo
  rw [Bool.and_eq_true, decide_eq_true_eq, decide_eq_true_eq]
  by_cases c : g_kd T p = 1
  · rw [if_pos c, g_oi_i hi]; exact ⟨fun z => z.2, fun z => ⟨c, z⟩⟩
  · rw [if_neg c]; exact ⟨fun z => absurd z.1 c, fun z => by cases z⟩
theorem g_wo_lt {j : Nat} (h : g_wo T p = some j) : j < 24 := by
  unfold g_wo at h
  by_cases c : g_kd T p = 1
  · rw [if_pos c] at h; exact g_oi_lt 24 h
  · rw [if_neg c] at h; cases h
theorem c12w {s0 : Int32} (h : cS S T q p Q) (hi : g_iv T p Q) (hR : g_ow T p 0 = false → 2 ≤ p_R Q.1) : cRq (b12_47 (d + 69) (eO (g_wo T p)) s0 s0 S) S T q (if g_ow T p 0 then g_num T (g_en T p) 2 16 fun v p' => .inr (p', P_R Q.1 v, Q.2)
    else if g_ow T p 1 then g_num T (g_en T p) 0 6 fun v p' => .inr (p', P_B Q.1 v, Q.2)
    else if g_ow T p 2 then g_num T (g_en T p) 1 40 fun v p' => .inr (p', P_T Q.1 v, Q.2)
    else if g_ow T p 3 then g_num T (g_en T p) 0 100 fun v p' => .inr (p', P_K Q.1 v, Q.2)
    else if g_ow T p 7 then g_num T (g_en T p) 0 (p_R Q.1 - 1) fun v p' => if (p_H Q.1).testBit v then .inl (4, g_st T (g_en T p)) else .inr (p', P_H Q.1 (p_H Q.1 ||| 2 ^ v), Q.2)
    else if g_ow T p 4 then g_lod T p Q else if g_ow T p 6 then g_inn T p Q
    else if g_ow T p 8 then g_for T 0 p Q else if g_ow T p 9 then g_for T 1 p Q else if g_ow T p 10 then g_for T 2 p Q else .inl (1, g_ft T p)) := by
  have hP := hi.2.2.1
  rw [b12_47_eq (d + 69) _ s0 s0 S h.W, if_pos rfl]
  have no : ∀ (i : Nat), i < 24 → ¬ g_ow T p i = true → ¬ eO (g_wo T p) = nI i := fun i h24 hn z => hn ((g_wo_i h24).mpr ((eO_eq (fun j hj => by have := g_wo_lt hj; omega) (by omega)).mp z))
  have nx : ∀ {i : Nat}, g_ow T p i = true → g_kd T p ≠ 4 := fun {i} z => by rw [g_ow_k z]; decide
  by_cases c0 : g_ow T p 0 = true
  · rw [if_pos c0, (g_wo_i (by omega)).mp c0, eO_some, if_pos (show nI 0 = (0 : Int32) from rfl)]
    obtain ⟨S', a1, a2, a3⟩ := c98s (d := d + 66) h (nx c0)
    rw [a1, Option.bind_some]
    exact (c14_0 (d := d + 65) a3).C.tr a2
  rw [if_neg c0]
  by_cases c1 : g_ow T p 1 = true
  · rw [if_pos c1, (g_wo_i (by omega)).mp c1, eO_some, if_neg (show ¬ nI 1 = (0 : Int32) by decide), if_pos (show nI 1 = (1 : Int32) from rfl)]
    obtain ⟨S', a1, a2, a3⟩ := c98s (d := d + 66) h (nx c1)
    rw [a1, Option.bind_some]
    exact (c14_1 (d := d + 65) a3).C.tr a2
  rw [if_neg c1]
  by_cases c2 : g_ow T p 2 = true
  · rw [if_pos c2, (g_wo_i (by omega)).mp c2, eO_some, if_neg (show ¬ nI 2 = (0 : Int32) by decide), if_neg (show ¬ nI 2 = (1 : Int32) by decide), if_pos (show nI 2 = (2 : Int32) from rfl)]
    obtain ⟨S', a1, a2, a3⟩ := c98s (d := d + 66) h (nx c2)
    rw [a1, Option.bind_some]
    exact (c14_2 (d := d + 65) a3).C.tr a2
  rw [if_neg c2]
  by_cases c3 : g_ow T p 3 = true
  · rw [if_pos c3, (g_wo_i (by omega)).mp c3, eO_some, if_neg (show ¬ nI 3 = (0 : Int32) by decide), if_neg (show ¬ nI 3 = (1 : Int32) by decide), if_neg (show ¬ nI 3 = (2 : Int32) by decide), if_pos (show nI 3 = (3 : Int32) from rfl)]
    obtain ⟨S', a1, a2, a3⟩ := c98s (d := d + 66) h (nx c3)
    rw [a1, Option.bind_some]
    exact (c14_3 (d := d + 65) a3).C.tr a2
  rw [if_neg c3]
  by_cases c7 : g_ow T p 7 = true
  · rw [if_pos c7, (g_wo_i (by omega)).mp c7, eO_some, if_neg (show ¬ nI 7 = (0 : Int32) by decide), if_neg (show ¬ nI 7 = (1 : Int32) by decide), if_neg (show ¬ nI 7 = (2 : Int32) by decide), if_neg (show ¬ nI 7 = (3 : Int32) by decide), if_neg (show ¬ nI 7 = (4 : Int32) by decide), if_neg (show ¬ nI 7 = (5 : Int32) by decide), if_neg (show ¬ nI 7 = (6 : Int32) by decide), if_pos (show nI 7 = (7 : Int32) from rfl)]
    obtain ⟨S', a1, a2, a3⟩ := c98s (d := d + 66) h (nx c7)
    rw [a1, Option.bind_some]
    exact (c14_7 (d := d + 65) a3 hP (hR (by simpa using c0))).C.tr a2
  rw [if_neg c7]
  by_cases c4 : g_ow T p 4 = true
  · rw [if_pos c4, (g_wo_i (by omega)).mp c4, eO_some, if_neg (show ¬ nI 4 = (0 : Int32) by decide), if_neg (show ¬ nI 4 = (1 : Int32) by decide), if_neg (show ¬ nI 4 = (2 : Int32) by decide), if_neg (show ¬ nI 4 = (3 : Int32) by decide), if_pos (show nI 4 = (4 : Int32) from rfl)]
    exact (c16s (d := d + 64) h (nx c4) hP (hR (by simpa using c0))).C
  rw [if_neg c4]
  by_cases c6 : g_ow T p 6 = true
  · rw [if_pos c6, (g_wo_i (by omega)).mp c6, eO_some, if_neg (show ¬ nI 6 = (0 : Int32) by decide), if_neg (show ¬ nI 6 = (1 : Int32) by decide), if_neg (show ¬ nI 6 = (2 : Int32) by decide), if_neg (show ¬ nI 6 = (3 : Int32) by decide), if_neg (show ¬ nI 6 = (4 : Int32) by decide), if_neg (show ¬ nI 6 = (5 : Int32) by decide), if_pos (show nI 6 = (6 : Int32) from rfl)]
    obtain ⟨S', a1, a2, a3⟩ := c98s (d := d + 66) h (nx c6)
    rw [a1, Option.bind_some]
    exact (c18s (d := d + 65) a3 hP).C.tr a2
  rw [if_neg c6]
  by_cases c8 : g_ow T p 8 = true
  · rw [if_pos c8, (g_wo_i (by omega)).mp c8, eO_some, if_neg (show ¬ nI 8 = (0 : Int32) by decide), if_neg (show ¬ nI 8 = (1 : Int32) by decide), if_neg (show ¬ nI 8 = (2 : Int32) by decide), if_neg (show ¬ nI 8 = (3 : Int32) by decide), if_neg (show ¬ nI 8 = (4 : Int32) by decide), if_neg (show ¬ nI 8 = (5 : Int32) by decide), if_neg (show ¬ nI 8 = (6 : Int32) by decide), if_neg (show ¬ nI 8 = (7 : Int32) by decide), if_pos (show nI 8 = (8 : Int32) from rfl)]
    exact (c19s (d := d) (w := 0) h (by omega) hi (g_ow_k c8)).C
  rw [if_neg c8]
  by_cases c9 : g_ow T p 9 = true
  · rw [if_pos c9, (g_wo_i (by omega)).mp c9, eO_some, if_neg (show ¬ nI 9 = (0 : Int32) by decide), if_neg (show ¬ nI 9 = (1 : Int32) by decide), if_neg (show ¬ nI 9 = (2 : Int32) by decide), if_neg (show ¬ nI 9 = (3 : Int32) by decide), if_neg (show ¬ nI 9 = (4 : Int32) by decide), if_neg (show ¬ nI 9 = (5 : Int32) by decide), if_neg (show ¬ nI 9 = (6 : Int32) by decide), if_neg (show ¬ nI 9 = (7 : Int32) by decide), if_neg (show ¬ nI 9 = (8 : Int32) by decide), if_pos (show nI 9 = (9 : Int32) from rfl)]
    exact (c19s (d := d) (w := 1) h (by omega) hi (g_ow_k c9)).C
  rw [if_neg c9]
  by_cases c10 : g_ow T p 10 = true
  · rw [if_pos c10, (g_wo_i (by omega)).mp c10, eO_some, if_neg (show ¬ nI 10 = (0 : Int32) by decide), if_neg (show ¬ nI 10 = (1 : Int32) by decide), if_neg (show ¬ nI 10 = (2 : Int32) by decide), if_neg (show ¬ nI 10 = (3 : Int32) by decide), if_neg (show ¬ nI 10 = (4 : Int32) by decide), if_neg (show ¬ nI 10 = (5 : Int32) by decide), if_neg (show ¬ nI 10 = (6 : Int32) by decide), if_neg (show ¬ nI 10 = (7 : Int32) by decide), if_neg (show ¬ nI 10 = (8 : Int32) by decide), if_neg (show ¬ nI 10 = (9 : Int32) by decide), if_pos (show nI 10 = (10 : Int32) from rfl)]
    exact (c19s (d := d) (w := 2) h (by omega) hi (g_ow_k c10)).C
  rw [if_neg c10]
  have bad : cRq (zb (fI (d + 69) 9 [.ref 18] S) fun v S' => (if v = 0 ∨ v = 1 then some (v, S') else none)) S T q (.inl (1, g_ft T p)) := ((c9s (d := d + 68) h.1).C : cFl _ _ _ _)
  rw [if_neg (show ¬ eO (g_wo T p) = (0 : Int32) from no 0 (by omega) c0), if_neg (show ¬ eO (g_wo T p) = (1 : Int32) from no 1 (by omega) c1), if_neg (show ¬ eO (g_wo T p) = (2 : Int32) from no 2 (by omega) c2), if_neg (show ¬ eO (g_wo T p) = (3 : Int32) from no 3 (by omega) c3), if_neg (show ¬ eO (g_wo T p) = (4 : Int32) from no 4 (by omega) c4)]
  by_cases c5 : eO (g_wo T p) = (5 : Int32)
  · rw [if_pos c5]; exact bad
  rw [if_neg c5, if_neg (show ¬ eO (g_wo T p) = (6 : Int32) from no 6 (by omega) c6), if_neg (show ¬ eO (g_wo T p) = (7 : Int32) from no 7 (by omega) c7), if_neg (show ¬ eO (g_wo T p) = (8 : Int32) from no 8 (by omega) c8), if_neg (show ¬ eO (g_wo T p) = (9 : Int32) from no 9 (by omega) c9), if_neg (show ¬ eO (g_wo T p) = (10 : Int32) from no 10 (by omega) c10)]
  exact bad
theorem c12s (h : cS S T q p Q) (hi : g_iv T p Q) (hk : g_ok T p) : cRq (fI (d + 70) 12 [.ref 18] S) S T q (g_stm T p Q) := by
  have h4 := g_kd_le (T := T) (p := p)
  have hy : fI (d + 70) 12 [.ref 18] S = b12_22 (d + 69) (eO (g_wo T p)) S := by
    rw [e12 (d + 69) S h.W, h.1.2.2.1]
    unfold g_wo
    by_cases c : g_kd T p = 1
    · rw [if_neg (show ¬ ¬ nI (g_kd T p) = (1 : Int32) from fun z => z (by rw [c]; rfl)), h.1.2.2.2.2.2.2.2.2 hk]
    · rw [if_pos (show ¬ nI (g_kd T p) = (1 : Int32) from fun z => c ((nI_eq (b := 1) (by omega) (by omega)).mp z)), if_neg c]
      rfl
  have hm := hi.2.2.1.2.2.2.2.2.1
  have w0 : eO (g_wo T p) = (0 : Int32) ↔ g_ow T p 0 = true := by
    rw [g_wo_i (by omega)]
    exact eO_eq (k := 0) (fun j hj => by have := g_wo_lt hj; omega) (by omega)
  have m0 : nI (p_m Q.1) = (0 : Int32) ↔ p_m Q.1 = 0 := nI_eq (b := 0) (by omega) (by omega)
  unfold g_stm
  rw [hy, b12_22_eq (d + 69) _ S h.W, h.2.2.1, h.2.2.2.1, b12_38_eq (d + 69) _ 0 S h.W, b12_38_eq (d + 69) _ 1 S h.W]
  have bad : ∀ {y a b}, ¬ b = a → cRq (b12_47 (d + 69) y a b S) S T q (.inl (1, g_ft T p)) := fun {y a b} z => by
    rw [b12_47_eq (d + 69) y a b S h.W, if_neg z]
    exact ((c9s (d := d + 68) h.1).C : cFl _ _ _ _)
  by_cases cm : p_m Q.1 = 0
  · rw [if_neg (show ¬ ¬ nI (p_m Q.1) = (0 : Int32) from fun z => z (m0.mpr cm)), decide_eq_true cm]
    by_cases cw : g_ow T p 0 = true
    · rw [if_neg (show ¬ ¬ eO (g_wo T p) = (0 : Int32) from fun z => z (w0.mpr cw)), if_pos cw.symm]
      exact c12w h hi (fun z => by rw [z] at cw; cases cw)
    · rw [if_pos (show ¬ eO (g_wo T p) = (0 : Int32) from fun z => cw (w0.mp z)), if_neg (fun z => cw z.symm)]
      exact bad (by decide)
  · rw [if_pos (show ¬ nI (p_m Q.1) = (0 : Int32) from fun z => cm (m0.mp z)), decide_eq_false cm]
    by_cases cw : g_ow T p 0 = true
    · rw [if_neg (show ¬ ¬ eO (g_wo T p) = (0 : Int32) from fun z => z (w0.mpr cw)), if_neg (fun z => by rw [cw] at z; cases z)]
      exact bad (by decide)
    · rw [if_pos (show ¬ eO (g_wo T p) = (0 : Int32) from fun z => cw (w0.mp z)), if_pos (show false = g_ow T p 0 by simpa using cw)]
      exact c12w h hi (fun _ => hi.2.2.2.2.1 cm)
end HG
