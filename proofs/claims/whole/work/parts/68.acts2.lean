/-! ACTS: come, go, shut, undo. -/
theorem q_set_id (A : q_A) : a_set A (a_s A) (a_kl A) (a_ud A) = A := rfl
section TJ
variable {d : Nat} {S : z_S} {A : q_A} {x y : Int32}
theorem c_rem (h : cA S A) (hA : aOk A) : ∃ S', fV (d + 2) 54 [.ref 39, .ref 27, .ref 37] S = some S' ∧ onI (fun c _ => c = 39 ∨ 42 ≤ c ∧ c ≤ 181) S S' ∧ cA S' (a_set A (a_s A) (a_kl A) (q_psh (a_ud A) (a_s A, a_kl A))) := by
  obtain ⟨S', a1, a2, a3⟩ := c54 (d := d) h.1 h.s (hA.2.1.Bd hA.1) h.2.2.2.2.1 h.2.2.2.2.2.1
  exact ⟨S', a1, a2, h.set a2 (fun c k z => by omega) (h.s.ag (a2.ag fun c k z => by unfold pD at z; omega)) (h.2.2.2.2.1.ag (a2.ag fun c k z => by omega)) a3⟩
theorem m198 {uf k : Nat} (hW : z_W S) (hu : gI S 396 53 = nI uf) (h1 : uf < 20) (h2 : k ≤ 20) : fI (d + 1) 198 [.ref 396, .int (nI k)] S = some (nI (2 + (uf + k) % 20), S) := by
  have e := e198 d (nI k) S hW
  have hrem : nI uf + nI k - (nI uf + nI k) / (20 : Int32) * (20 : Int32) = nI ((uf + k) % 20) := by
    rw [nI_add]
    exact pk_rem (a := uf + k) (d := 20) (by omega) (by omega) (by omega)
  rw [hu, hrem, show (2 : Int32) = nI 2 from rfl, nI_add] at e
  exact e
/-- layers from 2 on, and the places of undo -/
def uD : Nat → Nat → Prop := fun c k => c = 396 ∧ (k = 53 ∨ k = 54) ∨ ∃ v, 2 ≤ v ∧ v < 22 ∧ (vD v c k ∨ kD v c k)
theorem uD_ok {c k : Nat} (h : uD c k) : 420 ≤ c ∧ c ≤ 434 ∨ c = 396 ∧ (k = 53 ∨ k = 54) := by
  rcases h with h | ⟨v, _, _, h⟩
  · exact Or.inr h
  · unfold vD kD at h; omega
theorem uD_0 {c k : Nat} (h : uD c k) : ¬ vD 0 c k ∧ ¬ kD 0 c k ∧ ¬ vD 1 c k ∧ ¬ kD 1 c k := by
  rcases h with h | ⟨v, h1, h2, h⟩
  · unfold vD kD; omega
  · unfold vD kD at *; omega
theorem m199_e {u uf : Nat} {s : q_St} {kl : List (Nat × Nat × Nat)} (hW : z_W S) (hs : mSt S 0 s) (hk : mKp S 0 kl) (hl : (q_l s).length ≤ 6) (h1 : gI S 396 53 = nI uf) (h2 : gI S 396 54 = nI u) (h3 : uf < 20) (h4 : u < 20) : ∃ S', b199_32 (d + 1) S = some S' ∧ onM uD S S' ∧ (∀ v, v < 22 → v ≠ 2 + (uf + u) % 20 → agI (fun c k => vD v c k ∨ kD v c k) S S') ∧ mSt S' (2 + (uf + u) % 20) s ∧ mKp S' (2 + (uf + u) % 20) kl ∧ gI S' 396 53 = nI uf ∧ gI S' 396 54 = nI (u + 1) := by
  have e := b199_32_eq (d + 1) S hW
  have hm : (uf + u) % 20 < 20 := Nat.mod_lt _ (by decide)
  rw [h2, m198 (d := d) hW h1 h3 (by omega), zb_some] at e
  obtain ⟨S1, a1, a2, a3, a4⟩ := m196 (d := d) (t := 2 + (uf + u) % 20) (f := 0) hW (by omega) (by omega) (by omega) hs hk hl
  have a1' : fV (d + 1) 196 [.ref 396, .int (nI (2 + (uf + u) % 20)), .int (0 : Int32)] S = some S1 := a1
  have g1 : gI S1 396 53 = nI uf := by rw [a2.I (by unfold vD kD; omega)]; exact h1
  have g2 : gI S1 396 54 = nI u := by rw [a2.I (by unfold vD kD; omega)]; exact h2
  rw [a1', Option.bind_some, g2, show (1 : Int32) = nI 1 from rfl, nI_add] at e
  have o2 : onM (fun c k => c = 396 ∧ k = 54) S1 (sI S1 396 54 (nI (u + 1))) := onM_sI (D := fun c k => c = 396 ∧ k = 54) (c := 396) (onM.refl a2.W) ⟨rfl, rfl⟩
  refine ⟨_, e, ?_, fun v hv hne => ?_, a3.ag hl (o2.ag fun c k z => by unfold vD at z; omega), a4.ag (o2.ag fun c k z => by unfold kD at z; omega), ?_, ?_⟩
  · exact (a2.mono fun c k z => Or.inr ⟨_, by omega, by omega, z⟩).trans (o2.mono fun c k z => Or.inl (by omega))
  · intro c k z
    rw [o2.I (by unfold vD kD at z; omega), a2.I (by unfold vD kD at *; omega)]
  · rw [gI_sI, if_pos rfl, if_neg (by decide)]; exact g1
  · rw [gI_sI, if_pos rfl, if_pos rfl]
theorem m_keep (h : mA S A) (hA : aOk A) (hm : 0 < p_m (a_P A)) : ∃ S', fV (d + 2) 199 [.ref 396] S = some S' ∧ onM uD S S' ∧ mA S' (a_set A (a_s A) (a_kl A) (q_psh (a_ud A) (a_s A, a_kl A))) := by
  have hW := h.W
  have e := e199 (d + 1) S hW
  obtain ⟨g1, g2, g3, g4, g5, g6, g7, g8, g9, g10, g11⟩ := h
  have hh : mA S A := ⟨g1, g2, g3, g4, g5, g6, g7, g8, g9, g10, g11⟩
  rw [m_s_eq hm] at g5
  obtain ⟨u1, u2, uf, u3, u4, u5⟩ := g7
  have hl := (hA.2.1.Bd hA.1).2.2.1
  have hlu : ∀ j, j < (a_ud A).length → (q_l ((a_ud A).getD j q_ud0).1).length ≤ 6 := fun j hj => by
    have hm : (a_ud A).getD j q_ud0 ∈ a_ud A := by rw [List.getD_eq_getElem?_getD, List.getElem?_eq_getElem hj]; exact List.getElem_mem _
    exact ((hA.2.2.2.2.1 _ hm).1.Bd hA.1).2.2.1
  by_cases c : (a_ud A).length = 20
  · have hrem : nI uf + (1 : Int32) - (nI uf + (1 : Int32)) / (20 : Int32) * (20 : Int32) = nI ((uf + 1) % 20) := by
      rw [show (1 : Int32) = nI 1 from rfl, nI_add]
      exact pk_rem (a := uf + 1) (d := 20) (by omega) (by omega) (by omega)
    have hx : gI (sI S 396 53 (nI ((uf + 1) % 20))) 396 54 = nI 20 := by rw [gI_sI, if_pos rfl, if_neg (by decide), u2, c]
    rw [u2, c, if_neg (by decide), u4, hrem, hx, show (nI 20 - 1 : Int32) = nI 19 by decide] at e
    have hW2 : z_W (sI (sI S 396 53 (nI ((uf + 1) % 20))) 396 54 (nI 19)) := hW
    have o0 : onM (fun c k => c = 396 ∧ (k = 53 ∨ k = 54)) S (sI (sI S 396 53 (nI ((uf + 1) % 20))) 396 54 (nI 19)) := onM_sI (D := fun c k => c = 396 ∧ (k = 53 ∨ k = 54)) (c := 396) (onM_sI (D := fun c k => c = 396 ∧ (k = 53 ∨ k = 54)) (c := 396) (onM.refl hW) ⟨rfl, Or.inl rfl⟩) ⟨rfl, Or.inr rfl⟩
    obtain ⟨S1, a1, a2, a3, a4, a5, a6, a7⟩ := m199_e (d := d) (u := 19) (uf := (uf + 1) % 20) hW2 (g5.ag hl (o0.ag fun c k z => by unfold vD at z; omega)) (g6.ag (o0.ag fun c k z => by unfold kD at z; omega)) hl (by rw [gI_sI, if_pos rfl, if_neg (by decide), gI_sI, if_pos rfl, if_pos rfl]) (by rw [gI_sI, if_pos rfl, if_pos rfl]) (Nat.mod_lt _ (by decide)) (by omega)
    have ho : onM uD S S1 := (o0.mono fun c k z => Or.inl z).trans a2
    refine ⟨S1, e.trans a1, ho, hh.set hm ho (fun c k z => uD_ok z) (g5.ag hl (ho.ag fun c k z w => (uD_0 w).1 z)) (g6.ag (ho.ag fun c k z w => (uD_0 w).2.1 z)) ⟨by rw [q_psh_len]; omega, by rw [a7, q_psh_len, c]; rfl, (uf + 1) % 20, Nat.mod_lt _ (by decide), a6, fun j hj => ?_⟩⟩
    rw [q_psh_len, c] at hj
    rw [q_psh_len, c]
    cases j with
    | zero =>
      rw [q_psh_0]
      exact ⟨a4, a5⟩
    | succ j =>
      rw [q_psh_s (by omega)]
      obtain ⟨w1, w2⟩ := u5 j (by omega)
      rw [c] at w1 w2
      have hidx : 2 + ((uf + 1) % 20 + (min 20 (20 + 1) - 1 - (j + 1))) % 20 = 2 + (uf + (20 - 1 - j)) % 20 := by omega
      rw [hidx]
      have hne : 2 + (uf + (20 - 1 - j)) % 20 ≠ 2 + ((uf + 1) % 20 + 19) % 20 := by omega
      have ag := a3 _ (by omega) hne
      exact ⟨(w1.ag (hlu j (by omega)) (o0.ag fun c k z => by unfold vD at z; omega)).ag (hlu j (by omega)) fun c k z => ag c k (Or.inl z), (w2.ag (o0.ag fun c k z => by unfold kD at z; omega)).ag fun c k z => ag c k (Or.inr z)⟩
  · rw [u2, if_pos (show ¬ nI (a_ud A).length = 20 from fun z => c ((nI_eq (b := 20) (by omega) (by omega)).mp z))] at e
    obtain ⟨S1, a1, a2, a3, a4, a5, a6, a7⟩ := m199_e (d := d) (u := (a_ud A).length) (uf := uf) hW g5 g6 hl u4 u2 u3 (by omega)
    refine ⟨S1, e.trans a1, a2, hh.set hm a2 (fun c k z => uD_ok z) (g5.ag hl (a2.ag fun c k z w => (uD_0 w).1 z)) (g6.ag (a2.ag fun c k z w => (uD_0 w).2.1 z)) ⟨by rw [q_psh_len]; omega, by rw [a7, q_psh_len, Nat.min_eq_right (by omega)], uf, u3, a6, fun j hj => ?_⟩⟩
    rw [q_psh_len] at hj
    rw [q_psh_len, Nat.min_eq_right (by omega)]
    cases j with
    | zero =>
      rw [q_psh_0]
      exact ⟨a4, a5⟩
    | succ j =>
      rw [q_psh_s (by omega)]
      obtain ⟨w1, w2⟩ := u5 j (by omega)
      have hidx : 2 + (uf + ((a_ud A).length + 1 - 1 - (j + 1))) % 20 = 2 + (uf + ((a_ud A).length - 1 - j)) % 20 := by
        congr 2
        omega
      rw [hidx]
      have hne : 2 + (uf + ((a_ud A).length - 1 - j)) % 20 ≠ 2 + (uf + (a_ud A).length) % 20 := by omega
      have ag := a3 _ (by omega) hne
      exact ⟨w1.ag (hlu j (by omega)) fun c k z => ag c k (Or.inl z), w2.ag fun c k z => ag c k (Or.inr z)⟩
theorem c134_l {o : List (Nat × Nat)} {n : Nat} {kl : List (Nat × Nat × Nat)} (hn : n ≤ 999) (hl : o.length ≤ 40) (ho : ∀ x, x ∈ o → x.1 < 16 ∧ x.2 < 16) : ∀ (m i : Nat) (S : z_S), i + m = o.length → z_W S → gI S 27 0 = nI n → hO S o → cKp S 37 (q_kpF n kl (o.take i)) → ∃ S', b134_22 (d + 1) (nI o.length) (nI i) S = some (nI o.length, S') ∧ onI (fun c _ => c = 37 ∨ c = 38) S S' ∧ cKp S' 37 (q_kpF n kl o)
  | 0, i, S, hi, hW, h0, hO1, hk => by
    have e := b134_22_eq (d + 1) (nI o.length) (nI i) S hW
    rw [if_pos ((nI_leI (by omega) (by omega)).mpr (by omega))] at e
    rw [List.take_of_length_le (by omega)] at hk
    exact ⟨S, e, onI.refl hW, hk⟩
  | m + 1, i, S, hi, hW, h0, hO1, hk => by
    have e := b134_22_eq (d + 1) (nI o.length) (nI i) S hW
    have hil : i < o.length := by omega
    obtain ⟨o1, o2⟩ := hO1 i hil
    have hm : o.getD i (0, 0) ∈ o := by rw [List.getD_eq_getElem?_getD, List.getElem?_eq_getElem hil]; exact List.getElem_mem _
    obtain ⟨b1, b2⟩ := ho _ hm
    obtain ⟨S1, a1, a2, a3⟩ := c50 (d := d) (p := 37) (n := n) (l := (o.getD i (0, 0)).1) (r := (o.getD i (0, 0)).2) hW (by decide +kernel) hk hn b1 b2
    simp (disch := omega) only [ni_lit, nI_add, pk_mul, pk_sub, pk_div, nI_leI, nI_ltI, nI_eq, nI_clamp, ni_in, ni_inm, ni_ltm, ni_mlt, ni_lem, ni_mle, ni_eqm, ni_meq, ni_mm, ni_mmle, ni_bit, ni_shl, ni_clr, fa_or, Nat.add_zero, Nat.zero_add, Nat.zero_mul, Nat.mul_zero, eOn, eOs, q_ef, q_et, q_ltt, q_ltf, q_let, q_lef, if_true, if_false, h0, o1, o2] at e
    rw [a1, Option.bind_some] at e
    have htk : o.take (i + 1) = o.take i ++ [o.getD i (0, 0)] := by
      rw [List.take_add_one, List.getElem?_eq_getElem hil, List.getD_eq_getElem?_getD, List.getElem?_eq_getElem hil]
      rfl
    obtain ⟨S2, c1, c2, c3⟩ := c134_l hn hl ho m (i + 1) S1 (by omega) a2.W (by rw [a2.I (by omega)]; exact h0) (fun j hj => by rw [a2.I (by omega), a2.I (by omega)]; exact hO1 j hj) (by rw [htk, q_kpF_1]; exact a3)
    exact ⟨S2, e.trans c1, (a2.mono fun c k z => by omega).trans c2, c3⟩
theorem c134 {k : Nat} (h : cA S A) (hA : aOk A) (hk : k < p_L (a_P A)) (hw : q_w (a_s A) k = 255) : ∃ S', fI (d + 7) 134 [.ref 0, .int (nI k)] S = some (nI (q_arr (a_P A) (p_T (a_P A)) (a_s A) k).2.length, S') ∧ onI (fun c _ => 23 ≤ c ∧ c ≤ 38) S S' ∧ cA S' (a_set A (q_arr (a_P A) (p_T (a_P A)) (a_s A) k).1 (q_kpF (q_n (a_s A)) (a_kl A) (q_arr (a_P A) (p_T (a_P A)) (a_s A) k).2) (a_ud A)) := by
  obtain ⟨q, hH, hq⟩ := h.H hA
  have e := e134 (d + 6) (nI k) S h.1
  obtain ⟨S1, a1, a2, a3, a4, a5, a6⟩ := c32 (d := d) (p := 27) hH (by decide +kernel) h.s hA.2.1 hk hw hA.1.2.2.1
  have hT : gI S q 3 = nI (p_T (a_P A)) := hH.2.2.2.1.2.2.2.1
  have hT40 := hA.1.2.2.1
  rw [hq, hT, a1, zb_some] at e
  have hn : gI S1 27 0 = nI (q_n (a_s A)) := by have := a3.1; rw [q_arr_n] at this; exact this
  obtain ⟨S2, b1, b2, b3⟩ := c134_l (d := d + 5) (o := (q_arr (a_P A) (p_T (a_P A)) (a_s A) k).2) (n := q_n (a_s A)) (kl := a_kl A) hA.2.2.1 (by omega) (q_arr_o hA.1 hA.2.1 hk hw) _ 0 S1 (by rw [Nat.zero_add]) a2.W hn a4 (h.2.2.2.2.1.ag (a2.ag fun c k z => by unfold hD; omega))
  have ho : onI (fun c _ => 23 ≤ c ∧ c ≤ 38) S S2 := (a2.mono fun c k z => by unfold hD at z; omega).trans (b2.mono fun c k z => by omega)
  exact ⟨S2, e.trans b1, ho, h.set ho (fun c k z => by omega) (a3.ag (b2.ag fun c k z => by unfold pD at z; omega)) b3 (h.2.2.2.2.2.1.ag (ho.ag fun c k z => by omega))⟩
theorem p_m_L (hA : aOk A) (h : 0 < p_L (a_P A)) : 0 < p_m (a_P A) := by
  rcases Nat.eq_zero_or_pos (p_m (a_P A)) with z | z
  · have := (hA.2.2.2.2.2.2.2.2.2 z).2.2.2.1; omega
  · exact z
theorem p_m_R (hA : aOk A) (h : 0 < p_R (a_P A)) : 0 < p_m (a_P A) := by
  rcases Nat.eq_zero_or_pos (p_m (a_P A)) with z | z
  · have := (hA.2.2.2.2.2.2.2.2.2 z).1; omega
  · exact z
theorem t_come : ∃ A', twoI (d + 20) 133 259 [.int x] A A' := by
  by_cases hok : aOk A
  · by_cases c : q_aw A x = true
    · obtain ⟨k, k1, rfl, k3⟩ := q_aw_t hok c
      have hL := hok.1.2.2.2.2.1
      refine ⟨a_set (a_set A (a_s A) (a_kl A) (q_psh (a_ud A) (a_s A, a_kl A))) (q_arr (a_P A) (p_T (a_P A)) (a_s A) k).1 (q_kpF (q_n (a_s A)) (a_kl A) (q_arr (a_P A) (p_T (a_P A)) (a_s A) k).2) (q_psh (a_ud A) (a_s A, a_kl A)), two_m (nI (q_arr (a_P A) (p_T (a_P A)) (a_s A) k).2.length) (fun hA => ?_) (fun S h hA => ?_) (fun S h hA => ?_)⟩
      · exact hA.set (p_m_L hA (by omega)) (q_arr_G hA.1 hA.2.1 k1 k3) (by rw [q_arr_n]; exact hA.2.2.1) (q_kpF_ok hA.2.2.1 _ _ hA.2.2.2.1 (q_arr_o hA.1 hA.2.1 k1 k3)) hA.psh
      · have e := e133 (d + 19) (nI k) S h.1
        obtain ⟨S1, a1, a2, a3⟩ := c_rem (d := d + 17) h hA
        have hA1 : aOk (a_set A (a_s A) (a_kl A) (q_psh (a_ud A) (a_s A, a_kl A))) := hA.set (p_m_L hA (by omega)) hA.2.1 hA.2.2.1 hA.2.2.2.1 hA.psh
        obtain ⟨S2, b1, b2, b3⟩ := c134 (d := d + 12) a3 hA1 k1 k3
        rw [c152 (d := d + 17) h hA, zb_some, c, if_pos (by decide), a1, Option.bind_some, b1, zb_some] at e
        exact ⟨S2, e, (a2.M.mono fun c k z => by omega).trans (b2.M.mono fun c k z => by omega), b3⟩
      · have hW := h.W
        obtain ⟨b0, hM0⟩ := h.2.1
        have e := e259 (d + 19) (nI k) S hW
        have cL := ixO_n k1 (by omega)
        have a0 : fI (d + 19) 215 [.ref 396, .int (0 : Int32), .int (nI k)] S = _ := m215 (d := d + 17) (v := 0) hM0 (by omega) (h.st (hA.mL k1)) hA.2.1 (by omega)
        obtain ⟨S1, a1, a2, a3⟩ := m_keep (d := d + 17) h hA (hA.mL k1)
        obtain ⟨b, hM⟩ := a3.2.1
        obtain ⟨S2, b1, b2, b3, b4, b5⟩ := m220 (d := d + 12) (v := 0) hM (by omega) a3.2.2.2.1 hA.1.2.2.1 (a3.st (hA.mL k1)) a3.2.2.2.2.2.1 hA.2.1 k1 k3
        have b1' : fI (d + 19) 220 [.ref 396, .int (0 : Int32), .int (nI k)] S1 = _ := b1
        rw [m228 (d := d + 18) hM0, zb_some, cL, if_neg (by decide), a0, zb_some, decide_eq_true k3, if_pos (by decide), a1, Option.bind_some, b1', zb_some] at e
        have hA1 : aOk (a_set A (a_s A) (a_kl A) (q_psh (a_ud A) (a_s A, a_kl A))) := hA.set (p_m_L hA (by omega)) hA.2.1 hA.2.2.1 hA.2.2.2.1 hA.psh
        refine ⟨S2, e, (a2.mono fun c k z => by have := uD_ok z; omega).trans (b2.mono fun c k z => by unfold mD vD kD at z; omega), a3.set (hA.mL k1) b2 (fun c k z => by unfold mD vD kD at z; omega) b3 b4 (a3.2.2.2.2.2.2.1.ag (fun u hu => ((hA1.2.2.2.2.1 u hu).1.Bd hA1.1).2.2.1) (b2.ag fun c k z w => ?_))⟩
        rcases z with z | ⟨v, z1, z2⟩
        · unfold mD vD kD at w; omega
        · unfold mD vD kD at *; omega
    · have c' : q_aw A x = false := by simpa using c
      refine ⟨a_ref A 3, two_m (-nI 1) (fun hA => hA.ref) (fun S h hA => ?_) (fun S h hA => ?_)⟩
      · have e := e133 (d + 19) x S h.1
        have a1 : fI (d + 19) 150 [.ref 0, .int 3] S = _ := c150 (d := d + 18) (j := 3) h.1 h.2.2.2.2.2.2.2.2.1 (by omega)
        rw [c152 (d := d + 17) h hA, zb_some, c', if_neg (by decide), a1, zb_some] at e
        exact ⟨_, e, onM_sI (D := fun c _ => c < 396) (c := 395) (onM.refl h.1) (by decide), h.ref⟩
      · have hW := h.W
        have hL := hA.1.2.2.2.2.1
        obtain ⟨b0, hM0⟩ := h.2.1
        have e := e259 (d + 19) x S hW
        have e2 := b259_17_eq (d + 19) S hW
        have a1 : fI (d + 19) 194 [.ref 396, .int 3] S = _ := m194 (d := d + 18) (j := 3) hW h.2.2.2.2.2.2.2.2.2.1 (by omega)
        rw [a1, zb_some] at e2
        have e3 : fI (d + 20) 259 [.ref 396, .int x] S = b259_17 (d + 19) S := by
          rw [e, m228 (d := d + 18) hM0, zb_some]
          by_cases cL : ixO (p_L (a_P A)) x = true
          · obtain ⟨k, k1, rfl⟩ := ixO_t cL (by omega)
            have haw : q_aw A (nI k) = decide (q_w (a_s A) k = 255) := by unfold q_aw; rw [cL, nI_toInt (by omega)]; rfl
            have a0 : fI (d + 19) 215 [.ref 396, .int (0 : Int32), .int (nI k)] S = _ := m215 (d := d + 17) (v := 0) hM0 (by omega) (h.st (hA.mL k1)) hA.2.1 (by omega)
            rw [haw] at c'
            rw [cL, if_neg (by decide), a0, zb_some, c', if_neg (by decide)]
          · have cL' : ixO (p_L (a_P A)) x = false := by simpa using cL
            rw [cL', if_pos (by decide)]
        exact ⟨_, e3.trans e2, onM_sI (D := fun c _ => 396 ≤ c) (c := 419) (onM.refl hW) (by decide), h.ref hA⟩
  · exact ⟨A, fun S h => absurd h.2.2 hok⟩
theorem t_go : ∃ A', twoI (d + 20) 135 260 [.int x] A A' := by
  by_cases hok : aOk A
  · have hL := hok.1.2.2.2.2.1
    by_cases c : ixO (p_L (a_P A)) x = true ∧ q_w (a_s A) x.toInt.toNat ≠ 255
    · obtain ⟨k, k1, rfl⟩ := ixO_t c.1 (by omega)
      have k3 : q_w (a_s A) k ≠ 255 := by have := c.2; rw [nI_toInt (by omega)] at this; exact this
      refine ⟨a_set (a_set A (a_s A) (a_kl A) (q_psh (a_ud A) (a_s A, a_kl A))) (q_away (a_s A) k) (a_kl A) (q_psh (a_ud A) (a_s A, a_kl A)), two_m (nI 1) (fun hA => ?_) (fun S h hA => ?_) (fun S h hA => ?_)⟩
      · exact hA.set (p_m_L hA (by omega)) (hA.2.1.away hA.1 k).1 (by rw [(q_away_n _ _).1]; exact hA.2.2.1) hA.2.2.2.1 hA.psh
      · obtain ⟨q, hH, hq⟩ := h.H hA
        have e := e135 (d + 19) (nI k) S h.1
        obtain ⟨S1, a1, a2, a3⟩ := c_rem (d := d + 17) h hA
        obtain ⟨S2, b1, b2, b3⟩ := c81 (d := d + 17) (p := 27) (k := k) a3.1 (by decide +kernel) a3.s (hA.2.1.Bd hA.1) (by omega)
        have hw2 := (hA.2.1.Bd hA.1).2.2.2.2.2.2.1 k
        have g3 : gI S 29 k = nI (q_w (a_s A) k) := h.s.2.2.2.2.2.2.1 k (by omega) (by omega)
        rw [hq, c59x (d := d + 18) hH.1 hH.2.1 hH.2.2.2.1 hA.1, zb_some, c.1, if_neg (by decide)] at e
        simp (disch := omega) only [ni_lit, nI_add, pk_mul, pk_sub, pk_div, nI_leI, nI_ltI, nI_eq, nI_clamp, ni_in, ni_inm, ni_ltm, ni_mlt, ni_lem, ni_mle, ni_eqm, ni_meq, ni_mm, ni_mmle, ni_bit, ni_shl, ni_clr, fa_or, Nat.add_zero, Nat.zero_add, Nat.zero_mul, Nat.mul_zero, eOn, eOs, q_ef, q_et, q_ltt, q_ltf, q_let, q_lef, if_true, if_false, not_true_eq_false, not_false_eq_true, ite_true, ite_false, true_and, and_true, false_and, and_false, or_true, true_or, or_false, false_or, Bool.false_eq_true, reduceIte, Bool.not_true, Bool.not_false, and_self, or_self, g3] at e
        rw [a1, Option.bind_some, b1, Option.bind_some] at e
        exact ⟨S2, e, (a2.M.mono fun c k z => by omega).trans (b2.M.mono fun c k z => by unfold pD at z; omega), a3.set b2 (fun c k z => by unfold pD at z; omega) b3 (a3.2.2.2.2.1.ag (b2.ag fun c k z => by unfold pD; omega)) (a3.2.2.2.2.2.1.ag (b2.ag fun c k z => by unfold pD; omega))⟩
      · have hW := h.W
        obtain ⟨b0, hM0⟩ := h.2.1
        have e := e260 (d + 19) (nI k) S hW
        have a0 : fI (d + 19) 215 [.ref 396, .int (0 : Int32), .int (nI k)] S = _ := m215 (d := d + 17) (v := 0) hM0 (by omega) (h.st (hA.mL k1)) hA.2.1 (by omega)
        obtain ⟨S1, a1, a2, a3⟩ := m_keep (d := d + 17) h hA (hA.mL k1)
        obtain ⟨b, hM⟩ := a3.2.1
        obtain ⟨S2, b1, b2, b3⟩ := m222 (d := d + 17) (v := 0) (k := k) hM (by omega) (a3.st (hA.mL k1)) hA.2.1 (by omega) k3
        have b1' : fV (d + 19) 222 [.ref 396, .int (0 : Int32), .int (nI k)] S1 = _ := b1
        rw [m228 (d := d + 18) hM0, zb_some, c.1, if_neg (by decide), a0, zb_some, decide_eq_false k3, if_pos (by decide), a1, Option.bind_some, b1', Option.bind_some] at e
        have hA1 : aOk (a_set A (a_s A) (a_kl A) (q_psh (a_ud A) (a_s A, a_kl A))) := hA.set (p_m_L hA (by omega)) hA.2.1 hA.2.2.1 hA.2.2.2.1 hA.psh
        refine ⟨S2, e, (a2.mono fun c k z => by have := uD_ok z; omega).trans (b2.mono fun c k z => by unfold vD at z; omega), a3.set (hA.mL k1) b2 (fun c k z => by unfold vD at z; omega) b3 (a3.2.2.2.2.2.1.ag (b2.ag fun c k z w => by unfold kD at z; unfold vD at w; omega)) (a3.2.2.2.2.2.2.1.ag (fun u hu => ((hA1.2.2.2.2.1 u hu).1.Bd hA1.1).2.2.1) (b2.ag fun c k z w => ?_))⟩
        rcases z with z | ⟨v, z1, z2⟩
        · unfold vD at w; omega
        · unfold vD kD at *; omega
    · refine ⟨a_ref A 3, two_m (nI 0) (fun hA => hA.ref) (fun S h hA => ?_) (fun S h hA => ?_)⟩
      · obtain ⟨q, hH, hq⟩ := h.H hA
        have e := e135 (d + 19) x S h.1
        have e2 := b135_26_eq (d + 19) S h.1
        have h0 := h.2.2.2.2.2.2.2.2.1 3 (by omega)
        rw [if_pos (by decide), if_pos (by decide), show ((3 : Int32)).toNatClampNeg = 3 from rfl, h0, show (1 : Int32) = nI 1 from rfl, nI_add] at e2
        have e3 : fI (d + 20) 135 [.ref 0, .int x] S = b135_26 (d + 19) S := by
          rw [e, hq, c59x (d := d + 18) hH.1 hH.2.1 hH.2.2.2.1 hA.1, zb_some]
          by_cases cL : ixO (p_L (a_P A)) x = true
          · obtain ⟨k, k1, rfl⟩ := ixO_t cL (by omega)
            have k3 : q_w (a_s A) k = 255 := Classical.byContradiction fun z => c ⟨cL, by rw [nI_toInt (by omega)]; exact z⟩
            have g3 : gI S 29 k = nI (q_w (a_s A) k) := h.s.2.2.2.2.2.2.1 k (by omega) (by omega)
            rw [cL, if_neg (by decide)]
            simp (disch := omega) only [ni_lit, nI_add, pk_mul, pk_sub, pk_div, nI_leI, nI_ltI, nI_eq, nI_clamp, ni_in, ni_inm, ni_ltm, ni_mlt, ni_lem, ni_mle, ni_eqm, ni_meq, ni_mm, ni_mmle, ni_bit, ni_shl, ni_clr, fa_or, Nat.add_zero, Nat.zero_add, Nat.zero_mul, Nat.mul_zero, eOn, eOs, q_ef, q_et, q_ltt, q_ltf, q_let, q_lef, if_true, if_false, not_true_eq_false, not_false_eq_true, ite_true, ite_false, true_and, and_true, false_and, and_false, or_true, true_or, or_false, false_or, Bool.false_eq_true, reduceIte, Bool.not_true, Bool.not_false, and_self, or_self, g3, k3]
          · have cL' : ixO (p_L (a_P A)) x = false := by simpa using cL
            rw [cL', if_pos (by decide)]
        exact ⟨_, e3.trans e2, onM_sI (D := fun c _ => c < 396) (c := 395) (onM.refl h.1) (by decide), h.ref⟩
      · have hW := h.W
        obtain ⟨b0, hM0⟩ := h.2.1
        have e := e260 (d + 19) x S hW
        have e2 := b260_17_eq (d + 19) S hW
        have a1 : fI (d + 19) 194 [.ref 396, .int 3] S = _ := m194 (d := d + 18) (j := 3) hW h.2.2.2.2.2.2.2.2.2.1 (by omega)
        rw [a1, zb_some, if_pos (by decide)] at e2
        have e3 : fI (d + 20) 260 [.ref 396, .int x] S = b260_17 (d + 19) S := by
          rw [e, m228 (d := d + 18) hM0, zb_some]
          by_cases cL : ixO (p_L (a_P A)) x = true
          · obtain ⟨k, k1, rfl⟩ := ixO_t cL (by omega)
            have k3 : q_w (a_s A) k = 255 := Classical.byContradiction fun z => c ⟨cL, by rw [nI_toInt (by omega)]; exact z⟩
            have a0 : fI (d + 19) 215 [.ref 396, .int (0 : Int32), .int (nI k)] S = _ := m215 (d := d + 17) (v := 0) hM0 (by omega) (h.st (hA.mL k1)) hA.2.1 (by omega)
            rw [cL, if_neg (by decide), a0, zb_some, decide_eq_true k3, if_neg (by decide)]
          · have cL' : ixO (p_L (a_P A)) x = false := by simpa using cL
            rw [cL', if_pos (by decide)]
        exact ⟨_, e3.trans e2, onM_sI (D := fun c _ => 396 ≤ c) (c := 419) (onM.refl hW) (by decide), h.ref hA⟩
  · exact ⟨A, fun S h => absurd h.2.2 hok⟩
end TJ
