/-! THE TEXT: the reference reads statements; pieces. -/
section HM
variable {d b : Nat} {T : List Nat} {S : z_S} {p : Nat} {Q : g_Q}
/-- the cells of a bank -/
def bkD (b : Nat) : Nat → Nat → Prop := fun c k => (398 ≤ c ∧ c ≤ 402 ∨ c = 405 ∨ c = 407) ∧ k = b ∨ (c = 403 ∨ c = 404 ∨ c = 406 ∨ c = 412) ∧ 16 * b ≤ k ∧ k < 16 * b + 16 ∨ (c = 408 ∨ c = 409) ∧ 3 * b ≤ k ∧ k < 3 * b + 3 ∨ (c = 410 ∨ c = 411) ∧ 1600 * b ≤ k ∧ k < 1600 * b + 1600
def g_rD (b : Nat) : Nat → Nat → Prop := fun c k => c = 396 ∧ (3 ≤ k ∧ k ≤ 9 ∨ k = 12 ∨ k = 29 ∨ k = 31 ∨ 37 ≤ k ∧ k ≤ 41) ∨ 413 ≤ c ∧ c ≤ 418 ∨ bkD b c k
/-- the plan on the way, in bank b -/
def mQ (S : z_S) (b : Nat) (Q : g_Q) : Prop := ((2 ≤ p_R Q.1 → gI S 398 b = nI (p_R Q.1)) ∧ gI S 399 b = nI (p_B Q.1) ∧ gI S 400 b = nI (p_T Q.1) ∧ gI S 401 b = nI (p_K Q.1) ∧ gI S 402 b = nI (p_L Q.1) ∧ gI S 405 b = nI (p_c Q.1).length ∧ gI S 407 b = nI (p_H Q.1)) ∧ (∀ i, i < p_L Q.1 → gI S 403 (16 * b + i) = nI (p_f Q.1 i) ∧ gI S 404 (16 * b + i) = nI (p_o Q.1 i) ∧ gL S 412 (16 * b + i) = lN (q_nw (p_a Q.1 i))) ∧ (∀ i, i < (p_c Q.1).length → gI S 406 (16 * b + i) = nI ((p_c Q.1).getD i 0)) ∧ ∀ w, w < 3 → (p_d Q.1 w = [] ∧ gI S 408 (3 * b + w) = -nI 1) ∨ (p_d Q.1 w ≠ [] ∧ gI S 408 (3 * b + w) = nI (Q.2.2 w) ∧ gI S 409 (3 * b + w) = nI (Q.2.2 w + (p_d Q.1 w).length) ∧ ∀ i c, (p_d Q.1 w)[i]? = some c → q_mc w c (gI S 410 (1600 * b + (Q.2.2 w + i))) (gI S 411 (1600 * b + (Q.2.2 w + i))))
def mS (S : z_S) (T : List Nat) (b p : Nat) (Q : g_Q) : Prop := mTk S T p ∧ (gI S 396 8 = nI 0 ∧ gI S 396 9 = -nI 1) ∧ (b < 2 ∧ gI S 396 30 = nI b) ∧ gI S 396 29 = nI Q.2.1.length ∧ mQ S b Q
theorem mS.W (h : mS S T b p Q) : z_W S := h.1.1.1
def mFr (S S' : z_S) (b : Nat) (e : Nat × Nat) : Prop := onM (g_rD b) S S' ∧ gI S' 396 8 = nI e.1 ∧ gI S' 396 9 = nI e.2 ∧ 0 < e.1 ∧ e.1 < 100
theorem mFr.tr {S1 S' : z_S} {e : Nat × Nat} (h : mFr S1 S' b e) (o : onM (g_rD b) S S1) : mFr S S' b e := ⟨o.trans h.1, h.2⟩
def mRq (r : Option z_S) (S : z_S) (T : List Nat) (b : Nat) (g : g_RS) : Prop := match g with
  | .inl e => ∃ S', r = some S' ∧ mFr S S' b e
  | .inr x => ∃ S', r = some S' ∧ onM (g_rD b) S S' ∧ mS S' T b x.1 x.2
theorem mRq.tr {r : Option z_S} {S S' : z_S} {g : g_RS} (h : mRq r S' T b g) (o : onM (g_rD b) S S') : mRq r S T b g := by
  cases g with
  | inl e =>
    obtain ⟨S2, a1, a2⟩ := h
    exact ⟨S2, a1, a2.tr o⟩
  | inr x =>
    obtain ⟨S2, a1, a2, a3⟩ := h
    exact ⟨S2, a1, o.trans a2, a3⟩
theorem m_br {k pl : Nat} (hW : z_W S) (hk : 0 < k) (hk2 : k < 100) : mFr S (sI (sI S 396 8 (nI k)) 396 9 (nI pl)) b (k, pl) := by
  refine ⟨onM_sI (D := g_rD b) (c := 396) (k := 9) (onM_sI (D := g_rD b) (c := 396) (k := 8) (onM.refl hW) (Or.inl ⟨rfl, by omega⟩)) (Or.inl ⟨rfl, by omega⟩), ?_, ?_, hk, hk2⟩
  · show _ = nI k; simp (disch := omega) only [ni_lit, nI_add, pk_mul, pk_sub, pk_div, nI_leI, nI_ltI, nI_eq, nI_clamp, ni_in, ni_inm, ni_ltm, ni_mlt, ni_lem, ni_mle, ni_eqm, ni_meq, ni_mm, ni_mmle, ni_bit, ni_shl, ni_clr, fa_or, Nat.add_zero, Nat.zero_add, Nat.zero_mul, Nat.mul_zero, eOn, eOs, if_true, if_false, not_true_eq_false, not_false_eq_true, ite_true, ite_false, true_and, and_true, false_and, and_false, or_true, true_or, or_false, false_or, Bool.false_eq_true, reduceIte, Bool.not_true, Bool.not_false, and_self, or_self, q_ef, q_et, q_ltt, q_ltf, q_let, q_lef, gIs, gIl, gIr, gLs, gLl, gLr, gPs, gPl, gPr, gLc, gPc, zb_some, Option.bind_some, q_nm, q_pm, q_hm, q_tm, q_sm, q_wm, q_ym, q_lm, q_ua]
  · show _ = nI pl; simp (disch := omega) only [ni_lit, nI_add, pk_mul, pk_sub, pk_div, nI_leI, nI_ltI, nI_eq, nI_clamp, ni_in, ni_inm, ni_ltm, ni_mlt, ni_lem, ni_mle, ni_eqm, ni_meq, ni_mm, ni_mmle, ni_bit, ni_shl, ni_clr, fa_or, Nat.add_zero, Nat.zero_add, Nat.zero_mul, Nat.mul_zero, eOn, eOs, if_true, if_false, not_true_eq_false, not_false_eq_true, ite_true, ite_false, true_and, and_true, false_and, and_false, or_true, true_or, or_false, false_or, Bool.false_eq_true, reduceIte, Bool.not_true, Bool.not_false, and_self, or_self, q_ef, q_et, q_ltt, q_ltf, q_let, q_lef, gIs, gIl, gIr, gLs, gLl, gLr, gPs, gPl, gPr, gLc, gPc, zb_some, Option.bind_some, q_nm, q_pm, q_hm, q_tm, q_sm, q_wm, q_ym, q_lm, q_ua]
theorem mFr.n8 {S' : z_S} {e : Nat × Nat} (h : mFr S S' b e) : ¬ gI S' 396 8 ≤ (0 : Int32) ∧ ¬ gI S' 396 8 = (0 : Int32) := by
  obtain ⟨_, h1, _, h2, h3⟩ := h
  rw [h1]
  exact ⟨fun z => by have := (nI_leI (b := 0) (by omega) (by omega)).mp z; omega, fun z => by have := (nI_eq (b := 0) (by omega) (by omega)).mp z; omega⟩
theorem mS.z8 (h : mS S T b p Q) : gI S 396 8 ≤ (0 : Int32) ∧ gI S 396 8 = (0 : Int32) := by rw [h.2.1.1]; decide
/-- a fault stays -/
theorem mFr.f159 {S' : z_S} {e : Nat × Nat} {x y : Int32} (h : mFr S S' b e) : fV (d + 1) 159 [.ref 396, .int x, .int y] S' = some S' := m159n (d := d) h.1.W h.2.1 h.2.2.2.1 h.2.2.2.2
theorem mFr.f162 {S' : z_S} {e : Nat × Nat} (h : mFr S S' b e) : fV (d + 2) 162 [.ref 396] S' = some S' := by
  rw [e162 (d + 1) S' h.1.W]
  split
  · rfl
  · rw [h.f159 (d := d), Option.bind_some]
theorem mQ.on {S' : z_S} {D : Nat → Nat → Prop} (h : mQ S b Q) (ho : onM D S S') (hd : ∀ c k, bkD b c k → ¬ D c k) (hP : p_Wf Q.1) (hb : ∀ w, w < 3 → Q.2.2 w + (p_d Q.1 w).length ≤ 1600) : mQ S' b Q := by
  obtain ⟨⟨h1, h2, h3, h4, h5, h6, h7⟩, h8, h9, h10⟩ := h
  have l16 := hP.2.2.2.2.1
  have c16 := hP.2.2.2.2.2.2.2.2.1
  have g : ∀ {c k}, bkD b c k → gI S' c k = gI S c k := fun {c k} z => ho.I (hd c k z)
  refine ⟨⟨fun y => by rw [g (Or.inl ⟨by omega, rfl⟩)]; exact h1 y, by rw [g (Or.inl ⟨by omega, rfl⟩)]; exact h2, by rw [g (Or.inl ⟨by omega, rfl⟩)]; exact h3, by rw [g (Or.inl ⟨by omega, rfl⟩)]; exact h4, by rw [g (Or.inl ⟨by omega, rfl⟩)]; exact h5, by rw [g (Or.inl ⟨by omega, rfl⟩)]; exact h6, by rw [g (Or.inl ⟨by omega, rfl⟩)]; exact h7⟩, fun i hi => ?_, fun i hi => ?_, fun w hw => ?_⟩
  · obtain ⟨a1, a2, a3⟩ := h8 i hi
    exact ⟨by rw [g (Or.inr (Or.inl ⟨by omega, by omega, by omega⟩))]; exact a1, by rw [g (Or.inr (Or.inl ⟨by omega, by omega, by omega⟩))]; exact a2, by rw [ho.L (hd _ _ (Or.inr (Or.inl ⟨by omega, by omega, by omega⟩)))]; exact a3⟩
  · rw [g (Or.inr (Or.inl ⟨by omega, by omega, by omega⟩))]; exact h9 i hi
  · have hb' := hb w hw
    rcases h10 w hw with ⟨a1, a2⟩ | ⟨a1, a2, a3, a4⟩
    · exact Or.inl ⟨a1, by rw [g (Or.inr (Or.inr (Or.inl ⟨by omega, by omega, by omega⟩)))]; exact a2⟩
    · refine Or.inr ⟨a1, by rw [g (Or.inr (Or.inr (Or.inl ⟨by omega, by omega, by omega⟩)))]; exact a2, by rw [g (Or.inr (Or.inr (Or.inl ⟨by omega, by omega, by omega⟩)))]; exact a3, fun i c z => ?_⟩
      have il : i < (p_d Q.1 w).length := by
        rcases Nat.lt_or_ge i (p_d Q.1 w).length with x | x
        · exact x
        · rw [List.getElem?_eq_none x] at z; cases z
      rw [g (Or.inr (Or.inr (Or.inr ⟨by omega, by omega, by omega⟩))), g (Or.inr (Or.inr (Or.inr ⟨by omega, by omega, by omega⟩)))]
      exact a4 i c z
theorem g_iv_b (hi : g_iv T p Q) (hT : T.length ≤ 1600) : ∀ w, w < 3 → Q.2.2 w + (p_d Q.1 w).length ≤ 1600 := fun w hw => by
  have := (hi.2.2.2.2.2.2 w hw).1
  have := hi.1
  have := hi.2.1
  omega
/-- on to the next token -/
theorem m163s {p' : Nat} (h : mS S T b p Q) (hi : g_iv T p' Q) : ∃ S', fV (d + 2) 163 [.ref 396] S = some S' ∧ onM tDm S S' ∧ onM (g_rD b) S S' ∧ mS S' T b (g_en T p) Q := by
  obtain ⟨S', a1, a2, a3⟩ := m163n (d := d) h.1
  obtain ⟨h1, h2, h3, h4, h5⟩ := h
  refine ⟨S', a1, a2, a2.mono fun c k z => by unfold tDm at z; unfold g_rD; omega, a3, ⟨by rw [a2.I (by unfold tDm; omega)]; exact h2.1, by rw [a2.I (by unfold tDm; omega)]; exact h2.2⟩, ⟨h3.1, by rw [a2.I (by unfold tDm; omega)]; exact h3.2⟩, by rw [a2.I (by unfold tDm; omega)]; exact h4, h5.on a2 (fun c k z y => by unfold bkD at z; unfold tDm at y; omega) hi.2.2.1 (g_iv_b hi h1.1.2.2.1)⟩
/-- a bad token -/
theorem m162s (h : mS S T b p Q) (hk : g_kd T p = 4) : ∃ S', fV (d + 2) 162 [.ref 396] S = some S' ∧ mFr S S' b (1, g_ft T p) := ⟨_, m162f (d := d) h.1 h.2.1.1 hk, m_br h.W (by decide) (by decide)⟩
theorem m159s {k : Nat} (h : mS S T b p Q) (hk : 0 < k) (hk2 : k < 100) (n4 : g_kd T p ≠ 4) : ∃ S', fV (d + 1) 159 [.ref 396, .int (nI k), .int (gI S 396 4)] S = some S' ∧ mFr S S' b (k, g_st T p) := by
  rw [h.1.2.2.2.1]
  exact ⟨_, m159 (d := d) h.W h.2.1.1, m_br h.W hk hk2⟩
/-- a number -/
theorem m169s {lo hi p' : Nat} (h : mS S T b p Q) (hi' : g_iv T p' Q) (hlo : lo < 2147483648) (hhi : hi < 2147483648) : (g_kd T p = 2 → lo ≤ g_vl T p ∧ g_vl T p ≤ hi → ∃ S', fI (d + 3) 169 [.ref 396, .int (nI lo), .int (nI hi)] S = some (nI (g_vl T p), S') ∧ onM tDm S S' ∧ onM (g_rD b) S S' ∧ mS S' T b (g_en T p) Q) ∧ (¬ (g_kd T p = 2 ∧ lo ≤ g_vl T p ∧ g_vl T p ≤ hi) → ∃ v S', fI (d + 3) 169 [.ref 396, .int (nI lo), .int (nI hi)] S = some (v, S') ∧ mFr S S' b (if g_kd T p = 2 then (4, g_st T p) else (1, g_ft T p))) := by
  have h4 := g_kd_le (T := T) (p := p)
  have e := e169 (d + 2) (nI lo) (nI hi) S h.W
  refine ⟨fun k2 bb => ?_, fun nb => ?_⟩
  · have hv4 := g_vl_lt k2
    have k3 : gI S 396 3 = nI 2 := by rw [h.1.2.2.1, g_km_n (by omega), k2]
    have v6 := h.1.2.2.2.2.2.2.1 (Or.inl k2)
    rw [m162 (d := d + 1) h.1 (by omega), Option.bind_some, if_pos h.z8.1, k3, if_pos (show nI 2 = (2 : Int32) from rfl), b169_30_eq (d + 2) (nI lo) (nI hi) S h.W, if_neg (fun z => z h.z8.2), v6, e155 (d + 1) (nI (g_vl T p)) (nI lo) (nI hi) S h.W, if_neg (fun z => by have := (nI_ltI (by omega) (by omega)).mp z; omega), if_neg (fun z => by have := (nI_ltI (by omega) (by omega)).mp z; omega), zb_some, if_pos (show ¬ (1 : Int32) = 0 by decide), b169_58_eq (d + 2) S h.W, if_neg (fun z => z h.z8.2)] at e
    obtain ⟨S', a1, a2, a3, a4⟩ := m163s (d := d) h hi'
    rw [a1, Option.bind_some, v6] at e
    exact ⟨S', e, a2, a3, a4⟩
  · by_cases k4 : g_kd T p = 4
    · obtain ⟨S', a1, a2⟩ := m162s (d := d) h k4
      rw [a1, Option.bind_some, if_neg a2.n8.1] at e
      rw [if_neg (by omega)]
      exact ⟨_, S', e, a2⟩
    · rw [m162 (d := d + 1) h.1 k4, Option.bind_some, if_pos h.z8.1] at e
      by_cases k2 : g_kd T p = 2
      · have hv4 := g_vl_lt k2
        have k3 : gI S 396 3 = nI 2 := by rw [h.1.2.2.1, g_km_n (by omega), k2]
        have v6 := h.1.2.2.2.2.2.2.1 (Or.inl k2)
        have e5 : fI (d + 2) 155 [.int (nI (g_vl T p)), .int (nI lo), .int (nI hi)] S = some (0, S) := by
          rw [e155 (d + 1) (nI (g_vl T p)) (nI lo) (nI hi) S h.W]
          by_cases c1 : g_vl T p < lo
          · rw [if_pos (nI_lt c1 (by omega)), b155_14_eq (d + 1) S h.W]
          · rw [if_neg (fun z => by have := (nI_ltI (by omega) (by omega)).mp z; omega), if_pos (nI_lt (by omega) (by omega)), b155_14_eq (d + 1) S h.W]
        obtain ⟨S', a1, a2⟩ := m159s (d := d + 1) (k := 4) h (by decide) (by decide) k4
        have a1' : fV (d + 2) 159 [.ref 396, .int (4 : Int32), .int (gI S 396 4)] S = some S' := a1
        rw [k3, if_pos (show nI 2 = (2 : Int32) from rfl), b169_30_eq (d + 2) (nI lo) (nI hi) S h.W, if_neg (fun z => z h.z8.2), v6, e5, zb_some, if_neg (show ¬ ¬ (0 : Int32) = 0 by decide), a1', Option.bind_some, b169_58_eq (d + 2) S' a2.1.W, if_pos a2.n8.2] at e
        rw [if_pos k2]
        exact ⟨_, S', e, a2⟩
      · have k3 : ¬ gI S 396 3 = (2 : Int32) := by
          rw [h.1.2.2.1, g_km_n k4]
          exact fun z => k2 ((nI_eq (b := 2) (by omega) (by omega)).mp z)
        obtain ⟨S', a1, a2⟩ := m159s (d := d + 1) (k := 1) h (by decide) (by decide) k4
        have a1' : fV (d + 2) 159 [.ref 396, .int (1 : Int32), .int (gI S 396 4)] S = some S' := a1
        rw [if_neg k3, a1', Option.bind_some, b169_30_eq (d + 2) (nI lo) (nI hi) S' a2.1.W, if_pos a2.n8.2, b169_58_eq (d + 2) S' a2.1.W, if_pos a2.n8.2] at e
        rw [if_neg k2, g_ft_n k4]
        exact ⟨_, S', e, a2⟩
theorem m169f {S' : z_S} {e : Nat × Nat} {x y : Int32} (h : mFr S S' b e) : fI (d + 3) 169 [.ref 396, .int x, .int y] S' = some (0, S') := by
  rw [e169 (d + 2) x y S' h.1.W, h.f162 (d := d), Option.bind_some, if_neg h.n8.1]
end HM
