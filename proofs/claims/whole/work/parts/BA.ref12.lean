/-! THE TEXT: the reference reads a formula's statement. -/
section HX
variable {d b w : Nat} {T : List Nat} {S : z_S} {p : Nat} {Q : g_Q}
/-- as mRq, but a bad token behind may show already -/
def mRz (r : Option z_S) (S : z_S) (T : List Nat) (b : Nat) (g : g_RS) : Prop := match g with
  | .inl e => ∃ S', r = some S' ∧ mFr S S' b e
  | .inr x => (g_kd T x.1 = 4 ∧ ∃ S', r = some S' ∧ mFr S S' b (1, g_ft T x.1)) ∨ ∃ S', r = some S' ∧ onM (g_rD b) S S' ∧ mS S' T b x.1 x.2
theorem mRq.z {r : Option z_S} {g : g_RS} (h : mRq r S T b g) : mRz r S T b g := by
  cases g with
  | inl e => exact h
  | inr x => exact Or.inr h
theorem mRz.tr {r : Option z_S} {S S' : z_S} {g : g_RS} (h : mRz r S' T b g) (o : onM (g_rD b) S S') : mRz r S T b g := by
  cases g with
  | inl e =>
    obtain ⟨S2, a1, a2⟩ := h
    exact ⟨S2, a1, a2.tr o⟩
  | inr x =>
    rcases h with ⟨k, S2, a1, a2⟩ | ⟨S2, a1, a2, a3⟩
    · exact Or.inl ⟨k, S2, a1, a2.tr o⟩
    · exact Or.inr ⟨S2, a1, o.trans a2, a3⟩
def fD (b w f0 : Nat) : Nat → Nat → Prop := fun c k => c = 396 ∧ (3 ≤ k ∧ k ≤ 9 ∨ k = 12 ∨ k = 29 ∨ k = 31 ∨ 37 ≤ k ∧ k ≤ 41) ∨ 413 ≤ c ∧ c ≤ 418 ∨ (c = 408 ∨ c = 409) ∧ k = 3 * b + w ∨ (c = 410 ∨ c = 411) ∧ 1600 * b + f0 ≤ k ∧ k < 1600 * b + 1600
theorem fD_r {f0 c k : Nat} (hw : w < 3) (h : fD b w f0 c k) : g_rD b c k := by
  unfold fD at h
  unfold g_rD bkD
  omega
theorem g_mD_f {f0 c k : Nat} (h : g_mD b f0 c k) : fD b w f0 c k := by
  unfold g_mD at h
  unfold fD
  omega
/-- the plan with the new formula -/
theorem mQ.fo {S' : z_S} {cs : List Nat} (h : mQ S b Q) (hi : g_iv T p Q) (hT : T.length ≤ 1600) (hw : w < 3) (o : onM (fD b w Q.2.1.length) S S') (h8 : gI S' 408 (3 * b + w) = nI Q.2.1.length) (h9 : gI S' 409 (3 * b + w) = nI cs.length) (hx : xC S' b w Q.2.1.length cs) (r : List Nat) (hr : cs = Q.2.1 ++ r) (hn : r ≠ []) : mQ S' b (P_fo Q.1 w (cs.drop Q.2.1.length), cs, q_u Q.2.2 w Q.2.1.length) := by
  obtain ⟨⟨g1, g2, g3, g4, g5, g6, g7⟩, g8, g9, g10⟩ := h
  have hd : cs.drop Q.2.1.length = r := by rw [hr, List.drop_left]
  have hl : cs.length = Q.2.1.length + r.length := by rw [hr, List.length_append]
  rw [hd]
  have n : ∀ {c k}, 398 ≤ c ∧ c ≤ 407 ∨ c = 412 → gI S' c k = gI S c k := fun {c k} z => o.I (by unfold fD; omega)
  refine ⟨⟨fun y => by rw [n (by omega)]; exact g1 y, by rw [n (by omega)]; exact g2, by rw [n (by omega)]; exact g3, by rw [n (by omega)]; exact g4, by rw [n (by omega)]; exact g5, by rw [n (by omega)]; exact g6, by rw [n (by omega)]; exact g7⟩, fun i hi => ?_, fun i hi => by rw [n (by omega)]; exact g9 i hi, fun v hv => ?_⟩
  · obtain ⟨a1, a2, a3⟩ := g8 i hi
    exact ⟨by rw [n (by omega)]; exact a1, by rw [n (by omega)]; exact a2, by rw [o.L (by unfold fD; omega)]; exact a3⟩
  · show (q_u (p_d Q.1) w r v = [] ∧ _) ∨ (q_u (p_d Q.1) w r v ≠ [] ∧ gI S' 408 (3 * b + v) = nI (q_u Q.2.2 w Q.2.1.length v) ∧ gI S' 409 (3 * b + v) = nI (q_u Q.2.2 w Q.2.1.length v + (q_u (p_d Q.1) w r v).length) ∧ ∀ i c, (q_u (p_d Q.1) w r v)[i]? = some c → q_mc v c (gI S' 410 (1600 * b + (q_u Q.2.2 w Q.2.1.length v + i))) (gI S' 411 (1600 * b + (q_u Q.2.2 w Q.2.1.length v + i))))
    by_cases z : v = w
    · rw [z, q_us, q_us]
      refine Or.inr ⟨hn, h8, by rw [h9, hl], fun i c hc => ?_⟩
      have il : i < r.length := by
        rcases Nat.lt_or_ge i r.length with x | x
        · exact x
        · rw [List.getElem?_eq_none x] at hc; cases hc
      have := hx.2 (Q.2.1.length + i) (by omega) (by omega)
      rw [List.getD_eq_getElem?_getD, hr, List.getElem?_append_right (by omega), Nat.add_sub_cancel_left, hc] at this
      exact this
    · rw [q_un z, q_un z]
      have hb := (hi.2.2.2.2.2.2 v hv).1
      have h1 := hi.1
      have h2 := hi.2.1
      rcases g10 v hv with ⟨a1, a2⟩ | ⟨a1, a2, a3, a4⟩
      · exact Or.inl ⟨a1, by rw [o.I (by unfold fD; omega)]; exact a2⟩
      · refine Or.inr ⟨a1, by rw [o.I (by unfold fD; omega)]; exact a2, by rw [o.I (by unfold fD; omega)]; exact a3, fun i c hc => ?_⟩
        have il : i < (p_d Q.1 v).length := by
          rcases Nat.lt_or_ge i (p_d Q.1 v).length with x | x
          · exact x
          · rw [List.getElem?_eq_none x] at hc; cases hc
        rw [o.I (by unfold fD; omega), o.I (by unfold fD; omega)]
        exact a4 i c hc
/-- behind the word -/
theorem m189b {kd : Nat} (h : mS S T b p Q) (hi : g_iv T p Q) (h1 : 1 ≤ p) (hw : w < 3) (hd : p_d Q.1 w = []) (hkd : kd = if w = 2 then 0 else 1) : mRz (b189_58 (d + 5) (nI (3 * b + w)) (nI kd) (sI (sI S 396 31 (nI w)) 408 (3 * b + w) (nI Q.2.1.length))) S T b (match g_fm T w p Q.2.1 with
    | .inl e => .inl e
    | .inr x => .inr (x.1, P_fo Q.1 w (x.2.drop Q.2.1.length), x.2, q_u Q.2.2 w Q.2.1.length)) := by
  have hb := h.2.2.1.1
  have hT := h.1.1.2.2.1
  have hcl : (nI (3 * b + w)).toNatClampNeg = 3 * b + w := nI_clamp (by omega)
  have zin : z_in (nI (3 * b + w)) 6 := (ni_in (by omega)).mpr (by omega)
  have o1 : onM (fD b w Q.2.1.length) S (sI (sI S 396 31 (nI w)) 408 (3 * b + w) (nI Q.2.1.length)) := onM_sI (D := fD b w Q.2.1.length) (c := 408) (k := 3 * b + w) (onM_sI (D := fD b w Q.2.1.length) (c := 396) (k := 31) (onM.refl h.W) (Or.inl ⟨rfl, by omega⟩)) (Or.inr (Or.inr (Or.inl ⟨by omega, rfl⟩)))
  have o1' : onM (fun c k => c = 396 ∧ k = 31 ∨ c = 408) S (sI (sI S 396 31 (nI w)) 408 (3 * b + w) (nI Q.2.1.length)) := onM_sI (D := fun c k => c = 396 ∧ k = 31 ∨ c = 408) (c := 408) (k := 3 * b + w) (onM_sI (D := fun c k => c = 396 ∧ k = 31 ∨ c = 408) (c := 396) (k := 31) (onM.refl h.W) (Or.inl ⟨rfl, rfl⟩)) (Or.inr rfl)
  have v31 : gI (sI (sI S 396 31 (nI w)) 408 (3 * b + w) (nI Q.2.1.length)) 396 31 = nI w := rfl
  have v8 : gI (sI (sI S 396 31 (nI w)) 408 (3 * b + w) (nI Q.2.1.length)) 408 (3 * b + w) = nI Q.2.1.length := by rw [gI_sI, if_pos rfl, if_pos rfl]
  generalize sI (sI S 396 31 (nI w)) 408 (3 * b + w) (nI Q.2.1.length) = S2 at *
  have z8 : gI S2 396 8 = nI 0 := by rw [o1'.I (by omega)]; exact h.2.1.1
  obtain ⟨G, o2⟩ := mG_0 (cs := Q.2.1) (b := b) (w := w) (h.1.on o1' (fun c k z => by omega)) ⟨z8, by rw [o1'.I (by omega)]; exact h.2.1.2⟩ ⟨hb, by rw [o1'.I (by omega)]; exact h.2.2.1.2⟩ (by rw [o1'.I (by omega)]; exact h.2.2.2.1) v31 hw
  have e9 : fV (d + 5) 179 [.ref 396, .int (nI kd)] S2 = b179_38 (d + 4) (nI kd) (sI (sI (sI (sI S2 396 37 (0 : Int32)) 396 38 (0 : Int32)) 396 40 (0 : Int32)) 396 41 (0 : Int32)) := by
    rw [e179 (d + 4) (nI kd) S2 o1.W, if_pos (by rw [z8]; decide)]
    by_cases w2 : w = 2
    · rw [if_pos w2] at hkd
      rw [hkd, if_pos (show nI 0 = (0 : Int32) from rfl)]
      rfl
    · rw [if_neg w2] at hkd
      rw [hkd, if_neg (show ¬ nI 1 = (0 : Int32) by decide)]
      rfl
  have g := m179a (d := d) G hkd hi.2.1 h1
  generalize sI (sI (sI (sI S2 396 37 (0 : Int32)) 396 38 (0 : Int32)) 396 40 (0 : Int32)) 396 41 (0 : Int32) = S3 at *
  have o3 : onM (fD b w Q.2.1.length) S S3 := o1.trans (o2.mono fun c k z => Or.inl ⟨z.1, by omega⟩)
  have o3r : onM (g_rD b) S S3 := o3.mono fun c k z => fD_r hw z
  have bk : bkD b 409 (3 * b + w) := Or.inr (Or.inr (Or.inl ⟨Or.inr rfl, by omega, by omega⟩))
  rw [b189_58_eq (d + 5) _ _ S2 o1.W, e9]
  cases eg : g_fm T w p Q.2.1 with
  | inl x =>
    rw [eg] at g
    obtain ⟨S', a1, a2⟩ := g
    rw [a1, Option.bind_some, if_pos zin, hcl]
    exact ⟨_, rfl, (a2.r.tr o3r).sI bk⟩
  | inr x =>
    rw [eg] at g
    rcases g with ⟨k4, S', a1, a2⟩ | ⟨_, S', fs', o', a1, a2, a3⟩
    · rw [a1, Option.bind_some, if_pos zin, hcl]
      exact Or.inl ⟨k4, _, rfl, (a2.r.tr o3r).sI bk⟩
    · rw [a1, Option.bind_some, if_pos zin, hcl]
      obtain ⟨y1, y2, r, y3, y4, y5⟩ := g_fm_gd (T := T) (w := w) _ _ _ _ hi.1 eg
      have rn : r ≠ [] := fun z => by
        have := y5 [] (by decide)
        rw [z] at this
        cases this
      obtain ⟨b1, b2, b3, b4, b5, b6, b7, b8, _⟩ := a3
      have o4 : onM (fun c k => c = 409 ∧ k = 3 * b + w) S' (sI S' 409 (3 * b + w) (gI S' 396 29)) := onM_sI (D := fun c k => c = 409 ∧ k = 3 * b + w) (c := 409) (k := 3 * b + w) (onM.refl a2.W) ⟨rfl, rfl⟩
      have v9 : gI (sI S' 409 (3 * b + w) (gI S' 396 29)) 409 (3 * b + w) = nI x.2.length := by rw [gI_sI, if_pos rfl, if_pos rfl]; exact b8.1
      have v8' : gI (sI S' 409 (3 * b + w) (gI S' 396 29)) 408 (3 * b + w) = nI Q.2.1.length := by rw [o4.I (by omega), a2.I (by unfold g_mD; omega), o2.I (by omega)]; exact v8
      generalize sI S' 409 (3 * b + w) (gI S' 396 29) = S4 at *
      have o5 : onM (fD b w Q.2.1.length) S S4 := o3.trans ((a2.mono fun c k z => g_mD_f z).trans (o4.mono fun c k z => Or.inr (Or.inr (Or.inl ⟨Or.inr z.1, z.2⟩))))
      have xc : xC S4 b w Q.2.1.length x.2 := ⟨by rw [o4.I (by omega)]; exact b8.1, fun i z1 z2 => by rw [o4.I (by omega), o4.I (by omega)]; exact b8.2 i z1 z2⟩
      exact Or.inr ⟨S4, rfl, o5.mono fun c k z => fD_r hw z, b1.on o4 (fun c k z => by omega), ⟨by rw [o4.I (by omega)]; exact b2, by rw [o4.I (by omega)]; exact b6.2⟩, ⟨hb, by rw [o4.I (by omega)]; exact b4⟩, xc.1, h.2.2.2.2.fo hi hT hw o5 v8' v9 xc r y3 rn⟩
/-- yields, leaves, rents -/
theorem m189s (h : mS S T b p Q) (hi : g_iv T p Q) (hk : g_kd T p ≠ 4) (hk0 : g_kd T p ≠ 0) (hw : w < 3) : mRz (fV (d + 6) 189 [.ref 396, .int (nI w)] S) S T b (g_for T w p Q) := by
  have hb := h.2.2.1.1
  have hcl : (nI (3 * b + w)).toNatClampNeg = 3 * b + w := nI_clamp (by omega)
  have zin : z_in (nI (3 * b + w)) 6 := (ni_in (by omega)).mpr (by omega)
  have ad : (3 : Int32) * nI b + nI w = nI (3 * b + w) := by simp (disch := omega) only [ni_lit, nI_add, pk_mul, pk_sub, pk_div, nI_leI, nI_ltI, nI_eq, nI_clamp, ni_in, ni_inm, ni_ltm, ni_mlt, ni_lem, ni_mle, ni_eqm, ni_meq, ni_mm, ni_mmle, ni_bit, ni_shl, ni_clr, fa_or, Nat.add_zero, Nat.zero_add, Nat.zero_mul, Nat.mul_zero, eOn, eOs]
  have hb2 := g_iv_b hi h.1.1.2.2.1 w hw
  have e := e189 (d + 5) (nI w) S h.W
  rw [h.2.2.1.2, ad, if_pos zin] at e
  unfold g_for
  rcases h.2.2.2.2.2.2.2 w hw with ⟨d1, d2⟩ | ⟨d1, d2, _⟩
  · have r8 : gI S 408 (nI (3 * b + w)).toNatClampNeg = (-1 : Int32) := by rw [hcl, d2]; rfl
    obtain ⟨S1, a1, _, a2, a3⟩ := m180s (d := d + 2) h hi
    have h1 := g_en_k hi.1 hk0
    have hi1 : g_iv T (g_en T p) Q := ⟨h1.2, by have := hi.2.1; omega, hi.2.2⟩
    have v29 : gI (sI S1 396 31 (nI w)) 396 29 = nI Q.2.1.length := by rw [gI_sI, if_pos rfl, if_neg (by decide)]; exact a3.2.2.2.1
    rw [if_pos r8, b189_25_eq (d + 5) _ _ _ S h.W, a1, zb_some, if_pos (show ¬ (1 : Int32) = 0 by decide), if_pos zin, hcl, v29] at e
    rw [if_pos d1]
    by_cases w2 : w = 2
    · have g := (m189b (d := d) (w := w) (kd := 0) a3 hi1 (by omega) hw d1 (by rw [if_pos w2])).tr a2
      rw [if_pos (show nI w = (2 : Int32) by rw [w2]; rfl)] at e
      rw [e]
      exact g
    · have g := (m189b (d := d) (w := w) (kd := 1) a3 hi1 (by omega) hw d1 (by rw [if_neg w2])).tr a2
      rw [if_neg (show ¬ nI w = (2 : Int32) from fun z => w2 ((nI_eq (b := 2) (by omega) (by omega)).mp z))] at e
      rw [e]
      exact g
  · have r8 : ¬ gI S 408 (nI (3 * b + w)).toNatClampNeg = (-1 : Int32) := by
      rw [hcl, d2]
      exact fun z => (ni_eqm (by omega)).mp z
    obtain ⟨S2, b1, b2⟩ := m180f (d := d + 2) h hk
    rw [if_neg r8, b189_25_eq (d + 5) _ _ _ S h.W, b1, zb_some, if_neg (show ¬ ¬ (0 : Int32) = 0 by decide)] at e
    rw [e, if_neg d1]
    exact ⟨S2, rfl, b2⟩
end HX
