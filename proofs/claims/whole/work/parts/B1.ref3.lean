/-! THE TEXT: the reference reads settings. -/
section HO
variable {d b : Nat} {T : List Nat} {S : z_S} {p : Nat} {Q : g_Q}
theorem mS.put {S' : z_S} {Q' : g_Q} (h : mS S T b p Q) (o : onM (bkD b) S S') (hq : mQ S' b Q') (hl : Q'.2.1.length = Q.2.1.length) : onM (g_rD b) S S' ∧ mS S' T b p Q' := by
  obtain ⟨h1, h2, h3, h4, h5⟩ := h
  have n : ∀ k, gI S' 396 k = gI S 396 k := fun k => o.I (by unfold bkD; omega)
  exact ⟨o.mono fun c k z => Or.inr (Or.inr z), h1.on o (fun c k z => by unfold bkD at z; omega), ⟨by rw [n]; exact h2.1, by rw [n]; exact h2.2⟩, ⟨h3.1, by rw [n]; exact h3.2⟩, by rw [n, hl]; exact h4, hq⟩
theorem mFr.sI {S' : z_S} {e : Nat × Nat} {c k : Nat} {v : Int32} (h : mFr S S' b e) (hc : bkD b c k) : mFr S (sI S' c k v) b e := by
  obtain ⟨h1, h2, h3, h4⟩ := h
  have hn : (396 : Nat) ≠ c := by unfold bkD at hc; omega
  exact ⟨onM_sI (D := g_rD b) (c := c) (k := k) h1 (Or.inr (Or.inr hc)), by rw [gI_sI, if_neg hn]; exact h2, by rw [gI_sI, if_neg hn]; exact h3, h4⟩
theorem mFr.r30 {S' : z_S} {e : Nat × Nat} (h : mFr S S' b e) (h30 : gI S 396 30 = nI b) : gI S' 396 30 = nI b := by rw [h.1.I (by unfold g_rD bkD; omega)]; exact h30
theorem mQ.set {c : Nat} {v : Int32} {Q' : g_Q} (h : mQ S b Q) (hc : 398 ≤ c ∧ c ≤ 401 ∨ c = 407) (e2 : Q'.2 = Q.2) (eR : 398 = c ∨ p_R Q'.1 = p_R Q.1) (er : p_L Q'.1 = p_L Q.1 ∧ p_f Q'.1 = p_f Q.1 ∧ p_o Q'.1 = p_o Q.1 ∧ p_a Q'.1 = p_a Q.1 ∧ p_c Q'.1 = p_c Q.1 ∧ p_d Q'.1 = p_d Q.1) (e : (if 398 = c then v else nI (p_R Q.1)) = nI (p_R Q'.1) ∧ (if 399 = c then v else nI (p_B Q.1)) = nI (p_B Q'.1) ∧ (if 400 = c then v else nI (p_T Q.1)) = nI (p_T Q'.1) ∧ (if 401 = c then v else nI (p_K Q.1)) = nI (p_K Q'.1) ∧ (if 407 = c then v else nI (p_H Q.1)) = nI (p_H Q'.1)) : mQ (sI S c b v) b Q' := by
  obtain ⟨⟨h1, h2, h3, h4, h5, h6, h7⟩, h8, h9, h10⟩ := h
  obtain ⟨r1, r2, r3, r4, r5, r6⟩ := er
  obtain ⟨e0, e1, e3, e4, e5⟩ := e
  have gs : ∀ c', gI (sI S c b v) c' b = if c' = c then v else gI S c' b := fun c' => by
    rw [gI_sI]
    by_cases z : c' = c
    · rw [if_pos z, if_pos z, if_pos rfl]
    · rw [if_neg z, if_neg z]
  have gn : ∀ {c' k}, c' ≠ c → gI (sI S c b v) c' k = gI S c' k := fun {c' k} z => by rw [gI_sI, if_neg z]
  unfold mQ
  rw [e2, r1, r2, r3, r4, r5, r6]
  refine ⟨⟨fun y => ?_, by rw [gs, h2]; exact e1, by rw [gs, h3]; exact e3, by rw [gs, h4]; exact e4, by rw [gn (by omega)]; exact h5, by rw [gn (by omega)]; exact h6, by rw [gs, h7]; exact e5⟩, fun i hi => ?_, fun i hi => by rw [gn (by omega)]; exact h9 i hi, fun w hw => ?_⟩
  · by_cases z : 398 = c
    · rw [if_pos z] at e0; rw [gs, if_pos z]; exact e0
    · rw [gs, if_neg z]
      rcases eR with x | x
      · exact absurd x z
      · rw [x] at y ⊢; exact h1 y
  · obtain ⟨a1, a2, a3⟩ := h8 i hi
    exact ⟨by rw [gn (by omega)]; exact a1, by rw [gn (by omega)]; exact a2, a3⟩
  · rcases h10 w hw with ⟨a1, a2⟩ | ⟨a1, a2, a3, a4⟩
    · exact Or.inl ⟨a1, by rw [gn (by omega)]; exact a2⟩
    · exact Or.inr ⟨a1, by rw [gn (by omega)]; exact a2, by rw [gn (by omega)]; exact a3, fun i c' z => by rw [gn (by omega), gn (by omega)]; exact a4 i c' z⟩
theorem mS.set {c : Nat} {v : Int32} {Q' : g_Q} (h : mS S T b p Q) (hc : bkD b c b) (hq : mQ (sI S c b v) b Q') (hl : Q'.2.1.length = Q.2.1.length) : onM (g_rD b) S (sI S c b v) ∧ mS (sI S c b v) T b p Q' := h.put (onM_sI (D := bkD b) (c := c) (k := b) (onM.refl h.W) hc) hq hl
/-- a number for a cell of the bank -/
theorem m169b {c lo hi p' : Nat} {F : Nat → g_Q} (h : mS S T b p Q) (hi' : g_iv T p' Q) (hlo : lo < 200) (hhi : hi < 200) (hc : bkD b c b) (hF : ∀ v S', mS S' T b (g_en T p) Q → mQ (sI S' c b (nI v)) b (F v)) (hl : ∀ v, (F v).2.1.length = Q.2.1.length) : mRq (zb (fI (d + 3) 169 [.ref 396, .int (nI lo), .int (nI hi)] S) fun v S' => some (sI S' c b v)) S T b (g_num T p lo hi fun v p' => .inr (p', F v)) := by
  obtain ⟨n1, n2⟩ := m169s (d := d) (lo := lo) (hi := hi) h hi' (by omega) (by omega)
  unfold g_num
  by_cases bb : g_kd T p = 2 ∧ lo ≤ g_vl T p ∧ g_vl T p ≤ hi
  · obtain ⟨S', a1, _, a2, a3⟩ := n1 bb.1 bb.2
    rw [a1, zb_some, if_pos bb.1, if_pos bb.2]
    obtain ⟨x1, x2⟩ := a3.set (v := nI (g_vl T p)) hc (hF (g_vl T p) S' a3) (hl _)
    exact ⟨_, rfl, a2.trans x1, x2⟩
  · obtain ⟨v, S', a1, a2⟩ := n2 bb
    rw [a1, zb_some]
    by_cases k2 : g_kd T p = 2
    · rw [if_pos k2] at a2 ⊢
      rw [if_neg (fun z => bb ⟨k2, z⟩)]
      exact ⟨_, rfl, a2.sI hc⟩
    · rw [if_neg k2] at a2 ⊢
      exact ⟨_, rfl, a2.sI hc⟩
theorem m183b {c lo hi : Nat} {F : Nat → g_Q} (h : mS S T b p Q) (hi' : g_iv T p Q) (hlo : lo < 200) (hhi : hi < 200) (hc : bkD b c b) (hF : ∀ v S', mS S' T b (g_en T (g_en T p)) Q → mQ (sI S' c b (nI v)) b (F v)) (hl : ∀ v, (F v).2.1.length = Q.2.1.length) : mRq (zb (fI (d + 4) 183 [.ref 396, .int (nI lo), .int (nI hi)] S) fun v S' => if z_in (gI S 396 30) 2 then some (sI S' c (gI S 396 30).toNatClampNeg v) else none) S T b (g_num T (g_en T p) lo hi fun v p' => .inr (p', F v)) := by
  have hb := h.2.2.1.1
  have zin : z_in (nI b) 2 := (ni_in (by omega)).mpr hb
  have cl : (nI b).toNatClampNeg = b := nI_clamp (by omega)
  obtain ⟨S1, a1, _, a2, a3⟩ := m180s (d := d) h hi'
  have := (m169b (d := d) (c := c) (lo := lo) (hi := hi) (F := F) a3 hi' hlo hhi hc hF hl).tr a2
  rw [h.2.2.1.2, e183 (d + 3) (nI lo) (nI hi) S h.W, a1, zb_some, if_pos (show ¬ (1 : Int32) = 0 by decide)]
  cases er : fI (d + 3) 169 [.ref 396, .int (nI lo), .int (nI hi)] S1 with
  | none =>
    rw [er] at this
    exact this
  | some x =>
    rw [er] at this
    obtain ⟨v, S'⟩ := x
    rw [zb_some] at this ⊢
    rw [zb_some, if_pos zin, cl]
    exact this
/-- the first statement -/
theorem m184s (h : mS S T b p Q) (hi : g_iv T p Q) (hm : p_m Q.1 = 0) : mRq (fV (d + 4) 184 [.ref 396] S) S T b (g_stm T p Q) := by
  have hb := h.2.2.1.1
  have zin : z_in (nI b) 2 := (ni_in (by omega)).mpr hb
  have cl : (nI b).toNatClampNeg = b := nI_clamp (by omega)
  have bk : bkD b 398 b := Or.inl ⟨by omega, rfl⟩
  have e := e184 (d + 3) S h.W
  obtain ⟨w1, w2⟩ := m181s (d := d) (i := 0) (n := 491495845235) h hi (by decide) (by decide +kernel)
  unfold g_stm
  rw [decide_eq_true hm]
  by_cases c : g_ow T p 0 = true
  · obtain ⟨S1, a1, _, a2, a3⟩ := w1 c
    have a1' : fV (d + 3) 181 [.ref 396, .long (491495845235 : Int64)] S = some S1 := a1
    rw [a1', Option.bind_some, a3.2.2.1.2] at e
    rw [e, if_pos c.symm, if_pos c]
    have := (m169b (d := d) (c := 398) (lo := 2) (hi := 16) (F := fun v => (P_R Q.1 v, Q.2)) a3 hi (by decide) (by decide) bk (fun v S' hs => hs.2.2.2.2.set (Or.inl ⟨by omega, by omega⟩) rfl (Or.inl rfl) ⟨rfl, rfl, rfl, rfl, rfl, rfl⟩ ⟨rfl, rfl, rfl, rfl, rfl⟩) (fun _ => rfl)).tr a2
    have er : (zb (fI (d + 3) 169 [.ref 396, .int (2 : Int32), .int (16 : Int32)] S1) fun v3 S4 => (if z_in (nI b) 2 then some (sI S4 398 (nI b).toNatClampNeg v3) else none)) = zb (fI (d + 3) 169 [.ref 396, .int (nI 2), .int (nI 16)] S1) fun v S' => some (sI S' 398 b v) := by
      congr 1
      funext v S'
      rw [if_pos zin, cl]
    rw [er]
    exact this
  · have c' : g_ow T p 0 = false := by simpa using c
    obtain ⟨S1, a1, a2⟩ := w2 c'
    have a1' : fV (d + 3) 181 [.ref 396, .long (491495845235 : Int64)] S = some S1 := a1
    rw [a1', Option.bind_some, m169f (d := d) a2, zb_some, a2.r30 h.2.2.1.2, if_pos zin, cl] at e
    rw [e, if_neg (fun z => c z.symm)]
    exact ⟨_, rfl, a2.sI bk⟩
end HO
