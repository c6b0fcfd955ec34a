/-! THE TEXT: the reference reads shut and in. -/
section HP
variable {d b : Nat} {T : List Nat} {S : z_S} {p : Nat} {Q : g_Q}
theorem b188_f {S' : z_S} {e : Nat × Nat} {y : Int32} (h : mFr S S' b e) : b188_64 d y S' = some S' := by rw [b188_64_eq d y S' h.1.W, if_pos h.n8.2]
theorem m188s (h : mS S T b p Q) (hi : g_iv T p Q) (hR : 2 ≤ p_R Q.1) : mRq (fV (d + 4) 188 [.ref 396] S) S T b (g_num T (g_en T p) 0 (p_R Q.1 - 1) fun v p' => if (p_H Q.1).testBit v then .inl (4, g_st T (g_en T p)) else .inr (p', P_H Q.1 (p_H Q.1 ||| 2 ^ v), Q.2)) := by
  have hb := h.2.2.1.1
  have hP := hi.2.2.1
  have hR1 := hP.1
  have hH := p_H_lt hP
  have zin : z_in (nI b) 2 := (ni_in (by omega)).mpr hb
  have cl : (nI b).toNatClampNeg = b := nI_clamp (by omega)
  have sb : nI (p_R Q.1) - (1 : Int32) = nI (p_R Q.1 - 1) := by simp (disch := omega) only [ni_lit, nI_add, pk_mul, pk_sub, pk_div, nI_leI, nI_ltI, nI_eq, nI_clamp, ni_in, ni_inm, ni_ltm, ni_mlt, ni_lem, ni_mle, ni_eqm, ni_meq, ni_mm, ni_mmle, ni_bit, ni_shl, ni_clr, fa_or, Nat.add_zero, Nat.zero_add, Nat.zero_mul, Nat.mul_zero, eOn, eOs]
  have e := e188 (d + 3) S h.W
  obtain ⟨S1, a1, _, a2, a3⟩ := m180s (d := d) h hi
  rw [a1, zb_some, if_pos (show ¬ (1 : Int32) = 0 by decide)] at e
  unfold g_num
  by_cases k4 : g_kd T (g_en T p) = 4
  · obtain ⟨S2, b1, b2⟩ := m162s (d := d + 1) a3 k4
    rw [b1, Option.bind_some, b2.r30 a3.2.2.1.2, if_pos zin, m169f (d := d) b2, zb_some, if_pos b2.n8.2, b188_f b2] at e
    rw [e, if_neg (by omega)]
    exact ⟨S2, rfl, b2.tr a2⟩
  · have r8 : gI S1 398 (nI b).toNatClampNeg = nI (p_R Q.1) := by rw [cl]; exact a3.2.2.2.2.1.1 hR
    rw [m162 (d := d + 2) a3.1 k4, Option.bind_some, a3.2.2.1.2, if_pos zin, r8, sb] at e
    obtain ⟨n1, n2⟩ := m169s (d := d) (lo := 0) (hi := p_R Q.1 - 1) a3 hi (by omega) (by omega)
    by_cases bb : g_kd T (g_en T p) = 2 ∧ 0 ≤ g_vl T (g_en T p) ∧ g_vl T (g_en T p) ≤ p_R Q.1 - 1
    · obtain ⟨S2, b1, _, b2, b3⟩ := n1 bb.1 bb.2
      have b1' : fI (d + 3) 169 [.ref 396, .int (0 : Int32), .int (nI (p_R Q.1 - 1))] S1 = some (nI (g_vl T (g_en T p)), S2) := b1
      have r7 : gI S2 407 (nI b).toNatClampNeg = nI (p_H Q.1) := by rw [cl]; exact b3.2.2.2.2.1.2.2.2.2.2.2
      have ib : ((nI (p_H Q.1) >>> (nI (g_vl T (g_en T p)) &&& 31)) &&& (1 : Int32)) = nI (q_b (p_H Q.1) (g_vl T (g_en T p))) := ni_bit (by omega) (by omega)
      rw [b1', zb_some, if_neg (fun z => z b3.z8.2), b3.2.2.1.2, if_pos zin, r7, e182 (d + 2) (nI (p_H Q.1)) (nI (g_vl T (g_en T p))) S2 b3.W, ib] at e
      rw [if_pos bb.1, if_pos bb.2]
      show mRq _ S T b (if (p_H Q.1).testBit (g_vl T (g_en T p)) = true then .inl (4, g_st T (g_en T p)) else .inr (g_en T (g_en T p), P_H Q.1 (p_H Q.1 ||| 2 ^ g_vl T (g_en T p)), Q.2))
      by_cases cb : (p_H Q.1).testBit (g_vl T (g_en T p)) = true
      · have f9 := m159 (d := d + 2) (k := 4) (pl := g_st T (g_en T p)) b3.W b3.2.1.1
        have f9' : fV (d + 3) 159 [.ref 396, .int (4 : Int32), .int (gI S1 396 4)] S2 = some (sI (sI S2 396 8 (nI 4)) 396 9 (nI (g_st T (g_en T p)))) := by rw [a3.1.2.2.2.1]; exact f9
        have fr := m_br (b := b) (k := 4) (pl := g_st T (g_en T p)) b3.W (by decide) (by decide)
        rw [if_neg (show ¬ ¬ nI (q_b (p_H Q.1) (g_vl T (g_en T p))) = (1 : Int32) from fun z => z (q_bo.mpr cb)), zb_some, if_neg (show ¬ (1 : Int32) = 0 by decide), f9', Option.bind_some, b188_f fr] at e
        rw [e, if_pos cb]
        exact ⟨_, rfl, (fr.tr b2).tr a2⟩
      · have io : nI (p_H Q.1) ||| ((1 : Int32) <<< (nI (g_vl T (g_en T p)) &&& 31)) = nI (p_H Q.1 ||| 2 ^ g_vl T (g_en T p)) := by
          have : (1 : Int32) <<< (nI (g_vl T (g_en T p)) &&& 31) = nI (2 ^ g_vl T (g_en T p)) := ni_shl (by omega)
          rw [this, fa_or]
        rw [if_pos (show ¬ nI (q_b (p_H Q.1) (g_vl T (g_en T p))) = (1 : Int32) from fun z => cb (q_bo.mp z)), zb_some, if_pos (show (0 : Int32) = 0 from rfl), b188_64_eq (d + 3) _ S2 b3.W, if_neg (fun z => z b3.z8.2), b3.2.2.1.2, if_pos zin, if_pos zin, r7, io, cl] at e
        rw [e, if_neg cb]
        obtain ⟨x1, x2⟩ := b3.set (c := 407) (v := nI (p_H Q.1 ||| 2 ^ g_vl T (g_en T p))) (Q' := (P_H Q.1 (p_H Q.1 ||| 2 ^ g_vl T (g_en T p)), Q.2)) (Or.inl ⟨by omega, rfl⟩) (b3.2.2.2.2.set (Or.inr rfl) rfl (Or.inr rfl) ⟨rfl, rfl, rfl, rfl, rfl, rfl⟩ ⟨rfl, rfl, rfl, rfl, rfl⟩) rfl
        exact ⟨_, rfl, a2.trans (b2.trans x1), x2⟩
    · obtain ⟨v, S2, b1, b2⟩ := n2 bb
      have b1' : fI (d + 3) 169 [.ref 396, .int (0 : Int32), .int (nI (p_R Q.1 - 1))] S1 = some (v, S2) := b1
      rw [b1', zb_some, if_pos b2.n8.2, b188_f b2] at e
      rw [e]
      by_cases k2 : g_kd T (g_en T p) = 2
      · rw [if_pos k2] at b2 ⊢
        rw [if_neg (fun z => bb ⟨k2, z⟩)]
        exact ⟨S2, rfl, b2.tr a2⟩
      · rw [if_neg k2] at b2 ⊢
        exact ⟨S2, rfl, b2.tr a2⟩
theorem mQ.co {k : Nat} (h : mQ S b Q) : mQ (sI (sI S 406 (16 * b + (p_c Q.1).length) (nI k)) 405 b (nI ((p_c Q.1).length + 1))) b (P_co Q.1 k, Q.2) := by
  obtain ⟨⟨h1, h2, h3, h4, h5, h6, h7⟩, h8, h9, h10⟩ := h
  have gn : ∀ {c' k'}, c' ≠ 405 → c' ≠ 406 → gI (sI (sI S 406 (16 * b + (p_c Q.1).length) (nI k)) 405 b (nI ((p_c Q.1).length + 1))) c' k' = gI S c' k' := fun {c' k'} z y => by rw [gI_sI, if_neg z, gI_sI, if_neg y]
  have ll : (p_c (P_co Q.1 k)).length = (p_c Q.1).length + 1 := by show (p_c Q.1 ++ [k]).length = _; rw [List.length_append]; rfl
  refine ⟨⟨fun y => by rw [gn (by decide) (by decide)]; exact h1 y, by rw [gn (by decide) (by decide)]; exact h2, by rw [gn (by decide) (by decide)]; exact h3, by rw [gn (by decide) (by decide)]; exact h4, by rw [gn (by decide) (by decide)]; exact h5, by rw [gI_sI, if_pos rfl, if_pos rfl, ll], by rw [gn (by decide) (by decide)]; exact h7⟩, fun i hi => ?_, fun i hi => ?_, fun w hw => ?_⟩
  · obtain ⟨a1, a2, a3⟩ := h8 i hi
    exact ⟨by rw [gn (by decide) (by decide)]; exact a1, by rw [gn (by decide) (by decide)]; exact a2, a3⟩
  · rw [ll] at hi
    rw [gI_sI, if_neg (by decide), gI_sI, if_pos rfl]
    show _ = nI ((p_c Q.1 ++ [k]).getD i 0)
    rw [List.getD_eq_getElem?_getD]
    by_cases c : i = (p_c Q.1).length
    · rw [c, if_pos rfl, List.getElem?_append_right (Nat.le_refl _), Nat.sub_self]; rfl
    · rw [if_neg (by omega), List.getElem?_append_left (by omega), ← List.getD_eq_getElem?_getD]; exact h9 i (by omega)
  · rcases h10 w hw with ⟨a1, a2⟩ | ⟨a1, a2, a3, a4⟩
    · exact Or.inl ⟨a1, by rw [gn (by decide) (by decide)]; exact a2⟩
    · exact Or.inr ⟨a1, by rw [gn (by decide) (by decide)]; exact a2, by rw [gn (by decide) (by decide)]; exact a3, fun i c' z => by rw [gn (by decide) (by decide), gn (by decide) (by decide)]; exact a4 i c' z⟩
theorem b187_f {S' : z_S} {e : Nat × Nat} {y : Int32} (h : mFr S S' b e) : b187_98 d y S' = some S' := by rw [b187_98_eq d y S' h.1.W, if_neg h.n8.1]
theorem m187s (h : mS S T b p Q) (hi : g_iv T p Q) : mRq (fV (d + 4) 187 [.ref 396] S) S T b (g_inn T p Q) := by
  have hb := h.2.2.1.1
  have hP := hi.2.2.1
  have hL := hP.2.2.2.2.1
  have h4 := g_kd_le (T := T) (p := g_en T p)
  have zin : z_in (nI b) 2 := (ni_in (by omega)).mpr hb
  have cl : (nI b).toNatClampNeg = b := nI_clamp (by omega)
  have e := e187 (d + 3) S h.W
  obtain ⟨S1, a1, _, a2, a3⟩ := m180s (d := d) h hi
  rw [a1, zb_some, if_pos (show ¬ (1 : Int32) = 0 by decide)] at e
  unfold g_inn
  by_cases k4 : g_kd T (g_en T p) = 4
  · obtain ⟨S2, b1, b2⟩ := m162s (d := d + 1) a3 k4
    rw [b1, Option.bind_some, if_neg b2.n8.1] at e
    rw [e, if_neg (fun z => by have := (g_nam_i z).1; omega)]
    exact ⟨S2, rfl, b2.tr a2⟩
  rw [m162 (d := d + 2) a3.1 k4, Option.bind_some, if_pos a3.z8.1] at e
  have bad : ∃ S2, b187_40 (d + 3) S1 = some S2 ∧ mFr S S2 b (1, g_ft T (g_en T p)) := by
    obtain ⟨S2, b1, b2⟩ := m159s (d := d + 2) (k := 1) a3 (by decide) (by decide) k4
    have b1' : fV (d + 3) 159 [.ref 396, .int (1 : Int32), .int (gI S1 396 4)] S1 = some S2 := b1
    refine ⟨S2, ?_, by rw [g_ft_n k4]; exact b2.tr a2⟩
    rw [b187_40_eq (d + 3) S1 a3.W, b1', Option.bind_some, b187_49_eq (d + 3) S2 b2.1.W, if_neg b2.n8.1, b187_68_eq (d + 3) 0 S2 b2.1.W, if_pos b2.n8.2, b187_f b2]
  have kk : gI S1 396 3 = (1 : Int32) ↔ g_kd T (g_en T p) = 1 := by
    rw [a3.1.2.2.1, g_km_n k4]
    exact nI_eq (b := 1) (by omega) (by omega)
  by_cases k1 : ¬ g_kd T (g_en T p) = 1
  · obtain ⟨S2, b1, b2⟩ := bad
    rw [if_pos (show ¬ gI S1 396 3 = (1 : Int32) from fun z => k1 (kk.mp z)), b1] at e
    rw [e, if_neg (fun z => k1 (g_nam_i z).1)]
    exact ⟨S2, rfl, b2⟩
  have k1 := Classical.not_not.mp k1
  obtain ⟨v1, v2⟩ := g_wl_vd k1
  rw [if_neg (fun z => z (kk.mpr k1)), a3.1.2.2.2.2.2.2.2 k1, m167 (d := d + 2) a3.W v1 v2, zb_some] at e
  by_cases co : ¬ g_oi (g_wl T (g_en T p)) 24 = none
  · obtain ⟨S2, b1, b2⟩ := bad
    rw [decide_eq_true co, if_neg (show ¬ bI true = (0 : Int32) by decide), b1] at e
    rw [e, if_neg (fun z => co (g_nam_i z).2)]
    exact ⟨S2, rfl, b2⟩
  have nm : g_nam T (g_en T p) = true := by
    unfold g_nam
    rw [decide_eq_true k1, decide_eq_true (Classical.not_not.mp co)]
    rfl
  rw [decide_eq_false co, if_pos (show bI false = (0 : Int32) from rfl), b187_49_eq (d + 3) S1 a3.W, if_pos a3.z8.1, a3.1.2.2.2.2.2.2.2 k1, m168s (d := d + 2) a3 hP v1 v2, zb_some, b187_68_eq (d + 3) _ S1 a3.W, if_neg (fun z => z a3.z8.2)] at e
  rw [if_pos nm]
  have bad3 : ∀ y, ∃ S2, b187_89 (d + 3) y S1 = some S2 ∧ mFr S S2 b (3, g_st T (g_en T p)) := fun y => by
    obtain ⟨S2, b1, b2⟩ := m159s (d := d + 2) (k := 3) a3 (by decide) (by decide) k4
    have b1' : fV (d + 3) 159 [.ref 396, .int (3 : Int32), .int (gI S1 396 4)] S1 = some S2 := b1
    exact ⟨S2, by rw [b187_89_eq (d + 3) y S1 a3.W, b1', Option.bind_some, b187_f b2], b2.tr a2⟩
  cases cw : g_who Q.1 (g_wl T (g_en T p)) with
  | none =>
    obtain ⟨S2, b1, b2⟩ := bad3 (eO none)
    rw [cw, if_pos (show eO none = (-1 : Int32) from rfl), b1] at e
    rw [e]
    exact ⟨S2, rfl, b2⟩
  | some k =>
    have kl := (g_who_i cw).1
    rw [cw, if_neg (fun z => by have := (eO_m1 (o := some k) (fun j z => by cases z; omega)).mp z; cases this), eO_some, m186s (d := d + 2) a3 hP (by omega), zb_some] at e
    show mRq _ S T b (if k ∈ p_c Q.1 then .inl (3, g_st T (g_en T p)) else .inr (g_en T (g_en T p), P_co Q.1 k, Q.2))
    by_cases cm : k ∈ p_c Q.1
    · obtain ⟨S2, b1, b2⟩ := bad3 (nI k)
      rw [decide_eq_true cm, if_neg (show ¬ bI true = (0 : Int32) by decide), b1] at e
      rw [e, if_pos cm]
      exact ⟨S2, rfl, b2⟩
    · have nd : (p_c Q.1 ++ [k]).Nodup := List.nodup_append.mpr ⟨hP.2.2.2.2.2.2.2.2.2.2.1, List.nodup_cons.mpr ⟨(fun z => by cases z), List.nodup_nil⟩, fun a ha b hb z => cm (by rw [List.mem_singleton.mp hb] at z; rw [← z]; exact ha)⟩
      have lt : ∀ c, c ∈ p_c Q.1 ++ [k] → c < p_L Q.1 := fun c hc => by
        rcases List.mem_append.mp hc with z | z
        · exact hP.2.2.2.2.2.2.2.2.2.1 c z
        · rw [List.mem_singleton.mp z]; exact kl
      have len : (p_c Q.1).length < 16 := by
        have := List.Nodup.length_le_of_subset (l₂ := List.range (p_L Q.1)) nd (fun c hc => List.mem_range.mpr (lt c hc))
        rw [List.length_range, List.length_append] at this
        have e1 : [k].length = 1 := rfl
        omega
      obtain ⟨S2, b1, _, b2, b3⟩ := m163s (d := d + 1) a3 hi
      have r5 : gI S2 405 (nI b).toNatClampNeg = nI (p_c Q.1).length := by rw [cl]; exact b3.2.2.2.2.1.2.2.2.2.2.1
      have ad : (16 : Int32) * nI b + nI (p_c Q.1).length = nI (16 * b + (p_c Q.1).length) := by simp (disch := omega) only [ni_lit, nI_add, pk_mul, pk_sub, pk_div, nI_leI, nI_ltI, nI_eq, nI_clamp, ni_in, ni_inm, ni_ltm, ni_mlt, ni_lem, ni_mle, ni_eqm, ni_meq, ni_mm, ni_mmle, ni_bit, ni_shl, ni_clr, fa_or, Nat.add_zero, Nat.zero_add, Nat.zero_mul, Nat.mul_zero, eOn, eOs]
      have cl2 : (nI (16 * b + (p_c Q.1).length)).toNatClampNeg = 16 * b + (p_c Q.1).length := nI_clamp (by omega)
      have g30 : ∀ {x}, gI (sI S2 406 (16 * b + (p_c Q.1).length) x) 396 30 = nI b := fun {x} => by rw [gI_sI, if_neg (by decide)]; exact b3.2.2.1.2
      have g05 : ∀ {x}, gI (sI S2 406 (16 * b + (p_c Q.1).length) x) 405 b = nI (p_c Q.1).length := fun {x} => by rw [gI_sI, if_neg (by decide)]; exact b3.2.2.2.2.1.2.2.2.2.2.1
      rw [decide_eq_false cm, if_pos (show bI false = (0 : Int32) from rfl), b187_98_eq (d + 3) (nI k) S1 a3.W, if_pos a3.z8.1, b1, Option.bind_some, b3.2.2.1.2, if_pos zin, r5, ad, if_pos ((ni_in (by omega)).mpr (by omega)), cl2, g30, if_pos zin, if_pos zin, cl, g05, nI_1] at e
      rw [e, if_neg cm]
      have o : onM (bkD b) S2 (sI (sI S2 406 (16 * b + (p_c Q.1).length) (nI k)) 405 b (nI ((p_c Q.1).length + 1))) := onM_sI (D := bkD b) (c := 405) (k := b) (onM_sI (D := bkD b) (c := 406) (k := 16 * b + (p_c Q.1).length) (onM.refl b3.W) (Or.inr (Or.inl ⟨by omega, by omega, by omega⟩))) (Or.inl ⟨by omega, rfl⟩)
      obtain ⟨x1, x2⟩ := b3.put o b3.2.2.2.2.co rfl
      exact ⟨_, rfl, a2.trans (b2.trans x1), x2⟩
end HP
