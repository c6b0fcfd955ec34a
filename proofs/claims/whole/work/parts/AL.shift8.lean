/-! THE FORMULAS: turns of the reference's loop: a frame ends. -/
section GW
variable {d b w f0 : Nat} {T : List Nat} {S : z_S} {p : Nat} {cs : List Nat} {fs gs : List g_Fr} {G : g_Fr} {k ph pr : Nat} {bg : Bool} {r : List Nat} {o : Nat}
theorem g_rk1 (c : Nat) : 1 ≤ g_rk c := by
  unfold g_rk
  repeat' split
  all_goals omega
theorem m172e (h : mG S T b w f0 p cs ((k, ph, bg, pr, r) :: fs) o true) (hl : fs.length < 19) (ho : f_oc fs + r.length < 499) (hc : cs.length + r.length ≤ 1600) (hn : g_nn r ≤ o) (ho2 : o < 100) : ∃ S', fV (d + 3) 172 [.ref 396, .int (1 : Int32)] S = some S' ∧ onM (g_mD b f0) S S' ∧ mG S' T b w f0 p (cs ++ r) ((k, ph, bg, pr, []) :: fs) (o - g_nn r) true := m172h (d := d) (R := 1) (os := []) (by omega) (fun c hc => by cases hc) (by rw [List.append_nil]; exact h) (fun c _ => g_rk1 c) hl (by rw [List.append_nil]; omega) hc hn ho2
theorem t_fin (h : mG S T b w f0 p cs ((k, ph, bg, pr, r) :: fs) o true) (hk : g_kd T p ≠ 4) (hf : k < 2) (hh : ph ≤ 2) (hl : fs.length < 19) (he : g_ed T p k ph) (ho : f_oc fs + r.length < 499) (hc : cs.length + r.length ≤ 1600) (hn : g_nn r ≤ o) (ho2 : o < 100) : ∃ S', gLo d S = some S' ∧ onM (g_mD b f0) S S' ∧ mG S' T b w f0 p (cs ++ r) ((k, ph, bg, pr, []) :: fs) (o - g_nn r) true := by
  have e := m178_2 (d := d) h hk (by omega) hh hl he
  obtain ⟨S1, a1, a2, a3⟩ := m172e (d := d) h hl ho hc hn ho2
  rw [b178_422_eq (d + 3) (nI fs.length) (nI k) S h.W, if_neg (show ¬ (2 : Int32) ≤ nI k from nI_ge (b := 2) hf (by decide)), h.2.1, if_neg (show ¬ ¬ nI 0 = (0 : Int32) from fun z => z rfl), a1, Option.bind_some] at e
  exact ⟨S1, L_g0 h e a3.W, a2, a3⟩
theorem t_com {k2 : Nat} (hkk : k = 3 ∧ k2 = 4 ∨ k = 6 ∧ k2 = 3) (h : mG S T b w f0 p cs ((k, ph, bg, pr, r) :: fs) o true) (hk : g_kd T p ≠ 4) (hh : ph ≤ 2) (hl : fs.length < 19) (he : g_ed T p k ph) (ho : f_oc fs + r.length < 499) (hc : cs.length + r.length ≤ 1600) (hn : g_nn r ≤ o) (ho2 : o < 100) : (g_sg T p 44 = false → ∃ S', gLo d S = some S' ∧ mFl S S' b f0 (1, g_st T p)) ∧ (g_sg T p 44 = true → ∃ S', gLo d S = gLo d S' ∧ onM (g_mD b f0) S S' ∧ mG S' T b w f0 (g_en T p) (cs ++ r) ((k2, 0, bg, pr, []) :: fs) (o - g_nn r) false) := by
  have e := m178_2 (d := d) h hk (by omega) hh hl he
  have s44 : fI (d + 3) 164 [.ref 396, .int (44 : Int32)] S = _ := o_s (d := d) (c := 44) h hk (by decide)
  have e452 : fI (d + 4) 178 [.ref 396] S = b178_452 (d + 3) (nI fs.length) (nI k) S := by
    rw [e, b178_422_eq (d + 3) (nI fs.length) (nI k) S h.W]
    rcases hkk with ⟨z, _⟩ | ⟨z, _⟩ <;> rw [z]
    · rw [if_pos (by decide), if_pos (by decide)]
    · rw [if_pos (by decide), if_neg (by decide), if_neg (by decide)]
  rw [b178_452_eq (d + 3) (nI fs.length) (nI k) S h.W, s44, zb_some] at e452
  constructor
  · intro z
    have a : fV (d + 3) 159 [.ref 396, .int (1 : Int32), .int (nI (g_st T p))] S = _ := m159 (d := d + 2) (k := 1) (pl := g_st T p) h.W h.2.1
    have fl := m_bl (S := S) (b := b) (f0 := f0) (k := 1) (pl := g_st T p) h.W (by decide) (by decide)
    rw [z, if_neg (show ¬ ¬ bI false = 0 by decide), h.1.2.2.2.1, a, Option.bind_some, b178_470_eq (d + 3) (nI fs.length) (nI k) _ fl.1.W, fl.2.1, if_neg (show ¬ nI 1 ≤ (0 : Int32) by decide)] at e452
    exact ⟨_, L_g0 h e452 fl.1.W, fl⟩
  · intro z
    obtain ⟨S1, a1, a2, a3⟩ := m172e (d := d) h hl ho hc hn ho2
    have zi : z_in (nI fs.length) 20 := (ni_in (by omega)).mpr (by omega)
    have cl : (nI fs.length).toNatClampNeg = fs.length := nI_clamp (by omega)
    obtain ⟨g1, g2⟩ := mG.kn (v := k2) a3
    obtain ⟨g3, g4⟩ := mG.ph (v := 0) g1
    obtain ⟨S3, c1, c2, c3⟩ := m163g (d := d + 1) g3
    obtain ⟨q1, q2⟩ := mG.fg (v := false) c3
    have c1' : fV (d + 3) 163 [.ref 396] (sI (sI S1 413 fs.length (nI k2)) 414 fs.length (0 : Int32)) = some S3 := c1
    have e499 : b178_499 (d + 3) (nI fs.length) (nI k2) (nI fs.length) S1 = some (1, sI S3 396 41 (0 : Int32)) := by
      rw [b178_499_eq (d + 3) (nI fs.length) (nI k2) (nI fs.length) S1 a3.W, if_pos zi, if_pos zi, cl, c1', Option.bind_some]
    rw [z, if_pos (by decide), b178_470_eq (d + 3) (nI fs.length) (nI k) S h.W, h.2.1, if_pos (show nI 0 ≤ (0 : Int32) by decide), a1, Option.bind_some] at e452
    have fin : fI (d + 4) 178 [.ref 396] S = some (1, sI S3 396 41 (0 : Int32)) := by
      rcases hkk with ⟨y1, y2⟩ | ⟨y1, y2⟩
      · rw [y1, if_neg (by decide)] at e452
        rw [y2] at e499
        exact e452.trans e499
      · rw [y1, if_pos (by decide)] at e452
        rw [y2] at e499
        exact e452.trans e499
    exact ⟨_, L_go h fin q2.W q1.2.1, (((a2.trans g2).trans g4).trans c2).trans q2, q1⟩
/-- the last frame goes -/
theorem mG.pop (h : mG S T b w f0 p cs ((k, ph, bg, pr, []) :: G :: gs) o true) (ho : 1 ≤ o) : mG (sI (sI S 396 37 (nI (G :: gs).length)) 396 38 (nI (o - 1))) T b w f0 p cs (G :: gs) (o - 1) true ∧ onM (g_mD b f0) S (sI (sI S 396 37 (nI (G :: gs).length)) 396 38 (nI (o - 1))) := by
  obtain ⟨b1, b2, b3, b4, b5, b6, b7, b8, b9, b10, b11, b12, a1, a2, a3, a4, a5, a6, a7, a8⟩ := h
  have o3 : onM (fun c k => c = 396 ∧ (k = 37 ∨ k = 38)) S (sI (sI S 396 37 (nI (G :: gs).length)) 396 38 (nI (o - 1))) := onM_sI (D := fun c k => c = 396 ∧ (k = 37 ∨ k = 38)) (c := 396) (k := 38) (onM_sI (D := fun c k => c = 396 ∧ (k = 37 ∨ k = 38)) (c := 396) (k := 37) (onM.refl b1.1.1) ⟨rfl, Or.inl rfl⟩) ⟨rfl, Or.inr rfl⟩
  refine ⟨⟨b1.on o3 (fun c k z => by omega), by rw [o3.I (by omega)]; exact b2, b3, by rw [o3.I (by omega)]; exact b4, by rw [o3.I (by omega)]; exact b5, ⟨b6.1, by rw [o3.I (by omega)]; exact b6.2⟩, b7, ⟨by rw [o3.I (by omega)]; exact b8.1, fun i hi hf => by rw [o3.I (by omega), o3.I (by omega)]; exact b8.2 i hi hf⟩, ?_, by rw [o3.I (by omega)]; exact b10, ?_, by rw [o3.I (by omega)]; exact b12, a8.ag (fun c k z1 z2 z3 _ => o3.I (by omega)) fun k hk => o3.I (by omega)⟩, o3.mono fun c k z => by unfold g_mD; omega⟩
  · simp (disch := omega) only [ni_lit, nI_add, pk_mul, pk_sub, pk_div, nI_leI, nI_ltI, nI_eq, nI_clamp, ni_in, ni_inm, ni_ltm, ni_mlt, ni_lem, ni_mle, ni_eqm, ni_meq, ni_mm, ni_mmle, ni_bit, ni_shl, ni_clr, fa_or, Nat.add_zero, Nat.zero_add, Nat.zero_mul, Nat.mul_zero, eOn, eOs, if_true, if_false, not_true_eq_false, not_false_eq_true, ite_true, ite_false, true_and, and_true, false_and, and_false, or_true, true_or, or_false, false_or, Bool.false_eq_true, reduceIte, Bool.not_true, Bool.not_false, and_self, or_self, q_ef, q_et, q_ltt, q_ltf, q_let, q_lef, gIs, gIl, gIr, gLs, gLl, gLr, gPs, gPl, gPr, gLc, gPc, zb_some, Option.bind_some, q_nm, q_pm, q_hm, q_tm, q_sm, q_wm, q_ym, q_lm, q_ua]
  · simp (disch := omega) only [ni_lit, nI_add, pk_mul, pk_sub, pk_div, nI_leI, nI_ltI, nI_eq, nI_clamp, ni_in, ni_inm, ni_ltm, ni_mlt, ni_lem, ni_mle, ni_eqm, ni_meq, ni_mm, ni_mmle, ni_bit, ni_shl, ni_clr, fa_or, Nat.add_zero, Nat.zero_add, Nat.zero_mul, Nat.mul_zero, eOn, eOs, if_true, if_false, not_true_eq_false, not_false_eq_true, ite_true, ite_false, true_and, and_true, false_and, and_false, or_true, true_or, or_false, false_or, Bool.false_eq_true, reduceIte, Bool.not_true, Bool.not_false, and_self, or_self, q_ef, q_et, q_ltt, q_ltf, q_let, q_lef, gIs, gIl, gIr, gLs, gLl, gLr, gPs, gPl, gPr, gLc, gPc, zb_some, Option.bind_some, q_nm, q_pm, q_hm, q_tm, q_sm, q_wm, q_ym, q_lm, q_ua]
theorem t_clo {c : Nat} (hkk : k = 2 ∧ c = 41 ∨ k = 4 ∧ c = 41 ∨ k = 5 ∧ c = 93) (h : mG S T b w f0 p cs ((k, ph, bg, pr, r) :: G :: gs) o true) (hk : g_kd T p ≠ 4) (hh : ph ≤ 2) (hl : gs.length < 18) (he : g_ed T p k ph) (ho : f_oc (G :: gs) + r.length < 499) (hc : cs.length + r.length < 1600) (hn : g_nn r + 1 ≤ o) (ho2 : o < 100) (hpr : k = 4 → 10006 ≤ pr ∧ pr ≤ 10019) : (g_sg T p c = false → ∃ S', gLo d S = some S' ∧ mFl S S' b f0 (1, g_st T p)) ∧ (g_sg T p c = true → ∃ S', gLo d S = gLo d S' ∧ onM (g_mD b f0) S S' ∧ mG S' T b w f0 (g_en T p) (cs ++ r ++ if k = 4 then [pr] else []) ((f_k G, if k = 5 then 2 else f_h G, f_b G, f_p G, f_o G) :: gs) (o - g_nn r - 1) true) := by
  have hlen : (G :: gs).length = gs.length + 1 := rfl
  have e := m178_2 (d := d) h hk (by omega) hh (by omega) he
  have hc256 : c < 256 := by omega
  have sc := o_s (d := d) (c := c) h hk hc256
  have e531 : fI (d + 4) 178 [.ref 396] S = b178_531 (d + 3) (nI (G :: gs).length) (nI k) (nI c) S := by
    rw [e, b178_422_eq (d + 3) (nI (G :: gs).length) (nI k) S h.W]
    rcases hkk with ⟨z, z2⟩ | ⟨z, z2⟩ | ⟨z, z2⟩ <;> rw [z, z2]
    · rw [if_pos (by decide), if_neg (by decide), if_pos (by decide), if_pos (by decide)]; rfl
    · rw [if_pos (by decide), if_neg (by decide), if_pos (by decide), if_pos (by decide)]; rfl
    · rw [if_pos (by decide), if_neg (by decide), if_pos (by decide), if_neg (by decide)]; rfl
  rw [b178_531_eq (d + 3) (nI (G :: gs).length) (nI k) (nI c) S h.W, sc, zb_some] at e531
  constructor
  · intro z
    have a : fV (d + 3) 159 [.ref 396, .int (1 : Int32), .int (nI (g_st T p))] S = _ := m159 (d := d + 2) (k := 1) (pl := g_st T p) h.W h.2.1
    have fl := m_bl (S := S) (b := b) (f0 := f0) (k := 1) (pl := g_st T p) h.W (by decide) (by decide)
    rw [z, if_neg (show ¬ ¬ bI false = 0 by decide), h.1.2.2.2.1, a, Option.bind_some, b178_546_eq (d + 3) (nI (G :: gs).length) (nI k) _ fl.1.W, fl.2.1, if_neg (show ¬ nI 1 ≤ (0 : Int32) by decide)] at e531
    exact ⟨_, L_g0 h e531 fl.1.W, fl⟩
  · intro z
    obtain ⟨S1, a1, a2, a3⟩ := m172e (d := d) h (by omega) ho (by omega) (by omega) ho2
    have h37 : gI S1 396 37 = nI ((G :: gs).length + 1) := a3.2.2.2.2.2.2.2.2.1
    have h38 : gI S1 396 38 = nI (o - g_nn r) := a3.2.2.2.2.2.2.2.2.2.2.1
    have e37 : gI S1 396 37 - (1 : Int32) = nI (G :: gs).length := by rw [h37]; exact pk_sub (b := 1) (by omega)
    have e38 : gI (sI S1 396 37 (nI (G :: gs).length)) 396 38 - (1 : Int32) = nI (o - g_nn r - 1) := by
      rw [gIs, if_pos rfl, if_neg (by decide), h38]
      exact pk_sub (b := 1) (by omega)
    obtain ⟨p1, p2⟩ := a3.pop (by omega)
    have pair : gI (sI (sI S1 396 37 (nI (G :: gs).length)) 396 38 (nI (o - g_nn r - 1))) 416 (G :: gs).length = gI S1 416 (G :: gs).length := by simp (disch := omega) only [ni_lit, nI_add, pk_mul, pk_sub, pk_div, nI_leI, nI_ltI, nI_eq, nI_clamp, ni_in, ni_inm, ni_ltm, ni_mlt, ni_lem, ni_mle, ni_eqm, ni_meq, ni_mm, ni_mmle, ni_bit, ni_shl, ni_clr, fa_or, Nat.add_zero, Nat.zero_add, Nat.zero_mul, Nat.mul_zero, eOn, eOs, if_true, if_false, not_true_eq_false, not_false_eq_true, ite_true, ite_false, true_and, and_true, false_and, and_false, or_true, true_or, or_false, false_or, Bool.false_eq_true, reduceIte, Bool.not_true, Bool.not_false, and_self, or_self, q_ef, q_et, q_ltt, q_ltf, q_let, q_lef, gIs, gIl, gIr, gLs, gLl, gLr, gPs, gPl, gPr, gLc, gPc, zb_some, Option.bind_some, q_nm, q_pm, q_hm, q_tm, q_sm, q_wm, q_ym, q_lm, q_ua]
    rw [z, if_pos (by decide), b178_546_eq (d + 3) (nI (G :: gs).length) (nI k) S h.W, h.2.1, if_pos (show nI 0 ≤ (0 : Int32) by decide), a1, Option.bind_some, e37, e38] at e531
    generalize hS2 : sI (sI S1 396 37 (nI (G :: gs).length)) 396 38 (nI (o - g_nn r - 1)) = S2 at *
    have zi : z_in (nI (G :: gs).length) 20 := (ni_in (by omega)).mpr (by omega)
    have cl : (nI (G :: gs).length).toNatClampNeg = (G :: gs).length := nI_clamp (by omega)
    have tail : ∀ S3 cs3, mG S3 T b w f0 p cs3 (G :: gs) (o - g_nn r - 1) true → ∃ S4, b178_596 (d + 3) (nI k) S3 = some (1, S4) ∧ onM (g_mD b f0) S3 S4 ∧ mG S4 T b w f0 (g_en T p) cs3 ((f_k G, if k = 5 then 2 else f_h G, f_b G, f_p G, f_o G) :: gs) (o - g_nn r - 1) true := fun S3 cs3 g3 => by
      have e596 := b178_596_eq (d + 3) (nI k) S3 g3.W
      obtain ⟨t1, t2, _⟩ := g3.top
      by_cases k5 : k = 5
      · obtain ⟨x1, x2⟩ := mG.ph (v := 2) g3
        obtain ⟨S4, y1, y2, y3⟩ := m163g (d := d + 1) x1
        have y1' : fV (d + 3) 163 [.ref 396] (sI S3 414 gs.length (2 : Int32)) = some S4 := y1
        rw [k5, if_neg (show ¬ ¬ nI 5 = (5 : Int32) from fun q => q rfl), t1, if_pos (t2 (by omega)), nI_clamp (by omega), b178_613_eq (d + 3) (sI S3 414 gs.length (2 : Int32)) x1.W, y1', Option.bind_some] at e596
        rw [k5, if_pos rfl]
        exact ⟨S4, e596, x2.trans y2, y3⟩
      · obtain ⟨S4, y1, y2, y3⟩ := m163g (d := d + 1) g3
        rw [if_pos (show ¬ nI k = (5 : Int32) from fun q => k5 ((nI_eq (b := 5) (by omega) (by omega)).mp q)), b178_613_eq (d + 3) _ g3.W, y1, Option.bind_some] at e596
        rw [if_neg k5]
        exact ⟨S4, e596, y2, y3⟩
    by_cases k4 : k = 4
    · have hpv : gI S1 416 (G :: gs).length = nI (pr - 9975) := a3.2.2.2.2.2.2.2.2.2.2.2.2.2.2.2.1 (by show pr ≠ 0; have := hpr k4; omega)
      have hmc : q_mc w pr (nI (pr - 9975)) (0 : Int32) := by
        have := hpr k4
        unfold q_mc
        rw [if_neg (by omega), if_neg (by omega), if_neg (by omega), if_neg (by omega), show pr - 10000 + 25 = pr - 9975 by omega]
      obtain ⟨S3, x1, x2, x4, x3⟩ := m170g (d := d + 2) p1 (by rw [List.length_append]; omega) hmc
      obtain ⟨S4, y1, y2, y3⟩ := tail S3 _ x3
      rw [k4, if_neg (show ¬ ¬ nI 4 = (4 : Int32) from fun q => q rfl), if_pos zi, cl, pair, hpv, x1, Option.bind_some] at e531
      rw [k4] at y1
      refine ⟨S4, L_go h (e531.trans y1) y3.W y3.2.1, ((a2.trans p2).trans x2).trans y2, ?_⟩
      rw [if_pos k4]
      exact y3
    · obtain ⟨S4, y1, y2, y3⟩ := tail S2 _ p1
      rw [if_pos (show ¬ nI k = (4 : Int32) from fun q => k4 ((nI_eq (b := 4) (by omega) (by omega)).mp q))] at e531
      refine ⟨S4, L_go h (e531.trans y1) y3.W y3.2.1, (a2.trans p2).trans y2, ?_⟩
      rw [if_neg k4, List.append_nil]
      exact y3
end GW
