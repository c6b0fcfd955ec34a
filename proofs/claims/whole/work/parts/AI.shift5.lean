/-! THE FORMULAS: turns of the reference's loop: a part. -/
section GT
variable {d b w f0 : Nat} {T : List Nat} {S : z_S} {p : Nat} {cs : List Nat} {fs : List g_Fr} {F : g_Fr} {o : Nat} {od : Bool}
/-- here no fact of its own kind begins -/
def g_ns (T : List Nat) (p : Nat) (F : g_Fr) : Prop := (g_tst (f_k F) && f_b F) = true → g_ow T p 20 = false ∧ g_sg T p 91 = false ∧ g_ow T p 21 = false
theorem m177_2 (h : mG S T b w f0 p cs (F :: fs) o false) (hk : g_kd T p ≠ 4) (hf : f_k F ≤ 6) (hl : fs.length < 20) (hn : g_ns T p F) : ∃ S1, fI (d + 4) 177 [.ref 396] S = b177_171 (d + 3) S1 ∧ onM (g_mD b f0) S S1 ∧ mG S1 T b w f0 p cs ((f_k F, f_h F, false, f_p F, f_o F) :: fs) o false := by
  have e := m177_0 (d := d) h hk hf hl
  unfold g_ns at hn
  generalize (g_tst (f_k F) && f_b F) = fi at *
  rw [m177_1 (fi := fi) h hk hl (fun z => (hn z).1), b177_110_eq (d + 3) (nI fs.length) (bI fi) S h.W] at e
  obtain ⟨g1, g2⟩ := mG.bg (v := false) h
  have zi : z_in (nI fs.length) 20 := (ni_in (by omega)).mpr hl
  have cl : (nI fs.length).toNatClampNeg = fs.length := nI_clamp (by omega)
  have g1' : mG (sI S 415 fs.length (0 : Int32)) T b w f0 p cs ((f_k F, f_h F, false, f_p F, f_o F) :: fs) o false := g1
  refine ⟨sI S 415 fs.length (0 : Int32), ?_, g2, g1'⟩
  rw [if_pos ⟨zi, Or.inl rfl⟩, cl] at e
  have e2 := b177_137_eq (d + 3) (nI fs.length) (bI fi) _ g1'.W
  cases fi with
  | false =>
    rw [if_pos (by decide)] at e e2
    exact e.trans e2
  | true =>
    have s91 : fI (d + 3) 164 [.ref 396, .int (91 : Int32)] (sI S 415 fs.length (0 : Int32)) = _ := o_s (d := d) (c := 91) g1' hk (by decide)
    have w21 : fI (d + 3) 165 [.ref 396, .long (6384748 : Int64)] (sI S 415 fs.length (0 : Int32)) = _ := o_w (d := d) (i := 21) g1' hk (by decide) (by decide +kernel)
    obtain ⟨_, n2, n3⟩ := hn rfl
    rw [if_neg (by decide), s91, zb_some, n2, if_pos (by decide)] at e
    rw [if_neg (by decide), w21, zb_some, n3, if_pos (by decide)] at e2
    exact e.trans e2
theorem t_par (h : mG S T b w f0 p cs (F :: fs) o false) (hf : f_k F ≤ 6) (hl : fs.length < 19) (hn : g_ns T p F) (hw : g_sg T p 40 = true) : (o = 7 → ∃ S', gLo d S = some S' ∧ mFl S S' b f0 (5, g_st T p)) ∧ (o < 7 → ∃ S', gLo d S = gLo d S' ∧ onM (g_mD b f0) S S' ∧ mG S' T b w f0 (g_en T p) cs ((2, 0, true, 0, []) :: (f_k F, f_h F, false, f_p F, f_o F) :: fs) (o + 1) false) := by
  have hk : g_kd T p ≠ 4 := by rw [g_sg_k hw]; decide
  obtain ⟨S1, e, g2, g1⟩ := m177_2 (d := d) h hk hf (by omega) hn
  have s40 : fI (d + 3) 164 [.ref 396, .int (40 : Int32)] S1 = _ := o_s (d := d) (c := 40) g1 hk (by decide)
  rw [b177_171_eq (d + 3) S1 g1.W, s40, zb_some, hw, if_neg (by decide)] at e
  constructor
  · intro ho
    obtain ⟨S2, a1, a2⟩ := m175f (d := d) (kd := 2) g1 ho
    have a1' : fV (d + 3) 175 [.ref 396, .int (2 : Int32)] S1 = some S2 := a1
    rw [a1', Option.bind_some] at e
    exact L_of (v := false) h e (a2.tr g2)
  · intro ho
    obtain ⟨S2, a1, a2, a3⟩ := m175g (d := d) (kd := 2) g1 ho (by have : ((f_k F, f_h F, false, f_p F, f_o F) :: fs : List g_Fr).length = fs.length + 1 := rfl; omega)
    have a1' : fV (d + 3) 175 [.ref 396, .int (2 : Int32)] S1 = some S2 := a1
    rw [a1', Option.bind_some] at e
    obtain ⟨S', q1, q2, q3⟩ := L_op (v := false) h e a3
    exact ⟨S', q1, (g2.trans a2).trans q2, q3⟩
/-- faults stay -/
theorem mFl.b175 {S1 : z_S} {x : Nat × Nat} {y : Int32} (h : mFl S S1 b f0 x) : fV (d + 3) 175 [.ref 396, .int y] S1 = some S1 := by
  obtain ⟨a1, a2, a3, a4, a5⟩ := h
  rw [e175 (d + 2) y S1 a1.W, m159n (d := d + 1) a1.W a2 a4 a5, Option.bind_some, b175_18_eq (d + 2) y S1 a1.W, a2, if_neg (show ¬ nI x.1 ≤ (0 : Int32) from fun z => by have := (nI_leI (b := 0) (by omega) (by omega)).mp z; omega), ite_self]
theorem mFl.e289 {S1 : z_S} {x : Nat × Nat} {y z : Int32} (h : mFl S S1 b f0 x) : b177_289 (d + 3) y z S1 = some (0, S1) := by
  rw [b177_289_eq (d + 3) y z S1 h.1.W, h.b175, Option.bind_some, h.2.1, if_pos (show ¬ nI x.1 = (0 : Int32) from fun z => by have := (nI_eq (b := 0) (by have := h.2.2.2.2; omega) (by omega)).mp z; have := h.2.2.2.1; omega)]
theorem t_pair {i c kd : Nat} (hic : i = 22 ∧ c = 10011 ∧ kd = 3 ∨ i = 23 ∧ c = 10012 ∧ kd = 3 ∨ i = 17 ∧ c = 10019 ∧ kd = 6) (h : mG S T b w f0 p cs (F :: fs) o false) (hf : f_k F ≤ 6) (hl : fs.length < 18) (hn : g_ns T p F) (hw : g_ow T p i = true) : (g_sg T (g_en T p) 40 = false → ∃ S', gLo d S = some S' ∧ mFl S S' b f0 (1, g_ft T (g_en T p))) ∧ (g_sg T (g_en T p) 40 = true → o = 7 → ∃ S', gLo d S = some S' ∧ mFl S S' b f0 (5, g_st T (g_en T p))) ∧ (g_sg T (g_en T p) 40 = true → o < 7 → ∃ S', gLo d S = gLo d S' ∧ onM (g_mD b f0) S S' ∧ mG S' T b w f0 (g_en T (g_en T p)) cs ((kd, 0, true, c, []) :: (f_k F, f_h F, false, f_p F, f_o F) :: fs) (o + 1) false) := by
  have hk1 := g_ow_k hw
  have hk : g_kd T p ≠ 4 := by omega
  obtain ⟨S1, e, g2, g1⟩ := m177_2 (d := d) h hk hf (by omega) hn
  have s40 : fI (d + 3) 164 [.ref 396, .int (40 : Int32)] S1 = _ := o_s (d := d) (c := 40) g1 hk (by decide)
  have w22 : fI (d + 3) 165 [.ref 396, .long (7170414 : Int64)] S1 = _ := o_w (d := d) (i := 22) g1 hk (by decide) (by decide +kernel)
  have w23 : fI (d + 3) 165 [.ref 396, .long (7168376 : Int64)] S1 = _ := o_w (d := d) (i := 23) g1 hk (by decide) (by decide +kernel)
  have w17 : fI (d + 3) 165 [.ref 396, .long (26982 : Int64)] S1 = _ := o_w (d := d) (i := 17) g1 hk (by decide) (by decide +kernel)
  have hn40 : g_sg T p 40 = false := by unfold g_sg; rw [decide_eq_false (by omega), Bool.false_and]
  have hwi : g_wl T p = g_o i := by
    unfold g_ow at hw
    rw [Bool.and_eq_true, decide_eq_true_eq, decide_eq_true_eq] at hw
    exact hw.2
  have hoth : ∀ j, g_o i ≠ g_o j → g_ow T p j = false := fun j hj => by
    unfold g_ow
    rw [hwi, decide_eq_false hj, Bool.and_false]
  have e249 : fI (d + 4) 177 [.ref 396] S = b177_249 (d + 3) (nI (c - 9975)) S1 := by
    rw [e, b177_171_eq (d + 3) S1 g1.W, s40, zb_some, hn40, if_pos (by decide), w22, zb_some, w23, zb_some, w17, zb_some]
    have e217 := b177_217_eq (d + 3) S1 g1.W
    rw [w22, zb_some, w23, zb_some] at e217
    rcases hic with ⟨z1, z2, z3⟩ | ⟨z1, z2, z3⟩ | ⟨z1, z2, z3⟩ <;> rw [z1] at hw hoth <;> rw [z2]
    · rw [hw, if_neg (by decide)] at e217
      rw [hw, if_pos (by decide), e217]
      rfl
    · have n22 := hoth 22 (by decide +kernel)
      rw [n22, if_pos (by decide), hw, if_neg (by decide)] at e217
      rw [n22, if_neg (by decide), hw, if_pos (by decide), e217]
      rfl
    · have n22 := hoth 22 (by decide +kernel)
      have n23 := hoth 23 (by decide +kernel)
      rw [n22, if_pos (by decide), n23, if_pos (by decide)] at e217
      rw [n22, if_neg (by decide), n23, if_neg (by decide), hw, if_neg (by decide), e217]
      rfl
  obtain ⟨S2, a1, a2, a3⟩ := m163g (d := d + 1) g1
  have e2 := b177_249_eq (d + 3) (nI (c - 9975)) S1 g1.W
  rw [a1, Option.bind_some] at e2
  have e276 : ∀ S3, z_W S3 → b177_276 (d + 3) (nI (c - 9975)) S3 = b177_289 (d + 3) (nI (c - 9975)) (nI kd) S3 := fun S3 w3 => by
    rw [b177_276_eq (d + 3) (nI (c - 9975)) S3 w3]
    rcases hic with ⟨z1, z2, z3⟩ | ⟨z1, z2, z3⟩ | ⟨z1, z2, z3⟩ <;> rw [z2, z3]
    · rw [if_pos (by decide)]; rfl
    · rw [if_pos (by decide)]; rfl
    · rw [if_neg (by decide)]; rfl
  have hen := g_en_b h.1.2.1
  by_cases c4 : g_kd T (g_en T p) = 4
  · have hs : g_sg T (g_en T p) 40 = false := by unfold g_sg; rw [decide_eq_false (by omega), Bool.false_and]
    have fl := m_bl (S := S2) (b := b) (f0 := f0) (k := 1) (pl := g_ft T (g_en T p)) a3.W (by decide) (by decide)
    rw [m162f (d := d + 1) a3.1 a3.2.1 c4, Option.bind_some] at e2
    generalize hS3 : sI (sI S2 396 8 (nI 1)) 396 9 (nI (g_ft T (g_en T p))) = S3 at *
    have w3 := fl.1.W
    have k3 : gI S3 396 3 = gI S2 396 3 := by rw [← hS3]; simp (disch := omega) only [ni_lit, nI_add, pk_mul, pk_sub, pk_div, nI_leI, nI_ltI, nI_eq, nI_clamp, ni_in, ni_inm, ni_ltm, ni_mlt, ni_lem, ni_mle, ni_eqm, ni_meq, ni_mm, ni_mmle, ni_bit, ni_shl, ni_clr, fa_or, Nat.add_zero, Nat.zero_add, Nat.zero_mul, Nat.mul_zero, eOn, eOs, if_true, if_false, not_true_eq_false, not_false_eq_true, ite_true, ite_false, true_and, and_true, false_and, and_false, or_true, true_or, or_false, false_or, Bool.false_eq_true, reduceIte, Bool.not_true, Bool.not_false, and_self, or_self, q_ef, q_et, q_ltt, q_ltf, q_let, q_lef, gIs, gIl, gIr, gLs, gLl, gLr, gPs, gPl, gPr, gLc, gPc, zb_some, Option.bind_some, q_nm, q_pm, q_hm, q_tm, q_sm, q_wm, q_ym, q_lm, q_ua]
    have s3 : fI (d + 3) 164 [.ref 396, .int (40 : Int32)] S3 = some (0, S3) := by
      have km : g_km T (g_en T p) = 1 ∨ g_km T (g_en T p) = 2 := by unfold g_km; rw [if_pos c4]; split <;> omega
      rw [e164 (d + 2) 40 S3 w3, b164_20_eq (d + 2) S3 w3, k3, a3.1.2.2.1, if_pos (show ¬ nI (g_km T (g_en T p)) = (3 : Int32) from fun z => by have := (nI_eq (b := 3) (by omega) (by omega)).mp z; omega)]
    rw [s3, zb_some, if_neg (fun z => z rfl), m159n (d := d + 2) w3 fl.2.1 (show 0 < 1 by decide) (show 1 < 100 by decide), Option.bind_some, e276 S3 w3, fl.e289] at e2
    refine ⟨fun _ => L_of (v := false) h (e249.trans e2) (fl.tr (g2.trans a2)), fun z => ?_, fun z => ?_⟩
    · rw [hs] at z; cases z
    · rw [hs] at z; cases z
  · have t40 : fI (d + 3) 164 [.ref 396, .int (40 : Int32)] S2 = _ := o_s (d := d) (c := 40) a3 c4 (by decide)
    rw [m162 (d := d + 2) a3.1 c4, Option.bind_some, t40, zb_some] at e2
    refine ⟨fun z => ?_, fun z ho => ?_, fun z ho => ?_⟩
    · have a : fV (d + 3) 159 [.ref 396, .int (1 : Int32), .int (nI (g_st T (g_en T p)))] S2 = _ := m159 (d := d + 2) (k := 1) (pl := g_st T (g_en T p)) a3.W a3.2.1
      have fl := m_bl (S := S2) (b := b) (f0 := f0) (k := 1) (pl := g_st T (g_en T p)) a3.W (by decide) (by decide)
      rw [z, if_neg (show ¬ ¬ bI false = 0 by decide), a3.1.2.2.2.1, a, Option.bind_some, e276 _ fl.1.W, fl.e289] at e2
      rw [g_ft_n c4]
      exact L_of (v := false) h (e249.trans e2) (fl.tr (g2.trans a2))
    · rw [z, if_pos (by decide), e276 S2 a3.W, b177_289_eq (d + 3) (nI (c - 9975)) (nI kd) S2 a3.W] at e2
      obtain ⟨S3, c1, c2⟩ := m175f (d := d) (kd := kd) a3 ho
      rw [c1, Option.bind_some, c2.2.1, if_pos (show ¬ nI 5 = (0 : Int32) by decide)] at e2
      exact L_of (v := false) h (e249.trans e2) (c2.tr (g2.trans a2))
    · rw [z, if_pos (by decide), e276 S2 a3.W, b177_289_eq (d + 3) (nI (c - 9975)) (nI kd) S2 a3.W] at e2
      have hl2 : ((f_k F, f_h F, false, f_p F, f_o F) :: fs : List g_Fr).length = fs.length + 1 := rfl
      obtain ⟨S3, c1, c2, c3⟩ := m175g (d := d) (kd := kd) a3 ho (by omega)
      obtain ⟨t1, t2, _⟩ := c3.top
      obtain ⟨q1, q2⟩ := mG.pa (v := c) c3
      have cl : (nI ((f_k F, f_h F, false, f_p F, f_o F) :: fs : List g_Fr).length).toNatClampNeg = ((f_k F, f_h F, false, f_p F, f_o F) :: fs : List g_Fr).length := nI_clamp (by omega)
      rw [c1, Option.bind_some, c3.2.1, if_neg (show ¬ ¬ nI 0 = (0 : Int32) from fun z => z rfl), t1, if_pos (t2 (by omega)), cl] at e2
      obtain ⟨S', r1, r2, r3⟩ := L_op (v := false) h (e249.trans e2) q1
      exact ⟨S', r1, (((g2.trans a2).trans c2).trans q2).trans r2, r3⟩
theorem g_own_c (w : Nat) : g_own w = 15 ∨ g_own w = 1 ∨ g_own w = 16 := by
  unfold g_own
  split
  · exact Or.inl rfl
  · split
    · exact Or.inr (Or.inl rfl)
    · exact Or.inr (Or.inr rfl)
theorem t_val (h : mG S T b w f0 p cs (F :: fs) o false) (hf : f_k F ≤ 6) (hl : fs.length < 20) (hn : g_ns T p F) (hk : g_kd T p ≠ 4) (h40 : g_sg T p 40 = false) (h22 : g_ow T p 22 = false) (h23 : g_ow T p 23 = false) (h17 : g_ow T p 17 = false) : (cs.length < 1600 → g_kd T p = 2 → ∃ S', gLo d S = gLo d S' ∧ onM (g_mD b f0) S S' ∧ mG S' T b w f0 (g_en T p) (cs ++ [g_vl T p]) ((f_k F, f_h F, false, f_p F, f_o F) :: fs) o true) ∧ (cs.length < 1600 → g_kd T p ≠ 2 → g_var T w p ≠ 0 → ∃ S', gLo d S = gLo d S' ∧ onM (g_mD b f0) S S' ∧ mG S' T b w f0 (g_en T p) (cs ++ [g_var T w p]) ((f_k F, f_h F, false, f_p F, f_o F) :: fs) o true) ∧ (g_kd T p ≠ 2 → g_var T w p = 0 → ∃ S', gLo d S = some S' ∧ mFl S S' b f0 (1, g_ft T p)) := by
  obtain ⟨S1, e, g2, g1⟩ := m177_2 (d := d) h hk hf hl hn
  have s40 : fI (d + 3) 164 [.ref 396, .int (40 : Int32)] S1 = _ := o_s (d := d) (c := 40) g1 hk (by decide)
  have w22 : fI (d + 3) 165 [.ref 396, .long (7170414 : Int64)] S1 = _ := o_w (d := d) (i := 22) g1 hk (by decide) (by decide +kernel)
  have w23 : fI (d + 3) 165 [.ref 396, .long (7168376 : Int64)] S1 = _ := o_w (d := d) (i := 23) g1 hk (by decide) (by decide +kernel)
  have w17 : fI (d + 3) 165 [.ref 396, .long (26982 : Int64)] S1 = _ := o_w (d := d) (i := 17) g1 hk (by decide) (by decide +kernel)
  have w11 : fI (d + 3) 165 [.ref 396, .long (474214787188 : Int64)] S1 = _ := o_w (d := d) (i := 11) g1 hk (by decide) (by decide +kernel)
  have w12 : fI (d + 3) 165 [.ref 396, .long (1919905645 : Int64)] S1 = _ := o_w (d := d) (i := 12) g1 hk (by decide) (by decide +kernel)
  have w13 : fI (d + 3) 165 [.ref 396, .long (121398985520243 : Int64)] S1 = _ := o_w (d := d) (i := 13) g1 hk (by decide) (by decide +kernel)
  have w14 : fI (d + 3) 165 [.ref 396, .long (435627783289 : Int64)] S1 = _ := o_w (d := d) (i := 14) g1 hk (by decide) (by decide +kernel)
  have w15 : fI (d + 3) 165 [.ref 396, .long (1937007984 : Int64)] S1 = _ := o_w (d := d) (i := 15) g1 hk (by decide) (by decide +kernel)
  have w1 : fI (d + 3) 165 [.ref 396, .long (422608528232 : Int64)] S1 = _ := o_w (d := d) (i := 1) g1 hk (by decide) (by decide +kernel)
  have w16 : fI (d + 3) 165 [.ref 396, .long (439855772532 : Int64)] S1 = _ := o_w (d := d) (i := 16) g1 hk (by decide) (by decide +kernel)
  have hw3 := g1.2.2.2.2.2.1
  have h31 := g1.2.2.2.2.1
  rw [b177_171_eq (d + 3) S1 g1.W, s40, zb_some, h40, if_pos (by decide), w22, zb_some, h22, if_neg (show ¬ ¬ bI false = 0 by decide), w23, zb_some, h23, if_neg (show ¬ ¬ bI false = 0 by decide), w17, zb_some, h17, if_pos (show bI false = 0 by decide), g1.1.2.2.1, g_km_n hk, w11, zb_some, w12, zb_some, w13, zb_some, w14, zb_some, w15, zb_some, w1, zb_some, w16, zb_some] at e
  have h4 := g_kd_le (T := T) (p := p)
  -- a code that stands
  have ok : ∀ n c, cs.length < 1600 → n < 8 → q_mc w c (nI n) (gI S1 396 6) → (n < 5 ∨ w = n - 5) → ∃ S2, b177_426 (d + 3) (nI n) S1 = some (1, S2) ∧ onM (g_mD b f0) S1 S2 ∧ mG S2 T b w f0 (g_en T p) (cs ++ [c]) ((f_k F, f_h F, false, f_p F, f_o F) :: fs) o false := fun n c hc hn8 hmc hlaw => by
    obtain ⟨S2, a1, a2, a4, a3⟩ := m170g (d := d + 2) g1 hc hmc
    obtain ⟨S3, b1, b2, b3⟩ := m163g (d := d + 1) a3
    refine ⟨S3, ?_, a2.trans b2, b3⟩
    have e44 : b177_444 (d + 3) (nI n) S1 = some (1, S3) := by
      rw [b177_444_eq (d + 3) (nI n) S1 g1.W, if_pos (show ¬ nI n = (-1 : Int32) from fun z => (ni_eqm (a := n) (by omega)).mp z), b177_458_eq (d + 3) (nI n) S1 g1.W, g1.2.1, if_pos (show nI 0 ≤ (0 : Int32) by decide), a1, Option.bind_some, b1, Option.bind_some]
    rw [b177_426_eq (d + 3) (nI n) S1 g1.W]
    by_cases z : n < 5
    · rw [if_pos (show nI n < (5 : Int32) from nI_lt (b := 5) z (by decide))]; exact e44
    · have hlw : w = n - 5 := by omega
      have es : nI n - (5 : Int32) = nI (n - 5) := pk_sub (b := 5) (by omega)
      rw [if_neg (show ¬ nI n < (5 : Int32) from fun y => z ((nI_ltI (b := 5) (by omega) (by decide)).mp y)), h31, es, hlw, if_pos rfl]; exact e44
  have bad : ∃ S2, b177_444 (d + 3) (-1) S1 = some (1, S2) ∧ mFl S1 S2 b f0 (1, g_st T p) := by
    have a : fV (d + 3) 159 [.ref 396, .int (1 : Int32), .int (nI (g_st T p))] S1 = _ := m159 (d := d + 2) (k := 1) (pl := g_st T p) g1.W g1.2.1
    have fl := m_bl (S := S1) (b := b) (f0 := f0) (k := 1) (pl := g_st T p) g1.W (by decide) (by decide)
    rw [b177_444_eq (d + 3) (-1) S1 g1.W, if_neg (fun z => z rfl), g1.1.2.2.2.1, a, Option.bind_some, b177_458_eq (d + 3) (-1) _ fl.1.W, fl.2.1, if_neg (show ¬ nI 1 ≤ (0 : Int32) by decide)]
    exact ⟨_, rfl, fl⟩
  have badl : ∀ n, 5 ≤ n → n < 8 → w ≠ n - 5 → b177_426 (d + 3) (nI n) S1 = b177_444 (d + 3) (-1) S1 := fun n n5 n8 hlw => by
    have es : nI n - (5 : Int32) = nI (n - 5) := pk_sub (b := 5) (by omega)
    rw [b177_426_eq (d + 3) (nI n) S1 g1.W, if_neg (show ¬ nI n < (5 : Int32) from fun y => by have := (nI_ltI (b := 5) (by omega) (by decide)).mp y; omega), h31, es, if_neg (fun z => hlw ((nI_eq (by omega) (by omega)).mp z))]
  have okL : ∀ c, (∃ S2, fI (d + 4) 177 [.ref 396] S = some (1, S2) ∧ onM (g_mD b f0) S1 S2 ∧ mG S2 T b w f0 (g_en T p) (cs ++ [c]) ((f_k F, f_h F, false, f_p F, f_o F) :: fs) o false) → ∃ S', gLo d S = gLo d S' ∧ onM (g_mD b f0) S S' ∧ mG S' T b w f0 (g_en T p) (cs ++ [c]) ((f_k F, f_h F, false, f_p F, f_o F) :: fs) o true := fun c ⟨S2, x1, x2, x3⟩ => by
    obtain ⟨S', q1, q2, q3⟩ := L_op (v := true) h x1 x3
    exact ⟨S', q1, (g2.trans x2).trans q2, q3⟩
  refine ⟨fun hc z => ?_, fun hc z zv => ?_, fun z zv => ?_⟩
  · have hv := g_vl_lt z
    rw [z, if_neg (show ¬ ¬ nI 2 = (2 : Int32) from fun y => y rfl)] at e
    have h6 := g1.1.2.2.2.2.2.2.1 (Or.inl z)
    obtain ⟨S2, x1, x2, x3⟩ := ok 0 (g_vl T p) hc (by decide) (by unfold q_mc; rw [if_pos hv]; exact ⟨rfl, h6⟩) (Or.inl (by decide))
    exact okL _ ⟨S2, e.trans x1, x2, x3⟩
  · rw [if_pos (show ¬ nI (g_kd T p) = (2 : Int32) from fun y => z ((nI_eq (b := 2) (by omega) (by omega)).mp y))] at e
    obtain ⟨k1, _, _⟩ := g_var_k zv
    have uniq : ∀ i j, i < 24 → j < 24 → g_ow T p i = true → i ≠ j → g_ow T p j = false := fun i j hi hj hw hij => by
      cases hb : g_ow T p j with
      | false => rfl
      | true =>
        exfalso
        unfold g_ow at hw hb
        rw [Bool.and_eq_true, decide_eq_true_eq, decide_eq_true_eq] at hw hb
        have a := (g_oi_i hi (g_wl T p)).mpr hw.2
        have c := (g_oi_i hj (g_wl T p)).mpr hb.2
        rw [a] at c
        exact hij (Option.some.inj c)
    refine okL _ ?_
    unfold g_var at zv ⊢
    by_cases c0 : g_ow T p (g_own w) = true
    · rw [if_pos c0]
      have hoc := g_own_c w
      have hown : g_own w < 24 := by omega
      have hmc : q_mc w 10005 (nI (5 + w)) (gI S1 396 6) := by unfold q_mc; rw [if_neg (by decide), if_neg (by decide), if_neg (by decide), if_pos rfl]
      obtain ⟨S2, x1, x2, x3⟩ := ok (5 + w) 10005 hc (by omega) hmc (Or.inr (by omega))
      refine ⟨S2, ?_, x2, x3⟩
      rw [e, uniq _ 11 hown (by decide) c0 (by omega), if_pos (show bI false = 0 by decide), uniq _ 12 hown (by decide) c0 (by omega), if_pos (show bI false = 0 by decide), uniq _ 13 hown (by decide) c0 (by omega), if_pos (show bI false = 0 by decide), uniq _ 14 hown (by decide) c0 (by omega), if_pos (show bI false = 0 by decide)]
      have hw012 : w = 0 ∨ w = 1 ∨ w = 2 := by omega
      rcases hw012 with q | q | q
      · have c0' : g_ow T p 15 = true := by rw [q] at c0; exact c0
        rw [c0', if_neg (by decide)]
        rw [q] at x1
        exact x1
      · have c0' : g_ow T p 1 = true := by rw [q] at c0; exact c0
        rw [uniq 1 15 (by decide) (by decide) c0' (by decide), if_pos (by decide), c0', if_neg (by decide)]
        rw [q] at x1
        exact x1
      · have c0' : g_ow T p 16 = true := by rw [q] at c0; exact c0
        rw [uniq 16 15 (by decide) (by decide) c0' (by decide), if_pos (by decide), uniq 16 1 (by decide) (by decide) c0' (by decide), if_pos (by decide), c0', if_neg (by decide)]
        rw [q] at x1
        exact x1
    rw [if_neg c0] at zv ⊢
    have hmc : ∀ n, 1 ≤ n → n ≤ 4 → q_mc w (10000 + n) (nI n) (gI S1 396 6) := fun n n1 n2 => by unfold q_mc; rw [if_neg (by omega), if_neg (by omega), if_pos (by omega), show 10000 + n - 10000 = n by omega]
    by_cases c1 : g_ow T p 11 = true
    · rw [if_pos c1]
      obtain ⟨S2, x1, x2, x3⟩ := ok 1 10001 hc (by decide) (hmc 1 (by decide) (by decide)) (Or.inl (by decide))
      refine ⟨S2, ?_, x2, x3⟩
      rw [e, c1, if_neg (by decide)]; exact x1
    rw [if_neg c1] at zv ⊢
    have c1' : g_ow T p 11 = false := by simpa using c1
    by_cases c2 : g_ow T p 12 = true
    · rw [if_pos c2]
      obtain ⟨S2, x1, x2, x3⟩ := ok 2 10002 hc (by decide) (hmc 2 (by decide) (by decide)) (Or.inl (by decide))
      refine ⟨S2, ?_, x2, x3⟩
      rw [e, c1', if_pos (by decide), c2, if_neg (by decide)]; exact x1
    rw [if_neg c2] at zv ⊢
    have c2' : g_ow T p 12 = false := by simpa using c2
    by_cases c3 : g_ow T p 13 = true
    · rw [if_pos c3]
      obtain ⟨S2, x1, x2, x3⟩ := ok 3 10003 hc (by decide) (hmc 3 (by decide) (by decide)) (Or.inl (by decide))
      refine ⟨S2, ?_, x2, x3⟩
      rw [e, c1', if_pos (by decide), c2', if_pos (by decide), c3, if_neg (by decide)]; exact x1
    rw [if_neg c3] at zv ⊢
    have c3' : g_ow T p 13 = false := by simpa using c3
    by_cases c4 : g_ow T p 14 = true
    · rw [if_pos c4]
      obtain ⟨S2, x1, x2, x3⟩ := ok 4 10004 hc (by decide) (hmc 4 (by decide) (by decide)) (Or.inl (by decide))
      refine ⟨S2, ?_, x2, x3⟩
      rw [e, c1', if_pos (by decide), c2', if_pos (by decide), c3', if_pos (by decide), c4, if_neg (by decide)]; exact x1
    rw [if_neg c4] at zv
    exact absurd rfl zv
  · rw [if_pos (show ¬ nI (g_kd T p) = (2 : Int32) from fun y => z ((nI_eq (b := 2) (by omega) (by omega)).mp y))] at e
    obtain ⟨S2, x1, x2⟩ := bad
    have fin : fI (d + 4) 177 [.ref 396] S = some (1, S2) := by
      unfold g_var at zv
      have n0 : g_ow T p (g_own w) = false := by
        cases hb : g_ow T p (g_own w) with
        | false => rfl
        | true => rw [hb, if_pos rfl] at zv; cases zv
      rw [n0, if_neg (by decide)] at zv
      have n1 : g_ow T p 11 = false := by
        cases hb : g_ow T p 11 with
        | false => rfl
        | true => rw [hb, if_pos rfl] at zv; cases zv
      rw [n1, if_neg (by decide)] at zv
      have n2 : g_ow T p 12 = false := by
        cases hb : g_ow T p 12 with
        | false => rfl
        | true => rw [hb, if_pos rfl] at zv; cases zv
      rw [n2, if_neg (by decide)] at zv
      have n3 : g_ow T p 13 = false := by
        cases hb : g_ow T p 13 with
        | false => rfl
        | true => rw [hb, if_pos rfl] at zv; cases zv
      rw [n3, if_neg (by decide)] at zv
      have n4 : g_ow T p 14 = false := by
        cases hb : g_ow T p 14 with
        | false => rfl
        | true => rw [hb, if_pos rfl] at zv; cases zv
      rw [e, n1, if_pos (show bI false = 0 by decide), n2, if_pos (show bI false = 0 by decide), n3, if_pos (show bI false = 0 by decide), n4, if_pos (show bI false = 0 by decide)]
      have b5 := badl 5 (by decide) (by decide)
      have b6 := badl 6 (by decide) (by decide)
      have b7 := badl 7 (by decide) (by decide)
      have bm : b177_426 (d + 3) (-1) S1 = b177_444 (d + 3) (-1) S1 := by rw [b177_426_eq (d + 3) (-1) S1 g1.W, if_pos (by decide)]
      cases q15 : g_ow T p 15 with
      | true =>
        rw [if_neg (by decide)]
        exact (b5 (fun q => by rw [q] at n0; rw [show g_ow T p (g_own (5 - 5)) = g_ow T p 15 from rfl, q15] at n0; cases n0)).trans x1
      | false =>
        rw [if_pos (show bI false = 0 by decide)]
        cases q1 : g_ow T p 1 with
        | true =>
          rw [if_neg (by decide)]
          exact (b6 (fun q => by rw [q] at n0; rw [show g_ow T p (g_own (6 - 5)) = g_ow T p 1 from rfl, q1] at n0; cases n0)).trans x1
        | false =>
          rw [if_pos (show bI false = 0 by decide)]
          cases q16 : g_ow T p 16 with
          | true =>
            rw [if_neg (by decide)]
            exact (b7 (fun q => by rw [q] at n0; rw [show g_ow T p (g_own (7 - 5)) = g_ow T p 16 from rfl, q16] at n0; cases n0)).trans x1
          | false =>
            rw [if_pos (show bI false = 0 by decide)]
            exact bm.trans x1
    rw [g_ft_n hk]
    exact L_of (v := true) h fin (x2.tr g2)
end GT
