/-! THE FORMULAS: turns of the reference's loop: an operand. -/
section GS
variable {d b w f0 : Nat} {T : List Nat} {S : z_S} {p : Nat} {cs : List Nat} {fs : List g_Fr} {F : g_Fr} {o : Nat} {od : Bool}
def g_tst (k : Nat) : Bool := decide (k = 1 ∨ k = 5 ∨ k = 6)
theorem m176 {k : Nat} (hW : z_W S) (hk : k ≤ 6) : fI (d + 1) 176 [.int (nI k)] S = some (bI (g_tst k), S) := by
  have e := e176 d (nI k) S hW
  rw [b176_16_eq d S hW] at e
  have hr : k = 0 ∨ k = 1 ∨ k = 2 ∨ k = 3 ∨ k = 4 ∨ k = 5 ∨ k = 6 := by omega
  rcases hr with z | z | z | z | z | z | z <;> rw [z] at e ⊢ <;> exact e
/-- the loop -/
noncomputable def gLo (d : Nat) (S : z_S) : Option z_S := b179_43 (d + 4) 1 S
theorem L_70 {S1 : z_S} (hW : z_W S1) (h8 : gI S1 396 8 = nI 0) : b179_70 (d + 4) 1 S1 = gLo d S1 := by
  rw [b179_70_eq (d + 4) 1 S1 hW, if_neg (show ¬ (1 : Int32) = 0 by decide), h8, if_neg (show ¬ ¬ nI 0 = (0 : Int32) from fun z => z rfl), b179_86_eq (d + 4) 1 S1 hW]
  rfl
theorem L_85 {S1 : z_S} (hW : z_W S1) : b179_85 (d + 4) S1 = some S1 := by
  rw [b179_85_eq (d + 4) S1 hW, b179_86_eq (d + 4) 0 S1 hW, b179_43_eq (d + 4) 0 S1 hW, if_pos rfl]
theorem L_op {v : Bool} {S1 : z_S} {p1 : Nat} {cs1 : List Nat} {fs1 : List g_Fr} {o1 : Nat} {od1 : Bool} (h : mG S T b w f0 p cs fs o false) (e : fI (d + 4) 177 [.ref 396] S = some (bI v, S1)) (h1 : mG S1 T b w f0 p1 cs1 fs1 o1 od1) : ∃ S', gLo d S = gLo d S' ∧ onM (g_mD b f0) S1 S' ∧ mG S' T b w f0 p1 cs1 fs1 o1 v := by
  obtain ⟨g1, g2⟩ := mG.fg (v := v) h1
  refine ⟨_, ?_, g2, g1⟩
  unfold gLo
  rw [b179_43_eq (d + 4) 1 S h.W, if_neg (show ¬ (1 : Int32) = 0 by decide), h.2.2.2.2.2.2.2.2.2.2.2.1, if_neg (show ¬ ¬ bI false = (0 : Int32) from fun z => z rfl), e, zb_some, if_pos (by cases v <;> decide)]
  exact L_70 g2.W g1.2.1
theorem L_of {v : Bool} {S1 : z_S} {x : Nat × Nat} (h : mG S T b w f0 p cs fs o false) (e : fI (d + 4) 177 [.ref 396] S = some (bI v, S1)) (h1 : mFl S S1 b f0 x) : ∃ S', gLo d S = some S' ∧ mFl S S' b f0 x := by
  obtain ⟨a1, a2, a3, a4, a5⟩ := h1
  have o3 : onM (g_mD b f0) S1 (sI S1 396 41 (bI v)) := onM_sI (D := g_mD b f0) (c := 396) (k := 41) (onM.refl a1.W) (Or.inl ⟨rfl, by omega⟩)
  have v8 : gI (sI S1 396 41 (bI v)) 396 8 = nI x.1 := by rw [gIs, if_pos rfl, if_neg (by decide)]; exact a2
  have v9 : gI (sI S1 396 41 (bI v)) 396 9 = nI x.2 := by rw [gIs, if_pos rfl, if_neg (by decide)]; exact a3
  refine ⟨_, ?_, a1.trans o3, v8, v9, a4, a5⟩
  unfold gLo
  rw [b179_43_eq (d + 4) 1 S h.W, if_neg (show ¬ (1 : Int32) = 0 by decide), h.2.2.2.2.2.2.2.2.2.2.2.1, if_neg (show ¬ ¬ bI false = (0 : Int32) from fun z => z rfl), e, zb_some, if_pos (by cases v <;> decide), b179_70_eq (d + 4) 1 _ o3.W, if_neg (show ¬ (1 : Int32) = 0 by decide), v8, if_pos (show ¬ nI x.1 = (0 : Int32) from fun z => by have := (nI_eq (b := 0) (by omega) (by omega)).mp z; omega)]
  exact L_85 o3.W
theorem L_go {S1 : z_S} (h : mG S T b w f0 p cs fs o true) (e : fI (d + 4) 178 [.ref 396] S = some (1, S1)) (hW : z_W S1) (h8 : gI S1 396 8 = nI 0) : gLo d S = gLo d S1 := by
  have := L_70 (d := d) hW h8
  unfold gLo at this ⊢
  rw [b179_43_eq (d + 4) 1 S h.W, if_neg (show ¬ (1 : Int32) = 0 by decide), h.2.2.2.2.2.2.2.2.2.2.2.1, if_pos (show ¬ bI true = (0 : Int32) by decide), e, zb_some]
  exact this
theorem L_g0 {S1 : z_S} (h : mG S T b w f0 p cs fs o true) (e : fI (d + 4) 178 [.ref 396] S = some (0, S1)) (hW : z_W S1) : gLo d S = some S1 := by
  unfold gLo
  rw [b179_43_eq (d + 4) 1 S h.W, if_neg (show ¬ (1 : Int32) = 0 by decide), h.2.2.2.2.2.2.2.2.2.2.2.1, if_pos (show ¬ bI true = (0 : Int32) by decide), e, zb_some, b179_70_eq (d + 4) 0 S1 hW, if_pos rfl]
  exact L_85 hW
theorem g_un_e : g_un T p = .inl (1, g_ft T p) := rfl
theorem g_ft_n (hk : g_kd T p ≠ 4) : g_ft T p = g_st T p := by unfold g_ft; rw [if_neg hk]
/-- a sign that is faulty itself -/
theorem t_lex (h : mG S T b w f0 p cs fs o od) (hk : g_kd T p = 4) : ∃ S', gLo d S = some S' ∧ mFl S S' b f0 (1, g_ft T p) := by
  have a := m162f (d := d + 1) h.1 h.2.1 hk
  have fl := m_bl (S := S) (b := b) (f0 := f0) (k := 1) (pl := g_ft T p) h.W (by decide) (by decide)
  have n8 : ¬ gI (sI (sI S 396 8 (nI 1)) 396 9 (nI (g_ft T p))) 396 8 ≤ (0 : Int32) := by rw [fl.2.1]; exact (show ¬ nI 1 ≤ (0 : Int32) by decide)
  cases od with
  | false =>
    have e := e177 (d + 3) S h.W
    rw [a, Option.bind_some, if_neg n8] at e
    exact L_of (v := true) h e fl
  | true =>
    have e := e178 (d + 3) S h.W
    rw [a, Option.bind_some, if_neg n8] at e
    exact ⟨_, L_g0 h e fl.1.W, fl⟩
/-- the top frame's cells -/
theorem mG.top (h : mG S T b w f0 p cs (F :: fs) o od) : gI S 396 37 - (1 : Int32) = nI fs.length ∧ (fs.length < 20 → z_in (nI fs.length) 20) ∧ (fs.length < 20 → gI S 413 (nI fs.length).toNatClampNeg = nI (f_k F) ∧ gI S 414 (nI fs.length).toNatClampNeg = nI (f_h F) ∧ gI S 415 (nI fs.length).toNatClampNeg = bI (f_b F)) := by
  obtain ⟨b1, b2, b3, b4, b5, b6, b7, b8, b9, b10, b11, b12, a1, a2, a3, a4, a5, a6, a7, a8⟩ := h
  have hl : (F :: fs).length = fs.length + 1 := rfl
  rw [hl] at b9
  refine ⟨by rw [b9]; exact pk_sub (b := 1) (by omega), fun z => (ni_in (by omega)).mpr z, fun z => ?_⟩
  rw [nI_clamp (by omega)]
  exact ⟨a1, a2, a3⟩
theorem m177_0 (h : mG S T b w f0 p cs (F :: fs) o od) (hk : g_kd T p ≠ 4) (hf : f_k F ≤ 6) (hl : fs.length < 20) : fI (d + 4) 177 [.ref 396] S = b177_46 (d + 3) (nI fs.length) (bI (g_tst (f_k F) && f_b F)) S := by
  have e := e177 (d + 3) S h.W
  obtain ⟨t1, t2, t3⟩ := h.top
  obtain ⟨t4, t5, t6⟩ := t3 hl
  rw [m162 (d := d + 2) h.1 hk, Option.bind_some, h.2.1, if_pos (show nI 0 ≤ (0 : Int32) by decide), t1, if_pos (t2 hl), t4, m176 (d := d + 2) h.W hf, zb_some, t6, if_pos (t2 hl), b177_45_eq (d + 3) (nI fs.length) S h.W] at e
  rw [e]
  cases g_tst (f_k F) with
  | false => rw [if_pos (by decide)]; rfl
  | true =>
    rw [if_neg (by decide), Bool.true_and]
    cases f_b F with
    | false => rw [if_pos (by decide)]; rfl
    | true => rw [if_neg (by decide)]; rfl
theorem o_w {i n : Nat} (h : mG S T b w f0 p cs fs o od) (hk : g_kd T p ≠ 4) (hi : i < 24) (hn : q_nw (g_o i) = n) : fI (d + 3) 165 [.ref 396, .long (lN n)] S = some (bI (g_ow T p i), S) := m165 (d := d + 2) h.1 hk hi hn
theorem o_s {c : Nat} (h : mG S T b w f0 p cs fs o od) (hk : g_kd T p ≠ 4) (hc : c < 256) : fI (d + 3) 164 [.ref 396, .int (nI c)] S = some (bI (g_sg T p c), S) := m164 (d := d + 2) h.1 hk hc
/-- not -/
theorem t_not5 (h : mG S T b w f0 p cs (F :: fs) o false) (hf : f_k F ≤ 6) (hl : fs.length < 20) (h1 : g_tst (f_k F) = true) (h2 : f_b F = true) (hw : g_ow T p 20 = true) (ho : o = 7) : ∃ S', gLo d S = some S' ∧ mFl S S' b f0 (5, g_st T p) := by
  have hk : g_kd T p ≠ 4 := by rw [g_ow_k hw]; decide
  have e := m177_0 (d := d) h hk hf hl
  have w20 : fI (d + 3) 165 [.ref 396, .long (7237492 : Int64)] S = _ := o_w (d := d) (i := 20) h hk (by decide) (by decide +kernel)
  have a : fV (d + 3) 159 [.ref 396, .int (5 : Int32), .int (nI (g_st T p))] S = _ := m159 (d := d + 2) (k := 5) (pl := g_st T p) h.W h.2.1
  have fl := m_bl (S := S) (b := b) (f0 := f0) (k := 5) (pl := g_st T p) h.W (by decide) (by decide)
  rw [h1, h2, Bool.true_and, b177_46_eq (d + 3) (nI fs.length) (bI true) S h.W, if_neg (by decide), w20, zb_some, hw, if_neg (by decide), h.2.2.2.2.2.2.2.2.2.2.1, ho, if_neg (show ¬ ¬ nI 7 = (7 : Int32) from fun z => z rfl), h.1.2.2.2.1, a, Option.bind_some, b177_79_eq (d + 3) _ fl.1.W, fl.2.1, if_neg (show ¬ nI 5 ≤ (0 : Int32) by decide)] at e
  exact L_of (v := true) h e fl
theorem t_not (h : mG S T b w f0 p cs (F :: fs) o false) (hf : f_k F ≤ 6) (hl : fs.length < 20) (h1 : g_tst (f_k F) = true) (h2 : f_b F = true) (hw : g_ow T p 20 = true) (ho : o < 7) (hoc : f_oc (F :: fs) < 500) : ∃ S', gLo d S = gLo d S' ∧ onM (g_mD b f0) S S' ∧ mG S' T b w f0 (g_en T p) cs ((f_k F, f_h F, f_b F, f_p F, 10018 :: f_o F) :: fs) (o + 1) false := by
  have hk : g_kd T p ≠ 4 := by rw [g_ow_k hw]; decide
  have e := m177_0 (d := d) h hk hf hl
  have w20 : fI (d + 3) 165 [.ref 396, .long (7237492 : Int64)] S = _ := o_w (d := d) (i := 20) h hk (by decide) (by decide +kernel)
  have h38 := h.2.2.2.2.2.2.2.2.2.2.1
  rw [h1, h2, Bool.true_and, b177_46_eq (d + 3) (nI fs.length) (bI true) S h.W, if_neg (by decide), w20, zb_some, hw, if_neg (by decide), h38, if_pos (show ¬ nI o = (7 : Int32) from fun z => by have := (nI_eq (b := 7) (by omega) (by omega)).mp z; omega), b177_79_eq (d + 3) S h.W, h.2.1, if_pos (show nI 0 ≤ (0 : Int32) by decide), h38, nI_1] at e
  obtain ⟨g1, g2⟩ := mG.op (o' := o + 1) h
  obtain ⟨S2, a1, a2, a3⟩ := m173g (d := d + 2) (c := 10018) g1 ⟨by decide, by decide⟩ hoc
  obtain ⟨S3, b1, b2, b3⟩ := m163g (d := d + 1) a3
  have a1' : fV (d + 3) 173 [.ref 396, .int (43 : Int32)] (sI S 396 38 (nI (o + 1))) = some S2 := a1
  rw [a1', Option.bind_some, b1, Option.bind_some] at e
  obtain ⟨S', q1, q2, q3⟩ := L_op (v := false) h e b3
  exact ⟨S', q1, ((g2.trans a2).trans b2).trans q2, q3⟩
/-- ahead of the rest begins is put off -/
theorem m177_1 {fi : Bool} (h : mG S T b w f0 p cs (F :: fs) o false) (hk : g_kd T p ≠ 4) (hl : fs.length < 20) (hn : fi = true → g_ow T p 20 = false) : b177_46 (d + 3) (nI fs.length) (bI fi) S = b177_110 (d + 3) (nI fs.length) (bI fi) S := by
  rw [b177_46_eq (d + 3) (nI fs.length) (bI fi) S h.W]
  cases fi with
  | false => rw [if_pos (by decide)]
  | true =>
    have w20 : fI (d + 3) 165 [.ref 396, .long (7237492 : Int64)] S = _ := o_w (d := d) (i := 20) h hk (by decide) (by decide +kernel)
    rw [if_neg (by decide), w20, zb_some, hn rfl, if_pos (by decide)]
/-- [ -/
theorem t_br (h : mG S T b w f0 p cs (F :: fs) o false) (hf : f_k F ≤ 6) (hl : fs.length < 19) (h1 : g_tst (f_k F) = true) (h2 : f_b F = true) (hw : g_sg T p 91 = true) : (o = 7 → ∃ S', gLo d S = some S' ∧ mFl S S' b f0 (5, g_st T p)) ∧ (o < 7 → ∃ S', gLo d S = gLo d S' ∧ onM (g_mD b f0) S S' ∧ mG S' T b w f0 (g_en T p) cs ((5, 0, true, 0, []) :: (f_k F, f_h F, false, f_p F, f_o F) :: fs) (o + 1) false) := by
  have hk3 := g_sg_k hw
  have hk : g_kd T p ≠ 4 := by omega
  have hn20 : g_ow T p 20 = false := by unfold g_ow; rw [decide_eq_false (by omega), Bool.false_and]
  have e := m177_0 (d := d) h hk hf (by omega)
  rw [h1, h2, Bool.true_and, m177_1 (fi := true) h hk (by omega) (fun _ => hn20), b177_110_eq (d + 3) (nI fs.length) (bI true) S h.W] at e
  obtain ⟨g1, g2⟩ := mG.bg (v := false) h
  have zi : z_in (nI fs.length) 20 := (ni_in (by omega)).mpr (by omega)
  have cl : (nI fs.length).toNatClampNeg = fs.length := nI_clamp (by omega)
  have g1' : mG (sI S 415 fs.length (0 : Int32)) T b w f0 p cs ((f_k F, f_h F, false, f_p F, f_o F) :: fs) o false := g1
  have s91 : fI (d + 3) 164 [.ref 396, .int (91 : Int32)] (sI S 415 fs.length (0 : Int32)) = _ := o_s (d := d) (c := 91) g1' hk (by decide)
  rw [if_pos ⟨zi, Or.inl rfl⟩, cl, if_neg (by decide), s91, zb_some, hw, if_neg (by decide)] at e
  constructor
  · intro ho
    obtain ⟨S2, a1, a2⟩ := m175f (d := d) (kd := 5) g1' ho
    have a1' : fV (d + 3) 175 [.ref 396, .int (5 : Int32)] (sI S 415 fs.length (0 : Int32)) = some S2 := a1
    rw [a1', Option.bind_some] at e
    exact L_of (v := false) h e (a2.tr g2)
  · intro ho
    obtain ⟨S2, a1, a2, a3⟩ := m175g (d := d) (kd := 5) g1' ho (by have : ((f_k F, f_h F, false, f_p F, f_o F) :: fs : List g_Fr).length = fs.length + 1 := rfl; omega)
    have a1' : fV (d + 3) 175 [.ref 396, .int (5 : Int32)] (sI S 415 fs.length (0 : Int32)) = some S2 := a1
    rw [a1', Option.bind_some] at e
    obtain ⟨S', q1, q2, q3⟩ := L_op (v := false) h e a3
    exact ⟨S', q1, (g2.trans a2).trans q2, q3⟩
/-- all -/
theorem t_all (h : mG S T b w f0 p cs (F :: fs) o false) (hf : f_k F ≤ 6) (hl : fs.length < 20) (h1 : g_tst (f_k F) = true) (h2 : f_b F = true) (hw : g_ow T p 21 = true) (hc : cs.length < 1600) : ∃ S', gLo d S = gLo d S' ∧ onM (g_mD b f0) S S' ∧ mG S' T b w f0 (g_en T p) (cs ++ [10000]) ((f_k F, 2, false, f_p F, f_o F) :: fs) o true := by
  have hk1 := g_ow_k hw
  have hk : g_kd T p ≠ 4 := by omega
  have hw21 : g_wl T p = g_o 21 := by
    unfold g_ow at hw
    rw [Bool.and_eq_true, decide_eq_true_eq, decide_eq_true_eq] at hw
    exact hw.2
  have hn20 : g_ow T p 20 = false := by
    unfold g_ow
    rw [hw21, decide_eq_false (show ¬ g_o 21 = g_o 20 by decide +kernel), Bool.and_false]
  have e := m177_0 (d := d) h hk hf hl
  rw [h1, h2, Bool.true_and, m177_1 (fi := true) h hk hl (fun _ => hn20), b177_110_eq (d + 3) (nI fs.length) (bI true) S h.W] at e
  obtain ⟨g1, g2⟩ := mG.bg (v := false) h
  have zi : z_in (nI fs.length) 20 := (ni_in (by omega)).mpr hl
  have cl : (nI fs.length).toNatClampNeg = fs.length := nI_clamp (by omega)
  have g1' : mG (sI S 415 fs.length (0 : Int32)) T b w f0 p cs ((f_k F, f_h F, false, f_p F, f_o F) :: fs) o false := g1
  have s91 : fI (d + 3) 164 [.ref 396, .int (91 : Int32)] (sI S 415 fs.length (0 : Int32)) = _ := o_s (d := d) (c := 91) g1' hk (by decide)
  have hn91 : g_sg T p 91 = false := by unfold g_sg; rw [decide_eq_false (by omega), Bool.false_and]
  have w21 : fI (d + 3) 165 [.ref 396, .long (6384748 : Int64)] (sI S 415 fs.length (0 : Int32)) = _ := o_w (d := d) (i := 21) g1' hk (by decide) (by decide +kernel)
  have hmc : q_mc w 10000 (30 : Int32) (0 : Int32) := by
    unfold q_mc
    rw [if_neg (by decide), if_pos rfl]
    rfl
  obtain ⟨S2, a1, a2, a4, a3⟩ := m170g (d := d + 2) g1' hc hmc
  obtain ⟨g3, g4⟩ := mG.ph (v := 2) a3
  obtain ⟨S3, b1, b2, b3⟩ := m163g (d := d + 1) g3
  have b1' : fV (d + 3) 163 [.ref 396] (sI S2 414 fs.length (2 : Int32)) = some S3 := b1
  rw [if_pos ⟨zi, Or.inl rfl⟩, cl, if_neg (by decide), s91, zb_some, hn91, if_pos (by decide), b177_137_eq (d + 3) (nI fs.length) (bI true) _ g1'.W, if_neg (by decide), w21, zb_some, hw, if_neg (by decide), a1, Option.bind_some, if_pos zi, cl, b1', Option.bind_some] at e
  obtain ⟨S', q1, q2, q3⟩ := L_op (v := true) h e b3
  exact ⟨S', q1, (((g2.trans a2).trans g4).trans b2).trans q2, q3⟩
end GS
