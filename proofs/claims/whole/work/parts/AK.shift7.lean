/-! THE FORMULAS: turns of the reference's loop: comparing, joining, closing. -/
section GV
variable {d b w f0 : Nat} {T : List Nat} {S : z_S} {p : Nat} {cs : List Nat} {fs : List g_Fr} {k ph pr : Nat} {bg : Bool} {r os : List Nat} {o : Nat}
theorem mG.phv (h : mG S T b w f0 p cs ((k, ph, bg, pr, os) :: fs) o true) (hl : fs.length < 20) : z_in (nI fs.length) 20 ∧ gI S 414 (nI fs.length).toNatClampNeg = nI ph ∧ (nI fs.length).toNatClampNeg = fs.length := by
  obtain ⟨t1, t2, t3⟩ := h.top
  exact ⟨t2 hl, (t3 hl).2.1, nI_clamp (by omega)⟩
theorem t_cmp (hn0 : g_oC T p ≠ 0) (h : mG S T b w f0 p cs ((k, 0, bg, pr, r ++ os) :: fs) o true) (ht : g_tst k = true) (hf : k ≤ 6) (hl : fs.length < 19) (ha : g_na T p) (hos : ∀ c, c ∈ os.head? → g_rk c < 5) (hr : ∀ c, c ∈ r → 5 ≤ g_rk c) (ho : f_oc fs + (r ++ os).length < 499) (hc : cs.length + r.length ≤ 1600) (hn : g_nn r ≤ o) (ho2 : o < 100) : ∃ S', gLo d S = gLo d S' ∧ onM (g_mD b f0) S S' ∧ mG S' T b w f0 (g_en T p) (cs ++ r) ((k, 1, bg, pr, g_oC T p :: os) :: fs) (o - g_nn r) false := by
  have hk3 := (g_oC_j hn0).1
  have hk : g_kd T p ≠ 4 := by omega
  have e := m178_0 (d := d) h hk hf (by omega) (by omega) (fun _ => ha)
  obtain ⟨zi, p1, cl⟩ := h.phv (by omega)
  have s1 : fI (d + 3) 164 [.ref 396, .int (60 : Int32)] S = _ := o_s (d := d) (c := 60) h hk (by decide)
  have s2 : fI (d + 3) 164 [.ref 396, .int (62 : Int32)] S = _ := o_s (d := d) (c := 62) h hk (by decide)
  have s3 : fI (d + 3) 164 [.ref 396, .int (61 : Int32)] S = _ := o_s (d := d) (c := 61) h hk (by decide)
  rw [ht, b178_188_eq (d + 3) (nI fs.length) (nI k) (bI true) S h.W, if_neg (by decide), if_pos zi, p1, if_neg (show ¬ ¬ nI 0 = (0 : Int32) from fun z => z rfl), s1, zb_some, s2, zb_some, s3, zb_some] at e
  obtain ⟨S1, a1, a2, a3⟩ := m172h (d := d) (R := 5) (by omega) hos h hr hl (by omega) hc hn ho2
  have hnr : 10006 ≤ g_oC T p ∧ g_oC T p ≤ 10018 := by
    unfold g_oC at hn0 ⊢
    repeat' split
    all_goals first | omega | (exfalso; revert hn0; simp_all)
  obtain ⟨S2, b1, b2, b3⟩ := m173g (d := d + 2) (c := g_oC T p) a3 hnr (by have : f_oc ((k, 0, bg, pr, os) :: fs) = f_oc fs + os.length := rfl; rw [List.length_append] at ho; omega)
  obtain ⟨g1, g2⟩ := mG.ph (v := 1) b3
  obtain ⟨S3, c1, c2, c3⟩ := m163g (d := d + 1) g1
  obtain ⟨q1, q2⟩ := mG.fg (v := false) c3
  have c1' : fV (d + 3) 163 [.ref 396] (sI S2 414 fs.length (1 : Int32)) = some S3 := c1
  have e264 : b178_264 (d + 3) (nI fs.length) (nI (g_oC T p - 9975)) S1 = some (1, sI S3 396 41 (0 : Int32)) := by
    rw [b178_264_eq (d + 3) (nI fs.length) (nI (g_oC T p - 9975)) S1 a3.W, b1, Option.bind_some, if_pos zi, cl, c1', Option.bind_some]
  have u1 : fI (d + 3) 164 [.ref 396, .int (60 : Int32)] S1 = _ := o_s (d := d) (c := 60) a3 hk (by decide)
  have u2 : fI (d + 3) 164 [.ref 396, .int (62 : Int32)] S1 = _ := o_s (d := d) (c := 62) a3 hk (by decide)
  have e228 := b178_228_eq (d + 3) (nI fs.length) S h.W
  have a1' : fV (d + 3) 172 [.ref 396, .int (5 : Int32)] S = some S1 := a1
  rw [a1', Option.bind_some, u1, zb_some, u2, zb_some] at e228
  have fin : fI (d + 4) 178 [.ref 396] S = some (1, sI S3 396 41 (0 : Int32)) := by
    have hz : g_oC T p = if g_sg T p 60 then 10013 else if g_sg T p 62 then 10014 else if g_sg T p 61 then 10015 else 0 := rfl
    cases c1 : g_sg T p 60 with
    | true =>
      rw [c1, if_pos rfl] at hz
      rw [c1, if_pos (by decide)] at e
      rw [c1, if_neg (by decide)] at e228
      rw [hz] at e264
      exact (e.trans e228).trans e264
    | false =>
      rw [c1, if_neg (by decide)] at hz
      rw [c1, if_neg (show ¬ ¬ bI false = 0 by decide)] at e
      rw [c1, if_pos (show bI false = 0 by decide)] at e228
      cases c2 : g_sg T p 62 with
      | true =>
        rw [c2, if_pos rfl] at hz
        rw [c2, if_pos (by decide)] at e
        rw [c2, if_neg (by decide)] at e228
        rw [hz] at e264
        exact (e.trans e228).trans e264
      | false =>
        rw [c2, if_neg (by decide)] at hz
        rw [c2, if_neg (show ¬ ¬ bI false = 0 by decide)] at e
        rw [c2, if_pos (show bI false = 0 by decide)] at e228
        cases c3 : g_sg T p 61 with
        | true =>
          rw [c3, if_pos rfl] at hz
          rw [c3, if_neg (by decide)] at e
          rw [hz] at e264
          exact (e.trans e228).trans e264
        | false => rw [c3, if_neg (by decide)] at hz; exact absurd hz hn0
  exact ⟨_, L_go h fin q2.W q1.2.1, (((a2.trans b2).trans g2).trans c2).trans q2, q1⟩
/-- no comparing: a fault -/
theorem t_f0 (hn0 : g_oC T p = 0) (h : mG S T b w f0 p cs ((k, 0, bg, pr, os) :: fs) o true) (ht : g_tst k = true) (hf : k ≤ 6) (hl : fs.length < 19) (ha : g_na T p) (hk : g_kd T p ≠ 4) : ∃ S', gLo d S = some S' ∧ mFl S S' b f0 (1, g_st T p) := by
  have e := m178_0 (d := d) h hk hf (by omega) (by omega) (fun _ => ha)
  obtain ⟨zi, p1, cl⟩ := h.phv (by omega)
  have s1 : fI (d + 3) 164 [.ref 396, .int (60 : Int32)] S = _ := o_s (d := d) (c := 60) h hk (by decide)
  have s2 : fI (d + 3) 164 [.ref 396, .int (62 : Int32)] S = _ := o_s (d := d) (c := 62) h hk (by decide)
  have s3 : fI (d + 3) 164 [.ref 396, .int (61 : Int32)] S = _ := o_s (d := d) (c := 61) h hk (by decide)
  have w19 : fI (d + 3) 165 [.ref 396, .long (6385252 : Int64)] S = _ := o_w (d := d) (i := 19) h hk (by decide) (by decide +kernel)
  have w18 : fI (d + 3) 165 [.ref 396, .long (28530 : Int64)] S = _ := o_w (d := d) (i := 18) h hk (by decide) (by decide +kernel)
  have n60 : g_sg T p 60 = false ∧ g_sg T p 62 = false ∧ g_sg T p 61 = false := by
    unfold g_oC at hn0
    refine ⟨?_, ?_, ?_⟩
    · cases hb : g_sg T p 60 with
      | false => rfl
      | true => rw [hb, if_pos rfl] at hn0; cases hn0
    · cases hb : g_sg T p 62 with
      | false => rfl
      | true =>
        rw [hb, if_pos rfl] at hn0
        split at hn0 <;> cases hn0
    · cases hb : g_sg T p 61 with
      | false => rfl
      | true =>
        rw [hb, if_pos rfl] at hn0
        split at hn0
        · cases hn0
        · split at hn0 <;> cases hn0
  rw [ht, b178_188_eq (d + 3) (nI fs.length) (nI k) (bI true) S h.W, if_neg (by decide), if_pos zi, p1, if_neg (show ¬ ¬ nI 0 = (0 : Int32) from fun z => z rfl), s1, zb_some, n60.1, if_neg (show ¬ ¬ bI false = 0 by decide), s2, zb_some, n60.2.1, if_neg (show ¬ ¬ bI false = 0 by decide), s3, zb_some, n60.2.2, if_pos (show bI false = 0 by decide), b178_285_eq (d + 3) (nI fs.length) (nI k) (bI true) S h.W, if_neg (by decide), w19, zb_some, w18, zb_some] at e
  have a : fV (d + 3) 159 [.ref 396, .int (1 : Int32), .int (nI (g_st T p))] S = _ := m159 (d := d + 2) (k := 1) (pl := g_st T p) h.W h.2.1
  have fl := m_bl (S := S) (b := b) (f0 := f0) (k := 1) (pl := g_st T p) h.W (by decide) (by decide)
  have e309 : b178_309 (d + 3) (nI fs.length) S = some (0, sI (sI S 396 8 (nI 1)) 396 9 (nI (g_st T p))) := by
    rw [b178_309_eq (d + 3) (nI fs.length) S h.W, if_pos zi, p1, if_neg (show ¬ ¬ nI 0 = (0 : Int32) from fun z => z rfl), h.1.2.2.2.1, a, Option.bind_some, b178_327_eq (d + 3) (nI fs.length) _ fl.1.W, fl.2.1, if_neg (show ¬ nI 1 ≤ (0 : Int32) by decide)]
  have e400 : b178_400 (d + 3) (nI fs.length) (nI k) (bI true) S = some (0, sI (sI S 396 8 (nI 1)) 396 9 (nI (g_st T p))) := by
    rw [b178_400_eq (d + 3) (nI fs.length) (nI k) (bI true) S h.W, if_neg (by decide), if_pos zi, p1, if_neg (show ¬ ¬ nI 0 = (0 : Int32) from fun z => z rfl), h.1.2.2.2.1, a, Option.bind_some]
    generalize hS1 : sI (sI S 396 8 (nI 1)) 396 9 (nI (g_st T p)) = S1 at *
    have W1 := fl.1.W
    have bl1 : ∀ x y, fV (d + 3) 159 [.ref 396, .int x, .int y] S1 = some S1 := fun x y => m159n (d := d + 2) W1 fl.2.1 (show 0 < 1 by decide) (show 1 < 100 by decide)
    have s8 : ¬ gI S1 396 8 ≤ (0 : Int32) := by rw [fl.2.1]; exact (show ¬ nI 1 ≤ (0 : Int32) by decide)
    have s80 : ¬ gI S1 396 8 = (0 : Int32) := by rw [fl.2.1]; exact (show ¬ nI 1 = (0 : Int32) by decide)
    have h1 : mTk S1 T p := by
      rw [← hS1]
      refine h.1.on (D := fun c k => c = 396 ∧ (k = 8 ∨ k = 9)) ?_ (fun c k z => by omega)
      exact onM_sI (D := fun c k => c = 396 ∧ (k = 8 ∨ k = 9)) (c := 396) (k := 9) (onM_sI (D := fun c k => c = 396 ∧ (k = 8 ∨ k = 9)) (c := 396) (k := 8) (onM.refl h.W) ⟨rfl, Or.inl rfl⟩) ⟨rfl, Or.inr rfl⟩
    have ss : ∀ c, c < 256 → fI (d + 3) 164 [.ref 396, .int (nI c)] S1 = _ := fun c hc => m164 (d := d + 2) h1 hk hc
    have e470 : b178_470 (d + 3) (nI fs.length) (nI k) S1 = some (0, S1) := by rw [b178_470_eq (d + 3) (nI fs.length) (nI k) S1 W1, if_neg s8]
    have e546 : b178_546 (d + 3) (nI fs.length) (nI k) S1 = some (0, S1) := by rw [b178_546_eq (d + 3) (nI fs.length) (nI k) S1 W1, if_neg s8]
    have e452 : b178_452 (d + 3) (nI fs.length) (nI k) S1 = some (0, S1) := by
      have s44 : fI (d + 3) 164 [.ref 396, .int (44 : Int32)] S1 = _ := ss 44 (by decide)
      rw [b178_452_eq (d + 3) (nI fs.length) (nI k) S1 W1, s44, zb_some, bl1, Option.bind_some, e470, ite_self]
    have e531 : ∀ c, c < 256 → b178_531 (d + 3) (nI fs.length) (nI k) (nI c) S1 = some (0, S1) := fun c hc => by
      rw [b178_531_eq (d + 3) (nI fs.length) (nI k) (nI c) S1 W1, ss c hc, zb_some, bl1, Option.bind_some, e546, ite_self]
    have e41 : b178_531 (d + 3) (nI fs.length) (nI k) (41 : Int32) S1 = some (0, S1) := e531 41 (by decide)
    have e93 : b178_531 (d + 3) (nI fs.length) (nI k) (93 : Int32) S1 = some (0, S1) := e531 93 (by decide)
    rw [b178_422_eq (d + 3) (nI fs.length) (nI k) S1 W1, e452, e41, e93, if_pos s80, ite_self, ite_self, ite_self, ite_self]
  have fin : fI (d + 4) 178 [.ref 396] S = some (0, sI (sI S 396 8 (nI 1)) 396 9 (nI (g_st T p))) := by
    rw [e, e309, e400, ite_self, ite_self]
  exact ⟨_, L_g0 h fin fl.1.W, fl⟩
/-- and, or -/
theorem t_log {R i n : Nat} (hi : R = 2 ∧ i = 19 ∧ n = 10016 ∨ R = 1 ∧ i = 18 ∧ n = 10017) (hw : g_ow T p i = true) (h : mG S T b w f0 p cs ((k, ph, bg, pr, r ++ os) :: fs) o true) (ht : g_tst k = true) (hf : k ≤ 6) (hh : ph = 1 ∨ ph = 2) (hl : fs.length < 19) (hos : ∀ c, c ∈ os.head? → g_rk c < R) (hr : ∀ c, c ∈ r → R ≤ g_rk c) (ho : f_oc fs + (r ++ os).length < 499) (hc : cs.length + r.length ≤ 1600) (hn : g_nn r ≤ o) (ho2 : o < 100) : ∃ S', gLo d S = gLo d S' ∧ onM (g_mD b f0) S S' ∧ mG S' T b w f0 (g_en T p) (cs ++ r) ((k, 0, true, pr, n :: os) :: fs) (o - g_nn r) false := by
  have hk1 := g_ow_k hw
  have hk : g_kd T p ≠ 4 := by omega
  have nsg : ∀ c, g_sg T p c = false := fun c => by unfold g_sg; rw [decide_eq_false (by omega), Bool.false_and]
  have ha : g_na T p := by
    constructor
    · unfold g_oS; rw [nsg, nsg]; rfl
    · unfold g_oP; rw [nsg, nsg, nsg]; rfl
  have e := m178_0 (d := d) h hk hf (by omega) (by omega) (fun _ => ha)
  obtain ⟨zi, p1, cl⟩ := h.phv (by omega)
  have w19 : fI (d + 3) 165 [.ref 396, .long (6385252 : Int64)] S = _ := o_w (d := d) (i := 19) h hk (by decide) (by decide +kernel)
  have w18 : fI (d + 3) 165 [.ref 396, .long (28530 : Int64)] S = _ := o_w (d := d) (i := 18) h hk (by decide) (by decide +kernel)
  have pn0 : ¬ nI ph = (0 : Int32) := fun z => by have := (nI_eq (b := 0) (by omega) (by omega)).mp z; omega
  rw [ht, b178_188_eq (d + 3) (nI fs.length) (nI k) (bI true) S h.W, if_neg (by decide), if_pos zi, p1, if_pos pn0, b178_285_eq (d + 3) (nI fs.length) (nI k) (bI true) S h.W, if_neg (by decide), w19, zb_some, w18, zb_some] at e
  have hR6 : R ≤ 6 := by omega
  obtain ⟨S1, a1, a2, a3⟩ := m172h (d := d) hR6 hos h hr hl (by omega) hc hn ho2
  obtain ⟨S2, b1, b2, b3⟩ := m173g (d := d + 2) (c := n) a3 (by omega) (by have : f_oc ((k, ph, bg, pr, os) :: fs) = f_oc fs + os.length := rfl; rw [List.length_append] at ho; omega)
  obtain ⟨g1, g2⟩ := mG.ph (v := 0) b3
  obtain ⟨g3, g4⟩ := mG.bg (v := true) g1
  obtain ⟨S3, c1, c2, c3⟩ := m163g (d := d + 1) g3
  obtain ⟨q1, q2⟩ := mG.fg (v := false) c3
  have c1' : fV (d + 3) 163 [.ref 396] (sI (sI S2 414 fs.length (0 : Int32)) 415 fs.length (1 : Int32)) = some S3 := c1
  have e372 : b178_372 (d + 3) (nI fs.length) (nI (n - 9975)) S1 = some (1, sI S3 396 41 (0 : Int32)) := by
    rw [b178_372_eq (d + 3) (nI fs.length) (nI (n - 9975)) S1 a3.W, b1, Option.bind_some, if_pos zi, if_pos ⟨zi, Or.inr rfl⟩, cl, c1', Option.bind_some]
  have e309 := b178_309_eq (d + 3) (nI fs.length) S h.W
  rw [if_pos zi, p1, if_pos pn0, b178_327_eq (d + 3) (nI fs.length) S h.W, h.2.1, if_pos (show nI 0 ≤ (0 : Int32) by decide), w19, zb_some] at e309
  have fin : fI (d + 4) 178 [.ref 396] S = some (1, sI S3 396 41 (0 : Int32)) := by
    rcases hi with ⟨z1, z2, z3⟩ | ⟨z1, z2, z3⟩
    · rw [z2] at hw
      rw [z1] at a1
      rw [z3] at e372
      have a1' : fV (d + 3) 172 [.ref 396, .int (2 : Int32)] S = some S1 := a1
      rw [hw, if_pos (by decide)] at e
      rw [hw, if_neg (by decide), b178_356_eq (d + 3) (nI fs.length) (bI true) 2 S h.W, a1', Option.bind_some, if_neg (by decide)] at e309
      exact (e.trans e309).trans e372
    · rw [z2] at hw
      rw [z1] at a1
      rw [z3] at e372
      have a1' : fV (d + 3) 172 [.ref 396, .int (1 : Int32)] S = some S1 := a1
      have n19 : g_ow T p 19 = false := by
        unfold g_ow at hw ⊢
        rw [Bool.and_eq_true, decide_eq_true_eq, decide_eq_true_eq] at hw
        rw [hw.2, decide_eq_false (show ¬ g_o 18 = g_o 19 by decide +kernel), Bool.and_false]
      rw [n19, if_neg (show ¬ ¬ bI false = 0 by decide), hw, if_neg (by decide)] at e
      rw [n19, if_pos (by decide), b178_356_eq (d + 3) (nI fs.length) (bI false) 1 S h.W, a1', Option.bind_some, if_pos (by decide)] at e309
      exact (e.trans e309).trans e372
  exact ⟨_, L_go h fin q2.W q1.2.1, ((((a2.trans b2).trans g2).trans g4).trans c2).trans q2, q1⟩
/-- what a frame ends with -/
def g_ed (T : List Nat) (p k ph : Nat) : Prop := (ph < 2 → g_na T p) ∧ (g_tst k = true → ph ≠ 0 ∧ g_ow T p 19 = false ∧ g_ow T p 18 = false)
theorem m178_2 (h : mG S T b w f0 p cs ((k, ph, bg, pr, os) :: fs) o true) (hk : g_kd T p ≠ 4) (hf : k ≤ 6) (hh : ph ≤ 2) (hl : fs.length < 19) (he : g_ed T p k ph) : fI (d + 4) 178 [.ref 396] S = b178_422 (d + 3) (nI fs.length) (nI k) S := by
  have e := m178_0 (d := d) h hk hf hh (by omega) he.1
  obtain ⟨zi, p1, cl⟩ := h.phv (by omega)
  have w19 : fI (d + 3) 165 [.ref 396, .long (6385252 : Int64)] S = _ := o_w (d := d) (i := 19) h hk (by decide) (by decide +kernel)
  have w18 : fI (d + 3) 165 [.ref 396, .long (28530 : Int64)] S = _ := o_w (d := d) (i := 18) h hk (by decide) (by decide +kernel)
  have e285 := b178_285_eq (d + 3) (nI fs.length) (nI k) (bI (g_tst k)) S h.W
  have e400 := b178_400_eq (d + 3) (nI fs.length) (nI k) (bI (g_tst k)) S h.W
  rw [b178_188_eq (d + 3) (nI fs.length) (nI k) (bI (g_tst k)) S h.W] at e
  cases ht : g_tst k with
  | false =>
    rw [ht, if_pos (by decide)] at e e285 e400
    exact (e.trans e285).trans e400
  | true =>
    obtain ⟨p0, n19, n18⟩ := he.2 ht
    have pn0 : ¬ nI ph = (0 : Int32) := fun z => by have := (nI_eq (b := 0) (by omega) (by omega)).mp z; omega
    rw [ht, if_neg (by decide), if_pos zi, p1, if_pos pn0] at e
    rw [ht, if_neg (by decide), w19, zb_some, n19, if_neg (show ¬ ¬ bI false = 0 by decide), w18, zb_some, n18, if_pos (by decide)] at e285
    rw [ht, if_neg (by decide), if_pos zi, p1, if_pos pn0] at e400
    exact (e.trans e285).trans e400
end GV
