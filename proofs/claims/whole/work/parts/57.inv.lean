/-! THE WHOLE: what both objects hold, told once. -/
/-- tape, plan, state, kept, what can be undone (the latest first), met, seed, fault, refusals, image -/
abbrev q_A : Type := List Nat × q_Pl × q_St × List (Nat × Nat × Nat) × List (q_St × List (Nat × Nat × Nat)) × List (Nat × Nat × Nat) × Nat × (Nat × Option Nat) × (Nat → Nat) × List Nat
def a_tp (A : q_A) : List Nat := A.1
def a_P (A : q_A) : q_Pl := A.2.1
def a_s (A : q_A) : q_St := A.2.2.1
def a_kl (A : q_A) : List (Nat × Nat × Nat) := A.2.2.2.1
def a_ud (A : q_A) : List (q_St × List (Nat × Nat × Nat)) := A.2.2.2.2.1
def a_mt (A : q_A) : List (Nat × Nat × Nat) := A.2.2.2.2.2.1
def a_sd (A : q_A) : Nat := A.2.2.2.2.2.2.1
def a_ft (A : q_A) : Nat × Option Nat := A.2.2.2.2.2.2.2.1
def a_rf (A : q_A) : Nat → Nat := A.2.2.2.2.2.2.2.2.1
def a_im (A : q_A) : List Nat := A.2.2.2.2.2.2.2.2.2
/-- ints that stay -/
def agI (Q : Nat → Nat → Prop) (S S' : z_S) : Prop := ∀ c k, Q c k → gI S' c k = gI S c k
theorem onI.ag {D Q : Nat → Nat → Prop} {S S' : z_S} (h : onI D S S') (hq : ∀ c k, Q c k → ¬ D c k) : agI Q S S' := fun c k q => h.I (hq c k q)
theorem onM.ag {D Q : Nat → Nat → Prop} {S S' : z_S} (h : onM D S S') (hq : ∀ c k, Q c k → ¬ D c k) : agI Q S S' := fun c k q => h.I (hq c k q)
theorem cSt.ag {S S' : z_S} {p g : Nat} {s : q_St} (h : cSt S p g s) (ha : agI (pD p) S S') : cSt S' p g s := by
  obtain ⟨h0, h1, h2, h3, h4, h5, h6, h7, h8⟩ := h
  unfold agI pD at ha
  refine ⟨?_, ?_, ?_, ?_, ?_, fun r hr => ?_, fun k hk hg => ?_, fun k hk hg => ?_, fun i hi => ?_⟩
  · rw [ha _ _ (by omega)]; exact h0
  · rw [ha _ _ (by omega)]; exact h1
  · rw [ha _ _ (by omega)]; exact h2
  · rw [ha _ _ (by omega)]; exact h3
  · rw [ha _ _ (by omega)]; exact h4
  · rw [ha _ _ (by omega)]; exact h5 r hr
  · rw [ha _ _ (by omega)]; exact h6 k hk hg
  · rw [ha _ _ (by omega)]; exact h7 k hk hg
  · rw [ha _ _ (by omega)]; exact h8 i hi
theorem cPl.ag {S S' : z_S} {q : Nat} {P : q_Pl} (h : cPl S q P) (ha : agI (fun c _ => q ≤ c ∧ c ≤ q + 7) S S') : cPl S' q P := by
  obtain ⟨h0, h1, h2, h3, h4, h5, h6, h7, h8, h9, h10, h11, h12⟩ := h
  unfold agI at ha
  refine ⟨?_, ?_, ?_, ?_, ?_, ?_, ?_, ?_, fun i hi => ?_, fun i hi => ?_, fun i hi => ?_, fun i hi => ?_, fun w hw => ?_⟩
  · rw [ha _ _ (by omega)]; exact h0
  · rw [ha _ _ (by omega)]; exact h1
  · rw [ha _ _ (by omega)]; exact h2
  · rw [ha _ _ (by omega)]; exact h3
  · rw [ha _ _ (by omega)]; exact h4
  · rw [ha _ _ (by omega)]; exact h5
  · rw [ha _ _ (by omega)]; exact h6
  · rw [ha _ _ (by omega)]; exact h7
  · rw [ha _ _ (by omega)]; exact h8 i hi
  · rw [ha _ _ (by omega)]; exact h9 i hi
  · rw [ha _ _ (by omega)]; exact h10 i hi
  · rw [ha _ _ (by omega)]; exact h11 i hi
  · obtain ⟨f, g1, g2, g3, g4⟩ := h12 w hw
    refine ⟨f, g1, ?_, ?_, fun i c hc => ?_⟩
    · rw [ha _ _ (by omega)]; exact g2
    · rw [ha _ _ (by omega)]; exact g3
    · rw [ha _ _ (by omega)]; exact g4 i c hc
/-- a tape at cell c, its length at place k of cell o -/
def xTp (S : z_S) (o k c : Nat) (tp : List Nat) : Prop := gI S o k = nI tp.length ∧ ∀ i, i < tp.length → gI S c i = nI (tp.getD i 0)
theorem xTp.ag {S S' : z_S} {o k c : Nat} {tp : List Nat} (h : xTp S o k c tp) (ha : agI (fun c' k' => c' = o ∧ k' = k ∨ c' = c) S S') : xTp S' o k c tp :=
  ⟨by rw [ha _ _ (Or.inl ⟨rfl, rfl⟩)]; exact h.1, fun i hi => by rw [ha _ _ (Or.inr rfl)]; exact h.2 i hi⟩
def q_kv (x : Nat × Nat × Nat) : Nat := x.1 * 256 + x.2.1 * 16 + x.2.2
/-- the Kept at cell p -/
def cKp (S : z_S) (p : Nat) (kl : List (Nat × Nat × Nat)) : Prop := kl.length ≤ 40 ∧ gI S p 0 = nI kl.length ∧ ∃ od, od < 40 ∧ gI S p 1 = nI od ∧ ∀ i, i < kl.length → gI S (p + 1) ((od + i) % 40) = nI (q_kv (kl.getD i (0, 0, 0)))
theorem cKp.ag {S S' : z_S} {p : Nat} {kl : List (Nat × Nat × Nat)} (h : cKp S p kl) (ha : agI (fun c _ => c = p ∨ c = p + 1) S S') : cKp S' p kl := by
  obtain ⟨h1, h2, od, h3, h4, h5⟩ := h
  refine ⟨h1, by rw [ha _ _ (Or.inl rfl)]; exact h2, od, h3, by rw [ha _ _ (Or.inl rfl)]; exact h4, fun i hi => by rw [ha _ _ (Or.inr rfl)]; exact h5 i hi⟩
def q_ud0 : q_St × List (Nat × Nat × Nat) := (q_no 0, [])
def cPa (S : z_S) (ud : List (q_St × List (Nat × Nat × Nat))) : Prop := ud.length ≤ 20 ∧ gI S 39 0 = nI ud.length ∧ ∃ nx, nx < 20 ∧ gI S 39 1 = nI nx ∧ ∀ j, j < ud.length → cSt S (42 + 7 * ((nx + 19 - j) % 20)) 16 (ud.getD j q_ud0).1 ∧ cKp S (47 + 7 * ((nx + 19 - j) % 20)) (ud.getD j q_ud0).2
theorem cPa.ag {S S' : z_S} {ud : List (q_St × List (Nat × Nat × Nat))} (h : cPa S ud) (ha : agI (fun c _ => c = 39 ∨ 42 ≤ c ∧ c ≤ 181) S S') : cPa S' ud := by
  obtain ⟨h1, h2, nx, h3, h4, h5⟩ := h
  refine ⟨h1, by rw [ha _ _ (Or.inl rfl)]; exact h2, nx, h3, by rw [ha _ _ (Or.inl rfl)]; exact h4, fun j hj => ?_⟩
  obtain ⟨g1, g2⟩ := h5 j hj
  have : (nx + 19 - j) % 20 < 20 := Nat.mod_lt _ (by decide)
  exact ⟨g1.ag fun c k z => ha c k (by unfold pD at z; omega), g2.ag fun c k z => ha c k (by omega)⟩
def cMt (S : z_S) (mt : List (Nat × Nat × Nat)) : Prop := gI S 182 0 = nI mt.length ∧ ∀ i, i < mt.length → gI S 183 (3 * i) = nI (mt.getD i (0, 0, 0)).1 ∧ gI S 183 (3 * i + 1) = nI (mt.getD i (0, 0, 0)).2.1 ∧ gI S 183 (3 * i + 2) = nI (mt.getD i (0, 0, 0)).2.2
theorem cMt.ag {S S' : z_S} {mt : List (Nat × Nat × Nat)} (h : cMt S mt) (ha : agI (fun c k => c = 182 ∧ k = 0 ∨ c = 183) S S') : cMt S' mt :=
  ⟨by rw [ha _ _ (Or.inl ⟨rfl, rfl⟩)]; exact h.1, fun i hi => by rw [ha _ _ (Or.inr rfl), ha _ _ (Or.inr rfl), ha _ _ (Or.inr rfl)]; exact h.2 i hi⟩
def cSc (S : z_S) (sd : Nat) (ft : Nat × Option Nat) : Prop := gI S 0 14 = nI sd ∧ gI S 0 15 = nI ft.1 ∧ gI S 0 16 = eO ft.2
theorem cSc.ag {S S' : z_S} {sd : Nat} {ft : Nat × Option Nat} (h : cSc S sd ft) (ha : agI (fun c k => c = 0 ∧ 14 ≤ k) S S') : cSc S' sd ft :=
  ⟨by rw [ha _ _ ⟨rfl, by omega⟩]; exact h.1, by rw [ha _ _ ⟨rfl, by omega⟩]; exact h.2.1, by rw [ha _ _ ⟨rfl, by omega⟩]; exact h.2.2⟩
def xRf (S : z_S) (c : Nat) (rf : Nat → Nat) : Prop := ∀ j, j < 6 → gI S c j = nI (rf j)
theorem xRf.ag {S S' : z_S} {c : Nat} {rf : Nat → Nat} (h : xRf S c rf) (ha : agI (fun c' _ => c' = c) S S') : xRf S' c rf := fun j hj => by rw [ha _ _ rfl]; exact h j hj
/-- the own words as numbers to base 27, in the order of the document -/
def q_own : List Nat := [["rooms", "bench", "steps", "knock", "lodger", "has", "in", "shut"], ["yields", "leaves", "rents", "night", "room", "nights", "empty", "step"], ["first", "if", "or", "and", "not", "all", "min", "max"]].flatten.map (fun w => q_nv (w.toList.map fun c => c.toNat - 96))
def cOw (S : z_S) : Prop := ∀ i, i < 24 → gI S 20 i = nI (q_own.getD i 0)
theorem cOw.ag {S S' : z_S} (h : cOw S) (ha : agI (fun c _ => c = 20) S S') : cOw S' := fun i hi => by rw [ha _ _ rfl]; exact h i hi
def cPp (S : z_S) (q : Nat) (P : q_Pl) : Prop := (q = 2 ∨ q = 10) ∧ gP S 0 2 = q ∧ gP S 22 0 = q ∧ gP S 0 3 = 12 - q ∧ cPl S q P
/-- what the class holds -/
def cA (S : z_S) (A : q_A) : Prop := z_W S ∧ xTp S 0 1 1 (a_tp A) ∧ (∃ q, cPp S q (a_P A)) ∧ cSt S 27 16 (a_s A) ∧ cKp S 37 (a_kl A) ∧ cPa S (a_ud A) ∧ cMt S (a_mt A) ∧ cSc S (a_sd A) (a_ft A) ∧ xRf S 395 (a_rf A) ∧ xTp S 393 0 394 (a_im A) ∧ cOw S
/-- what the class may change without being seen -/
def cScr : Nat → Nat → Prop := fun c k => c = 18 ∨ c = 19 ∨ c = 21 ∨ 23 ≤ c ∧ c ≤ 26 ∨ 32 ≤ c ∧ c ≤ 36 ∨ c = 182 ∧ k ≠ 0 ∨ 184 ≤ c ∧ c ≤ 392 ∨ 396 ≤ c
theorem cA.M {S S' : z_S} {A : q_A} (h : cA S A) (ho : onM cScr S S') : cA S' A := by
  obtain ⟨h1, h2, ⟨q, k1, k2, k3, k4, k5⟩, h4, h5, h6, h7, h8, h9, h10, h11⟩ := h
  unfold cScr at ho
  refine ⟨ho.W, h2.ag (ho.ag fun c k z => by omega), ⟨q, k1, by rw [ho.P]; exact k2, by rw [ho.P]; exact k3, by rw [ho.P]; exact k4, k5.ag (ho.ag fun c k z => by omega)⟩, h4.ag (ho.ag fun c k z => by unfold pD at z; omega), h5.ag (ho.ag fun c k z => by omega), h6.ag (ho.ag fun c k z => by omega), h7.ag (ho.ag fun c k z => by omega), h8.ag (ho.ag fun c k z => by omega), h9.ag (ho.ag fun c k z => by omega), h10.ag (ho.ag fun c k z => by omega), h11.ag (ho.ag fun c k z => by omega)⟩
theorem cA.scr {S S' : z_S} {A : q_A} (h : cA S A) {D : Nat → Nat → Prop} (ho : onI D S S') (hd : ∀ c k, D c k → cScr c k) : cA S' A := h.M (ho.M.mono hd)
/-- the reference's undo rows -/
def mPa (S : z_S) (ud : List (q_St × List (Nat × Nat × Nat))) : Prop := ud.length ≤ 20 ∧ gI S 396 54 = nI ud.length ∧ ∃ uf, uf < 20 ∧ gI S 396 53 = nI uf ∧ ∀ j, j < ud.length → mSt S (2 + (uf + (ud.length - 1 - j)) % 20) (ud.getD j q_ud0).1 ∧ mKp S (2 + (uf + (ud.length - 1 - j)) % 20) (ud.getD j q_ud0).2
theorem mSt.ag {S S' : z_S} {v : Nat} {s : q_St} (h : mSt S v s) (hl : (q_l s).length ≤ 6) (ha : agI (vD v) S S') : mSt S' v s := by
  obtain ⟨h0, h1, h2, h3, h4, h5, h6⟩ := h
  unfold agI vD at ha
  refine ⟨?_, ?_, ?_, ?_, fun r hr => ?_, fun k hk => ?_, fun i hi => ?_⟩
  · rw [ha _ _ (by omega)]; exact h0
  · rw [ha _ _ (by omega)]; exact h1
  · rw [ha _ _ (by omega)]; exact h2
  · rw [ha _ _ (by omega)]; exact h3
  · rw [ha _ _ (by omega)]; exact h4 r hr
  · rw [ha _ _ (by omega)]; exact h5 k hk
  · rw [ha _ _ (by omega)]; exact h6 i hi
theorem mKp.ag {S S' : z_S} {v : Nat} {kl : List (Nat × Nat × Nat)} (h : mKp S v kl) (ha : agI (kD v) S S') : mKp S' v kl := by
  obtain ⟨h1, h2, h3⟩ := h
  unfold agI kD at ha
  refine ⟨h1, by rw [ha _ _ (by omega)]; exact h2, fun i hi => ?_⟩
  rw [ha _ _ (by omega), ha _ _ (by omega), ha _ _ (by omega)]
  exact h3 i hi
theorem mPa.ag {S S' : z_S} {ud : List (q_St × List (Nat × Nat × Nat))} (h : mPa S ud) (hl : ∀ u, u ∈ ud → (q_l u.1).length ≤ 6) (ha : agI (fun c k => c = 396 ∧ (k = 53 ∨ k = 54) ∨ ∃ v, 2 ≤ v ∧ (vD v c k ∨ kD v c k)) S S') : mPa S' ud := by
  obtain ⟨h1, h2, uf, h3, h4, h5⟩ := h
  refine ⟨h1, by rw [ha _ _ (Or.inl ⟨rfl, by omega⟩)]; exact h2, uf, h3, by rw [ha _ _ (Or.inl ⟨rfl, by omega⟩)]; exact h4, fun j hj => ?_⟩
  obtain ⟨g1, g2⟩ := h5 j hj
  have hm : ud.getD j q_ud0 ∈ ud := by rw [List.getD_eq_getElem?_getD, List.getElem?_eq_getElem hj]; exact List.getElem_mem _
  exact ⟨g1.ag (hl _ hm) fun c k z => ha c k (Or.inr ⟨_, by omega, Or.inl z⟩), g2.ag fun c k z => ha c k (Or.inr ⟨_, by omega, Or.inr z⟩)⟩
def mMt (S : z_S) (mt : List (Nat × Nat × Nat)) : Prop := gI S 396 63 = nI mt.length ∧ ∀ i, i < mt.length → gI S 435 i = nI (mt.getD i (0, 0, 0)).1 ∧ gI S 436 i = nI (mt.getD i (0, 0, 0)).2.1 ∧ gI S 437 i = eO (if (mt.getD i (0, 0, 0)).2.2 = 255 then none else some (mt.getD i (0, 0, 0)).2.2)
theorem mMt.ag {S S' : z_S} {mt : List (Nat × Nat × Nat)} (h : mMt S mt) (ha : agI (fun c k => c = 396 ∧ k = 63 ∨ 435 ≤ c ∧ c ≤ 437) S S') : mMt S' mt :=
  ⟨by rw [ha _ _ (Or.inl ⟨rfl, rfl⟩)]; exact h.1, fun i hi => by rw [ha _ _ (Or.inr (by omega)), ha _ _ (Or.inr (by omega)), ha _ _ (Or.inr (by omega))]; exact h.2 i hi⟩
def mSc (S : z_S) (sd : Nat) (ft : Nat × Option Nat) : Prop := gL S 396 55 = lN sd ∧ gI S 396 10 = nI ft.1 ∧ gI S 396 11 = eO ft.2
/-- the state as the reference holds it: its rooms are not yet told while no house stands -/
def m_s (A : q_A) : q_St := (q_n (a_s A), q_p (a_s A), q_h (a_s A), q_t (a_s A), (if p_m (a_P A) = 0 then fun _ => some 0 else q_s (a_s A)), q_w (a_s A), q_y (a_s A), q_l (a_s A))
theorem m_s_eq {A : q_A} (h : 0 < p_m (a_P A)) : m_s A = a_s A := by
  unfold m_s
  rw [if_neg (by omega)]
  rfl
/-- what the reference holds -/
def mA (S : z_S) (A : q_A) : Prop := xTp S 396 1 397 (a_tp A) ∧ (∃ b, cM S b (a_P A)) ∧ gI S 396 42 = bI (decide (0 < p_m (a_P A))) ∧ gI S 396 56 = nI (p_T (a_P A)) ∧ mSt S 0 (m_s A) ∧ mKp S 0 (a_kl A) ∧ mPa S (a_ud A) ∧ mMt S (a_mt A) ∧ mSc S (a_sd A) (a_ft A) ∧ xRf S 419 (a_rf A) ∧ xTp S 396 71 441 (a_im A)
theorem mA.st {S : z_S} {A : q_A} (h : mA S A) (hm : 0 < p_m (a_P A)) : mSt S 0 (a_s A) := by
  have := h.2.2.2.2.1
  rw [m_s_eq hm] at this
  exact this
/-- numbers of what is kept -/
def q_kok (kl : List (Nat × Nat × Nat)) : Prop := ∀ x, x ∈ kl → x.1 ≤ 999 ∧ x.2.1 < 16 ∧ x.2.2 < 16
/-- right wholes -/
def aOk (A : q_A) : Prop := p_Wf (a_P A) ∧ q_Gd (a_P A) (a_s A) ∧ q_n (a_s A) ≤ 999 ∧ q_kok (a_kl A) ∧ (∀ u, u ∈ a_ud A → q_Gd (a_P A) u.1 ∧ q_n u.1 ≤ 999 ∧ q_kok u.2) ∧ ((a_mt A).length ≤ 16 ∧ ∀ x, x ∈ a_mt A → x.1 ≤ 30 ∧ x.2.1 < p_R (a_P A) ∧ (x.2.2 < p_L (a_P A) ∨ x.2.2 = 255)) ∧ a_sd A < 2147483648 ∧ ((a_tp A).length ≤ 1600 ∧ ∀ x, x ∈ a_tp A → x < 256) ∧ (a_im A).length ≤ 61 ∧ (p_m (a_P A) = 0 → p_R (a_P A) = 0 ∧ p_B (a_P A) = 0 ∧ p_T (a_P A) = 0 ∧ p_L (a_P A) = 0 ∧ q_n (a_s A) = 0 ∧ q_p (a_s A) = 0 ∧ a_kl A = [] ∧ a_ud A = [] ∧ a_mt A = [])
theorem aOk.mL {A : q_A} {k : Nat} (hA : aOk A) (h : k < p_L (a_P A)) : 0 < p_m (a_P A) := by
  rcases Nat.eq_zero_or_pos (p_m (a_P A)) with z | z
  · have := (hA.2.2.2.2.2.2.2.2.2 z).2.2.2.1; omega
  · exact z
theorem aOk.mR {A : q_A} {k : Nat} (hA : aOk A) (h : k < p_R (a_P A)) : 0 < p_m (a_P A) := by
  rcases Nat.eq_zero_or_pos (p_m (a_P A)) with z | z
  · have := (hA.2.2.2.2.2.2.2.2.2 z).1; omega
  · exact z
/-- what the reference may change without being seen -/
def mScr : Nat → Nat → Prop := fun c k => vD 1 c k ∨ kD 1 c k ∨ 429 ≤ c ∧ c ≤ 434 ∨ 438 ≤ c ∧ c ≤ 440 ∨ c < 396
theorem mA.M {S S' : z_S} {A : q_A} (h : mA S A) (hA : aOk A) (ho : onM mScr S S') : mA S' A := by
  obtain ⟨h1, ⟨b, h2⟩, h3, h4, h5, h6, h7, h8, h9, h10, h11⟩ := h
  have hP := hA.1
  have hl := (hA.2.1.Bd hP).2.2.1
  unfold mScr vD kD at ho
  refine ⟨h1.ag (ho.ag fun c k z => by omega), ⟨b, h2.on ho (fun c k z w => by omega)⟩, by rw [ho.I (by omega)]; exact h3, by rw [ho.I (by omega)]; exact h4, h5.ag hl (ho.ag fun c k z => by unfold vD at z; omega), h6.ag (ho.ag fun c k z => by unfold kD at z; omega), h7.ag (fun u hu => ((hA.2.2.2.2.1 u hu).1.Bd hP).2.2.1) (ho.ag fun c k z => ?_), h8.ag (ho.ag fun c k z => by omega), ⟨by rw [ho.L (by omega)]; exact h9.1, by rw [ho.I (by omega)]; exact h9.2.1, by rw [ho.I (by omega)]; exact h9.2.2⟩, h10.ag (ho.ag fun c k z => by omega), h11.ag (ho.ag fun c k z => by omega)⟩
  rcases z with z | ⟨v, z1, z2⟩
  · omega
  · unfold vD kD at z2; omega
theorem mA.scr {S S' : z_S} {A : q_A} (h : mA S A) (hA : aOk A) {D : Nat → Nat → Prop} (ho : onM D S S') (hd : ∀ c k, D c k → mScr c k) : mA S' A := h.M hA (ho.mono hd)
/-- both -/
def iA (S : z_S) (A : q_A) : Prop := cA S A ∧ mA S A ∧ aOk A
/-- a call to both with one answer; the class's first -/
def twoI (D mc mm : Nat) (as : List Value) (A A' : q_A) : Prop := ∀ S, iA S A → ∃ v S1 S2, fI D mc (.ref 0 :: as) S = some (v, S1) ∧ fI D mm (.ref 396 :: as) S1 = some (v, S2) ∧ iA S2 A'
/-- a call that changes nothing that is seen -/
theorem two_q {D mc mm : Nat} {as : List Value} {A : q_A} (v : Int32) (hc : ∀ S, cA S A → aOk A → ∃ S1, fI D mc (.ref 0 :: as) S = some (v, S1) ∧ onI (fun c k => c < 396 ∧ cScr c k) S S1) (hm : ∀ S, mA S A → aOk A → ∃ S1, fI D mm (.ref 396 :: as) S = some (v, S1) ∧ onM (fun c k => 396 ≤ c ∧ mScr c k) S S1) : twoI D mc mm as A A := by
  intro S ⟨h1, h2, h3⟩
  obtain ⟨S1, a1, a2⟩ := hc S h1 h3
  have hc1 := h1.scr a2 fun c k z => z.2
  have hm1 := h2.M h3 (a2.M.mono fun c k z => by unfold mScr; omega)
  obtain ⟨S2, b1, b2⟩ := hm S1 hm1 h3
  refine ⟨v, S1, S2, a1, b1, hc1.M (b2.mono fun c k z => by unfold cScr; omega), hm1.scr h3 b2 fun c k z => z.2, h3⟩
/-- a call that changes something -/
theorem two_m {D mc mm : Nat} {as : List Value} {A A' : q_A} (v : Int32) (hk : aOk A → aOk A') (hc : ∀ S, cA S A → aOk A → ∃ S1, fI D mc (.ref 0 :: as) S = some (v, S1) ∧ onM (fun c _ => c < 396) S S1 ∧ cA S1 A') (hm : ∀ S, mA S A → aOk A → ∃ S1, fI D mm (.ref 396 :: as) S = some (v, S1) ∧ onM (fun c _ => 396 ≤ c) S S1 ∧ mA S1 A') : twoI D mc mm as A A' := by
  intro S ⟨h1, h2, h3⟩
  obtain ⟨S1, a1, a2, a3⟩ := hc S h1 h3
  have hm1 := h2.M h3 (a2.mono fun c k z => by unfold mScr; omega)
  obtain ⟨S2, b1, b2, b3⟩ := hm S1 hm1 h3
  exact ⟨v, S1, S2, a1, b1, a3.M (b2.mono fun c k z => by unfold cScr; omega), b3, hk h3⟩
