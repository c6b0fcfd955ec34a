/-! MEETINGS: meet. -/
def q_mtk (P : q_Pl) (tp : List Nat) (i : Nat) : Bool := decide (tp.getD (3 * i) 0 ≤ 30) && ixO (p_R P) (nI (tp.getD (3 * i + 1) 0)) && (decide (tp.getD (3 * i + 2) 0 = 255) || ixO (p_L P) (nI (tp.getD (3 * i + 2) 0)))
def q_mfr (P : q_Pl) (tp : List Nat) : Nat → Nat → Bool
  | _, 0 => true
  | i, m + 1 => q_mtk P tp i && q_mfr P tp (i + 1) m
def q_mok (P : q_Pl) (tp : List Nat) : Bool := decide (0 < tp.length ∧ tp.length ≤ 48 ∧ tp.length % 3 = 0) && q_mfr P tp 0 (tp.length / 3)
def q_mt3 (tp : List Nat) (i : Nat) : Nat × Nat × Nat := (tp.getD (3 * i) 0, tp.getD (3 * i + 1) 0, tp.getD (3 * i + 2) 0)
def q_mts (tp : List Nat) (n : Nat) : List (Nat × Nat × Nat) := (List.range n).map (q_mt3 tp)
theorem q_mts_l (tp : List Nat) (n : Nat) : (q_mts tp n).length = n := by unfold q_mts; rw [List.length_map, List.length_range]
theorem q_mts_g {tp : List Nat} {n i : Nat} (h : i < n) : (q_mts tp n).getD i (0, 0, 0) = q_mt3 tp i := by
  unfold q_mts
  rw [List.getD_eq_getElem?_getD, List.getElem?_map, List.getElem?_range h]
  rfl
theorem q_mfr_t {P : q_Pl} {tp : List Nat} : ∀ (m i : Nat), q_mfr P tp i m = true → ∀ j, i ≤ j → j < i + m → q_mtk P tp j = true
  | 0, i, _, j, h1, h2 => by omega
  | m + 1, i, h, j, h1, h2 => by
    rw [q_mfr, Bool.and_eq_true] at h
    by_cases z : j = i
    · rw [z]; exact h.1
    · exact q_mfr_t m (i + 1) h.2 j (by omega) (by omega)
theorem tp_b {tp : List Nat} (hb : ∀ x, x ∈ tp → x < 256) (i : Nat) : tp.getD i 0 < 256 := by
  rw [List.getD_eq_getElem?_getD]
  by_cases z : i < tp.length
  · rw [List.getElem?_eq_getElem z]; exact hb _ (List.getElem_mem _)
  · rw [List.getElem?_eq_none (by omega)]; decide
section TO
variable {d q b : Nat} {S : z_S} {A : q_A} {P : q_Pl} {tp : List Nat}
theorem c84_l (hW : z_W S) (hq : z_K q = 6) (hC : cPl S q P) (hP : p_Wf P) (ht : xTp S 0 1 1 tp) (hb : ∀ x, x ∈ tp → x < 256) (hl : tp.length ≤ 48) {n : Nat} (hn : tp.length = 3 * n) : ∀ m i, i + m = n → b84_31 (d + 1) 1 (nI tp.length) q (nI (3 * i)) S = some (if q_mfr P tp i m = true then ((1 : Int32), sI (cI S 1 0 183 0 tp.length) 182 0 (nI n)) else (0, S))
  | 0, i, hi => by
    have e := b84_31_eq (d + 1) 1 (nI tp.length) q (nI (3 * i)) S hW (by decide +kernel) hq
    have hln : z_Ln 1 = 1600 := by decide +kernel
    have hdv : nI tp.length / (3 : Int32) = nI n := (pk_div (d := 3) (by omega) (by omega) (by omega)).trans (by rw [hn, Nat.mul_div_cancel_left _ (by omega)])
    rw [show (2 : Int32) = nI 2 from rfl, nI_add, if_pos ((nI_leI (by omega) (by omega)).mpr (by omega)), hln, nI_toInt (by omega), if_pos (by rw [show ((0 : Int32)).toInt = 0 from rfl]; omega), hdv, nI_clamp (by omega), ci_0] at e
    rw [e, q_mfr, if_pos rfl]
  | m + 1, i, hi => by
    have e := b84_31_eq (d + 1) 1 (nI tp.length) q (nI (3 * i)) S hW (by decide +kernel) hq
    have hln : z_Ln 1 = 1600 := by decide +kernel
    have g0 : gI S 1 (nI (3 * i)).toNatClampNeg = nI (tp.getD (3 * i) 0) := by rw [nI_clamp (by omega)]; exact ht.2 _ (by omega)
    have g1 : gI S 1 (nI (3 * i + 1)).toNatClampNeg = nI (tp.getD (3 * i + 1) 0) := by rw [nI_clamp (by omega)]; exact ht.2 _ (by omega)
    have g2 : gI S 1 (nI (3 * i + 2)).toNatClampNeg = nI (tp.getD (3 * i + 2) 0) := by rw [nI_clamp (by omega)]; exact ht.2 _ (by omega)
    have l0 := tp_b hb (3 * i)
    have l2 := tp_b hb (3 * i + 2)
    have ih := c84_l hW hq hC hP ht hb hl hn m (i + 1) (by omega)
    have e69 : ∀ s : Bool, b84_69 (d + 1) 1 (nI tp.length) q (nI (3 * i)) (bI s) S = some (if (decide (tp.getD (3 * i) 0 ≤ 30) && ixO (p_R P) (nI (tp.getD (3 * i + 1) 0)) && s && q_mfr P tp (i + 1) m) = true then ((1 : Int32), sI (cI S 1 0 183 0 tp.length) 182 0 (nI n)) else (0, S)) := fun s => by
      have e := b84_69_eq (d + 1) 1 (nI tp.length) q (nI (3 * i)) (bI s) S hW (by decide +kernel) hq
      rw [hln, if_pos ((ni_in (by omega)).mpr (by omega)), g0, show (1 : Int32) = nI 1 from rfl, nI_add, if_pos ((ni_in (by omega)).mpr (by omega)), g1, c58x (d := d) hW hq hC hP, zb_some, show (3 : Int32) = nI 3 from rfl, nI_add, show 3 * i + 3 = 3 * (i + 1) by omega, ih] at e
      by_cases z0 : tp.getD (3 * i) 0 ≤ 30
      · rw [if_neg (fun z => by have := (nI_ltI (a := 30) (by omega) (by omega)).mp z; omega)] at e
        rw [e, decide_eq_true z0, Bool.true_and]
        cases ixO (p_R P) (nI (tp.getD (3 * i + 1) 0))
        · rfl
        · cases s
          · rfl
          · rw [Bool.true_and, Bool.true_and]; rfl
      · rw [if_pos (show (30 : Int32) < nI (tp.getD (3 * i) 0) from (nI_ltI (a := 30) (by omega) (by omega)).mpr (by omega))] at e
        rw [e, decide_eq_false z0]
        rfl
    rw [q_mfr, q_mtk]
    rw [show (2 : Int32) = nI 2 from rfl, nI_add, if_neg (fun z => by have := (nI_leI (by omega) (by omega)).mp z; omega), hln, if_pos ((ni_in (by omega)).mpr (by omega)), if_pos ((ni_in (by omega)).mpr (by omega)), g2, c59x (d := d) hW hq hC hP, zb_some, b84_64_eq (d + 1) 1 (nI tp.length) q (nI (3 * i)) S hW (by decide +kernel) hq] at e
    have e1 : b84_69 (d + 1) 1 (nI tp.length) q (nI (3 * i)) (1 : Int32) S = _ := e69 true
    have e0 : b84_69 (d + 1) 1 (nI tp.length) q (nI (3 * i)) (0 : Int32) S = _ := e69 false
    by_cases z : tp.getD (3 * i + 2) 0 = 255
    · rw [if_pos (show nI (tp.getD (3 * i + 2) 0) = (255 : Int32) by rw [z]; rfl), e1] at e
      rw [e, decide_eq_true z, Bool.true_or]
    · rw [if_neg (show ¬ nI (tp.getD (3 * i + 2) 0) = (255 : Int32) from fun w => z ((nI_eq (b := 255) (by omega) (by omega)).mp w))] at e
      rw [decide_eq_false z, Bool.false_or]
      cases hx : ixO (p_L P) (nI (tp.getD (3 * i + 2) 0))
      · rw [hx, if_pos (by decide), e0] at e
        exact e
      · rw [hx, if_neg (by decide), e1] at e
        exact e
theorem c84 (hW : z_W S) (hq : z_K q = 6) (hC : cPl S q P) (hP : p_Wf P) (ht : xTp S 0 1 1 tp) (hb : ∀ x, x ∈ tp → x < 256) (hl : tp.length ≤ 1600) : fI (d + 2) 84 [.ref 182, .ref 1, .int (nI tp.length), .ref q] S = some (if q_mok P tp = true then ((1 : Int32), sI (cI S 1 0 183 0 tp.length) 182 0 (nI (tp.length / 3))) else (0, S)) := by
  have e := e84 (d + 1) 1 (nI tp.length) q S hW (by decide +kernel) hq
  have hln : z_Ln 1 = 1600 := by decide +kernel
  have hr : nI tp.length - nI tp.length / (3 : Int32) * (3 : Int32) = nI (tp.length % 3) := pk_rem (d := 3) (by omega) (by omega) (by omega)
  have h3 : nI tp.length < (3 : Int32) ↔ tp.length < 3 := nI_ltI (b := 3) (by omega) (by omega)
  have h48 : Int32.ofNat 48 < nI tp.length ↔ 48 < tp.length := nI_ltI (a := 48) (by omega) (by omega)
  have h16 : Int32.ofNat (z_Ln 1) < nI tp.length ↔ 1600 < tp.length := by rw [hln]; exact nI_ltI (a := 1600) (by omega) (by omega)
  have h0 : nI (tp.length % 3) = (0 : Int32) ↔ tp.length % 3 = 0 := nI_eq (b := 0) (by omega) (by omega)
  rw [hr] at e
  unfold q_mok
  by_cases c : 0 < tp.length ∧ tp.length ≤ 48 ∧ tp.length % 3 = 0
  · rw [if_neg (fun z => by have := h3.mp z; omega), if_neg (fun z => by have := h48.mp z; omega), if_neg (fun z => by have := h16.mp z; omega), if_pos (h0.mpr c.2.2)] at e
    have := c84_l (d := d) hW hq hC hP ht hb c.2.1 (n := tp.length / 3) (by omega) (tp.length / 3) 0 (by omega)
    rw [decide_eq_true c, Bool.true_and]
    exact e.trans this
  · rw [decide_eq_false c, Bool.false_and, if_neg (by decide)]
    by_cases c1 : tp.length < 3
    · rw [if_pos (h3.mpr c1)] at e; exact e
    · rw [if_neg (fun z => c1 (h3.mp z))] at e
      by_cases c2 : 48 < tp.length
      · rw [if_pos (h48.mpr c2)] at e; exact e
      · rw [if_neg (fun z => c2 (h48.mp z)), if_neg (fun z => by have := h16.mp z; omega), if_neg (fun z => by have := h0.mp z; omega)] at e
        exact e
def a_met (A : q_A) (mt : List (Nat × Nat × Nat)) : q_A := ([], a_P A, a_s A, a_kl A, a_ud A, mt, a_sd A, a_ft A, a_rf A, a_im A)
theorem cA.met {S' : z_S} {mt : List (Nat × Nat × Nat)} (h : cA S A) (ho : onI (fun c k => c = 0 ∧ k = 1 ∨ c = 182 ∧ k = 0 ∨ c = 183) S S') (ht : gI S' 0 1 = nI 0) (hm : cMt S' mt) : cA S' (a_met A mt) := by
  obtain ⟨h1, h2, ⟨q, k1, k2, k3, k4, k5⟩, h4, h5, h6, h7, h8, h9, h10, h11⟩ := h
  exact ⟨ho.W, ⟨ht, fun i hi => absurd hi (by simp [a_met, a_tp])⟩, ⟨q, k1, by rw [ho.P]; exact k2, by rw [ho.P]; exact k3, by rw [ho.P]; exact k4, k5.ag (ho.ag fun c k z => by omega)⟩, h4.ag (ho.ag fun c k z => by unfold pD at z; omega), h5.ag (ho.ag fun c k z => by omega), h6.ag (ho.ag fun c k z => by omega), hm, h8.ag (ho.ag fun c k z => by omega), h9.ag (ho.ag fun c k z => by omega), h10.ag (ho.ag fun c k z => by omega), h11.ag (ho.ag fun c k z => by omega)⟩
theorem mA.met {S' : z_S} {mt : List (Nat × Nat × Nat)} (h : mA S A) (hA : aOk A) (ho : onM (fun c k => c = 396 ∧ (k = 1 ∨ k = 63) ∨ 435 ≤ c ∧ c ≤ 437) S S') (ht : gI S' 396 1 = nI 0) (hm : mMt S' mt) : mA S' (a_met A mt) := by
  obtain ⟨g1, g2, g3, g4, g5, g6, g7, g8⟩ := h.but hA ho (fun c k z => by omega)
  obtain ⟨h1, ⟨b, h2⟩, h3, h4, h5, h6, h7, h8, h9, h10, h11⟩ := h
  exact ⟨⟨ht, fun i hi => absurd hi (by simp [a_met, a_tp])⟩, g1, g2, g3, g4, g5, g6, hm, g7, g8, h11.ag (ho.ag fun c k z => by omega)⟩
/-- the tape's places still hold what was told, though its length is 0 -/
theorem m253_1 (hM : cM S b P) (ht : ∀ i, i < tp.length → gI S 397 i = nI (tp.getD i 0)) (hb : ∀ x, x ∈ tp → x < 256) (hl : tp.length ≤ 48) {n : Nat} (hn : tp.length = 3 * n) : ∀ m i (s : Bool), i + m = n → b253_34 (d + 1) (nI tp.length) (bI s) (nI (3 * i)) S = b253_110 (d + 1) (nI tp.length) (bI (s && q_mfr P tp i m)) S
  | m, i, false, hi => by
    have e := b253_34_eq (d + 1) (nI tp.length) (bI false) (nI (3 * i)) S hM.1
    rw [if_pos (show bI false = (0 : Int32) from rfl), ite_self] at e
    rw [Bool.false_and]
    exact e
  | 0, i, true, hi => by
    have e := b253_34_eq (d + 1) (nI tp.length) (bI true) (nI (3 * i)) S hM.1
    rw [if_pos ((nI_leI (by omega) (by omega)).mpr (by omega))] at e
    exact e
  | m + 1, i, true, hi => by
    have e := b253_34_eq (d + 1) (nI tp.length) (bI true) (nI (3 * i)) S hM.1
    have g0 : gI S 397 (nI (3 * i)).toNatClampNeg = nI (tp.getD (3 * i) 0) := by rw [nI_clamp (by omega)]; exact ht _ (by omega)
    have g1 : gI S 397 (nI (3 * i + 1)).toNatClampNeg = nI (tp.getD (3 * i + 1) 0) := by rw [nI_clamp (by omega)]; exact ht _ (by omega)
    have g2 : gI S 397 (nI (3 * i + 2)).toNatClampNeg = nI (tp.getD (3 * i + 2) 0) := by rw [nI_clamp (by omega)]; exact ht _ (by omega)
    have l0 := tp_b hb (3 * i)
    have l2 := tp_b hb (3 * i + 2)
    have i0 : z_in (nI (3 * i)) 1800 := (ni_in (by omega)).mpr (by omega)
    have i1 : z_in (nI (3 * i + 1)) 1800 := (ni_in (by omega)).mpr (by omega)
    have i2 : z_in (nI (3 * i + 2)) 1800 := (ni_in (by omega)).mpr (by omega)
    have e102 := b253_102_eq (d + 1) (nI tp.length) (nI (3 * i)) S hM.1
    have e98 := b253_98_eq (d + 1) (nI tp.length) (nI (3 * i)) S hM.1
    have e103 : ∀ t : Bool, b253_103 (d + 1) (nI tp.length) (nI (3 * i)) (bI t) S = b253_110 (d + 1) (nI tp.length) (bI (t && q_mfr P tp (i + 1) m)) S := fun t => by
      have e := b253_103_eq (d + 1) (nI tp.length) (nI (3 * i)) (bI t) S hM.1
      rw [show (3 : Int32) = nI 3 from rfl, nI_add, show 3 * i + 3 = 3 * (i + 1) by omega] at e
      exact e.trans (m253_1 hM ht hb hl hn m (i + 1) t (by omega))
    have x0 : b253_102 (d + 1) (nI tp.length) (nI (3 * i)) S = b253_110 (d + 1) (nI tp.length) (bI false) S := e102.trans (e103 false)
    have x1 : b253_98 (d + 1) (nI tp.length) (nI (3 * i)) S = b253_110 (d + 1) (nI tp.length) (bI (q_mfr P tp (i + 1) m)) S := e98.trans (e103 true)
    rw [if_neg (show ¬ nI tp.length ≤ nI (3 * i) from fun z => by have := (nI_leI (by omega) (by omega)).mp z; omega), if_neg (show ¬ bI true = (0 : Int32) by decide), if_pos i0, g0, show (1 : Int32) = nI 1 from rfl, show (2 : Int32) = nI 2 from rfl, nI_add, nI_add, if_pos i1, g1, m227 (d := d) hM, zb_some, if_pos i2, g2, m228 (d := d) hM, zb_some, if_pos i2, g2, x0, x1] at e
    rw [e, Bool.true_and, q_mfr, q_mtk]
    by_cases z0 : tp.getD (3 * i) 0 ≤ 30
    · rw [if_neg (show ¬ (30 : Int32) < nI (tp.getD (3 * i) 0) from fun z => by have := (nI_ltI (a := 30) (by omega) (by omega)).mp z; omega), decide_eq_true z0, Bool.true_and]
      cases ixO (p_R P) (nI (tp.getD (3 * i + 1) 0))
      · rfl
      · rw [if_neg (by decide), Bool.true_and]
        cases ixO (p_L P) (nI (tp.getD (3 * i + 2) 0))
        · rw [if_neg (by decide), Bool.or_false]
          by_cases z : tp.getD (3 * i + 2) 0 = 255
          · rw [if_neg (show ¬ ¬ nI (tp.getD (3 * i + 2) 0) = (255 : Int32) by rw [z]; exact fun w => w rfl), decide_eq_true z, Bool.true_and]
          · rw [if_pos (show ¬ nI (tp.getD (3 * i + 2) 0) = (255 : Int32) from fun w => z ((nI_eq (b := 255) (by omega) (by omega)).mp w)), decide_eq_false z, Bool.false_and]
        · rw [if_pos (by decide), Bool.or_true, Bool.true_and]
    · rw [if_pos (show (30 : Int32) < nI (tp.getD (3 * i) 0) from (nI_ltI (a := 30) (by omega) (by omega)).mpr (by omega)), decide_eq_false z0]
      rfl
def mtD : Nat → Nat → Prop := fun c _ => 435 ≤ c ∧ c ≤ 437
theorem m253_2 {S0 : z_S} (ht : ∀ i, i < tp.length → gI S0 397 i = nI (tp.getD i 0)) (hb : ∀ x, x ∈ tp → x < 256) {n : Nat} (hn2 : n ≤ 16) (hn : tp.length = 3 * n) (h63 : gI S0 396 63 = nI n) : ∀ m i (S : z_S), i + m = n → onM mtD S0 S → (∀ j, j < i → gI S 435 j = nI (q_mt3 tp j).1 ∧ gI S 436 j = nI (q_mt3 tp j).2.1 ∧ gI S 437 j = eO (if (q_mt3 tp j).2.2 = 255 then none else some (q_mt3 tp j).2.2)) → ∃ S', b253_129 d (nI i) S = some (nI n, S') ∧ onM mtD S0 S' ∧ ∀ j, j < n → gI S' 435 j = nI (q_mt3 tp j).1 ∧ gI S' 436 j = nI (q_mt3 tp j).2.1 ∧ gI S' 437 j = eO (if (q_mt3 tp j).2.2 = 255 then none else some (q_mt3 tp j).2.2)
  | 0, i, S, hi, ho, hx => by
    have e := b253_129_eq d (nI i) S ho.W
    have h2 : gI S 396 63 = nI n := by rw [ho.I (by unfold mtD; omega)]; exact h63
    rw [h2, if_pos ((nI_leI (by omega) (by omega)).mpr (by omega))] at e
    exact ⟨S, e, ho, fun j hj => hx j (by omega)⟩
  | m + 1, i, S, hi, ho, hx => by
    have e := b253_129_eq d (nI i) S ho.W
    have h2 : gI S 396 63 = nI n := by rw [ho.I (by unfold mtD; omega)]; exact h63
    have hT : ∀ k, k < tp.length → gI S 397 k = nI (tp.getD k 0) := fun k hk => by rw [ho.I (by unfold mtD; omega)]; exact ht k hk
    have g0 : gI S 397 (nI (3 * i)).toNatClampNeg = nI (tp.getD (3 * i) 0) := by rw [nI_clamp (by omega)]; exact hT _ (by omega)
    have g1 : ∀ k v, gI (sI S 435 k v) 397 (nI (3 * i + 1)).toNatClampNeg = nI (tp.getD (3 * i + 1) 0) := fun k v => by rw [gI_sI, if_neg (by decide), nI_clamp (by omega)]; exact hT _ (by omega)
    have g2 : ∀ k v k' v', gI (sI (sI S 435 k v) 436 k' v') 397 (nI (3 * i + 2)).toNatClampNeg = nI (tp.getD (3 * i + 2) 0) := fun k v k' v' => by rw [gI_sI, if_neg (by decide), gI_sI, if_neg (by decide), nI_clamp (by omega)]; exact hT _ (by omega)
    have l2 := tp_b hb (3 * i + 2)
    have i0 : z_in (nI (3 * i)) 1800 := (ni_in (by omega)).mpr (by omega)
    have i1 : z_in (nI (3 * i + 1)) 1800 := (ni_in (by omega)).mpr (by omega)
    have i2 : z_in (nI (3 * i + 2)) 1800 := (ni_in (by omega)).mpr (by omega)
    have i3 : z_in (nI i) 16 := (ni_in (by omega)).mpr (by omega)
    have hc : (nI i).toNatClampNeg = i := nI_clamp (by omega)
    have hW2 : z_W (sI (sI S 435 i (nI (tp.getD (3 * i) 0))) 436 i (nI (tp.getD (3 * i + 1) 0))) := ho.W
    rw [h2, if_neg (show ¬ nI n ≤ nI i from fun z => by have := (nI_leI (by omega) (by omega)).mp z; omega), show (3 : Int32) = nI 3 from rfl, pk_mul, show (1 : Int32) = nI 1 from rfl, show (2 : Int32) = nI 2 from rfl, nI_add, nI_add, if_pos i0, if_pos i3, if_pos i1, if_pos i3, if_pos i2, g0, g1, g2, if_pos i2, hc] at e
    have e202 : ∀ v, b253_202 d (nI i) v (nI i) (sI (sI S 435 i (nI (tp.getD (3 * i) 0))) 436 i (nI (tp.getD (3 * i + 1) 0))) = b253_129 d (nI (i + 1)) (sI (sI (sI S 435 i (nI (tp.getD (3 * i) 0))) 436 i (nI (tp.getD (3 * i + 1) 0))) 437 i v) := fun v => by
      have e2 := b253_202_eq d (nI i) v (nI i) _ hW2
      rw [if_pos i3, show (1 : Int32) = nI 1 from rfl, nI_add, hc] at e2
      exact e2
    have e3 : b253_129 d (nI i) S = b253_129 d (nI (i + 1)) (sI (sI (sI S 435 i (nI (tp.getD (3 * i) 0))) 436 i (nI (tp.getD (3 * i + 1) 0))) 437 i (eO (if tp.getD (3 * i + 2) 0 = 255 then none else some (tp.getD (3 * i + 2) 0)))) := by
      by_cases z : tp.getD (3 * i + 2) 0 = 255
      · rw [if_neg (show ¬ ¬ nI (tp.getD (3 * i + 2) 0) = (255 : Int32) by rw [z]; exact fun w => w rfl), e202] at e
        rw [if_pos z]
        exact e
      · rw [if_pos (show ¬ nI (tp.getD (3 * i + 2) 0) = (255 : Int32) from fun w => z ((nI_eq (b := 255) (by omega) (by omega)).mp w)), e202] at e
        rw [if_neg z]
        exact e
    have o2 : onM mtD S0 (sI (sI (sI S 435 i (nI (tp.getD (3 * i) 0))) 436 i (nI (tp.getD (3 * i + 1) 0))) 437 i (eO (if tp.getD (3 * i + 2) 0 = 255 then none else some (tp.getD (3 * i + 2) 0)))) := onM_sI (D := mtD) (c := 437) (onM_sI (D := mtD) (c := 436) (onM_sI (D := mtD) (c := 435) ho (by unfold mtD; omega)) (by unfold mtD; omega)) (by unfold mtD; omega)
    obtain ⟨S2, b1, b2, b3⟩ := m253_2 ht hb hn2 hn h63 m (i + 1) _ (by omega) o2 (fun j hj => by
      by_cases z : j = i
      · subst z
        refine ⟨?_, ?_, ?_⟩
        · rw [gI_sI, if_neg (by decide), gI_sI, if_neg (by decide), gI_sI, if_pos rfl, if_pos rfl]; rfl
        · rw [gI_sI, if_neg (by decide), gI_sI, if_pos rfl, if_pos rfl]; rfl
        · rw [gI_sI, if_pos rfl, if_pos rfl]; rfl
      · obtain ⟨p1, p2, p3⟩ := hx j (by omega)
        refine ⟨?_, ?_, ?_⟩
        · rw [gI_sI, if_neg (by decide), gI_sI, if_neg (by decide), gI_sI, if_pos rfl, if_neg z]; exact p1
        · rw [gI_sI, if_neg (by decide), gI_sI, if_pos rfl, if_neg z, gI_sI, if_neg (by decide)]; exact p2
        · rw [gI_sI, if_pos rfl, if_neg z, gI_sI, if_neg (by decide), gI_sI, if_neg (by decide)]; exact p3)
    exact ⟨S2, e3.trans b1, b2, b3⟩
theorem t_meet : ∃ A', twoI (d + 20) 130 253 [] A A' := by
  by_cases c : q_mok (a_P A) (a_tp A) = true
  · have c2 := c
    unfold q_mok at c2
    rw [Bool.and_eq_true, decide_eq_true_eq] at c2
    obtain ⟨⟨n0, n1, n2⟩, c3⟩ := c2
    obtain ⟨n, hn⟩ : ∃ n, (a_tp A).length = 3 * n := ⟨(a_tp A).length / 3, by omega⟩
    have hdv : (a_tp A).length / 3 = n := by omega
    rw [hdv] at c3
    refine ⟨a_met A (q_mts (a_tp A) n), two_m (nI n) (fun hA => ?_) (fun S h hA => ?_) (fun S h hA => ?_)⟩
    · have hR := hA.1.1
      have hL := hA.1.2.2.2.2.1
      have hok : ∀ x, x ∈ q_mts (a_tp A) n → x.1 ≤ 30 ∧ x.2.1 < p_R (a_P A) ∧ (x.2.2 < p_L (a_P A) ∨ x.2.2 = 255) := fun x hx => by
        unfold q_mts at hx
        rw [List.mem_map] at hx
        obtain ⟨i, h1, rfl⟩ := hx
        rw [List.mem_range] at h1
        have hk := q_mfr_t n 0 c3 i (by omega) (by omega)
        unfold q_mtk at hk
        rw [Bool.and_eq_true, Bool.and_eq_true, decide_eq_true_eq, Bool.or_eq_true, decide_eq_true_eq] at hk
        have hb1 := tp_b hA.2.2.2.2.2.2.2.1.2 (3 * i + 1)
        have hb2 := tp_b hA.2.2.2.2.2.2.2.1.2 (3 * i + 2)
        have hix : ∀ (N k : Nat), k < 256 → ixO N (nI k) = true → k < N := fun N k hk2 hz => by
          unfold ixO at hz
          rw [decide_eq_true_eq, nI_toInt (by omega)] at hz
          omega
        refine ⟨hk.1.1, hix _ _ hb1 hk.1.2, ?_⟩
        rcases hk.2 with z | z
        · exact Or.inr z
        · exact Or.inl (hix _ _ hb2 z)
      have hRp : 0 < p_R (a_P A) := by
        have := (hok (q_mt3 (a_tp A) 0) (by unfold q_mts; rw [List.mem_map]; exact ⟨0, by rw [List.mem_range]; omega, rfl⟩)).2.1
        omega
      have hmp := p_m_R hA hRp
      obtain ⟨g1, g2, g3, g4, g5, g6, g7, g8, g9, g10⟩ := hA
      exact ⟨g1, g2, g3, g4, g5, ⟨by show (q_mts (a_tp A) n).length ≤ 16; rw [q_mts_l]; omega, hok⟩, g7, ⟨by show ([] : List Nat).length ≤ 1600; simp, fun x hx => absurd hx List.not_mem_nil⟩, g9, fun z => absurd hmp (by rw [show p_m (a_P A) = 0 from z]; omega)⟩
    · obtain ⟨q, hH, hq⟩ := h.H hA
      have e := e130 (d + 19) S h.1
      have ht := h.2.1
      have a1 := c84 (d := d + 17) hH.1 hH.2.1 hH.2.2.2.1 hA.1 ht hA.2.2.2.2.2.2.2.1.2 (by omega)
      rw [if_pos c, hdv] at a1
      have ho : onI (fun c k => c = 0 ∧ k = 1 ∨ c = 182 ∧ k = 0 ∨ c = 183) S (sI (sI (cI S 1 0 183 0 (a_tp A).length) 182 0 (nI n)) 0 1 (0 : Int32)) := onI_sI (D := fun c k => c = 0 ∧ k = 1 ∨ c = 182 ∧ k = 0 ∨ c = 183) (c := 0) (onI_sI (D := fun c k => c = 0 ∧ k = 1 ∨ c = 182 ∧ k = 0 ∨ c = 183) (c := 182) (onI_cI (D := fun c k => c = 0 ∧ k = 1 ∨ c = 182 ∧ k = 0 ∨ c = 183) (onI.refl h.1) (fun k => Or.inr (Or.inr rfl))) (Or.inr (Or.inl ⟨rfl, rfl⟩))) (Or.inl ⟨rfl, rfl⟩)
      have g182 : gI (sI (sI (cI S 1 0 183 0 (a_tp A).length) 182 0 (nI n)) 0 1 (0 : Int32)) 182 0 = nI n := by rw [gI_sI, if_neg (by decide), gI_sI, if_pos rfl, if_pos rfl]
      have g183 : ∀ k, k < (a_tp A).length → gI (sI (sI (cI S 1 0 183 0 (a_tp A).length) 182 0 (nI n)) 0 1 (0 : Int32)) 183 k = nI ((a_tp A).getD k 0) := fun k hk => by
        rw [gI_sI, if_neg (by decide), gI_sI, if_neg (by decide), gI_cI, if_pos rfl, q_cpy hk]
        exact ht.2 k hk
      rw [hq, ht.1, a1, zb_some, if_neg (by decide), g182] at e
      refine ⟨_, e, ho.M.mono fun c k z => by omega, h.met ho (by rw [gI_sI, if_pos rfl, if_pos rfl]; rfl) ⟨by rw [q_mts_l]; exact g182, fun i hi => ?_⟩⟩
      rw [q_mts_l] at hi
      rw [q_mts_g hi]
      exact ⟨g183 _ (by omega), g183 _ (by omega), g183 _ (by omega)⟩
    · obtain ⟨b, hM⟩ := h.2.1
      have hW := h.W
      have ht := h.1
      have e := e253 (d + 19) S hW
      have o1 : onM (fun c k => c = 396 ∧ (k = 1 ∨ k = 63) ∨ 435 ≤ c ∧ c ≤ 437) S (sI S 396 1 (0 : Int32)) := onM_sI (D := fun c k => c = 396 ∧ (k = 1 ∨ k = 63) ∨ 435 ≤ c ∧ c ≤ 437) (c := 396) (onM.refl hW) (Or.inl ⟨rfl, Or.inl rfl⟩)
      have hM1 : cM (sI S 396 1 (0 : Int32)) b (a_P A) := hM.on o1 (fun c k z => by omega)
      have ht1 : ∀ i, i < (a_tp A).length → gI (sI S 396 1 (0 : Int32)) 397 i = nI ((a_tp A).getD i 0) := fun i hi => by rw [gI_sI, if_neg (by decide)]; exact ht.2 i hi
      have hr : nI (a_tp A).length - nI (a_tp A).length / (3 : Int32) * (3 : Int32) = nI ((a_tp A).length % 3) := pk_rem (d := 3) (by omega) (by omega) (by omega)
      have e1 := m253_1 (d := d + 18) hM1 ht1 hA.2.2.2.2.2.2.2.1.2 n1 hn n 0 true (by omega)
      rw [c3] at e1
      have e1' : b253_34 (d + 19) (nI (a_tp A).length) (1 : Int32) (0 : Int32) (sI S 396 1 (0 : Int32)) = _ := e1
      have e2 := b253_110_eq (d + 19) (nI (a_tp A).length) (bI (true && true)) (sI S 396 1 (0 : Int32)) hW
      have hdv2 : nI (a_tp A).length / (3 : Int32) = nI n := (pk_div (d := 3) (by omega) (by omega) (by omega)).trans (by rw [hdv])
      rw [if_pos (by decide), hdv2] at e2
      have o2 : onM (fun c k => c = 396 ∧ (k = 1 ∨ k = 63) ∨ 435 ≤ c ∧ c ≤ 437) S (sI (sI S 396 1 (0 : Int32)) 396 63 (nI n)) := onM_sI (D := fun c k => c = 396 ∧ (k = 1 ∨ k = 63) ∨ 435 ≤ c ∧ c ≤ 437) (c := 396) o1 (Or.inl ⟨rfl, Or.inr rfl⟩)
      obtain ⟨S2, b1, b2, b3⟩ := m253_2 (d := d + 19) (S0 := sI (sI S 396 1 (0 : Int32)) 396 63 (nI n)) (tp := a_tp A) (fun i hi => by rw [gI_sI, if_neg (by decide)]; exact ht1 i hi) hA.2.2.2.2.2.2.2.1.2 (n := n) (by omega) hn (by rw [gI_sI, if_pos rfl, if_pos rfl]) n 0 _ (by omega) (onM.refl hW) (fun j hj => absurd hj (by omega))
      rw [ht.1, if_neg (show ¬ nI (a_tp A).length ≤ (0 : Int32) from fun z => by have := (nI_leI (b := 0) (by omega) (by omega)).mp z; omega), hr, if_neg (show ¬ ¬ nI ((a_tp A).length % 3) = (0 : Int32) by rw [n2]; exact fun w => w rfl), if_neg (show ¬ (48 : Int32) < nI (a_tp A).length from fun z => by have := (nI_ltI (a := 48) (by omega) (by omega)).mp z; omega), b253_31_eq (d + 19) _ _ (sI S 396 1 (0 : Int32)) hW, e1', e2] at e
      have o3 := o2.trans (b2.mono fun c k z => Or.inr z)
      have h63 : gI S2 396 63 = nI n := by rw [b2.I (by unfold mtD; omega), gI_sI, if_pos rfl, if_pos rfl]
      have h1 : gI S2 396 1 = nI 0 := by rw [b2.I (by unfold mtD; omega), gI_sI, if_pos rfl, if_neg (by decide), gI_sI, if_pos rfl, if_pos rfl]; rfl
      refine ⟨S2, e.trans b1, o3.mono fun c k z => by omega, h.met hA o3 h1 ⟨by rw [q_mts_l]; exact h63, fun i hi => ?_⟩⟩
      rw [q_mts_l] at hi
      rw [q_mts_g hi]
      exact b3 i hi
  · have c' : q_mok (a_P A) (a_tp A) = false := by simpa using c
    refine ⟨a_ref (a_tap A []) 5, two_m (-nI 1) (fun hA => (hA.tap (by simp) (fun x hx => absurd hx List.not_mem_nil)).ref) (fun S h hA => ?_) (fun S h hA => ?_)⟩
    · obtain ⟨q, hH, hq⟩ := h.H hA
      have e := e130 (d + 19) S h.1
      have ht := h.2.1
      have a1 := c84 (d := d + 17) hH.1 hH.2.1 hH.2.2.2.1 hA.1 ht hA.2.2.2.2.2.2.2.1.2 hA.2.2.2.2.2.2.2.1.1
      rw [if_neg c] at a1
      have ho : onI (fun c k => c = 1 ∨ c = 0 ∧ k = 1) S (sI S 0 1 (0 : Int32)) := onI_sI (D := fun c k => c = 1 ∨ c = 0 ∧ k = 1) (c := 0) (onI.refl h.1) (Or.inr ⟨rfl, rfl⟩)
      have h1 := h.tap (t := []) ho ⟨by rw [gI_sI, if_pos rfl, if_pos rfl]; rfl, fun i hi => absurd hi (by simp)⟩
      have a2 : fI (d + 19) 150 [.ref 0, .int 5] (sI S 0 1 (0 : Int32)) = _ := c150 (d := d + 18) (j := 5) h1.1 h1.2.2.2.2.2.2.2.2.1 (by omega)
      rw [hq, ht.1, a1, zb_some, if_pos rfl, a2, zb_some] at e
      exact ⟨_, e, (ho.M.mono fun c k z => by omega).trans (onM_sI (D := fun c _ => c < 396) (c := 395) (onM.refl h1.1) (by decide)), h1.ref⟩
    · obtain ⟨b, hM⟩ := h.2.1
      have hW := h.W
      have ht := h.1
      have hl := hA.2.2.2.2.2.2.2.1.1
      have e := e253 (d + 19) S hW
      have o1 : onM (fun c k => c = 397 ∨ c = 396 ∧ k = 1) S (sI S 396 1 (0 : Int32)) := onM_sI (D := fun c k => c = 397 ∨ c = 396 ∧ k = 1) (c := 396) (onM.refl hW) (Or.inr ⟨rfl, rfl⟩)
      have h1 := h.tap (t := []) hA o1 ⟨by rw [gI_sI, if_pos rfl, if_pos rfl]; rfl, fun i hi => absurd hi (by simp)⟩
      have hA1 : aOk (a_tap A []) := hA.tap (by simp) (fun x hx => absurd hx List.not_mem_nil)
      have a2 : fI (d + 19) 194 [.ref 396, .int 5] (sI S 396 1 (0 : Int32)) = _ := m194 (d := d + 18) (j := 5) hW h1.2.2.2.2.2.2.2.2.2.1 (by omega)
      have e2 := b253_110_eq (d + 19) (nI (a_tp A).length) (bI false) (sI S 396 1 (0 : Int32)) hW
      rw [if_neg (by decide), a2, zb_some] at e2
      have e30 : b253_30 (d + 19) (nI (a_tp A).length) (sI S 396 1 (0 : Int32)) = b253_110 (d + 19) (nI (a_tp A).length) (bI false) (sI S 396 1 (0 : Int32)) := by
        rw [b253_30_eq (d + 19) _ (sI S 396 1 (0 : Int32)) hW, b253_31_eq (d + 19) _ _ (sI S 396 1 (0 : Int32)) hW, b253_34_eq (d + 19) _ _ _ (sI S 396 1 (0 : Int32)) hW, if_pos (show (0 : Int32) = 0 from rfl), ite_self]
        rfl
      have hr : nI (a_tp A).length - nI (a_tp A).length / (3 : Int32) * (3 : Int32) = nI ((a_tp A).length % 3) := pk_rem (d := 3) (by omega) (by omega) (by omega)
      have hk0 : nI (a_tp A).length ≤ (0 : Int32) ↔ (a_tp A).length ≤ 0 := nI_leI (b := 0) (by omega) (by omega)
      have hk3 : nI ((a_tp A).length % 3) = (0 : Int32) ↔ (a_tp A).length % 3 = 0 := nI_eq (b := 0) (by omega) (by omega)
      have hk48 : (48 : Int32) < nI (a_tp A).length ↔ 48 < (a_tp A).length := nI_ltI (a := 48) (by omega) (by omega)
      have e3 : fI (d + 20) 253 [.ref 396] S = b253_110 (d + 19) (nI (a_tp A).length) (bI false) (sI S 396 1 (0 : Int32)) := by
        rw [e, ht.1, hr, e30]
        by_cases z0 : (a_tp A).length ≤ 0
        · rw [if_pos (hk0.mpr z0)]
        · rw [if_neg (fun z => z0 (hk0.mp z))]
          by_cases z3 : (a_tp A).length % 3 = 0
          · rw [if_neg (fun w => w (hk3.mpr z3))]
            by_cases z48 : 48 < (a_tp A).length
            · rw [if_pos (hk48.mpr z48)]
            · rw [if_neg (fun z => z48 (hk48.mp z)), b253_31_eq (d + 19) _ _ (sI S 396 1 (0 : Int32)) hW]
              obtain ⟨n, hn⟩ : ∃ n, (a_tp A).length = 3 * n := ⟨(a_tp A).length / 3, by omega⟩
              have hM1 : cM (sI S 396 1 (0 : Int32)) b (a_P A) := hM.on o1 (fun c k z => by omega)
              have ht1 : ∀ i, i < (a_tp A).length → gI (sI S 396 1 (0 : Int32)) 397 i = nI ((a_tp A).getD i 0) := fun i hi => by rw [gI_sI, if_neg (by decide)]; exact ht.2 i hi
              have e1 := m253_1 (d := d + 18) hM1 ht1 hA.2.2.2.2.2.2.2.1.2 (by omega) hn n 0 true (by omega)
              have hf : q_mfr (a_P A) (a_tp A) 0 n = false := by
                unfold q_mok at c'
                rw [decide_eq_true ⟨by omega, by omega, z3⟩, Bool.true_and, show (a_tp A).length / 3 = n by omega] at c'
                exact c'
              rw [hf] at e1
              exact e1
          · rw [if_pos (fun w => z3 (hk3.mp w))]
      exact ⟨_, e3.trans e2, (o1.mono fun c k z => by omega).trans (onM_sI (D := fun c _ => 396 ≤ c) (c := 419) (onM.refl h1.W) (by decide)), h1.ref hA1⟩
end TO
