/-! BEDS: the class searches for the least crowd. -/
section BP
variable {G : w_G} {rch : Nat → Nat} {cd ct L d : Nat} {S : z_S}
theorem w_se_lt : ∀ (n be ch on mo m : Nat), w_se G rch cd ct n be ch on mo = some m → ch < 65536 → be ≤ 16 → m < 65536
  | 0, be, ch, on, mo, m, h, hc, hb => by
    rw [w_se] at h
    have := Option.some.inj h
    omega
  | n + 1, be, ch, on, mo, m, h, hc, hb => by
    rw [w_se] at h
    obtain ⟨j, j1, j2, j3, _⟩ := w_lp_s _ _ h
    by_cases c : w_cb G rch cd ct n on mo j = true
    · rw [if_pos c] at j3
      exact w_se_lt n j _ _ _ m j3 (q_or16 hc (q_p16 (by omega))) (by omega)
    · rw [if_neg c] at j3
      cases j3
/-- what the search reads -/
def xS (S : z_S) (G : w_G) (rch : Nat → Nat) (cd L : Nat) : Prop := z_W S ∧ L ≤ 16 ∧ cd < 65536 ∧ gI S 387 5 = nI cd ∧ ∀ k, k < L → gI S 391 k = nI (w_rs G k) ∧ gI S 392 k = nI (rch k) ∧ w_rs G k < 65536 ∧ rch k < 65536
theorem c6_n {y1 y2 y3 y4 y5 y6 y8 y9 : Int32} {i : Nat} (hW : z_W S) : b6_107 d y1 y2 y3 y4 y5 y6 (nI i) y8 y9 S = b6_12 d y1 y2 y3 y4 y5 y6 (nI (i + 1)) S := by
  rw [b6_107_eq d y1 y2 y3 y4 y5 y6 (nI i) y8 y9 S hW, b6_108_eq d y1 y2 y3 y4 y5 y6 (nI i) y8 y9 0 S hW, if_pos rfl, b6_140_eq d y1 y2 y3 y4 y5 y6 (nI i) (-1) S hW, if_pos rfl, nI_1]
theorem c6 (hx : xS S G rch cd L) (hct : ct ≤ 16) : ∀ (n be ch on mo : Nat), n ≤ 16 → be ≤ L → ch < 65536 → on < 65536 → mo < 65536 → fI (d + n + 2) 6 [.ref 387, .int (nI ct), .int (nI n), .int (nI be), .int (nI ch), .int (nI on), .int (nI mo)] S = some (eO (w_se G rch cd ct n be ch on mo), S)
  | 0, be, ch, on, mo, hn, hbe, hch, hon, hmo => by
    have e := e6 (d + 0 + 1) (nI ct) (nI 0) (nI be) (nI ch) (nI on) (nI mo) S hx.1
    rw [if_neg (show ¬ ¬ nI 0 = (0 : Int32) by decide)] at e
    exact e
  | n + 1, be, ch, on, mo, hn, hbe, hch, hon, hmo => by
    obtain ⟨hW, hL, hcd, hk, hc⟩ := hx
    have e0 := e6 (d + (n + 1) + 1) (nI ct) (nI (n + 1)) (nI be) (nI ch) (nI on) (nI mo) S hW
    have es1 : nI (n + 1) - (1 : Int32) = nI n := pk_sub (a := n + 1) (b := 1) (by omega)
    rw [if_pos (show ¬ nI (n + 1) = (0 : Int32) from fun z => by have := (nI_eq (b := 0) (by omega) (by omega)).mp z; omega), es1] at e0
    rw [show d + (n + 1) + 2 = d + (n + 1) + 1 + 1 by omega, e0, w_se]
    generalize hD : d + (n + 1) + 1 = D
    have hD2 : D = d + n + 2 := by omega
    have hD3 : D = (D - 1) + 1 := by omega
    have pc : ∀ z, z < 65536 → fI D 274 [.int (nI z)] S = some (nI (q_pc z), S) := fun z hz => by rw [hD3]; exact c274 hW hz
    have key : ∀ (m i : Nat), n ≤ i → (i + m = be ∨ m = 0 ∧ be ≤ i) → i ≤ 16 → b6_12 D (nI ct) (nI (n + 1)) (nI be) (nI ch) (nI on) (nI mo) (nI i) S = some (eO (w_lp (fun j => if w_cb G rch cd ct n on mo j then w_se G rch cd ct n j (ch ||| 2 ^ j) (w_on G on mo j) (w_mo G on mo j) else none) m i), S) := by
      intro m
      induction m with
      | zero =>
        intro i h1 h2 h3
        have e := b6_12_eq D (nI ct) (nI (n + 1)) (nI be) (nI ch) (nI on) (nI mo) (nI i) S hW
        rw [if_pos (nI_le (by omega) (by omega))] at e
        exact e
      | succ m ih =>
        intro i h1 h2 h3
        have h2' : i + (m + 1) = be := by omega
        have ih' := ih (i + 1) (by omega) (Or.inl (by omega)) (by omega)
        obtain ⟨x1, x2, x3, x4⟩ := hc i (by omega)
        have e := b6_12_eq D (nI ct) (nI (n + 1)) (nI be) (nI ch) (nI on) (nI mo) (nI i) S hW
        have zi : z_in (nI i) 16 := (ni_in (by omega)).mpr (by omega)
        have o1 : gI S 391 (nI i).toNatClampNeg = nI (w_rs G i) := by rw [nI_clamp (by omega)]; exact x1
        have o2 : gI S 392 (nI i).toNatClampNeg = nI (rch i) := by rw [nI_clamp (by omega)]; exact x2
        have em : nI mo ||| (nI on &&& nI (w_rs G i)) = nI (w_mo G on mo i) := by rw [fa_and, fa_or]; rfl
        have eo : (nI on ||| nI (w_rs G i)) &&& (nI (w_mo G on mo i) ^^^ (-1 : Int32)) = nI (w_on G on mo i) := by rw [fa_or]; exact ni_clr _ _
        have eu : nI (w_on G on mo i) ||| nI (w_mo G on mo i) = nI (w_on G on mo i ||| w_mo G on mo i) := fa_or _ _
        have er : nI (w_on G on mo i) &&& (nI (rch i) ^^^ (-1 : Int32)) = nI (q_cl (w_on G on mo i) (rch i)) := ni_clr _ _
        have eb : (nI cd >>> (nI i &&& (31 : Int32))) &&& (1 : Int32) = nI (q_b cd i) := ni_bit (by omega) (by omega)
        have e2 : (2 : Int32) * (nI (n + 1) - (1 : Int32)) = nI (2 * n) := by rw [es1]; exact pk_mul 2 n
        have l1 : w_mo G on mo i < 65536 := q_or16 hmo (q_and16 hon)
        have l2 : w_on G on mo i < 65536 := q_cl16 (q_or16 hon x3)
        have l3 : w_on G on mo i ||| w_mo G on mo i < 65536 := q_or16 l2 l1
        have l4 : q_cl (w_on G on mo i) (rch i) < 65536 := q_cl16 l2
        have p1 := q_pc_le (w_on G on mo i ||| w_mo G on mo i)
        have p2 := q_pc_le (w_on G on mo i)
        rw [if_neg (nI_ge (by omega) (by omega)), if_pos zi, if_pos zi, o1, hk, em, eo, eb, eu, pc _ l3, zb_some, if_pos zi, o2, er, pc _ l2, zb_some, e2] at e
        have no : w_cb G rch cd ct n on mo i = false → some (eO (w_lp (fun j => if w_cb G rch cd ct n on mo j then w_se G rch cd ct n j (ch ||| 2 ^ j) (w_on G on mo j) (w_mo G on mo j) else none) (m + 1) i), S) = b6_12 D (nI ct) (nI (n + 1)) (nI be) (nI ch) (nI on) (nI mo) (nI (i + 1)) S := fun z => by
          rw [ih', w_lp]
          simp only [z, Bool.false_eq_true, if_false]
        have c107 : ∀ y8 y9, b6_107 D (nI ct) (nI (n + 1)) (nI be) (nI ch) (nI on) (nI mo) (nI i) y8 y9 S = b6_12 D (nI ct) (nI (n + 1)) (nI be) (nI ch) (nI on) (nI mo) (nI (i + 1)) S := fun y8 y9 => c6_n hW
        rw [c107] at e
        by_cases t1 : cd.testBit i = true
        · rw [if_neg (show ¬ ¬ nI (q_b cd i) = (1 : Int32) from fun z => z (q_bo.mpr t1))] at e
          by_cases t2 : q_pc (w_on G on mo i ||| w_mo G on mo i) < ct
          · rw [if_neg (nI_ge t2 (by omega))] at e
            by_cases t3 : q_cl (w_on G on mo i) (rch i) = 0
            · rw [if_neg (show ¬ ¬ nI (q_cl (w_on G on mo i) (rch i)) = (0 : Int32) from fun z => z (by rw [t3]; rfl))] at e
              by_cases t4 : q_pc (w_on G on mo i) ≤ 2 * n
              · rw [if_neg (fun z => by have := (nI_ltI (by omega) (by omega)).mp z; omega)] at e
                have hcb : w_cb G rch cd ct n on mo i = true := by
                  unfold w_cb
                  rw [t1, decide_eq_true t2, decide_eq_true t3, decide_eq_true t4]
                  rfl
                have e8 := b6_108_eq D (nI ct) (nI (n + 1)) (nI be) (nI ch) (nI on) (nI mo) (nI i) (nI (w_mo G on mo i)) (nI (w_on G on mo i)) 1 S hW
                have esh : nI ch ||| ((1 : Int32) <<< (nI i &&& (31 : Int32))) = nI (ch ||| 2 ^ i) := by
                  have : (1 : Int32) <<< (nI i &&& (31 : Int32)) = nI (2 ^ i) := ni_shl (by omega)
                  rw [this, fa_or]
                have hch2 : ch ||| 2 ^ i < 65536 := q_or16 hch (q_p16 (by omega))
                have rc6 := c6 ⟨hW, hL, hcd, hk, hc⟩ hct n i (ch ||| 2 ^ i) (w_on G on mo i) (w_mo G on mo i) (by omega) (by omega) hch2 l2 l1
                rw [← hD2] at rc6
                rw [if_neg (show ¬ (1 : Int32) = 0 by decide), es1, esh, rc6, zb_some] at e8
                have e9 := b6_140_eq D (nI ct) (nI (n + 1)) (nI be) (nI ch) (nI on) (nI mo) (nI i) (eO (w_se G rch cd ct n i (ch ||| 2 ^ i) (w_on G on mo i) (w_mo G on mo i))) S hW
                rw [e, e8, e9, w_lp]
                simp only [hcb, if_true]
                cases hw : w_se G rch cd ct n i (ch ||| 2 ^ i) (w_on G on mo i) (w_mo G on mo i) with
                | none =>
                  rw [if_pos (show eO none = (-1 : Int32) from rfl), nI_1]
                  exact ih'
                | some v =>
                  have hv := w_se_lt n i _ _ _ v hw hch2 (by omega)
                  rw [if_neg (show ¬ eO (some v) = (-1 : Int32) from fun z => (ni_eqm (a := v) (by omega)).mp z)]
              · rw [if_pos (nI_lt (by omega) (by omega))] at e
                have hcb : w_cb G rch cd ct n on mo i = false := by unfold w_cb; rw [decide_eq_false t4, Bool.and_false]
                rw [e, no hcb]
            · rw [if_pos (show ¬ nI (q_cl (w_on G on mo i) (rch i)) = (0 : Int32) from fun z => t3 ((nI_eq (b := 0) (by omega) (by omega)).mp z))] at e
              have hcb : w_cb G rch cd ct n on mo i = false := by unfold w_cb; rw [decide_eq_false t3, Bool.and_false, Bool.false_and]
              rw [e, no hcb]
          · rw [if_pos (nI_le (by omega) (by omega))] at e
            have hcb : w_cb G rch cd ct n on mo i = false := by unfold w_cb; rw [decide_eq_false t2, Bool.and_false, Bool.false_and, Bool.false_and]
            rw [e, no hcb]
        · rw [if_pos (show ¬ nI (q_b cd i) = (1 : Int32) from fun z => t1 (q_bo.mp z))] at e
          have t1' : cd.testBit i = false := by simpa using t1
          have hcb : w_cb G rch cd ct n on mo i = false := by unfold w_cb; rw [t1', Bool.false_and, Bool.false_and, Bool.false_and]
          rw [e, no hcb]
    exact key (be - n) n (Nat.le_refl _) (by omega) (by omega)
theorem c5_141 {q : Nat} (hq : z_K q = 6) (hl : gI S q 6 = nI L) (hx : xS S G rch cd L) : ∀ (m ct : Nat), ct + m = L + 1 → b5_141 (d + 18) q (-1) (nI ct) S = some (eO (w_lp (fun ct => w_se G rch cd ct ct L 0 0 0) m ct), S)
  | 0, ct, h => by
    have e := b5_141_eq (d + 18) q (-1) (nI ct) S hx.1 hq
    have hL := hx.2.1
    rw [hl, if_pos (nI_lt (by omega) (by omega))] at e
    exact e
  | m + 1, ct, h => by
    have e := b5_141_eq (d + 18) q (-1) (nI ct) S hx.1 hq
    have hL := hx.2.1
    have a := c6 (d := d + (16 - ct)) (ct := ct) hx (by omega) ct L 0 0 0 (by omega) (Nat.le_refl _) (by omega) (by omega) (by omega)
    rw [show d + (16 - ct) + ct + 2 = d + 18 by omega] at a
    have a' : fI (d + 18) 6 [.ref 387, .int (nI ct), .int (nI ct), .int (nI L), .int (0 : Int32), .int (0 : Int32), .int (0 : Int32)] S = _ := a
    rw [hl, if_neg (fun z => by have := (nI_ltI (by omega) (by omega)).mp z; omega), if_neg (fun z => z rfl), a', zb_some, nI_1] at e
    rw [e, w_lp]
    cases hw : w_se G rch cd ct ct L 0 0 0 with
    | none => exact c5_141 hq hl hx m (ct + 1) (by omega)
    | some v =>
      have hv := w_se_lt ct L _ _ _ v hw (by omega) hL
      have e2 := b5_141_eq (d + 18) q (nI v) (nI (ct + 1)) S hx.1 hq
      rw [if_pos (show ¬ nI v = (-1 : Int32) from fun z => (ni_eqm (by omega)).mp z), ite_self] at e2
      exact e2
end BP
