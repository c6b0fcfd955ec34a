/-! BEDS: ways. -/
section BO
variable {d : Nat}
/-- one choice: a bit for each, whether he is in his other room -/
def w_o1 (G : w_G) : List Nat → Nat → Nat → Bool
  | [], _, _ => true
  | k :: l, c, Z => !(Z.testBit (if c.testBit 0 then w_o G k else w_f G k)) && w_o1 G l (c / 2) (Z ||| 2 ^ (if c.testBit 0 then w_o G k else w_f G k))
theorem w_ct_two (p : Nat → Bool) : ∀ m, fb_ct p (2 * m) = fb_ct (fun c => p (2 * c)) m + fb_ct (fun c => p (2 * c + 1)) m
  | 0 => rfl
  | m + 1 => by
    have ih := w_ct_two p m
    rw [show 2 * (m + 1) = 2 * m + 1 + 1 by omega, fb_ct_succ, fb_ct_succ, ih, fb_ct_succ, fb_ct_succ]
    omega
theorem w_o1_ct {G : w_G} : ∀ (l : List Nat) (Z : Nat), fb_ct (fun c => w_o1 G l c Z) (2 ^ l.length) = w_nw G l Z
  | [], Z => rfl
  | k :: l, Z => by
    rw [List.length_cons, Nat.pow_succ, Nat.mul_comm, w_ct_two, w_nw]
    congr 1
    · cases hz : Z.testBit (w_f G k) with
      | true =>
        rw [if_pos rfl]
        refine fb_ct_zero.mpr fun c _ => ?_
        have hb : (2 * c).testBit 0 = false := by rw [Nat.testBit_zero]; exact decide_eq_false (by omega)
        rw [w_o1, hb, if_neg (by decide), hz]; rfl
      | false =>
        rw [if_neg (by decide), ← w_o1_ct l (Z ||| 2 ^ w_f G k)]
        refine fb_ct_cong fun c _ => ?_
        have hb : (2 * c).testBit 0 = false := by rw [Nat.testBit_zero]; exact decide_eq_false (by omega)
        rw [w_o1, hb, if_neg (by decide), hz, show 2 * c / 2 = c by omega]; rfl
    · cases hz : Z.testBit (w_o G k) with
      | true =>
        rw [if_pos rfl]
        refine fb_ct_zero.mpr fun c _ => ?_
        have hb : (2 * c + 1).testBit 0 = true := by rw [Nat.testBit_zero]; exact decide_eq_true (by omega)
        rw [w_o1, hb, if_pos rfl, hz]; rfl
      | false =>
        rw [if_neg (by decide), ← w_o1_ct l (Z ||| 2 ^ w_o G k)]
        refine fb_ct_cong fun c _ => ?_
        have hb : (2 * c + 1).testBit 0 = true := by rw [Nat.testBit_zero]; exact decide_eq_true (by omega)
        rw [w_o1, hb, if_pos rfl, hz, show (2 * c + 1) / 2 = c by omega]; rfl
theorem m246_45 {b s ch n : Nat} {y3 : Int32} {S : z_S} {P : q_Pl} {G : w_G} (h : cM S b P) (hf : w_f G = p_f P) (ho : w_o G = p_o P) (hs : s < 65536) (hc : ch < 65536) : ∀ (m k Z at_ : Nat), k + m = p_L P → Z < 65536 → at_ ≤ k → b246_45 (d + 1) (nI s) (nI n) y3 (nI ch) (nI Z) (1 : Int32) (nI at_) (nI k) S = b246_138 (d + 1) (nI s) (nI n) y3 (nI ch) (bI (w_o1 G (w_al s m k) (ch / 2 ^ at_) Z)) S
  | 0, k, Z, at_, hk, hZ, ha => by
    have e := b246_45_eq (d + 1) (nI s) (nI n) y3 (nI ch) (nI Z) (1 : Int32) (nI at_) (nI k) S h.1
    have hbk := h.2.2.1
    have hb := h.2.1
    have hL := h.2.2.2.2.2.2.2.2.1
    have hl : gI S 402 (nI b).toNatClampNeg = nI (p_L P) := by rw [nI_clamp (by omega)]; exact h.2.2.2.1.2.2.2.2.1
    have zi : z_in (nI b) 2 := (ni_in (by omega)).mpr hb
    rw [hbk, if_pos zi, hl, if_pos (nI_le (by omega) (by omega))] at e
    exact e
  | m + 1, k, Z, at_, hk, hZ, ha => by
    have e := b246_45_eq (d + 1) (nI s) (nI n) y3 (nI ch) (nI Z) (1 : Int32) (nI at_) (nI k) S h.1
    have hW := h.1
    have hbk := h.2.2.1
    have hb := h.2.1
    have hP := h.2.2.2.2
    have hL := hP.2.2.2.2.1
    have hR := hP.1
    obtain ⟨f1, f2, f3⟩ := hP.2.2.2.2.2.2.2.1 k (by omega)
    have hl : gI S 402 (nI b).toNatClampNeg = nI (p_L P) := by rw [nI_clamp (by omega)]; exact h.2.2.2.1.2.2.2.2.1
    have zi : z_in (nI b) 2 := (ni_in (by omega)).mpr hb
    have a1 := m182 (d := d) (a := s) (r := k) hW (by omega) (by omega)
    have a2 := m182 (d := d) (a := ch) (r := at_) hW (by omega) (by omega)
    have a3 := m210 (d := d) (k := k) h (by omega)
    have a4 := m211 (d := d) (k := k) h (by omega)
    have nx : ∀ y5 y6 y7, b246_132 (d + 1) (nI s) (nI n) y3 (nI ch) y5 y6 y7 (nI k) S = b246_45 (d + 1) (nI s) (nI n) y3 (nI ch) y5 y6 y7 (nI (k + 1)) S := fun y5 y6 y7 => by rw [b246_132_eq (d + 1) (nI s) (nI n) y3 (nI ch) y5 y6 y7 (nI k) S hW, nI_1]
    rw [hbk, if_pos zi, hl, if_neg (nI_ge (by omega) (by omega)), if_neg (show ¬ (1 : Int32) = 0 by decide), a1, zb_some] at e
    rw [w_al]
    cases hb1 : s.testBit k with
    | false =>
      rw [hb1, if_neg (by decide), nx] at e
      rw [if_neg (by decide)]
      exact e.trans (m246_45 h hf ho hs hc m (k + 1) Z at_ (by omega) hZ (by omega))
    | true =>
      rw [hb1, if_pos (by decide), a2, zb_some, a3, zb_some, a4, zb_some] at e
      rw [if_pos rfl, w_o1]
      have hbit : (ch / 2 ^ at_).testBit 0 = ch.testBit at_ := by rw [Nat.testBit_div_two_pow, Nat.zero_add]
      rw [hbit, hf, ho]
      have hdiv : ch / 2 ^ at_ / 2 = ch / 2 ^ (at_ + 1) := by rw [Nat.div_div_eq_div_mul, Nat.pow_succ]
      rw [hdiv]
      have fin : ∀ r, r < p_R P → b246_101 (d + 1) (nI s) (nI n) y3 (nI ch) (nI Z) (nI at_) (nI k) (nI r) S = b246_138 (d + 1) (nI s) (nI n) y3 (nI ch) (bI (!Z.testBit r && w_o1 G (w_al s m (k + 1)) (ch / 2 ^ (at_ + 1)) (Z ||| 2 ^ r))) S := fun r hr => by
        have e2 := b246_101_eq (d + 1) (nI s) (nI n) y3 (nI ch) (nI Z) (nI at_) (nI k) (nI r) S hW
        have a5 := m182 (d := d) (a := Z) (r := r) hW (by omega) (by omega)
        have es : (1 : Int32) <<< (nI r &&& (31 : Int32)) = nI (2 ^ r) := ni_shl (by omega)
        have e3 : ∀ y, b246_118 (d + 1) (nI s) (nI n) y3 (nI ch) (nI Z) (nI at_) (nI k) (nI r) y S = b246_45 (d + 1) (nI s) (nI n) y3 (nI ch) (nI (Z ||| 2 ^ r)) y (nI (at_ + 1)) (nI (k + 1)) S := fun y => by
          rw [b246_118_eq (d + 1) (nI s) (nI n) y3 (nI ch) (nI Z) (nI at_) (nI k) (nI r) y S hW, nx, es, fa_or, nI_1]
        rw [a5, zb_some] at e2
        cases hz : Z.testBit r with
        | true =>
          rw [hz, if_pos (by decide), e3] at e2
          have e4 := b246_45_eq (d + 1) (nI s) (nI n) y3 (nI ch) (nI (Z ||| 2 ^ r)) (0 : Int32) (nI (at_ + 1)) (nI (k + 1)) S hW
          rw [hbk, if_pos zi, hl, if_pos (show (0 : Int32) = 0 from rfl), ite_self] at e4
          exact e2.trans e4
        | false =>
          rw [hz, if_neg (by decide), e3] at e2
          have hr2 := q_p16 (r := r) (by omega)
          exact e2.trans (m246_45 h hf ho hs hc m (k + 1) (Z ||| 2 ^ r) (at_ + 1) (by omega) (q_or16 hZ hr2) (by omega))
      cases hb2 : ch.testBit at_ with
      | true =>
        rw [hb2, if_neg (by decide)] at e
        rw [if_pos rfl]
        exact e.trans (fin _ f2)
      | false =>
        rw [hb2, if_pos (by decide)] at e
        rw [if_neg (by decide)]
        exact e.trans (fin _ f1)
theorem m246_20 {b s n : Nat} {S : z_S} {P : q_Pl} {st : q_St} (h : xH S b P st) (hs : s < 65536) (hn : n ≤ 16) : ∀ (m ch : Nat), ch + m = 2 ^ n → b246_20 (d + 1) (nI s) (nI n) (nI (fb_ct (fun c => w_o1 (w_Gs P st) (w_al s (p_L P) 0) c (q_h st)) ch)) (nI ch) S = some (nI (fb_ct (fun c => w_o1 (w_Gs P st) (w_al s (p_L P) 0) c (q_h st)) (2 ^ n)), S)
  | 0, ch, hc => by
    have e := b246_20_eq (d + 1) (nI s) (nI n) (nI (fb_ct (fun c => w_o1 (w_Gs P st) (w_al s (p_L P) 0) c (q_h st)) ch)) (nI ch) S h.1.1
    have es : (1 : Int32) <<< (nI n &&& (31 : Int32)) = nI (2 ^ n) := ni_shl (by omega)
    have h2 : 2 ^ n ≤ 65536 := Nat.pow_le_pow_right (n := 2) (by omega) hn
    rw [es, if_pos (nI_le (by omega) (by omega))] at e
    rw [e, show ch = 2 ^ n by omega]
  | m + 1, ch, hc => by
    have e := b246_20_eq (d + 1) (nI s) (nI n) (nI (fb_ct (fun c => w_o1 (w_Gs P st) (w_al s (p_L P) 0) c (q_h st)) ch)) (nI ch) S h.1.1
    have es : (1 : Int32) <<< (nI n &&& (31 : Int32)) = nI (2 ^ n) := ni_shl (by omega)
    have h2 : 2 ^ n ≤ 65536 := Nat.pow_le_pow_right (n := 2) (by omega) hn
    have hsh : gI S 422 ((0 : Int32)).toNatClampNeg = nI (q_h st) := h.2.1.2.2.1
    rw [es, if_neg (nI_ge (by omega) (by omega)), if_pos (show z_in (0 : Int32) 22 by decide), hsh] at e
    have l := m246_45 (d := d) (n := n) (ch := ch) (G := w_Gs P st) (y3 := nI (fb_ct (fun c => w_o1 (w_Gs P st) (w_al s (p_L P) 0) c (q_h st)) ch)) h.1 rfl rfl hs (by omega) (p_L P) 0 (q_h st) 0 (by omega) h.2.2.1 (by omega)
    rw [Nat.pow_zero, Nat.div_one] at l
    have ih := m246_20 h hs hn m (ch + 1) (by omega)
    have e2 : ∀ v : Nat, b246_149 (d + 1) (nI s) (nI n) (nI ch) (nI v) (nI (fb_ct (fun c => w_o1 (w_Gs P st) (w_al s (p_L P) 0) c (q_h st)) ch)) S = b246_20 (d + 1) (nI s) (nI n) (nI (fb_ct (fun c => w_o1 (w_Gs P st) (w_al s (p_L P) 0) c (q_h st)) ch + v)) (nI (ch + 1)) S := fun v => by
      rw [b246_149_eq (d + 1) (nI s) (nI n) (nI ch) (nI v) _ S h.1.1, nI_1, nI_add]
    have e3 := b246_138_eq (d + 1) (nI s) (nI n) (nI (fb_ct (fun c => w_o1 (w_Gs P st) (w_al s (p_L P) 0) c (q_h st)) ch)) (nI ch) (bI (w_o1 (w_Gs P st) (w_al s (p_L P) 0) ch (q_h st))) S h.1.1
    rw [fb_ct_succ] at ih
    refine (e.trans l).trans (e3.trans ?_)
    cases hb : w_o1 (w_Gs P st) (w_al s (p_L P) 0) ch (q_h st) with
    | true =>
      rw [hb, if_pos rfl] at ih
      rw [if_neg (by decide)]
      exact (e2 1).trans ih
    | false =>
      rw [hb, if_neg (by decide)] at ih
      rw [if_pos (by decide)]
      exact (e2 0).trans ih
theorem t_ways {A : q_A} {x : Int32} : twoI (d + 20) 123 246 [.int x] A A := by
  refine two_q (if ixO (2 ^ p_L (a_P A)) x = true then nI (w_nw (a_G A) (w_al x.toInt.toNat (p_L (a_P A)) 0) (q_h (a_s A))) else -1) (fun S h hA => ?_) (fun S h hA => ?_)
  · have e := e123 (d + 19) x S h.1
    have h2 := w_2L hA
    have hB := (hA.2.1.Bd hA.1).1
    rw [c153 (d := d + 18) h hA, zb_some] at e
    cases c : ixO (2 ^ p_L (a_P A)) x with
    | false =>
      rw [c, if_neg (by decide)] at e
      rw [if_neg (by decide)]
      exact ⟨S, e, onI.refl h.1⟩
    | true =>
      obtain ⟨s, hs, rfl⟩ := ixO_t c (by omega)
      obtain ⟨q, hH, hq, hq2⟩ := h.Hq hA
      have hsh : gI S 27 2 = nI (q_h (a_s A)) := h.s.2.2.1
      obtain ⟨S1, a1, a2, a3⟩ := c1 (d := d + 16) hH hq2 hB (show s < 65536 by omega)
      rw [c, if_pos (by decide), hq, hsh, a1, zb_some] at e
      rw [if_pos rfl, nI_toInt (by omega), show ((s : Int)).toNat = s from rfl]
      have hlt := w_lft_lt (G := w_GP (q_h (a_s A)) (a_P A)) (L := p_L (a_P A)) s
      have hnw := (w_nw_all (G := a_G A) (R := p_R (a_P A)) (w_al s (p_L (a_P A)) 0) ((w_GP_ok hA.1 (q_h (a_s A))).al s _ 0 (by omega))).2 (q_h (a_s A)) w_sh_0
      by_cases cl : w_lv (a_G A) (w_al s (p_L (a_P A)) 0) = []
      · have c0 : w_lft (w_GP (q_h (a_s A)) (a_P A)) (p_L (a_P A)) s = 0 := congrArg w_bm cl
        rw [c0, if_neg (show ¬ ¬ nI 0 = (0 : Int32) by decide)] at e
        have hq1 : gP S1 0 2 = q := by rw [a2.P]; exact hq
        have hR1 : gI S1 q 1 = nI (p_R (a_P A)) := (hH.on a2 fun c k z => by unfold w_D; omega).2.2.2.1.2.1
        rw [hq1, hR1, c4 (d := d + 18) a2.W hA.1.1 a3, zb_some] at e
        rw [if_pos cl] at hnw
        have ez := w_wp_z (G := a_G A) (R := p_R (a_P A)) (w_Us (a_G A) (w_al s (p_L (a_P A)) 0))
        have ez' : w_wp (a_G A) (p_R (a_P A)) (w_Us (a_G A) (w_al s (p_L (a_P A)) 0)) (q_h (a_s A)) = w_pr (w_fw (p_R (a_P A)) (w_Us (a_G A) (w_al s (p_L (a_P A)) 0))) (p_R (a_P A)) := ez
        rw [hnw, ez']
        exact ⟨S1, e, w_Ds a2⟩
      · rw [if_neg cl] at hnw
        have c0 : ¬ w_lft (w_GP (q_h (a_s A)) (a_P A)) (p_L (a_P A)) s = 0 := fun z => by
          apply cl
          cases hl : w_lv (a_G A) (w_al s (p_L (a_P A)) 0) with
          | nil => rfl
          | cons k l =>
            have z2 : w_bm (w_lv (a_G A) (w_al s (p_L (a_P A)) 0)) = 0 := z
            have z3 := (w_bm_bit k _).mpr (show k ∈ w_lv (a_G A) (w_al s (p_L (a_P A)) 0) by rw [hl]; exact List.mem_cons_self)
            rw [z2, Nat.zero_testBit] at z3
            cases z3
        rw [if_pos (show ¬ nI (w_lft (w_GP (q_h (a_s A)) (a_P A)) (p_L (a_P A)) s) = (0 : Int32) from fun z => c0 ((nI_eq (b := 0) (by omega) (by omega)).mp z))] at e
        rw [hnw]
        exact ⟨S1, e, w_Ds a2⟩
  · obtain ⟨b, hb⟩ := h.xH hA
    have h2 := w_2L hA
    have hL := hA.1.2.2.2.2.1
    have e := e246 (d + 19) x S hb.1.1
    rw [m244 (d := d + 18) hb.1, zb_some] at e
    cases c : ixO (2 ^ p_L (a_P A)) x with
    | false =>
      rw [c, if_neg (by decide)] at e
      rw [if_neg (by decide)]
      exact ⟨S, e, onM.refl hb.1.1⟩
    | true =>
      obtain ⟨s, hs, rfl⟩ := ixO_t c (by omega)
      have hp : q_pc s = (w_al s (p_L (a_P A)) 0).length := by rw [w_pc hL hs, (w_al_sl s).length_eq]
      have l := m246_20 (d := d + 18) hb (show s < 65536 by omega) (q_pc_le s) (2 ^ q_pc s) 0 (by omega)
      rw [c, if_pos (by decide), m206 (d := d + 18) hb.1.1 (show s < 65536 by omega), zb_some] at e
      have l' : b246_20 (d + 19) (nI s) (nI (q_pc s)) (0 : Int32) (0 : Int32) S = _ := l
      rw [l', hp, w_o1_ct] at e
      rw [if_pos rfl, nI_toInt (by omega), show ((s : Int)).toNat = s from rfl]
      exact ⟨S, e, onM.refl hb.1.1⟩
end BO
