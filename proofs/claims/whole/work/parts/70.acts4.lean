/-! ACTS: nights, chance. -/
def a_nt (A : q_A) : q_A := a_set A (q_nt (a_P A) true (a_s A)) (a_kl A) (a_ud A)
section TL
variable {d : Nat} {S : z_S} {A : q_A} {x y : Int32}
theorem aOk.nt (h : aOk A) (hm : 0 < p_m (a_P A)) : aOk (a_nt A) :=
  h.set hm (q_nt_G h.1 h.2.1) (by rw [q_nt_n]; omega) h.2.2.2.1 h.2.2.2.2.1
theorem c_nt (h : cA S A) (hA : aOk A) : ∃ S', fI (d + 7) 35 [.ref 22, .ref 27, .int (1 : Int32)] S = some (nI (q_ntp (a_P A) (a_s A)), S') ∧ onI (fun c _ => 23 ≤ c ∧ c ≤ 38) S S' ∧ cA S' (a_nt A) := by
  obtain ⟨q, hH, hq⟩ := h.H hA
  obtain ⟨S1, a1, a2, a3, a4⟩ := c35 (d := d) (p := 27) (b := true) hH (by decide +kernel) h.s hA.2.1
  have ho : onI (fun c _ => 23 ≤ c ∧ c ≤ 31) S S1 := a2.mono fun c k z => by unfold hD at z; omega
  exact ⟨S1, a1, ho.mono fun c k z => by omega, h.set ho (fun c k z => by omega) a3 (h.2.2.2.2.1.ag (ho.ag fun c k z => by omega)) (h.2.2.2.2.2.1.ag (ho.ag fun c k z => by omega))⟩
theorem m_nt (h : mA S A) (hA : aOk A) (hm : 0 < p_m (a_P A)) (hn : q_n (a_s A) ≤ 998) : ∃ S', fI (d + 7) 226 [.ref 396, .int (0 : Int32)] S = some (nI (q_ntp (a_P A) (a_s A)), S') ∧ onM (mD 0) S S' ∧ mA S' (a_nt A) := by
  obtain ⟨b, hM⟩ := h.2.1
  obtain ⟨S1, a1, a2, a3⟩ := m226 (d := d) (v := 0) hM (by omega) (h.st hm) hA.2.1
  rw [q_nt_setn hn] at a3
  refine ⟨S1, a1, a2.mono fun c k z => by unfold tD vD at z; unfold mD vD kD; omega, h.set hm a2 (fun c k z => by unfold tD vD at z; omega) a3 (h.2.2.2.2.2.1.ag (a2.ag fun c k z w => by unfold tD vD at w; unfold kD at z; omega)) (h.2.2.2.2.2.2.1.ag (fun u hu => ((hA.2.2.2.2.1 u hu).1.Bd hA.1).2.2.1) (a2.ag fun c k z w => ?_))⟩
  rcases z with z | ⟨v, z1, z2⟩
  · unfold tD vD at w; omega
  · unfold tD vD at w; unfold vD kD at z2; omega
def a_nts : Nat → q_A → q_A
  | 0, A => A
  | n + 1, A => a_nts n (a_nt A)
def a_pay : Nat → q_A → Nat
  | 0, _ => 0
  | n + 1, A => q_ntp (a_P A) (a_s A) + a_pay n (a_nt A)
theorem aOk.nts : ∀ (n : Nat) {A : q_A}, aOk A → 0 < p_m (a_P A) → aOk (a_nts n A)
  | 0, _, h, _ => h
  | n + 1, _, h, hm => aOk.nts n (h.nt hm) hm
theorem c138_l {n : Nat} (hn : n ≤ 40) : ∀ (m i acc : Nat) (A : q_A) (S : z_S), i + m = n → cA S A → aOk A → 0 < p_m (a_P A) → ∃ S', b138_33 (d + 7) (nI n) (nI acc) (nI i) S = some (nI (acc + a_pay m A), S') ∧ onI (fun c _ => 23 ≤ c ∧ c ≤ 38) S S' ∧ cA S' (a_nts m A)
  | 0, i, acc, A, S, hi, h, hA, hm => by
    have e := b138_33_eq (d + 7) (nI n) (nI acc) (nI i) S h.1
    rw [if_pos ((nI_leI (by omega) (by omega)).mpr (by omega))] at e
    exact ⟨S, e, onI.refl h.1, h⟩
  | m + 1, i, acc, A, S, hi, h, hA, hm => by
    have e := b138_33_eq (d + 7) (nI n) (nI acc) (nI i) S h.1
    obtain ⟨S1, a1, a2, a3⟩ := c_nt (d := d) h hA
    rw [if_neg (fun z => by have := (nI_leI (by omega) (by omega)).mp z; omega), a1, zb_some, show (1 : Int32) = nI 1 from rfl, nI_add, nI_add] at e
    obtain ⟨S2, b1, b2, b3⟩ := c138_l hn m (i + 1) (acc + q_ntp (a_P A) (a_s A)) (a_nt A) S1 (by omega) a3 (hA.nt hm) hm
    refine ⟨S2, ?_, a2.trans b2, b3⟩
    rw [e, b1, a_pay, Nat.add_assoc]
theorem m262_l {n : Nat} (hn : n ≤ 40) : ∀ (m i acc : Nat) (A : q_A) (S : z_S), i + m = n → mA S A → aOk A → 0 < p_m (a_P A) → q_n (a_s A) + m ≤ 999 → ∃ S', b262_25 (d + 7) (nI n) (nI acc) (nI i) S = some (nI (acc + a_pay m A), S') ∧ onM (mD 0) S S' ∧ mA S' (a_nts m A)
  | 0, i, acc, A, S, hi, h, hA, hm, hq => by
    have e := b262_25_eq (d + 7) (nI n) (nI acc) (nI i) S h.W
    rw [if_pos ((nI_leI (by omega) (by omega)).mpr (by omega))] at e
    exact ⟨S, e, onM.refl h.W, h⟩
  | m + 1, i, acc, A, S, hi, h, hA, hm, hq => by
    have e := b262_25_eq (d + 7) (nI n) (nI acc) (nI i) S h.W
    obtain ⟨S1, a1, a2, a3⟩ := m_nt (d := d) h hA hm (by omega)
    rw [if_neg (fun z => by have := (nI_leI (by omega) (by omega)).mp z; omega), a1, zb_some, show (1 : Int32) = nI 1 from rfl, nI_add, nI_add] at e
    have hn1 : q_n (a_s (a_nt A)) ≤ q_n (a_s A) + 1 := by
      show q_n (q_nt (a_P A) true (a_s A)) ≤ _
      rw [q_nt_n]; omega
    obtain ⟨S2, b1, b2, b3⟩ := m262_l hn m (i + 1) (acc + q_ntp (a_P A) (a_s A)) (a_nt A) S1 (by omega) a3 (hA.nt hm) hm (by omega)
    refine ⟨S2, ?_, a2.trans b2, b3⟩
    rw [e, b1, a_pay, Nat.add_assoc]
/-- may so many nights pass -/
def q_cn (A : q_A) (x : Int32) : Bool := decide (0 < p_m (a_P A)) && decide (1 ≤ x.toInt) && q_ca A x
theorem q_cn_m (h : mA S A) (hA : aOk A) : fI (d + 2) 235 [.ref 396, .int x, .int (1 : Int32), .int (40 : Int32)] S = some (bI (q_cn A x), S) := by
  have a0 : fI (d + 2) 235 [.ref 396, .int x, .int (1 : Int32), .int (40 : Int32)] S = _ := m235 (d := d) (a := 1) (c := 40) h hA (by omega) (by omega)
  rw [a0]
  unfold q_cn q_ca
  congr 2
  rw [Bool.and_assoc]
  congr 2
  rw [← Bool.decide_and, decide_eq_decide]
  omega
theorem q_cn_t (h : q_cn A x = true) : 0 < p_m (a_P A) ∧ ∃ n, 1 ≤ n ∧ n ≤ 40 ∧ x = nI n ∧ q_n (a_s A) + n ≤ 999 := by
  unfold q_cn at h
  rw [Bool.and_eq_true, Bool.and_eq_true, decide_eq_true_eq, decide_eq_true_eq] at h
  obtain ⟨n, n1, rfl, n3⟩ := q_ca_t h.2
  refine ⟨h.1.1, n, ?_, n1, rfl, n3⟩
  have := h.1.2
  rw [nI_toInt (by omega)] at this
  omega
theorem mD_ok {c k : Nat} (h : mD 0 c k) : 420 ≤ c ∧ c ≤ 434 := by unfold mD vD kD at h; omega
theorem t_nights : ∃ A', twoI (d + 20) 138 262 [.int x] A A' := by
  by_cases c : q_cn A x = true
  · obtain ⟨hm, n, n0, n1, rfl, n3⟩ := q_cn_t c
    refine ⟨a_nts n (a_set A (a_s A) (a_kl A) (q_psh (a_ud A) (a_s A, a_kl A))), two_m (nI (0 + a_pay n (a_set A (a_s A) (a_kl A) (q_psh (a_ud A) (a_s A, a_kl A))))) (fun hA => ?_) (fun S h hA => ?_) (fun S h hA => ?_)⟩
    · exact aOk.nts n (hA.set hm hA.2.1 hA.2.2.1 hA.2.2.2.1 hA.psh) hm
    · have e := e138 (d + 19) (nI n) S h.1
      have a0 : fI (d + 19) 140 [.ref 0, .int (nI n)] S = some (bI (q_cn A (nI n)), S) := c140 (d := d + 17) h hA
      obtain ⟨S1, a1, a2, a3⟩ := c_rem (d := d + 17) h hA
      rw [a0, zb_some, c, if_pos (by decide), a1, Option.bind_some] at e
      obtain ⟨S2, b1, b2, b3⟩ := c138_l (d := d + 12) n1 n 0 0 _ S1 (by omega) a3 (hA.set hm hA.2.1 hA.2.2.1 hA.2.2.2.1 hA.psh) hm
      exact ⟨S2, e.trans b1, (a2.M.mono fun c k z => by omega).trans (b2.M.mono fun c k z => by omega), b3⟩
    · have e := e262 (d + 19) (nI n) S h.W
      obtain ⟨S1, a1, a2, a3⟩ := m_keep (d := d + 17) h hA hm
      rw [q_cn_m (d := d + 17) h hA, zb_some, c, if_pos (by decide), a1, Option.bind_some] at e
      obtain ⟨S2, b1, b2, b3⟩ := m262_l (d := d + 12) n1 n 0 0 _ S1 (by omega) a3 (hA.set hm hA.2.1 hA.2.2.1 hA.2.2.2.1 hA.psh) hm n3
      exact ⟨S2, e.trans b1, (a2.mono fun c k z => by have := uD_ok z; omega).trans (b2.mono fun c k z => by have := mD_ok z; omega), b3⟩
  · have c' : q_cn A x = false := by simpa using c
    refine ⟨a_ref A 2, two_m (-nI 1) (fun hA => hA.ref) (fun S h hA => ?_) (fun S h hA => ?_)⟩
    · have e := e138 (d + 19) x S h.1
      have a0 : fI (d + 19) 140 [.ref 0, .int x] S = some (bI (q_cn A x), S) := c140 (d := d + 17) h hA
      have a1 : fI (d + 19) 150 [.ref 0, .int 2] S = _ := c150 (d := d + 18) (j := 2) h.1 h.2.2.2.2.2.2.2.2.1 (by omega)
      rw [a0, zb_some, c', if_neg (by decide), a1, zb_some] at e
      exact ⟨_, e, onM_sI (D := fun c _ => c < 396) (c := 395) (onM.refl h.1) (by decide), h.ref⟩
    · have e := e262 (d + 19) x S h.W
      have a1 : fI (d + 19) 194 [.ref 396, .int 2] S = _ := m194 (d := d + 18) (j := 2) h.W h.2.2.2.2.2.2.2.2.2.1 (by omega)
      rw [q_cn_m (d := d + 17) h hA, zb_some, c', if_neg (by decide), a1, zb_some] at e
      exact ⟨_, e, onM_sI (D := fun c _ => 396 ≤ c) (c := 419) (onM.refl h.W) (by decide), h.ref hA⟩
/-- the next of the row of draws -/
def q_dr (sd : Nat) : Nat := (1103515245 * sd + 12345) % 2147483648
theorem q_dr_lt (sd : Nat) : q_dr sd < 2147483648 := Nat.mod_lt _ (by decide)
theorem c142 {n : Nat} (h : cA S A) (hA : aOk A) (h0 : 0 < n) (hn : n ≤ 100) : fI (d + 1) 142 [.ref 0, .int (nI n)] S = some (nI (q_dr (a_sd A) / 64 % n), sI S 0 14 (nI (q_dr (a_sd A)))) := by
  have e := e142 d (nI n) S h.1
  have hs : gI S 0 14 = nI (a_sd A) := h.2.2.2.2.2.2.2.1.1
  have hd := q_dr_lt (a_sd A)
  have hsd := hA.2.2.2.2.2.2.1
  have hv : ((((1103515245 : Int64) * (nI (a_sd A)).toInt64) + (12345 : Int64)) &&& (2147483647 : Int64)).toInt32 = nI (q_dr (a_sd A)) := by
    rw [nI_l (by omega), show (1103515245 : Int64) = lN 1103515245 from rfl, show (12345 : Int64) = lN 12345 from rfl, show (2147483647 : Int64) = lN (2 ^ 31 - 1) from rfl, lN_mul, lN_add, fb_maskL, lN_i]
    rfl
  rw [hs, hv, gI_sI, if_pos rfl, if_pos rfl, if_neg (fun z => by have := (nI_leI (b := 0) (by omega) (by omega)).mp z; omega), if_neg (fun z => by have := (nI_eq (b := 0) (by omega) (by omega)).mp z; omega), show (64 : Int32) = nI 64 from rfl, pk_div (by omega) (by omega) (by omega), pk_rem (by omega) h0 (by omega)] at e
  exact e
theorem m263 {n : Nat} (h : mA S A) (hA : aOk A) (h0 : 0 < n) (hn : n ≤ 100) : fI (d + 1) 263 [.ref 396, .int (nI n)] S = some (nI (q_dr (a_sd A) / 64 % n), sL S 396 55 (lN (q_dr (a_sd A)))) := by
  have e := e263 d (nI n) S h.W
  have hs : gL S 396 55 = lN (a_sd A) := h.2.2.2.2.2.2.2.2.1.1
  have hd := q_dr_lt (a_sd A)
  have hsd := hA.2.2.2.2.2.2.1
  have hv : ((1103515245 : Int64) * lN (a_sd A) + (12345 : Int64)) - ((1103515245 : Int64) * lN (a_sd A) + (12345 : Int64)) / (2147483648 : Int64) * (2147483648 : Int64) = lN (q_dr (a_sd A)) := by
    rw [show (1103515245 : Int64) = lN 1103515245 from rfl, show (12345 : Int64) = lN 12345 from rfl, show (2147483648 : Int64) = lN 2147483648 from rfl, lN_mul, lN_add, pk_lRem (by omega) (by omega) (by omega)]
    rfl
  rw [hs, hv, gL_sL, if_pos rfl, if_pos rfl, nI_l (by omega), if_neg (fun z => by have := (pk_lEQ (a := n) (b := 0) (by omega) (by omega)).mp z; omega), show (64 : Int64) = lN 64 from rfl, pk_lDiv (by omega) (by omega) (by omega), pk_lRem (by omega) h0 (by omega), lN_i] at e
  exact e
/-- who knocks by chance: nobody, or a lodger; and the seed behind it -/
def q_kn (P : q_Pl) (sd : Nat) : Option Nat × Nat := if q_dr sd / 64 % 100 < p_K P ∧ 0 < p_L P then (some (q_dr (q_dr sd) / 64 % p_L P), q_dr (q_dr sd)) else (none, q_dr sd)
theorem c141 (h : cA S A) (hA : aOk A) : ∃ S', fI (d + 2) 141 [.ref 0] S = some (eO (q_kn (a_P A) (a_sd A)).1, S') ∧ onI (fun c k => c = 0 ∧ k = 14) S S' ∧ cA S' (a_see A (q_kn (a_P A) (a_sd A)).2) := by
  have e := e141 (d + 1) S h.1
  have a0 : fI (d + 1) 142 [.ref 0, .int (100 : Int32)] S = _ := c142 (d := d) (n := 100) h hA (by omega) (by omega)
  unfold q_kn
  have hg0 := q_dr_lt (a_sd A)
  revert a0 hg0
  generalize q_dr (a_sd A) = g
  intro a0 hg0
  have h1 := h.see (n := g)
  have hA1 := hA.see (n := g) hg0
  have ho : onI (fun c k => c = 0 ∧ k = 14) S (sI S 0 14 (nI (g))) := onI_sI (D := fun c k => c = 0 ∧ k = 14) (c := 0) (onI.refl h.1) ⟨rfl, rfl⟩
  obtain ⟨q, hH, hq⟩ := h1.H hA1
  have hC := hH.2.2.2.1
  have hK : gI (sI S 0 14 (nI (g))) q 4 = nI (p_K (a_P A)) := hC.2.2.2.2.1
  have hLq : gI (sI S 0 14 (nI (g))) q 6 = nI (p_L (a_P A)) := hC.2.2.2.2.2.2.1
  have hK2 := hA.1.2.2.2.1
  have hL := hA.1.2.2.2.2.1
  have hmod : g / 64 % 100 < 100 := Nat.mod_lt _ (by decide)
  have e2 := b141_21_eq (d + 1) (1 : Int32) (sI S 0 14 (nI (g))) h1.1
  have e3 := b141_21_eq (d + 1) (0 : Int32) (sI S 0 14 (nI (g))) h1.1
  rw [if_pos rfl] at e3
  rw [if_neg (by decide), hq, hLq] at e2
  rw [b141_50_eq (d + 1) _ h1.1] at e2 e3
  rw [a0, zb_some, hq, hK] at e
  by_cases c1 : g / 64 % 100 < p_K (a_P A)
  · rw [if_neg (fun z => by have := (nI_leI (by omega) (by omega)).mp z; omega)] at e
    by_cases c2 : 0 < p_L (a_P A)
    · have a1 : fI (d + 1) 142 [.ref 0, .int (nI (p_L (a_P A)))] (sI S 0 14 (nI (g))) = _ := c142 (d := d) (n := p_L (a_P A)) h1 hA1 c2 (by omega)
      rw [if_neg (fun z => by have := (nI_leI (b := 0) (by omega) (by omega)).mp z; omega), a1, zb_some] at e2
      rw [if_pos ⟨c1, c2⟩]
      refine ⟨_, e.trans e2, ho.trans (onI_sI (D := fun c k => c = 0 ∧ k = 14) (c := 0) (onI.refl h1.1) ⟨rfl, rfl⟩), h1.see⟩
    · rw [if_pos (show nI (p_L (a_P A)) ≤ (0 : Int32) from (nI_leI (a := p_L (a_P A)) (b := 0) (by omega) (by omega)).mpr (by omega))] at e2
      rw [if_neg (fun z => c2 z.2)]
      exact ⟨_, e.trans e2, ho, h1⟩
  · rw [if_pos ((nI_leI (by omega) (by omega)).mpr (by omega))] at e
    rw [if_neg (fun z => c1 z.1)]
    exact ⟨_, e.trans e3, ho, h1⟩
theorem q_kn_ok (P : q_Pl) (sd : Nat) : (q_kn P sd).2 < 2147483648 ∧ ∀ k, (q_kn P sd).1 = some k → k < p_L P := by
  unfold q_kn
  split
  · rename_i h
    refine ⟨q_dr_lt _, fun k hk => ?_⟩
    injection hk with hk
    rw [← hk]
    exact Nat.mod_lt _ h.2
  · exact ⟨q_dr_lt _, fun k hk => by cases hk⟩
/-- who came is let in -/
def a_co (A : q_A) (k : Nat) : q_A := a_set A (q_arr (a_P A) (p_T (a_P A)) (a_s A) k).1 (q_kpF (q_n (a_s A)) (a_kl A) (q_arr (a_P A) (p_T (a_P A)) (a_s A) k).2) (a_ud A)
theorem aOk.co {k : Nat} (hA : aOk A) (k1 : k < p_L (a_P A)) (k3 : q_w (a_s A) k = 255) : aOk (a_co A k) :=
  hA.set (p_m_L hA (by omega)) (q_arr_G hA.1 hA.2.1 k1 k3) (by rw [q_arr_n]; exact hA.2.2.1) (q_kpF_ok hA.2.2.1 _ _ hA.2.2.2.1 (q_arr_o hA.1 hA.2.1 k1 k3)) hA.2.2.2.2.1
/-- one night of chance: how many came, and the whole behind it -/
def a_ch (A : q_A) : Nat × q_A := match (q_kn (a_P A) (a_sd A)).1 with
  | none => (0, a_nt (a_see A (q_kn (a_P A) (a_sd A)).2))
  | some k => if q_w (a_s A) k = 255 then (1, a_nt (a_co (a_see A (q_kn (a_P A) (a_sd A)).2) k)) else (0, a_nt (a_see A (q_kn (a_P A) (a_sd A)).2))
theorem a_ch_ok (hA : aOk A) (hm : 0 < p_m (a_P A)) : aOk (a_ch A).2 ∧ 0 < p_m (a_P (a_ch A).2) ∧ q_n (a_s (a_ch A).2) ≤ q_n (a_s A) + 1 := by
  obtain ⟨o1, o2⟩ := q_kn_ok (a_P A) (a_sd A)
  have h1 := hA.see (n := (q_kn (a_P A) (a_sd A)).2) o1
  have hn : ∀ B : q_A, q_n (a_s (a_nt B)) ≤ q_n (a_s B) + 1 := fun B => by
    show q_n (q_nt (a_P B) true (a_s B)) ≤ _
    rw [q_nt_n]; omega
  unfold a_ch
  cases hk : (q_kn (a_P A) (a_sd A)).1 with
  | none => exact ⟨h1.nt hm, hm, hn _⟩
  | some k =>
    dsimp only
    split
    · rename_i hw
      refine ⟨(h1.co (o2 k hk) hw).nt hm, hm, Nat.le_trans (hn _) ?_⟩
      show q_n (q_arr (a_P A) (p_T (a_P A)) (a_s A) k).1 + 1 ≤ _
      rw [q_arr_n]
      exact Nat.le_refl _
    · exact ⟨h1.nt hm, hm, hn _⟩
def a_chs : Nat → q_A → Nat × q_A
  | 0, A => (0, A)
  | n + 1, A => ((a_ch A).1 + (a_chs n (a_ch A).2).1, (a_chs n (a_ch A).2).2)
theorem a_chs_ok : ∀ (n : Nat) {A : q_A}, aOk A → 0 < p_m (a_P A) → aOk (a_chs n A).2
  | 0, _, h, _ => h
  | n + 1, _, h, hm => a_chs_ok n (a_ch_ok h hm).1 (a_ch_ok h hm).2.1
theorem c139_s {n acc i : Nat} (h : cA S A) (hA : aOk A) (hm : 0 < p_m (a_P A)) (hi : i < n) (hn : n ≤ 40) : ∃ S', b139_33 (d + 7) (nI n) (nI acc) (nI i) S = b139_33 (d + 7) (nI n) (nI (acc + (a_ch A).1)) (nI (i + 1)) S' ∧ onI (fun c _ => c < 39) S S' ∧ cA S' (a_ch A).2 := by
  have e := b139_33_eq (d + 7) (nI n) (nI acc) (nI i) S h.1
  obtain ⟨S1, a1, a2, a3⟩ := c141 (d := d + 5) h hA
  obtain ⟨o1, o2⟩ := q_kn_ok (a_P A) (a_sd A)
  have h1 := hA.see (n := (q_kn (a_P A) (a_sd A)).2) o1
  have hL := hA.1.2.2.2.2.1
  rw [if_neg (fun z => by have := (nI_leI (by omega) (by omega)).mp z; omega), a1, zb_some, c152 (d := d + 5) a3 h1, zb_some] at e
  have nit : ∀ (B : q_A) (T : z_S) (ac : Nat), cA T B → aOk B → ∃ S', b139_63 (d + 7) (nI n) (nI ac) (nI i) T = b139_33 (d + 7) (nI n) (nI ac) (nI (i + 1)) S' ∧ onI (fun c _ => 23 ≤ c ∧ c ≤ 38) T S' ∧ cA S' (a_nt B) := fun B T ac hB hB2 => by
    have e2 := b139_63_eq (d + 7) (nI n) (nI ac) (nI i) T hB.1
    obtain ⟨T1, t1, t2, t3⟩ := c_nt (d := d) hB hB2
    rw [t1, zb_some, show (1 : Int32) = nI 1 from rfl, nI_add] at e2
    exact ⟨T1, e2, t2, t3⟩
  have f1 : onI (fun c _ => c < 39) S S1 := a2.mono fun c k z => by omega
  unfold a_ch
  cases hk : (q_kn (a_P A) (a_sd A)).1 with
  | none =>
    rw [hk] at e
    have q0 : q_aw (a_see A (q_kn (a_P A) (a_sd A)).2) (eO none) = false := rfl
    rw [q0, if_pos (by decide)] at e
    obtain ⟨S2, b1, b2, b3⟩ := nit _ S1 acc a3 h1
    exact ⟨S2, e.trans b1, f1.trans (b2.mono fun c k z => by omega), b3⟩
  | some k =>
    rw [hk] at e
    have k1 := o2 k hk
    have q0 : q_aw (a_see A (q_kn (a_P A) (a_sd A)).2) (eO (some k)) = decide (q_w (a_s A) k = 255) := by
      show q_aw (a_see A (q_kn (a_P A) (a_sd A)).2) (nI k) = _
      unfold q_aw
      rw [ixO_n (show k < p_L (a_P (a_see A (q_kn (a_P A) (a_sd A)).2)) from k1) (show p_L (a_P A) < 2147483648 by omega), nI_toInt (by omega)]
      rfl
    rw [q0] at e
    dsimp only
    by_cases hw : q_w (a_s A) k = 255
    · rw [decide_eq_true hw, if_neg (by decide)] at e
      obtain ⟨S2, b1, b2, b3⟩ := c134 (d := d) (k := k) a3 h1 k1 hw
      have b1' : fI (d + 7) 134 [.ref 0, .int (eO (some k))] S1 = _ := b1
      rw [b1', zb_some, show (1 : Int32) = nI 1 from rfl, nI_add] at e
      obtain ⟨S3, g1, g2, g3⟩ := nit (a_co (a_see A (q_kn (a_P A) (a_sd A)).2) k) S2 (acc + 1) b3 (h1.co k1 hw)
      rw [if_pos hw]
      exact ⟨S3, e.trans g1, (f1.trans (b2.mono fun c k z => by omega)).trans (g2.mono fun c k z => by omega), g3⟩
    · rw [decide_eq_false hw, if_pos (by decide)] at e
      obtain ⟨S2, b1, b2, b3⟩ := nit _ S1 acc a3 h1
      rw [if_neg hw]
      exact ⟨S2, e.trans b1, f1.trans (b2.mono fun c k z => by omega), b3⟩
theorem c139_l {n : Nat} (hn : n ≤ 40) : ∀ (m i acc : Nat) (A : q_A) (S : z_S), i + m = n → cA S A → aOk A → 0 < p_m (a_P A) → ∃ S', b139_33 (d + 7) (nI n) (nI acc) (nI i) S = some (nI (acc + (a_chs m A).1), S') ∧ onI (fun c _ => c < 39) S S' ∧ cA S' (a_chs m A).2
  | 0, i, acc, A, S, hi, h, hA, hm => by
    have e := b139_33_eq (d + 7) (nI n) (nI acc) (nI i) S h.1
    rw [if_pos ((nI_leI (by omega) (by omega)).mpr (by omega))] at e
    exact ⟨S, e, onI.refl h.1, h⟩
  | m + 1, i, acc, A, S, hi, h, hA, hm => by
    obtain ⟨S1, a1, a2, a3⟩ := c139_s (d := d) (n := n) (acc := acc) (i := i) h hA hm (by omega) hn
    obtain ⟨g1, g2, g3⟩ := a_ch_ok hA hm
    obtain ⟨S2, b1, b2, b3⟩ := c139_l hn m (i + 1) (acc + (a_ch A).1) (a_ch A).2 S1 (by omega) a3 g1 g2
    refine ⟨S2, ?_, a2.trans b2, b3⟩
    rw [a1, b1, a_chs, Nat.add_assoc]
theorem m264_s {n acc i : Nat} (h : mA S A) (hA : aOk A) (hm : 0 < p_m (a_P A)) (hi : i < n) (hn : n ≤ 40) (h99 : q_n (a_s A) ≤ 998) : ∃ S', b264_25 (d + 7) (nI n) (nI acc) (nI i) S = b264_25 (d + 7) (nI n) (nI (acc + (a_ch A).1)) (nI (i + 1)) S' ∧ onM (fun c k => mD 0 c k ∨ c = 396 ∧ k = 55) S S' ∧ mA S' (a_ch A).2 := by
  have e := b264_25_eq (d + 7) (nI n) (nI acc) (nI i) S h.W
  have a0 : fI (d + 7) 263 [.ref 396, .int (100 : Int32)] S = _ := m263 (d := d + 6) (n := 100) h hA (by omega) (by omega)
  obtain ⟨o1, o2⟩ := q_kn_ok (a_P A) (a_sd A)
  have hL := hA.1.2.2.2.2.1
  have hK2 := hA.1.2.2.2.1
  have nit : ∀ (B : q_A) (T : z_S) (ac : Nat), mA T B → aOk B → 0 < p_m (a_P B) → q_n (a_s B) ≤ 998 → ∃ S', b264_106 (d + 7) (nI n) (nI ac) (nI i) T = b264_25 (d + 7) (nI n) (nI ac) (nI (i + 1)) S' ∧ onM (mD 0) T S' ∧ mA S' (a_nt B) := fun B T ac hB hB2 hBm hB3 => by
    have e2 := b264_106_eq (d + 7) (nI n) (nI ac) (nI i) T hB.W
    obtain ⟨T1, t1, t2, t3⟩ := m_nt (d := d) hB hB2 hBm hB3
    rw [t1, zb_some, show (1 : Int32) = nI 1 from rfl, nI_add] at e2
    exact ⟨T1, e2, t2, t3⟩
  have h1A := hA.see (n := (q_kn (a_P A) (a_sd A)).2) o1
  have kn : ∃ S1, b264_25 (d + 7) (nI n) (nI acc) (nI i) S = b264_77 (d + 7) (nI n) (nI acc) (nI i) (eO (q_kn (a_P A) (a_sd A)).1) S1 ∧ onM (fun c k => c = 396 ∧ k = 55) S S1 ∧ mA S1 (a_see A (q_kn (a_P A) (a_sd A)).2) := by
    unfold q_kn
    have hg0 := q_dr_lt (a_sd A)
    revert a0 hg0
    generalize q_dr (a_sd A) = g
    intro a0 hg0
    have h1 := h.see (n := g) hA
    have hA1 := hA.see (n := g) hg0
    have ho : onM (fun c k => c = 396 ∧ k = 55) S (sL S 396 55 (lN g)) := onM_sL (D := fun c k => c = 396 ∧ k = 55) (c := 396) (onM.refl h.W) ⟨rfl, rfl⟩
    obtain ⟨b, hM⟩ := h1.2.1
    obtain ⟨hW, hb, hbk, hC, hP⟩ := hM
    have hK : gI (sL S 396 55 (lN g)) 401 b = nI (p_K (a_P A)) := hC.2.2.2.1
    have hLq : gI (sL S 396 55 (lN g)) 402 b = nI (p_L (a_P A)) := hC.2.2.2.2.1
    have hmod : g / 64 % 100 < 100 := Nat.mod_lt _ (by decide)
    have e3 := b264_76_eq (d + 7) (nI n) (nI acc) (nI i) (sL S 396 55 (lN g)) hW
    rw [if_neg (fun z => by have := (nI_leI (by omega) (by omega)).mp z; omega), a0, zb_some, hbk, if_pos ((ni_in (by omega)).mpr (by omega)), if_pos ((ni_in (by omega)).mpr (by omega)), if_pos ((ni_in (by omega)).mpr (by omega)), nI_clamp (by omega), hK, hLq] at e
    by_cases c1 : g / 64 % 100 < p_K (a_P A)
    · rw [if_neg (fun z => by have := (nI_leI (by omega) (by omega)).mp z; omega)] at e
      by_cases c2 : 0 < p_L (a_P A)
      · have a1 : fI (d + 7) 263 [.ref 396, .int (nI (p_L (a_P A)))] (sL S 396 55 (lN g)) = some (nI (q_dr (a_sd (a_see A g)) / 64 % p_L (a_P A)), sL (sL S 396 55 (lN g)) 396 55 (lN (q_dr (a_sd (a_see A g))))) := m263 (d := d + 6) (n := p_L (a_P A)) h1 hA1 c2 (by omega)
        rw [show a_sd (a_see A g) = g from rfl] at a1
        rw [if_neg (fun z => by have := (nI_leI (b := 0) (by omega) (by omega)).mp z; omega), a1, zb_some] at e
        rw [if_pos ⟨c1, c2⟩]
        exact ⟨_, e, ho.trans (onM_sL (D := fun c k => c = 396 ∧ k = 55) (c := 396) (onM.refl h1.W) ⟨rfl, rfl⟩), h1.see hA1⟩
      · rw [if_pos (show nI (p_L (a_P A)) ≤ (0 : Int32) from (nI_leI (a := p_L (a_P A)) (b := 0) (by omega) (by omega)).mpr (by omega))] at e
        rw [if_neg (fun z => c2 z.2)]
        exact ⟨_, e.trans e3, ho, h1⟩
    · rw [if_pos ((nI_leI (by omega) (by omega)).mpr (by omega))] at e
      rw [if_neg (fun z => c1 z.1)]
      exact ⟨_, e.trans e3, ho, h1⟩
  obtain ⟨S1, k1, k2, k3⟩ := kn
  have f1 : onM (fun c k => mD 0 c k ∨ c = 396 ∧ k = 55) S S1 := k2.mono fun c k z => Or.inr z
  unfold a_ch
  cases hk : (q_kn (a_P A) (a_sd A)).1 with
  | none =>
    rw [hk] at k1
    have e4 := b264_77_eq (d + 7) (nI n) (nI acc) (nI i) (eO none) S1 k3.W
    rw [if_pos (show eO none = (-1 : Int32) from rfl)] at e4
    obtain ⟨S2, b1, b2, b3⟩ := nit _ S1 acc k3 h1A hm h99
    exact ⟨S2, k1.trans (e4.trans b1), f1.trans (b2.mono fun c k z => Or.inl z), b3⟩
  | some k =>
    rw [hk] at k1
    have kl := o2 k hk
    have e4 := b264_77_eq (d + 7) (nI n) (nI acc) (nI i) (nI k) S1 k3.W
    obtain ⟨b, hM⟩ := k3.2.1
    have a5 : fI (d + 7) 215 [.ref 396, .int (0 : Int32), .int (nI k)] S1 = some (bI (decide (q_w (a_s A) k = 255)), S1) := m215 (d := d + 5) (v := 0) hM (by omega) (k3.st hm) hA.2.1 (by omega)
    rw [if_neg (show ¬ nI k = (-1 : Int32) from fun z => by have := congrArg Int32.toInt z; rw [nI_toInt (by omega)] at this; simp at this), a5, zb_some] at e4
    dsimp only
    by_cases hw : q_w (a_s A) k = 255
    · rw [decide_eq_true hw, if_neg (by decide)] at e4
      obtain ⟨S2, b1, b2, b3, b4, b5⟩ := m220 (d := d) (v := 0) hM (by omega) k3.2.2.2.1 hA.1.2.2.1 (k3.st hm) k3.2.2.2.2.2.1 hA.2.1 kl hw
      have b1' : fI (d + 7) 220 [.ref 396, .int (0 : Int32), .int (nI k)] S1 = _ := b1
      rw [b1', zb_some, show (1 : Int32) = nI 1 from rfl, nI_add] at e4
      have h2 : mA S2 (a_co (a_see A (q_kn (a_P A) (a_sd A)).2) k) := by
        refine k3.set hm b2 (fun c k z => by unfold mD vD kD at z; omega) b3 b4 (k3.2.2.2.2.2.2.1.ag (fun u hu => ((h1A.2.2.2.2.1 u hu).1.Bd h1A.1).2.2.1) (b2.ag fun c k z w => ?_))
        rcases z with z | ⟨v, z1, z2⟩
        · unfold mD vD kD at w; omega
        · unfold mD vD kD at *; omega
      obtain ⟨S3, g1, g2, g3⟩ := nit (a_co (a_see A (q_kn (a_P A) (a_sd A)).2) k) S2 (acc + 1) h2 (h1A.co kl hw) hm (by show q_n (q_arr (a_P A) (p_T (a_P A)) (a_s A) k).1 ≤ _; rw [q_arr_n]; exact h99)
      rw [if_pos hw]
      exact ⟨S3, k1.trans (e4.trans g1), (f1.trans (b2.mono fun c k z => Or.inl z)).trans (g2.mono fun c k z => Or.inl z), g3⟩
    · rw [decide_eq_false hw, if_pos (by decide)] at e4
      obtain ⟨S2, b1, b2, b3⟩ := nit _ S1 acc k3 h1A hm h99
      rw [if_neg hw]
      exact ⟨S2, k1.trans (e4.trans b1), f1.trans (b2.mono fun c k z => Or.inl z), b3⟩
theorem m264_l {n : Nat} (hn : n ≤ 40) : ∀ (m i acc : Nat) (A : q_A) (S : z_S), i + m = n → mA S A → aOk A → 0 < p_m (a_P A) → q_n (a_s A) + m ≤ 999 → ∃ S', b264_25 (d + 7) (nI n) (nI acc) (nI i) S = some (nI (acc + (a_chs m A).1), S') ∧ onM (fun c k => mD 0 c k ∨ c = 396 ∧ k = 55) S S' ∧ mA S' (a_chs m A).2
  | 0, i, acc, A, S, hi, h, hA, hm, hq => by
    have e := b264_25_eq (d + 7) (nI n) (nI acc) (nI i) S h.W
    rw [if_pos ((nI_leI (by omega) (by omega)).mpr (by omega))] at e
    exact ⟨S, e, onM.refl h.W, h⟩
  | m + 1, i, acc, A, S, hi, h, hA, hm, hq => by
    obtain ⟨S1, a1, a2, a3⟩ := m264_s (d := d) (n := n) (acc := acc) (i := i) h hA hm (by omega) hn (by omega)
    obtain ⟨g1, g2, g3⟩ := a_ch_ok hA hm
    obtain ⟨S2, b1, b2, b3⟩ := m264_l hn m (i + 1) (acc + (a_ch A).1) (a_ch A).2 S1 (by omega) a3 g1 g2 (by omega)
    refine ⟨S2, ?_, a2.trans b2, b3⟩
    rw [a1, b1, a_chs, Nat.add_assoc]
theorem t_chance : ∃ A', twoI (d + 20) 139 264 [.int x] A A' := by
  by_cases c : q_cn A x = true
  · obtain ⟨hm, n, n0, n1, rfl, n3⟩ := q_cn_t c
    refine ⟨(a_chs n (a_set A (a_s A) (a_kl A) (q_psh (a_ud A) (a_s A, a_kl A)))).2, two_m (nI (0 + (a_chs n (a_set A (a_s A) (a_kl A) (q_psh (a_ud A) (a_s A, a_kl A)))).1)) (fun hA => ?_) (fun S h hA => ?_) (fun S h hA => ?_)⟩
    · exact a_chs_ok n (hA.set hm hA.2.1 hA.2.2.1 hA.2.2.2.1 hA.psh) hm
    · have e := e139 (d + 19) (nI n) S h.1
      have a0 : fI (d + 19) 140 [.ref 0, .int (nI n)] S = some (bI (q_cn A (nI n)), S) := c140 (d := d + 17) h hA
      obtain ⟨S1, a1, a2, a3⟩ := c_rem (d := d + 17) h hA
      rw [a0, zb_some, c, if_pos (by decide), a1, Option.bind_some] at e
      obtain ⟨S2, b1, b2, b3⟩ := c139_l (d := d + 12) n1 n 0 0 _ S1 (by omega) a3 (hA.set hm hA.2.1 hA.2.2.1 hA.2.2.2.1 hA.psh) hm
      exact ⟨S2, e.trans b1, (a2.M.mono fun c k z => by omega).trans (b2.M.mono fun c k z => by omega), b3⟩
    · have e := e264 (d + 19) (nI n) S h.W
      obtain ⟨S1, a1, a2, a3⟩ := m_keep (d := d + 17) h hA hm
      rw [q_cn_m (d := d + 17) h hA, zb_some, c, if_pos (by decide), a1, Option.bind_some] at e
      obtain ⟨S2, b1, b2, b3⟩ := m264_l (d := d + 12) n1 n 0 0 _ S1 (by omega) a3 (hA.set hm hA.2.1 hA.2.2.1 hA.2.2.2.1 hA.psh) hm n3
      exact ⟨S2, e.trans b1, (a2.mono fun c k z => by have := uD_ok z; omega).trans (b2.mono fun c k z => by rcases z with z | z; exact (by have := mD_ok z; omega); omega), b3⟩
  · have c' : q_cn A x = false := by simpa using c
    refine ⟨a_ref A 2, two_m (-nI 1) (fun hA => hA.ref) (fun S h hA => ?_) (fun S h hA => ?_)⟩
    · have e := e139 (d + 19) x S h.1
      have a0 : fI (d + 19) 140 [.ref 0, .int x] S = some (bI (q_cn A x), S) := c140 (d := d + 17) h hA
      have a1 : fI (d + 19) 150 [.ref 0, .int 2] S = _ := c150 (d := d + 18) (j := 2) h.1 h.2.2.2.2.2.2.2.2.1 (by omega)
      rw [a0, zb_some, c', if_neg (by decide), a1, zb_some] at e
      exact ⟨_, e, onM_sI (D := fun c _ => c < 396) (c := 395) (onM.refl h.1) (by decide), h.ref⟩
    · have e := e264 (d + 19) x S h.W
      have a1 : fI (d + 19) 194 [.ref 396, .int 2] S = _ := m194 (d := d + 18) (j := 2) h.W h.2.2.2.2.2.2.2.2.2.1 (by omega)
      rw [q_cn_m (d := d + 17) h hA, zb_some, c', if_neg (by decide), a1, zb_some] at e
      exact ⟨_, e, onM_sI (D := fun c _ => 396 ≤ c) (c := 419) (onM.refl h.W) (by decide), h.ref hA⟩
end TL
