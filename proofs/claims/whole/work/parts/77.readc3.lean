/-! READING AN IMAGE: the class, all of it. -/
def q_hd (P : q_Pl) (tp : List Nat) : Prop := 5 + p_R P + 2 * p_L P + 2 + tp.getD (5 + p_R P + 2 * p_L P) 0 = tp.length ∧ tp.getD (tp.length - 1) 0 = q_ck (tp.take (tp.length - 1)) ∧ tp.getD 0 0 * 256 + tp.getD 1 0 ≤ 999 ∧ tp.getD 2 0 * 65536 + tp.getD 3 0 * 256 + tp.getD 4 0 ≤ 999999 ∧ ∀ r, r < p_R P → tp.getD (5 + r) 0 ≤ 1
def q_RD (P : q_Pl) (tp : List Nat) (s' : q_St) : Prop := q_hd P tp ∧ ∃ s, q_rl P tp (p_L P) 0 (q_rs P tp) = some s ∧ q_bok P tp s ∧ s' = q_setl s (q_bl P tp (tp.getD (5 + p_R P + 2 * p_L P) 0))
theorem q_RD.one {P : q_Pl} {tp : List Nat} {s1 s2 : q_St} (h1 : q_RD P tp s1) (h2 : q_RD P tp s2) : s1 = s2 := by
  obtain ⟨_, a, a1, _, rfl⟩ := h1
  obtain ⟨_, b, b1, _, rfl⟩ := h2
  rw [a1] at b1
  injection b1 with b1
  rw [b1]
theorem q_RD.ok {P : q_Pl} {tp : List Nat} {s' : q_St} (hP : p_Wf P) (h : q_RD P tp s') : q_Gd P s' ∧ q_n s' ≤ 999 := by
  obtain ⟨⟨h1, h2, h3, h4, h5⟩, s, a1, ⟨b1, b2, b3⟩, rfl⟩ := h
  have hI := q_RI_l hP (p_L P) 0 _ s (by omega) (q_RI_0 h5 h3 h4) a1
  exact ⟨hI.Gd b2 b3 (by rw [q_bl_l]; exact b1), hI.2.2.2.2.2.2.2.2.2.2.1⟩
theorem q_n2 {a b : Nat} (hb : b < 256) (ha : a < 256) : nI a <<< ((8 : Int32) &&& 31) ||| nI b = nI (a * 256 + b) := by
  rw [pk_shlN ((8 : Int32) &&& 31) 8 (by decide) (by omega), Nat.mul_comm, fa_or_sum a (show b < 2 ^ 8 by omega), Nat.mul_comm]
theorem q_n3 {a b c : Nat} (ha : a < 256) (hb : b < 256) (hc : c < 256) : nI a <<< ((16 : Int32) &&& 31) ||| nI b <<< ((8 : Int32) &&& 31) ||| nI c = nI (a * 65536 + b * 256 + c) := by
  rw [pk_shlN ((16 : Int32) &&& 31) 16 (by decide) (by omega), pk_shlN ((8 : Int32) &&& 31) 8 (by decide) (by omega), Nat.mul_comm a, fa_or_sum a (show b * 2 ^ 8 < 2 ^ 16 by omega), show 2 ^ 16 * a + b * 2 ^ 8 = 2 ^ 8 * (256 * a + b) by omega, fa_or_sum _ (show c < 2 ^ 8 by omega)]
theorem q_hN {a b : Nat} (ha : a < 256) (hb : b < 256) : a * 256 + b < 2 ^ 31 := by omega
theorem q_hP {a b c : Nat} (ha : a < 256) (hb : b < 256) (hc : c < 256) : a * 65536 + b * 256 + c < 2 ^ 31 := by omega
theorem q_999 {x : Nat} (h : x < 2 ^ 31) : (999 : Int32) < nI x ↔ ¬ x ≤ 999 := (nI_ltI (a := 999) (by decide) h).trans Nat.not_le.symm
theorem q_999999 {x : Nat} (h : x < 2 ^ 31) : (999999 : Int32) < nI x ↔ ¬ x ≤ 999999 := (nI_ltI (a := 999999) (by decide) h).trans Nat.not_le.symm
section TR
variable {d q : Nat} {S : z_S} {P : q_Pl} {tp : List Nat} {s : q_St} {A : q_A}
theorem c44t (hb : ∀ x, x ∈ tp → x < 256) (hW : z_W S) (ht : ∀ i, i < tp.length → gI S 1 i = nI (tp.getD i 0)) (hl : tp.length ≤ 1600) {n : Nat} (hn : n ≤ tp.length) : ∀ (m i : Nat), i + m = n → b44_6 d 1 (nI n) (nI (q_ck (tp.take i))) (nI i) S = some (nI (q_ck (tp.take n)), S)
  | 0, i, hi => by
    have e := b44_6_eq d 1 (nI n) (nI (q_ck (tp.take i))) (nI i) S hW (by decide +kernel)
    rw [if_pos ((nI_leI (by omega) (by omega)).mpr (by omega))] at e
    rw [e, show i = n by omega]
  | m + 1, i, hi => by
    have e := b44_6_eq d 1 (nI n) (nI (q_ck (tp.take i))) (nI i) S hW (by decide +kernel)
    have hil : i < tp.length := by omega
    have h1 := tp_b hb i
    have h2 := q_ck_lt (tp.take i)
    have hr : ((5 : Int32) * nI (q_ck (tp.take i)) + nI (tp.getD i 0)) - ((5 : Int32) * nI (q_ck (tp.take i)) + nI (tp.getD i 0)) / (251 : Int32) * (251 : Int32) = nI ((5 * q_ck (tp.take i) + tp.getD i 0) % 251) := by
      rw [show (5 : Int32) = nI 5 from rfl, pk_mul, nI_add]
      exact pk_rem (d := 251) (by omega) (by omega) (by omega)
    have hln : z_Ln 1 = 1600 := by decide +kernel
    rw [hln, if_neg (fun z => by have := (nI_leI (by omega) (by omega)).mp z; omega), if_neg (fun z => by have := (nI_leI (a := 1600) (by omega) (by omega)).mp z; omega), if_pos ((ni_in (by omega)).mpr (by omega)), nI_clamp (by omega), ht i hil, hr, ← q_ck_s hil, show (1 : Int32) = nI 1 from rfl, nI_add] at e
    rw [e]
    exact c44t hb hW ht hl hn m (i + 1) (by omega)
theorem c45 (hP : p_Wf P) (hb : ∀ x, x ∈ tp → x < 256) (hl2 : tp.length ≤ 1600) (h : rE S q P tp) : ∃ (v : Bool) (S' : z_S), fI (d + 4) 45 [.ref 393, .ref 1, .int (nI tp.length), .ref q, .ref 32] S = some (bI v, S') ∧ onI (pD 32) S S' ∧ (v = true ↔ ∃ s', q_RD P tp s') ∧ ∀ s', q_RD P tp s' → cSt S' 32 16 s' := by
  have hL := hP.2.2.2.2.1
  have hR := hP.1
  have e := e45 (d + 3) 1 (nI tp.length) q 32 S h.1 (by decide +kernel) h.2.2.1 (by decide +kernel)
  have hln : z_Ln 1 = 1600 := by decide +kernel
  have gR : gI S q 1 = nI (p_R P) := h.2.2.2.1.2.1
  have gL6 : gI S q 6 = nI (p_L P) := h.2.2.2.1.2.2.2.2.2.2.1
  have fail : (¬ ∃ s', q_RD P tp s') → ∀ S', onI (pD 32) S S' → fI (d + 4) 45 [.ref 393, .ref 1, .int (nI tp.length), .ref q, .ref 32] S = some ((0 : Int32), S') → ∃ (v : Bool) (S' : z_S), fI (d + 4) 45 [.ref 393, .ref 1, .int (nI tp.length), .ref q, .ref 32] S = some (bI v, S') ∧ onI (pD 32) S S' ∧ (v = true ↔ ∃ s', q_RD P tp s') ∧ ∀ s', q_RD P tp s' → cSt S' 32 16 s' := fun hx S' ho he => ⟨false, S', he, ho, ⟨fun z => Bool.noConfusion z, fun z => absurd z hx⟩, fun s' z => absurd ⟨s', z⟩ hx⟩
  rw [gR, gL6, hln, show (5 : Int32) = nI 5 from rfl, show (2 : Int32) = nI 2 from rfl, nI_add, pk_mul, nI_add, nI_add] at e
  by_cases c1 : tp.length < 5 + p_R P + 2 * p_L P + 2
  · rw [if_pos ((nI_ltI (by omega) (by omega)).mpr c1)] at e
    exact fail (fun ⟨s', z, _⟩ => by have := z.1; omega) S (onI.refl h.1) e
  have g0 : gI S 1 (nI (5 + p_R P + 2 * p_L P)).toNatClampNeg = nI (tp.getD (5 + p_R P + 2 * p_L P) 0) := by rw [nI_clamp (by omega)]; exact h.2.2.2.2.2 _ (by omega)
  have l0 := tp_b hb (5 + p_R P + 2 * p_L P)
  rw [if_neg (fun z => c1 ((nI_ltI (by omega) (by omega)).mp z)), if_pos (show nI tp.length ≤ Int32.ofNat 1600 from (nI_leI (b := 1600) (by omega) (by omega)).mpr hl2), if_pos ((ni_in (by omega)).mpr (by omega)), g0, nI_add] at e
  rcases Classical.em (¬ (5 + p_R P + 2 * p_L P + 2 + tp.getD (5 + p_R P + 2 * p_L P) 0 = tp.length)) with c2 | c2'
  · rw [if_pos (fun z => c2 ((nI_eq (by omega) (by omega)).mp z).symm)] at e
    exact fail (fun ⟨s', z, _⟩ => c2 z.1) S (onI.refl h.1) e
  have c2 : 5 + p_R P + 2 * p_L P + 2 + tp.getD (5 + p_R P + 2 * p_L P) 0 = tp.length := Classical.not_not.mp c2'
  have g9 : gI S 1 (nI (tp.length - 1)).toNatClampNeg = nI (tp.getD (tp.length - 1) 0) := by rw [nI_clamp (by omega)]; exact h.2.2.2.2.2 _ (by omega)
  have l9 := tp_b hb (tp.length - 1)
  have lck := q_ck_lt (tp.take (tp.length - 1))
  have a44 : fI (d + 3) 44 [.ref 1, .int (nI (tp.length - 1))] S = some (nI (q_ck (tp.take (tp.length - 1))), S) := (e44 (d + 2) 1 _ S h.1 (by decide +kernel)).trans (c44t hb h.1 h.2.2.2.2.2 hl2 (by omega) (tp.length - 1) 0 (by omega))
  rw [if_neg (fun z => z (by rw [c2])), show (1 : Int32) = nI 1 from rfl, pk_sub (by omega), if_pos ((ni_in (by omega)).mpr (by omega)), g9, a44, zb_some] at e
  rcases Classical.em (¬ (tp.getD (tp.length - 1) 0 = q_ck (tp.take (tp.length - 1)))) with c3 | c3'
  · rw [if_neg (fun z => c3 ((nI_eq (by omega) (by omega)).mp z))] at e
    exact fail (fun ⟨s', z, _⟩ => c3 z.2.1) S (onI.refl h.1) e
  have c3 : tp.getD (tp.length - 1) 0 = q_ck (tp.take (tp.length - 1)) := Classical.not_not.mp c3'
  obtain ⟨S1, a1, a2, a3⟩ := c74 (d := d + 1) (S := S) (p := 32) (h := 0) h.1 (by decide +kernel)
  have a1' : fV (d + 3) 74 [.ref 32, .int (0 : Int32)] S = some S1 := a1
  have h1 := h.on a2
  have t0 : gI S1 1 ((0 : Int32)).toNatClampNeg = nI (tp.getD 0 0) := h1.2.2.2.2.2 0 (by omega)
  have t1 : gI S1 1 (nI 1).toNatClampNeg = nI (tp.getD 1 0) := h1.2.2.2.2.2 1 (by omega)
  have t2 : ∀ v, gI (sI S1 32 0 v) 1 (nI 2).toNatClampNeg = nI (tp.getD 2 0) := fun v => by rw [gI_sI, if_neg (by decide)]; exact h1.2.2.2.2.2 2 (by omega)
  have t3 : ∀ v, gI (sI S1 32 0 v) 1 ((3 : Int32)).toNatClampNeg = nI (tp.getD 3 0) := fun v => by rw [gI_sI, if_neg (by decide)]; exact h1.2.2.2.2.2 3 (by omega)
  have t4 : ∀ v, gI (sI S1 32 0 v) 1 ((4 : Int32)).toNatClampNeg = nI (tp.getD 4 0) := fun v => by rw [gI_sI, if_neg (by decide)]; exact h1.2.2.2.2.2 4 (by omega)
  have b0 := tp_b hb 0
  have b1 := tp_b hb 1
  have b2 := tp_b hb 2
  have b3 := tp_b hb 3
  have b4 := tp_b hb 4
  rw [if_pos (show nI (tp.getD (tp.length - 1) 0) = nI (q_ck (tp.take (tp.length - 1))) by rw [c3]), a1', Option.bind_some, if_pos (show z_in (0 : Int32) 1600 by decide), if_pos (show z_in (nI 1) 1600 by decide), if_pos (show z_in (nI 2) 1600 by decide), if_pos (show z_in (3 : Int32) 1600 by decide), if_pos (show z_in (4 : Int32) 1600 by decide), t0, t1, t2, t3, t4, q_n2 b1 b0, q_n3 b2 b3 b4] at e
  have hN := q_999 (q_hN b0 b1)
  have hPp := q_999999 (q_hP b2 b3 b4)
  have u0 : gI (sI (sI S1 32 0 (nI (tp.getD 0 0 * 256 + tp.getD 1 0))) 32 1 (nI (tp.getD 2 0 * 65536 + tp.getD 3 0 * 256 + tp.getD 4 0))) 32 0 = nI (tp.getD 0 0 * 256 + tp.getD 1 0) := by rw [gI_sI, if_pos rfl, if_neg (by decide), gI_sI, if_pos rfl, if_pos rfl]
  have u1 : gI (sI (sI S1 32 0 (nI (tp.getD 0 0 * 256 + tp.getD 1 0))) 32 1 (nI (tp.getD 2 0 * 65536 + tp.getD 3 0 * 256 + tp.getD 4 0))) 32 1 = nI (tp.getD 2 0 * 65536 + tp.getD 3 0 * 256 + tp.getD 4 0) := by rw [gI_sI, if_pos rfl, if_pos rfl]
  have o2 : onI (pD 32) S (sI (sI S1 32 0 (nI (tp.getD 0 0 * 256 + tp.getD 1 0))) 32 1 (nI (tp.getD 2 0 * 65536 + tp.getD 3 0 * 256 + tp.getD 4 0))) := onI_sI (D := pD 32) (c := 32) (onI_sI (D := pD 32) (c := 32) a2 (by unfold pD; omega)) (by unfold pD; omega)
  have s2 : cSt (sI (sI S1 32 0 (nI (tp.getD 0 0 * 256 + tp.getD 1 0))) 32 1 (nI (tp.getD 2 0 * 65536 + tp.getD 3 0 * 256 + tp.getD 4 0))) 32 16 (q_rsi tp 0) := by
    obtain ⟨s0, s1, s2, s3, s4, s5, s6, s7, s8⟩ := a3
    refine ⟨u0, u1, ?_, ?_, ?_, fun j hj => ?_, fun j hj hg => ?_, fun j hj hg => ?_, fun j hj => ?_⟩
    · rw [gI_sI, if_pos rfl, if_neg (by decide), gI_sI, if_pos rfl, if_neg (by decide)]; exact s2
    · rw [gI_sI, if_pos rfl, if_neg (by decide), gI_sI, if_pos rfl, if_neg (by decide)]; exact s3
    · rw [gI_sI, if_pos rfl, if_neg (by decide), gI_sI, if_pos rfl, if_neg (by decide)]; exact s4
    · rw [gI_sI, if_neg (by omega), gI_sI, if_neg (by omega)]; exact s5 j hj
    · rw [gI_sI, if_neg (by omega), gI_sI, if_neg (by omega)]; exact s6 j hj hg
    · rw [gI_sI, if_neg (by omega), gI_sI, if_neg (by omega)]; exact s7 j hj hg
    · rw [gI_sI, if_neg (by omega), gI_sI, if_neg (by omega)]; exact s8 j hj
  have h2 := h.on o2
  rw [u0, u1] at e
  revert e u0 u1 o2 s2 h2
  generalize sI (sI S1 32 0 (nI (tp.getD 0 0 * 256 + tp.getD 1 0))) 32 1 (nI (tp.getD 2 0 * 65536 + tp.getD 3 0 * 256 + tp.getD 4 0)) = S2
  intro e u0 u1 o2 s2 h2
  have e167 := fun T (hT : z_W T) => b45_167_eq (d + 3) T hT
  rcases Classical.em (¬ (tp.getD 0 0 * 256 + tp.getD 1 0 ≤ 999)) with c4 | c4'
  · rw [if_pos (hN.mpr c4), e167 S2 h2.1] at e
    exact fail (fun ⟨s', z, _⟩ => c4 z.2.2.1) S2 o2 e
  have c4 : tp.getD 0 0 * 256 + tp.getD 1 0 ≤ 999 := Classical.not_not.mp c4'
  rcases Classical.em (¬ (tp.getD 2 0 * 65536 + tp.getD 3 0 * 256 + tp.getD 4 0 ≤ 999999)) with c5 | c5'
  · rw [if_neg (fun z => hN.mp z c4), if_pos (hPp.mpr c5), e167 S2 h2.1] at e
    exact fail (fun ⟨s', z, _⟩ => c5 z.2.2.2.1) S2 o2 e
  have c5 : tp.getD 2 0 * 65536 + tp.getD 3 0 * 256 + tp.getD 4 0 ≤ 999999 := Classical.not_not.mp c5'
  rw [if_neg (fun z => hN.mp z c4), if_neg (fun z => hPp.mp z c5)] at e
  obtain ⟨v1, S3, f1, f2, f3, f4⟩ := c46_l (d := d + 2) hP hb (by omega) hl2 (p_R P) 0 S2 (by omega) h2 s2 (fun r hr => absurd hr (by omega))
  have f1' : fI (d + 3) 46 [.ref 1, .ref q, .ref 32] S2 = some (bI v1, S3) := (e46 (d + 2) 1 q 32 S2 h2.1 (by decide +kernel) h2.2.2.1 (by decide +kernel)).trans f1
  rw [f1', zb_some] at e
  cases v1 with
  | false =>
    rw [if_pos (by rfl), e167 S3 f2.W] at e
    exact fail (fun ⟨s', z, _⟩ => by have := f3.mpr z.2.2.2.2; cases this) S3 (o2.trans f2) e
  | true =>
    rw [if_neg (by decide)] at e
    have h3 := h2.on f2
    have hfl := f3.mp rfl
    have hI0 := q_RI_0 (P := P) hfl c4 c5
    obtain ⟨v2, S4, k1, k2, k3, k4⟩ := c47_l (d := d + 1) hP hb (by omega) hl2 (p_L P) 0 S3 (q_rs P tp) (by omega) h3 (f4 rfl) hI0
    have k1' : fI (d + 3) 47 [.ref 1, .int (nI (5 + p_R P)), .ref q, .ref 32] S3 = some (bI v2, S4) := (e47 (d + 2) 1 (nI (5 + p_R P)) q 32 S3 h3.1 (by decide +kernel) h3.2.2.1 (by decide +kernel)).trans k1
    rw [k1', zb_some] at e
    cases v2 with
    | false =>
      rw [if_pos (by rfl), e167 S4 k2.W] at e
      exact fail (fun ⟨s', z, s, z2, _⟩ => by have := k3.mpr (by rw [z2]; rfl); cases this) S4 ((o2.trans f2).trans k2) e
    | true =>
      rw [if_neg (by decide)] at e
      have h4 := h3.on k2
      obtain ⟨s, hs⟩ := Option.isSome_iff_exists.mp (k3.mp rfl)
      have hI := q_RI_l hP (p_L P) 0 _ s (by omega) hI0 hs
      obtain ⟨v3, S5, m1, m2, m3, m4⟩ := c48 (d := d + 1) hP hb c2 hl2 h4 (k4 s hs) hI
      rw [m1, zb_some] at e
      cases v3 with
      | false =>
        rw [if_pos (by rfl), e167 S5 m2.W] at e
        exact fail (fun ⟨s', z, s'', z2, z3, _⟩ => by rw [hs] at z2; injection z2 with z2; rw [← z2] at z3; have := m3.mpr z3; cases this) S5 (((o2.trans f2).trans k2).trans m2) e
      | true =>
        rw [if_neg (by decide)] at e
        have rd : q_RD P tp (q_setl s (q_bl P tp (tp.getD (5 + p_R P + 2 * p_L P) 0))) := ⟨⟨c2, c3, c4, c5, hfl⟩, s, hs, m3.mp rfl, rfl⟩
        exact ⟨true, S5, e, ((o2.trans f2).trans k2).trans m2, ⟨fun _ => ⟨_, rd⟩, fun _ => rfl⟩, fun s' z => by rw [z.one rd]; exact m4 rfl⟩
end TR
