/-! WHO IS WHERE, as numbers: night, purse, shut, taken, sleepers, where, stay, bench; the class's State holds it. -/
abbrev q_St : Type := Nat × Nat × Nat × Nat × (Nat → Option Nat) × (Nat → Nat) × (Nat → Nat) × List Nat
def q_n (s : q_St) : Nat := s.1
def q_p (s : q_St) : Nat := s.2.1
def q_h (s : q_St) : Nat := s.2.2.1
def q_t (s : q_St) : Nat := s.2.2.2.1
def q_s (s : q_St) : Nat → Option Nat := s.2.2.2.2.1
def q_w (s : q_St) : Nat → Nat := s.2.2.2.2.2.1
def q_y (s : q_St) : Nat → Nat := s.2.2.2.2.2.2.1
def q_l (s : q_St) : List Nat := s.2.2.2.2.2.2.2
theorem q_nm (a b c d : Nat) (e : Nat → Option Nat) (f g : Nat → Nat) (h : List Nat) : q_n (a, b, c, d, e, f, g, h) = a := rfl
theorem q_pm (a b c d : Nat) (e : Nat → Option Nat) (f g : Nat → Nat) (h : List Nat) : q_p (a, b, c, d, e, f, g, h) = b := rfl
theorem q_hm (a b c d : Nat) (e : Nat → Option Nat) (f g : Nat → Nat) (h : List Nat) : q_h (a, b, c, d, e, f, g, h) = c := rfl
theorem q_tm (a b c d : Nat) (e : Nat → Option Nat) (f g : Nat → Nat) (h : List Nat) : q_t (a, b, c, d, e, f, g, h) = d := rfl
theorem q_sm (a b c d : Nat) (e : Nat → Option Nat) (f g : Nat → Nat) (h : List Nat) : q_s (a, b, c, d, e, f, g, h) = e := rfl
theorem q_wm (a b c d : Nat) (e : Nat → Option Nat) (f g : Nat → Nat) (h : List Nat) : q_w (a, b, c, d, e, f, g, h) = f := rfl
theorem q_ym (a b c d : Nat) (e : Nat → Option Nat) (f g : Nat → Nat) (h : List Nat) : q_y (a, b, c, d, e, f, g, h) = g := rfl
theorem q_lm (a b c d : Nat) (e : Nat → Option Nat) (f g : Nat → Nat) (h : List Nat) : q_l (a, b, c, d, e, f, g, h) = h := rfl
/-- numbers are small -/
def q_Bd (s : q_St) : Prop := q_h s < 65536 ∧ q_t s < 65536 ∧ (q_l s).length ≤ 6 ∧ q_n s ≤ 1000 ∧ q_p s ≤ 999999 ∧ (∀ r k, q_s s r = some k → k < 16) ∧ (∀ k, q_w s k < 256) ∧ (∀ k, q_y s k ≤ 99) ∧ ∀ k, k ∈ q_l s → k < 16
/-- cell p holds it, but for where and stay of lodger g -/
def cSt (S : z_S) (p g : Nat) (s : q_St) : Prop :=
  gI S p 0 = nI (q_n s) ∧ gI S p 1 = nI (q_p s) ∧ gI S p 2 = nI (q_h s) ∧ gI S p 3 = nI (q_t s) ∧ gI S p 4 = nI (q_l s).length ∧
  (∀ r, r < 16 → gI S (p + 1) r = eO (q_s s r)) ∧ (∀ k, k < 16 → k ≠ g → gI S (p + 2) k = nI (q_w s k)) ∧ (∀ k, k < 16 → k ≠ g → gI S (p + 3) k = nI (q_y s k)) ∧ ∀ i, i < (q_l s).length → gI S (p + 4) i = nI ((q_l s).getD i 0)
/-- the cells of a State -/
def pD (p : Nat) : Nat → Nat → Prop := fun c _ => p ≤ c ∧ c ≤ p + 4
theorem cSt.on {S S' : z_S} {p g : Nat} {s : q_St} {D : Nat → Nat → Prop} (h : cSt S p g s) (ho : onI D S S') (hd : ∀ c k, p ≤ c → c ≤ p + 4 → ¬ D c k) : cSt S' p g s := by
  obtain ⟨h0, h1, h2, h3, h4, h5, h6, h7, h8⟩ := h
  refine ⟨?_, ?_, ?_, ?_, ?_, fun r hr => ?_, fun k hk hg => ?_, fun k hk hg => ?_, fun i hi => ?_⟩
  · rw [ho.I (hd _ _ (by omega) (by omega))]; exact h0
  · rw [ho.I (hd _ _ (by omega) (by omega))]; exact h1
  · rw [ho.I (hd _ _ (by omega) (by omega))]; exact h2
  · rw [ho.I (hd _ _ (by omega) (by omega))]; exact h3
  · rw [ho.I (hd _ _ (by omega) (by omega))]; exact h4
  · rw [ho.I (hd _ _ (by omega) (by omega))]; exact h5 r hr
  · rw [ho.I (hd _ _ (by omega) (by omega))]; exact h6 k hk hg
  · rw [ho.I (hd _ _ (by omega) (by omega))]; exact h7 k hk hg
  · rw [ho.I (hd _ _ (by omega) (by omega))]; exact h8 i hi
/-- who is exempt may be told less -/
theorem cSt.ex {S : z_S} {p g g' : Nat} {s : q_St} (h : cSt S p g s) (hg : ∀ k, k < 16 → k ≠ g' → k ≠ g) : cSt S p g' s :=
  ⟨h.1, h.2.1, h.2.2.1, h.2.2.2.1, h.2.2.2.2.1, h.2.2.2.2.2.1, fun k hk hn => h.2.2.2.2.2.2.1 k hk (hg k hk hn), fun k hk hn => h.2.2.2.2.2.2.2.1 k hk (hg k hk hn), h.2.2.2.2.2.2.2.2⟩
/-- two States don't meet -/
theorem pD_apart {p q : Nat} (hp : z_K p = 8) (hq : z_K q = 8) (h : p ≠ q) : p + 4 < q ∨ q + 4 < p := by
  have a1 := zOK_8_5 hp
  have a2 := zOK_8_6 hp
  have a3 := zOK_8_7 hp
  have a4 := zOK_8_8 hp
  have b1 := zOK_8_5 hq
  have b2 := zOK_8_6 hq
  have b3 := zOK_8_7 hq
  have b4 := zOK_8_8 hq
  refine Classical.byContradiction fun hn => ?_
  have c : q = p + 1 ∨ q = p + 2 ∨ q = p + 3 ∨ q = p + 4 ∨ p = q + 1 ∨ p = q + 2 ∨ p = q + 3 ∨ p = q + 4 := by omega
  rcases c with c | c | c | c | c | c | c | c <;> subst c <;> omega
/-- FREE -/
def q_free (s : q_St) (r : Nat) : Bool := !((q_h s ||| q_t s).testBit r)
section QS
variable {d p g : Nat} {S : z_S} {s : q_St}
theorem c76 {r : Nat} (hW : z_W S) (hp : z_K p = 8) (h : cSt S p g s) (hB : q_Bd s) (hr : r < 16) : fI (d + 1) 76 [.ref p, .int (nI r)] S = some (bI (q_free s r), S) := by
  have h1 := q_or16 hB.1 hB.2.1
  rw [e76 d p (nI r) S hW hp, h.2.2.1, h.2.2.2.1]
  simp only [fa_lit, fa_or]
  rw [ni_bit (by omega) (by omega)]
  unfold q_free q_b
  cases (q_h s ||| q_t s).testBit r
  · exact if_neg (fun q => q rfl)
  · exact if_pos (by decide)
theorem c77 {k : Nat} (hW : z_W S) (hp : z_K p = 8) (h : cSt S p g s) (hB : q_Bd s) (hk : k < 16) (hg : k ≠ g) : fI (d + 1) 77 [.ref p, .int (nI k)] S = some (bI (decide (q_w s k < 16)), S) := by
  have h1 := hB.2.2.2.2.2.2.1 k
  rw [e77 d p (nI k) S hW hp]
  simp (disch := omega) only [ni_lit, nI_add, pk_mul, pk_sub, pk_div, nI_leI, nI_ltI, nI_eq, nI_clamp, ni_in, ni_inm, ni_ltm, ni_mlt, ni_lem, ni_mle, ni_eqm, ni_meq, ni_mm, ni_mmle, ni_bit, ni_shl, ni_clr, fa_or, Nat.add_zero, Nat.zero_add, Nat.zero_mul, Nat.mul_zero, eOn, eOs, h.2.2.2.2.2.2.1 k hk hg]
  rw [if_pos hk]
  by_cases h2 : q_w s k < 16
  · rw [if_neg (by omega), decide_eq_true h2]; rfl
  · rw [if_pos (by omega), decide_eq_false h2]; rfl
/-- the first place of one in a row -/
def q_ix : List Nat → Nat → Nat → Option Nat
  | [], _, _ => none
  | a :: r, k, i => if a = k then some i else q_ix r k (i + 1)
theorem c78_l {k : Nat} (hW : z_W S) (hp : z_K p = 8) (h : cSt S p g s) (hB : q_Bd s) (hk : k < 16) : ∀ (m i : Nat), i + m = (q_l s).length → b78_2 d p (nI k) (nI i) S = some (eO (q_ix ((q_l s).drop i) k i), S)
  | 0, i, hi => by
    have h1 := hB.2.2.1
    rw [b78_2_eq d p (nI k) (nI i) S hW hp, h.2.2.2.2.1, if_pos ((nI_leI (by omega) (by omega)).mpr (by omega)), List.drop_of_length_le (by omega)]
    rfl
  | m + 1, i, hi => by
    have h1 := hB.2.2.1
    have h2 : (q_l s).drop i = (q_l s).getD i 0 :: (q_l s).drop (i + 1) := by
      rw [List.drop_eq_getElem_cons (by omega), List.getD_eq_getElem?_getD, List.getElem?_eq_getElem (by omega)]
      rfl
    have h3 : (q_l s).getD i 0 < 16 := by
      refine hB.2.2.2.2.2.2.2.2 _ ?_
      rw [List.getD_eq_getElem?_getD, List.getElem?_eq_getElem (by omega)]
      exact List.getElem_mem _
    rw [b78_2_eq d p (nI k) (nI i) S hW hp, h.2.2.2.2.1, if_neg (fun q => by have := (nI_leI (by omega) (by omega)).mp q; omega), if_pos ((ni_in (by omega)).mpr (by omega)), nI_clamp (by omega), h.2.2.2.2.2.2.2.2 i (by omega), h2]
    show (if ¬ nI ((q_l s).getD i 0) = nI k then _ else _) = some (eO (if (q_l s).getD i 0 = k then some i else _), S)
    by_cases e : (q_l s).getD i 0 = k
    · rw [if_neg (fun q => q (by rw [e])), if_pos e]; rfl
    · rw [if_pos (fun q => e ((nI_eq (by omega) (by omega)).mp q)), if_neg e, fa_lit, nI_add]
      exact c78_l hW hp h hB hk m (i + 1) (by omega)
theorem c78 {k : Nat} (hW : z_W S) (hp : z_K p = 8) (h : cSt S p g s) (hB : q_Bd s) (hk : k < 16) : fI (d + 1) 78 [.ref p, .int (nI k)] S = some (eO (q_ix (q_l s) k 0), S) := by
  rw [e78 d p (nI k) S hW hp]
  exact c78_l hW hp h hB hk _ 0 (by rw [Nat.zero_add])
/-- a lodger goes to bed in a room -/
def q_bed (s : q_St) (k r : Nat) : q_St := (q_n s, q_p s, q_h s, q_t s ||| 2 ^ r, q_u (q_s s) r (some k), q_u (q_w s) k r, q_u (q_y s) k 0, q_l s)
/-- one who is put out: nowhere, for no nights -/
def q_out (s : q_St) (k : Nat) : q_St := (q_n s, q_p s, q_h s, q_t s, q_s s, q_u (q_w s) k 255, q_u (q_y s) k 0, q_l s)
theorem cSt.out (h : cSt S p g s) : cSt S p g (q_out s g) := by
  obtain ⟨h0, h1, h2, h3, h4, h5, h6, h7, h8⟩ := h
  refine ⟨h0, h1, h2, h3, h4, h5, fun k hk hg => ?_, fun k hk hg => ?_, h8⟩
  · rw [h6 k hk hg]; show _ = nI (q_u (q_w s) g 255 k); rw [q_un hg]
  · rw [h7 k hk hg]; show _ = nI (q_u (q_y s) g 0 k); rw [q_un hg]
theorem c79 {k r g' : Nat} (hW : z_W S) (hp : z_K p = 8) (h : cSt S p g s) (hB : q_Bd s) (hk : k < 16) (hr : r < 16) (hg : ∀ j, j < 16 → j ≠ g' → j ≠ k → j ≠ g) : ∃ S', fV (d + 1) 79 [.ref p, .int (nI k), .int (nI r)] S = some S' ∧ onI (pD p) S S' ∧ cSt S' p g' (q_bed s k r) := by
  obtain ⟨h0, h1, h2, h3, h4, h5, h6, h7, h8⟩ := h
  have e := e79 d p (nI k) (nI r) S hW hp
  have b2 := hB.2.1
  have hpw := q_p16 hr
  rw [if_pos ((ni_in (by omega)).mpr hr), if_pos ((ni_in (by omega)).mpr hk), if_pos ((ni_in (by omega)).mpr hk), gI_sI, if_neg (by omega), h3, nI_clamp (by omega), nI_clamp (by omega)] at e
  simp only [fa_lit] at e
  rw [ni_shl (by omega), fa_or] at e
  refine ⟨_, e, ?_, ?_⟩
  · exact onI_sI (onI_sI (onI_sI (onI_sI (onI.refl hW) ⟨by omega, by omega⟩) ⟨by omega, by omega⟩) ⟨by omega, by omega⟩) ⟨by omega, by omega⟩
  · have x1 : ∀ n : Nat, 0 < n → ¬ p = p + n := fun n hn => by omega
    refine ⟨?_, ?_, ?_, ?_, ?_, fun j hj => ?_, fun j hj hjg => ?_, fun j hj hjg => ?_, fun i hi => ?_⟩
    · simp [gI_sI]; exact h0
    · simp [gI_sI]; exact h1
    · simp [gI_sI]; exact h2
    · simp [gI_sI]; rfl
    · simp [gI_sI]; exact h4
    · show _ = eO (q_u (q_s s) r (some k) j)
      by_cases q : j = r
      · simp [gI_sI, q, q_us, eO]
      · simp [gI_sI, q, q_un]; exact h5 j hj
    · show _ = nI (q_u (q_w s) k r j)
      by_cases q : j = k
      · simp [gI_sI, q, q_us]
      · simp [gI_sI, q, q_un]; exact h6 j hj (hg j hj hjg q)
    · show _ = nI (q_u (q_y s) k 0 j)
      by_cases q : j = k
      · simp [gI_sI, q, q_us]
      · simp [gI_sI, q, q_un]; exact h7 j hj (hg j hj hjg q)
    · simp [gI_sI]; exact h8 i hi
end QS
