/-! TOOLS: small ints as nI n, NONE as -nI 1, bits; what a method leaves as it was. -/
theorem ni_in {a N : Nat} (ha : a < 2147483648) : z_in (nI a) N ↔ a < N := by
  show (¬ (nI a < 0 ∨ N ≤ (nI a).toNatClampNeg)) ↔ _
  rw [nI_clamp ha]
  constructor
  · intro h
    exact Nat.not_le.mp fun q => h (Or.inr q)
  · intro h q
    rcases q with q | q
    · exact nI_pos ha q
    · omega
theorem ni_m1 : (-nI 1).toInt = -1 := by decide
theorem ni_inm {N : Nat} : z_in (-nI 1) N ↔ False := ⟨fun h => h (Or.inl (by decide)), fun h => h.elim⟩
theorem ni_ltm {a : Nat} (h : a < 2147483648) : nI a < -nI 1 ↔ False := by rw [fa_lt, nI_toInt h, ni_m1, iff_false]; omega
theorem ni_mlt {a : Nat} (h : a < 2147483648) : -nI 1 < nI a ↔ True := by rw [fa_lt, nI_toInt h, ni_m1]; simp only [iff_true]; omega
theorem ni_lem {a : Nat} (h : a < 2147483648) : nI a ≤ -nI 1 ↔ False := by rw [fa_le, nI_toInt h, ni_m1, iff_false]; omega
theorem ni_mle {a : Nat} (h : a < 2147483648) : -nI 1 ≤ nI a ↔ True := by rw [fa_le, nI_toInt h, ni_m1]; simp only [iff_true]; omega
theorem ni_eqm {a : Nat} (h : a < 2147483648) : nI a = -nI 1 ↔ False := by rw [fa_eq, nI_toInt h, ni_m1, iff_false]; omega
theorem ni_meq {a : Nat} (h : a < 2147483648) : -nI 1 = nI a ↔ False := by rw [fa_eq, nI_toInt h, ni_m1, iff_false]; omega
theorem ni_mm : (-nI 1 < -nI 1) ↔ False := by decide
theorem ni_mmle : (-nI 1 ≤ -nI 1) ↔ True := by decide
/-- a bit of a number -/
def q_b (a r : Nat) : Nat := if a.testBit r then 1 else 0
theorem ni_bit {a r : Nat} (ha : a < 2147483648) (hr : r < 31) : ((nI a >>> (nI r &&& nI 31)) &&& nI 1) = nI (q_b a r) := by
  rw [pk_shrN ha (nI r &&& nI 31) r (s_l r (by omega)), fa_and, Nat.and_one_is_mod]
  congr 1
  unfold q_b
  rw [Nat.testBit_eq_decide_div_mod_eq]
  by_cases h : a / 2 ^ r % 2 = 1
  · rw [if_pos (decide_eq_true h)]; exact h
  · rw [if_neg (by simpa using h)]; omega
theorem ni_shl {r : Nat} (hr : r < 31) : nI 1 <<< (nI r &&& nI 31) = nI (2 ^ r) := by
  have h : (2 : Nat) ^ r < 2 ^ 31 := Nat.pow_lt_pow_right (by decide) hr
  rw [pk_shlN (nI r &&& nI 31) r (s_l r (by omega)) (by omega), Nat.one_mul]
/-- a without the bits of b -/
def q_cl (a b : Nat) : Nat := a ^^^ (a &&& b)
theorem q_cl_bit (a b i : Nat) : (q_cl a b).testBit i = (a.testBit i && !b.testBit i) := by
  unfold q_cl
  rw [Nat.testBit_xor, Nat.testBit_and]
  cases a.testBit i <;> cases b.testBit i <;> rfl
theorem ni_clr (a b : Nat) : nI a &&& (nI b ^^^ -nI 1) = nI (q_cl a b) := by
  apply Int32.toBitVec_inj.1
  show BitVec.ofNat 32 a &&& (BitVec.ofNat 32 b ^^^ (-nI 1).toBitVec) = BitVec.ofNat 32 (q_cl a b)
  rw [show (-nI 1).toBitVec = BitVec.allOnes 32 by decide]
  apply BitVec.eq_of_getLsbD_eq
  intro i hi
  simp only [BitVec.getLsbD_and, BitVec.getLsbD_xor, BitVec.getLsbD_ofNat, BitVec.getLsbD_allOnes, hi, decide_true, Bool.true_and, q_cl_bit, Bool.xor_true]
theorem q_or_lt {a b n : Nat} (ha : a < 2 ^ n) (hb : b < 2 ^ n) : a ||| b < 2 ^ n := Nat.or_lt_two_pow ha hb
theorem q_or16 {a b : Nat} (ha : a < 65536) (hb : b < 65536) : a ||| b < 65536 := Nat.or_lt_two_pow (n := 16) ha hb
theorem q_and16 {a b : Nat} (ha : a < 65536) : a &&& b < 65536 := Nat.lt_of_le_of_lt Nat.and_le_left ha
theorem q_cl16 {a b : Nat} (ha : a < 65536) : q_cl a b < 65536 := Nat.xor_lt_two_pow (n := 16) ha (q_and16 ha)
theorem q_xor16 {a b : Nat} (ha : a < 65536) (hb : b < 65536) : a ^^^ b < 65536 := Nat.xor_lt_two_pow (n := 16) ha hb
theorem q_p16 {r : Nat} (h : r < 16) : 2 ^ r < 65536 := by
  have := Nat.pow_lt_pow_right (a := 2) (m := r) (n := 16) (by decide) h
  omega
/-- none is NONE -/
def eO (o : Option Nat) : Int32 := match o with
  | none => -nI 1
  | some k => nI k
theorem eO_none : eO none = -nI 1 := rfl
theorem eO_some (k : Nat) : eO (some k) = nI k := rfl
theorem eO_eq {o : Option Nat} {k : Nat} (h : ∀ j, o = some j → j < 2147483648) (hk : k < 2147483648) : eO o = nI k ↔ o = some k := by
  cases o with
  | none => rw [eO_none, ni_meq hk]; simp
  | some j => rw [eO_some, nI_eq (h j rfl) hk]; simp
theorem eO_inj {o u : Option Nat} (h : ∀ j, o = some j → j < 2147483648) (hu : ∀ j, u = some j → j < 2147483648) : eO o = eO u ↔ o = u := by
  cases u with
  | none =>
    cases o with
    | none => simp
    | some j => rw [eO_some, eO_none, ni_eqm (h j rfl)]; simp
  | some k => rw [eO_some, eO_eq h (hu k rfl)]
theorem zb_some {β γ δ : Type} (b : β) (c : γ) (G : β → γ → Option δ) : zb (some (b, c)) G = G b c := rfl
/-- a place of a function is put -/
def q_u {α : Type} (f : Nat → α) (i : Nat) (v : α) : Nat → α := fun j => if j = i then v else f j
theorem q_us {α : Type} (f : Nat → α) (i : Nat) (v : α) : q_u f i v i = v := if_pos rfl
theorem q_un {α : Type} {f : Nat → α} {i j : Nat} {v : α} (h : j ≠ i) : q_u f i v j = f j := if_neg h
/-- what of the ints has changed; references and longs have not -/
def onI (D : Nat → Nat → Prop) (S S' : z_S) : Prop := z_W S' ∧ gR S' = gR S ∧ gL S' = gL S ∧ ∀ c k, ¬ D c k → gI S' c k = gI S c k
theorem onI.refl {D : Nat → Nat → Prop} {S : z_S} (h : z_W S) : onI D S S := ⟨h, rfl, rfl, fun _ _ _ => rfl⟩
theorem onI.mono {D D' : Nat → Nat → Prop} {S S' : z_S} (h : onI D S S') (hd : ∀ c k, D c k → D' c k) : onI D' S S' := ⟨h.1, h.2.1, h.2.2.1, fun c k hn => h.2.2.2 c k fun q => hn (hd c k q)⟩
theorem onI.trans {D : Nat → Nat → Prop} {S S' S'' : z_S} (h : onI D S S') (h2 : onI D S' S'') : onI D S S'' := ⟨h2.1, h2.2.1.trans h.2.1, h2.2.2.1.trans h.2.2.1, fun c k hn => (h2.2.2.2 c k hn).trans (h.2.2.2 c k hn)⟩
theorem onI.W {D : Nat → Nat → Prop} {S S' : z_S} (h : onI D S S') : z_W S' := h.1
theorem onI.I {D : Nat → Nat → Prop} {S S' : z_S} (h : onI D S S') {c k : Nat} (hn : ¬ D c k) : gI S' c k = gI S c k := h.2.2.2 c k hn
theorem onI.P {D : Nat → Nat → Prop} {S S' : z_S} (h : onI D S S') (c k : Nat) : gP S' c k = gP S c k := by unfold gP; rw [h.2.1]
theorem onI_sI {D : Nat → Nat → Prop} {S S' : z_S} (h : onI D S S') {c k : Nat} {v : Int32} (hd : D c k) : onI D S (sI S' c k v) := by
  refine ⟨h.1, h.2.1, h.2.2.1, fun c' k' hn => ?_⟩
  rw [gI_sI]
  split
  · split
    · rename_i e1 e2
      exact absurd (e1 ▸ e2 ▸ hd) hn
    · exact h.2.2.2 c' k' hn
  · exact h.2.2.2 c' k' hn
theorem onI_cI {D : Nat → Nat → Prop} {S S' : z_S} (h : onI D S S') {a sp b dp n : Nat} (hd : ∀ k, D b k) : onI D S (cI S' a sp b dp n) := by
  refine ⟨h.1, h.2.1, h.2.2.1, fun c' k' hn => ?_⟩
  rw [gI_cI]
  split
  · rename_i e1
    exact absurd (e1 ▸ hd k') hn
  · exact h.2.2.2 c' k' hn
theorem q_cpy {f g : Nat → Int32} {n k : Nat} (h : k < n) : va_cpy f g 0 0 n k = f k := by
  rw [pk_cpy_in (Nat.zero_le _) (by omega), Nat.sub_zero, Nat.zero_add]
theorem ci_0 : (0 : Int32).toNatClampNeg = 0 := rfl
theorem ci_16 : (16 : Int32).toNatClampNeg = 16 := rfl
theorem ci_6 : (6 : Int32).toNatClampNeg = 6 := rfl
theorem ci_40 : (40 : Int32).toNatClampNeg = 40 := rfl
/-! the same as rows for simp, none by 'rfl' (a row by rfl would be used in a test without its decision) -/
theorem ni_lit (n : Nat) : (OfNat.ofNat n : Int32) = nI n := Eq.trans (fa_lit n) (Eq.refl _)
theorem gIs (S : z_S) (c k : Nat) (v : Int32) (c' k' : Nat) : gI (sI S c k v) c' k' = if c' = c then (if k' = k then v else gI S c' k') else gI S c' k' := Eq.trans (gI_sI S c k v c' k') (Eq.refl _)
theorem gIl (S : z_S) (c k : Nat) (v : Int64) (c' k' : Nat) : gI (sL S c k v) c' k' = gI S c' k' := Eq.trans (congrFun (congrFun (gI_sL S c k v) c') k') (Eq.refl _)
theorem gIr (S : z_S) (c k : Nat) (v : Option Nat) (c' k' : Nat) : gI (sR S c k v) c' k' = gI S c' k' := Eq.trans (congrFun (congrFun (gI_sR S c k v) c') k') (Eq.refl _)
theorem gLs (S : z_S) (c k : Nat) (v : Int32) (c' k' : Nat) : gL (sI S c k v) c' k' = gL S c' k' := Eq.trans (congrFun (congrFun (gL_sI S c k v) c') k') (Eq.refl _)
theorem gLl (S : z_S) (c k : Nat) (v : Int64) (c' k' : Nat) : gL (sL S c k v) c' k' = if c' = c then (if k' = k then v else gL S c' k') else gL S c' k' := Eq.trans (gL_sL S c k v c' k') (Eq.refl _)
theorem gLr (S : z_S) (c k : Nat) (v : Option Nat) (c' k' : Nat) : gL (sR S c k v) c' k' = gL S c' k' := Eq.trans (congrFun (congrFun (gL_sR S c k v) c') k') (Eq.refl _)
theorem gPs (S : z_S) (c k : Nat) (v : Int32) (c' k' : Nat) : gP (sI S c k v) c' k' = gP S c' k' := Eq.trans (Eq.refl _) (Eq.refl _)
theorem gPl (S : z_S) (c k : Nat) (v : Int64) (c' k' : Nat) : gP (sL S c k v) c' k' = gP S c' k' := Eq.trans (Eq.refl _) (Eq.refl _)
theorem gPr (S : z_S) (c k v : Nat) (c' k' : Nat) : gP (sR S c k (some v)) c' k' = if c' = c then (if k' = k then v else gP S c' k') else gP S c' k' := by
  unfold gP
  rw [gR_sR]
  split
  · split
    · rfl
    · rfl
  · rfl
theorem gIc (S : z_S) (a sp b dp n c k : Nat) : gI (cI S a sp b dp n) c k = if c = b then va_cpy (gI S a) (gI S b) sp dp n k else gI S c k := Eq.trans (gI_cI S a sp b dp n c k) (Eq.refl _)
theorem gIc0 (S : z_S) (a b n c k : Nat) : gI (cI S a 0 b 0 n) c k = if c = b then (if k < n then gI S a k else gI S b k) else gI S c k := by
  rw [gI_cI]
  split
  · split
    · rename_i hk; exact q_cpy hk
    · rw [pk_cpy_out (by omega)]
  · rfl
theorem gLc (S : z_S) (a sp b dp n c k : Nat) : gL (cI S a sp b dp n) c k = gL S c k := Eq.trans (congrFun (congrFun (gL_cI S a sp b dp n) c) k) (Eq.refl _)
theorem gPc (S : z_S) (a sp b dp n c k : Nat) : gP (cI S a sp b dp n) c k = gP S c k := Eq.trans (Eq.refl _) (Eq.refl _)
theorem eOn : eO none = -nI 1 := Eq.trans eO_none (Eq.refl _)
theorem eOs (k : Nat) : eO (some k) = nI k := Eq.trans (eO_some k) (Eq.refl _)
theorem q_ua {α : Type} (f : Nat → α) (i j : Nat) (v : α) : q_u f i v j = if j = i then v else f j := Eq.trans (Eq.refl _) (Eq.refl _)
theorem q_ef {a b : Nat} (h : a ≠ b) : (a = b) = False := eq_false h
theorem q_et {a b : Nat} (h : a = b) : (a = b) = True := eq_true h
theorem q_ltt {a b : Nat} (h : a < b) : (a < b) = True := eq_true h
theorem q_ltf {a b : Nat} (h : b ≤ a) : (a < b) = False := eq_false (by omega)
theorem q_let {a b : Nat} (h : a ≤ b) : (a ≤ b) = True := eq_true h
theorem q_lef {a b : Nat} (h : b < a) : (a ≤ b) = False := eq_false (by omega)
/-- a truth value -/
def bI (b : Bool) : Int32 := nI b.toNat
theorem bI_t : bI true = nI 1 := rfl
theorem bI_f : bI false = nI 0 := rfl
theorem bIt : bI true = nI 1 := Eq.trans (Eq.refl _) (Eq.refl _)
theorem bIf : bI false = nI 0 := Eq.trans (Eq.refl _) (Eq.refl _)
theorem bI_0 (b : Bool) : (bI b = nI 0) = (b = false) := by cases b <;> decide
theorem bI_1 (b : Bool) : (bI b = nI 1) = (b = true) := by cases b <;> decide
