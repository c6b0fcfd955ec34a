/-! READING AN IMAGE: what it says, pure. -/
def q_rh (tp : List Nat) : Nat → Nat
  | 0 => 0
  | i + 1 => q_rh tp i ||| tp.getD (5 + i) 0 * 2 ^ i
def q_rs (P : q_Pl) (tp : List Nat) : q_St := (tp.getD 0 0 * 256 + tp.getD 1 0, tp.getD 2 0 * 65536 + tp.getD 3 0 * 256 + tp.getD 4 0, q_rh tp (p_R P), 0, fun _ => none, fun _ => 255, fun _ => 0, [])
def q_yy (s : q_St) (k y : Nat) : q_St := (q_n s, q_p s, q_h s, q_t s, q_s s, q_w s, q_u (q_y s) k y, q_l s)
def q_ww (s : q_St) (k w : Nat) : q_St := (q_n s, q_p s, q_h s, q_t s, q_s s, q_u (q_w s) k w, q_y s, q_l s)
def q_rk (P : q_Pl) (tp : List Nat) (s : q_St) (k : Nat) : Option q_St :=
  if tp.getD (5 + p_R P + 2 * k) 0 = p_f P k ∨ tp.getD (5 + p_R P + 2 * k) 0 = p_o P k then
    (if q_free s (tp.getD (5 + p_R P + 2 * k) 0) = true ∧ tp.getD (5 + p_R P + 2 * k + 1) 0 ≤ 99 then some (q_yy (q_bed s k (tp.getD (5 + p_R P + 2 * k) 0)) k (tp.getD (5 + p_R P + 2 * k + 1) 0)) else none)
  else if (tp.getD (5 + p_R P + 2 * k) 0 = 254 ∨ tp.getD (5 + p_R P + 2 * k) 0 = 255) ∧ tp.getD (5 + p_R P + 2 * k + 1) 0 = 0 then some (q_ww s k (tp.getD (5 + p_R P + 2 * k) 0)) else none
/-- m lodgers from k on -/
def q_rl (P : q_Pl) (tp : List Nat) : Nat → Nat → q_St → Option q_St
  | 0, _, s => some s
  | m + 1, k, s => (q_rk P tp s k).bind (q_rl P tp m (k + 1))
/-- right so far: lodgers below i told -/
def q_RI (P : q_Pl) (i : Nat) (s : q_St) : Prop :=
  q_h s < 2 ^ p_R P ∧ q_t s < 2 ^ p_R P ∧ (∀ r, (q_t s).testBit r = (q_s s r).isSome) ∧
  (∀ r k, q_s s r = some k → k < p_L P ∧ (r = p_f P k ∨ r = p_o P k) ∧ q_w s k = r) ∧
  (∀ k, q_w s k < 16 → q_s s (q_w s k) = some k) ∧ (∀ k, i ≤ k → q_w s k = 255) ∧ (∀ k, q_w s k < 16 ∨ q_w s k = 254 ∨ q_w s k = 255) ∧
  q_l s = [] ∧ (∀ k, q_y s k ≤ 99 ∧ (16 ≤ q_w s k → q_y s k = 0)) ∧
  (∀ r, (q_h s).testBit r = true → q_s s r = none) ∧ q_n s ≤ 999 ∧ q_p s ≤ 999999
theorem q_RI.Bd {P : q_Pl} {i : Nat} {s : q_St} (h : q_RI P i s) (hP : p_Wf P) : q_Bd s := by
  obtain ⟨h1, h2, h3, h4, h5, h6, h7, h8, h9, h10, h11, h12⟩ := h
  have hR := q_p2 hP.1
  have hL := hP.2.2.2.2.1
  exact ⟨by omega, by omega, by rw [h8]; simp, by omega, h12, fun r k z => by have := (h4 r k z).1; omega, fun k => by have := h7 k; omega, fun k => (h9 k).1, fun k hk => by rw [h8] at hk; exact absurd hk List.not_mem_nil⟩
theorem q_free_RI {P : q_Pl} {i r : Nat} {s : q_St} (h : q_RI P i s) : q_free s r = true ↔ (q_h s).testBit r = false ∧ q_s s r = none := by
  unfold q_free
  rw [Nat.testBit_or, h.2.2.1 r]
  cases q_s s r <;> cases (q_h s).testBit r <;> simp
theorem q_RI_k {P : q_Pl} {tp : List Nat} {s s' : q_St} {k : Nat} (hP : p_Wf P) (hk : k < p_L P) (h : q_RI P k s) (e : q_rk P tp s k = some s') : q_RI P (k + 1) s' := by
  have hfr := fun r => q_free_RI (r := r) h
  obtain ⟨h1, h2, h3, h4, h5, h6, h7, h8, h9, h10, h11, h12⟩ := h
  have ff := hP.2.2.2.2.2.2.2.1 k hk
  have hR := hP.1
  unfold q_rk at e
  generalize tp.getD (5 + p_R P + 2 * k) 0 = w at e
  generalize tp.getD (5 + p_R P + 2 * k + 1) 0 = y at e
  have hwk := h6 k (Nat.le_refl _)
  split at e
  · rename_i c1
    split at e
    · rename_i c2
      injection e with e
      subst e
      obtain ⟨f1, f2⟩ := (hfr w).mp c2.1
      have hwR : w < p_R P := by omega
      have nk : ∀ r, q_s s r ≠ some k := fun r z => by have := (h4 r k z).2.2; have := (h4 r k z).2.1; omega
      refine ⟨h1, Nat.or_lt_two_pow h2 (Nat.pow_lt_pow_right (by decide) hwR), fun r => ?_, fun r j z => ?_, fun j z => ?_, fun j z => ?_, fun j => ?_, h8, fun j => ?_, fun r z => ?_, h11, h12⟩
      · show (q_t s ||| 2 ^ w).testBit r = (q_u (q_s s) w (some k) r).isSome
        rw [Nat.testBit_or, h3 r, Nat.testBit_two_pow]
        by_cases z : r = w
        · subst z; rw [q_us, decide_eq_true rfl, Bool.or_true]; rfl
        · rw [q_un z, decide_eq_false (fun w' => z w'.symm), Bool.or_false]
      · have z' : q_u (q_s s) w (some k) r = some j := z
        show j < p_L P ∧ _ ∧ q_u (q_w s) k w j = r
        by_cases hr : r = w
        · subst hr
          rw [q_us] at z'
          injection z' with z'
          subst z'
          exact ⟨hk, c1, q_us _ _ _⟩
        · rw [q_un hr] at z'
          have hj : j ≠ k := fun q => by rw [q] at z'; exact nk r z'
          rw [q_un hj]
          exact h4 r j z'
      · have z' : q_u (q_w s) k w j < 16 := z
        show q_u (q_s s) w (some k) (q_u (q_w s) k w j) = some j
        by_cases hj : j = k
        · subst hj; rw [q_us, q_us]
        · rw [q_un hj] at z' ⊢
          have := h5 j z'
          rw [q_un (fun q => by rw [q] at this; rw [f2] at this; cases this)]
          exact this
      · show q_u (q_w s) k w j = 255
        rw [q_un (by omega)]
        exact h6 j (by omega)
      · show q_u (q_w s) k w j < 16 ∨ q_u (q_w s) k w j = 254 ∨ q_u (q_w s) k w j = 255
        by_cases hj : j = k
        · subst hj; rw [q_us]; omega
        · rw [q_un hj]; exact h7 j
      · show q_u (q_u (q_y s) k 0) k y j ≤ 99 ∧ (16 ≤ q_u (q_w s) k w j → q_u (q_u (q_y s) k 0) k y j = 0)
        by_cases hj : j = k
        · subst hj; rw [q_us, q_us]; exact ⟨c2.2, fun z => by omega⟩
        · rw [q_un hj, q_un hj, q_un hj]; exact h9 j
      · show q_u (q_s s) w (some k) r = none
        have z' : (q_h s).testBit r = true := z
        by_cases hr : r = w
        · subst hr; rw [f1] at z'; cases z'
        · rw [q_un hr]; exact h10 r z'
    · cases e
  · rename_i c1
    split at e
    · rename_i c2
      injection e with e
      subst e
      have hw16 : 16 ≤ w := by omega
      refine ⟨h1, h2, h3, fun r j z => ?_, fun j z => ?_, fun j z => ?_, fun j => ?_, h8, fun j => ?_, h10, h11, h12⟩
      · have g := h4 r j z
        have hj : j ≠ k := fun q => by rw [q] at g; have := g.2.2; have := g.2.1; omega
        show j < p_L P ∧ _ ∧ q_u (q_w s) k w j = r
        rw [q_un hj]
        exact g
      · have z' : q_u (q_w s) k w j < 16 := z
        show q_s s (q_u (q_w s) k w j) = some j
        have hj : j ≠ k := fun q => by rw [q, q_us] at z'; omega
        rw [q_un hj] at z' ⊢
        exact h5 j z'
      · show q_u (q_w s) k w j = 255
        rw [q_un (by omega)]
        exact h6 j (by omega)
      · show q_u (q_w s) k w j < 16 ∨ q_u (q_w s) k w j = 254 ∨ q_u (q_w s) k w j = 255
        by_cases hj : j = k
        · subst hj; rw [q_us]; omega
        · rw [q_un hj]; exact h7 j
      · show q_y s j ≤ 99 ∧ (16 ≤ q_u (q_w s) k w j → q_y s j = 0)
        by_cases hj : j = k
        · subst hj
          have := h9 j
          exact ⟨this.1, fun _ => this.2 (by omega)⟩
        · rw [q_un hj]; exact h9 j
    · cases e
theorem q_RI_l {P : q_Pl} {tp : List Nat} (hP : p_Wf P) : ∀ (m k : Nat) (s s' : q_St), k + m = p_L P → q_RI P k s → q_rl P tp m k s = some s' → q_RI P (p_L P) s'
  | 0, k, s, s', hk, h, e => by
    rw [q_rl] at e
    injection e with e
    subst e
    rw [show p_L P = k by omega]
    exact h
  | m + 1, k, s, s', hk, h, e => by
    rw [q_rl] at e
    cases hq : q_rk P tp s k with
    | none => rw [hq] at e; cases e
    | some s1 =>
      rw [hq] at e
      exact q_RI_l hP m (k + 1) s1 s' (by omega) (q_RI_k hP (by omega) h hq) e
theorem q_rh_lt {tp : List Nat} : ∀ i, (∀ r, r < i → tp.getD (5 + r) 0 ≤ 1) → q_rh tp i < 2 ^ i
  | 0, _ => by show 0 < 1; decide
  | i + 1, h => by
    have ih := q_rh_lt i (fun r hr => h r (by omega))
    have := h i (by omega)
    rw [q_rh]
    refine Nat.or_lt_two_pow (Nat.lt_of_lt_of_le ih (Nat.pow_le_pow_right (by decide) (by omega))) ?_
    rw [Nat.pow_succ]
    have : tp.getD (5 + i) 0 * 2 ^ i ≤ 1 * 2 ^ i := Nat.mul_le_mul_right _ this
    have := Nat.pow_pos (n := i) (show 0 < 2 by decide)
    omega
theorem q_RI_0 {P : q_Pl} {tp : List Nat} (hr : ∀ r, r < p_R P → tp.getD (5 + r) 0 ≤ 1) (hn : tp.getD 0 0 * 256 + tp.getD 1 0 ≤ 999) (hp : tp.getD 2 0 * 65536 + tp.getD 3 0 * 256 + tp.getD 4 0 ≤ 999999) : q_RI P 0 (q_rs P tp) := by
  refine ⟨q_rh_lt _ hr, Nat.pow_pos (by decide), fun r => ?_, fun r k z => ?_, fun k z => ?_, fun k _ => rfl, fun k => Or.inr (Or.inr rfl), rfl, fun k => ⟨Nat.zero_le _, fun _ => rfl⟩, fun r _ => rfl, hn, hp⟩
  · exact Nat.zero_testBit r
  · have z' : (none : Option Nat) = some k := z
    cases z'
  · have z' : 255 < 16 := z
    omega
theorem q_RI.Gd {P : q_Pl} {s : q_St} {l : List Nat} (h : q_RI P (p_L P) s) (h1 : l.Nodup) (h2 : ∀ k, k ∈ l ↔ k < p_L P ∧ q_w s k = 254) (h3 : l.length ≤ p_B P) : q_Gd P (q_setl s l) := by
  obtain ⟨g1, g2, g3, g4, g5, g6, g7, g8, g9, g10, g11, g12⟩ := h
  refine ⟨g1, g2, g3, g4, g5, fun k => ?_, g7, h1, fun k hk => ((h2 k).mp hk).1, h3, g9, g10, by show q_n s ≤ 1000; omega, g12⟩
  show q_w s k = 254 ↔ k ∈ l
  rw [h2 k]
  refine ⟨fun z => ⟨Classical.byContradiction fun w => ?_, z⟩, fun z => z.2⟩
  have := g6 k (by omega)
  omega
theorem nd_len : ∀ (l1 l2 : List Nat), l1.Nodup → (∀ x, x ∈ l1 → x ∈ l2) → l1.length ≤ l2.length
  | [], l2, _, _ => Nat.zero_le _
  | a :: r, l2, h, hs => by
    rw [List.nodup_cons] at h
    have ha := hs a List.mem_cons_self
    have ih := nd_len r (l2.erase a) h.2 (fun x hx => by
      have hxa : x ≠ a := fun z => h.1 (by rw [← z]; exact hx)
      exact (List.mem_erase_of_ne hxa).mpr (hs x (List.mem_cons_of_mem _ hx)))
    rw [List.length_erase_of_mem ha] at ih
    have := List.length_pos_of_mem ha
    rw [List.length_cons]
    omega
theorem ct_fil (p : Nat → Bool) : ∀ n, ((List.range n).filter p).length = fb_ct p n
  | 0 => rfl
  | n + 1 => by
    rw [List.range_succ, List.filter_append, List.length_append, ct_fil p n, fb_ct_succ]
    cases h : p n <;> simp [h]
/-- a list without doubles within a set is the set iff it is as long -/
theorem nd_all {p : Nat → Bool} {n : Nat} {l : List Nat} (h : l.Nodup) : (l.length = fb_ct p n ∧ ∀ k, k ∈ l → k < n ∧ p k = true) ↔ ∀ k, k ∈ l ↔ k < n ∧ p k = true := by
  have hm : ∀ k, k ∈ (List.range n).filter p ↔ k < n ∧ p k = true := fun k => by rw [List.mem_filter, List.mem_range]
  have hnd : ((List.range n).filter p).Nodup := List.Pairwise.filter p List.nodup_range
  constructor
  · intro ⟨h1, h2⟩ k
    refine ⟨h2 k, fun hk => Classical.byContradiction fun hn => ?_⟩
    have := nd_len (k :: l) ((List.range n).filter p) (List.nodup_cons.mpr ⟨hn, h⟩) (fun x hx => by
      rw [List.mem_cons] at hx
      rcases hx with z | z
      · rw [z]; exact (hm k).mpr hk
      · exact (hm x).mpr (h2 x z))
    rw [ct_fil, List.length_cons] at this
    omega
  · intro hk
    refine ⟨?_, fun k hkl => (hk k).mp hkl⟩
    have a1 := nd_len l ((List.range n).filter p) h (fun x hx => (hm x).mpr ((hk x).mp hx))
    have a2 := nd_len ((List.range n).filter p) l hnd (fun x hx => (hk x).mpr ((hm x).mp hx))
    rw [ct_fil] at a1 a2
    omega
