/-! STEPS: of 1 .. 40 those that are left; the class's ends tell the same. -/
section TZ7
variable {g f : Nat → Bool} {n : Nat}
def q_ct (g : Nat → Bool) : Nat → Nat
  | 0 => 0
  | m + 1 => q_ct g m + (g (m + 1)).toNat
/-- the k-th left, of m from T on, a ahead -/
def q_kth (g : Nat → Bool) (k : Int) : Nat → Nat → Nat → Option Nat
  | 0, _, _ => none
  | m + 1, T, a => if g T = true ∧ (a : Int) = k then some T else q_kth g k m (T + 1) (a + (g T).toNat)
theorem q_ct_le : ∀ m, q_ct g m ≤ m
  | 0 => Nat.le_refl _
  | m + 1 => by
    have := q_ct_le m
    rw [q_ct]
    cases g (m + 1) <;> simp only [Bool.toNat_true, Bool.toNat_false] <;> omega
theorem q_ct_c {b : Bool} (h : ∀ T, n ≤ T → g T = b) (h0 : 1 ≤ n) : ∀ m, q_ct g (n - 1 + m) = q_ct g (n - 1) + m * b.toNat
  | 0 => by rw [Nat.zero_mul]; rfl
  | m + 1 => by
    rw [← Nat.add_assoc, q_ct, q_ct_c h h0 m, h (n - 1 + m + 1) (by omega), Nat.add_mul, Nat.one_mul]
    omega
theorem q_wts_ct (hf : ∀ j, j < n → f j = g (j + 1)) : ∀ i, i < n → q_wts n f i = q_ct g i
  | 0, _ => rfl
  | i + 1, h => by
    rw [q_wts, q_ct, q_wts_ct hf i (by omega)]
    unfold q_wt
    rw [hf i (by omega), if_neg (show ¬ i + 1 = n by omega)]
    cases g (i + 1) <;> rfl
theorem q_wts_all (h1 : 1 ≤ n) (h40 : n ≤ 40) (hf : ∀ j, j < n → f j = g (j + 1)) (hg : ∀ T, n ≤ T → g T = g n) : q_wts n f n = q_ct g 40 := by
  obtain ⟨i, rfl⟩ : ∃ i, n = i + 1 := ⟨n - 1, by omega⟩
  have h := q_ct_c hg (by omega) (40 - i)
  rw [show i + 1 - 1 + (40 - i) = 40 by omega, show i + 1 - 1 = i by omega] at h
  rw [h, q_wts, q_wts_ct hf i (by omega)]
  unfold q_wt
  rw [hf i (by omega), if_pos rfl]
  cases g (i + 1) with
  | false => rw [if_neg (by decide)]; simp only [Bool.toNat_false, Nat.mul_zero]
  | true => rw [if_pos rfl]; simp only [Bool.toNat_true, Nat.mul_one]
theorem q_kth_c {k : Int} {b : Bool} : ∀ (m T a : Nat), (∀ T', T ≤ T' → g T' = b) → q_kth g k m T a = if b = true ∧ (a : Int) ≤ k ∧ k < a + m then some (T + (k - a).toNat) else none
  | 0, T, a, h => by rw [q_kth, if_neg (by omega)]
  | m + 1, T, a, h => by
    rw [q_kth, q_kth_c m (T + 1) (a + (g T).toNat) (fun T' hT => h T' (by omega)), h T (Nat.le_refl _)]
    cases b with
    | false => rw [if_neg (fun z => by cases z.1), if_neg (fun z => by cases z.1), if_neg (fun z => by cases z.1)]
    | true =>
      rw [Bool.toNat_true]
      by_cases c : (a : Int) = k
      · rw [if_pos ⟨rfl, c⟩, if_pos ⟨rfl, by omega, by omega⟩, show (k - a).toNat = 0 by omega]; rfl
      · rw [if_neg (fun z => c z.2)]
        by_cases c2 : (a : Int) ≤ k ∧ k < a + (m + 1 : Nat)
        · rw [if_pos ⟨rfl, by omega, by omega⟩, if_pos ⟨rfl, c2⟩]
          congr 1
          omega
        · rw [if_neg (fun z => by omega), if_neg (fun z => c2 z.2)]
theorem q_la_kth {k : Int} (h40 : n ≤ 40) (hf : ∀ j, j < n → f j = g (j + 1)) (hg : ∀ T, n ≤ T → g T = g n) : ∀ (m i a : Nat), i + (m + 1) = n → q_la n f k (m + 1) i a = q_kth g k (40 - i) (i + 1) a
  | 0, i, a, hi => by
    rw [q_la, q_la, q_kth_c (b := g n) (40 - i) (i + 1) a (fun T' hT => hg T' (by omega))]
    unfold q_wt
    rw [hf i (by omega), if_pos (show i + 1 = n by omega), show i + 1 = n by omega]
    cases g n with
    | false => rw [if_neg (show ¬ (false = true) by decide), if_neg (by omega), if_neg (fun z => by cases z.1)]
    | true =>
      rw [if_pos rfl]
      by_cases c : (a : Int) ≤ k ∧ k < a + ((40 - i : Nat) : Int)
      · rw [if_pos c, if_pos ⟨rfl, c⟩]
      · rw [if_neg c, if_neg (fun z => c z.2)]
  | m + 1, i, a, hi => by
    have hw : q_wt n f i = (g (i + 1)).toNat := by
      unfold q_wt
      rw [hf i (by omega), if_neg (show ¬ i + 1 = n by omega)]
      cases g (i + 1) <;> rfl
    rw [q_la, hw, q_la_kth h40 hf hg m (i + 1) _ (by omega), show 40 - i = (40 - (i + 1)) + 1 by omega, q_kth]
    cases hb : g (i + 1) with
    | false => rw [if_neg (by rw [Bool.toNat_false]; omega), if_neg (fun z => by cases z.1)]
    | true =>
      rw [Bool.toNat_true]
      by_cases c : (a : Int) = k
      · rw [if_pos (by omega), if_pos ⟨rfl, c⟩, show (k - a).toNat = 0 by omega, Nat.add_zero]
      · rw [if_neg (by omega), if_neg (fun z => c z.2)]
/-- which steps there can be by what was met (above 40 as 40) -/
def q_gT (A : q_A) (k T : Nat) : Bool := (a_mt A).all fun x => q_okr (a_P A) (a_s A) x (q_arr (a_P A) (min T 40) (a_s A) k).1
theorem q_gT_c {A : q_A} {k n : Nat} (h40 : n ≤ 40) (h : n = 40 ∨ (q_arr (a_P A) n (a_s A) k).2.length < n) (T : Nat) (hT : n ≤ T) : q_gT A k T = q_gT A k n := by
  unfold q_gT
  rw [show min n 40 = n by omega]
  rcases h with h | h
  · rw [show min T 40 = n by omega]
  · rw [q_arr_T (T' := min T 40) (by omega) h]
theorem q_gT_t {A : q_A} {k T : Nat} (h : T ≤ 40) : q_gT A k T = true ↔ ∀ x, x ∈ a_mt A → q_okr (a_P A) (a_s A) x (q_arr (a_P A) T (a_s A) k).1 = true := by
  unfold q_gT
  rw [show min T 40 = T by omega, List.all_eq_true]
end TZ7
