/-! NUMBERS that may be below 0, as Int; the JDK's longs; what a formula's codes do, and of which kinds. -/
def iI (z : Int) : Int32 := Int32.ofInt z
def iL (z : Int) : Int64 := Int64.ofInt z
theorem iI_n (n : Nat) : nI n = iI n := (Int32.ofInt_eq_ofNat).symm
theorem iL_n (n : Nat) : lN n = iL n := (Int64.ofInt_eq_ofNat).symm
theorem iI_T {a : Int} (h1 : -2147483648 ≤ a) (h2 : a < 2147483648) : (iI a).toInt = a := fb_ofI h1 h2
theorem iL_T {a : Int} (h1 : -9223372036854775808 ≤ a) (h2 : a < 9223372036854775808) : (iL a).toInt = a := Int64.toInt_ofInt_of_le (by omega) (by omega)
theorem iI_l {a : Int} (h1 : -2147483648 ≤ a) (h2 : a < 2147483648) : (iI a).toInt64 = iL a := by
  have g1 : Int32.minValue.toInt = -2147483648 := by decide
  have g2 : Int32.maxValue.toInt = 2147483647 := by decide
  exact Int32.toInt64_ofInt (by omega) (by omega)
theorem iL_i (a : Int) : (iL a).toInt32 = iI a := Int64.toInt32_ofInt
theorem iL_add (a b : Int) : iL a + iL b = iL (a + b) := (Int64.ofInt_add a b).symm
theorem iL_sub (a b : Int) : iL a - iL b = iL (a - b) := (Int64.ofInt_sub a b).symm
theorem iL_mul (a b : Int) : iL a * iL b = iL (a * b) := (Int64.ofInt_mul a b).symm
theorem iL_lt {a b : Int} (h1 : -9223372036854775808 ≤ a) (h2 : a < 9223372036854775808) (h3 : -9223372036854775808 ≤ b) (h4 : b < 9223372036854775808) : iL a < iL b ↔ a < b := by rw [fa_lt64, iL_T h1 h2, iL_T h3 h4]
theorem iL_le {a b : Int} (h1 : -9223372036854775808 ≤ a) (h2 : a < 9223372036854775808) (h3 : -9223372036854775808 ≤ b) (h4 : b < 9223372036854775808) : iL a ≤ iL b ↔ a ≤ b := by rw [fa_le64, iL_T h1 h2, iL_T h3 h4]
theorem iL_eq {a b : Int} (h1 : -9223372036854775808 ≤ a) (h2 : a < 9223372036854775808) (h3 : -9223372036854775808 ≤ b) (h4 : b < 9223372036854775808) : iL a = iL b ↔ a = b := by rw [fa_eq64, iL_T h1 h2, iL_T h3 h4]
theorem iI_lt {a b : Int} (h1 : -2147483648 ≤ a) (h2 : a < 2147483648) (h3 : -2147483648 ≤ b) (h4 : b < 2147483648) : iI a < iI b ↔ a < b := by rw [fa_lt, iI_T h1 h2, iI_T h3 h4]
theorem iI_le {a b : Int} (h1 : -2147483648 ≤ a) (h2 : a < 2147483648) (h3 : -2147483648 ≤ b) (h4 : b < 2147483648) : iI a ≤ iI b ↔ a ≤ b := by rw [fa_le, iI_T h1 h2, iI_T h3 h4]
theorem iI_eq {a b : Int} (h1 : -2147483648 ≤ a) (h2 : a < 2147483648) (h3 : -2147483648 ≤ b) (h4 : b < 2147483648) : iI a = iI b ↔ a = b := by rw [fa_eq, iI_T h1 h2, iI_T h3 h4]
theorem iL_0 : (0 : Int64) = iL 0 := rfl
theorem iL_1 : (1 : Int64) = iL 1 := rfl
/-- small: a product of two stays a long -/
def iS (a : Int) : Prop := -1000000 ≤ a ∧ a ≤ 1000000
theorem iS_tdiv {a b : Int} (ha : iS a) : iS (a.tdiv b) := by
  have h := Int.natAbs_tdiv_le_natAbs a b
  unfold iS at *
  omega
theorem iS_tmod {a b : Int} (ha : iS a) : iS (a - a.tdiv b * b) := by
  have h : a - a.tdiv b * b = a.tmod b := by have := Int.tmod_def a b; rw [Int.mul_comm] at this; omega
  rw [h]
  have h2 : (a.tmod b).natAbs ≤ a.natAbs := by rw [Int.natAbs_tmod]; exact Nat.mod_le _ _
  unfold iS at *
  omega
theorem iS_mul {a b : Int} (ha : iS a) (hb : iS b) : -1000000000000 ≤ a * b ∧ a * b ≤ 1000000000000 := by
  have h1 : a.natAbs ≤ 1000000 := by unfold iS at ha; omega
  have h2 : b.natAbs ≤ 1000000 := by unfold iS at hb; omega
  have h3 : (a * b).natAbs ≤ 1000000 * 1000000 := by rw [Int.natAbs_mul]; exact Nat.mul_le_mul h1 h2
  omega
theorem iL_div {a b : Int} (ha : iS a) (hb : iS b) : iL a / iL b = iL (a.tdiv b) := by
  apply Int64.toInt_inj.1
  have hq := iS_tdiv (b := b) ha
  unfold iS at *
  rw [Int64.toInt_div, iL_T (by omega) (by omega), iL_T (by omega) (by omega), iL_T (by omega) (by omega)]
  exact fb_bmodL (by omega) (by omega)
theorem iL_xor {a b : Int} (ha : iS a) (hb : iS b) : (iL 0 ≤ iL a ^^^ iL b) ↔ (a < 0 ↔ b < 0) := by
  have h : (iL a ^^^ iL b).toInt < 0 ↔ ((iL a).toBitVec ^^^ (iL b).toBitVec).msb = true := by
    rw [BitVec.msb_eq_toInt]
    simp only [decide_eq_true_eq]
    exact Iff.rfl
  rw [BitVec.msb_xor, BitVec.msb_eq_toInt, BitVec.msb_eq_toInt] at h
  have e1 : (iL a).toBitVec.toInt = a := by unfold iS at ha; exact iL_T (by omega) (by omega)
  have e2 : (iL b).toBitVec.toInt = b := by unfold iS at hb; exact iL_T (by omega) (by omega)
  rw [e1, e2] at h
  rw [fa_le64, iL_T (by decide) (by decide)]
  generalize (iL a ^^^ iL b).toInt = t at h ⊢
  by_cases h1 : a < 0 <;> by_cases h2 : b < 0 <;> simp [h1, h2] at h ⊢ <;> omega
/-- the greatest whole number not above, by 0: 0 -/
def q_fl (a b : Int) : Int := if b = 0 then 0 else if a - a.tdiv b * b ≠ 0 ∧ ¬ (a < 0 ↔ b < 0) then a.tdiv b - 1 else a.tdiv b
def q_md (a b : Int) : Int := if b = 0 then 0 else a - b * q_fl a b
section QJ
variable {d : Nat} {S : z_S} {a b : Int}
theorem c275 (hW : z_W S) (ha : iS a) (hb : iS b) (h0 : b ≠ 0) : fL (d + 1) 275 [.long (iL a), .long (iL b)] S = some (iL (q_fl a b), S) := by
  have hq := iS_tdiv (b := b) ha
  have hm := iS_mul hq hb
  rw [e275 d (iL a) (iL b) S hW]
  unfold iS at *
  simp only [lg_cmp_ge, lg_cmp_eq, iL_0, iL_1, iL_xor (a := a) (b := b) ha hb, iL_div (a := a) (b := b) ha hb, iL_mul, iL_sub, iL_eq (a := b) (b := 0) (by omega) (by omega) (by omega) (by omega), iL_eq (a := a.tdiv b * b) (b := a) (by omega) (by omega) (by omega) (by omega), h0, if_false]
  unfold q_fl
  rw [if_neg h0]
  by_cases h1 : (a < 0 ↔ b < 0)
  · rw [if_pos h1, if_neg (fun q => q.2 h1)]
  · rw [if_neg h1]
    by_cases h2 : a.tdiv b * b = a
    · rw [if_pos h2, if_neg (fun q => q.1 (by omega))]
    · rw [if_neg h2, if_pos ⟨by omega, h1⟩]
theorem c276 (hW : z_W S) (ha : iS a) (hb : iS b) (h0 : b ≠ 0) : fL (d + 1) 276 [.long (iL a), .long (iL b)] S = some (iL (q_md a b), S) := by
  have hq := iS_tmod (b := b) ha
  rw [e276 d (iL a) (iL b) S hW]
  unfold iS at *
  simp only [lg_cmp_ge, lg_cmp_eq, iL_0, iL_1, iL_xor (a := a) (b := b) ha hb, iL_div (a := a) (b := b) ha hb, iL_mul, iL_sub, iL_add, iL_eq (a := b) (b := 0) (by omega) (by omega) (by omega) (by omega), iL_eq (a := a - a.tdiv b * b) (b := 0) (by omega) (by omega) (by omega) (by omega), h0, if_false]
  unfold q_md q_fl
  rw [if_neg h0, if_neg h0]
  by_cases h1 : (a < 0 ↔ b < 0)
  · rw [if_pos h1, if_neg (fun q => q.2 h1), Int.mul_comm b]
  · rw [if_neg h1]
    by_cases h2 : a - a.tdiv b * b = 0
    · rw [if_pos h2, if_neg (fun q => q.1 h2), Int.mul_comm b]
    · rw [if_neg h2, if_pos ⟨h2, h1⟩, Int.mul_sub, Int.mul_comm b (a.tdiv b), Int.mul_one]
      rw [show a - (a.tdiv b * b - b) = a - a.tdiv b * b + b by omega]
theorem c278 (hW : z_W S) (ha : -1000000000000 ≤ a ∧ a ≤ 1000000000000) (hb : -1000000000000 ≤ b ∧ b ≤ 1000000000000) : fL (d + 1) 278 [.long (iL a), .long (iL b)] S = some (iL (if a < b then b else a), S) := by
  rw [e278 d (iL a) (iL b) S hW]
  simp only [lg_cmp_lt, iL_lt (a := a) (b := b) (by omega) (by omega) (by omega) (by omega)]
  by_cases h : a < b
  · rw [if_pos h, if_pos h]
  · rw [if_neg h, if_neg h]
theorem c280 (hW : z_W S) (ha : -1000000000000 ≤ a ∧ a ≤ 1000000000000) (hb : -1000000000000 ≤ b ∧ b ≤ 1000000000000) : fL (d + 1) 280 [.long (iL a), .long (iL b)] S = some (iL (if b < a then b else a), S) := by
  rw [e280 d (iL a) (iL b) S hW]
  simp only [lg_cmp_gt, iL_lt (a := b) (b := a) (by omega) (by omega) (by omega) (by omega)]
  by_cases h : b < a
  · rw [if_pos h, if_pos h]
  · rw [if_neg h, if_neg h]
/-- held within a million -/
def q_lim (v : Int) : Int := if 1000000 < v then 1000000 else if v < -1000000 then -1000000 else v
theorem q_lim_S (v : Int) : iS (q_lim v) := by
  unfold q_lim iS
  split
  · omega
  · split <;> omega
theorem q_lim_id {v : Int} (h : iS v) : q_lim v = v := by
  unfold q_lim iS at *
  rw [if_neg (by omega), if_neg (by omega)]
theorem c72 (hW : z_W S) (ha : -1000000000000 ≤ a ∧ a ≤ 1000000000000) : fI (d + 2) 72 [.long (iL a)] S = some (iI (q_lim a), S) := by
  rw [e72 (d + 1) (iL a) S hW]
  have h1 : (1000000 : Int64) = iL 1000000 := rfl
  have h2 : (-1000000 : Int64) = iL (-1000000) := by decide
  rw [h2, h1, c280 hW (by omega) ha, zb_some, c278 hW (by omega) (by split <;> omega), zb_some, iL_i]
  unfold q_lim
  congr 3
  (repeat' split) <;> omega
end QJ
