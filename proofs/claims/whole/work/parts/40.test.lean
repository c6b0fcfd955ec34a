/-! tests -/
theorem zz_t1 (x y : Int32) (h : 0 ≤ x) (h2 : x < 16) (h3 : y = x + 1) : y ≤ 16 := by grind
theorem zz_t2 (x : Int32) (n : Nat) (h : x = Int32.ofNat n) (h2 : n < 16) : x < 16 := by grind
theorem zz_t3 (x : Int32) (h : 0 ≤ x) (h2 : x < 16) : x.toNatClampNeg < 16 := by grind
theorem zz_t4 (a b : Nat) (h : a < 100) (hb : b < 100) : (nI a ≤ nI b) ↔ a ≤ b := by
  unfold nI
  grind
theorem zz_t5 (a b : Nat) (h : a < 100) (hb : b < 100) : (nI a ≤ nI b) ↔ a ≤ b := by
  rw [Int32.le_iff_toInt_le]
  unfold nI
  rw [Int32.toInt_ofNat_of_lt (by omega), Int32.toInt_ofNat_of_lt (by omega)]
  omega
theorem zz_t6 (a : Nat) : (nI a + 1) = nI (a + 1) := by
  unfold nI
  rw [Int32.ofNat_add]
  rfl
theorem zz_t7 (a : Nat) (h : a < 10) : (nI a).toNatClampNeg = a := by
  unfold nI
  grind
