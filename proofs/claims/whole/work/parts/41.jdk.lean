/-! THE JDK'S OWN: bitCount, min, max, fill. -/
/-- how many of the first n bits -/
def q_pcn : Nat → Nat → Nat
  | 0, _ => 0
  | n + 1, x => x % 2 + q_pcn n (x / 2)
def q_pc (x : Nat) : Nat := fb_ct (fun i => x.testBit i) 16
theorem q_pcn_ct : ∀ (n x : Nat), q_pcn n x = fb_ct (fun i => x.testBit i) n
  | 0, x => rfl
  | n + 1, x => by
    have h := fb_ct_split (fun i => x.testBit i) 1 n
    rw [Nat.add_comm 1 n] at h
    rw [h, q_pcn, q_pcn_ct n (x / 2)]
    have h0 : fb_ct (fun i => x.testBit i) 1 = x % 2 := by
      show 0 + (if x.testBit 0 then 1 else 0) = x % 2
      rw [Nat.testBit_zero]
      by_cases h : x % 2 = 1
      · rw [if_pos (decide_eq_true h)]; omega
      · rw [if_neg (by simpa using h)]; omega
    rw [h0]
    congr 1
    refine fb_ct_cong fun k _ => ?_
    show (x / 2).testBit k = x.testBit (1 + k)
    rw [Nat.add_comm 1 k, Nat.testBit_succ]
theorem q_pcn_16 (x : Nat) : q_pcn 16 x = q_pc x := q_pcn_ct 16 x
theorem q_pc_le (x : Nat) : q_pc x ≤ 16 := fb_ct_le _ _
def q_bc1 (x : Nat) : Nat := Nat.sub x (Nat.land (Nat.div x 2) 1431655765)
def q_bc2 (x : Nat) : Nat := Nat.add (Nat.land x 858993459) (Nat.land (Nat.div x 4) 858993459)
def q_bc3 (x : Nat) : Nat := Nat.land (Nat.add x (Nat.div x 16)) 252645135
def q_bc4 (x : Nat) : Nat := Nat.add x (Nat.div x 256)
def q_bc5 (x : Nat) : Nat := Nat.land (Nat.add x (Nat.div x 65536)) 63
def q_bc (x : Nat) : Nat := q_bc5 (q_bc4 (q_bc3 (q_bc2 (q_bc1 x))))
def q_pc4 (x : Nat) : Nat := Nat.add (Nat.add (Nat.mod x 2) (Nat.mod (Nat.div x 2) 2)) (Nat.add (Nat.mod (Nat.div x 4) 2) (Nat.mod (Nat.div x 8) 2))
def q_pcr (x : Nat) : Nat := Nat.add (Nat.add (q_pc4 x) (q_pc4 (Nat.div x 16))) (Nat.add (q_pc4 (Nat.div x 256)) (q_pc4 (Nat.div x 4096)))
theorem q_pcr_ct (x : Nat) : q_pcr x = q_pcn 16 x := by
  have e : ∀ y, q_pc4 y = y % 2 + y / 2 % 2 + (y / 4 % 2 + y / 8 % 2) := fun y => rfl
  have e2 : q_pcr x = q_pc4 x + q_pc4 (x / 16) + (q_pc4 (x / 256) + q_pc4 (x / 4096)) := rfl
  rw [e2, e, e, e, e]
  simp only [q_pcn, Nat.div_div_eq_div_mul, Nat.reduceMul, Nat.add_zero, Nat.add_assoc]
def q_bck (j : Nat) : Bool := (List.range 16).all (fun a => (List.range 256).all fun b => Nat.beq (q_bc (Nat.add (Nat.mul 256 (Nat.add (Nat.mul 16 j) a)) b)) (q_pcr (Nat.add (Nat.mul 256 (Nat.add (Nat.mul 16 j) a)) b)))
theorem q_bck_0 : q_bck 0 = true := by decide +kernel
theorem q_bck_1 : q_bck 1 = true := by decide +kernel
theorem q_bck_2 : q_bck 2 = true := by decide +kernel
theorem q_bck_3 : q_bck 3 = true := by decide +kernel
theorem q_bck_4 : q_bck 4 = true := by decide +kernel
theorem q_bck_5 : q_bck 5 = true := by decide +kernel
theorem q_bck_6 : q_bck 6 = true := by decide +kernel
theorem q_bck_7 : q_bck 7 = true := by decide +kernel
theorem q_bck_8 : q_bck 8 = true := by decide +kernel
theorem q_bck_9 : q_bck 9 = true := by decide +kernel
theorem q_bck_10 : q_bck 10 = true := by decide +kernel
theorem q_bck_11 : q_bck 11 = true := by decide +kernel
theorem q_bck_12 : q_bck 12 = true := by decide +kernel
theorem q_bck_13 : q_bck 13 = true := by decide +kernel
theorem q_bck_14 : q_bck 14 = true := by decide +kernel
theorem q_bck_15 : q_bck 15 = true := by decide +kernel
theorem q_bck_all : ∀ j, j < 16 → q_bck j = true
  | 0, _ => q_bck_0
  | 1, _ => q_bck_1
  | 2, _ => q_bck_2
  | 3, _ => q_bck_3
  | 4, _ => q_bck_4
  | 5, _ => q_bck_5
  | 6, _ => q_bck_6
  | 7, _ => q_bck_7
  | 8, _ => q_bck_8
  | 9, _ => q_bck_9
  | 10, _ => q_bck_10
  | 11, _ => q_bck_11
  | 12, _ => q_bck_12
  | 13, _ => q_bck_13
  | 14, _ => q_bck_14
  | 15, _ => q_bck_15
  | n + 16, h => absurd h (by omega)
theorem q_bc_pc {x : Nat} (h : x < 65536) : q_bc x = q_pc x := by
  have h0 := q_bck_all (x / 4096) (by omega)
  have h1 := List.all_eq_true.mp h0 (x / 256 % 16) (List.mem_range.mpr (by omega))
  have h2 := List.all_eq_true.mp h1 (x % 256) (List.mem_range.mpr (by omega))
  have h3 := Nat.eq_of_beq_eq_true h2
  have e : Nat.add (Nat.mul 256 (Nat.add (Nat.mul 16 (x / 4096)) (x / 256 % 16))) (x % 256) = x := by
    show 256 * (16 * (x / 4096) + x / 256 % 16) + x % 256 = x
    omega
  rw [e] at h3
  rw [h3, q_pcr_ct, q_pcn_16]
theorem q_ush {n : Nat} (hn : n < 2 ^ 32) {j k : Nat} (hk : (((nI j).toUInt32 &&& (nI 31).toUInt32).toBitVec % 32).toNat = k) {p : Nat} (hp : 2 ^ k = p) : ((nI n).toUInt32 >>> ((nI j).toUInt32 &&& (nI 31).toUInt32)).toInt32 = nI (n / p) := by
  have := pk_ushrN hn (nI j) k hk
  rw [hp] at this
  exact this
theorem c274 {d x : Nat} {S : z_S} (hW : z_W S) (hx : x < 65536) : fI (d + 1) 274 [.int (nI x)] S = some (nI (q_pc x), S) := by
  rw [e274 d (nI x) S hW]
  simp only [fa_lit]
  have a0 : x / 2 &&& 1431655765 ≤ x := Nat.le_trans Nat.and_le_left (by omega)
  rw [q_ush (n := x) (j := 1) (k := 1) (p := 2) (by omega) (by decide) rfl, fa_and, pk_sub a0]
  have b1 : x - (x / 2 &&& 1431655765) < 65536 := by omega
  rw [show x - (x / 2 &&& 1431655765) = q_bc1 x from rfl] at b1 ⊢
  rw [q_ush (n := q_bc1 x) (j := 2) (k := 2) (p := 4) (by omega) (by decide) rfl, fa_and, fa_and, nI_add]
  have b2 : (q_bc1 x &&& 858993459) + (q_bc1 x / 4 &&& 858993459) < 131072 := by
    have h1 : q_bc1 x &&& 858993459 ≤ q_bc1 x := Nat.and_le_left
    have h2 : q_bc1 x / 4 &&& 858993459 ≤ q_bc1 x / 4 := Nat.and_le_left
    omega
  rw [show (q_bc1 x &&& 858993459) + (q_bc1 x / 4 &&& 858993459) = q_bc2 (q_bc1 x) from rfl] at b2 ⊢
  rw [q_ush (n := q_bc2 (q_bc1 x)) (j := 4) (k := 4) (p := 16) (by omega) (by decide) rfl, nI_add, fa_and]
  have b3 : (q_bc2 (q_bc1 x) + q_bc2 (q_bc1 x) / 16) &&& 252645135 < 262144 := Nat.lt_of_le_of_lt Nat.and_le_left (by omega)
  rw [show (q_bc2 (q_bc1 x) + q_bc2 (q_bc1 x) / 16) &&& 252645135 = q_bc3 (q_bc2 (q_bc1 x)) from rfl] at b3 ⊢
  rw [q_ush (n := q_bc3 (q_bc2 (q_bc1 x))) (j := 8) (k := 8) (p := 256) (by omega) (by decide) rfl, nI_add]
  rw [show q_bc3 (q_bc2 (q_bc1 x)) + q_bc3 (q_bc2 (q_bc1 x)) / 256 = q_bc4 (q_bc3 (q_bc2 (q_bc1 x))) from rfl]
  have b4 : q_bc4 (q_bc3 (q_bc2 (q_bc1 x))) < 524288 := by
    show q_bc3 (q_bc2 (q_bc1 x)) + q_bc3 (q_bc2 (q_bc1 x)) / 256 < 524288
    omega
  rw [q_ush (n := q_bc4 (q_bc3 (q_bc2 (q_bc1 x)))) (j := 16) (k := 16) (p := 65536) (by omega) (by decide) rfl, nI_add, fa_and]
  rw [← q_bc_pc hx]
  rfl
theorem c279 {d a b : Nat} {S : z_S} (hW : z_W S) (ha : a < 2147483648) (hb : b < 2147483648) : fI (d + 1) 279 [.int (nI a), .int (nI b)] S = some (nI (min a b), S) := by
  rw [e279 d (nI a) (nI b) S hW]
  simp only [nI_ltI hb ha]
  by_cases h : b < a
  · rw [if_pos h, Nat.min_eq_right (by omega)]
  · rw [if_neg h, Nat.min_eq_left (by omega)]
theorem c277 {d a b : Nat} {S : z_S} (hW : z_W S) (ha : a < 2147483648) (hb : b < 2147483648) : fI (d + 1) 277 [.int (nI a), .int (nI b)] S = some (nI (max a b), S) := by
  rw [e277 d (nI a) (nI b) S hW]
  simp only [nI_ltI ha hb]
  by_cases h : a < b
  · rw [if_pos h, Nat.max_eq_right (by omega)]
  · rw [if_neg h, Nat.max_eq_left (by omega)]
theorem c281_l {d a : Nat} {x : Int32} {n N : Nat} (ha : z_K a = 20) (hN : z_Ln a = N) (hb : N < 2147483648) : ∀ (m i : Nat) (S : z_S), i + m = N → z_W S → n = N → ∃ S', b281_5 d a x (nI i) (nI n) S = some S' ∧ onI (fun c _ => c = a) S S' ∧ ∀ k, gI S' a k = if i ≤ k ∧ k < N then x else gI S a k
  | 0, i, S, hi, hW, hn => by
    subst hn
    refine ⟨S, ?_, onI.refl hW, fun k => ?_⟩
    · rw [b281_5_eq d a x (nI i) (nI n) S hW ha, if_pos ((nI_leI (by omega) (by omega)).mpr (by omega))]
    · rw [if_neg (by omega)]
  | m + 1, i, S, hi, hW, hn => by
    subst hn
    have hW' : z_W (sI S a i x) := hW
    obtain ⟨S', h1, h2, h3⟩ := c281_l (d := d) (x := x) ha hN hb m (i + 1) (sI S a i x) (by omega) hW' rfl
    refine ⟨S', ?_, ?_, fun k => ?_⟩
    · rw [b281_5_eq d a x (nI i) (nI n) S hW ha, if_neg (fun q => by have := (nI_leI (by omega) (by omega)).mp q; omega), hN, if_pos ((ni_in (by omega)).mpr (by omega)), nI_clamp (by omega)]
      rw [fa_lit, nI_add]
      exact h1
    · exact (onI_sI (D := fun c _ => c = a) (onI.refl hW) rfl).trans h2
    · rw [h3 k, gI_sI, if_pos rfl]
      by_cases h : i ≤ k ∧ k < n
      · rw [if_pos h]
        by_cases e : k = i
        · rw [if_neg (by omega), if_pos e]
        · rw [if_pos (by omega)]
      · rw [if_neg h, if_neg (by omega)]
        by_cases e : k = i
        · omega
        · rw [if_neg e]
theorem c281 {d a : Nat} {x : Int32} {N : Nat} {S : z_S} (ha : z_K a = 20) (hN : z_Ln a = N) (hb : N < 2147483648) (hW : z_W S) : ∃ S', fV (d + 1) 281 [.ref a, .int x] S = some S' ∧ onI (fun c _ => c = a) S S' ∧ ∀ k, gI S' a k = if k < N then x else gI S a k := by
  obtain ⟨S', h1, h2, h3⟩ := c281_l (d := d) (a := a) (x := x) (n := N) ha hN hb N 0 S (by omega) hW rfl
  refine ⟨S', ?_, h2, fun k => ?_⟩
  · rw [e281 d a x S hW ha, hN]
    exact h1
  · rw [h3 k]
    by_cases h : k < N
    · rw [if_pos h, if_pos (by omega)]
    · rw [if_neg h, if_neg (by omega)]
