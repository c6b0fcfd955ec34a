/-! LETTERS of names. -/
theorem q_shL {a d : Nat} {D : Int64} (hD : (D.toBitVec.smod 64).toNat = d) (h : a < 2 ^ 63) : lN a >>> D = lN (a / 2 ^ d) := by
  have hd : a / 2 ^ d ≤ a := Nat.div_le_self _ _
  apply Int64.toInt_inj.mp
  have e : (lN a >>> D).toInt = (lN a).toInt >>> d := by
    rw [← hD]
    exact BitVec.toInt_sshiftRight ..
  rw [e, Int.shiftRight_eq_div_pow, pk_lT h, pk_lT (by omega)]
  rfl
theorem q_sh64 : ∀ k : Fin 64, ((lN k.val).toBitVec.smod 64).toNat = k.val := by decide +kernel
theorem q_nv_s (l : List Nat) (a : Nat) : q_nv (l ++ [a]) = q_nv l * 27 + a := by
  unfold q_nv
  rw [List.foldl_append]
  rfl
theorem q_nv_t {l : List Nat} {i : Nat} (h : i < l.length) : q_nv (l.take (i + 1)) = q_nv (l.take i) * 27 + l.getD i 0 := by
  rw [List.take_add_one, List.getElem?_eq_getElem h, List.getD_eq_getElem?_getD, List.getElem?_eq_getElem h]
  exact q_nv_s _ _
theorem q_nv_tl {l : List Nat} (hl : ∀ x, x ∈ l → x ≤ 26) : ∀ i, i ≤ l.length → q_nv (l.take i) < 27 ^ i
  | 0, _ => by rw [List.take_zero]; decide
  | i + 1, h => by
    have ih := q_nv_tl hl i (by omega)
    have hm : l.getD i 0 ∈ l := by rw [List.getD_eq_getElem?_getD, List.getElem?_eq_getElem (by omega)]; exact List.getElem_mem _
    have h1 := hl _ hm
    rw [q_nv_t (by omega), Nat.pow_succ]
    omega
theorem q_nv_v {l : List Nat} (hl : ∀ x, x ∈ l → x ≤ 26) : ∀ (m i : Nat), i + m = l.length → q_nv l / 27 ^ m = q_nv (l.take i)
  | 0, i, h => by rw [List.take_of_length_le (by omega), Nat.pow_zero, Nat.div_one]
  | m + 1, i, h => by
    have ih := q_nv_v hl m (i + 1) (by omega)
    have hm : l.getD i 0 ∈ l := by rw [List.getD_eq_getElem?_getD, List.getElem?_eq_getElem (by omega)]; exact List.getElem_mem _
    have h1 := hl _ hm
    rw [Nat.pow_succ, ← Nat.div_div_eq_div_mul, ih, q_nv_t (by omega)]
    omega
theorem q_nv_6 {l : List Nat} (hl : ∀ x, x ∈ l → x ≤ 26) (h : l.length ≤ 6) : q_nv l < 387420489 := by
  have h1 := q_nv_tl hl l.length (Nat.le_refl _)
  rw [List.take_of_length_le (Nat.le_refl _)] at h1
  exact Nat.lt_of_lt_of_le h1 (Nat.pow_le_pow_right (n := 27) (by omega) h)
theorem q_nw_s (l : List Nat) (a : Nat) : q_nw (l ++ [a]) = q_nw l * 256 + (a + 96) := by
  unfold q_nw
  rw [List.foldl_append]
  rfl
theorem q_nw_t {l : List Nat} {i : Nat} (h : i < l.length) : q_nw (l.take (i + 1)) = q_nw (l.take i) * 256 + (l.getD i 0 + 96) := by
  rw [List.take_add_one, List.getElem?_eq_getElem h, List.getD_eq_getElem?_getD, List.getElem?_eq_getElem h]
  exact q_nw_s _ _
theorem q_nw_lt {l : List Nat} (hl : ∀ x, x ∈ l → x ≤ 26) : ∀ i, i ≤ l.length → q_nw (l.take i) < 256 ^ i
  | 0, _ => by rw [List.take_zero]; decide
  | i + 1, h => by
    have ih := q_nw_lt hl i (by omega)
    have hm : l.getD i 0 ∈ l := by rw [List.getD_eq_getElem?_getD, List.getElem?_eq_getElem (by omega)]; exact List.getElem_mem _
    have h1 := hl _ hm
    rw [q_nw_t (by omega), Nat.pow_succ]
    omega
theorem q_nw_v {l : List Nat} (hl : ∀ x, x ∈ l → x ≤ 26) : ∀ (m i : Nat), i + m = l.length → q_nw l / 256 ^ m = q_nw (l.take i)
  | 0, i, h => by rw [List.take_of_length_le (by omega), Nat.pow_zero, Nat.div_one]
  | m + 1, i, h => by
    have ih := q_nw_v hl m (i + 1) (by omega)
    have hm : l.getD i 0 ∈ l := by rw [List.getD_eq_getElem?_getD, List.getElem?_eq_getElem (by omega)]; exact List.getElem_mem _
    have h1 := hl _ hm
    rw [Nat.pow_succ, ← Nat.div_div_eq_div_mul, ih, q_nw_t (by omega)]
    omega
theorem nI_p1 (y : Nat) : nI (y + 1) + (-1 : Int32) = nI y := by
  rw [← nI_add, Int32.add_assoc, show nI 1 + (-1 : Int32) = 0 by decide, Int32.add_zero]
section TN
variable {d : Nat} {S : z_S} {A : q_A} {x y : Int32}
theorem c96_l {j : Nat} (hW : z_W S) : ∀ (m v : Nat), j + m ≤ 5 → v < 2147483648 → b96_41 d (nI j) (nI v) (nI (j + m)) S = some (nI (v / 27 ^ m % 27), S)
  | 0, v, hj, hv => by
    have e := b96_41_eq d (nI j) (nI v) (nI (j + 0)) S hW
    rw [if_pos ((nI_leI (by omega) (by omega)).mpr (by omega)), show (27 : Int32) = nI 27 from rfl, pk_rem hv (by omega) (by omega)] at e
    rw [e, Nat.pow_zero, Nat.div_one]
  | m + 1, v, hj, hv => by
    have e := b96_41_eq d (nI j) (nI v) (nI (j + (m + 1))) S hW
    have hd : v / 27 ≤ v := Nat.div_le_self _ _
    rw [if_neg (fun z => by have := (nI_leI (by omega) (by omega)).mp z; omega), show (27 : Int32) = nI 27 from rfl, pk_div hv (by omega) (by omega), show j + (m + 1) = j + m + 1 from rfl, nI_p1, c96_l hW m (v / 27) (by omega) (by omega), Nat.div_div_eq_div_mul] at e
    rw [show j + (m + 1) = j + m + 1 from rfl, e, Nat.pow_succ, Nat.mul_comm]
theorem c96_k {l : List Nat} {j : Nat} (hW : z_W S) (hl : l.length ≤ 6) (hx : ∀ x, x ∈ l → 1 ≤ x ∧ x ≤ 26) (hj : j < 6) : b96_25 d (nI (q_nv l)) (nI j) (nI l.length) S = some (nI (l.getD j 0), S) := by
  have hx2 : ∀ x, x ∈ l → x ≤ 26 := fun x h => (hx x h).2
  have hlt := q_nv_6 hx2 hl
  have e := b96_25_eq d (nI (q_nv l)) (nI j) (nI l.length) S hW
  rw [e]
  by_cases c : l.length ≤ j
  · rw [if_pos ((nI_leI (by omega) (by omega)).mpr c), b96_35_eq d (nI j) (nI l.length) (0 : Int32) S hW, b96_41_eq d (nI j) (0 : Int32) (nI l.length - (1 : Int32)) S hW]
    have q : nI l.length - (1 : Int32) ≤ nI j := by
      by_cases z : l.length = 0
      · rw [z, show nI 0 - (1 : Int32) = -nI 1 by decide]
        exact (ni_mle (by omega)).mpr trivial
      · rw [show (1 : Int32) = nI 1 from rfl, pk_sub (by omega)]
        exact (nI_leI (by omega) (by omega)).mpr (by omega)
    rw [if_pos q]
    have : l.getD j 0 = 0 := by rw [List.getD_eq_getElem?_getD, List.getElem?_eq_none (by omega)]; rfl
    rw [this]
    rfl
  · have hv := q_nv_v hx2 (l.length - 1 - j) (j + 1) (by omega)
    have hm : l.getD j 0 ∈ l := by rw [List.getD_eq_getElem?_getD, List.getElem?_eq_getElem (by omega)]; exact List.getElem_mem _
    have h1 := hx _ hm
    rw [if_neg (fun z => c ((nI_leI (by omega) (by omega)).mp z)), b96_35_eq d (nI j) (nI l.length) (nI (q_nv l)) S hW, show (1 : Int32) = nI 1 from rfl, pk_sub (by omega)]
    have h2 := c96_l (d := d) (j := j) hW (l.length - 1 - j) (q_nv l) (by omega) (by omega)
    rw [show j + (l.length - 1 - j) = l.length - 1 by omega, hv, q_nv_t (by omega), show (q_nv (l.take j) * 27 + l.getD j 0) % 27 = l.getD j 0 by omega] at h2
    exact h2
theorem c96_n {l : List Nat} {j : Nat} (hW : z_W S) (hl : l.length ≤ 6) (hx : ∀ x, x ∈ l → 1 ≤ x ∧ x ≤ 26) (hj : j < 6) : ∀ (m i : Nat), i + m = l.length → b96_4 d (nI (q_nv l)) (nI j) (nI i) (nI (q_nv (l.take m))) S = some (nI (l.getD j 0), S)
  | 0, i, hi => by
    have e := b96_4_eq d (nI (q_nv l)) (nI j) (nI i) (nI (q_nv (l.take 0))) S hW
    rw [if_pos (show nI (q_nv (l.take 0)) ≤ (0 : Int32) by rw [List.take_zero]; decide), show i = l.length by omega, c96_k hW hl hx hj] at e
    rw [show i = l.length by omega]
    exact e
  | m + 1, i, hi => by
    have e := b96_4_eq d (nI (q_nv l)) (nI j) (nI i) (nI (q_nv (l.take (m + 1)))) S hW
    have hx2 : ∀ x, x ∈ l → x ≤ 26 := fun x h => (hx x h).2
    have hlt := q_nv_tl hx2 (m + 1) (by omega)
    have hlt2 : 27 ^ (m + 1) ≤ 27 ^ 6 := Nat.pow_le_pow_right (by decide) (by omega)
    have ht := q_nv_t (l := l) (i := m) (by omega)
    have hm : l.getD m 0 ∈ l := by rw [List.getD_eq_getElem?_getD, List.getElem?_eq_getElem (by omega)]; exact List.getElem_mem _
    have h1 := hx _ hm
    rw [ht] at hlt
    rw [ht, if_neg (show ¬ nI (q_nv (l.take m) * 27 + l.getD m 0) ≤ (0 : Int32) from fun z => by have := (nI_leI (b := 0) (by omega) (by omega)).mp z; omega), if_neg (show ¬ (6 : Int32) ≤ nI i from fun z => by have := (nI_leI (a := 6) (by omega) (by omega)).mp z; omega), show (27 : Int32) = nI 27 from rfl, pk_div (by omega) (by omega) (by omega), show (q_nv (l.take m) * 27 + l.getD m 0) / 27 = q_nv (l.take m) by omega, show (1 : Int32) = nI 1 from rfl, nI_add] at e
    rw [ht, e]
    exact c96_n hW hl hx hj m (i + 1) (by omega)
/-- the letter of a word -/
theorem c96 {l : List Nat} {j : Nat} (hW : z_W S) (hl : l.length ≤ 6) (hx : ∀ x, x ∈ l → 1 ≤ x ∧ x ≤ 26) (hj : j < 6) : fI (d + 1) 96 [.int (nI (q_nv l)), .int (nI j)] S = some (nI (l.getD j 0), S) := by
  rw [e96 d (nI (q_nv l)) (nI j) S hW]
  have := c96_n (d := d) (j := j) hW hl hx hj l.length 0 (by omega)
  rw [List.take_of_length_le (Nat.le_refl _)] at this
  exact this
theorem m231_l {l : List Nat} {j : Nat} (hW : z_W S) (hl : l.length ≤ 6) (hx : ∀ x, x ∈ l → 1 ≤ x ∧ x ≤ 26) (hj : j < 6) : ∀ (m i : Nat), i + m = l.length → b231_40 d (nI j) (lN (q_nw l)) (nI i) (lN (q_nw (l.take m))) S = some (nI (l.getD j 0), S)
  | 0, i, hi => by
    have e := b231_40_eq d (nI j) (lN (q_nw l)) (nI i) (lN (q_nw (l.take 0))) S hW
    have hx2 : ∀ x, x ∈ l → x ≤ 26 := fun x h => (hx x h).2
    have hlt := q_nw_lt hx2 l.length (Nat.le_refl _)
    rw [List.take_of_length_le (Nat.le_refl _)] at hlt
    have hlt2 : 256 ^ l.length ≤ 256 ^ 6 := Nat.pow_le_pow_right (by decide) hl
    have h0 : lg_cmp (lN (q_nw (l.take 0))) (0 : Int64) ≤ (0 : Int32) := (lgLe _ _).mpr (by rw [List.take_zero]; decide)
    rw [if_pos h0] at e
    by_cases c : j < i
    · have hv := q_nw_v hx2 (i - 1 - j) (j + 1) (by omega)
      have hm : l.getD j 0 ∈ l := by rw [List.getD_eq_getElem?_getD, List.getElem?_eq_getElem (by omega)]; exact List.getElem_mem _
      have h1 := hx _ hm
      have hs : ((((8 : Int32) * ((nI i - (1 : Int32)) - nI j))).toInt64 &&& 63) = lN (8 * (i - 1 - j)) := by
        rw [show (1 : Int32) = nI 1 from rfl, pk_sub (by omega), pk_sub (by omega), show (8 : Int32) = nI 8 from rfl, pk_mul, nI_l (by omega)]
        exact (fb_maskL _ 6).trans (by rw [Nat.mod_eq_of_lt (by omega)])
      have h8 : (2 : Nat) ^ (8 * (i - 1 - j)) = 256 ^ (i - 1 - j) := by rw [Nat.pow_mul]
      rw [if_pos ((nI_ltI (by omega) (by omega)).mpr c), hs, q_shL (q_sh64 ⟨8 * (i - 1 - j), by omega⟩) (by omega), h8, hv, q_nw_t (by omega), show (255 : Int64) = lN (2 ^ 8 - 1) from rfl, fb_maskL, lN_i] at e
      rw [show (q_nw (l.take j) * 256 + (l.getD j 0 + 96)) % 2 ^ 8 = l.getD j 0 + 96 by omega, show (97 : Int32) = nI 97 from rfl, pk_sub (by omega), show (1 : Int32) = nI 1 from rfl, nI_add, show l.getD j 0 + 96 - 97 + 1 = l.getD j 0 by omega] at e
      exact e
    · rw [if_neg (fun z => c ((nI_ltI (by omega) (by omega)).mp z))] at e
      have : l.getD j 0 = 0 := by rw [List.getD_eq_getElem?_getD, List.getElem?_eq_none (by omega)]; rfl
      rw [e, this]
      rfl
  | m + 1, i, hi => by
    have e := b231_40_eq d (nI j) (lN (q_nw l)) (nI i) (lN (q_nw (l.take (m + 1)))) S hW
    have hx2 : ∀ x, x ∈ l → x ≤ 26 := fun x h => (hx x h).2
    have hlt := q_nw_lt hx2 (m + 1) (by omega)
    have hlt2 : 256 ^ (m + 1) ≤ 256 ^ 6 := Nat.pow_le_pow_right (by decide) (by omega)
    have ht := q_nw_t (l := l) (i := m) (by omega)
    have hm : l.getD m 0 ∈ l := by rw [List.getD_eq_getElem?_getD, List.getElem?_eq_getElem (by omega)]; exact List.getElem_mem _
    have h1 := hx _ hm
    have h0 : ¬ lg_cmp (lN (q_nw (l.take (m + 1)))) (0 : Int64) ≤ (0 : Int32) := fun z => by
      have := (pk_lLE (b := 0) (by omega) (by omega)).mp ((lgLe _ _).mp z)
      omega
    rw [if_neg h0, q_shL (d := 8) (by decide) (by omega), ht, show (q_nw (l.take m) * 256 + (l.getD m 0 + 96)) / 2 ^ 8 = q_nw (l.take m) by omega, show (1 : Int32) = nI 1 from rfl, nI_add] at e
    rw [ht, e]
    exact m231_l hW hl hx hj m (i + 1) (by omega)
theorem t_letter : twoI (d + 20) 113 231 [.int x, .int y] A A := by
  refine two_q (if ixO (p_L (a_P A)) x = true ∧ ixO 6 y = true then nI ((p_a (a_P A) x.toInt.toNat).getD y.toInt.toNat 0) else -1) (fun S h hA => ⟨S, ?_, onI.refl h.1⟩) (fun S h hA => ⟨S, ?_, onM.refl h.W⟩)
  · obtain ⟨q, hH, hq⟩ := h.H hA
    have hL := hA.1.2.2.2.2.1
    have e := e113 (d + 19) x y S h.1
    rw [hq, c59x (d := d + 18) hH.1 hH.2.1 hH.2.2.2.1 hA.1, zb_some] at e
    by_cases c : ixO (p_L (a_P A)) x = true
    · rw [c, if_neg (by decide), hq] at e
      by_cases c2 : ixO 6 y = true
      · obtain ⟨k, k1, rfl⟩ := ixO_t c (by omega)
        obtain ⟨j, j1, rfl⟩ := ixO_t c2 (by omega)
        obtain ⟨w1, w2⟩ := hA.1.2.2.2.2.2.2.2.2.2.2.2.2.2.2 k k1
        have hn : gI S (q + 1) (nI k).toNatClampNeg = nI (q_nv (p_a (a_P A) k)) := by rw [nI_clamp (by omega)]; exact hH.2.2.2.1.2.2.2.2.2.2.2.2.1 k k1
        rw [if_neg (fun z => by have := (nI_ltI (b := 0) (by omega) (by omega)).mp z; omega), if_pos (show nI j < (6 : Int32) from (nI_ltI (b := 6) (by omega) (by omega)).mpr j1), if_pos ((ni_in (by omega)).mpr (by omega)), hn, c96 (d := d + 18) h.1 w1 w2 j1, zb_some] at e
        rw [if_pos ⟨c, c2⟩, nI_toInt (by omega), nI_toInt (by omega)]
        exact e
      · rw [if_neg (fun z => c2 z.2)]
        by_cases y0 : y < 0
        · rw [if_pos y0] at e
          exact e
        · obtain ⟨j, hj, rfl⟩ := nI_of y0
          rw [if_neg y0, if_neg (show ¬ nI j < (6 : Int32) from fun z => c2 (ixO_n ((nI_ltI (b := 6) (by omega) (by omega)).mp z) (by omega)))] at e
          exact e
    · have c' : ixO (p_L (a_P A)) x = false := by simpa using c
      rw [c', if_pos (by decide)] at e
      rw [if_neg (fun z => c z.1)]
      exact e
  · have hW := h.W
    obtain ⟨b, hM⟩ := h.2.1
    have hL := hA.1.2.2.2.2.1
    have e := e231 (d + 19) x y S hW
    have a9 : fI (d + 19) 155 [.int y, .int 0, .int 5] S = some (bI (ixO 6 y), S) := by rw [m155g (d := d + 18) hW, ixO_d]; rfl
    rw [m228 (d := d + 18) hM, zb_some, a9, zb_some] at e
    by_cases c : ixO (p_L (a_P A)) x = true
    · rw [c, if_neg (by decide)] at e
      by_cases c2 : ixO 6 y = true
      · obtain ⟨k, k1, rfl⟩ := ixO_t c (by omega)
        obtain ⟨j, j1, rfl⟩ := ixO_t c2 (by omega)
        obtain ⟨w1, w2⟩ := hA.1.2.2.2.2.2.2.2.2.2.2.2.2.2.2 k k1
        have hb := hM.2.1
        have hix : (16 : Int32) * gI S 396 13 + nI k = nI (16 * b + k) := by rw [hM.2.2.1, show (16 : Int32) = nI 16 from rfl, pk_mul, nI_add]
        have hn : gL S 412 (nI (16 * b + k)).toNatClampNeg = lN (q_nw (p_a (a_P A) k)) := by rw [nI_clamp (by omega)]; exact hM.2.2.2.1.2.2.2.2.2.2.2.2.2.2.1 k k1
        rw [c2, if_pos (by decide), hix, if_pos ((ni_in (by omega)).mpr (by omega)), hn] at e
        rw [if_pos ⟨c, c2⟩, nI_toInt (by omega), nI_toInt (by omega), e]
        have := m231_l (d := d + 19) (l := p_a (a_P A) k) (j := j) hW w1 w2 j1 (p_a (a_P A) k).length 0 (by omega)
        rw [List.take_of_length_le (Nat.le_refl _)] at this
        exact this
      · have c2' : ixO 6 y = false := by simpa using c2
        rw [c2', if_neg (by decide)] at e
        rw [if_neg (fun z => c2 z.2)]
        exact e
    · have c' : ixO (p_L (a_P A)) x = false := by simpa using c
      rw [c', if_pos (by decide)] at e
      rw [if_neg (fun z => c z.1)]
      exact e
end TN
