/-! LETTERS of names. -/
theorem q_shL {a d : Nat} {D : Int64} (hD : (D.toBitVec.smod 64).toNat = d) (h : a < 2 ^ 63) : lN a >>> D = lN (a / 2 ^ d) := by
  have hd : a / 2 ^ d ≤ a := Nat.div_le_self _ _
  apply Int64.toInt_inj.mp
  have e : (lN a >>> D).toInt = (lN a).toInt >>> d := by
    rw [← hD]
    exact BitVec.toInt_sshiftRight ..
  rw [e, Int.shiftRight_eq_div_pow, pk_lT h, pk_lT (by omega)]
  rfl
theorem q_sh64 : ∀ k : Fin 64, ((lN k.val).toBitVec.smod 64).toNat = k.val := by decide +kernel
theorem q_nvF_0 : ∀ n, q_nvF n [] = 0
  | 0 => rfl
  | n + 1 => by rw [q_nvF]; exact q_nvF_0 n
theorem q_nvF_lt : ∀ (n : Nat) (l : List Nat), (∀ x, x ∈ l → x ≤ 26) → q_nvF n l < 27 ^ n
  | 0, l, _ => by rw [q_nvF]; decide
  | n + 1, [], _ => by rw [q_nvF_0]; exact Nat.pow_pos (by decide)
  | n + 1, a :: r, h => by
    have ih := q_nvF_lt n r (fun x hx => h x (List.mem_cons_of_mem _ hx))
    have ha := h a List.mem_cons_self
    rw [q_nvF, Nat.pow_succ]
    have : a * 27 ^ n ≤ 26 * 27 ^ n := Nat.mul_le_mul_right _ ha
    omega
theorem q_nvF_d : ∀ (n : Nat) (l : List Nat) (j m : Nat), (∀ x, x ∈ l → x ≤ 26) → j + m + 1 = n → q_nvF n l / 27 ^ m % 27 = l.getD j 0
  | 0, l, j, m, _, hj => by omega
  | n + 1, [], j, m, _, _ => by rw [q_nvF_0, Nat.zero_div]; rfl
  | n + 1, a :: r, 0, m, h, hj => by
    have lt := q_nvF_lt n r (fun x hx => h x (List.mem_cons_of_mem _ hx))
    have ha := h a List.mem_cons_self
    have hm : m = n := by omega
    subst hm
    rw [q_nvF, Nat.mul_comm, Nat.mul_add_div (Nat.pow_pos (by decide)), Nat.div_eq_of_lt lt, Nat.add_zero, Nat.mod_eq_of_lt (by omega)]
    rfl
  | n + 1, a :: r, j + 1, m, h, hj => by
    have ih := q_nvF_d n r j m (fun x hx => h x (List.mem_cons_of_mem _ hx)) (by omega)
    have hp : a * 27 ^ n = 27 ^ m * (27 * (a * 27 ^ j)) := by
      rw [show n = m + (j + 1) by omega, Nat.pow_add, Nat.pow_succ, Nat.mul_left_comm]
      congr 1
      rw [Nat.mul_comm (27 ^ j), Nat.mul_left_comm]
    rw [q_nvF, hp, Nat.mul_add_div (Nat.pow_pos (by decide)), Nat.mul_add_mod, ih]
    rfl
theorem q_nw_s (l : List Nat) (a : Nat) : q_nw (l ++ [a]) = q_nw l * 256 + (a + 96) := by
  unfold q_nw
  rw [List.foldl_append]
  rfl
theorem q_nw_t {l : List Nat} {i : Nat} (h : i < l.length) : q_nw (l.take (i + 1)) = q_nw (l.take i) * 256 + (l.getD i 0 + 96) := by
  rw [List.take_add_one, List.getElem?_eq_getElem h, List.getD_eq_getElem?_getD, List.getElem?_eq_getElem h]
  exact q_nw_s _ _
theorem q_nw_lt {l : List Nat} (hl : ∀ x, x ∈ l → x ≤ 26) : ∀ i, i ≤ l.length → q_nw (l.take i) < 256 ^ i
  | 0, _ => by rw [List.take_zero]; decide
  | i + 1, h => by
    have ih := q_nw_lt hl i (by omega)
    have hm : l.getD i 0 ∈ l := by rw [List.getD_eq_getElem?_getD, List.getElem?_eq_getElem (by omega)]; exact List.getElem_mem _
    have h1 := hl _ hm
    rw [q_nw_t (by omega), Nat.pow_succ]
    omega
theorem q_nw_v {l : List Nat} (hl : ∀ x, x ∈ l → x ≤ 26) : ∀ (m i : Nat), i + m = l.length → q_nw l / 256 ^ m = q_nw (l.take i)
  | 0, i, h => by rw [List.take_of_length_le (by omega), Nat.pow_zero, Nat.div_one]
  | m + 1, i, h => by
    have ih := q_nw_v hl m (i + 1) (by omega)
    have hm : l.getD i 0 ∈ l := by rw [List.getD_eq_getElem?_getD, List.getElem?_eq_getElem (by omega)]; exact List.getElem_mem _
    have h1 := hl _ hm
    rw [Nat.pow_succ, ← Nat.div_div_eq_div_mul, ih, q_nw_t (by omega)]
    omega
theorem nI_p1 (y : Nat) : nI (y + 1) + (-1 : Int32) = nI y := by
  rw [← nI_add, Int32.add_assoc, show nI 1 + (-1 : Int32) = 0 by decide, Int32.add_zero]
section TN
variable {d : Nat} {S : z_S} {A : q_A} {x y : Int32}
theorem c113_l {j : Nat} (hW : z_W S) : ∀ (m v : Nat), j + m ≤ 5 → v < 2147483648 → b113_36 d (nI j) (nI v) (nI (j + m)) S = some (nI (v / 27 ^ m % 27), S)
  | 0, v, hj, hv => by
    have e := b113_36_eq d (nI j) (nI v) (nI (j + 0)) S hW
    rw [if_pos ((nI_leI (by omega) (by omega)).mpr (by omega)), show (27 : Int32) = nI 27 from rfl, pk_rem hv (by omega) (by omega)] at e
    rw [e, Nat.pow_zero, Nat.div_one]
  | m + 1, v, hj, hv => by
    have e := b113_36_eq d (nI j) (nI v) (nI (j + (m + 1))) S hW
    have hd : v / 27 ≤ v := Nat.div_le_self _ _
    rw [if_neg (fun z => by have := (nI_leI (by omega) (by omega)).mp z; omega), show (27 : Int32) = nI 27 from rfl, pk_div hv (by omega) (by omega), show j + (m + 1) = j + m + 1 from rfl, nI_p1, c113_l hW m (v / 27) (by omega) (by omega), Nat.div_div_eq_div_mul] at e
    rw [show j + (m + 1) = j + m + 1 from rfl, e, Nat.pow_succ, Nat.mul_comm]
theorem m231_l {l : List Nat} {j : Nat} (hW : z_W S) (hl : l.length ≤ 6) (hx : ∀ x, x ∈ l → 1 ≤ x ∧ x ≤ 26) (hj : j < 6) : ∀ (m i : Nat), i + m = l.length → b231_40 d (nI j) (lN (q_nw l)) (nI i) (lN (q_nw (l.take m))) S = some (nI (l.getD j 0), S)
  | 0, i, hi => by
    have e := b231_40_eq d (nI j) (lN (q_nw l)) (nI i) (lN (q_nw (l.take 0))) S hW
    have hx2 : ∀ x, x ∈ l → x ≤ 26 := fun x h => (hx x h).2
    have hlt := q_nw_lt hx2 l.length (Nat.le_refl _)
    rw [List.take_of_length_le (Nat.le_refl _)] at hlt
    have hlt2 : 256 ^ l.length ≤ 256 ^ 6 := Nat.pow_le_pow_right (by decide) hl
    have h0 : lg_cmp (lN (q_nw (l.take 0))) (0 : Int64) ≤ (0 : Int32) := (lgLe _ _).mpr (by rw [List.take_zero]; decide)
    rw [if_pos h0] at e
    by_cases c : j < i
    · have hv := q_nw_v hx2 (i - 1 - j) (j + 1) (by omega)
      have hm : l.getD j 0 ∈ l := by rw [List.getD_eq_getElem?_getD, List.getElem?_eq_getElem (by omega)]; exact List.getElem_mem _
      have h1 := hx _ hm
      have hs : ((((8 : Int32) * ((nI i - (1 : Int32)) - nI j))).toInt64 &&& 63) = lN (8 * (i - 1 - j)) := by
        rw [show (1 : Int32) = nI 1 from rfl, pk_sub (by omega), pk_sub (by omega), show (8 : Int32) = nI 8 from rfl, pk_mul, nI_l (by omega)]
        exact (fb_maskL _ 6).trans (by rw [Nat.mod_eq_of_lt (by omega)])
      have h8 : (2 : Nat) ^ (8 * (i - 1 - j)) = 256 ^ (i - 1 - j) := by rw [Nat.pow_mul]
      rw [if_pos ((nI_ltI (by omega) (by omega)).mpr c), hs, q_shL (q_sh64 ⟨8 * (i - 1 - j), by omega⟩) (by omega), h8, hv, q_nw_t (by omega), show (255 : Int64) = lN (2 ^ 8 - 1) from rfl, fb_maskL, lN_i] at e
      rw [show (q_nw (l.take j) * 256 + (l.getD j 0 + 96)) % 2 ^ 8 = l.getD j 0 + 96 by omega, show (97 : Int32) = nI 97 from rfl, pk_sub (by omega), show (1 : Int32) = nI 1 from rfl, nI_add, show l.getD j 0 + 96 - 97 + 1 = l.getD j 0 by omega] at e
      exact e
    · rw [if_neg (fun z => c ((nI_ltI (by omega) (by omega)).mp z))] at e
      have : l.getD j 0 = 0 := by rw [List.getD_eq_getElem?_getD, List.getElem?_eq_none (by omega)]; rfl
      rw [e, this]
      rfl
  | m + 1, i, hi => by
    have e := b231_40_eq d (nI j) (lN (q_nw l)) (nI i) (lN (q_nw (l.take (m + 1)))) S hW
    have hx2 : ∀ x, x ∈ l → x ≤ 26 := fun x h => (hx x h).2
    have hlt := q_nw_lt hx2 (m + 1) (by omega)
    have hlt2 : 256 ^ (m + 1) ≤ 256 ^ 6 := Nat.pow_le_pow_right (by decide) (by omega)
    have ht := q_nw_t (l := l) (i := m) (by omega)
    have hm : l.getD m 0 ∈ l := by rw [List.getD_eq_getElem?_getD, List.getElem?_eq_getElem (by omega)]; exact List.getElem_mem _
    have h1 := hx _ hm
    have h0 : ¬ lg_cmp (lN (q_nw (l.take (m + 1)))) (0 : Int64) ≤ (0 : Int32) := fun z => by
      have := (pk_lLE (b := 0) (by omega) (by omega)).mp ((lgLe _ _).mp z)
      omega
    rw [if_neg h0, q_shL (d := 8) (by decide) (by omega), ht, show (q_nw (l.take m) * 256 + (l.getD m 0 + 96)) / 2 ^ 8 = q_nw (l.take m) by omega, show (1 : Int32) = nI 1 from rfl, nI_add] at e
    rw [ht, e]
    exact m231_l hW hl hx hj m (i + 1) (by omega)
theorem t_letter : twoI (d + 20) 113 231 [.int x, .int y] A A := by
  refine two_q (if ixO (p_L (a_P A)) x = true ∧ ixO 6 y = true then nI ((p_a (a_P A) x.toInt.toNat).getD y.toInt.toNat 0) else -1) (fun S h hA => ⟨S, ?_, onI.refl h.1⟩) (fun S h hA => ⟨S, ?_, onM.refl h.W⟩)
  · obtain ⟨q, hH, hq⟩ := h.H hA
    have hL := hA.1.2.2.2.2.1
    have e := e113 (d + 19) x y S h.1
    rw [hq, c59x (d := d + 18) hH.1 hH.2.1 hH.2.2.2.1 hA.1, zb_some] at e
    by_cases c : ixO (p_L (a_P A)) x = true
    · rw [c, if_neg (by decide), hq] at e
      by_cases c2 : ixO 6 y = true
      · obtain ⟨k, k1, rfl⟩ := ixO_t c (by omega)
        obtain ⟨j, j1, rfl⟩ := ixO_t c2 (by omega)
        obtain ⟨w1, w2⟩ := hA.1.2.2.2.2.2.2.2.2.2.2.2.2.2.2 k k1
        have hn : gI S (q + 1) (nI k).toNatClampNeg = nI (q_nv (p_a (a_P A) k)) := by rw [nI_clamp (by omega)]; exact hH.2.2.2.1.2.2.2.2.2.2.2.2.1 k k1
        have hlt : q_nv (p_a (a_P A) k) < 27 ^ 6 := q_nvF_lt 6 _ (fun x hx => (w2 x hx).2)
        have hl : b113_36 (d + 19) (nI j) (nI (q_nv (p_a (a_P A) k))) (5 : Int32) S = some (nI (q_nv (p_a (a_P A) k) / 27 ^ (5 - j) % 27), S) := by
          have := c113_l (d := d + 19) (j := j) h.1 (5 - j) (q_nv (p_a (a_P A) k)) (by omega) (by omega)
          rw [show j + (5 - j) = 5 by omega] at this
          exact this
        rw [if_neg (fun z => by have := (nI_ltI (b := 0) (by omega) (by omega)).mp z; omega), if_pos (show nI j < (6 : Int32) from (nI_ltI (b := 6) (by omega) (by omega)).mpr j1), if_pos ((ni_in (by omega)).mpr (by omega)), hn, hl] at e
        rw [if_pos ⟨c, c2⟩, nI_toInt (by omega), nI_toInt (by omega), e]
        congr 3
        exact q_nvF_d 6 _ j (5 - j) (fun x hx => (w2 x hx).2) (by omega)
      · rw [if_neg (fun z => c2 z.2)]
        by_cases y0 : y < 0
        · rw [if_pos y0] at e
          exact e
        · obtain ⟨j, hj, rfl⟩ := nI_of y0
          rw [if_neg y0, if_neg (show ¬ nI j < (6 : Int32) from fun z => c2 (ixO_n ((nI_ltI (b := 6) (by omega) (by omega)).mp z) (by omega)))] at e
          exact e
    · have c' : ixO (p_L (a_P A)) x = false := by simpa using c
      rw [c', if_pos (by decide)] at e
      rw [if_neg (fun z => c z.1)]
      exact e
  · have hW := h.W
    obtain ⟨b, hM⟩ := h.2.1
    have hL := hA.1.2.2.2.2.1
    have e := e231 (d + 19) x y S hW
    have a9 : fI (d + 19) 155 [.int y, .int 0, .int 5] S = some (bI (ixO 6 y), S) := by rw [m155g (d := d + 18) hW, ixO_d]; rfl
    rw [m228 (d := d + 18) hM, zb_some, a9, zb_some] at e
    by_cases c : ixO (p_L (a_P A)) x = true
    · rw [c, if_neg (by decide)] at e
      by_cases c2 : ixO 6 y = true
      · obtain ⟨k, k1, rfl⟩ := ixO_t c (by omega)
        obtain ⟨j, j1, rfl⟩ := ixO_t c2 (by omega)
        obtain ⟨w1, w2⟩ := hA.1.2.2.2.2.2.2.2.2.2.2.2.2.2.2 k k1
        have hb := hM.2.1
        have hix : (16 : Int32) * gI S 396 13 + nI k = nI (16 * b + k) := by rw [hM.2.2.1, show (16 : Int32) = nI 16 from rfl, pk_mul, nI_add]
        have hn : gL S 412 (nI (16 * b + k)).toNatClampNeg = lN (q_nw (p_a (a_P A) k)) := by rw [nI_clamp (by omega)]; exact hM.2.2.2.1.2.2.2.2.2.2.2.2.2.2.1 k k1
        rw [c2, if_pos (by decide), hix, if_pos ((ni_in (by omega)).mpr (by omega)), hn] at e
        rw [if_pos ⟨c, c2⟩, nI_toInt (by omega), nI_toInt (by omega), e]
        have := m231_l (d := d + 19) (l := p_a (a_P A) k) (j := j) hW w1 w2 j1 (p_a (a_P A) k).length 0 (by omega)
        rw [List.take_of_length_le (Nat.le_refl _)] at this
        exact this
      · have c2' : ixO 6 y = false := by simpa using c2
        rw [c2', if_neg (by decide)] at e
        rw [if_neg (fun z => c2 z.2)]
        exact e
    · have c' : ixO (p_L (a_P A)) x = false := by simpa using c
      rw [c', if_pos (by decide)] at e
      rw [if_neg (fun z => c z.1)]
      exact e
end TN
