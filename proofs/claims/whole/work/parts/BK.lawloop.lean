/-! THE LAW: its loop (written by wip/whole/gen/law.py). -/
section IF
variable {d L : Nat} {xs : Nat → Int32}
theorem law_step {i : Nat} {A : q_A} {S : z_S} (hL : L ≤ 3072) (hi : i + 6 ≤ L) (hS : iA S A) : ∃ A' S2, iA S2 A' ∧ zk some (L + 1, xs) (d + 72) 282 27 [.retAddr 1, .ref 0, .ref 396, .int (nI i)] [] S = zk some (L + 1, xs) (d + 72) 282 1063 [.retAddr 1, .ref 0, .ref 396, .int (nI i)] [] S2 := by
  have zin : ∀ j, j < 6 → z_in (nI (i + j)) L := fun j hj => (ni_in (by omega)).mpr (by omega)
  have h0 : z_in (nI i) L := zin 0 (by omega)
  have h1 : z_in (nI i + (1 : Int32)) L := by rw [show nI i + (1 : Int32) = nI (i + 1) by simp (disch := omega) only [ni_lit, nI_add, pk_mul, pk_sub, pk_div, nI_leI, nI_ltI, nI_eq, nI_clamp, ni_in, ni_inm, ni_ltm, ni_mlt, ni_lem, ni_mle, ni_eqm, ni_meq, ni_mm, ni_mmle, ni_bit, ni_shl, ni_clr, fa_or, Nat.add_zero, Nat.zero_add, Nat.zero_mul, Nat.mul_zero, eOn, eOs]]; exact zin 1 (by omega)
  have h2 : z_in (nI i + (2 : Int32)) L := by rw [show nI i + (2 : Int32) = nI (i + 2) by simp (disch := omega) only [ni_lit, nI_add, pk_mul, pk_sub, pk_div, nI_leI, nI_ltI, nI_eq, nI_clamp, ni_in, ni_inm, ni_ltm, ni_mlt, ni_lem, ni_mle, ni_eqm, ni_meq, ni_mm, ni_mmle, ni_bit, ni_shl, ni_clr, fa_or, Nat.add_zero, Nat.zero_add, Nat.zero_mul, Nat.mul_zero, eOn, eOs]]; exact zin 2 (by omega)
  have h3 : z_in (nI i + (3 : Int32)) L := by rw [show nI i + (3 : Int32) = nI (i + 3) by simp (disch := omega) only [ni_lit, nI_add, pk_mul, pk_sub, pk_div, nI_leI, nI_ltI, nI_eq, nI_clamp, ni_in, ni_inm, ni_ltm, ni_mlt, ni_lem, ni_mle, ni_eqm, ni_meq, ni_mm, ni_mmle, ni_bit, ni_shl, ni_clr, fa_or, Nat.add_zero, Nat.zero_add, Nat.zero_mul, Nat.mul_zero, eOn, eOs]]; exact zin 3 (by omega)
  have h4 : z_in (nI i + (4 : Int32)) L := by rw [show nI i + (4 : Int32) = nI (i + 4) by simp (disch := omega) only [ni_lit, nI_add, pk_mul, pk_sub, pk_div, nI_leI, nI_ltI, nI_eq, nI_clamp, ni_in, ni_inm, ni_ltm, ni_mlt, ni_lem, ni_mle, ni_eqm, ni_meq, ni_mm, ni_mmle, ni_bit, ni_shl, ni_clr, fa_or, Nat.add_zero, Nat.zero_add, Nat.zero_mul, Nat.mul_zero, eOn, eOs]]; exact zin 4 (by omega)
  have h5 : z_in (nI i + (5 : Int32)) L := by rw [show nI i + (5 : Int32) = nI (i + 5) by simp (disch := omega) only [ni_lit, nI_add, pk_mul, pk_sub, pk_div, nI_leI, nI_ltI, nI_eq, nI_clamp, ni_in, ni_inm, ni_ltm, ni_mlt, ni_lem, ni_mle, ni_eqm, ni_meq, ni_mm, ni_mmle, ni_bit, ni_shl, ni_clr, fa_or, Nat.add_zero, Nat.zero_add, Nat.zero_mul, Nat.mul_zero, eOn, eOs]]; exact zin 5 (by omega)
  suffices g : ∃ A' S2, iA S2 A' ∧ zk some (L + 1, xs) (d + 72) 282 (z_sw 0 [188, 251, 274, 287, 310, 333, 366, 399, 432, 455, 488, 521, 544, 567, 590, 613, 636, 649, 672, 695, 718, 731, 764, 797, 820, 843, 876, 899, 922, 935, 958, 991, 1004, 1027, 1040] 1063 (xs (nI i).toNatClampNeg &&& (63 : Int32))) [.retAddr 1, .ref 0, .ref 396, .int (nI i)] [] S = zk some (L + 1, xs) (d + 72) 282 1063 [.retAddr 1, .ref 0, .ref 396, .int (nI i)] [] S2 by
    obtain ⟨A', S2, g1, g2⟩ := g
    refine ⟨A', S2, g1, Eq.trans ?_ g2⟩
    refine (k_aload_nX t282_27 rfl rfl).trans ?_
    refine (k_iload_n t282_28 rfl rfl).trans ?_
    refine (k_ialdX t282_29 rfl h0).trans ?_
    refine (k_bipush t282_30 rfl zcb_63).trans ?_
    refine (k_iand t282_32 rfl).trans ?_
    exact k_switch t282_33 rfl
  generalize xs (nI i).toNatClampNeg &&& (63 : Int32) = a
  rw [zk_sw]
  by_cases c0 : a = Int32.ofInt (0)
  · obtain ⟨A', ht⟩ := (t_feed (d := d + 52) : ∃ A', twoI (d + 72) 106 157 [.int (xs (nI i + (1 : Int32)).toNatClampNeg), .int (xs (nI i + (2 : Int32)).toNatClampNeg), .int (xs (nI i + (3 : Int32)).toNatClampNeg), .int (xs (nI i + (4 : Int32)).toNatClampNeg), .int (xs (nI i + (5 : Int32)).toNatClampNeg)] A A')
    obtain ⟨S2, g1, g2⟩ := lw_0 (xs := xs) h1 h2 h3 h4 h5 ht hS
    exact ⟨_, S2, g1, by rw [if_pos c0]; exact g2⟩
  rw [if_neg c0]
  rw [zk_sw]
  by_cases c1 : a = Int32.ofInt (0 + 1)
  · obtain ⟨A', ht⟩ := (t_end (d := d + 52) : ∃ A', twoI (d + 72) 108 158 [.int (xs (nI i + (1 : Int32)).toNatClampNeg)] A A')
    obtain ⟨S2, g1, g2⟩ := lw_1 (xs := xs) h1 ht hS
    exact ⟨_, S2, g1, by rw [if_pos c1]; exact g2⟩
  rw [if_neg c1]
  rw [zk_sw]
  by_cases c2 : a = Int32.ofInt (0 + 1 + 1)
  · have ht : twoI (d + 72) 109 192 [] A _ := t_lodge (d := d)
    obtain ⟨S2, g1, g2⟩ := lw_2 (xs := xs) ht hS
    exact ⟨_, S2, g1, by rw [if_pos c2]; exact g2⟩
  rw [if_neg c2]
  rw [zk_sw]
  by_cases c3 : a = Int32.ofInt (0 + 1 + 1 + 1)
  · have ht : twoI (d + 72) 111 193 [.int (xs (nI i + (1 : Int32)).toNatClampNeg)] A _ := t_fault (d := d + 52)
    obtain ⟨S2, g1, g2⟩ := lw_3 (xs := xs) h1 ht hS
    exact ⟨_, S2, g1, by rw [if_pos c3]; exact g2⟩
  rw [if_neg c3]
  rw [zk_sw]
  by_cases c4 : a = Int32.ofInt (0 + 1 + 1 + 1 + 1)
  · have ht : twoI (d + 72) 112 230 [.int (xs (nI i + (1 : Int32)).toNatClampNeg)] A _ := t_has (d := d + 52)
    obtain ⟨S2, g1, g2⟩ := lw_4 (xs := xs) h1 ht hS
    exact ⟨_, S2, g1, by rw [if_pos c4]; exact g2⟩
  rw [if_neg c4]
  rw [zk_sw]
  by_cases c5 : a = Int32.ofInt (0 + 1 + 1 + 1 + 1 + 1)
  · have ht : twoI (d + 72) 113 231 [.int (xs (nI i + (1 : Int32)).toNatClampNeg), .int (xs (nI i + (2 : Int32)).toNatClampNeg)] A _ := t_letter (d := d + 52)
    obtain ⟨S2, g1, g2⟩ := lw_5 (xs := xs) h1 h2 ht hS
    exact ⟨_, S2, g1, by rw [if_pos c5]; exact g2⟩
  rw [if_neg c5]
  rw [zk_sw]
  by_cases c6 : a = Int32.ofInt (0 + 1 + 1 + 1 + 1 + 1 + 1)
  · have ht : twoI (d + 72) 114 232 [.int (xs (nI i + (1 : Int32)).toNatClampNeg), .int (xs (nI i + (2 : Int32)).toNatClampNeg)] A _ := t_room (d := d + 52)
    obtain ⟨S2, g1, g2⟩ := lw_6 (xs := xs) h1 h2 ht hS
    exact ⟨_, S2, g1, by rw [if_pos c6]; exact g2⟩
  rw [if_neg c6]
  rw [zk_sw]
  by_cases c7 : a = Int32.ofInt (0 + 1 + 1 + 1 + 1 + 1 + 1 + 1)
  · have ht : twoI (d + 72) 115 233 [.int (xs (nI i + (1 : Int32)).toNatClampNeg), .int (xs (nI i + (2 : Int32)).toNatClampNeg)] A _ := t_lodger (d := d + 52)
    obtain ⟨S2, g1, g2⟩ := lw_7 (xs := xs) h1 h2 ht hS
    exact ⟨_, S2, g1, by rw [if_pos c7]; exact g2⟩
  rw [if_neg c7]
  rw [zk_sw]
  by_cases c8 : a = Int32.ofInt (0 + 1 + 1 + 1 + 1 + 1 + 1 + 1 + 1)
  · have ht : twoI (d + 72) 116 234 [.int (xs (nI i + (1 : Int32)).toNatClampNeg)] A _ := t_bench (d := d + 52)
    obtain ⟨S2, g1, g2⟩ := lw_8 (xs := xs) h1 ht hS
    exact ⟨_, S2, g1, by rw [if_pos c8]; exact g2⟩
  rw [if_neg c8]
  rw [zk_sw]
  by_cases c9 : a = Int32.ofInt (0 + 1 + 1 + 1 + 1 + 1 + 1 + 1 + 1 + 1)
  · have ht : twoI (d + 72) 117 237 [.int (xs (nI i + (1 : Int32)).toNatClampNeg), .int (xs (nI i + (2 : Int32)).toNatClampNeg)] A _ := t_chain (d := d + 52)
    obtain ⟨S2, g1, g2⟩ := lw_9 (xs := xs) h1 h2 ht hS
    exact ⟨_, S2, g1, by rw [if_pos c9]; exact g2⟩
  rw [if_neg c9]
  rw [zk_sw]
  by_cases c10 : a = Int32.ofInt (0 + 1 + 1 + 1 + 1 + 1 + 1 + 1 + 1 + 1 + 1)
  · have ht : twoI (d + 72) 118 238 [.int (xs (nI i + (1 : Int32)).toNatClampNeg), .int (xs (nI i + (2 : Int32)).toNatClampNeg)] A _ := t_later (d := d + 52)
    obtain ⟨S2, g1, g2⟩ := lw_10 (xs := xs) h1 h2 ht hS
    exact ⟨_, S2, g1, by rw [if_pos c10]; exact g2⟩
  rw [if_neg c10]
  rw [zk_sw]
  by_cases c11 : a = Int32.ofInt (0 + 1 + 1 + 1 + 1 + 1 + 1 + 1 + 1 + 1 + 1 + 1)
  · have ht : twoI (d + 72) 119 239 [.int (xs (nI i + (1 : Int32)).toNatClampNeg)] A _ := t_sleeps (d := d + 52)
    obtain ⟨S2, g1, g2⟩ := lw_11 (xs := xs) h1 ht hS
    exact ⟨_, S2, g1, by rw [if_pos c11]; exact g2⟩
  rw [if_neg c11]
  rw [zk_sw]
  by_cases c12 : a = Int32.ofInt (0 + 1 + 1 + 1 + 1 + 1 + 1 + 1 + 1 + 1 + 1 + 1 + 1)
  · have ht : twoI (d + 72) 120 240 [.int (xs (nI i + (1 : Int32)).toNatClampNeg)] A _ := t_purse (d := d + 52)
    obtain ⟨S2, g1, g2⟩ := lw_12 (xs := xs) h1 ht hS
    exact ⟨_, S2, g1, by rw [if_pos c12]; exact g2⟩
  rw [if_neg c12]
  rw [zk_sw]
  by_cases c13 : a = Int32.ofInt (0 + 1 + 1 + 1 + 1 + 1 + 1 + 1 + 1 + 1 + 1 + 1 + 1 + 1)
  · have ht : twoI (d + 72) 122 245 [.int (xs (nI i + (1 : Int32)).toNatClampNeg)] A _ := t_most (d := d + 52)
    obtain ⟨S2, g1, g2⟩ := lw_13 (xs := xs) h1 ht hS
    exact ⟨_, S2, g1, by rw [if_pos c13]; exact g2⟩
  rw [if_neg c13]
  rw [zk_sw]
  by_cases c14 : a = Int32.ofInt (0 + 1 + 1 + 1 + 1 + 1 + 1 + 1 + 1 + 1 + 1 + 1 + 1 + 1 + 1)
  · have ht : twoI (d + 72) 123 246 [.int (xs (nI i + (1 : Int32)).toNatClampNeg)] A _ := t_ways (d := d + 52)
    obtain ⟨S2, g1, g2⟩ := lw_14 (xs := xs) h1 ht hS
    exact ⟨_, S2, g1, by rw [if_pos c14]; exact g2⟩
  rw [if_neg c14]
  rw [zk_sw]
  by_cases c15 : a = Int32.ofInt (0 + 1 + 1 + 1 + 1 + 1 + 1 + 1 + 1 + 1 + 1 + 1 + 1 + 1 + 1 + 1)
  · have ht : twoI (d + 72) 124 247 [.int (xs (nI i + (1 : Int32)).toNatClampNeg)] A _ := t_turned (d := d + 52)
    obtain ⟨S2, g1, g2⟩ := lw_15 (xs := xs) h1 ht hS
    exact ⟨_, S2, g1, by rw [if_pos c15]; exact g2⟩
  rw [if_neg c15]
  rw [zk_sw]
  by_cases c16 : a = Int32.ofInt (0 + 1 + 1 + 1 + 1 + 1 + 1 + 1 + 1 + 1 + 1 + 1 + 1 + 1 + 1 + 1 + 1)
  · have ht : twoI (d + 72) 125 248 [] A _ := t_crowd (d := d + 52)
    obtain ⟨S2, g1, g2⟩ := lw_16 (xs := xs) ht hS
    exact ⟨_, S2, g1, by rw [if_pos c16]; exact g2⟩
  rw [if_neg c16]
  rw [zk_sw]
  by_cases c17 : a = Int32.ofInt (0 + 1 + 1 + 1 + 1 + 1 + 1 + 1 + 1 + 1 + 1 + 1 + 1 + 1 + 1 + 1 + 1 + 1)
  · have ht : twoI (d + 72) 126 250 [.int (xs (nI i + (1 : Int32)).toNatClampNeg)] A _ := t_clear (d := d + 52)
    obtain ⟨S2, g1, g2⟩ := lw_17 (xs := xs) h1 ht hS
    exact ⟨_, S2, g1, by rw [if_pos c17]; exact g2⟩
  rw [if_neg c17]
  rw [zk_sw]
  by_cases c18 : a = Int32.ofInt (0 + 1 + 1 + 1 + 1 + 1 + 1 + 1 + 1 + 1 + 1 + 1 + 1 + 1 + 1 + 1 + 1 + 1 + 1)
  · have ht : twoI (d + 72) 127 251 [.int (xs (nI i + (1 : Int32)).toNatClampNeg)] A _ := t_moves (d := d + 52)
    obtain ⟨S2, g1, g2⟩ := lw_18 (xs := xs) h1 ht hS
    exact ⟨_, S2, g1, by rw [if_pos c18]; exact g2⟩
  rw [if_neg c18]
  rw [zk_sw]
  by_cases c19 : a = Int32.ofInt (0 + 1 + 1 + 1 + 1 + 1 + 1 + 1 + 1 + 1 + 1 + 1 + 1 + 1 + 1 + 1 + 1 + 1 + 1 + 1)
  · have ht : twoI (d + 72) 128 252 [.int (xs (nI i + (1 : Int32)).toNatClampNeg)] A _ := t_odds (d := d + 52)
    obtain ⟨S2, g1, g2⟩ := lw_19 (xs := xs) h1 ht hS
    exact ⟨_, S2, g1, by rw [if_pos c19]; exact g2⟩
  rw [if_neg c19]
  rw [zk_sw]
  by_cases c20 : a = Int32.ofInt (0 + 1 + 1 + 1 + 1 + 1 + 1 + 1 + 1 + 1 + 1 + 1 + 1 + 1 + 1 + 1 + 1 + 1 + 1 + 1 + 1)
  · obtain ⟨A', ht⟩ := (t_meet (d := d + 52) : ∃ A', twoI (d + 72) 130 253 [] A A')
    obtain ⟨S2, g1, g2⟩ := lw_20 (xs := xs) ht hS
    exact ⟨_, S2, g1, by rw [if_pos c20]; exact g2⟩
  rw [if_neg c20]
  rw [zk_sw]
  by_cases c21 : a = Int32.ofInt (0 + 1 + 1 + 1 + 1 + 1 + 1 + 1 + 1 + 1 + 1 + 1 + 1 + 1 + 1 + 1 + 1 + 1 + 1 + 1 + 1 + 1)
  · have ht : twoI (d + 72) 131 256 [.int (xs (nI i + (1 : Int32)).toNatClampNeg), .int (xs (nI i + (2 : Int32)).toNatClampNeg)] A _ := t_stepped (d := d + 52)
    obtain ⟨S2, g1, g2⟩ := lw_21 (xs := xs) h1 h2 ht hS
    exact ⟨_, S2, g1, by rw [if_pos c21]; exact g2⟩
  rw [if_neg c21]
  rw [zk_sw]
  by_cases c22 : a = Int32.ofInt (0 + 1 + 1 + 1 + 1 + 1 + 1 + 1 + 1 + 1 + 1 + 1 + 1 + 1 + 1 + 1 + 1 + 1 + 1 + 1 + 1 + 1 + 1)
  · have ht : twoI (d + 72) 132 258 [.int (xs (nI i + (1 : Int32)).toNatClampNeg), .int (xs (nI i + (2 : Int32)).toNatClampNeg)] A _ := t_tells (d := d + 52)
    obtain ⟨S2, g1, g2⟩ := lw_22 (xs := xs) h1 h2 ht hS
    exact ⟨_, S2, g1, by rw [if_pos c22]; exact g2⟩
  rw [if_neg c22]
  rw [zk_sw]
  by_cases c23 : a = Int32.ofInt (0 + 1 + 1 + 1 + 1 + 1 + 1 + 1 + 1 + 1 + 1 + 1 + 1 + 1 + 1 + 1 + 1 + 1 + 1 + 1 + 1 + 1 + 1 + 1)
  · obtain ⟨A', ht⟩ := (t_come (d := d + 52) : ∃ A', twoI (d + 72) 133 259 [.int (xs (nI i + (1 : Int32)).toNatClampNeg)] A A')
    obtain ⟨S2, g1, g2⟩ := lw_23 (xs := xs) h1 ht hS
    exact ⟨_, S2, g1, by rw [if_pos c23]; exact g2⟩
  rw [if_neg c23]
  rw [zk_sw]
  by_cases c24 : a = Int32.ofInt (0 + 1 + 1 + 1 + 1 + 1 + 1 + 1 + 1 + 1 + 1 + 1 + 1 + 1 + 1 + 1 + 1 + 1 + 1 + 1 + 1 + 1 + 1 + 1 + 1)
  · obtain ⟨A', ht⟩ := (t_go (d := d + 52) : ∃ A', twoI (d + 72) 135 260 [.int (xs (nI i + (1 : Int32)).toNatClampNeg)] A A')
    obtain ⟨S2, g1, g2⟩ := lw_24 (xs := xs) h1 ht hS
    exact ⟨_, S2, g1, by rw [if_pos c24]; exact g2⟩
  rw [if_neg c24]
  rw [zk_sw]
  by_cases c25 : a = Int32.ofInt (0 + 1 + 1 + 1 + 1 + 1 + 1 + 1 + 1 + 1 + 1 + 1 + 1 + 1 + 1 + 1 + 1 + 1 + 1 + 1 + 1 + 1 + 1 + 1 + 1 + 1)
  · obtain ⟨A', ht⟩ := (t_shut (d := d + 52) : ∃ A', twoI (d + 72) 136 261 [.int (xs (nI i + (1 : Int32)).toNatClampNeg), .int (xs (nI i + (2 : Int32)).toNatClampNeg)] A A')
    obtain ⟨S2, g1, g2⟩ := lw_25 (xs := xs) h1 h2 ht hS
    exact ⟨_, S2, g1, by rw [if_pos c25]; exact g2⟩
  rw [if_neg c25]
  rw [zk_sw]
  by_cases c26 : a = Int32.ofInt (0 + 1 + 1 + 1 + 1 + 1 + 1 + 1 + 1 + 1 + 1 + 1 + 1 + 1 + 1 + 1 + 1 + 1 + 1 + 1 + 1 + 1 + 1 + 1 + 1 + 1 + 1)
  · obtain ⟨A', ht⟩ := (t_nights (d := d + 52) : ∃ A', twoI (d + 72) 138 262 [.int (xs (nI i + (1 : Int32)).toNatClampNeg)] A A')
    obtain ⟨S2, g1, g2⟩ := lw_26 (xs := xs) h1 ht hS
    exact ⟨_, S2, g1, by rw [if_pos c26]; exact g2⟩
  rw [if_neg c26]
  rw [zk_sw]
  by_cases c27 : a = Int32.ofInt (0 + 1 + 1 + 1 + 1 + 1 + 1 + 1 + 1 + 1 + 1 + 1 + 1 + 1 + 1 + 1 + 1 + 1 + 1 + 1 + 1 + 1 + 1 + 1 + 1 + 1 + 1 + 1)
  · obtain ⟨A', ht⟩ := (t_chance (d := d + 52) : ∃ A', twoI (d + 72) 139 264 [.int (xs (nI i + (1 : Int32)).toNatClampNeg)] A A')
    obtain ⟨S2, g1, g2⟩ := lw_27 (xs := xs) h1 ht hS
    exact ⟨_, S2, g1, by rw [if_pos c27]; exact g2⟩
  rw [if_neg c27]
  rw [zk_sw]
  by_cases c28 : a = Int32.ofInt (0 + 1 + 1 + 1 + 1 + 1 + 1 + 1 + 1 + 1 + 1 + 1 + 1 + 1 + 1 + 1 + 1 + 1 + 1 + 1 + 1 + 1 + 1 + 1 + 1 + 1 + 1 + 1 + 1)
  · obtain ⟨A', ht⟩ := (t_undo (d := d + 52) : ∃ A', twoI (d + 72) 143 200 [] A A')
    obtain ⟨S2, g1, g2⟩ := lw_28 (xs := xs) ht hS
    exact ⟨_, S2, g1, by rw [if_pos c28]; exact g2⟩
  rw [if_neg c28]
  rw [zk_sw]
  by_cases c29 : a = Int32.ofInt (0 + 1 + 1 + 1 + 1 + 1 + 1 + 1 + 1 + 1 + 1 + 1 + 1 + 1 + 1 + 1 + 1 + 1 + 1 + 1 + 1 + 1 + 1 + 1 + 1 + 1 + 1 + 1 + 1 + 1)
  · obtain ⟨A', ht⟩ := (t_seed (d := d + 52) : ∃ A', twoI (d + 72) 144 265 [.int (xs (nI i + (1 : Int32)).toNatClampNeg)] A A')
    obtain ⟨S2, g1, g2⟩ := lw_29 (xs := xs) h1 ht hS
    exact ⟨_, S2, g1, by rw [if_pos c29]; exact g2⟩
  rw [if_neg c29]
  rw [zk_sw]
  by_cases c30 : a = Int32.ofInt (0 + 1 + 1 + 1 + 1 + 1 + 1 + 1 + 1 + 1 + 1 + 1 + 1 + 1 + 1 + 1 + 1 + 1 + 1 + 1 + 1 + 1 + 1 + 1 + 1 + 1 + 1 + 1 + 1 + 1 + 1)
  · have ht : twoI (d + 72) 145 266 [.int (xs (nI i + (1 : Int32)).toNatClampNeg), .int (xs (nI i + (2 : Int32)).toNatClampNeg)] A _ := t_kept (d := d + 52)
    obtain ⟨S2, g1, g2⟩ := lw_30 (xs := xs) h1 h2 ht hS
    exact ⟨_, S2, g1, by rw [if_pos c30]; exact g2⟩
  rw [if_neg c30]
  rw [zk_sw]
  by_cases c31 : a = Int32.ofInt (0 + 1 + 1 + 1 + 1 + 1 + 1 + 1 + 1 + 1 + 1 + 1 + 1 + 1 + 1 + 1 + 1 + 1 + 1 + 1 + 1 + 1 + 1 + 1 + 1 + 1 + 1 + 1 + 1 + 1 + 1 + 1)
  · obtain ⟨A', ht⟩ := (t_image (d := d + 52) : ∃ A', twoI (d + 72) 146 268 [] A A')
    obtain ⟨S2, g1, g2⟩ := lw_31 (xs := xs) ht hS
    exact ⟨_, S2, g1, by rw [if_pos c31]; exact g2⟩
  rw [if_neg c31]
  rw [zk_sw]
  by_cases c32 : a = Int32.ofInt (0 + 1 + 1 + 1 + 1 + 1 + 1 + 1 + 1 + 1 + 1 + 1 + 1 + 1 + 1 + 1 + 1 + 1 + 1 + 1 + 1 + 1 + 1 + 1 + 1 + 1 + 1 + 1 + 1 + 1 + 1 + 1 + 1)
  · have ht : twoI (d + 72) 147 269 [.int (xs (nI i + (1 : Int32)).toNatClampNeg)] A _ := t_octet (d := d + 52)
    obtain ⟨S2, g1, g2⟩ := lw_32 (xs := xs) h1 ht hS
    exact ⟨_, S2, g1, by rw [if_pos c32]; exact g2⟩
  rw [if_neg c32]
  rw [zk_sw]
  by_cases c33 : a = Int32.ofInt (0 + 1 + 1 + 1 + 1 + 1 + 1 + 1 + 1 + 1 + 1 + 1 + 1 + 1 + 1 + 1 + 1 + 1 + 1 + 1 + 1 + 1 + 1 + 1 + 1 + 1 + 1 + 1 + 1 + 1 + 1 + 1 + 1 + 1)
  · obtain ⟨A', ht⟩ := (t_on (d := d + 52) : ∃ A', twoI (d + 72) 148 273 [] A A')
    obtain ⟨S2, g1, g2⟩ := lw_33 (xs := xs) ht hS
    exact ⟨_, S2, g1, by rw [if_pos c33]; exact g2⟩
  rw [if_neg c33]
  rw [zk_sw]
  by_cases c34 : a = Int32.ofInt (0 + 1 + 1 + 1 + 1 + 1 + 1 + 1 + 1 + 1 + 1 + 1 + 1 + 1 + 1 + 1 + 1 + 1 + 1 + 1 + 1 + 1 + 1 + 1 + 1 + 1 + 1 + 1 + 1 + 1 + 1 + 1 + 1 + 1 + 1)
  · have ht : twoI (d + 72) 149 195 [.int (xs (nI i + (1 : Int32)).toNatClampNeg)] A _ := t_status (d := d + 52)
    obtain ⟨S2, g1, g2⟩ := lw_34 (xs := xs) h1 ht hS
    exact ⟨_, S2, g1, by rw [if_pos c34]; exact g2⟩
  rw [if_neg c34]
  exact ⟨A, S, hS, rfl⟩
theorem law_loop : ∀ (m i : Nat) (A : q_A) (S : z_S), L ≤ 3072 → i ≤ L → L < i + 6 * m → iA S A → ∃ S', z_W S' ∧ zk some (L + 1, xs) (d + 72) 282 18 [.retAddr 1, .ref 0, .ref 396, .int (nI i)] [] S = some (some (.int 1), S')
  | 0, i, A, S, hL, h1, h2, hS => by omega
  | m + 1, i, A, S, hL, h1, h2, hS => by
    have e : zk some (L + 1, xs) (d + 72) 282 18 [.retAddr 1, .ref 0, .ref 396, .int (nI i)] [] S = if nI L - (6 : Int32) < nI i then zk some (L + 1, xs) (d + 72) 282 1069 [.retAddr 1, .ref 0, .ref 396, .int (nI i)] [] S else zk some (L + 1, xs) (d + 72) 282 27 [.retAddr 1, .ref 0, .ref 396, .int (nI i)] [] S := by
      refine (k_iload_n t282_18 rfl rfl).trans ?_
      refine (k_aload_nX t282_19 rfl rfl).trans ?_
      refine (k_lenX t282_20 rfl).trans ?_
      refine (k_bipush t282_21 rfl zcb_6).trans ?_
      refine (k_isub t282_23 rfl).trans ?_
      exact k_icmp_gt t282_24 rfl
    have lt : nI L - (6 : Int32) < nI i ↔ L < i + 6 := by
      rw [iI_n, iI_n, show (6 : Int32) = iI 6 from rfl, show iI (L : Int) - iI 6 = iI ((L : Int) - 6) from (Int32.ofInt_sub _ _).symm, iI_lt (by omega) (by omega) (by omega) (by omega)]
      omega
    rw [e]
    by_cases c : L < i + 6
    · rw [if_pos (lt.mpr c)]
      refine ⟨S, hS.1.1, ?_⟩
      refine (k_iconst t282_1069 rfl zci_1).trans ?_
      exact k_zretC t282_1070 rfl (by decide) (Or.inr rfl)
    · rw [if_neg (fun z => c (lt.mp z))]
      obtain ⟨A', S2, g1, g2⟩ := law_step (d := d) (i := i) (xs := xs) hL (by omega) hS
      rw [g2]
      obtain ⟨S', hw, q⟩ := law_loop m (i + 6) A' S2 hL (by omega) (by omega) g1
      refine ⟨S', hw, Eq.trans ?_ q⟩
      refine (k_iinc (b := nI (i + 6)) t282_1063 rfl rfl (by rw [show Int32.ofInt 6 = (6 : Int32) from rfl]; simp (disch := omega) only [ni_lit, nI_add, pk_mul, pk_sub, pk_div, nI_leI, nI_ltI, nI_eq, nI_clamp, ni_in, ni_inm, ni_ltm, ni_mlt, ni_lem, ni_mle, ni_eqm, ni_meq, ni_mm, ni_mmle, ni_bit, ni_shl, ni_clr, fa_or, Nat.add_zero, Nat.zero_add, Nat.zero_mul, Nat.mul_zero, eOn, eOs]) rfl).trans ?_
      exact k_goto t282_1066 rfl
end IF
