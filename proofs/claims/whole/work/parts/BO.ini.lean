/-! THE CONSTRUCTORS: put together. -/
section IK
/-- nothing made yet -/
def y_S1 : z_S := (0, z_K, z_Ln, fun _ _ => 0, fun _ _ => 0, fun _ _ => none)
theorem y_B0 : y_B 0 y_S1 := ⟨rfl, rfl, rfl, fun _ _ _ => ⟨rfl, rfl, rfl⟩⟩
theorem y_R_s {B : z_S} {s : y_G} {c k a : Nat} (h : y_k c k s.2.2.2 = some a) : gR (y_ap B s) c k = some a := y_k_s (g := some) h
theorem y_R_n {B : z_S} {s : y_G} {c k : Nat} (h : y_k c k s.2.2.2 = none) : gR (y_ap B s) c k = gR B c k := y_k_n (g := some) h
theorem y_run_B {α : Type} {k : z_Q → Option α} {X : Nat × (Nat → Int32)} {B : z_S} {n0 d N n mi : Nat} {c : y_C} {q : y_Q} (hB : y_B n0 B) (hI : y_In c.2.2.2) (h0 : c.2.2.2.1.1 = n0) (h : y_run (y_cl N d) mi n c = some q) : zk k X d mi c.1 c.2.1 c.2.2.1 (y_ap B c.2.2.2) = k (q.1, y_ap B q.2) ∧ y_B q.2.1.2 (y_ap B q.2) := by
  obtain ⟨a1, a2, a3⟩ := y_run_ok (X := X) (y_cl_ok (N := N) hB d) hB n c q hI h0 h
  refine ⟨?_, y_ap_B (by rw [a3]; exact hB) a2⟩
  unfold zk
  rw [z_ev_of a1]
  rfl
/-- Words -/
theorem y_words {B : z_S} (hB : y_B 20 B) : z_call 70 95 [.ref 19] B = some (none, y_ap B yW_g) ∧ y_B 22 (y_ap B yW_g) := by
  have e0 : z_call (69 + 1) 95 [.ref 19] B = zk some z_X0 69 95 0 [.ref 19, z_j, z_j] [] B := y_en (by decide +kernel) (by decide +kernel)
  have es := y_self (li := []) (lr := []) hB (fun e he => by cases he) (fun e he => by cases he)
  have i0 : y_In yW_c0.2.2.2 := ⟨Nat.le_refl _, (fun e he => by cases he), (fun e he => by cases he), (fun e he => by cases he)⟩
  obtain ⟨e1, i1, n1⟩ := y_ns_ok (k := some) (X := z_X0) (N := 4000) (d := 69) hB _ yW_c0 yW_c1 i0 rfl yW_1
  obtain ⟨e2, i2, n2⟩ := y_ns_ok (k := some) (X := z_X0) (N := 4000) (d := 69) hB _ yW_c1 yW_c2 i1 n1 yW_2
  obtain ⟨e3, i3, n3⟩ := y_ns_ok (k := some) (X := z_X0) (N := 4000) (d := 69) hB _ yW_c2 yW_c3 i2 n2 yW_3
  obtain ⟨e4, i4, n4⟩ := y_ns_ok (k := some) (X := z_X0) (N := 4000) (d := 69) hB _ yW_c3 yW_c4 i3 n3 yW_4
  obtain ⟨e5, i5, n5⟩ := y_ns_ok (k := some) (X := z_X0) (N := 4000) (d := 69) hB _ yW_c4 yW_c5 i4 n4 yW_5
  obtain ⟨e6, i6, n6⟩ := y_ns_ok (k := some) (X := z_X0) (N := 4000) (d := 69) hB _ yW_c5 yW_c6 i5 n5 yW_6
  obtain ⟨e7, i7, n7⟩ := y_ns_ok (k := some) (X := z_X0) (N := 4000) (d := 69) hB _ yW_c6 yW_c7 i6 n6 yW_7
  obtain ⟨e8, i8, n8⟩ := y_ns_ok (k := some) (X := z_X0) (N := 4000) (d := 69) hB _ yW_c7 yW_c8 i7 n7 yW_8
  obtain ⟨e9, i9, n9⟩ := y_ns_ok (k := some) (X := z_X0) (N := 4000) (d := 69) hB _ yW_c8 yW_c9 i8 n8 yW_9
  obtain ⟨e10, i10, n10⟩ := y_ns_ok (k := some) (X := z_X0) (N := 4000) (d := 69) hB _ yW_c9 yW_c10 i9 n9 yW_10
  obtain ⟨e11, i11, n11⟩ := y_ns_ok (k := some) (X := z_X0) (N := 4000) (d := 69) hB _ yW_c10 yW_c11 i10 n10 yW_11
  obtain ⟨e12, i12, n12⟩ := y_ns_ok (k := some) (X := z_X0) (N := 4000) (d := 69) hB _ yW_c11 yW_c12 i11 n11 yW_12
  obtain ⟨e13, i13, n13⟩ := y_ns_ok (k := some) (X := z_X0) (N := 4000) (d := 69) hB _ yW_c12 yW_c13 i12 n12 yW_13
  obtain ⟨e14, i14, n14⟩ := y_ns_ok (k := some) (X := z_X0) (N := 4000) (d := 69) hB _ yW_c13 yW_c14 i13 n13 yW_14
  obtain ⟨e15, i15, n15⟩ := y_ns_ok (k := some) (X := z_X0) (N := 4000) (d := 69) hB _ yW_c14 yW_c15 i14 n14 yW_15
  obtain ⟨e16, i16, n16⟩ := y_ns_ok (k := some) (X := z_X0) (N := 4000) (d := 69) hB _ yW_c15 yW_c16 i15 n15 yW_16
  obtain ⟨e17, i17, n17⟩ := y_ns_ok (k := some) (X := z_X0) (N := 4000) (d := 69) hB _ yW_c16 yW_c17 i16 n16 yW_17
  obtain ⟨e18, i18, n18⟩ := y_ns_ok (k := some) (X := z_X0) (N := 4000) (d := 69) hB _ yW_c17 yW_c18 i17 n17 yW_18
  obtain ⟨e19, i19, n19⟩ := y_ns_ok (k := some) (X := z_X0) (N := 4000) (d := 69) hB _ yW_c18 yW_c19 i18 n18 yW_19
  obtain ⟨e20, i20, n20⟩ := y_ns_ok (k := some) (X := z_X0) (N := 4000) (d := 69) hB _ yW_c19 yW_c20 i19 n19 yW_20
  obtain ⟨e21, i21, n21⟩ := y_ns_ok (k := some) (X := z_X0) (N := 4000) (d := 69) hB _ yW_c20 yW_c21 i20 n20 yW_21
  obtain ⟨e22, i22, n22⟩ := y_ns_ok (k := some) (X := z_X0) (N := 4000) (d := 69) hB _ yW_c21 yW_c22 i21 n21 yW_22
  obtain ⟨e23, i23, n23⟩ := y_ns_ok (k := some) (X := z_X0) (N := 4000) (d := 69) hB _ yW_c22 yW_c23 i22 n22 yW_23
  obtain ⟨e24, i24, n24⟩ := y_ns_ok (k := some) (X := z_X0) (N := 4000) (d := 69) hB _ yW_c23 yW_c24 i23 n23 yW_24
  obtain ⟨e25, i25, n25⟩ := y_ns_ok (k := some) (X := z_X0) (N := 4000) (d := 69) hB _ yW_c24 yW_c25 i24 n24 yW_25
  obtain ⟨ef, bf⟩ := y_run_B (k := some) (X := z_X0) hB i25 n25 yW_f
  refine ⟨e0.trans ?_, bf⟩
  have e00 : zk some z_X0 69 95 0 [.ref 19, z_j, z_j] [] B = zk some z_X0 69 95 yW_c0.1 yW_c0.2.1 yW_c0.2.2.1 (y_ap B yW_c0.2.2.2) := by
    show _ = zk some z_X0 69 95 0 [.ref 19, z_j, z_j] [] (y_ap B ((20, 20), [], [], []))
    rw [es]
  exact e00.trans (e1.trans (e2.trans (e3.trans (e4.trans (e5.trans (e6.trans (e7.trans (e8.trans (e9.trans (e10.trans (e11.trans (e12.trans (e13.trans (e14.trans (e15.trans (e16.trans (e17.trans (e18.trans (e19.trans (e20.trans (e21.trans (e22.trans (e23.trans (e24.trans (e25.trans ef)))))))))))))))))))))))))
/-- Grammar -/
def y_gr (B : z_S) : z_S := y_ap (y_ap (y_ap B yG_g) yW_g) yH_g
theorem y_gram {B : z_S} (hB : y_B 19 B) : z_call 71 7 [.ref 18, .ref 10] B = some (none, y_gr B) ∧ y_B 22 (y_gr B) := by
  have e0 : z_call (70 + 1) 7 [.ref 18, .ref 10] B = zk some z_X0 70 7 0 [.ref 18, .ref 10] [] B := y_en (by decide +kernel) (by decide +kernel)
  obtain ⟨e1, b1⟩ := y_seg (k := some) (X := z_X0) yG hB (fun e he => by cases he) (fun e he => by cases he)
  obtain ⟨e2, b2⟩ := y_words (B := y_ap B yG_g) b1
  have e3 : zk some z_X0 70 7 19 [.ref 18, .ref 10] [.ref 19, .ref 19, .ref 18] (y_ap B yG_g) = zk some z_X0 70 7 22 [.ref 18, .ref 10] [.ref 19, .ref 18] (y_ap (y_ap B yG_g) yW_g) := k_ini (as := [.ref 19]) yt7_19 rfl (by decide) rfl (by decide +kernel) (by decide +kernel) (by decide +kernel) (y_rc_eq.symm.trans (by decide +kernel)) (by decide +kernel) (show z_clF 20 [.ref 18, .ref 10] [.ref 19, .ref 19, .ref 18] = true by decide +kernel) (by decide +kernel) e2
  obtain ⟨e4, b4⟩ := y_fin (k := some) (X := z_X0) yH b2
  exact ⟨e0.trans (e1.trans (e3.trans e4)), b4⟩
/-- Past -/
def y_Pj : Nat → z_S → z_S
  | 0, B => B
  | j + 1, B => y_ap (y_Pj j B) (yP_g j)
theorem yP_r : ∀ j, j < 20 → y_k 39 2 (yP_g j).2.2.2 = some 40 ∧ y_k 39 3 (yP_g j).2.2.2 = some 41 := by decide +kernel
theorem y_past_l {B : z_S} (hB : y_B 42 B) (h2 : gR B 39 2 = some 40) (h3 : gR B 39 3 = some 41) : ∀ j, j ≤ 20 → zk some z_X0 70 53 34 [.ref 39, .int (Int32.ofNat 0)] [] B = zk some z_X0 70 53 34 [.ref 39, .int (Int32.ofNat j)] [] (y_Pj j B) ∧ y_B (42 + 7 * j) (y_Pj j B) ∧ gR (y_Pj j B) 39 2 = some 40 ∧ gR (y_Pj j B) 39 3 = some 41
  | 0, _ => ⟨rfl, hB, h2, h3⟩
  | j + 1, hj => by
    obtain ⟨a1, a2, a3, a4⟩ := y_past_l hB h2 h3 j (by omega)
    obtain ⟨b1, b2⟩ := y_seg (k := some) (X := z_X0) (yP_k j (by omega)) a2 (fun e he => by
      rcases List.mem_cons.mp he with z | z
      · rw [z]; show 39 < 42 + 7 * j; omega
      · rw [List.mem_singleton.mp z]; show 39 < 42 + 7 * j; omega) (fun e he => by
      rcases List.mem_cons.mp he with z | z
      · rw [z]; exact a4
      · rw [List.mem_singleton.mp z]; exact a3)
    obtain ⟨r1, r2⟩ := yP_r j (by omega)
    refine ⟨a1.trans b1, ?_, y_R_s r1, y_R_s r2⟩
    have b2' : y_B (49 + 7 * j) (y_ap (y_Pj j B) (yP_g j)) := b2
    rw [show 42 + 7 * (j + 1) = 49 + 7 * j by omega]
    exact b2'
def y_pa (B : z_S) : z_S := y_ap (y_Pj 20 (y_ap B yP0_g)) yP9_g
theorem y_past {B : z_S} (hB : y_B 40 B) : z_call 71 53 [.ref 39] B = some (none, y_pa B) ∧ y_B 182 (y_pa B) := by
  have e0 : z_call (70 + 1) 53 [.ref 39] B = zk some z_X0 70 53 0 [.ref 39, z_j] [] B := y_en (by decide +kernel) (by decide +kernel)
  obtain ⟨e1, b1⟩ := y_seg (k := some) (X := z_X0) yP0 hB (fun e he => by cases he) (fun e he => by cases he)
  obtain ⟨e2, b2, _, _⟩ := y_past_l (B := y_ap B yP0_g) b1 (y_R_s (by decide +kernel)) (y_R_s (by decide +kernel)) 20 (Nat.le_refl _)
  obtain ⟨e4, b4⟩ := y_fin (k := some) (X := z_X0) yP9 b2
  exact ⟨e0.trans (e1.trans (e2.trans e4)), b4⟩
/-- Steps -/
def y_Sj : Nat → z_S → z_S
  | 0, B => B
  | j + 1, B => y_ap (y_Sj j B) (yS_g j)
theorem yS_r : ∀ j, j < 40 → y_k 182 2 (yS_g j).2.2.2 = some 184 := by decide +kernel
theorem y_steps_l {B : z_S} (hB : y_B 187 B) (h2 : gR B 182 2 = some 184) : ∀ j, j ≤ 40 → zk some z_X0 70 83 64 [.ref 182, .int (Int32.ofNat 0)] [] B = zk some z_X0 70 83 64 [.ref 182, .int (Int32.ofNat j)] [] (y_Sj j B) ∧ y_B (187 + 5 * j) (y_Sj j B) ∧ gR (y_Sj j B) 182 2 = some 184
  | 0, _ => ⟨rfl, hB, h2⟩
  | j + 1, hj => by
    obtain ⟨a1, a2, a3⟩ := y_steps_l hB h2 j (by omega)
    obtain ⟨b1, b2⟩ := y_seg (k := some) (X := z_X0) (yS_k j (by omega)) a2 (fun e he => by
      rw [List.mem_singleton.mp he]; show 182 < 187 + 5 * j; omega) (fun e he => by
      rw [List.mem_singleton.mp he]; exact a3)
    refine ⟨a1.trans b1, ?_, y_R_s (yS_r j (by omega))⟩
    have b2' : y_B (192 + 5 * j) (y_ap (y_Sj j B) (yS_g j)) := b2
    rw [show 187 + 5 * (j + 1) = 192 + 5 * j by omega]
    exact b2'
def y_ste (B : z_S) : z_S := y_ap (y_Sj 40 (y_ap B yS0_g)) yS9_g
theorem y_steps {B : z_S} (hB : y_B 183 B) : z_call 71 83 [.ref 182] B = some (none, y_ste B) ∧ y_B 387 (y_ste B) := by
  have e0 : z_call (70 + 1) 83 [.ref 182] B = zk some z_X0 70 83 0 [.ref 182, z_j] [] B := y_en (by decide +kernel) (by decide +kernel)
  obtain ⟨e1, b1⟩ := y_seg (k := some) (X := z_X0) yS0 hB (fun e he => by cases he) (fun e he => by cases he)
  obtain ⟨e2, b2, _⟩ := y_steps_l (B := y_ap B yS0_g) b1 (y_R_s (by decide +kernel)) 40 (Nat.le_refl _)
  obtain ⟨e4, b4⟩ := y_fin (k := some) (X := z_X0) yS9 b2
  exact ⟨e0.trans (e1.trans (e2.trans e4)), b4⟩
/-- the class -/
def y_105 (B : z_S) : z_S := y_ap (y_ste (y_ap (y_pa (y_ap (y_gr (y_ap B yA_g)) yDd_g)) yB_g)) yC_g
theorem y_class {B : z_S} (hB : y_B 1 B) : z_call 72 105 [.ref 0] B = some (none, y_105 B) ∧ y_B 396 (y_105 B) := by
  have e0 : z_call (71 + 1) 105 [.ref 0] B = zk some z_X0 71 105 0 [.ref 0] [] B := y_en (by decide +kernel) (by decide +kernel)
  obtain ⟨e1, b1⟩ := y_seg (k := some) (X := z_X0) yA hB (fun e he => by cases he) (fun e he => by cases he)
  obtain ⟨e2, b2⟩ := y_gram (B := y_ap B yA_g) b1
  have e3 : zk some z_X0 71 105 49 [.ref 0] [.ref 10, .ref 18, .ref 18, .ref 0] (y_ap B yA_g) = zk some z_X0 71 105 52 [.ref 0] [.ref 18, .ref 0] (y_gr (y_ap B yA_g)) := k_ini (as := [.ref 18, .ref 10]) yt105_49 rfl (by decide) rfl (by decide +kernel) (by decide +kernel) (by decide +kernel) (y_rc_eq.symm.trans (by decide +kernel)) (by decide +kernel) (show z_clF 19 [.ref 0] [.ref 10, .ref 18, .ref 18, .ref 0] = true by decide +kernel) (by decide +kernel) e2
  have r02 : gR (y_gr (y_ap B yA_g)) 0 2 = some 2 := (y_R_n (by decide +kernel)).trans ((y_R_n (by decide +kernel)).trans ((y_R_n (by decide +kernel)).trans (y_R_s (by decide +kernel))))
  obtain ⟨e4, b4⟩ := y_seg (k := some) (X := z_X0) yDd b2 (fun e he => by rw [List.mem_singleton.mp he]; decide) (fun e he => by rw [List.mem_singleton.mp he]; exact r02)
  obtain ⟨e5, b5⟩ := y_past b4
  have e6 : zk some z_X0 71 105 108 [.ref 0] [.ref 39, .ref 39, .ref 0] (y_ap (y_gr (y_ap B yA_g)) yDd_g) = zk some z_X0 71 105 111 [.ref 0] [.ref 39, .ref 0] (y_pa (y_ap (y_gr (y_ap B yA_g)) yDd_g)) := k_ini (as := [.ref 39]) yt105_108 rfl (by decide) rfl (by decide +kernel) (by decide +kernel) (by decide +kernel) (y_rc_eq.symm.trans (by decide +kernel)) (by decide +kernel) (show z_clF 40 [.ref 0] [.ref 39, .ref 39, .ref 0] = true by decide +kernel) (by decide +kernel) e5
  obtain ⟨e7, b7⟩ := y_seg (k := some) (X := z_X0) yB b5 (fun e he => by cases he) (fun e he => by cases he)
  obtain ⟨e8, b8⟩ := y_steps b7
  have e9 : zk some z_X0 71 105 119 [.ref 0] [.ref 182, .ref 182, .ref 0] (y_ap (y_pa (y_ap (y_gr (y_ap B yA_g)) yDd_g)) yB_g) = zk some z_X0 71 105 122 [.ref 0] [.ref 182, .ref 0] (y_ste (y_ap (y_pa (y_ap (y_gr (y_ap B yA_g)) yDd_g)) yB_g)) := k_ini (as := [.ref 182]) yt105_119 rfl (by decide) rfl (by decide +kernel) (by decide +kernel) (by decide +kernel) (y_rc_eq.symm.trans (by decide +kernel)) (by decide +kernel) (show z_clF 183 [.ref 0] [.ref 182, .ref 182, .ref 0] = true by decide +kernel) (by decide +kernel) e8
  obtain ⟨e10, b10⟩ := y_fin (k := some) (X := z_X0) yC b8
  exact ⟨e0.trans (e1.trans (e3.trans (e4.trans (e6.trans (e7.trans (e9.trans e10)))))), b10⟩
theorem y_model {B : z_S} (hB : y_B 397 B) : z_call 72 154 [.ref 396] B = some (none, y_ap B yM_g) ∧ y_B 442 (y_ap B yM_g) := by
  have e0 : z_call (71 + 1) 154 [.ref 396] B = zk some z_X0 71 154 0 [.ref 396, z_j] [] B := y_en (by decide +kernel) (by decide +kernel)
  obtain ⟨e1, b1⟩ := y_fin (k := some) (X := z_X0) yM hB
  exact ⟨e0.trans e1, b1⟩
/-- the store behind both constructors -/
def y_T : z_S := y_ap (y_ap (y_ap (y_105 (y_ap y_S1 yL0_g)) yL1_g) yM_g) yL2_g
theorem y_start {X : Nat × (Nat → Int32)} : zk some X 72 282 0 [.retAddr 1, z_j, z_j, z_j] [] y_S1 = zk some X 72 282 18 [.retAddr 1, .ref 0, .ref 396, .int (0 : Int32)] [] y_T ∧ y_B 442 y_T := by
  obtain ⟨e1, b1⟩ := y_seg (k := some) (X := X) yL0 y_B0 (fun e he => by cases he) (fun e he => by cases he)
  obtain ⟨e2, b2⟩ := y_class (B := y_ap y_S1 yL0_g) b1
  have e3 : zk some X 72 282 4 [.retAddr 1, z_j, z_j, z_j] [.ref 0, .ref 0] (y_ap y_S1 yL0_g) = zk some X 72 282 7 [.retAddr 1, z_j, z_j, z_j] [.ref 0] (y_105 (y_ap y_S1 yL0_g)) := k_ini (as := [.ref 0]) t282_4 rfl (by decide) rfl (by decide +kernel) (by decide +kernel) (by decide +kernel) (y_rc_eq.symm.trans (by decide +kernel)) (by decide +kernel) (show z_clF 1 [.retAddr 1, z_j, z_j, z_j] [.ref 0, .ref 0] = true by decide +kernel) (by decide +kernel) e2
  obtain ⟨e4, b4⟩ := y_seg (k := some) (X := X) yL1 b2 (fun e he => by cases he) (fun e he => by cases he)
  obtain ⟨e5, b5⟩ := y_model b4
  have e6 : zk some X 72 282 12 [.retAddr 1, .ref 0, z_j, z_j] [.ref 396, .ref 396] (y_ap (y_105 (y_ap y_S1 yL0_g)) yL1_g) = zk some X 72 282 15 [.retAddr 1, .ref 0, z_j, z_j] [.ref 396] (y_ap (y_ap (y_105 (y_ap y_S1 yL0_g)) yL1_g) yM_g) := k_ini (as := [.ref 396]) t282_12 rfl (by decide) rfl (by decide +kernel) (by decide +kernel) (by decide +kernel) (y_rc_eq.symm.trans (by decide +kernel)) (by decide +kernel) (show z_clF 397 [.retAddr 1, .ref 0, z_j, z_j] [.ref 396, .ref 396] = true by decide +kernel) (by decide +kernel) e5
  obtain ⟨e7, b7⟩ := y_seg (k := some) (X := X) yL2 b5 (fun e he => by cases he) (fun e he => by cases he)
  exact ⟨e1.trans (e3.trans (e4.trans (e6.trans e7))), b7⟩
end IK
