/-! THE CONSTRUCTORS: what both hold at the start; the law. -/
section IL
def y_cell (c k : Nat) : Bool := (!z_isF c k || decide (gR y_T c k = some (z_F c k))) && (!z_isM c k || (match gR y_T c k with
  | some p => decide (z_ty (z_K c) k = 4 + z_K p)
  | none => false))
def y_row (c : Nat) : Bool := (List.range (if z_K c < 13 then z_nf (z_K c) else if z_K c = 23 ∨ z_K c = 24 then z_Ln c else 0)).all (y_cell c)
theorem y_r0 : ((List.range 56).all fun i => y_row i) = true := by decide +kernel
theorem y_r1 : ((List.range 56).all fun i => y_row (56 + i)) = true := by decide +kernel
theorem y_r2 : ((List.range 56).all fun i => y_row (112 + i)) = true := by decide +kernel
theorem y_r3 : ((List.range 56).all fun i => y_row (168 + i)) = true := by decide +kernel
theorem y_r4 : ((List.range 56).all fun i => y_row (224 + i)) = true := by decide +kernel
theorem y_r5 : ((List.range 56).all fun i => y_row (280 + i)) = true := by decide +kernel
theorem y_r6 : ((List.range 56).all fun i => y_row (336 + i)) = true := by decide +kernel
theorem y_r7 : ((List.range 56).all fun i => y_row (392 + i)) = true := by decide +kernel
theorem y_rows {c : Nat} (h : c < 442) : y_row c = true := by
  have g : ∀ (a : Nat), ((List.range 56).all fun i => y_row (a + i)) = true → a ≤ c → c < a + 56 → y_row c = true := fun a ha h1 h2 => by
    have := List.all_eq_true.mp ha (c - a) (List.mem_range.mpr (by omega))
    rw [show a + (c - a) = c by omega] at this
    exact this
  have g0 : c < 56 → y_row c = true := fun h1 => List.all_eq_true.mp y_r0 c (List.mem_range.mpr h1)
  by_cases c0 : c < 56
  · exact g0 c0
  by_cases c1 : c < 112
  · exact g 56 y_r1 (by omega) (by omega)
  by_cases c2 : c < 168
  · exact g 112 y_r2 (by omega) (by omega)
  by_cases c3 : c < 224
  · exact g 168 y_r3 (by omega) (by omega)
  by_cases c4 : c < 280
  · exact g 224 y_r4 (by omega) (by omega)
  by_cases c5 : c < 336
  · exact g 280 y_r5 (by omega) (by omega)
  by_cases c6 : c < 392
  · exact g 336 y_r6 (by omega) (by omega)
  · exact g 392 y_r7 (by omega) (by omega)
theorem y_TW : z_W y_T := by
  have hB := (y_start (X := z_X0)).2
  refine ⟨hB.1, hB.2.1, hB.2.2.1, fun c k hF => ?_, fun c k hM => ?_⟩
  · have hF' := of_decide_eq_true hF
    have hc : c < 442 := z_K_lt (by omega)
    have hr := List.all_eq_true.mp (y_rows hc) k (List.mem_range.mpr (by
      rcases hF' with z | z
      · rw [if_pos z.1]; exact z.2.1
      · rw [if_neg (by omega), if_pos z.1]; exact z.2))
    unfold y_cell at hr
    rw [Bool.and_eq_true, hF] at hr
    have h1 := hr.1
    rw [Bool.not_true, Bool.false_or] at h1
    exact of_decide_eq_true h1
  · have hM' := of_decide_eq_true hM
    have hc : c < 442 := z_K_lt (by omega)
    have hr := List.all_eq_true.mp (y_rows hc) k (List.mem_range.mpr (by rw [if_pos hM'.1]; exact hM'.2.1))
    unfold y_cell at hr
    rw [Bool.and_eq_true, hM] at hr
    have h1 := hr.2
    rw [Bool.not_true, Bool.false_or] at h1
    cases hg : gR y_T c k with
    | none => rw [hg] at h1; cases h1
    | some p =>
      rw [hg] at h1
      exact ⟨p, rfl, of_decide_eq_true h1⟩
def a_P0 : q_Pl := (0, 0, 0, 0, 0, 0, 0, fun _ => 0, fun _ => 0, fun _ => [], [], fun _ => [])
def a_0 : q_A := ([], a_P0, q_no 0, [], [], [], 1, (0, none), fun _ => 0, [])
theorem a_P0_ok : p_Wf a_P0 := ⟨Nat.zero_le _, Nat.zero_le _, Nat.zero_le _, Nat.zero_le _, Nat.zero_le _, Nat.zero_le _, by decide, fun i hi => absurd hi (Nat.not_lt_zero _), Nat.zero_le _, (fun c hc => by cases hc), List.nodup_nil, Or.inl rfl, Or.inl rfl, Or.inl rfl, fun i hi => absurd hi (Nat.not_lt_zero _)⟩
theorem a_0_ok : aOk a_0 := ⟨a_P0_ok, q_no_G (P := a_P0) a_P0_ok, Nat.zero_le _, (fun x hx => by cases hx), (fun x hx => by cases hx), ⟨Nat.zero_le _, (fun x hx => by cases hx)⟩, by decide, ⟨Nat.zero_le _, (fun x hx => by cases hx)⟩, Nat.zero_le _, fun _ => ⟨rfl, rfl, rfl, rfl, rfl, rfl, rfl, rfl, rfl⟩⟩
theorem y_c1 : gI y_T 0 1 = nI 0 ∧ gI y_T 0 14 = nI 1 ∧ gI y_T 0 15 = nI 0 ∧ gI y_T 0 16 = -nI 1 ∧ gI y_T 37 0 = nI 0 ∧ gI y_T 37 1 = nI 0 ∧ gI y_T 39 0 = nI 0 ∧ gI y_T 39 1 = nI 0 ∧ gI y_T 182 0 = nI 0 ∧ gI y_T 393 0 = nI 0 := by decide +kernel
theorem y_c2 : ∀ k, k < 8 → gI y_T 2 k = nI 0 := by decide +kernel
theorem y_c3 : ∀ w, w < 3 → gI y_T 8 w = nI 0 ∧ gI y_T 9 w = nI 0 := by decide +kernel
theorem y_c4 : ∀ k, k < 5 → gI y_T 27 k = nI 0 := by decide +kernel
theorem y_c5 : ∀ r, r < 16 → gI y_T 28 r = -nI 1 ∧ gI y_T 29 r = nI 255 ∧ gI y_T 30 r = nI 0 := by decide +kernel
theorem y_c6 : ∀ j, j < 6 → gI y_T 395 j = nI 0 ∧ gI y_T 419 j = nI 0 := by decide +kernel
theorem y_c7 : ∀ i, i < 24 → gI y_T 20 i = nI (q_own.getD i 0) := by decide +kernel
theorem y_c8 : gP y_T 0 2 = 2 ∧ gP y_T 22 0 = 2 ∧ gP y_T 0 3 = 10 := by decide +kernel
theorem y_m1 : gI y_T 396 1 = nI 0 ∧ gI y_T 396 13 = nI 0 ∧ gI y_T 396 42 = bI false ∧ gI y_T 396 56 = nI 0 ∧ gI y_T 396 54 = nI 0 ∧ gI y_T 396 53 = nI 0 ∧ gI y_T 396 63 = nI 0 ∧ gI y_T 396 10 = nI 0 ∧ gI y_T 396 11 = -nI 1 ∧ gI y_T 396 71 = nI 0 ∧ gL y_T 396 55 = lN 1 := by decide +kernel
theorem y_m2 : gI y_T 398 0 = nI 0 ∧ gI y_T 399 0 = nI 0 ∧ gI y_T 400 0 = nI 0 ∧ gI y_T 401 0 = nI 0 ∧ gI y_T 402 0 = nI 0 ∧ gI y_T 405 0 = nI 0 ∧ gI y_T 407 0 = nI 0 ∧ gI y_T 420 0 = nI 0 ∧ gI y_T 421 0 = nI 0 ∧ gI y_T 422 0 = nI 0 ∧ gI y_T 425 0 = nI 0 ∧ gI y_T 427 0 = nI 0 := by decide +kernel
theorem y_m3 : ∀ w, w < 3 → gI y_T 408 w = -nI 1 := by decide +kernel
theorem y_m4 : ∀ r, r < 16 → gI y_T 423 r = nI 0 ∧ gI y_T 424 r = nI 0 := by decide +kernel
theorem y_cA : cA y_T a_0 := by
  obtain ⟨c1, c2, c3, c4, c5, c6, c7, c8, c9, c10⟩ := y_c1
  refine ⟨y_TW, ⟨c1, fun i hi => absurd hi (Nat.not_lt_zero _)⟩, ⟨2, Or.inl rfl, y_c8.1, y_c8.2.1, y_c8.2.2, ?_⟩, ?_, ⟨Nat.zero_le _, c5, 0, by decide, c6, fun i hi => absurd hi (Nat.not_lt_zero _)⟩, ⟨Nat.zero_le _, c7, 0, by decide, c8, fun i hi => absurd hi (Nat.not_lt_zero _)⟩, ⟨c9, fun i hi => absurd hi (Nat.not_lt_zero _)⟩, ⟨c2, c3, c4⟩, fun j hj => (y_c6 j hj).1, ⟨c10, fun i hi => absurd hi (Nat.not_lt_zero _)⟩, y_c7⟩
  · refine ⟨y_c2 0 (by decide), y_c2 1 (by decide), y_c2 2 (by decide), y_c2 3 (by decide), y_c2 4 (by decide), y_c2 5 (by decide), y_c2 6 (by decide), y_c2 7 (by decide), fun i hi => absurd hi (Nat.not_lt_zero _), fun i hi => absurd hi (Nat.not_lt_zero _), fun i hi => absurd hi (Nat.not_lt_zero _), fun i hi => absurd hi (Nat.not_lt_zero _), fun w hw => ⟨0, (show 0 + ([] : List Nat).length ≤ 1600 by decide), (y_c3 w hw).1, (y_c3 w hw).2, (fun i c z => by cases z)⟩⟩
  · exact ⟨y_c4 0 (by decide), y_c4 1 (by decide), y_c4 2 (by decide), y_c4 3 (by decide), y_c4 4 (by decide), fun r hr => (y_c5 r hr).1, fun k hk _ => (y_c5 k hk).2.1, fun k hk _ => (y_c5 k hk).2.2, fun i hi => absurd hi (Nat.not_lt_zero _)⟩
theorem y_mA : mA y_T a_0 := by
  obtain ⟨c1, c2, c3, c4, c5, c6, c7, c8, c9, c10, c11⟩ := y_m1
  obtain ⟨d1, d2, d3, d4, d5, d6, d7, d8, d9, d10, d11, d12⟩ := y_m2
  refine ⟨⟨c1, fun i hi => absurd hi (Nat.not_lt_zero _)⟩, ⟨0, y_TW, by decide, c2, ⟨d1, d2, d3, d4, d5, d6, d7, fun i hi => absurd hi (Nat.not_lt_zero _), fun i hi => absurd hi (Nat.not_lt_zero _), fun i hi => absurd hi (Nat.not_lt_zero _), fun i hi => absurd hi (Nat.not_lt_zero _), fun w hw => Or.inl ⟨rfl, ?_⟩⟩, a_P0_ok⟩, c3, c4, ⟨d8, d9, d10, d11, fun r hr => ?_, fun k hk => ?_, fun i hi => absurd hi (Nat.not_lt_zero _)⟩, ⟨Nat.zero_le _, d12, fun i hi => absurd hi (Nat.not_lt_zero _)⟩, ⟨Nat.zero_le _, c5, 0, by decide, c6, fun i hi => absurd hi (Nat.not_lt_zero _)⟩, ⟨c7, fun i hi => absurd hi (Nat.not_lt_zero _)⟩, ⟨c11, c8, c9⟩, fun j hj => (y_c6 j hj).2, ⟨c10, fun i hi => absurd hi (Nat.not_lt_zero _)⟩⟩
  · rw [show 3 * 0 + w = w by omega]; exact y_m3 w hw
  · rw [show 16 * 0 + r = r by omega]; exact (y_m4 r hr).1
  · rw [show 16 * 0 + k = k by omega]; exact (y_m4 k hk).2
/-- the law answers 1 -/
theorem y_law {L : Nat} {xs : Nat → Int32} (hL : L ≤ 3072) : ∃ S', z_W S' ∧ z_ev (L + 1, xs) 72 282 (0, [.retAddr 1, z_j, z_j, z_j], [], y_S1) = some (some (.int 1), S') := by
  obtain ⟨S', hw, e⟩ := law_loop (d := 0) (xs := xs) (L / 6 + 1) 0 a_0 y_T hL (Nat.zero_le _) (by omega) ⟨y_cA, y_mA, a_0_ok⟩
  have e1 := (y_start (X := (L + 1, xs))).1.trans e
  unfold zk at e1
  obtain ⟨q, h1, h2⟩ := Option.bind_eq_some_iff.mp e1
  cases h2
  exact ⟨S', hw, h1⟩
end IL
