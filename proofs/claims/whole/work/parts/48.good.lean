/-! A RIGHT STATE, and what keeps it right. -/
def q_Gd (P : q_Pl) (s : q_St) : Prop :=
  q_h s < 2 ^ p_R P ∧ q_t s < 2 ^ p_R P ∧ (∀ r, (q_t s).testBit r = (q_s s r).isSome) ∧
  (∀ r k, q_s s r = some k → k < p_L P ∧ (r = p_f P k ∨ r = p_o P k) ∧ q_w s k = r) ∧
  (∀ k, q_w s k < 16 → q_s s (q_w s k) = some k) ∧ (∀ k, q_w s k = 254 ↔ k ∈ q_l s) ∧ (∀ k, q_w s k < 16 ∨ q_w s k = 254 ∨ q_w s k = 255) ∧
  (q_l s).Nodup ∧ (∀ k, k ∈ q_l s → k < p_L P) ∧ (q_l s).length ≤ p_B P ∧ (∀ k, q_y s k ≤ 99 ∧ (16 ≤ q_w s k → q_y s k = 0)) ∧
  (∀ r, (q_h s).testBit r = true → q_s s r = none) ∧ q_n s ≤ 1000 ∧ q_p s ≤ 999999
theorem q_p2 {R : Nat} (h : R ≤ 16) : 2 ^ R ≤ 65536 := by
  have := Nat.pow_le_pow_right (n := 2) (i := R) (j := 16) (by decide) h
  omega
theorem q_tb {x r : Nat} (R : Nat) (h : x < 2 ^ R) (hr : R ≤ r) : x.testBit r = false := Nat.testBit_lt_two_pow (Nat.lt_of_lt_of_le h (Nat.pow_le_pow_right (by decide) hr))
section QG
variable {P : q_Pl} {s : q_St}
theorem q_Gd.Bd (h : q_Gd P s) (hP : p_Wf P) : q_Bd s := by
  obtain ⟨g1, g2, g3, g4, g5, g6, g7, g8, g9, g10, g11, g12, g13, g14⟩ := h
  have hR := q_p2 hP.1
  have hB := hP.2.1
  have hL := hP.2.2.2.2.1
  refine ⟨by omega, by omega, by omega, g13, g14, fun r k q => ?_, fun k => ?_, fun k => (g11 k).1, fun k q => ?_⟩
  · have := (g4 r k q).1; omega
  · rcases g7 k with q | q | q <;> omega
  · have := g9 k q; omega
theorem q_Gd.sl (h : q_Gd P s) (hP : p_Wf P) {r k : Nat} (hr : q_s s r = some k) : r < p_R P ∧ k < p_L P ∧ q_w s k = r ∧ (q_h s).testBit r = false := by
  obtain ⟨g1, g2, g3, g4, g5, g6, g7, g8, g9, g10, g11, g12, g13, g14⟩ := h
  obtain ⟨a, b, c⟩ := g4 r k hr
  have f := hP.2.2.2.2.2.2.2.1 k a
  refine ⟨?_, a, c, ?_⟩
  · rcases b with b | b <;> omega
  · cases hb : (q_h s).testBit r with
    | false => rfl
    | true => rw [g12 r hb] at hr; cases hr
theorem q_free_iff (h : q_Gd P s) (r : Nat) : q_free s r = true ↔ (q_h s).testBit r = false ∧ q_s s r = none := by
  unfold q_free
  rw [Nat.testBit_or, h.2.2.1 r]
  cases (q_h s).testBit r <;> cases q_s s r <;> simp
theorem q_pc_le_R {x R : Nat} (h : x < 2 ^ R) (hR : R ≤ 16) : q_pc x ≤ R := by
  have h1 : q_pc x = fb_ct (fun i => x.testBit i) (R + (16 - R)) := by unfold q_pc; rw [show R + (16 - R) = 16 by omega]
  rw [h1, fb_ct_split]
  have h2 : fb_ct (fun k => x.testBit (R + k)) (16 - R) = 0 := fb_ct_zero.mpr fun k _ => q_tb R h (by omega)
  have h3 := fb_ct_le (fun i => x.testBit i) R
  omega
theorem q_Gd.pc (h : q_Gd P s) (hP : p_Wf P) : q_pc (q_h s ||| q_t s) ≤ p_R P := q_pc_le_R (Nat.or_lt_two_pow h.1 h.2.1) hP.1
theorem q_Gd.bed (h : q_Gd P s) (hP : p_Wf P) {k r : Nat} (hk : k < p_L P) (hw : q_w s k = 255) (hr : r = p_f P k ∨ r = p_o P k) (hf : q_free s r = true) : q_Gd P (q_bed s k r) := by
  obtain ⟨f1, f2⟩ := (q_free_iff h r).mp hf
  obtain ⟨g1, g2, g3, g4, g5, g6, g7, g8, g9, g10, g11, g12, g13, g14⟩ := h
  have ff := hP.2.2.2.2.2.2.2.1 k hk
  have hrR : r < p_R P := by rcases hr with q | q <;> omega
  have hR := hP.1
  have hnb : k ∉ q_l s := fun q => by have := (g6 k).mpr q; omega
  refine ⟨g1, Nat.or_lt_two_pow g2 (Nat.pow_lt_pow_right (by decide) hrR), fun j => ?_, fun j i hj => ?_, fun j hj => ?_, fun j => ?_, fun j => ?_, g8, g9, g10, fun j => ?_, fun j hj => ?_, g13, g14⟩
  · show (q_t s ||| 2 ^ r).testBit j = (q_u (q_s s) r (some k) j).isSome
    rw [fb_bit_set, g3 j]
    by_cases q : j = r
    · rw [q, q_us]; simp
    · rw [q_un q]; simp [q]
  · show i < p_L P ∧ (j = p_f P i ∨ j = p_o P i) ∧ q_u (q_w s) k r i = j
    have hj2 : q_u (q_s s) r (some k) j = some i := hj
    by_cases q : j = r
    · rw [q, q_us] at hj2
      cases hj2
      exact ⟨hk, by rw [q]; exact hr, by rw [q_us, q]⟩
    · rw [q_un q] at hj2
      obtain ⟨a, b, c⟩ := g4 j i hj2
      have hne : i ≠ k := fun z => by
        rw [z] at c
        rw [hw] at c
        have := hP.2.2.2.2.2.2.2.1 i a
        rcases b with b | b <;> omega
      exact ⟨a, b, by rw [q_un hne]; exact c⟩
  · have hj2 : q_u (q_w s) k r j < 16 := hj
    show q_u (q_s s) r (some k) (q_u (q_w s) k r j) = some j
    by_cases q : j = k
    · rw [q, q_us, q_us]
    · rw [q_un q] at hj2 ⊢
      have a := g5 j hj2
      have hne : q_w s j ≠ r := fun z => by rw [z, f2] at a; cases a
      rw [q_un hne]; exact a
  · show q_u (q_w s) k r j = 254 ↔ j ∈ q_l s
    by_cases q : j = k
    · rw [q, q_us]
      exact ⟨fun z => by omega, fun z => absurd z hnb⟩
    · rw [q_un q]; exact g6 j
  · show q_u (q_w s) k r j < 16 ∨ q_u (q_w s) k r j = 254 ∨ q_u (q_w s) k r j = 255
    by_cases q : j = k
    · rw [q, q_us]; exact Or.inl (by omega)
    · rw [q_un q]; exact g7 j
  · show q_u (q_y s) k 0 j ≤ 99 ∧ (16 ≤ q_u (q_w s) k r j → q_u (q_y s) k 0 j = 0)
    by_cases q : j = k
    · rw [q, q_us]; exact ⟨by omega, fun _ => rfl⟩
    · rw [q_un q, q_un q]; exact g11 j
  · show q_u (q_s s) r (some k) j = none
    have hj2 : (q_h s).testBit j = true := hj
    have hne : j ≠ r := fun z => by rw [z, f1] at hj2; cases hj2
    rw [q_un hne]; exact g12 j hj2
theorem q_Gd.put (h : q_Gd P s) (hP : p_Wf P) {g r v : Nat} (hk : g < p_L P) (hw : q_w s g = 255) (hr : r = p_f P g ∨ r = p_o P g) (hv : q_s s r = some v) : q_Gd P (q_out (q_bed s g r) v) ∧ v < p_L P ∧ v ≠ g := by
  obtain ⟨c1, c2, c3, c4⟩ := h.sl hP hv
  obtain ⟨g1, g2, g3, g4, g5, g6, g7, g8, g9, g10, g11, g12, g13, g14⟩ := h
  have hR := hP.1
  have hne : v ≠ g := fun z => by rw [z, hw] at c3; omega
  have hgl : g ∉ q_l s := fun q => by have := (g6 g).mpr q; omega
  have hvl : v ∉ q_l s := fun q => by have := (g6 v).mpr q; omega
  refine ⟨⟨g1, Nat.or_lt_two_pow g2 (Nat.pow_lt_pow_right (by decide) c1), fun j => ?_, fun j i hj => ?_, fun j hj => ?_, fun j => ?_, fun j => ?_, g8, g9, g10, fun j => ?_, fun j hj => ?_, g13, g14⟩, c2, hne⟩
  · show (q_t s ||| 2 ^ r).testBit j = (q_u (q_s s) r (some g) j).isSome
    rw [fb_bit_set, g3 j]
    by_cases q : j = r
    · rw [q, q_us]; simp
    · rw [q_un q]; simp [q]
  · show i < p_L P ∧ (j = p_f P i ∨ j = p_o P i) ∧ q_u (q_u (q_w s) g r) v 255 i = j
    have hj2 : q_u (q_s s) r (some g) j = some i := hj
    by_cases q : j = r
    · rw [q, q_us] at hj2
      cases hj2
      exact ⟨hk, by rw [q]; exact hr, by rw [q_un hne.symm, q_us, q]⟩
    · rw [q_un q] at hj2
      obtain ⟨a, b, c⟩ := g4 j i hj2
      have hne1 : i ≠ g := fun z => by
        rw [z] at c
        rw [hw] at c
        have := hP.2.2.2.2.2.2.2.1 i a
        rcases b with b | b <;> omega
      have hne2 : i ≠ v := fun z => by rw [z, c3] at c; exact q c.symm
      exact ⟨a, b, by rw [q_un hne2, q_un hne1]; exact c⟩
  · have hj2 : q_u (q_u (q_w s) g r) v 255 j < 16 := hj
    show q_u (q_s s) r (some g) (q_u (q_u (q_w s) g r) v 255 j) = some j
    by_cases q : j = v
    · rw [q, q_us] at hj2; omega
    · rw [q_un q] at hj2 ⊢
      by_cases q2 : j = g
      · rw [q2, q_us, q_us]
      · rw [q_un q2] at hj2 ⊢
        have a := g5 j hj2
        have hne3 : q_w s j ≠ r := fun z => by rw [z, hv] at a; cases a; exact q rfl
        rw [q_un hne3]; exact a
  · show q_u (q_u (q_w s) g r) v 255 j = 254 ↔ j ∈ q_l s
    by_cases q : j = v
    · rw [q, q_us]
      exact ⟨fun z => by omega, fun z => absurd z hvl⟩
    · rw [q_un q]
      by_cases q2 : j = g
      · rw [q2, q_us]
        exact ⟨fun z => by omega, fun z => absurd z hgl⟩
      · rw [q_un q2]; exact g6 j
  · show q_u (q_u (q_w s) g r) v 255 j < 16 ∨ q_u (q_u (q_w s) g r) v 255 j = 254 ∨ q_u (q_u (q_w s) g r) v 255 j = 255
    by_cases q : j = v
    · rw [q, q_us]; exact Or.inr (Or.inr rfl)
    · rw [q_un q]
      by_cases q2 : j = g
      · rw [q2, q_us]; exact Or.inl (by omega)
      · rw [q_un q2]; exact g7 j
  · show q_u (q_u (q_y s) g 0) v 0 j ≤ 99 ∧ (16 ≤ q_u (q_u (q_w s) g r) v 255 j → q_u (q_u (q_y s) g 0) v 0 j = 0)
    by_cases q : j = v
    · rw [q, q_us]; exact ⟨by omega, fun _ => rfl⟩
    · rw [q_un q, q_un q]
      by_cases q2 : j = g
      · rw [q2, q_us]; exact ⟨by omega, fun _ => rfl⟩
      · rw [q_un q2, q_un q2]; exact g11 j
  · show q_u (q_s s) r (some g) j = none
    have hj2 : (q_h s).testBit j = true := hj
    have hne4 : j ≠ r := fun z => by rw [z, c4] at hj2; cases hj2
    rw [q_un hne4]; exact g12 j hj2
theorem q_out_id {k : Nat} (h : q_Gd P s) (hw : q_w s k = 255) : q_out s k = s := by
  have hy := (h.2.2.2.2.2.2.2.2.2.2.1 k).2 (by omega)
  have e1 : q_u (q_w s) k 255 = q_w s := by
    funext j
    by_cases q : j = k
    · rw [q, q_us, hw]
    · rw [q_un q]
  have e2 : q_u (q_y s) k 0 = q_y s := by
    funext j
    by_cases q : j = k
    · rw [q, q_us, hy]
    · rw [q_un q]
  unfold q_out
  rw [e1, e2]
  rfl
theorem q_Gd.ben (h : q_Gd P s) (hP : p_Wf P) {k : Nat} (hk : k < p_L P) (hw : q_w s k = 255) : q_Gd P (q_ben (p_B P) s k) := by
  unfold q_ben
  split
  · rename_i hc
    obtain ⟨g1, g2, g3, g4, g5, g6, g7, g8, g9, g10, g11, g12, g13, g14⟩ := h
    have hkl : k ∉ q_l s := fun q => by have := (g6 k).mpr q; omega
    refine ⟨g1, g2, g3, fun j i hj => ?_, fun j hj => ?_, fun j => ?_, fun j => ?_, ?_, fun j hj => ?_, ?_, fun j => ?_, g12, g13, g14⟩
    · obtain ⟨a, b, c⟩ := g4 j i hj
      refine ⟨a, b, ?_⟩
      show q_u (q_w s) k 254 i = j
      have hne : i ≠ k := fun z => by
        have := hP.2.2.2.2.2.2.2.1 i a
        have := hP.1
        rw [z, hw] at c
        rcases b with b | b <;> omega
      rw [q_un hne]; exact c
    · have hj2 : q_u (q_w s) k 254 j < 16 := hj
      show q_s s (q_u (q_w s) k 254 j) = some j
      by_cases q : j = k
      · rw [q, q_us] at hj2; omega
      · rw [q_un q] at hj2 ⊢; exact g5 j hj2
    · show q_u (q_w s) k 254 j = 254 ↔ j ∈ q_l s ++ [k]
      by_cases q : j = k
      · rw [q, q_us]; simp
      · rw [q_un q, g6 j]; simp [q]
    · show q_u (q_w s) k 254 j < 16 ∨ q_u (q_w s) k 254 j = 254 ∨ q_u (q_w s) k 254 j = 255
      by_cases q : j = k
      · rw [q, q_us]; exact Or.inr (Or.inl rfl)
      · rw [q_un q]; exact g7 j
    · show (q_l s ++ [k]).Nodup
      rw [List.nodup_append]
      refine ⟨g8, by simp, fun a ha b hb => ?_⟩
      rw [List.mem_singleton] at hb
      rw [hb]
      exact fun z => hkl (z ▸ ha)
    · have hj2 : j ∈ q_l s ++ [k] := hj
      rcases List.mem_append.mp hj2 with q | q
      · exact g9 j q
      · rw [List.mem_singleton] at q; omega
    · show (q_l s ++ [k]).length ≤ p_B P
      rw [List.length_append, List.length_singleton]; omega
    · show q_u (q_y s) k 0 j ≤ 99 ∧ (16 ≤ q_u (q_w s) k 254 j → q_u (q_y s) k 0 j = 0)
      by_cases q : j = k
      · rw [q, q_us]; exact ⟨by omega, fun _ => rfl⟩
      · rw [q_un q, q_un q]; exact g11 j
  · rw [q_out_id h hw]; exact h
theorem q_Gd.away (h : q_Gd P s) (hP : p_Wf P) (k : Nat) : q_Gd P (q_away s k) ∧ q_w (q_away s k) k = 255 := by
  obtain ⟨g1, g2, g3, g4, g5, g6, g7, g8, g9, g10, g11, g12, g13, g14⟩ := h
  have hR := hP.1
  have hfR : ∀ {j i : Nat}, q_s s j = some i → j < p_R P := fun {j i} hj => by
    obtain ⟨a, b, c⟩ := g4 j i hj
    have := hP.2.2.2.2.2.2.2.1 i a
    rcases b with b | b <;> omega
  unfold q_away
  split
  · rename_i hc
    have a5 := g5 k hc
    refine ⟨⟨g1, ?_, fun j => ?_, fun j i hj => ?_, fun j hj => ?_, fun j => ?_, fun j => ?_, g8, g9, g10, fun j => ?_, fun j hj => ?_, g13, g14⟩, q_us _ _ _⟩
    · show q_cl (q_t s) (2 ^ q_w s k) < 2 ^ p_R P
      unfold q_cl
      exact Nat.xor_lt_two_pow g2 (Nat.lt_of_le_of_lt Nat.and_le_left g2)
    · show (q_cl (q_t s) (2 ^ q_w s k)).testBit j = (q_u (q_s s) (q_w s k) none j).isSome
      rw [q_cl_bit, g3 j, Nat.testBit_two_pow]
      by_cases q : j = q_w s k
      · rw [q, q_us]; simp
      · rw [q_un q]; simp [Ne.symm q]
    · show i < p_L P ∧ (j = p_f P i ∨ j = p_o P i) ∧ q_u (q_w s) k 255 i = j
      have hj2 : q_u (q_s s) (q_w s k) none j = some i := hj
      by_cases q : j = q_w s k
      · rw [q, q_us] at hj2; cases hj2
      · rw [q_un q] at hj2
        obtain ⟨a, b, c⟩ := g4 j i hj2
        have hne : i ≠ k := fun z => by rw [z] at c; exact q c.symm
        exact ⟨a, b, by rw [q_un hne]; exact c⟩
    · have hj2 : q_u (q_w s) k 255 j < 16 := hj
      show q_u (q_s s) (q_w s k) none (q_u (q_w s) k 255 j) = some j
      by_cases q : j = k
      · rw [q, q_us] at hj2; omega
      · rw [q_un q] at hj2 ⊢
        have a := g5 j hj2
        have hne : q_w s j ≠ q_w s k := fun z => by rw [z, a5] at a; cases a; exact q rfl
        rw [q_un hne]; exact a
    · show q_u (q_w s) k 255 j = 254 ↔ j ∈ q_l s
      by_cases q : j = k
      · rw [q, q_us]
        exact ⟨fun z => by omega, fun z => by have := (g6 k).mpr z; omega⟩
      · rw [q_un q]; exact g6 j
    · show q_u (q_w s) k 255 j < 16 ∨ q_u (q_w s) k 255 j = 254 ∨ q_u (q_w s) k 255 j = 255
      by_cases q : j = k
      · rw [q, q_us]; exact Or.inr (Or.inr rfl)
      · rw [q_un q]; exact g7 j
    · show q_u (q_y s) k 0 j ≤ 99 ∧ (16 ≤ q_u (q_w s) k 255 j → q_u (q_y s) k 0 j = 0)
      by_cases q : j = k
      · rw [q, q_us]; exact ⟨by omega, fun _ => rfl⟩
      · rw [q_un q, q_un q]; exact g11 j
    · show q_u (q_s s) (q_w s k) none j = none
      have hj2 : (q_h s).testBit j = true := hj
      by_cases q : j = q_w s k
      · rw [q, q_us]
      · rw [q_un q]; exact g12 j hj2
  · rename_i hc
    have hne0 : ∀ {j i : Nat}, q_s s j = some i → i ≠ k := fun {j i} hj z => by
      have b := hfR hj
      have c := (g4 j i hj).2.2
      rw [z] at c; omega
    have hl : ∀ j, j ∈ (if q_w s k = 254 then (q_l s).filter (fun j => !decide (j = k)) else q_l s) ↔ j ∈ q_l s ∧ j ≠ k := fun j => by
      split
      · simp
      · rename_i h254
        exact ⟨fun z => ⟨z, fun e => h254 ((g6 k).mpr (e ▸ z))⟩, fun z => z.1⟩
    refine ⟨⟨g1, g2, g3, fun j i hj => ?_, fun j hj => ?_, fun j => ?_, fun j => ?_, ?_, fun j hj => ?_, ?_, fun j => ?_, g12, g13, g14⟩, q_us _ _ _⟩
    · obtain ⟨a, b, c⟩ := g4 j i hj
      refine ⟨a, b, ?_⟩
      show q_u (q_w s) k 255 i = j
      rw [q_un (hne0 hj)]; exact c
    · have hj2 : q_u (q_w s) k 255 j < 16 := hj
      show q_s s (q_u (q_w s) k 255 j) = some j
      by_cases q : j = k
      · rw [q, q_us] at hj2; omega
      · rw [q_un q] at hj2 ⊢; exact g5 j hj2
    · show q_u (q_w s) k 255 j = 254 ↔ j ∈ (if q_w s k = 254 then (q_l s).filter (fun j => !decide (j = k)) else q_l s)
      rw [hl j]
      by_cases q : j = k
      · rw [q, q_us]; exact ⟨fun z => by omega, fun z => absurd rfl z.2⟩
      · rw [q_un q, g6 j]; exact ⟨fun z => ⟨z, q⟩, fun z => z.1⟩
    · show q_u (q_w s) k 255 j < 16 ∨ q_u (q_w s) k 255 j = 254 ∨ q_u (q_w s) k 255 j = 255
      by_cases q : j = k
      · rw [q, q_us]; exact Or.inr (Or.inr rfl)
      · rw [q_un q]; exact g7 j
    · show (if q_w s k = 254 then (q_l s).filter (fun j => !decide (j = k)) else q_l s).Nodup
      split
      · exact g8.sublist List.filter_sublist
      · exact g8
    · exact g9 j ((hl j).mp hj).1
    · show (if q_w s k = 254 then (q_l s).filter (fun j => !decide (j = k)) else q_l s).length ≤ p_B P
      split
      · exact Nat.le_trans (List.length_filter_le _ _) g10
      · exact g10
    · show q_u (q_y s) k 0 j ≤ 99 ∧ (16 ≤ q_u (q_w s) k 255 j → q_u (q_y s) k 0 j = 0)
      by_cases q : j = k
      · rw [q, q_us]; exact ⟨by omega, fun _ => rfl⟩
      · rw [q_un q, q_un q]; exact g11 j
end QG
