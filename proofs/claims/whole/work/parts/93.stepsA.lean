/-! STEPS: the reference's nights. -/
section TZ9
variable {d b : Nat} {S : z_S} {A : q_A} {k T : Nat}
theorem q_rn_ct {P : q_Pl} {s e : q_St} {nt : Nat} (h : q_n s + nt ≤ 999) : ∀ l : List (Nat × Nat × Nat), l.countP (fun x => decide (x.1 < nt + 1) && q_okr P s x e) = l.countP (fun x => decide (x.1 < nt) && q_okr P s x e) + l.countP (q_rn nt (q_ns P nt e))
  | [] => rfl
  | x :: l => by
    rw [List.countP_cons, List.countP_cons, List.countP_cons, q_rn_ct h l]
    by_cases c : x.1 = nt
    · have h1 : q_rn nt (q_ns P nt e) x = q_okr P s x e := by
        unfold q_rn q_okr
        rw [c, decide_eq_true (p := nt = nt) rfl, decide_eq_true h, (q_nf_s P e nt).1]
      rw [h1, decide_eq_true (show x.1 < nt + 1 by omega), decide_eq_false (show ¬ x.1 < nt by omega), Bool.true_and, Bool.false_and, if_neg (show ¬ (false = true) by decide)]
      omega
    · have h1 : q_rn nt (q_ns P nt e) x = false := by
        unfold q_rn
        rw [decide_eq_false c]; rfl
      rw [h1, if_neg (show ¬ (false = true) by decide)]
      by_cases c2 : x.1 < nt
      · rw [decide_eq_true c2, decide_eq_true (show x.1 < nt + 1 by omega)]; omega
      · rw [decide_eq_false c2, decide_eq_false (show ¬ x.1 < nt + 1 by omega), Bool.false_and]; omega
def zD (T nt : Nat) : Nat → Nat → Prop := fun c j => vD 1 c j ∨ c = 429 ∨ c = 430 ∨ c = 439 ∧ 496 * T + 16 * nt ≤ j ∧ j < 496 * T + 496
theorem m254_e {e : q_St} {c nt : Nat} (hA : aOk A) (h31 : nt ≤ 31) (hB : mB S A b) (hc : c = (a_mt A).countP (fun x => decide (x.1 < nt) && q_okr (a_P A) (a_s A) x e)) (c1 : ¬ (nt ≤ 30 ∧ q_n (a_s A) + nt ≤ 999)) : b254_23 (d + 7) (nI T) (nI c) (nI nt) S = some (bI ((a_mt A).all fun x => q_okr (a_P A) (a_s A) x e), S) := by
  have hm : mtOk (a_P A) (a_mt A) := hA.2.2.2.2.2.1
  have h16 := hm.1
  have hn := hA.2.2.1
  have hW := hB.1.1
  have e0 := b254_23_eq (d + 7) (nI T) (nI c) (nI nt) S hW
  have a0 : fI (d + 7) 235 [.ref 396, .int (nI nt), .int (0 : Int32), .int (30 : Int32)] S = _ := m235b (d := d + 5) (x := nI nt) (a := 0) (c := 30) hW hB.2.1 hB.2.2.1.1 hn (by omega) (by omega) rfl (by omega)
  rw [a0, zb_some, decide_eq_false (p := 0 ≤ nt ∧ _) (by omega), Bool.and_false, if_pos (by decide), hB.2.2.2.2.1] at e0
  have hle : c ≤ (a_mt A).length := by rw [hc]; exact List.countP_le_length
  have hcc : c = (a_mt A).countP (fun x => q_okr (a_P A) (a_s A) x e) := by
    rw [hc]
    apply List.countP_congr
    intro x hx
    have h1 := (hm.2 x hx).1
    constructor
    · intro z
      rw [Bool.and_eq_true] at z
      exact z.2
    · intro z
      have z2 := z
      unfold q_okr at z2
      rw [Bool.and_eq_true] at z2
      have z3 := of_decide_eq_true z2.1
      rw [Bool.and_eq_true]
      exact ⟨decide_eq_true (by omega), z⟩
  rw [e0]
  by_cases c2 : c = (a_mt A).length
  · rw [if_neg (fun w => w (by rw [c2]))]
    have : ((a_mt A).all fun x => q_okr (a_P A) (a_s A) x e) = true := by
      rw [List.all_eq_true]
      exact List.countP_eq_length.mp (hcc.symm.trans c2)
    rw [this]; rfl
  · rw [if_pos (fun w => c2 ((nI_eq (by omega) (by omega)).mp w))]
    have : ((a_mt A).all fun x => q_okr (a_P A) (a_s A) x e) = false := by
      rw [← Bool.not_eq_true, List.all_eq_true]
      intro w
      exact c2 (hcc.trans (List.countP_eq_length.mpr w))
    rw [this]; rfl
theorem m254_n {e : q_St} (hA : aOk A) (hT : T ≤ 40) (hm0 : 0 < p_m (a_P A)) (hG : q_Gd (a_P A) e) (he : q_n e = q_n (a_s A)) : ∀ (m nt c : Nat) (S : z_S), nt + m = 31 → mB S A b → c = (a_mt A).countP (fun x => decide (x.1 < nt) && q_okr (a_P A) (a_s A) x e) → (mSt S 1 (q_setn (q_ns (a_P A) nt e) (q_n (a_s A) + nt)) ∨ 999 < q_n (a_s A) + nt) → ∃ S', b254_23 (d + 7) (nI T) (nI c) (nI nt) S = some (bI ((a_mt A).all fun x => q_okr (a_P A) (a_s A) x e), S') ∧ onM (zD T nt) S S' ∧ ∀ l r, nt ≤ l → l ≤ 30 → q_n (a_s A) + l ≤ 999 → r < p_R (a_P A) → gI S' 439 (496 * T + 16 * l + r) = eO (q_s (q_ns (a_P A) l e) r)
  | 0, nt, c, S, hi, hB, hc, hs => ⟨S, m254_e hA (by omega) hB hc (by omega), onM.refl hB.1.1, fun l r h1 h2 h3 h4 => by omega⟩
  | m + 1, nt, c, S, hi, hB, hc, hs => by
    have hm : mtOk (a_P A) (a_mt A) := hA.2.2.2.2.2.1
    have h16 := hm.1
    have hn := hA.2.2.1
    have hW := hB.1.1
    by_cases c1 : nt ≤ 30 ∧ q_n (a_s A) + nt ≤ 999
    · have e0 := b254_23_eq (d + 7) (nI T) (nI c) (nI nt) S hW
      have a0 : fI (d + 7) 235 [.ref 396, .int (nI nt), .int (0 : Int32), .int (30 : Int32)] S = _ := m235b (d := d + 5) (x := nI nt) (a := 0) (c := 30) hW hB.2.1 hB.2.2.1.1 hn (by omega) (by omega) rfl (by omega)
      have hs' : mSt S 1 (q_ns (a_P A) nt e) := by
        rcases hs with z | z
        · rw [q_setn_id (by rw [q_ns_n _ _ _ (by omega)]; omega)] at z; exact z
        · omega
      have hG1 := q_ns_G hA.1 hG nt
      have hR := hA.1.1
      rw [a0, zb_some, decide_eq_true (p := 0 ≤ nt ∧ _) (by omega), decide_eq_true hm0, if_neg (by decide)] at e0
      obtain ⟨S1, b1, b2, b3⟩ := m254_a (d := d + 7) (b := b) (P := a_P A) (y3 := nI c) hT c1.1 (p_R (a_P A)) 0 S (by omega) hB.1
      have b1' : b254_38 (d + 7) (nI T) (nI c) (nI nt) (0 : Int32) S = _ := b1
      have hB1 : mB S1 A b := hB.on hA b2 (fun c j z => by unfold yD at z; omega)
      have hs1 : mSt S1 1 (q_ns (a_P A) nt e) := hs'.ag (hG1.Bd hA.1).2.2.1 (b2.ag fun c j z => by unfold vD at z; unfold yD; omega)
      have b4 := m254_b (d := d + 7) (T := T) (e := q_ns (a_P A) nt e) hA.1 hm b2.W hB1.2.2.2.2 hs1 (hG1.Bd hA.1) c1.1 (a_mt A).length 0 c (by omega)
      have b4' : b254_89 (d + 7) (nI T) (nI c) (nI nt) (0 : Int32) S1 = _ := b4
      obtain ⟨S2, d1, d2, d3⟩ := m226 (d := d) (v := 1) hB1.1 (by omega) hs1 hG1
      have d1' : fI (d + 7) 226 [.ref 396, .int (1 : Int32)] S1 = _ := d1
      rw [d1', zb_some, List.drop_zero, hc, ← q_rn_ct c1.2] at b4'
      rw [q_ns_n _ _ _ (by omega), he] at d3
      obtain ⟨S3, g1, g2, g3⟩ := m254_n hA hT hm0 hG he m (nt + 1) _ S2 (by omega) (hB1.on hA d2 (fun c j z => z.elim Or.inl (fun w => Or.inr (Or.inr (Or.inl (by omega)))))) rfl (Or.inl d3)
      rw [hc] at e0 b1' ⊢
      refine ⟨S3, ((e0.trans b1').trans b4').trans g1, ((b2.mono fun c j z => Or.inr (by unfold yD at z; omega)).trans (d2.mono fun c j z => z.elim Or.inl (fun w => Or.inr (by omega)))).trans (g2.mono fun c j z => z.elim Or.inl (fun w => Or.inr (by omega))), fun l r h1 h2 h3 h4 => ?_⟩
      by_cases z : l = nt
      · rw [z, g2.I (by unfold zD vD; omega), d2.I (by unfold tD vD; omega), b3 r h4, if_pos (Nat.zero_le _)]
        exact hs'.2.2.2.2.1 r (by omega)
      · exact g3 l r (by omega) h2 h3 h4
    · exact ⟨S, m254_e hA (by omega) hB hc c1, onM.refl hB.1.1, fun l r h1 h2 h3 h4 => by omega⟩
/-- what one try of the reference may change -/
def uuD (T : Nat) : Nat → Nat → Prop := fun c j => vD 1 c j ∨ kD 1 c j ∨ c = 429 ∨ c = 430 ∨ c = 431 ∨ c = 396 ∧ j = 56 ∨ c = 439 ∧ 496 * T ≤ j ∧ j < 496 * T + 496
theorem m254 (hA : aOk A) (hT : T ≤ 40) (hB : mB S A b) (hk : k < p_L (a_P A)) (hw : q_w (a_s A) k = 255) : ∃ S', fI (d + 8) 254 [.ref 396, .int (nI k), .int (nI T)] S = some (bI (q_gT A k T), S') ∧ onM (uuD T) S S' ∧ gL S' 396 56 = gL S 396 56 ∧ ∀ l r, l ≤ 30 → q_n (a_s A) + l ≤ 999 → r < p_R (a_P A) → gI S' 439 (496 * T + 16 * l + r) = eO (q_s (q_ns (a_P A) l (q_arr (a_P A) T (a_s A) k).1) r) := by
  have hm0 : 0 < p_m (a_P A) := by
    rcases Nat.eq_zero_or_pos (p_m (a_P A)) with z | z
    · have := (hA.2.2.2.2.2.2.2.2.2 z).2.2.2.1; omega
    · exact z
  have e0 := e254 (d + 7) (nI k) (nI T) S hB.1.1
  obtain ⟨S1, a1, a2, a3, a4⟩ := m196 (d := d + 6) (t := 1) (f := 0) hB.1.1 (by omega) (by omega) (by omega) hB.2.2.1 hB.2.2.2.1 (hA.2.1.Bd hA.1).2.2.1
  have a1' : fV (d + 7) 196 [.ref 396, .int (1 : Int32), .int (0 : Int32)] S = some S1 := a1
  have o2 : onM (uuD T) S (sI S1 396 56 (nI T)) := onM_sI (D := uuD T) (c := 396) (k := 56) (a2.mono fun c j z => z.elim (fun w => Or.inl w) (fun w => Or.inr (Or.inl w))) (Or.inr (Or.inr (Or.inr (Or.inr (Or.inr (Or.inl ⟨rfl, rfl⟩))))))
  have hsub : ∀ c j, uuD T c j → vD 1 c j ∨ kD 1 c j ∨ 429 ≤ c ∧ c ≤ 434 ∨ 438 ≤ c ∧ c ≤ 440 ∨ c = 396 ∧ j = 56 := fun c j z => by
    rcases z with z | z | z
    · exact Or.inl z
    · exact Or.inr (Or.inl z)
    · exact Or.inr (Or.inr (by omega))
  have hB2 := hB.on hA o2 hsub
  have hs2 : mSt (sI S1 396 56 (nI T)) 1 (a_s A) := a3.ag (hA.2.1.Bd hA.1).2.2.1 fun c j z => by unfold vD at z; rw [gI_sI, if_neg (by omega)]
  have hk2 : mKp (sI S1 396 56 (nI T)) 1 (a_kl A) := a4.ag fun c j z => by unfold kD at z; rw [gI_sI, if_neg (by omega)]
  obtain ⟨S3, b1, b2, b3, b4, b5⟩ := m220 (d := d) (v := 1) (T := T) hB2.1 (by omega) (by rw [gI_sI, if_pos rfl, if_pos rfl]) hT hs2 hk2 hA.2.1 hk hw
  have b1' : fI (d + 7) 220 [.ref 396, .int (1 : Int32), .int (nI k)] (sI S1 396 56 (nI T)) = _ := b1
  rw [a1', Option.bind_some, b1', zb_some] at e0
  have o3 : onM (uuD T) S S3 := o2.trans (b2.mono fun c j z => by
    rcases z with z | z | z
    · exact Or.inl z
    · exact Or.inr (Or.inl z)
    · exact Or.inr (Or.inr (by omega)))
  have hz : (0 : Nat) = (a_mt A).countP (fun x => decide (x.1 < 0) && q_okr (a_P A) (a_s A) x (q_arr (a_P A) T (a_s A) k).1) := by
    symm
    rw [List.countP_eq_zero]
    intro x hx
    rw [decide_eq_false (Nat.not_lt_zero _), Bool.false_and]
    decide
  obtain ⟨S4, g1, g2, g3⟩ := m254_n (d := d) (b := b) (T := T) (e := (q_arr (a_P A) T (a_s A) k).1) hA hT hm0 (q_arr_G hA.1 hA.2.1 hk hw) (q_arr_n _ _ _ _) 31 0 0 S3 (by omega) (hB.on hA o3 hsub) hz (Or.inl (by
    show mSt S3 1 (q_setn (q_arr (a_P A) T (a_s A) k).1 (q_n (a_s A) + 0))
    rw [q_setn_id (by rw [q_arr_n]; rfl)]
    exact b3))
  refine ⟨S4, ?_, o3.trans (g2.mono fun c j z => z.elim Or.inl (fun w => Or.inr (Or.inr (by omega)))), ?_, fun l r h1 h2 h3 => g3 l r (by omega) h1 h2 h3⟩
  rotate_left
  · rw [g2.L (by unfold zD vD; omega), b2.L (by unfold mD vD kD; omega), gL_sI]
    exact a2.L (by unfold vD kD; omega)
  have g1' : b254_23 (d + 7) (nI T) (0 : Int32) (0 : Int32) S3 = _ := g1
  rw [e0, g1']
  unfold q_gT
  rw [show min T 40 = T by omega]
end TZ9
