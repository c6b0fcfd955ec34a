/-! TELLS: the class. -/
section TZC
variable {d n q : Nat} {S : z_S} {A : q_A} {k : Nat} {f : Nat → Bool} {x y : Int32}
/-- who sleeps in a room behind l nights, with i + 1 steps -/
def q_wo (A : q_A) (k l r i : Nat) : Nat := q_o1 (q_s (q_ns (a_P A) l (q_arr (a_P A) (min (i + 1) 40) (a_s A) k).1) r)
def q_wg (A : q_A) (k i : Nat) : Nat := (q_gT A k (i + 1)).toNat
def q_mb (A : q_A) (k l r : Nat) : Nat := q_mx (q_gr (q_wo A k l r) (q_wg A k) 40) 17
theorem q_mb_c {E : Nat → q_St} {l r : Nat} (h1 : 1 ≤ n) (h40 : n ≤ 40) (h : n = 40 ∨ (q_arr (a_P A) n (a_s A) k).2.length < n) (hf : ∀ j, j < n → f j = q_gT A k (j + 1)) (hE : ∀ j, j < n → f j = true → E j = q_nf (a_P A) l (q_arr (a_P A) (j + 1) (a_s A) k).1) : q_mx (q_gr (fun j => q_o1 (q_s (E j) r)) (q_wt n f) n) 17 = q_mb A k l r := by
  obtain ⟨i, rfl⟩ : ∃ i, n = i + 1 := ⟨n - 1, by omega⟩
  unfold q_mb
  congr 1
  have hwho : ∀ j, j < i + 1 → f j = true → q_o1 (q_s (E j) r) = q_wo A k l r j := fun j hj hfj => by
    unfold q_wo
    rw [hE j hj hfj, (q_nf_s _ _ _).1, show min (j + 1) 40 = j + 1 by omega]
  have h2 : q_gr (fun j => q_o1 (q_s (E j) r)) (q_wt (i + 1) f) i = q_gr (q_wo A k l r) (q_wg A k) i := by
    refine q_gr_eq i fun j hj => ?_
    have hw : q_wt (i + 1) f j = (q_gT A k (j + 1)).toNat := by
      unfold q_wt
      rw [hf j (by omega), if_neg (show ¬ j + 1 = i + 1 by omega)]
      cases q_gT A k (j + 1) <;> rfl
    refine ⟨hw, fun hn => hwho j (by omega) ?_⟩
    rw [hf j (by omega)]
    cases hb : q_gT A k (j + 1) with
    | true => rfl
    | false => rw [hw, hb] at hn; exact absurd rfl hn
  have hc := q_gT_c (A := A) (k := k) h40 h
  have hq : ∀ j, i ≤ j → q_arr (a_P A) (min (j + 1) 40) (a_s A) k = q_arr (a_P A) (i + 1) (a_s A) k := fun j hj => by
    rcases h with h | h
    · rw [show min (j + 1) 40 = i + 1 by omega]
    · exact q_arr_T (by omega) h
  have h3 := q_gr_c (who := q_wo A k l r) (wt := q_wg A k) (n := i) (b := q_wg A k i) (w := q_wo A k l r i) (fun j hj => by unfold q_wo; rw [hq j hj, hq i (Nat.le_refl _)]) (fun j hj => by unfold q_wg; rw [hc (j + 1) (by omega)]) (40 - i)
  rw [show i + (40 - i) = 40 by omega] at h3
  rw [h3, q_gr, h2]
  unfold q_wt q_wg
  rw [if_pos rfl]
  cases hfi : f i with
  | false =>
    have : q_gT A k (i + 1) = false := by rw [← hf i (by omega)]; exact hfi
    rw [this, if_neg (by decide), Bool.toNat_false, Nat.mul_zero, Nat.add_zero, Nat.add_zero, q_u_id, q_u_id]
  | true =>
    have : q_gT A k (i + 1) = true := by rw [← hf i (by omega)]; exact hfi
    rw [this, if_pos rfl, Bool.toNat_true, Nat.mul_one, hwho i (by omega) hfi]
/-- room by room, m from r on -/
def q_tr (A : q_A) (k l : Nat) : Nat → Nat → Option (Nat × Nat × Nat) → Option (Nat × Nat × Nat)
  | 0, _, a => a
  | m + 1, r, a => q_tr A k l m (r + 1) (q_t1 a l r (q_mb A k l r))
/-- night by night, m from l on -/
def q_tn (A : q_A) (k : Nat) : Nat → Nat → Option (Nat × Nat × Nat) → Option (Nat × Nat × Nat)
  | 0, _, a => a
  | m + 1, l, a => if q_n (a_s A) + l ≤ 999 then q_tn A k m (l + 1) (q_tr A k l (p_R (a_P A)) 0 a) else a
theorem c93_r {E : Nat → q_St} {l : Nat} (hA : aOk A) (h1 : 1 ≤ n) (h : n = 40 ∨ (q_arr (a_P A) n (a_s A) k).2.length < n) (hf : ∀ j, j < n → f j = q_gT A k (j + 1)) (hE0 : ∀ j, j < n → f j = true → E j = q_nf (a_P A) l (q_arr (a_P A) (j + 1) (a_s A) k).1) (hG : ∀ j, j < n → q_Gd (a_P A) (E j)) : ∀ (m r : Nat) (S : z_S) (a : Option (Nat × Nat × Nat)), r + m = p_R (a_P A) → cH S q (a_P A) → cFt S n f → (∀ j, j < n → cSt S (187 + 5 * j) 16 (E j)) → cTl S a → ∃ S', b93_66 (d + 2) 27 (nI l) (nI r) S = b93_33 (d + 2) 27 (nI (l + 1)) S' ∧ onI tD2 S S' ∧ cTl S' (q_tr A k l m r a)
  | 0, r, S, a, hi, hH, hF, hE, hT => by
    have hR := hA.1.1
    have e := b93_66_eq (d + 2) 27 (nI l) (nI r) S hH.1 (by decide +kernel)
    rw [hH.2.2.1, hH.2.2.2.1.2.1, if_pos ((nI_leI (by omega) (by omega)).mpr (by omega)), show nI l + (1 : Int32) = nI (l + 1) from nI_add l 1] at e
    exact ⟨S, e, onI.refl hH.1, hT⟩
  | m + 1, r, S, a, hi, hH, hF, hE, hT => by
    have hR := hA.1.1
    have e := b93_66_eq (d + 2) 27 (nI l) (nI r) S hH.1 (by decide +kernel)
    obtain ⟨S1, a1, a2, a3⟩ := c94 (d := d) (l := l) (r := r) (by omega) (fun j hj => (hG j hj).Bd hA.1) hH.1 hF hE hT
    rw [q_mb_c h1 hF.1 h hf hE0] at a3
    rw [hH.2.2.1, hH.2.2.2.1.2.1, if_neg (show ¬ nI (p_R (a_P A)) ≤ nI r from fun z => by have := (nI_leI (by omega) (by omega)).mp z; omega), a1, Option.bind_some, show nI r + (1 : Int32) = nI (r + 1) from nI_add r 1] at e
    obtain ⟨S', b1, b2, b3⟩ := c93_r hA h1 h hf hE0 hG m (r + 1) S1 _ (by omega) (hH.on a2 fun c j z => by unfold tD2; omega) (hF.on a2 fun c j z => by unfold tD2; omega) (fun j hj => (hE j hj).ag (a2.ag fun c l w => by unfold pD at w; unfold tD2; omega)) a3
    exact ⟨S', e.trans b1, a2.trans b2, b3⟩
def nD2 : Nat → Nat → Prop := fun c k => c = 186 ∨ c = 182 ∧ 6 ≤ k ∨ 187 ≤ c ∧ c ≤ 386 ∨ 23 ≤ c ∧ c ≤ 26
theorem c93_n (hA : aOk A) (h1 : 1 ≤ n) (h : n = 40 ∨ (q_arr (a_P A) n (a_s A) k).2.length < n) (hf : ∀ j, j < n → f j = q_gT A k (j + 1)) : ∀ (m l : Nat) (S : z_S) (a : Option (Nat × Nat × Nat)) (E : Nat → q_St), l + m = 31 → cH S q (a_P A) → gI S 27 0 = nI (q_n (a_s A)) → cFt S n f → (∀ j, j < n → cSt S (187 + 5 * j) 16 (E j)) → (∀ j, j < n → q_Gd (a_P A) (E j)) → (∀ j, j < n → f j = true → E j = q_nf (a_P A) (l - 1) (q_arr (a_P A) (j + 1) (a_s A) k).1) → cTl S a → ∃ S', b93_33 (d + 8) 27 (nI l) S = some S' ∧ onI nD2 S S' ∧ cTl S' (q_tn A k m l a)
  | 0, l, S, a, E, hi, hH, h0, hF, hE, hG, he, hT => by
    have e := b93_33_eq (d + 8) 27 (nI l) S hH.1 (by decide +kernel)
    rw [if_pos (show (30 : Int32) < nI l from (nI_ltI (a := 30) (by omega) (by omega)).mpr (by omega))] at e
    exact ⟨S, e, onI.refl hH.1, hT⟩
  | m + 1, l, S, a, E, hi, hH, h0, hF, hE, hG, he, hT => by
    have hn := hA.2.2.1
    have e := b93_33_eq (d + 8) 27 (nI l) S hH.1 (by decide +kernel)
    rw [if_neg (show ¬ (30 : Int32) < nI l from fun z => by have := (nI_ltI (a := 30) (by omega) (by omega)).mp z; omega), h0, nI_add] at e
    rw [q_tn]
    by_cases c1 : q_n (a_s A) + l ≤ 999
    · rw [if_pos c1]
      rw [if_neg (show ¬ (999 : Int32) < nI (q_n (a_s A) + l) from fun z => by have := (nI_ltI (a := 999) (by omega) (by omega)).mp z; omega)] at e
      have fin : ∀ (S1 : z_S) (E1 : Nat → q_St), b93_33 (d + 8) 27 (nI l) S = b93_63 (d + 8) 27 (nI l) S1 → onI nD2 S S1 → cFt S1 n f → cTl S1 a → (∀ j, j < n → cSt S1 (187 + 5 * j) 16 (E1 j)) → (∀ j, j < n → q_Gd (a_P A) (E1 j)) → (∀ j, j < n → f j = true → E1 j = q_nf (a_P A) l (q_arr (a_P A) (j + 1) (a_s A) k).1) → ∃ S', b93_33 (d + 8) 27 (nI l) S = some S' ∧ onI nD2 S S' ∧ cTl S' (q_tn A k m (l + 1) (q_tr A k l (p_R (a_P A)) 0 a)) := fun S1 E1 u1 u2 u3 u4 u5 u6 u7 => by
        have e7 := b93_63_eq (d + 8) 27 (nI l) S1 u2.W (by decide +kernel)
        have hH1 : cH S1 q (a_P A) := hH.on u2 fun c j z => by unfold nD2; omega
        obtain ⟨S2, a1, a2, a3⟩ := c93_r (d := d + 6) (q := q) (l := l) hA h1 h hf u7 u6 (p_R (a_P A)) 0 S1 a (by omega) hH1 u3 u5 u4
        have o2 : onI nD2 S S2 := u2.trans (a2.mono fun c j z => by unfold tD2 at z; unfold nD2; omega)
        obtain ⟨S3, b1, b2, b3⟩ := c93_n hA h1 h hf m (l + 1) S2 _ E1 (by omega) (hH.on o2 fun c j z => by unfold nD2; omega) (by rw [o2.I (by unfold nD2; omega)]; exact h0) (u3.on a2 fun c j z => by unfold tD2; omega) (fun j hj => (u5 j hj).ag (a2.ag fun c l w => by unfold pD at w; unfold tD2; omega)) u6 u7 a3
        exact ⟨S3, ((u1.trans e7).trans a1).trans b1, o2.trans b2, b3⟩
      by_cases c : l = 0
      · subst c
        rw [if_pos (show nI 0 ≤ (0 : Int32) by decide)] at e
        exact fin S E e (onI.refl hH.1) hF hT hE hG he
      · rw [if_neg (show ¬ nI l ≤ (0 : Int32) from fun w => by have := (nI_leI (b := 0) (by omega) (by omega)).mp w; omega)] at e
        obtain ⟨S1, a1, a2, a3⟩ := c88_l (d := d) (q := q) hF.1 n 0 S E (by omega) hH hF hG hE
        rw [show fV (d + 8) 88 [.ref 182, .ref 22] S = some S1 from (e88 (d + 7) S hH.1).trans a1, Option.bind_some] at e
        refine fin S1 _ e (a2.mono fun c l w => by unfold nD2; omega) (hF.on a2 fun c l w => by omega) (hT.ag (a2.ag fun c l w => by omega)) a3 (fun j hj => ?_) (fun j hj w => ?_)
        · by_cases z : f j = true
          · rw [if_pos ⟨Nat.zero_le _, z⟩]; exact q_nt_G hA.1 (hG j hj)
          · rw [if_neg (fun v => z v.2)]; exact hG j hj
        · rw [if_pos ⟨Nat.zero_le _, w⟩, he j hj w]
          obtain ⟨i, rfl⟩ : ∃ i, l = i + 1 := ⟨l - 1, by omega⟩
          rfl
    · rw [if_neg c1]
      rw [if_pos (show (999 : Int32) < nI (q_n (a_s A) + l) from (nI_ltI (a := 999) (by omega) (by omega)).mpr (by omega))] at e
      exact ⟨S, e, onI.refl hH.1, hT⟩
/-- what tells -/
def q_te (A : q_A) (k : Nat) : Option (Nat × Nat × Nat) := if q_ct (q_gT A k) 40 = 0 then none else q_tn A k 31 0 none
theorem c93 (hA : aOk A) (hk : k < p_L (a_P A)) (hw : q_w (a_s A) k = 255) (h1 : 1 ≤ n) (h : n = 40 ∨ (q_arr (a_P A) n (a_s A) k).2.length < n) (h2 : ∀ j, 0 < j → j < n → ¬ (q_arr (a_P A) j (a_s A) k).2.length < j) (hf : ∀ j, j < n → f j = q_gT A k (j + 1)) (hH : cH S q (a_P A)) (hs : cSt S 27 16 (a_s A)) (hF : cFt S n f) : ∃ S', fV (d + 9) 93 [.ref 182, .ref 22, .ref 27, .int (nI k)] S = some S' ∧ onI (fun c k => nD2 c k ∨ c = 182 ∧ k = 4) S S' ∧ cTl S' (q_te A k) := by
  have h40 := hF.1
  have e := e93 (d + 8) 27 (nI k) S hH.1 (by decide +kernel)
  have o1 : onI nD2 S (sI (sI (sI S 182 6 (-1 : Int32)) 182 7 (-1 : Int32)) 182 8 (-1 : Int32)) := onI_sI (D := nD2) (c := 182) (onI_sI (D := nD2) (c := 182) (onI_sI (D := nD2) (c := 182) (onI.refl hH.1) (by unfold nD2; omega)) (by unfold nD2; omega)) (by unfold nD2; omega)
  have new : cTl (sI (sI (sI S 182 6 (-1 : Int32)) 182 7 (-1 : Int32)) 182 8 (-1 : Int32)) none := by
    refine ⟨?_, ?_, ?_⟩
    · rw [gI_sI, if_pos rfl, if_neg (by decide), gI_sI, if_pos rfl, if_neg (by decide), gI_sI, if_pos rfl, if_pos rfl]; rfl
    · rw [gI_sI, if_pos rfl, if_neg (by decide), gI_sI, if_pos rfl, if_pos rfl]; rfl
    · rw [gI_sI, if_pos rfl, if_pos rfl]; rfl
  generalize sI (sI (sI S 182 6 (-1 : Int32)) 182 7 (-1 : Int32)) 182 8 (-1 : Int32) = S1 at *
  have hF1 : cFt S1 n f := hF.on o1 fun c j z => by unfold nD2; omega
  have hg := q_gT_c (A := A) (k := k) h40 h
  have h41 := q_ct_le (g := q_gT A k) 40
  rw [c91 (d := d + 6) o1.W hF1, zb_some, q_wts_all h1 h40 hf hg] at e
  unfold q_te
  by_cases c : q_ct (q_gT A k) 40 = 0
  · rw [if_neg (fun w => w (by rw [c]; rfl))] at e
    rw [if_pos c]
    exact ⟨S1, e, o1.mono fun c k z => Or.inl z, new⟩
  · rw [if_pos (show ¬ nI (q_ct (q_gT A k) 40) = (0 : Int32) from fun w => c ((nI_eq (b := 0) (by omega) (by omega)).mp w))] at e
    rw [if_neg c]
    have hH1 : cH S1 q (a_P A) := hH.on o1 fun c j z => by unfold nD2; omega
    obtain ⟨n', S2, b1, b2, b3, b4, b5, b6, b7⟩ := c86 (d := d + 1) hA.2.1 hk hw hH1 (hs.ag (o1.ag fun c j z => by unfold pD at z; unfold nD2; omega))
    have hnn : n' = n := by
      rcases Nat.lt_trichotomy n n' with w | w | w
      · rcases h with v | v
        · omega
        · exact absurd v (b7 n (by omega) w)
      · exact w.symm
      · rcases b6 with v | v
        · omega
        · exact absurd v (h2 n' (by omega) w)
    subst hnn
    have o2 : onI (fun c k => nD2 c k ∨ c = 182 ∧ k = 4) S S2 := (o1.mono fun c k z => Or.inl z).trans (b2.mono fun c k z => by unfold eD at z; unfold nD2; omega)
    rw [b1, Option.bind_some] at e
    obtain ⟨S3, g1, g2, g3⟩ := c93_n (d := d) (q := q) hA h1 h hf 31 0 S2 none (fun j => (q_arr (a_P A) (j + 1) (a_s A) k).1) (by omega) (hH.on o2 fun c j z => by unfold nD2; omega) (by rw [o2.I (by unfold nD2; omega)]; exact hs.1) ⟨hF1.1, b3.1, fun j hj => by rw [b2.I (by unfold eD; omega)]; exact hF1.2.2 j hj⟩ b3.2 (fun j hj => q_arr_G hA.1 hA.2.1 hk hw) (fun j hj _ => rfl) (new.ag (b2.ag fun c j z => by unfold eD; omega))
    exact ⟨S3, e.trans g1, o2.trans (g2.mono fun c k z => Or.inl z), g3⟩
end TZC
