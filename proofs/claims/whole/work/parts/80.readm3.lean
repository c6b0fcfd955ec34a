/-! READING AN IMAGE: the reference's bench, rooms, check. -/
section TU
variable {d b : Nat} {S : z_S} {P : q_Pl} {tp : List Nat} {s : q_St} {A : q_A}
def bD : Nat → Nat → Prop := fun c k => c = 425 ∧ k = 1 ∨ c = 426 ∧ 6 ≤ k ∧ k < 12
theorem bD_r {c k : Nat} (h : bD c k) : rD c k := by unfold bD at h; unfold rD vD; omega
theorem m271_l (hb : ∀ x, x ∈ tp → x < 256) {n mk : Nat} (hl : 5 + p_R P + 2 * p_L P + 1 + n ≤ tp.length) (hl2 : tp.length ≤ 1600) (hn : n ≤ 6) (hmk : mk < 65536) : ∀ (m i : Nat) (S : z_S), i + m = n → mE S b P tp → (∀ j, j < i → gI S 426 (6 + j) = nI (tp.getD (5 + p_R P + 2 * p_L P + 1 + j) 0)) → (q_bl P tp i).Nodup → (∀ k, k ∈ q_bl P tp i → k < p_L P) → ∃ (v : Bool) (S' : z_S), b271_6 (d + 1) (nI (5 + p_R P + 2 * p_L P + 1)) (nI n) (nI mk) (nI (q_mk (q_bl P tp i))) (nI i) S = some (bI v, S') ∧ onM bD S S' ∧ (v = true ↔ (q_bl P tp n).Nodup ∧ (∀ k, k ∈ q_bl P tp n → k < p_L P) ∧ q_mk (q_bl P tp n) = mk) ∧ (v = true → gI S' 425 1 = nI n ∧ ∀ j, j < n → gI S' 426 (6 + j) = nI (tp.getD (5 + p_R P + 2 * p_L P + 1 + j) 0))
  | 0, i, S, hi, h, hs, h1, h2 => by
    have hP := h.1.2.2.2.2
    have hL := hP.2.2.2.2.1
    have e := b271_6_eq (d + 1) (nI (5 + p_R P + 2 * p_L P + 1)) (nI n) (nI mk) (nI (q_mk (q_bl P tp i))) (nI i) S h.1.1
    have hin : i = n := by omega
    subst hin
    have hlt := q_mk_lt (n := 16) (q_bl P tp i) (fun k hk => by have := h2 k hk; omega)
    have o1 : onM bD S (sI S 425 ((1 : Int32)).toNatClampNeg (nI i)) := onM_sI (D := bD) (c := 425) (onM.refl h.1.1) (Or.inl ⟨rfl, rfl⟩)
    have post : gI (sI S 425 ((1 : Int32)).toNatClampNeg (nI i)) 425 1 = nI i ∧ ∀ j, j < i → gI (sI S 425 ((1 : Int32)).toNatClampNeg (nI i)) 426 (6 + j) = nI (tp.getD (5 + p_R P + 2 * p_L P + 1 + j) 0) := ⟨by rw [gI_sI, if_pos rfl, if_pos (by decide)], fun j hj => by rw [gI_sI, if_neg (by decide)]; exact hs j hj⟩
    rw [if_pos ((nI_leI (by omega) (by omega)).mpr (Nat.le_refl _)), if_pos (show z_in (1 : Int32) 22 by decide)] at e
    by_cases c : q_mk (q_bl P tp i) = mk
    · rw [if_neg (fun z => z (by rw [c]))] at e
      exact ⟨true, _, e, o1, ⟨fun _ => ⟨h1, h2, c⟩, fun _ => rfl⟩, fun _ => post⟩
    · rw [if_pos (fun z => c ((nI_eq (by omega) (by omega)).mp z))] at e
      exact ⟨false, _, e, o1, ⟨fun z => Bool.noConfusion z, fun z => absurd z.2.2 c⟩, fun z => Bool.noConfusion z⟩
  | m + 1, i, S, hi, h, hs, h1, h2 => by
    have hP := h.1.2.2.2.2
    have hL := hP.2.2.2.2.1
    have hR := hP.1
    have e := b271_6_eq (d + 1) (nI (5 + p_R P + 2 * p_L P + 1)) (nI n) (nI mk) (nI (q_mk (q_bl P tp i))) (nI i) S h.1.1
    have hlt := q_mk_lt (n := 16) (q_bl P tp i) (fun k hk => by have := h2 k hk; omega)
    have g0 : gI S 397 (nI (5 + p_R P + 2 * p_L P + 1 + i)).toNatClampNeg = nI (tp.getD (5 + p_R P + 2 * p_L P + 1 + i) 0) := by rw [nI_clamp (by omega)]; exact h.2 _ (by omega)
    have l0 := tp_b hb (5 + p_R P + 2 * p_L P + 1 + i)
    have hmem := q_bl_m P tp (show i < n by omega)
    have hsucc := q_bl_s P tp i
    have htk := q_bl_t P tp (show i + 1 ≤ n by omega)
    rw [if_neg (show ¬ nI n ≤ nI i from fun z => by have := (nI_leI (by omega) (by omega)).mp z; omega), nI_add, if_pos ((ni_in (by omega)).mpr (by omega)), g0, m228 (d := d) h.1, zb_some] at e
    have fail : (¬ ((q_bl P tp n).Nodup ∧ (∀ k, k ∈ q_bl P tp n → k < p_L P) ∧ q_mk (q_bl P tp n) = mk)) → b271_6 (d + 1) (nI (5 + p_R P + 2 * p_L P + 1)) (nI n) (nI mk) (nI (q_mk (q_bl P tp i))) (nI i) S = some ((0 : Int32), S) → ∃ (v : Bool) (S' : z_S), b271_6 (d + 1) (nI (5 + p_R P + 2 * p_L P + 1)) (nI n) (nI mk) (nI (q_mk (q_bl P tp i))) (nI i) S = some (bI v, S') ∧ onM bD S S' ∧ (v = true ↔ (q_bl P tp n).Nodup ∧ (∀ k, k ∈ q_bl P tp n → k < p_L P) ∧ q_mk (q_bl P tp n) = mk) ∧ (v = true → gI S' 425 1 = nI n ∧ ∀ j, j < n → gI S' 426 (6 + j) = nI (tp.getD (5 + p_R P + 2 * p_L P + 1 + j) 0)) := fun hx he => ⟨false, S, he, onM.refl h.1.1, ⟨fun z => Bool.noConfusion z, fun z => absurd z hx⟩, fun z => Bool.noConfusion z⟩
    by_cases c1 : tp.getD (5 + p_R P + 2 * p_L P + 1 + i) 0 < p_L P
    · have hsh : (1 : Int32) <<< (nI (tp.getD (5 + p_R P + 2 * p_L P + 1 + i) 0) &&& 31) = nI (2 ^ tp.getD (5 + p_R P + 2 * p_L P + 1 + i) 0) := ni_shl (by omega)
      rw [ixO_n c1 (by omega), if_neg (by decide), m182 (d := d) h.1.1 (by omega) (by omega), zb_some, hsh, fa_or, q_mk_s, ← hsucc, show (6 : Int32) = nI 6 from rfl, nI_add, show (1 : Int32) = nI 1 from rfl, nI_add, if_pos ((ni_in (a := 6 + i) (by omega)).mpr (by omega)), show (nI (6 + i)).toNatClampNeg = 6 + i from nI_clamp (by omega)] at e
      by_cases c3 : tp.getD (5 + p_R P + 2 * p_L P + 1 + i) 0 ∈ q_bl P tp i
      · rw [(q_mk_b _ _).mpr c3, if_neg (by decide)] at e
        refine fail (fun z => ?_) e
        have := z.1.sublist (List.take_sublist (i + 1) _)
        rw [← htk, hsucc, List.nodup_append] at this
        exact this.2.2 _ c3 _ (List.mem_singleton.mpr rfl) rfl
      · have hf : (q_mk (q_bl P tp i)).testBit (tp.getD (5 + p_R P + 2 * p_L P + 1 + i) 0) = false := by
          cases hz : (q_mk (q_bl P tp i)).testBit (tp.getD (5 + p_R P + 2 * p_L P + 1 + i) 0) with
          | false => rfl
          | true => exact absurd ((q_mk_b _ _).mp hz) c3
        rw [hf, if_pos (by decide)] at e
        have o1 : onM bD S (sI S 426 (6 + i) (nI (tp.getD (5 + p_R P + 2 * p_L P + 1 + i) 0))) := onM_sI (D := bD) (c := 426) (onM.refl h.1.1) (Or.inr ⟨rfl, by omega, by omega⟩)
        obtain ⟨v, S', b1, b2, b3, b4⟩ := m271_l hb hl hl2 hn hmk m (i + 1) _ (by omega) (h.on (o1.mono fun c k z => bD_r z)) (fun j hj => by
          rw [gI_sI, if_pos rfl]
          by_cases z : j = i
          · rw [if_pos (by omega), z]
          · rw [if_neg (by omega)]; exact hs j (by omega)) (by
          rw [hsucc, List.nodup_append]
          exact ⟨h1, by simp, fun a ha b hb2 hab => c3 (by rw [List.mem_singleton] at hb2; rw [← hb2, ← hab]; exact ha)⟩) (fun k hk => by
          rw [hsucc, List.mem_append, List.mem_singleton] at hk
          rcases hk with z | z
          · exact h2 k z
          · rw [z]; exact c1)
        exact ⟨v, S', e.trans b1, o1.trans b2, b3, b4⟩
    · have : ixO (p_L P) (nI (tp.getD (5 + p_R P + 2 * p_L P + 1 + i) 0)) = false := by
        unfold ixO
        rw [decide_eq_false_iff_not, nI_toInt (by omega)]
        omega
      rw [this, if_pos (by decide)] at e
      exact fail (fun z => c1 (z.2.1 _ hmem)) e
theorem m272_r (hb : ∀ x, x ∈ tp → x < 256) (hl : 5 + p_R P ≤ tp.length) (hl2 : tp.length ≤ 1600) {y2 y3 : Int32} : ∀ (m i : Nat) (S : z_S), i + m = p_R P → mE S b P tp → mR S P 0 (q_rsi tp i) → (∀ r, r < i → tp.getD (5 + r) 0 ≤ 1) → ∃ S', onM rD S S' ∧ ((¬ (∀ r, r < p_R P → tp.getD (5 + r) 0 ≤ 1) ∧ b272_267 d y2 y3 (nI i) S = some ((0 : Int32), S')) ∨ ((∀ r, r < p_R P → tp.getD (5 + r) 0 ≤ 1) ∧ mR S' P 0 (q_rsi tp (p_R P)) ∧ b272_267 d y2 y3 (nI i) S = b272_329 d y2 y3 (nI 0) (nI 0) S'))
  | 0, i, S, hi, h, hs, hf => by
    have hP := h.1.2.2.2.2
    have hR := hP.1
    have hbb := h.1.2.1
    have e := b272_267_eq d y2 y3 (nI i) S h.1.1
    have gr : gI S 398 (nI b).toNatClampNeg = nI (p_R P) := by rw [nI_clamp (by omega)]; exact h.1.2.2.2.1.1
    rw [h.1.2.2.1, if_pos ((ni_in (by omega)).mpr hbb), gr, if_pos ((nI_leI (by omega) (by omega)).mpr (by omega))] at e
    rw [show i = p_R P by omega] at hs hf
    exact ⟨S, onM.refl h.1.1, Or.inr ⟨hf, hs, e⟩⟩
  | m + 1, i, S, hi, h, hs, hf => by
    have hP := h.1.2.2.2.2
    have hR := hP.1
    have hbb := h.1.2.1
    have e := b272_267_eq d y2 y3 (nI i) S h.1.1
    have gr : gI S 398 (nI b).toNatClampNeg = nI (p_R P) := by rw [nI_clamp (by omega)]; exact h.1.2.2.2.1.1
    have g0 : gI S 397 (nI (5 + i)).toNatClampNeg = nI (tp.getD (5 + i) 0) := by rw [nI_clamp (by omega)]; exact h.2 _ (by omega)
    have l0 := tp_b hb (5 + i)
    have hp16 := q_p2 (show i ≤ 16 by omega)
    have hml : tp.getD (5 + i) 0 * 2 ^ i ≤ 255 * 65536 := Nat.mul_le_mul (by omega) hp16
    have hsl : nI (tp.getD (5 + i) 0) <<< (nI i &&& 31) = nI (tp.getD (5 + i) 0 * 2 ^ i) := pk_shlN (nI i &&& 31) i (q_s31 ⟨i, by omega⟩) (by omega)
    have g2 : gI S 422 ((1 : Int32)).toNatClampNeg = nI (q_rh tp i) := hs.2.2.1
    have i1 : z_in (1 : Int32) 22 := by decide
    have i5 : z_in (nI (5 + i)) 1800 := (ni_in (by omega)).mpr (by omega)
    rw [h.1.2.2.1, if_pos ((ni_in (by omega)).mpr hbb), gr, if_neg (show ¬ nI (p_R P) ≤ nI i from fun z => by have := (nI_leI (by omega) (by omega)).mp z; omega), show (5 : Int32) = nI 5 from rfl, nI_add, if_pos i5, g0, if_pos i1, if_pos i5, if_pos i1, g2, hsl, fa_or] at e
    have k1 : nI (tp.getD (5 + i) 0) ≤ (1 : Int32) ↔ tp.getD (5 + i) 0 ≤ 1 := nI_leI (b := 1) (by omega) (by omega)
    by_cases c : tp.getD (5 + i) 0 ≤ 1
    · rw [if_pos (k1.mpr c), show nI i + (1 : Int32) = nI (i + 1) from nI_add i 1] at e
      have ho : onM rD S (sI S 422 ((1 : Int32)).toNatClampNeg (nI (q_rh tp i ||| tp.getD (5 + i) 0 * 2 ^ i))) := onM_sI (D := rD) (c := 422) (onM.refl h.1.1) (Or.inl (Or.inl ⟨Or.inr (Or.inr (Or.inl rfl)), rfl⟩))
      obtain ⟨s0, s1, s2, s3, s4, s5⟩ := hs
      obtain ⟨S', a1, a2⟩ := m272_r hb hl hl2 (y2 := y2) (y3 := y3) m (i + 1) _ (by omega) (h.on ho) ⟨by rw [gI_sI, if_neg (by decide)]; exact s0, by rw [gI_sI, if_neg (by decide)]; exact s1, by rw [gI_sI, if_pos rfl, if_pos (by decide)]; rfl, by rw [gI_sI, if_neg (by decide)]; exact s3, fun r hr => by rw [gI_sI, if_neg (by decide)]; exact s4 r hr, fun k hk hk2 => by rw [gI_sI, if_neg (by decide)]; exact s5 k hk hk2⟩ (fun r hr => by
        by_cases z : r = i
        · rw [z]; exact c
        · exact hf r (by omega))
      exact ⟨S', ho.trans a1, by rw [e]; exact a2⟩
    · rw [if_neg (fun z => c (k1.mp z))] at e
      exact ⟨S, onM.refl h.1.1, Or.inl ⟨fun z => c (z i (by omega)), e⟩⟩
end TU
