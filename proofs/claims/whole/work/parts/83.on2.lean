/-! ON, both. -/
section TX
variable {d : Nat} {S : z_S} {A : q_A}
theorem c148_0 (h : cA S A) : ∃ S', b148_37 d S = some ((0 : Int32), S') ∧ onM (fun c _ => c < 396) S S' ∧ cA S' (a_ref (a_tap A []) 5) := by
  have ho : onI (fun c k => c = 1 ∨ c = 0 ∧ k = 1) S (sI S 0 1 (0 : Int32)) := onI_sI (D := fun c k => c = 1 ∨ c = 0 ∧ k = 1) (c := 0) (onI.refl h.1) (Or.inr ⟨rfl, rfl⟩)
  have h1 := h.tap (t := []) ho ⟨by rw [gI_sI, if_pos rfl, if_pos rfl]; rfl, fun i hi => absurd hi (by simp)⟩
  have e := (b148_37_eq d S h.1).trans (b148_38_eq d (0 : Int32) S h.1)
  have h0 : gI (sI S 0 1 (0 : Int32)) 395 5 = nI (a_rf (a_tap A []) 5) := h1.2.2.2.2.2.2.2.2.1 5 (by omega)
  rw [if_neg (fun z => z rfl), if_pos (by decide), if_pos (by decide), show ((5 : Int32)).toNatClampNeg = 5 from rfl, h0, show (1 : Int32) = nI 1 from rfl, nI_add] at e
  exact ⟨_, e, (ho.M.mono fun c k z => by omega).trans (onM_sI (D := fun c _ => c < 396) (c := 395) (onM.refl h1.1) (by decide)), h1.ref⟩
theorem t_on : ∃ A', twoI (d + 20) 148 273 [] A A' := by
  by_cases c : 0 < p_m (a_P A) ∧ ∃ s', q_RD (a_P A) (a_tp A) s'
  · obtain ⟨hm, s', rd⟩ := c
    refine ⟨a_set (a_tap A []) s' [] [], two_m (nI 1) (fun hA => ?_) (fun S h hA => ?_) (fun S h hA => ?_)⟩
    · have ok := rd.ok hA.1
      exact (hA.tap (t := []) (by simp) (fun x hx => absurd hx List.not_mem_nil)).set hm ok.1 ok.2 (fun x hx => absurd hx List.not_mem_nil) (fun x hx => absurd hx List.not_mem_nil)
    · obtain ⟨q, hH, hq⟩ := h.H hA
      obtain ⟨q', k1, k2, k3, k4, k5⟩ := h.2.2.1
      have hqq : q' = q := k2.symm.trans hq
      subst hqq
      have e := e148 (d + 19) S h.1
      obtain ⟨v, S1, a1, a2, a3, a4⟩ := c45 (d := d + 15) hA.1 hA.2.2.2.2.2.2.2.1.2 hA.2.2.2.2.2.2.2.1.1 ⟨h.1, k1, hH.2.1, k5, h.2.1⟩
      have hv : v = true := a3.mpr ⟨s', rd⟩
      subst hv
      have h1 : cA S1 A := h.scr a2 (fun c k z => by unfold pD at z; unfold cScr; omega)
      have ho : onI (fun c k => c = 1 ∨ c = 0 ∧ k = 1) S1 (sI S1 0 1 (0 : Int32)) := onI_sI (D := fun c k => c = 1 ∨ c = 0 ∧ k = 1) (c := 0) (onI.refl h1.1) (Or.inr ⟨rfl, rfl⟩)
      have h2 := h1.tap (t := []) ho ⟨by rw [gI_sI, if_pos rfl, if_pos rfl]; rfl, fun i hi => absurd hi (by simp)⟩
      have s2 : cSt (sI S1 0 1 (0 : Int32)) 32 16 s' := (a4 s' rd).ag (ho.ag fun c k z => by unfold pD at z; omega)
      obtain ⟨S3, b1, b2, b3⟩ := c75 (d := d + 18) (p := 27) (p1 := 32) h2.1 (by decide +kernel) (by decide +kernel) (by omega) s2 ((rd.ok hA.1).1.Bd hA.1)
      have e2 := b148_38_eq (d + 19) (1 : Int32) S1 h1.1
      rw [if_pos (by decide), b1, Option.bind_some] at e2
      rw [c151 (d := d + 18) h hA, zb_some, decide_eq_true hm, if_neg (by decide), h.2.1.1, hq, a1, zb_some, if_neg (by decide), e2] at e
      have o3 : onI (fun c _ => 27 ≤ c ∧ c ≤ 39) (sI S1 0 1 (0 : Int32)) (sI (sI S3 37 0 (0 : Int32)) 39 0 (0 : Int32)) := onI_sI (D := fun c _ => 27 ≤ c ∧ c ≤ 39) (c := 39) (onI_sI (D := fun c _ => 27 ≤ c ∧ c ≤ 39) (c := 37) (b2.mono fun c k z => by unfold pD at z; omega) (by decide)) (by decide)
      obtain ⟨p1, p2, od, p3, p4, p5⟩ := h2.2.2.2.2.1
      obtain ⟨r1, r2, nx, r3, r4, r5⟩ := h2.2.2.2.2.2.1
      refine ⟨_, e, ((a2.M.mono fun c k z => by unfold pD at z; omega).trans (ho.M.mono fun c k z => by omega)).trans (o3.M.mono fun c k z => by omega), h2.set o3 (fun c k z => by omega) (b3.ag fun c k z => ?_) ⟨by simp, ?_, od, p3, ?_, fun i hi => absurd hi (by simp)⟩ ⟨by simp, ?_, nx, r3, ?_, fun i hi => absurd hi (by simp)⟩⟩
      · unfold pD at z
        rw [gI_sI, if_neg (by omega), gI_sI, if_neg (by omega)]
      · rw [gI_sI, if_neg (by decide), gI_sI, if_pos rfl, if_pos rfl]; rfl
      · rw [gI_sI, if_neg (by decide), gI_sI, if_pos rfl, if_neg (by decide), b2.I (by unfold pD; omega)]; exact p4
      · rw [gI_sI, if_pos rfl, if_pos rfl]; rfl
      · rw [gI_sI, if_pos rfl, if_neg (by decide), gI_sI, if_neg (by decide), b2.I (by unfold pD; omega)]; exact r4
    · have hW := h.W
      have ht := h.1
      have e := e273 (d + 19) S hW
      have o1 : onM (fun c k => c = 397 ∨ c = 396 ∧ k = 1) S (sI S 396 1 (0 : Int32)) := onM_sI (D := fun c k => c = 397 ∨ c = 396 ∧ k = 1) (c := 396) (onM.refl hW) (Or.inr ⟨rfl, rfl⟩)
      have h1 := h.tap (t := []) hA o1 ⟨by rw [gI_sI, if_pos rfl, if_pos rfl]; rfl, fun i hi => absurd hi (by simp)⟩
      have hA1 : aOk (a_tap A []) := hA.tap (by simp) (fun x hx => absurd hx List.not_mem_nil)
      obtain ⟨b, hM1⟩ := h1.2.1
      have ht1 : ∀ i, i < (a_tp A).length → gI (sI S 396 1 (0 : Int32)) 397 i = nI ((a_tp A).getD i 0) := fun i hi => by rw [gI_sI, if_neg (by decide)]; exact ht.2 i hi
      obtain ⟨v, S2, a1, a2, a3, a4⟩ := m272 (d := d + 15) (tp := a_tp A) (P := a_P A) hA.2.2.2.2.2.2.2.1.2 hA.2.2.2.2.2.2.2.1.1 ⟨hM1, ht1⟩ h1.2.2.1 (fun z => h1.st z) h1.2.2.2.2.2.1 hA.2.1
      have hv : v = true := a3.mpr ⟨hm, s', rd⟩
      subst hv
      obtain ⟨q1, q2⟩ := a4 rfl s' rd
      have h2 : mA S2 (a_tap A []) := h1.scr hA1 a2 (fun c k z => by unfold rD at z; unfold mScr; rcases z with z | z; exact Or.inl z; exact Or.inr (Or.inl z))
      obtain ⟨S3, b1, b2, b3, b4⟩ := m196 (d := d + 18) (t := 0) (f := 1) h2.W (by omega) (by omega) (by omega) q1 q2 ((rd.ok hA.1).1.Bd hA.1).2.2.1
      have b1' : fV (d + 19) 196 [.ref 396, .int (0 : Int32), .int (1 : Int32)] S2 = some S3 := b1
      rw [ht.1, a1, zb_some, if_pos (by decide), b1', Option.bind_some] at e
      have o3 : onM (fun c k => vD 0 c k ∨ kD 0 c k ∨ c = 396 ∧ k = 54) S2 (sI S3 396 54 (0 : Int32)) := onM_sI (D := fun c k => vD 0 c k ∨ kD 0 c k ∨ c = 396 ∧ k = 54) (c := 396) (b2.mono fun c k z => by rcases z with z | z; exact Or.inl z; exact Or.inr (Or.inl z)) (Or.inr (Or.inr ⟨rfl, rfl⟩))
      obtain ⟨r1, r2, uf, r3, r4, r5⟩ := h2.2.2.2.2.2.2.1
      refine ⟨_, e, ((o1.mono fun c k z => by omega).trans (a2.mono fun c k z => by unfold rD vD kD at z; omega)).trans (o3.mono fun c k z => by unfold vD kD at z; omega), h2.set hm o3 (fun c k z => by unfold vD kD at z; omega) (b3.ag ((rd.ok hA.1).1.Bd hA.1).2.2.1 fun c k z => ?_) (b4.ag fun c k z => ?_) ⟨by simp, ?_, uf, r3, ?_, fun i hi => absurd hi (by simp)⟩⟩
      · unfold vD at z
        rw [gI_sI, if_neg (by omega)]
      · unfold kD at z
        rw [gI_sI, if_neg (by omega)]
      · rw [gI_sI, if_pos rfl, if_pos rfl]; rfl
      · rw [gI_sI, if_pos rfl, if_neg (by decide), b2.I (by unfold vD kD; omega)]; exact r4
  · refine ⟨a_ref (a_tap A []) 5, two_m (nI 0) (fun hA => (hA.tap (t := []) (by simp) (fun x hx => absurd hx List.not_mem_nil)).ref) (fun S h hA => ?_) (fun S h hA => ?_)⟩
    · obtain ⟨q, hH, hq⟩ := h.H hA
      obtain ⟨q', k1, k2, k3, k4, k5⟩ := h.2.2.1
      have hqq : q' = q := k2.symm.trans hq
      subst hqq
      have e := e148 (d + 19) S h.1
      rw [c151 (d := d + 18) h hA, zb_some] at e
      by_cases hm : 0 < p_m (a_P A)
      · obtain ⟨v, S1, a1, a2, a3, a4⟩ := c45 (d := d + 15) hA.1 hA.2.2.2.2.2.2.2.1.2 hA.2.2.2.2.2.2.2.1.1 ⟨h.1, k1, hH.2.1, k5, h.2.1⟩
        have hv : v = false := by
          cases v with
          | false => rfl
          | true => exact absurd ⟨hm, a3.mp rfl⟩ c
        subst hv
        have h1 : cA S1 A := h.scr a2 (fun c k z => by unfold pD at z; unfold cScr; omega)
        obtain ⟨S2, b1, b2, b3⟩ := c148_0 (d := d + 19) h1
        rw [decide_eq_true hm, if_neg (by decide), h.2.1.1, hq, a1, zb_some, if_pos (by rfl), b1] at e
        exact ⟨S2, e, (a2.M.mono fun c k z => by unfold pD at z; omega).trans b2, b3⟩
      · obtain ⟨S2, b1, b2, b3⟩ := c148_0 (d := d + 19) h
        rw [decide_eq_false hm, if_pos (by rfl), b1] at e
        exact ⟨S2, e, b2, b3⟩
    · have hW := h.W
      have ht := h.1
      have e := e273 (d + 19) S hW
      have o1 : onM (fun c k => c = 397 ∨ c = 396 ∧ k = 1) S (sI S 396 1 (0 : Int32)) := onM_sI (D := fun c k => c = 397 ∨ c = 396 ∧ k = 1) (c := 396) (onM.refl hW) (Or.inr ⟨rfl, rfl⟩)
      have h1 := h.tap (t := []) hA o1 ⟨by rw [gI_sI, if_pos rfl, if_pos rfl]; rfl, fun i hi => absurd hi (by simp)⟩
      have hA1 : aOk (a_tap A []) := hA.tap (by simp) (fun x hx => absurd hx List.not_mem_nil)
      obtain ⟨b, hM1⟩ := h1.2.1
      have ht1 : ∀ i, i < (a_tp A).length → gI (sI S 396 1 (0 : Int32)) 397 i = nI ((a_tp A).getD i 0) := fun i hi => by rw [gI_sI, if_neg (by decide)]; exact ht.2 i hi
      obtain ⟨v, S2, a1, a2, a3, a4⟩ := m272 (d := d + 15) (tp := a_tp A) (P := a_P A) hA.2.2.2.2.2.2.2.1.2 hA.2.2.2.2.2.2.2.1.1 ⟨hM1, ht1⟩ h1.2.2.1 (fun z => h1.st z) h1.2.2.2.2.2.1 hA.2.1
      have hv : v = false := by
        cases v with
        | false => rfl
        | true => exact absurd (a3.mp rfl) c
      subst hv
      have h2 : mA S2 (a_tap A []) := h1.scr hA1 a2 (fun c k z => by unfold rD at z; unfold mScr; rcases z with z | z; exact Or.inl z; exact Or.inr (Or.inl z))
      have a5 : fI (d + 19) 194 [.ref 396, .int 5] S2 = _ := m194 (d := d + 18) (j := 5) h2.W h2.2.2.2.2.2.2.2.2.2.1 (by omega)
      rw [ht.1, a1, zb_some, if_neg (by decide), a5, zb_some, if_pos (by decide)] at e
      exact ⟨_, e, ((o1.mono fun c k z => by omega).trans (a2.mono fun c k z => by unfold rD vD kD at z; omega)).trans (onM_sI (D := fun c _ => 396 ≤ c) (c := 419) (onM.refl h2.W) (by decide)), h2.ref hA1⟩
end TX
