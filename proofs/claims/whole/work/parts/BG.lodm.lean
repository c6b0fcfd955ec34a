/-! THE TEXT: lodge() of both. -/
section ID
variable {d b : Nat} {T : List Nat} {S : z_S} {A : q_A}
/-- what is seen of the reference but for plan, tape, fault and refusals -/
theorem mA.lo {S' : z_S} {D : Nat → Nat → Prop} (h : mA S A) (hA : aOk A) (ho : onM D S S') (hd : ∀ c k, D c k → c = 396 ∧ (1 ≤ k ∧ k ≤ 13 ∨ 29 ≤ k ∧ k ≤ 42) ∨ 398 ≤ c ∧ c ≤ 419) : gI S' 396 56 = nI (p_T (a_P A)) ∧ mSt S' 0 (m_s A) ∧ mKp S' 0 (a_kl A) ∧ mPa S' (a_ud A) ∧ mMt S' (a_mt A) ∧ gL S' 396 55 = lN (a_sd A) ∧ xTp S' 396 71 441 (a_im A) := by
  obtain ⟨h1, ⟨b, h2⟩, h3, h4, h5, h6, h7, h8, h9, h10, h11⟩ := h
  have hP := hA.1
  refine ⟨by rw [ho.I (fun w => by have := hd _ _ w; omega)]; exact h4, h5.ag (hA.2.1.Bd hP).2.2.1 (ho.ag fun c k z w => by unfold vD at z; have := hd c k w; omega), h6.ag (ho.ag fun c k z w => by unfold kD at z; have := hd c k w; omega), h7.ag (fun u hu => ((hA.2.2.2.2.1 u hu).1.Bd hP).2.2.1) (ho.ag fun c k z w => ?_), h8.ag (ho.ag fun c k z w => by have := hd c k w; omega), by rw [ho.L (fun w => by have := hd _ _ w; omega)]; exact h9.1, h11.ag (ho.ag fun c k z w => by have := hd c k w; omega)⟩
  have := hd c k w
  rcases z with z | ⟨v, z1, z2⟩
  · omega
  · unfold vD kD at z2; omega
theorem m192 (h : mA S A) (hA : aOk A) : ∃ S1, fI (d + 9) 192 [.ref 396] S = some (g_lvl A, S1) ∧ onM (fun c _ => 396 ≤ c) S S1 ∧ mA S1 (g_lA A) := by
  obtain ⟨b0, h2⟩ := h.2.1
  have hb0 := h2.2.1
  obtain ⟨b, hb⟩ : ∃ b, b = 1 - b0 := ⟨_, rfl⟩
  have tp := hA.2.2.2.2.2.2.2.1
  obtain ⟨S0, o0, t1, t30, g⟩ := m192a (d := d + 1) (b := b) (T := a_tp A) h2.1 (by omega) (by rw [show 1 - b = b0 by omega]; exact h2.2.2.1) ⟨h.1.1, fun i hi => ⟨h.1.2 i hi, by
    show (a_tp A).getD i 0 < 256
    rw [List.getD_eq_getElem?_getD, List.getElem?_eq_getElem hi]
    exact tp.2 _ (List.getElem_mem hi)⟩⟩ tp.1
  have rD_c : ∀ {c k}, g_rD b c k → c = 396 ∧ (3 ≤ k ∧ k ≤ 9 ∨ k = 12 ∨ 29 ≤ k ∧ k ≤ 41 ∧ k ≠ 30) ∨ 398 ≤ c ∧ c ≤ 418 := fun {c k} z => by unfold g_rD bkD at z; omega
  unfold g_lvl g_lA
  cases eg : g_txt (a_tp A) with
  | inl f =>
    rw [eg] at g
    obtain ⟨v, S', a1, a2⟩ := g
    rw [b192_180_eq (d + 8) v S' a2.1.W] at a1
    have g8 : gI (sI (sI S' 396 10 (gI S' 396 8)) 396 11 (gI (sI S' 396 10 (gI S' 396 8)) 396 9)) 396 8 = gI S' 396 8 := rfl
    have g10 : gI (sI (sI S' 396 10 (gI S' 396 8)) 396 11 (gI (sI S' 396 10 (gI S' 396 8)) 396 9)) 396 10 = gI S' 396 8 := rfl
    have g11 : gI (sI (sI S' 396 10 (gI S' 396 8)) 396 11 (gI (sI S' 396 10 (gI S' 396 8)) 396 9)) 396 11 = gI S' 396 9 := rfl
    have o5 : onM (fun c k => c = 396 ∧ (k = 10 ∨ k = 11)) S' (sI (sI S' 396 10 (gI S' 396 8)) 396 11 (gI (sI S' 396 10 (gI S' 396 8)) 396 9)) := onM_sI (D := fun c k => c = 396 ∧ (k = 10 ∨ k = 11)) (c := 396) (k := 11) (onM_sI (D := fun c k => c = 396 ∧ (k = 10 ∨ k = 11)) (c := 396) (k := 10) (onM.refl a2.1.W) (by omega)) (by omega)
    rw [g8, if_neg a2.n8.1] at a1
    generalize sI (sI S' 396 10 (gI S' 396 8)) 396 11 (gI (sI S' 396 10 (gI S' 396 8)) 396 9) = S5 at *
    have oS : onM (fun c k => lgD b c k ∨ c = 396 ∧ (k = 10 ∨ k = 11)) S S5 := (o0.mono fun c k z => Or.inl z).trans ((a2.1.mono fun c k z => Or.inl (Or.inl z)).trans (o5.mono fun c k z => Or.inr z))
    have oc : ∀ {c k}, (lgD b c k ∨ c = 396 ∧ (k = 10 ∨ k = 11)) → c = 396 ∧ (1 ≤ k ∧ k ≤ 12 ∨ 29 ≤ k ∧ k ≤ 41) ∨ 398 ≤ c ∧ c ≤ 418 := fun {c k} z => by
      rcases z with z | z
      · have := lgD_c z; omega
      · omega
    have rf : xRf S5 419 (a_rf A) := h.2.2.2.2.2.2.2.2.2.1.ag (oS.ag fun c k z y => by have := oc y; omega)
    have e4 : fI (d + 8) 194 [.ref 396, .int (1 : Int32)] S5 = _ := m194 (d := d + 7) (j := 1) oS.W rf (by omega)
    rw [e4, zb_some] at a1
    have o6 : onM (fun c k => c = 419 ∧ k = 1) S5 (sI S5 419 1 (nI (a_rf A 1 + 1))) := onM_sI (D := fun c k => c = 419 ∧ k = 1) (c := 419) (k := 1) (onM.refl oS.W) ⟨rfl, rfl⟩
    have r6 : xRf (sI S5 419 1 (nI (a_rf A 1 + 1))) 419 (q_u (a_rf A) 1 (a_rf A 1 + 1)) := fun j hj => by
      rw [gI_sI, if_pos rfl]
      by_cases c : j = 1
      · rw [if_pos c, c, q_us]
      · rw [if_neg c, q_un c]; exact rf j hj
    generalize sI S5 419 1 (nI (a_rf A 1 + 1)) = S6 at *
    have o7 : onM (fun c k => (lgD b c k ∨ c = 396 ∧ (k = 10 ∨ k = 11)) ∨ c = 419) S S6 := (oS.mono fun c k z => Or.inl z).trans (o6.mono fun c k z => Or.inr z.1)
    have o7c : ∀ {c k}, ((lgD b c k ∨ c = 396 ∧ (k = 10 ∨ k = 11)) ∨ c = 419) → c = 396 ∧ (1 ≤ k ∧ k ≤ 12 ∨ 29 ≤ k ∧ k ≤ 41) ∨ 398 ≤ c ∧ c ≤ 419 := fun {c k} z => by
      rcases z with z | z
      · have := oc z; omega
      · omega
    obtain ⟨l1, l2, l3, l4, l5, l6, l7⟩ := h.lo hA o7 (fun c k z => by have := o7c z; omega)
    refine ⟨S6, a1, o7.mono fun c k z => by have := o7c z; omega, ⟨?_, fun i hi => absurd hi (Nat.not_lt_zero _)⟩, ⟨b0, h2.bk o7 fun c k z y => ?_⟩, ?_, l1, l2, l3, l4, l5, ⟨l6, ?_, ?_⟩, r6, l7⟩
    · rw [o6.I (by omega), o5.I (by omega), a2.1.I (fun z => by have := rD_c z; omega)]; exact t1
    · rcases y with y | y
      · rcases y with y | y
        · exact lgD_o (show b0 ≠ b by omega) z y
        · rcases z with z | z
          · unfold bkD at z; omega
          · omega
      · rcases z with z | z
        · unfold bkD at z; omega
        · omega
    · rw [o7.I (fun z => by have := o7c z; omega)]; exact h.2.2.1
    · rw [o6.I (by omega), g10]; exact a2.2.1
    · rw [o6.I (by omega), g11]; exact a2.2.2.1
  | inr Q =>
    rw [eg] at g
    obtain ⟨p, S', a1, a2, a3, a4, a5⟩ := g
    have hR := a4.2.2.2.2.1 a5
    rw [b192_180_eq (d + 8) _ S' a3.W] at a1
    have g8 : gI (sI (sI S' 396 10 (gI S' 396 8)) 396 11 (gI (sI S' 396 10 (gI S' 396 8)) 396 9)) 396 8 = gI S' 396 8 := rfl
    rw [g8, if_pos a3.z8.1] at a1
    have w10 : gI (sI (sI (sI (sI S' 396 10 (gI S' 396 8)) 396 11 (gI (sI S' 396 10 (gI S' 396 8)) 396 9)) 396 13 (gI (sI (sI S' 396 10 (gI S' 396 8)) 396 11 (gI (sI S' 396 10 (gI S' 396 8)) 396 9)) 396 30)) 396 42 (1 : Int32)) 396 10 = gI S' 396 8 := rfl
    have w11 : gI (sI (sI (sI (sI S' 396 10 (gI S' 396 8)) 396 11 (gI (sI S' 396 10 (gI S' 396 8)) 396 9)) 396 13 (gI (sI (sI S' 396 10 (gI S' 396 8)) 396 11 (gI (sI S' 396 10 (gI S' 396 8)) 396 9)) 396 30)) 396 42 (1 : Int32)) 396 11 = gI S' 396 9 := rfl
    have w13 : gI (sI (sI (sI (sI S' 396 10 (gI S' 396 8)) 396 11 (gI (sI S' 396 10 (gI S' 396 8)) 396 9)) 396 13 (gI (sI (sI S' 396 10 (gI S' 396 8)) 396 11 (gI (sI S' 396 10 (gI S' 396 8)) 396 9)) 396 30)) 396 42 (1 : Int32)) 396 13 = gI S' 396 30 := rfl
    have w42 : gI (sI (sI (sI (sI S' 396 10 (gI S' 396 8)) 396 11 (gI (sI S' 396 10 (gI S' 396 8)) 396 9)) 396 13 (gI (sI (sI S' 396 10 (gI S' 396 8)) 396 11 (gI (sI S' 396 10 (gI S' 396 8)) 396 9)) 396 30)) 396 42 (1 : Int32)) 396 42 = (1 : Int32) := rfl
    have o5 : onM (fun c k => c = 396 ∧ (k = 10 ∨ k = 11 ∨ k = 13 ∨ k = 42)) S' (sI (sI (sI (sI S' 396 10 (gI S' 396 8)) 396 11 (gI (sI S' 396 10 (gI S' 396 8)) 396 9)) 396 13 (gI (sI (sI S' 396 10 (gI S' 396 8)) 396 11 (gI (sI S' 396 10 (gI S' 396 8)) 396 9)) 396 30)) 396 42 (1 : Int32)) := onM_sI (D := fun c k => c = 396 ∧ (k = 10 ∨ k = 11 ∨ k = 13 ∨ k = 42)) (c := 396) (k := 42) (onM_sI (D := fun c k => c = 396 ∧ (k = 10 ∨ k = 11 ∨ k = 13 ∨ k = 42)) (c := 396) (k := 13) (onM_sI (D := fun c k => c = 396 ∧ (k = 10 ∨ k = 11 ∨ k = 13 ∨ k = 42)) (c := 396) (k := 11) (onM_sI (D := fun c k => c = 396 ∧ (k = 10 ∨ k = 11 ∨ k = 13 ∨ k = 42)) (c := 396) (k := 10) (onM.refl a3.W) (by omega)) (by omega)) (by omega)) (by omega)
    generalize sI (sI (sI (sI S' 396 10 (gI S' 396 8)) 396 11 (gI (sI S' 396 10 (gI S' 396 8)) 396 9)) 396 13 (gI (sI (sI S' 396 10 (gI S' 396 8)) 396 11 (gI (sI S' 396 10 (gI S' 396 8)) 396 9)) 396 30)) 396 42 (1 : Int32) = S5 at *
    have oS : onM (fun c k => lgD b c k ∨ c = 396 ∧ (k = 10 ∨ k = 11 ∨ k = 13 ∨ k = 42)) S S5 := (o0.mono fun c k z => Or.inl z).trans ((a2.mono fun c k z => Or.inl (Or.inl z)).trans (o5.mono fun c k z => Or.inr z))
    have oc : ∀ {c k}, (lgD b c k ∨ c = 396 ∧ (k = 10 ∨ k = 11 ∨ k = 13 ∨ k = 42)) → c = 396 ∧ (1 ≤ k ∧ k ≤ 13 ∨ 29 ≤ k ∧ k ≤ 42) ∨ 398 ≤ c ∧ c ≤ 418 := fun {c k} z => by
      rcases z with z | z
      · have := lgD_c z; omega
      · omega
    obtain ⟨l1, l2, l3, l4, l5, l6, l7⟩ := h.lo hA oS (fun c k z => by have := oc z; omega)
    have q5 : mQ S5 b Q := a3.2.2.2.2.on o5 (fun c k z y => by unfold bkD at z; omega) a4.2.2.1 (g_iv_b a4 tp.1)
    have M5 : cM S5 b Q.1 := ⟨o5.W, by omega, by rw [w13]; exact a3.2.2.1.2, q5.pl a4 tp.1 hR, a4.2.2.1⟩
    obtain ⟨S6, c1, c2, c3, c4, c5, c6, c7⟩ := m197 (d := d) M5 l3
    rw [c1, Option.bind_some] at a1
    have bc : ∀ {c k}, bgD c k → 420 ≤ c ∧ c ≤ 431 ∨ c = 396 ∧ (k = 54 ∨ k = 56 ∨ k = 63) := fun {c k} z => bgD_c z
    refine ⟨S6, a1, (oS.mono fun c k z => by have := oc z; omega).trans (c2.mono fun c k z => by have := bc z; omega), ⟨?_, fun i hi => absurd hi (Nat.not_lt_zero _)⟩, ⟨b, M5.on c2 fun c k z y => by have := bc y; omega⟩, ?_, c7, ?_, c4, ⟨Nat.zero_le _, c5, ?_⟩, ⟨c6, fun i hi => absurd hi (Nat.not_lt_zero _)⟩, ⟨?_, ?_, ?_⟩, ?_, ?_⟩
    · rw [c2.I (fun z => by have := bc z; omega), o5.I (by omega), a2.I (fun z => by have := rD_c z; omega)]; exact t1
    · rw [c2.I (fun z => by have := bc z; omega), w42]
      show (1 : Int32) = bI (decide (0 < p_m Q.1))
      rw [decide_eq_true (by omega)]
      rfl
    · have hme := m_s_eq (A := (([], Q.1, q_opn Q.1 (p_c Q.1) (q_no (p_H Q.1)), [], [], [], a_sd A, (0, none), a_rf A, a_im A) : q_A)) (show 0 < p_m Q.1 by omega)
      rw [hme]
      exact c3
    · obtain ⟨_, _, uf, u1, u2, _⟩ := l4
      exact ⟨uf, u1, by rw [c2.I (fun z => by have := bc z; omega)]; exact u2, fun j hj => absurd hj (Nat.not_lt_zero _)⟩
    · rw [c2.L (fun z => by have := bc z; omega)]; exact l6
    · rw [c2.I (fun z => by have := bc z; omega), w10]; exact a3.2.1.1
    · rw [c2.I (fun z => by have := bc z; omega), w11]; exact a3.2.1.2
    · exact (h.2.2.2.2.2.2.2.2.2.1.ag (oS.ag fun c k z y => by have := oc y; omega)).ag (c2.ag fun c k z y => by have := bc y; omega)
    · exact l7.ag (c2.ag fun c k z y => by have := bc y; omega)
theorem g_lop_iv : ∀ (m n p : Nat) (Q Q' : g_Q), n + m = 61 → p_m Q.1 = n → g_iv T p Q → g_lop T m p Q = .inr Q' → ∃ p', g_iv T p' Q' ∧ p_m Q'.1 ≠ 0
  | 0, n, p, Q, Q', _, _, _, e => by cases e
  | m + 1, n, p, Q, Q', hn, hm, hi, e => by
    have n60 := hi.2.2.1.2.2.2.2.2.1
    rw [g_lop] at e
    by_cases k0 : g_kd T p = 0
    · rw [if_pos k0] at e
      by_cases z : p_m Q.1 = 0
      · rw [if_pos z] at e; cases e
      · rw [if_neg z] at e
        cases e
        exact ⟨p, hi, z⟩
    · rw [if_neg k0] at e
      by_cases z : p_m Q.1 = 60
      · rw [if_pos z] at e; cases e
      · rw [if_neg z] at e
        cases eg : g_stm T p Q with
        | inl f => rw [eg] at e; cases e
        | inr x =>
          rw [eg] at e
          obtain ⟨y1, y2, y3, y4⟩ := g_stm_iv hi eg
          have e' : (if g_sg T x.1 59 then g_lop T m (g_en T x.1) (P_m x.2.1 (p_m x.2.1 + 1), x.2.2) else .inl (1, g_ft T x.1)) = .inr Q' := e
          cases hs : g_sg T x.1 59 with
          | false => rw [hs, if_neg Bool.false_ne_true] at e'; cases e'
          | true =>
            rw [hs, if_pos rfl] at e'
            exact g_lop_iv m (n + 1) _ _ Q' (by omega) (by show p_m x.2.1 + 1 = n + 1; omega) (g_iv_m (x := x) y2 y4 (by omega) hs) e'
theorem g_lA_ok (hA : aOk A) : aOk (g_lA A) := by
  unfold g_lA
  cases eg : g_txt (a_tp A) with
  | inl f =>
    obtain ⟨h1, h2, h3, h4, h5, h6, h7, h8, h9, h10⟩ := hA
    exact ⟨h1, h2, h3, h4, h5, h6, h7, ⟨Nat.zero_le _, (fun x hx => by cases hx)⟩, h9, h10⟩
  | inr Q =>
    obtain ⟨p, i1, i2⟩ := g_lop_iv (T := a_tp A) 61 0 0 _ Q (by omega) rfl g_iv_0 eg
    have hP := i1.2.2.1
    obtain ⟨q1, q2⟩ := q_opn_i hP (p_c Q.1) (q_no (p_H Q.1)) (q_no_G hP) hP.2.2.2.2.2.2.2.2.2.2.1 hP.2.2.2.2.2.2.2.2.2.1 (fun _ _ => rfl)
    exact ⟨hP, q1, Nat.le_trans (Nat.le_of_eq q2) (Nat.zero_le 999), (fun x hx => by cases hx), (fun x hx => by cases hx), ⟨Nat.zero_le _, (fun x hx => by cases hx)⟩, hA.2.2.2.2.2.2.1, ⟨Nat.zero_le _, (fun x hx => by cases hx)⟩, hA.2.2.2.2.2.2.2.2.1, fun z => absurd z i2⟩
/-- the reference sees nothing of the class -/
theorem mA.lR {S' : z_S} {R : Nat → Prop} (h : mA S A) (hA : aOk A) (ho : lR (fun c _ => c < 396) R S S') : mA S' A := by
  obtain ⟨h1, ⟨b, h2⟩, h3, h4, h5, h6, h7, h8, h9, h10, h11⟩ := h
  have hP := hA.1
  have z : ∀ {c k}, 396 ≤ c → gI S' c k = gI S c k := fun {c k} a => ho.2.2.2 c k (by omega)
  have zl : ∀ {c k}, gL S' c k = gL S c k := fun {c k} => by rw [ho.2.1]
  have ag : ∀ {Q : Nat → Nat → Prop}, (∀ c k, Q c k → 396 ≤ c) → agI Q S S' := fun {Q} hq c k y => z (hq c k y)
  refine ⟨h1.ag (ag fun c k z => by omega), ⟨b, ?_⟩, by rw [z (by decide)]; exact h3, by rw [z (by decide)]; exact h4, h5.ag (hA.2.1.Bd hP).2.2.1 (ag fun c k z => by unfold vD at z; omega), h6.ag (ag fun c k z => by unfold kD at z; omega), h7.ag (fun u hu => ((hA.2.2.2.2.1 u hu).1.Bd hP).2.2.1) (ag fun c k z => ?_), h8.ag (ag fun c k z => by omega), ⟨by rw [zl]; exact h9.1, by rw [z (by decide)]; exact h9.2.1, by rw [z (by decide)]; exact h9.2.2⟩, h10.ag (ag fun c k z => by omega), h11.ag (ag fun c k z => by omega)⟩
  · obtain ⟨h1, h2, h3, h4, h5⟩ := h2
    obtain ⟨g0, g1, g2, g3, g4, g5, g6, g7, g8, g9, g10, g11⟩ := h4
    refine ⟨ho.1, h2, by rw [z (by decide)]; exact h3, ⟨?_, ?_, ?_, ?_, ?_, ?_, ?_, fun i hi => ?_, fun i hi => ?_, fun i hi => ?_, fun i hi => ?_, fun w hw => ?_⟩, h5⟩
    · rw [z (by decide)]; exact g0
    · rw [z (by decide)]; exact g1
    · rw [z (by decide)]; exact g2
    · rw [z (by decide)]; exact g3
    · rw [z (by decide)]; exact g4
    · rw [z (by decide)]; exact g5
    · rw [z (by decide)]; exact g6
    · rw [z (by decide)]; exact g7 i hi
    · rw [z (by decide)]; exact g8 i hi
    · rw [z (by decide)]; exact g9 i hi
    · rw [zl]; exact g10 i hi
    · rcases g11 w hw with ⟨k1, k2⟩ | ⟨k1, f, k2, k3, k4, k5⟩
      · exact Or.inl ⟨k1, by rw [z (by decide)]; exact k2⟩
      · refine Or.inr ⟨k1, f, k2, ?_, ?_, fun i c hc => ?_⟩
        · rw [z (by decide)]; exact k3
        · rw [z (by decide)]; exact k4
        · rw [z (by decide), z (by decide)]; exact k5 i c hc
  · rcases z with z | ⟨v, z1, z2⟩
    · omega
    · unfold vD kD at z2; omega
theorem t_lodge : twoI (d + 72) 109 192 [] A (g_lA A) := by
  intro S ⟨h1, h2, h3⟩
  obtain ⟨S1, a1, a2, a3⟩ := c109 (d := d) h1 h3
  obtain ⟨S2, b1, b2, b3⟩ := m192 (d := d + 63) (h2.lR h3 a2) h3
  exact ⟨_, S1, S2, a1, b1, a3.M (b2.mono fun c k z => by unfold cScr; omega), b3, g_lA_ok h3⟩
end ID
