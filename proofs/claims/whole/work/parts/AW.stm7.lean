/-! THE TEXT: the class reads a text. -/
section HJ
variable {d q : Nat} {T : List Nat} {S : z_S}
/-- what a text's reading may change -/
def lR (D : Nat → Nat → Prop) (R : Nat → Prop) (S S' : z_S) : Prop := z_W S' ∧ gL S' = gL S ∧ (∀ c k, ¬ R c → gR S' c k = gR S c k) ∧ ∀ c k, ¬ D c k → gI S' c k = gI S c k
theorem lR.o {D : Nat → Nat → Prop} {R : Nat → Prop} {S S' S2 : z_S} (h : lR D R S S') (o : onI D S' S2) : lR D R S S2 := ⟨o.W, o.2.2.1.trans h.2.1, fun c k z => by rw [o.2.1]; exact h.2.2.1 c k z, fun c k z => (o.I z).trans (h.2.2.2 c k z)⟩
def lD (q : Nat) : Nat → Nat → Prop := fun c _ => c = 18 ∨ c = 19 ∨ q ≤ c ∧ c ≤ q + 7
theorem c8s (hW : z_W S) (hq : z_K q = 6) (hT : T.length ≤ 1600) (ht : ∀ i, i < T.length → gI S 1 i = nI (g_t T i) ∧ g_t T i < 256) (ho : cOw S) : ∃ S0, lR (lD q) (fun c => c = 18 ∨ c = 19) S S0 ∧ cRl (fI (d + 71) 8 [.ref 18, .ref 1, .int (nI T.length), .ref q] S) S0 T q (g_txt T) := by
  have q2 := zP6 hq
  have e := e8 (d + 70) 1 (nI T.length) q S hW zK_1 hq
  have w1 : z_W (sR (sI (sI S 18 0 (0 : Int32)) 18 1 (-1 : Int32)) 18 3 (some q)) := zR_18_3 hW.sI.sI hq
  have p1 : gP (sR (sI (sI S 18 0 (0 : Int32)) 18 1 (-1 : Int32)) 18 3 (some q)) 18 3 = q := by unfold gP; rw [gR_sR, if_pos rfl, if_pos rfl]; rfl
  have l1 : lR (lD q) (fun c => c = 18 ∨ c = 19) S (sR (sI (sI S 18 0 (0 : Int32)) 18 1 (-1 : Int32)) 18 3 (some q)) := by
    refine ⟨w1, rfl, fun c k z => ?_, fun c k z => ?_⟩
    · rw [gR_sR, if_neg (fun y => z (Or.inl y))]; rfl
    · have z' : c ≠ 18 := fun y => z (Or.inl y)
      rw [gI_sR, gI_sI, if_neg z', gI_sI, if_neg z']
  have f0 : gI (sR (sI (sI S 18 0 (0 : Int32)) 18 1 (-1 : Int32)) 18 3 (some q)) 18 0 = (0 : Int32) := rfl
  have f1 : gI (sR (sI (sI S 18 0 (0 : Int32)) 18 1 (-1 : Int32)) 18 3 (some q)) 18 1 = (-1 : Int32) := rfl
  rw [p1] at e
  generalize sR (sI (sI S 18 0 (0 : Int32)) 18 1 (-1 : Int32)) 18 3 (some q) = S1 at *
  obtain ⟨S2, a1, a2, a3⟩ := c57s (d := d + 68) w1 hq
  rw [a1, Option.bind_some] at e
  have l2 : lR (lD q) (fun c => c = 18 ∨ c = 19) S S2 := l1.o (a2.mono fun c k z => Or.inr (Or.inr z))
  have e7 := e97 (d + 69) 1 (nI T.length) S2 a2.W zK_1
  have w3 : z_W (sR S2 19 1 (some 1)) := zR_19_1 a2.W zK_1
  have mn : fI (d + 69) 279 [.int (nI T.length), .int (Int32.ofNat (z_Ln 1))] (sR S2 19 1 (some 1)) = some (nI T.length, sR S2 19 1 (some 1)) := by
    have := c279 (d := d + 68) (a := T.length) (b := 1600) (S := sR S2 19 1 (some 1)) w3 (by omega) (by omega)
    rw [Nat.min_eq_left hT] at this
    rw [g_Ln1]
    exact this
  rw [mn, zb_some] at e7
  have l3 : lR (lD q) (fun c => c = 18 ∨ c = 19) S (sI (sI (sI (sR S2 19 1 (some 1)) 19 2 (nI T.length)) 19 3 (0 : Int32)) 19 4 (0 : Int32)) := by
    refine ⟨w3.sI.sI.sI, l2.2.1, fun c k z => ?_, fun c k z => ?_⟩
    · show gR (sR S2 19 1 (some 1)) c k = _
      rw [gR_sR, if_neg (fun y => z (Or.inr y))]
      exact l2.2.2.1 c k z
    · have z' : c ≠ 19 := fun y => z (Or.inr (Or.inl y))
      rw [gI_sI, if_neg z', gI_sI, if_neg z', gI_sI, if_neg z', gI_sR]
      exact l2.2.2.2 c k z
  have g4 : ∀ {c k}, c ≠ 19 → gI (sI (sI (sI (sR S2 19 1 (some 1)) 19 2 (nI T.length)) 19 3 (0 : Int32)) 19 4 (0 : Int32)) c k = gI S2 c k := fun {c k} z' => by rw [gI_sI, if_neg z', gI_sI, if_neg z', gI_sI, if_neg z', gI_sR]
  have p4 : gP (sI (sI (sI (sR S2 19 1 (some 1)) 19 2 (nI T.length)) 19 3 (0 : Int32)) 19 4 (0 : Int32)) 19 1 = 1 := by
    show gP (sR S2 19 1 (some 1)) 19 1 = 1
    unfold gP; rw [gR_sR, if_pos rfl, if_pos rfl]; rfl
  have p5 : gP (sI (sI (sI (sR S2 19 1 (some 1)) 19 2 (nI T.length)) 19 3 (0 : Int32)) 19 4 (0 : Int32)) 18 3 = q := by
    show gP (sR S2 19 1 (some 1)) 18 3 = q
    unfold gP; rw [gR_sR, if_neg (by decide), ← p1]
    show (gR S2 18 3).getD 0 = gP S1 18 3
    unfold gP; rw [a2.2.1]
  have c2 : gI (sI (sI (sI (sR S2 19 1 (some 1)) 19 2 (nI T.length)) 19 3 (0 : Int32)) 19 4 (0 : Int32)) 19 2 = nI T.length := rfl
  have c3 : gI (sI (sI (sI (sR S2 19 1 (some 1)) 19 2 (nI T.length)) 19 3 (0 : Int32)) 19 4 (0 : Int32)) 19 3 = nI 0 := rfl
  have c4 : gI (sI (sI (sI (sR S2 19 1 (some 1)) 19 2 (nI T.length)) 19 3 (0 : Int32)) 19 4 (0 : Int32)) 19 4 = nI 0 := rfl
  generalize sI (sI (sI (sR S2 19 1 (some 1)) 19 2 (nI T.length)) 19 3 (0 : Int32)) 19 4 (0 : Int32) = S4 at *
  have tx : cTx S4 T := ⟨l3.1, p4, c2, hT, fun i hi => ⟨by rw [l3.2.2.2 1 i (by unfold lD; omega)]; exact (ht i hi).1, (ht i hi).2⟩, fun i hi => by rw [l3.2.2.2 20 i (by unfold lD; omega)]; exact ho i hi⟩
  obtain ⟨S5, b1, b2, b3⟩ := c98 (d := d + 66) (p := 0) (k0 := 0) tx (Nat.zero_le _) (by omega) c4 c3 (fun _ => ⟨fun z => by omega, fun z => by unfold g_ad at z; simp at z⟩)
  rw [b1, Option.bind_some] at e7
  rw [e7, Option.bind_some] at e
  have hS : cS S5 T q 0 (g_P0, [], fun _ => 0) := by
    refine ⟨b3, ⟨hq, ?_, ?_⟩, by rw [b2.P]; exact p5, (a3.ag fun c k z1 z2 => g4 (by omega)).ag fun c k z1 z2 => b2.I (by unfold tDa; omega)⟩
    · rw [b2.I (by unfold tDa; omega), g4 (by decide), a2.I (by omega)]; exact f0
    · rw [b2.I (by unfold tDa; omega), g4 (by decide), a2.I (by omega)]; exact f1
  refine ⟨S5, l3.o (b2.mono fun c k z => Or.inr (Or.inl z.1)), ?_⟩
  have := c8l (d := d) 61 0 S5 0 (g_P0, [], fun _ => 0) (by omega) rfl hS g_iv_0 g_ok_0
  have e' : fI (d + 71) 8 [.ref 18, .ref 1, .int (nI T.length), .ref q] S = b8_34 (d + 70) (nI 0) S5 := e
  rw [e']
  exact this
end HJ
