/-! STEPS: what was met; the class sifts by a row. -/
section TZ4
variable {d n q : Nat} {S : z_S} {P : q_Pl} {s : q_St} {k : Nat} {mt : List (Nat × Nat × Nat)}
/-- a row of what was met is so -/
def q_okr (P : q_Pl) (s : q_St) (x : Nat × Nat × Nat) (e : q_St) : Bool := decide (q_n s + x.1 ≤ 999) && decide (q_s (q_nf P x.1 e) x.2.1 = if x.2.2 = 255 then none else some x.2.2)
def mtOk (P : q_Pl) (mt : List (Nat × Nat × Nat)) : Prop := mt.length ≤ 16 ∧ ∀ x, x ∈ mt → x.1 ≤ 30 ∧ x.2.1 < p_R P ∧ (x.2.2 < p_L P ∨ x.2.2 = 255)
theorem q_gdm {α : Type} {l : List α} {j : Nat} {z : α} (h : j < l.length) : l.getD j z ∈ l := by
  rw [List.getD_eq_getElem?_getD, List.getElem?_eq_getElem h]
  exact List.getElem_mem _
theorem q_gdx {α : Type} {l : List α} {x : α} (z : α) (h : x ∈ l) : ∃ j, j < l.length ∧ l.getD j z = x := by
  obtain ⟨j, hj, e⟩ := List.getElem_of_mem h
  exact ⟨j, hj, by rw [List.getD_eq_getElem?_getD, List.getElem?_eq_getElem hj]; exact e⟩
theorem c87_l (hW : z_W S) (h : cMt S mt) (hm : mtOk P mt) : ∀ (m i N : Nat), i + m = mt.length → N ≤ 31 → (∀ j, j < i → (mt.getD j (0, 0, 0)).1 < N) → ∃ N' : Nat, N' ≤ 31 ∧ b87_4 (d + 1) (iI ((N : Int) - 1)) (nI i) S = some (iI ((N' : Int) - 1), S) ∧ ∀ j, j < mt.length → (mt.getD j (0, 0, 0)).1 < N'
  | 0, i, N, hi, hN, hj => by
    have h16 := hm.1
    have e := b87_4_eq (d + 1) (iI ((N : Int) - 1)) (nI i) S hW
    rw [h.1, if_pos ((nI_leI (by omega) (by omega)).mpr (by omega))] at e
    exact ⟨N, hN, e, fun j hj' => hj j (by omega)⟩
  | m + 1, i, N, hi, hN, hj => by
    have h16 := hm.1
    have hx := (hm.2 _ (q_gdm (j := i) (z := (0, 0, 0)) (by omega))).1
    have e := b87_4_eq (d + 1) (iI ((N : Int) - 1)) (nI i) S hW
    have h3 : (3 : Int32) * nI i = nI (3 * i) := pk_mul 3 i
    have g : gI S 183 (3 * i) = iI (((mt.getD i (0, 0, 0)).1 : Nat) : Int) := by rw [(h.2 i (by omega)).1, iI_n]
    rw [h.1, if_neg (show ¬ nI mt.length ≤ nI i from fun z => by have := (nI_leI (by omega) (by omega)).mp z; omega), h3, if_pos ((ni_in (by omega)).mpr (by omega)), show (nI (3 * i)).toNatClampNeg = 3 * i from nI_clamp (by omega), g, c277i (d := d) hW (by unfold iS; omega) (by unfold iS; omega), zb_some, show nI i + (1 : Int32) = nI (i + 1) from nI_add i 1] at e
    by_cases c : ((N : Int) - 1) < (((mt.getD i (0, 0, 0)).1 : Nat) : Int)
    · rw [if_pos c, show ((((mt.getD i (0, 0, 0)).1 : Nat) : Int)) = ((((mt.getD i (0, 0, 0)).1 + 1 : Nat) : Int)) - 1 by omega] at e
      obtain ⟨N', a1, a2, a3⟩ := c87_l hW h hm m (i + 1) ((mt.getD i (0, 0, 0)).1 + 1) (by omega) (by omega) (fun j hj' => by
        by_cases z : j = i
        · rw [z]; omega
        · have := hj j (by omega); omega)
      exact ⟨N', a1, e.trans a2, a3⟩
    · rw [if_neg c] at e
      obtain ⟨N', a1, a2, a3⟩ := c87_l hW h hm m (i + 1) N (by omega) hN (fun j hj' => by
        by_cases z : j = i
        · rw [z]; omega
        · exact hj j (by omega))
      exact ⟨N', a1, e.trans a2, a3⟩
theorem c87 (hW : z_W S) (h : cMt S mt) (hm : mtOk P mt) : ∃ N : Nat, N ≤ 31 ∧ fI (d + 2) 87 [.ref 182] S = some (iI ((N : Int) - 1), S) ∧ ∀ x, x ∈ mt → x.1 < N := by
  obtain ⟨N, a1, a2, a3⟩ := c87_l (d := d) hW h hm mt.length 0 0 (by omega) (by omega) (fun j hj => by omega)
  refine ⟨N, a1, (e87 (d + 1) S hW).trans a2, fun x hx => ?_⟩
  obtain ⟨j, hj, e⟩ := q_gdx (0, 0, 0) hx
  rw [← e]; exact a3 j hj
theorem cFt.on {f : Nat → Bool} {D : Nat → Nat → Prop} {S' : z_S} (h : cFt S n f) (ho : onI D S S') (hd : ∀ c j, c = 182 ∧ j = 4 ∨ c = 185 → ¬ D c j) : cFt S' n f :=
  ⟨h.1, by rw [ho.I (hd _ _ (Or.inl ⟨rfl, rfl⟩))]; exact h.2.1, fun j hj => by rw [ho.I (hd _ _ (Or.inr rfl))]; exact h.2.2 j hj⟩
theorem c89_s {f : Nat → Bool} {i : Nat} {y2 y3 y4 : Int32} {v : Bool} (hW : z_W S) (h : cFt S n f) (hi : i < n) : b89_97 d y2 y3 y4 (nI i) (bI v) (nI i) S = b89_46 d y2 y3 y4 (nI (i + 1)) (sI S 185 i (bI v)) ∧ onI (fun c _ => c = 185) S (sI S 185 i (bI v)) ∧ cFt (sI S 185 i (bI v)) n (q_u f i v) := by
  have hn := h.1
  have e := b89_97_eq d y2 y3 y4 (nI i) (bI v) (nI i) S hW
  have hv : bI v = 0 ∨ bI v = 1 := by cases v <;> decide
  rw [if_pos ⟨(ni_in (by omega)).mpr (by omega), hv⟩, show (nI i).toNatClampNeg = i from nI_clamp (by omega), show nI i + (1 : Int32) = nI (i + 1) from nI_add i 1] at e
  refine ⟨e, onI_sI (D := fun c _ => c = 185) (c := 185) (onI.refl hW) rfl, hn, ?_, fun j hj => ?_⟩
  · rw [gI_sI, if_neg (by decide)]; exact h.2.1
  · rw [gI_sI, if_pos rfl]
    by_cases z : j = i
    · rw [if_pos z, z, q_us]
    · rw [if_neg z, q_un z]; exact h.2.2 j hj
theorem c89_l {b : Bool} {r : Nat} {z : Option Nat} {E : Nat → q_St} (hr : r < 16) (hz : ∀ j, z = some j → j < 16) (hB : ∀ j, j < n → q_Bd (E j)) : ∀ (m i : Nat) (S : z_S) (f : Nat → Bool), i + m = n → z_W S → cFt S n f → (∀ j, j < n → cSt S (187 + 5 * j) 16 (E j)) → ∃ S' f', b89_46 d (bI b) (nI r) (eO z) (nI i) S = some S' ∧ onI (fun c _ => c = 185) S S' ∧ cFt S' n f' ∧ ∀ j, j < n → f' j = if i ≤ j then f j && (b && decide (q_s (E j) r = z)) else f j
  | 0, i, S, f, hi, hW, hF, hE => by
    have hn := hF.1
    have e := b89_46_eq d (bI b) (nI r) (eO z) (nI i) S hW
    rw [hF.2.1, if_pos ((nI_leI (by omega) (by omega)).mpr (by omega))] at e
    exact ⟨S, f, e, onI.refl hW, hF, fun j hj => by rw [if_neg (by omega)]⟩
  | m + 1, i, S, f, hi, hW, hF, hE => by
    have hn := hF.1
    have e := b89_46_eq d (bI b) (nI r) (eO z) (nI i) S hW
    have g : gI S 185 (nI i).toNatClampNeg = bI (f i) := by rw [nI_clamp (by omega)]; exact hF.2.2 i (by omega)
    have gs : gI S (187 + 5 * (nI i).toNatClampNeg + 1) (nI r).toNatClampNeg = eO (q_s (E i) r) := by
      rw [nI_clamp (by omega), nI_clamp (by omega)]; exact (hE i (by omega)).2.2.2.2.2.1 r hr
    have e96 := b89_96_eq d (bI b) (nI r) (eO z) (nI i) (nI i) S hW
    have he : eO (q_s (E i) r) = eO z ↔ q_s (E i) r = z := eO_inj (fun j hj => by have := (hB i (by omega)).2.2.2.2.2.1 r j hj; omega) (fun j hj => by have := hz j hj; omega)
    rw [hF.2.1, if_neg (show ¬ nI n ≤ nI i from fun z => by have := (nI_leI (by omega) (by omega)).mp z; omega), if_pos ((ni_in (by omega)).mpr (by omega)), if_pos ((ni_in (by omega)).mpr (by omega)), if_pos ((ni_in (by omega)).mpr (by omega)), g, gs, e96] at e
    have key : b89_46 d (bI b) (nI r) (eO z) (nI i) S = b89_97 d (bI b) (nI r) (eO z) (nI i) (bI (f i && (b && decide (q_s (E i) r = z)))) (nI i) S := by
      rw [e]
      cases hf : f i with
      | false => rw [if_pos (show bI false = (0 : Int32) from rfl)]; rfl
      | true =>
        rw [if_neg (show ¬ bI true = (0 : Int32) by decide)]
        cases b with
        | false => rw [if_pos (show bI false = (0 : Int32) from rfl)]; rfl
        | true =>
          rw [if_neg (show ¬ bI true = (0 : Int32) by decide)]
          by_cases c : q_s (E i) r = z
          · rw [if_neg (fun w => w (he.mpr c)), decide_eq_true c]; rfl
          · rw [if_pos (fun w => c (he.mp w)), decide_eq_false c]; rfl
    obtain ⟨s1, s2, s3⟩ := c89_s (d := d) (y2 := bI b) (y3 := nI r) (y4 := eO z) (v := f i && (b && decide (q_s (E i) r = z))) hW hF (show i < n by omega)
    obtain ⟨S', f', a1, a2, a3, a4⟩ := c89_l hr hz hB m (i + 1) _ _ (by omega) s2.W s3 (fun j hj => (hE j hj).ag (s2.ag fun c l w => by unfold pD at w; omega))
    refine ⟨S', f', (key.trans s1).trans a1, s2.trans a2, a3, fun j hj => ?_⟩
    have := a4 j hj
    by_cases w : j = i
    · subst w
      rw [if_neg (by omega), q_us] at this
      rw [if_pos (Nat.le_refl _)]; exact this
    · rw [q_un w] at this
      rw [this]
      by_cases v : i ≤ j
      · rw [if_pos (by omega), if_pos v]
      · rw [if_neg (by omega), if_neg v]
theorem c89 {b : Bool} {i : Nat} {E : Nat → q_St} {f : Nat → Bool} (hP : p_Wf P) (hm : mtOk P mt) (hB : ∀ j, j < n → q_Bd (E j)) (hW : z_W S) (hF : cFt S n f) (hE : ∀ j, j < n → cSt S (187 + 5 * j) 16 (E j)) (h : cMt S mt) (hi : i < mt.length) : ∃ S' f', fV (d + 1) 89 [.ref 182, .int (nI i), .int (bI b)] S = some S' ∧ onI (fun c _ => c = 185) S S' ∧ cFt S' n f' ∧ ∀ j, j < n → f' j = (f j && (b && decide (q_s (E j) (mt.getD i (0, 0, 0)).2.1 = if (mt.getD i (0, 0, 0)).2.2 = 255 then none else some (mt.getD i (0, 0, 0)).2.2))) := by
  have h16 := hm.1
  obtain ⟨x1, x2, x3⟩ := hm.2 _ (q_gdm (j := i) (z := (0, 0, 0)) hi)
  obtain ⟨y1, y2, y3⟩ := h.2 i hi
  have hR := hP.1
  have hL := hP.2.2.2.2.1
  have e := e89 d (nI i) (bI b) S hW
  have h3 : (3 : Int32) * nI i = nI (3 * i) := pk_mul 3 i
  rw [h3, show nI (3 * i) + (1 : Int32) = nI (3 * i + 1) from nI_add _ 1, show nI (3 * i) + (2 : Int32) = nI (3 * i + 2) from nI_add _ 2, if_pos ((ni_in (by omega)).mpr (by omega)), if_pos ((ni_in (by omega)).mpr (by omega)), if_pos ((ni_in (by omega)).mpr (by omega)), show (nI (3 * i + 1)).toNatClampNeg = 3 * i + 1 from nI_clamp (by omega), show (nI (3 * i + 2)).toNatClampNeg = 3 * i + 2 from nI_clamp (by omega), y2, y3] at e
  generalize hx : mt.getD i (0, 0, 0) = x at *
  by_cases c : x.2.2 = 255
  · rw [if_neg (fun w => w (by rw [c]; rfl)), b89_41_eq d (bI b) (nI x.2.1) (-1 : Int32) S hW] at e
    obtain ⟨S', f', a1, a2, a3, a4⟩ := c89_l (d := d) (b := b) (r := x.2.1) (z := none) (E := E) (by omega) (fun j hj => by cases hj) hB n 0 S f (by omega) hW hF hE
    exact ⟨S', f', e.trans a1, a2, a3, fun j hj => by rw [a4 j hj, if_pos (Nat.zero_le _), if_pos c]⟩
  · rw [if_pos (show ¬ nI x.2.2 = (255 : Int32) from fun w => c ((nI_eq (a := x.2.2) (b := 255) (by omega) (by omega)).mp w)), b89_41_eq d (bI b) (nI x.2.1) (nI x.2.2) S hW] at e
    obtain ⟨S', f', a1, a2, a3, a4⟩ := c89_l (d := d) (b := b) (r := x.2.1) (z := some x.2.2) (E := E) (by omega) (fun j hj => by cases hj; omega) hB n 0 S f (by omega) hW hF hE
    exact ⟨S', f', e.trans a1, a2, a3, fun j hj => by rw [a4 j hj, if_pos (Nat.zero_le _), if_neg c]⟩
end TZ4
