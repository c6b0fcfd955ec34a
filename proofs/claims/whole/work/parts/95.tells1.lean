/-! TELLS: groups by who sleeps in a room; their greatest. -/
section TZB
def q_gr (who wt : Nat → Nat) : Nat → Nat → Nat
  | 0 => fun _ => 0
  | m + 1 => q_u (q_gr who wt m) (who m) (q_gr who wt m (who m) + wt m)
def q_mx (G : Nat → Nat) : Nat → Nat
  | 0 => 0
  | n + 1 => max (q_mx G n) (G n)
theorem q_mx_u {G : Nat → Nat} {w v : Nat} (hv : G w ≤ v) : ∀ n, q_mx (q_u G w v) n = if w < n then max (q_mx G n) v else q_mx G n
  | 0 => by rw [if_neg (by omega)]; rfl
  | n + 1 => by
    rw [q_mx, q_mx, q_mx_u hv n]
    by_cases c : n = w
    · rw [c, q_us, if_neg (by omega), if_pos (by omega)]
      omega
    · rw [q_un c]
      by_cases c2 : w < n
      · rw [if_pos c2, if_pos (by omega)]; omega
      · rw [if_neg c2, if_neg (by omega)]
theorem q_u_id {α : Type} (f : Nat → α) (i : Nat) : q_u f i (f i) = f := by
  funext j
  unfold q_u
  split
  · rename_i h; rw [h]
  · rfl
theorem q_u_u {α : Type} (f : Nat → α) (i : Nat) (a b : α) : q_u (q_u f i a) i b = q_u f i b := by
  funext j
  unfold q_u
  split <;> rfl
theorem q_gr_le {who wt : Nat → Nat} (h : ∀ i, wt i ≤ 40) : ∀ m w, q_gr who wt m w ≤ 40 * m
  | 0, w => Nat.le_refl _
  | m + 1, w => by
    rw [q_gr]
    unfold q_u
    have h1 := h m
    split
    · have := q_gr_le (who := who) h m (who m); omega
    · have := q_gr_le (who := who) h m w; omega
theorem q_mx_le {G : Nat → Nat} {b : Nat} (h : ∀ w, G w ≤ b) : ∀ n, q_mx G n ≤ b
  | 0 => Nat.zero_le _
  | n + 1 => by rw [q_mx]; have := q_mx_le h n; have := h n; omega
theorem q_gr_eq {who wt who' wt' : Nat → Nat} : ∀ m, (∀ i, i < m → wt i = wt' i ∧ (wt i ≠ 0 → who i = who' i)) → q_gr who wt m = q_gr who' wt' m
  | 0, _ => rfl
  | m + 1, h => by
    obtain ⟨h1, h2⟩ := h m (by omega)
    rw [q_gr, q_gr, q_gr_eq m fun i hi => h i (by omega), ← h1]
    by_cases c : wt m = 0
    · rw [c, Nat.add_zero, Nat.add_zero, q_u_id, q_u_id]
    · rw [h2 c]
theorem q_gr_c {who wt : Nat → Nat} {n b w : Nat} (hw : ∀ i, n ≤ i → who i = w) (hb : ∀ i, n ≤ i → wt i = b) : ∀ m, q_gr who wt (n + m) = q_u (q_gr who wt n) w (q_gr who wt n w + m * b)
  | 0 => by rw [Nat.zero_mul, Nat.add_zero, Nat.add_zero, q_u_id]
  | m + 1 => by
    rw [← Nat.add_assoc, q_gr, q_gr_c hw hb m, hw _ (by omega), hb _ (by omega), q_us, q_u_u, Nat.add_mul, Nat.one_mul, Nat.add_assoc]
/-- the place of a sleeper's group -/
def q_o1 (o : Option Nat) : Nat := match o with
  | none => 0
  | some k => k + 1
theorem eO_o1 (o : Option Nat) : eO o + (1 : Int32) = nI (q_o1 o) := by
  cases o with
  | none => decide
  | some k => exact nI_add k 1
theorem q_o1_lt {o : Option Nat} (h : ∀ k, o = some k → k < 16) : q_o1 o < 17 := by
  cases o with
  | none => decide
  | some k => have := h k rfl; show k + 1 < 17; omega
variable {d n : Nat} {S : z_S} {P : q_Pl} {f : Nat → Bool} {E : Nat → q_St}
theorem c94_l {r : Nat} {y1 : Int32} (hr : r < 16) (hB : ∀ j, j < n → q_Bd (E j)) : ∀ (m i : Nat) (S : z_S), i + m = n → z_W S → cFt S n f → (∀ j, j < n → cSt S (187 + 5 * j) 16 (E j)) → (∀ w, w < 17 → gI S 186 w = nI (q_gr (fun j => q_o1 (q_s (E j) r)) (q_wt n f) i w)) → ∃ S', b94_13 (d + 1) y1 (nI r) (nI (q_mx (q_gr (fun j => q_o1 (q_s (E j) r)) (q_wt n f) i) 17)) (nI i) S = b94_13 (d + 1) y1 (nI r) (nI (q_mx (q_gr (fun j => q_o1 (q_s (E j) r)) (q_wt n f) n) 17)) (nI n) S' ∧ onI (fun c _ => c = 186) S S'
  | 0, i, S, hi, hW, hF, hE, hg => by
    rw [show i = n by omega]
    exact ⟨S, rfl, onI.refl hW⟩
  | m + 1, i, S, hi, hW, hF, hE, hg => by
    have hn := hF.1
    have e := b94_13_eq (d + 1) y1 (nI r) (nI (q_mx (q_gr (fun j => q_o1 (q_s (E j) r)) (q_wt n f) i) 17)) (nI i) S hW
    have gs : gI S (187 + 5 * (nI i).toNatClampNeg + 1) (nI r).toNatClampNeg = eO (q_s (E i) r) := by
      rw [nI_clamp (by omega), nI_clamp (by omega)]; exact (hE i (by omega)).2.2.2.2.2.1 r hr
    have h17 : q_o1 (q_s (E i) r) < 17 := q_o1_lt fun k hk => (hB i (by omega)).2.2.2.2.2.1 r k hk
    have hle : ∀ w, q_gr (fun j => q_o1 (q_s (E j) r)) (q_wt n f) i w ≤ 40 * i := q_gr_le (fun j => q_wt_le) i
    have hle2 := hle (q_o1 (q_s (E i) r))
    have hle3 := q_mx_le hle 17
    have hwt := q_wt_le (n := n) (f := f) (i := i)
    have gg : gI S 186 (q_o1 (q_s (E i) r)) = nI (q_gr (fun j => q_o1 (q_s (E j) r)) (q_wt n f) i (q_o1 (q_s (E i) r))) := hg _ h17
    have o : onI (fun c _ => c = 186) S (sI S 186 (q_o1 (q_s (E i) r)) (nI (q_gr (fun j => q_o1 (q_s (E j) r)) (q_wt n f) i (q_o1 (q_s (E i) r)) + q_wt n f i))) := onI_sI (D := fun c _ => c = 186) (c := 186) (onI.refl hW) rfl
    rw [hF.2.1, if_neg (show ¬ nI n ≤ nI i from fun z => by have := (nI_leI (by omega) (by omega)).mp z; omega), if_pos ((ni_in (by omega)).mpr (by omega)), if_pos ((ni_in (by omega)).mpr (by omega)), gs, eO_o1, c90 (d := d) hW hF (by omega), zb_some, if_pos ((ni_in (by omega)).mpr h17), if_pos ((ni_in (by omega)).mpr h17), if_pos ((ni_in (by omega)).mpr h17), show (nI (q_o1 (q_s (E i) r))).toNatClampNeg = q_o1 (q_s (E i) r) from nI_clamp (by omega), gI_sI, if_pos rfl, if_pos rfl, gg, nI_add, c277 (d := d) o.W (by omega) (by omega), zb_some, show nI i + (1 : Int32) = nI (i + 1) from nI_add i 1] at e
    have hmx : max (q_mx (q_gr (fun j => q_o1 (q_s (E j) r)) (q_wt n f) i) 17) (q_gr (fun j => q_o1 (q_s (E j) r)) (q_wt n f) i (q_o1 (q_s (E i) r)) + q_wt n f i) = q_mx (q_gr (fun j => q_o1 (q_s (E j) r)) (q_wt n f) (i + 1)) 17 := by
      rw [q_gr, q_mx_u (Nat.le_add_right _ _), if_pos h17]
    rw [hmx] at e
    obtain ⟨S', a1, a2⟩ := c94_l hr hB m (i + 1) _ (by omega) o.W (hF.on o fun c j z => by omega) (fun j hj => (hE j hj).ag (o.ag fun c l w => by unfold pD at w; omega)) (fun w hw => by
      rw [gI_sI, if_pos rfl, q_gr]
      by_cases z : w = q_o1 (q_s (E i) r)
      · rw [if_pos z, z, q_us]
      · rw [if_neg z, q_un z]; exact hg w hw)
    exact ⟨S', e.trans a1, o.trans a2⟩
/-- the telling night, room and how many are left -/
def q_t1 (a : Option (Nat × Nat × Nat)) (l r v : Nat) : Option (Nat × Nat × Nat) := match a with
  | none => some (l, r, v)
  | some (l0, r0, v0) => if v < v0 then some (l, r, v) else some (l0, r0, v0)
def cTl (S : z_S) (a : Option (Nat × Nat × Nat)) : Prop := match a with
  | none => gI S 182 6 = -nI 1 ∧ gI S 182 7 = -nI 1 ∧ gI S 182 8 = -nI 1
  | some (l, r, v) => v ≤ 1600 ∧ gI S 182 6 = nI l ∧ gI S 182 7 = nI r ∧ gI S 182 8 = nI v
theorem cTl.ag {S' : z_S} {a : Option (Nat × Nat × Nat)} (h : cTl S a) (ho : agI (fun c k => c = 182 ∧ 6 ≤ k) S S') : cTl S' a := by
  have h1 := ho 182 6 ⟨rfl, by omega⟩
  have h2 := ho 182 7 ⟨rfl, by omega⟩
  have h3 := ho 182 8 ⟨rfl, by omega⟩
  cases a with
  | none => exact ⟨h1.trans h.1, h2.trans h.2.1, h3.trans h.2.2⟩
  | some x => exact ⟨h.1, h1.trans h.2.1, h2.trans h.2.2.1, h3.trans h.2.2.2⟩
def tD2 : Nat → Nat → Prop := fun c k => c = 186 ∨ c = 182 ∧ 6 ≤ k
theorem c94 {l r : Nat} {a : Option (Nat × Nat × Nat)} (hr : r < 16) (hB : ∀ j, j < n → q_Bd (E j)) (hW : z_W S) (hF : cFt S n f) (hE : ∀ j, j < n → cSt S (187 + 5 * j) 16 (E j)) (hT : cTl S a) : ∃ S', fV (d + 2) 94 [.ref 182, .int (nI l), .int (nI r)] S = some S' ∧ onI tD2 S S' ∧ cTl S' (q_t1 a l r (q_mx (q_gr (fun j => q_o1 (q_s (E j) r)) (q_wt n f) n) 17)) := by
  have hn := hF.1
  have e := e94 (d + 1) (nI l) (nI r) S hW
  obtain ⟨S1, a1, a2, a3⟩ := c281 (d := d) (a := 186) (x := (0 : Int32)) (N := 17) (by decide +kernel) (by decide +kernel) (by omega) hW
  rw [a1, Option.bind_some] at e
  have hF1 : cFt S1 n f := hF.on a2 fun c j z => by omega
  obtain ⟨S2, b1, b2⟩ := c94_l (d := d) (y1 := nI l) hr hB n 0 S1 (by omega) a2.W hF1 (fun j hj => (hE j hj).ag (a2.ag fun c l w => by unfold pD at w; omega)) (fun w hw => by rw [a3 w, if_pos hw]; rfl)
  have hF2 : cFt S2 n f := hF1.on b2 fun c j z => by omega
  have hT2 : cTl S2 a := hT.ag ((a2.trans b2).ag fun c k z => by omega)
  have b1' : b94_13 (d + 1) (nI l) (nI r) (0 : Int32) (0 : Int32) S1 = b94_13 (d + 1) (nI l) (nI r) (nI (q_mx (q_gr (fun j => q_o1 (q_s (E j) r)) (q_wt n f) n) 17)) (nI n) S2 := by
    have z : q_mx (q_gr (fun j => q_o1 (q_s (E j) r)) (q_wt n f) 0) 17 = 0 := rfl
    rw [z] at b1
    exact b1
  have hM : q_mx (q_gr (fun j => q_o1 (q_s (E j) r)) (q_wt n f) n) 17 ≤ 40 * n := q_mx_le (q_gr_le (fun j => q_wt_le) n) 17
  generalize q_mx (q_gr (fun j => q_o1 (q_s (E j) r)) (q_wt n f) n) 17 = M at *
  have e2 := b94_13_eq (d + 1) (nI l) (nI r) (nI M) (nI n) S2 b2.W
  rw [hF2.2.1, if_pos ((nI_leI (by omega) (by omega)).mpr (Nat.le_refl _)), b94_88_eq (d + 1) (nI l) (nI r) (nI M) S2 b2.W] at e2
  have o2 : onI tD2 S S2 := (a2.trans b2).mono fun c k z => Or.inl z
  have o3 : onI tD2 S (sI (sI (sI S2 182 6 (nI l)) 182 7 (nI r)) 182 8 (nI M)) := onI_sI (D := tD2) (c := 182) (onI_sI (D := tD2) (c := 182) (onI_sI (D := tD2) (c := 182) o2 (by unfold tD2; omega)) (by unfold tD2; omega)) (by unfold tD2; omega)
  have new : cTl (sI (sI (sI S2 182 6 (nI l)) 182 7 (nI r)) 182 8 (nI M)) (some (l, r, M)) := by
    refine ⟨by omega, ?_, ?_, ?_⟩
    · rw [gI_sI, if_pos rfl, if_neg (by decide), gI_sI, if_pos rfl, if_neg (by decide), gI_sI, if_pos rfl, if_pos rfl]
    · rw [gI_sI, if_pos rfl, if_neg (by decide), gI_sI, if_pos rfl, if_pos rfl]
    · rw [gI_sI, if_pos rfl, if_pos rfl]
  cases a with
  | none =>
    rw [if_pos (show gI S2 182 8 = (-1 : Int32) from hT2.2.2)] at e2
    exact ⟨_, (e.trans b1').trans e2, o3, new⟩
  | some x =>
    obtain ⟨l0, r0, v0⟩ := x
    obtain ⟨t1, t2, t3, t4⟩ := hT2
    rw [if_neg (show ¬ gI S2 182 8 = (-1 : Int32) from fun w => (ni_eqm (a := v0) (by omega)).mp (t4.symm.trans w)), t4] at e2
    by_cases c : M < v0
    · rw [if_neg (show ¬ nI v0 ≤ nI M from fun w => by have := (nI_leI (by omega) (by omega)).mp w; omega)] at e2
      refine ⟨_, (e.trans b1').trans e2, o3, ?_⟩
      show cTl _ (if M < v0 then some (l, r, M) else some (l0, r0, v0))
      rw [if_pos c]; exact new
    · rw [if_pos ((nI_leI (by omega) (by omega)).mpr (by omega))] at e2
      refine ⟨_, (e.trans b1').trans e2, o2, ?_⟩
      show cTl _ (if M < v0 then some (l, r, M) else some (l0, r0, v0))
      rw [if_neg c]
      exact ⟨t1, t2, t3, t4⟩
end TZB
