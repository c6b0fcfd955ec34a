/-! THE CONSTRUCTORS: a machine whose store is a list of writes over any base; its answers are the lite machine's. -/
section IG
/-- cells at the start and now; writes of ints, longs, references, the latest first -/
abbrev y_G : Type := (Nat × Nat) × List (Nat × Nat × Int32) × List (Nat × Nat × Int64) × List (Nat × Nat × Nat)
def y_k {α : Type} (c k : Nat) : List (Nat × Nat × α) → Option α
  | [] => none
  | e :: r => if c = e.1 then (if k = e.2.1 then some e.2.2 else y_k c k r) else y_k c k r
def y_f {α β : Type} (g : α → β) (f : Nat → Nat → β) : List (Nat × Nat × α) → Nat → Nat → β
  | [] => f
  | e :: r => z_u2 (y_f g f r) e.1 e.2.1 (g e.2.2)
theorem y_k_s {α β : Type} {g : α → β} {f : Nat → Nat → β} {c k : Nat} {v : α} : ∀ {l : List (Nat × Nat × α)}, y_k c k l = some v → y_f g f l c k = g v
  | [], h => by cases h
  | e :: r, h => by
    rw [y_k] at h
    show z_u2 (y_f g f r) e.1 e.2.1 (g e.2.2) c k = g v
    unfold z_u2
    by_cases c1 : c = e.1
    · rw [if_pos c1] at h ⊢
      by_cases c2 : k = e.2.1
      · rw [if_pos c2] at h ⊢
        cases h; rfl
      · rw [if_neg c2] at h ⊢
        exact y_k_s h
    · rw [if_neg c1] at h ⊢
      exact y_k_s h
theorem y_k_n {α β : Type} {g : α → β} {f : Nat → Nat → β} {c k : Nat} : ∀ {l : List (Nat × Nat × α)}, y_k c k l = none → y_f g f l c k = f c k
  | [], _ => rfl
  | e :: r, h => by
    rw [y_k] at h
    show z_u2 (y_f g f r) e.1 e.2.1 (g e.2.2) c k = f c k
    unfold z_u2
    by_cases c1 : c = e.1
    · rw [if_pos c1] at h ⊢
      by_cases c2 : k = e.2.1
      · rw [if_pos c2] at h; cases h
      · rw [if_neg c2] at h ⊢
        exact y_k_n h
    · rw [if_neg c1] at h ⊢
      exact y_k_n h
theorem y_k_o {α : Type} {c k n : Nat} (hc : n ≤ c) : ∀ {l : List (Nat × Nat × α)}, (∀ e, e ∈ l → e.1 < n) → y_k c k l = none
  | [], _ => rfl
  | e :: r, h => by
    have := h e List.mem_cons_self
    rw [y_k, if_neg (by omega)]
    exact y_k_o hc fun e he => h e (List.mem_cons_of_mem _ he)
def y_ap (B : z_S) (s : y_G) : z_S := (s.1.2, z_K, z_Ln, y_f (fun v => v) (gI B) s.2.1, y_f (fun v => v) (gL B) s.2.2.1, y_f some (gR B) s.2.2.2)
def y_I (s : y_G) (c k : Nat) (v : Int32) : y_G := (s.1, (c, k, v) :: s.2.1, s.2.2)
def y_L (s : y_G) (c k : Nat) (v : Int64) : y_G := (s.1, s.2.1, (c, k, v) :: s.2.2.1, s.2.2.2)
def y_R (s : y_G) (c k v : Nat) : y_G := (s.1, s.2.1, s.2.2.1, (c, k, v) :: s.2.2.2)
def y_N (s : y_G) : y_G := ((s.1.1, s.1.2 + 1), s.2)
def y_In (s : y_G) : Prop := s.1.1 ≤ s.1.2 ∧ (∀ e, e ∈ s.2.1 → e.1 < s.1.2) ∧ (∀ e, e ∈ s.2.2.1 → e.1 < s.1.2) ∧ ∀ e, e ∈ s.2.2.2 → e.1 < s.1.2
/-- a base of n cells -/
def y_B (n : Nat) (B : z_S) : Prop := z_sz B = n ∧ z_kd B = z_K ∧ z_ln B = z_Ln ∧ ∀ c k, n ≤ c → gI B c k = 0 ∧ gL B c k = 0 ∧ gR B c k = none
theorem y_In.I {s : y_G} {c k : Nat} {v : Int32} (h : y_In s) (hc : c < s.1.2) : y_In (y_I s c k v) := ⟨h.1, fun e he => by
  rcases List.mem_cons.mp he with z | z
  · rw [z]; exact hc
  · exact h.2.1 e z, h.2.2⟩
theorem y_In.L {s : y_G} {c k : Nat} {v : Int64} (h : y_In s) (hc : c < s.1.2) : y_In (y_L s c k v) := ⟨h.1, h.2.1, fun e he => by
  rcases List.mem_cons.mp he with z | z
  · rw [z]; exact hc
  · exact h.2.2.1 e z, h.2.2.2⟩
theorem y_In.R {s : y_G} {c k v : Nat} (h : y_In s) (hc : c < s.1.2) : y_In (y_R s c k v) := ⟨h.1, h.2.1, h.2.2.1, fun e he => by
  rcases List.mem_cons.mp he with z | z
  · rw [z]; exact hc
  · exact h.2.2.2 e z⟩
theorem y_In.N {s : y_G} (h : y_In s) : y_In (y_N s) := ⟨Nat.le_succ_of_le h.1, fun e he => Nat.lt_succ_of_lt (h.2.1 e he), fun e he => Nat.lt_succ_of_lt (h.2.2.1 e he), fun e he => Nat.lt_succ_of_lt (h.2.2.2 e he)⟩
theorem y_ap_B {B : z_S} {s : y_G} (hB : y_B s.1.1 B) (h : y_In s) : y_B s.1.2 (y_ap B s) := by
  refine ⟨rfl, rfl, rfl, fun c k hc => ?_⟩
  obtain ⟨b1, b2, b3⟩ := hB.2.2.2 c k (Nat.le_trans h.1 hc)
  exact ⟨(y_k_n (y_k_o hc h.2.1)).trans b1, (y_k_n (y_k_o hc h.2.2.1)).trans b2, (y_k_n (y_k_o hc h.2.2.2)).trans b3⟩
theorem y_nw {B : z_S} {s : y_G} (hB : y_B s.1.1 B) (h : y_In s) : z_nw (y_ap B s) (z_K s.1.2) (z_Ln s.1.2) = y_ap B (y_N s) := by
  have hz := y_ap_B hB h
  have e : ∀ {α : Type} {f : Nat → α} {v : α} {n : Nat}, v = f n → (fun c => if c = n then v else f c) = f := fun {α f v n} q => by
    funext c
    by_cases z : c = n
    · rw [if_pos z, q, z]
    · rw [if_neg z]
  have e2 : ∀ {α : Type} {f : Nat → Nat → α} {v : α} {n : Nat}, (∀ k, f n k = v) → (fun c k => if c = n then v else f c k) = f := fun {α f v n} q => by
    funext c k
    by_cases z : c = n
    · rw [if_pos z, z, q]
    · rw [if_neg z]
  show (s.1.2 + 1, (fun c => if c = s.1.2 then z_K s.1.2 else z_K c), (fun c => if c = s.1.2 then z_Ln s.1.2 else z_Ln c), (fun c k => if c = s.1.2 then 0 else gI (y_ap B s) c k), (fun c k => if c = s.1.2 then 0 else gL (y_ap B s) c k), fun c k => if c = s.1.2 then none else gR (y_ap B s) c k) = (s.1.2 + 1, z_K, z_Ln, gI (y_ap B s), gL (y_ap B s), gR (y_ap B s))
  rw [e rfl, e rfl, e2 (fun k => (hz.2.2.2 s.1.2 k (Nat.le_refl _)).1), e2 (fun k => (hz.2.2.2 s.1.2 k (Nat.le_refl _)).2.1), e2 (fun k => (hz.2.2.2 s.1.2 k (Nat.le_refl _)).2.2)]
/-- a base is itself with writes that it has -/
theorem y_self {B : z_S} {n : Nat} {li : List (Nat × Nat × Int32)} {lr : List (Nat × Nat × Nat)} (hB : y_B n B) (hi : ∀ e, e ∈ li → gI B e.1 e.2.1 = e.2.2) (hr : ∀ e, e ∈ lr → gR B e.1 e.2.1 = some e.2.2) : y_ap B ((n, n), li, [], lr) = B := by
  have e : ∀ {α β : Type} {g : α → β} {f : Nat → Nat → β} (l : List (Nat × Nat × α)), (∀ e, e ∈ l → f e.1 e.2.1 = g e.2.2) → y_f g f l = f := by
    intro α β g f l
    induction l with
    | nil => intro _; rfl
    | cons a r ih =>
      intro h
      show z_u2 (y_f g f r) a.1 a.2.1 (g a.2.2) = f
      rw [ih fun e he => h e (List.mem_cons_of_mem _ he)]
      funext c k
      unfold z_u2
      by_cases c1 : c = a.1
      · rw [if_pos c1]
        by_cases c2 : k = a.2.1
        · rw [if_pos c2, c1, c2]; exact (h a List.mem_cons_self).symm
        · rw [if_neg c2]
      · rw [if_neg c1]
  show (n, z_K, z_Ln, y_f (fun v => v) (gI B) li, gL B, y_f some (gR B) lr) = B
  rw [e li hi, e lr hr, ← hB.1, ← hB.2.1, ← hB.2.2.1]
  rfl
def y_rI (s : y_G) (c k : Nat) : Option Int32 := match y_k c k s.2.1 with
  | some v => some v
  | none => if s.1.1 ≤ c then some 0 else none
theorem y_rI_ok {B : z_S} {s : y_G} {c k : Nat} {v : Int32} (hB : y_B s.1.1 B) (h : y_rI s c k = some v) : gI (y_ap B s) c k = v := by
  unfold y_rI at h
  split at h
  · rename_i v' e
    cases h
    exact y_k_s (g := fun v => v) e
  · rename_i e
    split at h
    · rename_i hc
      cases h
      exact (y_k_n (g := fun v => v) e).trans (hB.2.2.2 c k hc).1
    · cases h
def y_rd (i : Instr) (x y : Nat) (st : List Value) (s : y_G) : Option (List Value) := match i with
  | .getfield _ => match st with
    | .ref c :: r => if c < s.1.2 ∧ z_K c = x ∧ y < z_nf x then
        (if z_ty x y = 0 ∨ z_ty x y = 3 then (y_rI s c y).map (fun v => .int v :: r) else if z_ty x y = 1 then none else (y_k c y s.2.2.2).map (fun a => .ref a :: r)) else none
    | _ => none
  | .iaload => match st with
    | .int k :: .ref a :: r => if a < s.1.2 ∧ z_K a = 20 ∧ z_in k (z_Ln a) then (y_rI s a k.toNatClampNeg).map (fun v => .int v :: r) else none
    | _ => none
  | .arraylength => match st with
    | .ref a :: r => if a < s.1.2 ∧ 20 ≤ z_K a ∧ z_K a ≤ 24 then some (.int (Int32.ofNat (z_Ln a)) :: r) else none
    | _ => none
  | _ => none
theorem y_rd_ok {X : Nat × (Nat → Int32)} {B : z_S} {s : y_G} {i : Instr} {x y : Nat} {st r : List Value} (hB : y_B s.1.1 B) (h : y_rd i x y st s = some r) : z_rd X i x y st (y_ap B s) = some r := by
  unfold y_rd at h
  split at h
  · split at h
    · rename_i c r0
      split at h
      · rename_i hg
        show (if c < s.1.2 ∧ z_K c = x ∧ y < z_nf x then (if z_ty x y = 0 ∨ z_ty x y = 3 then some (.int (gI (y_ap B s) c y) :: r0) else if z_ty x y = 1 then some (.long (gL (y_ap B s) c y) :: r0) else match gR (y_ap B s) c y with
          | some a => some (.ref a :: r0)
          | none => none) else none) = some r
        rw [if_pos hg]
        split at h
        · rename_i ht
          rw [if_pos ht]
          obtain ⟨v, h1, rfl⟩ := Option.map_eq_some_iff.mp h
          rw [y_rI_ok hB h1]
        · rename_i ht
          split at h
          · cases h
          · rename_i ht2
            obtain ⟨a, h1, rfl⟩ := Option.map_eq_some_iff.mp h
            have e : gR (y_ap B s) c y = some a := y_k_s (g := some) h1
            rw [if_neg ht, if_neg ht2, e]
      · cases h
    · cases h
  · split at h
    · rename_i k a r0
      split at h
      · rename_i hg
        obtain ⟨v, h1, rfl⟩ := Option.map_eq_some_iff.mp h
        show (if a < s.1.2 ∧ z_K a = 20 ∧ z_in k (z_Ln a) then some (.int (gI (y_ap B s) a k.toNatClampNeg) :: r0) else none) = _
        rw [if_pos hg, y_rI_ok hB h1]
      · cases h
    · cases h
  · split at h
    · rename_i a r0
      split at h
      · rename_i hg
        cases h
        show (if a < s.1.2 ∧ 20 ≤ z_K a ∧ z_K a ≤ 24 then some (.int (Int32.ofNat (z_Ln a)) :: r0) else none) = _
        rw [if_pos hg]
      · cases h
    · cases h
  · cases h
def y_wr (al : Bool) (ow : Nat) (i : Instr) (x y : Nat) (st : List Value) (s : y_G) : Option (List Value × y_G) := match i with
  | .putfield _ => match st with
    | .int v :: .ref c :: r => if c < s.1.2 ∧ z_K c = x ∧ y < z_nf x ∧ z_fi x y = false ∧ (z_ty x y = 0 ∨ z_ty x y = 3 ∧ (v = 0 ∨ v = 1)) then some (r, y_I s c y v) else none
    | .long v :: .ref c :: r => if c < s.1.2 ∧ z_K c = x ∧ y < z_nf x ∧ z_fi x y = false ∧ z_ty x y = 1 then some (r, y_L s c y v) else none
    | .ref v :: .ref c :: r => if c < s.1.2 ∧ z_K c = x ∧ y < z_nf x ∧ (z_fi x y = false ∨ al = true ∧ ow = x) ∧ v < s.1.2 ∧ z_ty x y = 4 + z_K v then some (r, y_R s c y v) else none
    | _ => none
  | .iastore => match st with
    | .int v :: .int k :: .ref a :: r => if a < s.1.2 ∧ z_K a = 20 ∧ z_in k (z_Ln a) then some (r, y_I s a k.toNatClampNeg v) else none
    | _ => none
  | .aastore => match st with
    | .ref v :: .int k :: .ref a :: r => if al = true ∧ a < s.1.2 ∧ v < s.1.2 ∧ (z_K a = 23 ∧ z_K v = 8 ∨ z_K a = 24 ∧ z_K v = 4) ∧ z_in k (z_Ln a) then some (r, y_R s a k.toNatClampNeg v) else none
    | _ => none
  | _ => none
theorem y_wr_ok {B : z_S} {s : y_G} {al : Bool} {ow : Nat} {i : Instr} {x y : Nat} {st : List Value} {r : List Value × y_G} (hI : y_In s) (h : y_wr al ow i x y st s = some r) : z_wr al ow i x y st (y_ap B s) = some (r.1, y_ap B r.2) ∧ y_In r.2 ∧ r.2.1.1 = s.1.1 := by
  unfold y_wr at h
  split at h
  · split at h
    · rename_i v c r0
      split at h
      · rename_i hg
        cases h
        refine ⟨?_, hI.I hg.1, rfl⟩
        show (if c < s.1.2 ∧ z_K c = x ∧ y < z_nf x ∧ z_fi x y = false ∧ (z_ty x y = 0 ∨ z_ty x y = 3 ∧ (v = 0 ∨ v = 1)) then some (r0, sI (y_ap B s) c y v) else none) = _
        rw [if_pos hg]; rfl
      · cases h
    · rename_i v c r0
      split at h
      · rename_i hg
        cases h
        refine ⟨?_, hI.L hg.1, rfl⟩
        show (if c < s.1.2 ∧ z_K c = x ∧ y < z_nf x ∧ z_fi x y = false ∧ z_ty x y = 1 then some (r0, sL (y_ap B s) c y v) else none) = _
        rw [if_pos hg]; rfl
      · cases h
    · rename_i v c r0
      split at h
      · rename_i hg
        cases h
        refine ⟨?_, hI.R hg.1, rfl⟩
        show (if c < s.1.2 ∧ z_K c = x ∧ y < z_nf x ∧ (z_fi x y = false ∨ al = true ∧ ow = x) ∧ v < s.1.2 ∧ z_ty x y = 4 + z_K v then some (r0, sR (y_ap B s) c y (some v)) else none) = _
        rw [if_pos hg]; rfl
      · cases h
    · cases h
  · split at h
    · rename_i v k a r0
      split at h
      · rename_i hg
        cases h
        refine ⟨?_, hI.I hg.1, rfl⟩
        show (if a < s.1.2 ∧ z_K a = 20 ∧ z_in k (z_Ln a) then some (r0, sI (y_ap B s) a k.toNatClampNeg v) else none) = _
        rw [if_pos hg]; rfl
      · cases h
    · cases h
  · split at h
    · rename_i v k a r0
      split at h
      · rename_i hg
        cases h
        refine ⟨?_, hI.R hg.2.1, rfl⟩
        show (if al = true ∧ a < s.1.2 ∧ v < s.1.2 ∧ (z_K a = 23 ∧ z_K v = 8 ∨ z_K a = 24 ∧ z_K v = 4) ∧ z_in k (z_Ln a) then some (r0, sR (y_ap B s) a k.toNatClampNeg (some v)) else none) = _
        rw [if_pos hg]; rfl
      · cases h
    · cases h
  · cases h
def y_sp (i : Instr) (x : Nat) (st : List Value) : Option (List Value) :=
  if x = 901 then none else (z_sp i x st z_S0).map fun r => r.1
theorem y_sp_ok {S : z_S} {i : Instr} {x : Nat} {st r : List Value} (h : y_sp i x st = some r) : z_sp i x st S = some (r, S) := by
  unfold y_sp at h
  split at h
  · cases h
  · rename_i hx
    obtain ⟨q, h1, rfl⟩ := Option.map_eq_some_iff.mp h
    unfold z_sp at h1 ⊢
    by_cases c0 : x = 900
    · rw [if_pos c0] at h1 ⊢
      split at h1
      · split at h1
        · rename_i hw
          cases h1
          dsimp only
          rw [if_pos hw]
        · cases h1
      · cases h1
    · rw [if_neg c0, if_neg hx] at h1 ⊢
      by_cases c2 : x = 902
      · rw [if_pos c2] at h1 ⊢
        split at h1
        · split at h1
          · rename_i hw
            cases h1
            rw [if_pos hw]
          · cases h1
        · cases h1
      · rw [if_neg c2] at h1 ⊢
        by_cases c3 : x = 903
        · rw [if_pos c3] at h1 ⊢
          split at h1
          · split at h1
            · rename_i hw
              cases h1
              rw [if_pos hw]
            · cases h1
          · cases h1
        · rw [if_neg c3] at h1; cases h1
abbrev y_Q : Type := Option Value × y_G
abbrev y_C : Type := Nat × List Value × List Value × y_G
/-- the store's shape alone -/
def y_sh (s : y_G) : z_S := (s.1.2, z_K, z_Ln, fun _ _ => 0, fun _ _ => 0, fun _ _ => none)
def y_ex (call : Nat → List Value → y_G → Option y_Q) (mi pc : Nat) (e : z_En) (ls st : List Value) (s : y_G) : Option (y_Q ⊕ y_C) :=
  match z_gr e.1 with
  | 0 => (z_pu e.1 e.2.2.2.2.1 e.2.2.2.2.2.2.2 st).map fun r => .inr (pc + e.2.1, ls, r, s)
  | 1 => (z_lo e.1 ls st).map fun r => .inr (pc + e.2.1, ls, r, s)
  | 2 => (z_so e.1 ls st).map fun r => .inr (pc + e.2.1, r.1, r.2, s)
  | 3 => (z_br e.1 (pc + e.2.1) e.2.2.2.2.1 e.2.2.2.1 st).map fun r => .inr (r.1, ls, r.2, s)
  | 4 => (y_rd e.1 e.2.2.2.2.1 e.2.2.2.2.2.1 st s).map fun r => .inr (pc + e.2.1, ls, r, s)
  | 5 => (y_wr (z_al mi) (z_ow mi) e.1 e.2.2.2.2.1 e.2.2.2.2.2.1 st s).map fun r => .inr (pc + e.2.1, ls, r.1, r.2)
  | 6 => if z_al mi then (z_aw e.1 e.2.2.2.2.1 st).bind fun r => if z_clF s.1.2 ls r.2.2 && (decide (r.1 = z_K s.1.2) && decide (r.2.1 = z_Ln s.1.2)) then some (.inr (pc + e.2.1, ls, .ref s.1.2 :: r.2.2, y_N s)) else none else none
  | 7 => if 900 ≤ e.2.2.2.2.1 then (y_sp e.1 e.2.2.2.2.1 st).map fun r => .inr (pc + e.2.1, ls, r, s) else
      if st.length < z_na e.2.2.2.2.1 ∨ 8 < z_wt (st.drop (z_na e.2.2.2.2.1)) then none else
      if z_iv e.1 e.2.2.2.2.1 && z_rc mi e.2.2.2.2.1 (st.take (z_na e.2.2.2.2.1)).reverse (y_sh s) && (!z_al e.2.2.2.2.1 || (z_al mi && z_clF s.1.2 ls st)) then
        (call e.2.2.2.2.1 (st.take (z_na e.2.2.2.2.1)).reverse s).bind fun q => (z_ps (z_rk e.2.2.2.2.1) q.1 (st.drop (z_na e.2.2.2.2.1))).map fun r => .inr (pc + e.2.1, ls, r, q.2)
      else none
  | _ => (z_re (z_rk mi) e.1 st).map fun r => .inl (r, s)
def y_o (B : z_S) (o : y_Q ⊕ y_C) : z_Q ⊕ z_C := match o with
  | .inl q => .inl (q.1, y_ap B q.2)
  | .inr c => .inr (c.1, c.2.1, c.2.2.1, y_ap B c.2.2.2)
def y_g (o : y_Q ⊕ y_C) : y_G := match o with
  | .inl q => q.2
  | .inr c => c.2.2.2
/-- a call of the log's machine is one of the lite machine's -/
def y_ok (n0 : Nat) (B : z_S) (call' : Nat → List Value → y_G → Option y_Q) (call : Nat → List Value → z_S → Option z_Q) : Prop := ∀ x as s q, y_In s → s.1.1 = n0 → call' x as s = some q → call x as (y_ap B s) = some (q.1, y_ap B q.2) ∧ y_In q.2 ∧ q.2.1.1 = n0
theorem y_rc_eq {mi x : Nat} {as : List Value} {B : z_S} {s : y_G} : z_rc mi x as (y_sh s) = z_rc mi x as (y_ap B s) := rfl
theorem y_ex_ok {n0 : Nat} {B : z_S} {X : Nat × (Nat → Int32)} {call' : Nat → List Value → y_G → Option y_Q} {call : Nat → List Value → z_S → Option z_Q} {mi pc : Nat} {e : z_En} {ls st : List Value} {s : y_G} {o : y_Q ⊕ y_C} (hc : y_ok n0 B call' call) (hB : y_B n0 B) (hI : y_In s) (h0 : s.1.1 = n0) (h : y_ex call' mi pc e ls st s = some o) : z_ex X call mi pc e ls st (y_ap B s) = some (y_o B o) ∧ y_In (y_g o) ∧ (y_g o).1.1 = n0 := by
  have hB' : y_B s.1.1 B := by rw [h0]; exact hB
  unfold y_ex at h
  unfold z_ex
  split at h
  · rename_i g
    obtain ⟨r, h1, rfl⟩ := Option.map_eq_some_iff.mp h
    rw [g]
    rw [h1]
    exact ⟨rfl, hI, h0⟩
  · rename_i g
    obtain ⟨r, h1, rfl⟩ := Option.map_eq_some_iff.mp h
    rw [g]
    rw [h1]
    exact ⟨rfl, hI, h0⟩
  · rename_i g
    obtain ⟨r, h1, rfl⟩ := Option.map_eq_some_iff.mp h
    rw [g]
    rw [h1]
    exact ⟨rfl, hI, h0⟩
  · rename_i g
    obtain ⟨r, h1, rfl⟩ := Option.map_eq_some_iff.mp h
    rw [g]
    rw [h1]
    exact ⟨rfl, hI, h0⟩
  · rename_i g
    obtain ⟨r, h1, rfl⟩ := Option.map_eq_some_iff.mp h
    rw [g]
    rw [y_rd_ok (X := X) hB' h1]
    exact ⟨rfl, hI, h0⟩
  · rename_i g
    obtain ⟨r, h1, rfl⟩ := Option.map_eq_some_iff.mp h
    obtain ⟨w1, w2, w3⟩ := y_wr_ok (B := B) hI h1
    rw [g]
    rw [w1]
    exact ⟨rfl, w2, w3.trans h0⟩
  · rename_i g
    split at h
    · rename_i ha
      obtain ⟨r, h1, h2⟩ := Option.bind_eq_some_iff.mp h
      split at h2
      · rename_i hq
        cases h2
        rw [Bool.and_eq_true, Bool.and_eq_true, decide_eq_true_eq, decide_eq_true_eq] at hq
        obtain ⟨q1, q2, q3⟩ := hq
        have q1' : z_clF (z_sz (y_ap B s)) ls r.2.2 = true := q1
        rw [g]
        rw [if_pos ha, h1, Option.bind_some, if_pos q1', q2, q3, y_nw hB' hI]
        exact ⟨rfl, hI.N, h0⟩
      · cases h2
    · cases h
  · rename_i g
    split at h
    · rename_i h9
      obtain ⟨r, h1, rfl⟩ := Option.map_eq_some_iff.mp h
      rw [g]
      rw [if_pos h9, y_sp_ok (S := y_ap B s) h1]
      exact ⟨rfl, hI, h0⟩
    · rename_i h9
      split at h
      · cases h
      · rename_i hl
        split at h
        · rename_i hg
          obtain ⟨q, h1, h2⟩ := Option.bind_eq_some_iff.mp h
          obtain ⟨r, h3, rfl⟩ := Option.map_eq_some_iff.mp h2
          obtain ⟨k1, k2, k3⟩ := hc _ _ _ _ hI h0 h1
          rw [g]
          have hg' : (z_iv e.1 e.2.2.2.2.1 && z_rc mi e.2.2.2.2.1 (st.take (z_na e.2.2.2.2.1)).reverse (y_ap B s) && (!z_al e.2.2.2.2.1 || (z_al mi && z_clF (z_sz (y_ap B s)) ls st))) = true := hg
          rw [if_neg h9, if_neg hl, if_pos hg', k1, Option.bind_some, h3]
          exact ⟨rfl, k2, k3⟩
        · cases h
  · rename_i n0 n1 n2 n3 n4 n5 n6 n7
    obtain ⟨r, h1, rfl⟩ := Option.map_eq_some_iff.mp h
    split
    · exact absurd ‹_› n0
    · exact absurd ‹_› n1
    · exact absurd ‹_› n2
    · exact absurd ‹_› n3
    · exact absurd ‹_› n4
    · exact absurd ‹_› n5
    · exact absurd ‹_› n6
    · exact absurd ‹_› n7
    · rw [h1]
      exact ⟨rfl, hI, h0⟩
def y_st (call : Nat → List Value → y_G → Option y_Q) (mi : Nat) (c : y_C) : Option (y_Q ⊕ y_C) := (z_ft mi c.1).bind fun e => y_ex call mi c.1 e (z_mk e.2.2.1 c.2.1) c.2.2.1 c.2.2.2
theorem y_st_ok {n0 : Nat} {B : z_S} {X : Nat × (Nat → Int32)} {call' : Nat → List Value → y_G → Option y_Q} {call : Nat → List Value → z_S → Option z_Q} {mi : Nat} {c : y_C} {o : y_Q ⊕ y_C} (hc : y_ok n0 B call' call) (hB : y_B n0 B) (hI : y_In c.2.2.2) (h0 : c.2.2.2.1.1 = n0) (h : y_st call' mi c = some o) : z_st X call mi (c.1, c.2.1, c.2.2.1, y_ap B c.2.2.2) = some (y_o B o) ∧ y_In (y_g o) ∧ (y_g o).1.1 = n0 := by
  obtain ⟨e, h1, h2⟩ := Option.bind_eq_some_iff.mp h
  have := y_ex_ok (X := X) hc hB hI h0 h2
  refine ⟨?_, this.2⟩
  unfold z_st
  rw [h1]
  exact this.1
def y_run (call : Nat → List Value → y_G → Option y_Q) (mi : Nat) : Nat → y_C → Option y_Q
  | 0, _ => none
  | n + 1, c => match y_st call mi c with
    | none => none
    | some (.inl q) => some q
    | some (.inr c') => y_run call mi n c'
theorem y_run_ok {n0 : Nat} {B : z_S} {X : Nat × (Nat → Int32)} {call' : Nat → List Value → y_G → Option y_Q} {call : Nat → List Value → z_S → Option z_Q} {mi : Nat} (hc : y_ok n0 B call' call) (hB : y_B n0 B) : ∀ (n : Nat) (c : y_C) (q : y_Q), y_In c.2.2.2 → c.2.2.2.1.1 = n0 → y_run call' mi n c = some q → z_run X call mi n (c.1, c.2.1, c.2.2.1, y_ap B c.2.2.2) = some (q.1, y_ap B q.2) ∧ y_In q.2 ∧ q.2.1.1 = n0
  | 0, c, q, _, _, h => by cases h
  | n + 1, c, q, hI, h0, h => by
    rw [y_run] at h
    split at h
    · cases h
    · rename_i q' hs
      cases h
      obtain ⟨a1, a2, a3⟩ := y_st_ok (X := X) hc hB hI h0 hs
      rw [z_run, a1]
      exact ⟨rfl, a2, a3⟩
    · rename_i c' hs
      obtain ⟨a1, a2, a3⟩ := y_st_ok (X := X) hc hB hI h0 hs
      rw [z_run, a1]
      exact y_run_ok hc hB n c' q a2 a3 h
def y_cl (N : Nat) : Nat → Nat → List Value → y_G → Option y_Q
  | 0 => fun _ _ _ => none
  | d + 1 => fun mi as s => if (z_args as).length ≤ z_mL mi then y_run (y_cl N d) mi N (0, z_en (z_mL mi) as, [], s) else none
theorem y_cl_ok {n0 N : Nat} {B : z_S} (hB : y_B n0 B) : ∀ d, y_ok n0 B (y_cl N d) (z_call d)
  | 0 => fun x as s q _ _ h => by cases h
  | d + 1 => fun x as s q hI h0 h => by
    have h' : (if (z_args as).length ≤ z_mL x then y_run (y_cl N d) x N (0, z_en (z_mL x) as, [], s) else none) = some q := h
    by_cases ha : (z_args as).length ≤ z_mL x
    · rw [if_pos ha] at h'
      obtain ⟨a1, a2⟩ := y_run_ok (X := z_X0) (y_cl_ok (N := N) hB d) hB N _ q hI h0 h'
      exact ⟨by rw [z_call_ev ha]; exact z_ev_of a1, a2⟩
    · rw [if_neg ha] at h'; cases h'
/-- run on to the place tgt -/
def y_go (call : Nat → List Value → y_G → Option y_Q) (mi tgt : Nat) : Nat → y_C → Option y_C
  | 0, _ => none
  | n + 1, c => match y_st call mi c with
    | some (.inr c') => if c'.1 = tgt then some c' else y_go call mi tgt n c'
    | _ => none
theorem y_go_ok {α : Type} {k : z_Q → Option α} {n0 d N : Nat} {B : z_S} {X : Nat × (Nat → Int32)} {mi tgt : Nat} (hB : y_B n0 B) : ∀ (n : Nat) (c c' : y_C), y_In c.2.2.2 → c.2.2.2.1.1 = n0 → y_go (y_cl N d) mi tgt n c = some c' → zk k X d mi c.1 c.2.1 c.2.2.1 (y_ap B c.2.2.2) = zk k X d mi c'.1 c'.2.1 c'.2.2.1 (y_ap B c'.2.2.2) ∧ y_In c'.2.2.2 ∧ c'.2.2.2.1.1 = n0
  | 0, c, c', _, _, h => by cases h
  | n + 1, c, c', hI, h0, h => by
    rw [y_go] at h
    split at h
    · rename_i c2 hs
      obtain ⟨a1, a2, a3⟩ := y_st_ok (X := X) (y_cl_ok (N := N) hB d) hB hI h0 hs
      have e : zk k X d mi c.1 c.2.1 c.2.2.1 (y_ap B c.2.2.2) = zk k X d mi c2.1 c2.2.1 c2.2.2.1 (y_ap B c2.2.2.2) := by
        unfold zk
        rw [z_ev_go a1]
      split at h
      · cases h
        exact ⟨e, a2, a3⟩
      · obtain ⟨b1, b2⟩ := y_go_ok hB n c2 c' a2 a3 h
        exact ⟨e.trans b1, b2⟩
    · cases h
end IG
