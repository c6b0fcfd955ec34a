/-! LAWS OF THE LITE MACHINE: a run's limit, one step of it, what a step leaves as it was. -/
theorem z_run_mono {X : Nat × (Nat → Int32)} {call : Nat → List Value → z_S → Option z_Q} {mi : Nat} : ∀ (n : Nat) (c : z_C) (q : z_Q), z_run X call mi n c = some q → z_run X call mi (n + 1) c = some q
  | 0, c, q, h => by simp [z_run] at h
  | n + 1, c, q, h => by
    rw [z_run] at h ⊢
    cases hs : z_st X call mi c with
    | none => rw [hs] at h; simp at h
    | some r =>
      rw [hs] at h
      cases r with
      | inl q' => exact h
      | inr c' => exact z_run_mono n c' q h
theorem z_run_le {X : Nat × (Nat → Int32)} {call : Nat → List Value → z_S → Option z_Q} {mi : Nat} {n m : Nat} {c : z_C} {q : z_Q} (h : z_run X call mi n c = some q) (hm : n ≤ m) : z_run X call mi m c = some q := by
  obtain ⟨k, rfl⟩ := Nat.exists_eq_add_of_le hm
  induction k with
  | zero => exact h
  | succ k ih => exact z_run_mono _ _ _ (ih (Nat.le_add_right _ _))
theorem z_lim_some {α : Type} {f : Nat → Option α} {q : α} (h : z_lim f = some q) : ∃ n, f n = some q := by
  unfold z_lim at h
  split at h
  · rename_i hx
    have h2 := Classical.choose_spec (Classical.choose_spec hx)
    rw [Option.some.inj h] at h2
    exact ⟨_, h2⟩
  · cases h
theorem z_lim_of {α : Type} {f : Nat → Option α} (hm : ∀ n m q, f n = some q → n ≤ m → f m = some q) {n : Nat} {q : α} (h : f n = some q) : z_lim f = some q := by
  have hx : ∃ n q, f n = some q := ⟨n, q, h⟩
  have e : z_lim f = some (Classical.choose (Classical.choose_spec hx)) := by
    unfold z_lim
    rw [dif_pos hx]
  have h2 := Classical.choose_spec (Classical.choose_spec hx)
  rw [e]
  have h3 := hm _ (max n (Classical.choose hx)) _ h2 (Nat.le_max_right _ _)
  have h4 := hm _ (max n (Classical.choose hx)) _ h (Nat.le_max_left _ _)
  rw [h3] at h4
  exact h4
theorem z_lim_none {α : Type} {f : Nat → Option α} (h : ∀ n, f n = none) : z_lim f = none := by
  cases hl : z_lim f with
  | none => rfl
  | some q =>
    obtain ⟨n, hn⟩ := z_lim_some hl
    rw [h n] at hn
    cases hn
section ZL
variable {X : Nat × (Nat → Int32)} {d mi : Nat}
theorem z_ev_of {n : Nat} {c : z_C} {q : z_Q} (h : z_run X (z_call d) mi n c = some q) : z_ev X d mi c = some q :=
  z_lim_of (fun _ _ _ h1 h2 => z_run_le h1 h2) h
theorem z_ev_some {c : z_C} {q : z_Q} (h : z_ev X d mi c = some q) : ∃ n, z_run X (z_call d) mi n c = some q := z_lim_some h
theorem z_ev_go {c c' : z_C} (h : z_st X (z_call d) mi c = some (.inr c')) : z_ev X d mi c = z_ev X d mi c' := by
  cases h1 : z_ev X d mi c' with
  | some q =>
    obtain ⟨n, hn⟩ := z_ev_some h1
    exact z_ev_of (n := n + 1) (by rw [z_run, h]; exact hn)
  | none =>
    cases h2 : z_ev X d mi c with
    | none => rfl
    | some q =>
      obtain ⟨n, hn⟩ := z_ev_some h2
      cases n with
      | zero => simp [z_run] at hn
      | succ n =>
        rw [z_run, h] at hn
        rw [z_ev_of (n := n) hn] at h1
        cases h1
theorem z_ev_end {c : z_C} {q : z_Q} (h : z_st X (z_call d) mi c = some (.inl q)) : z_ev X d mi c = some q :=
  z_ev_of (n := 1) (by rw [z_run, h])
theorem z_ev_no {c : z_C} (h : z_st X (z_call d) mi c = none) : z_ev X d mi c = none := by
  cases h2 : z_ev X d mi c with
  | none => rfl
  | some q =>
    obtain ⟨n, hn⟩ := z_ev_some h2
    cases n with
    | zero => simp [z_run] at hn
    | succ n => rw [z_run, h] at hn; cases hn
theorem z_ev_st {c c' : z_C} (h : z_st X (z_call d) mi c = z_st X (z_call d) mi c') : z_ev X d mi c = z_ev X d mi c' := by
  cases h1 : z_st X (z_call d) mi c with
  | none => rw [z_ev_no h1, z_ev_no (h ▸ h1)]
  | some r =>
    cases r with
    | inl q => rw [z_ev_end h1, z_ev_end (h ▸ h1)]
    | inr c2 => exact (z_ev_go h1).trans (z_ev_go (h ▸ h1)).symm
/-- a method at depth d + 1 is its code from its first row on -/
theorem z_call_ev {as : List Value} {S : z_S} (h : (z_args as).length ≤ z_mL mi) : z_call (d + 1) mi as S = z_ev z_X0 d mi (0, z_en (z_mL mi) as, [], S) := by
  show (if (z_args as).length ≤ z_mL mi then z_lim (fun n => z_run z_X0 (z_call d) mi n (0, z_en (z_mL mi) as, [], S)) else none) = _
  rw [if_pos h]
  rfl
end ZL
theorem z_mkL_idem : ∀ (i : Nat) (l : List Nat) (ls : List Value), z_mkL i l (z_mkL i l ls) = z_mkL i l ls
  | _, _, [] => rfl
  | i, l, v :: r => by
    rw [z_mkL, z_mkL, z_mkL_idem (i + 1) l r]
    by_cases h : l.contains i = true
    · rw [if_pos h, if_pos h]
    · rw [if_neg h, if_neg h]
theorem z_mk_idem (o : Option (List Nat)) (ls : List Value) : z_mk o (z_mk o ls) = z_mk o ls := by
  cases o with
  | none => rfl
  | some l => exact z_mkL_idem 0 l ls
/-- the rest of a method from a place on, and then k -/
noncomputable def zk {α : Type} (k : z_Q → Option α) (X : Nat × (Nat → Int32)) (d mi pc : Nat) (ls st : List Value) (S : z_S) : Option α := (z_ev X d mi (pc, ls, st, S)).bind k
section ZR
variable {α : Type} {k : z_Q → Option α} {X : Nat × (Nat → Int32)} {d mi pc : Nat} {ls st : List Value} {S : z_S} {mk : Option (List Nat)} {ts : List Nat} {x y w n : Nat} {v : Int} {i : Instr}
theorem zk_go {c' : z_C} (hf : z_ft mi pc = some (i, n, mk, ts, x, y, w, v)) (h : z_ex X (z_call d) mi pc (i, n, mk, ts, x, y, w, v) (z_mk mk ls) st S = some (.inr c')) : zk k X d mi pc ls st S = zk k X d mi c'.1 c'.2.1 c'.2.2.1 c'.2.2.2 := by
  unfold zk
  rw [z_ev_go (c' := c') (by rw [z_st]; show (z_ft mi pc).bind _ = _; rw [hf]; exact h)]
theorem zk_end {q : z_Q} (hf : z_ft mi pc = some (i, n, mk, ts, x, y, w, v)) (h : z_ex X (z_call d) mi pc (i, n, mk, ts, x, y, w, v) (z_mk mk ls) st S = some (.inl q)) : zk k X d mi pc ls st S = k q := by
  unfold zk
  rw [z_ev_end (q := q) (by rw [z_st]; show (z_ft mi pc).bind _ = _; rw [hf]; exact h)]
  rfl
theorem zk_no (hf : z_ft mi pc = some (i, n, mk, ts, x, y, w, v)) (h : z_ex X (z_call d) mi pc (i, n, mk, ts, x, y, w, v) (z_mk mk ls) st S = none) : zk k X d mi pc ls st S = none := by
  unfold zk
  rw [z_ev_no (by rw [z_st]; show (z_ft mi pc).bind _ = _; rw [hf]; exact h)]
  rfl
/-- at a block's head only the locals that live count -/
theorem zk_mk {ls' : List Value} (hf : z_ft mi pc = some (i, n, mk, ts, x, y, w, v)) (hl : z_mk mk ls = ls') : zk k X d mi pc ls st S = zk k X d mi pc ls' st S := by
  subst hl
  unfold zk
  rw [z_ev_st (c := (pc, ls, st, S)) (c' := (pc, z_mk mk ls, st, S)) ?_]
  rw [z_st, z_st]
  show (z_ft mi pc).bind _ = (z_ft mi pc).bind _
  rw [hf]
  show z_ex _ _ _ _ _ (z_mk mk ls) _ _ = z_ex _ _ _ _ _ (z_mk mk (z_mk mk ls)) _ _
  rw [z_mk_idem]
end ZR
