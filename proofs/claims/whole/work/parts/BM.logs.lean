/-! THE CONSTRUCTORS: rules of the log's machine. -/
section II
def y_d1 : DecidableEq (List (Nat × Nat × Int32)) := inferInstance
def y_d2 : DecidableEq (List (Nat × Nat × Int64)) := inferInstance
def y_d3 : DecidableEq (List (Nat × Nat × Nat)) := inferInstance
def y_d4 : DecidableEq (List (Nat × Nat × Int64) × List (Nat × Nat × Nat)) := @instDecidableEqProd _ _ y_d2 y_d3
def y_d5 : DecidableEq (List (Nat × Nat × Int32) × List (Nat × Nat × Int64) × List (Nat × Nat × Nat)) := @instDecidableEqProd _ _ y_d1 y_d4
def y_dG : DecidableEq y_G := @instDecidableEqProd _ _ inferInstance y_d5
def y_d6 : DecidableEq (List Value × y_G) := @instDecidableEqProd _ _ inferInstance y_dG
def y_d7 : DecidableEq (List Value × List Value × y_G) := @instDecidableEqProd _ _ inferInstance y_d6
def y_d8 : DecidableEq y_C := @instDecidableEqProd _ _ inferInstance y_d7
def y_dC : DecidableEq (Option y_C) := by
  letI := y_d8
  exact inferInstance
def y_d9 : DecidableEq y_Q := @instDecidableEqProd _ _ inferInstance y_dG
def y_dQ : DecidableEq (Option y_Q) := by
  letI := y_d9
  exact inferInstance
theorem y_goD {call : Nat → List Value → y_G → Option y_Q} {mi tgt n : Nat} {c c' : y_C} (h : @decide (y_go call mi tgt n c = some c') (y_dC _ _) = true) : y_go call mi tgt n c = some c' := @of_decide_eq_true _ (y_dC _ _) h
theorem y_runD {call : Nat → List Value → y_G → Option y_Q} {mi n : Nat} {c : y_C} {q : y_Q} (h : @decide (y_run call mi n c = some q) (y_dQ _ _) = true) : y_run call mi n c = some q := @of_decide_eq_true _ (y_dQ _ _) h
/-- from place to place over a base -/
theorem y_seg {α : Type} {k : z_Q → Option α} {X : Nat × (Nat → Int32)} {B : z_S} {n0 d N n mi tgt pc : Nat} {ls st : List Value} {lr : List (Nat × Nat × Nat)} {c' : y_C} (h : y_go (y_cl N d) mi tgt n (pc, ls, st, ((n0, n0), [], [], lr)) = some c') (hB : y_B n0 B) (hl : ∀ e, e ∈ lr → e.1 < n0) (hr : ∀ e, e ∈ lr → gR B e.1 e.2.1 = some e.2.2) : zk k X d mi pc ls st B = zk k X d mi c'.1 c'.2.1 c'.2.2.1 (y_ap B c'.2.2.2) ∧ y_B c'.2.2.2.1.2 (y_ap B c'.2.2.2) := by
  have hI : y_In ((n0, n0), [], [], lr) := ⟨Nat.le_refl _, (fun e he => by cases he), (fun e he => by cases he), hl⟩
  obtain ⟨a1, a2, a3⟩ := y_go_ok (k := k) (X := X) hB n _ c' hI rfl h
  have e := y_self (li := []) hB (fun e he => by cases he) hr
  refine ⟨?_, y_ap_B (by rw [a3]; exact hB) a2⟩
  rw [← a1]
  show _ = zk k X d mi pc ls st (y_ap B ((n0, n0), [], [], lr))
  rw [e]
/-- and to its end -/
theorem y_fin {α : Type} {k : z_Q → Option α} {X : Nat × (Nat → Int32)} {B : z_S} {n0 d N n mi pc : Nat} {ls st : List Value} {q : y_Q} (h : y_run (y_cl N d) mi n (pc, ls, st, ((n0, n0), [], [], [])) = some q) (hB : y_B n0 B) : zk k X d mi pc ls st B = k (q.1, y_ap B q.2) ∧ y_B q.2.1.2 (y_ap B q.2) := by
  have hI : y_In ((n0, n0), [], [], []) := ⟨Nat.le_refl _, (fun e he => by cases he), (fun e he => by cases he), (fun e he => by cases he)⟩
  obtain ⟨a1, a2, a3⟩ := y_run_ok (X := X) (y_cl_ok (N := N) hB d) hB n _ q hI rfl h
  have e := y_self (li := []) (lr := []) hB (fun e he => by cases he) (fun e he => by cases he)
  refine ⟨?_, y_ap_B (by rw [a3]; exact hB) a2⟩
  unfold zk
  have a1' : z_run X (z_call d) mi n (pc, ls, st, y_ap B ((n0, n0), [], [], [])) = some (q.1, y_ap B q.2) := a1
  rw [e] at a1'
  rw [z_ev_of a1']
  rfl
theorem y_en {d mi : Nat} {as ls : List Value} {S : z_S} (h : (z_args as).length ≤ z_mL mi) (hl : z_en (z_mL mi) as = ls) : z_call (d + 1) mi as S = zk some z_X0 d mi 0 ls [] S := by
  subst hl
  rw [z_call_ev h]
  unfold zk
  cases z_ev z_X0 d mi (0, z_en (z_mL mi) as, [], S) <;> rfl
/-- a constructor is called -/
theorem k_ini {α : Type} {k : z_Q → Option α} {X : Nat × (Nat → Int32)} {d mi pc n x y w : Nat} {v : Int} {ls st as rest : List Value} {S S' : z_S} {mk : Option (List Nat)} {ts : List Nat} (hf : z_ft mi pc = some (.invokespecial n, 3, mk, ts, x, y, w, v)) (hm : z_mk mk ls = ls) (hx : ¬ 900 ≤ x) (hst : st = as.reverse ++ rest) (hn : as.length = z_na x) (hwt : z_wt rest ≤ 8) (hiv : z_iv (.invokespecial n) x = true) (hrc : z_rc mi x as S = true) (hal : z_al mi = true) (hcl : z_clF (z_sz S) ls st = true) (hrk : z_rk x = 0) (hcall : z_call d x as S = some (none, S')) : zk k X d mi pc ls st S = zk k X d mi (pc + 3) ls rest S' := by
  refine zk_go (c' := (pc + 3, ls, rest, S')) hf ?_
  rw [hm]
  have hl : as.reverse.length = z_na x := by rw [List.length_reverse]; exact hn
  have t1 : st.take (z_na x) = as.reverse := by rw [hst, ← hl, List.take_left]
  have t2 : st.drop (z_na x) = rest := by rw [hst, ← hl, List.drop_left]
  have t3 : ¬ (st.length < z_na x ∨ 8 < z_wt (st.drop (z_na x))) := by
    rw [t2, hst, List.length_append, hl]
    omega
  show (if 900 ≤ x then (z_sp (.invokespecial n) x st S).map (fun r => Sum.inr (pc + 3, ls, r.1, r.2)) else if st.length < z_na x ∨ 8 < z_wt (st.drop (z_na x)) then none else if z_iv (.invokespecial n) x && z_rc mi x (st.take (z_na x)).reverse S && (!z_al x || (z_al mi && z_clF (z_sz S) ls st)) then (z_call d x (st.take (z_na x)).reverse S).bind fun q => (z_ps (z_rk x) q.1 (st.drop (z_na x))).map fun r => Sum.inr (pc + 3, ls, r, q.2) else none) = _
  rw [if_neg hx, if_neg t3, t1, t2, List.reverse_reverse, if_pos (by rw [hiv, hrc, hal, hcl]; cases z_al x <;> rfl), hcall, Option.bind_some, hrk]
  rfl
end II
section IJ
/-- so many steps -/
def y_ns (call : Nat → List Value → y_G → Option y_Q) (mi : Nat) : Nat → y_C → Option y_C
  | 0, c => some c
  | n + 1, c => match y_st call mi c with
    | some (.inr c') => y_ns call mi n c'
    | _ => none
theorem y_ns_ok {α : Type} {k : z_Q → Option α} {n0 d N : Nat} {B : z_S} {X : Nat × (Nat → Int32)} {mi : Nat} (hB : y_B n0 B) : ∀ (n : Nat) (c c' : y_C), y_In c.2.2.2 → c.2.2.2.1.1 = n0 → y_ns (y_cl N d) mi n c = some c' → zk k X d mi c.1 c.2.1 c.2.2.1 (y_ap B c.2.2.2) = zk k X d mi c'.1 c'.2.1 c'.2.2.1 (y_ap B c'.2.2.2) ∧ y_In c'.2.2.2 ∧ c'.2.2.2.1.1 = n0
  | 0, c, c', hI, h0, h => by
    cases h
    exact ⟨rfl, hI, h0⟩
  | n + 1, c, c', hI, h0, h => by
    rw [y_ns] at h
    split at h
    · rename_i c2 hs
      obtain ⟨a1, a2, a3⟩ := y_st_ok (X := X) (y_cl_ok (N := N) hB d) hB hI h0 hs
      have e : zk k X d mi c.1 c.2.1 c.2.2.1 (y_ap B c.2.2.2) = zk k X d mi c2.1 c2.2.1 c2.2.2.1 (y_ap B c2.2.2.2) := by
        unfold zk
        rw [z_ev_go a1]
      obtain ⟨b1, b2⟩ := y_ns_ok hB n c2 c' a2 a3 h
      exact ⟨e.trans b1, b2⟩
    · cases h
theorem y_nsD {call : Nat → List Value → y_G → Option y_Q} {mi n : Nat} {c c' : y_C} (h : @decide (y_ns call mi n c = some c') (y_dC _ _) = true) : y_ns call mi n c = some c' := @of_decide_eq_true _ (y_dC _ _) h
end IJ
