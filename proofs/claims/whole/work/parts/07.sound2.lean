/-! SOUNDNESS 2: the locals. -/
def z_isj (v : Value) : Bool := match v with
  | .retAddr 0 => true
  | _ => false
theorem z_isj_iff (v : Value) : z_isj v = true ↔ v = z_j := by
  constructor
  · intro h
    cases v with
    | retAddr n =>
      match n, h with
      | 0, _ => rfl
    | _ => cases h
  · intro h
    rw [h]
    rfl
/-- the machine's locals hold the lite ones, but for those that are no value -/
def z_LR (rho : Nat → Nat) (b q : Nat) (lsR : Array Slot) (nL : Nat) (ls : List Value) : Prop := ls.length = nL ∧ lsR.size = nL ∧ lv_wf lsR ∧ ∀ (k : Nat) (v : Value), ls[k]? = some v → z_isj v = false → lsR[k]? = some (.val (z_rv rho b q v))
def z_prs (rho : Nat → Nat) (b q : Nat) (ls : List Value) : List (Nat × Value) := (List.range ls.length).filterMap fun k => match ls[k]? with
  | some v => if z_isj v then none else some (k, z_rv rho b q v)
  | none => none
theorem z_prs_mem {rho : Nat → Nat} {b q : Nat} {ls : List Value} {k : Nat} {u : Value} : (k, u) ∈ z_prs rho b q ls ↔ ∃ v, ls[k]? = some v ∧ z_isj v = false ∧ u = z_rv rho b q v := by
  unfold z_prs
  rw [List.mem_filterMap]
  constructor
  · rintro ⟨k', -, h⟩
    cases hl : ls[k']? with
    | none => simp [hl] at h
    | some v =>
      rw [hl] at h
      by_cases hz : z_isj v = true
      · simp [hz] at h
      · simp only [hz] at h
        simp at h
        obtain ⟨rfl, rfl⟩ := h
        exact ⟨v, hl, by simpa using hz, rfl⟩
  · rintro ⟨v, h1, h2, rfl⟩
    refine ⟨k, List.mem_range.mpr (List.getElem?_eq_some_iff.mp h1).1, ?_⟩
    rw [h1]
    simp [h2]
theorem z_LR.has {rho : Nat → Nat} {b q : Nat} {lsR : Array Slot} {nL : Nat} {ls : List Value} (h : z_LR rho b q lsR nL ls) : lv_has lsR nL (z_prs rho b q ls) := by
  refine ⟨h.2.1, h.2.2.1, fun u hu => ?_⟩
  obtain ⟨k, w⟩ := u
  obtain ⟨v, h1, h2, rfl⟩ := z_prs_mem.mp hu
  exact h.2.2.2 k v h1 h2
theorem z_LR.get {rho : Nat → Nat} {b q : Nat} {lsR : Array Slot} {nL : Nat} {ls : List Value} (h : z_LR rho b q lsR nL ls) {k : Nat} {v : Value} (hv : ls.getD k z_j = v) (hj : z_isj v = false) : lsR[k]? = some (.val (z_rv rho b q v)) ∧ k < nL := by
  rw [List.getD_eq_getElem?_getD] at hv
  cases hl : ls[k]? with
  | none =>
    rw [hl] at hv
    rw [← hv] at hj
    cases hj
  | some u =>
    rw [hl] at hv
    simp at hv
    subst hv
    exact ⟨h.2.2.2 k u hl hj, by rw [← h.1]; exact (List.getElem?_eq_some_iff.mp hl).1⟩
theorem z_inv_at {ls : List Value} {i k : Nat} {v : Value} (h : (z_inv ls i)[k]? = some v) (hj : z_isj v = false) : ls[k]? = some v ∧ ¬ (k + 1 = i ∧ z_lg v = true) := by
  cases i with
  | zero => exact ⟨h, fun q => by omega⟩
  | succ j =>
    rw [z_inv] at h
    by_cases hz : z_lg (ls.getD j z_j) = true
    · rw [if_pos hz] at h
      by_cases e : k = j
      · subst e
        rw [List.getElem?_set] at h
        split at h
        · split at h
          · cases h; cases hj
          · cases h
        · exact absurd rfl ‹_›
      · rw [List.getElem?_set_ne (fun q => e q.symm)] at h
        exact ⟨h, fun q => e (by omega)⟩
    · rw [if_neg hz] at h
      refine ⟨h, fun q => ?_⟩
      have e : k = j := by omega
      subst e
      rw [List.getD_eq_getElem?_getD, h] at hz
      exact hz q.2
theorem z_inv_len (ls : List Value) (i : Nat) : (z_inv ls i).length = ls.length := by
  cases i with
  | zero => rfl
  | succ j =>
    rw [z_inv]
    split
    · simp
    · rfl
theorem z_lg_cat (rho : Nat → Nat) (b q : Nat) (v : Value) : (z_rv rho b q v).category = 2 ↔ z_lg v = true := by
  cases v with
  | int a => simp [z_rv, Value.category, z_lg]
  | long a => simp [z_rv, Value.category, z_lg]
  | float a => simp [z_rv, Value.category, z_lg]
  | double a => simp [z_rv, Value.category, z_lg]
  | null => simp [z_rv, Value.category, z_lg]
  | ref a => simp [z_rv, Value.category, z_lg]
  | retAddr n =>
    match n with
    | 0 => simp [z_rv, Value.category, z_lg]
    | 1 => simp [z_rv, Value.category, z_lg]
    | 2 => simp [z_rv, Value.category, z_lg]
    | n + 3 => simp [z_rv, Value.category, z_lg]
theorem z_LR.st1 {rho : Nat → Nat} {b q : Nat} {lsR : Array Slot} {nL i : Nat} {ls ls1 : List Value} {v : Value} {lsR' : Array Slot} (h : z_LR rho b q lsR nL ls) (hs : z_s1 ls i v = some ls1) (hh : lv_has lsR' nL ((i, z_rv rho b q v) :: (z_prs rho b q ls).filter (fun u => !(u.1 == i) && !(u.1 + 1 == i && u.2.category == 2)))) : z_LR rho b q lsR' nL ls1 := by
  unfold z_s1 at hs
  split at hs
  · rename_i hi
    cases hs
    refine ⟨by rw [List.length_set, z_inv_len]; exact h.1, hh.1, hh.2.1, fun k u hu hj => ?_⟩
    by_cases e : k = i
    · subst e
      rw [List.getElem?_set_self (by rw [z_inv_len]; exact hi)] at hu
      cases hu
      exact hh.2.2 _ List.mem_cons_self
    · rw [List.getElem?_set_ne (fun q => e q.symm)] at hu
      obtain ⟨h1, h2⟩ := z_inv_at hu hj
      refine hh.2.2 (k, z_rv rho b q u) (List.mem_cons_of_mem _ (List.mem_filter.mpr ⟨z_prs_mem.mpr ⟨u, h1, hj, rfl⟩, ?_⟩))
      have h3 : ¬ (k + 1 = i ∧ (z_rv rho b q u).category = 2) := fun z => h2 ⟨z.1, (z_lg_cat rho b q u).mp z.2⟩
      simp only [Bool.and_eq_true, Bool.not_eq_true', beq_eq_false_iff_ne, ne_eq, Bool.and_eq_false_iff]
      refine ⟨e, ?_⟩
      by_cases h4 : k + 1 = i
      · exact Or.inr (fun z => h3 ⟨h4, z⟩)
      · exact Or.inl h4
  · cases hs
theorem z_LR.st2 {rho : Nat → Nat} {b q : Nat} {lsR : Array Slot} {nL i : Nat} {ls ls1 : List Value} {v : Value} {lsR' : Array Slot} (h : z_LR rho b q lsR nL ls) (hs : z_s2 ls i v = some ls1) (hh : lv_has lsR' nL ((i, z_rv rho b q v) :: (z_prs rho b q ls).filter (fun u => !(u.1 == i) && (!(u.1 == i + 1) && !(u.1 + 1 == i && u.2.category == 2))))) : z_LR rho b q lsR' nL ls1 := by
  unfold z_s2 at hs
  split at hs
  · rename_i hi
    cases hs
    refine ⟨by rw [List.length_set, List.length_set, z_inv_len]; exact h.1, hh.1, hh.2.1, fun k u hu hj => ?_⟩
    by_cases e1 : k = i + 1
    · subst e1
      rw [List.getElem?_set_self (by rw [List.length_set, z_inv_len]; exact hi)] at hu
      cases hu
      cases hj
    · rw [List.getElem?_set_ne (fun q => e1 q.symm)] at hu
      by_cases e : k = i
      · subst e
        rw [List.getElem?_set_self (by rw [z_inv_len]; omega)] at hu
        cases hu
        exact hh.2.2 _ List.mem_cons_self
      · rw [List.getElem?_set_ne (fun q => e q.symm)] at hu
        obtain ⟨h1, h2⟩ := z_inv_at hu hj
        refine hh.2.2 (k, z_rv rho b q u) (List.mem_cons_of_mem _ (List.mem_filter.mpr ⟨z_prs_mem.mpr ⟨u, h1, hj, rfl⟩, ?_⟩))
        have h3 : ¬ (k + 1 = i ∧ (z_rv rho b q u).category = 2) := fun z => h2 ⟨z.1, (z_lg_cat rho b q u).mp z.2⟩
        simp only [Bool.and_eq_true, Bool.not_eq_true', beq_eq_false_iff_ne, ne_eq, Bool.and_eq_false_iff]
        refine ⟨e, e1, ?_⟩
        by_cases h4 : k + 1 = i
        · exact Or.inr (fun z => h3 ⟨h4, z⟩)
        · exact Or.inl h4
  · cases hs
theorem z_mkL_at : ∀ (i : Nat) (l : List Nat) (ls : List Value) (k : Nat) (v : Value), (z_mkL i l ls)[k]? = some v → z_isj v = false → ls[k]? = some v
  | _, _, [], k, v, h, _ => by simp [z_mkL] at h
  | i, l, u :: r, k, v, h, hj => by
    rw [z_mkL] at h
    cases k with
    | zero =>
      simp only [List.getElem?_cons_zero] at h ⊢
      split at h
      · exact h
      · cases h; cases hj
    | succ k =>
      simp only [List.getElem?_cons_succ] at h ⊢
      exact z_mkL_at (i + 1) l r k v h hj
theorem z_mkL_len : ∀ (i : Nat) (l : List Nat) (ls : List Value), (z_mkL i l ls).length = ls.length
  | _, _, [] => rfl
  | i, l, u :: r => by rw [z_mkL, List.length_cons, List.length_cons, z_mkL_len]
theorem z_LR.mk {rho : Nat → Nat} {b q : Nat} {lsR : Array Slot} {nL : Nat} {ls : List Value} (h : z_LR rho b q lsR nL ls) (o : Option (List Nat)) : z_LR rho b q lsR nL (z_mk o ls) := by
  cases o with
  | none => exact h
  | some l => exact ⟨by rw [z_mk, z_mkL_len]; exact h.1, h.2.1, h.2.2.1, fun k v h1 h2 => h.2.2.2 k v (z_mkL_at 0 l ls k v h1 h2) h2⟩
theorem z_args_at (rho : Nat → Nat) (b q : Nat) : ∀ (as : List Value) (i k : Nat) (v : Value), (z_args as)[k]? = some v → z_isj v = false → (i + k, z_rv rho b q v) ∈ lv_args i (as.map (z_rv rho b q))
  | [], i, k, v, h, _ => by simp [z_args] at h
  | u :: r, i, k, v, h, hj => by
    rw [z_args] at h
    rw [List.map_cons, lv_args]
    by_cases hz : z_lg u = true
    · rw [if_pos hz] at h
      rw [if_pos ((z_lg_cat rho b q u).mpr hz)]
      match k, h with
      | 0, h => simp at h; subst h; exact List.mem_cons_self
      | 1, h => simp at h; subst h; cases hj
      | k + 2, h =>
        simp only [List.getElem?_cons_succ] at h
        have ih := z_args_at rho b q r (i + 2) k v h hj
        rw [show i + 2 + k = i + (k + 2) by omega] at ih
        exact List.mem_cons_of_mem _ ih
    · rw [if_neg hz] at h
      rw [if_neg (fun w => hz ((z_lg_cat rho b q u).mp w))]
      match k, h with
      | 0, h => simp at h; subst h; exact List.mem_cons_self
      | k + 1, h =>
        simp only [List.getElem?_cons_succ] at h
        have ih := z_args_at rho b q r (i + 1) k v h hj
        rw [show i + 1 + k = i + (k + 1) by omega] at ih
        exact List.mem_cons_of_mem _ ih
theorem z_args_len (rho : Nat → Nat) (b q : Nat) : ∀ (as : List Value), (lg_sl (as.map (z_rv rho b q))).length = (z_args as).length
  | [] => rfl
  | u :: r => by
    have ih := z_args_len rho b q r
    rw [z_args, List.map_cons]
    unfold lg_sl at ih ⊢
    rw [List.flatMap_cons, List.length_append, ih]
    by_cases hz : z_lg u = true
    · rw [if_pos hz, if_pos ((z_lg_cat rho b q u).mpr hz)]
      simp
      omega
    · rw [if_neg hz, if_neg (fun w => hz ((z_lg_cat rho b q u).mp w))]
      simp
      omega
/-- the locals at a method's entry -/
theorem z_LR.entry (rho : Nat → Nat) (b q : Nat) (as : List Value) {n : Nat} (hn : (z_args as).length ≤ n) : z_LR rho b q ((lg_sl (as.map (z_rv rho b q)) ++ List.replicate (n - (lg_sl (as.map (z_rv rho b q))).length) Slot.unset).toArray) n (z_en n as) := by
  have h := lv_entry (as.map (z_rv rho b q)) (n := n) (by rw [z_args_len]; exact hn)
  refine ⟨by rw [z_en, List.length_append, List.length_replicate]; omega, h.1, h.2.1, fun k v hv hj => ?_⟩
  unfold z_en at hv
  by_cases hk : k < (z_args as).length
  · rw [List.getElem?_append_left hk] at hv
    have h2 := z_args_at rho b q as 0 k v hv hj
    rw [Nat.zero_add] at h2
    exact h.2.2 _ h2
  · rw [List.getElem?_append_right (by omega)] at hv
    rw [List.getElem?_replicate] at hv
    split at hv
    · cases hv; cases hj
    · cases hv
section ZW2
variable {p : Program} {l : Launch} {e : Env} {R : Room} {s : State} {m : MethodId} {args : Array Value} {below : List Frame} {meth : Method} {c : Code} {H : Heap} {locs : List Loc} {cells slots : Nat} {Q : State → Prop}
variable {cc : ByteArray} {pc nL : Nat} {lsR : Array Slot} {rho : Nat → Nat} {b q : Nat} {ls : List Value}
theorem z_w1 (hx : p.tables.exec = Jvm.exec) (hb : c.code = cc) {i : Instr} {n : Nat} (hd : decode cc pc = .ok (i, n)) (hn : z_len i = n) (hL : z_LR rho b q lsR nL ls) {st st' : List Value} (h : z_lo i ls st = some st')
    (K : W p l e R s m args below meth c H locs cells slots Q (F0 m (pc + n) lsR (st'.map (z_rv rho b q)))) : W p l e R s m args below meth c H locs cells slots Q (F0 m pc lsR (st.map (z_rv rho b q))) := by
  subst hn
  have gi : ∀ k, z_ldi ls k st = some st' → ∃ x : Int32, lsR[k]? = some (.val (.int x)) ∧ st' = .int x :: st := by
    intro k hk
    unfold z_ldi at hk
    split at hk
    · rename_i x hv
      cases hk
      exact ⟨x, (hL.get hv rfl).1, rfl⟩
    · cases hk
  have gl : ∀ k, z_ldl ls k st = some st' → ∃ x : Int64, lsR[k]? = some (.val (.long x)) ∧ st' = .long x :: st := by
    intro k hk
    unfold z_ldl at hk
    split at hk
    · rename_i x hv
      cases hk
      exact ⟨x, (hL.get hv rfl).1, rfl⟩
    · cases hk
  have ga : ∀ k, z_lda ls k st = some st' → ∃ x : Nat, lsR[k]? = some (.val (.ref x)) ∧ st'.map (z_rv rho b q) = .ref x :: st.map (z_rv rho b q) := by
    intro k hk
    unfold z_lda at hk
    split at hk
    · rename_i x hv
      cases hk
      exact ⟨rho x, (hL.get hv rfl).1, rfl⟩
    · rename_i hv
      cases hk
      exact ⟨b, (hL.get hv rfl).1, rfl⟩
    · cases hk
  cases i with
  | iload k => obtain ⟨x, h1, rfl⟩ := gi k h; exact lv_iload hx hb hd h1 K
  | iload_n k => obtain ⟨x, h1, rfl⟩ := gi k h; exact lv_iload_n hx hb hd rfl h1 K
  | lload k => obtain ⟨x, h1, rfl⟩ := gl k h; exact lv_lload hx hb hd h1 K
  | lload_n k => obtain ⟨x, h1, rfl⟩ := gl k h; exact lv_lload_n hx hb hd rfl h1 K
  | aload k => obtain ⟨x, h1, h2⟩ := ga k h; rw [h2] at K; exact lv_aload hx hb hd h1 K
  | aload_n k => obtain ⟨x, h1, h2⟩ := ga k h; rw [h2] at K; exact lv_aload_n hx hb hd rfl h1 K
  | _ => cases h
theorem z_w2 (hx : p.tables.exec = Jvm.exec) (hb : c.code = cc) {i : Instr} {n : Nat} (hd : decode cc pc = .ok (i, n)) (hn : z_len i = n) (hL : z_LR rho b q lsR nL ls) {st : List Value} {r : List Value × List Value} (h : z_so i ls st = some r)
    (K : ∀ lsR', z_LR rho b q lsR' nL r.1 → W p l e R s m args below meth c H locs cells slots Q (F0 m (pc + n) lsR' (r.2.map (z_rv rho b q)))) : W p l e R s m args below meth c H locs cells slots Q (F0 m pc lsR (st.map (z_rv rho b q))) := by
  subst hn
  have hl1 : ∀ {j v ls1}, z_s1 ls j v = some ls1 → j < nL := by
    intro j v ls1 h1
    unfold z_s1 at h1
    split at h1
    · rw [← hL.1]; assumption
    · cases h1
  have hl2 : ∀ {j v ls1}, z_s2 ls j v = some ls1 → j + 1 < nL := by
    intro j v ls1 h1
    unfold z_s2 at h1
    split at h1
    · rw [← hL.1]; assumption
    · cases h1
  have si : ∀ k, z_sti ls k st = some r → ∃ (x : Int32) (ls1 rest : List Value), st = .int x :: rest ∧ z_s1 ls k (.int x) = some ls1 ∧ r = (ls1, rest) := by
    intro k hk
    match st, hk with
    | .int x :: rest, hk =>
      rw [z_sti] at hk
      cases hq : z_s1 ls k (.int x) with
      | none => rw [hq] at hk; cases hk
      | some ls1 => rw [hq] at hk; cases hk; exact ⟨x, ls1, rest, rfl, hq, rfl⟩
  have sl : ∀ k, z_stl ls k st = some r → ∃ (x : Int64) (ls1 rest : List Value), st = .long x :: rest ∧ z_s2 ls k (.long x) = some ls1 ∧ r = (ls1, rest) := by
    intro k hk
    match st, hk with
    | .long x :: rest, hk =>
      rw [z_stl] at hk
      cases hq : z_s2 ls k (.long x) with
      | none => rw [hq] at hk; cases hk
      | some ls1 => rw [hq] at hk; cases hk; exact ⟨x, ls1, rest, rfl, hq, rfl⟩
  have sa : ∀ k, z_sta ls k st = some r → ∃ (x : Nat) (ls1 rest : List Value), st = .ref x :: rest ∧ z_s1 ls k (.ref x) = some ls1 ∧ r = (ls1, rest) := by
    intro k hk
    match st, hk with
    | .ref x :: rest, hk =>
      rw [z_sta] at hk
      cases hq : z_s1 ls k (.ref x) with
      | none => rw [hq] at hk; cases hk
      | some ls1 => rw [hq] at hk; cases hk; exact ⟨x, ls1, rest, rfl, hq, rfl⟩
  cases i with
  | istore k => obtain ⟨x, ls1, rest, rfl, h1, rfl⟩ := si k h; exact lv_istore hx hb hd hL.has (hl1 h1) rfl (fun lsR' hh => K lsR' (hL.st1 h1 hh))
  | istore_n k => obtain ⟨x, ls1, rest, rfl, h1, rfl⟩ := si k h; exact lv_istore_n hx hb hd rfl hL.has (hl1 h1) rfl (fun lsR' hh => K lsR' (hL.st1 h1 hh))
  | lstore k => obtain ⟨x, ls1, rest, rfl, h1, rfl⟩ := sl k h; exact lv_lstore hx hb hd hL.has (hl2 h1) rfl (fun lsR' hh => K lsR' (hL.st2 h1 hh))
  | lstore_n k => obtain ⟨x, ls1, rest, rfl, h1, rfl⟩ := sl k h; exact lv_lstore_n hx hb hd rfl hL.has (hl2 h1) rfl (fun lsR' hh => K lsR' (hL.st2 h1 hh))
  | astore k => obtain ⟨x, ls1, rest, rfl, h1, rfl⟩ := sa k h; exact lv_astore hx hb hd hL.has (hl1 h1) rfl (fun lsR' hh => K lsR' (hL.st1 h1 hh))
  | astore_n k => obtain ⟨x, ls1, rest, rfl, h1, rfl⟩ := sa k h; exact lv_astore_n hx hb hd rfl hL.has (hl1 h1) rfl (fun lsR' hh => K lsR' (hL.st1 h1 hh))
  | iinc k z =>
    have h0 : (match ls.getD k z_j with | .int x => (z_s1 ls k (.int (x + Int32.ofInt z))).map (fun l => (l, st)) | _ => none) = some r := h
    split at h0
    · rename_i x hv
      cases hq : z_s1 ls k (.int (x + Int32.ofInt z)) with
      | none => rw [hq] at h0; cases h0
      | some ls1 =>
        rw [hq] at h0
        cases h0
        have h5 : (k, Value.int x) ∈ z_prs rho b q ls := by
          refine z_prs_mem.mpr ⟨.int x, ?_, rfl, rfl⟩
          rw [List.getD_eq_getElem?_getD] at hv
          cases hl : ls[k]? with
          | none => rw [hl] at hv; cases hv
          | some u => rw [hl] at hv; simp at hv; rw [hv]
        obtain ⟨j, hj⟩ := List.mem_iff_getElem?.mp h5
        exact lv_iinc (k := j) hx hb hd hL.has hj rfl (hl1 hq) rfl (fun lsR' hh => K lsR' (hL.st1 hq hh))
    · cases h0
  | _ => cases h
end ZW2
