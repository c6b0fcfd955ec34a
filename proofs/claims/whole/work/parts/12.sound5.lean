/-! SOUNDNESS 5: what a run leaves as it was; the contract of a method; calls. -/
theorem z_lk_mem {pc : Nat} {e : z_En} : ∀ {l : List (Nat × z_En)}, z_lk pc l = some e → (pc, e) ∈ l
  | [], h => by cases h
  | q :: r, h => by
    rw [z_lk] at h
    split at h
    · rename_i hq
      cases h
      rw [← hq]
      exact List.mem_cons_self
    · exact List.mem_cons_of_mem _ (z_lk_mem h)
/-- every row of every method is right -/
def z_CK : Prop := ∀ mi, mi < 283 → z_bM mi (z_cs.getD mi []) = true
theorem z_row (hck : z_CK) {mi pc : Nat} (hm : mi < 283) {e : z_En} (h : z_ft mi pc = some e) :
    decode (z_cc mi) pc = .ok (e.1, e.2.1) ∧ (z_isT e.1 = true ∨ z_len e.1 = e.2.1) ∧ z_okK (z_ow mi) e.1 e.2.2.2.2.1 e.2.2.2.2.2.2.1 e.2.2.2.2.2.2.2 ∧ z_okB e.1 pc e.2.2.2.2.1 e.2.2.2.1 ∧ z_okF (z_ow mi) e.1 e.2.2.2.2.1 e.2.2.2.2.2.1 e.2.2.2.2.2.2.1 ∧ z_okN (z_ow mi) e.1 e.2.2.2.2.1 e.2.2.2.2.2.2.1 ∧ z_okC (z_ow mi) e.1 e.2.2.2.2.1 e.2.2.2.2.2.1 e.2.2.2.2.2.2.1 := by
  have h1 := List.all_eq_true.mp (hck mi hm) _ (z_lk_mem h)
  unfold z_bE at h1
  simp only [Bool.and_eq_true, Bool.or_eq_true, decide_eq_true_eq] at h1
  exact ⟨h1.1, h1.2.1, z_bK_ok h1.2.2⟩
def z_sl (S : z_S) : Nat := ((List.range (z_sz S)).map (z_ln S)).sum
theorem z_sl_nw (S : z_S) (kd n : Nat) : z_sl (z_nw S kd n) = z_sl S + n := by
  unfold z_sl
  show ((List.range (S.1 + 1)).map _).sum = _
  rw [List.range_succ, List.map_append, List.sum_append]
  congr 1
  · congr 1
    apply List.map_congr_left
    intro c hc
    have h1 := List.mem_range.mp hc
    show (if c = S.1 then n else S.2.2.1 c) = S.2.2.1 c
    rw [if_neg (by omega)]
  · show ((if S.1 = S.1 then n else S.2.2.1 S.1) :: []).sum = n
    rw [if_pos rfl]
    simp
/-- same cells, same kinds, same lengths -/
def z_kp (S S' : z_S) : Prop := z_sz S' = z_sz S ∧ z_kd S' = z_kd S ∧ z_ln S' = z_ln S
theorem z_kp.sl {S S' : z_S} (h : z_kp S S') : z_sl S' = z_sl S := by unfold z_sl; rw [h.1, h.2.2]
theorem z_wr_kp {al : Bool} {ow : Nat} {i : Instr} {x y : Nat} {st : List Value} {S : z_S} {r : List Value × z_S} (h : z_wr al ow i x y st S = some r) : z_kp S r.2 := by
  unfold z_wr at h
  split at h
  · split at h
    · split at h
      · cases h; exact ⟨rfl, rfl, rfl⟩
      · cases h
    · split at h
      · cases h; exact ⟨rfl, rfl, rfl⟩
      · cases h
    · split at h
      · cases h; exact ⟨rfl, rfl, rfl⟩
      · cases h
    · cases h
  · split at h
    · split at h
      · cases h; exact ⟨rfl, rfl, rfl⟩
      · cases h
    · cases h
  · split at h
    · split at h
      · cases h; exact ⟨rfl, rfl, rfl⟩
      · cases h
    · cases h
  · split at h
    · split at h
      · cases h; exact ⟨rfl, rfl, rfl⟩
      · cases h
    · cases h
  · split at h
    · split at h
      · cases h; exact ⟨rfl, rfl, rfl⟩
      · cases h
    · cases h
  · cases h
theorem z_sp_kp {i : Instr} {x : Nat} {st : List Value} {S : z_S} {r : List Value × z_S} (h : z_sp i x st S = some r) : z_kp S r.2 := by
  unfold z_sp at h
  split at h
  · split at h
    · split at h
      · cases h; exact ⟨rfl, rfl, rfl⟩
      · cases h
    · cases h
  · split at h
    · split at h
      · split at h
        · cases h; exact ⟨rfl, rfl, rfl⟩
        · cases h
      · cases h
    · split at h
      · split at h
        · split at h
          · cases h; exact ⟨rfl, rfl, rfl⟩
          · cases h
        · cases h
      · split at h
        · split at h
          · split at h
            · cases h; exact ⟨rfl, rfl, rfl⟩
            · cases h
          · cases h
        · cases h
/-- what a step is: an end with the store as it is; a step that keeps the cells; a new cell; a call -/
theorem z_ex_cases {X : Nat × (Nat → Int32)} {call : Nat → List Value → z_S → Option z_Q} {mi pc : Nat} {e : z_En} {ls st : List Value} {S : z_S} {o : z_Q ⊕ z_C} (h : z_ex X call mi pc e ls st S = some o) :
    (∃ r, o = .inl (r, S) ∧ z_re (z_rk mi) e.1 st = some r) ∨ (∃ c', o = .inr c' ∧ z_kp S c'.2.2.2) ∨ (∃ c' kd n, o = .inr c' ∧ z_al mi = true ∧ c'.2.2.2 = z_nw S kd n) ∨ (∃ c' x as r, o = .inr c' ∧ call x as S = some (r, c'.2.2.2) ∧ (z_al mi = false → z_al x = false)) := by
  unfold z_ex at h
  split at h
  · obtain ⟨r, h1, rfl⟩ := Option.map_eq_some_iff.mp h
    exact Or.inr (Or.inl ⟨_, rfl, rfl, rfl, rfl⟩)
  · obtain ⟨r, h1, rfl⟩ := Option.map_eq_some_iff.mp h
    exact Or.inr (Or.inl ⟨_, rfl, rfl, rfl, rfl⟩)
  · obtain ⟨r, h1, rfl⟩ := Option.map_eq_some_iff.mp h
    exact Or.inr (Or.inl ⟨_, rfl, rfl, rfl, rfl⟩)
  · obtain ⟨r, h1, rfl⟩ := Option.map_eq_some_iff.mp h
    exact Or.inr (Or.inl ⟨_, rfl, rfl, rfl, rfl⟩)
  · obtain ⟨r, h1, rfl⟩ := Option.map_eq_some_iff.mp h
    exact Or.inr (Or.inl ⟨_, rfl, rfl, rfl, rfl⟩)
  · obtain ⟨r, h1, rfl⟩ := Option.map_eq_some_iff.mp h
    exact Or.inr (Or.inl ⟨_, rfl, z_wr_kp h1⟩)
  · split at h
    · rename_i hal
      obtain ⟨r, h1, h2⟩ := Option.bind_eq_some_iff.mp h
      split at h2
      · cases h2
        exact Or.inr (Or.inr (Or.inl ⟨_, _, _, rfl, hal, rfl⟩))
      · cases h2
    · cases h
  · split at h
    · obtain ⟨r, h1, rfl⟩ := Option.map_eq_some_iff.mp h
      exact Or.inr (Or.inl ⟨_, rfl, z_sp_kp h1⟩)
    · split at h
      · cases h
      · split at h
        · rename_i hg
          obtain ⟨q, h1, h2⟩ := Option.bind_eq_some_iff.mp h
          obtain ⟨r, h3, rfl⟩ := Option.map_eq_some_iff.mp h2
          refine Or.inr (Or.inr (Or.inr ⟨_, _, _, q.1, rfl, h1, fun hal => ?_⟩))
          simp only [Bool.and_eq_true, Bool.or_eq_true, Bool.not_eq_true'] at hg
          rcases hg.2 with h5 | h5
          · exact h5
          · rw [hal] at h5; exact absurd h5.1 (by decide)
        · cases h
  · obtain ⟨r, h1, rfl⟩ := Option.map_eq_some_iff.mp h
    exact Or.inl ⟨r, rfl, h1⟩
theorem z_st_ex {X : Nat × (Nat → Int32)} {call : Nat → List Value → z_S → Option z_Q} {mi : Nat} {c : z_C} {o : z_Q ⊕ z_C} (h : z_st X call mi c = some o) : ∃ e, z_ft mi c.1 = some e ∧ z_ex X call mi c.1 e (z_mk e.2.2.1 c.2.1) c.2.2.1 c.2.2.2 = some o := by
  obtain ⟨e, h1, h2⟩ := Option.bind_eq_some_iff.mp h
  exact ⟨e, h1, h2⟩
def z_le (S S' : z_S) : Prop := z_sz S ≤ z_sz S' ∧ z_sl S ≤ z_sl S'
theorem z_kp.le {S S' : z_S} (h : z_kp S S') : z_le S S' := ⟨Nat.le_of_eq h.1.symm, Nat.le_of_eq h.sl.symm⟩
theorem z_run_le2 {X : Nat × (Nat → Int32)} {call : Nat → List Value → z_S → Option z_Q} {mi : Nat} (hc : ∀ x as S q, call x as S = some q → z_le S q.2 ∧ (z_al x = false → z_kp S q.2)) : ∀ (n : Nat) (c : z_C) (q : z_Q), z_run X call mi n c = some q → z_le c.2.2.2 q.2 ∧ (z_al mi = false → z_kp c.2.2.2 q.2)
  | 0, c, q, h => by cases h
  | n + 1, c, q, h => by
    rw [z_run] at h
    split at h
    · cases h
    · rename_i q' hs
      cases h
      obtain ⟨e, h1, h2⟩ := z_st_ex hs
      rcases z_ex_cases h2 with ⟨r, h3, -⟩ | ⟨c', h3, -⟩ | ⟨c', _, _, h3, -⟩ | ⟨c', _, _, _, h3, -⟩
      · cases h3; exact ⟨⟨Nat.le_refl _, Nat.le_refl _⟩, fun _ => ⟨rfl, rfl, rfl⟩⟩
      · cases h3
      · cases h3
      · cases h3
    · rename_i c' hs
      obtain ⟨ih1, ih2⟩ := z_run_le2 hc n c' q h
      obtain ⟨e, h1, h2⟩ := z_st_ex hs
      rcases z_ex_cases h2 with ⟨r, h3, -⟩ | ⟨c2, h3, h4⟩ | ⟨c2, kd, k, h3, h4, h5⟩ | ⟨c2, x, as, r, h3, h4, h5⟩
      · cases h3
      · cases h3
        exact ⟨⟨Nat.le_trans h4.le.1 ih1.1, Nat.le_trans h4.le.2 ih1.2⟩, fun ha => ⟨(ih2 ha).1.trans h4.1, (ih2 ha).2.1.trans h4.2.1, (ih2 ha).2.2.trans h4.2.2⟩⟩
      · cases h3
        rw [h5] at ih1
        refine ⟨⟨Nat.le_trans (Nat.le_succ _) ih1.1, Nat.le_trans ?_ ih1.2⟩, fun ha => ?_⟩
        · rw [z_sl_nw]; exact Nat.le_add_right _ _
        · rw [ha] at h4; cases h4
      · cases h3
        obtain ⟨g1, g2⟩ := hc x as _ _ h4
        exact ⟨⟨Nat.le_trans g1.1 ih1.1, Nat.le_trans g1.2 ih1.2⟩, fun ha => ⟨(ih2 ha).1.trans (g2 (h5 ha)).1, (ih2 ha).2.1.trans (g2 (h5 ha)).2.1, (ih2 ha).2.2.trans (g2 (h5 ha)).2.2⟩⟩
theorem z_call_le : ∀ (d x : Nat) (as : List Value) (S : z_S) (q : z_Q), z_call d x as S = some q → z_le S q.2 ∧ (z_al x = false → z_kp S q.2)
  | 0, x, as, S, q, h => by cases h
  | d + 1, x, as, S, q, h => by
    by_cases ha : (z_args as).length ≤ z_mL x
    · rw [z_call_ev ha] at h
      obtain ⟨n, hn⟩ := z_ev_some h
      exact z_run_le2 (fun x as S q h => z_call_le d x as S q h) n _ q hn
    · have h0 : (if (z_args as).length ≤ z_mL x then z_lim (fun n => z_run z_X0 (z_call d) x n (0, z_en (z_mL x) as, [], S)) else none) = some q := h
      rw [if_neg ha] at h0
      cases h0
/-! what stays true of the tables and of the String constant -/
def z_txt : String := "rooms bench steps knock lodger has in shut yields leaves rents night room nights empty step first if or and not all min max "
def z_PF (q : Nat) (s : State) : Prop := (∀ u ∈ z_nst, va_Nw (.methodLinkNest u.1 u.2.1 u.2.2 "CuckooLodge") s) ∧ va_AO "CuckooLodge$State" s ∧ va_AO "CuckooLodge$Kept" s ∧ vk_R "CuckooLodge$Words" 40 z_txt q s
theorem z_PF.warm {q : Nat} {s U : State} (hW : s.WarmedH U.vm) (h : z_PF q s) : z_PF q U :=
  ⟨fun u hu => va_Nw.warmM hW (h.1 u hu), h.2.1.moved hW.alike, h.2.2.1.moved hW.alike, vk_R.warm hW h.2.2.2⟩
theorem z_PF.same {q : Nat} {s U : State} (hv : U.vm = s.vm) (h : z_PF q s) : z_PF q U :=
  ⟨fun u hu => va_Nw.same rfl hv.symm (h.1 u hu), h.2.1.moved (by rw [hv]; exact Vm.Alike.refl _), h.2.2.1.moved (by rw [hv]; exact Vm.Alike.refl _), vk_R.same hv h.2.2.2⟩
def z_bts : List Int32 := z_tx.map (fun n => Int32.ofNat n)
def z_SS (q : Nat) (A : Nat → Prop) (s : State) (H : Heap) : Prop := (∃ adK adV : Nat → Nat, adK 0 = q ∧ vk_S 1 [z_tx.length] [z_bts] adK adV A s H) ∧ va_Z "java/lang/String" "COMPACT_STRINGS" "Z" (.int 1) A s H ∧ va_Zq "jdk/internal/util/Preconditions" "SIOOBE_FORMATTER" "Ljava/util/function/BiFunction;" A s H
theorem z_SS.moved {q : Nat} {A : Nat → Prop} {u U : State} {H : Heap} (hvm : u.vm.Alike U.vm) (h : z_SS q A u H) : z_SS q A U H := by
  obtain ⟨⟨a, v, h1, h2⟩, h3, h4⟩ := h
  exact ⟨⟨a, v, h1, h2.moved hvm⟩, h3.moved hvm, h4.moved hvm⟩
theorem z_SS.kept {q : Nat} {A : Nat → Prop} {u : State} {H H1 : Heap} (h : z_SS q A u H) (hq : ∀ a : Nat, a < H.size → ¬ A a → H1[a]? = H[a]?) : z_SS q A u H1 := by
  obtain ⟨⟨a, v, h1, h2⟩, h3, h4⟩ := h
  exact ⟨⟨a, v, h1, h2.kept hq⟩, h3.kept hq, h4.kept hq⟩
theorem z_SS.narrow {q : Nat} {A B : Nat → Prop} {u : State} {H : Heap} (h : z_SS q A u H) (hAB : ∀ a, B a → A a) : z_SS q B u H := by
  obtain ⟨⟨a, v, h1, h2⟩, h3, h4⟩ := h
  exact ⟨⟨a, v, h1, h2.narrow hAB⟩, h3.narrow hAB, h4.narrow hAB⟩
/-- the room of a method at depth d -/
def z_rm (d mc ms : Nat) : Room := { frames := d + 8, cells := mc, slots := ms, locals := 64 * (d + 8) }
/-- a contract's start: the heap holds the store S, the arguments are as -/
def z_Pc (D : va_G) (kA rho : Nat → Nat) (b q sz : Nat) (S : z_S) (as : List Value) : Array Value → State → Prop := fun v U =>
  v = (as.map (z_rv rho b q)).toArray ∧ U.heap.size = sz ∧ va_K D z_cl [] U ∧ z_KA kA S U ∧ va_P D z_cl (z_ws kA rho S) U.heap ∧ va_D (fun _ => True) (z_ws kA rho S) ∧ z_CL S ∧ z_PF q U ∧ z_SS q (va_A (z_ws kA rho S) sz) U U.heap
/-- its end: the answer r, the store S' -/
def z_Qc (D : va_G) (kA rho : Nat → Nat) (sz : Nat) (S S' : z_S) (r : Option Value) : Array Value → State → Outcome → State → Prop := fun _ st oc t =>
  oc = .returned r ∧ (∃ kA' rho' : Nat → Nat, (∀ c, c < z_sz S → rho' c = rho c) ∧ z_KA kA' S' t ∧ va_P D z_cl (z_ws kA' rho' S') t.heap ∧ va_D (va_A (z_ws kA rho S) sz) (z_ws kA' rho' S') ∧ z_CL S') ∧ va_F (va_A (z_ws kA rho S) sz) st t
theorem z_KA.moved {kA : Nat → Nat} {S : z_S} {u U : State} (hvm : u.vm.Alike U.vm) (h : z_KA kA S u) : z_KA kA S U := fun c hc hk => ⟨(h c hc hk).1, arrOfT_moved hvm (h c hc hk).2.1, (h c hc hk).2.2.moved hvm⟩
theorem z_Pc_blind (D : va_G) (kA rho : Nat → Nat) (b q sz : Nat) (S : z_S) (as : List Value) : FrameBlind (z_Pc D kA rho b q sz S as) := by
  intro a U g mk h
  obtain ⟨h1, h2, h3, h4, h5, h6, h7, h8, h9⟩ := h
  exact ⟨h1, h2, va_K.moved (u := U) (U := U.calling g mk a) (Vm.Alike.refl U.vm) h3, h4.moved (U := U.calling g mk a) (Vm.Alike.refl U.vm), h5, h6, h7, h8.same rfl, h9.moved (U := U.calling g mk a) (Vm.Alike.refl U.vm)⟩
/-- the contract: what the lite call answers the machine answers -/
def z_Met (l : Launch) (d : Nat) : Prop := ∀ (mi : Nat) (as : List Value) (S S' : z_S) (r : Option Value), mi < 282 → z_call (d + 1) mi as S = some (r, S') → z_CL S →
  (z_stc mi = false → ∃ c0 as', as = .ref c0 :: as') → as.length = z_na mi →
  ∀ (D : va_G) (kA rho : Nat → Nat) (b q sz : Nat), Met l (z_nm mi) (.code (z_nm mi) (z_cc mi) (z_mL mi) (z_rt mi) :: z_all) (z_rm d (z_sz S' - z_sz S) (z_sl S' - z_sl S)) (z_Pc D kA rho b q sz S as) (z_Qc D kA rho sz S S' r) (z_sz S' - z_sz S) (z_sl S' - z_sl S) (va_A (z_ws kA rho S) sz)
