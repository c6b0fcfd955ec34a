/-! SOUNDNESS 4: new cells, Object's constructor, arraycopy. -/
def z_el (x : Nat) : String := if x = 23 then "CuckooLodge$State" else "CuckooLodge$Kept"
/-- the words of what makes cells -/
def z_okN (o : Nat) (i : Instr) (x w : Nat) : Prop := match i with
  | .new n => x < 13 ∧ (z_wl o)[w]? = some (.classLink (z_RO o) n (z_RO x))
  | .anewarray n => (x = 23 ∨ x = 24) ∧ (z_wl o)[w]? = some (.classLink (z_RO o) n (z_el x))
  | _ => True
theorem z_map_cl {S : z_S} {rho rho1 : Nat → Nat} (hC : z_CL S) (h : ∀ c, c < z_sz S → rho1 c = rho c) (c k : Nat) : (gR S c k).map rho1 = (gR S c k).map rho := by
  cases hg : gR S c k with
  | none => rfl
  | some r => simp only [Option.map_some]; rw [h r (hC c k r hg)]
/-- the map of addresses counts on the cells that are alone -/
theorem z_E_re {kA kA1 rho rho1 : Nat → Nat} {S : z_S} (hC : z_CL S) (h : ∀ c, c < z_sz S → rho1 c = rho c) {c : Nat} (hk : kA1 c = kA c) : z_E kA1 rho1 S c = z_E kA rho S c := by
  unfold z_E z_fs z_ac z_fv
  simp only [z_map_cl hC h, hk]
theorem z_ws_re {kA kA1 rho rho1 : Nat → Nat} {S : z_S} (hC : z_CL S) (h : ∀ c, c < z_sz S → rho1 c = rho c) (hk : ∀ c, c < z_sz S → kA1 c = kA c) : z_ws kA1 rho1 S = z_ws kA rho S := by
  apply List.ext_getElem?
  intro j
  by_cases hj : j < z_sz S
  · rw [z_ws_at hj, z_ws_at hj, z_E_re hC h (hk j hj), h j hj]
  · rw [List.getElem?_eq_none (by rw [z_ws_len]; omega), List.getElem?_eq_none (by rw [z_ws_len]; omega)]
theorem z_WR.re {D : va_G} {kA rho rho1 : Nat → Nat} {A : Nat → Prop} {H0 H : Heap} {locs : List Loc} {S : z_S} {s : State} (hR : z_WR D kA rho A H0 H locs S s) (h : ∀ c, c < z_sz S → rho1 c = rho c) : z_WR D kA rho1 A H0 H locs S s := by
  obtain ⟨h1, h2, h3, h4, h5, h6⟩ := hR
  have e := z_ws_re (kA := kA) (kA1 := kA) h6 h (fun _ _ => rfl)
  exact ⟨h1, h2, by rw [e]; exact h3, by rw [e]; exact h4, h5, h6⟩
theorem z_rv_re {rho rho1 : Nat → Nat} {b q n : Nat} (h : ∀ c, c < n → rho1 c = rho c) {v : Value} (hv : z_cl1 n v = true) : z_rv rho1 b q v = z_rv rho b q v := by
  cases v with
  | ref c => simp [z_cl1] at hv; simp [z_rv, h c hv]
  | retAddr k =>
    match k with
    | 0 => rfl
    | 1 => rfl
    | 2 => rfl
    | k + 3 => rfl
  | _ => rfl
theorem z_map_re {rho rho1 : Nat → Nat} {b q n : Nat} (h : ∀ c, c < n → rho1 c = rho c) {st : List Value} (hv : st.all (z_cl1 n) = true) : st.map (z_rv rho1 b q) = st.map (z_rv rho b q) := by
  apply List.map_congr_left
  intro v hm
  exact z_rv_re h (List.all_eq_true.mp hv v hm)
theorem z_LR.re {rho rho1 : Nat → Nat} {b q n nL : Nat} {lsR : Array Slot} {ls : List Value} (hL : z_LR rho b q lsR nL ls) (h : ∀ c, c < n → rho1 c = rho c) (hv : ls.all (z_cl1 n) = true) : z_LR rho1 b q lsR nL ls :=
  ⟨hL.1, hL.2.1, hL.2.2.1, fun k v h1 h2 => by rw [z_rv_re h (List.all_eq_true.mp hv v (List.mem_of_getElem? h1))]; exact hL.2.2.2 k v h1 h2⟩
theorem z_CL.nw {S : z_S} (hC : z_CL S) (kd n : Nat) : z_CL (z_nw S kd n) := by
  intro c k r h
  have h0 : (if c = S.1 then none else gR S c k) = some r := h
  split at h0
  · cases h0
  · exact Nat.lt_succ_of_lt (hC c k r h0)
theorem z_E_nw {kA rho : Nat → Nat} {S : z_S} {kd n c : Nat} (h : c ≠ S.1) : z_E kA rho (z_nw S kd n) c = z_E kA rho S c := by
  have e1 : z_kd (z_nw S kd n) c = z_kd S c := if_neg h
  have e2 : z_ln (z_nw S kd n) c = z_ln S c := if_neg h
  have e3 : ∀ k, gI (z_nw S kd n) c k = gI S c k := fun k => if_neg h
  have e4 : ∀ k, gL (z_nw S kd n) c k = gL S c k := fun k => if_neg h
  have e5 : ∀ k, gR (z_nw S kd n) c k = gR S c k := fun k => if_neg h
  have e6 : gI (z_nw S kd n) c = gI S c := funext e3
  have e7 : gL (z_nw S kd n) c = gL S c := funext e4
  unfold z_E z_fs z_ac z_fv
  simp only [e1, e2, e3, e4, e5, e6, e7]
def z_up1 (f : Nat → Nat) (c v : Nat) : Nat → Nat := fun j => if j = c then v else f j
theorem z_up1_lt {f : Nat → Nat} {c v j : Nat} (h : j < c) : z_up1 f c v j = f j := if_neg (by omega)
theorem z_up1_at {f : Nat → Nat} {c v : Nat} : z_up1 f c v c = v := if_pos rfl
/-- a new cell behind the others -/
theorem z_ws_nw {kA rho : Nat → Nat} {S : z_S} (hC : z_CL S) (kd n q1 k1 : Nat) : z_ws (z_up1 kA (z_sz S) k1) (z_up1 rho (z_sz S) q1) (z_nw S kd n) = z_ws kA rho S ++ [(q1, z_E (z_up1 kA (z_sz S) k1) (z_up1 rho (z_sz S) q1) (z_nw S kd n) (z_sz S))] := by
  apply List.ext_getElem?
  intro j
  by_cases hj : j < z_sz S
  · rw [List.getElem?_append_left (by rw [z_ws_len]; exact hj), z_ws_at hj, z_ws_at (show j < z_sz (z_nw S kd n) from Nat.lt_succ_of_lt hj), z_E_nw (show j ≠ S.1 from Nat.ne_of_lt hj), z_E_re hC (fun c hc => z_up1_lt hc) (z_up1_lt hj), z_up1_lt hj]
  · rw [List.getElem?_append_right (by rw [z_ws_len]; omega), z_ws_len]
    by_cases e : j = z_sz S
    · subst e
      rw [z_ws_at (show z_sz S < z_sz (z_nw S kd n) from Nat.lt_succ_self _), Nat.sub_self, z_up1_at]
      rfl
    · rw [List.getElem?_eq_none (by rw [z_ws_len]; show z_sz S + 1 ≤ j; omega), List.getElem?_eq_none (by simp; omega)]
theorem z_KA.nw {kA : Nat → Nat} {S : z_S} {s : State} (h : z_KA kA S s) {kd n k1 : Nat} (hn : ¬ kd < 13 → (20 ≤ kd ∧ kd ≤ 24) ∧ ArrOfT s k1 (z_at kd) ∧ va_RA s k1 (z_at kd)) : z_KA (z_up1 kA (z_sz S) k1) (z_nw S kd n) s := by
  intro c hc hk
  by_cases e : c = S.1
  · subst e
    have e1 : z_kd (z_nw S kd n) S.1 = kd := if_pos rfl
    rw [e1] at hk ⊢
    rw [show z_up1 kA (z_sz S) k1 S.1 = k1 from z_up1_at]
    exact hn hk
  · have e1 : z_kd (z_nw S kd n) c = z_kd S c := if_neg e
    have hc' : c < z_sz S + 1 := hc
    have hlt : c < z_sz S := by
      have : c ≠ z_sz S := e
      omega
    rw [e1] at hk ⊢
    rw [z_up1_lt hlt]
    exact h c hlt hk
section ZW4
variable {p : Program} {l : Launch} {e : Env} {R : Room} {s : State} {m : MethodId} {args : Array Value} {below : List Frame} {meth : Method} {c : Code} {H : Heap} {locs : List Loc} {cells slots : Nat} {Q : State → Prop}
variable {cc : ByteArray} {pc nL : Nat} {lsR : Array Slot} {rho : Nat → Nat} {b q : Nat} {D : va_G} {kA : Nat → Nat} {A : Nat → Prop} {H0 : Heap} {S : z_S} {Ts : List Cond}
theorem z_w6 (hx : p.tables.exec = Jvm.exec) (hb : c.code = cc) {o : Nat} (hown : s.vm.findClass (z_RO o) = some m.cls) (hts : ∀ w ∈ Ts, w.before args s = true) (hwl : ∀ w ∈ z_wl o, w ∈ Ts) (hin : ∀ x, x < 13 → ∀ w ∈ u_ws (z_RO x) (z_T x) (z_nf x), w ∈ Ts) (hci : ∀ x, x < 13 → Cond.instantiable (z_RO x) (z_nf x) ∈ Ts ∧ Cond.initialized (z_RO x) ∈ Ts)
    (hac : Cond.arrayClass .int ∈ Ts ∧ Cond.arrayClass .long ∈ Ts ∧ Cond.arrayClass .boolean ∈ Ts) (hao : va_AO "CuckooLodge$State" s ∧ va_AO "CuckooLodge$Kept" s)
    {i : Instr} {x w n : Nat} (hd : decode cc pc = .ok (i, n)) (hn : z_len i = n) (hok : z_okN o i x w) (hR : z_WR D kA rho A H0 H locs S s) (hA : ∀ q, H0.size ≤ q → A q) {st : List Value} {r : Nat × Nat × List Value} (h : z_aw i x st = some r) (hcl : r.2.2.all (z_cl1 (z_sz S)) = true)
    (hcells : cells + 1 ≤ R.cells) (hslots : slots + r.2.1 ≤ R.slots)
    (K : ∀ kA1 rho1 H1, (∀ c, c < z_sz S → rho1 c = rho c) → z_WR D kA1 rho1 A H0 H1 locs (z_nw S r.1 r.2.1) s → W p l e R s m args below meth c H1 locs (cells + 1) (slots + r.2.1) Q (F0 m (pc + n) lsR ((Value.ref (z_sz S) :: r.2.2).map (z_rv rho1 b q)))) : W p l e R s m args below meth c H locs cells slots Q (F0 m pc lsR (st.map (z_rv rho b q))) := by
  subst hn
  obtain ⟨hK, hKA, hP, hD, hS, hC⟩ := hR
  have fin : ∀ (q1 k1 : Nat) (H1 : Heap), (¬ r.1 < 13 → (20 ≤ r.1 ∧ r.1 ≤ 24) ∧ ArrOfT s k1 (z_at r.1) ∧ va_RA s k1 (z_at r.1)) →
      va_P D z_cl (z_ws kA rho S ++ [(q1, z_E (z_up1 kA (z_sz S) k1) (z_up1 rho (z_sz S) q1) (z_nw S r.1 r.2.1) (z_sz S))]) H1 → va_D A (z_ws kA rho S ++ [(q1, z_E (z_up1 kA (z_sz S) k1) (z_up1 rho (z_sz S) q1) (z_nw S r.1 r.2.1) (z_sz S))]) → va_S A H0 H1 locs →
      W p l e R s m args below meth c H1 locs (cells + 1) (slots + r.2.1) Q (F0 m (pc + z_len i) lsR (.ref q1 :: r.2.2.map (z_rv rho b q))) := by
    intro q1 k1 H1 hk hP1 hD1 hS1
    rw [← z_ws_nw hC] at hP1 hD1
    have K2 := K (z_up1 kA (z_sz S) k1) (z_up1 rho (z_sz S) q1) H1 (fun c hc => z_up1_lt hc) ⟨hK, hKA.nw hk, hP1, hD1, hS1, hC.nw _ _⟩
    rw [List.map_cons, z_map_re (fun c hc => z_up1_lt hc) hcl, show z_rv (z_up1 rho (z_sz S) q1) b q (.ref (z_sz S)) = .ref q1 from congrArg Value.ref z_up1_at] at K2
    exact K2
  have e0 : ∀ kd n, z_kd (z_nw S kd n) (z_sz S) = kd := fun kd n => if_pos rfl
  have e1 : ∀ kd n, z_ln (z_nw S kd n) (z_sz S) = n := fun kd n => if_pos rfl
  have e2 : ∀ kd n, gI (z_nw S kd n) (z_sz S) = fun _ => 0 := fun kd n => funext fun k => if_pos rfl
  have e3 : ∀ kd n, gL (z_nw S kd n) (z_sz S) = fun _ => 0 := fun kd n => funext fun k => if_pos rfl
  have e4 : ∀ kd n, gR (z_nw S kd n) (z_sz S) = fun _ => none := fun kd n => funext fun k => if_pos rfl
  cases i with
  | new n =>
    cases h
    obtain ⟨hx13, hok⟩ := hok
    have hz : ∀ k1 q1, z_E (z_up1 kA (z_sz S) k1) (z_up1 rho (z_sz S) q1) (z_nw S x (z_nf x)) (z_sz S) = .inr (x, z_fs rho (z_nw S x (z_nf x)) (z_sz S)) := by
      intro k1 q1
      rw [z_E_ob (by rw [e0]; exact hx13), e0]
      unfold z_fs z_fv
      simp only [e4]
      rfl
    have hfs : ∀ j, j < z_nf x → defaultValue (z_tyT x j) = vp_V (z_fs rho (z_nw S x (z_nf x)) (z_sz S)) j := by
      intro j hj
      have h5 : (z_fs rho (z_nw S x (z_nf x)) (z_sz S))[j]? = some (z_fv rho (z_nw S x (z_nf x)) (z_ty (z_kd (z_nw S x (z_nf x)) (z_sz S)) j) (z_sz S) j) := z_fs_at (by rw [e0]; exact hj)
      unfold vp_V
      rw [List.getD_eq_getElem?_getD, h5, e0]
      unfold z_fv
      rw [e2, e3, e4]
      rcases z_ty_some hj with h6 | h6 | h6 | h6
      · rw [z_ty0 hj h6, if_pos (Or.inl h6)]; rfl
      · rw [z_ty1 hj h6, if_neg (by omega), if_pos h6]; rfl
      · rw [z_ty3 hj h6, if_pos (Or.inr h6)]; rfl
      · rw [if_neg (by omega), if_neg (by omega)]
        have h7 := z_ty4 hj h6
        cases hT : z_tyT x j <;> rw [hT] at h7 <;> first | rfl | cases h7
    refine va_new (D := D) (ci := x) (C := z_RO x) (T := z_T x) (N := z_nf x) hx hb hts (hin x hx13) (z_tyT x) (z_tyT_ok x hx13) hown (hts _ (hwl _ (List.mem_of_getElem? hok))) (hts _ (hci x hx13).1) (hts _ (hci x hx13).2) hK hP hD hS hA (z_cl_at x hx13) hfs hcells hslots hd (fun q1 H1 hP1 hD1 hS1 => ?_)
    have hz1 := hz 0 q1
    exact fin q1 0 H1 (fun z => absurd hx13 z) (by rw [hz1]; exact hP1) (by rw [hz1]; exact hD1) hS1
  | newarray t =>
    match st, h with
    | .int n0 :: r1, h =>
      unfold z_aw at h
      dsimp only at h
      split at h
      · rename_i hg
        have hN : n0.toNatClampNeg ≤ 100000 := by
          have h1 := Int32.le_iff_toInt_le.mp hg.2
          have h2 : (100000 : Int32).toInt = 100000 := by decide
          rw [h2] at h1
          have h3 : n0.toNatClampNeg = n0.toInt.toNat := rfl
          omega
        have hn0 : ¬ n0 < 0 := Int32.not_lt.mpr hg.1
        cases t with
        | int =>
          cases h
          refine va_newa (D := D) (atype := .int) (a0 := (n0.toNatClampNeg, .inl (fun _ => 0))) hx hb (hts _ hac.1) rfl hK hP hD hS hA (fun cA => rfl) hn0 rfl (by show n0.toNatClampNeg * 4 ≤ _; omega) hcells hslots hd (fun q1 cA H1 hK1 hP1 hD1 hS1 => ?_)
          have hz : z_E (z_up1 kA (z_sz S) cA) (z_up1 rho (z_sz S) q1) (z_nw S 20 n0.toNatClampNeg) (z_sz S) = .inl (cA, n0.toNatClampNeg, .inl (fun _ => 0)) := by
            rw [z_E_ar (by rw [e0]; omega), z_ac, e0, e1, e2, if_pos (Or.inl rfl), z_up1_at]
          exact fin q1 cA H1 (fun _ => ⟨by omega, hK1.2 0 _ rfl⟩) (by rw [hz]; exact hP1) (by rw [hz]; exact hD1) hS1
        | long =>
          cases h
          refine va_newa (D := D) (atype := .long) (a0 := (n0.toNatClampNeg, .inr (.inl (fun _ => 0)))) hx hb (hts _ hac.2.1) rfl hK hP hD hS hA (fun cA => rfl) hn0 rfl (by show n0.toNatClampNeg * 8 ≤ _; omega) hcells hslots hd (fun q1 cA H1 hK1 hP1 hD1 hS1 => ?_)
          have hz : z_E (z_up1 kA (z_sz S) cA) (z_up1 rho (z_sz S) q1) (z_nw S 21 n0.toNatClampNeg) (z_sz S) = .inl (cA, n0.toNatClampNeg, .inr (.inl (fun _ => 0))) := by
            rw [z_E_ar (by rw [e0]; omega), z_ac, e0, e1, e3, if_neg (by omega), if_pos rfl, z_up1_at]
          exact fin q1 cA H1 (fun _ => ⟨by omega, hK1.2 0 _ rfl⟩) (by rw [hz]; exact hP1) (by rw [hz]; exact hD1) hS1
        | boolean =>
          cases h
          refine va_newa (D := D) (atype := .boolean) (a0 := (n0.toNatClampNeg, .inl (fun _ => 0))) hx hb (hts _ hac.2.2) rfl hK hP hD hS hA (fun cA => rfl) hn0 rfl (by show n0.toNatClampNeg * 1 ≤ _; omega) hcells hslots hd (fun q1 cA H1 hK1 hP1 hD1 hS1 => ?_)
          have hz : z_E (z_up1 kA (z_sz S) cA) (z_up1 rho (z_sz S) q1) (z_nw S 22 n0.toNatClampNeg) (z_sz S) = .inl (cA, n0.toNatClampNeg, .inl (fun _ => 0)) := by
            rw [z_E_ar (by rw [e0]; omega), z_ac, e0, e1, e2, if_pos (Or.inr rfl), z_up1_at]
          exact fin q1 cA H1 (fun _ => ⟨by omega, hK1.2 0 _ rfl⟩) (by rw [hz]; exact hP1) (by rw [hz]; exact hD1) hS1
        | _ => cases h
      · cases h
  | anewarray n1 =>
    match st, h with
    | .int n0 :: r1, h =>
      unfold z_aw at h
      dsimp only at h
      split at h
      · rename_i hg
        cases h
        have hN : n0.toNatClampNeg ≤ 100000 := by
          have h1 := Int32.le_iff_toInt_le.mp hg.2
          have h2 : (100000 : Int32).toInt = 100000 := by decide
          rw [h2] at h1
          have h3 : n0.toNatClampNeg = n0.toInt.toNat := rfl
          omega
        have hn0 : ¬ n0 < 0 := Int32.not_lt.mpr hg.1
        obtain ⟨hx2, hok⟩ := hok
        have hT : z_at x = .object (z_el x) := by rcases hx2 with rfl | rfl <;> rfl
        have hov : va_AO (z_el x) s := by
          rcases hx2 with rfl | rfl
          · exact hao.1
          · exact hao.2
        refine va_newq (D := D) (C := z_el x) hx hb hown (hts _ (hwl _ (List.mem_of_getElem? hok))) hov hK hP hD hS hA hn0 rfl (by omega) hcells hslots hd (fun q1 cA H1 hK1 hP1 hD1 hS1 => ?_)
        have hz : z_E (z_up1 kA (z_sz S) cA) (z_up1 rho (z_sz S) q1) (z_nw S x n0.toNatClampNeg) (z_sz S) = .inl (cA, n0.toNatClampNeg, .inr (.inr (.inr (.inr (fun _ => none))))) := by
          rw [z_E_ar (by rw [e0]; omega), z_ac, e0, e1, e4, if_neg (by omega), if_neg (by omega), z_up1_at]
          rfl
        exact fin q1 cA H1 (fun _ => ⟨by omega, by rw [hT]; exact hK1.2 0 _ rfl⟩) (by rw [hz]; exact hP1) (by rw [hz]; exact hD1) hS1
      · cases h
  | _ => cases h
theorem z_E_cI {S : z_S} {a sp b0 dp n c' : Nat} (h : c' ≠ b0) : z_E kA rho (cI S a sp b0 dp n) c' = z_E kA rho S c' := by
  have e : ∀ k, gI (cI S a sp b0 dp n) c' k = gI S c' k := fun k => by rw [gI_cI, if_neg h]
  have e2 : gI (cI S a sp b0 dp n) c' = gI S c' := funext e
  unfold z_E z_fs z_ac z_fv
  simp only [e, e2]
  rfl
theorem z_w901 (hx : p.tables.exec = Jvm.exec) (hb : c.code = cc) (hml : c.maxLocals = lsR.size) {own : String} (hown : s.vm.findClass own = some m.cls) {idx : Nat} (hlink : (Cond.methodLink own idx arraycopyName).before args s = true) (hnat : (Cond.native arraycopyName).before args s = true) (hstat : (Cond.static arraycopyName).before args s = true) (hini : (Cond.initialized "java/lang/System").before args s = true)
    (hd : decode cc pc = .ok (.invokestatic idx, 3)) (hR : z_WR D kA rho A H0 H locs S s) (hfr : 1 ≤ R.frames) (hlo : 64 ≤ R.locals) {st : List Value} {r : List Value × z_S} (h : z_sp (.invokestatic idx) 901 st S = some r)
    (K : ∀ H1 locs1, z_WR D kA rho A H0 H1 locs1 r.2 s → W p l e R s m args below meth c H1 locs1 cells slots Q (F0 m (pc + 3) lsR (r.1.map (z_rv rho b q)))) : W p l e R s m args below meth c H locs cells slots Q (F0 m pc lsR (st.map (z_rv rho b q))) := by
  have hR0 := hR
  obtain ⟨hK, hKA, hP, hD, hS, hC⟩ := hR
  match st, h with
  | .int n :: .int dp :: .ref b0 :: .int sp :: .ref a :: r1, h =>
    change (if z_wt r1 ≤ 8 ∧ a < z_sz S ∧ b0 < z_sz S ∧ z_kd S a = 20 ∧ z_kd S b0 = 20 ∧ 0 ≤ n.toInt ∧ 0 ≤ sp.toInt ∧ 0 ≤ dp.toInt ∧ sp.toInt + n.toInt ≤ z_ln S a ∧ dp.toInt + n.toInt ≤ z_ln S b0 then some (r1, cI S a sp.toNatClampNeg b0 dp.toNatClampNeg n.toNatClampNeg) else none) = some r at h
    split at h
    · rename_i hg
      cases h
      obtain ⟨g0, g1, g2, g3, g4, g5, g6, g7, g8, g9⟩ := hg
      have hka : ¬ z_kd S a < 13 := by omega
      have hkb : ¬ z_kd S b0 < 13 := by omega
      have hea := z_ws_at (kA := kA) (rho := rho) g1
      rw [z_E_ar hka, z_ac, if_pos (Or.inl g3)] at hea
      have heb := z_ws_at (kA := kA) (rho := rho) g2
      rw [z_E_ar hkb, z_ac, if_pos (Or.inl g4)] at heb
      have hK2 : va_K D z_cl [(kA a, .int), (kA b0, .int)] s := by
        refine ⟨hK.1, fun k u hu => ?_⟩
        match k, hu with
        | 0, hu => cases hu; have := (hKA a g1 hka).2; rw [g3] at this; exact this
        | 1, hu => cases hu; have := (hKA b0 g2 hkb).2; rw [g4] at this; exact this
      have nz : ∀ z : Int32, 0 ≤ z.toInt → ¬ z < 0 := fun z hz q => by
        have := Int32.lt_iff_toInt_lt.mp q
        simp at this
        omega
      have cz : ∀ z : Int32, z.toNatClampNeg = z.toInt.toNat := fun _ => rfl
      have e2 : z_E kA rho (cI S a sp.toNatClampNeg b0 dp.toNatClampNeg n.toNatClampNeg) b0 = .inl (kA b0, z_ln S b0, .inl (va_cpy (gI S a) (gI S b0) sp.toNatClampNeg dp.toNatClampNeg n.toNatClampNeg)) := by
        rw [z_E_ar (S := cI S a sp.toNatClampNeg b0 dp.toNatClampNeg n.toNatClampNeg) hkb, z_ac, if_pos (show z_kd (cI S a sp.toNatClampNeg b0 dp.toNatClampNeg n.toNatClampNeg) b0 = 20 ∨ z_kd (cI S a sp.toNatClampNeg b0 dp.toNatClampNeg n.toNatClampNeg) b0 = 22 from Or.inl g4), show gI (cI S a sp.toNatClampNeg b0 dp.toNatClampNeg n.toNatClampNeg) b0 = va_cpy (gI S a) (gI S b0) sp.toNatClampNeg dp.toNatClampNeg n.toNatClampNeg from funext fun j => by rw [gI_cI, if_pos rfl]]
        rfl
      have hwt : ((r1.map (z_rv rho b q)).map fun v => v.category).sum ≤ 8 := by
        have hcat : (r1.map (z_rv rho b q)).map (fun v => v.category) = r1.map fun v => v.category := by
          rw [List.map_map]
          apply List.map_congr_left
          intro v _
          have h1 := z_lg_cat rho b q v
          show (z_rv rho b q v).category = v.category
          cases v with
          | retAddr k =>
            match k with
            | 0 => rfl
            | 1 => rfl
            | 2 => rfl
            | k + 3 => rfl
          | _ => rfl
        rw [hcat]
        exact g0
      refine va_copyi (D := D) hx hb hml hown hlink hnat hstat hini hK2 hP hD hS a b0 0 1 hea heb rfl rfl rfl (nz sp g6) (nz dp g7) (nz n g5) (by rw [cz, cz]; omega) (by rw [cz, cz]; omega) (fun _ _ => rfl) hfr (by show _ + (7 + 11) ≤ _; omega) hd (fun H1 locs1 hP1 hD1 hS1 => K H1 locs1 ?_)
      exact hR0.put (S' := cI S a sp.toNatClampNeg b0 dp.toNatClampNeg n.toNatClampNeg) g2 rfl rfl hC (fun c' hc' => z_E_cI hc') (by rw [e2]; exact hP1) (by rw [e2]; exact hD1) hS1
    · cases h
theorem z_wt_rv (st : List Value) : ((st.map (z_rv rho b q)).map fun v => v.category).sum = z_wt st := by
  have hcat : (st.map (z_rv rho b q)).map (fun v => v.category) = st.map fun v => v.category := by
    rw [List.map_map]
    apply List.map_congr_left
    intro v _
    show (z_rv rho b q v).category = v.category
    cases v with
    | retAddr k =>
      match k with
      | 0 => rfl
      | 1 => rfl
      | 2 => rfl
      | k + 3 => rfl
    | _ => rfl
  rw [hcat]
  rfl
end ZW4
