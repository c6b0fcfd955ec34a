/-! SOUNDNESS 3: the store. -/
def z_at (kd : Nat) : FieldType := if kd = 20 then .int else if kd = 21 then .long else if kd = 22 then .boolean else if kd = 23 then .object "CuckooLodge$State" else .object "CuckooLodge$Kept"
/-- a field's value as the machine has it -/
def z_fv (rho : Nat → Nat) (S : z_S) (t c k : Nat) : Value := if t = 0 ∨ t = 3 then .int (gI S c k) else if t = 1 then .long (gL S c k) else va_rf ((gR S c k).map rho)
def z_ac (rho : Nat → Nat) (S : z_S) (c : Nat) : vp_A := (z_ln S c, if z_kd S c = 20 ∨ z_kd S c = 22 then .inl (gI S c) else if z_kd S c = 21 then .inr (.inl (gL S c)) else .inr (.inr (.inr (.inr (fun j => (gR S c j).map rho)))))
def z_fs (rho : Nat → Nat) (S : z_S) (c : Nat) : List Value := (List.range (z_nf (z_kd S c))).map (fun k => z_fv rho S (z_ty (z_kd S c) k) c k)
/-- a cell as the machine has it -/
def z_E (kA rho : Nat → Nat) (S : z_S) (c : Nat) : va_E := if z_kd S c < 13 then .inr (z_kd S c, z_fs rho S c) else .inl (kA c, z_ac rho S c)
def z_ws (kA rho : Nat → Nat) (S : z_S) : va_W := (List.range (z_sz S)).map (fun c => (rho c, z_E kA rho S c))
theorem z_ws_at {kA rho : Nat → Nat} {S : z_S} {c : Nat} (h : c < z_sz S) : (z_ws kA rho S)[c]? = some (rho c, z_E kA rho S c) := by
  unfold z_ws
  rw [List.getElem?_map, List.getElem?_range h]
  rfl
theorem z_ws_len (kA rho : Nat → Nat) (S : z_S) : (z_ws kA rho S).length = z_sz S := by simp [z_ws]
/-- one cell changes -/
theorem z_ws_set {kA rho : Nat → Nat} {S S' : z_S} {c : Nat} (hc : c < z_sz S) (hz : z_sz S' = z_sz S) (ho : ∀ c', c' ≠ c → z_E kA rho S' c' = z_E kA rho S c') : (z_ws kA rho S).set c (rho c, z_E kA rho S' c) = z_ws kA rho S' := by
  apply List.ext_getElem?
  intro j
  by_cases e : j = c
  · subst e
    rw [List.getElem?_set_self (by rw [z_ws_len]; exact hc), z_ws_at (by rw [hz]; exact hc)]
  · rw [List.getElem?_set_ne (fun q => e q.symm)]
    by_cases hj : j < z_sz S
    · rw [z_ws_at hj, z_ws_at (by rw [hz]; exact hj), ho j e]
    · rw [List.getElem?_eq_none (by rw [z_ws_len]; omega), List.getElem?_eq_none (by rw [z_ws_len, hz]; omega)]
theorem z_cl_at : ∀ x, x < 13 → z_cl[x]? = some (z_RO x, z_T x, z_nf x)
  | 0, _ => rfl
  | 1, _ => rfl
  | 2, _ => rfl
  | 3, _ => rfl
  | 4, _ => rfl
  | 5, _ => rfl
  | 6, _ => rfl
  | 7, _ => rfl
  | 8, _ => rfl
  | 9, _ => rfl
  | 10, _ => rfl
  | 11, _ => rfl
  | 12, _ => rfl
  | n + 13, h => by omega
theorem z_tyT_ok : ∀ x, x < 13 → ∀ k, k < z_nf x → parseFieldDescriptor (z_T x k).2.2.1 = some (z_tyT x k)
  | 0, _ => tyX0_ok
  | 1, _ => tyX1_ok
  | 2, _ => tyX2_ok
  | 3, _ => tyX3_ok
  | 4, _ => tyX4_ok
  | 5, _ => tyX5_ok
  | 6, _ => tyX6_ok
  | 7, _ => tyX7_ok
  | 8, _ => tyX8_ok
  | 9, _ => tyX9_ok
  | 10, _ => tyX10_ok
  | 11, _ => tyX11_ok
  | 12, _ => tyX12_ok
  | n + 13, h => by omega
theorem z_nm_ok : ∀ x, x < 13 → ∀ a, a < z_nf x → ∀ b, b < z_nf x → a ≠ b → (z_T x a).2.1 ≠ (z_T x b).2.1
  | 0, _ => nmX0
  | 1, _ => nmX1
  | 2, _ => nmX2
  | 3, _ => nmX3
  | 4, _ => nmX4
  | 5, _ => nmX5
  | 6, _ => nmX6
  | 7, _ => nmX7
  | 8, _ => nmX8
  | 9, _ => nmX9
  | 10, _ => nmX10
  | 11, _ => nmX11
  | 12, _ => nmX12
  | n + 13, h => by omega
theorem z_nf_lt {x y : Nat} (h : y < z_nf x) : x < 13 := by
  rcases Nat.lt_or_ge x 13 with q | q
  · exact q
  · have e : z_nf x = 0 := by
      unfold z_nf
      rw [List.getD_eq_getElem?_getD, List.getElem?_eq_none (by exact q)]
      rfl
    omega
def z_rfT (t : FieldType) : Bool := match t with
  | .object _ => true
  | .array _ => true
  | _ => false
def z_tyB (x y : Nat) : Bool := (z_ty x y != 0 || z_tyT x y == .int) && (z_ty x y != 3 || z_tyT x y == .boolean) && (z_ty x y != 1 || z_tyT x y == .long) && (z_ty x y < 4 || z_rfT (z_tyT x y)) && (z_fi x y == (z_T x y).2.2.2) && ((z_T x y).1 == z_RO x) && (z_ty x y != 2) && (z_ty x y < 29)
theorem z_tyB_all : ((List.range 13).all fun x => (List.range (z_nf x)).all fun y => z_tyB x y) = true := by decide +kernel
theorem z_tyB_ok {x y : Nat} (h : y < z_nf x) : z_tyB x y = true := by
  have h1 := List.all_eq_true.mp z_tyB_all x (List.mem_range.mpr (z_nf_lt h))
  exact List.all_eq_true.mp h1 y (List.mem_range.mpr h)
theorem z_ty0 {x y : Nat} (h : y < z_nf x) (h0 : z_ty x y = 0) : z_tyT x y = .int := by
  have := z_tyB_ok h
  simp [z_tyB, h0] at this
  exact this.1.1
theorem z_ty3 {x y : Nat} (h : y < z_nf x) (h0 : z_ty x y = 3) : z_tyT x y = .boolean := by
  have := z_tyB_ok h
  simp [z_tyB, h0] at this
  exact this.1.1
theorem z_ty1 {x y : Nat} (h : y < z_nf x) (h0 : z_ty x y = 1) : z_tyT x y = .long := by
  have := z_tyB_ok h
  simp [z_tyB, h0] at this
  exact this.1.1
theorem z_ty4 {x y : Nat} (h : y < z_nf x) (h0 : 4 ≤ z_ty x y) : z_rfT (z_tyT x y) = true := by
  have := z_tyB_ok h
  simp only [z_tyB, Bool.and_eq_true, Bool.or_eq_true, decide_eq_true_eq] at this
  rcases this.1.1.1.1.2 with q | q
  · omega
  · exact q
theorem z_fi_ok {x y : Nat} (h : y < z_nf x) : (z_T x y).2.2.2 = z_fi x y ∧ (z_T x y).1 = z_RO x := by
  have := z_tyB_ok h
  simp only [z_tyB, Bool.and_eq_true, beq_iff_eq] at this
  exact ⟨this.1.1.1.2.symm, this.1.1.2⟩
theorem z_ty_some {x y : Nat} (h : y < z_nf x) : z_ty x y = 0 ∨ z_ty x y = 1 ∨ z_ty x y = 3 ∨ 4 ≤ z_ty x y := by
  have := z_tyB_ok h
  simp only [z_tyB, Bool.and_eq_true, bne_iff_ne, ne_eq] at this
  have := this.1.2
  omega
/-- references are of cells that are -/
def z_CL (S : z_S) : Prop := ∀ c k r, gR S c k = some r → r < z_sz S
/-- the arrays' classes -/
def z_KA (kA : Nat → Nat) (S : z_S) (s : State) : Prop := ∀ c, c < z_sz S → ¬ z_kd S c < 13 → (20 ≤ z_kd S c ∧ z_kd S c ≤ 24) ∧ ArrOfT s (kA c) (z_at (z_kd S c)) ∧ va_RA s (kA c) (z_at (z_kd S c))
/-- the machine's heap holds the lite store -/
def z_WR (D : va_G) (kA rho : Nat → Nat) (A : Nat → Prop) (H0 H : Heap) (locs : List Loc) (S : z_S) (s : State) : Prop :=
  va_K D z_cl [] s ∧ z_KA kA S s ∧ va_P D z_cl (z_ws kA rho S) H ∧ va_D A (z_ws kA rho S) ∧ va_S A H0 H locs ∧ z_CL S
theorem z_KA.K {D : va_G} {kA : Nat → Nat} {S : z_S} {s : State} (h : z_KA kA S s) (hK : va_K D z_cl [] s) {c : Nat} (hc : c < z_sz S) (hk : ¬ z_kd S c < 13) : va_K D z_cl [(kA c, z_at (z_kd S c))] s := by
  refine ⟨hK.1, fun k q hq => ?_⟩
  have hz : k < 1 := (List.getElem?_eq_some_iff.mp hq).1
  rw [show k = 0 by omega] at hq
  cases hq
  exact (h c hc hk).2
theorem z_E_ob {kA rho : Nat → Nat} {S : z_S} {c : Nat} (h : z_kd S c < 13) : z_E kA rho S c = .inr (z_kd S c, z_fs rho S c) := if_pos h
theorem z_E_ar {kA rho : Nat → Nat} {S : z_S} {c : Nat} (h : ¬ z_kd S c < 13) : z_E kA rho S c = .inl (kA c, z_ac rho S c) := if_neg h
theorem z_fs_at {rho : Nat → Nat} {S : z_S} {c y : Nat} (h : y < z_nf (z_kd S c)) : (z_fs rho S c)[y]? = some (z_fv rho S (z_ty (z_kd S c) y) c y) := by
  unfold z_fs
  rw [List.getElem?_map, List.getElem?_range h]
  rfl
theorem z_fs_len (rho : Nat → Nat) (S : z_S) (c : Nat) : (z_fs rho S c).length = z_nf (z_kd S c) := by simp [z_fs]
/-- a field is set -/
theorem z_fs_set {rho : Nat → Nat} {S S' : z_S} {c y : Nat} (hy : y < z_nf (z_kd S c)) (hk : z_kd S' c = z_kd S c) (ho : ∀ k, k ≠ y → z_fv rho S' (z_ty (z_kd S c) k) c k = z_fv rho S (z_ty (z_kd S c) k) c k) : (z_fs rho S c).set y (z_fv rho S' (z_ty (z_kd S c) y) c y) = z_fs rho S' c := by
  apply List.ext_getElem?
  intro j
  by_cases e : j = y
  · subst e
    rw [List.getElem?_set_self (by rw [z_fs_len]; exact hy), z_fs_at (by rw [hk]; exact hy), hk]
  · rw [List.getElem?_set_ne (fun q => e q.symm)]
    by_cases hj : j < z_nf (z_kd S c)
    · rw [z_fs_at hj, z_fs_at (by rw [hk]; exact hj), hk, ho j e]
    · rw [List.getElem?_eq_none (by rw [z_fs_len]; omega), List.getElem?_eq_none (by rw [z_fs_len, hk]; omega)]
theorem z_E_sI {kA rho : Nat → Nat} {S : z_S} {c y : Nat} {v : Int32} (c' : Nat) (h : c' ≠ c) : z_E kA rho (sI S c y v) c' = z_E kA rho S c' := by
  have e : ∀ k, gI (sI S c y v) c' k = gI S c' k := fun k => by rw [gI_sI, if_neg h]
  have e2 : gI (sI S c y v) c' = gI S c' := funext e
  unfold z_E z_fs z_ac z_fv
  simp only [e, e2]
  rfl
theorem z_E_sL {kA rho : Nat → Nat} {S : z_S} {c y : Nat} {v : Int64} (c' : Nat) (h : c' ≠ c) : z_E kA rho (sL S c y v) c' = z_E kA rho S c' := by
  have e : ∀ k, gL (sL S c y v) c' k = gL S c' k := fun k => by rw [gL_sL, if_neg h]
  have e2 : gL (sL S c y v) c' = gL S c' := funext e
  unfold z_E z_fs z_ac z_fv
  simp only [e, e2]
  rfl
theorem z_E_sR {kA rho : Nat → Nat} {S : z_S} {c y : Nat} {v : Option Nat} (c' : Nat) (h : c' ≠ c) : z_E kA rho (sR S c y v) c' = z_E kA rho S c' := by
  have e : ∀ k, gR (sR S c y v) c' k = gR S c' k := fun k => by rw [gR_sR, if_neg h]
  unfold z_E z_fs z_ac z_fv
  simp only [e]
  rfl
section ZW3
variable {p : Program} {l : Launch} {e : Env} {R : Room} {s : State} {m : MethodId} {args : Array Value} {below : List Frame} {meth : Method} {c : Code} {H : Heap} {locs : List Loc} {cells slots : Nat} {Q : State → Prop}
variable {cc : ByteArray} {pc : Nat} {lsR : Array Slot} {rho : Nat → Nat} {b q : Nat} {D : va_G} {kA : Nat → Nat} {A : Nat → Prop} {H0 : Heap} {S : z_S} {Ts : List Cond}
/-- the words of a field's instruction -/
def z_okF (o : Nat) (i : Instr) (x y w : Nat) : Prop := match i with
  | .getfield n => (z_wl o)[w]? = some (.fieldLink (z_RO o) n (z_T x y).1 (z_T x y).2.1 (z_T x y).2.2.1)
  | .putfield n => (z_wl o)[w]? = some (.fieldLink (z_RO o) n (z_T x y).1 (z_T x y).2.1 (z_T x y).2.2.1)
  | _ => True
/-- the script, where there is one -/
def z_Xok (X : Nat × (Nat → Int32)) (b : Nat) (A : Nat → Prop) (s : State) (H0 : Heap) : Prop := va_X b (X.1 - 1) X.2 s H0 ∧ b < H0.size ∧ ¬ A b
theorem z_w4 (hx : p.tables.exec = Jvm.exec) (hb : c.code = cc) {o : Nat} (hown : s.vm.findClass (z_RO o) = some m.cls) (hts : ∀ w ∈ Ts, w.before args s = true) (hwl : ∀ w ∈ z_wl o, w ∈ Ts) (hin : ∀ x, x < 13 → ∀ w ∈ u_ws (z_RO x) (z_T x) (z_nf x), w ∈ Ts)
    {X : Nat × (Nat → Int32)} {st st' : List Value} (hX : 0 < X.1 → z_Xok X b A s H0) {i : Instr} {x y w n : Nat} (hd : decode cc pc = .ok (i, n)) (hn : z_len i = n) (hok : z_okF o i x y w) (hR : z_WR D kA rho A H0 H locs S s) (h : z_rd X i x y st S = some st')
    (K : W p l e R s m args below meth c H locs cells slots Q (F0 m (pc + n) lsR (st'.map (z_rv rho b q)))) : W p l e R s m args below meth c H locs cells slots Q (F0 m pc lsR (st.map (z_rv rho b q))) := by
  subst hn
  obtain ⟨hK, hKA, hP, hD, hS, hC⟩ := hR
  cases i with
  | getfield n =>
    match st, h with
    | .ref c0 :: r, h =>
      unfold z_rd at h
      dsimp only at h
      split at h
      · rename_i hg
        obtain ⟨g1, g2, g3⟩ := hg
        subst g2
        have hx13 := z_nf_lt g3
        have he := z_ws_at (kA := kA) (rho := rho) g1
        rw [z_E_ob hx13] at he
        have hv := z_fs_at (rho := rho) g3
        have key : ∀ v, z_fv rho S (z_ty (z_kd S c0) y) c0 y = v → W p l e R s m args below meth c H locs cells slots Q (F0 m (pc + 3) lsR (v :: r.map (z_rv rho b q))) → W p l e R s m args below meth c H locs cells slots Q (F0 m pc lsR ((Value.ref c0 :: r).map (z_rv rho b q))) := by
          intro v hv2 K2
          rw [hv2] at hv
          exact va_get (D := D) (C := z_RO (z_kd S c0)) (T := z_T (z_kd S c0)) (N := z_nf (z_kd S c0)) (ref := (z_T (z_kd S c0) y).1) hx hb hts (hin _ hx13) hown hK hP c0 he (z_cl_at _ hx13) y g3 (hts _ (hwl _ (List.mem_of_getElem? hok))) (fun _ h9 => h9) hv hd K2
        split at h
        · rename_i ht
          cases h
          exact key (.int (gI S c0 y)) (by unfold z_fv; rw [if_pos ht]) K
        · rename_i ht
          split at h
          · rename_i ht1
            cases h
            exact key (.long (gL S c0 y)) (by unfold z_fv; rw [if_neg ht, if_pos ht1]) K
          · rename_i ht1
            split at h
            · rename_i a ha
              cases h
              exact key (.ref (rho a)) (by unfold z_fv; rw [if_neg ht, if_neg ht1, ha]; rfl) K
            · cases h
      · cases h
  | iaload =>
    match st, h with
    | .int k :: .ref a :: r, h =>
      unfold z_rd at h
      dsimp only at h
      split at h
      · rename_i hg
        cases h
        obtain ⟨g1, g2, g3⟩ := hg
        have hk : ¬ z_kd S a < 13 := by omega
        have he := z_ws_at (kA := kA) (rho := rho) g1
        rw [z_E_ar hk, z_ac, if_pos (Or.inl g2)] at he
        have hK1 := hKA.K hK g1 hk
        rw [g2] at hK1
        exact va_iald (D := D) hx hb hK1 hP a 0 he rfl g3 hd K
      · cases h
    | .int k :: .retAddr 1 :: r, h =>
      change (if 0 < X.1 ∧ z_in k (X.1 - 1) then some (Value.int (X.2 k.toNatClampNeg) :: r) else none) = some st' at h
      split at h
      · rename_i hg
        cases h
        obtain ⟨q1, q2, q3⟩ := hX hg.1
        exact va_sld hx hb q1 q2 q3 hS hg.2 hd K
      · cases h
  | laload =>
    match st, h with
    | .int k :: .ref a :: r, h =>
      unfold z_rd at h
      dsimp only at h
      split at h
      · rename_i hg
        cases h
        obtain ⟨g1, g2, g3⟩ := hg
        have hk : ¬ z_kd S a < 13 := by omega
        have he := z_ws_at (kA := kA) (rho := rho) g1
        rw [z_E_ar hk, z_ac, if_neg (by omega), if_pos g2] at he
        have hK1 := hKA.K hK g1 hk
        rw [g2] at hK1
        exact va_lald (D := D) hx hb hK1 hP a 0 he rfl g3 hd K
      · cases h
  | baload =>
    match st, h with
    | .int k :: .ref a :: r, h =>
      unfold z_rd at h
      dsimp only at h
      split at h
      · rename_i hg
        cases h
        obtain ⟨g1, g2, g3⟩ := hg
        have hk : ¬ z_kd S a < 13 := by omega
        have he := z_ws_at (kA := kA) (rho := rho) g1
        rw [z_E_ar hk, z_ac, if_pos (Or.inr g2)] at he
        have hK1 := hKA.K hK g1 hk
        rw [g2] at hK1
        exact va_zald (D := D) hx hb hK1 hP a 0 he rfl g3 hd K
      · cases h
  | aaload =>
    match st, h with
    | .int k :: .ref a :: r, h =>
      unfold z_rd at h
      dsimp only at h
      split at h
      · rename_i hg
        obtain ⟨g1, g2, g3⟩ := hg
        have hk : ¬ z_kd S a < 13 := by omega
        have he := z_ws_at (kA := kA) (rho := rho) g1
        rw [z_E_ar hk, z_ac, if_neg (by omega), if_neg (by omega)] at he
        have hK1 := hKA.K hK g1 hk
        split at h
        · rename_i a2 ha
          cases h
          have K2 : W p l e R s m args below meth c H locs cells slots Q (F0 m (pc + 1) lsR (va_rf ((gR S a k.toNatClampNeg).map rho) :: r.map (z_rv rho b q))) := by rw [ha]; exact K
          rcases g2 with g2 | g2
          · rw [g2] at hK1
            exact va_aldq (D := D) hx hb hK1 hP a 0 he rfl g3 hd K2
          · rw [g2] at hK1
            exact va_aldq (D := D) hx hb hK1 hP a 0 he rfl g3 hd K2
        · cases h
      · cases h
  | arraylength =>
    match st, h with
    | .ref a :: r, h =>
      unfold z_rd at h
      dsimp only at h
      split at h
      · rename_i hg
        cases h
        obtain ⟨g1, g2, g3⟩ := hg
        have hk : ¬ z_kd S a < 13 := by omega
        have he := z_ws_at (kA := kA) (rho := rho) g1
        rw [z_E_ar hk] at he
        exact va_alen (D := D) hx hb (hKA.K hK g1 hk) hP a 0 he rfl rfl hd K
      · cases h
    | .retAddr 1 :: r, h =>
      change (if 0 < X.1 then some (Value.int (Int32.ofNat (X.1 - 1)) :: r) else none) = some st' at h
      split at h
      · rename_i hg
        cases h
        obtain ⟨q1, q2, q3⟩ := hX hg
        exact va_slen hx hb q1 q2 q3 hS hd K
      · cases h
  | _ => cases h
/-- behind a write of one cell -/
theorem z_WR.put {S' : z_S} {c0 : Nat} (hR : z_WR D kA rho A H0 H locs S s) (hc : c0 < z_sz S) (hz : z_sz S' = z_sz S) (hk : z_kd S' = z_kd S) (hC : z_CL S') (ho : ∀ c', c' ≠ c0 → z_E kA rho S' c' = z_E kA rho S c') {H1 : Heap} {locs1 : List Loc}
    (hP : va_P D z_cl ((z_ws kA rho S).set c0 (rho c0, z_E kA rho S' c0)) H1) (hD : va_D A ((z_ws kA rho S).set c0 (rho c0, z_E kA rho S' c0))) (hS : va_S A H0 H1 locs1) : z_WR D kA rho A H0 H1 locs1 S' s := by
  rw [z_ws_set hc hz ho] at hP hD
  exact ⟨hR.1, fun c' h1 h2 => by rw [hk] at h2 ⊢; exact hR.2.1 c' (by rw [← hz]; exact h1) h2, hP, hD, hS, hC⟩
theorem z_w5 (hx : p.tables.exec = Jvm.exec) (hb : c.code = cc) {o : Nat} (hown : s.vm.findClass (z_RO o) = some m.cls) (hts : ∀ w ∈ Ts, w.before args s = true) (hwl : ∀ w ∈ z_wl o, w ∈ Ts) (hin : ∀ x, x < 13 → ∀ w ∈ u_ws (z_RO x) (z_T x) (z_nf x), w ∈ Ts)
    {al : Bool} (hal : al = true → o < 13 → meth.name = "<init>") {i : Instr} {x y w n : Nat} (hd : decode cc pc = .ok (i, n)) (hn : z_len i = n) (hok : z_okF o i x y w) (hR : z_WR D kA rho A H0 H locs S s) {st : List Value} {r : List Value × z_S} (h : z_wr al o i x y st S = some r)
    (K : ∀ H1 locs1, z_WR D kA rho A H0 H1 locs1 r.2 s → W p l e R s m args below meth c H1 locs1 cells slots Q (F0 m (pc + n) lsR (r.1.map (z_rv rho b q)))) : W p l e R s m args below meth c H locs cells slots Q (F0 m pc lsR (st.map (z_rv rho b q))) := by
  subst hn
  have hR0 := hR
  obtain ⟨hK, hKA, hP, hD, hS, hC⟩ := hR
  cases i with
  | putfield n =>
    match st, h with
    | .int v :: .ref c0 :: r1, h =>
      unfold z_wr at h
      dsimp only at h
      split at h
      · rename_i hg
        cases h
        obtain ⟨g1, g2, g3, g4, g5⟩ := hg
        subst g2
        have hx13 := z_nf_lt g3
        have he := z_ws_at (kA := kA) (rho := rho) g1
        rw [z_E_ob hx13] at he
        have hfv : z_fv rho (sI S c0 y v) (z_ty (z_kd S c0) y) c0 y = .int v := by
          unfold z_fv
          rw [if_pos (by omega), gI_sI, if_pos rfl, if_pos rfl]
        have hset : (z_fs rho S c0).set y (.int v) = z_fs rho (sI S c0 y v) c0 := by
          rw [← hfv]
          refine z_fs_set g3 rfl (fun k hk => ?_)
          unfold z_fv
          rw [gI_sI, if_pos rfl, if_neg hk]
          rfl
        have hnr : narrow (z_tyT (z_kd S c0) y) (.int v) = .int v ∧ fits (z_tyT (z_kd S c0) y) (.int v) = true := by
          rcases g5 with g5 | ⟨g5, g6⟩
          · rw [z_ty0 g3 g5]
            exact ⟨rfl, rfl⟩
          · rw [z_ty3 g3 g5]
            rcases g6 with rfl | rfl <;> exact ⟨by decide, by decide⟩
        refine va_put (v := .int v) (D := D) (C := z_RO (z_kd S c0)) (T := z_T (z_kd S c0)) (N := z_nf (z_kd S c0)) (ref := (z_T (z_kd S c0) y).1) hx hb hts (hin _ hx13) (z_tyT (z_kd S c0)) (z_tyT_ok _ hx13) (z_nm_ok _ hx13) hown hK hP hD hS c0 he (z_cl_at _ hx13) y g3 (hts _ (hwl _ (List.mem_of_getElem? hok))) (fun _ h9 => h9) (by rw [(z_fi_ok g3).1]; exact g4) (z_tyT_ok _ hx13 y g3) hnr.1 hnr.2 (by rw [z_fs_len]; exact g3) hd (fun H1 locs1 hP1 hD1 hS1 => K H1 locs1 ?_)
        rw [hset] at hP1 hD1
        exact hR0.put (S' := sI S c0 y v) g1 rfl rfl hC (fun c' hc' => z_E_sI c' hc') (by rw [z_E_ob (S := sI S c0 y v) hx13]; exact hP1) (by rw [z_E_ob (S := sI S c0 y v) hx13]; exact hD1) hS1
      · cases h
    | .long v :: .ref c0 :: r1, h =>
      unfold z_wr at h
      dsimp only at h
      split at h
      · rename_i hg
        cases h
        obtain ⟨g1, g2, g3, g4, g5⟩ := hg
        subst g2
        have hx13 := z_nf_lt g3
        have he := z_ws_at (kA := kA) (rho := rho) g1
        rw [z_E_ob hx13] at he
        have hfv : z_fv rho (sL S c0 y v) (z_ty (z_kd S c0) y) c0 y = .long v := by
          unfold z_fv
          rw [if_neg (by omega), if_pos g5, gL_sL, if_pos rfl, if_pos rfl]
        have hset : (z_fs rho S c0).set y (.long v) = z_fs rho (sL S c0 y v) c0 := by
          rw [← hfv]
          refine z_fs_set g3 rfl (fun k hk => ?_)
          unfold z_fv
          rw [gL_sL, if_pos rfl, if_neg hk]
          rfl
        refine va_put (v := .long v) (D := D) (C := z_RO (z_kd S c0)) (T := z_T (z_kd S c0)) (N := z_nf (z_kd S c0)) (ref := (z_T (z_kd S c0) y).1) hx hb hts (hin _ hx13) (z_tyT (z_kd S c0)) (z_tyT_ok _ hx13) (z_nm_ok _ hx13) hown hK hP hD hS c0 he (z_cl_at _ hx13) y g3 (hts _ (hwl _ (List.mem_of_getElem? hok))) (fun _ h9 => h9) (by rw [(z_fi_ok g3).1]; exact g4) (z_tyT_ok _ hx13 y g3) (by rw [z_ty1 g3 g5]; rfl) (by rw [z_ty1 g3 g5]; rfl) (by rw [z_fs_len]; exact g3) hd (fun H1 locs1 hP1 hD1 hS1 => K H1 locs1 ?_)
        rw [hset] at hP1 hD1
        exact hR0.put (S' := sL S c0 y v) g1 rfl rfl hC (fun c' hc' => z_E_sL c' hc') (by rw [z_E_ob (S := sL S c0 y v) hx13]; exact hP1) (by rw [z_E_ob (S := sL S c0 y v) hx13]; exact hD1) hS1
      · cases h
    | .ref v :: .ref c0 :: r1, h =>
      unfold z_wr at h
      dsimp only at h
      split at h
      · rename_i hg
        cases h
        obtain ⟨g1, g2, g3, g4, g5, g6⟩ := hg
        subst g2
        have hx13 := z_nf_lt g3
        have he := z_ws_at (kA := kA) (rho := rho) g1
        rw [z_E_ob hx13] at he
        have hfv : z_fv rho (sR S c0 y (some v)) (z_ty (z_kd S c0) y) c0 y = .ref (rho v) := by
          unfold z_fv
          rw [if_neg (by omega), if_neg (by omega), gR_sR, if_pos rfl, if_pos rfl]
          rfl
        have hset : (z_fs rho S c0).set y (.ref (rho v)) = z_fs rho (sR S c0 y (some v)) c0 := by
          rw [← hfv]
          refine z_fs_set g3 rfl (fun k hk => ?_)
          unfold z_fv
          rw [gR_sR, if_pos rfl, if_neg hk]
          rfl
        have hrf := z_ty4 g3 (by omega)
        have hnr : narrow (z_tyT (z_kd S c0) y) (.ref (rho v)) = .ref (rho v) ∧ fits (z_tyT (z_kd S c0) y) (.ref (rho v)) = true := by
          cases hT : z_tyT (z_kd S c0) y <;> rw [hT] at hrf <;> first | exact ⟨rfl, rfl⟩ | cases hrf
        have hCl : z_CL (sR S c0 y (some v)) := by
          intro c' k r' hr'
          rw [gR_sR] at hr'
          split at hr'
          · split at hr'
            · cases hr'; exact g5
            · exact hC _ _ _ hr'
          · exact hC _ _ _ hr'
        have fin : ∀ H1 locs1, va_P D z_cl ((z_ws kA rho S).set c0 (rho c0, .inr (z_kd S c0, (z_fs rho S c0).set y (.ref (rho v))))) H1 → va_D A ((z_ws kA rho S).set c0 (rho c0, .inr (z_kd S c0, (z_fs rho S c0).set y (.ref (rho v))))) → va_S A H0 H1 locs1 → W p l e R s m args below meth c H1 locs1 cells slots Q (F0 m (pc + 3) lsR (r1.map (z_rv rho b q))) := by
          intro H1 locs1 hP1 hD1 hS1
          rw [hset] at hP1 hD1
          exact K H1 locs1 (hR0.put (S' := sR S c0 y (some v)) g1 rfl rfl hCl (fun c' hc' => z_E_sR c' hc') (by rw [z_E_ob (S := sR S c0 y (some v)) hx13]; exact hP1) (by rw [z_E_ob (S := sR S c0 y (some v)) hx13]; exact hD1) hS1)
        by_cases hfi : z_fi (z_kd S c0) y = false
        · exact va_put (D := D) (C := z_RO (z_kd S c0)) (T := z_T (z_kd S c0)) (N := z_nf (z_kd S c0)) (ref := (z_T (z_kd S c0) y).1) hx hb hts (hin _ hx13) (z_tyT (z_kd S c0)) (z_tyT_ok _ hx13) (z_nm_ok _ hx13) hown hK hP hD hS c0 he (z_cl_at _ hx13) y g3 (hts _ (hwl _ (List.mem_of_getElem? hok))) (fun _ h9 => h9) (by rw [(z_fi_ok g3).1]; exact hfi) (z_tyT_ok _ hx13 y g3) hnr.1 hnr.2 (by rw [z_fs_len]; exact g3) hd fin
        · rcases g4 with g4 | ⟨g4, g7⟩
          · exact absurd g4 hfi
          · exact va_putF (D := D) (C := z_RO (z_kd S c0)) (T := z_T (z_kd S c0)) (N := z_nf (z_kd S c0)) (ref := (z_T (z_kd S c0) y).1) hx hb hts (hin _ hx13) (z_tyT (z_kd S c0)) (z_tyT_ok _ hx13) (z_nm_ok _ hx13) hown hK hP hD hS c0 he (z_cl_at _ hx13) y g3 (hts _ (hwl _ (List.mem_of_getElem? hok))) (fun _ h9 => h9) (by rw [(z_fi_ok g3).1]; simpa using hfi) (hal g4 (by rw [g7]; exact hx13)) (by rw [(z_fi_ok g3).2, g7]) (z_tyT_ok _ hx13 y g3) hnr.1 hnr.2 (by rw [z_fs_len]; exact g3) hd fin
      · cases h
  | iastore =>
    match st, h with
    | .int v :: .int k :: .ref a :: r1, h =>
      unfold z_wr at h
      dsimp only at h
      split at h
      · rename_i hg
        cases h
        obtain ⟨g1, g2, g3⟩ := hg
        have hk : ¬ z_kd S a < 13 := by omega
        have he := z_ws_at (kA := kA) (rho := rho) g1
        rw [z_E_ar hk, z_ac, if_pos (Or.inl g2)] at he
        have hK1 := hKA.K hK g1 hk
        rw [g2] at hK1
        have e2 : z_E kA rho (sI S a k.toNatClampNeg v) a = .inl (kA a, z_ln S a, .inl (upd (gI S a) k.toNatClampNeg v)) := by
          rw [z_E_ar (S := sI S a k.toNatClampNeg v) hk, z_ac, if_pos (show z_kd (sI S a k.toNatClampNeg v) a = 20 ∨ z_kd (sI S a k.toNatClampNeg v) a = 22 from Or.inl g2), show gI (sI S a k.toNatClampNeg v) a = upd (gI S a) k.toNatClampNeg v from funext fun j => by rw [gI_sI, if_pos rfl]; rfl]
          rfl
        refine va_iast (D := D) hx hb hK1 hP hD hS a 0 he rfl g3 hd (fun H1 locs1 hP1 hD1 hS1 => K H1 locs1 ?_)
        exact hR0.put (S' := sI S a k.toNatClampNeg v) g1 rfl rfl hC (fun c' hc' => z_E_sI c' hc') (by rw [e2]; exact hP1) (by rw [e2]; exact hD1) hS1
      · cases h
  | lastore =>
    match st, h with
    | .long v :: .int k :: .ref a :: r1, h =>
      unfold z_wr at h
      dsimp only at h
      split at h
      · rename_i hg
        cases h
        obtain ⟨g1, g2, g3⟩ := hg
        have hk : ¬ z_kd S a < 13 := by omega
        have he := z_ws_at (kA := kA) (rho := rho) g1
        rw [z_E_ar hk, z_ac, if_neg (by omega), if_pos g2] at he
        have hK1 := hKA.K hK g1 hk
        rw [g2] at hK1
        have e2 : z_E kA rho (sL S a k.toNatClampNeg v) a = .inl (kA a, z_ln S a, .inr (.inl (vp_updL (gL S a) k.toNatClampNeg v))) := by
          rw [z_E_ar (S := sL S a k.toNatClampNeg v) hk, z_ac, if_neg (show ¬ (z_kd (sL S a k.toNatClampNeg v) a = 20 ∨ z_kd (sL S a k.toNatClampNeg v) a = 22) from (show ¬ (z_kd S a = 20 ∨ z_kd S a = 22) by omega)), if_pos (show z_kd (sL S a k.toNatClampNeg v) a = 21 from g2), show gL (sL S a k.toNatClampNeg v) a = vp_updL (gL S a) k.toNatClampNeg v from funext fun j => by rw [gL_sL, if_pos rfl]; rfl]
          rfl
        refine va_last (D := D) hx hb hK1 hP hD hS a 0 he rfl g3 hd (fun H1 locs1 hP1 hD1 hS1 => K H1 locs1 ?_)
        exact hR0.put (S' := sL S a k.toNatClampNeg v) g1 rfl rfl hC (fun c' hc' => z_E_sL c' hc') (by rw [e2]; exact hP1) (by rw [e2]; exact hD1) hS1
      · cases h
  | bastore =>
    match st, h with
    | .int v :: .int k :: .ref a :: r1, h =>
      unfold z_wr at h
      dsimp only at h
      split at h
      · rename_i hg
        cases h
        obtain ⟨g1, g2, g3, g4⟩ := hg
        have hk : ¬ z_kd S a < 13 := by omega
        have he := z_ws_at (kA := kA) (rho := rho) g1
        rw [z_E_ar hk, z_ac, if_pos (Or.inr g2)] at he
        have hK1 := hKA.K hK g1 hk
        rw [g2] at hK1
        have ev : vp_nar .boolean v = v := by rcases g4 with rfl | rfl <;> decide
        have e2 : z_E kA rho (sI S a k.toNatClampNeg v) a = .inl (kA a, z_ln S a, .inl (upd (gI S a) k.toNatClampNeg (vp_nar .boolean v))) := by
          rw [z_E_ar (S := sI S a k.toNatClampNeg v) hk, z_ac, if_pos (show z_kd (sI S a k.toNatClampNeg v) a = 20 ∨ z_kd (sI S a k.toNatClampNeg v) a = 22 from Or.inr g2), ev, show gI (sI S a k.toNatClampNeg v) a = upd (gI S a) k.toNatClampNeg v from funext fun j => by rw [gI_sI, if_pos rfl]; rfl]
          rfl
        refine va_zast (D := D) hx hb hK1 hP hD hS a 0 he rfl g3 hd (fun H1 locs1 hP1 hD1 hS1 => K H1 locs1 ?_)
        exact hR0.put (S' := sI S a k.toNatClampNeg v) g1 rfl rfl hC (fun c' hc' => z_E_sI c' hc') (by rw [e2]; exact hP1) (by rw [e2]; exact hD1) hS1
      · cases h
  | aastore =>
    match st, h with
    | .ref v :: .int k :: .ref a :: r1, h =>
      unfold z_wr at h
      dsimp only at h
      split at h
      · rename_i hg
        cases h
        obtain ⟨-, g1, g5, g2, g3⟩ := hg
        have hk : ¬ z_kd S a < 13 := by omega
        have hkv : z_kd S v < 13 := by omega
        have he := z_ws_at (kA := kA) (rho := rho) g1
        rw [z_E_ar hk, z_ac, if_neg (by omega), if_neg (by omega)] at he
        have hev := z_ws_at (kA := kA) (rho := rho) g5
        rw [z_E_ob hkv] at hev
        have hK1 := hKA.K hK g1 hk
        have hT : z_at (z_kd S a) = .object (z_RO (z_kd S v)) := by
          rcases g2 with ⟨u1, u2⟩ | ⟨u1, u2⟩ <;> rw [u1, u2] <;> rfl
        have hCl : z_CL (sR S a k.toNatClampNeg (some v)) := by
          intro c' k' r' hr'
          rw [gR_sR] at hr'
          split at hr'
          · split at hr'
            · cases hr'; exact g5
            · exact hC _ _ _ hr'
          · exact hC _ _ _ hr'
        have e2 : z_E kA rho (sR S a k.toNatClampNeg (some v)) a = .inl (kA a, z_ln S a, .inr (.inr (.inr (.inr (va_up (fun j => (gR S a j).map rho) k.toNatClampNeg (some (rho v))))))) := by
          rw [z_E_ar (S := sR S a k.toNatClampNeg (some v)) hk, z_ac, if_neg (show ¬ (z_kd (sR S a k.toNatClampNeg (some v)) a = 20 ∨ z_kd (sR S a k.toNatClampNeg (some v)) a = 22) from (show ¬ (z_kd S a = 20 ∨ z_kd S a = 22) by omega)), if_neg (show ¬ z_kd (sR S a k.toNatClampNeg (some v)) a = 21 from (show ¬ z_kd S a = 21 by omega))]
          rw [show (fun j => (gR (sR S a k.toNatClampNeg (some v)) a j).map rho) = va_up (fun j => (gR S a j).map rho) k.toNatClampNeg (some (rho v)) from funext fun j => by rw [gR_sR, if_pos rfl]; unfold va_up; split <;> rfl]
          rfl
        refine va_astq (D := D) (r := (z_RO (z_kd S v), z_T (z_kd S v), z_nf (z_kd S v))) hx hb hK1 hP hD hS a 0 v (z_kd S v) he (by rw [hT]; rfl) hev (z_cl_at _ hkv) g3 hd (fun H1 locs1 hP1 hD1 hS1 => K H1 locs1 ?_)
        exact hR0.put (S' := sR S a k.toNatClampNeg (some v)) g1 rfl rfl hCl (fun c' hc' => z_E_sR c' hc') (by rw [e2]; exact hP1) (by rw [e2]; exact hD1) hS1
      · cases h
  | _ => cases h
end ZW3
