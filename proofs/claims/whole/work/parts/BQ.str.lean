/-! STRINGS: the constant's members. -/
section IM
theorem ds_cod_0 : decode prog_17_method_152_code 0 = .ok (.getstatic 38, 3) := by decide +kernel
theorem ds_cod_3 : decode prog_17_method_152_code 3 = .ok (.ifCond .eq 10, 3) := by decide +kernel
theorem ds_cod_6 : decode prog_17_method_152_code 6 = .ok (.aload_n 0, 1) := by decide +kernel
theorem ds_cod_7 : decode prog_17_method_152_code 7 = .ok (.getfield 15, 3) := by decide +kernel
theorem ds_cod_10 : decode prog_17_method_152_code 10 = .ok (.goto 4, 3) := by decide +kernel
theorem ds_cod_14 : decode prog_17_method_152_code 14 = .ok (.ireturn, 1) := by decide +kernel
theorem ds_lat_0 : decode prog_17_method_154_code 0 = .ok (.getstatic 38, 3) := by decide +kernel
theorem ds_lat_3 : decode prog_17_method_154_code 3 = .ok (.ifCond .eq 14, 3) := by decide +kernel
theorem ds_lat_6 : decode prog_17_method_154_code 6 = .ok (.aload_n 0, 1) := by decide +kernel
theorem ds_lat_7 : decode prog_17_method_154_code 7 = .ok (.getfield 15, 3) := by decide +kernel
theorem ds_lat_10 : decode prog_17_method_154_code 10 = .ok (.ifCond .ne 7, 3) := by decide +kernel
theorem ds_lat_13 : decode prog_17_method_154_code 13 = .ok (.iconst 1, 1) := by decide +kernel
theorem ds_lat_14 : decode prog_17_method_154_code 14 = .ok (.goto 4, 3) := by decide +kernel
theorem ds_lat_18 : decode prog_17_method_154_code 18 = .ok (.ireturn, 1) := by decide +kernel
theorem ds_len_0 : decode prog_17_method_54_code 0 = .ok (.aload_n 0, 1) := by decide +kernel
theorem ds_len_1 : decode prog_17_method_54_code 1 = .ok (.getfield 9, 3) := by decide +kernel
theorem ds_len_4 : decode prog_17_method_54_code 4 = .ok (.arraylength, 1) := by decide +kernel
theorem ds_len_5 : decode prog_17_method_54_code 5 = .ok (.aload_n 0, 1) := by decide +kernel
theorem ds_len_6 : decode prog_17_method_54_code 6 = .ok (.invokevirtual 335, 3) := by decide +kernel
theorem ds_len_9 : decode prog_17_method_54_code 9 = .ok (.ishr, 1) := by decide +kernel
theorem ds_len_10 : decode prog_17_method_54_code 10 = .ok (.ireturn, 1) := by decide +kernel
theorem ds_pre_0 : decode prog_22_method_11_code 0 = .ok (.iload_n 0, 1) := by decide +kernel
theorem ds_pre_1 : decode prog_22_method_11_code 1 = .ok (.ifCond .lt 8, 3) := by decide +kernel
theorem ds_pre_4 : decode prog_22_method_11_code 4 = .ok (.iload_n 0, 1) := by decide +kernel
theorem ds_pre_5 : decode prog_22_method_11_code 5 = .ok (.iload_n 1, 1) := by decide +kernel
theorem ds_pre_6 : decode prog_22_method_11_code 6 = .ok (.if_icmp .lt 10, 3) := by decide +kernel
theorem ds_pre_16 : decode prog_22_method_11_code 16 = .ok (.iload_n 0, 1) := by decide +kernel
theorem ds_pre_17 : decode prog_22_method_11_code 17 = .ok (.ireturn, 1) := by decide +kernel
theorem ds_chk_0 : decode prog_17_method_155_code 0 = .ok (.iload_n 0, 1) := by decide +kernel
theorem ds_chk_1 : decode prog_17_method_155_code 1 = .ok (.iload_n 1, 1) := by decide +kernel
theorem ds_chk_2 : decode prog_17_method_155_code 2 = .ok (.getstatic 1053, 3) := by decide +kernel
theorem ds_chk_5 : decode prog_17_method_155_code 5 = .ok (.invokestatic 1059, 3) := by decide +kernel
theorem ds_chk_8 : decode prog_17_method_155_code 8 = .ok (.pop, 1) := by decide +kernel
theorem ds_chk_9 : decode prog_17_method_155_code 9 = .ok (.return_, 1) := by decide +kernel
theorem ds_l1c_0 : decode prog_18_method_2_code 0 = .ok (.iload_n 1, 1) := by decide +kernel
theorem ds_l1c_1 : decode prog_18_method_2_code 1 = .ok (.aload_n 0, 1) := by decide +kernel
theorem ds_l1c_2 : decode prog_18_method_2_code 2 = .ok (.arraylength, 1) := by decide +kernel
theorem ds_l1c_3 : decode prog_18_method_2_code 3 = .ok (.invokestatic 9, 3) := by decide +kernel
theorem ds_l1c_6 : decode prog_18_method_2_code 6 = .ok (.aload_n 0, 1) := by decide +kernel
theorem ds_l1c_7 : decode prog_18_method_2_code 7 = .ok (.iload_n 1, 1) := by decide +kernel
theorem ds_l1c_8 : decode prog_18_method_2_code 8 = .ok (.baload, 1) := by decide +kernel
theorem ds_l1c_9 : decode prog_18_method_2_code 9 = .ok (.sipush 255, 3) := by decide +kernel
theorem ds_l1c_12 : decode prog_18_method_2_code 12 = .ok (.iand, 1) := by decide +kernel
theorem ds_l1c_13 : decode prog_18_method_2_code 13 = .ok (.i2c, 1) := by decide +kernel
theorem ds_l1c_14 : decode prog_18_method_2_code 14 = .ok (.ireturn, 1) := by decide +kernel
theorem ds_cha_0 : decode prog_17_method_56_code 0 = .ok (.aload_n 0, 1) := by decide +kernel
theorem ds_cha_1 : decode prog_17_method_56_code 1 = .ok (.invokevirtual 492, 3) := by decide +kernel
theorem ds_cha_4 : decode prog_17_method_56_code 4 = .ok (.ifCond .eq 12, 3) := by decide +kernel
theorem ds_cha_7 : decode prog_17_method_56_code 7 = .ok (.aload_n 0, 1) := by decide +kernel
theorem ds_cha_8 : decode prog_17_method_56_code 8 = .ok (.getfield 9, 3) := by decide +kernel
theorem ds_cha_11 : decode prog_17_method_56_code 11 = .ok (.iload_n 1, 1) := by decide +kernel
theorem ds_cha_12 : decode prog_17_method_56_code 12 = .ok (.invokestatic 495, 3) := by decide +kernel
theorem ds_cha_15 : decode prog_17_method_56_code 15 = .ok (.ireturn, 1) := by decide +kernel
def zN : Nat → Prop := fun _ => False
def z_r0 (d : Nat) : Room := { frames := d, cells := 0, slots := 0, locals := 64 * d }
def z_Ps (av : List Value) (Hh : Heap) (q : Nat) : Array Value → State → Prop := fun a U => a = av.toArray ∧ U.heap = Hh ∧ z_SS q zN U Hh
def z_Qs (v : Option Value) (Hh : Heap) : Array Value → State → Outcome → State → Prop := fun _ _ oc t => oc = .returned v ∧ t.heap = Hh
theorem z_Ps_blind (av : List Value) (Hh : Heap) (q : Nat) : FrameBlind (z_Ps av Hh q) := by
  intro a U g mk h
  obtain ⟨h1, h2, h3⟩ := h
  exact ⟨h1, h2, h3.moved (U := U.calling g mk a) (Vm.Alike.refl U.vm)⟩
theorem z_sI {w : Cond} (i : Nat) (h : (z_wsn ++ z_wsc)[i]? = some w) : w ∈ z_all := z_in_s _ (List.mem_of_getElem? h)
theorem z_goodS {w : Cond} (h : w ∈ z_all) : GoodIn z_all (w :: z_all) := by
  intro u hu
  have h' : u ∈ z_all := by
    rcases List.mem_cons.mp hu with rfl | h2
    · exact h
    · exact h2
  exact ⟨h', (z_good u h').2⟩
abbrev n_cod : MethodName := { cls := "java/lang/String", name := "coder", desc := "()B" }
abbrev n_lat : MethodName := { cls := "java/lang/String", name := "isLatin1", desc := "()Z" }
abbrev n_len : MethodName := { cls := "java/lang/String", name := "length", desc := "()I" }
abbrev n_pre : MethodName := { cls := "jdk/internal/util/Preconditions", name := "checkIndex", desc := "(IILjava/util/function/BiFunction;)I" }
abbrev n_chk : MethodName := { cls := "java/lang/String", name := "checkIndex", desc := "(II)V" }
abbrev n_l1c : MethodName := { cls := "java/lang/StringLatin1", name := "charAt", desc := "([BI)C" }
abbrev n_cha : MethodName := { cls := "java/lang/String", name := "charAt", desc := "(I)C" }
section IM1
variable {p : Program} {l : Launch} {e : Env} {R : Room} {s : State} {m : MethodId} {args : Array Value} {below : List Frame} {meth : Method} {c : Code} {H : Heap} {locs : List Loc} {cells slots : Nat} {Q : State → Prop}
/-- behind a call that leaves all as it was -/
theorem z_cont0 {v : Option Value} {a : Array Value} {pc : Nat} {lsR : Array Slot} {st0 rest : List Value} (hr : va_Run p l e R s m args below meth c H locs cells slots 0 0 (F0 m pc lsR st0) rest (z_Qs v H a) zN) (kk : W p l e R s m args below meth c H locs cells slots Q (F0 m (pc + 3) lsR (v.toList ++ rest))) : W p l e R s m args below meth c H locs cells slots Q (F0 m pc lsR st0) := by
  intro T hT X
  obtain ⟨v', st₀, t, T', L, h0, X', hL, e1, e2, ⟨hv, hh⟩, st⟩ := hr T hT X
  cases hv
  have hL0 : L = [] := by
    cases L with
    | nil => rfl
    | cons a b => exact (hL a List.mem_cons_self).elim
  subst hL0
  rw [List.append_nil] at X'
  obtain ⟨t2, a1, b1⟩ := kk T' (e1.trans hh) X'
  exact ⟨t2, st t2 a1, b1⟩
end IM1
theorem s_cod (l : Launch) (q : Nat) (Hh : Heap) : Met l n_cod (.code n_cod prog_17_method_152_code 1 (some .byte) :: z_all) (z_r0 0) (z_Ps [.ref q] Hh q) (z_Qs (some (.int 0)) Hh) 0 0 zN := by
  refine va_MetF (cc := prog_17_method_152_code) (maxL := 1) (ret := some .byte) (by decide +kernel) rfl ?_
  intro p e s m args below meth c s₁ B hml hv
  obtain ⟨rfl, hh, hSS⟩ := hv
  have hx := B.exec
  have hb := B.bytes
  have hr := B.returns
  have hts0 := atoms_spec (ws := .code n_cod prog_17_method_152_code 1 (some .byte) :: z_all) B.pre
  have hts : ∀ w ∈ z_all, w.before ([Value.ref q] : List Value).toArray s = true := fun w hw => hts0 w (List.mem_cons_of_mem _ hw)
  have hown : s.vm.findClass "java/lang/String" = some m.cls := findClass_of_methodNamed B.named
  have hlocks := B.notSynchronized
  subst hh
  have hS : va_S zN s.heap s.heap [] := va_S.rf
  obtain ⟨⟨adK, adV, hk0, vk⟩, hZ, hZq⟩ := hSS
  have v0 := vk.1 0 (by decide)
  rw [hk0] at v0
  have hl := lv_entry ([.ref q]) (n := 1) (Nat.le_of_ble_eq_true rfl)
  rw [lg_entry_eq]
  generalize (lg_sl ([.ref q]) ++ List.replicate (1 - (lg_sl ([.ref q])).length) Slot.unset).toArray = ls at hl ⊢
  have hl : lv_has ls 1 [(0, .ref q)] := hl
  refine va_gets hx hb hZ hS hown (hts _ (z_sI 8 rfl)) (fun x h => h) ds_cod_0 ?_
  refine lv_if_eq (tgt := 13) hx hb ds_cod_3 (by decide) (fun z => absurd z (by decide)) (fun _ => ?_)
  refine lv_aload_n hx hb ds_cod_6 rfl (lv_at hl 0 rfl) ?_
  refine vk_getf hx hb v0.2.1 hS hown (hts _ (z_sI 23 rfl)) (fun x h => h) ds_cod_7 ?_
  refine lv_goto (tgt := 14) hx hb ds_cod_10 (by decide) ?_
  exact W.zret hx hb hr (by decide) (fun t ht hW => ⟨rfl, ht⟩) (fun q h => by cases h) ds_cod_14
theorem s_lat (l : Launch) (q : Nat) (Hh : Heap) : Met l n_lat (.code n_lat prog_17_method_154_code 1 (some .boolean) :: z_all) (z_r0 0) (z_Ps [.ref q] Hh q) (z_Qs (some (.int 1)) Hh) 0 0 zN := by
  refine va_MetF (cc := prog_17_method_154_code) (maxL := 1) (ret := some .boolean) (by decide +kernel) rfl ?_
  intro p e s m args below meth c s₁ B hml hv
  obtain ⟨rfl, hh, hSS⟩ := hv
  have hx := B.exec
  have hb := B.bytes
  have hr := B.returns
  have hts0 := atoms_spec (ws := .code n_lat prog_17_method_154_code 1 (some .boolean) :: z_all) B.pre
  have hts : ∀ w ∈ z_all, w.before ([Value.ref q] : List Value).toArray s = true := fun w hw => hts0 w (List.mem_cons_of_mem _ hw)
  have hown : s.vm.findClass "java/lang/String" = some m.cls := findClass_of_methodNamed B.named
  have hlocks := B.notSynchronized
  subst hh
  have hS : va_S zN s.heap s.heap [] := va_S.rf
  obtain ⟨⟨adK, adV, hk0, vk⟩, hZ, hZq⟩ := hSS
  have v0 := vk.1 0 (by decide)
  rw [hk0] at v0
  have hl := lv_entry ([.ref q]) (n := 1) (Nat.le_of_ble_eq_true rfl)
  rw [lg_entry_eq]
  generalize (lg_sl ([.ref q]) ++ List.replicate (1 - (lg_sl ([.ref q])).length) Slot.unset).toArray = ls at hl ⊢
  have hl : lv_has ls 1 [(0, .ref q)] := hl
  refine va_gets hx hb hZ hS hown (hts _ (z_sI 8 rfl)) (fun x h => h) ds_lat_0 ?_
  refine lv_if_eq (tgt := 17) hx hb ds_lat_3 (by decide) (fun z => absurd z (by decide)) (fun _ => ?_)
  refine lv_aload_n hx hb ds_lat_6 rfl (lv_at hl 0 rfl) ?_
  refine vk_getf hx hb v0.2.1 hS hown (hts _ (z_sI 23 rfl)) (fun x h => h) ds_lat_7 ?_
  refine lv_if_ne (tgt := 17) hx hb ds_lat_10 (by decide) (fun z => absurd rfl z) (fun _ => ?_)
  refine lv_iconst (v := 1) hx hb ds_lat_13 (by decide) ?_
  refine lv_goto (tgt := 18) hx hb ds_lat_14 (by decide) ?_
  exact W.zret hx hb hr (by decide) (fun t ht hW => ⟨rfl, ht⟩) (fun q h => by cases h) ds_lat_18
theorem z_len_sh : Int32.ofNat z_tx.length >>> ((0 : Int32) &&& 31) = Int32.ofNat z_tx.length := by decide +kernel
theorem s_len (l : Launch) (q : Nat) (Hh : Heap) : Met l n_len (.code n_len prog_17_method_54_code 1 (some .int) :: z_all) (z_r0 1) (z_Ps [.ref q] Hh q) (z_Qs (some (.int (Int32.ofNat z_tx.length))) Hh) 0 0 zN := by
  refine va_MetF (cc := prog_17_method_54_code) (maxL := 1) (ret := some .int) (by decide +kernel) rfl ?_
  intro p e s m args below meth c s₁ B hml hv
  obtain ⟨rfl, hh, hSS⟩ := hv
  have hx := B.exec
  have hb := B.bytes
  have hr := B.returns
  have hts0 := atoms_spec (ws := .code n_len prog_17_method_54_code 1 (some .int) :: z_all) B.pre
  have hts : ∀ w ∈ z_all, w.before ([Value.ref q] : List Value).toArray s = true := fun w hw => hts0 w (List.mem_cons_of_mem _ hw)
  have hown : s.vm.findClass "java/lang/String" = some m.cls := findClass_of_methodNamed B.named
  have hlocks := B.notSynchronized
  subst hh
  have hS : va_S zN s.heap s.heap [] := va_S.rf
  have hSS0 := hSS
  obtain ⟨⟨adK, adV, hk0, vk⟩, hZ, hZq⟩ := hSS
  have v0 := vk.1 0 (by decide)
  rw [hk0] at v0
  have hT : va_T .byte (adV 0) z_tx.length (fun j => .int (z_bts.getD j 0)) zN s s.heap := by
    have h := v0.2.2.2
    simp only [List.getD_cons_zero] at h
    exact h
  have rv := vk_recv vk (show 0 < 1 by decide) hS
  rw [hk0] at rv
  have hl := lv_entry ([.ref q]) (n := 1) (Nat.le_of_ble_eq_true rfl)
  rw [lg_entry_eq]
  generalize (lg_sl ([.ref q]) ++ List.replicate (1 - (lg_sl ([.ref q])).length) Slot.unset).toArray = ls at hl ⊢
  have hl : lv_has ls 1 [(0, .ref q)] := hl
  refine lv_aload_n hx hb ds_len_0 rfl (lv_at hl 0 rfl) ?_
  refine vk_getf hx hb v0.2.2.1 hS hown (hts _ (z_sI 22 rfl)) (fun x h => h) ds_len_1 ?_
  refine va_tlen (v := Int32.ofNat z_tx.length) hx hb hT hS rfl ds_len_4 ?_
  refine lv_aload_n hx hb ds_len_5 rfl (lv_at hl 0 rfl) ?_
  refine z_cont0 (va_runV (C := "java/lang/String") (b := q) (As := []) (rest := [.int (Int32.ofNat z_tx.length)]) ⟨hx, hb, hml, hown, hts⟩ (s_cod l q s.heap) ⟨callB_of 0 hts (z_goodS (z_sI 25 rfl)) rfl rfl rfl (hts _ (z_sI 0 rfl)) (hts _ (z_sI 5 rfl)) (by decide +kernel) ⟨Nat.le_of_ble_eq_true rfl, Nat.le_of_ble_eq_true rfl⟩, hts _ (z_sI 6 rfl), hts _ (z_sI 7 rfl)⟩ ⟨z_Ps_blind _ _ _, rv, fun U hU hW => ⟨rfl, hU, hSS0.moved hW.alike⟩⟩ rfl rfl hl.1 rfl (lv_room (by decide)) ds_len_6 ⟨Nat.zero_le _, Nat.zero_le _⟩) ?_
  refine lv_ishr hx hb ds_len_9 ?_
  rw [z_len_sh]
  exact W.iret hx hb hr (fun t ht hW => ⟨rfl, ht⟩) (fun q h => by cases h) ds_len_10
theorem s_pre (l : Launch) (q : Nat) (Hh : Heap) (k n : Int32) (v : Value) (h0 : ¬ k < 0) (hk : k < n) : Met l n_pre (.code n_pre prog_22_method_11_code 3 (some .int) :: z_all) (z_r0 0) (z_Ps [.int k, .int n, v] Hh q) (z_Qs (some (.int k)) Hh) 0 0 zN := by
  refine va_MetF (cc := prog_22_method_11_code) (maxL := 3) (ret := some .int) (by decide +kernel) rfl ?_
  intro p e s m args below meth c s₁ B hml hv
  obtain ⟨rfl, hh, hSS⟩ := hv
  have hx := B.exec
  have hb := B.bytes
  have hr := B.returns
  have hlocks := B.notSynchronized
  subst hh
  rw [lg_entry_eq]
  have hl : ∃ ls, (lg_sl ([.int k, .int n, v]) ++ List.replicate (3 - (lg_sl ([.int k, .int n, v])).length) Slot.unset).toArray = ls ∧ ls[0]? = some (.val (.int k)) ∧ ls[1]? = some (.val (.int n)) := ⟨_, rfl, rfl, rfl⟩
  obtain ⟨ls, els, l0, l1⟩ := hl
  rw [els]
  refine lv_iload_n hx hb ds_pre_0 rfl l0 ?_
  refine lv_if_lt (tgt := 9) hx hb ds_pre_1 (by decide) (fun z => absurd z h0) (fun _ => ?_)
  refine lv_iload_n hx hb ds_pre_4 rfl l0 ?_
  refine lv_iload_n hx hb ds_pre_5 rfl l1 ?_
  refine lv_icmp_lt (tgt := 16) hx hb ds_pre_6 (by decide) (fun _ => ?_) (fun z => absurd hk z)
  refine lv_iload_n hx hb ds_pre_16 rfl l0 ?_
  exact W.iret hx hb hr (fun t ht hW => ⟨rfl, ht⟩) (fun q h => by cases h) ds_pre_17
theorem s_chk (l : Launch) (q : Nat) (Hh : Heap) (k n : Int32) (h0 : ¬ k < 0) (hk : k < n) : Met l n_chk (.code n_chk prog_17_method_155_code 2 none :: z_all) (z_r0 1) (z_Ps [.int k, .int n] Hh q) (z_Qs none Hh) 0 0 zN := by
  refine va_MetF (cc := prog_17_method_155_code) (maxL := 2) (ret := none) (by decide +kernel) rfl ?_
  intro p e s m args below meth c s₁ B hml hv
  obtain ⟨rfl, hh, hSS⟩ := hv
  have hx := B.exec
  have hb := B.bytes
  have hr := B.returns
  have hts0 := atoms_spec (ws := .code n_chk prog_17_method_155_code 2 none :: z_all) B.pre
  have hts : ∀ w ∈ z_all, w.before ([Value.int k, Value.int n] : List Value).toArray s = true := fun w hw => hts0 w (List.mem_cons_of_mem _ hw)
  have hown : s.vm.findClass "java/lang/String" = some m.cls := findClass_of_methodNamed B.named
  have hlocks := B.notSynchronized
  subst hh
  have hS : va_S zN s.heap s.heap [] := va_S.rf
  have hSS0 := hSS
  obtain ⟨_, hZ, hZq⟩ := hSS
  have hl := lv_entry ([.int k, .int n]) (n := 2) (Nat.le_of_ble_eq_true rfl)
  rw [lg_entry_eq]
  generalize (lg_sl ([.int k, .int n]) ++ List.replicate (2 - (lg_sl ([.int k, .int n])).length) Slot.unset).toArray = ls at hl ⊢
  have hl : lv_has ls 2 [(0, .int k), (1, .int n)] := hl
  refine lv_iload_n hx hb ds_chk_0 rfl (lv_at hl 0 rfl) ?_
  refine lv_iload_n hx hb ds_chk_1 rfl (lv_at hl 1 rfl) ?_
  have go : ∀ v : Value, v.category = 1 → W p l e (headSpec (.code n_chk prog_17_method_155_code 2 none :: z_all) (z_r0 1)).room s m ([Value.int k, Value.int n] : List Value).toArray below meth c s.heap [] 0 0 (MQ below (z_Qs none s.heap) ([Value.int k, Value.int n] : List Value).toArray s 0 0 zN) (F0 m 5 ls [v, .int n, .int k]) := fun v hv => by
    refine z_cont0 (va_runS (As := [.int k, .int n, v]) (rest := []) ⟨hx, hb, hml, hown, hts⟩ (s_pre l q s.heap k n v h0 hk) ⟨callB_of 3 hts (z_goodS (z_sI 30 rfl)) rfl rfl rfl (hts _ (z_sI 2 rfl)) (hts _ (z_sI 19 rfl)) (by decide +kernel) ⟨Nat.le_of_ble_eq_true rfl, Nat.le_of_ble_eq_true rfl⟩, hts _ (z_sI 20 rfl)⟩ ⟨z_Ps_blind _ _ _, fun U hU hW => ⟨rfl, hU, hSS0.moved hW.alike⟩⟩ rfl rfl hl.1 rfl (lv_room (by decide)) ds_chk_5 ⟨Nat.zero_le _, Nat.zero_le _⟩) ?_
    refine lv_pop hx hb ds_chk_8 rfl ?_
    exact W.vret hx hb hr (fun t ht hW => ⟨rfl, ht⟩) (fun q h => by cases h) ds_chk_9
  rcases hZq with hZ0 | ⟨t, hZ1⟩
  · exact va_gets hx hb hZ0 hS hown (hts _ (z_sI 18 rfl)) (fun x h => h) ds_chk_2 (go .null rfl)
  · exact va_gets hx hb hZ1 hS hown (hts _ (z_sI 18 rfl)) (fun x h => h) ds_chk_2 (go (.ref t) rfl)
theorem z_tx_b : ∀ j, j < z_tx.length → ((Int32.ofNat (z_tx.getD j 0) &&& 255).toUInt32 % 65536).toInt32 = Int32.ofNat (z_tx.getD j 0) ∧ narrow .char (.int (Int32.ofNat (z_tx.getD j 0))) = .int (Int32.ofNat (z_tx.getD j 0)) := by decide +kernel
theorem z_bts_at {j : Nat} : z_bts.getD j 0 = Int32.ofNat (z_tx.getD j 0) := by
  unfold z_bts
  rw [List.getD_eq_getElem?_getD, List.getD_eq_getElem?_getD, List.getElem?_map]
  cases z_tx[j]? <;> rfl
theorem s_l1c (l : Launch) (q t : Nat) (Hh : Heap) (k : Int32) (hk : z_in k z_tx.length) : Met l n_l1c (.code n_l1c prog_18_method_2_code 2 (some .char) :: z_all) (z_r0 2) (fun a U => a = ([.ref t, .int k] : List Value).toArray ∧ U.heap = Hh ∧ z_SS q zN U Hh ∧ va_T .byte t z_tx.length (fun j => .int (z_bts.getD j 0)) zN U Hh) (z_Qs (some (.int (Int32.ofNat (z_tx.getD k.toNatClampNeg 0)))) Hh) 0 0 zN := by
  refine va_MetF (cc := prog_18_method_2_code) (maxL := 2) (ret := some .char) (by decide +kernel) rfl ?_
  intro p e s m args below meth c s₁ B hml hv
  obtain ⟨rfl, hh, hSS, hT⟩ := hv
  have hx := B.exec
  have hb := B.bytes
  have hr := B.returns
  have hts0 := atoms_spec (ws := .code n_l1c prog_18_method_2_code 2 (some .char) :: z_all) B.pre
  have hts : ∀ w ∈ z_all, w.before ([Value.ref t, Value.int k] : List Value).toArray s = true := fun w hw => hts0 w (List.mem_cons_of_mem _ hw)
  have hown : s.vm.findClass "java/lang/StringLatin1" = some m.cls := findClass_of_methodNamed B.named
  have hlocks := B.notSynchronized
  subst hh
  have hS : va_S zN s.heap s.heap [] := va_S.rf
  have h0 : ¬ k < 0 := fun z => hk (Or.inl z)
  have hlt : k.toNatClampNeg < z_tx.length := Nat.not_le.mp fun z => hk (Or.inr z)
  have hkn : k < Int32.ofNat z_tx.length := by
    obtain ⟨j, hj, rfl⟩ := nI_of h0
    rw [nI_clamp (by omega)] at hlt
    exact nI_lt hlt (by decide +kernel)
  have hl := lv_entry ([.ref t, .int k]) (n := 2) (Nat.le_of_ble_eq_true rfl)
  rw [lg_entry_eq]
  generalize (lg_sl ([.ref t, .int k]) ++ List.replicate (2 - (lg_sl ([.ref t, .int k])).length) Slot.unset).toArray = ls at hl ⊢
  have hl : lv_has ls 2 [(0, .ref t), (1, .int k)] := hl
  refine lv_iload_n hx hb ds_l1c_0 rfl (lv_at hl 1 rfl) ?_
  refine lv_aload_n hx hb ds_l1c_1 rfl (lv_at hl 0 rfl) ?_
  refine va_tlen (v := Int32.ofNat z_tx.length) hx hb hT hS rfl ds_l1c_2 ?_
  refine z_cont0 (va_runS (As := [.int k, .int (Int32.ofNat z_tx.length)]) (rest := []) ⟨hx, hb, hml, hown, hts⟩ (s_chk l q s.heap k (Int32.ofNat z_tx.length) h0 hkn) ⟨callB_of 2 hts (z_goodS (z_sI 29 rfl)) rfl rfl rfl (hts _ (z_sI 0 rfl)) (hts _ (z_sI 16 rfl)) (by decide +kernel) ⟨Nat.le_of_ble_eq_true rfl, Nat.le_of_ble_eq_true rfl⟩, hts _ (z_sI 17 rfl)⟩ ⟨z_Ps_blind _ _ _, fun U hU hW => ⟨rfl, hU, hSS.moved hW.alike⟩⟩ rfl rfl hl.1 rfl (lv_room (by decide)) ds_l1c_3 ⟨Nat.zero_le _, Nat.zero_le _⟩) ?_
  refine lv_aload_n hx hb ds_l1c_6 rfl (lv_at hl 0 rfl) ?_
  refine lv_iload_n hx hb ds_l1c_7 rfl (lv_at hl 1 rfl) ?_
  refine va_tb (v := .int (Int32.ofNat (z_tx.getD k.toNatClampNeg 0))) hx hb hT hS hk (by rw [z_bts_at]) ds_l1c_8 ?_
  refine lv_sipush (v := 255) hx hb ds_l1c_9 (by decide) ?_
  refine lv_iand hx hb ds_l1c_12 ?_
  refine lv_i2c hx hb ds_l1c_13 (z_tx_b _ hlt).1 ?_
  exact W.zret hx hb hr (z_tx_b _ hlt).2 (fun t ht hW => ⟨rfl, ht⟩) (fun q h => by cases h) ds_l1c_14
theorem s_cha (l : Launch) (q : Nat) (Hh : Heap) (k : Int32) (hk : z_in k z_tx.length) : Met l n_cha (.code n_cha prog_17_method_56_code 2 (some .char) :: z_all) (z_r0 3) (z_Ps [.ref q, .int k] Hh q) (z_Qs (some (.int (Int32.ofNat (z_tx.getD k.toNatClampNeg 0)))) Hh) 0 0 zN := by
  refine va_MetF (cc := prog_17_method_56_code) (maxL := 2) (ret := some .char) (by decide +kernel) rfl ?_
  intro p e s m args below meth c s₁ B hml hv
  obtain ⟨rfl, hh, hSS⟩ := hv
  have hx := B.exec
  have hb := B.bytes
  have hr := B.returns
  have hts0 := atoms_spec (ws := .code n_cha prog_17_method_56_code 2 (some .char) :: z_all) B.pre
  have hts : ∀ w ∈ z_all, w.before ([Value.ref q, Value.int k] : List Value).toArray s = true := fun w hw => hts0 w (List.mem_cons_of_mem _ hw)
  have hown : s.vm.findClass "java/lang/String" = some m.cls := findClass_of_methodNamed B.named
  have hlocks := B.notSynchronized
  subst hh
  have hS : va_S zN s.heap s.heap [] := va_S.rf
  have hSS0 := hSS
  obtain ⟨⟨adK, adV, hk0, vk⟩, hZ, hZq⟩ := hSS
  have v0 := vk.1 0 (by decide)
  rw [hk0] at v0
  have hT : va_T .byte (adV 0) z_tx.length (fun j => .int (z_bts.getD j 0)) zN s s.heap := by
    have h := v0.2.2.2
    simp only [List.getD_cons_zero] at h
    exact h
  have rv := vk_recv vk (show 0 < 1 by decide) hS
  rw [hk0] at rv
  have hlt : k.toNatClampNeg < z_tx.length := Nat.not_le.mp fun z => hk (Or.inr z)
  have hl := lv_entry ([.ref q, .int k]) (n := 2) (Nat.le_of_ble_eq_true rfl)
  rw [lg_entry_eq]
  generalize (lg_sl ([.ref q, .int k]) ++ List.replicate (2 - (lg_sl ([.ref q, .int k])).length) Slot.unset).toArray = ls at hl ⊢
  have hl : lv_has ls 2 [(0, .ref q), (1, .int k)] := hl
  refine lv_aload_n hx hb ds_cha_0 rfl (lv_at hl 0 rfl) ?_
  refine z_cont0 (va_runV (C := "java/lang/String") (b := q) (As := []) (rest := []) ⟨hx, hb, hml, hown, hts⟩ (s_lat l q s.heap) ⟨callB_of 0 hts (z_goodS (z_sI 27 rfl)) rfl rfl rfl (hts _ (z_sI 0 rfl)) (hts _ (z_sI 11 rfl)) (by decide +kernel) ⟨Nat.le_of_ble_eq_true rfl, Nat.le_of_ble_eq_true rfl⟩, hts _ (z_sI 12 rfl), hts _ (z_sI 13 rfl)⟩ ⟨z_Ps_blind _ _ _, rv, fun U hU hW => ⟨rfl, hU, hSS0.moved hW.alike⟩⟩ rfl rfl hl.1 rfl (lv_room (by decide)) ds_cha_1 ⟨Nat.zero_le _, Nat.zero_le _⟩) ?_
  refine lv_if_eq (tgt := 16) hx hb ds_cha_4 (by decide) (fun z => absurd z (by decide)) (fun _ => ?_)
  refine lv_aload_n hx hb ds_cha_7 rfl (lv_at hl 0 rfl) ?_
  refine vk_getf hx hb v0.2.2.1 hS hown (hts _ (z_sI 22 rfl)) (fun x h => h) ds_cha_8 ?_
  refine lv_iload_n hx hb ds_cha_11 rfl (lv_at hl 1 rfl) ?_
  refine z_cont0 (va_runS (As := [.ref (adV 0), .int k]) (rest := []) ⟨hx, hb, hml, hown, hts⟩ (s_l1c l q (adV 0) s.heap k hk) ⟨callB_of 2 hts (z_goodS (z_sI 28 rfl)) rfl rfl rfl (hts _ (z_sI 1 rfl)) (hts _ (z_sI 14 rfl)) (by decide +kernel) ⟨Nat.le_of_ble_eq_true rfl, Nat.le_of_ble_eq_true rfl⟩, hts _ (z_sI 15 rfl)⟩ ⟨fun a U g mk h => ⟨h.1, h.2.1, h.2.2.1.moved (U := U.calling g mk a) (Vm.Alike.refl U.vm), h.2.2.2.moved (U := U.calling g mk a) (Vm.Alike.refl U.vm)⟩, fun U hU hW => ⟨rfl, hU, hSS0.moved hW.alike, hT.moved hW.alike⟩⟩ rfl rfl hl.1 rfl (lv_room (by decide)) ds_cha_12 ⟨Nat.zero_le _, Nat.zero_le _⟩) ?_
  exact W.zret hx hb hr (z_tx_b _ hlt).2 (fun t ht hW => ⟨rfl, ht⟩) (fun q h => by cases h) ds_cha_15
theorem z_strL : z_StrL := by
  intro p l e R s m args below meth c H locs cells slots Q cc pc q lsR rest A H0 idx hx hb hml hown hts hSS hS hR1 hR2 hcl hsl hrest hd hlk kk
  have hSH : z_SS q zN s H := (hSS.kept hS.2.1).narrow (fun _ h => h.elim)
  have rv : ∃ cell : Cell, H[q]? = some cell ∧ cell.vm.isStatics = false ∧ s.vm.findClass "java/lang/String" = some cell.cls := by
    obtain ⟨⟨adK, adV, hk0, vk⟩, _⟩ := hSH
    obtain ⟨cell, h1, h2, h3, -⟩ := (vk.1 0 (by decide)).1
    rw [hk0] at h1
    exact ⟨cell, h1, h2, h3⟩
  exact z_cont0 (va_runV (C := "java/lang/String") (b := q) (As := []) (rest := rest) ⟨hx, hb, hml, hown, hts⟩ (s_len l q H) ⟨callB_of 0 hts (z_goodS (z_sI 24 rfl)) rfl rfl rfl (hts _ (z_sI 0 rfl)) hlk (by decide +kernel) ⟨by show 1 + 1 ≤ R.frames; omega, by show 8 + (1 + 11) + 64 ≤ R.locals; omega⟩, hts _ (z_sI 3 rfl), hts _ (z_sI 4 rfl)⟩ ⟨z_Ps_blind _ _ _, rv, fun U hU hW => ⟨rfl, hU, hSH.moved hW.alike⟩⟩ rfl rfl rfl rfl (lv_room hrest) hd ⟨hcl, hsl⟩) kk
theorem z_strC : z_StrC := by
  intro p l e R s m args below meth c H locs cells slots Q cc pc q lsR rest A H0 idx k hx hb hml hown hts hSS hS hR1 hR2 hcl hsl hrest hd hlk hin kk
  have hSH : z_SS q zN s H := (hSS.kept hS.2.1).narrow (fun _ h => h.elim)
  have rv : ∃ cell : Cell, H[q]? = some cell ∧ cell.vm.isStatics = false ∧ s.vm.findClass "java/lang/String" = some cell.cls := by
    obtain ⟨⟨adK, adV, hk0, vk⟩, _⟩ := hSH
    obtain ⟨cell, h1, h2, h3, -⟩ := (vk.1 0 (by decide)).1
    rw [hk0] at h1
    exact ⟨cell, h1, h2, h3⟩
  exact z_cont0 (va_runV (C := "java/lang/String") (b := q) (As := [.int k]) (rest := rest) ⟨hx, hb, hml, hown, hts⟩ (s_cha l q H k hin) ⟨callB_of 1 hts (z_goodS (z_sI 26 rfl)) rfl rfl rfl (hts _ (z_sI 0 rfl)) hlk (by decide +kernel) ⟨by show 3 + 1 ≤ R.frames; omega, by show 8 + (2 + 11) + 64 * 3 ≤ R.locals; omega⟩, hts _ (z_sI 9 rfl), hts _ (z_sI 10 rfl)⟩ ⟨z_Ps_blind _ _ _, rv, fun U hU hW => ⟨rfl, hU, hSH.moved hW.alike⟩⟩ rfl rfl rfl rfl (lv_room hrest) hd ⟨hcl, hsl⟩) kk
end IM
