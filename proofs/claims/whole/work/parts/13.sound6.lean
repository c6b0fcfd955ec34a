/-! SOUNDNESS 6: calls of the String constant's members, as they are asked for; the walk of a body. -/
section ZW6
variable {p : Program} {l : Launch} {e : Env} {R : Room} {s : State} {m : MethodId} {args : Array Value} {below : List Frame} {meth : Method} {c : Code} {H : Heap} {locs : List Loc} {cells slots : Nat} {Q : State → Prop}
/-- length() of the String constant, called in Words() -/
def z_StrL : Prop := ∀ (p : Program) (l : Launch) (e : Env) (R : Room) (s : State) (m : MethodId) (args : Array Value) (below : List Frame) (meth : Method) (c : Code) (H : Heap) (locs : List Loc) (cells slots : Nat) (Q : State → Prop) (cc : ByteArray) (pc q : Nat) (lsR : Array Slot) (rest : List Value) (A : Nat → Prop) (H0 : Heap) (idx : Nat),
  p.tables.exec = Jvm.exec → c.code = cc → c.maxLocals = lsR.size → s.vm.findClass "CuckooLodge$Words" = some m.cls → (∀ w ∈ z_all, w.before args s = true) → z_SS q A s H0 → va_S A H0 H locs → 8 ≤ R.frames → 512 ≤ R.locals → cells ≤ R.cells → slots ≤ R.slots → (rest.map fun v => v.category).sum ≤ 8 → decode cc pc = .ok (.invokevirtual idx, 3) → (Cond.methodLink "CuckooLodge$Words" idx ⟨"java/lang/String", "length", "()I"⟩).before args s = true →
  W p l e R s m args below meth c H locs cells slots Q (F0 m (pc + 3) lsR (.int (Int32.ofNat z_tx.length) :: rest)) → W p l e R s m args below meth c H locs cells slots Q (F0 m pc lsR (.ref q :: rest))
/-- charAt(k) -/
def z_StrC : Prop := ∀ (p : Program) (l : Launch) (e : Env) (R : Room) (s : State) (m : MethodId) (args : Array Value) (below : List Frame) (meth : Method) (c : Code) (H : Heap) (locs : List Loc) (cells slots : Nat) (Q : State → Prop) (cc : ByteArray) (pc q : Nat) (lsR : Array Slot) (rest : List Value) (A : Nat → Prop) (H0 : Heap) (idx : Nat) (k : Int32),
  p.tables.exec = Jvm.exec → c.code = cc → c.maxLocals = lsR.size → s.vm.findClass "CuckooLodge$Words" = some m.cls → (∀ w ∈ z_all, w.before args s = true) → z_SS q A s H0 → va_S A H0 H locs → 8 ≤ R.frames → 512 ≤ R.locals → cells ≤ R.cells → slots ≤ R.slots → (rest.map fun v => v.category).sum ≤ 8 → decode cc pc = .ok (.invokevirtual idx, 3) → (Cond.methodLink "CuckooLodge$Words" idx ⟨"java/lang/String", "charAt", "(I)C"⟩).before args s = true → z_in k z_tx.length →
  W p l e R s m args below meth c H locs cells slots Q (F0 m (pc + 3) lsR (.int (Int32.ofNat (z_tx.getD k.toNatClampNeg 0)) :: rest)) → W p l e R s m args below meth c H locs cells slots Q (F0 m pc lsR (.int k :: .ref q :: rest))
end ZW6
/-- a method's row of the table is right -/
def z_okM (x : Nat) : Bool := decide ((z_nm x).cls ≠ "java/lang/invoke/MethodHandle" ∧ (z_nm x).cls ≠ "java/lang/invoke/VarHandle" ∧ (parseMethodDescriptor (z_nm x).desc).map (fun d => d.parameters.length) = some (if z_stc x then z_na x else z_na x - 1)) &&
  (plainFor (z_nm x) && (decide (z_mL x ≤ 40 ∧ z_RO (z_ow x) = (z_nm x).cls ∧ z_ow x < 16) && (((z_stc x || decide (0 < z_na x ∧ z_ow x < 13)) && (!z_al x || decide ((z_nm x).name = "<init>" ∧ z_rt x = none ∧ z_rk x = 0))) &&
  decide (z_rk x = 0 ∧ z_rt x = none ∨ z_rk x = 1 ∧ z_rt x = some .int ∨ z_rk x = 2 ∧ z_rt x = some .long ∨ z_rk x = 3 ∧ z_rt x = some .boolean))))
theorem z_okT3 : ((List.range 282).all fun x => plainFor (z_nm x)) = true := by decide +kernel
theorem z_okM_all : ((List.range 282).all z_okM) = true := by decide +kernel
theorem z_okM_at {x : Nat} (h : x < 282) : ((z_nm x).cls ≠ "java/lang/invoke/MethodHandle" ∧ (z_nm x).cls ≠ "java/lang/invoke/VarHandle" ∧ (parseMethodDescriptor (z_nm x).desc).map (fun d => d.parameters.length) = some (if z_stc x then z_na x else z_na x - 1)) ∧ plainFor (z_nm x) = true ∧ (z_mL x ≤ 40 ∧ z_RO (z_ow x) = (z_nm x).cls ∧ z_ow x < 16) ∧ (z_stc x = false → 0 < z_na x ∧ z_ow x < 13) ∧ (z_al x = true → (z_nm x).name = "<init>" ∧ z_rt x = none ∧ z_rk x = 0) ∧ (z_rk x = 0 ∧ z_rt x = none ∨ z_rk x = 1 ∧ z_rt x = some .int ∨ z_rk x = 2 ∧ z_rt x = some .long ∨ z_rk x = 3 ∧ z_rt x = some .boolean) := by
  have h1 := List.all_eq_true.mp z_okM_all x (List.mem_range.mpr h)
  unfold z_okM at h1
  simp only [Bool.and_eq_true, decide_eq_true_eq, Bool.or_eq_true, Bool.not_eq_true'] at h1
  obtain ⟨a1, a2, a3, ⟨a4, a5⟩, a6⟩ := h1
  refine ⟨a1, a2, a3, fun hs => ?_, fun ha => ?_, a6⟩
  · rcases a4 with q | q
    · rw [hs] at q; cases q
    · exact q
  · rcases a5 with q | q
    · rw [ha] at q; cases q
    · exact q
section ZW7
variable {p : Program} {l : Launch} {e : Env} {R : Room} {s : State} {m : MethodId} {args : Array Value} {below : List Frame} {meth : Method} {c : Code} {H : Heap} {locs : List Loc} {cells slots : Nat} {Q : State → Prop}
variable {cc : ByteArray} {pc nL : Nat} {lsR : Array Slot} {rho : Nat → Nat} {b q : Nat} {D : va_G} {kA : Nat → Nat} {A : Nat → Prop} {S S1 : z_S} {r1 : Option Value}
theorem z_cont {mc ms : Nat} {st0 rest : List Value} {a : Array Value} (hr : va_Run p l e R s m args below meth c H locs cells slots mc ms (F0 m pc lsR st0) rest (z_Qc D kA rho H.size S S1 r1 a) (va_A (z_ws kA rho S) H.size)) (hS : va_S A s.heap H locs) (hF : ∀ a, va_A (z_ws kA rho S) H.size a → A a) (hK : va_K D z_cl [] s)
    (kk : ∀ (kA1 rho1 : Nat → Nat) (H1 : Heap) (locs1 : List Loc), (∀ c, c < z_sz S → rho1 c = rho c) → z_WR D kA1 rho1 A s.heap H1 locs1 S1 s → W p l e R s m args below meth c H1 locs1 (cells + mc) (slots + ms) Q (F0 m (pc + 3) lsR (r1.toList ++ rest))) : W p l e R s m args below meth c H locs cells slots Q (F0 m pc lsR st0) := by
  intro T hT X
  obtain ⟨v, st₀, t, T', L, h0, X', hL, e1, e2, ⟨hv, ⟨kA1, rho1, g1, g2, g3, g4, g5⟩, hz, hk⟩, st⟩ := hr T hT X
  cases hv
  rw [h0] at hz hk
  have hal : s.vm.Alike t.vm := by rw [← e2]; exact X'.warmed.alike
  have hS1 : va_S A s.heap T'.heap (locs ++ L) := by
    refine ⟨Nat.le_trans hS.1 (by rw [e1]; exact hz), fun a h1 h2 => ?_, fun a ha => ?_⟩
    · rw [e1, hk a (Nat.lt_of_lt_of_le h1 hS.1) (fun z => h2 (hF a z))]
      exact hS.2.1 a h1 h2
    · rcases List.mem_append.mp ha with h | h
      · exact hS.2.2 a h
      · exact hF _ (hL a h)
  obtain ⟨t2, a1, b1⟩ := kk kA1 rho1 T'.heap (locs ++ L) g1 ⟨hK, g2.moved hal.symm, by rw [e1]; exact g3, g4.weaken (fun _ u _ hu => hF u.1 hu), hS1, g5⟩ T' rfl X'
  exact ⟨t2, st t2 a1, b1⟩
theorem z_w7 {d : Nat} (HM : z_Met l d) {o : Nat} (ho : o < 17) (hx : p.tables.exec = Jvm.exec) (hb : c.code = cc) (hml : c.maxLocals = nL) (hown : s.vm.findClass (z_RO o) = some m.cls) (hts : ∀ w ∈ z_all, w.before args s = true)
    (hR1 : d + 9 ≤ R.frames) (hR2 : 64 * (d + 9) ≤ R.locals) (hA : ∀ a, s.heap.size ≤ a → A a) (hPF : z_PF q s) (hSS : z_SS q A s s.heap) (hWR : z_WR D kA rho A s.heap H locs S s) (hsz : lsR.size = nL)
    {i : Instr} {x y w : Nat} (hd : decode cc pc = .ok (i, 3)) (hok : z_okC o i x y w) (hx9 : x < 282) {st : List Value} (hlen : ¬ st.length < z_na x) (hwt : ¬ 8 < z_wt (st.drop (z_na x))) (hiv : z_iv i x = true) (hrc : ∀ mi, z_rc mi x (st.take (z_na x)).reverse S = true) (hcall : z_call (d + 1) x (st.take (z_na x)).reverse S = some (r1, S1))
    (hcells : cells + (z_sz S1 - z_sz S) ≤ R.cells) (hslots : slots + (z_sl S1 - z_sl S) ≤ R.slots)
    (kk : ∀ (kA1 rho1 : Nat → Nat) (H1 : Heap) (locs1 : List Loc), (∀ c, c < z_sz S → rho1 c = rho c) → z_WR D kA1 rho1 A s.heap H1 locs1 S1 s → W p l e R s m args below meth c H1 locs1 (cells + (z_sz S1 - z_sz S)) (slots + (z_sl S1 - z_sl S)) Q (F0 m (pc + 3) lsR (r1.toList ++ (st.drop (z_na x)).map (z_rv rho b q)))) : W p l e R s m args below meth c H locs cells slots Q (F0 m pc lsR (st.map (z_rv rho b q))) := by
  obtain ⟨hK, hKA, hP, hD, hS, hC⟩ := hWR
  obtain ⟨m1, m2, ⟨m3, m4, m5⟩, m6, m7, m8⟩ := z_okM_at hx9
  have hF : ∀ a, va_A (z_ws kA rho S) H.size a → A a := by
    intro a ha
    rcases ha with ⟨k, u, hk⟩ | ha
    · exact hD.2 k _ hk
    · exact hA a (Nat.le_trans hS.1 ha)
  generalize has : (st.take (z_na x)).reverse = as at hrc hcall
  have hst : st = as.reverse ++ st.drop (z_na x) := by rw [← has, List.reverse_reverse, List.take_append_drop]
  have hal : as.length = z_na x := by rw [← has, List.length_reverse, List.length_take]; omega
  generalize hrest : st.drop (z_na x) = rest at hst hwt kk
  have hmap : st.map (z_rv rho b q) = (as.map (z_rv rho b q)).reverse ++ rest.map (z_rv rho b q) := by rw [hst, List.map_append, List.map_reverse]
  have hrec : z_stc x = false → ∃ c0 as', as = .ref c0 :: as' ∧ c0 < z_sz S ∧ z_kd S c0 = z_ow x := by
    intro hs
    have h1 := hrc 0
    unfold z_rc at h1
    rw [if_neg (by rw [hs]; decide)] at h1
    match as, h1 with
    | .ref c0 :: as', h1 => exact ⟨c0, as', rfl, of_decide_eq_true h1⟩
  have HC := HM x as S S1 r1 hx9 hcall hC (fun hs => by obtain ⟨c0, as', h1, -⟩ := hrec hs; exact ⟨c0, as', h1⟩) hal D kA rho b q H.size
  have hPre : ∀ U : State, U.heap = H → s.WarmedH U.vm → z_Pc D kA rho b q H.size S as (as.map (z_rv rho b q)).toArray U := by
    intro U hU hW
    refine ⟨rfl, by rw [hU], va_K.moved hW.alike hK, hKA.moved hW.alike, by rw [hU]; exact hP, hD.weaken (fun _ _ _ _ => trivial), hC, hPF.warm hW, ?_⟩
    rw [hU]
    exact ((hSS.kept (H1 := H) (fun a h1 h2 => hS.2.1 a h1 h2)).narrow hF).moved hW.alike
  have hroom : (z_rm d (z_sz S1 - z_sz S) (z_sl S1 - z_sl S)).frames + 1 ≤ R.frames ∧ 8 + (z_mL x + 11) + (z_rm d (z_sz S1 - z_sz S) (z_sl S1 - z_sl S)).locals ≤ R.locals := by
    show d + 8 + 1 ≤ R.frames ∧ 8 + (z_mL x + 11) + 64 * (d + 8) ≤ R.locals
    omega
  have hwt2 : 2 * (F0 m pc lsR (st.map (z_rv rho b q))).monitorRoom + ((rest.map (z_rv rho b q)).map fun v => v.category).sum ≤ 8 := lv_room (by rw [z_wt_rv]; omega)
  have hini : (Cond.initialized (z_nm x).cls).before args s = true := hts _ (z_in_m hx9 _ (List.mem_cons_of_mem _ List.mem_cons_self))
  have hCF : CallFix p m c cc nL s args z_all (z_RO o) := ⟨hx, hb, hml, hown, hts⟩
  cases i with
  | invokestatic n =>
    have hs : z_stc x = true := hiv
    have hl : (Cond.methodLink (z_RO o) n (z_nm x)).before args s = true := by
      unfold z_okC at hok
      dsimp only at hok
      rw [if_neg (by omega)] at hok
      exact hts _ (z_in_l ho _ (List.mem_of_getElem? hok.2))
    have hstat : (Cond.static (z_nm x)).before args s = true := hts _ (z_in_m hx9 _ (by unfold z_wmi z_wmj; rw [if_pos hs]; exact List.mem_cons_of_mem _ (List.mem_cons_of_mem _ List.mem_cons_self)))
    rw [if_pos hs] at m1
    exact z_cont (va_runS (As := as.map (z_rv rho b q)) (rest := rest.map (z_rv rho b q)) hCF HC ⟨callB_of (z_na x) hts (z_goodM hx9) rfl rfl rfl hini hl m1 hroom, hstat⟩ ⟨z_Pc_blind D kA rho b q H.size S as, hPre⟩ rfl (by rw [List.length_map]; exact hal) hsz hmap hwt2 hd ⟨hcells, hslots⟩) hS hF hK kk
  | invokevirtual n =>
    have hs : z_stc x = false ∧ z_al x = false := by
      have h1 : (!z_stc x && !z_al x) = true := hiv
      simpa using h1
    obtain ⟨c0, as', rfl, hc0, hk0⟩ := hrec hs.1
    obtain ⟨m61, m62⟩ := m6 hs.1
    rw [if_neg (by rw [hs.1]; decide)] at m1
    have hl : (Cond.methodLink (z_RO o) n (z_nm x)).before args s = true := by
      unfold z_okC at hok
      dsimp only at hok
      rcases hok with h1 | h1 | h1
      · omega
      · omega
      · exact hts _ (z_in_l ho _ (List.mem_of_getElem? h1.2))
    have hinst : (Cond.instanceMethod (z_nm x)).before args s = true := hts _ (z_in_m hx9 _ (by unfold z_wmi z_wmj; rw [if_neg (by rw [hs.1]; decide), if_neg (by rw [hs.2]; decide)]; exact List.mem_cons_of_mem _ (List.mem_cons_of_mem _ List.mem_cons_self)))
    have hsel : (Cond.selects (z_nm x).cls (z_nm x) (z_nm x)).before args s = true := hts _ (z_in_m hx9 _ (by unfold z_wmi z_wmj; rw [if_neg (by rw [hs.1]; decide), if_neg (by rw [hs.2]; decide)]; exact List.mem_cons_of_mem _ (List.mem_cons_of_mem _ (List.mem_cons_of_mem _ List.mem_cons_self))))
    have he := z_ws_at (kA := kA) (rho := rho) hc0
    rw [z_E_ob (by omega), hk0] at he
    have hrv := va_recv hK hP (z_cl_at (z_ow x) m62) he
    have hlen2 : as'.length = z_na x - 1 := by rw [List.length_cons] at hal; omega
    exact z_cont (va_runV (C := (z_nm x).cls) (b := rho c0) (As := as'.map (z_rv rho b q)) (rest := rest.map (z_rv rho b q)) hCF HC ⟨callB_of (z_na x - 1) hts (z_goodM hx9) rfl rfl rfl hini hl m1 hroom, hinst, hsel⟩ ⟨z_Pc_blind D kA rho b q H.size S _, by rw [m4] at hrv; exact hrv, hPre⟩ rfl (by rw [List.length_map]; exact hlen2) hsz (by show st.map _ = _; rw [hmap]; simp [z_rv]) hwt2 hd ⟨hcells, hslots⟩) hS hF hK kk
  | invokespecial n =>
    have hs : z_stc x = false ∧ z_al x = true := by
      have h1 : (!z_stc x && z_al x) = true := hiv
      simpa using h1
    obtain ⟨c0, as', rfl, hc0, hk0⟩ := hrec hs.1
    obtain ⟨m61, m62⟩ := m6 hs.1
    obtain ⟨m71, m72, m73⟩ := m7 hs.2
    rw [if_neg (by rw [hs.1]; decide)] at m1
    have hinst : (Cond.instanceMethod (z_nm x)).before args s = true := hts _ (z_in_m hx9 _ (by unfold z_wmi z_wmj; rw [if_neg (by rw [hs.1]; decide), if_pos hs.2]; exact List.mem_cons_of_mem _ (List.mem_cons_of_mem _ List.mem_cons_self)))
    have hlen2 : as'.length = z_na x - 1 := by rw [List.length_cons] at hal; omega
    unfold z_okC at hok
    dsimp only at hok
    rw [if_neg (by omega)] at hok
    have hG := z_goodM hx9
    rw [m72] at HC hG
    by_cases hy : y = 1
    · rw [if_pos hy] at hok
      have hl := hPF.1 _ (List.mem_of_getElem? hok.2)
      exact z_cont (va_runIN (b := rho c0) (As := as'.map (z_rv rho b q)) (rest := rest.map (z_rv rho b q)) hCF HC ⟨va_cnB (z_na x - 1) hts hG rfl rfl rfl hl hini m1 hroom, m71, hinst⟩ ⟨z_Pc_blind D kA rho b q H.size S _, hPre⟩ rfl (by rw [List.length_map]; exact hlen2) hsz (by show st.map _ = _; rw [hmap]; simp [z_rv]) hwt2 hd ⟨hcells, hslots⟩) hS hF hK kk
    · rw [if_neg hy] at hok
      have hl : (Cond.methodLink (z_RO o) n (z_nm x)).before args s = true := hts _ (z_in_l ho _ (List.mem_of_getElem? hok.2))
      exact z_cont (va_runI (b := rho c0) (As := as'.map (z_rv rho b q)) (rest := rest.map (z_rv rho b q)) hCF HC ⟨callB_of (z_na x - 1) hts hG rfl rfl rfl hini hl m1 hroom, m71, hinst⟩ ⟨z_Pc_blind D kA rho b q H.size S _, hPre⟩ rfl (by rw [List.length_map]; exact hlen2) hsz (by show st.map _ = _; rw [hmap]; simp [z_rv]) hwt2 hd ⟨hcells, hslots⟩) hS hF hK kk
  | _ => cases hiv
end ZW7
