/-! THE START: what the Statement gives, as the walk wants it. -/
section IN
theorem lw_w (j k : Nat) {w : Cond} (h : (z_tb j)[k]? = some w) : w ∈ lw_tbl := z_tb_in j _ (List.mem_of_getElem? h)
set_option maxRecDepth 20000 in
theorem y_w1 : (z_tb 1)[32]? = some (Jvm.Cond.methodLinkNest "CuckooLodge" (19 : Nat) ({ cls := "CuckooLodge$Plan", name := "<init>", desc := "()V" } : Jvm.MethodName) "CuckooLodge") := rfl
set_option maxRecDepth 20000 in
theorem y_w2 : (z_tb 2)[12]? = some (Jvm.Cond.methodLinkNest "CuckooLodge$House" (11 : Nat) ({ cls := "CuckooLodge$Reckoner", name := "<init>", desc := "()V" } : Jvm.MethodName) "CuckooLodge") := rfl
set_option maxRecDepth 20000 in
theorem y_w3 : (z_tb 2)[121]? = some (Jvm.Cond.methodLinkNest "CuckooLodge" (55 : Nat) ({ cls := "CuckooLodge$Kept", name := "<init>", desc := "()V" } : Jvm.MethodName) "CuckooLodge") := rfl
set_option maxRecDepth 20000 in
theorem y_w4 : (z_tb 2)[147]? = some (Jvm.Cond.methodLinkNest "CuckooLodge$Past" (31 : Nat) ({ cls := "CuckooLodge$Kept", name := "<init>", desc := "()V" } : Jvm.MethodName) "CuckooLodge") := rfl
set_option maxRecDepth 20000 in
theorem y_w5 : (z_tb 2)[205]? = some (Jvm.Cond.methodLinkNest "CuckooLodge" (76 : Nat) ({ cls := "CuckooLodge$Beds", name := "<init>", desc := "()V" } : Jvm.MethodName) "CuckooLodge") := rfl
set_option maxRecDepth 20000 in
theorem y_w6 : (z_tb 2)[230]? = some (Jvm.Cond.methodLinkNest "CuckooLodge" (83 : Nat) ({ cls := "CuckooLodge$Image", name := "<init>", desc := "()V" } : Jvm.MethodName) "CuckooLodge") := rfl
set_option maxRecDepth 20000 in
theorem y_w7 : (z_tb 2)[143]? = some (Jvm.Cond.arrayOver (Jvm.ClassFile.FieldType.object "CuckooLodge$State")) := rfl
set_option maxRecDepth 20000 in
theorem y_w8 : (z_tb 2)[145]? = some (Jvm.Cond.arrayOver (Jvm.ClassFile.FieldType.object "CuckooLodge$Kept")) := rfl
set_option maxRecDepth 20000 in
theorem y_w9 : (z_tb 1)[143]? = some (Jvm.Cond.stringRef "CuckooLodge$Words" (40 : Nat) z_txt) := rfl
set_option maxRecDepth 20000 in
theorem y_w10 : (z_tb 1)[153]? = some (Jvm.Cond.laysStatic "java/lang/String" "COMPACT_STRINGS" "Z") := rfl
set_option maxRecDepth 20000 in
theorem y_w11 : (z_tb 1)[169]? = some (Jvm.Cond.laysStatic "jdk/internal/util/Preconditions" "SIOOBE_FORMATTER" "Ljava/util/function/BiFunction;") := rfl
theorem y_el : ∀ j, j < 124 → (Cond.eq (.elem (.field (.string "CuckooLodge$Words" 40) "java/lang/String" "value" "[B") (.int (Int32.ofNat j))) (.int (z_bts.getD j 0))) ∈ flatC (Jvm.Cond.and given_1 narrow_1) := by decide +kernel
theorem y_tl : z_tx.length = 124 := by decide +kernel
/-- the String constant, the statics, the nest's links -/
theorem y_pf {s : State} {b : Nat} {A : Nat → Prop} (hts : ∀ w ∈ lw_tbl, w.before #[Value.ref b] s = true) (hgv : (Jvm.Cond.and given_1 narrow_1).before #[Value.ref b] s = true) (hA : ∀ a : Nat, a < s.heap.size → ¬ A a) : ∃ q, z_PF q s ∧ z_SS q A s s.heap := by
  have hs := flat_of_before _ hgv
  have htz : ∀ w ∈ z_all, w.before #[Value.ref b] s = true := fun w h => hts w (z_good w h).1
  obtain ⟨adK, adV, vk, ev⟩ := vk_Sof (args := #[Value.ref b]) (s := s) (N := 1) (tm := fun _ => .string "CuckooLodge$Words" 40) (len := [z_tx.length]) (byt := [z_bts]) (A := A)
    (fun i hi => by
      obtain rfl : i = 0 := by omega
      rw [List.getD_cons_zero, y_tl]; decide)
    (fun i hi => hs _ (by decide +kernel)) (fun i hi => hs _ (by decide +kernel)) (fun i hi => hs _ (by decide +kernel))
    (fun i hi => by
      obtain rfl : i = 0 := by omega
      rw [List.getD_cons_zero, y_tl]
      exact hs _ (by decide +kernel))
    (fun i hi j hj => by
      obtain rfl : i = 0 := by omega
      rw [List.getD_cons_zero, y_tl] at hj
      rw [List.getD_cons_zero]
      exact hs _ (y_el j hj))
    (fun i j hi hj hij => absurd (show i = j by omega) hij) hA
  refine ⟨adK 0, ⟨fun u hu => ?_, va_AO.of (hts _ (lw_w _ _ y_w7)), va_AO.of (hts _ (lw_w _ _ y_w8)), vk_R.of (hts _ (lw_w _ _ y_w9)) (ev 0 (by decide))⟩, ⟨adK, adV, rfl, vk⟩, va_Zof (hts _ (lw_w _ _ y_w10)) (htz _ (z_sI 0 rfl)) (va_eqt (hs _ (by decide +kernel))) hA, va_Zqof (hts _ (lw_w _ _ y_w11)) (htz _ (z_sI 2 rfl)) (hs _ (by decide +kernel)) hA⟩
  simp only [z_nst, List.mem_cons, List.not_mem_nil, or_false] at hu
  rcases hu with rfl | rfl | rfl | rfl | rfl | rfl
  · exact va_Nw.of rfl (hts _ (lw_w _ _ y_w1))
  · exact va_Nw.of rfl (hts _ (lw_w _ _ y_w2))
  · exact va_Nw.of rfl (hts _ (lw_w _ _ y_w3))
  · exact va_Nw.of rfl (hts _ (lw_w _ _ y_w4))
  · exact va_Nw.of rfl (hts _ (lw_w _ _ y_w5))
  · exact va_Nw.of rfl (hts _ (lw_w _ _ y_w6))
/-- the classes are known -/
theorem y_kn {s : State} {b : Nat} (htz : ∀ w ∈ z_all, w.before #[Value.ref b] s = true) : ∃ D : va_G, va_K D z_cl [] s := by
  have one : ∀ x, x < 13 → ∃ (cC : ClassId) (iS : Nat → Nat), u_Kn s (z_RO x) (z_T x) (z_nf x) cC iS := fun x hx => u_known (ws := z_all) (n := z_nf x) htz (fun w hw => z_in_c hx w (List.mem_cons_of_mem _ (List.mem_cons_of_mem _ hw))) (htz _ (z_in_c hx _ List.mem_cons_self))
  obtain ⟨c0, i0, _⟩ := one 0 (by decide)
  have all : ∀ x : Nat, ∃ p : ClassId × (Nat → Nat), x < 13 → u_Kn s (z_RO x) (z_T x) (z_nf x) p.1 p.2 := fun x => by
    by_cases hx : x < 13
    · obtain ⟨c1, i1, h1⟩ := one x hx
      exact ⟨(c1, i1), fun _ => h1⟩
    · exact ⟨(c0, i0), fun h => absurd h hx⟩
  obtain ⟨f, hf⟩ := Classical.axiomOfChoice all
  refine ⟨(fun x => (f x).1, fun x => (f x).2), fun c q hq => ?_, fun k q h => by simp at h⟩
  have hc : c < 13 := by
    have := (List.getElem?_eq_some_iff.mp hq).1
    exact this
  have e := z_cl_at c hc
  rw [hq] at e
  cases e
  exact hf c hc
end IN
