/-! SOUNDNESS 7: the walk of a body; every method's contract, by depth. -/
theorem z_isT_gr {i : Instr} (h : z_isT i = true) : z_gr i = 3 := by
  cases i with
  | tableswitch a b c d => rfl
  | _ => cases h
theorem z_len_of {i : Instr} {n : Nat} (h : z_isT i = true ∨ z_len i = n) (hg : z_gr i ≠ 3) : z_len i = n := by
  rcases h with h | h
  · exact absurd (z_isT_gr h) hg
  · exact h
theorem z_len3 {i : Instr} {n : Nat} (h : z_isT i = true ∨ z_len i = n) : z_gr i = 3 → z_l3 i n := by
  intro hg
  cases i with
  | goto o => rcases h with h | h; cases h; exact h.symm
  | ifCond c o => rcases h with h | h; cases h; exact h.symm
  | if_icmp c o => rcases h with h | h; cases h; exact h.symm
  | tableswitch a b c d => trivial
  | _ => cases hg
theorem z_ps_some {rk : Nat} {r : Option Value} {st st' : List Value} {rho : Nat → Nat} {b q : Nat} (h : z_ps rk r st = some st') : st'.map (z_rv rho b q) = r.toList ++ st.map (z_rv rho b q) := by
  unfold z_ps at h
  split at h
  · split at h
    · cases h; rfl
    · cases h
  · split at h
    · cases h; rfl
    · cases h
  · split at h
    · cases h; rfl
    · cases h
  · cases h
theorem z_okC_lt {o : Nat} {i : Instr} {x y w : Nat} (hg : z_gr i = 7) (hx : ¬ 900 ≤ x) (h : z_okC o i x y w) : x < 282 := by
  cases i with
  | invokestatic n =>
    unfold z_okC at h
    dsimp only at h
    rw [if_neg (by omega)] at h
    exact h.1
  | invokevirtual n =>
    unfold z_okC at h
    dsimp only at h
    rcases h with h | h | h
    · omega
    · omega
    · exact h.1
  | invokespecial n =>
    unfold z_okC at h
    dsimp only at h
    rw [if_neg (by omega)] at h
    exact h.1
  | _ => cases hg
theorem z_len7 {i : Instr} (hg : z_gr i = 7) : z_len i = 3 := by
  cases i with
  | invokestatic n => rfl
  | invokevirtual n => rfl
  | invokespecial n => rfl
  | _ => cases hg
section ZB
variable {p : Program} {l : Launch} {e : Env} {R : Room} {s : State} {m : MethodId} {args : Array Value} {below : List Frame} {meth : Method} {c : Code} {Q : State → Prop}
variable {b q : Nat} {D : va_G} {A : Nat → Prop} {S0 S' : z_S} {r : Option Value} {rho0 : Nat → Nat} {X : Nat × (Nat → Int32)}
set_option maxHeartbeats 4000000 in
theorem z_body (hck : z_CK) (hSL : z_StrL) (hSC : z_StrC) {d : Nat} (HM : ∀ d', d = d' + 1 → z_Met l d') {mi : Nat} (hmi : mi < 283) (how : z_ow mi < 17)
    (hx : p.tables.exec = Jvm.exec) (hb : c.code = z_cc mi) (hml : c.maxLocals = z_mL mi) (hown : s.vm.findClass (z_RO (z_ow mi)) = some m.cls) (hts : ∀ w ∈ z_all, w.before args s = true) (hal : z_al mi = true → z_ow mi < 13 → meth.name = "<init>")
    (hR1 : d + 8 ≤ R.frames) (hR2 : 64 * (d + 8) ≤ R.locals) (hA : ∀ a, s.heap.size ≤ a → A a) (hX : 0 < X.1 → z_Xok X b A s s.heap) (hPF : z_PF q s) (hSS : z_SS q A s s.heap)
    (hRc : z_sz S' - z_sz S0 ≤ R.cells) (hRs : z_sl S' - z_sl S0 ≤ R.slots)
    (RET : ∀ (kA rho : Nat → Nat) (lsR : Array Slot) (H : Heap) (locs : List Loc) (pc : Nat) (i : Instr) (st : List Value), decode (z_cc mi) pc = .ok (i, 1) → z_re (z_rk mi) i st = some r → (∀ c, c < z_sz S0 → rho c = rho0 c) → z_WR D kA rho A s.heap H locs S' s → W p l e R s m args below meth c H locs (z_sz S' - z_sz S0) (z_sl S' - z_sl S0) Q (F0 m pc lsR (st.map (z_rv rho b q)))) :
    ∀ (n pc : Nat) (ls st : List Value) (S : z_S), z_run X (z_call d) mi n (pc, ls, st, S) = some (r, S') → z_le S0 S → ∀ (kA rho : Nat → Nat) (lsR : Array Slot) (H : Heap) (locs : List Loc), (∀ c, c < z_sz S0 → rho c = rho0 c) → z_LR rho b q lsR (z_mL mi) ls → z_WR D kA rho A s.heap H locs S s →
      W p l e R s m args below meth c H locs (z_sz S - z_sz S0) (z_sl S - z_sl S0) Q (F0 m pc lsR (st.map (z_rv rho b q))) := by
  intro n
  induction n with
  | zero => intro pc ls st S h; cases h
  | succ n ih =>
    intro pc ls st S h hle kA rho lsR H locs hrho hL hWR
    rw [z_run] at h
    split at h
    · cases h
    · rename_i q' hs
      cases h
      obtain ⟨e, hf, hex⟩ := z_st_ex hs
      have hrow := z_row hck hmi hf
      rcases z_ex_cases hex with ⟨r', h3, h4⟩ | ⟨c', h3, -⟩ | ⟨c', _, _, h3, -⟩ | ⟨c', _, _, _, h3, -⟩
      · cases h3
        have hlen : e.2.1 = 1 := by
          have h5 := hrow.2.1
          unfold z_re at h4
          split at h4
          · rename_i hi; rw [hi] at h5; rcases h5 with h5 | h5; cases h5; exact h5.symm
          · rename_i hi; rw [hi] at h5; rcases h5 with h5 | h5; cases h5; exact h5.symm
          · rename_i hi; rw [hi] at h5; rcases h5 with h5 | h5; cases h5; exact h5.symm
          · cases h4
        have hd := hrow.1
        rw [hlen] at hd
        exact RET kA rho lsR H locs pc e.1 st hd h4 hrho hWR
      · cases h3
      · cases h3
      · cases h3
    · rename_i c' hs
      obtain ⟨e, hf, hex⟩ := z_st_ex hs
      dsimp only at hf hex
      obtain ⟨hd, hlen, okK, okB, okF, okN, okC⟩ := z_row hck hmi hf
      have hL1 := hL.mk e.2.2.1
      have hmono := (z_run_le2 (fun x as S q h => z_call_le d x as S q h) n c' (r, S') h).1
      have hwl : ∀ w ∈ z_wl (z_ow mi), w ∈ z_all := z_in_l how
      have hin : ∀ x, x < 13 → ∀ w ∈ u_ws (z_RO x) (z_T x) (z_nf x), w ∈ z_all := fun x hx w hw => z_in_c hx w (List.mem_cons_of_mem _ (List.mem_cons_of_mem _ hw))
      unfold z_ex at hex
      split at hex
      · rename_i hg
        obtain ⟨st', h1, h2⟩ := Option.map_eq_some_iff.mp hex
        cases h2
        exact z_w0 hx hb hown (fun w hw => hts w (hwl w hw)) (fun _ => hPF.2.2.2) hd (z_len_of hlen (by omega)) okK h1 (ih _ _ _ _ h hle kA rho lsR H locs hrho hL1 hWR)
      · rename_i hg
        obtain ⟨st', h1, h2⟩ := Option.map_eq_some_iff.mp hex
        cases h2
        exact z_w1 hx hb hd (z_len_of hlen (by omega)) hL1 h1 (ih _ _ _ _ h hle kA rho lsR H locs hrho hL1 hWR)
      · rename_i hg
        obtain ⟨st', h1, h2⟩ := Option.map_eq_some_iff.mp hex
        cases h2
        exact z_w2 hx hb hd (z_len_of hlen (by omega)) hL1 h1 (fun lsR' hL' => ih _ _ _ _ h hle kA rho lsR' H locs hrho hL' hWR)
      · rename_i hg
        obtain ⟨st', h1, h2⟩ := Option.map_eq_some_iff.mp hex
        cases h2
        exact z_w3 hx hb hd (z_len3 hlen) hg okB h1 (ih _ _ _ _ h hle kA rho lsR H locs hrho hL1 hWR)
      · rename_i hg
        obtain ⟨st', h1, h2⟩ := Option.map_eq_some_iff.mp hex
        cases h2
        exact z_w4 hx hb hown hts hwl hin hX hd (z_len_of hlen (by omega)) okF hWR h1 (ih _ _ _ _ h hle kA rho lsR H locs hrho hL1 hWR)
      · rename_i hg
        obtain ⟨st', h1, h2⟩ := Option.map_eq_some_iff.mp hex
        cases h2
        have hkp := z_wr_kp h1
        refine z_w5 hx hb hown hts hwl hin hal hd (z_len_of hlen (by omega)) okF hWR h1 (fun H1 locs1 hW1 => ?_)
        have K := ih _ _ _ _ h ⟨Nat.le_trans hle.1 hkp.le.1, Nat.le_trans hle.2 hkp.le.2⟩ kA rho lsR H1 locs1 hrho hL1 hW1
        rw [hkp.1, hkp.sl] at K
        exact K
      · rename_i hg
        split at hex
        · obtain ⟨u, h1, h2⟩ := Option.bind_eq_some_iff.mp hex
          split at h2
          · rename_i hcl
            cases h2
            unfold z_clF at hcl
            rw [Bool.and_eq_true] at hcl
            have hs1 := hmono.1
            have hs2 := hmono.2
            dsimp only at hs1 hs2
            rw [z_sl_nw] at hs2
            have hs1' : z_sz S + 1 ≤ z_sz S' := hs1
            have hl1 := hle.1
            have hl2 := hle.2
            refine z_w6 hx hb hown hts hwl hin (fun x hx => ⟨z_in_c hx _ List.mem_cons_self, z_in_c hx _ (List.mem_cons_of_mem _ List.mem_cons_self)⟩) ⟨z_in_z _ (by decide), z_in_z _ (by decide), z_in_z _ (by decide)⟩ ⟨hPF.2.1, hPF.2.2.1⟩ hd (z_len_of hlen (by omega)) okN hWR hA h1 hcl.2 (by omega) (by omega) (fun kA1 rho1 H1 hag hW1 => ?_)
            have K := ih _ _ _ _ h ⟨Nat.le_trans hl1 (Nat.le_succ _), by rw [z_sl_nw]; omega⟩ kA1 rho1 lsR H1 locs (fun c hc => (hag c (Nat.lt_of_lt_of_le hc hl1)).trans (hrho c hc)) (hL1.re hag hcl.1) hW1
            rw [z_sl_nw, show z_sz (z_nw S u.1 u.2.1) = z_sz S + 1 from rfl, show z_sz S + 1 - z_sz S0 = z_sz S - z_sz S0 + 1 by omega, show z_sl S + u.2.1 - z_sl S0 = z_sl S - z_sl S0 + u.2.1 by omega] at K
            exact K
          · cases h2
        · cases hex
      · rename_i hg
        have hl3 : z_len e.1 = e.2.1 := z_len_of hlen (by omega)
        split at hex
        · obtain ⟨u, h1, h2⟩ := Option.map_eq_some_iff.mp hex
          cases h2
          have hkp := z_sp_kp h1
          have K := fun (kA1 : Nat → Nat) (H1 : Heap) (locs1 : List Loc) (hW1 : z_WR D kA1 rho A s.heap H1 locs1 u.2 s) => ih _ _ _ _ h ⟨Nat.le_trans hle.1 hkp.le.1, Nat.le_trans hle.2 hkp.le.2⟩ kA1 rho lsR H1 locs1 hrho hL1 hW1
          rw [hkp.1, hkp.sl] at K
          generalize hi : e.1 = i at *
          generalize hxx : e.2.2.2.2.1 = x at *
          rw [← hl3] at hd K
          have hsz : c.maxLocals = lsR.size := hml.trans hL.2.1.symm
          unfold z_sp at h1
          split at h1
          · rename_i h900
            subst h900
            split at h1
            · rename_i idx c0 r1
              split at h1
              · rename_i hw8
                cases h1
                unfold z_okC at okC
                dsimp only at okC
                rw [if_pos rfl] at okC
                have h8 : ((r1.map (z_rv rho b q)).map fun v => v.category).sum ≤ 8 := by rw [z_wt_rv]; exact hw8
                have hm0 : (F0 m pc lsR (List.map (z_rv rho b q) (Value.ref c0 :: r1))).monitorRoom = 0 := rfl
                refine W.objInit hx hb hown (hts _ (hwl _ (List.mem_of_getElem? okC))) (hts _ (z_in_z _ (by decide))) (hts _ (z_in_z _ (List.mem_of_getElem? (i := 4) rfl))) rfl hsz.symm rfl hd (by omega) (by omega) ?_
                exact K kA H locs hWR
              · cases h1
            · cases h1
          · split at h1
            · rename_i h900 h901
              subst h901
              cases i with
              | invokestatic idx =>
                unfold z_okC at okC
                dsimp only at okC
                rw [if_pos rfl] at okC
                refine z_w901 (r := u) hx hb hsz hown (hts _ (hwl _ (List.mem_of_getElem? okC))) (hts _ (z_in_z _ (by decide))) (hts _ (z_in_z _ (by decide))) (hts _ (z_in_z _ (by decide))) hd hWR (by omega) (by omega) ?_ (fun H1 locs1 hW1 => K kA H1 locs1 hW1)
                unfold z_sp
                rw [if_neg (by omega), if_pos rfl]
                exact h1
              | _ => cases h1
            · split at h1
              · rename_i h900 h901 h902
                subst h902
                split at h1
                · rename_i idx r1
                  split at h1
                  · rename_i hw8
                    cases h1
                    unfold z_okC at okC
                    dsimp only at okC
                    rcases okC with ⟨-, o1, o2⟩ | ⟨o0, -⟩ | ⟨o0, -⟩
                    · have hl := hts _ (hwl _ (List.mem_of_getElem? o2))
                      rw [o1] at hown hl
                      exact hSL p l _ R s m args below meth c H locs _ _ Q _ pc q lsR (r1.map (z_rv rho b q)) A s.heap idx hx hb hsz hown hts hSS hWR.2.2.2.2.1 (by omega) (by omega) (by have h5 := hmono.1; have h6 := hle.1; dsimp only at h5; omega) (by have h5 := hmono.2; have h6 := hle.2; dsimp only at h5; omega) (by rw [z_wt_rv]; exact hw8) hd hl (K kA H locs hWR)
                    · omega
                    · omega
                  · cases h1
                · cases h1
              · split at h1
                · rename_i h900 h901 h902 h903
                  subst h903
                  split at h1
                  · rename_i idx k r1
                    split at h1
                    · rename_i hw8
                      cases h1
                      unfold z_okC at okC
                      dsimp only at okC
                      rcases okC with ⟨o0, -⟩ | ⟨-, o1, o2⟩ | ⟨o0, -⟩
                      · omega
                      · have hl := hts _ (hwl _ (List.mem_of_getElem? o2))
                        rw [o1] at hown hl
                        exact hSC p l _ R s m args below meth c H locs _ _ Q _ pc q lsR (r1.map (z_rv rho b q)) A s.heap idx k hx hb hsz hown hts hSS hWR.2.2.2.2.1 (by omega) (by omega) (by have h5 := hmono.1; have h6 := hle.1; dsimp only at h5; omega) (by have h5 := hmono.2; have h6 := hle.2; dsimp only at h5; omega) (by rw [z_wt_rv]; exact hw8.1) hd hl hw8.2 (K kA H locs hWR)
                      · omega
                    · cases h1
                  · cases h1
                · cases h1
        · split at hex
          · cases hex
          · rename_i hx9 hlw
            split at hex
            · rename_i hgd
              obtain ⟨u, h1, h2⟩ := Option.bind_eq_some_iff.mp hex
              obtain ⟨st2, h3, h4⟩ := Option.map_eq_some_iff.mp h2
              cases h4
              obtain ⟨r1, S1⟩ := u
              dsimp only at h1 h3 hmono h
              simp only [Bool.and_eq_true, Bool.or_eq_true, Bool.not_eq_true'] at hgd
              obtain ⟨⟨hiv, hrc⟩, hgl⟩ := hgd
              cases d with
              | zero => cases h1
              | succ d =>
                have hx282 : e.2.2.2.2.1 < 282 := z_okC_lt hg hx9 okC
                have hlc := (z_call_le (d + 1) _ _ _ _ h1)
                have hl1 := hle.1
                have hl2 := hle.2
                have hm1 := hmono.1
                have hm2 := hmono.2
                have hc1 := hlc.1.1
                have hc2 := hlc.1.2
                dsimp only at hc1 hc2
                have h31 : e.2.1 = 3 := by rw [← hl3]; exact z_len7 hg
                rw [h31] at hd h
                refine z_w7 (HM d rfl) how hx hb hml hown hts (by omega) (by omega) hA hPF hSS hWR hL.2.1 hd okC hx282 (fun z => hlw (Or.inl z)) (fun z => hlw (Or.inr z)) hiv (fun mi' => hrc) h1 (by omega) (by omega) (fun kA1 rho1 H1 locs1 hag hW1 => ?_)
                have ec : z_sz S - z_sz S0 + (z_sz S1 - z_sz S) = z_sz S1 - z_sz S0 := by omega
                have es : z_sl S - z_sl S0 + (z_sl S1 - z_sl S) = z_sl S1 - z_sl S0 := by omega
                rw [ec, es]
                have hle1 : z_le S0 S1 := ⟨by omega, by omega⟩
                by_cases hax : z_al e.2.2.2.2.1 = false
                · have hkp := hlc.2 hax
                  have hW2 := hW1.re (rho1 := rho) (fun c hc => (hag c (by rw [← hkp.1]; exact hc)).symm)
                  have K := ih _ _ _ _ h hle1 kA1 rho lsR H1 locs1 hrho hL1 hW2
                  rw [z_ps_some h3] at K
                  exact K
                · rcases hgl with hgl | hgl
                  · exact absurd hgl hax
                  · have hcl := hgl.2
                    unfold z_clF at hcl
                    rw [Bool.and_eq_true] at hcl
                    have hcl2 : (st.drop (z_na e.2.2.2.2.1)).all (z_cl1 (z_sz S)) = true := List.all_eq_true.mpr (fun v hv => List.all_eq_true.mp hcl.2 v (List.mem_of_mem_drop hv))
                    have K := ih _ _ _ _ h hle1 kA1 rho1 lsR H1 locs1 (fun c hc => (hag c (Nat.lt_of_lt_of_le hc hl1)).trans (hrho c hc)) (hL1.re hag hcl.1) hW1
                    rw [z_ps_some h3, z_map_re hag hcl2] at K
                    exact K
            · cases hex
      · rename_i hg
        obtain ⟨u, h1, h2⟩ := Option.map_eq_some_iff.mp hex
        cases h2
end ZB
theorem z_re_real {rk : Nat} {i : Instr} {st : List Value} {r : Option Value} {rho : Nat → Nat} {b q : Nat} (h : z_re rk i st = some r) : (i = .ireturn ∧ ∃ v, st = [.int v] ∧ r = some (.int v) ∧ (rk = 1 ∨ rk = 3 ∧ (v = 0 ∨ v = 1))) ∨ (i = .lreturn ∧ ∃ v, st = [.long v] ∧ r = some (.long v) ∧ rk = 2) ∨ (i = .return_ ∧ st = [] ∧ r = none ∧ rk = 0) := by
  unfold z_re at h
  split at h
  · split at h
    · split at h
      · cases h; exact Or.inl ⟨rfl, _, rfl, rfl, ‹_›⟩
      · cases h
    · cases h
  · split at h
    · split at h
      · cases h; exact Or.inr (Or.inl ⟨rfl, _, rfl, rfl, ‹_›⟩)
      · cases h
    · cases h
  · split at h
    · split at h
      · cases h; exact Or.inr (Or.inr ⟨rfl, rfl, rfl, ‹_›⟩)
      · cases h
    · cases h
  · cases h
theorem z_met1 (hck : z_CK) (hSL : z_StrL) (hSC : z_StrC) (l : Launch) (d : Nat) (HM : ∀ d', d = d' + 1 → z_Met l d') : z_Met l d := by
  intro mi as S S' r hmi hcall hCL hrec hlen D kA rho b q sz
  obtain ⟨m1, m2, ⟨m3, m4, m5⟩, m6, m7, m8⟩ := z_okM_at hmi
  refine va_MetF (cc := z_cc mi) (maxL := z_mL mi) (ret := z_rt mi) m2 rfl ?_
  intro p e s m args below meth c s₁ B hml hv
  obtain ⟨rfl, hsz, hK, hKA, hP, hD0, hC, hPF, hSS⟩ := hv
  have hx := B.exec
  have hb := B.bytes
  have hr := B.returns
  have hts0 := atoms_spec (ws := .code (z_nm mi) (z_cc mi) (z_mL mi) (z_rt mi) :: z_all) B.pre
  have hts : ∀ w ∈ z_all, w.before (as.map (z_rv rho b q)).toArray s = true := fun w hw => hts0 w (List.mem_cons_of_mem _ hw)
  have hown : s.vm.findClass (z_RO (z_ow mi)) = some m.cls := by rw [m4]; exact findClass_of_methodNamed B.named
  have hlocks := B.notSynchronized
  subst hsz
  have hD := hD0.self (sz := s.heap.size)
  have ha : (z_args as).length ≤ z_mL mi := by
    by_cases ha : (z_args as).length ≤ z_mL mi
    · exact ha
    · have h0 : (if (z_args as).length ≤ z_mL mi then z_lim (fun n => z_run z_X0 (z_call d) mi n (0, z_en (z_mL mi) as, [], S)) else none) = some (r, S') := hcall
      rw [if_neg ha] at h0
      cases h0
  rw [z_call_ev ha] at hcall
  obtain ⟨n, hn⟩ := z_ev_some hcall
  rw [lg_entry_eq]
  have hL := z_LR.entry rho b q as ha
  have hS : va_S (va_A (z_ws kA rho S) s.heap.size) s.heap s.heap [] := va_S.rf
  have hA : ∀ a, s.heap.size ≤ a → va_A (z_ws kA rho S) s.heap.size a := fun a h => Or.inr h
  have K := z_body (p := p) (l := l) (e := e) (R := (headSpec (.code (z_nm mi) (z_cc mi) (z_mL mi) (z_rt mi) :: z_all) (z_rm d (z_sz S' - z_sz S) (z_sl S' - z_sl S))).room) (s := s) (m := m) (args := (as.map (z_rv rho b q)).toArray) (below := below) (meth := meth) (c := c) (b := b) (q := q) (D := D) (A := va_A (z_ws kA rho S) s.heap.size) (S0 := S) (S' := S') (r := r) (rho0 := rho) (X := z_X0)
    (Q := MQ below (z_Qc D kA rho s.heap.size S S' r) (as.map (z_rv rho b q)).toArray s (z_sz S' - z_sz S) (z_sl S' - z_sl S) (va_A (z_ws kA rho S) s.heap.size))
    hck hSL hSC HM (by omega) (by omega) hx hb hml hown hts (fun ha _ => by have h1 := (m7 ha).1; rw [← h1]; exact (name_of_methodNamed B.named B.method).1) (Nat.le_refl _) (Nat.le_refl _) hA (fun h => by cases h) hPF hSS (Nat.le_refl _) (Nat.le_refl _) ?_ n 0 (z_en (z_mL mi) as) [] S hn ⟨Nat.le_refl _, Nat.le_refl _⟩ kA rho _ s.heap [] (fun _ _ => rfl) hL ⟨hK, hKA, hP, hD, hS, hC⟩
  · rw [Nat.sub_self, Nat.sub_self] at K
    exact K
  · intro kA1 rho1 lsR H locs pc i st hd hre hag hW1
    obtain ⟨g1, g2, g3, g4, g5, g6⟩ := hW1
    have hq : ∀ t : State, t.heap = H → s.WarmedH t.vm → z_Qc D kA rho s.heap.size S S' r (as.map (z_rv rho b q)).toArray s (.returned r) t := by
      intro t ht hW
      exact ⟨rfl, ⟨kA1, rho1, hag, g2.moved hW.alike, by rw [ht]; exact g3, g4, g6⟩, g5.F ht⟩
    rcases z_re_real (rho := rho1) (b := b) (q := q) hre with ⟨rfl, v, rfl, rfl, h1⟩ | ⟨rfl, v, rfl, rfl, h1⟩ | ⟨rfl, rfl, rfl, h1⟩
    · rcases h1 with h1 | ⟨h1, h2⟩
      · have hrt : z_rt mi = some .int := by rcases m8 with h | h | h | h <;> first | exact h.2 | omega
        exact W.iret hx hb (by rw [hr, hrt]) hq g5.2.2 hd
      · have hrt : z_rt mi = some .boolean := by rcases m8 with h | h | h | h <;> first | exact h.2 | omega
        exact W.zret hx hb (by rw [hr, hrt]) (by rcases h2 with rfl | rfl <;> decide) hq g5.2.2 hd
    · have hrt : z_rt mi = some .long := by rcases m8 with h | h | h | h <;> first | exact h.2 | omega
      exact W.lret hx hb (by rw [hr, hrt]) hq g5.2.2 hd
    · have hrt : z_rt mi = none := by rcases m8 with h | h | h | h <;> first | exact h.2 | omega
      exact W.vret hx hb (by rw [hr, hrt]) hq g5.2.2 hd
/-- EVERY METHOD'S CONTRACT -/
theorem z_met (hck : z_CK) (hSL : z_StrL) (hSC : z_StrC) (l : Launch) : ∀ d, z_Met l d := by
  intro d
  induction d with
  | zero => exact z_met1 hck hSL hSC l 0 (fun d' h => by cases h)
  | succ d ih => exact z_met1 hck hSL hSC l (d + 1) (fun d' h => by cases h; exact ih)
