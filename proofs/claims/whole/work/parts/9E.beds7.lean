/-! BEDS: the class finds the least crowd. -/
section BG
variable {G : w_G} {R L : Nat}
theorem w_all_bit {k : Nat} : (2 ^ L - 1).testBit k = true ↔ k < L := by rw [Nat.testBit_two_pow_sub_one, decide_eq_true_eq]
theorem w_all_lt : 2 ^ L - 1 < 2 ^ L := by have := Nat.two_pow_pos L; omega
theorem w_all_mem {k : Nat} : k ∈ w_sl L (2 ^ L - 1) ↔ k < L := by
  rw [w_sl_mem, w_all_bit]
  exact ⟨fun z => z.1, fun z => ⟨z, z⟩⟩
theorem w_all_len : (w_sl L (2 ^ L - 1)).length = L := by
  rw [w_sl_len]
  exact fb_ct_all.mpr fun k hk => w_all_bit.mpr hk
theorem w_but_mem {j k : Nat} : j ∈ w_sl L (q_cl (2 ^ L - 1) (2 ^ k)) ↔ j < L ∧ j ≠ k := by
  rw [w_sl_mem, q_cl_bit, Bool.and_eq_true, w_all_bit, Nat.testBit_two_pow]
  constructor
  · intro ⟨z1, _, z2⟩
    refine ⟨z1, fun e => ?_⟩
    rw [decide_eq_true e.symm] at z2
    cases z2
  · intro ⟨z1, z2⟩
    refine ⟨z1, z1, ?_⟩
    rw [decide_eq_false (fun e => z2 e.symm)]
    rfl
theorem w_but_p {k : Nat} (hk : k < L) : List.Perm (w_sl L (2 ^ L - 1)) (k :: w_sl L (q_cl (2 ^ L - 1) (2 ^ k))) := by
  rw [List.perm_ext_iff_of_nodup (w_sl_nd _) (List.nodup_cons.mpr ⟨fun z => (w_but_mem.mp z).2 rfl, w_sl_nd _⟩)]
  intro a
  rw [w_all_mem, List.mem_cons, w_but_mem]
  constructor
  · intro z
    by_cases c : a = k
    · exact Or.inl c
    · exact Or.inr ⟨z, c⟩
  · intro z
    rcases z with z | z
    · omega
    · exact z.1
theorem w_coloops {c : List Nat} : ∀ e : List Nat, (e ++ c).Nodup → (∀ x, x ∈ e ++ c → x < L) → w_Ok G R L → (∀ m, m ∈ e → w_ac G R m (w_sl L (q_cl (2 ^ L - 1) (2 ^ m)))) → w_T G R (e ++ c) = w_T G R c + e.length
  | [], _, _, _, _ => rfl
  | m :: e, hn, hl, hO, ha => by
    rw [List.cons_append] at hn hl ⊢
    have hn2 := List.nodup_cons.mp hn
    have ih := w_coloops e hn2.2 (fun x hx => hl x (List.mem_cons_of_mem _ hx)) hO fun x hx => ha x (List.mem_cons_of_mem _ hx)
    have h1 : w_ac G R m (e ++ c) := w_ac_part (w_sl_nd _) hn2.2 (fun x hx => w_but_mem.mpr ⟨hl x (List.mem_cons_of_mem _ hx), fun z => hn2.1 (by rw [← (show x = m from z)]; exact hx)⟩) (ha m List.mem_cons_self)
    rw [(w_T_c (fun k hk => hO k (hl k hk))).1 h1, ih, List.length_cons]
    omega
theorem w_cls {cd : Nat} {rch : Nat → Nat} (hL : L ≤ 16) (hR : R ≤ 16) (hO : w_Ok G R L) (hcd : ∀ k, cd.testBit k = true ↔ k < L ∧ ¬ w_ac G R k (w_sl L (q_cl (2 ^ L - 1) (2 ^ k)))) (hrc : ∀ j k x, cd.testBit k = true → k < j → j < L → (w_rs G k).testBit x = true → (rch j).testBit x = true) : w_cr G R L (if q_pc (w_lft G L (2 ^ L - 1)) = 0 then none else if q_pc (w_lft G L (2 ^ L - 1)) = 1 then some cd else w_lp (fun ct => w_se G rch cd ct ct L 0 0 0) L 1) (2 ^ L) := by
  have hsp := w_lft_pc hL hO (w_all_lt (L := L))
  rw [w_pc hL (w_all_lt (L := L)), w_all_len] at hsp
  have hT : w_tg G R L (2 ^ L - 1) = w_T G R (w_sl L (2 ^ L - 1)) := rfl
  have hdp : ∀ s, s < 2 ^ L → (w_dp G R L s ↔ w_T G R (w_sl L s) < (w_sl L s).length) := fun s hs => by
    unfold w_dp
    rw [w_pc hL hs]
    exact Iff.rfl
  have hlen : ∀ s, w_T G R (w_sl L s) ≤ (w_sl L s).length := fun s => w_T_len (hO.sl s)
  by_cases c0 : q_pc (w_lft G L (2 ^ L - 1)) = 0
  · rw [if_pos c0]
    intro s hs hd
    have h1 : w_in G R (w_sl L (2 ^ L - 1)) := by
      unfold w_in
      rw [w_all_len]
      omega
    have h2 := w_in_part (w_sl_nd (L := L) _) (w_sl_nd (L := L) s) (fun x hx => w_all_mem.mpr (w_sl_mem.mp hx).1) (hO.sl _) h1
    have h3 := (hdp s hs).mp hd
    unfold w_in at h2
    omega
  · rw [if_neg c0]
    by_cases c1 : q_pc (w_lft G L (2 ^ L - 1)) = 1
    · rw [if_pos c1]
      have hlt : cd < 2 ^ L := by
        apply Nat.lt_pow_two_of_testBit
        intro i hi
        cases hb : cd.testBit i with
        | false => rfl
        | true => have := ((hcd i).mp hb).1; omega
      refine ⟨hlt, (hdp cd hlt).mpr ?_, fun s hs hd => ?_⟩
      · have p := w_part (w_sl_nd (L := L) (2 ^ L - 1)) (w_sl_nd (L := L) cd) fun x hx => w_all_mem.mpr (w_sl_mem.mp hx).1
        have hn := p.nodup_iff.mp (w_sl_nd _)
        have e1 := p.length_eq
        rw [List.length_append, w_all_len] at e1
        have e2 := w_coloops (G := G) (R := R) (L := L) _ hn (fun x hx => w_all_mem.mp (p.mem_iff.mpr hx)) hO fun m hm => by
          rw [List.mem_filter, decide_eq_true_eq] at hm
          have hm1 := w_all_mem.mp hm.1
          apply Classical.byContradiction
          intro z
          exact hm.2 (w_sl_mem.mpr ⟨hm1, (hcd m).mpr ⟨hm1, z⟩⟩)
        rw [← w_T_perm p] at e2
        omega
      · have sub : ∀ k, cd.testBit k = true → s.testBit k = true := fun k hk => by
          apply Classical.byContradiction
          intro z
          obtain ⟨k1, k2⟩ := (hcd k).mp hk
          have p := w_but_p k1
          have e := p.length_eq
          rw [w_all_len, List.length_cons] at e
          have t := (w_T_c (w_ok_perm (hO.sl _) p)).2 k2
          rw [← w_T_perm p] at t
          have h1 : w_in G R (w_sl L (q_cl (2 ^ L - 1) (2 ^ k))) := by
            unfold w_in
            omega
          have h2 := w_in_part (w_sl_nd (L := L) _) (w_sl_nd (L := L) s) (fun x hx => w_but_mem.mpr ⟨(w_sl_mem.mp hx).1, fun e => z (by rw [← (show x = k from e)]; exact (w_sl_mem.mp hx).2)⟩) (hO.sl _) h1
          have h3 := (hdp s hs).mp hd
          unfold w_in at h2
          omega
        have h1 := w_pc_sub sub
        have h2 : cd ≤ s := by
          have e : cd &&& s = cd := by
            apply Nat.eq_of_testBit_eq
            intro i
            rw [Nat.testBit_and]
            cases hb : cd.testBit i with
            | false => rfl
            | true => rw [sub i hb]; rfl
          rw [← e]
          exact Nat.and_le_right
        omega
    · rw [if_neg c1]
      obtain ⟨o, ho⟩ := w_cr_ex (G := G) (R := R) (L := L) hL (2 ^ L)
      cases o with
      | none =>
        refine absurd ((hdp _ w_all_lt).mpr ?_) (ho _ w_all_lt)
        rw [w_all_len]
        omega
      | some s0 =>
        obtain ⟨s1, s2, s3⟩ := ho
        have hK1 := (hdp s0 s1).mp s2
        have hKl := w_pc hL s1
        have hc0 : ∀ ct m, 1 ≤ ct → w_se G rch cd ct ct L 0 0 0 = some m → q_pc s0 ≤ ct ∧ (q_pc s0 = ct → s0 ≤ m) := fun ct m h1 h => by
          obtain ⟨y, y1, y2, y3, y4, y5⟩ := w_se_s ct L [] 0 0 m h List.nodup_nil (fun x hx => by cases hx) w_om_nil (fun z => by omega)
          rw [List.append_nil] at y1 y2 y5
          have m1 : m < 2 ^ L := by rw [y1]; exact w_bm_lt y y3
          have p := w_bm_sl y3 y2
          have e1 : q_pc m = ct := by rw [w_pc hL m1, y1, p.length_eq]; exact y4
          have d : w_dp G R L m := (hdp m m1).mpr (by
            rw [y1, w_T_perm p, p.length_eq, y4]
            refine Nat.lt_of_le_of_lt (w_T_ru y) (Nat.lt_of_le_of_lt ?_ y5)
            exact fb_ct_mono _ hR)
          have := s3 m m1 d
          omega
        have hK : w_ci G R L (w_sl L s0) := w_ci_of hO (w_sl_nd _) (fun k hk => (w_sl_mem.mp hk).1) hK1 fun c h1 h2 h3 => by
          have hcl : ∀ x, x ∈ c → x < L := fun x hx => (w_sl_mem.mp (h2 x hx)).1
          have p := w_bm_sl hcl h1
          have m1 := w_bm_lt c hcl
          have e1 : q_pc (w_bm c) = c.length := by rw [w_pc hL m1, p.length_eq]
          apply Classical.byContradiction
          intro z
          unfold w_in at z
          have := w_T_len (G := G) (R := R) (l := c) fun k hk => hO k (hcl k hk)
          have d : w_dp G R L (w_bm c) := (hdp _ m1).mpr (by rw [w_T_perm p, p.length_eq]; omega)
          have := s3 _ m1 d
          omega
        have hKc : ∀ k, k ∈ w_sl L s0 → cd.testBit k = true := fun k hk => by
          have k1 := (w_sl_mem.mp hk).1
          refine (hcd k).mpr ⟨k1, fun z => hK.2.2.1 k hk ?_⟩
          exact w_ac_part (w_sl_nd _) (w_wo_nd hK.1) (fun x hx => w_but_mem.mpr ⟨(w_sl_mem.mp (w_wo_mem.mp hx).1).1, (w_wo_mem.mp hx).2⟩) z
        obtain ⟨m, m1, m2⟩ := w_se_c hO hR hK hKc (rch := rch) (fun j k x hk h1 h2 h3 => hrc j k x (hKc k hk) h1 h2 h3) (w_sl L s0).length L [] 0 0 (w_sl L s0).reverse List.length_reverse (by
          rw [List.pairwise_reverse]
          exact List.Pairwise.filter _ List.pairwise_lt_range) (fun x hx => (w_sl_mem.mp (List.mem_reverse.mp hx)).1) List.nodup_nil (fun x hx => by cases hx) w_om_nil (by rw [List.append_nil]; exact (List.reverse_perm _).symm)
        rw [w_sl_bm s1] at m2
        have hpos : 1 ≤ (w_sl L s0).length := by omega
        have hle : (w_sl L s0).length ≤ L := by rw [w_sl_len]; exact fb_ct_le _ _
        have m1' : w_se G rch cd (w_sl L s0).length (w_sl L s0).length L 0 0 0 = some m := m1
        obtain ⟨v, hv⟩ := w_lp_e (f := fun ct => w_se G rch cd ct ct L 0 0 0) (j := (w_sl L s0).length) (by
          show w_se G rch cd (w_sl L s0).length (w_sl L s0).length L 0 0 0 ≠ none
          rw [m1']; exact fun z => by cases z) L 1 hpos (by omega)
        obtain ⟨j, j1, j2, j3, j4⟩ := w_lp_s _ _ hv
        have j3' : w_se G rch cd j j L 0 0 0 = some v := j3
        have hj := hc0 j v j1 j3'
        have hj2 : j = (w_sl L s0).length := by
          apply Classical.byContradiction
          intro z
          have := j4 (w_sl L s0).length hpos (by omega)
          have this' : w_se G rch cd (w_sl L s0).length (w_sl L s0).length L 0 0 0 = none := this
          rw [m1'] at this'
          cases this'
        rw [hj2, m1'] at j3'
        have e : m = v := Option.some.inj j3'
        have : v = s0 := by
          have := hj.2 (by omega)
          omega
        rw [hv, this]
        exact ⟨s1, s2, s3⟩
end BG
