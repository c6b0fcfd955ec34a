/-! THE FORMULAS: the reference's loop does what reading by rules does: all levels. -/
section GZ
variable {d b w f0 k : Nat} {T : List Nat} {su te fc : g_F}
theorem g_tst_2 : g_tst 2 = false := rfl
theorem g_ns_n {p kk ph pr : Nat} {bg : Bool} {os : List Nat} (h : g_tst kk = false) : g_ns T p (kk, ph, bg, pr, os) := fun z => by
  rw [show f_k (kk, ph, bg, pr, os) = kk from rfl, h, Bool.false_and] at z
  cases z
theorem g_na_ed {p kk ph : Nat} (h : g_tst kk = false) (hn : g_na T p) : g_ed T p kk ph := ⟨fun _ => hn, fun z => by rw [h] at z; cases z⟩
/-- the second half of a pair -/
theorem s_p2 {S : z_S} {p kk ph pr px : Nat} {bx : Bool} {os cs : List Nat} {fs : List g_Fr} (h7 : k ≤ 7) (hk0 : k ≠ 0) (hs : gSm d T b w f0 (k - 1) 5 (6 * (k - 1) + 2) su) (gs : g_gd T false (5 * k - 2) su) (h : mG S T b w f0 p cs ((4, 0, bx, px, []) :: (kk, ph, false, pr, os) :: fs) (7 - (k - 1)) false) (hfs : fs.length ≤ 7 - k) (hC : f_oc fs + os.length + 6 * k ≤ 400) (hb : cs.length + (f_oc fs + os.length) + (fs.length + 1) ≤ p) (hp1 : 1 ≤ p) (hpx : 10006 ≤ px ∧ px ≤ 10019) : gPo d S T b w f0 k 7 kk ph pr os fs (g_bd (su p cs) fun p cs => g_tk T 41 p (cs ++ [px])) := by
  have hoc : f_oc ((kk, ph, false, pr, os) :: fs) = f_oc fs + os.length := rfl
  have hlen : ((kk, ph, false, pr, os) :: fs : List g_Fr).length = fs.length + 1 := rfl
  have sim := hs S p cs 4 0 bx px [] ((kk, ph, false, pr, os) :: fs) h (by omega) (by omega) (g_ns_n rfl) (by omega) (by rw [List.length_nil]; omega) (by rw [List.length_nil]; omega) hp1 (fun c hc => by cases hc)
  cases hg : su p cs with
  | inl x =>
    rw [hg] at sim
    exact sim
  | inr x =>
    rw [hg] at sim
    obtain ⟨S2, r1, cs2, b1, b2, b3, b4, b5, b6, b7, b8, b9⟩ := sim
    have l2 := gs.len h.1.2.1 hg
    rw [List.append_nil] at b3
    have := cl_su (d := d) (kx := 4) (Or.inr rfl) h7 hk0 b3 b4 (by omega) b6 ⟨b9 (by omega), b8 (by omega)⟩ hfs (by omega) (by omega) (fun _ => hpx)
    rw [if_pos rfl] at this
    exact this.tr b1 b2
/-- behind the test of an if, or the first of a pair -/
theorem s_p1 {S : z_S} {p kk ph pr px : Nat} {bx : Bool} {os cs : List Nat} {fs : List g_Fr} (h7 : k ≤ 7) (hk0 : k ≠ 0) (hs : gSm d T b w f0 (k - 1) 5 (6 * (k - 1) + 2) su) (gs : g_gd T false (5 * k - 2) su) (h : mG S T b w f0 p cs ((3, 0, bx, px, []) :: (kk, ph, false, pr, os) :: fs) (7 - (k - 1)) false) (hfs : fs.length ≤ 7 - k) (hC : f_oc fs + os.length + 6 * k ≤ 400) (hb : cs.length + (f_oc fs + os.length) + (fs.length + 1) ≤ p) (hp1 : 1 ≤ p) (hpx : 10006 ≤ px ∧ px ≤ 10019) : gPo d S T b w f0 k 7 kk ph pr os fs (g_bd (su p cs) fun p cs => g_bd (g_tk T 44 p cs) fun p cs => g_bd (su p cs) fun p cs => g_tk T 41 p (cs ++ [px])) := by
  have hoc : f_oc ((kk, ph, false, pr, os) :: fs) = f_oc fs + os.length := rfl
  have hlen : ((kk, ph, false, pr, os) :: fs : List g_Fr).length = fs.length + 1 := rfl
  have sim := hs S p cs 3 0 bx px [] ((kk, ph, false, pr, os) :: fs) h (by omega) (by omega) (g_ns_n rfl) (by omega) (by rw [List.length_nil]; omega) (by rw [List.length_nil]; omega) hp1 (fun c hc => by cases hc)
  cases hg : su p cs with
  | inl x =>
    rw [hg] at sim
    exact sim
  | inr x =>
    rw [hg] at sim
    obtain ⟨S2, r1, cs2, b1, b2, b3, b4, b5, b6, b7, b8, b9⟩ := sim
    have l2 := gs.len h.1.2.1 hg
    rw [List.append_nil] at b3
    show gPo d S T b w f0 k 7 kk ph pr os fs (g_bd (g_tk T 44 x.1 x.2) fun p cs => g_bd (su p cs) fun p cs => g_tk T 41 p (cs ++ [px]))
    refine (cm_su (d := d) (kx := 3) (k2 := 4) (r := r1) (Or.inl ⟨rfl, rfl⟩) h7 hk0 (by rw [b6]; exact b3) b4 (by omega) (by omega) (by omega) (g_na_ed rfl ⟨b9 (by omega), b8 (by omega)⟩) hfs (by omega) (by omega) fun S3 g3 hs44 => ?_).tr b1 b2
    have ek := g_en_k l2.2.2 (show g_kd T x.1 ≠ 0 by rw [g_sg_k hs44]; decide)
    exact s_p2 h7 hk0 hs gs g3 hfs hC (by omega) (by omega) hpx
theorem s_pr (h7 : k ≤ 7) (hs : k ≠ 0 → gSm d T b w f0 (k - 1) 5 (6 * (k - 1) + 2) su) (gs : k ≠ 0 → g_gd T false (5 * k - 2) su) (ht : k ≠ 0 → gTm d T b w f0 (k - 1) 1 1 (6 * (k - 1) + 5) te) (gt : k ≠ 0 → g_gd T true (5 * k + 1) te) : gSm d T b w f0 k 7 (6 * k) (g_pr T w k su te) := by
  intro S p cs kk ph bg pr os fs h hkk hph hns hfs hC hb hp1 hos
  have hT := h.1.2.1
  have h1600 := h.1.1.2.2.1
  have hoc : f_oc ((kk, ph, bg, pr, os) :: fs) = f_oc fs + os.length := rfl
  have hoc2 : f_oc ((kk, ph, false, pr, os) :: fs) = f_oc fs + os.length := rfl
  have hlen : ((kk, ph, false, pr, os) :: fs : List g_Fr).length = fs.length + 1 := rfl
  unfold g_pr
  by_cases c4 : g_kd T p = 4
  · rw [g_sg_n c4, if_neg (by decide), g_ow_n c4, if_neg (by decide), g_ow_n c4, if_neg (by decide), g_ow_n c4, if_neg (by decide), if_neg (by omega)]
    have : g_var T w p = 0 := by unfold g_var; rw [g_ow_n c4, g_ow_n c4, g_ow_n c4, g_ow_n c4, g_ow_n c4]; rfl
    rw [if_pos this]
    exact t_lex h c4
  have pairs : ∀ i c kd, (i = 22 ∧ c = 10011 ∧ kd = 3 ∨ i = 23 ∧ c = 10012 ∧ kd = 3 ∨ i = 17 ∧ c = 10019 ∧ kd = 6) → g_ow T p i = true → ∀ K : g_F, (k ≠ 0 → g_sg T (g_en T p) 40 = true → ∀ S2, mG S2 T b w f0 (g_en T (g_en T p)) cs ((kd, 0, true, c, []) :: (kk, ph, false, pr, os) :: fs) (7 - (k - 1)) false → gPo d S2 T b w f0 k 7 kk ph pr os fs (K (g_en T (g_en T p)) cs)) → gPo d S T b w f0 k 7 kk ph pr os fs (if g_sg T (g_en T p) 40 then g_bd (g_op T k (g_en T p) cs) K else g_un T (g_en T p)) := fun i c kd hic hw K hK => by
    obtain ⟨t1, t2, t3⟩ := t_pair (d := d) hic h hkk (by omega) hns hw
    cases hsg : g_sg T (g_en T p) 40 with
    | false =>
      rw [if_neg (by decide)]
      exact t1 hsg
    | true =>
      rw [if_pos rfl]
      unfold g_op
      by_cases k0 : k = 0
      · rw [if_pos k0]
        exact t2 hsg (by omega)
      · rw [if_neg k0]
        obtain ⟨S2, a1, a2, a3⟩ := t3 hsg (by omega)
        rw [show 7 - k + 1 = 7 - (k - 1) by omega] at a3
        exact (hK k0 hsg S2 a3).tr a1 a2
  cases c0 : g_sg T p 40 with
  | true =>
    rw [if_pos rfl]
    have ek := g_en_k hT (show g_kd T p ≠ 0 by rw [g_sg_k c0]; decide)
    obtain ⟨t1, t2⟩ := t_par (d := d) h hkk (by omega) hns c0
    unfold g_op
    by_cases k0 : k = 0
    · rw [if_pos k0]
      exact t1 (by omega)
    · rw [if_neg k0]
      obtain ⟨S1, a1, a2, a3⟩ := t2 (by omega)
      rw [show 7 - k + 1 = 7 - (k - 1) by omega] at a3
      have a3' : mG S1 T b w f0 (g_en T p) cs ((2, 0, true, 0, []) :: (kk, ph, false, pr, os) :: fs) (7 - (k - 1)) false := a3
      have sim := hs k0 S1 (g_en T p) cs 2 0 true 0 [] ((kk, ph, false, pr, os) :: fs) a3' (by omega) (by omega) (g_ns_n rfl) (by omega) (by rw [List.length_nil]; omega) (by rw [List.length_nil]; omega) (by omega) (fun c hc => by cases hc)
      show gPo d S T b w f0 k 7 kk ph pr os fs (g_bd (su (g_en T p) cs) fun p cs => g_tk T 41 p cs)
      cases hg : su (g_en T p) cs with
      | inl x =>
        rw [hg] at sim
        exact gPo.tr (S1 := S1) (k := k) (R := 7) (kk := kk) (ph := ph) (pr := pr) (os := os) (fs := fs) (g := .inl x) sim a1 a2
      | inr x =>
        rw [hg] at sim
        obtain ⟨S2, r1, cs2, b1, b2, b3, b4, b5, b6, b7, b8, b9⟩ := sim
        have l2 := (gs k0).len ek.2 hg
        rw [List.append_nil] at b3
        have := cl_su (d := d) (kx := 2) (Or.inl rfl) h7 k0 b3 b4 (by omega) b6 ⟨b9 (by omega), b8 (by omega)⟩ hfs (by omega) (by omega) (fun z => by omega)
        rw [if_neg (by decide), List.append_nil] at this
        exact this.tr (a1.trans b1) (a2.trans b2)
  | false =>
    rw [if_neg (by decide)]
    have hen2 : ∀ {i}, g_ow T p i = true → g_sg T (g_en T p) 40 = true → p < g_en T p ∧ g_en T p < g_en T (g_en T p) ∧ g_en T (g_en T p) ≤ T.length := fun {i} hw hs40 => by
      have a := g_en_k hT (show g_kd T p ≠ 0 by rw [g_ow_k hw]; decide)
      have c := g_en_k a.2 (show g_kd T (g_en T p) ≠ 0 by rw [g_sg_k hs40]; decide)
      exact ⟨a.1, c.1, c.2⟩
    cases c1 : g_ow T p 22 with
    | true =>
      rw [if_pos rfl]
      exact pairs 22 10011 3 (Or.inl ⟨rfl, rfl, rfl⟩) c1 _ fun k0 hs40 S2 g2 => by
        have := hen2 c1 hs40
        exact s_p1 h7 k0 (hs k0) (gs k0) g2 hfs (by omega) (by omega) (by omega) ⟨by decide, by decide⟩
    | false =>
      rw [if_neg (show ¬ false = true by decide)]
      cases c2 : g_ow T p 23 with
      | true =>
        rw [if_pos rfl]
        exact pairs 23 10012 3 (Or.inr (Or.inl ⟨rfl, rfl, rfl⟩)) c2 _ fun k0 hs40 S2 g2 => by
          have := hen2 c2 hs40
          exact s_p1 h7 k0 (hs k0) (gs k0) g2 hfs (by omega) (by omega) (by omega) ⟨by decide, by decide⟩
      | false =>
        rw [if_neg (show ¬ false = true by decide)]
        cases c3 : g_ow T p 17 with
        | true =>
          rw [if_pos rfl]
          refine pairs 17 10019 6 (Or.inr (Or.inr ⟨rfl, rfl, rfl⟩)) c3 _ fun k0 hs40 S2 g2 => ?_
          have hh := hen2 c3 hs40
          have sim := ht k0 S2 (g_en T (g_en T p)) cs 6 10019 [] ((kk, ph, false, pr, os) :: fs) g2 (by omega) rfl (by omega) (by rw [List.length_nil]; omega) (by rw [List.length_nil]; omega) (by omega) (fun c hc => by cases hc)
          cases hg : te (g_en T (g_en T p)) cs with
          | inl x =>
            rw [hg] at sim
            exact sim
          | inr x =>
            rw [hg] at sim
            obtain ⟨S3, r1, cs2, ph2, b1, b2, b3, b4, b5, b6, b7, b8, b9, b10, b11⟩ := sim
            have l2 := (gt k0).len hh.2.2 hg
            rw [List.append_nil] at b3
            show gPo d S2 T b w f0 k 7 kk ph pr os fs (g_bd (g_tk T 44 x.1 x.2) fun p cs => g_bd (su p cs) fun p cs => g_bd (g_tk T 44 p cs) fun p cs => g_bd (su p cs) fun p cs => g_tk T 41 p (cs ++ [10019]))
            refine (cm_su (d := d) (kx := 6) (k2 := 3) (r := r1) (Or.inr ⟨rfl, rfl⟩) h7 k0 b3 b4 (by omega) (by omega) b6 ⟨fun z => b9 (by omega), fun _ => ⟨by omega, b10 (by omega), b11 (by omega)⟩⟩ hfs (by omega) (by omega) fun S4 g4 hs44 => ?_).tr b1 b2
            have ek := g_en_k l2.2.2 (show g_kd T x.1 ≠ 0 by rw [g_sg_k hs44]; decide)
            exact s_p1 h7 k0 (hs k0) (gs k0) g4 hfs (by omega) (by omega) (by omega) ⟨by decide, by decide⟩
        | false =>
          rw [if_neg (show ¬ false = true by decide)]
          obtain ⟨v1, v2, v3⟩ := t_val (d := d) h hkk (by omega) hns c4 c0 c1 c2 c3
          by_cases z0 : g_kd T p = 0
          · have gv : g_var T w p = 0 := by
              have nn : ∀ i, g_ow T p i = false := fun i => by unfold g_ow; rw [decide_eq_false (by omega), Bool.false_and]
              unfold g_var; rw [nn, nn, nn, nn, nn]; rfl
            rw [if_neg (by omega), if_pos gv]
            exact v3 (by omega) gv
          · have hc16 : cs.length < 1600 := by
              have := g_en_k hT z0; omega
            by_cases k2 : g_kd T p = 2
            · rw [if_pos k2]
              obtain ⟨S', a1, a2, a3⟩ := v1 hc16 k2
              exact ⟨S', [], cs ++ [g_vl T p], a1, a2, a3, by rw [List.append_nil], fun c hc => (by cases hc), rfl, by rw [List.length_nil]; omega, fun z => by omega, fun z => by omega⟩
            · rw [if_neg k2]
              by_cases gv : g_var T w p = 0
              · rw [if_pos gv]
                exact v3 k2 gv
              · rw [if_neg gv]
                obtain ⟨S', a1, a2, a3⟩ := v2 hc16 k2 gv
                exact ⟨S', [], cs ++ [g_var T w p], a1, a2, a3, by rw [List.append_nil], fun c hc => (by cases hc), rfl, by rw [List.length_nil]; omega, fun z => by omega, fun z => by omega⟩
end GZ
