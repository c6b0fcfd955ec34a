/-! THE FORMULAS: the reference's loop does what reading by rules does: tests, parts. -/
section GY
variable {d b w f0 : Nat} {T : List Nat}
def gPt (d : Nat) (S : z_S) (T : List Nat) (b w f0 k R kk pr : Nat) (os : List Nat) (fs : List g_Fr) (g : g_R) : Prop := match g with
  | .inl e => ∃ S', gLo d S = some S' ∧ mFl S S' b f0 e
  | .inr x => ∃ S' r cs1 ph, gLo d S = gLo d S' ∧ onM (g_mD b f0) S S' ∧ mG S' T b w f0 x.1 cs1 ((kk, ph, false, pr, r ++ os) :: fs) (7 - k + g_nn r) true ∧ x.2 = cs1 ++ r ∧ (∀ c, c ∈ r → R ≤ g_rk c) ∧ g_nn r ≤ k ∧ r.length + R ≤ 6 + k ∧ (ph = 1 ∨ ph = 2) ∧ (ph = 1 → g_na T x.1) ∧ (R ≤ 2 → g_ow T x.1 19 = false) ∧ (R ≤ 1 → g_ow T x.1 18 = false)
theorem gPt.tr {S S1 : z_S} {k R kk pr : Nat} {os : List Nat} {fs : List g_Fr} {g : g_R} (h : gPt d S1 T b w f0 k R kk pr os fs g) (e : gLo d S = gLo d S1) (o : onM (g_mD b f0) S S1) : gPt d S T b w f0 k R kk pr os fs g := by
  cases g with
  | inl x =>
    obtain ⟨S', a1, a2⟩ := h
    exact ⟨S', e.trans a1, a2.tr o⟩
  | inr x =>
    obtain ⟨S', r, cs1, ph, a1, a2, a3⟩ := h
    exact ⟨S', r, cs1, ph, e.trans a1, o.trans a2, a3⟩
def gTm (d : Nat) (T : List Nat) (b w f0 k R Q C : Nat) (f : g_F) : Prop := ∀ S p cs kk pr os fs, mG S T b w f0 p cs ((kk, 0, true, pr, os) :: fs) (7 - k) false → kk ≤ 6 → g_tst kk = true → fs.length ≤ 7 - k → f_oc fs + os.length + C ≤ 400 → cs.length + f_oc fs + os.length + fs.length ≤ p → 1 ≤ p → (∀ c, c ∈ os.head? → g_rk c < Q) → gPt d S T b w f0 k R kk pr os fs (f p cs)
theorem g_lpL {k R Qp C bb i n : Nat} {op : Nat → Nat} {pt : g_F} (h7 : k ≤ 7) (hop : R = 2 ∧ i = 19 ∧ n = 10016 ∧ op = g_oA T ∨ R = 1 ∧ i = 18 ∧ n = 10017 ∧ op = g_oO T) (hQ : R < Qp) (hp : gTm d T b w f0 k (R + 1) Qp C pt) (gp : g_gd T true bb pt) (kk pr : Nat) (os : List Nat) (fs : List g_Fr) (hkk : kk ≤ 6) (htt : g_tst kk = true) (hfs : fs.length ≤ 7 - k) (hC : f_oc fs + os.length + (C + 1) ≤ 400) (hos : ∀ c, c ∈ os.head? → g_rk c < R) : ∀ (m : Nat) (S : z_S) (p : Nat) (cs cs1 r : List Nat) (ph : Nat), mG S T b w f0 p cs1 ((kk, ph, false, pr, r ++ os) :: fs) (7 - k + g_nn r) true → cs = cs1 ++ r → (∀ c, c ∈ r → R ≤ g_rk c) → g_nn r ≤ k → r.length + R ≤ 6 + k → (ph = 1 ∨ ph = 2) → (ph = 1 → g_na T p) → (R ≤ 1 → g_ow T p 19 = false) → cs.length + f_oc fs + os.length + fs.length ≤ p → 1 ≤ p → T.length < p + m → gPt d S T b w f0 k R kk pr os fs (g_lp T op pt m p cs)
  | 0, S, p, cs, cs1, r, ph, h, _, _, _, _, _, _, _, _, _, hm => by
    have := h.1.2.1
    omega
  | m + 1, S, p, cs, cs1, r, ph, h, hcs, hr, hnn, hrl, hph, hna, hin, hb, hp1, hm => by
    rw [g_lp]
    have hT := h.1.2.1
    have h1600 := h.1.1.2.2.1
    have hcl : cs.length = cs1.length + r.length := by rw [hcs, List.length_append]
    have hopi : op p = if g_ow T p i then n else 0 := by
      rcases hop with ⟨_, q2, q3, q4⟩ | ⟨_, q2, q3, q4⟩ <;> rw [q2, q3, q4] <;> rfl
    cases c : g_ow T p i with
    | false =>
      rw [c, if_neg (by decide)] at hopi
      rw [if_pos hopi]
      refine ⟨S, r, cs1, ph, rfl, onM.refl h.W, h, hcs, hr, hnn, hrl, hph, hna, fun z => ?_, fun z => ?_⟩
      · rcases hop with ⟨q1, q2, _⟩ | ⟨q1, q2, _⟩
        · rw [q2] at c; exact c
        · exact hin (by omega)
      · rcases hop with ⟨q1, q2, _⟩ | ⟨q1, q2, _⟩
        · omega
        · rw [q2] at c; exact c
    | true =>
      rw [c, if_pos rfl] at hopi
      have hn0 : op p ≠ 0 := by rw [hopi]; omega
      rw [if_neg hn0]
      have hk1 := g_ow_k c
      have ek := g_en_k hT (show g_kd T p ≠ 0 by omega)
      have hrk : g_rk n = R ∧ n ≠ 10018 := by
        rcases hop with ⟨q1, _, q3, _⟩ | ⟨q1, _, q3, _⟩ <;> rw [q1, q3] <;> exact ⟨rfl, by decide⟩
      obtain ⟨S1, a1, a2, a3⟩ := t_log (d := d) (R := R) (i := i) (n := n) (by
        rcases hop with ⟨q1, q2, q3, _⟩ | ⟨q1, q2, q3, _⟩
        · exact Or.inl ⟨q1, q2, q3⟩
        · exact Or.inr ⟨q1, q2, q3⟩) c h htt hkk hph (by omega) hos hr (by rw [List.length_append]; omega) (by omega) (by omega) (by omega)
      rw [show 7 - k + g_nn r - g_nn r = 7 - k by omega, ← hcs] at a3
      have hl1 : (n :: os).length = os.length + 1 := rfl
      have sim := hp S1 (g_en T p) cs kk pr (n :: os) fs a3 hkk htt hfs (by omega) (by omega) (by omega) (fun x hx => by
        have : x = n := by simpa using hx.symm
        rw [this]; omega)
      cases hg : pt (g_en T p) cs with
      | inl x =>
        rw [hg] at sim
        exact gPt.tr sim a1 a2
      | inr x =>
        rw [hg] at sim
        obtain ⟨S2, r1, cs2, ph2, b1, b2, b3, b4, b5, b6, b7, b8, b9, b10, b11⟩ := sim
        have l2 := gp.len ek.2 hg
        have e1 : g_nn (r1 ++ [n]) = g_nn r1 := by rw [g_nn_app, g_nn_1 hrk.2]; rfl
        show gPt d S T b w f0 k R kk pr os fs (g_lp T op pt m x.1 (x.2 ++ [op p]))
        rw [hopi]
        refine (g_lpL h7 hop hQ hp gp kk pr os fs hkk htt hfs hC hos m S2 x.1 (x.2 ++ [n]) cs2 (r1 ++ [n]) ph2 (by rw [List.append_assoc, e1]; exact b3) (by rw [b4, List.append_assoc]) (fun y hy => ?_) (by omega) (by rw [List.length_append, List.length_singleton]; omega) b8 b9 (fun z => b10 (by omega)) (by rw [List.length_append, List.length_singleton]; omega) (by omega) (by omega)).tr (a1.trans b1) (a2.trans b2)
        rcases List.mem_append.mp hy with z | z
        · have := b5 y z; omega
        · rw [List.mem_singleton.mp z]; omega
theorem g_sqL {k R Qp C bb i n : Nat} {op : Nat → Nat} {pt : g_F} (h7 : k ≤ 7) (hop : R = 2 ∧ i = 19 ∧ n = 10016 ∧ op = g_oA T ∨ R = 1 ∧ i = 18 ∧ n = 10017 ∧ op = g_oO T) (hQ : R < Qp) (hp : gTm d T b w f0 k (R + 1) Qp C pt) (gp : g_gd T true bb pt) : gTm d T b w f0 k R R (C + 1) (g_sq T op pt) := by
  intro S p cs kk pr os fs h hkk htt hfs hC hb hp1 hos
  have sim := hp S p cs kk pr os fs h hkk htt hfs (by omega) hb hp1 (fun c hc => by have := hos c hc; omega)
  have hT := h.1.2.1
  have h1600 := h.1.1.2.2.1
  unfold g_sq
  cases hg : pt p cs with
  | inl x =>
    rw [hg] at sim
    exact sim
  | inr x =>
    rw [hg] at sim
    obtain ⟨S2, r1, cs2, ph2, b1, b2, b3, b4, b5, b6, b7, b8, b9, b10, b11⟩ := sim
    have l2 := gp.len hT hg
    show gPt d S T b w f0 k R kk pr os fs (g_lp T op pt 1600 x.1 x.2)
    exact (g_lpL h7 hop hQ hp gp kk pr os fs hkk htt hfs hC hos 1600 S2 x.1 x.2 cs2 r1 ph2 b3 b4 (fun y hy => by have := b5 y hy; omega) b6 (by omega) b8 b9 (fun z => b10 (by omega)) (by omega) (by omega) (by omega)).tr b1 b2
/-- the faults of a sign, as the rules tell them -/
theorem t_un {S : z_S} {p : Nat} {cs : List Nat} {fs : List g_Fr} {o : Nat} {od : Bool} (h : mG S T b w f0 p cs fs o od) (hf : g_kd T p ≠ 4 → ∃ S', gLo d S = some S' ∧ mFl S S' b f0 (1, g_st T p)) : ∃ S', gLo d S = some S' ∧ mFl S S' b f0 (1, g_ft T p) := by
  by_cases c : g_kd T p = 4
  · exact t_lex h c
  · rw [g_ft_n c]; exact hf c
theorem g_sg_n {p c : Nat} (h : g_kd T p = 4) : g_sg T p c = false := by unfold g_sg; rw [decide_eq_false (by omega), Bool.false_and]
theorem g_ow_n {p i : Nat} (h : g_kd T p = 4) : g_ow T p i = false := by unfold g_ow; rw [decide_eq_false (by omega), Bool.false_and]
/-- a bracket of sums closes -/
theorem cl_su {S : z_S} {p k kk ph pr kx px : Nat} {bx : Bool} {os r cs cs1 : List Nat} {fs : List g_Fr} (hkx : kx = 2 ∨ kx = 4) (h7 : k ≤ 7) (hk0 : k ≠ 0) (h : mG S T b w f0 p cs1 ((kx, 0, bx, px, r) :: (kk, ph, false, pr, os) :: fs) (7 - (k - 1)) true) (hcs : cs = cs1 ++ r) (hr : r.length ≤ 2) (hnn : g_nn r = 0) (hna : g_na T p) (hfs : fs.length ≤ 7 - k) (hC : f_oc fs + os.length ≤ 400) (hb : cs.length + (f_oc fs + os.length) + (fs.length + 1) ≤ p) (hpx : kx = 4 → 10006 ≤ px ∧ px ≤ 10019) : gPo d S T b w f0 k 7 kk ph pr os fs (g_tk T 41 p (cs ++ if kx = 4 then [px] else [])) := by
  have h1600 := h.1.1.2.2.1
  have hT := h.1.2.1
  have hcl : cs.length = cs1.length + r.length := by rw [hcs, List.length_append]
  have hoc : f_oc ((kk, ph, false, pr, os) :: fs) = f_oc fs + os.length := rfl
  have hed : g_ed T p kx 0 := ⟨fun _ => hna, fun z => by rcases hkx with q | q <;> rw [q] at z <;> cases z⟩
  unfold g_tk
  by_cases c4 : g_kd T p = 4
  · rw [g_sg_n c4, if_neg (by decide)]
    exact t_lex h c4
  · have t := t_clo (d := d) (c := 41) (by omega) h c4 (by omega) (by omega) hed (by omega) (by omega) (by omega) (by omega) hpx
    cases hs : g_sg T p 41 with
    | false =>
      rw [if_neg (by decide)]
      show ∃ S', gLo d S = some S' ∧ mFl S S' b f0 (1, g_ft T p)
      rw [g_ft_n c4]
      exact t.1 hs
    | true =>
      rw [if_pos rfl]
      obtain ⟨S', a1, a2, a3⟩ := t.2 hs
      refine ⟨S', [], cs ++ (if kx = 4 then [px] else []), a1, a2, ?_, by rw [List.append_nil], fun c hc => (by cases hc), rfl, by rw [List.length_nil]; omega, fun z => by omega, fun z => by omega⟩
      rw [← hcs, hnn, show 7 - (k - 1) - 0 - 1 = 7 - k by omega, if_neg (show ¬ kx = 5 by omega)] at a3
      exact a3
/-- a comma -/
theorem cm_su {S : z_S} {p k kk ph pr kx k2 px phx : Nat} {bx : Bool} {os r cs cs1 : List Nat} {fs : List g_Fr} {K : g_F} (hkx : kx = 3 ∧ k2 = 4 ∨ kx = 6 ∧ k2 = 3) (h7 : k ≤ 7) (hk0 : k ≠ 0) (h : mG S T b w f0 p cs1 ((kx, phx, bx, px, r) :: (kk, ph, false, pr, os) :: fs) (7 - (k - 1) + g_nn r) true) (hcs : cs = cs1 ++ r) (hr : r.length ≤ 20) (hph : phx ≤ 2) (hnn : g_nn r ≤ k - 1) (hed : g_ed T p kx phx) (hfs : fs.length ≤ 7 - k) (hC : f_oc fs + os.length ≤ 400) (hb : cs.length + (f_oc fs + os.length) + (fs.length + 1) ≤ p) (hK : ∀ S2, mG S2 T b w f0 (g_en T p) cs ((k2, 0, bx, px, []) :: (kk, ph, false, pr, os) :: fs) (7 - (k - 1)) false → g_sg T p 44 = true → gPo d S2 T b w f0 k 7 kk ph pr os fs (K (g_en T p) cs)) : gPo d S T b w f0 k 7 kk ph pr os fs (g_bd (g_tk T 44 p cs) K) := by
  have h1600 := h.1.1.2.2.1
  have hT := h.1.2.1
  have hcl : cs.length = cs1.length + r.length := by rw [hcs, List.length_append]
  have hoc : f_oc ((kk, ph, false, pr, os) :: fs) = f_oc fs + os.length := rfl
  have hlen : ((kk, ph, false, pr, os) :: fs : List g_Fr).length = fs.length + 1 := rfl
  unfold g_tk
  by_cases c4 : g_kd T p = 4
  · rw [g_sg_n c4, if_neg (by decide)]
    exact t_lex h c4
  · have t := t_com (d := d) hkx h c4 hph (by omega) hed (by omega) (by omega) (by omega) (by omega)
    cases hs : g_sg T p 44 with
    | false =>
      rw [if_neg (by decide)]
      show ∃ S', gLo d S = some S' ∧ mFl S S' b f0 (1, g_ft T p)
      rw [g_ft_n c4]
      exact t.1 hs
    | true =>
      rw [if_pos rfl]
      obtain ⟨S', a1, a2, a3⟩ := t.2 hs
      rw [← hcs, show 7 - (k - 1) + g_nn r - g_nn r = 7 - (k - 1) by omega] at a3
      exact gPo.tr (hK S' a3 hs) a1 a2
end GY
