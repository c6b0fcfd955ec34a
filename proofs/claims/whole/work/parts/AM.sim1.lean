/-! THE FORMULAS: the reference's loop does what reading by rules does: sums. -/
section GX
variable {d b w f0 : Nat} {T : List Nat}
def gPo (d : Nat) (S : z_S) (T : List Nat) (b w f0 k R kk ph pr : Nat) (os : List Nat) (fs : List g_Fr) (g : g_R) : Prop := match g with
  | .inl e => ∃ S', gLo d S = some S' ∧ mFl S S' b f0 e
  | .inr x => ∃ S' r cs1, gLo d S = gLo d S' ∧ onM (g_mD b f0) S S' ∧ mG S' T b w f0 x.1 cs1 ((kk, ph, false, pr, r ++ os) :: fs) (7 - k) true ∧ x.2 = cs1 ++ r ∧ (∀ c, c ∈ r → R ≤ g_rk c) ∧ g_nn r = 0 ∧ r.length + R ≤ 7 ∧ (R ≤ 6 → g_oP T x.1 = 0) ∧ (R ≤ 5 → g_oS T x.1 = 0)
theorem gPo.tr {S S1 : z_S} {k R kk ph pr : Nat} {os : List Nat} {fs : List g_Fr} {g : g_R} (h : gPo d S1 T b w f0 k R kk ph pr os fs g) (e : gLo d S = gLo d S1) (o : onM (g_mD b f0) S S1) : gPo d S T b w f0 k R kk ph pr os fs g := by
  cases g with
  | inl x =>
    obtain ⟨S', a1, a2⟩ := h
    exact ⟨S', e.trans a1, a2.tr o⟩
  | inr x =>
    obtain ⟨S', r, cs1, a1, a2, a3⟩ := h
    exact ⟨S', r, cs1, e.trans a1, o.trans a2, a3⟩
/-- reading f in any frame, at level k -/
def gSm (d : Nat) (T : List Nat) (b w f0 k R C : Nat) (f : g_F) : Prop := ∀ S p cs kk ph bg pr os fs, mG S T b w f0 p cs ((kk, ph, bg, pr, os) :: fs) (7 - k) false → kk ≤ 6 → ph < 2 → g_ns T p (kk, ph, bg, pr, os) → fs.length ≤ 7 - k → f_oc fs + os.length + C ≤ 400 → cs.length + f_oc fs + os.length + fs.length ≤ p → 1 ≤ p → (∀ c, c ∈ os.head? → g_rk c < R) → gPo d S T b w f0 k R kk ph pr os fs (f p cs)
theorem g_rk_S {p : Nat} (h : g_oS T p ≠ 0) : g_rk (g_oS T p) = 5 := by
  unfold g_oS at h ⊢
  by_cases c1 : g_sg T p 43 = true
  · rw [if_pos c1]; rfl
  · rw [if_neg c1] at h ⊢
    by_cases c2 : g_sg T p 45 = true
    · rw [if_pos c2]; rfl
    · rw [if_neg c2] at h; exact absurd rfl h
theorem g_rk_P {p : Nat} (h : g_oP T p ≠ 0) : g_rk (g_oP T p) = 6 := by
  unfold g_oP at h ⊢
  by_cases c1 : g_sg T p 42 = true
  · rw [if_pos c1]; rfl
  · rw [if_neg c1] at h ⊢
    by_cases c2 : g_sg T p 47 = true
    · rw [if_pos c2]; rfl
    · rw [if_neg c2] at h ⊢
      by_cases c3 : g_sg T p 37 = true
      · rw [if_pos c3]; rfl
      · rw [if_neg c3] at h; exact absurd rfl h
theorem g_nn_app (r r' : List Nat) : g_nn (r ++ r') = g_nn r + g_nn r' := by unfold g_nn; rw [List.countP_append]
theorem g_nn_1 {c : Nat} (h : c ≠ 10018) : g_nn [c] = 0 := by unfold g_nn; rw [List.countP_cons, decide_eq_false h]; rfl
theorem g_lpA {k R C bb : Nat} {op : Nat → Nat} {pt : g_F} (h7 : k ≤ 7) (hop : R = 5 ∧ op = g_oS T ∨ R = 6 ∧ op = g_oP T) (hj : g_jn T false op) (hp : gSm d T b w f0 k (R + 1) C pt) (gp : g_gd T false bb pt) (kk ph pr : Nat) (os : List Nat) (fs : List g_Fr) (hkk : kk ≤ 6) (hph : ph < 2) (hfs : fs.length ≤ 7 - k) (hC : f_oc fs + os.length + (C + 1) ≤ 400) (hos : ∀ c, c ∈ os.head? → g_rk c < R) : ∀ (m : Nat) (S : z_S) (p : Nat) (cs cs1 r : List Nat), mG S T b w f0 p cs1 ((kk, ph, false, pr, r ++ os) :: fs) (7 - k) true → cs = cs1 ++ r → (∀ c, c ∈ r → R ≤ g_rk c) → g_nn r = 0 → r.length + R ≤ 7 → (R ≤ 5 → g_oP T p = 0) → cs.length + f_oc fs + os.length + fs.length ≤ p → 1 ≤ p → T.length < p + m → gPo d S T b w f0 k R kk ph pr os fs (g_lp T op pt m p cs)
  | 0, S, p, cs, cs1, r, h, _, _, _, _, _, _, _, hm => by
    have := h.1.2.1
    omega
  | m + 1, S, p, cs, cs1, r, h, hcs, hr, hnn, hrl, hin, hb, hp1, hm => by
    rw [g_lp]
    have hT := h.1.2.1
    have h1600 := h.1.1.2.2.1
    have hcl : cs.length = cs1.length + r.length := by rw [hcs, List.length_append]
    by_cases c : op p = 0
    · rw [if_pos c]
      refine ⟨S, r, cs1, rfl, onM.refl h.W, h, hcs, hr, hnn, hrl, fun z => ?_, fun z => ?_⟩
      · rcases hop with ⟨q1, q2⟩ | ⟨q1, q2⟩
        · exact hin (by omega)
        · rw [q2] at c; exact c
      · rcases hop with ⟨q1, q2⟩ | ⟨q1, q2⟩
        · rw [q2] at c; exact c
        · omega
    · rw [if_neg c]
      obtain ⟨hk, _⟩ := hj p c
      have ek := g_en_k hT (show g_kd T p ≠ 0 by omega)
      have hrk : g_rk (op p) = R ∧ op p ≠ 10018 := by
        rcases hop with ⟨q1, q2⟩ | ⟨q1, q2⟩
        · rw [q2] at c ⊢
          have := g_rk_S c
          refine ⟨by omega, fun z => ?_⟩
          rw [z] at this
          cases this
        · rw [q2] at c ⊢
          have := g_rk_P c
          refine ⟨by omega, fun z => ?_⟩
          rw [z] at this
          cases this
      obtain ⟨S1, a1, a2, a3⟩ := t_ar (d := d) (R := R) (n := op p) (by
        rcases hop with ⟨q1, q2⟩ | ⟨q1, q2⟩
        · exact Or.inl ⟨q1, by rw [q2]⟩
        · exact Or.inr ⟨q1, by rw [q2]⟩) c h hkk hph (by omega) hos hr (by rw [List.length_append]; omega) (by omega) (by omega) (by omega)
      rw [hnn, Nat.sub_zero, ← hcs] at a3
      have hl1 : (op p :: os).length = os.length + 1 := rfl
      have sim := hp S1 (g_en T p) cs kk ph false pr (op p :: os) fs a3 hkk hph (fun z => by rw [show f_b (kk, ph, false, pr, op p :: os) = false from rfl, Bool.and_false] at z; cases z) hfs (by omega) (by omega) (by omega) (fun x hx => by
        have : x = op p := by simpa using hx.symm
        rw [this]; omega)
      cases hg : pt (g_en T p) cs with
      | inl x =>
        rw [hg] at sim
        exact gPo.tr sim a1 a2
      | inr x =>
        rw [hg] at sim
        obtain ⟨S2, r1, cs2, b1, b2, b3, b4, b5, b6, b7, b8, b9⟩ := sim
        have l2 := gp.len ek.2 hg
        show gPo d S T b w f0 k R kk ph pr os fs (g_lp T op pt m x.1 (x.2 ++ [op p]))
        refine (g_lpA h7 hop hj hp gp kk ph pr os fs hkk hph hfs hC hos m S2 x.1 (x.2 ++ [op p]) cs2 (r1 ++ [op p]) (by rw [List.append_assoc]; exact b3) (by rw [b4, List.append_assoc]) (fun y hy => ?_) (by rw [g_nn_app, b6, g_nn_1 hrk.2]) (by rw [List.length_append, List.length_singleton]; omega) (fun z => b8 (by omega)) (by rw [List.length_append, List.length_singleton]; omega) (by omega) (by omega)).tr (a1.trans b1) (a2.trans b2)
        rcases List.mem_append.mp hy with z | z
        · have := b5 y z; omega
        · rw [List.mem_singleton.mp z]; omega
theorem g_sqA {k R C bb : Nat} {op : Nat → Nat} {pt : g_F} (h7 : k ≤ 7) (hop : R = 5 ∧ op = g_oS T ∨ R = 6 ∧ op = g_oP T) (hj : g_jn T false op) (hp : gSm d T b w f0 k (R + 1) C pt) (gp : g_gd T false bb pt) : gSm d T b w f0 k R (C + 1) (g_sq T op pt) := by
  intro S p cs kk ph bg pr os fs h hkk hph hns hfs hC hb hp1 hos
  have sim := hp S p cs kk ph bg pr os fs h hkk hph hns hfs (by omega) hb hp1 (fun c hc => by have := hos c hc; omega)
  have hT := h.1.2.1
  have h1600 := h.1.1.2.2.1
  unfold g_sq
  cases hg : pt p cs with
  | inl x =>
    rw [hg] at sim
    exact sim
  | inr x =>
    rw [hg] at sim
    obtain ⟨S2, r1, cs2, b1, b2, b3, b4, b5, b6, b7, b8, b9⟩ := sim
    have l2 := gp.len hT hg
    show gPo d S T b w f0 k R kk ph pr os fs (g_lp T op pt 1600 x.1 x.2)
    exact (g_lpA h7 hop hj hp gp kk ph pr os fs hkk hph hfs hC hos 1600 S2 x.1 x.2 cs2 r1 b3 b4 (fun y hy => by have := b5 y hy; omega) b6 (by omega) (fun z => b8 (by omega)) (by omega) (by omega) (by omega)).tr b1 b2
end GX
