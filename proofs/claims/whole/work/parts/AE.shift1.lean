/-! THE FORMULAS: the reference reads them; pieces. -/
section GP
variable {d b w f0 : Nat} {T : List Nat} {S : z_S} {p : Nat}
theorem m159 {k pl : Nat} (hW : z_W S) (h : gI S 396 8 = nI 0) : fV (d + 1) 159 [.ref 396, .int (nI k), .int (nI pl)] S = some (sI (sI S 396 8 (nI k)) 396 9 (nI pl)) := by
  rw [e159 d (nI k) (nI pl) S hW, h, if_pos (by decide)]
theorem m159n {k : Nat} {x y : Int32} (hW : z_W S) (h : gI S 396 8 = nI k) (hk : 0 < k) (hk2 : k < 100) : fV (d + 1) 159 [.ref 396, .int x, .int y] S = some S := by
  rw [e159 d x y S hW, h, if_neg (show ¬ nI k ≤ (0 : Int32) from fun z => by have := (nI_leI (b := 0) (by omega) (by omega)).mp z; omega)]
theorem m162 (h : mTk S T p) (hk : g_kd T p ≠ 4) : fV (d + 1) 162 [.ref 396] S = some S := by
  rw [e162 d S h.1.1, h.2.2.2.2.2.1, if_neg hk, if_pos (show eO none = (-1 : Int32) from rfl)]
theorem m162f (h : mTk S T p) (h8 : gI S 396 8 = nI 0) (hk : g_kd T p = 4) : fV (d + 2) 162 [.ref 396] S = some (sI (sI S 396 8 (nI 1)) 396 9 (nI (g_ft T p))) := by
  have hft : g_ft T p < 2147483648 := by
    have a := g_st_b h.2.1
    have b := h.1.2.2.1
    unfold g_ft
    repeat' split
    all_goals omega
  have h12 := h.2.2.2.2.2.1
  rw [if_pos hk] at h12
  have e : fV (d + 1) 159 [.ref 396, .int (1 : Int32), .int (nI (g_ft T p))] S = _ := m159 (d := d) (k := 1) (pl := g_ft T p) h.1.1 h8
  rw [e162 (d + 1) S h.1.1, h12, if_neg (show ¬ eO (some (g_ft T p)) = (-1 : Int32) from fun z => (ni_eqm (a := g_ft T p) hft).mp z), show eO (some (g_ft T p)) = nI (g_ft T p) from rfl, e, Option.bind_some]
theorem g_km_n (hk : g_kd T p ≠ 4) : g_km T p = g_kd T p := by unfold g_km; rw [if_neg hk]
theorem m164 {c : Nat} (h : mTk S T p) (hk : g_kd T p ≠ 4) (hc : c < 256) : fI (d + 1) 164 [.ref 396, .int (nI c)] S = some (bI (g_sg T p c), S) := by
  have e := e164 d (nI c) S h.1.1
  rw [b164_20_eq d S h.1.1, h.2.2.1, g_km_n hk] at e
  have h4 := g_kd_le (T := T) (p := p)
  unfold g_sg
  by_cases c1 : g_kd T p = 3
  · have h6 := h.2.2.2.2.2.2.1 (Or.inr c1)
    rw [g_vl_3 c1] at h6
    have hb := (h.1.2.2.2 _ (g_kd_3 c1).1).2
    rw [if_neg (show ¬ ¬ nI (g_kd T p) = (3 : Int32) from fun z => z (by rw [c1]; rfl)), h6] at e
    rw [decide_eq_true c1, Bool.true_and]
    by_cases c2 : g_t T (g_st T p) = c
    · rw [if_neg (fun z => z (by rw [c2]))] at e
      rw [decide_eq_true c2]; exact e
    · rw [if_pos (fun z => c2 ((nI_eq (by omega) (by omega)).mp z))] at e
      rw [decide_eq_false c2]; exact e
  · rw [if_pos (show ¬ nI (g_kd T p) = (3 : Int32) from fun z => c1 ((nI_eq (b := 3) (by omega) (by omega)).mp z))] at e
    rw [decide_eq_false c1, Bool.false_and]; exact e
theorem g_wl_vd (h : g_kd T p = 1) : g_vd (g_wl T p) ∧ (g_wl T p).length ≤ 6 := by
  obtain ⟨h1, h2, h3, h4, h5⟩ := g_kd_1 h
  constructor
  · refine g_ls_vd fun i hi => ?_
    exact (g_rn_b (f := g_l) (Nat.le_of_lt h1)).2.2.1 (g_st T p + i) (by omega) (by omega)
  · unfold g_wl
    rw [g_ls_len]; exact h5
theorem m165 {i n : Nat} (h : mTk S T p) (hk : g_kd T p ≠ 4) (hi : i < 24) (hn : q_nw (g_o i) = n) : fI (d + 1) 165 [.ref 396, .long (lN n)] S = some (bI (g_ow T p i), S) := by
  have e := e165 d (lN n) S h.1.1
  rw [b165_21_eq d S h.1.1, h.2.2.1, g_km_n hk] at e
  have h4 := g_kd_le (T := T) (p := p)
  unfold g_ow
  by_cases c1 : g_kd T p = 1
  · have h7 := h.2.2.2.2.2.2.2 c1
    obtain ⟨v1, v2⟩ := g_wl_vd c1
    obtain ⟨o1, o2, _⟩ := g_o_k hi
    have l1 := q_nw_l6 v1 v2
    have l2 := q_nw_l6 o1 o2
    rw [if_neg (show ¬ ¬ nI (g_kd T p) = (1 : Int32) from fun z => z (by rw [c1]; rfl)), h7] at e
    rw [decide_eq_true c1, Bool.true_and]
    have ie : (lg_cmp (lN (q_nw (g_wl T p))) (lN n) = (0 : Int32)) ↔ g_wl T p = g_o i := by
      rw [show (0 : Int32) = nI 0 from rfl, lgE, ← hn, fb_lN_inj (by omega) (by omega)]
      exact q_nw_inj v1 o1
    by_cases c2 : g_wl T p = g_o i
    · rw [if_neg (fun z => z (ie.mpr c2))] at e
      rw [decide_eq_true c2]; exact e
    · rw [if_pos (fun z => c2 (ie.mp z))] at e
      rw [decide_eq_false c2]; exact e
  · rw [if_pos (show ¬ nI (g_kd T p) = (1 : Int32) from fun z => c1 ((nI_eq (b := 1) (by omega) (by omega)).mp z))] at e
    rw [decide_eq_false c1, Bool.false_and]; exact e
/-! frames -/
/-- kind, phase, whether a fact begins, the pair's code, operators that wait, the last first -/
abbrev g_Fr : Type := Nat × Nat × Bool × Nat × List Nat
def f_k (F : g_Fr) : Nat := F.1
def f_h (F : g_Fr) : Nat := F.2.1
def f_b (F : g_Fr) : Bool := F.2.2.1
def f_p (F : g_Fr) : Nat := F.2.2.2.1
def f_o (F : g_Fr) : List Nat := F.2.2.2.2
def f_oc : List g_Fr → Nat
  | [] => 0
  | F :: fs => f_oc fs + (f_o F).length
def f_nt : List g_Fr → Nat
  | [] => 0
  | F :: fs => f_nt fs + (f_o F).countP (fun c => decide (c = 10018))
def f_op (fs : List g_Fr) : Nat := f_nt fs + (fs.length - 1)
def xF (S : z_S) : List g_Fr → Prop
  | [] => True
  | F :: fs => gI S 413 fs.length = nI (f_k F) ∧ gI S 414 fs.length = nI (f_h F) ∧ gI S 415 fs.length = bI (f_b F) ∧ (f_p F ≠ 0 → gI S 416 fs.length = nI (f_p F - 9975)) ∧ gI S 417 fs.length = nI (f_oc fs) ∧ (∀ i, i < (f_o F).length → gI S 418 (f_oc fs + i) = nI ((f_o F).reverse.getD i 0 - 9975)) ∧ (∀ c, c ∈ f_o F → 10006 ≤ c ∧ c ≤ 10018) ∧ xF S fs
/-- the cells of these frames -/
theorem xF.ag {S' : z_S} : ∀ {fs : List g_Fr}, xF S fs → (∀ c k, 413 ≤ c → c ≤ 417 → k < fs.length → (c = 416 → True) → gI S' c k = gI S c k) → (∀ k, k < f_oc fs → gI S' 418 k = gI S 418 k) → xF S' fs
  | [], _, _, _ => trivial
  | F :: fs, h, h1, h2 => by
    obtain ⟨a1, a2, a3, a4, a5, a6, a7, a8⟩ := h
    have hl : (F :: fs).length = fs.length + 1 := rfl
    have ho : f_oc (F :: fs) = f_oc fs + (f_o F).length := rfl
    refine ⟨by rw [h1 _ _ (by omega) (by omega) (by omega) (fun _ => trivial)]; exact a1, by rw [h1 _ _ (by omega) (by omega) (by omega) (fun _ => trivial)]; exact a2, by rw [h1 _ _ (by omega) (by omega) (by omega) (fun _ => trivial)]; exact a3, fun z => by rw [h1 _ _ (by omega) (by omega) (by omega) (fun _ => trivial)]; exact a4 z, by rw [h1 _ _ (by omega) (by omega) (by omega) (fun _ => trivial)]; exact a5, fun i hi => by rw [h2 _ (by omega)]; exact a6 i hi, a7, a8.ag (fun c k z1 z2 z3 z4 => h1 c k z1 z2 (by omega) z4) fun k hk => h2 k (by omega)⟩
/-- codes from f0 on, as the reference has them in bank b -/
def xC (S : z_S) (b w f0 : Nat) (cs : List Nat) : Prop := gI S 396 29 = nI cs.length ∧ ∀ i, i < cs.length → f0 ≤ i → q_mc w (cs.getD i 0) (gI S 410 (1600 * b + i)) (gI S 411 (1600 * b + i))
def mG (S : z_S) (T : List Nat) (b w f0 p : Nat) (cs : List Nat) (fs : List g_Fr) (o : Nat) (od : Bool) : Prop := mTk S T p ∧ gI S 396 8 = nI 0 ∧ b < 2 ∧ gI S 396 30 = nI b ∧ gI S 396 31 = nI w ∧ (w < 3 ∧ gI S 396 9 = -nI 1) ∧ f0 ≤ cs.length ∧ xC S b w f0 cs ∧ gI S 396 37 = nI fs.length ∧ gI S 396 40 = nI (f_oc fs) ∧ gI S 396 38 = nI o ∧ gI S 396 41 = bI od ∧ xF S fs
/-- what reading a formula may change -/
def g_mD (b f0 : Nat) : Nat → Nat → Prop := fun c k => c = 396 ∧ (3 ≤ k ∧ k ≤ 9 ∨ k = 12 ∨ k = 29 ∨ 37 ≤ k ∧ k ≤ 41) ∨ 413 ≤ c ∧ c ≤ 418 ∨ (c = 410 ∨ c = 411) ∧ 1600 * b + f0 ≤ k ∧ k < 1600 * b + 1600
end GP
