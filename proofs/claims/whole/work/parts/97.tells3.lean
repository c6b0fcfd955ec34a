/-! TELLS: the reference; both. -/
section TZD
variable {d b : Nat} {S : z_S} {A : q_A} {k : Nat} {x y : Int32}
theorem m257_a {y1 y2 : Int32} : ∀ (m i : Nat) (S : z_S), i + m = 17 → z_W S → (∀ w, w < i → gI S 440 w = nI 0) → ∃ S', b257_2 d y1 y2 (nI i) S = b257_26 d y1 y2 (0 : Int32) (1 : Int32) S' ∧ onM (fun c _ => c = 440) S S' ∧ ∀ w, w < 17 → gI S' 440 w = nI 0
  | 0, i, S, hi, hW, h => by
    have e := b257_2_eq d y1 y2 (nI i) S hW
    rw [if_pos (show (16 : Int32) < nI i from (nI_ltI (a := 16) (by omega) (by omega)).mpr (by omega))] at e
    exact ⟨S, e, onM.refl hW, fun w hw => h w (by omega)⟩
  | m + 1, i, S, hi, hW, h => by
    have e := b257_2_eq d y1 y2 (nI i) S hW
    rw [if_neg (show ¬ (16 : Int32) < nI i from fun z => by have := (nI_ltI (a := 16) (by omega) (by omega)).mp z; omega), if_pos ((ni_in (by omega)).mpr (by omega)), show (nI i).toNatClampNeg = i from nI_clamp (by omega), show nI i + (1 : Int32) = nI (i + 1) from nI_add i 1] at e
    have o : onM (fun c _ => c = 440) S (sI S 440 i (0 : Int32)) := onM_sI (D := fun c _ => c = 440) (c := 440) (onM.refl hW) rfl
    obtain ⟨S', a1, a2, a3⟩ := m257_a m (i + 1) _ (by omega) o.W (fun w hw => by
      rw [gI_sI, if_pos rfl]
      by_cases z : w = i
      · rw [if_pos z]; rfl
      · rw [if_neg z]; exact h w (by omega))
    exact ⟨S', e.trans a1, o.trans a2, a3⟩
theorem mLf.on {D : Nat → Nat → Prop} {S' : z_S} {n : Nat} (h : mLf S A k n) (ho : onM D S S') (hd : ∀ c j, c = 438 ∨ c = 439 → ¬ D c j) : mLf S' A k n := fun T h1 h2 => by
  obtain ⟨a1, a2⟩ := h T h1 h2
  exact ⟨by rw [ho.I (hd _ _ (Or.inl rfl))]; exact a1, fun l r u v w => by rw [ho.I (hd _ _ (Or.inr rfl))]; exact a2 l r u v w⟩
theorem q_wg_le {i : Nat} : q_wg A k i ≤ 40 := by
  unfold q_wg
  cases q_gT A k (i + 1) <;> decide
theorem m257_l {l r : Nat} (hA : aOk A) (hk : k < p_L (a_P A)) (hw : q_w (a_s A) k = 255) (hl : l ≤ 30) (hl2 : q_n (a_s A) + l ≤ 999) (hr : r < p_R (a_P A)) : ∀ (m i : Nat) (S : z_S), i + m = 40 → z_W S → mLf S A k 41 → (∀ w, w < 17 → gI S 440 w = nI (q_gr (q_wo A k l r) (q_wg A k) i w)) → ∃ S', b257_26 d (nI l) (nI r) (nI (q_mx (q_gr (q_wo A k l r) (q_wg A k) i) 17)) (nI (i + 1)) S = some (nI (q_mb A k l r), S') ∧ onM (fun c _ => c = 440) S S'
  | 0, i, S, hi, hW, hL, hg => by
    have e := b257_26_eq d (nI l) (nI r) (nI (q_mx (q_gr (q_wo A k l r) (q_wg A k) i) 17)) (nI (i + 1)) S hW
    rw [if_pos (show (40 : Int32) < nI (i + 1) from (nI_ltI (a := 40) (by omega) (by omega)).mpr (by omega))] at e
    refine ⟨S, ?_, onM.refl hW⟩
    rw [e, show i = 40 by omega]
    rfl
  | m + 1, i, S, hi, hW, hL, hg => by
    have hR := hA.1.1
    have e := b257_26_eq d (nI l) (nI r) (nI (q_mx (q_gr (q_wo A k l r) (q_wg A k) i) 17)) (nI (i + 1)) S hW
    obtain ⟨L1, L2⟩ := hL (i + 1) (by omega) (by omega)
    have g : gI S 438 (nI (i + 1)).toNatClampNeg = bI (q_gT A k (i + 1)) := by rw [nI_clamp (by omega)]; exact L1
    have x1 : (16 : Int32) * (((31 : Int32) * nI (i + 1)) + nI l) + nI r = nI (496 * (i + 1) + 16 * l + r) := by
      rw [show (31 : Int32) * nI (i + 1) = nI (31 * (i + 1)) from pk_mul 31 _, nI_add, show (16 : Int32) * nI (31 * (i + 1) + l) = nI (16 * (31 * (i + 1) + l)) from pk_mul 16 _, nI_add]
      congr 1
      omega
    have gw : gI S 439 (nI (496 * (i + 1) + 16 * l + r)).toNatClampNeg + (1 : Int32) = nI (q_wo A k l r i) := by
      rw [nI_clamp (by omega), L2 l r hl hl2 hr, eO_o1]
      unfold q_wo
      rw [show min (i + 1) 40 = i + 1 by omega]
    have h17 : q_wo A k l r i < 17 := q_o1_lt fun k' hk' => ((q_ns_G hA.1 (q_arr_G hA.1 hA.2.1 hk hw) l).Bd hA.1).2.2.2.2.2.1 r k' hk'
    have hle : ∀ w, q_gr (q_wo A k l r) (q_wg A k) i w ≤ 40 * i := q_gr_le (fun j => q_wg_le) i
    have hle2 := hle (q_wo A k l r i)
    have hle3 := q_mx_le hle 17
    have gg : gI S 440 (q_wo A k l r i) = nI (q_gr (q_wo A k l r) (q_wg A k) i (q_wo A k l r i)) := hg _ h17
    rw [if_neg (show ¬ (40 : Int32) < nI (i + 1) from fun z => by have := (nI_ltI (a := 40) (by omega) (by omega)).mp z; omega), if_pos ((ni_in (by omega)).mpr (by omega)), g] at e
    cases hb : q_gT A k (i + 1) with
    | false =>
      have hwg : q_wg A k i = 0 := by unfold q_wg; rw [hb]; rfl
      have hgr : q_gr (q_wo A k l r) (q_wg A k) (i + 1) = q_gr (q_wo A k l r) (q_wg A k) i := by rw [q_gr, hwg, Nat.add_zero, q_u_id]
      rw [hb, if_neg (fun w => w rfl), b257_101_eq d (nI l) (nI r) (nI (q_mx (q_gr (q_wo A k l r) (q_wg A k) i) 17)) (nI (i + 1)) S hW, show nI (i + 1) + (1 : Int32) = nI (i + 1 + 1) from nI_add (i + 1) 1, ← hgr] at e
      obtain ⟨S', a1, a2⟩ := m257_l hA hk hw hl hl2 hr m (i + 1) S (by omega) hW hL (fun w hw' => by rw [hgr]; exact hg w hw')
      rw [← hgr]
      exact ⟨S', e.trans a1, a2⟩
    | true =>
      have hwg : q_wg A k i = 1 := by unfold q_wg; rw [hb]; rfl
      rw [hb, if_pos (show ¬ bI true = (0 : Int32) by decide), x1, if_pos ((ni_in (by omega)).mpr (by omega)), gw, if_pos ((ni_in (by omega)).mpr h17), if_pos ((ni_in (by omega)).mpr h17), if_pos ((ni_in (by omega)).mpr h17), if_pos ((ni_in (by omega)).mpr h17), show (nI (q_wo A k l r i)).toNatClampNeg = q_wo A k l r i from nI_clamp (by omega), gI_sI, if_pos rfl, if_pos rfl, gg, show nI (q_gr (q_wo A k l r) (q_wg A k) i (q_wo A k l r i)) + (1 : Int32) = nI (q_gr (q_wo A k l r) (q_wg A k) i (q_wo A k l r i) + 1) from nI_add _ 1] at e
      have o : onM (fun c _ => c = 440) S (sI S 440 (q_wo A k l r i) (nI (q_gr (q_wo A k l r) (q_wg A k) i (q_wo A k l r i) + 1))) := onM_sI (D := fun c _ => c = 440) (c := 440) (onM.refl hW) rfl
      have hmx : q_mx (q_gr (q_wo A k l r) (q_wg A k) (i + 1)) 17 = max (q_mx (q_gr (q_wo A k l r) (q_wg A k) i) 17) (q_gr (q_wo A k l r) (q_wg A k) i (q_wo A k l r i) + 1) := by
        rw [q_gr, q_mx_u (Nat.le_add_right _ _), if_pos h17, hwg]
      have hnew : ∀ w, w < 17 → gI (sI S 440 (q_wo A k l r i) (nI (q_gr (q_wo A k l r) (q_wg A k) i (q_wo A k l r i) + 1))) 440 w = nI (q_gr (q_wo A k l r) (q_wg A k) (i + 1) w) := fun w hw' => by
        rw [gI_sI, if_pos rfl, q_gr]
        by_cases z : w = q_wo A k l r i
        · rw [if_pos z, z, q_us, hwg]
        · rw [if_neg z, q_un z]; exact hg w hw'
      obtain ⟨S', a1, a2⟩ := m257_l hA hk hw hl hl2 hr m (i + 1) _ (by omega) o.W (hL.on o fun c j z => by omega) hnew
      refine ⟨S', ?_, o.trans a2⟩
      rw [e]
      by_cases c : q_gr (q_wo A k l r) (q_wg A k) i (q_wo A k l r i) + 1 ≤ q_mx (q_gr (q_wo A k l r) (q_wg A k) i) 17
      · rw [if_pos ((nI_leI (by omega) (by omega)).mpr c), b257_100_eq d (nI l) (nI r) (nI (i + 1)) _ _ o.W, b257_101_eq d (nI l) (nI r) _ (nI (i + 1)) _ o.W, show nI (i + 1) + (1 : Int32) = nI (i + 1 + 1) from nI_add (i + 1) 1]
        rw [show q_mx (q_gr (q_wo A k l r) (q_wg A k) (i + 1)) 17 = q_mx (q_gr (q_wo A k l r) (q_wg A k) i) 17 by rw [hmx]; omega] at a1
        exact a1
      · rw [if_neg (fun z => c ((nI_leI (by omega) (by omega)).mp z)), b257_100_eq d (nI l) (nI r) (nI (i + 1)) _ _ o.W, b257_101_eq d (nI l) (nI r) _ (nI (i + 1)) _ o.W, show nI (i + 1) + (1 : Int32) = nI (i + 1 + 1) from nI_add (i + 1) 1]
        rw [show q_mx (q_gr (q_wo A k l r) (q_wg A k) (i + 1)) 17 = q_gr (q_wo A k l r) (q_wg A k) i (q_wo A k l r i) + 1 by rw [hmx]; omega] at a1
        exact a1
theorem m257 {l r : Nat} (hA : aOk A) (hk : k < p_L (a_P A)) (hw : q_w (a_s A) k = 255) (hl : l ≤ 30) (hl2 : q_n (a_s A) + l ≤ 999) (hr : r < p_R (a_P A)) (hW : z_W S) (hL : mLf S A k 41) : ∃ S', fI (d + 1) 257 [.ref 396, .int (nI l), .int (nI r)] S = some (nI (q_mb A k l r), S') ∧ onM (fun c _ => c = 440) S S' := by
  have e := e257 d (nI l) (nI r) S hW
  obtain ⟨S1, a1, a2, a3⟩ := m257_a (d := d) (y1 := nI l) (y2 := nI r) 17 0 S (by omega) hW (fun w hw => by omega)
  obtain ⟨S2, b1, b2⟩ := m257_l (d := d) hA hk hw hl hl2 hr 40 0 S1 (by omega) a2.W (hL.on a2 fun c j z => by omega) (fun w hw => a3 w hw)
  have z : q_mx (q_gr (q_wo A k l r) (q_wg A k) 0) 17 = 0 := rfl
  rw [z] at b1
  exact ⟨S2, (e.trans a1).trans b1, a2.trans b2⟩
def mTl (a : Option (Nat × Nat × Nat)) (y4 y5 : Int32) : Prop := match a with
  | none => y4 = -nI 1 ∧ y5 = nI 100000000
  | some (l, r, v) => l ≤ 30 ∧ r < 16 ∧ v ≤ 1600 ∧ y4 = nI (16 * l + r) ∧ y5 = nI v
def q_tv (a : Option (Nat × Nat × Nat)) (y : Int32) : Int32 := match a with
  | none => -nI 1
  | some (l, r, v) => if y = 0 then nI l else if y = 1 then nI r else nI v
theorem m258_e {a : Option (Nat × Nat × Nat)} {y4 y5 : Int32} (hW : z_W S) (ha : mTl a y4 y5) : b258_124 d y y4 y5 S = some (q_tv a y, S) := by
  have e := b258_124_eq d y y4 y5 S hW
  cases a with
  | none =>
    rw [if_neg (fun w => w ha.1)] at e
    exact e
  | some t =>
    obtain ⟨l, r, v⟩ := t
    obtain ⟨h1, h2, h3, h4, h5⟩ := ha
    have h6 : y4 / (16 : Int32) = nI l := by
      rw [h4, show nI (16 * l + r) / (16 : Int32) = nI ((16 * l + r) / 16) from pk_div (d := 16) (by omega) (by decide) (by decide)]
      congr 1
      omega
    have h7 : y4 - nI l * (16 : Int32) = nI r := by
      rw [h4, show nI l * (16 : Int32) = nI (l * 16) from pk_mul l 16, pk_sub (by omega)]
      congr 1
      omega
    rw [if_pos (show ¬ y4 = (-1 : Int32) from fun w => (ni_eqm (a := 16 * l + r) (by omega)).mp (h4.symm.trans w)), h6, h7, h5] at e
    rw [h5, e]
    show _ = some (if y = 0 then nI l else if y = 1 then nI r else nI v, S)
    by_cases c0 : y = 0
    · rw [if_neg (fun w => w c0), if_pos c0]
    · rw [if_pos c0, if_neg c0]
      by_cases c1 : y = 1
      · rw [if_neg (fun w => w c1), if_pos c1]
      · rw [if_pos c1, if_neg c1]
theorem m258_r {l : Nat} {y3 : Int32} (hA : aOk A) (hk : k < p_L (a_P A)) (hw : q_w (a_s A) k = 255) (hl : l ≤ 30) (hl2 : q_n (a_s A) + l ≤ 999) : ∀ (m r : Nat) (S : z_S) (a : Option (Nat × Nat × Nat)) (y4 y5 : Int32), r + m = p_R (a_P A) → cM S b (a_P A) → mLf S A k 41 → mTl a y4 y5 → ∃ S' y4' y5', b258_64 (d + 1) y y3 y4 y5 (nI l) (nI r) S = b258_45 (d + 1) y y3 y4' y5' (nI (l + 1)) S' ∧ onM (fun c _ => c = 440) S S' ∧ mTl (q_tr A k l m r a) y4' y5'
  | 0, r, S, a, y4, y5, hi, hM, hL, ha => by
    have hR := hA.1.1
    have hb := hM.2.1
    have e := b258_64_eq (d + 1) y y3 y4 y5 (nI l) (nI r) S hM.1
    have g : gI S 398 (nI b).toNatClampNeg = nI (p_R (a_P A)) := by rw [nI_clamp (by omega)]; exact hM.2.2.2.1.1
    rw [hM.2.2.1, if_pos ((ni_in (by omega)).mpr (by omega)), g, if_pos ((nI_leI (by omega) (by omega)).mpr (by omega)), show nI l + (1 : Int32) = nI (l + 1) from nI_add l 1] at e
    exact ⟨S, y4, y5, e, onM.refl hM.1, ha⟩
  | m + 1, r, S, a, y4, y5, hi, hM, hL, ha => by
    have hR := hA.1.1
    have hb := hM.2.1
    have e := b258_64_eq (d + 1) y y3 y4 y5 (nI l) (nI r) S hM.1
    have g : gI S 398 (nI b).toNatClampNeg = nI (p_R (a_P A)) := by rw [nI_clamp (by omega)]; exact hM.2.2.2.1.1
    obtain ⟨S1, a1, a2⟩ := m257 (d := d) hA hk hw hl hl2 (show r < p_R (a_P A) by omega) hM.1 hL
    have hMB : q_mb A k l r ≤ 40 * 40 := q_mx_le (q_gr_le (fun j => q_wg_le) 40) 17
    rw [hM.2.2.1, if_pos ((ni_in (by omega)).mpr (by omega)), g, if_neg (show ¬ nI (p_R (a_P A)) ≤ nI r from fun z => by have := (nI_leI (by omega) (by omega)).mp z; omega), a1, zb_some, b258_112_eq (d + 1) y y3 _ _ (nI l) (nI r) S1 a2.W, b258_112_eq (d + 1) y y3 _ _ (nI l) (nI r) S1 a2.W, show nI r + (1 : Int32) = nI (r + 1) from nI_add r 1, show (16 : Int32) * nI l = nI (16 * l) from pk_mul 16 l, nI_add] at e
    have hM1 : cM S1 b (a_P A) := hM.on a2 fun c j z => by omega
    have hL1 : mLf S1 A k 41 := hL.on a2 fun c j z => by omega
    rw [q_tr]
    generalize q_mb A k l r = M at *
    cases a with
    | none =>
      obtain ⟨u1, u2⟩ := ha
      rw [u2, if_pos ((nI_ltI (by omega) (by omega)).mpr (by omega))] at e
      obtain ⟨S', z4, z5, b1, b2, b3⟩ := m258_r hA hk hw hl hl2 m (r + 1) S1 (some (l, r, M)) _ _ (by omega) hM1 hL1 ⟨hl, by omega, by omega, rfl, rfl⟩
      rw [u2]
      exact ⟨S', z4, z5, e.trans b1, a2.trans b2, b3⟩
    | some t =>
      obtain ⟨l0, r0, v0⟩ := t
      obtain ⟨h1, h2, h3, h4, h5⟩ := ha
      subst h5
      show ∃ S' y4' y5', _ = _ ∧ _ ∧ mTl (q_tr A k l m (r + 1) (if M < v0 then some (l, r, M) else some (l0, r0, v0))) y4' y5'
      by_cases c : M < v0
      · rw [if_pos ((nI_ltI (by omega) (by omega)).mpr c)] at e
        rw [if_pos c]
        obtain ⟨S', z4, z5, b1, b2, b3⟩ := m258_r hA hk hw hl hl2 m (r + 1) S1 (some (l, r, M)) _ _ (by omega) hM1 hL1 ⟨hl, by omega, by omega, rfl, rfl⟩
        exact ⟨S', z4, z5, e.trans b1, a2.trans b2, b3⟩
      · rw [if_neg (fun z => c ((nI_ltI (by omega) (by omega)).mp z))] at e
        rw [if_neg c]
        obtain ⟨S', z4, z5, b1, b2, b3⟩ := m258_r hA hk hw hl hl2 m (r + 1) S1 (some (l0, r0, v0)) _ _ (by omega) hM1 hL1 ⟨h1, h2, h3, h4, rfl⟩
        exact ⟨S', z4, z5, e.trans b1, a2.trans b2, b3⟩
theorem m258_n {y3 : Int32} (hA : aOk A) (hk : k < p_L (a_P A)) (hw : q_w (a_s A) k = 255) (h3 : ¬ y3 ≤ 0) (hm0 : 0 < p_m (a_P A)) : ∀ (m l : Nat) (S : z_S) (a : Option (Nat × Nat × Nat)) (y4 y5 : Int32), l + m = 31 → mA S A → mLf S A k 41 → mTl a y4 y5 → ∃ S', b258_45 (d + 2) y y3 y4 y5 (nI l) S = some (q_tv (q_tn A k m l a) y, S') ∧ onM (fun c _ => c = 440) S S'
  | 0, l, S, a, y4, y5, hi, h, hL, ha => by
    have e := b258_45_eq (d + 2) y y3 y4 y5 (nI l) S h.W
    have a0 : fI (d + 2) 235 [.ref 396, .int (nI l), .int (0 : Int32), .int (30 : Int32)] S = _ := m235 (d := d) (a := 0) (c := 30) h hA (by omega) (by omega)
    rw [nI_toInt (by omega)] at a0
    rw [a0, zb_some, decide_eq_false (p := ((0 : Nat) : Int) ≤ (l : Int) ∧ _) (by omega), Bool.and_false, if_pos (by decide)] at e
    exact ⟨S, e.trans (m258_e h.W ha), onM.refl h.W⟩
  | m + 1, l, S, a, y4, y5, hi, h, hL, ha => by
    have e := b258_45_eq (d + 2) y y3 y4 y5 (nI l) S h.W
    have a0 : fI (d + 2) 235 [.ref 396, .int (nI l), .int (0 : Int32), .int (30 : Int32)] S = _ := m235 (d := d) (a := 0) (c := 30) h hA (by omega) (by omega)
    rw [nI_toInt (by omega)] at a0
    rw [q_tn]
    by_cases c1 : q_n (a_s A) + l ≤ 999
    · rw [if_pos c1]
      rw [a0, zb_some, decide_eq_true (p := ((0 : Nat) : Int) ≤ (l : Int) ∧ _) (by omega), decide_eq_true hm0, if_neg (by decide), if_neg h3] at e
      obtain ⟨b, hM⟩ := h.2.1
      obtain ⟨S1, z4, z5, b1, b2, b3⟩ := m258_r (d := d + 1) (b := b) (y := y) (y3 := y3) hA hk hw (by omega) c1 (p_R (a_P A)) 0 S a y4 y5 (by omega) hM hL ha
      have b1' : b258_64 (d + 2) y y3 y4 y5 (nI l) (0 : Int32) S = _ := b1
      obtain ⟨S2, g1, g2⟩ := m258_n hA hk hw h3 hm0 m (l + 1) S1 _ z4 z5 (by omega) (h.scr hA b2 fun c j z => by unfold mScr; omega) (hL.on b2 fun c j z => by omega) b3
      exact ⟨S2, (e.trans b1').trans g1, b2.trans g2⟩
    · rw [if_neg c1]
      rw [a0, zb_some, decide_eq_false (p := ((0 : Nat) : Int) ≤ (l : Int) ∧ _) (by omega), Bool.and_false, if_pos (by decide)] at e
      exact ⟨S, e.trans (m258_e h.W ha), onM.refl h.W⟩
theorem cTl_v {a : Option (Nat × Nat × Nat)} (h : cTl S a) : (if ¬ y = (0 : Int32) then (if ¬ y = (1 : Int32) then some ((gI S 182 8), S) else some ((gI S 182 7), S)) else some ((gI S 182 6), S)) = some (q_tv a y, S) := by
  cases a with
  | none =>
    rw [h.1, h.2.1, h.2.2, ite_self, ite_self]
    rfl
  | some t =>
    obtain ⟨l, r, v⟩ := t
    rw [h.2.1, h.2.2.1, h.2.2.2]
    show _ = some (if y = 0 then nI l else if y = 1 then nI r else nI v, S)
    by_cases c0 : y = 0
    · rw [if_neg (fun w => w c0), if_pos c0]
    · rw [if_pos c0, if_neg c0]
      by_cases c1 : y = 1
      · rw [if_neg (fun w => w c1), if_pos c1]
      · rw [if_pos c1, if_neg c1]
theorem t_tells : twoI (d + 20) 132 258 [.int x, .int y] A A := by
  refine two_q (if q_aw A x = true ∧ 0 ≤ y.toInt ∧ y.toInt ≤ 2 then q_tv (q_te A x.toInt.toNat) y else -1) (fun S h hA => ?_) (fun S h hA => ?_)
  · have e := e132 (d + 19) x y S h.1
    rw [c152 (d := d + 17) h hA, zb_some] at e
    by_cases c : q_aw A x = true
    · obtain ⟨k, k1, rfl, k3⟩ := q_aw_t hA c
      have hL := hA.1.2.2.2.2.1
      rw [c, if_neg (by decide)] at e
      by_cases c0 : y < 0
      · rw [if_pos c0] at e
        rw [if_neg (fun z => by rw [x_lt0] at c0; omega)]
        exact ⟨S, e, onI.refl h.1⟩
      · rw [if_neg c0] at e
        have k2 : y ≤ (2 : Int32) ↔ y.toInt ≤ 2 := by rw [fa_le]; exact Iff.rfl
        rw [x_lt0] at c0
        by_cases c2 : y.toInt ≤ 2
        · rw [if_pos (k2.mpr c2)] at e
          obtain ⟨q, hH, hq⟩ := h.H hA
          rw [if_pos ⟨c, by omega, c2⟩, nI_toInt (by omega), show ((k : Int)).toNat = k from rfl]
          obtain ⟨n, S1, f, a1, a2, a3, a4, a5, a7, a6⟩ := c85 (d := d + 10) hA.2.2.2.2.2.1 hA.2.1 hA.2.2.1 k1 k3 hH h.2.2.2.2.2.2.1 h.s
          have h40 := a3.1
          have hf : ∀ j, j < n → f j = q_gT A k (j + 1) := fun j hj => by
            have := a6 j hj
            rw [← q_gT_t (by omega)] at this
            exact Bool.eq_iff_iff.mpr this
          obtain ⟨S2, b1, b2, b3⟩ := c93 (d := d + 10) (q := q) hA k1 k3 a4 a5 a7 hf (hH.on a2 fun c j z => by unfold sD; omega) (h.s.ag (a2.ag fun c j z => by unfold pD at z; unfold sD; omega)) a3
          rw [a1, Option.bind_some, b1, Option.bind_some] at e
          exact ⟨S2, e.trans (cTl_v b3), (a2.mono fun c j z => by unfold sD at z; unfold cScr; omega).trans (b2.mono fun c j z => by unfold nD2 at z; unfold cScr; omega)⟩
        · rw [if_neg (fun z => c2 (k2.mp z))] at e
          rw [if_neg (fun z => c2 z.2.2)]
          exact ⟨S, e, onI.refl h.1⟩
    · have c' : q_aw A x = false := by simpa using c
      rw [if_neg (fun z => c z.1)]
      rw [c', if_pos (by decide)] at e
      exact ⟨S, e, onI.refl h.1⟩
  · have hW := h.W
    have hL := hA.1.2.2.2.2.1
    obtain ⟨b0, hM0⟩ := h.2.1
    have e := e258 (d + 19) x y S hW
    rw [m228 (d := d + 18) hM0, zb_some] at e
    by_cases cL : ixO (p_L (a_P A)) x = true
    · obtain ⟨k, k1, rfl⟩ := ixO_t cL (by omega)
      have haw : q_aw A (nI k) = decide (q_w (a_s A) k = 255) := by unfold q_aw; rw [cL, nI_toInt (by omega)]; rfl
      have a0 : fI (d + 19) 215 [.ref 396, .int (0 : Int32), .int (nI k)] S = _ := m215 (d := d + 17) (v := 0) hM0 (by omega) (h.st (hA.mL k1)) hA.2.1 (by omega)
      rw [cL, if_neg (by decide), a0, zb_some] at e
      rw [haw, nI_toInt (by omega), show ((k : Int)).toNat = k from rfl]
      by_cases c : q_w (a_s A) k = 255
      · have a2 : fI (d + 19) 155 [.int y, .int (0 : Int32), .int (2 : Int32)] S = _ := m155 (d := d + 18) (a := 0) (b := 2) hW (by omega) (by omega)
        rw [decide_eq_true c, if_neg (by decide), a2, zb_some] at e
        rw [decide_eq_true c]
        by_cases c2 : 0 ≤ y.toInt ∧ y.toInt ≤ 2
        · rw [decide_eq_true (show ((0 : Nat) : Int) ≤ y.toInt ∧ y.toInt ≤ ((2 : Nat) : Int) from c2), if_pos (by decide)] at e
          rw [if_pos ⟨rfl, c2⟩]
          obtain ⟨S1, b1, b2, b3⟩ := m255 (d := d + 10) h hA k1 c
          rw [b1, zb_some] at e
          have hA1 := h.scr hA b2 fun c j z => z.2
          have hm0 : 0 < p_m (a_P A) := by
            rcases Nat.eq_zero_or_pos (p_m (a_P A)) with z | z
            · have := (hA.2.2.2.2.2.2.2.2.2 z).2.2.2.1; omega
            · exact z
          have h41 := q_ct_le (g := q_gT A k) 40
          unfold q_te
          by_cases c3 : q_ct (q_gT A k) 40 = 0
          · rw [if_pos c3]
            have e2 := b258_45_eq (d + 19) y (nI (q_ct (q_gT A k) 40)) (-1 : Int32) (100000000 : Int32) (0 : Int32) S1 b2.W
            have a3 : fI (d + 19) 235 [.ref 396, .int (0 : Int32), .int (0 : Int32), .int (30 : Int32)] S1 = _ := m235 (d := d + 17) (x := 0) (a := 0) (c := 30) hA1 hA (by omega) (by omega)
            rw [a3, zb_some, c3, if_pos (show nI 0 ≤ (0 : Int32) by decide), ite_self] at e2
            rw [c3] at e
            exact ⟨S1, (e.trans e2).trans (m258_e (a := none) b2.W ⟨rfl, rfl⟩), b2⟩
          · rw [if_neg c3]
            obtain ⟨S2, g1, g2⟩ := m258_n (d := d + 17) (y := y) (y3 := nI (q_ct (q_gT A k) 40)) hA k1 c (fun z => c3 (by have := (nI_leI (b := 0) (by omega) (by omega)).mp z; omega)) hm0 31 0 S1 none (-1 : Int32) (100000000 : Int32) (by omega) hA1 b3 ⟨rfl, rfl⟩
            exact ⟨S2, e.trans g1, b2.trans (g2.mono fun c j z => by unfold mScr; omega)⟩
        · rw [decide_eq_false (show ¬ (((0 : Nat) : Int) ≤ y.toInt ∧ y.toInt ≤ ((2 : Nat) : Int)) from c2), if_neg (by decide)] at e
          rw [if_neg (fun z => c2 z.2)]
          exact ⟨S, e, onM.refl hW⟩
      · rw [decide_eq_false c, if_neg (fun z => by cases z.1)]
        rw [decide_eq_false c, if_pos (by decide)] at e
        exact ⟨S, e, onM.refl hW⟩
    · have cL' : ixO (p_L (a_P A)) x = false := by simpa using cL
      have haw : q_aw A x = false := by unfold q_aw; rw [cL']; rfl
      rw [haw, if_neg (fun z => by cases z.1)]
      rw [cL', if_pos (by decide)] at e
      exact ⟨S, e, onM.refl hW⟩
end TZD
