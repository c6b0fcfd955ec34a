/-! ACTS: keeping, remembering, both sides. -/
def a_set (A : q_A) (s : q_St) (kl : List (Nat × Nat × Nat)) (ud : List (q_St × List (Nat × Nat × Nat))) : q_A := (a_tp A, a_P A, s, kl, ud, a_mt A, a_sd A, a_ft A, a_rf A, a_im A)
def q_psh (ud : List (q_St × List (Nat × Nat × Nat))) (x : q_St × List (Nat × Nat × Nat)) : List (q_St × List (Nat × Nat × Nat)) := (x :: ud).take 20
theorem q_psh_len {ud : List (q_St × List (Nat × Nat × Nat))} {x : q_St × List (Nat × Nat × Nat)} : (q_psh ud x).length = min 20 (ud.length + 1) := by unfold q_psh; rw [List.length_take, List.length_cons]
theorem q_psh_0 {ud : List (q_St × List (Nat × Nat × Nat))} {x : q_St × List (Nat × Nat × Nat)} : (q_psh ud x).getD 0 q_ud0 = x := rfl
theorem q_psh_s {ud : List (q_St × List (Nat × Nat × Nat))} {x : q_St × List (Nat × Nat × Nat)} {j : Nat} (h : j + 1 < 20) : (q_psh ud x).getD (j + 1) q_ud0 = ud.getD j q_ud0 := by
  unfold q_psh
  rw [List.getD_eq_getElem?_getD, List.getD_eq_getElem?_getD, List.getElem?_take_of_lt h, List.getElem?_cons_succ]
theorem q_psh_mem {ud : List (q_St × List (Nat × Nat × Nat))} {x u : q_St × List (Nat × Nat × Nat)} (h : u ∈ q_psh ud x) : u = x ∨ u ∈ ud := by
  have := List.mem_of_mem_take h
  rw [List.mem_cons] at this
  exact this
theorem aOk.set {A : q_A} {s : q_St} {kl : List (Nat × Nat × Nat)} {ud : List (q_St × List (Nat × Nat × Nat))} (h : aOk A) (hm : 0 < p_m (a_P A)) (h1 : q_Gd (a_P A) s) (h2 : q_n s ≤ 999) (h3 : q_kok kl) (h4 : ∀ u, u ∈ ud → q_Gd (a_P A) u.1 ∧ q_n u.1 ≤ 999 ∧ q_kok u.2) : aOk (a_set A s kl ud) := by
  obtain ⟨g1, g2, g3, g4, g5, g6, g7, g8, g9, g10⟩ := h
  exact ⟨g1, h1, h2, h3, h4, g6, g7, g8, g9, fun z => absurd hm (by rw [show p_m (a_P A) = 0 from z]; omega)⟩
theorem aOk.psh {A : q_A} (h : aOk A) : ∀ u, u ∈ q_psh (a_ud A) (a_s A, a_kl A) → q_Gd (a_P A) u.1 ∧ q_n u.1 ≤ 999 ∧ q_kok u.2 := fun u hu => by
  rcases q_psh_mem hu with z | z
  · rw [z]; exact ⟨h.2.1, h.2.2.1, h.2.2.2.1⟩
  · exact h.2.2.2.2.1 u z
theorem q_kp_ok {kl : List (Nat × Nat × Nat)} {x : Nat × Nat × Nat} (h : q_kok kl) (hx : x.1 ≤ 999 ∧ x.2.1 < 16 ∧ x.2.2 < 16) : q_kok (q_kp kl x) := by
  intro y hy
  unfold q_kp at hy
  split at hy
  · rcases List.mem_append.mp hy with z | z
    · exact h y (List.mem_of_mem_drop z)
    · rw [List.mem_singleton] at z; rw [z]; exact hx
  · rcases List.mem_append.mp hy with z | z
    · exact h y z
    · rw [List.mem_singleton] at z; rw [z]; exact hx
theorem q_kpF_ok {n : Nat} (hn : n ≤ 999) : ∀ (l : List (Nat × Nat)) (kl : List (Nat × Nat × Nat)), q_kok kl → (∀ x, x ∈ l → x.1 < 16 ∧ x.2 < 16) → q_kok (q_kpF n kl l)
  | [], kl, h, _ => h
  | x :: l, kl, h, hl => q_kpF_ok hn l (q_kp kl (n, x.1, x.2)) (q_kp_ok h ⟨hn, hl x List.mem_cons_self⟩) (fun y hy => hl y (List.mem_cons_of_mem _ hy))
theorem q_chn_o {P : q_Pl} {T : Nat} (hP : p_Wf P) : ∀ (n : Nat) (s : q_St) (g r : Nat) (o : List (Nat × Nat)), q_Gd P s → g < p_L P → q_w s g = 255 → (r = p_f P g ∨ r = p_o P g) → (∀ x, x ∈ o → x.1 < 16 ∧ x.2 < 16) → ∀ x, x ∈ (q_chn P T n s g r o).2 → x.1 < 16 ∧ x.2 < 16
  | 0, s, g, r, o, _, _, _, _, ho, x, hx => ho x hx
  | n + 1, s, g, r, o, hG, hg, hw, hr, ho, x, hx => by
    rw [q_chn] at hx
    cases hv : q_s s r with
    | none => rw [hv] at hx; exact ho x hx
    | some v =>
      rw [hv] at hx
      obtain ⟨hG1, v2, hne⟩ := hG.put hP hg hw hr hv
      obtain ⟨nx1, nx2⟩ := q_oth_R hP v2 r
      have hw1 : q_w (q_out (q_bed s g r) v) v = 255 := q_us _ _ _
      have hsl := hG.sl hP hv
      have hL := hP.2.2.2.2.1
      have hR := hP.1
      have ho2 : ∀ x, x ∈ o ++ [(v, r)] → x.1 < 16 ∧ x.2 < 16 := fun x hx => by
        rcases List.mem_append.mp hx with z | z
        · exact ho x z
        · rw [List.mem_singleton] at z; rw [z]; exact ⟨by show v < 16; omega, by show r < 16; omega⟩
      dsimp only at hx
      split at hx
      · exact ho2 x hx
      · split at hx
        · exact q_chn_o hP n _ _ _ _ hG1 v2 hw1 nx2 ho2 x hx
        · exact ho2 x hx
theorem q_arr_o {P : q_Pl} {T k : Nat} {s : q_St} (hP : p_Wf P) (hG : q_Gd P s) (hk : k < p_L P) (hw : q_w s k = 255) : ∀ x, x ∈ (q_arr P T s k).2 → x.1 < 16 ∧ x.2 < 16 := by
  have hno : ∀ x : Nat × Nat, x ∈ ([] : List (Nat × Nat)) → x.1 < 16 ∧ x.2 < 16 := fun x hx => absurd hx List.not_mem_nil
  unfold q_arr
  cases hin : q_in P s k with
  | some s1 => exact hno
  | none =>
    dsimp only
    split
    · exact q_chn_o hP _ _ _ _ _ hG hk hw (Or.inl rfl) hno
    · split
      · exact q_chn_o hP _ _ _ _ _ hG hk hw (Or.inr rfl) hno
      · exact hno
section TI
variable {d : Nat} {S : z_S} {A : q_A} {x y : Int32}
theorem cA.set {S' : z_S} {s : q_St} {kl : List (Nat × Nat × Nat)} {ud : List (q_St × List (Nat × Nat × Nat))} {D : Nat → Nat → Prop} (h : cA S A) (ho : onI D S S') (hd : ∀ c k, D c k → 23 ≤ c ∧ c ≤ 181) (h1 : cSt S' 27 16 s) (h2 : cKp S' 37 kl) (h3 : cPa S' ud) : cA S' (a_set A s kl ud) := by
  obtain ⟨g1, g2, ⟨q, k1, k2, k3, k4, k5⟩, g4, g5, g6, g7, g8, g9, g10, g11⟩ := h
  refine ⟨ho.W, g2.ag (ho.ag fun c k z w => by have := hd c k w; omega), ⟨q, k1, by rw [ho.P]; exact k2, by rw [ho.P]; exact k3, by rw [ho.P]; exact k4, k5.ag (ho.ag fun c k z w => by have := hd c k w; omega)⟩, h1, h2, h3, g7.ag (ho.ag fun c k z w => by have := hd c k w; omega), g8.ag (ho.ag fun c k z w => by have := hd c k w; omega), g9.ag (ho.ag fun c k z w => by have := hd c k w; omega), g10.ag (ho.ag fun c k z w => by have := hd c k w; omega), g11.ag (ho.ag fun c k z w => by have := hd c k w; omega)⟩
theorem mA.set {S' : z_S} {s : q_St} {kl : List (Nat × Nat × Nat)} {ud : List (q_St × List (Nat × Nat × Nat))} {D : Nat → Nat → Prop} (h : mA S A) (hm : 0 < p_m (a_P A)) (ho : onM D S S') (hd : ∀ c k, D c k → 420 ≤ c ∧ c ≤ 434 ∨ c = 396 ∧ (k = 53 ∨ k = 54)) (h1 : mSt S' 0 s) (h2 : mKp S' 0 kl) (h3 : mPa S' ud) : mA S' (a_set A s kl ud) := by
  obtain ⟨g1, ⟨b, g2⟩, g3, g4, g5, g6, g7, g8, g9, g10, g11⟩ := h
  exact ⟨g1.ag (ho.ag fun c k z w => by have := hd c k w; omega), ⟨b, g2.on ho (fun c k z w => by have := hd c k w; omega)⟩, by rw [ho.I (fun w => by have := hd _ _ w; omega)]; exact g3, by rw [ho.I (fun w => by have := hd _ _ w; omega)]; exact g4, by rw [m_s_eq (A := a_set A s kl ud) hm]; exact h1, h2, h3, g8.ag (ho.ag fun c k z w => by have := hd c k w; omega), ⟨by rw [ho.L (fun w => by have := hd _ _ w; omega)]; exact g9.1, by rw [ho.I (fun w => by have := hd _ _ w; omega)]; exact g9.2.1, by rw [ho.I (fun w => by have := hd _ _ w; omega)]; exact g9.2.2⟩, g10.ag (ho.ag fun c k z w => by have := hd c k w; omega), g11.ag (ho.ag fun c k z w => by have := hd c k w; omega)⟩
theorem c50 {p n l r : Nat} {kl : List (Nat × Nat × Nat)} (hW : z_W S) (hp : z_K p = 4) (hk : cKp S p kl) (hn : n ≤ 999) (hl : l < 16) (hr : r < 16) : ∃ S', fV (d + 1) 50 [.ref p, .int (nI n), .int (nI l), .int (nI r)] S = some S' ∧ onI (fun c _ => c = p ∨ c = p + 1) S S' ∧ cKp S' p (q_kp kl (n, l, r)) := by
  obtain ⟨h1, h2, od, h3, h4, h5⟩ := hk
  have e := e50 d p (nI n) (nI l) (nI r) S hW hp
  have hrem : nI od + nI kl.length - (nI od + nI kl.length) / (40 : Int32) * (40 : Int32) = nI ((od + kl.length) % 40) := by
    rw [nI_add]
    exact pk_rem (a := od + kl.length) (d := 40) (by omega) (by omega) (by omega)
  have hm : (od + kl.length) % 40 < 40 := Nat.mod_lt _ (by decide)
  have hval : nI n <<< ((8 : Int32) &&& 31) ||| nI l <<< ((4 : Int32) &&& 31) ||| nI r = nI (q_kv (n, l, r)) := by
    rw [pk_shlN ((8 : Int32) &&& 31) 8 (by decide) (by omega), pk_shlN ((4 : Int32) &&& 31) 4 (by decide) (by omega)]
    have a1 : nI (n * 2 ^ 8) ||| nI (l * 2 ^ 4) = nI (2 ^ 8 * n + l * 2 ^ 4) := by
      rw [Nat.mul_comm n]
      exact fa_or_sum n (by omega)
    rw [a1, show 2 ^ 8 * n + l * 2 ^ 4 = 2 ^ 4 * (16 * n + l) by omega, fa_or_sum _ (show r < 2 ^ 4 by omega)]
    unfold q_kv
    congr 1
    show 2 ^ 4 * (16 * n + l) + r = n * 256 + l * 16 + r
    omega
  have y0 : ∀ (j : Nat) (w : Int32), gI (sI S (p + 1) j w) p 0 = nI kl.length := fun j w => by rw [gI_sI, if_neg (by omega)]; exact h2
  have y1 : ∀ (j : Nat) (w : Int32), gI (sI S (p + 1) j w) p 1 = nI od := fun j w => by rw [gI_sI, if_neg (by omega)]; exact h4
  rw [y0, y1, h2, h4, hrem, hval, if_pos ((ni_in (by omega)).mpr hm), nI_clamp (by omega)] at e
  unfold q_kp
  by_cases c : kl.length = 40
  · have hrem2 : nI od + (1 : Int32) - (nI od + (1 : Int32)) / (40 : Int32) * (40 : Int32) = nI ((od + 1) % 40) := by
      rw [show (1 : Int32) = nI 1 from rfl, nI_add]
      exact pk_rem (a := od + 1) (d := 40) (by omega) (by omega) (by omega)
    rw [if_pos (show (40 : Int32) ≤ nI kl.length by rw [c]; decide), hrem2] at e
    rw [if_pos c]
    refine ⟨_, e, ?_, by simp; omega, ?_, (od + 1) % 40, Nat.mod_lt _ (by decide), ?_, fun i hi => ?_⟩
    · exact onI_sI (D := fun c _ => c = p ∨ c = p + 1) (c := p) (onI_sI (D := fun c _ => c = p ∨ c = p + 1) (c := p + 1) (onI.refl hW) (Or.inr rfl)) (Or.inl rfl)
    · rw [gI_sI, if_pos rfl, if_neg (by decide), y0]; simp [c]
    · rw [gI_sI, if_pos rfl, if_pos rfl]
    · have hi2 : i < 40 := by simp [c] at hi; omega
      rw [gI_sI, if_neg (by omega), gI_sI, if_pos rfl]
      by_cases z : i = 39
      · rw [if_pos (by rw [c, z]; omega)]
        have : (kl.drop 1 ++ [(n, l, r)]).getD i (0, 0, 0) = (n, l, r) := by
          rw [List.getD_eq_getElem?_getD, List.getElem?_append_right (by simp [c, z]), z]
          simp [c]
        rw [this]
      · rw [if_neg (by rw [c]; omega)]
        have : (kl.drop 1 ++ [(n, l, r)]).getD i (0, 0, 0) = kl.getD (i + 1) (0, 0, 0) := by
          rw [List.getD_eq_getElem?_getD, List.getElem?_append_left (by simp [c]; omega), List.getElem?_drop, List.getD_eq_getElem?_getD, Nat.add_comm]
        rw [this, ← h5 (i + 1) (by omega)]
        congr 1
        omega
  · rw [if_neg (show ¬ (40 : Int32) ≤ nI kl.length from fun z => by have := (nI_leI (a := 40) (by omega) (by omega)).mp z; omega), show (1 : Int32) = nI 1 from rfl, nI_add] at e
    rw [if_neg c]
    refine ⟨_, e, ?_, by simp; omega, ?_, od, h3, ?_, fun i hi => ?_⟩
    · exact onI_sI (D := fun c _ => c = p ∨ c = p + 1) (c := p) (onI_sI (D := fun c _ => c = p ∨ c = p + 1) (c := p + 1) (onI.refl hW) (Or.inr rfl)) (Or.inl rfl)
    · rw [gI_sI, if_pos rfl, if_pos rfl]; simp
    · rw [gI_sI, if_pos rfl, if_neg (by decide)]; exact y1 _ _
    · rw [List.length_append, List.length_singleton] at hi
      rw [gI_sI, if_neg (by omega), gI_sI, if_pos rfl]
      by_cases z : i = kl.length
      · rw [if_pos (by rw [z])]
        simp [z]
      · have hi2 : i < kl.length := by omega
        rw [if_neg (by omega), h5 i hi2, List.getD_eq_getElem?_getD, List.getD_eq_getElem?_getD, List.getElem?_append_left hi2]
theorem c52 {p p1 : Nat} {kl : List (Nat × Nat × Nat)} (hW : z_W S) (hp : z_K p = 4) (hp1 : z_K p1 = 4) (hne : p ≠ p1) (hk : cKp S p1 kl) : ∃ S', fV (d + 1) 52 [.ref p, .ref p1] S = some S' ∧ onI (fun c _ => c = p ∨ c = p + 1) S S' ∧ cKp S' p kl := by
  obtain ⟨h1, h2, od, h3, h4, h5⟩ := hk
  have ha := zOK_4_2 hp
  have hb := zOK_4_2 hp1
  have n1 : p1 ≠ p + 1 := fun z => by rw [z] at hp1; omega
  have n2 : p1 + 1 ≠ p := fun z => by rw [z] at hb; omega
  have e := e52 d p p1 S hW hp hp1
  have x1 : gI (sI S p 0 (gI S p1 0)) p1 1 = nI od := by rw [gI_sI, if_neg (Ne.symm hne)]; exact h4
  rw [x1, h2, show ((0 : Int32)).toNatClampNeg = 0 from rfl, ci_40] at e
  refine ⟨_, e, ?_, h1, ?_, od, h3, ?_, fun i hi => ?_⟩
  · exact onI_cI (D := fun c _ => c = p ∨ c = p + 1) (onI_sI (D := fun c _ => c = p ∨ c = p + 1) (c := p) (onI_sI (D := fun c _ => c = p ∨ c = p + 1) (c := p) (onI.refl hW) (Or.inl rfl)) (Or.inl rfl)) (fun k => Or.inr rfl)
  · rw [gI_cI, if_neg (by omega), gI_sI, if_pos rfl, if_neg (by decide), gI_sI, if_pos rfl, if_pos rfl]
  · rw [gI_cI, if_neg (by omega), gI_sI, if_pos rfl, if_pos rfl]
  · rw [gI_cI, if_pos rfl, q_cpy (Nat.mod_lt _ (by decide)), gI_sI, if_neg n2, gI_sI, if_neg n2]
    exact h5 i hi
theorem c54 {s : q_St} {kl : List (Nat × Nat × Nat)} {ud : List (q_St × List (Nat × Nat × Nat))} (hW : z_W S) (hs : cSt S 27 16 s) (hB : q_Bd s) (hk : cKp S 37 kl) (hu : cPa S ud) : ∃ S', fV (d + 2) 54 [.ref 39, .ref 27, .ref 37] S = some S' ∧ onI (fun c _ => c = 39 ∨ 42 ≤ c ∧ c ≤ 181) S S' ∧ cPa S' (q_psh ud (s, kl)) := by
  obtain ⟨h1, h2, nx, h3, h4, h5⟩ := hu
  have e := e54 (d + 1) 27 37 S hW (by decide +kernel) (by decide +kernel)
  have k8 := (zAa_40 nx h3).2
  have k4 := (zAa_41 nx h3).2
  obtain ⟨S1, a1, a2, a3⟩ := c75 (d := d) (p := 42 + 7 * nx) (p1 := 27) hW k8 (by decide +kernel) (by omega) hs hB
  have k1 : cKp S1 37 kl := hk.ag (a2.ag fun c k z => by unfold pD; omega)
  obtain ⟨S2, b1, b2, b3⟩ := c52 (d := d) (p := 47 + 7 * nx) (p1 := 37) a2.W k4 (by decide +kernel) (by omega) k1
  have g1 : gI S1 39 1 = nI nx := by rw [a2.I (by unfold pD; omega)]; exact h4
  have g2 : gI S2 39 1 = nI nx := by rw [b2.I (by omega)]; exact g1
  have g0 : gI S2 39 0 = nI ud.length := by rw [b2.I (by omega), a2.I (by unfold pD; omega)]; exact h2
  have i1 : z_in (nI nx) 20 := (ni_in (by omega)).mpr h3
  have hrem : nI nx + (1 : Int32) - (nI nx + (1 : Int32)) / (20 : Int32) * (20 : Int32) = nI ((nx + 1) % 20) := by
    rw [show (1 : Int32) = nI 1 from rfl, nI_add]
    exact pk_rem (a := nx + 1) (d := 20) (by omega) (by omega) (by omega)
  rw [h4, if_pos i1, nI_clamp (by omega), a1, Option.bind_some, g1, if_pos i1, nI_clamp (by omega), b1, Option.bind_some, g2, hrem, gI_sI, if_pos rfl, if_neg (by decide), g0, show (1 : Int32) = nI 1 from rfl, nI_add] at e
  have hW3 : z_W (sI S2 39 1 (nI ((nx + 1) % 20))) := b2.W
  have a9 : fI (d + 1) 279 [.int (nI (ud.length + 1)), .int (20 : Int32)] (sI S2 39 1 (nI ((nx + 1) % 20))) = _ := c279 (d := d) (a := ud.length + 1) (b := 20) hW3 (by omega) (by omega)
  rw [a9, zb_some] at e
  have ho : onI (fun c _ => c = 39 ∨ 42 ≤ c ∧ c ≤ 181) S (sI (sI S2 39 1 (nI ((nx + 1) % 20))) 39 0 (nI (min (ud.length + 1) 20))) := onI_sI (D := fun c _ => c = 39 ∨ 42 ≤ c ∧ c ≤ 181) (c := 39) (onI_sI (D := fun c _ => c = 39 ∨ 42 ≤ c ∧ c ≤ 181) (c := 39) ((a2.mono fun c k z => by unfold pD at z; omega).trans (b2.mono fun c k z => by omega)) (Or.inl rfl)) (Or.inl rfl)
  have of2 : onI (fun c _ => c = 39) S2 (sI (sI S2 39 1 (nI ((nx + 1) % 20))) 39 0 (nI (min (ud.length + 1) 20))) := onI_sI (D := fun c _ => c = 39) (c := 39) (onI_sI (D := fun c _ => c = 39) (c := 39) (onI.refl b2.W) rfl) rfl
  refine ⟨_, e, ho, by rw [q_psh_len]; omega, ?_, (nx + 1) % 20, Nat.mod_lt _ (by decide), ?_, fun j hj => ?_⟩
  · rw [gI_sI, if_pos rfl, if_pos rfl, q_psh_len, Nat.min_comm]
  · rw [gI_sI, if_pos rfl, if_neg (by decide), gI_sI, if_pos rfl, if_pos rfl]
  · rw [q_psh_len] at hj
    cases j with
    | zero =>
      rw [q_psh_0, show ((nx + 1) % 20 + 19 - 0) % 20 = nx by omega]
      exact ⟨(a3.ag (b2.ag fun c k z => by unfold pD at z; omega)).ag (of2.ag fun c k z => by unfold pD at z; omega), b3.ag (of2.ag fun c k z => by omega)⟩
    | succ j =>
      rw [q_psh_s (by omega), show ((nx + 1) % 20 + 19 - (j + 1)) % 20 = (nx + 19 - j) % 20 by omega]
      obtain ⟨u1, u2⟩ := h5 j (by omega)
      have hne : (nx + 19 - j) % 20 ≠ nx := by omega
      have hlt : (nx + 19 - j) % 20 < 20 := Nat.mod_lt _ (by decide)
      generalize (nx + 19 - j) % 20 = t at *
      refine ⟨((u1.ag (a2.ag fun c k z => ?_)).ag (b2.ag fun c k z => ?_)).ag (of2.ag fun c k z => ?_), ((u2.ag (a2.ag fun c k z => ?_)).ag (b2.ag fun c k z => ?_)).ag (of2.ag fun c k z => ?_)⟩ <;> unfold pD at * <;> omega
end TI
