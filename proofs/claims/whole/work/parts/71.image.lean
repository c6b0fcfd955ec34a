/-! THE IMAGE. -/
def q_im0 (s : q_St) : List Nat := [q_n s / 256, q_n s % 256, q_p s / 65536, q_p s / 256 % 256, q_p s % 256]
def q_im1 (s : q_St) (i : Nat) : List Nat := q_im0 s ++ (List.range i).map (q_b (q_h s))
def q_imk (s : q_St) : Nat → List Nat
  | 0 => []
  | i + 1 => q_imk s i ++ [q_w s i] ++ [q_y s i]
def q_im2 (P : q_Pl) (s : q_St) (i : Nat) : List Nat := q_im1 s (p_R P) ++ q_imk s i
def q_im3 (P : q_Pl) (s : q_St) (i : Nat) : List Nat := q_im2 P s (p_L P) ++ [(q_l s).length] ++ (q_l s).take i
def q_ck (l : List Nat) : Nat := l.foldl (fun c b => (5 * c + b) % 251) 227
def q_im (P : q_Pl) (s : q_St) : List Nat := q_im3 P s (q_l s).length ++ [q_ck (q_im3 P s (q_l s).length)]
theorem q_im1_s (s : q_St) (i : Nat) : q_im1 s (i + 1) = q_im1 s i ++ [q_b (q_h s) i] := by
  unfold q_im1
  rw [List.range_succ, List.map_append, List.append_assoc]
  rfl
theorem q_im1_l (s : q_St) (i : Nat) : (q_im1 s i).length = 5 + i := by
  unfold q_im1 q_im0
  simp
  omega
theorem q_imk_l (s : q_St) : ∀ i, (q_imk s i).length = 2 * i
  | 0 => rfl
  | i + 1 => by rw [q_imk, List.length_append, List.length_append, q_imk_l s i]; simp; omega
theorem q_im2_l (P : q_Pl) (s : q_St) (i : Nat) : (q_im2 P s i).length = 5 + p_R P + 2 * i := by
  unfold q_im2
  rw [List.length_append, q_im1_l, q_imk_l]
theorem q_im3_l (P : q_Pl) (s : q_St) {i : Nat} (h : i ≤ (q_l s).length) : (q_im3 P s i).length = 6 + p_R P + 2 * p_L P + i := by
  unfold q_im3
  rw [List.length_append, List.length_append, q_im2_l, List.length_take]
  simp
  omega
theorem q_im3_s (P : q_Pl) (s : q_St) {i : Nat} (h : i < (q_l s).length) : q_im3 P s (i + 1) = q_im3 P s i ++ [(q_l s).getD i 0] := by
  unfold q_im3
  rw [List.take_add_one, List.getElem?_eq_getElem h, List.getD_eq_getElem?_getD, List.getElem?_eq_getElem h, ← List.append_assoc]
  rfl
theorem q_b_le (a r : Nat) : q_b a r ≤ 1 := by unfold q_b; split <;> omega
theorem q_im3_b {P : q_Pl} {s : q_St} (hB : q_Bd s) (i : Nat) : ∀ x, x ∈ q_im3 P s i → x < 256 := by
  obtain ⟨b1, b2, b3, b4, b5, b6, b7, b8, b9⟩ := hB
  have hk : ∀ i x, x ∈ q_imk s i → x < 256 := fun i => by
    induction i with
    | zero => intro x hx; exact absurd hx List.not_mem_nil
    | succ i ih =>
      intro x hx
      rw [q_imk, List.mem_append, List.mem_append, List.mem_singleton, List.mem_singleton] at hx
      rcases hx with (hx | hx) | hx
      · exact ih x hx
      · rw [hx]; exact b7 i
      · rw [hx]; have := b8 i; omega
  intro x hx
  unfold q_im3 q_im2 q_im1 q_im0 at hx
  rw [List.mem_append, List.mem_append, List.mem_append, List.mem_append, List.mem_singleton] at hx
  rcases hx with (((hx | hx) | hx) | hx) | hx
  · simp only [List.mem_cons, List.not_mem_nil, or_false] at hx
    rcases hx with hx | hx | hx | hx | hx <;> omega
  · rw [List.mem_map] at hx
    obtain ⟨r, _, hr⟩ := hx
    have := q_b_le (q_h s) r
    omega
  · exact hk _ x hx
  · omega
  · have := b9 x (List.mem_of_mem_take hx); omega
theorem q_ck_F : ∀ (l : List Nat) (c : Nat), c < 251 → l.foldl (fun c b => (5 * c + b) % 251) c < 251
  | [], _, h => h
  | _ :: l, _, _ => q_ck_F l _ (Nat.mod_lt _ (by decide))
theorem q_ck_lt (l : List Nat) : q_ck l < 251 := q_ck_F l 227 (by decide)
theorem q_ck_s {l : List Nat} {i : Nat} (h : i < l.length) : q_ck (l.take (i + 1)) = (5 * q_ck (l.take i) + l.getD i 0) % 251 := by
  unfold q_ck
  rw [List.take_add_one, List.getElem?_eq_getElem h, List.getD_eq_getElem?_getD, List.getElem?_eq_getElem h, List.foldl_append]
  rfl
section TM
variable {d q : Nat} {S S0 : z_S} {A : q_A} {x y : Int32} {s : q_St} {P : q_Pl}
def iD : Nat → Nat → Prop := fun c _ => c = 393 ∨ c = 394
def jD : Nat → Nat → Prop := fun c k => c = 441 ∨ c = 396 ∧ k = 71
theorem c43 {l : List Nat} {b : Nat} (hW : z_W S) (h : xTp S 393 0 394 l) (hl : l.length < 61) : ∃ S', fV (d + 1) 43 [.ref 393, .int (nI b)] S = some S' ∧ onI iD S S' ∧ xTp S' 393 0 394 (l ++ [b]) := by
  have e := e43 d (nI b) S hW
  have e1 : gI (sI S 394 (gI S 393 0).toNatClampNeg (nI b)) 393 0 = nI l.length := by rw [gI_sI, if_neg (by decide)]; exact h.1
  rw [e1, h.1, if_neg (fun z => by have := (nI_leI (a := 61) (by omega) (by omega)).mp z; omega), if_pos ((ni_in (by omega)).mpr hl), nI_clamp (by omega), show (1 : Int32) = nI 1 from rfl, nI_add] at e
  exact ⟨_, e, onI_sI (D := iD) (c := 393) (onI_sI (D := iD) (c := 394) (onI.refl hW) (Or.inr rfl)) (Or.inl rfl), h.push (by decide)⟩
theorem m267 {l : List Nat} {b : Nat} (hW : z_W S) (h : xTp S 396 71 441 l) (hl : l.length < 70) (hx : x &&& (255 : Int32) = nI b) : ∃ S', fV (d + 1) 267 [.ref 396, .int x] S = some S' ∧ onM jD S S' ∧ xTp S' 396 71 441 (l ++ [b]) := by
  have e := e267 d x S hW
  have e1 : ∀ v, gI (sI S 441 (gI S 396 71).toNatClampNeg v) 396 71 = nI l.length := fun v => by rw [gI_sI, if_neg (by decide)]; exact h.1
  rw [e1, h.1, if_pos ((ni_in (by omega)).mpr hl), nI_clamp (by omega), show (1 : Int32) = nI 1 from rfl, nI_add, hx] at e
  exact ⟨_, e, onM_sI (D := jD) (c := 396) (onM_sI (D := jD) (c := 441) (onM.refl hW) (Or.inl rfl)) (Or.inr ⟨rfl, rfl⟩), h.push (by decide)⟩
theorem n255 {n : Nat} (h : n < 256) : nI n &&& (255 : Int32) = nI n := (pk_andN (by omega) 8 (by decide)).trans (by rw [Nat.mod_eq_of_lt (by omega)])
theorem c42_1 (hs : cSt S0 27 16 s) (hB : q_Bd s) (hq : z_K q = 6) (hqr : q < 393) (hP : cPl S0 q P) (hW : p_Wf P) : ∀ (m i : Nat) (S : z_S), i + m = p_R P → onI iD S0 S → xTp S 393 0 394 (q_im1 s i) → ∃ S', b42_68 (d + 1) 27 q (nI i) S = b42_96 (d + 1) 27 q (nI 0) S' ∧ onI iD S0 S' ∧ xTp S' 393 0 394 (q_im1 s (p_R P))
  | 0, i, S, hi, ho, hx => by
    have hR := hW.1
    have e := b42_68_eq (d + 1) 27 q (nI i) S ho.W (by decide +kernel) hq
    rw [ho.I (c := q) (by unfold iD; omega), hP.2.1, if_pos ((nI_leI (by omega) (by omega)).mpr (by omega))] at e
    rw [show i = p_R P by omega] at hx e
    rw [show i = p_R P by omega]
    exact ⟨S, e, ho, hx⟩
  | m + 1, i, S, hi, ho, hx => by
    have hR := hW.1
    have hBh := hB.1
    have e := b42_68_eq (d + 1) 27 q (nI i) S ho.W (by decide +kernel) hq
    have hb : ((nI (q_h s) >>> (nI i &&& 31)) &&& (1 : Int32)) = nI (q_b (q_h s) i) := ni_bit (by omega) (by omega)
    obtain ⟨S1, a1, a2, a3⟩ := c43 (d := d) (b := q_b (q_h s) i) ho.W hx (by rw [q_im1_l]; omega)
    rw [ho.I (c := q) (by unfold iD; omega), hP.2.1, if_neg (fun z => by have := (nI_leI (by omega) (by omega)).mp z; omega), ho.I (c := 27) (by unfold iD; omega), hs.2.2.1, hb, a1, Option.bind_some, show (1 : Int32) = nI 1 from rfl, nI_add] at e
    rw [← q_im1_s] at a3
    obtain ⟨S2, b1, b2, b3⟩ := c42_1 hs hB hq hqr hP hW m (i + 1) S1 (by omega) (ho.trans a2) a3
    exact ⟨S2, e.trans b1, b2, b3⟩
theorem c42_2 (hs : cSt S0 27 16 s) (hB : q_Bd s) (hq : z_K q = 6) (hqr : q < 393) (hP : cPl S0 q P) (hW : p_Wf P) : ∀ (m i : Nat) (S : z_S), i + m = p_L P → onI iD S0 S → xTp S 393 0 394 (q_im2 P s i) → ∃ S', b42_96 (d + 1) 27 q (nI i) S = b42_140 (d + 1) 27 (nI 0) S' ∧ onI iD S0 S' ∧ xTp S' 393 0 394 (q_im3 P s 0)
  | 0, i, S, hi, ho, hx => by
    have hR := hW.1
    have hL := hW.2.2.2.2.1
    have e := b42_96_eq (d + 1) 27 q (nI i) S ho.W (by decide +kernel) hq
    rw [show i = p_L P by omega] at hx
    obtain ⟨S1, a1, a2, a3⟩ := c43 (d := d) (b := (q_l s).length) ho.W hx (by rw [q_im2_l]; omega)
    rw [ho.I (c := q) (by unfold iD; omega), hP.2.2.2.2.2.2.1, if_pos ((nI_leI (by omega) (by omega)).mpr (by omega)), ho.I (c := 27) (by unfold iD; omega), hs.2.2.2.2.1, a1, Option.bind_some] at e
    refine ⟨S1, e, ho.trans a2, ?_⟩
    unfold q_im3
    rw [List.take_zero, List.append_nil]
    exact a3
  | m + 1, i, S, hi, ho, hx => by
    have hR := hW.1
    have hL := hW.2.2.2.2.1
    have e := b42_96_eq (d + 1) 27 q (nI i) S ho.W (by decide +kernel) hq
    have g2 : gI S (27 + 2) (nI i).toNatClampNeg = nI (q_w s i) := by rw [nI_clamp (by omega), ho.I (c := 27 + 2) (by unfold iD; omega)]; exact hs.2.2.2.2.2.2.1 i (by omega) (by omega)
    obtain ⟨S1, a1, a2, a3⟩ := c43 (d := d) (b := q_w s i) ho.W hx (by rw [q_im2_l]; omega)
    have g3 : gI S1 (27 + 3) (nI i).toNatClampNeg = nI (q_y s i) := by rw [nI_clamp (by omega), (ho.trans a2).I (c := 27 + 3) (by unfold iD; omega)]; exact hs.2.2.2.2.2.2.2.1 i (by omega) (by omega)
    obtain ⟨S2, b1, b2, b3⟩ := c43 (d := d) (b := q_y s i) a2.W a3 (by rw [List.length_append, q_im2_l]; simp; omega)
    rw [ho.I (c := q) (by unfold iD; omega), hP.2.2.2.2.2.2.1, if_neg (fun z => by have := (nI_leI (by omega) (by omega)).mp z; omega), if_pos ((ni_in (by omega)).mpr (by omega)), g2, a1, Option.bind_some, if_pos ((ni_in (by omega)).mpr (by omega)), g3, b1, Option.bind_some, show (1 : Int32) = nI 1 from rfl, nI_add] at e
    have hx2 : xTp S2 393 0 394 (q_im2 P s (i + 1)) := by
      unfold q_im2 at b3 ⊢
      rw [q_imk, ← List.append_assoc, ← List.append_assoc]
      exact b3
    obtain ⟨S3, f1, f2, f3⟩ := c42_2 hs hB hq hqr hP hW m (i + 1) S2 (by omega) ((ho.trans a2).trans b2) hx2
    exact ⟨S3, e.trans f1, f2, f3⟩
theorem c44_l {l : List Nat} (hl : l.length ≤ 61) (hb : ∀ x, x ∈ l → x < 256) (hW : z_W S) (hx : xTp S 393 0 394 l) : ∀ (m i : Nat), i + m = l.length → b44_6 d 394 (nI l.length) (nI (q_ck (l.take i))) (nI i) S = some (nI (q_ck l), S)
  | 0, i, hi => by
    have e := b44_6_eq d 394 (nI l.length) (nI (q_ck (l.take i))) (nI i) S hW (by decide +kernel)
    rw [if_pos ((nI_leI (by omega) (by omega)).mpr (by omega))] at e
    rw [e, List.take_of_length_le (by omega)]
  | m + 1, i, hi => by
    have e := b44_6_eq d 394 (nI l.length) (nI (q_ck (l.take i))) (nI i) S hW (by decide +kernel)
    have hil : i < l.length := by omega
    have hm : l.getD i 0 ∈ l := by rw [List.getD_eq_getElem?_getD, List.getElem?_eq_getElem hil]; exact List.getElem_mem _
    have h1 := hb _ hm
    have h2 := q_ck_lt (l.take i)
    have hr : ((5 : Int32) * nI (q_ck (l.take i)) + nI (l.getD i 0)) - ((5 : Int32) * nI (q_ck (l.take i)) + nI (l.getD i 0)) / (251 : Int32) * (251 : Int32) = nI ((5 * q_ck (l.take i) + l.getD i 0) % 251) := by
      rw [show (5 : Int32) = nI 5 from rfl, pk_mul, nI_add]
      exact pk_rem (d := 251) (by omega) (by omega) (by omega)
    have hln : z_Ln 394 = 61 := by decide +kernel
    rw [hln, if_neg (fun z => by have := (nI_leI (by omega) (by omega)).mp z; omega), if_neg (fun z => by have := (nI_leI (a := 61) (by omega) (by omega)).mp z; omega), if_pos ((ni_in (by omega)).mpr (by omega)), nI_clamp (by omega), hx.2 i hil, hr, ← q_ck_s hil, show (1 : Int32) = nI 1 from rfl, nI_add] at e
    rw [e]
    exact c44_l hl hb hW hx m (i + 1) (by omega)
theorem c42_3 (hs : cSt S0 27 16 s) (hB : q_Bd s) (hW : p_Wf P) : ∀ (m i : Nat) (S : z_S), i + m = (q_l s).length → onI iD S0 S → xTp S 393 0 394 (q_im3 P s i) → ∃ S', b42_140 (d + 1) 27 (nI i) S = some S' ∧ onI iD S0 S' ∧ xTp S' 393 0 394 (q_im P s)
  | 0, i, S, hi, ho, hx => by
    have hR := hW.1
    have hL := hW.2.2.2.2.1
    have hl := hB.2.2.1
    have e := b42_140_eq (d + 1) 27 (nI i) S ho.W (by decide +kernel)
    rw [show i = (q_l s).length by omega] at hx
    have hlen := q_im3_l P s (Nat.le_refl (q_l s).length)
    have k1 : fI (d + 1) 44 [.ref 394, .int (nI (q_im3 P s (q_l s).length).length)] S = some (nI (q_ck (q_im3 P s (q_l s).length)), S) := (e44 d 394 _ S ho.W (by decide +kernel)).trans (c44_l (by omega) (q_im3_b hB _) ho.W hx (q_im3 P s (q_l s).length).length 0 (by omega))
    obtain ⟨S1, a1, a2, a3⟩ := c43 (d := d) (b := q_ck (q_im3 P s (q_l s).length)) ho.W hx (by omega)
    rw [ho.I (c := 27) (by unfold iD; omega), hs.2.2.2.2.1, if_pos ((nI_leI (by omega) (by omega)).mpr (by omega)), hx.1, k1, zb_some, a1, Option.bind_some] at e
    exact ⟨S1, e, ho.trans a2, a3⟩
  | m + 1, i, S, hi, ho, hx => by
    have hR := hW.1
    have hL := hW.2.2.2.2.1
    have hl := hB.2.2.1
    have e := b42_140_eq (d + 1) 27 (nI i) S ho.W (by decide +kernel)
    have g4 : gI S (27 + 4) i = nI ((q_l s).getD i 0) := by rw [ho.I (c := 27 + 4) (by unfold iD; omega)]; exact hs.2.2.2.2.2.2.2.2 i (by omega)
    obtain ⟨S1, a1, a2, a3⟩ := c43 (d := d) (b := (q_l s).getD i 0) ho.W hx (by rw [q_im3_l _ _ (by omega)]; omega)
    rw [ho.I (c := 27) (by unfold iD; omega), hs.2.2.2.2.1, if_neg (fun z => by have := (nI_leI (by omega) (by omega)).mp z; omega), if_pos ((ni_in (by omega)).mpr (by omega)), nI_clamp (by omega), g4, a1, Option.bind_some, show (1 : Int32) = nI 1 from rfl, nI_add] at e
    rw [← q_im3_s P s (by omega)] at a3
    obtain ⟨S2, b1, b2, b3⟩ := c42_3 hs hB hW m (i + 1) S1 (by omega) (ho.trans a2) a3
    exact ⟨S2, e.trans b1, b2, b3⟩
theorem c42 (hs : cSt S 27 16 s) (hB : q_Bd s) (hq : z_K q = 6) (hqr : q < 393) (hP : cPl S q P) (hW : p_Wf P) (hz : z_W S) : ∃ S', fV (d + 2) 42 [.ref 393, .ref 27, .ref q] S = some S' ∧ onI iD S S' ∧ xTp S' 393 0 394 (q_im P s) := by
  have e := e42 (d + 1) 27 q S hz (by decide +kernel) hq
  have hn := hB.2.2.2.1
  have hp := hB.2.2.2.2.1
  have o0 : onI iD S (sI S 393 0 (0 : Int32)) := onI_sI (D := iD) (c := 393) (onI.refl hz) (Or.inl rfl)
  have x0 : xTp (sI S 393 0 (0 : Int32)) 393 0 394 [] := ⟨by rw [gI_sI, if_pos rfl, if_pos rfl]; rfl, fun i hi => absurd hi (by simp)⟩
  obtain ⟨S1, a1, a2, a3⟩ := c43 (d := d) (b := q_n s / 256) o0.W x0 (by simp)
  obtain ⟨S2, b1, b2, b3⟩ := c43 (d := d) (b := q_n s % 256) a2.W a3 (by simp)
  obtain ⟨S3, f1, f2, f3⟩ := c43 (d := d) (b := q_p s / 65536) b2.W b3 (by simp)
  obtain ⟨S4, h1, h2, h3⟩ := c43 (d := d) (b := q_p s / 256 % 256) f2.W f3 (by simp)
  obtain ⟨S5, k1, k2, k3⟩ := c43 (d := d) (b := q_p s % 256) h2.W h3 (by simp)
  have o1 := o0.trans a2
  have o2 := o1.trans b2
  have o3 := o2.trans f2
  have o4 := o3.trans h2
  have o5 := o4.trans k2
  have v1 : gI (sI S 393 0 (0 : Int32)) 27 0 = nI (q_n s) := by rw [o0.I (c := 27) (by unfold iD; omega)]; exact hs.1
  have v2 : gI S1 27 0 = nI (q_n s) := by rw [o1.I (c := 27) (by unfold iD; omega)]; exact hs.1
  have v3 : gI S2 27 1 = nI (q_p s) := by rw [o2.I (c := 27) (by unfold iD; omega)]; exact hs.2.1
  have v4 : gI S3 27 1 = nI (q_p s) := by rw [o3.I (c := 27) (by unfold iD; omega)]; exact hs.2.1
  have v5 : gI S4 27 1 = nI (q_p s) := by rw [o4.I (c := 27) (by unfold iD; omega)]; exact hs.2.1
  have s8 : ∀ n : Nat, n < 2 ^ 31 → nI n >>> ((8 : Int32) &&& 31) = nI (n / 256) := fun n h => pk_shrN h _ 8 (by decide)
  have s16 : ∀ n : Nat, n < 2 ^ 31 → nI n >>> ((16 : Int32) &&& 31) = nI (n / 65536) := fun n h => pk_shrN h _ 16 (by decide)
  have m8 : ∀ n : Nat, n < 2 ^ 32 → nI n &&& (255 : Int32) = nI (n % 256) := fun n h => pk_andN h 8 (by decide)
  rw [v1, s8 _ (by omega), a1, Option.bind_some, v2, m8 _ (by omega), b1, Option.bind_some, v3, s16 _ (by omega), f1, Option.bind_some, v4, s8 _ (by omega), m8 _ (by omega), h1, Option.bind_some, v5, m8 _ (by omega), k1, Option.bind_some] at e
  obtain ⟨T1, t1, t2, t3⟩ := c42_1 (d := d) hs hB hq hqr hP hW (p_R P) 0 S5 (by omega) o5 k3
  obtain ⟨T2, u1, u2, u3⟩ := c42_2 (d := d) hs hB hq hqr hP hW (p_L P) 0 T1 (by omega) t2 (by unfold q_im2; rw [q_imk, List.append_nil]; exact t3)
  obtain ⟨T3, w1, w2, w3⟩ := c42_3 (d := d) hs hB hW (q_l s).length 0 T2 (by omega) u2 u3
  exact ⟨T3, e.trans (t1.trans (u1.trans w1)), w2, w3⟩
def a_img (A : q_A) (l : List Nat) : q_A := (a_tp A, a_P A, a_s A, a_kl A, a_ud A, a_mt A, a_sd A, a_ft A, a_rf A, l)
theorem aOk.img {l : List Nat} (h : aOk A) (hl : l.length ≤ 61) : aOk (a_img A l) := by
  obtain ⟨g1, g2, g3, g4, g5, g6, g7, g8, g9, g10⟩ := h
  exact ⟨g1, g2, g3, g4, g5, g6, g7, g8, hl, g10⟩
theorem cA.img {S' : z_S} {l : List Nat} (h : cA S A) (ho : onI iD S S') (ht : xTp S' 393 0 394 l) : cA S' (a_img A l) := by
  obtain ⟨h1, h2, ⟨q, k1, k2, k3, k4, k5⟩, h4, h5, h6, h7, h8, h9, h10, h11⟩ := h
  unfold iD at ho
  exact ⟨ho.W, h2.ag (ho.ag fun c k z => by omega), ⟨q, k1, by rw [ho.P]; exact k2, by rw [ho.P]; exact k3, by rw [ho.P]; exact k4, k5.ag (ho.ag fun c k z => by omega)⟩, h4.ag (ho.ag fun c k z => by unfold pD at z; omega), h5.ag (ho.ag fun c k z => by omega), h6.ag (ho.ag fun c k z => by omega), h7.ag (ho.ag fun c k z => by omega), h8.ag (ho.ag fun c k z => by omega), h9.ag (ho.ag fun c k z => by omega), ht, h11.ag (ho.ag fun c k z => by omega)⟩
theorem mA.img {S' : z_S} {l : List Nat} (h : mA S A) (hA : aOk A) (ho : onM jD S S') (ht : xTp S' 396 71 441 l) : mA S' (a_img A l) := by
  unfold jD at ho
  obtain ⟨g1, g2, g3, g4, g5, g6, g7, g8⟩ := h.but hA ho (fun c k z => by omega)
  obtain ⟨h1, ⟨b, h2⟩, h3, h4, h5, h6, h7, h8, h9, h10, h11⟩ := h
  exact ⟨h1.ag (ho.ag fun c k z => by omega), g1, g2, g3, g4, g5, g6, h8.ag (ho.ag fun c k z => by omega), g7, g8, ht⟩
variable {b : Nat}
theorem m268_1 (hM : cM S0 b P) (hs : mSt S0 0 s) (hB : q_Bd s) : ∀ (m i : Nat) (S : z_S), i + m = p_R P → onM jD S0 S → xTp S 396 71 441 (q_im1 s i) → ∃ S', b268_66 (d + 2) (nI i) S = b268_105 (d + 2) (nI 0) S' ∧ onM jD S0 S' ∧ xTp S' 396 71 441 (q_im1 s (p_R P))
  | m, i, S, hi, ho, hx => by
    have hP := hM.2.2.2.2
    have hM1 : cM S b P := hM.on ho (fun c k z => by unfold jD; omega)
    have hs1 : mSt S 0 s := hs.ag hB.2.2.1 (ho.ag fun c k z => by unfold vD at z; unfold jD; omega)
    obtain ⟨hW, hb, hbk, hC, _⟩ := hM1
    have hR := hP.1
    have e := b268_66_eq (d + 2) (nI i) S hW
    have a0 : i < 16 → fI (d + 2) 207 [.ref 396, .int (0 : Int32), .int (nI i)] S = _ := fun z => m207 (d := d) (v := 0) hW (by omega) hs1 hB z
    have g1 : gI S 398 (nI b).toNatClampNeg = nI (p_R P) := by rw [nI_clamp (by omega)]; exact hC.1
    rw [hbk, if_pos ((ni_in (by omega)).mpr hb), g1] at e
    match m, hi with
    | 0, hi =>
      rw [if_pos ((nI_leI (by omega) (by omega)).mpr (by omega))] at e
      rw [show i = p_R P by omega] at hx e
      rw [show i = p_R P by omega]
      exact ⟨S, e, ho, hx⟩
    | m + 1, hi =>
      obtain ⟨S1, a1, a2, a3⟩ := m267 (d := d + 1) (x := nI (q_b (q_h s) i)) (b := q_b (q_h s) i) hW hx (by rw [q_im1_l]; omega) (n255 (by have := q_b_le (q_h s) i; omega))
      have e2 := b268_94_eq (d + 2) (nI i) (nI (q_b (q_h s) i)) S hW
      rw [a1, Option.bind_some, show (1 : Int32) = nI 1 from rfl, nI_add] at e2
      rw [if_neg (fun z => by have := (nI_leI (by omega) (by omega)).mp z; omega), a0 (by omega), zb_some] at e
      rw [← q_im1_s] at a3
      obtain ⟨S2, b1, b2, b3⟩ := m268_1 hM hs hB m (i + 1) S1 (by omega) (ho.trans a2) a3
      refine ⟨S2, ?_, b2, b3⟩
      rw [← b1, ← e2, e]
      unfold q_b
      cases (q_h s).testBit i
      · rfl
      · rfl
theorem m268_2 (hM : cM S0 b P) (hs : mSt S0 0 s) (hB : q_Bd s) (hG' : 0 < p_L P → q_Gd P s) : ∀ (m i : Nat) (S : z_S), i + m = p_L P → onM jD S0 S → xTp S 396 71 441 (q_im2 P s i) → ∃ S', b268_105 (d + 2) (nI i) S = b268_188 (d + 2) (nI 0) S' ∧ onM jD S0 S' ∧ xTp S' 396 71 441 (q_im3 P s 0)
  | m, i, S, hi, ho, hx => by
    have hP := hM.2.2.2.2
    have hM1 : cM S b P := hM.on ho (fun c k z => by unfold jD; omega)
    have hs1 : mSt S 0 s := hs.ag hB.2.2.1 (ho.ag fun c k z => by unfold vD at z; unfold jD; omega)
    have hM2 := hM1
    obtain ⟨hW, hb, hbk, hC, _⟩ := hM1
    have hR := hP.1
    have hL := hP.2.2.2.2.1
    have hl := hB.2.2.1
    have e := b268_105_eq (d + 2) (nI i) S hW
    have g1 : gI S 402 (nI b).toNatClampNeg = nI (p_L P) := by rw [nI_clamp (by omega)]; exact hC.2.2.2.2.1
    have g2 : gI S 425 ((0 : Int32)).toNatClampNeg = nI (q_l s).length := hs1.2.2.2.1
    rw [hbk, if_pos ((ni_in (by omega)).mpr hb), g1, if_pos (show z_in (0 : Int32) 22 by decide), g2] at e
    match m, hi with
    | 0, hi =>
      rw [show i = p_L P by omega] at hx
      obtain ⟨S1, a1, a2, a3⟩ := m267 (d := d + 1) (x := nI (q_l s).length) (b := (q_l s).length) hW hx (by rw [q_im2_l]; omega) (n255 (by omega))
      rw [if_pos ((nI_leI (by omega) (by omega)).mpr (by omega)), a1, Option.bind_some] at e
      refine ⟨S1, e, ho.trans a2, ?_⟩
      unfold q_im3
      rw [List.take_zero, List.append_nil]
      exact a3
    | m + 1, hi =>
      have hG := hG' (by omega)
      rw [if_neg (fun z => by have := (nI_leI (by omega) (by omega)).mp z; omega)] at e
      have hw2 := hB.2.2.2.2.2.2.1 i
      have hy2 := hB.2.2.2.2.2.2.2.1 i
      have step : b268_105 (d + 2) (nI i) S = b268_157 (d + 2) (nI i) (nI (q_w s i)) S := by
        have a1 : fI (d + 2) 213 [.ref 396, .int (0 : Int32), .int (nI i)] S = _ := m213 (d := d + 1) (v := 0) (k := i) hM2 (by omega) hs1 hG (by omega)
        have a2 : fI (d + 2) 214 [.ref 396, .int (0 : Int32), .int (nI i)] S = _ := m214 (d := d + 1) (v := 0) (k := i) hW (by omega) hs1 hB (by omega)
        rw [a1, zb_some, a2, zb_some, a1, zb_some] at e
        rcases hG.2.2.2.2.2.2.1 i with c | c | c
        · have : q_rm s i = some (q_w s i) := by unfold q_rm; rw [if_pos c]
          rw [this, if_neg (show ¬ eO (some (q_w s i)) = (-1 : Int32) from fun z => by have := congrArg Int32.toInt (show nI (q_w s i) = -1 from z); rw [nI_toInt (by omega)] at this; simp at this)] at e
          exact e
        · have : q_rm s i = none := by unfold q_rm; rw [if_neg (by omega)]
          have hm := (hG.2.2.2.2.2.1 i).mp c
          obtain ⟨j, hj⟩ : ∃ j, q_ix (q_l s) i 0 = some j := by
            cases hq : q_ix (q_l s) i 0 with
            | none => exact absurd hm ((q_ix_none _ _).mp hq)
            | some j => exact ⟨j, rfl⟩
          have hj2 := q_ix_lt _ _ _ hj
          rw [this, hj, if_pos (show eO none = (-1 : Int32) from rfl), if_neg (show ¬ eO (some j) = (-1 : Int32) from fun z => by have := congrArg Int32.toInt (show nI j = -1 from z); rw [nI_toInt (by omega)] at this; simp at this)] at e
          rw [c]
          exact e
        · have : q_rm s i = none := by unfold q_rm; rw [if_neg (by omega)]
          have hm : i ∉ q_l s := fun z => by have := (hG.2.2.2.2.2.1 i).mpr z; omega
          rw [this, (q_ix_none _ _).mpr hm, if_pos (show eO none = (-1 : Int32) from rfl), if_pos (show eO none = (-1 : Int32) from rfl)] at e
          rw [c]
          exact e
      have e2 := b268_157_eq (d + 2) (nI i) (nI (q_w s i)) S hW
      obtain ⟨S1, a1, a2, a3⟩ := m267 (d := d + 1) (x := nI (q_w s i)) (b := q_w s i) hW hx (by rw [q_im2_l]; omega) (n255 hw2)
      have g3 : gI S1 424 (nI i).toNatClampNeg = nI (q_y s i) := by
        rw [nI_clamp (by omega), a2.I (by unfold jD; omega)]
        have := hs1.2.2.2.2.2.1 i (by omega)
        rw [Nat.mul_zero, Nat.zero_add] at this
        exact this
      obtain ⟨S2, b1, b2, b3⟩ := m267 (d := d + 1) (x := nI (q_y s i)) (b := q_y s i) a2.W a3 (by rw [List.length_append, q_im2_l]; simp; omega) (n255 (by omega))
      rw [a1, Option.bind_some, if_pos ((ni_in (by omega)).mpr (by omega)), g3, b1, Option.bind_some, show (1 : Int32) = nI 1 from rfl, nI_add] at e2
      have hx2 : xTp S2 396 71 441 (q_im2 P s (i + 1)) := by
        unfold q_im2 at b3 ⊢
        rw [q_imk, ← List.append_assoc, ← List.append_assoc]
        exact b3
      obtain ⟨S3, f1, f2, f3⟩ := m268_2 hM hs hB hG' m (i + 1) S2 (by omega) ((ho.trans a2).trans b2) hx2
      exact ⟨S3, step.trans (e2.trans f1), f2, f3⟩
theorem m268_4 {l : List Nat} (hl : l.length ≤ 61) (hb : ∀ x, x ∈ l → x < 256) (hW : z_W S) (hx : xTp S 396 71 441 l) : ∀ (m i : Nat), i + m = l.length → ∃ S', b268_220 (d + 1) (nI (q_ck (l.take i))) (nI i) S = some (nI (l.length + 1), S') ∧ onM jD S S' ∧ xTp S' 396 71 441 (l ++ [q_ck l])
  | 0, i, hi => by
    have e := b268_220_eq (d + 1) (nI (q_ck (l.take i))) (nI i) S hW
    have h2 := q_ck_lt l
    rw [List.take_of_length_le (by omega)] at e ⊢
    obtain ⟨S1, a1, a2, a3⟩ := m267 (d := d) (x := nI (q_ck l)) (b := q_ck l) hW hx (by omega) (n255 (by omega))
    rw [hx.1, if_pos ((nI_leI (by omega) (by omega)).mpr (by omega)), a1, Option.bind_some, a3.1, List.length_append] at e
    exact ⟨S1, e, a2, a3⟩
  | m + 1, i, hi => by
    have e := b268_220_eq (d + 1) (nI (q_ck (l.take i))) (nI i) S hW
    have hil : i < l.length := by omega
    have hm : l.getD i 0 ∈ l := by rw [List.getD_eq_getElem?_getD, List.getElem?_eq_getElem hil]; exact List.getElem_mem _
    have h1 := hb _ hm
    have h2 := q_ck_lt (l.take i)
    have hr : ((5 : Int32) * nI (q_ck (l.take i)) + nI (l.getD i 0)) - ((5 : Int32) * nI (q_ck (l.take i)) + nI (l.getD i 0)) / (251 : Int32) * (251 : Int32) = nI ((5 * q_ck (l.take i) + l.getD i 0) % 251) := by
      rw [show (5 : Int32) = nI 5 from rfl, pk_mul, nI_add]
      exact pk_rem (d := 251) (by omega) (by omega) (by omega)
    rw [hx.1, if_neg (fun z => by have := (nI_leI (by omega) (by omega)).mp z; omega), if_pos ((ni_in (by omega)).mpr (by omega)), nI_clamp (by omega), hx.2 i hil, hr, ← q_ck_s hil, show (1 : Int32) = nI 1 from rfl, nI_add] at e
    rw [e]
    exact m268_4 hl hb hW hx m (i + 1) (by omega)
theorem m268_3 (hs : mSt S0 0 s) (hB : q_Bd s) (hP : p_Wf P) : ∀ (m i : Nat) (S : z_S), i + m = (q_l s).length → onM jD S0 S → xTp S 396 71 441 (q_im3 P s i) → ∃ S', b268_188 (d + 1) (nI i) S = some (nI (q_im P s).length, S') ∧ onM jD S0 S' ∧ xTp S' 396 71 441 (q_im P s)
  | m, i, S, hi, ho, hx => by
    have hs1 : mSt S 0 s := hs.ag hB.2.2.1 (ho.ag fun c k z => by unfold vD at z; unfold jD; omega)
    have hR := hP.1
    have hL := hP.2.2.2.2.1
    have hl := hB.2.2.1
    have hlen := q_im3_l P s (Nat.le_refl (q_l s).length)
    have e := b268_188_eq (d + 1) (nI i) S ho.W
    have g2 : gI S 425 ((0 : Int32)).toNatClampNeg = nI (q_l s).length := hs1.2.2.2.1
    rw [if_pos (show z_in (0 : Int32) 22 by decide), g2] at e
    match m, hi with
    | 0, hi =>
      rw [show i = (q_l s).length by omega] at hx
      rw [if_pos ((nI_leI (by omega) (by omega)).mpr (by omega))] at e
      obtain ⟨S1, a1, a2, a3⟩ := m268_4 (d := d) (by omega) (q_im3_b hB _) ho.W hx (q_im3 P s (q_l s).length).length 0 (by omega)
      refine ⟨S1, e.trans (a1.trans ?_), ho.trans a2, a3⟩
      unfold q_im
      rw [List.length_append]
      rfl
    | m + 1, hi =>
      have g4 : gI S 426 (nI i).toNatClampNeg = nI ((q_l s).getD i 0) := by
        rw [nI_clamp (by omega)]
        have := hs1.2.2.2.2.2.2 i (by omega)
        rw [Nat.mul_zero, Nat.zero_add] at this
        exact this
      have hm : (q_l s).getD i 0 ∈ q_l s := by rw [List.getD_eq_getElem?_getD, List.getElem?_eq_getElem (by omega)]; exact List.getElem_mem _
      have hm2 := hB.2.2.2.2.2.2.2.2 _ hm
      obtain ⟨S1, a1, a2, a3⟩ := m267 (d := d) (x := nI ((q_l s).getD i 0)) (b := (q_l s).getD i 0) ho.W hx (by rw [q_im3_l _ _ (by omega)]; omega) (n255 (by omega))
      rw [if_neg (fun z => by have := (nI_leI (by omega) (by omega)).mp z; omega), if_pos ((ni_in (by omega)).mpr (by omega)), g4, a1, Option.bind_some, show (1 : Int32) = nI 1 from rfl, nI_add] at e
      rw [← q_im3_s P s (by omega)] at a3
      obtain ⟨S2, b1, b2, b3⟩ := m268_3 hs hB hP m (i + 1) S1 (by omega) (ho.trans a2) a3
      exact ⟨S2, e.trans b1, b2, b3⟩
theorem m268 (hM : cM S b P) (hs : mSt S 0 s) (hB : q_Bd s) (hG : 0 < p_L P → q_Gd P s) : ∃ S', fI (d + 3) 268 [.ref 396] S = some (nI (q_im P s).length, S') ∧ onM jD S S' ∧ xTp S' 396 71 441 (q_im P s) := by
  have hP := hM.2.2.2.2
  have hz := hM.1
  have e := e268 (d + 2) S hz
  have hn := hB.2.2.2.1
  have hp := hB.2.2.2.2.1
  have o0 : onM jD S (sI S 396 71 (0 : Int32)) := onM_sI (D := jD) (c := 396) (onM.refl hz) (Or.inr ⟨rfl, rfl⟩)
  have x0 : xTp (sI S 396 71 (0 : Int32)) 396 71 441 [] := ⟨by rw [gI_sI, if_pos rfl, if_pos rfl]; rfl, fun i hi => absurd hi (by simp)⟩
  have s8 : ∀ n : Nat, n < 2 ^ 31 → nI n >>> ((8 : Int32) &&& 31) = nI (n / 256) := fun n h => pk_shrN h _ 8 (by decide)
  have s16 : ∀ n : Nat, n < 2 ^ 31 → nI n >>> ((16 : Int32) &&& 31) = nI (n / 65536) := fun n h => pk_shrN h _ 16 (by decide)
  have m8 : ∀ n : Nat, n < 2 ^ 32 → nI n &&& (255 : Int32) = nI (n % 256) := fun n h => pk_andN h 8 (by decide)
  obtain ⟨S1, a1, a2, a3⟩ := m267 (d := d + 1) (x := nI (q_n s / 256)) (b := q_n s / 256) o0.W x0 (by simp) (n255 (by omega))
  obtain ⟨S2, b1, b2, b3⟩ := m267 (d := d + 1) (x := nI (q_n s)) (b := q_n s % 256) a2.W a3 (by simp) (m8 _ (by omega))
  obtain ⟨S3, f1, f2, f3⟩ := m267 (d := d + 1) (x := nI (q_p s / 65536)) (b := q_p s / 65536) b2.W b3 (by simp) (n255 (by omega))
  obtain ⟨S4, h1, h2, h3⟩ := m267 (d := d + 1) (x := nI (q_p s / 256)) (b := q_p s / 256 % 256) f2.W f3 (by simp) (m8 _ (by omega))
  obtain ⟨S5, k1, k2, k3⟩ := m267 (d := d + 1) (x := nI (q_p s)) (b := q_p s % 256) h2.W h3 (by simp) (m8 _ (by omega))
  have o1 := o0.trans a2
  have o2 := o1.trans b2
  have o3 := o2.trans f2
  have o4 := o3.trans h2
  have o5 := o4.trans k2
  have w1 : gI S 420 ((0 : Int32)).toNatClampNeg = nI (q_n s) := hs.1
  have w2 : gI S 421 ((0 : Int32)).toNatClampNeg = nI (q_p s) := hs.2.1
  have v1 : gI (sI S 396 71 (0 : Int32)) 420 ((0 : Int32)).toNatClampNeg = nI (q_n s) := by rw [o0.I (c := 420) (by unfold jD; omega)]; exact w1
  have v2 : gI S1 420 ((0 : Int32)).toNatClampNeg = nI (q_n s) := by rw [o1.I (c := 420) (by unfold jD; omega)]; exact w1
  have v3 : gI S2 421 ((0 : Int32)).toNatClampNeg = nI (q_p s) := by rw [o2.I (c := 421) (by unfold jD; omega)]; exact w2
  have v4 : gI S3 421 ((0 : Int32)).toNatClampNeg = nI (q_p s) := by rw [o3.I (c := 421) (by unfold jD; omega)]; exact w2
  have v5 : gI S4 421 ((0 : Int32)).toNatClampNeg = nI (q_p s) := by rw [o4.I (c := 421) (by unfold jD; omega)]; exact w2
  have i0 : z_in (0 : Int32) 22 := by decide
  rw [if_pos i0, v1, s8 _ (by omega), a1, Option.bind_some, if_pos i0, v2, b1, Option.bind_some, if_pos i0, v3, s16 _ (by omega), f1, Option.bind_some, if_pos i0, v4, s8 _ (by omega), h1, Option.bind_some, if_pos i0, v5, k1, Option.bind_some] at e
  obtain ⟨T1, t1, t2, t3⟩ := m268_1 (d := d) hM hs hB (p_R P) 0 S5 (by omega) o5 k3
  obtain ⟨T2, u1, u2, u3⟩ := m268_2 (d := d) hM hs hB hG (p_L P) 0 T1 (by omega) t2 (by unfold q_im2; rw [q_imk, List.append_nil]; exact t3)
  obtain ⟨T3, y1, y2, y3⟩ := m268_3 (d := d + 1) hs hB hP (q_l s).length 0 T2 (by omega) u2 u3
  exact ⟨T3, e.trans (t1.trans (u1.trans y1)), y2, y3⟩
theorem q_im_l (P : q_Pl) (s : q_St) : (q_im P s).length = 7 + p_R P + 2 * p_L P + (q_l s).length := by
  unfold q_im
  rw [List.length_append, q_im3_l P s (Nat.le_refl _), List.length_singleton]
  omega
theorem m_s_Bd {A : q_A} (h : q_Bd (a_s A)) : q_Bd (m_s A) := by
  obtain ⟨h1, h2, h3, h4, h5, h6, h7⟩ := h
  refine ⟨h1, h2, h3, h4, h5, fun r k z => ?_, h7⟩
  by_cases c : p_m (a_P A) = 0
  · have z' : (if p_m (a_P A) = 0 then fun _ => some 0 else q_s (a_s A)) r = some k := z
    rw [if_pos c] at z'
    cases z'
    decide
  · rw [m_s_eq (by omega)] at z
    exact h6 r k z
theorem q_imk_ms (A : q_A) : ∀ i, q_imk (m_s A) i = q_imk (a_s A) i
  | 0 => rfl
  | i + 1 => by
    rw [q_imk, q_imk, q_imk_ms A i]
    rfl
theorem q_im_ms (A : q_A) : q_im (a_P A) (m_s A) = q_im (a_P A) (a_s A) := by
  unfold q_im q_im3 q_im2
  rw [q_imk_ms]
  rfl
theorem t_image : ∃ A', twoI (d + 20) 146 268 [] A A' := by
  refine ⟨a_img A (q_im (a_P A) (a_s A)), two_m (nI (q_im (a_P A) (a_s A)).length) (fun hA => hA.img ?_) (fun S h hA => ?_) (fun S h hA => ?_)⟩
  · have hB := hA.2.1.Bd hA.1
    have hR := hA.1.1
    have hL := hA.1.2.2.2.2.1
    have hl := hB.2.2.1
    rw [q_im_l]; omega
  · obtain ⟨q, hH, hq⟩ := h.H hA
    obtain ⟨q', k1, k2, k3, k4, k5⟩ := h.2.2.1
    have hqq : q' = q := k2.symm.trans hq
    subst hqq
    have e := e146 (d + 19) S h.1
    obtain ⟨S1, a1, a2, a3⟩ := c42 (d := d + 17) h.s (hA.2.1.Bd hA.1) hH.2.1 (by omega) hH.2.2.2.1 hA.1 h.1
    rw [hq, a1, Option.bind_some, a3.1] at e
    exact ⟨S1, e, a2.M.mono fun c k z => by unfold iD at z; omega, h.img a2 a3⟩
  · obtain ⟨b, hM⟩ := h.2.1
    obtain ⟨S1, a1, a2, a3⟩ := m268 (d := d + 17) hM h.2.2.2.2.1 (m_s_Bd (hA.2.1.Bd hA.1)) (fun z => by rw [m_s_eq (hA.mL z)]; exact hA.2.1)
    rw [q_im_ms] at a1 a3
    exact ⟨S1, a1, a2.mono fun c k z => by unfold jD at z; omega, h.img hA a2 a3⟩
end TM
