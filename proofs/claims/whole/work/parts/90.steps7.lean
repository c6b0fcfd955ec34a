/-! STEPS: the class sifts. -/
section TZ5
variable {d n q : Nat} {S : z_S} {P : q_Pl} {s : q_St} {k : Nat} {mt : List (Nat × Nat × Nat)}
theorem c85_a {x : Int32} : ∀ (m i : Nat) (S : z_S), i + m = 40 → z_W S → (∀ j, j < i → gI S 185 j = nI 1) → ∃ S', b85_3 d 27 x (nI i) S = ((fV d 86 [.ref 182, .ref 22, .ref 27, .int x] S').bind fun S3 => (zb (fI d 87 [.ref 182] S3) fun v4 S5 => b85_40 d 27 v4 (0 : Int32) S5)) ∧ onI (fun c _ => c = 185) S S' ∧ ∀ j, j < 40 → gI S' 185 j = nI 1
  | 0, i, S, hi, hW, h => by
    have e := b85_3_eq d 27 x (nI i) S hW (by decide +kernel)
    rw [if_pos (show (40 : Int32) ≤ nI i from (nI_leI (a := 40) (by omega) (by omega)).mpr (by omega))] at e
    exact ⟨S, e, onI.refl hW, fun j hj => h j (by omega)⟩
  | m + 1, i, S, hi, hW, h => by
    have e := b85_3_eq d 27 x (nI i) S hW (by decide +kernel)
    rw [if_neg (show ¬ (40 : Int32) ≤ nI i from fun z => by have := (nI_leI (a := 40) (by omega) (by omega)).mp z; omega), if_pos ⟨(ni_in (by omega)).mpr (by omega), Or.inr rfl⟩, show (nI i).toNatClampNeg = i from nI_clamp (by omega), show nI i + (1 : Int32) = nI (i + 1) from nI_add i 1] at e
    have o : onI (fun c _ => c = 185) S (sI S 185 i (1 : Int32)) := onI_sI (D := fun c _ => c = 185) (c := 185) (onI.refl hW) rfl
    obtain ⟨S', a1, a2, a3⟩ := c85_a m (i + 1) (sI S 185 i (1 : Int32)) (by omega) o.W (fun j hj => by
      rw [gI_sI, if_pos rfl]
      by_cases z : j = i
      · rw [if_pos z]; rfl
      · rw [if_neg z]; exact h j (by omega))
    exact ⟨S', e.trans a1, o.trans a2, a3⟩
theorem c85_r {night : Nat} {yN : Int32} {E en : Nat → q_St} (hP : p_Wf P) (hm : mtOk P mt) (hn : q_n s ≤ 999) (hN : night ≤ 31) (hB : ∀ j, j < n → q_Bd (E j)) : ∀ (m i : Nat) (S : z_S) (f : Nat → Bool), i + m = mt.length → z_W S → cMt S mt → gI S 27 0 = nI (q_n s) → cFt S n f → (∀ j, j < n → cSt S (187 + 5 * j) 16 (E j)) → (∀ j, j < n → f j = true → E j = q_nf P night (en j)) → ∃ S' f', b85_60 (d + 1) 27 yN (nI night) (nI i) S = b85_40 (d + 1) 27 yN (nI (night + 1)) S' ∧ onI (fun c _ => c = 185) S S' ∧ cFt S' n f' ∧ ∀ j, j < n → (f' j = true ↔ f j = true ∧ ∀ l, i ≤ l → l < mt.length → (mt.getD l (0, 0, 0)).1 = night → q_okr P s (mt.getD l (0, 0, 0)) (en j) = true)
  | 0, i, S, f, hi, hW, hM, h0, hF, hE, he => by
    have h16 := hm.1
    have e := b85_60_eq (d + 1) 27 yN (nI night) (nI i) S hW (by decide +kernel)
    rw [hM.1, if_pos ((nI_leI (by omega) (by omega)).mpr (by omega)), show nI night + (1 : Int32) = nI (night + 1) from nI_add night 1] at e
    exact ⟨S, f, e, onI.refl hW, hF, fun j hj => ⟨fun z => ⟨z, fun l a b => by omega⟩, fun z => z.1⟩⟩
  | m + 1, i, S, f, hi, hW, hM, h0, hF, hE, he => by
    have h16 := hm.1
    have hx := (hm.2 _ (q_gdm (j := i) (z := (0, 0, 0)) (by omega))).1
    have e := b85_60_eq (d + 1) 27 yN (nI night) (nI i) S hW (by decide +kernel)
    have h3 : (3 : Int32) * nI i = nI (3 * i) := pk_mul 3 i
    rw [hM.1, if_neg (show ¬ nI mt.length ≤ nI i from fun z => by have := (nI_leI (by omega) (by omega)).mp z; omega), h3, if_pos ((ni_in (by omega)).mpr (by omega)), show (nI (3 * i)).toNatClampNeg = 3 * i from nI_clamp (by omega), (hM.2 i (by omega)).1, h0, nI_add] at e
    have fin : ∀ (S1 : z_S) (f1 : Nat → Bool), b85_60 (d + 1) 27 yN (nI night) (nI i) S = b85_107 (d + 1) 27 yN (nI night) (nI i) S1 → onI (fun c _ => c = 185) S S1 → cFt S1 n f1 → (∀ j, j < n → (f1 j = true ↔ f j = true ∧ ((mt.getD i (0, 0, 0)).1 = night → q_okr P s (mt.getD i (0, 0, 0)) (en j) = true))) → ∃ S' f', b85_60 (d + 1) 27 yN (nI night) (nI i) S = b85_40 (d + 1) 27 yN (nI (night + 1)) S' ∧ onI (fun c _ => c = 185) S S' ∧ cFt S' n f' ∧ ∀ j, j < n → (f' j = true ↔ f j = true ∧ ∀ l, i ≤ l → l < mt.length → (mt.getD l (0, 0, 0)).1 = night → q_okr P s (mt.getD l (0, 0, 0)) (en j) = true) := fun S1 f1 u1 u2 u3 u4 => by
      have e7 := b85_107_eq (d + 1) 27 yN (nI night) (nI i) S1 u2.W (by decide +kernel)
      rw [show nI i + (1 : Int32) = nI (i + 1) from nI_add i 1] at e7
      obtain ⟨S', f', a1, a2, a3, a4⟩ := c85_r hP hm hn hN hB m (i + 1) S1 f1 (by omega) u2.W (hM.ag (u2.ag fun c l w => by omega)) (by rw [u2.I (by omega)]; exact h0) u3 (fun j hj => (hE j hj).ag (u2.ag fun c l w => by unfold pD at w; omega)) (fun j hj w => he j hj ((u4 j hj).mp w).1)
      refine ⟨S', f', (u1.trans e7).trans a1, u2.trans a2, a3, fun j hj => ?_⟩
      rw [a4 j hj, u4 j hj]
      constructor
      · intro ⟨⟨w1, w2⟩, w3⟩
        refine ⟨w1, fun l v1 v2 v3 => ?_⟩
        by_cases z : l = i
        · rw [z] at v3 ⊢; exact w2 v3
        · exact w3 l (by omega) v2 v3
      · intro ⟨w1, w2⟩
        exact ⟨⟨w1, fun v => w2 i (Nat.le_refl _) (by omega) v⟩, fun l v1 v2 v3 => w2 l (by omega) v2 v3⟩
    by_cases c : (mt.getD i (0, 0, 0)).1 = night
    · rw [if_neg (fun w => w (by rw [c]))] at e
      have step : b85_60 (d + 1) 27 yN (nI night) (nI i) S = b85_104 (d + 1) 27 yN (nI night) (nI i) (bI (decide (q_n s + night ≤ 999))) (nI i) S := by
        rw [e]
        by_cases z : q_n s + night ≤ 999
        · rw [if_neg (show ¬ (999 : Int32) < nI (q_n s + night) from fun w => by have := (nI_ltI (a := 999) (by omega) (by omega)).mp w; omega), decide_eq_true z]; rfl
        · rw [if_pos (show (999 : Int32) < nI (q_n s + night) from (nI_ltI (a := 999) (by omega) (by omega)).mpr (by omega)), decide_eq_false z]; rfl
      have e4 := b85_104_eq (d + 1) 27 yN (nI night) (nI i) (bI (decide (q_n s + night ≤ 999))) (nI i) S hW (by decide +kernel)
      obtain ⟨S1, f1, a1, a2, a3, a4⟩ := c89 (d := d) (b := decide (q_n s + night ≤ 999)) (i := i) hP hm hB hW hF hE hM (by omega)
      rw [a1, Option.bind_some] at e4
      refine fin S1 f1 (step.trans e4) a2 a3 (fun j hj => ?_)
      rw [a4 j hj, Bool.and_eq_true]
      unfold q_okr
      constructor
      · intro ⟨w1, w2⟩
        refine ⟨w1, fun _ => ?_⟩
        rw [he j hj w1] at w2
        rw [c]; exact w2
      · intro ⟨w1, w2⟩
        refine ⟨w1, ?_⟩
        have := w2 c
        rw [he j hj w1]
        rw [c] at this; exact this
    · rw [if_pos (fun w => c ((nI_eq (by omega) (by omega)).mp w))] at e
      exact fin S f e (onI.refl hW) hF (fun j hj => ⟨fun w => ⟨w, fun v => absurd v c⟩, fun w => w.1⟩)
def sD : Nat → Nat → Prop := fun c _ => c = 185 ∨ 187 ≤ c ∧ c ≤ 386 ∨ 23 ≤ c ∧ c ≤ 26
theorem c85_n {N : Nat} {en : Nat → q_St} (hm : mtOk P mt) (hn : q_n s ≤ 999) (hN : N ≤ 31) (hx : ∀ x, x ∈ mt → x.1 < N) : ∀ (m night : Nat) (S : z_S) (f : Nat → Bool) (E : Nat → q_St), night + m = N → cH S q P → cMt S mt → cSt S 27 16 s → cFt S n f → (∀ j, j < n → cSt S (187 + 5 * j) 16 (E j)) → (∀ j, j < n → q_Gd P (E j)) → (∀ j, j < n → f j = true → E j = q_nf P (night - 1) (en j)) → ∃ S' f', b85_40 (d + 8) 27 (iI ((N : Int) - 1)) (nI night) S = some S' ∧ onI sD S S' ∧ cFt S' n f' ∧ ∀ j, j < n → (f' j = true ↔ f j = true ∧ ∀ x, x ∈ mt → night ≤ x.1 → q_okr P s x (en j) = true)
  | 0, night, S, f, E, hi, hH, hM, hs, hF, hE, hG, he => by
    have e := b85_40_eq (d + 8) 27 (iI ((N : Int) - 1)) (nI night) S hH.1 (by decide +kernel)
    rw [if_pos (show iI ((N : Int) - 1) < nI night from by rw [iI_n, iI_lt (by omega) (by omega) (by omega) (by omega)]; omega)] at e
    exact ⟨S, f, e, onI.refl hH.1, hF, fun j hj => ⟨fun w => ⟨w, fun x h1 h2 => by have := hx x h1; omega⟩, fun w => w.1⟩⟩
  | m + 1, night, S, f, E, hi, hH, hM, hs, hF, hE, hG, he => by
    have hP := hH.2.2.2.2
    have e := b85_40_eq (d + 8) 27 (iI ((N : Int) - 1)) (nI night) S hH.1 (by decide +kernel)
    rw [if_neg (show ¬ iI ((N : Int) - 1) < nI night from by rw [iI_n, iI_lt (by omega) (by omega) (by omega) (by omega)]; omega)] at e
    have fin : ∀ (S1 : z_S) (E1 : Nat → q_St), b85_40 (d + 8) 27 (iI ((N : Int) - 1)) (nI night) S = b85_57 (d + 8) 27 (iI ((N : Int) - 1)) (nI night) S1 → onI sD S S1 → cFt S1 n f → (∀ j, j < n → cSt S1 (187 + 5 * j) 16 (E1 j)) → (∀ j, j < n → q_Gd P (E1 j)) → (∀ j, j < n → f j = true → E1 j = q_nf P night (en j)) → ∃ S' f', b85_40 (d + 8) 27 (iI ((N : Int) - 1)) (nI night) S = some S' ∧ onI sD S S' ∧ cFt S' n f' ∧ ∀ j, j < n → (f' j = true ↔ f j = true ∧ ∀ x, x ∈ mt → night ≤ x.1 → q_okr P s x (en j) = true) := fun S1 E1 u1 u2 u3 u4 u5 u6 => by
      have e7 := b85_57_eq (d + 8) 27 (iI ((N : Int) - 1)) (nI night) S1 u2.W (by decide +kernel)
      have hM1 : cMt S1 mt := hM.ag (u2.ag fun c l w => by unfold sD; omega)
      have hs1 : cSt S1 27 16 s := hs.ag (u2.ag fun c l w => by unfold pD at w; unfold sD; omega)
      obtain ⟨S2, f2, a1, a2, a3, a4⟩ := c85_r (d := d + 7) (yN := iI ((N : Int) - 1)) (en := en) hP hm hn (by omega) (fun j hj => (u5 j hj).Bd hP) mt.length 0 S1 f (by omega) u2.W hM1 hs1.1 u3 u4 u6
      have o2 : onI sD S S2 := u2.trans (a2.mono fun c l w => Or.inl w)
      obtain ⟨S3, f3, b1, b2, b3, b4⟩ := c85_n hm hn hN hx m (night + 1) S2 f2 E1 (by omega) (hH.on o2 (fun c j z => by unfold sD; omega)) (hM1.ag (a2.ag fun c l w => by omega)) (hs1.ag (a2.ag fun c l w => by unfold pD at w; omega)) a3 (fun j hj => (u4 j hj).ag (a2.ag fun c l w => by unfold pD at w; omega)) u5 (fun j hj w => u6 j hj ((a4 j hj).mp w).1)
      refine ⟨S3, f3, ((u1.trans e7).trans a1).trans b1, o2.trans b2, b3, fun j hj => ?_⟩
      rw [b4 j hj, a4 j hj]
      constructor
      · intro ⟨⟨w1, w2⟩, w3⟩
        refine ⟨w1, fun x v1 v2 => ?_⟩
        by_cases z : x.1 = night
        · obtain ⟨l, l1, l2⟩ := q_gdx (0, 0, 0) v1
          rw [← l2]
          exact w2 l (Nat.zero_le _) l1 (by rw [l2]; exact z)
        · exact w3 x v1 (by omega)
      · intro ⟨w1, w2⟩
        exact ⟨⟨w1, fun l v1 v2 v3 => w2 _ (q_gdm v2) (by omega)⟩, fun x v1 v2 => w2 x v1 (by omega)⟩
    by_cases c : night = 0
    · subst c
      rw [if_pos (show nI 0 ≤ (0 : Int32) by decide)] at e
      exact fin S E e (onI.refl hH.1) hF hE hG he
    · rw [if_neg (show ¬ nI night ≤ (0 : Int32) from fun w => by have := (nI_leI (b := 0) (by omega) (by omega)).mp w; omega)] at e
      obtain ⟨S1, a1, a2, a3⟩ := c88_l (d := d) (q := q) hF.1 n 0 S E (by omega) hH hF hG hE
      rw [show fV (d + 8) 88 [.ref 182, .ref 22] S = some S1 from (e88 (d + 7) S hH.1).trans a1, Option.bind_some] at e
      refine fin S1 _ e (a2.mono fun c l w => Or.inr w) (hF.on a2 fun c l w => by omega) a3 (fun j hj => ?_) (fun j hj w => ?_)
      · by_cases z : f j = true
        · rw [if_pos ⟨Nat.zero_le _, z⟩]; exact q_nt_G hP (hG j hj)
        · rw [if_neg (fun v => z v.2)]; exact hG j hj
      · rw [if_pos ⟨Nat.zero_le _, w⟩, he j hj w]
        obtain ⟨i, rfl⟩ : ∃ i, night = i + 1 := ⟨night - 1, by omega⟩
        rfl
theorem c86 (hG : q_Gd P s) (hk : k < p_L P) (hw : q_w s k = 255) (hH : cH S q P) (hs : cSt S 27 16 s) : ∃ (n : Nat) (S' : z_S), fV (d + 7) 86 [.ref 182, .ref 22, .ref 27, .int (nI k)] S = some S' ∧ onI eD S S' ∧ cEn S' P s k n ∧ 1 ≤ n ∧ n ≤ 40 ∧ (n = 40 ∨ (q_arr P n s k).2.length < n) ∧ ∀ j, 0 < j → j < n → ¬ (q_arr P j s k).2.length < j := by
  have o : onI eD S (sI S 182 4 (0 : Int32)) := onI_sI (D := eD) (c := 182) (onI.refl hH.1) (Or.inl ⟨rfl, rfl⟩)
  obtain ⟨n, S', a1, a2, a3, a4, a5, a6, a7⟩ := c86_l (d := d) (q := q) (P := P) (s := s) (k := k) hG hk hw (fun j hj => (zAa_184 j hj).2) 40 0 (sI S 182 4 (0 : Int32)) (by omega) (hH.on o fun c j z => by unfold eD; omega) (hs.ag (o.ag fun c j z => by unfold pD at z; unfold eD; omega)) ⟨by rw [gI_sI, if_pos rfl, if_pos rfl]; rfl, fun j hj => by omega⟩
  exact ⟨n, S', (e86 (d + 6) 27 (nI k) S hH.1 (by decide +kernel)).trans a1, o.trans a2, a3, by omega, a5, a6.imp id fun z => z.2, a7⟩
theorem c85 (hm : mtOk P mt) (hG : q_Gd P s) (hn : q_n s ≤ 999) (hk : k < p_L P) (hw : q_w s k = 255) (hH : cH S q P) (hM : cMt S mt) (hs : cSt S 27 16 s) : ∃ n S' f, fV (d + 9) 85 [.ref 182, .ref 22, .ref 27, .int (nI k)] S = some S' ∧ onI (fun c j => c = 182 ∧ j = 4 ∨ sD c j) S S' ∧ cFt S' n f ∧ 1 ≤ n ∧ (n = 40 ∨ (q_arr P n s k).2.length < n) ∧ (∀ j, 0 < j → j < n → ¬ (q_arr P j s k).2.length < j) ∧ ∀ j, j < n → (f j = true ↔ ∀ x, x ∈ mt → q_okr P s x (q_arr P (j + 1) s k).1 = true) := by
  have hP := hH.2.2.2.2
  obtain ⟨S1, a1, a2, a3⟩ := c85_a (d := d + 8) (x := nI k) 40 0 S (by omega) hH.1 (fun j hj => by omega)
  obtain ⟨n, S2, b1, b2, b3, b4, b5, b6, b7⟩ := c86 (d := d + 1) hG hk hw (hH.on a2 fun c j z => by omega) (hs.ag (a2.ag fun c j z => by unfold pD at z; omega))
  have o2 : onI (fun c j => c = 182 ∧ j = 4 ∨ sD c j) S S2 := (a2.mono fun c j z => Or.inr (Or.inl z)).trans (b2.mono fun c j z => by unfold eD at z; omega)
  have hM2 : cMt S2 mt := hM.ag (o2.ag fun c j z => by unfold sD; omega)
  obtain ⟨N, d1, d2, d3⟩ := c87 (d := d + 6) o2.W hM2 hm
  have hF2 : cFt S2 n (fun _ => true) := ⟨b5, b3.1, fun j hj => by rw [b2.I (by unfold eD; omega)]; exact a3 j hj⟩
  obtain ⟨S3, f, g1, g2, g3, g4⟩ := c85_n (d := d) (q := q) (P := P) (n := n) (en := fun j => (q_arr P (j + 1) s k).1) hm hn d1 d3 N 0 S2 (fun _ => true) (fun j => (q_arr P (j + 1) s k).1) (by omega) (hH.on o2 fun c j z => by unfold sD; omega) hM2 (hs.ag (o2.ag fun c j z => by unfold pD at z; unfold sD; omega)) hF2 b3.2 (fun j hj => q_arr_G hP hG hk hw) (fun j hj _ => rfl)
  refine ⟨n, S3, f, ?_, o2.trans (g2.mono fun c j z => Or.inr z), g3, b4, b6, b7, fun j hj => ?_⟩
  · have e := (e85 (d + 8) 27 (nI k) S hH.1 (by decide +kernel)).trans a1
    rw [b1, Option.bind_some, d2, zb_some] at e
    exact e.trans g1
  · rw [g4 j hj]
    exact ⟨fun w x v => w.2 x v (Nat.zero_le _), fun w => ⟨rfl, fun x v _ => w x v⟩⟩
end TZ5
