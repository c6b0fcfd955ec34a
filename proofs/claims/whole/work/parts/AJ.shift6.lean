/-! THE FORMULAS: turns of the reference's loop: behind an operand. -/
section GU
variable {d b w f0 : Nat} {T : List Nat} {S : z_S} {p : Nat} {cs : List Nat} {fs : List g_Fr} {k ph pr : Nat} {bg : Bool} {r os : List Nat} {o : Nat}
/-- no sign of reckoning -/
def g_na (T : List Nat) (p : Nat) : Prop := g_oS T p = 0 ∧ g_oP T p = 0
theorem g_na_i (h : g_na T p) : g_sg T p 43 = false ∧ g_sg T p 45 = false ∧ g_sg T p 42 = false ∧ g_sg T p 47 = false ∧ g_sg T p 37 = false := by
  obtain ⟨h1, h2⟩ := h
  unfold g_oS at h1
  unfold g_oP at h2
  refine ⟨?_, ?_, ?_, ?_, ?_⟩
  · cases hb : g_sg T p 43 with
    | false => rfl
    | true => rw [hb, if_pos rfl] at h1; cases h1
  · cases hb : g_sg T p 45 with
    | false => rfl
    | true =>
      rw [hb, if_pos rfl] at h1
      split at h1 <;> cases h1
  · cases hb : g_sg T p 42 with
    | false => rfl
    | true => rw [hb, if_pos rfl] at h2; cases h2
  · cases hb : g_sg T p 47 with
    | false => rfl
    | true =>
      rw [hb, if_pos rfl] at h2
      split at h2 <;> cases h2
  · cases hb : g_sg T p 37 with
    | false => rfl
    | true =>
      rw [hb, if_pos rfl] at h2
      split at h2
      · cases h2
      · split at h2 <;> cases h2
theorem m172h {R : Nat} (hR : R ≤ 6) (hos : ∀ c, c ∈ os.head? → g_rk c < R) (h : mG S T b w f0 p cs ((k, ph, bg, pr, r ++ os) :: fs) o true) (hr : ∀ c, c ∈ r → R ≤ g_rk c) (hl : fs.length < 19) (ho : f_oc fs + (r ++ os).length < 500) (hc : cs.length + r.length ≤ 1600) (hn : g_nn r ≤ o) (ho2 : o < 100) : ∃ S', fV (d + 3) 172 [.ref 396, .int (nI R)] S = some S' ∧ onM (g_mD b f0) S S' ∧ mG S' T b w f0 p (cs ++ r) ((k, ph, bg, pr, os) :: fs) (o - g_nn r) true := by
  rw [e172 (d + 2) (nI R) S h.W]
  exact m172g (d := d + 1) (F := (k, ph, bg, pr, [])) hR hos r S cs o h hr hl ho hc hn ho2
theorem m178_0 (h : mG S T b w f0 p cs ((k, ph, bg, pr, os) :: fs) o true) (hk : g_kd T p ≠ 4) (hf : k ≤ 6) (hh : ph ≤ 2) (hl : fs.length < 20) (ha : ph < 2 → g_na T p) : fI (d + 4) 178 [.ref 396] S = b178_188 (d + 3) (nI fs.length) (nI k) (bI (g_tst k)) S := by
  have e := e178 (d + 3) S h.W
  obtain ⟨t1, t2, t3⟩ := h.top
  obtain ⟨t4, t5, t6⟩ := t3 hl
  have t4' : gI S 413 (nI fs.length).toNatClampNeg = nI k := t4
  have t5' : gI S 414 (nI fs.length).toNatClampNeg = nI ph := t5
  rw [m162 (d := d + 2) h.1 hk, Option.bind_some, h.2.1, if_pos (show nI 0 ≤ (0 : Int32) by decide), t1, if_pos (t2 hl), t4', m176 (d := d + 2) h.W hf, zb_some, if_pos (t2 hl), t5'] at e
  by_cases c : ph < 2
  · obtain ⟨n1, n2, n3, n4, n5⟩ := g_na_i (ha c)
    have s1 : fI (d + 3) 164 [.ref 396, .int (43 : Int32)] S = _ := o_s (d := d) (c := 43) h hk (by decide)
    have s2 : fI (d + 3) 164 [.ref 396, .int (45 : Int32)] S = _ := o_s (d := d) (c := 45) h hk (by decide)
    have s3 : fI (d + 3) 164 [.ref 396, .int (42 : Int32)] S = _ := o_s (d := d) (c := 42) h hk (by decide)
    have s4 : fI (d + 3) 164 [.ref 396, .int (47 : Int32)] S = _ := o_s (d := d) (c := 47) h hk (by decide)
    have s5 : fI (d + 3) 164 [.ref 396, .int (37 : Int32)] S = _ := o_s (d := d) (c := 37) h hk (by decide)
    rw [if_neg (show ¬ (2 : Int32) ≤ nI ph from nI_ge (b := 2) c (by decide)), s1, zb_some, n1, if_neg (show ¬ ¬ bI false = 0 by decide), s2, zb_some, n2, if_neg (show ¬ ¬ bI false = 0 by decide), s3, zb_some, n3, if_neg (show ¬ ¬ bI false = 0 by decide), s4, zb_some, n4, if_neg (show ¬ ¬ bI false = 0 by decide), s5, zb_some, n5, if_pos (show bI false = 0 by decide)] at e
    exact e
  · rw [if_pos (show (2 : Int32) ≤ nI ph from nI_le (a := 2) (by omega) (by omega))] at e
    exact e
/-- a sign of reckoning -/
theorem t_ar {R n : Nat} (hRn : R = 5 ∧ n = g_oS T p ∨ R = 6 ∧ n = g_oP T p) (hn0 : n ≠ 0) (h : mG S T b w f0 p cs ((k, ph, bg, pr, r ++ os) :: fs) o true) (hf : k ≤ 6) (hh : ph < 2) (hl : fs.length < 19) (hos : ∀ c, c ∈ os.head? → g_rk c < R) (hr : ∀ c, c ∈ r → R ≤ g_rk c) (ho : f_oc fs + (r ++ os).length < 499) (hc : cs.length + r.length ≤ 1600) (hn : g_nn r ≤ o) (ho2 : o < 100) : ∃ S', gLo d S = gLo d S' ∧ onM (g_mD b f0) S S' ∧ mG S' T b w f0 (g_en T p) (cs ++ r) ((k, ph, bg, pr, n :: os) :: fs) (o - g_nn r) false := by
  have hk3 : g_kd T p = 3 := by
    rcases hRn with ⟨_, z⟩ | ⟨_, z⟩
    · have := (g_oS_j (T := T) p (by rw [← z]; exact hn0)).1
      unfold g_oS at z
      by_cases c1 : g_sg T p 43 = true
      · exact g_sg_k c1
      · rw [if_neg c1] at z
        by_cases c2 : g_sg T p 45 = true
        · exact g_sg_k c2
        · rw [if_neg c2] at z; exact absurd z hn0
    · unfold g_oP at z
      by_cases c1 : g_sg T p 42 = true
      · exact g_sg_k c1
      · rw [if_neg c1] at z
        by_cases c2 : g_sg T p 47 = true
        · exact g_sg_k c2
        · rw [if_neg c2] at z
          by_cases c3 : g_sg T p 37 = true
          · exact g_sg_k c3
          · rw [if_neg c3] at z; exact absurd z hn0
  have hk : g_kd T p ≠ 4 := by omega
  have e := e178 (d + 3) S h.W
  obtain ⟨t1, t2, t3⟩ := h.top
  obtain ⟨t4, t5, t6⟩ := t3 (by omega)
  have t4' : gI S 413 (nI fs.length).toNatClampNeg = nI k := t4
  have t5' : gI S 414 (nI fs.length).toNatClampNeg = nI ph := t5
  have s1 : fI (d + 3) 164 [.ref 396, .int (43 : Int32)] S = _ := o_s (d := d) (c := 43) h hk (by decide)
  have s2 : fI (d + 3) 164 [.ref 396, .int (45 : Int32)] S = _ := o_s (d := d) (c := 45) h hk (by decide)
  have s3 : fI (d + 3) 164 [.ref 396, .int (42 : Int32)] S = _ := o_s (d := d) (c := 42) h hk (by decide)
  have s4 : fI (d + 3) 164 [.ref 396, .int (47 : Int32)] S = _ := o_s (d := d) (c := 47) h hk (by decide)
  have s5 : fI (d + 3) 164 [.ref 396, .int (37 : Int32)] S = _ := o_s (d := d) (c := 37) h hk (by decide)
  rw [m162 (d := d + 2) h.1 hk, Option.bind_some, h.2.1, if_pos (show nI 0 ≤ (0 : Int32) by decide), t1, if_pos (t2 (by omega)), t4', m176 (d := d + 2) h.W hf, zb_some, if_pos (t2 (by omega)), t5', if_neg (show ¬ (2 : Int32) ≤ nI ph from nI_ge (b := 2) hh (by decide)), s1, zb_some, s2, zb_some, s3, zb_some, s4, zb_some, s5, zb_some] at e
  have e87 := b178_87_eq (d + 3) S h.W
  rw [s1, zb_some, s2, zb_some, b178_106_eq (d + 3) S h.W] at e87
  have hval : ∀ c, g_sg T p c = true → g_t T (g_st T p) = c := fun c hc => by
    unfold g_sg at hc
    rw [Bool.and_eq_true, decide_eq_true_eq, decide_eq_true_eq] at hc
    exact hc.2
  have huq : ∀ c c', g_sg T p c = true → c ≠ c' → g_sg T p c' = false := fun c c' h1 h2 => by
    cases hb : g_sg T p c' with
    | false => rfl
    | true => exact absurd ((hval c h1).symm.trans (hval c' hb)) h2
  have hnr : 10006 ≤ n ∧ n ≤ 10018 := by
    rcases hRn with ⟨_, z⟩ | ⟨_, z⟩
    · unfold g_oS at z
      repeat' split at z
      all_goals omega
    · unfold g_oP at z
      repeat' split at z
      all_goals omega
  have hR6 : R ≤ 6 := by omega
  obtain ⟨S1, a1, a2, a3⟩ := m172h (d := d) hR6 hos h hr hl (by omega) hc hn ho2
  obtain ⟨S2, b1, b2, b3⟩ := m173g (d := d + 2) (c := n) a3 hnr (by have : f_oc ((k, ph, bg, pr, os) :: fs) = f_oc fs + os.length := rfl; rw [List.length_append] at ho; omega)
  obtain ⟨S3, c1, c2, c3⟩ := m163g (d := d + 1) b3
  obtain ⟨q1, q2⟩ := mG.fg (v := false) c3
  have e174 : b178_174 (d + 3) (nI (n - 9975)) S1 = some (1, sI S3 396 41 (0 : Int32)) := by
    rw [b178_174_eq (d + 3) (nI (n - 9975)) S1 a3.W, b1, Option.bind_some, c1, Option.bind_some]
  have u1 : fI (d + 3) 164 [.ref 396, .int (43 : Int32)] S1 = _ := o_s (d := d) (c := 43) a3 hk (by decide)
  have u2 : fI (d + 3) 164 [.ref 396, .int (45 : Int32)] S1 = _ := o_s (d := d) (c := 45) a3 hk (by decide)
  have u3 : fI (d + 3) 164 [.ref 396, .int (42 : Int32)] S1 = _ := o_s (d := d) (c := 42) a3 hk (by decide)
  have u4 : fI (d + 3) 164 [.ref 396, .int (47 : Int32)] S1 = _ := o_s (d := d) (c := 47) a3 hk (by decide)
  have e112 := b178_112_eq (d + 3) (nI R) S h.W
  rw [a1, Option.bind_some, u1, zb_some, u2, zb_some, u3, zb_some, u4, zb_some] at e112
  have fin : fI (d + 4) 178 [.ref 396] S = some (1, sI S3 396 41 (0 : Int32)) := by
    rcases hRn with ⟨zr, z⟩ | ⟨zr, z⟩
    · rw [zr] at e112
      unfold g_oS at z
      cases c1 : g_sg T p 43 with
      | true =>
        rw [c1, if_pos rfl] at z
        rw [c1, if_pos (by decide)] at e
        rw [c1, if_pos (by decide)] at e87
        rw [c1, if_neg (by decide)] at e112
        rw [z] at e174
        exact ((e.trans e87).trans e112).trans e174
      | false =>
        rw [c1, if_neg (by decide)] at z
        cases c2 : g_sg T p 45 with
        | true =>
          rw [c2, if_pos rfl] at z
          rw [c1, if_neg (show ¬ ¬ bI false = 0 by decide), c2, if_pos (by decide)] at e
          rw [c1, if_neg (show ¬ ¬ bI false = 0 by decide), c2, if_neg (by decide)] at e87
          rw [c1, if_pos (show bI false = 0 by decide), c2, if_neg (by decide)] at e112
          rw [z] at e174
          exact ((e.trans e87).trans e112).trans e174
        | false => rw [c2, if_neg (by decide)] at z; exact absurd z hn0
    · rw [zr] at e112
      unfold g_oP at z
      cases c1 : g_sg T p 42 with
      | true =>
        have n1 := huq 42 43 c1 (by decide)
        have n2 := huq 42 45 c1 (by decide)
        rw [c1, if_pos rfl] at z
        rw [n1, if_neg (show ¬ ¬ bI false = 0 by decide), n2, if_neg (show ¬ ¬ bI false = 0 by decide), c1, if_pos (by decide)] at e
        rw [n1, if_neg (show ¬ ¬ bI false = 0 by decide), n2, if_pos (by decide)] at e87
        rw [n1, if_pos (show bI false = 0 by decide), n2, if_pos (show bI false = 0 by decide), c1, if_neg (by decide)] at e112
        rw [z] at e174
        exact ((e.trans e87).trans e112).trans e174
      | false =>
        rw [c1, if_neg (by decide)] at z
        cases c2 : g_sg T p 47 with
        | true =>
          have n1 := huq 47 43 c2 (by decide)
          have n2 := huq 47 45 c2 (by decide)
          rw [c2, if_pos rfl] at z
          rw [n1, if_neg (show ¬ ¬ bI false = 0 by decide), n2, if_neg (show ¬ ¬ bI false = 0 by decide), c1, if_neg (show ¬ ¬ bI false = 0 by decide), c2, if_pos (by decide)] at e
          rw [n1, if_neg (show ¬ ¬ bI false = 0 by decide), n2, if_pos (by decide)] at e87
          rw [n1, if_pos (show bI false = 0 by decide), n2, if_pos (show bI false = 0 by decide), c1, if_pos (show bI false = 0 by decide), c2, if_neg (by decide)] at e112
          rw [z] at e174
          exact ((e.trans e87).trans e112).trans e174
        | false =>
          rw [c2, if_neg (by decide)] at z
          cases c3 : g_sg T p 37 with
          | true =>
            have n1 := huq 37 43 c3 (by decide)
            have n2 := huq 37 45 c3 (by decide)
            rw [c3, if_pos rfl] at z
            rw [n1, if_neg (show ¬ ¬ bI false = 0 by decide), n2, if_neg (show ¬ ¬ bI false = 0 by decide), c1, if_neg (show ¬ ¬ bI false = 0 by decide), c2, if_neg (show ¬ ¬ bI false = 0 by decide), c3, if_neg (by decide)] at e
            rw [n1, if_neg (show ¬ ¬ bI false = 0 by decide), n2, if_pos (by decide)] at e87
            rw [n1, if_pos (show bI false = 0 by decide), n2, if_pos (show bI false = 0 by decide), c1, if_pos (show bI false = 0 by decide), c2, if_pos (show bI false = 0 by decide)] at e112
            rw [z] at e174
            exact ((e.trans e87).trans e112).trans e174
          | false => rw [c3, if_neg (by decide)] at z; exact absurd z hn0
  exact ⟨_, L_go h fin q2.W q1.2.1, ((a2.trans b2).trans c2).trans q2, q1⟩
end GU
