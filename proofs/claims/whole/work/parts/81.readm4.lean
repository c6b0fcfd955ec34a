/-! READING AN IMAGE: the reference, all of it. -/
theorem q_bok_m {P : q_Pl} {tp : List Nat} {s0 s : q_St} (hP : p_Wf P) (hrl : q_rl P tp (p_L P) 0 s0 = some s) : q_bok P tp s ↔ tp.getD (5 + p_R P + 2 * p_L P) 0 ≤ p_B P ∧ (q_bl P tp (tp.getD (5 + p_R P + 2 * p_L P) 0)).Nodup ∧ (∀ k, k ∈ q_bl P tp (tp.getD (5 + p_R P + 2 * p_L P) 0) → k < p_L P) ∧ q_mk (q_bl P tp (tp.getD (5 + p_R P + 2 * p_L P) 0)) = q_mw P tp (p_L P) := by
  have hw : ∀ j, j < p_L P → (q_w s j = 254 ↔ tp.getD (5 + p_R P + 2 * j) 0 = 254) := fun j hj => by
    have := q_rl_w hP (p_L P) 0 s0 s (by omega) hrl j
    rw [if_pos ⟨Nat.zero_le _, hj⟩] at this
    exact this
  unfold q_bok
  generalize q_bl P tp (tp.getD (5 + p_R P + 2 * p_L P) 0) = l
  constructor
  · intro ⟨z1, z2, z3⟩
    refine ⟨z1, z2, fun k hk => ((z3 k).mp hk).1, Nat.eq_of_testBit_eq fun j => ?_⟩
    have a1 := q_mk_b l j
    have a2 := q_mw_b P tp j (p_L P)
    have a3 : j ∈ l ↔ j < p_L P ∧ tp.getD (5 + p_R P + 2 * j) 0 = 254 := by
      rw [z3 j]
      exact ⟨fun w => ⟨w.1, (hw j w.1).mp w.2⟩, fun w => ⟨w.1, (hw j w.1).mpr w.2⟩⟩
    rw [a3, ← a2] at a1
    exact Bool.eq_iff_iff.mpr a1
  · intro ⟨z1, z2, z3, z4⟩
    refine ⟨z1, z2, fun k => ?_⟩
    have a1 := q_mk_b l k
    have a2 := q_mw_b P tp k (p_L P)
    rw [z4] at a1
    rw [← a1, a2]
    exact ⟨fun w => ⟨w.1, (hw k w.1).mpr w.2⟩, fun w => ⟨w.1, (hw k w.1).mp w.2⟩⟩
theorem q_bl_g (P : q_Pl) (tp : List Nat) {i n : Nat} (h : i < n) : (q_bl P tp n).getD i 0 = tp.getD (5 + p_R P + 2 * p_L P + 1 + i) 0 := by
  have e : (q_bl P tp n)[i]? = some (tp.getD (5 + p_R P + 2 * p_L P + 1 + i) 0) := by
    unfold q_bl
    rw [List.getElem?_map, List.getElem?_range h]
    rfl
  generalize tp.getD (5 + p_R P + 2 * p_L P + 1 + i) 0 = x at e ⊢
  rw [List.getD_eq_getElem?_getD, e]
  rfl
section TV
variable {d b : Nat} {S : z_S} {P : q_Pl} {tp : List Nat} {s : q_St} {A : q_A} {y2 y3 y4 : Int32}
theorem m272_c : ∀ (m i : Nat) (S : z_S), i + m = 16 → z_W S → (∀ r, r < i → gI S 423 (16 + r) = (-1 : Int32)) → ∃ S', b272_240 d y2 y3 (nI i) S = b272_267 d y2 y3 (nI 0) S' ∧ onM (fun c k => c = 423 ∧ 16 ≤ k ∧ k < 32) S S' ∧ ∀ r, r < 16 → gI S' 423 (16 + r) = (-1 : Int32)
  | 0, i, S, hi, hW, hs => by
    have e := b272_240_eq d y2 y3 (nI i) S hW
    rw [if_pos (show (16 : Int32) ≤ nI i from (nI_leI (a := 16) (by omega) (by omega)).mpr (by omega))] at e
    exact ⟨S, e, onM.refl hW, fun r hr => hs r (by omega)⟩
  | m + 1, i, S, hi, hW, hs => by
    have e := b272_240_eq d y2 y3 (nI i) S hW
    rw [if_neg (show ¬ (16 : Int32) ≤ nI i from fun z => by have := (nI_leI (a := 16) (by omega) (by omega)).mp z; omega), show (16 : Int32) = nI 16 from rfl, nI_add, if_pos ((ni_in (by omega)).mpr (by omega)), show (nI (16 + i)).toNatClampNeg = 16 + i from nI_clamp (by omega), show nI i + (1 : Int32) = nI (i + 1) from nI_add i 1] at e
    have ho : onM (fun c k => c = 423 ∧ 16 ≤ k ∧ k < 32) S (sI S 423 (16 + i) (-1 : Int32)) := onM_sI (D := fun c k => c = 423 ∧ 16 ≤ k ∧ k < 32) (c := 423) (onM.refl hW) ⟨rfl, by omega, by omega⟩
    obtain ⟨S', a1, a2, a3⟩ := m272_c m (i + 1) _ (by omega) ho.W (fun r hr => by
      rw [gI_sI, if_pos rfl]
      by_cases z : r = i
      · rw [if_pos (by omega)]
      · rw [if_neg (by omega)]; exact hs r (by omega))
    exact ⟨S', e.trans a1, ho.trans a2, a3⟩
theorem m272_k (hb : ∀ x, x ∈ tp → x < 256) (hW : z_W S) (ht : ∀ i, i < tp.length → gI S 397 i = nI (tp.getD i 0)) (hl : tp.length ≤ 1600) : ∀ (m i : Nat), i + m + 1 = tp.length → b272_140 d (nI tp.length) y2 y3 y4 (nI (q_ck (tp.take i))) (nI i) S = b272_140 d (nI tp.length) y2 y3 y4 (nI (q_ck (tp.take (tp.length - 1)))) (nI (tp.length - 1)) S
  | 0, i, hi => by rw [show tp.length - 1 = i by omega]
  | m + 1, i, hi => by
    have e := b272_140_eq d (nI tp.length) y2 y3 y4 (nI (q_ck (tp.take i))) (nI i) S hW
    have hil : i < tp.length := by omega
    have h1 := tp_b hb i
    have h2 := q_ck_lt (tp.take i)
    have hr : ((5 : Int32) * nI (q_ck (tp.take i)) + nI (tp.getD i 0)) - ((5 : Int32) * nI (q_ck (tp.take i)) + nI (tp.getD i 0)) / (251 : Int32) * (251 : Int32) = nI ((5 * q_ck (tp.take i) + tp.getD i 0) % 251) := by
      rw [show (5 : Int32) = nI 5 from rfl, pk_mul, nI_add]
      exact pk_rem (d := 251) (by omega) (by omega) (by omega)
    have hm1 : nI tp.length - (1 : Int32) = nI (tp.length - 1) := pk_sub (b := 1) (by omega)
    have g0 : gI S 397 (nI i).toNatClampNeg = nI (tp.getD i 0) := by rw [nI_clamp (by omega)]; exact ht i hil
    rw [hm1, if_neg (show ¬ nI (tp.length - 1) ≤ nI i from fun z => by have := (nI_leI (by omega) (by omega)).mp z; omega), if_pos (show z_in (nI i) 1800 from (ni_in (by omega)).mpr (by omega)), g0, hr, ← q_ck_s hil, show nI i + (1 : Int32) = nI (i + 1) from nI_add i 1] at e
    rw [e]
    exact m272_k hb hW ht hl m (i + 1) (by omega)
/-- behind the check: what is told of rooms, lodgers, bench -/
theorem m272_t (hb : ∀ x, x ∈ tp → x < 256) (hl : 5 + p_R P + 2 * p_L P + 2 + tp.getD (5 + p_R P + 2 * p_L P) 0 = tp.length) (hl2 : tp.length ≤ 1600) (hB : tp.getD (5 + p_R P + 2 * p_L P) 0 ≤ p_B P) (hck : tp.getD (tp.length - 1) 0 = q_ck (tp.take (tp.length - 1))) (hn : tp.getD 0 0 * 256 + tp.getD 1 0 ≤ 999) (hp : tp.getD 2 0 * 65536 + tp.getD 3 0 * 256 + tp.getD 4 0 ≤ 999999) (h : mE S b P tp) (hs : mR S P 0 (q_rsi tp 0)) : ∃ (v : Bool) (S' : z_S), b272_267 (d + 3) (nI (5 + p_R P)) (nI (5 + p_R P + 2 * p_L P)) (nI 0) S = some (bI v, S') ∧ onM rD S S' ∧ (v = true ↔ ∃ s', q_RD P tp s') ∧ ∀ s', q_RD P tp s' → mSt S' 1 s' ∧ mKp S' 1 [] := by
  have hP := h.1.2.2.2.2
  have hL := hP.2.2.2.2.1
  have hR := hP.1
  have hBB := hP.2.1
  obtain ⟨S1, o1, c1⟩ := m272_r (d := d + 3) (y2 := nI (5 + p_R P)) (y3 := nI (5 + p_R P + 2 * p_L P)) hb (by omega) hl2 (p_R P) 0 S (by omega) h hs (fun r hr => absurd hr (by omega))
  rcases c1 with ⟨n1, e1⟩ | ⟨n1, s1, e1⟩
  · exact ⟨false, S1, e1, o1, ⟨fun z => Bool.noConfusion z, fun ⟨s', z, _⟩ => absurd z.2.2.2.2 n1⟩, fun s' z => absurd z.1.2.2.2.2 n1⟩
  · have h1 := h.on o1
    have hI0 := q_RI_0 (P := P) n1 hn hp
    obtain ⟨S2, o2, c2⟩ := m272_l (d := d) hb (by omega) hl2 (p_L P) 0 S1 (q_rs P tp) (by omega) h1 s1 hI0
    have e1' : b272_267 (d + 3) (nI (5 + p_R P)) (nI (5 + p_R P + 2 * p_L P)) (nI 0) S = b272_329 (d + 3) (nI (5 + p_R P)) (nI (5 + p_R P + 2 * p_L P)) (nI (q_mw P tp 0)) (nI 0) S1 := e1
    rcases c2 with ⟨n2, e2⟩ | ⟨s, n2, s2, e2⟩
    · exact ⟨false, S2, e1'.trans e2, o1.trans o2, ⟨fun z => Bool.noConfusion z, fun ⟨s', _, s, z, _⟩ => by rw [n2] at z; cases z⟩, fun s' ⟨_, s, z, _⟩ => by rw [n2] at z; cases z⟩
    · have h2 := h1.on o2
      have hmw := q_mw_lt P tp (p_L P)
      have hp16 := q_p2 hL
      obtain ⟨v, S3, a1, a2, a3, a4⟩ := m271_l (d := d + 1) (mk := q_mw P tp (p_L P)) (n := tp.getD (5 + p_R P + 2 * p_L P) 0) hb (by omega) hl2 (by omega) (by omega) (tp.getD (5 + p_R P + 2 * p_L P) 0) 0 S2 (Nat.zero_add _) h2 (fun j hj => absurd hj (by omega)) (by simp [q_bl]) (fun k hk => by simp [q_bl] at hk)
      have a1' : fI (d + 3) 271 [.ref 396, .int (nI (5 + p_R P + 2 * p_L P + 1)), .int (nI (tp.getD (5 + p_R P + 2 * p_L P) 0)), .int (nI (q_mw P tp (p_L P)))] S2 = some (bI v, S3) := (e271 (d + 2) _ _ _ S2 h2.1.1).trans a1
      rw [a1', zb_some, if_pos (by cases v; exact Or.inl rfl; exact Or.inr rfl)] at e2
      have key := q_bok_m hP n2
      have hok : v = true ↔ q_bok P tp s := by
        rw [a3, key]
        exact ⟨fun z => ⟨hB, z.1, z.2.1, z.2.2⟩, fun z => ⟨z.2.1, z.2.2.1, z.2.2.2⟩⟩
      have rd : v = true → q_RD P tp (q_setl s (q_bl P tp (tp.getD (5 + p_R P + 2 * p_L P) 0))) := fun z => ⟨⟨hl, hck, hn, hp, n1⟩, s, n2, hok.mp z, rfl⟩
      have dr : ∀ s', q_RD P tp s' → v = true := fun s' ⟨_, s'', z1, z2, _⟩ => by
        rw [n2] at z1
        injection z1 with z1
        rw [← z1] at z2
        exact hok.mpr z2
      refine ⟨v, S3, e1'.trans e2, (o1.trans o2).trans (a2.mono fun c k z => bD_r z), ⟨fun z => ⟨_, rd z⟩, fun ⟨s', z⟩ => dr s' z⟩, fun s' z => ?_⟩
      have hv := dr s' z
      rw [z.one (rd hv)]
      obtain ⟨p1, p2⟩ := a4 hv
      obtain ⟨t0, t1, t2, t3, t4, t5⟩ := s2
      refine ⟨⟨?_, ?_, ?_, ?_, fun r hr => ?_, fun k hk => ?_, fun i hi => ?_⟩, ⟨by simp, ?_, fun i hi => absurd hi (by simp)⟩⟩
      · rw [a2.I (by unfold bD; omega)]; exact t0
      · rw [a2.I (by unfold bD; omega)]; exact t1
      · rw [a2.I (by unfold bD; omega)]; exact t2
      · show gI S3 425 1 = nI (q_bl P tp (tp.getD (5 + p_R P + 2 * p_L P) 0)).length
        rw [q_bl_l]; exact p1
      · rw [a2.I (by unfold bD; omega)]; exact t4 r hr
      · rw [a2.I (by unfold bD; omega)]; exact t5 k hk (by omega)
      · have hi' : i < (q_bl P tp (tp.getD (5 + p_R P + 2 * p_L P) 0)).length := hi
        rw [q_bl_l] at hi'
        show gI S3 426 (6 * 1 + i) = nI ((q_bl P tp (tp.getD (5 + p_R P + 2 * p_L P) 0)).getD i 0)
        rw [show 6 * 1 + i = 6 + i by omega, p2 i hi', q_bl_g P tp hi']
      · rw [a2.I (by unfold bD; omega)]; exact t3
end TV
