/-! THE TEXT: a house opens. -/
section HK
variable {d q : Nat} {P : q_Pl} {S : z_S}
theorem q_ben_w {B k j : Nat} {s : q_St} (h : j ≠ k) : q_w (q_ben B s k) j = q_w s j := by
  unfold q_ben
  split
  · exact q_un h
  · exact q_un h
theorem q_chn_w {T : Nat} (hP : p_Wf P) : ∀ (n : Nat) (s : q_St) (g r : Nat) (o : List (Nat × Nat)), q_Gd P s → g < p_L P → q_w s g = 255 → (r = p_f P g ∨ r = p_o P g) → ∀ j, j ≠ g → q_w s j = 255 → q_w (q_chn P T n s g r o).1 j = 255
  | 0, s, g, r, o, hG, _, _, _, j, _, hj => hj
  | n + 1, s, g, r, o, hG, hg, hw, hr, j, hjg, hj => by
    rw [q_chn]
    cases hv : q_s s r with
    | none => exact hj
    | some v =>
      obtain ⟨hG1, v2, hne⟩ := hG.put hP hg hw hr hv
      obtain ⟨nx1, nx2⟩ := q_oth_R hP v2 r
      have hw1 : q_w (q_out (q_bed s g r) v) v = 255 := q_us _ _ _
      have rl : r < 16 := by
        have := hP.2.2.2.2.2.2.2.1 g hg
        have := hP.1
        omega
      have wv := (hG.2.2.2.1 r v hv).2.2
      have jv : j ≠ v := fun z => by rw [z] at hj; omega
      have w1 : q_w (q_out (q_bed s g r) v) j = 255 := by
        show q_u (q_u (q_w s) g r) v 255 j = 255
        rw [q_un jv, q_un hjg]; exact hj
      dsimp only
      split
      · show q_u (q_w (q_out (q_bed s g r) v)) v _ j = 255
        rw [q_un jv]; exact w1
      · split
        · exact q_chn_w hP n _ _ _ _ hG1 v2 hw1 nx2 j jv w1
        · rw [q_ben_w jv]; exact w1
theorem q_arr_w {T k : Nat} {s : q_St} (hP : p_Wf P) (hG : q_Gd P s) (hk : k < p_L P) (hw : q_w s k = 255) {j : Nat} (hj : j ≠ k) (h : q_w s j = 255) : q_w (q_arr P T s k).1 j = 255 := by
  unfold q_arr
  cases hin : q_in P s k with
  | some s1 =>
    obtain ⟨r, h1, h2, h3⟩ := q_in_bed hin
    rw [h3]
    show q_u (q_w s) k r j = 255
    rw [q_un hj]; exact h
  | none =>
    dsimp only
    split
    · exact q_chn_w hP _ _ _ _ _ hG hk hw (Or.inl rfl) j hj h
    · split
      · exact q_chn_w hP _ _ _ _ _ hG hk hw (Or.inr rfl) j hj h
      · rw [q_ben_w hj]; exact h
def q_opn (P : q_Pl) (l : List Nat) (s : q_St) : q_St := l.foldl (fun s k => (q_arr P (p_T P) s k).1) s
theorem q_no_G (hP : p_Wf P) : q_Gd P (q_no (p_H P)) := by
  refine ⟨hP.2.2.2.2.2.2.1, Nat.two_pow_pos _, fun r => by show Nat.testBit 0 r = _; rw [Nat.zero_testBit]; rfl, (fun r k z => by cases z), fun k z => ?_, fun k => ⟨fun z => ?_, (fun z => by cases z)⟩, fun k => Or.inr (Or.inr rfl), List.nodup_nil, (fun k z => by cases z), Nat.zero_le _, fun k => ⟨Nat.zero_le _, fun _ => rfl⟩, fun r _ => rfl, Nat.zero_le _, Nat.zero_le _⟩
  · have : (255 : Nat) < 16 := z
    omega
  · have : (255 : Nat) = 254 := z
    omega
theorem q_opn_i (hP : p_Wf P) : ∀ (l : List Nat) (s : q_St), q_Gd P s → l.Nodup → (∀ k, k ∈ l → k < p_L P) → (∀ k, k ∈ l → q_w s k = 255) → q_Gd P (q_opn P l s) ∧ q_n (q_opn P l s) = q_n s
  | [], s, hG, _, _, _ => ⟨hG, rfl⟩
  | k :: l, s, hG, hn, hl, hw => by
    have kl := hl k List.mem_cons_self
    have kw := hw k List.mem_cons_self
    obtain ⟨n1, n2⟩ := List.nodup_cons.mp hn
    obtain ⟨a1, a2⟩ := q_opn_i hP l (q_arr P (p_T P) s k).1 (q_arr_G hP hG kl kw) n2 (fun j hj => hl j (List.mem_cons_of_mem _ hj)) (fun j hj => q_arr_w hP hG kl kw (fun z => n1 (by rw [← z]; exact hj)) (hw j (List.mem_cons_of_mem _ hj)))
    exact ⟨a1, a2.trans (q_arr_n _ _ _ _)⟩
theorem c110_l : ∀ (m i : Nat) (S : z_S) (s : q_St), i + m = (p_c P).length → cH S q P → gP S 0 2 = q → cSt S 27 16 s → q_Gd P s → (∀ k, k ∈ (p_c P).drop i → q_w s k = 255) → ∃ S', b110_40 (d + 6) (nI i) S = some S' ∧ onI (hD 27) S S' ∧ cSt S' 27 16 (q_opn P ((p_c P).drop i) s)
  | 0, i, S, s, hi, hH, hp, hs, hG, hw => by
    have hP := hH.2.2.2.2
    have l16 := hP.2.2.2.2.2.2.2.2.1
    rw [b110_40_eq (d + 6) (nI i) S hH.1, hp, hH.2.2.2.1.2.2.2.2.2.2.2.1, if_pos (nI_le (by omega) (by omega)), List.drop_eq_nil_of_le (by omega)]
    exact ⟨S, rfl, onI.refl hH.1, hs⟩
  | m + 1, i, S, s, hi, hH, hp, hs, hG, hw => by
    have hP := hH.2.2.2.2
    have l16 := hP.2.2.2.2.2.2.2.2.1
    have hi' : i < (p_c P).length := by omega
    have gd : (p_c P).getD i 0 = (p_c P)[i] := by rw [List.getD_eq_getElem?_getD, List.getElem?_eq_getElem hi']; rfl
    have r : gI S (q + 4) (nI i).toNatClampNeg = nI (p_c P)[i] := by rw [nI_clamp (by omega), hH.2.2.2.1.2.2.2.2.2.2.2.2.2.2.2.1 i hi', gd]
    have dc := List.drop_eq_getElem_cons hi'
    rw [dc] at hw
    have kl := hP.2.2.2.2.2.2.2.2.2.1 _ (List.getElem_mem hi')
    have kw := hw _ List.mem_cons_self
    have nd := hP.2.2.2.2.2.2.2.2.2.2.1
    have nd2 : ((p_c P)[i] :: (p_c P).drop (i + 1)).Nodup := by rw [← dc]; exact nd.sublist (List.drop_sublist _ _)
    obtain ⟨n1, n2⟩ := List.nodup_cons.mp nd2
    obtain ⟨S', a1, a2, a3, a4, a5, a6⟩ := c32 (d := d) (p := 27) (T := p_T P) hH (by decide +kernel) hs hG kl kw hP.2.2.1
    rw [b110_40_eq (d + 6) (nI i) S hH.1, hp, hH.2.2.2.1.2.2.2.2.2.2.2.1, if_neg (nI_ge (by omega) (by omega)), if_pos ((ni_in (by omega)).mpr (by omega)), r, hH.2.2.2.1.2.2.2.1, a1, zb_some, nI_1]
    obtain ⟨S2, b1, b2, b3⟩ := c110_l m (i + 1) S' _ (by omega) (hH.on a2 fun c k z y => by unfold hD at y; omega) (by rw [a2.P]; exact hp) a3 a5 (fun j hj => q_arr_w hP hG kl kw (fun z => n1 (by rw [← z]; exact hj)) (hw j (List.mem_cons_of_mem _ hj)))
    refine ⟨S2, b1, a2.trans b2, ?_⟩
    rw [dc]
    exact b3
end HK
