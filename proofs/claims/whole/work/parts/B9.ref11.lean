/-! THE TEXT: the reference begins a formula. -/
section HW
variable {d b w : Nat} {T : List Nat} {S : z_S} {p : Nat} {Q : g_Q}
theorem g_mD_r {f0 c k : Nat} (h : g_mD b f0 c k) : g_rD b c k := by
  unfold g_mD at h
  unfold g_rD bkD
  omega
theorem mFl.r {S' : z_S} {f0 : Nat} {e : Nat × Nat} (h : mFl S S' b f0 e) : mFr S S' b e := ⟨h.1.mono fun _ _ z => g_mD_r z, h.2⟩
theorem mG_0 {cs : List Nat} (h1 : mTk S T p) (h2 : gI S 396 8 = nI 0 ∧ gI S 396 9 = -nI 1) (h3 : b < 2 ∧ gI S 396 30 = nI b) (h4 : gI S 396 29 = nI cs.length) (h31 : gI S 396 31 = nI w) (hw : w < 3) : mG (sI (sI (sI (sI S 396 37 (0 : Int32)) 396 38 (0 : Int32)) 396 40 (0 : Int32)) 396 41 (0 : Int32)) T b w cs.length p cs [] 0 false ∧ onM (fun c k => c = 396 ∧ 37 ≤ k ∧ k ≤ 41) S (sI (sI (sI (sI S 396 37 (0 : Int32)) 396 38 (0 : Int32)) 396 40 (0 : Int32)) 396 41 (0 : Int32)) := by
  have st : ∀ {S' : z_S} {k : Nat} {v : Int32}, 37 ≤ k → k ≤ 41 → onM (fun c k => c = 396 ∧ 37 ≤ k ∧ k ≤ 41) S S' → onM (fun c k => c = 396 ∧ 37 ≤ k ∧ k ≤ 41) S (sI S' 396 k v) := fun {S' k v} k1 k2 o => onM_sI (D := fun c k => c = 396 ∧ 37 ≤ k ∧ k ≤ 41) (c := 396) (k := k) o ⟨rfl, k1, k2⟩
  have o : onM (fun c k => c = 396 ∧ 37 ≤ k ∧ k ≤ 41) S (sI (sI (sI (sI S 396 37 (0 : Int32)) 396 38 (0 : Int32)) 396 40 (0 : Int32)) 396 41 (0 : Int32)) := st (by decide) (by decide) (st (by decide) (by decide) (st (by decide) (by decide) (st (by decide) (by decide) (onM.refl h1.1.1))))
  have v37 : gI (sI (sI (sI (sI S 396 37 (0 : Int32)) 396 38 (0 : Int32)) 396 40 (0 : Int32)) 396 41 (0 : Int32)) 396 37 = nI 0 := rfl
  have v38 : gI (sI (sI (sI (sI S 396 37 (0 : Int32)) 396 38 (0 : Int32)) 396 40 (0 : Int32)) 396 41 (0 : Int32)) 396 38 = nI 0 := rfl
  have v40 : gI (sI (sI (sI (sI S 396 37 (0 : Int32)) 396 38 (0 : Int32)) 396 40 (0 : Int32)) 396 41 (0 : Int32)) 396 40 = nI 0 := rfl
  have v41 : gI (sI (sI (sI (sI S 396 37 (0 : Int32)) 396 38 (0 : Int32)) 396 40 (0 : Int32)) 396 41 (0 : Int32)) 396 41 = bI false := rfl
  generalize sI (sI (sI (sI S 396 37 (0 : Int32)) 396 38 (0 : Int32)) 396 40 (0 : Int32)) 396 41 (0 : Int32) = S1 at *
  exact ⟨⟨h1.on o (fun c k z => by omega), by rw [o.I (by omega)]; exact h2.1, h3.1, by rw [o.I (by omega)]; exact h3.2, by rw [o.I (by omega)]; exact h31, ⟨hw, by rw [o.I (by omega)]; exact h2.2⟩, Nat.le_refl _, ⟨by rw [o.I (by omega)]; exact h4, fun i z1 z2 => by omega⟩, v37, v40, v38, v41, trivial⟩, o⟩
end HW
