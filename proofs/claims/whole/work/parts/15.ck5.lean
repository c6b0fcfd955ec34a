/-! THE CHECKS of the law, piece by piece. -/
theorem z_step {α : Type} (p : α → Bool) (n : Nat) (L : List α) (h1 : List.all (List.take n L) p = true) (h2 : List.all (List.drop n L) p = true) : List.all L p = true := by
  have h : List.all (List.take n L ++ List.drop n L) p = true := by rw [List.all_append, h1, h2]; rfl
  rwa [List.take_append_drop] at h
theorem z_lwc0 : List.all (List.take 40 z_c282) (z_bE (z_ow 282) (z_cc 282)) = true := by decide +kernel
theorem z_lwc1 : List.all (List.take 40 (List.drop 40 z_c282)) (z_bE (z_ow 282) (z_cc 282)) = true := by decide +kernel
theorem z_lwc2 : List.all (List.take 40 (List.drop 40 (List.drop 40 z_c282))) (z_bE (z_ow 282) (z_cc 282)) = true := by decide +kernel
theorem z_lwc3 : List.all (List.take 40 (List.drop 40 (List.drop 40 (List.drop 40 z_c282)))) (z_bE (z_ow 282) (z_cc 282)) = true := by decide +kernel
theorem z_lwc4 : List.all (List.take 40 (List.drop 40 (List.drop 40 (List.drop 40 (List.drop 40 z_c282))))) (z_bE (z_ow 282) (z_cc 282)) = true := by decide +kernel
theorem z_lwc5 : List.all (List.take 40 (List.drop 40 (List.drop 40 (List.drop 40 (List.drop 40 (List.drop 40 z_c282)))))) (z_bE (z_ow 282) (z_cc 282)) = true := by decide +kernel
theorem z_lwc6 : List.all (List.take 40 (List.drop 40 (List.drop 40 (List.drop 40 (List.drop 40 (List.drop 40 (List.drop 40 z_c282))))))) (z_bE (z_ow 282) (z_cc 282)) = true := by decide +kernel
theorem z_lwc7 : List.all (List.take 40 (List.drop 40 (List.drop 40 (List.drop 40 (List.drop 40 (List.drop 40 (List.drop 40 (List.drop 40 z_c282)))))))) (z_bE (z_ow 282) (z_cc 282)) = true := by decide +kernel
theorem z_lwc8 : List.all (List.take 40 (List.drop 40 (List.drop 40 (List.drop 40 (List.drop 40 (List.drop 40 (List.drop 40 (List.drop 40 (List.drop 40 z_c282))))))))) (z_bE (z_ow 282) (z_cc 282)) = true := by decide +kernel
theorem z_lwc9 : List.all (List.take 40 (List.drop 40 (List.drop 40 (List.drop 40 (List.drop 40 (List.drop 40 (List.drop 40 (List.drop 40 (List.drop 40 (List.drop 40 z_c282)))))))))) (z_bE (z_ow 282) (z_cc 282)) = true := by decide +kernel
theorem z_lwc10 : List.all (List.take 40 (List.drop 40 (List.drop 40 (List.drop 40 (List.drop 40 (List.drop 40 (List.drop 40 (List.drop 40 (List.drop 40 (List.drop 40 (List.drop 40 z_c282))))))))))) (z_bE (z_ow 282) (z_cc 282)) = true := by decide +kernel
theorem z_lwc11 : List.all (List.drop 40 (List.drop 40 (List.drop 40 (List.drop 40 (List.drop 40 (List.drop 40 (List.drop 40 (List.drop 40 (List.drop 40 (List.drop 40 (List.drop 40 z_c282))))))))))) (z_bE (z_ow 282) (z_cc 282)) = true := by decide +kernel
theorem z_b282 : z_bM 282 z_c282 = true := (z_step _ 40 _ z_lwc0 (z_step _ 40 _ z_lwc1 (z_step _ 40 _ z_lwc2 (z_step _ 40 _ z_lwc3 (z_step _ 40 _ z_lwc4 (z_step _ 40 _ z_lwc5 (z_step _ 40 _ z_lwc6 (z_step _ 40 _ z_lwc7 (z_step _ 40 _ z_lwc8 (z_step _ 40 _ z_lwc9 (z_step _ 40 _ z_lwc10 z_lwc11)))))))))))
