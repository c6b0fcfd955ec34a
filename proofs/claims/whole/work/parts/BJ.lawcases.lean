/-! THE LAW: its cases (written by wip/whole/gen/law.py). -/
section IE
theorem fI_W {d mi : Nat} {as : List Value} {S S' : z_S} {v : Int32} (ha : z_al mi = false) (h : fI d mi as S = some (v, S')) (hW : z_W S) : z_W S' := by
  unfold fI at h
  obtain ⟨q, h1, h2⟩ := Option.bind_eq_some_iff.mp h
  have h3 := z_call_W d mi as S q ha h1 hW
  unfold kI at h2
  split at h2
  · cases h2; exact h3
  · cases h2
section IE0
variable {α : Type} {k : z_Q → Option α} {X : Nat × (Nat → Int32)} {d mi pc : Nat} {ls st : List Value} {S : z_S} {mk : Option (List Nat)} {ts : List Nat} {x y w : Nat} {v : Int}
theorem z_rd_len {L : Nat} {xs : Nat → Int32} : z_rd (L + 1, xs) .arraylength x y (.retAddr 1 :: st) S = some (.int (nI L) :: st) := by
  show (if 0 < L + 1 then some (Value.int (Int32.ofNat (L + 1 - 1)) :: st) else none) = _
  rw [if_pos (Nat.succ_pos L)]
  rfl
theorem z_rd_ald {L : Nat} {xs : Nat → Int32} {j : Int32} (hz : z_in j L) : z_rd (L + 1, xs) .iaload x y (.int j :: .retAddr 1 :: st) S = some (.int (xs j.toNatClampNeg) :: st) := by
  show (if 0 < L + 1 ∧ z_in j (L + 1 - 1) then some (Value.int (xs j.toNatClampNeg) :: st) else none) = _
  rw [if_pos ⟨Nat.succ_pos L, hz⟩]
theorem k_lenX {L : Nat} {xs : Nat → Int32} (hf : z_ft mi pc = some (.arraylength, 1, mk, ts, x, y, w, v)) (hm : z_mk mk ls = ls) : zk k (L + 1, xs) d mi pc ls (.retAddr 1 :: st) S = zk k (L + 1, xs) d mi (pc + 1) ls (.int (nI L) :: st) S := by
  refine zk_go (c' := (pc + 1, ls, .int (nI L) :: st, S)) hf ?_
  rw [hm]
  have h := z_rd_len (L := L) (xs := xs) (x := x) (y := y) (st := st) (S := S)
  unfold z_ex
  dsimp only
  rw [h]
  rfl
theorem k_ialdX {L : Nat} {xs : Nat → Int32} {j : Int32} (hf : z_ft mi pc = some (.iaload, 1, mk, ts, x, y, w, v)) (hm : z_mk mk ls = ls) (hz : z_in j L) : zk k (L + 1, xs) d mi pc ls (.int j :: .retAddr 1 :: st) S = zk k (L + 1, xs) d mi (pc + 1) ls (.int (xs j.toNatClampNeg) :: st) S := by
  refine zk_go (c' := (pc + 1, ls, .int (xs j.toNatClampNeg) :: st, S)) hf ?_
  rw [hm]
  have h := z_rd_ald (xs := xs) (x := x) (y := y) (st := st) (S := S) hz
  unfold z_ex
  dsimp only
  rw [h]
  rfl
end IE0
variable {D L i : Nat} {xs : Nat → Int32} {S : z_S}
theorem lw_0 {A A' : q_A} (h1 : z_in (nI i + (1 : Int32)) L) (h2 : z_in (nI i + (2 : Int32)) L) (h3 : z_in (nI i + (3 : Int32)) L) (h4 : z_in (nI i + (4 : Int32)) L) (h5 : z_in (nI i + (5 : Int32)) L) (ht : twoI D 106 157 [.int (xs (nI i + (1 : Int32)).toNatClampNeg), .int (xs (nI i + (2 : Int32)).toNatClampNeg), .int (xs (nI i + (3 : Int32)).toNatClampNeg), .int (xs (nI i + (4 : Int32)).toNatClampNeg), .int (xs (nI i + (5 : Int32)).toNatClampNeg)] A A') (hS : iA S A) : ∃ S2, iA S2 A' ∧ zk some (L + 1, xs) D 282 188 [.retAddr 1, .ref 0, .ref 396, .int (nI i)] [] S = zk some (L + 1, xs) D 282 1063 [.retAddr 1, .ref 0, .ref 396, .int (nI i)] [] S2 := by
  obtain ⟨v, S1, S2, a1, a2, a3⟩ := ht S hS
  have w1 : z_W S1 := fI_W (by decide) a1 hS.1.1
  refine ⟨S2, a3, ?_⟩
  refine (k_aload_n t282_188 rfl rfl).trans ?_
  refine (k_aload_nX t282_189 rfl rfl).trans ?_
  refine (k_iload_n t282_190 rfl rfl).trans ?_
  refine (k_iconst t282_191 rfl zci_1).trans ?_
  refine (k_iadd t282_192 rfl).trans ?_
  refine (k_ialdX t282_193 rfl (h1)).trans ?_
  refine (k_aload_nX t282_194 rfl rfl).trans ?_
  refine (k_iload_n t282_195 rfl rfl).trans ?_
  refine (k_iconst t282_196 rfl zci_2).trans ?_
  refine (k_iadd t282_197 rfl).trans ?_
  refine (k_ialdX t282_198 rfl (h2)).trans ?_
  refine (k_aload_nX t282_199 rfl rfl).trans ?_
  refine (k_iload_n t282_200 rfl rfl).trans ?_
  refine (k_iconst t282_201 rfl zci_3).trans ?_
  refine (k_iadd t282_202 rfl).trans ?_
  refine (k_ialdX t282_203 rfl (h3)).trans ?_
  refine (k_aload_nX t282_204 rfl rfl).trans ?_
  refine (k_iload_n t282_205 rfl rfl).trans ?_
  refine (k_iconst t282_206 rfl zci_4).trans ?_
  refine (k_iadd t282_207 rfl).trans ?_
  refine (k_ialdX t282_208 rfl (h4)).trans ?_
  refine (k_aload_nX t282_209 rfl rfl).trans ?_
  refine (k_iload_n t282_210 rfl rfl).trans ?_
  refine (k_iconst t282_211 rfl zci_5).trans ?_
  refine (k_iadd t282_212 rfl).trans ?_
  refine (k_ialdX t282_213 rfl (h5)).trans ?_
  refine (k_callI (as := [.ref 0, .int (xs (nI i + (1 : Int32)).toNatClampNeg), .int (xs (nI i + (2 : Int32)).toNatClampNeg), .int (xs (nI i + (3 : Int32)).toNatClampNeg), .int (xs (nI i + (4 : Int32)).toNatClampNeg), .int (xs (nI i + (5 : Int32)).toNatClampNeg)]) (rest := []) (G := fun b S' => zk some (L + 1, xs) D 282 217 [.retAddr 1, .ref 0, .ref 396, .int (nI i)] [.int b] S') t282_214 rfl rfl (by decide) rfl rfl (Nat.le_of_ble_eq_true rfl) rfl (z_rcV hS.1.1 zK_0 (by decide)) (by decide) (by decide) hS.1.1 (fun _ _ _ => rfl)).trans ?_
  rw [a1, zb_some]
  refine (k_aload_n t282_217 rfl rfl).trans ?_
  refine (k_aload_nX t282_218 rfl rfl).trans ?_
  refine (k_iload_n t282_219 rfl rfl).trans ?_
  refine (k_iconst t282_220 rfl zci_1).trans ?_
  refine (k_iadd t282_221 rfl).trans ?_
  refine (k_ialdX t282_222 rfl (h1)).trans ?_
  refine (k_aload_nX t282_223 rfl rfl).trans ?_
  refine (k_iload_n t282_224 rfl rfl).trans ?_
  refine (k_iconst t282_225 rfl zci_2).trans ?_
  refine (k_iadd t282_226 rfl).trans ?_
  refine (k_ialdX t282_227 rfl (h2)).trans ?_
  refine (k_aload_nX t282_228 rfl rfl).trans ?_
  refine (k_iload_n t282_229 rfl rfl).trans ?_
  refine (k_iconst t282_230 rfl zci_3).trans ?_
  refine (k_iadd t282_231 rfl).trans ?_
  refine (k_ialdX t282_232 rfl (h3)).trans ?_
  refine (k_aload_nX t282_233 rfl rfl).trans ?_
  refine (k_iload_n t282_234 rfl rfl).trans ?_
  refine (k_iconst t282_235 rfl zci_4).trans ?_
  refine (k_iadd t282_236 rfl).trans ?_
  refine (k_ialdX t282_237 rfl (h4)).trans ?_
  refine (k_aload_nX t282_238 rfl rfl).trans ?_
  refine (k_iload_n t282_239 rfl rfl).trans ?_
  refine (k_iconst t282_240 rfl zci_5).trans ?_
  refine (k_iadd t282_241 rfl).trans ?_
  refine (k_ialdX t282_242 rfl (h5)).trans ?_
  refine (k_callI (as := [.ref 396, .int (xs (nI i + (1 : Int32)).toNatClampNeg), .int (xs (nI i + (2 : Int32)).toNatClampNeg), .int (xs (nI i + (3 : Int32)).toNatClampNeg), .int (xs (nI i + (4 : Int32)).toNatClampNeg), .int (xs (nI i + (5 : Int32)).toNatClampNeg)]) (rest := [.int v]) (G := fun b S' => zk some (L + 1, xs) D 282 246 [.retAddr 1, .ref 0, .ref 396, .int (nI i)] [.int b, .int v] S') t282_243 rfl rfl (by decide) rfl rfl (Nat.le_of_ble_eq_true rfl) rfl (z_rcV w1 zK_396 (by decide)) (by decide) (by decide) w1 (fun _ _ _ => rfl)).trans ?_
  rw [a2, zb_some]
  refine (k_icmp_eq t282_246 rfl).trans ?_
  exact if_pos rfl
theorem lw_1 {A A' : q_A} (h1 : z_in (nI i + (1 : Int32)) L) (ht : twoI D 108 158 [.int (xs (nI i + (1 : Int32)).toNatClampNeg)] A A') (hS : iA S A) : ∃ S2, iA S2 A' ∧ zk some (L + 1, xs) D 282 251 [.retAddr 1, .ref 0, .ref 396, .int (nI i)] [] S = zk some (L + 1, xs) D 282 1063 [.retAddr 1, .ref 0, .ref 396, .int (nI i)] [] S2 := by
  obtain ⟨v, S1, S2, a1, a2, a3⟩ := ht S hS
  have w1 : z_W S1 := fI_W (by decide) a1 hS.1.1
  refine ⟨S2, a3, ?_⟩
  refine (k_aload_n t282_251 rfl rfl).trans ?_
  refine (k_aload_nX t282_252 rfl rfl).trans ?_
  refine (k_iload_n t282_253 rfl rfl).trans ?_
  refine (k_iconst t282_254 rfl zci_1).trans ?_
  refine (k_iadd t282_255 rfl).trans ?_
  refine (k_ialdX t282_256 rfl (h1)).trans ?_
  refine (k_callI (as := [.ref 0, .int (xs (nI i + (1 : Int32)).toNatClampNeg)]) (rest := []) (G := fun b S' => zk some (L + 1, xs) D 282 260 [.retAddr 1, .ref 0, .ref 396, .int (nI i)] [.int b] S') t282_257 rfl rfl (by decide) rfl rfl (Nat.le_of_ble_eq_true rfl) rfl (z_rcV hS.1.1 zK_0 (by decide)) (by decide) (by decide) hS.1.1 (fun _ _ _ => rfl)).trans ?_
  rw [a1, zb_some]
  refine (k_aload_n t282_260 rfl rfl).trans ?_
  refine (k_aload_nX t282_261 rfl rfl).trans ?_
  refine (k_iload_n t282_262 rfl rfl).trans ?_
  refine (k_iconst t282_263 rfl zci_1).trans ?_
  refine (k_iadd t282_264 rfl).trans ?_
  refine (k_ialdX t282_265 rfl (h1)).trans ?_
  refine (k_callI (as := [.ref 396, .int (xs (nI i + (1 : Int32)).toNatClampNeg)]) (rest := [.int v]) (G := fun b S' => zk some (L + 1, xs) D 282 269 [.retAddr 1, .ref 0, .ref 396, .int (nI i)] [.int b, .int v] S') t282_266 rfl rfl (by decide) rfl rfl (Nat.le_of_ble_eq_true rfl) rfl (z_rcV w1 zK_396 (by decide)) (by decide) (by decide) w1 (fun _ _ _ => rfl)).trans ?_
  rw [a2, zb_some]
  refine (k_icmp_eq t282_269 rfl).trans ?_
  exact if_pos rfl
theorem lw_2 {A A' : q_A} (ht : twoI D 109 192 [] A A') (hS : iA S A) : ∃ S2, iA S2 A' ∧ zk some (L + 1, xs) D 282 274 [.retAddr 1, .ref 0, .ref 396, .int (nI i)] [] S = zk some (L + 1, xs) D 282 1063 [.retAddr 1, .ref 0, .ref 396, .int (nI i)] [] S2 := by
  obtain ⟨v, S1, S2, a1, a2, a3⟩ := ht S hS
  have w1 : z_W S1 := fI_W (by decide) a1 hS.1.1
  refine ⟨S2, a3, ?_⟩
  refine (k_aload_n t282_274 rfl rfl).trans ?_
  refine (k_callI (as := [.ref 0]) (rest := []) (G := fun b S' => zk some (L + 1, xs) D 282 278 [.retAddr 1, .ref 0, .ref 396, .int (nI i)] [.int b] S') t282_275 rfl rfl (by decide) rfl rfl (Nat.le_of_ble_eq_true rfl) rfl (z_rcV hS.1.1 zK_0 (by decide)) (by decide) (by decide) hS.1.1 (fun _ _ _ => rfl)).trans ?_
  rw [a1, zb_some]
  refine (k_aload_n t282_278 rfl rfl).trans ?_
  refine (k_callI (as := [.ref 396]) (rest := [.int v]) (G := fun b S' => zk some (L + 1, xs) D 282 282 [.retAddr 1, .ref 0, .ref 396, .int (nI i)] [.int b, .int v] S') t282_279 rfl rfl (by decide) rfl rfl (Nat.le_of_ble_eq_true rfl) rfl (z_rcV w1 zK_396 (by decide)) (by decide) (by decide) w1 (fun _ _ _ => rfl)).trans ?_
  rw [a2, zb_some]
  refine (k_icmp_eq t282_282 rfl).trans ?_
  exact if_pos rfl
theorem lw_3 {A A' : q_A} (h1 : z_in (nI i + (1 : Int32)) L) (ht : twoI D 111 193 [.int (xs (nI i + (1 : Int32)).toNatClampNeg)] A A') (hS : iA S A) : ∃ S2, iA S2 A' ∧ zk some (L + 1, xs) D 282 287 [.retAddr 1, .ref 0, .ref 396, .int (nI i)] [] S = zk some (L + 1, xs) D 282 1063 [.retAddr 1, .ref 0, .ref 396, .int (nI i)] [] S2 := by
  obtain ⟨v, S1, S2, a1, a2, a3⟩ := ht S hS
  have w1 : z_W S1 := fI_W (by decide) a1 hS.1.1
  refine ⟨S2, a3, ?_⟩
  refine (k_aload_n t282_287 rfl rfl).trans ?_
  refine (k_aload_nX t282_288 rfl rfl).trans ?_
  refine (k_iload_n t282_289 rfl rfl).trans ?_
  refine (k_iconst t282_290 rfl zci_1).trans ?_
  refine (k_iadd t282_291 rfl).trans ?_
  refine (k_ialdX t282_292 rfl (h1)).trans ?_
  refine (k_callI (as := [.ref 0, .int (xs (nI i + (1 : Int32)).toNatClampNeg)]) (rest := []) (G := fun b S' => zk some (L + 1, xs) D 282 296 [.retAddr 1, .ref 0, .ref 396, .int (nI i)] [.int b] S') t282_293 rfl rfl (by decide) rfl rfl (Nat.le_of_ble_eq_true rfl) rfl (z_rcV hS.1.1 zK_0 (by decide)) (by decide) (by decide) hS.1.1 (fun _ _ _ => rfl)).trans ?_
  rw [a1, zb_some]
  refine (k_aload_n t282_296 rfl rfl).trans ?_
  refine (k_aload_nX t282_297 rfl rfl).trans ?_
  refine (k_iload_n t282_298 rfl rfl).trans ?_
  refine (k_iconst t282_299 rfl zci_1).trans ?_
  refine (k_iadd t282_300 rfl).trans ?_
  refine (k_ialdX t282_301 rfl (h1)).trans ?_
  refine (k_callI (as := [.ref 396, .int (xs (nI i + (1 : Int32)).toNatClampNeg)]) (rest := [.int v]) (G := fun b S' => zk some (L + 1, xs) D 282 305 [.retAddr 1, .ref 0, .ref 396, .int (nI i)] [.int b, .int v] S') t282_302 rfl rfl (by decide) rfl rfl (Nat.le_of_ble_eq_true rfl) rfl (z_rcV w1 zK_396 (by decide)) (by decide) (by decide) w1 (fun _ _ _ => rfl)).trans ?_
  rw [a2, zb_some]
  refine (k_icmp_eq t282_305 rfl).trans ?_
  exact if_pos rfl
theorem lw_4 {A A' : q_A} (h1 : z_in (nI i + (1 : Int32)) L) (ht : twoI D 112 230 [.int (xs (nI i + (1 : Int32)).toNatClampNeg)] A A') (hS : iA S A) : ∃ S2, iA S2 A' ∧ zk some (L + 1, xs) D 282 310 [.retAddr 1, .ref 0, .ref 396, .int (nI i)] [] S = zk some (L + 1, xs) D 282 1063 [.retAddr 1, .ref 0, .ref 396, .int (nI i)] [] S2 := by
  obtain ⟨v, S1, S2, a1, a2, a3⟩ := ht S hS
  have w1 : z_W S1 := fI_W (by decide) a1 hS.1.1
  refine ⟨S2, a3, ?_⟩
  refine (k_aload_n t282_310 rfl rfl).trans ?_
  refine (k_aload_nX t282_311 rfl rfl).trans ?_
  refine (k_iload_n t282_312 rfl rfl).trans ?_
  refine (k_iconst t282_313 rfl zci_1).trans ?_
  refine (k_iadd t282_314 rfl).trans ?_
  refine (k_ialdX t282_315 rfl (h1)).trans ?_
  refine (k_callI (as := [.ref 0, .int (xs (nI i + (1 : Int32)).toNatClampNeg)]) (rest := []) (G := fun b S' => zk some (L + 1, xs) D 282 319 [.retAddr 1, .ref 0, .ref 396, .int (nI i)] [.int b] S') t282_316 rfl rfl (by decide) rfl rfl (Nat.le_of_ble_eq_true rfl) rfl (z_rcV hS.1.1 zK_0 (by decide)) (by decide) (by decide) hS.1.1 (fun _ _ _ => rfl)).trans ?_
  rw [a1, zb_some]
  refine (k_aload_n t282_319 rfl rfl).trans ?_
  refine (k_aload_nX t282_320 rfl rfl).trans ?_
  refine (k_iload_n t282_321 rfl rfl).trans ?_
  refine (k_iconst t282_322 rfl zci_1).trans ?_
  refine (k_iadd t282_323 rfl).trans ?_
  refine (k_ialdX t282_324 rfl (h1)).trans ?_
  refine (k_callI (as := [.ref 396, .int (xs (nI i + (1 : Int32)).toNatClampNeg)]) (rest := [.int v]) (G := fun b S' => zk some (L + 1, xs) D 282 328 [.retAddr 1, .ref 0, .ref 396, .int (nI i)] [.int b, .int v] S') t282_325 rfl rfl (by decide) rfl rfl (Nat.le_of_ble_eq_true rfl) rfl (z_rcV w1 zK_396 (by decide)) (by decide) (by decide) w1 (fun _ _ _ => rfl)).trans ?_
  rw [a2, zb_some]
  refine (k_icmp_eq t282_328 rfl).trans ?_
  exact if_pos rfl
theorem lw_5 {A A' : q_A} (h1 : z_in (nI i + (1 : Int32)) L) (h2 : z_in (nI i + (2 : Int32)) L) (ht : twoI D 113 231 [.int (xs (nI i + (1 : Int32)).toNatClampNeg), .int (xs (nI i + (2 : Int32)).toNatClampNeg)] A A') (hS : iA S A) : ∃ S2, iA S2 A' ∧ zk some (L + 1, xs) D 282 333 [.retAddr 1, .ref 0, .ref 396, .int (nI i)] [] S = zk some (L + 1, xs) D 282 1063 [.retAddr 1, .ref 0, .ref 396, .int (nI i)] [] S2 := by
  obtain ⟨v, S1, S2, a1, a2, a3⟩ := ht S hS
  have w1 : z_W S1 := fI_W (by decide) a1 hS.1.1
  refine ⟨S2, a3, ?_⟩
  refine (k_aload_n t282_333 rfl rfl).trans ?_
  refine (k_aload_nX t282_334 rfl rfl).trans ?_
  refine (k_iload_n t282_335 rfl rfl).trans ?_
  refine (k_iconst t282_336 rfl zci_1).trans ?_
  refine (k_iadd t282_337 rfl).trans ?_
  refine (k_ialdX t282_338 rfl (h1)).trans ?_
  refine (k_aload_nX t282_339 rfl rfl).trans ?_
  refine (k_iload_n t282_340 rfl rfl).trans ?_
  refine (k_iconst t282_341 rfl zci_2).trans ?_
  refine (k_iadd t282_342 rfl).trans ?_
  refine (k_ialdX t282_343 rfl (h2)).trans ?_
  refine (k_callI (as := [.ref 0, .int (xs (nI i + (1 : Int32)).toNatClampNeg), .int (xs (nI i + (2 : Int32)).toNatClampNeg)]) (rest := []) (G := fun b S' => zk some (L + 1, xs) D 282 347 [.retAddr 1, .ref 0, .ref 396, .int (nI i)] [.int b] S') t282_344 rfl rfl (by decide) rfl rfl (Nat.le_of_ble_eq_true rfl) rfl (z_rcV hS.1.1 zK_0 (by decide)) (by decide) (by decide) hS.1.1 (fun _ _ _ => rfl)).trans ?_
  rw [a1, zb_some]
  refine (k_aload_n t282_347 rfl rfl).trans ?_
  refine (k_aload_nX t282_348 rfl rfl).trans ?_
  refine (k_iload_n t282_349 rfl rfl).trans ?_
  refine (k_iconst t282_350 rfl zci_1).trans ?_
  refine (k_iadd t282_351 rfl).trans ?_
  refine (k_ialdX t282_352 rfl (h1)).trans ?_
  refine (k_aload_nX t282_353 rfl rfl).trans ?_
  refine (k_iload_n t282_354 rfl rfl).trans ?_
  refine (k_iconst t282_355 rfl zci_2).trans ?_
  refine (k_iadd t282_356 rfl).trans ?_
  refine (k_ialdX t282_357 rfl (h2)).trans ?_
  refine (k_callI (as := [.ref 396, .int (xs (nI i + (1 : Int32)).toNatClampNeg), .int (xs (nI i + (2 : Int32)).toNatClampNeg)]) (rest := [.int v]) (G := fun b S' => zk some (L + 1, xs) D 282 361 [.retAddr 1, .ref 0, .ref 396, .int (nI i)] [.int b, .int v] S') t282_358 rfl rfl (by decide) rfl rfl (Nat.le_of_ble_eq_true rfl) rfl (z_rcV w1 zK_396 (by decide)) (by decide) (by decide) w1 (fun _ _ _ => rfl)).trans ?_
  rw [a2, zb_some]
  refine (k_icmp_eq t282_361 rfl).trans ?_
  exact if_pos rfl
theorem lw_6 {A A' : q_A} (h1 : z_in (nI i + (1 : Int32)) L) (h2 : z_in (nI i + (2 : Int32)) L) (ht : twoI D 114 232 [.int (xs (nI i + (1 : Int32)).toNatClampNeg), .int (xs (nI i + (2 : Int32)).toNatClampNeg)] A A') (hS : iA S A) : ∃ S2, iA S2 A' ∧ zk some (L + 1, xs) D 282 366 [.retAddr 1, .ref 0, .ref 396, .int (nI i)] [] S = zk some (L + 1, xs) D 282 1063 [.retAddr 1, .ref 0, .ref 396, .int (nI i)] [] S2 := by
  obtain ⟨v, S1, S2, a1, a2, a3⟩ := ht S hS
  have w1 : z_W S1 := fI_W (by decide) a1 hS.1.1
  refine ⟨S2, a3, ?_⟩
  refine (k_aload_n t282_366 rfl rfl).trans ?_
  refine (k_aload_nX t282_367 rfl rfl).trans ?_
  refine (k_iload_n t282_368 rfl rfl).trans ?_
  refine (k_iconst t282_369 rfl zci_1).trans ?_
  refine (k_iadd t282_370 rfl).trans ?_
  refine (k_ialdX t282_371 rfl (h1)).trans ?_
  refine (k_aload_nX t282_372 rfl rfl).trans ?_
  refine (k_iload_n t282_373 rfl rfl).trans ?_
  refine (k_iconst t282_374 rfl zci_2).trans ?_
  refine (k_iadd t282_375 rfl).trans ?_
  refine (k_ialdX t282_376 rfl (h2)).trans ?_
  refine (k_callI (as := [.ref 0, .int (xs (nI i + (1 : Int32)).toNatClampNeg), .int (xs (nI i + (2 : Int32)).toNatClampNeg)]) (rest := []) (G := fun b S' => zk some (L + 1, xs) D 282 380 [.retAddr 1, .ref 0, .ref 396, .int (nI i)] [.int b] S') t282_377 rfl rfl (by decide) rfl rfl (Nat.le_of_ble_eq_true rfl) rfl (z_rcV hS.1.1 zK_0 (by decide)) (by decide) (by decide) hS.1.1 (fun _ _ _ => rfl)).trans ?_
  rw [a1, zb_some]
  refine (k_aload_n t282_380 rfl rfl).trans ?_
  refine (k_aload_nX t282_381 rfl rfl).trans ?_
  refine (k_iload_n t282_382 rfl rfl).trans ?_
  refine (k_iconst t282_383 rfl zci_1).trans ?_
  refine (k_iadd t282_384 rfl).trans ?_
  refine (k_ialdX t282_385 rfl (h1)).trans ?_
  refine (k_aload_nX t282_386 rfl rfl).trans ?_
  refine (k_iload_n t282_387 rfl rfl).trans ?_
  refine (k_iconst t282_388 rfl zci_2).trans ?_
  refine (k_iadd t282_389 rfl).trans ?_
  refine (k_ialdX t282_390 rfl (h2)).trans ?_
  refine (k_callI (as := [.ref 396, .int (xs (nI i + (1 : Int32)).toNatClampNeg), .int (xs (nI i + (2 : Int32)).toNatClampNeg)]) (rest := [.int v]) (G := fun b S' => zk some (L + 1, xs) D 282 394 [.retAddr 1, .ref 0, .ref 396, .int (nI i)] [.int b, .int v] S') t282_391 rfl rfl (by decide) rfl rfl (Nat.le_of_ble_eq_true rfl) rfl (z_rcV w1 zK_396 (by decide)) (by decide) (by decide) w1 (fun _ _ _ => rfl)).trans ?_
  rw [a2, zb_some]
  refine (k_icmp_eq t282_394 rfl).trans ?_
  exact if_pos rfl
theorem lw_7 {A A' : q_A} (h1 : z_in (nI i + (1 : Int32)) L) (h2 : z_in (nI i + (2 : Int32)) L) (ht : twoI D 115 233 [.int (xs (nI i + (1 : Int32)).toNatClampNeg), .int (xs (nI i + (2 : Int32)).toNatClampNeg)] A A') (hS : iA S A) : ∃ S2, iA S2 A' ∧ zk some (L + 1, xs) D 282 399 [.retAddr 1, .ref 0, .ref 396, .int (nI i)] [] S = zk some (L + 1, xs) D 282 1063 [.retAddr 1, .ref 0, .ref 396, .int (nI i)] [] S2 := by
  obtain ⟨v, S1, S2, a1, a2, a3⟩ := ht S hS
  have w1 : z_W S1 := fI_W (by decide) a1 hS.1.1
  refine ⟨S2, a3, ?_⟩
  refine (k_aload_n t282_399 rfl rfl).trans ?_
  refine (k_aload_nX t282_400 rfl rfl).trans ?_
  refine (k_iload_n t282_401 rfl rfl).trans ?_
  refine (k_iconst t282_402 rfl zci_1).trans ?_
  refine (k_iadd t282_403 rfl).trans ?_
  refine (k_ialdX t282_404 rfl (h1)).trans ?_
  refine (k_aload_nX t282_405 rfl rfl).trans ?_
  refine (k_iload_n t282_406 rfl rfl).trans ?_
  refine (k_iconst t282_407 rfl zci_2).trans ?_
  refine (k_iadd t282_408 rfl).trans ?_
  refine (k_ialdX t282_409 rfl (h2)).trans ?_
  refine (k_callI (as := [.ref 0, .int (xs (nI i + (1 : Int32)).toNatClampNeg), .int (xs (nI i + (2 : Int32)).toNatClampNeg)]) (rest := []) (G := fun b S' => zk some (L + 1, xs) D 282 413 [.retAddr 1, .ref 0, .ref 396, .int (nI i)] [.int b] S') t282_410 rfl rfl (by decide) rfl rfl (Nat.le_of_ble_eq_true rfl) rfl (z_rcV hS.1.1 zK_0 (by decide)) (by decide) (by decide) hS.1.1 (fun _ _ _ => rfl)).trans ?_
  rw [a1, zb_some]
  refine (k_aload_n t282_413 rfl rfl).trans ?_
  refine (k_aload_nX t282_414 rfl rfl).trans ?_
  refine (k_iload_n t282_415 rfl rfl).trans ?_
  refine (k_iconst t282_416 rfl zci_1).trans ?_
  refine (k_iadd t282_417 rfl).trans ?_
  refine (k_ialdX t282_418 rfl (h1)).trans ?_
  refine (k_aload_nX t282_419 rfl rfl).trans ?_
  refine (k_iload_n t282_420 rfl rfl).trans ?_
  refine (k_iconst t282_421 rfl zci_2).trans ?_
  refine (k_iadd t282_422 rfl).trans ?_
  refine (k_ialdX t282_423 rfl (h2)).trans ?_
  refine (k_callI (as := [.ref 396, .int (xs (nI i + (1 : Int32)).toNatClampNeg), .int (xs (nI i + (2 : Int32)).toNatClampNeg)]) (rest := [.int v]) (G := fun b S' => zk some (L + 1, xs) D 282 427 [.retAddr 1, .ref 0, .ref 396, .int (nI i)] [.int b, .int v] S') t282_424 rfl rfl (by decide) rfl rfl (Nat.le_of_ble_eq_true rfl) rfl (z_rcV w1 zK_396 (by decide)) (by decide) (by decide) w1 (fun _ _ _ => rfl)).trans ?_
  rw [a2, zb_some]
  refine (k_icmp_eq t282_427 rfl).trans ?_
  exact if_pos rfl
theorem lw_8 {A A' : q_A} (h1 : z_in (nI i + (1 : Int32)) L) (ht : twoI D 116 234 [.int (xs (nI i + (1 : Int32)).toNatClampNeg)] A A') (hS : iA S A) : ∃ S2, iA S2 A' ∧ zk some (L + 1, xs) D 282 432 [.retAddr 1, .ref 0, .ref 396, .int (nI i)] [] S = zk some (L + 1, xs) D 282 1063 [.retAddr 1, .ref 0, .ref 396, .int (nI i)] [] S2 := by
  obtain ⟨v, S1, S2, a1, a2, a3⟩ := ht S hS
  have w1 : z_W S1 := fI_W (by decide) a1 hS.1.1
  refine ⟨S2, a3, ?_⟩
  refine (k_aload_n t282_432 rfl rfl).trans ?_
  refine (k_aload_nX t282_433 rfl rfl).trans ?_
  refine (k_iload_n t282_434 rfl rfl).trans ?_
  refine (k_iconst t282_435 rfl zci_1).trans ?_
  refine (k_iadd t282_436 rfl).trans ?_
  refine (k_ialdX t282_437 rfl (h1)).trans ?_
  refine (k_callI (as := [.ref 0, .int (xs (nI i + (1 : Int32)).toNatClampNeg)]) (rest := []) (G := fun b S' => zk some (L + 1, xs) D 282 441 [.retAddr 1, .ref 0, .ref 396, .int (nI i)] [.int b] S') t282_438 rfl rfl (by decide) rfl rfl (Nat.le_of_ble_eq_true rfl) rfl (z_rcV hS.1.1 zK_0 (by decide)) (by decide) (by decide) hS.1.1 (fun _ _ _ => rfl)).trans ?_
  rw [a1, zb_some]
  refine (k_aload_n t282_441 rfl rfl).trans ?_
  refine (k_aload_nX t282_442 rfl rfl).trans ?_
  refine (k_iload_n t282_443 rfl rfl).trans ?_
  refine (k_iconst t282_444 rfl zci_1).trans ?_
  refine (k_iadd t282_445 rfl).trans ?_
  refine (k_ialdX t282_446 rfl (h1)).trans ?_
  refine (k_callI (as := [.ref 396, .int (xs (nI i + (1 : Int32)).toNatClampNeg)]) (rest := [.int v]) (G := fun b S' => zk some (L + 1, xs) D 282 450 [.retAddr 1, .ref 0, .ref 396, .int (nI i)] [.int b, .int v] S') t282_447 rfl rfl (by decide) rfl rfl (Nat.le_of_ble_eq_true rfl) rfl (z_rcV w1 zK_396 (by decide)) (by decide) (by decide) w1 (fun _ _ _ => rfl)).trans ?_
  rw [a2, zb_some]
  refine (k_icmp_eq t282_450 rfl).trans ?_
  exact if_pos rfl
theorem lw_9 {A A' : q_A} (h1 : z_in (nI i + (1 : Int32)) L) (h2 : z_in (nI i + (2 : Int32)) L) (ht : twoI D 117 237 [.int (xs (nI i + (1 : Int32)).toNatClampNeg), .int (xs (nI i + (2 : Int32)).toNatClampNeg)] A A') (hS : iA S A) : ∃ S2, iA S2 A' ∧ zk some (L + 1, xs) D 282 455 [.retAddr 1, .ref 0, .ref 396, .int (nI i)] [] S = zk some (L + 1, xs) D 282 1063 [.retAddr 1, .ref 0, .ref 396, .int (nI i)] [] S2 := by
  obtain ⟨v, S1, S2, a1, a2, a3⟩ := ht S hS
  have w1 : z_W S1 := fI_W (by decide) a1 hS.1.1
  refine ⟨S2, a3, ?_⟩
  refine (k_aload_n t282_455 rfl rfl).trans ?_
  refine (k_aload_nX t282_456 rfl rfl).trans ?_
  refine (k_iload_n t282_457 rfl rfl).trans ?_
  refine (k_iconst t282_458 rfl zci_1).trans ?_
  refine (k_iadd t282_459 rfl).trans ?_
  refine (k_ialdX t282_460 rfl (h1)).trans ?_
  refine (k_aload_nX t282_461 rfl rfl).trans ?_
  refine (k_iload_n t282_462 rfl rfl).trans ?_
  refine (k_iconst t282_463 rfl zci_2).trans ?_
  refine (k_iadd t282_464 rfl).trans ?_
  refine (k_ialdX t282_465 rfl (h2)).trans ?_
  refine (k_callI (as := [.ref 0, .int (xs (nI i + (1 : Int32)).toNatClampNeg), .int (xs (nI i + (2 : Int32)).toNatClampNeg)]) (rest := []) (G := fun b S' => zk some (L + 1, xs) D 282 469 [.retAddr 1, .ref 0, .ref 396, .int (nI i)] [.int b] S') t282_466 rfl rfl (by decide) rfl rfl (Nat.le_of_ble_eq_true rfl) rfl (z_rcV hS.1.1 zK_0 (by decide)) (by decide) (by decide) hS.1.1 (fun _ _ _ => rfl)).trans ?_
  rw [a1, zb_some]
  refine (k_aload_n t282_469 rfl rfl).trans ?_
  refine (k_aload_nX t282_470 rfl rfl).trans ?_
  refine (k_iload_n t282_471 rfl rfl).trans ?_
  refine (k_iconst t282_472 rfl zci_1).trans ?_
  refine (k_iadd t282_473 rfl).trans ?_
  refine (k_ialdX t282_474 rfl (h1)).trans ?_
  refine (k_aload_nX t282_475 rfl rfl).trans ?_
  refine (k_iload_n t282_476 rfl rfl).trans ?_
  refine (k_iconst t282_477 rfl zci_2).trans ?_
  refine (k_iadd t282_478 rfl).trans ?_
  refine (k_ialdX t282_479 rfl (h2)).trans ?_
  refine (k_callI (as := [.ref 396, .int (xs (nI i + (1 : Int32)).toNatClampNeg), .int (xs (nI i + (2 : Int32)).toNatClampNeg)]) (rest := [.int v]) (G := fun b S' => zk some (L + 1, xs) D 282 483 [.retAddr 1, .ref 0, .ref 396, .int (nI i)] [.int b, .int v] S') t282_480 rfl rfl (by decide) rfl rfl (Nat.le_of_ble_eq_true rfl) rfl (z_rcV w1 zK_396 (by decide)) (by decide) (by decide) w1 (fun _ _ _ => rfl)).trans ?_
  rw [a2, zb_some]
  refine (k_icmp_eq t282_483 rfl).trans ?_
  exact if_pos rfl
theorem lw_10 {A A' : q_A} (h1 : z_in (nI i + (1 : Int32)) L) (h2 : z_in (nI i + (2 : Int32)) L) (ht : twoI D 118 238 [.int (xs (nI i + (1 : Int32)).toNatClampNeg), .int (xs (nI i + (2 : Int32)).toNatClampNeg)] A A') (hS : iA S A) : ∃ S2, iA S2 A' ∧ zk some (L + 1, xs) D 282 488 [.retAddr 1, .ref 0, .ref 396, .int (nI i)] [] S = zk some (L + 1, xs) D 282 1063 [.retAddr 1, .ref 0, .ref 396, .int (nI i)] [] S2 := by
  obtain ⟨v, S1, S2, a1, a2, a3⟩ := ht S hS
  have w1 : z_W S1 := fI_W (by decide) a1 hS.1.1
  refine ⟨S2, a3, ?_⟩
  refine (k_aload_n t282_488 rfl rfl).trans ?_
  refine (k_aload_nX t282_489 rfl rfl).trans ?_
  refine (k_iload_n t282_490 rfl rfl).trans ?_
  refine (k_iconst t282_491 rfl zci_1).trans ?_
  refine (k_iadd t282_492 rfl).trans ?_
  refine (k_ialdX t282_493 rfl (h1)).trans ?_
  refine (k_aload_nX t282_494 rfl rfl).trans ?_
  refine (k_iload_n t282_495 rfl rfl).trans ?_
  refine (k_iconst t282_496 rfl zci_2).trans ?_
  refine (k_iadd t282_497 rfl).trans ?_
  refine (k_ialdX t282_498 rfl (h2)).trans ?_
  refine (k_callI (as := [.ref 0, .int (xs (nI i + (1 : Int32)).toNatClampNeg), .int (xs (nI i + (2 : Int32)).toNatClampNeg)]) (rest := []) (G := fun b S' => zk some (L + 1, xs) D 282 502 [.retAddr 1, .ref 0, .ref 396, .int (nI i)] [.int b] S') t282_499 rfl rfl (by decide) rfl rfl (Nat.le_of_ble_eq_true rfl) rfl (z_rcV hS.1.1 zK_0 (by decide)) (by decide) (by decide) hS.1.1 (fun _ _ _ => rfl)).trans ?_
  rw [a1, zb_some]
  refine (k_aload_n t282_502 rfl rfl).trans ?_
  refine (k_aload_nX t282_503 rfl rfl).trans ?_
  refine (k_iload_n t282_504 rfl rfl).trans ?_
  refine (k_iconst t282_505 rfl zci_1).trans ?_
  refine (k_iadd t282_506 rfl).trans ?_
  refine (k_ialdX t282_507 rfl (h1)).trans ?_
  refine (k_aload_nX t282_508 rfl rfl).trans ?_
  refine (k_iload_n t282_509 rfl rfl).trans ?_
  refine (k_iconst t282_510 rfl zci_2).trans ?_
  refine (k_iadd t282_511 rfl).trans ?_
  refine (k_ialdX t282_512 rfl (h2)).trans ?_
  refine (k_callI (as := [.ref 396, .int (xs (nI i + (1 : Int32)).toNatClampNeg), .int (xs (nI i + (2 : Int32)).toNatClampNeg)]) (rest := [.int v]) (G := fun b S' => zk some (L + 1, xs) D 282 516 [.retAddr 1, .ref 0, .ref 396, .int (nI i)] [.int b, .int v] S') t282_513 rfl rfl (by decide) rfl rfl (Nat.le_of_ble_eq_true rfl) rfl (z_rcV w1 zK_396 (by decide)) (by decide) (by decide) w1 (fun _ _ _ => rfl)).trans ?_
  rw [a2, zb_some]
  refine (k_icmp_eq t282_516 rfl).trans ?_
  exact if_pos rfl
theorem lw_11 {A A' : q_A} (h1 : z_in (nI i + (1 : Int32)) L) (ht : twoI D 119 239 [.int (xs (nI i + (1 : Int32)).toNatClampNeg)] A A') (hS : iA S A) : ∃ S2, iA S2 A' ∧ zk some (L + 1, xs) D 282 521 [.retAddr 1, .ref 0, .ref 396, .int (nI i)] [] S = zk some (L + 1, xs) D 282 1063 [.retAddr 1, .ref 0, .ref 396, .int (nI i)] [] S2 := by
  obtain ⟨v, S1, S2, a1, a2, a3⟩ := ht S hS
  have w1 : z_W S1 := fI_W (by decide) a1 hS.1.1
  refine ⟨S2, a3, ?_⟩
  refine (k_aload_n t282_521 rfl rfl).trans ?_
  refine (k_aload_nX t282_522 rfl rfl).trans ?_
  refine (k_iload_n t282_523 rfl rfl).trans ?_
  refine (k_iconst t282_524 rfl zci_1).trans ?_
  refine (k_iadd t282_525 rfl).trans ?_
  refine (k_ialdX t282_526 rfl (h1)).trans ?_
  refine (k_callI (as := [.ref 0, .int (xs (nI i + (1 : Int32)).toNatClampNeg)]) (rest := []) (G := fun b S' => zk some (L + 1, xs) D 282 530 [.retAddr 1, .ref 0, .ref 396, .int (nI i)] [.int b] S') t282_527 rfl rfl (by decide) rfl rfl (Nat.le_of_ble_eq_true rfl) rfl (z_rcV hS.1.1 zK_0 (by decide)) (by decide) (by decide) hS.1.1 (fun _ _ _ => rfl)).trans ?_
  rw [a1, zb_some]
  refine (k_aload_n t282_530 rfl rfl).trans ?_
  refine (k_aload_nX t282_531 rfl rfl).trans ?_
  refine (k_iload_n t282_532 rfl rfl).trans ?_
  refine (k_iconst t282_533 rfl zci_1).trans ?_
  refine (k_iadd t282_534 rfl).trans ?_
  refine (k_ialdX t282_535 rfl (h1)).trans ?_
  refine (k_callI (as := [.ref 396, .int (xs (nI i + (1 : Int32)).toNatClampNeg)]) (rest := [.int v]) (G := fun b S' => zk some (L + 1, xs) D 282 539 [.retAddr 1, .ref 0, .ref 396, .int (nI i)] [.int b, .int v] S') t282_536 rfl rfl (by decide) rfl rfl (Nat.le_of_ble_eq_true rfl) rfl (z_rcV w1 zK_396 (by decide)) (by decide) (by decide) w1 (fun _ _ _ => rfl)).trans ?_
  rw [a2, zb_some]
  refine (k_icmp_eq t282_539 rfl).trans ?_
  exact if_pos rfl
theorem lw_12 {A A' : q_A} (h1 : z_in (nI i + (1 : Int32)) L) (ht : twoI D 120 240 [.int (xs (nI i + (1 : Int32)).toNatClampNeg)] A A') (hS : iA S A) : ∃ S2, iA S2 A' ∧ zk some (L + 1, xs) D 282 544 [.retAddr 1, .ref 0, .ref 396, .int (nI i)] [] S = zk some (L + 1, xs) D 282 1063 [.retAddr 1, .ref 0, .ref 396, .int (nI i)] [] S2 := by
  obtain ⟨v, S1, S2, a1, a2, a3⟩ := ht S hS
  have w1 : z_W S1 := fI_W (by decide) a1 hS.1.1
  refine ⟨S2, a3, ?_⟩
  refine (k_aload_n t282_544 rfl rfl).trans ?_
  refine (k_aload_nX t282_545 rfl rfl).trans ?_
  refine (k_iload_n t282_546 rfl rfl).trans ?_
  refine (k_iconst t282_547 rfl zci_1).trans ?_
  refine (k_iadd t282_548 rfl).trans ?_
  refine (k_ialdX t282_549 rfl (h1)).trans ?_
  refine (k_callI (as := [.ref 0, .int (xs (nI i + (1 : Int32)).toNatClampNeg)]) (rest := []) (G := fun b S' => zk some (L + 1, xs) D 282 553 [.retAddr 1, .ref 0, .ref 396, .int (nI i)] [.int b] S') t282_550 rfl rfl (by decide) rfl rfl (Nat.le_of_ble_eq_true rfl) rfl (z_rcV hS.1.1 zK_0 (by decide)) (by decide) (by decide) hS.1.1 (fun _ _ _ => rfl)).trans ?_
  rw [a1, zb_some]
  refine (k_aload_n t282_553 rfl rfl).trans ?_
  refine (k_aload_nX t282_554 rfl rfl).trans ?_
  refine (k_iload_n t282_555 rfl rfl).trans ?_
  refine (k_iconst t282_556 rfl zci_1).trans ?_
  refine (k_iadd t282_557 rfl).trans ?_
  refine (k_ialdX t282_558 rfl (h1)).trans ?_
  refine (k_callI (as := [.ref 396, .int (xs (nI i + (1 : Int32)).toNatClampNeg)]) (rest := [.int v]) (G := fun b S' => zk some (L + 1, xs) D 282 562 [.retAddr 1, .ref 0, .ref 396, .int (nI i)] [.int b, .int v] S') t282_559 rfl rfl (by decide) rfl rfl (Nat.le_of_ble_eq_true rfl) rfl (z_rcV w1 zK_396 (by decide)) (by decide) (by decide) w1 (fun _ _ _ => rfl)).trans ?_
  rw [a2, zb_some]
  refine (k_icmp_eq t282_562 rfl).trans ?_
  exact if_pos rfl
theorem lw_13 {A A' : q_A} (h1 : z_in (nI i + (1 : Int32)) L) (ht : twoI D 122 245 [.int (xs (nI i + (1 : Int32)).toNatClampNeg)] A A') (hS : iA S A) : ∃ S2, iA S2 A' ∧ zk some (L + 1, xs) D 282 567 [.retAddr 1, .ref 0, .ref 396, .int (nI i)] [] S = zk some (L + 1, xs) D 282 1063 [.retAddr 1, .ref 0, .ref 396, .int (nI i)] [] S2 := by
  obtain ⟨v, S1, S2, a1, a2, a3⟩ := ht S hS
  have w1 : z_W S1 := fI_W (by decide) a1 hS.1.1
  refine ⟨S2, a3, ?_⟩
  refine (k_aload_n t282_567 rfl rfl).trans ?_
  refine (k_aload_nX t282_568 rfl rfl).trans ?_
  refine (k_iload_n t282_569 rfl rfl).trans ?_
  refine (k_iconst t282_570 rfl zci_1).trans ?_
  refine (k_iadd t282_571 rfl).trans ?_
  refine (k_ialdX t282_572 rfl (h1)).trans ?_
  refine (k_callI (as := [.ref 0, .int (xs (nI i + (1 : Int32)).toNatClampNeg)]) (rest := []) (G := fun b S' => zk some (L + 1, xs) D 282 576 [.retAddr 1, .ref 0, .ref 396, .int (nI i)] [.int b] S') t282_573 rfl rfl (by decide) rfl rfl (Nat.le_of_ble_eq_true rfl) rfl (z_rcV hS.1.1 zK_0 (by decide)) (by decide) (by decide) hS.1.1 (fun _ _ _ => rfl)).trans ?_
  rw [a1, zb_some]
  refine (k_aload_n t282_576 rfl rfl).trans ?_
  refine (k_aload_nX t282_577 rfl rfl).trans ?_
  refine (k_iload_n t282_578 rfl rfl).trans ?_
  refine (k_iconst t282_579 rfl zci_1).trans ?_
  refine (k_iadd t282_580 rfl).trans ?_
  refine (k_ialdX t282_581 rfl (h1)).trans ?_
  refine (k_callI (as := [.ref 396, .int (xs (nI i + (1 : Int32)).toNatClampNeg)]) (rest := [.int v]) (G := fun b S' => zk some (L + 1, xs) D 282 585 [.retAddr 1, .ref 0, .ref 396, .int (nI i)] [.int b, .int v] S') t282_582 rfl rfl (by decide) rfl rfl (Nat.le_of_ble_eq_true rfl) rfl (z_rcV w1 zK_396 (by decide)) (by decide) (by decide) w1 (fun _ _ _ => rfl)).trans ?_
  rw [a2, zb_some]
  refine (k_icmp_eq t282_585 rfl).trans ?_
  exact if_pos rfl
theorem lw_14 {A A' : q_A} (h1 : z_in (nI i + (1 : Int32)) L) (ht : twoI D 123 246 [.int (xs (nI i + (1 : Int32)).toNatClampNeg)] A A') (hS : iA S A) : ∃ S2, iA S2 A' ∧ zk some (L + 1, xs) D 282 590 [.retAddr 1, .ref 0, .ref 396, .int (nI i)] [] S = zk some (L + 1, xs) D 282 1063 [.retAddr 1, .ref 0, .ref 396, .int (nI i)] [] S2 := by
  obtain ⟨v, S1, S2, a1, a2, a3⟩ := ht S hS
  have w1 : z_W S1 := fI_W (by decide) a1 hS.1.1
  refine ⟨S2, a3, ?_⟩
  refine (k_aload_n t282_590 rfl rfl).trans ?_
  refine (k_aload_nX t282_591 rfl rfl).trans ?_
  refine (k_iload_n t282_592 rfl rfl).trans ?_
  refine (k_iconst t282_593 rfl zci_1).trans ?_
  refine (k_iadd t282_594 rfl).trans ?_
  refine (k_ialdX t282_595 rfl (h1)).trans ?_
  refine (k_callI (as := [.ref 0, .int (xs (nI i + (1 : Int32)).toNatClampNeg)]) (rest := []) (G := fun b S' => zk some (L + 1, xs) D 282 599 [.retAddr 1, .ref 0, .ref 396, .int (nI i)] [.int b] S') t282_596 rfl rfl (by decide) rfl rfl (Nat.le_of_ble_eq_true rfl) rfl (z_rcV hS.1.1 zK_0 (by decide)) (by decide) (by decide) hS.1.1 (fun _ _ _ => rfl)).trans ?_
  rw [a1, zb_some]
  refine (k_aload_n t282_599 rfl rfl).trans ?_
  refine (k_aload_nX t282_600 rfl rfl).trans ?_
  refine (k_iload_n t282_601 rfl rfl).trans ?_
  refine (k_iconst t282_602 rfl zci_1).trans ?_
  refine (k_iadd t282_603 rfl).trans ?_
  refine (k_ialdX t282_604 rfl (h1)).trans ?_
  refine (k_callI (as := [.ref 396, .int (xs (nI i + (1 : Int32)).toNatClampNeg)]) (rest := [.int v]) (G := fun b S' => zk some (L + 1, xs) D 282 608 [.retAddr 1, .ref 0, .ref 396, .int (nI i)] [.int b, .int v] S') t282_605 rfl rfl (by decide) rfl rfl (Nat.le_of_ble_eq_true rfl) rfl (z_rcV w1 zK_396 (by decide)) (by decide) (by decide) w1 (fun _ _ _ => rfl)).trans ?_
  rw [a2, zb_some]
  refine (k_icmp_eq t282_608 rfl).trans ?_
  exact if_pos rfl
theorem lw_15 {A A' : q_A} (h1 : z_in (nI i + (1 : Int32)) L) (ht : twoI D 124 247 [.int (xs (nI i + (1 : Int32)).toNatClampNeg)] A A') (hS : iA S A) : ∃ S2, iA S2 A' ∧ zk some (L + 1, xs) D 282 613 [.retAddr 1, .ref 0, .ref 396, .int (nI i)] [] S = zk some (L + 1, xs) D 282 1063 [.retAddr 1, .ref 0, .ref 396, .int (nI i)] [] S2 := by
  obtain ⟨v, S1, S2, a1, a2, a3⟩ := ht S hS
  have w1 : z_W S1 := fI_W (by decide) a1 hS.1.1
  refine ⟨S2, a3, ?_⟩
  refine (k_aload_n t282_613 rfl rfl).trans ?_
  refine (k_aload_nX t282_614 rfl rfl).trans ?_
  refine (k_iload_n t282_615 rfl rfl).trans ?_
  refine (k_iconst t282_616 rfl zci_1).trans ?_
  refine (k_iadd t282_617 rfl).trans ?_
  refine (k_ialdX t282_618 rfl (h1)).trans ?_
  refine (k_callI (as := [.ref 0, .int (xs (nI i + (1 : Int32)).toNatClampNeg)]) (rest := []) (G := fun b S' => zk some (L + 1, xs) D 282 622 [.retAddr 1, .ref 0, .ref 396, .int (nI i)] [.int b] S') t282_619 rfl rfl (by decide) rfl rfl (Nat.le_of_ble_eq_true rfl) rfl (z_rcV hS.1.1 zK_0 (by decide)) (by decide) (by decide) hS.1.1 (fun _ _ _ => rfl)).trans ?_
  rw [a1, zb_some]
  refine (k_aload_n t282_622 rfl rfl).trans ?_
  refine (k_aload_nX t282_623 rfl rfl).trans ?_
  refine (k_iload_n t282_624 rfl rfl).trans ?_
  refine (k_iconst t282_625 rfl zci_1).trans ?_
  refine (k_iadd t282_626 rfl).trans ?_
  refine (k_ialdX t282_627 rfl (h1)).trans ?_
  refine (k_callI (as := [.ref 396, .int (xs (nI i + (1 : Int32)).toNatClampNeg)]) (rest := [.int v]) (G := fun b S' => zk some (L + 1, xs) D 282 631 [.retAddr 1, .ref 0, .ref 396, .int (nI i)] [.int b, .int v] S') t282_628 rfl rfl (by decide) rfl rfl (Nat.le_of_ble_eq_true rfl) rfl (z_rcV w1 zK_396 (by decide)) (by decide) (by decide) w1 (fun _ _ _ => rfl)).trans ?_
  rw [a2, zb_some]
  refine (k_icmp_eq t282_631 rfl).trans ?_
  exact if_pos rfl
theorem lw_16 {A A' : q_A} (ht : twoI D 125 248 [] A A') (hS : iA S A) : ∃ S2, iA S2 A' ∧ zk some (L + 1, xs) D 282 636 [.retAddr 1, .ref 0, .ref 396, .int (nI i)] [] S = zk some (L + 1, xs) D 282 1063 [.retAddr 1, .ref 0, .ref 396, .int (nI i)] [] S2 := by
  obtain ⟨v, S1, S2, a1, a2, a3⟩ := ht S hS
  have w1 : z_W S1 := fI_W (by decide) a1 hS.1.1
  refine ⟨S2, a3, ?_⟩
  refine (k_aload_n t282_636 rfl rfl).trans ?_
  refine (k_callI (as := [.ref 0]) (rest := []) (G := fun b S' => zk some (L + 1, xs) D 282 640 [.retAddr 1, .ref 0, .ref 396, .int (nI i)] [.int b] S') t282_637 rfl rfl (by decide) rfl rfl (Nat.le_of_ble_eq_true rfl) rfl (z_rcV hS.1.1 zK_0 (by decide)) (by decide) (by decide) hS.1.1 (fun _ _ _ => rfl)).trans ?_
  rw [a1, zb_some]
  refine (k_aload_n t282_640 rfl rfl).trans ?_
  refine (k_callI (as := [.ref 396]) (rest := [.int v]) (G := fun b S' => zk some (L + 1, xs) D 282 644 [.retAddr 1, .ref 0, .ref 396, .int (nI i)] [.int b, .int v] S') t282_641 rfl rfl (by decide) rfl rfl (Nat.le_of_ble_eq_true rfl) rfl (z_rcV w1 zK_396 (by decide)) (by decide) (by decide) w1 (fun _ _ _ => rfl)).trans ?_
  rw [a2, zb_some]
  refine (k_icmp_eq t282_644 rfl).trans ?_
  exact if_pos rfl
theorem lw_17 {A A' : q_A} (h1 : z_in (nI i + (1 : Int32)) L) (ht : twoI D 126 250 [.int (xs (nI i + (1 : Int32)).toNatClampNeg)] A A') (hS : iA S A) : ∃ S2, iA S2 A' ∧ zk some (L + 1, xs) D 282 649 [.retAddr 1, .ref 0, .ref 396, .int (nI i)] [] S = zk some (L + 1, xs) D 282 1063 [.retAddr 1, .ref 0, .ref 396, .int (nI i)] [] S2 := by
  obtain ⟨v, S1, S2, a1, a2, a3⟩ := ht S hS
  have w1 : z_W S1 := fI_W (by decide) a1 hS.1.1
  refine ⟨S2, a3, ?_⟩
  refine (k_aload_n t282_649 rfl rfl).trans ?_
  refine (k_aload_nX t282_650 rfl rfl).trans ?_
  refine (k_iload_n t282_651 rfl rfl).trans ?_
  refine (k_iconst t282_652 rfl zci_1).trans ?_
  refine (k_iadd t282_653 rfl).trans ?_
  refine (k_ialdX t282_654 rfl (h1)).trans ?_
  refine (k_callI (as := [.ref 0, .int (xs (nI i + (1 : Int32)).toNatClampNeg)]) (rest := []) (G := fun b S' => zk some (L + 1, xs) D 282 658 [.retAddr 1, .ref 0, .ref 396, .int (nI i)] [.int b] S') t282_655 rfl rfl (by decide) rfl rfl (Nat.le_of_ble_eq_true rfl) rfl (z_rcV hS.1.1 zK_0 (by decide)) (by decide) (by decide) hS.1.1 (fun _ _ _ => rfl)).trans ?_
  rw [a1, zb_some]
  refine (k_aload_n t282_658 rfl rfl).trans ?_
  refine (k_aload_nX t282_659 rfl rfl).trans ?_
  refine (k_iload_n t282_660 rfl rfl).trans ?_
  refine (k_iconst t282_661 rfl zci_1).trans ?_
  refine (k_iadd t282_662 rfl).trans ?_
  refine (k_ialdX t282_663 rfl (h1)).trans ?_
  refine (k_callI (as := [.ref 396, .int (xs (nI i + (1 : Int32)).toNatClampNeg)]) (rest := [.int v]) (G := fun b S' => zk some (L + 1, xs) D 282 667 [.retAddr 1, .ref 0, .ref 396, .int (nI i)] [.int b, .int v] S') t282_664 rfl rfl (by decide) rfl rfl (Nat.le_of_ble_eq_true rfl) rfl (z_rcV w1 zK_396 (by decide)) (by decide) (by decide) w1 (fun _ _ _ => rfl)).trans ?_
  rw [a2, zb_some]
  refine (k_icmp_eq t282_667 rfl).trans ?_
  exact if_pos rfl
theorem lw_18 {A A' : q_A} (h1 : z_in (nI i + (1 : Int32)) L) (ht : twoI D 127 251 [.int (xs (nI i + (1 : Int32)).toNatClampNeg)] A A') (hS : iA S A) : ∃ S2, iA S2 A' ∧ zk some (L + 1, xs) D 282 672 [.retAddr 1, .ref 0, .ref 396, .int (nI i)] [] S = zk some (L + 1, xs) D 282 1063 [.retAddr 1, .ref 0, .ref 396, .int (nI i)] [] S2 := by
  obtain ⟨v, S1, S2, a1, a2, a3⟩ := ht S hS
  have w1 : z_W S1 := fI_W (by decide) a1 hS.1.1
  refine ⟨S2, a3, ?_⟩
  refine (k_aload_n t282_672 rfl rfl).trans ?_
  refine (k_aload_nX t282_673 rfl rfl).trans ?_
  refine (k_iload_n t282_674 rfl rfl).trans ?_
  refine (k_iconst t282_675 rfl zci_1).trans ?_
  refine (k_iadd t282_676 rfl).trans ?_
  refine (k_ialdX t282_677 rfl (h1)).trans ?_
  refine (k_callI (as := [.ref 0, .int (xs (nI i + (1 : Int32)).toNatClampNeg)]) (rest := []) (G := fun b S' => zk some (L + 1, xs) D 282 681 [.retAddr 1, .ref 0, .ref 396, .int (nI i)] [.int b] S') t282_678 rfl rfl (by decide) rfl rfl (Nat.le_of_ble_eq_true rfl) rfl (z_rcV hS.1.1 zK_0 (by decide)) (by decide) (by decide) hS.1.1 (fun _ _ _ => rfl)).trans ?_
  rw [a1, zb_some]
  refine (k_aload_n t282_681 rfl rfl).trans ?_
  refine (k_aload_nX t282_682 rfl rfl).trans ?_
  refine (k_iload_n t282_683 rfl rfl).trans ?_
  refine (k_iconst t282_684 rfl zci_1).trans ?_
  refine (k_iadd t282_685 rfl).trans ?_
  refine (k_ialdX t282_686 rfl (h1)).trans ?_
  refine (k_callI (as := [.ref 396, .int (xs (nI i + (1 : Int32)).toNatClampNeg)]) (rest := [.int v]) (G := fun b S' => zk some (L + 1, xs) D 282 690 [.retAddr 1, .ref 0, .ref 396, .int (nI i)] [.int b, .int v] S') t282_687 rfl rfl (by decide) rfl rfl (Nat.le_of_ble_eq_true rfl) rfl (z_rcV w1 zK_396 (by decide)) (by decide) (by decide) w1 (fun _ _ _ => rfl)).trans ?_
  rw [a2, zb_some]
  refine (k_icmp_eq t282_690 rfl).trans ?_
  exact if_pos rfl
theorem lw_19 {A A' : q_A} (h1 : z_in (nI i + (1 : Int32)) L) (ht : twoI D 128 252 [.int (xs (nI i + (1 : Int32)).toNatClampNeg)] A A') (hS : iA S A) : ∃ S2, iA S2 A' ∧ zk some (L + 1, xs) D 282 695 [.retAddr 1, .ref 0, .ref 396, .int (nI i)] [] S = zk some (L + 1, xs) D 282 1063 [.retAddr 1, .ref 0, .ref 396, .int (nI i)] [] S2 := by
  obtain ⟨v, S1, S2, a1, a2, a3⟩ := ht S hS
  have w1 : z_W S1 := fI_W (by decide) a1 hS.1.1
  refine ⟨S2, a3, ?_⟩
  refine (k_aload_n t282_695 rfl rfl).trans ?_
  refine (k_aload_nX t282_696 rfl rfl).trans ?_
  refine (k_iload_n t282_697 rfl rfl).trans ?_
  refine (k_iconst t282_698 rfl zci_1).trans ?_
  refine (k_iadd t282_699 rfl).trans ?_
  refine (k_ialdX t282_700 rfl (h1)).trans ?_
  refine (k_callI (as := [.ref 0, .int (xs (nI i + (1 : Int32)).toNatClampNeg)]) (rest := []) (G := fun b S' => zk some (L + 1, xs) D 282 704 [.retAddr 1, .ref 0, .ref 396, .int (nI i)] [.int b] S') t282_701 rfl rfl (by decide) rfl rfl (Nat.le_of_ble_eq_true rfl) rfl (z_rcV hS.1.1 zK_0 (by decide)) (by decide) (by decide) hS.1.1 (fun _ _ _ => rfl)).trans ?_
  rw [a1, zb_some]
  refine (k_aload_n t282_704 rfl rfl).trans ?_
  refine (k_aload_nX t282_705 rfl rfl).trans ?_
  refine (k_iload_n t282_706 rfl rfl).trans ?_
  refine (k_iconst t282_707 rfl zci_1).trans ?_
  refine (k_iadd t282_708 rfl).trans ?_
  refine (k_ialdX t282_709 rfl (h1)).trans ?_
  refine (k_callI (as := [.ref 396, .int (xs (nI i + (1 : Int32)).toNatClampNeg)]) (rest := [.int v]) (G := fun b S' => zk some (L + 1, xs) D 282 713 [.retAddr 1, .ref 0, .ref 396, .int (nI i)] [.int b, .int v] S') t282_710 rfl rfl (by decide) rfl rfl (Nat.le_of_ble_eq_true rfl) rfl (z_rcV w1 zK_396 (by decide)) (by decide) (by decide) w1 (fun _ _ _ => rfl)).trans ?_
  rw [a2, zb_some]
  refine (k_icmp_eq t282_713 rfl).trans ?_
  exact if_pos rfl
theorem lw_20 {A A' : q_A} (ht : twoI D 130 253 [] A A') (hS : iA S A) : ∃ S2, iA S2 A' ∧ zk some (L + 1, xs) D 282 718 [.retAddr 1, .ref 0, .ref 396, .int (nI i)] [] S = zk some (L + 1, xs) D 282 1063 [.retAddr 1, .ref 0, .ref 396, .int (nI i)] [] S2 := by
  obtain ⟨v, S1, S2, a1, a2, a3⟩ := ht S hS
  have w1 : z_W S1 := fI_W (by decide) a1 hS.1.1
  refine ⟨S2, a3, ?_⟩
  refine (k_aload_n t282_718 rfl rfl).trans ?_
  refine (k_callI (as := [.ref 0]) (rest := []) (G := fun b S' => zk some (L + 1, xs) D 282 722 [.retAddr 1, .ref 0, .ref 396, .int (nI i)] [.int b] S') t282_719 rfl rfl (by decide) rfl rfl (Nat.le_of_ble_eq_true rfl) rfl (z_rcV hS.1.1 zK_0 (by decide)) (by decide) (by decide) hS.1.1 (fun _ _ _ => rfl)).trans ?_
  rw [a1, zb_some]
  refine (k_aload_n t282_722 rfl rfl).trans ?_
  refine (k_callI (as := [.ref 396]) (rest := [.int v]) (G := fun b S' => zk some (L + 1, xs) D 282 726 [.retAddr 1, .ref 0, .ref 396, .int (nI i)] [.int b, .int v] S') t282_723 rfl rfl (by decide) rfl rfl (Nat.le_of_ble_eq_true rfl) rfl (z_rcV w1 zK_396 (by decide)) (by decide) (by decide) w1 (fun _ _ _ => rfl)).trans ?_
  rw [a2, zb_some]
  refine (k_icmp_eq t282_726 rfl).trans ?_
  exact if_pos rfl
theorem lw_21 {A A' : q_A} (h1 : z_in (nI i + (1 : Int32)) L) (h2 : z_in (nI i + (2 : Int32)) L) (ht : twoI D 131 256 [.int (xs (nI i + (1 : Int32)).toNatClampNeg), .int (xs (nI i + (2 : Int32)).toNatClampNeg)] A A') (hS : iA S A) : ∃ S2, iA S2 A' ∧ zk some (L + 1, xs) D 282 731 [.retAddr 1, .ref 0, .ref 396, .int (nI i)] [] S = zk some (L + 1, xs) D 282 1063 [.retAddr 1, .ref 0, .ref 396, .int (nI i)] [] S2 := by
  obtain ⟨v, S1, S2, a1, a2, a3⟩ := ht S hS
  have w1 : z_W S1 := fI_W (by decide) a1 hS.1.1
  refine ⟨S2, a3, ?_⟩
  refine (k_aload_n t282_731 rfl rfl).trans ?_
  refine (k_aload_nX t282_732 rfl rfl).trans ?_
  refine (k_iload_n t282_733 rfl rfl).trans ?_
  refine (k_iconst t282_734 rfl zci_1).trans ?_
  refine (k_iadd t282_735 rfl).trans ?_
  refine (k_ialdX t282_736 rfl (h1)).trans ?_
  refine (k_aload_nX t282_737 rfl rfl).trans ?_
  refine (k_iload_n t282_738 rfl rfl).trans ?_
  refine (k_iconst t282_739 rfl zci_2).trans ?_
  refine (k_iadd t282_740 rfl).trans ?_
  refine (k_ialdX t282_741 rfl (h2)).trans ?_
  refine (k_callI (as := [.ref 0, .int (xs (nI i + (1 : Int32)).toNatClampNeg), .int (xs (nI i + (2 : Int32)).toNatClampNeg)]) (rest := []) (G := fun b S' => zk some (L + 1, xs) D 282 745 [.retAddr 1, .ref 0, .ref 396, .int (nI i)] [.int b] S') t282_742 rfl rfl (by decide) rfl rfl (Nat.le_of_ble_eq_true rfl) rfl (z_rcV hS.1.1 zK_0 (by decide)) (by decide) (by decide) hS.1.1 (fun _ _ _ => rfl)).trans ?_
  rw [a1, zb_some]
  refine (k_aload_n t282_745 rfl rfl).trans ?_
  refine (k_aload_nX t282_746 rfl rfl).trans ?_
  refine (k_iload_n t282_747 rfl rfl).trans ?_
  refine (k_iconst t282_748 rfl zci_1).trans ?_
  refine (k_iadd t282_749 rfl).trans ?_
  refine (k_ialdX t282_750 rfl (h1)).trans ?_
  refine (k_aload_nX t282_751 rfl rfl).trans ?_
  refine (k_iload_n t282_752 rfl rfl).trans ?_
  refine (k_iconst t282_753 rfl zci_2).trans ?_
  refine (k_iadd t282_754 rfl).trans ?_
  refine (k_ialdX t282_755 rfl (h2)).trans ?_
  refine (k_callI (as := [.ref 396, .int (xs (nI i + (1 : Int32)).toNatClampNeg), .int (xs (nI i + (2 : Int32)).toNatClampNeg)]) (rest := [.int v]) (G := fun b S' => zk some (L + 1, xs) D 282 759 [.retAddr 1, .ref 0, .ref 396, .int (nI i)] [.int b, .int v] S') t282_756 rfl rfl (by decide) rfl rfl (Nat.le_of_ble_eq_true rfl) rfl (z_rcV w1 zK_396 (by decide)) (by decide) (by decide) w1 (fun _ _ _ => rfl)).trans ?_
  rw [a2, zb_some]
  refine (k_icmp_eq t282_759 rfl).trans ?_
  exact if_pos rfl
theorem lw_22 {A A' : q_A} (h1 : z_in (nI i + (1 : Int32)) L) (h2 : z_in (nI i + (2 : Int32)) L) (ht : twoI D 132 258 [.int (xs (nI i + (1 : Int32)).toNatClampNeg), .int (xs (nI i + (2 : Int32)).toNatClampNeg)] A A') (hS : iA S A) : ∃ S2, iA S2 A' ∧ zk some (L + 1, xs) D 282 764 [.retAddr 1, .ref 0, .ref 396, .int (nI i)] [] S = zk some (L + 1, xs) D 282 1063 [.retAddr 1, .ref 0, .ref 396, .int (nI i)] [] S2 := by
  obtain ⟨v, S1, S2, a1, a2, a3⟩ := ht S hS
  have w1 : z_W S1 := fI_W (by decide) a1 hS.1.1
  refine ⟨S2, a3, ?_⟩
  refine (k_aload_n t282_764 rfl rfl).trans ?_
  refine (k_aload_nX t282_765 rfl rfl).trans ?_
  refine (k_iload_n t282_766 rfl rfl).trans ?_
  refine (k_iconst t282_767 rfl zci_1).trans ?_
  refine (k_iadd t282_768 rfl).trans ?_
  refine (k_ialdX t282_769 rfl (h1)).trans ?_
  refine (k_aload_nX t282_770 rfl rfl).trans ?_
  refine (k_iload_n t282_771 rfl rfl).trans ?_
  refine (k_iconst t282_772 rfl zci_2).trans ?_
  refine (k_iadd t282_773 rfl).trans ?_
  refine (k_ialdX t282_774 rfl (h2)).trans ?_
  refine (k_callI (as := [.ref 0, .int (xs (nI i + (1 : Int32)).toNatClampNeg), .int (xs (nI i + (2 : Int32)).toNatClampNeg)]) (rest := []) (G := fun b S' => zk some (L + 1, xs) D 282 778 [.retAddr 1, .ref 0, .ref 396, .int (nI i)] [.int b] S') t282_775 rfl rfl (by decide) rfl rfl (Nat.le_of_ble_eq_true rfl) rfl (z_rcV hS.1.1 zK_0 (by decide)) (by decide) (by decide) hS.1.1 (fun _ _ _ => rfl)).trans ?_
  rw [a1, zb_some]
  refine (k_aload_n t282_778 rfl rfl).trans ?_
  refine (k_aload_nX t282_779 rfl rfl).trans ?_
  refine (k_iload_n t282_780 rfl rfl).trans ?_
  refine (k_iconst t282_781 rfl zci_1).trans ?_
  refine (k_iadd t282_782 rfl).trans ?_
  refine (k_ialdX t282_783 rfl (h1)).trans ?_
  refine (k_aload_nX t282_784 rfl rfl).trans ?_
  refine (k_iload_n t282_785 rfl rfl).trans ?_
  refine (k_iconst t282_786 rfl zci_2).trans ?_
  refine (k_iadd t282_787 rfl).trans ?_
  refine (k_ialdX t282_788 rfl (h2)).trans ?_
  refine (k_callI (as := [.ref 396, .int (xs (nI i + (1 : Int32)).toNatClampNeg), .int (xs (nI i + (2 : Int32)).toNatClampNeg)]) (rest := [.int v]) (G := fun b S' => zk some (L + 1, xs) D 282 792 [.retAddr 1, .ref 0, .ref 396, .int (nI i)] [.int b, .int v] S') t282_789 rfl rfl (by decide) rfl rfl (Nat.le_of_ble_eq_true rfl) rfl (z_rcV w1 zK_396 (by decide)) (by decide) (by decide) w1 (fun _ _ _ => rfl)).trans ?_
  rw [a2, zb_some]
  refine (k_icmp_eq t282_792 rfl).trans ?_
  exact if_pos rfl
theorem lw_23 {A A' : q_A} (h1 : z_in (nI i + (1 : Int32)) L) (ht : twoI D 133 259 [.int (xs (nI i + (1 : Int32)).toNatClampNeg)] A A') (hS : iA S A) : ∃ S2, iA S2 A' ∧ zk some (L + 1, xs) D 282 797 [.retAddr 1, .ref 0, .ref 396, .int (nI i)] [] S = zk some (L + 1, xs) D 282 1063 [.retAddr 1, .ref 0, .ref 396, .int (nI i)] [] S2 := by
  obtain ⟨v, S1, S2, a1, a2, a3⟩ := ht S hS
  have w1 : z_W S1 := fI_W (by decide) a1 hS.1.1
  refine ⟨S2, a3, ?_⟩
  refine (k_aload_n t282_797 rfl rfl).trans ?_
  refine (k_aload_nX t282_798 rfl rfl).trans ?_
  refine (k_iload_n t282_799 rfl rfl).trans ?_
  refine (k_iconst t282_800 rfl zci_1).trans ?_
  refine (k_iadd t282_801 rfl).trans ?_
  refine (k_ialdX t282_802 rfl (h1)).trans ?_
  refine (k_callI (as := [.ref 0, .int (xs (nI i + (1 : Int32)).toNatClampNeg)]) (rest := []) (G := fun b S' => zk some (L + 1, xs) D 282 806 [.retAddr 1, .ref 0, .ref 396, .int (nI i)] [.int b] S') t282_803 rfl rfl (by decide) rfl rfl (Nat.le_of_ble_eq_true rfl) rfl (z_rcV hS.1.1 zK_0 (by decide)) (by decide) (by decide) hS.1.1 (fun _ _ _ => rfl)).trans ?_
  rw [a1, zb_some]
  refine (k_aload_n t282_806 rfl rfl).trans ?_
  refine (k_aload_nX t282_807 rfl rfl).trans ?_
  refine (k_iload_n t282_808 rfl rfl).trans ?_
  refine (k_iconst t282_809 rfl zci_1).trans ?_
  refine (k_iadd t282_810 rfl).trans ?_
  refine (k_ialdX t282_811 rfl (h1)).trans ?_
  refine (k_callI (as := [.ref 396, .int (xs (nI i + (1 : Int32)).toNatClampNeg)]) (rest := [.int v]) (G := fun b S' => zk some (L + 1, xs) D 282 815 [.retAddr 1, .ref 0, .ref 396, .int (nI i)] [.int b, .int v] S') t282_812 rfl rfl (by decide) rfl rfl (Nat.le_of_ble_eq_true rfl) rfl (z_rcV w1 zK_396 (by decide)) (by decide) (by decide) w1 (fun _ _ _ => rfl)).trans ?_
  rw [a2, zb_some]
  refine (k_icmp_eq t282_815 rfl).trans ?_
  exact if_pos rfl
theorem lw_24 {A A' : q_A} (h1 : z_in (nI i + (1 : Int32)) L) (ht : twoI D 135 260 [.int (xs (nI i + (1 : Int32)).toNatClampNeg)] A A') (hS : iA S A) : ∃ S2, iA S2 A' ∧ zk some (L + 1, xs) D 282 820 [.retAddr 1, .ref 0, .ref 396, .int (nI i)] [] S = zk some (L + 1, xs) D 282 1063 [.retAddr 1, .ref 0, .ref 396, .int (nI i)] [] S2 := by
  obtain ⟨v, S1, S2, a1, a2, a3⟩ := ht S hS
  have w1 : z_W S1 := fI_W (by decide) a1 hS.1.1
  refine ⟨S2, a3, ?_⟩
  refine (k_aload_n t282_820 rfl rfl).trans ?_
  refine (k_aload_nX t282_821 rfl rfl).trans ?_
  refine (k_iload_n t282_822 rfl rfl).trans ?_
  refine (k_iconst t282_823 rfl zci_1).trans ?_
  refine (k_iadd t282_824 rfl).trans ?_
  refine (k_ialdX t282_825 rfl (h1)).trans ?_
  refine (k_callI (as := [.ref 0, .int (xs (nI i + (1 : Int32)).toNatClampNeg)]) (rest := []) (G := fun b S' => zk some (L + 1, xs) D 282 829 [.retAddr 1, .ref 0, .ref 396, .int (nI i)] [.int b] S') t282_826 rfl rfl (by decide) rfl rfl (Nat.le_of_ble_eq_true rfl) rfl (z_rcV hS.1.1 zK_0 (by decide)) (by decide) (by decide) hS.1.1 (fun _ _ _ => rfl)).trans ?_
  rw [a1, zb_some]
  refine (k_aload_n t282_829 rfl rfl).trans ?_
  refine (k_aload_nX t282_830 rfl rfl).trans ?_
  refine (k_iload_n t282_831 rfl rfl).trans ?_
  refine (k_iconst t282_832 rfl zci_1).trans ?_
  refine (k_iadd t282_833 rfl).trans ?_
  refine (k_ialdX t282_834 rfl (h1)).trans ?_
  refine (k_callI (as := [.ref 396, .int (xs (nI i + (1 : Int32)).toNatClampNeg)]) (rest := [.int v]) (G := fun b S' => zk some (L + 1, xs) D 282 838 [.retAddr 1, .ref 0, .ref 396, .int (nI i)] [.int b, .int v] S') t282_835 rfl rfl (by decide) rfl rfl (Nat.le_of_ble_eq_true rfl) rfl (z_rcV w1 zK_396 (by decide)) (by decide) (by decide) w1 (fun _ _ _ => rfl)).trans ?_
  rw [a2, zb_some]
  refine (k_icmp_eq t282_838 rfl).trans ?_
  exact if_pos rfl
theorem lw_25 {A A' : q_A} (h1 : z_in (nI i + (1 : Int32)) L) (h2 : z_in (nI i + (2 : Int32)) L) (ht : twoI D 136 261 [.int (xs (nI i + (1 : Int32)).toNatClampNeg), .int (xs (nI i + (2 : Int32)).toNatClampNeg)] A A') (hS : iA S A) : ∃ S2, iA S2 A' ∧ zk some (L + 1, xs) D 282 843 [.retAddr 1, .ref 0, .ref 396, .int (nI i)] [] S = zk some (L + 1, xs) D 282 1063 [.retAddr 1, .ref 0, .ref 396, .int (nI i)] [] S2 := by
  obtain ⟨v, S1, S2, a1, a2, a3⟩ := ht S hS
  have w1 : z_W S1 := fI_W (by decide) a1 hS.1.1
  refine ⟨S2, a3, ?_⟩
  refine (k_aload_n t282_843 rfl rfl).trans ?_
  refine (k_aload_nX t282_844 rfl rfl).trans ?_
  refine (k_iload_n t282_845 rfl rfl).trans ?_
  refine (k_iconst t282_846 rfl zci_1).trans ?_
  refine (k_iadd t282_847 rfl).trans ?_
  refine (k_ialdX t282_848 rfl (h1)).trans ?_
  refine (k_aload_nX t282_849 rfl rfl).trans ?_
  refine (k_iload_n t282_850 rfl rfl).trans ?_
  refine (k_iconst t282_851 rfl zci_2).trans ?_
  refine (k_iadd t282_852 rfl).trans ?_
  refine (k_ialdX t282_853 rfl (h2)).trans ?_
  refine (k_callI (as := [.ref 0, .int (xs (nI i + (1 : Int32)).toNatClampNeg), .int (xs (nI i + (2 : Int32)).toNatClampNeg)]) (rest := []) (G := fun b S' => zk some (L + 1, xs) D 282 857 [.retAddr 1, .ref 0, .ref 396, .int (nI i)] [.int b] S') t282_854 rfl rfl (by decide) rfl rfl (Nat.le_of_ble_eq_true rfl) rfl (z_rcV hS.1.1 zK_0 (by decide)) (by decide) (by decide) hS.1.1 (fun _ _ _ => rfl)).trans ?_
  rw [a1, zb_some]
  refine (k_aload_n t282_857 rfl rfl).trans ?_
  refine (k_aload_nX t282_858 rfl rfl).trans ?_
  refine (k_iload_n t282_859 rfl rfl).trans ?_
  refine (k_iconst t282_860 rfl zci_1).trans ?_
  refine (k_iadd t282_861 rfl).trans ?_
  refine (k_ialdX t282_862 rfl (h1)).trans ?_
  refine (k_aload_nX t282_863 rfl rfl).trans ?_
  refine (k_iload_n t282_864 rfl rfl).trans ?_
  refine (k_iconst t282_865 rfl zci_2).trans ?_
  refine (k_iadd t282_866 rfl).trans ?_
  refine (k_ialdX t282_867 rfl (h2)).trans ?_
  refine (k_callI (as := [.ref 396, .int (xs (nI i + (1 : Int32)).toNatClampNeg), .int (xs (nI i + (2 : Int32)).toNatClampNeg)]) (rest := [.int v]) (G := fun b S' => zk some (L + 1, xs) D 282 871 [.retAddr 1, .ref 0, .ref 396, .int (nI i)] [.int b, .int v] S') t282_868 rfl rfl (by decide) rfl rfl (Nat.le_of_ble_eq_true rfl) rfl (z_rcV w1 zK_396 (by decide)) (by decide) (by decide) w1 (fun _ _ _ => rfl)).trans ?_
  rw [a2, zb_some]
  refine (k_icmp_eq t282_871 rfl).trans ?_
  exact if_pos rfl
theorem lw_26 {A A' : q_A} (h1 : z_in (nI i + (1 : Int32)) L) (ht : twoI D 138 262 [.int (xs (nI i + (1 : Int32)).toNatClampNeg)] A A') (hS : iA S A) : ∃ S2, iA S2 A' ∧ zk some (L + 1, xs) D 282 876 [.retAddr 1, .ref 0, .ref 396, .int (nI i)] [] S = zk some (L + 1, xs) D 282 1063 [.retAddr 1, .ref 0, .ref 396, .int (nI i)] [] S2 := by
  obtain ⟨v, S1, S2, a1, a2, a3⟩ := ht S hS
  have w1 : z_W S1 := fI_W (by decide) a1 hS.1.1
  refine ⟨S2, a3, ?_⟩
  refine (k_aload_n t282_876 rfl rfl).trans ?_
  refine (k_aload_nX t282_877 rfl rfl).trans ?_
  refine (k_iload_n t282_878 rfl rfl).trans ?_
  refine (k_iconst t282_879 rfl zci_1).trans ?_
  refine (k_iadd t282_880 rfl).trans ?_
  refine (k_ialdX t282_881 rfl (h1)).trans ?_
  refine (k_callI (as := [.ref 0, .int (xs (nI i + (1 : Int32)).toNatClampNeg)]) (rest := []) (G := fun b S' => zk some (L + 1, xs) D 282 885 [.retAddr 1, .ref 0, .ref 396, .int (nI i)] [.int b] S') t282_882 rfl rfl (by decide) rfl rfl (Nat.le_of_ble_eq_true rfl) rfl (z_rcV hS.1.1 zK_0 (by decide)) (by decide) (by decide) hS.1.1 (fun _ _ _ => rfl)).trans ?_
  rw [a1, zb_some]
  refine (k_aload_n t282_885 rfl rfl).trans ?_
  refine (k_aload_nX t282_886 rfl rfl).trans ?_
  refine (k_iload_n t282_887 rfl rfl).trans ?_
  refine (k_iconst t282_888 rfl zci_1).trans ?_
  refine (k_iadd t282_889 rfl).trans ?_
  refine (k_ialdX t282_890 rfl (h1)).trans ?_
  refine (k_callI (as := [.ref 396, .int (xs (nI i + (1 : Int32)).toNatClampNeg)]) (rest := [.int v]) (G := fun b S' => zk some (L + 1, xs) D 282 894 [.retAddr 1, .ref 0, .ref 396, .int (nI i)] [.int b, .int v] S') t282_891 rfl rfl (by decide) rfl rfl (Nat.le_of_ble_eq_true rfl) rfl (z_rcV w1 zK_396 (by decide)) (by decide) (by decide) w1 (fun _ _ _ => rfl)).trans ?_
  rw [a2, zb_some]
  refine (k_icmp_eq t282_894 rfl).trans ?_
  exact if_pos rfl
theorem lw_27 {A A' : q_A} (h1 : z_in (nI i + (1 : Int32)) L) (ht : twoI D 139 264 [.int (xs (nI i + (1 : Int32)).toNatClampNeg)] A A') (hS : iA S A) : ∃ S2, iA S2 A' ∧ zk some (L + 1, xs) D 282 899 [.retAddr 1, .ref 0, .ref 396, .int (nI i)] [] S = zk some (L + 1, xs) D 282 1063 [.retAddr 1, .ref 0, .ref 396, .int (nI i)] [] S2 := by
  obtain ⟨v, S1, S2, a1, a2, a3⟩ := ht S hS
  have w1 : z_W S1 := fI_W (by decide) a1 hS.1.1
  refine ⟨S2, a3, ?_⟩
  refine (k_aload_n t282_899 rfl rfl).trans ?_
  refine (k_aload_nX t282_900 rfl rfl).trans ?_
  refine (k_iload_n t282_901 rfl rfl).trans ?_
  refine (k_iconst t282_902 rfl zci_1).trans ?_
  refine (k_iadd t282_903 rfl).trans ?_
  refine (k_ialdX t282_904 rfl (h1)).trans ?_
  refine (k_callI (as := [.ref 0, .int (xs (nI i + (1 : Int32)).toNatClampNeg)]) (rest := []) (G := fun b S' => zk some (L + 1, xs) D 282 908 [.retAddr 1, .ref 0, .ref 396, .int (nI i)] [.int b] S') t282_905 rfl rfl (by decide) rfl rfl (Nat.le_of_ble_eq_true rfl) rfl (z_rcV hS.1.1 zK_0 (by decide)) (by decide) (by decide) hS.1.1 (fun _ _ _ => rfl)).trans ?_
  rw [a1, zb_some]
  refine (k_aload_n t282_908 rfl rfl).trans ?_
  refine (k_aload_nX t282_909 rfl rfl).trans ?_
  refine (k_iload_n t282_910 rfl rfl).trans ?_
  refine (k_iconst t282_911 rfl zci_1).trans ?_
  refine (k_iadd t282_912 rfl).trans ?_
  refine (k_ialdX t282_913 rfl (h1)).trans ?_
  refine (k_callI (as := [.ref 396, .int (xs (nI i + (1 : Int32)).toNatClampNeg)]) (rest := [.int v]) (G := fun b S' => zk some (L + 1, xs) D 282 917 [.retAddr 1, .ref 0, .ref 396, .int (nI i)] [.int b, .int v] S') t282_914 rfl rfl (by decide) rfl rfl (Nat.le_of_ble_eq_true rfl) rfl (z_rcV w1 zK_396 (by decide)) (by decide) (by decide) w1 (fun _ _ _ => rfl)).trans ?_
  rw [a2, zb_some]
  refine (k_icmp_eq t282_917 rfl).trans ?_
  exact if_pos rfl
theorem lw_28 {A A' : q_A} (ht : twoI D 143 200 [] A A') (hS : iA S A) : ∃ S2, iA S2 A' ∧ zk some (L + 1, xs) D 282 922 [.retAddr 1, .ref 0, .ref 396, .int (nI i)] [] S = zk some (L + 1, xs) D 282 1063 [.retAddr 1, .ref 0, .ref 396, .int (nI i)] [] S2 := by
  obtain ⟨v, S1, S2, a1, a2, a3⟩ := ht S hS
  have w1 : z_W S1 := fI_W (by decide) a1 hS.1.1
  refine ⟨S2, a3, ?_⟩
  refine (k_aload_n t282_922 rfl rfl).trans ?_
  refine (k_callI (as := [.ref 0]) (rest := []) (G := fun b S' => zk some (L + 1, xs) D 282 926 [.retAddr 1, .ref 0, .ref 396, .int (nI i)] [.int b] S') t282_923 rfl rfl (by decide) rfl rfl (Nat.le_of_ble_eq_true rfl) rfl (z_rcV hS.1.1 zK_0 (by decide)) (by decide) (by decide) hS.1.1 (fun _ _ _ => rfl)).trans ?_
  rw [a1, zb_some]
  refine (k_aload_n t282_926 rfl rfl).trans ?_
  refine (k_callI (as := [.ref 396]) (rest := [.int v]) (G := fun b S' => zk some (L + 1, xs) D 282 930 [.retAddr 1, .ref 0, .ref 396, .int (nI i)] [.int b, .int v] S') t282_927 rfl rfl (by decide) rfl rfl (Nat.le_of_ble_eq_true rfl) rfl (z_rcV w1 zK_396 (by decide)) (by decide) (by decide) w1 (fun _ _ _ => rfl)).trans ?_
  rw [a2, zb_some]
  refine (k_icmp_eq t282_930 rfl).trans ?_
  exact if_pos rfl
theorem lw_29 {A A' : q_A} (h1 : z_in (nI i + (1 : Int32)) L) (ht : twoI D 144 265 [.int (xs (nI i + (1 : Int32)).toNatClampNeg)] A A') (hS : iA S A) : ∃ S2, iA S2 A' ∧ zk some (L + 1, xs) D 282 935 [.retAddr 1, .ref 0, .ref 396, .int (nI i)] [] S = zk some (L + 1, xs) D 282 1063 [.retAddr 1, .ref 0, .ref 396, .int (nI i)] [] S2 := by
  obtain ⟨v, S1, S2, a1, a2, a3⟩ := ht S hS
  have w1 : z_W S1 := fI_W (by decide) a1 hS.1.1
  refine ⟨S2, a3, ?_⟩
  refine (k_aload_n t282_935 rfl rfl).trans ?_
  refine (k_aload_nX t282_936 rfl rfl).trans ?_
  refine (k_iload_n t282_937 rfl rfl).trans ?_
  refine (k_iconst t282_938 rfl zci_1).trans ?_
  refine (k_iadd t282_939 rfl).trans ?_
  refine (k_ialdX t282_940 rfl (h1)).trans ?_
  refine (k_callI (as := [.ref 0, .int (xs (nI i + (1 : Int32)).toNatClampNeg)]) (rest := []) (G := fun b S' => zk some (L + 1, xs) D 282 944 [.retAddr 1, .ref 0, .ref 396, .int (nI i)] [.int b] S') t282_941 rfl rfl (by decide) rfl rfl (Nat.le_of_ble_eq_true rfl) rfl (z_rcV hS.1.1 zK_0 (by decide)) (by decide) (by decide) hS.1.1 (fun _ _ _ => rfl)).trans ?_
  rw [a1, zb_some]
  refine (k_aload_n t282_944 rfl rfl).trans ?_
  refine (k_aload_nX t282_945 rfl rfl).trans ?_
  refine (k_iload_n t282_946 rfl rfl).trans ?_
  refine (k_iconst t282_947 rfl zci_1).trans ?_
  refine (k_iadd t282_948 rfl).trans ?_
  refine (k_ialdX t282_949 rfl (h1)).trans ?_
  refine (k_callI (as := [.ref 396, .int (xs (nI i + (1 : Int32)).toNatClampNeg)]) (rest := [.int v]) (G := fun b S' => zk some (L + 1, xs) D 282 953 [.retAddr 1, .ref 0, .ref 396, .int (nI i)] [.int b, .int v] S') t282_950 rfl rfl (by decide) rfl rfl (Nat.le_of_ble_eq_true rfl) rfl (z_rcV w1 zK_396 (by decide)) (by decide) (by decide) w1 (fun _ _ _ => rfl)).trans ?_
  rw [a2, zb_some]
  refine (k_icmp_eq t282_953 rfl).trans ?_
  exact if_pos rfl
theorem lw_30 {A A' : q_A} (h1 : z_in (nI i + (1 : Int32)) L) (h2 : z_in (nI i + (2 : Int32)) L) (ht : twoI D 145 266 [.int (xs (nI i + (1 : Int32)).toNatClampNeg), .int (xs (nI i + (2 : Int32)).toNatClampNeg)] A A') (hS : iA S A) : ∃ S2, iA S2 A' ∧ zk some (L + 1, xs) D 282 958 [.retAddr 1, .ref 0, .ref 396, .int (nI i)] [] S = zk some (L + 1, xs) D 282 1063 [.retAddr 1, .ref 0, .ref 396, .int (nI i)] [] S2 := by
  obtain ⟨v, S1, S2, a1, a2, a3⟩ := ht S hS
  have w1 : z_W S1 := fI_W (by decide) a1 hS.1.1
  refine ⟨S2, a3, ?_⟩
  refine (k_aload_n t282_958 rfl rfl).trans ?_
  refine (k_aload_nX t282_959 rfl rfl).trans ?_
  refine (k_iload_n t282_960 rfl rfl).trans ?_
  refine (k_iconst t282_961 rfl zci_1).trans ?_
  refine (k_iadd t282_962 rfl).trans ?_
  refine (k_ialdX t282_963 rfl (h1)).trans ?_
  refine (k_aload_nX t282_964 rfl rfl).trans ?_
  refine (k_iload_n t282_965 rfl rfl).trans ?_
  refine (k_iconst t282_966 rfl zci_2).trans ?_
  refine (k_iadd t282_967 rfl).trans ?_
  refine (k_ialdX t282_968 rfl (h2)).trans ?_
  refine (k_callI (as := [.ref 0, .int (xs (nI i + (1 : Int32)).toNatClampNeg), .int (xs (nI i + (2 : Int32)).toNatClampNeg)]) (rest := []) (G := fun b S' => zk some (L + 1, xs) D 282 972 [.retAddr 1, .ref 0, .ref 396, .int (nI i)] [.int b] S') t282_969 rfl rfl (by decide) rfl rfl (Nat.le_of_ble_eq_true rfl) rfl (z_rcV hS.1.1 zK_0 (by decide)) (by decide) (by decide) hS.1.1 (fun _ _ _ => rfl)).trans ?_
  rw [a1, zb_some]
  refine (k_aload_n t282_972 rfl rfl).trans ?_
  refine (k_aload_nX t282_973 rfl rfl).trans ?_
  refine (k_iload_n t282_974 rfl rfl).trans ?_
  refine (k_iconst t282_975 rfl zci_1).trans ?_
  refine (k_iadd t282_976 rfl).trans ?_
  refine (k_ialdX t282_977 rfl (h1)).trans ?_
  refine (k_aload_nX t282_978 rfl rfl).trans ?_
  refine (k_iload_n t282_979 rfl rfl).trans ?_
  refine (k_iconst t282_980 rfl zci_2).trans ?_
  refine (k_iadd t282_981 rfl).trans ?_
  refine (k_ialdX t282_982 rfl (h2)).trans ?_
  refine (k_callI (as := [.ref 396, .int (xs (nI i + (1 : Int32)).toNatClampNeg), .int (xs (nI i + (2 : Int32)).toNatClampNeg)]) (rest := [.int v]) (G := fun b S' => zk some (L + 1, xs) D 282 986 [.retAddr 1, .ref 0, .ref 396, .int (nI i)] [.int b, .int v] S') t282_983 rfl rfl (by decide) rfl rfl (Nat.le_of_ble_eq_true rfl) rfl (z_rcV w1 zK_396 (by decide)) (by decide) (by decide) w1 (fun _ _ _ => rfl)).trans ?_
  rw [a2, zb_some]
  refine (k_icmp_eq t282_986 rfl).trans ?_
  exact if_pos rfl
theorem lw_31 {A A' : q_A} (ht : twoI D 146 268 [] A A') (hS : iA S A) : ∃ S2, iA S2 A' ∧ zk some (L + 1, xs) D 282 991 [.retAddr 1, .ref 0, .ref 396, .int (nI i)] [] S = zk some (L + 1, xs) D 282 1063 [.retAddr 1, .ref 0, .ref 396, .int (nI i)] [] S2 := by
  obtain ⟨v, S1, S2, a1, a2, a3⟩ := ht S hS
  have w1 : z_W S1 := fI_W (by decide) a1 hS.1.1
  refine ⟨S2, a3, ?_⟩
  refine (k_aload_n t282_991 rfl rfl).trans ?_
  refine (k_callI (as := [.ref 0]) (rest := []) (G := fun b S' => zk some (L + 1, xs) D 282 995 [.retAddr 1, .ref 0, .ref 396, .int (nI i)] [.int b] S') t282_992 rfl rfl (by decide) rfl rfl (Nat.le_of_ble_eq_true rfl) rfl (z_rcV hS.1.1 zK_0 (by decide)) (by decide) (by decide) hS.1.1 (fun _ _ _ => rfl)).trans ?_
  rw [a1, zb_some]
  refine (k_aload_n t282_995 rfl rfl).trans ?_
  refine (k_callI (as := [.ref 396]) (rest := [.int v]) (G := fun b S' => zk some (L + 1, xs) D 282 999 [.retAddr 1, .ref 0, .ref 396, .int (nI i)] [.int b, .int v] S') t282_996 rfl rfl (by decide) rfl rfl (Nat.le_of_ble_eq_true rfl) rfl (z_rcV w1 zK_396 (by decide)) (by decide) (by decide) w1 (fun _ _ _ => rfl)).trans ?_
  rw [a2, zb_some]
  refine (k_icmp_eq t282_999 rfl).trans ?_
  exact if_pos rfl
theorem lw_32 {A A' : q_A} (h1 : z_in (nI i + (1 : Int32)) L) (ht : twoI D 147 269 [.int (xs (nI i + (1 : Int32)).toNatClampNeg)] A A') (hS : iA S A) : ∃ S2, iA S2 A' ∧ zk some (L + 1, xs) D 282 1004 [.retAddr 1, .ref 0, .ref 396, .int (nI i)] [] S = zk some (L + 1, xs) D 282 1063 [.retAddr 1, .ref 0, .ref 396, .int (nI i)] [] S2 := by
  obtain ⟨v, S1, S2, a1, a2, a3⟩ := ht S hS
  have w1 : z_W S1 := fI_W (by decide) a1 hS.1.1
  refine ⟨S2, a3, ?_⟩
  refine (k_aload_n t282_1004 rfl rfl).trans ?_
  refine (k_aload_nX t282_1005 rfl rfl).trans ?_
  refine (k_iload_n t282_1006 rfl rfl).trans ?_
  refine (k_iconst t282_1007 rfl zci_1).trans ?_
  refine (k_iadd t282_1008 rfl).trans ?_
  refine (k_ialdX t282_1009 rfl (h1)).trans ?_
  refine (k_callI (as := [.ref 0, .int (xs (nI i + (1 : Int32)).toNatClampNeg)]) (rest := []) (G := fun b S' => zk some (L + 1, xs) D 282 1013 [.retAddr 1, .ref 0, .ref 396, .int (nI i)] [.int b] S') t282_1010 rfl rfl (by decide) rfl rfl (Nat.le_of_ble_eq_true rfl) rfl (z_rcV hS.1.1 zK_0 (by decide)) (by decide) (by decide) hS.1.1 (fun _ _ _ => rfl)).trans ?_
  rw [a1, zb_some]
  refine (k_aload_n t282_1013 rfl rfl).trans ?_
  refine (k_aload_nX t282_1014 rfl rfl).trans ?_
  refine (k_iload_n t282_1015 rfl rfl).trans ?_
  refine (k_iconst t282_1016 rfl zci_1).trans ?_
  refine (k_iadd t282_1017 rfl).trans ?_
  refine (k_ialdX t282_1018 rfl (h1)).trans ?_
  refine (k_callI (as := [.ref 396, .int (xs (nI i + (1 : Int32)).toNatClampNeg)]) (rest := [.int v]) (G := fun b S' => zk some (L + 1, xs) D 282 1022 [.retAddr 1, .ref 0, .ref 396, .int (nI i)] [.int b, .int v] S') t282_1019 rfl rfl (by decide) rfl rfl (Nat.le_of_ble_eq_true rfl) rfl (z_rcV w1 zK_396 (by decide)) (by decide) (by decide) w1 (fun _ _ _ => rfl)).trans ?_
  rw [a2, zb_some]
  refine (k_icmp_eq t282_1022 rfl).trans ?_
  exact if_pos rfl
theorem lw_33 {A A' : q_A} (ht : twoI D 148 273 [] A A') (hS : iA S A) : ∃ S2, iA S2 A' ∧ zk some (L + 1, xs) D 282 1027 [.retAddr 1, .ref 0, .ref 396, .int (nI i)] [] S = zk some (L + 1, xs) D 282 1063 [.retAddr 1, .ref 0, .ref 396, .int (nI i)] [] S2 := by
  obtain ⟨v, S1, S2, a1, a2, a3⟩ := ht S hS
  have w1 : z_W S1 := fI_W (by decide) a1 hS.1.1
  refine ⟨S2, a3, ?_⟩
  refine (k_aload_n t282_1027 rfl rfl).trans ?_
  refine (k_callI (as := [.ref 0]) (rest := []) (G := fun b S' => zk some (L + 1, xs) D 282 1031 [.retAddr 1, .ref 0, .ref 396, .int (nI i)] [.int b] S') t282_1028 rfl rfl (by decide) rfl rfl (Nat.le_of_ble_eq_true rfl) rfl (z_rcV hS.1.1 zK_0 (by decide)) (by decide) (by decide) hS.1.1 (fun _ _ _ => rfl)).trans ?_
  rw [a1, zb_some]
  refine (k_aload_n t282_1031 rfl rfl).trans ?_
  refine (k_callI (as := [.ref 396]) (rest := [.int v]) (G := fun b S' => zk some (L + 1, xs) D 282 1035 [.retAddr 1, .ref 0, .ref 396, .int (nI i)] [.int b, .int v] S') t282_1032 rfl rfl (by decide) rfl rfl (Nat.le_of_ble_eq_true rfl) rfl (z_rcV w1 zK_396 (by decide)) (by decide) (by decide) w1 (fun _ _ _ => rfl)).trans ?_
  rw [a2, zb_some]
  refine (k_icmp_eq t282_1035 rfl).trans ?_
  exact if_pos rfl
theorem lw_34 {A A' : q_A} (h1 : z_in (nI i + (1 : Int32)) L) (ht : twoI D 149 195 [.int (xs (nI i + (1 : Int32)).toNatClampNeg)] A A') (hS : iA S A) : ∃ S2, iA S2 A' ∧ zk some (L + 1, xs) D 282 1040 [.retAddr 1, .ref 0, .ref 396, .int (nI i)] [] S = zk some (L + 1, xs) D 282 1063 [.retAddr 1, .ref 0, .ref 396, .int (nI i)] [] S2 := by
  obtain ⟨v, S1, S2, a1, a2, a3⟩ := ht S hS
  have w1 : z_W S1 := fI_W (by decide) a1 hS.1.1
  refine ⟨S2, a3, ?_⟩
  refine (k_aload_n t282_1040 rfl rfl).trans ?_
  refine (k_aload_nX t282_1041 rfl rfl).trans ?_
  refine (k_iload_n t282_1042 rfl rfl).trans ?_
  refine (k_iconst t282_1043 rfl zci_1).trans ?_
  refine (k_iadd t282_1044 rfl).trans ?_
  refine (k_ialdX t282_1045 rfl (h1)).trans ?_
  refine (k_callI (as := [.ref 0, .int (xs (nI i + (1 : Int32)).toNatClampNeg)]) (rest := []) (G := fun b S' => zk some (L + 1, xs) D 282 1049 [.retAddr 1, .ref 0, .ref 396, .int (nI i)] [.int b] S') t282_1046 rfl rfl (by decide) rfl rfl (Nat.le_of_ble_eq_true rfl) rfl (z_rcV hS.1.1 zK_0 (by decide)) (by decide) (by decide) hS.1.1 (fun _ _ _ => rfl)).trans ?_
  rw [a1, zb_some]
  refine (k_aload_n t282_1049 rfl rfl).trans ?_
  refine (k_aload_nX t282_1050 rfl rfl).trans ?_
  refine (k_iload_n t282_1051 rfl rfl).trans ?_
  refine (k_iconst t282_1052 rfl zci_1).trans ?_
  refine (k_iadd t282_1053 rfl).trans ?_
  refine (k_ialdX t282_1054 rfl (h1)).trans ?_
  refine (k_callI (as := [.ref 396, .int (xs (nI i + (1 : Int32)).toNatClampNeg)]) (rest := [.int v]) (G := fun b S' => zk some (L + 1, xs) D 282 1058 [.retAddr 1, .ref 0, .ref 396, .int (nI i)] [.int b, .int v] S') t282_1055 rfl rfl (by decide) rfl rfl (Nat.le_of_ble_eq_true rfl) rfl (z_rcV w1 zK_396 (by decide)) (by decide) (by decide) w1 (fun _ _ _ => rfl)).trans ?_
  rw [a2, zb_some]
  refine (k_icmp_eq t282_1058 rfl).trans ?_
  exact if_pos rfl
end IE
