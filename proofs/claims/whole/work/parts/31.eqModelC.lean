/-! EQUATIONS of ModelC (written by wip/whole/gen/eqs.py). -/
theorem t230_0 : z_ft 230 0 = some (.aload_n 0, 1, none, [], 0, 0, 0, 0) := z_ftd (by decide +kernel)
theorem t230_1 : z_ft 230 1 = some (.getfield 141, 3, none, [], 12, 42, 43, 0) := z_ftd (by decide +kernel)
theorem t230_4 : z_ft 230 4 = some (.ifCond .ne 33, 3, none, [], 37, 0, 0, 0) := z_ftd (by decide +kernel)
theorem t230_7 : z_ft 230 7 = some (.iload_n 1, 1, none, [], 0, 0, 0, 0) := z_ftd (by decide +kernel)
theorem t230_8 : z_ft 230 8 = some (.bipush 14, 2, none, [], 0, 0, 0, 0) := z_ftd (by decide +kernel)
theorem t230_10 : z_ft 230 10 = some (.if_icmp .ne 11, 3, none, [], 21, 0, 0, 0) := z_ftd (by decide +kernel)
theorem t230_13 : z_ft 230 13 = some (.aload_n 0, 1, none, [], 0, 0, 0, 0) := z_ftd (by decide +kernel)
theorem t230_14 : z_ft 230 14 = some (.getfield 180, 3, none, [], 12, 55, 56, 0) := z_ftd (by decide +kernel)
theorem t230_17 : z_ft 230 17 = some (.l2i, 1, none, [], 0, 0, 0, 0) := z_ftd (by decide +kernel)
theorem t230_18 : z_ft 230 18 = some (.goto 18, 3, none, [], 36, 0, 0, 0) := z_ftd (by decide +kernel)
theorem t230_21 : z_ft 230 21 = some (.iload_n 1, 1, none, [], 0, 0, 0, 0) := z_ftd (by decide +kernel)
theorem t230_22 : z_ft 230 22 = some (.iconst 0, 1, none, [], 0, 0, 0, 0) := z_ftd (by decide +kernel)
theorem t230_23 : z_ft 230 23 = some (.bipush 13, 2, none, [], 0, 0, 0, 0) := z_ftd (by decide +kernel)
theorem t230_25 : z_ft 230 25 = some (.invokestatic 307, 3, none, [], 155, 0, 85, 0) := z_ftd (by decide +kernel)
theorem t230_28 : z_ft 230 28 = some (.ifCond .eq 7, 3, none, [], 35, 0, 0, 0) := z_ftd (by decide +kernel)
theorem t230_31 : z_ft 230 31 = some (.iconst 0, 1, none, [], 0, 0, 0, 0) := z_ftd (by decide +kernel)
theorem t230_32 : z_ft 230 32 = some (.goto 4, 3, none, [], 36, 0, 0, 0) := z_ftd (by decide +kernel)
theorem t230_35 : z_ft 230 35 = some (.iconst (-1), 1, none, [], 0, 0, 0, 0) := z_ftd (by decide +kernel)
theorem t230_36 : z_ft 230 36 = some (.ireturn, 1, (some []), [], 0, 0, 0, 0) := z_ftd (by decide +kernel)
theorem t230_37 : z_ft 230 37 = some (.iload_n 1, 1, none, [], 0, 0, 0, 0) := z_ftd (by decide +kernel)
theorem t230_38 : z_ft 230 38 = some (.tableswitch 201 0 14 #[74, 84, 94, 99, 106, 128, 134, 144, 151, 158, 168, 178, 185, 190, 195], 74, none, [112, 122, 132, 137, 144, 166, 172, 182, 189, 196, 206, 216, 223, 228, 233], 239, 0, 0, 0) := z_ftd (by decide +kernel)
theorem t230_112 : z_ft 230 112 = some (.aload_n 0, 1, none, [], 0, 0, 0, 0) := z_ftd (by decide +kernel)
theorem t230_113 : z_ft 230 113 = some (.getfield 54, 3, none, [], 12, 14, 15, 0) := z_ftd (by decide +kernel)
theorem t230_116 : z_ft 230 116 = some (.aload_n 0, 1, none, [], 0, 0, 0, 0) := z_ftd (by decide +kernel)
theorem t230_117 : z_ft 230 117 = some (.getfield 51, 3, none, [], 12, 13, 14, 0) := z_ftd (by decide +kernel)
theorem t230_120 : z_ft 230 120 = some (.iaload, 1, none, [], 0, 0, 0, 0) := z_ftd (by decide +kernel)
theorem t230_121 : z_ft 230 121 = some (.ireturn, 1, none, [], 0, 0, 0, 0) := z_ftd (by decide +kernel)
theorem t230_122 : z_ft 230 122 = some (.aload_n 0, 1, none, [], 0, 0, 0, 0) := z_ftd (by decide +kernel)
theorem t230_123 : z_ft 230 123 = some (.getfield 66, 3, none, [], 12, 18, 19, 0) := z_ftd (by decide +kernel)
theorem t230_126 : z_ft 230 126 = some (.aload_n 0, 1, none, [], 0, 0, 0, 0) := z_ftd (by decide +kernel)
theorem t230_127 : z_ft 230 127 = some (.getfield 51, 3, none, [], 12, 13, 14, 0) := z_ftd (by decide +kernel)
theorem t230_130 : z_ft 230 130 = some (.iaload, 1, none, [], 0, 0, 0, 0) := z_ftd (by decide +kernel)
theorem t230_131 : z_ft 230 131 = some (.ireturn, 1, none, [], 0, 0, 0, 0) := z_ftd (by decide +kernel)
theorem t230_132 : z_ft 230 132 = some (.aload_n 0, 1, none, [], 0, 0, 0, 0) := z_ftd (by decide +kernel)
theorem t230_133 : z_ft 230 133 = some (.invokevirtual 488, 3, none, [], 229, 0, 154, 0) := z_ftd (by decide +kernel)
theorem t230_136 : z_ft 230 136 = some (.ireturn, 1, none, [], 0, 0, 0, 0) := z_ftd (by decide +kernel)
theorem t230_137 : z_ft 230 137 = some (.aload_n 0, 1, none, [], 0, 0, 0, 0) := z_ftd (by decide +kernel)
theorem t230_138 : z_ft 230 138 = some (.getfield 162, 3, none, [], 12, 49, 50, 0) := z_ftd (by decide +kernel)
theorem t230_141 : z_ft 230 141 = some (.iconst 0, 1, none, [], 0, 0, 0, 0) := z_ftd (by decide +kernel)
theorem t230_142 : z_ft 230 142 = some (.iaload, 1, none, [], 0, 0, 0, 0) := z_ftd (by decide +kernel)
theorem t230_143 : z_ft 230 143 = some (.ireturn, 1, none, [], 0, 0, 0, 0) := z_ftd (by decide +kernel)
theorem t230_144 : z_ft 230 144 = some (.aload_n 0, 1, none, [], 0, 0, 0, 0) := z_ftd (by decide +kernel)
theorem t230_145 : z_ft 230 145 = some (.getfield 66, 3, none, [], 12, 18, 19, 0) := z_ftd (by decide +kernel)
theorem t230_148 : z_ft 230 148 = some (.aload_n 0, 1, none, [], 0, 0, 0, 0) := z_ftd (by decide +kernel)
theorem t230_149 : z_ft 230 149 = some (.getfield 51, 3, none, [], 12, 13, 14, 0) := z_ftd (by decide +kernel)
theorem t230_152 : z_ft 230 152 = some (.iaload, 1, none, [], 0, 0, 0, 0) := z_ftd (by decide +kernel)
theorem t230_153 : z_ft 230 153 = some (.aload_n 0, 1, none, [], 0, 0, 0, 0) := z_ftd (by decide +kernel)
theorem t230_154 : z_ft 230 154 = some (.invokevirtual 488, 3, none, [], 229, 0, 154, 0) := z_ftd (by decide +kernel)
theorem t230_157 : z_ft 230 157 = some (.isub, 1, none, [], 0, 0, 0, 0) := z_ftd (by decide +kernel)
theorem t230_158 : z_ft 230 158 = some (.aload_n 0, 1, none, [], 0, 0, 0, 0) := z_ftd (by decide +kernel)
theorem t230_159 : z_ft 230 159 = some (.getfield 162, 3, none, [], 12, 49, 50, 0) := z_ftd (by decide +kernel)
theorem t230_162 : z_ft 230 162 = some (.iconst 0, 1, none, [], 0, 0, 0, 0) := z_ftd (by decide +kernel)
theorem t230_163 : z_ft 230 163 = some (.iaload, 1, none, [], 0, 0, 0, 0) := z_ftd (by decide +kernel)
theorem t230_164 : z_ft 230 164 = some (.isub, 1, none, [], 0, 0, 0, 0) := z_ftd (by decide +kernel)
theorem t230_165 : z_ft 230 165 = some (.ireturn, 1, none, [], 0, 0, 0, 0) := z_ftd (by decide +kernel)
theorem t230_166 : z_ft 230 166 = some (.aload_n 0, 1, none, [], 0, 0, 0, 0) := z_ftd (by decide +kernel)
theorem t230_167 : z_ft 230 167 = some (.iconst 0, 1, none, [], 0, 0, 0, 0) := z_ftd (by decide +kernel)
theorem t230_168 : z_ft 230 168 = some (.invokevirtual 444, 3, none, [], 209, 0, 142, 0) := z_ftd (by decide +kernel)
theorem t230_171 : z_ft 230 171 = some (.ireturn, 1, none, [], 0, 0, 0, 0) := z_ftd (by decide +kernel)
theorem t230_172 : z_ft 230 172 = some (.aload_n 0, 1, none, [], 0, 0, 0, 0) := z_ftd (by decide +kernel)
theorem t230_173 : z_ft 230 173 = some (.getfield 153, 3, none, [], 12, 46, 47, 0) := z_ftd (by decide +kernel)
theorem t230_176 : z_ft 230 176 = some (.iconst 0, 1, none, [], 0, 0, 0, 0) := z_ftd (by decide +kernel)
theorem t230_177 : z_ft 230 177 = some (.iaload, 1, none, [], 0, 0, 0, 0) := z_ftd (by decide +kernel)
theorem t230_178 : z_ft 230 178 = some (.invokestatic 492, 3, none, [], 206, 0, 155, 0) := z_ftd (by decide +kernel)
theorem t230_181 : z_ft 230 181 = some (.ireturn, 1, none, [], 0, 0, 0, 0) := z_ftd (by decide +kernel)
theorem t230_182 : z_ft 230 182 = some (.aload_n 0, 1, none, [], 0, 0, 0, 0) := z_ftd (by decide +kernel)
theorem t230_183 : z_ft 230 183 = some (.getfield 147, 3, none, [], 12, 44, 45, 0) := z_ftd (by decide +kernel)
theorem t230_186 : z_ft 230 186 = some (.iconst 0, 1, none, [], 0, 0, 0, 0) := z_ftd (by decide +kernel)
theorem t230_187 : z_ft 230 187 = some (.iaload, 1, none, [], 0, 0, 0, 0) := z_ftd (by decide +kernel)
theorem t230_188 : z_ft 230 188 = some (.ireturn, 1, none, [], 0, 0, 0, 0) := z_ftd (by decide +kernel)
theorem t230_189 : z_ft 230 189 = some (.aload_n 0, 1, none, [], 0, 0, 0, 0) := z_ftd (by decide +kernel)
theorem t230_190 : z_ft 230 190 = some (.getfield 150, 3, none, [], 12, 45, 46, 0) := z_ftd (by decide +kernel)
theorem t230_193 : z_ft 230 193 = some (.iconst 0, 1, none, [], 0, 0, 0, 0) := z_ftd (by decide +kernel)
theorem t230_194 : z_ft 230 194 = some (.iaload, 1, none, [], 0, 0, 0, 0) := z_ftd (by decide +kernel)
theorem t230_195 : z_ft 230 195 = some (.ireturn, 1, none, [], 0, 0, 0, 0) := z_ftd (by decide +kernel)
theorem t230_196 : z_ft 230 196 = some (.aload_n 0, 1, none, [], 0, 0, 0, 0) := z_ftd (by decide +kernel)
theorem t230_197 : z_ft 230 197 = some (.getfield 57, 3, none, [], 12, 15, 16, 0) := z_ftd (by decide +kernel)
theorem t230_200 : z_ft 230 200 = some (.aload_n 0, 1, none, [], 0, 0, 0, 0) := z_ftd (by decide +kernel)
theorem t230_201 : z_ft 230 201 = some (.getfield 51, 3, none, [], 12, 13, 14, 0) := z_ftd (by decide +kernel)
theorem t230_204 : z_ft 230 204 = some (.iaload, 1, none, [], 0, 0, 0, 0) := z_ftd (by decide +kernel)
theorem t230_205 : z_ft 230 205 = some (.ireturn, 1, none, [], 0, 0, 0, 0) := z_ftd (by decide +kernel)
theorem t230_206 : z_ft 230 206 = some (.aload_n 0, 1, none, [], 0, 0, 0, 0) := z_ftd (by decide +kernel)
theorem t230_207 : z_ft 230 207 = some (.getfield 60, 3, none, [], 12, 16, 17, 0) := z_ftd (by decide +kernel)
theorem t230_210 : z_ft 230 210 = some (.aload_n 0, 1, none, [], 0, 0, 0, 0) := z_ftd (by decide +kernel)
theorem t230_211 : z_ft 230 211 = some (.getfield 51, 3, none, [], 12, 13, 14, 0) := z_ftd (by decide +kernel)
theorem t230_214 : z_ft 230 214 = some (.iaload, 1, none, [], 0, 0, 0, 0) := z_ftd (by decide +kernel)
theorem t230_215 : z_ft 230 215 = some (.ireturn, 1, none, [], 0, 0, 0, 0) := z_ftd (by decide +kernel)
theorem t230_216 : z_ft 230 216 = some (.aload_n 0, 1, none, [], 0, 0, 0, 0) := z_ftd (by decide +kernel)
theorem t230_217 : z_ft 230 217 = some (.getfield 168, 3, none, [], 12, 51, 52, 0) := z_ftd (by decide +kernel)
theorem t230_220 : z_ft 230 220 = some (.iconst 0, 1, none, [], 0, 0, 0, 0) := z_ftd (by decide +kernel)
theorem t230_221 : z_ft 230 221 = some (.iaload, 1, none, [], 0, 0, 0, 0) := z_ftd (by decide +kernel)
theorem t230_222 : z_ft 230 222 = some (.ireturn, 1, none, [], 0, 0, 0, 0) := z_ftd (by decide +kernel)
theorem t230_223 : z_ft 230 223 = some (.aload_n 0, 1, none, [], 0, 0, 0, 0) := z_ftd (by decide +kernel)
theorem t230_224 : z_ft 230 224 = some (.getfield 204, 3, none, [], 12, 63, 64, 0) := z_ftd (by decide +kernel)
theorem t230_227 : z_ft 230 227 = some (.ireturn, 1, none, [], 0, 0, 0, 0) := z_ftd (by decide +kernel)
theorem t230_228 : z_ft 230 228 = some (.aload_n 0, 1, none, [], 0, 0, 0, 0) := z_ftd (by decide +kernel)
theorem t230_229 : z_ft 230 229 = some (.getfield 177, 3, none, [], 12, 54, 55, 0) := z_ftd (by decide +kernel)
theorem t230_232 : z_ft 230 232 = some (.ireturn, 1, none, [], 0, 0, 0, 0) := z_ftd (by decide +kernel)
theorem t230_233 : z_ft 230 233 = some (.aload_n 0, 1, none, [], 0, 0, 0, 0) := z_ftd (by decide +kernel)
theorem t230_234 : z_ft 230 234 = some (.getfield 180, 3, none, [], 12, 55, 56, 0) := z_ftd (by decide +kernel)
theorem t230_237 : z_ft 230 237 = some (.l2i, 1, none, [], 0, 0, 0, 0) := z_ftd (by decide +kernel)
theorem t230_238 : z_ft 230 238 = some (.ireturn, 1, none, [], 0, 0, 0, 0) := z_ftd (by decide +kernel)
theorem t230_239 : z_ft 230 239 = some (.iconst (-1), 1, none, [], 0, 0, 0, 0) := z_ftd (by decide +kernel)
theorem t230_240 : z_ft 230 240 = some (.ireturn, 1, none, [], 0, 0, 0, 0) := z_ftd (by decide +kernel)
-- X12_has
theorem e230 (d : Nat) (x1 : Int32) (S : z_S) (hW : z_W S)  : fI (d + 1) 230 [.ref 396, .int x1] S = (if ¬ (gI S 396 42) = (0 : Int32) then (if x1 = (0 : Int32) then (if z_in (gI S 396 13) 2 then some ((gI S 398 ((gI S 396 13)).toNatClampNeg), S) else none) else (if x1 = (1 : Int32) then (if z_in (gI S 396 13) 2 then some ((gI S 402 ((gI S 396 13)).toNatClampNeg), S) else none) else (if x1 = (2 : Int32) then (zb (fI d 229 [.ref 396] S) fun v7 S8 => some (v7, S8)) else (if x1 = (3 : Int32) then (if z_in (0 : Int32) 22 then some ((gI S 425 ((0 : Int32)).toNatClampNeg), S) else none) else (if x1 = (4 : Int32) then (if z_in (gI S 396 13) 2 then (zb (fI d 229 [.ref 396] S) fun v13 S14 => (if z_in (0 : Int32) 22 then some ((((gI S 402 ((gI S 396 13)).toNatClampNeg) - v13) - (gI S14 425 ((0 : Int32)).toNatClampNeg)), S14) else none)) else none) else (if x1 = (5 : Int32) then (zb (fI d 209 [.ref 396, .int (0 : Int32)] S) fun v17 S18 => some (v17, S18)) else (if x1 = (6 : Int32) then (if z_in (0 : Int32) 22 then (zb (fI d 206 [.int (gI S 422 ((0 : Int32)).toNatClampNeg)] S) fun v21 S22 => some (v21, S22)) else none) else (if x1 = (7 : Int32) then (if z_in (0 : Int32) 22 then some ((gI S 420 ((0 : Int32)).toNatClampNeg), S) else none) else (if x1 = (8 : Int32) then (if z_in (0 : Int32) 22 then some ((gI S 421 ((0 : Int32)).toNatClampNeg), S) else none) else (if x1 = (9 : Int32) then (if z_in (gI S 396 13) 2 then some ((gI S 399 ((gI S 396 13)).toNatClampNeg), S) else none) else (if x1 = (10 : Int32) then (if z_in (gI S 396 13) 2 then some ((gI S 400 ((gI S 396 13)).toNatClampNeg), S) else none) else (if x1 = (11 : Int32) then (if z_in (0 : Int32) 22 then some ((gI S 427 ((0 : Int32)).toNatClampNeg), S) else none) else (if x1 = (12 : Int32) then some ((gI S 396 63), S) else (if x1 = (13 : Int32) then some ((gI S 396 54), S) else (if x1 = (14 : Int32) then some (((gL S 396 55)).toInt32, S) else some ((-1 : Int32), S)))))))))))))))) else (if ¬ x1 = (14 : Int32) then (zb (fI d 155 [.int x1, .int (0 : Int32), .int (13 : Int32)] S) fun v37 S38 => (if v37 = (0 : Int32) then some ((-1 : Int32), S38) else some ((0 : Int32), S38))) else some (((gL S 396 55)).toInt32, S))) := by
  refine (fI_en (Nat.le_of_ble_eq_true rfl) rfl).trans ?_
  refine (k_aload_n t230_0 rfl rfl).trans ?_
  refine (k_getI t230_1 rfl hW zK_396 (by decide) (by decide)).trans ?_
  refine (k_if_ne t230_4 rfl).trans (z_ite (fun g1 => ?_) (fun g1 => ?_))
  · refine (k_iload_n t230_37 rfl rfl).trans ?_
    refine (k_switch t230_38 rfl).trans ?_
    refine (zk_swC (n := (0 : Int32)) (lo' := 1) zci_0 rfl).trans (z_ite (fun g2 => ?_) (fun g2 => ?_))
    · refine (k_aload_n t230_112 rfl rfl).trans ?_
      refine (k_getR t230_113 rfl hW zK_396 (by decide) (by decide) (zF_396_14 hW)).trans ?_
      refine (k_aload_n t230_116 rfl rfl).trans ?_
      refine (k_getI t230_117 rfl hW zK_396 (by decide) (by decide)).trans ?_
      refine (k_iald t230_120 rfl hW zK_398 zL_398).trans (z_ite (fun g3 => ?_) (fun _ => rfl))
      exact k_ireturn t230_121 rfl (by decide)
    refine (zk_swC (n := (1 : Int32)) (lo' := 2) zci_1 rfl).trans (z_ite (fun g4 => ?_) (fun g4 => ?_))
    · refine (k_aload_n t230_122 rfl rfl).trans ?_
      refine (k_getR t230_123 rfl hW zK_396 (by decide) (by decide) (zF_396_18 hW)).trans ?_
      refine (k_aload_n t230_126 rfl rfl).trans ?_
      refine (k_getI t230_127 rfl hW zK_396 (by decide) (by decide)).trans ?_
      refine (k_iald t230_130 rfl hW zK_402 zL_402).trans (z_ite (fun g5 => ?_) (fun _ => rfl))
      exact k_ireturn t230_131 rfl (by decide)
    refine (zk_swC (n := (2 : Int32)) (lo' := 3) zci_2 rfl).trans (z_ite (fun g6 => ?_) (fun g6 => ?_))
    · refine (k_aload_n t230_132 rfl rfl).trans ?_
      refine k_callI (as := [.ref 396]) (rest := []) t230_133 rfl rfl (by decide) rfl rfl (Nat.le_of_ble_eq_true rfl) rfl (z_rcV hW (zK_396) (by decide)) (by decide) (Or.inl (by decide)) hW (fun v7 S8 hW8 => ?_)
      exact k_ireturn t230_136 rfl (by decide)
    refine (zk_swC (n := (3 : Int32)) (lo' := 4) zci_3 rfl).trans (z_ite (fun g9 => ?_) (fun g9 => ?_))
    · refine (k_aload_n t230_137 rfl rfl).trans ?_
      refine (k_getR t230_138 rfl hW zK_396 (by decide) (by decide) (zF_396_49 hW)).trans ?_
      refine (k_iconst t230_141 rfl zci_0).trans ?_
      refine (k_iald t230_142 rfl hW zK_425 zL_425).trans (z_ite (fun g10 => ?_) (fun _ => rfl))
      exact k_ireturn t230_143 rfl (by decide)
    refine (zk_swC (n := (4 : Int32)) (lo' := 5) zci_4 rfl).trans (z_ite (fun g11 => ?_) (fun g11 => ?_))
    · refine (k_aload_n t230_144 rfl rfl).trans ?_
      refine (k_getR t230_145 rfl hW zK_396 (by decide) (by decide) (zF_396_18 hW)).trans ?_
      refine (k_aload_n t230_148 rfl rfl).trans ?_
      refine (k_getI t230_149 rfl hW zK_396 (by decide) (by decide)).trans ?_
      refine (k_iald t230_152 rfl hW zK_402 zL_402).trans (z_ite (fun g12 => ?_) (fun _ => rfl))
      refine (k_aload_n t230_153 rfl rfl).trans ?_
      refine k_callI (as := [.ref 396]) (rest := [.int (gI S 402 ((gI S 396 13)).toNatClampNeg)]) t230_154 rfl rfl (by decide) rfl rfl (Nat.le_of_ble_eq_true rfl) rfl (z_rcV hW (zK_396) (by decide)) (by decide) (Or.inl (by decide)) hW (fun v13 S14 hW14 => ?_)
      refine (k_isub t230_157 rfl).trans ?_
      refine (k_aload_n t230_158 rfl rfl).trans ?_
      refine (k_getR t230_159 rfl hW14 zK_396 (by decide) (by decide) (zF_396_49 hW14)).trans ?_
      refine (k_iconst t230_162 rfl zci_0).trans ?_
      refine (k_iald t230_163 rfl hW14 zK_425 zL_425).trans (z_ite (fun g15 => ?_) (fun _ => rfl))
      refine (k_isub t230_164 rfl).trans ?_
      exact k_ireturn t230_165 rfl (by decide)
    refine (zk_swC (n := (5 : Int32)) (lo' := 6) zci_5 rfl).trans (z_ite (fun g16 => ?_) (fun g16 => ?_))
    · refine (k_aload_n t230_166 rfl rfl).trans ?_
      refine (k_iconst t230_167 rfl zci_0).trans ?_
      refine k_callI (as := [.ref 396, .int (0 : Int32)]) (rest := []) t230_168 rfl rfl (by decide) rfl rfl (Nat.le_of_ble_eq_true rfl) rfl (z_rcV hW (zK_396) (by decide)) (by decide) (Or.inl (by decide)) hW (fun v17 S18 hW18 => ?_)
      exact k_ireturn t230_171 rfl (by decide)
    refine (zk_swC (n := (6 : Int32)) (lo' := 7) zci_6 rfl).trans (z_ite (fun g19 => ?_) (fun g19 => ?_))
    · refine (k_aload_n t230_172 rfl rfl).trans ?_
      refine (k_getR t230_173 rfl hW zK_396 (by decide) (by decide) (zF_396_46 hW)).trans ?_
      refine (k_iconst t230_176 rfl zci_0).trans ?_
      refine (k_iald t230_177 rfl hW zK_422 zL_422).trans (z_ite (fun g20 => ?_) (fun _ => rfl))
      refine k_callI (as := [.int (gI S 422 ((0 : Int32)).toNatClampNeg)]) (rest := []) t230_178 rfl rfl (by decide) rfl rfl (Nat.le_of_ble_eq_true rfl) rfl (z_rcS (by decide)) (by decide) (Or.inl (by decide)) hW (fun v21 S22 hW22 => ?_)
      exact k_ireturn t230_181 rfl (by decide)
    refine (zk_swC (n := (7 : Int32)) (lo' := 8) zci_7 rfl).trans (z_ite (fun g23 => ?_) (fun g23 => ?_))
    · refine (k_aload_n t230_182 rfl rfl).trans ?_
      refine (k_getR t230_183 rfl hW zK_396 (by decide) (by decide) (zF_396_44 hW)).trans ?_
      refine (k_iconst t230_186 rfl zci_0).trans ?_
      refine (k_iald t230_187 rfl hW zK_420 zL_420).trans (z_ite (fun g24 => ?_) (fun _ => rfl))
      exact k_ireturn t230_188 rfl (by decide)
    refine (zk_swC (n := (8 : Int32)) (lo' := 9) zci_8 rfl).trans (z_ite (fun g25 => ?_) (fun g25 => ?_))
    · refine (k_aload_n t230_189 rfl rfl).trans ?_
      refine (k_getR t230_190 rfl hW zK_396 (by decide) (by decide) (zF_396_45 hW)).trans ?_
      refine (k_iconst t230_193 rfl zci_0).trans ?_
      refine (k_iald t230_194 rfl hW zK_421 zL_421).trans (z_ite (fun g26 => ?_) (fun _ => rfl))
      exact k_ireturn t230_195 rfl (by decide)
    refine (zk_swC (n := (9 : Int32)) (lo' := 10) zci_9 rfl).trans (z_ite (fun g27 => ?_) (fun g27 => ?_))
    · refine (k_aload_n t230_196 rfl rfl).trans ?_
      refine (k_getR t230_197 rfl hW zK_396 (by decide) (by decide) (zF_396_15 hW)).trans ?_
      refine (k_aload_n t230_200 rfl rfl).trans ?_
      refine (k_getI t230_201 rfl hW zK_396 (by decide) (by decide)).trans ?_
      refine (k_iald t230_204 rfl hW zK_399 zL_399).trans (z_ite (fun g28 => ?_) (fun _ => rfl))
      exact k_ireturn t230_205 rfl (by decide)
    refine (zk_swC (n := (10 : Int32)) (lo' := 11) zci_10 rfl).trans (z_ite (fun g29 => ?_) (fun g29 => ?_))
    · refine (k_aload_n t230_206 rfl rfl).trans ?_
      refine (k_getR t230_207 rfl hW zK_396 (by decide) (by decide) (zF_396_16 hW)).trans ?_
      refine (k_aload_n t230_210 rfl rfl).trans ?_
      refine (k_getI t230_211 rfl hW zK_396 (by decide) (by decide)).trans ?_
      refine (k_iald t230_214 rfl hW zK_400 zL_400).trans (z_ite (fun g30 => ?_) (fun _ => rfl))
      exact k_ireturn t230_215 rfl (by decide)
    refine (zk_swC (n := (11 : Int32)) (lo' := 12) zci_11 rfl).trans (z_ite (fun g31 => ?_) (fun g31 => ?_))
    · refine (k_aload_n t230_216 rfl rfl).trans ?_
      refine (k_getR t230_217 rfl hW zK_396 (by decide) (by decide) (zF_396_51 hW)).trans ?_
      refine (k_iconst t230_220 rfl zci_0).trans ?_
      refine (k_iald t230_221 rfl hW zK_427 zL_427).trans (z_ite (fun g32 => ?_) (fun _ => rfl))
      exact k_ireturn t230_222 rfl (by decide)
    refine (zk_swC (n := (12 : Int32)) (lo' := 13) zci_12 rfl).trans (z_ite (fun g33 => ?_) (fun g33 => ?_))
    · refine (k_aload_n t230_223 rfl rfl).trans ?_
      refine (k_getI t230_224 rfl hW zK_396 (by decide) (by decide)).trans ?_
      exact k_ireturn t230_227 rfl (by decide)
    refine (zk_swC (n := (13 : Int32)) (lo' := 14) zci_13 rfl).trans (z_ite (fun g34 => ?_) (fun g34 => ?_))
    · refine (k_aload_n t230_228 rfl rfl).trans ?_
      refine (k_getI t230_229 rfl hW zK_396 (by decide) (by decide)).trans ?_
      exact k_ireturn t230_232 rfl (by decide)
    refine (zk_swC (n := (14 : Int32)) (lo' := 15) zci_14 rfl).trans (z_ite (fun g35 => ?_) (fun g35 => ?_))
    · refine (k_aload_n t230_233 rfl rfl).trans ?_
      refine (k_getL t230_234 rfl hW zK_396 (by decide) (by decide)).trans ?_
      refine (k_l2i t230_237 rfl).trans ?_
      exact k_ireturn t230_238 rfl (by decide)
    refine (k_iconst t230_239 rfl zci_m1).trans ?_
    exact k_ireturn t230_240 rfl (by decide)
  · refine (k_iload_n t230_7 rfl rfl).trans ?_
    refine (k_bipush t230_8 rfl zcb_14).trans ?_
    refine (k_icmp_ne t230_10 rfl).trans (z_ite (fun g36 => ?_) (fun g36 => ?_))
    · refine (k_iload_n t230_21 rfl rfl).trans ?_
      refine (k_iconst t230_22 rfl zci_0).trans ?_
      refine (k_bipush t230_23 rfl zcb_13).trans ?_
      refine k_callI (as := [.int x1, .int (0 : Int32), .int (13 : Int32)]) (rest := []) t230_25 rfl rfl (by decide) rfl rfl (Nat.le_of_ble_eq_true rfl) rfl (z_rcS (by decide)) (by decide) (Or.inr (by decide)) hW (fun v37 S38 hW38 => ?_)
      refine (k_if_eq t230_28 rfl).trans (z_ite (fun g39 => ?_) (fun g39 => ?_))
      · refine (k_iconst t230_35 rfl zci_m1).trans ?_
        refine (zk_mk (ls' := [z_j, z_j]) t230_36 rfl).trans ?_
        exact k_ireturn t230_36 rfl (by decide)
      · refine (k_iconst t230_31 rfl zci_0).trans ?_
        refine (k_goto t230_32 rfl).trans ?_
        refine (zk_mk (ls' := [z_j, z_j]) t230_36 rfl).trans ?_
        exact k_ireturn t230_36 rfl (by decide)
    · refine (k_aload_n t230_13 rfl rfl).trans ?_
      refine (k_getL t230_14 rfl hW zK_396 (by decide) (by decide)).trans ?_
      refine (k_l2i t230_17 rfl).trans ?_
      refine (k_goto t230_18 rfl).trans ?_
      refine (zk_mk (ls' := [z_j, z_j]) t230_36 rfl).trans ?_
      exact k_ireturn t230_36 rfl (by decide)
theorem t231_0 : z_ft 231 0 = some (.aload_n 0, 1, none, [], 0, 0, 0, 0) := z_ftd (by decide +kernel)
theorem t231_1 : z_ft 231 1 = some (.iload_n 1, 1, none, [], 0, 0, 0, 0) := z_ftd (by decide +kernel)
theorem t231_2 : z_ft 231 2 = some (.invokevirtual 495, 3, none, [], 228, 0, 156, 0) := z_ftd (by decide +kernel)
theorem t231_5 : z_ft 231 5 = some (.ifCond .eq 12, 3, none, [], 17, 0, 0, 0) := z_ftd (by decide +kernel)
theorem t231_8 : z_ft 231 8 = some (.iload_n 2, 1, none, [], 0, 0, 0, 0) := z_ftd (by decide +kernel)
theorem t231_9 : z_ft 231 9 = some (.iconst 0, 1, none, [], 0, 0, 0, 0) := z_ftd (by decide +kernel)
theorem t231_10 : z_ft 231 10 = some (.iconst 5, 1, none, [], 0, 0, 0, 0) := z_ftd (by decide +kernel)
theorem t231_11 : z_ft 231 11 = some (.invokestatic 307, 3, none, [], 155, 0, 85, 0) := z_ftd (by decide +kernel)
theorem t231_14 : z_ft 231 14 = some (.ifCond .ne 5, 3, none, [], 19, 0, 0, 0) := z_ftd (by decide +kernel)
theorem t231_17 : z_ft 231 17 = some (.iconst (-1), 1, (some []), [], 0, 0, 0, 0) := z_ftd (by decide +kernel)
theorem t231_18 : z_ft 231 18 = some (.ireturn, 1, none, [], 0, 0, 0, 0) := z_ftd (by decide +kernel)
theorem t231_19 : z_ft 231 19 = some (.aload_n 0, 1, none, [], 0, 0, 0, 0) := z_ftd (by decide +kernel)
theorem t231_20 : z_ft 231 20 = some (.getfield 96, 3, none, [], 12, 28, 29, 0) := z_ftd (by decide +kernel)
theorem t231_23 : z_ft 231 23 = some (.bipush 16, 2, none, [], 0, 0, 0, 0) := z_ftd (by decide +kernel)
theorem t231_25 : z_ft 231 25 = some (.aload_n 0, 1, none, [], 0, 0, 0, 0) := z_ftd (by decide +kernel)
theorem t231_26 : z_ft 231 26 = some (.getfield 51, 3, none, [], 12, 13, 14, 0) := z_ftd (by decide +kernel)
theorem t231_29 : z_ft 231 29 = some (.imul, 1, none, [], 0, 0, 0, 0) := z_ftd (by decide +kernel)
theorem t231_30 : z_ft 231 30 = some (.iload_n 1, 1, none, [], 0, 0, 0, 0) := z_ftd (by decide +kernel)
theorem t231_31 : z_ft 231 31 = some (.iadd, 1, none, [], 0, 0, 0, 0) := z_ftd (by decide +kernel)
theorem t231_32 : z_ft 231 32 = some (.laload, 1, none, [], 0, 0, 0, 0) := z_ftd (by decide +kernel)
theorem t231_33 : z_ft 231 33 = some (.lstore_n 3, 1, none, [], 0, 0, 0, 0) := z_ftd (by decide +kernel)
theorem t231_34 : z_ft 231 34 = some (.iconst 0, 1, none, [], 0, 0, 0, 0) := z_ftd (by decide +kernel)
theorem t231_35 : z_ft 231 35 = some (.istore 5, 2, none, [], 0, 0, 0, 0) := z_ftd (by decide +kernel)
theorem t231_37 : z_ft 231 37 = some (.lload_n 3, 1, none, [], 0, 0, 0, 0) := z_ftd (by decide +kernel)
theorem t231_38 : z_ft 231 38 = some (.lstore 6, 2, none, [], 0, 0, 0, 0) := z_ftd (by decide +kernel)
theorem t231_40 : z_ft 231 40 = some (.lload 6, 2, (some [2, 3, 5, 6]), [], 0, 0, 0, 0) := z_ftd (by decide +kernel)
theorem t231_42 : z_ft 231 42 = some (.lconst 0, 1, none, [], 0, 0, 0, 0) := z_ftd (by decide +kernel)
theorem t231_43 : z_ft 231 43 = some (.lcmp, 1, none, [], 0, 0, 0, 0) := z_ftd (by decide +kernel)
theorem t231_44 : z_ft 231 44 = some (.ifCond .le 16, 3, none, [], 60, 0, 0, 0) := z_ftd (by decide +kernel)
theorem t231_47 : z_ft 231 47 = some (.iinc 5 1, 3, none, [], 0, 0, 0, 0) := z_ftd (by decide +kernel)
theorem t231_50 : z_ft 231 50 = some (.lload 6, 2, none, [], 0, 0, 0, 0) := z_ftd (by decide +kernel)
theorem t231_52 : z_ft 231 52 = some (.bipush 8, 2, none, [], 0, 0, 0, 0) := z_ftd (by decide +kernel)
theorem t231_54 : z_ft 231 54 = some (.lshr, 1, none, [], 0, 0, 0, 0) := z_ftd (by decide +kernel)
theorem t231_55 : z_ft 231 55 = some (.lstore 6, 2, none, [], 0, 0, 0, 0) := z_ftd (by decide +kernel)
theorem t231_57 : z_ft 231 57 = some (.goto (-17), 3, none, [], 40, 0, 0, 0) := z_ftd (by decide +kernel)
theorem t231_60 : z_ft 231 60 = some (.iload_n 2, 1, none, [], 0, 0, 0, 0) := z_ftd (by decide +kernel)
theorem t231_61 : z_ft 231 61 = some (.iload 5, 2, none, [], 0, 0, 0, 0) := z_ftd (by decide +kernel)
theorem t231_63 : z_ft 231 63 = some (.if_icmp .lt 7, 3, none, [], 70, 0, 0, 0) := z_ftd (by decide +kernel)
theorem t231_66 : z_ft 231 66 = some (.iconst 0, 1, none, [], 0, 0, 0, 0) := z_ftd (by decide +kernel)
theorem t231_67 : z_ft 231 67 = some (.goto 24, 3, none, [], 91, 0, 0, 0) := z_ftd (by decide +kernel)
theorem t231_70 : z_ft 231 70 = some (.lload_n 3, 1, none, [], 0, 0, 0, 0) := z_ftd (by decide +kernel)
theorem t231_71 : z_ft 231 71 = some (.bipush 8, 2, none, [], 0, 0, 0, 0) := z_ftd (by decide +kernel)
theorem t231_73 : z_ft 231 73 = some (.iload 5, 2, none, [], 0, 0, 0, 0) := z_ftd (by decide +kernel)
theorem t231_75 : z_ft 231 75 = some (.iconst 1, 1, none, [], 0, 0, 0, 0) := z_ftd (by decide +kernel)
theorem t231_76 : z_ft 231 76 = some (.isub, 1, none, [], 0, 0, 0, 0) := z_ftd (by decide +kernel)
theorem t231_77 : z_ft 231 77 = some (.iload_n 2, 1, none, [], 0, 0, 0, 0) := z_ftd (by decide +kernel)
theorem t231_78 : z_ft 231 78 = some (.isub, 1, none, [], 0, 0, 0, 0) := z_ftd (by decide +kernel)
theorem t231_79 : z_ft 231 79 = some (.imul, 1, none, [], 0, 0, 0, 0) := z_ftd (by decide +kernel)
theorem t231_80 : z_ft 231 80 = some (.lshr, 1, none, [], 0, 0, 0, 0) := z_ftd (by decide +kernel)
theorem t231_81 : z_ft 231 81 = some (.ldc2_w 498, 3, none, [], 0, 0, 157, 255) := z_ftd (by decide +kernel)
theorem t231_84 : z_ft 231 84 = some (.land, 1, none, [], 0, 0, 0, 0) := z_ftd (by decide +kernel)
theorem t231_85 : z_ft 231 85 = some (.l2i, 1, none, [], 0, 0, 0, 0) := z_ftd (by decide +kernel)
theorem t231_86 : z_ft 231 86 = some (.bipush 97, 2, none, [], 0, 0, 0, 0) := z_ftd (by decide +kernel)
theorem t231_88 : z_ft 231 88 = some (.isub, 1, none, [], 0, 0, 0, 0) := z_ftd (by decide +kernel)
theorem t231_89 : z_ft 231 89 = some (.iconst 1, 1, none, [], 0, 0, 0, 0) := z_ftd (by decide +kernel)
theorem t231_90 : z_ft 231 90 = some (.iadd, 1, none, [], 0, 0, 0, 0) := z_ftd (by decide +kernel)
theorem t231_91 : z_ft 231 91 = some (.ireturn, 1, (some []), [], 0, 0, 0, 0) := z_ftd (by decide +kernel)
noncomputable def b231_40 (d : Nat) (y2 : Int32) (y3 : Int64) (y5 : Int32) (y6 : Int64) (S : z_S) : Option (Int32 × z_S) := zk kI z_X0 d 231 40 [z_j, z_j, .int y2, .long y3, z_j, .int y5, .long y6, z_j] [] S
theorem b231_40_eq (d : Nat) (y2 : Int32) (y3 : Int64) (y5 : Int32) (y6 : Int64) (S : z_S) (hW : z_W S)  : b231_40 d y2 y3 y5 y6 S = (if (lg_cmp y6 (0 : Int64)) ≤ (0 : Int32) then (if y2 < y5 then some ((((((y3 >>> ((((8 : Int32) * ((y5 - (1 : Int32)) - y2))).toInt64 &&& 63)) &&& (255 : Int64))).toInt32 - (97 : Int32)) + (1 : Int32)), S) else some ((0 : Int32), S)) else b231_40 d y2 y3 (y5 + (1 : Int32)) (y6 >>> (((8 : Int32)).toInt64 &&& 63)) S) := by
  unfold b231_40
  refine (k_lload t231_40 rfl rfl).trans ?_
  refine (k_lconst t231_42 rfl (z := (0 : Int64)) rfl).trans ?_
  refine (k_lcmp t231_43 rfl).trans ?_
  refine (k_if_le t231_44 rfl).trans (z_ite (fun g8 => ?_) (fun g8 => ?_))
  · refine (k_iload_n t231_60 rfl rfl).trans ?_
    refine (k_iload t231_61 rfl rfl).trans ?_
    refine (k_icmp_lt t231_63 rfl).trans (z_ite (fun g9 => ?_) (fun g9 => ?_))
    · refine (k_lload_n t231_70 rfl rfl).trans ?_
      refine (k_bipush t231_71 rfl zcb_8).trans ?_
      refine (k_iload t231_73 rfl rfl).trans ?_
      refine (k_iconst t231_75 rfl zci_1).trans ?_
      refine (k_isub t231_76 rfl).trans ?_
      refine (k_iload_n t231_77 rfl rfl).trans ?_
      refine (k_isub t231_78 rfl).trans ?_
      refine (k_imul t231_79 rfl).trans ?_
      refine (k_lshr t231_80 rfl).trans ?_
      refine (k_ldc2_w t231_81 rfl zcl_255).trans ?_
      refine (k_land t231_84 rfl).trans ?_
      refine (k_l2i t231_85 rfl).trans ?_
      refine (k_bipush t231_86 rfl zcb_97).trans ?_
      refine (k_isub t231_88 rfl).trans ?_
      refine (k_iconst t231_89 rfl zci_1).trans ?_
      refine (k_iadd t231_90 rfl).trans ?_
      refine (zk_mk (ls' := [z_j, z_j, z_j, z_j, z_j, z_j, z_j, z_j]) t231_91 rfl).trans ?_
      exact k_ireturn t231_91 rfl (by decide)
    · refine (k_iconst t231_66 rfl zci_0).trans ?_
      refine (k_goto t231_67 rfl).trans ?_
      refine (zk_mk (ls' := [z_j, z_j, z_j, z_j, z_j, z_j, z_j, z_j]) t231_91 rfl).trans ?_
      exact k_ireturn t231_91 rfl (by decide)
  · refine (k_iinc (b := (y5 + (1 : Int32))) (ls' := [z_j, z_j, .int y2, .long y3, z_j, .int (y5 + (1 : Int32)), .long y6, z_j]) t231_47 rfl rfl (by rw [zci_1]) rfl).trans ?_
    refine (k_lload t231_50 rfl rfl).trans ?_
    refine (k_bipush t231_52 rfl zcb_8).trans ?_
    refine (k_lshr t231_54 rfl).trans ?_
    refine (k_lstore (ls' := [z_j, z_j, .int y2, .long y3, z_j, .int (y5 + (1 : Int32)), .long (y6 >>> (((8 : Int32)).toInt64 &&& 63)), z_j]) t231_55 rfl rfl).trans ?_
    refine (k_goto t231_57 rfl).trans ?_
    exact (zk_mk (ls' := [z_j, z_j, .int y2, .long y3, z_j, .int (y5 + (1 : Int32)), .long (y6 >>> (((8 : Int32)).toInt64 &&& 63)), z_j]) t231_40 rfl)
-- X12_letter
theorem e231 (d : Nat) (x1 : Int32) (x2 : Int32) (S : z_S) (hW : z_W S)  : fI (d + 1) 231 [.ref 396, .int x1, .int x2] S = (zb (fI d 228 [.ref 396, .int x1] S) fun v1 S2 => (if v1 = (0 : Int32) then some ((-1 : Int32), S2) else (zb (fI d 155 [.int x2, .int (0 : Int32), .int (5 : Int32)] S2) fun v4 S5 => (if ¬ v4 = (0 : Int32) then (if z_in (((16 : Int32) * (gI S5 396 13)) + x1) 32 then b231_40 d x2 (gL S5 412 ((((16 : Int32) * (gI S5 396 13)) + x1)).toNatClampNeg) (0 : Int32) (gL S5 412 ((((16 : Int32) * (gI S5 396 13)) + x1)).toNatClampNeg) S5 else none) else some ((-1 : Int32), S5))))) := by
  refine (fI_en (Nat.le_of_ble_eq_true rfl) rfl).trans ?_
  refine (k_aload_n t231_0 rfl rfl).trans ?_
  refine (k_iload_n t231_1 rfl rfl).trans ?_
  refine k_callI (as := [.ref 396, .int x1]) (rest := []) t231_2 rfl rfl (by decide) rfl rfl (Nat.le_of_ble_eq_true rfl) rfl (z_rcV hW (zK_396) (by decide)) (by decide) (Or.inr (by decide)) hW (fun v1 S2 hW2 => ?_)
  refine (k_if_eq t231_5 rfl).trans (z_ite (fun g3 => ?_) (fun g3 => ?_))
  · refine (zk_mk (ls' := [z_j, z_j, z_j, z_j, z_j, z_j, z_j, z_j]) t231_17 rfl).trans ?_
    refine (k_iconst t231_17 rfl zci_m1).trans ?_
    exact k_ireturn t231_18 rfl (by decide)
  · refine (k_iload_n t231_8 rfl rfl).trans ?_
    refine (k_iconst t231_9 rfl zci_0).trans ?_
    refine (k_iconst t231_10 rfl zci_5).trans ?_
    refine k_callI (as := [.int x2, .int (0 : Int32), .int (5 : Int32)]) (rest := []) t231_11 rfl rfl (by decide) rfl rfl (Nat.le_of_ble_eq_true rfl) rfl (z_rcS (by decide)) (by decide) (Or.inr (by decide)) hW2 (fun v4 S5 hW5 => ?_)
    refine (k_if_ne t231_14 rfl).trans (z_ite (fun g6 => ?_) (fun g6 => ?_))
    · refine (k_aload_n t231_19 rfl rfl).trans ?_
      refine (k_getR t231_20 rfl hW5 zK_396 (by decide) (by decide) (zF_396_28 hW5)).trans ?_
      refine (k_bipush t231_23 rfl zcb_16).trans ?_
      refine (k_aload_n t231_25 rfl rfl).trans ?_
      refine (k_getI t231_26 rfl hW5 zK_396 (by decide) (by decide)).trans ?_
      refine (k_imul t231_29 rfl).trans ?_
      refine (k_iload_n t231_30 rfl rfl).trans ?_
      refine (k_iadd t231_31 rfl).trans ?_
      refine (k_lald t231_32 rfl hW5 zK_412 zL_412).trans (z_ite (fun g7 => ?_) (fun _ => rfl))
      refine (k_lstore_n (ls' := [.ref 396, .int x1, .int x2, .long (gL S5 412 ((((16 : Int32) * (gI S5 396 13)) + x1)).toNatClampNeg), z_j, z_j, z_j, z_j]) t231_33 rfl rfl).trans ?_
      refine (k_iconst t231_34 rfl zci_0).trans ?_
      refine (k_istore (ls' := [.ref 396, .int x1, .int x2, .long (gL S5 412 ((((16 : Int32) * (gI S5 396 13)) + x1)).toNatClampNeg), z_j, .int (0 : Int32), z_j, z_j]) t231_35 rfl rfl).trans ?_
      refine (k_lload_n t231_37 rfl rfl).trans ?_
      refine (k_lstore (ls' := [.ref 396, .int x1, .int x2, .long (gL S5 412 ((((16 : Int32) * (gI S5 396 13)) + x1)).toNatClampNeg), z_j, .int (0 : Int32), .long (gL S5 412 ((((16 : Int32) * (gI S5 396 13)) + x1)).toNatClampNeg), z_j]) t231_38 rfl rfl).trans ?_
      exact (zk_mk (ls' := [z_j, z_j, .int x2, .long (gL S5 412 ((((16 : Int32) * (gI S5 396 13)) + x1)).toNatClampNeg), z_j, .int (0 : Int32), .long (gL S5 412 ((((16 : Int32) * (gI S5 396 13)) + x1)).toNatClampNeg), z_j]) t231_40 rfl)
    · refine (zk_mk (ls' := [z_j, z_j, z_j, z_j, z_j, z_j, z_j, z_j]) t231_17 rfl).trans ?_
      refine (k_iconst t231_17 rfl zci_m1).trans ?_
      exact k_ireturn t231_18 rfl (by decide)
theorem t232_0 : z_ft 232 0 = some (.aload_n 0, 1, none, [], 0, 0, 0, 0) := z_ftd (by decide +kernel)
theorem t232_1 : z_ft 232 1 = some (.iload_n 1, 1, none, [], 0, 0, 0, 0) := z_ftd (by decide +kernel)
theorem t232_2 : z_ft 232 2 = some (.invokevirtual 500, 3, none, [], 227, 0, 158, 0) := z_ftd (by decide +kernel)
theorem t232_5 : z_ft 232 5 = some (.ifCond .ne 5, 3, none, [], 10, 0, 0, 0) := z_ftd (by decide +kernel)
theorem t232_8 : z_ft 232 8 = some (.iconst (-1), 1, none, [], 0, 0, 0, 0) := z_ftd (by decide +kernel)
theorem t232_9 : z_ft 232 9 = some (.ireturn, 1, none, [], 0, 0, 0, 0) := z_ftd (by decide +kernel)
theorem t232_10 : z_ft 232 10 = some (.iconst 0, 1, none, [], 0, 0, 0, 0) := z_ftd (by decide +kernel)
theorem t232_11 : z_ft 232 11 = some (.istore_n 3, 1, none, [], 0, 0, 0, 0) := z_ftd (by decide +kernel)
theorem t232_12 : z_ft 232 12 = some (.iload_n 2, 1, none, [], 0, 0, 0, 0) := z_ftd (by decide +kernel)
theorem t232_13 : z_ft 232 13 = some (.tableswitch 141 0 4 #[35, 42, 57, 72, 125], 35, none, [48, 55, 70, 85, 138], 154, 0, 0, 0) := z_ftd (by decide +kernel)
theorem t232_48 : z_ft 232 48 = some (.aload_n 0, 1, none, [], 0, 0, 0, 0) := z_ftd (by decide +kernel)
theorem t232_49 : z_ft 232 49 = some (.getfield 156, 3, none, [], 12, 47, 48, 0) := z_ftd (by decide +kernel)
theorem t232_52 : z_ft 232 52 = some (.iload_n 1, 1, none, [], 0, 0, 0, 0) := z_ftd (by decide +kernel)
theorem t232_53 : z_ft 232 53 = some (.iaload, 1, none, [], 0, 0, 0, 0) := z_ftd (by decide +kernel)
theorem t232_54 : z_ft 232 54 = some (.ireturn, 1, none, [], 0, 0, 0, 0) := z_ftd (by decide +kernel)
theorem t232_55 : z_ft 232 55 = some (.aload_n 0, 1, none, [], 0, 0, 0, 0) := z_ftd (by decide +kernel)
theorem t232_56 : z_ft 232 56 = some (.iconst 0, 1, none, [], 0, 0, 0, 0) := z_ftd (by decide +kernel)
theorem t232_57 : z_ft 232 57 = some (.iload_n 1, 1, none, [], 0, 0, 0, 0) := z_ftd (by decide +kernel)
theorem t232_58 : z_ft 232 58 = some (.invokevirtual 426, 3, none, [], 207, 0, 138, 0) := z_ftd (by decide +kernel)
theorem t232_61 : z_ft 232 61 = some (.ifCond .eq 7, 3, none, [], 68, 0, 0, 0) := z_ftd (by decide +kernel)
theorem t232_64 : z_ft 232 64 = some (.iconst 1, 1, none, [], 0, 0, 0, 0) := z_ftd (by decide +kernel)
theorem t232_65 : z_ft 232 65 = some (.goto 4, 3, none, [], 69, 0, 0, 0) := z_ftd (by decide +kernel)
theorem t232_68 : z_ft 232 68 = some (.iconst 0, 1, none, [], 0, 0, 0, 0) := z_ftd (by decide +kernel)
theorem t232_69 : z_ft 232 69 = some (.ireturn, 1, (some []), [], 0, 0, 0, 0) := z_ftd (by decide +kernel)
theorem t232_70 : z_ft 232 70 = some (.aload_n 0, 1, none, [], 0, 0, 0, 0) := z_ftd (by decide +kernel)
theorem t232_71 : z_ft 232 71 = some (.iconst 0, 1, none, [], 0, 0, 0, 0) := z_ftd (by decide +kernel)
theorem t232_72 : z_ft 232 72 = some (.iload_n 1, 1, none, [], 0, 0, 0, 0) := z_ftd (by decide +kernel)
theorem t232_73 : z_ft 232 73 = some (.invokevirtual 429, 3, none, [], 208, 0, 137, 0) := z_ftd (by decide +kernel)
theorem t232_76 : z_ft 232 76 = some (.ifCond .eq 7, 3, none, [], 83, 0, 0, 0) := z_ftd (by decide +kernel)
theorem t232_79 : z_ft 232 79 = some (.iconst 1, 1, none, [], 0, 0, 0, 0) := z_ftd (by decide +kernel)
theorem t232_80 : z_ft 232 80 = some (.goto 4, 3, none, [], 84, 0, 0, 0) := z_ftd (by decide +kernel)
theorem t232_83 : z_ft 232 83 = some (.iconst 0, 1, none, [], 0, 0, 0, 0) := z_ftd (by decide +kernel)
theorem t232_84 : z_ft 232 84 = some (.ireturn, 1, (some []), [], 0, 0, 0, 0) := z_ftd (by decide +kernel)
theorem t232_85 : z_ft 232 85 = some (.iconst 0, 1, none, [], 0, 0, 0, 0) := z_ftd (by decide +kernel)
theorem t232_86 : z_ft 232 86 = some (.istore 4, 2, none, [], 0, 0, 0, 0) := z_ftd (by decide +kernel)
theorem t232_88 : z_ft 232 88 = some (.iload 4, 2, (some [0, 1, 3, 4]), [], 0, 0, 0, 0) := z_ftd (by decide +kernel)
theorem t232_90 : z_ft 232 90 = some (.aload_n 0, 1, none, [], 0, 0, 0, 0) := z_ftd (by decide +kernel)
theorem t232_91 : z_ft 232 91 = some (.getfield 66, 3, none, [], 12, 18, 19, 0) := z_ftd (by decide +kernel)
theorem t232_94 : z_ft 232 94 = some (.aload_n 0, 1, none, [], 0, 0, 0, 0) := z_ftd (by decide +kernel)
theorem t232_95 : z_ft 232 95 = some (.getfield 51, 3, none, [], 12, 13, 14, 0) := z_ftd (by decide +kernel)
theorem t232_98 : z_ft 232 98 = some (.iaload, 1, none, [], 0, 0, 0, 0) := z_ftd (by decide +kernel)
theorem t232_99 : z_ft 232 99 = some (.if_icmp .ge 37, 3, none, [], 136, 0, 0, 0) := z_ftd (by decide +kernel)
theorem t232_102 : z_ft 232 102 = some (.iload_n 3, 1, none, [], 0, 0, 0, 0) := z_ftd (by decide +kernel)
theorem t232_103 : z_ft 232 103 = some (.aload_n 0, 1, none, [], 0, 0, 0, 0) := z_ftd (by decide +kernel)
theorem t232_104 : z_ft 232 104 = some (.iload 4, 2, none, [], 0, 0, 0, 0) := z_ftd (by decide +kernel)
theorem t232_106 : z_ft 232 106 = some (.invokevirtual 432, 3, none, [], 210, 0, 135, 0) := z_ftd (by decide +kernel)
theorem t232_109 : z_ft 232 109 = some (.iload_n 1, 1, none, [], 0, 0, 0, 0) := z_ftd (by decide +kernel)
theorem t232_110 : z_ft 232 110 = some (.if_icmp .eq 13, 3, none, [], 123, 0, 0, 0) := z_ftd (by decide +kernel)
theorem t232_113 : z_ft 232 113 = some (.aload_n 0, 1, none, [], 0, 0, 0, 0) := z_ftd (by decide +kernel)
theorem t232_114 : z_ft 232 114 = some (.iload 4, 2, none, [], 0, 0, 0, 0) := z_ftd (by decide +kernel)
theorem t232_116 : z_ft 232 116 = some (.invokevirtual 435, 3, none, [], 211, 0, 136, 0) := z_ftd (by decide +kernel)
theorem t232_119 : z_ft 232 119 = some (.iload_n 1, 1, none, [], 0, 0, 0, 0) := z_ftd (by decide +kernel)
theorem t232_120 : z_ft 232 120 = some (.if_icmp .ne 7, 3, none, [], 127, 0, 0, 0) := z_ftd (by decide +kernel)
theorem t232_123 : z_ft 232 123 = some (.iconst 1, 1, (some [0, 1, 4]), [], 0, 0, 0, 0) := z_ftd (by decide +kernel)
theorem t232_124 : z_ft 232 124 = some (.goto 4, 3, none, [], 128, 0, 0, 0) := z_ftd (by decide +kernel)
theorem t232_127 : z_ft 232 127 = some (.iconst 0, 1, none, [], 0, 0, 0, 0) := z_ftd (by decide +kernel)
theorem t232_128 : z_ft 232 128 = some (.iadd, 1, (some [0, 1, 4]), [], 0, 0, 0, 0) := z_ftd (by decide +kernel)
theorem t232_129 : z_ft 232 129 = some (.istore_n 3, 1, none, [], 0, 0, 0, 0) := z_ftd (by decide +kernel)
theorem t232_130 : z_ft 232 130 = some (.iinc 4 1, 3, none, [], 0, 0, 0, 0) := z_ftd (by decide +kernel)
theorem t232_133 : z_ft 232 133 = some (.goto (-45), 3, none, [], 88, 0, 0, 0) := z_ftd (by decide +kernel)
theorem t232_136 : z_ft 232 136 = some (.iload_n 3, 1, none, [], 0, 0, 0, 0) := z_ftd (by decide +kernel)
theorem t232_137 : z_ft 232 137 = some (.ireturn, 1, none, [], 0, 0, 0, 0) := z_ftd (by decide +kernel)
theorem t232_138 : z_ft 232 138 = some (.aload_n 0, 1, none, [], 0, 0, 0, 0) := z_ftd (by decide +kernel)
theorem t232_139 : z_ft 232 139 = some (.iconst 0, 1, none, [], 0, 0, 0, 0) := z_ftd (by decide +kernel)
theorem t232_140 : z_ft 232 140 = some (.iload_n 1, 1, none, [], 0, 0, 0, 0) := z_ftd (by decide +kernel)
theorem t232_141 : z_ft 232 141 = some (.iconst 0, 1, none, [], 0, 0, 0, 0) := z_ftd (by decide +kernel)
theorem t232_142 : z_ft 232 142 = some (.invokevirtual 457, 3, none, [], 217, 0, 139, 0) := z_ftd (by decide +kernel)
theorem t232_145 : z_ft 232 145 = some (.ifCond .eq 7, 3, none, [], 152, 0, 0, 0) := z_ftd (by decide +kernel)
theorem t232_148 : z_ft 232 148 = some (.iconst 1, 1, none, [], 0, 0, 0, 0) := z_ftd (by decide +kernel)
theorem t232_149 : z_ft 232 149 = some (.goto 4, 3, none, [], 153, 0, 0, 0) := z_ftd (by decide +kernel)
theorem t232_152 : z_ft 232 152 = some (.iconst 0, 1, none, [], 0, 0, 0, 0) := z_ftd (by decide +kernel)
theorem t232_153 : z_ft 232 153 = some (.ireturn, 1, (some []), [], 0, 0, 0, 0) := z_ftd (by decide +kernel)
theorem t232_154 : z_ft 232 154 = some (.iconst (-1), 1, none, [], 0, 0, 0, 0) := z_ftd (by decide +kernel)
theorem t232_155 : z_ft 232 155 = some (.ireturn, 1, none, [], 0, 0, 0, 0) := z_ftd (by decide +kernel)
noncomputable def b232_88 (d : Nat) (y1 : Int32) (y3 : Int32) (y4 : Int32) (S : z_S) : Option (Int32 × z_S) := zk kI z_X0 d 232 88 [.ref 396, .int y1, z_j, .int y3, .int y4] [] S
noncomputable def b232_123 (d : Nat) (y1 : Int32) (y4 : Int32) (s0 : Int32) (S : z_S) : Option (Int32 × z_S) := zk kI z_X0 d 232 123 [.ref 396, .int y1, z_j, z_j, .int y4] [.int s0] S
noncomputable def b232_128 (d : Nat) (y1 : Int32) (y4 : Int32) (s0 : Int32) (s1 : Int32) (S : z_S) : Option (Int32 × z_S) := zk kI z_X0 d 232 128 [.ref 396, .int y1, z_j, z_j, .int y4] [.int s0, .int s1] S
theorem b232_88_eq (d : Nat) (y1 : Int32) (y3 : Int32) (y4 : Int32) (S : z_S) (hW : z_W S)  : b232_88 d y1 y3 y4 S = (if z_in (gI S 396 13) 2 then (if (gI S 402 ((gI S 396 13)).toNatClampNeg) ≤ y4 then some (y3, S) else (zb (fI d 210 [.ref 396, .int y4] S) fun v21 S22 => (if v21 = y1 then b232_123 d y1 y4 y3 S22 else (zb (fI d 211 [.ref 396, .int y4] S22) fun v24 S25 => (if ¬ v24 = y1 then b232_128 d y1 y4 (0 : Int32) y3 S25 else b232_123 d y1 y4 y3 S25))))) else none) := by
  unfold b232_88
  refine (k_iload t232_88 rfl rfl).trans ?_
  refine (k_aload_n t232_90 rfl rfl).trans ?_
  refine (k_getR t232_91 rfl hW zK_396 (by decide) (by decide) (zF_396_18 hW)).trans ?_
  refine (k_aload_n t232_94 rfl rfl).trans ?_
  refine (k_getI t232_95 rfl hW zK_396 (by decide) (by decide)).trans ?_
  refine (k_iald t232_98 rfl hW zK_402 zL_402).trans (z_ite (fun g19 => ?_) (fun _ => rfl))
  refine (k_icmp_ge t232_99 rfl).trans (z_ite (fun g20 => ?_) (fun g20 => ?_))
  · refine (k_iload_n t232_136 rfl rfl).trans ?_
    exact k_ireturn t232_137 rfl (by decide)
  · refine (k_iload_n t232_102 rfl rfl).trans ?_
    refine (k_aload_n t232_103 rfl rfl).trans ?_
    refine (k_iload t232_104 rfl rfl).trans ?_
    refine k_callI (as := [.ref 396, .int y4]) (rest := [.int y3]) t232_106 rfl rfl (by decide) rfl rfl (Nat.le_of_ble_eq_true rfl) rfl (z_rcV hW (zK_396) (by decide)) (by decide) (Or.inl (by decide)) hW (fun v21 S22 hW22 => ?_)
    refine (k_iload_n t232_109 rfl rfl).trans ?_
    refine (k_icmp_eq t232_110 rfl).trans (z_ite (fun g23 => ?_) (fun g23 => ?_))
    · exact (zk_mk (ls' := [.ref 396, .int y1, z_j, z_j, .int y4]) t232_123 rfl)
    · refine (k_aload_n t232_113 rfl rfl).trans ?_
      refine (k_iload t232_114 rfl rfl).trans ?_
      refine k_callI (as := [.ref 396, .int y4]) (rest := [.int y3]) t232_116 rfl rfl (by decide) rfl rfl (Nat.le_of_ble_eq_true rfl) rfl (z_rcV hW22 (zK_396) (by decide)) (by decide) (Or.inl (by decide)) hW22 (fun v24 S25 hW25 => ?_)
      refine (k_iload_n t232_119 rfl rfl).trans ?_
      refine (k_icmp_ne t232_120 rfl).trans (z_ite (fun g26 => ?_) (fun g26 => ?_))
      · refine (k_iconst t232_127 rfl zci_0).trans ?_
        exact (zk_mk (ls' := [.ref 396, .int y1, z_j, z_j, .int y4]) t232_128 rfl)
      · exact (zk_mk (ls' := [.ref 396, .int y1, z_j, z_j, .int y4]) t232_123 rfl)
theorem b232_123_eq (d : Nat) (y1 : Int32) (y4 : Int32) (s0 : Int32) (S : z_S) (hW : z_W S)  : b232_123 d y1 y4 s0 S = b232_128 d y1 y4 (1 : Int32) s0 S := by
  unfold b232_123
  refine (k_iconst t232_123 rfl zci_1).trans ?_
  refine (k_goto t232_124 rfl).trans ?_
  exact (zk_mk (ls' := [.ref 396, .int y1, z_j, z_j, .int y4]) t232_128 rfl)
theorem b232_128_eq (d : Nat) (y1 : Int32) (y4 : Int32) (s0 : Int32) (s1 : Int32) (S : z_S) (hW : z_W S)  : b232_128 d y1 y4 s0 s1 S = b232_88 d y1 (s1 + s0) (y4 + (1 : Int32)) S := by
  unfold b232_128
  refine (k_iadd t232_128 rfl).trans ?_
  refine (k_istore_n (ls' := [.ref 396, .int y1, z_j, .int (s1 + s0), .int y4]) t232_129 rfl rfl).trans ?_
  refine (k_iinc (b := (y4 + (1 : Int32))) (ls' := [.ref 396, .int y1, z_j, .int (s1 + s0), .int (y4 + (1 : Int32))]) t232_130 rfl rfl (by rw [zci_1]) rfl).trans ?_
  refine (k_goto t232_133 rfl).trans ?_
  exact (zk_mk (ls' := [.ref 396, .int y1, z_j, .int (s1 + s0), .int (y4 + (1 : Int32))]) t232_88 rfl)
-- X12_room
theorem e232 (d : Nat) (x1 : Int32) (x2 : Int32) (S : z_S) (hW : z_W S)  : fI (d + 1) 232 [.ref 396, .int x1, .int x2] S = (zb (fI d 227 [.ref 396, .int x1] S) fun v1 S2 => (if ¬ v1 = (0 : Int32) then (if x2 = (0 : Int32) then (if z_in x1 352 then some ((gI S2 423 (x1).toNatClampNeg), S2) else none) else (if x2 = (1 : Int32) then (zb (fI d 207 [.ref 396, .int (0 : Int32), .int x1] S2) fun v7 S8 => (if v7 = (0 : Int32) then some ((0 : Int32), S8) else some ((1 : Int32), S8))) else (if x2 = (2 : Int32) then (zb (fI d 208 [.ref 396, .int (0 : Int32), .int x1] S2) fun v11 S12 => (if v11 = (0 : Int32) then some ((0 : Int32), S12) else some ((1 : Int32), S12))) else (if x2 = (3 : Int32) then b232_88 d x1 (0 : Int32) (0 : Int32) S2 else (if x2 = (4 : Int32) then (zb (fI d 217 [.ref 396, .int (0 : Int32), .int x1, .int (0 : Int32)] S2) fun v16 S17 => (if v16 = (0 : Int32) then some ((0 : Int32), S17) else some ((1 : Int32), S17))) else some ((-1 : Int32), S2)))))) else some ((-1 : Int32), S2))) := by
  refine (fI_en (Nat.le_of_ble_eq_true rfl) rfl).trans ?_
  refine (k_aload_n t232_0 rfl rfl).trans ?_
  refine (k_iload_n t232_1 rfl rfl).trans ?_
  refine k_callI (as := [.ref 396, .int x1]) (rest := []) t232_2 rfl rfl (by decide) rfl rfl (Nat.le_of_ble_eq_true rfl) rfl (z_rcV hW (zK_396) (by decide)) (by decide) (Or.inr (by decide)) hW (fun v1 S2 hW2 => ?_)
  refine (k_if_ne t232_5 rfl).trans (z_ite (fun g3 => ?_) (fun g3 => ?_))
  · refine (k_iconst t232_10 rfl zci_0).trans ?_
    refine (k_istore_n (ls' := [.ref 396, .int x1, .int x2, .int (0 : Int32), z_j]) t232_11 rfl rfl).trans ?_
    refine (k_iload_n t232_12 rfl rfl).trans ?_
    refine (k_switch t232_13 rfl).trans ?_
    refine (zk_swC (n := (0 : Int32)) (lo' := 1) zci_0 rfl).trans (z_ite (fun g4 => ?_) (fun g4 => ?_))
    · refine (k_aload_n t232_48 rfl rfl).trans ?_
      refine (k_getR t232_49 rfl hW2 zK_396 (by decide) (by decide) (zF_396_47 hW2)).trans ?_
      refine (k_iload_n t232_52 rfl rfl).trans ?_
      refine (k_iald t232_53 rfl hW2 zK_423 zL_423).trans (z_ite (fun g5 => ?_) (fun _ => rfl))
      exact k_ireturn t232_54 rfl (by decide)
    refine (zk_swC (n := (1 : Int32)) (lo' := 2) zci_1 rfl).trans (z_ite (fun g6 => ?_) (fun g6 => ?_))
    · refine (k_aload_n t232_55 rfl rfl).trans ?_
      refine (k_iconst t232_56 rfl zci_0).trans ?_
      refine (k_iload_n t232_57 rfl rfl).trans ?_
      refine k_callI (as := [.ref 396, .int (0 : Int32), .int x1]) (rest := []) t232_58 rfl rfl (by decide) rfl rfl (Nat.le_of_ble_eq_true rfl) rfl (z_rcV hW2 (zK_396) (by decide)) (by decide) (Or.inr (by decide)) hW2 (fun v7 S8 hW8 => ?_)
      refine (k_if_eq t232_61 rfl).trans (z_ite (fun g9 => ?_) (fun g9 => ?_))
      · refine (k_iconst t232_68 rfl zci_0).trans ?_
        refine (zk_mk (ls' := [z_j, z_j, z_j, z_j, z_j]) t232_69 rfl).trans ?_
        exact k_ireturn t232_69 rfl (by decide)
      · refine (k_iconst t232_64 rfl zci_1).trans ?_
        refine (k_goto t232_65 rfl).trans ?_
        refine (zk_mk (ls' := [z_j, z_j, z_j, z_j, z_j]) t232_69 rfl).trans ?_
        exact k_ireturn t232_69 rfl (by decide)
    refine (zk_swC (n := (2 : Int32)) (lo' := 3) zci_2 rfl).trans (z_ite (fun g10 => ?_) (fun g10 => ?_))
    · refine (k_aload_n t232_70 rfl rfl).trans ?_
      refine (k_iconst t232_71 rfl zci_0).trans ?_
      refine (k_iload_n t232_72 rfl rfl).trans ?_
      refine k_callI (as := [.ref 396, .int (0 : Int32), .int x1]) (rest := []) t232_73 rfl rfl (by decide) rfl rfl (Nat.le_of_ble_eq_true rfl) rfl (z_rcV hW2 (zK_396) (by decide)) (by decide) (Or.inr (by decide)) hW2 (fun v11 S12 hW12 => ?_)
      refine (k_if_eq t232_76 rfl).trans (z_ite (fun g13 => ?_) (fun g13 => ?_))
      · refine (k_iconst t232_83 rfl zci_0).trans ?_
        refine (zk_mk (ls' := [z_j, z_j, z_j, z_j, z_j]) t232_84 rfl).trans ?_
        exact k_ireturn t232_84 rfl (by decide)
      · refine (k_iconst t232_79 rfl zci_1).trans ?_
        refine (k_goto t232_80 rfl).trans ?_
        refine (zk_mk (ls' := [z_j, z_j, z_j, z_j, z_j]) t232_84 rfl).trans ?_
        exact k_ireturn t232_84 rfl (by decide)
    refine (zk_swC (n := (3 : Int32)) (lo' := 4) zci_3 rfl).trans (z_ite (fun g14 => ?_) (fun g14 => ?_))
    · refine (k_iconst t232_85 rfl zci_0).trans ?_
      refine (k_istore (ls' := [.ref 396, .int x1, .int x2, .int (0 : Int32), .int (0 : Int32)]) t232_86 rfl rfl).trans ?_
      exact (zk_mk (ls' := [.ref 396, .int x1, z_j, .int (0 : Int32), .int (0 : Int32)]) t232_88 rfl)
    refine (zk_swC (n := (4 : Int32)) (lo' := 5) zci_4 rfl).trans (z_ite (fun g15 => ?_) (fun g15 => ?_))
    · refine (k_aload_n t232_138 rfl rfl).trans ?_
      refine (k_iconst t232_139 rfl zci_0).trans ?_
      refine (k_iload_n t232_140 rfl rfl).trans ?_
      refine (k_iconst t232_141 rfl zci_0).trans ?_
      refine k_callI (as := [.ref 396, .int (0 : Int32), .int x1, .int (0 : Int32)]) (rest := []) t232_142 rfl rfl (by decide) rfl rfl (Nat.le_of_ble_eq_true rfl) rfl (z_rcV hW2 (zK_396) (by decide)) (by decide) (Or.inr (by decide)) hW2 (fun v16 S17 hW17 => ?_)
      refine (k_if_eq t232_145 rfl).trans (z_ite (fun g18 => ?_) (fun g18 => ?_))
      · refine (k_iconst t232_152 rfl zci_0).trans ?_
        refine (zk_mk (ls' := [z_j, z_j, z_j, z_j, z_j]) t232_153 rfl).trans ?_
        exact k_ireturn t232_153 rfl (by decide)
      · refine (k_iconst t232_148 rfl zci_1).trans ?_
        refine (k_goto t232_149 rfl).trans ?_
        refine (zk_mk (ls' := [z_j, z_j, z_j, z_j, z_j]) t232_153 rfl).trans ?_
        exact k_ireturn t232_153 rfl (by decide)
    refine (k_iconst t232_154 rfl zci_m1).trans ?_
    exact k_ireturn t232_155 rfl (by decide)
  · refine (k_iconst t232_8 rfl zci_m1).trans ?_
    exact k_ireturn t232_9 rfl (by decide)
theorem t233_0 : z_ft 233 0 = some (.aload_n 0, 1, none, [], 0, 0, 0, 0) := z_ftd (by decide +kernel)
theorem t233_1 : z_ft 233 1 = some (.iload_n 1, 1, none, [], 0, 0, 0, 0) := z_ftd (by decide +kernel)
theorem t233_2 : z_ft 233 2 = some (.invokevirtual 495, 3, none, [], 228, 0, 156, 0) := z_ftd (by decide +kernel)
theorem t233_5 : z_ft 233 5 = some (.ifCond .ne 5, 3, none, [], 10, 0, 0, 0) := z_ftd (by decide +kernel)
theorem t233_8 : z_ft 233 8 = some (.iconst (-1), 1, none, [], 0, 0, 0, 0) := z_ftd (by decide +kernel)
theorem t233_9 : z_ft 233 9 = some (.ireturn, 1, none, [], 0, 0, 0, 0) := z_ftd (by decide +kernel)
theorem t233_10 : z_ft 233 10 = some (.iload_n 2, 1, none, [], 0, 0, 0, 0) := z_ftd (by decide +kernel)
theorem t233_11 : z_ft 233 11 = some (.tableswitch 66 0 4 #[33, 39, 45, 52, 59], 33, none, [44, 50, 56, 63, 70], 77, 0, 0, 0) := z_ftd (by decide +kernel)
theorem t233_44 : z_ft 233 44 = some (.aload_n 0, 1, none, [], 0, 0, 0, 0) := z_ftd (by decide +kernel)
theorem t233_45 : z_ft 233 45 = some (.iload_n 1, 1, none, [], 0, 0, 0, 0) := z_ftd (by decide +kernel)
theorem t233_46 : z_ft 233 46 = some (.invokevirtual 432, 3, none, [], 210, 0, 135, 0) := z_ftd (by decide +kernel)
theorem t233_49 : z_ft 233 49 = some (.ireturn, 1, none, [], 0, 0, 0, 0) := z_ftd (by decide +kernel)
theorem t233_50 : z_ft 233 50 = some (.aload_n 0, 1, none, [], 0, 0, 0, 0) := z_ftd (by decide +kernel)
theorem t233_51 : z_ft 233 51 = some (.iload_n 1, 1, none, [], 0, 0, 0, 0) := z_ftd (by decide +kernel)
theorem t233_52 : z_ft 233 52 = some (.invokevirtual 435, 3, none, [], 211, 0, 136, 0) := z_ftd (by decide +kernel)
theorem t233_55 : z_ft 233 55 = some (.ireturn, 1, none, [], 0, 0, 0, 0) := z_ftd (by decide +kernel)
theorem t233_56 : z_ft 233 56 = some (.aload_n 0, 1, none, [], 0, 0, 0, 0) := z_ftd (by decide +kernel)
theorem t233_57 : z_ft 233 57 = some (.iconst 0, 1, none, [], 0, 0, 0, 0) := z_ftd (by decide +kernel)
theorem t233_58 : z_ft 233 58 = some (.iload_n 1, 1, none, [], 0, 0, 0, 0) := z_ftd (by decide +kernel)
theorem t233_59 : z_ft 233 59 = some (.invokevirtual 438, 3, none, [], 213, 0, 159, 0) := z_ftd (by decide +kernel)
theorem t233_62 : z_ft 233 62 = some (.ireturn, 1, none, [], 0, 0, 0, 0) := z_ftd (by decide +kernel)
theorem t233_63 : z_ft 233 63 = some (.aload_n 0, 1, none, [], 0, 0, 0, 0) := z_ftd (by decide +kernel)
theorem t233_64 : z_ft 233 64 = some (.getfield 159, 3, none, [], 12, 48, 49, 0) := z_ftd (by decide +kernel)
theorem t233_67 : z_ft 233 67 = some (.iload_n 1, 1, none, [], 0, 0, 0, 0) := z_ftd (by decide +kernel)
theorem t233_68 : z_ft 233 68 = some (.iaload, 1, none, [], 0, 0, 0, 0) := z_ftd (by decide +kernel)
theorem t233_69 : z_ft 233 69 = some (.ireturn, 1, none, [], 0, 0, 0, 0) := z_ftd (by decide +kernel)
theorem t233_70 : z_ft 233 70 = some (.aload_n 0, 1, none, [], 0, 0, 0, 0) := z_ftd (by decide +kernel)
theorem t233_71 : z_ft 233 71 = some (.iconst 0, 1, none, [], 0, 0, 0, 0) := z_ftd (by decide +kernel)
theorem t233_72 : z_ft 233 72 = some (.iload_n 1, 1, none, [], 0, 0, 0, 0) := z_ftd (by decide +kernel)
theorem t233_73 : z_ft 233 73 = some (.invokevirtual 441, 3, none, [], 214, 0, 160, 0) := z_ftd (by decide +kernel)
theorem t233_76 : z_ft 233 76 = some (.ireturn, 1, none, [], 0, 0, 0, 0) := z_ftd (by decide +kernel)
theorem t233_77 : z_ft 233 77 = some (.iconst (-1), 1, none, [], 0, 0, 0, 0) := z_ftd (by decide +kernel)
theorem t233_78 : z_ft 233 78 = some (.ireturn, 1, none, [], 0, 0, 0, 0) := z_ftd (by decide +kernel)
-- X12_lodger
theorem e233 (d : Nat) (x1 : Int32) (x2 : Int32) (S : z_S) (hW : z_W S)  : fI (d + 1) 233 [.ref 396, .int x1, .int x2] S = (zb (fI d 228 [.ref 396, .int x1] S) fun v1 S2 => (if ¬ v1 = (0 : Int32) then (if x2 = (0 : Int32) then (zb (fI d 210 [.ref 396, .int x1] S2) fun v5 S6 => some (v5, S6)) else (if x2 = (1 : Int32) then (zb (fI d 211 [.ref 396, .int x1] S2) fun v8 S9 => some (v8, S9)) else (if x2 = (2 : Int32) then (zb (fI d 213 [.ref 396, .int (0 : Int32), .int x1] S2) fun v11 S12 => some (v11, S12)) else (if x2 = (3 : Int32) then (if z_in x1 352 then some ((gI S2 424 (x1).toNatClampNeg), S2) else none) else (if x2 = (4 : Int32) then (zb (fI d 214 [.ref 396, .int (0 : Int32), .int x1] S2) fun v16 S17 => some (v16, S17)) else some ((-1 : Int32), S2)))))) else some ((-1 : Int32), S2))) := by
  refine (fI_en (Nat.le_of_ble_eq_true rfl) rfl).trans ?_
  refine (k_aload_n t233_0 rfl rfl).trans ?_
  refine (k_iload_n t233_1 rfl rfl).trans ?_
  refine k_callI (as := [.ref 396, .int x1]) (rest := []) t233_2 rfl rfl (by decide) rfl rfl (Nat.le_of_ble_eq_true rfl) rfl (z_rcV hW (zK_396) (by decide)) (by decide) (Or.inr (by decide)) hW (fun v1 S2 hW2 => ?_)
  refine (k_if_ne t233_5 rfl).trans (z_ite (fun g3 => ?_) (fun g3 => ?_))
  · refine (k_iload_n t233_10 rfl rfl).trans ?_
    refine (k_switch t233_11 rfl).trans ?_
    refine (zk_swC (n := (0 : Int32)) (lo' := 1) zci_0 rfl).trans (z_ite (fun g4 => ?_) (fun g4 => ?_))
    · refine (k_aload_n t233_44 rfl rfl).trans ?_
      refine (k_iload_n t233_45 rfl rfl).trans ?_
      refine k_callI (as := [.ref 396, .int x1]) (rest := []) t233_46 rfl rfl (by decide) rfl rfl (Nat.le_of_ble_eq_true rfl) rfl (z_rcV hW2 (zK_396) (by decide)) (by decide) (Or.inl (by decide)) hW2 (fun v5 S6 hW6 => ?_)
      exact k_ireturn t233_49 rfl (by decide)
    refine (zk_swC (n := (1 : Int32)) (lo' := 2) zci_1 rfl).trans (z_ite (fun g7 => ?_) (fun g7 => ?_))
    · refine (k_aload_n t233_50 rfl rfl).trans ?_
      refine (k_iload_n t233_51 rfl rfl).trans ?_
      refine k_callI (as := [.ref 396, .int x1]) (rest := []) t233_52 rfl rfl (by decide) rfl rfl (Nat.le_of_ble_eq_true rfl) rfl (z_rcV hW2 (zK_396) (by decide)) (by decide) (Or.inl (by decide)) hW2 (fun v8 S9 hW9 => ?_)
      exact k_ireturn t233_55 rfl (by decide)
    refine (zk_swC (n := (2 : Int32)) (lo' := 3) zci_2 rfl).trans (z_ite (fun g10 => ?_) (fun g10 => ?_))
    · refine (k_aload_n t233_56 rfl rfl).trans ?_
      refine (k_iconst t233_57 rfl zci_0).trans ?_
      refine (k_iload_n t233_58 rfl rfl).trans ?_
      refine k_callI (as := [.ref 396, .int (0 : Int32), .int x1]) (rest := []) t233_59 rfl rfl (by decide) rfl rfl (Nat.le_of_ble_eq_true rfl) rfl (z_rcV hW2 (zK_396) (by decide)) (by decide) (Or.inl (by decide)) hW2 (fun v11 S12 hW12 => ?_)
      exact k_ireturn t233_62 rfl (by decide)
    refine (zk_swC (n := (3 : Int32)) (lo' := 4) zci_3 rfl).trans (z_ite (fun g13 => ?_) (fun g13 => ?_))
    · refine (k_aload_n t233_63 rfl rfl).trans ?_
      refine (k_getR t233_64 rfl hW2 zK_396 (by decide) (by decide) (zF_396_48 hW2)).trans ?_
      refine (k_iload_n t233_67 rfl rfl).trans ?_
      refine (k_iald t233_68 rfl hW2 zK_424 zL_424).trans (z_ite (fun g14 => ?_) (fun _ => rfl))
      exact k_ireturn t233_69 rfl (by decide)
    refine (zk_swC (n := (4 : Int32)) (lo' := 5) zci_4 rfl).trans (z_ite (fun g15 => ?_) (fun g15 => ?_))
    · refine (k_aload_n t233_70 rfl rfl).trans ?_
      refine (k_iconst t233_71 rfl zci_0).trans ?_
      refine (k_iload_n t233_72 rfl rfl).trans ?_
      refine k_callI (as := [.ref 396, .int (0 : Int32), .int x1]) (rest := []) t233_73 rfl rfl (by decide) rfl rfl (Nat.le_of_ble_eq_true rfl) rfl (z_rcV hW2 (zK_396) (by decide)) (by decide) (Or.inl (by decide)) hW2 (fun v16 S17 hW17 => ?_)
      exact k_ireturn t233_76 rfl (by decide)
    refine (k_iconst t233_77 rfl zci_m1).trans ?_
    exact k_ireturn t233_78 rfl (by decide)
  · refine (k_iconst t233_8 rfl zci_m1).trans ?_
    exact k_ireturn t233_9 rfl (by decide)
theorem t234_0 : z_ft 234 0 = some (.iload_n 1, 1, none, [], 0, 0, 0, 0) := z_ftd (by decide +kernel)
theorem t234_1 : z_ft 234 1 = some (.iconst 0, 1, none, [], 0, 0, 0, 0) := z_ftd (by decide +kernel)
theorem t234_2 : z_ft 234 2 = some (.aload_n 0, 1, none, [], 0, 0, 0, 0) := z_ftd (by decide +kernel)
theorem t234_3 : z_ft 234 3 = some (.getfield 162, 3, none, [], 12, 49, 50, 0) := z_ftd (by decide +kernel)
theorem t234_6 : z_ft 234 6 = some (.iconst 0, 1, none, [], 0, 0, 0, 0) := z_ftd (by decide +kernel)
theorem t234_7 : z_ft 234 7 = some (.iaload, 1, none, [], 0, 0, 0, 0) := z_ftd (by decide +kernel)
theorem t234_8 : z_ft 234 8 = some (.iconst 1, 1, none, [], 0, 0, 0, 0) := z_ftd (by decide +kernel)
theorem t234_9 : z_ft 234 9 = some (.isub, 1, none, [], 0, 0, 0, 0) := z_ftd (by decide +kernel)
theorem t234_10 : z_ft 234 10 = some (.invokestatic 307, 3, none, [], 155, 0, 85, 0) := z_ftd (by decide +kernel)
theorem t234_13 : z_ft 234 13 = some (.ifCond .eq 12, 3, none, [], 25, 0, 0, 0) := z_ftd (by decide +kernel)
theorem t234_16 : z_ft 234 16 = some (.aload_n 0, 1, none, [], 0, 0, 0, 0) := z_ftd (by decide +kernel)
theorem t234_17 : z_ft 234 17 = some (.getfield 165, 3, none, [], 12, 50, 51, 0) := z_ftd (by decide +kernel)
theorem t234_20 : z_ft 234 20 = some (.iload_n 1, 1, none, [], 0, 0, 0, 0) := z_ftd (by decide +kernel)
theorem t234_21 : z_ft 234 21 = some (.iaload, 1, none, [], 0, 0, 0, 0) := z_ftd (by decide +kernel)
theorem t234_22 : z_ft 234 22 = some (.goto 4, 3, none, [], 26, 0, 0, 0) := z_ftd (by decide +kernel)
theorem t234_25 : z_ft 234 25 = some (.iconst (-1), 1, none, [], 0, 0, 0, 0) := z_ftd (by decide +kernel)
theorem t234_26 : z_ft 234 26 = some (.ireturn, 1, (some []), [], 0, 0, 0, 0) := z_ftd (by decide +kernel)
-- X12_bench
theorem e234 (d : Nat) (x1 : Int32) (S : z_S) (hW : z_W S)  : fI (d + 1) 234 [.ref 396, .int x1] S = (if z_in (0 : Int32) 22 then (zb (fI d 155 [.int x1, .int (0 : Int32), .int ((gI S 425 ((0 : Int32)).toNatClampNeg) - (1 : Int32))] S) fun v2 S3 => (if v2 = (0 : Int32) then some ((-1 : Int32), S3) else (if z_in x1 132 then some ((gI S3 426 (x1).toNatClampNeg), S3) else none))) else none) := by
  refine (fI_en (Nat.le_of_ble_eq_true rfl) rfl).trans ?_
  refine (k_iload_n t234_0 rfl rfl).trans ?_
  refine (k_iconst t234_1 rfl zci_0).trans ?_
  refine (k_aload_n t234_2 rfl rfl).trans ?_
  refine (k_getR t234_3 rfl hW zK_396 (by decide) (by decide) (zF_396_49 hW)).trans ?_
  refine (k_iconst t234_6 rfl zci_0).trans ?_
  refine (k_iald t234_7 rfl hW zK_425 zL_425).trans (z_ite (fun g1 => ?_) (fun _ => rfl))
  refine (k_iconst t234_8 rfl zci_1).trans ?_
  refine (k_isub t234_9 rfl).trans ?_
  refine k_callI (as := [.int x1, .int (0 : Int32), .int ((gI S 425 ((0 : Int32)).toNatClampNeg) - (1 : Int32))]) (rest := []) t234_10 rfl rfl (by decide) rfl rfl (Nat.le_of_ble_eq_true rfl) rfl (z_rcS (by decide)) (by decide) (Or.inr (by decide)) hW (fun v2 S3 hW3 => ?_)
  refine (k_if_eq t234_13 rfl).trans (z_ite (fun g4 => ?_) (fun g4 => ?_))
  · refine (k_iconst t234_25 rfl zci_m1).trans ?_
    refine (zk_mk (ls' := [z_j, z_j]) t234_26 rfl).trans ?_
    exact k_ireturn t234_26 rfl (by decide)
  · refine (k_aload_n t234_16 rfl rfl).trans ?_
    refine (k_getR t234_17 rfl hW3 zK_396 (by decide) (by decide) (zF_396_50 hW3)).trans ?_
    refine (k_iload_n t234_20 rfl rfl).trans ?_
    refine (k_iald t234_21 rfl hW3 zK_426 zL_426).trans (z_ite (fun g5 => ?_) (fun _ => rfl))
    refine (k_goto t234_22 rfl).trans ?_
    refine (zk_mk (ls' := [z_j, z_j]) t234_26 rfl).trans ?_
    exact k_ireturn t234_26 rfl (by decide)
theorem t235_0 : z_ft 235 0 = some (.aload_n 0, 1, none, [], 0, 0, 0, 0) := z_ftd (by decide +kernel)
theorem t235_1 : z_ft 235 1 = some (.getfield 141, 3, none, [], 12, 42, 43, 0) := z_ftd (by decide +kernel)
theorem t235_4 : z_ft 235 4 = some (.ifCond .eq 30, 3, none, [], 34, 0, 0, 0) := z_ftd (by decide +kernel)
theorem t235_7 : z_ft 235 7 = some (.iload_n 1, 1, none, [], 0, 0, 0, 0) := z_ftd (by decide +kernel)
theorem t235_8 : z_ft 235 8 = some (.iload_n 2, 1, none, [], 0, 0, 0, 0) := z_ftd (by decide +kernel)
theorem t235_9 : z_ft 235 9 = some (.iload_n 3, 1, none, [], 0, 0, 0, 0) := z_ftd (by decide +kernel)
theorem t235_10 : z_ft 235 10 = some (.invokestatic 307, 3, none, [], 155, 0, 85, 0) := z_ftd (by decide +kernel)
theorem t235_13 : z_ft 235 13 = some (.ifCond .eq 21, 3, none, [], 34, 0, 0, 0) := z_ftd (by decide +kernel)
theorem t235_16 : z_ft 235 16 = some (.aload_n 0, 1, none, [], 0, 0, 0, 0) := z_ftd (by decide +kernel)
theorem t235_17 : z_ft 235 17 = some (.getfield 147, 3, none, [], 12, 44, 45, 0) := z_ftd (by decide +kernel)
theorem t235_20 : z_ft 235 20 = some (.iconst 0, 1, none, [], 0, 0, 0, 0) := z_ftd (by decide +kernel)
theorem t235_21 : z_ft 235 21 = some (.iaload, 1, none, [], 0, 0, 0, 0) := z_ftd (by decide +kernel)
theorem t235_22 : z_ft 235 22 = some (.sipush 999, 3, none, [], 0, 0, 0, 0) := z_ftd (by decide +kernel)
theorem t235_25 : z_ft 235 25 = some (.iload_n 1, 1, none, [], 0, 0, 0, 0) := z_ftd (by decide +kernel)
theorem t235_26 : z_ft 235 26 = some (.isub, 1, none, [], 0, 0, 0, 0) := z_ftd (by decide +kernel)
theorem t235_27 : z_ft 235 27 = some (.if_icmp .gt 7, 3, none, [], 34, 0, 0, 0) := z_ftd (by decide +kernel)
theorem t235_30 : z_ft 235 30 = some (.iconst 1, 1, none, [], 0, 0, 0, 0) := z_ftd (by decide +kernel)
theorem t235_31 : z_ft 235 31 = some (.goto 4, 3, none, [], 35, 0, 0, 0) := z_ftd (by decide +kernel)
theorem t235_34 : z_ft 235 34 = some (.iconst 0, 1, (some []), [], 0, 0, 0, 0) := z_ftd (by decide +kernel)
theorem t235_35 : z_ft 235 35 = some (.ireturn, 1, (some []), [], 0, 0, 0, 0) := z_ftd (by decide +kernel)
noncomputable def b235_34 (d : Nat)  (S : z_S) : Option (Int32 × z_S) := zk kI z_X0 d 235 34 [z_j, z_j, z_j, z_j] [] S
theorem b235_34_eq (d : Nat)  (S : z_S) (hW : z_W S)  : b235_34 d  S = some ((0 : Int32), S) := by
  unfold b235_34
  refine (k_iconst t235_34 rfl zci_0).trans ?_
  refine (zk_mk (ls' := [z_j, z_j, z_j, z_j]) t235_35 rfl).trans ?_
  exact k_zretC t235_35 rfl (by decide) (by decide)
-- X12_isAhead
theorem e235 (d : Nat) (x1 : Int32) (x2 : Int32) (x3 : Int32) (S : z_S) (hW : z_W S)  : fI (d + 1) 235 [.ref 396, .int x1, .int x2, .int x3] S = (if (gI S 396 42) = (0 : Int32) then b235_34 d S else (zb (fI d 155 [.int x1, .int x2, .int x3] S) fun v2 S3 => (if v2 = (0 : Int32) then b235_34 d S3 else (if z_in (0 : Int32) 22 then (if ((999 : Int32) - x1) < (gI S3 420 ((0 : Int32)).toNatClampNeg) then b235_34 d S3 else some ((1 : Int32), S3)) else none)))) := by
  refine (fI_en (Nat.le_of_ble_eq_true rfl) rfl).trans ?_
  refine (k_aload_n t235_0 rfl rfl).trans ?_
  refine (k_getI t235_1 rfl hW zK_396 (by decide) (by decide)).trans ?_
  refine (k_if_eq t235_4 rfl).trans (z_ite (fun g1 => ?_) (fun g1 => ?_))
  · exact (zk_mk (ls' := [z_j, z_j, z_j, z_j]) t235_34 rfl)
  · refine (k_iload_n t235_7 rfl rfl).trans ?_
    refine (k_iload_n t235_8 rfl rfl).trans ?_
    refine (k_iload_n t235_9 rfl rfl).trans ?_
    refine k_callI (as := [.int x1, .int x2, .int x3]) (rest := []) t235_10 rfl rfl (by decide) rfl rfl (Nat.le_of_ble_eq_true rfl) rfl (z_rcS (by decide)) (by decide) (Or.inr (by decide)) hW (fun v2 S3 hW3 => ?_)
    refine (k_if_eq t235_13 rfl).trans (z_ite (fun g4 => ?_) (fun g4 => ?_))
    · exact (zk_mk (ls' := [z_j, z_j, z_j, z_j]) t235_34 rfl)
    · refine (k_aload_n t235_16 rfl rfl).trans ?_
      refine (k_getR t235_17 rfl hW3 zK_396 (by decide) (by decide) (zF_396_44 hW3)).trans ?_
      refine (k_iconst t235_20 rfl zci_0).trans ?_
      refine (k_iald t235_21 rfl hW3 zK_420 zL_420).trans (z_ite (fun g5 => ?_) (fun _ => rfl))
      refine (k_sipush t235_22 rfl zcs_999).trans ?_
      refine (k_iload_n t235_25 rfl rfl).trans ?_
      refine (k_isub t235_26 rfl).trans ?_
      refine (k_icmp_gt t235_27 rfl).trans (z_ite (fun g6 => ?_) (fun g6 => ?_))
      · exact (zk_mk (ls' := [z_j, z_j, z_j, z_j]) t235_34 rfl)
      · refine (k_iconst t235_30 rfl zci_1).trans ?_
        refine (k_goto t235_31 rfl).trans ?_
        refine (zk_mk (ls' := [z_j, z_j, z_j, z_j]) t235_35 rfl).trans ?_
        exact k_zretC t235_35 rfl (by decide) (by decide)
theorem t236_0 : z_ft 236 0 = some (.iconst 0, 1, none, [], 0, 0, 0, 0) := z_ftd (by decide +kernel)
theorem t236_1 : z_ft 236 1 = some (.istore_n 2, 1, none, [], 0, 0, 0, 0) := z_ftd (by decide +kernel)
theorem t236_2 : z_ft 236 2 = some (.iload_n 2, 1, (some [0, 1, 2]), [], 0, 0, 0, 0) := z_ftd (by decide +kernel)
theorem t236_3 : z_ft 236 3 = some (.iload_n 1, 1, none, [], 0, 0, 0, 0) := z_ftd (by decide +kernel)
theorem t236_4 : z_ft 236 4 = some (.if_icmp .ge 15, 3, none, [], 19, 0, 0, 0) := z_ftd (by decide +kernel)
theorem t236_7 : z_ft 236 7 = some (.aload_n 0, 1, none, [], 0, 0, 0, 0) := z_ftd (by decide +kernel)
theorem t236_8 : z_ft 236 8 = some (.iconst 1, 1, none, [], 0, 0, 0, 0) := z_ftd (by decide +kernel)
theorem t236_9 : z_ft 236 9 = some (.invokevirtual 503, 3, none, [], 226, 0, 164, 0) := z_ftd (by decide +kernel)
theorem t236_12 : z_ft 236 12 = some (.pop, 1, none, [], 0, 0, 0, 0) := z_ftd (by decide +kernel)
theorem t236_13 : z_ft 236 13 = some (.iinc 2 1, 3, none, [], 0, 0, 0, 0) := z_ftd (by decide +kernel)
theorem t236_16 : z_ft 236 16 = some (.goto (-14), 3, none, [], 2, 0, 0, 0) := z_ftd (by decide +kernel)
theorem t236_19 : z_ft 236 19 = some (.return_, 1, none, [], 0, 0, 0, 0) := z_ftd (by decide +kernel)
noncomputable def b236_2 (d : Nat) (y1 : Int32) (y2 : Int32) (S : z_S) : Option z_S := zk kV z_X0 d 236 2 [.ref 396, .int y1, .int y2] [] S
theorem b236_2_eq (d : Nat) (y1 : Int32) (y2 : Int32) (S : z_S) (hW : z_W S)  : b236_2 d y1 y2 S = (if y1 ≤ y2 then some S else (zb (fI d 226 [.ref 396, .int (1 : Int32)] S) fun v2 S3 => b236_2 d y1 (y2 + (1 : Int32)) S3)) := by
  unfold b236_2
  refine (k_iload_n t236_2 rfl rfl).trans ?_
  refine (k_iload_n t236_3 rfl rfl).trans ?_
  refine (k_icmp_ge t236_4 rfl).trans (z_ite (fun g1 => ?_) (fun g1 => ?_))
  · exact k_return t236_19 rfl (by decide)
  · refine (k_aload_n t236_7 rfl rfl).trans ?_
    refine (k_iconst t236_8 rfl zci_1).trans ?_
    refine k_callI (as := [.ref 396, .int (1 : Int32)]) (rest := []) t236_9 rfl rfl (by decide) rfl rfl (Nat.le_of_ble_eq_true rfl) rfl (z_rcV hW (zK_396) (by decide)) (by decide) (Or.inl (by decide)) hW (fun v2 S3 hW3 => ?_)
    refine (k_popI t236_12 rfl).trans ?_
    refine (k_iinc (b := (y2 + (1 : Int32))) (ls' := [.ref 396, .int y1, .int (y2 + (1 : Int32))]) t236_13 rfl rfl (by rw [zci_1]) rfl).trans ?_
    refine (k_goto t236_16 rfl).trans ?_
    exact (zk_mk (ls' := [.ref 396, .int y1, .int (y2 + (1 : Int32))]) t236_2 rfl)
-- X12_runsOn
theorem e236 (d : Nat) (x1 : Int32) (S : z_S) (hW : z_W S)  : fV (d + 1) 236 [.ref 396, .int x1] S = b236_2 d x1 (0 : Int32) S := by
  refine (fV_en (Nat.le_of_ble_eq_true rfl) rfl).trans ?_
  refine (k_iconst t236_0 rfl zci_0).trans ?_
  refine (k_istore_n (ls' := [.ref 396, .int x1, .int (0 : Int32)]) t236_1 rfl rfl).trans ?_
  exact (zk_mk (ls' := [.ref 396, .int x1, .int (0 : Int32)]) t236_2 rfl)
theorem t237_0 : z_ft 237 0 = some (.aload_n 0, 1, none, [], 0, 0, 0, 0) := z_ftd (by decide +kernel)
theorem t237_1 : z_ft 237 1 = some (.iload_n 1, 1, none, [], 0, 0, 0, 0) := z_ftd (by decide +kernel)
theorem t237_2 : z_ft 237 2 = some (.invokevirtual 495, 3, none, [], 228, 0, 156, 0) := z_ftd (by decide +kernel)
theorem t237_5 : z_ft 237 5 = some (.ifCond .eq 17, 3, none, [], 22, 0, 0, 0) := z_ftd (by decide +kernel)
theorem t237_8 : z_ft 237 8 = some (.aload_n 0, 1, none, [], 0, 0, 0, 0) := z_ftd (by decide +kernel)
theorem t237_9 : z_ft 237 9 = some (.iconst 0, 1, none, [], 0, 0, 0, 0) := z_ftd (by decide +kernel)
theorem t237_10 : z_ft 237 10 = some (.iload_n 1, 1, none, [], 0, 0, 0, 0) := z_ftd (by decide +kernel)
theorem t237_11 : z_ft 237 11 = some (.invokevirtual 506, 3, none, [], 215, 0, 161, 0) := z_ftd (by decide +kernel)
theorem t237_14 : z_ft 237 14 = some (.ifCond .eq 8, 3, none, [], 22, 0, 0, 0) := z_ftd (by decide +kernel)
theorem t237_17 : z_ft 237 17 = some (.iload_n 2, 1, none, [], 0, 0, 0, 0) := z_ftd (by decide +kernel)
theorem t237_18 : z_ft 237 18 = some (.iconst (-1), 1, none, [], 0, 0, 0, 0) := z_ftd (by decide +kernel)
theorem t237_19 : z_ft 237 19 = some (.if_icmp .ge 5, 3, none, [], 24, 0, 0, 0) := z_ftd (by decide +kernel)
theorem t237_22 : z_ft 237 22 = some (.iconst (-1), 1, (some []), [], 0, 0, 0, 0) := z_ftd (by decide +kernel)
theorem t237_23 : z_ft 237 23 = some (.ireturn, 1, none, [], 0, 0, 0, 0) := z_ftd (by decide +kernel)
theorem t237_24 : z_ft 237 24 = some (.aload_n 0, 1, none, [], 0, 0, 0, 0) := z_ftd (by decide +kernel)
theorem t237_25 : z_ft 237 25 = some (.iconst 1, 1, none, [], 0, 0, 0, 0) := z_ftd (by decide +kernel)
theorem t237_26 : z_ft 237 26 = some (.iconst 0, 1, none, [], 0, 0, 0, 0) := z_ftd (by decide +kernel)
theorem t237_27 : z_ft 237 27 = some (.invokevirtual 407, 3, none, [], 196, 0, 153, 0) := z_ftd (by decide +kernel)
theorem t237_30 : z_ft 237 30 = some (.aload_n 0, 1, none, [], 0, 0, 0, 0) := z_ftd (by decide +kernel)
theorem t237_31 : z_ft 237 31 = some (.iconst 1, 1, none, [], 0, 0, 0, 0) := z_ftd (by decide +kernel)
theorem t237_32 : z_ft 237 32 = some (.iload_n 1, 1, none, [], 0, 0, 0, 0) := z_ftd (by decide +kernel)
theorem t237_33 : z_ft 237 33 = some (.invokevirtual 401, 3, none, [], 220, 0, 134, 0) := z_ftd (by decide +kernel)
theorem t237_36 : z_ft 237 36 = some (.istore_n 3, 1, none, [], 0, 0, 0, 0) := z_ftd (by decide +kernel)
theorem t237_37 : z_ft 237 37 = some (.iload_n 2, 1, none, [], 0, 0, 0, 0) := z_ftd (by decide +kernel)
theorem t237_38 : z_ft 237 38 = some (.iconst (-1), 1, none, [], 0, 0, 0, 0) := z_ftd (by decide +kernel)
theorem t237_39 : z_ft 237 39 = some (.if_icmp .ne 7, 3, none, [], 46, 0, 0, 0) := z_ftd (by decide +kernel)
theorem t237_42 : z_ft 237 42 = some (.iload_n 3, 1, none, [], 0, 0, 0, 0) := z_ftd (by decide +kernel)
theorem t237_43 : z_ft 237 43 = some (.goto 18, 3, none, [], 61, 0, 0, 0) := z_ftd (by decide +kernel)
theorem t237_46 : z_ft 237 46 = some (.iload_n 2, 1, none, [], 0, 0, 0, 0) := z_ftd (by decide +kernel)
theorem t237_47 : z_ft 237 47 = some (.iload_n 3, 1, none, [], 0, 0, 0, 0) := z_ftd (by decide +kernel)
theorem t237_48 : z_ft 237 48 = some (.if_icmp .ge 12, 3, none, [], 60, 0, 0, 0) := z_ftd (by decide +kernel)
theorem t237_51 : z_ft 237 51 = some (.aload_n 0, 1, none, [], 0, 0, 0, 0) := z_ftd (by decide +kernel)
theorem t237_52 : z_ft 237 52 = some (.getfield 192, 3, none, [], 12, 59, 60, 0) := z_ftd (by decide +kernel)
theorem t237_55 : z_ft 237 55 = some (.iload_n 2, 1, none, [], 0, 0, 0, 0) := z_ftd (by decide +kernel)
theorem t237_56 : z_ft 237 56 = some (.iaload, 1, none, [], 0, 0, 0, 0) := z_ftd (by decide +kernel)
theorem t237_57 : z_ft 237 57 = some (.goto 4, 3, none, [], 61, 0, 0, 0) := z_ftd (by decide +kernel)
theorem t237_60 : z_ft 237 60 = some (.iconst (-1), 1, none, [], 0, 0, 0, 0) := z_ftd (by decide +kernel)
theorem t237_61 : z_ft 237 61 = some (.ireturn, 1, (some []), [], 0, 0, 0, 0) := z_ftd (by decide +kernel)
-- X12_chain
theorem e237 (d : Nat) (x1 : Int32) (x2 : Int32) (S : z_S) (hW : z_W S)  : fI (d + 1) 237 [.ref 396, .int x1, .int x2] S = (zb (fI d 228 [.ref 396, .int x1] S) fun v1 S2 => (if v1 = (0 : Int32) then some ((-1 : Int32), S2) else (zb (fI d 215 [.ref 396, .int (0 : Int32), .int x1] S2) fun v4 S5 => (if v4 = (0 : Int32) then some ((-1 : Int32), S5) else (if (-1 : Int32) ≤ x2 then ((fV d 196 [.ref 396, .int (1 : Int32), .int (0 : Int32)] S5).bind fun S9 => (zb (fI d 220 [.ref 396, .int (1 : Int32), .int x1] S9) fun v10 S11 => (if ¬ x2 = (-1 : Int32) then (if v10 ≤ x2 then some ((-1 : Int32), S11) else (if z_in x2 40 then some ((gI S11 431 (x2).toNatClampNeg), S11) else none)) else some (v10, S11)))) else some ((-1 : Int32), S5)))))) := by
  refine (fI_en (Nat.le_of_ble_eq_true rfl) rfl).trans ?_
  refine (k_aload_n t237_0 rfl rfl).trans ?_
  refine (k_iload_n t237_1 rfl rfl).trans ?_
  refine k_callI (as := [.ref 396, .int x1]) (rest := []) t237_2 rfl rfl (by decide) rfl rfl (Nat.le_of_ble_eq_true rfl) rfl (z_rcV hW (zK_396) (by decide)) (by decide) (Or.inr (by decide)) hW (fun v1 S2 hW2 => ?_)
  refine (k_if_eq t237_5 rfl).trans (z_ite (fun g3 => ?_) (fun g3 => ?_))
  · refine (zk_mk (ls' := [z_j, z_j, z_j, z_j]) t237_22 rfl).trans ?_
    refine (k_iconst t237_22 rfl zci_m1).trans ?_
    exact k_ireturn t237_23 rfl (by decide)
  · refine (k_aload_n t237_8 rfl rfl).trans ?_
    refine (k_iconst t237_9 rfl zci_0).trans ?_
    refine (k_iload_n t237_10 rfl rfl).trans ?_
    refine k_callI (as := [.ref 396, .int (0 : Int32), .int x1]) (rest := []) t237_11 rfl rfl (by decide) rfl rfl (Nat.le_of_ble_eq_true rfl) rfl (z_rcV hW2 (zK_396) (by decide)) (by decide) (Or.inr (by decide)) hW2 (fun v4 S5 hW5 => ?_)
    refine (k_if_eq t237_14 rfl).trans (z_ite (fun g6 => ?_) (fun g6 => ?_))
    · refine (zk_mk (ls' := [z_j, z_j, z_j, z_j]) t237_22 rfl).trans ?_
      refine (k_iconst t237_22 rfl zci_m1).trans ?_
      exact k_ireturn t237_23 rfl (by decide)
    · refine (k_iload_n t237_17 rfl rfl).trans ?_
      refine (k_iconst t237_18 rfl zci_m1).trans ?_
      refine (k_icmp_ge t237_19 rfl).trans (z_ite (fun g7 => ?_) (fun g7 => ?_))
      · refine (k_aload_n t237_24 rfl rfl).trans ?_
        refine (k_iconst t237_25 rfl zci_1).trans ?_
        refine (k_iconst t237_26 rfl zci_0).trans ?_
        refine k_callV (as := [.ref 396, .int (1 : Int32), .int (0 : Int32)]) (rest := []) t237_27 rfl rfl (by decide) rfl rfl (Nat.le_of_ble_eq_true rfl) rfl (z_rcV hW5 (zK_396) (by decide)) (by decide) (by decide) hW5 (fun S9 hW9 => ?_)
        refine (k_aload_n t237_30 rfl rfl).trans ?_
        refine (k_iconst t237_31 rfl zci_1).trans ?_
        refine (k_iload_n t237_32 rfl rfl).trans ?_
        refine k_callI (as := [.ref 396, .int (1 : Int32), .int x1]) (rest := []) t237_33 rfl rfl (by decide) rfl rfl (Nat.le_of_ble_eq_true rfl) rfl (z_rcV hW9 (zK_396) (by decide)) (by decide) (Or.inl (by decide)) hW9 (fun v10 S11 hW11 => ?_)
        refine (k_istore_n (ls' := [.ref 396, .int x1, .int x2, .int v10]) t237_36 rfl rfl).trans ?_
        refine (k_iload_n t237_37 rfl rfl).trans ?_
        refine (k_iconst t237_38 rfl zci_m1).trans ?_
        refine (k_icmp_ne t237_39 rfl).trans (z_ite (fun g12 => ?_) (fun g12 => ?_))
        · refine (k_iload_n t237_46 rfl rfl).trans ?_
          refine (k_iload_n t237_47 rfl rfl).trans ?_
          refine (k_icmp_ge t237_48 rfl).trans (z_ite (fun g13 => ?_) (fun g13 => ?_))
          · refine (k_iconst t237_60 rfl zci_m1).trans ?_
            refine (zk_mk (ls' := [z_j, z_j, z_j, z_j]) t237_61 rfl).trans ?_
            exact k_ireturn t237_61 rfl (by decide)
          · refine (k_aload_n t237_51 rfl rfl).trans ?_
            refine (k_getR t237_52 rfl hW11 zK_396 (by decide) (by decide) (zF_396_59 hW11)).trans ?_
            refine (k_iload_n t237_55 rfl rfl).trans ?_
            refine (k_iald t237_56 rfl hW11 zK_431 zL_431).trans (z_ite (fun g14 => ?_) (fun _ => rfl))
            refine (k_goto t237_57 rfl).trans ?_
            refine (zk_mk (ls' := [z_j, z_j, z_j, z_j]) t237_61 rfl).trans ?_
            exact k_ireturn t237_61 rfl (by decide)
        · refine (k_iload_n t237_42 rfl rfl).trans ?_
          refine (k_goto t237_43 rfl).trans ?_
          refine (zk_mk (ls' := [z_j, z_j, z_j, z_j]) t237_61 rfl).trans ?_
          exact k_ireturn t237_61 rfl (by decide)
      · refine (zk_mk (ls' := [z_j, z_j, z_j, z_j]) t237_22 rfl).trans ?_
        refine (k_iconst t237_22 rfl zci_m1).trans ?_
        exact k_ireturn t237_23 rfl (by decide)
theorem t238_0 : z_ft 238 0 = some (.aload_n 0, 1, none, [], 0, 0, 0, 0) := z_ftd (by decide +kernel)
theorem t238_1 : z_ft 238 1 = some (.iload_n 1, 1, none, [], 0, 0, 0, 0) := z_ftd (by decide +kernel)
theorem t238_2 : z_ft 238 2 = some (.invokevirtual 500, 3, none, [], 227, 0, 158, 0) := z_ftd (by decide +kernel)
theorem t238_5 : z_ft 238 5 = some (.ifCond .eq 14, 3, none, [], 19, 0, 0, 0) := z_ftd (by decide +kernel)
theorem t238_8 : z_ft 238 8 = some (.aload_n 0, 1, none, [], 0, 0, 0, 0) := z_ftd (by decide +kernel)
theorem t238_9 : z_ft 238 9 = some (.iload_n 2, 1, none, [], 0, 0, 0, 0) := z_ftd (by decide +kernel)
theorem t238_10 : z_ft 238 10 = some (.iconst 0, 1, none, [], 0, 0, 0, 0) := z_ftd (by decide +kernel)
theorem t238_11 : z_ft 238 11 = some (.bipush 40, 2, none, [], 0, 0, 0, 0) := z_ftd (by decide +kernel)
theorem t238_13 : z_ft 238 13 = some (.invokevirtual 509, 3, none, [], 235, 0, 162, 0) := z_ftd (by decide +kernel)
theorem t238_16 : z_ft 238 16 = some (.ifCond .ne 5, 3, none, [], 21, 0, 0, 0) := z_ftd (by decide +kernel)
theorem t238_19 : z_ft 238 19 = some (.iconst (-1), 1, (some []), [], 0, 0, 0, 0) := z_ftd (by decide +kernel)
theorem t238_20 : z_ft 238 20 = some (.ireturn, 1, none, [], 0, 0, 0, 0) := z_ftd (by decide +kernel)
theorem t238_21 : z_ft 238 21 = some (.aload_n 0, 1, none, [], 0, 0, 0, 0) := z_ftd (by decide +kernel)
theorem t238_22 : z_ft 238 22 = some (.iconst 1, 1, none, [], 0, 0, 0, 0) := z_ftd (by decide +kernel)
theorem t238_23 : z_ft 238 23 = some (.iconst 0, 1, none, [], 0, 0, 0, 0) := z_ftd (by decide +kernel)
theorem t238_24 : z_ft 238 24 = some (.invokevirtual 407, 3, none, [], 196, 0, 153, 0) := z_ftd (by decide +kernel)
theorem t238_27 : z_ft 238 27 = some (.aload_n 0, 1, none, [], 0, 0, 0, 0) := z_ftd (by decide +kernel)
theorem t238_28 : z_ft 238 28 = some (.iload_n 2, 1, none, [], 0, 0, 0, 0) := z_ftd (by decide +kernel)
theorem t238_29 : z_ft 238 29 = some (.invokevirtual 512, 3, none, [], 236, 0, 163, 0) := z_ftd (by decide +kernel)
theorem t238_32 : z_ft 238 32 = some (.aload_n 0, 1, none, [], 0, 0, 0, 0) := z_ftd (by decide +kernel)
theorem t238_33 : z_ft 238 33 = some (.getfield 156, 3, none, [], 12, 47, 48, 0) := z_ftd (by decide +kernel)
theorem t238_36 : z_ft 238 36 = some (.bipush 16, 2, none, [], 0, 0, 0, 0) := z_ftd (by decide +kernel)
theorem t238_38 : z_ft 238 38 = some (.iload_n 1, 1, none, [], 0, 0, 0, 0) := z_ftd (by decide +kernel)
theorem t238_39 : z_ft 238 39 = some (.iadd, 1, none, [], 0, 0, 0, 0) := z_ftd (by decide +kernel)
theorem t238_40 : z_ft 238 40 = some (.iaload, 1, none, [], 0, 0, 0, 0) := z_ftd (by decide +kernel)
theorem t238_41 : z_ft 238 41 = some (.ireturn, 1, none, [], 0, 0, 0, 0) := z_ftd (by decide +kernel)
-- X12_later
theorem e238 (d : Nat) (x1 : Int32) (x2 : Int32) (S : z_S) (hW : z_W S)  : fI (d + 1) 238 [.ref 396, .int x1, .int x2] S = (zb (fI d 227 [.ref 396, .int x1] S) fun v1 S2 => (if v1 = (0 : Int32) then some ((-1 : Int32), S2) else (zb (fI d 235 [.ref 396, .int x2, .int (0 : Int32), .int (40 : Int32)] S2) fun v4 S5 => (if ¬ v4 = (0 : Int32) then ((fV d 196 [.ref 396, .int (1 : Int32), .int (0 : Int32)] S5).bind fun S8 => ((fV d 236 [.ref 396, .int x2] S8).bind fun S10 => (if z_in ((16 : Int32) + x1) 352 then some ((gI S10 423 (((16 : Int32) + x1)).toNatClampNeg), S10) else none))) else some ((-1 : Int32), S5))))) := by
  refine (fI_en (Nat.le_of_ble_eq_true rfl) rfl).trans ?_
  refine (k_aload_n t238_0 rfl rfl).trans ?_
  refine (k_iload_n t238_1 rfl rfl).trans ?_
  refine k_callI (as := [.ref 396, .int x1]) (rest := []) t238_2 rfl rfl (by decide) rfl rfl (Nat.le_of_ble_eq_true rfl) rfl (z_rcV hW (zK_396) (by decide)) (by decide) (Or.inr (by decide)) hW (fun v1 S2 hW2 => ?_)
  refine (k_if_eq t238_5 rfl).trans (z_ite (fun g3 => ?_) (fun g3 => ?_))
  · refine (zk_mk (ls' := [z_j, z_j, z_j]) t238_19 rfl).trans ?_
    refine (k_iconst t238_19 rfl zci_m1).trans ?_
    exact k_ireturn t238_20 rfl (by decide)
  · refine (k_aload_n t238_8 rfl rfl).trans ?_
    refine (k_iload_n t238_9 rfl rfl).trans ?_
    refine (k_iconst t238_10 rfl zci_0).trans ?_
    refine (k_bipush t238_11 rfl zcb_40).trans ?_
    refine k_callI (as := [.ref 396, .int x2, .int (0 : Int32), .int (40 : Int32)]) (rest := []) t238_13 rfl rfl (by decide) rfl rfl (Nat.le_of_ble_eq_true rfl) rfl (z_rcV hW2 (zK_396) (by decide)) (by decide) (Or.inr (by decide)) hW2 (fun v4 S5 hW5 => ?_)
    refine (k_if_ne t238_16 rfl).trans (z_ite (fun g6 => ?_) (fun g6 => ?_))
    · refine (k_aload_n t238_21 rfl rfl).trans ?_
      refine (k_iconst t238_22 rfl zci_1).trans ?_
      refine (k_iconst t238_23 rfl zci_0).trans ?_
      refine k_callV (as := [.ref 396, .int (1 : Int32), .int (0 : Int32)]) (rest := []) t238_24 rfl rfl (by decide) rfl rfl (Nat.le_of_ble_eq_true rfl) rfl (z_rcV hW5 (zK_396) (by decide)) (by decide) (by decide) hW5 (fun S8 hW8 => ?_)
      refine (k_aload_n t238_27 rfl rfl).trans ?_
      refine (k_iload_n t238_28 rfl rfl).trans ?_
      refine k_callV (as := [.ref 396, .int x2]) (rest := []) t238_29 rfl rfl (by decide) rfl rfl (Nat.le_of_ble_eq_true rfl) rfl (z_rcV hW8 (zK_396) (by decide)) (by decide) (by decide) hW8 (fun S10 hW10 => ?_)
      refine (k_aload_n t238_32 rfl rfl).trans ?_
      refine (k_getR t238_33 rfl hW10 zK_396 (by decide) (by decide) (zF_396_47 hW10)).trans ?_
      refine (k_bipush t238_36 rfl zcb_16).trans ?_
      refine (k_iload_n t238_38 rfl rfl).trans ?_
      refine (k_iadd t238_39 rfl).trans ?_
      refine (k_iald t238_40 rfl hW10 zK_423 zL_423).trans (z_ite (fun g11 => ?_) (fun _ => rfl))
      exact k_ireturn t238_41 rfl (by decide)
    · refine (zk_mk (ls' := [z_j, z_j, z_j]) t238_19 rfl).trans ?_
      refine (k_iconst t238_19 rfl zci_m1).trans ?_
      exact k_ireturn t238_20 rfl (by decide)
theorem t239_0 : z_ft 239 0 = some (.aload_n 0, 1, none, [], 0, 0, 0, 0) := z_ftd (by decide +kernel)
theorem t239_1 : z_ft 239 1 = some (.iload_n 1, 1, none, [], 0, 0, 0, 0) := z_ftd (by decide +kernel)
theorem t239_2 : z_ft 239 2 = some (.invokevirtual 495, 3, none, [], 228, 0, 156, 0) := z_ftd (by decide +kernel)
theorem t239_5 : z_ft 239 5 = some (.ifCond .ne 5, 3, none, [], 10, 0, 0, 0) := z_ftd (by decide +kernel)
theorem t239_8 : z_ft 239 8 = some (.iconst (-1), 1, none, [], 0, 0, 0, 0) := z_ftd (by decide +kernel)
theorem t239_9 : z_ft 239 9 = some (.ireturn, 1, none, [], 0, 0, 0, 0) := z_ftd (by decide +kernel)
theorem t239_10 : z_ft 239 10 = some (.aload_n 0, 1, none, [], 0, 0, 0, 0) := z_ftd (by decide +kernel)
theorem t239_11 : z_ft 239 11 = some (.iconst 1, 1, none, [], 0, 0, 0, 0) := z_ftd (by decide +kernel)
theorem t239_12 : z_ft 239 12 = some (.iconst 0, 1, none, [], 0, 0, 0, 0) := z_ftd (by decide +kernel)
theorem t239_13 : z_ft 239 13 = some (.invokevirtual 407, 3, none, [], 196, 0, 153, 0) := z_ftd (by decide +kernel)
theorem t239_16 : z_ft 239 16 = some (.iconst 0, 1, none, [], 0, 0, 0, 0) := z_ftd (by decide +kernel)
theorem t239_17 : z_ft 239 17 = some (.istore_n 2, 1, none, [], 0, 0, 0, 0) := z_ftd (by decide +kernel)
theorem t239_18 : z_ft 239 18 = some (.aload_n 0, 1, (some [0, 1, 2]), [], 0, 0, 0, 0) := z_ftd (by decide +kernel)
theorem t239_19 : z_ft 239 19 = some (.iload_n 2, 1, none, [], 0, 0, 0, 0) := z_ftd (by decide +kernel)
theorem t239_20 : z_ft 239 20 = some (.iconst 0, 1, none, [], 0, 0, 0, 0) := z_ftd (by decide +kernel)
theorem t239_21 : z_ft 239 21 = some (.bipush 40, 2, none, [], 0, 0, 0, 0) := z_ftd (by decide +kernel)
theorem t239_23 : z_ft 239 23 = some (.invokevirtual 509, 3, none, [], 235, 0, 162, 0) := z_ftd (by decide +kernel)
theorem t239_26 : z_ft 239 26 = some (.ifCond .eq 27, 3, none, [], 53, 0, 0, 0) := z_ftd (by decide +kernel)
theorem t239_29 : z_ft 239 29 = some (.aload_n 0, 1, none, [], 0, 0, 0, 0) := z_ftd (by decide +kernel)
theorem t239_30 : z_ft 239 30 = some (.iconst 1, 1, none, [], 0, 0, 0, 0) := z_ftd (by decide +kernel)
theorem t239_31 : z_ft 239 31 = some (.iload_n 1, 1, none, [], 0, 0, 0, 0) := z_ftd (by decide +kernel)
theorem t239_32 : z_ft 239 32 = some (.invokevirtual 438, 3, none, [], 213, 0, 159, 0) := z_ftd (by decide +kernel)
theorem t239_35 : z_ft 239 35 = some (.iconst (-1), 1, none, [], 0, 0, 0, 0) := z_ftd (by decide +kernel)
theorem t239_36 : z_ft 239 36 = some (.if_icmp .eq 5, 3, none, [], 41, 0, 0, 0) := z_ftd (by decide +kernel)
theorem t239_39 : z_ft 239 39 = some (.iload_n 2, 1, none, [], 0, 0, 0, 0) := z_ftd (by decide +kernel)
theorem t239_40 : z_ft 239 40 = some (.ireturn, 1, none, [], 0, 0, 0, 0) := z_ftd (by decide +kernel)
theorem t239_41 : z_ft 239 41 = some (.aload_n 0, 1, none, [], 0, 0, 0, 0) := z_ftd (by decide +kernel)
theorem t239_42 : z_ft 239 42 = some (.iconst 1, 1, none, [], 0, 0, 0, 0) := z_ftd (by decide +kernel)
theorem t239_43 : z_ft 239 43 = some (.invokevirtual 503, 3, none, [], 226, 0, 164, 0) := z_ftd (by decide +kernel)
theorem t239_46 : z_ft 239 46 = some (.pop, 1, none, [], 0, 0, 0, 0) := z_ftd (by decide +kernel)
theorem t239_47 : z_ft 239 47 = some (.iinc 2 1, 3, none, [], 0, 0, 0, 0) := z_ftd (by decide +kernel)
theorem t239_50 : z_ft 239 50 = some (.goto (-32), 3, none, [], 18, 0, 0, 0) := z_ftd (by decide +kernel)
theorem t239_53 : z_ft 239 53 = some (.iconst (-1), 1, none, [], 0, 0, 0, 0) := z_ftd (by decide +kernel)
theorem t239_54 : z_ft 239 54 = some (.ireturn, 1, none, [], 0, 0, 0, 0) := z_ftd (by decide +kernel)
noncomputable def b239_18 (d : Nat) (y1 : Int32) (y2 : Int32) (S : z_S) : Option (Int32 × z_S) := zk kI z_X0 d 239 18 [.ref 396, .int y1, .int y2] [] S
theorem b239_18_eq (d : Nat) (y1 : Int32) (y2 : Int32) (S : z_S) (hW : z_W S)  : b239_18 d y1 y2 S = (zb (fI d 235 [.ref 396, .int y2, .int (0 : Int32), .int (40 : Int32)] S) fun v6 S7 => (if v6 = (0 : Int32) then some ((-1 : Int32), S7) else (zb (fI d 213 [.ref 396, .int (1 : Int32), .int y1] S7) fun v9 S10 => (if v9 = (-1 : Int32) then (zb (fI d 226 [.ref 396, .int (1 : Int32)] S10) fun v12 S13 => b239_18 d y1 (y2 + (1 : Int32)) S13) else some (y2, S10))))) := by
  unfold b239_18
  refine (k_aload_n t239_18 rfl rfl).trans ?_
  refine (k_iload_n t239_19 rfl rfl).trans ?_
  refine (k_iconst t239_20 rfl zci_0).trans ?_
  refine (k_bipush t239_21 rfl zcb_40).trans ?_
  refine k_callI (as := [.ref 396, .int y2, .int (0 : Int32), .int (40 : Int32)]) (rest := []) t239_23 rfl rfl (by decide) rfl rfl (Nat.le_of_ble_eq_true rfl) rfl (z_rcV hW (zK_396) (by decide)) (by decide) (Or.inr (by decide)) hW (fun v6 S7 hW7 => ?_)
  refine (k_if_eq t239_26 rfl).trans (z_ite (fun g8 => ?_) (fun g8 => ?_))
  · refine (k_iconst t239_53 rfl zci_m1).trans ?_
    exact k_ireturn t239_54 rfl (by decide)
  · refine (k_aload_n t239_29 rfl rfl).trans ?_
    refine (k_iconst t239_30 rfl zci_1).trans ?_
    refine (k_iload_n t239_31 rfl rfl).trans ?_
    refine k_callI (as := [.ref 396, .int (1 : Int32), .int y1]) (rest := []) t239_32 rfl rfl (by decide) rfl rfl (Nat.le_of_ble_eq_true rfl) rfl (z_rcV hW7 (zK_396) (by decide)) (by decide) (Or.inl (by decide)) hW7 (fun v9 S10 hW10 => ?_)
    refine (k_iconst t239_35 rfl zci_m1).trans ?_
    refine (k_icmp_eq t239_36 rfl).trans (z_ite (fun g11 => ?_) (fun g11 => ?_))
    · refine (k_aload_n t239_41 rfl rfl).trans ?_
      refine (k_iconst t239_42 rfl zci_1).trans ?_
      refine k_callI (as := [.ref 396, .int (1 : Int32)]) (rest := []) t239_43 rfl rfl (by decide) rfl rfl (Nat.le_of_ble_eq_true rfl) rfl (z_rcV hW10 (zK_396) (by decide)) (by decide) (Or.inl (by decide)) hW10 (fun v12 S13 hW13 => ?_)
      refine (k_popI t239_46 rfl).trans ?_
      refine (k_iinc (b := (y2 + (1 : Int32))) (ls' := [.ref 396, .int y1, .int (y2 + (1 : Int32))]) t239_47 rfl rfl (by rw [zci_1]) rfl).trans ?_
      refine (k_goto t239_50 rfl).trans ?_
      exact (zk_mk (ls' := [.ref 396, .int y1, .int (y2 + (1 : Int32))]) t239_18 rfl)
    · refine (k_iload_n t239_39 rfl rfl).trans ?_
      exact k_ireturn t239_40 rfl (by decide)
-- X12_sleeps
theorem e239 (d : Nat) (x1 : Int32) (S : z_S) (hW : z_W S)  : fI (d + 1) 239 [.ref 396, .int x1] S = (zb (fI d 228 [.ref 396, .int x1] S) fun v1 S2 => (if ¬ v1 = (0 : Int32) then ((fV d 196 [.ref 396, .int (1 : Int32), .int (0 : Int32)] S2).bind fun S5 => b239_18 d x1 (0 : Int32) S5) else some ((-1 : Int32), S2))) := by
  refine (fI_en (Nat.le_of_ble_eq_true rfl) rfl).trans ?_
  refine (k_aload_n t239_0 rfl rfl).trans ?_
  refine (k_iload_n t239_1 rfl rfl).trans ?_
  refine k_callI (as := [.ref 396, .int x1]) (rest := []) t239_2 rfl rfl (by decide) rfl rfl (Nat.le_of_ble_eq_true rfl) rfl (z_rcV hW (zK_396) (by decide)) (by decide) (Or.inr (by decide)) hW (fun v1 S2 hW2 => ?_)
  refine (k_if_ne t239_5 rfl).trans (z_ite (fun g3 => ?_) (fun g3 => ?_))
  · refine (k_aload_n t239_10 rfl rfl).trans ?_
    refine (k_iconst t239_11 rfl zci_1).trans ?_
    refine (k_iconst t239_12 rfl zci_0).trans ?_
    refine k_callV (as := [.ref 396, .int (1 : Int32), .int (0 : Int32)]) (rest := []) t239_13 rfl rfl (by decide) rfl rfl (Nat.le_of_ble_eq_true rfl) rfl (z_rcV hW2 (zK_396) (by decide)) (by decide) (by decide) hW2 (fun S5 hW5 => ?_)
    refine (k_iconst t239_16 rfl zci_0).trans ?_
    refine (k_istore_n (ls' := [.ref 396, .int x1, .int (0 : Int32)]) t239_17 rfl rfl).trans ?_
    exact (zk_mk (ls' := [.ref 396, .int x1, .int (0 : Int32)]) t239_18 rfl)
  · refine (k_iconst t239_8 rfl zci_m1).trans ?_
    exact k_ireturn t239_9 rfl (by decide)
theorem t240_0 : z_ft 240 0 = some (.aload_n 0, 1, none, [], 0, 0, 0, 0) := z_ftd (by decide +kernel)
theorem t240_1 : z_ft 240 1 = some (.iload_n 1, 1, none, [], 0, 0, 0, 0) := z_ftd (by decide +kernel)
theorem t240_2 : z_ft 240 2 = some (.iconst 0, 1, none, [], 0, 0, 0, 0) := z_ftd (by decide +kernel)
theorem t240_3 : z_ft 240 3 = some (.bipush 40, 2, none, [], 0, 0, 0, 0) := z_ftd (by decide +kernel)
theorem t240_5 : z_ft 240 5 = some (.invokevirtual 509, 3, none, [], 235, 0, 162, 0) := z_ftd (by decide +kernel)
theorem t240_8 : z_ft 240 8 = some (.ifCond .ne 5, 3, none, [], 13, 0, 0, 0) := z_ftd (by decide +kernel)
theorem t240_11 : z_ft 240 11 = some (.iconst (-1), 1, none, [], 0, 0, 0, 0) := z_ftd (by decide +kernel)
theorem t240_12 : z_ft 240 12 = some (.ireturn, 1, none, [], 0, 0, 0, 0) := z_ftd (by decide +kernel)
theorem t240_13 : z_ft 240 13 = some (.aload_n 0, 1, none, [], 0, 0, 0, 0) := z_ftd (by decide +kernel)
theorem t240_14 : z_ft 240 14 = some (.iconst 1, 1, none, [], 0, 0, 0, 0) := z_ftd (by decide +kernel)
theorem t240_15 : z_ft 240 15 = some (.iconst 0, 1, none, [], 0, 0, 0, 0) := z_ftd (by decide +kernel)
theorem t240_16 : z_ft 240 16 = some (.invokevirtual 407, 3, none, [], 196, 0, 153, 0) := z_ftd (by decide +kernel)
theorem t240_19 : z_ft 240 19 = some (.aload_n 0, 1, none, [], 0, 0, 0, 0) := z_ftd (by decide +kernel)
theorem t240_20 : z_ft 240 20 = some (.iload_n 1, 1, none, [], 0, 0, 0, 0) := z_ftd (by decide +kernel)
theorem t240_21 : z_ft 240 21 = some (.invokevirtual 512, 3, none, [], 236, 0, 163, 0) := z_ftd (by decide +kernel)
theorem t240_24 : z_ft 240 24 = some (.aload_n 0, 1, none, [], 0, 0, 0, 0) := z_ftd (by decide +kernel)
theorem t240_25 : z_ft 240 25 = some (.getfield 150, 3, none, [], 12, 45, 46, 0) := z_ftd (by decide +kernel)
theorem t240_28 : z_ft 240 28 = some (.iconst 1, 1, none, [], 0, 0, 0, 0) := z_ftd (by decide +kernel)
theorem t240_29 : z_ft 240 29 = some (.iaload, 1, none, [], 0, 0, 0, 0) := z_ftd (by decide +kernel)
theorem t240_30 : z_ft 240 30 = some (.ireturn, 1, none, [], 0, 0, 0, 0) := z_ftd (by decide +kernel)
-- X12_purse
theorem e240 (d : Nat) (x1 : Int32) (S : z_S) (hW : z_W S)  : fI (d + 1) 240 [.ref 396, .int x1] S = (zb (fI d 235 [.ref 396, .int x1, .int (0 : Int32), .int (40 : Int32)] S) fun v1 S2 => (if ¬ v1 = (0 : Int32) then ((fV d 196 [.ref 396, .int (1 : Int32), .int (0 : Int32)] S2).bind fun S5 => ((fV d 236 [.ref 396, .int x1] S5).bind fun S7 => (if z_in (1 : Int32) 22 then some ((gI S7 421 ((1 : Int32)).toNatClampNeg), S7) else none))) else some ((-1 : Int32), S2))) := by
  refine (fI_en (Nat.le_of_ble_eq_true rfl) rfl).trans ?_
  refine (k_aload_n t240_0 rfl rfl).trans ?_
  refine (k_iload_n t240_1 rfl rfl).trans ?_
  refine (k_iconst t240_2 rfl zci_0).trans ?_
  refine (k_bipush t240_3 rfl zcb_40).trans ?_
  refine k_callI (as := [.ref 396, .int x1, .int (0 : Int32), .int (40 : Int32)]) (rest := []) t240_5 rfl rfl (by decide) rfl rfl (Nat.le_of_ble_eq_true rfl) rfl (z_rcV hW (zK_396) (by decide)) (by decide) (Or.inr (by decide)) hW (fun v1 S2 hW2 => ?_)
  refine (k_if_ne t240_8 rfl).trans (z_ite (fun g3 => ?_) (fun g3 => ?_))
  · refine (k_aload_n t240_13 rfl rfl).trans ?_
    refine (k_iconst t240_14 rfl zci_1).trans ?_
    refine (k_iconst t240_15 rfl zci_0).trans ?_
    refine k_callV (as := [.ref 396, .int (1 : Int32), .int (0 : Int32)]) (rest := []) t240_16 rfl rfl (by decide) rfl rfl (Nat.le_of_ble_eq_true rfl) rfl (z_rcV hW2 (zK_396) (by decide)) (by decide) (by decide) hW2 (fun S5 hW5 => ?_)
    refine (k_aload_n t240_19 rfl rfl).trans ?_
    refine (k_iload_n t240_20 rfl rfl).trans ?_
    refine k_callV (as := [.ref 396, .int x1]) (rest := []) t240_21 rfl rfl (by decide) rfl rfl (Nat.le_of_ble_eq_true rfl) rfl (z_rcV hW5 (zK_396) (by decide)) (by decide) (by decide) hW5 (fun S7 hW7 => ?_)
    refine (k_aload_n t240_24 rfl rfl).trans ?_
    refine (k_getR t240_25 rfl hW7 zK_396 (by decide) (by decide) (zF_396_45 hW7)).trans ?_
    refine (k_iconst t240_28 rfl zci_1).trans ?_
    refine (k_iald t240_29 rfl hW7 zK_421 zL_421).trans (z_ite (fun g8 => ?_) (fun _ => rfl))
    exact k_ireturn t240_30 rfl (by decide)
  · refine (k_iconst t240_11 rfl zci_m1).trans ?_
    exact k_ireturn t240_12 rfl (by decide)
theorem t241_0 : z_ft 241 0 = some (.aload_n 0, 1, none, [], 0, 0, 0, 0) := z_ftd (by decide +kernel)
theorem t241_1 : z_ft 241 1 = some (.iconst 0, 1, none, [], 0, 0, 0, 0) := z_ftd (by decide +kernel)
theorem t241_2 : z_ft 241 2 = some (.iload_n 1, 1, none, [], 0, 0, 0, 0) := z_ftd (by decide +kernel)
theorem t241_3 : z_ft 241 3 = some (.invokevirtual 426, 3, none, [], 207, 0, 138, 0) := z_ftd (by decide +kernel)
theorem t241_6 : z_ft 241 6 = some (.ifCond .ne 7, 3, none, [], 13, 0, 0, 0) := z_ftd (by decide +kernel)
theorem t241_9 : z_ft 241 9 = some (.iconst 1, 1, none, [], 0, 0, 0, 0) := z_ftd (by decide +kernel)
theorem t241_10 : z_ft 241 10 = some (.goto 4, 3, none, [], 14, 0, 0, 0) := z_ftd (by decide +kernel)
theorem t241_13 : z_ft 241 13 = some (.iconst 0, 1, none, [], 0, 0, 0, 0) := z_ftd (by decide +kernel)
theorem t241_14 : z_ft 241 14 = some (.ireturn, 1, (some []), [], 0, 0, 0, 0) := z_ftd (by decide +kernel)
-- X12_isOpen
theorem e241 (d : Nat) (x1 : Int32) (S : z_S) (hW : z_W S)  : fI (d + 1) 241 [.ref 396, .int x1] S = (zb (fI d 207 [.ref 396, .int (0 : Int32), .int x1] S) fun v1 S2 => (if ¬ v1 = (0 : Int32) then some ((0 : Int32), S2) else some ((1 : Int32), S2))) := by
  refine (fI_en (Nat.le_of_ble_eq_true rfl) rfl).trans ?_
  refine (k_aload_n t241_0 rfl rfl).trans ?_
  refine (k_iconst t241_1 rfl zci_0).trans ?_
  refine (k_iload_n t241_2 rfl rfl).trans ?_
  refine k_callI (as := [.ref 396, .int (0 : Int32), .int x1]) (rest := []) t241_3 rfl rfl (by decide) rfl rfl (Nat.le_of_ble_eq_true rfl) rfl (z_rcV hW (zK_396) (by decide)) (by decide) (Or.inr (by decide)) hW (fun v1 S2 hW2 => ?_)
  refine (k_if_ne t241_6 rfl).trans (z_ite (fun g3 => ?_) (fun g3 => ?_))
  · refine (k_iconst t241_13 rfl zci_0).trans ?_
    refine (zk_mk (ls' := [z_j, z_j]) t241_14 rfl).trans ?_
    exact k_zretC t241_14 rfl (by decide) (by decide)
  · refine (k_iconst t241_9 rfl zci_1).trans ?_
    refine (k_goto t241_10 rfl).trans ?_
    refine (zk_mk (ls' := [z_j, z_j]) t241_14 rfl).trans ?_
    exact k_zretC t241_14 rfl (by decide) (by decide)
theorem t242_0 : z_ft 242 0 = some (.aload_n 0, 1, none, [], 0, 0, 0, 0) := z_ftd (by decide +kernel)
theorem t242_1 : z_ft 242 1 = some (.getfield 195, 3, none, [], 12, 60, 61, 0) := z_ftd (by decide +kernel)
theorem t242_4 : z_ft 242 4 = some (.iload_n 1, 1, none, [], 0, 0, 0, 0) := z_ftd (by decide +kernel)
theorem t242_5 : z_ft 242 5 = some (.iaload, 1, none, [], 0, 0, 0, 0) := z_ftd (by decide +kernel)
theorem t242_6 : z_ft 242 6 = some (.aload_n 0, 1, none, [], 0, 0, 0, 0) := z_ftd (by decide +kernel)
theorem t242_7 : z_ft 242 7 = some (.getfield 195, 3, none, [], 12, 60, 61, 0) := z_ftd (by decide +kernel)
theorem t242_10 : z_ft 242 10 = some (.iload_n 2, 1, none, [], 0, 0, 0, 0) := z_ftd (by decide +kernel)
theorem t242_11 : z_ft 242 11 = some (.iaload, 1, none, [], 0, 0, 0, 0) := z_ftd (by decide +kernel)
theorem t242_12 : z_ft 242 12 = some (.if_icmp .le 12, 3, none, [], 24, 0, 0, 0) := z_ftd (by decide +kernel)
theorem t242_15 : z_ft 242 15 = some (.aload_n 0, 1, none, [], 0, 0, 0, 0) := z_ftd (by decide +kernel)
theorem t242_16 : z_ft 242 16 = some (.getfield 195, 3, none, [], 12, 60, 61, 0) := z_ftd (by decide +kernel)
theorem t242_19 : z_ft 242 19 = some (.iload_n 1, 1, none, [], 0, 0, 0, 0) := z_ftd (by decide +kernel)
theorem t242_20 : z_ft 242 20 = some (.iaload, 1, none, [], 0, 0, 0, 0) := z_ftd (by decide +kernel)
theorem t242_21 : z_ft 242 21 = some (.goto 9, 3, none, [], 30, 0, 0, 0) := z_ftd (by decide +kernel)
theorem t242_24 : z_ft 242 24 = some (.aload_n 0, 1, none, [], 0, 0, 0, 0) := z_ftd (by decide +kernel)
theorem t242_25 : z_ft 242 25 = some (.getfield 195, 3, none, [], 12, 60, 61, 0) := z_ftd (by decide +kernel)
theorem t242_28 : z_ft 242 28 = some (.iload_n 2, 1, none, [], 0, 0, 0, 0) := z_ftd (by decide +kernel)
theorem t242_29 : z_ft 242 29 = some (.iaload, 1, none, [], 0, 0, 0, 0) := z_ftd (by decide +kernel)
theorem t242_30 : z_ft 242 30 = some (.istore_n 3, 1, (some [0, 1, 2]), [], 0, 0, 0, 0) := z_ftd (by decide +kernel)
theorem t242_31 : z_ft 242 31 = some (.aload_n 0, 1, none, [], 0, 0, 0, 0) := z_ftd (by decide +kernel)
theorem t242_32 : z_ft 242 32 = some (.getfield 195, 3, none, [], 12, 60, 61, 0) := z_ftd (by decide +kernel)
theorem t242_35 : z_ft 242 35 = some (.iload_n 1, 1, none, [], 0, 0, 0, 0) := z_ftd (by decide +kernel)
theorem t242_36 : z_ft 242 36 = some (.iaload, 1, none, [], 0, 0, 0, 0) := z_ftd (by decide +kernel)
theorem t242_37 : z_ft 242 37 = some (.aload_n 0, 1, none, [], 0, 0, 0, 0) := z_ftd (by decide +kernel)
theorem t242_38 : z_ft 242 38 = some (.getfield 195, 3, none, [], 12, 60, 61, 0) := z_ftd (by decide +kernel)
theorem t242_41 : z_ft 242 41 = some (.iload_n 2, 1, none, [], 0, 0, 0, 0) := z_ftd (by decide +kernel)
theorem t242_42 : z_ft 242 42 = some (.iaload, 1, none, [], 0, 0, 0, 0) := z_ftd (by decide +kernel)
theorem t242_43 : z_ft 242 43 = some (.if_icmp .le 12, 3, none, [], 55, 0, 0, 0) := z_ftd (by decide +kernel)
theorem t242_46 : z_ft 242 46 = some (.aload_n 0, 1, none, [], 0, 0, 0, 0) := z_ftd (by decide +kernel)
theorem t242_47 : z_ft 242 47 = some (.getfield 195, 3, none, [], 12, 60, 61, 0) := z_ftd (by decide +kernel)
theorem t242_50 : z_ft 242 50 = some (.iload_n 2, 1, none, [], 0, 0, 0, 0) := z_ftd (by decide +kernel)
theorem t242_51 : z_ft 242 51 = some (.iaload, 1, none, [], 0, 0, 0, 0) := z_ftd (by decide +kernel)
theorem t242_52 : z_ft 242 52 = some (.goto 9, 3, none, [], 61, 0, 0, 0) := z_ftd (by decide +kernel)
theorem t242_55 : z_ft 242 55 = some (.aload_n 0, 1, none, [], 0, 0, 0, 0) := z_ftd (by decide +kernel)
theorem t242_56 : z_ft 242 56 = some (.getfield 195, 3, none, [], 12, 60, 61, 0) := z_ftd (by decide +kernel)
theorem t242_59 : z_ft 242 59 = some (.iload_n 1, 1, none, [], 0, 0, 0, 0) := z_ftd (by decide +kernel)
theorem t242_60 : z_ft 242 60 = some (.iaload, 1, none, [], 0, 0, 0, 0) := z_ftd (by decide +kernel)
theorem t242_61 : z_ft 242 61 = some (.istore 4, 2, (some [0, 3]), [], 0, 0, 0, 0) := z_ftd (by decide +kernel)
theorem t242_63 : z_ft 242 63 = some (.iconst 0, 1, none, [], 0, 0, 0, 0) := z_ftd (by decide +kernel)
theorem t242_64 : z_ft 242 64 = some (.istore 5, 2, none, [], 0, 0, 0, 0) := z_ftd (by decide +kernel)
theorem t242_66 : z_ft 242 66 = some (.iload 5, 2, (some [0, 3, 4, 5]), [], 0, 0, 0, 0) := z_ftd (by decide +kernel)
theorem t242_68 : z_ft 242 68 = some (.aload_n 0, 1, none, [], 0, 0, 0, 0) := z_ftd (by decide +kernel)
theorem t242_69 : z_ft 242 69 = some (.getfield 54, 3, none, [], 12, 14, 15, 0) := z_ftd (by decide +kernel)
theorem t242_72 : z_ft 242 72 = some (.aload_n 0, 1, none, [], 0, 0, 0, 0) := z_ftd (by decide +kernel)
theorem t242_73 : z_ft 242 73 = some (.getfield 51, 3, none, [], 12, 13, 14, 0) := z_ftd (by decide +kernel)
theorem t242_76 : z_ft 242 76 = some (.iaload, 1, none, [], 0, 0, 0, 0) := z_ftd (by decide +kernel)
theorem t242_77 : z_ft 242 77 = some (.if_icmp .ge 29, 3, none, [], 106, 0, 0, 0) := z_ftd (by decide +kernel)
theorem t242_80 : z_ft 242 80 = some (.aload_n 0, 1, none, [], 0, 0, 0, 0) := z_ftd (by decide +kernel)
theorem t242_81 : z_ft 242 81 = some (.getfield 195, 3, none, [], 12, 60, 61, 0) := z_ftd (by decide +kernel)
theorem t242_84 : z_ft 242 84 = some (.iload 5, 2, none, [], 0, 0, 0, 0) := z_ftd (by decide +kernel)
theorem t242_86 : z_ft 242 86 = some (.iaload, 1, none, [], 0, 0, 0, 0) := z_ftd (by decide +kernel)
theorem t242_87 : z_ft 242 87 = some (.iload_n 3, 1, none, [], 0, 0, 0, 0) := z_ftd (by decide +kernel)
theorem t242_88 : z_ft 242 88 = some (.if_icmp .ne 12, 3, none, [], 100, 0, 0, 0) := z_ftd (by decide +kernel)
theorem t242_91 : z_ft 242 91 = some (.aload_n 0, 1, none, [], 0, 0, 0, 0) := z_ftd (by decide +kernel)
theorem t242_92 : z_ft 242 92 = some (.getfield 195, 3, none, [], 12, 60, 61, 0) := z_ftd (by decide +kernel)
theorem t242_95 : z_ft 242 95 = some (.iload 5, 2, none, [], 0, 0, 0, 0) := z_ftd (by decide +kernel)
theorem t242_97 : z_ft 242 97 = some (.iload 4, 2, none, [], 0, 0, 0, 0) := z_ftd (by decide +kernel)
theorem t242_99 : z_ft 242 99 = some (.iastore, 1, none, [], 0, 0, 0, 0) := z_ftd (by decide +kernel)
theorem t242_100 : z_ft 242 100 = some (.iinc 5 1, 3, (some [0, 3, 4, 5]), [], 0, 0, 0, 0) := z_ftd (by decide +kernel)
theorem t242_103 : z_ft 242 103 = some (.goto (-37), 3, none, [], 66, 0, 0, 0) := z_ftd (by decide +kernel)
theorem t242_106 : z_ft 242 106 = some (.return_, 1, none, [], 0, 0, 0, 0) := z_ftd (by decide +kernel)
noncomputable def b242_30 (d : Nat) (y1 : Int32) (y2 : Int32) (s0 : Int32) (S : z_S) : Option z_S := zk kV z_X0 d 242 30 [.ref 396, .int y1, .int y2, z_j, z_j, z_j] [.int s0] S
noncomputable def b242_61 (d : Nat) (y3 : Int32) (s0 : Int32) (S : z_S) : Option z_S := zk kV z_X0 d 242 61 [.ref 396, z_j, z_j, .int y3, z_j, z_j] [.int s0] S
noncomputable def b242_66 (d : Nat) (y3 : Int32) (y4 : Int32) (y5 : Int32) (S : z_S) : Option z_S := zk kV z_X0 d 242 66 [.ref 396, z_j, z_j, .int y3, .int y4, .int y5] [] S
noncomputable def b242_100 (d : Nat) (y3 : Int32) (y4 : Int32) (y5 : Int32) (S : z_S) : Option z_S := zk kV z_X0 d 242 100 [.ref 396, z_j, z_j, .int y3, .int y4, .int y5] [] S
theorem b242_30_eq (d : Nat) (y1 : Int32) (y2 : Int32) (s0 : Int32) (S : z_S) (hW : z_W S)  : b242_30 d y1 y2 s0 S = (if z_in y1 16 then (if z_in y2 16 then (if (gI S 432 (y1).toNatClampNeg) ≤ (gI S 432 (y2).toNatClampNeg) then (if z_in y1 16 then b242_61 d s0 (gI S 432 (y1).toNatClampNeg) S else none) else (if z_in y2 16 then b242_61 d s0 (gI S 432 (y2).toNatClampNeg) S else none)) else none) else none) := by
  unfold b242_30
  refine (k_istore_n (ls' := [.ref 396, .int y1, .int y2, .int s0, z_j, z_j]) t242_30 rfl rfl).trans ?_
  refine (k_aload_n t242_31 rfl rfl).trans ?_
  refine (k_getR t242_32 rfl hW zK_396 (by decide) (by decide) (zF_396_60 hW)).trans ?_
  refine (k_iload_n t242_35 rfl rfl).trans ?_
  refine (k_iald t242_36 rfl hW zK_432 zL_432).trans (z_ite (fun g6 => ?_) (fun _ => rfl))
  refine (k_aload_n t242_37 rfl rfl).trans ?_
  refine (k_getR t242_38 rfl hW zK_396 (by decide) (by decide) (zF_396_60 hW)).trans ?_
  refine (k_iload_n t242_41 rfl rfl).trans ?_
  refine (k_iald t242_42 rfl hW zK_432 zL_432).trans (z_ite (fun g7 => ?_) (fun _ => rfl))
  refine (k_icmp_le t242_43 rfl).trans (z_ite (fun g8 => ?_) (fun g8 => ?_))
  · refine (k_aload_n t242_55 rfl rfl).trans ?_
    refine (k_getR t242_56 rfl hW zK_396 (by decide) (by decide) (zF_396_60 hW)).trans ?_
    refine (k_iload_n t242_59 rfl rfl).trans ?_
    refine (k_iald t242_60 rfl hW zK_432 zL_432).trans (z_ite (fun g9 => ?_) (fun _ => rfl))
    exact (zk_mk (ls' := [.ref 396, z_j, z_j, .int s0, z_j, z_j]) t242_61 rfl)
  · refine (k_aload_n t242_46 rfl rfl).trans ?_
    refine (k_getR t242_47 rfl hW zK_396 (by decide) (by decide) (zF_396_60 hW)).trans ?_
    refine (k_iload_n t242_50 rfl rfl).trans ?_
    refine (k_iald t242_51 rfl hW zK_432 zL_432).trans (z_ite (fun g10 => ?_) (fun _ => rfl))
    refine (k_goto t242_52 rfl).trans ?_
    exact (zk_mk (ls' := [.ref 396, z_j, z_j, .int s0, z_j, z_j]) t242_61 rfl)
theorem b242_61_eq (d : Nat) (y3 : Int32) (s0 : Int32) (S : z_S) (hW : z_W S)  : b242_61 d y3 s0 S = b242_66 d y3 s0 (0 : Int32) S := by
  unfold b242_61
  refine (k_istore (ls' := [.ref 396, z_j, z_j, .int y3, .int s0, z_j]) t242_61 rfl rfl).trans ?_
  refine (k_iconst t242_63 rfl zci_0).trans ?_
  refine (k_istore (ls' := [.ref 396, z_j, z_j, .int y3, .int s0, .int (0 : Int32)]) t242_64 rfl rfl).trans ?_
  exact (zk_mk (ls' := [.ref 396, z_j, z_j, .int y3, .int s0, .int (0 : Int32)]) t242_66 rfl)
theorem b242_66_eq (d : Nat) (y3 : Int32) (y4 : Int32) (y5 : Int32) (S : z_S) (hW : z_W S)  : b242_66 d y3 y4 y5 S = (if z_in (gI S 396 13) 2 then (if (gI S 398 ((gI S 396 13)).toNatClampNeg) ≤ y5 then some S else (if z_in y5 16 then (if ¬ (gI S 432 (y5).toNatClampNeg) = y3 then b242_100 d y3 y4 y5 S else (if z_in y5 16 then b242_100 d y3 y4 y5 (sI S 432 (y5).toNatClampNeg y4) else none)) else none)) else none) := by
  unfold b242_66
  refine (k_iload t242_66 rfl rfl).trans ?_
  refine (k_aload_n t242_68 rfl rfl).trans ?_
  refine (k_getR t242_69 rfl hW zK_396 (by decide) (by decide) (zF_396_14 hW)).trans ?_
  refine (k_aload_n t242_72 rfl rfl).trans ?_
  refine (k_getI t242_73 rfl hW zK_396 (by decide) (by decide)).trans ?_
  refine (k_iald t242_76 rfl hW zK_398 zL_398).trans (z_ite (fun g11 => ?_) (fun _ => rfl))
  refine (k_icmp_ge t242_77 rfl).trans (z_ite (fun g12 => ?_) (fun g12 => ?_))
  · exact k_return t242_106 rfl (by decide)
  · refine (k_aload_n t242_80 rfl rfl).trans ?_
    refine (k_getR t242_81 rfl hW zK_396 (by decide) (by decide) (zF_396_60 hW)).trans ?_
    refine (k_iload t242_84 rfl rfl).trans ?_
    refine (k_iald t242_86 rfl hW zK_432 zL_432).trans (z_ite (fun g13 => ?_) (fun _ => rfl))
    refine (k_iload_n t242_87 rfl rfl).trans ?_
    refine (k_icmp_ne t242_88 rfl).trans (z_ite (fun g14 => ?_) (fun g14 => ?_))
    · exact (zk_mk (ls' := [.ref 396, z_j, z_j, .int y3, .int y4, .int y5]) t242_100 rfl)
    · refine (k_aload_n t242_91 rfl rfl).trans ?_
      refine (k_getR t242_92 rfl hW zK_396 (by decide) (by decide) (zF_396_60 hW)).trans ?_
      refine (k_iload t242_95 rfl rfl).trans ?_
      refine (k_iload t242_97 rfl rfl).trans ?_
      refine (k_iast t242_99 rfl hW zK_432 zL_432).trans (z_ite (fun g15 => ?_) (fun _ => rfl))
      exact (zk_mk (ls' := [.ref 396, z_j, z_j, .int y3, .int y4, .int y5]) t242_100 rfl)
theorem b242_100_eq (d : Nat) (y3 : Int32) (y4 : Int32) (y5 : Int32) (S : z_S) (hW : z_W S)  : b242_100 d y3 y4 y5 S = b242_66 d y3 y4 (y5 + (1 : Int32)) S := by
  unfold b242_100
  refine (k_iinc (b := (y5 + (1 : Int32))) (ls' := [.ref 396, z_j, z_j, .int y3, .int y4, .int (y5 + (1 : Int32))]) t242_100 rfl rfl (by rw [zci_1]) rfl).trans ?_
  refine (k_goto t242_103 rfl).trans ?_
  exact (zk_mk (ls' := [.ref 396, z_j, z_j, .int y3, .int y4, .int (y5 + (1 : Int32))]) t242_66 rfl)
-- X12_hangs
theorem e242 (d : Nat) (x1 : Int32) (x2 : Int32) (S : z_S) (hW : z_W S)  : fV (d + 1) 242 [.ref 396, .int x1, .int x2] S = (if z_in x1 16 then (if z_in x2 16 then (if (gI S 432 (x1).toNatClampNeg) ≤ (gI S 432 (x2).toNatClampNeg) then (if z_in x2 16 then b242_30 d x1 x2 (gI S 432 (x2).toNatClampNeg) S else none) else (if z_in x1 16 then b242_30 d x1 x2 (gI S 432 (x1).toNatClampNeg) S else none)) else none) else none) := by
  refine (fV_en (Nat.le_of_ble_eq_true rfl) rfl).trans ?_
  refine (k_aload_n t242_0 rfl rfl).trans ?_
  refine (k_getR t242_1 rfl hW zK_396 (by decide) (by decide) (zF_396_60 hW)).trans ?_
  refine (k_iload_n t242_4 rfl rfl).trans ?_
  refine (k_iald t242_5 rfl hW zK_432 zL_432).trans (z_ite (fun g1 => ?_) (fun _ => rfl))
  refine (k_aload_n t242_6 rfl rfl).trans ?_
  refine (k_getR t242_7 rfl hW zK_396 (by decide) (by decide) (zF_396_60 hW)).trans ?_
  refine (k_iload_n t242_10 rfl rfl).trans ?_
  refine (k_iald t242_11 rfl hW zK_432 zL_432).trans (z_ite (fun g2 => ?_) (fun _ => rfl))
  refine (k_icmp_le t242_12 rfl).trans (z_ite (fun g3 => ?_) (fun g3 => ?_))
  · refine (k_aload_n t242_24 rfl rfl).trans ?_
    refine (k_getR t242_25 rfl hW zK_396 (by decide) (by decide) (zF_396_60 hW)).trans ?_
    refine (k_iload_n t242_28 rfl rfl).trans ?_
    refine (k_iald t242_29 rfl hW zK_432 zL_432).trans (z_ite (fun g4 => ?_) (fun _ => rfl))
    exact (zk_mk (ls' := [.ref 396, .int x1, .int x2, z_j, z_j, z_j]) t242_30 rfl)
  · refine (k_aload_n t242_15 rfl rfl).trans ?_
    refine (k_getR t242_16 rfl hW zK_396 (by decide) (by decide) (zF_396_60 hW)).trans ?_
    refine (k_iload_n t242_19 rfl rfl).trans ?_
    refine (k_iald t242_20 rfl hW zK_432 zL_432).trans (z_ite (fun g5 => ?_) (fun _ => rfl))
    refine (k_goto t242_21 rfl).trans ?_
    exact (zk_mk (ls' := [.ref 396, .int x1, .int x2, z_j, z_j, z_j]) t242_30 rfl)
theorem t243_0 : z_ft 243 0 = some (.iconst 0, 1, none, [], 0, 0, 0, 0) := z_ftd (by decide +kernel)
theorem t243_1 : z_ft 243 1 = some (.istore_n 2, 1, none, [], 0, 0, 0, 0) := z_ftd (by decide +kernel)
theorem t243_2 : z_ft 243 2 = some (.iload_n 2, 1, (some [0, 1, 2]), [], 0, 0, 0, 0) := z_ftd (by decide +kernel)
theorem t243_3 : z_ft 243 3 = some (.bipush 16, 2, none, [], 0, 0, 0, 0) := z_ftd (by decide +kernel)
theorem t243_5 : z_ft 243 5 = some (.if_icmp .ge 30, 3, none, [], 35, 0, 0, 0) := z_ftd (by decide +kernel)
theorem t243_8 : z_ft 243 8 = some (.aload_n 0, 1, none, [], 0, 0, 0, 0) := z_ftd (by decide +kernel)
theorem t243_9 : z_ft 243 9 = some (.getfield 195, 3, none, [], 12, 60, 61, 0) := z_ftd (by decide +kernel)
theorem t243_12 : z_ft 243 12 = some (.iload_n 2, 1, none, [], 0, 0, 0, 0) := z_ftd (by decide +kernel)
theorem t243_13 : z_ft 243 13 = some (.iload_n 2, 1, none, [], 0, 0, 0, 0) := z_ftd (by decide +kernel)
theorem t243_14 : z_ft 243 14 = some (.iastore, 1, none, [], 0, 0, 0, 0) := z_ftd (by decide +kernel)
theorem t243_15 : z_ft 243 15 = some (.aload_n 0, 1, none, [], 0, 0, 0, 0) := z_ftd (by decide +kernel)
theorem t243_16 : z_ft 243 16 = some (.getfield 198, 3, none, [], 12, 61, 62, 0) := z_ftd (by decide +kernel)
theorem t243_19 : z_ft 243 19 = some (.iload_n 2, 1, none, [], 0, 0, 0, 0) := z_ftd (by decide +kernel)
theorem t243_20 : z_ft 243 20 = some (.iconst 0, 1, none, [], 0, 0, 0, 0) := z_ftd (by decide +kernel)
theorem t243_21 : z_ft 243 21 = some (.iastore, 1, none, [], 0, 0, 0, 0) := z_ftd (by decide +kernel)
theorem t243_22 : z_ft 243 22 = some (.aload_n 0, 1, none, [], 0, 0, 0, 0) := z_ftd (by decide +kernel)
theorem t243_23 : z_ft 243 23 = some (.getfield 201, 3, none, [], 12, 62, 63, 0) := z_ftd (by decide +kernel)
theorem t243_26 : z_ft 243 26 = some (.iload_n 2, 1, none, [], 0, 0, 0, 0) := z_ftd (by decide +kernel)
theorem t243_27 : z_ft 243 27 = some (.iconst 0, 1, none, [], 0, 0, 0, 0) := z_ftd (by decide +kernel)
theorem t243_28 : z_ft 243 28 = some (.iastore, 1, none, [], 0, 0, 0, 0) := z_ftd (by decide +kernel)
theorem t243_29 : z_ft 243 29 = some (.iinc 2 1, 3, none, [], 0, 0, 0, 0) := z_ftd (by decide +kernel)
theorem t243_32 : z_ft 243 32 = some (.goto (-30), 3, none, [], 2, 0, 0, 0) := z_ftd (by decide +kernel)
theorem t243_35 : z_ft 243 35 = some (.iconst 0, 1, none, [], 0, 0, 0, 0) := z_ftd (by decide +kernel)
theorem t243_36 : z_ft 243 36 = some (.istore_n 2, 1, none, [], 0, 0, 0, 0) := z_ftd (by decide +kernel)
theorem t243_37 : z_ft 243 37 = some (.iload_n 2, 1, (some [0, 1, 2]), [], 0, 0, 0, 0) := z_ftd (by decide +kernel)
theorem t243_38 : z_ft 243 38 = some (.aload_n 0, 1, none, [], 0, 0, 0, 0) := z_ftd (by decide +kernel)
theorem t243_39 : z_ft 243 39 = some (.getfield 66, 3, none, [], 12, 18, 19, 0) := z_ftd (by decide +kernel)
theorem t243_42 : z_ft 243 42 = some (.aload_n 0, 1, none, [], 0, 0, 0, 0) := z_ftd (by decide +kernel)
theorem t243_43 : z_ft 243 43 = some (.getfield 51, 3, none, [], 12, 13, 14, 0) := z_ftd (by decide +kernel)
theorem t243_46 : z_ft 243 46 = some (.iaload, 1, none, [], 0, 0, 0, 0) := z_ftd (by decide +kernel)
theorem t243_47 : z_ft 243 47 = some (.if_icmp .ge 55, 3, none, [], 102, 0, 0, 0) := z_ftd (by decide +kernel)
theorem t243_50 : z_ft 243 50 = some (.iload_n 1, 1, none, [], 0, 0, 0, 0) := z_ftd (by decide +kernel)
theorem t243_51 : z_ft 243 51 = some (.iload_n 2, 1, none, [], 0, 0, 0, 0) := z_ftd (by decide +kernel)
theorem t243_52 : z_ft 243 52 = some (.invokestatic 364, 3, none, [], 182, 0, 121, 0) := z_ftd (by decide +kernel)
theorem t243_55 : z_ft 243 55 = some (.ifCond .eq 41, 3, none, [], 96, 0, 0, 0) := z_ftd (by decide +kernel)
theorem t243_58 : z_ft 243 58 = some (.aload_n 0, 1, none, [], 0, 0, 0, 0) := z_ftd (by decide +kernel)
theorem t243_59 : z_ft 243 59 = some (.aload_n 0, 1, none, [], 0, 0, 0, 0) := z_ftd (by decide +kernel)
theorem t243_60 : z_ft 243 60 = some (.iload_n 2, 1, none, [], 0, 0, 0, 0) := z_ftd (by decide +kernel)
theorem t243_61 : z_ft 243 61 = some (.invokevirtual 432, 3, none, [], 210, 0, 135, 0) := z_ftd (by decide +kernel)
theorem t243_64 : z_ft 243 64 = some (.invokevirtual 515, 3, none, [], 241, 0, 174, 0) := z_ftd (by decide +kernel)
theorem t243_67 : z_ft 243 67 = some (.ifCond .eq 29, 3, none, [], 96, 0, 0, 0) := z_ftd (by decide +kernel)
theorem t243_70 : z_ft 243 70 = some (.aload_n 0, 1, none, [], 0, 0, 0, 0) := z_ftd (by decide +kernel)
theorem t243_71 : z_ft 243 71 = some (.aload_n 0, 1, none, [], 0, 0, 0, 0) := z_ftd (by decide +kernel)
theorem t243_72 : z_ft 243 72 = some (.iload_n 2, 1, none, [], 0, 0, 0, 0) := z_ftd (by decide +kernel)
theorem t243_73 : z_ft 243 73 = some (.invokevirtual 435, 3, none, [], 211, 0, 136, 0) := z_ftd (by decide +kernel)
theorem t243_76 : z_ft 243 76 = some (.invokevirtual 515, 3, none, [], 241, 0, 174, 0) := z_ftd (by decide +kernel)
theorem t243_79 : z_ft 243 79 = some (.ifCond .eq 17, 3, none, [], 96, 0, 0, 0) := z_ftd (by decide +kernel)
theorem t243_82 : z_ft 243 82 = some (.aload_n 0, 1, none, [], 0, 0, 0, 0) := z_ftd (by decide +kernel)
theorem t243_83 : z_ft 243 83 = some (.aload_n 0, 1, none, [], 0, 0, 0, 0) := z_ftd (by decide +kernel)
theorem t243_84 : z_ft 243 84 = some (.iload_n 2, 1, none, [], 0, 0, 0, 0) := z_ftd (by decide +kernel)
theorem t243_85 : z_ft 243 85 = some (.invokevirtual 432, 3, none, [], 210, 0, 135, 0) := z_ftd (by decide +kernel)
theorem t243_88 : z_ft 243 88 = some (.aload_n 0, 1, none, [], 0, 0, 0, 0) := z_ftd (by decide +kernel)
theorem t243_89 : z_ft 243 89 = some (.iload_n 2, 1, none, [], 0, 0, 0, 0) := z_ftd (by decide +kernel)
theorem t243_90 : z_ft 243 90 = some (.invokevirtual 435, 3, none, [], 211, 0, 136, 0) := z_ftd (by decide +kernel)
theorem t243_93 : z_ft 243 93 = some (.invokevirtual 518, 3, none, [], 242, 0, 175, 0) := z_ftd (by decide +kernel)
theorem t243_96 : z_ft 243 96 = some (.iinc 2 1, 3, (some [0, 1, 2]), [], 0, 0, 0, 0) := z_ftd (by decide +kernel)
theorem t243_99 : z_ft 243 99 = some (.goto (-62), 3, none, [], 37, 0, 0, 0) := z_ftd (by decide +kernel)
theorem t243_102 : z_ft 243 102 = some (.iconst 0, 1, none, [], 0, 0, 0, 0) := z_ftd (by decide +kernel)
theorem t243_103 : z_ft 243 103 = some (.istore_n 2, 1, none, [], 0, 0, 0, 0) := z_ftd (by decide +kernel)
theorem t243_104 : z_ft 243 104 = some (.iload_n 2, 1, (some [0, 1, 2]), [], 0, 0, 0, 0) := z_ftd (by decide +kernel)
theorem t243_105 : z_ft 243 105 = some (.aload_n 0, 1, none, [], 0, 0, 0, 0) := z_ftd (by decide +kernel)
theorem t243_106 : z_ft 243 106 = some (.getfield 54, 3, none, [], 12, 14, 15, 0) := z_ftd (by decide +kernel)
theorem t243_109 : z_ft 243 109 = some (.aload_n 0, 1, none, [], 0, 0, 0, 0) := z_ftd (by decide +kernel)
theorem t243_110 : z_ft 243 110 = some (.getfield 51, 3, none, [], 12, 13, 14, 0) := z_ftd (by decide +kernel)
theorem t243_113 : z_ft 243 113 = some (.iaload, 1, none, [], 0, 0, 0, 0) := z_ftd (by decide +kernel)
theorem t243_114 : z_ft 243 114 = some (.if_icmp .ge 36, 3, none, [], 150, 0, 0, 0) := z_ftd (by decide +kernel)
theorem t243_117 : z_ft 243 117 = some (.aload_n 0, 1, none, [], 0, 0, 0, 0) := z_ftd (by decide +kernel)
theorem t243_118 : z_ft 243 118 = some (.getfield 198, 3, none, [], 12, 61, 62, 0) := z_ftd (by decide +kernel)
theorem t243_121 : z_ft 243 121 = some (.aload_n 0, 1, none, [], 0, 0, 0, 0) := z_ftd (by decide +kernel)
theorem t243_122 : z_ft 243 122 = some (.getfield 195, 3, none, [], 12, 60, 61, 0) := z_ftd (by decide +kernel)
theorem t243_125 : z_ft 243 125 = some (.iload_n 2, 1, none, [], 0, 0, 0, 0) := z_ftd (by decide +kernel)
theorem t243_126 : z_ft 243 126 = some (.iaload, 1, none, [], 0, 0, 0, 0) := z_ftd (by decide +kernel)
theorem t243_127 : z_ft 243 127 = some (.dup2, 1, none, [], 0, 0, 0, 0) := z_ftd (by decide +kernel)
theorem t243_128 : z_ft 243 128 = some (.iaload, 1, none, [], 0, 0, 0, 0) := z_ftd (by decide +kernel)
theorem t243_129 : z_ft 243 129 = some (.aload_n 0, 1, none, [], 0, 0, 0, 0) := z_ftd (by decide +kernel)
theorem t243_130 : z_ft 243 130 = some (.iload_n 2, 1, none, [], 0, 0, 0, 0) := z_ftd (by decide +kernel)
theorem t243_131 : z_ft 243 131 = some (.invokevirtual 515, 3, none, [], 241, 0, 174, 0) := z_ftd (by decide +kernel)
theorem t243_134 : z_ft 243 134 = some (.ifCond .eq 7, 3, none, [], 141, 0, 0, 0) := z_ftd (by decide +kernel)
theorem t243_137 : z_ft 243 137 = some (.iconst 1, 1, none, [], 0, 0, 0, 0) := z_ftd (by decide +kernel)
theorem t243_138 : z_ft 243 138 = some (.goto 4, 3, none, [], 142, 0, 0, 0) := z_ftd (by decide +kernel)
theorem t243_141 : z_ft 243 141 = some (.iconst 0, 1, none, [], 0, 0, 0, 0) := z_ftd (by decide +kernel)
theorem t243_142 : z_ft 243 142 = some (.iadd, 1, (some [0, 1, 2]), [], 0, 0, 0, 0) := z_ftd (by decide +kernel)
theorem t243_143 : z_ft 243 143 = some (.iastore, 1, none, [], 0, 0, 0, 0) := z_ftd (by decide +kernel)
theorem t243_144 : z_ft 243 144 = some (.iinc 2 1, 3, none, [], 0, 0, 0, 0) := z_ftd (by decide +kernel)
theorem t243_147 : z_ft 243 147 = some (.goto (-43), 3, none, [], 104, 0, 0, 0) := z_ftd (by decide +kernel)
theorem t243_150 : z_ft 243 150 = some (.iconst 0, 1, none, [], 0, 0, 0, 0) := z_ftd (by decide +kernel)
theorem t243_151 : z_ft 243 151 = some (.istore_n 2, 1, none, [], 0, 0, 0, 0) := z_ftd (by decide +kernel)
theorem t243_152 : z_ft 243 152 = some (.iload_n 2, 1, (some [0, 1, 2]), [], 0, 0, 0, 0) := z_ftd (by decide +kernel)
theorem t243_153 : z_ft 243 153 = some (.aload_n 0, 1, none, [], 0, 0, 0, 0) := z_ftd (by decide +kernel)
theorem t243_154 : z_ft 243 154 = some (.getfield 66, 3, none, [], 12, 18, 19, 0) := z_ftd (by decide +kernel)
theorem t243_157 : z_ft 243 157 = some (.aload_n 0, 1, none, [], 0, 0, 0, 0) := z_ftd (by decide +kernel)
theorem t243_158 : z_ft 243 158 = some (.getfield 51, 3, none, [], 12, 13, 14, 0) := z_ftd (by decide +kernel)
theorem t243_161 : z_ft 243 161 = some (.iaload, 1, none, [], 0, 0, 0, 0) := z_ftd (by decide +kernel)
theorem t243_162 : z_ft 243 162 = some (.if_icmp .ge 69, 3, none, [], 231, 0, 0, 0) := z_ftd (by decide +kernel)
theorem t243_165 : z_ft 243 165 = some (.iload_n 1, 1, none, [], 0, 0, 0, 0) := z_ftd (by decide +kernel)
theorem t243_166 : z_ft 243 166 = some (.iload_n 2, 1, none, [], 0, 0, 0, 0) := z_ftd (by decide +kernel)
theorem t243_167 : z_ft 243 167 = some (.invokestatic 364, 3, none, [], 182, 0, 121, 0) := z_ftd (by decide +kernel)
theorem t243_170 : z_ft 243 170 = some (.ifCond .ne 6, 3, none, [], 176, 0, 0, 0) := z_ftd (by decide +kernel)
theorem t243_173 : z_ft 243 173 = some (.goto 52, 3, none, [], 225, 0, 0, 0) := z_ftd (by decide +kernel)
theorem t243_176 : z_ft 243 176 = some (.aload_n 0, 1, none, [], 0, 0, 0, 0) := z_ftd (by decide +kernel)
theorem t243_177 : z_ft 243 177 = some (.aload_n 0, 1, none, [], 0, 0, 0, 0) := z_ftd (by decide +kernel)
theorem t243_178 : z_ft 243 178 = some (.iload_n 2, 1, none, [], 0, 0, 0, 0) := z_ftd (by decide +kernel)
theorem t243_179 : z_ft 243 179 = some (.invokevirtual 432, 3, none, [], 210, 0, 135, 0) := z_ftd (by decide +kernel)
theorem t243_182 : z_ft 243 182 = some (.invokevirtual 515, 3, none, [], 241, 0, 174, 0) := z_ftd (by decide +kernel)
theorem t243_185 : z_ft 243 185 = some (.ifCond .eq 11, 3, none, [], 196, 0, 0, 0) := z_ftd (by decide +kernel)
theorem t243_188 : z_ft 243 188 = some (.aload_n 0, 1, none, [], 0, 0, 0, 0) := z_ftd (by decide +kernel)
theorem t243_189 : z_ft 243 189 = some (.iload_n 2, 1, none, [], 0, 0, 0, 0) := z_ftd (by decide +kernel)
theorem t243_190 : z_ft 243 190 = some (.invokevirtual 432, 3, none, [], 210, 0, 135, 0) := z_ftd (by decide +kernel)
theorem t243_193 : z_ft 243 193 = some (.goto 8, 3, none, [], 201, 0, 0, 0) := z_ftd (by decide +kernel)
theorem t243_196 : z_ft 243 196 = some (.aload_n 0, 1, none, [], 0, 0, 0, 0) := z_ftd (by decide +kernel)
theorem t243_197 : z_ft 243 197 = some (.iload_n 2, 1, none, [], 0, 0, 0, 0) := z_ftd (by decide +kernel)
theorem t243_198 : z_ft 243 198 = some (.invokevirtual 435, 3, none, [], 211, 0, 136, 0) := z_ftd (by decide +kernel)
theorem t243_201 : z_ft 243 201 = some (.istore_n 3, 1, (some [0, 1, 2]), [], 0, 0, 0, 0) := z_ftd (by decide +kernel)
theorem t243_202 : z_ft 243 202 = some (.aload_n 0, 1, none, [], 0, 0, 0, 0) := z_ftd (by decide +kernel)
theorem t243_203 : z_ft 243 203 = some (.iload_n 3, 1, none, [], 0, 0, 0, 0) := z_ftd (by decide +kernel)
theorem t243_204 : z_ft 243 204 = some (.invokevirtual 515, 3, none, [], 241, 0, 174, 0) := z_ftd (by decide +kernel)
theorem t243_207 : z_ft 243 207 = some (.ifCond .eq 18, 3, none, [], 225, 0, 0, 0) := z_ftd (by decide +kernel)
theorem t243_210 : z_ft 243 210 = some (.aload_n 0, 1, none, [], 0, 0, 0, 0) := z_ftd (by decide +kernel)
theorem t243_211 : z_ft 243 211 = some (.getfield 201, 3, none, [], 12, 62, 63, 0) := z_ftd (by decide +kernel)
theorem t243_214 : z_ft 243 214 = some (.aload_n 0, 1, none, [], 0, 0, 0, 0) := z_ftd (by decide +kernel)
theorem t243_215 : z_ft 243 215 = some (.getfield 195, 3, none, [], 12, 60, 61, 0) := z_ftd (by decide +kernel)
theorem t243_218 : z_ft 243 218 = some (.iload_n 3, 1, none, [], 0, 0, 0, 0) := z_ftd (by decide +kernel)
theorem t243_219 : z_ft 243 219 = some (.iaload, 1, none, [], 0, 0, 0, 0) := z_ftd (by decide +kernel)
theorem t243_220 : z_ft 243 220 = some (.dup2, 1, none, [], 0, 0, 0, 0) := z_ftd (by decide +kernel)
theorem t243_221 : z_ft 243 221 = some (.iaload, 1, none, [], 0, 0, 0, 0) := z_ftd (by decide +kernel)
theorem t243_222 : z_ft 243 222 = some (.iconst 1, 1, none, [], 0, 0, 0, 0) := z_ftd (by decide +kernel)
theorem t243_223 : z_ft 243 223 = some (.iadd, 1, none, [], 0, 0, 0, 0) := z_ftd (by decide +kernel)
theorem t243_224 : z_ft 243 224 = some (.iastore, 1, none, [], 0, 0, 0, 0) := z_ftd (by decide +kernel)
theorem t243_225 : z_ft 243 225 = some (.iinc 2 1, 3, (some [0, 1, 2]), [], 0, 0, 0, 0) := z_ftd (by decide +kernel)
theorem t243_228 : z_ft 243 228 = some (.goto (-76), 3, none, [], 152, 0, 0, 0) := z_ftd (by decide +kernel)
theorem t243_231 : z_ft 243 231 = some (.iconst 0, 1, none, [], 0, 0, 0, 0) := z_ftd (by decide +kernel)
theorem t243_232 : z_ft 243 232 = some (.istore_n 2, 1, none, [], 0, 0, 0, 0) := z_ftd (by decide +kernel)
theorem t243_233 : z_ft 243 233 = some (.iconst 0, 1, none, [], 0, 0, 0, 0) := z_ftd (by decide +kernel)
theorem t243_234 : z_ft 243 234 = some (.istore_n 3, 1, none, [], 0, 0, 0, 0) := z_ftd (by decide +kernel)
theorem t243_235 : z_ft 243 235 = some (.iload_n 3, 1, (some [0, 2, 3]), [], 0, 0, 0, 0) := z_ftd (by decide +kernel)
theorem t243_236 : z_ft 243 236 = some (.aload_n 0, 1, none, [], 0, 0, 0, 0) := z_ftd (by decide +kernel)
theorem t243_237 : z_ft 243 237 = some (.getfield 54, 3, none, [], 12, 14, 15, 0) := z_ftd (by decide +kernel)
theorem t243_240 : z_ft 243 240 = some (.aload_n 0, 1, none, [], 0, 0, 0, 0) := z_ftd (by decide +kernel)
theorem t243_241 : z_ft 243 241 = some (.getfield 51, 3, none, [], 12, 13, 14, 0) := z_ftd (by decide +kernel)
theorem t243_244 : z_ft 243 244 = some (.iaload, 1, none, [], 0, 0, 0, 0) := z_ftd (by decide +kernel)
theorem t243_245 : z_ft 243 245 = some (.if_icmp .ge 42, 3, none, [], 287, 0, 0, 0) := z_ftd (by decide +kernel)
theorem t243_248 : z_ft 243 248 = some (.iload_n 2, 1, none, [], 0, 0, 0, 0) := z_ftd (by decide +kernel)
theorem t243_249 : z_ft 243 249 = some (.aload_n 0, 1, none, [], 0, 0, 0, 0) := z_ftd (by decide +kernel)
theorem t243_250 : z_ft 243 250 = some (.getfield 198, 3, none, [], 12, 61, 62, 0) := z_ftd (by decide +kernel)
theorem t243_253 : z_ft 243 253 = some (.iload_n 3, 1, none, [], 0, 0, 0, 0) := z_ftd (by decide +kernel)
theorem t243_254 : z_ft 243 254 = some (.iaload, 1, none, [], 0, 0, 0, 0) := z_ftd (by decide +kernel)
theorem t243_255 : z_ft 243 255 = some (.aload_n 0, 1, none, [], 0, 0, 0, 0) := z_ftd (by decide +kernel)
theorem t243_256 : z_ft 243 256 = some (.getfield 201, 3, none, [], 12, 62, 63, 0) := z_ftd (by decide +kernel)
theorem t243_259 : z_ft 243 259 = some (.iload_n 3, 1, none, [], 0, 0, 0, 0) := z_ftd (by decide +kernel)
theorem t243_260 : z_ft 243 260 = some (.iaload, 1, none, [], 0, 0, 0, 0) := z_ftd (by decide +kernel)
theorem t243_261 : z_ft 243 261 = some (.if_icmp .ge 12, 3, none, [], 273, 0, 0, 0) := z_ftd (by decide +kernel)
theorem t243_264 : z_ft 243 264 = some (.aload_n 0, 1, none, [], 0, 0, 0, 0) := z_ftd (by decide +kernel)
theorem t243_265 : z_ft 243 265 = some (.getfield 198, 3, none, [], 12, 61, 62, 0) := z_ftd (by decide +kernel)
theorem t243_268 : z_ft 243 268 = some (.iload_n 3, 1, none, [], 0, 0, 0, 0) := z_ftd (by decide +kernel)
theorem t243_269 : z_ft 243 269 = some (.iaload, 1, none, [], 0, 0, 0, 0) := z_ftd (by decide +kernel)
theorem t243_270 : z_ft 243 270 = some (.goto 9, 3, none, [], 279, 0, 0, 0) := z_ftd (by decide +kernel)
theorem t243_273 : z_ft 243 273 = some (.aload_n 0, 1, none, [], 0, 0, 0, 0) := z_ftd (by decide +kernel)
theorem t243_274 : z_ft 243 274 = some (.getfield 201, 3, none, [], 12, 62, 63, 0) := z_ftd (by decide +kernel)
theorem t243_277 : z_ft 243 277 = some (.iload_n 3, 1, none, [], 0, 0, 0, 0) := z_ftd (by decide +kernel)
theorem t243_278 : z_ft 243 278 = some (.iaload, 1, none, [], 0, 0, 0, 0) := z_ftd (by decide +kernel)
theorem t243_279 : z_ft 243 279 = some (.iadd, 1, (some [0, 3]), [], 0, 0, 0, 0) := z_ftd (by decide +kernel)
theorem t243_280 : z_ft 243 280 = some (.istore_n 2, 1, none, [], 0, 0, 0, 0) := z_ftd (by decide +kernel)
theorem t243_281 : z_ft 243 281 = some (.iinc 3 1, 3, none, [], 0, 0, 0, 0) := z_ftd (by decide +kernel)
theorem t243_284 : z_ft 243 284 = some (.goto (-49), 3, none, [], 235, 0, 0, 0) := z_ftd (by decide +kernel)
theorem t243_287 : z_ft 243 287 = some (.iload_n 2, 1, none, [], 0, 0, 0, 0) := z_ftd (by decide +kernel)
theorem t243_288 : z_ft 243 288 = some (.ireturn, 1, none, [], 0, 0, 0, 0) := z_ftd (by decide +kernel)
noncomputable def b243_2 (d : Nat) (y1 : Int32) (y2 : Int32) (S : z_S) : Option (Int32 × z_S) := zk kI z_X0 d 243 2 [.ref 396, .int y1, .int y2, z_j] [] S
noncomputable def b243_37 (d : Nat) (y1 : Int32) (y2 : Int32) (S : z_S) : Option (Int32 × z_S) := zk kI z_X0 d 243 37 [.ref 396, .int y1, .int y2, z_j] [] S
noncomputable def b243_104 (d : Nat) (y1 : Int32) (y2 : Int32) (S : z_S) : Option (Int32 × z_S) := zk kI z_X0 d 243 104 [.ref 396, .int y1, .int y2, z_j] [] S
noncomputable def b243_96 (d : Nat) (y1 : Int32) (y2 : Int32) (S : z_S) : Option (Int32 × z_S) := zk kI z_X0 d 243 96 [.ref 396, .int y1, .int y2, z_j] [] S
noncomputable def b243_152 (d : Nat) (y1 : Int32) (y2 : Int32) (S : z_S) : Option (Int32 × z_S) := zk kI z_X0 d 243 152 [.ref 396, .int y1, .int y2, z_j] [] S
noncomputable def b243_142 (d : Nat) (y1 : Int32) (y2 : Int32) (s0 : Int32) (s1 : Int32) (s2 : Int32) (S : z_S) : Option (Int32 × z_S) := zk kI z_X0 d 243 142 [.ref 396, .int y1, .int y2, z_j] [.int s0, .int s1, .int s2, .ref 433] S
noncomputable def b243_235 (d : Nat) (y2 : Int32) (y3 : Int32) (S : z_S) : Option (Int32 × z_S) := zk kI z_X0 d 243 235 [.ref 396, z_j, .int y2, .int y3] [] S
noncomputable def b243_201 (d : Nat) (y1 : Int32) (y2 : Int32) (s0 : Int32) (S : z_S) : Option (Int32 × z_S) := zk kI z_X0 d 243 201 [.ref 396, .int y1, .int y2, z_j] [.int s0] S
noncomputable def b243_225 (d : Nat) (y1 : Int32) (y2 : Int32) (S : z_S) : Option (Int32 × z_S) := zk kI z_X0 d 243 225 [.ref 396, .int y1, .int y2, z_j] [] S
noncomputable def b243_279 (d : Nat) (y3 : Int32) (s0 : Int32) (s1 : Int32) (S : z_S) : Option (Int32 × z_S) := zk kI z_X0 d 243 279 [.ref 396, z_j, z_j, .int y3] [.int s0, .int s1] S
theorem b243_2_eq (d : Nat) (y1 : Int32) (y2 : Int32) (S : z_S) (hW : z_W S)  : b243_2 d y1 y2 S = (if (16 : Int32) ≤ y2 then b243_37 d y1 (0 : Int32) S else (if z_in y2 16 then (if z_in y2 16 then (if z_in y2 16 then b243_2 d y1 (y2 + (1 : Int32)) (sI (sI (sI S 432 (y2).toNatClampNeg y2) 433 (y2).toNatClampNeg (0 : Int32)) 434 (y2).toNatClampNeg (0 : Int32)) else none) else none) else none)) := by
  unfold b243_2
  refine (k_iload_n t243_2 rfl rfl).trans ?_
  refine (k_bipush t243_3 rfl zcb_16).trans ?_
  refine (k_icmp_ge t243_5 rfl).trans (z_ite (fun g1 => ?_) (fun g1 => ?_))
  · refine (k_iconst t243_35 rfl zci_0).trans ?_
    refine (k_istore_n (ls' := [.ref 396, .int y1, .int (0 : Int32), z_j]) t243_36 rfl rfl).trans ?_
    exact (zk_mk (ls' := [.ref 396, .int y1, .int (0 : Int32), z_j]) t243_37 rfl)
  · refine (k_aload_n t243_8 rfl rfl).trans ?_
    refine (k_getR t243_9 rfl hW zK_396 (by decide) (by decide) (zF_396_60 hW)).trans ?_
    refine (k_iload_n t243_12 rfl rfl).trans ?_
    refine (k_iload_n t243_13 rfl rfl).trans ?_
    refine (k_iast t243_14 rfl hW zK_432 zL_432).trans (z_ite (fun g2 => ?_) (fun _ => rfl))
    refine (k_aload_n t243_15 rfl rfl).trans ?_
    refine (k_getR t243_16 rfl hW.sI zK_396 (by decide) (by decide) (zF_396_61 hW.sI)).trans ?_
    refine (k_iload_n t243_19 rfl rfl).trans ?_
    refine (k_iconst t243_20 rfl zci_0).trans ?_
    refine (k_iast t243_21 rfl hW.sI zK_433 zL_433).trans (z_ite (fun g3 => ?_) (fun _ => rfl))
    refine (k_aload_n t243_22 rfl rfl).trans ?_
    refine (k_getR t243_23 rfl hW.sI.sI zK_396 (by decide) (by decide) (zF_396_62 hW.sI.sI)).trans ?_
    refine (k_iload_n t243_26 rfl rfl).trans ?_
    refine (k_iconst t243_27 rfl zci_0).trans ?_
    refine (k_iast t243_28 rfl hW.sI.sI zK_434 zL_434).trans (z_ite (fun g4 => ?_) (fun _ => rfl))
    refine (k_iinc (b := (y2 + (1 : Int32))) (ls' := [.ref 396, .int y1, .int (y2 + (1 : Int32)), z_j]) t243_29 rfl rfl (by rw [zci_1]) rfl).trans ?_
    refine (k_goto t243_32 rfl).trans ?_
    exact (zk_mk (ls' := [.ref 396, .int y1, .int (y2 + (1 : Int32)), z_j]) t243_2 rfl)
theorem b243_37_eq (d : Nat) (y1 : Int32) (y2 : Int32) (S : z_S) (hW : z_W S)  : b243_37 d y1 y2 S = (if z_in (gI S 396 13) 2 then (if (gI S 402 ((gI S 396 13)).toNatClampNeg) ≤ y2 then b243_104 d y1 (0 : Int32) S else (zb (fI d 182 [.int y1, .int y2] S) fun v7 S8 => (if v7 = (0 : Int32) then b243_96 d y1 y2 S8 else (zb (fI d 210 [.ref 396, .int y2] S8) fun v10 S11 => (zb (fI d 241 [.ref 396, .int v10] S11) fun v12 S13 => (if v12 = (0 : Int32) then b243_96 d y1 y2 S13 else (zb (fI d 211 [.ref 396, .int y2] S13) fun v15 S16 => (zb (fI d 241 [.ref 396, .int v15] S16) fun v17 S18 => (if v17 = (0 : Int32) then b243_96 d y1 y2 S18 else (zb (fI d 210 [.ref 396, .int y2] S18) fun v20 S21 => (zb (fI d 211 [.ref 396, .int y2] S21) fun v22 S23 => ((fV d 242 [.ref 396, .int v20, .int v22] S23).bind fun S25 => b243_96 d y1 y2 S25)))))))))))) else none) := by
  unfold b243_37
  refine (k_iload_n t243_37 rfl rfl).trans ?_
  refine (k_aload_n t243_38 rfl rfl).trans ?_
  refine (k_getR t243_39 rfl hW zK_396 (by decide) (by decide) (zF_396_18 hW)).trans ?_
  refine (k_aload_n t243_42 rfl rfl).trans ?_
  refine (k_getI t243_43 rfl hW zK_396 (by decide) (by decide)).trans ?_
  refine (k_iald t243_46 rfl hW zK_402 zL_402).trans (z_ite (fun g5 => ?_) (fun _ => rfl))
  refine (k_icmp_ge t243_47 rfl).trans (z_ite (fun g6 => ?_) (fun g6 => ?_))
  · refine (k_iconst t243_102 rfl zci_0).trans ?_
    refine (k_istore_n (ls' := [.ref 396, .int y1, .int (0 : Int32), z_j]) t243_103 rfl rfl).trans ?_
    exact (zk_mk (ls' := [.ref 396, .int y1, .int (0 : Int32), z_j]) t243_104 rfl)
  · refine (k_iload_n t243_50 rfl rfl).trans ?_
    refine (k_iload_n t243_51 rfl rfl).trans ?_
    refine k_callI (as := [.int y1, .int y2]) (rest := []) t243_52 rfl rfl (by decide) rfl rfl (Nat.le_of_ble_eq_true rfl) rfl (z_rcS (by decide)) (by decide) (Or.inr (by decide)) hW (fun v7 S8 hW8 => ?_)
    refine (k_if_eq t243_55 rfl).trans (z_ite (fun g9 => ?_) (fun g9 => ?_))
    · exact (zk_mk (ls' := [.ref 396, .int y1, .int y2, z_j]) t243_96 rfl)
    · refine (k_aload_n t243_58 rfl rfl).trans ?_
      refine (k_aload_n t243_59 rfl rfl).trans ?_
      refine (k_iload_n t243_60 rfl rfl).trans ?_
      refine k_callI (as := [.ref 396, .int y2]) (rest := [.ref 396]) t243_61 rfl rfl (by decide) rfl rfl (Nat.le_of_ble_eq_true rfl) rfl (z_rcV hW8 (zK_396) (by decide)) (by decide) (Or.inl (by decide)) hW8 (fun v10 S11 hW11 => ?_)
      refine k_callI (as := [.ref 396, .int v10]) (rest := []) t243_64 rfl rfl (by decide) rfl rfl (Nat.le_of_ble_eq_true rfl) rfl (z_rcV hW11 (zK_396) (by decide)) (by decide) (Or.inr (by decide)) hW11 (fun v12 S13 hW13 => ?_)
      refine (k_if_eq t243_67 rfl).trans (z_ite (fun g14 => ?_) (fun g14 => ?_))
      · exact (zk_mk (ls' := [.ref 396, .int y1, .int y2, z_j]) t243_96 rfl)
      · refine (k_aload_n t243_70 rfl rfl).trans ?_
        refine (k_aload_n t243_71 rfl rfl).trans ?_
        refine (k_iload_n t243_72 rfl rfl).trans ?_
        refine k_callI (as := [.ref 396, .int y2]) (rest := [.ref 396]) t243_73 rfl rfl (by decide) rfl rfl (Nat.le_of_ble_eq_true rfl) rfl (z_rcV hW13 (zK_396) (by decide)) (by decide) (Or.inl (by decide)) hW13 (fun v15 S16 hW16 => ?_)
        refine k_callI (as := [.ref 396, .int v15]) (rest := []) t243_76 rfl rfl (by decide) rfl rfl (Nat.le_of_ble_eq_true rfl) rfl (z_rcV hW16 (zK_396) (by decide)) (by decide) (Or.inr (by decide)) hW16 (fun v17 S18 hW18 => ?_)
        refine (k_if_eq t243_79 rfl).trans (z_ite (fun g19 => ?_) (fun g19 => ?_))
        · exact (zk_mk (ls' := [.ref 396, .int y1, .int y2, z_j]) t243_96 rfl)
        · refine (k_aload_n t243_82 rfl rfl).trans ?_
          refine (k_aload_n t243_83 rfl rfl).trans ?_
          refine (k_iload_n t243_84 rfl rfl).trans ?_
          refine k_callI (as := [.ref 396, .int y2]) (rest := [.ref 396]) t243_85 rfl rfl (by decide) rfl rfl (Nat.le_of_ble_eq_true rfl) rfl (z_rcV hW18 (zK_396) (by decide)) (by decide) (Or.inl (by decide)) hW18 (fun v20 S21 hW21 => ?_)
          refine (k_aload_n t243_88 rfl rfl).trans ?_
          refine (k_iload_n t243_89 rfl rfl).trans ?_
          refine k_callI (as := [.ref 396, .int y2]) (rest := [.int v20, .ref 396]) t243_90 rfl rfl (by decide) rfl rfl (Nat.le_of_ble_eq_true rfl) rfl (z_rcV hW21 (zK_396) (by decide)) (by decide) (Or.inl (by decide)) hW21 (fun v22 S23 hW23 => ?_)
          refine k_callV (as := [.ref 396, .int v20, .int v22]) (rest := []) t243_93 rfl rfl (by decide) rfl rfl (Nat.le_of_ble_eq_true rfl) rfl (z_rcV hW23 (zK_396) (by decide)) (by decide) (by decide) hW23 (fun S25 hW25 => ?_)
          exact (zk_mk (ls' := [.ref 396, .int y1, .int y2, z_j]) t243_96 rfl)
theorem b243_104_eq (d : Nat) (y1 : Int32) (y2 : Int32) (S : z_S) (hW : z_W S)  : b243_104 d y1 y2 S = (if z_in (gI S 396 13) 2 then (if (gI S 398 ((gI S 396 13)).toNatClampNeg) ≤ y2 then b243_152 d y1 (0 : Int32) S else (if z_in y2 16 then (if z_in (gI S 432 (y2).toNatClampNeg) 16 then (zb (fI d 241 [.ref 396, .int y2] S) fun v30 S31 => (if v30 = (0 : Int32) then b243_142 d y1 y2 (0 : Int32) (gI S 433 ((gI S 432 (y2).toNatClampNeg)).toNatClampNeg) (gI S 432 (y2).toNatClampNeg) S31 else b243_142 d y1 y2 (1 : Int32) (gI S 433 ((gI S 432 (y2).toNatClampNeg)).toNatClampNeg) (gI S 432 (y2).toNatClampNeg) S31)) else none) else none)) else none) := by
  unfold b243_104
  refine (k_iload_n t243_104 rfl rfl).trans ?_
  refine (k_aload_n t243_105 rfl rfl).trans ?_
  refine (k_getR t243_106 rfl hW zK_396 (by decide) (by decide) (zF_396_14 hW)).trans ?_
  refine (k_aload_n t243_109 rfl rfl).trans ?_
  refine (k_getI t243_110 rfl hW zK_396 (by decide) (by decide)).trans ?_
  refine (k_iald t243_113 rfl hW zK_398 zL_398).trans (z_ite (fun g26 => ?_) (fun _ => rfl))
  refine (k_icmp_ge t243_114 rfl).trans (z_ite (fun g27 => ?_) (fun g27 => ?_))
  · refine (k_iconst t243_150 rfl zci_0).trans ?_
    refine (k_istore_n (ls' := [.ref 396, .int y1, .int (0 : Int32), z_j]) t243_151 rfl rfl).trans ?_
    exact (zk_mk (ls' := [.ref 396, .int y1, .int (0 : Int32), z_j]) t243_152 rfl)
  · refine (k_aload_n t243_117 rfl rfl).trans ?_
    refine (k_getR t243_118 rfl hW zK_396 (by decide) (by decide) (zF_396_61 hW)).trans ?_
    refine (k_aload_n t243_121 rfl rfl).trans ?_
    refine (k_getR t243_122 rfl hW zK_396 (by decide) (by decide) (zF_396_60 hW)).trans ?_
    refine (k_iload_n t243_125 rfl rfl).trans ?_
    refine (k_iald t243_126 rfl hW zK_432 zL_432).trans (z_ite (fun g28 => ?_) (fun _ => rfl))
    refine (k_dup2IR t243_127 rfl).trans ?_
    refine (k_iald t243_128 rfl hW zK_433 zL_433).trans (z_ite (fun g29 => ?_) (fun _ => rfl))
    refine (k_aload_n t243_129 rfl rfl).trans ?_
    refine (k_iload_n t243_130 rfl rfl).trans ?_
    refine k_callI (as := [.ref 396, .int y2]) (rest := [.int (gI S 433 ((gI S 432 (y2).toNatClampNeg)).toNatClampNeg), .int (gI S 432 (y2).toNatClampNeg), .ref 433]) t243_131 rfl rfl (by decide) rfl rfl (Nat.le_of_ble_eq_true rfl) rfl (z_rcV hW (zK_396) (by decide)) (by decide) (Or.inr (by decide)) hW (fun v30 S31 hW31 => ?_)
    refine (k_if_eq t243_134 rfl).trans (z_ite (fun g32 => ?_) (fun g32 => ?_))
    · refine (k_iconst t243_141 rfl zci_0).trans ?_
      exact (zk_mk (ls' := [.ref 396, .int y1, .int y2, z_j]) t243_142 rfl)
    · refine (k_iconst t243_137 rfl zci_1).trans ?_
      refine (k_goto t243_138 rfl).trans ?_
      exact (zk_mk (ls' := [.ref 396, .int y1, .int y2, z_j]) t243_142 rfl)
theorem b243_96_eq (d : Nat) (y1 : Int32) (y2 : Int32) (S : z_S) (hW : z_W S)  : b243_96 d y1 y2 S = b243_37 d y1 (y2 + (1 : Int32)) S := by
  unfold b243_96
  refine (k_iinc (b := (y2 + (1 : Int32))) (ls' := [.ref 396, .int y1, .int (y2 + (1 : Int32)), z_j]) t243_96 rfl rfl (by rw [zci_1]) rfl).trans ?_
  refine (k_goto t243_99 rfl).trans ?_
  exact (zk_mk (ls' := [.ref 396, .int y1, .int (y2 + (1 : Int32)), z_j]) t243_37 rfl)
theorem b243_152_eq (d : Nat) (y1 : Int32) (y2 : Int32) (S : z_S) (hW : z_W S)  : b243_152 d y1 y2 S = (if z_in (gI S 396 13) 2 then (if (gI S 402 ((gI S 396 13)).toNatClampNeg) ≤ y2 then b243_235 d (0 : Int32) (0 : Int32) S else (zb (fI d 182 [.int y1, .int y2] S) fun v35 S36 => (if ¬ v35 = (0 : Int32) then (zb (fI d 210 [.ref 396, .int y2] S36) fun v38 S39 => (zb (fI d 241 [.ref 396, .int v38] S39) fun v40 S41 => (if v40 = (0 : Int32) then (zb (fI d 211 [.ref 396, .int y2] S41) fun v43 S44 => b243_201 d y1 y2 v43 S44) else (zb (fI d 210 [.ref 396, .int y2] S41) fun v45 S46 => b243_201 d y1 y2 v45 S46)))) else b243_225 d y1 y2 S36))) else none) := by
  unfold b243_152
  refine (k_iload_n t243_152 rfl rfl).trans ?_
  refine (k_aload_n t243_153 rfl rfl).trans ?_
  refine (k_getR t243_154 rfl hW zK_396 (by decide) (by decide) (zF_396_18 hW)).trans ?_
  refine (k_aload_n t243_157 rfl rfl).trans ?_
  refine (k_getI t243_158 rfl hW zK_396 (by decide) (by decide)).trans ?_
  refine (k_iald t243_161 rfl hW zK_402 zL_402).trans (z_ite (fun g33 => ?_) (fun _ => rfl))
  refine (k_icmp_ge t243_162 rfl).trans (z_ite (fun g34 => ?_) (fun g34 => ?_))
  · refine (k_iconst t243_231 rfl zci_0).trans ?_
    refine (k_istore_n (ls' := [.ref 396, .int y1, .int (0 : Int32), z_j]) t243_232 rfl rfl).trans ?_
    refine (k_iconst t243_233 rfl zci_0).trans ?_
    refine (k_istore_n (ls' := [.ref 396, .int y1, .int (0 : Int32), .int (0 : Int32)]) t243_234 rfl rfl).trans ?_
    exact (zk_mk (ls' := [.ref 396, z_j, .int (0 : Int32), .int (0 : Int32)]) t243_235 rfl)
  · refine (k_iload_n t243_165 rfl rfl).trans ?_
    refine (k_iload_n t243_166 rfl rfl).trans ?_
    refine k_callI (as := [.int y1, .int y2]) (rest := []) t243_167 rfl rfl (by decide) rfl rfl (Nat.le_of_ble_eq_true rfl) rfl (z_rcS (by decide)) (by decide) (Or.inr (by decide)) hW (fun v35 S36 hW36 => ?_)
    refine (k_if_ne t243_170 rfl).trans (z_ite (fun g37 => ?_) (fun g37 => ?_))
    · refine (k_aload_n t243_176 rfl rfl).trans ?_
      refine (k_aload_n t243_177 rfl rfl).trans ?_
      refine (k_iload_n t243_178 rfl rfl).trans ?_
      refine k_callI (as := [.ref 396, .int y2]) (rest := [.ref 396]) t243_179 rfl rfl (by decide) rfl rfl (Nat.le_of_ble_eq_true rfl) rfl (z_rcV hW36 (zK_396) (by decide)) (by decide) (Or.inl (by decide)) hW36 (fun v38 S39 hW39 => ?_)
      refine k_callI (as := [.ref 396, .int v38]) (rest := []) t243_182 rfl rfl (by decide) rfl rfl (Nat.le_of_ble_eq_true rfl) rfl (z_rcV hW39 (zK_396) (by decide)) (by decide) (Or.inr (by decide)) hW39 (fun v40 S41 hW41 => ?_)
      refine (k_if_eq t243_185 rfl).trans (z_ite (fun g42 => ?_) (fun g42 => ?_))
      · refine (k_aload_n t243_196 rfl rfl).trans ?_
        refine (k_iload_n t243_197 rfl rfl).trans ?_
        refine k_callI (as := [.ref 396, .int y2]) (rest := []) t243_198 rfl rfl (by decide) rfl rfl (Nat.le_of_ble_eq_true rfl) rfl (z_rcV hW41 (zK_396) (by decide)) (by decide) (Or.inl (by decide)) hW41 (fun v43 S44 hW44 => ?_)
        exact (zk_mk (ls' := [.ref 396, .int y1, .int y2, z_j]) t243_201 rfl)
      · refine (k_aload_n t243_188 rfl rfl).trans ?_
        refine (k_iload_n t243_189 rfl rfl).trans ?_
        refine k_callI (as := [.ref 396, .int y2]) (rest := []) t243_190 rfl rfl (by decide) rfl rfl (Nat.le_of_ble_eq_true rfl) rfl (z_rcV hW41 (zK_396) (by decide)) (by decide) (Or.inl (by decide)) hW41 (fun v45 S46 hW46 => ?_)
        refine (k_goto t243_193 rfl).trans ?_
        exact (zk_mk (ls' := [.ref 396, .int y1, .int y2, z_j]) t243_201 rfl)
    · refine (k_goto t243_173 rfl).trans ?_
      exact (zk_mk (ls' := [.ref 396, .int y1, .int y2, z_j]) t243_225 rfl)
theorem b243_142_eq (d : Nat) (y1 : Int32) (y2 : Int32) (s0 : Int32) (s1 : Int32) (s2 : Int32) (S : z_S) (hW : z_W S)  : b243_142 d y1 y2 s0 s1 s2 S = (if z_in s2 16 then b243_104 d y1 (y2 + (1 : Int32)) (sI S 433 (s2).toNatClampNeg (s1 + s0)) else none) := by
  unfold b243_142
  refine (k_iadd t243_142 rfl).trans ?_
  refine (k_iast t243_143 rfl hW zK_433 zL_433).trans (z_ite (fun g47 => ?_) (fun _ => rfl))
  refine (k_iinc (b := (y2 + (1 : Int32))) (ls' := [.ref 396, .int y1, .int (y2 + (1 : Int32)), z_j]) t243_144 rfl rfl (by rw [zci_1]) rfl).trans ?_
  refine (k_goto t243_147 rfl).trans ?_
  exact (zk_mk (ls' := [.ref 396, .int y1, .int (y2 + (1 : Int32)), z_j]) t243_104 rfl)
theorem b243_235_eq (d : Nat) (y2 : Int32) (y3 : Int32) (S : z_S) (hW : z_W S)  : b243_235 d y2 y3 S = (if z_in (gI S 396 13) 2 then (if (gI S 398 ((gI S 396 13)).toNatClampNeg) ≤ y3 then some (y2, S) else (if z_in y3 16 then (if z_in y3 16 then (if (gI S 434 (y3).toNatClampNeg) ≤ (gI S 433 (y3).toNatClampNeg) then (if z_in y3 16 then b243_279 d y3 (gI S 434 (y3).toNatClampNeg) y2 S else none) else (if z_in y3 16 then b243_279 d y3 (gI S 433 (y3).toNatClampNeg) y2 S else none)) else none) else none)) else none) := by
  unfold b243_235
  refine (k_iload_n t243_235 rfl rfl).trans ?_
  refine (k_aload_n t243_236 rfl rfl).trans ?_
  refine (k_getR t243_237 rfl hW zK_396 (by decide) (by decide) (zF_396_14 hW)).trans ?_
  refine (k_aload_n t243_240 rfl rfl).trans ?_
  refine (k_getI t243_241 rfl hW zK_396 (by decide) (by decide)).trans ?_
  refine (k_iald t243_244 rfl hW zK_398 zL_398).trans (z_ite (fun g48 => ?_) (fun _ => rfl))
  refine (k_icmp_ge t243_245 rfl).trans (z_ite (fun g49 => ?_) (fun g49 => ?_))
  · refine (k_iload_n t243_287 rfl rfl).trans ?_
    exact k_ireturn t243_288 rfl (by decide)
  · refine (k_iload_n t243_248 rfl rfl).trans ?_
    refine (k_aload_n t243_249 rfl rfl).trans ?_
    refine (k_getR t243_250 rfl hW zK_396 (by decide) (by decide) (zF_396_61 hW)).trans ?_
    refine (k_iload_n t243_253 rfl rfl).trans ?_
    refine (k_iald t243_254 rfl hW zK_433 zL_433).trans (z_ite (fun g50 => ?_) (fun _ => rfl))
    refine (k_aload_n t243_255 rfl rfl).trans ?_
    refine (k_getR t243_256 rfl hW zK_396 (by decide) (by decide) (zF_396_62 hW)).trans ?_
    refine (k_iload_n t243_259 rfl rfl).trans ?_
    refine (k_iald t243_260 rfl hW zK_434 zL_434).trans (z_ite (fun g51 => ?_) (fun _ => rfl))
    refine (k_icmp_ge t243_261 rfl).trans (z_ite (fun g52 => ?_) (fun g52 => ?_))
    · refine (k_aload_n t243_273 rfl rfl).trans ?_
      refine (k_getR t243_274 rfl hW zK_396 (by decide) (by decide) (zF_396_62 hW)).trans ?_
      refine (k_iload_n t243_277 rfl rfl).trans ?_
      refine (k_iald t243_278 rfl hW zK_434 zL_434).trans (z_ite (fun g53 => ?_) (fun _ => rfl))
      exact (zk_mk (ls' := [.ref 396, z_j, z_j, .int y3]) t243_279 rfl)
    · refine (k_aload_n t243_264 rfl rfl).trans ?_
      refine (k_getR t243_265 rfl hW zK_396 (by decide) (by decide) (zF_396_61 hW)).trans ?_
      refine (k_iload_n t243_268 rfl rfl).trans ?_
      refine (k_iald t243_269 rfl hW zK_433 zL_433).trans (z_ite (fun g54 => ?_) (fun _ => rfl))
      refine (k_goto t243_270 rfl).trans ?_
      exact (zk_mk (ls' := [.ref 396, z_j, z_j, .int y3]) t243_279 rfl)
theorem b243_201_eq (d : Nat) (y1 : Int32) (y2 : Int32) (s0 : Int32) (S : z_S) (hW : z_W S)  : b243_201 d y1 y2 s0 S = (zb (fI d 241 [.ref 396, .int s0] S) fun v55 S56 => (if v55 = (0 : Int32) then b243_225 d y1 y2 S56 else (if z_in s0 16 then (if z_in (gI S56 432 (s0).toNatClampNeg) 16 then (if z_in (gI S56 432 (s0).toNatClampNeg) 16 then b243_225 d y1 y2 (sI S56 434 ((gI S56 432 (s0).toNatClampNeg)).toNatClampNeg ((gI S56 434 ((gI S56 432 (s0).toNatClampNeg)).toNatClampNeg) + (1 : Int32))) else none) else none) else none))) := by
  unfold b243_201
  refine (k_istore_n (ls' := [.ref 396, .int y1, .int y2, .int s0]) t243_201 rfl rfl).trans ?_
  refine (k_aload_n t243_202 rfl rfl).trans ?_
  refine (k_iload_n t243_203 rfl rfl).trans ?_
  refine k_callI (as := [.ref 396, .int s0]) (rest := []) t243_204 rfl rfl (by decide) rfl rfl (Nat.le_of_ble_eq_true rfl) rfl (z_rcV hW (zK_396) (by decide)) (by decide) (Or.inr (by decide)) hW (fun v55 S56 hW56 => ?_)
  refine (k_if_eq t243_207 rfl).trans (z_ite (fun g57 => ?_) (fun g57 => ?_))
  · exact (zk_mk (ls' := [.ref 396, .int y1, .int y2, z_j]) t243_225 rfl)
  · refine (k_aload_n t243_210 rfl rfl).trans ?_
    refine (k_getR t243_211 rfl hW56 zK_396 (by decide) (by decide) (zF_396_62 hW56)).trans ?_
    refine (k_aload_n t243_214 rfl rfl).trans ?_
    refine (k_getR t243_215 rfl hW56 zK_396 (by decide) (by decide) (zF_396_60 hW56)).trans ?_
    refine (k_iload_n t243_218 rfl rfl).trans ?_
    refine (k_iald t243_219 rfl hW56 zK_432 zL_432).trans (z_ite (fun g58 => ?_) (fun _ => rfl))
    refine (k_dup2IR t243_220 rfl).trans ?_
    refine (k_iald t243_221 rfl hW56 zK_434 zL_434).trans (z_ite (fun g59 => ?_) (fun _ => rfl))
    refine (k_iconst t243_222 rfl zci_1).trans ?_
    refine (k_iadd t243_223 rfl).trans ?_
    refine (k_iast t243_224 rfl hW56 zK_434 zL_434).trans (z_ite (fun g60 => ?_) (fun _ => rfl))
    exact (zk_mk (ls' := [.ref 396, .int y1, .int y2, z_j]) t243_225 rfl)
theorem b243_225_eq (d : Nat) (y1 : Int32) (y2 : Int32) (S : z_S) (hW : z_W S)  : b243_225 d y1 y2 S = b243_152 d y1 (y2 + (1 : Int32)) S := by
  unfold b243_225
  refine (k_iinc (b := (y2 + (1 : Int32))) (ls' := [.ref 396, .int y1, .int (y2 + (1 : Int32)), z_j]) t243_225 rfl rfl (by rw [zci_1]) rfl).trans ?_
  refine (k_goto t243_228 rfl).trans ?_
  exact (zk_mk (ls' := [.ref 396, .int y1, .int (y2 + (1 : Int32)), z_j]) t243_152 rfl)
theorem b243_279_eq (d : Nat) (y3 : Int32) (s0 : Int32) (s1 : Int32) (S : z_S) (hW : z_W S)  : b243_279 d y3 s0 s1 S = b243_235 d (s1 + s0) (y3 + (1 : Int32)) S := by
  unfold b243_279
  refine (k_iadd t243_279 rfl).trans ?_
  refine (k_istore_n (ls' := [.ref 396, z_j, .int (s1 + s0), .int y3]) t243_280 rfl rfl).trans ?_
  refine (k_iinc (b := (y3 + (1 : Int32))) (ls' := [.ref 396, z_j, .int (s1 + s0), .int (y3 + (1 : Int32))]) t243_281 rfl rfl (by rw [zci_1]) rfl).trans ?_
  refine (k_goto t243_284 rfl).trans ?_
  exact (zk_mk (ls' := [.ref 396, z_j, .int (s1 + s0), .int (y3 + (1 : Int32))]) t243_235 rfl)
-- X12_together
theorem e243 (d : Nat) (x1 : Int32) (S : z_S) (hW : z_W S)  : fI (d + 1) 243 [.ref 396, .int x1] S = b243_2 d x1 (0 : Int32) S := by
  refine (fI_en (Nat.le_of_ble_eq_true rfl) rfl).trans ?_
  refine (k_iconst t243_0 rfl zci_0).trans ?_
  refine (k_istore_n (ls' := [.ref 396, .int x1, .int (0 : Int32), z_j]) t243_1 rfl rfl).trans ?_
  exact (zk_mk (ls' := [.ref 396, .int x1, .int (0 : Int32), z_j]) t243_2 rfl)
theorem t244_0 : z_ft 244 0 = some (.iload_n 1, 1, none, [], 0, 0, 0, 0) := z_ftd (by decide +kernel)
theorem t244_1 : z_ft 244 1 = some (.ifCond .lt 22, 3, none, [], 23, 0, 0, 0) := z_ftd (by decide +kernel)
theorem t244_4 : z_ft 244 4 = some (.iload_n 1, 1, none, [], 0, 0, 0, 0) := z_ftd (by decide +kernel)
theorem t244_5 : z_ft 244 5 = some (.iconst 1, 1, none, [], 0, 0, 0, 0) := z_ftd (by decide +kernel)
theorem t244_6 : z_ft 244 6 = some (.aload_n 0, 1, none, [], 0, 0, 0, 0) := z_ftd (by decide +kernel)
theorem t244_7 : z_ft 244 7 = some (.getfield 66, 3, none, [], 12, 18, 19, 0) := z_ftd (by decide +kernel)
theorem t244_10 : z_ft 244 10 = some (.aload_n 0, 1, none, [], 0, 0, 0, 0) := z_ftd (by decide +kernel)
theorem t244_11 : z_ft 244 11 = some (.getfield 51, 3, none, [], 12, 13, 14, 0) := z_ftd (by decide +kernel)
theorem t244_14 : z_ft 244 14 = some (.iaload, 1, none, [], 0, 0, 0, 0) := z_ftd (by decide +kernel)
theorem t244_15 : z_ft 244 15 = some (.ishl, 1, none, [], 0, 0, 0, 0) := z_ftd (by decide +kernel)
theorem t244_16 : z_ft 244 16 = some (.if_icmp .ge 7, 3, none, [], 23, 0, 0, 0) := z_ftd (by decide +kernel)
theorem t244_19 : z_ft 244 19 = some (.iconst 1, 1, none, [], 0, 0, 0, 0) := z_ftd (by decide +kernel)
theorem t244_20 : z_ft 244 20 = some (.goto 4, 3, none, [], 24, 0, 0, 0) := z_ftd (by decide +kernel)
theorem t244_23 : z_ft 244 23 = some (.iconst 0, 1, (some []), [], 0, 0, 0, 0) := z_ftd (by decide +kernel)
theorem t244_24 : z_ft 244 24 = some (.ireturn, 1, (some []), [], 0, 0, 0, 0) := z_ftd (by decide +kernel)
noncomputable def b244_23 (d : Nat)  (S : z_S) : Option (Int32 × z_S) := zk kI z_X0 d 244 23 [z_j, z_j] [] S
theorem b244_23_eq (d : Nat)  (S : z_S) (hW : z_W S)  : b244_23 d  S = some ((0 : Int32), S) := by
  unfold b244_23
  refine (k_iconst t244_23 rfl zci_0).trans ?_
  refine (zk_mk (ls' := [z_j, z_j]) t244_24 rfl).trans ?_
  exact k_zretC t244_24 rfl (by decide) (by decide)
-- X12_isSet
theorem e244 (d : Nat) (x1 : Int32) (S : z_S) (hW : z_W S)  : fI (d + 1) 244 [.ref 396, .int x1] S = (if x1 < (0 : Int32) then b244_23 d S else (if z_in (gI S 396 13) 2 then (if ((1 : Int32) <<< ((gI S 402 ((gI S 396 13)).toNatClampNeg) &&& 31)) ≤ x1 then b244_23 d S else some ((1 : Int32), S)) else none)) := by
  refine (fI_en (Nat.le_of_ble_eq_true rfl) rfl).trans ?_
  refine (k_iload_n t244_0 rfl rfl).trans ?_
  refine (k_if_lt t244_1 rfl).trans (z_ite (fun g1 => ?_) (fun g1 => ?_))
  · exact (zk_mk (ls' := [z_j, z_j]) t244_23 rfl)
  · refine (k_iload_n t244_4 rfl rfl).trans ?_
    refine (k_iconst t244_5 rfl zci_1).trans ?_
    refine (k_aload_n t244_6 rfl rfl).trans ?_
    refine (k_getR t244_7 rfl hW zK_396 (by decide) (by decide) (zF_396_18 hW)).trans ?_
    refine (k_aload_n t244_10 rfl rfl).trans ?_
    refine (k_getI t244_11 rfl hW zK_396 (by decide) (by decide)).trans ?_
    refine (k_iald t244_14 rfl hW zK_402 zL_402).trans (z_ite (fun g2 => ?_) (fun _ => rfl))
    refine (k_ishl t244_15 rfl).trans ?_
    refine (k_icmp_ge t244_16 rfl).trans (z_ite (fun g3 => ?_) (fun g3 => ?_))
    · exact (zk_mk (ls' := [z_j, z_j]) t244_23 rfl)
    · refine (k_iconst t244_19 rfl zci_1).trans ?_
      refine (k_goto t244_20 rfl).trans ?_
      refine (zk_mk (ls' := [z_j, z_j]) t244_24 rfl).trans ?_
      exact k_zretC t244_24 rfl (by decide) (by decide)
theorem t245_0 : z_ft 245 0 = some (.aload_n 0, 1, none, [], 0, 0, 0, 0) := z_ftd (by decide +kernel)
theorem t245_1 : z_ft 245 1 = some (.iload_n 1, 1, none, [], 0, 0, 0, 0) := z_ftd (by decide +kernel)
theorem t245_2 : z_ft 245 2 = some (.invokevirtual 521, 3, none, [], 244, 0, 172, 0) := z_ftd (by decide +kernel)
theorem t245_5 : z_ft 245 5 = some (.ifCond .eq 11, 3, none, [], 16, 0, 0, 0) := z_ftd (by decide +kernel)
theorem t245_8 : z_ft 245 8 = some (.aload_n 0, 1, none, [], 0, 0, 0, 0) := z_ftd (by decide +kernel)
theorem t245_9 : z_ft 245 9 = some (.iload_n 1, 1, none, [], 0, 0, 0, 0) := z_ftd (by decide +kernel)
theorem t245_10 : z_ft 245 10 = some (.invokevirtual 524, 3, none, [], 243, 0, 173, 0) := z_ftd (by decide +kernel)
theorem t245_13 : z_ft 245 13 = some (.goto 4, 3, none, [], 17, 0, 0, 0) := z_ftd (by decide +kernel)
theorem t245_16 : z_ft 245 16 = some (.iconst (-1), 1, none, [], 0, 0, 0, 0) := z_ftd (by decide +kernel)
theorem t245_17 : z_ft 245 17 = some (.ireturn, 1, (some []), [], 0, 0, 0, 0) := z_ftd (by decide +kernel)
-- X12_most
theorem e245 (d : Nat) (x1 : Int32) (S : z_S) (hW : z_W S)  : fI (d + 1) 245 [.ref 396, .int x1] S = (zb (fI d 244 [.ref 396, .int x1] S) fun v1 S2 => (if v1 = (0 : Int32) then some ((-1 : Int32), S2) else (zb (fI d 243 [.ref 396, .int x1] S2) fun v4 S5 => some (v4, S5)))) := by
  refine (fI_en (Nat.le_of_ble_eq_true rfl) rfl).trans ?_
  refine (k_aload_n t245_0 rfl rfl).trans ?_
  refine (k_iload_n t245_1 rfl rfl).trans ?_
  refine k_callI (as := [.ref 396, .int x1]) (rest := []) t245_2 rfl rfl (by decide) rfl rfl (Nat.le_of_ble_eq_true rfl) rfl (z_rcV hW (zK_396) (by decide)) (by decide) (Or.inr (by decide)) hW (fun v1 S2 hW2 => ?_)
  refine (k_if_eq t245_5 rfl).trans (z_ite (fun g3 => ?_) (fun g3 => ?_))
  · refine (k_iconst t245_16 rfl zci_m1).trans ?_
    refine (zk_mk (ls' := [z_j, z_j]) t245_17 rfl).trans ?_
    exact k_ireturn t245_17 rfl (by decide)
  · refine (k_aload_n t245_8 rfl rfl).trans ?_
    refine (k_iload_n t245_9 rfl rfl).trans ?_
    refine k_callI (as := [.ref 396, .int x1]) (rest := []) t245_10 rfl rfl (by decide) rfl rfl (Nat.le_of_ble_eq_true rfl) rfl (z_rcV hW2 (zK_396) (by decide)) (by decide) (Or.inl (by decide)) hW2 (fun v4 S5 hW5 => ?_)
    refine (k_goto t245_13 rfl).trans ?_
    refine (zk_mk (ls' := [z_j, z_j]) t245_17 rfl).trans ?_
    exact k_ireturn t245_17 rfl (by decide)
theorem t246_0 : z_ft 246 0 = some (.aload_n 0, 1, none, [], 0, 0, 0, 0) := z_ftd (by decide +kernel)
theorem t246_1 : z_ft 246 1 = some (.iload_n 1, 1, none, [], 0, 0, 0, 0) := z_ftd (by decide +kernel)
theorem t246_2 : z_ft 246 2 = some (.invokevirtual 521, 3, none, [], 244, 0, 172, 0) := z_ftd (by decide +kernel)
theorem t246_5 : z_ft 246 5 = some (.ifCond .ne 5, 3, none, [], 10, 0, 0, 0) := z_ftd (by decide +kernel)
theorem t246_8 : z_ft 246 8 = some (.iconst (-1), 1, none, [], 0, 0, 0, 0) := z_ftd (by decide +kernel)
theorem t246_9 : z_ft 246 9 = some (.ireturn, 1, none, [], 0, 0, 0, 0) := z_ftd (by decide +kernel)
theorem t246_10 : z_ft 246 10 = some (.iload_n 1, 1, none, [], 0, 0, 0, 0) := z_ftd (by decide +kernel)
theorem t246_11 : z_ft 246 11 = some (.invokestatic 492, 3, none, [], 206, 0, 155, 0) := z_ftd (by decide +kernel)
theorem t246_14 : z_ft 246 14 = some (.istore_n 2, 1, none, [], 0, 0, 0, 0) := z_ftd (by decide +kernel)
theorem t246_15 : z_ft 246 15 = some (.iconst 0, 1, none, [], 0, 0, 0, 0) := z_ftd (by decide +kernel)
theorem t246_16 : z_ft 246 16 = some (.istore_n 3, 1, none, [], 0, 0, 0, 0) := z_ftd (by decide +kernel)
theorem t246_17 : z_ft 246 17 = some (.iconst 0, 1, none, [], 0, 0, 0, 0) := z_ftd (by decide +kernel)
theorem t246_18 : z_ft 246 18 = some (.istore 4, 2, none, [], 0, 0, 0, 0) := z_ftd (by decide +kernel)
theorem t246_20 : z_ft 246 20 = some (.iload 4, 2, (some [0, 1, 2, 3, 4]), [], 0, 0, 0, 0) := z_ftd (by decide +kernel)
theorem t246_22 : z_ft 246 22 = some (.iconst 1, 1, none, [], 0, 0, 0, 0) := z_ftd (by decide +kernel)
theorem t246_23 : z_ft 246 23 = some (.iload_n 2, 1, none, [], 0, 0, 0, 0) := z_ftd (by decide +kernel)
theorem t246_24 : z_ft 246 24 = some (.ishl, 1, none, [], 0, 0, 0, 0) := z_ftd (by decide +kernel)
theorem t246_25 : z_ft 246 25 = some (.if_icmp .ge 132, 3, none, [], 157, 0, 0, 0) := z_ftd (by decide +kernel)
theorem t246_28 : z_ft 246 28 = some (.aload_n 0, 1, none, [], 0, 0, 0, 0) := z_ftd (by decide +kernel)
theorem t246_29 : z_ft 246 29 = some (.getfield 153, 3, none, [], 12, 46, 47, 0) := z_ftd (by decide +kernel)
theorem t246_32 : z_ft 246 32 = some (.iconst 0, 1, none, [], 0, 0, 0, 0) := z_ftd (by decide +kernel)
theorem t246_33 : z_ft 246 33 = some (.iaload, 1, none, [], 0, 0, 0, 0) := z_ftd (by decide +kernel)
theorem t246_34 : z_ft 246 34 = some (.istore 5, 2, none, [], 0, 0, 0, 0) := z_ftd (by decide +kernel)
theorem t246_36 : z_ft 246 36 = some (.iconst 1, 1, none, [], 0, 0, 0, 0) := z_ftd (by decide +kernel)
theorem t246_37 : z_ft 246 37 = some (.istore 6, 2, none, [], 0, 0, 0, 0) := z_ftd (by decide +kernel)
theorem t246_39 : z_ft 246 39 = some (.iconst 0, 1, none, [], 0, 0, 0, 0) := z_ftd (by decide +kernel)
theorem t246_40 : z_ft 246 40 = some (.istore 7, 2, none, [], 0, 0, 0, 0) := z_ftd (by decide +kernel)
theorem t246_42 : z_ft 246 42 = some (.iconst 0, 1, none, [], 0, 0, 0, 0) := z_ftd (by decide +kernel)
theorem t246_43 : z_ft 246 43 = some (.istore 8, 2, none, [], 0, 0, 0, 0) := z_ftd (by decide +kernel)
theorem t246_45 : z_ft 246 45 = some (.iload 8, 2, (some [0, 1, 2, 3, 4, 5, 6, 7, 8]), [], 0, 0, 0, 0) := z_ftd (by decide +kernel)
theorem t246_47 : z_ft 246 47 = some (.aload_n 0, 1, none, [], 0, 0, 0, 0) := z_ftd (by decide +kernel)
theorem t246_48 : z_ft 246 48 = some (.getfield 66, 3, none, [], 12, 18, 19, 0) := z_ftd (by decide +kernel)
theorem t246_51 : z_ft 246 51 = some (.aload_n 0, 1, none, [], 0, 0, 0, 0) := z_ftd (by decide +kernel)
theorem t246_52 : z_ft 246 52 = some (.getfield 51, 3, none, [], 12, 13, 14, 0) := z_ftd (by decide +kernel)
theorem t246_55 : z_ft 246 55 = some (.iaload, 1, none, [], 0, 0, 0, 0) := z_ftd (by decide +kernel)
theorem t246_56 : z_ft 246 56 = some (.if_icmp .ge 82, 3, none, [], 138, 0, 0, 0) := z_ftd (by decide +kernel)
theorem t246_59 : z_ft 246 59 = some (.iload 6, 2, none, [], 0, 0, 0, 0) := z_ftd (by decide +kernel)
theorem t246_61 : z_ft 246 61 = some (.ifCond .eq 77, 3, none, [], 138, 0, 0, 0) := z_ftd (by decide +kernel)
theorem t246_64 : z_ft 246 64 = some (.iload_n 1, 1, none, [], 0, 0, 0, 0) := z_ftd (by decide +kernel)
theorem t246_65 : z_ft 246 65 = some (.iload 8, 2, none, [], 0, 0, 0, 0) := z_ftd (by decide +kernel)
theorem t246_67 : z_ft 246 67 = some (.invokestatic 364, 3, none, [], 182, 0, 121, 0) := z_ftd (by decide +kernel)
theorem t246_70 : z_ft 246 70 = some (.ifCond .ne 6, 3, none, [], 76, 0, 0, 0) := z_ftd (by decide +kernel)
theorem t246_73 : z_ft 246 73 = some (.goto 59, 3, none, [], 132, 0, 0, 0) := z_ftd (by decide +kernel)
theorem t246_76 : z_ft 246 76 = some (.iload 4, 2, none, [], 0, 0, 0, 0) := z_ftd (by decide +kernel)
theorem t246_78 : z_ft 246 78 = some (.iload 7, 2, none, [], 0, 0, 0, 0) := z_ftd (by decide +kernel)
theorem t246_80 : z_ft 246 80 = some (.invokestatic 364, 3, none, [], 182, 0, 121, 0) := z_ftd (by decide +kernel)
theorem t246_83 : z_ft 246 83 = some (.ifCond .eq 12, 3, none, [], 95, 0, 0, 0) := z_ftd (by decide +kernel)
theorem t246_86 : z_ft 246 86 = some (.aload_n 0, 1, none, [], 0, 0, 0, 0) := z_ftd (by decide +kernel)
theorem t246_87 : z_ft 246 87 = some (.iload 8, 2, none, [], 0, 0, 0, 0) := z_ftd (by decide +kernel)
theorem t246_89 : z_ft 246 89 = some (.invokevirtual 435, 3, none, [], 211, 0, 136, 0) := z_ftd (by decide +kernel)
theorem t246_92 : z_ft 246 92 = some (.goto 9, 3, none, [], 101, 0, 0, 0) := z_ftd (by decide +kernel)
theorem t246_95 : z_ft 246 95 = some (.aload_n 0, 1, none, [], 0, 0, 0, 0) := z_ftd (by decide +kernel)
theorem t246_96 : z_ft 246 96 = some (.iload 8, 2, none, [], 0, 0, 0, 0) := z_ftd (by decide +kernel)
theorem t246_98 : z_ft 246 98 = some (.invokevirtual 432, 3, none, [], 210, 0, 135, 0) := z_ftd (by decide +kernel)
theorem t246_101 : z_ft 246 101 = some (.istore 9, 2, (some [0, 1, 2, 3, 4, 5, 7, 8]), [], 0, 0, 0, 0) := z_ftd (by decide +kernel)
theorem t246_103 : z_ft 246 103 = some (.iload 5, 2, none, [], 0, 0, 0, 0) := z_ftd (by decide +kernel)
theorem t246_105 : z_ft 246 105 = some (.iload 9, 2, none, [], 0, 0, 0, 0) := z_ftd (by decide +kernel)
theorem t246_107 : z_ft 246 107 = some (.invokestatic 364, 3, none, [], 182, 0, 121, 0) := z_ftd (by decide +kernel)
theorem t246_110 : z_ft 246 110 = some (.ifCond .ne 7, 3, none, [], 117, 0, 0, 0) := z_ftd (by decide +kernel)
theorem t246_113 : z_ft 246 113 = some (.iconst 1, 1, none, [], 0, 0, 0, 0) := z_ftd (by decide +kernel)
theorem t246_114 : z_ft 246 114 = some (.goto 4, 3, none, [], 118, 0, 0, 0) := z_ftd (by decide +kernel)
theorem t246_117 : z_ft 246 117 = some (.iconst 0, 1, none, [], 0, 0, 0, 0) := z_ftd (by decide +kernel)
theorem t246_118 : z_ft 246 118 = some (.istore 6, 2, (some [0, 1, 2, 3, 4, 5, 7, 8, 9]), [], 0, 0, 0, 0) := z_ftd (by decide +kernel)
theorem t246_120 : z_ft 246 120 = some (.iload 5, 2, none, [], 0, 0, 0, 0) := z_ftd (by decide +kernel)
theorem t246_122 : z_ft 246 122 = some (.iconst 1, 1, none, [], 0, 0, 0, 0) := z_ftd (by decide +kernel)
theorem t246_123 : z_ft 246 123 = some (.iload 9, 2, none, [], 0, 0, 0, 0) := z_ftd (by decide +kernel)
theorem t246_125 : z_ft 246 125 = some (.ishl, 1, none, [], 0, 0, 0, 0) := z_ftd (by decide +kernel)
theorem t246_126 : z_ft 246 126 = some (.ior, 1, none, [], 0, 0, 0, 0) := z_ftd (by decide +kernel)
theorem t246_127 : z_ft 246 127 = some (.istore 5, 2, none, [], 0, 0, 0, 0) := z_ftd (by decide +kernel)
theorem t246_129 : z_ft 246 129 = some (.iinc 7 1, 3, none, [], 0, 0, 0, 0) := z_ftd (by decide +kernel)
theorem t246_132 : z_ft 246 132 = some (.iinc 8 1, 3, (some [0, 1, 2, 3, 4, 5, 6, 7, 8]), [], 0, 0, 0, 0) := z_ftd (by decide +kernel)
theorem t246_135 : z_ft 246 135 = some (.goto (-90), 3, none, [], 45, 0, 0, 0) := z_ftd (by decide +kernel)
theorem t246_138 : z_ft 246 138 = some (.iload_n 3, 1, (some [0, 1, 2, 3, 4, 6]), [], 0, 0, 0, 0) := z_ftd (by decide +kernel)
theorem t246_139 : z_ft 246 139 = some (.iload 6, 2, none, [], 0, 0, 0, 0) := z_ftd (by decide +kernel)
theorem t246_141 : z_ft 246 141 = some (.ifCond .eq 7, 3, none, [], 148, 0, 0, 0) := z_ftd (by decide +kernel)
theorem t246_144 : z_ft 246 144 = some (.iconst 1, 1, none, [], 0, 0, 0, 0) := z_ftd (by decide +kernel)
theorem t246_145 : z_ft 246 145 = some (.goto 4, 3, none, [], 149, 0, 0, 0) := z_ftd (by decide +kernel)
theorem t246_148 : z_ft 246 148 = some (.iconst 0, 1, none, [], 0, 0, 0, 0) := z_ftd (by decide +kernel)
theorem t246_149 : z_ft 246 149 = some (.iadd, 1, (some [0, 1, 2, 4]), [], 0, 0, 0, 0) := z_ftd (by decide +kernel)
theorem t246_150 : z_ft 246 150 = some (.istore_n 3, 1, none, [], 0, 0, 0, 0) := z_ftd (by decide +kernel)
theorem t246_151 : z_ft 246 151 = some (.iinc 4 1, 3, none, [], 0, 0, 0, 0) := z_ftd (by decide +kernel)
theorem t246_154 : z_ft 246 154 = some (.goto (-134), 3, none, [], 20, 0, 0, 0) := z_ftd (by decide +kernel)
theorem t246_157 : z_ft 246 157 = some (.iload_n 3, 1, none, [], 0, 0, 0, 0) := z_ftd (by decide +kernel)
theorem t246_158 : z_ft 246 158 = some (.ireturn, 1, none, [], 0, 0, 0, 0) := z_ftd (by decide +kernel)
noncomputable def b246_20 (d : Nat) (y1 : Int32) (y2 : Int32) (y3 : Int32) (y4 : Int32) (S : z_S) : Option (Int32 × z_S) := zk kI z_X0 d 246 20 [.ref 396, .int y1, .int y2, .int y3, .int y4, z_j, z_j, z_j, z_j, z_j] [] S
noncomputable def b246_45 (d : Nat) (y1 : Int32) (y2 : Int32) (y3 : Int32) (y4 : Int32) (y5 : Int32) (y6 : Int32) (y7 : Int32) (y8 : Int32) (S : z_S) : Option (Int32 × z_S) := zk kI z_X0 d 246 45 [.ref 396, .int y1, .int y2, .int y3, .int y4, .int y5, .int y6, .int y7, .int y8, z_j] [] S
noncomputable def b246_138 (d : Nat) (y1 : Int32) (y2 : Int32) (y3 : Int32) (y4 : Int32) (y6 : Int32) (S : z_S) : Option (Int32 × z_S) := zk kI z_X0 d 246 138 [.ref 396, .int y1, .int y2, .int y3, .int y4, z_j, .int y6, z_j, z_j, z_j] [] S
noncomputable def b246_101 (d : Nat) (y1 : Int32) (y2 : Int32) (y3 : Int32) (y4 : Int32) (y5 : Int32) (y7 : Int32) (y8 : Int32) (s0 : Int32) (S : z_S) : Option (Int32 × z_S) := zk kI z_X0 d 246 101 [.ref 396, .int y1, .int y2, .int y3, .int y4, .int y5, z_j, .int y7, .int y8, z_j] [.int s0] S
noncomputable def b246_132 (d : Nat) (y1 : Int32) (y2 : Int32) (y3 : Int32) (y4 : Int32) (y5 : Int32) (y6 : Int32) (y7 : Int32) (y8 : Int32) (S : z_S) : Option (Int32 × z_S) := zk kI z_X0 d 246 132 [.ref 396, .int y1, .int y2, .int y3, .int y4, .int y5, .int y6, .int y7, .int y8, z_j] [] S
noncomputable def b246_149 (d : Nat) (y1 : Int32) (y2 : Int32) (y4 : Int32) (s0 : Int32) (s1 : Int32) (S : z_S) : Option (Int32 × z_S) := zk kI z_X0 d 246 149 [.ref 396, .int y1, .int y2, z_j, .int y4, z_j, z_j, z_j, z_j, z_j] [.int s0, .int s1] S
noncomputable def b246_118 (d : Nat) (y1 : Int32) (y2 : Int32) (y3 : Int32) (y4 : Int32) (y5 : Int32) (y7 : Int32) (y8 : Int32) (y9 : Int32) (s0 : Int32) (S : z_S) : Option (Int32 × z_S) := zk kI z_X0 d 246 118 [.ref 396, .int y1, .int y2, .int y3, .int y4, .int y5, z_j, .int y7, .int y8, .int y9] [.int s0] S
theorem b246_20_eq (d : Nat) (y1 : Int32) (y2 : Int32) (y3 : Int32) (y4 : Int32) (S : z_S) (hW : z_W S)  : b246_20 d y1 y2 y3 y4 S = (if ((1 : Int32) <<< (y2 &&& 31)) ≤ y4 then some (y3, S) else (if z_in (0 : Int32) 22 then b246_45 d y1 y2 y3 y4 (gI S 422 ((0 : Int32)).toNatClampNeg) (1 : Int32) (0 : Int32) (0 : Int32) S else none)) := by
  unfold b246_20
  refine (k_iload t246_20 rfl rfl).trans ?_
  refine (k_iconst t246_22 rfl zci_1).trans ?_
  refine (k_iload_n t246_23 rfl rfl).trans ?_
  refine (k_ishl t246_24 rfl).trans ?_
  refine (k_icmp_ge t246_25 rfl).trans (z_ite (fun g6 => ?_) (fun g6 => ?_))
  · refine (k_iload_n t246_157 rfl rfl).trans ?_
    exact k_ireturn t246_158 rfl (by decide)
  · refine (k_aload_n t246_28 rfl rfl).trans ?_
    refine (k_getR t246_29 rfl hW zK_396 (by decide) (by decide) (zF_396_46 hW)).trans ?_
    refine (k_iconst t246_32 rfl zci_0).trans ?_
    refine (k_iald t246_33 rfl hW zK_422 zL_422).trans (z_ite (fun g7 => ?_) (fun _ => rfl))
    refine (k_istore (ls' := [.ref 396, .int y1, .int y2, .int y3, .int y4, .int (gI S 422 ((0 : Int32)).toNatClampNeg), z_j, z_j, z_j, z_j]) t246_34 rfl rfl).trans ?_
    refine (k_iconst t246_36 rfl zci_1).trans ?_
    refine (k_istore (ls' := [.ref 396, .int y1, .int y2, .int y3, .int y4, .int (gI S 422 ((0 : Int32)).toNatClampNeg), .int (1 : Int32), z_j, z_j, z_j]) t246_37 rfl rfl).trans ?_
    refine (k_iconst t246_39 rfl zci_0).trans ?_
    refine (k_istore (ls' := [.ref 396, .int y1, .int y2, .int y3, .int y4, .int (gI S 422 ((0 : Int32)).toNatClampNeg), .int (1 : Int32), .int (0 : Int32), z_j, z_j]) t246_40 rfl rfl).trans ?_
    refine (k_iconst t246_42 rfl zci_0).trans ?_
    refine (k_istore (ls' := [.ref 396, .int y1, .int y2, .int y3, .int y4, .int (gI S 422 ((0 : Int32)).toNatClampNeg), .int (1 : Int32), .int (0 : Int32), .int (0 : Int32), z_j]) t246_43 rfl rfl).trans ?_
    exact (zk_mk (ls' := [.ref 396, .int y1, .int y2, .int y3, .int y4, .int (gI S 422 ((0 : Int32)).toNatClampNeg), .int (1 : Int32), .int (0 : Int32), .int (0 : Int32), z_j]) t246_45 rfl)
theorem b246_45_eq (d : Nat) (y1 : Int32) (y2 : Int32) (y3 : Int32) (y4 : Int32) (y5 : Int32) (y6 : Int32) (y7 : Int32) (y8 : Int32) (S : z_S) (hW : z_W S)  : b246_45 d y1 y2 y3 y4 y5 y6 y7 y8 S = (if z_in (gI S 396 13) 2 then (if (gI S 402 ((gI S 396 13)).toNatClampNeg) ≤ y8 then b246_138 d y1 y2 y3 y4 y6 S else (if y6 = (0 : Int32) then b246_138 d y1 y2 y3 y4 y6 S else (zb (fI d 182 [.int y1, .int y8] S) fun v11 S12 => (if ¬ v11 = (0 : Int32) then (zb (fI d 182 [.int y4, .int y7] S12) fun v14 S15 => (if v14 = (0 : Int32) then (zb (fI d 210 [.ref 396, .int y8] S15) fun v17 S18 => b246_101 d y1 y2 y3 y4 y5 y7 y8 v17 S18) else (zb (fI d 211 [.ref 396, .int y8] S15) fun v19 S20 => b246_101 d y1 y2 y3 y4 y5 y7 y8 v19 S20))) else b246_132 d y1 y2 y3 y4 y5 y6 y7 y8 S12)))) else none) := by
  unfold b246_45
  refine (k_iload t246_45 rfl rfl).trans ?_
  refine (k_aload_n t246_47 rfl rfl).trans ?_
  refine (k_getR t246_48 rfl hW zK_396 (by decide) (by decide) (zF_396_18 hW)).trans ?_
  refine (k_aload_n t246_51 rfl rfl).trans ?_
  refine (k_getI t246_52 rfl hW zK_396 (by decide) (by decide)).trans ?_
  refine (k_iald t246_55 rfl hW zK_402 zL_402).trans (z_ite (fun g8 => ?_) (fun _ => rfl))
  refine (k_icmp_ge t246_56 rfl).trans (z_ite (fun g9 => ?_) (fun g9 => ?_))
  · exact (zk_mk (ls' := [.ref 396, .int y1, .int y2, .int y3, .int y4, z_j, .int y6, z_j, z_j, z_j]) t246_138 rfl)
  · refine (k_iload t246_59 rfl rfl).trans ?_
    refine (k_if_eq t246_61 rfl).trans (z_ite (fun g10 => ?_) (fun g10 => ?_))
    · exact (zk_mk (ls' := [.ref 396, .int y1, .int y2, .int y3, .int y4, z_j, .int y6, z_j, z_j, z_j]) t246_138 rfl)
    · refine (k_iload_n t246_64 rfl rfl).trans ?_
      refine (k_iload t246_65 rfl rfl).trans ?_
      refine k_callI (as := [.int y1, .int y8]) (rest := []) t246_67 rfl rfl (by decide) rfl rfl (Nat.le_of_ble_eq_true rfl) rfl (z_rcS (by decide)) (by decide) (Or.inr (by decide)) hW (fun v11 S12 hW12 => ?_)
      refine (k_if_ne t246_70 rfl).trans (z_ite (fun g13 => ?_) (fun g13 => ?_))
      · refine (k_iload t246_76 rfl rfl).trans ?_
        refine (k_iload t246_78 rfl rfl).trans ?_
        refine k_callI (as := [.int y4, .int y7]) (rest := []) t246_80 rfl rfl (by decide) rfl rfl (Nat.le_of_ble_eq_true rfl) rfl (z_rcS (by decide)) (by decide) (Or.inr (by decide)) hW12 (fun v14 S15 hW15 => ?_)
        refine (k_if_eq t246_83 rfl).trans (z_ite (fun g16 => ?_) (fun g16 => ?_))
        · refine (k_aload_n t246_95 rfl rfl).trans ?_
          refine (k_iload t246_96 rfl rfl).trans ?_
          refine k_callI (as := [.ref 396, .int y8]) (rest := []) t246_98 rfl rfl (by decide) rfl rfl (Nat.le_of_ble_eq_true rfl) rfl (z_rcV hW15 (zK_396) (by decide)) (by decide) (Or.inl (by decide)) hW15 (fun v17 S18 hW18 => ?_)
          exact (zk_mk (ls' := [.ref 396, .int y1, .int y2, .int y3, .int y4, .int y5, z_j, .int y7, .int y8, z_j]) t246_101 rfl)
        · refine (k_aload_n t246_86 rfl rfl).trans ?_
          refine (k_iload t246_87 rfl rfl).trans ?_
          refine k_callI (as := [.ref 396, .int y8]) (rest := []) t246_89 rfl rfl (by decide) rfl rfl (Nat.le_of_ble_eq_true rfl) rfl (z_rcV hW15 (zK_396) (by decide)) (by decide) (Or.inl (by decide)) hW15 (fun v19 S20 hW20 => ?_)
          refine (k_goto t246_92 rfl).trans ?_
          exact (zk_mk (ls' := [.ref 396, .int y1, .int y2, .int y3, .int y4, .int y5, z_j, .int y7, .int y8, z_j]) t246_101 rfl)
      · refine (k_goto t246_73 rfl).trans ?_
        exact (zk_mk (ls' := [.ref 396, .int y1, .int y2, .int y3, .int y4, .int y5, .int y6, .int y7, .int y8, z_j]) t246_132 rfl)
theorem b246_138_eq (d : Nat) (y1 : Int32) (y2 : Int32) (y3 : Int32) (y4 : Int32) (y6 : Int32) (S : z_S) (hW : z_W S)  : b246_138 d y1 y2 y3 y4 y6 S = (if y6 = (0 : Int32) then b246_149 d y1 y2 y4 (0 : Int32) y3 S else b246_149 d y1 y2 y4 (1 : Int32) y3 S) := by
  unfold b246_138
  refine (k_iload_n t246_138 rfl rfl).trans ?_
  refine (k_iload t246_139 rfl rfl).trans ?_
  refine (k_if_eq t246_141 rfl).trans (z_ite (fun g21 => ?_) (fun g21 => ?_))
  · refine (k_iconst t246_148 rfl zci_0).trans ?_
    exact (zk_mk (ls' := [.ref 396, .int y1, .int y2, z_j, .int y4, z_j, z_j, z_j, z_j, z_j]) t246_149 rfl)
  · refine (k_iconst t246_144 rfl zci_1).trans ?_
    refine (k_goto t246_145 rfl).trans ?_
    exact (zk_mk (ls' := [.ref 396, .int y1, .int y2, z_j, .int y4, z_j, z_j, z_j, z_j, z_j]) t246_149 rfl)
theorem b246_101_eq (d : Nat) (y1 : Int32) (y2 : Int32) (y3 : Int32) (y4 : Int32) (y5 : Int32) (y7 : Int32) (y8 : Int32) (s0 : Int32) (S : z_S) (hW : z_W S)  : b246_101 d y1 y2 y3 y4 y5 y7 y8 s0 S = (zb (fI d 182 [.int y5, .int s0] S) fun v22 S23 => (if ¬ v22 = (0 : Int32) then b246_118 d y1 y2 y3 y4 y5 y7 y8 s0 (0 : Int32) S23 else b246_118 d y1 y2 y3 y4 y5 y7 y8 s0 (1 : Int32) S23)) := by
  unfold b246_101
  refine (k_istore (ls' := [.ref 396, .int y1, .int y2, .int y3, .int y4, .int y5, z_j, .int y7, .int y8, .int s0]) t246_101 rfl rfl).trans ?_
  refine (k_iload t246_103 rfl rfl).trans ?_
  refine (k_iload t246_105 rfl rfl).trans ?_
  refine k_callI (as := [.int y5, .int s0]) (rest := []) t246_107 rfl rfl (by decide) rfl rfl (Nat.le_of_ble_eq_true rfl) rfl (z_rcS (by decide)) (by decide) (Or.inr (by decide)) hW (fun v22 S23 hW23 => ?_)
  refine (k_if_ne t246_110 rfl).trans (z_ite (fun g24 => ?_) (fun g24 => ?_))
  · refine (k_iconst t246_117 rfl zci_0).trans ?_
    exact (zk_mk (ls' := [.ref 396, .int y1, .int y2, .int y3, .int y4, .int y5, z_j, .int y7, .int y8, .int s0]) t246_118 rfl)
  · refine (k_iconst t246_113 rfl zci_1).trans ?_
    refine (k_goto t246_114 rfl).trans ?_
    exact (zk_mk (ls' := [.ref 396, .int y1, .int y2, .int y3, .int y4, .int y5, z_j, .int y7, .int y8, .int s0]) t246_118 rfl)
theorem b246_132_eq (d : Nat) (y1 : Int32) (y2 : Int32) (y3 : Int32) (y4 : Int32) (y5 : Int32) (y6 : Int32) (y7 : Int32) (y8 : Int32) (S : z_S) (hW : z_W S)  : b246_132 d y1 y2 y3 y4 y5 y6 y7 y8 S = b246_45 d y1 y2 y3 y4 y5 y6 y7 (y8 + (1 : Int32)) S := by
  unfold b246_132
  refine (k_iinc (b := (y8 + (1 : Int32))) (ls' := [.ref 396, .int y1, .int y2, .int y3, .int y4, .int y5, .int y6, .int y7, .int (y8 + (1 : Int32)), z_j]) t246_132 rfl rfl (by rw [zci_1]) rfl).trans ?_
  refine (k_goto t246_135 rfl).trans ?_
  exact (zk_mk (ls' := [.ref 396, .int y1, .int y2, .int y3, .int y4, .int y5, .int y6, .int y7, .int (y8 + (1 : Int32)), z_j]) t246_45 rfl)
theorem b246_149_eq (d : Nat) (y1 : Int32) (y2 : Int32) (y4 : Int32) (s0 : Int32) (s1 : Int32) (S : z_S) (hW : z_W S)  : b246_149 d y1 y2 y4 s0 s1 S = b246_20 d y1 y2 (s1 + s0) (y4 + (1 : Int32)) S := by
  unfold b246_149
  refine (k_iadd t246_149 rfl).trans ?_
  refine (k_istore_n (ls' := [.ref 396, .int y1, .int y2, .int (s1 + s0), .int y4, z_j, z_j, z_j, z_j, z_j]) t246_150 rfl rfl).trans ?_
  refine (k_iinc (b := (y4 + (1 : Int32))) (ls' := [.ref 396, .int y1, .int y2, .int (s1 + s0), .int (y4 + (1 : Int32)), z_j, z_j, z_j, z_j, z_j]) t246_151 rfl rfl (by rw [zci_1]) rfl).trans ?_
  refine (k_goto t246_154 rfl).trans ?_
  exact (zk_mk (ls' := [.ref 396, .int y1, .int y2, .int (s1 + s0), .int (y4 + (1 : Int32)), z_j, z_j, z_j, z_j, z_j]) t246_20 rfl)
theorem b246_118_eq (d : Nat) (y1 : Int32) (y2 : Int32) (y3 : Int32) (y4 : Int32) (y5 : Int32) (y7 : Int32) (y8 : Int32) (y9 : Int32) (s0 : Int32) (S : z_S) (hW : z_W S)  : b246_118 d y1 y2 y3 y4 y5 y7 y8 y9 s0 S = b246_132 d y1 y2 y3 y4 (y5 ||| ((1 : Int32) <<< (y9 &&& 31))) s0 (y7 + (1 : Int32)) y8 S := by
  unfold b246_118
  refine (k_istore (ls' := [.ref 396, .int y1, .int y2, .int y3, .int y4, .int y5, .int s0, .int y7, .int y8, .int y9]) t246_118 rfl rfl).trans ?_
  refine (k_iload t246_120 rfl rfl).trans ?_
  refine (k_iconst t246_122 rfl zci_1).trans ?_
  refine (k_iload t246_123 rfl rfl).trans ?_
  refine (k_ishl t246_125 rfl).trans ?_
  refine (k_ior t246_126 rfl).trans ?_
  refine (k_istore (ls' := [.ref 396, .int y1, .int y2, .int y3, .int y4, .int (y5 ||| ((1 : Int32) <<< (y9 &&& 31))), .int s0, .int y7, .int y8, .int y9]) t246_127 rfl rfl).trans ?_
  refine (k_iinc (b := (y7 + (1 : Int32))) (ls' := [.ref 396, .int y1, .int y2, .int y3, .int y4, .int (y5 ||| ((1 : Int32) <<< (y9 &&& 31))), .int s0, .int (y7 + (1 : Int32)), .int y8, .int y9]) t246_129 rfl rfl (by rw [zci_1]) rfl).trans ?_
  exact (zk_mk (ls' := [.ref 396, .int y1, .int y2, .int y3, .int y4, .int (y5 ||| ((1 : Int32) <<< (y9 &&& 31))), .int s0, .int (y7 + (1 : Int32)), .int y8, z_j]) t246_132 rfl)
-- X12_ways
theorem e246 (d : Nat) (x1 : Int32) (S : z_S) (hW : z_W S)  : fI (d + 1) 246 [.ref 396, .int x1] S = (zb (fI d 244 [.ref 396, .int x1] S) fun v1 S2 => (if ¬ v1 = (0 : Int32) then (zb (fI d 206 [.int x1] S2) fun v4 S5 => b246_20 d x1 v4 (0 : Int32) (0 : Int32) S5) else some ((-1 : Int32), S2))) := by
  refine (fI_en (Nat.le_of_ble_eq_true rfl) rfl).trans ?_
  refine (k_aload_n t246_0 rfl rfl).trans ?_
  refine (k_iload_n t246_1 rfl rfl).trans ?_
  refine k_callI (as := [.ref 396, .int x1]) (rest := []) t246_2 rfl rfl (by decide) rfl rfl (Nat.le_of_ble_eq_true rfl) rfl (z_rcV hW (zK_396) (by decide)) (by decide) (Or.inr (by decide)) hW (fun v1 S2 hW2 => ?_)
  refine (k_if_ne t246_5 rfl).trans (z_ite (fun g3 => ?_) (fun g3 => ?_))
  · refine (k_iload_n t246_10 rfl rfl).trans ?_
    refine k_callI (as := [.int x1]) (rest := []) t246_11 rfl rfl (by decide) rfl rfl (Nat.le_of_ble_eq_true rfl) rfl (z_rcS (by decide)) (by decide) (Or.inl (by decide)) hW2 (fun v4 S5 hW5 => ?_)
    refine (k_istore_n (ls' := [.ref 396, .int x1, .int v4, z_j, z_j, z_j, z_j, z_j, z_j, z_j]) t246_14 rfl rfl).trans ?_
    refine (k_iconst t246_15 rfl zci_0).trans ?_
    refine (k_istore_n (ls' := [.ref 396, .int x1, .int v4, .int (0 : Int32), z_j, z_j, z_j, z_j, z_j, z_j]) t246_16 rfl rfl).trans ?_
    refine (k_iconst t246_17 rfl zci_0).trans ?_
    refine (k_istore (ls' := [.ref 396, .int x1, .int v4, .int (0 : Int32), .int (0 : Int32), z_j, z_j, z_j, z_j, z_j]) t246_18 rfl rfl).trans ?_
    exact (zk_mk (ls' := [.ref 396, .int x1, .int v4, .int (0 : Int32), .int (0 : Int32), z_j, z_j, z_j, z_j, z_j]) t246_20 rfl)
  · refine (k_iconst t246_8 rfl zci_m1).trans ?_
    exact k_ireturn t246_9 rfl (by decide)
theorem t247_0 : z_ft 247 0 = some (.aload_n 0, 1, none, [], 0, 0, 0, 0) := z_ftd (by decide +kernel)
theorem t247_1 : z_ft 247 1 = some (.iload_n 1, 1, none, [], 0, 0, 0, 0) := z_ftd (by decide +kernel)
theorem t247_2 : z_ft 247 2 = some (.invokevirtual 521, 3, none, [], 244, 0, 172, 0) := z_ftd (by decide +kernel)
theorem t247_5 : z_ft 247 5 = some (.ifCond .ne 5, 3, none, [], 10, 0, 0, 0) := z_ftd (by decide +kernel)
theorem t247_8 : z_ft 247 8 = some (.iconst (-1), 1, none, [], 0, 0, 0, 0) := z_ftd (by decide +kernel)
theorem t247_9 : z_ft 247 9 = some (.ireturn, 1, none, [], 0, 0, 0, 0) := z_ftd (by decide +kernel)
theorem t247_10 : z_ft 247 10 = some (.iload_n 1, 1, none, [], 0, 0, 0, 0) := z_ftd (by decide +kernel)
theorem t247_11 : z_ft 247 11 = some (.invokestatic 492, 3, none, [], 206, 0, 155, 0) := z_ftd (by decide +kernel)
theorem t247_14 : z_ft 247 14 = some (.aload_n 0, 1, none, [], 0, 0, 0, 0) := z_ftd (by decide +kernel)
theorem t247_15 : z_ft 247 15 = some (.iload_n 1, 1, none, [], 0, 0, 0, 0) := z_ftd (by decide +kernel)
theorem t247_16 : z_ft 247 16 = some (.invokevirtual 524, 3, none, [], 243, 0, 173, 0) := z_ftd (by decide +kernel)
theorem t247_19 : z_ft 247 19 = some (.isub, 1, none, [], 0, 0, 0, 0) := z_ftd (by decide +kernel)
theorem t247_20 : z_ft 247 20 = some (.istore_n 2, 1, none, [], 0, 0, 0, 0) := z_ftd (by decide +kernel)
theorem t247_21 : z_ft 247 21 = some (.iconst 0, 1, none, [], 0, 0, 0, 0) := z_ftd (by decide +kernel)
theorem t247_22 : z_ft 247 22 = some (.istore_n 3, 1, none, [], 0, 0, 0, 0) := z_ftd (by decide +kernel)
theorem t247_23 : z_ft 247 23 = some (.iload_n 3, 1, (some [0, 1, 2, 3]), [], 0, 0, 0, 0) := z_ftd (by decide +kernel)
theorem t247_24 : z_ft 247 24 = some (.iconst 1, 1, none, [], 0, 0, 0, 0) := z_ftd (by decide +kernel)
theorem t247_25 : z_ft 247 25 = some (.aload_n 0, 1, none, [], 0, 0, 0, 0) := z_ftd (by decide +kernel)
theorem t247_26 : z_ft 247 26 = some (.getfield 66, 3, none, [], 12, 18, 19, 0) := z_ftd (by decide +kernel)
theorem t247_29 : z_ft 247 29 = some (.aload_n 0, 1, none, [], 0, 0, 0, 0) := z_ftd (by decide +kernel)
theorem t247_30 : z_ft 247 30 = some (.getfield 51, 3, none, [], 12, 13, 14, 0) := z_ftd (by decide +kernel)
theorem t247_33 : z_ft 247 33 = some (.iaload, 1, none, [], 0, 0, 0, 0) := z_ftd (by decide +kernel)
theorem t247_34 : z_ft 247 34 = some (.ishl, 1, none, [], 0, 0, 0, 0) := z_ftd (by decide +kernel)
theorem t247_35 : z_ft 247 35 = some (.if_icmp .ge 45, 3, none, [], 80, 0, 0, 0) := z_ftd (by decide +kernel)
theorem t247_38 : z_ft 247 38 = some (.iload_n 3, 1, none, [], 0, 0, 0, 0) := z_ftd (by decide +kernel)
theorem t247_39 : z_ft 247 39 = some (.iload_n 1, 1, none, [], 0, 0, 0, 0) := z_ftd (by decide +kernel)
theorem t247_40 : z_ft 247 40 = some (.iconst (-1), 1, none, [], 0, 0, 0, 0) := z_ftd (by decide +kernel)
theorem t247_41 : z_ft 247 41 = some (.ixor, 1, none, [], 0, 0, 0, 0) := z_ftd (by decide +kernel)
theorem t247_42 : z_ft 247 42 = some (.iand, 1, none, [], 0, 0, 0, 0) := z_ftd (by decide +kernel)
theorem t247_43 : z_ft 247 43 = some (.ifCond .ne 31, 3, none, [], 74, 0, 0, 0) := z_ftd (by decide +kernel)
theorem t247_46 : z_ft 247 46 = some (.iload_n 3, 1, none, [], 0, 0, 0, 0) := z_ftd (by decide +kernel)
theorem t247_47 : z_ft 247 47 = some (.invokestatic 492, 3, none, [], 206, 0, 155, 0) := z_ftd (by decide +kernel)
theorem t247_50 : z_ft 247 50 = some (.iload_n 2, 1, none, [], 0, 0, 0, 0) := z_ftd (by decide +kernel)
theorem t247_51 : z_ft 247 51 = some (.if_icmp .ne 23, 3, none, [], 74, 0, 0, 0) := z_ftd (by decide +kernel)
theorem t247_54 : z_ft 247 54 = some (.aload_n 0, 1, none, [], 0, 0, 0, 0) := z_ftd (by decide +kernel)
theorem t247_55 : z_ft 247 55 = some (.iload_n 1, 1, none, [], 0, 0, 0, 0) := z_ftd (by decide +kernel)
theorem t247_56 : z_ft 247 56 = some (.iload_n 3, 1, none, [], 0, 0, 0, 0) := z_ftd (by decide +kernel)
theorem t247_57 : z_ft 247 57 = some (.iconst (-1), 1, none, [], 0, 0, 0, 0) := z_ftd (by decide +kernel)
theorem t247_58 : z_ft 247 58 = some (.ixor, 1, none, [], 0, 0, 0, 0) := z_ftd (by decide +kernel)
theorem t247_59 : z_ft 247 59 = some (.iand, 1, none, [], 0, 0, 0, 0) := z_ftd (by decide +kernel)
theorem t247_60 : z_ft 247 60 = some (.invokevirtual 524, 3, none, [], 243, 0, 173, 0) := z_ftd (by decide +kernel)
theorem t247_63 : z_ft 247 63 = some (.iload_n 1, 1, none, [], 0, 0, 0, 0) := z_ftd (by decide +kernel)
theorem t247_64 : z_ft 247 64 = some (.invokestatic 492, 3, none, [], 206, 0, 155, 0) := z_ftd (by decide +kernel)
theorem t247_67 : z_ft 247 67 = some (.iload_n 2, 1, none, [], 0, 0, 0, 0) := z_ftd (by decide +kernel)
theorem t247_68 : z_ft 247 68 = some (.isub, 1, none, [], 0, 0, 0, 0) := z_ftd (by decide +kernel)
theorem t247_69 : z_ft 247 69 = some (.if_icmp .ne 5, 3, none, [], 74, 0, 0, 0) := z_ftd (by decide +kernel)
theorem t247_72 : z_ft 247 72 = some (.iload_n 3, 1, none, [], 0, 0, 0, 0) := z_ftd (by decide +kernel)
theorem t247_73 : z_ft 247 73 = some (.ireturn, 1, none, [], 0, 0, 0, 0) := z_ftd (by decide +kernel)
theorem t247_74 : z_ft 247 74 = some (.iinc 3 1, 3, (some [0, 1, 2, 3]), [], 0, 0, 0, 0) := z_ftd (by decide +kernel)
theorem t247_77 : z_ft 247 77 = some (.goto (-54), 3, none, [], 23, 0, 0, 0) := z_ftd (by decide +kernel)
theorem t247_80 : z_ft 247 80 = some (.iconst (-1), 1, none, [], 0, 0, 0, 0) := z_ftd (by decide +kernel)
theorem t247_81 : z_ft 247 81 = some (.ireturn, 1, none, [], 0, 0, 0, 0) := z_ftd (by decide +kernel)
noncomputable def b247_23 (d : Nat) (y1 : Int32) (y2 : Int32) (y3 : Int32) (S : z_S) : Option (Int32 × z_S) := zk kI z_X0 d 247 23 [.ref 396, .int y1, .int y2, .int y3] [] S
noncomputable def b247_74 (d : Nat) (y1 : Int32) (y2 : Int32) (y3 : Int32) (S : z_S) : Option (Int32 × z_S) := zk kI z_X0 d 247 74 [.ref 396, .int y1, .int y2, .int y3] [] S
theorem b247_23_eq (d : Nat) (y1 : Int32) (y2 : Int32) (y3 : Int32) (S : z_S) (hW : z_W S)  : b247_23 d y1 y2 y3 S = (if z_in (gI S 396 13) 2 then (if ((1 : Int32) <<< ((gI S 402 ((gI S 396 13)).toNatClampNeg) &&& 31)) ≤ y3 then some ((-1 : Int32), S) else (if ¬ (y3 &&& (y1 ^^^ (-1 : Int32))) = (0 : Int32) then b247_74 d y1 y2 y3 S else (zb (fI d 206 [.int y3] S) fun v11 S12 => (if ¬ v11 = y2 then b247_74 d y1 y2 y3 S12 else (zb (fI d 243 [.ref 396, .int (y1 &&& (y3 ^^^ (-1 : Int32)))] S12) fun v14 S15 => (zb (fI d 206 [.int y1] S15) fun v16 S17 => (if ¬ v14 = (v16 - y2) then b247_74 d y1 y2 y3 S17 else some (y3, S17)))))))) else none) := by
  unfold b247_23
  refine (k_iload_n t247_23 rfl rfl).trans ?_
  refine (k_iconst t247_24 rfl zci_1).trans ?_
  refine (k_aload_n t247_25 rfl rfl).trans ?_
  refine (k_getR t247_26 rfl hW zK_396 (by decide) (by decide) (zF_396_18 hW)).trans ?_
  refine (k_aload_n t247_29 rfl rfl).trans ?_
  refine (k_getI t247_30 rfl hW zK_396 (by decide) (by decide)).trans ?_
  refine (k_iald t247_33 rfl hW zK_402 zL_402).trans (z_ite (fun g8 => ?_) (fun _ => rfl))
  refine (k_ishl t247_34 rfl).trans ?_
  refine (k_icmp_ge t247_35 rfl).trans (z_ite (fun g9 => ?_) (fun g9 => ?_))
  · refine (k_iconst t247_80 rfl zci_m1).trans ?_
    exact k_ireturn t247_81 rfl (by decide)
  · refine (k_iload_n t247_38 rfl rfl).trans ?_
    refine (k_iload_n t247_39 rfl rfl).trans ?_
    refine (k_iconst t247_40 rfl zci_m1).trans ?_
    refine (k_ixor t247_41 rfl).trans ?_
    refine (k_iand t247_42 rfl).trans ?_
    refine (k_if_ne t247_43 rfl).trans (z_ite (fun g10 => ?_) (fun g10 => ?_))
    · exact (zk_mk (ls' := [.ref 396, .int y1, .int y2, .int y3]) t247_74 rfl)
    · refine (k_iload_n t247_46 rfl rfl).trans ?_
      refine k_callI (as := [.int y3]) (rest := []) t247_47 rfl rfl (by decide) rfl rfl (Nat.le_of_ble_eq_true rfl) rfl (z_rcS (by decide)) (by decide) (Or.inl (by decide)) hW (fun v11 S12 hW12 => ?_)
      refine (k_iload_n t247_50 rfl rfl).trans ?_
      refine (k_icmp_ne t247_51 rfl).trans (z_ite (fun g13 => ?_) (fun g13 => ?_))
      · exact (zk_mk (ls' := [.ref 396, .int y1, .int y2, .int y3]) t247_74 rfl)
      · refine (k_aload_n t247_54 rfl rfl).trans ?_
        refine (k_iload_n t247_55 rfl rfl).trans ?_
        refine (k_iload_n t247_56 rfl rfl).trans ?_
        refine (k_iconst t247_57 rfl zci_m1).trans ?_
        refine (k_ixor t247_58 rfl).trans ?_
        refine (k_iand t247_59 rfl).trans ?_
        refine k_callI (as := [.ref 396, .int (y1 &&& (y3 ^^^ (-1 : Int32)))]) (rest := []) t247_60 rfl rfl (by decide) rfl rfl (Nat.le_of_ble_eq_true rfl) rfl (z_rcV hW12 (zK_396) (by decide)) (by decide) (Or.inl (by decide)) hW12 (fun v14 S15 hW15 => ?_)
        refine (k_iload_n t247_63 rfl rfl).trans ?_
        refine k_callI (as := [.int y1]) (rest := [.int v14]) t247_64 rfl rfl (by decide) rfl rfl (Nat.le_of_ble_eq_true rfl) rfl (z_rcS (by decide)) (by decide) (Or.inl (by decide)) hW15 (fun v16 S17 hW17 => ?_)
        refine (k_iload_n t247_67 rfl rfl).trans ?_
        refine (k_isub t247_68 rfl).trans ?_
        refine (k_icmp_ne t247_69 rfl).trans (z_ite (fun g18 => ?_) (fun g18 => ?_))
        · exact (zk_mk (ls' := [.ref 396, .int y1, .int y2, .int y3]) t247_74 rfl)
        · refine (k_iload_n t247_72 rfl rfl).trans ?_
          exact k_ireturn t247_73 rfl (by decide)
theorem b247_74_eq (d : Nat) (y1 : Int32) (y2 : Int32) (y3 : Int32) (S : z_S) (hW : z_W S)  : b247_74 d y1 y2 y3 S = b247_23 d y1 y2 (y3 + (1 : Int32)) S := by
  unfold b247_74
  refine (k_iinc (b := (y3 + (1 : Int32))) (ls' := [.ref 396, .int y1, .int y2, .int (y3 + (1 : Int32))]) t247_74 rfl rfl (by rw [zci_1]) rfl).trans ?_
  refine (k_goto t247_77 rfl).trans ?_
  exact (zk_mk (ls' := [.ref 396, .int y1, .int y2, .int (y3 + (1 : Int32))]) t247_23 rfl)
-- X12_turned
theorem e247 (d : Nat) (x1 : Int32) (S : z_S) (hW : z_W S)  : fI (d + 1) 247 [.ref 396, .int x1] S = (zb (fI d 244 [.ref 396, .int x1] S) fun v1 S2 => (if ¬ v1 = (0 : Int32) then (zb (fI d 206 [.int x1] S2) fun v4 S5 => (zb (fI d 243 [.ref 396, .int x1] S5) fun v6 S7 => b247_23 d x1 (v4 - v6) (0 : Int32) S7)) else some ((-1 : Int32), S2))) := by
  refine (fI_en (Nat.le_of_ble_eq_true rfl) rfl).trans ?_
  refine (k_aload_n t247_0 rfl rfl).trans ?_
  refine (k_iload_n t247_1 rfl rfl).trans ?_
  refine k_callI (as := [.ref 396, .int x1]) (rest := []) t247_2 rfl rfl (by decide) rfl rfl (Nat.le_of_ble_eq_true rfl) rfl (z_rcV hW (zK_396) (by decide)) (by decide) (Or.inr (by decide)) hW (fun v1 S2 hW2 => ?_)
  refine (k_if_ne t247_5 rfl).trans (z_ite (fun g3 => ?_) (fun g3 => ?_))
  · refine (k_iload_n t247_10 rfl rfl).trans ?_
    refine k_callI (as := [.int x1]) (rest := []) t247_11 rfl rfl (by decide) rfl rfl (Nat.le_of_ble_eq_true rfl) rfl (z_rcS (by decide)) (by decide) (Or.inl (by decide)) hW2 (fun v4 S5 hW5 => ?_)
    refine (k_aload_n t247_14 rfl rfl).trans ?_
    refine (k_iload_n t247_15 rfl rfl).trans ?_
    refine k_callI (as := [.ref 396, .int x1]) (rest := [.int v4]) t247_16 rfl rfl (by decide) rfl rfl (Nat.le_of_ble_eq_true rfl) rfl (z_rcV hW5 (zK_396) (by decide)) (by decide) (Or.inl (by decide)) hW5 (fun v6 S7 hW7 => ?_)
    refine (k_isub t247_19 rfl).trans ?_
    refine (k_istore_n (ls' := [.ref 396, .int x1, .int (v4 - v6), z_j]) t247_20 rfl rfl).trans ?_
    refine (k_iconst t247_21 rfl zci_0).trans ?_
    refine (k_istore_n (ls' := [.ref 396, .int x1, .int (v4 - v6), .int (0 : Int32)]) t247_22 rfl rfl).trans ?_
    exact (zk_mk (ls' := [.ref 396, .int x1, .int (v4 - v6), .int (0 : Int32)]) t247_23 rfl)
  · refine (k_iconst t247_8 rfl zci_m1).trans ?_
    exact k_ireturn t247_9 rfl (by decide)
theorem t248_0 : z_ft 248 0 = some (.iconst (-1), 1, none, [], 0, 0, 0, 0) := z_ftd (by decide +kernel)
theorem t248_1 : z_ft 248 1 = some (.istore_n 1, 1, none, [], 0, 0, 0, 0) := z_ftd (by decide +kernel)
theorem t248_2 : z_ft 248 2 = some (.iconst 1, 1, none, [], 0, 0, 0, 0) := z_ftd (by decide +kernel)
theorem t248_3 : z_ft 248 3 = some (.istore_n 2, 1, none, [], 0, 0, 0, 0) := z_ftd (by decide +kernel)
theorem t248_4 : z_ft 248 4 = some (.iload_n 2, 1, (some [0, 1, 2]), [], 0, 0, 0, 0) := z_ftd (by decide +kernel)
theorem t248_5 : z_ft 248 5 = some (.iconst 1, 1, none, [], 0, 0, 0, 0) := z_ftd (by decide +kernel)
theorem t248_6 : z_ft 248 6 = some (.aload_n 0, 1, none, [], 0, 0, 0, 0) := z_ftd (by decide +kernel)
theorem t248_7 : z_ft 248 7 = some (.getfield 66, 3, none, [], 12, 18, 19, 0) := z_ftd (by decide +kernel)
theorem t248_10 : z_ft 248 10 = some (.aload_n 0, 1, none, [], 0, 0, 0, 0) := z_ftd (by decide +kernel)
theorem t248_11 : z_ft 248 11 = some (.getfield 51, 3, none, [], 12, 13, 14, 0) := z_ftd (by decide +kernel)
theorem t248_14 : z_ft 248 14 = some (.iaload, 1, none, [], 0, 0, 0, 0) := z_ftd (by decide +kernel)
theorem t248_15 : z_ft 248 15 = some (.ishl, 1, none, [], 0, 0, 0, 0) := z_ftd (by decide +kernel)
theorem t248_16 : z_ft 248 16 = some (.if_icmp .ge 39, 3, none, [], 55, 0, 0, 0) := z_ftd (by decide +kernel)
theorem t248_19 : z_ft 248 19 = some (.iload_n 1, 1, none, [], 0, 0, 0, 0) := z_ftd (by decide +kernel)
theorem t248_20 : z_ft 248 20 = some (.iconst (-1), 1, none, [], 0, 0, 0, 0) := z_ftd (by decide +kernel)
theorem t248_21 : z_ft 248 21 = some (.if_icmp .eq 14, 3, none, [], 35, 0, 0, 0) := z_ftd (by decide +kernel)
theorem t248_24 : z_ft 248 24 = some (.iload_n 2, 1, none, [], 0, 0, 0, 0) := z_ftd (by decide +kernel)
theorem t248_25 : z_ft 248 25 = some (.invokestatic 492, 3, none, [], 206, 0, 155, 0) := z_ftd (by decide +kernel)
theorem t248_28 : z_ft 248 28 = some (.iload_n 1, 1, none, [], 0, 0, 0, 0) := z_ftd (by decide +kernel)
theorem t248_29 : z_ft 248 29 = some (.invokestatic 492, 3, none, [], 206, 0, 155, 0) := z_ftd (by decide +kernel)
theorem t248_32 : z_ft 248 32 = some (.if_icmp .ge 17, 3, none, [], 49, 0, 0, 0) := z_ftd (by decide +kernel)
theorem t248_35 : z_ft 248 35 = some (.aload_n 0, 1, (some [0, 1, 2]), [], 0, 0, 0, 0) := z_ftd (by decide +kernel)
theorem t248_36 : z_ft 248 36 = some (.iload_n 2, 1, none, [], 0, 0, 0, 0) := z_ftd (by decide +kernel)
theorem t248_37 : z_ft 248 37 = some (.invokevirtual 524, 3, none, [], 243, 0, 173, 0) := z_ftd (by decide +kernel)
theorem t248_40 : z_ft 248 40 = some (.iload_n 2, 1, none, [], 0, 0, 0, 0) := z_ftd (by decide +kernel)
theorem t248_41 : z_ft 248 41 = some (.invokestatic 492, 3, none, [], 206, 0, 155, 0) := z_ftd (by decide +kernel)
theorem t248_44 : z_ft 248 44 = some (.if_icmp .ge 5, 3, none, [], 49, 0, 0, 0) := z_ftd (by decide +kernel)
theorem t248_47 : z_ft 248 47 = some (.iload_n 2, 1, none, [], 0, 0, 0, 0) := z_ftd (by decide +kernel)
theorem t248_48 : z_ft 248 48 = some (.istore_n 1, 1, none, [], 0, 0, 0, 0) := z_ftd (by decide +kernel)
theorem t248_49 : z_ft 248 49 = some (.iinc 2 1, 3, (some [0, 1, 2]), [], 0, 0, 0, 0) := z_ftd (by decide +kernel)
theorem t248_52 : z_ft 248 52 = some (.goto (-48), 3, none, [], 4, 0, 0, 0) := z_ftd (by decide +kernel)
theorem t248_55 : z_ft 248 55 = some (.iload_n 1, 1, none, [], 0, 0, 0, 0) := z_ftd (by decide +kernel)
theorem t248_56 : z_ft 248 56 = some (.ireturn, 1, none, [], 0, 0, 0, 0) := z_ftd (by decide +kernel)
noncomputable def b248_4 (d : Nat) (y1 : Int32) (y2 : Int32) (S : z_S) : Option (Int32 × z_S) := zk kI z_X0 d 248 4 [.ref 396, .int y1, .int y2] [] S
noncomputable def b248_35 (d : Nat) (y1 : Int32) (y2 : Int32) (S : z_S) : Option (Int32 × z_S) := zk kI z_X0 d 248 35 [.ref 396, .int y1, .int y2] [] S
noncomputable def b248_49 (d : Nat) (y1 : Int32) (y2 : Int32) (S : z_S) : Option (Int32 × z_S) := zk kI z_X0 d 248 49 [.ref 396, .int y1, .int y2] [] S
theorem b248_4_eq (d : Nat) (y1 : Int32) (y2 : Int32) (S : z_S) (hW : z_W S)  : b248_4 d y1 y2 S = (if z_in (gI S 396 13) 2 then (if ((1 : Int32) <<< ((gI S 402 ((gI S 396 13)).toNatClampNeg) &&& 31)) ≤ y2 then some (y1, S) else (if y1 = (-1 : Int32) then b248_35 d y1 y2 S else (zb (fI d 206 [.int y2] S) fun v4 S5 => (zb (fI d 206 [.int y1] S5) fun v6 S7 => (if v6 ≤ v4 then b248_49 d y1 y2 S7 else b248_35 d y1 y2 S7))))) else none) := by
  unfold b248_4
  refine (k_iload_n t248_4 rfl rfl).trans ?_
  refine (k_iconst t248_5 rfl zci_1).trans ?_
  refine (k_aload_n t248_6 rfl rfl).trans ?_
  refine (k_getR t248_7 rfl hW zK_396 (by decide) (by decide) (zF_396_18 hW)).trans ?_
  refine (k_aload_n t248_10 rfl rfl).trans ?_
  refine (k_getI t248_11 rfl hW zK_396 (by decide) (by decide)).trans ?_
  refine (k_iald t248_14 rfl hW zK_402 zL_402).trans (z_ite (fun g1 => ?_) (fun _ => rfl))
  refine (k_ishl t248_15 rfl).trans ?_
  refine (k_icmp_ge t248_16 rfl).trans (z_ite (fun g2 => ?_) (fun g2 => ?_))
  · refine (k_iload_n t248_55 rfl rfl).trans ?_
    exact k_ireturn t248_56 rfl (by decide)
  · refine (k_iload_n t248_19 rfl rfl).trans ?_
    refine (k_iconst t248_20 rfl zci_m1).trans ?_
    refine (k_icmp_eq t248_21 rfl).trans (z_ite (fun g3 => ?_) (fun g3 => ?_))
    · exact (zk_mk (ls' := [.ref 396, .int y1, .int y2]) t248_35 rfl)
    · refine (k_iload_n t248_24 rfl rfl).trans ?_
      refine k_callI (as := [.int y2]) (rest := []) t248_25 rfl rfl (by decide) rfl rfl (Nat.le_of_ble_eq_true rfl) rfl (z_rcS (by decide)) (by decide) (Or.inl (by decide)) hW (fun v4 S5 hW5 => ?_)
      refine (k_iload_n t248_28 rfl rfl).trans ?_
      refine k_callI (as := [.int y1]) (rest := [.int v4]) t248_29 rfl rfl (by decide) rfl rfl (Nat.le_of_ble_eq_true rfl) rfl (z_rcS (by decide)) (by decide) (Or.inl (by decide)) hW5 (fun v6 S7 hW7 => ?_)
      refine (k_icmp_ge t248_32 rfl).trans (z_ite (fun g8 => ?_) (fun g8 => ?_))
      · exact (zk_mk (ls' := [.ref 396, .int y1, .int y2]) t248_49 rfl)
      · exact (zk_mk (ls' := [.ref 396, .int y1, .int y2]) t248_35 rfl)
theorem b248_35_eq (d : Nat) (y1 : Int32) (y2 : Int32) (S : z_S) (hW : z_W S)  : b248_35 d y1 y2 S = (zb (fI d 243 [.ref 396, .int y2] S) fun v9 S10 => (zb (fI d 206 [.int y2] S10) fun v11 S12 => (if v11 ≤ v9 then b248_49 d y1 y2 S12 else b248_49 d y2 y2 S12))) := by
  unfold b248_35
  refine (k_aload_n t248_35 rfl rfl).trans ?_
  refine (k_iload_n t248_36 rfl rfl).trans ?_
  refine k_callI (as := [.ref 396, .int y2]) (rest := []) t248_37 rfl rfl (by decide) rfl rfl (Nat.le_of_ble_eq_true rfl) rfl (z_rcV hW (zK_396) (by decide)) (by decide) (Or.inl (by decide)) hW (fun v9 S10 hW10 => ?_)
  refine (k_iload_n t248_40 rfl rfl).trans ?_
  refine k_callI (as := [.int y2]) (rest := [.int v9]) t248_41 rfl rfl (by decide) rfl rfl (Nat.le_of_ble_eq_true rfl) rfl (z_rcS (by decide)) (by decide) (Or.inl (by decide)) hW10 (fun v11 S12 hW12 => ?_)
  refine (k_icmp_ge t248_44 rfl).trans (z_ite (fun g13 => ?_) (fun g13 => ?_))
  · exact (zk_mk (ls' := [.ref 396, .int y1, .int y2]) t248_49 rfl)
  · refine (k_iload_n t248_47 rfl rfl).trans ?_
    refine (k_istore_n (ls' := [.ref 396, .int y2, .int y2]) t248_48 rfl rfl).trans ?_
    exact (zk_mk (ls' := [.ref 396, .int y2, .int y2]) t248_49 rfl)
theorem b248_49_eq (d : Nat) (y1 : Int32) (y2 : Int32) (S : z_S) (hW : z_W S)  : b248_49 d y1 y2 S = b248_4 d y1 (y2 + (1 : Int32)) S := by
  unfold b248_49
  refine (k_iinc (b := (y2 + (1 : Int32))) (ls' := [.ref 396, .int y1, .int (y2 + (1 : Int32))]) t248_49 rfl rfl (by rw [zci_1]) rfl).trans ?_
  refine (k_goto t248_52 rfl).trans ?_
  exact (zk_mk (ls' := [.ref 396, .int y1, .int (y2 + (1 : Int32))]) t248_4 rfl)
-- X12_crowd
theorem e248 (d : Nat)  (S : z_S) (hW : z_W S)  : fI (d + 1) 248 [.ref 396] S = b248_4 d (-1 : Int32) (1 : Int32) S := by
  refine (fI_en (Nat.le_of_ble_eq_true rfl) rfl).trans ?_
  refine (k_iconst t248_0 rfl zci_m1).trans ?_
  refine (k_istore_n (ls' := [.ref 396, .int (-1 : Int32), z_j]) t248_1 rfl rfl).trans ?_
  refine (k_iconst t248_2 rfl zci_1).trans ?_
  refine (k_istore_n (ls' := [.ref 396, .int (-1 : Int32), .int (1 : Int32)]) t248_3 rfl rfl).trans ?_
  exact (zk_mk (ls' := [.ref 396, .int (-1 : Int32), .int (1 : Int32)]) t248_4 rfl)
theorem t249_0 : z_ft 249 0 = some (.iconst 0, 1, none, [], 0, 0, 0, 0) := z_ftd (by decide +kernel)
theorem t249_1 : z_ft 249 1 = some (.istore_n 2, 1, none, [], 0, 0, 0, 0) := z_ftd (by decide +kernel)
theorem t249_2 : z_ft 249 2 = some (.iload_n 1, 1, none, [], 0, 0, 0, 0) := z_ftd (by decide +kernel)
theorem t249_3 : z_ft 249 3 = some (.istore_n 3, 1, none, [], 0, 0, 0, 0) := z_ftd (by decide +kernel)
theorem t249_4 : z_ft 249 4 = some (.iconst 0, 1, none, [], 0, 0, 0, 0) := z_ftd (by decide +kernel)
theorem t249_5 : z_ft 249 5 = some (.istore 4, 2, none, [], 0, 0, 0, 0) := z_ftd (by decide +kernel)
theorem t249_7 : z_ft 249 7 = some (.iload 4, 2, (some [0, 2, 3, 4]), [], 0, 0, 0, 0) := z_ftd (by decide +kernel)
theorem t249_9 : z_ft 249 9 = some (.bipush 16, 2, none, [], 0, 0, 0, 0) := z_ftd (by decide +kernel)
theorem t249_11 : z_ft 249 11 = some (.if_icmp .gt 59, 3, none, [], 70, 0, 0, 0) := z_ftd (by decide +kernel)
theorem t249_14 : z_ft 249 14 = some (.aload_n 0, 1, none, [], 0, 0, 0, 0) := z_ftd (by decide +kernel)
theorem t249_15 : z_ft 249 15 = some (.iconst 0, 1, none, [], 0, 0, 0, 0) := z_ftd (by decide +kernel)
theorem t249_16 : z_ft 249 16 = some (.iload_n 3, 1, none, [], 0, 0, 0, 0) := z_ftd (by decide +kernel)
theorem t249_17 : z_ft 249 17 = some (.invokevirtual 426, 3, none, [], 207, 0, 138, 0) := z_ftd (by decide +kernel)
theorem t249_20 : z_ft 249 20 = some (.ifCond .ne 11, 3, none, [], 31, 0, 0, 0) := z_ftd (by decide +kernel)
theorem t249_23 : z_ft 249 23 = some (.iload_n 2, 1, none, [], 0, 0, 0, 0) := z_ftd (by decide +kernel)
theorem t249_24 : z_ft 249 24 = some (.iload_n 3, 1, none, [], 0, 0, 0, 0) := z_ftd (by decide +kernel)
theorem t249_25 : z_ft 249 25 = some (.invokestatic 364, 3, none, [], 182, 0, 121, 0) := z_ftd (by decide +kernel)
theorem t249_28 : z_ft 249 28 = some (.ifCond .eq 5, 3, none, [], 33, 0, 0, 0) := z_ftd (by decide +kernel)
theorem t249_31 : z_ft 249 31 = some (.iconst (-1), 1, (some []), [], 0, 0, 0, 0) := z_ftd (by decide +kernel)
theorem t249_32 : z_ft 249 32 = some (.ireturn, 1, none, [], 0, 0, 0, 0) := z_ftd (by decide +kernel)
theorem t249_33 : z_ft 249 33 = some (.aload_n 0, 1, none, [], 0, 0, 0, 0) := z_ftd (by decide +kernel)
theorem t249_34 : z_ft 249 34 = some (.getfield 156, 3, none, [], 12, 47, 48, 0) := z_ftd (by decide +kernel)
theorem t249_37 : z_ft 249 37 = some (.iload_n 3, 1, none, [], 0, 0, 0, 0) := z_ftd (by decide +kernel)
theorem t249_38 : z_ft 249 38 = some (.iaload, 1, none, [], 0, 0, 0, 0) := z_ftd (by decide +kernel)
theorem t249_39 : z_ft 249 39 = some (.iconst (-1), 1, none, [], 0, 0, 0, 0) := z_ftd (by decide +kernel)
theorem t249_40 : z_ft 249 40 = some (.if_icmp .ne 6, 3, none, [], 46, 0, 0, 0) := z_ftd (by decide +kernel)
theorem t249_43 : z_ft 249 43 = some (.iload 4, 2, none, [], 0, 0, 0, 0) := z_ftd (by decide +kernel)
theorem t249_45 : z_ft 249 45 = some (.ireturn, 1, none, [], 0, 0, 0, 0) := z_ftd (by decide +kernel)
theorem t249_46 : z_ft 249 46 = some (.iload_n 2, 1, none, [], 0, 0, 0, 0) := z_ftd (by decide +kernel)
theorem t249_47 : z_ft 249 47 = some (.iconst 1, 1, none, [], 0, 0, 0, 0) := z_ftd (by decide +kernel)
theorem t249_48 : z_ft 249 48 = some (.iload_n 3, 1, none, [], 0, 0, 0, 0) := z_ftd (by decide +kernel)
theorem t249_49 : z_ft 249 49 = some (.ishl, 1, none, [], 0, 0, 0, 0) := z_ftd (by decide +kernel)
theorem t249_50 : z_ft 249 50 = some (.ior, 1, none, [], 0, 0, 0, 0) := z_ftd (by decide +kernel)
theorem t249_51 : z_ft 249 51 = some (.istore_n 2, 1, none, [], 0, 0, 0, 0) := z_ftd (by decide +kernel)
theorem t249_52 : z_ft 249 52 = some (.aload_n 0, 1, none, [], 0, 0, 0, 0) := z_ftd (by decide +kernel)
theorem t249_53 : z_ft 249 53 = some (.aload_n 0, 1, none, [], 0, 0, 0, 0) := z_ftd (by decide +kernel)
theorem t249_54 : z_ft 249 54 = some (.getfield 156, 3, none, [], 12, 47, 48, 0) := z_ftd (by decide +kernel)
theorem t249_57 : z_ft 249 57 = some (.iload_n 3, 1, none, [], 0, 0, 0, 0) := z_ftd (by decide +kernel)
theorem t249_58 : z_ft 249 58 = some (.iaload, 1, none, [], 0, 0, 0, 0) := z_ftd (by decide +kernel)
theorem t249_59 : z_ft 249 59 = some (.iload_n 3, 1, none, [], 0, 0, 0, 0) := z_ftd (by decide +kernel)
theorem t249_60 : z_ft 249 60 = some (.invokevirtual 467, 3, none, [], 212, 0, 151, 0) := z_ftd (by decide +kernel)
theorem t249_63 : z_ft 249 63 = some (.istore_n 3, 1, none, [], 0, 0, 0, 0) := z_ftd (by decide +kernel)
theorem t249_64 : z_ft 249 64 = some (.iinc 4 1, 3, none, [], 0, 0, 0, 0) := z_ftd (by decide +kernel)
theorem t249_67 : z_ft 249 67 = some (.goto (-60), 3, none, [], 7, 0, 0, 0) := z_ftd (by decide +kernel)
theorem t249_70 : z_ft 249 70 = some (.iconst (-1), 1, none, [], 0, 0, 0, 0) := z_ftd (by decide +kernel)
theorem t249_71 : z_ft 249 71 = some (.ireturn, 1, none, [], 0, 0, 0, 0) := z_ftd (by decide +kernel)
noncomputable def b249_7 (d : Nat) (y2 : Int32) (y3 : Int32) (y4 : Int32) (S : z_S) : Option (Int32 × z_S) := zk kI z_X0 d 249 7 [.ref 396, z_j, .int y2, .int y3, .int y4] [] S
theorem b249_7_eq (d : Nat) (y2 : Int32) (y3 : Int32) (y4 : Int32) (S : z_S) (hW : z_W S)  : b249_7 d y2 y3 y4 S = (if (16 : Int32) < y4 then some ((-1 : Int32), S) else (zb (fI d 207 [.ref 396, .int (0 : Int32), .int y3] S) fun v2 S3 => (if ¬ v2 = (0 : Int32) then some ((-1 : Int32), S3) else (zb (fI d 182 [.int y2, .int y3] S3) fun v5 S6 => (if v5 = (0 : Int32) then (if z_in y3 352 then (if ¬ (gI S6 423 (y3).toNatClampNeg) = (-1 : Int32) then (if z_in y3 352 then (zb (fI d 212 [.ref 396, .int (gI S6 423 (y3).toNatClampNeg), .int y3] S6) fun v11 S12 => b249_7 d (y2 ||| ((1 : Int32) <<< (y3 &&& 31))) v11 (y4 + (1 : Int32)) S12) else none) else some (y4, S6)) else none) else some ((-1 : Int32), S6)))))) := by
  unfold b249_7
  refine (k_iload t249_7 rfl rfl).trans ?_
  refine (k_bipush t249_9 rfl zcb_16).trans ?_
  refine (k_icmp_gt t249_11 rfl).trans (z_ite (fun g1 => ?_) (fun g1 => ?_))
  · refine (k_iconst t249_70 rfl zci_m1).trans ?_
    exact k_ireturn t249_71 rfl (by decide)
  · refine (k_aload_n t249_14 rfl rfl).trans ?_
    refine (k_iconst t249_15 rfl zci_0).trans ?_
    refine (k_iload_n t249_16 rfl rfl).trans ?_
    refine k_callI (as := [.ref 396, .int (0 : Int32), .int y3]) (rest := []) t249_17 rfl rfl (by decide) rfl rfl (Nat.le_of_ble_eq_true rfl) rfl (z_rcV hW (zK_396) (by decide)) (by decide) (Or.inr (by decide)) hW (fun v2 S3 hW3 => ?_)
    refine (k_if_ne t249_20 rfl).trans (z_ite (fun g4 => ?_) (fun g4 => ?_))
    · refine (zk_mk (ls' := [z_j, z_j, z_j, z_j, z_j]) t249_31 rfl).trans ?_
      refine (k_iconst t249_31 rfl zci_m1).trans ?_
      exact k_ireturn t249_32 rfl (by decide)
    · refine (k_iload_n t249_23 rfl rfl).trans ?_
      refine (k_iload_n t249_24 rfl rfl).trans ?_
      refine k_callI (as := [.int y2, .int y3]) (rest := []) t249_25 rfl rfl (by decide) rfl rfl (Nat.le_of_ble_eq_true rfl) rfl (z_rcS (by decide)) (by decide) (Or.inr (by decide)) hW3 (fun v5 S6 hW6 => ?_)
      refine (k_if_eq t249_28 rfl).trans (z_ite (fun g7 => ?_) (fun g7 => ?_))
      · refine (k_aload_n t249_33 rfl rfl).trans ?_
        refine (k_getR t249_34 rfl hW6 zK_396 (by decide) (by decide) (zF_396_47 hW6)).trans ?_
        refine (k_iload_n t249_37 rfl rfl).trans ?_
        refine (k_iald t249_38 rfl hW6 zK_423 zL_423).trans (z_ite (fun g8 => ?_) (fun _ => rfl))
        refine (k_iconst t249_39 rfl zci_m1).trans ?_
        refine (k_icmp_ne t249_40 rfl).trans (z_ite (fun g9 => ?_) (fun g9 => ?_))
        · refine (k_iload_n t249_46 rfl rfl).trans ?_
          refine (k_iconst t249_47 rfl zci_1).trans ?_
          refine (k_iload_n t249_48 rfl rfl).trans ?_
          refine (k_ishl t249_49 rfl).trans ?_
          refine (k_ior t249_50 rfl).trans ?_
          refine (k_istore_n (ls' := [.ref 396, z_j, .int (y2 ||| ((1 : Int32) <<< (y3 &&& 31))), .int y3, .int y4]) t249_51 rfl rfl).trans ?_
          refine (k_aload_n t249_52 rfl rfl).trans ?_
          refine (k_aload_n t249_53 rfl rfl).trans ?_
          refine (k_getR t249_54 rfl hW6 zK_396 (by decide) (by decide) (zF_396_47 hW6)).trans ?_
          refine (k_iload_n t249_57 rfl rfl).trans ?_
          refine (k_iald t249_58 rfl hW6 zK_423 zL_423).trans (z_ite (fun g10 => ?_) (fun _ => rfl))
          refine (k_iload_n t249_59 rfl rfl).trans ?_
          refine k_callI (as := [.ref 396, .int (gI S6 423 (y3).toNatClampNeg), .int y3]) (rest := []) t249_60 rfl rfl (by decide) rfl rfl (Nat.le_of_ble_eq_true rfl) rfl (z_rcV hW6 (zK_396) (by decide)) (by decide) (Or.inl (by decide)) hW6 (fun v11 S12 hW12 => ?_)
          refine (k_istore_n (ls' := [.ref 396, z_j, .int (y2 ||| ((1 : Int32) <<< (y3 &&& 31))), .int v11, .int y4]) t249_63 rfl rfl).trans ?_
          refine (k_iinc (b := (y4 + (1 : Int32))) (ls' := [.ref 396, z_j, .int (y2 ||| ((1 : Int32) <<< (y3 &&& 31))), .int v11, .int (y4 + (1 : Int32))]) t249_64 rfl rfl (by rw [zci_1]) rfl).trans ?_
          refine (k_goto t249_67 rfl).trans ?_
          exact (zk_mk (ls' := [.ref 396, z_j, .int (y2 ||| ((1 : Int32) <<< (y3 &&& 31))), .int v11, .int (y4 + (1 : Int32))]) t249_7 rfl)
        · refine (k_iload t249_43 rfl rfl).trans ?_
          exact k_ireturn t249_45 rfl (by decide)
      · refine (zk_mk (ls' := [z_j, z_j, z_j, z_j, z_j]) t249_31 rfl).trans ?_
        refine (k_iconst t249_31 rfl zci_m1).trans ?_
        exact k_ireturn t249_32 rfl (by decide)
-- X12_cleared
theorem e249 (d : Nat) (x1 : Int32) (S : z_S) (hW : z_W S)  : fI (d + 1) 249 [.ref 396, .int x1] S = b249_7 d (0 : Int32) x1 (0 : Int32) S := by
  refine (fI_en (Nat.le_of_ble_eq_true rfl) rfl).trans ?_
  refine (k_iconst t249_0 rfl zci_0).trans ?_
  refine (k_istore_n (ls' := [.ref 396, .int x1, .int (0 : Int32), z_j, z_j]) t249_1 rfl rfl).trans ?_
  refine (k_iload_n t249_2 rfl rfl).trans ?_
  refine (k_istore_n (ls' := [.ref 396, .int x1, .int (0 : Int32), .int x1, z_j]) t249_3 rfl rfl).trans ?_
  refine (k_iconst t249_4 rfl zci_0).trans ?_
  refine (k_istore (ls' := [.ref 396, .int x1, .int (0 : Int32), .int x1, .int (0 : Int32)]) t249_5 rfl rfl).trans ?_
  exact (zk_mk (ls' := [.ref 396, z_j, .int (0 : Int32), .int x1, .int (0 : Int32)]) t249_7 rfl)
theorem t250_0 : z_ft 250 0 = some (.aload_n 0, 1, none, [], 0, 0, 0, 0) := z_ftd (by decide +kernel)
theorem t250_1 : z_ft 250 1 = some (.iload_n 1, 1, none, [], 0, 0, 0, 0) := z_ftd (by decide +kernel)
theorem t250_2 : z_ft 250 2 = some (.invokevirtual 500, 3, none, [], 227, 0, 158, 0) := z_ftd (by decide +kernel)
theorem t250_5 : z_ft 250 5 = some (.ifCond .eq 11, 3, none, [], 16, 0, 0, 0) := z_ftd (by decide +kernel)
theorem t250_8 : z_ft 250 8 = some (.aload_n 0, 1, none, [], 0, 0, 0, 0) := z_ftd (by decide +kernel)
theorem t250_9 : z_ft 250 9 = some (.iload_n 1, 1, none, [], 0, 0, 0, 0) := z_ftd (by decide +kernel)
theorem t250_10 : z_ft 250 10 = some (.invokevirtual 527, 3, none, [], 249, 0, 176, 0) := z_ftd (by decide +kernel)
theorem t250_13 : z_ft 250 13 = some (.goto 4, 3, none, [], 17, 0, 0, 0) := z_ftd (by decide +kernel)
theorem t250_16 : z_ft 250 16 = some (.iconst (-1), 1, none, [], 0, 0, 0, 0) := z_ftd (by decide +kernel)
theorem t250_17 : z_ft 250 17 = some (.ireturn, 1, (some []), [], 0, 0, 0, 0) := z_ftd (by decide +kernel)
-- X12_clear
theorem e250 (d : Nat) (x1 : Int32) (S : z_S) (hW : z_W S)  : fI (d + 1) 250 [.ref 396, .int x1] S = (zb (fI d 227 [.ref 396, .int x1] S) fun v1 S2 => (if v1 = (0 : Int32) then some ((-1 : Int32), S2) else (zb (fI d 249 [.ref 396, .int x1] S2) fun v4 S5 => some (v4, S5)))) := by
  refine (fI_en (Nat.le_of_ble_eq_true rfl) rfl).trans ?_
  refine (k_aload_n t250_0 rfl rfl).trans ?_
  refine (k_iload_n t250_1 rfl rfl).trans ?_
  refine k_callI (as := [.ref 396, .int x1]) (rest := []) t250_2 rfl rfl (by decide) rfl rfl (Nat.le_of_ble_eq_true rfl) rfl (z_rcV hW (zK_396) (by decide)) (by decide) (Or.inr (by decide)) hW (fun v1 S2 hW2 => ?_)
  refine (k_if_eq t250_5 rfl).trans (z_ite (fun g3 => ?_) (fun g3 => ?_))
  · refine (k_iconst t250_16 rfl zci_m1).trans ?_
    refine (zk_mk (ls' := [z_j, z_j]) t250_17 rfl).trans ?_
    exact k_ireturn t250_17 rfl (by decide)
  · refine (k_aload_n t250_8 rfl rfl).trans ?_
    refine (k_iload_n t250_9 rfl rfl).trans ?_
    refine k_callI (as := [.ref 396, .int x1]) (rest := []) t250_10 rfl rfl (by decide) rfl rfl (Nat.le_of_ble_eq_true rfl) rfl (z_rcV hW2 (zK_396) (by decide)) (by decide) (Or.inl (by decide)) hW2 (fun v4 S5 hW5 => ?_)
    refine (k_goto t250_13 rfl).trans ?_
    refine (zk_mk (ls' := [z_j, z_j]) t250_17 rfl).trans ?_
    exact k_ireturn t250_17 rfl (by decide)
theorem t251_0 : z_ft 251 0 = some (.aload_n 0, 1, none, [], 0, 0, 0, 0) := z_ftd (by decide +kernel)
theorem t251_1 : z_ft 251 1 = some (.iload_n 1, 1, none, [], 0, 0, 0, 0) := z_ftd (by decide +kernel)
theorem t251_2 : z_ft 251 2 = some (.invokevirtual 495, 3, none, [], 228, 0, 156, 0) := z_ftd (by decide +kernel)
theorem t251_5 : z_ft 251 5 = some (.ifCond .eq 13, 3, none, [], 18, 0, 0, 0) := z_ftd (by decide +kernel)
theorem t251_8 : z_ft 251 8 = some (.aload_n 0, 1, none, [], 0, 0, 0, 0) := z_ftd (by decide +kernel)
theorem t251_9 : z_ft 251 9 = some (.iconst 0, 1, none, [], 0, 0, 0, 0) := z_ftd (by decide +kernel)
theorem t251_10 : z_ft 251 10 = some (.iload_n 1, 1, none, [], 0, 0, 0, 0) := z_ftd (by decide +kernel)
theorem t251_11 : z_ft 251 11 = some (.invokevirtual 438, 3, none, [], 213, 0, 159, 0) := z_ftd (by decide +kernel)
theorem t251_14 : z_ft 251 14 = some (.iconst (-1), 1, none, [], 0, 0, 0, 0) := z_ftd (by decide +kernel)
theorem t251_15 : z_ft 251 15 = some (.if_icmp .eq 5, 3, none, [], 20, 0, 0, 0) := z_ftd (by decide +kernel)
theorem t251_18 : z_ft 251 18 = some (.iconst (-1), 1, (some []), [], 0, 0, 0, 0) := z_ftd (by decide +kernel)
theorem t251_19 : z_ft 251 19 = some (.ireturn, 1, none, [], 0, 0, 0, 0) := z_ftd (by decide +kernel)
theorem t251_20 : z_ft 251 20 = some (.aload_n 0, 1, none, [], 0, 0, 0, 0) := z_ftd (by decide +kernel)
theorem t251_21 : z_ft 251 21 = some (.aload_n 0, 1, none, [], 0, 0, 0, 0) := z_ftd (by decide +kernel)
theorem t251_22 : z_ft 251 22 = some (.iload_n 1, 1, none, [], 0, 0, 0, 0) := z_ftd (by decide +kernel)
theorem t251_23 : z_ft 251 23 = some (.invokevirtual 432, 3, none, [], 210, 0, 135, 0) := z_ftd (by decide +kernel)
theorem t251_26 : z_ft 251 26 = some (.invokevirtual 527, 3, none, [], 249, 0, 176, 0) := z_ftd (by decide +kernel)
theorem t251_29 : z_ft 251 29 = some (.istore_n 2, 1, none, [], 0, 0, 0, 0) := z_ftd (by decide +kernel)
theorem t251_30 : z_ft 251 30 = some (.aload_n 0, 1, none, [], 0, 0, 0, 0) := z_ftd (by decide +kernel)
theorem t251_31 : z_ft 251 31 = some (.aload_n 0, 1, none, [], 0, 0, 0, 0) := z_ftd (by decide +kernel)
theorem t251_32 : z_ft 251 32 = some (.iload_n 1, 1, none, [], 0, 0, 0, 0) := z_ftd (by decide +kernel)
theorem t251_33 : z_ft 251 33 = some (.invokevirtual 435, 3, none, [], 211, 0, 136, 0) := z_ftd (by decide +kernel)
theorem t251_36 : z_ft 251 36 = some (.invokevirtual 527, 3, none, [], 249, 0, 176, 0) := z_ftd (by decide +kernel)
theorem t251_39 : z_ft 251 39 = some (.istore_n 3, 1, none, [], 0, 0, 0, 0) := z_ftd (by decide +kernel)
theorem t251_40 : z_ft 251 40 = some (.iload_n 2, 1, none, [], 0, 0, 0, 0) := z_ftd (by decide +kernel)
theorem t251_41 : z_ft 251 41 = some (.iconst (-1), 1, none, [], 0, 0, 0, 0) := z_ftd (by decide +kernel)
theorem t251_42 : z_ft 251 42 = some (.if_icmp .eq 13, 3, none, [], 55, 0, 0, 0) := z_ftd (by decide +kernel)
theorem t251_45 : z_ft 251 45 = some (.iload_n 3, 1, none, [], 0, 0, 0, 0) := z_ftd (by decide +kernel)
theorem t251_46 : z_ft 251 46 = some (.iconst (-1), 1, none, [], 0, 0, 0, 0) := z_ftd (by decide +kernel)
theorem t251_47 : z_ft 251 47 = some (.if_icmp .eq 12, 3, none, [], 59, 0, 0, 0) := z_ftd (by decide +kernel)
theorem t251_50 : z_ft 251 50 = some (.iload_n 3, 1, none, [], 0, 0, 0, 0) := z_ftd (by decide +kernel)
theorem t251_51 : z_ft 251 51 = some (.iload_n 2, 1, none, [], 0, 0, 0, 0) := z_ftd (by decide +kernel)
theorem t251_52 : z_ft 251 52 = some (.if_icmp .ge 7, 3, none, [], 59, 0, 0, 0) := z_ftd (by decide +kernel)
theorem t251_55 : z_ft 251 55 = some (.iload_n 3, 1, (some [3]), [], 0, 0, 0, 0) := z_ftd (by decide +kernel)
theorem t251_56 : z_ft 251 56 = some (.goto 4, 3, none, [], 60, 0, 0, 0) := z_ftd (by decide +kernel)
theorem t251_59 : z_ft 251 59 = some (.iload_n 2, 1, (some [2]), [], 0, 0, 0, 0) := z_ftd (by decide +kernel)
theorem t251_60 : z_ft 251 60 = some (.ireturn, 1, (some []), [], 0, 0, 0, 0) := z_ftd (by decide +kernel)
noncomputable def b251_55 (d : Nat) (y3 : Int32) (S : z_S) : Option (Int32 × z_S) := zk kI z_X0 d 251 55 [z_j, z_j, z_j, .int y3] [] S
noncomputable def b251_59 (d : Nat) (y2 : Int32) (S : z_S) : Option (Int32 × z_S) := zk kI z_X0 d 251 59 [z_j, z_j, .int y2, z_j] [] S
theorem b251_55_eq (d : Nat) (y3 : Int32) (S : z_S) (hW : z_W S)  : b251_55 d y3 S = some (y3, S) := by
  unfold b251_55
  refine (k_iload_n t251_55 rfl rfl).trans ?_
  refine (k_goto t251_56 rfl).trans ?_
  refine (zk_mk (ls' := [z_j, z_j, z_j, z_j]) t251_60 rfl).trans ?_
  exact k_ireturn t251_60 rfl (by decide)
theorem b251_59_eq (d : Nat) (y2 : Int32) (S : z_S) (hW : z_W S)  : b251_59 d y2 S = some (y2, S) := by
  unfold b251_59
  refine (k_iload_n t251_59 rfl rfl).trans ?_
  refine (zk_mk (ls' := [z_j, z_j, z_j, z_j]) t251_60 rfl).trans ?_
  exact k_ireturn t251_60 rfl (by decide)
-- X12_moves
theorem e251 (d : Nat) (x1 : Int32) (S : z_S) (hW : z_W S)  : fI (d + 1) 251 [.ref 396, .int x1] S = (zb (fI d 228 [.ref 396, .int x1] S) fun v1 S2 => (if v1 = (0 : Int32) then some ((-1 : Int32), S2) else (zb (fI d 213 [.ref 396, .int (0 : Int32), .int x1] S2) fun v4 S5 => (if v4 = (-1 : Int32) then (zb (fI d 210 [.ref 396, .int x1] S5) fun v7 S8 => (zb (fI d 249 [.ref 396, .int v7] S8) fun v9 S10 => (zb (fI d 211 [.ref 396, .int x1] S10) fun v11 S12 => (zb (fI d 249 [.ref 396, .int v11] S12) fun v13 S14 => (if v9 = (-1 : Int32) then b251_55 d v13 S14 else (if v13 = (-1 : Int32) then b251_59 d v9 S14 else (if v9 ≤ v13 then b251_59 d v9 S14 else b251_55 d v13 S14))))))) else some ((-1 : Int32), S5))))) := by
  refine (fI_en (Nat.le_of_ble_eq_true rfl) rfl).trans ?_
  refine (k_aload_n t251_0 rfl rfl).trans ?_
  refine (k_iload_n t251_1 rfl rfl).trans ?_
  refine k_callI (as := [.ref 396, .int x1]) (rest := []) t251_2 rfl rfl (by decide) rfl rfl (Nat.le_of_ble_eq_true rfl) rfl (z_rcV hW (zK_396) (by decide)) (by decide) (Or.inr (by decide)) hW (fun v1 S2 hW2 => ?_)
  refine (k_if_eq t251_5 rfl).trans (z_ite (fun g3 => ?_) (fun g3 => ?_))
  · refine (zk_mk (ls' := [z_j, z_j, z_j, z_j]) t251_18 rfl).trans ?_
    refine (k_iconst t251_18 rfl zci_m1).trans ?_
    exact k_ireturn t251_19 rfl (by decide)
  · refine (k_aload_n t251_8 rfl rfl).trans ?_
    refine (k_iconst t251_9 rfl zci_0).trans ?_
    refine (k_iload_n t251_10 rfl rfl).trans ?_
    refine k_callI (as := [.ref 396, .int (0 : Int32), .int x1]) (rest := []) t251_11 rfl rfl (by decide) rfl rfl (Nat.le_of_ble_eq_true rfl) rfl (z_rcV hW2 (zK_396) (by decide)) (by decide) (Or.inl (by decide)) hW2 (fun v4 S5 hW5 => ?_)
    refine (k_iconst t251_14 rfl zci_m1).trans ?_
    refine (k_icmp_eq t251_15 rfl).trans (z_ite (fun g6 => ?_) (fun g6 => ?_))
    · refine (k_aload_n t251_20 rfl rfl).trans ?_
      refine (k_aload_n t251_21 rfl rfl).trans ?_
      refine (k_iload_n t251_22 rfl rfl).trans ?_
      refine k_callI (as := [.ref 396, .int x1]) (rest := [.ref 396]) t251_23 rfl rfl (by decide) rfl rfl (Nat.le_of_ble_eq_true rfl) rfl (z_rcV hW5 (zK_396) (by decide)) (by decide) (Or.inl (by decide)) hW5 (fun v7 S8 hW8 => ?_)
      refine k_callI (as := [.ref 396, .int v7]) (rest := []) t251_26 rfl rfl (by decide) rfl rfl (Nat.le_of_ble_eq_true rfl) rfl (z_rcV hW8 (zK_396) (by decide)) (by decide) (Or.inl (by decide)) hW8 (fun v9 S10 hW10 => ?_)
      refine (k_istore_n (ls' := [.ref 396, .int x1, .int v9, z_j]) t251_29 rfl rfl).trans ?_
      refine (k_aload_n t251_30 rfl rfl).trans ?_
      refine (k_aload_n t251_31 rfl rfl).trans ?_
      refine (k_iload_n t251_32 rfl rfl).trans ?_
      refine k_callI (as := [.ref 396, .int x1]) (rest := [.ref 396]) t251_33 rfl rfl (by decide) rfl rfl (Nat.le_of_ble_eq_true rfl) rfl (z_rcV hW10 (zK_396) (by decide)) (by decide) (Or.inl (by decide)) hW10 (fun v11 S12 hW12 => ?_)
      refine k_callI (as := [.ref 396, .int v11]) (rest := []) t251_36 rfl rfl (by decide) rfl rfl (Nat.le_of_ble_eq_true rfl) rfl (z_rcV hW12 (zK_396) (by decide)) (by decide) (Or.inl (by decide)) hW12 (fun v13 S14 hW14 => ?_)
      refine (k_istore_n (ls' := [.ref 396, .int x1, .int v9, .int v13]) t251_39 rfl rfl).trans ?_
      refine (k_iload_n t251_40 rfl rfl).trans ?_
      refine (k_iconst t251_41 rfl zci_m1).trans ?_
      refine (k_icmp_eq t251_42 rfl).trans (z_ite (fun g15 => ?_) (fun g15 => ?_))
      · exact (zk_mk (ls' := [z_j, z_j, z_j, .int v13]) t251_55 rfl)
      · refine (k_iload_n t251_45 rfl rfl).trans ?_
        refine (k_iconst t251_46 rfl zci_m1).trans ?_
        refine (k_icmp_eq t251_47 rfl).trans (z_ite (fun g16 => ?_) (fun g16 => ?_))
        · exact (zk_mk (ls' := [z_j, z_j, .int v9, z_j]) t251_59 rfl)
        · refine (k_iload_n t251_50 rfl rfl).trans ?_
          refine (k_iload_n t251_51 rfl rfl).trans ?_
          refine (k_icmp_ge t251_52 rfl).trans (z_ite (fun g17 => ?_) (fun g17 => ?_))
          · exact (zk_mk (ls' := [z_j, z_j, .int v9, z_j]) t251_59 rfl)
          · exact (zk_mk (ls' := [z_j, z_j, z_j, .int v13]) t251_55 rfl)
    · refine (zk_mk (ls' := [z_j, z_j, z_j, z_j]) t251_18 rfl).trans ?_
      refine (k_iconst t251_18 rfl zci_m1).trans ?_
      exact k_ireturn t251_19 rfl (by decide)
theorem t252_0 : z_ft 252 0 = some (.iload_n 1, 1, none, [], 0, 0, 0, 0) := z_ftd (by decide +kernel)
theorem t252_1 : z_ft 252 1 = some (.iconst (-1), 1, none, [], 0, 0, 0, 0) := z_ftd (by decide +kernel)
theorem t252_2 : z_ft 252 2 = some (.if_icmp .eq 11, 3, none, [], 13, 0, 0, 0) := z_ftd (by decide +kernel)
theorem t252_5 : z_ft 252 5 = some (.aload_n 0, 1, none, [], 0, 0, 0, 0) := z_ftd (by decide +kernel)
theorem t252_6 : z_ft 252 6 = some (.iload_n 1, 1, none, [], 0, 0, 0, 0) := z_ftd (by decide +kernel)
theorem t252_7 : z_ft 252 7 = some (.invokevirtual 495, 3, none, [], 228, 0, 156, 0) := z_ftd (by decide +kernel)
theorem t252_10 : z_ft 252 10 = some (.ifCond .eq 25, 3, none, [], 35, 0, 0, 0) := z_ftd (by decide +kernel)
theorem t252_13 : z_ft 252 13 = some (.aload_n 0, 1, (some [0, 1]), [], 0, 0, 0, 0) := z_ftd (by decide +kernel)
theorem t252_14 : z_ft 252 14 = some (.getfield 66, 3, none, [], 12, 18, 19, 0) := z_ftd (by decide +kernel)
theorem t252_17 : z_ft 252 17 = some (.aload_n 0, 1, none, [], 0, 0, 0, 0) := z_ftd (by decide +kernel)
theorem t252_18 : z_ft 252 18 = some (.getfield 51, 3, none, [], 12, 13, 14, 0) := z_ftd (by decide +kernel)
theorem t252_21 : z_ft 252 21 = some (.iaload, 1, none, [], 0, 0, 0, 0) := z_ftd (by decide +kernel)
theorem t252_22 : z_ft 252 22 = some (.ifCond .eq 13, 3, none, [], 35, 0, 0, 0) := z_ftd (by decide +kernel)
theorem t252_25 : z_ft 252 25 = some (.aload_n 0, 1, none, [], 0, 0, 0, 0) := z_ftd (by decide +kernel)
theorem t252_26 : z_ft 252 26 = some (.iconst 1, 1, none, [], 0, 0, 0, 0) := z_ftd (by decide +kernel)
theorem t252_27 : z_ft 252 27 = some (.iconst 1, 1, none, [], 0, 0, 0, 0) := z_ftd (by decide +kernel)
theorem t252_28 : z_ft 252 28 = some (.iconst 1, 1, none, [], 0, 0, 0, 0) := z_ftd (by decide +kernel)
theorem t252_29 : z_ft 252 29 = some (.invokevirtual 509, 3, none, [], 235, 0, 162, 0) := z_ftd (by decide +kernel)
theorem t252_32 : z_ft 252 32 = some (.ifCond .ne 5, 3, none, [], 37, 0, 0, 0) := z_ftd (by decide +kernel)
theorem t252_35 : z_ft 252 35 = some (.iconst (-1), 1, (some []), [], 0, 0, 0, 0) := z_ftd (by decide +kernel)
theorem t252_36 : z_ft 252 36 = some (.ireturn, 1, none, [], 0, 0, 0, 0) := z_ftd (by decide +kernel)
theorem t252_37 : z_ft 252 37 = some (.iload_n 1, 1, none, [], 0, 0, 0, 0) := z_ftd (by decide +kernel)
theorem t252_38 : z_ft 252 38 = some (.iconst (-1), 1, none, [], 0, 0, 0, 0) := z_ftd (by decide +kernel)
theorem t252_39 : z_ft 252 39 = some (.if_icmp .ne 16, 3, none, [], 55, 0, 0, 0) := z_ftd (by decide +kernel)
theorem t252_42 : z_ft 252 42 = some (.bipush 100, 2, none, [], 0, 0, 0, 0) := z_ftd (by decide +kernel)
theorem t252_44 : z_ft 252 44 = some (.aload_n 0, 1, none, [], 0, 0, 0, 0) := z_ftd (by decide +kernel)
theorem t252_45 : z_ft 252 45 = some (.getfield 66, 3, none, [], 12, 18, 19, 0) := z_ftd (by decide +kernel)
theorem t252_48 : z_ft 252 48 = some (.aload_n 0, 1, none, [], 0, 0, 0, 0) := z_ftd (by decide +kernel)
theorem t252_49 : z_ft 252 49 = some (.getfield 51, 3, none, [], 12, 13, 14, 0) := z_ftd (by decide +kernel)
theorem t252_52 : z_ft 252 52 = some (.iaload, 1, none, [], 0, 0, 0, 0) := z_ftd (by decide +kernel)
theorem t252_53 : z_ft 252 53 = some (.imul, 1, none, [], 0, 0, 0, 0) := z_ftd (by decide +kernel)
theorem t252_54 : z_ft 252 54 = some (.ireturn, 1, none, [], 0, 0, 0, 0) := z_ftd (by decide +kernel)
theorem t252_55 : z_ft 252 55 = some (.iconst 0, 1, none, [], 0, 0, 0, 0) := z_ftd (by decide +kernel)
theorem t252_56 : z_ft 252 56 = some (.istore_n 2, 1, none, [], 0, 0, 0, 0) := z_ftd (by decide +kernel)
theorem t252_57 : z_ft 252 57 = some (.iconst (-1), 1, none, [], 0, 0, 0, 0) := z_ftd (by decide +kernel)
theorem t252_58 : z_ft 252 58 = some (.istore_n 3, 1, none, [], 0, 0, 0, 0) := z_ftd (by decide +kernel)
theorem t252_59 : z_ft 252 59 = some (.iload_n 3, 1, (some [0, 1, 2, 3]), [], 0, 0, 0, 0) := z_ftd (by decide +kernel)
theorem t252_60 : z_ft 252 60 = some (.aload_n 0, 1, none, [], 0, 0, 0, 0) := z_ftd (by decide +kernel)
theorem t252_61 : z_ft 252 61 = some (.getfield 66, 3, none, [], 12, 18, 19, 0) := z_ftd (by decide +kernel)
theorem t252_64 : z_ft 252 64 = some (.aload_n 0, 1, none, [], 0, 0, 0, 0) := z_ftd (by decide +kernel)
theorem t252_65 : z_ft 252 65 = some (.getfield 51, 3, none, [], 12, 13, 14, 0) := z_ftd (by decide +kernel)
theorem t252_68 : z_ft 252 68 = some (.iaload, 1, none, [], 0, 0, 0, 0) := z_ftd (by decide +kernel)
theorem t252_69 : z_ft 252 69 = some (.if_icmp .ge 102, 3, none, [], 171, 0, 0, 0) := z_ftd (by decide +kernel)
theorem t252_72 : z_ft 252 72 = some (.aload_n 0, 1, none, [], 0, 0, 0, 0) := z_ftd (by decide +kernel)
theorem t252_73 : z_ft 252 73 = some (.iconst 1, 1, none, [], 0, 0, 0, 0) := z_ftd (by decide +kernel)
theorem t252_74 : z_ft 252 74 = some (.iconst 0, 1, none, [], 0, 0, 0, 0) := z_ftd (by decide +kernel)
theorem t252_75 : z_ft 252 75 = some (.invokevirtual 407, 3, none, [], 196, 0, 153, 0) := z_ftd (by decide +kernel)
theorem t252_78 : z_ft 252 78 = some (.iload_n 3, 1, none, [], 0, 0, 0, 0) := z_ftd (by decide +kernel)
theorem t252_79 : z_ft 252 79 = some (.iconst (-1), 1, none, [], 0, 0, 0, 0) := z_ftd (by decide +kernel)
theorem t252_80 : z_ft 252 80 = some (.if_icmp .eq 19, 3, none, [], 99, 0, 0, 0) := z_ftd (by decide +kernel)
theorem t252_83 : z_ft 252 83 = some (.aload_n 0, 1, none, [], 0, 0, 0, 0) := z_ftd (by decide +kernel)
theorem t252_84 : z_ft 252 84 = some (.iconst 1, 1, none, [], 0, 0, 0, 0) := z_ftd (by decide +kernel)
theorem t252_85 : z_ft 252 85 = some (.iload_n 3, 1, none, [], 0, 0, 0, 0) := z_ftd (by decide +kernel)
theorem t252_86 : z_ft 252 86 = some (.invokevirtual 506, 3, none, [], 215, 0, 161, 0) := z_ftd (by decide +kernel)
theorem t252_89 : z_ft 252 89 = some (.ifCond .eq 10, 3, none, [], 99, 0, 0, 0) := z_ftd (by decide +kernel)
theorem t252_92 : z_ft 252 92 = some (.aload_n 0, 1, none, [], 0, 0, 0, 0) := z_ftd (by decide +kernel)
theorem t252_93 : z_ft 252 93 = some (.iconst 1, 1, none, [], 0, 0, 0, 0) := z_ftd (by decide +kernel)
theorem t252_94 : z_ft 252 94 = some (.iload_n 3, 1, none, [], 0, 0, 0, 0) := z_ftd (by decide +kernel)
theorem t252_95 : z_ft 252 95 = some (.invokevirtual 401, 3, none, [], 220, 0, 134, 0) := z_ftd (by decide +kernel)
theorem t252_98 : z_ft 252 98 = some (.pop, 1, none, [], 0, 0, 0, 0) := z_ftd (by decide +kernel)
theorem t252_99 : z_ft 252 99 = some (.aload_n 0, 1, (some [0, 1, 2, 3]), [], 0, 0, 0, 0) := z_ftd (by decide +kernel)
theorem t252_100 : z_ft 252 100 = some (.iconst 1, 1, none, [], 0, 0, 0, 0) := z_ftd (by decide +kernel)
theorem t252_101 : z_ft 252 101 = some (.invokevirtual 503, 3, none, [], 226, 0, 164, 0) := z_ftd (by decide +kernel)
theorem t252_104 : z_ft 252 104 = some (.pop, 1, none, [], 0, 0, 0, 0) := z_ftd (by decide +kernel)
theorem t252_105 : z_ft 252 105 = some (.iload_n 3, 1, none, [], 0, 0, 0, 0) := z_ftd (by decide +kernel)
theorem t252_106 : z_ft 252 106 = some (.iconst (-1), 1, none, [], 0, 0, 0, 0) := z_ftd (by decide +kernel)
theorem t252_107 : z_ft 252 107 = some (.if_icmp .ne 28, 3, none, [], 135, 0, 0, 0) := z_ftd (by decide +kernel)
theorem t252_110 : z_ft 252 110 = some (.bipush 100, 2, none, [], 0, 0, 0, 0) := z_ftd (by decide +kernel)
theorem t252_112 : z_ft 252 112 = some (.aload_n 0, 1, none, [], 0, 0, 0, 0) := z_ftd (by decide +kernel)
theorem t252_113 : z_ft 252 113 = some (.getfield 63, 3, none, [], 12, 17, 18, 0) := z_ftd (by decide +kernel)
theorem t252_116 : z_ft 252 116 = some (.aload_n 0, 1, none, [], 0, 0, 0, 0) := z_ftd (by decide +kernel)
theorem t252_117 : z_ft 252 117 = some (.getfield 51, 3, none, [], 12, 13, 14, 0) := z_ftd (by decide +kernel)
theorem t252_120 : z_ft 252 120 = some (.iaload, 1, none, [], 0, 0, 0, 0) := z_ftd (by decide +kernel)
theorem t252_121 : z_ft 252 121 = some (.isub, 1, none, [], 0, 0, 0, 0) := z_ftd (by decide +kernel)
theorem t252_122 : z_ft 252 122 = some (.aload_n 0, 1, none, [], 0, 0, 0, 0) := z_ftd (by decide +kernel)
theorem t252_123 : z_ft 252 123 = some (.getfield 66, 3, none, [], 12, 18, 19, 0) := z_ftd (by decide +kernel)
theorem t252_126 : z_ft 252 126 = some (.aload_n 0, 1, none, [], 0, 0, 0, 0) := z_ftd (by decide +kernel)
theorem t252_127 : z_ft 252 127 = some (.getfield 51, 3, none, [], 12, 13, 14, 0) := z_ftd (by decide +kernel)
theorem t252_130 : z_ft 252 130 = some (.iaload, 1, none, [], 0, 0, 0, 0) := z_ftd (by decide +kernel)
theorem t252_131 : z_ft 252 131 = some (.imul, 1, none, [], 0, 0, 0, 0) := z_ftd (by decide +kernel)
theorem t252_132 : z_ft 252 132 = some (.goto 12, 3, none, [], 144, 0, 0, 0) := z_ftd (by decide +kernel)
theorem t252_135 : z_ft 252 135 = some (.aload_n 0, 1, none, [], 0, 0, 0, 0) := z_ftd (by decide +kernel)
theorem t252_136 : z_ft 252 136 = some (.getfield 63, 3, none, [], 12, 17, 18, 0) := z_ftd (by decide +kernel)
theorem t252_139 : z_ft 252 139 = some (.aload_n 0, 1, none, [], 0, 0, 0, 0) := z_ftd (by decide +kernel)
theorem t252_140 : z_ft 252 140 = some (.getfield 51, 3, none, [], 12, 13, 14, 0) := z_ftd (by decide +kernel)
theorem t252_143 : z_ft 252 143 = some (.iaload, 1, none, [], 0, 0, 0, 0) := z_ftd (by decide +kernel)
theorem t252_144 : z_ft 252 144 = some (.istore 4, 2, (some [0, 1, 2, 3]), [], 0, 0, 0, 0) := z_ftd (by decide +kernel)
theorem t252_146 : z_ft 252 146 = some (.iload_n 2, 1, none, [], 0, 0, 0, 0) := z_ftd (by decide +kernel)
theorem t252_147 : z_ft 252 147 = some (.aload_n 0, 1, none, [], 0, 0, 0, 0) := z_ftd (by decide +kernel)
theorem t252_148 : z_ft 252 148 = some (.iconst 1, 1, none, [], 0, 0, 0, 0) := z_ftd (by decide +kernel)
theorem t252_149 : z_ft 252 149 = some (.iload_n 1, 1, none, [], 0, 0, 0, 0) := z_ftd (by decide +kernel)
theorem t252_150 : z_ft 252 150 = some (.invokevirtual 438, 3, none, [], 213, 0, 159, 0) := z_ftd (by decide +kernel)
theorem t252_153 : z_ft 252 153 = some (.iconst (-1), 1, none, [], 0, 0, 0, 0) := z_ftd (by decide +kernel)
theorem t252_154 : z_ft 252 154 = some (.if_icmp .eq 8, 3, none, [], 162, 0, 0, 0) := z_ftd (by decide +kernel)
theorem t252_157 : z_ft 252 157 = some (.iload 4, 2, none, [], 0, 0, 0, 0) := z_ftd (by decide +kernel)
theorem t252_159 : z_ft 252 159 = some (.goto 4, 3, none, [], 163, 0, 0, 0) := z_ftd (by decide +kernel)
theorem t252_162 : z_ft 252 162 = some (.iconst 0, 1, none, [], 0, 0, 0, 0) := z_ftd (by decide +kernel)
theorem t252_163 : z_ft 252 163 = some (.iadd, 1, (some [0, 1, 3]), [], 0, 0, 0, 0) := z_ftd (by decide +kernel)
theorem t252_164 : z_ft 252 164 = some (.istore_n 2, 1, none, [], 0, 0, 0, 0) := z_ftd (by decide +kernel)
theorem t252_165 : z_ft 252 165 = some (.iinc 3 1, 3, none, [], 0, 0, 0, 0) := z_ftd (by decide +kernel)
theorem t252_168 : z_ft 252 168 = some (.goto (-109), 3, none, [], 59, 0, 0, 0) := z_ftd (by decide +kernel)
theorem t252_171 : z_ft 252 171 = some (.iload_n 2, 1, none, [], 0, 0, 0, 0) := z_ftd (by decide +kernel)
theorem t252_172 : z_ft 252 172 = some (.ireturn, 1, none, [], 0, 0, 0, 0) := z_ftd (by decide +kernel)
noncomputable def b252_13 (d : Nat) (y1 : Int32) (S : z_S) : Option (Int32 × z_S) := zk kI z_X0 d 252 13 [.ref 396, .int y1, z_j, z_j, z_j] [] S
noncomputable def b252_59 (d : Nat) (y1 : Int32) (y2 : Int32) (y3 : Int32) (S : z_S) : Option (Int32 × z_S) := zk kI z_X0 d 252 59 [.ref 396, .int y1, .int y2, .int y3, z_j] [] S
noncomputable def b252_99 (d : Nat) (y1 : Int32) (y2 : Int32) (y3 : Int32) (S : z_S) : Option (Int32 × z_S) := zk kI z_X0 d 252 99 [.ref 396, .int y1, .int y2, .int y3, z_j] [] S
noncomputable def b252_144 (d : Nat) (y1 : Int32) (y2 : Int32) (y3 : Int32) (s0 : Int32) (S : z_S) : Option (Int32 × z_S) := zk kI z_X0 d 252 144 [.ref 396, .int y1, .int y2, .int y3, z_j] [.int s0] S
noncomputable def b252_163 (d : Nat) (y1 : Int32) (y3 : Int32) (s0 : Int32) (s1 : Int32) (S : z_S) : Option (Int32 × z_S) := zk kI z_X0 d 252 163 [.ref 396, .int y1, z_j, .int y3, z_j] [.int s0, .int s1] S
theorem b252_13_eq (d : Nat) (y1 : Int32) (S : z_S) (hW : z_W S)  : b252_13 d y1 S = (if z_in (gI S 396 13) 2 then (if (gI S 402 ((gI S 396 13)).toNatClampNeg) = (0 : Int32) then some ((-1 : Int32), S) else (zb (fI d 235 [.ref 396, .int (1 : Int32), .int (1 : Int32), .int (1 : Int32)] S) fun v7 S8 => (if ¬ v7 = (0 : Int32) then (if ¬ y1 = (-1 : Int32) then b252_59 d y1 (0 : Int32) (-1 : Int32) S8 else (if z_in (gI S8 396 13) 2 then some (((100 : Int32) * (gI S8 402 ((gI S8 396 13)).toNatClampNeg)), S8) else none)) else some ((-1 : Int32), S8)))) else none) := by
  unfold b252_13
  refine (k_aload_n t252_13 rfl rfl).trans ?_
  refine (k_getR t252_14 rfl hW zK_396 (by decide) (by decide) (zF_396_18 hW)).trans ?_
  refine (k_aload_n t252_17 rfl rfl).trans ?_
  refine (k_getI t252_18 rfl hW zK_396 (by decide) (by decide)).trans ?_
  refine (k_iald t252_21 rfl hW zK_402 zL_402).trans (z_ite (fun g5 => ?_) (fun _ => rfl))
  refine (k_if_eq t252_22 rfl).trans (z_ite (fun g6 => ?_) (fun g6 => ?_))
  · refine (zk_mk (ls' := [z_j, z_j, z_j, z_j, z_j]) t252_35 rfl).trans ?_
    refine (k_iconst t252_35 rfl zci_m1).trans ?_
    exact k_ireturn t252_36 rfl (by decide)
  · refine (k_aload_n t252_25 rfl rfl).trans ?_
    refine (k_iconst t252_26 rfl zci_1).trans ?_
    refine (k_iconst t252_27 rfl zci_1).trans ?_
    refine (k_iconst t252_28 rfl zci_1).trans ?_
    refine k_callI (as := [.ref 396, .int (1 : Int32), .int (1 : Int32), .int (1 : Int32)]) (rest := []) t252_29 rfl rfl (by decide) rfl rfl (Nat.le_of_ble_eq_true rfl) rfl (z_rcV hW (zK_396) (by decide)) (by decide) (Or.inr (by decide)) hW (fun v7 S8 hW8 => ?_)
    refine (k_if_ne t252_32 rfl).trans (z_ite (fun g9 => ?_) (fun g9 => ?_))
    · refine (k_iload_n t252_37 rfl rfl).trans ?_
      refine (k_iconst t252_38 rfl zci_m1).trans ?_
      refine (k_icmp_ne t252_39 rfl).trans (z_ite (fun g10 => ?_) (fun g10 => ?_))
      · refine (k_iconst t252_55 rfl zci_0).trans ?_
        refine (k_istore_n (ls' := [.ref 396, .int y1, .int (0 : Int32), z_j, z_j]) t252_56 rfl rfl).trans ?_
        refine (k_iconst t252_57 rfl zci_m1).trans ?_
        refine (k_istore_n (ls' := [.ref 396, .int y1, .int (0 : Int32), .int (-1 : Int32), z_j]) t252_58 rfl rfl).trans ?_
        exact (zk_mk (ls' := [.ref 396, .int y1, .int (0 : Int32), .int (-1 : Int32), z_j]) t252_59 rfl)
      · refine (k_bipush t252_42 rfl zcb_100).trans ?_
        refine (k_aload_n t252_44 rfl rfl).trans ?_
        refine (k_getR t252_45 rfl hW8 zK_396 (by decide) (by decide) (zF_396_18 hW8)).trans ?_
        refine (k_aload_n t252_48 rfl rfl).trans ?_
        refine (k_getI t252_49 rfl hW8 zK_396 (by decide) (by decide)).trans ?_
        refine (k_iald t252_52 rfl hW8 zK_402 zL_402).trans (z_ite (fun g11 => ?_) (fun _ => rfl))
        refine (k_imul t252_53 rfl).trans ?_
        exact k_ireturn t252_54 rfl (by decide)
    · refine (zk_mk (ls' := [z_j, z_j, z_j, z_j, z_j]) t252_35 rfl).trans ?_
      refine (k_iconst t252_35 rfl zci_m1).trans ?_
      exact k_ireturn t252_36 rfl (by decide)
theorem b252_59_eq (d : Nat) (y1 : Int32) (y2 : Int32) (y3 : Int32) (S : z_S) (hW : z_W S)  : b252_59 d y1 y2 y3 S = (if z_in (gI S 396 13) 2 then (if (gI S 402 ((gI S 396 13)).toNatClampNeg) ≤ y3 then some (y2, S) else ((fV d 196 [.ref 396, .int (1 : Int32), .int (0 : Int32)] S).bind fun S15 => (if y3 = (-1 : Int32) then b252_99 d y1 y2 y3 S15 else (zb (fI d 215 [.ref 396, .int (1 : Int32), .int y3] S15) fun v17 S18 => (if v17 = (0 : Int32) then b252_99 d y1 y2 y3 S18 else (zb (fI d 220 [.ref 396, .int (1 : Int32), .int y3] S18) fun v20 S21 => b252_99 d y1 y2 y3 S21)))))) else none) := by
  unfold b252_59
  refine (k_iload_n t252_59 rfl rfl).trans ?_
  refine (k_aload_n t252_60 rfl rfl).trans ?_
  refine (k_getR t252_61 rfl hW zK_396 (by decide) (by decide) (zF_396_18 hW)).trans ?_
  refine (k_aload_n t252_64 rfl rfl).trans ?_
  refine (k_getI t252_65 rfl hW zK_396 (by decide) (by decide)).trans ?_
  refine (k_iald t252_68 rfl hW zK_402 zL_402).trans (z_ite (fun g12 => ?_) (fun _ => rfl))
  refine (k_icmp_ge t252_69 rfl).trans (z_ite (fun g13 => ?_) (fun g13 => ?_))
  · refine (k_iload_n t252_171 rfl rfl).trans ?_
    exact k_ireturn t252_172 rfl (by decide)
  · refine (k_aload_n t252_72 rfl rfl).trans ?_
    refine (k_iconst t252_73 rfl zci_1).trans ?_
    refine (k_iconst t252_74 rfl zci_0).trans ?_
    refine k_callV (as := [.ref 396, .int (1 : Int32), .int (0 : Int32)]) (rest := []) t252_75 rfl rfl (by decide) rfl rfl (Nat.le_of_ble_eq_true rfl) rfl (z_rcV hW (zK_396) (by decide)) (by decide) (by decide) hW (fun S15 hW15 => ?_)
    refine (k_iload_n t252_78 rfl rfl).trans ?_
    refine (k_iconst t252_79 rfl zci_m1).trans ?_
    refine (k_icmp_eq t252_80 rfl).trans (z_ite (fun g16 => ?_) (fun g16 => ?_))
    · exact (zk_mk (ls' := [.ref 396, .int y1, .int y2, .int y3, z_j]) t252_99 rfl)
    · refine (k_aload_n t252_83 rfl rfl).trans ?_
      refine (k_iconst t252_84 rfl zci_1).trans ?_
      refine (k_iload_n t252_85 rfl rfl).trans ?_
      refine k_callI (as := [.ref 396, .int (1 : Int32), .int y3]) (rest := []) t252_86 rfl rfl (by decide) rfl rfl (Nat.le_of_ble_eq_true rfl) rfl (z_rcV hW15 (zK_396) (by decide)) (by decide) (Or.inr (by decide)) hW15 (fun v17 S18 hW18 => ?_)
      refine (k_if_eq t252_89 rfl).trans (z_ite (fun g19 => ?_) (fun g19 => ?_))
      · exact (zk_mk (ls' := [.ref 396, .int y1, .int y2, .int y3, z_j]) t252_99 rfl)
      · refine (k_aload_n t252_92 rfl rfl).trans ?_
        refine (k_iconst t252_93 rfl zci_1).trans ?_
        refine (k_iload_n t252_94 rfl rfl).trans ?_
        refine k_callI (as := [.ref 396, .int (1 : Int32), .int y3]) (rest := []) t252_95 rfl rfl (by decide) rfl rfl (Nat.le_of_ble_eq_true rfl) rfl (z_rcV hW18 (zK_396) (by decide)) (by decide) (Or.inl (by decide)) hW18 (fun v20 S21 hW21 => ?_)
        refine (k_popI t252_98 rfl).trans ?_
        exact (zk_mk (ls' := [.ref 396, .int y1, .int y2, .int y3, z_j]) t252_99 rfl)
theorem b252_99_eq (d : Nat) (y1 : Int32) (y2 : Int32) (y3 : Int32) (S : z_S) (hW : z_W S)  : b252_99 d y1 y2 y3 S = (zb (fI d 226 [.ref 396, .int (1 : Int32)] S) fun v22 S23 => (if ¬ y3 = (-1 : Int32) then (if z_in (gI S23 396 13) 2 then b252_144 d y1 y2 y3 (gI S23 401 ((gI S23 396 13)).toNatClampNeg) S23 else none) else (if z_in (gI S23 396 13) 2 then (if z_in (gI S23 396 13) 2 then b252_144 d y1 y2 y3 (((100 : Int32) - (gI S23 401 ((gI S23 396 13)).toNatClampNeg)) * (gI S23 402 ((gI S23 396 13)).toNatClampNeg)) S23 else none) else none))) := by
  unfold b252_99
  refine (k_aload_n t252_99 rfl rfl).trans ?_
  refine (k_iconst t252_100 rfl zci_1).trans ?_
  refine k_callI (as := [.ref 396, .int (1 : Int32)]) (rest := []) t252_101 rfl rfl (by decide) rfl rfl (Nat.le_of_ble_eq_true rfl) rfl (z_rcV hW (zK_396) (by decide)) (by decide) (Or.inl (by decide)) hW (fun v22 S23 hW23 => ?_)
  refine (k_popI t252_104 rfl).trans ?_
  refine (k_iload_n t252_105 rfl rfl).trans ?_
  refine (k_iconst t252_106 rfl zci_m1).trans ?_
  refine (k_icmp_ne t252_107 rfl).trans (z_ite (fun g24 => ?_) (fun g24 => ?_))
  · refine (k_aload_n t252_135 rfl rfl).trans ?_
    refine (k_getR t252_136 rfl hW23 zK_396 (by decide) (by decide) (zF_396_17 hW23)).trans ?_
    refine (k_aload_n t252_139 rfl rfl).trans ?_
    refine (k_getI t252_140 rfl hW23 zK_396 (by decide) (by decide)).trans ?_
    refine (k_iald t252_143 rfl hW23 zK_401 zL_401).trans (z_ite (fun g25 => ?_) (fun _ => rfl))
    exact (zk_mk (ls' := [.ref 396, .int y1, .int y2, .int y3, z_j]) t252_144 rfl)
  · refine (k_bipush t252_110 rfl zcb_100).trans ?_
    refine (k_aload_n t252_112 rfl rfl).trans ?_
    refine (k_getR t252_113 rfl hW23 zK_396 (by decide) (by decide) (zF_396_17 hW23)).trans ?_
    refine (k_aload_n t252_116 rfl rfl).trans ?_
    refine (k_getI t252_117 rfl hW23 zK_396 (by decide) (by decide)).trans ?_
    refine (k_iald t252_120 rfl hW23 zK_401 zL_401).trans (z_ite (fun g26 => ?_) (fun _ => rfl))
    refine (k_isub t252_121 rfl).trans ?_
    refine (k_aload_n t252_122 rfl rfl).trans ?_
    refine (k_getR t252_123 rfl hW23 zK_396 (by decide) (by decide) (zF_396_18 hW23)).trans ?_
    refine (k_aload_n t252_126 rfl rfl).trans ?_
    refine (k_getI t252_127 rfl hW23 zK_396 (by decide) (by decide)).trans ?_
    refine (k_iald t252_130 rfl hW23 zK_402 zL_402).trans (z_ite (fun g27 => ?_) (fun _ => rfl))
    refine (k_imul t252_131 rfl).trans ?_
    refine (k_goto t252_132 rfl).trans ?_
    exact (zk_mk (ls' := [.ref 396, .int y1, .int y2, .int y3, z_j]) t252_144 rfl)
theorem b252_144_eq (d : Nat) (y1 : Int32) (y2 : Int32) (y3 : Int32) (s0 : Int32) (S : z_S) (hW : z_W S)  : b252_144 d y1 y2 y3 s0 S = (zb (fI d 213 [.ref 396, .int (1 : Int32), .int y1] S) fun v28 S29 => (if v28 = (-1 : Int32) then b252_163 d y1 y3 (0 : Int32) y2 S29 else b252_163 d y1 y3 s0 y2 S29)) := by
  unfold b252_144
  refine (k_istore (ls' := [.ref 396, .int y1, .int y2, .int y3, .int s0]) t252_144 rfl rfl).trans ?_
  refine (k_iload_n t252_146 rfl rfl).trans ?_
  refine (k_aload_n t252_147 rfl rfl).trans ?_
  refine (k_iconst t252_148 rfl zci_1).trans ?_
  refine (k_iload_n t252_149 rfl rfl).trans ?_
  refine k_callI (as := [.ref 396, .int (1 : Int32), .int y1]) (rest := [.int y2]) t252_150 rfl rfl (by decide) rfl rfl (Nat.le_of_ble_eq_true rfl) rfl (z_rcV hW (zK_396) (by decide)) (by decide) (Or.inl (by decide)) hW (fun v28 S29 hW29 => ?_)
  refine (k_iconst t252_153 rfl zci_m1).trans ?_
  refine (k_icmp_eq t252_154 rfl).trans (z_ite (fun g30 => ?_) (fun g30 => ?_))
  · refine (k_iconst t252_162 rfl zci_0).trans ?_
    exact (zk_mk (ls' := [.ref 396, .int y1, z_j, .int y3, z_j]) t252_163 rfl)
  · refine (k_iload t252_157 rfl rfl).trans ?_
    refine (k_goto t252_159 rfl).trans ?_
    exact (zk_mk (ls' := [.ref 396, .int y1, z_j, .int y3, z_j]) t252_163 rfl)
theorem b252_163_eq (d : Nat) (y1 : Int32) (y3 : Int32) (s0 : Int32) (s1 : Int32) (S : z_S) (hW : z_W S)  : b252_163 d y1 y3 s0 s1 S = b252_59 d y1 (s1 + s0) (y3 + (1 : Int32)) S := by
  unfold b252_163
  refine (k_iadd t252_163 rfl).trans ?_
  refine (k_istore_n (ls' := [.ref 396, .int y1, .int (s1 + s0), .int y3, z_j]) t252_164 rfl rfl).trans ?_
  refine (k_iinc (b := (y3 + (1 : Int32))) (ls' := [.ref 396, .int y1, .int (s1 + s0), .int (y3 + (1 : Int32)), z_j]) t252_165 rfl rfl (by rw [zci_1]) rfl).trans ?_
  refine (k_goto t252_168 rfl).trans ?_
  exact (zk_mk (ls' := [.ref 396, .int y1, .int (s1 + s0), .int (y3 + (1 : Int32)), z_j]) t252_59 rfl)
-- X12_odds
theorem e252 (d : Nat) (x1 : Int32) (S : z_S) (hW : z_W S)  : fI (d + 1) 252 [.ref 396, .int x1] S = (if x1 = (-1 : Int32) then b252_13 d x1 S else (zb (fI d 228 [.ref 396, .int x1] S) fun v2 S3 => (if v2 = (0 : Int32) then some ((-1 : Int32), S3) else b252_13 d x1 S3))) := by
  refine (fI_en (Nat.le_of_ble_eq_true rfl) rfl).trans ?_
  refine (k_iload_n t252_0 rfl rfl).trans ?_
  refine (k_iconst t252_1 rfl zci_m1).trans ?_
  refine (k_icmp_eq t252_2 rfl).trans (z_ite (fun g1 => ?_) (fun g1 => ?_))
  · exact (zk_mk (ls' := [.ref 396, .int x1, z_j, z_j, z_j]) t252_13 rfl)
  · refine (k_aload_n t252_5 rfl rfl).trans ?_
    refine (k_iload_n t252_6 rfl rfl).trans ?_
    refine k_callI (as := [.ref 396, .int x1]) (rest := []) t252_7 rfl rfl (by decide) rfl rfl (Nat.le_of_ble_eq_true rfl) rfl (z_rcV hW (zK_396) (by decide)) (by decide) (Or.inr (by decide)) hW (fun v2 S3 hW3 => ?_)
    refine (k_if_eq t252_10 rfl).trans (z_ite (fun g4 => ?_) (fun g4 => ?_))
    · refine (zk_mk (ls' := [z_j, z_j, z_j, z_j, z_j]) t252_35 rfl).trans ?_
      refine (k_iconst t252_35 rfl zci_m1).trans ?_
      exact k_ireturn t252_36 rfl (by decide)
    · exact (zk_mk (ls' := [.ref 396, .int x1, z_j, z_j, z_j]) t252_13 rfl)
theorem t253_0 : z_ft 253 0 = some (.aload_n 0, 1, none, [], 0, 0, 0, 0) := z_ftd (by decide +kernel)
theorem t253_1 : z_ft 253 1 = some (.getfield 13, 3, none, [], 12, 1, 2, 0) := z_ftd (by decide +kernel)
theorem t253_4 : z_ft 253 4 = some (.istore_n 1, 1, none, [], 0, 0, 0, 0) := z_ftd (by decide +kernel)
theorem t253_5 : z_ft 253 5 = some (.aload_n 0, 1, none, [], 0, 0, 0, 0) := z_ftd (by decide +kernel)
theorem t253_6 : z_ft 253 6 = some (.iconst 0, 1, none, [], 0, 0, 0, 0) := z_ftd (by decide +kernel)
theorem t253_7 : z_ft 253 7 = some (.putfield 13, 3, none, [], 12, 1, 2, 0) := z_ftd (by decide +kernel)
theorem t253_10 : z_ft 253 10 = some (.iload_n 1, 1, none, [], 0, 0, 0, 0) := z_ftd (by decide +kernel)
theorem t253_11 : z_ft 253 11 = some (.ifCond .le 19, 3, none, [], 30, 0, 0, 0) := z_ftd (by decide +kernel)
theorem t253_14 : z_ft 253 14 = some (.iload_n 1, 1, none, [], 0, 0, 0, 0) := z_ftd (by decide +kernel)
theorem t253_15 : z_ft 253 15 = some (.iconst 3, 1, none, [], 0, 0, 0, 0) := z_ftd (by decide +kernel)
theorem t253_16 : z_ft 253 16 = some (.irem, 1, none, [], 0, 0, 0, 0) := z_ftd (by decide +kernel)
theorem t253_17 : z_ft 253 17 = some (.ifCond .ne 13, 3, none, [], 30, 0, 0, 0) := z_ftd (by decide +kernel)
theorem t253_20 : z_ft 253 20 = some (.iload_n 1, 1, none, [], 0, 0, 0, 0) := z_ftd (by decide +kernel)
theorem t253_21 : z_ft 253 21 = some (.bipush 48, 2, none, [], 0, 0, 0, 0) := z_ftd (by decide +kernel)
theorem t253_23 : z_ft 253 23 = some (.if_icmp .gt 7, 3, none, [], 30, 0, 0, 0) := z_ftd (by decide +kernel)
theorem t253_26 : z_ft 253 26 = some (.iconst 1, 1, none, [], 0, 0, 0, 0) := z_ftd (by decide +kernel)
theorem t253_27 : z_ft 253 27 = some (.goto 4, 3, none, [], 31, 0, 0, 0) := z_ftd (by decide +kernel)
theorem t253_30 : z_ft 253 30 = some (.iconst 0, 1, (some [0, 1]), [], 0, 0, 0, 0) := z_ftd (by decide +kernel)
theorem t253_31 : z_ft 253 31 = some (.istore_n 2, 1, (some [0, 1]), [], 0, 0, 0, 0) := z_ftd (by decide +kernel)
theorem t253_32 : z_ft 253 32 = some (.iconst 0, 1, none, [], 0, 0, 0, 0) := z_ftd (by decide +kernel)
theorem t253_33 : z_ft 253 33 = some (.istore_n 3, 1, none, [], 0, 0, 0, 0) := z_ftd (by decide +kernel)
theorem t253_34 : z_ft 253 34 = some (.iload_n 3, 1, (some [0, 1, 2, 3]), [], 0, 0, 0, 0) := z_ftd (by decide +kernel)
theorem t253_35 : z_ft 253 35 = some (.iload_n 1, 1, none, [], 0, 0, 0, 0) := z_ftd (by decide +kernel)
theorem t253_36 : z_ft 253 36 = some (.if_icmp .ge 74, 3, none, [], 110, 0, 0, 0) := z_ftd (by decide +kernel)
theorem t253_39 : z_ft 253 39 = some (.iload_n 2, 1, none, [], 0, 0, 0, 0) := z_ftd (by decide +kernel)
theorem t253_40 : z_ft 253 40 = some (.ifCond .eq 70, 3, none, [], 110, 0, 0, 0) := z_ftd (by decide +kernel)
theorem t253_43 : z_ft 253 43 = some (.aload_n 0, 1, none, [], 0, 0, 0, 0) := z_ftd (by decide +kernel)
theorem t253_44 : z_ft 253 44 = some (.getfield 7, 3, none, [], 12, 0, 1, 0) := z_ftd (by decide +kernel)
theorem t253_47 : z_ft 253 47 = some (.iload_n 3, 1, none, [], 0, 0, 0, 0) := z_ftd (by decide +kernel)
theorem t253_48 : z_ft 253 48 = some (.iaload, 1, none, [], 0, 0, 0, 0) := z_ftd (by decide +kernel)
theorem t253_49 : z_ft 253 49 = some (.bipush 30, 2, none, [], 0, 0, 0, 0) := z_ftd (by decide +kernel)
theorem t253_51 : z_ft 253 51 = some (.if_icmp .gt 51, 3, none, [], 102, 0, 0, 0) := z_ftd (by decide +kernel)
theorem t253_54 : z_ft 253 54 = some (.aload_n 0, 1, none, [], 0, 0, 0, 0) := z_ftd (by decide +kernel)
theorem t253_55 : z_ft 253 55 = some (.aload_n 0, 1, none, [], 0, 0, 0, 0) := z_ftd (by decide +kernel)
theorem t253_56 : z_ft 253 56 = some (.getfield 7, 3, none, [], 12, 0, 1, 0) := z_ftd (by decide +kernel)
theorem t253_59 : z_ft 253 59 = some (.iload_n 3, 1, none, [], 0, 0, 0, 0) := z_ftd (by decide +kernel)
theorem t253_60 : z_ft 253 60 = some (.iconst 1, 1, none, [], 0, 0, 0, 0) := z_ftd (by decide +kernel)
theorem t253_61 : z_ft 253 61 = some (.iadd, 1, none, [], 0, 0, 0, 0) := z_ftd (by decide +kernel)
theorem t253_62 : z_ft 253 62 = some (.iaload, 1, none, [], 0, 0, 0, 0) := z_ftd (by decide +kernel)
theorem t253_63 : z_ft 253 63 = some (.invokevirtual 500, 3, none, [], 227, 0, 158, 0) := z_ftd (by decide +kernel)
theorem t253_66 : z_ft 253 66 = some (.ifCond .eq 36, 3, none, [], 102, 0, 0, 0) := z_ftd (by decide +kernel)
theorem t253_69 : z_ft 253 69 = some (.aload_n 0, 1, none, [], 0, 0, 0, 0) := z_ftd (by decide +kernel)
theorem t253_70 : z_ft 253 70 = some (.aload_n 0, 1, none, [], 0, 0, 0, 0) := z_ftd (by decide +kernel)
theorem t253_71 : z_ft 253 71 = some (.getfield 7, 3, none, [], 12, 0, 1, 0) := z_ftd (by decide +kernel)
theorem t253_74 : z_ft 253 74 = some (.iload_n 3, 1, none, [], 0, 0, 0, 0) := z_ftd (by decide +kernel)
theorem t253_75 : z_ft 253 75 = some (.iconst 2, 1, none, [], 0, 0, 0, 0) := z_ftd (by decide +kernel)
theorem t253_76 : z_ft 253 76 = some (.iadd, 1, none, [], 0, 0, 0, 0) := z_ftd (by decide +kernel)
theorem t253_77 : z_ft 253 77 = some (.iaload, 1, none, [], 0, 0, 0, 0) := z_ftd (by decide +kernel)
theorem t253_78 : z_ft 253 78 = some (.invokevirtual 495, 3, none, [], 228, 0, 156, 0) := z_ftd (by decide +kernel)
theorem t253_81 : z_ft 253 81 = some (.ifCond .ne 17, 3, none, [], 98, 0, 0, 0) := z_ftd (by decide +kernel)
theorem t253_84 : z_ft 253 84 = some (.aload_n 0, 1, none, [], 0, 0, 0, 0) := z_ftd (by decide +kernel)
theorem t253_85 : z_ft 253 85 = some (.getfield 7, 3, none, [], 12, 0, 1, 0) := z_ftd (by decide +kernel)
theorem t253_88 : z_ft 253 88 = some (.iload_n 3, 1, none, [], 0, 0, 0, 0) := z_ftd (by decide +kernel)
theorem t253_89 : z_ft 253 89 = some (.iconst 2, 1, none, [], 0, 0, 0, 0) := z_ftd (by decide +kernel)
theorem t253_90 : z_ft 253 90 = some (.iadd, 1, none, [], 0, 0, 0, 0) := z_ftd (by decide +kernel)
theorem t253_91 : z_ft 253 91 = some (.iaload, 1, none, [], 0, 0, 0, 0) := z_ftd (by decide +kernel)
theorem t253_92 : z_ft 253 92 = some (.sipush 255, 3, none, [], 0, 0, 0, 0) := z_ftd (by decide +kernel)
theorem t253_95 : z_ft 253 95 = some (.if_icmp .ne 7, 3, none, [], 102, 0, 0, 0) := z_ftd (by decide +kernel)
theorem t253_98 : z_ft 253 98 = some (.iconst 1, 1, (some [0, 1, 3]), [], 0, 0, 0, 0) := z_ftd (by decide +kernel)
theorem t253_99 : z_ft 253 99 = some (.goto 4, 3, none, [], 103, 0, 0, 0) := z_ftd (by decide +kernel)
theorem t253_102 : z_ft 253 102 = some (.iconst 0, 1, (some [0, 1, 3]), [], 0, 0, 0, 0) := z_ftd (by decide +kernel)
theorem t253_103 : z_ft 253 103 = some (.istore_n 2, 1, (some [0, 1, 3]), [], 0, 0, 0, 0) := z_ftd (by decide +kernel)
theorem t253_104 : z_ft 253 104 = some (.iinc 3 3, 3, none, [], 0, 0, 0, 0) := z_ftd (by decide +kernel)
theorem t253_107 : z_ft 253 107 = some (.goto (-73), 3, none, [], 34, 0, 0, 0) := z_ftd (by decide +kernel)
theorem t253_110 : z_ft 253 110 = some (.iload_n 2, 1, (some [0, 1, 2]), [], 0, 0, 0, 0) := z_ftd (by decide +kernel)
theorem t253_111 : z_ft 253 111 = some (.ifCond .ne 9, 3, none, [], 120, 0, 0, 0) := z_ftd (by decide +kernel)
theorem t253_114 : z_ft 253 114 = some (.aload_n 0, 1, none, [], 0, 0, 0, 0) := z_ftd (by decide +kernel)
theorem t253_115 : z_ft 253 115 = some (.iconst 5, 1, none, [], 0, 0, 0, 0) := z_ftd (by decide +kernel)
theorem t253_116 : z_ft 253 116 = some (.invokevirtual 231, 3, none, [], 194, 0, 73, 0) := z_ftd (by decide +kernel)
theorem t253_119 : z_ft 253 119 = some (.ireturn, 1, none, [], 0, 0, 0, 0) := z_ftd (by decide +kernel)
theorem t253_120 : z_ft 253 120 = some (.aload_n 0, 1, none, [], 0, 0, 0, 0) := z_ftd (by decide +kernel)
theorem t253_121 : z_ft 253 121 = some (.iload_n 1, 1, none, [], 0, 0, 0, 0) := z_ftd (by decide +kernel)
theorem t253_122 : z_ft 253 122 = some (.iconst 3, 1, none, [], 0, 0, 0, 0) := z_ftd (by decide +kernel)
theorem t253_123 : z_ft 253 123 = some (.idiv, 1, none, [], 0, 0, 0, 0) := z_ftd (by decide +kernel)
theorem t253_124 : z_ft 253 124 = some (.putfield 204, 3, none, [], 12, 63, 64, 0) := z_ftd (by decide +kernel)
theorem t253_127 : z_ft 253 127 = some (.iconst 0, 1, none, [], 0, 0, 0, 0) := z_ftd (by decide +kernel)
theorem t253_128 : z_ft 253 128 = some (.istore_n 3, 1, none, [], 0, 0, 0, 0) := z_ftd (by decide +kernel)
theorem t253_129 : z_ft 253 129 = some (.iload_n 3, 1, (some [0, 3]), [], 0, 0, 0, 0) := z_ftd (by decide +kernel)
theorem t253_130 : z_ft 253 130 = some (.aload_n 0, 1, none, [], 0, 0, 0, 0) := z_ftd (by decide +kernel)
theorem t253_131 : z_ft 253 131 = some (.getfield 204, 3, none, [], 12, 63, 64, 0) := z_ftd (by decide +kernel)
theorem t253_134 : z_ft 253 134 = some (.if_icmp .ge 75, 3, none, [], 209, 0, 0, 0) := z_ftd (by decide +kernel)
theorem t253_137 : z_ft 253 137 = some (.aload_n 0, 1, none, [], 0, 0, 0, 0) := z_ftd (by decide +kernel)
theorem t253_138 : z_ft 253 138 = some (.getfield 207, 3, none, [], 12, 64, 65, 0) := z_ftd (by decide +kernel)
theorem t253_141 : z_ft 253 141 = some (.iload_n 3, 1, none, [], 0, 0, 0, 0) := z_ftd (by decide +kernel)
theorem t253_142 : z_ft 253 142 = some (.aload_n 0, 1, none, [], 0, 0, 0, 0) := z_ftd (by decide +kernel)
theorem t253_143 : z_ft 253 143 = some (.getfield 7, 3, none, [], 12, 0, 1, 0) := z_ftd (by decide +kernel)
theorem t253_146 : z_ft 253 146 = some (.iconst 3, 1, none, [], 0, 0, 0, 0) := z_ftd (by decide +kernel)
theorem t253_147 : z_ft 253 147 = some (.iload_n 3, 1, none, [], 0, 0, 0, 0) := z_ftd (by decide +kernel)
theorem t253_148 : z_ft 253 148 = some (.imul, 1, none, [], 0, 0, 0, 0) := z_ftd (by decide +kernel)
theorem t253_149 : z_ft 253 149 = some (.iaload, 1, none, [], 0, 0, 0, 0) := z_ftd (by decide +kernel)
theorem t253_150 : z_ft 253 150 = some (.iastore, 1, none, [], 0, 0, 0, 0) := z_ftd (by decide +kernel)
theorem t253_151 : z_ft 253 151 = some (.aload_n 0, 1, none, [], 0, 0, 0, 0) := z_ftd (by decide +kernel)
theorem t253_152 : z_ft 253 152 = some (.getfield 210, 3, none, [], 12, 65, 66, 0) := z_ftd (by decide +kernel)
theorem t253_155 : z_ft 253 155 = some (.iload_n 3, 1, none, [], 0, 0, 0, 0) := z_ftd (by decide +kernel)
theorem t253_156 : z_ft 253 156 = some (.aload_n 0, 1, none, [], 0, 0, 0, 0) := z_ftd (by decide +kernel)
theorem t253_157 : z_ft 253 157 = some (.getfield 7, 3, none, [], 12, 0, 1, 0) := z_ftd (by decide +kernel)
theorem t253_160 : z_ft 253 160 = some (.iconst 3, 1, none, [], 0, 0, 0, 0) := z_ftd (by decide +kernel)
theorem t253_161 : z_ft 253 161 = some (.iload_n 3, 1, none, [], 0, 0, 0, 0) := z_ftd (by decide +kernel)
theorem t253_162 : z_ft 253 162 = some (.imul, 1, none, [], 0, 0, 0, 0) := z_ftd (by decide +kernel)
theorem t253_163 : z_ft 253 163 = some (.iconst 1, 1, none, [], 0, 0, 0, 0) := z_ftd (by decide +kernel)
theorem t253_164 : z_ft 253 164 = some (.iadd, 1, none, [], 0, 0, 0, 0) := z_ftd (by decide +kernel)
theorem t253_165 : z_ft 253 165 = some (.iaload, 1, none, [], 0, 0, 0, 0) := z_ftd (by decide +kernel)
theorem t253_166 : z_ft 253 166 = some (.iastore, 1, none, [], 0, 0, 0, 0) := z_ftd (by decide +kernel)
theorem t253_167 : z_ft 253 167 = some (.aload_n 0, 1, none, [], 0, 0, 0, 0) := z_ftd (by decide +kernel)
theorem t253_168 : z_ft 253 168 = some (.getfield 213, 3, none, [], 12, 66, 67, 0) := z_ftd (by decide +kernel)
theorem t253_171 : z_ft 253 171 = some (.iload_n 3, 1, none, [], 0, 0, 0, 0) := z_ftd (by decide +kernel)
theorem t253_172 : z_ft 253 172 = some (.aload_n 0, 1, none, [], 0, 0, 0, 0) := z_ftd (by decide +kernel)
theorem t253_173 : z_ft 253 173 = some (.getfield 7, 3, none, [], 12, 0, 1, 0) := z_ftd (by decide +kernel)
theorem t253_176 : z_ft 253 176 = some (.iconst 3, 1, none, [], 0, 0, 0, 0) := z_ftd (by decide +kernel)
theorem t253_177 : z_ft 253 177 = some (.iload_n 3, 1, none, [], 0, 0, 0, 0) := z_ftd (by decide +kernel)
theorem t253_178 : z_ft 253 178 = some (.imul, 1, none, [], 0, 0, 0, 0) := z_ftd (by decide +kernel)
theorem t253_179 : z_ft 253 179 = some (.iconst 2, 1, none, [], 0, 0, 0, 0) := z_ftd (by decide +kernel)
theorem t253_180 : z_ft 253 180 = some (.iadd, 1, none, [], 0, 0, 0, 0) := z_ftd (by decide +kernel)
theorem t253_181 : z_ft 253 181 = some (.iaload, 1, none, [], 0, 0, 0, 0) := z_ftd (by decide +kernel)
theorem t253_182 : z_ft 253 182 = some (.sipush 255, 3, none, [], 0, 0, 0, 0) := z_ftd (by decide +kernel)
theorem t253_185 : z_ft 253 185 = some (.if_icmp .ne 7, 3, none, [], 192, 0, 0, 0) := z_ftd (by decide +kernel)
theorem t253_188 : z_ft 253 188 = some (.iconst (-1), 1, none, [], 0, 0, 0, 0) := z_ftd (by decide +kernel)
theorem t253_189 : z_ft 253 189 = some (.goto 13, 3, none, [], 202, 0, 0, 0) := z_ftd (by decide +kernel)
theorem t253_192 : z_ft 253 192 = some (.aload_n 0, 1, none, [], 0, 0, 0, 0) := z_ftd (by decide +kernel)
theorem t253_193 : z_ft 253 193 = some (.getfield 7, 3, none, [], 12, 0, 1, 0) := z_ftd (by decide +kernel)
theorem t253_196 : z_ft 253 196 = some (.iconst 3, 1, none, [], 0, 0, 0, 0) := z_ftd (by decide +kernel)
theorem t253_197 : z_ft 253 197 = some (.iload_n 3, 1, none, [], 0, 0, 0, 0) := z_ftd (by decide +kernel)
theorem t253_198 : z_ft 253 198 = some (.imul, 1, none, [], 0, 0, 0, 0) := z_ftd (by decide +kernel)
theorem t253_199 : z_ft 253 199 = some (.iconst 2, 1, none, [], 0, 0, 0, 0) := z_ftd (by decide +kernel)
theorem t253_200 : z_ft 253 200 = some (.iadd, 1, none, [], 0, 0, 0, 0) := z_ftd (by decide +kernel)
theorem t253_201 : z_ft 253 201 = some (.iaload, 1, none, [], 0, 0, 0, 0) := z_ftd (by decide +kernel)
theorem t253_202 : z_ft 253 202 = some (.iastore, 1, (some [0, 3]), [], 0, 0, 0, 0) := z_ftd (by decide +kernel)
theorem t253_203 : z_ft 253 203 = some (.iinc 3 1, 3, none, [], 0, 0, 0, 0) := z_ftd (by decide +kernel)
theorem t253_206 : z_ft 253 206 = some (.goto (-77), 3, none, [], 129, 0, 0, 0) := z_ftd (by decide +kernel)
theorem t253_209 : z_ft 253 209 = some (.aload_n 0, 1, none, [], 0, 0, 0, 0) := z_ftd (by decide +kernel)
theorem t253_210 : z_ft 253 210 = some (.getfield 204, 3, none, [], 12, 63, 64, 0) := z_ftd (by decide +kernel)
theorem t253_213 : z_ft 253 213 = some (.ireturn, 1, none, [], 0, 0, 0, 0) := z_ftd (by decide +kernel)
noncomputable def b253_30 (d : Nat) (y1 : Int32) (S : z_S) : Option (Int32 × z_S) := zk kI z_X0 d 253 30 [.ref 396, .int y1, z_j, z_j] [] S
noncomputable def b253_31 (d : Nat) (y1 : Int32) (s0 : Int32) (S : z_S) : Option (Int32 × z_S) := zk kI z_X0 d 253 31 [.ref 396, .int y1, z_j, z_j] [.int s0] S
noncomputable def b253_34 (d : Nat) (y1 : Int32) (y2 : Int32) (y3 : Int32) (S : z_S) : Option (Int32 × z_S) := zk kI z_X0 d 253 34 [.ref 396, .int y1, .int y2, .int y3] [] S
noncomputable def b253_110 (d : Nat) (y1 : Int32) (y2 : Int32) (S : z_S) : Option (Int32 × z_S) := zk kI z_X0 d 253 110 [.ref 396, .int y1, .int y2, z_j] [] S
noncomputable def b253_102 (d : Nat) (y1 : Int32) (y3 : Int32) (S : z_S) : Option (Int32 × z_S) := zk kI z_X0 d 253 102 [.ref 396, .int y1, z_j, .int y3] [] S
noncomputable def b253_98 (d : Nat) (y1 : Int32) (y3 : Int32) (S : z_S) : Option (Int32 × z_S) := zk kI z_X0 d 253 98 [.ref 396, .int y1, z_j, .int y3] [] S
noncomputable def b253_129 (d : Nat) (y3 : Int32) (S : z_S) : Option (Int32 × z_S) := zk kI z_X0 d 253 129 [.ref 396, z_j, z_j, .int y3] [] S
noncomputable def b253_103 (d : Nat) (y1 : Int32) (y3 : Int32) (s0 : Int32) (S : z_S) : Option (Int32 × z_S) := zk kI z_X0 d 253 103 [.ref 396, .int y1, z_j, .int y3] [.int s0] S
noncomputable def b253_202 (d : Nat) (y3 : Int32) (s0 : Int32) (s1 : Int32) (S : z_S) : Option (Int32 × z_S) := zk kI z_X0 d 253 202 [.ref 396, z_j, z_j, .int y3] [.int s0, .int s1, .ref 437] S
theorem b253_30_eq (d : Nat) (y1 : Int32) (S : z_S) (hW : z_W S)  : b253_30 d y1 S = b253_31 d y1 (0 : Int32) S := by
  unfold b253_30
  refine (k_iconst t253_30 rfl zci_0).trans ?_
  exact (zk_mk (ls' := [.ref 396, .int y1, z_j, z_j]) t253_31 rfl)
theorem b253_31_eq (d : Nat) (y1 : Int32) (s0 : Int32) (S : z_S) (hW : z_W S)  : b253_31 d y1 s0 S = b253_34 d y1 s0 (0 : Int32) S := by
  unfold b253_31
  refine (k_istore_n (ls' := [.ref 396, .int y1, .int s0, z_j]) t253_31 rfl rfl).trans ?_
  refine (k_iconst t253_32 rfl zci_0).trans ?_
  refine (k_istore_n (ls' := [.ref 396, .int y1, .int s0, .int (0 : Int32)]) t253_33 rfl rfl).trans ?_
  exact (zk_mk (ls' := [.ref 396, .int y1, .int s0, .int (0 : Int32)]) t253_34 rfl)
theorem b253_34_eq (d : Nat) (y1 : Int32) (y2 : Int32) (y3 : Int32) (S : z_S) (hW : z_W S)  : b253_34 d y1 y2 y3 S = (if y1 ≤ y3 then b253_110 d y1 y2 S else (if y2 = (0 : Int32) then b253_110 d y1 y2 S else (if z_in y3 1800 then (if (30 : Int32) < (gI S 397 (y3).toNatClampNeg) then b253_102 d y1 y3 S else (if z_in (y3 + (1 : Int32)) 1800 then (zb (fI d 227 [.ref 396, .int (gI S 397 ((y3 + (1 : Int32))).toNatClampNeg)] S) fun v9 S10 => (if v9 = (0 : Int32) then b253_102 d y1 y3 S10 else (if z_in (y3 + (2 : Int32)) 1800 then (zb (fI d 228 [.ref 396, .int (gI S10 397 ((y3 + (2 : Int32))).toNatClampNeg)] S10) fun v13 S14 => (if ¬ v13 = (0 : Int32) then b253_98 d y1 y3 S14 else (if z_in (y3 + (2 : Int32)) 1800 then (if ¬ (gI S14 397 ((y3 + (2 : Int32))).toNatClampNeg) = (255 : Int32) then b253_102 d y1 y3 S14 else b253_98 d y1 y3 S14) else none))) else none))) else none)) else none))) := by
  unfold b253_34
  refine (k_iload_n t253_34 rfl rfl).trans ?_
  refine (k_iload_n t253_35 rfl rfl).trans ?_
  refine (k_icmp_ge t253_36 rfl).trans (z_ite (fun g4 => ?_) (fun g4 => ?_))
  · exact (zk_mk (ls' := [.ref 396, .int y1, .int y2, z_j]) t253_110 rfl)
  · refine (k_iload_n t253_39 rfl rfl).trans ?_
    refine (k_if_eq t253_40 rfl).trans (z_ite (fun g5 => ?_) (fun g5 => ?_))
    · exact (zk_mk (ls' := [.ref 396, .int y1, .int y2, z_j]) t253_110 rfl)
    · refine (k_aload_n t253_43 rfl rfl).trans ?_
      refine (k_getR t253_44 rfl hW zK_396 (by decide) (by decide) (zF_396_0 hW)).trans ?_
      refine (k_iload_n t253_47 rfl rfl).trans ?_
      refine (k_iald t253_48 rfl hW zK_397 zL_397).trans (z_ite (fun g6 => ?_) (fun _ => rfl))
      refine (k_bipush t253_49 rfl zcb_30).trans ?_
      refine (k_icmp_gt t253_51 rfl).trans (z_ite (fun g7 => ?_) (fun g7 => ?_))
      · exact (zk_mk (ls' := [.ref 396, .int y1, z_j, .int y3]) t253_102 rfl)
      · refine (k_aload_n t253_54 rfl rfl).trans ?_
        refine (k_aload_n t253_55 rfl rfl).trans ?_
        refine (k_getR t253_56 rfl hW zK_396 (by decide) (by decide) (zF_396_0 hW)).trans ?_
        refine (k_iload_n t253_59 rfl rfl).trans ?_
        refine (k_iconst t253_60 rfl zci_1).trans ?_
        refine (k_iadd t253_61 rfl).trans ?_
        refine (k_iald t253_62 rfl hW zK_397 zL_397).trans (z_ite (fun g8 => ?_) (fun _ => rfl))
        refine k_callI (as := [.ref 396, .int (gI S 397 ((y3 + (1 : Int32))).toNatClampNeg)]) (rest := []) t253_63 rfl rfl (by decide) rfl rfl (Nat.le_of_ble_eq_true rfl) rfl (z_rcV hW (zK_396) (by decide)) (by decide) (Or.inr (by decide)) hW (fun v9 S10 hW10 => ?_)
        refine (k_if_eq t253_66 rfl).trans (z_ite (fun g11 => ?_) (fun g11 => ?_))
        · exact (zk_mk (ls' := [.ref 396, .int y1, z_j, .int y3]) t253_102 rfl)
        · refine (k_aload_n t253_69 rfl rfl).trans ?_
          refine (k_aload_n t253_70 rfl rfl).trans ?_
          refine (k_getR t253_71 rfl hW10 zK_396 (by decide) (by decide) (zF_396_0 hW10)).trans ?_
          refine (k_iload_n t253_74 rfl rfl).trans ?_
          refine (k_iconst t253_75 rfl zci_2).trans ?_
          refine (k_iadd t253_76 rfl).trans ?_
          refine (k_iald t253_77 rfl hW10 zK_397 zL_397).trans (z_ite (fun g12 => ?_) (fun _ => rfl))
          refine k_callI (as := [.ref 396, .int (gI S10 397 ((y3 + (2 : Int32))).toNatClampNeg)]) (rest := []) t253_78 rfl rfl (by decide) rfl rfl (Nat.le_of_ble_eq_true rfl) rfl (z_rcV hW10 (zK_396) (by decide)) (by decide) (Or.inr (by decide)) hW10 (fun v13 S14 hW14 => ?_)
          refine (k_if_ne t253_81 rfl).trans (z_ite (fun g15 => ?_) (fun g15 => ?_))
          · exact (zk_mk (ls' := [.ref 396, .int y1, z_j, .int y3]) t253_98 rfl)
          · refine (k_aload_n t253_84 rfl rfl).trans ?_
            refine (k_getR t253_85 rfl hW14 zK_396 (by decide) (by decide) (zF_396_0 hW14)).trans ?_
            refine (k_iload_n t253_88 rfl rfl).trans ?_
            refine (k_iconst t253_89 rfl zci_2).trans ?_
            refine (k_iadd t253_90 rfl).trans ?_
            refine (k_iald t253_91 rfl hW14 zK_397 zL_397).trans (z_ite (fun g16 => ?_) (fun _ => rfl))
            refine (k_sipush t253_92 rfl zcs_255).trans ?_
            refine (k_icmp_ne t253_95 rfl).trans (z_ite (fun g17 => ?_) (fun g17 => ?_))
            · exact (zk_mk (ls' := [.ref 396, .int y1, z_j, .int y3]) t253_102 rfl)
            · exact (zk_mk (ls' := [.ref 396, .int y1, z_j, .int y3]) t253_98 rfl)
theorem b253_110_eq (d : Nat) (y1 : Int32) (y2 : Int32) (S : z_S) (hW : z_W S)  : b253_110 d y1 y2 S = (if ¬ y2 = (0 : Int32) then b253_129 d (0 : Int32) (sI S 396 63 (y1 / (3 : Int32))) else (zb (fI d 194 [.ref 396, .int (5 : Int32)] S) fun v19 S20 => some (v19, S20))) := by
  unfold b253_110
  refine (k_iload_n t253_110 rfl rfl).trans ?_
  refine (k_if_ne t253_111 rfl).trans (z_ite (fun g18 => ?_) (fun g18 => ?_))
  · refine (k_aload_n t253_120 rfl rfl).trans ?_
    refine (k_iload_n t253_121 rfl rfl).trans ?_
    refine (k_iconst t253_122 rfl zci_3).trans ?_
    refine ((k_idiv t253_123 rfl).trans (if_neg (by decide))).trans ?_
    refine (k_putI t253_124 rfl hW zK_396 (by decide) (by decide) (by decide)).trans ?_
    refine (k_iconst t253_127 rfl zci_0).trans ?_
    refine (k_istore_n (ls' := [.ref 396, .int y1, .int y2, .int (0 : Int32)]) t253_128 rfl rfl).trans ?_
    exact (zk_mk (ls' := [.ref 396, z_j, z_j, .int (0 : Int32)]) t253_129 rfl)
  · refine (k_aload_n t253_114 rfl rfl).trans ?_
    refine (k_iconst t253_115 rfl zci_5).trans ?_
    refine k_callI (as := [.ref 396, .int (5 : Int32)]) (rest := []) t253_116 rfl rfl (by decide) rfl rfl (Nat.le_of_ble_eq_true rfl) rfl (z_rcV hW (zK_396) (by decide)) (by decide) (Or.inl (by decide)) hW (fun v19 S20 hW20 => ?_)
    exact k_ireturn t253_119 rfl (by decide)
theorem b253_102_eq (d : Nat) (y1 : Int32) (y3 : Int32) (S : z_S) (hW : z_W S)  : b253_102 d y1 y3 S = b253_103 d y1 y3 (0 : Int32) S := by
  unfold b253_102
  refine (k_iconst t253_102 rfl zci_0).trans ?_
  exact (zk_mk (ls' := [.ref 396, .int y1, z_j, .int y3]) t253_103 rfl)
theorem b253_98_eq (d : Nat) (y1 : Int32) (y3 : Int32) (S : z_S) (hW : z_W S)  : b253_98 d y1 y3 S = b253_103 d y1 y3 (1 : Int32) S := by
  unfold b253_98
  refine (k_iconst t253_98 rfl zci_1).trans ?_
  refine (k_goto t253_99 rfl).trans ?_
  exact (zk_mk (ls' := [.ref 396, .int y1, z_j, .int y3]) t253_103 rfl)
theorem b253_129_eq (d : Nat) (y3 : Int32) (S : z_S) (hW : z_W S)  : b253_129 d y3 S = (if (gI S 396 63) ≤ y3 then some ((gI S 396 63), S) else (if z_in ((3 : Int32) * y3) 1800 then (if z_in y3 16 then (if z_in (((3 : Int32) * y3) + (1 : Int32)) 1800 then (if z_in y3 16 then (if z_in (((3 : Int32) * y3) + (2 : Int32)) 1800 then (if ¬ (gI (sI (sI S 435 (y3).toNatClampNeg (gI S 397 (((3 : Int32) * y3)).toNatClampNeg)) 436 (y3).toNatClampNeg (gI (sI S 435 (y3).toNatClampNeg (gI S 397 (((3 : Int32) * y3)).toNatClampNeg)) 397 ((((3 : Int32) * y3) + (1 : Int32))).toNatClampNeg)) 397 ((((3 : Int32) * y3) + (2 : Int32))).toNatClampNeg) = (255 : Int32) then (if z_in (((3 : Int32) * y3) + (2 : Int32)) 1800 then b253_202 d y3 (gI (sI (sI S 435 (y3).toNatClampNeg (gI S 397 (((3 : Int32) * y3)).toNatClampNeg)) 436 (y3).toNatClampNeg (gI (sI S 435 (y3).toNatClampNeg (gI S 397 (((3 : Int32) * y3)).toNatClampNeg)) 397 ((((3 : Int32) * y3) + (1 : Int32))).toNatClampNeg)) 397 ((((3 : Int32) * y3) + (2 : Int32))).toNatClampNeg) y3 (sI (sI S 435 (y3).toNatClampNeg (gI S 397 (((3 : Int32) * y3)).toNatClampNeg)) 436 (y3).toNatClampNeg (gI (sI S 435 (y3).toNatClampNeg (gI S 397 (((3 : Int32) * y3)).toNatClampNeg)) 397 ((((3 : Int32) * y3) + (1 : Int32))).toNatClampNeg)) else none) else b253_202 d y3 (-1 : Int32) y3 (sI (sI S 435 (y3).toNatClampNeg (gI S 397 (((3 : Int32) * y3)).toNatClampNeg)) 436 (y3).toNatClampNeg (gI (sI S 435 (y3).toNatClampNeg (gI S 397 (((3 : Int32) * y3)).toNatClampNeg)) 397 ((((3 : Int32) * y3) + (1 : Int32))).toNatClampNeg))) else none) else none) else none) else none) else none)) := by
  unfold b253_129
  refine (k_iload_n t253_129 rfl rfl).trans ?_
  refine (k_aload_n t253_130 rfl rfl).trans ?_
  refine (k_getI t253_131 rfl hW zK_396 (by decide) (by decide)).trans ?_
  refine (k_icmp_ge t253_134 rfl).trans (z_ite (fun g21 => ?_) (fun g21 => ?_))
  · refine (k_aload_n t253_209 rfl rfl).trans ?_
    refine (k_getI t253_210 rfl hW zK_396 (by decide) (by decide)).trans ?_
    exact k_ireturn t253_213 rfl (by decide)
  · refine (k_aload_n t253_137 rfl rfl).trans ?_
    refine (k_getR t253_138 rfl hW zK_396 (by decide) (by decide) (zF_396_64 hW)).trans ?_
    refine (k_iload_n t253_141 rfl rfl).trans ?_
    refine (k_aload_n t253_142 rfl rfl).trans ?_
    refine (k_getR t253_143 rfl hW zK_396 (by decide) (by decide) (zF_396_0 hW)).trans ?_
    refine (k_iconst t253_146 rfl zci_3).trans ?_
    refine (k_iload_n t253_147 rfl rfl).trans ?_
    refine (k_imul t253_148 rfl).trans ?_
    refine (k_iald t253_149 rfl hW zK_397 zL_397).trans (z_ite (fun g22 => ?_) (fun _ => rfl))
    refine (k_iast t253_150 rfl hW zK_435 zL_435).trans (z_ite (fun g23 => ?_) (fun _ => rfl))
    refine (k_aload_n t253_151 rfl rfl).trans ?_
    refine (k_getR t253_152 rfl hW.sI zK_396 (by decide) (by decide) (zF_396_65 hW.sI)).trans ?_
    refine (k_iload_n t253_155 rfl rfl).trans ?_
    refine (k_aload_n t253_156 rfl rfl).trans ?_
    refine (k_getR t253_157 rfl hW.sI zK_396 (by decide) (by decide) (zF_396_0 hW.sI)).trans ?_
    refine (k_iconst t253_160 rfl zci_3).trans ?_
    refine (k_iload_n t253_161 rfl rfl).trans ?_
    refine (k_imul t253_162 rfl).trans ?_
    refine (k_iconst t253_163 rfl zci_1).trans ?_
    refine (k_iadd t253_164 rfl).trans ?_
    refine (k_iald t253_165 rfl hW.sI zK_397 zL_397).trans (z_ite (fun g24 => ?_) (fun _ => rfl))
    refine (k_iast t253_166 rfl hW.sI zK_436 zL_436).trans (z_ite (fun g25 => ?_) (fun _ => rfl))
    refine (k_aload_n t253_167 rfl rfl).trans ?_
    refine (k_getR t253_168 rfl hW.sI.sI zK_396 (by decide) (by decide) (zF_396_66 hW.sI.sI)).trans ?_
    refine (k_iload_n t253_171 rfl rfl).trans ?_
    refine (k_aload_n t253_172 rfl rfl).trans ?_
    refine (k_getR t253_173 rfl hW.sI.sI zK_396 (by decide) (by decide) (zF_396_0 hW.sI.sI)).trans ?_
    refine (k_iconst t253_176 rfl zci_3).trans ?_
    refine (k_iload_n t253_177 rfl rfl).trans ?_
    refine (k_imul t253_178 rfl).trans ?_
    refine (k_iconst t253_179 rfl zci_2).trans ?_
    refine (k_iadd t253_180 rfl).trans ?_
    refine (k_iald t253_181 rfl hW.sI.sI zK_397 zL_397).trans (z_ite (fun g26 => ?_) (fun _ => rfl))
    refine (k_sipush t253_182 rfl zcs_255).trans ?_
    refine (k_icmp_ne t253_185 rfl).trans (z_ite (fun g27 => ?_) (fun g27 => ?_))
    · refine (k_aload_n t253_192 rfl rfl).trans ?_
      refine (k_getR t253_193 rfl hW.sI.sI zK_396 (by decide) (by decide) (zF_396_0 hW.sI.sI)).trans ?_
      refine (k_iconst t253_196 rfl zci_3).trans ?_
      refine (k_iload_n t253_197 rfl rfl).trans ?_
      refine (k_imul t253_198 rfl).trans ?_
      refine (k_iconst t253_199 rfl zci_2).trans ?_
      refine (k_iadd t253_200 rfl).trans ?_
      refine (k_iald t253_201 rfl hW.sI.sI zK_397 zL_397).trans (z_ite (fun g28 => ?_) (fun _ => rfl))
      exact (zk_mk (ls' := [.ref 396, z_j, z_j, .int y3]) t253_202 rfl)
    · refine (k_iconst t253_188 rfl zci_m1).trans ?_
      refine (k_goto t253_189 rfl).trans ?_
      exact (zk_mk (ls' := [.ref 396, z_j, z_j, .int y3]) t253_202 rfl)
theorem b253_103_eq (d : Nat) (y1 : Int32) (y3 : Int32) (s0 : Int32) (S : z_S) (hW : z_W S)  : b253_103 d y1 y3 s0 S = b253_34 d y1 s0 (y3 + (3 : Int32)) S := by
  unfold b253_103
  refine (k_istore_n (ls' := [.ref 396, .int y1, .int s0, .int y3]) t253_103 rfl rfl).trans ?_
  refine (k_iinc (b := (y3 + (3 : Int32))) (ls' := [.ref 396, .int y1, .int s0, .int (y3 + (3 : Int32))]) t253_104 rfl rfl (by rw [zci_3]) rfl).trans ?_
  refine (k_goto t253_107 rfl).trans ?_
  exact (zk_mk (ls' := [.ref 396, .int y1, .int s0, .int (y3 + (3 : Int32))]) t253_34 rfl)
theorem b253_202_eq (d : Nat) (y3 : Int32) (s0 : Int32) (s1 : Int32) (S : z_S) (hW : z_W S)  : b253_202 d y3 s0 s1 S = (if z_in s1 16 then b253_129 d (y3 + (1 : Int32)) (sI S 437 (s1).toNatClampNeg s0) else none) := by
  unfold b253_202
  refine (k_iast t253_202 rfl hW zK_437 zL_437).trans (z_ite (fun g29 => ?_) (fun _ => rfl))
  refine (k_iinc (b := (y3 + (1 : Int32))) (ls' := [.ref 396, z_j, z_j, .int (y3 + (1 : Int32))]) t253_203 rfl rfl (by rw [zci_1]) rfl).trans ?_
  refine (k_goto t253_206 rfl).trans ?_
  exact (zk_mk (ls' := [.ref 396, z_j, z_j, .int (y3 + (1 : Int32))]) t253_129 rfl)
-- X12_meet
theorem e253 (d : Nat)  (S : z_S) (hW : z_W S)  : fI (d + 1) 253 [.ref 396] S = (if (gI S 396 1) ≤ (0 : Int32) then b253_30 d (gI S 396 1) (sI S 396 1 (0 : Int32)) else (if ¬ ((gI S 396 1) - (gI S 396 1) / (3 : Int32) * (3 : Int32)) = (0 : Int32) then b253_30 d (gI S 396 1) (sI S 396 1 (0 : Int32)) else (if (48 : Int32) < (gI S 396 1) then b253_30 d (gI S 396 1) (sI S 396 1 (0 : Int32)) else b253_31 d (gI S 396 1) (1 : Int32) (sI S 396 1 (0 : Int32))))) := by
  refine (fI_en (Nat.le_of_ble_eq_true rfl) rfl).trans ?_
  refine (k_aload_n t253_0 rfl rfl).trans ?_
  refine (k_getI t253_1 rfl hW zK_396 (by decide) (by decide)).trans ?_
  refine (k_istore_n (ls' := [.ref 396, .int (gI S 396 1), z_j, z_j]) t253_4 rfl rfl).trans ?_
  refine (k_aload_n t253_5 rfl rfl).trans ?_
  refine (k_iconst t253_6 rfl zci_0).trans ?_
  refine (k_putI t253_7 rfl hW zK_396 (by decide) (by decide) (by decide)).trans ?_
  refine (k_iload_n t253_10 rfl rfl).trans ?_
  refine (k_if_le t253_11 rfl).trans (z_ite (fun g1 => ?_) (fun g1 => ?_))
  · exact (zk_mk (ls' := [.ref 396, .int (gI S 396 1), z_j, z_j]) t253_30 rfl)
  · refine (k_iload_n t253_14 rfl rfl).trans ?_
    refine (k_iconst t253_15 rfl zci_3).trans ?_
    refine ((k_irem t253_16 rfl).trans (if_neg (by decide))).trans ?_
    refine (k_if_ne t253_17 rfl).trans (z_ite (fun g2 => ?_) (fun g2 => ?_))
    · exact (zk_mk (ls' := [.ref 396, .int (gI S 396 1), z_j, z_j]) t253_30 rfl)
    · refine (k_iload_n t253_20 rfl rfl).trans ?_
      refine (k_bipush t253_21 rfl zcb_48).trans ?_
      refine (k_icmp_gt t253_23 rfl).trans (z_ite (fun g3 => ?_) (fun g3 => ?_))
      · exact (zk_mk (ls' := [.ref 396, .int (gI S 396 1), z_j, z_j]) t253_30 rfl)
      · refine (k_iconst t253_26 rfl zci_1).trans ?_
        refine (k_goto t253_27 rfl).trans ?_
        exact (zk_mk (ls' := [.ref 396, .int (gI S 396 1), z_j, z_j]) t253_31 rfl)
theorem t254_0 : z_ft 254 0 = some (.aload_n 0, 1, none, [], 0, 0, 0, 0) := z_ftd (by decide +kernel)
theorem t254_1 : z_ft 254 1 = some (.iconst 1, 1, none, [], 0, 0, 0, 0) := z_ftd (by decide +kernel)
theorem t254_2 : z_ft 254 2 = some (.iconst 0, 1, none, [], 0, 0, 0, 0) := z_ftd (by decide +kernel)
theorem t254_3 : z_ft 254 3 = some (.invokevirtual 407, 3, none, [], 196, 0, 153, 0) := z_ftd (by decide +kernel)
theorem t254_6 : z_ft 254 6 = some (.aload_n 0, 1, none, [], 0, 0, 0, 0) := z_ftd (by decide +kernel)
theorem t254_7 : z_ft 254 7 = some (.iload_n 2, 1, none, [], 0, 0, 0, 0) := z_ftd (by decide +kernel)
theorem t254_8 : z_ft 254 8 = some (.putfield 183, 3, none, [], 12, 56, 57, 0) := z_ftd (by decide +kernel)
theorem t254_11 : z_ft 254 11 = some (.aload_n 0, 1, none, [], 0, 0, 0, 0) := z_ftd (by decide +kernel)
theorem t254_12 : z_ft 254 12 = some (.iconst 1, 1, none, [], 0, 0, 0, 0) := z_ftd (by decide +kernel)
theorem t254_13 : z_ft 254 13 = some (.iload_n 1, 1, none, [], 0, 0, 0, 0) := z_ftd (by decide +kernel)
theorem t254_14 : z_ft 254 14 = some (.invokevirtual 401, 3, none, [], 220, 0, 134, 0) := z_ftd (by decide +kernel)
theorem t254_17 : z_ft 254 17 = some (.pop, 1, none, [], 0, 0, 0, 0) := z_ftd (by decide +kernel)
theorem t254_18 : z_ft 254 18 = some (.iconst 0, 1, none, [], 0, 0, 0, 0) := z_ftd (by decide +kernel)
theorem t254_19 : z_ft 254 19 = some (.istore_n 3, 1, none, [], 0, 0, 0, 0) := z_ftd (by decide +kernel)
theorem t254_20 : z_ft 254 20 = some (.iconst 0, 1, none, [], 0, 0, 0, 0) := z_ftd (by decide +kernel)
theorem t254_21 : z_ft 254 21 = some (.istore 4, 2, none, [], 0, 0, 0, 0) := z_ftd (by decide +kernel)
theorem t254_23 : z_ft 254 23 = some (.aload_n 0, 1, (some [0, 2, 3, 4]), [], 0, 0, 0, 0) := z_ftd (by decide +kernel)
theorem t254_24 : z_ft 254 24 = some (.iload 4, 2, none, [], 0, 0, 0, 0) := z_ftd (by decide +kernel)
theorem t254_26 : z_ft 254 26 = some (.iconst 0, 1, none, [], 0, 0, 0, 0) := z_ftd (by decide +kernel)
theorem t254_27 : z_ft 254 27 = some (.bipush 30, 2, none, [], 0, 0, 0, 0) := z_ftd (by decide +kernel)
theorem t254_29 : z_ft 254 29 = some (.invokevirtual 509, 3, none, [], 235, 0, 162, 0) := z_ftd (by decide +kernel)
theorem t254_32 : z_ft 254 32 = some (.ifCond .eq 129, 3, none, [], 161, 0, 0, 0) := z_ftd (by decide +kernel)
theorem t254_35 : z_ft 254 35 = some (.iconst 0, 1, none, [], 0, 0, 0, 0) := z_ftd (by decide +kernel)
theorem t254_36 : z_ft 254 36 = some (.istore 5, 2, none, [], 0, 0, 0, 0) := z_ftd (by decide +kernel)
theorem t254_38 : z_ft 254 38 = some (.iload 5, 2, (some [0, 2, 3, 4, 5]), [], 0, 0, 0, 0) := z_ftd (by decide +kernel)
theorem t254_40 : z_ft 254 40 = some (.aload_n 0, 1, none, [], 0, 0, 0, 0) := z_ftd (by decide +kernel)
theorem t254_41 : z_ft 254 41 = some (.getfield 54, 3, none, [], 12, 14, 15, 0) := z_ftd (by decide +kernel)
theorem t254_44 : z_ft 254 44 = some (.aload_n 0, 1, none, [], 0, 0, 0, 0) := z_ftd (by decide +kernel)
theorem t254_45 : z_ft 254 45 = some (.getfield 51, 3, none, [], 12, 13, 14, 0) := z_ftd (by decide +kernel)
theorem t254_48 : z_ft 254 48 = some (.iaload, 1, none, [], 0, 0, 0, 0) := z_ftd (by decide +kernel)
theorem t254_49 : z_ft 254 49 = some (.if_icmp .ge 37, 3, none, [], 86, 0, 0, 0) := z_ftd (by decide +kernel)
theorem t254_52 : z_ft 254 52 = some (.aload_n 0, 1, none, [], 0, 0, 0, 0) := z_ftd (by decide +kernel)
theorem t254_53 : z_ft 254 53 = some (.getfield 219, 3, none, [], 12, 68, 69, 0) := z_ftd (by decide +kernel)
theorem t254_56 : z_ft 254 56 = some (.bipush 16, 2, none, [], 0, 0, 0, 0) := z_ftd (by decide +kernel)
theorem t254_58 : z_ft 254 58 = some (.bipush 31, 2, none, [], 0, 0, 0, 0) := z_ftd (by decide +kernel)
theorem t254_60 : z_ft 254 60 = some (.iload_n 2, 1, none, [], 0, 0, 0, 0) := z_ftd (by decide +kernel)
theorem t254_61 : z_ft 254 61 = some (.imul, 1, none, [], 0, 0, 0, 0) := z_ftd (by decide +kernel)
theorem t254_62 : z_ft 254 62 = some (.iload 4, 2, none, [], 0, 0, 0, 0) := z_ftd (by decide +kernel)
theorem t254_64 : z_ft 254 64 = some (.iadd, 1, none, [], 0, 0, 0, 0) := z_ftd (by decide +kernel)
theorem t254_65 : z_ft 254 65 = some (.imul, 1, none, [], 0, 0, 0, 0) := z_ftd (by decide +kernel)
theorem t254_66 : z_ft 254 66 = some (.iload 5, 2, none, [], 0, 0, 0, 0) := z_ftd (by decide +kernel)
theorem t254_68 : z_ft 254 68 = some (.iadd, 1, none, [], 0, 0, 0, 0) := z_ftd (by decide +kernel)
theorem t254_69 : z_ft 254 69 = some (.aload_n 0, 1, none, [], 0, 0, 0, 0) := z_ftd (by decide +kernel)
theorem t254_70 : z_ft 254 70 = some (.getfield 156, 3, none, [], 12, 47, 48, 0) := z_ftd (by decide +kernel)
theorem t254_73 : z_ft 254 73 = some (.bipush 16, 2, none, [], 0, 0, 0, 0) := z_ftd (by decide +kernel)
theorem t254_75 : z_ft 254 75 = some (.iload 5, 2, none, [], 0, 0, 0, 0) := z_ftd (by decide +kernel)
theorem t254_77 : z_ft 254 77 = some (.iadd, 1, none, [], 0, 0, 0, 0) := z_ftd (by decide +kernel)
theorem t254_78 : z_ft 254 78 = some (.iaload, 1, none, [], 0, 0, 0, 0) := z_ftd (by decide +kernel)
theorem t254_79 : z_ft 254 79 = some (.iastore, 1, none, [], 0, 0, 0, 0) := z_ftd (by decide +kernel)
theorem t254_80 : z_ft 254 80 = some (.iinc 5 1, 3, none, [], 0, 0, 0, 0) := z_ftd (by decide +kernel)
theorem t254_83 : z_ft 254 83 = some (.goto (-45), 3, none, [], 38, 0, 0, 0) := z_ftd (by decide +kernel)
theorem t254_86 : z_ft 254 86 = some (.iconst 0, 1, none, [], 0, 0, 0, 0) := z_ftd (by decide +kernel)
theorem t254_87 : z_ft 254 87 = some (.istore 5, 2, none, [], 0, 0, 0, 0) := z_ftd (by decide +kernel)
theorem t254_89 : z_ft 254 89 = some (.iload 5, 2, (some [0, 2, 3, 4, 5]), [], 0, 0, 0, 0) := z_ftd (by decide +kernel)
theorem t254_91 : z_ft 254 91 = some (.aload_n 0, 1, none, [], 0, 0, 0, 0) := z_ftd (by decide +kernel)
theorem t254_92 : z_ft 254 92 = some (.getfield 204, 3, none, [], 12, 63, 64, 0) := z_ftd (by decide +kernel)
theorem t254_95 : z_ft 254 95 = some (.if_icmp .ge 54, 3, none, [], 149, 0, 0, 0) := z_ftd (by decide +kernel)
theorem t254_98 : z_ft 254 98 = some (.iload_n 3, 1, none, [], 0, 0, 0, 0) := z_ftd (by decide +kernel)
theorem t254_99 : z_ft 254 99 = some (.aload_n 0, 1, none, [], 0, 0, 0, 0) := z_ftd (by decide +kernel)
theorem t254_100 : z_ft 254 100 = some (.getfield 207, 3, none, [], 12, 64, 65, 0) := z_ftd (by decide +kernel)
theorem t254_103 : z_ft 254 103 = some (.iload 5, 2, none, [], 0, 0, 0, 0) := z_ftd (by decide +kernel)
theorem t254_105 : z_ft 254 105 = some (.iaload, 1, none, [], 0, 0, 0, 0) := z_ftd (by decide +kernel)
theorem t254_106 : z_ft 254 106 = some (.iload 4, 2, none, [], 0, 0, 0, 0) := z_ftd (by decide +kernel)
theorem t254_108 : z_ft 254 108 = some (.if_icmp .ne 32, 3, none, [], 140, 0, 0, 0) := z_ftd (by decide +kernel)
theorem t254_111 : z_ft 254 111 = some (.aload_n 0, 1, none, [], 0, 0, 0, 0) := z_ftd (by decide +kernel)
theorem t254_112 : z_ft 254 112 = some (.getfield 156, 3, none, [], 12, 47, 48, 0) := z_ftd (by decide +kernel)
theorem t254_115 : z_ft 254 115 = some (.bipush 16, 2, none, [], 0, 0, 0, 0) := z_ftd (by decide +kernel)
theorem t254_117 : z_ft 254 117 = some (.aload_n 0, 1, none, [], 0, 0, 0, 0) := z_ftd (by decide +kernel)
theorem t254_118 : z_ft 254 118 = some (.getfield 210, 3, none, [], 12, 65, 66, 0) := z_ftd (by decide +kernel)
theorem t254_121 : z_ft 254 121 = some (.iload 5, 2, none, [], 0, 0, 0, 0) := z_ftd (by decide +kernel)
theorem t254_123 : z_ft 254 123 = some (.iaload, 1, none, [], 0, 0, 0, 0) := z_ftd (by decide +kernel)
theorem t254_124 : z_ft 254 124 = some (.iadd, 1, none, [], 0, 0, 0, 0) := z_ftd (by decide +kernel)
theorem t254_125 : z_ft 254 125 = some (.iaload, 1, none, [], 0, 0, 0, 0) := z_ftd (by decide +kernel)
theorem t254_126 : z_ft 254 126 = some (.aload_n 0, 1, none, [], 0, 0, 0, 0) := z_ftd (by decide +kernel)
theorem t254_127 : z_ft 254 127 = some (.getfield 213, 3, none, [], 12, 66, 67, 0) := z_ftd (by decide +kernel)
theorem t254_130 : z_ft 254 130 = some (.iload 5, 2, none, [], 0, 0, 0, 0) := z_ftd (by decide +kernel)
theorem t254_132 : z_ft 254 132 = some (.iaload, 1, none, [], 0, 0, 0, 0) := z_ftd (by decide +kernel)
theorem t254_133 : z_ft 254 133 = some (.if_icmp .ne 7, 3, none, [], 140, 0, 0, 0) := z_ftd (by decide +kernel)
theorem t254_136 : z_ft 254 136 = some (.iconst 1, 1, none, [], 0, 0, 0, 0) := z_ftd (by decide +kernel)
theorem t254_137 : z_ft 254 137 = some (.goto 4, 3, none, [], 141, 0, 0, 0) := z_ftd (by decide +kernel)
theorem t254_140 : z_ft 254 140 = some (.iconst 0, 1, (some [0, 2, 4, 5]), [], 0, 0, 0, 0) := z_ftd (by decide +kernel)
theorem t254_141 : z_ft 254 141 = some (.iadd, 1, (some [0, 2, 4, 5]), [], 0, 0, 0, 0) := z_ftd (by decide +kernel)
theorem t254_142 : z_ft 254 142 = some (.istore_n 3, 1, none, [], 0, 0, 0, 0) := z_ftd (by decide +kernel)
theorem t254_143 : z_ft 254 143 = some (.iinc 5 1, 3, none, [], 0, 0, 0, 0) := z_ftd (by decide +kernel)
theorem t254_146 : z_ft 254 146 = some (.goto (-57), 3, none, [], 89, 0, 0, 0) := z_ftd (by decide +kernel)
theorem t254_149 : z_ft 254 149 = some (.aload_n 0, 1, none, [], 0, 0, 0, 0) := z_ftd (by decide +kernel)
theorem t254_150 : z_ft 254 150 = some (.iconst 1, 1, none, [], 0, 0, 0, 0) := z_ftd (by decide +kernel)
theorem t254_151 : z_ft 254 151 = some (.invokevirtual 503, 3, none, [], 226, 0, 164, 0) := z_ftd (by decide +kernel)
theorem t254_154 : z_ft 254 154 = some (.pop, 1, none, [], 0, 0, 0, 0) := z_ftd (by decide +kernel)
theorem t254_155 : z_ft 254 155 = some (.iinc 4 1, 3, none, [], 0, 0, 0, 0) := z_ftd (by decide +kernel)
theorem t254_158 : z_ft 254 158 = some (.goto (-135), 3, none, [], 23, 0, 0, 0) := z_ftd (by decide +kernel)
theorem t254_161 : z_ft 254 161 = some (.iload_n 3, 1, none, [], 0, 0, 0, 0) := z_ftd (by decide +kernel)
theorem t254_162 : z_ft 254 162 = some (.aload_n 0, 1, none, [], 0, 0, 0, 0) := z_ftd (by decide +kernel)
theorem t254_163 : z_ft 254 163 = some (.getfield 204, 3, none, [], 12, 63, 64, 0) := z_ftd (by decide +kernel)
theorem t254_166 : z_ft 254 166 = some (.if_icmp .ne 7, 3, none, [], 173, 0, 0, 0) := z_ftd (by decide +kernel)
theorem t254_169 : z_ft 254 169 = some (.iconst 1, 1, none, [], 0, 0, 0, 0) := z_ftd (by decide +kernel)
theorem t254_170 : z_ft 254 170 = some (.goto 4, 3, none, [], 174, 0, 0, 0) := z_ftd (by decide +kernel)
theorem t254_173 : z_ft 254 173 = some (.iconst 0, 1, none, [], 0, 0, 0, 0) := z_ftd (by decide +kernel)
theorem t254_174 : z_ft 254 174 = some (.ireturn, 1, (some []), [], 0, 0, 0, 0) := z_ftd (by decide +kernel)
noncomputable def b254_23 (d : Nat) (y2 : Int32) (y3 : Int32) (y4 : Int32) (S : z_S) : Option (Int32 × z_S) := zk kI z_X0 d 254 23 [.ref 396, z_j, .int y2, .int y3, .int y4, z_j] [] S
noncomputable def b254_38 (d : Nat) (y2 : Int32) (y3 : Int32) (y4 : Int32) (y5 : Int32) (S : z_S) : Option (Int32 × z_S) := zk kI z_X0 d 254 38 [.ref 396, z_j, .int y2, .int y3, .int y4, .int y5] [] S
noncomputable def b254_89 (d : Nat) (y2 : Int32) (y3 : Int32) (y4 : Int32) (y5 : Int32) (S : z_S) : Option (Int32 × z_S) := zk kI z_X0 d 254 89 [.ref 396, z_j, .int y2, .int y3, .int y4, .int y5] [] S
noncomputable def b254_140 (d : Nat) (y2 : Int32) (y4 : Int32) (y5 : Int32) (s0 : Int32) (S : z_S) : Option (Int32 × z_S) := zk kI z_X0 d 254 140 [.ref 396, z_j, .int y2, z_j, .int y4, .int y5] [.int s0] S
noncomputable def b254_141 (d : Nat) (y2 : Int32) (y4 : Int32) (y5 : Int32) (s0 : Int32) (s1 : Int32) (S : z_S) : Option (Int32 × z_S) := zk kI z_X0 d 254 141 [.ref 396, z_j, .int y2, z_j, .int y4, .int y5] [.int s0, .int s1] S
theorem b254_23_eq (d : Nat) (y2 : Int32) (y3 : Int32) (y4 : Int32) (S : z_S) (hW : z_W S)  : b254_23 d y2 y3 y4 S = (zb (fI d 235 [.ref 396, .int y4, .int (0 : Int32), .int (30 : Int32)] S) fun v5 S6 => (if v5 = (0 : Int32) then (if ¬ y3 = (gI S6 396 63) then some ((0 : Int32), S6) else some ((1 : Int32), S6)) else b254_38 d y2 y3 y4 (0 : Int32) S6)) := by
  unfold b254_23
  refine (k_aload_n t254_23 rfl rfl).trans ?_
  refine (k_iload t254_24 rfl rfl).trans ?_
  refine (k_iconst t254_26 rfl zci_0).trans ?_
  refine (k_bipush t254_27 rfl zcb_30).trans ?_
  refine k_callI (as := [.ref 396, .int y4, .int (0 : Int32), .int (30 : Int32)]) (rest := []) t254_29 rfl rfl (by decide) rfl rfl (Nat.le_of_ble_eq_true rfl) rfl (z_rcV hW (zK_396) (by decide)) (by decide) (Or.inr (by decide)) hW (fun v5 S6 hW6 => ?_)
  refine (k_if_eq t254_32 rfl).trans (z_ite (fun g7 => ?_) (fun g7 => ?_))
  · refine (k_iload_n t254_161 rfl rfl).trans ?_
    refine (k_aload_n t254_162 rfl rfl).trans ?_
    refine (k_getI t254_163 rfl hW6 zK_396 (by decide) (by decide)).trans ?_
    refine (k_icmp_ne t254_166 rfl).trans (z_ite (fun g8 => ?_) (fun g8 => ?_))
    · refine (k_iconst t254_173 rfl zci_0).trans ?_
      refine (zk_mk (ls' := [z_j, z_j, z_j, z_j, z_j, z_j]) t254_174 rfl).trans ?_
      exact k_zretC t254_174 rfl (by decide) (by decide)
    · refine (k_iconst t254_169 rfl zci_1).trans ?_
      refine (k_goto t254_170 rfl).trans ?_
      refine (zk_mk (ls' := [z_j, z_j, z_j, z_j, z_j, z_j]) t254_174 rfl).trans ?_
      exact k_zretC t254_174 rfl (by decide) (by decide)
  · refine (k_iconst t254_35 rfl zci_0).trans ?_
    refine (k_istore (ls' := [.ref 396, z_j, .int y2, .int y3, .int y4, .int (0 : Int32)]) t254_36 rfl rfl).trans ?_
    exact (zk_mk (ls' := [.ref 396, z_j, .int y2, .int y3, .int y4, .int (0 : Int32)]) t254_38 rfl)
theorem b254_38_eq (d : Nat) (y2 : Int32) (y3 : Int32) (y4 : Int32) (y5 : Int32) (S : z_S) (hW : z_W S)  : b254_38 d y2 y3 y4 y5 S = (if z_in (gI S 396 13) 2 then (if (gI S 398 ((gI S 396 13)).toNatClampNeg) ≤ y5 then b254_89 d y2 y3 y4 (0 : Int32) S else (if z_in ((16 : Int32) + y5) 352 then (if z_in (((16 : Int32) * (((31 : Int32) * y2) + y4)) + y5) 20336 then b254_38 d y2 y3 y4 (y5 + (1 : Int32)) (sI S 439 ((((16 : Int32) * (((31 : Int32) * y2) + y4)) + y5)).toNatClampNeg (gI S 423 (((16 : Int32) + y5)).toNatClampNeg)) else none) else none)) else none) := by
  unfold b254_38
  refine (k_iload t254_38 rfl rfl).trans ?_
  refine (k_aload_n t254_40 rfl rfl).trans ?_
  refine (k_getR t254_41 rfl hW zK_396 (by decide) (by decide) (zF_396_14 hW)).trans ?_
  refine (k_aload_n t254_44 rfl rfl).trans ?_
  refine (k_getI t254_45 rfl hW zK_396 (by decide) (by decide)).trans ?_
  refine (k_iald t254_48 rfl hW zK_398 zL_398).trans (z_ite (fun g9 => ?_) (fun _ => rfl))
  refine (k_icmp_ge t254_49 rfl).trans (z_ite (fun g10 => ?_) (fun g10 => ?_))
  · refine (k_iconst t254_86 rfl zci_0).trans ?_
    refine (k_istore (ls' := [.ref 396, z_j, .int y2, .int y3, .int y4, .int (0 : Int32)]) t254_87 rfl rfl).trans ?_
    exact (zk_mk (ls' := [.ref 396, z_j, .int y2, .int y3, .int y4, .int (0 : Int32)]) t254_89 rfl)
  · refine (k_aload_n t254_52 rfl rfl).trans ?_
    refine (k_getR t254_53 rfl hW zK_396 (by decide) (by decide) (zF_396_68 hW)).trans ?_
    refine (k_bipush t254_56 rfl zcb_16).trans ?_
    refine (k_bipush t254_58 rfl zcb_31).trans ?_
    refine (k_iload_n t254_60 rfl rfl).trans ?_
    refine (k_imul t254_61 rfl).trans ?_
    refine (k_iload t254_62 rfl rfl).trans ?_
    refine (k_iadd t254_64 rfl).trans ?_
    refine (k_imul t254_65 rfl).trans ?_
    refine (k_iload t254_66 rfl rfl).trans ?_
    refine (k_iadd t254_68 rfl).trans ?_
    refine (k_aload_n t254_69 rfl rfl).trans ?_
    refine (k_getR t254_70 rfl hW zK_396 (by decide) (by decide) (zF_396_47 hW)).trans ?_
    refine (k_bipush t254_73 rfl zcb_16).trans ?_
    refine (k_iload t254_75 rfl rfl).trans ?_
    refine (k_iadd t254_77 rfl).trans ?_
    refine (k_iald t254_78 rfl hW zK_423 zL_423).trans (z_ite (fun g11 => ?_) (fun _ => rfl))
    refine (k_iast t254_79 rfl hW zK_439 zL_439).trans (z_ite (fun g12 => ?_) (fun _ => rfl))
    refine (k_iinc (b := (y5 + (1 : Int32))) (ls' := [.ref 396, z_j, .int y2, .int y3, .int y4, .int (y5 + (1 : Int32))]) t254_80 rfl rfl (by rw [zci_1]) rfl).trans ?_
    refine (k_goto t254_83 rfl).trans ?_
    exact (zk_mk (ls' := [.ref 396, z_j, .int y2, .int y3, .int y4, .int (y5 + (1 : Int32))]) t254_38 rfl)
theorem b254_89_eq (d : Nat) (y2 : Int32) (y3 : Int32) (y4 : Int32) (y5 : Int32) (S : z_S) (hW : z_W S)  : b254_89 d y2 y3 y4 y5 S = (if (gI S 396 63) ≤ y5 then (zb (fI d 226 [.ref 396, .int (1 : Int32)] S) fun v14 S15 => b254_23 d y2 y3 (y4 + (1 : Int32)) S15) else (if z_in y5 16 then (if ¬ (gI S 435 (y5).toNatClampNeg) = y4 then b254_140 d y2 y4 y5 y3 S else (if z_in y5 16 then (if z_in ((16 : Int32) + (gI S 436 (y5).toNatClampNeg)) 352 then (if z_in y5 16 then (if ¬ (gI S 423 (((16 : Int32) + (gI S 436 (y5).toNatClampNeg))).toNatClampNeg) = (gI S 437 (y5).toNatClampNeg) then b254_140 d y2 y4 y5 y3 S else b254_141 d y2 y4 y5 (1 : Int32) y3 S) else none) else none) else none)) else none)) := by
  unfold b254_89
  refine (k_iload t254_89 rfl rfl).trans ?_
  refine (k_aload_n t254_91 rfl rfl).trans ?_
  refine (k_getI t254_92 rfl hW zK_396 (by decide) (by decide)).trans ?_
  refine (k_icmp_ge t254_95 rfl).trans (z_ite (fun g13 => ?_) (fun g13 => ?_))
  · refine (k_aload_n t254_149 rfl rfl).trans ?_
    refine (k_iconst t254_150 rfl zci_1).trans ?_
    refine k_callI (as := [.ref 396, .int (1 : Int32)]) (rest := []) t254_151 rfl rfl (by decide) rfl rfl (Nat.le_of_ble_eq_true rfl) rfl (z_rcV hW (zK_396) (by decide)) (by decide) (Or.inl (by decide)) hW (fun v14 S15 hW15 => ?_)
    refine (k_popI t254_154 rfl).trans ?_
    refine (k_iinc (b := (y4 + (1 : Int32))) (ls' := [.ref 396, z_j, .int y2, .int y3, .int (y4 + (1 : Int32)), .int y5]) t254_155 rfl rfl (by rw [zci_1]) rfl).trans ?_
    refine (k_goto t254_158 rfl).trans ?_
    exact (zk_mk (ls' := [.ref 396, z_j, .int y2, .int y3, .int (y4 + (1 : Int32)), z_j]) t254_23 rfl)
  · refine (k_iload_n t254_98 rfl rfl).trans ?_
    refine (k_aload_n t254_99 rfl rfl).trans ?_
    refine (k_getR t254_100 rfl hW zK_396 (by decide) (by decide) (zF_396_64 hW)).trans ?_
    refine (k_iload t254_103 rfl rfl).trans ?_
    refine (k_iald t254_105 rfl hW zK_435 zL_435).trans (z_ite (fun g16 => ?_) (fun _ => rfl))
    refine (k_iload t254_106 rfl rfl).trans ?_
    refine (k_icmp_ne t254_108 rfl).trans (z_ite (fun g17 => ?_) (fun g17 => ?_))
    · exact (zk_mk (ls' := [.ref 396, z_j, .int y2, z_j, .int y4, .int y5]) t254_140 rfl)
    · refine (k_aload_n t254_111 rfl rfl).trans ?_
      refine (k_getR t254_112 rfl hW zK_396 (by decide) (by decide) (zF_396_47 hW)).trans ?_
      refine (k_bipush t254_115 rfl zcb_16).trans ?_
      refine (k_aload_n t254_117 rfl rfl).trans ?_
      refine (k_getR t254_118 rfl hW zK_396 (by decide) (by decide) (zF_396_65 hW)).trans ?_
      refine (k_iload t254_121 rfl rfl).trans ?_
      refine (k_iald t254_123 rfl hW zK_436 zL_436).trans (z_ite (fun g18 => ?_) (fun _ => rfl))
      refine (k_iadd t254_124 rfl).trans ?_
      refine (k_iald t254_125 rfl hW zK_423 zL_423).trans (z_ite (fun g19 => ?_) (fun _ => rfl))
      refine (k_aload_n t254_126 rfl rfl).trans ?_
      refine (k_getR t254_127 rfl hW zK_396 (by decide) (by decide) (zF_396_66 hW)).trans ?_
      refine (k_iload t254_130 rfl rfl).trans ?_
      refine (k_iald t254_132 rfl hW zK_437 zL_437).trans (z_ite (fun g20 => ?_) (fun _ => rfl))
      refine (k_icmp_ne t254_133 rfl).trans (z_ite (fun g21 => ?_) (fun g21 => ?_))
      · exact (zk_mk (ls' := [.ref 396, z_j, .int y2, z_j, .int y4, .int y5]) t254_140 rfl)
      · refine (k_iconst t254_136 rfl zci_1).trans ?_
        refine (k_goto t254_137 rfl).trans ?_
        exact (zk_mk (ls' := [.ref 396, z_j, .int y2, z_j, .int y4, .int y5]) t254_141 rfl)
theorem b254_140_eq (d : Nat) (y2 : Int32) (y4 : Int32) (y5 : Int32) (s0 : Int32) (S : z_S) (hW : z_W S)  : b254_140 d y2 y4 y5 s0 S = b254_141 d y2 y4 y5 (0 : Int32) s0 S := by
  unfold b254_140
  refine (k_iconst t254_140 rfl zci_0).trans ?_
  exact (zk_mk (ls' := [.ref 396, z_j, .int y2, z_j, .int y4, .int y5]) t254_141 rfl)
theorem b254_141_eq (d : Nat) (y2 : Int32) (y4 : Int32) (y5 : Int32) (s0 : Int32) (s1 : Int32) (S : z_S) (hW : z_W S)  : b254_141 d y2 y4 y5 s0 s1 S = b254_89 d y2 (s1 + s0) y4 (y5 + (1 : Int32)) S := by
  unfold b254_141
  refine (k_iadd t254_141 rfl).trans ?_
  refine (k_istore_n (ls' := [.ref 396, z_j, .int y2, .int (s1 + s0), .int y4, .int y5]) t254_142 rfl rfl).trans ?_
  refine (k_iinc (b := (y5 + (1 : Int32))) (ls' := [.ref 396, z_j, .int y2, .int (s1 + s0), .int y4, .int (y5 + (1 : Int32))]) t254_143 rfl rfl (by rw [zci_1]) rfl).trans ?_
  refine (k_goto t254_146 rfl).trans ?_
  exact (zk_mk (ls' := [.ref 396, z_j, .int y2, .int (s1 + s0), .int y4, .int (y5 + (1 : Int32))]) t254_89 rfl)
-- X12_canBe
theorem e254 (d : Nat) (x1 : Int32) (x2 : Int32) (S : z_S) (hW : z_W S)  : fI (d + 1) 254 [.ref 396, .int x1, .int x2] S = ((fV d 196 [.ref 396, .int (1 : Int32), .int (0 : Int32)] S).bind fun S2 => (zb (fI d 220 [.ref 396, .int (1 : Int32), .int x1] (sI S2 396 56 x2)) fun v3 S4 => b254_23 d x2 (0 : Int32) (0 : Int32) S4)) := by
  refine (fI_en (Nat.le_of_ble_eq_true rfl) rfl).trans ?_
  refine (k_aload_n t254_0 rfl rfl).trans ?_
  refine (k_iconst t254_1 rfl zci_1).trans ?_
  refine (k_iconst t254_2 rfl zci_0).trans ?_
  refine k_callV (as := [.ref 396, .int (1 : Int32), .int (0 : Int32)]) (rest := []) t254_3 rfl rfl (by decide) rfl rfl (Nat.le_of_ble_eq_true rfl) rfl (z_rcV hW (zK_396) (by decide)) (by decide) (by decide) hW (fun S2 hW2 => ?_)
  refine (k_aload_n t254_6 rfl rfl).trans ?_
  refine (k_iload_n t254_7 rfl rfl).trans ?_
  refine (k_putI t254_8 rfl hW2 zK_396 (by decide) (by decide) (by decide)).trans ?_
  refine (k_aload_n t254_11 rfl rfl).trans ?_
  refine (k_iconst t254_12 rfl zci_1).trans ?_
  refine (k_iload_n t254_13 rfl rfl).trans ?_
  refine k_callI (as := [.ref 396, .int (1 : Int32), .int x1]) (rest := []) t254_14 rfl rfl (by decide) rfl rfl (Nat.le_of_ble_eq_true rfl) rfl (z_rcV hW2.sI (zK_396) (by decide)) (by decide) (Or.inl (by decide)) hW2.sI (fun v3 S4 hW4 => ?_)
  refine (k_popI t254_17 rfl).trans ?_
  refine (k_iconst t254_18 rfl zci_0).trans ?_
  refine (k_istore_n (ls' := [.ref 396, .int x1, .int x2, .int (0 : Int32), z_j, z_j]) t254_19 rfl rfl).trans ?_
  refine (k_iconst t254_20 rfl zci_0).trans ?_
  refine (k_istore (ls' := [.ref 396, .int x1, .int x2, .int (0 : Int32), .int (0 : Int32), z_j]) t254_21 rfl rfl).trans ?_
  exact (zk_mk (ls' := [.ref 396, z_j, .int x2, .int (0 : Int32), .int (0 : Int32), z_j]) t254_23 rfl)
theorem t255_0 : z_ft 255 0 = some (.iconst 0, 1, none, [], 0, 0, 0, 0) := z_ftd (by decide +kernel)
theorem t255_1 : z_ft 255 1 = some (.istore_n 2, 1, none, [], 0, 0, 0, 0) := z_ftd (by decide +kernel)
theorem t255_2 : z_ft 255 2 = some (.iconst 1, 1, none, [], 0, 0, 0, 0) := z_ftd (by decide +kernel)
theorem t255_3 : z_ft 255 3 = some (.istore_n 3, 1, none, [], 0, 0, 0, 0) := z_ftd (by decide +kernel)
theorem t255_4 : z_ft 255 4 = some (.iload_n 3, 1, (some [0, 1, 2, 3]), [], 0, 0, 0, 0) := z_ftd (by decide +kernel)
theorem t255_5 : z_ft 255 5 = some (.bipush 40, 2, none, [], 0, 0, 0, 0) := z_ftd (by decide +kernel)
theorem t255_7 : z_ft 255 7 = some (.if_icmp .gt 38, 3, none, [], 45, 0, 0, 0) := z_ftd (by decide +kernel)
theorem t255_10 : z_ft 255 10 = some (.aload_n 0, 1, none, [], 0, 0, 0, 0) := z_ftd (by decide +kernel)
theorem t255_11 : z_ft 255 11 = some (.getfield 216, 3, none, [], 12, 67, 68, 0) := z_ftd (by decide +kernel)
theorem t255_14 : z_ft 255 14 = some (.iload_n 3, 1, none, [], 0, 0, 0, 0) := z_ftd (by decide +kernel)
theorem t255_15 : z_ft 255 15 = some (.aload_n 0, 1, none, [], 0, 0, 0, 0) := z_ftd (by decide +kernel)
theorem t255_16 : z_ft 255 16 = some (.iload_n 1, 1, none, [], 0, 0, 0, 0) := z_ftd (by decide +kernel)
theorem t255_17 : z_ft 255 17 = some (.iload_n 3, 1, none, [], 0, 0, 0, 0) := z_ftd (by decide +kernel)
theorem t255_18 : z_ft 255 18 = some (.invokevirtual 530, 3, none, [], 254, 0, 178, 0) := z_ftd (by decide +kernel)
theorem t255_21 : z_ft 255 21 = some (.ifCond .eq 7, 3, none, [], 28, 0, 0, 0) := z_ftd (by decide +kernel)
theorem t255_24 : z_ft 255 24 = some (.iconst 1, 1, none, [], 0, 0, 0, 0) := z_ftd (by decide +kernel)
theorem t255_25 : z_ft 255 25 = some (.goto 4, 3, none, [], 29, 0, 0, 0) := z_ftd (by decide +kernel)
theorem t255_28 : z_ft 255 28 = some (.iconst 0, 1, none, [], 0, 0, 0, 0) := z_ftd (by decide +kernel)
theorem t255_29 : z_ft 255 29 = some (.iastore, 1, (some [0, 1, 2, 3]), [], 0, 0, 0, 0) := z_ftd (by decide +kernel)
theorem t255_30 : z_ft 255 30 = some (.iload_n 2, 1, none, [], 0, 0, 0, 0) := z_ftd (by decide +kernel)
theorem t255_31 : z_ft 255 31 = some (.aload_n 0, 1, none, [], 0, 0, 0, 0) := z_ftd (by decide +kernel)
theorem t255_32 : z_ft 255 32 = some (.getfield 216, 3, none, [], 12, 67, 68, 0) := z_ftd (by decide +kernel)
theorem t255_35 : z_ft 255 35 = some (.iload_n 3, 1, none, [], 0, 0, 0, 0) := z_ftd (by decide +kernel)
theorem t255_36 : z_ft 255 36 = some (.iaload, 1, none, [], 0, 0, 0, 0) := z_ftd (by decide +kernel)
theorem t255_37 : z_ft 255 37 = some (.iadd, 1, none, [], 0, 0, 0, 0) := z_ftd (by decide +kernel)
theorem t255_38 : z_ft 255 38 = some (.istore_n 2, 1, none, [], 0, 0, 0, 0) := z_ftd (by decide +kernel)
theorem t255_39 : z_ft 255 39 = some (.iinc 3 1, 3, none, [], 0, 0, 0, 0) := z_ftd (by decide +kernel)
theorem t255_42 : z_ft 255 42 = some (.goto (-38), 3, none, [], 4, 0, 0, 0) := z_ftd (by decide +kernel)
theorem t255_45 : z_ft 255 45 = some (.aload_n 0, 1, none, [], 0, 0, 0, 0) := z_ftd (by decide +kernel)
theorem t255_46 : z_ft 255 46 = some (.aload_n 0, 1, none, [], 0, 0, 0, 0) := z_ftd (by decide +kernel)
theorem t255_47 : z_ft 255 47 = some (.getfield 60, 3, none, [], 12, 16, 17, 0) := z_ftd (by decide +kernel)
theorem t255_50 : z_ft 255 50 = some (.aload_n 0, 1, none, [], 0, 0, 0, 0) := z_ftd (by decide +kernel)
theorem t255_51 : z_ft 255 51 = some (.getfield 51, 3, none, [], 12, 13, 14, 0) := z_ftd (by decide +kernel)
theorem t255_54 : z_ft 255 54 = some (.iaload, 1, none, [], 0, 0, 0, 0) := z_ftd (by decide +kernel)
theorem t255_55 : z_ft 255 55 = some (.putfield 183, 3, none, [], 12, 56, 57, 0) := z_ftd (by decide +kernel)
theorem t255_58 : z_ft 255 58 = some (.iload_n 2, 1, none, [], 0, 0, 0, 0) := z_ftd (by decide +kernel)
theorem t255_59 : z_ft 255 59 = some (.ireturn, 1, none, [], 0, 0, 0, 0) := z_ftd (by decide +kernel)
noncomputable def b255_4 (d : Nat) (y1 : Int32) (y2 : Int32) (y3 : Int32) (S : z_S) : Option (Int32 × z_S) := zk kI z_X0 d 255 4 [.ref 396, .int y1, .int y2, .int y3] [] S
noncomputable def b255_29 (d : Nat) (y1 : Int32) (y2 : Int32) (y3 : Int32) (s0 : Int32) (s1 : Int32) (S : z_S) : Option (Int32 × z_S) := zk kI z_X0 d 255 29 [.ref 396, .int y1, .int y2, .int y3] [.int s0, .int s1, .ref 438] S
theorem b255_4_eq (d : Nat) (y1 : Int32) (y2 : Int32) (y3 : Int32) (S : z_S) (hW : z_W S)  : b255_4 d y1 y2 y3 S = (if (40 : Int32) < y3 then (if z_in (gI S 396 13) 2 then some (y2, sI S 396 56 (gI S 400 ((gI S 396 13)).toNatClampNeg)) else none) else (zb (fI d 254 [.ref 396, .int y1, .int y3] S) fun v3 S4 => (if v3 = (0 : Int32) then b255_29 d y1 y2 y3 (0 : Int32) y3 S4 else b255_29 d y1 y2 y3 (1 : Int32) y3 S4))) := by
  unfold b255_4
  refine (k_iload_n t255_4 rfl rfl).trans ?_
  refine (k_bipush t255_5 rfl zcb_40).trans ?_
  refine (k_icmp_gt t255_7 rfl).trans (z_ite (fun g1 => ?_) (fun g1 => ?_))
  · refine (k_aload_n t255_45 rfl rfl).trans ?_
    refine (k_aload_n t255_46 rfl rfl).trans ?_
    refine (k_getR t255_47 rfl hW zK_396 (by decide) (by decide) (zF_396_16 hW)).trans ?_
    refine (k_aload_n t255_50 rfl rfl).trans ?_
    refine (k_getI t255_51 rfl hW zK_396 (by decide) (by decide)).trans ?_
    refine (k_iald t255_54 rfl hW zK_400 zL_400).trans (z_ite (fun g2 => ?_) (fun _ => rfl))
    refine (k_putI t255_55 rfl hW zK_396 (by decide) (by decide) (by decide)).trans ?_
    refine (k_iload_n t255_58 rfl rfl).trans ?_
    exact k_ireturn t255_59 rfl (by decide)
  · refine (k_aload_n t255_10 rfl rfl).trans ?_
    refine (k_getR t255_11 rfl hW zK_396 (by decide) (by decide) (zF_396_67 hW)).trans ?_
    refine (k_iload_n t255_14 rfl rfl).trans ?_
    refine (k_aload_n t255_15 rfl rfl).trans ?_
    refine (k_iload_n t255_16 rfl rfl).trans ?_
    refine (k_iload_n t255_17 rfl rfl).trans ?_
    refine k_callI (as := [.ref 396, .int y1, .int y3]) (rest := [.int y3, .ref 438]) t255_18 rfl rfl (by decide) rfl rfl (Nat.le_of_ble_eq_true rfl) rfl (z_rcV hW (zK_396) (by decide)) (by decide) (Or.inr (by decide)) hW (fun v3 S4 hW4 => ?_)
    refine (k_if_eq t255_21 rfl).trans (z_ite (fun g5 => ?_) (fun g5 => ?_))
    · refine (k_iconst t255_28 rfl zci_0).trans ?_
      exact (zk_mk (ls' := [.ref 396, .int y1, .int y2, .int y3]) t255_29 rfl)
    · refine (k_iconst t255_24 rfl zci_1).trans ?_
      refine (k_goto t255_25 rfl).trans ?_
      exact (zk_mk (ls' := [.ref 396, .int y1, .int y2, .int y3]) t255_29 rfl)
theorem b255_29_eq (d : Nat) (y1 : Int32) (y2 : Int32) (y3 : Int32) (s0 : Int32) (s1 : Int32) (S : z_S) (hW : z_W S)  : b255_29 d y1 y2 y3 s0 s1 S = (if z_in s1 41 then (if z_in y3 41 then b255_4 d y1 (y2 + (gI (sI S 438 (s1).toNatClampNeg s0) 438 (y3).toNatClampNeg)) (y3 + (1 : Int32)) (sI S 438 (s1).toNatClampNeg s0) else none) else none) := by
  unfold b255_29
  refine (k_iast t255_29 rfl hW zK_438 zL_438).trans (z_ite (fun g6 => ?_) (fun _ => rfl))
  refine (k_iload_n t255_30 rfl rfl).trans ?_
  refine (k_aload_n t255_31 rfl rfl).trans ?_
  refine (k_getR t255_32 rfl hW.sI zK_396 (by decide) (by decide) (zF_396_67 hW.sI)).trans ?_
  refine (k_iload_n t255_35 rfl rfl).trans ?_
  refine (k_iald t255_36 rfl hW.sI zK_438 zL_438).trans (z_ite (fun g7 => ?_) (fun _ => rfl))
  refine (k_iadd t255_37 rfl).trans ?_
  refine (k_istore_n (ls' := [.ref 396, .int y1, .int (y2 + (gI (sI S 438 (s1).toNatClampNeg s0) 438 (y3).toNatClampNeg)), .int y3]) t255_38 rfl rfl).trans ?_
  refine (k_iinc (b := (y3 + (1 : Int32))) (ls' := [.ref 396, .int y1, .int (y2 + (gI (sI S 438 (s1).toNatClampNeg s0) 438 (y3).toNatClampNeg)), .int (y3 + (1 : Int32))]) t255_39 rfl rfl (by rw [zci_1]) rfl).trans ?_
  refine (k_goto t255_42 rfl).trans ?_
  exact (zk_mk (ls' := [.ref 396, .int y1, .int (y2 + (gI (sI S 438 (s1).toNatClampNeg s0) 438 (y3).toNatClampNeg)), .int (y3 + (1 : Int32))]) t255_4 rfl)
-- X12_leavesSteps
theorem e255 (d : Nat) (x1 : Int32) (S : z_S) (hW : z_W S)  : fI (d + 1) 255 [.ref 396, .int x1] S = b255_4 d x1 (0 : Int32) (1 : Int32) S := by
  refine (fI_en (Nat.le_of_ble_eq_true rfl) rfl).trans ?_
  refine (k_iconst t255_0 rfl zci_0).trans ?_
  refine (k_istore_n (ls' := [.ref 396, .int x1, .int (0 : Int32), z_j]) t255_1 rfl rfl).trans ?_
  refine (k_iconst t255_2 rfl zci_1).trans ?_
  refine (k_istore_n (ls' := [.ref 396, .int x1, .int (0 : Int32), .int (1 : Int32)]) t255_3 rfl rfl).trans ?_
  exact (zk_mk (ls' := [.ref 396, .int x1, .int (0 : Int32), .int (1 : Int32)]) t255_4 rfl)
theorem t256_0 : z_ft 256 0 = some (.aload_n 0, 1, none, [], 0, 0, 0, 0) := z_ftd (by decide +kernel)
theorem t256_1 : z_ft 256 1 = some (.iload_n 1, 1, none, [], 0, 0, 0, 0) := z_ftd (by decide +kernel)
theorem t256_2 : z_ft 256 2 = some (.invokevirtual 495, 3, none, [], 228, 0, 156, 0) := z_ftd (by decide +kernel)
theorem t256_5 : z_ft 256 5 = some (.ifCond .eq 17, 3, none, [], 22, 0, 0, 0) := z_ftd (by decide +kernel)
theorem t256_8 : z_ft 256 8 = some (.aload_n 0, 1, none, [], 0, 0, 0, 0) := z_ftd (by decide +kernel)
theorem t256_9 : z_ft 256 9 = some (.iconst 0, 1, none, [], 0, 0, 0, 0) := z_ftd (by decide +kernel)
theorem t256_10 : z_ft 256 10 = some (.iload_n 1, 1, none, [], 0, 0, 0, 0) := z_ftd (by decide +kernel)
theorem t256_11 : z_ft 256 11 = some (.invokevirtual 506, 3, none, [], 215, 0, 161, 0) := z_ftd (by decide +kernel)
theorem t256_14 : z_ft 256 14 = some (.ifCond .eq 8, 3, none, [], 22, 0, 0, 0) := z_ftd (by decide +kernel)
theorem t256_17 : z_ft 256 17 = some (.iload_n 2, 1, none, [], 0, 0, 0, 0) := z_ftd (by decide +kernel)
theorem t256_18 : z_ft 256 18 = some (.iconst (-1), 1, none, [], 0, 0, 0, 0) := z_ftd (by decide +kernel)
theorem t256_19 : z_ft 256 19 = some (.if_icmp .ge 5, 3, none, [], 24, 0, 0, 0) := z_ftd (by decide +kernel)
theorem t256_22 : z_ft 256 22 = some (.iconst (-1), 1, (some []), [], 0, 0, 0, 0) := z_ftd (by decide +kernel)
theorem t256_23 : z_ft 256 23 = some (.ireturn, 1, none, [], 0, 0, 0, 0) := z_ftd (by decide +kernel)
theorem t256_24 : z_ft 256 24 = some (.aload_n 0, 1, none, [], 0, 0, 0, 0) := z_ftd (by decide +kernel)
theorem t256_25 : z_ft 256 25 = some (.iload_n 1, 1, none, [], 0, 0, 0, 0) := z_ftd (by decide +kernel)
theorem t256_26 : z_ft 256 26 = some (.invokevirtual 533, 3, none, [], 255, 0, 177, 0) := z_ftd (by decide +kernel)
theorem t256_29 : z_ft 256 29 = some (.istore_n 3, 1, none, [], 0, 0, 0, 0) := z_ftd (by decide +kernel)
theorem t256_30 : z_ft 256 30 = some (.iload_n 2, 1, none, [], 0, 0, 0, 0) := z_ftd (by decide +kernel)
theorem t256_31 : z_ft 256 31 = some (.iconst (-1), 1, none, [], 0, 0, 0, 0) := z_ftd (by decide +kernel)
theorem t256_32 : z_ft 256 32 = some (.if_icmp .ne 5, 3, none, [], 37, 0, 0, 0) := z_ftd (by decide +kernel)
theorem t256_35 : z_ft 256 35 = some (.iload_n 3, 1, none, [], 0, 0, 0, 0) := z_ftd (by decide +kernel)
theorem t256_36 : z_ft 256 36 = some (.ireturn, 1, none, [], 0, 0, 0, 0) := z_ftd (by decide +kernel)
theorem t256_37 : z_ft 256 37 = some (.iconst 0, 1, none, [], 0, 0, 0, 0) := z_ftd (by decide +kernel)
theorem t256_38 : z_ft 256 38 = some (.istore 4, 2, none, [], 0, 0, 0, 0) := z_ftd (by decide +kernel)
theorem t256_40 : z_ft 256 40 = some (.iconst 1, 1, none, [], 0, 0, 0, 0) := z_ftd (by decide +kernel)
theorem t256_41 : z_ft 256 41 = some (.istore 5, 2, none, [], 0, 0, 0, 0) := z_ftd (by decide +kernel)
theorem t256_43 : z_ft 256 43 = some (.iload 5, 2, (some [0, 2, 4, 5]), [], 0, 0, 0, 0) := z_ftd (by decide +kernel)
theorem t256_45 : z_ft 256 45 = some (.bipush 40, 2, none, [], 0, 0, 0, 0) := z_ftd (by decide +kernel)
theorem t256_47 : z_ft 256 47 = some (.if_icmp .gt 41, 3, none, [], 88, 0, 0, 0) := z_ftd (by decide +kernel)
theorem t256_50 : z_ft 256 50 = some (.aload_n 0, 1, none, [], 0, 0, 0, 0) := z_ftd (by decide +kernel)
theorem t256_51 : z_ft 256 51 = some (.getfield 216, 3, none, [], 12, 67, 68, 0) := z_ftd (by decide +kernel)
theorem t256_54 : z_ft 256 54 = some (.iload 5, 2, none, [], 0, 0, 0, 0) := z_ftd (by decide +kernel)
theorem t256_56 : z_ft 256 56 = some (.iaload, 1, none, [], 0, 0, 0, 0) := z_ftd (by decide +kernel)
theorem t256_57 : z_ft 256 57 = some (.iconst 1, 1, none, [], 0, 0, 0, 0) := z_ftd (by decide +kernel)
theorem t256_58 : z_ft 256 58 = some (.if_icmp .ne 12, 3, none, [], 70, 0, 0, 0) := z_ftd (by decide +kernel)
theorem t256_61 : z_ft 256 61 = some (.iload 4, 2, none, [], 0, 0, 0, 0) := z_ftd (by decide +kernel)
theorem t256_63 : z_ft 256 63 = some (.iload_n 2, 1, none, [], 0, 0, 0, 0) := z_ftd (by decide +kernel)
theorem t256_64 : z_ft 256 64 = some (.if_icmp .ne 6, 3, none, [], 70, 0, 0, 0) := z_ftd (by decide +kernel)
theorem t256_67 : z_ft 256 67 = some (.iload 5, 2, none, [], 0, 0, 0, 0) := z_ftd (by decide +kernel)
theorem t256_69 : z_ft 256 69 = some (.ireturn, 1, none, [], 0, 0, 0, 0) := z_ftd (by decide +kernel)
theorem t256_70 : z_ft 256 70 = some (.iload 4, 2, (some [0, 2, 4, 5]), [], 0, 0, 0, 0) := z_ftd (by decide +kernel)
theorem t256_72 : z_ft 256 72 = some (.aload_n 0, 1, none, [], 0, 0, 0, 0) := z_ftd (by decide +kernel)
theorem t256_73 : z_ft 256 73 = some (.getfield 216, 3, none, [], 12, 67, 68, 0) := z_ftd (by decide +kernel)
theorem t256_76 : z_ft 256 76 = some (.iload 5, 2, none, [], 0, 0, 0, 0) := z_ftd (by decide +kernel)
theorem t256_78 : z_ft 256 78 = some (.iaload, 1, none, [], 0, 0, 0, 0) := z_ftd (by decide +kernel)
theorem t256_79 : z_ft 256 79 = some (.iadd, 1, none, [], 0, 0, 0, 0) := z_ftd (by decide +kernel)
theorem t256_80 : z_ft 256 80 = some (.istore 4, 2, none, [], 0, 0, 0, 0) := z_ftd (by decide +kernel)
theorem t256_82 : z_ft 256 82 = some (.iinc 5 1, 3, none, [], 0, 0, 0, 0) := z_ftd (by decide +kernel)
theorem t256_85 : z_ft 256 85 = some (.goto (-42), 3, none, [], 43, 0, 0, 0) := z_ftd (by decide +kernel)
theorem t256_88 : z_ft 256 88 = some (.iconst (-1), 1, none, [], 0, 0, 0, 0) := z_ftd (by decide +kernel)
theorem t256_89 : z_ft 256 89 = some (.ireturn, 1, none, [], 0, 0, 0, 0) := z_ftd (by decide +kernel)
noncomputable def b256_43 (d : Nat) (y2 : Int32) (y4 : Int32) (y5 : Int32) (S : z_S) : Option (Int32 × z_S) := zk kI z_X0 d 256 43 [.ref 396, z_j, .int y2, z_j, .int y4, .int y5] [] S
noncomputable def b256_70 (d : Nat) (y2 : Int32) (y4 : Int32) (y5 : Int32) (S : z_S) : Option (Int32 × z_S) := zk kI z_X0 d 256 70 [.ref 396, z_j, .int y2, z_j, .int y4, .int y5] [] S
theorem b256_43_eq (d : Nat) (y2 : Int32) (y4 : Int32) (y5 : Int32) (S : z_S) (hW : z_W S)  : b256_43 d y2 y4 y5 S = (if (40 : Int32) < y5 then some ((-1 : Int32), S) else (if z_in y5 41 then (if ¬ (gI S 438 (y5).toNatClampNeg) = (1 : Int32) then b256_70 d y2 y4 y5 S else (if ¬ y4 = y2 then b256_70 d y2 y4 y5 S else some (y5, S))) else none)) := by
  unfold b256_43
  refine (k_iload t256_43 rfl rfl).trans ?_
  refine (k_bipush t256_45 rfl zcb_40).trans ?_
  refine (k_icmp_gt t256_47 rfl).trans (z_ite (fun g11 => ?_) (fun g11 => ?_))
  · refine (k_iconst t256_88 rfl zci_m1).trans ?_
    exact k_ireturn t256_89 rfl (by decide)
  · refine (k_aload_n t256_50 rfl rfl).trans ?_
    refine (k_getR t256_51 rfl hW zK_396 (by decide) (by decide) (zF_396_67 hW)).trans ?_
    refine (k_iload t256_54 rfl rfl).trans ?_
    refine (k_iald t256_56 rfl hW zK_438 zL_438).trans (z_ite (fun g12 => ?_) (fun _ => rfl))
    refine (k_iconst t256_57 rfl zci_1).trans ?_
    refine (k_icmp_ne t256_58 rfl).trans (z_ite (fun g13 => ?_) (fun g13 => ?_))
    · exact (zk_mk (ls' := [.ref 396, z_j, .int y2, z_j, .int y4, .int y5]) t256_70 rfl)
    · refine (k_iload t256_61 rfl rfl).trans ?_
      refine (k_iload_n t256_63 rfl rfl).trans ?_
      refine (k_icmp_ne t256_64 rfl).trans (z_ite (fun g14 => ?_) (fun g14 => ?_))
      · exact (zk_mk (ls' := [.ref 396, z_j, .int y2, z_j, .int y4, .int y5]) t256_70 rfl)
      · refine (k_iload t256_67 rfl rfl).trans ?_
        exact k_ireturn t256_69 rfl (by decide)
theorem b256_70_eq (d : Nat) (y2 : Int32) (y4 : Int32) (y5 : Int32) (S : z_S) (hW : z_W S)  : b256_70 d y2 y4 y5 S = (if z_in y5 41 then b256_43 d y2 (y4 + (gI S 438 (y5).toNatClampNeg)) (y5 + (1 : Int32)) S else none) := by
  unfold b256_70
  refine (k_iload t256_70 rfl rfl).trans ?_
  refine (k_aload_n t256_72 rfl rfl).trans ?_
  refine (k_getR t256_73 rfl hW zK_396 (by decide) (by decide) (zF_396_67 hW)).trans ?_
  refine (k_iload t256_76 rfl rfl).trans ?_
  refine (k_iald t256_78 rfl hW zK_438 zL_438).trans (z_ite (fun g15 => ?_) (fun _ => rfl))
  refine (k_iadd t256_79 rfl).trans ?_
  refine (k_istore (ls' := [.ref 396, z_j, .int y2, z_j, .int (y4 + (gI S 438 (y5).toNatClampNeg)), .int y5]) t256_80 rfl rfl).trans ?_
  refine (k_iinc (b := (y5 + (1 : Int32))) (ls' := [.ref 396, z_j, .int y2, z_j, .int (y4 + (gI S 438 (y5).toNatClampNeg)), .int (y5 + (1 : Int32))]) t256_82 rfl rfl (by rw [zci_1]) rfl).trans ?_
  refine (k_goto t256_85 rfl).trans ?_
  exact (zk_mk (ls' := [.ref 396, z_j, .int y2, z_j, .int (y4 + (gI S 438 (y5).toNatClampNeg)), .int (y5 + (1 : Int32))]) t256_43 rfl)
-- X12_stepped
theorem e256 (d : Nat) (x1 : Int32) (x2 : Int32) (S : z_S) (hW : z_W S)  : fI (d + 1) 256 [.ref 396, .int x1, .int x2] S = (zb (fI d 228 [.ref 396, .int x1] S) fun v1 S2 => (if v1 = (0 : Int32) then some ((-1 : Int32), S2) else (zb (fI d 215 [.ref 396, .int (0 : Int32), .int x1] S2) fun v4 S5 => (if v4 = (0 : Int32) then some ((-1 : Int32), S5) else (if (-1 : Int32) ≤ x2 then (zb (fI d 255 [.ref 396, .int x1] S5) fun v8 S9 => (if ¬ x2 = (-1 : Int32) then b256_43 d x2 (0 : Int32) (1 : Int32) S9 else some (v8, S9))) else some ((-1 : Int32), S5)))))) := by
  refine (fI_en (Nat.le_of_ble_eq_true rfl) rfl).trans ?_
  refine (k_aload_n t256_0 rfl rfl).trans ?_
  refine (k_iload_n t256_1 rfl rfl).trans ?_
  refine k_callI (as := [.ref 396, .int x1]) (rest := []) t256_2 rfl rfl (by decide) rfl rfl (Nat.le_of_ble_eq_true rfl) rfl (z_rcV hW (zK_396) (by decide)) (by decide) (Or.inr (by decide)) hW (fun v1 S2 hW2 => ?_)
  refine (k_if_eq t256_5 rfl).trans (z_ite (fun g3 => ?_) (fun g3 => ?_))
  · refine (zk_mk (ls' := [z_j, z_j, z_j, z_j, z_j, z_j]) t256_22 rfl).trans ?_
    refine (k_iconst t256_22 rfl zci_m1).trans ?_
    exact k_ireturn t256_23 rfl (by decide)
  · refine (k_aload_n t256_8 rfl rfl).trans ?_
    refine (k_iconst t256_9 rfl zci_0).trans ?_
    refine (k_iload_n t256_10 rfl rfl).trans ?_
    refine k_callI (as := [.ref 396, .int (0 : Int32), .int x1]) (rest := []) t256_11 rfl rfl (by decide) rfl rfl (Nat.le_of_ble_eq_true rfl) rfl (z_rcV hW2 (zK_396) (by decide)) (by decide) (Or.inr (by decide)) hW2 (fun v4 S5 hW5 => ?_)
    refine (k_if_eq t256_14 rfl).trans (z_ite (fun g6 => ?_) (fun g6 => ?_))
    · refine (zk_mk (ls' := [z_j, z_j, z_j, z_j, z_j, z_j]) t256_22 rfl).trans ?_
      refine (k_iconst t256_22 rfl zci_m1).trans ?_
      exact k_ireturn t256_23 rfl (by decide)
    · refine (k_iload_n t256_17 rfl rfl).trans ?_
      refine (k_iconst t256_18 rfl zci_m1).trans ?_
      refine (k_icmp_ge t256_19 rfl).trans (z_ite (fun g7 => ?_) (fun g7 => ?_))
      · refine (k_aload_n t256_24 rfl rfl).trans ?_
        refine (k_iload_n t256_25 rfl rfl).trans ?_
        refine k_callI (as := [.ref 396, .int x1]) (rest := []) t256_26 rfl rfl (by decide) rfl rfl (Nat.le_of_ble_eq_true rfl) rfl (z_rcV hW5 (zK_396) (by decide)) (by decide) (Or.inl (by decide)) hW5 (fun v8 S9 hW9 => ?_)
        refine (k_istore_n (ls' := [.ref 396, .int x1, .int x2, .int v8, z_j, z_j]) t256_29 rfl rfl).trans ?_
        refine (k_iload_n t256_30 rfl rfl).trans ?_
        refine (k_iconst t256_31 rfl zci_m1).trans ?_
        refine (k_icmp_ne t256_32 rfl).trans (z_ite (fun g10 => ?_) (fun g10 => ?_))
        · refine (k_iconst t256_37 rfl zci_0).trans ?_
          refine (k_istore (ls' := [.ref 396, .int x1, .int x2, .int v8, .int (0 : Int32), z_j]) t256_38 rfl rfl).trans ?_
          refine (k_iconst t256_40 rfl zci_1).trans ?_
          refine (k_istore (ls' := [.ref 396, .int x1, .int x2, .int v8, .int (0 : Int32), .int (1 : Int32)]) t256_41 rfl rfl).trans ?_
          exact (zk_mk (ls' := [.ref 396, z_j, .int x2, z_j, .int (0 : Int32), .int (1 : Int32)]) t256_43 rfl)
        · refine (k_iload_n t256_35 rfl rfl).trans ?_
          exact k_ireturn t256_36 rfl (by decide)
      · refine (zk_mk (ls' := [z_j, z_j, z_j, z_j, z_j, z_j]) t256_22 rfl).trans ?_
        refine (k_iconst t256_22 rfl zci_m1).trans ?_
        exact k_ireturn t256_23 rfl (by decide)
theorem t257_0 : z_ft 257 0 = some (.iconst 0, 1, none, [], 0, 0, 0, 0) := z_ftd (by decide +kernel)
theorem t257_1 : z_ft 257 1 = some (.istore_n 3, 1, none, [], 0, 0, 0, 0) := z_ftd (by decide +kernel)
theorem t257_2 : z_ft 257 2 = some (.iload_n 3, 1, (some [0, 1, 2, 3]), [], 0, 0, 0, 0) := z_ftd (by decide +kernel)
theorem t257_3 : z_ft 257 3 = some (.bipush 16, 2, none, [], 0, 0, 0, 0) := z_ftd (by decide +kernel)
theorem t257_5 : z_ft 257 5 = some (.if_icmp .gt 16, 3, none, [], 21, 0, 0, 0) := z_ftd (by decide +kernel)
theorem t257_8 : z_ft 257 8 = some (.aload_n 0, 1, none, [], 0, 0, 0, 0) := z_ftd (by decide +kernel)
theorem t257_9 : z_ft 257 9 = some (.getfield 222, 3, none, [], 12, 69, 70, 0) := z_ftd (by decide +kernel)
theorem t257_12 : z_ft 257 12 = some (.iload_n 3, 1, none, [], 0, 0, 0, 0) := z_ftd (by decide +kernel)
theorem t257_13 : z_ft 257 13 = some (.iconst 0, 1, none, [], 0, 0, 0, 0) := z_ftd (by decide +kernel)
theorem t257_14 : z_ft 257 14 = some (.iastore, 1, none, [], 0, 0, 0, 0) := z_ftd (by decide +kernel)
theorem t257_15 : z_ft 257 15 = some (.iinc 3 1, 3, none, [], 0, 0, 0, 0) := z_ftd (by decide +kernel)
theorem t257_18 : z_ft 257 18 = some (.goto (-16), 3, none, [], 2, 0, 0, 0) := z_ftd (by decide +kernel)
theorem t257_21 : z_ft 257 21 = some (.iconst 0, 1, none, [], 0, 0, 0, 0) := z_ftd (by decide +kernel)
theorem t257_22 : z_ft 257 22 = some (.istore_n 3, 1, none, [], 0, 0, 0, 0) := z_ftd (by decide +kernel)
theorem t257_23 : z_ft 257 23 = some (.iconst 1, 1, none, [], 0, 0, 0, 0) := z_ftd (by decide +kernel)
theorem t257_24 : z_ft 257 24 = some (.istore 4, 2, none, [], 0, 0, 0, 0) := z_ftd (by decide +kernel)
theorem t257_26 : z_ft 257 26 = some (.iload 4, 2, (some [0, 1, 2, 3, 4]), [], 0, 0, 0, 0) := z_ftd (by decide +kernel)
theorem t257_28 : z_ft 257 28 = some (.bipush 40, 2, none, [], 0, 0, 0, 0) := z_ftd (by decide +kernel)
theorem t257_30 : z_ft 257 30 = some (.if_icmp .gt 77, 3, none, [], 107, 0, 0, 0) := z_ftd (by decide +kernel)
theorem t257_33 : z_ft 257 33 = some (.aload_n 0, 1, none, [], 0, 0, 0, 0) := z_ftd (by decide +kernel)
theorem t257_34 : z_ft 257 34 = some (.getfield 216, 3, none, [], 12, 67, 68, 0) := z_ftd (by decide +kernel)
theorem t257_37 : z_ft 257 37 = some (.iload 4, 2, none, [], 0, 0, 0, 0) := z_ftd (by decide +kernel)
theorem t257_39 : z_ft 257 39 = some (.iaload, 1, none, [], 0, 0, 0, 0) := z_ftd (by decide +kernel)
theorem t257_40 : z_ft 257 40 = some (.ifCond .ne 6, 3, none, [], 46, 0, 0, 0) := z_ftd (by decide +kernel)
theorem t257_43 : z_ft 257 43 = some (.goto 58, 3, none, [], 101, 0, 0, 0) := z_ftd (by decide +kernel)
theorem t257_46 : z_ft 257 46 = some (.aload_n 0, 1, none, [], 0, 0, 0, 0) := z_ftd (by decide +kernel)
theorem t257_47 : z_ft 257 47 = some (.getfield 219, 3, none, [], 12, 68, 69, 0) := z_ftd (by decide +kernel)
theorem t257_50 : z_ft 257 50 = some (.bipush 16, 2, none, [], 0, 0, 0, 0) := z_ftd (by decide +kernel)
theorem t257_52 : z_ft 257 52 = some (.bipush 31, 2, none, [], 0, 0, 0, 0) := z_ftd (by decide +kernel)
theorem t257_54 : z_ft 257 54 = some (.iload 4, 2, none, [], 0, 0, 0, 0) := z_ftd (by decide +kernel)
theorem t257_56 : z_ft 257 56 = some (.imul, 1, none, [], 0, 0, 0, 0) := z_ftd (by decide +kernel)
theorem t257_57 : z_ft 257 57 = some (.iload_n 1, 1, none, [], 0, 0, 0, 0) := z_ftd (by decide +kernel)
theorem t257_58 : z_ft 257 58 = some (.iadd, 1, none, [], 0, 0, 0, 0) := z_ftd (by decide +kernel)
theorem t257_59 : z_ft 257 59 = some (.imul, 1, none, [], 0, 0, 0, 0) := z_ftd (by decide +kernel)
theorem t257_60 : z_ft 257 60 = some (.iload_n 2, 1, none, [], 0, 0, 0, 0) := z_ftd (by decide +kernel)
theorem t257_61 : z_ft 257 61 = some (.iadd, 1, none, [], 0, 0, 0, 0) := z_ftd (by decide +kernel)
theorem t257_62 : z_ft 257 62 = some (.iaload, 1, none, [], 0, 0, 0, 0) := z_ftd (by decide +kernel)
theorem t257_63 : z_ft 257 63 = some (.iconst 1, 1, none, [], 0, 0, 0, 0) := z_ftd (by decide +kernel)
theorem t257_64 : z_ft 257 64 = some (.iadd, 1, none, [], 0, 0, 0, 0) := z_ftd (by decide +kernel)
theorem t257_65 : z_ft 257 65 = some (.istore 5, 2, none, [], 0, 0, 0, 0) := z_ftd (by decide +kernel)
theorem t257_67 : z_ft 257 67 = some (.aload_n 0, 1, none, [], 0, 0, 0, 0) := z_ftd (by decide +kernel)
theorem t257_68 : z_ft 257 68 = some (.getfield 222, 3, none, [], 12, 69, 70, 0) := z_ftd (by decide +kernel)
theorem t257_71 : z_ft 257 71 = some (.iload 5, 2, none, [], 0, 0, 0, 0) := z_ftd (by decide +kernel)
theorem t257_73 : z_ft 257 73 = some (.dup2, 1, none, [], 0, 0, 0, 0) := z_ftd (by decide +kernel)
theorem t257_74 : z_ft 257 74 = some (.iaload, 1, none, [], 0, 0, 0, 0) := z_ftd (by decide +kernel)
theorem t257_75 : z_ft 257 75 = some (.iconst 1, 1, none, [], 0, 0, 0, 0) := z_ftd (by decide +kernel)
theorem t257_76 : z_ft 257 76 = some (.iadd, 1, none, [], 0, 0, 0, 0) := z_ftd (by decide +kernel)
theorem t257_77 : z_ft 257 77 = some (.iastore, 1, none, [], 0, 0, 0, 0) := z_ftd (by decide +kernel)
theorem t257_78 : z_ft 257 78 = some (.aload_n 0, 1, none, [], 0, 0, 0, 0) := z_ftd (by decide +kernel)
theorem t257_79 : z_ft 257 79 = some (.getfield 222, 3, none, [], 12, 69, 70, 0) := z_ftd (by decide +kernel)
theorem t257_82 : z_ft 257 82 = some (.iload 5, 2, none, [], 0, 0, 0, 0) := z_ftd (by decide +kernel)
theorem t257_84 : z_ft 257 84 = some (.iaload, 1, none, [], 0, 0, 0, 0) := z_ftd (by decide +kernel)
theorem t257_85 : z_ft 257 85 = some (.iload_n 3, 1, none, [], 0, 0, 0, 0) := z_ftd (by decide +kernel)
theorem t257_86 : z_ft 257 86 = some (.if_icmp .le 13, 3, none, [], 99, 0, 0, 0) := z_ftd (by decide +kernel)
theorem t257_89 : z_ft 257 89 = some (.aload_n 0, 1, none, [], 0, 0, 0, 0) := z_ftd (by decide +kernel)
theorem t257_90 : z_ft 257 90 = some (.getfield 222, 3, none, [], 12, 69, 70, 0) := z_ftd (by decide +kernel)
theorem t257_93 : z_ft 257 93 = some (.iload 5, 2, none, [], 0, 0, 0, 0) := z_ftd (by decide +kernel)
theorem t257_95 : z_ft 257 95 = some (.iaload, 1, none, [], 0, 0, 0, 0) := z_ftd (by decide +kernel)
theorem t257_96 : z_ft 257 96 = some (.goto 4, 3, none, [], 100, 0, 0, 0) := z_ftd (by decide +kernel)
theorem t257_99 : z_ft 257 99 = some (.iload_n 3, 1, none, [], 0, 0, 0, 0) := z_ftd (by decide +kernel)
theorem t257_100 : z_ft 257 100 = some (.istore_n 3, 1, (some [0, 1, 2, 4]), [], 0, 0, 0, 0) := z_ftd (by decide +kernel)
theorem t257_101 : z_ft 257 101 = some (.iinc 4 1, 3, (some [0, 1, 2, 3, 4]), [], 0, 0, 0, 0) := z_ftd (by decide +kernel)
theorem t257_104 : z_ft 257 104 = some (.goto (-78), 3, none, [], 26, 0, 0, 0) := z_ftd (by decide +kernel)
theorem t257_107 : z_ft 257 107 = some (.iload_n 3, 1, none, [], 0, 0, 0, 0) := z_ftd (by decide +kernel)
theorem t257_108 : z_ft 257 108 = some (.ireturn, 1, none, [], 0, 0, 0, 0) := z_ftd (by decide +kernel)
noncomputable def b257_2 (d : Nat) (y1 : Int32) (y2 : Int32) (y3 : Int32) (S : z_S) : Option (Int32 × z_S) := zk kI z_X0 d 257 2 [.ref 396, .int y1, .int y2, .int y3, z_j, z_j] [] S
noncomputable def b257_26 (d : Nat) (y1 : Int32) (y2 : Int32) (y3 : Int32) (y4 : Int32) (S : z_S) : Option (Int32 × z_S) := zk kI z_X0 d 257 26 [.ref 396, .int y1, .int y2, .int y3, .int y4, z_j] [] S
noncomputable def b257_100 (d : Nat) (y1 : Int32) (y2 : Int32) (y4 : Int32) (s0 : Int32) (S : z_S) : Option (Int32 × z_S) := zk kI z_X0 d 257 100 [.ref 396, .int y1, .int y2, z_j, .int y4, z_j] [.int s0] S
noncomputable def b257_101 (d : Nat) (y1 : Int32) (y2 : Int32) (y3 : Int32) (y4 : Int32) (S : z_S) : Option (Int32 × z_S) := zk kI z_X0 d 257 101 [.ref 396, .int y1, .int y2, .int y3, .int y4, z_j] [] S
theorem b257_2_eq (d : Nat) (y1 : Int32) (y2 : Int32) (y3 : Int32) (S : z_S) (hW : z_W S)  : b257_2 d y1 y2 y3 S = (if (16 : Int32) < y3 then b257_26 d y1 y2 (0 : Int32) (1 : Int32) S else (if z_in y3 17 then b257_2 d y1 y2 (y3 + (1 : Int32)) (sI S 440 (y3).toNatClampNeg (0 : Int32)) else none)) := by
  unfold b257_2
  refine (k_iload_n t257_2 rfl rfl).trans ?_
  refine (k_bipush t257_3 rfl zcb_16).trans ?_
  refine (k_icmp_gt t257_5 rfl).trans (z_ite (fun g1 => ?_) (fun g1 => ?_))
  · refine (k_iconst t257_21 rfl zci_0).trans ?_
    refine (k_istore_n (ls' := [.ref 396, .int y1, .int y2, .int (0 : Int32), z_j, z_j]) t257_22 rfl rfl).trans ?_
    refine (k_iconst t257_23 rfl zci_1).trans ?_
    refine (k_istore (ls' := [.ref 396, .int y1, .int y2, .int (0 : Int32), .int (1 : Int32), z_j]) t257_24 rfl rfl).trans ?_
    exact (zk_mk (ls' := [.ref 396, .int y1, .int y2, .int (0 : Int32), .int (1 : Int32), z_j]) t257_26 rfl)
  · refine (k_aload_n t257_8 rfl rfl).trans ?_
    refine (k_getR t257_9 rfl hW zK_396 (by decide) (by decide) (zF_396_69 hW)).trans ?_
    refine (k_iload_n t257_12 rfl rfl).trans ?_
    refine (k_iconst t257_13 rfl zci_0).trans ?_
    refine (k_iast t257_14 rfl hW zK_440 zL_440).trans (z_ite (fun g2 => ?_) (fun _ => rfl))
    refine (k_iinc (b := (y3 + (1 : Int32))) (ls' := [.ref 396, .int y1, .int y2, .int (y3 + (1 : Int32)), z_j, z_j]) t257_15 rfl rfl (by rw [zci_1]) rfl).trans ?_
    refine (k_goto t257_18 rfl).trans ?_
    exact (zk_mk (ls' := [.ref 396, .int y1, .int y2, .int (y3 + (1 : Int32)), z_j, z_j]) t257_2 rfl)
theorem b257_26_eq (d : Nat) (y1 : Int32) (y2 : Int32) (y3 : Int32) (y4 : Int32) (S : z_S) (hW : z_W S)  : b257_26 d y1 y2 y3 y4 S = (if (40 : Int32) < y4 then some (y3, S) else (if z_in y4 41 then (if ¬ (gI S 438 (y4).toNatClampNeg) = (0 : Int32) then (if z_in (((16 : Int32) * (((31 : Int32) * y4) + y1)) + y2) 20336 then (if z_in ((gI S 439 ((((16 : Int32) * (((31 : Int32) * y4) + y1)) + y2)).toNatClampNeg) + (1 : Int32)) 17 then (if z_in ((gI S 439 ((((16 : Int32) * (((31 : Int32) * y4) + y1)) + y2)).toNatClampNeg) + (1 : Int32)) 17 then (if z_in ((gI S 439 ((((16 : Int32) * (((31 : Int32) * y4) + y1)) + y2)).toNatClampNeg) + (1 : Int32)) 17 then (if (gI (sI S 440 (((gI S 439 ((((16 : Int32) * (((31 : Int32) * y4) + y1)) + y2)).toNatClampNeg) + (1 : Int32))).toNatClampNeg ((gI S 440 (((gI S 439 ((((16 : Int32) * (((31 : Int32) * y4) + y1)) + y2)).toNatClampNeg) + (1 : Int32))).toNatClampNeg) + (1 : Int32))) 440 (((gI S 439 ((((16 : Int32) * (((31 : Int32) * y4) + y1)) + y2)).toNatClampNeg) + (1 : Int32))).toNatClampNeg) ≤ y3 then b257_100 d y1 y2 y4 y3 (sI S 440 (((gI S 439 ((((16 : Int32) * (((31 : Int32) * y4) + y1)) + y2)).toNatClampNeg) + (1 : Int32))).toNatClampNeg ((gI S 440 (((gI S 439 ((((16 : Int32) * (((31 : Int32) * y4) + y1)) + y2)).toNatClampNeg) + (1 : Int32))).toNatClampNeg) + (1 : Int32))) else (if z_in ((gI S 439 ((((16 : Int32) * (((31 : Int32) * y4) + y1)) + y2)).toNatClampNeg) + (1 : Int32)) 17 then b257_100 d y1 y2 y4 (gI (sI S 440 (((gI S 439 ((((16 : Int32) * (((31 : Int32) * y4) + y1)) + y2)).toNatClampNeg) + (1 : Int32))).toNatClampNeg ((gI S 440 (((gI S 439 ((((16 : Int32) * (((31 : Int32) * y4) + y1)) + y2)).toNatClampNeg) + (1 : Int32))).toNatClampNeg) + (1 : Int32))) 440 (((gI S 439 ((((16 : Int32) * (((31 : Int32) * y4) + y1)) + y2)).toNatClampNeg) + (1 : Int32))).toNatClampNeg) (sI S 440 (((gI S 439 ((((16 : Int32) * (((31 : Int32) * y4) + y1)) + y2)).toNatClampNeg) + (1 : Int32))).toNatClampNeg ((gI S 440 (((gI S 439 ((((16 : Int32) * (((31 : Int32) * y4) + y1)) + y2)).toNatClampNeg) + (1 : Int32))).toNatClampNeg) + (1 : Int32))) else none)) else none) else none) else none) else none) else b257_101 d y1 y2 y3 y4 S) else none)) := by
  unfold b257_26
  refine (k_iload t257_26 rfl rfl).trans ?_
  refine (k_bipush t257_28 rfl zcb_40).trans ?_
  refine (k_icmp_gt t257_30 rfl).trans (z_ite (fun g3 => ?_) (fun g3 => ?_))
  · refine (k_iload_n t257_107 rfl rfl).trans ?_
    exact k_ireturn t257_108 rfl (by decide)
  · refine (k_aload_n t257_33 rfl rfl).trans ?_
    refine (k_getR t257_34 rfl hW zK_396 (by decide) (by decide) (zF_396_67 hW)).trans ?_
    refine (k_iload t257_37 rfl rfl).trans ?_
    refine (k_iald t257_39 rfl hW zK_438 zL_438).trans (z_ite (fun g4 => ?_) (fun _ => rfl))
    refine (k_if_ne t257_40 rfl).trans (z_ite (fun g5 => ?_) (fun g5 => ?_))
    · refine (k_aload_n t257_46 rfl rfl).trans ?_
      refine (k_getR t257_47 rfl hW zK_396 (by decide) (by decide) (zF_396_68 hW)).trans ?_
      refine (k_bipush t257_50 rfl zcb_16).trans ?_
      refine (k_bipush t257_52 rfl zcb_31).trans ?_
      refine (k_iload t257_54 rfl rfl).trans ?_
      refine (k_imul t257_56 rfl).trans ?_
      refine (k_iload_n t257_57 rfl rfl).trans ?_
      refine (k_iadd t257_58 rfl).trans ?_
      refine (k_imul t257_59 rfl).trans ?_
      refine (k_iload_n t257_60 rfl rfl).trans ?_
      refine (k_iadd t257_61 rfl).trans ?_
      refine (k_iald t257_62 rfl hW zK_439 zL_439).trans (z_ite (fun g6 => ?_) (fun _ => rfl))
      refine (k_iconst t257_63 rfl zci_1).trans ?_
      refine (k_iadd t257_64 rfl).trans ?_
      refine (k_istore (ls' := [.ref 396, .int y1, .int y2, .int y3, .int y4, .int ((gI S 439 ((((16 : Int32) * (((31 : Int32) * y4) + y1)) + y2)).toNatClampNeg) + (1 : Int32))]) t257_65 rfl rfl).trans ?_
      refine (k_aload_n t257_67 rfl rfl).trans ?_
      refine (k_getR t257_68 rfl hW zK_396 (by decide) (by decide) (zF_396_69 hW)).trans ?_
      refine (k_iload t257_71 rfl rfl).trans ?_
      refine (k_dup2IR t257_73 rfl).trans ?_
      refine (k_iald t257_74 rfl hW zK_440 zL_440).trans (z_ite (fun g7 => ?_) (fun _ => rfl))
      refine (k_iconst t257_75 rfl zci_1).trans ?_
      refine (k_iadd t257_76 rfl).trans ?_
      refine (k_iast t257_77 rfl hW zK_440 zL_440).trans (z_ite (fun g8 => ?_) (fun _ => rfl))
      refine (k_aload_n t257_78 rfl rfl).trans ?_
      refine (k_getR t257_79 rfl hW.sI zK_396 (by decide) (by decide) (zF_396_69 hW.sI)).trans ?_
      refine (k_iload t257_82 rfl rfl).trans ?_
      refine (k_iald t257_84 rfl hW.sI zK_440 zL_440).trans (z_ite (fun g9 => ?_) (fun _ => rfl))
      refine (k_iload_n t257_85 rfl rfl).trans ?_
      refine (k_icmp_le t257_86 rfl).trans (z_ite (fun g10 => ?_) (fun g10 => ?_))
      · refine (k_iload_n t257_99 rfl rfl).trans ?_
        exact (zk_mk (ls' := [.ref 396, .int y1, .int y2, z_j, .int y4, z_j]) t257_100 rfl)
      · refine (k_aload_n t257_89 rfl rfl).trans ?_
        refine (k_getR t257_90 rfl hW.sI zK_396 (by decide) (by decide) (zF_396_69 hW.sI)).trans ?_
        refine (k_iload t257_93 rfl rfl).trans ?_
        refine (k_iald t257_95 rfl hW.sI zK_440 zL_440).trans (z_ite (fun g11 => ?_) (fun _ => rfl))
        refine (k_goto t257_96 rfl).trans ?_
        exact (zk_mk (ls' := [.ref 396, .int y1, .int y2, z_j, .int y4, z_j]) t257_100 rfl)
    · refine (k_goto t257_43 rfl).trans ?_
      exact (zk_mk (ls' := [.ref 396, .int y1, .int y2, .int y3, .int y4, z_j]) t257_101 rfl)
theorem b257_100_eq (d : Nat) (y1 : Int32) (y2 : Int32) (y4 : Int32) (s0 : Int32) (S : z_S) (hW : z_W S)  : b257_100 d y1 y2 y4 s0 S = b257_101 d y1 y2 s0 y4 S := by
  unfold b257_100
  refine (k_istore_n (ls' := [.ref 396, .int y1, .int y2, .int s0, .int y4, z_j]) t257_100 rfl rfl).trans ?_
  exact (zk_mk (ls' := [.ref 396, .int y1, .int y2, .int s0, .int y4, z_j]) t257_101 rfl)
theorem b257_101_eq (d : Nat) (y1 : Int32) (y2 : Int32) (y3 : Int32) (y4 : Int32) (S : z_S) (hW : z_W S)  : b257_101 d y1 y2 y3 y4 S = b257_26 d y1 y2 y3 (y4 + (1 : Int32)) S := by
  unfold b257_101
  refine (k_iinc (b := (y4 + (1 : Int32))) (ls' := [.ref 396, .int y1, .int y2, .int y3, .int (y4 + (1 : Int32)), z_j]) t257_101 rfl rfl (by rw [zci_1]) rfl).trans ?_
  refine (k_goto t257_104 rfl).trans ?_
  exact (zk_mk (ls' := [.ref 396, .int y1, .int y2, .int y3, .int (y4 + (1 : Int32)), z_j]) t257_26 rfl)
-- X12_mostBy
theorem e257 (d : Nat) (x1 : Int32) (x2 : Int32) (S : z_S) (hW : z_W S)  : fI (d + 1) 257 [.ref 396, .int x1, .int x2] S = b257_2 d x1 x2 (0 : Int32) S := by
  refine (fI_en (Nat.le_of_ble_eq_true rfl) rfl).trans ?_
  refine (k_iconst t257_0 rfl zci_0).trans ?_
  refine (k_istore_n (ls' := [.ref 396, .int x1, .int x2, .int (0 : Int32), z_j, z_j]) t257_1 rfl rfl).trans ?_
  exact (zk_mk (ls' := [.ref 396, .int x1, .int x2, .int (0 : Int32), z_j, z_j]) t257_2 rfl)
theorem t258_0 : z_ft 258 0 = some (.aload_n 0, 1, none, [], 0, 0, 0, 0) := z_ftd (by decide +kernel)
theorem t258_1 : z_ft 258 1 = some (.iload_n 1, 1, none, [], 0, 0, 0, 0) := z_ftd (by decide +kernel)
theorem t258_2 : z_ft 258 2 = some (.invokevirtual 495, 3, none, [], 228, 0, 156, 0) := z_ftd (by decide +kernel)
theorem t258_5 : z_ft 258 5 = some (.ifCond .eq 21, 3, none, [], 26, 0, 0, 0) := z_ftd (by decide +kernel)
theorem t258_8 : z_ft 258 8 = some (.aload_n 0, 1, none, [], 0, 0, 0, 0) := z_ftd (by decide +kernel)
theorem t258_9 : z_ft 258 9 = some (.iconst 0, 1, none, [], 0, 0, 0, 0) := z_ftd (by decide +kernel)
theorem t258_10 : z_ft 258 10 = some (.iload_n 1, 1, none, [], 0, 0, 0, 0) := z_ftd (by decide +kernel)
theorem t258_11 : z_ft 258 11 = some (.invokevirtual 506, 3, none, [], 215, 0, 161, 0) := z_ftd (by decide +kernel)
theorem t258_14 : z_ft 258 14 = some (.ifCond .eq 12, 3, none, [], 26, 0, 0, 0) := z_ftd (by decide +kernel)
theorem t258_17 : z_ft 258 17 = some (.iload_n 2, 1, none, [], 0, 0, 0, 0) := z_ftd (by decide +kernel)
theorem t258_18 : z_ft 258 18 = some (.iconst 0, 1, none, [], 0, 0, 0, 0) := z_ftd (by decide +kernel)
theorem t258_19 : z_ft 258 19 = some (.iconst 2, 1, none, [], 0, 0, 0, 0) := z_ftd (by decide +kernel)
theorem t258_20 : z_ft 258 20 = some (.invokestatic 307, 3, none, [], 155, 0, 85, 0) := z_ftd (by decide +kernel)
theorem t258_23 : z_ft 258 23 = some (.ifCond .ne 5, 3, none, [], 28, 0, 0, 0) := z_ftd (by decide +kernel)
theorem t258_26 : z_ft 258 26 = some (.iconst (-1), 1, (some []), [], 0, 0, 0, 0) := z_ftd (by decide +kernel)
theorem t258_27 : z_ft 258 27 = some (.ireturn, 1, none, [], 0, 0, 0, 0) := z_ftd (by decide +kernel)
theorem t258_28 : z_ft 258 28 = some (.aload_n 0, 1, none, [], 0, 0, 0, 0) := z_ftd (by decide +kernel)
theorem t258_29 : z_ft 258 29 = some (.iload_n 1, 1, none, [], 0, 0, 0, 0) := z_ftd (by decide +kernel)
theorem t258_30 : z_ft 258 30 = some (.invokevirtual 533, 3, none, [], 255, 0, 177, 0) := z_ftd (by decide +kernel)
theorem t258_33 : z_ft 258 33 = some (.istore_n 3, 1, none, [], 0, 0, 0, 0) := z_ftd (by decide +kernel)
theorem t258_34 : z_ft 258 34 = some (.iconst (-1), 1, none, [], 0, 0, 0, 0) := z_ftd (by decide +kernel)
theorem t258_35 : z_ft 258 35 = some (.istore 4, 2, none, [], 0, 0, 0, 0) := z_ftd (by decide +kernel)
theorem t258_37 : z_ft 258 37 = some (.ldc_w 536, 3, none, [], 0, 0, 179, 100000000) := z_ftd (by decide +kernel)
theorem t258_40 : z_ft 258 40 = some (.istore 5, 2, none, [], 0, 0, 0, 0) := z_ftd (by decide +kernel)
theorem t258_42 : z_ft 258 42 = some (.iconst 0, 1, none, [], 0, 0, 0, 0) := z_ftd (by decide +kernel)
theorem t258_43 : z_ft 258 43 = some (.istore 6, 2, none, [], 0, 0, 0, 0) := z_ftd (by decide +kernel)
theorem t258_45 : z_ft 258 45 = some (.aload_n 0, 1, (some [0, 2, 3, 4, 5, 6]), [], 0, 0, 0, 0) := z_ftd (by decide +kernel)
theorem t258_46 : z_ft 258 46 = some (.iload 6, 2, none, [], 0, 0, 0, 0) := z_ftd (by decide +kernel)
theorem t258_48 : z_ft 258 48 = some (.iconst 0, 1, none, [], 0, 0, 0, 0) := z_ftd (by decide +kernel)
theorem t258_49 : z_ft 258 49 = some (.bipush 30, 2, none, [], 0, 0, 0, 0) := z_ftd (by decide +kernel)
theorem t258_51 : z_ft 258 51 = some (.invokevirtual 509, 3, none, [], 235, 0, 162, 0) := z_ftd (by decide +kernel)
theorem t258_54 : z_ft 258 54 = some (.ifCond .eq 70, 3, none, [], 124, 0, 0, 0) := z_ftd (by decide +kernel)
theorem t258_57 : z_ft 258 57 = some (.iload_n 3, 1, none, [], 0, 0, 0, 0) := z_ftd (by decide +kernel)
theorem t258_58 : z_ft 258 58 = some (.ifCond .le 66, 3, none, [], 124, 0, 0, 0) := z_ftd (by decide +kernel)
theorem t258_61 : z_ft 258 61 = some (.iconst 0, 1, none, [], 0, 0, 0, 0) := z_ftd (by decide +kernel)
theorem t258_62 : z_ft 258 62 = some (.istore 7, 2, none, [], 0, 0, 0, 0) := z_ftd (by decide +kernel)
theorem t258_64 : z_ft 258 64 = some (.iload 7, 2, (some [0, 2, 3, 4, 5, 6, 7]), [], 0, 0, 0, 0) := z_ftd (by decide +kernel)
theorem t258_66 : z_ft 258 66 = some (.aload_n 0, 1, none, [], 0, 0, 0, 0) := z_ftd (by decide +kernel)
theorem t258_67 : z_ft 258 67 = some (.getfield 54, 3, none, [], 12, 14, 15, 0) := z_ftd (by decide +kernel)
theorem t258_70 : z_ft 258 70 = some (.aload_n 0, 1, none, [], 0, 0, 0, 0) := z_ftd (by decide +kernel)
theorem t258_71 : z_ft 258 71 = some (.getfield 51, 3, none, [], 12, 13, 14, 0) := z_ftd (by decide +kernel)
theorem t258_74 : z_ft 258 74 = some (.iaload, 1, none, [], 0, 0, 0, 0) := z_ftd (by decide +kernel)
theorem t258_75 : z_ft 258 75 = some (.if_icmp .ge 43, 3, none, [], 118, 0, 0, 0) := z_ftd (by decide +kernel)
theorem t258_78 : z_ft 258 78 = some (.aload_n 0, 1, none, [], 0, 0, 0, 0) := z_ftd (by decide +kernel)
theorem t258_79 : z_ft 258 79 = some (.iload 6, 2, none, [], 0, 0, 0, 0) := z_ftd (by decide +kernel)
theorem t258_81 : z_ft 258 81 = some (.iload 7, 2, none, [], 0, 0, 0, 0) := z_ftd (by decide +kernel)
theorem t258_83 : z_ft 258 83 = some (.invokevirtual 537, 3, none, [], 257, 0, 180, 0) := z_ftd (by decide +kernel)
theorem t258_86 : z_ft 258 86 = some (.istore 8, 2, none, [], 0, 0, 0, 0) := z_ftd (by decide +kernel)
theorem t258_88 : z_ft 258 88 = some (.iload 8, 2, none, [], 0, 0, 0, 0) := z_ftd (by decide +kernel)
theorem t258_90 : z_ft 258 90 = some (.iload 5, 2, none, [], 0, 0, 0, 0) := z_ftd (by decide +kernel)
theorem t258_92 : z_ft 258 92 = some (.if_icmp .lt 6, 3, none, [], 98, 0, 0, 0) := z_ftd (by decide +kernel)
theorem t258_95 : z_ft 258 95 = some (.goto 17, 3, none, [], 112, 0, 0, 0) := z_ftd (by decide +kernel)
theorem t258_98 : z_ft 258 98 = some (.iload 8, 2, none, [], 0, 0, 0, 0) := z_ftd (by decide +kernel)
theorem t258_100 : z_ft 258 100 = some (.istore 5, 2, none, [], 0, 0, 0, 0) := z_ftd (by decide +kernel)
theorem t258_102 : z_ft 258 102 = some (.bipush 16, 2, none, [], 0, 0, 0, 0) := z_ftd (by decide +kernel)
theorem t258_104 : z_ft 258 104 = some (.iload 6, 2, none, [], 0, 0, 0, 0) := z_ftd (by decide +kernel)
theorem t258_106 : z_ft 258 106 = some (.imul, 1, none, [], 0, 0, 0, 0) := z_ftd (by decide +kernel)
theorem t258_107 : z_ft 258 107 = some (.iload 7, 2, none, [], 0, 0, 0, 0) := z_ftd (by decide +kernel)
theorem t258_109 : z_ft 258 109 = some (.iadd, 1, none, [], 0, 0, 0, 0) := z_ftd (by decide +kernel)
theorem t258_110 : z_ft 258 110 = some (.istore 4, 2, none, [], 0, 0, 0, 0) := z_ftd (by decide +kernel)
theorem t258_112 : z_ft 258 112 = some (.iinc 7 1, 3, (some [0, 2, 3, 4, 5, 6, 7]), [], 0, 0, 0, 0) := z_ftd (by decide +kernel)
theorem t258_115 : z_ft 258 115 = some (.goto (-51), 3, none, [], 64, 0, 0, 0) := z_ftd (by decide +kernel)
theorem t258_118 : z_ft 258 118 = some (.iinc 6 1, 3, none, [], 0, 0, 0, 0) := z_ftd (by decide +kernel)
theorem t258_121 : z_ft 258 121 = some (.goto (-76), 3, none, [], 45, 0, 0, 0) := z_ftd (by decide +kernel)
theorem t258_124 : z_ft 258 124 = some (.iload 4, 2, (some [2, 4, 5]), [], 0, 0, 0, 0) := z_ftd (by decide +kernel)
theorem t258_126 : z_ft 258 126 = some (.iconst (-1), 1, none, [], 0, 0, 0, 0) := z_ftd (by decide +kernel)
theorem t258_127 : z_ft 258 127 = some (.if_icmp .ne 7, 3, none, [], 134, 0, 0, 0) := z_ftd (by decide +kernel)
theorem t258_130 : z_ft 258 130 = some (.iconst (-1), 1, none, [], 0, 0, 0, 0) := z_ftd (by decide +kernel)
theorem t258_131 : z_ft 258 131 = some (.goto 30, 3, none, [], 161, 0, 0, 0) := z_ftd (by decide +kernel)
theorem t258_134 : z_ft 258 134 = some (.iload_n 2, 1, none, [], 0, 0, 0, 0) := z_ftd (by decide +kernel)
theorem t258_135 : z_ft 258 135 = some (.ifCond .ne 11, 3, none, [], 146, 0, 0, 0) := z_ftd (by decide +kernel)
theorem t258_138 : z_ft 258 138 = some (.iload 4, 2, none, [], 0, 0, 0, 0) := z_ftd (by decide +kernel)
theorem t258_140 : z_ft 258 140 = some (.bipush 16, 2, none, [], 0, 0, 0, 0) := z_ftd (by decide +kernel)
theorem t258_142 : z_ft 258 142 = some (.idiv, 1, none, [], 0, 0, 0, 0) := z_ftd (by decide +kernel)
theorem t258_143 : z_ft 258 143 = some (.goto 18, 3, none, [], 161, 0, 0, 0) := z_ftd (by decide +kernel)
theorem t258_146 : z_ft 258 146 = some (.iload_n 2, 1, none, [], 0, 0, 0, 0) := z_ftd (by decide +kernel)
theorem t258_147 : z_ft 258 147 = some (.iconst 1, 1, none, [], 0, 0, 0, 0) := z_ftd (by decide +kernel)
theorem t258_148 : z_ft 258 148 = some (.if_icmp .ne 11, 3, none, [], 159, 0, 0, 0) := z_ftd (by decide +kernel)
theorem t258_151 : z_ft 258 151 = some (.iload 4, 2, none, [], 0, 0, 0, 0) := z_ftd (by decide +kernel)
theorem t258_153 : z_ft 258 153 = some (.bipush 16, 2, none, [], 0, 0, 0, 0) := z_ftd (by decide +kernel)
theorem t258_155 : z_ft 258 155 = some (.irem, 1, none, [], 0, 0, 0, 0) := z_ftd (by decide +kernel)
theorem t258_156 : z_ft 258 156 = some (.goto 5, 3, none, [], 161, 0, 0, 0) := z_ftd (by decide +kernel)
theorem t258_159 : z_ft 258 159 = some (.iload 5, 2, none, [], 0, 0, 0, 0) := z_ftd (by decide +kernel)
theorem t258_161 : z_ft 258 161 = some (.ireturn, 1, (some []), [], 0, 0, 0, 0) := z_ftd (by decide +kernel)
noncomputable def b258_45 (d : Nat) (y2 : Int32) (y3 : Int32) (y4 : Int32) (y5 : Int32) (y6 : Int32) (S : z_S) : Option (Int32 × z_S) := zk kI z_X0 d 258 45 [.ref 396, z_j, .int y2, .int y3, .int y4, .int y5, .int y6, z_j, z_j] [] S
noncomputable def b258_124 (d : Nat) (y2 : Int32) (y4 : Int32) (y5 : Int32) (S : z_S) : Option (Int32 × z_S) := zk kI z_X0 d 258 124 [z_j, z_j, .int y2, z_j, .int y4, .int y5, z_j, z_j, z_j] [] S
noncomputable def b258_64 (d : Nat) (y2 : Int32) (y3 : Int32) (y4 : Int32) (y5 : Int32) (y6 : Int32) (y7 : Int32) (S : z_S) : Option (Int32 × z_S) := zk kI z_X0 d 258 64 [.ref 396, z_j, .int y2, .int y3, .int y4, .int y5, .int y6, .int y7, z_j] [] S
noncomputable def b258_112 (d : Nat) (y2 : Int32) (y3 : Int32) (y4 : Int32) (y5 : Int32) (y6 : Int32) (y7 : Int32) (S : z_S) : Option (Int32 × z_S) := zk kI z_X0 d 258 112 [.ref 396, z_j, .int y2, .int y3, .int y4, .int y5, .int y6, .int y7, z_j] [] S
theorem b258_45_eq (d : Nat) (y2 : Int32) (y3 : Int32) (y4 : Int32) (y5 : Int32) (y6 : Int32) (S : z_S) (hW : z_W S)  : b258_45 d y2 y3 y4 y5 y6 S = (zb (fI d 235 [.ref 396, .int y6, .int (0 : Int32), .int (30 : Int32)] S) fun v12 S13 => (if v12 = (0 : Int32) then b258_124 d y2 y4 y5 S13 else (if y3 ≤ (0 : Int32) then b258_124 d y2 y4 y5 S13 else b258_64 d y2 y3 y4 y5 y6 (0 : Int32) S13))) := by
  unfold b258_45
  refine (k_aload_n t258_45 rfl rfl).trans ?_
  refine (k_iload t258_46 rfl rfl).trans ?_
  refine (k_iconst t258_48 rfl zci_0).trans ?_
  refine (k_bipush t258_49 rfl zcb_30).trans ?_
  refine k_callI (as := [.ref 396, .int y6, .int (0 : Int32), .int (30 : Int32)]) (rest := []) t258_51 rfl rfl (by decide) rfl rfl (Nat.le_of_ble_eq_true rfl) rfl (z_rcV hW (zK_396) (by decide)) (by decide) (Or.inr (by decide)) hW (fun v12 S13 hW13 => ?_)
  refine (k_if_eq t258_54 rfl).trans (z_ite (fun g14 => ?_) (fun g14 => ?_))
  · exact (zk_mk (ls' := [z_j, z_j, .int y2, z_j, .int y4, .int y5, z_j, z_j, z_j]) t258_124 rfl)
  · refine (k_iload_n t258_57 rfl rfl).trans ?_
    refine (k_if_le t258_58 rfl).trans (z_ite (fun g15 => ?_) (fun g15 => ?_))
    · exact (zk_mk (ls' := [z_j, z_j, .int y2, z_j, .int y4, .int y5, z_j, z_j, z_j]) t258_124 rfl)
    · refine (k_iconst t258_61 rfl zci_0).trans ?_
      refine (k_istore (ls' := [.ref 396, z_j, .int y2, .int y3, .int y4, .int y5, .int y6, .int (0 : Int32), z_j]) t258_62 rfl rfl).trans ?_
      exact (zk_mk (ls' := [.ref 396, z_j, .int y2, .int y3, .int y4, .int y5, .int y6, .int (0 : Int32), z_j]) t258_64 rfl)
theorem b258_124_eq (d : Nat) (y2 : Int32) (y4 : Int32) (y5 : Int32) (S : z_S) (hW : z_W S)  : b258_124 d y2 y4 y5 S = (if ¬ y4 = (-1 : Int32) then (if ¬ y2 = (0 : Int32) then (if ¬ y2 = (1 : Int32) then some (y5, S) else some ((y4 - y4 / (16 : Int32) * (16 : Int32)), S)) else some ((y4 / (16 : Int32)), S)) else some ((-1 : Int32), S)) := by
  unfold b258_124
  refine (k_iload t258_124 rfl rfl).trans ?_
  refine (k_iconst t258_126 rfl zci_m1).trans ?_
  refine (k_icmp_ne t258_127 rfl).trans (z_ite (fun g16 => ?_) (fun g16 => ?_))
  · refine (k_iload_n t258_134 rfl rfl).trans ?_
    refine (k_if_ne t258_135 rfl).trans (z_ite (fun g17 => ?_) (fun g17 => ?_))
    · refine (k_iload_n t258_146 rfl rfl).trans ?_
      refine (k_iconst t258_147 rfl zci_1).trans ?_
      refine (k_icmp_ne t258_148 rfl).trans (z_ite (fun g18 => ?_) (fun g18 => ?_))
      · refine (k_iload t258_159 rfl rfl).trans ?_
        refine (zk_mk (ls' := [z_j, z_j, z_j, z_j, z_j, z_j, z_j, z_j, z_j]) t258_161 rfl).trans ?_
        exact k_ireturn t258_161 rfl (by decide)
      · refine (k_iload t258_151 rfl rfl).trans ?_
        refine (k_bipush t258_153 rfl zcb_16).trans ?_
        refine ((k_irem t258_155 rfl).trans (if_neg (by decide))).trans ?_
        refine (k_goto t258_156 rfl).trans ?_
        refine (zk_mk (ls' := [z_j, z_j, z_j, z_j, z_j, z_j, z_j, z_j, z_j]) t258_161 rfl).trans ?_
        exact k_ireturn t258_161 rfl (by decide)
    · refine (k_iload t258_138 rfl rfl).trans ?_
      refine (k_bipush t258_140 rfl zcb_16).trans ?_
      refine ((k_idiv t258_142 rfl).trans (if_neg (by decide))).trans ?_
      refine (k_goto t258_143 rfl).trans ?_
      refine (zk_mk (ls' := [z_j, z_j, z_j, z_j, z_j, z_j, z_j, z_j, z_j]) t258_161 rfl).trans ?_
      exact k_ireturn t258_161 rfl (by decide)
  · refine (k_iconst t258_130 rfl zci_m1).trans ?_
    refine (k_goto t258_131 rfl).trans ?_
    refine (zk_mk (ls' := [z_j, z_j, z_j, z_j, z_j, z_j, z_j, z_j, z_j]) t258_161 rfl).trans ?_
    exact k_ireturn t258_161 rfl (by decide)
theorem b258_64_eq (d : Nat) (y2 : Int32) (y3 : Int32) (y4 : Int32) (y5 : Int32) (y6 : Int32) (y7 : Int32) (S : z_S) (hW : z_W S)  : b258_64 d y2 y3 y4 y5 y6 y7 S = (if z_in (gI S 396 13) 2 then (if (gI S 398 ((gI S 396 13)).toNatClampNeg) ≤ y7 then b258_45 d y2 y3 y4 y5 (y6 + (1 : Int32)) S else (zb (fI d 257 [.ref 396, .int y6, .int y7] S) fun v21 S22 => (if v21 < y5 then b258_112 d y2 y3 (((16 : Int32) * y6) + y7) v21 y6 y7 S22 else b258_112 d y2 y3 y4 y5 y6 y7 S22))) else none) := by
  unfold b258_64
  refine (k_iload t258_64 rfl rfl).trans ?_
  refine (k_aload_n t258_66 rfl rfl).trans ?_
  refine (k_getR t258_67 rfl hW zK_396 (by decide) (by decide) (zF_396_14 hW)).trans ?_
  refine (k_aload_n t258_70 rfl rfl).trans ?_
  refine (k_getI t258_71 rfl hW zK_396 (by decide) (by decide)).trans ?_
  refine (k_iald t258_74 rfl hW zK_398 zL_398).trans (z_ite (fun g19 => ?_) (fun _ => rfl))
  refine (k_icmp_ge t258_75 rfl).trans (z_ite (fun g20 => ?_) (fun g20 => ?_))
  · refine (k_iinc (b := (y6 + (1 : Int32))) (ls' := [.ref 396, z_j, .int y2, .int y3, .int y4, .int y5, .int (y6 + (1 : Int32)), .int y7, z_j]) t258_118 rfl rfl (by rw [zci_1]) rfl).trans ?_
    refine (k_goto t258_121 rfl).trans ?_
    exact (zk_mk (ls' := [.ref 396, z_j, .int y2, .int y3, .int y4, .int y5, .int (y6 + (1 : Int32)), z_j, z_j]) t258_45 rfl)
  · refine (k_aload_n t258_78 rfl rfl).trans ?_
    refine (k_iload t258_79 rfl rfl).trans ?_
    refine (k_iload t258_81 rfl rfl).trans ?_
    refine k_callI (as := [.ref 396, .int y6, .int y7]) (rest := []) t258_83 rfl rfl (by decide) rfl rfl (Nat.le_of_ble_eq_true rfl) rfl (z_rcV hW (zK_396) (by decide)) (by decide) (Or.inl (by decide)) hW (fun v21 S22 hW22 => ?_)
    refine (k_istore (ls' := [.ref 396, z_j, .int y2, .int y3, .int y4, .int y5, .int y6, .int y7, .int v21]) t258_86 rfl rfl).trans ?_
    refine (k_iload t258_88 rfl rfl).trans ?_
    refine (k_iload t258_90 rfl rfl).trans ?_
    refine (k_icmp_lt t258_92 rfl).trans (z_ite (fun g23 => ?_) (fun g23 => ?_))
    · refine (k_iload t258_98 rfl rfl).trans ?_
      refine (k_istore (ls' := [.ref 396, z_j, .int y2, .int y3, .int y4, .int v21, .int y6, .int y7, .int v21]) t258_100 rfl rfl).trans ?_
      refine (k_bipush t258_102 rfl zcb_16).trans ?_
      refine (k_iload t258_104 rfl rfl).trans ?_
      refine (k_imul t258_106 rfl).trans ?_
      refine (k_iload t258_107 rfl rfl).trans ?_
      refine (k_iadd t258_109 rfl).trans ?_
      refine (k_istore (ls' := [.ref 396, z_j, .int y2, .int y3, .int (((16 : Int32) * y6) + y7), .int v21, .int y6, .int y7, .int v21]) t258_110 rfl rfl).trans ?_
      exact (zk_mk (ls' := [.ref 396, z_j, .int y2, .int y3, .int (((16 : Int32) * y6) + y7), .int v21, .int y6, .int y7, z_j]) t258_112 rfl)
    · refine (k_goto t258_95 rfl).trans ?_
      exact (zk_mk (ls' := [.ref 396, z_j, .int y2, .int y3, .int y4, .int y5, .int y6, .int y7, z_j]) t258_112 rfl)
theorem b258_112_eq (d : Nat) (y2 : Int32) (y3 : Int32) (y4 : Int32) (y5 : Int32) (y6 : Int32) (y7 : Int32) (S : z_S) (hW : z_W S)  : b258_112 d y2 y3 y4 y5 y6 y7 S = b258_64 d y2 y3 y4 y5 y6 (y7 + (1 : Int32)) S := by
  unfold b258_112
  refine (k_iinc (b := (y7 + (1 : Int32))) (ls' := [.ref 396, z_j, .int y2, .int y3, .int y4, .int y5, .int y6, .int (y7 + (1 : Int32)), z_j]) t258_112 rfl rfl (by rw [zci_1]) rfl).trans ?_
  refine (k_goto t258_115 rfl).trans ?_
  exact (zk_mk (ls' := [.ref 396, z_j, .int y2, .int y3, .int y4, .int y5, .int y6, .int (y7 + (1 : Int32)), z_j]) t258_64 rfl)
-- X12_tells
theorem e258 (d : Nat) (x1 : Int32) (x2 : Int32) (S : z_S) (hW : z_W S)  : fI (d + 1) 258 [.ref 396, .int x1, .int x2] S = (zb (fI d 228 [.ref 396, .int x1] S) fun v1 S2 => (if v1 = (0 : Int32) then some ((-1 : Int32), S2) else (zb (fI d 215 [.ref 396, .int (0 : Int32), .int x1] S2) fun v4 S5 => (if v4 = (0 : Int32) then some ((-1 : Int32), S5) else (zb (fI d 155 [.int x2, .int (0 : Int32), .int (2 : Int32)] S5) fun v7 S8 => (if ¬ v7 = (0 : Int32) then (zb (fI d 255 [.ref 396, .int x1] S8) fun v10 S11 => b258_45 d x2 v10 (-1 : Int32) (100000000 : Int32) (0 : Int32) S11) else some ((-1 : Int32), S8))))))) := by
  refine (fI_en (Nat.le_of_ble_eq_true rfl) rfl).trans ?_
  refine (k_aload_n t258_0 rfl rfl).trans ?_
  refine (k_iload_n t258_1 rfl rfl).trans ?_
  refine k_callI (as := [.ref 396, .int x1]) (rest := []) t258_2 rfl rfl (by decide) rfl rfl (Nat.le_of_ble_eq_true rfl) rfl (z_rcV hW (zK_396) (by decide)) (by decide) (Or.inr (by decide)) hW (fun v1 S2 hW2 => ?_)
  refine (k_if_eq t258_5 rfl).trans (z_ite (fun g3 => ?_) (fun g3 => ?_))
  · refine (zk_mk (ls' := [z_j, z_j, z_j, z_j, z_j, z_j, z_j, z_j, z_j]) t258_26 rfl).trans ?_
    refine (k_iconst t258_26 rfl zci_m1).trans ?_
    exact k_ireturn t258_27 rfl (by decide)
  · refine (k_aload_n t258_8 rfl rfl).trans ?_
    refine (k_iconst t258_9 rfl zci_0).trans ?_
    refine (k_iload_n t258_10 rfl rfl).trans ?_
    refine k_callI (as := [.ref 396, .int (0 : Int32), .int x1]) (rest := []) t258_11 rfl rfl (by decide) rfl rfl (Nat.le_of_ble_eq_true rfl) rfl (z_rcV hW2 (zK_396) (by decide)) (by decide) (Or.inr (by decide)) hW2 (fun v4 S5 hW5 => ?_)
    refine (k_if_eq t258_14 rfl).trans (z_ite (fun g6 => ?_) (fun g6 => ?_))
    · refine (zk_mk (ls' := [z_j, z_j, z_j, z_j, z_j, z_j, z_j, z_j, z_j]) t258_26 rfl).trans ?_
      refine (k_iconst t258_26 rfl zci_m1).trans ?_
      exact k_ireturn t258_27 rfl (by decide)
    · refine (k_iload_n t258_17 rfl rfl).trans ?_
      refine (k_iconst t258_18 rfl zci_0).trans ?_
      refine (k_iconst t258_19 rfl zci_2).trans ?_
      refine k_callI (as := [.int x2, .int (0 : Int32), .int (2 : Int32)]) (rest := []) t258_20 rfl rfl (by decide) rfl rfl (Nat.le_of_ble_eq_true rfl) rfl (z_rcS (by decide)) (by decide) (Or.inr (by decide)) hW5 (fun v7 S8 hW8 => ?_)
      refine (k_if_ne t258_23 rfl).trans (z_ite (fun g9 => ?_) (fun g9 => ?_))
      · refine (k_aload_n t258_28 rfl rfl).trans ?_
        refine (k_iload_n t258_29 rfl rfl).trans ?_
        refine k_callI (as := [.ref 396, .int x1]) (rest := []) t258_30 rfl rfl (by decide) rfl rfl (Nat.le_of_ble_eq_true rfl) rfl (z_rcV hW8 (zK_396) (by decide)) (by decide) (Or.inl (by decide)) hW8 (fun v10 S11 hW11 => ?_)
        refine (k_istore_n (ls' := [.ref 396, .int x1, .int x2, .int v10, z_j, z_j, z_j, z_j, z_j]) t258_33 rfl rfl).trans ?_
        refine (k_iconst t258_34 rfl zci_m1).trans ?_
        refine (k_istore (ls' := [.ref 396, .int x1, .int x2, .int v10, .int (-1 : Int32), z_j, z_j, z_j, z_j]) t258_35 rfl rfl).trans ?_
        refine (k_ldc_w t258_37 rfl zci_100000000).trans ?_
        refine (k_istore (ls' := [.ref 396, .int x1, .int x2, .int v10, .int (-1 : Int32), .int (100000000 : Int32), z_j, z_j, z_j]) t258_40 rfl rfl).trans ?_
        refine (k_iconst t258_42 rfl zci_0).trans ?_
        refine (k_istore (ls' := [.ref 396, .int x1, .int x2, .int v10, .int (-1 : Int32), .int (100000000 : Int32), .int (0 : Int32), z_j, z_j]) t258_43 rfl rfl).trans ?_
        exact (zk_mk (ls' := [.ref 396, z_j, .int x2, .int v10, .int (-1 : Int32), .int (100000000 : Int32), .int (0 : Int32), z_j, z_j]) t258_45 rfl)
      · refine (zk_mk (ls' := [z_j, z_j, z_j, z_j, z_j, z_j, z_j, z_j, z_j]) t258_26 rfl).trans ?_
        refine (k_iconst t258_26 rfl zci_m1).trans ?_
        exact k_ireturn t258_27 rfl (by decide)
theorem t259_0 : z_ft 259 0 = some (.aload_n 0, 1, none, [], 0, 0, 0, 0) := z_ftd (by decide +kernel)
theorem t259_1 : z_ft 259 1 = some (.iload_n 1, 1, none, [], 0, 0, 0, 0) := z_ftd (by decide +kernel)
theorem t259_2 : z_ft 259 2 = some (.invokevirtual 495, 3, none, [], 228, 0, 156, 0) := z_ftd (by decide +kernel)
theorem t259_5 : z_ft 259 5 = some (.ifCond .eq 12, 3, none, [], 17, 0, 0, 0) := z_ftd (by decide +kernel)
theorem t259_8 : z_ft 259 8 = some (.aload_n 0, 1, none, [], 0, 0, 0, 0) := z_ftd (by decide +kernel)
theorem t259_9 : z_ft 259 9 = some (.iconst 0, 1, none, [], 0, 0, 0, 0) := z_ftd (by decide +kernel)
theorem t259_10 : z_ft 259 10 = some (.iload_n 1, 1, none, [], 0, 0, 0, 0) := z_ftd (by decide +kernel)
theorem t259_11 : z_ft 259 11 = some (.invokevirtual 506, 3, none, [], 215, 0, 161, 0) := z_ftd (by decide +kernel)
theorem t259_14 : z_ft 259 14 = some (.ifCond .ne 9, 3, none, [], 23, 0, 0, 0) := z_ftd (by decide +kernel)
theorem t259_17 : z_ft 259 17 = some (.aload_n 0, 1, (some [0]), [], 0, 0, 0, 0) := z_ftd (by decide +kernel)
theorem t259_18 : z_ft 259 18 = some (.iconst 3, 1, none, [], 0, 0, 0, 0) := z_ftd (by decide +kernel)
theorem t259_19 : z_ft 259 19 = some (.invokevirtual 231, 3, none, [], 194, 0, 73, 0) := z_ftd (by decide +kernel)
theorem t259_22 : z_ft 259 22 = some (.ireturn, 1, none, [], 0, 0, 0, 0) := z_ftd (by decide +kernel)
theorem t259_23 : z_ft 259 23 = some (.aload_n 0, 1, none, [], 0, 0, 0, 0) := z_ftd (by decide +kernel)
theorem t259_24 : z_ft 259 24 = some (.invokevirtual 540, 3, none, [], 199, 0, 181, 0) := z_ftd (by decide +kernel)
theorem t259_27 : z_ft 259 27 = some (.aload_n 0, 1, none, [], 0, 0, 0, 0) := z_ftd (by decide +kernel)
theorem t259_28 : z_ft 259 28 = some (.iconst 0, 1, none, [], 0, 0, 0, 0) := z_ftd (by decide +kernel)
theorem t259_29 : z_ft 259 29 = some (.iload_n 1, 1, none, [], 0, 0, 0, 0) := z_ftd (by decide +kernel)
theorem t259_30 : z_ft 259 30 = some (.invokevirtual 401, 3, none, [], 220, 0, 134, 0) := z_ftd (by decide +kernel)
theorem t259_33 : z_ft 259 33 = some (.ireturn, 1, none, [], 0, 0, 0, 0) := z_ftd (by decide +kernel)
noncomputable def b259_17 (d : Nat)  (S : z_S) : Option (Int32 × z_S) := zk kI z_X0 d 259 17 [.ref 396, z_j] [] S
theorem b259_17_eq (d : Nat)  (S : z_S) (hW : z_W S)  : b259_17 d  S = (zb (fI d 194 [.ref 396, .int (3 : Int32)] S) fun v11 S12 => some (v11, S12)) := by
  unfold b259_17
  refine (k_aload_n t259_17 rfl rfl).trans ?_
  refine (k_iconst t259_18 rfl zci_3).trans ?_
  refine k_callI (as := [.ref 396, .int (3 : Int32)]) (rest := []) t259_19 rfl rfl (by decide) rfl rfl (Nat.le_of_ble_eq_true rfl) rfl (z_rcV hW (zK_396) (by decide)) (by decide) (Or.inl (by decide)) hW (fun v11 S12 hW12 => ?_)
  exact k_ireturn t259_22 rfl (by decide)
-- X12_come
theorem e259 (d : Nat) (x1 : Int32) (S : z_S) (hW : z_W S)  : fI (d + 1) 259 [.ref 396, .int x1] S = (zb (fI d 228 [.ref 396, .int x1] S) fun v1 S2 => (if v1 = (0 : Int32) then b259_17 d S2 else (zb (fI d 215 [.ref 396, .int (0 : Int32), .int x1] S2) fun v4 S5 => (if ¬ v4 = (0 : Int32) then ((fV d 199 [.ref 396] S5).bind fun S8 => (zb (fI d 220 [.ref 396, .int (0 : Int32), .int x1] S8) fun v9 S10 => some (v9, S10))) else b259_17 d S5)))) := by
  refine (fI_en (Nat.le_of_ble_eq_true rfl) rfl).trans ?_
  refine (k_aload_n t259_0 rfl rfl).trans ?_
  refine (k_iload_n t259_1 rfl rfl).trans ?_
  refine k_callI (as := [.ref 396, .int x1]) (rest := []) t259_2 rfl rfl (by decide) rfl rfl (Nat.le_of_ble_eq_true rfl) rfl (z_rcV hW (zK_396) (by decide)) (by decide) (Or.inr (by decide)) hW (fun v1 S2 hW2 => ?_)
  refine (k_if_eq t259_5 rfl).trans (z_ite (fun g3 => ?_) (fun g3 => ?_))
  · exact (zk_mk (ls' := [.ref 396, z_j]) t259_17 rfl)
  · refine (k_aload_n t259_8 rfl rfl).trans ?_
    refine (k_iconst t259_9 rfl zci_0).trans ?_
    refine (k_iload_n t259_10 rfl rfl).trans ?_
    refine k_callI (as := [.ref 396, .int (0 : Int32), .int x1]) (rest := []) t259_11 rfl rfl (by decide) rfl rfl (Nat.le_of_ble_eq_true rfl) rfl (z_rcV hW2 (zK_396) (by decide)) (by decide) (Or.inr (by decide)) hW2 (fun v4 S5 hW5 => ?_)
    refine (k_if_ne t259_14 rfl).trans (z_ite (fun g6 => ?_) (fun g6 => ?_))
    · refine (k_aload_n t259_23 rfl rfl).trans ?_
      refine k_callV (as := [.ref 396]) (rest := []) t259_24 rfl rfl (by decide) rfl rfl (Nat.le_of_ble_eq_true rfl) rfl (z_rcV hW5 (zK_396) (by decide)) (by decide) (by decide) hW5 (fun S8 hW8 => ?_)
      refine (k_aload_n t259_27 rfl rfl).trans ?_
      refine (k_iconst t259_28 rfl zci_0).trans ?_
      refine (k_iload_n t259_29 rfl rfl).trans ?_
      refine k_callI (as := [.ref 396, .int (0 : Int32), .int x1]) (rest := []) t259_30 rfl rfl (by decide) rfl rfl (Nat.le_of_ble_eq_true rfl) rfl (z_rcV hW8 (zK_396) (by decide)) (by decide) (Or.inl (by decide)) hW8 (fun v9 S10 hW10 => ?_)
      exact k_ireturn t259_33 rfl (by decide)
    · exact (zk_mk (ls' := [.ref 396, z_j]) t259_17 rfl)
theorem t260_0 : z_ft 260 0 = some (.aload_n 0, 1, none, [], 0, 0, 0, 0) := z_ftd (by decide +kernel)
theorem t260_1 : z_ft 260 1 = some (.iload_n 1, 1, none, [], 0, 0, 0, 0) := z_ftd (by decide +kernel)
theorem t260_2 : z_ft 260 2 = some (.invokevirtual 495, 3, none, [], 228, 0, 156, 0) := z_ftd (by decide +kernel)
theorem t260_5 : z_ft 260 5 = some (.ifCond .eq 12, 3, none, [], 17, 0, 0, 0) := z_ftd (by decide +kernel)
theorem t260_8 : z_ft 260 8 = some (.aload_n 0, 1, none, [], 0, 0, 0, 0) := z_ftd (by decide +kernel)
theorem t260_9 : z_ft 260 9 = some (.iconst 0, 1, none, [], 0, 0, 0, 0) := z_ftd (by decide +kernel)
theorem t260_10 : z_ft 260 10 = some (.iload_n 1, 1, none, [], 0, 0, 0, 0) := z_ftd (by decide +kernel)
theorem t260_11 : z_ft 260 11 = some (.invokevirtual 506, 3, none, [], 215, 0, 161, 0) := z_ftd (by decide +kernel)
theorem t260_14 : z_ft 260 14 = some (.ifCond .eq 17, 3, none, [], 31, 0, 0, 0) := z_ftd (by decide +kernel)
theorem t260_17 : z_ft 260 17 = some (.aload_n 0, 1, (some [0]), [], 0, 0, 0, 0) := z_ftd (by decide +kernel)
theorem t260_18 : z_ft 260 18 = some (.iconst 3, 1, none, [], 0, 0, 0, 0) := z_ftd (by decide +kernel)
theorem t260_19 : z_ft 260 19 = some (.invokevirtual 231, 3, none, [], 194, 0, 73, 0) := z_ftd (by decide +kernel)
theorem t260_22 : z_ft 260 22 = some (.ifCond .lt 7, 3, none, [], 29, 0, 0, 0) := z_ftd (by decide +kernel)
theorem t260_25 : z_ft 260 25 = some (.iconst 1, 1, none, [], 0, 0, 0, 0) := z_ftd (by decide +kernel)
theorem t260_26 : z_ft 260 26 = some (.goto 4, 3, none, [], 30, 0, 0, 0) := z_ftd (by decide +kernel)
theorem t260_29 : z_ft 260 29 = some (.iconst 0, 1, none, [], 0, 0, 0, 0) := z_ftd (by decide +kernel)
theorem t260_30 : z_ft 260 30 = some (.ireturn, 1, (some []), [], 0, 0, 0, 0) := z_ftd (by decide +kernel)
theorem t260_31 : z_ft 260 31 = some (.aload_n 0, 1, none, [], 0, 0, 0, 0) := z_ftd (by decide +kernel)
theorem t260_32 : z_ft 260 32 = some (.invokevirtual 540, 3, none, [], 199, 0, 181, 0) := z_ftd (by decide +kernel)
theorem t260_35 : z_ft 260 35 = some (.aload_n 0, 1, none, [], 0, 0, 0, 0) := z_ftd (by decide +kernel)
theorem t260_36 : z_ft 260 36 = some (.iconst 0, 1, none, [], 0, 0, 0, 0) := z_ftd (by decide +kernel)
theorem t260_37 : z_ft 260 37 = some (.iload_n 1, 1, none, [], 0, 0, 0, 0) := z_ftd (by decide +kernel)
theorem t260_38 : z_ft 260 38 = some (.invokevirtual 485, 3, none, [], 222, 0, 171, 0) := z_ftd (by decide +kernel)
theorem t260_41 : z_ft 260 41 = some (.iconst 1, 1, none, [], 0, 0, 0, 0) := z_ftd (by decide +kernel)
theorem t260_42 : z_ft 260 42 = some (.ireturn, 1, none, [], 0, 0, 0, 0) := z_ftd (by decide +kernel)
noncomputable def b260_17 (d : Nat)  (S : z_S) : Option (Int32 × z_S) := zk kI z_X0 d 260 17 [.ref 396, z_j] [] S
theorem b260_17_eq (d : Nat)  (S : z_S) (hW : z_W S)  : b260_17 d  S = (zb (fI d 194 [.ref 396, .int (3 : Int32)] S) fun v11 S12 => (if v11 < (0 : Int32) then some ((0 : Int32), S12) else some ((1 : Int32), S12))) := by
  unfold b260_17
  refine (k_aload_n t260_17 rfl rfl).trans ?_
  refine (k_iconst t260_18 rfl zci_3).trans ?_
  refine k_callI (as := [.ref 396, .int (3 : Int32)]) (rest := []) t260_19 rfl rfl (by decide) rfl rfl (Nat.le_of_ble_eq_true rfl) rfl (z_rcV hW (zK_396) (by decide)) (by decide) (Or.inl (by decide)) hW (fun v11 S12 hW12 => ?_)
  refine (k_if_lt t260_22 rfl).trans (z_ite (fun g13 => ?_) (fun g13 => ?_))
  · refine (k_iconst t260_29 rfl zci_0).trans ?_
    refine (zk_mk (ls' := [z_j, z_j]) t260_30 rfl).trans ?_
    exact k_zretC t260_30 rfl (by decide) (by decide)
  · refine (k_iconst t260_25 rfl zci_1).trans ?_
    refine (k_goto t260_26 rfl).trans ?_
    refine (zk_mk (ls' := [z_j, z_j]) t260_30 rfl).trans ?_
    exact k_zretC t260_30 rfl (by decide) (by decide)
-- X12_go
theorem e260 (d : Nat) (x1 : Int32) (S : z_S) (hW : z_W S)  : fI (d + 1) 260 [.ref 396, .int x1] S = (zb (fI d 228 [.ref 396, .int x1] S) fun v1 S2 => (if v1 = (0 : Int32) then b260_17 d S2 else (zb (fI d 215 [.ref 396, .int (0 : Int32), .int x1] S2) fun v4 S5 => (if v4 = (0 : Int32) then ((fV d 199 [.ref 396] S5).bind fun S8 => ((fV d 222 [.ref 396, .int (0 : Int32), .int x1] S8).bind fun S10 => some ((1 : Int32), S10))) else b260_17 d S5)))) := by
  refine (fI_en (Nat.le_of_ble_eq_true rfl) rfl).trans ?_
  refine (k_aload_n t260_0 rfl rfl).trans ?_
  refine (k_iload_n t260_1 rfl rfl).trans ?_
  refine k_callI (as := [.ref 396, .int x1]) (rest := []) t260_2 rfl rfl (by decide) rfl rfl (Nat.le_of_ble_eq_true rfl) rfl (z_rcV hW (zK_396) (by decide)) (by decide) (Or.inr (by decide)) hW (fun v1 S2 hW2 => ?_)
  refine (k_if_eq t260_5 rfl).trans (z_ite (fun g3 => ?_) (fun g3 => ?_))
  · exact (zk_mk (ls' := [.ref 396, z_j]) t260_17 rfl)
  · refine (k_aload_n t260_8 rfl rfl).trans ?_
    refine (k_iconst t260_9 rfl zci_0).trans ?_
    refine (k_iload_n t260_10 rfl rfl).trans ?_
    refine k_callI (as := [.ref 396, .int (0 : Int32), .int x1]) (rest := []) t260_11 rfl rfl (by decide) rfl rfl (Nat.le_of_ble_eq_true rfl) rfl (z_rcV hW2 (zK_396) (by decide)) (by decide) (Or.inr (by decide)) hW2 (fun v4 S5 hW5 => ?_)
    refine (k_if_eq t260_14 rfl).trans (z_ite (fun g6 => ?_) (fun g6 => ?_))
    · refine (k_aload_n t260_31 rfl rfl).trans ?_
      refine k_callV (as := [.ref 396]) (rest := []) t260_32 rfl rfl (by decide) rfl rfl (Nat.le_of_ble_eq_true rfl) rfl (z_rcV hW5 (zK_396) (by decide)) (by decide) (by decide) hW5 (fun S8 hW8 => ?_)
      refine (k_aload_n t260_35 rfl rfl).trans ?_
      refine (k_iconst t260_36 rfl zci_0).trans ?_
      refine (k_iload_n t260_37 rfl rfl).trans ?_
      refine k_callV (as := [.ref 396, .int (0 : Int32), .int x1]) (rest := []) t260_38 rfl rfl (by decide) rfl rfl (Nat.le_of_ble_eq_true rfl) rfl (z_rcV hW8 (zK_396) (by decide)) (by decide) (by decide) hW8 (fun S10 hW10 => ?_)
      refine (k_iconst t260_41 rfl zci_1).trans ?_
      exact k_zretC t260_42 rfl (by decide) (by decide)
    · exact (zk_mk (ls' := [.ref 396, z_j]) t260_17 rfl)
theorem t261_0 : z_ft 261 0 = some (.aload_n 0, 1, none, [], 0, 0, 0, 0) := z_ftd (by decide +kernel)
theorem t261_1 : z_ft 261 1 = some (.iload_n 1, 1, none, [], 0, 0, 0, 0) := z_ftd (by decide +kernel)
theorem t261_2 : z_ft 261 2 = some (.invokevirtual 500, 3, none, [], 227, 0, 158, 0) := z_ftd (by decide +kernel)
theorem t261_5 : z_ft 261 5 = some (.ifCond .eq 38, 3, none, [], 43, 0, 0, 0) := z_ftd (by decide +kernel)
theorem t261_8 : z_ft 261 8 = some (.iload_n 2, 1, none, [], 0, 0, 0, 0) := z_ftd (by decide +kernel)
theorem t261_9 : z_ft 261 9 = some (.iconst 0, 1, none, [], 0, 0, 0, 0) := z_ftd (by decide +kernel)
theorem t261_10 : z_ft 261 10 = some (.iconst 1, 1, none, [], 0, 0, 0, 0) := z_ftd (by decide +kernel)
theorem t261_11 : z_ft 261 11 = some (.invokestatic 307, 3, none, [], 155, 0, 85, 0) := z_ftd (by decide +kernel)
theorem t261_14 : z_ft 261 14 = some (.ifCond .eq 29, 3, none, [], 43, 0, 0, 0) := z_ftd (by decide +kernel)
theorem t261_17 : z_ft 261 17 = some (.iload_n 2, 1, none, [], 0, 0, 0, 0) := z_ftd (by decide +kernel)
theorem t261_18 : z_ft 261 18 = some (.iconst 1, 1, none, [], 0, 0, 0, 0) := z_ftd (by decide +kernel)
theorem t261_19 : z_ft 261 19 = some (.if_icmp .ne 15, 3, none, [], 34, 0, 0, 0) := z_ftd (by decide +kernel)
theorem t261_22 : z_ft 261 22 = some (.aload_n 0, 1, none, [], 0, 0, 0, 0) := z_ftd (by decide +kernel)
theorem t261_23 : z_ft 261 23 = some (.iconst 0, 1, none, [], 0, 0, 0, 0) := z_ftd (by decide +kernel)
theorem t261_24 : z_ft 261 24 = some (.iload_n 1, 1, none, [], 0, 0, 0, 0) := z_ftd (by decide +kernel)
theorem t261_25 : z_ft 261 25 = some (.invokevirtual 429, 3, none, [], 208, 0, 137, 0) := z_ftd (by decide +kernel)
theorem t261_28 : z_ft 261 28 = some (.ifCond .ne 29, 3, none, [], 57, 0, 0, 0) := z_ftd (by decide +kernel)
theorem t261_31 : z_ft 261 31 = some (.goto 12, 3, none, [], 43, 0, 0, 0) := z_ftd (by decide +kernel)
theorem t261_34 : z_ft 261 34 = some (.aload_n 0, 1, none, [], 0, 0, 0, 0) := z_ftd (by decide +kernel)
theorem t261_35 : z_ft 261 35 = some (.iconst 0, 1, none, [], 0, 0, 0, 0) := z_ftd (by decide +kernel)
theorem t261_36 : z_ft 261 36 = some (.iload_n 1, 1, none, [], 0, 0, 0, 0) := z_ftd (by decide +kernel)
theorem t261_37 : z_ft 261 37 = some (.invokevirtual 426, 3, none, [], 207, 0, 138, 0) := z_ftd (by decide +kernel)
theorem t261_40 : z_ft 261 40 = some (.ifCond .ne 17, 3, none, [], 57, 0, 0, 0) := z_ftd (by decide +kernel)
theorem t261_43 : z_ft 261 43 = some (.aload_n 0, 1, (some [0]), [], 0, 0, 0, 0) := z_ftd (by decide +kernel)
theorem t261_44 : z_ft 261 44 = some (.iconst 3, 1, none, [], 0, 0, 0, 0) := z_ftd (by decide +kernel)
theorem t261_45 : z_ft 261 45 = some (.invokevirtual 231, 3, none, [], 194, 0, 73, 0) := z_ftd (by decide +kernel)
theorem t261_48 : z_ft 261 48 = some (.ifCond .lt 7, 3, none, [], 55, 0, 0, 0) := z_ftd (by decide +kernel)
theorem t261_51 : z_ft 261 51 = some (.iconst 1, 1, none, [], 0, 0, 0, 0) := z_ftd (by decide +kernel)
theorem t261_52 : z_ft 261 52 = some (.goto 4, 3, none, [], 56, 0, 0, 0) := z_ftd (by decide +kernel)
theorem t261_55 : z_ft 261 55 = some (.iconst 0, 1, none, [], 0, 0, 0, 0) := z_ftd (by decide +kernel)
theorem t261_56 : z_ft 261 56 = some (.ireturn, 1, (some []), [], 0, 0, 0, 0) := z_ftd (by decide +kernel)
theorem t261_57 : z_ft 261 57 = some (.aload_n 0, 1, (some [0, 1]), [], 0, 0, 0, 0) := z_ftd (by decide +kernel)
theorem t261_58 : z_ft 261 58 = some (.invokevirtual 540, 3, none, [], 199, 0, 181, 0) := z_ftd (by decide +kernel)
theorem t261_61 : z_ft 261 61 = some (.aload_n 0, 1, none, [], 0, 0, 0, 0) := z_ftd (by decide +kernel)
theorem t261_62 : z_ft 261 62 = some (.getfield 153, 3, none, [], 12, 46, 47, 0) := z_ftd (by decide +kernel)
theorem t261_65 : z_ft 261 65 = some (.iconst 0, 1, none, [], 0, 0, 0, 0) := z_ftd (by decide +kernel)
theorem t261_66 : z_ft 261 66 = some (.dup2, 1, none, [], 0, 0, 0, 0) := z_ftd (by decide +kernel)
theorem t261_67 : z_ft 261 67 = some (.iaload, 1, none, [], 0, 0, 0, 0) := z_ftd (by decide +kernel)
theorem t261_68 : z_ft 261 68 = some (.iconst 1, 1, none, [], 0, 0, 0, 0) := z_ftd (by decide +kernel)
theorem t261_69 : z_ft 261 69 = some (.iload_n 1, 1, none, [], 0, 0, 0, 0) := z_ftd (by decide +kernel)
theorem t261_70 : z_ft 261 70 = some (.ishl, 1, none, [], 0, 0, 0, 0) := z_ftd (by decide +kernel)
theorem t261_71 : z_ft 261 71 = some (.ixor, 1, none, [], 0, 0, 0, 0) := z_ftd (by decide +kernel)
theorem t261_72 : z_ft 261 72 = some (.iastore, 1, none, [], 0, 0, 0, 0) := z_ftd (by decide +kernel)
theorem t261_73 : z_ft 261 73 = some (.iconst 1, 1, none, [], 0, 0, 0, 0) := z_ftd (by decide +kernel)
theorem t261_74 : z_ft 261 74 = some (.ireturn, 1, none, [], 0, 0, 0, 0) := z_ftd (by decide +kernel)
noncomputable def b261_43 (d : Nat)  (S : z_S) : Option (Int32 × z_S) := zk kI z_X0 d 261 43 [.ref 396, z_j, z_j] [] S
noncomputable def b261_57 (d : Nat) (y1 : Int32) (S : z_S) : Option (Int32 × z_S) := zk kI z_X0 d 261 57 [.ref 396, .int y1, z_j] [] S
theorem b261_43_eq (d : Nat)  (S : z_S) (hW : z_W S)  : b261_43 d  S = (zb (fI d 194 [.ref 396, .int (3 : Int32)] S) fun v14 S15 => (if v14 < (0 : Int32) then some ((0 : Int32), S15) else some ((1 : Int32), S15))) := by
  unfold b261_43
  refine (k_aload_n t261_43 rfl rfl).trans ?_
  refine (k_iconst t261_44 rfl zci_3).trans ?_
  refine k_callI (as := [.ref 396, .int (3 : Int32)]) (rest := []) t261_45 rfl rfl (by decide) rfl rfl (Nat.le_of_ble_eq_true rfl) rfl (z_rcV hW (zK_396) (by decide)) (by decide) (Or.inl (by decide)) hW (fun v14 S15 hW15 => ?_)
  refine (k_if_lt t261_48 rfl).trans (z_ite (fun g16 => ?_) (fun g16 => ?_))
  · refine (k_iconst t261_55 rfl zci_0).trans ?_
    refine (zk_mk (ls' := [z_j, z_j, z_j]) t261_56 rfl).trans ?_
    exact k_zretC t261_56 rfl (by decide) (by decide)
  · refine (k_iconst t261_51 rfl zci_1).trans ?_
    refine (k_goto t261_52 rfl).trans ?_
    refine (zk_mk (ls' := [z_j, z_j, z_j]) t261_56 rfl).trans ?_
    exact k_zretC t261_56 rfl (by decide) (by decide)
theorem b261_57_eq (d : Nat) (y1 : Int32) (S : z_S) (hW : z_W S)  : b261_57 d y1 S = ((fV d 199 [.ref 396] S).bind fun S18 => (if z_in (0 : Int32) 22 then (if z_in (0 : Int32) 22 then some ((1 : Int32), sI S18 422 ((0 : Int32)).toNatClampNeg ((gI S18 422 ((0 : Int32)).toNatClampNeg) ^^^ ((1 : Int32) <<< (y1 &&& 31)))) else none) else none)) := by
  unfold b261_57
  refine (k_aload_n t261_57 rfl rfl).trans ?_
  refine k_callV (as := [.ref 396]) (rest := []) t261_58 rfl rfl (by decide) rfl rfl (Nat.le_of_ble_eq_true rfl) rfl (z_rcV hW (zK_396) (by decide)) (by decide) (by decide) hW (fun S18 hW18 => ?_)
  refine (k_aload_n t261_61 rfl rfl).trans ?_
  refine (k_getR t261_62 rfl hW18 zK_396 (by decide) (by decide) (zF_396_46 hW18)).trans ?_
  refine (k_iconst t261_65 rfl zci_0).trans ?_
  refine (k_dup2IR t261_66 rfl).trans ?_
  refine (k_iald t261_67 rfl hW18 zK_422 zL_422).trans (z_ite (fun g19 => ?_) (fun _ => rfl))
  refine (k_iconst t261_68 rfl zci_1).trans ?_
  refine (k_iload_n t261_69 rfl rfl).trans ?_
  refine (k_ishl t261_70 rfl).trans ?_
  refine (k_ixor t261_71 rfl).trans ?_
  refine (k_iast t261_72 rfl hW18 zK_422 zL_422).trans (z_ite (fun g20 => ?_) (fun _ => rfl))
  refine (k_iconst t261_73 rfl zci_1).trans ?_
  exact k_zretC t261_74 rfl (by decide) (by decide)
-- X12_shut
theorem e261 (d : Nat) (x1 : Int32) (x2 : Int32) (S : z_S) (hW : z_W S)  : fI (d + 1) 261 [.ref 396, .int x1, .int x2] S = (zb (fI d 227 [.ref 396, .int x1] S) fun v1 S2 => (if v1 = (0 : Int32) then b261_43 d S2 else (zb (fI d 155 [.int x2, .int (0 : Int32), .int (1 : Int32)] S2) fun v4 S5 => (if v4 = (0 : Int32) then b261_43 d S5 else (if ¬ x2 = (1 : Int32) then (zb (fI d 207 [.ref 396, .int (0 : Int32), .int x1] S5) fun v8 S9 => (if ¬ v8 = (0 : Int32) then b261_57 d x1 S9 else b261_43 d S9)) else (zb (fI d 208 [.ref 396, .int (0 : Int32), .int x1] S5) fun v11 S12 => (if ¬ v11 = (0 : Int32) then b261_57 d x1 S12 else b261_43 d S12))))))) := by
  refine (fI_en (Nat.le_of_ble_eq_true rfl) rfl).trans ?_
  refine (k_aload_n t261_0 rfl rfl).trans ?_
  refine (k_iload_n t261_1 rfl rfl).trans ?_
  refine k_callI (as := [.ref 396, .int x1]) (rest := []) t261_2 rfl rfl (by decide) rfl rfl (Nat.le_of_ble_eq_true rfl) rfl (z_rcV hW (zK_396) (by decide)) (by decide) (Or.inr (by decide)) hW (fun v1 S2 hW2 => ?_)
  refine (k_if_eq t261_5 rfl).trans (z_ite (fun g3 => ?_) (fun g3 => ?_))
  · exact (zk_mk (ls' := [.ref 396, z_j, z_j]) t261_43 rfl)
  · refine (k_iload_n t261_8 rfl rfl).trans ?_
    refine (k_iconst t261_9 rfl zci_0).trans ?_
    refine (k_iconst t261_10 rfl zci_1).trans ?_
    refine k_callI (as := [.int x2, .int (0 : Int32), .int (1 : Int32)]) (rest := []) t261_11 rfl rfl (by decide) rfl rfl (Nat.le_of_ble_eq_true rfl) rfl (z_rcS (by decide)) (by decide) (Or.inr (by decide)) hW2 (fun v4 S5 hW5 => ?_)
    refine (k_if_eq t261_14 rfl).trans (z_ite (fun g6 => ?_) (fun g6 => ?_))
    · exact (zk_mk (ls' := [.ref 396, z_j, z_j]) t261_43 rfl)
    · refine (k_iload_n t261_17 rfl rfl).trans ?_
      refine (k_iconst t261_18 rfl zci_1).trans ?_
      refine (k_icmp_ne t261_19 rfl).trans (z_ite (fun g7 => ?_) (fun g7 => ?_))
      · refine (k_aload_n t261_34 rfl rfl).trans ?_
        refine (k_iconst t261_35 rfl zci_0).trans ?_
        refine (k_iload_n t261_36 rfl rfl).trans ?_
        refine k_callI (as := [.ref 396, .int (0 : Int32), .int x1]) (rest := []) t261_37 rfl rfl (by decide) rfl rfl (Nat.le_of_ble_eq_true rfl) rfl (z_rcV hW5 (zK_396) (by decide)) (by decide) (Or.inr (by decide)) hW5 (fun v8 S9 hW9 => ?_)
        refine (k_if_ne t261_40 rfl).trans (z_ite (fun g10 => ?_) (fun g10 => ?_))
        · exact (zk_mk (ls' := [.ref 396, .int x1, z_j]) t261_57 rfl)
        · exact (zk_mk (ls' := [.ref 396, z_j, z_j]) t261_43 rfl)
      · refine (k_aload_n t261_22 rfl rfl).trans ?_
        refine (k_iconst t261_23 rfl zci_0).trans ?_
        refine (k_iload_n t261_24 rfl rfl).trans ?_
        refine k_callI (as := [.ref 396, .int (0 : Int32), .int x1]) (rest := []) t261_25 rfl rfl (by decide) rfl rfl (Nat.le_of_ble_eq_true rfl) rfl (z_rcV hW5 (zK_396) (by decide)) (by decide) (Or.inr (by decide)) hW5 (fun v11 S12 hW12 => ?_)
        refine (k_if_ne t261_28 rfl).trans (z_ite (fun g13 => ?_) (fun g13 => ?_))
        · exact (zk_mk (ls' := [.ref 396, .int x1, z_j]) t261_57 rfl)
        · refine (k_goto t261_31 rfl).trans ?_
          exact (zk_mk (ls' := [.ref 396, z_j, z_j]) t261_43 rfl)
theorem t262_0 : z_ft 262 0 = some (.aload_n 0, 1, none, [], 0, 0, 0, 0) := z_ftd (by decide +kernel)
theorem t262_1 : z_ft 262 1 = some (.iload_n 1, 1, none, [], 0, 0, 0, 0) := z_ftd (by decide +kernel)
theorem t262_2 : z_ft 262 2 = some (.iconst 1, 1, none, [], 0, 0, 0, 0) := z_ftd (by decide +kernel)
theorem t262_3 : z_ft 262 3 = some (.bipush 40, 2, none, [], 0, 0, 0, 0) := z_ftd (by decide +kernel)
theorem t262_5 : z_ft 262 5 = some (.invokevirtual 509, 3, none, [], 235, 0, 162, 0) := z_ftd (by decide +kernel)
theorem t262_8 : z_ft 262 8 = some (.ifCond .ne 9, 3, none, [], 17, 0, 0, 0) := z_ftd (by decide +kernel)
theorem t262_11 : z_ft 262 11 = some (.aload_n 0, 1, none, [], 0, 0, 0, 0) := z_ftd (by decide +kernel)
theorem t262_12 : z_ft 262 12 = some (.iconst 2, 1, none, [], 0, 0, 0, 0) := z_ftd (by decide +kernel)
theorem t262_13 : z_ft 262 13 = some (.invokevirtual 231, 3, none, [], 194, 0, 73, 0) := z_ftd (by decide +kernel)
theorem t262_16 : z_ft 262 16 = some (.ireturn, 1, none, [], 0, 0, 0, 0) := z_ftd (by decide +kernel)
theorem t262_17 : z_ft 262 17 = some (.aload_n 0, 1, none, [], 0, 0, 0, 0) := z_ftd (by decide +kernel)
theorem t262_18 : z_ft 262 18 = some (.invokevirtual 540, 3, none, [], 199, 0, 181, 0) := z_ftd (by decide +kernel)
theorem t262_21 : z_ft 262 21 = some (.iconst 0, 1, none, [], 0, 0, 0, 0) := z_ftd (by decide +kernel)
theorem t262_22 : z_ft 262 22 = some (.istore_n 2, 1, none, [], 0, 0, 0, 0) := z_ftd (by decide +kernel)
theorem t262_23 : z_ft 262 23 = some (.iconst 0, 1, none, [], 0, 0, 0, 0) := z_ftd (by decide +kernel)
theorem t262_24 : z_ft 262 24 = some (.istore_n 3, 1, none, [], 0, 0, 0, 0) := z_ftd (by decide +kernel)
theorem t262_25 : z_ft 262 25 = some (.iload_n 3, 1, (some [0, 1, 2, 3]), [], 0, 0, 0, 0) := z_ftd (by decide +kernel)
theorem t262_26 : z_ft 262 26 = some (.iload_n 1, 1, none, [], 0, 0, 0, 0) := z_ftd (by decide +kernel)
theorem t262_27 : z_ft 262 27 = some (.if_icmp .ge 17, 3, none, [], 44, 0, 0, 0) := z_ftd (by decide +kernel)
theorem t262_30 : z_ft 262 30 = some (.iload_n 2, 1, none, [], 0, 0, 0, 0) := z_ftd (by decide +kernel)
theorem t262_31 : z_ft 262 31 = some (.aload_n 0, 1, none, [], 0, 0, 0, 0) := z_ftd (by decide +kernel)
theorem t262_32 : z_ft 262 32 = some (.iconst 0, 1, none, [], 0, 0, 0, 0) := z_ftd (by decide +kernel)
theorem t262_33 : z_ft 262 33 = some (.invokevirtual 503, 3, none, [], 226, 0, 164, 0) := z_ftd (by decide +kernel)
theorem t262_36 : z_ft 262 36 = some (.iadd, 1, none, [], 0, 0, 0, 0) := z_ftd (by decide +kernel)
theorem t262_37 : z_ft 262 37 = some (.istore_n 2, 1, none, [], 0, 0, 0, 0) := z_ftd (by decide +kernel)
theorem t262_38 : z_ft 262 38 = some (.iinc 3 1, 3, none, [], 0, 0, 0, 0) := z_ftd (by decide +kernel)
theorem t262_41 : z_ft 262 41 = some (.goto (-16), 3, none, [], 25, 0, 0, 0) := z_ftd (by decide +kernel)
theorem t262_44 : z_ft 262 44 = some (.iload_n 2, 1, none, [], 0, 0, 0, 0) := z_ftd (by decide +kernel)
theorem t262_45 : z_ft 262 45 = some (.ireturn, 1, none, [], 0, 0, 0, 0) := z_ftd (by decide +kernel)
noncomputable def b262_25 (d : Nat) (y1 : Int32) (y2 : Int32) (y3 : Int32) (S : z_S) : Option (Int32 × z_S) := zk kI z_X0 d 262 25 [.ref 396, .int y1, .int y2, .int y3] [] S
theorem b262_25_eq (d : Nat) (y1 : Int32) (y2 : Int32) (y3 : Int32) (S : z_S) (hW : z_W S)  : b262_25 d y1 y2 y3 S = (if y1 ≤ y3 then some (y2, S) else (zb (fI d 226 [.ref 396, .int (0 : Int32)] S) fun v9 S10 => b262_25 d y1 (y2 + v9) (y3 + (1 : Int32)) S10)) := by
  unfold b262_25
  refine (k_iload_n t262_25 rfl rfl).trans ?_
  refine (k_iload_n t262_26 rfl rfl).trans ?_
  refine (k_icmp_ge t262_27 rfl).trans (z_ite (fun g8 => ?_) (fun g8 => ?_))
  · refine (k_iload_n t262_44 rfl rfl).trans ?_
    exact k_ireturn t262_45 rfl (by decide)
  · refine (k_iload_n t262_30 rfl rfl).trans ?_
    refine (k_aload_n t262_31 rfl rfl).trans ?_
    refine (k_iconst t262_32 rfl zci_0).trans ?_
    refine k_callI (as := [.ref 396, .int (0 : Int32)]) (rest := [.int y2]) t262_33 rfl rfl (by decide) rfl rfl (Nat.le_of_ble_eq_true rfl) rfl (z_rcV hW (zK_396) (by decide)) (by decide) (Or.inl (by decide)) hW (fun v9 S10 hW10 => ?_)
    refine (k_iadd t262_36 rfl).trans ?_
    refine (k_istore_n (ls' := [.ref 396, .int y1, .int (y2 + v9), .int y3]) t262_37 rfl rfl).trans ?_
    refine (k_iinc (b := (y3 + (1 : Int32))) (ls' := [.ref 396, .int y1, .int (y2 + v9), .int (y3 + (1 : Int32))]) t262_38 rfl rfl (by rw [zci_1]) rfl).trans ?_
    refine (k_goto t262_41 rfl).trans ?_
    exact (zk_mk (ls' := [.ref 396, .int y1, .int (y2 + v9), .int (y3 + (1 : Int32))]) t262_25 rfl)
-- X12_nights
theorem e262 (d : Nat) (x1 : Int32) (S : z_S) (hW : z_W S)  : fI (d + 1) 262 [.ref 396, .int x1] S = (zb (fI d 235 [.ref 396, .int x1, .int (1 : Int32), .int (40 : Int32)] S) fun v1 S2 => (if ¬ v1 = (0 : Int32) then ((fV d 199 [.ref 396] S2).bind fun S5 => b262_25 d x1 (0 : Int32) (0 : Int32) S5) else (zb (fI d 194 [.ref 396, .int (2 : Int32)] S2) fun v6 S7 => some (v6, S7)))) := by
  refine (fI_en (Nat.le_of_ble_eq_true rfl) rfl).trans ?_
  refine (k_aload_n t262_0 rfl rfl).trans ?_
  refine (k_iload_n t262_1 rfl rfl).trans ?_
  refine (k_iconst t262_2 rfl zci_1).trans ?_
  refine (k_bipush t262_3 rfl zcb_40).trans ?_
  refine k_callI (as := [.ref 396, .int x1, .int (1 : Int32), .int (40 : Int32)]) (rest := []) t262_5 rfl rfl (by decide) rfl rfl (Nat.le_of_ble_eq_true rfl) rfl (z_rcV hW (zK_396) (by decide)) (by decide) (Or.inr (by decide)) hW (fun v1 S2 hW2 => ?_)
  refine (k_if_ne t262_8 rfl).trans (z_ite (fun g3 => ?_) (fun g3 => ?_))
  · refine (k_aload_n t262_17 rfl rfl).trans ?_
    refine k_callV (as := [.ref 396]) (rest := []) t262_18 rfl rfl (by decide) rfl rfl (Nat.le_of_ble_eq_true rfl) rfl (z_rcV hW2 (zK_396) (by decide)) (by decide) (by decide) hW2 (fun S5 hW5 => ?_)
    refine (k_iconst t262_21 rfl zci_0).trans ?_
    refine (k_istore_n (ls' := [.ref 396, .int x1, .int (0 : Int32), z_j]) t262_22 rfl rfl).trans ?_
    refine (k_iconst t262_23 rfl zci_0).trans ?_
    refine (k_istore_n (ls' := [.ref 396, .int x1, .int (0 : Int32), .int (0 : Int32)]) t262_24 rfl rfl).trans ?_
    exact (zk_mk (ls' := [.ref 396, .int x1, .int (0 : Int32), .int (0 : Int32)]) t262_25 rfl)
  · refine (k_aload_n t262_11 rfl rfl).trans ?_
    refine (k_iconst t262_12 rfl zci_2).trans ?_
    refine k_callI (as := [.ref 396, .int (2 : Int32)]) (rest := []) t262_13 rfl rfl (by decide) rfl rfl (Nat.le_of_ble_eq_true rfl) rfl (z_rcV hW2 (zK_396) (by decide)) (by decide) (Or.inl (by decide)) hW2 (fun v6 S7 hW7 => ?_)
    exact k_ireturn t262_16 rfl (by decide)
theorem t263_0 : z_ft 263 0 = some (.aload_n 0, 1, none, [], 0, 0, 0, 0) := z_ftd (by decide +kernel)
theorem t263_1 : z_ft 263 1 = some (.ldc2_w 543, 3, none, [], 0, 0, 183, 1103515245) := z_ftd (by decide +kernel)
theorem t263_4 : z_ft 263 4 = some (.aload_n 0, 1, none, [], 0, 0, 0, 0) := z_ftd (by decide +kernel)
theorem t263_5 : z_ft 263 5 = some (.getfield 180, 3, none, [], 12, 55, 56, 0) := z_ftd (by decide +kernel)
theorem t263_8 : z_ft 263 8 = some (.lmul, 1, none, [], 0, 0, 0, 0) := z_ftd (by decide +kernel)
theorem t263_9 : z_ft 263 9 = some (.ldc2_w 545, 3, none, [], 0, 0, 184, 12345) := z_ftd (by decide +kernel)
theorem t263_12 : z_ft 263 12 = some (.ladd, 1, none, [], 0, 0, 0, 0) := z_ftd (by decide +kernel)
theorem t263_13 : z_ft 263 13 = some (.ldc2_w 547, 3, none, [], 0, 0, 185, 2147483648) := z_ftd (by decide +kernel)
theorem t263_16 : z_ft 263 16 = some (.lrem, 1, none, [], 0, 0, 0, 0) := z_ftd (by decide +kernel)
theorem t263_17 : z_ft 263 17 = some (.putfield 180, 3, none, [], 12, 55, 56, 0) := z_ftd (by decide +kernel)
theorem t263_20 : z_ft 263 20 = some (.aload_n 0, 1, none, [], 0, 0, 0, 0) := z_ftd (by decide +kernel)
theorem t263_21 : z_ft 263 21 = some (.getfield 180, 3, none, [], 12, 55, 56, 0) := z_ftd (by decide +kernel)
theorem t263_24 : z_ft 263 24 = some (.ldc2_w 549, 3, none, [], 0, 0, 186, 64) := z_ftd (by decide +kernel)
theorem t263_27 : z_ft 263 27 = some (.ldiv, 1, none, [], 0, 0, 0, 0) := z_ftd (by decide +kernel)
theorem t263_28 : z_ft 263 28 = some (.iload_n 1, 1, none, [], 0, 0, 0, 0) := z_ftd (by decide +kernel)
theorem t263_29 : z_ft 263 29 = some (.i2l, 1, none, [], 0, 0, 0, 0) := z_ftd (by decide +kernel)
theorem t263_30 : z_ft 263 30 = some (.lrem, 1, none, [], 0, 0, 0, 0) := z_ftd (by decide +kernel)
theorem t263_31 : z_ft 263 31 = some (.l2i, 1, none, [], 0, 0, 0, 0) := z_ftd (by decide +kernel)
theorem t263_32 : z_ft 263 32 = some (.ireturn, 1, none, [], 0, 0, 0, 0) := z_ftd (by decide +kernel)
-- X12_draw
theorem e263 (d : Nat) (x1 : Int32) (S : z_S) (hW : z_W S)  : fI (d + 1) 263 [.ref 396, .int x1] S = (if (x1).toInt64 = 0 then none else some (((((gL (sL S 396 55 ((((1103515245 : Int64) * (gL S 396 55)) + (12345 : Int64)) - (((1103515245 : Int64) * (gL S 396 55)) + (12345 : Int64)) / (2147483648 : Int64) * (2147483648 : Int64))) 396 55) / (64 : Int64)) - ((gL (sL S 396 55 ((((1103515245 : Int64) * (gL S 396 55)) + (12345 : Int64)) - (((1103515245 : Int64) * (gL S 396 55)) + (12345 : Int64)) / (2147483648 : Int64) * (2147483648 : Int64))) 396 55) / (64 : Int64)) / (x1).toInt64 * (x1).toInt64)).toInt32, sL S 396 55 ((((1103515245 : Int64) * (gL S 396 55)) + (12345 : Int64)) - (((1103515245 : Int64) * (gL S 396 55)) + (12345 : Int64)) / (2147483648 : Int64) * (2147483648 : Int64)))) := by
  refine (fI_en (Nat.le_of_ble_eq_true rfl) rfl).trans ?_
  refine (k_aload_n t263_0 rfl rfl).trans ?_
  refine (k_ldc2_w t263_1 rfl zcl_1103515245).trans ?_
  refine (k_aload_n t263_4 rfl rfl).trans ?_
  refine (k_getL t263_5 rfl hW zK_396 (by decide) (by decide)).trans ?_
  refine (k_lmul t263_8 rfl).trans ?_
  refine (k_ldc2_w t263_9 rfl zcl_12345).trans ?_
  refine (k_ladd t263_12 rfl).trans ?_
  refine (k_ldc2_w t263_13 rfl zcl_2147483648).trans ?_
  refine ((k_lrem t263_16 rfl).trans (if_neg (by decide))).trans ?_
  refine (k_putL t263_17 rfl hW zK_396 (by decide) (by decide) (by decide)).trans ?_
  refine (k_aload_n t263_20 rfl rfl).trans ?_
  refine (k_getL t263_21 rfl hW.sL zK_396 (by decide) (by decide)).trans ?_
  refine (k_ldc2_w t263_24 rfl zcl_64).trans ?_
  refine ((k_ldiv t263_27 rfl).trans (if_neg (by decide))).trans ?_
  refine (k_iload_n t263_28 rfl rfl).trans ?_
  refine (k_i2l t263_29 rfl).trans ?_
  refine (k_lrem t263_30 rfl).trans (z_ite (fun g1 => rfl) (fun g1 => ?_))
  refine (k_l2i t263_31 rfl).trans ?_
  exact k_ireturn t263_32 rfl (by decide)
theorem t264_0 : z_ft 264 0 = some (.aload_n 0, 1, none, [], 0, 0, 0, 0) := z_ftd (by decide +kernel)
theorem t264_1 : z_ft 264 1 = some (.iload_n 1, 1, none, [], 0, 0, 0, 0) := z_ftd (by decide +kernel)
theorem t264_2 : z_ft 264 2 = some (.iconst 1, 1, none, [], 0, 0, 0, 0) := z_ftd (by decide +kernel)
theorem t264_3 : z_ft 264 3 = some (.bipush 40, 2, none, [], 0, 0, 0, 0) := z_ftd (by decide +kernel)
theorem t264_5 : z_ft 264 5 = some (.invokevirtual 509, 3, none, [], 235, 0, 162, 0) := z_ftd (by decide +kernel)
theorem t264_8 : z_ft 264 8 = some (.ifCond .ne 9, 3, none, [], 17, 0, 0, 0) := z_ftd (by decide +kernel)
theorem t264_11 : z_ft 264 11 = some (.aload_n 0, 1, none, [], 0, 0, 0, 0) := z_ftd (by decide +kernel)
theorem t264_12 : z_ft 264 12 = some (.iconst 2, 1, none, [], 0, 0, 0, 0) := z_ftd (by decide +kernel)
theorem t264_13 : z_ft 264 13 = some (.invokevirtual 231, 3, none, [], 194, 0, 73, 0) := z_ftd (by decide +kernel)
theorem t264_16 : z_ft 264 16 = some (.ireturn, 1, none, [], 0, 0, 0, 0) := z_ftd (by decide +kernel)
theorem t264_17 : z_ft 264 17 = some (.aload_n 0, 1, none, [], 0, 0, 0, 0) := z_ftd (by decide +kernel)
theorem t264_18 : z_ft 264 18 = some (.invokevirtual 540, 3, none, [], 199, 0, 181, 0) := z_ftd (by decide +kernel)
theorem t264_21 : z_ft 264 21 = some (.iconst 0, 1, none, [], 0, 0, 0, 0) := z_ftd (by decide +kernel)
theorem t264_22 : z_ft 264 22 = some (.istore_n 2, 1, none, [], 0, 0, 0, 0) := z_ftd (by decide +kernel)
theorem t264_23 : z_ft 264 23 = some (.iconst 0, 1, none, [], 0, 0, 0, 0) := z_ftd (by decide +kernel)
theorem t264_24 : z_ft 264 24 = some (.istore_n 3, 1, none, [], 0, 0, 0, 0) := z_ftd (by decide +kernel)
theorem t264_25 : z_ft 264 25 = some (.iload_n 3, 1, (some [0, 1, 2, 3]), [], 0, 0, 0, 0) := z_ftd (by decide +kernel)
theorem t264_26 : z_ft 264 26 = some (.iload_n 1, 1, none, [], 0, 0, 0, 0) := z_ftd (by decide +kernel)
theorem t264_27 : z_ft 264 27 = some (.if_icmp .ge 91, 3, none, [], 118, 0, 0, 0) := z_ftd (by decide +kernel)
theorem t264_30 : z_ft 264 30 = some (.aload_n 0, 1, none, [], 0, 0, 0, 0) := z_ftd (by decide +kernel)
theorem t264_31 : z_ft 264 31 = some (.bipush 100, 2, none, [], 0, 0, 0, 0) := z_ftd (by decide +kernel)
theorem t264_33 : z_ft 264 33 = some (.invokevirtual 551, 3, none, [], 263, 0, 182, 0) := z_ftd (by decide +kernel)
theorem t264_36 : z_ft 264 36 = some (.aload_n 0, 1, none, [], 0, 0, 0, 0) := z_ftd (by decide +kernel)
theorem t264_37 : z_ft 264 37 = some (.getfield 63, 3, none, [], 12, 17, 18, 0) := z_ftd (by decide +kernel)
theorem t264_40 : z_ft 264 40 = some (.aload_n 0, 1, none, [], 0, 0, 0, 0) := z_ftd (by decide +kernel)
theorem t264_41 : z_ft 264 41 = some (.getfield 51, 3, none, [], 12, 13, 14, 0) := z_ftd (by decide +kernel)
theorem t264_44 : z_ft 264 44 = some (.iaload, 1, none, [], 0, 0, 0, 0) := z_ftd (by decide +kernel)
theorem t264_45 : z_ft 264 45 = some (.if_icmp .ge 31, 3, none, [], 76, 0, 0, 0) := z_ftd (by decide +kernel)
theorem t264_48 : z_ft 264 48 = some (.aload_n 0, 1, none, [], 0, 0, 0, 0) := z_ftd (by decide +kernel)
theorem t264_49 : z_ft 264 49 = some (.getfield 66, 3, none, [], 12, 18, 19, 0) := z_ftd (by decide +kernel)
theorem t264_52 : z_ft 264 52 = some (.aload_n 0, 1, none, [], 0, 0, 0, 0) := z_ftd (by decide +kernel)
theorem t264_53 : z_ft 264 53 = some (.getfield 51, 3, none, [], 12, 13, 14, 0) := z_ftd (by decide +kernel)
theorem t264_56 : z_ft 264 56 = some (.iaload, 1, none, [], 0, 0, 0, 0) := z_ftd (by decide +kernel)
theorem t264_57 : z_ft 264 57 = some (.ifCond .le 19, 3, none, [], 76, 0, 0, 0) := z_ftd (by decide +kernel)
theorem t264_60 : z_ft 264 60 = some (.aload_n 0, 1, none, [], 0, 0, 0, 0) := z_ftd (by decide +kernel)
theorem t264_61 : z_ft 264 61 = some (.aload_n 0, 1, none, [], 0, 0, 0, 0) := z_ftd (by decide +kernel)
theorem t264_62 : z_ft 264 62 = some (.getfield 66, 3, none, [], 12, 18, 19, 0) := z_ftd (by decide +kernel)
theorem t264_65 : z_ft 264 65 = some (.aload_n 0, 1, none, [], 0, 0, 0, 0) := z_ftd (by decide +kernel)
theorem t264_66 : z_ft 264 66 = some (.getfield 51, 3, none, [], 12, 13, 14, 0) := z_ftd (by decide +kernel)
theorem t264_69 : z_ft 264 69 = some (.iaload, 1, none, [], 0, 0, 0, 0) := z_ftd (by decide +kernel)
theorem t264_70 : z_ft 264 70 = some (.invokevirtual 551, 3, none, [], 263, 0, 182, 0) := z_ftd (by decide +kernel)
theorem t264_73 : z_ft 264 73 = some (.goto 4, 3, none, [], 77, 0, 0, 0) := z_ftd (by decide +kernel)
theorem t264_76 : z_ft 264 76 = some (.iconst (-1), 1, (some [0, 1, 2, 3]), [], 0, 0, 0, 0) := z_ftd (by decide +kernel)
theorem t264_77 : z_ft 264 77 = some (.istore 4, 2, (some [0, 1, 2, 3]), [], 0, 0, 0, 0) := z_ftd (by decide +kernel)
theorem t264_79 : z_ft 264 79 = some (.iload 4, 2, none, [], 0, 0, 0, 0) := z_ftd (by decide +kernel)
theorem t264_81 : z_ft 264 81 = some (.iconst (-1), 1, none, [], 0, 0, 0, 0) := z_ftd (by decide +kernel)
theorem t264_82 : z_ft 264 82 = some (.if_icmp .eq 24, 3, none, [], 106, 0, 0, 0) := z_ftd (by decide +kernel)
theorem t264_85 : z_ft 264 85 = some (.aload_n 0, 1, none, [], 0, 0, 0, 0) := z_ftd (by decide +kernel)
theorem t264_86 : z_ft 264 86 = some (.iconst 0, 1, none, [], 0, 0, 0, 0) := z_ftd (by decide +kernel)
theorem t264_87 : z_ft 264 87 = some (.iload 4, 2, none, [], 0, 0, 0, 0) := z_ftd (by decide +kernel)
theorem t264_89 : z_ft 264 89 = some (.invokevirtual 506, 3, none, [], 215, 0, 161, 0) := z_ftd (by decide +kernel)
theorem t264_92 : z_ft 264 92 = some (.ifCond .eq 14, 3, none, [], 106, 0, 0, 0) := z_ftd (by decide +kernel)
theorem t264_95 : z_ft 264 95 = some (.aload_n 0, 1, none, [], 0, 0, 0, 0) := z_ftd (by decide +kernel)
theorem t264_96 : z_ft 264 96 = some (.iconst 0, 1, none, [], 0, 0, 0, 0) := z_ftd (by decide +kernel)
theorem t264_97 : z_ft 264 97 = some (.iload 4, 2, none, [], 0, 0, 0, 0) := z_ftd (by decide +kernel)
theorem t264_99 : z_ft 264 99 = some (.invokevirtual 401, 3, none, [], 220, 0, 134, 0) := z_ftd (by decide +kernel)
theorem t264_102 : z_ft 264 102 = some (.pop, 1, none, [], 0, 0, 0, 0) := z_ftd (by decide +kernel)
theorem t264_103 : z_ft 264 103 = some (.iinc 2 1, 3, none, [], 0, 0, 0, 0) := z_ftd (by decide +kernel)
theorem t264_106 : z_ft 264 106 = some (.aload_n 0, 1, (some [0, 1, 2, 3]), [], 0, 0, 0, 0) := z_ftd (by decide +kernel)
theorem t264_107 : z_ft 264 107 = some (.iconst 0, 1, none, [], 0, 0, 0, 0) := z_ftd (by decide +kernel)
theorem t264_108 : z_ft 264 108 = some (.invokevirtual 503, 3, none, [], 226, 0, 164, 0) := z_ftd (by decide +kernel)
theorem t264_111 : z_ft 264 111 = some (.pop, 1, none, [], 0, 0, 0, 0) := z_ftd (by decide +kernel)
theorem t264_112 : z_ft 264 112 = some (.iinc 3 1, 3, none, [], 0, 0, 0, 0) := z_ftd (by decide +kernel)
theorem t264_115 : z_ft 264 115 = some (.goto (-90), 3, none, [], 25, 0, 0, 0) := z_ftd (by decide +kernel)
theorem t264_118 : z_ft 264 118 = some (.iload_n 2, 1, none, [], 0, 0, 0, 0) := z_ftd (by decide +kernel)
theorem t264_119 : z_ft 264 119 = some (.ireturn, 1, none, [], 0, 0, 0, 0) := z_ftd (by decide +kernel)
noncomputable def b264_25 (d : Nat) (y1 : Int32) (y2 : Int32) (y3 : Int32) (S : z_S) : Option (Int32 × z_S) := zk kI z_X0 d 264 25 [.ref 396, .int y1, .int y2, .int y3, z_j] [] S
noncomputable def b264_76 (d : Nat) (y1 : Int32) (y2 : Int32) (y3 : Int32) (S : z_S) : Option (Int32 × z_S) := zk kI z_X0 d 264 76 [.ref 396, .int y1, .int y2, .int y3, z_j] [] S
noncomputable def b264_77 (d : Nat) (y1 : Int32) (y2 : Int32) (y3 : Int32) (s0 : Int32) (S : z_S) : Option (Int32 × z_S) := zk kI z_X0 d 264 77 [.ref 396, .int y1, .int y2, .int y3, z_j] [.int s0] S
noncomputable def b264_106 (d : Nat) (y1 : Int32) (y2 : Int32) (y3 : Int32) (S : z_S) : Option (Int32 × z_S) := zk kI z_X0 d 264 106 [.ref 396, .int y1, .int y2, .int y3, z_j] [] S
theorem b264_25_eq (d : Nat) (y1 : Int32) (y2 : Int32) (y3 : Int32) (S : z_S) (hW : z_W S)  : b264_25 d y1 y2 y3 S = (if y1 ≤ y3 then some (y2, S) else (zb (fI d 263 [.ref 396, .int (100 : Int32)] S) fun v9 S10 => (if z_in (gI S10 396 13) 2 then (if (gI S10 401 ((gI S10 396 13)).toNatClampNeg) ≤ v9 then b264_76 d y1 y2 y3 S10 else (if z_in (gI S10 396 13) 2 then (if (gI S10 402 ((gI S10 396 13)).toNatClampNeg) ≤ (0 : Int32) then b264_76 d y1 y2 y3 S10 else (if z_in (gI S10 396 13) 2 then (zb (fI d 263 [.ref 396, .int (gI S10 402 ((gI S10 396 13)).toNatClampNeg)] S10) fun v16 S17 => b264_77 d y1 y2 y3 v16 S17) else none)) else none)) else none))) := by
  unfold b264_25
  refine (k_iload_n t264_25 rfl rfl).trans ?_
  refine (k_iload_n t264_26 rfl rfl).trans ?_
  refine (k_icmp_ge t264_27 rfl).trans (z_ite (fun g8 => ?_) (fun g8 => ?_))
  · refine (k_iload_n t264_118 rfl rfl).trans ?_
    exact k_ireturn t264_119 rfl (by decide)
  · refine (k_aload_n t264_30 rfl rfl).trans ?_
    refine (k_bipush t264_31 rfl zcb_100).trans ?_
    refine k_callI (as := [.ref 396, .int (100 : Int32)]) (rest := []) t264_33 rfl rfl (by decide) rfl rfl (Nat.le_of_ble_eq_true rfl) rfl (z_rcV hW (zK_396) (by decide)) (by decide) (Or.inl (by decide)) hW (fun v9 S10 hW10 => ?_)
    refine (k_aload_n t264_36 rfl rfl).trans ?_
    refine (k_getR t264_37 rfl hW10 zK_396 (by decide) (by decide) (zF_396_17 hW10)).trans ?_
    refine (k_aload_n t264_40 rfl rfl).trans ?_
    refine (k_getI t264_41 rfl hW10 zK_396 (by decide) (by decide)).trans ?_
    refine (k_iald t264_44 rfl hW10 zK_401 zL_401).trans (z_ite (fun g11 => ?_) (fun _ => rfl))
    refine (k_icmp_ge t264_45 rfl).trans (z_ite (fun g12 => ?_) (fun g12 => ?_))
    · exact (zk_mk (ls' := [.ref 396, .int y1, .int y2, .int y3, z_j]) t264_76 rfl)
    · refine (k_aload_n t264_48 rfl rfl).trans ?_
      refine (k_getR t264_49 rfl hW10 zK_396 (by decide) (by decide) (zF_396_18 hW10)).trans ?_
      refine (k_aload_n t264_52 rfl rfl).trans ?_
      refine (k_getI t264_53 rfl hW10 zK_396 (by decide) (by decide)).trans ?_
      refine (k_iald t264_56 rfl hW10 zK_402 zL_402).trans (z_ite (fun g13 => ?_) (fun _ => rfl))
      refine (k_if_le t264_57 rfl).trans (z_ite (fun g14 => ?_) (fun g14 => ?_))
      · exact (zk_mk (ls' := [.ref 396, .int y1, .int y2, .int y3, z_j]) t264_76 rfl)
      · refine (k_aload_n t264_60 rfl rfl).trans ?_
        refine (k_aload_n t264_61 rfl rfl).trans ?_
        refine (k_getR t264_62 rfl hW10 zK_396 (by decide) (by decide) (zF_396_18 hW10)).trans ?_
        refine (k_aload_n t264_65 rfl rfl).trans ?_
        refine (k_getI t264_66 rfl hW10 zK_396 (by decide) (by decide)).trans ?_
        refine (k_iald t264_69 rfl hW10 zK_402 zL_402).trans (z_ite (fun g15 => ?_) (fun _ => rfl))
        refine k_callI (as := [.ref 396, .int (gI S10 402 ((gI S10 396 13)).toNatClampNeg)]) (rest := []) t264_70 rfl rfl (by decide) rfl rfl (Nat.le_of_ble_eq_true rfl) rfl (z_rcV hW10 (zK_396) (by decide)) (by decide) (Or.inl (by decide)) hW10 (fun v16 S17 hW17 => ?_)
        refine (k_goto t264_73 rfl).trans ?_
        exact (zk_mk (ls' := [.ref 396, .int y1, .int y2, .int y3, z_j]) t264_77 rfl)
theorem b264_76_eq (d : Nat) (y1 : Int32) (y2 : Int32) (y3 : Int32) (S : z_S) (hW : z_W S)  : b264_76 d y1 y2 y3 S = b264_77 d y1 y2 y3 (-1 : Int32) S := by
  unfold b264_76
  refine (k_iconst t264_76 rfl zci_m1).trans ?_
  exact (zk_mk (ls' := [.ref 396, .int y1, .int y2, .int y3, z_j]) t264_77 rfl)
theorem b264_77_eq (d : Nat) (y1 : Int32) (y2 : Int32) (y3 : Int32) (s0 : Int32) (S : z_S) (hW : z_W S)  : b264_77 d y1 y2 y3 s0 S = (if s0 = (-1 : Int32) then b264_106 d y1 y2 y3 S else (zb (fI d 215 [.ref 396, .int (0 : Int32), .int s0] S) fun v19 S20 => (if v19 = (0 : Int32) then b264_106 d y1 y2 y3 S20 else (zb (fI d 220 [.ref 396, .int (0 : Int32), .int s0] S20) fun v22 S23 => b264_106 d y1 (y2 + (1 : Int32)) y3 S23)))) := by
  unfold b264_77
  refine (k_istore (ls' := [.ref 396, .int y1, .int y2, .int y3, .int s0]) t264_77 rfl rfl).trans ?_
  refine (k_iload t264_79 rfl rfl).trans ?_
  refine (k_iconst t264_81 rfl zci_m1).trans ?_
  refine (k_icmp_eq t264_82 rfl).trans (z_ite (fun g18 => ?_) (fun g18 => ?_))
  · exact (zk_mk (ls' := [.ref 396, .int y1, .int y2, .int y3, z_j]) t264_106 rfl)
  · refine (k_aload_n t264_85 rfl rfl).trans ?_
    refine (k_iconst t264_86 rfl zci_0).trans ?_
    refine (k_iload t264_87 rfl rfl).trans ?_
    refine k_callI (as := [.ref 396, .int (0 : Int32), .int s0]) (rest := []) t264_89 rfl rfl (by decide) rfl rfl (Nat.le_of_ble_eq_true rfl) rfl (z_rcV hW (zK_396) (by decide)) (by decide) (Or.inr (by decide)) hW (fun v19 S20 hW20 => ?_)
    refine (k_if_eq t264_92 rfl).trans (z_ite (fun g21 => ?_) (fun g21 => ?_))
    · exact (zk_mk (ls' := [.ref 396, .int y1, .int y2, .int y3, z_j]) t264_106 rfl)
    · refine (k_aload_n t264_95 rfl rfl).trans ?_
      refine (k_iconst t264_96 rfl zci_0).trans ?_
      refine (k_iload t264_97 rfl rfl).trans ?_
      refine k_callI (as := [.ref 396, .int (0 : Int32), .int s0]) (rest := []) t264_99 rfl rfl (by decide) rfl rfl (Nat.le_of_ble_eq_true rfl) rfl (z_rcV hW20 (zK_396) (by decide)) (by decide) (Or.inl (by decide)) hW20 (fun v22 S23 hW23 => ?_)
      refine (k_popI t264_102 rfl).trans ?_
      refine (k_iinc (b := (y2 + (1 : Int32))) (ls' := [.ref 396, .int y1, .int (y2 + (1 : Int32)), .int y3, .int s0]) t264_103 rfl rfl (by rw [zci_1]) rfl).trans ?_
      exact (zk_mk (ls' := [.ref 396, .int y1, .int (y2 + (1 : Int32)), .int y3, z_j]) t264_106 rfl)
theorem b264_106_eq (d : Nat) (y1 : Int32) (y2 : Int32) (y3 : Int32) (S : z_S) (hW : z_W S)  : b264_106 d y1 y2 y3 S = (zb (fI d 226 [.ref 396, .int (0 : Int32)] S) fun v24 S25 => b264_25 d y1 y2 (y3 + (1 : Int32)) S25) := by
  unfold b264_106
  refine (k_aload_n t264_106 rfl rfl).trans ?_
  refine (k_iconst t264_107 rfl zci_0).trans ?_
  refine k_callI (as := [.ref 396, .int (0 : Int32)]) (rest := []) t264_108 rfl rfl (by decide) rfl rfl (Nat.le_of_ble_eq_true rfl) rfl (z_rcV hW (zK_396) (by decide)) (by decide) (Or.inl (by decide)) hW (fun v24 S25 hW25 => ?_)
  refine (k_popI t264_111 rfl).trans ?_
  refine (k_iinc (b := (y3 + (1 : Int32))) (ls' := [.ref 396, .int y1, .int y2, .int (y3 + (1 : Int32)), z_j]) t264_112 rfl rfl (by rw [zci_1]) rfl).trans ?_
  refine (k_goto t264_115 rfl).trans ?_
  exact (zk_mk (ls' := [.ref 396, .int y1, .int y2, .int (y3 + (1 : Int32)), z_j]) t264_25 rfl)
-- X12_chance
theorem e264 (d : Nat) (x1 : Int32) (S : z_S) (hW : z_W S)  : fI (d + 1) 264 [.ref 396, .int x1] S = (zb (fI d 235 [.ref 396, .int x1, .int (1 : Int32), .int (40 : Int32)] S) fun v1 S2 => (if ¬ v1 = (0 : Int32) then ((fV d 199 [.ref 396] S2).bind fun S5 => b264_25 d x1 (0 : Int32) (0 : Int32) S5) else (zb (fI d 194 [.ref 396, .int (2 : Int32)] S2) fun v6 S7 => some (v6, S7)))) := by
  refine (fI_en (Nat.le_of_ble_eq_true rfl) rfl).trans ?_
  refine (k_aload_n t264_0 rfl rfl).trans ?_
  refine (k_iload_n t264_1 rfl rfl).trans ?_
  refine (k_iconst t264_2 rfl zci_1).trans ?_
  refine (k_bipush t264_3 rfl zcb_40).trans ?_
  refine k_callI (as := [.ref 396, .int x1, .int (1 : Int32), .int (40 : Int32)]) (rest := []) t264_5 rfl rfl (by decide) rfl rfl (Nat.le_of_ble_eq_true rfl) rfl (z_rcV hW (zK_396) (by decide)) (by decide) (Or.inr (by decide)) hW (fun v1 S2 hW2 => ?_)
  refine (k_if_ne t264_8 rfl).trans (z_ite (fun g3 => ?_) (fun g3 => ?_))
  · refine (k_aload_n t264_17 rfl rfl).trans ?_
    refine k_callV (as := [.ref 396]) (rest := []) t264_18 rfl rfl (by decide) rfl rfl (Nat.le_of_ble_eq_true rfl) rfl (z_rcV hW2 (zK_396) (by decide)) (by decide) (by decide) hW2 (fun S5 hW5 => ?_)
    refine (k_iconst t264_21 rfl zci_0).trans ?_
    refine (k_istore_n (ls' := [.ref 396, .int x1, .int (0 : Int32), z_j, z_j]) t264_22 rfl rfl).trans ?_
    refine (k_iconst t264_23 rfl zci_0).trans ?_
    refine (k_istore_n (ls' := [.ref 396, .int x1, .int (0 : Int32), .int (0 : Int32), z_j]) t264_24 rfl rfl).trans ?_
    exact (zk_mk (ls' := [.ref 396, .int x1, .int (0 : Int32), .int (0 : Int32), z_j]) t264_25 rfl)
  · refine (k_aload_n t264_11 rfl rfl).trans ?_
    refine (k_iconst t264_12 rfl zci_2).trans ?_
    refine k_callI (as := [.ref 396, .int (2 : Int32)]) (rest := []) t264_13 rfl rfl (by decide) rfl rfl (Nat.le_of_ble_eq_true rfl) rfl (z_rcV hW2 (zK_396) (by decide)) (by decide) (Or.inl (by decide)) hW2 (fun v6 S7 hW7 => ?_)
    exact k_ireturn t264_16 rfl (by decide)
theorem t265_0 : z_ft 265 0 = some (.iload_n 1, 1, none, [], 0, 0, 0, 0) := z_ftd (by decide +kernel)
theorem t265_1 : z_ft 265 1 = some (.ifCond .ge 17, 3, none, [], 18, 0, 0, 0) := z_ftd (by decide +kernel)
theorem t265_4 : z_ft 265 4 = some (.aload_n 0, 1, none, [], 0, 0, 0, 0) := z_ftd (by decide +kernel)
theorem t265_5 : z_ft 265 5 = some (.iconst 5, 1, none, [], 0, 0, 0, 0) := z_ftd (by decide +kernel)
theorem t265_6 : z_ft 265 6 = some (.invokevirtual 231, 3, none, [], 194, 0, 73, 0) := z_ftd (by decide +kernel)
theorem t265_9 : z_ft 265 9 = some (.ifCond .lt 7, 3, none, [], 16, 0, 0, 0) := z_ftd (by decide +kernel)
theorem t265_12 : z_ft 265 12 = some (.iconst 1, 1, none, [], 0, 0, 0, 0) := z_ftd (by decide +kernel)
theorem t265_13 : z_ft 265 13 = some (.goto 4, 3, none, [], 17, 0, 0, 0) := z_ftd (by decide +kernel)
theorem t265_16 : z_ft 265 16 = some (.iconst 0, 1, none, [], 0, 0, 0, 0) := z_ftd (by decide +kernel)
theorem t265_17 : z_ft 265 17 = some (.ireturn, 1, (some []), [], 0, 0, 0, 0) := z_ftd (by decide +kernel)
theorem t265_18 : z_ft 265 18 = some (.aload_n 0, 1, none, [], 0, 0, 0, 0) := z_ftd (by decide +kernel)
theorem t265_19 : z_ft 265 19 = some (.iload_n 1, 1, none, [], 0, 0, 0, 0) := z_ftd (by decide +kernel)
theorem t265_20 : z_ft 265 20 = some (.i2l, 1, none, [], 0, 0, 0, 0) := z_ftd (by decide +kernel)
theorem t265_21 : z_ft 265 21 = some (.putfield 180, 3, none, [], 12, 55, 56, 0) := z_ftd (by decide +kernel)
theorem t265_24 : z_ft 265 24 = some (.iconst 1, 1, none, [], 0, 0, 0, 0) := z_ftd (by decide +kernel)
theorem t265_25 : z_ft 265 25 = some (.ireturn, 1, none, [], 0, 0, 0, 0) := z_ftd (by decide +kernel)
-- X12_seed
theorem e265 (d : Nat) (x1 : Int32) (S : z_S) (hW : z_W S)  : fI (d + 1) 265 [.ref 396, .int x1] S = (if (0 : Int32) ≤ x1 then some ((1 : Int32), sL S 396 55 (x1).toInt64) else (zb (fI d 194 [.ref 396, .int (5 : Int32)] S) fun v2 S3 => (if v2 < (0 : Int32) then some ((0 : Int32), S3) else some ((1 : Int32), S3)))) := by
  refine (fI_en (Nat.le_of_ble_eq_true rfl) rfl).trans ?_
  refine (k_iload_n t265_0 rfl rfl).trans ?_
  refine (k_if_ge t265_1 rfl).trans (z_ite (fun g1 => ?_) (fun g1 => ?_))
  · refine (k_aload_n t265_18 rfl rfl).trans ?_
    refine (k_iload_n t265_19 rfl rfl).trans ?_
    refine (k_i2l t265_20 rfl).trans ?_
    refine (k_putL t265_21 rfl hW zK_396 (by decide) (by decide) (by decide)).trans ?_
    refine (k_iconst t265_24 rfl zci_1).trans ?_
    exact k_zretC t265_25 rfl (by decide) (by decide)
  · refine (k_aload_n t265_4 rfl rfl).trans ?_
    refine (k_iconst t265_5 rfl zci_5).trans ?_
    refine k_callI (as := [.ref 396, .int (5 : Int32)]) (rest := []) t265_6 rfl rfl (by decide) rfl rfl (Nat.le_of_ble_eq_true rfl) rfl (z_rcV hW (zK_396) (by decide)) (by decide) (Or.inl (by decide)) hW (fun v2 S3 hW3 => ?_)
    refine (k_if_lt t265_9 rfl).trans (z_ite (fun g4 => ?_) (fun g4 => ?_))
    · refine (k_iconst t265_16 rfl zci_0).trans ?_
      refine (zk_mk (ls' := [z_j, z_j]) t265_17 rfl).trans ?_
      exact k_zretC t265_17 rfl (by decide) (by decide)
    · refine (k_iconst t265_12 rfl zci_1).trans ?_
      refine (k_goto t265_13 rfl).trans ?_
      refine (zk_mk (ls' := [z_j, z_j]) t265_17 rfl).trans ?_
      exact k_zretC t265_17 rfl (by decide) (by decide)
theorem t266_0 : z_ft 266 0 = some (.iload_n 1, 1, none, [], 0, 0, 0, 0) := z_ftd (by decide +kernel)
theorem t266_1 : z_ft 266 1 = some (.iconst 0, 1, none, [], 0, 0, 0, 0) := z_ftd (by decide +kernel)
theorem t266_2 : z_ft 266 2 = some (.aload_n 0, 1, none, [], 0, 0, 0, 0) := z_ftd (by decide +kernel)
theorem t266_3 : z_ft 266 3 = some (.getfield 168, 3, none, [], 12, 51, 52, 0) := z_ftd (by decide +kernel)
theorem t266_6 : z_ft 266 6 = some (.iconst 0, 1, none, [], 0, 0, 0, 0) := z_ftd (by decide +kernel)
theorem t266_7 : z_ft 266 7 = some (.iaload, 1, none, [], 0, 0, 0, 0) := z_ftd (by decide +kernel)
theorem t266_8 : z_ft 266 8 = some (.iconst 1, 1, none, [], 0, 0, 0, 0) := z_ftd (by decide +kernel)
theorem t266_9 : z_ft 266 9 = some (.isub, 1, none, [], 0, 0, 0, 0) := z_ftd (by decide +kernel)
theorem t266_10 : z_ft 266 10 = some (.invokestatic 307, 3, none, [], 155, 0, 85, 0) := z_ftd (by decide +kernel)
theorem t266_13 : z_ft 266 13 = some (.ifCond .eq 25, 3, none, [], 38, 0, 0, 0) := z_ftd (by decide +kernel)
theorem t266_16 : z_ft 266 16 = some (.iload_n 2, 1, none, [], 0, 0, 0, 0) := z_ftd (by decide +kernel)
theorem t266_17 : z_ft 266 17 = some (.iconst 0, 1, none, [], 0, 0, 0, 0) := z_ftd (by decide +kernel)
theorem t266_18 : z_ft 266 18 = some (.iconst 2, 1, none, [], 0, 0, 0, 0) := z_ftd (by decide +kernel)
theorem t266_19 : z_ft 266 19 = some (.invokestatic 307, 3, none, [], 155, 0, 85, 0) := z_ftd (by decide +kernel)
theorem t266_22 : z_ft 266 22 = some (.ifCond .eq 16, 3, none, [], 38, 0, 0, 0) := z_ftd (by decide +kernel)
theorem t266_25 : z_ft 266 25 = some (.aload_n 0, 1, none, [], 0, 0, 0, 0) := z_ftd (by decide +kernel)
theorem t266_26 : z_ft 266 26 = some (.getfield 171, 3, none, [], 12, 52, 53, 0) := z_ftd (by decide +kernel)
theorem t266_29 : z_ft 266 29 = some (.iconst 3, 1, none, [], 0, 0, 0, 0) := z_ftd (by decide +kernel)
theorem t266_30 : z_ft 266 30 = some (.iload_n 1, 1, none, [], 0, 0, 0, 0) := z_ftd (by decide +kernel)
theorem t266_31 : z_ft 266 31 = some (.imul, 1, none, [], 0, 0, 0, 0) := z_ftd (by decide +kernel)
theorem t266_32 : z_ft 266 32 = some (.iload_n 2, 1, none, [], 0, 0, 0, 0) := z_ftd (by decide +kernel)
theorem t266_33 : z_ft 266 33 = some (.iadd, 1, none, [], 0, 0, 0, 0) := z_ftd (by decide +kernel)
theorem t266_34 : z_ft 266 34 = some (.iaload, 1, none, [], 0, 0, 0, 0) := z_ftd (by decide +kernel)
theorem t266_35 : z_ft 266 35 = some (.goto 4, 3, none, [], 39, 0, 0, 0) := z_ftd (by decide +kernel)
theorem t266_38 : z_ft 266 38 = some (.iconst (-1), 1, (some []), [], 0, 0, 0, 0) := z_ftd (by decide +kernel)
theorem t266_39 : z_ft 266 39 = some (.ireturn, 1, (some []), [], 0, 0, 0, 0) := z_ftd (by decide +kernel)
noncomputable def b266_38 (d : Nat)  (S : z_S) : Option (Int32 × z_S) := zk kI z_X0 d 266 38 [z_j, z_j, z_j] [] S
theorem b266_38_eq (d : Nat)  (S : z_S) (hW : z_W S)  : b266_38 d  S = some ((-1 : Int32), S) := by
  unfold b266_38
  refine (k_iconst t266_38 rfl zci_m1).trans ?_
  refine (zk_mk (ls' := [z_j, z_j, z_j]) t266_39 rfl).trans ?_
  exact k_ireturn t266_39 rfl (by decide)
-- X12_kept
theorem e266 (d : Nat) (x1 : Int32) (x2 : Int32) (S : z_S) (hW : z_W S)  : fI (d + 1) 266 [.ref 396, .int x1, .int x2] S = (if z_in (0 : Int32) 22 then (zb (fI d 155 [.int x1, .int (0 : Int32), .int ((gI S 427 ((0 : Int32)).toNatClampNeg) - (1 : Int32))] S) fun v2 S3 => (if v2 = (0 : Int32) then b266_38 d S3 else (zb (fI d 155 [.int x2, .int (0 : Int32), .int (2 : Int32)] S3) fun v5 S6 => (if v5 = (0 : Int32) then b266_38 d S6 else (if z_in (((3 : Int32) * x1) + x2) 2640 then some ((gI S6 428 ((((3 : Int32) * x1) + x2)).toNatClampNeg), S6) else none))))) else none) := by
  refine (fI_en (Nat.le_of_ble_eq_true rfl) rfl).trans ?_
  refine (k_iload_n t266_0 rfl rfl).trans ?_
  refine (k_iconst t266_1 rfl zci_0).trans ?_
  refine (k_aload_n t266_2 rfl rfl).trans ?_
  refine (k_getR t266_3 rfl hW zK_396 (by decide) (by decide) (zF_396_51 hW)).trans ?_
  refine (k_iconst t266_6 rfl zci_0).trans ?_
  refine (k_iald t266_7 rfl hW zK_427 zL_427).trans (z_ite (fun g1 => ?_) (fun _ => rfl))
  refine (k_iconst t266_8 rfl zci_1).trans ?_
  refine (k_isub t266_9 rfl).trans ?_
  refine k_callI (as := [.int x1, .int (0 : Int32), .int ((gI S 427 ((0 : Int32)).toNatClampNeg) - (1 : Int32))]) (rest := []) t266_10 rfl rfl (by decide) rfl rfl (Nat.le_of_ble_eq_true rfl) rfl (z_rcS (by decide)) (by decide) (Or.inr (by decide)) hW (fun v2 S3 hW3 => ?_)
  refine (k_if_eq t266_13 rfl).trans (z_ite (fun g4 => ?_) (fun g4 => ?_))
  · exact (zk_mk (ls' := [z_j, z_j, z_j]) t266_38 rfl)
  · refine (k_iload_n t266_16 rfl rfl).trans ?_
    refine (k_iconst t266_17 rfl zci_0).trans ?_
    refine (k_iconst t266_18 rfl zci_2).trans ?_
    refine k_callI (as := [.int x2, .int (0 : Int32), .int (2 : Int32)]) (rest := []) t266_19 rfl rfl (by decide) rfl rfl (Nat.le_of_ble_eq_true rfl) rfl (z_rcS (by decide)) (by decide) (Or.inr (by decide)) hW3 (fun v5 S6 hW6 => ?_)
    refine (k_if_eq t266_22 rfl).trans (z_ite (fun g7 => ?_) (fun g7 => ?_))
    · exact (zk_mk (ls' := [z_j, z_j, z_j]) t266_38 rfl)
    · refine (k_aload_n t266_25 rfl rfl).trans ?_
      refine (k_getR t266_26 rfl hW6 zK_396 (by decide) (by decide) (zF_396_52 hW6)).trans ?_
      refine (k_iconst t266_29 rfl zci_3).trans ?_
      refine (k_iload_n t266_30 rfl rfl).trans ?_
      refine (k_imul t266_31 rfl).trans ?_
      refine (k_iload_n t266_32 rfl rfl).trans ?_
      refine (k_iadd t266_33 rfl).trans ?_
      refine (k_iald t266_34 rfl hW6 zK_428 zL_428).trans (z_ite (fun g8 => ?_) (fun _ => rfl))
      refine (k_goto t266_35 rfl).trans ?_
      refine (zk_mk (ls' := [z_j, z_j, z_j]) t266_39 rfl).trans ?_
      exact k_ireturn t266_39 rfl (by decide)
theorem t267_0 : z_ft 267 0 = some (.aload_n 0, 1, none, [], 0, 0, 0, 0) := z_ftd (by decide +kernel)
theorem t267_1 : z_ft 267 1 = some (.getfield 225, 3, none, [], 12, 70, 71, 0) := z_ftd (by decide +kernel)
theorem t267_4 : z_ft 267 4 = some (.aload_n 0, 1, none, [], 0, 0, 0, 0) := z_ftd (by decide +kernel)
theorem t267_5 : z_ft 267 5 = some (.getfield 228, 3, none, [], 12, 71, 72, 0) := z_ftd (by decide +kernel)
theorem t267_8 : z_ft 267 8 = some (.iload_n 1, 1, none, [], 0, 0, 0, 0) := z_ftd (by decide +kernel)
theorem t267_9 : z_ft 267 9 = some (.sipush 255, 3, none, [], 0, 0, 0, 0) := z_ftd (by decide +kernel)
theorem t267_12 : z_ft 267 12 = some (.iand, 1, none, [], 0, 0, 0, 0) := z_ftd (by decide +kernel)
theorem t267_13 : z_ft 267 13 = some (.iastore, 1, none, [], 0, 0, 0, 0) := z_ftd (by decide +kernel)
theorem t267_14 : z_ft 267 14 = some (.aload_n 0, 1, none, [], 0, 0, 0, 0) := z_ftd (by decide +kernel)
theorem t267_15 : z_ft 267 15 = some (.dup, 1, none, [], 0, 0, 0, 0) := z_ftd (by decide +kernel)
theorem t267_16 : z_ft 267 16 = some (.getfield 228, 3, none, [], 12, 71, 72, 0) := z_ftd (by decide +kernel)
theorem t267_19 : z_ft 267 19 = some (.iconst 1, 1, none, [], 0, 0, 0, 0) := z_ftd (by decide +kernel)
theorem t267_20 : z_ft 267 20 = some (.iadd, 1, none, [], 0, 0, 0, 0) := z_ftd (by decide +kernel)
theorem t267_21 : z_ft 267 21 = some (.putfield 228, 3, none, [], 12, 71, 72, 0) := z_ftd (by decide +kernel)
theorem t267_24 : z_ft 267 24 = some (.return_, 1, none, [], 0, 0, 0, 0) := z_ftd (by decide +kernel)
-- X12_writes
theorem e267 (d : Nat) (x1 : Int32) (S : z_S) (hW : z_W S)  : fV (d + 1) 267 [.ref 396, .int x1] S = (if z_in (gI S 396 71) 70 then some (sI (sI S 441 ((gI S 396 71)).toNatClampNeg (x1 &&& (255 : Int32))) 396 71 ((gI (sI S 441 ((gI S 396 71)).toNatClampNeg (x1 &&& (255 : Int32))) 396 71) + (1 : Int32))) else none) := by
  refine (fV_en (Nat.le_of_ble_eq_true rfl) rfl).trans ?_
  refine (k_aload_n t267_0 rfl rfl).trans ?_
  refine (k_getR t267_1 rfl hW zK_396 (by decide) (by decide) (zF_396_70 hW)).trans ?_
  refine (k_aload_n t267_4 rfl rfl).trans ?_
  refine (k_getI t267_5 rfl hW zK_396 (by decide) (by decide)).trans ?_
  refine (k_iload_n t267_8 rfl rfl).trans ?_
  refine (k_sipush t267_9 rfl zcs_255).trans ?_
  refine (k_iand t267_12 rfl).trans ?_
  refine (k_iast t267_13 rfl hW zK_441 zL_441).trans (z_ite (fun g1 => ?_) (fun _ => rfl))
  refine (k_aload_n t267_14 rfl rfl).trans ?_
  refine (k_dupR t267_15 rfl).trans ?_
  refine (k_getI t267_16 rfl hW.sI zK_396 (by decide) (by decide)).trans ?_
  refine (k_iconst t267_19 rfl zci_1).trans ?_
  refine (k_iadd t267_20 rfl).trans ?_
  refine (k_putI t267_21 rfl hW.sI zK_396 (by decide) (by decide) (by decide)).trans ?_
  exact k_return t267_24 rfl (by decide)
theorem t268_0 : z_ft 268 0 = some (.aload_n 0, 1, none, [], 0, 0, 0, 0) := z_ftd (by decide +kernel)
theorem t268_1 : z_ft 268 1 = some (.iconst 0, 1, none, [], 0, 0, 0, 0) := z_ftd (by decide +kernel)
theorem t268_2 : z_ft 268 2 = some (.putfield 228, 3, none, [], 12, 71, 72, 0) := z_ftd (by decide +kernel)
theorem t268_5 : z_ft 268 5 = some (.aload_n 0, 1, none, [], 0, 0, 0, 0) := z_ftd (by decide +kernel)
theorem t268_6 : z_ft 268 6 = some (.aload_n 0, 1, none, [], 0, 0, 0, 0) := z_ftd (by decide +kernel)
theorem t268_7 : z_ft 268 7 = some (.getfield 147, 3, none, [], 12, 44, 45, 0) := z_ftd (by decide +kernel)
theorem t268_10 : z_ft 268 10 = some (.iconst 0, 1, none, [], 0, 0, 0, 0) := z_ftd (by decide +kernel)
theorem t268_11 : z_ft 268 11 = some (.iaload, 1, none, [], 0, 0, 0, 0) := z_ftd (by decide +kernel)
theorem t268_12 : z_ft 268 12 = some (.bipush 8, 2, none, [], 0, 0, 0, 0) := z_ftd (by decide +kernel)
theorem t268_14 : z_ft 268 14 = some (.ishr, 1, none, [], 0, 0, 0, 0) := z_ftd (by decide +kernel)
theorem t268_15 : z_ft 268 15 = some (.invokevirtual 554, 3, none, [], 267, 0, 187, 0) := z_ftd (by decide +kernel)
theorem t268_18 : z_ft 268 18 = some (.aload_n 0, 1, none, [], 0, 0, 0, 0) := z_ftd (by decide +kernel)
theorem t268_19 : z_ft 268 19 = some (.aload_n 0, 1, none, [], 0, 0, 0, 0) := z_ftd (by decide +kernel)
theorem t268_20 : z_ft 268 20 = some (.getfield 147, 3, none, [], 12, 44, 45, 0) := z_ftd (by decide +kernel)
theorem t268_23 : z_ft 268 23 = some (.iconst 0, 1, none, [], 0, 0, 0, 0) := z_ftd (by decide +kernel)
theorem t268_24 : z_ft 268 24 = some (.iaload, 1, none, [], 0, 0, 0, 0) := z_ftd (by decide +kernel)
theorem t268_25 : z_ft 268 25 = some (.invokevirtual 554, 3, none, [], 267, 0, 187, 0) := z_ftd (by decide +kernel)
theorem t268_28 : z_ft 268 28 = some (.aload_n 0, 1, none, [], 0, 0, 0, 0) := z_ftd (by decide +kernel)
theorem t268_29 : z_ft 268 29 = some (.aload_n 0, 1, none, [], 0, 0, 0, 0) := z_ftd (by decide +kernel)
theorem t268_30 : z_ft 268 30 = some (.getfield 150, 3, none, [], 12, 45, 46, 0) := z_ftd (by decide +kernel)
theorem t268_33 : z_ft 268 33 = some (.iconst 0, 1, none, [], 0, 0, 0, 0) := z_ftd (by decide +kernel)
theorem t268_34 : z_ft 268 34 = some (.iaload, 1, none, [], 0, 0, 0, 0) := z_ftd (by decide +kernel)
theorem t268_35 : z_ft 268 35 = some (.bipush 16, 2, none, [], 0, 0, 0, 0) := z_ftd (by decide +kernel)
theorem t268_37 : z_ft 268 37 = some (.ishr, 1, none, [], 0, 0, 0, 0) := z_ftd (by decide +kernel)
theorem t268_38 : z_ft 268 38 = some (.invokevirtual 554, 3, none, [], 267, 0, 187, 0) := z_ftd (by decide +kernel)
theorem t268_41 : z_ft 268 41 = some (.aload_n 0, 1, none, [], 0, 0, 0, 0) := z_ftd (by decide +kernel)
theorem t268_42 : z_ft 268 42 = some (.aload_n 0, 1, none, [], 0, 0, 0, 0) := z_ftd (by decide +kernel)
theorem t268_43 : z_ft 268 43 = some (.getfield 150, 3, none, [], 12, 45, 46, 0) := z_ftd (by decide +kernel)
theorem t268_46 : z_ft 268 46 = some (.iconst 0, 1, none, [], 0, 0, 0, 0) := z_ftd (by decide +kernel)
theorem t268_47 : z_ft 268 47 = some (.iaload, 1, none, [], 0, 0, 0, 0) := z_ftd (by decide +kernel)
theorem t268_48 : z_ft 268 48 = some (.bipush 8, 2, none, [], 0, 0, 0, 0) := z_ftd (by decide +kernel)
theorem t268_50 : z_ft 268 50 = some (.ishr, 1, none, [], 0, 0, 0, 0) := z_ftd (by decide +kernel)
theorem t268_51 : z_ft 268 51 = some (.invokevirtual 554, 3, none, [], 267, 0, 187, 0) := z_ftd (by decide +kernel)
theorem t268_54 : z_ft 268 54 = some (.aload_n 0, 1, none, [], 0, 0, 0, 0) := z_ftd (by decide +kernel)
theorem t268_55 : z_ft 268 55 = some (.aload_n 0, 1, none, [], 0, 0, 0, 0) := z_ftd (by decide +kernel)
theorem t268_56 : z_ft 268 56 = some (.getfield 150, 3, none, [], 12, 45, 46, 0) := z_ftd (by decide +kernel)
theorem t268_59 : z_ft 268 59 = some (.iconst 0, 1, none, [], 0, 0, 0, 0) := z_ftd (by decide +kernel)
theorem t268_60 : z_ft 268 60 = some (.iaload, 1, none, [], 0, 0, 0, 0) := z_ftd (by decide +kernel)
theorem t268_61 : z_ft 268 61 = some (.invokevirtual 554, 3, none, [], 267, 0, 187, 0) := z_ftd (by decide +kernel)
theorem t268_64 : z_ft 268 64 = some (.iconst 0, 1, none, [], 0, 0, 0, 0) := z_ftd (by decide +kernel)
theorem t268_65 : z_ft 268 65 = some (.istore_n 1, 1, none, [], 0, 0, 0, 0) := z_ftd (by decide +kernel)
theorem t268_66 : z_ft 268 66 = some (.iload_n 1, 1, (some [0, 1]), [], 0, 0, 0, 0) := z_ftd (by decide +kernel)
theorem t268_67 : z_ft 268 67 = some (.aload_n 0, 1, none, [], 0, 0, 0, 0) := z_ftd (by decide +kernel)
theorem t268_68 : z_ft 268 68 = some (.getfield 54, 3, none, [], 12, 14, 15, 0) := z_ftd (by decide +kernel)
theorem t268_71 : z_ft 268 71 = some (.aload_n 0, 1, none, [], 0, 0, 0, 0) := z_ftd (by decide +kernel)
theorem t268_72 : z_ft 268 72 = some (.getfield 51, 3, none, [], 12, 13, 14, 0) := z_ftd (by decide +kernel)
theorem t268_75 : z_ft 268 75 = some (.iaload, 1, none, [], 0, 0, 0, 0) := z_ftd (by decide +kernel)
theorem t268_76 : z_ft 268 76 = some (.if_icmp .ge 27, 3, none, [], 103, 0, 0, 0) := z_ftd (by decide +kernel)
theorem t268_79 : z_ft 268 79 = some (.aload_n 0, 1, none, [], 0, 0, 0, 0) := z_ftd (by decide +kernel)
theorem t268_80 : z_ft 268 80 = some (.aload_n 0, 1, none, [], 0, 0, 0, 0) := z_ftd (by decide +kernel)
theorem t268_81 : z_ft 268 81 = some (.iconst 0, 1, none, [], 0, 0, 0, 0) := z_ftd (by decide +kernel)
theorem t268_82 : z_ft 268 82 = some (.iload_n 1, 1, none, [], 0, 0, 0, 0) := z_ftd (by decide +kernel)
theorem t268_83 : z_ft 268 83 = some (.invokevirtual 426, 3, none, [], 207, 0, 138, 0) := z_ftd (by decide +kernel)
theorem t268_86 : z_ft 268 86 = some (.ifCond .eq 7, 3, none, [], 93, 0, 0, 0) := z_ftd (by decide +kernel)
theorem t268_89 : z_ft 268 89 = some (.iconst 1, 1, none, [], 0, 0, 0, 0) := z_ftd (by decide +kernel)
theorem t268_90 : z_ft 268 90 = some (.goto 4, 3, none, [], 94, 0, 0, 0) := z_ftd (by decide +kernel)
theorem t268_93 : z_ft 268 93 = some (.iconst 0, 1, none, [], 0, 0, 0, 0) := z_ftd (by decide +kernel)
theorem t268_94 : z_ft 268 94 = some (.invokevirtual 554, 3, (some [0, 1]), [], 267, 0, 187, 0) := z_ftd (by decide +kernel)
theorem t268_97 : z_ft 268 97 = some (.iinc 1 1, 3, none, [], 0, 0, 0, 0) := z_ftd (by decide +kernel)
theorem t268_100 : z_ft 268 100 = some (.goto (-34), 3, none, [], 66, 0, 0, 0) := z_ftd (by decide +kernel)
theorem t268_103 : z_ft 268 103 = some (.iconst 0, 1, none, [], 0, 0, 0, 0) := z_ftd (by decide +kernel)
theorem t268_104 : z_ft 268 104 = some (.istore_n 1, 1, none, [], 0, 0, 0, 0) := z_ftd (by decide +kernel)
theorem t268_105 : z_ft 268 105 = some (.iload_n 1, 1, (some [0, 1]), [], 0, 0, 0, 0) := z_ftd (by decide +kernel)
theorem t268_106 : z_ft 268 106 = some (.aload_n 0, 1, none, [], 0, 0, 0, 0) := z_ftd (by decide +kernel)
theorem t268_107 : z_ft 268 107 = some (.getfield 66, 3, none, [], 12, 18, 19, 0) := z_ftd (by decide +kernel)
theorem t268_110 : z_ft 268 110 = some (.aload_n 0, 1, none, [], 0, 0, 0, 0) := z_ftd (by decide +kernel)
theorem t268_111 : z_ft 268 111 = some (.getfield 51, 3, none, [], 12, 13, 14, 0) := z_ftd (by decide +kernel)
theorem t268_114 : z_ft 268 114 = some (.iaload, 1, none, [], 0, 0, 0, 0) := z_ftd (by decide +kernel)
theorem t268_115 : z_ft 268 115 = some (.if_icmp .ge 61, 3, none, [], 176, 0, 0, 0) := z_ftd (by decide +kernel)
theorem t268_118 : z_ft 268 118 = some (.aload_n 0, 1, none, [], 0, 0, 0, 0) := z_ftd (by decide +kernel)
theorem t268_119 : z_ft 268 119 = some (.aload_n 0, 1, none, [], 0, 0, 0, 0) := z_ftd (by decide +kernel)
theorem t268_120 : z_ft 268 120 = some (.iconst 0, 1, none, [], 0, 0, 0, 0) := z_ftd (by decide +kernel)
theorem t268_121 : z_ft 268 121 = some (.iload_n 1, 1, none, [], 0, 0, 0, 0) := z_ftd (by decide +kernel)
theorem t268_122 : z_ft 268 122 = some (.invokevirtual 438, 3, none, [], 213, 0, 159, 0) := z_ftd (by decide +kernel)
theorem t268_125 : z_ft 268 125 = some (.iconst (-1), 1, none, [], 0, 0, 0, 0) := z_ftd (by decide +kernel)
theorem t268_126 : z_ft 268 126 = some (.if_icmp .eq 12, 3, none, [], 138, 0, 0, 0) := z_ftd (by decide +kernel)
theorem t268_129 : z_ft 268 129 = some (.aload_n 0, 1, none, [], 0, 0, 0, 0) := z_ftd (by decide +kernel)
theorem t268_130 : z_ft 268 130 = some (.iconst 0, 1, none, [], 0, 0, 0, 0) := z_ftd (by decide +kernel)
theorem t268_131 : z_ft 268 131 = some (.iload_n 1, 1, none, [], 0, 0, 0, 0) := z_ftd (by decide +kernel)
theorem t268_132 : z_ft 268 132 = some (.invokevirtual 438, 3, none, [], 213, 0, 159, 0) := z_ftd (by decide +kernel)
theorem t268_135 : z_ft 268 135 = some (.goto 22, 3, none, [], 157, 0, 0, 0) := z_ftd (by decide +kernel)
theorem t268_138 : z_ft 268 138 = some (.aload_n 0, 1, none, [], 0, 0, 0, 0) := z_ftd (by decide +kernel)
theorem t268_139 : z_ft 268 139 = some (.iconst 0, 1, none, [], 0, 0, 0, 0) := z_ftd (by decide +kernel)
theorem t268_140 : z_ft 268 140 = some (.iload_n 1, 1, none, [], 0, 0, 0, 0) := z_ftd (by decide +kernel)
theorem t268_141 : z_ft 268 141 = some (.invokevirtual 441, 3, none, [], 214, 0, 160, 0) := z_ftd (by decide +kernel)
theorem t268_144 : z_ft 268 144 = some (.iconst (-1), 1, none, [], 0, 0, 0, 0) := z_ftd (by decide +kernel)
theorem t268_145 : z_ft 268 145 = some (.if_icmp .eq 9, 3, none, [], 154, 0, 0, 0) := z_ftd (by decide +kernel)
theorem t268_148 : z_ft 268 148 = some (.sipush 254, 3, none, [], 0, 0, 0, 0) := z_ftd (by decide +kernel)
theorem t268_151 : z_ft 268 151 = some (.goto 6, 3, none, [], 157, 0, 0, 0) := z_ftd (by decide +kernel)
theorem t268_154 : z_ft 268 154 = some (.sipush 255, 3, none, [], 0, 0, 0, 0) := z_ftd (by decide +kernel)
theorem t268_157 : z_ft 268 157 = some (.invokevirtual 554, 3, (some [0, 1]), [], 267, 0, 187, 0) := z_ftd (by decide +kernel)
theorem t268_160 : z_ft 268 160 = some (.aload_n 0, 1, none, [], 0, 0, 0, 0) := z_ftd (by decide +kernel)
theorem t268_161 : z_ft 268 161 = some (.aload_n 0, 1, none, [], 0, 0, 0, 0) := z_ftd (by decide +kernel)
theorem t268_162 : z_ft 268 162 = some (.getfield 159, 3, none, [], 12, 48, 49, 0) := z_ftd (by decide +kernel)
theorem t268_165 : z_ft 268 165 = some (.iload_n 1, 1, none, [], 0, 0, 0, 0) := z_ftd (by decide +kernel)
theorem t268_166 : z_ft 268 166 = some (.iaload, 1, none, [], 0, 0, 0, 0) := z_ftd (by decide +kernel)
theorem t268_167 : z_ft 268 167 = some (.invokevirtual 554, 3, none, [], 267, 0, 187, 0) := z_ftd (by decide +kernel)
theorem t268_170 : z_ft 268 170 = some (.iinc 1 1, 3, none, [], 0, 0, 0, 0) := z_ftd (by decide +kernel)
theorem t268_173 : z_ft 268 173 = some (.goto (-68), 3, none, [], 105, 0, 0, 0) := z_ftd (by decide +kernel)
theorem t268_176 : z_ft 268 176 = some (.aload_n 0, 1, none, [], 0, 0, 0, 0) := z_ftd (by decide +kernel)
theorem t268_177 : z_ft 268 177 = some (.aload_n 0, 1, none, [], 0, 0, 0, 0) := z_ftd (by decide +kernel)
theorem t268_178 : z_ft 268 178 = some (.getfield 162, 3, none, [], 12, 49, 50, 0) := z_ftd (by decide +kernel)
theorem t268_181 : z_ft 268 181 = some (.iconst 0, 1, none, [], 0, 0, 0, 0) := z_ftd (by decide +kernel)
theorem t268_182 : z_ft 268 182 = some (.iaload, 1, none, [], 0, 0, 0, 0) := z_ftd (by decide +kernel)
theorem t268_183 : z_ft 268 183 = some (.invokevirtual 554, 3, none, [], 267, 0, 187, 0) := z_ftd (by decide +kernel)
theorem t268_186 : z_ft 268 186 = some (.iconst 0, 1, none, [], 0, 0, 0, 0) := z_ftd (by decide +kernel)
theorem t268_187 : z_ft 268 187 = some (.istore_n 1, 1, none, [], 0, 0, 0, 0) := z_ftd (by decide +kernel)
theorem t268_188 : z_ft 268 188 = some (.iload_n 1, 1, (some [0, 1]), [], 0, 0, 0, 0) := z_ftd (by decide +kernel)
theorem t268_189 : z_ft 268 189 = some (.aload_n 0, 1, none, [], 0, 0, 0, 0) := z_ftd (by decide +kernel)
theorem t268_190 : z_ft 268 190 = some (.getfield 162, 3, none, [], 12, 49, 50, 0) := z_ftd (by decide +kernel)
theorem t268_193 : z_ft 268 193 = some (.iconst 0, 1, none, [], 0, 0, 0, 0) := z_ftd (by decide +kernel)
theorem t268_194 : z_ft 268 194 = some (.iaload, 1, none, [], 0, 0, 0, 0) := z_ftd (by decide +kernel)
theorem t268_195 : z_ft 268 195 = some (.if_icmp .ge 19, 3, none, [], 214, 0, 0, 0) := z_ftd (by decide +kernel)
theorem t268_198 : z_ft 268 198 = some (.aload_n 0, 1, none, [], 0, 0, 0, 0) := z_ftd (by decide +kernel)
theorem t268_199 : z_ft 268 199 = some (.aload_n 0, 1, none, [], 0, 0, 0, 0) := z_ftd (by decide +kernel)
theorem t268_200 : z_ft 268 200 = some (.getfield 165, 3, none, [], 12, 50, 51, 0) := z_ftd (by decide +kernel)
theorem t268_203 : z_ft 268 203 = some (.iload_n 1, 1, none, [], 0, 0, 0, 0) := z_ftd (by decide +kernel)
theorem t268_204 : z_ft 268 204 = some (.iaload, 1, none, [], 0, 0, 0, 0) := z_ftd (by decide +kernel)
theorem t268_205 : z_ft 268 205 = some (.invokevirtual 554, 3, none, [], 267, 0, 187, 0) := z_ftd (by decide +kernel)
theorem t268_208 : z_ft 268 208 = some (.iinc 1 1, 3, none, [], 0, 0, 0, 0) := z_ftd (by decide +kernel)
theorem t268_211 : z_ft 268 211 = some (.goto (-23), 3, none, [], 188, 0, 0, 0) := z_ftd (by decide +kernel)
theorem t268_214 : z_ft 268 214 = some (.sipush 227, 3, none, [], 0, 0, 0, 0) := z_ftd (by decide +kernel)
theorem t268_217 : z_ft 268 217 = some (.istore_n 1, 1, none, [], 0, 0, 0, 0) := z_ftd (by decide +kernel)
theorem t268_218 : z_ft 268 218 = some (.iconst 0, 1, none, [], 0, 0, 0, 0) := z_ftd (by decide +kernel)
theorem t268_219 : z_ft 268 219 = some (.istore_n 2, 1, none, [], 0, 0, 0, 0) := z_ftd (by decide +kernel)
theorem t268_220 : z_ft 268 220 = some (.iload_n 2, 1, (some [0, 1, 2]), [], 0, 0, 0, 0) := z_ftd (by decide +kernel)
theorem t268_221 : z_ft 268 221 = some (.aload_n 0, 1, none, [], 0, 0, 0, 0) := z_ftd (by decide +kernel)
theorem t268_222 : z_ft 268 222 = some (.getfield 228, 3, none, [], 12, 71, 72, 0) := z_ftd (by decide +kernel)
theorem t268_225 : z_ft 268 225 = some (.if_icmp .ge 24, 3, none, [], 249, 0, 0, 0) := z_ftd (by decide +kernel)
theorem t268_228 : z_ft 268 228 = some (.iconst 5, 1, none, [], 0, 0, 0, 0) := z_ftd (by decide +kernel)
theorem t268_229 : z_ft 268 229 = some (.iload_n 1, 1, none, [], 0, 0, 0, 0) := z_ftd (by decide +kernel)
theorem t268_230 : z_ft 268 230 = some (.imul, 1, none, [], 0, 0, 0, 0) := z_ftd (by decide +kernel)
theorem t268_231 : z_ft 268 231 = some (.aload_n 0, 1, none, [], 0, 0, 0, 0) := z_ftd (by decide +kernel)
theorem t268_232 : z_ft 268 232 = some (.getfield 225, 3, none, [], 12, 70, 71, 0) := z_ftd (by decide +kernel)
theorem t268_235 : z_ft 268 235 = some (.iload_n 2, 1, none, [], 0, 0, 0, 0) := z_ftd (by decide +kernel)
theorem t268_236 : z_ft 268 236 = some (.iaload, 1, none, [], 0, 0, 0, 0) := z_ftd (by decide +kernel)
theorem t268_237 : z_ft 268 237 = some (.iadd, 1, none, [], 0, 0, 0, 0) := z_ftd (by decide +kernel)
theorem t268_238 : z_ft 268 238 = some (.sipush 251, 3, none, [], 0, 0, 0, 0) := z_ftd (by decide +kernel)
theorem t268_241 : z_ft 268 241 = some (.irem, 1, none, [], 0, 0, 0, 0) := z_ftd (by decide +kernel)
theorem t268_242 : z_ft 268 242 = some (.istore_n 1, 1, none, [], 0, 0, 0, 0) := z_ftd (by decide +kernel)
theorem t268_243 : z_ft 268 243 = some (.iinc 2 1, 3, none, [], 0, 0, 0, 0) := z_ftd (by decide +kernel)
theorem t268_246 : z_ft 268 246 = some (.goto (-26), 3, none, [], 220, 0, 0, 0) := z_ftd (by decide +kernel)
theorem t268_249 : z_ft 268 249 = some (.aload_n 0, 1, none, [], 0, 0, 0, 0) := z_ftd (by decide +kernel)
theorem t268_250 : z_ft 268 250 = some (.iload_n 1, 1, none, [], 0, 0, 0, 0) := z_ftd (by decide +kernel)
theorem t268_251 : z_ft 268 251 = some (.invokevirtual 554, 3, none, [], 267, 0, 187, 0) := z_ftd (by decide +kernel)
theorem t268_254 : z_ft 268 254 = some (.aload_n 0, 1, none, [], 0, 0, 0, 0) := z_ftd (by decide +kernel)
theorem t268_255 : z_ft 268 255 = some (.getfield 228, 3, none, [], 12, 71, 72, 0) := z_ftd (by decide +kernel)
theorem t268_258 : z_ft 268 258 = some (.ireturn, 1, none, [], 0, 0, 0, 0) := z_ftd (by decide +kernel)
noncomputable def b268_66 (d : Nat) (y1 : Int32) (S : z_S) : Option (Int32 × z_S) := zk kI z_X0 d 268 66 [.ref 396, .int y1, z_j] [] S
noncomputable def b268_105 (d : Nat) (y1 : Int32) (S : z_S) : Option (Int32 × z_S) := zk kI z_X0 d 268 105 [.ref 396, .int y1, z_j] [] S
noncomputable def b268_94 (d : Nat) (y1 : Int32) (s0 : Int32) (S : z_S) : Option (Int32 × z_S) := zk kI z_X0 d 268 94 [.ref 396, .int y1, z_j] [.int s0, .ref 396] S
noncomputable def b268_188 (d : Nat) (y1 : Int32) (S : z_S) : Option (Int32 × z_S) := zk kI z_X0 d 268 188 [.ref 396, .int y1, z_j] [] S
noncomputable def b268_157 (d : Nat) (y1 : Int32) (s0 : Int32) (S : z_S) : Option (Int32 × z_S) := zk kI z_X0 d 268 157 [.ref 396, .int y1, z_j] [.int s0, .ref 396] S
noncomputable def b268_220 (d : Nat) (y1 : Int32) (y2 : Int32) (S : z_S) : Option (Int32 × z_S) := zk kI z_X0 d 268 220 [.ref 396, .int y1, .int y2] [] S
theorem b268_66_eq (d : Nat) (y1 : Int32) (S : z_S) (hW : z_W S)  : b268_66 d y1 S = (if z_in (gI S 396 13) 2 then (if (gI S 398 ((gI S 396 13)).toNatClampNeg) ≤ y1 then b268_105 d (0 : Int32) S else (zb (fI d 207 [.ref 396, .int (0 : Int32), .int y1] S) fun v18 S19 => (if v18 = (0 : Int32) then b268_94 d y1 (0 : Int32) S19 else b268_94 d y1 (1 : Int32) S19))) else none) := by
  unfold b268_66
  refine (k_iload_n t268_66 rfl rfl).trans ?_
  refine (k_aload_n t268_67 rfl rfl).trans ?_
  refine (k_getR t268_68 rfl hW zK_396 (by decide) (by decide) (zF_396_14 hW)).trans ?_
  refine (k_aload_n t268_71 rfl rfl).trans ?_
  refine (k_getI t268_72 rfl hW zK_396 (by decide) (by decide)).trans ?_
  refine (k_iald t268_75 rfl hW zK_398 zL_398).trans (z_ite (fun g16 => ?_) (fun _ => rfl))
  refine (k_icmp_ge t268_76 rfl).trans (z_ite (fun g17 => ?_) (fun g17 => ?_))
  · refine (k_iconst t268_103 rfl zci_0).trans ?_
    refine (k_istore_n (ls' := [.ref 396, .int (0 : Int32), z_j]) t268_104 rfl rfl).trans ?_
    exact (zk_mk (ls' := [.ref 396, .int (0 : Int32), z_j]) t268_105 rfl)
  · refine (k_aload_n t268_79 rfl rfl).trans ?_
    refine (k_aload_n t268_80 rfl rfl).trans ?_
    refine (k_iconst t268_81 rfl zci_0).trans ?_
    refine (k_iload_n t268_82 rfl rfl).trans ?_
    refine k_callI (as := [.ref 396, .int (0 : Int32), .int y1]) (rest := [.ref 396]) t268_83 rfl rfl (by decide) rfl rfl (Nat.le_of_ble_eq_true rfl) rfl (z_rcV hW (zK_396) (by decide)) (by decide) (Or.inr (by decide)) hW (fun v18 S19 hW19 => ?_)
    refine (k_if_eq t268_86 rfl).trans (z_ite (fun g20 => ?_) (fun g20 => ?_))
    · refine (k_iconst t268_93 rfl zci_0).trans ?_
      exact (zk_mk (ls' := [.ref 396, .int y1, z_j]) t268_94 rfl)
    · refine (k_iconst t268_89 rfl zci_1).trans ?_
      refine (k_goto t268_90 rfl).trans ?_
      exact (zk_mk (ls' := [.ref 396, .int y1, z_j]) t268_94 rfl)
theorem b268_105_eq (d : Nat) (y1 : Int32) (S : z_S) (hW : z_W S)  : b268_105 d y1 S = (if z_in (gI S 396 13) 2 then (if (gI S 402 ((gI S 396 13)).toNatClampNeg) ≤ y1 then (if z_in (0 : Int32) 22 then ((fV d 267 [.ref 396, .int (gI S 425 ((0 : Int32)).toNatClampNeg)] S).bind fun S25 => b268_188 d (0 : Int32) S25) else none) else (zb (fI d 213 [.ref 396, .int (0 : Int32), .int y1] S) fun v26 S27 => (if v26 = (-1 : Int32) then (zb (fI d 214 [.ref 396, .int (0 : Int32), .int y1] S27) fun v29 S30 => (if v29 = (-1 : Int32) then b268_157 d y1 (255 : Int32) S30 else b268_157 d y1 (254 : Int32) S30)) else (zb (fI d 213 [.ref 396, .int (0 : Int32), .int y1] S27) fun v32 S33 => b268_157 d y1 v32 S33)))) else none) := by
  unfold b268_105
  refine (k_iload_n t268_105 rfl rfl).trans ?_
  refine (k_aload_n t268_106 rfl rfl).trans ?_
  refine (k_getR t268_107 rfl hW zK_396 (by decide) (by decide) (zF_396_18 hW)).trans ?_
  refine (k_aload_n t268_110 rfl rfl).trans ?_
  refine (k_getI t268_111 rfl hW zK_396 (by decide) (by decide)).trans ?_
  refine (k_iald t268_114 rfl hW zK_402 zL_402).trans (z_ite (fun g21 => ?_) (fun _ => rfl))
  refine (k_icmp_ge t268_115 rfl).trans (z_ite (fun g22 => ?_) (fun g22 => ?_))
  · refine (k_aload_n t268_176 rfl rfl).trans ?_
    refine (k_aload_n t268_177 rfl rfl).trans ?_
    refine (k_getR t268_178 rfl hW zK_396 (by decide) (by decide) (zF_396_49 hW)).trans ?_
    refine (k_iconst t268_181 rfl zci_0).trans ?_
    refine (k_iald t268_182 rfl hW zK_425 zL_425).trans (z_ite (fun g23 => ?_) (fun _ => rfl))
    refine k_callV (as := [.ref 396, .int (gI S 425 ((0 : Int32)).toNatClampNeg)]) (rest := []) t268_183 rfl rfl (by decide) rfl rfl (Nat.le_of_ble_eq_true rfl) rfl (z_rcV hW (zK_396) (by decide)) (by decide) (by decide) hW (fun S25 hW25 => ?_)
    refine (k_iconst t268_186 rfl zci_0).trans ?_
    refine (k_istore_n (ls' := [.ref 396, .int (0 : Int32), z_j]) t268_187 rfl rfl).trans ?_
    exact (zk_mk (ls' := [.ref 396, .int (0 : Int32), z_j]) t268_188 rfl)
  · refine (k_aload_n t268_118 rfl rfl).trans ?_
    refine (k_aload_n t268_119 rfl rfl).trans ?_
    refine (k_iconst t268_120 rfl zci_0).trans ?_
    refine (k_iload_n t268_121 rfl rfl).trans ?_
    refine k_callI (as := [.ref 396, .int (0 : Int32), .int y1]) (rest := [.ref 396]) t268_122 rfl rfl (by decide) rfl rfl (Nat.le_of_ble_eq_true rfl) rfl (z_rcV hW (zK_396) (by decide)) (by decide) (Or.inl (by decide)) hW (fun v26 S27 hW27 => ?_)
    refine (k_iconst t268_125 rfl zci_m1).trans ?_
    refine (k_icmp_eq t268_126 rfl).trans (z_ite (fun g28 => ?_) (fun g28 => ?_))
    · refine (k_aload_n t268_138 rfl rfl).trans ?_
      refine (k_iconst t268_139 rfl zci_0).trans ?_
      refine (k_iload_n t268_140 rfl rfl).trans ?_
      refine k_callI (as := [.ref 396, .int (0 : Int32), .int y1]) (rest := [.ref 396]) t268_141 rfl rfl (by decide) rfl rfl (Nat.le_of_ble_eq_true rfl) rfl (z_rcV hW27 (zK_396) (by decide)) (by decide) (Or.inl (by decide)) hW27 (fun v29 S30 hW30 => ?_)
      refine (k_iconst t268_144 rfl zci_m1).trans ?_
      refine (k_icmp_eq t268_145 rfl).trans (z_ite (fun g31 => ?_) (fun g31 => ?_))
      · refine (k_sipush t268_154 rfl zcs_255).trans ?_
        exact (zk_mk (ls' := [.ref 396, .int y1, z_j]) t268_157 rfl)
      · refine (k_sipush t268_148 rfl zcs_254).trans ?_
        refine (k_goto t268_151 rfl).trans ?_
        exact (zk_mk (ls' := [.ref 396, .int y1, z_j]) t268_157 rfl)
    · refine (k_aload_n t268_129 rfl rfl).trans ?_
      refine (k_iconst t268_130 rfl zci_0).trans ?_
      refine (k_iload_n t268_131 rfl rfl).trans ?_
      refine k_callI (as := [.ref 396, .int (0 : Int32), .int y1]) (rest := [.ref 396]) t268_132 rfl rfl (by decide) rfl rfl (Nat.le_of_ble_eq_true rfl) rfl (z_rcV hW27 (zK_396) (by decide)) (by decide) (Or.inl (by decide)) hW27 (fun v32 S33 hW33 => ?_)
      refine (k_goto t268_135 rfl).trans ?_
      exact (zk_mk (ls' := [.ref 396, .int y1, z_j]) t268_157 rfl)
theorem b268_94_eq (d : Nat) (y1 : Int32) (s0 : Int32) (S : z_S) (hW : z_W S)  : b268_94 d y1 s0 S = ((fV d 267 [.ref 396, .int s0] S).bind fun S35 => b268_66 d (y1 + (1 : Int32)) S35) := by
  unfold b268_94
  refine k_callV (as := [.ref 396, .int s0]) (rest := []) t268_94 rfl rfl (by decide) rfl rfl (Nat.le_of_ble_eq_true rfl) rfl (z_rcV hW (zK_396) (by decide)) (by decide) (by decide) hW (fun S35 hW35 => ?_)
  refine (k_iinc (b := (y1 + (1 : Int32))) (ls' := [.ref 396, .int (y1 + (1 : Int32)), z_j]) t268_97 rfl rfl (by rw [zci_1]) rfl).trans ?_
  refine (k_goto t268_100 rfl).trans ?_
  exact (zk_mk (ls' := [.ref 396, .int (y1 + (1 : Int32)), z_j]) t268_66 rfl)
theorem b268_188_eq (d : Nat) (y1 : Int32) (S : z_S) (hW : z_W S)  : b268_188 d y1 S = (if z_in (0 : Int32) 22 then (if (gI S 425 ((0 : Int32)).toNatClampNeg) ≤ y1 then b268_220 d (227 : Int32) (0 : Int32) S else (if z_in y1 132 then ((fV d 267 [.ref 396, .int (gI S 426 (y1).toNatClampNeg)] S).bind fun S40 => b268_188 d (y1 + (1 : Int32)) S40) else none)) else none) := by
  unfold b268_188
  refine (k_iload_n t268_188 rfl rfl).trans ?_
  refine (k_aload_n t268_189 rfl rfl).trans ?_
  refine (k_getR t268_190 rfl hW zK_396 (by decide) (by decide) (zF_396_49 hW)).trans ?_
  refine (k_iconst t268_193 rfl zci_0).trans ?_
  refine (k_iald t268_194 rfl hW zK_425 zL_425).trans (z_ite (fun g36 => ?_) (fun _ => rfl))
  refine (k_icmp_ge t268_195 rfl).trans (z_ite (fun g37 => ?_) (fun g37 => ?_))
  · refine (k_sipush t268_214 rfl zcs_227).trans ?_
    refine (k_istore_n (ls' := [.ref 396, .int (227 : Int32), z_j]) t268_217 rfl rfl).trans ?_
    refine (k_iconst t268_218 rfl zci_0).trans ?_
    refine (k_istore_n (ls' := [.ref 396, .int (227 : Int32), .int (0 : Int32)]) t268_219 rfl rfl).trans ?_
    exact (zk_mk (ls' := [.ref 396, .int (227 : Int32), .int (0 : Int32)]) t268_220 rfl)
  · refine (k_aload_n t268_198 rfl rfl).trans ?_
    refine (k_aload_n t268_199 rfl rfl).trans ?_
    refine (k_getR t268_200 rfl hW zK_396 (by decide) (by decide) (zF_396_50 hW)).trans ?_
    refine (k_iload_n t268_203 rfl rfl).trans ?_
    refine (k_iald t268_204 rfl hW zK_426 zL_426).trans (z_ite (fun g38 => ?_) (fun _ => rfl))
    refine k_callV (as := [.ref 396, .int (gI S 426 (y1).toNatClampNeg)]) (rest := []) t268_205 rfl rfl (by decide) rfl rfl (Nat.le_of_ble_eq_true rfl) rfl (z_rcV hW (zK_396) (by decide)) (by decide) (by decide) hW (fun S40 hW40 => ?_)
    refine (k_iinc (b := (y1 + (1 : Int32))) (ls' := [.ref 396, .int (y1 + (1 : Int32)), z_j]) t268_208 rfl rfl (by rw [zci_1]) rfl).trans ?_
    refine (k_goto t268_211 rfl).trans ?_
    exact (zk_mk (ls' := [.ref 396, .int (y1 + (1 : Int32)), z_j]) t268_188 rfl)
theorem b268_157_eq (d : Nat) (y1 : Int32) (s0 : Int32) (S : z_S) (hW : z_W S)  : b268_157 d y1 s0 S = ((fV d 267 [.ref 396, .int s0] S).bind fun S42 => (if z_in y1 352 then ((fV d 267 [.ref 396, .int (gI S42 424 (y1).toNatClampNeg)] S42).bind fun S45 => b268_105 d (y1 + (1 : Int32)) S45) else none)) := by
  unfold b268_157
  refine k_callV (as := [.ref 396, .int s0]) (rest := []) t268_157 rfl rfl (by decide) rfl rfl (Nat.le_of_ble_eq_true rfl) rfl (z_rcV hW (zK_396) (by decide)) (by decide) (by decide) hW (fun S42 hW42 => ?_)
  refine (k_aload_n t268_160 rfl rfl).trans ?_
  refine (k_aload_n t268_161 rfl rfl).trans ?_
  refine (k_getR t268_162 rfl hW42 zK_396 (by decide) (by decide) (zF_396_48 hW42)).trans ?_
  refine (k_iload_n t268_165 rfl rfl).trans ?_
  refine (k_iald t268_166 rfl hW42 zK_424 zL_424).trans (z_ite (fun g43 => ?_) (fun _ => rfl))
  refine k_callV (as := [.ref 396, .int (gI S42 424 (y1).toNatClampNeg)]) (rest := []) t268_167 rfl rfl (by decide) rfl rfl (Nat.le_of_ble_eq_true rfl) rfl (z_rcV hW42 (zK_396) (by decide)) (by decide) (by decide) hW42 (fun S45 hW45 => ?_)
  refine (k_iinc (b := (y1 + (1 : Int32))) (ls' := [.ref 396, .int (y1 + (1 : Int32)), z_j]) t268_170 rfl rfl (by rw [zci_1]) rfl).trans ?_
  refine (k_goto t268_173 rfl).trans ?_
  exact (zk_mk (ls' := [.ref 396, .int (y1 + (1 : Int32)), z_j]) t268_105 rfl)
theorem b268_220_eq (d : Nat) (y1 : Int32) (y2 : Int32) (S : z_S) (hW : z_W S)  : b268_220 d y1 y2 S = (if (gI S 396 71) ≤ y2 then ((fV d 267 [.ref 396, .int y1] S).bind fun S48 => some ((gI S48 396 71), S48)) else (if z_in y2 70 then b268_220 d ((((5 : Int32) * y1) + (gI S 441 (y2).toNatClampNeg)) - (((5 : Int32) * y1) + (gI S 441 (y2).toNatClampNeg)) / (251 : Int32) * (251 : Int32)) (y2 + (1 : Int32)) S else none)) := by
  unfold b268_220
  refine (k_iload_n t268_220 rfl rfl).trans ?_
  refine (k_aload_n t268_221 rfl rfl).trans ?_
  refine (k_getI t268_222 rfl hW zK_396 (by decide) (by decide)).trans ?_
  refine (k_icmp_ge t268_225 rfl).trans (z_ite (fun g46 => ?_) (fun g46 => ?_))
  · refine (k_aload_n t268_249 rfl rfl).trans ?_
    refine (k_iload_n t268_250 rfl rfl).trans ?_
    refine k_callV (as := [.ref 396, .int y1]) (rest := []) t268_251 rfl rfl (by decide) rfl rfl (Nat.le_of_ble_eq_true rfl) rfl (z_rcV hW (zK_396) (by decide)) (by decide) (by decide) hW (fun S48 hW48 => ?_)
    refine (k_aload_n t268_254 rfl rfl).trans ?_
    refine (k_getI t268_255 rfl hW48 zK_396 (by decide) (by decide)).trans ?_
    exact k_ireturn t268_258 rfl (by decide)
  · refine (k_iconst t268_228 rfl zci_5).trans ?_
    refine (k_iload_n t268_229 rfl rfl).trans ?_
    refine (k_imul t268_230 rfl).trans ?_
    refine (k_aload_n t268_231 rfl rfl).trans ?_
    refine (k_getR t268_232 rfl hW zK_396 (by decide) (by decide) (zF_396_70 hW)).trans ?_
    refine (k_iload_n t268_235 rfl rfl).trans ?_
    refine (k_iald t268_236 rfl hW zK_441 zL_441).trans (z_ite (fun g49 => ?_) (fun _ => rfl))
    refine (k_iadd t268_237 rfl).trans ?_
    refine (k_sipush t268_238 rfl zcs_251).trans ?_
    refine ((k_irem t268_241 rfl).trans (if_neg (by decide))).trans ?_
    refine (k_istore_n (ls' := [.ref 396, .int ((((5 : Int32) * y1) + (gI S 441 (y2).toNatClampNeg)) - (((5 : Int32) * y1) + (gI S 441 (y2).toNatClampNeg)) / (251 : Int32) * (251 : Int32)), .int y2]) t268_242 rfl rfl).trans ?_
    refine (k_iinc (b := (y2 + (1 : Int32))) (ls' := [.ref 396, .int ((((5 : Int32) * y1) + (gI S 441 (y2).toNatClampNeg)) - (((5 : Int32) * y1) + (gI S 441 (y2).toNatClampNeg)) / (251 : Int32) * (251 : Int32)), .int (y2 + (1 : Int32))]) t268_243 rfl rfl (by rw [zci_1]) rfl).trans ?_
    refine (k_goto t268_246 rfl).trans ?_
    exact (zk_mk (ls' := [.ref 396, .int ((((5 : Int32) * y1) + (gI S 441 (y2).toNatClampNeg)) - (((5 : Int32) * y1) + (gI S 441 (y2).toNatClampNeg)) / (251 : Int32) * (251 : Int32)), .int (y2 + (1 : Int32))]) t268_220 rfl)
-- X12_image
theorem e268 (d : Nat)  (S : z_S) (hW : z_W S)  : fI (d + 1) 268 [.ref 396] S = (if z_in (0 : Int32) 22 then ((fV d 267 [.ref 396, .int ((gI (sI S 396 71 (0 : Int32)) 420 ((0 : Int32)).toNatClampNeg) >>> ((8 : Int32) &&& 31))] (sI S 396 71 (0 : Int32))).bind fun S3 => (if z_in (0 : Int32) 22 then ((fV d 267 [.ref 396, .int (gI S3 420 ((0 : Int32)).toNatClampNeg)] S3).bind fun S6 => (if z_in (0 : Int32) 22 then ((fV d 267 [.ref 396, .int ((gI S6 421 ((0 : Int32)).toNatClampNeg) >>> ((16 : Int32) &&& 31))] S6).bind fun S9 => (if z_in (0 : Int32) 22 then ((fV d 267 [.ref 396, .int ((gI S9 421 ((0 : Int32)).toNatClampNeg) >>> ((8 : Int32) &&& 31))] S9).bind fun S12 => (if z_in (0 : Int32) 22 then ((fV d 267 [.ref 396, .int (gI S12 421 ((0 : Int32)).toNatClampNeg)] S12).bind fun S15 => b268_66 d (0 : Int32) S15) else none)) else none)) else none)) else none)) else none) := by
  refine (fI_en (Nat.le_of_ble_eq_true rfl) rfl).trans ?_
  refine (k_aload_n t268_0 rfl rfl).trans ?_
  refine (k_iconst t268_1 rfl zci_0).trans ?_
  refine (k_putI t268_2 rfl hW zK_396 (by decide) (by decide) (by decide)).trans ?_
  refine (k_aload_n t268_5 rfl rfl).trans ?_
  refine (k_aload_n t268_6 rfl rfl).trans ?_
  refine (k_getR t268_7 rfl hW.sI zK_396 (by decide) (by decide) (zF_396_44 hW.sI)).trans ?_
  refine (k_iconst t268_10 rfl zci_0).trans ?_
  refine (k_iald t268_11 rfl hW.sI zK_420 zL_420).trans (z_ite (fun g1 => ?_) (fun _ => rfl))
  refine (k_bipush t268_12 rfl zcb_8).trans ?_
  refine (k_ishr t268_14 rfl).trans ?_
  refine k_callV (as := [.ref 396, .int ((gI (sI S 396 71 (0 : Int32)) 420 ((0 : Int32)).toNatClampNeg) >>> ((8 : Int32) &&& 31))]) (rest := []) t268_15 rfl rfl (by decide) rfl rfl (Nat.le_of_ble_eq_true rfl) rfl (z_rcV hW.sI (zK_396) (by decide)) (by decide) (by decide) hW.sI (fun S3 hW3 => ?_)
  refine (k_aload_n t268_18 rfl rfl).trans ?_
  refine (k_aload_n t268_19 rfl rfl).trans ?_
  refine (k_getR t268_20 rfl hW3 zK_396 (by decide) (by decide) (zF_396_44 hW3)).trans ?_
  refine (k_iconst t268_23 rfl zci_0).trans ?_
  refine (k_iald t268_24 rfl hW3 zK_420 zL_420).trans (z_ite (fun g4 => ?_) (fun _ => rfl))
  refine k_callV (as := [.ref 396, .int (gI S3 420 ((0 : Int32)).toNatClampNeg)]) (rest := []) t268_25 rfl rfl (by decide) rfl rfl (Nat.le_of_ble_eq_true rfl) rfl (z_rcV hW3 (zK_396) (by decide)) (by decide) (by decide) hW3 (fun S6 hW6 => ?_)
  refine (k_aload_n t268_28 rfl rfl).trans ?_
  refine (k_aload_n t268_29 rfl rfl).trans ?_
  refine (k_getR t268_30 rfl hW6 zK_396 (by decide) (by decide) (zF_396_45 hW6)).trans ?_
  refine (k_iconst t268_33 rfl zci_0).trans ?_
  refine (k_iald t268_34 rfl hW6 zK_421 zL_421).trans (z_ite (fun g7 => ?_) (fun _ => rfl))
  refine (k_bipush t268_35 rfl zcb_16).trans ?_
  refine (k_ishr t268_37 rfl).trans ?_
  refine k_callV (as := [.ref 396, .int ((gI S6 421 ((0 : Int32)).toNatClampNeg) >>> ((16 : Int32) &&& 31))]) (rest := []) t268_38 rfl rfl (by decide) rfl rfl (Nat.le_of_ble_eq_true rfl) rfl (z_rcV hW6 (zK_396) (by decide)) (by decide) (by decide) hW6 (fun S9 hW9 => ?_)
  refine (k_aload_n t268_41 rfl rfl).trans ?_
  refine (k_aload_n t268_42 rfl rfl).trans ?_
  refine (k_getR t268_43 rfl hW9 zK_396 (by decide) (by decide) (zF_396_45 hW9)).trans ?_
  refine (k_iconst t268_46 rfl zci_0).trans ?_
  refine (k_iald t268_47 rfl hW9 zK_421 zL_421).trans (z_ite (fun g10 => ?_) (fun _ => rfl))
  refine (k_bipush t268_48 rfl zcb_8).trans ?_
  refine (k_ishr t268_50 rfl).trans ?_
  refine k_callV (as := [.ref 396, .int ((gI S9 421 ((0 : Int32)).toNatClampNeg) >>> ((8 : Int32) &&& 31))]) (rest := []) t268_51 rfl rfl (by decide) rfl rfl (Nat.le_of_ble_eq_true rfl) rfl (z_rcV hW9 (zK_396) (by decide)) (by decide) (by decide) hW9 (fun S12 hW12 => ?_)
  refine (k_aload_n t268_54 rfl rfl).trans ?_
  refine (k_aload_n t268_55 rfl rfl).trans ?_
  refine (k_getR t268_56 rfl hW12 zK_396 (by decide) (by decide) (zF_396_45 hW12)).trans ?_
  refine (k_iconst t268_59 rfl zci_0).trans ?_
  refine (k_iald t268_60 rfl hW12 zK_421 zL_421).trans (z_ite (fun g13 => ?_) (fun _ => rfl))
  refine k_callV (as := [.ref 396, .int (gI S12 421 ((0 : Int32)).toNatClampNeg)]) (rest := []) t268_61 rfl rfl (by decide) rfl rfl (Nat.le_of_ble_eq_true rfl) rfl (z_rcV hW12 (zK_396) (by decide)) (by decide) (by decide) hW12 (fun S15 hW15 => ?_)
  refine (k_iconst t268_64 rfl zci_0).trans ?_
  refine (k_istore_n (ls' := [.ref 396, .int (0 : Int32), z_j]) t268_65 rfl rfl).trans ?_
  exact (zk_mk (ls' := [.ref 396, .int (0 : Int32), z_j]) t268_66 rfl)
theorem t269_0 : z_ft 269 0 = some (.iload_n 1, 1, none, [], 0, 0, 0, 0) := z_ftd (by decide +kernel)
theorem t269_1 : z_ft 269 1 = some (.iconst 0, 1, none, [], 0, 0, 0, 0) := z_ftd (by decide +kernel)
theorem t269_2 : z_ft 269 2 = some (.aload_n 0, 1, none, [], 0, 0, 0, 0) := z_ftd (by decide +kernel)
theorem t269_3 : z_ft 269 3 = some (.getfield 228, 3, none, [], 12, 71, 72, 0) := z_ftd (by decide +kernel)
theorem t269_6 : z_ft 269 6 = some (.iconst 1, 1, none, [], 0, 0, 0, 0) := z_ftd (by decide +kernel)
theorem t269_7 : z_ft 269 7 = some (.isub, 1, none, [], 0, 0, 0, 0) := z_ftd (by decide +kernel)
theorem t269_8 : z_ft 269 8 = some (.invokestatic 307, 3, none, [], 155, 0, 85, 0) := z_ftd (by decide +kernel)
theorem t269_11 : z_ft 269 11 = some (.ifCond .eq 12, 3, none, [], 23, 0, 0, 0) := z_ftd (by decide +kernel)
theorem t269_14 : z_ft 269 14 = some (.aload_n 0, 1, none, [], 0, 0, 0, 0) := z_ftd (by decide +kernel)
theorem t269_15 : z_ft 269 15 = some (.getfield 225, 3, none, [], 12, 70, 71, 0) := z_ftd (by decide +kernel)
theorem t269_18 : z_ft 269 18 = some (.iload_n 1, 1, none, [], 0, 0, 0, 0) := z_ftd (by decide +kernel)
theorem t269_19 : z_ft 269 19 = some (.iaload, 1, none, [], 0, 0, 0, 0) := z_ftd (by decide +kernel)
theorem t269_20 : z_ft 269 20 = some (.goto 4, 3, none, [], 24, 0, 0, 0) := z_ftd (by decide +kernel)
theorem t269_23 : z_ft 269 23 = some (.iconst (-1), 1, none, [], 0, 0, 0, 0) := z_ftd (by decide +kernel)
theorem t269_24 : z_ft 269 24 = some (.ireturn, 1, (some []), [], 0, 0, 0, 0) := z_ftd (by decide +kernel)
-- X12_octet
theorem e269 (d : Nat) (x1 : Int32) (S : z_S) (hW : z_W S)  : fI (d + 1) 269 [.ref 396, .int x1] S = (zb (fI d 155 [.int x1, .int (0 : Int32), .int ((gI S 396 71) - (1 : Int32))] S) fun v1 S2 => (if v1 = (0 : Int32) then some ((-1 : Int32), S2) else (if z_in x1 70 then some ((gI S2 441 (x1).toNatClampNeg), S2) else none))) := by
  refine (fI_en (Nat.le_of_ble_eq_true rfl) rfl).trans ?_
  refine (k_iload_n t269_0 rfl rfl).trans ?_
  refine (k_iconst t269_1 rfl zci_0).trans ?_
  refine (k_aload_n t269_2 rfl rfl).trans ?_
  refine (k_getI t269_3 rfl hW zK_396 (by decide) (by decide)).trans ?_
  refine (k_iconst t269_6 rfl zci_1).trans ?_
  refine (k_isub t269_7 rfl).trans ?_
  refine k_callI (as := [.int x1, .int (0 : Int32), .int ((gI S 396 71) - (1 : Int32))]) (rest := []) t269_8 rfl rfl (by decide) rfl rfl (Nat.le_of_ble_eq_true rfl) rfl (z_rcS (by decide)) (by decide) (Or.inr (by decide)) hW (fun v1 S2 hW2 => ?_)
  refine (k_if_eq t269_11 rfl).trans (z_ite (fun g3 => ?_) (fun g3 => ?_))
  · refine (k_iconst t269_23 rfl zci_m1).trans ?_
    refine (zk_mk (ls' := [z_j, z_j]) t269_24 rfl).trans ?_
    exact k_ireturn t269_24 rfl (by decide)
  · refine (k_aload_n t269_14 rfl rfl).trans ?_
    refine (k_getR t269_15 rfl hW2 zK_396 (by decide) (by decide) (zF_396_70 hW2)).trans ?_
    refine (k_iload_n t269_18 rfl rfl).trans ?_
    refine (k_iald t269_19 rfl hW2 zK_441 zL_441).trans (z_ite (fun g4 => ?_) (fun _ => rfl))
    refine (k_goto t269_20 rfl).trans ?_
    refine (zk_mk (ls' := [z_j, z_j]) t269_24 rfl).trans ?_
    exact k_ireturn t269_24 rfl (by decide)
theorem t270_0 : z_ft 270 0 = some (.aload_n 0, 1, none, [], 0, 0, 0, 0) := z_ftd (by decide +kernel)
theorem t270_1 : z_ft 270 1 = some (.getfield 7, 3, none, [], 12, 0, 1, 0) := z_ftd (by decide +kernel)
theorem t270_4 : z_ft 270 4 = some (.iload_n 2, 1, none, [], 0, 0, 0, 0) := z_ftd (by decide +kernel)
theorem t270_5 : z_ft 270 5 = some (.iaload, 1, none, [], 0, 0, 0, 0) := z_ftd (by decide +kernel)
theorem t270_6 : z_ft 270 6 = some (.istore_n 3, 1, none, [], 0, 0, 0, 0) := z_ftd (by decide +kernel)
theorem t270_7 : z_ft 270 7 = some (.aload_n 0, 1, none, [], 0, 0, 0, 0) := z_ftd (by decide +kernel)
theorem t270_8 : z_ft 270 8 = some (.getfield 7, 3, none, [], 12, 0, 1, 0) := z_ftd (by decide +kernel)
theorem t270_11 : z_ft 270 11 = some (.iload_n 2, 1, none, [], 0, 0, 0, 0) := z_ftd (by decide +kernel)
theorem t270_12 : z_ft 270 12 = some (.iconst 1, 1, none, [], 0, 0, 0, 0) := z_ftd (by decide +kernel)
theorem t270_13 : z_ft 270 13 = some (.iadd, 1, none, [], 0, 0, 0, 0) := z_ftd (by decide +kernel)
theorem t270_14 : z_ft 270 14 = some (.iaload, 1, none, [], 0, 0, 0, 0) := z_ftd (by decide +kernel)
theorem t270_15 : z_ft 270 15 = some (.istore 4, 2, none, [], 0, 0, 0, 0) := z_ftd (by decide +kernel)
theorem t270_17 : z_ft 270 17 = some (.aload_n 0, 1, none, [], 0, 0, 0, 0) := z_ftd (by decide +kernel)
theorem t270_18 : z_ft 270 18 = some (.getfield 159, 3, none, [], 12, 48, 49, 0) := z_ftd (by decide +kernel)
theorem t270_21 : z_ft 270 21 = some (.bipush 16, 2, none, [], 0, 0, 0, 0) := z_ftd (by decide +kernel)
theorem t270_23 : z_ft 270 23 = some (.iload_n 1, 1, none, [], 0, 0, 0, 0) := z_ftd (by decide +kernel)
theorem t270_24 : z_ft 270 24 = some (.iadd, 1, none, [], 0, 0, 0, 0) := z_ftd (by decide +kernel)
theorem t270_25 : z_ft 270 25 = some (.iload 4, 2, none, [], 0, 0, 0, 0) := z_ftd (by decide +kernel)
theorem t270_27 : z_ft 270 27 = some (.iastore, 1, none, [], 0, 0, 0, 0) := z_ftd (by decide +kernel)
theorem t270_28 : z_ft 270 28 = some (.iload_n 3, 1, none, [], 0, 0, 0, 0) := z_ftd (by decide +kernel)
theorem t270_29 : z_ft 270 29 = some (.sipush 254, 3, none, [], 0, 0, 0, 0) := z_ftd (by decide +kernel)
theorem t270_32 : z_ft 270 32 = some (.if_icmp .eq 10, 3, none, [], 42, 0, 0, 0) := z_ftd (by decide +kernel)
theorem t270_35 : z_ft 270 35 = some (.iload_n 3, 1, none, [], 0, 0, 0, 0) := z_ftd (by decide +kernel)
theorem t270_36 : z_ft 270 36 = some (.sipush 255, 3, none, [], 0, 0, 0, 0) := z_ftd (by decide +kernel)
theorem t270_39 : z_ft 270 39 = some (.if_icmp .ne 14, 3, none, [], 53, 0, 0, 0) := z_ftd (by decide +kernel)
theorem t270_42 : z_ft 270 42 = some (.iload 4, 2, (some [4]), [], 0, 0, 0, 0) := z_ftd (by decide +kernel)
theorem t270_44 : z_ft 270 44 = some (.ifCond .ne 7, 3, none, [], 51, 0, 0, 0) := z_ftd (by decide +kernel)
theorem t270_47 : z_ft 270 47 = some (.iconst 1, 1, none, [], 0, 0, 0, 0) := z_ftd (by decide +kernel)
theorem t270_48 : z_ft 270 48 = some (.goto 4, 3, none, [], 52, 0, 0, 0) := z_ftd (by decide +kernel)
theorem t270_51 : z_ft 270 51 = some (.iconst 0, 1, none, [], 0, 0, 0, 0) := z_ftd (by decide +kernel)
theorem t270_52 : z_ft 270 52 = some (.ireturn, 1, (some []), [], 0, 0, 0, 0) := z_ftd (by decide +kernel)
theorem t270_53 : z_ft 270 53 = some (.iload_n 3, 1, none, [], 0, 0, 0, 0) := z_ftd (by decide +kernel)
theorem t270_54 : z_ft 270 54 = some (.aload_n 0, 1, none, [], 0, 0, 0, 0) := z_ftd (by decide +kernel)
theorem t270_55 : z_ft 270 55 = some (.iload_n 1, 1, none, [], 0, 0, 0, 0) := z_ftd (by decide +kernel)
theorem t270_56 : z_ft 270 56 = some (.invokevirtual 432, 3, none, [], 210, 0, 135, 0) := z_ftd (by decide +kernel)
theorem t270_59 : z_ft 270 59 = some (.if_icmp .eq 12, 3, none, [], 71, 0, 0, 0) := z_ftd (by decide +kernel)
theorem t270_62 : z_ft 270 62 = some (.iload_n 3, 1, none, [], 0, 0, 0, 0) := z_ftd (by decide +kernel)
theorem t270_63 : z_ft 270 63 = some (.aload_n 0, 1, none, [], 0, 0, 0, 0) := z_ftd (by decide +kernel)
theorem t270_64 : z_ft 270 64 = some (.iload_n 1, 1, none, [], 0, 0, 0, 0) := z_ftd (by decide +kernel)
theorem t270_65 : z_ft 270 65 = some (.invokevirtual 435, 3, none, [], 211, 0, 136, 0) := z_ftd (by decide +kernel)
theorem t270_68 : z_ft 270 68 = some (.if_icmp .ne 25, 3, none, [], 93, 0, 0, 0) := z_ftd (by decide +kernel)
theorem t270_71 : z_ft 270 71 = some (.aload_n 0, 1, (some [0, 1, 3, 4]), [], 0, 0, 0, 0) := z_ftd (by decide +kernel)
theorem t270_72 : z_ft 270 72 = some (.iconst 1, 1, none, [], 0, 0, 0, 0) := z_ftd (by decide +kernel)
theorem t270_73 : z_ft 270 73 = some (.iload_n 3, 1, none, [], 0, 0, 0, 0) := z_ftd (by decide +kernel)
theorem t270_74 : z_ft 270 74 = some (.invokevirtual 426, 3, none, [], 207, 0, 138, 0) := z_ftd (by decide +kernel)
theorem t270_77 : z_ft 270 77 = some (.ifCond .ne 16, 3, none, [], 93, 0, 0, 0) := z_ftd (by decide +kernel)
theorem t270_80 : z_ft 270 80 = some (.aload_n 0, 1, none, [], 0, 0, 0, 0) := z_ftd (by decide +kernel)
theorem t270_81 : z_ft 270 81 = some (.getfield 156, 3, none, [], 12, 47, 48, 0) := z_ftd (by decide +kernel)
theorem t270_84 : z_ft 270 84 = some (.bipush 16, 2, none, [], 0, 0, 0, 0) := z_ftd (by decide +kernel)
theorem t270_86 : z_ft 270 86 = some (.iload_n 3, 1, none, [], 0, 0, 0, 0) := z_ftd (by decide +kernel)
theorem t270_87 : z_ft 270 87 = some (.iadd, 1, none, [], 0, 0, 0, 0) := z_ftd (by decide +kernel)
theorem t270_88 : z_ft 270 88 = some (.iaload, 1, none, [], 0, 0, 0, 0) := z_ftd (by decide +kernel)
theorem t270_89 : z_ft 270 89 = some (.iconst (-1), 1, none, [], 0, 0, 0, 0) := z_ftd (by decide +kernel)
theorem t270_90 : z_ft 270 90 = some (.if_icmp .eq 5, 3, none, [], 95, 0, 0, 0) := z_ftd (by decide +kernel)
theorem t270_93 : z_ft 270 93 = some (.iconst 0, 1, (some []), [], 0, 0, 0, 0) := z_ftd (by decide +kernel)
theorem t270_94 : z_ft 270 94 = some (.ireturn, 1, none, [], 0, 0, 0, 0) := z_ftd (by decide +kernel)
theorem t270_95 : z_ft 270 95 = some (.aload_n 0, 1, none, [], 0, 0, 0, 0) := z_ftd (by decide +kernel)
theorem t270_96 : z_ft 270 96 = some (.getfield 156, 3, none, [], 12, 47, 48, 0) := z_ftd (by decide +kernel)
theorem t270_99 : z_ft 270 99 = some (.bipush 16, 2, none, [], 0, 0, 0, 0) := z_ftd (by decide +kernel)
theorem t270_101 : z_ft 270 101 = some (.iload_n 3, 1, none, [], 0, 0, 0, 0) := z_ftd (by decide +kernel)
theorem t270_102 : z_ft 270 102 = some (.iadd, 1, none, [], 0, 0, 0, 0) := z_ftd (by decide +kernel)
theorem t270_103 : z_ft 270 103 = some (.iload_n 1, 1, none, [], 0, 0, 0, 0) := z_ftd (by decide +kernel)
theorem t270_104 : z_ft 270 104 = some (.iastore, 1, none, [], 0, 0, 0, 0) := z_ftd (by decide +kernel)
theorem t270_105 : z_ft 270 105 = some (.iload 4, 2, none, [], 0, 0, 0, 0) := z_ftd (by decide +kernel)
theorem t270_107 : z_ft 270 107 = some (.bipush 99, 2, none, [], 0, 0, 0, 0) := z_ftd (by decide +kernel)
theorem t270_109 : z_ft 270 109 = some (.if_icmp .gt 7, 3, none, [], 116, 0, 0, 0) := z_ftd (by decide +kernel)
theorem t270_112 : z_ft 270 112 = some (.iconst 1, 1, none, [], 0, 0, 0, 0) := z_ftd (by decide +kernel)
theorem t270_113 : z_ft 270 113 = some (.goto 4, 3, none, [], 117, 0, 0, 0) := z_ftd (by decide +kernel)
theorem t270_116 : z_ft 270 116 = some (.iconst 0, 1, none, [], 0, 0, 0, 0) := z_ftd (by decide +kernel)
theorem t270_117 : z_ft 270 117 = some (.ireturn, 1, (some []), [], 0, 0, 0, 0) := z_ftd (by decide +kernel)
noncomputable def b270_42 (d : Nat) (y4 : Int32) (S : z_S) : Option (Int32 × z_S) := zk kI z_X0 d 270 42 [z_j, z_j, z_j, z_j, .int y4] [] S
noncomputable def b270_71 (d : Nat) (y1 : Int32) (y3 : Int32) (y4 : Int32) (S : z_S) : Option (Int32 × z_S) := zk kI z_X0 d 270 71 [.ref 396, .int y1, z_j, .int y3, .int y4] [] S
theorem b270_42_eq (d : Nat) (y4 : Int32) (S : z_S) (hW : z_W S)  : b270_42 d y4 S = (if ¬ y4 = (0 : Int32) then some ((0 : Int32), S) else some ((1 : Int32), S)) := by
  unfold b270_42
  refine (k_iload t270_42 rfl rfl).trans ?_
  refine (k_if_ne t270_44 rfl).trans (z_ite (fun g12 => ?_) (fun g12 => ?_))
  · refine (k_iconst t270_51 rfl zci_0).trans ?_
    refine (zk_mk (ls' := [z_j, z_j, z_j, z_j, z_j]) t270_52 rfl).trans ?_
    exact k_zretC t270_52 rfl (by decide) (by decide)
  · refine (k_iconst t270_47 rfl zci_1).trans ?_
    refine (k_goto t270_48 rfl).trans ?_
    refine (zk_mk (ls' := [z_j, z_j, z_j, z_j, z_j]) t270_52 rfl).trans ?_
    exact k_zretC t270_52 rfl (by decide) (by decide)
theorem b270_71_eq (d : Nat) (y1 : Int32) (y3 : Int32) (y4 : Int32) (S : z_S) (hW : z_W S)  : b270_71 d y1 y3 y4 S = (zb (fI d 207 [.ref 396, .int (1 : Int32), .int y3] S) fun v13 S14 => (if ¬ v13 = (0 : Int32) then some ((0 : Int32), S14) else (if z_in ((16 : Int32) + y3) 352 then (if (gI S14 423 (((16 : Int32) + y3)).toNatClampNeg) = (-1 : Int32) then (if z_in ((16 : Int32) + y3) 352 then (if (99 : Int32) < y4 then some ((0 : Int32), sI S14 423 (((16 : Int32) + y3)).toNatClampNeg y1) else some ((1 : Int32), sI S14 423 (((16 : Int32) + y3)).toNatClampNeg y1)) else none) else some ((0 : Int32), S14)) else none))) := by
  unfold b270_71
  refine (k_aload_n t270_71 rfl rfl).trans ?_
  refine (k_iconst t270_72 rfl zci_1).trans ?_
  refine (k_iload_n t270_73 rfl rfl).trans ?_
  refine k_callI (as := [.ref 396, .int (1 : Int32), .int y3]) (rest := []) t270_74 rfl rfl (by decide) rfl rfl (Nat.le_of_ble_eq_true rfl) rfl (z_rcV hW (zK_396) (by decide)) (by decide) (Or.inr (by decide)) hW (fun v13 S14 hW14 => ?_)
  refine (k_if_ne t270_77 rfl).trans (z_ite (fun g15 => ?_) (fun g15 => ?_))
  · refine (zk_mk (ls' := [z_j, z_j, z_j, z_j, z_j]) t270_93 rfl).trans ?_
    refine (k_iconst t270_93 rfl zci_0).trans ?_
    exact k_zretC t270_94 rfl (by decide) (by decide)
  · refine (k_aload_n t270_80 rfl rfl).trans ?_
    refine (k_getR t270_81 rfl hW14 zK_396 (by decide) (by decide) (zF_396_47 hW14)).trans ?_
    refine (k_bipush t270_84 rfl zcb_16).trans ?_
    refine (k_iload_n t270_86 rfl rfl).trans ?_
    refine (k_iadd t270_87 rfl).trans ?_
    refine (k_iald t270_88 rfl hW14 zK_423 zL_423).trans (z_ite (fun g16 => ?_) (fun _ => rfl))
    refine (k_iconst t270_89 rfl zci_m1).trans ?_
    refine (k_icmp_eq t270_90 rfl).trans (z_ite (fun g17 => ?_) (fun g17 => ?_))
    · refine (k_aload_n t270_95 rfl rfl).trans ?_
      refine (k_getR t270_96 rfl hW14 zK_396 (by decide) (by decide) (zF_396_47 hW14)).trans ?_
      refine (k_bipush t270_99 rfl zcb_16).trans ?_
      refine (k_iload_n t270_101 rfl rfl).trans ?_
      refine (k_iadd t270_102 rfl).trans ?_
      refine (k_iload_n t270_103 rfl rfl).trans ?_
      refine (k_iast t270_104 rfl hW14 zK_423 zL_423).trans (z_ite (fun g18 => ?_) (fun _ => rfl))
      refine (k_iload t270_105 rfl rfl).trans ?_
      refine (k_bipush t270_107 rfl zcb_99).trans ?_
      refine (k_icmp_gt t270_109 rfl).trans (z_ite (fun g19 => ?_) (fun g19 => ?_))
      · refine (k_iconst t270_116 rfl zci_0).trans ?_
        refine (zk_mk (ls' := [z_j, z_j, z_j, z_j, z_j]) t270_117 rfl).trans ?_
        exact k_zretC t270_117 rfl (by decide) (by decide)
      · refine (k_iconst t270_112 rfl zci_1).trans ?_
        refine (k_goto t270_113 rfl).trans ?_
        refine (zk_mk (ls' := [z_j, z_j, z_j, z_j, z_j]) t270_117 rfl).trans ?_
        exact k_zretC t270_117 rfl (by decide) (by decide)
    · refine (zk_mk (ls' := [z_j, z_j, z_j, z_j, z_j]) t270_93 rfl).trans ?_
      refine (k_iconst t270_93 rfl zci_0).trans ?_
      exact k_zretC t270_94 rfl (by decide) (by decide)
-- X12_lodgerOn
theorem e270 (d : Nat) (x1 : Int32) (x2 : Int32) (S : z_S) (hW : z_W S)  : fI (d + 1) 270 [.ref 396, .int x1, .int x2] S = (if z_in x2 1800 then (if z_in (x2 + (1 : Int32)) 1800 then (if z_in ((16 : Int32) + x1) 352 then (if (gI S 397 (x2).toNatClampNeg) = (254 : Int32) then b270_42 d (gI S 397 ((x2 + (1 : Int32))).toNatClampNeg) (sI S 424 (((16 : Int32) + x1)).toNatClampNeg (gI S 397 ((x2 + (1 : Int32))).toNatClampNeg)) else (if ¬ (gI S 397 (x2).toNatClampNeg) = (255 : Int32) then (zb (fI d 210 [.ref 396, .int x1] (sI S 424 (((16 : Int32) + x1)).toNatClampNeg (gI S 397 ((x2 + (1 : Int32))).toNatClampNeg))) fun v6 S7 => (if (gI S 397 (x2).toNatClampNeg) = v6 then b270_71 d x1 (gI S 397 (x2).toNatClampNeg) (gI S 397 ((x2 + (1 : Int32))).toNatClampNeg) S7 else (zb (fI d 211 [.ref 396, .int x1] S7) fun v9 S10 => (if ¬ (gI S 397 (x2).toNatClampNeg) = v9 then some ((0 : Int32), S10) else b270_71 d x1 (gI S 397 (x2).toNatClampNeg) (gI S 397 ((x2 + (1 : Int32))).toNatClampNeg) S10)))) else b270_42 d (gI S 397 ((x2 + (1 : Int32))).toNatClampNeg) (sI S 424 (((16 : Int32) + x1)).toNatClampNeg (gI S 397 ((x2 + (1 : Int32))).toNatClampNeg)))) else none) else none) else none) := by
  refine (fI_en (Nat.le_of_ble_eq_true rfl) rfl).trans ?_
  refine (k_aload_n t270_0 rfl rfl).trans ?_
  refine (k_getR t270_1 rfl hW zK_396 (by decide) (by decide) (zF_396_0 hW)).trans ?_
  refine (k_iload_n t270_4 rfl rfl).trans ?_
  refine (k_iald t270_5 rfl hW zK_397 zL_397).trans (z_ite (fun g1 => ?_) (fun _ => rfl))
  refine (k_istore_n (ls' := [.ref 396, .int x1, .int x2, .int (gI S 397 (x2).toNatClampNeg), z_j]) t270_6 rfl rfl).trans ?_
  refine (k_aload_n t270_7 rfl rfl).trans ?_
  refine (k_getR t270_8 rfl hW zK_396 (by decide) (by decide) (zF_396_0 hW)).trans ?_
  refine (k_iload_n t270_11 rfl rfl).trans ?_
  refine (k_iconst t270_12 rfl zci_1).trans ?_
  refine (k_iadd t270_13 rfl).trans ?_
  refine (k_iald t270_14 rfl hW zK_397 zL_397).trans (z_ite (fun g2 => ?_) (fun _ => rfl))
  refine (k_istore (ls' := [.ref 396, .int x1, .int x2, .int (gI S 397 (x2).toNatClampNeg), .int (gI S 397 ((x2 + (1 : Int32))).toNatClampNeg)]) t270_15 rfl rfl).trans ?_
  refine (k_aload_n t270_17 rfl rfl).trans ?_
  refine (k_getR t270_18 rfl hW zK_396 (by decide) (by decide) (zF_396_48 hW)).trans ?_
  refine (k_bipush t270_21 rfl zcb_16).trans ?_
  refine (k_iload_n t270_23 rfl rfl).trans ?_
  refine (k_iadd t270_24 rfl).trans ?_
  refine (k_iload t270_25 rfl rfl).trans ?_
  refine (k_iast t270_27 rfl hW zK_424 zL_424).trans (z_ite (fun g3 => ?_) (fun _ => rfl))
  refine (k_iload_n t270_28 rfl rfl).trans ?_
  refine (k_sipush t270_29 rfl zcs_254).trans ?_
  refine (k_icmp_eq t270_32 rfl).trans (z_ite (fun g4 => ?_) (fun g4 => ?_))
  · exact (zk_mk (ls' := [z_j, z_j, z_j, z_j, .int (gI S 397 ((x2 + (1 : Int32))).toNatClampNeg)]) t270_42 rfl)
  · refine (k_iload_n t270_35 rfl rfl).trans ?_
    refine (k_sipush t270_36 rfl zcs_255).trans ?_
    refine (k_icmp_ne t270_39 rfl).trans (z_ite (fun g5 => ?_) (fun g5 => ?_))
    · refine (k_iload_n t270_53 rfl rfl).trans ?_
      refine (k_aload_n t270_54 rfl rfl).trans ?_
      refine (k_iload_n t270_55 rfl rfl).trans ?_
      refine k_callI (as := [.ref 396, .int x1]) (rest := [.int (gI S 397 (x2).toNatClampNeg)]) t270_56 rfl rfl (by decide) rfl rfl (Nat.le_of_ble_eq_true rfl) rfl (z_rcV hW.sI (zK_396) (by decide)) (by decide) (Or.inl (by decide)) hW.sI (fun v6 S7 hW7 => ?_)
      refine (k_icmp_eq t270_59 rfl).trans (z_ite (fun g8 => ?_) (fun g8 => ?_))
      · exact (zk_mk (ls' := [.ref 396, .int x1, z_j, .int (gI S 397 (x2).toNatClampNeg), .int (gI S 397 ((x2 + (1 : Int32))).toNatClampNeg)]) t270_71 rfl)
      · refine (k_iload_n t270_62 rfl rfl).trans ?_
        refine (k_aload_n t270_63 rfl rfl).trans ?_
        refine (k_iload_n t270_64 rfl rfl).trans ?_
        refine k_callI (as := [.ref 396, .int x1]) (rest := [.int (gI S 397 (x2).toNatClampNeg)]) t270_65 rfl rfl (by decide) rfl rfl (Nat.le_of_ble_eq_true rfl) rfl (z_rcV hW7 (zK_396) (by decide)) (by decide) (Or.inl (by decide)) hW7 (fun v9 S10 hW10 => ?_)
        refine (k_icmp_ne t270_68 rfl).trans (z_ite (fun g11 => ?_) (fun g11 => ?_))
        · refine (zk_mk (ls' := [z_j, z_j, z_j, z_j, z_j]) t270_93 rfl).trans ?_
          refine (k_iconst t270_93 rfl zci_0).trans ?_
          exact k_zretC t270_94 rfl (by decide) (by decide)
        · exact (zk_mk (ls' := [.ref 396, .int x1, z_j, .int (gI S 397 (x2).toNatClampNeg), .int (gI S 397 ((x2 + (1 : Int32))).toNatClampNeg)]) t270_71 rfl)
    · exact (zk_mk (ls' := [z_j, z_j, z_j, z_j, .int (gI S 397 ((x2 + (1 : Int32))).toNatClampNeg)]) t270_42 rfl)
theorem t271_0 : z_ft 271 0 = some (.iconst 0, 1, none, [], 0, 0, 0, 0) := z_ftd (by decide +kernel)
theorem t271_1 : z_ft 271 1 = some (.istore 4, 2, none, [], 0, 0, 0, 0) := z_ftd (by decide +kernel)
theorem t271_3 : z_ft 271 3 = some (.iconst 0, 1, none, [], 0, 0, 0, 0) := z_ftd (by decide +kernel)
theorem t271_4 : z_ft 271 4 = some (.istore 5, 2, none, [], 0, 0, 0, 0) := z_ftd (by decide +kernel)
theorem t271_6 : z_ft 271 6 = some (.iload 5, 2, (some [0, 1, 2, 3, 4, 5]), [], 0, 0, 0, 0) := z_ftd (by decide +kernel)
theorem t271_8 : z_ft 271 8 = some (.iload_n 2, 1, none, [], 0, 0, 0, 0) := z_ftd (by decide +kernel)
theorem t271_9 : z_ft 271 9 = some (.if_icmp .ge 62, 3, none, [], 71, 0, 0, 0) := z_ftd (by decide +kernel)
theorem t271_12 : z_ft 271 12 = some (.aload_n 0, 1, none, [], 0, 0, 0, 0) := z_ftd (by decide +kernel)
theorem t271_13 : z_ft 271 13 = some (.getfield 7, 3, none, [], 12, 0, 1, 0) := z_ftd (by decide +kernel)
theorem t271_16 : z_ft 271 16 = some (.iload_n 1, 1, none, [], 0, 0, 0, 0) := z_ftd (by decide +kernel)
theorem t271_17 : z_ft 271 17 = some (.iload 5, 2, none, [], 0, 0, 0, 0) := z_ftd (by decide +kernel)
theorem t271_19 : z_ft 271 19 = some (.iadd, 1, none, [], 0, 0, 0, 0) := z_ftd (by decide +kernel)
theorem t271_20 : z_ft 271 20 = some (.iaload, 1, none, [], 0, 0, 0, 0) := z_ftd (by decide +kernel)
theorem t271_21 : z_ft 271 21 = some (.istore 6, 2, none, [], 0, 0, 0, 0) := z_ftd (by decide +kernel)
theorem t271_23 : z_ft 271 23 = some (.aload_n 0, 1, none, [], 0, 0, 0, 0) := z_ftd (by decide +kernel)
theorem t271_24 : z_ft 271 24 = some (.iload 6, 2, none, [], 0, 0, 0, 0) := z_ftd (by decide +kernel)
theorem t271_26 : z_ft 271 26 = some (.invokevirtual 495, 3, none, [], 228, 0, 156, 0) := z_ftd (by decide +kernel)
theorem t271_29 : z_ft 271 29 = some (.ifCond .eq 13, 3, none, [], 42, 0, 0, 0) := z_ftd (by decide +kernel)
theorem t271_32 : z_ft 271 32 = some (.iload 4, 2, none, [], 0, 0, 0, 0) := z_ftd (by decide +kernel)
theorem t271_34 : z_ft 271 34 = some (.iload 6, 2, none, [], 0, 0, 0, 0) := z_ftd (by decide +kernel)
theorem t271_36 : z_ft 271 36 = some (.invokestatic 364, 3, none, [], 182, 0, 121, 0) := z_ftd (by decide +kernel)
theorem t271_39 : z_ft 271 39 = some (.ifCond .eq 5, 3, none, [], 44, 0, 0, 0) := z_ftd (by decide +kernel)
theorem t271_42 : z_ft 271 42 = some (.iconst 0, 1, (some []), [], 0, 0, 0, 0) := z_ftd (by decide +kernel)
theorem t271_43 : z_ft 271 43 = some (.ireturn, 1, none, [], 0, 0, 0, 0) := z_ftd (by decide +kernel)
theorem t271_44 : z_ft 271 44 = some (.iload 4, 2, none, [], 0, 0, 0, 0) := z_ftd (by decide +kernel)
theorem t271_46 : z_ft 271 46 = some (.iconst 1, 1, none, [], 0, 0, 0, 0) := z_ftd (by decide +kernel)
theorem t271_47 : z_ft 271 47 = some (.iload 6, 2, none, [], 0, 0, 0, 0) := z_ftd (by decide +kernel)
theorem t271_49 : z_ft 271 49 = some (.ishl, 1, none, [], 0, 0, 0, 0) := z_ftd (by decide +kernel)
theorem t271_50 : z_ft 271 50 = some (.ior, 1, none, [], 0, 0, 0, 0) := z_ftd (by decide +kernel)
theorem t271_51 : z_ft 271 51 = some (.istore 4, 2, none, [], 0, 0, 0, 0) := z_ftd (by decide +kernel)
theorem t271_53 : z_ft 271 53 = some (.aload_n 0, 1, none, [], 0, 0, 0, 0) := z_ftd (by decide +kernel)
theorem t271_54 : z_ft 271 54 = some (.getfield 165, 3, none, [], 12, 50, 51, 0) := z_ftd (by decide +kernel)
theorem t271_57 : z_ft 271 57 = some (.bipush 6, 2, none, [], 0, 0, 0, 0) := z_ftd (by decide +kernel)
theorem t271_59 : z_ft 271 59 = some (.iload 5, 2, none, [], 0, 0, 0, 0) := z_ftd (by decide +kernel)
theorem t271_61 : z_ft 271 61 = some (.iadd, 1, none, [], 0, 0, 0, 0) := z_ftd (by decide +kernel)
theorem t271_62 : z_ft 271 62 = some (.iload 6, 2, none, [], 0, 0, 0, 0) := z_ftd (by decide +kernel)
theorem t271_64 : z_ft 271 64 = some (.iastore, 1, none, [], 0, 0, 0, 0) := z_ftd (by decide +kernel)
theorem t271_65 : z_ft 271 65 = some (.iinc 5 1, 3, none, [], 0, 0, 0, 0) := z_ftd (by decide +kernel)
theorem t271_68 : z_ft 271 68 = some (.goto (-62), 3, none, [], 6, 0, 0, 0) := z_ftd (by decide +kernel)
theorem t271_71 : z_ft 271 71 = some (.aload_n 0, 1, none, [], 0, 0, 0, 0) := z_ftd (by decide +kernel)
theorem t271_72 : z_ft 271 72 = some (.getfield 162, 3, none, [], 12, 49, 50, 0) := z_ftd (by decide +kernel)
theorem t271_75 : z_ft 271 75 = some (.iconst 1, 1, none, [], 0, 0, 0, 0) := z_ftd (by decide +kernel)
theorem t271_76 : z_ft 271 76 = some (.iload_n 2, 1, none, [], 0, 0, 0, 0) := z_ftd (by decide +kernel)
theorem t271_77 : z_ft 271 77 = some (.iastore, 1, none, [], 0, 0, 0, 0) := z_ftd (by decide +kernel)
theorem t271_78 : z_ft 271 78 = some (.iload 4, 2, none, [], 0, 0, 0, 0) := z_ftd (by decide +kernel)
theorem t271_80 : z_ft 271 80 = some (.iload_n 3, 1, none, [], 0, 0, 0, 0) := z_ftd (by decide +kernel)
theorem t271_81 : z_ft 271 81 = some (.if_icmp .ne 7, 3, none, [], 88, 0, 0, 0) := z_ftd (by decide +kernel)
theorem t271_84 : z_ft 271 84 = some (.iconst 1, 1, none, [], 0, 0, 0, 0) := z_ftd (by decide +kernel)
theorem t271_85 : z_ft 271 85 = some (.goto 4, 3, none, [], 89, 0, 0, 0) := z_ftd (by decide +kernel)
theorem t271_88 : z_ft 271 88 = some (.iconst 0, 1, none, [], 0, 0, 0, 0) := z_ftd (by decide +kernel)
theorem t271_89 : z_ft 271 89 = some (.ireturn, 1, (some []), [], 0, 0, 0, 0) := z_ftd (by decide +kernel)
noncomputable def b271_6 (d : Nat) (y1 : Int32) (y2 : Int32) (y3 : Int32) (y4 : Int32) (y5 : Int32) (S : z_S) : Option (Int32 × z_S) := zk kI z_X0 d 271 6 [.ref 396, .int y1, .int y2, .int y3, .int y4, .int y5, z_j] [] S
theorem b271_6_eq (d : Nat) (y1 : Int32) (y2 : Int32) (y3 : Int32) (y4 : Int32) (y5 : Int32) (S : z_S) (hW : z_W S)  : b271_6 d y1 y2 y3 y4 y5 S = (if y2 ≤ y5 then (if z_in (1 : Int32) 22 then (if ¬ y4 = y3 then some ((0 : Int32), sI S 425 ((1 : Int32)).toNatClampNeg y2) else some ((1 : Int32), sI S 425 ((1 : Int32)).toNatClampNeg y2)) else none) else (if z_in (y1 + y5) 1800 then (zb (fI d 228 [.ref 396, .int (gI S 397 ((y1 + y5)).toNatClampNeg)] S) fun v5 S6 => (if v5 = (0 : Int32) then some ((0 : Int32), S6) else (zb (fI d 182 [.int y4, .int (gI S 397 ((y1 + y5)).toNatClampNeg)] S6) fun v8 S9 => (if v8 = (0 : Int32) then (if z_in ((6 : Int32) + y5) 132 then b271_6 d y1 y2 y3 (y4 ||| ((1 : Int32) <<< ((gI S 397 ((y1 + y5)).toNatClampNeg) &&& 31))) (y5 + (1 : Int32)) (sI S9 426 (((6 : Int32) + y5)).toNatClampNeg (gI S 397 ((y1 + y5)).toNatClampNeg)) else none) else some ((0 : Int32), S9))))) else none)) := by
  unfold b271_6
  refine (k_iload t271_6 rfl rfl).trans ?_
  refine (k_iload_n t271_8 rfl rfl).trans ?_
  refine (k_icmp_ge t271_9 rfl).trans (z_ite (fun g1 => ?_) (fun g1 => ?_))
  · refine (k_aload_n t271_71 rfl rfl).trans ?_
    refine (k_getR t271_72 rfl hW zK_396 (by decide) (by decide) (zF_396_49 hW)).trans ?_
    refine (k_iconst t271_75 rfl zci_1).trans ?_
    refine (k_iload_n t271_76 rfl rfl).trans ?_
    refine (k_iast t271_77 rfl hW zK_425 zL_425).trans (z_ite (fun g2 => ?_) (fun _ => rfl))
    refine (k_iload t271_78 rfl rfl).trans ?_
    refine (k_iload_n t271_80 rfl rfl).trans ?_
    refine (k_icmp_ne t271_81 rfl).trans (z_ite (fun g3 => ?_) (fun g3 => ?_))
    · refine (k_iconst t271_88 rfl zci_0).trans ?_
      refine (zk_mk (ls' := [z_j, z_j, z_j, z_j, z_j, z_j, z_j]) t271_89 rfl).trans ?_
      exact k_zretC t271_89 rfl (by decide) (by decide)
    · refine (k_iconst t271_84 rfl zci_1).trans ?_
      refine (k_goto t271_85 rfl).trans ?_
      refine (zk_mk (ls' := [z_j, z_j, z_j, z_j, z_j, z_j, z_j]) t271_89 rfl).trans ?_
      exact k_zretC t271_89 rfl (by decide) (by decide)
  · refine (k_aload_n t271_12 rfl rfl).trans ?_
    refine (k_getR t271_13 rfl hW zK_396 (by decide) (by decide) (zF_396_0 hW)).trans ?_
    refine (k_iload_n t271_16 rfl rfl).trans ?_
    refine (k_iload t271_17 rfl rfl).trans ?_
    refine (k_iadd t271_19 rfl).trans ?_
    refine (k_iald t271_20 rfl hW zK_397 zL_397).trans (z_ite (fun g4 => ?_) (fun _ => rfl))
    refine (k_istore (ls' := [.ref 396, .int y1, .int y2, .int y3, .int y4, .int y5, .int (gI S 397 ((y1 + y5)).toNatClampNeg)]) t271_21 rfl rfl).trans ?_
    refine (k_aload_n t271_23 rfl rfl).trans ?_
    refine (k_iload t271_24 rfl rfl).trans ?_
    refine k_callI (as := [.ref 396, .int (gI S 397 ((y1 + y5)).toNatClampNeg)]) (rest := []) t271_26 rfl rfl (by decide) rfl rfl (Nat.le_of_ble_eq_true rfl) rfl (z_rcV hW (zK_396) (by decide)) (by decide) (Or.inr (by decide)) hW (fun v5 S6 hW6 => ?_)
    refine (k_if_eq t271_29 rfl).trans (z_ite (fun g7 => ?_) (fun g7 => ?_))
    · refine (zk_mk (ls' := [z_j, z_j, z_j, z_j, z_j, z_j, z_j]) t271_42 rfl).trans ?_
      refine (k_iconst t271_42 rfl zci_0).trans ?_
      exact k_zretC t271_43 rfl (by decide) (by decide)
    · refine (k_iload t271_32 rfl rfl).trans ?_
      refine (k_iload t271_34 rfl rfl).trans ?_
      refine k_callI (as := [.int y4, .int (gI S 397 ((y1 + y5)).toNatClampNeg)]) (rest := []) t271_36 rfl rfl (by decide) rfl rfl (Nat.le_of_ble_eq_true rfl) rfl (z_rcS (by decide)) (by decide) (Or.inr (by decide)) hW6 (fun v8 S9 hW9 => ?_)
      refine (k_if_eq t271_39 rfl).trans (z_ite (fun g10 => ?_) (fun g10 => ?_))
      · refine (k_iload t271_44 rfl rfl).trans ?_
        refine (k_iconst t271_46 rfl zci_1).trans ?_
        refine (k_iload t271_47 rfl rfl).trans ?_
        refine (k_ishl t271_49 rfl).trans ?_
        refine (k_ior t271_50 rfl).trans ?_
        refine (k_istore (ls' := [.ref 396, .int y1, .int y2, .int y3, .int (y4 ||| ((1 : Int32) <<< ((gI S 397 ((y1 + y5)).toNatClampNeg) &&& 31))), .int y5, .int (gI S 397 ((y1 + y5)).toNatClampNeg)]) t271_51 rfl rfl).trans ?_
        refine (k_aload_n t271_53 rfl rfl).trans ?_
        refine (k_getR t271_54 rfl hW9 zK_396 (by decide) (by decide) (zF_396_50 hW9)).trans ?_
        refine (k_bipush t271_57 rfl zcb_6).trans ?_
        refine (k_iload t271_59 rfl rfl).trans ?_
        refine (k_iadd t271_61 rfl).trans ?_
        refine (k_iload t271_62 rfl rfl).trans ?_
        refine (k_iast t271_64 rfl hW9 zK_426 zL_426).trans (z_ite (fun g11 => ?_) (fun _ => rfl))
        refine (k_iinc (b := (y5 + (1 : Int32))) (ls' := [.ref 396, .int y1, .int y2, .int y3, .int (y4 ||| ((1 : Int32) <<< ((gI S 397 ((y1 + y5)).toNatClampNeg) &&& 31))), .int (y5 + (1 : Int32)), .int (gI S 397 ((y1 + y5)).toNatClampNeg)]) t271_65 rfl rfl (by rw [zci_1]) rfl).trans ?_
        refine (k_goto t271_68 rfl).trans ?_
        exact (zk_mk (ls' := [.ref 396, .int y1, .int y2, .int y3, .int (y4 ||| ((1 : Int32) <<< ((gI S 397 ((y1 + y5)).toNatClampNeg) &&& 31))), .int (y5 + (1 : Int32)), z_j]) t271_6 rfl)
      · refine (zk_mk (ls' := [z_j, z_j, z_j, z_j, z_j, z_j, z_j]) t271_42 rfl).trans ?_
        refine (k_iconst t271_42 rfl zci_0).trans ?_
        exact k_zretC t271_43 rfl (by decide) (by decide)
-- X12_benchOn
theorem e271 (d : Nat) (x1 : Int32) (x2 : Int32) (x3 : Int32) (S : z_S) (hW : z_W S)  : fI (d + 1) 271 [.ref 396, .int x1, .int x2, .int x3] S = b271_6 d x1 x2 x3 (0 : Int32) (0 : Int32) S := by
  refine (fI_en (Nat.le_of_ble_eq_true rfl) rfl).trans ?_
  refine (k_iconst t271_0 rfl zci_0).trans ?_
  refine (k_istore (ls' := [.ref 396, .int x1, .int x2, .int x3, .int (0 : Int32), z_j, z_j]) t271_1 rfl rfl).trans ?_
  refine (k_iconst t271_3 rfl zci_0).trans ?_
  refine (k_istore (ls' := [.ref 396, .int x1, .int x2, .int x3, .int (0 : Int32), .int (0 : Int32), z_j]) t271_4 rfl rfl).trans ?_
  exact (zk_mk (ls' := [.ref 396, .int x1, .int x2, .int x3, .int (0 : Int32), .int (0 : Int32), z_j]) t271_6 rfl)
theorem t272_0 : z_ft 272 0 = some (.iconst 5, 1, none, [], 0, 0, 0, 0) := z_ftd (by decide +kernel)
theorem t272_1 : z_ft 272 1 = some (.aload_n 0, 1, none, [], 0, 0, 0, 0) := z_ftd (by decide +kernel)
theorem t272_2 : z_ft 272 2 = some (.getfield 54, 3, none, [], 12, 14, 15, 0) := z_ftd (by decide +kernel)
theorem t272_5 : z_ft 272 5 = some (.aload_n 0, 1, none, [], 0, 0, 0, 0) := z_ftd (by decide +kernel)
theorem t272_6 : z_ft 272 6 = some (.getfield 51, 3, none, [], 12, 13, 14, 0) := z_ftd (by decide +kernel)
theorem t272_9 : z_ft 272 9 = some (.iaload, 1, none, [], 0, 0, 0, 0) := z_ftd (by decide +kernel)
theorem t272_10 : z_ft 272 10 = some (.iadd, 1, none, [], 0, 0, 0, 0) := z_ftd (by decide +kernel)
theorem t272_11 : z_ft 272 11 = some (.istore_n 2, 1, none, [], 0, 0, 0, 0) := z_ftd (by decide +kernel)
theorem t272_12 : z_ft 272 12 = some (.iload_n 2, 1, none, [], 0, 0, 0, 0) := z_ftd (by decide +kernel)
theorem t272_13 : z_ft 272 13 = some (.iconst 2, 1, none, [], 0, 0, 0, 0) := z_ftd (by decide +kernel)
theorem t272_14 : z_ft 272 14 = some (.aload_n 0, 1, none, [], 0, 0, 0, 0) := z_ftd (by decide +kernel)
theorem t272_15 : z_ft 272 15 = some (.getfield 66, 3, none, [], 12, 18, 19, 0) := z_ftd (by decide +kernel)
theorem t272_18 : z_ft 272 18 = some (.aload_n 0, 1, none, [], 0, 0, 0, 0) := z_ftd (by decide +kernel)
theorem t272_19 : z_ft 272 19 = some (.getfield 51, 3, none, [], 12, 13, 14, 0) := z_ftd (by decide +kernel)
theorem t272_22 : z_ft 272 22 = some (.iaload, 1, none, [], 0, 0, 0, 0) := z_ftd (by decide +kernel)
theorem t272_23 : z_ft 272 23 = some (.imul, 1, none, [], 0, 0, 0, 0) := z_ftd (by decide +kernel)
theorem t272_24 : z_ft 272 24 = some (.iadd, 1, none, [], 0, 0, 0, 0) := z_ftd (by decide +kernel)
theorem t272_25 : z_ft 272 25 = some (.istore_n 3, 1, none, [], 0, 0, 0, 0) := z_ftd (by decide +kernel)
theorem t272_26 : z_ft 272 26 = some (.aload_n 0, 1, none, [], 0, 0, 0, 0) := z_ftd (by decide +kernel)
theorem t272_27 : z_ft 272 27 = some (.getfield 7, 3, none, [], 12, 0, 1, 0) := z_ftd (by decide +kernel)
theorem t272_30 : z_ft 272 30 = some (.iconst 2, 1, none, [], 0, 0, 0, 0) := z_ftd (by decide +kernel)
theorem t272_31 : z_ft 272 31 = some (.iaload, 1, none, [], 0, 0, 0, 0) := z_ftd (by decide +kernel)
theorem t272_32 : z_ft 272 32 = some (.bipush 16, 2, none, [], 0, 0, 0, 0) := z_ftd (by decide +kernel)
theorem t272_34 : z_ft 272 34 = some (.ishl, 1, none, [], 0, 0, 0, 0) := z_ftd (by decide +kernel)
theorem t272_35 : z_ft 272 35 = some (.aload_n 0, 1, none, [], 0, 0, 0, 0) := z_ftd (by decide +kernel)
theorem t272_36 : z_ft 272 36 = some (.getfield 7, 3, none, [], 12, 0, 1, 0) := z_ftd (by decide +kernel)
theorem t272_39 : z_ft 272 39 = some (.iconst 3, 1, none, [], 0, 0, 0, 0) := z_ftd (by decide +kernel)
theorem t272_40 : z_ft 272 40 = some (.iaload, 1, none, [], 0, 0, 0, 0) := z_ftd (by decide +kernel)
theorem t272_41 : z_ft 272 41 = some (.bipush 8, 2, none, [], 0, 0, 0, 0) := z_ftd (by decide +kernel)
theorem t272_43 : z_ft 272 43 = some (.ishl, 1, none, [], 0, 0, 0, 0) := z_ftd (by decide +kernel)
theorem t272_44 : z_ft 272 44 = some (.ior, 1, none, [], 0, 0, 0, 0) := z_ftd (by decide +kernel)
theorem t272_45 : z_ft 272 45 = some (.aload_n 0, 1, none, [], 0, 0, 0, 0) := z_ftd (by decide +kernel)
theorem t272_46 : z_ft 272 46 = some (.getfield 7, 3, none, [], 12, 0, 1, 0) := z_ftd (by decide +kernel)
theorem t272_49 : z_ft 272 49 = some (.iconst 4, 1, none, [], 0, 0, 0, 0) := z_ftd (by decide +kernel)
theorem t272_50 : z_ft 272 50 = some (.iaload, 1, none, [], 0, 0, 0, 0) := z_ftd (by decide +kernel)
theorem t272_51 : z_ft 272 51 = some (.ior, 1, none, [], 0, 0, 0, 0) := z_ftd (by decide +kernel)
theorem t272_52 : z_ft 272 52 = some (.istore 4, 2, none, [], 0, 0, 0, 0) := z_ftd (by decide +kernel)
theorem t272_54 : z_ft 272 54 = some (.aload_n 0, 1, none, [], 0, 0, 0, 0) := z_ftd (by decide +kernel)
theorem t272_55 : z_ft 272 55 = some (.getfield 141, 3, none, [], 12, 42, 43, 0) := z_ftd (by decide +kernel)
theorem t272_58 : z_ft 272 58 = some (.ifCond .eq 72, 3, none, [], 130, 0, 0, 0) := z_ftd (by decide +kernel)
theorem t272_61 : z_ft 272 61 = some (.iload_n 1, 1, none, [], 0, 0, 0, 0) := z_ftd (by decide +kernel)
theorem t272_62 : z_ft 272 62 = some (.iload_n 3, 1, none, [], 0, 0, 0, 0) := z_ftd (by decide +kernel)
theorem t272_63 : z_ft 272 63 = some (.iconst 2, 1, none, [], 0, 0, 0, 0) := z_ftd (by decide +kernel)
theorem t272_64 : z_ft 272 64 = some (.iadd, 1, none, [], 0, 0, 0, 0) := z_ftd (by decide +kernel)
theorem t272_65 : z_ft 272 65 = some (.if_icmp .lt 65, 3, none, [], 130, 0, 0, 0) := z_ftd (by decide +kernel)
theorem t272_68 : z_ft 272 68 = some (.aload_n 0, 1, none, [], 0, 0, 0, 0) := z_ftd (by decide +kernel)
theorem t272_69 : z_ft 272 69 = some (.getfield 7, 3, none, [], 12, 0, 1, 0) := z_ftd (by decide +kernel)
theorem t272_72 : z_ft 272 72 = some (.iload_n 3, 1, none, [], 0, 0, 0, 0) := z_ftd (by decide +kernel)
theorem t272_73 : z_ft 272 73 = some (.iaload, 1, none, [], 0, 0, 0, 0) := z_ftd (by decide +kernel)
theorem t272_74 : z_ft 272 74 = some (.aload_n 0, 1, none, [], 0, 0, 0, 0) := z_ftd (by decide +kernel)
theorem t272_75 : z_ft 272 75 = some (.getfield 57, 3, none, [], 12, 15, 16, 0) := z_ftd (by decide +kernel)
theorem t272_78 : z_ft 272 78 = some (.aload_n 0, 1, none, [], 0, 0, 0, 0) := z_ftd (by decide +kernel)
theorem t272_79 : z_ft 272 79 = some (.getfield 51, 3, none, [], 12, 13, 14, 0) := z_ftd (by decide +kernel)
theorem t272_82 : z_ft 272 82 = some (.iaload, 1, none, [], 0, 0, 0, 0) := z_ftd (by decide +kernel)
theorem t272_83 : z_ft 272 83 = some (.if_icmp .gt 47, 3, none, [], 130, 0, 0, 0) := z_ftd (by decide +kernel)
theorem t272_86 : z_ft 272 86 = some (.iload_n 1, 1, none, [], 0, 0, 0, 0) := z_ftd (by decide +kernel)
theorem t272_87 : z_ft 272 87 = some (.iload_n 3, 1, none, [], 0, 0, 0, 0) := z_ftd (by decide +kernel)
theorem t272_88 : z_ft 272 88 = some (.aload_n 0, 1, none, [], 0, 0, 0, 0) := z_ftd (by decide +kernel)
theorem t272_89 : z_ft 272 89 = some (.getfield 7, 3, none, [], 12, 0, 1, 0) := z_ftd (by decide +kernel)
theorem t272_92 : z_ft 272 92 = some (.iload_n 3, 1, none, [], 0, 0, 0, 0) := z_ftd (by decide +kernel)
theorem t272_93 : z_ft 272 93 = some (.iaload, 1, none, [], 0, 0, 0, 0) := z_ftd (by decide +kernel)
theorem t272_94 : z_ft 272 94 = some (.iadd, 1, none, [], 0, 0, 0, 0) := z_ftd (by decide +kernel)
theorem t272_95 : z_ft 272 95 = some (.iconst 2, 1, none, [], 0, 0, 0, 0) := z_ftd (by decide +kernel)
theorem t272_96 : z_ft 272 96 = some (.iadd, 1, none, [], 0, 0, 0, 0) := z_ftd (by decide +kernel)
theorem t272_97 : z_ft 272 97 = some (.if_icmp .ne 33, 3, none, [], 130, 0, 0, 0) := z_ftd (by decide +kernel)
theorem t272_100 : z_ft 272 100 = some (.aload_n 0, 1, none, [], 0, 0, 0, 0) := z_ftd (by decide +kernel)
theorem t272_101 : z_ft 272 101 = some (.getfield 7, 3, none, [], 12, 0, 1, 0) := z_ftd (by decide +kernel)
theorem t272_104 : z_ft 272 104 = some (.iconst 0, 1, none, [], 0, 0, 0, 0) := z_ftd (by decide +kernel)
theorem t272_105 : z_ft 272 105 = some (.iaload, 1, none, [], 0, 0, 0, 0) := z_ftd (by decide +kernel)
theorem t272_106 : z_ft 272 106 = some (.bipush 8, 2, none, [], 0, 0, 0, 0) := z_ftd (by decide +kernel)
theorem t272_108 : z_ft 272 108 = some (.ishl, 1, none, [], 0, 0, 0, 0) := z_ftd (by decide +kernel)
theorem t272_109 : z_ft 272 109 = some (.aload_n 0, 1, none, [], 0, 0, 0, 0) := z_ftd (by decide +kernel)
theorem t272_110 : z_ft 272 110 = some (.getfield 7, 3, none, [], 12, 0, 1, 0) := z_ftd (by decide +kernel)
theorem t272_113 : z_ft 272 113 = some (.iconst 1, 1, none, [], 0, 0, 0, 0) := z_ftd (by decide +kernel)
theorem t272_114 : z_ft 272 114 = some (.iaload, 1, none, [], 0, 0, 0, 0) := z_ftd (by decide +kernel)
theorem t272_115 : z_ft 272 115 = some (.ior, 1, none, [], 0, 0, 0, 0) := z_ftd (by decide +kernel)
theorem t272_116 : z_ft 272 116 = some (.sipush 999, 3, none, [], 0, 0, 0, 0) := z_ftd (by decide +kernel)
theorem t272_119 : z_ft 272 119 = some (.if_icmp .gt 11, 3, none, [], 130, 0, 0, 0) := z_ftd (by decide +kernel)
theorem t272_122 : z_ft 272 122 = some (.iload 4, 2, none, [], 0, 0, 0, 0) := z_ftd (by decide +kernel)
theorem t272_124 : z_ft 272 124 = some (.ldc_w 481, 3, none, [], 0, 0, 169, 999999) := z_ftd (by decide +kernel)
theorem t272_127 : z_ft 272 127 = some (.if_icmp .le 5, 3, none, [], 132, 0, 0, 0) := z_ftd (by decide +kernel)
theorem t272_130 : z_ft 272 130 = some (.iconst 0, 1, (some []), [], 0, 0, 0, 0) := z_ftd (by decide +kernel)
theorem t272_131 : z_ft 272 131 = some (.ireturn, 1, none, [], 0, 0, 0, 0) := z_ftd (by decide +kernel)
theorem t272_132 : z_ft 272 132 = some (.sipush 227, 3, none, [], 0, 0, 0, 0) := z_ftd (by decide +kernel)
theorem t272_135 : z_ft 272 135 = some (.istore 5, 2, none, [], 0, 0, 0, 0) := z_ftd (by decide +kernel)
theorem t272_137 : z_ft 272 137 = some (.iconst 0, 1, none, [], 0, 0, 0, 0) := z_ftd (by decide +kernel)
theorem t272_138 : z_ft 272 138 = some (.istore 6, 2, none, [], 0, 0, 0, 0) := z_ftd (by decide +kernel)
theorem t272_140 : z_ft 272 140 = some (.iload 6, 2, (some [0, 1, 2, 3, 4, 5, 6]), [], 0, 0, 0, 0) := z_ftd (by decide +kernel)
theorem t272_142 : z_ft 272 142 = some (.iload_n 1, 1, none, [], 0, 0, 0, 0) := z_ftd (by decide +kernel)
theorem t272_143 : z_ft 272 143 = some (.iconst 1, 1, none, [], 0, 0, 0, 0) := z_ftd (by decide +kernel)
theorem t272_144 : z_ft 272 144 = some (.isub, 1, none, [], 0, 0, 0, 0) := z_ftd (by decide +kernel)
theorem t272_145 : z_ft 272 145 = some (.if_icmp .ge 27, 3, none, [], 172, 0, 0, 0) := z_ftd (by decide +kernel)
theorem t272_148 : z_ft 272 148 = some (.iconst 5, 1, none, [], 0, 0, 0, 0) := z_ftd (by decide +kernel)
theorem t272_149 : z_ft 272 149 = some (.iload 5, 2, none, [], 0, 0, 0, 0) := z_ftd (by decide +kernel)
theorem t272_151 : z_ft 272 151 = some (.imul, 1, none, [], 0, 0, 0, 0) := z_ftd (by decide +kernel)
theorem t272_152 : z_ft 272 152 = some (.aload_n 0, 1, none, [], 0, 0, 0, 0) := z_ftd (by decide +kernel)
theorem t272_153 : z_ft 272 153 = some (.getfield 7, 3, none, [], 12, 0, 1, 0) := z_ftd (by decide +kernel)
theorem t272_156 : z_ft 272 156 = some (.iload 6, 2, none, [], 0, 0, 0, 0) := z_ftd (by decide +kernel)
theorem t272_158 : z_ft 272 158 = some (.iaload, 1, none, [], 0, 0, 0, 0) := z_ftd (by decide +kernel)
theorem t272_159 : z_ft 272 159 = some (.iadd, 1, none, [], 0, 0, 0, 0) := z_ftd (by decide +kernel)
theorem t272_160 : z_ft 272 160 = some (.sipush 251, 3, none, [], 0, 0, 0, 0) := z_ftd (by decide +kernel)
theorem t272_163 : z_ft 272 163 = some (.irem, 1, none, [], 0, 0, 0, 0) := z_ftd (by decide +kernel)
theorem t272_164 : z_ft 272 164 = some (.istore 5, 2, none, [], 0, 0, 0, 0) := z_ftd (by decide +kernel)
theorem t272_166 : z_ft 272 166 = some (.iinc 6 1, 3, none, [], 0, 0, 0, 0) := z_ftd (by decide +kernel)
theorem t272_169 : z_ft 272 169 = some (.goto (-29), 3, none, [], 140, 0, 0, 0) := z_ftd (by decide +kernel)
theorem t272_172 : z_ft 272 172 = some (.aload_n 0, 1, none, [], 0, 0, 0, 0) := z_ftd (by decide +kernel)
theorem t272_173 : z_ft 272 173 = some (.getfield 7, 3, none, [], 12, 0, 1, 0) := z_ftd (by decide +kernel)
theorem t272_176 : z_ft 272 176 = some (.iload_n 1, 1, none, [], 0, 0, 0, 0) := z_ftd (by decide +kernel)
theorem t272_177 : z_ft 272 177 = some (.iconst 1, 1, none, [], 0, 0, 0, 0) := z_ftd (by decide +kernel)
theorem t272_178 : z_ft 272 178 = some (.isub, 1, none, [], 0, 0, 0, 0) := z_ftd (by decide +kernel)
theorem t272_179 : z_ft 272 179 = some (.iaload, 1, none, [], 0, 0, 0, 0) := z_ftd (by decide +kernel)
theorem t272_180 : z_ft 272 180 = some (.iload 5, 2, none, [], 0, 0, 0, 0) := z_ftd (by decide +kernel)
theorem t272_182 : z_ft 272 182 = some (.if_icmp .eq 5, 3, none, [], 187, 0, 0, 0) := z_ftd (by decide +kernel)
theorem t272_185 : z_ft 272 185 = some (.iconst 0, 1, none, [], 0, 0, 0, 0) := z_ftd (by decide +kernel)
theorem t272_186 : z_ft 272 186 = some (.ireturn, 1, none, [], 0, 0, 0, 0) := z_ftd (by decide +kernel)
theorem t272_187 : z_ft 272 187 = some (.aload_n 0, 1, none, [], 0, 0, 0, 0) := z_ftd (by decide +kernel)
theorem t272_188 : z_ft 272 188 = some (.iconst 1, 1, none, [], 0, 0, 0, 0) := z_ftd (by decide +kernel)
theorem t272_189 : z_ft 272 189 = some (.iconst 0, 1, none, [], 0, 0, 0, 0) := z_ftd (by decide +kernel)
theorem t272_190 : z_ft 272 190 = some (.invokevirtual 407, 3, none, [], 196, 0, 153, 0) := z_ftd (by decide +kernel)
theorem t272_193 : z_ft 272 193 = some (.aload_n 0, 1, none, [], 0, 0, 0, 0) := z_ftd (by decide +kernel)
theorem t272_194 : z_ft 272 194 = some (.getfield 147, 3, none, [], 12, 44, 45, 0) := z_ftd (by decide +kernel)
theorem t272_197 : z_ft 272 197 = some (.iconst 1, 1, none, [], 0, 0, 0, 0) := z_ftd (by decide +kernel)
theorem t272_198 : z_ft 272 198 = some (.aload_n 0, 1, none, [], 0, 0, 0, 0) := z_ftd (by decide +kernel)
theorem t272_199 : z_ft 272 199 = some (.getfield 7, 3, none, [], 12, 0, 1, 0) := z_ftd (by decide +kernel)
theorem t272_202 : z_ft 272 202 = some (.iconst 0, 1, none, [], 0, 0, 0, 0) := z_ftd (by decide +kernel)
theorem t272_203 : z_ft 272 203 = some (.iaload, 1, none, [], 0, 0, 0, 0) := z_ftd (by decide +kernel)
theorem t272_204 : z_ft 272 204 = some (.bipush 8, 2, none, [], 0, 0, 0, 0) := z_ftd (by decide +kernel)
theorem t272_206 : z_ft 272 206 = some (.ishl, 1, none, [], 0, 0, 0, 0) := z_ftd (by decide +kernel)
theorem t272_207 : z_ft 272 207 = some (.aload_n 0, 1, none, [], 0, 0, 0, 0) := z_ftd (by decide +kernel)
theorem t272_208 : z_ft 272 208 = some (.getfield 7, 3, none, [], 12, 0, 1, 0) := z_ftd (by decide +kernel)
theorem t272_211 : z_ft 272 211 = some (.iconst 1, 1, none, [], 0, 0, 0, 0) := z_ftd (by decide +kernel)
theorem t272_212 : z_ft 272 212 = some (.iaload, 1, none, [], 0, 0, 0, 0) := z_ftd (by decide +kernel)
theorem t272_213 : z_ft 272 213 = some (.ior, 1, none, [], 0, 0, 0, 0) := z_ftd (by decide +kernel)
theorem t272_214 : z_ft 272 214 = some (.iastore, 1, none, [], 0, 0, 0, 0) := z_ftd (by decide +kernel)
theorem t272_215 : z_ft 272 215 = some (.aload_n 0, 1, none, [], 0, 0, 0, 0) := z_ftd (by decide +kernel)
theorem t272_216 : z_ft 272 216 = some (.getfield 150, 3, none, [], 12, 45, 46, 0) := z_ftd (by decide +kernel)
theorem t272_219 : z_ft 272 219 = some (.iconst 1, 1, none, [], 0, 0, 0, 0) := z_ftd (by decide +kernel)
theorem t272_220 : z_ft 272 220 = some (.iload 4, 2, none, [], 0, 0, 0, 0) := z_ftd (by decide +kernel)
theorem t272_222 : z_ft 272 222 = some (.iastore, 1, none, [], 0, 0, 0, 0) := z_ftd (by decide +kernel)
theorem t272_223 : z_ft 272 223 = some (.aload_n 0, 1, none, [], 0, 0, 0, 0) := z_ftd (by decide +kernel)
theorem t272_224 : z_ft 272 224 = some (.getfield 153, 3, none, [], 12, 46, 47, 0) := z_ftd (by decide +kernel)
theorem t272_227 : z_ft 272 227 = some (.iconst 1, 1, none, [], 0, 0, 0, 0) := z_ftd (by decide +kernel)
theorem t272_228 : z_ft 272 228 = some (.iconst 0, 1, none, [], 0, 0, 0, 0) := z_ftd (by decide +kernel)
theorem t272_229 : z_ft 272 229 = some (.iastore, 1, none, [], 0, 0, 0, 0) := z_ftd (by decide +kernel)
theorem t272_230 : z_ft 272 230 = some (.aload_n 0, 1, none, [], 0, 0, 0, 0) := z_ftd (by decide +kernel)
theorem t272_231 : z_ft 272 231 = some (.getfield 168, 3, none, [], 12, 51, 52, 0) := z_ftd (by decide +kernel)
theorem t272_234 : z_ft 272 234 = some (.iconst 1, 1, none, [], 0, 0, 0, 0) := z_ftd (by decide +kernel)
theorem t272_235 : z_ft 272 235 = some (.iconst 0, 1, none, [], 0, 0, 0, 0) := z_ftd (by decide +kernel)
theorem t272_236 : z_ft 272 236 = some (.iastore, 1, none, [], 0, 0, 0, 0) := z_ftd (by decide +kernel)
theorem t272_237 : z_ft 272 237 = some (.iconst 0, 1, none, [], 0, 0, 0, 0) := z_ftd (by decide +kernel)
theorem t272_238 : z_ft 272 238 = some (.istore 6, 2, none, [], 0, 0, 0, 0) := z_ftd (by decide +kernel)
theorem t272_240 : z_ft 272 240 = some (.iload 6, 2, (some [0, 2, 3, 6]), [], 0, 0, 0, 0) := z_ftd (by decide +kernel)
theorem t272_242 : z_ft 272 242 = some (.bipush 16, 2, none, [], 0, 0, 0, 0) := z_ftd (by decide +kernel)
theorem t272_244 : z_ft 272 244 = some (.if_icmp .ge 20, 3, none, [], 264, 0, 0, 0) := z_ftd (by decide +kernel)
theorem t272_247 : z_ft 272 247 = some (.aload_n 0, 1, none, [], 0, 0, 0, 0) := z_ftd (by decide +kernel)
theorem t272_248 : z_ft 272 248 = some (.getfield 156, 3, none, [], 12, 47, 48, 0) := z_ftd (by decide +kernel)
theorem t272_251 : z_ft 272 251 = some (.bipush 16, 2, none, [], 0, 0, 0, 0) := z_ftd (by decide +kernel)
theorem t272_253 : z_ft 272 253 = some (.iload 6, 2, none, [], 0, 0, 0, 0) := z_ftd (by decide +kernel)
theorem t272_255 : z_ft 272 255 = some (.iadd, 1, none, [], 0, 0, 0, 0) := z_ftd (by decide +kernel)
theorem t272_256 : z_ft 272 256 = some (.iconst (-1), 1, none, [], 0, 0, 0, 0) := z_ftd (by decide +kernel)
theorem t272_257 : z_ft 272 257 = some (.iastore, 1, none, [], 0, 0, 0, 0) := z_ftd (by decide +kernel)
theorem t272_258 : z_ft 272 258 = some (.iinc 6 1, 3, none, [], 0, 0, 0, 0) := z_ftd (by decide +kernel)
theorem t272_261 : z_ft 272 261 = some (.goto (-21), 3, none, [], 240, 0, 0, 0) := z_ftd (by decide +kernel)
theorem t272_264 : z_ft 272 264 = some (.iconst 0, 1, none, [], 0, 0, 0, 0) := z_ftd (by decide +kernel)
theorem t272_265 : z_ft 272 265 = some (.istore 6, 2, none, [], 0, 0, 0, 0) := z_ftd (by decide +kernel)
theorem t272_267 : z_ft 272 267 = some (.iload 6, 2, (some [0, 2, 3, 6]), [], 0, 0, 0, 0) := z_ftd (by decide +kernel)
theorem t272_269 : z_ft 272 269 = some (.aload_n 0, 1, none, [], 0, 0, 0, 0) := z_ftd (by decide +kernel)
theorem t272_270 : z_ft 272 270 = some (.getfield 54, 3, none, [], 12, 14, 15, 0) := z_ftd (by decide +kernel)
theorem t272_273 : z_ft 272 273 = some (.aload_n 0, 1, none, [], 0, 0, 0, 0) := z_ftd (by decide +kernel)
theorem t272_274 : z_ft 272 274 = some (.getfield 51, 3, none, [], 12, 13, 14, 0) := z_ftd (by decide +kernel)
theorem t272_277 : z_ft 272 277 = some (.iaload, 1, none, [], 0, 0, 0, 0) := z_ftd (by decide +kernel)
theorem t272_278 : z_ft 272 278 = some (.if_icmp .ge 45, 3, none, [], 323, 0, 0, 0) := z_ftd (by decide +kernel)
theorem t272_281 : z_ft 272 281 = some (.aload_n 0, 1, none, [], 0, 0, 0, 0) := z_ftd (by decide +kernel)
theorem t272_282 : z_ft 272 282 = some (.getfield 7, 3, none, [], 12, 0, 1, 0) := z_ftd (by decide +kernel)
theorem t272_285 : z_ft 272 285 = some (.iconst 5, 1, none, [], 0, 0, 0, 0) := z_ftd (by decide +kernel)
theorem t272_286 : z_ft 272 286 = some (.iload 6, 2, none, [], 0, 0, 0, 0) := z_ftd (by decide +kernel)
theorem t272_288 : z_ft 272 288 = some (.iadd, 1, none, [], 0, 0, 0, 0) := z_ftd (by decide +kernel)
theorem t272_289 : z_ft 272 289 = some (.iaload, 1, none, [], 0, 0, 0, 0) := z_ftd (by decide +kernel)
theorem t272_290 : z_ft 272 290 = some (.iconst 1, 1, none, [], 0, 0, 0, 0) := z_ftd (by decide +kernel)
theorem t272_291 : z_ft 272 291 = some (.if_icmp .le 5, 3, none, [], 296, 0, 0, 0) := z_ftd (by decide +kernel)
theorem t272_294 : z_ft 272 294 = some (.iconst 0, 1, none, [], 0, 0, 0, 0) := z_ftd (by decide +kernel)
theorem t272_295 : z_ft 272 295 = some (.ireturn, 1, none, [], 0, 0, 0, 0) := z_ftd (by decide +kernel)
theorem t272_296 : z_ft 272 296 = some (.aload_n 0, 1, none, [], 0, 0, 0, 0) := z_ftd (by decide +kernel)
theorem t272_297 : z_ft 272 297 = some (.getfield 153, 3, none, [], 12, 46, 47, 0) := z_ftd (by decide +kernel)
theorem t272_300 : z_ft 272 300 = some (.iconst 1, 1, none, [], 0, 0, 0, 0) := z_ftd (by decide +kernel)
theorem t272_301 : z_ft 272 301 = some (.dup2, 1, none, [], 0, 0, 0, 0) := z_ftd (by decide +kernel)
theorem t272_302 : z_ft 272 302 = some (.iaload, 1, none, [], 0, 0, 0, 0) := z_ftd (by decide +kernel)
theorem t272_303 : z_ft 272 303 = some (.aload_n 0, 1, none, [], 0, 0, 0, 0) := z_ftd (by decide +kernel)
theorem t272_304 : z_ft 272 304 = some (.getfield 7, 3, none, [], 12, 0, 1, 0) := z_ftd (by decide +kernel)
theorem t272_307 : z_ft 272 307 = some (.iconst 5, 1, none, [], 0, 0, 0, 0) := z_ftd (by decide +kernel)
theorem t272_308 : z_ft 272 308 = some (.iload 6, 2, none, [], 0, 0, 0, 0) := z_ftd (by decide +kernel)
theorem t272_310 : z_ft 272 310 = some (.iadd, 1, none, [], 0, 0, 0, 0) := z_ftd (by decide +kernel)
theorem t272_311 : z_ft 272 311 = some (.iaload, 1, none, [], 0, 0, 0, 0) := z_ftd (by decide +kernel)
theorem t272_312 : z_ft 272 312 = some (.iload 6, 2, none, [], 0, 0, 0, 0) := z_ftd (by decide +kernel)
theorem t272_314 : z_ft 272 314 = some (.ishl, 1, none, [], 0, 0, 0, 0) := z_ftd (by decide +kernel)
theorem t272_315 : z_ft 272 315 = some (.ior, 1, none, [], 0, 0, 0, 0) := z_ftd (by decide +kernel)
theorem t272_316 : z_ft 272 316 = some (.iastore, 1, none, [], 0, 0, 0, 0) := z_ftd (by decide +kernel)
theorem t272_317 : z_ft 272 317 = some (.iinc 6 1, 3, none, [], 0, 0, 0, 0) := z_ftd (by decide +kernel)
theorem t272_320 : z_ft 272 320 = some (.goto (-53), 3, none, [], 267, 0, 0, 0) := z_ftd (by decide +kernel)
theorem t272_323 : z_ft 272 323 = some (.iconst 0, 1, none, [], 0, 0, 0, 0) := z_ftd (by decide +kernel)
theorem t272_324 : z_ft 272 324 = some (.istore 6, 2, none, [], 0, 0, 0, 0) := z_ftd (by decide +kernel)
theorem t272_326 : z_ft 272 326 = some (.iconst 0, 1, none, [], 0, 0, 0, 0) := z_ftd (by decide +kernel)
theorem t272_327 : z_ft 272 327 = some (.istore 7, 2, none, [], 0, 0, 0, 0) := z_ftd (by decide +kernel)
theorem t272_329 : z_ft 272 329 = some (.iload 7, 2, (some [0, 2, 3, 6, 7]), [], 0, 0, 0, 0) := z_ftd (by decide +kernel)
theorem t272_331 : z_ft 272 331 = some (.aload_n 0, 1, none, [], 0, 0, 0, 0) := z_ftd (by decide +kernel)
theorem t272_332 : z_ft 272 332 = some (.getfield 66, 3, none, [], 12, 18, 19, 0) := z_ftd (by decide +kernel)
theorem t272_335 : z_ft 272 335 = some (.aload_n 0, 1, none, [], 0, 0, 0, 0) := z_ftd (by decide +kernel)
theorem t272_336 : z_ft 272 336 = some (.getfield 51, 3, none, [], 12, 13, 14, 0) := z_ftd (by decide +kernel)
theorem t272_339 : z_ft 272 339 = some (.iaload, 1, none, [], 0, 0, 0, 0) := z_ftd (by decide +kernel)
theorem t272_340 : z_ft 272 340 = some (.if_icmp .ge 56, 3, none, [], 396, 0, 0, 0) := z_ftd (by decide +kernel)
theorem t272_343 : z_ft 272 343 = some (.iload_n 2, 1, none, [], 0, 0, 0, 0) := z_ftd (by decide +kernel)
theorem t272_344 : z_ft 272 344 = some (.iconst 2, 1, none, [], 0, 0, 0, 0) := z_ftd (by decide +kernel)
theorem t272_345 : z_ft 272 345 = some (.iload 7, 2, none, [], 0, 0, 0, 0) := z_ftd (by decide +kernel)
theorem t272_347 : z_ft 272 347 = some (.imul, 1, none, [], 0, 0, 0, 0) := z_ftd (by decide +kernel)
theorem t272_348 : z_ft 272 348 = some (.iadd, 1, none, [], 0, 0, 0, 0) := z_ftd (by decide +kernel)
theorem t272_349 : z_ft 272 349 = some (.istore 8, 2, none, [], 0, 0, 0, 0) := z_ftd (by decide +kernel)
theorem t272_351 : z_ft 272 351 = some (.aload_n 0, 1, none, [], 0, 0, 0, 0) := z_ftd (by decide +kernel)
theorem t272_352 : z_ft 272 352 = some (.iload 7, 2, none, [], 0, 0, 0, 0) := z_ftd (by decide +kernel)
theorem t272_354 : z_ft 272 354 = some (.iload 8, 2, none, [], 0, 0, 0, 0) := z_ftd (by decide +kernel)
theorem t272_356 : z_ft 272 356 = some (.invokevirtual 557, 3, none, [], 270, 0, 189, 0) := z_ftd (by decide +kernel)
theorem t272_359 : z_ft 272 359 = some (.ifCond .ne 5, 3, none, [], 364, 0, 0, 0) := z_ftd (by decide +kernel)
theorem t272_362 : z_ft 272 362 = some (.iconst 0, 1, none, [], 0, 0, 0, 0) := z_ftd (by decide +kernel)
theorem t272_363 : z_ft 272 363 = some (.ireturn, 1, none, [], 0, 0, 0, 0) := z_ftd (by decide +kernel)
theorem t272_364 : z_ft 272 364 = some (.iload 6, 2, none, [], 0, 0, 0, 0) := z_ftd (by decide +kernel)
theorem t272_366 : z_ft 272 366 = some (.aload_n 0, 1, none, [], 0, 0, 0, 0) := z_ftd (by decide +kernel)
theorem t272_367 : z_ft 272 367 = some (.getfield 7, 3, none, [], 12, 0, 1, 0) := z_ftd (by decide +kernel)
theorem t272_370 : z_ft 272 370 = some (.iload 8, 2, none, [], 0, 0, 0, 0) := z_ftd (by decide +kernel)
theorem t272_372 : z_ft 272 372 = some (.iaload, 1, none, [], 0, 0, 0, 0) := z_ftd (by decide +kernel)
theorem t272_373 : z_ft 272 373 = some (.sipush 254, 3, none, [], 0, 0, 0, 0) := z_ftd (by decide +kernel)
theorem t272_376 : z_ft 272 376 = some (.if_icmp .ne 10, 3, none, [], 386, 0, 0, 0) := z_ftd (by decide +kernel)
theorem t272_379 : z_ft 272 379 = some (.iconst 1, 1, none, [], 0, 0, 0, 0) := z_ftd (by decide +kernel)
theorem t272_380 : z_ft 272 380 = some (.iload 7, 2, none, [], 0, 0, 0, 0) := z_ftd (by decide +kernel)
theorem t272_382 : z_ft 272 382 = some (.ishl, 1, none, [], 0, 0, 0, 0) := z_ftd (by decide +kernel)
theorem t272_383 : z_ft 272 383 = some (.goto 4, 3, none, [], 387, 0, 0, 0) := z_ftd (by decide +kernel)
theorem t272_386 : z_ft 272 386 = some (.iconst 0, 1, none, [], 0, 0, 0, 0) := z_ftd (by decide +kernel)
theorem t272_387 : z_ft 272 387 = some (.ior, 1, (some [0, 2, 3, 7]), [], 0, 0, 0, 0) := z_ftd (by decide +kernel)
theorem t272_388 : z_ft 272 388 = some (.istore 6, 2, none, [], 0, 0, 0, 0) := z_ftd (by decide +kernel)
theorem t272_390 : z_ft 272 390 = some (.iinc 7 1, 3, none, [], 0, 0, 0, 0) := z_ftd (by decide +kernel)
theorem t272_393 : z_ft 272 393 = some (.goto (-64), 3, none, [], 329, 0, 0, 0) := z_ftd (by decide +kernel)
theorem t272_396 : z_ft 272 396 = some (.aload_n 0, 1, none, [], 0, 0, 0, 0) := z_ftd (by decide +kernel)
theorem t272_397 : z_ft 272 397 = some (.iload_n 3, 1, none, [], 0, 0, 0, 0) := z_ftd (by decide +kernel)
theorem t272_398 : z_ft 272 398 = some (.iconst 1, 1, none, [], 0, 0, 0, 0) := z_ftd (by decide +kernel)
theorem t272_399 : z_ft 272 399 = some (.iadd, 1, none, [], 0, 0, 0, 0) := z_ftd (by decide +kernel)
theorem t272_400 : z_ft 272 400 = some (.aload_n 0, 1, none, [], 0, 0, 0, 0) := z_ftd (by decide +kernel)
theorem t272_401 : z_ft 272 401 = some (.getfield 7, 3, none, [], 12, 0, 1, 0) := z_ftd (by decide +kernel)
theorem t272_404 : z_ft 272 404 = some (.iload_n 3, 1, none, [], 0, 0, 0, 0) := z_ftd (by decide +kernel)
theorem t272_405 : z_ft 272 405 = some (.iaload, 1, none, [], 0, 0, 0, 0) := z_ftd (by decide +kernel)
theorem t272_406 : z_ft 272 406 = some (.iload 6, 2, none, [], 0, 0, 0, 0) := z_ftd (by decide +kernel)
theorem t272_408 : z_ft 272 408 = some (.invokevirtual 560, 3, none, [], 271, 0, 190, 0) := z_ftd (by decide +kernel)
theorem t272_411 : z_ft 272 411 = some (.ireturn, 1, none, [], 0, 0, 0, 0) := z_ftd (by decide +kernel)
noncomputable def b272_140 (d : Nat) (y1 : Int32) (y2 : Int32) (y3 : Int32) (y4 : Int32) (y5 : Int32) (y6 : Int32) (S : z_S) : Option (Int32 × z_S) := zk kI z_X0 d 272 140 [.ref 396, .int y1, .int y2, .int y3, .int y4, .int y5, .int y6, z_j, z_j] [] S
noncomputable def b272_240 (d : Nat) (y2 : Int32) (y3 : Int32) (y6 : Int32) (S : z_S) : Option (Int32 × z_S) := zk kI z_X0 d 272 240 [.ref 396, z_j, .int y2, .int y3, z_j, z_j, .int y6, z_j, z_j] [] S
noncomputable def b272_267 (d : Nat) (y2 : Int32) (y3 : Int32) (y6 : Int32) (S : z_S) : Option (Int32 × z_S) := zk kI z_X0 d 272 267 [.ref 396, z_j, .int y2, .int y3, z_j, z_j, .int y6, z_j, z_j] [] S
noncomputable def b272_329 (d : Nat) (y2 : Int32) (y3 : Int32) (y6 : Int32) (y7 : Int32) (S : z_S) : Option (Int32 × z_S) := zk kI z_X0 d 272 329 [.ref 396, z_j, .int y2, .int y3, z_j, z_j, .int y6, .int y7, z_j] [] S
noncomputable def b272_387 (d : Nat) (y2 : Int32) (y3 : Int32) (y7 : Int32) (s0 : Int32) (s1 : Int32) (S : z_S) : Option (Int32 × z_S) := zk kI z_X0 d 272 387 [.ref 396, z_j, .int y2, .int y3, z_j, z_j, z_j, .int y7, z_j] [.int s0, .int s1] S
theorem b272_140_eq (d : Nat) (y1 : Int32) (y2 : Int32) (y3 : Int32) (y4 : Int32) (y5 : Int32) (y6 : Int32) (S : z_S) (hW : z_W S)  : b272_140 d y1 y2 y3 y4 y5 y6 S = (if (y1 - (1 : Int32)) ≤ y6 then (if z_in (y1 - (1 : Int32)) 1800 then (if (gI S 397 ((y1 - (1 : Int32))).toNatClampNeg) = y5 then ((fV d 196 [.ref 396, .int (1 : Int32), .int (0 : Int32)] S).bind fun S21 => (if z_in (0 : Int32) 1800 then (if z_in (1 : Int32) 1800 then (if z_in (1 : Int32) 22 then (if z_in (1 : Int32) 22 then (if z_in (1 : Int32) 22 then (if z_in (1 : Int32) 22 then b272_240 d y2 y3 (0 : Int32) (sI (sI (sI (sI S21 420 ((1 : Int32)).toNatClampNeg (((gI S21 397 ((0 : Int32)).toNatClampNeg) <<< ((8 : Int32) &&& 31)) ||| (gI S21 397 ((1 : Int32)).toNatClampNeg))) 421 ((1 : Int32)).toNatClampNeg y4) 422 ((1 : Int32)).toNatClampNeg (0 : Int32)) 427 ((1 : Int32)).toNatClampNeg (0 : Int32)) else none) else none) else none) else none) else none) else none)) else some ((0 : Int32), S)) else none) else (if z_in y6 1800 then b272_140 d y1 y2 y3 y4 ((((5 : Int32) * y5) + (gI S 397 (y6).toNatClampNeg)) - (((5 : Int32) * y5) + (gI S 397 (y6).toNatClampNeg)) / (251 : Int32) * (251 : Int32)) (y6 + (1 : Int32)) S else none)) := by
  unfold b272_140
  refine (k_iload t272_140 rfl rfl).trans ?_
  refine (k_iload_n t272_142 rfl rfl).trans ?_
  refine (k_iconst t272_143 rfl zci_1).trans ?_
  refine (k_isub t272_144 rfl).trans ?_
  refine (k_icmp_ge t272_145 rfl).trans (z_ite (fun g17 => ?_) (fun g17 => ?_))
  · refine (k_aload_n t272_172 rfl rfl).trans ?_
    refine (k_getR t272_173 rfl hW zK_396 (by decide) (by decide) (zF_396_0 hW)).trans ?_
    refine (k_iload_n t272_176 rfl rfl).trans ?_
    refine (k_iconst t272_177 rfl zci_1).trans ?_
    refine (k_isub t272_178 rfl).trans ?_
    refine (k_iald t272_179 rfl hW zK_397 zL_397).trans (z_ite (fun g18 => ?_) (fun _ => rfl))
    refine (k_iload t272_180 rfl rfl).trans ?_
    refine (k_icmp_eq t272_182 rfl).trans (z_ite (fun g19 => ?_) (fun g19 => ?_))
    · refine (k_aload_n t272_187 rfl rfl).trans ?_
      refine (k_iconst t272_188 rfl zci_1).trans ?_
      refine (k_iconst t272_189 rfl zci_0).trans ?_
      refine k_callV (as := [.ref 396, .int (1 : Int32), .int (0 : Int32)]) (rest := []) t272_190 rfl rfl (by decide) rfl rfl (Nat.le_of_ble_eq_true rfl) rfl (z_rcV hW (zK_396) (by decide)) (by decide) (by decide) hW (fun S21 hW21 => ?_)
      refine (k_aload_n t272_193 rfl rfl).trans ?_
      refine (k_getR t272_194 rfl hW21 zK_396 (by decide) (by decide) (zF_396_44 hW21)).trans ?_
      refine (k_iconst t272_197 rfl zci_1).trans ?_
      refine (k_aload_n t272_198 rfl rfl).trans ?_
      refine (k_getR t272_199 rfl hW21 zK_396 (by decide) (by decide) (zF_396_0 hW21)).trans ?_
      refine (k_iconst t272_202 rfl zci_0).trans ?_
      refine (k_iald t272_203 rfl hW21 zK_397 zL_397).trans (z_ite (fun g22 => ?_) (fun _ => rfl))
      refine (k_bipush t272_204 rfl zcb_8).trans ?_
      refine (k_ishl t272_206 rfl).trans ?_
      refine (k_aload_n t272_207 rfl rfl).trans ?_
      refine (k_getR t272_208 rfl hW21 zK_396 (by decide) (by decide) (zF_396_0 hW21)).trans ?_
      refine (k_iconst t272_211 rfl zci_1).trans ?_
      refine (k_iald t272_212 rfl hW21 zK_397 zL_397).trans (z_ite (fun g23 => ?_) (fun _ => rfl))
      refine (k_ior t272_213 rfl).trans ?_
      refine (k_iast t272_214 rfl hW21 zK_420 zL_420).trans (z_ite (fun g24 => ?_) (fun _ => rfl))
      refine (k_aload_n t272_215 rfl rfl).trans ?_
      refine (k_getR t272_216 rfl hW21.sI zK_396 (by decide) (by decide) (zF_396_45 hW21.sI)).trans ?_
      refine (k_iconst t272_219 rfl zci_1).trans ?_
      refine (k_iload t272_220 rfl rfl).trans ?_
      refine (k_iast t272_222 rfl hW21.sI zK_421 zL_421).trans (z_ite (fun g25 => ?_) (fun _ => rfl))
      refine (k_aload_n t272_223 rfl rfl).trans ?_
      refine (k_getR t272_224 rfl hW21.sI.sI zK_396 (by decide) (by decide) (zF_396_46 hW21.sI.sI)).trans ?_
      refine (k_iconst t272_227 rfl zci_1).trans ?_
      refine (k_iconst t272_228 rfl zci_0).trans ?_
      refine (k_iast t272_229 rfl hW21.sI.sI zK_422 zL_422).trans (z_ite (fun g26 => ?_) (fun _ => rfl))
      refine (k_aload_n t272_230 rfl rfl).trans ?_
      refine (k_getR t272_231 rfl hW21.sI.sI.sI zK_396 (by decide) (by decide) (zF_396_51 hW21.sI.sI.sI)).trans ?_
      refine (k_iconst t272_234 rfl zci_1).trans ?_
      refine (k_iconst t272_235 rfl zci_0).trans ?_
      refine (k_iast t272_236 rfl hW21.sI.sI.sI zK_427 zL_427).trans (z_ite (fun g27 => ?_) (fun _ => rfl))
      refine (k_iconst t272_237 rfl zci_0).trans ?_
      refine (k_istore (ls' := [.ref 396, .int y1, .int y2, .int y3, .int y4, .int y5, .int (0 : Int32), z_j, z_j]) t272_238 rfl rfl).trans ?_
      exact (zk_mk (ls' := [.ref 396, z_j, .int y2, .int y3, z_j, z_j, .int (0 : Int32), z_j, z_j]) t272_240 rfl)
    · refine (k_iconst t272_185 rfl zci_0).trans ?_
      exact k_zretC t272_186 rfl (by decide) (by decide)
  · refine (k_iconst t272_148 rfl zci_5).trans ?_
    refine (k_iload t272_149 rfl rfl).trans ?_
    refine (k_imul t272_151 rfl).trans ?_
    refine (k_aload_n t272_152 rfl rfl).trans ?_
    refine (k_getR t272_153 rfl hW zK_396 (by decide) (by decide) (zF_396_0 hW)).trans ?_
    refine (k_iload t272_156 rfl rfl).trans ?_
    refine (k_iald t272_158 rfl hW zK_397 zL_397).trans (z_ite (fun g28 => ?_) (fun _ => rfl))
    refine (k_iadd t272_159 rfl).trans ?_
    refine (k_sipush t272_160 rfl zcs_251).trans ?_
    refine ((k_irem t272_163 rfl).trans (if_neg (by decide))).trans ?_
    refine (k_istore (ls' := [.ref 396, .int y1, .int y2, .int y3, .int y4, .int ((((5 : Int32) * y5) + (gI S 397 (y6).toNatClampNeg)) - (((5 : Int32) * y5) + (gI S 397 (y6).toNatClampNeg)) / (251 : Int32) * (251 : Int32)), .int y6, z_j, z_j]) t272_164 rfl rfl).trans ?_
    refine (k_iinc (b := (y6 + (1 : Int32))) (ls' := [.ref 396, .int y1, .int y2, .int y3, .int y4, .int ((((5 : Int32) * y5) + (gI S 397 (y6).toNatClampNeg)) - (((5 : Int32) * y5) + (gI S 397 (y6).toNatClampNeg)) / (251 : Int32) * (251 : Int32)), .int (y6 + (1 : Int32)), z_j, z_j]) t272_166 rfl rfl (by rw [zci_1]) rfl).trans ?_
    refine (k_goto t272_169 rfl).trans ?_
    exact (zk_mk (ls' := [.ref 396, .int y1, .int y2, .int y3, .int y4, .int ((((5 : Int32) * y5) + (gI S 397 (y6).toNatClampNeg)) - (((5 : Int32) * y5) + (gI S 397 (y6).toNatClampNeg)) / (251 : Int32) * (251 : Int32)), .int (y6 + (1 : Int32)), z_j, z_j]) t272_140 rfl)
theorem b272_240_eq (d : Nat) (y2 : Int32) (y3 : Int32) (y6 : Int32) (S : z_S) (hW : z_W S)  : b272_240 d y2 y3 y6 S = (if (16 : Int32) ≤ y6 then b272_267 d y2 y3 (0 : Int32) S else (if z_in ((16 : Int32) + y6) 352 then b272_240 d y2 y3 (y6 + (1 : Int32)) (sI S 423 (((16 : Int32) + y6)).toNatClampNeg (-1 : Int32)) else none)) := by
  unfold b272_240
  refine (k_iload t272_240 rfl rfl).trans ?_
  refine (k_bipush t272_242 rfl zcb_16).trans ?_
  refine (k_icmp_ge t272_244 rfl).trans (z_ite (fun g29 => ?_) (fun g29 => ?_))
  · refine (k_iconst t272_264 rfl zci_0).trans ?_
    refine (k_istore (ls' := [.ref 396, z_j, .int y2, .int y3, z_j, z_j, .int (0 : Int32), z_j, z_j]) t272_265 rfl rfl).trans ?_
    exact (zk_mk (ls' := [.ref 396, z_j, .int y2, .int y3, z_j, z_j, .int (0 : Int32), z_j, z_j]) t272_267 rfl)
  · refine (k_aload_n t272_247 rfl rfl).trans ?_
    refine (k_getR t272_248 rfl hW zK_396 (by decide) (by decide) (zF_396_47 hW)).trans ?_
    refine (k_bipush t272_251 rfl zcb_16).trans ?_
    refine (k_iload t272_253 rfl rfl).trans ?_
    refine (k_iadd t272_255 rfl).trans ?_
    refine (k_iconst t272_256 rfl zci_m1).trans ?_
    refine (k_iast t272_257 rfl hW zK_423 zL_423).trans (z_ite (fun g30 => ?_) (fun _ => rfl))
    refine (k_iinc (b := (y6 + (1 : Int32))) (ls' := [.ref 396, z_j, .int y2, .int y3, z_j, z_j, .int (y6 + (1 : Int32)), z_j, z_j]) t272_258 rfl rfl (by rw [zci_1]) rfl).trans ?_
    refine (k_goto t272_261 rfl).trans ?_
    exact (zk_mk (ls' := [.ref 396, z_j, .int y2, .int y3, z_j, z_j, .int (y6 + (1 : Int32)), z_j, z_j]) t272_240 rfl)
theorem b272_267_eq (d : Nat) (y2 : Int32) (y3 : Int32) (y6 : Int32) (S : z_S) (hW : z_W S)  : b272_267 d y2 y3 y6 S = (if z_in (gI S 396 13) 2 then (if (gI S 398 ((gI S 396 13)).toNatClampNeg) ≤ y6 then b272_329 d y2 y3 (0 : Int32) (0 : Int32) S else (if z_in ((5 : Int32) + y6) 1800 then (if (gI S 397 (((5 : Int32) + y6)).toNatClampNeg) ≤ (1 : Int32) then (if z_in (1 : Int32) 22 then (if z_in ((5 : Int32) + y6) 1800 then (if z_in (1 : Int32) 22 then b272_267 d y2 y3 (y6 + (1 : Int32)) (sI S 422 ((1 : Int32)).toNatClampNeg ((gI S 422 ((1 : Int32)).toNatClampNeg) ||| ((gI S 397 (((5 : Int32) + y6)).toNatClampNeg) <<< (y6 &&& 31)))) else none) else none) else none) else some ((0 : Int32), S)) else none)) else none) := by
  unfold b272_267
  refine (k_iload t272_267 rfl rfl).trans ?_
  refine (k_aload_n t272_269 rfl rfl).trans ?_
  refine (k_getR t272_270 rfl hW zK_396 (by decide) (by decide) (zF_396_14 hW)).trans ?_
  refine (k_aload_n t272_273 rfl rfl).trans ?_
  refine (k_getI t272_274 rfl hW zK_396 (by decide) (by decide)).trans ?_
  refine (k_iald t272_277 rfl hW zK_398 zL_398).trans (z_ite (fun g31 => ?_) (fun _ => rfl))
  refine (k_icmp_ge t272_278 rfl).trans (z_ite (fun g32 => ?_) (fun g32 => ?_))
  · refine (k_iconst t272_323 rfl zci_0).trans ?_
    refine (k_istore (ls' := [.ref 396, z_j, .int y2, .int y3, z_j, z_j, .int (0 : Int32), z_j, z_j]) t272_324 rfl rfl).trans ?_
    refine (k_iconst t272_326 rfl zci_0).trans ?_
    refine (k_istore (ls' := [.ref 396, z_j, .int y2, .int y3, z_j, z_j, .int (0 : Int32), .int (0 : Int32), z_j]) t272_327 rfl rfl).trans ?_
    exact (zk_mk (ls' := [.ref 396, z_j, .int y2, .int y3, z_j, z_j, .int (0 : Int32), .int (0 : Int32), z_j]) t272_329 rfl)
  · refine (k_aload_n t272_281 rfl rfl).trans ?_
    refine (k_getR t272_282 rfl hW zK_396 (by decide) (by decide) (zF_396_0 hW)).trans ?_
    refine (k_iconst t272_285 rfl zci_5).trans ?_
    refine (k_iload t272_286 rfl rfl).trans ?_
    refine (k_iadd t272_288 rfl).trans ?_
    refine (k_iald t272_289 rfl hW zK_397 zL_397).trans (z_ite (fun g33 => ?_) (fun _ => rfl))
    refine (k_iconst t272_290 rfl zci_1).trans ?_
    refine (k_icmp_le t272_291 rfl).trans (z_ite (fun g34 => ?_) (fun g34 => ?_))
    · refine (k_aload_n t272_296 rfl rfl).trans ?_
      refine (k_getR t272_297 rfl hW zK_396 (by decide) (by decide) (zF_396_46 hW)).trans ?_
      refine (k_iconst t272_300 rfl zci_1).trans ?_
      refine (k_dup2IR t272_301 rfl).trans ?_
      refine (k_iald t272_302 rfl hW zK_422 zL_422).trans (z_ite (fun g35 => ?_) (fun _ => rfl))
      refine (k_aload_n t272_303 rfl rfl).trans ?_
      refine (k_getR t272_304 rfl hW zK_396 (by decide) (by decide) (zF_396_0 hW)).trans ?_
      refine (k_iconst t272_307 rfl zci_5).trans ?_
      refine (k_iload t272_308 rfl rfl).trans ?_
      refine (k_iadd t272_310 rfl).trans ?_
      refine (k_iald t272_311 rfl hW zK_397 zL_397).trans (z_ite (fun g36 => ?_) (fun _ => rfl))
      refine (k_iload t272_312 rfl rfl).trans ?_
      refine (k_ishl t272_314 rfl).trans ?_
      refine (k_ior t272_315 rfl).trans ?_
      refine (k_iast t272_316 rfl hW zK_422 zL_422).trans (z_ite (fun g37 => ?_) (fun _ => rfl))
      refine (k_iinc (b := (y6 + (1 : Int32))) (ls' := [.ref 396, z_j, .int y2, .int y3, z_j, z_j, .int (y6 + (1 : Int32)), z_j, z_j]) t272_317 rfl rfl (by rw [zci_1]) rfl).trans ?_
      refine (k_goto t272_320 rfl).trans ?_
      exact (zk_mk (ls' := [.ref 396, z_j, .int y2, .int y3, z_j, z_j, .int (y6 + (1 : Int32)), z_j, z_j]) t272_267 rfl)
    · refine (k_iconst t272_294 rfl zci_0).trans ?_
      exact k_zretC t272_295 rfl (by decide) (by decide)
theorem b272_329_eq (d : Nat) (y2 : Int32) (y3 : Int32) (y6 : Int32) (y7 : Int32) (S : z_S) (hW : z_W S)  : b272_329 d y2 y3 y6 y7 S = (if z_in (gI S 396 13) 2 then (if (gI S 402 ((gI S 396 13)).toNatClampNeg) ≤ y7 then (if z_in y3 1800 then (zb (fI d 271 [.ref 396, .int (y3 + (1 : Int32)), .int (gI S 397 (y3).toNatClampNeg), .int y6] S) fun v41 S42 => (if v41 = 0 ∨ v41 = 1 then some (v41, S42) else none)) else none) else (zb (fI d 270 [.ref 396, .int y7, .int (y2 + ((2 : Int32) * y7))] S) fun v43 S44 => (if ¬ v43 = (0 : Int32) then (if z_in (y2 + ((2 : Int32) * y7)) 1800 then (if ¬ (gI S44 397 ((y2 + ((2 : Int32) * y7))).toNatClampNeg) = (254 : Int32) then b272_387 d y2 y3 y7 (0 : Int32) y6 S44 else b272_387 d y2 y3 y7 ((1 : Int32) <<< (y7 &&& 31)) y6 S44) else none) else some ((0 : Int32), S44)))) else none) := by
  unfold b272_329
  refine (k_iload t272_329 rfl rfl).trans ?_
  refine (k_aload_n t272_331 rfl rfl).trans ?_
  refine (k_getR t272_332 rfl hW zK_396 (by decide) (by decide) (zF_396_18 hW)).trans ?_
  refine (k_aload_n t272_335 rfl rfl).trans ?_
  refine (k_getI t272_336 rfl hW zK_396 (by decide) (by decide)).trans ?_
  refine (k_iald t272_339 rfl hW zK_402 zL_402).trans (z_ite (fun g38 => ?_) (fun _ => rfl))
  refine (k_icmp_ge t272_340 rfl).trans (z_ite (fun g39 => ?_) (fun g39 => ?_))
  · refine (k_aload_n t272_396 rfl rfl).trans ?_
    refine (k_iload_n t272_397 rfl rfl).trans ?_
    refine (k_iconst t272_398 rfl zci_1).trans ?_
    refine (k_iadd t272_399 rfl).trans ?_
    refine (k_aload_n t272_400 rfl rfl).trans ?_
    refine (k_getR t272_401 rfl hW zK_396 (by decide) (by decide) (zF_396_0 hW)).trans ?_
    refine (k_iload_n t272_404 rfl rfl).trans ?_
    refine (k_iald t272_405 rfl hW zK_397 zL_397).trans (z_ite (fun g40 => ?_) (fun _ => rfl))
    refine (k_iload t272_406 rfl rfl).trans ?_
    refine k_callI (as := [.ref 396, .int (y3 + (1 : Int32)), .int (gI S 397 (y3).toNatClampNeg), .int y6]) (rest := []) t272_408 rfl rfl (by decide) rfl rfl (Nat.le_of_ble_eq_true rfl) rfl (z_rcV hW (zK_396) (by decide)) (by decide) (Or.inr (by decide)) hW (fun v41 S42 hW42 => ?_)
    exact (k_zreturn t272_411 rfl (by decide)).trans (z_ite (fun _ => rfl) (fun _ => rfl))
  · refine (k_iload_n t272_343 rfl rfl).trans ?_
    refine (k_iconst t272_344 rfl zci_2).trans ?_
    refine (k_iload t272_345 rfl rfl).trans ?_
    refine (k_imul t272_347 rfl).trans ?_
    refine (k_iadd t272_348 rfl).trans ?_
    refine (k_istore (ls' := [.ref 396, z_j, .int y2, .int y3, z_j, z_j, .int y6, .int y7, .int (y2 + ((2 : Int32) * y7))]) t272_349 rfl rfl).trans ?_
    refine (k_aload_n t272_351 rfl rfl).trans ?_
    refine (k_iload t272_352 rfl rfl).trans ?_
    refine (k_iload t272_354 rfl rfl).trans ?_
    refine k_callI (as := [.ref 396, .int y7, .int (y2 + ((2 : Int32) * y7))]) (rest := []) t272_356 rfl rfl (by decide) rfl rfl (Nat.le_of_ble_eq_true rfl) rfl (z_rcV hW (zK_396) (by decide)) (by decide) (Or.inr (by decide)) hW (fun v43 S44 hW44 => ?_)
    refine (k_if_ne t272_359 rfl).trans (z_ite (fun g45 => ?_) (fun g45 => ?_))
    · refine (k_iload t272_364 rfl rfl).trans ?_
      refine (k_aload_n t272_366 rfl rfl).trans ?_
      refine (k_getR t272_367 rfl hW44 zK_396 (by decide) (by decide) (zF_396_0 hW44)).trans ?_
      refine (k_iload t272_370 rfl rfl).trans ?_
      refine (k_iald t272_372 rfl hW44 zK_397 zL_397).trans (z_ite (fun g46 => ?_) (fun _ => rfl))
      refine (k_sipush t272_373 rfl zcs_254).trans ?_
      refine (k_icmp_ne t272_376 rfl).trans (z_ite (fun g47 => ?_) (fun g47 => ?_))
      · refine (k_iconst t272_386 rfl zci_0).trans ?_
        exact (zk_mk (ls' := [.ref 396, z_j, .int y2, .int y3, z_j, z_j, z_j, .int y7, z_j]) t272_387 rfl)
      · refine (k_iconst t272_379 rfl zci_1).trans ?_
        refine (k_iload t272_380 rfl rfl).trans ?_
        refine (k_ishl t272_382 rfl).trans ?_
        refine (k_goto t272_383 rfl).trans ?_
        exact (zk_mk (ls' := [.ref 396, z_j, .int y2, .int y3, z_j, z_j, z_j, .int y7, z_j]) t272_387 rfl)
    · refine (k_iconst t272_362 rfl zci_0).trans ?_
      exact k_zretC t272_363 rfl (by decide) (by decide)
theorem b272_387_eq (d : Nat) (y2 : Int32) (y3 : Int32) (y7 : Int32) (s0 : Int32) (s1 : Int32) (S : z_S) (hW : z_W S)  : b272_387 d y2 y3 y7 s0 s1 S = b272_329 d y2 y3 (s1 ||| s0) (y7 + (1 : Int32)) S := by
  unfold b272_387
  refine (k_ior t272_387 rfl).trans ?_
  refine (k_istore (ls' := [.ref 396, z_j, .int y2, .int y3, z_j, z_j, .int (s1 ||| s0), .int y7, z_j]) t272_388 rfl rfl).trans ?_
  refine (k_iinc (b := (y7 + (1 : Int32))) (ls' := [.ref 396, z_j, .int y2, .int y3, z_j, z_j, .int (s1 ||| s0), .int (y7 + (1 : Int32)), z_j]) t272_390 rfl rfl (by rw [zci_1]) rfl).trans ?_
  refine (k_goto t272_393 rfl).trans ?_
  exact (zk_mk (ls' := [.ref 396, z_j, .int y2, .int y3, z_j, z_j, .int (s1 ||| s0), .int (y7 + (1 : Int32)), z_j]) t272_329 rfl)
-- X12_comesOn
theorem e272 (d : Nat) (x1 : Int32) (S : z_S) (hW : z_W S)  : fI (d + 1) 272 [.ref 396, .int x1] S = (if z_in (gI S 396 13) 2 then (if z_in (gI S 396 13) 2 then (if z_in (2 : Int32) 1800 then (if z_in (3 : Int32) 1800 then (if z_in (4 : Int32) 1800 then (if (gI S 396 42) = (0 : Int32) then some ((0 : Int32), S) else (if x1 < ((((5 : Int32) + (gI S 398 ((gI S 396 13)).toNatClampNeg)) + ((2 : Int32) * (gI S 402 ((gI S 396 13)).toNatClampNeg))) + (2 : Int32)) then some ((0 : Int32), S) else (if z_in (((5 : Int32) + (gI S 398 ((gI S 396 13)).toNatClampNeg)) + ((2 : Int32) * (gI S 402 ((gI S 396 13)).toNatClampNeg))) 1800 then (if z_in (gI S 396 13) 2 then (if (gI S 399 ((gI S 396 13)).toNatClampNeg) < (gI S 397 ((((5 : Int32) + (gI S 398 ((gI S 396 13)).toNatClampNeg)) + ((2 : Int32) * (gI S 402 ((gI S 396 13)).toNatClampNeg)))).toNatClampNeg) then some ((0 : Int32), S) else (if z_in (((5 : Int32) + (gI S 398 ((gI S 396 13)).toNatClampNeg)) + ((2 : Int32) * (gI S 402 ((gI S 396 13)).toNatClampNeg))) 1800 then (if ¬ x1 = (((((5 : Int32) + (gI S 398 ((gI S 396 13)).toNatClampNeg)) + ((2 : Int32) * (gI S 402 ((gI S 396 13)).toNatClampNeg))) + (gI S 397 ((((5 : Int32) + (gI S 398 ((gI S 396 13)).toNatClampNeg)) + ((2 : Int32) * (gI S 402 ((gI S 396 13)).toNatClampNeg)))).toNatClampNeg)) + (2 : Int32)) then some ((0 : Int32), S) else (if z_in (0 : Int32) 1800 then (if z_in (1 : Int32) 1800 then (if (999 : Int32) < (((gI S 397 ((0 : Int32)).toNatClampNeg) <<< ((8 : Int32) &&& 31)) ||| (gI S 397 ((1 : Int32)).toNatClampNeg)) then some ((0 : Int32), S) else (if ((((gI S 397 ((2 : Int32)).toNatClampNeg) <<< ((16 : Int32) &&& 31)) ||| ((gI S 397 ((3 : Int32)).toNatClampNeg) <<< ((8 : Int32) &&& 31))) ||| (gI S 397 ((4 : Int32)).toNatClampNeg)) ≤ (999999 : Int32) then b272_140 d x1 ((5 : Int32) + (gI S 398 ((gI S 396 13)).toNatClampNeg)) (((5 : Int32) + (gI S 398 ((gI S 396 13)).toNatClampNeg)) + ((2 : Int32) * (gI S 402 ((gI S 396 13)).toNatClampNeg))) ((((gI S 397 ((2 : Int32)).toNatClampNeg) <<< ((16 : Int32) &&& 31)) ||| ((gI S 397 ((3 : Int32)).toNatClampNeg) <<< ((8 : Int32) &&& 31))) ||| (gI S 397 ((4 : Int32)).toNatClampNeg)) (227 : Int32) (0 : Int32) S else some ((0 : Int32), S))) else none) else none)) else none)) else none) else none))) else none) else none) else none) else none) else none) := by
  refine (fI_en (Nat.le_of_ble_eq_true rfl) rfl).trans ?_
  refine (k_iconst t272_0 rfl zci_5).trans ?_
  refine (k_aload_n t272_1 rfl rfl).trans ?_
  refine (k_getR t272_2 rfl hW zK_396 (by decide) (by decide) (zF_396_14 hW)).trans ?_
  refine (k_aload_n t272_5 rfl rfl).trans ?_
  refine (k_getI t272_6 rfl hW zK_396 (by decide) (by decide)).trans ?_
  refine (k_iald t272_9 rfl hW zK_398 zL_398).trans (z_ite (fun g1 => ?_) (fun _ => rfl))
  refine (k_iadd t272_10 rfl).trans ?_
  refine (k_istore_n (ls' := [.ref 396, .int x1, .int ((5 : Int32) + (gI S 398 ((gI S 396 13)).toNatClampNeg)), z_j, z_j, z_j, z_j, z_j, z_j]) t272_11 rfl rfl).trans ?_
  refine (k_iload_n t272_12 rfl rfl).trans ?_
  refine (k_iconst t272_13 rfl zci_2).trans ?_
  refine (k_aload_n t272_14 rfl rfl).trans ?_
  refine (k_getR t272_15 rfl hW zK_396 (by decide) (by decide) (zF_396_18 hW)).trans ?_
  refine (k_aload_n t272_18 rfl rfl).trans ?_
  refine (k_getI t272_19 rfl hW zK_396 (by decide) (by decide)).trans ?_
  refine (k_iald t272_22 rfl hW zK_402 zL_402).trans (z_ite (fun g2 => ?_) (fun _ => rfl))
  refine (k_imul t272_23 rfl).trans ?_
  refine (k_iadd t272_24 rfl).trans ?_
  refine (k_istore_n (ls' := [.ref 396, .int x1, .int ((5 : Int32) + (gI S 398 ((gI S 396 13)).toNatClampNeg)), .int (((5 : Int32) + (gI S 398 ((gI S 396 13)).toNatClampNeg)) + ((2 : Int32) * (gI S 402 ((gI S 396 13)).toNatClampNeg))), z_j, z_j, z_j, z_j, z_j]) t272_25 rfl rfl).trans ?_
  refine (k_aload_n t272_26 rfl rfl).trans ?_
  refine (k_getR t272_27 rfl hW zK_396 (by decide) (by decide) (zF_396_0 hW)).trans ?_
  refine (k_iconst t272_30 rfl zci_2).trans ?_
  refine (k_iald t272_31 rfl hW zK_397 zL_397).trans (z_ite (fun g3 => ?_) (fun _ => rfl))
  refine (k_bipush t272_32 rfl zcb_16).trans ?_
  refine (k_ishl t272_34 rfl).trans ?_
  refine (k_aload_n t272_35 rfl rfl).trans ?_
  refine (k_getR t272_36 rfl hW zK_396 (by decide) (by decide) (zF_396_0 hW)).trans ?_
  refine (k_iconst t272_39 rfl zci_3).trans ?_
  refine (k_iald t272_40 rfl hW zK_397 zL_397).trans (z_ite (fun g4 => ?_) (fun _ => rfl))
  refine (k_bipush t272_41 rfl zcb_8).trans ?_
  refine (k_ishl t272_43 rfl).trans ?_
  refine (k_ior t272_44 rfl).trans ?_
  refine (k_aload_n t272_45 rfl rfl).trans ?_
  refine (k_getR t272_46 rfl hW zK_396 (by decide) (by decide) (zF_396_0 hW)).trans ?_
  refine (k_iconst t272_49 rfl zci_4).trans ?_
  refine (k_iald t272_50 rfl hW zK_397 zL_397).trans (z_ite (fun g5 => ?_) (fun _ => rfl))
  refine (k_ior t272_51 rfl).trans ?_
  refine (k_istore (ls' := [.ref 396, .int x1, .int ((5 : Int32) + (gI S 398 ((gI S 396 13)).toNatClampNeg)), .int (((5 : Int32) + (gI S 398 ((gI S 396 13)).toNatClampNeg)) + ((2 : Int32) * (gI S 402 ((gI S 396 13)).toNatClampNeg))), .int ((((gI S 397 ((2 : Int32)).toNatClampNeg) <<< ((16 : Int32) &&& 31)) ||| ((gI S 397 ((3 : Int32)).toNatClampNeg) <<< ((8 : Int32) &&& 31))) ||| (gI S 397 ((4 : Int32)).toNatClampNeg)), z_j, z_j, z_j, z_j]) t272_52 rfl rfl).trans ?_
  refine (k_aload_n t272_54 rfl rfl).trans ?_
  refine (k_getI t272_55 rfl hW zK_396 (by decide) (by decide)).trans ?_
  refine (k_if_eq t272_58 rfl).trans (z_ite (fun g6 => ?_) (fun g6 => ?_))
  · refine (zk_mk (ls' := [z_j, z_j, z_j, z_j, z_j, z_j, z_j, z_j, z_j]) t272_130 rfl).trans ?_
    refine (k_iconst t272_130 rfl zci_0).trans ?_
    exact k_zretC t272_131 rfl (by decide) (by decide)
  · refine (k_iload_n t272_61 rfl rfl).trans ?_
    refine (k_iload_n t272_62 rfl rfl).trans ?_
    refine (k_iconst t272_63 rfl zci_2).trans ?_
    refine (k_iadd t272_64 rfl).trans ?_
    refine (k_icmp_lt t272_65 rfl).trans (z_ite (fun g7 => ?_) (fun g7 => ?_))
    · refine (zk_mk (ls' := [z_j, z_j, z_j, z_j, z_j, z_j, z_j, z_j, z_j]) t272_130 rfl).trans ?_
      refine (k_iconst t272_130 rfl zci_0).trans ?_
      exact k_zretC t272_131 rfl (by decide) (by decide)
    · refine (k_aload_n t272_68 rfl rfl).trans ?_
      refine (k_getR t272_69 rfl hW zK_396 (by decide) (by decide) (zF_396_0 hW)).trans ?_
      refine (k_iload_n t272_72 rfl rfl).trans ?_
      refine (k_iald t272_73 rfl hW zK_397 zL_397).trans (z_ite (fun g8 => ?_) (fun _ => rfl))
      refine (k_aload_n t272_74 rfl rfl).trans ?_
      refine (k_getR t272_75 rfl hW zK_396 (by decide) (by decide) (zF_396_15 hW)).trans ?_
      refine (k_aload_n t272_78 rfl rfl).trans ?_
      refine (k_getI t272_79 rfl hW zK_396 (by decide) (by decide)).trans ?_
      refine (k_iald t272_82 rfl hW zK_399 zL_399).trans (z_ite (fun g9 => ?_) (fun _ => rfl))
      refine (k_icmp_gt t272_83 rfl).trans (z_ite (fun g10 => ?_) (fun g10 => ?_))
      · refine (zk_mk (ls' := [z_j, z_j, z_j, z_j, z_j, z_j, z_j, z_j, z_j]) t272_130 rfl).trans ?_
        refine (k_iconst t272_130 rfl zci_0).trans ?_
        exact k_zretC t272_131 rfl (by decide) (by decide)
      · refine (k_iload_n t272_86 rfl rfl).trans ?_
        refine (k_iload_n t272_87 rfl rfl).trans ?_
        refine (k_aload_n t272_88 rfl rfl).trans ?_
        refine (k_getR t272_89 rfl hW zK_396 (by decide) (by decide) (zF_396_0 hW)).trans ?_
        refine (k_iload_n t272_92 rfl rfl).trans ?_
        refine (k_iald t272_93 rfl hW zK_397 zL_397).trans (z_ite (fun g11 => ?_) (fun _ => rfl))
        refine (k_iadd t272_94 rfl).trans ?_
        refine (k_iconst t272_95 rfl zci_2).trans ?_
        refine (k_iadd t272_96 rfl).trans ?_
        refine (k_icmp_ne t272_97 rfl).trans (z_ite (fun g12 => ?_) (fun g12 => ?_))
        · refine (zk_mk (ls' := [z_j, z_j, z_j, z_j, z_j, z_j, z_j, z_j, z_j]) t272_130 rfl).trans ?_
          refine (k_iconst t272_130 rfl zci_0).trans ?_
          exact k_zretC t272_131 rfl (by decide) (by decide)
        · refine (k_aload_n t272_100 rfl rfl).trans ?_
          refine (k_getR t272_101 rfl hW zK_396 (by decide) (by decide) (zF_396_0 hW)).trans ?_
          refine (k_iconst t272_104 rfl zci_0).trans ?_
          refine (k_iald t272_105 rfl hW zK_397 zL_397).trans (z_ite (fun g13 => ?_) (fun _ => rfl))
          refine (k_bipush t272_106 rfl zcb_8).trans ?_
          refine (k_ishl t272_108 rfl).trans ?_
          refine (k_aload_n t272_109 rfl rfl).trans ?_
          refine (k_getR t272_110 rfl hW zK_396 (by decide) (by decide) (zF_396_0 hW)).trans ?_
          refine (k_iconst t272_113 rfl zci_1).trans ?_
          refine (k_iald t272_114 rfl hW zK_397 zL_397).trans (z_ite (fun g14 => ?_) (fun _ => rfl))
          refine (k_ior t272_115 rfl).trans ?_
          refine (k_sipush t272_116 rfl zcs_999).trans ?_
          refine (k_icmp_gt t272_119 rfl).trans (z_ite (fun g15 => ?_) (fun g15 => ?_))
          · refine (zk_mk (ls' := [z_j, z_j, z_j, z_j, z_j, z_j, z_j, z_j, z_j]) t272_130 rfl).trans ?_
            refine (k_iconst t272_130 rfl zci_0).trans ?_
            exact k_zretC t272_131 rfl (by decide) (by decide)
          · refine (k_iload t272_122 rfl rfl).trans ?_
            refine (k_ldc_w t272_124 rfl zci_999999).trans ?_
            refine (k_icmp_le t272_127 rfl).trans (z_ite (fun g16 => ?_) (fun g16 => ?_))
            · refine (k_sipush t272_132 rfl zcs_227).trans ?_
              refine (k_istore (ls' := [.ref 396, .int x1, .int ((5 : Int32) + (gI S 398 ((gI S 396 13)).toNatClampNeg)), .int (((5 : Int32) + (gI S 398 ((gI S 396 13)).toNatClampNeg)) + ((2 : Int32) * (gI S 402 ((gI S 396 13)).toNatClampNeg))), .int ((((gI S 397 ((2 : Int32)).toNatClampNeg) <<< ((16 : Int32) &&& 31)) ||| ((gI S 397 ((3 : Int32)).toNatClampNeg) <<< ((8 : Int32) &&& 31))) ||| (gI S 397 ((4 : Int32)).toNatClampNeg)), .int (227 : Int32), z_j, z_j, z_j]) t272_135 rfl rfl).trans ?_
              refine (k_iconst t272_137 rfl zci_0).trans ?_
              refine (k_istore (ls' := [.ref 396, .int x1, .int ((5 : Int32) + (gI S 398 ((gI S 396 13)).toNatClampNeg)), .int (((5 : Int32) + (gI S 398 ((gI S 396 13)).toNatClampNeg)) + ((2 : Int32) * (gI S 402 ((gI S 396 13)).toNatClampNeg))), .int ((((gI S 397 ((2 : Int32)).toNatClampNeg) <<< ((16 : Int32) &&& 31)) ||| ((gI S 397 ((3 : Int32)).toNatClampNeg) <<< ((8 : Int32) &&& 31))) ||| (gI S 397 ((4 : Int32)).toNatClampNeg)), .int (227 : Int32), .int (0 : Int32), z_j, z_j]) t272_138 rfl rfl).trans ?_
              exact (zk_mk (ls' := [.ref 396, .int x1, .int ((5 : Int32) + (gI S 398 ((gI S 396 13)).toNatClampNeg)), .int (((5 : Int32) + (gI S 398 ((gI S 396 13)).toNatClampNeg)) + ((2 : Int32) * (gI S 402 ((gI S 396 13)).toNatClampNeg))), .int ((((gI S 397 ((2 : Int32)).toNatClampNeg) <<< ((16 : Int32) &&& 31)) ||| ((gI S 397 ((3 : Int32)).toNatClampNeg) <<< ((8 : Int32) &&& 31))) ||| (gI S 397 ((4 : Int32)).toNatClampNeg)), .int (227 : Int32), .int (0 : Int32), z_j, z_j]) t272_140 rfl)
            · refine (zk_mk (ls' := [z_j, z_j, z_j, z_j, z_j, z_j, z_j, z_j, z_j]) t272_130 rfl).trans ?_
              refine (k_iconst t272_130 rfl zci_0).trans ?_
              exact k_zretC t272_131 rfl (by decide) (by decide)
theorem t273_0 : z_ft 273 0 = some (.aload_n 0, 1, none, [], 0, 0, 0, 0) := z_ftd (by decide +kernel)
theorem t273_1 : z_ft 273 1 = some (.getfield 13, 3, none, [], 12, 1, 2, 0) := z_ftd (by decide +kernel)
theorem t273_4 : z_ft 273 4 = some (.istore_n 1, 1, none, [], 0, 0, 0, 0) := z_ftd (by decide +kernel)
theorem t273_5 : z_ft 273 5 = some (.aload_n 0, 1, none, [], 0, 0, 0, 0) := z_ftd (by decide +kernel)
theorem t273_6 : z_ft 273 6 = some (.iconst 0, 1, none, [], 0, 0, 0, 0) := z_ftd (by decide +kernel)
theorem t273_7 : z_ft 273 7 = some (.putfield 13, 3, none, [], 12, 1, 2, 0) := z_ftd (by decide +kernel)
theorem t273_10 : z_ft 273 10 = some (.aload_n 0, 1, none, [], 0, 0, 0, 0) := z_ftd (by decide +kernel)
theorem t273_11 : z_ft 273 11 = some (.iload_n 1, 1, none, [], 0, 0, 0, 0) := z_ftd (by decide +kernel)
theorem t273_12 : z_ft 273 12 = some (.invokevirtual 563, 3, none, [], 272, 0, 188, 0) := z_ftd (by decide +kernel)
theorem t273_15 : z_ft 273 15 = some (.ifCond .ne 17, 3, none, [], 32, 0, 0, 0) := z_ftd (by decide +kernel)
theorem t273_18 : z_ft 273 18 = some (.aload_n 0, 1, none, [], 0, 0, 0, 0) := z_ftd (by decide +kernel)
theorem t273_19 : z_ft 273 19 = some (.iconst 5, 1, none, [], 0, 0, 0, 0) := z_ftd (by decide +kernel)
theorem t273_20 : z_ft 273 20 = some (.invokevirtual 231, 3, none, [], 194, 0, 73, 0) := z_ftd (by decide +kernel)
theorem t273_23 : z_ft 273 23 = some (.ifCond .lt 7, 3, none, [], 30, 0, 0, 0) := z_ftd (by decide +kernel)
theorem t273_26 : z_ft 273 26 = some (.iconst 1, 1, none, [], 0, 0, 0, 0) := z_ftd (by decide +kernel)
theorem t273_27 : z_ft 273 27 = some (.goto 4, 3, none, [], 31, 0, 0, 0) := z_ftd (by decide +kernel)
theorem t273_30 : z_ft 273 30 = some (.iconst 0, 1, none, [], 0, 0, 0, 0) := z_ftd (by decide +kernel)
theorem t273_31 : z_ft 273 31 = some (.ireturn, 1, (some []), [], 0, 0, 0, 0) := z_ftd (by decide +kernel)
theorem t273_32 : z_ft 273 32 = some (.aload_n 0, 1, none, [], 0, 0, 0, 0) := z_ftd (by decide +kernel)
theorem t273_33 : z_ft 273 33 = some (.iconst 0, 1, none, [], 0, 0, 0, 0) := z_ftd (by decide +kernel)
theorem t273_34 : z_ft 273 34 = some (.iconst 1, 1, none, [], 0, 0, 0, 0) := z_ftd (by decide +kernel)
theorem t273_35 : z_ft 273 35 = some (.invokevirtual 407, 3, none, [], 196, 0, 153, 0) := z_ftd (by decide +kernel)
theorem t273_38 : z_ft 273 38 = some (.aload_n 0, 1, none, [], 0, 0, 0, 0) := z_ftd (by decide +kernel)
theorem t273_39 : z_ft 273 39 = some (.iconst 0, 1, none, [], 0, 0, 0, 0) := z_ftd (by decide +kernel)
theorem t273_40 : z_ft 273 40 = some (.putfield 177, 3, none, [], 12, 54, 55, 0) := z_ftd (by decide +kernel)
theorem t273_43 : z_ft 273 43 = some (.iconst 1, 1, none, [], 0, 0, 0, 0) := z_ftd (by decide +kernel)
theorem t273_44 : z_ft 273 44 = some (.ireturn, 1, none, [], 0, 0, 0, 0) := z_ftd (by decide +kernel)
-- X12_on
theorem e273 (d : Nat)  (S : z_S) (hW : z_W S)  : fI (d + 1) 273 [.ref 396] S = (zb (fI d 272 [.ref 396, .int (gI S 396 1)] (sI S 396 1 (0 : Int32))) fun v1 S2 => (if ¬ v1 = (0 : Int32) then ((fV d 196 [.ref 396, .int (0 : Int32), .int (1 : Int32)] S2).bind fun S5 => some ((1 : Int32), sI S5 396 54 (0 : Int32))) else (zb (fI d 194 [.ref 396, .int (5 : Int32)] S2) fun v6 S7 => (if v6 < (0 : Int32) then some ((0 : Int32), S7) else some ((1 : Int32), S7))))) := by
  refine (fI_en (Nat.le_of_ble_eq_true rfl) rfl).trans ?_
  refine (k_aload_n t273_0 rfl rfl).trans ?_
  refine (k_getI t273_1 rfl hW zK_396 (by decide) (by decide)).trans ?_
  refine (k_istore_n (ls' := [.ref 396, .int (gI S 396 1)]) t273_4 rfl rfl).trans ?_
  refine (k_aload_n t273_5 rfl rfl).trans ?_
  refine (k_iconst t273_6 rfl zci_0).trans ?_
  refine (k_putI t273_7 rfl hW zK_396 (by decide) (by decide) (by decide)).trans ?_
  refine (k_aload_n t273_10 rfl rfl).trans ?_
  refine (k_iload_n t273_11 rfl rfl).trans ?_
  refine k_callI (as := [.ref 396, .int (gI S 396 1)]) (rest := []) t273_12 rfl rfl (by decide) rfl rfl (Nat.le_of_ble_eq_true rfl) rfl (z_rcV hW.sI (zK_396) (by decide)) (by decide) (Or.inr (by decide)) hW.sI (fun v1 S2 hW2 => ?_)
  refine (k_if_ne t273_15 rfl).trans (z_ite (fun g3 => ?_) (fun g3 => ?_))
  · refine (k_aload_n t273_32 rfl rfl).trans ?_
    refine (k_iconst t273_33 rfl zci_0).trans ?_
    refine (k_iconst t273_34 rfl zci_1).trans ?_
    refine k_callV (as := [.ref 396, .int (0 : Int32), .int (1 : Int32)]) (rest := []) t273_35 rfl rfl (by decide) rfl rfl (Nat.le_of_ble_eq_true rfl) rfl (z_rcV hW2 (zK_396) (by decide)) (by decide) (by decide) hW2 (fun S5 hW5 => ?_)
    refine (k_aload_n t273_38 rfl rfl).trans ?_
    refine (k_iconst t273_39 rfl zci_0).trans ?_
    refine (k_putI t273_40 rfl hW5 zK_396 (by decide) (by decide) (by decide)).trans ?_
    refine (k_iconst t273_43 rfl zci_1).trans ?_
    exact k_zretC t273_44 rfl (by decide) (by decide)
  · refine (k_aload_n t273_18 rfl rfl).trans ?_
    refine (k_iconst t273_19 rfl zci_5).trans ?_
    refine k_callI (as := [.ref 396, .int (5 : Int32)]) (rest := []) t273_20 rfl rfl (by decide) rfl rfl (Nat.le_of_ble_eq_true rfl) rfl (z_rcV hW2 (zK_396) (by decide)) (by decide) (Or.inl (by decide)) hW2 (fun v6 S7 hW7 => ?_)
    refine (k_if_lt t273_23 rfl).trans (z_ite (fun g8 => ?_) (fun g8 => ?_))
    · refine (k_iconst t273_30 rfl zci_0).trans ?_
      refine (zk_mk (ls' := [z_j, z_j]) t273_31 rfl).trans ?_
      exact k_zretC t273_31 rfl (by decide) (by decide)
    · refine (k_iconst t273_26 rfl zci_1).trans ?_
      refine (k_goto t273_27 rfl).trans ?_
      refine (zk_mk (ls' := [z_j, z_j]) t273_31 rfl).trans ?_
      exact k_zretC t273_31 rfl (by decide) (by decide)
