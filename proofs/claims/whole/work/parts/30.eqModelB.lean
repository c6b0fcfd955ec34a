/-! EQUATIONS of ModelB (written by wip/whole/gen/eqs.py). -/
theorem t195_0 : z_ft 195 0 = some (.iload_n 1, 1, none, [], 0, 0, 0, 0) := z_ftd (by decide +kernel)
theorem t195_1 : z_ft 195 1 = some (.iconst 0, 1, none, [], 0, 0, 0, 0) := z_ftd (by decide +kernel)
theorem t195_2 : z_ft 195 2 = some (.iconst 5, 1, none, [], 0, 0, 0, 0) := z_ftd (by decide +kernel)
theorem t195_3 : z_ft 195 3 = some (.invokestatic 307, 3, none, [], 155, 0, 85, 0) := z_ftd (by decide +kernel)
theorem t195_6 : z_ft 195 6 = some (.ifCond .eq 12, 3, none, [], 18, 0, 0, 0) := z_ftd (by decide +kernel)
theorem t195_9 : z_ft 195 9 = some (.aload_n 0, 1, none, [], 0, 0, 0, 0) := z_ftd (by decide +kernel)
theorem t195_10 : z_ft 195 10 = some (.getfield 144, 3, none, [], 12, 43, 44, 0) := z_ftd (by decide +kernel)
theorem t195_13 : z_ft 195 13 = some (.iload_n 1, 1, none, [], 0, 0, 0, 0) := z_ftd (by decide +kernel)
theorem t195_14 : z_ft 195 14 = some (.iaload, 1, none, [], 0, 0, 0, 0) := z_ftd (by decide +kernel)
theorem t195_15 : z_ft 195 15 = some (.goto 4, 3, none, [], 19, 0, 0, 0) := z_ftd (by decide +kernel)
theorem t195_18 : z_ft 195 18 = some (.iconst (-1), 1, none, [], 0, 0, 0, 0) := z_ftd (by decide +kernel)
theorem t195_19 : z_ft 195 19 = some (.ireturn, 1, (some []), [], 0, 0, 0, 0) := z_ftd (by decide +kernel)
-- X12_status
theorem e195 (d : Nat) (x1 : Int32) (S : z_S) (hW : z_W S)  : fI (d + 1) 195 [.ref 396, .int x1] S = (zb (fI d 155 [.int x1, .int (0 : Int32), .int (5 : Int32)] S) fun v1 S2 => (if v1 = (0 : Int32) then some ((-1 : Int32), S2) else (if z_in x1 6 then some ((gI S2 419 (x1).toNatClampNeg), S2) else none))) := by
  refine (fI_en (Nat.le_of_ble_eq_true rfl) rfl).trans ?_
  refine (k_iload_n t195_0 rfl rfl).trans ?_
  refine (k_iconst t195_1 rfl zci_0).trans ?_
  refine (k_iconst t195_2 rfl zci_5).trans ?_
  refine k_callI (as := [.int x1, .int (0 : Int32), .int (5 : Int32)]) (rest := []) t195_3 rfl rfl (by decide) rfl rfl (Nat.le_of_ble_eq_true rfl) rfl (z_rcS (by decide)) (by decide) (Or.inr (by decide)) hW (fun v1 S2 hW2 => ?_)
  refine (k_if_eq t195_6 rfl).trans (z_ite (fun g3 => ?_) (fun g3 => ?_))
  · refine (k_iconst t195_18 rfl zci_m1).trans ?_
    refine (zk_mk (ls' := [z_j, z_j]) t195_19 rfl).trans ?_
    exact k_ireturn t195_19 rfl (by decide)
  · refine (k_aload_n t195_9 rfl rfl).trans ?_
    refine (k_getR t195_10 rfl hW2 zK_396 (by decide) (by decide) (zF_396_43 hW2)).trans ?_
    refine (k_iload_n t195_13 rfl rfl).trans ?_
    refine (k_iald t195_14 rfl hW2 zK_419 zL_419).trans (z_ite (fun g4 => ?_) (fun _ => rfl))
    refine (k_goto t195_15 rfl).trans ?_
    refine (zk_mk (ls' := [z_j, z_j]) t195_19 rfl).trans ?_
    exact k_ireturn t195_19 rfl (by decide)
theorem t196_0 : z_ft 196 0 = some (.aload_n 0, 1, none, [], 0, 0, 0, 0) := z_ftd (by decide +kernel)
theorem t196_1 : z_ft 196 1 = some (.getfield 147, 3, none, [], 12, 44, 45, 0) := z_ftd (by decide +kernel)
theorem t196_4 : z_ft 196 4 = some (.iload_n 1, 1, none, [], 0, 0, 0, 0) := z_ftd (by decide +kernel)
theorem t196_5 : z_ft 196 5 = some (.aload_n 0, 1, none, [], 0, 0, 0, 0) := z_ftd (by decide +kernel)
theorem t196_6 : z_ft 196 6 = some (.getfield 147, 3, none, [], 12, 44, 45, 0) := z_ftd (by decide +kernel)
theorem t196_9 : z_ft 196 9 = some (.iload_n 2, 1, none, [], 0, 0, 0, 0) := z_ftd (by decide +kernel)
theorem t196_10 : z_ft 196 10 = some (.iaload, 1, none, [], 0, 0, 0, 0) := z_ftd (by decide +kernel)
theorem t196_11 : z_ft 196 11 = some (.iastore, 1, none, [], 0, 0, 0, 0) := z_ftd (by decide +kernel)
theorem t196_12 : z_ft 196 12 = some (.aload_n 0, 1, none, [], 0, 0, 0, 0) := z_ftd (by decide +kernel)
theorem t196_13 : z_ft 196 13 = some (.getfield 150, 3, none, [], 12, 45, 46, 0) := z_ftd (by decide +kernel)
theorem t196_16 : z_ft 196 16 = some (.iload_n 1, 1, none, [], 0, 0, 0, 0) := z_ftd (by decide +kernel)
theorem t196_17 : z_ft 196 17 = some (.aload_n 0, 1, none, [], 0, 0, 0, 0) := z_ftd (by decide +kernel)
theorem t196_18 : z_ft 196 18 = some (.getfield 150, 3, none, [], 12, 45, 46, 0) := z_ftd (by decide +kernel)
theorem t196_21 : z_ft 196 21 = some (.iload_n 2, 1, none, [], 0, 0, 0, 0) := z_ftd (by decide +kernel)
theorem t196_22 : z_ft 196 22 = some (.iaload, 1, none, [], 0, 0, 0, 0) := z_ftd (by decide +kernel)
theorem t196_23 : z_ft 196 23 = some (.iastore, 1, none, [], 0, 0, 0, 0) := z_ftd (by decide +kernel)
theorem t196_24 : z_ft 196 24 = some (.aload_n 0, 1, none, [], 0, 0, 0, 0) := z_ftd (by decide +kernel)
theorem t196_25 : z_ft 196 25 = some (.getfield 153, 3, none, [], 12, 46, 47, 0) := z_ftd (by decide +kernel)
theorem t196_28 : z_ft 196 28 = some (.iload_n 1, 1, none, [], 0, 0, 0, 0) := z_ftd (by decide +kernel)
theorem t196_29 : z_ft 196 29 = some (.aload_n 0, 1, none, [], 0, 0, 0, 0) := z_ftd (by decide +kernel)
theorem t196_30 : z_ft 196 30 = some (.getfield 153, 3, none, [], 12, 46, 47, 0) := z_ftd (by decide +kernel)
theorem t196_33 : z_ft 196 33 = some (.iload_n 2, 1, none, [], 0, 0, 0, 0) := z_ftd (by decide +kernel)
theorem t196_34 : z_ft 196 34 = some (.iaload, 1, none, [], 0, 0, 0, 0) := z_ftd (by decide +kernel)
theorem t196_35 : z_ft 196 35 = some (.iastore, 1, none, [], 0, 0, 0, 0) := z_ftd (by decide +kernel)
theorem t196_36 : z_ft 196 36 = some (.iconst 0, 1, none, [], 0, 0, 0, 0) := z_ftd (by decide +kernel)
theorem t196_37 : z_ft 196 37 = some (.istore_n 3, 1, none, [], 0, 0, 0, 0) := z_ftd (by decide +kernel)
theorem t196_38 : z_ft 196 38 = some (.iload_n 3, 1, (some [0, 1, 2, 3]), [], 0, 0, 0, 0) := z_ftd (by decide +kernel)
theorem t196_39 : z_ft 196 39 = some (.bipush 16, 2, none, [], 0, 0, 0, 0) := z_ftd (by decide +kernel)
theorem t196_41 : z_ft 196 41 = some (.if_icmp .ge 31, 3, none, [], 72, 0, 0, 0) := z_ftd (by decide +kernel)
theorem t196_44 : z_ft 196 44 = some (.aload_n 0, 1, none, [], 0, 0, 0, 0) := z_ftd (by decide +kernel)
theorem t196_45 : z_ft 196 45 = some (.getfield 156, 3, none, [], 12, 47, 48, 0) := z_ftd (by decide +kernel)
theorem t196_48 : z_ft 196 48 = some (.bipush 16, 2, none, [], 0, 0, 0, 0) := z_ftd (by decide +kernel)
theorem t196_50 : z_ft 196 50 = some (.iload_n 1, 1, none, [], 0, 0, 0, 0) := z_ftd (by decide +kernel)
theorem t196_51 : z_ft 196 51 = some (.imul, 1, none, [], 0, 0, 0, 0) := z_ftd (by decide +kernel)
theorem t196_52 : z_ft 196 52 = some (.iload_n 3, 1, none, [], 0, 0, 0, 0) := z_ftd (by decide +kernel)
theorem t196_53 : z_ft 196 53 = some (.iadd, 1, none, [], 0, 0, 0, 0) := z_ftd (by decide +kernel)
theorem t196_54 : z_ft 196 54 = some (.aload_n 0, 1, none, [], 0, 0, 0, 0) := z_ftd (by decide +kernel)
theorem t196_55 : z_ft 196 55 = some (.getfield 156, 3, none, [], 12, 47, 48, 0) := z_ftd (by decide +kernel)
theorem t196_58 : z_ft 196 58 = some (.bipush 16, 2, none, [], 0, 0, 0, 0) := z_ftd (by decide +kernel)
theorem t196_60 : z_ft 196 60 = some (.iload_n 2, 1, none, [], 0, 0, 0, 0) := z_ftd (by decide +kernel)
theorem t196_61 : z_ft 196 61 = some (.imul, 1, none, [], 0, 0, 0, 0) := z_ftd (by decide +kernel)
theorem t196_62 : z_ft 196 62 = some (.iload_n 3, 1, none, [], 0, 0, 0, 0) := z_ftd (by decide +kernel)
theorem t196_63 : z_ft 196 63 = some (.iadd, 1, none, [], 0, 0, 0, 0) := z_ftd (by decide +kernel)
theorem t196_64 : z_ft 196 64 = some (.iaload, 1, none, [], 0, 0, 0, 0) := z_ftd (by decide +kernel)
theorem t196_65 : z_ft 196 65 = some (.iastore, 1, none, [], 0, 0, 0, 0) := z_ftd (by decide +kernel)
theorem t196_66 : z_ft 196 66 = some (.iinc 3 1, 3, none, [], 0, 0, 0, 0) := z_ftd (by decide +kernel)
theorem t196_69 : z_ft 196 69 = some (.goto (-31), 3, none, [], 38, 0, 0, 0) := z_ftd (by decide +kernel)
theorem t196_72 : z_ft 196 72 = some (.iconst 0, 1, none, [], 0, 0, 0, 0) := z_ftd (by decide +kernel)
theorem t196_73 : z_ft 196 73 = some (.istore_n 3, 1, none, [], 0, 0, 0, 0) := z_ftd (by decide +kernel)
theorem t196_74 : z_ft 196 74 = some (.iload_n 3, 1, (some [0, 1, 2, 3]), [], 0, 0, 0, 0) := z_ftd (by decide +kernel)
theorem t196_75 : z_ft 196 75 = some (.bipush 16, 2, none, [], 0, 0, 0, 0) := z_ftd (by decide +kernel)
theorem t196_77 : z_ft 196 77 = some (.if_icmp .ge 31, 3, none, [], 108, 0, 0, 0) := z_ftd (by decide +kernel)
theorem t196_80 : z_ft 196 80 = some (.aload_n 0, 1, none, [], 0, 0, 0, 0) := z_ftd (by decide +kernel)
theorem t196_81 : z_ft 196 81 = some (.getfield 159, 3, none, [], 12, 48, 49, 0) := z_ftd (by decide +kernel)
theorem t196_84 : z_ft 196 84 = some (.bipush 16, 2, none, [], 0, 0, 0, 0) := z_ftd (by decide +kernel)
theorem t196_86 : z_ft 196 86 = some (.iload_n 1, 1, none, [], 0, 0, 0, 0) := z_ftd (by decide +kernel)
theorem t196_87 : z_ft 196 87 = some (.imul, 1, none, [], 0, 0, 0, 0) := z_ftd (by decide +kernel)
theorem t196_88 : z_ft 196 88 = some (.iload_n 3, 1, none, [], 0, 0, 0, 0) := z_ftd (by decide +kernel)
theorem t196_89 : z_ft 196 89 = some (.iadd, 1, none, [], 0, 0, 0, 0) := z_ftd (by decide +kernel)
theorem t196_90 : z_ft 196 90 = some (.aload_n 0, 1, none, [], 0, 0, 0, 0) := z_ftd (by decide +kernel)
theorem t196_91 : z_ft 196 91 = some (.getfield 159, 3, none, [], 12, 48, 49, 0) := z_ftd (by decide +kernel)
theorem t196_94 : z_ft 196 94 = some (.bipush 16, 2, none, [], 0, 0, 0, 0) := z_ftd (by decide +kernel)
theorem t196_96 : z_ft 196 96 = some (.iload_n 2, 1, none, [], 0, 0, 0, 0) := z_ftd (by decide +kernel)
theorem t196_97 : z_ft 196 97 = some (.imul, 1, none, [], 0, 0, 0, 0) := z_ftd (by decide +kernel)
theorem t196_98 : z_ft 196 98 = some (.iload_n 3, 1, none, [], 0, 0, 0, 0) := z_ftd (by decide +kernel)
theorem t196_99 : z_ft 196 99 = some (.iadd, 1, none, [], 0, 0, 0, 0) := z_ftd (by decide +kernel)
theorem t196_100 : z_ft 196 100 = some (.iaload, 1, none, [], 0, 0, 0, 0) := z_ftd (by decide +kernel)
theorem t196_101 : z_ft 196 101 = some (.iastore, 1, none, [], 0, 0, 0, 0) := z_ftd (by decide +kernel)
theorem t196_102 : z_ft 196 102 = some (.iinc 3 1, 3, none, [], 0, 0, 0, 0) := z_ftd (by decide +kernel)
theorem t196_105 : z_ft 196 105 = some (.goto (-31), 3, none, [], 74, 0, 0, 0) := z_ftd (by decide +kernel)
theorem t196_108 : z_ft 196 108 = some (.aload_n 0, 1, none, [], 0, 0, 0, 0) := z_ftd (by decide +kernel)
theorem t196_109 : z_ft 196 109 = some (.getfield 162, 3, none, [], 12, 49, 50, 0) := z_ftd (by decide +kernel)
theorem t196_112 : z_ft 196 112 = some (.iload_n 1, 1, none, [], 0, 0, 0, 0) := z_ftd (by decide +kernel)
theorem t196_113 : z_ft 196 113 = some (.aload_n 0, 1, none, [], 0, 0, 0, 0) := z_ftd (by decide +kernel)
theorem t196_114 : z_ft 196 114 = some (.getfield 162, 3, none, [], 12, 49, 50, 0) := z_ftd (by decide +kernel)
theorem t196_117 : z_ft 196 117 = some (.iload_n 2, 1, none, [], 0, 0, 0, 0) := z_ftd (by decide +kernel)
theorem t196_118 : z_ft 196 118 = some (.iaload, 1, none, [], 0, 0, 0, 0) := z_ftd (by decide +kernel)
theorem t196_119 : z_ft 196 119 = some (.iastore, 1, none, [], 0, 0, 0, 0) := z_ftd (by decide +kernel)
theorem t196_120 : z_ft 196 120 = some (.iconst 0, 1, none, [], 0, 0, 0, 0) := z_ftd (by decide +kernel)
theorem t196_121 : z_ft 196 121 = some (.istore_n 3, 1, none, [], 0, 0, 0, 0) := z_ftd (by decide +kernel)
theorem t196_122 : z_ft 196 122 = some (.iload_n 3, 1, (some [0, 1, 2, 3]), [], 0, 0, 0, 0) := z_ftd (by decide +kernel)
theorem t196_123 : z_ft 196 123 = some (.bipush 6, 2, none, [], 0, 0, 0, 0) := z_ftd (by decide +kernel)
theorem t196_125 : z_ft 196 125 = some (.if_icmp .ge 31, 3, none, [], 156, 0, 0, 0) := z_ftd (by decide +kernel)
theorem t196_128 : z_ft 196 128 = some (.aload_n 0, 1, none, [], 0, 0, 0, 0) := z_ftd (by decide +kernel)
theorem t196_129 : z_ft 196 129 = some (.getfield 165, 3, none, [], 12, 50, 51, 0) := z_ftd (by decide +kernel)
theorem t196_132 : z_ft 196 132 = some (.bipush 6, 2, none, [], 0, 0, 0, 0) := z_ftd (by decide +kernel)
theorem t196_134 : z_ft 196 134 = some (.iload_n 1, 1, none, [], 0, 0, 0, 0) := z_ftd (by decide +kernel)
theorem t196_135 : z_ft 196 135 = some (.imul, 1, none, [], 0, 0, 0, 0) := z_ftd (by decide +kernel)
theorem t196_136 : z_ft 196 136 = some (.iload_n 3, 1, none, [], 0, 0, 0, 0) := z_ftd (by decide +kernel)
theorem t196_137 : z_ft 196 137 = some (.iadd, 1, none, [], 0, 0, 0, 0) := z_ftd (by decide +kernel)
theorem t196_138 : z_ft 196 138 = some (.aload_n 0, 1, none, [], 0, 0, 0, 0) := z_ftd (by decide +kernel)
theorem t196_139 : z_ft 196 139 = some (.getfield 165, 3, none, [], 12, 50, 51, 0) := z_ftd (by decide +kernel)
theorem t196_142 : z_ft 196 142 = some (.bipush 6, 2, none, [], 0, 0, 0, 0) := z_ftd (by decide +kernel)
theorem t196_144 : z_ft 196 144 = some (.iload_n 2, 1, none, [], 0, 0, 0, 0) := z_ftd (by decide +kernel)
theorem t196_145 : z_ft 196 145 = some (.imul, 1, none, [], 0, 0, 0, 0) := z_ftd (by decide +kernel)
theorem t196_146 : z_ft 196 146 = some (.iload_n 3, 1, none, [], 0, 0, 0, 0) := z_ftd (by decide +kernel)
theorem t196_147 : z_ft 196 147 = some (.iadd, 1, none, [], 0, 0, 0, 0) := z_ftd (by decide +kernel)
theorem t196_148 : z_ft 196 148 = some (.iaload, 1, none, [], 0, 0, 0, 0) := z_ftd (by decide +kernel)
theorem t196_149 : z_ft 196 149 = some (.iastore, 1, none, [], 0, 0, 0, 0) := z_ftd (by decide +kernel)
theorem t196_150 : z_ft 196 150 = some (.iinc 3 1, 3, none, [], 0, 0, 0, 0) := z_ftd (by decide +kernel)
theorem t196_153 : z_ft 196 153 = some (.goto (-31), 3, none, [], 122, 0, 0, 0) := z_ftd (by decide +kernel)
theorem t196_156 : z_ft 196 156 = some (.aload_n 0, 1, none, [], 0, 0, 0, 0) := z_ftd (by decide +kernel)
theorem t196_157 : z_ft 196 157 = some (.getfield 168, 3, none, [], 12, 51, 52, 0) := z_ftd (by decide +kernel)
theorem t196_160 : z_ft 196 160 = some (.iload_n 1, 1, none, [], 0, 0, 0, 0) := z_ftd (by decide +kernel)
theorem t196_161 : z_ft 196 161 = some (.aload_n 0, 1, none, [], 0, 0, 0, 0) := z_ftd (by decide +kernel)
theorem t196_162 : z_ft 196 162 = some (.getfield 168, 3, none, [], 12, 51, 52, 0) := z_ftd (by decide +kernel)
theorem t196_165 : z_ft 196 165 = some (.iload_n 2, 1, none, [], 0, 0, 0, 0) := z_ftd (by decide +kernel)
theorem t196_166 : z_ft 196 166 = some (.iaload, 1, none, [], 0, 0, 0, 0) := z_ftd (by decide +kernel)
theorem t196_167 : z_ft 196 167 = some (.iastore, 1, none, [], 0, 0, 0, 0) := z_ftd (by decide +kernel)
theorem t196_168 : z_ft 196 168 = some (.iconst 0, 1, none, [], 0, 0, 0, 0) := z_ftd (by decide +kernel)
theorem t196_169 : z_ft 196 169 = some (.istore_n 3, 1, none, [], 0, 0, 0, 0) := z_ftd (by decide +kernel)
theorem t196_170 : z_ft 196 170 = some (.iload_n 3, 1, (some [0, 1, 2, 3]), [], 0, 0, 0, 0) := z_ftd (by decide +kernel)
theorem t196_171 : z_ft 196 171 = some (.iconst 3, 1, none, [], 0, 0, 0, 0) := z_ftd (by decide +kernel)
theorem t196_172 : z_ft 196 172 = some (.aload_n 0, 1, none, [], 0, 0, 0, 0) := z_ftd (by decide +kernel)
theorem t196_173 : z_ft 196 173 = some (.getfield 168, 3, none, [], 12, 51, 52, 0) := z_ftd (by decide +kernel)
theorem t196_176 : z_ft 196 176 = some (.iload_n 2, 1, none, [], 0, 0, 0, 0) := z_ftd (by decide +kernel)
theorem t196_177 : z_ft 196 177 = some (.iaload, 1, none, [], 0, 0, 0, 0) := z_ftd (by decide +kernel)
theorem t196_178 : z_ft 196 178 = some (.imul, 1, none, [], 0, 0, 0, 0) := z_ftd (by decide +kernel)
theorem t196_179 : z_ft 196 179 = some (.if_icmp .ge 31, 3, none, [], 210, 0, 0, 0) := z_ftd (by decide +kernel)
theorem t196_182 : z_ft 196 182 = some (.aload_n 0, 1, none, [], 0, 0, 0, 0) := z_ftd (by decide +kernel)
theorem t196_183 : z_ft 196 183 = some (.getfield 171, 3, none, [], 12, 52, 53, 0) := z_ftd (by decide +kernel)
theorem t196_186 : z_ft 196 186 = some (.bipush 120, 2, none, [], 0, 0, 0, 0) := z_ftd (by decide +kernel)
theorem t196_188 : z_ft 196 188 = some (.iload_n 1, 1, none, [], 0, 0, 0, 0) := z_ftd (by decide +kernel)
theorem t196_189 : z_ft 196 189 = some (.imul, 1, none, [], 0, 0, 0, 0) := z_ftd (by decide +kernel)
theorem t196_190 : z_ft 196 190 = some (.iload_n 3, 1, none, [], 0, 0, 0, 0) := z_ftd (by decide +kernel)
theorem t196_191 : z_ft 196 191 = some (.iadd, 1, none, [], 0, 0, 0, 0) := z_ftd (by decide +kernel)
theorem t196_192 : z_ft 196 192 = some (.aload_n 0, 1, none, [], 0, 0, 0, 0) := z_ftd (by decide +kernel)
theorem t196_193 : z_ft 196 193 = some (.getfield 171, 3, none, [], 12, 52, 53, 0) := z_ftd (by decide +kernel)
theorem t196_196 : z_ft 196 196 = some (.bipush 120, 2, none, [], 0, 0, 0, 0) := z_ftd (by decide +kernel)
theorem t196_198 : z_ft 196 198 = some (.iload_n 2, 1, none, [], 0, 0, 0, 0) := z_ftd (by decide +kernel)
theorem t196_199 : z_ft 196 199 = some (.imul, 1, none, [], 0, 0, 0, 0) := z_ftd (by decide +kernel)
theorem t196_200 : z_ft 196 200 = some (.iload_n 3, 1, none, [], 0, 0, 0, 0) := z_ftd (by decide +kernel)
theorem t196_201 : z_ft 196 201 = some (.iadd, 1, none, [], 0, 0, 0, 0) := z_ftd (by decide +kernel)
theorem t196_202 : z_ft 196 202 = some (.iaload, 1, none, [], 0, 0, 0, 0) := z_ftd (by decide +kernel)
theorem t196_203 : z_ft 196 203 = some (.iastore, 1, none, [], 0, 0, 0, 0) := z_ftd (by decide +kernel)
theorem t196_204 : z_ft 196 204 = some (.iinc 3 1, 3, none, [], 0, 0, 0, 0) := z_ftd (by decide +kernel)
theorem t196_207 : z_ft 196 207 = some (.goto (-37), 3, none, [], 170, 0, 0, 0) := z_ftd (by decide +kernel)
theorem t196_210 : z_ft 196 210 = some (.return_, 1, none, [], 0, 0, 0, 0) := z_ftd (by decide +kernel)
noncomputable def b196_38 (d : Nat) (y1 : Int32) (y2 : Int32) (y3 : Int32) (S : z_S) : Option z_S := zk kV z_X0 d 196 38 [.ref 396, .int y1, .int y2, .int y3] [] S
noncomputable def b196_74 (d : Nat) (y1 : Int32) (y2 : Int32) (y3 : Int32) (S : z_S) : Option z_S := zk kV z_X0 d 196 74 [.ref 396, .int y1, .int y2, .int y3] [] S
noncomputable def b196_122 (d : Nat) (y1 : Int32) (y2 : Int32) (y3 : Int32) (S : z_S) : Option z_S := zk kV z_X0 d 196 122 [.ref 396, .int y1, .int y2, .int y3] [] S
noncomputable def b196_170 (d : Nat) (y1 : Int32) (y2 : Int32) (y3 : Int32) (S : z_S) : Option z_S := zk kV z_X0 d 196 170 [.ref 396, .int y1, .int y2, .int y3] [] S
theorem b196_38_eq (d : Nat) (y1 : Int32) (y2 : Int32) (y3 : Int32) (S : z_S) (hW : z_W S)  : b196_38 d y1 y2 y3 S = (if (16 : Int32) ≤ y3 then b196_74 d y1 y2 (0 : Int32) S else (if z_in (((16 : Int32) * y2) + y3) 352 then (if z_in (((16 : Int32) * y1) + y3) 352 then b196_38 d y1 y2 (y3 + (1 : Int32)) (sI S 423 ((((16 : Int32) * y1) + y3)).toNatClampNeg (gI S 423 ((((16 : Int32) * y2) + y3)).toNatClampNeg)) else none) else none)) := by
  unfold b196_38
  refine (k_iload_n t196_38 rfl rfl).trans ?_
  refine (k_bipush t196_39 rfl zcb_16).trans ?_
  refine (k_icmp_ge t196_41 rfl).trans (z_ite (fun g7 => ?_) (fun g7 => ?_))
  · refine (k_iconst t196_72 rfl zci_0).trans ?_
    refine (k_istore_n (ls' := [.ref 396, .int y1, .int y2, .int (0 : Int32)]) t196_73 rfl rfl).trans ?_
    exact (zk_mk (ls' := [.ref 396, .int y1, .int y2, .int (0 : Int32)]) t196_74 rfl)
  · refine (k_aload_n t196_44 rfl rfl).trans ?_
    refine (k_getR t196_45 rfl hW zK_396 (by decide) (by decide) (zF_396_47 hW)).trans ?_
    refine (k_bipush t196_48 rfl zcb_16).trans ?_
    refine (k_iload_n t196_50 rfl rfl).trans ?_
    refine (k_imul t196_51 rfl).trans ?_
    refine (k_iload_n t196_52 rfl rfl).trans ?_
    refine (k_iadd t196_53 rfl).trans ?_
    refine (k_aload_n t196_54 rfl rfl).trans ?_
    refine (k_getR t196_55 rfl hW zK_396 (by decide) (by decide) (zF_396_47 hW)).trans ?_
    refine (k_bipush t196_58 rfl zcb_16).trans ?_
    refine (k_iload_n t196_60 rfl rfl).trans ?_
    refine (k_imul t196_61 rfl).trans ?_
    refine (k_iload_n t196_62 rfl rfl).trans ?_
    refine (k_iadd t196_63 rfl).trans ?_
    refine (k_iald t196_64 rfl hW zK_423 zL_423).trans (z_ite (fun g8 => ?_) (fun _ => rfl))
    refine (k_iast t196_65 rfl hW zK_423 zL_423).trans (z_ite (fun g9 => ?_) (fun _ => rfl))
    refine (k_iinc (b := (y3 + (1 : Int32))) (ls' := [.ref 396, .int y1, .int y2, .int (y3 + (1 : Int32))]) t196_66 rfl rfl (by rw [zci_1]) rfl).trans ?_
    refine (k_goto t196_69 rfl).trans ?_
    exact (zk_mk (ls' := [.ref 396, .int y1, .int y2, .int (y3 + (1 : Int32))]) t196_38 rfl)
theorem b196_74_eq (d : Nat) (y1 : Int32) (y2 : Int32) (y3 : Int32) (S : z_S) (hW : z_W S)  : b196_74 d y1 y2 y3 S = (if (16 : Int32) ≤ y3 then (if z_in y2 22 then (if z_in y1 22 then b196_122 d y1 y2 (0 : Int32) (sI S 425 (y1).toNatClampNeg (gI S 425 (y2).toNatClampNeg)) else none) else none) else (if z_in (((16 : Int32) * y2) + y3) 352 then (if z_in (((16 : Int32) * y1) + y3) 352 then b196_74 d y1 y2 (y3 + (1 : Int32)) (sI S 424 ((((16 : Int32) * y1) + y3)).toNatClampNeg (gI S 424 ((((16 : Int32) * y2) + y3)).toNatClampNeg)) else none) else none)) := by
  unfold b196_74
  refine (k_iload_n t196_74 rfl rfl).trans ?_
  refine (k_bipush t196_75 rfl zcb_16).trans ?_
  refine (k_icmp_ge t196_77 rfl).trans (z_ite (fun g10 => ?_) (fun g10 => ?_))
  · refine (k_aload_n t196_108 rfl rfl).trans ?_
    refine (k_getR t196_109 rfl hW zK_396 (by decide) (by decide) (zF_396_49 hW)).trans ?_
    refine (k_iload_n t196_112 rfl rfl).trans ?_
    refine (k_aload_n t196_113 rfl rfl).trans ?_
    refine (k_getR t196_114 rfl hW zK_396 (by decide) (by decide) (zF_396_49 hW)).trans ?_
    refine (k_iload_n t196_117 rfl rfl).trans ?_
    refine (k_iald t196_118 rfl hW zK_425 zL_425).trans (z_ite (fun g11 => ?_) (fun _ => rfl))
    refine (k_iast t196_119 rfl hW zK_425 zL_425).trans (z_ite (fun g12 => ?_) (fun _ => rfl))
    refine (k_iconst t196_120 rfl zci_0).trans ?_
    refine (k_istore_n (ls' := [.ref 396, .int y1, .int y2, .int (0 : Int32)]) t196_121 rfl rfl).trans ?_
    exact (zk_mk (ls' := [.ref 396, .int y1, .int y2, .int (0 : Int32)]) t196_122 rfl)
  · refine (k_aload_n t196_80 rfl rfl).trans ?_
    refine (k_getR t196_81 rfl hW zK_396 (by decide) (by decide) (zF_396_48 hW)).trans ?_
    refine (k_bipush t196_84 rfl zcb_16).trans ?_
    refine (k_iload_n t196_86 rfl rfl).trans ?_
    refine (k_imul t196_87 rfl).trans ?_
    refine (k_iload_n t196_88 rfl rfl).trans ?_
    refine (k_iadd t196_89 rfl).trans ?_
    refine (k_aload_n t196_90 rfl rfl).trans ?_
    refine (k_getR t196_91 rfl hW zK_396 (by decide) (by decide) (zF_396_48 hW)).trans ?_
    refine (k_bipush t196_94 rfl zcb_16).trans ?_
    refine (k_iload_n t196_96 rfl rfl).trans ?_
    refine (k_imul t196_97 rfl).trans ?_
    refine (k_iload_n t196_98 rfl rfl).trans ?_
    refine (k_iadd t196_99 rfl).trans ?_
    refine (k_iald t196_100 rfl hW zK_424 zL_424).trans (z_ite (fun g13 => ?_) (fun _ => rfl))
    refine (k_iast t196_101 rfl hW zK_424 zL_424).trans (z_ite (fun g14 => ?_) (fun _ => rfl))
    refine (k_iinc (b := (y3 + (1 : Int32))) (ls' := [.ref 396, .int y1, .int y2, .int (y3 + (1 : Int32))]) t196_102 rfl rfl (by rw [zci_1]) rfl).trans ?_
    refine (k_goto t196_105 rfl).trans ?_
    exact (zk_mk (ls' := [.ref 396, .int y1, .int y2, .int (y3 + (1 : Int32))]) t196_74 rfl)
theorem b196_122_eq (d : Nat) (y1 : Int32) (y2 : Int32) (y3 : Int32) (S : z_S) (hW : z_W S)  : b196_122 d y1 y2 y3 S = (if (6 : Int32) ≤ y3 then (if z_in y2 22 then (if z_in y1 22 then b196_170 d y1 y2 (0 : Int32) (sI S 427 (y1).toNatClampNeg (gI S 427 (y2).toNatClampNeg)) else none) else none) else (if z_in (((6 : Int32) * y2) + y3) 132 then (if z_in (((6 : Int32) * y1) + y3) 132 then b196_122 d y1 y2 (y3 + (1 : Int32)) (sI S 426 ((((6 : Int32) * y1) + y3)).toNatClampNeg (gI S 426 ((((6 : Int32) * y2) + y3)).toNatClampNeg)) else none) else none)) := by
  unfold b196_122
  refine (k_iload_n t196_122 rfl rfl).trans ?_
  refine (k_bipush t196_123 rfl zcb_6).trans ?_
  refine (k_icmp_ge t196_125 rfl).trans (z_ite (fun g15 => ?_) (fun g15 => ?_))
  · refine (k_aload_n t196_156 rfl rfl).trans ?_
    refine (k_getR t196_157 rfl hW zK_396 (by decide) (by decide) (zF_396_51 hW)).trans ?_
    refine (k_iload_n t196_160 rfl rfl).trans ?_
    refine (k_aload_n t196_161 rfl rfl).trans ?_
    refine (k_getR t196_162 rfl hW zK_396 (by decide) (by decide) (zF_396_51 hW)).trans ?_
    refine (k_iload_n t196_165 rfl rfl).trans ?_
    refine (k_iald t196_166 rfl hW zK_427 zL_427).trans (z_ite (fun g16 => ?_) (fun _ => rfl))
    refine (k_iast t196_167 rfl hW zK_427 zL_427).trans (z_ite (fun g17 => ?_) (fun _ => rfl))
    refine (k_iconst t196_168 rfl zci_0).trans ?_
    refine (k_istore_n (ls' := [.ref 396, .int y1, .int y2, .int (0 : Int32)]) t196_169 rfl rfl).trans ?_
    exact (zk_mk (ls' := [.ref 396, .int y1, .int y2, .int (0 : Int32)]) t196_170 rfl)
  · refine (k_aload_n t196_128 rfl rfl).trans ?_
    refine (k_getR t196_129 rfl hW zK_396 (by decide) (by decide) (zF_396_50 hW)).trans ?_
    refine (k_bipush t196_132 rfl zcb_6).trans ?_
    refine (k_iload_n t196_134 rfl rfl).trans ?_
    refine (k_imul t196_135 rfl).trans ?_
    refine (k_iload_n t196_136 rfl rfl).trans ?_
    refine (k_iadd t196_137 rfl).trans ?_
    refine (k_aload_n t196_138 rfl rfl).trans ?_
    refine (k_getR t196_139 rfl hW zK_396 (by decide) (by decide) (zF_396_50 hW)).trans ?_
    refine (k_bipush t196_142 rfl zcb_6).trans ?_
    refine (k_iload_n t196_144 rfl rfl).trans ?_
    refine (k_imul t196_145 rfl).trans ?_
    refine (k_iload_n t196_146 rfl rfl).trans ?_
    refine (k_iadd t196_147 rfl).trans ?_
    refine (k_iald t196_148 rfl hW zK_426 zL_426).trans (z_ite (fun g18 => ?_) (fun _ => rfl))
    refine (k_iast t196_149 rfl hW zK_426 zL_426).trans (z_ite (fun g19 => ?_) (fun _ => rfl))
    refine (k_iinc (b := (y3 + (1 : Int32))) (ls' := [.ref 396, .int y1, .int y2, .int (y3 + (1 : Int32))]) t196_150 rfl rfl (by rw [zci_1]) rfl).trans ?_
    refine (k_goto t196_153 rfl).trans ?_
    exact (zk_mk (ls' := [.ref 396, .int y1, .int y2, .int (y3 + (1 : Int32))]) t196_122 rfl)
theorem b196_170_eq (d : Nat) (y1 : Int32) (y2 : Int32) (y3 : Int32) (S : z_S) (hW : z_W S)  : b196_170 d y1 y2 y3 S = (if z_in y2 22 then (if ((3 : Int32) * (gI S 427 (y2).toNatClampNeg)) ≤ y3 then some S else (if z_in (((120 : Int32) * y2) + y3) 2640 then (if z_in (((120 : Int32) * y1) + y3) 2640 then b196_170 d y1 y2 (y3 + (1 : Int32)) (sI S 428 ((((120 : Int32) * y1) + y3)).toNatClampNeg (gI S 428 ((((120 : Int32) * y2) + y3)).toNatClampNeg)) else none) else none)) else none) := by
  unfold b196_170
  refine (k_iload_n t196_170 rfl rfl).trans ?_
  refine (k_iconst t196_171 rfl zci_3).trans ?_
  refine (k_aload_n t196_172 rfl rfl).trans ?_
  refine (k_getR t196_173 rfl hW zK_396 (by decide) (by decide) (zF_396_51 hW)).trans ?_
  refine (k_iload_n t196_176 rfl rfl).trans ?_
  refine (k_iald t196_177 rfl hW zK_427 zL_427).trans (z_ite (fun g20 => ?_) (fun _ => rfl))
  refine (k_imul t196_178 rfl).trans ?_
  refine (k_icmp_ge t196_179 rfl).trans (z_ite (fun g21 => ?_) (fun g21 => ?_))
  · exact k_return t196_210 rfl (by decide)
  · refine (k_aload_n t196_182 rfl rfl).trans ?_
    refine (k_getR t196_183 rfl hW zK_396 (by decide) (by decide) (zF_396_52 hW)).trans ?_
    refine (k_bipush t196_186 rfl zcb_120).trans ?_
    refine (k_iload_n t196_188 rfl rfl).trans ?_
    refine (k_imul t196_189 rfl).trans ?_
    refine (k_iload_n t196_190 rfl rfl).trans ?_
    refine (k_iadd t196_191 rfl).trans ?_
    refine (k_aload_n t196_192 rfl rfl).trans ?_
    refine (k_getR t196_193 rfl hW zK_396 (by decide) (by decide) (zF_396_52 hW)).trans ?_
    refine (k_bipush t196_196 rfl zcb_120).trans ?_
    refine (k_iload_n t196_198 rfl rfl).trans ?_
    refine (k_imul t196_199 rfl).trans ?_
    refine (k_iload_n t196_200 rfl rfl).trans ?_
    refine (k_iadd t196_201 rfl).trans ?_
    refine (k_iald t196_202 rfl hW zK_428 zL_428).trans (z_ite (fun g22 => ?_) (fun _ => rfl))
    refine (k_iast t196_203 rfl hW zK_428 zL_428).trans (z_ite (fun g23 => ?_) (fun _ => rfl))
    refine (k_iinc (b := (y3 + (1 : Int32))) (ls' := [.ref 396, .int y1, .int y2, .int (y3 + (1 : Int32))]) t196_204 rfl rfl (by rw [zci_1]) rfl).trans ?_
    refine (k_goto t196_207 rfl).trans ?_
    exact (zk_mk (ls' := [.ref 396, .int y1, .int y2, .int (y3 + (1 : Int32))]) t196_170 rfl)
-- X12_copies
theorem e196 (d : Nat) (x1 : Int32) (x2 : Int32) (S : z_S) (hW : z_W S)  : fV (d + 1) 196 [.ref 396, .int x1, .int x2] S = (if z_in x2 22 then (if z_in x1 22 then (if z_in x2 22 then (if z_in x1 22 then (if z_in x2 22 then (if z_in x1 22 then b196_38 d x1 x2 (0 : Int32) (sI (sI (sI S 420 (x1).toNatClampNeg (gI S 420 (x2).toNatClampNeg)) 421 (x1).toNatClampNeg (gI (sI S 420 (x1).toNatClampNeg (gI S 420 (x2).toNatClampNeg)) 421 (x2).toNatClampNeg)) 422 (x1).toNatClampNeg (gI (sI (sI S 420 (x1).toNatClampNeg (gI S 420 (x2).toNatClampNeg)) 421 (x1).toNatClampNeg (gI (sI S 420 (x1).toNatClampNeg (gI S 420 (x2).toNatClampNeg)) 421 (x2).toNatClampNeg)) 422 (x2).toNatClampNeg)) else none) else none) else none) else none) else none) else none) := by
  refine (fV_en (Nat.le_of_ble_eq_true rfl) rfl).trans ?_
  refine (k_aload_n t196_0 rfl rfl).trans ?_
  refine (k_getR t196_1 rfl hW zK_396 (by decide) (by decide) (zF_396_44 hW)).trans ?_
  refine (k_iload_n t196_4 rfl rfl).trans ?_
  refine (k_aload_n t196_5 rfl rfl).trans ?_
  refine (k_getR t196_6 rfl hW zK_396 (by decide) (by decide) (zF_396_44 hW)).trans ?_
  refine (k_iload_n t196_9 rfl rfl).trans ?_
  refine (k_iald t196_10 rfl hW zK_420 zL_420).trans (z_ite (fun g1 => ?_) (fun _ => rfl))
  refine (k_iast t196_11 rfl hW zK_420 zL_420).trans (z_ite (fun g2 => ?_) (fun _ => rfl))
  refine (k_aload_n t196_12 rfl rfl).trans ?_
  refine (k_getR t196_13 rfl hW.sI zK_396 (by decide) (by decide) (zF_396_45 hW.sI)).trans ?_
  refine (k_iload_n t196_16 rfl rfl).trans ?_
  refine (k_aload_n t196_17 rfl rfl).trans ?_
  refine (k_getR t196_18 rfl hW.sI zK_396 (by decide) (by decide) (zF_396_45 hW.sI)).trans ?_
  refine (k_iload_n t196_21 rfl rfl).trans ?_
  refine (k_iald t196_22 rfl hW.sI zK_421 zL_421).trans (z_ite (fun g3 => ?_) (fun _ => rfl))
  refine (k_iast t196_23 rfl hW.sI zK_421 zL_421).trans (z_ite (fun g4 => ?_) (fun _ => rfl))
  refine (k_aload_n t196_24 rfl rfl).trans ?_
  refine (k_getR t196_25 rfl hW.sI.sI zK_396 (by decide) (by decide) (zF_396_46 hW.sI.sI)).trans ?_
  refine (k_iload_n t196_28 rfl rfl).trans ?_
  refine (k_aload_n t196_29 rfl rfl).trans ?_
  refine (k_getR t196_30 rfl hW.sI.sI zK_396 (by decide) (by decide) (zF_396_46 hW.sI.sI)).trans ?_
  refine (k_iload_n t196_33 rfl rfl).trans ?_
  refine (k_iald t196_34 rfl hW.sI.sI zK_422 zL_422).trans (z_ite (fun g5 => ?_) (fun _ => rfl))
  refine (k_iast t196_35 rfl hW.sI.sI zK_422 zL_422).trans (z_ite (fun g6 => ?_) (fun _ => rfl))
  refine (k_iconst t196_36 rfl zci_0).trans ?_
  refine (k_istore_n (ls' := [.ref 396, .int x1, .int x2, .int (0 : Int32)]) t196_37 rfl rfl).trans ?_
  exact (zk_mk (ls' := [.ref 396, .int x1, .int x2, .int (0 : Int32)]) t196_38 rfl)
theorem t197_0 : z_ft 197 0 = some (.aload_n 0, 1, none, [], 0, 0, 0, 0) := z_ftd (by decide +kernel)
theorem t197_1 : z_ft 197 1 = some (.getfield 147, 3, none, [], 12, 44, 45, 0) := z_ftd (by decide +kernel)
theorem t197_4 : z_ft 197 4 = some (.iconst 0, 1, none, [], 0, 0, 0, 0) := z_ftd (by decide +kernel)
theorem t197_5 : z_ft 197 5 = some (.iconst 0, 1, none, [], 0, 0, 0, 0) := z_ftd (by decide +kernel)
theorem t197_6 : z_ft 197 6 = some (.iastore, 1, none, [], 0, 0, 0, 0) := z_ftd (by decide +kernel)
theorem t197_7 : z_ft 197 7 = some (.aload_n 0, 1, none, [], 0, 0, 0, 0) := z_ftd (by decide +kernel)
theorem t197_8 : z_ft 197 8 = some (.getfield 150, 3, none, [], 12, 45, 46, 0) := z_ftd (by decide +kernel)
theorem t197_11 : z_ft 197 11 = some (.iconst 0, 1, none, [], 0, 0, 0, 0) := z_ftd (by decide +kernel)
theorem t197_12 : z_ft 197 12 = some (.iconst 0, 1, none, [], 0, 0, 0, 0) := z_ftd (by decide +kernel)
theorem t197_13 : z_ft 197 13 = some (.iastore, 1, none, [], 0, 0, 0, 0) := z_ftd (by decide +kernel)
theorem t197_14 : z_ft 197 14 = some (.aload_n 0, 1, none, [], 0, 0, 0, 0) := z_ftd (by decide +kernel)
theorem t197_15 : z_ft 197 15 = some (.getfield 153, 3, none, [], 12, 46, 47, 0) := z_ftd (by decide +kernel)
theorem t197_18 : z_ft 197 18 = some (.iconst 0, 1, none, [], 0, 0, 0, 0) := z_ftd (by decide +kernel)
theorem t197_19 : z_ft 197 19 = some (.aload_n 0, 1, none, [], 0, 0, 0, 0) := z_ftd (by decide +kernel)
theorem t197_20 : z_ft 197 20 = some (.getfield 81, 3, none, [], 12, 23, 24, 0) := z_ftd (by decide +kernel)
theorem t197_23 : z_ft 197 23 = some (.aload_n 0, 1, none, [], 0, 0, 0, 0) := z_ftd (by decide +kernel)
theorem t197_24 : z_ft 197 24 = some (.getfield 51, 3, none, [], 12, 13, 14, 0) := z_ftd (by decide +kernel)
theorem t197_27 : z_ft 197 27 = some (.iaload, 1, none, [], 0, 0, 0, 0) := z_ftd (by decide +kernel)
theorem t197_28 : z_ft 197 28 = some (.iastore, 1, none, [], 0, 0, 0, 0) := z_ftd (by decide +kernel)
theorem t197_29 : z_ft 197 29 = some (.iconst 0, 1, none, [], 0, 0, 0, 0) := z_ftd (by decide +kernel)
theorem t197_30 : z_ft 197 30 = some (.istore_n 1, 1, none, [], 0, 0, 0, 0) := z_ftd (by decide +kernel)
theorem t197_31 : z_ft 197 31 = some (.iload_n 1, 1, (some [0, 1]), [], 0, 0, 0, 0) := z_ftd (by decide +kernel)
theorem t197_32 : z_ft 197 32 = some (.bipush 16, 2, none, [], 0, 0, 0, 0) := z_ftd (by decide +kernel)
theorem t197_34 : z_ft 197 34 = some (.if_icmp .ge 16, 3, none, [], 50, 0, 0, 0) := z_ftd (by decide +kernel)
theorem t197_37 : z_ft 197 37 = some (.aload_n 0, 1, none, [], 0, 0, 0, 0) := z_ftd (by decide +kernel)
theorem t197_38 : z_ft 197 38 = some (.getfield 156, 3, none, [], 12, 47, 48, 0) := z_ftd (by decide +kernel)
theorem t197_41 : z_ft 197 41 = some (.iload_n 1, 1, none, [], 0, 0, 0, 0) := z_ftd (by decide +kernel)
theorem t197_42 : z_ft 197 42 = some (.iconst (-1), 1, none, [], 0, 0, 0, 0) := z_ftd (by decide +kernel)
theorem t197_43 : z_ft 197 43 = some (.iastore, 1, none, [], 0, 0, 0, 0) := z_ftd (by decide +kernel)
theorem t197_44 : z_ft 197 44 = some (.iinc 1 1, 3, none, [], 0, 0, 0, 0) := z_ftd (by decide +kernel)
theorem t197_47 : z_ft 197 47 = some (.goto (-16), 3, none, [], 31, 0, 0, 0) := z_ftd (by decide +kernel)
theorem t197_50 : z_ft 197 50 = some (.iconst 0, 1, none, [], 0, 0, 0, 0) := z_ftd (by decide +kernel)
theorem t197_51 : z_ft 197 51 = some (.istore_n 1, 1, none, [], 0, 0, 0, 0) := z_ftd (by decide +kernel)
theorem t197_52 : z_ft 197 52 = some (.iload_n 1, 1, (some [0, 1]), [], 0, 0, 0, 0) := z_ftd (by decide +kernel)
theorem t197_53 : z_ft 197 53 = some (.bipush 16, 2, none, [], 0, 0, 0, 0) := z_ftd (by decide +kernel)
theorem t197_55 : z_ft 197 55 = some (.if_icmp .ge 16, 3, none, [], 71, 0, 0, 0) := z_ftd (by decide +kernel)
theorem t197_58 : z_ft 197 58 = some (.aload_n 0, 1, none, [], 0, 0, 0, 0) := z_ftd (by decide +kernel)
theorem t197_59 : z_ft 197 59 = some (.getfield 159, 3, none, [], 12, 48, 49, 0) := z_ftd (by decide +kernel)
theorem t197_62 : z_ft 197 62 = some (.iload_n 1, 1, none, [], 0, 0, 0, 0) := z_ftd (by decide +kernel)
theorem t197_63 : z_ft 197 63 = some (.iconst 0, 1, none, [], 0, 0, 0, 0) := z_ftd (by decide +kernel)
theorem t197_64 : z_ft 197 64 = some (.iastore, 1, none, [], 0, 0, 0, 0) := z_ftd (by decide +kernel)
theorem t197_65 : z_ft 197 65 = some (.iinc 1 1, 3, none, [], 0, 0, 0, 0) := z_ftd (by decide +kernel)
theorem t197_68 : z_ft 197 68 = some (.goto (-16), 3, none, [], 52, 0, 0, 0) := z_ftd (by decide +kernel)
theorem t197_71 : z_ft 197 71 = some (.aload_n 0, 1, none, [], 0, 0, 0, 0) := z_ftd (by decide +kernel)
theorem t197_72 : z_ft 197 72 = some (.getfield 162, 3, none, [], 12, 49, 50, 0) := z_ftd (by decide +kernel)
theorem t197_75 : z_ft 197 75 = some (.iconst 0, 1, none, [], 0, 0, 0, 0) := z_ftd (by decide +kernel)
theorem t197_76 : z_ft 197 76 = some (.iconst 0, 1, none, [], 0, 0, 0, 0) := z_ftd (by decide +kernel)
theorem t197_77 : z_ft 197 77 = some (.iastore, 1, none, [], 0, 0, 0, 0) := z_ftd (by decide +kernel)
theorem t197_78 : z_ft 197 78 = some (.aload_n 0, 1, none, [], 0, 0, 0, 0) := z_ftd (by decide +kernel)
theorem t197_79 : z_ft 197 79 = some (.aload_n 0, 1, none, [], 0, 0, 0, 0) := z_ftd (by decide +kernel)
theorem t197_80 : z_ft 197 80 = some (.getfield 60, 3, none, [], 12, 16, 17, 0) := z_ftd (by decide +kernel)
theorem t197_83 : z_ft 197 83 = some (.aload_n 0, 1, none, [], 0, 0, 0, 0) := z_ftd (by decide +kernel)
theorem t197_84 : z_ft 197 84 = some (.getfield 51, 3, none, [], 12, 13, 14, 0) := z_ftd (by decide +kernel)
theorem t197_87 : z_ft 197 87 = some (.iaload, 1, none, [], 0, 0, 0, 0) := z_ftd (by decide +kernel)
theorem t197_88 : z_ft 197 88 = some (.putfield 183, 3, none, [], 12, 56, 57, 0) := z_ftd (by decide +kernel)
theorem t197_91 : z_ft 197 91 = some (.iconst 0, 1, none, [], 0, 0, 0, 0) := z_ftd (by decide +kernel)
theorem t197_92 : z_ft 197 92 = some (.istore_n 1, 1, none, [], 0, 0, 0, 0) := z_ftd (by decide +kernel)
theorem t197_93 : z_ft 197 93 = some (.iload_n 1, 1, (some [0, 1]), [], 0, 0, 0, 0) := z_ftd (by decide +kernel)
theorem t197_94 : z_ft 197 94 = some (.aload_n 0, 1, none, [], 0, 0, 0, 0) := z_ftd (by decide +kernel)
theorem t197_95 : z_ft 197 95 = some (.getfield 75, 3, none, [], 12, 21, 22, 0) := z_ftd (by decide +kernel)
theorem t197_98 : z_ft 197 98 = some (.aload_n 0, 1, none, [], 0, 0, 0, 0) := z_ftd (by decide +kernel)
theorem t197_99 : z_ft 197 99 = some (.getfield 51, 3, none, [], 12, 13, 14, 0) := z_ftd (by decide +kernel)
theorem t197_102 : z_ft 197 102 = some (.iaload, 1, none, [], 0, 0, 0, 0) := z_ftd (by decide +kernel)
theorem t197_103 : z_ft 197 103 = some (.if_icmp .ge 29, 3, none, [], 132, 0, 0, 0) := z_ftd (by decide +kernel)
theorem t197_106 : z_ft 197 106 = some (.aload_n 0, 1, none, [], 0, 0, 0, 0) := z_ftd (by decide +kernel)
theorem t197_107 : z_ft 197 107 = some (.iconst 0, 1, none, [], 0, 0, 0, 0) := z_ftd (by decide +kernel)
theorem t197_108 : z_ft 197 108 = some (.aload_n 0, 1, none, [], 0, 0, 0, 0) := z_ftd (by decide +kernel)
theorem t197_109 : z_ft 197 109 = some (.getfield 78, 3, none, [], 12, 22, 23, 0) := z_ftd (by decide +kernel)
theorem t197_112 : z_ft 197 112 = some (.bipush 16, 2, none, [], 0, 0, 0, 0) := z_ftd (by decide +kernel)
theorem t197_114 : z_ft 197 114 = some (.aload_n 0, 1, none, [], 0, 0, 0, 0) := z_ftd (by decide +kernel)
theorem t197_115 : z_ft 197 115 = some (.getfield 51, 3, none, [], 12, 13, 14, 0) := z_ftd (by decide +kernel)
theorem t197_118 : z_ft 197 118 = some (.imul, 1, none, [], 0, 0, 0, 0) := z_ftd (by decide +kernel)
theorem t197_119 : z_ft 197 119 = some (.iload_n 1, 1, none, [], 0, 0, 0, 0) := z_ftd (by decide +kernel)
theorem t197_120 : z_ft 197 120 = some (.iadd, 1, none, [], 0, 0, 0, 0) := z_ftd (by decide +kernel)
theorem t197_121 : z_ft 197 121 = some (.iaload, 1, none, [], 0, 0, 0, 0) := z_ftd (by decide +kernel)
theorem t197_122 : z_ft 197 122 = some (.invokevirtual 401, 3, none, [], 220, 0, 134, 0) := z_ftd (by decide +kernel)
theorem t197_125 : z_ft 197 125 = some (.pop, 1, none, [], 0, 0, 0, 0) := z_ftd (by decide +kernel)
theorem t197_126 : z_ft 197 126 = some (.iinc 1 1, 3, none, [], 0, 0, 0, 0) := z_ftd (by decide +kernel)
theorem t197_129 : z_ft 197 129 = some (.goto (-36), 3, none, [], 93, 0, 0, 0) := z_ftd (by decide +kernel)
theorem t197_132 : z_ft 197 132 = some (.aload_n 0, 1, none, [], 0, 0, 0, 0) := z_ftd (by decide +kernel)
theorem t197_133 : z_ft 197 133 = some (.getfield 168, 3, none, [], 12, 51, 52, 0) := z_ftd (by decide +kernel)
theorem t197_136 : z_ft 197 136 = some (.iconst 0, 1, none, [], 0, 0, 0, 0) := z_ftd (by decide +kernel)
theorem t197_137 : z_ft 197 137 = some (.iconst 0, 1, none, [], 0, 0, 0, 0) := z_ftd (by decide +kernel)
theorem t197_138 : z_ft 197 138 = some (.iastore, 1, none, [], 0, 0, 0, 0) := z_ftd (by decide +kernel)
theorem t197_139 : z_ft 197 139 = some (.aload_n 0, 1, none, [], 0, 0, 0, 0) := z_ftd (by decide +kernel)
theorem t197_140 : z_ft 197 140 = some (.iconst 0, 1, none, [], 0, 0, 0, 0) := z_ftd (by decide +kernel)
theorem t197_141 : z_ft 197 141 = some (.putfield 177, 3, none, [], 12, 54, 55, 0) := z_ftd (by decide +kernel)
theorem t197_144 : z_ft 197 144 = some (.aload_n 0, 1, none, [], 0, 0, 0, 0) := z_ftd (by decide +kernel)
theorem t197_145 : z_ft 197 145 = some (.iconst 0, 1, none, [], 0, 0, 0, 0) := z_ftd (by decide +kernel)
theorem t197_146 : z_ft 197 146 = some (.putfield 204, 3, none, [], 12, 63, 64, 0) := z_ftd (by decide +kernel)
theorem t197_149 : z_ft 197 149 = some (.return_, 1, none, [], 0, 0, 0, 0) := z_ftd (by decide +kernel)
noncomputable def b197_31 (d : Nat) (y1 : Int32) (S : z_S) : Option z_S := zk kV z_X0 d 197 31 [.ref 396, .int y1] [] S
noncomputable def b197_52 (d : Nat) (y1 : Int32) (S : z_S) : Option z_S := zk kV z_X0 d 197 52 [.ref 396, .int y1] [] S
noncomputable def b197_93 (d : Nat) (y1 : Int32) (S : z_S) : Option z_S := zk kV z_X0 d 197 93 [.ref 396, .int y1] [] S
theorem b197_31_eq (d : Nat) (y1 : Int32) (S : z_S) (hW : z_W S)  : b197_31 d y1 S = (if (16 : Int32) ≤ y1 then b197_52 d (0 : Int32) S else (if z_in y1 352 then b197_31 d (y1 + (1 : Int32)) (sI S 423 (y1).toNatClampNeg (-1 : Int32)) else none)) := by
  unfold b197_31
  refine (k_iload_n t197_31 rfl rfl).trans ?_
  refine (k_bipush t197_32 rfl zcb_16).trans ?_
  refine (k_icmp_ge t197_34 rfl).trans (z_ite (fun g5 => ?_) (fun g5 => ?_))
  · refine (k_iconst t197_50 rfl zci_0).trans ?_
    refine (k_istore_n (ls' := [.ref 396, .int (0 : Int32)]) t197_51 rfl rfl).trans ?_
    exact (zk_mk (ls' := [.ref 396, .int (0 : Int32)]) t197_52 rfl)
  · refine (k_aload_n t197_37 rfl rfl).trans ?_
    refine (k_getR t197_38 rfl hW zK_396 (by decide) (by decide) (zF_396_47 hW)).trans ?_
    refine (k_iload_n t197_41 rfl rfl).trans ?_
    refine (k_iconst t197_42 rfl zci_m1).trans ?_
    refine (k_iast t197_43 rfl hW zK_423 zL_423).trans (z_ite (fun g6 => ?_) (fun _ => rfl))
    refine (k_iinc (b := (y1 + (1 : Int32))) (ls' := [.ref 396, .int (y1 + (1 : Int32))]) t197_44 rfl rfl (by rw [zci_1]) rfl).trans ?_
    refine (k_goto t197_47 rfl).trans ?_
    exact (zk_mk (ls' := [.ref 396, .int (y1 + (1 : Int32))]) t197_31 rfl)
theorem b197_52_eq (d : Nat) (y1 : Int32) (S : z_S) (hW : z_W S)  : b197_52 d y1 S = (if (16 : Int32) ≤ y1 then (if z_in (0 : Int32) 22 then (if z_in (gI (sI S 425 ((0 : Int32)).toNatClampNeg (0 : Int32)) 396 13) 2 then b197_93 d (0 : Int32) (sI (sI S 425 ((0 : Int32)).toNatClampNeg (0 : Int32)) 396 56 (gI (sI S 425 ((0 : Int32)).toNatClampNeg (0 : Int32)) 400 ((gI (sI S 425 ((0 : Int32)).toNatClampNeg (0 : Int32)) 396 13)).toNatClampNeg)) else none) else none) else (if z_in y1 352 then b197_52 d (y1 + (1 : Int32)) (sI S 424 (y1).toNatClampNeg (0 : Int32)) else none)) := by
  unfold b197_52
  refine (k_iload_n t197_52 rfl rfl).trans ?_
  refine (k_bipush t197_53 rfl zcb_16).trans ?_
  refine (k_icmp_ge t197_55 rfl).trans (z_ite (fun g7 => ?_) (fun g7 => ?_))
  · refine (k_aload_n t197_71 rfl rfl).trans ?_
    refine (k_getR t197_72 rfl hW zK_396 (by decide) (by decide) (zF_396_49 hW)).trans ?_
    refine (k_iconst t197_75 rfl zci_0).trans ?_
    refine (k_iconst t197_76 rfl zci_0).trans ?_
    refine (k_iast t197_77 rfl hW zK_425 zL_425).trans (z_ite (fun g8 => ?_) (fun _ => rfl))
    refine (k_aload_n t197_78 rfl rfl).trans ?_
    refine (k_aload_n t197_79 rfl rfl).trans ?_
    refine (k_getR t197_80 rfl hW.sI zK_396 (by decide) (by decide) (zF_396_16 hW.sI)).trans ?_
    refine (k_aload_n t197_83 rfl rfl).trans ?_
    refine (k_getI t197_84 rfl hW.sI zK_396 (by decide) (by decide)).trans ?_
    refine (k_iald t197_87 rfl hW.sI zK_400 zL_400).trans (z_ite (fun g9 => ?_) (fun _ => rfl))
    refine (k_putI t197_88 rfl hW.sI zK_396 (by decide) (by decide) (by decide)).trans ?_
    refine (k_iconst t197_91 rfl zci_0).trans ?_
    refine (k_istore_n (ls' := [.ref 396, .int (0 : Int32)]) t197_92 rfl rfl).trans ?_
    exact (zk_mk (ls' := [.ref 396, .int (0 : Int32)]) t197_93 rfl)
  · refine (k_aload_n t197_58 rfl rfl).trans ?_
    refine (k_getR t197_59 rfl hW zK_396 (by decide) (by decide) (zF_396_48 hW)).trans ?_
    refine (k_iload_n t197_62 rfl rfl).trans ?_
    refine (k_iconst t197_63 rfl zci_0).trans ?_
    refine (k_iast t197_64 rfl hW zK_424 zL_424).trans (z_ite (fun g10 => ?_) (fun _ => rfl))
    refine (k_iinc (b := (y1 + (1 : Int32))) (ls' := [.ref 396, .int (y1 + (1 : Int32))]) t197_65 rfl rfl (by rw [zci_1]) rfl).trans ?_
    refine (k_goto t197_68 rfl).trans ?_
    exact (zk_mk (ls' := [.ref 396, .int (y1 + (1 : Int32))]) t197_52 rfl)
theorem b197_93_eq (d : Nat) (y1 : Int32) (S : z_S) (hW : z_W S)  : b197_93 d y1 S = (if z_in (gI S 396 13) 2 then (if (gI S 405 ((gI S 396 13)).toNatClampNeg) ≤ y1 then (if z_in (0 : Int32) 22 then some (sI (sI (sI S 427 ((0 : Int32)).toNatClampNeg (0 : Int32)) 396 54 (0 : Int32)) 396 63 (0 : Int32)) else none) else (if z_in (((16 : Int32) * (gI S 396 13)) + y1) 32 then (zb (fI d 220 [.ref 396, .int (0 : Int32), .int (gI S 406 ((((16 : Int32) * (gI S 396 13)) + y1)).toNatClampNeg)] S) fun v15 S16 => b197_93 d (y1 + (1 : Int32)) S16) else none)) else none) := by
  unfold b197_93
  refine (k_iload_n t197_93 rfl rfl).trans ?_
  refine (k_aload_n t197_94 rfl rfl).trans ?_
  refine (k_getR t197_95 rfl hW zK_396 (by decide) (by decide) (zF_396_21 hW)).trans ?_
  refine (k_aload_n t197_98 rfl rfl).trans ?_
  refine (k_getI t197_99 rfl hW zK_396 (by decide) (by decide)).trans ?_
  refine (k_iald t197_102 rfl hW zK_405 zL_405).trans (z_ite (fun g11 => ?_) (fun _ => rfl))
  refine (k_icmp_ge t197_103 rfl).trans (z_ite (fun g12 => ?_) (fun g12 => ?_))
  · refine (k_aload_n t197_132 rfl rfl).trans ?_
    refine (k_getR t197_133 rfl hW zK_396 (by decide) (by decide) (zF_396_51 hW)).trans ?_
    refine (k_iconst t197_136 rfl zci_0).trans ?_
    refine (k_iconst t197_137 rfl zci_0).trans ?_
    refine (k_iast t197_138 rfl hW zK_427 zL_427).trans (z_ite (fun g13 => ?_) (fun _ => rfl))
    refine (k_aload_n t197_139 rfl rfl).trans ?_
    refine (k_iconst t197_140 rfl zci_0).trans ?_
    refine (k_putI t197_141 rfl hW.sI zK_396 (by decide) (by decide) (by decide)).trans ?_
    refine (k_aload_n t197_144 rfl rfl).trans ?_
    refine (k_iconst t197_145 rfl zci_0).trans ?_
    refine (k_putI t197_146 rfl hW.sI.sI zK_396 (by decide) (by decide) (by decide)).trans ?_
    exact k_return t197_149 rfl (by decide)
  · refine (k_aload_n t197_106 rfl rfl).trans ?_
    refine (k_iconst t197_107 rfl zci_0).trans ?_
    refine (k_aload_n t197_108 rfl rfl).trans ?_
    refine (k_getR t197_109 rfl hW zK_396 (by decide) (by decide) (zF_396_22 hW)).trans ?_
    refine (k_bipush t197_112 rfl zcb_16).trans ?_
    refine (k_aload_n t197_114 rfl rfl).trans ?_
    refine (k_getI t197_115 rfl hW zK_396 (by decide) (by decide)).trans ?_
    refine (k_imul t197_118 rfl).trans ?_
    refine (k_iload_n t197_119 rfl rfl).trans ?_
    refine (k_iadd t197_120 rfl).trans ?_
    refine (k_iald t197_121 rfl hW zK_406 zL_406).trans (z_ite (fun g14 => ?_) (fun _ => rfl))
    refine k_callI (as := [.ref 396, .int (0 : Int32), .int (gI S 406 ((((16 : Int32) * (gI S 396 13)) + y1)).toNatClampNeg)]) (rest := []) t197_122 rfl rfl (by decide) rfl rfl (Nat.le_of_ble_eq_true rfl) rfl (z_rcV hW (zK_396) (by decide)) (by decide) (Or.inl (by decide)) hW (fun v15 S16 hW16 => ?_)
    refine (k_popI t197_125 rfl).trans ?_
    refine (k_iinc (b := (y1 + (1 : Int32))) (ls' := [.ref 396, .int (y1 + (1 : Int32))]) t197_126 rfl rfl (by rw [zci_1]) rfl).trans ?_
    refine (k_goto t197_129 rfl).trans ?_
    exact (zk_mk (ls' := [.ref 396, .int (y1 + (1 : Int32))]) t197_93 rfl)
-- X12_begin
theorem e197 (d : Nat)  (S : z_S) (hW : z_W S)  : fV (d + 1) 197 [.ref 396] S = (if z_in (0 : Int32) 22 then (if z_in (0 : Int32) 22 then (if z_in (gI (sI (sI S 420 ((0 : Int32)).toNatClampNeg (0 : Int32)) 421 ((0 : Int32)).toNatClampNeg (0 : Int32)) 396 13) 2 then (if z_in (0 : Int32) 22 then b197_31 d (0 : Int32) (sI (sI (sI S 420 ((0 : Int32)).toNatClampNeg (0 : Int32)) 421 ((0 : Int32)).toNatClampNeg (0 : Int32)) 422 ((0 : Int32)).toNatClampNeg (gI (sI (sI S 420 ((0 : Int32)).toNatClampNeg (0 : Int32)) 421 ((0 : Int32)).toNatClampNeg (0 : Int32)) 407 ((gI (sI (sI S 420 ((0 : Int32)).toNatClampNeg (0 : Int32)) 421 ((0 : Int32)).toNatClampNeg (0 : Int32)) 396 13)).toNatClampNeg)) else none) else none) else none) else none) := by
  refine (fV_en (Nat.le_of_ble_eq_true rfl) rfl).trans ?_
  refine (k_aload_n t197_0 rfl rfl).trans ?_
  refine (k_getR t197_1 rfl hW zK_396 (by decide) (by decide) (zF_396_44 hW)).trans ?_
  refine (k_iconst t197_4 rfl zci_0).trans ?_
  refine (k_iconst t197_5 rfl zci_0).trans ?_
  refine (k_iast t197_6 rfl hW zK_420 zL_420).trans (z_ite (fun g1 => ?_) (fun _ => rfl))
  refine (k_aload_n t197_7 rfl rfl).trans ?_
  refine (k_getR t197_8 rfl hW.sI zK_396 (by decide) (by decide) (zF_396_45 hW.sI)).trans ?_
  refine (k_iconst t197_11 rfl zci_0).trans ?_
  refine (k_iconst t197_12 rfl zci_0).trans ?_
  refine (k_iast t197_13 rfl hW.sI zK_421 zL_421).trans (z_ite (fun g2 => ?_) (fun _ => rfl))
  refine (k_aload_n t197_14 rfl rfl).trans ?_
  refine (k_getR t197_15 rfl hW.sI.sI zK_396 (by decide) (by decide) (zF_396_46 hW.sI.sI)).trans ?_
  refine (k_iconst t197_18 rfl zci_0).trans ?_
  refine (k_aload_n t197_19 rfl rfl).trans ?_
  refine (k_getR t197_20 rfl hW.sI.sI zK_396 (by decide) (by decide) (zF_396_23 hW.sI.sI)).trans ?_
  refine (k_aload_n t197_23 rfl rfl).trans ?_
  refine (k_getI t197_24 rfl hW.sI.sI zK_396 (by decide) (by decide)).trans ?_
  refine (k_iald t197_27 rfl hW.sI.sI zK_407 zL_407).trans (z_ite (fun g3 => ?_) (fun _ => rfl))
  refine (k_iast t197_28 rfl hW.sI.sI zK_422 zL_422).trans (z_ite (fun g4 => ?_) (fun _ => rfl))
  refine (k_iconst t197_29 rfl zci_0).trans ?_
  refine (k_istore_n (ls' := [.ref 396, .int (0 : Int32)]) t197_30 rfl rfl).trans ?_
  exact (zk_mk (ls' := [.ref 396, .int (0 : Int32)]) t197_31 rfl)
theorem t198_0 : z_ft 198 0 = some (.iconst 2, 1, none, [], 0, 0, 0, 0) := z_ftd (by decide +kernel)
theorem t198_1 : z_ft 198 1 = some (.aload_n 0, 1, none, [], 0, 0, 0, 0) := z_ftd (by decide +kernel)
theorem t198_2 : z_ft 198 2 = some (.getfield 174, 3, none, [], 12, 53, 54, 0) := z_ftd (by decide +kernel)
theorem t198_5 : z_ft 198 5 = some (.iload_n 1, 1, none, [], 0, 0, 0, 0) := z_ftd (by decide +kernel)
theorem t198_6 : z_ft 198 6 = some (.iadd, 1, none, [], 0, 0, 0, 0) := z_ftd (by decide +kernel)
theorem t198_7 : z_ft 198 7 = some (.bipush 20, 2, none, [], 0, 0, 0, 0) := z_ftd (by decide +kernel)
theorem t198_9 : z_ft 198 9 = some (.irem, 1, none, [], 0, 0, 0, 0) := z_ftd (by decide +kernel)
theorem t198_10 : z_ft 198 10 = some (.iadd, 1, none, [], 0, 0, 0, 0) := z_ftd (by decide +kernel)
theorem t198_11 : z_ft 198 11 = some (.ireturn, 1, none, [], 0, 0, 0, 0) := z_ftd (by decide +kernel)
-- X12_slot
theorem e198 (d : Nat) (x1 : Int32) (S : z_S) (hW : z_W S)  : fI (d + 1) 198 [.ref 396, .int x1] S = some (((2 : Int32) + (((gI S 396 53) + x1) - ((gI S 396 53) + x1) / (20 : Int32) * (20 : Int32))), S) := by
  refine (fI_en (Nat.le_of_ble_eq_true rfl) rfl).trans ?_
  refine (k_iconst t198_0 rfl zci_2).trans ?_
  refine (k_aload_n t198_1 rfl rfl).trans ?_
  refine (k_getI t198_2 rfl hW zK_396 (by decide) (by decide)).trans ?_
  refine (k_iload_n t198_5 rfl rfl).trans ?_
  refine (k_iadd t198_6 rfl).trans ?_
  refine (k_bipush t198_7 rfl zcb_20).trans ?_
  refine ((k_irem t198_9 rfl).trans (if_neg (by decide))).trans ?_
  refine (k_iadd t198_10 rfl).trans ?_
  exact k_ireturn t198_11 rfl (by decide)
theorem t199_0 : z_ft 199 0 = some (.aload_n 0, 1, none, [], 0, 0, 0, 0) := z_ftd (by decide +kernel)
theorem t199_1 : z_ft 199 1 = some (.getfield 177, 3, none, [], 12, 54, 55, 0) := z_ftd (by decide +kernel)
theorem t199_4 : z_ft 199 4 = some (.bipush 20, 2, none, [], 0, 0, 0, 0) := z_ftd (by decide +kernel)
theorem t199_6 : z_ft 199 6 = some (.if_icmp .ne 26, 3, none, [], 32, 0, 0, 0) := z_ftd (by decide +kernel)
theorem t199_9 : z_ft 199 9 = some (.aload_n 0, 1, none, [], 0, 0, 0, 0) := z_ftd (by decide +kernel)
theorem t199_10 : z_ft 199 10 = some (.aload_n 0, 1, none, [], 0, 0, 0, 0) := z_ftd (by decide +kernel)
theorem t199_11 : z_ft 199 11 = some (.getfield 174, 3, none, [], 12, 53, 54, 0) := z_ftd (by decide +kernel)
theorem t199_14 : z_ft 199 14 = some (.iconst 1, 1, none, [], 0, 0, 0, 0) := z_ftd (by decide +kernel)
theorem t199_15 : z_ft 199 15 = some (.iadd, 1, none, [], 0, 0, 0, 0) := z_ftd (by decide +kernel)
theorem t199_16 : z_ft 199 16 = some (.bipush 20, 2, none, [], 0, 0, 0, 0) := z_ftd (by decide +kernel)
theorem t199_18 : z_ft 199 18 = some (.irem, 1, none, [], 0, 0, 0, 0) := z_ftd (by decide +kernel)
theorem t199_19 : z_ft 199 19 = some (.putfield 174, 3, none, [], 12, 53, 54, 0) := z_ftd (by decide +kernel)
theorem t199_22 : z_ft 199 22 = some (.aload_n 0, 1, none, [], 0, 0, 0, 0) := z_ftd (by decide +kernel)
theorem t199_23 : z_ft 199 23 = some (.dup, 1, none, [], 0, 0, 0, 0) := z_ftd (by decide +kernel)
theorem t199_24 : z_ft 199 24 = some (.getfield 177, 3, none, [], 12, 54, 55, 0) := z_ftd (by decide +kernel)
theorem t199_27 : z_ft 199 27 = some (.iconst 1, 1, none, [], 0, 0, 0, 0) := z_ftd (by decide +kernel)
theorem t199_28 : z_ft 199 28 = some (.isub, 1, none, [], 0, 0, 0, 0) := z_ftd (by decide +kernel)
theorem t199_29 : z_ft 199 29 = some (.putfield 177, 3, none, [], 12, 54, 55, 0) := z_ftd (by decide +kernel)
theorem t199_32 : z_ft 199 32 = some (.aload_n 0, 1, (some [0]), [], 0, 0, 0, 0) := z_ftd (by decide +kernel)
theorem t199_33 : z_ft 199 33 = some (.aload_n 0, 1, none, [], 0, 0, 0, 0) := z_ftd (by decide +kernel)
theorem t199_34 : z_ft 199 34 = some (.aload_n 0, 1, none, [], 0, 0, 0, 0) := z_ftd (by decide +kernel)
theorem t199_35 : z_ft 199 35 = some (.getfield 177, 3, none, [], 12, 54, 55, 0) := z_ftd (by decide +kernel)
theorem t199_38 : z_ft 199 38 = some (.invokevirtual 404, 3, none, [], 198, 0, 152, 0) := z_ftd (by decide +kernel)
theorem t199_41 : z_ft 199 41 = some (.iconst 0, 1, none, [], 0, 0, 0, 0) := z_ftd (by decide +kernel)
theorem t199_42 : z_ft 199 42 = some (.invokevirtual 407, 3, none, [], 196, 0, 153, 0) := z_ftd (by decide +kernel)
theorem t199_45 : z_ft 199 45 = some (.aload_n 0, 1, none, [], 0, 0, 0, 0) := z_ftd (by decide +kernel)
theorem t199_46 : z_ft 199 46 = some (.dup, 1, none, [], 0, 0, 0, 0) := z_ftd (by decide +kernel)
theorem t199_47 : z_ft 199 47 = some (.getfield 177, 3, none, [], 12, 54, 55, 0) := z_ftd (by decide +kernel)
theorem t199_50 : z_ft 199 50 = some (.iconst 1, 1, none, [], 0, 0, 0, 0) := z_ftd (by decide +kernel)
theorem t199_51 : z_ft 199 51 = some (.iadd, 1, none, [], 0, 0, 0, 0) := z_ftd (by decide +kernel)
theorem t199_52 : z_ft 199 52 = some (.putfield 177, 3, none, [], 12, 54, 55, 0) := z_ftd (by decide +kernel)
theorem t199_55 : z_ft 199 55 = some (.return_, 1, none, [], 0, 0, 0, 0) := z_ftd (by decide +kernel)
noncomputable def b199_32 (d : Nat)  (S : z_S) : Option z_S := zk kV z_X0 d 199 32 [.ref 396] [] S
theorem b199_32_eq (d : Nat)  (S : z_S) (hW : z_W S)  : b199_32 d  S = (zb (fI d 198 [.ref 396, .int (gI S 396 54)] S) fun v2 S3 => ((fV d 196 [.ref 396, .int v2, .int (0 : Int32)] S3).bind fun S5 => some (sI S5 396 54 ((gI S5 396 54) + (1 : Int32))))) := by
  unfold b199_32
  refine (k_aload_n t199_32 rfl rfl).trans ?_
  refine (k_aload_n t199_33 rfl rfl).trans ?_
  refine (k_aload_n t199_34 rfl rfl).trans ?_
  refine (k_getI t199_35 rfl hW zK_396 (by decide) (by decide)).trans ?_
  refine k_callI (as := [.ref 396, .int (gI S 396 54)]) (rest := [.ref 396]) t199_38 rfl rfl (by decide) rfl rfl (Nat.le_of_ble_eq_true rfl) rfl (z_rcV hW (zK_396) (by decide)) (by decide) (Or.inl (by decide)) hW (fun v2 S3 hW3 => ?_)
  refine (k_iconst t199_41 rfl zci_0).trans ?_
  refine k_callV (as := [.ref 396, .int v2, .int (0 : Int32)]) (rest := []) t199_42 rfl rfl (by decide) rfl rfl (Nat.le_of_ble_eq_true rfl) rfl (z_rcV hW3 (zK_396) (by decide)) (by decide) (by decide) hW3 (fun S5 hW5 => ?_)
  refine (k_aload_n t199_45 rfl rfl).trans ?_
  refine (k_dupR t199_46 rfl).trans ?_
  refine (k_getI t199_47 rfl hW5 zK_396 (by decide) (by decide)).trans ?_
  refine (k_iconst t199_50 rfl zci_1).trans ?_
  refine (k_iadd t199_51 rfl).trans ?_
  refine (k_putI t199_52 rfl hW5 zK_396 (by decide) (by decide) (by decide)).trans ?_
  exact k_return t199_55 rfl (by decide)
-- X12_keeps
theorem e199 (d : Nat)  (S : z_S) (hW : z_W S)  : fV (d + 1) 199 [.ref 396] S = (if ¬ (gI S 396 54) = (20 : Int32) then b199_32 d S else b199_32 d (sI (sI S 396 53 (((gI S 396 53) + (1 : Int32)) - ((gI S 396 53) + (1 : Int32)) / (20 : Int32) * (20 : Int32))) 396 54 ((gI (sI S 396 53 (((gI S 396 53) + (1 : Int32)) - ((gI S 396 53) + (1 : Int32)) / (20 : Int32) * (20 : Int32))) 396 54) - (1 : Int32)))) := by
  refine (fV_en (Nat.le_of_ble_eq_true rfl) rfl).trans ?_
  refine (k_aload_n t199_0 rfl rfl).trans ?_
  refine (k_getI t199_1 rfl hW zK_396 (by decide) (by decide)).trans ?_
  refine (k_bipush t199_4 rfl zcb_20).trans ?_
  refine (k_icmp_ne t199_6 rfl).trans (z_ite (fun g1 => ?_) (fun g1 => ?_))
  · exact (zk_mk (ls' := [.ref 396]) t199_32 rfl)
  · refine (k_aload_n t199_9 rfl rfl).trans ?_
    refine (k_aload_n t199_10 rfl rfl).trans ?_
    refine (k_getI t199_11 rfl hW zK_396 (by decide) (by decide)).trans ?_
    refine (k_iconst t199_14 rfl zci_1).trans ?_
    refine (k_iadd t199_15 rfl).trans ?_
    refine (k_bipush t199_16 rfl zcb_20).trans ?_
    refine ((k_irem t199_18 rfl).trans (if_neg (by decide))).trans ?_
    refine (k_putI t199_19 rfl hW zK_396 (by decide) (by decide) (by decide)).trans ?_
    refine (k_aload_n t199_22 rfl rfl).trans ?_
    refine (k_dupR t199_23 rfl).trans ?_
    refine (k_getI t199_24 rfl hW.sI zK_396 (by decide) (by decide)).trans ?_
    refine (k_iconst t199_27 rfl zci_1).trans ?_
    refine (k_isub t199_28 rfl).trans ?_
    refine (k_putI t199_29 rfl hW.sI zK_396 (by decide) (by decide) (by decide)).trans ?_
    exact (zk_mk (ls' := [.ref 396]) t199_32 rfl)
theorem t200_0 : z_ft 200 0 = some (.aload_n 0, 1, none, [], 0, 0, 0, 0) := z_ftd (by decide +kernel)
theorem t200_1 : z_ft 200 1 = some (.getfield 177, 3, none, [], 12, 54, 55, 0) := z_ftd (by decide +kernel)
theorem t200_4 : z_ft 200 4 = some (.ifCond .ne 17, 3, none, [], 21, 0, 0, 0) := z_ftd (by decide +kernel)
theorem t200_7 : z_ft 200 7 = some (.aload_n 0, 1, none, [], 0, 0, 0, 0) := z_ftd (by decide +kernel)
theorem t200_8 : z_ft 200 8 = some (.iconst 4, 1, none, [], 0, 0, 0, 0) := z_ftd (by decide +kernel)
theorem t200_9 : z_ft 200 9 = some (.invokevirtual 231, 3, none, [], 194, 0, 73, 0) := z_ftd (by decide +kernel)
theorem t200_12 : z_ft 200 12 = some (.ifCond .lt 7, 3, none, [], 19, 0, 0, 0) := z_ftd (by decide +kernel)
theorem t200_15 : z_ft 200 15 = some (.iconst 1, 1, none, [], 0, 0, 0, 0) := z_ftd (by decide +kernel)
theorem t200_16 : z_ft 200 16 = some (.goto 4, 3, none, [], 20, 0, 0, 0) := z_ftd (by decide +kernel)
theorem t200_19 : z_ft 200 19 = some (.iconst 0, 1, none, [], 0, 0, 0, 0) := z_ftd (by decide +kernel)
theorem t200_20 : z_ft 200 20 = some (.ireturn, 1, (some []), [], 0, 0, 0, 0) := z_ftd (by decide +kernel)
theorem t200_21 : z_ft 200 21 = some (.aload_n 0, 1, none, [], 0, 0, 0, 0) := z_ftd (by decide +kernel)
theorem t200_22 : z_ft 200 22 = some (.dup, 1, none, [], 0, 0, 0, 0) := z_ftd (by decide +kernel)
theorem t200_23 : z_ft 200 23 = some (.getfield 177, 3, none, [], 12, 54, 55, 0) := z_ftd (by decide +kernel)
theorem t200_26 : z_ft 200 26 = some (.iconst 1, 1, none, [], 0, 0, 0, 0) := z_ftd (by decide +kernel)
theorem t200_27 : z_ft 200 27 = some (.isub, 1, none, [], 0, 0, 0, 0) := z_ftd (by decide +kernel)
theorem t200_28 : z_ft 200 28 = some (.putfield 177, 3, none, [], 12, 54, 55, 0) := z_ftd (by decide +kernel)
theorem t200_31 : z_ft 200 31 = some (.aload_n 0, 1, none, [], 0, 0, 0, 0) := z_ftd (by decide +kernel)
theorem t200_32 : z_ft 200 32 = some (.iconst 0, 1, none, [], 0, 0, 0, 0) := z_ftd (by decide +kernel)
theorem t200_33 : z_ft 200 33 = some (.aload_n 0, 1, none, [], 0, 0, 0, 0) := z_ftd (by decide +kernel)
theorem t200_34 : z_ft 200 34 = some (.aload_n 0, 1, none, [], 0, 0, 0, 0) := z_ftd (by decide +kernel)
theorem t200_35 : z_ft 200 35 = some (.getfield 177, 3, none, [], 12, 54, 55, 0) := z_ftd (by decide +kernel)
theorem t200_38 : z_ft 200 38 = some (.invokevirtual 404, 3, none, [], 198, 0, 152, 0) := z_ftd (by decide +kernel)
theorem t200_41 : z_ft 200 41 = some (.invokevirtual 407, 3, none, [], 196, 0, 153, 0) := z_ftd (by decide +kernel)
theorem t200_44 : z_ft 200 44 = some (.iconst 1, 1, none, [], 0, 0, 0, 0) := z_ftd (by decide +kernel)
theorem t200_45 : z_ft 200 45 = some (.ireturn, 1, none, [], 0, 0, 0, 0) := z_ftd (by decide +kernel)
-- X12_undo
theorem e200 (d : Nat)  (S : z_S) (hW : z_W S)  : fI (d + 1) 200 [.ref 396] S = (if ¬ (gI S 396 54) = (0 : Int32) then (zb (fI d 198 [.ref 396, .int (gI (sI S 396 54 ((gI S 396 54) - (1 : Int32))) 396 54)] (sI S 396 54 ((gI S 396 54) - (1 : Int32)))) fun v2 S3 => ((fV d 196 [.ref 396, .int (0 : Int32), .int v2] S3).bind fun S5 => some ((1 : Int32), S5))) else (zb (fI d 194 [.ref 396, .int (4 : Int32)] S) fun v6 S7 => (if v6 < (0 : Int32) then some ((0 : Int32), S7) else some ((1 : Int32), S7)))) := by
  refine (fI_en (Nat.le_of_ble_eq_true rfl) rfl).trans ?_
  refine (k_aload_n t200_0 rfl rfl).trans ?_
  refine (k_getI t200_1 rfl hW zK_396 (by decide) (by decide)).trans ?_
  refine (k_if_ne t200_4 rfl).trans (z_ite (fun g1 => ?_) (fun g1 => ?_))
  · refine (k_aload_n t200_21 rfl rfl).trans ?_
    refine (k_dupR t200_22 rfl).trans ?_
    refine (k_getI t200_23 rfl hW zK_396 (by decide) (by decide)).trans ?_
    refine (k_iconst t200_26 rfl zci_1).trans ?_
    refine (k_isub t200_27 rfl).trans ?_
    refine (k_putI t200_28 rfl hW zK_396 (by decide) (by decide) (by decide)).trans ?_
    refine (k_aload_n t200_31 rfl rfl).trans ?_
    refine (k_iconst t200_32 rfl zci_0).trans ?_
    refine (k_aload_n t200_33 rfl rfl).trans ?_
    refine (k_aload_n t200_34 rfl rfl).trans ?_
    refine (k_getI t200_35 rfl hW.sI zK_396 (by decide) (by decide)).trans ?_
    refine k_callI (as := [.ref 396, .int (gI (sI S 396 54 ((gI S 396 54) - (1 : Int32))) 396 54)]) (rest := [.int (0 : Int32), .ref 396]) t200_38 rfl rfl (by decide) rfl rfl (Nat.le_of_ble_eq_true rfl) rfl (z_rcV hW.sI (zK_396) (by decide)) (by decide) (Or.inl (by decide)) hW.sI (fun v2 S3 hW3 => ?_)
    refine k_callV (as := [.ref 396, .int (0 : Int32), .int v2]) (rest := []) t200_41 rfl rfl (by decide) rfl rfl (Nat.le_of_ble_eq_true rfl) rfl (z_rcV hW3 (zK_396) (by decide)) (by decide) (by decide) hW3 (fun S5 hW5 => ?_)
    refine (k_iconst t200_44 rfl zci_1).trans ?_
    exact k_zretC t200_45 rfl (by decide) (by decide)
  · refine (k_aload_n t200_7 rfl rfl).trans ?_
    refine (k_iconst t200_8 rfl zci_4).trans ?_
    refine k_callI (as := [.ref 396, .int (4 : Int32)]) (rest := []) t200_9 rfl rfl (by decide) rfl rfl (Nat.le_of_ble_eq_true rfl) rfl (z_rcV hW (zK_396) (by decide)) (by decide) (Or.inl (by decide)) hW (fun v6 S7 hW7 => ?_)
    refine (k_if_lt t200_12 rfl).trans (z_ite (fun g8 => ?_) (fun g8 => ?_))
    · refine (k_iconst t200_19 rfl zci_0).trans ?_
      refine (zk_mk (ls' := [z_j]) t200_20 rfl).trans ?_
      exact k_zretC t200_20 rfl (by decide) (by decide)
    · refine (k_iconst t200_15 rfl zci_1).trans ?_
      refine (k_goto t200_16 rfl).trans ?_
      refine (zk_mk (ls' := [z_j]) t200_20 rfl).trans ?_
      exact k_zretC t200_20 rfl (by decide) (by decide)
theorem t201_0 : z_ft 201 0 = some (.lload_n 0, 1, none, [], 0, 0, 0, 0) := z_ftd (by decide +kernel)
theorem t201_1 : z_ft 201 1 = some (.ldc2_w 410, 3, none, [], 0, 0, 146, 1000000) := z_ftd (by decide +kernel)
theorem t201_4 : z_ft 201 4 = some (.lcmp, 1, none, [], 0, 0, 0, 0) := z_ftd (by decide +kernel)
theorem t201_5 : z_ft 201 5 = some (.ifCond .le 9, 3, none, [], 14, 0, 0, 0) := z_ftd (by decide +kernel)
theorem t201_8 : z_ft 201 8 = some (.ldc2_w 410, 3, none, [], 0, 0, 146, 1000000) := z_ftd (by decide +kernel)
theorem t201_11 : z_ft 201 11 = some (.goto 18, 3, none, [], 29, 0, 0, 0) := z_ftd (by decide +kernel)
theorem t201_14 : z_ft 201 14 = some (.lload_n 0, 1, none, [], 0, 0, 0, 0) := z_ftd (by decide +kernel)
theorem t201_15 : z_ft 201 15 = some (.ldc2_w 412, 3, none, [], 0, 0, 147, (-1000000)) := z_ftd (by decide +kernel)
theorem t201_18 : z_ft 201 18 = some (.lcmp, 1, none, [], 0, 0, 0, 0) := z_ftd (by decide +kernel)
theorem t201_19 : z_ft 201 19 = some (.ifCond .ge 9, 3, none, [], 28, 0, 0, 0) := z_ftd (by decide +kernel)
theorem t201_22 : z_ft 201 22 = some (.ldc2_w 412, 3, none, [], 0, 0, 147, (-1000000)) := z_ftd (by decide +kernel)
theorem t201_25 : z_ft 201 25 = some (.goto 4, 3, none, [], 29, 0, 0, 0) := z_ftd (by decide +kernel)
theorem t201_28 : z_ft 201 28 = some (.lload_n 0, 1, none, [], 0, 0, 0, 0) := z_ftd (by decide +kernel)
theorem t201_29 : z_ft 201 29 = some (.lreturn, 1, (some []), [], 0, 0, 0, 0) := z_ftd (by decide +kernel)
-- X12_within
theorem e201 (d : Nat) (x1 : Int64) (S : z_S) (hW : z_W S)  : fL (d + 1) 201 [.long x1] S = (if (lg_cmp x1 (1000000 : Int64)) ≤ (0 : Int32) then (if (0 : Int32) ≤ (lg_cmp x1 (-1000000 : Int64)) then some (x1, S) else some ((-1000000 : Int64), S)) else some ((1000000 : Int64), S)) := by
  refine (fL_en (Nat.le_of_ble_eq_true rfl) rfl).trans ?_
  refine (k_lload_n t201_0 rfl rfl).trans ?_
  refine (k_ldc2_w t201_1 rfl zcl_1000000).trans ?_
  refine (k_lcmp t201_4 rfl).trans ?_
  refine (k_if_le t201_5 rfl).trans (z_ite (fun g1 => ?_) (fun g1 => ?_))
  · refine (k_lload_n t201_14 rfl rfl).trans ?_
    refine (k_ldc2_w t201_15 rfl zcl_m1000000).trans ?_
    refine (k_lcmp t201_18 rfl).trans ?_
    refine (k_if_ge t201_19 rfl).trans (z_ite (fun g2 => ?_) (fun g2 => ?_))
    · refine (k_lload_n t201_28 rfl rfl).trans ?_
      refine (zk_mk (ls' := [z_j, z_j]) t201_29 rfl).trans ?_
      exact k_lreturn t201_29 rfl (by decide)
    · refine (k_ldc2_w t201_22 rfl zcl_m1000000).trans ?_
      refine (k_goto t201_25 rfl).trans ?_
      refine (zk_mk (ls' := [z_j, z_j]) t201_29 rfl).trans ?_
      exact k_lreturn t201_29 rfl (by decide)
  · refine (k_ldc2_w t201_8 rfl zcl_1000000).trans ?_
    refine (k_goto t201_11 rfl).trans ?_
    refine (zk_mk (ls' := [z_j, z_j]) t201_29 rfl).trans ?_
    exact k_lreturn t201_29 rfl (by decide)
theorem t202_0 : z_ft 202 0 = some (.lload_n 2, 1, none, [], 0, 0, 0, 0) := z_ftd (by decide +kernel)
theorem t202_1 : z_ft 202 1 = some (.lconst 0, 1, none, [], 0, 0, 0, 0) := z_ftd (by decide +kernel)
theorem t202_2 : z_ft 202 2 = some (.lcmp, 1, none, [], 0, 0, 0, 0) := z_ftd (by decide +kernel)
theorem t202_3 : z_ft 202 3 = some (.ifCond .ne 5, 3, none, [], 8, 0, 0, 0) := z_ftd (by decide +kernel)
theorem t202_6 : z_ft 202 6 = some (.lconst 0, 1, none, [], 0, 0, 0, 0) := z_ftd (by decide +kernel)
theorem t202_7 : z_ft 202 7 = some (.lreturn, 1, none, [], 0, 0, 0, 0) := z_ftd (by decide +kernel)
theorem t202_8 : z_ft 202 8 = some (.lload_n 0, 1, none, [], 0, 0, 0, 0) := z_ftd (by decide +kernel)
theorem t202_9 : z_ft 202 9 = some (.lload_n 2, 1, none, [], 0, 0, 0, 0) := z_ftd (by decide +kernel)
theorem t202_10 : z_ft 202 10 = some (.ldiv, 1, none, [], 0, 0, 0, 0) := z_ftd (by decide +kernel)
theorem t202_11 : z_ft 202 11 = some (.lstore 4, 2, none, [], 0, 0, 0, 0) := z_ftd (by decide +kernel)
theorem t202_13 : z_ft 202 13 = some (.lload_n 0, 1, none, [], 0, 0, 0, 0) := z_ftd (by decide +kernel)
theorem t202_14 : z_ft 202 14 = some (.lload_n 2, 1, none, [], 0, 0, 0, 0) := z_ftd (by decide +kernel)
theorem t202_15 : z_ft 202 15 = some (.lrem, 1, none, [], 0, 0, 0, 0) := z_ftd (by decide +kernel)
theorem t202_16 : z_ft 202 16 = some (.lconst 0, 1, none, [], 0, 0, 0, 0) := z_ftd (by decide +kernel)
theorem t202_17 : z_ft 202 17 = some (.lcmp, 1, none, [], 0, 0, 0, 0) := z_ftd (by decide +kernel)
theorem t202_18 : z_ft 202 18 = some (.ifCond .eq 35, 3, none, [], 53, 0, 0, 0) := z_ftd (by decide +kernel)
theorem t202_21 : z_ft 202 21 = some (.lload_n 0, 1, none, [], 0, 0, 0, 0) := z_ftd (by decide +kernel)
theorem t202_22 : z_ft 202 22 = some (.lconst 0, 1, none, [], 0, 0, 0, 0) := z_ftd (by decide +kernel)
theorem t202_23 : z_ft 202 23 = some (.lcmp, 1, none, [], 0, 0, 0, 0) := z_ftd (by decide +kernel)
theorem t202_24 : z_ft 202 24 = some (.ifCond .ge 7, 3, none, [], 31, 0, 0, 0) := z_ftd (by decide +kernel)
theorem t202_27 : z_ft 202 27 = some (.iconst 1, 1, none, [], 0, 0, 0, 0) := z_ftd (by decide +kernel)
theorem t202_28 : z_ft 202 28 = some (.goto 4, 3, none, [], 32, 0, 0, 0) := z_ftd (by decide +kernel)
theorem t202_31 : z_ft 202 31 = some (.iconst 0, 1, none, [], 0, 0, 0, 0) := z_ftd (by decide +kernel)
theorem t202_32 : z_ft 202 32 = some (.lload_n 2, 1, (some [2, 4]), [], 0, 0, 0, 0) := z_ftd (by decide +kernel)
theorem t202_33 : z_ft 202 33 = some (.lconst 0, 1, none, [], 0, 0, 0, 0) := z_ftd (by decide +kernel)
theorem t202_34 : z_ft 202 34 = some (.lcmp, 1, none, [], 0, 0, 0, 0) := z_ftd (by decide +kernel)
theorem t202_35 : z_ft 202 35 = some (.ifCond .ge 7, 3, none, [], 42, 0, 0, 0) := z_ftd (by decide +kernel)
theorem t202_38 : z_ft 202 38 = some (.iconst 1, 1, none, [], 0, 0, 0, 0) := z_ftd (by decide +kernel)
theorem t202_39 : z_ft 202 39 = some (.goto 4, 3, none, [], 43, 0, 0, 0) := z_ftd (by decide +kernel)
theorem t202_42 : z_ft 202 42 = some (.iconst 0, 1, none, [], 0, 0, 0, 0) := z_ftd (by decide +kernel)
theorem t202_43 : z_ft 202 43 = some (.if_icmp .eq 10, 3, (some [4]), [], 53, 0, 0, 0) := z_ftd (by decide +kernel)
theorem t202_46 : z_ft 202 46 = some (.lload 4, 2, none, [], 0, 0, 0, 0) := z_ftd (by decide +kernel)
theorem t202_48 : z_ft 202 48 = some (.lconst 1, 1, none, [], 0, 0, 0, 0) := z_ftd (by decide +kernel)
theorem t202_49 : z_ft 202 49 = some (.lsub, 1, none, [], 0, 0, 0, 0) := z_ftd (by decide +kernel)
theorem t202_50 : z_ft 202 50 = some (.goto 5, 3, none, [], 55, 0, 0, 0) := z_ftd (by decide +kernel)
theorem t202_53 : z_ft 202 53 = some (.lload 4, 2, (some [4]), [], 0, 0, 0, 0) := z_ftd (by decide +kernel)
theorem t202_55 : z_ft 202 55 = some (.lreturn, 1, (some []), [], 0, 0, 0, 0) := z_ftd (by decide +kernel)
noncomputable def b202_53 (d : Nat) (y4 : Int64) (S : z_S) : Option (Int64 × z_S) := zk kL z_X0 d 202 53 [z_j, z_j, z_j, z_j, .long y4, z_j] [] S
noncomputable def b202_32 (d : Nat) (y2 : Int64) (y4 : Int64) (s0 : Int32) (S : z_S) : Option (Int64 × z_S) := zk kL z_X0 d 202 32 [z_j, z_j, .long y2, z_j, .long y4, z_j] [.int s0] S
noncomputable def b202_43 (d : Nat) (y4 : Int64) (s0 : Int32) (s1 : Int32) (S : z_S) : Option (Int64 × z_S) := zk kL z_X0 d 202 43 [z_j, z_j, z_j, z_j, .long y4, z_j] [.int s0, .int s1] S
theorem b202_53_eq (d : Nat) (y4 : Int64) (S : z_S) (hW : z_W S)  : b202_53 d y4 S = some (y4, S) := by
  unfold b202_53
  refine (k_lload t202_53 rfl rfl).trans ?_
  refine (zk_mk (ls' := [z_j, z_j, z_j, z_j, z_j, z_j]) t202_55 rfl).trans ?_
  exact k_lreturn t202_55 rfl (by decide)
theorem b202_32_eq (d : Nat) (y2 : Int64) (y4 : Int64) (s0 : Int32) (S : z_S) (hW : z_W S)  : b202_32 d y2 y4 s0 S = (if (0 : Int32) ≤ (lg_cmp y2 (0 : Int64)) then b202_43 d y4 (0 : Int32) s0 S else b202_43 d y4 (1 : Int32) s0 S) := by
  unfold b202_32
  refine (k_lload_n t202_32 rfl rfl).trans ?_
  refine (k_lconst t202_33 rfl (z := (0 : Int64)) rfl).trans ?_
  refine (k_lcmp t202_34 rfl).trans ?_
  refine (k_if_ge t202_35 rfl).trans (z_ite (fun g6 => ?_) (fun g6 => ?_))
  · refine (k_iconst t202_42 rfl zci_0).trans ?_
    exact (zk_mk (ls' := [z_j, z_j, z_j, z_j, .long y4, z_j]) t202_43 rfl)
  · refine (k_iconst t202_38 rfl zci_1).trans ?_
    refine (k_goto t202_39 rfl).trans ?_
    exact (zk_mk (ls' := [z_j, z_j, z_j, z_j, .long y4, z_j]) t202_43 rfl)
theorem b202_43_eq (d : Nat) (y4 : Int64) (s0 : Int32) (s1 : Int32) (S : z_S) (hW : z_W S)  : b202_43 d y4 s0 s1 S = (if s1 = s0 then b202_53 d y4 S else some ((y4 - (1 : Int64)), S)) := by
  unfold b202_43
  refine (k_icmp_eq t202_43 rfl).trans (z_ite (fun g7 => ?_) (fun g7 => ?_))
  · exact (zk_mk (ls' := [z_j, z_j, z_j, z_j, .long y4, z_j]) t202_53 rfl)
  · refine (k_lload t202_46 rfl rfl).trans ?_
    refine (k_lconst t202_48 rfl (z := (1 : Int64)) rfl).trans ?_
    refine (k_lsub t202_49 rfl).trans ?_
    refine (k_goto t202_50 rfl).trans ?_
    refine (zk_mk (ls' := [z_j, z_j, z_j, z_j, z_j, z_j]) t202_55 rfl).trans ?_
    exact k_lreturn t202_55 rfl (by decide)
-- X12_floor
theorem e202 (d : Nat) (x1 : Int64) (x2 : Int64) (S : z_S) (hW : z_W S)  : fL (d + 1) 202 [.long x1, .long x2] S = (if ¬ (lg_cmp x2 (0 : Int64)) = (0 : Int32) then (if x2 = 0 then none else (if x2 = 0 then none else (if (lg_cmp (x1 - x1 / x2 * x2) (0 : Int64)) = (0 : Int32) then b202_53 d (x1 / x2) S else (if (0 : Int32) ≤ (lg_cmp x1 (0 : Int64)) then b202_32 d x2 (x1 / x2) (0 : Int32) S else b202_32 d x2 (x1 / x2) (1 : Int32) S)))) else some ((0 : Int64), S)) := by
  refine (fL_en (Nat.le_of_ble_eq_true rfl) rfl).trans ?_
  refine (k_lload_n t202_0 rfl rfl).trans ?_
  refine (k_lconst t202_1 rfl (z := (0 : Int64)) rfl).trans ?_
  refine (k_lcmp t202_2 rfl).trans ?_
  refine (k_if_ne t202_3 rfl).trans (z_ite (fun g1 => ?_) (fun g1 => ?_))
  · refine (k_lload_n t202_8 rfl rfl).trans ?_
    refine (k_lload_n t202_9 rfl rfl).trans ?_
    refine (k_ldiv t202_10 rfl).trans (z_ite (fun g2 => rfl) (fun g2 => ?_))
    refine (k_lstore (ls' := [.long x1, z_j, .long x2, z_j, .long (x1 / x2), z_j]) t202_11 rfl rfl).trans ?_
    refine (k_lload_n t202_13 rfl rfl).trans ?_
    refine (k_lload_n t202_14 rfl rfl).trans ?_
    refine (k_lrem t202_15 rfl).trans (z_ite (fun g3 => rfl) (fun g3 => ?_))
    refine (k_lconst t202_16 rfl (z := (0 : Int64)) rfl).trans ?_
    refine (k_lcmp t202_17 rfl).trans ?_
    refine (k_if_eq t202_18 rfl).trans (z_ite (fun g4 => ?_) (fun g4 => ?_))
    · exact (zk_mk (ls' := [z_j, z_j, z_j, z_j, .long (x1 / x2), z_j]) t202_53 rfl)
    · refine (k_lload_n t202_21 rfl rfl).trans ?_
      refine (k_lconst t202_22 rfl (z := (0 : Int64)) rfl).trans ?_
      refine (k_lcmp t202_23 rfl).trans ?_
      refine (k_if_ge t202_24 rfl).trans (z_ite (fun g5 => ?_) (fun g5 => ?_))
      · refine (k_iconst t202_31 rfl zci_0).trans ?_
        exact (zk_mk (ls' := [z_j, z_j, .long x2, z_j, .long (x1 / x2), z_j]) t202_32 rfl)
      · refine (k_iconst t202_27 rfl zci_1).trans ?_
        refine (k_goto t202_28 rfl).trans ?_
        exact (zk_mk (ls' := [z_j, z_j, .long x2, z_j, .long (x1 / x2), z_j]) t202_32 rfl)
  · refine (k_lconst t202_6 rfl (z := (0 : Int64)) rfl).trans ?_
    exact k_lreturn t202_7 rfl (by decide)
theorem t203_0 : z_ft 203 0 = some (.iload_n 0, 1, none, [], 0, 0, 0, 0) := z_ftd (by decide +kernel)
theorem t203_1 : z_ft 203 1 = some (.tableswitch 176 31 41 #[59, 66, 73, 80, 89, 112, 124, 136, 148, 160, 172], 59, none, [60, 67, 74, 81, 90, 113, 125, 137, 149, 161, 173], 177, 0, 0, 0) := z_ftd (by decide +kernel)
theorem t203_60 : z_ft 203 60 = some (.lload_n 1, 1, none, [], 0, 0, 0, 0) := z_ftd (by decide +kernel)
theorem t203_61 : z_ft 203 61 = some (.lload_n 3, 1, none, [], 0, 0, 0, 0) := z_ftd (by decide +kernel)
theorem t203_62 : z_ft 203 62 = some (.ladd, 1, none, [], 0, 0, 0, 0) := z_ftd (by decide +kernel)
theorem t203_63 : z_ft 203 63 = some (.invokestatic 414, 3, none, [], 201, 0, 145, 0) := z_ftd (by decide +kernel)
theorem t203_66 : z_ft 203 66 = some (.lreturn, 1, none, [], 0, 0, 0, 0) := z_ftd (by decide +kernel)
theorem t203_67 : z_ft 203 67 = some (.lload_n 1, 1, none, [], 0, 0, 0, 0) := z_ftd (by decide +kernel)
theorem t203_68 : z_ft 203 68 = some (.lload_n 3, 1, none, [], 0, 0, 0, 0) := z_ftd (by decide +kernel)
theorem t203_69 : z_ft 203 69 = some (.lsub, 1, none, [], 0, 0, 0, 0) := z_ftd (by decide +kernel)
theorem t203_70 : z_ft 203 70 = some (.invokestatic 414, 3, none, [], 201, 0, 145, 0) := z_ftd (by decide +kernel)
theorem t203_73 : z_ft 203 73 = some (.lreturn, 1, none, [], 0, 0, 0, 0) := z_ftd (by decide +kernel)
theorem t203_74 : z_ft 203 74 = some (.lload_n 1, 1, none, [], 0, 0, 0, 0) := z_ftd (by decide +kernel)
theorem t203_75 : z_ft 203 75 = some (.lload_n 3, 1, none, [], 0, 0, 0, 0) := z_ftd (by decide +kernel)
theorem t203_76 : z_ft 203 76 = some (.lmul, 1, none, [], 0, 0, 0, 0) := z_ftd (by decide +kernel)
theorem t203_77 : z_ft 203 77 = some (.invokestatic 414, 3, none, [], 201, 0, 145, 0) := z_ftd (by decide +kernel)
theorem t203_80 : z_ft 203 80 = some (.lreturn, 1, none, [], 0, 0, 0, 0) := z_ftd (by decide +kernel)
theorem t203_81 : z_ft 203 81 = some (.lload_n 1, 1, none, [], 0, 0, 0, 0) := z_ftd (by decide +kernel)
theorem t203_82 : z_ft 203 82 = some (.lload_n 3, 1, none, [], 0, 0, 0, 0) := z_ftd (by decide +kernel)
theorem t203_83 : z_ft 203 83 = some (.invokestatic 418, 3, none, [], 202, 0, 148, 0) := z_ftd (by decide +kernel)
theorem t203_86 : z_ft 203 86 = some (.invokestatic 414, 3, none, [], 201, 0, 145, 0) := z_ftd (by decide +kernel)
theorem t203_89 : z_ft 203 89 = some (.lreturn, 1, none, [], 0, 0, 0, 0) := z_ftd (by decide +kernel)
theorem t203_90 : z_ft 203 90 = some (.lload_n 3, 1, none, [], 0, 0, 0, 0) := z_ftd (by decide +kernel)
theorem t203_91 : z_ft 203 91 = some (.lconst 0, 1, none, [], 0, 0, 0, 0) := z_ftd (by decide +kernel)
theorem t203_92 : z_ft 203 92 = some (.lcmp, 1, none, [], 0, 0, 0, 0) := z_ftd (by decide +kernel)
theorem t203_93 : z_ft 203 93 = some (.ifCond .ne 7, 3, none, [], 100, 0, 0, 0) := z_ftd (by decide +kernel)
theorem t203_96 : z_ft 203 96 = some (.lconst 0, 1, none, [], 0, 0, 0, 0) := z_ftd (by decide +kernel)
theorem t203_97 : z_ft 203 97 = some (.goto 15, 3, none, [], 112, 0, 0, 0) := z_ftd (by decide +kernel)
theorem t203_100 : z_ft 203 100 = some (.lload_n 1, 1, none, [], 0, 0, 0, 0) := z_ftd (by decide +kernel)
theorem t203_101 : z_ft 203 101 = some (.lload_n 3, 1, none, [], 0, 0, 0, 0) := z_ftd (by decide +kernel)
theorem t203_102 : z_ft 203 102 = some (.lload_n 1, 1, none, [], 0, 0, 0, 0) := z_ftd (by decide +kernel)
theorem t203_103 : z_ft 203 103 = some (.lload_n 3, 1, none, [], 0, 0, 0, 0) := z_ftd (by decide +kernel)
theorem t203_104 : z_ft 203 104 = some (.invokestatic 418, 3, none, [], 202, 0, 148, 0) := z_ftd (by decide +kernel)
theorem t203_107 : z_ft 203 107 = some (.lmul, 1, none, [], 0, 0, 0, 0) := z_ftd (by decide +kernel)
theorem t203_108 : z_ft 203 108 = some (.lsub, 1, none, [], 0, 0, 0, 0) := z_ftd (by decide +kernel)
theorem t203_109 : z_ft 203 109 = some (.invokestatic 414, 3, none, [], 201, 0, 145, 0) := z_ftd (by decide +kernel)
theorem t203_112 : z_ft 203 112 = some (.lreturn, 1, (some []), [], 0, 0, 0, 0) := z_ftd (by decide +kernel)
theorem t203_113 : z_ft 203 113 = some (.lload_n 1, 1, none, [], 0, 0, 0, 0) := z_ftd (by decide +kernel)
theorem t203_114 : z_ft 203 114 = some (.lload_n 3, 1, none, [], 0, 0, 0, 0) := z_ftd (by decide +kernel)
theorem t203_115 : z_ft 203 115 = some (.lcmp, 1, none, [], 0, 0, 0, 0) := z_ftd (by decide +kernel)
theorem t203_116 : z_ft 203 116 = some (.ifCond .ge 7, 3, none, [], 123, 0, 0, 0) := z_ftd (by decide +kernel)
theorem t203_119 : z_ft 203 119 = some (.lload_n 1, 1, none, [], 0, 0, 0, 0) := z_ftd (by decide +kernel)
theorem t203_120 : z_ft 203 120 = some (.goto 4, 3, none, [], 124, 0, 0, 0) := z_ftd (by decide +kernel)
theorem t203_123 : z_ft 203 123 = some (.lload_n 3, 1, none, [], 0, 0, 0, 0) := z_ftd (by decide +kernel)
theorem t203_124 : z_ft 203 124 = some (.lreturn, 1, (some []), [], 0, 0, 0, 0) := z_ftd (by decide +kernel)
theorem t203_125 : z_ft 203 125 = some (.lload_n 1, 1, none, [], 0, 0, 0, 0) := z_ftd (by decide +kernel)
theorem t203_126 : z_ft 203 126 = some (.lload_n 3, 1, none, [], 0, 0, 0, 0) := z_ftd (by decide +kernel)
theorem t203_127 : z_ft 203 127 = some (.lcmp, 1, none, [], 0, 0, 0, 0) := z_ftd (by decide +kernel)
theorem t203_128 : z_ft 203 128 = some (.ifCond .le 7, 3, none, [], 135, 0, 0, 0) := z_ftd (by decide +kernel)
theorem t203_131 : z_ft 203 131 = some (.lload_n 1, 1, none, [], 0, 0, 0, 0) := z_ftd (by decide +kernel)
theorem t203_132 : z_ft 203 132 = some (.goto 4, 3, none, [], 136, 0, 0, 0) := z_ftd (by decide +kernel)
theorem t203_135 : z_ft 203 135 = some (.lload_n 3, 1, none, [], 0, 0, 0, 0) := z_ftd (by decide +kernel)
theorem t203_136 : z_ft 203 136 = some (.lreturn, 1, (some []), [], 0, 0, 0, 0) := z_ftd (by decide +kernel)
theorem t203_137 : z_ft 203 137 = some (.lload_n 1, 1, none, [], 0, 0, 0, 0) := z_ftd (by decide +kernel)
theorem t203_138 : z_ft 203 138 = some (.lload_n 3, 1, none, [], 0, 0, 0, 0) := z_ftd (by decide +kernel)
theorem t203_139 : z_ft 203 139 = some (.lcmp, 1, none, [], 0, 0, 0, 0) := z_ftd (by decide +kernel)
theorem t203_140 : z_ft 203 140 = some (.ifCond .ge 7, 3, none, [], 147, 0, 0, 0) := z_ftd (by decide +kernel)
theorem t203_143 : z_ft 203 143 = some (.lconst 1, 1, none, [], 0, 0, 0, 0) := z_ftd (by decide +kernel)
theorem t203_144 : z_ft 203 144 = some (.goto 4, 3, none, [], 148, 0, 0, 0) := z_ftd (by decide +kernel)
theorem t203_147 : z_ft 203 147 = some (.lconst 0, 1, none, [], 0, 0, 0, 0) := z_ftd (by decide +kernel)
theorem t203_148 : z_ft 203 148 = some (.lreturn, 1, (some []), [], 0, 0, 0, 0) := z_ftd (by decide +kernel)
theorem t203_149 : z_ft 203 149 = some (.lload_n 1, 1, none, [], 0, 0, 0, 0) := z_ftd (by decide +kernel)
theorem t203_150 : z_ft 203 150 = some (.lload_n 3, 1, none, [], 0, 0, 0, 0) := z_ftd (by decide +kernel)
theorem t203_151 : z_ft 203 151 = some (.lcmp, 1, none, [], 0, 0, 0, 0) := z_ftd (by decide +kernel)
theorem t203_152 : z_ft 203 152 = some (.ifCond .le 7, 3, none, [], 159, 0, 0, 0) := z_ftd (by decide +kernel)
theorem t203_155 : z_ft 203 155 = some (.lconst 1, 1, none, [], 0, 0, 0, 0) := z_ftd (by decide +kernel)
theorem t203_156 : z_ft 203 156 = some (.goto 4, 3, none, [], 160, 0, 0, 0) := z_ftd (by decide +kernel)
theorem t203_159 : z_ft 203 159 = some (.lconst 0, 1, none, [], 0, 0, 0, 0) := z_ftd (by decide +kernel)
theorem t203_160 : z_ft 203 160 = some (.lreturn, 1, (some []), [], 0, 0, 0, 0) := z_ftd (by decide +kernel)
theorem t203_161 : z_ft 203 161 = some (.lload_n 1, 1, none, [], 0, 0, 0, 0) := z_ftd (by decide +kernel)
theorem t203_162 : z_ft 203 162 = some (.lload_n 3, 1, none, [], 0, 0, 0, 0) := z_ftd (by decide +kernel)
theorem t203_163 : z_ft 203 163 = some (.lcmp, 1, none, [], 0, 0, 0, 0) := z_ftd (by decide +kernel)
theorem t203_164 : z_ft 203 164 = some (.ifCond .ne 7, 3, none, [], 171, 0, 0, 0) := z_ftd (by decide +kernel)
theorem t203_167 : z_ft 203 167 = some (.lconst 1, 1, none, [], 0, 0, 0, 0) := z_ftd (by decide +kernel)
theorem t203_168 : z_ft 203 168 = some (.goto 4, 3, none, [], 172, 0, 0, 0) := z_ftd (by decide +kernel)
theorem t203_171 : z_ft 203 171 = some (.lconst 0, 1, none, [], 0, 0, 0, 0) := z_ftd (by decide +kernel)
theorem t203_172 : z_ft 203 172 = some (.lreturn, 1, (some []), [], 0, 0, 0, 0) := z_ftd (by decide +kernel)
theorem t203_173 : z_ft 203 173 = some (.lload_n 1, 1, none, [], 0, 0, 0, 0) := z_ftd (by decide +kernel)
theorem t203_174 : z_ft 203 174 = some (.lload_n 3, 1, none, [], 0, 0, 0, 0) := z_ftd (by decide +kernel)
theorem t203_175 : z_ft 203 175 = some (.land, 1, none, [], 0, 0, 0, 0) := z_ftd (by decide +kernel)
theorem t203_176 : z_ft 203 176 = some (.lreturn, 1, none, [], 0, 0, 0, 0) := z_ftd (by decide +kernel)
theorem t203_177 : z_ft 203 177 = some (.lload_n 1, 1, none, [], 0, 0, 0, 0) := z_ftd (by decide +kernel)
theorem t203_178 : z_ft 203 178 = some (.lload_n 3, 1, none, [], 0, 0, 0, 0) := z_ftd (by decide +kernel)
theorem t203_179 : z_ft 203 179 = some (.lor, 1, none, [], 0, 0, 0, 0) := z_ftd (by decide +kernel)
theorem t203_180 : z_ft 203 180 = some (.lreturn, 1, none, [], 0, 0, 0, 0) := z_ftd (by decide +kernel)
-- X12_two
theorem e203 (d : Nat) (x1 : Int32) (x2 : Int64) (x3 : Int64) (S : z_S) (hW : z_W S)  : fL (d + 1) 203 [.int x1, .long x2, .long x3] S = (if x1 = (31 : Int32) then (zb (fL d 201 [.long (x2 + x3)] S) fun v2 S3 => some (v2, S3)) else (if x1 = (32 : Int32) then (zb (fL d 201 [.long (x2 - x3)] S) fun v5 S6 => some (v5, S6)) else (if x1 = (33 : Int32) then (zb (fL d 201 [.long (x2 * x3)] S) fun v8 S9 => some (v8, S9)) else (if x1 = (34 : Int32) then (zb (fL d 202 [.long x2, .long x3] S) fun v11 S12 => (zb (fL d 201 [.long v11] S12) fun v13 S14 => some (v13, S14))) else (if x1 = (35 : Int32) then (if ¬ (lg_cmp x3 (0 : Int64)) = (0 : Int32) then (zb (fL d 202 [.long x2, .long x3] S) fun v17 S18 => (zb (fL d 201 [.long (x2 - (x3 * v17))] S18) fun v19 S20 => some (v19, S20))) else some ((0 : Int64), S)) else (if x1 = (36 : Int32) then (if (0 : Int32) ≤ (lg_cmp x2 x3) then some (x3, S) else some (x2, S)) else (if x1 = (37 : Int32) then (if (lg_cmp x2 x3) ≤ (0 : Int32) then some (x3, S) else some (x2, S)) else (if x1 = (38 : Int32) then (if (0 : Int32) ≤ (lg_cmp x2 x3) then some ((0 : Int64), S) else some ((1 : Int64), S)) else (if x1 = (39 : Int32) then (if (lg_cmp x2 x3) ≤ (0 : Int32) then some ((0 : Int64), S) else some ((1 : Int64), S)) else (if x1 = (40 : Int32) then (if ¬ (lg_cmp x2 x3) = (0 : Int32) then some ((0 : Int64), S) else some ((1 : Int64), S)) else (if x1 = (41 : Int32) then some ((x2 &&& x3), S) else some ((x2 ||| x3), S)))))))))))) := by
  refine (fL_en (Nat.le_of_ble_eq_true rfl) rfl).trans ?_
  refine (k_iload_n t203_0 rfl rfl).trans ?_
  refine (k_switch t203_1 rfl).trans ?_
  refine (zk_swC (n := (31 : Int32)) (lo' := 32) zci_31 rfl).trans (z_ite (fun g1 => ?_) (fun g1 => ?_))
  · refine (k_lload_n t203_60 rfl rfl).trans ?_
    refine (k_lload_n t203_61 rfl rfl).trans ?_
    refine (k_ladd t203_62 rfl).trans ?_
    refine k_callL (as := [.long (x2 + x3)]) (rest := []) t203_63 rfl rfl (by decide) rfl rfl (Nat.le_of_ble_eq_true rfl) rfl (z_rcS (by decide)) (by decide) (by decide) hW (fun v2 S3 hW3 => ?_)
    exact k_lreturn t203_66 rfl (by decide)
  refine (zk_swC (n := (32 : Int32)) (lo' := 33) zci_32 rfl).trans (z_ite (fun g4 => ?_) (fun g4 => ?_))
  · refine (k_lload_n t203_67 rfl rfl).trans ?_
    refine (k_lload_n t203_68 rfl rfl).trans ?_
    refine (k_lsub t203_69 rfl).trans ?_
    refine k_callL (as := [.long (x2 - x3)]) (rest := []) t203_70 rfl rfl (by decide) rfl rfl (Nat.le_of_ble_eq_true rfl) rfl (z_rcS (by decide)) (by decide) (by decide) hW (fun v5 S6 hW6 => ?_)
    exact k_lreturn t203_73 rfl (by decide)
  refine (zk_swC (n := (33 : Int32)) (lo' := 34) zci_33 rfl).trans (z_ite (fun g7 => ?_) (fun g7 => ?_))
  · refine (k_lload_n t203_74 rfl rfl).trans ?_
    refine (k_lload_n t203_75 rfl rfl).trans ?_
    refine (k_lmul t203_76 rfl).trans ?_
    refine k_callL (as := [.long (x2 * x3)]) (rest := []) t203_77 rfl rfl (by decide) rfl rfl (Nat.le_of_ble_eq_true rfl) rfl (z_rcS (by decide)) (by decide) (by decide) hW (fun v8 S9 hW9 => ?_)
    exact k_lreturn t203_80 rfl (by decide)
  refine (zk_swC (n := (34 : Int32)) (lo' := 35) zci_34 rfl).trans (z_ite (fun g10 => ?_) (fun g10 => ?_))
  · refine (k_lload_n t203_81 rfl rfl).trans ?_
    refine (k_lload_n t203_82 rfl rfl).trans ?_
    refine k_callL (as := [.long x2, .long x3]) (rest := []) t203_83 rfl rfl (by decide) rfl rfl (Nat.le_of_ble_eq_true rfl) rfl (z_rcS (by decide)) (by decide) (by decide) hW (fun v11 S12 hW12 => ?_)
    refine k_callL (as := [.long v11]) (rest := []) t203_86 rfl rfl (by decide) rfl rfl (Nat.le_of_ble_eq_true rfl) rfl (z_rcS (by decide)) (by decide) (by decide) hW12 (fun v13 S14 hW14 => ?_)
    exact k_lreturn t203_89 rfl (by decide)
  refine (zk_swC (n := (35 : Int32)) (lo' := 36) zci_35 rfl).trans (z_ite (fun g15 => ?_) (fun g15 => ?_))
  · refine (k_lload_n t203_90 rfl rfl).trans ?_
    refine (k_lconst t203_91 rfl (z := (0 : Int64)) rfl).trans ?_
    refine (k_lcmp t203_92 rfl).trans ?_
    refine (k_if_ne t203_93 rfl).trans (z_ite (fun g16 => ?_) (fun g16 => ?_))
    · refine (k_lload_n t203_100 rfl rfl).trans ?_
      refine (k_lload_n t203_101 rfl rfl).trans ?_
      refine (k_lload_n t203_102 rfl rfl).trans ?_
      refine (k_lload_n t203_103 rfl rfl).trans ?_
      refine k_callL (as := [.long x2, .long x3]) (rest := [.long x3, .long x2]) t203_104 rfl rfl (by decide) rfl rfl (Nat.le_of_ble_eq_true rfl) rfl (z_rcS (by decide)) (by decide) (by decide) hW (fun v17 S18 hW18 => ?_)
      refine (k_lmul t203_107 rfl).trans ?_
      refine (k_lsub t203_108 rfl).trans ?_
      refine k_callL (as := [.long (x2 - (x3 * v17))]) (rest := []) t203_109 rfl rfl (by decide) rfl rfl (Nat.le_of_ble_eq_true rfl) rfl (z_rcS (by decide)) (by decide) (by decide) hW18 (fun v19 S20 hW20 => ?_)
      refine (zk_mk (ls' := [z_j, z_j, z_j, z_j, z_j]) t203_112 rfl).trans ?_
      exact k_lreturn t203_112 rfl (by decide)
    · refine (k_lconst t203_96 rfl (z := (0 : Int64)) rfl).trans ?_
      refine (k_goto t203_97 rfl).trans ?_
      refine (zk_mk (ls' := [z_j, z_j, z_j, z_j, z_j]) t203_112 rfl).trans ?_
      exact k_lreturn t203_112 rfl (by decide)
  refine (zk_swC (n := (36 : Int32)) (lo' := 37) zci_36 rfl).trans (z_ite (fun g21 => ?_) (fun g21 => ?_))
  · refine (k_lload_n t203_113 rfl rfl).trans ?_
    refine (k_lload_n t203_114 rfl rfl).trans ?_
    refine (k_lcmp t203_115 rfl).trans ?_
    refine (k_if_ge t203_116 rfl).trans (z_ite (fun g22 => ?_) (fun g22 => ?_))
    · refine (k_lload_n t203_123 rfl rfl).trans ?_
      refine (zk_mk (ls' := [z_j, z_j, z_j, z_j, z_j]) t203_124 rfl).trans ?_
      exact k_lreturn t203_124 rfl (by decide)
    · refine (k_lload_n t203_119 rfl rfl).trans ?_
      refine (k_goto t203_120 rfl).trans ?_
      refine (zk_mk (ls' := [z_j, z_j, z_j, z_j, z_j]) t203_124 rfl).trans ?_
      exact k_lreturn t203_124 rfl (by decide)
  refine (zk_swC (n := (37 : Int32)) (lo' := 38) zci_37 rfl).trans (z_ite (fun g23 => ?_) (fun g23 => ?_))
  · refine (k_lload_n t203_125 rfl rfl).trans ?_
    refine (k_lload_n t203_126 rfl rfl).trans ?_
    refine (k_lcmp t203_127 rfl).trans ?_
    refine (k_if_le t203_128 rfl).trans (z_ite (fun g24 => ?_) (fun g24 => ?_))
    · refine (k_lload_n t203_135 rfl rfl).trans ?_
      refine (zk_mk (ls' := [z_j, z_j, z_j, z_j, z_j]) t203_136 rfl).trans ?_
      exact k_lreturn t203_136 rfl (by decide)
    · refine (k_lload_n t203_131 rfl rfl).trans ?_
      refine (k_goto t203_132 rfl).trans ?_
      refine (zk_mk (ls' := [z_j, z_j, z_j, z_j, z_j]) t203_136 rfl).trans ?_
      exact k_lreturn t203_136 rfl (by decide)
  refine (zk_swC (n := (38 : Int32)) (lo' := 39) zci_38 rfl).trans (z_ite (fun g25 => ?_) (fun g25 => ?_))
  · refine (k_lload_n t203_137 rfl rfl).trans ?_
    refine (k_lload_n t203_138 rfl rfl).trans ?_
    refine (k_lcmp t203_139 rfl).trans ?_
    refine (k_if_ge t203_140 rfl).trans (z_ite (fun g26 => ?_) (fun g26 => ?_))
    · refine (k_lconst t203_147 rfl (z := (0 : Int64)) rfl).trans ?_
      refine (zk_mk (ls' := [z_j, z_j, z_j, z_j, z_j]) t203_148 rfl).trans ?_
      exact k_lreturn t203_148 rfl (by decide)
    · refine (k_lconst t203_143 rfl (z := (1 : Int64)) rfl).trans ?_
      refine (k_goto t203_144 rfl).trans ?_
      refine (zk_mk (ls' := [z_j, z_j, z_j, z_j, z_j]) t203_148 rfl).trans ?_
      exact k_lreturn t203_148 rfl (by decide)
  refine (zk_swC (n := (39 : Int32)) (lo' := 40) zci_39 rfl).trans (z_ite (fun g27 => ?_) (fun g27 => ?_))
  · refine (k_lload_n t203_149 rfl rfl).trans ?_
    refine (k_lload_n t203_150 rfl rfl).trans ?_
    refine (k_lcmp t203_151 rfl).trans ?_
    refine (k_if_le t203_152 rfl).trans (z_ite (fun g28 => ?_) (fun g28 => ?_))
    · refine (k_lconst t203_159 rfl (z := (0 : Int64)) rfl).trans ?_
      refine (zk_mk (ls' := [z_j, z_j, z_j, z_j, z_j]) t203_160 rfl).trans ?_
      exact k_lreturn t203_160 rfl (by decide)
    · refine (k_lconst t203_155 rfl (z := (1 : Int64)) rfl).trans ?_
      refine (k_goto t203_156 rfl).trans ?_
      refine (zk_mk (ls' := [z_j, z_j, z_j, z_j, z_j]) t203_160 rfl).trans ?_
      exact k_lreturn t203_160 rfl (by decide)
  refine (zk_swC (n := (40 : Int32)) (lo' := 41) zci_40 rfl).trans (z_ite (fun g29 => ?_) (fun g29 => ?_))
  · refine (k_lload_n t203_161 rfl rfl).trans ?_
    refine (k_lload_n t203_162 rfl rfl).trans ?_
    refine (k_lcmp t203_163 rfl).trans ?_
    refine (k_if_ne t203_164 rfl).trans (z_ite (fun g30 => ?_) (fun g30 => ?_))
    · refine (k_lconst t203_171 rfl (z := (0 : Int64)) rfl).trans ?_
      refine (zk_mk (ls' := [z_j, z_j, z_j, z_j, z_j]) t203_172 rfl).trans ?_
      exact k_lreturn t203_172 rfl (by decide)
    · refine (k_lconst t203_167 rfl (z := (1 : Int64)) rfl).trans ?_
      refine (k_goto t203_168 rfl).trans ?_
      refine (zk_mk (ls' := [z_j, z_j, z_j, z_j, z_j]) t203_172 rfl).trans ?_
      exact k_lreturn t203_172 rfl (by decide)
  refine (zk_swC (n := (41 : Int32)) (lo' := 42) zci_41 rfl).trans (z_ite (fun g31 => ?_) (fun g31 => ?_))
  · refine (k_lload_n t203_173 rfl rfl).trans ?_
    refine (k_lload_n t203_174 rfl rfl).trans ?_
    refine (k_land t203_175 rfl).trans ?_
    exact k_lreturn t203_176 rfl (by decide)
  refine (k_lload_n t203_177 rfl rfl).trans ?_
  refine (k_lload_n t203_178 rfl rfl).trans ?_
  refine (k_lor t203_179 rfl).trans ?_
  exact k_lreturn t203_180 rfl (by decide)
theorem t204_0 : z_ft 204 0 = some (.iconst 0, 1, none, [], 0, 0, 0, 0) := z_ftd (by decide +kernel)
theorem t204_1 : z_ft 204 1 = some (.istore_n 2, 1, none, [], 0, 0, 0, 0) := z_ftd (by decide +kernel)
theorem t204_2 : z_ft 204 2 = some (.sipush 1600, 3, none, [], 0, 0, 0, 0) := z_ftd (by decide +kernel)
theorem t204_5 : z_ft 204 5 = some (.aload_n 0, 1, none, [], 0, 0, 0, 0) := z_ftd (by decide +kernel)
theorem t204_6 : z_ft 204 6 = some (.getfield 51, 3, none, [], 12, 13, 14, 0) := z_ftd (by decide +kernel)
theorem t204_9 : z_ft 204 9 = some (.imul, 1, none, [], 0, 0, 0, 0) := z_ftd (by decide +kernel)
theorem t204_10 : z_ft 204 10 = some (.aload_n 0, 1, none, [], 0, 0, 0, 0) := z_ftd (by decide +kernel)
theorem t204_11 : z_ft 204 11 = some (.getfield 84, 3, none, [], 12, 24, 25, 0) := z_ftd (by decide +kernel)
theorem t204_14 : z_ft 204 14 = some (.iconst 3, 1, none, [], 0, 0, 0, 0) := z_ftd (by decide +kernel)
theorem t204_15 : z_ft 204 15 = some (.aload_n 0, 1, none, [], 0, 0, 0, 0) := z_ftd (by decide +kernel)
theorem t204_16 : z_ft 204 16 = some (.getfield 51, 3, none, [], 12, 13, 14, 0) := z_ftd (by decide +kernel)
theorem t204_19 : z_ft 204 19 = some (.imul, 1, none, [], 0, 0, 0, 0) := z_ftd (by decide +kernel)
theorem t204_20 : z_ft 204 20 = some (.iload_n 1, 1, none, [], 0, 0, 0, 0) := z_ftd (by decide +kernel)
theorem t204_21 : z_ft 204 21 = some (.iadd, 1, none, [], 0, 0, 0, 0) := z_ftd (by decide +kernel)
theorem t204_22 : z_ft 204 22 = some (.iaload, 1, none, [], 0, 0, 0, 0) := z_ftd (by decide +kernel)
theorem t204_23 : z_ft 204 23 = some (.iadd, 1, none, [], 0, 0, 0, 0) := z_ftd (by decide +kernel)
theorem t204_24 : z_ft 204 24 = some (.istore_n 3, 1, none, [], 0, 0, 0, 0) := z_ftd (by decide +kernel)
theorem t204_25 : z_ft 204 25 = some (.iload_n 3, 1, (some [0, 1, 2, 3]), [], 0, 0, 0, 0) := z_ftd (by decide +kernel)
theorem t204_26 : z_ft 204 26 = some (.sipush 1600, 3, none, [], 0, 0, 0, 0) := z_ftd (by decide +kernel)
theorem t204_29 : z_ft 204 29 = some (.aload_n 0, 1, none, [], 0, 0, 0, 0) := z_ftd (by decide +kernel)
theorem t204_30 : z_ft 204 30 = some (.getfield 51, 3, none, [], 12, 13, 14, 0) := z_ftd (by decide +kernel)
theorem t204_33 : z_ft 204 33 = some (.imul, 1, none, [], 0, 0, 0, 0) := z_ftd (by decide +kernel)
theorem t204_34 : z_ft 204 34 = some (.aload_n 0, 1, none, [], 0, 0, 0, 0) := z_ftd (by decide +kernel)
theorem t204_35 : z_ft 204 35 = some (.getfield 87, 3, none, [], 12, 25, 26, 0) := z_ftd (by decide +kernel)
theorem t204_38 : z_ft 204 38 = some (.iconst 3, 1, none, [], 0, 0, 0, 0) := z_ftd (by decide +kernel)
theorem t204_39 : z_ft 204 39 = some (.aload_n 0, 1, none, [], 0, 0, 0, 0) := z_ftd (by decide +kernel)
theorem t204_40 : z_ft 204 40 = some (.getfield 51, 3, none, [], 12, 13, 14, 0) := z_ftd (by decide +kernel)
theorem t204_43 : z_ft 204 43 = some (.imul, 1, none, [], 0, 0, 0, 0) := z_ftd (by decide +kernel)
theorem t204_44 : z_ft 204 44 = some (.iload_n 1, 1, none, [], 0, 0, 0, 0) := z_ftd (by decide +kernel)
theorem t204_45 : z_ft 204 45 = some (.iadd, 1, none, [], 0, 0, 0, 0) := z_ftd (by decide +kernel)
theorem t204_46 : z_ft 204 46 = some (.iaload, 1, none, [], 0, 0, 0, 0) := z_ftd (by decide +kernel)
theorem t204_47 : z_ft 204 47 = some (.iadd, 1, none, [], 0, 0, 0, 0) := z_ftd (by decide +kernel)
theorem t204_48 : z_ft 204 48 = some (.if_icmp .ge 179, 3, none, [], 227, 0, 0, 0) := z_ftd (by decide +kernel)
theorem t204_51 : z_ft 204 51 = some (.aload_n 0, 1, none, [], 0, 0, 0, 0) := z_ftd (by decide +kernel)
theorem t204_52 : z_ft 204 52 = some (.getfield 90, 3, none, [], 12, 26, 27, 0) := z_ftd (by decide +kernel)
theorem t204_55 : z_ft 204 55 = some (.iload_n 3, 1, none, [], 0, 0, 0, 0) := z_ftd (by decide +kernel)
theorem t204_56 : z_ft 204 56 = some (.iaload, 1, none, [], 0, 0, 0, 0) := z_ftd (by decide +kernel)
theorem t204_57 : z_ft 204 57 = some (.istore 4, 2, none, [], 0, 0, 0, 0) := z_ftd (by decide +kernel)
theorem t204_59 : z_ft 204 59 = some (.iload 4, 2, none, [], 0, 0, 0, 0) := z_ftd (by decide +kernel)
theorem t204_61 : z_ft 204 61 = some (.bipush 30, 2, none, [], 0, 0, 0, 0) := z_ftd (by decide +kernel)
theorem t204_63 : z_ft 204 63 = some (.if_icmp .gt 49, 3, none, [], 112, 0, 0, 0) := z_ftd (by decide +kernel)
theorem t204_66 : z_ft 204 66 = some (.aload_n 0, 1, none, [], 0, 0, 0, 0) := z_ftd (by decide +kernel)
theorem t204_67 : z_ft 204 67 = some (.getfield 186, 3, none, [], 12, 57, 58, 0) := z_ftd (by decide +kernel)
theorem t204_70 : z_ft 204 70 = some (.iload_n 2, 1, none, [], 0, 0, 0, 0) := z_ftd (by decide +kernel)
theorem t204_71 : z_ft 204 71 = some (.iload 4, 2, none, [], 0, 0, 0, 0) := z_ftd (by decide +kernel)
theorem t204_73 : z_ft 204 73 = some (.ifCond .ne 13, 3, none, [], 86, 0, 0, 0) := z_ftd (by decide +kernel)
theorem t204_76 : z_ft 204 76 = some (.aload_n 0, 1, none, [], 0, 0, 0, 0) := z_ftd (by decide +kernel)
theorem t204_77 : z_ft 204 77 = some (.getfield 93, 3, none, [], 12, 27, 28, 0) := z_ftd (by decide +kernel)
theorem t204_80 : z_ft 204 80 = some (.iload_n 3, 1, none, [], 0, 0, 0, 0) := z_ftd (by decide +kernel)
theorem t204_81 : z_ft 204 81 = some (.iaload, 1, none, [], 0, 0, 0, 0) := z_ftd (by decide +kernel)
theorem t204_82 : z_ft 204 82 = some (.i2l, 1, none, [], 0, 0, 0, 0) := z_ftd (by decide +kernel)
theorem t204_83 : z_ft 204 83 = some (.goto 22, 3, none, [], 105, 0, 0, 0) := z_ftd (by decide +kernel)
theorem t204_86 : z_ft 204 86 = some (.iload 4, 2, none, [], 0, 0, 0, 0) := z_ftd (by decide +kernel)
theorem t204_88 : z_ft 204 88 = some (.bipush 30, 2, none, [], 0, 0, 0, 0) := z_ftd (by decide +kernel)
theorem t204_90 : z_ft 204 90 = some (.if_icmp .ne 7, 3, none, [], 97, 0, 0, 0) := z_ftd (by decide +kernel)
theorem t204_93 : z_ft 204 93 = some (.lconst 1, 1, none, [], 0, 0, 0, 0) := z_ftd (by decide +kernel)
theorem t204_94 : z_ft 204 94 = some (.goto 11, 3, none, [], 105, 0, 0, 0) := z_ftd (by decide +kernel)
theorem t204_97 : z_ft 204 97 = some (.aload_n 0, 1, none, [], 0, 0, 0, 0) := z_ftd (by decide +kernel)
theorem t204_98 : z_ft 204 98 = some (.getfield 189, 3, none, [], 12, 58, 59, 0) := z_ftd (by decide +kernel)
theorem t204_101 : z_ft 204 101 = some (.iload 4, 2, none, [], 0, 0, 0, 0) := z_ftd (by decide +kernel)
theorem t204_103 : z_ft 204 103 = some (.iaload, 1, none, [], 0, 0, 0, 0) := z_ftd (by decide +kernel)
theorem t204_104 : z_ft 204 104 = some (.i2l, 1, none, [], 0, 0, 0, 0) := z_ftd (by decide +kernel)
theorem t204_105 : z_ft 204 105 = some (.lastore, 1, (some [0, 1, 2, 3]), [], 0, 0, 0, 0) := z_ftd (by decide +kernel)
theorem t204_106 : z_ft 204 106 = some (.iinc 2 1, 3, none, [], 0, 0, 0, 0) := z_ftd (by decide +kernel)
theorem t204_109 : z_ft 204 109 = some (.goto 112, 3, none, [], 221, 0, 0, 0) := z_ftd (by decide +kernel)
theorem t204_112 : z_ft 204 112 = some (.iload 4, 2, none, [], 0, 0, 0, 0) := z_ftd (by decide +kernel)
theorem t204_114 : z_ft 204 114 = some (.bipush 43, 2, none, [], 0, 0, 0, 0) := z_ftd (by decide +kernel)
theorem t204_116 : z_ft 204 116 = some (.if_icmp .ne 24, 3, none, [], 140, 0, 0, 0) := z_ftd (by decide +kernel)
theorem t204_119 : z_ft 204 119 = some (.aload_n 0, 1, none, [], 0, 0, 0, 0) := z_ftd (by decide +kernel)
theorem t204_120 : z_ft 204 120 = some (.getfield 186, 3, none, [], 12, 57, 58, 0) := z_ftd (by decide +kernel)
theorem t204_123 : z_ft 204 123 = some (.iload_n 2, 1, none, [], 0, 0, 0, 0) := z_ftd (by decide +kernel)
theorem t204_124 : z_ft 204 124 = some (.iconst 1, 1, none, [], 0, 0, 0, 0) := z_ftd (by decide +kernel)
theorem t204_125 : z_ft 204 125 = some (.isub, 1, none, [], 0, 0, 0, 0) := z_ftd (by decide +kernel)
theorem t204_126 : z_ft 204 126 = some (.lconst 1, 1, none, [], 0, 0, 0, 0) := z_ftd (by decide +kernel)
theorem t204_127 : z_ft 204 127 = some (.aload_n 0, 1, none, [], 0, 0, 0, 0) := z_ftd (by decide +kernel)
theorem t204_128 : z_ft 204 128 = some (.getfield 186, 3, none, [], 12, 57, 58, 0) := z_ftd (by decide +kernel)
theorem t204_131 : z_ft 204 131 = some (.iload_n 2, 1, none, [], 0, 0, 0, 0) := z_ftd (by decide +kernel)
theorem t204_132 : z_ft 204 132 = some (.iconst 1, 1, none, [], 0, 0, 0, 0) := z_ftd (by decide +kernel)
theorem t204_133 : z_ft 204 133 = some (.isub, 1, none, [], 0, 0, 0, 0) := z_ftd (by decide +kernel)
theorem t204_134 : z_ft 204 134 = some (.laload, 1, none, [], 0, 0, 0, 0) := z_ftd (by decide +kernel)
theorem t204_135 : z_ft 204 135 = some (.lsub, 1, none, [], 0, 0, 0, 0) := z_ftd (by decide +kernel)
theorem t204_136 : z_ft 204 136 = some (.lastore, 1, none, [], 0, 0, 0, 0) := z_ftd (by decide +kernel)
theorem t204_137 : z_ft 204 137 = some (.goto 84, 3, none, [], 221, 0, 0, 0) := z_ftd (by decide +kernel)
theorem t204_140 : z_ft 204 140 = some (.iload 4, 2, none, [], 0, 0, 0, 0) := z_ftd (by decide +kernel)
theorem t204_142 : z_ft 204 142 = some (.bipush 44, 2, none, [], 0, 0, 0, 0) := z_ftd (by decide +kernel)
theorem t204_144 : z_ft 204 144 = some (.if_icmp .ne 47, 3, none, [], 191, 0, 0, 0) := z_ftd (by decide +kernel)
theorem t204_147 : z_ft 204 147 = some (.iinc 2 (-2), 3, none, [], 0, 0, 0, 0) := z_ftd (by decide +kernel)
theorem t204_150 : z_ft 204 150 = some (.aload_n 0, 1, none, [], 0, 0, 0, 0) := z_ftd (by decide +kernel)
theorem t204_151 : z_ft 204 151 = some (.getfield 186, 3, none, [], 12, 57, 58, 0) := z_ftd (by decide +kernel)
theorem t204_154 : z_ft 204 154 = some (.iload_n 2, 1, none, [], 0, 0, 0, 0) := z_ftd (by decide +kernel)
theorem t204_155 : z_ft 204 155 = some (.iconst 1, 1, none, [], 0, 0, 0, 0) := z_ftd (by decide +kernel)
theorem t204_156 : z_ft 204 156 = some (.isub, 1, none, [], 0, 0, 0, 0) := z_ftd (by decide +kernel)
theorem t204_157 : z_ft 204 157 = some (.aload_n 0, 1, none, [], 0, 0, 0, 0) := z_ftd (by decide +kernel)
theorem t204_158 : z_ft 204 158 = some (.getfield 186, 3, none, [], 12, 57, 58, 0) := z_ftd (by decide +kernel)
theorem t204_161 : z_ft 204 161 = some (.iload_n 2, 1, none, [], 0, 0, 0, 0) := z_ftd (by decide +kernel)
theorem t204_162 : z_ft 204 162 = some (.iconst 1, 1, none, [], 0, 0, 0, 0) := z_ftd (by decide +kernel)
theorem t204_163 : z_ft 204 163 = some (.isub, 1, none, [], 0, 0, 0, 0) := z_ftd (by decide +kernel)
theorem t204_164 : z_ft 204 164 = some (.laload, 1, none, [], 0, 0, 0, 0) := z_ftd (by decide +kernel)
theorem t204_165 : z_ft 204 165 = some (.lconst 1, 1, none, [], 0, 0, 0, 0) := z_ftd (by decide +kernel)
theorem t204_166 : z_ft 204 166 = some (.lcmp, 1, none, [], 0, 0, 0, 0) := z_ftd (by decide +kernel)
theorem t204_167 : z_ft 204 167 = some (.ifCond .ne 12, 3, none, [], 179, 0, 0, 0) := z_ftd (by decide +kernel)
theorem t204_170 : z_ft 204 170 = some (.aload_n 0, 1, none, [], 0, 0, 0, 0) := z_ftd (by decide +kernel)
theorem t204_171 : z_ft 204 171 = some (.getfield 186, 3, none, [], 12, 57, 58, 0) := z_ftd (by decide +kernel)
theorem t204_174 : z_ft 204 174 = some (.iload_n 2, 1, none, [], 0, 0, 0, 0) := z_ftd (by decide +kernel)
theorem t204_175 : z_ft 204 175 = some (.laload, 1, none, [], 0, 0, 0, 0) := z_ftd (by decide +kernel)
theorem t204_176 : z_ft 204 176 = some (.goto 11, 3, none, [], 187, 0, 0, 0) := z_ftd (by decide +kernel)
theorem t204_179 : z_ft 204 179 = some (.aload_n 0, 1, none, [], 0, 0, 0, 0) := z_ftd (by decide +kernel)
theorem t204_180 : z_ft 204 180 = some (.getfield 186, 3, none, [], 12, 57, 58, 0) := z_ftd (by decide +kernel)
theorem t204_183 : z_ft 204 183 = some (.iload_n 2, 1, none, [], 0, 0, 0, 0) := z_ftd (by decide +kernel)
theorem t204_184 : z_ft 204 184 = some (.iconst 1, 1, none, [], 0, 0, 0, 0) := z_ftd (by decide +kernel)
theorem t204_185 : z_ft 204 185 = some (.iadd, 1, none, [], 0, 0, 0, 0) := z_ftd (by decide +kernel)
theorem t204_186 : z_ft 204 186 = some (.laload, 1, none, [], 0, 0, 0, 0) := z_ftd (by decide +kernel)
theorem t204_187 : z_ft 204 187 = some (.lastore, 1, (some [0, 1, 2, 3]), [], 0, 0, 0, 0) := z_ftd (by decide +kernel)
theorem t204_188 : z_ft 204 188 = some (.goto 33, 3, none, [], 221, 0, 0, 0) := z_ftd (by decide +kernel)
theorem t204_191 : z_ft 204 191 = some (.iinc 2 (-1), 3, none, [], 0, 0, 0, 0) := z_ftd (by decide +kernel)
theorem t204_194 : z_ft 204 194 = some (.aload_n 0, 1, none, [], 0, 0, 0, 0) := z_ftd (by decide +kernel)
theorem t204_195 : z_ft 204 195 = some (.getfield 186, 3, none, [], 12, 57, 58, 0) := z_ftd (by decide +kernel)
theorem t204_198 : z_ft 204 198 = some (.iload_n 2, 1, none, [], 0, 0, 0, 0) := z_ftd (by decide +kernel)
theorem t204_199 : z_ft 204 199 = some (.iconst 1, 1, none, [], 0, 0, 0, 0) := z_ftd (by decide +kernel)
theorem t204_200 : z_ft 204 200 = some (.isub, 1, none, [], 0, 0, 0, 0) := z_ftd (by decide +kernel)
theorem t204_201 : z_ft 204 201 = some (.iload 4, 2, none, [], 0, 0, 0, 0) := z_ftd (by decide +kernel)
theorem t204_203 : z_ft 204 203 = some (.aload_n 0, 1, none, [], 0, 0, 0, 0) := z_ftd (by decide +kernel)
theorem t204_204 : z_ft 204 204 = some (.getfield 186, 3, none, [], 12, 57, 58, 0) := z_ftd (by decide +kernel)
theorem t204_207 : z_ft 204 207 = some (.iload_n 2, 1, none, [], 0, 0, 0, 0) := z_ftd (by decide +kernel)
theorem t204_208 : z_ft 204 208 = some (.iconst 1, 1, none, [], 0, 0, 0, 0) := z_ftd (by decide +kernel)
theorem t204_209 : z_ft 204 209 = some (.isub, 1, none, [], 0, 0, 0, 0) := z_ftd (by decide +kernel)
theorem t204_210 : z_ft 204 210 = some (.laload, 1, none, [], 0, 0, 0, 0) := z_ftd (by decide +kernel)
theorem t204_211 : z_ft 204 211 = some (.aload_n 0, 1, none, [], 0, 0, 0, 0) := z_ftd (by decide +kernel)
theorem t204_212 : z_ft 204 212 = some (.getfield 186, 3, none, [], 12, 57, 58, 0) := z_ftd (by decide +kernel)
theorem t204_215 : z_ft 204 215 = some (.iload_n 2, 1, none, [], 0, 0, 0, 0) := z_ftd (by decide +kernel)
theorem t204_216 : z_ft 204 216 = some (.laload, 1, none, [], 0, 0, 0, 0) := z_ftd (by decide +kernel)
theorem t204_217 : z_ft 204 217 = some (.invokestatic 422, 3, none, [], 203, 0, 144, 0) := z_ftd (by decide +kernel)
theorem t204_220 : z_ft 204 220 = some (.lastore, 1, none, [], 0, 0, 0, 0) := z_ftd (by decide +kernel)
theorem t204_221 : z_ft 204 221 = some (.iinc 3 1, 3, (some [0, 1, 2, 3]), [], 0, 0, 0, 0) := z_ftd (by decide +kernel)
theorem t204_224 : z_ft 204 224 = some (.goto (-199), 3, none, [], 25, 0, 0, 0) := z_ftd (by decide +kernel)
theorem t204_227 : z_ft 204 227 = some (.aload_n 0, 1, none, [], 0, 0, 0, 0) := z_ftd (by decide +kernel)
theorem t204_228 : z_ft 204 228 = some (.getfield 186, 3, none, [], 12, 57, 58, 0) := z_ftd (by decide +kernel)
theorem t204_231 : z_ft 204 231 = some (.iconst 0, 1, none, [], 0, 0, 0, 0) := z_ftd (by decide +kernel)
theorem t204_232 : z_ft 204 232 = some (.laload, 1, none, [], 0, 0, 0, 0) := z_ftd (by decide +kernel)
theorem t204_233 : z_ft 204 233 = some (.lreturn, 1, none, [], 0, 0, 0, 0) := z_ftd (by decide +kernel)
noncomputable def b204_25 (d : Nat) (y1 : Int32) (y2 : Int32) (y3 : Int32) (S : z_S) : Option (Int64 × z_S) := zk kL z_X0 d 204 25 [.ref 396, .int y1, .int y2, .int y3, z_j] [] S
noncomputable def b204_221 (d : Nat) (y1 : Int32) (y2 : Int32) (y3 : Int32) (S : z_S) : Option (Int64 × z_S) := zk kL z_X0 d 204 221 [.ref 396, .int y1, .int y2, .int y3, z_j] [] S
noncomputable def b204_187 (d : Nat) (y1 : Int32) (y2 : Int32) (y3 : Int32) (s0 : Int64) (s1 : Int32) (S : z_S) : Option (Int64 × z_S) := zk kL z_X0 d 204 187 [.ref 396, .int y1, .int y2, .int y3, z_j] [.long s0, .int s1, .ref 429] S
noncomputable def b204_105 (d : Nat) (y1 : Int32) (y2 : Int32) (y3 : Int32) (s0 : Int64) (s1 : Int32) (S : z_S) : Option (Int64 × z_S) := zk kL z_X0 d 204 105 [.ref 396, .int y1, .int y2, .int y3, z_j] [.long s0, .int s1, .ref 429] S
theorem b204_25_eq (d : Nat) (y1 : Int32) (y2 : Int32) (y3 : Int32) (S : z_S) (hW : z_W S)  : b204_25 d y1 y2 y3 S = (if z_in (((3 : Int32) * (gI S 396 13)) + y1) 6 then (if (((1600 : Int32) * (gI S 396 13)) + (gI S 409 ((((3 : Int32) * (gI S 396 13)) + y1)).toNatClampNeg)) ≤ y3 then (if z_in (0 : Int32) 500 then some ((gL S 429 ((0 : Int32)).toNatClampNeg), S) else none) else (if z_in y3 3200 then (if (30 : Int32) < (gI S 410 (y3).toNatClampNeg) then (if ¬ (gI S 410 (y3).toNatClampNeg) = (43 : Int32) then (if ¬ (gI S 410 (y3).toNatClampNeg) = (44 : Int32) then (if z_in ((y2 + (-1 : Int32)) - (1 : Int32)) 500 then (if z_in (y2 + (-1 : Int32)) 500 then (zb (fL d 203 [.int (gI S 410 (y3).toNatClampNeg), .long (gL S 429 (((y2 + (-1 : Int32)) - (1 : Int32))).toNatClampNeg), .long (gL S 429 ((y2 + (-1 : Int32))).toNatClampNeg)] S) fun v11 S12 => (if z_in ((y2 + (-1 : Int32)) - (1 : Int32)) 500 then b204_221 d y1 (y2 + (-1 : Int32)) y3 (sL S12 429 (((y2 + (-1 : Int32)) - (1 : Int32))).toNatClampNeg v11) else none)) else none) else none) else (if z_in ((y2 + (-2 : Int32)) - (1 : Int32)) 500 then (if ¬ (lg_cmp (gL S 429 (((y2 + (-2 : Int32)) - (1 : Int32))).toNatClampNeg) (1 : Int64)) = (0 : Int32) then (if z_in ((y2 + (-2 : Int32)) + (1 : Int32)) 500 then b204_187 d y1 (y2 + (-2 : Int32)) y3 (gL S 429 (((y2 + (-2 : Int32)) + (1 : Int32))).toNatClampNeg) ((y2 + (-2 : Int32)) - (1 : Int32)) S else none) else (if z_in (y2 + (-2 : Int32)) 500 then b204_187 d y1 (y2 + (-2 : Int32)) y3 (gL S 429 ((y2 + (-2 : Int32))).toNatClampNeg) ((y2 + (-2 : Int32)) - (1 : Int32)) S else none)) else none)) else (if z_in (y2 - (1 : Int32)) 500 then (if z_in (y2 - (1 : Int32)) 500 then b204_221 d y1 y2 y3 (sL S 429 ((y2 - (1 : Int32))).toNatClampNeg ((1 : Int64) - (gL S 429 ((y2 - (1 : Int32))).toNatClampNeg))) else none) else none)) else (if ¬ (gI S 410 (y3).toNatClampNeg) = (0 : Int32) then (if ¬ (gI S 410 (y3).toNatClampNeg) = (30 : Int32) then (if z_in (gI S 410 (y3).toNatClampNeg) 10 then b204_105 d y1 y2 y3 (((gI S 430 ((gI S 410 (y3).toNatClampNeg)).toNatClampNeg)).toInt64) y2 S else none) else b204_105 d y1 y2 y3 (1 : Int64) y2 S) else (if z_in y3 3200 then b204_105 d y1 y2 y3 (((gI S 411 (y3).toNatClampNeg)).toInt64) y2 S else none))) else none)) else none) := by
  unfold b204_25
  refine (k_iload_n t204_25 rfl rfl).trans ?_
  refine (k_sipush t204_26 rfl zcs_1600).trans ?_
  refine (k_aload_n t204_29 rfl rfl).trans ?_
  refine (k_getI t204_30 rfl hW zK_396 (by decide) (by decide)).trans ?_
  refine (k_imul t204_33 rfl).trans ?_
  refine (k_aload_n t204_34 rfl rfl).trans ?_
  refine (k_getR t204_35 rfl hW zK_396 (by decide) (by decide) (zF_396_25 hW)).trans ?_
  refine (k_iconst t204_38 rfl zci_3).trans ?_
  refine (k_aload_n t204_39 rfl rfl).trans ?_
  refine (k_getI t204_40 rfl hW zK_396 (by decide) (by decide)).trans ?_
  refine (k_imul t204_43 rfl).trans ?_
  refine (k_iload_n t204_44 rfl rfl).trans ?_
  refine (k_iadd t204_45 rfl).trans ?_
  refine (k_iald t204_46 rfl hW zK_409 zL_409).trans (z_ite (fun g2 => ?_) (fun _ => rfl))
  refine (k_iadd t204_47 rfl).trans ?_
  refine (k_icmp_ge t204_48 rfl).trans (z_ite (fun g3 => ?_) (fun g3 => ?_))
  · refine (k_aload_n t204_227 rfl rfl).trans ?_
    refine (k_getR t204_228 rfl hW zK_396 (by decide) (by decide) (zF_396_57 hW)).trans ?_
    refine (k_iconst t204_231 rfl zci_0).trans ?_
    refine (k_lald t204_232 rfl hW zK_429 zL_429).trans (z_ite (fun g4 => ?_) (fun _ => rfl))
    exact k_lreturn t204_233 rfl (by decide)
  · refine (k_aload_n t204_51 rfl rfl).trans ?_
    refine (k_getR t204_52 rfl hW zK_396 (by decide) (by decide) (zF_396_26 hW)).trans ?_
    refine (k_iload_n t204_55 rfl rfl).trans ?_
    refine (k_iald t204_56 rfl hW zK_410 zL_410).trans (z_ite (fun g5 => ?_) (fun _ => rfl))
    refine (k_istore (ls' := [.ref 396, .int y1, .int y2, .int y3, .int (gI S 410 (y3).toNatClampNeg)]) t204_57 rfl rfl).trans ?_
    refine (k_iload t204_59 rfl rfl).trans ?_
    refine (k_bipush t204_61 rfl zcb_30).trans ?_
    refine (k_icmp_gt t204_63 rfl).trans (z_ite (fun g6 => ?_) (fun g6 => ?_))
    · refine (k_iload t204_112 rfl rfl).trans ?_
      refine (k_bipush t204_114 rfl zcb_43).trans ?_
      refine (k_icmp_ne t204_116 rfl).trans (z_ite (fun g7 => ?_) (fun g7 => ?_))
      · refine (k_iload t204_140 rfl rfl).trans ?_
        refine (k_bipush t204_142 rfl zcb_44).trans ?_
        refine (k_icmp_ne t204_144 rfl).trans (z_ite (fun g8 => ?_) (fun g8 => ?_))
        · refine (k_iinc (b := (y2 + (-1 : Int32))) (ls' := [.ref 396, .int y1, .int (y2 + (-1 : Int32)), .int y3, .int (gI S 410 (y3).toNatClampNeg)]) t204_191 rfl rfl (by rw [zci_m1]) rfl).trans ?_
          refine (k_aload_n t204_194 rfl rfl).trans ?_
          refine (k_getR t204_195 rfl hW zK_396 (by decide) (by decide) (zF_396_57 hW)).trans ?_
          refine (k_iload_n t204_198 rfl rfl).trans ?_
          refine (k_iconst t204_199 rfl zci_1).trans ?_
          refine (k_isub t204_200 rfl).trans ?_
          refine (k_iload t204_201 rfl rfl).trans ?_
          refine (k_aload_n t204_203 rfl rfl).trans ?_
          refine (k_getR t204_204 rfl hW zK_396 (by decide) (by decide) (zF_396_57 hW)).trans ?_
          refine (k_iload_n t204_207 rfl rfl).trans ?_
          refine (k_iconst t204_208 rfl zci_1).trans ?_
          refine (k_isub t204_209 rfl).trans ?_
          refine (k_lald t204_210 rfl hW zK_429 zL_429).trans (z_ite (fun g9 => ?_) (fun _ => rfl))
          refine (k_aload_n t204_211 rfl rfl).trans ?_
          refine (k_getR t204_212 rfl hW zK_396 (by decide) (by decide) (zF_396_57 hW)).trans ?_
          refine (k_iload_n t204_215 rfl rfl).trans ?_
          refine (k_lald t204_216 rfl hW zK_429 zL_429).trans (z_ite (fun g10 => ?_) (fun _ => rfl))
          refine k_callL (as := [.int (gI S 410 (y3).toNatClampNeg), .long (gL S 429 (((y2 + (-1 : Int32)) - (1 : Int32))).toNatClampNeg), .long (gL S 429 ((y2 + (-1 : Int32))).toNatClampNeg)]) (rest := [.int ((y2 + (-1 : Int32)) - (1 : Int32)), .ref 429]) t204_217 rfl rfl (by decide) rfl rfl (Nat.le_of_ble_eq_true rfl) rfl (z_rcS (by decide)) (by decide) (by decide) hW (fun v11 S12 hW12 => ?_)
          refine (k_last t204_220 rfl hW12 zK_429 zL_429).trans (z_ite (fun g13 => ?_) (fun _ => rfl))
          exact (zk_mk (ls' := [.ref 396, .int y1, .int (y2 + (-1 : Int32)), .int y3, z_j]) t204_221 rfl)
        · refine (k_iinc (b := (y2 + (-2 : Int32))) (ls' := [.ref 396, .int y1, .int (y2 + (-2 : Int32)), .int y3, .int (gI S 410 (y3).toNatClampNeg)]) t204_147 rfl rfl (by rw [zci_m2]) rfl).trans ?_
          refine (k_aload_n t204_150 rfl rfl).trans ?_
          refine (k_getR t204_151 rfl hW zK_396 (by decide) (by decide) (zF_396_57 hW)).trans ?_
          refine (k_iload_n t204_154 rfl rfl).trans ?_
          refine (k_iconst t204_155 rfl zci_1).trans ?_
          refine (k_isub t204_156 rfl).trans ?_
          refine (k_aload_n t204_157 rfl rfl).trans ?_
          refine (k_getR t204_158 rfl hW zK_396 (by decide) (by decide) (zF_396_57 hW)).trans ?_
          refine (k_iload_n t204_161 rfl rfl).trans ?_
          refine (k_iconst t204_162 rfl zci_1).trans ?_
          refine (k_isub t204_163 rfl).trans ?_
          refine (k_lald t204_164 rfl hW zK_429 zL_429).trans (z_ite (fun g14 => ?_) (fun _ => rfl))
          refine (k_lconst t204_165 rfl (z := (1 : Int64)) rfl).trans ?_
          refine (k_lcmp t204_166 rfl).trans ?_
          refine (k_if_ne t204_167 rfl).trans (z_ite (fun g15 => ?_) (fun g15 => ?_))
          · refine (k_aload_n t204_179 rfl rfl).trans ?_
            refine (k_getR t204_180 rfl hW zK_396 (by decide) (by decide) (zF_396_57 hW)).trans ?_
            refine (k_iload_n t204_183 rfl rfl).trans ?_
            refine (k_iconst t204_184 rfl zci_1).trans ?_
            refine (k_iadd t204_185 rfl).trans ?_
            refine (k_lald t204_186 rfl hW zK_429 zL_429).trans (z_ite (fun g16 => ?_) (fun _ => rfl))
            exact (zk_mk (ls' := [.ref 396, .int y1, .int (y2 + (-2 : Int32)), .int y3, z_j]) t204_187 rfl)
          · refine (k_aload_n t204_170 rfl rfl).trans ?_
            refine (k_getR t204_171 rfl hW zK_396 (by decide) (by decide) (zF_396_57 hW)).trans ?_
            refine (k_iload_n t204_174 rfl rfl).trans ?_
            refine (k_lald t204_175 rfl hW zK_429 zL_429).trans (z_ite (fun g17 => ?_) (fun _ => rfl))
            refine (k_goto t204_176 rfl).trans ?_
            exact (zk_mk (ls' := [.ref 396, .int y1, .int (y2 + (-2 : Int32)), .int y3, z_j]) t204_187 rfl)
      · refine (k_aload_n t204_119 rfl rfl).trans ?_
        refine (k_getR t204_120 rfl hW zK_396 (by decide) (by decide) (zF_396_57 hW)).trans ?_
        refine (k_iload_n t204_123 rfl rfl).trans ?_
        refine (k_iconst t204_124 rfl zci_1).trans ?_
        refine (k_isub t204_125 rfl).trans ?_
        refine (k_lconst t204_126 rfl (z := (1 : Int64)) rfl).trans ?_
        refine (k_aload_n t204_127 rfl rfl).trans ?_
        refine (k_getR t204_128 rfl hW zK_396 (by decide) (by decide) (zF_396_57 hW)).trans ?_
        refine (k_iload_n t204_131 rfl rfl).trans ?_
        refine (k_iconst t204_132 rfl zci_1).trans ?_
        refine (k_isub t204_133 rfl).trans ?_
        refine (k_lald t204_134 rfl hW zK_429 zL_429).trans (z_ite (fun g18 => ?_) (fun _ => rfl))
        refine (k_lsub t204_135 rfl).trans ?_
        refine (k_last t204_136 rfl hW zK_429 zL_429).trans (z_ite (fun g19 => ?_) (fun _ => rfl))
        refine (k_goto t204_137 rfl).trans ?_
        exact (zk_mk (ls' := [.ref 396, .int y1, .int y2, .int y3, z_j]) t204_221 rfl)
    · refine (k_aload_n t204_66 rfl rfl).trans ?_
      refine (k_getR t204_67 rfl hW zK_396 (by decide) (by decide) (zF_396_57 hW)).trans ?_
      refine (k_iload_n t204_70 rfl rfl).trans ?_
      refine (k_iload t204_71 rfl rfl).trans ?_
      refine (k_if_ne t204_73 rfl).trans (z_ite (fun g20 => ?_) (fun g20 => ?_))
      · refine (k_iload t204_86 rfl rfl).trans ?_
        refine (k_bipush t204_88 rfl zcb_30).trans ?_
        refine (k_icmp_ne t204_90 rfl).trans (z_ite (fun g21 => ?_) (fun g21 => ?_))
        · refine (k_aload_n t204_97 rfl rfl).trans ?_
          refine (k_getR t204_98 rfl hW zK_396 (by decide) (by decide) (zF_396_58 hW)).trans ?_
          refine (k_iload t204_101 rfl rfl).trans ?_
          refine (k_iald t204_103 rfl hW zK_430 zL_430).trans (z_ite (fun g22 => ?_) (fun _ => rfl))
          refine (k_i2l t204_104 rfl).trans ?_
          exact (zk_mk (ls' := [.ref 396, .int y1, .int y2, .int y3, z_j]) t204_105 rfl)
        · refine (k_lconst t204_93 rfl (z := (1 : Int64)) rfl).trans ?_
          refine (k_goto t204_94 rfl).trans ?_
          exact (zk_mk (ls' := [.ref 396, .int y1, .int y2, .int y3, z_j]) t204_105 rfl)
      · refine (k_aload_n t204_76 rfl rfl).trans ?_
        refine (k_getR t204_77 rfl hW zK_396 (by decide) (by decide) (zF_396_27 hW)).trans ?_
        refine (k_iload_n t204_80 rfl rfl).trans ?_
        refine (k_iald t204_81 rfl hW zK_411 zL_411).trans (z_ite (fun g23 => ?_) (fun _ => rfl))
        refine (k_i2l t204_82 rfl).trans ?_
        refine (k_goto t204_83 rfl).trans ?_
        exact (zk_mk (ls' := [.ref 396, .int y1, .int y2, .int y3, z_j]) t204_105 rfl)
theorem b204_221_eq (d : Nat) (y1 : Int32) (y2 : Int32) (y3 : Int32) (S : z_S) (hW : z_W S)  : b204_221 d y1 y2 y3 S = b204_25 d y1 y2 (y3 + (1 : Int32)) S := by
  unfold b204_221
  refine (k_iinc (b := (y3 + (1 : Int32))) (ls' := [.ref 396, .int y1, .int y2, .int (y3 + (1 : Int32)), z_j]) t204_221 rfl rfl (by rw [zci_1]) rfl).trans ?_
  refine (k_goto t204_224 rfl).trans ?_
  exact (zk_mk (ls' := [.ref 396, .int y1, .int y2, .int (y3 + (1 : Int32)), z_j]) t204_25 rfl)
theorem b204_187_eq (d : Nat) (y1 : Int32) (y2 : Int32) (y3 : Int32) (s0 : Int64) (s1 : Int32) (S : z_S) (hW : z_W S)  : b204_187 d y1 y2 y3 s0 s1 S = (if z_in s1 500 then b204_221 d y1 y2 y3 (sL S 429 (s1).toNatClampNeg s0) else none) := by
  unfold b204_187
  refine (k_last t204_187 rfl hW zK_429 zL_429).trans (z_ite (fun g24 => ?_) (fun _ => rfl))
  refine (k_goto t204_188 rfl).trans ?_
  exact (zk_mk (ls' := [.ref 396, .int y1, .int y2, .int y3, z_j]) t204_221 rfl)
theorem b204_105_eq (d : Nat) (y1 : Int32) (y2 : Int32) (y3 : Int32) (s0 : Int64) (s1 : Int32) (S : z_S) (hW : z_W S)  : b204_105 d y1 y2 y3 s0 s1 S = (if z_in s1 500 then b204_221 d y1 (y2 + (1 : Int32)) y3 (sL S 429 (s1).toNatClampNeg s0) else none) := by
  unfold b204_105
  refine (k_last t204_105 rfl hW zK_429 zL_429).trans (z_ite (fun g25 => ?_) (fun _ => rfl))
  refine (k_iinc (b := (y2 + (1 : Int32))) (ls' := [.ref 396, .int y1, .int (y2 + (1 : Int32)), .int y3, z_j]) t204_106 rfl rfl (by rw [zci_1]) rfl).trans ?_
  refine (k_goto t204_109 rfl).trans ?_
  exact (zk_mk (ls' := [.ref 396, .int y1, .int (y2 + (1 : Int32)), .int y3, z_j]) t204_221 rfl)
-- X12_reckons
theorem e204 (d : Nat) (x1 : Int32) (S : z_S) (hW : z_W S)  : fL (d + 1) 204 [.ref 396, .int x1] S = (if z_in (((3 : Int32) * (gI S 396 13)) + x1) 6 then b204_25 d x1 (0 : Int32) (((1600 : Int32) * (gI S 396 13)) + (gI S 408 ((((3 : Int32) * (gI S 396 13)) + x1)).toNatClampNeg)) S else none) := by
  refine (fL_en (Nat.le_of_ble_eq_true rfl) rfl).trans ?_
  refine (k_iconst t204_0 rfl zci_0).trans ?_
  refine (k_istore_n (ls' := [.ref 396, .int x1, .int (0 : Int32), z_j, z_j]) t204_1 rfl rfl).trans ?_
  refine (k_sipush t204_2 rfl zcs_1600).trans ?_
  refine (k_aload_n t204_5 rfl rfl).trans ?_
  refine (k_getI t204_6 rfl hW zK_396 (by decide) (by decide)).trans ?_
  refine (k_imul t204_9 rfl).trans ?_
  refine (k_aload_n t204_10 rfl rfl).trans ?_
  refine (k_getR t204_11 rfl hW zK_396 (by decide) (by decide) (zF_396_24 hW)).trans ?_
  refine (k_iconst t204_14 rfl zci_3).trans ?_
  refine (k_aload_n t204_15 rfl rfl).trans ?_
  refine (k_getI t204_16 rfl hW zK_396 (by decide) (by decide)).trans ?_
  refine (k_imul t204_19 rfl).trans ?_
  refine (k_iload_n t204_20 rfl rfl).trans ?_
  refine (k_iadd t204_21 rfl).trans ?_
  refine (k_iald t204_22 rfl hW zK_408 zL_408).trans (z_ite (fun g1 => ?_) (fun _ => rfl))
  refine (k_iadd t204_23 rfl).trans ?_
  refine (k_istore_n (ls' := [.ref 396, .int x1, .int (0 : Int32), .int (((1600 : Int32) * (gI S 396 13)) + (gI S 408 ((((3 : Int32) * (gI S 396 13)) + x1)).toNatClampNeg)), z_j]) t204_24 rfl rfl).trans ?_
  exact (zk_mk (ls' := [.ref 396, .int x1, .int (0 : Int32), .int (((1600 : Int32) * (gI S 396 13)) + (gI S 408 ((((3 : Int32) * (gI S 396 13)) + x1)).toNatClampNeg)), z_j]) t204_25 rfl)
theorem t205_0 : z_ft 205 0 = some (.aload_n 0, 1, none, [], 0, 0, 0, 0) := z_ftd (by decide +kernel)
theorem t205_1 : z_ft 205 1 = some (.getfield 84, 3, none, [], 12, 24, 25, 0) := z_ftd (by decide +kernel)
theorem t205_4 : z_ft 205 4 = some (.iconst 3, 1, none, [], 0, 0, 0, 0) := z_ftd (by decide +kernel)
theorem t205_5 : z_ft 205 5 = some (.aload_n 0, 1, none, [], 0, 0, 0, 0) := z_ftd (by decide +kernel)
theorem t205_6 : z_ft 205 6 = some (.getfield 51, 3, none, [], 12, 13, 14, 0) := z_ftd (by decide +kernel)
theorem t205_9 : z_ft 205 9 = some (.imul, 1, none, [], 0, 0, 0, 0) := z_ftd (by decide +kernel)
theorem t205_10 : z_ft 205 10 = some (.iload_n 1, 1, none, [], 0, 0, 0, 0) := z_ftd (by decide +kernel)
theorem t205_11 : z_ft 205 11 = some (.iadd, 1, none, [], 0, 0, 0, 0) := z_ftd (by decide +kernel)
theorem t205_12 : z_ft 205 12 = some (.iaload, 1, none, [], 0, 0, 0, 0) := z_ftd (by decide +kernel)
theorem t205_13 : z_ft 205 13 = some (.iconst (-1), 1, none, [], 0, 0, 0, 0) := z_ftd (by decide +kernel)
theorem t205_14 : z_ft 205 14 = some (.if_icmp .eq 7, 3, none, [], 21, 0, 0, 0) := z_ftd (by decide +kernel)
theorem t205_17 : z_ft 205 17 = some (.iconst 1, 1, none, [], 0, 0, 0, 0) := z_ftd (by decide +kernel)
theorem t205_18 : z_ft 205 18 = some (.goto 4, 3, none, [], 22, 0, 0, 0) := z_ftd (by decide +kernel)
theorem t205_21 : z_ft 205 21 = some (.iconst 0, 1, none, [], 0, 0, 0, 0) := z_ftd (by decide +kernel)
theorem t205_22 : z_ft 205 22 = some (.ireturn, 1, (some []), [], 0, 0, 0, 0) := z_ftd (by decide +kernel)
-- X12_isTold
theorem e205 (d : Nat) (x1 : Int32) (S : z_S) (hW : z_W S)  : fI (d + 1) 205 [.ref 396, .int x1] S = (if z_in (((3 : Int32) * (gI S 396 13)) + x1) 6 then (if (gI S 408 ((((3 : Int32) * (gI S 396 13)) + x1)).toNatClampNeg) = (-1 : Int32) then some ((0 : Int32), S) else some ((1 : Int32), S)) else none) := by
  refine (fI_en (Nat.le_of_ble_eq_true rfl) rfl).trans ?_
  refine (k_aload_n t205_0 rfl rfl).trans ?_
  refine (k_getR t205_1 rfl hW zK_396 (by decide) (by decide) (zF_396_24 hW)).trans ?_
  refine (k_iconst t205_4 rfl zci_3).trans ?_
  refine (k_aload_n t205_5 rfl rfl).trans ?_
  refine (k_getI t205_6 rfl hW zK_396 (by decide) (by decide)).trans ?_
  refine (k_imul t205_9 rfl).trans ?_
  refine (k_iload_n t205_10 rfl rfl).trans ?_
  refine (k_iadd t205_11 rfl).trans ?_
  refine (k_iald t205_12 rfl hW zK_408 zL_408).trans (z_ite (fun g1 => ?_) (fun _ => rfl))
  refine (k_iconst t205_13 rfl zci_m1).trans ?_
  refine (k_icmp_eq t205_14 rfl).trans (z_ite (fun g2 => ?_) (fun g2 => ?_))
  · refine (k_iconst t205_21 rfl zci_0).trans ?_
    refine (zk_mk (ls' := [z_j, z_j]) t205_22 rfl).trans ?_
    exact k_zretC t205_22 rfl (by decide) (by decide)
  · refine (k_iconst t205_17 rfl zci_1).trans ?_
    refine (k_goto t205_18 rfl).trans ?_
    refine (zk_mk (ls' := [z_j, z_j]) t205_22 rfl).trans ?_
    exact k_zretC t205_22 rfl (by decide) (by decide)
theorem t206_0 : z_ft 206 0 = some (.iconst 0, 1, none, [], 0, 0, 0, 0) := z_ftd (by decide +kernel)
theorem t206_1 : z_ft 206 1 = some (.istore_n 1, 1, none, [], 0, 0, 0, 0) := z_ftd (by decide +kernel)
theorem t206_2 : z_ft 206 2 = some (.iload_n 0, 1, none, [], 0, 0, 0, 0) := z_ftd (by decide +kernel)
theorem t206_3 : z_ft 206 3 = some (.istore_n 2, 1, none, [], 0, 0, 0, 0) := z_ftd (by decide +kernel)
theorem t206_4 : z_ft 206 4 = some (.iload_n 2, 1, (some [1, 2]), [], 0, 0, 0, 0) := z_ftd (by decide +kernel)
theorem t206_5 : z_ft 206 5 = some (.ifCond .eq 15, 3, none, [], 20, 0, 0, 0) := z_ftd (by decide +kernel)
theorem t206_8 : z_ft 206 8 = some (.iinc 1 1, 3, none, [], 0, 0, 0, 0) := z_ftd (by decide +kernel)
theorem t206_11 : z_ft 206 11 = some (.iload_n 2, 1, none, [], 0, 0, 0, 0) := z_ftd (by decide +kernel)
theorem t206_12 : z_ft 206 12 = some (.iload_n 2, 1, none, [], 0, 0, 0, 0) := z_ftd (by decide +kernel)
theorem t206_13 : z_ft 206 13 = some (.iconst 1, 1, none, [], 0, 0, 0, 0) := z_ftd (by decide +kernel)
theorem t206_14 : z_ft 206 14 = some (.isub, 1, none, [], 0, 0, 0, 0) := z_ftd (by decide +kernel)
theorem t206_15 : z_ft 206 15 = some (.iand, 1, none, [], 0, 0, 0, 0) := z_ftd (by decide +kernel)
theorem t206_16 : z_ft 206 16 = some (.istore_n 2, 1, none, [], 0, 0, 0, 0) := z_ftd (by decide +kernel)
theorem t206_17 : z_ft 206 17 = some (.goto (-13), 3, none, [], 4, 0, 0, 0) := z_ftd (by decide +kernel)
theorem t206_20 : z_ft 206 20 = some (.iload_n 1, 1, none, [], 0, 0, 0, 0) := z_ftd (by decide +kernel)
theorem t206_21 : z_ft 206 21 = some (.ireturn, 1, none, [], 0, 0, 0, 0) := z_ftd (by decide +kernel)
noncomputable def b206_4 (d : Nat) (y1 : Int32) (y2 : Int32) (S : z_S) : Option (Int32 × z_S) := zk kI z_X0 d 206 4 [z_j, .int y1, .int y2] [] S
theorem b206_4_eq (d : Nat) (y1 : Int32) (y2 : Int32) (S : z_S) (hW : z_W S)  : b206_4 d y1 y2 S = (if y2 = (0 : Int32) then some (y1, S) else b206_4 d (y1 + (1 : Int32)) (y2 &&& (y2 - (1 : Int32))) S) := by
  unfold b206_4
  refine (k_iload_n t206_4 rfl rfl).trans ?_
  refine (k_if_eq t206_5 rfl).trans (z_ite (fun g1 => ?_) (fun g1 => ?_))
  · refine (k_iload_n t206_20 rfl rfl).trans ?_
    exact k_ireturn t206_21 rfl (by decide)
  · refine (k_iinc (b := (y1 + (1 : Int32))) (ls' := [z_j, .int (y1 + (1 : Int32)), .int y2]) t206_8 rfl rfl (by rw [zci_1]) rfl).trans ?_
    refine (k_iload_n t206_11 rfl rfl).trans ?_
    refine (k_iload_n t206_12 rfl rfl).trans ?_
    refine (k_iconst t206_13 rfl zci_1).trans ?_
    refine (k_isub t206_14 rfl).trans ?_
    refine (k_iand t206_15 rfl).trans ?_
    refine (k_istore_n (ls' := [z_j, .int (y1 + (1 : Int32)), .int (y2 &&& (y2 - (1 : Int32)))]) t206_16 rfl rfl).trans ?_
    refine (k_goto t206_17 rfl).trans ?_
    exact (zk_mk (ls' := [z_j, .int (y1 + (1 : Int32)), .int (y2 &&& (y2 - (1 : Int32)))]) t206_4 rfl)
-- X12_bits
theorem e206 (d : Nat) (x1 : Int32) (S : z_S) (hW : z_W S)  : fI (d + 1) 206 [.int x1] S = b206_4 d (0 : Int32) x1 S := by
  refine (fI_en (Nat.le_of_ble_eq_true rfl) rfl).trans ?_
  refine (k_iconst t206_0 rfl zci_0).trans ?_
  refine (k_istore_n (ls' := [.int x1, .int (0 : Int32), z_j]) t206_1 rfl rfl).trans ?_
  refine (k_iload_n t206_2 rfl rfl).trans ?_
  refine (k_istore_n (ls' := [.int x1, .int (0 : Int32), .int x1]) t206_3 rfl rfl).trans ?_
  exact (zk_mk (ls' := [z_j, .int (0 : Int32), .int x1]) t206_4 rfl)
theorem t207_0 : z_ft 207 0 = some (.aload_n 0, 1, none, [], 0, 0, 0, 0) := z_ftd (by decide +kernel)
theorem t207_1 : z_ft 207 1 = some (.getfield 153, 3, none, [], 12, 46, 47, 0) := z_ftd (by decide +kernel)
theorem t207_4 : z_ft 207 4 = some (.iload_n 1, 1, none, [], 0, 0, 0, 0) := z_ftd (by decide +kernel)
theorem t207_5 : z_ft 207 5 = some (.iaload, 1, none, [], 0, 0, 0, 0) := z_ftd (by decide +kernel)
theorem t207_6 : z_ft 207 6 = some (.iload_n 2, 1, none, [], 0, 0, 0, 0) := z_ftd (by decide +kernel)
theorem t207_7 : z_ft 207 7 = some (.invokestatic 364, 3, none, [], 182, 0, 121, 0) := z_ftd (by decide +kernel)
theorem t207_10 : z_ft 207 10 = some (.ireturn, 1, none, [], 0, 0, 0, 0) := z_ftd (by decide +kernel)
-- X12_isShut
theorem e207 (d : Nat) (x1 : Int32) (x2 : Int32) (S : z_S) (hW : z_W S)  : fI (d + 1) 207 [.ref 396, .int x1, .int x2] S = (if z_in x1 22 then (zb (fI d 182 [.int (gI S 422 (x1).toNatClampNeg), .int x2] S) fun v2 S3 => (if v2 = 0 ∨ v2 = 1 then some (v2, S3) else none)) else none) := by
  refine (fI_en (Nat.le_of_ble_eq_true rfl) rfl).trans ?_
  refine (k_aload_n t207_0 rfl rfl).trans ?_
  refine (k_getR t207_1 rfl hW zK_396 (by decide) (by decide) (zF_396_46 hW)).trans ?_
  refine (k_iload_n t207_4 rfl rfl).trans ?_
  refine (k_iald t207_5 rfl hW zK_422 zL_422).trans (z_ite (fun g1 => ?_) (fun _ => rfl))
  refine (k_iload_n t207_6 rfl rfl).trans ?_
  refine k_callI (as := [.int (gI S 422 (x1).toNatClampNeg), .int x2]) (rest := []) t207_7 rfl rfl (by decide) rfl rfl (Nat.le_of_ble_eq_true rfl) rfl (z_rcS (by decide)) (by decide) (Or.inr (by decide)) hW (fun v2 S3 hW3 => ?_)
  exact (k_zreturn t207_10 rfl (by decide)).trans (z_ite (fun _ => rfl) (fun _ => rfl))
theorem t208_0 : z_ft 208 0 = some (.aload_n 0, 1, none, [], 0, 0, 0, 0) := z_ftd (by decide +kernel)
theorem t208_1 : z_ft 208 1 = some (.getfield 156, 3, none, [], 12, 47, 48, 0) := z_ftd (by decide +kernel)
theorem t208_4 : z_ft 208 4 = some (.bipush 16, 2, none, [], 0, 0, 0, 0) := z_ftd (by decide +kernel)
theorem t208_6 : z_ft 208 6 = some (.iload_n 1, 1, none, [], 0, 0, 0, 0) := z_ftd (by decide +kernel)
theorem t208_7 : z_ft 208 7 = some (.imul, 1, none, [], 0, 0, 0, 0) := z_ftd (by decide +kernel)
theorem t208_8 : z_ft 208 8 = some (.iload_n 2, 1, none, [], 0, 0, 0, 0) := z_ftd (by decide +kernel)
theorem t208_9 : z_ft 208 9 = some (.iadd, 1, none, [], 0, 0, 0, 0) := z_ftd (by decide +kernel)
theorem t208_10 : z_ft 208 10 = some (.iaload, 1, none, [], 0, 0, 0, 0) := z_ftd (by decide +kernel)
theorem t208_11 : z_ft 208 11 = some (.iconst (-1), 1, none, [], 0, 0, 0, 0) := z_ftd (by decide +kernel)
theorem t208_12 : z_ft 208 12 = some (.if_icmp .ne 16, 3, none, [], 28, 0, 0, 0) := z_ftd (by decide +kernel)
theorem t208_15 : z_ft 208 15 = some (.aload_n 0, 1, none, [], 0, 0, 0, 0) := z_ftd (by decide +kernel)
theorem t208_16 : z_ft 208 16 = some (.iload_n 1, 1, none, [], 0, 0, 0, 0) := z_ftd (by decide +kernel)
theorem t208_17 : z_ft 208 17 = some (.iload_n 2, 1, none, [], 0, 0, 0, 0) := z_ftd (by decide +kernel)
theorem t208_18 : z_ft 208 18 = some (.invokevirtual 426, 3, none, [], 207, 0, 138, 0) := z_ftd (by decide +kernel)
theorem t208_21 : z_ft 208 21 = some (.ifCond .ne 7, 3, none, [], 28, 0, 0, 0) := z_ftd (by decide +kernel)
theorem t208_24 : z_ft 208 24 = some (.iconst 1, 1, none, [], 0, 0, 0, 0) := z_ftd (by decide +kernel)
theorem t208_25 : z_ft 208 25 = some (.goto 4, 3, none, [], 29, 0, 0, 0) := z_ftd (by decide +kernel)
theorem t208_28 : z_ft 208 28 = some (.iconst 0, 1, (some []), [], 0, 0, 0, 0) := z_ftd (by decide +kernel)
theorem t208_29 : z_ft 208 29 = some (.ireturn, 1, (some []), [], 0, 0, 0, 0) := z_ftd (by decide +kernel)
noncomputable def b208_28 (d : Nat)  (S : z_S) : Option (Int32 × z_S) := zk kI z_X0 d 208 28 [z_j, z_j, z_j] [] S
theorem b208_28_eq (d : Nat)  (S : z_S) (hW : z_W S)  : b208_28 d  S = some ((0 : Int32), S) := by
  unfold b208_28
  refine (k_iconst t208_28 rfl zci_0).trans ?_
  refine (zk_mk (ls' := [z_j, z_j, z_j]) t208_29 rfl).trans ?_
  exact k_zretC t208_29 rfl (by decide) (by decide)
-- X12_isFree
theorem e208 (d : Nat) (x1 : Int32) (x2 : Int32) (S : z_S) (hW : z_W S)  : fI (d + 1) 208 [.ref 396, .int x1, .int x2] S = (if z_in (((16 : Int32) * x1) + x2) 352 then (if ¬ (gI S 423 ((((16 : Int32) * x1) + x2)).toNatClampNeg) = (-1 : Int32) then b208_28 d S else (zb (fI d 207 [.ref 396, .int x1, .int x2] S) fun v3 S4 => (if ¬ v3 = (0 : Int32) then b208_28 d S4 else some ((1 : Int32), S4)))) else none) := by
  refine (fI_en (Nat.le_of_ble_eq_true rfl) rfl).trans ?_
  refine (k_aload_n t208_0 rfl rfl).trans ?_
  refine (k_getR t208_1 rfl hW zK_396 (by decide) (by decide) (zF_396_47 hW)).trans ?_
  refine (k_bipush t208_4 rfl zcb_16).trans ?_
  refine (k_iload_n t208_6 rfl rfl).trans ?_
  refine (k_imul t208_7 rfl).trans ?_
  refine (k_iload_n t208_8 rfl rfl).trans ?_
  refine (k_iadd t208_9 rfl).trans ?_
  refine (k_iald t208_10 rfl hW zK_423 zL_423).trans (z_ite (fun g1 => ?_) (fun _ => rfl))
  refine (k_iconst t208_11 rfl zci_m1).trans ?_
  refine (k_icmp_ne t208_12 rfl).trans (z_ite (fun g2 => ?_) (fun g2 => ?_))
  · exact (zk_mk (ls' := [z_j, z_j, z_j]) t208_28 rfl)
  · refine (k_aload_n t208_15 rfl rfl).trans ?_
    refine (k_iload_n t208_16 rfl rfl).trans ?_
    refine (k_iload_n t208_17 rfl rfl).trans ?_
    refine k_callI (as := [.ref 396, .int x1, .int x2]) (rest := []) t208_18 rfl rfl (by decide) rfl rfl (Nat.le_of_ble_eq_true rfl) rfl (z_rcV hW (zK_396) (by decide)) (by decide) (Or.inr (by decide)) hW (fun v3 S4 hW4 => ?_)
    refine (k_if_ne t208_21 rfl).trans (z_ite (fun g5 => ?_) (fun g5 => ?_))
    · exact (zk_mk (ls' := [z_j, z_j, z_j]) t208_28 rfl)
    · refine (k_iconst t208_24 rfl zci_1).trans ?_
      refine (k_goto t208_25 rfl).trans ?_
      refine (zk_mk (ls' := [z_j, z_j, z_j]) t208_29 rfl).trans ?_
      exact k_zretC t208_29 rfl (by decide) (by decide)
theorem t209_0 : z_ft 209 0 = some (.iconst 0, 1, none, [], 0, 0, 0, 0) := z_ftd (by decide +kernel)
theorem t209_1 : z_ft 209 1 = some (.istore_n 2, 1, none, [], 0, 0, 0, 0) := z_ftd (by decide +kernel)
theorem t209_2 : z_ft 209 2 = some (.iconst 0, 1, none, [], 0, 0, 0, 0) := z_ftd (by decide +kernel)
theorem t209_3 : z_ft 209 3 = some (.istore_n 3, 1, none, [], 0, 0, 0, 0) := z_ftd (by decide +kernel)
theorem t209_4 : z_ft 209 4 = some (.iload_n 3, 1, (some [0, 1, 2, 3]), [], 0, 0, 0, 0) := z_ftd (by decide +kernel)
theorem t209_5 : z_ft 209 5 = some (.aload_n 0, 1, none, [], 0, 0, 0, 0) := z_ftd (by decide +kernel)
theorem t209_6 : z_ft 209 6 = some (.getfield 54, 3, none, [], 12, 14, 15, 0) := z_ftd (by decide +kernel)
theorem t209_9 : z_ft 209 9 = some (.aload_n 0, 1, none, [], 0, 0, 0, 0) := z_ftd (by decide +kernel)
theorem t209_10 : z_ft 209 10 = some (.getfield 51, 3, none, [], 12, 13, 14, 0) := z_ftd (by decide +kernel)
theorem t209_13 : z_ft 209 13 = some (.iaload, 1, none, [], 0, 0, 0, 0) := z_ftd (by decide +kernel)
theorem t209_14 : z_ft 209 14 = some (.if_icmp .ge 26, 3, none, [], 40, 0, 0, 0) := z_ftd (by decide +kernel)
theorem t209_17 : z_ft 209 17 = some (.iload_n 2, 1, none, [], 0, 0, 0, 0) := z_ftd (by decide +kernel)
theorem t209_18 : z_ft 209 18 = some (.aload_n 0, 1, none, [], 0, 0, 0, 0) := z_ftd (by decide +kernel)
theorem t209_19 : z_ft 209 19 = some (.iload_n 1, 1, none, [], 0, 0, 0, 0) := z_ftd (by decide +kernel)
theorem t209_20 : z_ft 209 20 = some (.iload_n 3, 1, none, [], 0, 0, 0, 0) := z_ftd (by decide +kernel)
theorem t209_21 : z_ft 209 21 = some (.invokevirtual 429, 3, none, [], 208, 0, 137, 0) := z_ftd (by decide +kernel)
theorem t209_24 : z_ft 209 24 = some (.ifCond .eq 7, 3, none, [], 31, 0, 0, 0) := z_ftd (by decide +kernel)
theorem t209_27 : z_ft 209 27 = some (.iconst 1, 1, none, [], 0, 0, 0, 0) := z_ftd (by decide +kernel)
theorem t209_28 : z_ft 209 28 = some (.goto 4, 3, none, [], 32, 0, 0, 0) := z_ftd (by decide +kernel)
theorem t209_31 : z_ft 209 31 = some (.iconst 0, 1, none, [], 0, 0, 0, 0) := z_ftd (by decide +kernel)
theorem t209_32 : z_ft 209 32 = some (.iadd, 1, (some [0, 1, 3]), [], 0, 0, 0, 0) := z_ftd (by decide +kernel)
theorem t209_33 : z_ft 209 33 = some (.istore_n 2, 1, none, [], 0, 0, 0, 0) := z_ftd (by decide +kernel)
theorem t209_34 : z_ft 209 34 = some (.iinc 3 1, 3, none, [], 0, 0, 0, 0) := z_ftd (by decide +kernel)
theorem t209_37 : z_ft 209 37 = some (.goto (-33), 3, none, [], 4, 0, 0, 0) := z_ftd (by decide +kernel)
theorem t209_40 : z_ft 209 40 = some (.iload_n 2, 1, none, [], 0, 0, 0, 0) := z_ftd (by decide +kernel)
theorem t209_41 : z_ft 209 41 = some (.ireturn, 1, none, [], 0, 0, 0, 0) := z_ftd (by decide +kernel)
noncomputable def b209_4 (d : Nat) (y1 : Int32) (y2 : Int32) (y3 : Int32) (S : z_S) : Option (Int32 × z_S) := zk kI z_X0 d 209 4 [.ref 396, .int y1, .int y2, .int y3] [] S
noncomputable def b209_32 (d : Nat) (y1 : Int32) (y3 : Int32) (s0 : Int32) (s1 : Int32) (S : z_S) : Option (Int32 × z_S) := zk kI z_X0 d 209 32 [.ref 396, .int y1, z_j, .int y3] [.int s0, .int s1] S
theorem b209_4_eq (d : Nat) (y1 : Int32) (y2 : Int32) (y3 : Int32) (S : z_S) (hW : z_W S)  : b209_4 d y1 y2 y3 S = (if z_in (gI S 396 13) 2 then (if (gI S 398 ((gI S 396 13)).toNatClampNeg) ≤ y3 then some (y2, S) else (zb (fI d 208 [.ref 396, .int y1, .int y3] S) fun v3 S4 => (if v3 = (0 : Int32) then b209_32 d y1 y3 (0 : Int32) y2 S4 else b209_32 d y1 y3 (1 : Int32) y2 S4))) else none) := by
  unfold b209_4
  refine (k_iload_n t209_4 rfl rfl).trans ?_
  refine (k_aload_n t209_5 rfl rfl).trans ?_
  refine (k_getR t209_6 rfl hW zK_396 (by decide) (by decide) (zF_396_14 hW)).trans ?_
  refine (k_aload_n t209_9 rfl rfl).trans ?_
  refine (k_getI t209_10 rfl hW zK_396 (by decide) (by decide)).trans ?_
  refine (k_iald t209_13 rfl hW zK_398 zL_398).trans (z_ite (fun g1 => ?_) (fun _ => rfl))
  refine (k_icmp_ge t209_14 rfl).trans (z_ite (fun g2 => ?_) (fun g2 => ?_))
  · refine (k_iload_n t209_40 rfl rfl).trans ?_
    exact k_ireturn t209_41 rfl (by decide)
  · refine (k_iload_n t209_17 rfl rfl).trans ?_
    refine (k_aload_n t209_18 rfl rfl).trans ?_
    refine (k_iload_n t209_19 rfl rfl).trans ?_
    refine (k_iload_n t209_20 rfl rfl).trans ?_
    refine k_callI (as := [.ref 396, .int y1, .int y3]) (rest := [.int y2]) t209_21 rfl rfl (by decide) rfl rfl (Nat.le_of_ble_eq_true rfl) rfl (z_rcV hW (zK_396) (by decide)) (by decide) (Or.inr (by decide)) hW (fun v3 S4 hW4 => ?_)
    refine (k_if_eq t209_24 rfl).trans (z_ite (fun g5 => ?_) (fun g5 => ?_))
    · refine (k_iconst t209_31 rfl zci_0).trans ?_
      exact (zk_mk (ls' := [.ref 396, .int y1, z_j, .int y3]) t209_32 rfl)
    · refine (k_iconst t209_27 rfl zci_1).trans ?_
      refine (k_goto t209_28 rfl).trans ?_
      exact (zk_mk (ls' := [.ref 396, .int y1, z_j, .int y3]) t209_32 rfl)
theorem b209_32_eq (d : Nat) (y1 : Int32) (y3 : Int32) (s0 : Int32) (s1 : Int32) (S : z_S) (hW : z_W S)  : b209_32 d y1 y3 s0 s1 S = b209_4 d y1 (s1 + s0) (y3 + (1 : Int32)) S := by
  unfold b209_32
  refine (k_iadd t209_32 rfl).trans ?_
  refine (k_istore_n (ls' := [.ref 396, .int y1, .int (s1 + s0), .int y3]) t209_33 rfl rfl).trans ?_
  refine (k_iinc (b := (y3 + (1 : Int32))) (ls' := [.ref 396, .int y1, .int (s1 + s0), .int (y3 + (1 : Int32))]) t209_34 rfl rfl (by rw [zci_1]) rfl).trans ?_
  refine (k_goto t209_37 rfl).trans ?_
  exact (zk_mk (ls' := [.ref 396, .int y1, .int (s1 + s0), .int (y3 + (1 : Int32))]) t209_4 rfl)
-- X12_free
theorem e209 (d : Nat) (x1 : Int32) (S : z_S) (hW : z_W S)  : fI (d + 1) 209 [.ref 396, .int x1] S = b209_4 d x1 (0 : Int32) (0 : Int32) S := by
  refine (fI_en (Nat.le_of_ble_eq_true rfl) rfl).trans ?_
  refine (k_iconst t209_0 rfl zci_0).trans ?_
  refine (k_istore_n (ls' := [.ref 396, .int x1, .int (0 : Int32), z_j]) t209_1 rfl rfl).trans ?_
  refine (k_iconst t209_2 rfl zci_0).trans ?_
  refine (k_istore_n (ls' := [.ref 396, .int x1, .int (0 : Int32), .int (0 : Int32)]) t209_3 rfl rfl).trans ?_
  exact (zk_mk (ls' := [.ref 396, .int x1, .int (0 : Int32), .int (0 : Int32)]) t209_4 rfl)
theorem t210_0 : z_ft 210 0 = some (.aload_n 0, 1, none, [], 0, 0, 0, 0) := z_ftd (by decide +kernel)
theorem t210_1 : z_ft 210 1 = some (.getfield 69, 3, none, [], 12, 19, 20, 0) := z_ftd (by decide +kernel)
theorem t210_4 : z_ft 210 4 = some (.bipush 16, 2, none, [], 0, 0, 0, 0) := z_ftd (by decide +kernel)
theorem t210_6 : z_ft 210 6 = some (.aload_n 0, 1, none, [], 0, 0, 0, 0) := z_ftd (by decide +kernel)
theorem t210_7 : z_ft 210 7 = some (.getfield 51, 3, none, [], 12, 13, 14, 0) := z_ftd (by decide +kernel)
theorem t210_10 : z_ft 210 10 = some (.imul, 1, none, [], 0, 0, 0, 0) := z_ftd (by decide +kernel)
theorem t210_11 : z_ft 210 11 = some (.iload_n 1, 1, none, [], 0, 0, 0, 0) := z_ftd (by decide +kernel)
theorem t210_12 : z_ft 210 12 = some (.iadd, 1, none, [], 0, 0, 0, 0) := z_ftd (by decide +kernel)
theorem t210_13 : z_ft 210 13 = some (.iaload, 1, none, [], 0, 0, 0, 0) := z_ftd (by decide +kernel)
theorem t210_14 : z_ft 210 14 = some (.ireturn, 1, none, [], 0, 0, 0, 0) := z_ftd (by decide +kernel)
-- X12_firstFor
theorem e210 (d : Nat) (x1 : Int32) (S : z_S) (hW : z_W S)  : fI (d + 1) 210 [.ref 396, .int x1] S = (if z_in (((16 : Int32) * (gI S 396 13)) + x1) 32 then some ((gI S 403 ((((16 : Int32) * (gI S 396 13)) + x1)).toNatClampNeg), S) else none) := by
  refine (fI_en (Nat.le_of_ble_eq_true rfl) rfl).trans ?_
  refine (k_aload_n t210_0 rfl rfl).trans ?_
  refine (k_getR t210_1 rfl hW zK_396 (by decide) (by decide) (zF_396_19 hW)).trans ?_
  refine (k_bipush t210_4 rfl zcb_16).trans ?_
  refine (k_aload_n t210_6 rfl rfl).trans ?_
  refine (k_getI t210_7 rfl hW zK_396 (by decide) (by decide)).trans ?_
  refine (k_imul t210_10 rfl).trans ?_
  refine (k_iload_n t210_11 rfl rfl).trans ?_
  refine (k_iadd t210_12 rfl).trans ?_
  refine (k_iald t210_13 rfl hW zK_403 zL_403).trans (z_ite (fun g1 => ?_) (fun _ => rfl))
  exact k_ireturn t210_14 rfl (by decide)
theorem t211_0 : z_ft 211 0 = some (.aload_n 0, 1, none, [], 0, 0, 0, 0) := z_ftd (by decide +kernel)
theorem t211_1 : z_ft 211 1 = some (.getfield 72, 3, none, [], 12, 20, 21, 0) := z_ftd (by decide +kernel)
theorem t211_4 : z_ft 211 4 = some (.bipush 16, 2, none, [], 0, 0, 0, 0) := z_ftd (by decide +kernel)
theorem t211_6 : z_ft 211 6 = some (.aload_n 0, 1, none, [], 0, 0, 0, 0) := z_ftd (by decide +kernel)
theorem t211_7 : z_ft 211 7 = some (.getfield 51, 3, none, [], 12, 13, 14, 0) := z_ftd (by decide +kernel)
theorem t211_10 : z_ft 211 10 = some (.imul, 1, none, [], 0, 0, 0, 0) := z_ftd (by decide +kernel)
theorem t211_11 : z_ft 211 11 = some (.iload_n 1, 1, none, [], 0, 0, 0, 0) := z_ftd (by decide +kernel)
theorem t211_12 : z_ft 211 12 = some (.iadd, 1, none, [], 0, 0, 0, 0) := z_ftd (by decide +kernel)
theorem t211_13 : z_ft 211 13 = some (.iaload, 1, none, [], 0, 0, 0, 0) := z_ftd (by decide +kernel)
theorem t211_14 : z_ft 211 14 = some (.ireturn, 1, none, [], 0, 0, 0, 0) := z_ftd (by decide +kernel)
-- X12_otherFor
theorem e211 (d : Nat) (x1 : Int32) (S : z_S) (hW : z_W S)  : fI (d + 1) 211 [.ref 396, .int x1] S = (if z_in (((16 : Int32) * (gI S 396 13)) + x1) 32 then some ((gI S 404 ((((16 : Int32) * (gI S 396 13)) + x1)).toNatClampNeg), S) else none) := by
  refine (fI_en (Nat.le_of_ble_eq_true rfl) rfl).trans ?_
  refine (k_aload_n t211_0 rfl rfl).trans ?_
  refine (k_getR t211_1 rfl hW zK_396 (by decide) (by decide) (zF_396_20 hW)).trans ?_
  refine (k_bipush t211_4 rfl zcb_16).trans ?_
  refine (k_aload_n t211_6 rfl rfl).trans ?_
  refine (k_getI t211_7 rfl hW zK_396 (by decide) (by decide)).trans ?_
  refine (k_imul t211_10 rfl).trans ?_
  refine (k_iload_n t211_11 rfl rfl).trans ?_
  refine (k_iadd t211_12 rfl).trans ?_
  refine (k_iald t211_13 rfl hW zK_404 zL_404).trans (z_ite (fun g1 => ?_) (fun _ => rfl))
  exact k_ireturn t211_14 rfl (by decide)
theorem t212_0 : z_ft 212 0 = some (.aload_n 0, 1, none, [], 0, 0, 0, 0) := z_ftd (by decide +kernel)
theorem t212_1 : z_ft 212 1 = some (.iload_n 1, 1, none, [], 0, 0, 0, 0) := z_ftd (by decide +kernel)
theorem t212_2 : z_ft 212 2 = some (.invokevirtual 432, 3, none, [], 210, 0, 135, 0) := z_ftd (by decide +kernel)
theorem t212_5 : z_ft 212 5 = some (.iload_n 2, 1, none, [], 0, 0, 0, 0) := z_ftd (by decide +kernel)
theorem t212_6 : z_ft 212 6 = some (.if_icmp .ne 11, 3, none, [], 17, 0, 0, 0) := z_ftd (by decide +kernel)
theorem t212_9 : z_ft 212 9 = some (.aload_n 0, 1, none, [], 0, 0, 0, 0) := z_ftd (by decide +kernel)
theorem t212_10 : z_ft 212 10 = some (.iload_n 1, 1, none, [], 0, 0, 0, 0) := z_ftd (by decide +kernel)
theorem t212_11 : z_ft 212 11 = some (.invokevirtual 435, 3, none, [], 211, 0, 136, 0) := z_ftd (by decide +kernel)
theorem t212_14 : z_ft 212 14 = some (.goto 8, 3, none, [], 22, 0, 0, 0) := z_ftd (by decide +kernel)
theorem t212_17 : z_ft 212 17 = some (.aload_n 0, 1, none, [], 0, 0, 0, 0) := z_ftd (by decide +kernel)
theorem t212_18 : z_ft 212 18 = some (.iload_n 1, 1, none, [], 0, 0, 0, 0) := z_ftd (by decide +kernel)
theorem t212_19 : z_ft 212 19 = some (.invokevirtual 432, 3, none, [], 210, 0, 135, 0) := z_ftd (by decide +kernel)
theorem t212_22 : z_ft 212 22 = some (.ireturn, 1, (some []), [], 0, 0, 0, 0) := z_ftd (by decide +kernel)
-- X12_besides
theorem e212 (d : Nat) (x1 : Int32) (x2 : Int32) (S : z_S) (hW : z_W S)  : fI (d + 1) 212 [.ref 396, .int x1, .int x2] S = (zb (fI d 210 [.ref 396, .int x1] S) fun v1 S2 => (if ¬ v1 = x2 then (zb (fI d 210 [.ref 396, .int x1] S2) fun v4 S5 => some (v4, S5)) else (zb (fI d 211 [.ref 396, .int x1] S2) fun v6 S7 => some (v6, S7)))) := by
  refine (fI_en (Nat.le_of_ble_eq_true rfl) rfl).trans ?_
  refine (k_aload_n t212_0 rfl rfl).trans ?_
  refine (k_iload_n t212_1 rfl rfl).trans ?_
  refine k_callI (as := [.ref 396, .int x1]) (rest := []) t212_2 rfl rfl (by decide) rfl rfl (Nat.le_of_ble_eq_true rfl) rfl (z_rcV hW (zK_396) (by decide)) (by decide) (Or.inl (by decide)) hW (fun v1 S2 hW2 => ?_)
  refine (k_iload_n t212_5 rfl rfl).trans ?_
  refine (k_icmp_ne t212_6 rfl).trans (z_ite (fun g3 => ?_) (fun g3 => ?_))
  · refine (k_aload_n t212_17 rfl rfl).trans ?_
    refine (k_iload_n t212_18 rfl rfl).trans ?_
    refine k_callI (as := [.ref 396, .int x1]) (rest := []) t212_19 rfl rfl (by decide) rfl rfl (Nat.le_of_ble_eq_true rfl) rfl (z_rcV hW2 (zK_396) (by decide)) (by decide) (Or.inl (by decide)) hW2 (fun v4 S5 hW5 => ?_)
    refine (zk_mk (ls' := [z_j, z_j, z_j]) t212_22 rfl).trans ?_
    exact k_ireturn t212_22 rfl (by decide)
  · refine (k_aload_n t212_9 rfl rfl).trans ?_
    refine (k_iload_n t212_10 rfl rfl).trans ?_
    refine k_callI (as := [.ref 396, .int x1]) (rest := []) t212_11 rfl rfl (by decide) rfl rfl (Nat.le_of_ble_eq_true rfl) rfl (z_rcV hW2 (zK_396) (by decide)) (by decide) (Or.inl (by decide)) hW2 (fun v6 S7 hW7 => ?_)
    refine (k_goto t212_14 rfl).trans ?_
    refine (zk_mk (ls' := [z_j, z_j, z_j]) t212_22 rfl).trans ?_
    exact k_ireturn t212_22 rfl (by decide)
theorem t213_0 : z_ft 213 0 = some (.iconst 0, 1, none, [], 0, 0, 0, 0) := z_ftd (by decide +kernel)
theorem t213_1 : z_ft 213 1 = some (.istore_n 3, 1, none, [], 0, 0, 0, 0) := z_ftd (by decide +kernel)
theorem t213_2 : z_ft 213 2 = some (.iload_n 3, 1, (some [0, 1, 2, 3]), [], 0, 0, 0, 0) := z_ftd (by decide +kernel)
theorem t213_3 : z_ft 213 3 = some (.aload_n 0, 1, none, [], 0, 0, 0, 0) := z_ftd (by decide +kernel)
theorem t213_4 : z_ft 213 4 = some (.getfield 54, 3, none, [], 12, 14, 15, 0) := z_ftd (by decide +kernel)
theorem t213_7 : z_ft 213 7 = some (.aload_n 0, 1, none, [], 0, 0, 0, 0) := z_ftd (by decide +kernel)
theorem t213_8 : z_ft 213 8 = some (.getfield 51, 3, none, [], 12, 13, 14, 0) := z_ftd (by decide +kernel)
theorem t213_11 : z_ft 213 11 = some (.iaload, 1, none, [], 0, 0, 0, 0) := z_ftd (by decide +kernel)
theorem t213_12 : z_ft 213 12 = some (.if_icmp .ge 26, 3, none, [], 38, 0, 0, 0) := z_ftd (by decide +kernel)
theorem t213_15 : z_ft 213 15 = some (.aload_n 0, 1, none, [], 0, 0, 0, 0) := z_ftd (by decide +kernel)
theorem t213_16 : z_ft 213 16 = some (.getfield 156, 3, none, [], 12, 47, 48, 0) := z_ftd (by decide +kernel)
theorem t213_19 : z_ft 213 19 = some (.bipush 16, 2, none, [], 0, 0, 0, 0) := z_ftd (by decide +kernel)
theorem t213_21 : z_ft 213 21 = some (.iload_n 1, 1, none, [], 0, 0, 0, 0) := z_ftd (by decide +kernel)
theorem t213_22 : z_ft 213 22 = some (.imul, 1, none, [], 0, 0, 0, 0) := z_ftd (by decide +kernel)
theorem t213_23 : z_ft 213 23 = some (.iload_n 3, 1, none, [], 0, 0, 0, 0) := z_ftd (by decide +kernel)
theorem t213_24 : z_ft 213 24 = some (.iadd, 1, none, [], 0, 0, 0, 0) := z_ftd (by decide +kernel)
theorem t213_25 : z_ft 213 25 = some (.iaload, 1, none, [], 0, 0, 0, 0) := z_ftd (by decide +kernel)
theorem t213_26 : z_ft 213 26 = some (.iload_n 2, 1, none, [], 0, 0, 0, 0) := z_ftd (by decide +kernel)
theorem t213_27 : z_ft 213 27 = some (.if_icmp .ne 5, 3, none, [], 32, 0, 0, 0) := z_ftd (by decide +kernel)
theorem t213_30 : z_ft 213 30 = some (.iload_n 3, 1, none, [], 0, 0, 0, 0) := z_ftd (by decide +kernel)
theorem t213_31 : z_ft 213 31 = some (.ireturn, 1, none, [], 0, 0, 0, 0) := z_ftd (by decide +kernel)
theorem t213_32 : z_ft 213 32 = some (.iinc 3 1, 3, none, [], 0, 0, 0, 0) := z_ftd (by decide +kernel)
theorem t213_35 : z_ft 213 35 = some (.goto (-33), 3, none, [], 2, 0, 0, 0) := z_ftd (by decide +kernel)
theorem t213_38 : z_ft 213 38 = some (.iconst (-1), 1, none, [], 0, 0, 0, 0) := z_ftd (by decide +kernel)
theorem t213_39 : z_ft 213 39 = some (.ireturn, 1, none, [], 0, 0, 0, 0) := z_ftd (by decide +kernel)
noncomputable def b213_2 (d : Nat) (y1 : Int32) (y2 : Int32) (y3 : Int32) (S : z_S) : Option (Int32 × z_S) := zk kI z_X0 d 213 2 [.ref 396, .int y1, .int y2, .int y3] [] S
theorem b213_2_eq (d : Nat) (y1 : Int32) (y2 : Int32) (y3 : Int32) (S : z_S) (hW : z_W S)  : b213_2 d y1 y2 y3 S = (if z_in (gI S 396 13) 2 then (if (gI S 398 ((gI S 396 13)).toNatClampNeg) ≤ y3 then some ((-1 : Int32), S) else (if z_in (((16 : Int32) * y1) + y3) 352 then (if ¬ (gI S 423 ((((16 : Int32) * y1) + y3)).toNatClampNeg) = y2 then b213_2 d y1 y2 (y3 + (1 : Int32)) S else some (y3, S)) else none)) else none) := by
  unfold b213_2
  refine (k_iload_n t213_2 rfl rfl).trans ?_
  refine (k_aload_n t213_3 rfl rfl).trans ?_
  refine (k_getR t213_4 rfl hW zK_396 (by decide) (by decide) (zF_396_14 hW)).trans ?_
  refine (k_aload_n t213_7 rfl rfl).trans ?_
  refine (k_getI t213_8 rfl hW zK_396 (by decide) (by decide)).trans ?_
  refine (k_iald t213_11 rfl hW zK_398 zL_398).trans (z_ite (fun g1 => ?_) (fun _ => rfl))
  refine (k_icmp_ge t213_12 rfl).trans (z_ite (fun g2 => ?_) (fun g2 => ?_))
  · refine (k_iconst t213_38 rfl zci_m1).trans ?_
    exact k_ireturn t213_39 rfl (by decide)
  · refine (k_aload_n t213_15 rfl rfl).trans ?_
    refine (k_getR t213_16 rfl hW zK_396 (by decide) (by decide) (zF_396_47 hW)).trans ?_
    refine (k_bipush t213_19 rfl zcb_16).trans ?_
    refine (k_iload_n t213_21 rfl rfl).trans ?_
    refine (k_imul t213_22 rfl).trans ?_
    refine (k_iload_n t213_23 rfl rfl).trans ?_
    refine (k_iadd t213_24 rfl).trans ?_
    refine (k_iald t213_25 rfl hW zK_423 zL_423).trans (z_ite (fun g3 => ?_) (fun _ => rfl))
    refine (k_iload_n t213_26 rfl rfl).trans ?_
    refine (k_icmp_ne t213_27 rfl).trans (z_ite (fun g4 => ?_) (fun g4 => ?_))
    · refine (k_iinc (b := (y3 + (1 : Int32))) (ls' := [.ref 396, .int y1, .int y2, .int (y3 + (1 : Int32))]) t213_32 rfl rfl (by rw [zci_1]) rfl).trans ?_
      refine (k_goto t213_35 rfl).trans ?_
      exact (zk_mk (ls' := [.ref 396, .int y1, .int y2, .int (y3 + (1 : Int32))]) t213_2 rfl)
    · refine (k_iload_n t213_30 rfl rfl).trans ?_
      exact k_ireturn t213_31 rfl (by decide)
-- X12_roomOf
theorem e213 (d : Nat) (x1 : Int32) (x2 : Int32) (S : z_S) (hW : z_W S)  : fI (d + 1) 213 [.ref 396, .int x1, .int x2] S = b213_2 d x1 x2 (0 : Int32) S := by
  refine (fI_en (Nat.le_of_ble_eq_true rfl) rfl).trans ?_
  refine (k_iconst t213_0 rfl zci_0).trans ?_
  refine (k_istore_n (ls' := [.ref 396, .int x1, .int x2, .int (0 : Int32)]) t213_1 rfl rfl).trans ?_
  exact (zk_mk (ls' := [.ref 396, .int x1, .int x2, .int (0 : Int32)]) t213_2 rfl)
theorem t214_0 : z_ft 214 0 = some (.iconst 0, 1, none, [], 0, 0, 0, 0) := z_ftd (by decide +kernel)
theorem t214_1 : z_ft 214 1 = some (.istore_n 3, 1, none, [], 0, 0, 0, 0) := z_ftd (by decide +kernel)
theorem t214_2 : z_ft 214 2 = some (.iload_n 3, 1, (some [0, 1, 2, 3]), [], 0, 0, 0, 0) := z_ftd (by decide +kernel)
theorem t214_3 : z_ft 214 3 = some (.aload_n 0, 1, none, [], 0, 0, 0, 0) := z_ftd (by decide +kernel)
theorem t214_4 : z_ft 214 4 = some (.getfield 162, 3, none, [], 12, 49, 50, 0) := z_ftd (by decide +kernel)
theorem t214_7 : z_ft 214 7 = some (.iload_n 1, 1, none, [], 0, 0, 0, 0) := z_ftd (by decide +kernel)
theorem t214_8 : z_ft 214 8 = some (.iaload, 1, none, [], 0, 0, 0, 0) := z_ftd (by decide +kernel)
theorem t214_9 : z_ft 214 9 = some (.if_icmp .ge 26, 3, none, [], 35, 0, 0, 0) := z_ftd (by decide +kernel)
theorem t214_12 : z_ft 214 12 = some (.aload_n 0, 1, none, [], 0, 0, 0, 0) := z_ftd (by decide +kernel)
theorem t214_13 : z_ft 214 13 = some (.getfield 165, 3, none, [], 12, 50, 51, 0) := z_ftd (by decide +kernel)
theorem t214_16 : z_ft 214 16 = some (.bipush 6, 2, none, [], 0, 0, 0, 0) := z_ftd (by decide +kernel)
theorem t214_18 : z_ft 214 18 = some (.iload_n 1, 1, none, [], 0, 0, 0, 0) := z_ftd (by decide +kernel)
theorem t214_19 : z_ft 214 19 = some (.imul, 1, none, [], 0, 0, 0, 0) := z_ftd (by decide +kernel)
theorem t214_20 : z_ft 214 20 = some (.iload_n 3, 1, none, [], 0, 0, 0, 0) := z_ftd (by decide +kernel)
theorem t214_21 : z_ft 214 21 = some (.iadd, 1, none, [], 0, 0, 0, 0) := z_ftd (by decide +kernel)
theorem t214_22 : z_ft 214 22 = some (.iaload, 1, none, [], 0, 0, 0, 0) := z_ftd (by decide +kernel)
theorem t214_23 : z_ft 214 23 = some (.iload_n 2, 1, none, [], 0, 0, 0, 0) := z_ftd (by decide +kernel)
theorem t214_24 : z_ft 214 24 = some (.if_icmp .ne 5, 3, none, [], 29, 0, 0, 0) := z_ftd (by decide +kernel)
theorem t214_27 : z_ft 214 27 = some (.iload_n 3, 1, none, [], 0, 0, 0, 0) := z_ftd (by decide +kernel)
theorem t214_28 : z_ft 214 28 = some (.ireturn, 1, none, [], 0, 0, 0, 0) := z_ftd (by decide +kernel)
theorem t214_29 : z_ft 214 29 = some (.iinc 3 1, 3, none, [], 0, 0, 0, 0) := z_ftd (by decide +kernel)
theorem t214_32 : z_ft 214 32 = some (.goto (-30), 3, none, [], 2, 0, 0, 0) := z_ftd (by decide +kernel)
theorem t214_35 : z_ft 214 35 = some (.iconst (-1), 1, none, [], 0, 0, 0, 0) := z_ftd (by decide +kernel)
theorem t214_36 : z_ft 214 36 = some (.ireturn, 1, none, [], 0, 0, 0, 0) := z_ftd (by decide +kernel)
noncomputable def b214_2 (d : Nat) (y1 : Int32) (y2 : Int32) (y3 : Int32) (S : z_S) : Option (Int32 × z_S) := zk kI z_X0 d 214 2 [.ref 396, .int y1, .int y2, .int y3] [] S
theorem b214_2_eq (d : Nat) (y1 : Int32) (y2 : Int32) (y3 : Int32) (S : z_S) (hW : z_W S)  : b214_2 d y1 y2 y3 S = (if z_in y1 22 then (if (gI S 425 (y1).toNatClampNeg) ≤ y3 then some ((-1 : Int32), S) else (if z_in (((6 : Int32) * y1) + y3) 132 then (if ¬ (gI S 426 ((((6 : Int32) * y1) + y3)).toNatClampNeg) = y2 then b214_2 d y1 y2 (y3 + (1 : Int32)) S else some (y3, S)) else none)) else none) := by
  unfold b214_2
  refine (k_iload_n t214_2 rfl rfl).trans ?_
  refine (k_aload_n t214_3 rfl rfl).trans ?_
  refine (k_getR t214_4 rfl hW zK_396 (by decide) (by decide) (zF_396_49 hW)).trans ?_
  refine (k_iload_n t214_7 rfl rfl).trans ?_
  refine (k_iald t214_8 rfl hW zK_425 zL_425).trans (z_ite (fun g1 => ?_) (fun _ => rfl))
  refine (k_icmp_ge t214_9 rfl).trans (z_ite (fun g2 => ?_) (fun g2 => ?_))
  · refine (k_iconst t214_35 rfl zci_m1).trans ?_
    exact k_ireturn t214_36 rfl (by decide)
  · refine (k_aload_n t214_12 rfl rfl).trans ?_
    refine (k_getR t214_13 rfl hW zK_396 (by decide) (by decide) (zF_396_50 hW)).trans ?_
    refine (k_bipush t214_16 rfl zcb_6).trans ?_
    refine (k_iload_n t214_18 rfl rfl).trans ?_
    refine (k_imul t214_19 rfl).trans ?_
    refine (k_iload_n t214_20 rfl rfl).trans ?_
    refine (k_iadd t214_21 rfl).trans ?_
    refine (k_iald t214_22 rfl hW zK_426 zL_426).trans (z_ite (fun g3 => ?_) (fun _ => rfl))
    refine (k_iload_n t214_23 rfl rfl).trans ?_
    refine (k_icmp_ne t214_24 rfl).trans (z_ite (fun g4 => ?_) (fun g4 => ?_))
    · refine (k_iinc (b := (y3 + (1 : Int32))) (ls' := [.ref 396, .int y1, .int y2, .int (y3 + (1 : Int32))]) t214_29 rfl rfl (by rw [zci_1]) rfl).trans ?_
      refine (k_goto t214_32 rfl).trans ?_
      exact (zk_mk (ls' := [.ref 396, .int y1, .int y2, .int (y3 + (1 : Int32))]) t214_2 rfl)
    · refine (k_iload_n t214_27 rfl rfl).trans ?_
      exact k_ireturn t214_28 rfl (by decide)
-- X12_placeOf
theorem e214 (d : Nat) (x1 : Int32) (x2 : Int32) (S : z_S) (hW : z_W S)  : fI (d + 1) 214 [.ref 396, .int x1, .int x2] S = b214_2 d x1 x2 (0 : Int32) S := by
  refine (fI_en (Nat.le_of_ble_eq_true rfl) rfl).trans ?_
  refine (k_iconst t214_0 rfl zci_0).trans ?_
  refine (k_istore_n (ls' := [.ref 396, .int x1, .int x2, .int (0 : Int32)]) t214_1 rfl rfl).trans ?_
  exact (zk_mk (ls' := [.ref 396, .int x1, .int x2, .int (0 : Int32)]) t214_2 rfl)
theorem t215_0 : z_ft 215 0 = some (.aload_n 0, 1, none, [], 0, 0, 0, 0) := z_ftd (by decide +kernel)
theorem t215_1 : z_ft 215 1 = some (.iload_n 1, 1, none, [], 0, 0, 0, 0) := z_ftd (by decide +kernel)
theorem t215_2 : z_ft 215 2 = some (.iload_n 2, 1, none, [], 0, 0, 0, 0) := z_ftd (by decide +kernel)
theorem t215_3 : z_ft 215 3 = some (.invokevirtual 438, 3, none, [], 213, 0, 159, 0) := z_ftd (by decide +kernel)
theorem t215_6 : z_ft 215 6 = some (.iconst (-1), 1, none, [], 0, 0, 0, 0) := z_ftd (by decide +kernel)
theorem t215_7 : z_ft 215 7 = some (.if_icmp .ne 17, 3, none, [], 24, 0, 0, 0) := z_ftd (by decide +kernel)
theorem t215_10 : z_ft 215 10 = some (.aload_n 0, 1, none, [], 0, 0, 0, 0) := z_ftd (by decide +kernel)
theorem t215_11 : z_ft 215 11 = some (.iload_n 1, 1, none, [], 0, 0, 0, 0) := z_ftd (by decide +kernel)
theorem t215_12 : z_ft 215 12 = some (.iload_n 2, 1, none, [], 0, 0, 0, 0) := z_ftd (by decide +kernel)
theorem t215_13 : z_ft 215 13 = some (.invokevirtual 441, 3, none, [], 214, 0, 160, 0) := z_ftd (by decide +kernel)
theorem t215_16 : z_ft 215 16 = some (.iconst (-1), 1, none, [], 0, 0, 0, 0) := z_ftd (by decide +kernel)
theorem t215_17 : z_ft 215 17 = some (.if_icmp .ne 7, 3, none, [], 24, 0, 0, 0) := z_ftd (by decide +kernel)
theorem t215_20 : z_ft 215 20 = some (.iconst 1, 1, none, [], 0, 0, 0, 0) := z_ftd (by decide +kernel)
theorem t215_21 : z_ft 215 21 = some (.goto 4, 3, none, [], 25, 0, 0, 0) := z_ftd (by decide +kernel)
theorem t215_24 : z_ft 215 24 = some (.iconst 0, 1, (some []), [], 0, 0, 0, 0) := z_ftd (by decide +kernel)
theorem t215_25 : z_ft 215 25 = some (.ireturn, 1, (some []), [], 0, 0, 0, 0) := z_ftd (by decide +kernel)
noncomputable def b215_24 (d : Nat)  (S : z_S) : Option (Int32 × z_S) := zk kI z_X0 d 215 24 [z_j, z_j, z_j] [] S
theorem b215_24_eq (d : Nat)  (S : z_S) (hW : z_W S)  : b215_24 d  S = some ((0 : Int32), S) := by
  unfold b215_24
  refine (k_iconst t215_24 rfl zci_0).trans ?_
  refine (zk_mk (ls' := [z_j, z_j, z_j]) t215_25 rfl).trans ?_
  exact k_zretC t215_25 rfl (by decide) (by decide)
-- X12_isAway
theorem e215 (d : Nat) (x1 : Int32) (x2 : Int32) (S : z_S) (hW : z_W S)  : fI (d + 1) 215 [.ref 396, .int x1, .int x2] S = (zb (fI d 213 [.ref 396, .int x1, .int x2] S) fun v1 S2 => (if ¬ v1 = (-1 : Int32) then b215_24 d S2 else (zb (fI d 214 [.ref 396, .int x1, .int x2] S2) fun v4 S5 => (if ¬ v4 = (-1 : Int32) then b215_24 d S5 else some ((1 : Int32), S5))))) := by
  refine (fI_en (Nat.le_of_ble_eq_true rfl) rfl).trans ?_
  refine (k_aload_n t215_0 rfl rfl).trans ?_
  refine (k_iload_n t215_1 rfl rfl).trans ?_
  refine (k_iload_n t215_2 rfl rfl).trans ?_
  refine k_callI (as := [.ref 396, .int x1, .int x2]) (rest := []) t215_3 rfl rfl (by decide) rfl rfl (Nat.le_of_ble_eq_true rfl) rfl (z_rcV hW (zK_396) (by decide)) (by decide) (Or.inl (by decide)) hW (fun v1 S2 hW2 => ?_)
  refine (k_iconst t215_6 rfl zci_m1).trans ?_
  refine (k_icmp_ne t215_7 rfl).trans (z_ite (fun g3 => ?_) (fun g3 => ?_))
  · exact (zk_mk (ls' := [z_j, z_j, z_j]) t215_24 rfl)
  · refine (k_aload_n t215_10 rfl rfl).trans ?_
    refine (k_iload_n t215_11 rfl rfl).trans ?_
    refine (k_iload_n t215_12 rfl rfl).trans ?_
    refine k_callI (as := [.ref 396, .int x1, .int x2]) (rest := []) t215_13 rfl rfl (by decide) rfl rfl (Nat.le_of_ble_eq_true rfl) rfl (z_rcV hW2 (zK_396) (by decide)) (by decide) (Or.inl (by decide)) hW2 (fun v4 S5 hW5 => ?_)
    refine (k_iconst t215_16 rfl zci_m1).trans ?_
    refine (k_icmp_ne t215_17 rfl).trans (z_ite (fun g6 => ?_) (fun g6 => ?_))
    · exact (zk_mk (ls' := [z_j, z_j, z_j]) t215_24 rfl)
    · refine (k_iconst t215_20 rfl zci_1).trans ?_
      refine (k_goto t215_21 rfl).trans ?_
      refine (zk_mk (ls' := [z_j, z_j, z_j]) t215_25 rfl).trans ?_
      exact k_zretC t215_25 rfl (by decide) (by decide)
theorem t216_0 : z_ft 216 0 = some (.aload_n 0, 1, none, [], 0, 0, 0, 0) := z_ftd (by decide +kernel)
theorem t216_1 : z_ft 216 1 = some (.getfield 189, 3, none, [], 12, 58, 59, 0) := z_ftd (by decide +kernel)
theorem t216_4 : z_ft 216 4 = some (.iconst 1, 1, none, [], 0, 0, 0, 0) := z_ftd (by decide +kernel)
theorem t216_5 : z_ft 216 5 = some (.aload_n 0, 1, none, [], 0, 0, 0, 0) := z_ftd (by decide +kernel)
theorem t216_6 : z_ft 216 6 = some (.getfield 147, 3, none, [], 12, 44, 45, 0) := z_ftd (by decide +kernel)
theorem t216_9 : z_ft 216 9 = some (.iload_n 1, 1, none, [], 0, 0, 0, 0) := z_ftd (by decide +kernel)
theorem t216_10 : z_ft 216 10 = some (.iaload, 1, none, [], 0, 0, 0, 0) := z_ftd (by decide +kernel)
theorem t216_11 : z_ft 216 11 = some (.iastore, 1, none, [], 0, 0, 0, 0) := z_ftd (by decide +kernel)
theorem t216_12 : z_ft 216 12 = some (.aload_n 0, 1, none, [], 0, 0, 0, 0) := z_ftd (by decide +kernel)
theorem t216_13 : z_ft 216 13 = some (.getfield 189, 3, none, [], 12, 58, 59, 0) := z_ftd (by decide +kernel)
theorem t216_16 : z_ft 216 16 = some (.iconst 2, 1, none, [], 0, 0, 0, 0) := z_ftd (by decide +kernel)
theorem t216_17 : z_ft 216 17 = some (.iload_n 2, 1, none, [], 0, 0, 0, 0) := z_ftd (by decide +kernel)
theorem t216_18 : z_ft 216 18 = some (.iastore, 1, none, [], 0, 0, 0, 0) := z_ftd (by decide +kernel)
theorem t216_19 : z_ft 216 19 = some (.aload_n 0, 1, none, [], 0, 0, 0, 0) := z_ftd (by decide +kernel)
theorem t216_20 : z_ft 216 20 = some (.getfield 189, 3, none, [], 12, 58, 59, 0) := z_ftd (by decide +kernel)
theorem t216_23 : z_ft 216 23 = some (.iconst 3, 1, none, [], 0, 0, 0, 0) := z_ftd (by decide +kernel)
theorem t216_24 : z_ft 216 24 = some (.aload_n 0, 1, none, [], 0, 0, 0, 0) := z_ftd (by decide +kernel)
theorem t216_25 : z_ft 216 25 = some (.getfield 159, 3, none, [], 12, 48, 49, 0) := z_ftd (by decide +kernel)
theorem t216_28 : z_ft 216 28 = some (.bipush 16, 2, none, [], 0, 0, 0, 0) := z_ftd (by decide +kernel)
theorem t216_30 : z_ft 216 30 = some (.iload_n 1, 1, none, [], 0, 0, 0, 0) := z_ftd (by decide +kernel)
theorem t216_31 : z_ft 216 31 = some (.imul, 1, none, [], 0, 0, 0, 0) := z_ftd (by decide +kernel)
theorem t216_32 : z_ft 216 32 = some (.aload_n 0, 1, none, [], 0, 0, 0, 0) := z_ftd (by decide +kernel)
theorem t216_33 : z_ft 216 33 = some (.getfield 156, 3, none, [], 12, 47, 48, 0) := z_ftd (by decide +kernel)
theorem t216_36 : z_ft 216 36 = some (.bipush 16, 2, none, [], 0, 0, 0, 0) := z_ftd (by decide +kernel)
theorem t216_38 : z_ft 216 38 = some (.iload_n 1, 1, none, [], 0, 0, 0, 0) := z_ftd (by decide +kernel)
theorem t216_39 : z_ft 216 39 = some (.imul, 1, none, [], 0, 0, 0, 0) := z_ftd (by decide +kernel)
theorem t216_40 : z_ft 216 40 = some (.iload_n 2, 1, none, [], 0, 0, 0, 0) := z_ftd (by decide +kernel)
theorem t216_41 : z_ft 216 41 = some (.iadd, 1, none, [], 0, 0, 0, 0) := z_ftd (by decide +kernel)
theorem t216_42 : z_ft 216 42 = some (.iaload, 1, none, [], 0, 0, 0, 0) := z_ftd (by decide +kernel)
theorem t216_43 : z_ft 216 43 = some (.iadd, 1, none, [], 0, 0, 0, 0) := z_ftd (by decide +kernel)
theorem t216_44 : z_ft 216 44 = some (.iaload, 1, none, [], 0, 0, 0, 0) := z_ftd (by decide +kernel)
theorem t216_45 : z_ft 216 45 = some (.iastore, 1, none, [], 0, 0, 0, 0) := z_ftd (by decide +kernel)
theorem t216_46 : z_ft 216 46 = some (.aload_n 0, 1, none, [], 0, 0, 0, 0) := z_ftd (by decide +kernel)
theorem t216_47 : z_ft 216 47 = some (.getfield 189, 3, none, [], 12, 58, 59, 0) := z_ftd (by decide +kernel)
theorem t216_50 : z_ft 216 50 = some (.iconst 4, 1, none, [], 0, 0, 0, 0) := z_ftd (by decide +kernel)
theorem t216_51 : z_ft 216 51 = some (.aload_n 0, 1, none, [], 0, 0, 0, 0) := z_ftd (by decide +kernel)
theorem t216_52 : z_ft 216 52 = some (.iload_n 1, 1, none, [], 0, 0, 0, 0) := z_ftd (by decide +kernel)
theorem t216_53 : z_ft 216 53 = some (.invokevirtual 444, 3, none, [], 209, 0, 142, 0) := z_ftd (by decide +kernel)
theorem t216_56 : z_ft 216 56 = some (.iastore, 1, none, [], 0, 0, 0, 0) := z_ftd (by decide +kernel)
theorem t216_57 : z_ft 216 57 = some (.return_, 1, none, [], 0, 0, 0, 0) := z_ftd (by decide +kernel)
-- X12_lays
theorem e216 (d : Nat) (x1 : Int32) (x2 : Int32) (S : z_S) (hW : z_W S)  : fV (d + 1) 216 [.ref 396, .int x1, .int x2] S = (if z_in x1 22 then (if z_in (1 : Int32) 10 then (if z_in (2 : Int32) 10 then (if z_in (((16 : Int32) * x1) + x2) 352 then (if z_in (((16 : Int32) * x1) + (gI (sI (sI S 430 ((1 : Int32)).toNatClampNeg (gI S 420 (x1).toNatClampNeg)) 430 ((2 : Int32)).toNatClampNeg x2) 423 ((((16 : Int32) * x1) + x2)).toNatClampNeg)) 352 then (if z_in (3 : Int32) 10 then (zb (fI d 209 [.ref 396, .int x1] (sI (sI (sI S 430 ((1 : Int32)).toNatClampNeg (gI S 420 (x1).toNatClampNeg)) 430 ((2 : Int32)).toNatClampNeg x2) 430 ((3 : Int32)).toNatClampNeg (gI (sI (sI S 430 ((1 : Int32)).toNatClampNeg (gI S 420 (x1).toNatClampNeg)) 430 ((2 : Int32)).toNatClampNeg x2) 424 ((((16 : Int32) * x1) + (gI (sI (sI S 430 ((1 : Int32)).toNatClampNeg (gI S 420 (x1).toNatClampNeg)) 430 ((2 : Int32)).toNatClampNeg x2) 423 ((((16 : Int32) * x1) + x2)).toNatClampNeg))).toNatClampNeg))) fun v7 S8 => (if z_in (4 : Int32) 10 then some (sI S8 430 ((4 : Int32)).toNatClampNeg v7) else none)) else none) else none) else none) else none) else none) else none) := by
  refine (fV_en (Nat.le_of_ble_eq_true rfl) rfl).trans ?_
  refine (k_aload_n t216_0 rfl rfl).trans ?_
  refine (k_getR t216_1 rfl hW zK_396 (by decide) (by decide) (zF_396_58 hW)).trans ?_
  refine (k_iconst t216_4 rfl zci_1).trans ?_
  refine (k_aload_n t216_5 rfl rfl).trans ?_
  refine (k_getR t216_6 rfl hW zK_396 (by decide) (by decide) (zF_396_44 hW)).trans ?_
  refine (k_iload_n t216_9 rfl rfl).trans ?_
  refine (k_iald t216_10 rfl hW zK_420 zL_420).trans (z_ite (fun g1 => ?_) (fun _ => rfl))
  refine (k_iast t216_11 rfl hW zK_430 zL_430).trans (z_ite (fun g2 => ?_) (fun _ => rfl))
  refine (k_aload_n t216_12 rfl rfl).trans ?_
  refine (k_getR t216_13 rfl hW.sI zK_396 (by decide) (by decide) (zF_396_58 hW.sI)).trans ?_
  refine (k_iconst t216_16 rfl zci_2).trans ?_
  refine (k_iload_n t216_17 rfl rfl).trans ?_
  refine (k_iast t216_18 rfl hW.sI zK_430 zL_430).trans (z_ite (fun g3 => ?_) (fun _ => rfl))
  refine (k_aload_n t216_19 rfl rfl).trans ?_
  refine (k_getR t216_20 rfl hW.sI.sI zK_396 (by decide) (by decide) (zF_396_58 hW.sI.sI)).trans ?_
  refine (k_iconst t216_23 rfl zci_3).trans ?_
  refine (k_aload_n t216_24 rfl rfl).trans ?_
  refine (k_getR t216_25 rfl hW.sI.sI zK_396 (by decide) (by decide) (zF_396_48 hW.sI.sI)).trans ?_
  refine (k_bipush t216_28 rfl zcb_16).trans ?_
  refine (k_iload_n t216_30 rfl rfl).trans ?_
  refine (k_imul t216_31 rfl).trans ?_
  refine (k_aload_n t216_32 rfl rfl).trans ?_
  refine (k_getR t216_33 rfl hW.sI.sI zK_396 (by decide) (by decide) (zF_396_47 hW.sI.sI)).trans ?_
  refine (k_bipush t216_36 rfl zcb_16).trans ?_
  refine (k_iload_n t216_38 rfl rfl).trans ?_
  refine (k_imul t216_39 rfl).trans ?_
  refine (k_iload_n t216_40 rfl rfl).trans ?_
  refine (k_iadd t216_41 rfl).trans ?_
  refine (k_iald t216_42 rfl hW.sI.sI zK_423 zL_423).trans (z_ite (fun g4 => ?_) (fun _ => rfl))
  refine (k_iadd t216_43 rfl).trans ?_
  refine (k_iald t216_44 rfl hW.sI.sI zK_424 zL_424).trans (z_ite (fun g5 => ?_) (fun _ => rfl))
  refine (k_iast t216_45 rfl hW.sI.sI zK_430 zL_430).trans (z_ite (fun g6 => ?_) (fun _ => rfl))
  refine (k_aload_n t216_46 rfl rfl).trans ?_
  refine (k_getR t216_47 rfl hW.sI.sI.sI zK_396 (by decide) (by decide) (zF_396_58 hW.sI.sI.sI)).trans ?_
  refine (k_iconst t216_50 rfl zci_4).trans ?_
  refine (k_aload_n t216_51 rfl rfl).trans ?_
  refine (k_iload_n t216_52 rfl rfl).trans ?_
  refine k_callI (as := [.ref 396, .int x1]) (rest := [.int (4 : Int32), .ref 430]) t216_53 rfl rfl (by decide) rfl rfl (Nat.le_of_ble_eq_true rfl) rfl (z_rcV hW.sI.sI.sI (zK_396) (by decide)) (by decide) (Or.inl (by decide)) hW.sI.sI.sI (fun v7 S8 hW8 => ?_)
  refine (k_iast t216_56 rfl hW8 zK_430 zL_430).trans (z_ite (fun g9 => ?_) (fun _ => rfl))
  exact k_return t216_57 rfl (by decide)
theorem t217_0 : z_ft 217 0 = some (.aload_n 0, 1, none, [], 0, 0, 0, 0) := z_ftd (by decide +kernel)
theorem t217_1 : z_ft 217 1 = some (.getfield 156, 3, none, [], 12, 47, 48, 0) := z_ftd (by decide +kernel)
theorem t217_4 : z_ft 217 4 = some (.bipush 16, 2, none, [], 0, 0, 0, 0) := z_ftd (by decide +kernel)
theorem t217_6 : z_ft 217 6 = some (.iload_n 1, 1, none, [], 0, 0, 0, 0) := z_ftd (by decide +kernel)
theorem t217_7 : z_ft 217 7 = some (.imul, 1, none, [], 0, 0, 0, 0) := z_ftd (by decide +kernel)
theorem t217_8 : z_ft 217 8 = some (.iload_n 2, 1, none, [], 0, 0, 0, 0) := z_ftd (by decide +kernel)
theorem t217_9 : z_ft 217 9 = some (.iadd, 1, none, [], 0, 0, 0, 0) := z_ftd (by decide +kernel)
theorem t217_10 : z_ft 217 10 = some (.iaload, 1, none, [], 0, 0, 0, 0) := z_ftd (by decide +kernel)
theorem t217_11 : z_ft 217 11 = some (.iconst (-1), 1, none, [], 0, 0, 0, 0) := z_ftd (by decide +kernel)
theorem t217_12 : z_ft 217 12 = some (.if_icmp .eq 11, 3, none, [], 23, 0, 0, 0) := z_ftd (by decide +kernel)
theorem t217_15 : z_ft 217 15 = some (.iload_n 3, 1, none, [], 0, 0, 0, 0) := z_ftd (by decide +kernel)
theorem t217_16 : z_ft 217 16 = some (.aload_n 0, 1, none, [], 0, 0, 0, 0) := z_ftd (by decide +kernel)
theorem t217_17 : z_ft 217 17 = some (.getfield 183, 3, none, [], 12, 56, 57, 0) := z_ftd (by decide +kernel)
theorem t217_20 : z_ft 217 20 = some (.if_icmp .lt 5, 3, none, [], 25, 0, 0, 0) := z_ftd (by decide +kernel)
theorem t217_23 : z_ft 217 23 = some (.iconst 0, 1, (some []), [], 0, 0, 0, 0) := z_ftd (by decide +kernel)
theorem t217_24 : z_ft 217 24 = some (.ireturn, 1, none, [], 0, 0, 0, 0) := z_ftd (by decide +kernel)
theorem t217_25 : z_ft 217 25 = some (.aload_n 0, 1, none, [], 0, 0, 0, 0) := z_ftd (by decide +kernel)
theorem t217_26 : z_ft 217 26 = some (.iconst 0, 1, none, [], 0, 0, 0, 0) := z_ftd (by decide +kernel)
theorem t217_27 : z_ft 217 27 = some (.invokevirtual 447, 3, none, [], 205, 0, 140, 0) := z_ftd (by decide +kernel)
theorem t217_30 : z_ft 217 30 = some (.ifCond .ne 5, 3, none, [], 35, 0, 0, 0) := z_ftd (by decide +kernel)
theorem t217_33 : z_ft 217 33 = some (.iconst 1, 1, none, [], 0, 0, 0, 0) := z_ftd (by decide +kernel)
theorem t217_34 : z_ft 217 34 = some (.ireturn, 1, none, [], 0, 0, 0, 0) := z_ftd (by decide +kernel)
theorem t217_35 : z_ft 217 35 = some (.aload_n 0, 1, none, [], 0, 0, 0, 0) := z_ftd (by decide +kernel)
theorem t217_36 : z_ft 217 36 = some (.iload_n 1, 1, none, [], 0, 0, 0, 0) := z_ftd (by decide +kernel)
theorem t217_37 : z_ft 217 37 = some (.iload_n 2, 1, none, [], 0, 0, 0, 0) := z_ftd (by decide +kernel)
theorem t217_38 : z_ft 217 38 = some (.invokevirtual 450, 3, none, [], 216, 0, 141, 0) := z_ftd (by decide +kernel)
theorem t217_41 : z_ft 217 41 = some (.aload_n 0, 1, none, [], 0, 0, 0, 0) := z_ftd (by decide +kernel)
theorem t217_42 : z_ft 217 42 = some (.getfield 189, 3, none, [], 12, 58, 59, 0) := z_ftd (by decide +kernel)
theorem t217_45 : z_ft 217 45 = some (.iconst 5, 1, none, [], 0, 0, 0, 0) := z_ftd (by decide +kernel)
theorem t217_46 : z_ft 217 46 = some (.iload_n 3, 1, none, [], 0, 0, 0, 0) := z_ftd (by decide +kernel)
theorem t217_47 : z_ft 217 47 = some (.iastore, 1, none, [], 0, 0, 0, 0) := z_ftd (by decide +kernel)
theorem t217_48 : z_ft 217 48 = some (.aload_n 0, 1, none, [], 0, 0, 0, 0) := z_ftd (by decide +kernel)
theorem t217_49 : z_ft 217 49 = some (.iconst 0, 1, none, [], 0, 0, 0, 0) := z_ftd (by decide +kernel)
theorem t217_50 : z_ft 217 50 = some (.invokevirtual 453, 3, none, [], 204, 0, 143, 0) := z_ftd (by decide +kernel)
theorem t217_53 : z_ft 217 53 = some (.lconst 1, 1, none, [], 0, 0, 0, 0) := z_ftd (by decide +kernel)
theorem t217_54 : z_ft 217 54 = some (.lcmp, 1, none, [], 0, 0, 0, 0) := z_ftd (by decide +kernel)
theorem t217_55 : z_ft 217 55 = some (.ifCond .ne 7, 3, none, [], 62, 0, 0, 0) := z_ftd (by decide +kernel)
theorem t217_58 : z_ft 217 58 = some (.iconst 1, 1, none, [], 0, 0, 0, 0) := z_ftd (by decide +kernel)
theorem t217_59 : z_ft 217 59 = some (.goto 4, 3, none, [], 63, 0, 0, 0) := z_ftd (by decide +kernel)
theorem t217_62 : z_ft 217 62 = some (.iconst 0, 1, none, [], 0, 0, 0, 0) := z_ftd (by decide +kernel)
theorem t217_63 : z_ft 217 63 = some (.ireturn, 1, (some []), [], 0, 0, 0, 0) := z_ftd (by decide +kernel)
-- X12_isYielding
theorem e217 (d : Nat) (x1 : Int32) (x2 : Int32) (x3 : Int32) (S : z_S) (hW : z_W S)  : fI (d + 1) 217 [.ref 396, .int x1, .int x2, .int x3] S = (if z_in (((16 : Int32) * x1) + x2) 352 then (if (gI S 423 ((((16 : Int32) * x1) + x2)).toNatClampNeg) = (-1 : Int32) then some ((0 : Int32), S) else (if x3 < (gI S 396 56) then (zb (fI d 205 [.ref 396, .int (0 : Int32)] S) fun v4 S5 => (if ¬ v4 = (0 : Int32) then ((fV d 216 [.ref 396, .int x1, .int x2] S5).bind fun S8 => (if z_in (5 : Int32) 10 then (zb (fL d 204 [.ref 396, .int (0 : Int32)] (sI S8 430 ((5 : Int32)).toNatClampNeg x3)) fun v10 S11 => (if ¬ (lg_cmp v10 (1 : Int64)) = (0 : Int32) then some ((0 : Int32), S11) else some ((1 : Int32), S11))) else none)) else some ((1 : Int32), S5))) else some ((0 : Int32), S))) else none) := by
  refine (fI_en (Nat.le_of_ble_eq_true rfl) rfl).trans ?_
  refine (k_aload_n t217_0 rfl rfl).trans ?_
  refine (k_getR t217_1 rfl hW zK_396 (by decide) (by decide) (zF_396_47 hW)).trans ?_
  refine (k_bipush t217_4 rfl zcb_16).trans ?_
  refine (k_iload_n t217_6 rfl rfl).trans ?_
  refine (k_imul t217_7 rfl).trans ?_
  refine (k_iload_n t217_8 rfl rfl).trans ?_
  refine (k_iadd t217_9 rfl).trans ?_
  refine (k_iald t217_10 rfl hW zK_423 zL_423).trans (z_ite (fun g1 => ?_) (fun _ => rfl))
  refine (k_iconst t217_11 rfl zci_m1).trans ?_
  refine (k_icmp_eq t217_12 rfl).trans (z_ite (fun g2 => ?_) (fun g2 => ?_))
  · refine (zk_mk (ls' := [z_j, z_j, z_j, z_j]) t217_23 rfl).trans ?_
    refine (k_iconst t217_23 rfl zci_0).trans ?_
    exact k_zretC t217_24 rfl (by decide) (by decide)
  · refine (k_iload_n t217_15 rfl rfl).trans ?_
    refine (k_aload_n t217_16 rfl rfl).trans ?_
    refine (k_getI t217_17 rfl hW zK_396 (by decide) (by decide)).trans ?_
    refine (k_icmp_lt t217_20 rfl).trans (z_ite (fun g3 => ?_) (fun g3 => ?_))
    · refine (k_aload_n t217_25 rfl rfl).trans ?_
      refine (k_iconst t217_26 rfl zci_0).trans ?_
      refine k_callI (as := [.ref 396, .int (0 : Int32)]) (rest := []) t217_27 rfl rfl (by decide) rfl rfl (Nat.le_of_ble_eq_true rfl) rfl (z_rcV hW (zK_396) (by decide)) (by decide) (Or.inr (by decide)) hW (fun v4 S5 hW5 => ?_)
      refine (k_if_ne t217_30 rfl).trans (z_ite (fun g6 => ?_) (fun g6 => ?_))
      · refine (k_aload_n t217_35 rfl rfl).trans ?_
        refine (k_iload_n t217_36 rfl rfl).trans ?_
        refine (k_iload_n t217_37 rfl rfl).trans ?_
        refine k_callV (as := [.ref 396, .int x1, .int x2]) (rest := []) t217_38 rfl rfl (by decide) rfl rfl (Nat.le_of_ble_eq_true rfl) rfl (z_rcV hW5 (zK_396) (by decide)) (by decide) (by decide) hW5 (fun S8 hW8 => ?_)
        refine (k_aload_n t217_41 rfl rfl).trans ?_
        refine (k_getR t217_42 rfl hW8 zK_396 (by decide) (by decide) (zF_396_58 hW8)).trans ?_
        refine (k_iconst t217_45 rfl zci_5).trans ?_
        refine (k_iload_n t217_46 rfl rfl).trans ?_
        refine (k_iast t217_47 rfl hW8 zK_430 zL_430).trans (z_ite (fun g9 => ?_) (fun _ => rfl))
        refine (k_aload_n t217_48 rfl rfl).trans ?_
        refine (k_iconst t217_49 rfl zci_0).trans ?_
        refine k_callL (as := [.ref 396, .int (0 : Int32)]) (rest := []) t217_50 rfl rfl (by decide) rfl rfl (Nat.le_of_ble_eq_true rfl) rfl (z_rcV hW8.sI (zK_396) (by decide)) (by decide) (by decide) hW8.sI (fun v10 S11 hW11 => ?_)
        refine (k_lconst t217_53 rfl (z := (1 : Int64)) rfl).trans ?_
        refine (k_lcmp t217_54 rfl).trans ?_
        refine (k_if_ne t217_55 rfl).trans (z_ite (fun g12 => ?_) (fun g12 => ?_))
        · refine (k_iconst t217_62 rfl zci_0).trans ?_
          refine (zk_mk (ls' := [z_j, z_j, z_j, z_j]) t217_63 rfl).trans ?_
          exact k_zretC t217_63 rfl (by decide) (by decide)
        · refine (k_iconst t217_58 rfl zci_1).trans ?_
          refine (k_goto t217_59 rfl).trans ?_
          refine (zk_mk (ls' := [z_j, z_j, z_j, z_j]) t217_63 rfl).trans ?_
          exact k_zretC t217_63 rfl (by decide) (by decide)
      · refine (k_iconst t217_33 rfl zci_1).trans ?_
        exact k_zretC t217_34 rfl (by decide) (by decide)
    · refine (zk_mk (ls' := [z_j, z_j, z_j, z_j]) t217_23 rfl).trans ?_
      refine (k_iconst t217_23 rfl zci_0).trans ?_
      exact k_zretC t217_24 rfl (by decide) (by decide)
theorem t218_0 : z_ft 218 0 = some (.aload_n 0, 1, none, [], 0, 0, 0, 0) := z_ftd (by decide +kernel)
theorem t218_1 : z_ft 218 1 = some (.getfield 168, 3, none, [], 12, 51, 52, 0) := z_ftd (by decide +kernel)
theorem t218_4 : z_ft 218 4 = some (.iload_n 1, 1, none, [], 0, 0, 0, 0) := z_ftd (by decide +kernel)
theorem t218_5 : z_ft 218 5 = some (.iaload, 1, none, [], 0, 0, 0, 0) := z_ftd (by decide +kernel)
theorem t218_6 : z_ft 218 6 = some (.bipush 40, 2, none, [], 0, 0, 0, 0) := z_ftd (by decide +kernel)
theorem t218_8 : z_ft 218 8 = some (.if_icmp .ne 55, 3, none, [], 63, 0, 0, 0) := z_ftd (by decide +kernel)
theorem t218_11 : z_ft 218 11 = some (.bipush 120, 2, none, [], 0, 0, 0, 0) := z_ftd (by decide +kernel)
theorem t218_13 : z_ft 218 13 = some (.iload_n 1, 1, none, [], 0, 0, 0, 0) := z_ftd (by decide +kernel)
theorem t218_14 : z_ft 218 14 = some (.imul, 1, none, [], 0, 0, 0, 0) := z_ftd (by decide +kernel)
theorem t218_15 : z_ft 218 15 = some (.istore 4, 2, none, [], 0, 0, 0, 0) := z_ftd (by decide +kernel)
theorem t218_17 : z_ft 218 17 = some (.iload 4, 2, (some [0, 1, 2, 3, 4]), [], 0, 0, 0, 0) := z_ftd (by decide +kernel)
theorem t218_19 : z_ft 218 19 = some (.bipush 120, 2, none, [], 0, 0, 0, 0) := z_ftd (by decide +kernel)
theorem t218_21 : z_ft 218 21 = some (.iload_n 1, 1, none, [], 0, 0, 0, 0) := z_ftd (by decide +kernel)
theorem t218_22 : z_ft 218 22 = some (.imul, 1, none, [], 0, 0, 0, 0) := z_ftd (by decide +kernel)
theorem t218_23 : z_ft 218 23 = some (.bipush 120, 2, none, [], 0, 0, 0, 0) := z_ftd (by decide +kernel)
theorem t218_25 : z_ft 218 25 = some (.iadd, 1, none, [], 0, 0, 0, 0) := z_ftd (by decide +kernel)
theorem t218_26 : z_ft 218 26 = some (.iconst 3, 1, none, [], 0, 0, 0, 0) := z_ftd (by decide +kernel)
theorem t218_27 : z_ft 218 27 = some (.isub, 1, none, [], 0, 0, 0, 0) := z_ftd (by decide +kernel)
theorem t218_28 : z_ft 218 28 = some (.if_icmp .ge 25, 3, none, [], 53, 0, 0, 0) := z_ftd (by decide +kernel)
theorem t218_31 : z_ft 218 31 = some (.aload_n 0, 1, none, [], 0, 0, 0, 0) := z_ftd (by decide +kernel)
theorem t218_32 : z_ft 218 32 = some (.getfield 171, 3, none, [], 12, 52, 53, 0) := z_ftd (by decide +kernel)
theorem t218_35 : z_ft 218 35 = some (.iload 4, 2, none, [], 0, 0, 0, 0) := z_ftd (by decide +kernel)
theorem t218_37 : z_ft 218 37 = some (.aload_n 0, 1, none, [], 0, 0, 0, 0) := z_ftd (by decide +kernel)
theorem t218_38 : z_ft 218 38 = some (.getfield 171, 3, none, [], 12, 52, 53, 0) := z_ftd (by decide +kernel)
theorem t218_41 : z_ft 218 41 = some (.iload 4, 2, none, [], 0, 0, 0, 0) := z_ftd (by decide +kernel)
theorem t218_43 : z_ft 218 43 = some (.iconst 3, 1, none, [], 0, 0, 0, 0) := z_ftd (by decide +kernel)
theorem t218_44 : z_ft 218 44 = some (.iadd, 1, none, [], 0, 0, 0, 0) := z_ftd (by decide +kernel)
theorem t218_45 : z_ft 218 45 = some (.iaload, 1, none, [], 0, 0, 0, 0) := z_ftd (by decide +kernel)
theorem t218_46 : z_ft 218 46 = some (.iastore, 1, none, [], 0, 0, 0, 0) := z_ftd (by decide +kernel)
theorem t218_47 : z_ft 218 47 = some (.iinc 4 1, 3, none, [], 0, 0, 0, 0) := z_ftd (by decide +kernel)
theorem t218_50 : z_ft 218 50 = some (.goto (-33), 3, none, [], 17, 0, 0, 0) := z_ftd (by decide +kernel)
theorem t218_53 : z_ft 218 53 = some (.aload_n 0, 1, none, [], 0, 0, 0, 0) := z_ftd (by decide +kernel)
theorem t218_54 : z_ft 218 54 = some (.getfield 168, 3, none, [], 12, 51, 52, 0) := z_ftd (by decide +kernel)
theorem t218_57 : z_ft 218 57 = some (.iload_n 1, 1, none, [], 0, 0, 0, 0) := z_ftd (by decide +kernel)
theorem t218_58 : z_ft 218 58 = some (.dup2, 1, none, [], 0, 0, 0, 0) := z_ftd (by decide +kernel)
theorem t218_59 : z_ft 218 59 = some (.iaload, 1, none, [], 0, 0, 0, 0) := z_ftd (by decide +kernel)
theorem t218_60 : z_ft 218 60 = some (.iconst 1, 1, none, [], 0, 0, 0, 0) := z_ftd (by decide +kernel)
theorem t218_61 : z_ft 218 61 = some (.isub, 1, none, [], 0, 0, 0, 0) := z_ftd (by decide +kernel)
theorem t218_62 : z_ft 218 62 = some (.iastore, 1, none, [], 0, 0, 0, 0) := z_ftd (by decide +kernel)
theorem t218_63 : z_ft 218 63 = some (.iconst 3, 1, (some [0, 1, 2, 3]), [], 0, 0, 0, 0) := z_ftd (by decide +kernel)
theorem t218_64 : z_ft 218 64 = some (.bipush 40, 2, none, [], 0, 0, 0, 0) := z_ftd (by decide +kernel)
theorem t218_66 : z_ft 218 66 = some (.iload_n 1, 1, none, [], 0, 0, 0, 0) := z_ftd (by decide +kernel)
theorem t218_67 : z_ft 218 67 = some (.imul, 1, none, [], 0, 0, 0, 0) := z_ftd (by decide +kernel)
theorem t218_68 : z_ft 218 68 = some (.aload_n 0, 1, none, [], 0, 0, 0, 0) := z_ftd (by decide +kernel)
theorem t218_69 : z_ft 218 69 = some (.getfield 168, 3, none, [], 12, 51, 52, 0) := z_ftd (by decide +kernel)
theorem t218_72 : z_ft 218 72 = some (.iload_n 1, 1, none, [], 0, 0, 0, 0) := z_ftd (by decide +kernel)
theorem t218_73 : z_ft 218 73 = some (.iaload, 1, none, [], 0, 0, 0, 0) := z_ftd (by decide +kernel)
theorem t218_74 : z_ft 218 74 = some (.iadd, 1, none, [], 0, 0, 0, 0) := z_ftd (by decide +kernel)
theorem t218_75 : z_ft 218 75 = some (.imul, 1, none, [], 0, 0, 0, 0) := z_ftd (by decide +kernel)
theorem t218_76 : z_ft 218 76 = some (.istore 4, 2, none, [], 0, 0, 0, 0) := z_ftd (by decide +kernel)
theorem t218_78 : z_ft 218 78 = some (.aload_n 0, 1, none, [], 0, 0, 0, 0) := z_ftd (by decide +kernel)
theorem t218_79 : z_ft 218 79 = some (.getfield 171, 3, none, [], 12, 52, 53, 0) := z_ftd (by decide +kernel)
theorem t218_82 : z_ft 218 82 = some (.iload 4, 2, none, [], 0, 0, 0, 0) := z_ftd (by decide +kernel)
theorem t218_84 : z_ft 218 84 = some (.aload_n 0, 1, none, [], 0, 0, 0, 0) := z_ftd (by decide +kernel)
theorem t218_85 : z_ft 218 85 = some (.getfield 147, 3, none, [], 12, 44, 45, 0) := z_ftd (by decide +kernel)
theorem t218_88 : z_ft 218 88 = some (.iload_n 1, 1, none, [], 0, 0, 0, 0) := z_ftd (by decide +kernel)
theorem t218_89 : z_ft 218 89 = some (.iaload, 1, none, [], 0, 0, 0, 0) := z_ftd (by decide +kernel)
theorem t218_90 : z_ft 218 90 = some (.iastore, 1, none, [], 0, 0, 0, 0) := z_ftd (by decide +kernel)
theorem t218_91 : z_ft 218 91 = some (.aload_n 0, 1, none, [], 0, 0, 0, 0) := z_ftd (by decide +kernel)
theorem t218_92 : z_ft 218 92 = some (.getfield 171, 3, none, [], 12, 52, 53, 0) := z_ftd (by decide +kernel)
theorem t218_95 : z_ft 218 95 = some (.iload 4, 2, none, [], 0, 0, 0, 0) := z_ftd (by decide +kernel)
theorem t218_97 : z_ft 218 97 = some (.iconst 1, 1, none, [], 0, 0, 0, 0) := z_ftd (by decide +kernel)
theorem t218_98 : z_ft 218 98 = some (.iadd, 1, none, [], 0, 0, 0, 0) := z_ftd (by decide +kernel)
theorem t218_99 : z_ft 218 99 = some (.iload_n 2, 1, none, [], 0, 0, 0, 0) := z_ftd (by decide +kernel)
theorem t218_100 : z_ft 218 100 = some (.iastore, 1, none, [], 0, 0, 0, 0) := z_ftd (by decide +kernel)
theorem t218_101 : z_ft 218 101 = some (.aload_n 0, 1, none, [], 0, 0, 0, 0) := z_ftd (by decide +kernel)
theorem t218_102 : z_ft 218 102 = some (.getfield 171, 3, none, [], 12, 52, 53, 0) := z_ftd (by decide +kernel)
theorem t218_105 : z_ft 218 105 = some (.iload 4, 2, none, [], 0, 0, 0, 0) := z_ftd (by decide +kernel)
theorem t218_107 : z_ft 218 107 = some (.iconst 2, 1, none, [], 0, 0, 0, 0) := z_ftd (by decide +kernel)
theorem t218_108 : z_ft 218 108 = some (.iadd, 1, none, [], 0, 0, 0, 0) := z_ftd (by decide +kernel)
theorem t218_109 : z_ft 218 109 = some (.iload_n 3, 1, none, [], 0, 0, 0, 0) := z_ftd (by decide +kernel)
theorem t218_110 : z_ft 218 110 = some (.iastore, 1, none, [], 0, 0, 0, 0) := z_ftd (by decide +kernel)
theorem t218_111 : z_ft 218 111 = some (.aload_n 0, 1, none, [], 0, 0, 0, 0) := z_ftd (by decide +kernel)
theorem t218_112 : z_ft 218 112 = some (.getfield 168, 3, none, [], 12, 51, 52, 0) := z_ftd (by decide +kernel)
theorem t218_115 : z_ft 218 115 = some (.iload_n 1, 1, none, [], 0, 0, 0, 0) := z_ftd (by decide +kernel)
theorem t218_116 : z_ft 218 116 = some (.dup2, 1, none, [], 0, 0, 0, 0) := z_ftd (by decide +kernel)
theorem t218_117 : z_ft 218 117 = some (.iaload, 1, none, [], 0, 0, 0, 0) := z_ftd (by decide +kernel)
theorem t218_118 : z_ft 218 118 = some (.iconst 1, 1, none, [], 0, 0, 0, 0) := z_ftd (by decide +kernel)
theorem t218_119 : z_ft 218 119 = some (.iadd, 1, none, [], 0, 0, 0, 0) := z_ftd (by decide +kernel)
theorem t218_120 : z_ft 218 120 = some (.iastore, 1, none, [], 0, 0, 0, 0) := z_ftd (by decide +kernel)
theorem t218_121 : z_ft 218 121 = some (.return_, 1, none, [], 0, 0, 0, 0) := z_ftd (by decide +kernel)
noncomputable def b218_63 (d : Nat) (y1 : Int32) (y2 : Int32) (y3 : Int32) (S : z_S) : Option z_S := zk kV z_X0 d 218 63 [.ref 396, .int y1, .int y2, .int y3, z_j] [] S
noncomputable def b218_17 (d : Nat) (y1 : Int32) (y2 : Int32) (y3 : Int32) (y4 : Int32) (S : z_S) : Option z_S := zk kV z_X0 d 218 17 [.ref 396, .int y1, .int y2, .int y3, .int y4] [] S
theorem b218_63_eq (d : Nat) (y1 : Int32) (y2 : Int32) (y3 : Int32) (S : z_S) (hW : z_W S)  : b218_63 d y1 y2 y3 S = (if z_in y1 22 then (if z_in y1 22 then (if z_in ((3 : Int32) * (((40 : Int32) * y1) + (gI S 427 (y1).toNatClampNeg))) 2640 then (if z_in (((3 : Int32) * (((40 : Int32) * y1) + (gI S 427 (y1).toNatClampNeg))) + (1 : Int32)) 2640 then (if z_in (((3 : Int32) * (((40 : Int32) * y1) + (gI S 427 (y1).toNatClampNeg))) + (2 : Int32)) 2640 then (if z_in y1 22 then (if z_in y1 22 then some (sI (sI (sI (sI S 428 (((3 : Int32) * (((40 : Int32) * y1) + (gI S 427 (y1).toNatClampNeg)))).toNatClampNeg (gI S 420 (y1).toNatClampNeg)) 428 ((((3 : Int32) * (((40 : Int32) * y1) + (gI S 427 (y1).toNatClampNeg))) + (1 : Int32))).toNatClampNeg y2) 428 ((((3 : Int32) * (((40 : Int32) * y1) + (gI S 427 (y1).toNatClampNeg))) + (2 : Int32))).toNatClampNeg y3) 427 (y1).toNatClampNeg ((gI (sI (sI (sI S 428 (((3 : Int32) * (((40 : Int32) * y1) + (gI S 427 (y1).toNatClampNeg)))).toNatClampNeg (gI S 420 (y1).toNatClampNeg)) 428 ((((3 : Int32) * (((40 : Int32) * y1) + (gI S 427 (y1).toNatClampNeg))) + (1 : Int32))).toNatClampNeg y2) 428 ((((3 : Int32) * (((40 : Int32) * y1) + (gI S 427 (y1).toNatClampNeg))) + (2 : Int32))).toNatClampNeg y3) 427 (y1).toNatClampNeg) + (1 : Int32))) else none) else none) else none) else none) else none) else none) else none) := by
  unfold b218_63
  refine (k_iconst t218_63 rfl zci_3).trans ?_
  refine (k_bipush t218_64 rfl zcb_40).trans ?_
  refine (k_iload_n t218_66 rfl rfl).trans ?_
  refine (k_imul t218_67 rfl).trans ?_
  refine (k_aload_n t218_68 rfl rfl).trans ?_
  refine (k_getR t218_69 rfl hW zK_396 (by decide) (by decide) (zF_396_51 hW)).trans ?_
  refine (k_iload_n t218_72 rfl rfl).trans ?_
  refine (k_iald t218_73 rfl hW zK_427 zL_427).trans (z_ite (fun g3 => ?_) (fun _ => rfl))
  refine (k_iadd t218_74 rfl).trans ?_
  refine (k_imul t218_75 rfl).trans ?_
  refine (k_istore (ls' := [.ref 396, .int y1, .int y2, .int y3, .int ((3 : Int32) * (((40 : Int32) * y1) + (gI S 427 (y1).toNatClampNeg)))]) t218_76 rfl rfl).trans ?_
  refine (k_aload_n t218_78 rfl rfl).trans ?_
  refine (k_getR t218_79 rfl hW zK_396 (by decide) (by decide) (zF_396_52 hW)).trans ?_
  refine (k_iload t218_82 rfl rfl).trans ?_
  refine (k_aload_n t218_84 rfl rfl).trans ?_
  refine (k_getR t218_85 rfl hW zK_396 (by decide) (by decide) (zF_396_44 hW)).trans ?_
  refine (k_iload_n t218_88 rfl rfl).trans ?_
  refine (k_iald t218_89 rfl hW zK_420 zL_420).trans (z_ite (fun g4 => ?_) (fun _ => rfl))
  refine (k_iast t218_90 rfl hW zK_428 zL_428).trans (z_ite (fun g5 => ?_) (fun _ => rfl))
  refine (k_aload_n t218_91 rfl rfl).trans ?_
  refine (k_getR t218_92 rfl hW.sI zK_396 (by decide) (by decide) (zF_396_52 hW.sI)).trans ?_
  refine (k_iload t218_95 rfl rfl).trans ?_
  refine (k_iconst t218_97 rfl zci_1).trans ?_
  refine (k_iadd t218_98 rfl).trans ?_
  refine (k_iload_n t218_99 rfl rfl).trans ?_
  refine (k_iast t218_100 rfl hW.sI zK_428 zL_428).trans (z_ite (fun g6 => ?_) (fun _ => rfl))
  refine (k_aload_n t218_101 rfl rfl).trans ?_
  refine (k_getR t218_102 rfl hW.sI.sI zK_396 (by decide) (by decide) (zF_396_52 hW.sI.sI)).trans ?_
  refine (k_iload t218_105 rfl rfl).trans ?_
  refine (k_iconst t218_107 rfl zci_2).trans ?_
  refine (k_iadd t218_108 rfl).trans ?_
  refine (k_iload_n t218_109 rfl rfl).trans ?_
  refine (k_iast t218_110 rfl hW.sI.sI zK_428 zL_428).trans (z_ite (fun g7 => ?_) (fun _ => rfl))
  refine (k_aload_n t218_111 rfl rfl).trans ?_
  refine (k_getR t218_112 rfl hW.sI.sI.sI zK_396 (by decide) (by decide) (zF_396_51 hW.sI.sI.sI)).trans ?_
  refine (k_iload_n t218_115 rfl rfl).trans ?_
  refine (k_dup2IR t218_116 rfl).trans ?_
  refine (k_iald t218_117 rfl hW.sI.sI.sI zK_427 zL_427).trans (z_ite (fun g8 => ?_) (fun _ => rfl))
  refine (k_iconst t218_118 rfl zci_1).trans ?_
  refine (k_iadd t218_119 rfl).trans ?_
  refine (k_iast t218_120 rfl hW.sI.sI.sI zK_427 zL_427).trans (z_ite (fun g9 => ?_) (fun _ => rfl))
  exact k_return t218_121 rfl (by decide)
theorem b218_17_eq (d : Nat) (y1 : Int32) (y2 : Int32) (y3 : Int32) (y4 : Int32) (S : z_S) (hW : z_W S)  : b218_17 d y1 y2 y3 y4 S = (if ((((120 : Int32) * y1) + (120 : Int32)) - (3 : Int32)) ≤ y4 then (if z_in y1 22 then (if z_in y1 22 then b218_63 d y1 y2 y3 (sI S 427 (y1).toNatClampNeg ((gI S 427 (y1).toNatClampNeg) - (1 : Int32))) else none) else none) else (if z_in (y4 + (3 : Int32)) 2640 then (if z_in y4 2640 then b218_17 d y1 y2 y3 (y4 + (1 : Int32)) (sI S 428 (y4).toNatClampNeg (gI S 428 ((y4 + (3 : Int32))).toNatClampNeg)) else none) else none)) := by
  unfold b218_17
  refine (k_iload t218_17 rfl rfl).trans ?_
  refine (k_bipush t218_19 rfl zcb_120).trans ?_
  refine (k_iload_n t218_21 rfl rfl).trans ?_
  refine (k_imul t218_22 rfl).trans ?_
  refine (k_bipush t218_23 rfl zcb_120).trans ?_
  refine (k_iadd t218_25 rfl).trans ?_
  refine (k_iconst t218_26 rfl zci_3).trans ?_
  refine (k_isub t218_27 rfl).trans ?_
  refine (k_icmp_ge t218_28 rfl).trans (z_ite (fun g10 => ?_) (fun g10 => ?_))
  · refine (k_aload_n t218_53 rfl rfl).trans ?_
    refine (k_getR t218_54 rfl hW zK_396 (by decide) (by decide) (zF_396_51 hW)).trans ?_
    refine (k_iload_n t218_57 rfl rfl).trans ?_
    refine (k_dup2IR t218_58 rfl).trans ?_
    refine (k_iald t218_59 rfl hW zK_427 zL_427).trans (z_ite (fun g11 => ?_) (fun _ => rfl))
    refine (k_iconst t218_60 rfl zci_1).trans ?_
    refine (k_isub t218_61 rfl).trans ?_
    refine (k_iast t218_62 rfl hW zK_427 zL_427).trans (z_ite (fun g12 => ?_) (fun _ => rfl))
    exact (zk_mk (ls' := [.ref 396, .int y1, .int y2, .int y3, z_j]) t218_63 rfl)
  · refine (k_aload_n t218_31 rfl rfl).trans ?_
    refine (k_getR t218_32 rfl hW zK_396 (by decide) (by decide) (zF_396_52 hW)).trans ?_
    refine (k_iload t218_35 rfl rfl).trans ?_
    refine (k_aload_n t218_37 rfl rfl).trans ?_
    refine (k_getR t218_38 rfl hW zK_396 (by decide) (by decide) (zF_396_52 hW)).trans ?_
    refine (k_iload t218_41 rfl rfl).trans ?_
    refine (k_iconst t218_43 rfl zci_3).trans ?_
    refine (k_iadd t218_44 rfl).trans ?_
    refine (k_iald t218_45 rfl hW zK_428 zL_428).trans (z_ite (fun g13 => ?_) (fun _ => rfl))
    refine (k_iast t218_46 rfl hW zK_428 zL_428).trans (z_ite (fun g14 => ?_) (fun _ => rfl))
    refine (k_iinc (b := (y4 + (1 : Int32))) (ls' := [.ref 396, .int y1, .int y2, .int y3, .int (y4 + (1 : Int32))]) t218_47 rfl rfl (by rw [zci_1]) rfl).trans ?_
    refine (k_goto t218_50 rfl).trans ?_
    exact (zk_mk (ls' := [.ref 396, .int y1, .int y2, .int y3, .int (y4 + (1 : Int32))]) t218_17 rfl)
-- X12_writesDown
theorem e218 (d : Nat) (x1 : Int32) (x2 : Int32) (x3 : Int32) (S : z_S) (hW : z_W S)  : fV (d + 1) 218 [.ref 396, .int x1, .int x2, .int x3] S = (if z_in x1 22 then (if ¬ (gI S 427 (x1).toNatClampNeg) = (40 : Int32) then b218_63 d x1 x2 x3 S else b218_17 d x1 x2 x3 ((120 : Int32) * x1) S) else none) := by
  refine (fV_en (Nat.le_of_ble_eq_true rfl) rfl).trans ?_
  refine (k_aload_n t218_0 rfl rfl).trans ?_
  refine (k_getR t218_1 rfl hW zK_396 (by decide) (by decide) (zF_396_51 hW)).trans ?_
  refine (k_iload_n t218_4 rfl rfl).trans ?_
  refine (k_iald t218_5 rfl hW zK_427 zL_427).trans (z_ite (fun g1 => ?_) (fun _ => rfl))
  refine (k_bipush t218_6 rfl zcb_40).trans ?_
  refine (k_icmp_ne t218_8 rfl).trans (z_ite (fun g2 => ?_) (fun g2 => ?_))
  · exact (zk_mk (ls' := [.ref 396, .int x1, .int x2, .int x3, z_j]) t218_63 rfl)
  · refine (k_bipush t218_11 rfl zcb_120).trans ?_
    refine (k_iload_n t218_13 rfl rfl).trans ?_
    refine (k_imul t218_14 rfl).trans ?_
    refine (k_istore (ls' := [.ref 396, .int x1, .int x2, .int x3, .int ((120 : Int32) * x1)]) t218_15 rfl rfl).trans ?_
    exact (zk_mk (ls' := [.ref 396, .int x1, .int x2, .int x3, .int ((120 : Int32) * x1)]) t218_17 rfl)
theorem t219_0 : z_ft 219 0 = some (.aload_n 0, 1, none, [], 0, 0, 0, 0) := z_ftd (by decide +kernel)
theorem t219_1 : z_ft 219 1 = some (.getfield 156, 3, none, [], 12, 47, 48, 0) := z_ftd (by decide +kernel)
theorem t219_4 : z_ft 219 4 = some (.bipush 16, 2, none, [], 0, 0, 0, 0) := z_ftd (by decide +kernel)
theorem t219_6 : z_ft 219 6 = some (.iload_n 1, 1, none, [], 0, 0, 0, 0) := z_ftd (by decide +kernel)
theorem t219_7 : z_ft 219 7 = some (.imul, 1, none, [], 0, 0, 0, 0) := z_ftd (by decide +kernel)
theorem t219_8 : z_ft 219 8 = some (.iload_n 3, 1, none, [], 0, 0, 0, 0) := z_ftd (by decide +kernel)
theorem t219_9 : z_ft 219 9 = some (.iadd, 1, none, [], 0, 0, 0, 0) := z_ftd (by decide +kernel)
theorem t219_10 : z_ft 219 10 = some (.iload_n 2, 1, none, [], 0, 0, 0, 0) := z_ftd (by decide +kernel)
theorem t219_11 : z_ft 219 11 = some (.iastore, 1, none, [], 0, 0, 0, 0) := z_ftd (by decide +kernel)
theorem t219_12 : z_ft 219 12 = some (.aload_n 0, 1, none, [], 0, 0, 0, 0) := z_ftd (by decide +kernel)
theorem t219_13 : z_ft 219 13 = some (.getfield 159, 3, none, [], 12, 48, 49, 0) := z_ftd (by decide +kernel)
theorem t219_16 : z_ft 219 16 = some (.bipush 16, 2, none, [], 0, 0, 0, 0) := z_ftd (by decide +kernel)
theorem t219_18 : z_ft 219 18 = some (.iload_n 1, 1, none, [], 0, 0, 0, 0) := z_ftd (by decide +kernel)
theorem t219_19 : z_ft 219 19 = some (.imul, 1, none, [], 0, 0, 0, 0) := z_ftd (by decide +kernel)
theorem t219_20 : z_ft 219 20 = some (.iload_n 2, 1, none, [], 0, 0, 0, 0) := z_ftd (by decide +kernel)
theorem t219_21 : z_ft 219 21 = some (.iadd, 1, none, [], 0, 0, 0, 0) := z_ftd (by decide +kernel)
theorem t219_22 : z_ft 219 22 = some (.iconst 0, 1, none, [], 0, 0, 0, 0) := z_ftd (by decide +kernel)
theorem t219_23 : z_ft 219 23 = some (.iastore, 1, none, [], 0, 0, 0, 0) := z_ftd (by decide +kernel)
theorem t219_24 : z_ft 219 24 = some (.return_, 1, none, [], 0, 0, 0, 0) := z_ftd (by decide +kernel)
-- X12_beds
theorem e219 (d : Nat) (x1 : Int32) (x2 : Int32) (x3 : Int32) (S : z_S) (hW : z_W S)  : fV (d + 1) 219 [.ref 396, .int x1, .int x2, .int x3] S = (if z_in (((16 : Int32) * x1) + x3) 352 then (if z_in (((16 : Int32) * x1) + x2) 352 then some (sI (sI S 423 ((((16 : Int32) * x1) + x3)).toNatClampNeg x2) 424 ((((16 : Int32) * x1) + x2)).toNatClampNeg (0 : Int32)) else none) else none) := by
  refine (fV_en (Nat.le_of_ble_eq_true rfl) rfl).trans ?_
  refine (k_aload_n t219_0 rfl rfl).trans ?_
  refine (k_getR t219_1 rfl hW zK_396 (by decide) (by decide) (zF_396_47 hW)).trans ?_
  refine (k_bipush t219_4 rfl zcb_16).trans ?_
  refine (k_iload_n t219_6 rfl rfl).trans ?_
  refine (k_imul t219_7 rfl).trans ?_
  refine (k_iload_n t219_8 rfl rfl).trans ?_
  refine (k_iadd t219_9 rfl).trans ?_
  refine (k_iload_n t219_10 rfl rfl).trans ?_
  refine (k_iast t219_11 rfl hW zK_423 zL_423).trans (z_ite (fun g1 => ?_) (fun _ => rfl))
  refine (k_aload_n t219_12 rfl rfl).trans ?_
  refine (k_getR t219_13 rfl hW.sI zK_396 (by decide) (by decide) (zF_396_48 hW.sI)).trans ?_
  refine (k_bipush t219_16 rfl zcb_16).trans ?_
  refine (k_iload_n t219_18 rfl rfl).trans ?_
  refine (k_imul t219_19 rfl).trans ?_
  refine (k_iload_n t219_20 rfl rfl).trans ?_
  refine (k_iadd t219_21 rfl).trans ?_
  refine (k_iconst t219_22 rfl zci_0).trans ?_
  refine (k_iast t219_23 rfl hW.sI zK_424 zL_424).trans (z_ite (fun g2 => ?_) (fun _ => rfl))
  exact k_return t219_24 rfl (by decide)
theorem t220_0 : z_ft 220 0 = some (.iconst 0, 1, none, [], 0, 0, 0, 0) := z_ftd (by decide +kernel)
theorem t220_1 : z_ft 220 1 = some (.istore_n 3, 1, none, [], 0, 0, 0, 0) := z_ftd (by decide +kernel)
theorem t220_2 : z_ft 220 2 = some (.iload_n 2, 1, none, [], 0, 0, 0, 0) := z_ftd (by decide +kernel)
theorem t220_3 : z_ft 220 3 = some (.istore 4, 2, none, [], 0, 0, 0, 0) := z_ftd (by decide +kernel)
theorem t220_5 : z_ft 220 5 = some (.aload_n 0, 1, none, [], 0, 0, 0, 0) := z_ftd (by decide +kernel)
theorem t220_6 : z_ft 220 6 = some (.iload_n 2, 1, none, [], 0, 0, 0, 0) := z_ftd (by decide +kernel)
theorem t220_7 : z_ft 220 7 = some (.invokevirtual 432, 3, none, [], 210, 0, 135, 0) := z_ftd (by decide +kernel)
theorem t220_10 : z_ft 220 10 = some (.istore 5, 2, none, [], 0, 0, 0, 0) := z_ftd (by decide +kernel)
theorem t220_12 : z_ft 220 12 = some (.aload_n 0, 1, none, [], 0, 0, 0, 0) := z_ftd (by decide +kernel)
theorem t220_13 : z_ft 220 13 = some (.iload_n 2, 1, none, [], 0, 0, 0, 0) := z_ftd (by decide +kernel)
theorem t220_14 : z_ft 220 14 = some (.invokevirtual 435, 3, none, [], 211, 0, 136, 0) := z_ftd (by decide +kernel)
theorem t220_17 : z_ft 220 17 = some (.istore 6, 2, none, [], 0, 0, 0, 0) := z_ftd (by decide +kernel)
theorem t220_19 : z_ft 220 19 = some (.aload_n 0, 1, none, [], 0, 0, 0, 0) := z_ftd (by decide +kernel)
theorem t220_20 : z_ft 220 20 = some (.iload_n 1, 1, none, [], 0, 0, 0, 0) := z_ftd (by decide +kernel)
theorem t220_21 : z_ft 220 21 = some (.iload 5, 2, none, [], 0, 0, 0, 0) := z_ftd (by decide +kernel)
theorem t220_23 : z_ft 220 23 = some (.invokevirtual 429, 3, none, [], 208, 0, 137, 0) := z_ftd (by decide +kernel)
theorem t220_26 : z_ft 220 26 = some (.ifCond .eq 8, 3, none, [], 34, 0, 0, 0) := z_ftd (by decide +kernel)
theorem t220_29 : z_ft 220 29 = some (.iload 5, 2, none, [], 0, 0, 0, 0) := z_ftd (by decide +kernel)
theorem t220_31 : z_ft 220 31 = some (.goto 51, 3, none, [], 82, 0, 0, 0) := z_ftd (by decide +kernel)
theorem t220_34 : z_ft 220 34 = some (.aload_n 0, 1, none, [], 0, 0, 0, 0) := z_ftd (by decide +kernel)
theorem t220_35 : z_ft 220 35 = some (.iload_n 1, 1, none, [], 0, 0, 0, 0) := z_ftd (by decide +kernel)
theorem t220_36 : z_ft 220 36 = some (.iload 6, 2, none, [], 0, 0, 0, 0) := z_ftd (by decide +kernel)
theorem t220_38 : z_ft 220 38 = some (.invokevirtual 429, 3, none, [], 208, 0, 137, 0) := z_ftd (by decide +kernel)
theorem t220_41 : z_ft 220 41 = some (.ifCond .eq 8, 3, none, [], 49, 0, 0, 0) := z_ftd (by decide +kernel)
theorem t220_44 : z_ft 220 44 = some (.iload 6, 2, none, [], 0, 0, 0, 0) := z_ftd (by decide +kernel)
theorem t220_46 : z_ft 220 46 = some (.goto 36, 3, none, [], 82, 0, 0, 0) := z_ftd (by decide +kernel)
theorem t220_49 : z_ft 220 49 = some (.aload_n 0, 1, none, [], 0, 0, 0, 0) := z_ftd (by decide +kernel)
theorem t220_50 : z_ft 220 50 = some (.iload_n 1, 1, none, [], 0, 0, 0, 0) := z_ftd (by decide +kernel)
theorem t220_51 : z_ft 220 51 = some (.iload 5, 2, none, [], 0, 0, 0, 0) := z_ftd (by decide +kernel)
theorem t220_53 : z_ft 220 53 = some (.iconst 0, 1, none, [], 0, 0, 0, 0) := z_ftd (by decide +kernel)
theorem t220_54 : z_ft 220 54 = some (.invokevirtual 457, 3, none, [], 217, 0, 139, 0) := z_ftd (by decide +kernel)
theorem t220_57 : z_ft 220 57 = some (.ifCond .eq 8, 3, none, [], 65, 0, 0, 0) := z_ftd (by decide +kernel)
theorem t220_60 : z_ft 220 60 = some (.iload 5, 2, none, [], 0, 0, 0, 0) := z_ftd (by decide +kernel)
theorem t220_62 : z_ft 220 62 = some (.goto 20, 3, none, [], 82, 0, 0, 0) := z_ftd (by decide +kernel)
theorem t220_65 : z_ft 220 65 = some (.aload_n 0, 1, none, [], 0, 0, 0, 0) := z_ftd (by decide +kernel)
theorem t220_66 : z_ft 220 66 = some (.iload_n 1, 1, none, [], 0, 0, 0, 0) := z_ftd (by decide +kernel)
theorem t220_67 : z_ft 220 67 = some (.iload 6, 2, none, [], 0, 0, 0, 0) := z_ftd (by decide +kernel)
theorem t220_69 : z_ft 220 69 = some (.iconst 0, 1, none, [], 0, 0, 0, 0) := z_ftd (by decide +kernel)
theorem t220_70 : z_ft 220 70 = some (.invokevirtual 457, 3, none, [], 217, 0, 139, 0) := z_ftd (by decide +kernel)
theorem t220_73 : z_ft 220 73 = some (.ifCond .eq 8, 3, none, [], 81, 0, 0, 0) := z_ftd (by decide +kernel)
theorem t220_76 : z_ft 220 76 = some (.iload 6, 2, none, [], 0, 0, 0, 0) := z_ftd (by decide +kernel)
theorem t220_78 : z_ft 220 78 = some (.goto 4, 3, none, [], 82, 0, 0, 0) := z_ftd (by decide +kernel)
theorem t220_81 : z_ft 220 81 = some (.iconst (-1), 1, none, [], 0, 0, 0, 0) := z_ftd (by decide +kernel)
theorem t220_82 : z_ft 220 82 = some (.istore 7, 2, (some [0, 1, 3, 4]), [], 0, 0, 0, 0) := z_ftd (by decide +kernel)
theorem t220_84 : z_ft 220 84 = some (.iload 7, 2, (some [0, 1, 3, 4, 7]), [], 0, 0, 0, 0) := z_ftd (by decide +kernel)
theorem t220_86 : z_ft 220 86 = some (.iconst (-1), 1, none, [], 0, 0, 0, 0) := z_ftd (by decide +kernel)
theorem t220_87 : z_ft 220 87 = some (.if_icmp .eq 113, 3, none, [], 200, 0, 0, 0) := z_ftd (by decide +kernel)
theorem t220_90 : z_ft 220 90 = some (.aload_n 0, 1, none, [], 0, 0, 0, 0) := z_ftd (by decide +kernel)
theorem t220_91 : z_ft 220 91 = some (.getfield 156, 3, none, [], 12, 47, 48, 0) := z_ftd (by decide +kernel)
theorem t220_94 : z_ft 220 94 = some (.bipush 16, 2, none, [], 0, 0, 0, 0) := z_ftd (by decide +kernel)
theorem t220_96 : z_ft 220 96 = some (.iload_n 1, 1, none, [], 0, 0, 0, 0) := z_ftd (by decide +kernel)
theorem t220_97 : z_ft 220 97 = some (.imul, 1, none, [], 0, 0, 0, 0) := z_ftd (by decide +kernel)
theorem t220_98 : z_ft 220 98 = some (.iload 7, 2, none, [], 0, 0, 0, 0) := z_ftd (by decide +kernel)
theorem t220_100 : z_ft 220 100 = some (.iadd, 1, none, [], 0, 0, 0, 0) := z_ftd (by decide +kernel)
theorem t220_101 : z_ft 220 101 = some (.iaload, 1, none, [], 0, 0, 0, 0) := z_ftd (by decide +kernel)
theorem t220_102 : z_ft 220 102 = some (.istore 8, 2, none, [], 0, 0, 0, 0) := z_ftd (by decide +kernel)
theorem t220_104 : z_ft 220 104 = some (.aload_n 0, 1, none, [], 0, 0, 0, 0) := z_ftd (by decide +kernel)
theorem t220_105 : z_ft 220 105 = some (.iload_n 1, 1, none, [], 0, 0, 0, 0) := z_ftd (by decide +kernel)
theorem t220_106 : z_ft 220 106 = some (.iload 4, 2, none, [], 0, 0, 0, 0) := z_ftd (by decide +kernel)
theorem t220_108 : z_ft 220 108 = some (.iload 7, 2, none, [], 0, 0, 0, 0) := z_ftd (by decide +kernel)
theorem t220_110 : z_ft 220 110 = some (.invokevirtual 460, 3, none, [], 219, 0, 149, 0) := z_ftd (by decide +kernel)
theorem t220_113 : z_ft 220 113 = some (.iload 8, 2, none, [], 0, 0, 0, 0) := z_ftd (by decide +kernel)
theorem t220_115 : z_ft 220 115 = some (.iconst (-1), 1, none, [], 0, 0, 0, 0) := z_ftd (by decide +kernel)
theorem t220_116 : z_ft 220 116 = some (.if_icmp .ne 5, 3, none, [], 121, 0, 0, 0) := z_ftd (by decide +kernel)
theorem t220_119 : z_ft 220 119 = some (.iload_n 3, 1, none, [], 0, 0, 0, 0) := z_ftd (by decide +kernel)
theorem t220_120 : z_ft 220 120 = some (.ireturn, 1, none, [], 0, 0, 0, 0) := z_ftd (by decide +kernel)
theorem t220_121 : z_ft 220 121 = some (.aload_n 0, 1, none, [], 0, 0, 0, 0) := z_ftd (by decide +kernel)
theorem t220_122 : z_ft 220 122 = some (.getfield 192, 3, none, [], 12, 59, 60, 0) := z_ftd (by decide +kernel)
theorem t220_125 : z_ft 220 125 = some (.iload_n 3, 1, none, [], 0, 0, 0, 0) := z_ftd (by decide +kernel)
theorem t220_126 : z_ft 220 126 = some (.iload 8, 2, none, [], 0, 0, 0, 0) := z_ftd (by decide +kernel)
theorem t220_128 : z_ft 220 128 = some (.iastore, 1, none, [], 0, 0, 0, 0) := z_ftd (by decide +kernel)
theorem t220_129 : z_ft 220 129 = some (.iinc 3 1, 3, none, [], 0, 0, 0, 0) := z_ftd (by decide +kernel)
theorem t220_132 : z_ft 220 132 = some (.aload_n 0, 1, none, [], 0, 0, 0, 0) := z_ftd (by decide +kernel)
theorem t220_133 : z_ft 220 133 = some (.getfield 159, 3, none, [], 12, 48, 49, 0) := z_ftd (by decide +kernel)
theorem t220_136 : z_ft 220 136 = some (.bipush 16, 2, none, [], 0, 0, 0, 0) := z_ftd (by decide +kernel)
theorem t220_138 : z_ft 220 138 = some (.iload_n 1, 1, none, [], 0, 0, 0, 0) := z_ftd (by decide +kernel)
theorem t220_139 : z_ft 220 139 = some (.imul, 1, none, [], 0, 0, 0, 0) := z_ftd (by decide +kernel)
theorem t220_140 : z_ft 220 140 = some (.iload 8, 2, none, [], 0, 0, 0, 0) := z_ftd (by decide +kernel)
theorem t220_142 : z_ft 220 142 = some (.iadd, 1, none, [], 0, 0, 0, 0) := z_ftd (by decide +kernel)
theorem t220_143 : z_ft 220 143 = some (.iconst 0, 1, none, [], 0, 0, 0, 0) := z_ftd (by decide +kernel)
theorem t220_144 : z_ft 220 144 = some (.iastore, 1, none, [], 0, 0, 0, 0) := z_ftd (by decide +kernel)
theorem t220_145 : z_ft 220 145 = some (.aload_n 0, 1, none, [], 0, 0, 0, 0) := z_ftd (by decide +kernel)
theorem t220_146 : z_ft 220 146 = some (.iload_n 1, 1, none, [], 0, 0, 0, 0) := z_ftd (by decide +kernel)
theorem t220_147 : z_ft 220 147 = some (.iload 8, 2, none, [], 0, 0, 0, 0) := z_ftd (by decide +kernel)
theorem t220_149 : z_ft 220 149 = some (.iload 7, 2, none, [], 0, 0, 0, 0) := z_ftd (by decide +kernel)
theorem t220_151 : z_ft 220 151 = some (.invokevirtual 464, 3, none, [], 218, 0, 150, 0) := z_ftd (by decide +kernel)
theorem t220_154 : z_ft 220 154 = some (.iload 8, 2, none, [], 0, 0, 0, 0) := z_ftd (by decide +kernel)
theorem t220_156 : z_ft 220 156 = some (.istore 4, 2, none, [], 0, 0, 0, 0) := z_ftd (by decide +kernel)
theorem t220_158 : z_ft 220 158 = some (.aload_n 0, 1, none, [], 0, 0, 0, 0) := z_ftd (by decide +kernel)
theorem t220_159 : z_ft 220 159 = some (.iload 8, 2, none, [], 0, 0, 0, 0) := z_ftd (by decide +kernel)
theorem t220_161 : z_ft 220 161 = some (.iload 7, 2, none, [], 0, 0, 0, 0) := z_ftd (by decide +kernel)
theorem t220_163 : z_ft 220 163 = some (.invokevirtual 467, 3, none, [], 212, 0, 151, 0) := z_ftd (by decide +kernel)
theorem t220_166 : z_ft 220 166 = some (.istore 9, 2, none, [], 0, 0, 0, 0) := z_ftd (by decide +kernel)
theorem t220_168 : z_ft 220 168 = some (.aload_n 0, 1, none, [], 0, 0, 0, 0) := z_ftd (by decide +kernel)
theorem t220_169 : z_ft 220 169 = some (.iload_n 1, 1, none, [], 0, 0, 0, 0) := z_ftd (by decide +kernel)
theorem t220_170 : z_ft 220 170 = some (.iload 9, 2, none, [], 0, 0, 0, 0) := z_ftd (by decide +kernel)
theorem t220_172 : z_ft 220 172 = some (.invokevirtual 429, 3, none, [], 208, 0, 137, 0) := z_ftd (by decide +kernel)
theorem t220_175 : z_ft 220 175 = some (.ifCond .ne 14, 3, none, [], 189, 0, 0, 0) := z_ftd (by decide +kernel)
theorem t220_178 : z_ft 220 178 = some (.aload_n 0, 1, none, [], 0, 0, 0, 0) := z_ftd (by decide +kernel)
theorem t220_179 : z_ft 220 179 = some (.iload_n 1, 1, none, [], 0, 0, 0, 0) := z_ftd (by decide +kernel)
theorem t220_180 : z_ft 220 180 = some (.iload 9, 2, none, [], 0, 0, 0, 0) := z_ftd (by decide +kernel)
theorem t220_182 : z_ft 220 182 = some (.iload_n 3, 1, none, [], 0, 0, 0, 0) := z_ftd (by decide +kernel)
theorem t220_183 : z_ft 220 183 = some (.invokevirtual 457, 3, none, [], 217, 0, 139, 0) := z_ftd (by decide +kernel)
theorem t220_186 : z_ft 220 186 = some (.ifCond .eq 8, 3, none, [], 194, 0, 0, 0) := z_ftd (by decide +kernel)
theorem t220_189 : z_ft 220 189 = some (.iload 9, 2, (some [0, 1, 3, 4, 9]), [], 0, 0, 0, 0) := z_ftd (by decide +kernel)
theorem t220_191 : z_ft 220 191 = some (.goto 4, 3, none, [], 195, 0, 0, 0) := z_ftd (by decide +kernel)
theorem t220_194 : z_ft 220 194 = some (.iconst (-1), 1, none, [], 0, 0, 0, 0) := z_ftd (by decide +kernel)
theorem t220_195 : z_ft 220 195 = some (.istore 7, 2, (some [0, 1, 3, 4]), [], 0, 0, 0, 0) := z_ftd (by decide +kernel)
theorem t220_197 : z_ft 220 197 = some (.goto (-113), 3, none, [], 84, 0, 0, 0) := z_ftd (by decide +kernel)
theorem t220_200 : z_ft 220 200 = some (.aload_n 0, 1, none, [], 0, 0, 0, 0) := z_ftd (by decide +kernel)
theorem t220_201 : z_ft 220 201 = some (.getfield 162, 3, none, [], 12, 49, 50, 0) := z_ftd (by decide +kernel)
theorem t220_204 : z_ft 220 204 = some (.iload_n 1, 1, none, [], 0, 0, 0, 0) := z_ftd (by decide +kernel)
theorem t220_205 : z_ft 220 205 = some (.iaload, 1, none, [], 0, 0, 0, 0) := z_ftd (by decide +kernel)
theorem t220_206 : z_ft 220 206 = some (.aload_n 0, 1, none, [], 0, 0, 0, 0) := z_ftd (by decide +kernel)
theorem t220_207 : z_ft 220 207 = some (.getfield 57, 3, none, [], 12, 15, 16, 0) := z_ftd (by decide +kernel)
theorem t220_210 : z_ft 220 210 = some (.aload_n 0, 1, none, [], 0, 0, 0, 0) := z_ftd (by decide +kernel)
theorem t220_211 : z_ft 220 211 = some (.getfield 51, 3, none, [], 12, 13, 14, 0) := z_ftd (by decide +kernel)
theorem t220_214 : z_ft 220 214 = some (.iaload, 1, none, [], 0, 0, 0, 0) := z_ftd (by decide +kernel)
theorem t220_215 : z_ft 220 215 = some (.if_icmp .ge 31, 3, none, [], 246, 0, 0, 0) := z_ftd (by decide +kernel)
theorem t220_218 : z_ft 220 218 = some (.aload_n 0, 1, none, [], 0, 0, 0, 0) := z_ftd (by decide +kernel)
theorem t220_219 : z_ft 220 219 = some (.getfield 165, 3, none, [], 12, 50, 51, 0) := z_ftd (by decide +kernel)
theorem t220_222 : z_ft 220 222 = some (.bipush 6, 2, none, [], 0, 0, 0, 0) := z_ftd (by decide +kernel)
theorem t220_224 : z_ft 220 224 = some (.iload_n 1, 1, none, [], 0, 0, 0, 0) := z_ftd (by decide +kernel)
theorem t220_225 : z_ft 220 225 = some (.imul, 1, none, [], 0, 0, 0, 0) := z_ftd (by decide +kernel)
theorem t220_226 : z_ft 220 226 = some (.aload_n 0, 1, none, [], 0, 0, 0, 0) := z_ftd (by decide +kernel)
theorem t220_227 : z_ft 220 227 = some (.getfield 162, 3, none, [], 12, 49, 50, 0) := z_ftd (by decide +kernel)
theorem t220_230 : z_ft 220 230 = some (.iload_n 1, 1, none, [], 0, 0, 0, 0) := z_ftd (by decide +kernel)
theorem t220_231 : z_ft 220 231 = some (.iaload, 1, none, [], 0, 0, 0, 0) := z_ftd (by decide +kernel)
theorem t220_232 : z_ft 220 232 = some (.iadd, 1, none, [], 0, 0, 0, 0) := z_ftd (by decide +kernel)
theorem t220_233 : z_ft 220 233 = some (.iload 4, 2, none, [], 0, 0, 0, 0) := z_ftd (by decide +kernel)
theorem t220_235 : z_ft 220 235 = some (.iastore, 1, none, [], 0, 0, 0, 0) := z_ftd (by decide +kernel)
theorem t220_236 : z_ft 220 236 = some (.aload_n 0, 1, none, [], 0, 0, 0, 0) := z_ftd (by decide +kernel)
theorem t220_237 : z_ft 220 237 = some (.getfield 162, 3, none, [], 12, 49, 50, 0) := z_ftd (by decide +kernel)
theorem t220_240 : z_ft 220 240 = some (.iload_n 1, 1, none, [], 0, 0, 0, 0) := z_ftd (by decide +kernel)
theorem t220_241 : z_ft 220 241 = some (.dup2, 1, none, [], 0, 0, 0, 0) := z_ftd (by decide +kernel)
theorem t220_242 : z_ft 220 242 = some (.iaload, 1, none, [], 0, 0, 0, 0) := z_ftd (by decide +kernel)
theorem t220_243 : z_ft 220 243 = some (.iconst 1, 1, none, [], 0, 0, 0, 0) := z_ftd (by decide +kernel)
theorem t220_244 : z_ft 220 244 = some (.iadd, 1, none, [], 0, 0, 0, 0) := z_ftd (by decide +kernel)
theorem t220_245 : z_ft 220 245 = some (.iastore, 1, none, [], 0, 0, 0, 0) := z_ftd (by decide +kernel)
theorem t220_246 : z_ft 220 246 = some (.iload_n 3, 1, (some [3]), [], 0, 0, 0, 0) := z_ftd (by decide +kernel)
theorem t220_247 : z_ft 220 247 = some (.ireturn, 1, none, [], 0, 0, 0, 0) := z_ftd (by decide +kernel)
noncomputable def b220_82 (d : Nat) (y1 : Int32) (y3 : Int32) (y4 : Int32) (s0 : Int32) (S : z_S) : Option (Int32 × z_S) := zk kI z_X0 d 220 82 [.ref 396, .int y1, z_j, .int y3, .int y4, z_j, z_j, z_j, z_j, z_j] [.int s0] S
noncomputable def b220_84 (d : Nat) (y1 : Int32) (y3 : Int32) (y4 : Int32) (y7 : Int32) (S : z_S) : Option (Int32 × z_S) := zk kI z_X0 d 220 84 [.ref 396, .int y1, z_j, .int y3, .int y4, z_j, z_j, .int y7, z_j, z_j] [] S
noncomputable def b220_189 (d : Nat) (y1 : Int32) (y3 : Int32) (y4 : Int32) (y9 : Int32) (S : z_S) : Option (Int32 × z_S) := zk kI z_X0 d 220 189 [.ref 396, .int y1, z_j, .int y3, .int y4, z_j, z_j, z_j, z_j, .int y9] [] S
noncomputable def b220_195 (d : Nat) (y1 : Int32) (y3 : Int32) (y4 : Int32) (s0 : Int32) (S : z_S) : Option (Int32 × z_S) := zk kI z_X0 d 220 195 [.ref 396, .int y1, z_j, .int y3, .int y4, z_j, z_j, z_j, z_j, z_j] [.int s0] S
theorem b220_82_eq (d : Nat) (y1 : Int32) (y3 : Int32) (y4 : Int32) (s0 : Int32) (S : z_S) (hW : z_W S)  : b220_82 d y1 y3 y4 s0 S = b220_84 d y1 y3 y4 s0 S := by
  unfold b220_82
  refine (k_istore (ls' := [.ref 396, .int y1, z_j, .int y3, .int y4, z_j, z_j, .int s0, z_j, z_j]) t220_82 rfl rfl).trans ?_
  exact (zk_mk (ls' := [.ref 396, .int y1, z_j, .int y3, .int y4, z_j, z_j, .int s0, z_j, z_j]) t220_84 rfl)
theorem b220_84_eq (d : Nat) (y1 : Int32) (y3 : Int32) (y4 : Int32) (y7 : Int32) (S : z_S) (hW : z_W S)  : b220_84 d y1 y3 y4 y7 S = (if y7 = (-1 : Int32) then (if z_in y1 22 then (if z_in (gI S 396 13) 2 then (if (gI S 399 ((gI S 396 13)).toNatClampNeg) ≤ (gI S 425 (y1).toNatClampNeg) then some (y3, S) else (if z_in y1 22 then (if z_in (((6 : Int32) * y1) + (gI S 425 (y1).toNatClampNeg)) 132 then (if z_in y1 22 then (if z_in y1 22 then some (y3, sI (sI S 426 ((((6 : Int32) * y1) + (gI S 425 (y1).toNatClampNeg))).toNatClampNeg y4) 425 (y1).toNatClampNeg ((gI (sI S 426 ((((6 : Int32) * y1) + (gI S 425 (y1).toNatClampNeg))).toNatClampNeg y4) 425 (y1).toNatClampNeg) + (1 : Int32))) else none) else none) else none) else none)) else none) else none) else (if z_in (((16 : Int32) * y1) + y7) 352 then ((fV d 219 [.ref 396, .int y1, .int y4, .int y7] S).bind fun S27 => (if ¬ (gI S 423 ((((16 : Int32) * y1) + y7)).toNatClampNeg) = (-1 : Int32) then (if z_in y3 40 then (if z_in (((16 : Int32) * y1) + (gI S 423 ((((16 : Int32) * y1) + y7)).toNatClampNeg)) 352 then ((fV d 218 [.ref 396, .int y1, .int (gI S 423 ((((16 : Int32) * y1) + y7)).toNatClampNeg), .int y7] (sI (sI S27 431 (y3).toNatClampNeg (gI S 423 ((((16 : Int32) * y1) + y7)).toNatClampNeg)) 424 ((((16 : Int32) * y1) + (gI S 423 ((((16 : Int32) * y1) + y7)).toNatClampNeg))).toNatClampNeg (0 : Int32))).bind fun S32 => (zb (fI d 212 [.ref 396, .int (gI S 423 ((((16 : Int32) * y1) + y7)).toNatClampNeg), .int y7] S32) fun v33 S34 => (zb (fI d 208 [.ref 396, .int y1, .int v33] S34) fun v35 S36 => (if ¬ v35 = (0 : Int32) then b220_189 d y1 (y3 + (1 : Int32)) (gI S 423 ((((16 : Int32) * y1) + y7)).toNatClampNeg) v33 S36 else (zb (fI d 217 [.ref 396, .int y1, .int v33, .int (y3 + (1 : Int32))] S36) fun v38 S39 => (if v38 = (0 : Int32) then b220_195 d y1 (y3 + (1 : Int32)) (gI S 423 ((((16 : Int32) * y1) + y7)).toNatClampNeg) (-1 : Int32) S39 else b220_189 d y1 (y3 + (1 : Int32)) (gI S 423 ((((16 : Int32) * y1) + y7)).toNatClampNeg) v33 S39)))))) else none) else none) else some (y3, S27))) else none)) := by
  unfold b220_84
  refine (k_iload t220_84 rfl rfl).trans ?_
  refine (k_iconst t220_86 rfl zci_m1).trans ?_
  refine (k_icmp_eq t220_87 rfl).trans (z_ite (fun g17 => ?_) (fun g17 => ?_))
  · refine (k_aload_n t220_200 rfl rfl).trans ?_
    refine (k_getR t220_201 rfl hW zK_396 (by decide) (by decide) (zF_396_49 hW)).trans ?_
    refine (k_iload_n t220_204 rfl rfl).trans ?_
    refine (k_iald t220_205 rfl hW zK_425 zL_425).trans (z_ite (fun g18 => ?_) (fun _ => rfl))
    refine (k_aload_n t220_206 rfl rfl).trans ?_
    refine (k_getR t220_207 rfl hW zK_396 (by decide) (by decide) (zF_396_15 hW)).trans ?_
    refine (k_aload_n t220_210 rfl rfl).trans ?_
    refine (k_getI t220_211 rfl hW zK_396 (by decide) (by decide)).trans ?_
    refine (k_iald t220_214 rfl hW zK_399 zL_399).trans (z_ite (fun g19 => ?_) (fun _ => rfl))
    refine (k_icmp_ge t220_215 rfl).trans (z_ite (fun g20 => ?_) (fun g20 => ?_))
    · refine (zk_mk (ls' := [z_j, z_j, z_j, .int y3, z_j, z_j, z_j, z_j, z_j, z_j]) t220_246 rfl).trans ?_
      refine (k_iload_n t220_246 rfl rfl).trans ?_
      exact k_ireturn t220_247 rfl (by decide)
    · refine (k_aload_n t220_218 rfl rfl).trans ?_
      refine (k_getR t220_219 rfl hW zK_396 (by decide) (by decide) (zF_396_50 hW)).trans ?_
      refine (k_bipush t220_222 rfl zcb_6).trans ?_
      refine (k_iload_n t220_224 rfl rfl).trans ?_
      refine (k_imul t220_225 rfl).trans ?_
      refine (k_aload_n t220_226 rfl rfl).trans ?_
      refine (k_getR t220_227 rfl hW zK_396 (by decide) (by decide) (zF_396_49 hW)).trans ?_
      refine (k_iload_n t220_230 rfl rfl).trans ?_
      refine (k_iald t220_231 rfl hW zK_425 zL_425).trans (z_ite (fun g21 => ?_) (fun _ => rfl))
      refine (k_iadd t220_232 rfl).trans ?_
      refine (k_iload t220_233 rfl rfl).trans ?_
      refine (k_iast t220_235 rfl hW zK_426 zL_426).trans (z_ite (fun g22 => ?_) (fun _ => rfl))
      refine (k_aload_n t220_236 rfl rfl).trans ?_
      refine (k_getR t220_237 rfl hW.sI zK_396 (by decide) (by decide) (zF_396_49 hW.sI)).trans ?_
      refine (k_iload_n t220_240 rfl rfl).trans ?_
      refine (k_dup2IR t220_241 rfl).trans ?_
      refine (k_iald t220_242 rfl hW.sI zK_425 zL_425).trans (z_ite (fun g23 => ?_) (fun _ => rfl))
      refine (k_iconst t220_243 rfl zci_1).trans ?_
      refine (k_iadd t220_244 rfl).trans ?_
      refine (k_iast t220_245 rfl hW.sI zK_425 zL_425).trans (z_ite (fun g24 => ?_) (fun _ => rfl))
      refine (zk_mk (ls' := [z_j, z_j, z_j, .int y3, z_j, z_j, z_j, z_j, z_j, z_j]) t220_246 rfl).trans ?_
      refine (k_iload_n t220_246 rfl rfl).trans ?_
      exact k_ireturn t220_247 rfl (by decide)
  · refine (k_aload_n t220_90 rfl rfl).trans ?_
    refine (k_getR t220_91 rfl hW zK_396 (by decide) (by decide) (zF_396_47 hW)).trans ?_
    refine (k_bipush t220_94 rfl zcb_16).trans ?_
    refine (k_iload_n t220_96 rfl rfl).trans ?_
    refine (k_imul t220_97 rfl).trans ?_
    refine (k_iload t220_98 rfl rfl).trans ?_
    refine (k_iadd t220_100 rfl).trans ?_
    refine (k_iald t220_101 rfl hW zK_423 zL_423).trans (z_ite (fun g25 => ?_) (fun _ => rfl))
    refine (k_istore (ls' := [.ref 396, .int y1, z_j, .int y3, .int y4, z_j, z_j, .int y7, .int (gI S 423 ((((16 : Int32) * y1) + y7)).toNatClampNeg), z_j]) t220_102 rfl rfl).trans ?_
    refine (k_aload_n t220_104 rfl rfl).trans ?_
    refine (k_iload_n t220_105 rfl rfl).trans ?_
    refine (k_iload t220_106 rfl rfl).trans ?_
    refine (k_iload t220_108 rfl rfl).trans ?_
    refine k_callV (as := [.ref 396, .int y1, .int y4, .int y7]) (rest := []) t220_110 rfl rfl (by decide) rfl rfl (Nat.le_of_ble_eq_true rfl) rfl (z_rcV hW (zK_396) (by decide)) (by decide) (by decide) hW (fun S27 hW27 => ?_)
    refine (k_iload t220_113 rfl rfl).trans ?_
    refine (k_iconst t220_115 rfl zci_m1).trans ?_
    refine (k_icmp_ne t220_116 rfl).trans (z_ite (fun g28 => ?_) (fun g28 => ?_))
    · refine (k_aload_n t220_121 rfl rfl).trans ?_
      refine (k_getR t220_122 rfl hW27 zK_396 (by decide) (by decide) (zF_396_59 hW27)).trans ?_
      refine (k_iload_n t220_125 rfl rfl).trans ?_
      refine (k_iload t220_126 rfl rfl).trans ?_
      refine (k_iast t220_128 rfl hW27 zK_431 zL_431).trans (z_ite (fun g29 => ?_) (fun _ => rfl))
      refine (k_iinc (b := (y3 + (1 : Int32))) (ls' := [.ref 396, .int y1, z_j, .int (y3 + (1 : Int32)), .int y4, z_j, z_j, .int y7, .int (gI S 423 ((((16 : Int32) * y1) + y7)).toNatClampNeg), z_j]) t220_129 rfl rfl (by rw [zci_1]) rfl).trans ?_
      refine (k_aload_n t220_132 rfl rfl).trans ?_
      refine (k_getR t220_133 rfl hW27.sI zK_396 (by decide) (by decide) (zF_396_48 hW27.sI)).trans ?_
      refine (k_bipush t220_136 rfl zcb_16).trans ?_
      refine (k_iload_n t220_138 rfl rfl).trans ?_
      refine (k_imul t220_139 rfl).trans ?_
      refine (k_iload t220_140 rfl rfl).trans ?_
      refine (k_iadd t220_142 rfl).trans ?_
      refine (k_iconst t220_143 rfl zci_0).trans ?_
      refine (k_iast t220_144 rfl hW27.sI zK_424 zL_424).trans (z_ite (fun g30 => ?_) (fun _ => rfl))
      refine (k_aload_n t220_145 rfl rfl).trans ?_
      refine (k_iload_n t220_146 rfl rfl).trans ?_
      refine (k_iload t220_147 rfl rfl).trans ?_
      refine (k_iload t220_149 rfl rfl).trans ?_
      refine k_callV (as := [.ref 396, .int y1, .int (gI S 423 ((((16 : Int32) * y1) + y7)).toNatClampNeg), .int y7]) (rest := []) t220_151 rfl rfl (by decide) rfl rfl (Nat.le_of_ble_eq_true rfl) rfl (z_rcV hW27.sI.sI (zK_396) (by decide)) (by decide) (by decide) hW27.sI.sI (fun S32 hW32 => ?_)
      refine (k_iload t220_154 rfl rfl).trans ?_
      refine (k_istore (ls' := [.ref 396, .int y1, z_j, .int (y3 + (1 : Int32)), .int (gI S 423 ((((16 : Int32) * y1) + y7)).toNatClampNeg), z_j, z_j, .int y7, .int (gI S 423 ((((16 : Int32) * y1) + y7)).toNatClampNeg), z_j]) t220_156 rfl rfl).trans ?_
      refine (k_aload_n t220_158 rfl rfl).trans ?_
      refine (k_iload t220_159 rfl rfl).trans ?_
      refine (k_iload t220_161 rfl rfl).trans ?_
      refine k_callI (as := [.ref 396, .int (gI S 423 ((((16 : Int32) * y1) + y7)).toNatClampNeg), .int y7]) (rest := []) t220_163 rfl rfl (by decide) rfl rfl (Nat.le_of_ble_eq_true rfl) rfl (z_rcV hW32 (zK_396) (by decide)) (by decide) (Or.inl (by decide)) hW32 (fun v33 S34 hW34 => ?_)
      refine (k_istore (ls' := [.ref 396, .int y1, z_j, .int (y3 + (1 : Int32)), .int (gI S 423 ((((16 : Int32) * y1) + y7)).toNatClampNeg), z_j, z_j, .int y7, .int (gI S 423 ((((16 : Int32) * y1) + y7)).toNatClampNeg), .int v33]) t220_166 rfl rfl).trans ?_
      refine (k_aload_n t220_168 rfl rfl).trans ?_
      refine (k_iload_n t220_169 rfl rfl).trans ?_
      refine (k_iload t220_170 rfl rfl).trans ?_
      refine k_callI (as := [.ref 396, .int y1, .int v33]) (rest := []) t220_172 rfl rfl (by decide) rfl rfl (Nat.le_of_ble_eq_true rfl) rfl (z_rcV hW34 (zK_396) (by decide)) (by decide) (Or.inr (by decide)) hW34 (fun v35 S36 hW36 => ?_)
      refine (k_if_ne t220_175 rfl).trans (z_ite (fun g37 => ?_) (fun g37 => ?_))
      · exact (zk_mk (ls' := [.ref 396, .int y1, z_j, .int (y3 + (1 : Int32)), .int (gI S 423 ((((16 : Int32) * y1) + y7)).toNatClampNeg), z_j, z_j, z_j, z_j, .int v33]) t220_189 rfl)
      · refine (k_aload_n t220_178 rfl rfl).trans ?_
        refine (k_iload_n t220_179 rfl rfl).trans ?_
        refine (k_iload t220_180 rfl rfl).trans ?_
        refine (k_iload_n t220_182 rfl rfl).trans ?_
        refine k_callI (as := [.ref 396, .int y1, .int v33, .int (y3 + (1 : Int32))]) (rest := []) t220_183 rfl rfl (by decide) rfl rfl (Nat.le_of_ble_eq_true rfl) rfl (z_rcV hW36 (zK_396) (by decide)) (by decide) (Or.inr (by decide)) hW36 (fun v38 S39 hW39 => ?_)
        refine (k_if_eq t220_186 rfl).trans (z_ite (fun g40 => ?_) (fun g40 => ?_))
        · refine (k_iconst t220_194 rfl zci_m1).trans ?_
          exact (zk_mk (ls' := [.ref 396, .int y1, z_j, .int (y3 + (1 : Int32)), .int (gI S 423 ((((16 : Int32) * y1) + y7)).toNatClampNeg), z_j, z_j, z_j, z_j, z_j]) t220_195 rfl)
        · exact (zk_mk (ls' := [.ref 396, .int y1, z_j, .int (y3 + (1 : Int32)), .int (gI S 423 ((((16 : Int32) * y1) + y7)).toNatClampNeg), z_j, z_j, z_j, z_j, .int v33]) t220_189 rfl)
    · refine (k_iload_n t220_119 rfl rfl).trans ?_
      exact k_ireturn t220_120 rfl (by decide)
theorem b220_189_eq (d : Nat) (y1 : Int32) (y3 : Int32) (y4 : Int32) (y9 : Int32) (S : z_S) (hW : z_W S)  : b220_189 d y1 y3 y4 y9 S = b220_195 d y1 y3 y4 y9 S := by
  unfold b220_189
  refine (k_iload t220_189 rfl rfl).trans ?_
  refine (k_goto t220_191 rfl).trans ?_
  exact (zk_mk (ls' := [.ref 396, .int y1, z_j, .int y3, .int y4, z_j, z_j, z_j, z_j, z_j]) t220_195 rfl)
theorem b220_195_eq (d : Nat) (y1 : Int32) (y3 : Int32) (y4 : Int32) (s0 : Int32) (S : z_S) (hW : z_W S)  : b220_195 d y1 y3 y4 s0 S = b220_84 d y1 y3 y4 s0 S := by
  unfold b220_195
  refine (k_istore (ls' := [.ref 396, .int y1, z_j, .int y3, .int y4, z_j, z_j, .int s0, z_j, z_j]) t220_195 rfl rfl).trans ?_
  refine (k_goto t220_197 rfl).trans ?_
  exact (zk_mk (ls' := [.ref 396, .int y1, z_j, .int y3, .int y4, z_j, z_j, .int s0, z_j, z_j]) t220_84 rfl)
-- X12_comes
theorem e220 (d : Nat) (x1 : Int32) (x2 : Int32) (S : z_S) (hW : z_W S)  : fI (d + 1) 220 [.ref 396, .int x1, .int x2] S = (zb (fI d 210 [.ref 396, .int x2] S) fun v1 S2 => (zb (fI d 211 [.ref 396, .int x2] S2) fun v3 S4 => (zb (fI d 208 [.ref 396, .int x1, .int v1] S4) fun v5 S6 => (if v5 = (0 : Int32) then (zb (fI d 208 [.ref 396, .int x1, .int v3] S6) fun v8 S9 => (if v8 = (0 : Int32) then (zb (fI d 217 [.ref 396, .int x1, .int v1, .int (0 : Int32)] S9) fun v11 S12 => (if v11 = (0 : Int32) then (zb (fI d 217 [.ref 396, .int x1, .int v3, .int (0 : Int32)] S12) fun v14 S15 => (if v14 = (0 : Int32) then b220_82 d x1 (0 : Int32) x2 (-1 : Int32) S15 else b220_82 d x1 (0 : Int32) x2 v3 S15)) else b220_82 d x1 (0 : Int32) x2 v1 S12)) else b220_82 d x1 (0 : Int32) x2 v3 S9)) else b220_82 d x1 (0 : Int32) x2 v1 S6)))) := by
  refine (fI_en (Nat.le_of_ble_eq_true rfl) rfl).trans ?_
  refine (k_iconst t220_0 rfl zci_0).trans ?_
  refine (k_istore_n (ls' := [.ref 396, .int x1, .int x2, .int (0 : Int32), z_j, z_j, z_j, z_j, z_j, z_j]) t220_1 rfl rfl).trans ?_
  refine (k_iload_n t220_2 rfl rfl).trans ?_
  refine (k_istore (ls' := [.ref 396, .int x1, .int x2, .int (0 : Int32), .int x2, z_j, z_j, z_j, z_j, z_j]) t220_3 rfl rfl).trans ?_
  refine (k_aload_n t220_5 rfl rfl).trans ?_
  refine (k_iload_n t220_6 rfl rfl).trans ?_
  refine k_callI (as := [.ref 396, .int x2]) (rest := []) t220_7 rfl rfl (by decide) rfl rfl (Nat.le_of_ble_eq_true rfl) rfl (z_rcV hW (zK_396) (by decide)) (by decide) (Or.inl (by decide)) hW (fun v1 S2 hW2 => ?_)
  refine (k_istore (ls' := [.ref 396, .int x1, .int x2, .int (0 : Int32), .int x2, .int v1, z_j, z_j, z_j, z_j]) t220_10 rfl rfl).trans ?_
  refine (k_aload_n t220_12 rfl rfl).trans ?_
  refine (k_iload_n t220_13 rfl rfl).trans ?_
  refine k_callI (as := [.ref 396, .int x2]) (rest := []) t220_14 rfl rfl (by decide) rfl rfl (Nat.le_of_ble_eq_true rfl) rfl (z_rcV hW2 (zK_396) (by decide)) (by decide) (Or.inl (by decide)) hW2 (fun v3 S4 hW4 => ?_)
  refine (k_istore (ls' := [.ref 396, .int x1, .int x2, .int (0 : Int32), .int x2, .int v1, .int v3, z_j, z_j, z_j]) t220_17 rfl rfl).trans ?_
  refine (k_aload_n t220_19 rfl rfl).trans ?_
  refine (k_iload_n t220_20 rfl rfl).trans ?_
  refine (k_iload t220_21 rfl rfl).trans ?_
  refine k_callI (as := [.ref 396, .int x1, .int v1]) (rest := []) t220_23 rfl rfl (by decide) rfl rfl (Nat.le_of_ble_eq_true rfl) rfl (z_rcV hW4 (zK_396) (by decide)) (by decide) (Or.inr (by decide)) hW4 (fun v5 S6 hW6 => ?_)
  refine (k_if_eq t220_26 rfl).trans (z_ite (fun g7 => ?_) (fun g7 => ?_))
  · refine (k_aload_n t220_34 rfl rfl).trans ?_
    refine (k_iload_n t220_35 rfl rfl).trans ?_
    refine (k_iload t220_36 rfl rfl).trans ?_
    refine k_callI (as := [.ref 396, .int x1, .int v3]) (rest := []) t220_38 rfl rfl (by decide) rfl rfl (Nat.le_of_ble_eq_true rfl) rfl (z_rcV hW6 (zK_396) (by decide)) (by decide) (Or.inr (by decide)) hW6 (fun v8 S9 hW9 => ?_)
    refine (k_if_eq t220_41 rfl).trans (z_ite (fun g10 => ?_) (fun g10 => ?_))
    · refine (k_aload_n t220_49 rfl rfl).trans ?_
      refine (k_iload_n t220_50 rfl rfl).trans ?_
      refine (k_iload t220_51 rfl rfl).trans ?_
      refine (k_iconst t220_53 rfl zci_0).trans ?_
      refine k_callI (as := [.ref 396, .int x1, .int v1, .int (0 : Int32)]) (rest := []) t220_54 rfl rfl (by decide) rfl rfl (Nat.le_of_ble_eq_true rfl) rfl (z_rcV hW9 (zK_396) (by decide)) (by decide) (Or.inr (by decide)) hW9 (fun v11 S12 hW12 => ?_)
      refine (k_if_eq t220_57 rfl).trans (z_ite (fun g13 => ?_) (fun g13 => ?_))
      · refine (k_aload_n t220_65 rfl rfl).trans ?_
        refine (k_iload_n t220_66 rfl rfl).trans ?_
        refine (k_iload t220_67 rfl rfl).trans ?_
        refine (k_iconst t220_69 rfl zci_0).trans ?_
        refine k_callI (as := [.ref 396, .int x1, .int v3, .int (0 : Int32)]) (rest := []) t220_70 rfl rfl (by decide) rfl rfl (Nat.le_of_ble_eq_true rfl) rfl (z_rcV hW12 (zK_396) (by decide)) (by decide) (Or.inr (by decide)) hW12 (fun v14 S15 hW15 => ?_)
        refine (k_if_eq t220_73 rfl).trans (z_ite (fun g16 => ?_) (fun g16 => ?_))
        · refine (k_iconst t220_81 rfl zci_m1).trans ?_
          exact (zk_mk (ls' := [.ref 396, .int x1, z_j, .int (0 : Int32), .int x2, z_j, z_j, z_j, z_j, z_j]) t220_82 rfl)
        · refine (k_iload t220_76 rfl rfl).trans ?_
          refine (k_goto t220_78 rfl).trans ?_
          exact (zk_mk (ls' := [.ref 396, .int x1, z_j, .int (0 : Int32), .int x2, z_j, z_j, z_j, z_j, z_j]) t220_82 rfl)
      · refine (k_iload t220_60 rfl rfl).trans ?_
        refine (k_goto t220_62 rfl).trans ?_
        exact (zk_mk (ls' := [.ref 396, .int x1, z_j, .int (0 : Int32), .int x2, z_j, z_j, z_j, z_j, z_j]) t220_82 rfl)
    · refine (k_iload t220_44 rfl rfl).trans ?_
      refine (k_goto t220_46 rfl).trans ?_
      exact (zk_mk (ls' := [.ref 396, .int x1, z_j, .int (0 : Int32), .int x2, z_j, z_j, z_j, z_j, z_j]) t220_82 rfl)
  · refine (k_iload t220_29 rfl rfl).trans ?_
    refine (k_goto t220_31 rfl).trans ?_
    exact (zk_mk (ls' := [.ref 396, .int x1, z_j, .int (0 : Int32), .int x2, z_j, z_j, z_j, z_j, z_j]) t220_82 rfl)
theorem t221_0 : z_ft 221 0 = some (.iload_n 2, 1, none, [], 0, 0, 0, 0) := z_ftd (by decide +kernel)
theorem t221_1 : z_ft 221 1 = some (.istore_n 3, 1, none, [], 0, 0, 0, 0) := z_ftd (by decide +kernel)
theorem t221_2 : z_ft 221 2 = some (.iload_n 3, 1, (some [0, 1, 3]), [], 0, 0, 0, 0) := z_ftd (by decide +kernel)
theorem t221_3 : z_ft 221 3 = some (.aload_n 0, 1, none, [], 0, 0, 0, 0) := z_ftd (by decide +kernel)
theorem t221_4 : z_ft 221 4 = some (.getfield 162, 3, none, [], 12, 49, 50, 0) := z_ftd (by decide +kernel)
theorem t221_7 : z_ft 221 7 = some (.iload_n 1, 1, none, [], 0, 0, 0, 0) := z_ftd (by decide +kernel)
theorem t221_8 : z_ft 221 8 = some (.iaload, 1, none, [], 0, 0, 0, 0) := z_ftd (by decide +kernel)
theorem t221_9 : z_ft 221 9 = some (.iconst 1, 1, none, [], 0, 0, 0, 0) := z_ftd (by decide +kernel)
theorem t221_10 : z_ft 221 10 = some (.isub, 1, none, [], 0, 0, 0, 0) := z_ftd (by decide +kernel)
theorem t221_11 : z_ft 221 11 = some (.if_icmp .ge 33, 3, none, [], 44, 0, 0, 0) := z_ftd (by decide +kernel)
theorem t221_14 : z_ft 221 14 = some (.aload_n 0, 1, none, [], 0, 0, 0, 0) := z_ftd (by decide +kernel)
theorem t221_15 : z_ft 221 15 = some (.getfield 165, 3, none, [], 12, 50, 51, 0) := z_ftd (by decide +kernel)
theorem t221_18 : z_ft 221 18 = some (.bipush 6, 2, none, [], 0, 0, 0, 0) := z_ftd (by decide +kernel)
theorem t221_20 : z_ft 221 20 = some (.iload_n 1, 1, none, [], 0, 0, 0, 0) := z_ftd (by decide +kernel)
theorem t221_21 : z_ft 221 21 = some (.imul, 1, none, [], 0, 0, 0, 0) := z_ftd (by decide +kernel)
theorem t221_22 : z_ft 221 22 = some (.iload_n 3, 1, none, [], 0, 0, 0, 0) := z_ftd (by decide +kernel)
theorem t221_23 : z_ft 221 23 = some (.iadd, 1, none, [], 0, 0, 0, 0) := z_ftd (by decide +kernel)
theorem t221_24 : z_ft 221 24 = some (.aload_n 0, 1, none, [], 0, 0, 0, 0) := z_ftd (by decide +kernel)
theorem t221_25 : z_ft 221 25 = some (.getfield 165, 3, none, [], 12, 50, 51, 0) := z_ftd (by decide +kernel)
theorem t221_28 : z_ft 221 28 = some (.bipush 6, 2, none, [], 0, 0, 0, 0) := z_ftd (by decide +kernel)
theorem t221_30 : z_ft 221 30 = some (.iload_n 1, 1, none, [], 0, 0, 0, 0) := z_ftd (by decide +kernel)
theorem t221_31 : z_ft 221 31 = some (.imul, 1, none, [], 0, 0, 0, 0) := z_ftd (by decide +kernel)
theorem t221_32 : z_ft 221 32 = some (.iload_n 3, 1, none, [], 0, 0, 0, 0) := z_ftd (by decide +kernel)
theorem t221_33 : z_ft 221 33 = some (.iadd, 1, none, [], 0, 0, 0, 0) := z_ftd (by decide +kernel)
theorem t221_34 : z_ft 221 34 = some (.iconst 1, 1, none, [], 0, 0, 0, 0) := z_ftd (by decide +kernel)
theorem t221_35 : z_ft 221 35 = some (.iadd, 1, none, [], 0, 0, 0, 0) := z_ftd (by decide +kernel)
theorem t221_36 : z_ft 221 36 = some (.iaload, 1, none, [], 0, 0, 0, 0) := z_ftd (by decide +kernel)
theorem t221_37 : z_ft 221 37 = some (.iastore, 1, none, [], 0, 0, 0, 0) := z_ftd (by decide +kernel)
theorem t221_38 : z_ft 221 38 = some (.iinc 3 1, 3, none, [], 0, 0, 0, 0) := z_ftd (by decide +kernel)
theorem t221_41 : z_ft 221 41 = some (.goto (-39), 3, none, [], 2, 0, 0, 0) := z_ftd (by decide +kernel)
theorem t221_44 : z_ft 221 44 = some (.aload_n 0, 1, none, [], 0, 0, 0, 0) := z_ftd (by decide +kernel)
theorem t221_45 : z_ft 221 45 = some (.getfield 162, 3, none, [], 12, 49, 50, 0) := z_ftd (by decide +kernel)
theorem t221_48 : z_ft 221 48 = some (.iload_n 1, 1, none, [], 0, 0, 0, 0) := z_ftd (by decide +kernel)
theorem t221_49 : z_ft 221 49 = some (.dup2, 1, none, [], 0, 0, 0, 0) := z_ftd (by decide +kernel)
theorem t221_50 : z_ft 221 50 = some (.iaload, 1, none, [], 0, 0, 0, 0) := z_ftd (by decide +kernel)
theorem t221_51 : z_ft 221 51 = some (.iconst 1, 1, none, [], 0, 0, 0, 0) := z_ftd (by decide +kernel)
theorem t221_52 : z_ft 221 52 = some (.isub, 1, none, [], 0, 0, 0, 0) := z_ftd (by decide +kernel)
theorem t221_53 : z_ft 221 53 = some (.iastore, 1, none, [], 0, 0, 0, 0) := z_ftd (by decide +kernel)
theorem t221_54 : z_ft 221 54 = some (.return_, 1, none, [], 0, 0, 0, 0) := z_ftd (by decide +kernel)
noncomputable def b221_2 (d : Nat) (y1 : Int32) (y3 : Int32) (S : z_S) : Option z_S := zk kV z_X0 d 221 2 [.ref 396, .int y1, z_j, .int y3] [] S
theorem b221_2_eq (d : Nat) (y1 : Int32) (y3 : Int32) (S : z_S) (hW : z_W S)  : b221_2 d y1 y3 S = (if z_in y1 22 then (if ((gI S 425 (y1).toNatClampNeg) - (1 : Int32)) ≤ y3 then (if z_in y1 22 then (if z_in y1 22 then some (sI S 425 (y1).toNatClampNeg ((gI S 425 (y1).toNatClampNeg) - (1 : Int32))) else none) else none) else (if z_in ((((6 : Int32) * y1) + y3) + (1 : Int32)) 132 then (if z_in (((6 : Int32) * y1) + y3) 132 then b221_2 d y1 (y3 + (1 : Int32)) (sI S 426 ((((6 : Int32) * y1) + y3)).toNatClampNeg (gI S 426 (((((6 : Int32) * y1) + y3) + (1 : Int32))).toNatClampNeg)) else none) else none)) else none) := by
  unfold b221_2
  refine (k_iload_n t221_2 rfl rfl).trans ?_
  refine (k_aload_n t221_3 rfl rfl).trans ?_
  refine (k_getR t221_4 rfl hW zK_396 (by decide) (by decide) (zF_396_49 hW)).trans ?_
  refine (k_iload_n t221_7 rfl rfl).trans ?_
  refine (k_iald t221_8 rfl hW zK_425 zL_425).trans (z_ite (fun g1 => ?_) (fun _ => rfl))
  refine (k_iconst t221_9 rfl zci_1).trans ?_
  refine (k_isub t221_10 rfl).trans ?_
  refine (k_icmp_ge t221_11 rfl).trans (z_ite (fun g2 => ?_) (fun g2 => ?_))
  · refine (k_aload_n t221_44 rfl rfl).trans ?_
    refine (k_getR t221_45 rfl hW zK_396 (by decide) (by decide) (zF_396_49 hW)).trans ?_
    refine (k_iload_n t221_48 rfl rfl).trans ?_
    refine (k_dup2IR t221_49 rfl).trans ?_
    refine (k_iald t221_50 rfl hW zK_425 zL_425).trans (z_ite (fun g3 => ?_) (fun _ => rfl))
    refine (k_iconst t221_51 rfl zci_1).trans ?_
    refine (k_isub t221_52 rfl).trans ?_
    refine (k_iast t221_53 rfl hW zK_425 zL_425).trans (z_ite (fun g4 => ?_) (fun _ => rfl))
    exact k_return t221_54 rfl (by decide)
  · refine (k_aload_n t221_14 rfl rfl).trans ?_
    refine (k_getR t221_15 rfl hW zK_396 (by decide) (by decide) (zF_396_50 hW)).trans ?_
    refine (k_bipush t221_18 rfl zcb_6).trans ?_
    refine (k_iload_n t221_20 rfl rfl).trans ?_
    refine (k_imul t221_21 rfl).trans ?_
    refine (k_iload_n t221_22 rfl rfl).trans ?_
    refine (k_iadd t221_23 rfl).trans ?_
    refine (k_aload_n t221_24 rfl rfl).trans ?_
    refine (k_getR t221_25 rfl hW zK_396 (by decide) (by decide) (zF_396_50 hW)).trans ?_
    refine (k_bipush t221_28 rfl zcb_6).trans ?_
    refine (k_iload_n t221_30 rfl rfl).trans ?_
    refine (k_imul t221_31 rfl).trans ?_
    refine (k_iload_n t221_32 rfl rfl).trans ?_
    refine (k_iadd t221_33 rfl).trans ?_
    refine (k_iconst t221_34 rfl zci_1).trans ?_
    refine (k_iadd t221_35 rfl).trans ?_
    refine (k_iald t221_36 rfl hW zK_426 zL_426).trans (z_ite (fun g5 => ?_) (fun _ => rfl))
    refine (k_iast t221_37 rfl hW zK_426 zL_426).trans (z_ite (fun g6 => ?_) (fun _ => rfl))
    refine (k_iinc (b := (y3 + (1 : Int32))) (ls' := [.ref 396, .int y1, z_j, .int (y3 + (1 : Int32))]) t221_38 rfl rfl (by rw [zci_1]) rfl).trans ?_
    refine (k_goto t221_41 rfl).trans ?_
    exact (zk_mk (ls' := [.ref 396, .int y1, z_j, .int (y3 + (1 : Int32))]) t221_2 rfl)
-- X12_leavesBench
theorem e221 (d : Nat) (x1 : Int32) (x2 : Int32) (S : z_S) (hW : z_W S)  : fV (d + 1) 221 [.ref 396, .int x1, .int x2] S = b221_2 d x1 x2 S := by
  refine (fV_en (Nat.le_of_ble_eq_true rfl) rfl).trans ?_
  refine (k_iload_n t221_0 rfl rfl).trans ?_
  refine (k_istore_n (ls' := [.ref 396, .int x1, .int x2, .int x2]) t221_1 rfl rfl).trans ?_
  exact (zk_mk (ls' := [.ref 396, .int x1, z_j, .int x2]) t221_2 rfl)
theorem t222_0 : z_ft 222 0 = some (.aload_n 0, 1, none, [], 0, 0, 0, 0) := z_ftd (by decide +kernel)
theorem t222_1 : z_ft 222 1 = some (.iload_n 1, 1, none, [], 0, 0, 0, 0) := z_ftd (by decide +kernel)
theorem t222_2 : z_ft 222 2 = some (.iload_n 2, 1, none, [], 0, 0, 0, 0) := z_ftd (by decide +kernel)
theorem t222_3 : z_ft 222 3 = some (.invokevirtual 438, 3, none, [], 213, 0, 159, 0) := z_ftd (by decide +kernel)
theorem t222_6 : z_ft 222 6 = some (.istore_n 3, 1, none, [], 0, 0, 0, 0) := z_ftd (by decide +kernel)
theorem t222_7 : z_ft 222 7 = some (.iload_n 3, 1, none, [], 0, 0, 0, 0) := z_ftd (by decide +kernel)
theorem t222_8 : z_ft 222 8 = some (.iconst (-1), 1, none, [], 0, 0, 0, 0) := z_ftd (by decide +kernel)
theorem t222_9 : z_ft 222 9 = some (.if_icmp .ne 17, 3, none, [], 26, 0, 0, 0) := z_ftd (by decide +kernel)
theorem t222_12 : z_ft 222 12 = some (.aload_n 0, 1, none, [], 0, 0, 0, 0) := z_ftd (by decide +kernel)
theorem t222_13 : z_ft 222 13 = some (.iload_n 1, 1, none, [], 0, 0, 0, 0) := z_ftd (by decide +kernel)
theorem t222_14 : z_ft 222 14 = some (.aload_n 0, 1, none, [], 0, 0, 0, 0) := z_ftd (by decide +kernel)
theorem t222_15 : z_ft 222 15 = some (.iload_n 1, 1, none, [], 0, 0, 0, 0) := z_ftd (by decide +kernel)
theorem t222_16 : z_ft 222 16 = some (.iload_n 2, 1, none, [], 0, 0, 0, 0) := z_ftd (by decide +kernel)
theorem t222_17 : z_ft 222 17 = some (.invokevirtual 441, 3, none, [], 214, 0, 160, 0) := z_ftd (by decide +kernel)
theorem t222_20 : z_ft 222 20 = some (.invokevirtual 470, 3, none, [], 221, 0, 166, 0) := z_ftd (by decide +kernel)
theorem t222_23 : z_ft 222 23 = some (.goto 15, 3, none, [], 38, 0, 0, 0) := z_ftd (by decide +kernel)
theorem t222_26 : z_ft 222 26 = some (.aload_n 0, 1, none, [], 0, 0, 0, 0) := z_ftd (by decide +kernel)
theorem t222_27 : z_ft 222 27 = some (.getfield 156, 3, none, [], 12, 47, 48, 0) := z_ftd (by decide +kernel)
theorem t222_30 : z_ft 222 30 = some (.bipush 16, 2, none, [], 0, 0, 0, 0) := z_ftd (by decide +kernel)
theorem t222_32 : z_ft 222 32 = some (.iload_n 1, 1, none, [], 0, 0, 0, 0) := z_ftd (by decide +kernel)
theorem t222_33 : z_ft 222 33 = some (.imul, 1, none, [], 0, 0, 0, 0) := z_ftd (by decide +kernel)
theorem t222_34 : z_ft 222 34 = some (.iload_n 3, 1, none, [], 0, 0, 0, 0) := z_ftd (by decide +kernel)
theorem t222_35 : z_ft 222 35 = some (.iadd, 1, none, [], 0, 0, 0, 0) := z_ftd (by decide +kernel)
theorem t222_36 : z_ft 222 36 = some (.iconst (-1), 1, none, [], 0, 0, 0, 0) := z_ftd (by decide +kernel)
theorem t222_37 : z_ft 222 37 = some (.iastore, 1, none, [], 0, 0, 0, 0) := z_ftd (by decide +kernel)
theorem t222_38 : z_ft 222 38 = some (.aload_n 0, 1, (some [0, 1, 2]), [], 0, 0, 0, 0) := z_ftd (by decide +kernel)
theorem t222_39 : z_ft 222 39 = some (.getfield 159, 3, none, [], 12, 48, 49, 0) := z_ftd (by decide +kernel)
theorem t222_42 : z_ft 222 42 = some (.bipush 16, 2, none, [], 0, 0, 0, 0) := z_ftd (by decide +kernel)
theorem t222_44 : z_ft 222 44 = some (.iload_n 1, 1, none, [], 0, 0, 0, 0) := z_ftd (by decide +kernel)
theorem t222_45 : z_ft 222 45 = some (.imul, 1, none, [], 0, 0, 0, 0) := z_ftd (by decide +kernel)
theorem t222_46 : z_ft 222 46 = some (.iload_n 2, 1, none, [], 0, 0, 0, 0) := z_ftd (by decide +kernel)
theorem t222_47 : z_ft 222 47 = some (.iadd, 1, none, [], 0, 0, 0, 0) := z_ftd (by decide +kernel)
theorem t222_48 : z_ft 222 48 = some (.iconst 0, 1, none, [], 0, 0, 0, 0) := z_ftd (by decide +kernel)
theorem t222_49 : z_ft 222 49 = some (.iastore, 1, none, [], 0, 0, 0, 0) := z_ftd (by decide +kernel)
theorem t222_50 : z_ft 222 50 = some (.return_, 1, none, [], 0, 0, 0, 0) := z_ftd (by decide +kernel)
noncomputable def b222_38 (d : Nat) (y1 : Int32) (y2 : Int32) (S : z_S) : Option z_S := zk kV z_X0 d 222 38 [.ref 396, .int y1, .int y2, z_j] [] S
theorem b222_38_eq (d : Nat) (y1 : Int32) (y2 : Int32) (S : z_S) (hW : z_W S)  : b222_38 d y1 y2 S = (if z_in (((16 : Int32) * y1) + y2) 352 then some (sI S 424 ((((16 : Int32) * y1) + y2)).toNatClampNeg (0 : Int32)) else none) := by
  unfold b222_38
  refine (k_aload_n t222_38 rfl rfl).trans ?_
  refine (k_getR t222_39 rfl hW zK_396 (by decide) (by decide) (zF_396_48 hW)).trans ?_
  refine (k_bipush t222_42 rfl zcb_16).trans ?_
  refine (k_iload_n t222_44 rfl rfl).trans ?_
  refine (k_imul t222_45 rfl).trans ?_
  refine (k_iload_n t222_46 rfl rfl).trans ?_
  refine (k_iadd t222_47 rfl).trans ?_
  refine (k_iconst t222_48 rfl zci_0).trans ?_
  refine (k_iast t222_49 rfl hW zK_424 zL_424).trans (z_ite (fun g9 => ?_) (fun _ => rfl))
  exact k_return t222_50 rfl (by decide)
-- X12_goesAway
theorem e222 (d : Nat) (x1 : Int32) (x2 : Int32) (S : z_S) (hW : z_W S)  : fV (d + 1) 222 [.ref 396, .int x1, .int x2] S = (zb (fI d 213 [.ref 396, .int x1, .int x2] S) fun v1 S2 => (if ¬ v1 = (-1 : Int32) then (if z_in (((16 : Int32) * x1) + v1) 352 then b222_38 d x1 x2 (sI S2 423 ((((16 : Int32) * x1) + v1)).toNatClampNeg (-1 : Int32)) else none) else (zb (fI d 214 [.ref 396, .int x1, .int x2] S2) fun v5 S6 => ((fV d 221 [.ref 396, .int x1, .int v5] S6).bind fun S8 => b222_38 d x1 x2 S8)))) := by
  refine (fV_en (Nat.le_of_ble_eq_true rfl) rfl).trans ?_
  refine (k_aload_n t222_0 rfl rfl).trans ?_
  refine (k_iload_n t222_1 rfl rfl).trans ?_
  refine (k_iload_n t222_2 rfl rfl).trans ?_
  refine k_callI (as := [.ref 396, .int x1, .int x2]) (rest := []) t222_3 rfl rfl (by decide) rfl rfl (Nat.le_of_ble_eq_true rfl) rfl (z_rcV hW (zK_396) (by decide)) (by decide) (Or.inl (by decide)) hW (fun v1 S2 hW2 => ?_)
  refine (k_istore_n (ls' := [.ref 396, .int x1, .int x2, .int v1]) t222_6 rfl rfl).trans ?_
  refine (k_iload_n t222_7 rfl rfl).trans ?_
  refine (k_iconst t222_8 rfl zci_m1).trans ?_
  refine (k_icmp_ne t222_9 rfl).trans (z_ite (fun g3 => ?_) (fun g3 => ?_))
  · refine (k_aload_n t222_26 rfl rfl).trans ?_
    refine (k_getR t222_27 rfl hW2 zK_396 (by decide) (by decide) (zF_396_47 hW2)).trans ?_
    refine (k_bipush t222_30 rfl zcb_16).trans ?_
    refine (k_iload_n t222_32 rfl rfl).trans ?_
    refine (k_imul t222_33 rfl).trans ?_
    refine (k_iload_n t222_34 rfl rfl).trans ?_
    refine (k_iadd t222_35 rfl).trans ?_
    refine (k_iconst t222_36 rfl zci_m1).trans ?_
    refine (k_iast t222_37 rfl hW2 zK_423 zL_423).trans (z_ite (fun g4 => ?_) (fun _ => rfl))
    exact (zk_mk (ls' := [.ref 396, .int x1, .int x2, z_j]) t222_38 rfl)
  · refine (k_aload_n t222_12 rfl rfl).trans ?_
    refine (k_iload_n t222_13 rfl rfl).trans ?_
    refine (k_aload_n t222_14 rfl rfl).trans ?_
    refine (k_iload_n t222_15 rfl rfl).trans ?_
    refine (k_iload_n t222_16 rfl rfl).trans ?_
    refine k_callI (as := [.ref 396, .int x1, .int x2]) (rest := [.int x1, .ref 396]) t222_17 rfl rfl (by decide) rfl rfl (Nat.le_of_ble_eq_true rfl) rfl (z_rcV hW2 (zK_396) (by decide)) (by decide) (Or.inl (by decide)) hW2 (fun v5 S6 hW6 => ?_)
    refine k_callV (as := [.ref 396, .int x1, .int v5]) (rest := []) t222_20 rfl rfl (by decide) rfl rfl (Nat.le_of_ble_eq_true rfl) rfl (z_rcV hW6 (zK_396) (by decide)) (by decide) (by decide) hW6 (fun S8 hW8 => ?_)
    refine (k_goto t222_23 rfl).trans ?_
    exact (zk_mk (ls' := [.ref 396, .int x1, .int x2, z_j]) t222_38 rfl)
theorem t223_0 : z_ft 223 0 = some (.iconst 0, 1, none, [], 0, 0, 0, 0) := z_ftd (by decide +kernel)
theorem t223_1 : z_ft 223 1 = some (.istore_n 2, 1, none, [], 0, 0, 0, 0) := z_ftd (by decide +kernel)
theorem t223_2 : z_ft 223 2 = some (.iload_n 2, 1, (some [0, 1, 2]), [], 0, 0, 0, 0) := z_ftd (by decide +kernel)
theorem t223_3 : z_ft 223 3 = some (.aload_n 0, 1, none, [], 0, 0, 0, 0) := z_ftd (by decide +kernel)
theorem t223_4 : z_ft 223 4 = some (.getfield 162, 3, none, [], 12, 49, 50, 0) := z_ftd (by decide +kernel)
theorem t223_7 : z_ft 223 7 = some (.iload_n 1, 1, none, [], 0, 0, 0, 0) := z_ftd (by decide +kernel)
theorem t223_8 : z_ft 223 8 = some (.iaload, 1, none, [], 0, 0, 0, 0) := z_ftd (by decide +kernel)
theorem t223_9 : z_ft 223 9 = some (.if_icmp .ge 89, 3, none, [], 98, 0, 0, 0) := z_ftd (by decide +kernel)
theorem t223_12 : z_ft 223 12 = some (.aload_n 0, 1, none, [], 0, 0, 0, 0) := z_ftd (by decide +kernel)
theorem t223_13 : z_ft 223 13 = some (.getfield 165, 3, none, [], 12, 50, 51, 0) := z_ftd (by decide +kernel)
theorem t223_16 : z_ft 223 16 = some (.bipush 6, 2, none, [], 0, 0, 0, 0) := z_ftd (by decide +kernel)
theorem t223_18 : z_ft 223 18 = some (.iload_n 1, 1, none, [], 0, 0, 0, 0) := z_ftd (by decide +kernel)
theorem t223_19 : z_ft 223 19 = some (.imul, 1, none, [], 0, 0, 0, 0) := z_ftd (by decide +kernel)
theorem t223_20 : z_ft 223 20 = some (.iload_n 2, 1, none, [], 0, 0, 0, 0) := z_ftd (by decide +kernel)
theorem t223_21 : z_ft 223 21 = some (.iadd, 1, none, [], 0, 0, 0, 0) := z_ftd (by decide +kernel)
theorem t223_22 : z_ft 223 22 = some (.iaload, 1, none, [], 0, 0, 0, 0) := z_ftd (by decide +kernel)
theorem t223_23 : z_ft 223 23 = some (.istore_n 3, 1, none, [], 0, 0, 0, 0) := z_ftd (by decide +kernel)
theorem t223_24 : z_ft 223 24 = some (.aload_n 0, 1, none, [], 0, 0, 0, 0) := z_ftd (by decide +kernel)
theorem t223_25 : z_ft 223 25 = some (.iload_n 1, 1, none, [], 0, 0, 0, 0) := z_ftd (by decide +kernel)
theorem t223_26 : z_ft 223 26 = some (.aload_n 0, 1, none, [], 0, 0, 0, 0) := z_ftd (by decide +kernel)
theorem t223_27 : z_ft 223 27 = some (.iload_n 3, 1, none, [], 0, 0, 0, 0) := z_ftd (by decide +kernel)
theorem t223_28 : z_ft 223 28 = some (.invokevirtual 432, 3, none, [], 210, 0, 135, 0) := z_ftd (by decide +kernel)
theorem t223_31 : z_ft 223 31 = some (.invokevirtual 429, 3, none, [], 208, 0, 137, 0) := z_ftd (by decide +kernel)
theorem t223_34 : z_ft 223 34 = some (.ifCond .eq 11, 3, none, [], 45, 0, 0, 0) := z_ftd (by decide +kernel)
theorem t223_37 : z_ft 223 37 = some (.aload_n 0, 1, none, [], 0, 0, 0, 0) := z_ftd (by decide +kernel)
theorem t223_38 : z_ft 223 38 = some (.iload_n 3, 1, none, [], 0, 0, 0, 0) := z_ftd (by decide +kernel)
theorem t223_39 : z_ft 223 39 = some (.invokevirtual 432, 3, none, [], 210, 0, 135, 0) := z_ftd (by decide +kernel)
theorem t223_42 : z_ft 223 42 = some (.goto 25, 3, none, [], 67, 0, 0, 0) := z_ftd (by decide +kernel)
theorem t223_45 : z_ft 223 45 = some (.aload_n 0, 1, none, [], 0, 0, 0, 0) := z_ftd (by decide +kernel)
theorem t223_46 : z_ft 223 46 = some (.iload_n 1, 1, none, [], 0, 0, 0, 0) := z_ftd (by decide +kernel)
theorem t223_47 : z_ft 223 47 = some (.aload_n 0, 1, none, [], 0, 0, 0, 0) := z_ftd (by decide +kernel)
theorem t223_48 : z_ft 223 48 = some (.iload_n 3, 1, none, [], 0, 0, 0, 0) := z_ftd (by decide +kernel)
theorem t223_49 : z_ft 223 49 = some (.invokevirtual 435, 3, none, [], 211, 0, 136, 0) := z_ftd (by decide +kernel)
theorem t223_52 : z_ft 223 52 = some (.invokevirtual 429, 3, none, [], 208, 0, 137, 0) := z_ftd (by decide +kernel)
theorem t223_55 : z_ft 223 55 = some (.ifCond .eq 11, 3, none, [], 66, 0, 0, 0) := z_ftd (by decide +kernel)
theorem t223_58 : z_ft 223 58 = some (.aload_n 0, 1, none, [], 0, 0, 0, 0) := z_ftd (by decide +kernel)
theorem t223_59 : z_ft 223 59 = some (.iload_n 3, 1, none, [], 0, 0, 0, 0) := z_ftd (by decide +kernel)
theorem t223_60 : z_ft 223 60 = some (.invokevirtual 435, 3, none, [], 211, 0, 136, 0) := z_ftd (by decide +kernel)
theorem t223_63 : z_ft 223 63 = some (.goto 4, 3, none, [], 67, 0, 0, 0) := z_ftd (by decide +kernel)
theorem t223_66 : z_ft 223 66 = some (.iconst (-1), 1, none, [], 0, 0, 0, 0) := z_ftd (by decide +kernel)
theorem t223_67 : z_ft 223 67 = some (.istore 4, 2, (some [0, 1, 2, 3]), [], 0, 0, 0, 0) := z_ftd (by decide +kernel)
theorem t223_69 : z_ft 223 69 = some (.iload 4, 2, none, [], 0, 0, 0, 0) := z_ftd (by decide +kernel)
theorem t223_71 : z_ft 223 71 = some (.iconst (-1), 1, none, [], 0, 0, 0, 0) := z_ftd (by decide +kernel)
theorem t223_72 : z_ft 223 72 = some (.if_icmp .ne 9, 3, none, [], 81, 0, 0, 0) := z_ftd (by decide +kernel)
theorem t223_75 : z_ft 223 75 = some (.iinc 2 1, 3, none, [], 0, 0, 0, 0) := z_ftd (by decide +kernel)
theorem t223_78 : z_ft 223 78 = some (.goto 17, 3, none, [], 95, 0, 0, 0) := z_ftd (by decide +kernel)
theorem t223_81 : z_ft 223 81 = some (.aload_n 0, 1, none, [], 0, 0, 0, 0) := z_ftd (by decide +kernel)
theorem t223_82 : z_ft 223 82 = some (.iload_n 1, 1, none, [], 0, 0, 0, 0) := z_ftd (by decide +kernel)
theorem t223_83 : z_ft 223 83 = some (.iload_n 2, 1, none, [], 0, 0, 0, 0) := z_ftd (by decide +kernel)
theorem t223_84 : z_ft 223 84 = some (.invokevirtual 470, 3, none, [], 221, 0, 166, 0) := z_ftd (by decide +kernel)
theorem t223_87 : z_ft 223 87 = some (.aload_n 0, 1, none, [], 0, 0, 0, 0) := z_ftd (by decide +kernel)
theorem t223_88 : z_ft 223 88 = some (.iload_n 1, 1, none, [], 0, 0, 0, 0) := z_ftd (by decide +kernel)
theorem t223_89 : z_ft 223 89 = some (.iload_n 3, 1, none, [], 0, 0, 0, 0) := z_ftd (by decide +kernel)
theorem t223_90 : z_ft 223 90 = some (.iload 4, 2, none, [], 0, 0, 0, 0) := z_ftd (by decide +kernel)
theorem t223_92 : z_ft 223 92 = some (.invokevirtual 460, 3, none, [], 219, 0, 149, 0) := z_ftd (by decide +kernel)
theorem t223_95 : z_ft 223 95 = some (.goto (-93), 3, (some [0, 1, 2]), [], 2, 0, 0, 0) := z_ftd (by decide +kernel)
theorem t223_98 : z_ft 223 98 = some (.return_, 1, none, [], 0, 0, 0, 0) := z_ftd (by decide +kernel)
noncomputable def b223_2 (d : Nat) (y1 : Int32) (y2 : Int32) (S : z_S) : Option z_S := zk kV z_X0 d 223 2 [.ref 396, .int y1, .int y2, z_j, z_j] [] S
noncomputable def b223_67 (d : Nat) (y1 : Int32) (y2 : Int32) (y3 : Int32) (s0 : Int32) (S : z_S) : Option z_S := zk kV z_X0 d 223 67 [.ref 396, .int y1, .int y2, .int y3, z_j] [.int s0] S
noncomputable def b223_95 (d : Nat) (y1 : Int32) (y2 : Int32) (S : z_S) : Option z_S := zk kV z_X0 d 223 95 [.ref 396, .int y1, .int y2, z_j, z_j] [] S
theorem b223_2_eq (d : Nat) (y1 : Int32) (y2 : Int32) (S : z_S) (hW : z_W S)  : b223_2 d y1 y2 S = (if z_in y1 22 then (if (gI S 425 (y1).toNatClampNeg) ≤ y2 then some S else (if z_in (((6 : Int32) * y1) + y2) 132 then (zb (fI d 210 [.ref 396, .int (gI S 426 ((((6 : Int32) * y1) + y2)).toNatClampNeg)] S) fun v4 S5 => (zb (fI d 208 [.ref 396, .int y1, .int v4] S5) fun v6 S7 => (if v6 = (0 : Int32) then (zb (fI d 211 [.ref 396, .int (gI S 426 ((((6 : Int32) * y1) + y2)).toNatClampNeg)] S7) fun v9 S10 => (zb (fI d 208 [.ref 396, .int y1, .int v9] S10) fun v11 S12 => (if v11 = (0 : Int32) then b223_67 d y1 y2 (gI S 426 ((((6 : Int32) * y1) + y2)).toNatClampNeg) (-1 : Int32) S12 else (zb (fI d 211 [.ref 396, .int (gI S 426 ((((6 : Int32) * y1) + y2)).toNatClampNeg)] S12) fun v14 S15 => b223_67 d y1 y2 (gI S 426 ((((6 : Int32) * y1) + y2)).toNatClampNeg) v14 S15)))) else (zb (fI d 210 [.ref 396, .int (gI S 426 ((((6 : Int32) * y1) + y2)).toNatClampNeg)] S7) fun v16 S17 => b223_67 d y1 y2 (gI S 426 ((((6 : Int32) * y1) + y2)).toNatClampNeg) v16 S17)))) else none)) else none) := by
  unfold b223_2
  refine (k_iload_n t223_2 rfl rfl).trans ?_
  refine (k_aload_n t223_3 rfl rfl).trans ?_
  refine (k_getR t223_4 rfl hW zK_396 (by decide) (by decide) (zF_396_49 hW)).trans ?_
  refine (k_iload_n t223_7 rfl rfl).trans ?_
  refine (k_iald t223_8 rfl hW zK_425 zL_425).trans (z_ite (fun g1 => ?_) (fun _ => rfl))
  refine (k_icmp_ge t223_9 rfl).trans (z_ite (fun g2 => ?_) (fun g2 => ?_))
  · exact k_return t223_98 rfl (by decide)
  · refine (k_aload_n t223_12 rfl rfl).trans ?_
    refine (k_getR t223_13 rfl hW zK_396 (by decide) (by decide) (zF_396_50 hW)).trans ?_
    refine (k_bipush t223_16 rfl zcb_6).trans ?_
    refine (k_iload_n t223_18 rfl rfl).trans ?_
    refine (k_imul t223_19 rfl).trans ?_
    refine (k_iload_n t223_20 rfl rfl).trans ?_
    refine (k_iadd t223_21 rfl).trans ?_
    refine (k_iald t223_22 rfl hW zK_426 zL_426).trans (z_ite (fun g3 => ?_) (fun _ => rfl))
    refine (k_istore_n (ls' := [.ref 396, .int y1, .int y2, .int (gI S 426 ((((6 : Int32) * y1) + y2)).toNatClampNeg), z_j]) t223_23 rfl rfl).trans ?_
    refine (k_aload_n t223_24 rfl rfl).trans ?_
    refine (k_iload_n t223_25 rfl rfl).trans ?_
    refine (k_aload_n t223_26 rfl rfl).trans ?_
    refine (k_iload_n t223_27 rfl rfl).trans ?_
    refine k_callI (as := [.ref 396, .int (gI S 426 ((((6 : Int32) * y1) + y2)).toNatClampNeg)]) (rest := [.int y1, .ref 396]) t223_28 rfl rfl (by decide) rfl rfl (Nat.le_of_ble_eq_true rfl) rfl (z_rcV hW (zK_396) (by decide)) (by decide) (Or.inl (by decide)) hW (fun v4 S5 hW5 => ?_)
    refine k_callI (as := [.ref 396, .int y1, .int v4]) (rest := []) t223_31 rfl rfl (by decide) rfl rfl (Nat.le_of_ble_eq_true rfl) rfl (z_rcV hW5 (zK_396) (by decide)) (by decide) (Or.inr (by decide)) hW5 (fun v6 S7 hW7 => ?_)
    refine (k_if_eq t223_34 rfl).trans (z_ite (fun g8 => ?_) (fun g8 => ?_))
    · refine (k_aload_n t223_45 rfl rfl).trans ?_
      refine (k_iload_n t223_46 rfl rfl).trans ?_
      refine (k_aload_n t223_47 rfl rfl).trans ?_
      refine (k_iload_n t223_48 rfl rfl).trans ?_
      refine k_callI (as := [.ref 396, .int (gI S 426 ((((6 : Int32) * y1) + y2)).toNatClampNeg)]) (rest := [.int y1, .ref 396]) t223_49 rfl rfl (by decide) rfl rfl (Nat.le_of_ble_eq_true rfl) rfl (z_rcV hW7 (zK_396) (by decide)) (by decide) (Or.inl (by decide)) hW7 (fun v9 S10 hW10 => ?_)
      refine k_callI (as := [.ref 396, .int y1, .int v9]) (rest := []) t223_52 rfl rfl (by decide) rfl rfl (Nat.le_of_ble_eq_true rfl) rfl (z_rcV hW10 (zK_396) (by decide)) (by decide) (Or.inr (by decide)) hW10 (fun v11 S12 hW12 => ?_)
      refine (k_if_eq t223_55 rfl).trans (z_ite (fun g13 => ?_) (fun g13 => ?_))
      · refine (k_iconst t223_66 rfl zci_m1).trans ?_
        exact (zk_mk (ls' := [.ref 396, .int y1, .int y2, .int (gI S 426 ((((6 : Int32) * y1) + y2)).toNatClampNeg), z_j]) t223_67 rfl)
      · refine (k_aload_n t223_58 rfl rfl).trans ?_
        refine (k_iload_n t223_59 rfl rfl).trans ?_
        refine k_callI (as := [.ref 396, .int (gI S 426 ((((6 : Int32) * y1) + y2)).toNatClampNeg)]) (rest := []) t223_60 rfl rfl (by decide) rfl rfl (Nat.le_of_ble_eq_true rfl) rfl (z_rcV hW12 (zK_396) (by decide)) (by decide) (Or.inl (by decide)) hW12 (fun v14 S15 hW15 => ?_)
        refine (k_goto t223_63 rfl).trans ?_
        exact (zk_mk (ls' := [.ref 396, .int y1, .int y2, .int (gI S 426 ((((6 : Int32) * y1) + y2)).toNatClampNeg), z_j]) t223_67 rfl)
    · refine (k_aload_n t223_37 rfl rfl).trans ?_
      refine (k_iload_n t223_38 rfl rfl).trans ?_
      refine k_callI (as := [.ref 396, .int (gI S 426 ((((6 : Int32) * y1) + y2)).toNatClampNeg)]) (rest := []) t223_39 rfl rfl (by decide) rfl rfl (Nat.le_of_ble_eq_true rfl) rfl (z_rcV hW7 (zK_396) (by decide)) (by decide) (Or.inl (by decide)) hW7 (fun v16 S17 hW17 => ?_)
      refine (k_goto t223_42 rfl).trans ?_
      exact (zk_mk (ls' := [.ref 396, .int y1, .int y2, .int (gI S 426 ((((6 : Int32) * y1) + y2)).toNatClampNeg), z_j]) t223_67 rfl)
theorem b223_67_eq (d : Nat) (y1 : Int32) (y2 : Int32) (y3 : Int32) (s0 : Int32) (S : z_S) (hW : z_W S)  : b223_67 d y1 y2 y3 s0 S = (if ¬ s0 = (-1 : Int32) then ((fV d 221 [.ref 396, .int y1, .int y2] S).bind fun S20 => ((fV d 219 [.ref 396, .int y1, .int y3, .int s0] S20).bind fun S22 => b223_95 d y1 y2 S22)) else b223_95 d y1 (y2 + (1 : Int32)) S) := by
  unfold b223_67
  refine (k_istore (ls' := [.ref 396, .int y1, .int y2, .int y3, .int s0]) t223_67 rfl rfl).trans ?_
  refine (k_iload t223_69 rfl rfl).trans ?_
  refine (k_iconst t223_71 rfl zci_m1).trans ?_
  refine (k_icmp_ne t223_72 rfl).trans (z_ite (fun g18 => ?_) (fun g18 => ?_))
  · refine (k_aload_n t223_81 rfl rfl).trans ?_
    refine (k_iload_n t223_82 rfl rfl).trans ?_
    refine (k_iload_n t223_83 rfl rfl).trans ?_
    refine k_callV (as := [.ref 396, .int y1, .int y2]) (rest := []) t223_84 rfl rfl (by decide) rfl rfl (Nat.le_of_ble_eq_true rfl) rfl (z_rcV hW (zK_396) (by decide)) (by decide) (by decide) hW (fun S20 hW20 => ?_)
    refine (k_aload_n t223_87 rfl rfl).trans ?_
    refine (k_iload_n t223_88 rfl rfl).trans ?_
    refine (k_iload_n t223_89 rfl rfl).trans ?_
    refine (k_iload t223_90 rfl rfl).trans ?_
    refine k_callV (as := [.ref 396, .int y1, .int y3, .int s0]) (rest := []) t223_92 rfl rfl (by decide) rfl rfl (Nat.le_of_ble_eq_true rfl) rfl (z_rcV hW20 (zK_396) (by decide)) (by decide) (by decide) hW20 (fun S22 hW22 => ?_)
    exact (zk_mk (ls' := [.ref 396, .int y1, .int y2, z_j, z_j]) t223_95 rfl)
  · refine (k_iinc (b := (y2 + (1 : Int32))) (ls' := [.ref 396, .int y1, .int (y2 + (1 : Int32)), .int y3, .int s0]) t223_75 rfl rfl (by rw [zci_1]) rfl).trans ?_
    refine (k_goto t223_78 rfl).trans ?_
    exact (zk_mk (ls' := [.ref 396, .int y1, .int (y2 + (1 : Int32)), z_j, z_j]) t223_95 rfl)
theorem b223_95_eq (d : Nat) (y1 : Int32) (y2 : Int32) (S : z_S) (hW : z_W S)  : b223_95 d y1 y2 S = b223_2 d y1 y2 S := by
  unfold b223_95
  refine (k_goto t223_95 rfl).trans ?_
  exact (zk_mk (ls' := [.ref 396, .int y1, .int y2, z_j, z_j]) t223_2 rfl)
-- X12_fromBench
theorem e223 (d : Nat) (x1 : Int32) (S : z_S) (hW : z_W S)  : fV (d + 1) 223 [.ref 396, .int x1] S = b223_2 d x1 (0 : Int32) S := by
  refine (fV_en (Nat.le_of_ble_eq_true rfl) rfl).trans ?_
  refine (k_iconst t223_0 rfl zci_0).trans ?_
  refine (k_istore_n (ls' := [.ref 396, .int x1, .int (0 : Int32), z_j, z_j]) t223_1 rfl rfl).trans ?_
  exact (zk_mk (ls' := [.ref 396, .int x1, .int (0 : Int32), z_j, z_j]) t223_2 rfl)
theorem t224_0 : z_ft 224 0 = some (.aload_n 0, 1, none, [], 0, 0, 0, 0) := z_ftd (by decide +kernel)
theorem t224_1 : z_ft 224 1 = some (.iconst 2, 1, none, [], 0, 0, 0, 0) := z_ftd (by decide +kernel)
theorem t224_2 : z_ft 224 2 = some (.invokevirtual 447, 3, none, [], 205, 0, 140, 0) := z_ftd (by decide +kernel)
theorem t224_5 : z_ft 224 5 = some (.ifCond .ne 5, 3, none, [], 10, 0, 0, 0) := z_ftd (by decide +kernel)
theorem t224_8 : z_ft 224 8 = some (.iconst 1, 1, none, [], 0, 0, 0, 0) := z_ftd (by decide +kernel)
theorem t224_9 : z_ft 224 9 = some (.ireturn, 1, none, [], 0, 0, 0, 0) := z_ftd (by decide +kernel)
theorem t224_10 : z_ft 224 10 = some (.aload_n 0, 1, none, [], 0, 0, 0, 0) := z_ftd (by decide +kernel)
theorem t224_11 : z_ft 224 11 = some (.iload_n 1, 1, none, [], 0, 0, 0, 0) := z_ftd (by decide +kernel)
theorem t224_12 : z_ft 224 12 = some (.iload_n 2, 1, none, [], 0, 0, 0, 0) := z_ftd (by decide +kernel)
theorem t224_13 : z_ft 224 13 = some (.invokevirtual 450, 3, none, [], 216, 0, 141, 0) := z_ftd (by decide +kernel)
theorem t224_16 : z_ft 224 16 = some (.aload_n 0, 1, none, [], 0, 0, 0, 0) := z_ftd (by decide +kernel)
theorem t224_17 : z_ft 224 17 = some (.getfield 189, 3, none, [], 12, 58, 59, 0) := z_ftd (by decide +kernel)
theorem t224_20 : z_ft 224 20 = some (.bipush 7, 2, none, [], 0, 0, 0, 0) := z_ftd (by decide +kernel)
theorem t224_22 : z_ft 224 22 = some (.aload_n 0, 1, none, [], 0, 0, 0, 0) := z_ftd (by decide +kernel)
theorem t224_23 : z_ft 224 23 = some (.aload_n 0, 1, none, [], 0, 0, 0, 0) := z_ftd (by decide +kernel)
theorem t224_24 : z_ft 224 24 = some (.getfield 156, 3, none, [], 12, 47, 48, 0) := z_ftd (by decide +kernel)
theorem t224_27 : z_ft 224 27 = some (.bipush 16, 2, none, [], 0, 0, 0, 0) := z_ftd (by decide +kernel)
theorem t224_29 : z_ft 224 29 = some (.iload_n 1, 1, none, [], 0, 0, 0, 0) := z_ftd (by decide +kernel)
theorem t224_30 : z_ft 224 30 = some (.imul, 1, none, [], 0, 0, 0, 0) := z_ftd (by decide +kernel)
theorem t224_31 : z_ft 224 31 = some (.iload_n 2, 1, none, [], 0, 0, 0, 0) := z_ftd (by decide +kernel)
theorem t224_32 : z_ft 224 32 = some (.iadd, 1, none, [], 0, 0, 0, 0) := z_ftd (by decide +kernel)
theorem t224_33 : z_ft 224 33 = some (.iaload, 1, none, [], 0, 0, 0, 0) := z_ftd (by decide +kernel)
theorem t224_34 : z_ft 224 34 = some (.invokevirtual 432, 3, none, [], 210, 0, 135, 0) := z_ftd (by decide +kernel)
theorem t224_37 : z_ft 224 37 = some (.iload_n 2, 1, none, [], 0, 0, 0, 0) := z_ftd (by decide +kernel)
theorem t224_38 : z_ft 224 38 = some (.if_icmp .ne 7, 3, none, [], 45, 0, 0, 0) := z_ftd (by decide +kernel)
theorem t224_41 : z_ft 224 41 = some (.iconst 1, 1, none, [], 0, 0, 0, 0) := z_ftd (by decide +kernel)
theorem t224_42 : z_ft 224 42 = some (.goto 4, 3, none, [], 46, 0, 0, 0) := z_ftd (by decide +kernel)
theorem t224_45 : z_ft 224 45 = some (.iconst 0, 1, none, [], 0, 0, 0, 0) := z_ftd (by decide +kernel)
theorem t224_46 : z_ft 224 46 = some (.iastore, 1, (some [0]), [], 0, 0, 0, 0) := z_ftd (by decide +kernel)
theorem t224_47 : z_ft 224 47 = some (.aload_n 0, 1, none, [], 0, 0, 0, 0) := z_ftd (by decide +kernel)
theorem t224_48 : z_ft 224 48 = some (.iconst 2, 1, none, [], 0, 0, 0, 0) := z_ftd (by decide +kernel)
theorem t224_49 : z_ft 224 49 = some (.invokevirtual 453, 3, none, [], 204, 0, 143, 0) := z_ftd (by decide +kernel)
theorem t224_52 : z_ft 224 52 = some (.lstore_n 3, 1, none, [], 0, 0, 0, 0) := z_ftd (by decide +kernel)
theorem t224_53 : z_ft 224 53 = some (.lload_n 3, 1, none, [], 0, 0, 0, 0) := z_ftd (by decide +kernel)
theorem t224_54 : z_ft 224 54 = some (.lconst 0, 1, none, [], 0, 0, 0, 0) := z_ftd (by decide +kernel)
theorem t224_55 : z_ft 224 55 = some (.lcmp, 1, none, [], 0, 0, 0, 0) := z_ftd (by decide +kernel)
theorem t224_56 : z_ft 224 56 = some (.ifCond .ge 7, 3, none, [], 63, 0, 0, 0) := z_ftd (by decide +kernel)
theorem t224_59 : z_ft 224 59 = some (.iconst 0, 1, none, [], 0, 0, 0, 0) := z_ftd (by decide +kernel)
theorem t224_60 : z_ft 224 60 = some (.goto 18, 3, none, [], 78, 0, 0, 0) := z_ftd (by decide +kernel)
theorem t224_63 : z_ft 224 63 = some (.lload_n 3, 1, none, [], 0, 0, 0, 0) := z_ftd (by decide +kernel)
theorem t224_64 : z_ft 224 64 = some (.ldc2_w 473, 3, none, [], 0, 0, 168, 99) := z_ftd (by decide +kernel)
theorem t224_67 : z_ft 224 67 = some (.lcmp, 1, none, [], 0, 0, 0, 0) := z_ftd (by decide +kernel)
theorem t224_68 : z_ft 224 68 = some (.ifCond .le 8, 3, none, [], 76, 0, 0, 0) := z_ftd (by decide +kernel)
theorem t224_71 : z_ft 224 71 = some (.bipush 99, 2, none, [], 0, 0, 0, 0) := z_ftd (by decide +kernel)
theorem t224_73 : z_ft 224 73 = some (.goto 5, 3, none, [], 78, 0, 0, 0) := z_ftd (by decide +kernel)
theorem t224_76 : z_ft 224 76 = some (.lload_n 3, 1, none, [], 0, 0, 0, 0) := z_ftd (by decide +kernel)
theorem t224_77 : z_ft 224 77 = some (.l2i, 1, none, [], 0, 0, 0, 0) := z_ftd (by decide +kernel)
theorem t224_78 : z_ft 224 78 = some (.ireturn, 1, (some []), [], 0, 0, 0, 0) := z_ftd (by decide +kernel)
noncomputable def b224_46 (d : Nat) (s0 : Int32) (s1 : Int32) (S : z_S) : Option (Int32 × z_S) := zk kI z_X0 d 224 46 [.ref 396, z_j, z_j, z_j, z_j] [.int s0, .int s1, .ref 430] S
theorem b224_46_eq (d : Nat) (s0 : Int32) (s1 : Int32) (S : z_S) (hW : z_W S)  : b224_46 d s0 s1 S = (if z_in s1 10 then (zb (fL d 204 [.ref 396, .int (2 : Int32)] (sI S 430 (s1).toNatClampNeg s0)) fun v11 S12 => (if (0 : Int32) ≤ (lg_cmp v11 (0 : Int64)) then (if (lg_cmp v11 (99 : Int64)) ≤ (0 : Int32) then some ((v11).toInt32, S12) else some ((99 : Int32), S12)) else some ((0 : Int32), S12))) else none) := by
  unfold b224_46
  refine (k_iast t224_46 rfl hW zK_430 zL_430).trans (z_ite (fun g10 => ?_) (fun _ => rfl))
  refine (k_aload_n t224_47 rfl rfl).trans ?_
  refine (k_iconst t224_48 rfl zci_2).trans ?_
  refine k_callL (as := [.ref 396, .int (2 : Int32)]) (rest := []) t224_49 rfl rfl (by decide) rfl rfl (Nat.le_of_ble_eq_true rfl) rfl (z_rcV hW.sI (zK_396) (by decide)) (by decide) (by decide) hW.sI (fun v11 S12 hW12 => ?_)
  refine (k_lstore_n (ls' := [.ref 396, z_j, z_j, .long v11, z_j]) t224_52 rfl rfl).trans ?_
  refine (k_lload_n t224_53 rfl rfl).trans ?_
  refine (k_lconst t224_54 rfl (z := (0 : Int64)) rfl).trans ?_
  refine (k_lcmp t224_55 rfl).trans ?_
  refine (k_if_ge t224_56 rfl).trans (z_ite (fun g13 => ?_) (fun g13 => ?_))
  · refine (k_lload_n t224_63 rfl rfl).trans ?_
    refine (k_ldc2_w t224_64 rfl zcl_99).trans ?_
    refine (k_lcmp t224_67 rfl).trans ?_
    refine (k_if_le t224_68 rfl).trans (z_ite (fun g14 => ?_) (fun g14 => ?_))
    · refine (k_lload_n t224_76 rfl rfl).trans ?_
      refine (k_l2i t224_77 rfl).trans ?_
      refine (zk_mk (ls' := [z_j, z_j, z_j, z_j, z_j]) t224_78 rfl).trans ?_
      exact k_ireturn t224_78 rfl (by decide)
    · refine (k_bipush t224_71 rfl zcb_99).trans ?_
      refine (k_goto t224_73 rfl).trans ?_
      refine (zk_mk (ls' := [z_j, z_j, z_j, z_j, z_j]) t224_78 rfl).trans ?_
      exact k_ireturn t224_78 rfl (by decide)
  · refine (k_iconst t224_59 rfl zci_0).trans ?_
    refine (k_goto t224_60 rfl).trans ?_
    refine (zk_mk (ls' := [z_j, z_j, z_j, z_j, z_j]) t224_78 rfl).trans ?_
    exact k_ireturn t224_78 rfl (by decide)
-- X12_rent
theorem e224 (d : Nat) (x1 : Int32) (x2 : Int32) (S : z_S) (hW : z_W S)  : fI (d + 1) 224 [.ref 396, .int x1, .int x2] S = (zb (fI d 205 [.ref 396, .int (2 : Int32)] S) fun v1 S2 => (if ¬ v1 = (0 : Int32) then ((fV d 216 [.ref 396, .int x1, .int x2] S2).bind fun S5 => (if z_in (((16 : Int32) * x1) + x2) 352 then (zb (fI d 210 [.ref 396, .int (gI S5 423 ((((16 : Int32) * x1) + x2)).toNatClampNeg)] S5) fun v7 S8 => (if ¬ v7 = x2 then b224_46 d (0 : Int32) (7 : Int32) S8 else b224_46 d (1 : Int32) (7 : Int32) S8)) else none)) else some ((1 : Int32), S2))) := by
  refine (fI_en (Nat.le_of_ble_eq_true rfl) rfl).trans ?_
  refine (k_aload_n t224_0 rfl rfl).trans ?_
  refine (k_iconst t224_1 rfl zci_2).trans ?_
  refine k_callI (as := [.ref 396, .int (2 : Int32)]) (rest := []) t224_2 rfl rfl (by decide) rfl rfl (Nat.le_of_ble_eq_true rfl) rfl (z_rcV hW (zK_396) (by decide)) (by decide) (Or.inr (by decide)) hW (fun v1 S2 hW2 => ?_)
  refine (k_if_ne t224_5 rfl).trans (z_ite (fun g3 => ?_) (fun g3 => ?_))
  · refine (k_aload_n t224_10 rfl rfl).trans ?_
    refine (k_iload_n t224_11 rfl rfl).trans ?_
    refine (k_iload_n t224_12 rfl rfl).trans ?_
    refine k_callV (as := [.ref 396, .int x1, .int x2]) (rest := []) t224_13 rfl rfl (by decide) rfl rfl (Nat.le_of_ble_eq_true rfl) rfl (z_rcV hW2 (zK_396) (by decide)) (by decide) (by decide) hW2 (fun S5 hW5 => ?_)
    refine (k_aload_n t224_16 rfl rfl).trans ?_
    refine (k_getR t224_17 rfl hW5 zK_396 (by decide) (by decide) (zF_396_58 hW5)).trans ?_
    refine (k_bipush t224_20 rfl zcb_7).trans ?_
    refine (k_aload_n t224_22 rfl rfl).trans ?_
    refine (k_aload_n t224_23 rfl rfl).trans ?_
    refine (k_getR t224_24 rfl hW5 zK_396 (by decide) (by decide) (zF_396_47 hW5)).trans ?_
    refine (k_bipush t224_27 rfl zcb_16).trans ?_
    refine (k_iload_n t224_29 rfl rfl).trans ?_
    refine (k_imul t224_30 rfl).trans ?_
    refine (k_iload_n t224_31 rfl rfl).trans ?_
    refine (k_iadd t224_32 rfl).trans ?_
    refine (k_iald t224_33 rfl hW5 zK_423 zL_423).trans (z_ite (fun g6 => ?_) (fun _ => rfl))
    refine k_callI (as := [.ref 396, .int (gI S5 423 ((((16 : Int32) * x1) + x2)).toNatClampNeg)]) (rest := [.int (7 : Int32), .ref 430]) t224_34 rfl rfl (by decide) rfl rfl (Nat.le_of_ble_eq_true rfl) rfl (z_rcV hW5 (zK_396) (by decide)) (by decide) (Or.inl (by decide)) hW5 (fun v7 S8 hW8 => ?_)
    refine (k_iload_n t224_37 rfl rfl).trans ?_
    refine (k_icmp_ne t224_38 rfl).trans (z_ite (fun g9 => ?_) (fun g9 => ?_))
    · refine (k_iconst t224_45 rfl zci_0).trans ?_
      exact (zk_mk (ls' := [.ref 396, z_j, z_j, z_j, z_j]) t224_46 rfl)
    · refine (k_iconst t224_41 rfl zci_1).trans ?_
      refine (k_goto t224_42 rfl).trans ?_
      exact (zk_mk (ls' := [.ref 396, z_j, z_j, z_j, z_j]) t224_46 rfl)
  · refine (k_iconst t224_8 rfl zci_1).trans ?_
    exact k_ireturn t224_9 rfl (by decide)
theorem t225_0 : z_ft 225 0 = some (.aload_n 0, 1, none, [], 0, 0, 0, 0) := z_ftd (by decide +kernel)
theorem t225_1 : z_ft 225 1 = some (.iconst 1, 1, none, [], 0, 0, 0, 0) := z_ftd (by decide +kernel)
theorem t225_2 : z_ft 225 2 = some (.invokevirtual 447, 3, none, [], 205, 0, 140, 0) := z_ftd (by decide +kernel)
theorem t225_5 : z_ft 225 5 = some (.ifCond .ne 5, 3, none, [], 10, 0, 0, 0) := z_ftd (by decide +kernel)
theorem t225_8 : z_ft 225 8 = some (.iconst 0, 1, none, [], 0, 0, 0, 0) := z_ftd (by decide +kernel)
theorem t225_9 : z_ft 225 9 = some (.ireturn, 1, none, [], 0, 0, 0, 0) := z_ftd (by decide +kernel)
theorem t225_10 : z_ft 225 10 = some (.aload_n 0, 1, none, [], 0, 0, 0, 0) := z_ftd (by decide +kernel)
theorem t225_11 : z_ft 225 11 = some (.iload_n 1, 1, none, [], 0, 0, 0, 0) := z_ftd (by decide +kernel)
theorem t225_12 : z_ft 225 12 = some (.iload_n 2, 1, none, [], 0, 0, 0, 0) := z_ftd (by decide +kernel)
theorem t225_13 : z_ft 225 13 = some (.invokevirtual 450, 3, none, [], 216, 0, 141, 0) := z_ftd (by decide +kernel)
theorem t225_16 : z_ft 225 16 = some (.aload_n 0, 1, none, [], 0, 0, 0, 0) := z_ftd (by decide +kernel)
theorem t225_17 : z_ft 225 17 = some (.getfield 189, 3, none, [], 12, 58, 59, 0) := z_ftd (by decide +kernel)
theorem t225_20 : z_ft 225 20 = some (.bipush 6, 2, none, [], 0, 0, 0, 0) := z_ftd (by decide +kernel)
theorem t225_22 : z_ft 225 22 = some (.aload_n 0, 1, none, [], 0, 0, 0, 0) := z_ftd (by decide +kernel)
theorem t225_23 : z_ft 225 23 = some (.getfield 162, 3, none, [], 12, 49, 50, 0) := z_ftd (by decide +kernel)
theorem t225_26 : z_ft 225 26 = some (.iload_n 1, 1, none, [], 0, 0, 0, 0) := z_ftd (by decide +kernel)
theorem t225_27 : z_ft 225 27 = some (.iaload, 1, none, [], 0, 0, 0, 0) := z_ftd (by decide +kernel)
theorem t225_28 : z_ft 225 28 = some (.iastore, 1, none, [], 0, 0, 0, 0) := z_ftd (by decide +kernel)
theorem t225_29 : z_ft 225 29 = some (.aload_n 0, 1, none, [], 0, 0, 0, 0) := z_ftd (by decide +kernel)
theorem t225_30 : z_ft 225 30 = some (.iconst 1, 1, none, [], 0, 0, 0, 0) := z_ftd (by decide +kernel)
theorem t225_31 : z_ft 225 31 = some (.invokevirtual 453, 3, none, [], 204, 0, 143, 0) := z_ftd (by decide +kernel)
theorem t225_34 : z_ft 225 34 = some (.lconst 1, 1, none, [], 0, 0, 0, 0) := z_ftd (by decide +kernel)
theorem t225_35 : z_ft 225 35 = some (.lcmp, 1, none, [], 0, 0, 0, 0) := z_ftd (by decide +kernel)
theorem t225_36 : z_ft 225 36 = some (.ifCond .ne 7, 3, none, [], 43, 0, 0, 0) := z_ftd (by decide +kernel)
theorem t225_39 : z_ft 225 39 = some (.iconst 1, 1, none, [], 0, 0, 0, 0) := z_ftd (by decide +kernel)
theorem t225_40 : z_ft 225 40 = some (.goto 4, 3, none, [], 44, 0, 0, 0) := z_ftd (by decide +kernel)
theorem t225_43 : z_ft 225 43 = some (.iconst 0, 1, none, [], 0, 0, 0, 0) := z_ftd (by decide +kernel)
theorem t225_44 : z_ft 225 44 = some (.ireturn, 1, (some []), [], 0, 0, 0, 0) := z_ftd (by decide +kernel)
-- X12_isLeaving
theorem e225 (d : Nat) (x1 : Int32) (x2 : Int32) (S : z_S) (hW : z_W S)  : fI (d + 1) 225 [.ref 396, .int x1, .int x2] S = (zb (fI d 205 [.ref 396, .int (1 : Int32)] S) fun v1 S2 => (if ¬ v1 = (0 : Int32) then ((fV d 216 [.ref 396, .int x1, .int x2] S2).bind fun S5 => (if z_in x1 22 then (if z_in (6 : Int32) 10 then (zb (fL d 204 [.ref 396, .int (1 : Int32)] (sI S5 430 ((6 : Int32)).toNatClampNeg (gI S5 425 (x1).toNatClampNeg))) fun v8 S9 => (if ¬ (lg_cmp v8 (1 : Int64)) = (0 : Int32) then some ((0 : Int32), S9) else some ((1 : Int32), S9))) else none) else none)) else some ((0 : Int32), S2))) := by
  refine (fI_en (Nat.le_of_ble_eq_true rfl) rfl).trans ?_
  refine (k_aload_n t225_0 rfl rfl).trans ?_
  refine (k_iconst t225_1 rfl zci_1).trans ?_
  refine k_callI (as := [.ref 396, .int (1 : Int32)]) (rest := []) t225_2 rfl rfl (by decide) rfl rfl (Nat.le_of_ble_eq_true rfl) rfl (z_rcV hW (zK_396) (by decide)) (by decide) (Or.inr (by decide)) hW (fun v1 S2 hW2 => ?_)
  refine (k_if_ne t225_5 rfl).trans (z_ite (fun g3 => ?_) (fun g3 => ?_))
  · refine (k_aload_n t225_10 rfl rfl).trans ?_
    refine (k_iload_n t225_11 rfl rfl).trans ?_
    refine (k_iload_n t225_12 rfl rfl).trans ?_
    refine k_callV (as := [.ref 396, .int x1, .int x2]) (rest := []) t225_13 rfl rfl (by decide) rfl rfl (Nat.le_of_ble_eq_true rfl) rfl (z_rcV hW2 (zK_396) (by decide)) (by decide) (by decide) hW2 (fun S5 hW5 => ?_)
    refine (k_aload_n t225_16 rfl rfl).trans ?_
    refine (k_getR t225_17 rfl hW5 zK_396 (by decide) (by decide) (zF_396_58 hW5)).trans ?_
    refine (k_bipush t225_20 rfl zcb_6).trans ?_
    refine (k_aload_n t225_22 rfl rfl).trans ?_
    refine (k_getR t225_23 rfl hW5 zK_396 (by decide) (by decide) (zF_396_49 hW5)).trans ?_
    refine (k_iload_n t225_26 rfl rfl).trans ?_
    refine (k_iald t225_27 rfl hW5 zK_425 zL_425).trans (z_ite (fun g6 => ?_) (fun _ => rfl))
    refine (k_iast t225_28 rfl hW5 zK_430 zL_430).trans (z_ite (fun g7 => ?_) (fun _ => rfl))
    refine (k_aload_n t225_29 rfl rfl).trans ?_
    refine (k_iconst t225_30 rfl zci_1).trans ?_
    refine k_callL (as := [.ref 396, .int (1 : Int32)]) (rest := []) t225_31 rfl rfl (by decide) rfl rfl (Nat.le_of_ble_eq_true rfl) rfl (z_rcV hW5.sI (zK_396) (by decide)) (by decide) (by decide) hW5.sI (fun v8 S9 hW9 => ?_)
    refine (k_lconst t225_34 rfl (z := (1 : Int64)) rfl).trans ?_
    refine (k_lcmp t225_35 rfl).trans ?_
    refine (k_if_ne t225_36 rfl).trans (z_ite (fun g10 => ?_) (fun g10 => ?_))
    · refine (k_iconst t225_43 rfl zci_0).trans ?_
      refine (zk_mk (ls' := [z_j, z_j, z_j]) t225_44 rfl).trans ?_
      exact k_zretC t225_44 rfl (by decide) (by decide)
    · refine (k_iconst t225_39 rfl zci_1).trans ?_
      refine (k_goto t225_40 rfl).trans ?_
      refine (zk_mk (ls' := [z_j, z_j, z_j]) t225_44 rfl).trans ?_
      exact k_zretC t225_44 rfl (by decide) (by decide)
  · refine (k_iconst t225_8 rfl zci_0).trans ?_
    exact k_zretC t225_9 rfl (by decide) (by decide)
theorem t226_0 : z_ft 226 0 = some (.aload_n 0, 1, none, [], 0, 0, 0, 0) := z_ftd (by decide +kernel)
theorem t226_1 : z_ft 226 1 = some (.iload_n 1, 1, none, [], 0, 0, 0, 0) := z_ftd (by decide +kernel)
theorem t226_2 : z_ft 226 2 = some (.invokevirtual 475, 3, none, [], 223, 0, 165, 0) := z_ftd (by decide +kernel)
theorem t226_5 : z_ft 226 5 = some (.iconst 0, 1, none, [], 0, 0, 0, 0) := z_ftd (by decide +kernel)
theorem t226_6 : z_ft 226 6 = some (.istore_n 2, 1, none, [], 0, 0, 0, 0) := z_ftd (by decide +kernel)
theorem t226_7 : z_ft 226 7 = some (.iconst 0, 1, none, [], 0, 0, 0, 0) := z_ftd (by decide +kernel)
theorem t226_8 : z_ft 226 8 = some (.istore_n 3, 1, none, [], 0, 0, 0, 0) := z_ftd (by decide +kernel)
theorem t226_9 : z_ft 226 9 = some (.iload_n 3, 1, (some [0, 1, 2, 3]), [], 0, 0, 0, 0) := z_ftd (by decide +kernel)
theorem t226_10 : z_ft 226 10 = some (.aload_n 0, 1, none, [], 0, 0, 0, 0) := z_ftd (by decide +kernel)
theorem t226_11 : z_ft 226 11 = some (.getfield 54, 3, none, [], 12, 14, 15, 0) := z_ftd (by decide +kernel)
theorem t226_14 : z_ft 226 14 = some (.aload_n 0, 1, none, [], 0, 0, 0, 0) := z_ftd (by decide +kernel)
theorem t226_15 : z_ft 226 15 = some (.getfield 51, 3, none, [], 12, 13, 14, 0) := z_ftd (by decide +kernel)
theorem t226_18 : z_ft 226 18 = some (.iaload, 1, none, [], 0, 0, 0, 0) := z_ftd (by decide +kernel)
theorem t226_19 : z_ft 226 19 = some (.if_icmp .ge 37, 3, none, [], 56, 0, 0, 0) := z_ftd (by decide +kernel)
theorem t226_22 : z_ft 226 22 = some (.iload_n 2, 1, none, [], 0, 0, 0, 0) := z_ftd (by decide +kernel)
theorem t226_23 : z_ft 226 23 = some (.aload_n 0, 1, none, [], 0, 0, 0, 0) := z_ftd (by decide +kernel)
theorem t226_24 : z_ft 226 24 = some (.getfield 156, 3, none, [], 12, 47, 48, 0) := z_ftd (by decide +kernel)
theorem t226_27 : z_ft 226 27 = some (.bipush 16, 2, none, [], 0, 0, 0, 0) := z_ftd (by decide +kernel)
theorem t226_29 : z_ft 226 29 = some (.iload_n 1, 1, none, [], 0, 0, 0, 0) := z_ftd (by decide +kernel)
theorem t226_30 : z_ft 226 30 = some (.imul, 1, none, [], 0, 0, 0, 0) := z_ftd (by decide +kernel)
theorem t226_31 : z_ft 226 31 = some (.iload_n 3, 1, none, [], 0, 0, 0, 0) := z_ftd (by decide +kernel)
theorem t226_32 : z_ft 226 32 = some (.iadd, 1, none, [], 0, 0, 0, 0) := z_ftd (by decide +kernel)
theorem t226_33 : z_ft 226 33 = some (.iaload, 1, none, [], 0, 0, 0, 0) := z_ftd (by decide +kernel)
theorem t226_34 : z_ft 226 34 = some (.iconst (-1), 1, none, [], 0, 0, 0, 0) := z_ftd (by decide +kernel)
theorem t226_35 : z_ft 226 35 = some (.if_icmp .ne 7, 3, none, [], 42, 0, 0, 0) := z_ftd (by decide +kernel)
theorem t226_38 : z_ft 226 38 = some (.iconst 0, 1, none, [], 0, 0, 0, 0) := z_ftd (by decide +kernel)
theorem t226_39 : z_ft 226 39 = some (.goto 9, 3, none, [], 48, 0, 0, 0) := z_ftd (by decide +kernel)
theorem t226_42 : z_ft 226 42 = some (.aload_n 0, 1, none, [], 0, 0, 0, 0) := z_ftd (by decide +kernel)
theorem t226_43 : z_ft 226 43 = some (.iload_n 1, 1, none, [], 0, 0, 0, 0) := z_ftd (by decide +kernel)
theorem t226_44 : z_ft 226 44 = some (.iload_n 3, 1, none, [], 0, 0, 0, 0) := z_ftd (by decide +kernel)
theorem t226_45 : z_ft 226 45 = some (.invokevirtual 478, 3, none, [], 224, 0, 167, 0) := z_ftd (by decide +kernel)
theorem t226_48 : z_ft 226 48 = some (.iadd, 1, (some [0, 1, 3]), [], 0, 0, 0, 0) := z_ftd (by decide +kernel)
theorem t226_49 : z_ft 226 49 = some (.istore_n 2, 1, none, [], 0, 0, 0, 0) := z_ftd (by decide +kernel)
theorem t226_50 : z_ft 226 50 = some (.iinc 3 1, 3, none, [], 0, 0, 0, 0) := z_ftd (by decide +kernel)
theorem t226_53 : z_ft 226 53 = some (.goto (-44), 3, none, [], 9, 0, 0, 0) := z_ftd (by decide +kernel)
theorem t226_56 : z_ft 226 56 = some (.aload_n 0, 1, none, [], 0, 0, 0, 0) := z_ftd (by decide +kernel)
theorem t226_57 : z_ft 226 57 = some (.getfield 150, 3, none, [], 12, 45, 46, 0) := z_ftd (by decide +kernel)
theorem t226_60 : z_ft 226 60 = some (.iload_n 1, 1, none, [], 0, 0, 0, 0) := z_ftd (by decide +kernel)
theorem t226_61 : z_ft 226 61 = some (.aload_n 0, 1, none, [], 0, 0, 0, 0) := z_ftd (by decide +kernel)
theorem t226_62 : z_ft 226 62 = some (.getfield 150, 3, none, [], 12, 45, 46, 0) := z_ftd (by decide +kernel)
theorem t226_65 : z_ft 226 65 = some (.iload_n 1, 1, none, [], 0, 0, 0, 0) := z_ftd (by decide +kernel)
theorem t226_66 : z_ft 226 66 = some (.iaload, 1, none, [], 0, 0, 0, 0) := z_ftd (by decide +kernel)
theorem t226_67 : z_ft 226 67 = some (.iload_n 2, 1, none, [], 0, 0, 0, 0) := z_ftd (by decide +kernel)
theorem t226_68 : z_ft 226 68 = some (.iadd, 1, none, [], 0, 0, 0, 0) := z_ftd (by decide +kernel)
theorem t226_69 : z_ft 226 69 = some (.ldc_w 481, 3, none, [], 0, 0, 169, 999999) := z_ftd (by decide +kernel)
theorem t226_72 : z_ft 226 72 = some (.if_icmp .le 9, 3, none, [], 81, 0, 0, 0) := z_ftd (by decide +kernel)
theorem t226_75 : z_ft 226 75 = some (.ldc_w 481, 3, none, [], 0, 0, 169, 999999) := z_ftd (by decide +kernel)
theorem t226_78 : z_ft 226 78 = some (.goto 11, 3, none, [], 89, 0, 0, 0) := z_ftd (by decide +kernel)
theorem t226_81 : z_ft 226 81 = some (.aload_n 0, 1, none, [], 0, 0, 0, 0) := z_ftd (by decide +kernel)
theorem t226_82 : z_ft 226 82 = some (.getfield 150, 3, none, [], 12, 45, 46, 0) := z_ftd (by decide +kernel)
theorem t226_85 : z_ft 226 85 = some (.iload_n 1, 1, none, [], 0, 0, 0, 0) := z_ftd (by decide +kernel)
theorem t226_86 : z_ft 226 86 = some (.iaload, 1, none, [], 0, 0, 0, 0) := z_ftd (by decide +kernel)
theorem t226_87 : z_ft 226 87 = some (.iload_n 2, 1, none, [], 0, 0, 0, 0) := z_ftd (by decide +kernel)
theorem t226_88 : z_ft 226 88 = some (.iadd, 1, none, [], 0, 0, 0, 0) := z_ftd (by decide +kernel)
theorem t226_89 : z_ft 226 89 = some (.iastore, 1, (some [0, 1, 2]), [], 0, 0, 0, 0) := z_ftd (by decide +kernel)
theorem t226_90 : z_ft 226 90 = some (.iconst 0, 1, none, [], 0, 0, 0, 0) := z_ftd (by decide +kernel)
theorem t226_91 : z_ft 226 91 = some (.istore_n 3, 1, none, [], 0, 0, 0, 0) := z_ftd (by decide +kernel)
theorem t226_92 : z_ft 226 92 = some (.iload_n 3, 1, (some [0, 1, 2, 3]), [], 0, 0, 0, 0) := z_ftd (by decide +kernel)
theorem t226_93 : z_ft 226 93 = some (.aload_n 0, 1, none, [], 0, 0, 0, 0) := z_ftd (by decide +kernel)
theorem t226_94 : z_ft 226 94 = some (.getfield 54, 3, none, [], 12, 14, 15, 0) := z_ftd (by decide +kernel)
theorem t226_97 : z_ft 226 97 = some (.aload_n 0, 1, none, [], 0, 0, 0, 0) := z_ftd (by decide +kernel)
theorem t226_98 : z_ft 226 98 = some (.getfield 51, 3, none, [], 12, 13, 14, 0) := z_ftd (by decide +kernel)
theorem t226_101 : z_ft 226 101 = some (.iaload, 1, none, [], 0, 0, 0, 0) := z_ftd (by decide +kernel)
theorem t226_102 : z_ft 226 102 = some (.if_icmp .ge 61, 3, none, [], 163, 0, 0, 0) := z_ftd (by decide +kernel)
theorem t226_105 : z_ft 226 105 = some (.aload_n 0, 1, none, [], 0, 0, 0, 0) := z_ftd (by decide +kernel)
theorem t226_106 : z_ft 226 106 = some (.getfield 156, 3, none, [], 12, 47, 48, 0) := z_ftd (by decide +kernel)
theorem t226_109 : z_ft 226 109 = some (.bipush 16, 2, none, [], 0, 0, 0, 0) := z_ftd (by decide +kernel)
theorem t226_111 : z_ft 226 111 = some (.iload_n 1, 1, none, [], 0, 0, 0, 0) := z_ftd (by decide +kernel)
theorem t226_112 : z_ft 226 112 = some (.imul, 1, none, [], 0, 0, 0, 0) := z_ftd (by decide +kernel)
theorem t226_113 : z_ft 226 113 = some (.iload_n 3, 1, none, [], 0, 0, 0, 0) := z_ftd (by decide +kernel)
theorem t226_114 : z_ft 226 114 = some (.iadd, 1, none, [], 0, 0, 0, 0) := z_ftd (by decide +kernel)
theorem t226_115 : z_ft 226 115 = some (.iaload, 1, none, [], 0, 0, 0, 0) := z_ftd (by decide +kernel)
theorem t226_116 : z_ft 226 116 = some (.istore 4, 2, none, [], 0, 0, 0, 0) := z_ftd (by decide +kernel)
theorem t226_118 : z_ft 226 118 = some (.iload 4, 2, none, [], 0, 0, 0, 0) := z_ftd (by decide +kernel)
theorem t226_120 : z_ft 226 120 = some (.iconst (-1), 1, none, [], 0, 0, 0, 0) := z_ftd (by decide +kernel)
theorem t226_121 : z_ft 226 121 = some (.if_icmp .eq 36, 3, none, [], 157, 0, 0, 0) := z_ftd (by decide +kernel)
theorem t226_124 : z_ft 226 124 = some (.aload_n 0, 1, none, [], 0, 0, 0, 0) := z_ftd (by decide +kernel)
theorem t226_125 : z_ft 226 125 = some (.getfield 159, 3, none, [], 12, 48, 49, 0) := z_ftd (by decide +kernel)
theorem t226_128 : z_ft 226 128 = some (.bipush 16, 2, none, [], 0, 0, 0, 0) := z_ftd (by decide +kernel)
theorem t226_130 : z_ft 226 130 = some (.iload_n 1, 1, none, [], 0, 0, 0, 0) := z_ftd (by decide +kernel)
theorem t226_131 : z_ft 226 131 = some (.imul, 1, none, [], 0, 0, 0, 0) := z_ftd (by decide +kernel)
theorem t226_132 : z_ft 226 132 = some (.iload 4, 2, none, [], 0, 0, 0, 0) := z_ftd (by decide +kernel)
theorem t226_134 : z_ft 226 134 = some (.iadd, 1, none, [], 0, 0, 0, 0) := z_ftd (by decide +kernel)
theorem t226_135 : z_ft 226 135 = some (.iaload, 1, none, [], 0, 0, 0, 0) := z_ftd (by decide +kernel)
theorem t226_136 : z_ft 226 136 = some (.bipush 99, 2, none, [], 0, 0, 0, 0) := z_ftd (by decide +kernel)
theorem t226_138 : z_ft 226 138 = some (.if_icmp .ge 19, 3, none, [], 157, 0, 0, 0) := z_ftd (by decide +kernel)
theorem t226_141 : z_ft 226 141 = some (.aload_n 0, 1, none, [], 0, 0, 0, 0) := z_ftd (by decide +kernel)
theorem t226_142 : z_ft 226 142 = some (.getfield 159, 3, none, [], 12, 48, 49, 0) := z_ftd (by decide +kernel)
theorem t226_145 : z_ft 226 145 = some (.bipush 16, 2, none, [], 0, 0, 0, 0) := z_ftd (by decide +kernel)
theorem t226_147 : z_ft 226 147 = some (.iload_n 1, 1, none, [], 0, 0, 0, 0) := z_ftd (by decide +kernel)
theorem t226_148 : z_ft 226 148 = some (.imul, 1, none, [], 0, 0, 0, 0) := z_ftd (by decide +kernel)
theorem t226_149 : z_ft 226 149 = some (.iload 4, 2, none, [], 0, 0, 0, 0) := z_ftd (by decide +kernel)
theorem t226_151 : z_ft 226 151 = some (.iadd, 1, none, [], 0, 0, 0, 0) := z_ftd (by decide +kernel)
theorem t226_152 : z_ft 226 152 = some (.dup2, 1, none, [], 0, 0, 0, 0) := z_ftd (by decide +kernel)
theorem t226_153 : z_ft 226 153 = some (.iaload, 1, none, [], 0, 0, 0, 0) := z_ftd (by decide +kernel)
theorem t226_154 : z_ft 226 154 = some (.iconst 1, 1, none, [], 0, 0, 0, 0) := z_ftd (by decide +kernel)
theorem t226_155 : z_ft 226 155 = some (.iadd, 1, none, [], 0, 0, 0, 0) := z_ftd (by decide +kernel)
theorem t226_156 : z_ft 226 156 = some (.iastore, 1, none, [], 0, 0, 0, 0) := z_ftd (by decide +kernel)
theorem t226_157 : z_ft 226 157 = some (.iinc 3 1, 3, (some [0, 1, 2, 3]), [], 0, 0, 0, 0) := z_ftd (by decide +kernel)
theorem t226_160 : z_ft 226 160 = some (.goto (-68), 3, none, [], 92, 0, 0, 0) := z_ftd (by decide +kernel)
theorem t226_163 : z_ft 226 163 = some (.iconst 0, 1, none, [], 0, 0, 0, 0) := z_ftd (by decide +kernel)
theorem t226_164 : z_ft 226 164 = some (.istore_n 3, 1, none, [], 0, 0, 0, 0) := z_ftd (by decide +kernel)
theorem t226_165 : z_ft 226 165 = some (.iload_n 3, 1, (some [0, 1, 2, 3]), [], 0, 0, 0, 0) := z_ftd (by decide +kernel)
theorem t226_166 : z_ft 226 166 = some (.aload_n 0, 1, none, [], 0, 0, 0, 0) := z_ftd (by decide +kernel)
theorem t226_167 : z_ft 226 167 = some (.getfield 66, 3, none, [], 12, 18, 19, 0) := z_ftd (by decide +kernel)
theorem t226_170 : z_ft 226 170 = some (.aload_n 0, 1, none, [], 0, 0, 0, 0) := z_ftd (by decide +kernel)
theorem t226_171 : z_ft 226 171 = some (.getfield 51, 3, none, [], 12, 13, 14, 0) := z_ftd (by decide +kernel)
theorem t226_174 : z_ft 226 174 = some (.iaload, 1, none, [], 0, 0, 0, 0) := z_ftd (by decide +kernel)
theorem t226_175 : z_ft 226 175 = some (.if_icmp .ge 39, 3, none, [], 214, 0, 0, 0) := z_ftd (by decide +kernel)
theorem t226_178 : z_ft 226 178 = some (.aload_n 0, 1, none, [], 0, 0, 0, 0) := z_ftd (by decide +kernel)
theorem t226_179 : z_ft 226 179 = some (.iload_n 1, 1, none, [], 0, 0, 0, 0) := z_ftd (by decide +kernel)
theorem t226_180 : z_ft 226 180 = some (.iload_n 3, 1, none, [], 0, 0, 0, 0) := z_ftd (by decide +kernel)
theorem t226_181 : z_ft 226 181 = some (.invokevirtual 438, 3, none, [], 213, 0, 159, 0) := z_ftd (by decide +kernel)
theorem t226_184 : z_ft 226 184 = some (.istore 4, 2, none, [], 0, 0, 0, 0) := z_ftd (by decide +kernel)
theorem t226_186 : z_ft 226 186 = some (.iload 4, 2, none, [], 0, 0, 0, 0) := z_ftd (by decide +kernel)
theorem t226_188 : z_ft 226 188 = some (.iconst (-1), 1, none, [], 0, 0, 0, 0) := z_ftd (by decide +kernel)
theorem t226_189 : z_ft 226 189 = some (.if_icmp .eq 19, 3, none, [], 208, 0, 0, 0) := z_ftd (by decide +kernel)
theorem t226_192 : z_ft 226 192 = some (.aload_n 0, 1, none, [], 0, 0, 0, 0) := z_ftd (by decide +kernel)
theorem t226_193 : z_ft 226 193 = some (.iload_n 1, 1, none, [], 0, 0, 0, 0) := z_ftd (by decide +kernel)
theorem t226_194 : z_ft 226 194 = some (.iload 4, 2, none, [], 0, 0, 0, 0) := z_ftd (by decide +kernel)
theorem t226_196 : z_ft 226 196 = some (.invokevirtual 482, 3, none, [], 225, 0, 170, 0) := z_ftd (by decide +kernel)
theorem t226_199 : z_ft 226 199 = some (.ifCond .eq 9, 3, none, [], 208, 0, 0, 0) := z_ftd (by decide +kernel)
theorem t226_202 : z_ft 226 202 = some (.aload_n 0, 1, none, [], 0, 0, 0, 0) := z_ftd (by decide +kernel)
theorem t226_203 : z_ft 226 203 = some (.iload_n 1, 1, none, [], 0, 0, 0, 0) := z_ftd (by decide +kernel)
theorem t226_204 : z_ft 226 204 = some (.iload_n 3, 1, none, [], 0, 0, 0, 0) := z_ftd (by decide +kernel)
theorem t226_205 : z_ft 226 205 = some (.invokevirtual 485, 3, none, [], 222, 0, 171, 0) := z_ftd (by decide +kernel)
theorem t226_208 : z_ft 226 208 = some (.iinc 3 1, 3, (some [0, 1, 2, 3]), [], 0, 0, 0, 0) := z_ftd (by decide +kernel)
theorem t226_211 : z_ft 226 211 = some (.goto (-46), 3, none, [], 165, 0, 0, 0) := z_ftd (by decide +kernel)
theorem t226_214 : z_ft 226 214 = some (.aload_n 0, 1, none, [], 0, 0, 0, 0) := z_ftd (by decide +kernel)
theorem t226_215 : z_ft 226 215 = some (.getfield 147, 3, none, [], 12, 44, 45, 0) := z_ftd (by decide +kernel)
theorem t226_218 : z_ft 226 218 = some (.iload_n 1, 1, none, [], 0, 0, 0, 0) := z_ftd (by decide +kernel)
theorem t226_219 : z_ft 226 219 = some (.dup2, 1, none, [], 0, 0, 0, 0) := z_ftd (by decide +kernel)
theorem t226_220 : z_ft 226 220 = some (.iaload, 1, none, [], 0, 0, 0, 0) := z_ftd (by decide +kernel)
theorem t226_221 : z_ft 226 221 = some (.iconst 1, 1, none, [], 0, 0, 0, 0) := z_ftd (by decide +kernel)
theorem t226_222 : z_ft 226 222 = some (.iadd, 1, none, [], 0, 0, 0, 0) := z_ftd (by decide +kernel)
theorem t226_223 : z_ft 226 223 = some (.iastore, 1, none, [], 0, 0, 0, 0) := z_ftd (by decide +kernel)
theorem t226_224 : z_ft 226 224 = some (.iload_n 2, 1, none, [], 0, 0, 0, 0) := z_ftd (by decide +kernel)
theorem t226_225 : z_ft 226 225 = some (.ireturn, 1, none, [], 0, 0, 0, 0) := z_ftd (by decide +kernel)
noncomputable def b226_9 (d : Nat) (y1 : Int32) (y2 : Int32) (y3 : Int32) (S : z_S) : Option (Int32 × z_S) := zk kI z_X0 d 226 9 [.ref 396, .int y1, .int y2, .int y3, z_j] [] S
noncomputable def b226_89 (d : Nat) (y1 : Int32) (y2 : Int32) (s0 : Int32) (s1 : Int32) (S : z_S) : Option (Int32 × z_S) := zk kI z_X0 d 226 89 [.ref 396, .int y1, .int y2, z_j, z_j] [.int s0, .int s1, .ref 421] S
noncomputable def b226_48 (d : Nat) (y1 : Int32) (y3 : Int32) (s0 : Int32) (s1 : Int32) (S : z_S) : Option (Int32 × z_S) := zk kI z_X0 d 226 48 [.ref 396, .int y1, z_j, .int y3, z_j] [.int s0, .int s1] S
noncomputable def b226_92 (d : Nat) (y1 : Int32) (y2 : Int32) (y3 : Int32) (S : z_S) : Option (Int32 × z_S) := zk kI z_X0 d 226 92 [.ref 396, .int y1, .int y2, .int y3, z_j] [] S
noncomputable def b226_165 (d : Nat) (y1 : Int32) (y2 : Int32) (y3 : Int32) (S : z_S) : Option (Int32 × z_S) := zk kI z_X0 d 226 165 [.ref 396, .int y1, .int y2, .int y3, z_j] [] S
noncomputable def b226_157 (d : Nat) (y1 : Int32) (y2 : Int32) (y3 : Int32) (S : z_S) : Option (Int32 × z_S) := zk kI z_X0 d 226 157 [.ref 396, .int y1, .int y2, .int y3, z_j] [] S
noncomputable def b226_208 (d : Nat) (y1 : Int32) (y2 : Int32) (y3 : Int32) (S : z_S) : Option (Int32 × z_S) := zk kI z_X0 d 226 208 [.ref 396, .int y1, .int y2, .int y3, z_j] [] S
theorem b226_9_eq (d : Nat) (y1 : Int32) (y2 : Int32) (y3 : Int32) (S : z_S) (hW : z_W S)  : b226_9 d y1 y2 y3 S = (if z_in (gI S 396 13) 2 then (if (gI S 398 ((gI S 396 13)).toNatClampNeg) ≤ y3 then (if z_in y1 22 then (if ((gI S 421 (y1).toNatClampNeg) + y2) ≤ (999999 : Int32) then (if z_in y1 22 then b226_89 d y1 y2 ((gI S 421 (y1).toNatClampNeg) + y2) y1 S else none) else b226_89 d y1 y2 (999999 : Int32) y1 S) else none) else (if z_in (((16 : Int32) * y1) + y3) 352 then (if ¬ (gI S 423 ((((16 : Int32) * y1) + y3)).toNatClampNeg) = (-1 : Int32) then (zb (fI d 224 [.ref 396, .int y1, .int y3] S) fun v10 S11 => b226_48 d y1 y3 v10 y2 S11) else b226_48 d y1 y3 (0 : Int32) y2 S) else none)) else none) := by
  unfold b226_9
  refine (k_iload_n t226_9 rfl rfl).trans ?_
  refine (k_aload_n t226_10 rfl rfl).trans ?_
  refine (k_getR t226_11 rfl hW zK_396 (by decide) (by decide) (zF_396_14 hW)).trans ?_
  refine (k_aload_n t226_14 rfl rfl).trans ?_
  refine (k_getI t226_15 rfl hW zK_396 (by decide) (by decide)).trans ?_
  refine (k_iald t226_18 rfl hW zK_398 zL_398).trans (z_ite (fun g3 => ?_) (fun _ => rfl))
  refine (k_icmp_ge t226_19 rfl).trans (z_ite (fun g4 => ?_) (fun g4 => ?_))
  · refine (k_aload_n t226_56 rfl rfl).trans ?_
    refine (k_getR t226_57 rfl hW zK_396 (by decide) (by decide) (zF_396_45 hW)).trans ?_
    refine (k_iload_n t226_60 rfl rfl).trans ?_
    refine (k_aload_n t226_61 rfl rfl).trans ?_
    refine (k_getR t226_62 rfl hW zK_396 (by decide) (by decide) (zF_396_45 hW)).trans ?_
    refine (k_iload_n t226_65 rfl rfl).trans ?_
    refine (k_iald t226_66 rfl hW zK_421 zL_421).trans (z_ite (fun g5 => ?_) (fun _ => rfl))
    refine (k_iload_n t226_67 rfl rfl).trans ?_
    refine (k_iadd t226_68 rfl).trans ?_
    refine (k_ldc_w t226_69 rfl zci_999999).trans ?_
    refine (k_icmp_le t226_72 rfl).trans (z_ite (fun g6 => ?_) (fun g6 => ?_))
    · refine (k_aload_n t226_81 rfl rfl).trans ?_
      refine (k_getR t226_82 rfl hW zK_396 (by decide) (by decide) (zF_396_45 hW)).trans ?_
      refine (k_iload_n t226_85 rfl rfl).trans ?_
      refine (k_iald t226_86 rfl hW zK_421 zL_421).trans (z_ite (fun g7 => ?_) (fun _ => rfl))
      refine (k_iload_n t226_87 rfl rfl).trans ?_
      refine (k_iadd t226_88 rfl).trans ?_
      exact (zk_mk (ls' := [.ref 396, .int y1, .int y2, z_j, z_j]) t226_89 rfl)
    · refine (k_ldc_w t226_75 rfl zci_999999).trans ?_
      refine (k_goto t226_78 rfl).trans ?_
      exact (zk_mk (ls' := [.ref 396, .int y1, .int y2, z_j, z_j]) t226_89 rfl)
  · refine (k_iload_n t226_22 rfl rfl).trans ?_
    refine (k_aload_n t226_23 rfl rfl).trans ?_
    refine (k_getR t226_24 rfl hW zK_396 (by decide) (by decide) (zF_396_47 hW)).trans ?_
    refine (k_bipush t226_27 rfl zcb_16).trans ?_
    refine (k_iload_n t226_29 rfl rfl).trans ?_
    refine (k_imul t226_30 rfl).trans ?_
    refine (k_iload_n t226_31 rfl rfl).trans ?_
    refine (k_iadd t226_32 rfl).trans ?_
    refine (k_iald t226_33 rfl hW zK_423 zL_423).trans (z_ite (fun g8 => ?_) (fun _ => rfl))
    refine (k_iconst t226_34 rfl zci_m1).trans ?_
    refine (k_icmp_ne t226_35 rfl).trans (z_ite (fun g9 => ?_) (fun g9 => ?_))
    · refine (k_aload_n t226_42 rfl rfl).trans ?_
      refine (k_iload_n t226_43 rfl rfl).trans ?_
      refine (k_iload_n t226_44 rfl rfl).trans ?_
      refine k_callI (as := [.ref 396, .int y1, .int y3]) (rest := [.int y2]) t226_45 rfl rfl (by decide) rfl rfl (Nat.le_of_ble_eq_true rfl) rfl (z_rcV hW (zK_396) (by decide)) (by decide) (Or.inl (by decide)) hW (fun v10 S11 hW11 => ?_)
      exact (zk_mk (ls' := [.ref 396, .int y1, z_j, .int y3, z_j]) t226_48 rfl)
    · refine (k_iconst t226_38 rfl zci_0).trans ?_
      refine (k_goto t226_39 rfl).trans ?_
      exact (zk_mk (ls' := [.ref 396, .int y1, z_j, .int y3, z_j]) t226_48 rfl)
theorem b226_89_eq (d : Nat) (y1 : Int32) (y2 : Int32) (s0 : Int32) (s1 : Int32) (S : z_S) (hW : z_W S)  : b226_89 d y1 y2 s0 s1 S = (if z_in s1 22 then b226_92 d y1 y2 (0 : Int32) (sI S 421 (s1).toNatClampNeg s0) else none) := by
  unfold b226_89
  refine (k_iast t226_89 rfl hW zK_421 zL_421).trans (z_ite (fun g12 => ?_) (fun _ => rfl))
  refine (k_iconst t226_90 rfl zci_0).trans ?_
  refine (k_istore_n (ls' := [.ref 396, .int y1, .int y2, .int (0 : Int32), z_j]) t226_91 rfl rfl).trans ?_
  exact (zk_mk (ls' := [.ref 396, .int y1, .int y2, .int (0 : Int32), z_j]) t226_92 rfl)
theorem b226_48_eq (d : Nat) (y1 : Int32) (y3 : Int32) (s0 : Int32) (s1 : Int32) (S : z_S) (hW : z_W S)  : b226_48 d y1 y3 s0 s1 S = b226_9 d y1 (s1 + s0) (y3 + (1 : Int32)) S := by
  unfold b226_48
  refine (k_iadd t226_48 rfl).trans ?_
  refine (k_istore_n (ls' := [.ref 396, .int y1, .int (s1 + s0), .int y3, z_j]) t226_49 rfl rfl).trans ?_
  refine (k_iinc (b := (y3 + (1 : Int32))) (ls' := [.ref 396, .int y1, .int (s1 + s0), .int (y3 + (1 : Int32)), z_j]) t226_50 rfl rfl (by rw [zci_1]) rfl).trans ?_
  refine (k_goto t226_53 rfl).trans ?_
  exact (zk_mk (ls' := [.ref 396, .int y1, .int (s1 + s0), .int (y3 + (1 : Int32)), z_j]) t226_9 rfl)
theorem b226_92_eq (d : Nat) (y1 : Int32) (y2 : Int32) (y3 : Int32) (S : z_S) (hW : z_W S)  : b226_92 d y1 y2 y3 S = (if z_in (gI S 396 13) 2 then (if (gI S 398 ((gI S 396 13)).toNatClampNeg) ≤ y3 then b226_165 d y1 y2 (0 : Int32) S else (if z_in (((16 : Int32) * y1) + y3) 352 then (if (gI S 423 ((((16 : Int32) * y1) + y3)).toNatClampNeg) = (-1 : Int32) then b226_157 d y1 y2 y3 S else (if z_in (((16 : Int32) * y1) + (gI S 423 ((((16 : Int32) * y1) + y3)).toNatClampNeg)) 352 then (if (99 : Int32) ≤ (gI S 424 ((((16 : Int32) * y1) + (gI S 423 ((((16 : Int32) * y1) + y3)).toNatClampNeg))).toNatClampNeg) then b226_157 d y1 y2 y3 S else (if z_in (((16 : Int32) * y1) + (gI S 423 ((((16 : Int32) * y1) + y3)).toNatClampNeg)) 352 then (if z_in (((16 : Int32) * y1) + (gI S 423 ((((16 : Int32) * y1) + y3)).toNatClampNeg)) 352 then b226_157 d y1 y2 y3 (sI S 424 ((((16 : Int32) * y1) + (gI S 423 ((((16 : Int32) * y1) + y3)).toNatClampNeg))).toNatClampNeg ((gI S 424 ((((16 : Int32) * y1) + (gI S 423 ((((16 : Int32) * y1) + y3)).toNatClampNeg))).toNatClampNeg) + (1 : Int32))) else none) else none)) else none)) else none)) else none) := by
  unfold b226_92
  refine (k_iload_n t226_92 rfl rfl).trans ?_
  refine (k_aload_n t226_93 rfl rfl).trans ?_
  refine (k_getR t226_94 rfl hW zK_396 (by decide) (by decide) (zF_396_14 hW)).trans ?_
  refine (k_aload_n t226_97 rfl rfl).trans ?_
  refine (k_getI t226_98 rfl hW zK_396 (by decide) (by decide)).trans ?_
  refine (k_iald t226_101 rfl hW zK_398 zL_398).trans (z_ite (fun g13 => ?_) (fun _ => rfl))
  refine (k_icmp_ge t226_102 rfl).trans (z_ite (fun g14 => ?_) (fun g14 => ?_))
  · refine (k_iconst t226_163 rfl zci_0).trans ?_
    refine (k_istore_n (ls' := [.ref 396, .int y1, .int y2, .int (0 : Int32), z_j]) t226_164 rfl rfl).trans ?_
    exact (zk_mk (ls' := [.ref 396, .int y1, .int y2, .int (0 : Int32), z_j]) t226_165 rfl)
  · refine (k_aload_n t226_105 rfl rfl).trans ?_
    refine (k_getR t226_106 rfl hW zK_396 (by decide) (by decide) (zF_396_47 hW)).trans ?_
    refine (k_bipush t226_109 rfl zcb_16).trans ?_
    refine (k_iload_n t226_111 rfl rfl).trans ?_
    refine (k_imul t226_112 rfl).trans ?_
    refine (k_iload_n t226_113 rfl rfl).trans ?_
    refine (k_iadd t226_114 rfl).trans ?_
    refine (k_iald t226_115 rfl hW zK_423 zL_423).trans (z_ite (fun g15 => ?_) (fun _ => rfl))
    refine (k_istore (ls' := [.ref 396, .int y1, .int y2, .int y3, .int (gI S 423 ((((16 : Int32) * y1) + y3)).toNatClampNeg)]) t226_116 rfl rfl).trans ?_
    refine (k_iload t226_118 rfl rfl).trans ?_
    refine (k_iconst t226_120 rfl zci_m1).trans ?_
    refine (k_icmp_eq t226_121 rfl).trans (z_ite (fun g16 => ?_) (fun g16 => ?_))
    · exact (zk_mk (ls' := [.ref 396, .int y1, .int y2, .int y3, z_j]) t226_157 rfl)
    · refine (k_aload_n t226_124 rfl rfl).trans ?_
      refine (k_getR t226_125 rfl hW zK_396 (by decide) (by decide) (zF_396_48 hW)).trans ?_
      refine (k_bipush t226_128 rfl zcb_16).trans ?_
      refine (k_iload_n t226_130 rfl rfl).trans ?_
      refine (k_imul t226_131 rfl).trans ?_
      refine (k_iload t226_132 rfl rfl).trans ?_
      refine (k_iadd t226_134 rfl).trans ?_
      refine (k_iald t226_135 rfl hW zK_424 zL_424).trans (z_ite (fun g17 => ?_) (fun _ => rfl))
      refine (k_bipush t226_136 rfl zcb_99).trans ?_
      refine (k_icmp_ge t226_138 rfl).trans (z_ite (fun g18 => ?_) (fun g18 => ?_))
      · exact (zk_mk (ls' := [.ref 396, .int y1, .int y2, .int y3, z_j]) t226_157 rfl)
      · refine (k_aload_n t226_141 rfl rfl).trans ?_
        refine (k_getR t226_142 rfl hW zK_396 (by decide) (by decide) (zF_396_48 hW)).trans ?_
        refine (k_bipush t226_145 rfl zcb_16).trans ?_
        refine (k_iload_n t226_147 rfl rfl).trans ?_
        refine (k_imul t226_148 rfl).trans ?_
        refine (k_iload t226_149 rfl rfl).trans ?_
        refine (k_iadd t226_151 rfl).trans ?_
        refine (k_dup2IR t226_152 rfl).trans ?_
        refine (k_iald t226_153 rfl hW zK_424 zL_424).trans (z_ite (fun g19 => ?_) (fun _ => rfl))
        refine (k_iconst t226_154 rfl zci_1).trans ?_
        refine (k_iadd t226_155 rfl).trans ?_
        refine (k_iast t226_156 rfl hW zK_424 zL_424).trans (z_ite (fun g20 => ?_) (fun _ => rfl))
        exact (zk_mk (ls' := [.ref 396, .int y1, .int y2, .int y3, z_j]) t226_157 rfl)
theorem b226_165_eq (d : Nat) (y1 : Int32) (y2 : Int32) (y3 : Int32) (S : z_S) (hW : z_W S)  : b226_165 d y1 y2 y3 S = (if z_in (gI S 396 13) 2 then (if (gI S 402 ((gI S 396 13)).toNatClampNeg) ≤ y3 then (if z_in y1 22 then (if z_in y1 22 then some (y2, sI S 420 (y1).toNatClampNeg ((gI S 420 (y1).toNatClampNeg) + (1 : Int32))) else none) else none) else (zb (fI d 213 [.ref 396, .int y1, .int y3] S) fun v25 S26 => (if v25 = (-1 : Int32) then b226_208 d y1 y2 y3 S26 else (zb (fI d 225 [.ref 396, .int y1, .int v25] S26) fun v28 S29 => (if v28 = (0 : Int32) then b226_208 d y1 y2 y3 S29 else ((fV d 222 [.ref 396, .int y1, .int y3] S29).bind fun S32 => b226_208 d y1 y2 y3 S32)))))) else none) := by
  unfold b226_165
  refine (k_iload_n t226_165 rfl rfl).trans ?_
  refine (k_aload_n t226_166 rfl rfl).trans ?_
  refine (k_getR t226_167 rfl hW zK_396 (by decide) (by decide) (zF_396_18 hW)).trans ?_
  refine (k_aload_n t226_170 rfl rfl).trans ?_
  refine (k_getI t226_171 rfl hW zK_396 (by decide) (by decide)).trans ?_
  refine (k_iald t226_174 rfl hW zK_402 zL_402).trans (z_ite (fun g21 => ?_) (fun _ => rfl))
  refine (k_icmp_ge t226_175 rfl).trans (z_ite (fun g22 => ?_) (fun g22 => ?_))
  · refine (k_aload_n t226_214 rfl rfl).trans ?_
    refine (k_getR t226_215 rfl hW zK_396 (by decide) (by decide) (zF_396_44 hW)).trans ?_
    refine (k_iload_n t226_218 rfl rfl).trans ?_
    refine (k_dup2IR t226_219 rfl).trans ?_
    refine (k_iald t226_220 rfl hW zK_420 zL_420).trans (z_ite (fun g23 => ?_) (fun _ => rfl))
    refine (k_iconst t226_221 rfl zci_1).trans ?_
    refine (k_iadd t226_222 rfl).trans ?_
    refine (k_iast t226_223 rfl hW zK_420 zL_420).trans (z_ite (fun g24 => ?_) (fun _ => rfl))
    refine (k_iload_n t226_224 rfl rfl).trans ?_
    exact k_ireturn t226_225 rfl (by decide)
  · refine (k_aload_n t226_178 rfl rfl).trans ?_
    refine (k_iload_n t226_179 rfl rfl).trans ?_
    refine (k_iload_n t226_180 rfl rfl).trans ?_
    refine k_callI (as := [.ref 396, .int y1, .int y3]) (rest := []) t226_181 rfl rfl (by decide) rfl rfl (Nat.le_of_ble_eq_true rfl) rfl (z_rcV hW (zK_396) (by decide)) (by decide) (Or.inl (by decide)) hW (fun v25 S26 hW26 => ?_)
    refine (k_istore (ls' := [.ref 396, .int y1, .int y2, .int y3, .int v25]) t226_184 rfl rfl).trans ?_
    refine (k_iload t226_186 rfl rfl).trans ?_
    refine (k_iconst t226_188 rfl zci_m1).trans ?_
    refine (k_icmp_eq t226_189 rfl).trans (z_ite (fun g27 => ?_) (fun g27 => ?_))
    · exact (zk_mk (ls' := [.ref 396, .int y1, .int y2, .int y3, z_j]) t226_208 rfl)
    · refine (k_aload_n t226_192 rfl rfl).trans ?_
      refine (k_iload_n t226_193 rfl rfl).trans ?_
      refine (k_iload t226_194 rfl rfl).trans ?_
      refine k_callI (as := [.ref 396, .int y1, .int v25]) (rest := []) t226_196 rfl rfl (by decide) rfl rfl (Nat.le_of_ble_eq_true rfl) rfl (z_rcV hW26 (zK_396) (by decide)) (by decide) (Or.inr (by decide)) hW26 (fun v28 S29 hW29 => ?_)
      refine (k_if_eq t226_199 rfl).trans (z_ite (fun g30 => ?_) (fun g30 => ?_))
      · exact (zk_mk (ls' := [.ref 396, .int y1, .int y2, .int y3, z_j]) t226_208 rfl)
      · refine (k_aload_n t226_202 rfl rfl).trans ?_
        refine (k_iload_n t226_203 rfl rfl).trans ?_
        refine (k_iload_n t226_204 rfl rfl).trans ?_
        refine k_callV (as := [.ref 396, .int y1, .int y3]) (rest := []) t226_205 rfl rfl (by decide) rfl rfl (Nat.le_of_ble_eq_true rfl) rfl (z_rcV hW29 (zK_396) (by decide)) (by decide) (by decide) hW29 (fun S32 hW32 => ?_)
        exact (zk_mk (ls' := [.ref 396, .int y1, .int y2, .int y3, z_j]) t226_208 rfl)
theorem b226_157_eq (d : Nat) (y1 : Int32) (y2 : Int32) (y3 : Int32) (S : z_S) (hW : z_W S)  : b226_157 d y1 y2 y3 S = b226_92 d y1 y2 (y3 + (1 : Int32)) S := by
  unfold b226_157
  refine (k_iinc (b := (y3 + (1 : Int32))) (ls' := [.ref 396, .int y1, .int y2, .int (y3 + (1 : Int32)), z_j]) t226_157 rfl rfl (by rw [zci_1]) rfl).trans ?_
  refine (k_goto t226_160 rfl).trans ?_
  exact (zk_mk (ls' := [.ref 396, .int y1, .int y2, .int (y3 + (1 : Int32)), z_j]) t226_92 rfl)
theorem b226_208_eq (d : Nat) (y1 : Int32) (y2 : Int32) (y3 : Int32) (S : z_S) (hW : z_W S)  : b226_208 d y1 y2 y3 S = b226_165 d y1 y2 (y3 + (1 : Int32)) S := by
  unfold b226_208
  refine (k_iinc (b := (y3 + (1 : Int32))) (ls' := [.ref 396, .int y1, .int y2, .int (y3 + (1 : Int32)), z_j]) t226_208 rfl rfl (by rw [zci_1]) rfl).trans ?_
  refine (k_goto t226_211 rfl).trans ?_
  exact (zk_mk (ls' := [.ref 396, .int y1, .int y2, .int (y3 + (1 : Int32)), z_j]) t226_165 rfl)
-- X12_ticks
theorem e226 (d : Nat) (x1 : Int32) (S : z_S) (hW : z_W S)  : fI (d + 1) 226 [.ref 396, .int x1] S = ((fV d 223 [.ref 396, .int x1] S).bind fun S2 => b226_9 d x1 (0 : Int32) (0 : Int32) S2) := by
  refine (fI_en (Nat.le_of_ble_eq_true rfl) rfl).trans ?_
  refine (k_aload_n t226_0 rfl rfl).trans ?_
  refine (k_iload_n t226_1 rfl rfl).trans ?_
  refine k_callV (as := [.ref 396, .int x1]) (rest := []) t226_2 rfl rfl (by decide) rfl rfl (Nat.le_of_ble_eq_true rfl) rfl (z_rcV hW (zK_396) (by decide)) (by decide) (by decide) hW (fun S2 hW2 => ?_)
  refine (k_iconst t226_5 rfl zci_0).trans ?_
  refine (k_istore_n (ls' := [.ref 396, .int x1, .int (0 : Int32), z_j, z_j]) t226_6 rfl rfl).trans ?_
  refine (k_iconst t226_7 rfl zci_0).trans ?_
  refine (k_istore_n (ls' := [.ref 396, .int x1, .int (0 : Int32), .int (0 : Int32), z_j]) t226_8 rfl rfl).trans ?_
  exact (zk_mk (ls' := [.ref 396, .int x1, .int (0 : Int32), .int (0 : Int32), z_j]) t226_9 rfl)
theorem t227_0 : z_ft 227 0 = some (.iload_n 1, 1, none, [], 0, 0, 0, 0) := z_ftd (by decide +kernel)
theorem t227_1 : z_ft 227 1 = some (.ifCond .lt 20, 3, none, [], 21, 0, 0, 0) := z_ftd (by decide +kernel)
theorem t227_4 : z_ft 227 4 = some (.iload_n 1, 1, none, [], 0, 0, 0, 0) := z_ftd (by decide +kernel)
theorem t227_5 : z_ft 227 5 = some (.aload_n 0, 1, none, [], 0, 0, 0, 0) := z_ftd (by decide +kernel)
theorem t227_6 : z_ft 227 6 = some (.getfield 54, 3, none, [], 12, 14, 15, 0) := z_ftd (by decide +kernel)
theorem t227_9 : z_ft 227 9 = some (.aload_n 0, 1, none, [], 0, 0, 0, 0) := z_ftd (by decide +kernel)
theorem t227_10 : z_ft 227 10 = some (.getfield 51, 3, none, [], 12, 13, 14, 0) := z_ftd (by decide +kernel)
theorem t227_13 : z_ft 227 13 = some (.iaload, 1, none, [], 0, 0, 0, 0) := z_ftd (by decide +kernel)
theorem t227_14 : z_ft 227 14 = some (.if_icmp .ge 7, 3, none, [], 21, 0, 0, 0) := z_ftd (by decide +kernel)
theorem t227_17 : z_ft 227 17 = some (.iconst 1, 1, none, [], 0, 0, 0, 0) := z_ftd (by decide +kernel)
theorem t227_18 : z_ft 227 18 = some (.goto 4, 3, none, [], 22, 0, 0, 0) := z_ftd (by decide +kernel)
theorem t227_21 : z_ft 227 21 = some (.iconst 0, 1, (some []), [], 0, 0, 0, 0) := z_ftd (by decide +kernel)
theorem t227_22 : z_ft 227 22 = some (.ireturn, 1, (some []), [], 0, 0, 0, 0) := z_ftd (by decide +kernel)
noncomputable def b227_21 (d : Nat)  (S : z_S) : Option (Int32 × z_S) := zk kI z_X0 d 227 21 [z_j, z_j] [] S
theorem b227_21_eq (d : Nat)  (S : z_S) (hW : z_W S)  : b227_21 d  S = some ((0 : Int32), S) := by
  unfold b227_21
  refine (k_iconst t227_21 rfl zci_0).trans ?_
  refine (zk_mk (ls' := [z_j, z_j]) t227_22 rfl).trans ?_
  exact k_zretC t227_22 rfl (by decide) (by decide)
-- X12_isRoom
theorem e227 (d : Nat) (x1 : Int32) (S : z_S) (hW : z_W S)  : fI (d + 1) 227 [.ref 396, .int x1] S = (if x1 < (0 : Int32) then b227_21 d S else (if z_in (gI S 396 13) 2 then (if (gI S 398 ((gI S 396 13)).toNatClampNeg) ≤ x1 then b227_21 d S else some ((1 : Int32), S)) else none)) := by
  refine (fI_en (Nat.le_of_ble_eq_true rfl) rfl).trans ?_
  refine (k_iload_n t227_0 rfl rfl).trans ?_
  refine (k_if_lt t227_1 rfl).trans (z_ite (fun g1 => ?_) (fun g1 => ?_))
  · exact (zk_mk (ls' := [z_j, z_j]) t227_21 rfl)
  · refine (k_iload_n t227_4 rfl rfl).trans ?_
    refine (k_aload_n t227_5 rfl rfl).trans ?_
    refine (k_getR t227_6 rfl hW zK_396 (by decide) (by decide) (zF_396_14 hW)).trans ?_
    refine (k_aload_n t227_9 rfl rfl).trans ?_
    refine (k_getI t227_10 rfl hW zK_396 (by decide) (by decide)).trans ?_
    refine (k_iald t227_13 rfl hW zK_398 zL_398).trans (z_ite (fun g2 => ?_) (fun _ => rfl))
    refine (k_icmp_ge t227_14 rfl).trans (z_ite (fun g3 => ?_) (fun g3 => ?_))
    · exact (zk_mk (ls' := [z_j, z_j]) t227_21 rfl)
    · refine (k_iconst t227_17 rfl zci_1).trans ?_
      refine (k_goto t227_18 rfl).trans ?_
      refine (zk_mk (ls' := [z_j, z_j]) t227_22 rfl).trans ?_
      exact k_zretC t227_22 rfl (by decide) (by decide)
theorem t228_0 : z_ft 228 0 = some (.iload_n 1, 1, none, [], 0, 0, 0, 0) := z_ftd (by decide +kernel)
theorem t228_1 : z_ft 228 1 = some (.ifCond .lt 20, 3, none, [], 21, 0, 0, 0) := z_ftd (by decide +kernel)
theorem t228_4 : z_ft 228 4 = some (.iload_n 1, 1, none, [], 0, 0, 0, 0) := z_ftd (by decide +kernel)
theorem t228_5 : z_ft 228 5 = some (.aload_n 0, 1, none, [], 0, 0, 0, 0) := z_ftd (by decide +kernel)
theorem t228_6 : z_ft 228 6 = some (.getfield 66, 3, none, [], 12, 18, 19, 0) := z_ftd (by decide +kernel)
theorem t228_9 : z_ft 228 9 = some (.aload_n 0, 1, none, [], 0, 0, 0, 0) := z_ftd (by decide +kernel)
theorem t228_10 : z_ft 228 10 = some (.getfield 51, 3, none, [], 12, 13, 14, 0) := z_ftd (by decide +kernel)
theorem t228_13 : z_ft 228 13 = some (.iaload, 1, none, [], 0, 0, 0, 0) := z_ftd (by decide +kernel)
theorem t228_14 : z_ft 228 14 = some (.if_icmp .ge 7, 3, none, [], 21, 0, 0, 0) := z_ftd (by decide +kernel)
theorem t228_17 : z_ft 228 17 = some (.iconst 1, 1, none, [], 0, 0, 0, 0) := z_ftd (by decide +kernel)
theorem t228_18 : z_ft 228 18 = some (.goto 4, 3, none, [], 22, 0, 0, 0) := z_ftd (by decide +kernel)
theorem t228_21 : z_ft 228 21 = some (.iconst 0, 1, (some []), [], 0, 0, 0, 0) := z_ftd (by decide +kernel)
theorem t228_22 : z_ft 228 22 = some (.ireturn, 1, (some []), [], 0, 0, 0, 0) := z_ftd (by decide +kernel)
noncomputable def b228_21 (d : Nat)  (S : z_S) : Option (Int32 × z_S) := zk kI z_X0 d 228 21 [z_j, z_j] [] S
theorem b228_21_eq (d : Nat)  (S : z_S) (hW : z_W S)  : b228_21 d  S = some ((0 : Int32), S) := by
  unfold b228_21
  refine (k_iconst t228_21 rfl zci_0).trans ?_
  refine (zk_mk (ls' := [z_j, z_j]) t228_22 rfl).trans ?_
  exact k_zretC t228_22 rfl (by decide) (by decide)
-- X12_isLodger
theorem e228 (d : Nat) (x1 : Int32) (S : z_S) (hW : z_W S)  : fI (d + 1) 228 [.ref 396, .int x1] S = (if x1 < (0 : Int32) then b228_21 d S else (if z_in (gI S 396 13) 2 then (if (gI S 402 ((gI S 396 13)).toNatClampNeg) ≤ x1 then b228_21 d S else some ((1 : Int32), S)) else none)) := by
  refine (fI_en (Nat.le_of_ble_eq_true rfl) rfl).trans ?_
  refine (k_iload_n t228_0 rfl rfl).trans ?_
  refine (k_if_lt t228_1 rfl).trans (z_ite (fun g1 => ?_) (fun g1 => ?_))
  · exact (zk_mk (ls' := [z_j, z_j]) t228_21 rfl)
  · refine (k_iload_n t228_4 rfl rfl).trans ?_
    refine (k_aload_n t228_5 rfl rfl).trans ?_
    refine (k_getR t228_6 rfl hW zK_396 (by decide) (by decide) (zF_396_18 hW)).trans ?_
    refine (k_aload_n t228_9 rfl rfl).trans ?_
    refine (k_getI t228_10 rfl hW zK_396 (by decide) (by decide)).trans ?_
    refine (k_iald t228_13 rfl hW zK_402 zL_402).trans (z_ite (fun g2 => ?_) (fun _ => rfl))
    refine (k_icmp_ge t228_14 rfl).trans (z_ite (fun g3 => ?_) (fun g3 => ?_))
    · exact (zk_mk (ls' := [z_j, z_j]) t228_21 rfl)
    · refine (k_iconst t228_17 rfl zci_1).trans ?_
      refine (k_goto t228_18 rfl).trans ?_
      refine (zk_mk (ls' := [z_j, z_j]) t228_22 rfl).trans ?_
      exact k_zretC t228_22 rfl (by decide) (by decide)
theorem t229_0 : z_ft 229 0 = some (.iconst 0, 1, none, [], 0, 0, 0, 0) := z_ftd (by decide +kernel)
theorem t229_1 : z_ft 229 1 = some (.istore_n 1, 1, none, [], 0, 0, 0, 0) := z_ftd (by decide +kernel)
theorem t229_2 : z_ft 229 2 = some (.iconst 0, 1, none, [], 0, 0, 0, 0) := z_ftd (by decide +kernel)
theorem t229_3 : z_ft 229 3 = some (.istore_n 2, 1, none, [], 0, 0, 0, 0) := z_ftd (by decide +kernel)
theorem t229_4 : z_ft 229 4 = some (.iload_n 2, 1, (some [0, 1, 2]), [], 0, 0, 0, 0) := z_ftd (by decide +kernel)
theorem t229_5 : z_ft 229 5 = some (.aload_n 0, 1, none, [], 0, 0, 0, 0) := z_ftd (by decide +kernel)
theorem t229_6 : z_ft 229 6 = some (.getfield 54, 3, none, [], 12, 14, 15, 0) := z_ftd (by decide +kernel)
theorem t229_9 : z_ft 229 9 = some (.aload_n 0, 1, none, [], 0, 0, 0, 0) := z_ftd (by decide +kernel)
theorem t229_10 : z_ft 229 10 = some (.getfield 51, 3, none, [], 12, 13, 14, 0) := z_ftd (by decide +kernel)
theorem t229_13 : z_ft 229 13 = some (.iaload, 1, none, [], 0, 0, 0, 0) := z_ftd (by decide +kernel)
theorem t229_14 : z_ft 229 14 = some (.if_icmp .ge 27, 3, none, [], 41, 0, 0, 0) := z_ftd (by decide +kernel)
theorem t229_17 : z_ft 229 17 = some (.iload_n 1, 1, none, [], 0, 0, 0, 0) := z_ftd (by decide +kernel)
theorem t229_18 : z_ft 229 18 = some (.aload_n 0, 1, none, [], 0, 0, 0, 0) := z_ftd (by decide +kernel)
theorem t229_19 : z_ft 229 19 = some (.getfield 156, 3, none, [], 12, 47, 48, 0) := z_ftd (by decide +kernel)
theorem t229_22 : z_ft 229 22 = some (.iload_n 2, 1, none, [], 0, 0, 0, 0) := z_ftd (by decide +kernel)
theorem t229_23 : z_ft 229 23 = some (.iaload, 1, none, [], 0, 0, 0, 0) := z_ftd (by decide +kernel)
theorem t229_24 : z_ft 229 24 = some (.iconst (-1), 1, none, [], 0, 0, 0, 0) := z_ftd (by decide +kernel)
theorem t229_25 : z_ft 229 25 = some (.if_icmp .ne 7, 3, none, [], 32, 0, 0, 0) := z_ftd (by decide +kernel)
theorem t229_28 : z_ft 229 28 = some (.iconst 0, 1, none, [], 0, 0, 0, 0) := z_ftd (by decide +kernel)
theorem t229_29 : z_ft 229 29 = some (.goto 4, 3, none, [], 33, 0, 0, 0) := z_ftd (by decide +kernel)
theorem t229_32 : z_ft 229 32 = some (.iconst 1, 1, none, [], 0, 0, 0, 0) := z_ftd (by decide +kernel)
theorem t229_33 : z_ft 229 33 = some (.iadd, 1, (some [0, 2]), [], 0, 0, 0, 0) := z_ftd (by decide +kernel)
theorem t229_34 : z_ft 229 34 = some (.istore_n 1, 1, none, [], 0, 0, 0, 0) := z_ftd (by decide +kernel)
theorem t229_35 : z_ft 229 35 = some (.iinc 2 1, 3, none, [], 0, 0, 0, 0) := z_ftd (by decide +kernel)
theorem t229_38 : z_ft 229 38 = some (.goto (-34), 3, none, [], 4, 0, 0, 0) := z_ftd (by decide +kernel)
theorem t229_41 : z_ft 229 41 = some (.iload_n 1, 1, none, [], 0, 0, 0, 0) := z_ftd (by decide +kernel)
theorem t229_42 : z_ft 229 42 = some (.ireturn, 1, none, [], 0, 0, 0, 0) := z_ftd (by decide +kernel)
noncomputable def b229_4 (d : Nat) (y1 : Int32) (y2 : Int32) (S : z_S) : Option (Int32 × z_S) := zk kI z_X0 d 229 4 [.ref 396, .int y1, .int y2] [] S
noncomputable def b229_33 (d : Nat) (y2 : Int32) (s0 : Int32) (s1 : Int32) (S : z_S) : Option (Int32 × z_S) := zk kI z_X0 d 229 33 [.ref 396, z_j, .int y2] [.int s0, .int s1] S
theorem b229_4_eq (d : Nat) (y1 : Int32) (y2 : Int32) (S : z_S) (hW : z_W S)  : b229_4 d y1 y2 S = (if z_in (gI S 396 13) 2 then (if (gI S 398 ((gI S 396 13)).toNatClampNeg) ≤ y2 then some (y1, S) else (if z_in y2 352 then (if ¬ (gI S 423 (y2).toNatClampNeg) = (-1 : Int32) then b229_33 d y2 (1 : Int32) y1 S else b229_33 d y2 (0 : Int32) y1 S) else none)) else none) := by
  unfold b229_4
  refine (k_iload_n t229_4 rfl rfl).trans ?_
  refine (k_aload_n t229_5 rfl rfl).trans ?_
  refine (k_getR t229_6 rfl hW zK_396 (by decide) (by decide) (zF_396_14 hW)).trans ?_
  refine (k_aload_n t229_9 rfl rfl).trans ?_
  refine (k_getI t229_10 rfl hW zK_396 (by decide) (by decide)).trans ?_
  refine (k_iald t229_13 rfl hW zK_398 zL_398).trans (z_ite (fun g1 => ?_) (fun _ => rfl))
  refine (k_icmp_ge t229_14 rfl).trans (z_ite (fun g2 => ?_) (fun g2 => ?_))
  · refine (k_iload_n t229_41 rfl rfl).trans ?_
    exact k_ireturn t229_42 rfl (by decide)
  · refine (k_iload_n t229_17 rfl rfl).trans ?_
    refine (k_aload_n t229_18 rfl rfl).trans ?_
    refine (k_getR t229_19 rfl hW zK_396 (by decide) (by decide) (zF_396_47 hW)).trans ?_
    refine (k_iload_n t229_22 rfl rfl).trans ?_
    refine (k_iald t229_23 rfl hW zK_423 zL_423).trans (z_ite (fun g3 => ?_) (fun _ => rfl))
    refine (k_iconst t229_24 rfl zci_m1).trans ?_
    refine (k_icmp_ne t229_25 rfl).trans (z_ite (fun g4 => ?_) (fun g4 => ?_))
    · refine (k_iconst t229_32 rfl zci_1).trans ?_
      exact (zk_mk (ls' := [.ref 396, z_j, .int y2]) t229_33 rfl)
    · refine (k_iconst t229_28 rfl zci_0).trans ?_
      refine (k_goto t229_29 rfl).trans ?_
      exact (zk_mk (ls' := [.ref 396, z_j, .int y2]) t229_33 rfl)
theorem b229_33_eq (d : Nat) (y2 : Int32) (s0 : Int32) (s1 : Int32) (S : z_S) (hW : z_W S)  : b229_33 d y2 s0 s1 S = b229_4 d (s1 + s0) (y2 + (1 : Int32)) S := by
  unfold b229_33
  refine (k_iadd t229_33 rfl).trans ?_
  refine (k_istore_n (ls' := [.ref 396, .int (s1 + s0), .int y2]) t229_34 rfl rfl).trans ?_
  refine (k_iinc (b := (y2 + (1 : Int32))) (ls' := [.ref 396, .int (s1 + s0), .int (y2 + (1 : Int32))]) t229_35 rfl rfl (by rw [zci_1]) rfl).trans ?_
  refine (k_goto t229_38 rfl).trans ?_
  exact (zk_mk (ls' := [.ref 396, .int (s1 + s0), .int (y2 + (1 : Int32))]) t229_4 rfl)
-- X12_sleepers
theorem e229 (d : Nat)  (S : z_S) (hW : z_W S)  : fI (d + 1) 229 [.ref 396] S = b229_4 d (0 : Int32) (0 : Int32) S := by
  refine (fI_en (Nat.le_of_ble_eq_true rfl) rfl).trans ?_
  refine (k_iconst t229_0 rfl zci_0).trans ?_
  refine (k_istore_n (ls' := [.ref 396, .int (0 : Int32), z_j]) t229_1 rfl rfl).trans ?_
  refine (k_iconst t229_2 rfl zci_0).trans ?_
  refine (k_istore_n (ls' := [.ref 396, .int (0 : Int32), .int (0 : Int32)]) t229_3 rfl rfl).trans ?_
  exact (zk_mk (ls' := [.ref 396, .int (0 : Int32), .int (0 : Int32)]) t229_4 rfl)
