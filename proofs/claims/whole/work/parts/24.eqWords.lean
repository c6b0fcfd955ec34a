/-! EQUATIONS of Words (written by wip/whole/gen/eqs.py). -/
theorem t38_0 : z_ft 38 0 = some (.ldc2_w 94, 3, none, [], 0, 0, 25, (-1000000)) := z_ftd (by decide +kernel)
theorem t38_3 : z_ft 38 3 = some (.ldc2_w 96, 3, none, [], 0, 0, 26, 1000000) := z_ftd (by decide +kernel)
theorem t38_6 : z_ft 38 6 = some (.lload_n 0, 1, none, [], 0, 0, 0, 0) := z_ftd (by decide +kernel)
theorem t38_7 : z_ft 38 7 = some (.invokestatic 88, 3, none, [], 280, 0, 22, 0) := z_ftd (by decide +kernel)
theorem t38_10 : z_ft 38 10 = some (.invokestatic 91, 3, none, [], 278, 0, 23, 0) := z_ftd (by decide +kernel)
theorem t38_13 : z_ft 38 13 = some (.l2i, 1, none, [], 0, 0, 0, 0) := z_ftd (by decide +kernel)
theorem t38_14 : z_ft 38 14 = some (.ireturn, 1, none, [], 0, 0, 0, 0) := z_ftd (by decide +kernel)
-- X7_limited
theorem e38 (d : Nat) (x1 : Int64) (S : z_S) (hW : z_W S)  : fI (d + 1) 38 [.long x1] S = (zb (fL d 280 [.long (1000000 : Int64), .long x1] S) fun v1 S2 => (zb (fL d 278 [.long (-1000000 : Int64), .long v1] S2) fun v3 S4 => some ((v3).toInt32, S4))) := by
  refine (fI_en (Nat.le_of_ble_eq_true rfl) rfl).trans ?_
  refine (k_ldc2_w t38_0 rfl zcl_m1000000).trans ?_
  refine (k_ldc2_w t38_3 rfl zcl_1000000).trans ?_
  refine (k_lload_n t38_6 rfl rfl).trans ?_
  refine k_callL (as := [.long (1000000 : Int64), .long x1]) (rest := [.long (-1000000 : Int64)]) t38_7 rfl rfl (by decide) rfl rfl (Nat.le_of_ble_eq_true rfl) rfl (z_rcS (by decide)) (by decide) (by decide) hW (fun v1 S2 hW2 => ?_)
  refine k_callL (as := [.long (-1000000 : Int64), .long v1]) (rest := []) t38_10 rfl rfl (by decide) rfl rfl (Nat.le_of_ble_eq_true rfl) rfl (z_rcS (by decide)) (by decide) (by decide) hW2 (fun v3 S4 hW4 => ?_)
  refine (k_l2i t38_13 rfl).trans ?_
  exact k_ireturn t38_14 rfl (by decide)
theorem t68_0 : z_ft 68 0 = some (.aload_n 0, 1, none, [], 0, 0, 0, 0) := z_ftd (by decide +kernel)
theorem t68_1 : z_ft 68 1 = some (.aload_n 3, 1, none, [], 0, 0, 0, 0) := z_ftd (by decide +kernel)
theorem t68_2 : z_ft 68 2 = some (.getfield 31, 3, none, [], 8, 0, 11, 0) := z_ftd (by decide +kernel)
theorem t68_5 : z_ft 68 5 = some (.putfield 15, 3, none, [], 7, 1, 6, 0) := z_ftd (by decide +kernel)
theorem t68_8 : z_ft 68 8 = some (.aload_n 0, 1, none, [], 0, 0, 0, 0) := z_ftd (by decide +kernel)
theorem t68_9 : z_ft 68 9 = some (.aload_n 3, 1, none, [], 0, 0, 0, 0) := z_ftd (by decide +kernel)
theorem t68_10 : z_ft 68 10 = some (.getfield 34, 3, none, [], 8, 6, 14, 0) := z_ftd (by decide +kernel)
theorem t68_13 : z_ft 68 13 = some (.iload 4, 2, none, [], 0, 0, 0, 0) := z_ftd (by decide +kernel)
theorem t68_15 : z_ft 68 15 = some (.iaload, 1, none, [], 0, 0, 0, 0) := z_ftd (by decide +kernel)
theorem t68_16 : z_ft 68 16 = some (.putfield 19, 3, none, [], 7, 2, 7, 0) := z_ftd (by decide +kernel)
theorem t68_19 : z_ft 68 19 = some (.aload_n 0, 1, none, [], 0, 0, 0, 0) := z_ftd (by decide +kernel)
theorem t68_20 : z_ft 68 20 = some (.aload_n 3, 1, none, [], 0, 0, 0, 0) := z_ftd (by decide +kernel)
theorem t68_21 : z_ft 68 21 = some (.getfield 37, 3, none, [], 8, 7, 15, 0) := z_ftd (by decide +kernel)
theorem t68_24 : z_ft 68 24 = some (.iload 4, 2, none, [], 0, 0, 0, 0) := z_ftd (by decide +kernel)
theorem t68_26 : z_ft 68 26 = some (.iaload, 1, none, [], 0, 0, 0, 0) := z_ftd (by decide +kernel)
theorem t68_27 : z_ft 68 27 = some (.putfield 22, 3, none, [], 7, 3, 8, 0) := z_ftd (by decide +kernel)
theorem t68_30 : z_ft 68 30 = some (.aload_n 0, 1, none, [], 0, 0, 0, 0) := z_ftd (by decide +kernel)
theorem t68_31 : z_ft 68 31 = some (.aload_n 1, 1, none, [], 0, 0, 0, 0) := z_ftd (by decide +kernel)
theorem t68_32 : z_ft 68 32 = some (.getfield 39, 3, none, [], 6, 1, 0, 0) := z_ftd (by decide +kernel)
theorem t68_35 : z_ft 68 35 = some (.aload_n 3, 1, none, [], 0, 0, 0, 0) := z_ftd (by decide +kernel)
theorem t68_36 : z_ft 68 36 = some (.getfield 44, 3, none, [], 8, 2, 12, 0) := z_ftd (by decide +kernel)
theorem t68_39 : z_ft 68 39 = some (.aload_n 3, 1, none, [], 0, 0, 0, 0) := z_ftd (by decide +kernel)
theorem t68_40 : z_ft 68 40 = some (.getfield 47, 3, none, [], 8, 3, 13, 0) := z_ftd (by decide +kernel)
theorem t68_43 : z_ft 68 43 = some (.ior, 1, none, [], 0, 0, 0, 0) := z_ftd (by decide +kernel)
theorem t68_44 : z_ft 68 44 = some (.invokestatic 50, 3, none, [], 274, 0, 16, 0) := z_ftd (by decide +kernel)
theorem t68_47 : z_ft 68 47 = some (.isub, 1, none, [], 0, 0, 0, 0) := z_ftd (by decide +kernel)
theorem t68_48 : z_ft 68 48 = some (.putfield 25, 3, none, [], 7, 4, 9, 0) := z_ftd (by decide +kernel)
theorem t68_51 : z_ft 68 51 = some (.aload_n 0, 1, none, [], 0, 0, 0, 0) := z_ftd (by decide +kernel)
theorem t68_52 : z_ft 68 52 = some (.iload 5, 2, none, [], 0, 0, 0, 0) := z_ftd (by decide +kernel)
theorem t68_54 : z_ft 68 54 = some (.putfield 28, 3, none, [], 7, 5, 10, 0) := z_ftd (by decide +kernel)
theorem t68_57 : z_ft 68 57 = some (.iconst 0, 1, none, [], 0, 0, 0, 0) := z_ftd (by decide +kernel)
theorem t68_58 : z_ft 68 58 = some (.istore 6, 2, none, [], 0, 0, 0, 0) := z_ftd (by decide +kernel)
theorem t68_60 : z_ft 68 60 = some (.aload_n 1, 1, none, [], 0, 0, 0, 0) := z_ftd (by decide +kernel)
theorem t68_61 : z_ft 68 61 = some (.getfield 56, 3, none, [], 6, 14, 2, 0) := z_ftd (by decide +kernel)
theorem t68_64 : z_ft 68 64 = some (.iload_n 2, 1, none, [], 0, 0, 0, 0) := z_ftd (by decide +kernel)
theorem t68_65 : z_ft 68 65 = some (.iaload, 1, none, [], 0, 0, 0, 0) := z_ftd (by decide +kernel)
theorem t68_66 : z_ft 68 66 = some (.istore 7, 2, none, [], 0, 0, 0, 0) := z_ftd (by decide +kernel)
theorem t68_68 : z_ft 68 68 = some (.iload 7, 2, (some [0, 1, 2, 6, 7]), [], 0, 0, 0, 0) := z_ftd (by decide +kernel)
theorem t68_70 : z_ft 68 70 = some (.aload_n 1, 1, none, [], 0, 0, 0, 0) := z_ftd (by decide +kernel)
theorem t68_71 : z_ft 68 71 = some (.getfield 59, 3, none, [], 6, 15, 3, 0) := z_ftd (by decide +kernel)
theorem t68_74 : z_ft 68 74 = some (.iload_n 2, 1, none, [], 0, 0, 0, 0) := z_ftd (by decide +kernel)
theorem t68_75 : z_ft 68 75 = some (.iaload, 1, none, [], 0, 0, 0, 0) := z_ftd (by decide +kernel)
theorem t68_76 : z_ft 68 76 = some (.if_icmp .ge 89, 3, none, [], 165, 0, 0, 0) := z_ftd (by decide +kernel)
theorem t68_79 : z_ft 68 79 = some (.aload_n 1, 1, none, [], 0, 0, 0, 0) := z_ftd (by decide +kernel)
theorem t68_80 : z_ft 68 80 = some (.getfield 62, 3, none, [], 6, 13, 1, 0) := z_ftd (by decide +kernel)
theorem t68_83 : z_ft 68 83 = some (.iload 7, 2, none, [], 0, 0, 0, 0) := z_ftd (by decide +kernel)
theorem t68_85 : z_ft 68 85 = some (.iaload, 1, none, [], 0, 0, 0, 0) := z_ftd (by decide +kernel)
theorem t68_86 : z_ft 68 86 = some (.istore 8, 2, none, [], 0, 0, 0, 0) := z_ftd (by decide +kernel)
theorem t68_88 : z_ft 68 88 = some (.iload 8, 2, none, [], 0, 0, 0, 0) := z_ftd (by decide +kernel)
theorem t68_90 : z_ft 68 90 = some (.invokestatic 65, 3, none, [], 69, 0, 17, 0) := z_ftd (by decide +kernel)
theorem t68_93 : z_ft 68 93 = some (.istore 9, 2, none, [], 0, 0, 0, 0) := z_ftd (by decide +kernel)
theorem t68_95 : z_ft 68 95 = some (.iload 6, 2, none, [], 0, 0, 0, 0) := z_ftd (by decide +kernel)
theorem t68_97 : z_ft 68 97 = some (.iload 9, 2, none, [], 0, 0, 0, 0) := z_ftd (by decide +kernel)
theorem t68_99 : z_ft 68 99 = some (.if_icmp .lt 16, 3, none, [], 115, 0, 0, 0) := z_ftd (by decide +kernel)
theorem t68_102 : z_ft 68 102 = some (.iload 6, 2, none, [], 0, 0, 0, 0) := z_ftd (by decide +kernel)
theorem t68_104 : z_ft 68 104 = some (.iload 9, 2, none, [], 0, 0, 0, 0) := z_ftd (by decide +kernel)
theorem t68_106 : z_ft 68 106 = some (.isub, 1, none, [], 0, 0, 0, 0) := z_ftd (by decide +kernel)
theorem t68_107 : z_ft 68 107 = some (.aload_n 0, 1, none, [], 0, 0, 0, 0) := z_ftd (by decide +kernel)
theorem t68_108 : z_ft 68 108 = some (.getfield 9, 3, none, [], 7, 0, 5, 0) := z_ftd (by decide +kernel)
theorem t68_111 : z_ft 68 111 = some (.arraylength, 1, none, [], 0, 0, 0, 0) := z_ftd (by decide +kernel)
theorem t68_112 : z_ft 68 112 = some (.if_icmp .lt 5, 3, none, [], 117, 0, 0, 0) := z_ftd (by decide +kernel)
theorem t68_115 : z_ft 68 115 = some (.iconst 0, 1, (some []), [], 0, 0, 0, 0) := z_ftd (by decide +kernel)
theorem t68_116 : z_ft 68 116 = some (.ireturn, 1, none, [], 0, 0, 0, 0) := z_ftd (by decide +kernel)
theorem t68_117 : z_ft 68 117 = some (.iload 6, 2, none, [], 0, 0, 0, 0) := z_ftd (by decide +kernel)
theorem t68_119 : z_ft 68 119 = some (.iload 9, 2, none, [], 0, 0, 0, 0) := z_ftd (by decide +kernel)
theorem t68_121 : z_ft 68 121 = some (.isub, 1, none, [], 0, 0, 0, 0) := z_ftd (by decide +kernel)
theorem t68_122 : z_ft 68 122 = some (.istore 6, 2, none, [], 0, 0, 0, 0) := z_ftd (by decide +kernel)
theorem t68_124 : z_ft 68 124 = some (.aload_n 0, 1, none, [], 0, 0, 0, 0) := z_ftd (by decide +kernel)
theorem t68_125 : z_ft 68 125 = some (.getfield 9, 3, none, [], 7, 0, 5, 0) := z_ftd (by decide +kernel)
theorem t68_128 : z_ft 68 128 = some (.iload 6, 2, none, [], 0, 0, 0, 0) := z_ftd (by decide +kernel)
theorem t68_130 : z_ft 68 130 = some (.iload 9, 2, none, [], 0, 0, 0, 0) := z_ftd (by decide +kernel)
theorem t68_132 : z_ft 68 132 = some (.ifCond .ne 12, 3, none, [], 144, 0, 0, 0) := z_ftd (by decide +kernel)
theorem t68_135 : z_ft 68 135 = some (.aload_n 0, 1, none, [], 0, 0, 0, 0) := z_ftd (by decide +kernel)
theorem t68_136 : z_ft 68 136 = some (.iload 8, 2, none, [], 0, 0, 0, 0) := z_ftd (by decide +kernel)
theorem t68_138 : z_ft 68 138 = some (.invokevirtual 68, 3, none, [], 70, 0, 18, 0) := z_ftd (by decide +kernel)
theorem t68_141 : z_ft 68 141 = some (.goto 14, 3, none, [], 155, 0, 0, 0) := z_ftd (by decide +kernel)
theorem t68_144 : z_ft 68 144 = some (.aload_n 0, 1, none, [], 0, 0, 0, 0) := z_ftd (by decide +kernel)
theorem t68_145 : z_ft 68 145 = some (.iload 8, 2, none, [], 0, 0, 0, 0) := z_ftd (by decide +kernel)
theorem t68_147 : z_ft 68 147 = some (.iload 6, 2, none, [], 0, 0, 0, 0) := z_ftd (by decide +kernel)
theorem t68_149 : z_ft 68 149 = some (.invokevirtual 71, 3, none, [], 71, 0, 19, 0) := z_ftd (by decide +kernel)
theorem t68_152 : z_ft 68 152 = some (.invokestatic 75, 3, none, [], 72, 0, 24, 0) := z_ftd (by decide +kernel)
theorem t68_155 : z_ft 68 155 = some (.iastore, 1, (some [0, 1, 2, 6, 7]), [], 0, 0, 0, 0) := z_ftd (by decide +kernel)
theorem t68_156 : z_ft 68 156 = some (.iinc 6 1, 3, none, [], 0, 0, 0, 0) := z_ftd (by decide +kernel)
theorem t68_159 : z_ft 68 159 = some (.iinc 7 1, 3, none, [], 0, 0, 0, 0) := z_ftd (by decide +kernel)
theorem t68_162 : z_ft 68 162 = some (.goto (-94), 3, none, [], 68, 0, 0, 0) := z_ftd (by decide +kernel)
theorem t68_165 : z_ft 68 165 = some (.iload 6, 2, none, [], 0, 0, 0, 0) := z_ftd (by decide +kernel)
theorem t68_167 : z_ft 68 167 = some (.ifCond .le 15, 3, none, [], 182, 0, 0, 0) := z_ftd (by decide +kernel)
theorem t68_170 : z_ft 68 170 = some (.aload_n 0, 1, none, [], 0, 0, 0, 0) := z_ftd (by decide +kernel)
theorem t68_171 : z_ft 68 171 = some (.getfield 9, 3, none, [], 7, 0, 5, 0) := z_ftd (by decide +kernel)
theorem t68_174 : z_ft 68 174 = some (.iload 6, 2, none, [], 0, 0, 0, 0) := z_ftd (by decide +kernel)
theorem t68_176 : z_ft 68 176 = some (.iconst 1, 1, none, [], 0, 0, 0, 0) := z_ftd (by decide +kernel)
theorem t68_177 : z_ft 68 177 = some (.isub, 1, none, [], 0, 0, 0, 0) := z_ftd (by decide +kernel)
theorem t68_178 : z_ft 68 178 = some (.iaload, 1, none, [], 0, 0, 0, 0) := z_ftd (by decide +kernel)
theorem t68_179 : z_ft 68 179 = some (.goto 4, 3, none, [], 183, 0, 0, 0) := z_ftd (by decide +kernel)
theorem t68_182 : z_ft 68 182 = some (.iconst 0, 1, none, [], 0, 0, 0, 0) := z_ftd (by decide +kernel)
theorem t68_183 : z_ft 68 183 = some (.ireturn, 1, (some []), [], 0, 0, 0, 0) := z_ftd (by decide +kernel)
noncomputable def b68_68 (d : Nat) (y1 : Nat) (y2 : Int32) (y6 : Int32) (y7 : Int32) (S : z_S) : Option (Int32 × z_S) := zk kI z_X0 d 68 68 [.ref 23, .ref y1, .int y2, z_j, z_j, z_j, .int y6, .int y7, z_j, z_j] [] S
noncomputable def b68_155 (d : Nat) (y1 : Nat) (y2 : Int32) (y6 : Int32) (y7 : Int32) (s0 : Int32) (s1 : Int32) (S : z_S) : Option (Int32 × z_S) := zk kI z_X0 d 68 155 [.ref 23, .ref y1, .int y2, z_j, z_j, z_j, .int y6, .int y7, z_j, z_j] [.int s0, .int s1, .ref 24] S
theorem b68_68_eq (d : Nat) (y1 : Nat) (y2 : Int32) (y6 : Int32) (y7 : Int32) (S : z_S) (hW : z_W S) (hy1 : z_K y1 = 6) : b68_68 d y1 y2 y6 y7 S = (if z_in y2 3 then (if (gI S (y1 + 7) (y2).toNatClampNeg) ≤ y7 then (if y6 ≤ (0 : Int32) then some ((0 : Int32), S) else (if z_in (y6 - (1 : Int32)) 64 then some ((gI S 24 ((y6 - (1 : Int32))).toNatClampNeg), S) else none)) else (if z_in y7 1600 then (zb (fI d 69 [.int (gI S (y1 + 5) (y7).toNatClampNeg)] S) fun v11 S12 => (if y6 < v11 then some ((0 : Int32), S12) else (if (y6 - v11) < (Int32.ofNat 64) then (if ¬ v11 = (0 : Int32) then (zb (fL d 71 [.ref 23, .int (gI S (y1 + 5) (y7).toNatClampNeg), .int (y6 - v11)] S12) fun v16 S17 => (zb (fI d 72 [.long v16] S17) fun v18 S19 => b68_155 d y1 y2 (y6 - v11) y7 v18 (y6 - v11) S19)) else (zb (fI d 70 [.ref 23, .int (gI S (y1 + 5) (y7).toNatClampNeg)] S12) fun v20 S21 => b68_155 d y1 y2 (y6 - v11) y7 v20 (y6 - v11) S21)) else some ((0 : Int32), S12)))) else none)) else none) := by
  unfold b68_68
  refine (k_iload t68_68 rfl rfl).trans ?_
  refine (k_aload_n t68_70 rfl rfl).trans ?_
  refine (k_getR t68_71 rfl hW hy1 (by decide) (by decide) (zO_6_15 hW hy1)).trans ?_
  refine (k_iload_n t68_74 rfl rfl).trans ?_
  refine (k_iald t68_75 rfl hW (zOK_6_15 hy1) (zOL_6_15 hy1)).trans (z_ite (fun g6 => ?_) (fun _ => rfl))
  refine (k_icmp_ge t68_76 rfl).trans (z_ite (fun g7 => ?_) (fun g7 => ?_))
  · refine (k_iload t68_165 rfl rfl).trans ?_
    refine (k_if_le t68_167 rfl).trans (z_ite (fun g8 => ?_) (fun g8 => ?_))
    · refine (k_iconst t68_182 rfl zci_0).trans ?_
      refine (zk_mk (ls' := [z_j, z_j, z_j, z_j, z_j, z_j, z_j, z_j, z_j, z_j]) t68_183 rfl).trans ?_
      exact k_ireturn t68_183 rfl (by decide)
    · refine (k_aload_n t68_170 rfl rfl).trans ?_
      refine (k_getR t68_171 rfl hW zK_23 (by decide) (by decide) (zF_23_0 hW)).trans ?_
      refine (k_iload t68_174 rfl rfl).trans ?_
      refine (k_iconst t68_176 rfl zci_1).trans ?_
      refine (k_isub t68_177 rfl).trans ?_
      refine (k_iald t68_178 rfl hW zK_24 zL_24).trans (z_ite (fun g9 => ?_) (fun _ => rfl))
      refine (k_goto t68_179 rfl).trans ?_
      refine (zk_mk (ls' := [z_j, z_j, z_j, z_j, z_j, z_j, z_j, z_j, z_j, z_j]) t68_183 rfl).trans ?_
      exact k_ireturn t68_183 rfl (by decide)
  · refine (k_aload_n t68_79 rfl rfl).trans ?_
    refine (k_getR t68_80 rfl hW hy1 (by decide) (by decide) (zO_6_13 hW hy1)).trans ?_
    refine (k_iload t68_83 rfl rfl).trans ?_
    refine (k_iald t68_85 rfl hW (zOK_6_13 hy1) (zOL_6_13 hy1)).trans (z_ite (fun g10 => ?_) (fun _ => rfl))
    refine (k_istore (ls' := [.ref 23, .ref y1, .int y2, z_j, z_j, z_j, .int y6, .int y7, .int (gI S (y1 + 5) (y7).toNatClampNeg), z_j]) t68_86 rfl rfl).trans ?_
    refine (k_iload t68_88 rfl rfl).trans ?_
    refine k_callI (as := [.int (gI S (y1 + 5) (y7).toNatClampNeg)]) (rest := []) t68_90 rfl rfl (by decide) rfl rfl (Nat.le_of_ble_eq_true rfl) rfl (z_rcS (by decide)) (by decide) (Or.inl (by decide)) hW (fun v11 S12 hW12 => ?_)
    refine (k_istore (ls' := [.ref 23, .ref y1, .int y2, z_j, z_j, z_j, .int y6, .int y7, .int (gI S (y1 + 5) (y7).toNatClampNeg), .int v11]) t68_93 rfl rfl).trans ?_
    refine (k_iload t68_95 rfl rfl).trans ?_
    refine (k_iload t68_97 rfl rfl).trans ?_
    refine (k_icmp_lt t68_99 rfl).trans (z_ite (fun g13 => ?_) (fun g13 => ?_))
    · refine (zk_mk (ls' := [z_j, z_j, z_j, z_j, z_j, z_j, z_j, z_j, z_j, z_j]) t68_115 rfl).trans ?_
      refine (k_iconst t68_115 rfl zci_0).trans ?_
      exact k_ireturn t68_116 rfl (by decide)
    · refine (k_iload t68_102 rfl rfl).trans ?_
      refine (k_iload t68_104 rfl rfl).trans ?_
      refine (k_isub t68_106 rfl).trans ?_
      refine (k_aload_n t68_107 rfl rfl).trans ?_
      refine (k_getR t68_108 rfl hW12 zK_23 (by decide) (by decide) (zF_23_0 hW12)).trans ?_
      refine (k_alen t68_111 rfl hW12 (by rw [zK_24]; decide) zL_24).trans ?_
      refine (k_icmp_lt t68_112 rfl).trans (z_ite (fun g14 => ?_) (fun g14 => ?_))
      · refine (k_iload t68_117 rfl rfl).trans ?_
        refine (k_iload t68_119 rfl rfl).trans ?_
        refine (k_isub t68_121 rfl).trans ?_
        refine (k_istore (ls' := [.ref 23, .ref y1, .int y2, z_j, z_j, z_j, .int (y6 - v11), .int y7, .int (gI S (y1 + 5) (y7).toNatClampNeg), .int v11]) t68_122 rfl rfl).trans ?_
        refine (k_aload_n t68_124 rfl rfl).trans ?_
        refine (k_getR t68_125 rfl hW12 zK_23 (by decide) (by decide) (zF_23_0 hW12)).trans ?_
        refine (k_iload t68_128 rfl rfl).trans ?_
        refine (k_iload t68_130 rfl rfl).trans ?_
        refine (k_if_ne t68_132 rfl).trans (z_ite (fun g15 => ?_) (fun g15 => ?_))
        · refine (k_aload_n t68_144 rfl rfl).trans ?_
          refine (k_iload t68_145 rfl rfl).trans ?_
          refine (k_iload t68_147 rfl rfl).trans ?_
          refine k_callL (as := [.ref 23, .int (gI S (y1 + 5) (y7).toNatClampNeg), .int (y6 - v11)]) (rest := [.int (y6 - v11), .ref 24]) t68_149 rfl rfl (by decide) rfl rfl (Nat.le_of_ble_eq_true rfl) rfl (z_rcV hW12 (zK_23) (by decide)) (by decide) (by decide) hW12 (fun v16 S17 hW17 => ?_)
          refine k_callI (as := [.long v16]) (rest := [.int (y6 - v11), .ref 24]) t68_152 rfl rfl (by decide) rfl rfl (Nat.le_of_ble_eq_true rfl) rfl (z_rcS (by decide)) (by decide) (Or.inl (by decide)) hW17 (fun v18 S19 hW19 => ?_)
          exact (zk_mk (ls' := [.ref 23, .ref y1, .int y2, z_j, z_j, z_j, .int (y6 - v11), .int y7, z_j, z_j]) t68_155 rfl)
        · refine (k_aload_n t68_135 rfl rfl).trans ?_
          refine (k_iload t68_136 rfl rfl).trans ?_
          refine k_callI (as := [.ref 23, .int (gI S (y1 + 5) (y7).toNatClampNeg)]) (rest := [.int (y6 - v11), .ref 24]) t68_138 rfl rfl (by decide) rfl rfl (Nat.le_of_ble_eq_true rfl) rfl (z_rcV hW12 (zK_23) (by decide)) (by decide) (Or.inl (by decide)) hW12 (fun v20 S21 hW21 => ?_)
          refine (k_goto t68_141 rfl).trans ?_
          exact (zk_mk (ls' := [.ref 23, .ref y1, .int y2, z_j, z_j, z_j, .int (y6 - v11), .int y7, z_j, z_j]) t68_155 rfl)
      · refine (zk_mk (ls' := [z_j, z_j, z_j, z_j, z_j, z_j, z_j, z_j, z_j, z_j]) t68_115 rfl).trans ?_
        refine (k_iconst t68_115 rfl zci_0).trans ?_
        exact k_ireturn t68_116 rfl (by decide)
theorem b68_155_eq (d : Nat) (y1 : Nat) (y2 : Int32) (y6 : Int32) (y7 : Int32) (s0 : Int32) (s1 : Int32) (S : z_S) (hW : z_W S) (hy1 : z_K y1 = 6) : b68_155 d y1 y2 y6 y7 s0 s1 S = (if z_in s1 64 then b68_68 d y1 y2 (y6 + (1 : Int32)) (y7 + (1 : Int32)) (sI S 24 (s1).toNatClampNeg s0) else none) := by
  unfold b68_155
  refine (k_iast t68_155 rfl hW zK_24 zL_24).trans (z_ite (fun g22 => ?_) (fun _ => rfl))
  refine (k_iinc (b := (y6 + (1 : Int32))) (ls' := [.ref 23, .ref y1, .int y2, z_j, z_j, z_j, .int (y6 + (1 : Int32)), .int y7, z_j, z_j]) t68_156 rfl rfl (by rw [zci_1]) rfl).trans ?_
  refine (k_iinc (b := (y7 + (1 : Int32))) (ls' := [.ref 23, .ref y1, .int y2, z_j, z_j, z_j, .int (y6 + (1 : Int32)), .int (y7 + (1 : Int32)), z_j, z_j]) t68_159 rfl rfl (by rw [zci_1]) rfl).trans ?_
  refine (k_goto t68_162 rfl).trans ?_
  exact (zk_mk (ls' := [.ref 23, .ref y1, .int y2, z_j, z_j, z_j, .int (y6 + (1 : Int32)), .int (y7 + (1 : Int32)), z_j, z_j]) t68_68 rfl)
-- X7_reckon
theorem e68 (d : Nat) (p1 : Nat) (x2 : Int32) (p3 : Nat) (x4 : Int32) (x5 : Int32) (S : z_S) (hW : z_W S) (hp1 : z_K p1 = 6) (hp3 : z_K p3 = 8) : fI (d + 1) 68 [.ref 23, .ref p1, .int x2, .ref p3, .int x4, .int x5] S = (if z_in x4 16 then (if z_in x4 16 then (zb (fI d 274 [.int ((gI (sI (sI (sI S 23 1 (gI S p3 0)) 23 2 (gI (sI S 23 1 (gI S p3 0)) (p3 + 2) (x4).toNatClampNeg)) 23 3 (gI (sI (sI S 23 1 (gI S p3 0)) 23 2 (gI (sI S 23 1 (gI S p3 0)) (p3 + 2) (x4).toNatClampNeg)) (p3 + 3) (x4).toNatClampNeg)) p3 2) ||| (gI (sI (sI (sI S 23 1 (gI S p3 0)) 23 2 (gI (sI S 23 1 (gI S p3 0)) (p3 + 2) (x4).toNatClampNeg)) 23 3 (gI (sI (sI S 23 1 (gI S p3 0)) 23 2 (gI (sI S 23 1 (gI S p3 0)) (p3 + 2) (x4).toNatClampNeg)) (p3 + 3) (x4).toNatClampNeg)) p3 3))] (sI (sI (sI S 23 1 (gI S p3 0)) 23 2 (gI (sI S 23 1 (gI S p3 0)) (p3 + 2) (x4).toNatClampNeg)) 23 3 (gI (sI (sI S 23 1 (gI S p3 0)) 23 2 (gI (sI S 23 1 (gI S p3 0)) (p3 + 2) (x4).toNatClampNeg)) (p3 + 3) (x4).toNatClampNeg))) fun v3 S4 => (if z_in x2 3 then b68_68 d p1 x2 (0 : Int32) (gI (sI (sI S4 23 4 ((gI (sI (sI (sI S 23 1 (gI S p3 0)) 23 2 (gI (sI S 23 1 (gI S p3 0)) (p3 + 2) (x4).toNatClampNeg)) 23 3 (gI (sI (sI S 23 1 (gI S p3 0)) 23 2 (gI (sI S 23 1 (gI S p3 0)) (p3 + 2) (x4).toNatClampNeg)) (p3 + 3) (x4).toNatClampNeg)) p1 1) - v3)) 23 5 x5) (p1 + 6) (x2).toNatClampNeg) (sI (sI S4 23 4 ((gI (sI (sI (sI S 23 1 (gI S p3 0)) 23 2 (gI (sI S 23 1 (gI S p3 0)) (p3 + 2) (x4).toNatClampNeg)) 23 3 (gI (sI (sI S 23 1 (gI S p3 0)) 23 2 (gI (sI S 23 1 (gI S p3 0)) (p3 + 2) (x4).toNatClampNeg)) (p3 + 3) (x4).toNatClampNeg)) p1 1) - v3)) 23 5 x5) else none)) else none) else none) := by
  refine (fI_en (Nat.le_of_ble_eq_true rfl) rfl).trans ?_
  refine (k_aload_n t68_0 rfl rfl).trans ?_
  refine (k_aload_n t68_1 rfl rfl).trans ?_
  refine (k_getI t68_2 rfl hW hp3 (by decide) (by decide)).trans ?_
  refine (k_putI t68_5 rfl hW zK_23 (by decide) (by decide) (by decide)).trans ?_
  refine (k_aload_n t68_8 rfl rfl).trans ?_
  refine (k_aload_n t68_9 rfl rfl).trans ?_
  refine (k_getR t68_10 rfl hW.sI hp3 (by decide) (by decide) (zO_8_6 hW.sI hp3)).trans ?_
  refine (k_iload t68_13 rfl rfl).trans ?_
  refine (k_iald t68_15 rfl hW.sI (zOK_8_6 hp3) (zOL_8_6 hp3)).trans (z_ite (fun g1 => ?_) (fun _ => rfl))
  refine (k_putI t68_16 rfl hW.sI zK_23 (by decide) (by decide) (by decide)).trans ?_
  refine (k_aload_n t68_19 rfl rfl).trans ?_
  refine (k_aload_n t68_20 rfl rfl).trans ?_
  refine (k_getR t68_21 rfl hW.sI.sI hp3 (by decide) (by decide) (zO_8_7 hW.sI.sI hp3)).trans ?_
  refine (k_iload t68_24 rfl rfl).trans ?_
  refine (k_iald t68_26 rfl hW.sI.sI (zOK_8_7 hp3) (zOL_8_7 hp3)).trans (z_ite (fun g2 => ?_) (fun _ => rfl))
  refine (k_putI t68_27 rfl hW.sI.sI zK_23 (by decide) (by decide) (by decide)).trans ?_
  refine (k_aload_n t68_30 rfl rfl).trans ?_
  refine (k_aload_n t68_31 rfl rfl).trans ?_
  refine (k_getI t68_32 rfl hW.sI.sI.sI hp1 (by decide) (by decide)).trans ?_
  refine (k_aload_n t68_35 rfl rfl).trans ?_
  refine (k_getI t68_36 rfl hW.sI.sI.sI hp3 (by decide) (by decide)).trans ?_
  refine (k_aload_n t68_39 rfl rfl).trans ?_
  refine (k_getI t68_40 rfl hW.sI.sI.sI hp3 (by decide) (by decide)).trans ?_
  refine (k_ior t68_43 rfl).trans ?_
  refine k_callI (as := [.int ((gI (sI (sI (sI S 23 1 (gI S p3 0)) 23 2 (gI (sI S 23 1 (gI S p3 0)) (p3 + 2) (x4).toNatClampNeg)) 23 3 (gI (sI (sI S 23 1 (gI S p3 0)) 23 2 (gI (sI S 23 1 (gI S p3 0)) (p3 + 2) (x4).toNatClampNeg)) (p3 + 3) (x4).toNatClampNeg)) p3 2) ||| (gI (sI (sI (sI S 23 1 (gI S p3 0)) 23 2 (gI (sI S 23 1 (gI S p3 0)) (p3 + 2) (x4).toNatClampNeg)) 23 3 (gI (sI (sI S 23 1 (gI S p3 0)) 23 2 (gI (sI S 23 1 (gI S p3 0)) (p3 + 2) (x4).toNatClampNeg)) (p3 + 3) (x4).toNatClampNeg)) p3 3))]) (rest := [.int (gI (sI (sI (sI S 23 1 (gI S p3 0)) 23 2 (gI (sI S 23 1 (gI S p3 0)) (p3 + 2) (x4).toNatClampNeg)) 23 3 (gI (sI (sI S 23 1 (gI S p3 0)) 23 2 (gI (sI S 23 1 (gI S p3 0)) (p3 + 2) (x4).toNatClampNeg)) (p3 + 3) (x4).toNatClampNeg)) p1 1), .ref 23]) t68_44 rfl rfl (by decide) rfl rfl (Nat.le_of_ble_eq_true rfl) rfl (z_rcS (by decide)) (by decide) (Or.inl (by decide)) hW.sI.sI.sI (fun v3 S4 hW4 => ?_)
  refine (k_isub t68_47 rfl).trans ?_
  refine (k_putI t68_48 rfl hW4 zK_23 (by decide) (by decide) (by decide)).trans ?_
  refine (k_aload_n t68_51 rfl rfl).trans ?_
  refine (k_iload t68_52 rfl rfl).trans ?_
  refine (k_putI t68_54 rfl hW4.sI zK_23 (by decide) (by decide) (by decide)).trans ?_
  refine (k_iconst t68_57 rfl zci_0).trans ?_
  refine (k_istore (ls' := [.ref 23, .ref p1, .int x2, .ref p3, .int x4, .int x5, .int (0 : Int32), z_j, z_j, z_j]) t68_58 rfl rfl).trans ?_
  refine (k_aload_n t68_60 rfl rfl).trans ?_
  refine (k_getR t68_61 rfl hW4.sI.sI hp1 (by decide) (by decide) (zO_6_14 hW4.sI.sI hp1)).trans ?_
  refine (k_iload_n t68_64 rfl rfl).trans ?_
  refine (k_iald t68_65 rfl hW4.sI.sI (zOK_6_14 hp1) (zOL_6_14 hp1)).trans (z_ite (fun g5 => ?_) (fun _ => rfl))
  refine (k_istore (ls' := [.ref 23, .ref p1, .int x2, .ref p3, .int x4, .int x5, .int (0 : Int32), .int (gI (sI (sI S4 23 4 ((gI (sI (sI (sI S 23 1 (gI S p3 0)) 23 2 (gI (sI S 23 1 (gI S p3 0)) (p3 + 2) (x4).toNatClampNeg)) 23 3 (gI (sI (sI S 23 1 (gI S p3 0)) 23 2 (gI (sI S 23 1 (gI S p3 0)) (p3 + 2) (x4).toNatClampNeg)) (p3 + 3) (x4).toNatClampNeg)) p1 1) - v3)) 23 5 x5) (p1 + 6) (x2).toNatClampNeg), z_j, z_j]) t68_66 rfl rfl).trans ?_
  exact (zk_mk (ls' := [.ref 23, .ref p1, .int x2, z_j, z_j, z_j, .int (0 : Int32), .int (gI (sI (sI S4 23 4 ((gI (sI (sI (sI S 23 1 (gI S p3 0)) 23 2 (gI (sI S 23 1 (gI S p3 0)) (p3 + 2) (x4).toNatClampNeg)) 23 3 (gI (sI (sI S 23 1 (gI S p3 0)) 23 2 (gI (sI S 23 1 (gI S p3 0)) (p3 + 2) (x4).toNatClampNeg)) (p3 + 3) (x4).toNatClampNeg)) p1 1) - v3)) 23 5 x5) (p1 + 6) (x2).toNatClampNeg), z_j, z_j]) t68_68 rfl)
theorem t69_0 : z_ft 69 0 = some (.iload_n 0, 1, none, [], 0, 0, 0, 0) := z_ftd (by decide +kernel)
theorem t69_1 : z_ft 69 1 = some (.bipush (-5), 2, none, [], 0, 0, 0, 0) := z_ftd (by decide +kernel)
theorem t69_3 : z_ft 69 3 = some (.if_icmp .lt 5, 3, none, [], 8, 0, 0, 0) := z_ftd (by decide +kernel)
theorem t69_6 : z_ft 69 6 = some (.iconst 0, 1, none, [], 0, 0, 0, 0) := z_ftd (by decide +kernel)
theorem t69_7 : z_ft 69 7 = some (.ireturn, 1, none, [], 0, 0, 0, 0) := z_ftd (by decide +kernel)
theorem t69_8 : z_ft 69 8 = some (.iload_n 0, 1, none, [], 0, 0, 0, 0) := z_ftd (by decide +kernel)
theorem t69_9 : z_ft 69 9 = some (.bipush (-18), 2, none, [], 0, 0, 0, 0) := z_ftd (by decide +kernel)
theorem t69_11 : z_ft 69 11 = some (.if_icmp .ne 7, 3, none, [], 18, 0, 0, 0) := z_ftd (by decide +kernel)
theorem t69_14 : z_ft 69 14 = some (.iconst 1, 1, none, [], 0, 0, 0, 0) := z_ftd (by decide +kernel)
theorem t69_15 : z_ft 69 15 = some (.goto 14, 3, none, [], 29, 0, 0, 0) := z_ftd (by decide +kernel)
theorem t69_18 : z_ft 69 18 = some (.iload_n 0, 1, none, [], 0, 0, 0, 0) := z_ftd (by decide +kernel)
theorem t69_19 : z_ft 69 19 = some (.bipush (-19), 2, none, [], 0, 0, 0, 0) := z_ftd (by decide +kernel)
theorem t69_21 : z_ft 69 21 = some (.if_icmp .ne 7, 3, none, [], 28, 0, 0, 0) := z_ftd (by decide +kernel)
theorem t69_24 : z_ft 69 24 = some (.iconst 3, 1, none, [], 0, 0, 0, 0) := z_ftd (by decide +kernel)
theorem t69_25 : z_ft 69 25 = some (.goto 4, 3, none, [], 29, 0, 0, 0) := z_ftd (by decide +kernel)
theorem t69_28 : z_ft 69 28 = some (.iconst 2, 1, none, [], 0, 0, 0, 0) := z_ftd (by decide +kernel)
theorem t69_29 : z_ft 69 29 = some (.ireturn, 1, (some []), [], 0, 0, 0, 0) := z_ftd (by decide +kernel)
-- X7_operands
theorem e69 (d : Nat) (x1 : Int32) (S : z_S) (hW : z_W S)  : fI (d + 1) 69 [.int x1] S = (if x1 < (-5 : Int32) then (if ¬ x1 = (-18 : Int32) then (if ¬ x1 = (-19 : Int32) then some ((2 : Int32), S) else some ((3 : Int32), S)) else some ((1 : Int32), S)) else some ((0 : Int32), S)) := by
  refine (fI_en (Nat.le_of_ble_eq_true rfl) rfl).trans ?_
  refine (k_iload_n t69_0 rfl rfl).trans ?_
  refine (k_bipush t69_1 rfl zcb_m5).trans ?_
  refine (k_icmp_lt t69_3 rfl).trans (z_ite (fun g1 => ?_) (fun g1 => ?_))
  · refine (k_iload_n t69_8 rfl rfl).trans ?_
    refine (k_bipush t69_9 rfl zcb_m18).trans ?_
    refine (k_icmp_ne t69_11 rfl).trans (z_ite (fun g2 => ?_) (fun g2 => ?_))
    · refine (k_iload_n t69_18 rfl rfl).trans ?_
      refine (k_bipush t69_19 rfl zcb_m19).trans ?_
      refine (k_icmp_ne t69_21 rfl).trans (z_ite (fun g3 => ?_) (fun g3 => ?_))
      · refine (k_iconst t69_28 rfl zci_2).trans ?_
        refine (zk_mk (ls' := [z_j]) t69_29 rfl).trans ?_
        exact k_ireturn t69_29 rfl (by decide)
      · refine (k_iconst t69_24 rfl zci_3).trans ?_
        refine (k_goto t69_25 rfl).trans ?_
        refine (zk_mk (ls' := [z_j]) t69_29 rfl).trans ?_
        exact k_ireturn t69_29 rfl (by decide)
    · refine (k_iconst t69_14 rfl zci_1).trans ?_
      refine (k_goto t69_15 rfl).trans ?_
      refine (zk_mk (ls' := [z_j]) t69_29 rfl).trans ?_
      exact k_ireturn t69_29 rfl (by decide)
  · refine (k_iconst t69_6 rfl zci_0).trans ?_
    exact k_ireturn t69_7 rfl (by decide)
theorem t70_0 : z_ft 70 0 = some (.iload_n 1, 1, none, [], 0, 0, 0, 0) := z_ftd (by decide +kernel)
theorem t70_1 : z_ft 70 1 = some (.tableswitch 60 (-5) (-1) #[55, 50, 45, 40, 35], 35, none, [56, 51, 46, 41, 36], 61, 0, 0, 0) := z_ftd (by decide +kernel)
theorem t70_36 : z_ft 70 36 = some (.aload_n 0, 1, none, [], 0, 0, 0, 0) := z_ftd (by decide +kernel)
theorem t70_37 : z_ft 70 37 = some (.getfield 15, 3, none, [], 7, 1, 6, 0) := z_ftd (by decide +kernel)
theorem t70_40 : z_ft 70 40 = some (.ireturn, 1, none, [], 0, 0, 0, 0) := z_ftd (by decide +kernel)
theorem t70_41 : z_ft 70 41 = some (.aload_n 0, 1, none, [], 0, 0, 0, 0) := z_ftd (by decide +kernel)
theorem t70_42 : z_ft 70 42 = some (.getfield 19, 3, none, [], 7, 2, 7, 0) := z_ftd (by decide +kernel)
theorem t70_45 : z_ft 70 45 = some (.ireturn, 1, none, [], 0, 0, 0, 0) := z_ftd (by decide +kernel)
theorem t70_46 : z_ft 70 46 = some (.aload_n 0, 1, none, [], 0, 0, 0, 0) := z_ftd (by decide +kernel)
theorem t70_47 : z_ft 70 47 = some (.getfield 22, 3, none, [], 7, 3, 8, 0) := z_ftd (by decide +kernel)
theorem t70_50 : z_ft 70 50 = some (.ireturn, 1, none, [], 0, 0, 0, 0) := z_ftd (by decide +kernel)
theorem t70_51 : z_ft 70 51 = some (.aload_n 0, 1, none, [], 0, 0, 0, 0) := z_ftd (by decide +kernel)
theorem t70_52 : z_ft 70 52 = some (.getfield 25, 3, none, [], 7, 4, 9, 0) := z_ftd (by decide +kernel)
theorem t70_55 : z_ft 70 55 = some (.ireturn, 1, none, [], 0, 0, 0, 0) := z_ftd (by decide +kernel)
theorem t70_56 : z_ft 70 56 = some (.aload_n 0, 1, none, [], 0, 0, 0, 0) := z_ftd (by decide +kernel)
theorem t70_57 : z_ft 70 57 = some (.getfield 28, 3, none, [], 7, 5, 10, 0) := z_ftd (by decide +kernel)
theorem t70_60 : z_ft 70 60 = some (.ireturn, 1, none, [], 0, 0, 0, 0) := z_ftd (by decide +kernel)
theorem t70_61 : z_ft 70 61 = some (.iload_n 1, 1, none, [], 0, 0, 0, 0) := z_ftd (by decide +kernel)
theorem t70_62 : z_ft 70 62 = some (.ireturn, 1, none, [], 0, 0, 0, 0) := z_ftd (by decide +kernel)
-- X7_simple
theorem e70 (d : Nat) (x1 : Int32) (S : z_S) (hW : z_W S)  : fI (d + 1) 70 [.ref 23, .int x1] S = (if x1 = (-5 : Int32) then some ((gI S 23 5), S) else (if x1 = (-4 : Int32) then some ((gI S 23 4), S) else (if x1 = (-3 : Int32) then some ((gI S 23 3), S) else (if x1 = (-2 : Int32) then some ((gI S 23 2), S) else (if x1 = (-1 : Int32) then some ((gI S 23 1), S) else some (x1, S)))))) := by
  refine (fI_en (Nat.le_of_ble_eq_true rfl) rfl).trans ?_
  refine (k_iload_n t70_0 rfl rfl).trans ?_
  refine (k_switch t70_1 rfl).trans ?_
  refine (zk_swC (n := (-5 : Int32)) (lo' := -4) zci_m5 rfl).trans (z_ite (fun g1 => ?_) (fun g1 => ?_))
  · refine (k_aload_n t70_56 rfl rfl).trans ?_
    refine (k_getI t70_57 rfl hW zK_23 (by decide) (by decide)).trans ?_
    exact k_ireturn t70_60 rfl (by decide)
  refine (zk_swC (n := (-4 : Int32)) (lo' := -3) zci_m4 rfl).trans (z_ite (fun g2 => ?_) (fun g2 => ?_))
  · refine (k_aload_n t70_51 rfl rfl).trans ?_
    refine (k_getI t70_52 rfl hW zK_23 (by decide) (by decide)).trans ?_
    exact k_ireturn t70_55 rfl (by decide)
  refine (zk_swC (n := (-3 : Int32)) (lo' := -2) zci_m3 rfl).trans (z_ite (fun g3 => ?_) (fun g3 => ?_))
  · refine (k_aload_n t70_46 rfl rfl).trans ?_
    refine (k_getI t70_47 rfl hW zK_23 (by decide) (by decide)).trans ?_
    exact k_ireturn t70_50 rfl (by decide)
  refine (zk_swC (n := (-2 : Int32)) (lo' := -1) zci_m2 rfl).trans (z_ite (fun g4 => ?_) (fun g4 => ?_))
  · refine (k_aload_n t70_41 rfl rfl).trans ?_
    refine (k_getI t70_42 rfl hW zK_23 (by decide) (by decide)).trans ?_
    exact k_ireturn t70_45 rfl (by decide)
  refine (zk_swC (n := (-1 : Int32)) (lo' := 0) zci_m1 rfl).trans (z_ite (fun g5 => ?_) (fun g5 => ?_))
  · refine (k_aload_n t70_36 rfl rfl).trans ?_
    refine (k_getI t70_37 rfl hW zK_23 (by decide) (by decide)).trans ?_
    exact k_ireturn t70_40 rfl (by decide)
  refine (k_iload_n t70_61 rfl rfl).trans ?_
  exact k_ireturn t70_62 rfl (by decide)
theorem t71_0 : z_ft 71 0 = some (.aload_n 0, 1, none, [], 0, 0, 0, 0) := z_ftd (by decide +kernel)
theorem t71_1 : z_ft 71 1 = some (.getfield 9, 3, none, [], 7, 0, 5, 0) := z_ftd (by decide +kernel)
theorem t71_4 : z_ft 71 4 = some (.iload_n 2, 1, none, [], 0, 0, 0, 0) := z_ftd (by decide +kernel)
theorem t71_5 : z_ft 71 5 = some (.iaload, 1, none, [], 0, 0, 0, 0) := z_ftd (by decide +kernel)
theorem t71_6 : z_ft 71 6 = some (.i2l, 1, none, [], 0, 0, 0, 0) := z_ftd (by decide +kernel)
theorem t71_7 : z_ft 71 7 = some (.lstore_n 3, 1, none, [], 0, 0, 0, 0) := z_ftd (by decide +kernel)
theorem t71_8 : z_ft 71 8 = some (.iload_n 2, 1, none, [], 0, 0, 0, 0) := z_ftd (by decide +kernel)
theorem t71_9 : z_ft 71 9 = some (.iconst 1, 1, none, [], 0, 0, 0, 0) := z_ftd (by decide +kernel)
theorem t71_10 : z_ft 71 10 = some (.iadd, 1, none, [], 0, 0, 0, 0) := z_ftd (by decide +kernel)
theorem t71_11 : z_ft 71 11 = some (.aload_n 0, 1, none, [], 0, 0, 0, 0) := z_ftd (by decide +kernel)
theorem t71_12 : z_ft 71 12 = some (.getfield 9, 3, none, [], 7, 0, 5, 0) := z_ftd (by decide +kernel)
theorem t71_15 : z_ft 71 15 = some (.arraylength, 1, none, [], 0, 0, 0, 0) := z_ftd (by decide +kernel)
theorem t71_16 : z_ft 71 16 = some (.if_icmp .ge 15, 3, none, [], 31, 0, 0, 0) := z_ftd (by decide +kernel)
theorem t71_19 : z_ft 71 19 = some (.aload_n 0, 1, none, [], 0, 0, 0, 0) := z_ftd (by decide +kernel)
theorem t71_20 : z_ft 71 20 = some (.getfield 9, 3, none, [], 7, 0, 5, 0) := z_ftd (by decide +kernel)
theorem t71_23 : z_ft 71 23 = some (.iload_n 2, 1, none, [], 0, 0, 0, 0) := z_ftd (by decide +kernel)
theorem t71_24 : z_ft 71 24 = some (.iconst 1, 1, none, [], 0, 0, 0, 0) := z_ftd (by decide +kernel)
theorem t71_25 : z_ft 71 25 = some (.iadd, 1, none, [], 0, 0, 0, 0) := z_ftd (by decide +kernel)
theorem t71_26 : z_ft 71 26 = some (.iaload, 1, none, [], 0, 0, 0, 0) := z_ftd (by decide +kernel)
theorem t71_27 : z_ft 71 27 = some (.i2l, 1, none, [], 0, 0, 0, 0) := z_ftd (by decide +kernel)
theorem t71_28 : z_ft 71 28 = some (.goto 4, 3, none, [], 32, 0, 0, 0) := z_ftd (by decide +kernel)
theorem t71_31 : z_ft 71 31 = some (.lconst 0, 1, none, [], 0, 0, 0, 0) := z_ftd (by decide +kernel)
theorem t71_32 : z_ft 71 32 = some (.lstore 5, 2, (some [0, 1, 2, 3]), [], 0, 0, 0, 0) := z_ftd (by decide +kernel)
theorem t71_34 : z_ft 71 34 = some (.iload_n 1, 1, none, [], 0, 0, 0, 0) := z_ftd (by decide +kernel)
theorem t71_35 : z_ft 71 35 = some (.tableswitch 183 (-18) (-6) #[179, 174, 169, 156, 143, 130, 123, 116, 98, 80, 75, 70, 65], 65, none, [214, 209, 204, 191, 178, 165, 158, 151, 133, 115, 110, 105, 100], 218, 0, 0, 0) := z_ftd (by decide +kernel)
theorem t71_100 : z_ft 71 100 = some (.lload_n 3, 1, none, [], 0, 0, 0, 0) := z_ftd (by decide +kernel)
theorem t71_101 : z_ft 71 101 = some (.lload 5, 2, none, [], 0, 0, 0, 0) := z_ftd (by decide +kernel)
theorem t71_103 : z_ft 71 103 = some (.ladd, 1, none, [], 0, 0, 0, 0) := z_ftd (by decide +kernel)
theorem t71_104 : z_ft 71 104 = some (.lreturn, 1, none, [], 0, 0, 0, 0) := z_ftd (by decide +kernel)
theorem t71_105 : z_ft 71 105 = some (.lload_n 3, 1, none, [], 0, 0, 0, 0) := z_ftd (by decide +kernel)
theorem t71_106 : z_ft 71 106 = some (.lload 5, 2, none, [], 0, 0, 0, 0) := z_ftd (by decide +kernel)
theorem t71_108 : z_ft 71 108 = some (.lsub, 1, none, [], 0, 0, 0, 0) := z_ftd (by decide +kernel)
theorem t71_109 : z_ft 71 109 = some (.lreturn, 1, none, [], 0, 0, 0, 0) := z_ftd (by decide +kernel)
theorem t71_110 : z_ft 71 110 = some (.lload_n 3, 1, none, [], 0, 0, 0, 0) := z_ftd (by decide +kernel)
theorem t71_111 : z_ft 71 111 = some (.lload 5, 2, none, [], 0, 0, 0, 0) := z_ftd (by decide +kernel)
theorem t71_113 : z_ft 71 113 = some (.lmul, 1, none, [], 0, 0, 0, 0) := z_ftd (by decide +kernel)
theorem t71_114 : z_ft 71 114 = some (.lreturn, 1, none, [], 0, 0, 0, 0) := z_ftd (by decide +kernel)
theorem t71_115 : z_ft 71 115 = some (.lload 5, 2, none, [], 0, 0, 0, 0) := z_ftd (by decide +kernel)
theorem t71_117 : z_ft 71 117 = some (.lconst 0, 1, none, [], 0, 0, 0, 0) := z_ftd (by decide +kernel)
theorem t71_118 : z_ft 71 118 = some (.lcmp, 1, none, [], 0, 0, 0, 0) := z_ftd (by decide +kernel)
theorem t71_119 : z_ft 71 119 = some (.ifCond .ne 7, 3, none, [], 126, 0, 0, 0) := z_ftd (by decide +kernel)
theorem t71_122 : z_ft 71 122 = some (.lconst 0, 1, none, [], 0, 0, 0, 0) := z_ftd (by decide +kernel)
theorem t71_123 : z_ft 71 123 = some (.goto 9, 3, none, [], 132, 0, 0, 0) := z_ftd (by decide +kernel)
theorem t71_126 : z_ft 71 126 = some (.lload_n 3, 1, none, [], 0, 0, 0, 0) := z_ftd (by decide +kernel)
theorem t71_127 : z_ft 71 127 = some (.lload 5, 2, none, [], 0, 0, 0, 0) := z_ftd (by decide +kernel)
theorem t71_129 : z_ft 71 129 = some (.invokestatic 79, 3, none, [], 275, 0, 20, 0) := z_ftd (by decide +kernel)
theorem t71_132 : z_ft 71 132 = some (.lreturn, 1, (some []), [], 0, 0, 0, 0) := z_ftd (by decide +kernel)
theorem t71_133 : z_ft 71 133 = some (.lload 5, 2, none, [], 0, 0, 0, 0) := z_ftd (by decide +kernel)
theorem t71_135 : z_ft 71 135 = some (.lconst 0, 1, none, [], 0, 0, 0, 0) := z_ftd (by decide +kernel)
theorem t71_136 : z_ft 71 136 = some (.lcmp, 1, none, [], 0, 0, 0, 0) := z_ftd (by decide +kernel)
theorem t71_137 : z_ft 71 137 = some (.ifCond .ne 7, 3, none, [], 144, 0, 0, 0) := z_ftd (by decide +kernel)
theorem t71_140 : z_ft 71 140 = some (.lconst 0, 1, none, [], 0, 0, 0, 0) := z_ftd (by decide +kernel)
theorem t71_141 : z_ft 71 141 = some (.goto 9, 3, none, [], 150, 0, 0, 0) := z_ftd (by decide +kernel)
theorem t71_144 : z_ft 71 144 = some (.lload_n 3, 1, none, [], 0, 0, 0, 0) := z_ftd (by decide +kernel)
theorem t71_145 : z_ft 71 145 = some (.lload 5, 2, none, [], 0, 0, 0, 0) := z_ftd (by decide +kernel)
theorem t71_147 : z_ft 71 147 = some (.invokestatic 85, 3, none, [], 276, 0, 21, 0) := z_ftd (by decide +kernel)
theorem t71_150 : z_ft 71 150 = some (.lreturn, 1, (some []), [], 0, 0, 0, 0) := z_ftd (by decide +kernel)
theorem t71_151 : z_ft 71 151 = some (.lload_n 3, 1, none, [], 0, 0, 0, 0) := z_ftd (by decide +kernel)
theorem t71_152 : z_ft 71 152 = some (.lload 5, 2, none, [], 0, 0, 0, 0) := z_ftd (by decide +kernel)
theorem t71_154 : z_ft 71 154 = some (.invokestatic 88, 3, none, [], 280, 0, 22, 0) := z_ftd (by decide +kernel)
theorem t71_157 : z_ft 71 157 = some (.lreturn, 1, none, [], 0, 0, 0, 0) := z_ftd (by decide +kernel)
theorem t71_158 : z_ft 71 158 = some (.lload_n 3, 1, none, [], 0, 0, 0, 0) := z_ftd (by decide +kernel)
theorem t71_159 : z_ft 71 159 = some (.lload 5, 2, none, [], 0, 0, 0, 0) := z_ftd (by decide +kernel)
theorem t71_161 : z_ft 71 161 = some (.invokestatic 91, 3, none, [], 278, 0, 23, 0) := z_ftd (by decide +kernel)
theorem t71_164 : z_ft 71 164 = some (.lreturn, 1, none, [], 0, 0, 0, 0) := z_ftd (by decide +kernel)
theorem t71_165 : z_ft 71 165 = some (.lload_n 3, 1, none, [], 0, 0, 0, 0) := z_ftd (by decide +kernel)
theorem t71_166 : z_ft 71 166 = some (.lload 5, 2, none, [], 0, 0, 0, 0) := z_ftd (by decide +kernel)
theorem t71_168 : z_ft 71 168 = some (.lcmp, 1, none, [], 0, 0, 0, 0) := z_ftd (by decide +kernel)
theorem t71_169 : z_ft 71 169 = some (.ifCond .ge 7, 3, none, [], 176, 0, 0, 0) := z_ftd (by decide +kernel)
theorem t71_172 : z_ft 71 172 = some (.lconst 1, 1, none, [], 0, 0, 0, 0) := z_ftd (by decide +kernel)
theorem t71_173 : z_ft 71 173 = some (.goto 4, 3, none, [], 177, 0, 0, 0) := z_ftd (by decide +kernel)
theorem t71_176 : z_ft 71 176 = some (.lconst 0, 1, none, [], 0, 0, 0, 0) := z_ftd (by decide +kernel)
theorem t71_177 : z_ft 71 177 = some (.lreturn, 1, (some []), [], 0, 0, 0, 0) := z_ftd (by decide +kernel)
theorem t71_178 : z_ft 71 178 = some (.lload_n 3, 1, none, [], 0, 0, 0, 0) := z_ftd (by decide +kernel)
theorem t71_179 : z_ft 71 179 = some (.lload 5, 2, none, [], 0, 0, 0, 0) := z_ftd (by decide +kernel)
theorem t71_181 : z_ft 71 181 = some (.lcmp, 1, none, [], 0, 0, 0, 0) := z_ftd (by decide +kernel)
theorem t71_182 : z_ft 71 182 = some (.ifCond .le 7, 3, none, [], 189, 0, 0, 0) := z_ftd (by decide +kernel)
theorem t71_185 : z_ft 71 185 = some (.lconst 1, 1, none, [], 0, 0, 0, 0) := z_ftd (by decide +kernel)
theorem t71_186 : z_ft 71 186 = some (.goto 4, 3, none, [], 190, 0, 0, 0) := z_ftd (by decide +kernel)
theorem t71_189 : z_ft 71 189 = some (.lconst 0, 1, none, [], 0, 0, 0, 0) := z_ftd (by decide +kernel)
theorem t71_190 : z_ft 71 190 = some (.lreturn, 1, (some []), [], 0, 0, 0, 0) := z_ftd (by decide +kernel)
theorem t71_191 : z_ft 71 191 = some (.lload_n 3, 1, none, [], 0, 0, 0, 0) := z_ftd (by decide +kernel)
theorem t71_192 : z_ft 71 192 = some (.lload 5, 2, none, [], 0, 0, 0, 0) := z_ftd (by decide +kernel)
theorem t71_194 : z_ft 71 194 = some (.lcmp, 1, none, [], 0, 0, 0, 0) := z_ftd (by decide +kernel)
theorem t71_195 : z_ft 71 195 = some (.ifCond .ne 7, 3, none, [], 202, 0, 0, 0) := z_ftd (by decide +kernel)
theorem t71_198 : z_ft 71 198 = some (.lconst 1, 1, none, [], 0, 0, 0, 0) := z_ftd (by decide +kernel)
theorem t71_199 : z_ft 71 199 = some (.goto 4, 3, none, [], 203, 0, 0, 0) := z_ftd (by decide +kernel)
theorem t71_202 : z_ft 71 202 = some (.lconst 0, 1, none, [], 0, 0, 0, 0) := z_ftd (by decide +kernel)
theorem t71_203 : z_ft 71 203 = some (.lreturn, 1, (some []), [], 0, 0, 0, 0) := z_ftd (by decide +kernel)
theorem t71_204 : z_ft 71 204 = some (.lload_n 3, 1, none, [], 0, 0, 0, 0) := z_ftd (by decide +kernel)
theorem t71_205 : z_ft 71 205 = some (.lload 5, 2, none, [], 0, 0, 0, 0) := z_ftd (by decide +kernel)
theorem t71_207 : z_ft 71 207 = some (.land, 1, none, [], 0, 0, 0, 0) := z_ftd (by decide +kernel)
theorem t71_208 : z_ft 71 208 = some (.lreturn, 1, none, [], 0, 0, 0, 0) := z_ftd (by decide +kernel)
theorem t71_209 : z_ft 71 209 = some (.lload_n 3, 1, none, [], 0, 0, 0, 0) := z_ftd (by decide +kernel)
theorem t71_210 : z_ft 71 210 = some (.lload 5, 2, none, [], 0, 0, 0, 0) := z_ftd (by decide +kernel)
theorem t71_212 : z_ft 71 212 = some (.lor, 1, none, [], 0, 0, 0, 0) := z_ftd (by decide +kernel)
theorem t71_213 : z_ft 71 213 = some (.lreturn, 1, none, [], 0, 0, 0, 0) := z_ftd (by decide +kernel)
theorem t71_214 : z_ft 71 214 = some (.lconst 1, 1, none, [], 0, 0, 0, 0) := z_ftd (by decide +kernel)
theorem t71_215 : z_ft 71 215 = some (.lload_n 3, 1, none, [], 0, 0, 0, 0) := z_ftd (by decide +kernel)
theorem t71_216 : z_ft 71 216 = some (.lsub, 1, none, [], 0, 0, 0, 0) := z_ftd (by decide +kernel)
theorem t71_217 : z_ft 71 217 = some (.lreturn, 1, none, [], 0, 0, 0, 0) := z_ftd (by decide +kernel)
theorem t71_218 : z_ft 71 218 = some (.lload_n 3, 1, none, [], 0, 0, 0, 0) := z_ftd (by decide +kernel)
theorem t71_219 : z_ft 71 219 = some (.lconst 0, 1, none, [], 0, 0, 0, 0) := z_ftd (by decide +kernel)
theorem t71_220 : z_ft 71 220 = some (.lcmp, 1, none, [], 0, 0, 0, 0) := z_ftd (by decide +kernel)
theorem t71_221 : z_ft 71 221 = some (.ifCond .ne 14, 3, none, [], 235, 0, 0, 0) := z_ftd (by decide +kernel)
theorem t71_224 : z_ft 71 224 = some (.iload_n 2, 1, none, [], 0, 0, 0, 0) := z_ftd (by decide +kernel)
theorem t71_225 : z_ft 71 225 = some (.iconst 2, 1, none, [], 0, 0, 0, 0) := z_ftd (by decide +kernel)
theorem t71_226 : z_ft 71 226 = some (.iadd, 1, none, [], 0, 0, 0, 0) := z_ftd (by decide +kernel)
theorem t71_227 : z_ft 71 227 = some (.aload_n 0, 1, none, [], 0, 0, 0, 0) := z_ftd (by decide +kernel)
theorem t71_228 : z_ft 71 228 = some (.getfield 9, 3, none, [], 7, 0, 5, 0) := z_ftd (by decide +kernel)
theorem t71_231 : z_ft 71 231 = some (.arraylength, 1, none, [], 0, 0, 0, 0) := z_ftd (by decide +kernel)
theorem t71_232 : z_ft 71 232 = some (.if_icmp .lt 8, 3, none, [], 240, 0, 0, 0) := z_ftd (by decide +kernel)
theorem t71_235 : z_ft 71 235 = some (.lload 5, 2, (some [5]), [], 0, 0, 0, 0) := z_ftd (by decide +kernel)
theorem t71_237 : z_ft 71 237 = some (.goto 12, 3, none, [], 249, 0, 0, 0) := z_ftd (by decide +kernel)
theorem t71_240 : z_ft 71 240 = some (.aload_n 0, 1, none, [], 0, 0, 0, 0) := z_ftd (by decide +kernel)
theorem t71_241 : z_ft 71 241 = some (.getfield 9, 3, none, [], 7, 0, 5, 0) := z_ftd (by decide +kernel)
theorem t71_244 : z_ft 71 244 = some (.iload_n 2, 1, none, [], 0, 0, 0, 0) := z_ftd (by decide +kernel)
theorem t71_245 : z_ft 71 245 = some (.iconst 2, 1, none, [], 0, 0, 0, 0) := z_ftd (by decide +kernel)
theorem t71_246 : z_ft 71 246 = some (.iadd, 1, none, [], 0, 0, 0, 0) := z_ftd (by decide +kernel)
theorem t71_247 : z_ft 71 247 = some (.iaload, 1, none, [], 0, 0, 0, 0) := z_ftd (by decide +kernel)
theorem t71_248 : z_ft 71 248 = some (.i2l, 1, none, [], 0, 0, 0, 0) := z_ftd (by decide +kernel)
theorem t71_249 : z_ft 71 249 = some (.lreturn, 1, (some []), [], 0, 0, 0, 0) := z_ftd (by decide +kernel)
noncomputable def b71_32 (d : Nat) (y1 : Int32) (y2 : Int32) (y3 : Int64) (s0 : Int64) (S : z_S) : Option (Int64 × z_S) := zk kL z_X0 d 71 32 [.ref 23, .int y1, .int y2, .long y3, z_j, z_j, z_j] [.long s0] S
noncomputable def b71_235 (d : Nat) (y5 : Int64) (S : z_S) : Option (Int64 × z_S) := zk kL z_X0 d 71 235 [z_j, z_j, z_j, z_j, z_j, .long y5, z_j] [] S
theorem b71_32_eq (d : Nat) (y1 : Int32) (y2 : Int32) (y3 : Int64) (s0 : Int64) (S : z_S) (hW : z_W S)  : b71_32 d y1 y2 y3 s0 S = (if y1 = (-18 : Int32) then some (((1 : Int64) - y3), S) else (if y1 = (-17 : Int32) then some ((y3 ||| s0), S) else (if y1 = (-16 : Int32) then some ((y3 &&& s0), S) else (if y1 = (-15 : Int32) then (if ¬ (lg_cmp y3 s0) = (0 : Int32) then some ((0 : Int64), S) else some ((1 : Int64), S)) else (if y1 = (-14 : Int32) then (if (lg_cmp y3 s0) ≤ (0 : Int32) then some ((0 : Int64), S) else some ((1 : Int64), S)) else (if y1 = (-13 : Int32) then (if (0 : Int32) ≤ (lg_cmp y3 s0) then some ((0 : Int64), S) else some ((1 : Int64), S)) else (if y1 = (-12 : Int32) then (zb (fL d 278 [.long y3, .long s0] S) fun v14 S15 => some (v14, S15)) else (if y1 = (-11 : Int32) then (zb (fL d 280 [.long y3, .long s0] S) fun v17 S18 => some (v17, S18)) else (if y1 = (-10 : Int32) then (if ¬ (lg_cmp s0 (0 : Int64)) = (0 : Int32) then (zb (fL d 276 [.long y3, .long s0] S) fun v21 S22 => some (v21, S22)) else some ((0 : Int64), S)) else (if y1 = (-9 : Int32) then (if ¬ (lg_cmp s0 (0 : Int64)) = (0 : Int32) then (zb (fL d 275 [.long y3, .long s0] S) fun v25 S26 => some (v25, S26)) else some ((0 : Int64), S)) else (if y1 = (-8 : Int32) then some ((y3 * s0), S) else (if y1 = (-7 : Int32) then some ((y3 - s0), S) else (if y1 = (-6 : Int32) then some ((y3 + s0), S) else (if ¬ (lg_cmp y3 (0 : Int64)) = (0 : Int32) then b71_235 d s0 S else (if (y2 + (2 : Int32)) < (Int32.ofNat 64) then (if z_in (y2 + (2 : Int32)) 64 then some (((gI S 24 ((y2 + (2 : Int32))).toNatClampNeg)).toInt64, S) else none) else b71_235 d s0 S))))))))))))))) := by
  unfold b71_32
  refine (k_lstore (ls' := [.ref 23, .int y1, .int y2, .long y3, z_j, .long s0, z_j]) t71_32 rfl rfl).trans ?_
  refine (k_iload_n t71_34 rfl rfl).trans ?_
  refine (k_switch t71_35 rfl).trans ?_
  refine (zk_swC (n := (-18 : Int32)) (lo' := -17) zci_m18 rfl).trans (z_ite (fun g4 => ?_) (fun g4 => ?_))
  · refine (k_lconst t71_214 rfl (z := (1 : Int64)) rfl).trans ?_
    refine (k_lload_n t71_215 rfl rfl).trans ?_
    refine (k_lsub t71_216 rfl).trans ?_
    exact k_lreturn t71_217 rfl (by decide)
  refine (zk_swC (n := (-17 : Int32)) (lo' := -16) zci_m17 rfl).trans (z_ite (fun g5 => ?_) (fun g5 => ?_))
  · refine (k_lload_n t71_209 rfl rfl).trans ?_
    refine (k_lload t71_210 rfl rfl).trans ?_
    refine (k_lor t71_212 rfl).trans ?_
    exact k_lreturn t71_213 rfl (by decide)
  refine (zk_swC (n := (-16 : Int32)) (lo' := -15) zci_m16 rfl).trans (z_ite (fun g6 => ?_) (fun g6 => ?_))
  · refine (k_lload_n t71_204 rfl rfl).trans ?_
    refine (k_lload t71_205 rfl rfl).trans ?_
    refine (k_land t71_207 rfl).trans ?_
    exact k_lreturn t71_208 rfl (by decide)
  refine (zk_swC (n := (-15 : Int32)) (lo' := -14) zci_m15 rfl).trans (z_ite (fun g7 => ?_) (fun g7 => ?_))
  · refine (k_lload_n t71_191 rfl rfl).trans ?_
    refine (k_lload t71_192 rfl rfl).trans ?_
    refine (k_lcmp t71_194 rfl).trans ?_
    refine (k_if_ne t71_195 rfl).trans (z_ite (fun g8 => ?_) (fun g8 => ?_))
    · refine (k_lconst t71_202 rfl (z := (0 : Int64)) rfl).trans ?_
      refine (zk_mk (ls' := [z_j, z_j, z_j, z_j, z_j, z_j, z_j]) t71_203 rfl).trans ?_
      exact k_lreturn t71_203 rfl (by decide)
    · refine (k_lconst t71_198 rfl (z := (1 : Int64)) rfl).trans ?_
      refine (k_goto t71_199 rfl).trans ?_
      refine (zk_mk (ls' := [z_j, z_j, z_j, z_j, z_j, z_j, z_j]) t71_203 rfl).trans ?_
      exact k_lreturn t71_203 rfl (by decide)
  refine (zk_swC (n := (-14 : Int32)) (lo' := -13) zci_m14 rfl).trans (z_ite (fun g9 => ?_) (fun g9 => ?_))
  · refine (k_lload_n t71_178 rfl rfl).trans ?_
    refine (k_lload t71_179 rfl rfl).trans ?_
    refine (k_lcmp t71_181 rfl).trans ?_
    refine (k_if_le t71_182 rfl).trans (z_ite (fun g10 => ?_) (fun g10 => ?_))
    · refine (k_lconst t71_189 rfl (z := (0 : Int64)) rfl).trans ?_
      refine (zk_mk (ls' := [z_j, z_j, z_j, z_j, z_j, z_j, z_j]) t71_190 rfl).trans ?_
      exact k_lreturn t71_190 rfl (by decide)
    · refine (k_lconst t71_185 rfl (z := (1 : Int64)) rfl).trans ?_
      refine (k_goto t71_186 rfl).trans ?_
      refine (zk_mk (ls' := [z_j, z_j, z_j, z_j, z_j, z_j, z_j]) t71_190 rfl).trans ?_
      exact k_lreturn t71_190 rfl (by decide)
  refine (zk_swC (n := (-13 : Int32)) (lo' := -12) zci_m13 rfl).trans (z_ite (fun g11 => ?_) (fun g11 => ?_))
  · refine (k_lload_n t71_165 rfl rfl).trans ?_
    refine (k_lload t71_166 rfl rfl).trans ?_
    refine (k_lcmp t71_168 rfl).trans ?_
    refine (k_if_ge t71_169 rfl).trans (z_ite (fun g12 => ?_) (fun g12 => ?_))
    · refine (k_lconst t71_176 rfl (z := (0 : Int64)) rfl).trans ?_
      refine (zk_mk (ls' := [z_j, z_j, z_j, z_j, z_j, z_j, z_j]) t71_177 rfl).trans ?_
      exact k_lreturn t71_177 rfl (by decide)
    · refine (k_lconst t71_172 rfl (z := (1 : Int64)) rfl).trans ?_
      refine (k_goto t71_173 rfl).trans ?_
      refine (zk_mk (ls' := [z_j, z_j, z_j, z_j, z_j, z_j, z_j]) t71_177 rfl).trans ?_
      exact k_lreturn t71_177 rfl (by decide)
  refine (zk_swC (n := (-12 : Int32)) (lo' := -11) zci_m12 rfl).trans (z_ite (fun g13 => ?_) (fun g13 => ?_))
  · refine (k_lload_n t71_158 rfl rfl).trans ?_
    refine (k_lload t71_159 rfl rfl).trans ?_
    refine k_callL (as := [.long y3, .long s0]) (rest := []) t71_161 rfl rfl (by decide) rfl rfl (Nat.le_of_ble_eq_true rfl) rfl (z_rcS (by decide)) (by decide) (by decide) hW (fun v14 S15 hW15 => ?_)
    exact k_lreturn t71_164 rfl (by decide)
  refine (zk_swC (n := (-11 : Int32)) (lo' := -10) zci_m11 rfl).trans (z_ite (fun g16 => ?_) (fun g16 => ?_))
  · refine (k_lload_n t71_151 rfl rfl).trans ?_
    refine (k_lload t71_152 rfl rfl).trans ?_
    refine k_callL (as := [.long y3, .long s0]) (rest := []) t71_154 rfl rfl (by decide) rfl rfl (Nat.le_of_ble_eq_true rfl) rfl (z_rcS (by decide)) (by decide) (by decide) hW (fun v17 S18 hW18 => ?_)
    exact k_lreturn t71_157 rfl (by decide)
  refine (zk_swC (n := (-10 : Int32)) (lo' := -9) zci_m10 rfl).trans (z_ite (fun g19 => ?_) (fun g19 => ?_))
  · refine (k_lload t71_133 rfl rfl).trans ?_
    refine (k_lconst t71_135 rfl (z := (0 : Int64)) rfl).trans ?_
    refine (k_lcmp t71_136 rfl).trans ?_
    refine (k_if_ne t71_137 rfl).trans (z_ite (fun g20 => ?_) (fun g20 => ?_))
    · refine (k_lload_n t71_144 rfl rfl).trans ?_
      refine (k_lload t71_145 rfl rfl).trans ?_
      refine k_callL (as := [.long y3, .long s0]) (rest := []) t71_147 rfl rfl (by decide) rfl rfl (Nat.le_of_ble_eq_true rfl) rfl (z_rcS (by decide)) (by decide) (by decide) hW (fun v21 S22 hW22 => ?_)
      refine (zk_mk (ls' := [z_j, z_j, z_j, z_j, z_j, z_j, z_j]) t71_150 rfl).trans ?_
      exact k_lreturn t71_150 rfl (by decide)
    · refine (k_lconst t71_140 rfl (z := (0 : Int64)) rfl).trans ?_
      refine (k_goto t71_141 rfl).trans ?_
      refine (zk_mk (ls' := [z_j, z_j, z_j, z_j, z_j, z_j, z_j]) t71_150 rfl).trans ?_
      exact k_lreturn t71_150 rfl (by decide)
  refine (zk_swC (n := (-9 : Int32)) (lo' := -8) zci_m9 rfl).trans (z_ite (fun g23 => ?_) (fun g23 => ?_))
  · refine (k_lload t71_115 rfl rfl).trans ?_
    refine (k_lconst t71_117 rfl (z := (0 : Int64)) rfl).trans ?_
    refine (k_lcmp t71_118 rfl).trans ?_
    refine (k_if_ne t71_119 rfl).trans (z_ite (fun g24 => ?_) (fun g24 => ?_))
    · refine (k_lload_n t71_126 rfl rfl).trans ?_
      refine (k_lload t71_127 rfl rfl).trans ?_
      refine k_callL (as := [.long y3, .long s0]) (rest := []) t71_129 rfl rfl (by decide) rfl rfl (Nat.le_of_ble_eq_true rfl) rfl (z_rcS (by decide)) (by decide) (by decide) hW (fun v25 S26 hW26 => ?_)
      refine (zk_mk (ls' := [z_j, z_j, z_j, z_j, z_j, z_j, z_j]) t71_132 rfl).trans ?_
      exact k_lreturn t71_132 rfl (by decide)
    · refine (k_lconst t71_122 rfl (z := (0 : Int64)) rfl).trans ?_
      refine (k_goto t71_123 rfl).trans ?_
      refine (zk_mk (ls' := [z_j, z_j, z_j, z_j, z_j, z_j, z_j]) t71_132 rfl).trans ?_
      exact k_lreturn t71_132 rfl (by decide)
  refine (zk_swC (n := (-8 : Int32)) (lo' := -7) zci_m8 rfl).trans (z_ite (fun g27 => ?_) (fun g27 => ?_))
  · refine (k_lload_n t71_110 rfl rfl).trans ?_
    refine (k_lload t71_111 rfl rfl).trans ?_
    refine (k_lmul t71_113 rfl).trans ?_
    exact k_lreturn t71_114 rfl (by decide)
  refine (zk_swC (n := (-7 : Int32)) (lo' := -6) zci_m7 rfl).trans (z_ite (fun g28 => ?_) (fun g28 => ?_))
  · refine (k_lload_n t71_105 rfl rfl).trans ?_
    refine (k_lload t71_106 rfl rfl).trans ?_
    refine (k_lsub t71_108 rfl).trans ?_
    exact k_lreturn t71_109 rfl (by decide)
  refine (zk_swC (n := (-6 : Int32)) (lo' := -5) zci_m6 rfl).trans (z_ite (fun g29 => ?_) (fun g29 => ?_))
  · refine (k_lload_n t71_100 rfl rfl).trans ?_
    refine (k_lload t71_101 rfl rfl).trans ?_
    refine (k_ladd t71_103 rfl).trans ?_
    exact k_lreturn t71_104 rfl (by decide)
  refine (k_lload_n t71_218 rfl rfl).trans ?_
  refine (k_lconst t71_219 rfl (z := (0 : Int64)) rfl).trans ?_
  refine (k_lcmp t71_220 rfl).trans ?_
  refine (k_if_ne t71_221 rfl).trans (z_ite (fun g30 => ?_) (fun g30 => ?_))
  · exact (zk_mk (ls' := [z_j, z_j, z_j, z_j, z_j, .long s0, z_j]) t71_235 rfl)
  · refine (k_iload_n t71_224 rfl rfl).trans ?_
    refine (k_iconst t71_225 rfl zci_2).trans ?_
    refine (k_iadd t71_226 rfl).trans ?_
    refine (k_aload_n t71_227 rfl rfl).trans ?_
    refine (k_getR t71_228 rfl hW zK_23 (by decide) (by decide) (zF_23_0 hW)).trans ?_
    refine (k_alen t71_231 rfl hW (by rw [zK_24]; decide) zL_24).trans ?_
    refine (k_icmp_lt t71_232 rfl).trans (z_ite (fun g31 => ?_) (fun g31 => ?_))
    · refine (k_aload_n t71_240 rfl rfl).trans ?_
      refine (k_getR t71_241 rfl hW zK_23 (by decide) (by decide) (zF_23_0 hW)).trans ?_
      refine (k_iload_n t71_244 rfl rfl).trans ?_
      refine (k_iconst t71_245 rfl zci_2).trans ?_
      refine (k_iadd t71_246 rfl).trans ?_
      refine (k_iald t71_247 rfl hW zK_24 zL_24).trans (z_ite (fun g32 => ?_) (fun _ => rfl))
      refine (k_i2l t71_248 rfl).trans ?_
      refine (zk_mk (ls' := [z_j, z_j, z_j, z_j, z_j, z_j, z_j]) t71_249 rfl).trans ?_
      exact k_lreturn t71_249 rfl (by decide)
    · exact (zk_mk (ls' := [z_j, z_j, z_j, z_j, z_j, .long s0, z_j]) t71_235 rfl)
theorem b71_235_eq (d : Nat) (y5 : Int64) (S : z_S) (hW : z_W S)  : b71_235 d y5 S = some (y5, S) := by
  unfold b71_235
  refine (k_lload t71_235 rfl rfl).trans ?_
  refine (k_goto t71_237 rfl).trans ?_
  refine (zk_mk (ls' := [z_j, z_j, z_j, z_j, z_j, z_j, z_j]) t71_249 rfl).trans ?_
  exact k_lreturn t71_249 rfl (by decide)
-- X7_joined
theorem e71 (d : Nat) (x1 : Int32) (x2 : Int32) (S : z_S) (hW : z_W S)  : fL (d + 1) 71 [.ref 23, .int x1, .int x2] S = (if z_in x2 64 then (if (Int32.ofNat 64) ≤ (x2 + (1 : Int32)) then b71_32 d x1 x2 (((gI S 24 (x2).toNatClampNeg)).toInt64) (0 : Int64) S else (if z_in (x2 + (1 : Int32)) 64 then b71_32 d x1 x2 (((gI S 24 (x2).toNatClampNeg)).toInt64) (((gI S 24 ((x2 + (1 : Int32))).toNatClampNeg)).toInt64) S else none)) else none) := by
  refine (fL_en (Nat.le_of_ble_eq_true rfl) rfl).trans ?_
  refine (k_aload_n t71_0 rfl rfl).trans ?_
  refine (k_getR t71_1 rfl hW zK_23 (by decide) (by decide) (zF_23_0 hW)).trans ?_
  refine (k_iload_n t71_4 rfl rfl).trans ?_
  refine (k_iald t71_5 rfl hW zK_24 zL_24).trans (z_ite (fun g1 => ?_) (fun _ => rfl))
  refine (k_i2l t71_6 rfl).trans ?_
  refine (k_lstore_n (ls' := [.ref 23, .int x1, .int x2, .long ((gI S 24 (x2).toNatClampNeg)).toInt64, z_j, z_j, z_j]) t71_7 rfl rfl).trans ?_
  refine (k_iload_n t71_8 rfl rfl).trans ?_
  refine (k_iconst t71_9 rfl zci_1).trans ?_
  refine (k_iadd t71_10 rfl).trans ?_
  refine (k_aload_n t71_11 rfl rfl).trans ?_
  refine (k_getR t71_12 rfl hW zK_23 (by decide) (by decide) (zF_23_0 hW)).trans ?_
  refine (k_alen t71_15 rfl hW (by rw [zK_24]; decide) zL_24).trans ?_
  refine (k_icmp_ge t71_16 rfl).trans (z_ite (fun g2 => ?_) (fun g2 => ?_))
  · refine (k_lconst t71_31 rfl (z := (0 : Int64)) rfl).trans ?_
    exact (zk_mk (ls' := [.ref 23, .int x1, .int x2, .long ((gI S 24 (x2).toNatClampNeg)).toInt64, z_j, z_j, z_j]) t71_32 rfl)
  · refine (k_aload_n t71_19 rfl rfl).trans ?_
    refine (k_getR t71_20 rfl hW zK_23 (by decide) (by decide) (zF_23_0 hW)).trans ?_
    refine (k_iload_n t71_23 rfl rfl).trans ?_
    refine (k_iconst t71_24 rfl zci_1).trans ?_
    refine (k_iadd t71_25 rfl).trans ?_
    refine (k_iald t71_26 rfl hW zK_24 zL_24).trans (z_ite (fun g3 => ?_) (fun _ => rfl))
    refine (k_i2l t71_27 rfl).trans ?_
    refine (k_goto t71_28 rfl).trans ?_
    exact (zk_mk (ls' := [.ref 23, .int x1, .int x2, .long ((gI S 24 (x2).toNatClampNeg)).toInt64, z_j, z_j, z_j]) t71_32 rfl)
theorem t72_0 : z_ft 72 0 = some (.ldc2_w 94, 3, none, [], 0, 0, 25, (-1000000)) := z_ftd (by decide +kernel)
theorem t72_3 : z_ft 72 3 = some (.ldc2_w 96, 3, none, [], 0, 0, 26, 1000000) := z_ftd (by decide +kernel)
theorem t72_6 : z_ft 72 6 = some (.lload_n 0, 1, none, [], 0, 0, 0, 0) := z_ftd (by decide +kernel)
theorem t72_7 : z_ft 72 7 = some (.invokestatic 88, 3, none, [], 280, 0, 22, 0) := z_ftd (by decide +kernel)
theorem t72_10 : z_ft 72 10 = some (.invokestatic 91, 3, none, [], 278, 0, 23, 0) := z_ftd (by decide +kernel)
theorem t72_13 : z_ft 72 13 = some (.l2i, 1, none, [], 0, 0, 0, 0) := z_ftd (by decide +kernel)
theorem t72_14 : z_ft 72 14 = some (.ireturn, 1, none, [], 0, 0, 0, 0) := z_ftd (by decide +kernel)
-- X7_limited
theorem e72 (d : Nat) (x1 : Int64) (S : z_S) (hW : z_W S)  : fI (d + 1) 72 [.long x1] S = (zb (fL d 280 [.long (1000000 : Int64), .long x1] S) fun v1 S2 => (zb (fL d 278 [.long (-1000000 : Int64), .long v1] S2) fun v3 S4 => some ((v3).toInt32, S4))) := by
  refine (fI_en (Nat.le_of_ble_eq_true rfl) rfl).trans ?_
  refine (k_ldc2_w t72_0 rfl zcl_m1000000).trans ?_
  refine (k_ldc2_w t72_3 rfl zcl_1000000).trans ?_
  refine (k_lload_n t72_6 rfl rfl).trans ?_
  refine k_callL (as := [.long (1000000 : Int64), .long x1]) (rest := [.long (-1000000 : Int64)]) t72_7 rfl rfl (by decide) rfl rfl (Nat.le_of_ble_eq_true rfl) rfl (z_rcS (by decide)) (by decide) (by decide) hW (fun v1 S2 hW2 => ?_)
  refine k_callL (as := [.long (-1000000 : Int64), .long v1]) (rest := []) t72_10 rfl rfl (by decide) rfl rfl (Nat.le_of_ble_eq_true rfl) rfl (z_rcS (by decide)) (by decide) (by decide) hW2 (fun v3 S4 hW4 => ?_)
  refine (k_l2i t72_13 rfl).trans ?_
  exact k_ireturn t72_14 rfl (by decide)
theorem t96_0 : z_ft 96 0 = some (.iconst 0, 1, none, [], 0, 0, 0, 0) := z_ftd (by decide +kernel)
theorem t96_1 : z_ft 96 1 = some (.istore_n 2, 1, none, [], 0, 0, 0, 0) := z_ftd (by decide +kernel)
theorem t96_2 : z_ft 96 2 = some (.iload_n 0, 1, none, [], 0, 0, 0, 0) := z_ftd (by decide +kernel)
theorem t96_3 : z_ft 96 3 = some (.istore_n 3, 1, none, [], 0, 0, 0, 0) := z_ftd (by decide +kernel)
theorem t96_4 : z_ft 96 4 = some (.iload_n 3, 1, (some [0, 1, 2, 3]), [], 0, 0, 0, 0) := z_ftd (by decide +kernel)
theorem t96_5 : z_ft 96 5 = some (.ifCond .le 20, 3, none, [], 25, 0, 0, 0) := z_ftd (by decide +kernel)
theorem t96_8 : z_ft 96 8 = some (.iload_n 2, 1, none, [], 0, 0, 0, 0) := z_ftd (by decide +kernel)
theorem t96_9 : z_ft 96 9 = some (.bipush 6, 2, none, [], 0, 0, 0, 0) := z_ftd (by decide +kernel)
theorem t96_11 : z_ft 96 11 = some (.if_icmp .ge 14, 3, none, [], 25, 0, 0, 0) := z_ftd (by decide +kernel)
theorem t96_14 : z_ft 96 14 = some (.iinc 2 1, 3, none, [], 0, 0, 0, 0) := z_ftd (by decide +kernel)
theorem t96_17 : z_ft 96 17 = some (.iload_n 3, 1, none, [], 0, 0, 0, 0) := z_ftd (by decide +kernel)
theorem t96_18 : z_ft 96 18 = some (.bipush 27, 2, none, [], 0, 0, 0, 0) := z_ftd (by decide +kernel)
theorem t96_20 : z_ft 96 20 = some (.idiv, 1, none, [], 0, 0, 0, 0) := z_ftd (by decide +kernel)
theorem t96_21 : z_ft 96 21 = some (.istore_n 3, 1, none, [], 0, 0, 0, 0) := z_ftd (by decide +kernel)
theorem t96_22 : z_ft 96 22 = some (.goto (-18), 3, none, [], 4, 0, 0, 0) := z_ftd (by decide +kernel)
theorem t96_25 : z_ft 96 25 = some (.iload_n 1, 1, (some [0, 1, 2]), [], 0, 0, 0, 0) := z_ftd (by decide +kernel)
theorem t96_26 : z_ft 96 26 = some (.iload_n 2, 1, none, [], 0, 0, 0, 0) := z_ftd (by decide +kernel)
theorem t96_27 : z_ft 96 27 = some (.if_icmp .ge 7, 3, none, [], 34, 0, 0, 0) := z_ftd (by decide +kernel)
theorem t96_30 : z_ft 96 30 = some (.iload_n 0, 1, none, [], 0, 0, 0, 0) := z_ftd (by decide +kernel)
theorem t96_31 : z_ft 96 31 = some (.goto 4, 3, none, [], 35, 0, 0, 0) := z_ftd (by decide +kernel)
theorem t96_34 : z_ft 96 34 = some (.iconst 0, 1, none, [], 0, 0, 0, 0) := z_ftd (by decide +kernel)
theorem t96_35 : z_ft 96 35 = some (.istore_n 3, 1, (some [1, 2]), [], 0, 0, 0, 0) := z_ftd (by decide +kernel)
theorem t96_36 : z_ft 96 36 = some (.iload_n 2, 1, none, [], 0, 0, 0, 0) := z_ftd (by decide +kernel)
theorem t96_37 : z_ft 96 37 = some (.iconst 1, 1, none, [], 0, 0, 0, 0) := z_ftd (by decide +kernel)
theorem t96_38 : z_ft 96 38 = some (.isub, 1, none, [], 0, 0, 0, 0) := z_ftd (by decide +kernel)
theorem t96_39 : z_ft 96 39 = some (.istore 4, 2, none, [], 0, 0, 0, 0) := z_ftd (by decide +kernel)
theorem t96_41 : z_ft 96 41 = some (.iload 4, 2, (some [1, 3, 4]), [], 0, 0, 0, 0) := z_ftd (by decide +kernel)
theorem t96_43 : z_ft 96 43 = some (.iload_n 1, 1, none, [], 0, 0, 0, 0) := z_ftd (by decide +kernel)
theorem t96_44 : z_ft 96 44 = some (.if_icmp .le 14, 3, none, [], 58, 0, 0, 0) := z_ftd (by decide +kernel)
theorem t96_47 : z_ft 96 47 = some (.iload_n 3, 1, none, [], 0, 0, 0, 0) := z_ftd (by decide +kernel)
theorem t96_48 : z_ft 96 48 = some (.bipush 27, 2, none, [], 0, 0, 0, 0) := z_ftd (by decide +kernel)
theorem t96_50 : z_ft 96 50 = some (.idiv, 1, none, [], 0, 0, 0, 0) := z_ftd (by decide +kernel)
theorem t96_51 : z_ft 96 51 = some (.istore_n 3, 1, none, [], 0, 0, 0, 0) := z_ftd (by decide +kernel)
theorem t96_52 : z_ft 96 52 = some (.iinc 4 (-1), 3, none, [], 0, 0, 0, 0) := z_ftd (by decide +kernel)
theorem t96_55 : z_ft 96 55 = some (.goto (-14), 3, none, [], 41, 0, 0, 0) := z_ftd (by decide +kernel)
theorem t96_58 : z_ft 96 58 = some (.iload_n 3, 1, none, [], 0, 0, 0, 0) := z_ftd (by decide +kernel)
theorem t96_59 : z_ft 96 59 = some (.bipush 27, 2, none, [], 0, 0, 0, 0) := z_ftd (by decide +kernel)
theorem t96_61 : z_ft 96 61 = some (.irem, 1, none, [], 0, 0, 0, 0) := z_ftd (by decide +kernel)
theorem t96_62 : z_ft 96 62 = some (.ireturn, 1, none, [], 0, 0, 0, 0) := z_ftd (by decide +kernel)
noncomputable def b96_4 (d : Nat) (y0 : Int32) (y1 : Int32) (y2 : Int32) (y3 : Int32) (S : z_S) : Option (Int32 × z_S) := zk kI z_X0 d 96 4 [.int y0, .int y1, .int y2, .int y3, z_j] [] S
noncomputable def b96_25 (d : Nat) (y0 : Int32) (y1 : Int32) (y2 : Int32) (S : z_S) : Option (Int32 × z_S) := zk kI z_X0 d 96 25 [.int y0, .int y1, .int y2, z_j, z_j] [] S
noncomputable def b96_35 (d : Nat) (y1 : Int32) (y2 : Int32) (s0 : Int32) (S : z_S) : Option (Int32 × z_S) := zk kI z_X0 d 96 35 [z_j, .int y1, .int y2, z_j, z_j] [.int s0] S
noncomputable def b96_41 (d : Nat) (y1 : Int32) (y3 : Int32) (y4 : Int32) (S : z_S) : Option (Int32 × z_S) := zk kI z_X0 d 96 41 [z_j, .int y1, z_j, .int y3, .int y4] [] S
theorem b96_4_eq (d : Nat) (y0 : Int32) (y1 : Int32) (y2 : Int32) (y3 : Int32) (S : z_S) (hW : z_W S)  : b96_4 d y0 y1 y2 y3 S = (if y3 ≤ (0 : Int32) then b96_25 d y0 y1 y2 S else (if (6 : Int32) ≤ y2 then b96_25 d y0 y1 y2 S else b96_4 d y0 y1 (y2 + (1 : Int32)) (y3 / (27 : Int32)) S)) := by
  unfold b96_4
  refine (k_iload_n t96_4 rfl rfl).trans ?_
  refine (k_if_le t96_5 rfl).trans (z_ite (fun g1 => ?_) (fun g1 => ?_))
  · exact (zk_mk (ls' := [.int y0, .int y1, .int y2, z_j, z_j]) t96_25 rfl)
  · refine (k_iload_n t96_8 rfl rfl).trans ?_
    refine (k_bipush t96_9 rfl zcb_6).trans ?_
    refine (k_icmp_ge t96_11 rfl).trans (z_ite (fun g2 => ?_) (fun g2 => ?_))
    · exact (zk_mk (ls' := [.int y0, .int y1, .int y2, z_j, z_j]) t96_25 rfl)
    · refine (k_iinc (b := (y2 + (1 : Int32))) (ls' := [.int y0, .int y1, .int (y2 + (1 : Int32)), .int y3, z_j]) t96_14 rfl rfl (by rw [zci_1]) rfl).trans ?_
      refine (k_iload_n t96_17 rfl rfl).trans ?_
      refine (k_bipush t96_18 rfl zcb_27).trans ?_
      refine ((k_idiv t96_20 rfl).trans (if_neg (by decide))).trans ?_
      refine (k_istore_n (ls' := [.int y0, .int y1, .int (y2 + (1 : Int32)), .int (y3 / (27 : Int32)), z_j]) t96_21 rfl rfl).trans ?_
      refine (k_goto t96_22 rfl).trans ?_
      exact (zk_mk (ls' := [.int y0, .int y1, .int (y2 + (1 : Int32)), .int (y3 / (27 : Int32)), z_j]) t96_4 rfl)
theorem b96_25_eq (d : Nat) (y0 : Int32) (y1 : Int32) (y2 : Int32) (S : z_S) (hW : z_W S)  : b96_25 d y0 y1 y2 S = (if y2 ≤ y1 then b96_35 d y1 y2 (0 : Int32) S else b96_35 d y1 y2 y0 S) := by
  unfold b96_25
  refine (k_iload_n t96_25 rfl rfl).trans ?_
  refine (k_iload_n t96_26 rfl rfl).trans ?_
  refine (k_icmp_ge t96_27 rfl).trans (z_ite (fun g3 => ?_) (fun g3 => ?_))
  · refine (k_iconst t96_34 rfl zci_0).trans ?_
    exact (zk_mk (ls' := [z_j, .int y1, .int y2, z_j, z_j]) t96_35 rfl)
  · refine (k_iload_n t96_30 rfl rfl).trans ?_
    refine (k_goto t96_31 rfl).trans ?_
    exact (zk_mk (ls' := [z_j, .int y1, .int y2, z_j, z_j]) t96_35 rfl)
theorem b96_35_eq (d : Nat) (y1 : Int32) (y2 : Int32) (s0 : Int32) (S : z_S) (hW : z_W S)  : b96_35 d y1 y2 s0 S = b96_41 d y1 s0 (y2 - (1 : Int32)) S := by
  unfold b96_35
  refine (k_istore_n (ls' := [z_j, .int y1, .int y2, .int s0, z_j]) t96_35 rfl rfl).trans ?_
  refine (k_iload_n t96_36 rfl rfl).trans ?_
  refine (k_iconst t96_37 rfl zci_1).trans ?_
  refine (k_isub t96_38 rfl).trans ?_
  refine (k_istore (ls' := [z_j, .int y1, .int y2, .int s0, .int (y2 - (1 : Int32))]) t96_39 rfl rfl).trans ?_
  exact (zk_mk (ls' := [z_j, .int y1, z_j, .int s0, .int (y2 - (1 : Int32))]) t96_41 rfl)
theorem b96_41_eq (d : Nat) (y1 : Int32) (y3 : Int32) (y4 : Int32) (S : z_S) (hW : z_W S)  : b96_41 d y1 y3 y4 S = (if y4 ≤ y1 then some ((y3 - y3 / (27 : Int32) * (27 : Int32)), S) else b96_41 d y1 (y3 / (27 : Int32)) (y4 + (-1 : Int32)) S) := by
  unfold b96_41
  refine (k_iload t96_41 rfl rfl).trans ?_
  refine (k_iload_n t96_43 rfl rfl).trans ?_
  refine (k_icmp_le t96_44 rfl).trans (z_ite (fun g4 => ?_) (fun g4 => ?_))
  · refine (k_iload_n t96_58 rfl rfl).trans ?_
    refine (k_bipush t96_59 rfl zcb_27).trans ?_
    refine ((k_irem t96_61 rfl).trans (if_neg (by decide))).trans ?_
    exact k_ireturn t96_62 rfl (by decide)
  · refine (k_iload_n t96_47 rfl rfl).trans ?_
    refine (k_bipush t96_48 rfl zcb_27).trans ?_
    refine ((k_idiv t96_50 rfl).trans (if_neg (by decide))).trans ?_
    refine (k_istore_n (ls' := [z_j, .int y1, z_j, .int (y3 / (27 : Int32)), .int y4]) t96_51 rfl rfl).trans ?_
    refine (k_iinc (b := (y4 + (-1 : Int32))) (ls' := [z_j, .int y1, z_j, .int (y3 / (27 : Int32)), .int (y4 + (-1 : Int32))]) t96_52 rfl rfl (by rw [zci_m1]) rfl).trans ?_
    refine (k_goto t96_55 rfl).trans ?_
    exact (zk_mk (ls' := [z_j, .int y1, z_j, .int (y3 / (27 : Int32)), .int (y4 + (-1 : Int32))]) t96_41 rfl)
-- X10_letterOf
theorem e96 (d : Nat) (x1 : Int32) (x2 : Int32) (S : z_S) (hW : z_W S)  : fI (d + 1) 96 [.int x1, .int x2] S = b96_4 d x1 x2 (0 : Int32) x1 S := by
  refine (fI_en (Nat.le_of_ble_eq_true rfl) rfl).trans ?_
  refine (k_iconst t96_0 rfl zci_0).trans ?_
  refine (k_istore_n (ls' := [.int x1, .int x2, .int (0 : Int32), z_j, z_j]) t96_1 rfl rfl).trans ?_
  refine (k_iload_n t96_2 rfl rfl).trans ?_
  refine (k_istore_n (ls' := [.int x1, .int x2, .int (0 : Int32), .int x1, z_j]) t96_3 rfl rfl).trans ?_
  exact (zk_mk (ls' := [.int x1, .int x2, .int (0 : Int32), .int x1, z_j]) t96_4 rfl)
theorem t97_0 : z_ft 97 0 = some (.aload_n 0, 1, none, [], 0, 0, 0, 0) := z_ftd (by decide +kernel)
theorem t97_1 : z_ft 97 1 = some (.aload_n 1, 1, none, [], 0, 0, 0, 0) := z_ftd (by decide +kernel)
theorem t97_2 : z_ft 97 2 = some (.putfield 15, 3, none, [], 10, 1, 4, 0) := z_ftd (by decide +kernel)
theorem t97_5 : z_ft 97 5 = some (.aload_n 0, 1, none, [], 0, 0, 0, 0) := z_ftd (by decide +kernel)
theorem t97_6 : z_ft 97 6 = some (.iload_n 2, 1, none, [], 0, 0, 0, 0) := z_ftd (by decide +kernel)
theorem t97_7 : z_ft 97 7 = some (.aload_n 1, 1, none, [], 0, 0, 0, 0) := z_ftd (by decide +kernel)
theorem t97_8 : z_ft 97 8 = some (.arraylength, 1, none, [], 0, 0, 0, 0) := z_ftd (by decide +kernel)
theorem t97_9 : z_ft 97 9 = some (.invokestatic 51, 3, none, [], 279, 0, 12, 0) := z_ftd (by decide +kernel)
theorem t97_12 : z_ft 97 12 = some (.putfield 18, 3, none, [], 10, 2, 5, 0) := z_ftd (by decide +kernel)
theorem t97_15 : z_ft 97 15 = some (.aload_n 0, 1, none, [], 0, 0, 0, 0) := z_ftd (by decide +kernel)
theorem t97_16 : z_ft 97 16 = some (.iconst 0, 1, none, [], 0, 0, 0, 0) := z_ftd (by decide +kernel)
theorem t97_17 : z_ft 97 17 = some (.putfield 22, 3, none, [], 10, 3, 6, 0) := z_ftd (by decide +kernel)
theorem t97_20 : z_ft 97 20 = some (.aload_n 0, 1, none, [], 0, 0, 0, 0) := z_ftd (by decide +kernel)
theorem t97_21 : z_ft 97 21 = some (.iconst 0, 1, none, [], 0, 0, 0, 0) := z_ftd (by decide +kernel)
theorem t97_22 : z_ft 97 22 = some (.putfield 25, 3, none, [], 10, 4, 7, 0) := z_ftd (by decide +kernel)
theorem t97_25 : z_ft 97 25 = some (.aload_n 0, 1, none, [], 0, 0, 0, 0) := z_ftd (by decide +kernel)
theorem t97_26 : z_ft 97 26 = some (.invokevirtual 57, 3, none, [], 98, 0, 13, 0) := z_ftd (by decide +kernel)
theorem t97_29 : z_ft 97 29 = some (.return_, 1, none, [], 0, 0, 0, 0) := z_ftd (by decide +kernel)
-- X10_begin
theorem e97 (d : Nat) (a1 : Nat) (x2 : Int32) (S : z_S) (hW : z_W S) (ha1 : z_K a1 = 20) : fV (d + 1) 97 [.ref 19, .ref a1, .int x2] S = (zb (fI d 279 [.int x2, .int (Int32.ofNat (z_Ln a1))] (sR S 19 1 (some a1))) fun v1 S2 => ((fV d 98 [.ref 19] (sI (sI (sI S2 19 2 v1) 19 3 (0 : Int32)) 19 4 (0 : Int32))).bind fun S4 => some S4)) := by
  refine (fV_en (Nat.le_of_ble_eq_true rfl) rfl).trans ?_
  refine (k_aload_n t97_0 rfl rfl).trans ?_
  refine (k_aload_n t97_1 rfl rfl).trans ?_
  refine (k_putR t97_2 rfl hW zK_19 (by decide) (by decide) (by rw [ha1]; decide) (by rw [ha1]; decide)).trans ?_
  refine (k_aload_n t97_5 rfl rfl).trans ?_
  refine (k_iload_n t97_6 rfl rfl).trans ?_
  refine (k_aload_n t97_7 rfl rfl).trans ?_
  refine (k_alen t97_8 rfl (zR_19_1 hW ha1) (by rw [ha1]; decide) rfl).trans ?_
  refine k_callI (as := [.int x2, .int (Int32.ofNat (z_Ln a1))]) (rest := [.ref 19]) t97_9 rfl rfl (by decide) rfl rfl (Nat.le_of_ble_eq_true rfl) rfl (z_rcS (by decide)) (by decide) (Or.inl (by decide)) (zR_19_1 hW ha1) (fun v1 S2 hW2 => ?_)
  refine (k_putI t97_12 rfl hW2 zK_19 (by decide) (by decide) (by decide)).trans ?_
  refine (k_aload_n t97_15 rfl rfl).trans ?_
  refine (k_iconst t97_16 rfl zci_0).trans ?_
  refine (k_putI t97_17 rfl hW2.sI zK_19 (by decide) (by decide) (by decide)).trans ?_
  refine (k_aload_n t97_20 rfl rfl).trans ?_
  refine (k_iconst t97_21 rfl zci_0).trans ?_
  refine (k_putI t97_22 rfl hW2.sI.sI zK_19 (by decide) (by decide) (by decide)).trans ?_
  refine (k_aload_n t97_25 rfl rfl).trans ?_
  refine k_callV (as := [.ref 19]) (rest := []) t97_26 rfl rfl (by decide) rfl rfl (Nat.le_of_ble_eq_true rfl) rfl (z_rcV hW2.sI.sI.sI (zK_19) (by decide)) (by decide) (by decide) hW2.sI.sI.sI (fun S4 hW4 => ?_)
  exact k_return t97_29 rfl (by decide)
theorem t98_0 : z_ft 98 0 = some (.aload_n 0, 1, none, [], 0, 0, 0, 0) := z_ftd (by decide +kernel)
theorem t98_1 : z_ft 98 1 = some (.getfield 25, 3, none, [], 10, 4, 7, 0) := z_ftd (by decide +kernel)
theorem t98_4 : z_ft 98 4 = some (.iconst 1, 1, none, [], 0, 0, 0, 0) := z_ftd (by decide +kernel)
theorem t98_5 : z_ft 98 5 = some (.if_icmp .eq 11, 3, none, [], 16, 0, 0, 0) := z_ftd (by decide +kernel)
theorem t98_8 : z_ft 98 8 = some (.aload_n 0, 1, none, [], 0, 0, 0, 0) := z_ftd (by decide +kernel)
theorem t98_9 : z_ft 98 9 = some (.getfield 25, 3, none, [], 10, 4, 7, 0) := z_ftd (by decide +kernel)
theorem t98_12 : z_ft 98 12 = some (.iconst 2, 1, none, [], 0, 0, 0, 0) := z_ftd (by decide +kernel)
theorem t98_13 : z_ft 98 13 = some (.if_icmp .ne 7, 3, none, [], 20, 0, 0, 0) := z_ftd (by decide +kernel)
theorem t98_16 : z_ft 98 16 = some (.iconst 1, 1, (some [0]), [], 0, 0, 0, 0) := z_ftd (by decide +kernel)
theorem t98_17 : z_ft 98 17 = some (.goto 4, 3, none, [], 21, 0, 0, 0) := z_ftd (by decide +kernel)
theorem t98_20 : z_ft 98 20 = some (.iconst 0, 1, none, [], 0, 0, 0, 0) := z_ftd (by decide +kernel)
theorem t98_21 : z_ft 98 21 = some (.istore_n 1, 1, (some [0]), [], 0, 0, 0, 0) := z_ftd (by decide +kernel)
theorem t98_22 : z_ft 98 22 = some (.aload_n 0, 1, none, [], 0, 0, 0, 0) := z_ftd (by decide +kernel)
theorem t98_23 : z_ft 98 23 = some (.getfield 22, 3, none, [], 10, 3, 6, 0) := z_ftd (by decide +kernel)
theorem t98_26 : z_ft 98 26 = some (.istore_n 2, 1, none, [], 0, 0, 0, 0) := z_ftd (by decide +kernel)
theorem t98_27 : z_ft 98 27 = some (.aload_n 0, 1, (some [0, 1, 2]), [], 0, 0, 0, 0) := z_ftd (by decide +kernel)
theorem t98_28 : z_ft 98 28 = some (.getfield 22, 3, none, [], 10, 3, 6, 0) := z_ftd (by decide +kernel)
theorem t98_31 : z_ft 98 31 = some (.aload_n 0, 1, none, [], 0, 0, 0, 0) := z_ftd (by decide +kernel)
theorem t98_32 : z_ft 98 32 = some (.getfield 18, 3, none, [], 10, 2, 5, 0) := z_ftd (by decide +kernel)
theorem t98_35 : z_ft 98 35 = some (.if_icmp .ge 44, 3, none, [], 79, 0, 0, 0) := z_ftd (by decide +kernel)
theorem t98_38 : z_ft 98 38 = some (.aload_n 0, 1, none, [], 0, 0, 0, 0) := z_ftd (by decide +kernel)
theorem t98_39 : z_ft 98 39 = some (.getfield 15, 3, none, [], 10, 1, 4, 0) := z_ftd (by decide +kernel)
theorem t98_42 : z_ft 98 42 = some (.aload_n 0, 1, none, [], 0, 0, 0, 0) := z_ftd (by decide +kernel)
theorem t98_43 : z_ft 98 43 = some (.getfield 22, 3, none, [], 10, 3, 6, 0) := z_ftd (by decide +kernel)
theorem t98_46 : z_ft 98 46 = some (.iaload, 1, none, [], 0, 0, 0, 0) := z_ftd (by decide +kernel)
theorem t98_47 : z_ft 98 47 = some (.bipush 32, 2, none, [], 0, 0, 0, 0) := z_ftd (by decide +kernel)
theorem t98_49 : z_ft 98 49 = some (.if_icmp .eq 17, 3, none, [], 66, 0, 0, 0) := z_ftd (by decide +kernel)
theorem t98_52 : z_ft 98 52 = some (.aload_n 0, 1, none, [], 0, 0, 0, 0) := z_ftd (by decide +kernel)
theorem t98_53 : z_ft 98 53 = some (.getfield 15, 3, none, [], 10, 1, 4, 0) := z_ftd (by decide +kernel)
theorem t98_56 : z_ft 98 56 = some (.aload_n 0, 1, none, [], 0, 0, 0, 0) := z_ftd (by decide +kernel)
theorem t98_57 : z_ft 98 57 = some (.getfield 22, 3, none, [], 10, 3, 6, 0) := z_ftd (by decide +kernel)
theorem t98_60 : z_ft 98 60 = some (.iaload, 1, none, [], 0, 0, 0, 0) := z_ftd (by decide +kernel)
theorem t98_61 : z_ft 98 61 = some (.bipush 10, 2, none, [], 0, 0, 0, 0) := z_ftd (by decide +kernel)
theorem t98_63 : z_ft 98 63 = some (.if_icmp .ne 16, 3, none, [], 79, 0, 0, 0) := z_ftd (by decide +kernel)
theorem t98_66 : z_ft 98 66 = some (.aload_n 0, 1, (some [0, 1, 2]), [], 0, 0, 0, 0) := z_ftd (by decide +kernel)
theorem t98_67 : z_ft 98 67 = some (.dup, 1, none, [], 0, 0, 0, 0) := z_ftd (by decide +kernel)
theorem t98_68 : z_ft 98 68 = some (.getfield 22, 3, none, [], 10, 3, 6, 0) := z_ftd (by decide +kernel)
theorem t98_71 : z_ft 98 71 = some (.iconst 1, 1, none, [], 0, 0, 0, 0) := z_ftd (by decide +kernel)
theorem t98_72 : z_ft 98 72 = some (.iadd, 1, none, [], 0, 0, 0, 0) := z_ftd (by decide +kernel)
theorem t98_73 : z_ft 98 73 = some (.putfield 22, 3, none, [], 10, 3, 6, 0) := z_ftd (by decide +kernel)
theorem t98_76 : z_ft 98 76 = some (.goto (-49), 3, none, [], 27, 0, 0, 0) := z_ftd (by decide +kernel)
theorem t98_79 : z_ft 98 79 = some (.aload_n 0, 1, (some [0, 1, 2]), [], 0, 0, 0, 0) := z_ftd (by decide +kernel)
theorem t98_80 : z_ft 98 80 = some (.aload_n 0, 1, none, [], 0, 0, 0, 0) := z_ftd (by decide +kernel)
theorem t98_81 : z_ft 98 81 = some (.getfield 22, 3, none, [], 10, 3, 6, 0) := z_ftd (by decide +kernel)
theorem t98_84 : z_ft 98 84 = some (.putfield 28, 3, none, [], 10, 5, 8, 0) := z_ftd (by decide +kernel)
theorem t98_87 : z_ft 98 87 = some (.aload_n 0, 1, none, [], 0, 0, 0, 0) := z_ftd (by decide +kernel)
theorem t98_88 : z_ft 98 88 = some (.aload_n 0, 1, none, [], 0, 0, 0, 0) := z_ftd (by decide +kernel)
theorem t98_89 : z_ft 98 89 = some (.getfield 22, 3, none, [], 10, 3, 6, 0) := z_ftd (by decide +kernel)
theorem t98_92 : z_ft 98 92 = some (.putfield 37, 3, none, [], 10, 8, 11, 0) := z_ftd (by decide +kernel)
theorem t98_95 : z_ft 98 95 = some (.aload_n 0, 1, none, [], 0, 0, 0, 0) := z_ftd (by decide +kernel)
theorem t98_96 : z_ft 98 96 = some (.iconst 0, 1, none, [], 0, 0, 0, 0) := z_ftd (by decide +kernel)
theorem t98_97 : z_ft 98 97 = some (.putfield 31, 3, none, [], 10, 6, 9, 0) := z_ftd (by decide +kernel)
theorem t98_100 : z_ft 98 100 = some (.aload_n 0, 1, none, [], 0, 0, 0, 0) := z_ftd (by decide +kernel)
theorem t98_101 : z_ft 98 101 = some (.getfield 22, 3, none, [], 10, 3, 6, 0) := z_ftd (by decide +kernel)
theorem t98_104 : z_ft 98 104 = some (.aload_n 0, 1, none, [], 0, 0, 0, 0) := z_ftd (by decide +kernel)
theorem t98_105 : z_ft 98 105 = some (.getfield 18, 3, none, [], 10, 2, 5, 0) := z_ftd (by decide +kernel)
theorem t98_108 : z_ft 98 108 = some (.if_icmp .lt 11, 3, none, [], 119, 0, 0, 0) := z_ftd (by decide +kernel)
theorem t98_111 : z_ft 98 111 = some (.aload_n 0, 1, none, [], 0, 0, 0, 0) := z_ftd (by decide +kernel)
theorem t98_112 : z_ft 98 112 = some (.iconst 0, 1, none, [], 0, 0, 0, 0) := z_ftd (by decide +kernel)
theorem t98_113 : z_ft 98 113 = some (.putfield 25, 3, none, [], 10, 4, 7, 0) := z_ftd (by decide +kernel)
theorem t98_116 : z_ft 98 116 = some (.goto 98, 3, none, [], 214, 0, 0, 0) := z_ftd (by decide +kernel)
theorem t98_119 : z_ft 98 119 = some (.aload_n 0, 1, none, [], 0, 0, 0, 0) := z_ftd (by decide +kernel)
theorem t98_120 : z_ft 98 120 = some (.getfield 15, 3, none, [], 10, 1, 4, 0) := z_ftd (by decide +kernel)
theorem t98_123 : z_ft 98 123 = some (.aload_n 0, 1, none, [], 0, 0, 0, 0) := z_ftd (by decide +kernel)
theorem t98_124 : z_ft 98 124 = some (.getfield 22, 3, none, [], 10, 3, 6, 0) := z_ftd (by decide +kernel)
theorem t98_127 : z_ft 98 127 = some (.iaload, 1, none, [], 0, 0, 0, 0) := z_ftd (by decide +kernel)
theorem t98_128 : z_ft 98 128 = some (.invokestatic 60, 3, none, [], 101, 0, 14, 0) := z_ftd (by decide +kernel)
theorem t98_131 : z_ft 98 131 = some (.ifCond .eq 22, 3, none, [], 153, 0, 0, 0) := z_ftd (by decide +kernel)
theorem t98_134 : z_ft 98 134 = some (.aload_n 0, 1, none, [], 0, 0, 0, 0) := z_ftd (by decide +kernel)
theorem t98_135 : z_ft 98 135 = some (.iconst 1, 1, none, [], 0, 0, 0, 0) := z_ftd (by decide +kernel)
theorem t98_136 : z_ft 98 136 = some (.putfield 25, 3, none, [], 10, 4, 7, 0) := z_ftd (by decide +kernel)
theorem t98_139 : z_ft 98 139 = some (.aload_n 0, 1, none, [], 0, 0, 0, 0) := z_ftd (by decide +kernel)
theorem t98_140 : z_ft 98 140 = some (.bipush 97, 2, none, [], 0, 0, 0, 0) := z_ftd (by decide +kernel)
theorem t98_142 : z_ft 98 142 = some (.bipush 122, 2, none, [], 0, 0, 0, 0) := z_ftd (by decide +kernel)
theorem t98_144 : z_ft 98 144 = some (.iconst 1, 1, none, [], 0, 0, 0, 0) := z_ftd (by decide +kernel)
theorem t98_145 : z_ft 98 145 = some (.bipush 6, 2, none, [], 0, 0, 0, 0) := z_ftd (by decide +kernel)
theorem t98_147 : z_ft 98 147 = some (.invokevirtual 64, 3, none, [], 99, 0, 15, 0) := z_ftd (by decide +kernel)
theorem t98_150 : z_ft 98 150 = some (.goto 64, 3, none, [], 214, 0, 0, 0) := z_ftd (by decide +kernel)
theorem t98_153 : z_ft 98 153 = some (.aload_n 0, 1, none, [], 0, 0, 0, 0) := z_ftd (by decide +kernel)
theorem t98_154 : z_ft 98 154 = some (.getfield 15, 3, none, [], 10, 1, 4, 0) := z_ftd (by decide +kernel)
theorem t98_157 : z_ft 98 157 = some (.aload_n 0, 1, none, [], 0, 0, 0, 0) := z_ftd (by decide +kernel)
theorem t98_158 : z_ft 98 158 = some (.getfield 22, 3, none, [], 10, 3, 6, 0) := z_ftd (by decide +kernel)
theorem t98_161 : z_ft 98 161 = some (.iaload, 1, none, [], 0, 0, 0, 0) := z_ftd (by decide +kernel)
theorem t98_162 : z_ft 98 162 = some (.invokestatic 68, 3, none, [], 102, 0, 16, 0) := z_ftd (by decide +kernel)
theorem t98_165 : z_ft 98 165 = some (.ifCond .eq 21, 3, none, [], 186, 0, 0, 0) := z_ftd (by decide +kernel)
theorem t98_168 : z_ft 98 168 = some (.aload_n 0, 1, none, [], 0, 0, 0, 0) := z_ftd (by decide +kernel)
theorem t98_169 : z_ft 98 169 = some (.iconst 2, 1, none, [], 0, 0, 0, 0) := z_ftd (by decide +kernel)
theorem t98_170 : z_ft 98 170 = some (.putfield 25, 3, none, [], 10, 4, 7, 0) := z_ftd (by decide +kernel)
theorem t98_173 : z_ft 98 173 = some (.aload_n 0, 1, none, [], 0, 0, 0, 0) := z_ftd (by decide +kernel)
theorem t98_174 : z_ft 98 174 = some (.bipush 48, 2, none, [], 0, 0, 0, 0) := z_ftd (by decide +kernel)
theorem t98_176 : z_ft 98 176 = some (.bipush 57, 2, none, [], 0, 0, 0, 0) := z_ftd (by decide +kernel)
theorem t98_178 : z_ft 98 178 = some (.iconst 0, 1, none, [], 0, 0, 0, 0) := z_ftd (by decide +kernel)
theorem t98_179 : z_ft 98 179 = some (.iconst 4, 1, none, [], 0, 0, 0, 0) := z_ftd (by decide +kernel)
theorem t98_180 : z_ft 98 180 = some (.invokevirtual 64, 3, none, [], 99, 0, 15, 0) := z_ftd (by decide +kernel)
theorem t98_183 : z_ft 98 183 = some (.goto 31, 3, none, [], 214, 0, 0, 0) := z_ftd (by decide +kernel)
theorem t98_186 : z_ft 98 186 = some (.aload_n 0, 1, none, [], 0, 0, 0, 0) := z_ftd (by decide +kernel)
theorem t98_187 : z_ft 98 187 = some (.iconst 3, 1, none, [], 0, 0, 0, 0) := z_ftd (by decide +kernel)
theorem t98_188 : z_ft 98 188 = some (.putfield 25, 3, none, [], 10, 4, 7, 0) := z_ftd (by decide +kernel)
theorem t98_191 : z_ft 98 191 = some (.aload_n 0, 1, none, [], 0, 0, 0, 0) := z_ftd (by decide +kernel)
theorem t98_192 : z_ft 98 192 = some (.aload_n 0, 1, none, [], 0, 0, 0, 0) := z_ftd (by decide +kernel)
theorem t98_193 : z_ft 98 193 = some (.getfield 15, 3, none, [], 10, 1, 4, 0) := z_ftd (by decide +kernel)
theorem t98_196 : z_ft 98 196 = some (.aload_n 0, 1, none, [], 0, 0, 0, 0) := z_ftd (by decide +kernel)
theorem t98_197 : z_ft 98 197 = some (.getfield 22, 3, none, [], 10, 3, 6, 0) := z_ftd (by decide +kernel)
theorem t98_200 : z_ft 98 200 = some (.iaload, 1, none, [], 0, 0, 0, 0) := z_ftd (by decide +kernel)
theorem t98_201 : z_ft 98 201 = some (.putfield 31, 3, none, [], 10, 6, 9, 0) := z_ftd (by decide +kernel)
theorem t98_204 : z_ft 98 204 = some (.aload_n 0, 1, none, [], 0, 0, 0, 0) := z_ftd (by decide +kernel)
theorem t98_205 : z_ft 98 205 = some (.dup, 1, none, [], 0, 0, 0, 0) := z_ftd (by decide +kernel)
theorem t98_206 : z_ft 98 206 = some (.getfield 22, 3, none, [], 10, 3, 6, 0) := z_ftd (by decide +kernel)
theorem t98_209 : z_ft 98 209 = some (.iconst 1, 1, none, [], 0, 0, 0, 0) := z_ftd (by decide +kernel)
theorem t98_210 : z_ft 98 210 = some (.iadd, 1, none, [], 0, 0, 0, 0) := z_ftd (by decide +kernel)
theorem t98_211 : z_ft 98 211 = some (.putfield 22, 3, none, [], 10, 3, 6, 0) := z_ftd (by decide +kernel)
theorem t98_214 : z_ft 98 214 = some (.iload_n 1, 1, (some [0, 1, 2]), [], 0, 0, 0, 0) := z_ftd (by decide +kernel)
theorem t98_215 : z_ft 98 215 = some (.ifCond .eq 39, 3, none, [], 254, 0, 0, 0) := z_ftd (by decide +kernel)
theorem t98_218 : z_ft 98 218 = some (.iload_n 2, 1, none, [], 0, 0, 0, 0) := z_ftd (by decide +kernel)
theorem t98_219 : z_ft 98 219 = some (.aload_n 0, 1, none, [], 0, 0, 0, 0) := z_ftd (by decide +kernel)
theorem t98_220 : z_ft 98 220 = some (.getfield 28, 3, none, [], 10, 5, 8, 0) := z_ftd (by decide +kernel)
theorem t98_223 : z_ft 98 223 = some (.if_icmp .ne 31, 3, none, [], 254, 0, 0, 0) := z_ftd (by decide +kernel)
theorem t98_226 : z_ft 98 226 = some (.aload_n 0, 1, none, [], 0, 0, 0, 0) := z_ftd (by decide +kernel)
theorem t98_227 : z_ft 98 227 = some (.getfield 25, 3, none, [], 10, 4, 7, 0) := z_ftd (by decide +kernel)
theorem t98_230 : z_ft 98 230 = some (.ifCond .eq 24, 3, none, [], 254, 0, 0, 0) := z_ftd (by decide +kernel)
theorem t98_233 : z_ft 98 233 = some (.aload_n 0, 1, none, [], 0, 0, 0, 0) := z_ftd (by decide +kernel)
theorem t98_234 : z_ft 98 234 = some (.getfield 25, 3, none, [], 10, 4, 7, 0) := z_ftd (by decide +kernel)
theorem t98_237 : z_ft 98 237 = some (.iconst 3, 1, none, [], 0, 0, 0, 0) := z_ftd (by decide +kernel)
theorem t98_238 : z_ft 98 238 = some (.if_icmp .eq 16, 3, none, [], 254, 0, 0, 0) := z_ftd (by decide +kernel)
theorem t98_241 : z_ft 98 241 = some (.aload_n 0, 1, none, [], 0, 0, 0, 0) := z_ftd (by decide +kernel)
theorem t98_242 : z_ft 98 242 = some (.iconst 4, 1, none, [], 0, 0, 0, 0) := z_ftd (by decide +kernel)
theorem t98_243 : z_ft 98 243 = some (.putfield 25, 3, none, [], 10, 4, 7, 0) := z_ftd (by decide +kernel)
theorem t98_246 : z_ft 98 246 = some (.aload_n 0, 1, none, [], 0, 0, 0, 0) := z_ftd (by decide +kernel)
theorem t98_247 : z_ft 98 247 = some (.aload_n 0, 1, none, [], 0, 0, 0, 0) := z_ftd (by decide +kernel)
theorem t98_248 : z_ft 98 248 = some (.getfield 28, 3, none, [], 10, 5, 8, 0) := z_ftd (by decide +kernel)
theorem t98_251 : z_ft 98 251 = some (.putfield 37, 3, none, [], 10, 8, 11, 0) := z_ftd (by decide +kernel)
theorem t98_254 : z_ft 98 254 = some (.aload_n 0, 1, (some [0]), [], 0, 0, 0, 0) := z_ftd (by decide +kernel)
theorem t98_255 : z_ft 98 255 = some (.aload_n 0, 1, none, [], 0, 0, 0, 0) := z_ftd (by decide +kernel)
theorem t98_256 : z_ft 98 256 = some (.getfield 25, 3, none, [], 10, 4, 7, 0) := z_ftd (by decide +kernel)
theorem t98_259 : z_ft 98 259 = some (.iconst 1, 1, none, [], 0, 0, 0, 0) := z_ftd (by decide +kernel)
theorem t98_260 : z_ft 98 260 = some (.if_icmp .ne 14, 3, none, [], 274, 0, 0, 0) := z_ftd (by decide +kernel)
theorem t98_263 : z_ft 98 263 = some (.aload_n 0, 1, none, [], 0, 0, 0, 0) := z_ftd (by decide +kernel)
theorem t98_264 : z_ft 98 264 = some (.aload_n 0, 1, none, [], 0, 0, 0, 0) := z_ftd (by decide +kernel)
theorem t98_265 : z_ft 98 265 = some (.getfield 31, 3, none, [], 10, 6, 9, 0) := z_ftd (by decide +kernel)
theorem t98_268 : z_ft 98 268 = some (.invokevirtual 71, 3, none, [], 100, 0, 17, 0) := z_ftd (by decide +kernel)
theorem t98_271 : z_ft 98 271 = some (.goto 4, 3, none, [], 275, 0, 0, 0) := z_ftd (by decide +kernel)
theorem t98_274 : z_ft 98 274 = some (.iconst (-1), 1, none, [], 0, 0, 0, 0) := z_ftd (by decide +kernel)
theorem t98_275 : z_ft 98 275 = some (.putfield 34, 3, (some []), [], 10, 7, 10, 0) := z_ftd (by decide +kernel)
theorem t98_278 : z_ft 98 278 = some (.return_, 1, none, [], 0, 0, 0, 0) := z_ftd (by decide +kernel)
noncomputable def b98_16 (d : Nat)  (S : z_S) : Option z_S := zk kV z_X0 d 98 16 [.ref 19, z_j, z_j] [] S
noncomputable def b98_21 (d : Nat) (s0 : Int32) (S : z_S) : Option z_S := zk kV z_X0 d 98 21 [.ref 19, z_j, z_j] [.int s0] S
noncomputable def b98_27 (d : Nat) (y1 : Int32) (y2 : Int32) (S : z_S) : Option z_S := zk kV z_X0 d 98 27 [.ref 19, .int y1, .int y2] [] S
noncomputable def b98_79 (d : Nat) (y1 : Int32) (y2 : Int32) (S : z_S) : Option z_S := zk kV z_X0 d 98 79 [.ref 19, .int y1, .int y2] [] S
noncomputable def b98_66 (d : Nat) (y1 : Int32) (y2 : Int32) (S : z_S) : Option z_S := zk kV z_X0 d 98 66 [.ref 19, .int y1, .int y2] [] S
noncomputable def b98_214 (d : Nat) (y1 : Int32) (y2 : Int32) (S : z_S) : Option z_S := zk kV z_X0 d 98 214 [.ref 19, .int y1, .int y2] [] S
noncomputable def b98_254 (d : Nat)  (S : z_S) : Option z_S := zk kV z_X0 d 98 254 [.ref 19, z_j, z_j] [] S
theorem b98_16_eq (d : Nat)  (S : z_S) (hW : z_W S)  : b98_16 d  S = b98_21 d (1 : Int32) S := by
  unfold b98_16
  refine (k_iconst t98_16 rfl zci_1).trans ?_
  refine (k_goto t98_17 rfl).trans ?_
  exact (zk_mk (ls' := [.ref 19, z_j, z_j]) t98_21 rfl)
theorem b98_21_eq (d : Nat) (s0 : Int32) (S : z_S) (hW : z_W S)  : b98_21 d s0 S = b98_27 d s0 (gI S 19 3) S := by
  unfold b98_21
  refine (k_istore_n (ls' := [.ref 19, .int s0, z_j]) t98_21 rfl rfl).trans ?_
  refine (k_aload_n t98_22 rfl rfl).trans ?_
  refine (k_getI t98_23 rfl hW zK_19 (by decide) (by decide)).trans ?_
  refine (k_istore_n (ls' := [.ref 19, .int s0, .int (gI S 19 3)]) t98_26 rfl rfl).trans ?_
  exact (zk_mk (ls' := [.ref 19, .int s0, .int (gI S 19 3)]) t98_27 rfl)
theorem b98_27_eq (d : Nat) (y1 : Int32) (y2 : Int32) (S : z_S) (hW : z_W S)  : b98_27 d y1 y2 S = (if (gI S 19 2) ≤ (gI S 19 3) then b98_79 d y1 y2 S else (if z_in (gI S 19 3) (z_Ln (gP S 19 1)) then (if (gI S (gP S 19 1) ((gI S 19 3)).toNatClampNeg) = (32 : Int32) then b98_66 d y1 y2 S else (if z_in (gI S 19 3) (z_Ln (gP S 19 1)) then (if ¬ (gI S (gP S 19 1) ((gI S 19 3)).toNatClampNeg) = (10 : Int32) then b98_79 d y1 y2 S else b98_66 d y1 y2 S) else none)) else none)) := by
  unfold b98_27
  refine (k_aload_n t98_27 rfl rfl).trans ?_
  refine (k_getI t98_28 rfl hW zK_19 (by decide) (by decide)).trans ?_
  refine (k_aload_n t98_31 rfl rfl).trans ?_
  refine (k_getI t98_32 rfl hW zK_19 (by decide) (by decide)).trans ?_
  refine (k_icmp_ge t98_35 rfl).trans (z_ite (fun g3 => ?_) (fun g3 => ?_))
  · exact (zk_mk (ls' := [.ref 19, .int y1, .int y2]) t98_79 rfl)
  · refine (k_aload_n t98_38 rfl rfl).trans ?_
    refine (k_getR t98_39 rfl hW zK_19 (by decide) (by decide) (zM_19_1 hW).1).trans ?_
    refine (k_aload_n t98_42 rfl rfl).trans ?_
    refine (k_getI t98_43 rfl hW zK_19 (by decide) (by decide)).trans ?_
    refine (k_iald t98_46 rfl hW (zM_19_1 hW).2 rfl).trans (z_ite (fun g4 => ?_) (fun _ => rfl))
    refine (k_bipush t98_47 rfl zcb_32).trans ?_
    refine (k_icmp_eq t98_49 rfl).trans (z_ite (fun g5 => ?_) (fun g5 => ?_))
    · exact (zk_mk (ls' := [.ref 19, .int y1, .int y2]) t98_66 rfl)
    · refine (k_aload_n t98_52 rfl rfl).trans ?_
      refine (k_getR t98_53 rfl hW zK_19 (by decide) (by decide) (zM_19_1 hW).1).trans ?_
      refine (k_aload_n t98_56 rfl rfl).trans ?_
      refine (k_getI t98_57 rfl hW zK_19 (by decide) (by decide)).trans ?_
      refine (k_iald t98_60 rfl hW (zM_19_1 hW).2 rfl).trans (z_ite (fun g6 => ?_) (fun _ => rfl))
      refine (k_bipush t98_61 rfl zcb_10).trans ?_
      refine (k_icmp_ne t98_63 rfl).trans (z_ite (fun g7 => ?_) (fun g7 => ?_))
      · exact (zk_mk (ls' := [.ref 19, .int y1, .int y2]) t98_79 rfl)
      · exact (zk_mk (ls' := [.ref 19, .int y1, .int y2]) t98_66 rfl)
theorem b98_79_eq (d : Nat) (y1 : Int32) (y2 : Int32) (S : z_S) (hW : z_W S)  : b98_79 d y1 y2 S = (if (gI (sI (sI (sI S 19 5 (gI S 19 3)) 19 8 (gI (sI S 19 5 (gI S 19 3)) 19 3)) 19 6 (0 : Int32)) 19 3) < (gI (sI (sI (sI S 19 5 (gI S 19 3)) 19 8 (gI (sI S 19 5 (gI S 19 3)) 19 3)) 19 6 (0 : Int32)) 19 2) then (if z_in (gI (sI (sI (sI S 19 5 (gI S 19 3)) 19 8 (gI (sI S 19 5 (gI S 19 3)) 19 3)) 19 6 (0 : Int32)) 19 3) (z_Ln (gP (sI (sI (sI S 19 5 (gI S 19 3)) 19 8 (gI (sI S 19 5 (gI S 19 3)) 19 3)) 19 6 (0 : Int32)) 19 1)) then (zb (fI d 101 [.int (gI (sI (sI (sI S 19 5 (gI S 19 3)) 19 8 (gI (sI S 19 5 (gI S 19 3)) 19 3)) 19 6 (0 : Int32)) (gP (sI (sI (sI S 19 5 (gI S 19 3)) 19 8 (gI (sI S 19 5 (gI S 19 3)) 19 3)) 19 6 (0 : Int32)) 19 1) ((gI (sI (sI (sI S 19 5 (gI S 19 3)) 19 8 (gI (sI S 19 5 (gI S 19 3)) 19 3)) 19 6 (0 : Int32)) 19 3)).toNatClampNeg)] (sI (sI (sI S 19 5 (gI S 19 3)) 19 8 (gI (sI S 19 5 (gI S 19 3)) 19 3)) 19 6 (0 : Int32))) fun v10 S11 => (if v10 = (0 : Int32) then (if z_in (gI S11 19 3) (z_Ln (gP S11 19 1)) then (zb (fI d 102 [.int (gI S11 (gP S11 19 1) ((gI S11 19 3)).toNatClampNeg)] S11) fun v14 S15 => (if v14 = (0 : Int32) then (if z_in (gI (sI S15 19 4 (3 : Int32)) 19 3) (z_Ln (gP (sI S15 19 4 (3 : Int32)) 19 1)) then b98_214 d y1 y2 (sI (sI (sI S15 19 4 (3 : Int32)) 19 6 (gI (sI S15 19 4 (3 : Int32)) (gP (sI S15 19 4 (3 : Int32)) 19 1) ((gI (sI S15 19 4 (3 : Int32)) 19 3)).toNatClampNeg)) 19 3 ((gI (sI (sI S15 19 4 (3 : Int32)) 19 6 (gI (sI S15 19 4 (3 : Int32)) (gP (sI S15 19 4 (3 : Int32)) 19 1) ((gI (sI S15 19 4 (3 : Int32)) 19 3)).toNatClampNeg)) 19 3) + (1 : Int32))) else none) else ((fV d 99 [.ref 19, .int (48 : Int32), .int (57 : Int32), .int (0 : Int32), .int (4 : Int32)] (sI S15 19 4 (2 : Int32))).bind fun S19 => b98_214 d y1 y2 S19))) else none) else ((fV d 99 [.ref 19, .int (97 : Int32), .int (122 : Int32), .int (1 : Int32), .int (6 : Int32)] (sI S11 19 4 (1 : Int32))).bind fun S21 => b98_214 d y1 y2 S21))) else none) else b98_214 d y1 y2 (sI (sI (sI (sI S 19 5 (gI S 19 3)) 19 8 (gI (sI S 19 5 (gI S 19 3)) 19 3)) 19 6 (0 : Int32)) 19 4 (0 : Int32))) := by
  unfold b98_79
  refine (k_aload_n t98_79 rfl rfl).trans ?_
  refine (k_aload_n t98_80 rfl rfl).trans ?_
  refine (k_getI t98_81 rfl hW zK_19 (by decide) (by decide)).trans ?_
  refine (k_putI t98_84 rfl hW zK_19 (by decide) (by decide) (by decide)).trans ?_
  refine (k_aload_n t98_87 rfl rfl).trans ?_
  refine (k_aload_n t98_88 rfl rfl).trans ?_
  refine (k_getI t98_89 rfl hW.sI zK_19 (by decide) (by decide)).trans ?_
  refine (k_putI t98_92 rfl hW.sI zK_19 (by decide) (by decide) (by decide)).trans ?_
  refine (k_aload_n t98_95 rfl rfl).trans ?_
  refine (k_iconst t98_96 rfl zci_0).trans ?_
  refine (k_putI t98_97 rfl hW.sI.sI zK_19 (by decide) (by decide) (by decide)).trans ?_
  refine (k_aload_n t98_100 rfl rfl).trans ?_
  refine (k_getI t98_101 rfl hW.sI.sI.sI zK_19 (by decide) (by decide)).trans ?_
  refine (k_aload_n t98_104 rfl rfl).trans ?_
  refine (k_getI t98_105 rfl hW.sI.sI.sI zK_19 (by decide) (by decide)).trans ?_
  refine (k_icmp_lt t98_108 rfl).trans (z_ite (fun g8 => ?_) (fun g8 => ?_))
  · refine (k_aload_n t98_119 rfl rfl).trans ?_
    refine (k_getR t98_120 rfl hW.sI.sI.sI zK_19 (by decide) (by decide) (zM_19_1 hW.sI.sI.sI).1).trans ?_
    refine (k_aload_n t98_123 rfl rfl).trans ?_
    refine (k_getI t98_124 rfl hW.sI.sI.sI zK_19 (by decide) (by decide)).trans ?_
    refine (k_iald t98_127 rfl hW.sI.sI.sI (zM_19_1 hW.sI.sI.sI).2 rfl).trans (z_ite (fun g9 => ?_) (fun _ => rfl))
    refine k_callI (as := [.int (gI (sI (sI (sI S 19 5 (gI S 19 3)) 19 8 (gI (sI S 19 5 (gI S 19 3)) 19 3)) 19 6 (0 : Int32)) (gP (sI (sI (sI S 19 5 (gI S 19 3)) 19 8 (gI (sI S 19 5 (gI S 19 3)) 19 3)) 19 6 (0 : Int32)) 19 1) ((gI (sI (sI (sI S 19 5 (gI S 19 3)) 19 8 (gI (sI S 19 5 (gI S 19 3)) 19 3)) 19 6 (0 : Int32)) 19 3)).toNatClampNeg)]) (rest := []) t98_128 rfl rfl (by decide) rfl rfl (Nat.le_of_ble_eq_true rfl) rfl (z_rcS (by decide)) (by decide) (Or.inr (by decide)) hW.sI.sI.sI (fun v10 S11 hW11 => ?_)
    refine (k_if_eq t98_131 rfl).trans (z_ite (fun g12 => ?_) (fun g12 => ?_))
    · refine (k_aload_n t98_153 rfl rfl).trans ?_
      refine (k_getR t98_154 rfl hW11 zK_19 (by decide) (by decide) (zM_19_1 hW11).1).trans ?_
      refine (k_aload_n t98_157 rfl rfl).trans ?_
      refine (k_getI t98_158 rfl hW11 zK_19 (by decide) (by decide)).trans ?_
      refine (k_iald t98_161 rfl hW11 (zM_19_1 hW11).2 rfl).trans (z_ite (fun g13 => ?_) (fun _ => rfl))
      refine k_callI (as := [.int (gI S11 (gP S11 19 1) ((gI S11 19 3)).toNatClampNeg)]) (rest := []) t98_162 rfl rfl (by decide) rfl rfl (Nat.le_of_ble_eq_true rfl) rfl (z_rcS (by decide)) (by decide) (Or.inr (by decide)) hW11 (fun v14 S15 hW15 => ?_)
      refine (k_if_eq t98_165 rfl).trans (z_ite (fun g16 => ?_) (fun g16 => ?_))
      · refine (k_aload_n t98_186 rfl rfl).trans ?_
        refine (k_iconst t98_187 rfl zci_3).trans ?_
        refine (k_putI t98_188 rfl hW15 zK_19 (by decide) (by decide) (by decide)).trans ?_
        refine (k_aload_n t98_191 rfl rfl).trans ?_
        refine (k_aload_n t98_192 rfl rfl).trans ?_
        refine (k_getR t98_193 rfl hW15.sI zK_19 (by decide) (by decide) (zM_19_1 hW15.sI).1).trans ?_
        refine (k_aload_n t98_196 rfl rfl).trans ?_
        refine (k_getI t98_197 rfl hW15.sI zK_19 (by decide) (by decide)).trans ?_
        refine (k_iald t98_200 rfl hW15.sI (zM_19_1 hW15.sI).2 rfl).trans (z_ite (fun g17 => ?_) (fun _ => rfl))
        refine (k_putI t98_201 rfl hW15.sI zK_19 (by decide) (by decide) (by decide)).trans ?_
        refine (k_aload_n t98_204 rfl rfl).trans ?_
        refine (k_dupR t98_205 rfl).trans ?_
        refine (k_getI t98_206 rfl hW15.sI.sI zK_19 (by decide) (by decide)).trans ?_
        refine (k_iconst t98_209 rfl zci_1).trans ?_
        refine (k_iadd t98_210 rfl).trans ?_
        refine (k_putI t98_211 rfl hW15.sI.sI zK_19 (by decide) (by decide) (by decide)).trans ?_
        exact (zk_mk (ls' := [.ref 19, .int y1, .int y2]) t98_214 rfl)
      · refine (k_aload_n t98_168 rfl rfl).trans ?_
        refine (k_iconst t98_169 rfl zci_2).trans ?_
        refine (k_putI t98_170 rfl hW15 zK_19 (by decide) (by decide) (by decide)).trans ?_
        refine (k_aload_n t98_173 rfl rfl).trans ?_
        refine (k_bipush t98_174 rfl zcb_48).trans ?_
        refine (k_bipush t98_176 rfl zcb_57).trans ?_
        refine (k_iconst t98_178 rfl zci_0).trans ?_
        refine (k_iconst t98_179 rfl zci_4).trans ?_
        refine k_callV (as := [.ref 19, .int (48 : Int32), .int (57 : Int32), .int (0 : Int32), .int (4 : Int32)]) (rest := []) t98_180 rfl rfl (by decide) rfl rfl (Nat.le_of_ble_eq_true rfl) rfl (z_rcV hW15.sI (zK_19) (by decide)) (by decide) (by decide) hW15.sI (fun S19 hW19 => ?_)
        refine (k_goto t98_183 rfl).trans ?_
        exact (zk_mk (ls' := [.ref 19, .int y1, .int y2]) t98_214 rfl)
    · refine (k_aload_n t98_134 rfl rfl).trans ?_
      refine (k_iconst t98_135 rfl zci_1).trans ?_
      refine (k_putI t98_136 rfl hW11 zK_19 (by decide) (by decide) (by decide)).trans ?_
      refine (k_aload_n t98_139 rfl rfl).trans ?_
      refine (k_bipush t98_140 rfl zcb_97).trans ?_
      refine (k_bipush t98_142 rfl zcb_122).trans ?_
      refine (k_iconst t98_144 rfl zci_1).trans ?_
      refine (k_bipush t98_145 rfl zcb_6).trans ?_
      refine k_callV (as := [.ref 19, .int (97 : Int32), .int (122 : Int32), .int (1 : Int32), .int (6 : Int32)]) (rest := []) t98_147 rfl rfl (by decide) rfl rfl (Nat.le_of_ble_eq_true rfl) rfl (z_rcV hW11.sI (zK_19) (by decide)) (by decide) (by decide) hW11.sI (fun S21 hW21 => ?_)
      refine (k_goto t98_150 rfl).trans ?_
      exact (zk_mk (ls' := [.ref 19, .int y1, .int y2]) t98_214 rfl)
  · refine (k_aload_n t98_111 rfl rfl).trans ?_
    refine (k_iconst t98_112 rfl zci_0).trans ?_
    refine (k_putI t98_113 rfl hW.sI.sI.sI zK_19 (by decide) (by decide) (by decide)).trans ?_
    refine (k_goto t98_116 rfl).trans ?_
    exact (zk_mk (ls' := [.ref 19, .int y1, .int y2]) t98_214 rfl)
theorem b98_66_eq (d : Nat) (y1 : Int32) (y2 : Int32) (S : z_S) (hW : z_W S)  : b98_66 d y1 y2 S = b98_27 d y1 y2 (sI S 19 3 ((gI S 19 3) + (1 : Int32))) := by
  unfold b98_66
  refine (k_aload_n t98_66 rfl rfl).trans ?_
  refine (k_dupR t98_67 rfl).trans ?_
  refine (k_getI t98_68 rfl hW zK_19 (by decide) (by decide)).trans ?_
  refine (k_iconst t98_71 rfl zci_1).trans ?_
  refine (k_iadd t98_72 rfl).trans ?_
  refine (k_putI t98_73 rfl hW zK_19 (by decide) (by decide) (by decide)).trans ?_
  refine (k_goto t98_76 rfl).trans ?_
  exact (zk_mk (ls' := [.ref 19, .int y1, .int y2]) t98_27 rfl)
theorem b98_214_eq (d : Nat) (y1 : Int32) (y2 : Int32) (S : z_S) (hW : z_W S)  : b98_214 d y1 y2 S = (if y1 = (0 : Int32) then b98_254 d S else (if ¬ y2 = (gI S 19 5) then b98_254 d S else (if (gI S 19 4) = (0 : Int32) then b98_254 d S else (if (gI S 19 4) = (3 : Int32) then b98_254 d S else b98_254 d (sI (sI S 19 4 (4 : Int32)) 19 8 (gI (sI S 19 4 (4 : Int32)) 19 5)))))) := by
  unfold b98_214
  refine (k_iload_n t98_214 rfl rfl).trans ?_
  refine (k_if_eq t98_215 rfl).trans (z_ite (fun g22 => ?_) (fun g22 => ?_))
  · exact (zk_mk (ls' := [.ref 19, z_j, z_j]) t98_254 rfl)
  · refine (k_iload_n t98_218 rfl rfl).trans ?_
    refine (k_aload_n t98_219 rfl rfl).trans ?_
    refine (k_getI t98_220 rfl hW zK_19 (by decide) (by decide)).trans ?_
    refine (k_icmp_ne t98_223 rfl).trans (z_ite (fun g23 => ?_) (fun g23 => ?_))
    · exact (zk_mk (ls' := [.ref 19, z_j, z_j]) t98_254 rfl)
    · refine (k_aload_n t98_226 rfl rfl).trans ?_
      refine (k_getI t98_227 rfl hW zK_19 (by decide) (by decide)).trans ?_
      refine (k_if_eq t98_230 rfl).trans (z_ite (fun g24 => ?_) (fun g24 => ?_))
      · exact (zk_mk (ls' := [.ref 19, z_j, z_j]) t98_254 rfl)
      · refine (k_aload_n t98_233 rfl rfl).trans ?_
        refine (k_getI t98_234 rfl hW zK_19 (by decide) (by decide)).trans ?_
        refine (k_iconst t98_237 rfl zci_3).trans ?_
        refine (k_icmp_eq t98_238 rfl).trans (z_ite (fun g25 => ?_) (fun g25 => ?_))
        · exact (zk_mk (ls' := [.ref 19, z_j, z_j]) t98_254 rfl)
        · refine (k_aload_n t98_241 rfl rfl).trans ?_
          refine (k_iconst t98_242 rfl zci_4).trans ?_
          refine (k_putI t98_243 rfl hW zK_19 (by decide) (by decide) (by decide)).trans ?_
          refine (k_aload_n t98_246 rfl rfl).trans ?_
          refine (k_aload_n t98_247 rfl rfl).trans ?_
          refine (k_getI t98_248 rfl hW.sI zK_19 (by decide) (by decide)).trans ?_
          refine (k_putI t98_251 rfl hW.sI zK_19 (by decide) (by decide) (by decide)).trans ?_
          exact (zk_mk (ls' := [.ref 19, z_j, z_j]) t98_254 rfl)
theorem b98_254_eq (d : Nat)  (S : z_S) (hW : z_W S)  : b98_254 d  S = (if ¬ (gI S 19 4) = (1 : Int32) then some (sI S 19 7 (-1 : Int32)) else (zb (fI d 100 [.ref 19, .int (gI S 19 6)] S) fun v27 S28 => some (sI S28 19 7 v27))) := by
  unfold b98_254
  refine (k_aload_n t98_254 rfl rfl).trans ?_
  refine (k_aload_n t98_255 rfl rfl).trans ?_
  refine (k_getI t98_256 rfl hW zK_19 (by decide) (by decide)).trans ?_
  refine (k_iconst t98_259 rfl zci_1).trans ?_
  refine (k_icmp_ne t98_260 rfl).trans (z_ite (fun g26 => ?_) (fun g26 => ?_))
  · refine (k_iconst t98_274 rfl zci_m1).trans ?_
    refine (zk_mk (ls' := [z_j, z_j, z_j]) t98_275 rfl).trans ?_
    refine (k_putI t98_275 rfl hW zK_19 (by decide) (by decide) (by decide)).trans ?_
    exact k_return t98_278 rfl (by decide)
  · refine (k_aload_n t98_263 rfl rfl).trans ?_
    refine (k_aload_n t98_264 rfl rfl).trans ?_
    refine (k_getI t98_265 rfl hW zK_19 (by decide) (by decide)).trans ?_
    refine k_callI (as := [.ref 19, .int (gI S 19 6)]) (rest := [.ref 19]) t98_268 rfl rfl (by decide) rfl rfl (Nat.le_of_ble_eq_true rfl) rfl (z_rcV hW (zK_19) (by decide)) (by decide) (Or.inl (by decide)) hW (fun v27 S28 hW28 => ?_)
    refine (k_goto t98_271 rfl).trans ?_
    refine (zk_mk (ls' := [z_j, z_j, z_j]) t98_275 rfl).trans ?_
    refine (k_putI t98_275 rfl hW28 zK_19 (by decide) (by decide) (by decide)).trans ?_
    exact k_return t98_278 rfl (by decide)
-- X10_advance
theorem e98 (d : Nat)  (S : z_S) (hW : z_W S)  : fV (d + 1) 98 [.ref 19] S = (if (gI S 19 4) = (1 : Int32) then b98_16 d S else (if ¬ (gI S 19 4) = (2 : Int32) then b98_21 d (0 : Int32) S else b98_16 d S)) := by
  refine (fV_en (Nat.le_of_ble_eq_true rfl) rfl).trans ?_
  refine (k_aload_n t98_0 rfl rfl).trans ?_
  refine (k_getI t98_1 rfl hW zK_19 (by decide) (by decide)).trans ?_
  refine (k_iconst t98_4 rfl zci_1).trans ?_
  refine (k_icmp_eq t98_5 rfl).trans (z_ite (fun g1 => ?_) (fun g1 => ?_))
  · exact (zk_mk (ls' := [.ref 19, z_j, z_j]) t98_16 rfl)
  · refine (k_aload_n t98_8 rfl rfl).trans ?_
    refine (k_getI t98_9 rfl hW zK_19 (by decide) (by decide)).trans ?_
    refine (k_iconst t98_12 rfl zci_2).trans ?_
    refine (k_icmp_ne t98_13 rfl).trans (z_ite (fun g2 => ?_) (fun g2 => ?_))
    · refine (k_iconst t98_20 rfl zci_0).trans ?_
      exact (zk_mk (ls' := [.ref 19, z_j, z_j]) t98_21 rfl)
    · exact (zk_mk (ls' := [.ref 19, z_j, z_j]) t98_16 rfl)
theorem t99_0 : z_ft 99 0 = some (.iload_n 2, 1, none, [], 0, 0, 0, 0) := z_ftd (by decide +kernel)
theorem t99_1 : z_ft 99 1 = some (.iload_n 1, 1, none, [], 0, 0, 0, 0) := z_ftd (by decide +kernel)
theorem t99_2 : z_ft 99 2 = some (.isub, 1, none, [], 0, 0, 0, 0) := z_ftd (by decide +kernel)
theorem t99_3 : z_ft 99 3 = some (.iconst 1, 1, none, [], 0, 0, 0, 0) := z_ftd (by decide +kernel)
theorem t99_4 : z_ft 99 4 = some (.iadd, 1, none, [], 0, 0, 0, 0) := z_ftd (by decide +kernel)
theorem t99_5 : z_ft 99 5 = some (.iload_n 3, 1, none, [], 0, 0, 0, 0) := z_ftd (by decide +kernel)
theorem t99_6 : z_ft 99 6 = some (.iadd, 1, none, [], 0, 0, 0, 0) := z_ftd (by decide +kernel)
theorem t99_7 : z_ft 99 7 = some (.istore 5, 2, none, [], 0, 0, 0, 0) := z_ftd (by decide +kernel)
theorem t99_9 : z_ft 99 9 = some (.aload_n 0, 1, (some [0, 1, 2, 3, 4, 5]), [], 0, 0, 0, 0) := z_ftd (by decide +kernel)
theorem t99_10 : z_ft 99 10 = some (.getfield 22, 3, none, [], 10, 3, 6, 0) := z_ftd (by decide +kernel)
theorem t99_13 : z_ft 99 13 = some (.aload_n 0, 1, none, [], 0, 0, 0, 0) := z_ftd (by decide +kernel)
theorem t99_14 : z_ft 99 14 = some (.getfield 18, 3, none, [], 10, 2, 5, 0) := z_ftd (by decide +kernel)
theorem t99_17 : z_ft 99 17 = some (.if_icmp .ge 95, 3, none, [], 112, 0, 0, 0) := z_ftd (by decide +kernel)
theorem t99_20 : z_ft 99 20 = some (.aload_n 0, 1, none, [], 0, 0, 0, 0) := z_ftd (by decide +kernel)
theorem t99_21 : z_ft 99 21 = some (.getfield 15, 3, none, [], 10, 1, 4, 0) := z_ftd (by decide +kernel)
theorem t99_24 : z_ft 99 24 = some (.aload_n 0, 1, none, [], 0, 0, 0, 0) := z_ftd (by decide +kernel)
theorem t99_25 : z_ft 99 25 = some (.getfield 22, 3, none, [], 10, 3, 6, 0) := z_ftd (by decide +kernel)
theorem t99_28 : z_ft 99 28 = some (.iaload, 1, none, [], 0, 0, 0, 0) := z_ftd (by decide +kernel)
theorem t99_29 : z_ft 99 29 = some (.iload_n 1, 1, none, [], 0, 0, 0, 0) := z_ftd (by decide +kernel)
theorem t99_30 : z_ft 99 30 = some (.if_icmp .lt 82, 3, none, [], 112, 0, 0, 0) := z_ftd (by decide +kernel)
theorem t99_33 : z_ft 99 33 = some (.aload_n 0, 1, none, [], 0, 0, 0, 0) := z_ftd (by decide +kernel)
theorem t99_34 : z_ft 99 34 = some (.getfield 15, 3, none, [], 10, 1, 4, 0) := z_ftd (by decide +kernel)
theorem t99_37 : z_ft 99 37 = some (.aload_n 0, 1, none, [], 0, 0, 0, 0) := z_ftd (by decide +kernel)
theorem t99_38 : z_ft 99 38 = some (.getfield 22, 3, none, [], 10, 3, 6, 0) := z_ftd (by decide +kernel)
theorem t99_41 : z_ft 99 41 = some (.iaload, 1, none, [], 0, 0, 0, 0) := z_ftd (by decide +kernel)
theorem t99_42 : z_ft 99 42 = some (.iload_n 2, 1, none, [], 0, 0, 0, 0) := z_ftd (by decide +kernel)
theorem t99_43 : z_ft 99 43 = some (.if_icmp .gt 69, 3, none, [], 112, 0, 0, 0) := z_ftd (by decide +kernel)
theorem t99_46 : z_ft 99 46 = some (.aload_n 0, 1, none, [], 0, 0, 0, 0) := z_ftd (by decide +kernel)
theorem t99_47 : z_ft 99 47 = some (.getfield 22, 3, none, [], 10, 3, 6, 0) := z_ftd (by decide +kernel)
theorem t99_50 : z_ft 99 50 = some (.aload_n 0, 1, none, [], 0, 0, 0, 0) := z_ftd (by decide +kernel)
theorem t99_51 : z_ft 99 51 = some (.getfield 28, 3, none, [], 10, 5, 8, 0) := z_ftd (by decide +kernel)
theorem t99_54 : z_ft 99 54 = some (.isub, 1, none, [], 0, 0, 0, 0) := z_ftd (by decide +kernel)
theorem t99_55 : z_ft 99 55 = some (.iload 4, 2, none, [], 0, 0, 0, 0) := z_ftd (by decide +kernel)
theorem t99_57 : z_ft 99 57 = some (.if_icmp .ne 17, 3, none, [], 74, 0, 0, 0) := z_ftd (by decide +kernel)
theorem t99_60 : z_ft 99 60 = some (.aload_n 0, 1, none, [], 0, 0, 0, 0) := z_ftd (by decide +kernel)
theorem t99_61 : z_ft 99 61 = some (.iconst 4, 1, none, [], 0, 0, 0, 0) := z_ftd (by decide +kernel)
theorem t99_62 : z_ft 99 62 = some (.putfield 25, 3, none, [], 10, 4, 7, 0) := z_ftd (by decide +kernel)
theorem t99_65 : z_ft 99 65 = some (.aload_n 0, 1, none, [], 0, 0, 0, 0) := z_ftd (by decide +kernel)
theorem t99_66 : z_ft 99 66 = some (.aload_n 0, 1, none, [], 0, 0, 0, 0) := z_ftd (by decide +kernel)
theorem t99_67 : z_ft 99 67 = some (.getfield 22, 3, none, [], 10, 3, 6, 0) := z_ftd (by decide +kernel)
theorem t99_70 : z_ft 99 70 = some (.putfield 37, 3, none, [], 10, 8, 11, 0) := z_ftd (by decide +kernel)
theorem t99_73 : z_ft 99 73 = some (.return_, 1, none, [], 0, 0, 0, 0) := z_ftd (by decide +kernel)
theorem t99_74 : z_ft 99 74 = some (.aload_n 0, 1, none, [], 0, 0, 0, 0) := z_ftd (by decide +kernel)
theorem t99_75 : z_ft 99 75 = some (.aload_n 0, 1, none, [], 0, 0, 0, 0) := z_ftd (by decide +kernel)
theorem t99_76 : z_ft 99 76 = some (.getfield 31, 3, none, [], 10, 6, 9, 0) := z_ftd (by decide +kernel)
theorem t99_79 : z_ft 99 79 = some (.iload 5, 2, none, [], 0, 0, 0, 0) := z_ftd (by decide +kernel)
theorem t99_81 : z_ft 99 81 = some (.imul, 1, none, [], 0, 0, 0, 0) := z_ftd (by decide +kernel)
theorem t99_82 : z_ft 99 82 = some (.aload_n 0, 1, none, [], 0, 0, 0, 0) := z_ftd (by decide +kernel)
theorem t99_83 : z_ft 99 83 = some (.getfield 15, 3, none, [], 10, 1, 4, 0) := z_ftd (by decide +kernel)
theorem t99_86 : z_ft 99 86 = some (.aload_n 0, 1, none, [], 0, 0, 0, 0) := z_ftd (by decide +kernel)
theorem t99_87 : z_ft 99 87 = some (.getfield 22, 3, none, [], 10, 3, 6, 0) := z_ftd (by decide +kernel)
theorem t99_90 : z_ft 99 90 = some (.iaload, 1, none, [], 0, 0, 0, 0) := z_ftd (by decide +kernel)
theorem t99_91 : z_ft 99 91 = some (.iadd, 1, none, [], 0, 0, 0, 0) := z_ftd (by decide +kernel)
theorem t99_92 : z_ft 99 92 = some (.iload_n 1, 1, none, [], 0, 0, 0, 0) := z_ftd (by decide +kernel)
theorem t99_93 : z_ft 99 93 = some (.isub, 1, none, [], 0, 0, 0, 0) := z_ftd (by decide +kernel)
theorem t99_94 : z_ft 99 94 = some (.iload_n 3, 1, none, [], 0, 0, 0, 0) := z_ftd (by decide +kernel)
theorem t99_95 : z_ft 99 95 = some (.iadd, 1, none, [], 0, 0, 0, 0) := z_ftd (by decide +kernel)
theorem t99_96 : z_ft 99 96 = some (.putfield 31, 3, none, [], 10, 6, 9, 0) := z_ftd (by decide +kernel)
theorem t99_99 : z_ft 99 99 = some (.aload_n 0, 1, none, [], 0, 0, 0, 0) := z_ftd (by decide +kernel)
theorem t99_100 : z_ft 99 100 = some (.dup, 1, none, [], 0, 0, 0, 0) := z_ftd (by decide +kernel)
theorem t99_101 : z_ft 99 101 = some (.getfield 22, 3, none, [], 10, 3, 6, 0) := z_ftd (by decide +kernel)
theorem t99_104 : z_ft 99 104 = some (.iconst 1, 1, none, [], 0, 0, 0, 0) := z_ftd (by decide +kernel)
theorem t99_105 : z_ft 99 105 = some (.iadd, 1, none, [], 0, 0, 0, 0) := z_ftd (by decide +kernel)
theorem t99_106 : z_ft 99 106 = some (.putfield 22, 3, none, [], 10, 3, 6, 0) := z_ftd (by decide +kernel)
theorem t99_109 : z_ft 99 109 = some (.goto (-100), 3, none, [], 9, 0, 0, 0) := z_ftd (by decide +kernel)
theorem t99_112 : z_ft 99 112 = some (.return_, 1, (some []), [], 0, 0, 0, 0) := z_ftd (by decide +kernel)
noncomputable def b99_9 (d : Nat) (y1 : Int32) (y2 : Int32) (y3 : Int32) (y4 : Int32) (y5 : Int32) (S : z_S) : Option z_S := zk kV z_X0 d 99 9 [.ref 19, .int y1, .int y2, .int y3, .int y4, .int y5] [] S
theorem b99_9_eq (d : Nat) (y1 : Int32) (y2 : Int32) (y3 : Int32) (y4 : Int32) (y5 : Int32) (S : z_S) (hW : z_W S)  : b99_9 d y1 y2 y3 y4 y5 S = (if (gI S 19 2) ≤ (gI S 19 3) then some S else (if z_in (gI S 19 3) (z_Ln (gP S 19 1)) then (if (gI S (gP S 19 1) ((gI S 19 3)).toNatClampNeg) < y1 then some S else (if z_in (gI S 19 3) (z_Ln (gP S 19 1)) then (if y2 < (gI S (gP S 19 1) ((gI S 19 3)).toNatClampNeg) then some S else (if ¬ ((gI S 19 3) - (gI S 19 5)) = y4 then (if z_in (gI S 19 3) (z_Ln (gP S 19 1)) then b99_9 d y1 y2 y3 y4 y5 (sI (sI S 19 6 (((((gI S 19 6) * y5) + (gI S (gP S 19 1) ((gI S 19 3)).toNatClampNeg)) - y1) + y3)) 19 3 ((gI (sI S 19 6 (((((gI S 19 6) * y5) + (gI S (gP S 19 1) ((gI S 19 3)).toNatClampNeg)) - y1) + y3)) 19 3) + (1 : Int32))) else none) else some (sI (sI S 19 4 (4 : Int32)) 19 8 (gI (sI S 19 4 (4 : Int32)) 19 3)))) else none)) else none)) := by
  unfold b99_9
  refine (k_aload_n t99_9 rfl rfl).trans ?_
  refine (k_getI t99_10 rfl hW zK_19 (by decide) (by decide)).trans ?_
  refine (k_aload_n t99_13 rfl rfl).trans ?_
  refine (k_getI t99_14 rfl hW zK_19 (by decide) (by decide)).trans ?_
  refine (k_icmp_ge t99_17 rfl).trans (z_ite (fun g1 => ?_) (fun g1 => ?_))
  · refine (zk_mk (ls' := [z_j, z_j, z_j, z_j, z_j, z_j]) t99_112 rfl).trans ?_
    exact k_return t99_112 rfl (by decide)
  · refine (k_aload_n t99_20 rfl rfl).trans ?_
    refine (k_getR t99_21 rfl hW zK_19 (by decide) (by decide) (zM_19_1 hW).1).trans ?_
    refine (k_aload_n t99_24 rfl rfl).trans ?_
    refine (k_getI t99_25 rfl hW zK_19 (by decide) (by decide)).trans ?_
    refine (k_iald t99_28 rfl hW (zM_19_1 hW).2 rfl).trans (z_ite (fun g2 => ?_) (fun _ => rfl))
    refine (k_iload_n t99_29 rfl rfl).trans ?_
    refine (k_icmp_lt t99_30 rfl).trans (z_ite (fun g3 => ?_) (fun g3 => ?_))
    · refine (zk_mk (ls' := [z_j, z_j, z_j, z_j, z_j, z_j]) t99_112 rfl).trans ?_
      exact k_return t99_112 rfl (by decide)
    · refine (k_aload_n t99_33 rfl rfl).trans ?_
      refine (k_getR t99_34 rfl hW zK_19 (by decide) (by decide) (zM_19_1 hW).1).trans ?_
      refine (k_aload_n t99_37 rfl rfl).trans ?_
      refine (k_getI t99_38 rfl hW zK_19 (by decide) (by decide)).trans ?_
      refine (k_iald t99_41 rfl hW (zM_19_1 hW).2 rfl).trans (z_ite (fun g4 => ?_) (fun _ => rfl))
      refine (k_iload_n t99_42 rfl rfl).trans ?_
      refine (k_icmp_gt t99_43 rfl).trans (z_ite (fun g5 => ?_) (fun g5 => ?_))
      · refine (zk_mk (ls' := [z_j, z_j, z_j, z_j, z_j, z_j]) t99_112 rfl).trans ?_
        exact k_return t99_112 rfl (by decide)
      · refine (k_aload_n t99_46 rfl rfl).trans ?_
        refine (k_getI t99_47 rfl hW zK_19 (by decide) (by decide)).trans ?_
        refine (k_aload_n t99_50 rfl rfl).trans ?_
        refine (k_getI t99_51 rfl hW zK_19 (by decide) (by decide)).trans ?_
        refine (k_isub t99_54 rfl).trans ?_
        refine (k_iload t99_55 rfl rfl).trans ?_
        refine (k_icmp_ne t99_57 rfl).trans (z_ite (fun g6 => ?_) (fun g6 => ?_))
        · refine (k_aload_n t99_74 rfl rfl).trans ?_
          refine (k_aload_n t99_75 rfl rfl).trans ?_
          refine (k_getI t99_76 rfl hW zK_19 (by decide) (by decide)).trans ?_
          refine (k_iload t99_79 rfl rfl).trans ?_
          refine (k_imul t99_81 rfl).trans ?_
          refine (k_aload_n t99_82 rfl rfl).trans ?_
          refine (k_getR t99_83 rfl hW zK_19 (by decide) (by decide) (zM_19_1 hW).1).trans ?_
          refine (k_aload_n t99_86 rfl rfl).trans ?_
          refine (k_getI t99_87 rfl hW zK_19 (by decide) (by decide)).trans ?_
          refine (k_iald t99_90 rfl hW (zM_19_1 hW).2 rfl).trans (z_ite (fun g7 => ?_) (fun _ => rfl))
          refine (k_iadd t99_91 rfl).trans ?_
          refine (k_iload_n t99_92 rfl rfl).trans ?_
          refine (k_isub t99_93 rfl).trans ?_
          refine (k_iload_n t99_94 rfl rfl).trans ?_
          refine (k_iadd t99_95 rfl).trans ?_
          refine (k_putI t99_96 rfl hW zK_19 (by decide) (by decide) (by decide)).trans ?_
          refine (k_aload_n t99_99 rfl rfl).trans ?_
          refine (k_dupR t99_100 rfl).trans ?_
          refine (k_getI t99_101 rfl hW.sI zK_19 (by decide) (by decide)).trans ?_
          refine (k_iconst t99_104 rfl zci_1).trans ?_
          refine (k_iadd t99_105 rfl).trans ?_
          refine (k_putI t99_106 rfl hW.sI zK_19 (by decide) (by decide) (by decide)).trans ?_
          refine (k_goto t99_109 rfl).trans ?_
          exact (zk_mk (ls' := [.ref 19, .int y1, .int y2, .int y3, .int y4, .int y5]) t99_9 rfl)
        · refine (k_aload_n t99_60 rfl rfl).trans ?_
          refine (k_iconst t99_61 rfl zci_4).trans ?_
          refine (k_putI t99_62 rfl hW zK_19 (by decide) (by decide) (by decide)).trans ?_
          refine (k_aload_n t99_65 rfl rfl).trans ?_
          refine (k_aload_n t99_66 rfl rfl).trans ?_
          refine (k_getI t99_67 rfl hW.sI zK_19 (by decide) (by decide)).trans ?_
          refine (k_putI t99_70 rfl hW.sI zK_19 (by decide) (by decide) (by decide)).trans ?_
          exact k_return t99_73 rfl (by decide)
-- X10_readRun
theorem e99 (d : Nat) (x1 : Int32) (x2 : Int32) (x3 : Int32) (x4 : Int32) (S : z_S) (hW : z_W S)  : fV (d + 1) 99 [.ref 19, .int x1, .int x2, .int x3, .int x4] S = b99_9 d x1 x2 x3 x4 (((x2 - x1) + (1 : Int32)) + x3) S := by
  refine (fV_en (Nat.le_of_ble_eq_true rfl) rfl).trans ?_
  refine (k_iload_n t99_0 rfl rfl).trans ?_
  refine (k_iload_n t99_1 rfl rfl).trans ?_
  refine (k_isub t99_2 rfl).trans ?_
  refine (k_iconst t99_3 rfl zci_1).trans ?_
  refine (k_iadd t99_4 rfl).trans ?_
  refine (k_iload_n t99_5 rfl rfl).trans ?_
  refine (k_iadd t99_6 rfl).trans ?_
  refine (k_istore (ls' := [.ref 19, .int x1, .int x2, .int x3, .int x4, .int (((x2 - x1) + (1 : Int32)) + x3)]) t99_7 rfl rfl).trans ?_
  exact (zk_mk (ls' := [.ref 19, .int x1, .int x2, .int x3, .int x4, .int (((x2 - x1) + (1 : Int32)) + x3)]) t99_9 rfl)
theorem t100_0 : z_ft 100 0 = some (.iconst 0, 1, none, [], 0, 0, 0, 0) := z_ftd (by decide +kernel)
theorem t100_1 : z_ft 100 1 = some (.istore_n 2, 1, none, [], 0, 0, 0, 0) := z_ftd (by decide +kernel)
theorem t100_2 : z_ft 100 2 = some (.iload_n 2, 1, (some [0, 1, 2]), [], 0, 0, 0, 0) := z_ftd (by decide +kernel)
theorem t100_3 : z_ft 100 3 = some (.bipush 24, 2, none, [], 0, 0, 0, 0) := z_ftd (by decide +kernel)
theorem t100_5 : z_ft 100 5 = some (.if_icmp .ge 21, 3, none, [], 26, 0, 0, 0) := z_ftd (by decide +kernel)
theorem t100_8 : z_ft 100 8 = some (.aload_n 0, 1, none, [], 0, 0, 0, 0) := z_ftd (by decide +kernel)
theorem t100_9 : z_ft 100 9 = some (.getfield 11, 3, none, [], 10, 0, 3, 0) := z_ftd (by decide +kernel)
theorem t100_12 : z_ft 100 12 = some (.iload_n 2, 1, none, [], 0, 0, 0, 0) := z_ftd (by decide +kernel)
theorem t100_13 : z_ft 100 13 = some (.iaload, 1, none, [], 0, 0, 0, 0) := z_ftd (by decide +kernel)
theorem t100_14 : z_ft 100 14 = some (.iload_n 1, 1, none, [], 0, 0, 0, 0) := z_ftd (by decide +kernel)
theorem t100_15 : z_ft 100 15 = some (.if_icmp .ne 5, 3, none, [], 20, 0, 0, 0) := z_ftd (by decide +kernel)
theorem t100_18 : z_ft 100 18 = some (.iload_n 2, 1, none, [], 0, 0, 0, 0) := z_ftd (by decide +kernel)
theorem t100_19 : z_ft 100 19 = some (.ireturn, 1, none, [], 0, 0, 0, 0) := z_ftd (by decide +kernel)
theorem t100_20 : z_ft 100 20 = some (.iinc 2 1, 3, none, [], 0, 0, 0, 0) := z_ftd (by decide +kernel)
theorem t100_23 : z_ft 100 23 = some (.goto (-21), 3, none, [], 2, 0, 0, 0) := z_ftd (by decide +kernel)
theorem t100_26 : z_ft 100 26 = some (.iconst (-1), 1, none, [], 0, 0, 0, 0) := z_ftd (by decide +kernel)
theorem t100_27 : z_ft 100 27 = some (.ireturn, 1, none, [], 0, 0, 0, 0) := z_ftd (by decide +kernel)
noncomputable def b100_2 (d : Nat) (y1 : Int32) (y2 : Int32) (S : z_S) : Option (Int32 × z_S) := zk kI z_X0 d 100 2 [.ref 19, .int y1, .int y2] [] S
theorem b100_2_eq (d : Nat) (y1 : Int32) (y2 : Int32) (S : z_S) (hW : z_W S)  : b100_2 d y1 y2 S = (if (24 : Int32) ≤ y2 then some ((-1 : Int32), S) else (if z_in y2 24 then (if ¬ (gI S 20 (y2).toNatClampNeg) = y1 then b100_2 d y1 (y2 + (1 : Int32)) S else some (y2, S)) else none)) := by
  unfold b100_2
  refine (k_iload_n t100_2 rfl rfl).trans ?_
  refine (k_bipush t100_3 rfl zcb_24).trans ?_
  refine (k_icmp_ge t100_5 rfl).trans (z_ite (fun g1 => ?_) (fun g1 => ?_))
  · refine (k_iconst t100_26 rfl zci_m1).trans ?_
    exact k_ireturn t100_27 rfl (by decide)
  · refine (k_aload_n t100_8 rfl rfl).trans ?_
    refine (k_getR t100_9 rfl hW zK_19 (by decide) (by decide) (zF_19_0 hW)).trans ?_
    refine (k_iload_n t100_12 rfl rfl).trans ?_
    refine (k_iald t100_13 rfl hW zK_20 zL_20).trans (z_ite (fun g2 => ?_) (fun _ => rfl))
    refine (k_iload_n t100_14 rfl rfl).trans ?_
    refine (k_icmp_ne t100_15 rfl).trans (z_ite (fun g3 => ?_) (fun g3 => ?_))
    · refine (k_iinc (b := (y2 + (1 : Int32))) (ls' := [.ref 19, .int y1, .int (y2 + (1 : Int32))]) t100_20 rfl rfl (by rw [zci_1]) rfl).trans ?_
      refine (k_goto t100_23 rfl).trans ?_
      exact (zk_mk (ls' := [.ref 19, .int y1, .int (y2 + (1 : Int32))]) t100_2 rfl)
    · refine (k_iload_n t100_18 rfl rfl).trans ?_
      exact k_ireturn t100_19 rfl (by decide)
-- X10_ownWord
theorem e100 (d : Nat) (x1 : Int32) (S : z_S) (hW : z_W S)  : fI (d + 1) 100 [.ref 19, .int x1] S = b100_2 d x1 (0 : Int32) S := by
  refine (fI_en (Nat.le_of_ble_eq_true rfl) rfl).trans ?_
  refine (k_iconst t100_0 rfl zci_0).trans ?_
  refine (k_istore_n (ls' := [.ref 19, .int x1, .int (0 : Int32)]) t100_1 rfl rfl).trans ?_
  exact (zk_mk (ls' := [.ref 19, .int x1, .int (0 : Int32)]) t100_2 rfl)
theorem t101_0 : z_ft 101 0 = some (.iload_n 0, 1, none, [], 0, 0, 0, 0) := z_ftd (by decide +kernel)
theorem t101_1 : z_ft 101 1 = some (.bipush 97, 2, none, [], 0, 0, 0, 0) := z_ftd (by decide +kernel)
theorem t101_3 : z_ft 101 3 = some (.if_icmp .lt 13, 3, none, [], 16, 0, 0, 0) := z_ftd (by decide +kernel)
theorem t101_6 : z_ft 101 6 = some (.iload_n 0, 1, none, [], 0, 0, 0, 0) := z_ftd (by decide +kernel)
theorem t101_7 : z_ft 101 7 = some (.bipush 122, 2, none, [], 0, 0, 0, 0) := z_ftd (by decide +kernel)
theorem t101_9 : z_ft 101 9 = some (.if_icmp .gt 7, 3, none, [], 16, 0, 0, 0) := z_ftd (by decide +kernel)
theorem t101_12 : z_ft 101 12 = some (.iconst 1, 1, none, [], 0, 0, 0, 0) := z_ftd (by decide +kernel)
theorem t101_13 : z_ft 101 13 = some (.goto 4, 3, none, [], 17, 0, 0, 0) := z_ftd (by decide +kernel)
theorem t101_16 : z_ft 101 16 = some (.iconst 0, 1, (some []), [], 0, 0, 0, 0) := z_ftd (by decide +kernel)
theorem t101_17 : z_ft 101 17 = some (.ireturn, 1, (some []), [], 0, 0, 0, 0) := z_ftd (by decide +kernel)
noncomputable def b101_16 (d : Nat)  (S : z_S) : Option (Int32 × z_S) := zk kI z_X0 d 101 16 [z_j] [] S
theorem b101_16_eq (d : Nat)  (S : z_S) (hW : z_W S)  : b101_16 d  S = some ((0 : Int32), S) := by
  unfold b101_16
  refine (k_iconst t101_16 rfl zci_0).trans ?_
  refine (zk_mk (ls' := [z_j]) t101_17 rfl).trans ?_
  exact k_zretC t101_17 rfl (by decide) (by decide)
-- X10_isLetter
theorem e101 (d : Nat) (x1 : Int32) (S : z_S) (hW : z_W S)  : fI (d + 1) 101 [.int x1] S = (if x1 < (97 : Int32) then b101_16 d S else (if (122 : Int32) < x1 then b101_16 d S else some ((1 : Int32), S))) := by
  refine (fI_en (Nat.le_of_ble_eq_true rfl) rfl).trans ?_
  refine (k_iload_n t101_0 rfl rfl).trans ?_
  refine (k_bipush t101_1 rfl zcb_97).trans ?_
  refine (k_icmp_lt t101_3 rfl).trans (z_ite (fun g1 => ?_) (fun g1 => ?_))
  · exact (zk_mk (ls' := [z_j]) t101_16 rfl)
  · refine (k_iload_n t101_6 rfl rfl).trans ?_
    refine (k_bipush t101_7 rfl zcb_122).trans ?_
    refine (k_icmp_gt t101_9 rfl).trans (z_ite (fun g2 => ?_) (fun g2 => ?_))
    · exact (zk_mk (ls' := [z_j]) t101_16 rfl)
    · refine (k_iconst t101_12 rfl zci_1).trans ?_
      refine (k_goto t101_13 rfl).trans ?_
      refine (zk_mk (ls' := [z_j]) t101_17 rfl).trans ?_
      exact k_zretC t101_17 rfl (by decide) (by decide)
theorem t102_0 : z_ft 102 0 = some (.iload_n 0, 1, none, [], 0, 0, 0, 0) := z_ftd (by decide +kernel)
theorem t102_1 : z_ft 102 1 = some (.bipush 48, 2, none, [], 0, 0, 0, 0) := z_ftd (by decide +kernel)
theorem t102_3 : z_ft 102 3 = some (.if_icmp .lt 13, 3, none, [], 16, 0, 0, 0) := z_ftd (by decide +kernel)
theorem t102_6 : z_ft 102 6 = some (.iload_n 0, 1, none, [], 0, 0, 0, 0) := z_ftd (by decide +kernel)
theorem t102_7 : z_ft 102 7 = some (.bipush 57, 2, none, [], 0, 0, 0, 0) := z_ftd (by decide +kernel)
theorem t102_9 : z_ft 102 9 = some (.if_icmp .gt 7, 3, none, [], 16, 0, 0, 0) := z_ftd (by decide +kernel)
theorem t102_12 : z_ft 102 12 = some (.iconst 1, 1, none, [], 0, 0, 0, 0) := z_ftd (by decide +kernel)
theorem t102_13 : z_ft 102 13 = some (.goto 4, 3, none, [], 17, 0, 0, 0) := z_ftd (by decide +kernel)
theorem t102_16 : z_ft 102 16 = some (.iconst 0, 1, (some []), [], 0, 0, 0, 0) := z_ftd (by decide +kernel)
theorem t102_17 : z_ft 102 17 = some (.ireturn, 1, (some []), [], 0, 0, 0, 0) := z_ftd (by decide +kernel)
noncomputable def b102_16 (d : Nat)  (S : z_S) : Option (Int32 × z_S) := zk kI z_X0 d 102 16 [z_j] [] S
theorem b102_16_eq (d : Nat)  (S : z_S) (hW : z_W S)  : b102_16 d  S = some ((0 : Int32), S) := by
  unfold b102_16
  refine (k_iconst t102_16 rfl zci_0).trans ?_
  refine (zk_mk (ls' := [z_j]) t102_17 rfl).trans ?_
  exact k_zretC t102_17 rfl (by decide) (by decide)
-- X10_isDigit
theorem e102 (d : Nat) (x1 : Int32) (S : z_S) (hW : z_W S)  : fI (d + 1) 102 [.int x1] S = (if x1 < (48 : Int32) then b102_16 d S else (if (57 : Int32) < x1 then b102_16 d S else some ((1 : Int32), S))) := by
  refine (fI_en (Nat.le_of_ble_eq_true rfl) rfl).trans ?_
  refine (k_iload_n t102_0 rfl rfl).trans ?_
  refine (k_bipush t102_1 rfl zcb_48).trans ?_
  refine (k_icmp_lt t102_3 rfl).trans (z_ite (fun g1 => ?_) (fun g1 => ?_))
  · exact (zk_mk (ls' := [z_j]) t102_16 rfl)
  · refine (k_iload_n t102_6 rfl rfl).trans ?_
    refine (k_bipush t102_7 rfl zcb_57).trans ?_
    refine (k_icmp_gt t102_9 rfl).trans (z_ite (fun g2 => ?_) (fun g2 => ?_))
    · exact (zk_mk (ls' := [z_j]) t102_16 rfl)
    · refine (k_iconst t102_12 rfl zci_1).trans ?_
      refine (k_goto t102_13 rfl).trans ?_
      refine (zk_mk (ls' := [z_j]) t102_17 rfl).trans ?_
      exact k_zretC t102_17 rfl (by decide) (by decide)
theorem t103_0 : z_ft 103 0 = some (.aload_n 0, 1, none, [], 0, 0, 0, 0) := z_ftd (by decide +kernel)
theorem t103_1 : z_ft 103 1 = some (.getfield 25, 3, none, [], 10, 4, 7, 0) := z_ftd (by decide +kernel)
theorem t103_4 : z_ft 103 4 = some (.iconst 1, 1, none, [], 0, 0, 0, 0) := z_ftd (by decide +kernel)
theorem t103_5 : z_ft 103 5 = some (.if_icmp .ne 15, 3, none, [], 20, 0, 0, 0) := z_ftd (by decide +kernel)
theorem t103_8 : z_ft 103 8 = some (.aload_n 0, 1, none, [], 0, 0, 0, 0) := z_ftd (by decide +kernel)
theorem t103_9 : z_ft 103 9 = some (.getfield 34, 3, none, [], 10, 7, 10, 0) := z_ftd (by decide +kernel)
theorem t103_12 : z_ft 103 12 = some (.iload_n 1, 1, none, [], 0, 0, 0, 0) := z_ftd (by decide +kernel)
theorem t103_13 : z_ft 103 13 = some (.if_icmp .ne 7, 3, none, [], 20, 0, 0, 0) := z_ftd (by decide +kernel)
theorem t103_16 : z_ft 103 16 = some (.iconst 1, 1, none, [], 0, 0, 0, 0) := z_ftd (by decide +kernel)
theorem t103_17 : z_ft 103 17 = some (.goto 4, 3, none, [], 21, 0, 0, 0) := z_ftd (by decide +kernel)
theorem t103_20 : z_ft 103 20 = some (.iconst 0, 1, (some []), [], 0, 0, 0, 0) := z_ftd (by decide +kernel)
theorem t103_21 : z_ft 103 21 = some (.ireturn, 1, (some []), [], 0, 0, 0, 0) := z_ftd (by decide +kernel)
noncomputable def b103_20 (d : Nat)  (S : z_S) : Option (Int32 × z_S) := zk kI z_X0 d 103 20 [z_j, z_j] [] S
theorem b103_20_eq (d : Nat)  (S : z_S) (hW : z_W S)  : b103_20 d  S = some ((0 : Int32), S) := by
  unfold b103_20
  refine (k_iconst t103_20 rfl zci_0).trans ?_
  refine (zk_mk (ls' := [z_j, z_j]) t103_21 rfl).trans ?_
  exact k_zretC t103_21 rfl (by decide) (by decide)
-- X10_isOwn
theorem e103 (d : Nat) (x1 : Int32) (S : z_S) (hW : z_W S)  : fI (d + 1) 103 [.ref 19, .int x1] S = (if ¬ (gI S 19 4) = (1 : Int32) then b103_20 d S else (if ¬ (gI S 19 7) = x1 then b103_20 d S else some ((1 : Int32), S))) := by
  refine (fI_en (Nat.le_of_ble_eq_true rfl) rfl).trans ?_
  refine (k_aload_n t103_0 rfl rfl).trans ?_
  refine (k_getI t103_1 rfl hW zK_19 (by decide) (by decide)).trans ?_
  refine (k_iconst t103_4 rfl zci_1).trans ?_
  refine (k_icmp_ne t103_5 rfl).trans (z_ite (fun g1 => ?_) (fun g1 => ?_))
  · exact (zk_mk (ls' := [z_j, z_j]) t103_20 rfl)
  · refine (k_aload_n t103_8 rfl rfl).trans ?_
    refine (k_getI t103_9 rfl hW zK_19 (by decide) (by decide)).trans ?_
    refine (k_iload_n t103_12 rfl rfl).trans ?_
    refine (k_icmp_ne t103_13 rfl).trans (z_ite (fun g2 => ?_) (fun g2 => ?_))
    · exact (zk_mk (ls' := [z_j, z_j]) t103_20 rfl)
    · refine (k_iconst t103_16 rfl zci_1).trans ?_
      refine (k_goto t103_17 rfl).trans ?_
      refine (zk_mk (ls' := [z_j, z_j]) t103_21 rfl).trans ?_
      exact k_zretC t103_21 rfl (by decide) (by decide)
theorem t104_0 : z_ft 104 0 = some (.aload_n 0, 1, none, [], 0, 0, 0, 0) := z_ftd (by decide +kernel)
theorem t104_1 : z_ft 104 1 = some (.getfield 25, 3, none, [], 10, 4, 7, 0) := z_ftd (by decide +kernel)
theorem t104_4 : z_ft 104 4 = some (.iconst 3, 1, none, [], 0, 0, 0, 0) := z_ftd (by decide +kernel)
theorem t104_5 : z_ft 104 5 = some (.if_icmp .ne 15, 3, none, [], 20, 0, 0, 0) := z_ftd (by decide +kernel)
theorem t104_8 : z_ft 104 8 = some (.aload_n 0, 1, none, [], 0, 0, 0, 0) := z_ftd (by decide +kernel)
theorem t104_9 : z_ft 104 9 = some (.getfield 31, 3, none, [], 10, 6, 9, 0) := z_ftd (by decide +kernel)
theorem t104_12 : z_ft 104 12 = some (.iload_n 1, 1, none, [], 0, 0, 0, 0) := z_ftd (by decide +kernel)
theorem t104_13 : z_ft 104 13 = some (.if_icmp .ne 7, 3, none, [], 20, 0, 0, 0) := z_ftd (by decide +kernel)
theorem t104_16 : z_ft 104 16 = some (.iconst 1, 1, none, [], 0, 0, 0, 0) := z_ftd (by decide +kernel)
theorem t104_17 : z_ft 104 17 = some (.goto 4, 3, none, [], 21, 0, 0, 0) := z_ftd (by decide +kernel)
theorem t104_20 : z_ft 104 20 = some (.iconst 0, 1, (some []), [], 0, 0, 0, 0) := z_ftd (by decide +kernel)
theorem t104_21 : z_ft 104 21 = some (.ireturn, 1, (some []), [], 0, 0, 0, 0) := z_ftd (by decide +kernel)
noncomputable def b104_20 (d : Nat)  (S : z_S) : Option (Int32 × z_S) := zk kI z_X0 d 104 20 [z_j, z_j] [] S
theorem b104_20_eq (d : Nat)  (S : z_S) (hW : z_W S)  : b104_20 d  S = some ((0 : Int32), S) := by
  unfold b104_20
  refine (k_iconst t104_20 rfl zci_0).trans ?_
  refine (zk_mk (ls' := [z_j, z_j]) t104_21 rfl).trans ?_
  exact k_zretC t104_21 rfl (by decide) (by decide)
-- X10_isSign
theorem e104 (d : Nat) (x1 : Int32) (S : z_S) (hW : z_W S)  : fI (d + 1) 104 [.ref 19, .int x1] S = (if ¬ (gI S 19 4) = (3 : Int32) then b104_20 d S else (if ¬ (gI S 19 6) = x1 then b104_20 d S else some ((1 : Int32), S))) := by
  refine (fI_en (Nat.le_of_ble_eq_true rfl) rfl).trans ?_
  refine (k_aload_n t104_0 rfl rfl).trans ?_
  refine (k_getI t104_1 rfl hW zK_19 (by decide) (by decide)).trans ?_
  refine (k_iconst t104_4 rfl zci_3).trans ?_
  refine (k_icmp_ne t104_5 rfl).trans (z_ite (fun g1 => ?_) (fun g1 => ?_))
  · exact (zk_mk (ls' := [z_j, z_j]) t104_20 rfl)
  · refine (k_aload_n t104_8 rfl rfl).trans ?_
    refine (k_getI t104_9 rfl hW zK_19 (by decide) (by decide)).trans ?_
    refine (k_iload_n t104_12 rfl rfl).trans ?_
    refine (k_icmp_ne t104_13 rfl).trans (z_ite (fun g2 => ?_) (fun g2 => ?_))
    · exact (zk_mk (ls' := [z_j, z_j]) t104_20 rfl)
    · refine (k_iconst t104_16 rfl zci_1).trans ?_
      refine (k_goto t104_17 rfl).trans ?_
      refine (zk_mk (ls' := [z_j, z_j]) t104_21 rfl).trans ?_
      exact k_zretC t104_21 rfl (by decide) (by decide)
