/-! EQUATIONS of House (written by wip/whole/gen/eqs.py). -/
theorem t32_0 : z_ft 32 0 = some (.aload_n 0, 1, none, [], 0, 0, 0, 0) := z_ftd (by decide +kernel)
theorem t32_1 : z_ft 32 1 = some (.aload_n 1, 1, none, [], 0, 0, 0, 0) := z_ftd (by decide +kernel)
theorem t32_2 : z_ft 32 2 = some (.iload_n 2, 1, none, [], 0, 0, 0, 0) := z_ftd (by decide +kernel)
theorem t32_3 : z_ft 32 3 = some (.invokevirtual 29, 3, none, [], 33, 0, 18, 0) := z_ftd (by decide +kernel)
theorem t32_6 : z_ft 32 6 = some (.ifCond .eq 5, 3, none, [], 11, 0, 0, 0) := z_ftd (by decide +kernel)
theorem t32_9 : z_ft 32 9 = some (.iconst 0, 1, none, [], 0, 0, 0, 0) := z_ftd (by decide +kernel)
theorem t32_10 : z_ft 32 10 = some (.ireturn, 1, none, [], 0, 0, 0, 0) := z_ftd (by decide +kernel)
theorem t32_11 : z_ft 32 11 = some (.iconst 0, 1, none, [], 0, 0, 0, 0) := z_ftd (by decide +kernel)
theorem t32_12 : z_ft 32 12 = some (.istore 4, 2, none, [], 0, 0, 0, 0) := z_ftd (by decide +kernel)
theorem t32_14 : z_ft 32 14 = some (.iload_n 2, 1, none, [], 0, 0, 0, 0) := z_ftd (by decide +kernel)
theorem t32_15 : z_ft 32 15 = some (.istore 5, 2, none, [], 0, 0, 0, 0) := z_ftd (by decide +kernel)
theorem t32_17 : z_ft 32 17 = some (.aload_n 0, 1, none, [], 0, 0, 0, 0) := z_ftd (by decide +kernel)
theorem t32_18 : z_ft 32 18 = some (.getfield 25, 3, none, [], 2, 0, 7, 0) := z_ftd (by decide +kernel)
theorem t32_21 : z_ft 32 21 = some (.getfield 33, 3, none, [], 6, 10, 3, 0) := z_ftd (by decide +kernel)
theorem t32_24 : z_ft 32 24 = some (.iload_n 2, 1, none, [], 0, 0, 0, 0) := z_ftd (by decide +kernel)
theorem t32_25 : z_ft 32 25 = some (.iaload, 1, none, [], 0, 0, 0, 0) := z_ftd (by decide +kernel)
theorem t32_26 : z_ft 32 26 = some (.istore 6, 2, none, [], 0, 0, 0, 0) := z_ftd (by decide +kernel)
theorem t32_28 : z_ft 32 28 = some (.aload_n 0, 1, none, [], 0, 0, 0, 0) := z_ftd (by decide +kernel)
theorem t32_29 : z_ft 32 29 = some (.aload_n 1, 1, none, [], 0, 0, 0, 0) := z_ftd (by decide +kernel)
theorem t32_30 : z_ft 32 30 = some (.iload 6, 2, none, [], 0, 0, 0, 0) := z_ftd (by decide +kernel)
theorem t32_32 : z_ft 32 32 = some (.iload 4, 2, none, [], 0, 0, 0, 0) := z_ftd (by decide +kernel)
theorem t32_34 : z_ft 32 34 = some (.iload_n 3, 1, none, [], 0, 0, 0, 0) := z_ftd (by decide +kernel)
theorem t32_35 : z_ft 32 35 = some (.invokevirtual 38, 3, none, [], 34, 0, 21, 0) := z_ftd (by decide +kernel)
theorem t32_38 : z_ft 32 38 = some (.ifCond .ne 38, 3, none, [], 76, 0, 0, 0) := z_ftd (by decide +kernel)
theorem t32_41 : z_ft 32 41 = some (.aload_n 0, 1, none, [], 0, 0, 0, 0) := z_ftd (by decide +kernel)
theorem t32_42 : z_ft 32 42 = some (.aload_n 1, 1, none, [], 0, 0, 0, 0) := z_ftd (by decide +kernel)
theorem t32_43 : z_ft 32 43 = some (.aload_n 0, 1, none, [], 0, 0, 0, 0) := z_ftd (by decide +kernel)
theorem t32_44 : z_ft 32 44 = some (.getfield 25, 3, none, [], 2, 0, 7, 0) := z_ftd (by decide +kernel)
theorem t32_47 : z_ft 32 47 = some (.getfield 42, 3, none, [], 6, 11, 4, 0) := z_ftd (by decide +kernel)
theorem t32_50 : z_ft 32 50 = some (.iload_n 2, 1, none, [], 0, 0, 0, 0) := z_ftd (by decide +kernel)
theorem t32_51 : z_ft 32 51 = some (.iaload, 1, none, [], 0, 0, 0, 0) := z_ftd (by decide +kernel)
theorem t32_52 : z_ft 32 52 = some (.iload 4, 2, none, [], 0, 0, 0, 0) := z_ftd (by decide +kernel)
theorem t32_54 : z_ft 32 54 = some (.iload_n 3, 1, none, [], 0, 0, 0, 0) := z_ftd (by decide +kernel)
theorem t32_55 : z_ft 32 55 = some (.invokevirtual 38, 3, none, [], 34, 0, 21, 0) := z_ftd (by decide +kernel)
theorem t32_58 : z_ft 32 58 = some (.ifCond .eq 15, 3, none, [], 73, 0, 0, 0) := z_ftd (by decide +kernel)
theorem t32_61 : z_ft 32 61 = some (.aload_n 0, 1, none, [], 0, 0, 0, 0) := z_ftd (by decide +kernel)
theorem t32_62 : z_ft 32 62 = some (.getfield 25, 3, none, [], 2, 0, 7, 0) := z_ftd (by decide +kernel)
theorem t32_65 : z_ft 32 65 = some (.getfield 42, 3, none, [], 6, 11, 4, 0) := z_ftd (by decide +kernel)
theorem t32_68 : z_ft 32 68 = some (.iload_n 2, 1, none, [], 0, 0, 0, 0) := z_ftd (by decide +kernel)
theorem t32_69 : z_ft 32 69 = some (.iaload, 1, none, [], 0, 0, 0, 0) := z_ftd (by decide +kernel)
theorem t32_70 : z_ft 32 70 = some (.goto 4, 3, none, [], 74, 0, 0, 0) := z_ftd (by decide +kernel)
theorem t32_73 : z_ft 32 73 = some (.iconst (-1), 1, none, [], 0, 0, 0, 0) := z_ftd (by decide +kernel)
theorem t32_74 : z_ft 32 74 = some (.istore 6, 2, (some [0, 1, 3, 4, 5]), [], 0, 0, 0, 0) := z_ftd (by decide +kernel)
theorem t32_76 : z_ft 32 76 = some (.iload 6, 2, (some [0, 1, 3, 4, 5, 6]), [], 0, 0, 0, 0) := z_ftd (by decide +kernel)
theorem t32_78 : z_ft 32 78 = some (.iconst (-1), 1, none, [], 0, 0, 0, 0) := z_ftd (by decide +kernel)
theorem t32_79 : z_ft 32 79 = some (.if_icmp .eq 115, 3, none, [], 194, 0, 0, 0) := z_ftd (by decide +kernel)
theorem t32_82 : z_ft 32 82 = some (.iload 4, 2, none, [], 0, 0, 0, 0) := z_ftd (by decide +kernel)
theorem t32_84 : z_ft 32 84 = some (.iload_n 3, 1, none, [], 0, 0, 0, 0) := z_ftd (by decide +kernel)
theorem t32_85 : z_ft 32 85 = some (.if_icmp .ge 109, 3, none, [], 194, 0, 0, 0) := z_ftd (by decide +kernel)
theorem t32_88 : z_ft 32 88 = some (.iload 4, 2, none, [], 0, 0, 0, 0) := z_ftd (by decide +kernel)
theorem t32_90 : z_ft 32 90 = some (.bipush 40, 2, none, [], 0, 0, 0, 0) := z_ftd (by decide +kernel)
theorem t32_92 : z_ft 32 92 = some (.if_icmp .ge 102, 3, none, [], 194, 0, 0, 0) := z_ftd (by decide +kernel)
theorem t32_95 : z_ft 32 95 = some (.aload_n 1, 1, none, [], 0, 0, 0, 0) := z_ftd (by decide +kernel)
theorem t32_96 : z_ft 32 96 = some (.getfield 45, 3, none, [], 8, 5, 15, 0) := z_ftd (by decide +kernel)
theorem t32_99 : z_ft 32 99 = some (.iload 6, 2, none, [], 0, 0, 0, 0) := z_ftd (by decide +kernel)
theorem t32_101 : z_ft 32 101 = some (.iaload, 1, none, [], 0, 0, 0, 0) := z_ftd (by decide +kernel)
theorem t32_102 : z_ft 32 102 = some (.istore 7, 2, none, [], 0, 0, 0, 0) := z_ftd (by decide +kernel)
theorem t32_104 : z_ft 32 104 = some (.aload_n 1, 1, none, [], 0, 0, 0, 0) := z_ftd (by decide +kernel)
theorem t32_105 : z_ft 32 105 = some (.iload 5, 2, none, [], 0, 0, 0, 0) := z_ftd (by decide +kernel)
theorem t32_107 : z_ft 32 107 = some (.iload 6, 2, none, [], 0, 0, 0, 0) := z_ftd (by decide +kernel)
theorem t32_109 : z_ft 32 109 = some (.invokevirtual 50, 3, none, [], 79, 0, 20, 0) := z_ftd (by decide +kernel)
theorem t32_112 : z_ft 32 112 = some (.aload_n 0, 1, none, [], 0, 0, 0, 0) := z_ftd (by decide +kernel)
theorem t32_113 : z_ft 32 113 = some (.getfield 18, 3, none, [], 2, 2, 9, 0) := z_ftd (by decide +kernel)
theorem t32_116 : z_ft 32 116 = some (.iload 4, 2, none, [], 0, 0, 0, 0) := z_ftd (by decide +kernel)
theorem t32_118 : z_ft 32 118 = some (.iload 7, 2, none, [], 0, 0, 0, 0) := z_ftd (by decide +kernel)
theorem t32_120 : z_ft 32 120 = some (.iastore, 1, none, [], 0, 0, 0, 0) := z_ftd (by decide +kernel)
theorem t32_121 : z_ft 32 121 = some (.aload_n 0, 1, none, [], 0, 0, 0, 0) := z_ftd (by decide +kernel)
theorem t32_122 : z_ft 32 122 = some (.getfield 22, 3, none, [], 2, 3, 10, 0) := z_ftd (by decide +kernel)
theorem t32_125 : z_ft 32 125 = some (.iload 4, 2, none, [], 0, 0, 0, 0) := z_ftd (by decide +kernel)
theorem t32_127 : z_ft 32 127 = some (.iload 6, 2, none, [], 0, 0, 0, 0) := z_ftd (by decide +kernel)
theorem t32_129 : z_ft 32 129 = some (.iastore, 1, none, [], 0, 0, 0, 0) := z_ftd (by decide +kernel)
theorem t32_130 : z_ft 32 130 = some (.iinc 4 1, 3, none, [], 0, 0, 0, 0) := z_ftd (by decide +kernel)
theorem t32_133 : z_ft 32 133 = some (.iload 7, 2, none, [], 0, 0, 0, 0) := z_ftd (by decide +kernel)
theorem t32_135 : z_ft 32 135 = some (.istore 5, 2, none, [], 0, 0, 0, 0) := z_ftd (by decide +kernel)
theorem t32_137 : z_ft 32 137 = some (.aload_n 0, 1, none, [], 0, 0, 0, 0) := z_ftd (by decide +kernel)
theorem t32_138 : z_ft 32 138 = some (.getfield 25, 3, none, [], 2, 0, 7, 0) := z_ftd (by decide +kernel)
theorem t32_141 : z_ft 32 141 = some (.iload 5, 2, none, [], 0, 0, 0, 0) := z_ftd (by decide +kernel)
theorem t32_143 : z_ft 32 143 = some (.iload 6, 2, none, [], 0, 0, 0, 0) := z_ftd (by decide +kernel)
theorem t32_145 : z_ft 32 145 = some (.invokevirtual 54, 3, none, [], 61, 0, 24, 0) := z_ftd (by decide +kernel)
theorem t32_148 : z_ft 32 148 = some (.istore 8, 2, none, [], 0, 0, 0, 0) := z_ftd (by decide +kernel)
theorem t32_150 : z_ft 32 150 = some (.aload_n 1, 1, none, [], 0, 0, 0, 0) := z_ftd (by decide +kernel)
theorem t32_151 : z_ft 32 151 = some (.iload 8, 2, none, [], 0, 0, 0, 0) := z_ftd (by decide +kernel)
theorem t32_153 : z_ft 32 153 = some (.invokevirtual 58, 3, none, [], 76, 0, 19, 0) := z_ftd (by decide +kernel)
theorem t32_156 : z_ft 32 156 = some (.ifCond .eq 14, 3, none, [], 170, 0, 0, 0) := z_ftd (by decide +kernel)
theorem t32_159 : z_ft 32 159 = some (.aload_n 1, 1, none, [], 0, 0, 0, 0) := z_ftd (by decide +kernel)
theorem t32_160 : z_ft 32 160 = some (.iload 5, 2, none, [], 0, 0, 0, 0) := z_ftd (by decide +kernel)
theorem t32_162 : z_ft 32 162 = some (.iload 8, 2, none, [], 0, 0, 0, 0) := z_ftd (by decide +kernel)
theorem t32_164 : z_ft 32 164 = some (.invokevirtual 50, 3, none, [], 79, 0, 20, 0) := z_ftd (by decide +kernel)
theorem t32_167 : z_ft 32 167 = some (.iload 4, 2, none, [], 0, 0, 0, 0) := z_ftd (by decide +kernel)
theorem t32_169 : z_ft 32 169 = some (.ireturn, 1, none, [], 0, 0, 0, 0) := z_ftd (by decide +kernel)
theorem t32_170 : z_ft 32 170 = some (.aload_n 0, 1, none, [], 0, 0, 0, 0) := z_ftd (by decide +kernel)
theorem t32_171 : z_ft 32 171 = some (.aload_n 1, 1, none, [], 0, 0, 0, 0) := z_ftd (by decide +kernel)
theorem t32_172 : z_ft 32 172 = some (.iload 8, 2, none, [], 0, 0, 0, 0) := z_ftd (by decide +kernel)
theorem t32_174 : z_ft 32 174 = some (.iload 4, 2, none, [], 0, 0, 0, 0) := z_ftd (by decide +kernel)
theorem t32_176 : z_ft 32 176 = some (.iload_n 3, 1, none, [], 0, 0, 0, 0) := z_ftd (by decide +kernel)
theorem t32_177 : z_ft 32 177 = some (.invokevirtual 38, 3, none, [], 34, 0, 21, 0) := z_ftd (by decide +kernel)
theorem t32_180 : z_ft 32 180 = some (.ifCond .eq 8, 3, none, [], 188, 0, 0, 0) := z_ftd (by decide +kernel)
theorem t32_183 : z_ft 32 183 = some (.iload 8, 2, none, [], 0, 0, 0, 0) := z_ftd (by decide +kernel)
theorem t32_185 : z_ft 32 185 = some (.goto 4, 3, none, [], 189, 0, 0, 0) := z_ftd (by decide +kernel)
theorem t32_188 : z_ft 32 188 = some (.iconst (-1), 1, none, [], 0, 0, 0, 0) := z_ftd (by decide +kernel)
theorem t32_189 : z_ft 32 189 = some (.istore 6, 2, (some [0, 1, 3, 4, 5]), [], 0, 0, 0, 0) := z_ftd (by decide +kernel)
theorem t32_191 : z_ft 32 191 = some (.goto (-115), 3, none, [], 76, 0, 0, 0) := z_ftd (by decide +kernel)
theorem t32_194 : z_ft 32 194 = some (.aload_n 1, 1, (some [0, 1, 4, 5]), [], 0, 0, 0, 0) := z_ftd (by decide +kernel)
theorem t32_195 : z_ft 32 195 = some (.iload 5, 2, none, [], 0, 0, 0, 0) := z_ftd (by decide +kernel)
theorem t32_197 : z_ft 32 197 = some (.aload_n 0, 1, none, [], 0, 0, 0, 0) := z_ftd (by decide +kernel)
theorem t32_198 : z_ft 32 198 = some (.getfield 25, 3, none, [], 2, 0, 7, 0) := z_ftd (by decide +kernel)
theorem t32_201 : z_ft 32 201 = some (.getfield 62, 3, none, [], 6, 2, 1, 0) := z_ftd (by decide +kernel)
theorem t32_204 : z_ft 32 204 = some (.invokevirtual 66, 3, none, [], 80, 0, 25, 0) := z_ftd (by decide +kernel)
theorem t32_207 : z_ft 32 207 = some (.iload 4, 2, none, [], 0, 0, 0, 0) := z_ftd (by decide +kernel)
theorem t32_209 : z_ft 32 209 = some (.ireturn, 1, none, [], 0, 0, 0, 0) := z_ftd (by decide +kernel)
noncomputable def b32_76 (d : Nat) (y1 : Nat) (y3 : Int32) (y4 : Int32) (y5 : Int32) (y6 : Int32) (S : z_S) : Option (Int32 × z_S) := zk kI z_X0 d 32 76 [.ref 22, .ref y1, z_j, .int y3, .int y4, .int y5, .int y6, z_j, z_j] [] S
noncomputable def b32_74 (d : Nat) (y1 : Nat) (y3 : Int32) (y4 : Int32) (y5 : Int32) (s0 : Int32) (S : z_S) : Option (Int32 × z_S) := zk kI z_X0 d 32 74 [.ref 22, .ref y1, z_j, .int y3, .int y4, .int y5, z_j, z_j, z_j] [.int s0] S
noncomputable def b32_194 (d : Nat) (y1 : Nat) (y4 : Int32) (y5 : Int32) (S : z_S) : Option (Int32 × z_S) := zk kI z_X0 d 32 194 [.ref 22, .ref y1, z_j, z_j, .int y4, .int y5, z_j, z_j, z_j] [] S
noncomputable def b32_189 (d : Nat) (y1 : Nat) (y3 : Int32) (y4 : Int32) (y5 : Int32) (s0 : Int32) (S : z_S) : Option (Int32 × z_S) := zk kI z_X0 d 32 189 [.ref 22, .ref y1, z_j, .int y3, .int y4, .int y5, z_j, z_j, z_j] [.int s0] S
theorem b32_76_eq (d : Nat) (y1 : Nat) (y3 : Int32) (y4 : Int32) (y5 : Int32) (y6 : Int32) (S : z_S) (hW : z_W S) (hy1 : z_K y1 = 8) : b32_76 d y1 y3 y4 y5 y6 S = (if y6 = (-1 : Int32) then b32_194 d y1 y4 y5 S else (if y3 ≤ y4 then b32_194 d y1 y4 y5 S else (if (40 : Int32) ≤ y4 then b32_194 d y1 y4 y5 S else (if z_in y6 16 then ((fV d 79 [.ref y1, .int y5, .int y6] S).bind fun S18 => (if z_in y4 40 then (if z_in y4 40 then (zb (fI d 61 [.ref (gP (sI (sI S18 25 (y4).toNatClampNeg (gI S (y1 + 1) (y6).toNatClampNeg)) 26 (y4).toNatClampNeg y6) 22 0), .int (gI S (y1 + 1) (y6).toNatClampNeg), .int y6] (sI (sI S18 25 (y4).toNatClampNeg (gI S (y1 + 1) (y6).toNatClampNeg)) 26 (y4).toNatClampNeg y6)) fun v21 S22 => (zb (fI d 76 [.ref y1, .int v21] S22) fun v23 S24 => (if v23 = (0 : Int32) then (zb (fI d 34 [.ref 22, .ref y1, .int v21, .int (y4 + (1 : Int32)), .int y3] S24) fun v26 S27 => (if v26 = (0 : Int32) then b32_189 d y1 y3 (y4 + (1 : Int32)) (gI S (y1 + 1) (y6).toNatClampNeg) (-1 : Int32) S27 else b32_189 d y1 y3 (y4 + (1 : Int32)) (gI S (y1 + 1) (y6).toNatClampNeg) v21 S27)) else ((fV d 79 [.ref y1, .int (gI S (y1 + 1) (y6).toNatClampNeg), .int v21] S24).bind fun S30 => some ((y4 + (1 : Int32)), S30))))) else none) else none)) else none)))) := by
  unfold b32_76
  refine (k_iload t32_76 rfl rfl).trans ?_
  refine (k_iconst t32_78 rfl zci_m1).trans ?_
  refine (k_icmp_eq t32_79 rfl).trans (z_ite (fun g13 => ?_) (fun g13 => ?_))
  · exact (zk_mk (ls' := [.ref 22, .ref y1, z_j, z_j, .int y4, .int y5, z_j, z_j, z_j]) t32_194 rfl)
  · refine (k_iload t32_82 rfl rfl).trans ?_
    refine (k_iload_n t32_84 rfl rfl).trans ?_
    refine (k_icmp_ge t32_85 rfl).trans (z_ite (fun g14 => ?_) (fun g14 => ?_))
    · exact (zk_mk (ls' := [.ref 22, .ref y1, z_j, z_j, .int y4, .int y5, z_j, z_j, z_j]) t32_194 rfl)
    · refine (k_iload t32_88 rfl rfl).trans ?_
      refine (k_bipush t32_90 rfl zcb_40).trans ?_
      refine (k_icmp_ge t32_92 rfl).trans (z_ite (fun g15 => ?_) (fun g15 => ?_))
      · exact (zk_mk (ls' := [.ref 22, .ref y1, z_j, z_j, .int y4, .int y5, z_j, z_j, z_j]) t32_194 rfl)
      · refine (k_aload_n t32_95 rfl rfl).trans ?_
        refine (k_getR t32_96 rfl hW hy1 (by decide) (by decide) (zO_8_5 hW hy1)).trans ?_
        refine (k_iload t32_99 rfl rfl).trans ?_
        refine (k_iald t32_101 rfl hW (zOK_8_5 hy1) (zOL_8_5 hy1)).trans (z_ite (fun g16 => ?_) (fun _ => rfl))
        refine (k_istore (ls' := [.ref 22, .ref y1, z_j, .int y3, .int y4, .int y5, .int y6, .int (gI S (y1 + 1) (y6).toNatClampNeg), z_j]) t32_102 rfl rfl).trans ?_
        refine (k_aload_n t32_104 rfl rfl).trans ?_
        refine (k_iload t32_105 rfl rfl).trans ?_
        refine (k_iload t32_107 rfl rfl).trans ?_
        refine k_callV (as := [.ref y1, .int y5, .int y6]) (rest := []) t32_109 rfl rfl (by decide) rfl rfl (Nat.le_of_ble_eq_true rfl) rfl (z_rcV hW (hy1) (by decide)) (by decide) (by decide) hW (fun S18 hW18 => ?_)
        refine (k_aload_n t32_112 rfl rfl).trans ?_
        refine (k_getR t32_113 rfl hW18 zK_22 (by decide) (by decide) (zF_22_2 hW18)).trans ?_
        refine (k_iload t32_116 rfl rfl).trans ?_
        refine (k_iload t32_118 rfl rfl).trans ?_
        refine (k_iast t32_120 rfl hW18 zK_25 zL_25).trans (z_ite (fun g19 => ?_) (fun _ => rfl))
        refine (k_aload_n t32_121 rfl rfl).trans ?_
        refine (k_getR t32_122 rfl hW18.sI zK_22 (by decide) (by decide) (zF_22_3 hW18.sI)).trans ?_
        refine (k_iload t32_125 rfl rfl).trans ?_
        refine (k_iload t32_127 rfl rfl).trans ?_
        refine (k_iast t32_129 rfl hW18.sI zK_26 zL_26).trans (z_ite (fun g20 => ?_) (fun _ => rfl))
        refine (k_iinc (b := (y4 + (1 : Int32))) (ls' := [.ref 22, .ref y1, z_j, .int y3, .int (y4 + (1 : Int32)), .int y5, .int y6, .int (gI S (y1 + 1) (y6).toNatClampNeg), z_j]) t32_130 rfl rfl (by rw [zci_1]) rfl).trans ?_
        refine (k_iload t32_133 rfl rfl).trans ?_
        refine (k_istore (ls' := [.ref 22, .ref y1, z_j, .int y3, .int (y4 + (1 : Int32)), .int (gI S (y1 + 1) (y6).toNatClampNeg), .int y6, .int (gI S (y1 + 1) (y6).toNatClampNeg), z_j]) t32_135 rfl rfl).trans ?_
        refine (k_aload_n t32_137 rfl rfl).trans ?_
        refine (k_getR t32_138 rfl hW18.sI.sI zK_22 (by decide) (by decide) (zM_22_0 hW18.sI.sI).1).trans ?_
        refine (k_iload t32_141 rfl rfl).trans ?_
        refine (k_iload t32_143 rfl rfl).trans ?_
        refine k_callI (as := [.ref (gP (sI (sI S18 25 (y4).toNatClampNeg (gI S (y1 + 1) (y6).toNatClampNeg)) 26 (y4).toNatClampNeg y6) 22 0), .int (gI S (y1 + 1) (y6).toNatClampNeg), .int y6]) (rest := []) t32_145 rfl rfl (by decide) rfl rfl (Nat.le_of_ble_eq_true rfl) rfl (z_rcV hW18.sI.sI ((zM_22_0 hW18.sI.sI).2) (by decide)) (by decide) (Or.inl (by decide)) hW18.sI.sI (fun v21 S22 hW22 => ?_)
        refine (k_istore (ls' := [.ref 22, .ref y1, z_j, .int y3, .int (y4 + (1 : Int32)), .int (gI S (y1 + 1) (y6).toNatClampNeg), .int y6, .int (gI S (y1 + 1) (y6).toNatClampNeg), .int v21]) t32_148 rfl rfl).trans ?_
        refine (k_aload_n t32_150 rfl rfl).trans ?_
        refine (k_iload t32_151 rfl rfl).trans ?_
        refine k_callI (as := [.ref y1, .int v21]) (rest := []) t32_153 rfl rfl (by decide) rfl rfl (Nat.le_of_ble_eq_true rfl) rfl (z_rcV hW22 (hy1) (by decide)) (by decide) (Or.inr (by decide)) hW22 (fun v23 S24 hW24 => ?_)
        refine (k_if_eq t32_156 rfl).trans (z_ite (fun g25 => ?_) (fun g25 => ?_))
        · refine (k_aload_n t32_170 rfl rfl).trans ?_
          refine (k_aload_n t32_171 rfl rfl).trans ?_
          refine (k_iload t32_172 rfl rfl).trans ?_
          refine (k_iload t32_174 rfl rfl).trans ?_
          refine (k_iload_n t32_176 rfl rfl).trans ?_
          refine k_callI (as := [.ref 22, .ref y1, .int v21, .int (y4 + (1 : Int32)), .int y3]) (rest := []) t32_177 rfl rfl (by decide) rfl rfl (Nat.le_of_ble_eq_true rfl) rfl (z_rcV hW24 (zK_22) (by decide)) (by decide) (Or.inr (by decide)) hW24 (fun v26 S27 hW27 => ?_)
          refine (k_if_eq t32_180 rfl).trans (z_ite (fun g28 => ?_) (fun g28 => ?_))
          · refine (k_iconst t32_188 rfl zci_m1).trans ?_
            exact (zk_mk (ls' := [.ref 22, .ref y1, z_j, .int y3, .int (y4 + (1 : Int32)), .int (gI S (y1 + 1) (y6).toNatClampNeg), z_j, z_j, z_j]) t32_189 rfl)
          · refine (k_iload t32_183 rfl rfl).trans ?_
            refine (k_goto t32_185 rfl).trans ?_
            exact (zk_mk (ls' := [.ref 22, .ref y1, z_j, .int y3, .int (y4 + (1 : Int32)), .int (gI S (y1 + 1) (y6).toNatClampNeg), z_j, z_j, z_j]) t32_189 rfl)
        · refine (k_aload_n t32_159 rfl rfl).trans ?_
          refine (k_iload t32_160 rfl rfl).trans ?_
          refine (k_iload t32_162 rfl rfl).trans ?_
          refine k_callV (as := [.ref y1, .int (gI S (y1 + 1) (y6).toNatClampNeg), .int v21]) (rest := []) t32_164 rfl rfl (by decide) rfl rfl (Nat.le_of_ble_eq_true rfl) rfl (z_rcV hW24 (hy1) (by decide)) (by decide) (by decide) hW24 (fun S30 hW30 => ?_)
          refine (k_iload t32_167 rfl rfl).trans ?_
          exact k_ireturn t32_169 rfl (by decide)
theorem b32_74_eq (d : Nat) (y1 : Nat) (y3 : Int32) (y4 : Int32) (y5 : Int32) (s0 : Int32) (S : z_S) (hW : z_W S) (hy1 : z_K y1 = 8) : b32_74 d y1 y3 y4 y5 s0 S = b32_76 d y1 y3 y4 y5 s0 S := by
  unfold b32_74
  refine (k_istore (ls' := [.ref 22, .ref y1, z_j, .int y3, .int y4, .int y5, .int s0, z_j, z_j]) t32_74 rfl rfl).trans ?_
  exact (zk_mk (ls' := [.ref 22, .ref y1, z_j, .int y3, .int y4, .int y5, .int s0, z_j, z_j]) t32_76 rfl)
theorem b32_194_eq (d : Nat) (y1 : Nat) (y4 : Int32) (y5 : Int32) (S : z_S) (hW : z_W S) (hy1 : z_K y1 = 8) : b32_194 d y1 y4 y5 S = ((fV d 80 [.ref y1, .int y5, .int (gI S (gP S 22 0) 2)] S).bind fun S32 => some (y4, S32)) := by
  unfold b32_194
  refine (k_aload_n t32_194 rfl rfl).trans ?_
  refine (k_iload t32_195 rfl rfl).trans ?_
  refine (k_aload_n t32_197 rfl rfl).trans ?_
  refine (k_getR t32_198 rfl hW zK_22 (by decide) (by decide) (zM_22_0 hW).1).trans ?_
  refine (k_getI t32_201 rfl hW (zM_22_0 hW).2 (by decide) (by decide)).trans ?_
  refine k_callV (as := [.ref y1, .int y5, .int (gI S (gP S 22 0) 2)]) (rest := []) t32_204 rfl rfl (by decide) rfl rfl (Nat.le_of_ble_eq_true rfl) rfl (z_rcV hW (hy1) (by decide)) (by decide) (by decide) hW (fun S32 hW32 => ?_)
  refine (k_iload t32_207 rfl rfl).trans ?_
  exact k_ireturn t32_209 rfl (by decide)
theorem b32_189_eq (d : Nat) (y1 : Nat) (y3 : Int32) (y4 : Int32) (y5 : Int32) (s0 : Int32) (S : z_S) (hW : z_W S) (hy1 : z_K y1 = 8) : b32_189 d y1 y3 y4 y5 s0 S = b32_76 d y1 y3 y4 y5 s0 S := by
  unfold b32_189
  refine (k_istore (ls' := [.ref 22, .ref y1, z_j, .int y3, .int y4, .int y5, .int s0, z_j, z_j]) t32_189 rfl rfl).trans ?_
  refine (k_goto t32_191 rfl).trans ?_
  exact (zk_mk (ls' := [.ref 22, .ref y1, z_j, .int y3, .int y4, .int y5, .int s0, z_j, z_j]) t32_76 rfl)
-- X2_arrive
theorem e32 (d : Nat) (p1 : Nat) (x2 : Int32) (x3 : Int32) (S : z_S) (hW : z_W S) (hp1 : z_K p1 = 8) : fI (d + 1) 32 [.ref 22, .ref p1, .int x2, .int x3] S = (zb (fI d 33 [.ref 22, .ref p1, .int x2] S) fun v1 S2 => (if v1 = (0 : Int32) then (if z_in x2 16 then (zb (fI d 34 [.ref 22, .ref p1, .int (gI S2 ((gP S2 22 0) + 2) (x2).toNatClampNeg), .int (0 : Int32), .int x3] S2) fun v5 S6 => (if ¬ v5 = (0 : Int32) then b32_76 d p1 x3 (0 : Int32) x2 (gI S2 ((gP S2 22 0) + 2) (x2).toNatClampNeg) S6 else (if z_in x2 16 then (zb (fI d 34 [.ref 22, .ref p1, .int (gI S6 ((gP S6 22 0) + 3) (x2).toNatClampNeg), .int (0 : Int32), .int x3] S6) fun v9 S10 => (if v9 = (0 : Int32) then b32_74 d p1 x3 (0 : Int32) x2 (-1 : Int32) S10 else (if z_in x2 16 then b32_74 d p1 x3 (0 : Int32) x2 (gI S10 ((gP S10 22 0) + 3) (x2).toNatClampNeg) S10 else none))) else none))) else none) else some ((0 : Int32), S2))) := by
  refine (fI_en (Nat.le_of_ble_eq_true rfl) rfl).trans ?_
  refine (k_aload_n t32_0 rfl rfl).trans ?_
  refine (k_aload_n t32_1 rfl rfl).trans ?_
  refine (k_iload_n t32_2 rfl rfl).trans ?_
  refine k_callI (as := [.ref 22, .ref p1, .int x2]) (rest := []) t32_3 rfl rfl (by decide) rfl rfl (Nat.le_of_ble_eq_true rfl) rfl (z_rcV hW (zK_22) (by decide)) (by decide) (Or.inr (by decide)) hW (fun v1 S2 hW2 => ?_)
  refine (k_if_eq t32_6 rfl).trans (z_ite (fun g3 => ?_) (fun g3 => ?_))
  · refine (k_iconst t32_11 rfl zci_0).trans ?_
    refine (k_istore (ls' := [.ref 22, .ref p1, .int x2, .int x3, .int (0 : Int32), z_j, z_j, z_j, z_j]) t32_12 rfl rfl).trans ?_
    refine (k_iload_n t32_14 rfl rfl).trans ?_
    refine (k_istore (ls' := [.ref 22, .ref p1, .int x2, .int x3, .int (0 : Int32), .int x2, z_j, z_j, z_j]) t32_15 rfl rfl).trans ?_
    refine (k_aload_n t32_17 rfl rfl).trans ?_
    refine (k_getR t32_18 rfl hW2 zK_22 (by decide) (by decide) (zM_22_0 hW2).1).trans ?_
    refine (k_getR t32_21 rfl hW2 (zM_22_0 hW2).2 (by decide) (by decide) (zO_6_10 hW2 (zM_22_0 hW2).2)).trans ?_
    refine (k_iload_n t32_24 rfl rfl).trans ?_
    refine (k_iald t32_25 rfl hW2 (zOK_6_10 (zM_22_0 hW2).2) (zOL_6_10 (zM_22_0 hW2).2)).trans (z_ite (fun g4 => ?_) (fun _ => rfl))
    refine (k_istore (ls' := [.ref 22, .ref p1, .int x2, .int x3, .int (0 : Int32), .int x2, .int (gI S2 ((gP S2 22 0) + 2) (x2).toNatClampNeg), z_j, z_j]) t32_26 rfl rfl).trans ?_
    refine (k_aload_n t32_28 rfl rfl).trans ?_
    refine (k_aload_n t32_29 rfl rfl).trans ?_
    refine (k_iload t32_30 rfl rfl).trans ?_
    refine (k_iload t32_32 rfl rfl).trans ?_
    refine (k_iload_n t32_34 rfl rfl).trans ?_
    refine k_callI (as := [.ref 22, .ref p1, .int (gI S2 ((gP S2 22 0) + 2) (x2).toNatClampNeg), .int (0 : Int32), .int x3]) (rest := []) t32_35 rfl rfl (by decide) rfl rfl (Nat.le_of_ble_eq_true rfl) rfl (z_rcV hW2 (zK_22) (by decide)) (by decide) (Or.inr (by decide)) hW2 (fun v5 S6 hW6 => ?_)
    refine (k_if_ne t32_38 rfl).trans (z_ite (fun g7 => ?_) (fun g7 => ?_))
    · exact (zk_mk (ls' := [.ref 22, .ref p1, z_j, .int x3, .int (0 : Int32), .int x2, .int (gI S2 ((gP S2 22 0) + 2) (x2).toNatClampNeg), z_j, z_j]) t32_76 rfl)
    · refine (k_aload_n t32_41 rfl rfl).trans ?_
      refine (k_aload_n t32_42 rfl rfl).trans ?_
      refine (k_aload_n t32_43 rfl rfl).trans ?_
      refine (k_getR t32_44 rfl hW6 zK_22 (by decide) (by decide) (zM_22_0 hW6).1).trans ?_
      refine (k_getR t32_47 rfl hW6 (zM_22_0 hW6).2 (by decide) (by decide) (zO_6_11 hW6 (zM_22_0 hW6).2)).trans ?_
      refine (k_iload_n t32_50 rfl rfl).trans ?_
      refine (k_iald t32_51 rfl hW6 (zOK_6_11 (zM_22_0 hW6).2) (zOL_6_11 (zM_22_0 hW6).2)).trans (z_ite (fun g8 => ?_) (fun _ => rfl))
      refine (k_iload t32_52 rfl rfl).trans ?_
      refine (k_iload_n t32_54 rfl rfl).trans ?_
      refine k_callI (as := [.ref 22, .ref p1, .int (gI S6 ((gP S6 22 0) + 3) (x2).toNatClampNeg), .int (0 : Int32), .int x3]) (rest := []) t32_55 rfl rfl (by decide) rfl rfl (Nat.le_of_ble_eq_true rfl) rfl (z_rcV hW6 (zK_22) (by decide)) (by decide) (Or.inr (by decide)) hW6 (fun v9 S10 hW10 => ?_)
      refine (k_if_eq t32_58 rfl).trans (z_ite (fun g11 => ?_) (fun g11 => ?_))
      · refine (k_iconst t32_73 rfl zci_m1).trans ?_
        exact (zk_mk (ls' := [.ref 22, .ref p1, z_j, .int x3, .int (0 : Int32), .int x2, z_j, z_j, z_j]) t32_74 rfl)
      · refine (k_aload_n t32_61 rfl rfl).trans ?_
        refine (k_getR t32_62 rfl hW10 zK_22 (by decide) (by decide) (zM_22_0 hW10).1).trans ?_
        refine (k_getR t32_65 rfl hW10 (zM_22_0 hW10).2 (by decide) (by decide) (zO_6_11 hW10 (zM_22_0 hW10).2)).trans ?_
        refine (k_iload_n t32_68 rfl rfl).trans ?_
        refine (k_iald t32_69 rfl hW10 (zOK_6_11 (zM_22_0 hW10).2) (zOL_6_11 (zM_22_0 hW10).2)).trans (z_ite (fun g12 => ?_) (fun _ => rfl))
        refine (k_goto t32_70 rfl).trans ?_
        exact (zk_mk (ls' := [.ref 22, .ref p1, z_j, .int x3, .int (0 : Int32), .int x2, z_j, z_j, z_j]) t32_74 rfl)
  · refine (k_iconst t32_9 rfl zci_0).trans ?_
    exact k_ireturn t32_10 rfl (by decide)
theorem t33_0 : z_ft 33 0 = some (.aload_n 1, 1, none, [], 0, 0, 0, 0) := z_ftd (by decide +kernel)
theorem t33_1 : z_ft 33 1 = some (.aload_n 0, 1, none, [], 0, 0, 0, 0) := z_ftd (by decide +kernel)
theorem t33_2 : z_ft 33 2 = some (.getfield 25, 3, none, [], 2, 0, 7, 0) := z_ftd (by decide +kernel)
theorem t33_5 : z_ft 33 5 = some (.getfield 33, 3, none, [], 6, 10, 3, 0) := z_ftd (by decide +kernel)
theorem t33_8 : z_ft 33 8 = some (.iload_n 2, 1, none, [], 0, 0, 0, 0) := z_ftd (by decide +kernel)
theorem t33_9 : z_ft 33 9 = some (.iaload, 1, none, [], 0, 0, 0, 0) := z_ftd (by decide +kernel)
theorem t33_10 : z_ft 33 10 = some (.invokevirtual 58, 3, none, [], 76, 0, 19, 0) := z_ftd (by decide +kernel)
theorem t33_13 : z_ft 33 13 = some (.ifCond .eq 15, 3, none, [], 28, 0, 0, 0) := z_ftd (by decide +kernel)
theorem t33_16 : z_ft 33 16 = some (.aload_n 0, 1, none, [], 0, 0, 0, 0) := z_ftd (by decide +kernel)
theorem t33_17 : z_ft 33 17 = some (.getfield 25, 3, none, [], 2, 0, 7, 0) := z_ftd (by decide +kernel)
theorem t33_20 : z_ft 33 20 = some (.getfield 33, 3, none, [], 6, 10, 3, 0) := z_ftd (by decide +kernel)
theorem t33_23 : z_ft 33 23 = some (.iload_n 2, 1, none, [], 0, 0, 0, 0) := z_ftd (by decide +kernel)
theorem t33_24 : z_ft 33 24 = some (.iaload, 1, none, [], 0, 0, 0, 0) := z_ftd (by decide +kernel)
theorem t33_25 : z_ft 33 25 = some (.goto 12, 3, none, [], 37, 0, 0, 0) := z_ftd (by decide +kernel)
theorem t33_28 : z_ft 33 28 = some (.aload_n 0, 1, none, [], 0, 0, 0, 0) := z_ftd (by decide +kernel)
theorem t33_29 : z_ft 33 29 = some (.getfield 25, 3, none, [], 2, 0, 7, 0) := z_ftd (by decide +kernel)
theorem t33_32 : z_ft 33 32 = some (.getfield 42, 3, none, [], 6, 11, 4, 0) := z_ftd (by decide +kernel)
theorem t33_35 : z_ft 33 35 = some (.iload_n 2, 1, none, [], 0, 0, 0, 0) := z_ftd (by decide +kernel)
theorem t33_36 : z_ft 33 36 = some (.iaload, 1, none, [], 0, 0, 0, 0) := z_ftd (by decide +kernel)
theorem t33_37 : z_ft 33 37 = some (.istore_n 3, 1, (some [1, 2]), [], 0, 0, 0, 0) := z_ftd (by decide +kernel)
theorem t33_38 : z_ft 33 38 = some (.aload_n 1, 1, none, [], 0, 0, 0, 0) := z_ftd (by decide +kernel)
theorem t33_39 : z_ft 33 39 = some (.iload_n 3, 1, none, [], 0, 0, 0, 0) := z_ftd (by decide +kernel)
theorem t33_40 : z_ft 33 40 = some (.invokevirtual 58, 3, none, [], 76, 0, 19, 0) := z_ftd (by decide +kernel)
theorem t33_43 : z_ft 33 43 = some (.ifCond .ne 5, 3, none, [], 48, 0, 0, 0) := z_ftd (by decide +kernel)
theorem t33_46 : z_ft 33 46 = some (.iconst 0, 1, none, [], 0, 0, 0, 0) := z_ftd (by decide +kernel)
theorem t33_47 : z_ft 33 47 = some (.ireturn, 1, none, [], 0, 0, 0, 0) := z_ftd (by decide +kernel)
theorem t33_48 : z_ft 33 48 = some (.aload_n 1, 1, none, [], 0, 0, 0, 0) := z_ftd (by decide +kernel)
theorem t33_49 : z_ft 33 49 = some (.iload_n 2, 1, none, [], 0, 0, 0, 0) := z_ftd (by decide +kernel)
theorem t33_50 : z_ft 33 50 = some (.iload_n 3, 1, none, [], 0, 0, 0, 0) := z_ftd (by decide +kernel)
theorem t33_51 : z_ft 33 51 = some (.invokevirtual 50, 3, none, [], 79, 0, 20, 0) := z_ftd (by decide +kernel)
theorem t33_54 : z_ft 33 54 = some (.iconst 1, 1, none, [], 0, 0, 0, 0) := z_ftd (by decide +kernel)
theorem t33_55 : z_ft 33 55 = some (.ireturn, 1, none, [], 0, 0, 0, 0) := z_ftd (by decide +kernel)
noncomputable def b33_37 (d : Nat) (y1 : Nat) (y2 : Int32) (s0 : Int32) (S : z_S) : Option (Int32 × z_S) := zk kI z_X0 d 33 37 [z_j, .ref y1, .int y2, z_j] [.int s0] S
theorem b33_37_eq (d : Nat) (y1 : Nat) (y2 : Int32) (s0 : Int32) (S : z_S) (hW : z_W S) (hy1 : z_K y1 = 8) : b33_37 d y1 y2 s0 S = (zb (fI d 76 [.ref y1, .int s0] S) fun v7 S8 => (if ¬ v7 = (0 : Int32) then ((fV d 79 [.ref y1, .int y2, .int s0] S8).bind fun S11 => some ((1 : Int32), S11)) else some ((0 : Int32), S8))) := by
  unfold b33_37
  refine (k_istore_n (ls' := [z_j, .ref y1, .int y2, .int s0]) t33_37 rfl rfl).trans ?_
  refine (k_aload_n t33_38 rfl rfl).trans ?_
  refine (k_iload_n t33_39 rfl rfl).trans ?_
  refine k_callI (as := [.ref y1, .int s0]) (rest := []) t33_40 rfl rfl (by decide) rfl rfl (Nat.le_of_ble_eq_true rfl) rfl (z_rcV hW (hy1) (by decide)) (by decide) (Or.inr (by decide)) hW (fun v7 S8 hW8 => ?_)
  refine (k_if_ne t33_43 rfl).trans (z_ite (fun g9 => ?_) (fun g9 => ?_))
  · refine (k_aload_n t33_48 rfl rfl).trans ?_
    refine (k_iload_n t33_49 rfl rfl).trans ?_
    refine (k_iload_n t33_50 rfl rfl).trans ?_
    refine k_callV (as := [.ref y1, .int y2, .int s0]) (rest := []) t33_51 rfl rfl (by decide) rfl rfl (Nat.le_of_ble_eq_true rfl) rfl (z_rcV hW8 (hy1) (by decide)) (by decide) (by decide) hW8 (fun S11 hW11 => ?_)
    refine (k_iconst t33_54 rfl zci_1).trans ?_
    exact k_zretC t33_55 rfl (by decide) (by decide)
  · refine (k_iconst t33_46 rfl zci_0).trans ?_
    exact k_zretC t33_47 rfl (by decide) (by decide)
-- X2_sleepsInFree
theorem e33 (d : Nat) (p1 : Nat) (x2 : Int32) (S : z_S) (hW : z_W S) (hp1 : z_K p1 = 8) : fI (d + 1) 33 [.ref 22, .ref p1, .int x2] S = (if z_in x2 16 then (zb (fI d 76 [.ref p1, .int (gI S ((gP S 22 0) + 2) (x2).toNatClampNeg)] S) fun v2 S3 => (if v2 = (0 : Int32) then (if z_in x2 16 then b33_37 d p1 x2 (gI S3 ((gP S3 22 0) + 3) (x2).toNatClampNeg) S3 else none) else (if z_in x2 16 then b33_37 d p1 x2 (gI S3 ((gP S3 22 0) + 2) (x2).toNatClampNeg) S3 else none))) else none) := by
  refine (fI_en (Nat.le_of_ble_eq_true rfl) rfl).trans ?_
  refine (k_aload_n t33_0 rfl rfl).trans ?_
  refine (k_aload_n t33_1 rfl rfl).trans ?_
  refine (k_getR t33_2 rfl hW zK_22 (by decide) (by decide) (zM_22_0 hW).1).trans ?_
  refine (k_getR t33_5 rfl hW (zM_22_0 hW).2 (by decide) (by decide) (zO_6_10 hW (zM_22_0 hW).2)).trans ?_
  refine (k_iload_n t33_8 rfl rfl).trans ?_
  refine (k_iald t33_9 rfl hW (zOK_6_10 (zM_22_0 hW).2) (zOL_6_10 (zM_22_0 hW).2)).trans (z_ite (fun g1 => ?_) (fun _ => rfl))
  refine k_callI (as := [.ref p1, .int (gI S ((gP S 22 0) + 2) (x2).toNatClampNeg)]) (rest := []) t33_10 rfl rfl (by decide) rfl rfl (Nat.le_of_ble_eq_true rfl) rfl (z_rcV hW (hp1) (by decide)) (by decide) (Or.inr (by decide)) hW (fun v2 S3 hW3 => ?_)
  refine (k_if_eq t33_13 rfl).trans (z_ite (fun g4 => ?_) (fun g4 => ?_))
  · refine (k_aload_n t33_28 rfl rfl).trans ?_
    refine (k_getR t33_29 rfl hW3 zK_22 (by decide) (by decide) (zM_22_0 hW3).1).trans ?_
    refine (k_getR t33_32 rfl hW3 (zM_22_0 hW3).2 (by decide) (by decide) (zO_6_11 hW3 (zM_22_0 hW3).2)).trans ?_
    refine (k_iload_n t33_35 rfl rfl).trans ?_
    refine (k_iald t33_36 rfl hW3 (zOK_6_11 (zM_22_0 hW3).2) (zOL_6_11 (zM_22_0 hW3).2)).trans (z_ite (fun g5 => ?_) (fun _ => rfl))
    exact (zk_mk (ls' := [z_j, .ref p1, .int x2, z_j]) t33_37 rfl)
  · refine (k_aload_n t33_16 rfl rfl).trans ?_
    refine (k_getR t33_17 rfl hW3 zK_22 (by decide) (by decide) (zM_22_0 hW3).1).trans ?_
    refine (k_getR t33_20 rfl hW3 (zM_22_0 hW3).2 (by decide) (by decide) (zO_6_10 hW3 (zM_22_0 hW3).2)).trans ?_
    refine (k_iload_n t33_23 rfl rfl).trans ?_
    refine (k_iald t33_24 rfl hW3 (zOK_6_10 (zM_22_0 hW3).2) (zOL_6_10 (zM_22_0 hW3).2)).trans (z_ite (fun g6 => ?_) (fun _ => rfl))
    refine (k_goto t33_25 rfl).trans ?_
    exact (zk_mk (ls' := [z_j, .ref p1, .int x2, z_j]) t33_37 rfl)
theorem t34_0 : z_ft 34 0 = some (.aload_n 1, 1, none, [], 0, 0, 0, 0) := z_ftd (by decide +kernel)
theorem t34_1 : z_ft 34 1 = some (.getfield 45, 3, none, [], 8, 5, 15, 0) := z_ftd (by decide +kernel)
theorem t34_4 : z_ft 34 4 = some (.iload_n 2, 1, none, [], 0, 0, 0, 0) := z_ftd (by decide +kernel)
theorem t34_5 : z_ft 34 5 = some (.iaload, 1, none, [], 0, 0, 0, 0) := z_ftd (by decide +kernel)
theorem t34_6 : z_ft 34 6 = some (.istore 5, 2, none, [], 0, 0, 0, 0) := z_ftd (by decide +kernel)
theorem t34_8 : z_ft 34 8 = some (.iload 5, 2, none, [], 0, 0, 0, 0) := z_ftd (by decide +kernel)
theorem t34_10 : z_ft 34 10 = some (.iconst (-1), 1, none, [], 0, 0, 0, 0) := z_ftd (by decide +kernel)
theorem t34_11 : z_ft 34 11 = some (.if_icmp .eq 9, 3, none, [], 20, 0, 0, 0) := z_ftd (by decide +kernel)
theorem t34_14 : z_ft 34 14 = some (.iload_n 3, 1, none, [], 0, 0, 0, 0) := z_ftd (by decide +kernel)
theorem t34_15 : z_ft 34 15 = some (.iload 4, 2, none, [], 0, 0, 0, 0) := z_ftd (by decide +kernel)
theorem t34_17 : z_ft 34 17 = some (.if_icmp .lt 5, 3, none, [], 22, 0, 0, 0) := z_ftd (by decide +kernel)
theorem t34_20 : z_ft 34 20 = some (.iconst 0, 1, (some []), [], 0, 0, 0, 0) := z_ftd (by decide +kernel)
theorem t34_21 : z_ft 34 21 = some (.ireturn, 1, none, [], 0, 0, 0, 0) := z_ftd (by decide +kernel)
theorem t34_22 : z_ft 34 22 = some (.aload_n 0, 1, none, [], 0, 0, 0, 0) := z_ftd (by decide +kernel)
theorem t34_23 : z_ft 34 23 = some (.getfield 25, 3, none, [], 2, 0, 7, 0) := z_ftd (by decide +kernel)
theorem t34_26 : z_ft 34 26 = some (.iconst 0, 1, none, [], 0, 0, 0, 0) := z_ftd (by decide +kernel)
theorem t34_27 : z_ft 34 27 = some (.invokevirtual 69, 3, none, [], 60, 0, 22, 0) := z_ftd (by decide +kernel)
theorem t34_30 : z_ft 34 30 = some (.ifCond .eq 22, 3, none, [], 52, 0, 0, 0) := z_ftd (by decide +kernel)
theorem t34_33 : z_ft 34 33 = some (.aload_n 0, 1, none, [], 0, 0, 0, 0) := z_ftd (by decide +kernel)
theorem t34_34 : z_ft 34 34 = some (.getfield 12, 3, none, [], 2, 1, 8, 0) := z_ftd (by decide +kernel)
theorem t34_37 : z_ft 34 37 = some (.aload_n 0, 1, none, [], 0, 0, 0, 0) := z_ftd (by decide +kernel)
theorem t34_38 : z_ft 34 38 = some (.getfield 25, 3, none, [], 2, 0, 7, 0) := z_ftd (by decide +kernel)
theorem t34_41 : z_ft 34 41 = some (.iconst 0, 1, none, [], 0, 0, 0, 0) := z_ftd (by decide +kernel)
theorem t34_42 : z_ft 34 42 = some (.aload_n 1, 1, none, [], 0, 0, 0, 0) := z_ftd (by decide +kernel)
theorem t34_43 : z_ft 34 43 = some (.iload 5, 2, none, [], 0, 0, 0, 0) := z_ftd (by decide +kernel)
theorem t34_45 : z_ft 34 45 = some (.iload_n 3, 1, none, [], 0, 0, 0, 0) := z_ftd (by decide +kernel)
theorem t34_46 : z_ft 34 46 = some (.invokevirtual 72, 3, none, [], 68, 0, 23, 0) := z_ftd (by decide +kernel)
theorem t34_49 : z_ft 34 49 = some (.ifCond .eq 7, 3, none, [], 56, 0, 0, 0) := z_ftd (by decide +kernel)
theorem t34_52 : z_ft 34 52 = some (.iconst 1, 1, (some []), [], 0, 0, 0, 0) := z_ftd (by decide +kernel)
theorem t34_53 : z_ft 34 53 = some (.goto 4, 3, none, [], 57, 0, 0, 0) := z_ftd (by decide +kernel)
theorem t34_56 : z_ft 34 56 = some (.iconst 0, 1, none, [], 0, 0, 0, 0) := z_ftd (by decide +kernel)
theorem t34_57 : z_ft 34 57 = some (.ireturn, 1, (some []), [], 0, 0, 0, 0) := z_ftd (by decide +kernel)
noncomputable def b34_52 (d : Nat)  (S : z_S) : Option (Int32 × z_S) := zk kI z_X0 d 34 52 [z_j, z_j, z_j, z_j, z_j, z_j] [] S
theorem b34_52_eq (d : Nat)  (S : z_S) (hW : z_W S)  : b34_52 d  S = some ((1 : Int32), S) := by
  unfold b34_52
  refine (k_iconst t34_52 rfl zci_1).trans ?_
  refine (k_goto t34_53 rfl).trans ?_
  refine (zk_mk (ls' := [z_j, z_j, z_j, z_j, z_j, z_j]) t34_57 rfl).trans ?_
  exact k_zretC t34_57 rfl (by decide) (by decide)
-- X2_yieldsIn
theorem e34 (d : Nat) (p1 : Nat) (x2 : Int32) (x3 : Int32) (x4 : Int32) (S : z_S) (hW : z_W S) (hp1 : z_K p1 = 8) : fI (d + 1) 34 [.ref 22, .ref p1, .int x2, .int x3, .int x4] S = (if z_in x2 16 then (if (gI S (p1 + 1) (x2).toNatClampNeg) = (-1 : Int32) then some ((0 : Int32), S) else (if x3 < x4 then (zb (fI d 60 [.ref (gP S 22 0), .int (0 : Int32)] S) fun v4 S5 => (if v4 = (0 : Int32) then b34_52 d S5 else (zb (fI d 68 [.ref 23, .ref (gP S5 22 0), .int (0 : Int32), .ref p1, .int (gI S (p1 + 1) (x2).toNatClampNeg), .int x3] S5) fun v7 S8 => (if v7 = (0 : Int32) then some ((0 : Int32), S8) else b34_52 d S8)))) else some ((0 : Int32), S))) else none) := by
  refine (fI_en (Nat.le_of_ble_eq_true rfl) rfl).trans ?_
  refine (k_aload_n t34_0 rfl rfl).trans ?_
  refine (k_getR t34_1 rfl hW hp1 (by decide) (by decide) (zO_8_5 hW hp1)).trans ?_
  refine (k_iload_n t34_4 rfl rfl).trans ?_
  refine (k_iald t34_5 rfl hW (zOK_8_5 hp1) (zOL_8_5 hp1)).trans (z_ite (fun g1 => ?_) (fun _ => rfl))
  refine (k_istore (ls' := [.ref 22, .ref p1, .int x2, .int x3, .int x4, .int (gI S (p1 + 1) (x2).toNatClampNeg)]) t34_6 rfl rfl).trans ?_
  refine (k_iload t34_8 rfl rfl).trans ?_
  refine (k_iconst t34_10 rfl zci_m1).trans ?_
  refine (k_icmp_eq t34_11 rfl).trans (z_ite (fun g2 => ?_) (fun g2 => ?_))
  · refine (zk_mk (ls' := [z_j, z_j, z_j, z_j, z_j, z_j]) t34_20 rfl).trans ?_
    refine (k_iconst t34_20 rfl zci_0).trans ?_
    exact k_zretC t34_21 rfl (by decide) (by decide)
  · refine (k_iload_n t34_14 rfl rfl).trans ?_
    refine (k_iload t34_15 rfl rfl).trans ?_
    refine (k_icmp_lt t34_17 rfl).trans (z_ite (fun g3 => ?_) (fun g3 => ?_))
    · refine (k_aload_n t34_22 rfl rfl).trans ?_
      refine (k_getR t34_23 rfl hW zK_22 (by decide) (by decide) (zM_22_0 hW).1).trans ?_
      refine (k_iconst t34_26 rfl zci_0).trans ?_
      refine k_callI (as := [.ref (gP S 22 0), .int (0 : Int32)]) (rest := []) t34_27 rfl rfl (by decide) rfl rfl (Nat.le_of_ble_eq_true rfl) rfl (z_rcV hW ((zM_22_0 hW).2) (by decide)) (by decide) (Or.inr (by decide)) hW (fun v4 S5 hW5 => ?_)
      refine (k_if_eq t34_30 rfl).trans (z_ite (fun g6 => ?_) (fun g6 => ?_))
      · exact (zk_mk (ls' := [z_j, z_j, z_j, z_j, z_j, z_j]) t34_52 rfl)
      · refine (k_aload_n t34_33 rfl rfl).trans ?_
        refine (k_getR t34_34 rfl hW5 zK_22 (by decide) (by decide) (zF_22_1 hW5)).trans ?_
        refine (k_aload_n t34_37 rfl rfl).trans ?_
        refine (k_getR t34_38 rfl hW5 zK_22 (by decide) (by decide) (zM_22_0 hW5).1).trans ?_
        refine (k_iconst t34_41 rfl zci_0).trans ?_
        refine (k_aload_n t34_42 rfl rfl).trans ?_
        refine (k_iload t34_43 rfl rfl).trans ?_
        refine (k_iload_n t34_45 rfl rfl).trans ?_
        refine k_callI (as := [.ref 23, .ref (gP S5 22 0), .int (0 : Int32), .ref p1, .int (gI S (p1 + 1) (x2).toNatClampNeg), .int x3]) (rest := []) t34_46 rfl rfl (by decide) rfl rfl (Nat.le_of_ble_eq_true rfl) rfl (z_rcV hW5 (zK_23) (by decide)) (by decide) (Or.inl (by decide)) hW5 (fun v7 S8 hW8 => ?_)
        refine (k_if_eq t34_49 rfl).trans (z_ite (fun g9 => ?_) (fun g9 => ?_))
        · refine (k_iconst t34_56 rfl zci_0).trans ?_
          refine (zk_mk (ls' := [z_j, z_j, z_j, z_j, z_j, z_j]) t34_57 rfl).trans ?_
          exact k_zretC t34_57 rfl (by decide) (by decide)
        · exact (zk_mk (ls' := [z_j, z_j, z_j, z_j, z_j, z_j]) t34_52 rfl)
    · refine (zk_mk (ls' := [z_j, z_j, z_j, z_j, z_j, z_j]) t34_20 rfl).trans ?_
      refine (k_iconst t34_20 rfl zci_0).trans ?_
      exact k_zretC t34_21 rfl (by decide) (by decide)
theorem t35_0 : z_ft 35 0 = some (.aload_n 0, 1, none, [], 0, 0, 0, 0) := z_ftd (by decide +kernel)
theorem t35_1 : z_ft 35 1 = some (.aload_n 1, 1, none, [], 0, 0, 0, 0) := z_ftd (by decide +kernel)
theorem t35_2 : z_ft 35 2 = some (.invokevirtual 76, 3, none, [], 36, 0, 26, 0) := z_ftd (by decide +kernel)
theorem t35_5 : z_ft 35 5 = some (.iload_n 2, 1, none, [], 0, 0, 0, 0) := z_ftd (by decide +kernel)
theorem t35_6 : z_ft 35 6 = some (.ifCond .eq 11, 3, none, [], 17, 0, 0, 0) := z_ftd (by decide +kernel)
theorem t35_9 : z_ft 35 9 = some (.aload_n 0, 1, none, [], 0, 0, 0, 0) := z_ftd (by decide +kernel)
theorem t35_10 : z_ft 35 10 = some (.aload_n 1, 1, none, [], 0, 0, 0, 0) := z_ftd (by decide +kernel)
theorem t35_11 : z_ft 35 11 = some (.invokevirtual 80, 3, none, [], 37, 0, 27, 0) := z_ftd (by decide +kernel)
theorem t35_14 : z_ft 35 14 = some (.goto 4, 3, none, [], 18, 0, 0, 0) := z_ftd (by decide +kernel)
theorem t35_17 : z_ft 35 17 = some (.iconst 0, 1, none, [], 0, 0, 0, 0) := z_ftd (by decide +kernel)
theorem t35_18 : z_ft 35 18 = some (.istore_n 3, 1, (some [0, 1]), [], 0, 0, 0, 0) := z_ftd (by decide +kernel)
theorem t35_19 : z_ft 35 19 = some (.aload_n 0, 1, none, [], 0, 0, 0, 0) := z_ftd (by decide +kernel)
theorem t35_20 : z_ft 35 20 = some (.aload_n 1, 1, none, [], 0, 0, 0, 0) := z_ftd (by decide +kernel)
theorem t35_21 : z_ft 35 21 = some (.invokevirtual 84, 3, none, [], 39, 0, 31, 0) := z_ftd (by decide +kernel)
theorem t35_24 : z_ft 35 24 = some (.iload_n 3, 1, none, [], 0, 0, 0, 0) := z_ftd (by decide +kernel)
theorem t35_25 : z_ft 35 25 = some (.ireturn, 1, none, [], 0, 0, 0, 0) := z_ftd (by decide +kernel)
noncomputable def b35_18 (d : Nat) (y1 : Nat) (s0 : Int32) (S : z_S) : Option (Int32 × z_S) := zk kI z_X0 d 35 18 [.ref 22, .ref y1, z_j, z_j] [.int s0] S
theorem b35_18_eq (d : Nat) (y1 : Nat) (s0 : Int32) (S : z_S) (hW : z_W S) (hy1 : z_K y1 = 8) : b35_18 d y1 s0 S = ((fV d 39 [.ref 22, .ref y1] S).bind fun S7 => some (s0, S7)) := by
  unfold b35_18
  refine (k_istore_n (ls' := [.ref 22, .ref y1, z_j, .int s0]) t35_18 rfl rfl).trans ?_
  refine (k_aload_n t35_19 rfl rfl).trans ?_
  refine (k_aload_n t35_20 rfl rfl).trans ?_
  refine k_callV (as := [.ref 22, .ref y1]) (rest := []) t35_21 rfl rfl (by decide) rfl rfl (Nat.le_of_ble_eq_true rfl) rfl (z_rcV hW (zK_22) (by decide)) (by decide) (by decide) hW (fun S7 hW7 => ?_)
  refine (k_iload_n t35_24 rfl rfl).trans ?_
  exact k_ireturn t35_25 rfl (by decide)
-- X2_passNight
theorem e35 (d : Nat) (p1 : Nat) (x2 : Int32) (S : z_S) (hW : z_W S) (hp1 : z_K p1 = 8) : fI (d + 1) 35 [.ref 22, .ref p1, .int x2] S = ((fV d 36 [.ref 22, .ref p1] S).bind fun S2 => (if x2 = (0 : Int32) then b35_18 d p1 (0 : Int32) S2 else (zb (fI d 37 [.ref 22, .ref p1] S2) fun v4 S5 => b35_18 d p1 v4 S5))) := by
  refine (fI_en (Nat.le_of_ble_eq_true rfl) rfl).trans ?_
  refine (k_aload_n t35_0 rfl rfl).trans ?_
  refine (k_aload_n t35_1 rfl rfl).trans ?_
  refine k_callV (as := [.ref 22, .ref p1]) (rest := []) t35_2 rfl rfl (by decide) rfl rfl (Nat.le_of_ble_eq_true rfl) rfl (z_rcV hW (zK_22) (by decide)) (by decide) (by decide) hW (fun S2 hW2 => ?_)
  refine (k_iload_n t35_5 rfl rfl).trans ?_
  refine (k_if_eq t35_6 rfl).trans (z_ite (fun g3 => ?_) (fun g3 => ?_))
  · refine (k_iconst t35_17 rfl zci_0).trans ?_
    exact (zk_mk (ls' := [.ref 22, .ref p1, z_j, z_j]) t35_18 rfl)
  · refine (k_aload_n t35_9 rfl rfl).trans ?_
    refine (k_aload_n t35_10 rfl rfl).trans ?_
    refine k_callI (as := [.ref 22, .ref p1]) (rest := []) t35_11 rfl rfl (by decide) rfl rfl (Nat.le_of_ble_eq_true rfl) rfl (z_rcV hW2 (zK_22) (by decide)) (by decide) (Or.inl (by decide)) hW2 (fun v4 S5 hW5 => ?_)
    refine (k_goto t35_14 rfl).trans ?_
    exact (zk_mk (ls' := [.ref 22, .ref p1, z_j, z_j]) t35_18 rfl)
theorem t36_0 : z_ft 36 0 = some (.iconst 0, 1, none, [], 0, 0, 0, 0) := z_ftd (by decide +kernel)
theorem t36_1 : z_ft 36 1 = some (.istore_n 2, 1, none, [], 0, 0, 0, 0) := z_ftd (by decide +kernel)
theorem t36_2 : z_ft 36 2 = some (.iconst 0, 1, none, [], 0, 0, 0, 0) := z_ftd (by decide +kernel)
theorem t36_3 : z_ft 36 3 = some (.istore_n 3, 1, none, [], 0, 0, 0, 0) := z_ftd (by decide +kernel)
theorem t36_4 : z_ft 36 4 = some (.iload_n 3, 1, (some [0, 1, 2, 3]), [], 0, 0, 0, 0) := z_ftd (by decide +kernel)
theorem t36_5 : z_ft 36 5 = some (.aload_n 1, 1, none, [], 0, 0, 0, 0) := z_ftd (by decide +kernel)
theorem t36_6 : z_ft 36 6 = some (.getfield 87, 3, none, [], 8, 4, 14, 0) := z_ftd (by decide +kernel)
theorem t36_9 : z_ft 36 9 = some (.if_icmp .ge 38, 3, none, [], 47, 0, 0, 0) := z_ftd (by decide +kernel)
theorem t36_12 : z_ft 36 12 = some (.aload_n 1, 1, none, [], 0, 0, 0, 0) := z_ftd (by decide +kernel)
theorem t36_13 : z_ft 36 13 = some (.getfield 90, 3, none, [], 8, 8, 17, 0) := z_ftd (by decide +kernel)
theorem t36_16 : z_ft 36 16 = some (.iload_n 3, 1, none, [], 0, 0, 0, 0) := z_ftd (by decide +kernel)
theorem t36_17 : z_ft 36 17 = some (.iaload, 1, none, [], 0, 0, 0, 0) := z_ftd (by decide +kernel)
theorem t36_18 : z_ft 36 18 = some (.istore 4, 2, none, [], 0, 0, 0, 0) := z_ftd (by decide +kernel)
theorem t36_20 : z_ft 36 20 = some (.aload_n 0, 1, none, [], 0, 0, 0, 0) := z_ftd (by decide +kernel)
theorem t36_21 : z_ft 36 21 = some (.aload_n 1, 1, none, [], 0, 0, 0, 0) := z_ftd (by decide +kernel)
theorem t36_22 : z_ft 36 22 = some (.iload 4, 2, none, [], 0, 0, 0, 0) := z_ftd (by decide +kernel)
theorem t36_24 : z_ft 36 24 = some (.invokevirtual 29, 3, none, [], 33, 0, 18, 0) := z_ftd (by decide +kernel)
theorem t36_27 : z_ft 36 27 = some (.ifCond .ne 14, 3, none, [], 41, 0, 0, 0) := z_ftd (by decide +kernel)
theorem t36_30 : z_ft 36 30 = some (.aload_n 1, 1, none, [], 0, 0, 0, 0) := z_ftd (by decide +kernel)
theorem t36_31 : z_ft 36 31 = some (.getfield 90, 3, none, [], 8, 8, 17, 0) := z_ftd (by decide +kernel)
theorem t36_34 : z_ft 36 34 = some (.iload_n 2, 1, none, [], 0, 0, 0, 0) := z_ftd (by decide +kernel)
theorem t36_35 : z_ft 36 35 = some (.iload 4, 2, none, [], 0, 0, 0, 0) := z_ftd (by decide +kernel)
theorem t36_37 : z_ft 36 37 = some (.iastore, 1, none, [], 0, 0, 0, 0) := z_ftd (by decide +kernel)
theorem t36_38 : z_ft 36 38 = some (.iinc 2 1, 3, none, [], 0, 0, 0, 0) := z_ftd (by decide +kernel)
theorem t36_41 : z_ft 36 41 = some (.iinc 3 1, 3, (some [0, 1, 2, 3]), [], 0, 0, 0, 0) := z_ftd (by decide +kernel)
theorem t36_44 : z_ft 36 44 = some (.goto (-40), 3, none, [], 4, 0, 0, 0) := z_ftd (by decide +kernel)
theorem t36_47 : z_ft 36 47 = some (.aload_n 1, 1, none, [], 0, 0, 0, 0) := z_ftd (by decide +kernel)
theorem t36_48 : z_ft 36 48 = some (.iload_n 2, 1, none, [], 0, 0, 0, 0) := z_ftd (by decide +kernel)
theorem t36_49 : z_ft 36 49 = some (.putfield 87, 3, none, [], 8, 4, 14, 0) := z_ftd (by decide +kernel)
theorem t36_52 : z_ft 36 52 = some (.return_, 1, none, [], 0, 0, 0, 0) := z_ftd (by decide +kernel)
noncomputable def b36_4 (d : Nat) (y1 : Nat) (y2 : Int32) (y3 : Int32) (S : z_S) : Option z_S := zk kV z_X0 d 36 4 [.ref 22, .ref y1, .int y2, .int y3, z_j] [] S
noncomputable def b36_41 (d : Nat) (y1 : Nat) (y2 : Int32) (y3 : Int32) (S : z_S) : Option z_S := zk kV z_X0 d 36 41 [.ref 22, .ref y1, .int y2, .int y3, z_j] [] S
theorem b36_4_eq (d : Nat) (y1 : Nat) (y2 : Int32) (y3 : Int32) (S : z_S) (hW : z_W S) (hy1 : z_K y1 = 8) : b36_4 d y1 y2 y3 S = (if (gI S y1 4) ≤ y3 then some (sI S y1 4 y2) else (if z_in y3 6 then (zb (fI d 33 [.ref 22, .ref y1, .int (gI S (y1 + 4) (y3).toNatClampNeg)] S) fun v3 S4 => (if ¬ v3 = (0 : Int32) then b36_41 d y1 y2 y3 S4 else (if z_in y2 6 then b36_41 d y1 (y2 + (1 : Int32)) y3 (sI S4 (y1 + 4) (y2).toNatClampNeg (gI S (y1 + 4) (y3).toNatClampNeg)) else none))) else none)) := by
  unfold b36_4
  refine (k_iload_n t36_4 rfl rfl).trans ?_
  refine (k_aload_n t36_5 rfl rfl).trans ?_
  refine (k_getI t36_6 rfl hW hy1 (by decide) (by decide)).trans ?_
  refine (k_icmp_ge t36_9 rfl).trans (z_ite (fun g1 => ?_) (fun g1 => ?_))
  · refine (k_aload_n t36_47 rfl rfl).trans ?_
    refine (k_iload_n t36_48 rfl rfl).trans ?_
    refine (k_putI t36_49 rfl hW hy1 (by decide) (by decide) (by decide)).trans ?_
    exact k_return t36_52 rfl (by decide)
  · refine (k_aload_n t36_12 rfl rfl).trans ?_
    refine (k_getR t36_13 rfl hW hy1 (by decide) (by decide) (zO_8_8 hW hy1)).trans ?_
    refine (k_iload_n t36_16 rfl rfl).trans ?_
    refine (k_iald t36_17 rfl hW (zOK_8_8 hy1) (zOL_8_8 hy1)).trans (z_ite (fun g2 => ?_) (fun _ => rfl))
    refine (k_istore (ls' := [.ref 22, .ref y1, .int y2, .int y3, .int (gI S (y1 + 4) (y3).toNatClampNeg)]) t36_18 rfl rfl).trans ?_
    refine (k_aload_n t36_20 rfl rfl).trans ?_
    refine (k_aload_n t36_21 rfl rfl).trans ?_
    refine (k_iload t36_22 rfl rfl).trans ?_
    refine k_callI (as := [.ref 22, .ref y1, .int (gI S (y1 + 4) (y3).toNatClampNeg)]) (rest := []) t36_24 rfl rfl (by decide) rfl rfl (Nat.le_of_ble_eq_true rfl) rfl (z_rcV hW (zK_22) (by decide)) (by decide) (Or.inr (by decide)) hW (fun v3 S4 hW4 => ?_)
    refine (k_if_ne t36_27 rfl).trans (z_ite (fun g5 => ?_) (fun g5 => ?_))
    · exact (zk_mk (ls' := [.ref 22, .ref y1, .int y2, .int y3, z_j]) t36_41 rfl)
    · refine (k_aload_n t36_30 rfl rfl).trans ?_
      refine (k_getR t36_31 rfl hW4 hy1 (by decide) (by decide) (zO_8_8 hW4 hy1)).trans ?_
      refine (k_iload_n t36_34 rfl rfl).trans ?_
      refine (k_iload t36_35 rfl rfl).trans ?_
      refine (k_iast t36_37 rfl hW4 (zOK_8_8 hy1) (zOL_8_8 hy1)).trans (z_ite (fun g6 => ?_) (fun _ => rfl))
      refine (k_iinc (b := (y2 + (1 : Int32))) (ls' := [.ref 22, .ref y1, .int (y2 + (1 : Int32)), .int y3, .int (gI S (y1 + 4) (y3).toNatClampNeg)]) t36_38 rfl rfl (by rw [zci_1]) rfl).trans ?_
      exact (zk_mk (ls' := [.ref 22, .ref y1, .int (y2 + (1 : Int32)), .int y3, z_j]) t36_41 rfl)
theorem b36_41_eq (d : Nat) (y1 : Nat) (y2 : Int32) (y3 : Int32) (S : z_S) (hW : z_W S) (hy1 : z_K y1 = 8) : b36_41 d y1 y2 y3 S = b36_4 d y1 y2 (y3 + (1 : Int32)) S := by
  unfold b36_41
  refine (k_iinc (b := (y3 + (1 : Int32))) (ls' := [.ref 22, .ref y1, .int y2, .int (y3 + (1 : Int32)), z_j]) t36_41 rfl rfl (by rw [zci_1]) rfl).trans ?_
  refine (k_goto t36_44 rfl).trans ?_
  exact (zk_mk (ls' := [.ref 22, .ref y1, .int y2, .int (y3 + (1 : Int32)), z_j]) t36_4 rfl)
-- X2_seatFromBench
theorem e36 (d : Nat) (p1 : Nat) (S : z_S) (hW : z_W S) (hp1 : z_K p1 = 8) : fV (d + 1) 36 [.ref 22, .ref p1] S = b36_4 d p1 (0 : Int32) (0 : Int32) S := by
  refine (fV_en (Nat.le_of_ble_eq_true rfl) rfl).trans ?_
  refine (k_iconst t36_0 rfl zci_0).trans ?_
  refine (k_istore_n (ls' := [.ref 22, .ref p1, .int (0 : Int32), z_j, z_j]) t36_1 rfl rfl).trans ?_
  refine (k_iconst t36_2 rfl zci_0).trans ?_
  refine (k_istore_n (ls' := [.ref 22, .ref p1, .int (0 : Int32), .int (0 : Int32), z_j]) t36_3 rfl rfl).trans ?_
  exact (zk_mk (ls' := [.ref 22, .ref p1, .int (0 : Int32), .int (0 : Int32), z_j]) t36_4 rfl)
theorem t37_0 : z_ft 37 0 = some (.iconst 0, 1, none, [], 0, 0, 0, 0) := z_ftd (by decide +kernel)
theorem t37_1 : z_ft 37 1 = some (.istore_n 2, 1, none, [], 0, 0, 0, 0) := z_ftd (by decide +kernel)
theorem t37_2 : z_ft 37 2 = some (.iconst 0, 1, none, [], 0, 0, 0, 0) := z_ftd (by decide +kernel)
theorem t37_3 : z_ft 37 3 = some (.istore_n 3, 1, none, [], 0, 0, 0, 0) := z_ftd (by decide +kernel)
theorem t37_4 : z_ft 37 4 = some (.iload_n 3, 1, (some [0, 1, 2, 3]), [], 0, 0, 0, 0) := z_ftd (by decide +kernel)
theorem t37_5 : z_ft 37 5 = some (.aload_n 0, 1, none, [], 0, 0, 0, 0) := z_ftd (by decide +kernel)
theorem t37_6 : z_ft 37 6 = some (.getfield 25, 3, none, [], 2, 0, 7, 0) := z_ftd (by decide +kernel)
theorem t37_9 : z_ft 37 9 = some (.getfield 93, 3, none, [], 6, 1, 0, 0) := z_ftd (by decide +kernel)
theorem t37_12 : z_ft 37 12 = some (.if_icmp .ge 96, 3, none, [], 108, 0, 0, 0) := z_ftd (by decide +kernel)
theorem t37_15 : z_ft 37 15 = some (.aload_n 1, 1, none, [], 0, 0, 0, 0) := z_ftd (by decide +kernel)
theorem t37_16 : z_ft 37 16 = some (.getfield 45, 3, none, [], 8, 5, 15, 0) := z_ftd (by decide +kernel)
theorem t37_19 : z_ft 37 19 = some (.iload_n 3, 1, none, [], 0, 0, 0, 0) := z_ftd (by decide +kernel)
theorem t37_20 : z_ft 37 20 = some (.iaload, 1, none, [], 0, 0, 0, 0) := z_ftd (by decide +kernel)
theorem t37_21 : z_ft 37 21 = some (.istore 4, 2, none, [], 0, 0, 0, 0) := z_ftd (by decide +kernel)
theorem t37_23 : z_ft 37 23 = some (.iload 4, 2, none, [], 0, 0, 0, 0) := z_ftd (by decide +kernel)
theorem t37_25 : z_ft 37 25 = some (.iconst (-1), 1, none, [], 0, 0, 0, 0) := z_ftd (by decide +kernel)
theorem t37_26 : z_ft 37 26 = some (.if_icmp .eq 67, 3, none, [], 93, 0, 0, 0) := z_ftd (by decide +kernel)
theorem t37_29 : z_ft 37 29 = some (.aload_n 0, 1, none, [], 0, 0, 0, 0) := z_ftd (by decide +kernel)
theorem t37_30 : z_ft 37 30 = some (.getfield 25, 3, none, [], 2, 0, 7, 0) := z_ftd (by decide +kernel)
theorem t37_33 : z_ft 37 33 = some (.iconst 2, 1, none, [], 0, 0, 0, 0) := z_ftd (by decide +kernel)
theorem t37_34 : z_ft 37 34 = some (.invokevirtual 69, 3, none, [], 60, 0, 22, 0) := z_ftd (by decide +kernel)
theorem t37_37 : z_ft 37 37 = some (.ifCond .eq 56, 3, none, [], 93, 0, 0, 0) := z_ftd (by decide +kernel)
theorem t37_40 : z_ft 37 40 = some (.aload_n 0, 1, none, [], 0, 0, 0, 0) := z_ftd (by decide +kernel)
theorem t37_41 : z_ft 37 41 = some (.getfield 12, 3, none, [], 2, 1, 8, 0) := z_ftd (by decide +kernel)
theorem t37_44 : z_ft 37 44 = some (.aload_n 0, 1, none, [], 0, 0, 0, 0) := z_ftd (by decide +kernel)
theorem t37_45 : z_ft 37 45 = some (.getfield 25, 3, none, [], 2, 0, 7, 0) := z_ftd (by decide +kernel)
theorem t37_48 : z_ft 37 48 = some (.iconst 2, 1, none, [], 0, 0, 0, 0) := z_ftd (by decide +kernel)
theorem t37_49 : z_ft 37 49 = some (.aload_n 1, 1, none, [], 0, 0, 0, 0) := z_ftd (by decide +kernel)
theorem t37_50 : z_ft 37 50 = some (.iload 4, 2, none, [], 0, 0, 0, 0) := z_ftd (by decide +kernel)
theorem t37_52 : z_ft 37 52 = some (.aload_n 0, 1, none, [], 0, 0, 0, 0) := z_ftd (by decide +kernel)
theorem t37_53 : z_ft 37 53 = some (.getfield 25, 3, none, [], 2, 0, 7, 0) := z_ftd (by decide +kernel)
theorem t37_56 : z_ft 37 56 = some (.getfield 33, 3, none, [], 6, 10, 3, 0) := z_ftd (by decide +kernel)
theorem t37_59 : z_ft 37 59 = some (.iload 4, 2, none, [], 0, 0, 0, 0) := z_ftd (by decide +kernel)
theorem t37_61 : z_ft 37 61 = some (.iaload, 1, none, [], 0, 0, 0, 0) := z_ftd (by decide +kernel)
theorem t37_62 : z_ft 37 62 = some (.iload_n 3, 1, none, [], 0, 0, 0, 0) := z_ftd (by decide +kernel)
theorem t37_63 : z_ft 37 63 = some (.if_icmp .ne 7, 3, none, [], 70, 0, 0, 0) := z_ftd (by decide +kernel)
theorem t37_66 : z_ft 37 66 = some (.iconst 1, 1, none, [], 0, 0, 0, 0) := z_ftd (by decide +kernel)
theorem t37_67 : z_ft 37 67 = some (.goto 4, 3, none, [], 71, 0, 0, 0) := z_ftd (by decide +kernel)
theorem t37_70 : z_ft 37 70 = some (.iconst 0, 1, none, [], 0, 0, 0, 0) := z_ftd (by decide +kernel)
theorem t37_71 : z_ft 37 71 = some (.invokevirtual 72, 3, (some [0, 1, 2, 3]), [], 68, 0, 23, 0) := z_ftd (by decide +kernel)
theorem t37_74 : z_ft 37 74 = some (.istore 5, 2, none, [], 0, 0, 0, 0) := z_ftd (by decide +kernel)
theorem t37_76 : z_ft 37 76 = some (.iload_n 2, 1, none, [], 0, 0, 0, 0) := z_ftd (by decide +kernel)
theorem t37_77 : z_ft 37 77 = some (.iconst 0, 1, none, [], 0, 0, 0, 0) := z_ftd (by decide +kernel)
theorem t37_78 : z_ft 37 78 = some (.bipush 99, 2, none, [], 0, 0, 0, 0) := z_ftd (by decide +kernel)
theorem t37_80 : z_ft 37 80 = some (.iload 5, 2, none, [], 0, 0, 0, 0) := z_ftd (by decide +kernel)
theorem t37_82 : z_ft 37 82 = some (.invokestatic 96, 3, none, [], 279, 0, 28, 0) := z_ftd (by decide +kernel)
theorem t37_85 : z_ft 37 85 = some (.invokestatic 101, 3, none, [], 277, 0, 29, 0) := z_ftd (by decide +kernel)
theorem t37_88 : z_ft 37 88 = some (.iadd, 1, none, [], 0, 0, 0, 0) := z_ftd (by decide +kernel)
theorem t37_89 : z_ft 37 89 = some (.istore_n 2, 1, none, [], 0, 0, 0, 0) := z_ftd (by decide +kernel)
theorem t37_90 : z_ft 37 90 = some (.goto 12, 3, none, [], 102, 0, 0, 0) := z_ftd (by decide +kernel)
theorem t37_93 : z_ft 37 93 = some (.iload 4, 2, (some [0, 1, 2, 3, 4]), [], 0, 0, 0, 0) := z_ftd (by decide +kernel)
theorem t37_95 : z_ft 37 95 = some (.iconst (-1), 1, none, [], 0, 0, 0, 0) := z_ftd (by decide +kernel)
theorem t37_96 : z_ft 37 96 = some (.if_icmp .eq 6, 3, none, [], 102, 0, 0, 0) := z_ftd (by decide +kernel)
theorem t37_99 : z_ft 37 99 = some (.iinc 2 1, 3, none, [], 0, 0, 0, 0) := z_ftd (by decide +kernel)
theorem t37_102 : z_ft 37 102 = some (.iinc 3 1, 3, (some [0, 1, 2, 3]), [], 0, 0, 0, 0) := z_ftd (by decide +kernel)
theorem t37_105 : z_ft 37 105 = some (.goto (-101), 3, none, [], 4, 0, 0, 0) := z_ftd (by decide +kernel)
theorem t37_108 : z_ft 37 108 = some (.aload_n 1, 1, none, [], 0, 0, 0, 0) := z_ftd (by decide +kernel)
theorem t37_109 : z_ft 37 109 = some (.ldc 104, 2, none, [], 0, 0, 30, 999999) := z_ftd (by decide +kernel)
theorem t37_111 : z_ft 37 111 = some (.aload_n 1, 1, none, [], 0, 0, 0, 0) := z_ftd (by decide +kernel)
theorem t37_112 : z_ft 37 112 = some (.getfield 105, 3, none, [], 8, 1, 12, 0) := z_ftd (by decide +kernel)
theorem t37_115 : z_ft 37 115 = some (.iload_n 2, 1, none, [], 0, 0, 0, 0) := z_ftd (by decide +kernel)
theorem t37_116 : z_ft 37 116 = some (.iadd, 1, none, [], 0, 0, 0, 0) := z_ftd (by decide +kernel)
theorem t37_117 : z_ft 37 117 = some (.invokestatic 96, 3, none, [], 279, 0, 28, 0) := z_ftd (by decide +kernel)
theorem t37_120 : z_ft 37 120 = some (.putfield 105, 3, none, [], 8, 1, 12, 0) := z_ftd (by decide +kernel)
theorem t37_123 : z_ft 37 123 = some (.iload_n 2, 1, none, [], 0, 0, 0, 0) := z_ftd (by decide +kernel)
theorem t37_124 : z_ft 37 124 = some (.ireturn, 1, none, [], 0, 0, 0, 0) := z_ftd (by decide +kernel)
noncomputable def b37_4 (d : Nat) (y1 : Nat) (y2 : Int32) (y3 : Int32) (S : z_S) : Option (Int32 × z_S) := zk kI z_X0 d 37 4 [.ref 22, .ref y1, .int y2, .int y3, z_j, z_j] [] S
noncomputable def b37_93 (d : Nat) (y1 : Nat) (y2 : Int32) (y3 : Int32) (y4 : Int32) (S : z_S) : Option (Int32 × z_S) := zk kI z_X0 d 37 93 [.ref 22, .ref y1, .int y2, .int y3, .int y4, z_j] [] S
noncomputable def b37_71 (d : Nat) (y1 : Nat) (y2 : Int32) (y3 : Int32) (s0 : Int32) (s1 : Int32) (s2 : Nat) (s3 : Int32) (s4 : Nat) (S : z_S) : Option (Int32 × z_S) := zk kI z_X0 d 37 71 [.ref 22, .ref y1, .int y2, .int y3, z_j, z_j] [.int s0, .int s1, .ref s2, .int s3, .ref s4, .ref 23] S
noncomputable def b37_102 (d : Nat) (y1 : Nat) (y2 : Int32) (y3 : Int32) (S : z_S) : Option (Int32 × z_S) := zk kI z_X0 d 37 102 [.ref 22, .ref y1, .int y2, .int y3, z_j, z_j] [] S
theorem b37_4_eq (d : Nat) (y1 : Nat) (y2 : Int32) (y3 : Int32) (S : z_S) (hW : z_W S) (hy1 : z_K y1 = 8) : b37_4 d y1 y2 y3 S = (if (gI S (gP S 22 0) 1) ≤ y3 then (zb (fI d 279 [.int (999999 : Int32), .int ((gI S y1 1) + y2)] S) fun v2 S3 => some (y2, sI S3 y1 1 v2)) else (if z_in y3 16 then (if (gI S (y1 + 1) (y3).toNatClampNeg) = (-1 : Int32) then b37_93 d y1 y2 y3 (gI S (y1 + 1) (y3).toNatClampNeg) S else (zb (fI d 60 [.ref (gP S 22 0), .int (2 : Int32)] S) fun v6 S7 => (if v6 = (0 : Int32) then b37_93 d y1 y2 y3 (gI S (y1 + 1) (y3).toNatClampNeg) S7 else (if z_in (gI S (y1 + 1) (y3).toNatClampNeg) 16 then (if ¬ (gI S7 ((gP S7 22 0) + 2) ((gI S (y1 + 1) (y3).toNatClampNeg)).toNatClampNeg) = y3 then b37_71 d y1 y2 y3 (0 : Int32) (gI S (y1 + 1) (y3).toNatClampNeg) y1 (2 : Int32) (gP S7 22 0) S7 else b37_71 d y1 y2 y3 (1 : Int32) (gI S (y1 + 1) (y3).toNatClampNeg) y1 (2 : Int32) (gP S7 22 0) S7) else none)))) else none)) := by
  unfold b37_4
  refine (k_iload_n t37_4 rfl rfl).trans ?_
  refine (k_aload_n t37_5 rfl rfl).trans ?_
  refine (k_getR t37_6 rfl hW zK_22 (by decide) (by decide) (zM_22_0 hW).1).trans ?_
  refine (k_getI t37_9 rfl hW (zM_22_0 hW).2 (by decide) (by decide)).trans ?_
  refine (k_icmp_ge t37_12 rfl).trans (z_ite (fun g1 => ?_) (fun g1 => ?_))
  · refine (k_aload_n t37_108 rfl rfl).trans ?_
    refine (k_ldc t37_109 rfl rfl zci_999999).trans ?_
    refine (k_aload_n t37_111 rfl rfl).trans ?_
    refine (k_getI t37_112 rfl hW hy1 (by decide) (by decide)).trans ?_
    refine (k_iload_n t37_115 rfl rfl).trans ?_
    refine (k_iadd t37_116 rfl).trans ?_
    refine k_callI (as := [.int (999999 : Int32), .int ((gI S y1 1) + y2)]) (rest := [.ref y1]) t37_117 rfl rfl (by decide) rfl rfl (Nat.le_of_ble_eq_true rfl) rfl (z_rcS (by decide)) (by decide) (Or.inl (by decide)) hW (fun v2 S3 hW3 => ?_)
    refine (k_putI t37_120 rfl hW3 hy1 (by decide) (by decide) (by decide)).trans ?_
    refine (k_iload_n t37_123 rfl rfl).trans ?_
    exact k_ireturn t37_124 rfl (by decide)
  · refine (k_aload_n t37_15 rfl rfl).trans ?_
    refine (k_getR t37_16 rfl hW hy1 (by decide) (by decide) (zO_8_5 hW hy1)).trans ?_
    refine (k_iload_n t37_19 rfl rfl).trans ?_
    refine (k_iald t37_20 rfl hW (zOK_8_5 hy1) (zOL_8_5 hy1)).trans (z_ite (fun g4 => ?_) (fun _ => rfl))
    refine (k_istore (ls' := [.ref 22, .ref y1, .int y2, .int y3, .int (gI S (y1 + 1) (y3).toNatClampNeg), z_j]) t37_21 rfl rfl).trans ?_
    refine (k_iload t37_23 rfl rfl).trans ?_
    refine (k_iconst t37_25 rfl zci_m1).trans ?_
    refine (k_icmp_eq t37_26 rfl).trans (z_ite (fun g5 => ?_) (fun g5 => ?_))
    · exact (zk_mk (ls' := [.ref 22, .ref y1, .int y2, .int y3, .int (gI S (y1 + 1) (y3).toNatClampNeg), z_j]) t37_93 rfl)
    · refine (k_aload_n t37_29 rfl rfl).trans ?_
      refine (k_getR t37_30 rfl hW zK_22 (by decide) (by decide) (zM_22_0 hW).1).trans ?_
      refine (k_iconst t37_33 rfl zci_2).trans ?_
      refine k_callI (as := [.ref (gP S 22 0), .int (2 : Int32)]) (rest := []) t37_34 rfl rfl (by decide) rfl rfl (Nat.le_of_ble_eq_true rfl) rfl (z_rcV hW ((zM_22_0 hW).2) (by decide)) (by decide) (Or.inr (by decide)) hW (fun v6 S7 hW7 => ?_)
      refine (k_if_eq t37_37 rfl).trans (z_ite (fun g8 => ?_) (fun g8 => ?_))
      · exact (zk_mk (ls' := [.ref 22, .ref y1, .int y2, .int y3, .int (gI S (y1 + 1) (y3).toNatClampNeg), z_j]) t37_93 rfl)
      · refine (k_aload_n t37_40 rfl rfl).trans ?_
        refine (k_getR t37_41 rfl hW7 zK_22 (by decide) (by decide) (zF_22_1 hW7)).trans ?_
        refine (k_aload_n t37_44 rfl rfl).trans ?_
        refine (k_getR t37_45 rfl hW7 zK_22 (by decide) (by decide) (zM_22_0 hW7).1).trans ?_
        refine (k_iconst t37_48 rfl zci_2).trans ?_
        refine (k_aload_n t37_49 rfl rfl).trans ?_
        refine (k_iload t37_50 rfl rfl).trans ?_
        refine (k_aload_n t37_52 rfl rfl).trans ?_
        refine (k_getR t37_53 rfl hW7 zK_22 (by decide) (by decide) (zM_22_0 hW7).1).trans ?_
        refine (k_getR t37_56 rfl hW7 (zM_22_0 hW7).2 (by decide) (by decide) (zO_6_10 hW7 (zM_22_0 hW7).2)).trans ?_
        refine (k_iload t37_59 rfl rfl).trans ?_
        refine (k_iald t37_61 rfl hW7 (zOK_6_10 (zM_22_0 hW7).2) (zOL_6_10 (zM_22_0 hW7).2)).trans (z_ite (fun g9 => ?_) (fun _ => rfl))
        refine (k_iload_n t37_62 rfl rfl).trans ?_
        refine (k_icmp_ne t37_63 rfl).trans (z_ite (fun g10 => ?_) (fun g10 => ?_))
        · refine (k_iconst t37_70 rfl zci_0).trans ?_
          exact (zk_mk (ls' := [.ref 22, .ref y1, .int y2, .int y3, z_j, z_j]) t37_71 rfl)
        · refine (k_iconst t37_66 rfl zci_1).trans ?_
          refine (k_goto t37_67 rfl).trans ?_
          exact (zk_mk (ls' := [.ref 22, .ref y1, .int y2, .int y3, z_j, z_j]) t37_71 rfl)
theorem b37_93_eq (d : Nat) (y1 : Nat) (y2 : Int32) (y3 : Int32) (y4 : Int32) (S : z_S) (hW : z_W S) (hy1 : z_K y1 = 8) : b37_93 d y1 y2 y3 y4 S = (if y4 = (-1 : Int32) then b37_102 d y1 y2 y3 S else b37_102 d y1 (y2 + (1 : Int32)) y3 S) := by
  unfold b37_93
  refine (k_iload t37_93 rfl rfl).trans ?_
  refine (k_iconst t37_95 rfl zci_m1).trans ?_
  refine (k_icmp_eq t37_96 rfl).trans (z_ite (fun g11 => ?_) (fun g11 => ?_))
  · exact (zk_mk (ls' := [.ref 22, .ref y1, .int y2, .int y3, z_j, z_j]) t37_102 rfl)
  · refine (k_iinc (b := (y2 + (1 : Int32))) (ls' := [.ref 22, .ref y1, .int (y2 + (1 : Int32)), .int y3, .int y4, z_j]) t37_99 rfl rfl (by rw [zci_1]) rfl).trans ?_
    exact (zk_mk (ls' := [.ref 22, .ref y1, .int (y2 + (1 : Int32)), .int y3, z_j, z_j]) t37_102 rfl)
theorem b37_71_eq (d : Nat) (y1 : Nat) (y2 : Int32) (y3 : Int32) (s0 : Int32) (s1 : Int32) (s2 : Nat) (s3 : Int32) (s4 : Nat) (S : z_S) (hW : z_W S) (hy1 : z_K y1 = 8) (hs2 : z_K s2 = 8) (hs4 : z_K s4 = 6) : b37_71 d y1 y2 y3 s0 s1 s2 s3 s4 S = (zb (fI d 68 [.ref 23, .ref s4, .int s3, .ref s2, .int s1, .int s0] S) fun v12 S13 => (zb (fI d 279 [.int (99 : Int32), .int v12] S13) fun v14 S15 => (zb (fI d 277 [.int (0 : Int32), .int v14] S15) fun v16 S17 => b37_102 d y1 (y2 + v16) y3 S17))) := by
  unfold b37_71
  refine k_callI (as := [.ref 23, .ref s4, .int s3, .ref s2, .int s1, .int s0]) (rest := []) t37_71 rfl rfl (by decide) rfl rfl (Nat.le_of_ble_eq_true rfl) rfl (z_rcV hW (zK_23) (by decide)) (by decide) (Or.inl (by decide)) hW (fun v12 S13 hW13 => ?_)
  refine (k_istore (ls' := [.ref 22, .ref y1, .int y2, .int y3, z_j, .int v12]) t37_74 rfl rfl).trans ?_
  refine (k_iload_n t37_76 rfl rfl).trans ?_
  refine (k_iconst t37_77 rfl zci_0).trans ?_
  refine (k_bipush t37_78 rfl zcb_99).trans ?_
  refine (k_iload t37_80 rfl rfl).trans ?_
  refine k_callI (as := [.int (99 : Int32), .int v12]) (rest := [.int (0 : Int32), .int y2]) t37_82 rfl rfl (by decide) rfl rfl (Nat.le_of_ble_eq_true rfl) rfl (z_rcS (by decide)) (by decide) (Or.inl (by decide)) hW13 (fun v14 S15 hW15 => ?_)
  refine k_callI (as := [.int (0 : Int32), .int v14]) (rest := [.int y2]) t37_85 rfl rfl (by decide) rfl rfl (Nat.le_of_ble_eq_true rfl) rfl (z_rcS (by decide)) (by decide) (Or.inl (by decide)) hW15 (fun v16 S17 hW17 => ?_)
  refine (k_iadd t37_88 rfl).trans ?_
  refine (k_istore_n (ls' := [.ref 22, .ref y1, .int (y2 + v16), .int y3, z_j, .int v12]) t37_89 rfl rfl).trans ?_
  refine (k_goto t37_90 rfl).trans ?_
  exact (zk_mk (ls' := [.ref 22, .ref y1, .int (y2 + v16), .int y3, z_j, z_j]) t37_102 rfl)
theorem b37_102_eq (d : Nat) (y1 : Nat) (y2 : Int32) (y3 : Int32) (S : z_S) (hW : z_W S) (hy1 : z_K y1 = 8) : b37_102 d y1 y2 y3 S = b37_4 d y1 y2 (y3 + (1 : Int32)) S := by
  unfold b37_102
  refine (k_iinc (b := (y3 + (1 : Int32))) (ls' := [.ref 22, .ref y1, .int y2, .int (y3 + (1 : Int32)), z_j, z_j]) t37_102 rfl rfl (by rw [zci_1]) rfl).trans ?_
  refine (k_goto t37_105 rfl).trans ?_
  exact (zk_mk (ls' := [.ref 22, .ref y1, .int y2, .int (y3 + (1 : Int32)), z_j, z_j]) t37_4 rfl)
-- X2_collectRents
theorem e37 (d : Nat) (p1 : Nat) (S : z_S) (hW : z_W S) (hp1 : z_K p1 = 8) : fI (d + 1) 37 [.ref 22, .ref p1] S = b37_4 d p1 (0 : Int32) (0 : Int32) S := by
  refine (fI_en (Nat.le_of_ble_eq_true rfl) rfl).trans ?_
  refine (k_iconst t37_0 rfl zci_0).trans ?_
  refine (k_istore_n (ls' := [.ref 22, .ref p1, .int (0 : Int32), z_j, z_j, z_j]) t37_1 rfl rfl).trans ?_
  refine (k_iconst t37_2 rfl zci_0).trans ?_
  refine (k_istore_n (ls' := [.ref 22, .ref p1, .int (0 : Int32), .int (0 : Int32), z_j, z_j]) t37_3 rfl rfl).trans ?_
  exact (zk_mk (ls' := [.ref 22, .ref p1, .int (0 : Int32), .int (0 : Int32), z_j, z_j]) t37_4 rfl)
theorem t39_0 : z_ft 39 0 = some (.iconst 0, 1, none, [], 0, 0, 0, 0) := z_ftd (by decide +kernel)
theorem t39_1 : z_ft 39 1 = some (.istore_n 2, 1, none, [], 0, 0, 0, 0) := z_ftd (by decide +kernel)
theorem t39_2 : z_ft 39 2 = some (.iload_n 2, 1, (some [0, 1, 2]), [], 0, 0, 0, 0) := z_ftd (by decide +kernel)
theorem t39_3 : z_ft 39 3 = some (.aload_n 0, 1, none, [], 0, 0, 0, 0) := z_ftd (by decide +kernel)
theorem t39_4 : z_ft 39 4 = some (.getfield 25, 3, none, [], 2, 0, 7, 0) := z_ftd (by decide +kernel)
theorem t39_7 : z_ft 39 7 = some (.getfield 108, 3, none, [], 6, 6, 2, 0) := z_ftd (by decide +kernel)
theorem t39_10 : z_ft 39 10 = some (.if_icmp .ge 36, 3, none, [], 46, 0, 0, 0) := z_ftd (by decide +kernel)
theorem t39_13 : z_ft 39 13 = some (.aload_n 1, 1, none, [], 0, 0, 0, 0) := z_ftd (by decide +kernel)
theorem t39_14 : z_ft 39 14 = some (.iload_n 2, 1, none, [], 0, 0, 0, 0) := z_ftd (by decide +kernel)
theorem t39_15 : z_ft 39 15 = some (.invokevirtual 111, 3, none, [], 77, 0, 32, 0) := z_ftd (by decide +kernel)
theorem t39_18 : z_ft 39 18 = some (.ifCond .eq 22, 3, none, [], 40, 0, 0, 0) := z_ftd (by decide +kernel)
theorem t39_21 : z_ft 39 21 = some (.aload_n 1, 1, none, [], 0, 0, 0, 0) := z_ftd (by decide +kernel)
theorem t39_22 : z_ft 39 22 = some (.getfield 114, 3, none, [], 8, 7, 16, 0) := z_ftd (by decide +kernel)
theorem t39_25 : z_ft 39 25 = some (.iload_n 2, 1, none, [], 0, 0, 0, 0) := z_ftd (by decide +kernel)
theorem t39_26 : z_ft 39 26 = some (.bipush 99, 2, none, [], 0, 0, 0, 0) := z_ftd (by decide +kernel)
theorem t39_28 : z_ft 39 28 = some (.aload_n 1, 1, none, [], 0, 0, 0, 0) := z_ftd (by decide +kernel)
theorem t39_29 : z_ft 39 29 = some (.getfield 114, 3, none, [], 8, 7, 16, 0) := z_ftd (by decide +kernel)
theorem t39_32 : z_ft 39 32 = some (.iload_n 2, 1, none, [], 0, 0, 0, 0) := z_ftd (by decide +kernel)
theorem t39_33 : z_ft 39 33 = some (.iaload, 1, none, [], 0, 0, 0, 0) := z_ftd (by decide +kernel)
theorem t39_34 : z_ft 39 34 = some (.iconst 1, 1, none, [], 0, 0, 0, 0) := z_ftd (by decide +kernel)
theorem t39_35 : z_ft 39 35 = some (.iadd, 1, none, [], 0, 0, 0, 0) := z_ftd (by decide +kernel)
theorem t39_36 : z_ft 39 36 = some (.invokestatic 96, 3, none, [], 279, 0, 28, 0) := z_ftd (by decide +kernel)
theorem t39_39 : z_ft 39 39 = some (.iastore, 1, none, [], 0, 0, 0, 0) := z_ftd (by decide +kernel)
theorem t39_40 : z_ft 39 40 = some (.iinc 2 1, 3, (some [0, 1, 2]), [], 0, 0, 0, 0) := z_ftd (by decide +kernel)
theorem t39_43 : z_ft 39 43 = some (.goto (-41), 3, none, [], 2, 0, 0, 0) := z_ftd (by decide +kernel)
theorem t39_46 : z_ft 39 46 = some (.iconst 0, 1, none, [], 0, 0, 0, 0) := z_ftd (by decide +kernel)
theorem t39_47 : z_ft 39 47 = some (.istore_n 2, 1, none, [], 0, 0, 0, 0) := z_ftd (by decide +kernel)
theorem t39_48 : z_ft 39 48 = some (.iload_n 2, 1, (some [0, 1, 2]), [], 0, 0, 0, 0) := z_ftd (by decide +kernel)
theorem t39_49 : z_ft 39 49 = some (.aload_n 0, 1, none, [], 0, 0, 0, 0) := z_ftd (by decide +kernel)
theorem t39_50 : z_ft 39 50 = some (.getfield 25, 3, none, [], 2, 0, 7, 0) := z_ftd (by decide +kernel)
theorem t39_53 : z_ft 39 53 = some (.getfield 108, 3, none, [], 6, 6, 2, 0) := z_ftd (by decide +kernel)
theorem t39_56 : z_ft 39 56 = some (.if_icmp .ge 54, 3, none, [], 110, 0, 0, 0) := z_ftd (by decide +kernel)
theorem t39_59 : z_ft 39 59 = some (.aload_n 0, 1, none, [], 0, 0, 0, 0) := z_ftd (by decide +kernel)
theorem t39_60 : z_ft 39 60 = some (.getfield 25, 3, none, [], 2, 0, 7, 0) := z_ftd (by decide +kernel)
theorem t39_63 : z_ft 39 63 = some (.iconst 1, 1, none, [], 0, 0, 0, 0) := z_ftd (by decide +kernel)
theorem t39_64 : z_ft 39 64 = some (.invokevirtual 69, 3, none, [], 60, 0, 22, 0) := z_ftd (by decide +kernel)
theorem t39_67 : z_ft 39 67 = some (.ifCond .eq 43, 3, none, [], 110, 0, 0, 0) := z_ftd (by decide +kernel)
theorem t39_70 : z_ft 39 70 = some (.aload_n 1, 1, none, [], 0, 0, 0, 0) := z_ftd (by decide +kernel)
theorem t39_71 : z_ft 39 71 = some (.iload_n 2, 1, none, [], 0, 0, 0, 0) := z_ftd (by decide +kernel)
theorem t39_72 : z_ft 39 72 = some (.invokevirtual 111, 3, none, [], 77, 0, 32, 0) := z_ftd (by decide +kernel)
theorem t39_75 : z_ft 39 75 = some (.ifCond .eq 29, 3, none, [], 104, 0, 0, 0) := z_ftd (by decide +kernel)
theorem t39_78 : z_ft 39 78 = some (.aload_n 0, 1, none, [], 0, 0, 0, 0) := z_ftd (by decide +kernel)
theorem t39_79 : z_ft 39 79 = some (.getfield 12, 3, none, [], 2, 1, 8, 0) := z_ftd (by decide +kernel)
theorem t39_82 : z_ft 39 82 = some (.aload_n 0, 1, none, [], 0, 0, 0, 0) := z_ftd (by decide +kernel)
theorem t39_83 : z_ft 39 83 = some (.getfield 25, 3, none, [], 2, 0, 7, 0) := z_ftd (by decide +kernel)
theorem t39_86 : z_ft 39 86 = some (.iconst 1, 1, none, [], 0, 0, 0, 0) := z_ftd (by decide +kernel)
theorem t39_87 : z_ft 39 87 = some (.aload_n 1, 1, none, [], 0, 0, 0, 0) := z_ftd (by decide +kernel)
theorem t39_88 : z_ft 39 88 = some (.iload_n 2, 1, none, [], 0, 0, 0, 0) := z_ftd (by decide +kernel)
theorem t39_89 : z_ft 39 89 = some (.aload_n 1, 1, none, [], 0, 0, 0, 0) := z_ftd (by decide +kernel)
theorem t39_90 : z_ft 39 90 = some (.getfield 87, 3, none, [], 8, 4, 14, 0) := z_ftd (by decide +kernel)
theorem t39_93 : z_ft 39 93 = some (.invokevirtual 72, 3, none, [], 68, 0, 23, 0) := z_ftd (by decide +kernel)
theorem t39_96 : z_ft 39 96 = some (.ifCond .eq 8, 3, none, [], 104, 0, 0, 0) := z_ftd (by decide +kernel)
theorem t39_99 : z_ft 39 99 = some (.aload_n 1, 1, none, [], 0, 0, 0, 0) := z_ftd (by decide +kernel)
theorem t39_100 : z_ft 39 100 = some (.iload_n 2, 1, none, [], 0, 0, 0, 0) := z_ftd (by decide +kernel)
theorem t39_101 : z_ft 39 101 = some (.invokevirtual 117, 3, none, [], 81, 0, 33, 0) := z_ftd (by decide +kernel)
theorem t39_104 : z_ft 39 104 = some (.iinc 2 1, 3, (some [0, 1, 2]), [], 0, 0, 0, 0) := z_ftd (by decide +kernel)
theorem t39_107 : z_ft 39 107 = some (.goto (-59), 3, none, [], 48, 0, 0, 0) := z_ftd (by decide +kernel)
theorem t39_110 : z_ft 39 110 = some (.aload_n 1, 1, (some [1]), [], 0, 0, 0, 0) := z_ftd (by decide +kernel)
theorem t39_111 : z_ft 39 111 = some (.sipush 999, 3, none, [], 0, 0, 0, 0) := z_ftd (by decide +kernel)
theorem t39_114 : z_ft 39 114 = some (.aload_n 1, 1, none, [], 0, 0, 0, 0) := z_ftd (by decide +kernel)
theorem t39_115 : z_ft 39 115 = some (.getfield 121, 3, none, [], 8, 0, 11, 0) := z_ftd (by decide +kernel)
theorem t39_118 : z_ft 39 118 = some (.iconst 1, 1, none, [], 0, 0, 0, 0) := z_ftd (by decide +kernel)
theorem t39_119 : z_ft 39 119 = some (.iadd, 1, none, [], 0, 0, 0, 0) := z_ftd (by decide +kernel)
theorem t39_120 : z_ft 39 120 = some (.invokestatic 96, 3, none, [], 279, 0, 28, 0) := z_ftd (by decide +kernel)
theorem t39_123 : z_ft 39 123 = some (.putfield 121, 3, none, [], 8, 0, 11, 0) := z_ftd (by decide +kernel)
theorem t39_126 : z_ft 39 126 = some (.return_, 1, none, [], 0, 0, 0, 0) := z_ftd (by decide +kernel)
noncomputable def b39_2 (d : Nat) (y1 : Nat) (y2 : Int32) (S : z_S) : Option z_S := zk kV z_X0 d 39 2 [.ref 22, .ref y1, .int y2] [] S
noncomputable def b39_48 (d : Nat) (y1 : Nat) (y2 : Int32) (S : z_S) : Option z_S := zk kV z_X0 d 39 48 [.ref 22, .ref y1, .int y2] [] S
noncomputable def b39_40 (d : Nat) (y1 : Nat) (y2 : Int32) (S : z_S) : Option z_S := zk kV z_X0 d 39 40 [.ref 22, .ref y1, .int y2] [] S
noncomputable def b39_110 (d : Nat) (y1 : Nat) (S : z_S) : Option z_S := zk kV z_X0 d 39 110 [z_j, .ref y1, z_j] [] S
noncomputable def b39_104 (d : Nat) (y1 : Nat) (y2 : Int32) (S : z_S) : Option z_S := zk kV z_X0 d 39 104 [.ref 22, .ref y1, .int y2] [] S
theorem b39_2_eq (d : Nat) (y1 : Nat) (y2 : Int32) (S : z_S) (hW : z_W S) (hy1 : z_K y1 = 8) : b39_2 d y1 y2 S = (if (gI S (gP S 22 0) 6) ≤ y2 then b39_48 d y1 (0 : Int32) S else (zb (fI d 77 [.ref y1, .int y2] S) fun v2 S3 => (if v2 = (0 : Int32) then b39_40 d y1 y2 S3 else (if z_in y2 16 then (zb (fI d 279 [.int (99 : Int32), .int ((gI S3 (y1 + 3) (y2).toNatClampNeg) + (1 : Int32))] S3) fun v6 S7 => (if z_in y2 16 then b39_40 d y1 y2 (sI S7 (y1 + 3) (y2).toNatClampNeg v6) else none)) else none)))) := by
  unfold b39_2
  refine (k_iload_n t39_2 rfl rfl).trans ?_
  refine (k_aload_n t39_3 rfl rfl).trans ?_
  refine (k_getR t39_4 rfl hW zK_22 (by decide) (by decide) (zM_22_0 hW).1).trans ?_
  refine (k_getI t39_7 rfl hW (zM_22_0 hW).2 (by decide) (by decide)).trans ?_
  refine (k_icmp_ge t39_10 rfl).trans (z_ite (fun g1 => ?_) (fun g1 => ?_))
  · refine (k_iconst t39_46 rfl zci_0).trans ?_
    refine (k_istore_n (ls' := [.ref 22, .ref y1, .int (0 : Int32)]) t39_47 rfl rfl).trans ?_
    exact (zk_mk (ls' := [.ref 22, .ref y1, .int (0 : Int32)]) t39_48 rfl)
  · refine (k_aload_n t39_13 rfl rfl).trans ?_
    refine (k_iload_n t39_14 rfl rfl).trans ?_
    refine k_callI (as := [.ref y1, .int y2]) (rest := []) t39_15 rfl rfl (by decide) rfl rfl (Nat.le_of_ble_eq_true rfl) rfl (z_rcV hW (hy1) (by decide)) (by decide) (Or.inr (by decide)) hW (fun v2 S3 hW3 => ?_)
    refine (k_if_eq t39_18 rfl).trans (z_ite (fun g4 => ?_) (fun g4 => ?_))
    · exact (zk_mk (ls' := [.ref 22, .ref y1, .int y2]) t39_40 rfl)
    · refine (k_aload_n t39_21 rfl rfl).trans ?_
      refine (k_getR t39_22 rfl hW3 hy1 (by decide) (by decide) (zO_8_7 hW3 hy1)).trans ?_
      refine (k_iload_n t39_25 rfl rfl).trans ?_
      refine (k_bipush t39_26 rfl zcb_99).trans ?_
      refine (k_aload_n t39_28 rfl rfl).trans ?_
      refine (k_getR t39_29 rfl hW3 hy1 (by decide) (by decide) (zO_8_7 hW3 hy1)).trans ?_
      refine (k_iload_n t39_32 rfl rfl).trans ?_
      refine (k_iald t39_33 rfl hW3 (zOK_8_7 hy1) (zOL_8_7 hy1)).trans (z_ite (fun g5 => ?_) (fun _ => rfl))
      refine (k_iconst t39_34 rfl zci_1).trans ?_
      refine (k_iadd t39_35 rfl).trans ?_
      refine k_callI (as := [.int (99 : Int32), .int ((gI S3 (y1 + 3) (y2).toNatClampNeg) + (1 : Int32))]) (rest := [.int y2, .ref (y1 + 3)]) t39_36 rfl rfl (by decide) rfl rfl (Nat.le_of_ble_eq_true rfl) rfl (z_rcS (by decide)) (by decide) (Or.inl (by decide)) hW3 (fun v6 S7 hW7 => ?_)
      refine (k_iast t39_39 rfl hW7 (zOK_8_7 hy1) (zOL_8_7 hy1)).trans (z_ite (fun g8 => ?_) (fun _ => rfl))
      exact (zk_mk (ls' := [.ref 22, .ref y1, .int y2]) t39_40 rfl)
theorem b39_48_eq (d : Nat) (y1 : Nat) (y2 : Int32) (S : z_S) (hW : z_W S) (hy1 : z_K y1 = 8) : b39_48 d y1 y2 S = (if (gI S (gP S 22 0) 6) ≤ y2 then b39_110 d y1 S else (zb (fI d 60 [.ref (gP S 22 0), .int (1 : Int32)] S) fun v10 S11 => (if v10 = (0 : Int32) then b39_110 d y1 S11 else (zb (fI d 77 [.ref y1, .int y2] S11) fun v13 S14 => (if v13 = (0 : Int32) then b39_104 d y1 y2 S14 else (zb (fI d 68 [.ref 23, .ref (gP S14 22 0), .int (1 : Int32), .ref y1, .int y2, .int (gI S14 y1 4)] S14) fun v16 S17 => (if v16 = (0 : Int32) then b39_104 d y1 y2 S17 else ((fV d 81 [.ref y1, .int y2] S17).bind fun S20 => b39_104 d y1 y2 S20)))))))) := by
  unfold b39_48
  refine (k_iload_n t39_48 rfl rfl).trans ?_
  refine (k_aload_n t39_49 rfl rfl).trans ?_
  refine (k_getR t39_50 rfl hW zK_22 (by decide) (by decide) (zM_22_0 hW).1).trans ?_
  refine (k_getI t39_53 rfl hW (zM_22_0 hW).2 (by decide) (by decide)).trans ?_
  refine (k_icmp_ge t39_56 rfl).trans (z_ite (fun g9 => ?_) (fun g9 => ?_))
  · exact (zk_mk (ls' := [z_j, .ref y1, z_j]) t39_110 rfl)
  · refine (k_aload_n t39_59 rfl rfl).trans ?_
    refine (k_getR t39_60 rfl hW zK_22 (by decide) (by decide) (zM_22_0 hW).1).trans ?_
    refine (k_iconst t39_63 rfl zci_1).trans ?_
    refine k_callI (as := [.ref (gP S 22 0), .int (1 : Int32)]) (rest := []) t39_64 rfl rfl (by decide) rfl rfl (Nat.le_of_ble_eq_true rfl) rfl (z_rcV hW ((zM_22_0 hW).2) (by decide)) (by decide) (Or.inr (by decide)) hW (fun v10 S11 hW11 => ?_)
    refine (k_if_eq t39_67 rfl).trans (z_ite (fun g12 => ?_) (fun g12 => ?_))
    · exact (zk_mk (ls' := [z_j, .ref y1, z_j]) t39_110 rfl)
    · refine (k_aload_n t39_70 rfl rfl).trans ?_
      refine (k_iload_n t39_71 rfl rfl).trans ?_
      refine k_callI (as := [.ref y1, .int y2]) (rest := []) t39_72 rfl rfl (by decide) rfl rfl (Nat.le_of_ble_eq_true rfl) rfl (z_rcV hW11 (hy1) (by decide)) (by decide) (Or.inr (by decide)) hW11 (fun v13 S14 hW14 => ?_)
      refine (k_if_eq t39_75 rfl).trans (z_ite (fun g15 => ?_) (fun g15 => ?_))
      · exact (zk_mk (ls' := [.ref 22, .ref y1, .int y2]) t39_104 rfl)
      · refine (k_aload_n t39_78 rfl rfl).trans ?_
        refine (k_getR t39_79 rfl hW14 zK_22 (by decide) (by decide) (zF_22_1 hW14)).trans ?_
        refine (k_aload_n t39_82 rfl rfl).trans ?_
        refine (k_getR t39_83 rfl hW14 zK_22 (by decide) (by decide) (zM_22_0 hW14).1).trans ?_
        refine (k_iconst t39_86 rfl zci_1).trans ?_
        refine (k_aload_n t39_87 rfl rfl).trans ?_
        refine (k_iload_n t39_88 rfl rfl).trans ?_
        refine (k_aload_n t39_89 rfl rfl).trans ?_
        refine (k_getI t39_90 rfl hW14 hy1 (by decide) (by decide)).trans ?_
        refine k_callI (as := [.ref 23, .ref (gP S14 22 0), .int (1 : Int32), .ref y1, .int y2, .int (gI S14 y1 4)]) (rest := []) t39_93 rfl rfl (by decide) rfl rfl (Nat.le_of_ble_eq_true rfl) rfl (z_rcV hW14 (zK_23) (by decide)) (by decide) (Or.inl (by decide)) hW14 (fun v16 S17 hW17 => ?_)
        refine (k_if_eq t39_96 rfl).trans (z_ite (fun g18 => ?_) (fun g18 => ?_))
        · exact (zk_mk (ls' := [.ref 22, .ref y1, .int y2]) t39_104 rfl)
        · refine (k_aload_n t39_99 rfl rfl).trans ?_
          refine (k_iload_n t39_100 rfl rfl).trans ?_
          refine k_callV (as := [.ref y1, .int y2]) (rest := []) t39_101 rfl rfl (by decide) rfl rfl (Nat.le_of_ble_eq_true rfl) rfl (z_rcV hW17 (hy1) (by decide)) (by decide) (by decide) hW17 (fun S20 hW20 => ?_)
          exact (zk_mk (ls' := [.ref 22, .ref y1, .int y2]) t39_104 rfl)
theorem b39_40_eq (d : Nat) (y1 : Nat) (y2 : Int32) (S : z_S) (hW : z_W S) (hy1 : z_K y1 = 8) : b39_40 d y1 y2 S = b39_2 d y1 (y2 + (1 : Int32)) S := by
  unfold b39_40
  refine (k_iinc (b := (y2 + (1 : Int32))) (ls' := [.ref 22, .ref y1, .int (y2 + (1 : Int32))]) t39_40 rfl rfl (by rw [zci_1]) rfl).trans ?_
  refine (k_goto t39_43 rfl).trans ?_
  exact (zk_mk (ls' := [.ref 22, .ref y1, .int (y2 + (1 : Int32))]) t39_2 rfl)
theorem b39_110_eq (d : Nat) (y1 : Nat) (S : z_S) (hW : z_W S) (hy1 : z_K y1 = 8) : b39_110 d y1 S = (zb (fI d 279 [.int (999 : Int32), .int ((gI S y1 0) + (1 : Int32))] S) fun v21 S22 => some (sI S22 y1 0 v21)) := by
  unfold b39_110
  refine (k_aload_n t39_110 rfl rfl).trans ?_
  refine (k_sipush t39_111 rfl zcs_999).trans ?_
  refine (k_aload_n t39_114 rfl rfl).trans ?_
  refine (k_getI t39_115 rfl hW hy1 (by decide) (by decide)).trans ?_
  refine (k_iconst t39_118 rfl zci_1).trans ?_
  refine (k_iadd t39_119 rfl).trans ?_
  refine k_callI (as := [.int (999 : Int32), .int ((gI S y1 0) + (1 : Int32))]) (rest := [.ref y1]) t39_120 rfl rfl (by decide) rfl rfl (Nat.le_of_ble_eq_true rfl) rfl (z_rcS (by decide)) (by decide) (Or.inl (by decide)) hW (fun v21 S22 hW22 => ?_)
  refine (k_putI t39_123 rfl hW22 hy1 (by decide) (by decide) (by decide)).trans ?_
  exact k_return t39_126 rfl (by decide)
theorem b39_104_eq (d : Nat) (y1 : Nat) (y2 : Int32) (S : z_S) (hW : z_W S) (hy1 : z_K y1 = 8) : b39_104 d y1 y2 S = b39_48 d y1 (y2 + (1 : Int32)) S := by
  unfold b39_104
  refine (k_iinc (b := (y2 + (1 : Int32))) (ls' := [.ref 22, .ref y1, .int (y2 + (1 : Int32))]) t39_104 rfl rfl (by rw [zci_1]) rfl).trans ?_
  refine (k_goto t39_107 rfl).trans ?_
  exact (zk_mk (ls' := [.ref 22, .ref y1, .int (y2 + (1 : Int32))]) t39_48 rfl)
-- X2_endNight
theorem e39 (d : Nat) (p1 : Nat) (S : z_S) (hW : z_W S) (hp1 : z_K p1 = 8) : fV (d + 1) 39 [.ref 22, .ref p1] S = b39_2 d p1 (0 : Int32) S := by
  refine (fV_en (Nat.le_of_ble_eq_true rfl) rfl).trans ?_
  refine (k_iconst t39_0 rfl zci_0).trans ?_
  refine (k_istore_n (ls' := [.ref 22, .ref p1, .int (0 : Int32)]) t39_1 rfl rfl).trans ?_
  exact (zk_mk (ls' := [.ref 22, .ref p1, .int (0 : Int32)]) t39_2 rfl)
theorem t40_0 : z_ft 40 0 = some (.iload_n 2, 1, none, [], 0, 0, 0, 0) := z_ftd (by decide +kernel)
theorem t40_1 : z_ft 40 1 = some (.istore_n 3, 1, none, [], 0, 0, 0, 0) := z_ftd (by decide +kernel)
theorem t40_2 : z_ft 40 2 = some (.iconst 0, 1, none, [], 0, 0, 0, 0) := z_ftd (by decide +kernel)
theorem t40_3 : z_ft 40 3 = some (.istore 4, 2, none, [], 0, 0, 0, 0) := z_ftd (by decide +kernel)
theorem t40_5 : z_ft 40 5 = some (.iload 4, 2, (some [0, 1, 3, 4]), [], 0, 0, 0, 0) := z_ftd (by decide +kernel)
theorem t40_7 : z_ft 40 7 = some (.bipush 16, 2, none, [], 0, 0, 0, 0) := z_ftd (by decide +kernel)
theorem t40_9 : z_ft 40 9 = some (.if_icmp .ge 51, 3, none, [], 60, 0, 0, 0) := z_ftd (by decide +kernel)
theorem t40_12 : z_ft 40 12 = some (.aload_n 1, 1, none, [], 0, 0, 0, 0) := z_ftd (by decide +kernel)
theorem t40_13 : z_ft 40 13 = some (.getfield 124, 3, none, [], 8, 2, 13, 0) := z_ftd (by decide +kernel)
theorem t40_16 : z_ft 40 16 = some (.iload_n 3, 1, none, [], 0, 0, 0, 0) := z_ftd (by decide +kernel)
theorem t40_17 : z_ft 40 17 = some (.ishr, 1, none, [], 0, 0, 0, 0) := z_ftd (by decide +kernel)
theorem t40_18 : z_ft 40 18 = some (.iconst 1, 1, none, [], 0, 0, 0, 0) := z_ftd (by decide +kernel)
theorem t40_19 : z_ft 40 19 = some (.iand, 1, none, [], 0, 0, 0, 0) := z_ftd (by decide +kernel)
theorem t40_20 : z_ft 40 20 = some (.iconst 1, 1, none, [], 0, 0, 0, 0) := z_ftd (by decide +kernel)
theorem t40_21 : z_ft 40 21 = some (.if_icmp .ne 5, 3, none, [], 26, 0, 0, 0) := z_ftd (by decide +kernel)
theorem t40_24 : z_ft 40 24 = some (.iconst (-1), 1, none, [], 0, 0, 0, 0) := z_ftd (by decide +kernel)
theorem t40_25 : z_ft 40 25 = some (.ireturn, 1, none, [], 0, 0, 0, 0) := z_ftd (by decide +kernel)
theorem t40_26 : z_ft 40 26 = some (.aload_n 1, 1, none, [], 0, 0, 0, 0) := z_ftd (by decide +kernel)
theorem t40_27 : z_ft 40 27 = some (.getfield 45, 3, none, [], 8, 5, 15, 0) := z_ftd (by decide +kernel)
theorem t40_30 : z_ft 40 30 = some (.iload_n 3, 1, none, [], 0, 0, 0, 0) := z_ftd (by decide +kernel)
theorem t40_31 : z_ft 40 31 = some (.iaload, 1, none, [], 0, 0, 0, 0) := z_ftd (by decide +kernel)
theorem t40_32 : z_ft 40 32 = some (.istore 5, 2, none, [], 0, 0, 0, 0) := z_ftd (by decide +kernel)
theorem t40_34 : z_ft 40 34 = some (.iload 5, 2, none, [], 0, 0, 0, 0) := z_ftd (by decide +kernel)
theorem t40_36 : z_ft 40 36 = some (.iconst (-1), 1, none, [], 0, 0, 0, 0) := z_ftd (by decide +kernel)
theorem t40_37 : z_ft 40 37 = some (.if_icmp .ne 6, 3, none, [], 43, 0, 0, 0) := z_ftd (by decide +kernel)
theorem t40_40 : z_ft 40 40 = some (.iload 4, 2, none, [], 0, 0, 0, 0) := z_ftd (by decide +kernel)
theorem t40_42 : z_ft 40 42 = some (.ireturn, 1, none, [], 0, 0, 0, 0) := z_ftd (by decide +kernel)
theorem t40_43 : z_ft 40 43 = some (.aload_n 0, 1, none, [], 0, 0, 0, 0) := z_ftd (by decide +kernel)
theorem t40_44 : z_ft 40 44 = some (.getfield 25, 3, none, [], 2, 0, 7, 0) := z_ftd (by decide +kernel)
theorem t40_47 : z_ft 40 47 = some (.iload 5, 2, none, [], 0, 0, 0, 0) := z_ftd (by decide +kernel)
theorem t40_49 : z_ft 40 49 = some (.iload_n 3, 1, none, [], 0, 0, 0, 0) := z_ftd (by decide +kernel)
theorem t40_50 : z_ft 40 50 = some (.invokevirtual 54, 3, none, [], 61, 0, 24, 0) := z_ftd (by decide +kernel)
theorem t40_53 : z_ft 40 53 = some (.istore_n 3, 1, none, [], 0, 0, 0, 0) := z_ftd (by decide +kernel)
theorem t40_54 : z_ft 40 54 = some (.iinc 4 1, 3, none, [], 0, 0, 0, 0) := z_ftd (by decide +kernel)
theorem t40_57 : z_ft 40 57 = some (.goto (-52), 3, none, [], 5, 0, 0, 0) := z_ftd (by decide +kernel)
theorem t40_60 : z_ft 40 60 = some (.iconst (-1), 1, none, [], 0, 0, 0, 0) := z_ftd (by decide +kernel)
theorem t40_61 : z_ft 40 61 = some (.ireturn, 1, none, [], 0, 0, 0, 0) := z_ftd (by decide +kernel)
noncomputable def b40_5 (d : Nat) (y1 : Nat) (y3 : Int32) (y4 : Int32) (S : z_S) : Option (Int32 × z_S) := zk kI z_X0 d 40 5 [.ref 22, .ref y1, z_j, .int y3, .int y4, z_j] [] S
theorem b40_5_eq (d : Nat) (y1 : Nat) (y3 : Int32) (y4 : Int32) (S : z_S) (hW : z_W S) (hy1 : z_K y1 = 8) : b40_5 d y1 y3 y4 S = (if (16 : Int32) ≤ y4 then some ((-1 : Int32), S) else (if ¬ (((gI S y1 2) >>> (y3 &&& 31)) &&& (1 : Int32)) = (1 : Int32) then (if z_in y3 16 then (if ¬ (gI S (y1 + 1) (y3).toNatClampNeg) = (-1 : Int32) then (zb (fI d 61 [.ref (gP S 22 0), .int (gI S (y1 + 1) (y3).toNatClampNeg), .int y3] S) fun v5 S6 => b40_5 d y1 v5 (y4 + (1 : Int32)) S6) else some (y4, S)) else none) else some ((-1 : Int32), S))) := by
  unfold b40_5
  refine (k_iload t40_5 rfl rfl).trans ?_
  refine (k_bipush t40_7 rfl zcb_16).trans ?_
  refine (k_icmp_ge t40_9 rfl).trans (z_ite (fun g1 => ?_) (fun g1 => ?_))
  · refine (k_iconst t40_60 rfl zci_m1).trans ?_
    exact k_ireturn t40_61 rfl (by decide)
  · refine (k_aload_n t40_12 rfl rfl).trans ?_
    refine (k_getI t40_13 rfl hW hy1 (by decide) (by decide)).trans ?_
    refine (k_iload_n t40_16 rfl rfl).trans ?_
    refine (k_ishr t40_17 rfl).trans ?_
    refine (k_iconst t40_18 rfl zci_1).trans ?_
    refine (k_iand t40_19 rfl).trans ?_
    refine (k_iconst t40_20 rfl zci_1).trans ?_
    refine (k_icmp_ne t40_21 rfl).trans (z_ite (fun g2 => ?_) (fun g2 => ?_))
    · refine (k_aload_n t40_26 rfl rfl).trans ?_
      refine (k_getR t40_27 rfl hW hy1 (by decide) (by decide) (zO_8_5 hW hy1)).trans ?_
      refine (k_iload_n t40_30 rfl rfl).trans ?_
      refine (k_iald t40_31 rfl hW (zOK_8_5 hy1) (zOL_8_5 hy1)).trans (z_ite (fun g3 => ?_) (fun _ => rfl))
      refine (k_istore (ls' := [.ref 22, .ref y1, z_j, .int y3, .int y4, .int (gI S (y1 + 1) (y3).toNatClampNeg)]) t40_32 rfl rfl).trans ?_
      refine (k_iload t40_34 rfl rfl).trans ?_
      refine (k_iconst t40_36 rfl zci_m1).trans ?_
      refine (k_icmp_ne t40_37 rfl).trans (z_ite (fun g4 => ?_) (fun g4 => ?_))
      · refine (k_aload_n t40_43 rfl rfl).trans ?_
        refine (k_getR t40_44 rfl hW zK_22 (by decide) (by decide) (zM_22_0 hW).1).trans ?_
        refine (k_iload t40_47 rfl rfl).trans ?_
        refine (k_iload_n t40_49 rfl rfl).trans ?_
        refine k_callI (as := [.ref (gP S 22 0), .int (gI S (y1 + 1) (y3).toNatClampNeg), .int y3]) (rest := []) t40_50 rfl rfl (by decide) rfl rfl (Nat.le_of_ble_eq_true rfl) rfl (z_rcV hW ((zM_22_0 hW).2) (by decide)) (by decide) (Or.inl (by decide)) hW (fun v5 S6 hW6 => ?_)
        refine (k_istore_n (ls' := [.ref 22, .ref y1, z_j, .int v5, .int y4, .int (gI S (y1 + 1) (y3).toNatClampNeg)]) t40_53 rfl rfl).trans ?_
        refine (k_iinc (b := (y4 + (1 : Int32))) (ls' := [.ref 22, .ref y1, z_j, .int v5, .int (y4 + (1 : Int32)), .int (gI S (y1 + 1) (y3).toNatClampNeg)]) t40_54 rfl rfl (by rw [zci_1]) rfl).trans ?_
        refine (k_goto t40_57 rfl).trans ?_
        exact (zk_mk (ls' := [.ref 22, .ref y1, z_j, .int v5, .int (y4 + (1 : Int32)), z_j]) t40_5 rfl)
      · refine (k_iload t40_40 rfl rfl).trans ?_
        exact k_ireturn t40_42 rfl (by decide)
    · refine (k_iconst t40_24 rfl zci_m1).trans ?_
      exact k_ireturn t40_25 rfl (by decide)
-- X2_movesToFree
theorem e40 (d : Nat) (p1 : Nat) (x2 : Int32) (S : z_S) (hW : z_W S) (hp1 : z_K p1 = 8) : fI (d + 1) 40 [.ref 22, .ref p1, .int x2] S = b40_5 d p1 x2 (0 : Int32) S := by
  refine (fI_en (Nat.le_of_ble_eq_true rfl) rfl).trans ?_
  refine (k_iload_n t40_0 rfl rfl).trans ?_
  refine (k_istore_n (ls' := [.ref 22, .ref p1, .int x2, .int x2, z_j, z_j]) t40_1 rfl rfl).trans ?_
  refine (k_iconst t40_2 rfl zci_0).trans ?_
  refine (k_istore (ls' := [.ref 22, .ref p1, .int x2, .int x2, .int (0 : Int32), z_j]) t40_3 rfl rfl).trans ?_
  exact (zk_mk (ls' := [.ref 22, .ref p1, z_j, .int x2, .int (0 : Int32), z_j]) t40_5 rfl)
theorem t42_0 : z_ft 42 0 = some (.aload_n 0, 1, none, [], 0, 0, 0, 0) := z_ftd (by decide +kernel)
theorem t42_1 : z_ft 42 1 = some (.iconst 0, 1, none, [], 0, 0, 0, 0) := z_ftd (by decide +kernel)
theorem t42_2 : z_ft 42 2 = some (.putfield 9, 3, none, [], 3, 0, 13, 0) := z_ftd (by decide +kernel)
theorem t42_5 : z_ft 42 5 = some (.aload_n 0, 1, none, [], 0, 0, 0, 0) := z_ftd (by decide +kernel)
theorem t42_6 : z_ft 42 6 = some (.aload_n 1, 1, none, [], 0, 0, 0, 0) := z_ftd (by decide +kernel)
theorem t42_7 : z_ft 42 7 = some (.getfield 19, 3, none, [], 8, 0, 5, 0) := z_ftd (by decide +kernel)
theorem t42_10 : z_ft 42 10 = some (.bipush 8, 2, none, [], 0, 0, 0, 0) := z_ftd (by decide +kernel)
theorem t42_12 : z_ft 42 12 = some (.ishr, 1, none, [], 0, 0, 0, 0) := z_ftd (by decide +kernel)
theorem t42_13 : z_ft 42 13 = some (.invokevirtual 24, 3, none, [], 43, 0, 15, 0) := z_ftd (by decide +kernel)
theorem t42_16 : z_ft 42 16 = some (.aload_n 0, 1, none, [], 0, 0, 0, 0) := z_ftd (by decide +kernel)
theorem t42_17 : z_ft 42 17 = some (.aload_n 1, 1, none, [], 0, 0, 0, 0) := z_ftd (by decide +kernel)
theorem t42_18 : z_ft 42 18 = some (.getfield 19, 3, none, [], 8, 0, 5, 0) := z_ftd (by decide +kernel)
theorem t42_21 : z_ft 42 21 = some (.sipush 255, 3, none, [], 0, 0, 0, 0) := z_ftd (by decide +kernel)
theorem t42_24 : z_ft 42 24 = some (.iand, 1, none, [], 0, 0, 0, 0) := z_ftd (by decide +kernel)
theorem t42_25 : z_ft 42 25 = some (.invokevirtual 24, 3, none, [], 43, 0, 15, 0) := z_ftd (by decide +kernel)
theorem t42_28 : z_ft 42 28 = some (.aload_n 0, 1, none, [], 0, 0, 0, 0) := z_ftd (by decide +kernel)
theorem t42_29 : z_ft 42 29 = some (.aload_n 1, 1, none, [], 0, 0, 0, 0) := z_ftd (by decide +kernel)
theorem t42_30 : z_ft 42 30 = some (.getfield 28, 3, none, [], 8, 1, 6, 0) := z_ftd (by decide +kernel)
theorem t42_33 : z_ft 42 33 = some (.bipush 16, 2, none, [], 0, 0, 0, 0) := z_ftd (by decide +kernel)
theorem t42_35 : z_ft 42 35 = some (.ishr, 1, none, [], 0, 0, 0, 0) := z_ftd (by decide +kernel)
theorem t42_36 : z_ft 42 36 = some (.invokevirtual 24, 3, none, [], 43, 0, 15, 0) := z_ftd (by decide +kernel)
theorem t42_39 : z_ft 42 39 = some (.aload_n 0, 1, none, [], 0, 0, 0, 0) := z_ftd (by decide +kernel)
theorem t42_40 : z_ft 42 40 = some (.aload_n 1, 1, none, [], 0, 0, 0, 0) := z_ftd (by decide +kernel)
theorem t42_41 : z_ft 42 41 = some (.getfield 28, 3, none, [], 8, 1, 6, 0) := z_ftd (by decide +kernel)
theorem t42_44 : z_ft 42 44 = some (.bipush 8, 2, none, [], 0, 0, 0, 0) := z_ftd (by decide +kernel)
theorem t42_46 : z_ft 42 46 = some (.ishr, 1, none, [], 0, 0, 0, 0) := z_ftd (by decide +kernel)
theorem t42_47 : z_ft 42 47 = some (.sipush 255, 3, none, [], 0, 0, 0, 0) := z_ftd (by decide +kernel)
theorem t42_50 : z_ft 42 50 = some (.iand, 1, none, [], 0, 0, 0, 0) := z_ftd (by decide +kernel)
theorem t42_51 : z_ft 42 51 = some (.invokevirtual 24, 3, none, [], 43, 0, 15, 0) := z_ftd (by decide +kernel)
theorem t42_54 : z_ft 42 54 = some (.aload_n 0, 1, none, [], 0, 0, 0, 0) := z_ftd (by decide +kernel)
theorem t42_55 : z_ft 42 55 = some (.aload_n 1, 1, none, [], 0, 0, 0, 0) := z_ftd (by decide +kernel)
theorem t42_56 : z_ft 42 56 = some (.getfield 28, 3, none, [], 8, 1, 6, 0) := z_ftd (by decide +kernel)
theorem t42_59 : z_ft 42 59 = some (.sipush 255, 3, none, [], 0, 0, 0, 0) := z_ftd (by decide +kernel)
theorem t42_62 : z_ft 42 62 = some (.iand, 1, none, [], 0, 0, 0, 0) := z_ftd (by decide +kernel)
theorem t42_63 : z_ft 42 63 = some (.invokevirtual 24, 3, none, [], 43, 0, 15, 0) := z_ftd (by decide +kernel)
theorem t42_66 : z_ft 42 66 = some (.iconst 0, 1, none, [], 0, 0, 0, 0) := z_ftd (by decide +kernel)
theorem t42_67 : z_ft 42 67 = some (.istore_n 3, 1, none, [], 0, 0, 0, 0) := z_ftd (by decide +kernel)
theorem t42_68 : z_ft 42 68 = some (.iload_n 3, 1, (some [0, 1, 2, 3]), [], 0, 0, 0, 0) := z_ftd (by decide +kernel)
theorem t42_69 : z_ft 42 69 = some (.aload_n 2, 1, none, [], 0, 0, 0, 0) := z_ftd (by decide +kernel)
theorem t42_70 : z_ft 42 70 = some (.getfield 31, 3, none, [], 6, 1, 0, 0) := z_ftd (by decide +kernel)
theorem t42_73 : z_ft 42 73 = some (.if_icmp .ge 21, 3, none, [], 94, 0, 0, 0) := z_ftd (by decide +kernel)
theorem t42_76 : z_ft 42 76 = some (.aload_n 0, 1, none, [], 0, 0, 0, 0) := z_ftd (by decide +kernel)
theorem t42_77 : z_ft 42 77 = some (.aload_n 1, 1, none, [], 0, 0, 0, 0) := z_ftd (by decide +kernel)
theorem t42_78 : z_ft 42 78 = some (.getfield 36, 3, none, [], 8, 2, 7, 0) := z_ftd (by decide +kernel)
theorem t42_81 : z_ft 42 81 = some (.iload_n 3, 1, none, [], 0, 0, 0, 0) := z_ftd (by decide +kernel)
theorem t42_82 : z_ft 42 82 = some (.ishr, 1, none, [], 0, 0, 0, 0) := z_ftd (by decide +kernel)
theorem t42_83 : z_ft 42 83 = some (.iconst 1, 1, none, [], 0, 0, 0, 0) := z_ftd (by decide +kernel)
theorem t42_84 : z_ft 42 84 = some (.iand, 1, none, [], 0, 0, 0, 0) := z_ftd (by decide +kernel)
theorem t42_85 : z_ft 42 85 = some (.invokevirtual 24, 3, none, [], 43, 0, 15, 0) := z_ftd (by decide +kernel)
theorem t42_88 : z_ft 42 88 = some (.iinc 3 1, 3, none, [], 0, 0, 0, 0) := z_ftd (by decide +kernel)
theorem t42_91 : z_ft 42 91 = some (.goto (-23), 3, none, [], 68, 0, 0, 0) := z_ftd (by decide +kernel)
theorem t42_94 : z_ft 42 94 = some (.iconst 0, 1, none, [], 0, 0, 0, 0) := z_ftd (by decide +kernel)
theorem t42_95 : z_ft 42 95 = some (.istore_n 3, 1, none, [], 0, 0, 0, 0) := z_ftd (by decide +kernel)
theorem t42_96 : z_ft 42 96 = some (.iload_n 3, 1, (some [0, 1, 2, 3]), [], 0, 0, 0, 0) := z_ftd (by decide +kernel)
theorem t42_97 : z_ft 42 97 = some (.aload_n 2, 1, none, [], 0, 0, 0, 0) := z_ftd (by decide +kernel)
theorem t42_98 : z_ft 42 98 = some (.getfield 39, 3, none, [], 6, 6, 2, 0) := z_ftd (by decide +kernel)
theorem t42_101 : z_ft 42 101 = some (.if_icmp .ge 29, 3, none, [], 130, 0, 0, 0) := z_ftd (by decide +kernel)
theorem t42_104 : z_ft 42 104 = some (.aload_n 0, 1, none, [], 0, 0, 0, 0) := z_ftd (by decide +kernel)
theorem t42_105 : z_ft 42 105 = some (.aload_n 1, 1, none, [], 0, 0, 0, 0) := z_ftd (by decide +kernel)
theorem t42_106 : z_ft 42 106 = some (.getfield 42, 3, none, [], 8, 6, 9, 0) := z_ftd (by decide +kernel)
theorem t42_109 : z_ft 42 109 = some (.iload_n 3, 1, none, [], 0, 0, 0, 0) := z_ftd (by decide +kernel)
theorem t42_110 : z_ft 42 110 = some (.iaload, 1, none, [], 0, 0, 0, 0) := z_ftd (by decide +kernel)
theorem t42_111 : z_ft 42 111 = some (.invokevirtual 24, 3, none, [], 43, 0, 15, 0) := z_ftd (by decide +kernel)
theorem t42_114 : z_ft 42 114 = some (.aload_n 0, 1, none, [], 0, 0, 0, 0) := z_ftd (by decide +kernel)
theorem t42_115 : z_ft 42 115 = some (.aload_n 1, 1, none, [], 0, 0, 0, 0) := z_ftd (by decide +kernel)
theorem t42_116 : z_ft 42 116 = some (.getfield 45, 3, none, [], 8, 7, 10, 0) := z_ftd (by decide +kernel)
theorem t42_119 : z_ft 42 119 = some (.iload_n 3, 1, none, [], 0, 0, 0, 0) := z_ftd (by decide +kernel)
theorem t42_120 : z_ft 42 120 = some (.iaload, 1, none, [], 0, 0, 0, 0) := z_ftd (by decide +kernel)
theorem t42_121 : z_ft 42 121 = some (.invokevirtual 24, 3, none, [], 43, 0, 15, 0) := z_ftd (by decide +kernel)
theorem t42_124 : z_ft 42 124 = some (.iinc 3 1, 3, none, [], 0, 0, 0, 0) := z_ftd (by decide +kernel)
theorem t42_127 : z_ft 42 127 = some (.goto (-31), 3, none, [], 96, 0, 0, 0) := z_ftd (by decide +kernel)
theorem t42_130 : z_ft 42 130 = some (.aload_n 0, 1, none, [], 0, 0, 0, 0) := z_ftd (by decide +kernel)
theorem t42_131 : z_ft 42 131 = some (.aload_n 1, 1, none, [], 0, 0, 0, 0) := z_ftd (by decide +kernel)
theorem t42_132 : z_ft 42 132 = some (.getfield 48, 3, none, [], 8, 4, 8, 0) := z_ftd (by decide +kernel)
theorem t42_135 : z_ft 42 135 = some (.invokevirtual 24, 3, none, [], 43, 0, 15, 0) := z_ftd (by decide +kernel)
theorem t42_138 : z_ft 42 138 = some (.iconst 0, 1, none, [], 0, 0, 0, 0) := z_ftd (by decide +kernel)
theorem t42_139 : z_ft 42 139 = some (.istore_n 3, 1, none, [], 0, 0, 0, 0) := z_ftd (by decide +kernel)
theorem t42_140 : z_ft 42 140 = some (.iload_n 3, 1, (some [0, 1, 3]), [], 0, 0, 0, 0) := z_ftd (by decide +kernel)
theorem t42_141 : z_ft 42 141 = some (.aload_n 1, 1, none, [], 0, 0, 0, 0) := z_ftd (by decide +kernel)
theorem t42_142 : z_ft 42 142 = some (.getfield 48, 3, none, [], 8, 4, 8, 0) := z_ftd (by decide +kernel)
theorem t42_145 : z_ft 42 145 = some (.if_icmp .ge 19, 3, none, [], 164, 0, 0, 0) := z_ftd (by decide +kernel)
theorem t42_148 : z_ft 42 148 = some (.aload_n 0, 1, none, [], 0, 0, 0, 0) := z_ftd (by decide +kernel)
theorem t42_149 : z_ft 42 149 = some (.aload_n 1, 1, none, [], 0, 0, 0, 0) := z_ftd (by decide +kernel)
theorem t42_150 : z_ft 42 150 = some (.getfield 51, 3, none, [], 8, 8, 11, 0) := z_ftd (by decide +kernel)
theorem t42_153 : z_ft 42 153 = some (.iload_n 3, 1, none, [], 0, 0, 0, 0) := z_ftd (by decide +kernel)
theorem t42_154 : z_ft 42 154 = some (.iaload, 1, none, [], 0, 0, 0, 0) := z_ftd (by decide +kernel)
theorem t42_155 : z_ft 42 155 = some (.invokevirtual 24, 3, none, [], 43, 0, 15, 0) := z_ftd (by decide +kernel)
theorem t42_158 : z_ft 42 158 = some (.iinc 3 1, 3, none, [], 0, 0, 0, 0) := z_ftd (by decide +kernel)
theorem t42_161 : z_ft 42 161 = some (.goto (-21), 3, none, [], 140, 0, 0, 0) := z_ftd (by decide +kernel)
theorem t42_164 : z_ft 42 164 = some (.aload_n 0, 1, none, [], 0, 0, 0, 0) := z_ftd (by decide +kernel)
theorem t42_165 : z_ft 42 165 = some (.aload_n 0, 1, none, [], 0, 0, 0, 0) := z_ftd (by decide +kernel)
theorem t42_166 : z_ft 42 166 = some (.getfield 15, 3, none, [], 3, 1, 14, 0) := z_ftd (by decide +kernel)
theorem t42_169 : z_ft 42 169 = some (.aload_n 0, 1, none, [], 0, 0, 0, 0) := z_ftd (by decide +kernel)
theorem t42_170 : z_ft 42 170 = some (.getfield 9, 3, none, [], 3, 0, 13, 0) := z_ftd (by decide +kernel)
theorem t42_173 : z_ft 42 173 = some (.invokestatic 54, 3, none, [], 44, 0, 16, 0) := z_ftd (by decide +kernel)
theorem t42_176 : z_ft 42 176 = some (.invokevirtual 24, 3, none, [], 43, 0, 15, 0) := z_ftd (by decide +kernel)
theorem t42_179 : z_ft 42 179 = some (.return_, 1, none, [], 0, 0, 0, 0) := z_ftd (by decide +kernel)
noncomputable def b42_68 (d : Nat) (y1 : Nat) (y2 : Nat) (y3 : Int32) (S : z_S) : Option z_S := zk kV z_X0 d 42 68 [.ref 393, .ref y1, .ref y2, .int y3] [] S
noncomputable def b42_96 (d : Nat) (y1 : Nat) (y2 : Nat) (y3 : Int32) (S : z_S) : Option z_S := zk kV z_X0 d 42 96 [.ref 393, .ref y1, .ref y2, .int y3] [] S
noncomputable def b42_140 (d : Nat) (y1 : Nat) (y3 : Int32) (S : z_S) : Option z_S := zk kV z_X0 d 42 140 [.ref 393, .ref y1, z_j, .int y3] [] S
theorem b42_68_eq (d : Nat) (y1 : Nat) (y2 : Nat) (y3 : Int32) (S : z_S) (hW : z_W S) (hy1 : z_K y1 = 8) (hy2 : z_K y2 = 6) : b42_68 d y1 y2 y3 S = (if (gI S y2 1) ≤ y3 then b42_96 d y1 y2 (0 : Int32) S else ((fV d 43 [.ref 393, .int (((gI S y1 2) >>> (y3 &&& 31)) &&& (1 : Int32))] S).bind fun S13 => b42_68 d y1 y2 (y3 + (1 : Int32)) S13)) := by
  unfold b42_68
  refine (k_iload_n t42_68 rfl rfl).trans ?_
  refine (k_aload_n t42_69 rfl rfl).trans ?_
  refine (k_getI t42_70 rfl hW hy2 (by decide) (by decide)).trans ?_
  refine (k_icmp_ge t42_73 rfl).trans (z_ite (fun g11 => ?_) (fun g11 => ?_))
  · refine (k_iconst t42_94 rfl zci_0).trans ?_
    refine (k_istore_n (ls' := [.ref 393, .ref y1, .ref y2, .int (0 : Int32)]) t42_95 rfl rfl).trans ?_
    exact (zk_mk (ls' := [.ref 393, .ref y1, .ref y2, .int (0 : Int32)]) t42_96 rfl)
  · refine (k_aload_n t42_76 rfl rfl).trans ?_
    refine (k_aload_n t42_77 rfl rfl).trans ?_
    refine (k_getI t42_78 rfl hW hy1 (by decide) (by decide)).trans ?_
    refine (k_iload_n t42_81 rfl rfl).trans ?_
    refine (k_ishr t42_82 rfl).trans ?_
    refine (k_iconst t42_83 rfl zci_1).trans ?_
    refine (k_iand t42_84 rfl).trans ?_
    refine k_callV (as := [.ref 393, .int (((gI S y1 2) >>> (y3 &&& 31)) &&& (1 : Int32))]) (rest := []) t42_85 rfl rfl (by decide) rfl rfl (Nat.le_of_ble_eq_true rfl) rfl (z_rcV hW (zK_393) (by decide)) (by decide) (by decide) hW (fun S13 hW13 => ?_)
    refine (k_iinc (b := (y3 + (1 : Int32))) (ls' := [.ref 393, .ref y1, .ref y2, .int (y3 + (1 : Int32))]) t42_88 rfl rfl (by rw [zci_1]) rfl).trans ?_
    refine (k_goto t42_91 rfl).trans ?_
    exact (zk_mk (ls' := [.ref 393, .ref y1, .ref y2, .int (y3 + (1 : Int32))]) t42_68 rfl)
theorem b42_96_eq (d : Nat) (y1 : Nat) (y2 : Nat) (y3 : Int32) (S : z_S) (hW : z_W S) (hy1 : z_K y1 = 8) (hy2 : z_K y2 = 6) : b42_96 d y1 y2 y3 S = (if (gI S y2 6) ≤ y3 then ((fV d 43 [.ref 393, .int (gI S y1 4)] S).bind fun S16 => b42_140 d y1 (0 : Int32) S16) else (if z_in y3 16 then ((fV d 43 [.ref 393, .int (gI S (y1 + 2) (y3).toNatClampNeg)] S).bind fun S19 => (if z_in y3 16 then ((fV d 43 [.ref 393, .int (gI S19 (y1 + 3) (y3).toNatClampNeg)] S19).bind fun S22 => b42_96 d y1 y2 (y3 + (1 : Int32)) S22) else none)) else none)) := by
  unfold b42_96
  refine (k_iload_n t42_96 rfl rfl).trans ?_
  refine (k_aload_n t42_97 rfl rfl).trans ?_
  refine (k_getI t42_98 rfl hW hy2 (by decide) (by decide)).trans ?_
  refine (k_icmp_ge t42_101 rfl).trans (z_ite (fun g14 => ?_) (fun g14 => ?_))
  · refine (k_aload_n t42_130 rfl rfl).trans ?_
    refine (k_aload_n t42_131 rfl rfl).trans ?_
    refine (k_getI t42_132 rfl hW hy1 (by decide) (by decide)).trans ?_
    refine k_callV (as := [.ref 393, .int (gI S y1 4)]) (rest := []) t42_135 rfl rfl (by decide) rfl rfl (Nat.le_of_ble_eq_true rfl) rfl (z_rcV hW (zK_393) (by decide)) (by decide) (by decide) hW (fun S16 hW16 => ?_)
    refine (k_iconst t42_138 rfl zci_0).trans ?_
    refine (k_istore_n (ls' := [.ref 393, .ref y1, .ref y2, .int (0 : Int32)]) t42_139 rfl rfl).trans ?_
    exact (zk_mk (ls' := [.ref 393, .ref y1, z_j, .int (0 : Int32)]) t42_140 rfl)
  · refine (k_aload_n t42_104 rfl rfl).trans ?_
    refine (k_aload_n t42_105 rfl rfl).trans ?_
    refine (k_getR t42_106 rfl hW hy1 (by decide) (by decide) (zO_8_6 hW hy1)).trans ?_
    refine (k_iload_n t42_109 rfl rfl).trans ?_
    refine (k_iald t42_110 rfl hW (zOK_8_6 hy1) (zOL_8_6 hy1)).trans (z_ite (fun g17 => ?_) (fun _ => rfl))
    refine k_callV (as := [.ref 393, .int (gI S (y1 + 2) (y3).toNatClampNeg)]) (rest := []) t42_111 rfl rfl (by decide) rfl rfl (Nat.le_of_ble_eq_true rfl) rfl (z_rcV hW (zK_393) (by decide)) (by decide) (by decide) hW (fun S19 hW19 => ?_)
    refine (k_aload_n t42_114 rfl rfl).trans ?_
    refine (k_aload_n t42_115 rfl rfl).trans ?_
    refine (k_getR t42_116 rfl hW19 hy1 (by decide) (by decide) (zO_8_7 hW19 hy1)).trans ?_
    refine (k_iload_n t42_119 rfl rfl).trans ?_
    refine (k_iald t42_120 rfl hW19 (zOK_8_7 hy1) (zOL_8_7 hy1)).trans (z_ite (fun g20 => ?_) (fun _ => rfl))
    refine k_callV (as := [.ref 393, .int (gI S19 (y1 + 3) (y3).toNatClampNeg)]) (rest := []) t42_121 rfl rfl (by decide) rfl rfl (Nat.le_of_ble_eq_true rfl) rfl (z_rcV hW19 (zK_393) (by decide)) (by decide) (by decide) hW19 (fun S22 hW22 => ?_)
    refine (k_iinc (b := (y3 + (1 : Int32))) (ls' := [.ref 393, .ref y1, .ref y2, .int (y3 + (1 : Int32))]) t42_124 rfl rfl (by rw [zci_1]) rfl).trans ?_
    refine (k_goto t42_127 rfl).trans ?_
    exact (zk_mk (ls' := [.ref 393, .ref y1, .ref y2, .int (y3 + (1 : Int32))]) t42_96 rfl)
theorem b42_140_eq (d : Nat) (y1 : Nat) (y3 : Int32) (S : z_S) (hW : z_W S) (hy1 : z_K y1 = 8) : b42_140 d y1 y3 S = (if (gI S y1 4) ≤ y3 then (zb (fI d 44 [.ref 394, .int (gI S 393 0)] S) fun v24 S25 => ((fV d 43 [.ref 393, .int v24] S25).bind fun S27 => some S27)) else (if z_in y3 6 then ((fV d 43 [.ref 393, .int (gI S (y1 + 4) (y3).toNatClampNeg)] S).bind fun S30 => b42_140 d y1 (y3 + (1 : Int32)) S30) else none)) := by
  unfold b42_140
  refine (k_iload_n t42_140 rfl rfl).trans ?_
  refine (k_aload_n t42_141 rfl rfl).trans ?_
  refine (k_getI t42_142 rfl hW hy1 (by decide) (by decide)).trans ?_
  refine (k_icmp_ge t42_145 rfl).trans (z_ite (fun g23 => ?_) (fun g23 => ?_))
  · refine (k_aload_n t42_164 rfl rfl).trans ?_
    refine (k_aload_n t42_165 rfl rfl).trans ?_
    refine (k_getR t42_166 rfl hW zK_393 (by decide) (by decide) (zF_393_1 hW)).trans ?_
    refine (k_aload_n t42_169 rfl rfl).trans ?_
    refine (k_getI t42_170 rfl hW zK_393 (by decide) (by decide)).trans ?_
    refine k_callI (as := [.ref 394, .int (gI S 393 0)]) (rest := [.ref 393]) t42_173 rfl rfl (by decide) rfl rfl (Nat.le_of_ble_eq_true rfl) rfl (z_rcS (by decide)) (by decide) (Or.inl (by decide)) hW (fun v24 S25 hW25 => ?_)
    refine k_callV (as := [.ref 393, .int v24]) (rest := []) t42_176 rfl rfl (by decide) rfl rfl (Nat.le_of_ble_eq_true rfl) rfl (z_rcV hW25 (zK_393) (by decide)) (by decide) (by decide) hW25 (fun S27 hW27 => ?_)
    exact k_return t42_179 rfl (by decide)
  · refine (k_aload_n t42_148 rfl rfl).trans ?_
    refine (k_aload_n t42_149 rfl rfl).trans ?_
    refine (k_getR t42_150 rfl hW hy1 (by decide) (by decide) (zO_8_8 hW hy1)).trans ?_
    refine (k_iload_n t42_153 rfl rfl).trans ?_
    refine (k_iald t42_154 rfl hW (zOK_8_8 hy1) (zOL_8_8 hy1)).trans (z_ite (fun g28 => ?_) (fun _ => rfl))
    refine k_callV (as := [.ref 393, .int (gI S (y1 + 4) (y3).toNatClampNeg)]) (rest := []) t42_155 rfl rfl (by decide) rfl rfl (Nat.le_of_ble_eq_true rfl) rfl (z_rcV hW (zK_393) (by decide)) (by decide) (by decide) hW (fun S30 hW30 => ?_)
    refine (k_iinc (b := (y3 + (1 : Int32))) (ls' := [.ref 393, .ref y1, z_j, .int (y3 + (1 : Int32))]) t42_158 rfl rfl (by rw [zci_1]) rfl).trans ?_
    refine (k_goto t42_161 rfl).trans ?_
    exact (zk_mk (ls' := [.ref 393, .ref y1, z_j, .int (y3 + (1 : Int32))]) t42_140 rfl)
-- X3_write
theorem e42 (d : Nat) (p1 : Nat) (p2 : Nat) (S : z_S) (hW : z_W S) (hp1 : z_K p1 = 8) (hp2 : z_K p2 = 6) : fV (d + 1) 42 [.ref 393, .ref p1, .ref p2] S = ((fV d 43 [.ref 393, .int ((gI (sI S 393 0 (0 : Int32)) p1 0) >>> ((8 : Int32) &&& 31))] (sI S 393 0 (0 : Int32))).bind fun S2 => ((fV d 43 [.ref 393, .int ((gI S2 p1 0) &&& (255 : Int32))] S2).bind fun S4 => ((fV d 43 [.ref 393, .int ((gI S4 p1 1) >>> ((16 : Int32) &&& 31))] S4).bind fun S6 => ((fV d 43 [.ref 393, .int (((gI S6 p1 1) >>> ((8 : Int32) &&& 31)) &&& (255 : Int32))] S6).bind fun S8 => ((fV d 43 [.ref 393, .int ((gI S8 p1 1) &&& (255 : Int32))] S8).bind fun S10 => b42_68 d p1 p2 (0 : Int32) S10))))) := by
  refine (fV_en (Nat.le_of_ble_eq_true rfl) rfl).trans ?_
  refine (k_aload_n t42_0 rfl rfl).trans ?_
  refine (k_iconst t42_1 rfl zci_0).trans ?_
  refine (k_putI t42_2 rfl hW zK_393 (by decide) (by decide) (by decide)).trans ?_
  refine (k_aload_n t42_5 rfl rfl).trans ?_
  refine (k_aload_n t42_6 rfl rfl).trans ?_
  refine (k_getI t42_7 rfl hW.sI hp1 (by decide) (by decide)).trans ?_
  refine (k_bipush t42_10 rfl zcb_8).trans ?_
  refine (k_ishr t42_12 rfl).trans ?_
  refine k_callV (as := [.ref 393, .int ((gI (sI S 393 0 (0 : Int32)) p1 0) >>> ((8 : Int32) &&& 31))]) (rest := []) t42_13 rfl rfl (by decide) rfl rfl (Nat.le_of_ble_eq_true rfl) rfl (z_rcV hW.sI (zK_393) (by decide)) (by decide) (by decide) hW.sI (fun S2 hW2 => ?_)
  refine (k_aload_n t42_16 rfl rfl).trans ?_
  refine (k_aload_n t42_17 rfl rfl).trans ?_
  refine (k_getI t42_18 rfl hW2 hp1 (by decide) (by decide)).trans ?_
  refine (k_sipush t42_21 rfl zcs_255).trans ?_
  refine (k_iand t42_24 rfl).trans ?_
  refine k_callV (as := [.ref 393, .int ((gI S2 p1 0) &&& (255 : Int32))]) (rest := []) t42_25 rfl rfl (by decide) rfl rfl (Nat.le_of_ble_eq_true rfl) rfl (z_rcV hW2 (zK_393) (by decide)) (by decide) (by decide) hW2 (fun S4 hW4 => ?_)
  refine (k_aload_n t42_28 rfl rfl).trans ?_
  refine (k_aload_n t42_29 rfl rfl).trans ?_
  refine (k_getI t42_30 rfl hW4 hp1 (by decide) (by decide)).trans ?_
  refine (k_bipush t42_33 rfl zcb_16).trans ?_
  refine (k_ishr t42_35 rfl).trans ?_
  refine k_callV (as := [.ref 393, .int ((gI S4 p1 1) >>> ((16 : Int32) &&& 31))]) (rest := []) t42_36 rfl rfl (by decide) rfl rfl (Nat.le_of_ble_eq_true rfl) rfl (z_rcV hW4 (zK_393) (by decide)) (by decide) (by decide) hW4 (fun S6 hW6 => ?_)
  refine (k_aload_n t42_39 rfl rfl).trans ?_
  refine (k_aload_n t42_40 rfl rfl).trans ?_
  refine (k_getI t42_41 rfl hW6 hp1 (by decide) (by decide)).trans ?_
  refine (k_bipush t42_44 rfl zcb_8).trans ?_
  refine (k_ishr t42_46 rfl).trans ?_
  refine (k_sipush t42_47 rfl zcs_255).trans ?_
  refine (k_iand t42_50 rfl).trans ?_
  refine k_callV (as := [.ref 393, .int (((gI S6 p1 1) >>> ((8 : Int32) &&& 31)) &&& (255 : Int32))]) (rest := []) t42_51 rfl rfl (by decide) rfl rfl (Nat.le_of_ble_eq_true rfl) rfl (z_rcV hW6 (zK_393) (by decide)) (by decide) (by decide) hW6 (fun S8 hW8 => ?_)
  refine (k_aload_n t42_54 rfl rfl).trans ?_
  refine (k_aload_n t42_55 rfl rfl).trans ?_
  refine (k_getI t42_56 rfl hW8 hp1 (by decide) (by decide)).trans ?_
  refine (k_sipush t42_59 rfl zcs_255).trans ?_
  refine (k_iand t42_62 rfl).trans ?_
  refine k_callV (as := [.ref 393, .int ((gI S8 p1 1) &&& (255 : Int32))]) (rest := []) t42_63 rfl rfl (by decide) rfl rfl (Nat.le_of_ble_eq_true rfl) rfl (z_rcV hW8 (zK_393) (by decide)) (by decide) (by decide) hW8 (fun S10 hW10 => ?_)
  refine (k_iconst t42_66 rfl zci_0).trans ?_
  refine (k_istore_n (ls' := [.ref 393, .ref p1, .ref p2, .int (0 : Int32)]) t42_67 rfl rfl).trans ?_
  exact (zk_mk (ls' := [.ref 393, .ref p1, .ref p2, .int (0 : Int32)]) t42_68 rfl)
theorem t43_0 : z_ft 43 0 = some (.aload_n 0, 1, none, [], 0, 0, 0, 0) := z_ftd (by decide +kernel)
theorem t43_1 : z_ft 43 1 = some (.getfield 9, 3, none, [], 3, 0, 13, 0) := z_ftd (by decide +kernel)
theorem t43_4 : z_ft 43 4 = some (.aload_n 0, 1, none, [], 0, 0, 0, 0) := z_ftd (by decide +kernel)
theorem t43_5 : z_ft 43 5 = some (.getfield 15, 3, none, [], 3, 1, 14, 0) := z_ftd (by decide +kernel)
theorem t43_8 : z_ft 43 8 = some (.arraylength, 1, none, [], 0, 0, 0, 0) := z_ftd (by decide +kernel)
theorem t43_9 : z_ft 43 9 = some (.if_icmp .ge 23, 3, none, [], 32, 0, 0, 0) := z_ftd (by decide +kernel)
theorem t43_12 : z_ft 43 12 = some (.aload_n 0, 1, none, [], 0, 0, 0, 0) := z_ftd (by decide +kernel)
theorem t43_13 : z_ft 43 13 = some (.getfield 15, 3, none, [], 3, 1, 14, 0) := z_ftd (by decide +kernel)
theorem t43_16 : z_ft 43 16 = some (.aload_n 0, 1, none, [], 0, 0, 0, 0) := z_ftd (by decide +kernel)
theorem t43_17 : z_ft 43 17 = some (.getfield 9, 3, none, [], 3, 0, 13, 0) := z_ftd (by decide +kernel)
theorem t43_20 : z_ft 43 20 = some (.iload_n 1, 1, none, [], 0, 0, 0, 0) := z_ftd (by decide +kernel)
theorem t43_21 : z_ft 43 21 = some (.iastore, 1, none, [], 0, 0, 0, 0) := z_ftd (by decide +kernel)
theorem t43_22 : z_ft 43 22 = some (.aload_n 0, 1, none, [], 0, 0, 0, 0) := z_ftd (by decide +kernel)
theorem t43_23 : z_ft 43 23 = some (.dup, 1, none, [], 0, 0, 0, 0) := z_ftd (by decide +kernel)
theorem t43_24 : z_ft 43 24 = some (.getfield 9, 3, none, [], 3, 0, 13, 0) := z_ftd (by decide +kernel)
theorem t43_27 : z_ft 43 27 = some (.iconst 1, 1, none, [], 0, 0, 0, 0) := z_ftd (by decide +kernel)
theorem t43_28 : z_ft 43 28 = some (.iadd, 1, none, [], 0, 0, 0, 0) := z_ftd (by decide +kernel)
theorem t43_29 : z_ft 43 29 = some (.putfield 9, 3, none, [], 3, 0, 13, 0) := z_ftd (by decide +kernel)
theorem t43_32 : z_ft 43 32 = some (.return_, 1, (some []), [], 0, 0, 0, 0) := z_ftd (by decide +kernel)
-- X3_put
theorem e43 (d : Nat) (x1 : Int32) (S : z_S) (hW : z_W S)  : fV (d + 1) 43 [.ref 393, .int x1] S = (if (Int32.ofNat 61) ≤ (gI S 393 0) then some S else (if z_in (gI S 393 0) 61 then some (sI (sI S 394 ((gI S 393 0)).toNatClampNeg x1) 393 0 ((gI (sI S 394 ((gI S 393 0)).toNatClampNeg x1) 393 0) + (1 : Int32))) else none)) := by
  refine (fV_en (Nat.le_of_ble_eq_true rfl) rfl).trans ?_
  refine (k_aload_n t43_0 rfl rfl).trans ?_
  refine (k_getI t43_1 rfl hW zK_393 (by decide) (by decide)).trans ?_
  refine (k_aload_n t43_4 rfl rfl).trans ?_
  refine (k_getR t43_5 rfl hW zK_393 (by decide) (by decide) (zF_393_1 hW)).trans ?_
  refine (k_alen t43_8 rfl hW (by rw [zK_394]; decide) zL_394).trans ?_
  refine (k_icmp_ge t43_9 rfl).trans (z_ite (fun g1 => ?_) (fun g1 => ?_))
  · refine (zk_mk (ls' := [z_j, z_j]) t43_32 rfl).trans ?_
    exact k_return t43_32 rfl (by decide)
  · refine (k_aload_n t43_12 rfl rfl).trans ?_
    refine (k_getR t43_13 rfl hW zK_393 (by decide) (by decide) (zF_393_1 hW)).trans ?_
    refine (k_aload_n t43_16 rfl rfl).trans ?_
    refine (k_getI t43_17 rfl hW zK_393 (by decide) (by decide)).trans ?_
    refine (k_iload_n t43_20 rfl rfl).trans ?_
    refine (k_iast t43_21 rfl hW zK_394 zL_394).trans (z_ite (fun g2 => ?_) (fun _ => rfl))
    refine (k_aload_n t43_22 rfl rfl).trans ?_
    refine (k_dupR t43_23 rfl).trans ?_
    refine (k_getI t43_24 rfl hW.sI zK_393 (by decide) (by decide)).trans ?_
    refine (k_iconst t43_27 rfl zci_1).trans ?_
    refine (k_iadd t43_28 rfl).trans ?_
    refine (k_putI t43_29 rfl hW.sI zK_393 (by decide) (by decide) (by decide)).trans ?_
    refine (zk_mk (ls' := [z_j, z_j]) t43_32 rfl).trans ?_
    exact k_return t43_32 rfl (by decide)
theorem t44_0 : z_ft 44 0 = some (.sipush 227, 3, none, [], 0, 0, 0, 0) := z_ftd (by decide +kernel)
theorem t44_3 : z_ft 44 3 = some (.istore_n 2, 1, none, [], 0, 0, 0, 0) := z_ftd (by decide +kernel)
theorem t44_4 : z_ft 44 4 = some (.iconst 0, 1, none, [], 0, 0, 0, 0) := z_ftd (by decide +kernel)
theorem t44_5 : z_ft 44 5 = some (.istore_n 3, 1, none, [], 0, 0, 0, 0) := z_ftd (by decide +kernel)
theorem t44_6 : z_ft 44 6 = some (.iload_n 3, 1, (some [0, 1, 2, 3]), [], 0, 0, 0, 0) := z_ftd (by decide +kernel)
theorem t44_7 : z_ft 44 7 = some (.iload_n 1, 1, none, [], 0, 0, 0, 0) := z_ftd (by decide +kernel)
theorem t44_8 : z_ft 44 8 = some (.if_icmp .ge 27, 3, none, [], 35, 0, 0, 0) := z_ftd (by decide +kernel)
theorem t44_11 : z_ft 44 11 = some (.iload_n 3, 1, none, [], 0, 0, 0, 0) := z_ftd (by decide +kernel)
theorem t44_12 : z_ft 44 12 = some (.aload_n 0, 1, none, [], 0, 0, 0, 0) := z_ftd (by decide +kernel)
theorem t44_13 : z_ft 44 13 = some (.arraylength, 1, none, [], 0, 0, 0, 0) := z_ftd (by decide +kernel)
theorem t44_14 : z_ft 44 14 = some (.if_icmp .ge 21, 3, none, [], 35, 0, 0, 0) := z_ftd (by decide +kernel)
theorem t44_17 : z_ft 44 17 = some (.iconst 5, 1, none, [], 0, 0, 0, 0) := z_ftd (by decide +kernel)
theorem t44_18 : z_ft 44 18 = some (.iload_n 2, 1, none, [], 0, 0, 0, 0) := z_ftd (by decide +kernel)
theorem t44_19 : z_ft 44 19 = some (.imul, 1, none, [], 0, 0, 0, 0) := z_ftd (by decide +kernel)
theorem t44_20 : z_ft 44 20 = some (.aload_n 0, 1, none, [], 0, 0, 0, 0) := z_ftd (by decide +kernel)
theorem t44_21 : z_ft 44 21 = some (.iload_n 3, 1, none, [], 0, 0, 0, 0) := z_ftd (by decide +kernel)
theorem t44_22 : z_ft 44 22 = some (.iaload, 1, none, [], 0, 0, 0, 0) := z_ftd (by decide +kernel)
theorem t44_23 : z_ft 44 23 = some (.iadd, 1, none, [], 0, 0, 0, 0) := z_ftd (by decide +kernel)
theorem t44_24 : z_ft 44 24 = some (.sipush 251, 3, none, [], 0, 0, 0, 0) := z_ftd (by decide +kernel)
theorem t44_27 : z_ft 44 27 = some (.irem, 1, none, [], 0, 0, 0, 0) := z_ftd (by decide +kernel)
theorem t44_28 : z_ft 44 28 = some (.istore_n 2, 1, none, [], 0, 0, 0, 0) := z_ftd (by decide +kernel)
theorem t44_29 : z_ft 44 29 = some (.iinc 3 1, 3, none, [], 0, 0, 0, 0) := z_ftd (by decide +kernel)
theorem t44_32 : z_ft 44 32 = some (.goto (-26), 3, none, [], 6, 0, 0, 0) := z_ftd (by decide +kernel)
theorem t44_35 : z_ft 44 35 = some (.iload_n 2, 1, (some [2]), [], 0, 0, 0, 0) := z_ftd (by decide +kernel)
theorem t44_36 : z_ft 44 36 = some (.ireturn, 1, none, [], 0, 0, 0, 0) := z_ftd (by decide +kernel)
noncomputable def b44_6 (d : Nat) (y0 : Nat) (y1 : Int32) (y2 : Int32) (y3 : Int32) (S : z_S) : Option (Int32 × z_S) := zk kI z_X0 d 44 6 [.ref y0, .int y1, .int y2, .int y3] [] S
theorem b44_6_eq (d : Nat) (y0 : Nat) (y1 : Int32) (y2 : Int32) (y3 : Int32) (S : z_S) (hW : z_W S) (hy0 : z_K y0 = 20) : b44_6 d y0 y1 y2 y3 S = (if y1 ≤ y3 then some (y2, S) else (if (Int32.ofNat (z_Ln y0)) ≤ y3 then some (y2, S) else (if z_in y3 (z_Ln y0) then b44_6 d y0 y1 ((((5 : Int32) * y2) + (gI S y0 (y3).toNatClampNeg)) - (((5 : Int32) * y2) + (gI S y0 (y3).toNatClampNeg)) / (251 : Int32) * (251 : Int32)) (y3 + (1 : Int32)) S else none))) := by
  unfold b44_6
  refine (k_iload_n t44_6 rfl rfl).trans ?_
  refine (k_iload_n t44_7 rfl rfl).trans ?_
  refine (k_icmp_ge t44_8 rfl).trans (z_ite (fun g1 => ?_) (fun g1 => ?_))
  · refine (zk_mk (ls' := [z_j, z_j, .int y2, z_j]) t44_35 rfl).trans ?_
    refine (k_iload_n t44_35 rfl rfl).trans ?_
    exact k_ireturn t44_36 rfl (by decide)
  · refine (k_iload_n t44_11 rfl rfl).trans ?_
    refine (k_aload_n t44_12 rfl rfl).trans ?_
    refine (k_alen t44_13 rfl hW (by rw [hy0]; decide) rfl).trans ?_
    refine (k_icmp_ge t44_14 rfl).trans (z_ite (fun g2 => ?_) (fun g2 => ?_))
    · refine (zk_mk (ls' := [z_j, z_j, .int y2, z_j]) t44_35 rfl).trans ?_
      refine (k_iload_n t44_35 rfl rfl).trans ?_
      exact k_ireturn t44_36 rfl (by decide)
    · refine (k_iconst t44_17 rfl zci_5).trans ?_
      refine (k_iload_n t44_18 rfl rfl).trans ?_
      refine (k_imul t44_19 rfl).trans ?_
      refine (k_aload_n t44_20 rfl rfl).trans ?_
      refine (k_iload_n t44_21 rfl rfl).trans ?_
      refine (k_iald t44_22 rfl hW hy0 rfl).trans (z_ite (fun g3 => ?_) (fun _ => rfl))
      refine (k_iadd t44_23 rfl).trans ?_
      refine (k_sipush t44_24 rfl zcs_251).trans ?_
      refine ((k_irem t44_27 rfl).trans (if_neg (by decide))).trans ?_
      refine (k_istore_n (ls' := [.ref y0, .int y1, .int ((((5 : Int32) * y2) + (gI S y0 (y3).toNatClampNeg)) - (((5 : Int32) * y2) + (gI S y0 (y3).toNatClampNeg)) / (251 : Int32) * (251 : Int32)), .int y3]) t44_28 rfl rfl).trans ?_
      refine (k_iinc (b := (y3 + (1 : Int32))) (ls' := [.ref y0, .int y1, .int ((((5 : Int32) * y2) + (gI S y0 (y3).toNatClampNeg)) - (((5 : Int32) * y2) + (gI S y0 (y3).toNatClampNeg)) / (251 : Int32) * (251 : Int32)), .int (y3 + (1 : Int32))]) t44_29 rfl rfl (by rw [zci_1]) rfl).trans ?_
      refine (k_goto t44_32 rfl).trans ?_
      exact (zk_mk (ls' := [.ref y0, .int y1, .int ((((5 : Int32) * y2) + (gI S y0 (y3).toNatClampNeg)) - (((5 : Int32) * y2) + (gI S y0 (y3).toNatClampNeg)) / (251 : Int32) * (251 : Int32)), .int (y3 + (1 : Int32))]) t44_6 rfl)
-- X3_checkOf
theorem e44 (d : Nat) (a1 : Nat) (x2 : Int32) (S : z_S) (hW : z_W S) (ha1 : z_K a1 = 20) : fI (d + 1) 44 [.ref a1, .int x2] S = b44_6 d a1 x2 (227 : Int32) (0 : Int32) S := by
  refine (fI_en (Nat.le_of_ble_eq_true rfl) rfl).trans ?_
  refine (k_sipush t44_0 rfl zcs_227).trans ?_
  refine (k_istore_n (ls' := [.ref a1, .int x2, .int (227 : Int32), z_j]) t44_3 rfl rfl).trans ?_
  refine (k_iconst t44_4 rfl zci_0).trans ?_
  refine (k_istore_n (ls' := [.ref a1, .int x2, .int (227 : Int32), .int (0 : Int32)]) t44_5 rfl rfl).trans ?_
  exact (zk_mk (ls' := [.ref a1, .int x2, .int (227 : Int32), .int (0 : Int32)]) t44_6 rfl)
theorem t45_0 : z_ft 45 0 = some (.iconst 5, 1, none, [], 0, 0, 0, 0) := z_ftd (by decide +kernel)
theorem t45_1 : z_ft 45 1 = some (.aload_n 3, 1, none, [], 0, 0, 0, 0) := z_ftd (by decide +kernel)
theorem t45_2 : z_ft 45 2 = some (.getfield 31, 3, none, [], 6, 1, 0, 0) := z_ftd (by decide +kernel)
theorem t45_5 : z_ft 45 5 = some (.iadd, 1, none, [], 0, 0, 0, 0) := z_ftd (by decide +kernel)
theorem t45_6 : z_ft 45 6 = some (.istore 5, 2, none, [], 0, 0, 0, 0) := z_ftd (by decide +kernel)
theorem t45_8 : z_ft 45 8 = some (.iload 5, 2, none, [], 0, 0, 0, 0) := z_ftd (by decide +kernel)
theorem t45_10 : z_ft 45 10 = some (.iconst 2, 1, none, [], 0, 0, 0, 0) := z_ftd (by decide +kernel)
theorem t45_11 : z_ft 45 11 = some (.aload_n 3, 1, none, [], 0, 0, 0, 0) := z_ftd (by decide +kernel)
theorem t45_12 : z_ft 45 12 = some (.getfield 39, 3, none, [], 6, 6, 2, 0) := z_ftd (by decide +kernel)
theorem t45_15 : z_ft 45 15 = some (.imul, 1, none, [], 0, 0, 0, 0) := z_ftd (by decide +kernel)
theorem t45_16 : z_ft 45 16 = some (.iadd, 1, none, [], 0, 0, 0, 0) := z_ftd (by decide +kernel)
theorem t45_17 : z_ft 45 17 = some (.istore 6, 2, none, [], 0, 0, 0, 0) := z_ftd (by decide +kernel)
theorem t45_19 : z_ft 45 19 = some (.iload_n 2, 1, none, [], 0, 0, 0, 0) := z_ftd (by decide +kernel)
theorem t45_20 : z_ft 45 20 = some (.iload 6, 2, none, [], 0, 0, 0, 0) := z_ftd (by decide +kernel)
theorem t45_22 : z_ft 45 22 = some (.iconst 2, 1, none, [], 0, 0, 0, 0) := z_ftd (by decide +kernel)
theorem t45_23 : z_ft 45 23 = some (.iadd, 1, none, [], 0, 0, 0, 0) := z_ftd (by decide +kernel)
theorem t45_24 : z_ft 45 24 = some (.if_icmp .lt 9, 3, none, [], 33, 0, 0, 0) := z_ftd (by decide +kernel)
theorem t45_27 : z_ft 45 27 = some (.iload_n 2, 1, none, [], 0, 0, 0, 0) := z_ftd (by decide +kernel)
theorem t45_28 : z_ft 45 28 = some (.aload_n 1, 1, none, [], 0, 0, 0, 0) := z_ftd (by decide +kernel)
theorem t45_29 : z_ft 45 29 = some (.arraylength, 1, none, [], 0, 0, 0, 0) := z_ftd (by decide +kernel)
theorem t45_30 : z_ft 45 30 = some (.if_icmp .le 5, 3, none, [], 35, 0, 0, 0) := z_ftd (by decide +kernel)
theorem t45_33 : z_ft 45 33 = some (.iconst 0, 1, (some []), [], 0, 0, 0, 0) := z_ftd (by decide +kernel)
theorem t45_34 : z_ft 45 34 = some (.ireturn, 1, none, [], 0, 0, 0, 0) := z_ftd (by decide +kernel)
theorem t45_35 : z_ft 45 35 = some (.iload_n 2, 1, none, [], 0, 0, 0, 0) := z_ftd (by decide +kernel)
theorem t45_36 : z_ft 45 36 = some (.iload 6, 2, none, [], 0, 0, 0, 0) := z_ftd (by decide +kernel)
theorem t45_38 : z_ft 45 38 = some (.iconst 2, 1, none, [], 0, 0, 0, 0) := z_ftd (by decide +kernel)
theorem t45_39 : z_ft 45 39 = some (.iadd, 1, none, [], 0, 0, 0, 0) := z_ftd (by decide +kernel)
theorem t45_40 : z_ft 45 40 = some (.aload_n 1, 1, none, [], 0, 0, 0, 0) := z_ftd (by decide +kernel)
theorem t45_41 : z_ft 45 41 = some (.iload 6, 2, none, [], 0, 0, 0, 0) := z_ftd (by decide +kernel)
theorem t45_43 : z_ft 45 43 = some (.iaload, 1, none, [], 0, 0, 0, 0) := z_ftd (by decide +kernel)
theorem t45_44 : z_ft 45 44 = some (.iadd, 1, none, [], 0, 0, 0, 0) := z_ftd (by decide +kernel)
theorem t45_45 : z_ft 45 45 = some (.if_icmp .ne 18, 3, none, [], 63, 0, 0, 0) := z_ftd (by decide +kernel)
theorem t45_48 : z_ft 45 48 = some (.aload_n 1, 1, none, [], 0, 0, 0, 0) := z_ftd (by decide +kernel)
theorem t45_49 : z_ft 45 49 = some (.iload_n 2, 1, none, [], 0, 0, 0, 0) := z_ftd (by decide +kernel)
theorem t45_50 : z_ft 45 50 = some (.iconst 1, 1, none, [], 0, 0, 0, 0) := z_ftd (by decide +kernel)
theorem t45_51 : z_ft 45 51 = some (.isub, 1, none, [], 0, 0, 0, 0) := z_ftd (by decide +kernel)
theorem t45_52 : z_ft 45 52 = some (.iaload, 1, none, [], 0, 0, 0, 0) := z_ftd (by decide +kernel)
theorem t45_53 : z_ft 45 53 = some (.aload_n 1, 1, none, [], 0, 0, 0, 0) := z_ftd (by decide +kernel)
theorem t45_54 : z_ft 45 54 = some (.iload_n 2, 1, none, [], 0, 0, 0, 0) := z_ftd (by decide +kernel)
theorem t45_55 : z_ft 45 55 = some (.iconst 1, 1, none, [], 0, 0, 0, 0) := z_ftd (by decide +kernel)
theorem t45_56 : z_ft 45 56 = some (.isub, 1, none, [], 0, 0, 0, 0) := z_ftd (by decide +kernel)
theorem t45_57 : z_ft 45 57 = some (.invokestatic 54, 3, none, [], 44, 0, 16, 0) := z_ftd (by decide +kernel)
theorem t45_60 : z_ft 45 60 = some (.if_icmp .eq 5, 3, none, [], 65, 0, 0, 0) := z_ftd (by decide +kernel)
theorem t45_63 : z_ft 45 63 = some (.iconst 0, 1, (some []), [], 0, 0, 0, 0) := z_ftd (by decide +kernel)
theorem t45_64 : z_ft 45 64 = some (.ireturn, 1, none, [], 0, 0, 0, 0) := z_ftd (by decide +kernel)
theorem t45_65 : z_ft 45 65 = some (.aload 4, 2, none, [], 0, 0, 0, 0) := z_ftd (by decide +kernel)
theorem t45_67 : z_ft 45 67 = some (.iconst 0, 1, none, [], 0, 0, 0, 0) := z_ftd (by decide +kernel)
theorem t45_68 : z_ft 45 68 = some (.invokevirtual 58, 3, none, [], 74, 0, 17, 0) := z_ftd (by decide +kernel)
theorem t45_71 : z_ft 45 71 = some (.aload 4, 2, none, [], 0, 0, 0, 0) := z_ftd (by decide +kernel)
theorem t45_73 : z_ft 45 73 = some (.aload_n 1, 1, none, [], 0, 0, 0, 0) := z_ftd (by decide +kernel)
theorem t45_74 : z_ft 45 74 = some (.iconst 0, 1, none, [], 0, 0, 0, 0) := z_ftd (by decide +kernel)
theorem t45_75 : z_ft 45 75 = some (.iaload, 1, none, [], 0, 0, 0, 0) := z_ftd (by decide +kernel)
theorem t45_76 : z_ft 45 76 = some (.bipush 8, 2, none, [], 0, 0, 0, 0) := z_ftd (by decide +kernel)
theorem t45_78 : z_ft 45 78 = some (.ishl, 1, none, [], 0, 0, 0, 0) := z_ftd (by decide +kernel)
theorem t45_79 : z_ft 45 79 = some (.aload_n 1, 1, none, [], 0, 0, 0, 0) := z_ftd (by decide +kernel)
theorem t45_80 : z_ft 45 80 = some (.iconst 1, 1, none, [], 0, 0, 0, 0) := z_ftd (by decide +kernel)
theorem t45_81 : z_ft 45 81 = some (.iaload, 1, none, [], 0, 0, 0, 0) := z_ftd (by decide +kernel)
theorem t45_82 : z_ft 45 82 = some (.ior, 1, none, [], 0, 0, 0, 0) := z_ftd (by decide +kernel)
theorem t45_83 : z_ft 45 83 = some (.putfield 19, 3, none, [], 8, 0, 5, 0) := z_ftd (by decide +kernel)
theorem t45_86 : z_ft 45 86 = some (.aload 4, 2, none, [], 0, 0, 0, 0) := z_ftd (by decide +kernel)
theorem t45_88 : z_ft 45 88 = some (.aload_n 1, 1, none, [], 0, 0, 0, 0) := z_ftd (by decide +kernel)
theorem t45_89 : z_ft 45 89 = some (.iconst 2, 1, none, [], 0, 0, 0, 0) := z_ftd (by decide +kernel)
theorem t45_90 : z_ft 45 90 = some (.iaload, 1, none, [], 0, 0, 0, 0) := z_ftd (by decide +kernel)
theorem t45_91 : z_ft 45 91 = some (.bipush 16, 2, none, [], 0, 0, 0, 0) := z_ftd (by decide +kernel)
theorem t45_93 : z_ft 45 93 = some (.ishl, 1, none, [], 0, 0, 0, 0) := z_ftd (by decide +kernel)
theorem t45_94 : z_ft 45 94 = some (.aload_n 1, 1, none, [], 0, 0, 0, 0) := z_ftd (by decide +kernel)
theorem t45_95 : z_ft 45 95 = some (.iconst 3, 1, none, [], 0, 0, 0, 0) := z_ftd (by decide +kernel)
theorem t45_96 : z_ft 45 96 = some (.iaload, 1, none, [], 0, 0, 0, 0) := z_ftd (by decide +kernel)
theorem t45_97 : z_ft 45 97 = some (.bipush 8, 2, none, [], 0, 0, 0, 0) := z_ftd (by decide +kernel)
theorem t45_99 : z_ft 45 99 = some (.ishl, 1, none, [], 0, 0, 0, 0) := z_ftd (by decide +kernel)
theorem t45_100 : z_ft 45 100 = some (.ior, 1, none, [], 0, 0, 0, 0) := z_ftd (by decide +kernel)
theorem t45_101 : z_ft 45 101 = some (.aload_n 1, 1, none, [], 0, 0, 0, 0) := z_ftd (by decide +kernel)
theorem t45_102 : z_ft 45 102 = some (.iconst 4, 1, none, [], 0, 0, 0, 0) := z_ftd (by decide +kernel)
theorem t45_103 : z_ft 45 103 = some (.iaload, 1, none, [], 0, 0, 0, 0) := z_ftd (by decide +kernel)
theorem t45_104 : z_ft 45 104 = some (.ior, 1, none, [], 0, 0, 0, 0) := z_ftd (by decide +kernel)
theorem t45_105 : z_ft 45 105 = some (.putfield 28, 3, none, [], 8, 1, 6, 0) := z_ftd (by decide +kernel)
theorem t45_108 : z_ft 45 108 = some (.aload 4, 2, none, [], 0, 0, 0, 0) := z_ftd (by decide +kernel)
theorem t45_110 : z_ft 45 110 = some (.getfield 19, 3, none, [], 8, 0, 5, 0) := z_ftd (by decide +kernel)
theorem t45_113 : z_ft 45 113 = some (.sipush 999, 3, none, [], 0, 0, 0, 0) := z_ftd (by decide +kernel)
theorem t45_116 : z_ft 45 116 = some (.if_icmp .gt 51, 3, none, [], 167, 0, 0, 0) := z_ftd (by decide +kernel)
theorem t45_119 : z_ft 45 119 = some (.aload 4, 2, none, [], 0, 0, 0, 0) := z_ftd (by decide +kernel)
theorem t45_121 : z_ft 45 121 = some (.getfield 28, 3, none, [], 8, 1, 6, 0) := z_ftd (by decide +kernel)
theorem t45_124 : z_ft 45 124 = some (.ldc 61, 2, none, [], 0, 0, 18, 999999) := z_ftd (by decide +kernel)
theorem t45_126 : z_ft 45 126 = some (.if_icmp .gt 41, 3, none, [], 167, 0, 0, 0) := z_ftd (by decide +kernel)
theorem t45_129 : z_ft 45 129 = some (.aload_n 1, 1, none, [], 0, 0, 0, 0) := z_ftd (by decide +kernel)
theorem t45_130 : z_ft 45 130 = some (.aload_n 3, 1, none, [], 0, 0, 0, 0) := z_ftd (by decide +kernel)
theorem t45_131 : z_ft 45 131 = some (.aload 4, 2, none, [], 0, 0, 0, 0) := z_ftd (by decide +kernel)
theorem t45_133 : z_ft 45 133 = some (.invokestatic 62, 3, none, [], 46, 0, 19, 0) := z_ftd (by decide +kernel)
theorem t45_136 : z_ft 45 136 = some (.ifCond .eq 31, 3, none, [], 167, 0, 0, 0) := z_ftd (by decide +kernel)
theorem t45_139 : z_ft 45 139 = some (.aload_n 1, 1, none, [], 0, 0, 0, 0) := z_ftd (by decide +kernel)
theorem t45_140 : z_ft 45 140 = some (.iload 5, 2, none, [], 0, 0, 0, 0) := z_ftd (by decide +kernel)
theorem t45_142 : z_ft 45 142 = some (.aload_n 3, 1, none, [], 0, 0, 0, 0) := z_ftd (by decide +kernel)
theorem t45_143 : z_ft 45 143 = some (.aload 4, 2, none, [], 0, 0, 0, 0) := z_ftd (by decide +kernel)
theorem t45_145 : z_ft 45 145 = some (.invokestatic 66, 3, none, [], 47, 0, 20, 0) := z_ftd (by decide +kernel)
theorem t45_148 : z_ft 45 148 = some (.ifCond .eq 19, 3, none, [], 167, 0, 0, 0) := z_ftd (by decide +kernel)
theorem t45_151 : z_ft 45 151 = some (.aload_n 1, 1, none, [], 0, 0, 0, 0) := z_ftd (by decide +kernel)
theorem t45_152 : z_ft 45 152 = some (.iload 6, 2, none, [], 0, 0, 0, 0) := z_ftd (by decide +kernel)
theorem t45_154 : z_ft 45 154 = some (.aload_n 3, 1, none, [], 0, 0, 0, 0) := z_ftd (by decide +kernel)
theorem t45_155 : z_ft 45 155 = some (.aload 4, 2, none, [], 0, 0, 0, 0) := z_ftd (by decide +kernel)
theorem t45_157 : z_ft 45 157 = some (.invokestatic 70, 3, none, [], 48, 0, 23, 0) := z_ftd (by decide +kernel)
theorem t45_160 : z_ft 45 160 = some (.ifCond .eq 7, 3, none, [], 167, 0, 0, 0) := z_ftd (by decide +kernel)
theorem t45_163 : z_ft 45 163 = some (.iconst 1, 1, none, [], 0, 0, 0, 0) := z_ftd (by decide +kernel)
theorem t45_164 : z_ft 45 164 = some (.goto 4, 3, none, [], 168, 0, 0, 0) := z_ftd (by decide +kernel)
theorem t45_167 : z_ft 45 167 = some (.iconst 0, 1, (some []), [], 0, 0, 0, 0) := z_ftd (by decide +kernel)
theorem t45_168 : z_ft 45 168 = some (.ireturn, 1, (some []), [], 0, 0, 0, 0) := z_ftd (by decide +kernel)
noncomputable def b45_167 (d : Nat)  (S : z_S) : Option (Int32 × z_S) := zk kI z_X0 d 45 167 [z_j, z_j, z_j, z_j, z_j, z_j, z_j] [] S
theorem b45_167_eq (d : Nat)  (S : z_S) (hW : z_W S)  : b45_167 d  S = some ((0 : Int32), S) := by
  unfold b45_167
  refine (k_iconst t45_167 rfl zci_0).trans ?_
  refine (zk_mk (ls' := [z_j, z_j, z_j, z_j, z_j, z_j, z_j]) t45_168 rfl).trans ?_
  exact k_zretC t45_168 rfl (by decide) (by decide)
-- X3_read
theorem e45 (d : Nat) (a1 : Nat) (x2 : Int32) (p3 : Nat) (p4 : Nat) (S : z_S) (hW : z_W S) (ha1 : z_K a1 = 20) (hp3 : z_K p3 = 6) (hp4 : z_K p4 = 8) : fI (d + 1) 45 [.ref 393, .ref a1, .int x2, .ref p3, .ref p4] S = (if x2 < ((((5 : Int32) + (gI S p3 1)) + ((2 : Int32) * (gI S p3 6))) + (2 : Int32)) then some ((0 : Int32), S) else (if x2 ≤ (Int32.ofNat (z_Ln a1)) then (if z_in (((5 : Int32) + (gI S p3 1)) + ((2 : Int32) * (gI S p3 6))) (z_Ln a1) then (if ¬ x2 = (((((5 : Int32) + (gI S p3 1)) + ((2 : Int32) * (gI S p3 6))) + (2 : Int32)) + (gI S a1 ((((5 : Int32) + (gI S p3 1)) + ((2 : Int32) * (gI S p3 6)))).toNatClampNeg)) then some ((0 : Int32), S) else (if z_in (x2 - (1 : Int32)) (z_Ln a1) then (zb (fI d 44 [.ref a1, .int (x2 - (1 : Int32))] S) fun v6 S7 => (if (gI S a1 ((x2 - (1 : Int32))).toNatClampNeg) = v6 then ((fV d 74 [.ref p4, .int (0 : Int32)] S7).bind fun S10 => (if z_in (0 : Int32) (z_Ln a1) then (if z_in (1 : Int32) (z_Ln a1) then (if z_in (2 : Int32) (z_Ln a1) then (if z_in (3 : Int32) (z_Ln a1) then (if z_in (4 : Int32) (z_Ln a1) then (if (999 : Int32) < (gI (sI (sI S10 p4 0 (((gI S10 a1 ((0 : Int32)).toNatClampNeg) <<< ((8 : Int32) &&& 31)) ||| (gI S10 a1 ((1 : Int32)).toNatClampNeg))) p4 1 ((((gI (sI S10 p4 0 (((gI S10 a1 ((0 : Int32)).toNatClampNeg) <<< ((8 : Int32) &&& 31)) ||| (gI S10 a1 ((1 : Int32)).toNatClampNeg))) a1 ((2 : Int32)).toNatClampNeg) <<< ((16 : Int32) &&& 31)) ||| ((gI (sI S10 p4 0 (((gI S10 a1 ((0 : Int32)).toNatClampNeg) <<< ((8 : Int32) &&& 31)) ||| (gI S10 a1 ((1 : Int32)).toNatClampNeg))) a1 ((3 : Int32)).toNatClampNeg) <<< ((8 : Int32) &&& 31))) ||| (gI (sI S10 p4 0 (((gI S10 a1 ((0 : Int32)).toNatClampNeg) <<< ((8 : Int32) &&& 31)) ||| (gI S10 a1 ((1 : Int32)).toNatClampNeg))) a1 ((4 : Int32)).toNatClampNeg))) p4 0) then b45_167 d (sI (sI S10 p4 0 (((gI S10 a1 ((0 : Int32)).toNatClampNeg) <<< ((8 : Int32) &&& 31)) ||| (gI S10 a1 ((1 : Int32)).toNatClampNeg))) p4 1 ((((gI (sI S10 p4 0 (((gI S10 a1 ((0 : Int32)).toNatClampNeg) <<< ((8 : Int32) &&& 31)) ||| (gI S10 a1 ((1 : Int32)).toNatClampNeg))) a1 ((2 : Int32)).toNatClampNeg) <<< ((16 : Int32) &&& 31)) ||| ((gI (sI S10 p4 0 (((gI S10 a1 ((0 : Int32)).toNatClampNeg) <<< ((8 : Int32) &&& 31)) ||| (gI S10 a1 ((1 : Int32)).toNatClampNeg))) a1 ((3 : Int32)).toNatClampNeg) <<< ((8 : Int32) &&& 31))) ||| (gI (sI S10 p4 0 (((gI S10 a1 ((0 : Int32)).toNatClampNeg) <<< ((8 : Int32) &&& 31)) ||| (gI S10 a1 ((1 : Int32)).toNatClampNeg))) a1 ((4 : Int32)).toNatClampNeg))) else (if (999999 : Int32) < (gI (sI (sI S10 p4 0 (((gI S10 a1 ((0 : Int32)).toNatClampNeg) <<< ((8 : Int32) &&& 31)) ||| (gI S10 a1 ((1 : Int32)).toNatClampNeg))) p4 1 ((((gI (sI S10 p4 0 (((gI S10 a1 ((0 : Int32)).toNatClampNeg) <<< ((8 : Int32) &&& 31)) ||| (gI S10 a1 ((1 : Int32)).toNatClampNeg))) a1 ((2 : Int32)).toNatClampNeg) <<< ((16 : Int32) &&& 31)) ||| ((gI (sI S10 p4 0 (((gI S10 a1 ((0 : Int32)).toNatClampNeg) <<< ((8 : Int32) &&& 31)) ||| (gI S10 a1 ((1 : Int32)).toNatClampNeg))) a1 ((3 : Int32)).toNatClampNeg) <<< ((8 : Int32) &&& 31))) ||| (gI (sI S10 p4 0 (((gI S10 a1 ((0 : Int32)).toNatClampNeg) <<< ((8 : Int32) &&& 31)) ||| (gI S10 a1 ((1 : Int32)).toNatClampNeg))) a1 ((4 : Int32)).toNatClampNeg))) p4 1) then b45_167 d (sI (sI S10 p4 0 (((gI S10 a1 ((0 : Int32)).toNatClampNeg) <<< ((8 : Int32) &&& 31)) ||| (gI S10 a1 ((1 : Int32)).toNatClampNeg))) p4 1 ((((gI (sI S10 p4 0 (((gI S10 a1 ((0 : Int32)).toNatClampNeg) <<< ((8 : Int32) &&& 31)) ||| (gI S10 a1 ((1 : Int32)).toNatClampNeg))) a1 ((2 : Int32)).toNatClampNeg) <<< ((16 : Int32) &&& 31)) ||| ((gI (sI S10 p4 0 (((gI S10 a1 ((0 : Int32)).toNatClampNeg) <<< ((8 : Int32) &&& 31)) ||| (gI S10 a1 ((1 : Int32)).toNatClampNeg))) a1 ((3 : Int32)).toNatClampNeg) <<< ((8 : Int32) &&& 31))) ||| (gI (sI S10 p4 0 (((gI S10 a1 ((0 : Int32)).toNatClampNeg) <<< ((8 : Int32) &&& 31)) ||| (gI S10 a1 ((1 : Int32)).toNatClampNeg))) a1 ((4 : Int32)).toNatClampNeg))) else (zb (fI d 46 [.ref a1, .ref p3, .ref p4] (sI (sI S10 p4 0 (((gI S10 a1 ((0 : Int32)).toNatClampNeg) <<< ((8 : Int32) &&& 31)) ||| (gI S10 a1 ((1 : Int32)).toNatClampNeg))) p4 1 ((((gI (sI S10 p4 0 (((gI S10 a1 ((0 : Int32)).toNatClampNeg) <<< ((8 : Int32) &&& 31)) ||| (gI S10 a1 ((1 : Int32)).toNatClampNeg))) a1 ((2 : Int32)).toNatClampNeg) <<< ((16 : Int32) &&& 31)) ||| ((gI (sI S10 p4 0 (((gI S10 a1 ((0 : Int32)).toNatClampNeg) <<< ((8 : Int32) &&& 31)) ||| (gI S10 a1 ((1 : Int32)).toNatClampNeg))) a1 ((3 : Int32)).toNatClampNeg) <<< ((8 : Int32) &&& 31))) ||| (gI (sI S10 p4 0 (((gI S10 a1 ((0 : Int32)).toNatClampNeg) <<< ((8 : Int32) &&& 31)) ||| (gI S10 a1 ((1 : Int32)).toNatClampNeg))) a1 ((4 : Int32)).toNatClampNeg)))) fun v18 S19 => (if v18 = (0 : Int32) then b45_167 d S19 else (zb (fI d 47 [.ref a1, .int ((5 : Int32) + (gI S p3 1)), .ref p3, .ref p4] S19) fun v21 S22 => (if v21 = (0 : Int32) then b45_167 d S22 else (zb (fI d 48 [.ref a1, .int (((5 : Int32) + (gI S p3 1)) + ((2 : Int32) * (gI S p3 6))), .ref p3, .ref p4] S22) fun v24 S25 => (if v24 = (0 : Int32) then b45_167 d S25 else some ((1 : Int32), S25))))))))) else none) else none) else none) else none) else none)) else some ((0 : Int32), S7))) else none)) else none) else some ((0 : Int32), S))) := by
  refine (fI_en (Nat.le_of_ble_eq_true rfl) rfl).trans ?_
  refine (k_iconst t45_0 rfl zci_5).trans ?_
  refine (k_aload_n t45_1 rfl rfl).trans ?_
  refine (k_getI t45_2 rfl hW hp3 (by decide) (by decide)).trans ?_
  refine (k_iadd t45_5 rfl).trans ?_
  refine (k_istore (ls' := [.ref 393, .ref a1, .int x2, .ref p3, .ref p4, .int ((5 : Int32) + (gI S p3 1)), z_j]) t45_6 rfl rfl).trans ?_
  refine (k_iload t45_8 rfl rfl).trans ?_
  refine (k_iconst t45_10 rfl zci_2).trans ?_
  refine (k_aload_n t45_11 rfl rfl).trans ?_
  refine (k_getI t45_12 rfl hW hp3 (by decide) (by decide)).trans ?_
  refine (k_imul t45_15 rfl).trans ?_
  refine (k_iadd t45_16 rfl).trans ?_
  refine (k_istore (ls' := [.ref 393, .ref a1, .int x2, .ref p3, .ref p4, .int ((5 : Int32) + (gI S p3 1)), .int (((5 : Int32) + (gI S p3 1)) + ((2 : Int32) * (gI S p3 6)))]) t45_17 rfl rfl).trans ?_
  refine (k_iload_n t45_19 rfl rfl).trans ?_
  refine (k_iload t45_20 rfl rfl).trans ?_
  refine (k_iconst t45_22 rfl zci_2).trans ?_
  refine (k_iadd t45_23 rfl).trans ?_
  refine (k_icmp_lt t45_24 rfl).trans (z_ite (fun g1 => ?_) (fun g1 => ?_))
  · refine (zk_mk (ls' := [z_j, z_j, z_j, z_j, z_j, z_j, z_j]) t45_33 rfl).trans ?_
    refine (k_iconst t45_33 rfl zci_0).trans ?_
    exact k_zretC t45_34 rfl (by decide) (by decide)
  · refine (k_iload_n t45_27 rfl rfl).trans ?_
    refine (k_aload_n t45_28 rfl rfl).trans ?_
    refine (k_alen t45_29 rfl hW (by rw [ha1]; decide) rfl).trans ?_
    refine (k_icmp_le t45_30 rfl).trans (z_ite (fun g2 => ?_) (fun g2 => ?_))
    · refine (k_iload_n t45_35 rfl rfl).trans ?_
      refine (k_iload t45_36 rfl rfl).trans ?_
      refine (k_iconst t45_38 rfl zci_2).trans ?_
      refine (k_iadd t45_39 rfl).trans ?_
      refine (k_aload_n t45_40 rfl rfl).trans ?_
      refine (k_iload t45_41 rfl rfl).trans ?_
      refine (k_iald t45_43 rfl hW ha1 rfl).trans (z_ite (fun g3 => ?_) (fun _ => rfl))
      refine (k_iadd t45_44 rfl).trans ?_
      refine (k_icmp_ne t45_45 rfl).trans (z_ite (fun g4 => ?_) (fun g4 => ?_))
      · refine (zk_mk (ls' := [z_j, z_j, z_j, z_j, z_j, z_j, z_j]) t45_63 rfl).trans ?_
        refine (k_iconst t45_63 rfl zci_0).trans ?_
        exact k_zretC t45_64 rfl (by decide) (by decide)
      · refine (k_aload_n t45_48 rfl rfl).trans ?_
        refine (k_iload_n t45_49 rfl rfl).trans ?_
        refine (k_iconst t45_50 rfl zci_1).trans ?_
        refine (k_isub t45_51 rfl).trans ?_
        refine (k_iald t45_52 rfl hW ha1 rfl).trans (z_ite (fun g5 => ?_) (fun _ => rfl))
        refine (k_aload_n t45_53 rfl rfl).trans ?_
        refine (k_iload_n t45_54 rfl rfl).trans ?_
        refine (k_iconst t45_55 rfl zci_1).trans ?_
        refine (k_isub t45_56 rfl).trans ?_
        refine k_callI (as := [.ref a1, .int (x2 - (1 : Int32))]) (rest := [.int (gI S a1 ((x2 - (1 : Int32))).toNatClampNeg)]) t45_57 rfl rfl (by decide) rfl rfl (Nat.le_of_ble_eq_true rfl) rfl (z_rcS (by decide)) (by decide) (Or.inl (by decide)) hW (fun v6 S7 hW7 => ?_)
        refine (k_icmp_eq t45_60 rfl).trans (z_ite (fun g8 => ?_) (fun g8 => ?_))
        · refine (k_aload t45_65 rfl rfl).trans ?_
          refine (k_iconst t45_67 rfl zci_0).trans ?_
          refine k_callV (as := [.ref p4, .int (0 : Int32)]) (rest := []) t45_68 rfl rfl (by decide) rfl rfl (Nat.le_of_ble_eq_true rfl) rfl (z_rcV hW7 (hp4) (by decide)) (by decide) (by decide) hW7 (fun S10 hW10 => ?_)
          refine (k_aload t45_71 rfl rfl).trans ?_
          refine (k_aload_n t45_73 rfl rfl).trans ?_
          refine (k_iconst t45_74 rfl zci_0).trans ?_
          refine (k_iald t45_75 rfl hW10 ha1 rfl).trans (z_ite (fun g11 => ?_) (fun _ => rfl))
          refine (k_bipush t45_76 rfl zcb_8).trans ?_
          refine (k_ishl t45_78 rfl).trans ?_
          refine (k_aload_n t45_79 rfl rfl).trans ?_
          refine (k_iconst t45_80 rfl zci_1).trans ?_
          refine (k_iald t45_81 rfl hW10 ha1 rfl).trans (z_ite (fun g12 => ?_) (fun _ => rfl))
          refine (k_ior t45_82 rfl).trans ?_
          refine (k_putI t45_83 rfl hW10 hp4 (by decide) (by decide) (by decide)).trans ?_
          refine (k_aload t45_86 rfl rfl).trans ?_
          refine (k_aload_n t45_88 rfl rfl).trans ?_
          refine (k_iconst t45_89 rfl zci_2).trans ?_
          refine (k_iald t45_90 rfl hW10.sI ha1 rfl).trans (z_ite (fun g13 => ?_) (fun _ => rfl))
          refine (k_bipush t45_91 rfl zcb_16).trans ?_
          refine (k_ishl t45_93 rfl).trans ?_
          refine (k_aload_n t45_94 rfl rfl).trans ?_
          refine (k_iconst t45_95 rfl zci_3).trans ?_
          refine (k_iald t45_96 rfl hW10.sI ha1 rfl).trans (z_ite (fun g14 => ?_) (fun _ => rfl))
          refine (k_bipush t45_97 rfl zcb_8).trans ?_
          refine (k_ishl t45_99 rfl).trans ?_
          refine (k_ior t45_100 rfl).trans ?_
          refine (k_aload_n t45_101 rfl rfl).trans ?_
          refine (k_iconst t45_102 rfl zci_4).trans ?_
          refine (k_iald t45_103 rfl hW10.sI ha1 rfl).trans (z_ite (fun g15 => ?_) (fun _ => rfl))
          refine (k_ior t45_104 rfl).trans ?_
          refine (k_putI t45_105 rfl hW10.sI hp4 (by decide) (by decide) (by decide)).trans ?_
          refine (k_aload t45_108 rfl rfl).trans ?_
          refine (k_getI t45_110 rfl hW10.sI.sI hp4 (by decide) (by decide)).trans ?_
          refine (k_sipush t45_113 rfl zcs_999).trans ?_
          refine (k_icmp_gt t45_116 rfl).trans (z_ite (fun g16 => ?_) (fun g16 => ?_))
          · exact (zk_mk (ls' := [z_j, z_j, z_j, z_j, z_j, z_j, z_j]) t45_167 rfl)
          · refine (k_aload t45_119 rfl rfl).trans ?_
            refine (k_getI t45_121 rfl hW10.sI.sI hp4 (by decide) (by decide)).trans ?_
            refine (k_ldc t45_124 rfl rfl zci_999999).trans ?_
            refine (k_icmp_gt t45_126 rfl).trans (z_ite (fun g17 => ?_) (fun g17 => ?_))
            · exact (zk_mk (ls' := [z_j, z_j, z_j, z_j, z_j, z_j, z_j]) t45_167 rfl)
            · refine (k_aload_n t45_129 rfl rfl).trans ?_
              refine (k_aload_n t45_130 rfl rfl).trans ?_
              refine (k_aload t45_131 rfl rfl).trans ?_
              refine k_callI (as := [.ref a1, .ref p3, .ref p4]) (rest := []) t45_133 rfl rfl (by decide) rfl rfl (Nat.le_of_ble_eq_true rfl) rfl (z_rcS (by decide)) (by decide) (Or.inr (by decide)) hW10.sI.sI (fun v18 S19 hW19 => ?_)
              refine (k_if_eq t45_136 rfl).trans (z_ite (fun g20 => ?_) (fun g20 => ?_))
              · exact (zk_mk (ls' := [z_j, z_j, z_j, z_j, z_j, z_j, z_j]) t45_167 rfl)
              · refine (k_aload_n t45_139 rfl rfl).trans ?_
                refine (k_iload t45_140 rfl rfl).trans ?_
                refine (k_aload_n t45_142 rfl rfl).trans ?_
                refine (k_aload t45_143 rfl rfl).trans ?_
                refine k_callI (as := [.ref a1, .int ((5 : Int32) + (gI S p3 1)), .ref p3, .ref p4]) (rest := []) t45_145 rfl rfl (by decide) rfl rfl (Nat.le_of_ble_eq_true rfl) rfl (z_rcS (by decide)) (by decide) (Or.inr (by decide)) hW19 (fun v21 S22 hW22 => ?_)
                refine (k_if_eq t45_148 rfl).trans (z_ite (fun g23 => ?_) (fun g23 => ?_))
                · exact (zk_mk (ls' := [z_j, z_j, z_j, z_j, z_j, z_j, z_j]) t45_167 rfl)
                · refine (k_aload_n t45_151 rfl rfl).trans ?_
                  refine (k_iload t45_152 rfl rfl).trans ?_
                  refine (k_aload_n t45_154 rfl rfl).trans ?_
                  refine (k_aload t45_155 rfl rfl).trans ?_
                  refine k_callI (as := [.ref a1, .int (((5 : Int32) + (gI S p3 1)) + ((2 : Int32) * (gI S p3 6))), .ref p3, .ref p4]) (rest := []) t45_157 rfl rfl (by decide) rfl rfl (Nat.le_of_ble_eq_true rfl) rfl (z_rcS (by decide)) (by decide) (Or.inr (by decide)) hW22 (fun v24 S25 hW25 => ?_)
                  refine (k_if_eq t45_160 rfl).trans (z_ite (fun g26 => ?_) (fun g26 => ?_))
                  · exact (zk_mk (ls' := [z_j, z_j, z_j, z_j, z_j, z_j, z_j]) t45_167 rfl)
                  · refine (k_iconst t45_163 rfl zci_1).trans ?_
                    refine (k_goto t45_164 rfl).trans ?_
                    refine (zk_mk (ls' := [z_j, z_j, z_j, z_j, z_j, z_j, z_j]) t45_168 rfl).trans ?_
                    exact k_zretC t45_168 rfl (by decide) (by decide)
        · refine (zk_mk (ls' := [z_j, z_j, z_j, z_j, z_j, z_j, z_j]) t45_63 rfl).trans ?_
          refine (k_iconst t45_63 rfl zci_0).trans ?_
          exact k_zretC t45_64 rfl (by decide) (by decide)
    · refine (zk_mk (ls' := [z_j, z_j, z_j, z_j, z_j, z_j, z_j]) t45_33 rfl).trans ?_
      refine (k_iconst t45_33 rfl zci_0).trans ?_
      exact k_zretC t45_34 rfl (by decide) (by decide)
theorem t46_0 : z_ft 46 0 = some (.iconst 0, 1, none, [], 0, 0, 0, 0) := z_ftd (by decide +kernel)
theorem t46_1 : z_ft 46 1 = some (.istore_n 3, 1, none, [], 0, 0, 0, 0) := z_ftd (by decide +kernel)
theorem t46_2 : z_ft 46 2 = some (.iload_n 3, 1, (some [0, 1, 2, 3]), [], 0, 0, 0, 0) := z_ftd (by decide +kernel)
theorem t46_3 : z_ft 46 3 = some (.aload_n 1, 1, none, [], 0, 0, 0, 0) := z_ftd (by decide +kernel)
theorem t46_4 : z_ft 46 4 = some (.getfield 31, 3, none, [], 6, 1, 0, 0) := z_ftd (by decide +kernel)
theorem t46_7 : z_ft 46 7 = some (.if_icmp .ge 37, 3, none, [], 44, 0, 0, 0) := z_ftd (by decide +kernel)
theorem t46_10 : z_ft 46 10 = some (.aload_n 0, 1, none, [], 0, 0, 0, 0) := z_ftd (by decide +kernel)
theorem t46_11 : z_ft 46 11 = some (.iconst 5, 1, none, [], 0, 0, 0, 0) := z_ftd (by decide +kernel)
theorem t46_12 : z_ft 46 12 = some (.iload_n 3, 1, none, [], 0, 0, 0, 0) := z_ftd (by decide +kernel)
theorem t46_13 : z_ft 46 13 = some (.iadd, 1, none, [], 0, 0, 0, 0) := z_ftd (by decide +kernel)
theorem t46_14 : z_ft 46 14 = some (.iaload, 1, none, [], 0, 0, 0, 0) := z_ftd (by decide +kernel)
theorem t46_15 : z_ft 46 15 = some (.istore 4, 2, none, [], 0, 0, 0, 0) := z_ftd (by decide +kernel)
theorem t46_17 : z_ft 46 17 = some (.iload 4, 2, none, [], 0, 0, 0, 0) := z_ftd (by decide +kernel)
theorem t46_19 : z_ft 46 19 = some (.iconst 1, 1, none, [], 0, 0, 0, 0) := z_ftd (by decide +kernel)
theorem t46_20 : z_ft 46 20 = some (.if_icmp .le 5, 3, none, [], 25, 0, 0, 0) := z_ftd (by decide +kernel)
theorem t46_23 : z_ft 46 23 = some (.iconst 0, 1, none, [], 0, 0, 0, 0) := z_ftd (by decide +kernel)
theorem t46_24 : z_ft 46 24 = some (.ireturn, 1, none, [], 0, 0, 0, 0) := z_ftd (by decide +kernel)
theorem t46_25 : z_ft 46 25 = some (.aload_n 2, 1, none, [], 0, 0, 0, 0) := z_ftd (by decide +kernel)
theorem t46_26 : z_ft 46 26 = some (.dup, 1, none, [], 0, 0, 0, 0) := z_ftd (by decide +kernel)
theorem t46_27 : z_ft 46 27 = some (.getfield 36, 3, none, [], 8, 2, 7, 0) := z_ftd (by decide +kernel)
theorem t46_30 : z_ft 46 30 = some (.iload 4, 2, none, [], 0, 0, 0, 0) := z_ftd (by decide +kernel)
theorem t46_32 : z_ft 46 32 = some (.iload_n 3, 1, none, [], 0, 0, 0, 0) := z_ftd (by decide +kernel)
theorem t46_33 : z_ft 46 33 = some (.ishl, 1, none, [], 0, 0, 0, 0) := z_ftd (by decide +kernel)
theorem t46_34 : z_ft 46 34 = some (.ior, 1, none, [], 0, 0, 0, 0) := z_ftd (by decide +kernel)
theorem t46_35 : z_ft 46 35 = some (.putfield 36, 3, none, [], 8, 2, 7, 0) := z_ftd (by decide +kernel)
theorem t46_38 : z_ft 46 38 = some (.iinc 3 1, 3, none, [], 0, 0, 0, 0) := z_ftd (by decide +kernel)
theorem t46_41 : z_ft 46 41 = some (.goto (-39), 3, none, [], 2, 0, 0, 0) := z_ftd (by decide +kernel)
theorem t46_44 : z_ft 46 44 = some (.iconst 1, 1, none, [], 0, 0, 0, 0) := z_ftd (by decide +kernel)
theorem t46_45 : z_ft 46 45 = some (.ireturn, 1, none, [], 0, 0, 0, 0) := z_ftd (by decide +kernel)
noncomputable def b46_2 (d : Nat) (y0 : Nat) (y1 : Nat) (y2 : Nat) (y3 : Int32) (S : z_S) : Option (Int32 × z_S) := zk kI z_X0 d 46 2 [.ref y0, .ref y1, .ref y2, .int y3, z_j] [] S
theorem b46_2_eq (d : Nat) (y0 : Nat) (y1 : Nat) (y2 : Nat) (y3 : Int32) (S : z_S) (hW : z_W S) (hy0 : z_K y0 = 20) (hy1 : z_K y1 = 6) (hy2 : z_K y2 = 8) : b46_2 d y0 y1 y2 y3 S = (if (gI S y1 1) ≤ y3 then some ((1 : Int32), S) else (if z_in ((5 : Int32) + y3) (z_Ln y0) then (if (gI S y0 (((5 : Int32) + y3)).toNatClampNeg) ≤ (1 : Int32) then b46_2 d y0 y1 y2 (y3 + (1 : Int32)) (sI S y2 2 ((gI S y2 2) ||| ((gI S y0 (((5 : Int32) + y3)).toNatClampNeg) <<< (y3 &&& 31)))) else some ((0 : Int32), S)) else none)) := by
  unfold b46_2
  refine (k_iload_n t46_2 rfl rfl).trans ?_
  refine (k_aload_n t46_3 rfl rfl).trans ?_
  refine (k_getI t46_4 rfl hW hy1 (by decide) (by decide)).trans ?_
  refine (k_icmp_ge t46_7 rfl).trans (z_ite (fun g1 => ?_) (fun g1 => ?_))
  · refine (k_iconst t46_44 rfl zci_1).trans ?_
    exact k_zretC t46_45 rfl (by decide) (by decide)
  · refine (k_aload_n t46_10 rfl rfl).trans ?_
    refine (k_iconst t46_11 rfl zci_5).trans ?_
    refine (k_iload_n t46_12 rfl rfl).trans ?_
    refine (k_iadd t46_13 rfl).trans ?_
    refine (k_iald t46_14 rfl hW hy0 rfl).trans (z_ite (fun g2 => ?_) (fun _ => rfl))
    refine (k_istore (ls' := [.ref y0, .ref y1, .ref y2, .int y3, .int (gI S y0 (((5 : Int32) + y3)).toNatClampNeg)]) t46_15 rfl rfl).trans ?_
    refine (k_iload t46_17 rfl rfl).trans ?_
    refine (k_iconst t46_19 rfl zci_1).trans ?_
    refine (k_icmp_le t46_20 rfl).trans (z_ite (fun g3 => ?_) (fun g3 => ?_))
    · refine (k_aload_n t46_25 rfl rfl).trans ?_
      refine (k_dupR t46_26 rfl).trans ?_
      refine (k_getI t46_27 rfl hW hy2 (by decide) (by decide)).trans ?_
      refine (k_iload t46_30 rfl rfl).trans ?_
      refine (k_iload_n t46_32 rfl rfl).trans ?_
      refine (k_ishl t46_33 rfl).trans ?_
      refine (k_ior t46_34 rfl).trans ?_
      refine (k_putI t46_35 rfl hW hy2 (by decide) (by decide) (by decide)).trans ?_
      refine (k_iinc (b := (y3 + (1 : Int32))) (ls' := [.ref y0, .ref y1, .ref y2, .int (y3 + (1 : Int32)), .int (gI S y0 (((5 : Int32) + y3)).toNatClampNeg)]) t46_38 rfl rfl (by rw [zci_1]) rfl).trans ?_
      refine (k_goto t46_41 rfl).trans ?_
      exact (zk_mk (ls' := [.ref y0, .ref y1, .ref y2, .int (y3 + (1 : Int32)), z_j]) t46_2 rfl)
    · refine (k_iconst t46_23 rfl zci_0).trans ?_
      exact k_zretC t46_24 rfl (by decide) (by decide)
-- X3_readRooms
theorem e46 (d : Nat) (a1 : Nat) (p2 : Nat) (p3 : Nat) (S : z_S) (hW : z_W S) (ha1 : z_K a1 = 20) (hp2 : z_K p2 = 6) (hp3 : z_K p3 = 8) : fI (d + 1) 46 [.ref a1, .ref p2, .ref p3] S = b46_2 d a1 p2 p3 (0 : Int32) S := by
  refine (fI_en (Nat.le_of_ble_eq_true rfl) rfl).trans ?_
  refine (k_iconst t46_0 rfl zci_0).trans ?_
  refine (k_istore_n (ls' := [.ref a1, .ref p2, .ref p3, .int (0 : Int32), z_j]) t46_1 rfl rfl).trans ?_
  exact (zk_mk (ls' := [.ref a1, .ref p2, .ref p3, .int (0 : Int32), z_j]) t46_2 rfl)
theorem t47_0 : z_ft 47 0 = some (.iconst 0, 1, none, [], 0, 0, 0, 0) := z_ftd (by decide +kernel)
theorem t47_1 : z_ft 47 1 = some (.istore 4, 2, none, [], 0, 0, 0, 0) := z_ftd (by decide +kernel)
theorem t47_3 : z_ft 47 3 = some (.iload 4, 2, (some [0, 1, 2, 3, 4]), [], 0, 0, 0, 0) := z_ftd (by decide +kernel)
theorem t47_5 : z_ft 47 5 = some (.aload_n 2, 1, none, [], 0, 0, 0, 0) := z_ftd (by decide +kernel)
theorem t47_6 : z_ft 47 6 = some (.getfield 39, 3, none, [], 6, 6, 2, 0) := z_ftd (by decide +kernel)
theorem t47_9 : z_ft 47 9 = some (.if_icmp .ge 125, 3, none, [], 134, 0, 0, 0) := z_ftd (by decide +kernel)
theorem t47_12 : z_ft 47 12 = some (.aload_n 0, 1, none, [], 0, 0, 0, 0) := z_ftd (by decide +kernel)
theorem t47_13 : z_ft 47 13 = some (.iload_n 1, 1, none, [], 0, 0, 0, 0) := z_ftd (by decide +kernel)
theorem t47_14 : z_ft 47 14 = some (.iconst 2, 1, none, [], 0, 0, 0, 0) := z_ftd (by decide +kernel)
theorem t47_15 : z_ft 47 15 = some (.iload 4, 2, none, [], 0, 0, 0, 0) := z_ftd (by decide +kernel)
theorem t47_17 : z_ft 47 17 = some (.imul, 1, none, [], 0, 0, 0, 0) := z_ftd (by decide +kernel)
theorem t47_18 : z_ft 47 18 = some (.iadd, 1, none, [], 0, 0, 0, 0) := z_ftd (by decide +kernel)
theorem t47_19 : z_ft 47 19 = some (.iaload, 1, none, [], 0, 0, 0, 0) := z_ftd (by decide +kernel)
theorem t47_20 : z_ft 47 20 = some (.istore 5, 2, none, [], 0, 0, 0, 0) := z_ftd (by decide +kernel)
theorem t47_22 : z_ft 47 22 = some (.aload_n 0, 1, none, [], 0, 0, 0, 0) := z_ftd (by decide +kernel)
theorem t47_23 : z_ft 47 23 = some (.iload_n 1, 1, none, [], 0, 0, 0, 0) := z_ftd (by decide +kernel)
theorem t47_24 : z_ft 47 24 = some (.iconst 2, 1, none, [], 0, 0, 0, 0) := z_ftd (by decide +kernel)
theorem t47_25 : z_ft 47 25 = some (.iload 4, 2, none, [], 0, 0, 0, 0) := z_ftd (by decide +kernel)
theorem t47_27 : z_ft 47 27 = some (.imul, 1, none, [], 0, 0, 0, 0) := z_ftd (by decide +kernel)
theorem t47_28 : z_ft 47 28 = some (.iadd, 1, none, [], 0, 0, 0, 0) := z_ftd (by decide +kernel)
theorem t47_29 : z_ft 47 29 = some (.iconst 1, 1, none, [], 0, 0, 0, 0) := z_ftd (by decide +kernel)
theorem t47_30 : z_ft 47 30 = some (.iadd, 1, none, [], 0, 0, 0, 0) := z_ftd (by decide +kernel)
theorem t47_31 : z_ft 47 31 = some (.iaload, 1, none, [], 0, 0, 0, 0) := z_ftd (by decide +kernel)
theorem t47_32 : z_ft 47 32 = some (.istore 6, 2, none, [], 0, 0, 0, 0) := z_ftd (by decide +kernel)
theorem t47_34 : z_ft 47 34 = some (.iload 5, 2, none, [], 0, 0, 0, 0) := z_ftd (by decide +kernel)
theorem t47_36 : z_ft 47 36 = some (.aload_n 2, 1, none, [], 0, 0, 0, 0) := z_ftd (by decide +kernel)
theorem t47_37 : z_ft 47 37 = some (.getfield 73, 3, none, [], 6, 10, 3, 0) := z_ftd (by decide +kernel)
theorem t47_40 : z_ft 47 40 = some (.iload 4, 2, none, [], 0, 0, 0, 0) := z_ftd (by decide +kernel)
theorem t47_42 : z_ft 47 42 = some (.iaload, 1, none, [], 0, 0, 0, 0) := z_ftd (by decide +kernel)
theorem t47_43 : z_ft 47 43 = some (.if_icmp .eq 15, 3, none, [], 58, 0, 0, 0) := z_ftd (by decide +kernel)
theorem t47_46 : z_ft 47 46 = some (.iload 5, 2, none, [], 0, 0, 0, 0) := z_ftd (by decide +kernel)
theorem t47_48 : z_ft 47 48 = some (.aload_n 2, 1, none, [], 0, 0, 0, 0) := z_ftd (by decide +kernel)
theorem t47_49 : z_ft 47 49 = some (.getfield 76, 3, none, [], 6, 11, 4, 0) := z_ftd (by decide +kernel)
theorem t47_52 : z_ft 47 52 = some (.iload 4, 2, none, [], 0, 0, 0, 0) := z_ftd (by decide +kernel)
theorem t47_54 : z_ft 47 54 = some (.iaload, 1, none, [], 0, 0, 0, 0) := z_ftd (by decide +kernel)
theorem t47_55 : z_ft 47 55 = some (.if_icmp .ne 41, 3, none, [], 96, 0, 0, 0) := z_ftd (by decide +kernel)
theorem t47_58 : z_ft 47 58 = some (.aload_n 3, 1, (some [0, 1, 2, 3, 4, 5, 6]), [], 0, 0, 0, 0) := z_ftd (by decide +kernel)
theorem t47_59 : z_ft 47 59 = some (.iload 5, 2, none, [], 0, 0, 0, 0) := z_ftd (by decide +kernel)
theorem t47_61 : z_ft 47 61 = some (.invokevirtual 79, 3, none, [], 76, 0, 21, 0) := z_ftd (by decide +kernel)
theorem t47_64 : z_ft 47 64 = some (.ifCond .eq 10, 3, none, [], 74, 0, 0, 0) := z_ftd (by decide +kernel)
theorem t47_67 : z_ft 47 67 = some (.iload 6, 2, none, [], 0, 0, 0, 0) := z_ftd (by decide +kernel)
theorem t47_69 : z_ft 47 69 = some (.bipush 99, 2, none, [], 0, 0, 0, 0) := z_ftd (by decide +kernel)
theorem t47_71 : z_ft 47 71 = some (.if_icmp .le 5, 3, none, [], 76, 0, 0, 0) := z_ftd (by decide +kernel)
theorem t47_74 : z_ft 47 74 = some (.iconst 0, 1, (some []), [], 0, 0, 0, 0) := z_ftd (by decide +kernel)
theorem t47_75 : z_ft 47 75 = some (.ireturn, 1, none, [], 0, 0, 0, 0) := z_ftd (by decide +kernel)
theorem t47_76 : z_ft 47 76 = some (.aload_n 3, 1, none, [], 0, 0, 0, 0) := z_ftd (by decide +kernel)
theorem t47_77 : z_ft 47 77 = some (.iload 4, 2, none, [], 0, 0, 0, 0) := z_ftd (by decide +kernel)
theorem t47_79 : z_ft 47 79 = some (.iload 5, 2, none, [], 0, 0, 0, 0) := z_ftd (by decide +kernel)
theorem t47_81 : z_ft 47 81 = some (.invokevirtual 83, 3, none, [], 79, 0, 22, 0) := z_ftd (by decide +kernel)
theorem t47_84 : z_ft 47 84 = some (.aload_n 3, 1, none, [], 0, 0, 0, 0) := z_ftd (by decide +kernel)
theorem t47_85 : z_ft 47 85 = some (.getfield 45, 3, none, [], 8, 7, 10, 0) := z_ftd (by decide +kernel)
theorem t47_88 : z_ft 47 88 = some (.iload 4, 2, none, [], 0, 0, 0, 0) := z_ftd (by decide +kernel)
theorem t47_90 : z_ft 47 90 = some (.iload 6, 2, none, [], 0, 0, 0, 0) := z_ftd (by decide +kernel)
theorem t47_92 : z_ft 47 92 = some (.iastore, 1, none, [], 0, 0, 0, 0) := z_ftd (by decide +kernel)
theorem t47_93 : z_ft 47 93 = some (.goto 35, 3, none, [], 128, 0, 0, 0) := z_ftd (by decide +kernel)
theorem t47_96 : z_ft 47 96 = some (.iload 5, 2, none, [], 0, 0, 0, 0) := z_ftd (by decide +kernel)
theorem t47_98 : z_ft 47 98 = some (.sipush 254, 3, none, [], 0, 0, 0, 0) := z_ftd (by decide +kernel)
theorem t47_101 : z_ft 47 101 = some (.if_icmp .eq 11, 3, none, [], 112, 0, 0, 0) := z_ftd (by decide +kernel)
theorem t47_104 : z_ft 47 104 = some (.iload 5, 2, none, [], 0, 0, 0, 0) := z_ftd (by decide +kernel)
theorem t47_106 : z_ft 47 106 = some (.sipush 255, 3, none, [], 0, 0, 0, 0) := z_ftd (by decide +kernel)
theorem t47_109 : z_ft 47 109 = some (.if_icmp .ne 8, 3, none, [], 117, 0, 0, 0) := z_ftd (by decide +kernel)
theorem t47_112 : z_ft 47 112 = some (.iload 6, 2, (some [0, 1, 2, 3, 4, 5, 6]), [], 0, 0, 0, 0) := z_ftd (by decide +kernel)
theorem t47_114 : z_ft 47 114 = some (.ifCond .eq 5, 3, none, [], 119, 0, 0, 0) := z_ftd (by decide +kernel)
theorem t47_117 : z_ft 47 117 = some (.iconst 0, 1, (some []), [], 0, 0, 0, 0) := z_ftd (by decide +kernel)
theorem t47_118 : z_ft 47 118 = some (.ireturn, 1, none, [], 0, 0, 0, 0) := z_ftd (by decide +kernel)
theorem t47_119 : z_ft 47 119 = some (.aload_n 3, 1, none, [], 0, 0, 0, 0) := z_ftd (by decide +kernel)
theorem t47_120 : z_ft 47 120 = some (.getfield 42, 3, none, [], 8, 6, 9, 0) := z_ftd (by decide +kernel)
theorem t47_123 : z_ft 47 123 = some (.iload 4, 2, none, [], 0, 0, 0, 0) := z_ftd (by decide +kernel)
theorem t47_125 : z_ft 47 125 = some (.iload 5, 2, none, [], 0, 0, 0, 0) := z_ftd (by decide +kernel)
theorem t47_127 : z_ft 47 127 = some (.iastore, 1, none, [], 0, 0, 0, 0) := z_ftd (by decide +kernel)
theorem t47_128 : z_ft 47 128 = some (.iinc 4 1, 3, (some [0, 1, 2, 3, 4]), [], 0, 0, 0, 0) := z_ftd (by decide +kernel)
theorem t47_131 : z_ft 47 131 = some (.goto (-128), 3, none, [], 3, 0, 0, 0) := z_ftd (by decide +kernel)
theorem t47_134 : z_ft 47 134 = some (.iconst 1, 1, none, [], 0, 0, 0, 0) := z_ftd (by decide +kernel)
theorem t47_135 : z_ft 47 135 = some (.ireturn, 1, none, [], 0, 0, 0, 0) := z_ftd (by decide +kernel)
noncomputable def b47_3 (d : Nat) (y0 : Nat) (y1 : Int32) (y2 : Nat) (y3 : Nat) (y4 : Int32) (S : z_S) : Option (Int32 × z_S) := zk kI z_X0 d 47 3 [.ref y0, .int y1, .ref y2, .ref y3, .int y4, z_j, z_j] [] S
noncomputable def b47_58 (d : Nat) (y0 : Nat) (y1 : Int32) (y2 : Nat) (y3 : Nat) (y4 : Int32) (y5 : Int32) (y6 : Int32) (S : z_S) : Option (Int32 × z_S) := zk kI z_X0 d 47 58 [.ref y0, .int y1, .ref y2, .ref y3, .int y4, .int y5, .int y6] [] S
noncomputable def b47_112 (d : Nat) (y0 : Nat) (y1 : Int32) (y2 : Nat) (y3 : Nat) (y4 : Int32) (y5 : Int32) (y6 : Int32) (S : z_S) : Option (Int32 × z_S) := zk kI z_X0 d 47 112 [.ref y0, .int y1, .ref y2, .ref y3, .int y4, .int y5, .int y6] [] S
noncomputable def b47_128 (d : Nat) (y0 : Nat) (y1 : Int32) (y2 : Nat) (y3 : Nat) (y4 : Int32) (S : z_S) : Option (Int32 × z_S) := zk kI z_X0 d 47 128 [.ref y0, .int y1, .ref y2, .ref y3, .int y4, z_j, z_j] [] S
theorem b47_3_eq (d : Nat) (y0 : Nat) (y1 : Int32) (y2 : Nat) (y3 : Nat) (y4 : Int32) (S : z_S) (hW : z_W S) (hy0 : z_K y0 = 20) (hy2 : z_K y2 = 6) (hy3 : z_K y3 = 8) : b47_3 d y0 y1 y2 y3 y4 S = (if (gI S y2 6) ≤ y4 then some ((1 : Int32), S) else (if z_in (y1 + ((2 : Int32) * y4)) (z_Ln y0) then (if z_in ((y1 + ((2 : Int32) * y4)) + (1 : Int32)) (z_Ln y0) then (if z_in y4 16 then (if (gI S y0 ((y1 + ((2 : Int32) * y4))).toNatClampNeg) = (gI S (y2 + 2) (y4).toNatClampNeg) then b47_58 d y0 y1 y2 y3 y4 (gI S y0 ((y1 + ((2 : Int32) * y4))).toNatClampNeg) (gI S y0 (((y1 + ((2 : Int32) * y4)) + (1 : Int32))).toNatClampNeg) S else (if z_in y4 16 then (if ¬ (gI S y0 ((y1 + ((2 : Int32) * y4))).toNatClampNeg) = (gI S (y2 + 3) (y4).toNatClampNeg) then (if (gI S y0 ((y1 + ((2 : Int32) * y4))).toNatClampNeg) = (254 : Int32) then b47_112 d y0 y1 y2 y3 y4 (gI S y0 ((y1 + ((2 : Int32) * y4))).toNatClampNeg) (gI S y0 (((y1 + ((2 : Int32) * y4)) + (1 : Int32))).toNatClampNeg) S else (if ¬ (gI S y0 ((y1 + ((2 : Int32) * y4))).toNatClampNeg) = (255 : Int32) then some ((0 : Int32), S) else b47_112 d y0 y1 y2 y3 y4 (gI S y0 ((y1 + ((2 : Int32) * y4))).toNatClampNeg) (gI S y0 (((y1 + ((2 : Int32) * y4)) + (1 : Int32))).toNatClampNeg) S)) else b47_58 d y0 y1 y2 y3 y4 (gI S y0 ((y1 + ((2 : Int32) * y4))).toNatClampNeg) (gI S y0 (((y1 + ((2 : Int32) * y4)) + (1 : Int32))).toNatClampNeg) S) else none)) else none) else none) else none)) := by
  unfold b47_3
  refine (k_iload t47_3 rfl rfl).trans ?_
  refine (k_aload_n t47_5 rfl rfl).trans ?_
  refine (k_getI t47_6 rfl hW hy2 (by decide) (by decide)).trans ?_
  refine (k_icmp_ge t47_9 rfl).trans (z_ite (fun g1 => ?_) (fun g1 => ?_))
  · refine (k_iconst t47_134 rfl zci_1).trans ?_
    exact k_zretC t47_135 rfl (by decide) (by decide)
  · refine (k_aload_n t47_12 rfl rfl).trans ?_
    refine (k_iload_n t47_13 rfl rfl).trans ?_
    refine (k_iconst t47_14 rfl zci_2).trans ?_
    refine (k_iload t47_15 rfl rfl).trans ?_
    refine (k_imul t47_17 rfl).trans ?_
    refine (k_iadd t47_18 rfl).trans ?_
    refine (k_iald t47_19 rfl hW hy0 rfl).trans (z_ite (fun g2 => ?_) (fun _ => rfl))
    refine (k_istore (ls' := [.ref y0, .int y1, .ref y2, .ref y3, .int y4, .int (gI S y0 ((y1 + ((2 : Int32) * y4))).toNatClampNeg), z_j]) t47_20 rfl rfl).trans ?_
    refine (k_aload_n t47_22 rfl rfl).trans ?_
    refine (k_iload_n t47_23 rfl rfl).trans ?_
    refine (k_iconst t47_24 rfl zci_2).trans ?_
    refine (k_iload t47_25 rfl rfl).trans ?_
    refine (k_imul t47_27 rfl).trans ?_
    refine (k_iadd t47_28 rfl).trans ?_
    refine (k_iconst t47_29 rfl zci_1).trans ?_
    refine (k_iadd t47_30 rfl).trans ?_
    refine (k_iald t47_31 rfl hW hy0 rfl).trans (z_ite (fun g3 => ?_) (fun _ => rfl))
    refine (k_istore (ls' := [.ref y0, .int y1, .ref y2, .ref y3, .int y4, .int (gI S y0 ((y1 + ((2 : Int32) * y4))).toNatClampNeg), .int (gI S y0 (((y1 + ((2 : Int32) * y4)) + (1 : Int32))).toNatClampNeg)]) t47_32 rfl rfl).trans ?_
    refine (k_iload t47_34 rfl rfl).trans ?_
    refine (k_aload_n t47_36 rfl rfl).trans ?_
    refine (k_getR t47_37 rfl hW hy2 (by decide) (by decide) (zO_6_10 hW hy2)).trans ?_
    refine (k_iload t47_40 rfl rfl).trans ?_
    refine (k_iald t47_42 rfl hW (zOK_6_10 hy2) (zOL_6_10 hy2)).trans (z_ite (fun g4 => ?_) (fun _ => rfl))
    refine (k_icmp_eq t47_43 rfl).trans (z_ite (fun g5 => ?_) (fun g5 => ?_))
    · exact (zk_mk (ls' := [.ref y0, .int y1, .ref y2, .ref y3, .int y4, .int (gI S y0 ((y1 + ((2 : Int32) * y4))).toNatClampNeg), .int (gI S y0 (((y1 + ((2 : Int32) * y4)) + (1 : Int32))).toNatClampNeg)]) t47_58 rfl)
    · refine (k_iload t47_46 rfl rfl).trans ?_
      refine (k_aload_n t47_48 rfl rfl).trans ?_
      refine (k_getR t47_49 rfl hW hy2 (by decide) (by decide) (zO_6_11 hW hy2)).trans ?_
      refine (k_iload t47_52 rfl rfl).trans ?_
      refine (k_iald t47_54 rfl hW (zOK_6_11 hy2) (zOL_6_11 hy2)).trans (z_ite (fun g6 => ?_) (fun _ => rfl))
      refine (k_icmp_ne t47_55 rfl).trans (z_ite (fun g7 => ?_) (fun g7 => ?_))
      · refine (k_iload t47_96 rfl rfl).trans ?_
        refine (k_sipush t47_98 rfl zcs_254).trans ?_
        refine (k_icmp_eq t47_101 rfl).trans (z_ite (fun g8 => ?_) (fun g8 => ?_))
        · exact (zk_mk (ls' := [.ref y0, .int y1, .ref y2, .ref y3, .int y4, .int (gI S y0 ((y1 + ((2 : Int32) * y4))).toNatClampNeg), .int (gI S y0 (((y1 + ((2 : Int32) * y4)) + (1 : Int32))).toNatClampNeg)]) t47_112 rfl)
        · refine (k_iload t47_104 rfl rfl).trans ?_
          refine (k_sipush t47_106 rfl zcs_255).trans ?_
          refine (k_icmp_ne t47_109 rfl).trans (z_ite (fun g9 => ?_) (fun g9 => ?_))
          · refine (zk_mk (ls' := [z_j, z_j, z_j, z_j, z_j, z_j, z_j]) t47_117 rfl).trans ?_
            refine (k_iconst t47_117 rfl zci_0).trans ?_
            exact k_zretC t47_118 rfl (by decide) (by decide)
          · exact (zk_mk (ls' := [.ref y0, .int y1, .ref y2, .ref y3, .int y4, .int (gI S y0 ((y1 + ((2 : Int32) * y4))).toNatClampNeg), .int (gI S y0 (((y1 + ((2 : Int32) * y4)) + (1 : Int32))).toNatClampNeg)]) t47_112 rfl)
      · exact (zk_mk (ls' := [.ref y0, .int y1, .ref y2, .ref y3, .int y4, .int (gI S y0 ((y1 + ((2 : Int32) * y4))).toNatClampNeg), .int (gI S y0 (((y1 + ((2 : Int32) * y4)) + (1 : Int32))).toNatClampNeg)]) t47_58 rfl)
theorem b47_58_eq (d : Nat) (y0 : Nat) (y1 : Int32) (y2 : Nat) (y3 : Nat) (y4 : Int32) (y5 : Int32) (y6 : Int32) (S : z_S) (hW : z_W S) (hy0 : z_K y0 = 20) (hy2 : z_K y2 = 6) (hy3 : z_K y3 = 8) : b47_58 d y0 y1 y2 y3 y4 y5 y6 S = (zb (fI d 76 [.ref y3, .int y5] S) fun v10 S11 => (if v10 = (0 : Int32) then some ((0 : Int32), S11) else (if y6 ≤ (99 : Int32) then ((fV d 79 [.ref y3, .int y4, .int y5] S11).bind fun S15 => (if z_in y4 16 then b47_128 d y0 y1 y2 y3 y4 (sI S15 (y3 + 3) (y4).toNatClampNeg y6) else none)) else some ((0 : Int32), S11)))) := by
  unfold b47_58
  refine (k_aload_n t47_58 rfl rfl).trans ?_
  refine (k_iload t47_59 rfl rfl).trans ?_
  refine k_callI (as := [.ref y3, .int y5]) (rest := []) t47_61 rfl rfl (by decide) rfl rfl (Nat.le_of_ble_eq_true rfl) rfl (z_rcV hW (hy3) (by decide)) (by decide) (Or.inr (by decide)) hW (fun v10 S11 hW11 => ?_)
  refine (k_if_eq t47_64 rfl).trans (z_ite (fun g12 => ?_) (fun g12 => ?_))
  · refine (zk_mk (ls' := [z_j, z_j, z_j, z_j, z_j, z_j, z_j]) t47_74 rfl).trans ?_
    refine (k_iconst t47_74 rfl zci_0).trans ?_
    exact k_zretC t47_75 rfl (by decide) (by decide)
  · refine (k_iload t47_67 rfl rfl).trans ?_
    refine (k_bipush t47_69 rfl zcb_99).trans ?_
    refine (k_icmp_le t47_71 rfl).trans (z_ite (fun g13 => ?_) (fun g13 => ?_))
    · refine (k_aload_n t47_76 rfl rfl).trans ?_
      refine (k_iload t47_77 rfl rfl).trans ?_
      refine (k_iload t47_79 rfl rfl).trans ?_
      refine k_callV (as := [.ref y3, .int y4, .int y5]) (rest := []) t47_81 rfl rfl (by decide) rfl rfl (Nat.le_of_ble_eq_true rfl) rfl (z_rcV hW11 (hy3) (by decide)) (by decide) (by decide) hW11 (fun S15 hW15 => ?_)
      refine (k_aload_n t47_84 rfl rfl).trans ?_
      refine (k_getR t47_85 rfl hW15 hy3 (by decide) (by decide) (zO_8_7 hW15 hy3)).trans ?_
      refine (k_iload t47_88 rfl rfl).trans ?_
      refine (k_iload t47_90 rfl rfl).trans ?_
      refine (k_iast t47_92 rfl hW15 (zOK_8_7 hy3) (zOL_8_7 hy3)).trans (z_ite (fun g16 => ?_) (fun _ => rfl))
      refine (k_goto t47_93 rfl).trans ?_
      exact (zk_mk (ls' := [.ref y0, .int y1, .ref y2, .ref y3, .int y4, z_j, z_j]) t47_128 rfl)
    · refine (zk_mk (ls' := [z_j, z_j, z_j, z_j, z_j, z_j, z_j]) t47_74 rfl).trans ?_
      refine (k_iconst t47_74 rfl zci_0).trans ?_
      exact k_zretC t47_75 rfl (by decide) (by decide)
theorem b47_112_eq (d : Nat) (y0 : Nat) (y1 : Int32) (y2 : Nat) (y3 : Nat) (y4 : Int32) (y5 : Int32) (y6 : Int32) (S : z_S) (hW : z_W S) (hy0 : z_K y0 = 20) (hy2 : z_K y2 = 6) (hy3 : z_K y3 = 8) : b47_112 d y0 y1 y2 y3 y4 y5 y6 S = (if y6 = (0 : Int32) then (if z_in y4 16 then b47_128 d y0 y1 y2 y3 y4 (sI S (y3 + 2) (y4).toNatClampNeg y5) else none) else some ((0 : Int32), S)) := by
  unfold b47_112
  refine (k_iload t47_112 rfl rfl).trans ?_
  refine (k_if_eq t47_114 rfl).trans (z_ite (fun g17 => ?_) (fun g17 => ?_))
  · refine (k_aload_n t47_119 rfl rfl).trans ?_
    refine (k_getR t47_120 rfl hW hy3 (by decide) (by decide) (zO_8_6 hW hy3)).trans ?_
    refine (k_iload t47_123 rfl rfl).trans ?_
    refine (k_iload t47_125 rfl rfl).trans ?_
    refine (k_iast t47_127 rfl hW (zOK_8_6 hy3) (zOL_8_6 hy3)).trans (z_ite (fun g18 => ?_) (fun _ => rfl))
    exact (zk_mk (ls' := [.ref y0, .int y1, .ref y2, .ref y3, .int y4, z_j, z_j]) t47_128 rfl)
  · refine (zk_mk (ls' := [z_j, z_j, z_j, z_j, z_j, z_j, z_j]) t47_117 rfl).trans ?_
    refine (k_iconst t47_117 rfl zci_0).trans ?_
    exact k_zretC t47_118 rfl (by decide) (by decide)
theorem b47_128_eq (d : Nat) (y0 : Nat) (y1 : Int32) (y2 : Nat) (y3 : Nat) (y4 : Int32) (S : z_S) (hW : z_W S) (hy0 : z_K y0 = 20) (hy2 : z_K y2 = 6) (hy3 : z_K y3 = 8) : b47_128 d y0 y1 y2 y3 y4 S = b47_3 d y0 y1 y2 y3 (y4 + (1 : Int32)) S := by
  unfold b47_128
  refine (k_iinc (b := (y4 + (1 : Int32))) (ls' := [.ref y0, .int y1, .ref y2, .ref y3, .int (y4 + (1 : Int32)), z_j, z_j]) t47_128 rfl rfl (by rw [zci_1]) rfl).trans ?_
  refine (k_goto t47_131 rfl).trans ?_
  exact (zk_mk (ls' := [.ref y0, .int y1, .ref y2, .ref y3, .int (y4 + (1 : Int32)), z_j, z_j]) t47_3 rfl)
-- X3_readLodgers
theorem e47 (d : Nat) (a1 : Nat) (x2 : Int32) (p3 : Nat) (p4 : Nat) (S : z_S) (hW : z_W S) (ha1 : z_K a1 = 20) (hp3 : z_K p3 = 6) (hp4 : z_K p4 = 8) : fI (d + 1) 47 [.ref a1, .int x2, .ref p3, .ref p4] S = b47_3 d a1 x2 p3 p4 (0 : Int32) S := by
  refine (fI_en (Nat.le_of_ble_eq_true rfl) rfl).trans ?_
  refine (k_iconst t47_0 rfl zci_0).trans ?_
  refine (k_istore (ls' := [.ref a1, .int x2, .ref p3, .ref p4, .int (0 : Int32), z_j, z_j]) t47_1 rfl rfl).trans ?_
  exact (zk_mk (ls' := [.ref a1, .int x2, .ref p3, .ref p4, .int (0 : Int32), z_j, z_j]) t47_3 rfl)
theorem t48_0 : z_ft 48 0 = some (.iconst 0, 1, none, [], 0, 0, 0, 0) := z_ftd (by decide +kernel)
theorem t48_1 : z_ft 48 1 = some (.istore 4, 2, none, [], 0, 0, 0, 0) := z_ftd (by decide +kernel)
theorem t48_3 : z_ft 48 3 = some (.iconst 0, 1, none, [], 0, 0, 0, 0) := z_ftd (by decide +kernel)
theorem t48_4 : z_ft 48 4 = some (.istore 5, 2, none, [], 0, 0, 0, 0) := z_ftd (by decide +kernel)
theorem t48_6 : z_ft 48 6 = some (.iload 5, 2, (some [0, 1, 2, 3, 4, 5]), [], 0, 0, 0, 0) := z_ftd (by decide +kernel)
theorem t48_8 : z_ft 48 8 = some (.aload_n 2, 1, none, [], 0, 0, 0, 0) := z_ftd (by decide +kernel)
theorem t48_9 : z_ft 48 9 = some (.getfield 39, 3, none, [], 6, 6, 2, 0) := z_ftd (by decide +kernel)
theorem t48_12 : z_ft 48 12 = some (.if_icmp .ge 32, 3, none, [], 44, 0, 0, 0) := z_ftd (by decide +kernel)
theorem t48_15 : z_ft 48 15 = some (.iload 4, 2, none, [], 0, 0, 0, 0) := z_ftd (by decide +kernel)
theorem t48_17 : z_ft 48 17 = some (.aload_n 3, 1, none, [], 0, 0, 0, 0) := z_ftd (by decide +kernel)
theorem t48_18 : z_ft 48 18 = some (.getfield 42, 3, none, [], 8, 6, 9, 0) := z_ftd (by decide +kernel)
theorem t48_21 : z_ft 48 21 = some (.iload 5, 2, none, [], 0, 0, 0, 0) := z_ftd (by decide +kernel)
theorem t48_23 : z_ft 48 23 = some (.iaload, 1, none, [], 0, 0, 0, 0) := z_ftd (by decide +kernel)
theorem t48_24 : z_ft 48 24 = some (.sipush 254, 3, none, [], 0, 0, 0, 0) := z_ftd (by decide +kernel)
theorem t48_27 : z_ft 48 27 = some (.if_icmp .ne 7, 3, none, [], 34, 0, 0, 0) := z_ftd (by decide +kernel)
theorem t48_30 : z_ft 48 30 = some (.iconst 1, 1, none, [], 0, 0, 0, 0) := z_ftd (by decide +kernel)
theorem t48_31 : z_ft 48 31 = some (.goto 4, 3, none, [], 35, 0, 0, 0) := z_ftd (by decide +kernel)
theorem t48_34 : z_ft 48 34 = some (.iconst 0, 1, none, [], 0, 0, 0, 0) := z_ftd (by decide +kernel)
theorem t48_35 : z_ft 48 35 = some (.iadd, 1, (some [0, 1, 2, 3, 5]), [], 0, 0, 0, 0) := z_ftd (by decide +kernel)
theorem t48_36 : z_ft 48 36 = some (.istore 4, 2, none, [], 0, 0, 0, 0) := z_ftd (by decide +kernel)
theorem t48_38 : z_ft 48 38 = some (.iinc 5 1, 3, none, [], 0, 0, 0, 0) := z_ftd (by decide +kernel)
theorem t48_41 : z_ft 48 41 = some (.goto (-35), 3, none, [], 6, 0, 0, 0) := z_ftd (by decide +kernel)
theorem t48_44 : z_ft 48 44 = some (.aload_n 0, 1, none, [], 0, 0, 0, 0) := z_ftd (by decide +kernel)
theorem t48_45 : z_ft 48 45 = some (.iload_n 1, 1, none, [], 0, 0, 0, 0) := z_ftd (by decide +kernel)
theorem t48_46 : z_ft 48 46 = some (.iaload, 1, none, [], 0, 0, 0, 0) := z_ftd (by decide +kernel)
theorem t48_47 : z_ft 48 47 = some (.istore 5, 2, none, [], 0, 0, 0, 0) := z_ftd (by decide +kernel)
theorem t48_49 : z_ft 48 49 = some (.iload 5, 2, none, [], 0, 0, 0, 0) := z_ftd (by decide +kernel)
theorem t48_51 : z_ft 48 51 = some (.iload 4, 2, none, [], 0, 0, 0, 0) := z_ftd (by decide +kernel)
theorem t48_53 : z_ft 48 53 = some (.if_icmp .ne 12, 3, none, [], 65, 0, 0, 0) := z_ftd (by decide +kernel)
theorem t48_56 : z_ft 48 56 = some (.iload 5, 2, none, [], 0, 0, 0, 0) := z_ftd (by decide +kernel)
theorem t48_58 : z_ft 48 58 = some (.aload_n 2, 1, none, [], 0, 0, 0, 0) := z_ftd (by decide +kernel)
theorem t48_59 : z_ft 48 59 = some (.getfield 87, 3, none, [], 6, 2, 1, 0) := z_ftd (by decide +kernel)
theorem t48_62 : z_ft 48 62 = some (.if_icmp .le 5, 3, none, [], 67, 0, 0, 0) := z_ftd (by decide +kernel)
theorem t48_65 : z_ft 48 65 = some (.iconst 0, 1, (some []), [], 0, 0, 0, 0) := z_ftd (by decide +kernel)
theorem t48_66 : z_ft 48 66 = some (.ireturn, 1, none, [], 0, 0, 0, 0) := z_ftd (by decide +kernel)
theorem t48_67 : z_ft 48 67 = some (.iconst 0, 1, none, [], 0, 0, 0, 0) := z_ftd (by decide +kernel)
theorem t48_68 : z_ft 48 68 = some (.istore 6, 2, none, [], 0, 0, 0, 0) := z_ftd (by decide +kernel)
theorem t48_70 : z_ft 48 70 = some (.iload 6, 2, (some [0, 1, 2, 3, 5, 6]), [], 0, 0, 0, 0) := z_ftd (by decide +kernel)
theorem t48_72 : z_ft 48 72 = some (.iload 5, 2, none, [], 0, 0, 0, 0) := z_ftd (by decide +kernel)
theorem t48_74 : z_ft 48 74 = some (.if_icmp .ge 63, 3, none, [], 137, 0, 0, 0) := z_ftd (by decide +kernel)
theorem t48_77 : z_ft 48 77 = some (.aload_n 0, 1, none, [], 0, 0, 0, 0) := z_ftd (by decide +kernel)
theorem t48_78 : z_ft 48 78 = some (.iload_n 1, 1, none, [], 0, 0, 0, 0) := z_ftd (by decide +kernel)
theorem t48_79 : z_ft 48 79 = some (.iconst 1, 1, none, [], 0, 0, 0, 0) := z_ftd (by decide +kernel)
theorem t48_80 : z_ft 48 80 = some (.iadd, 1, none, [], 0, 0, 0, 0) := z_ftd (by decide +kernel)
theorem t48_81 : z_ft 48 81 = some (.iload 6, 2, none, [], 0, 0, 0, 0) := z_ftd (by decide +kernel)
theorem t48_83 : z_ft 48 83 = some (.iadd, 1, none, [], 0, 0, 0, 0) := z_ftd (by decide +kernel)
theorem t48_84 : z_ft 48 84 = some (.iaload, 1, none, [], 0, 0, 0, 0) := z_ftd (by decide +kernel)
theorem t48_85 : z_ft 48 85 = some (.istore 7, 2, none, [], 0, 0, 0, 0) := z_ftd (by decide +kernel)
theorem t48_87 : z_ft 48 87 = some (.aload_n 2, 1, none, [], 0, 0, 0, 0) := z_ftd (by decide +kernel)
theorem t48_88 : z_ft 48 88 = some (.iload 7, 2, none, [], 0, 0, 0, 0) := z_ftd (by decide +kernel)
theorem t48_90 : z_ft 48 90 = some (.invokevirtual 90, 3, none, [], 59, 0, 24, 0) := z_ftd (by decide +kernel)
theorem t48_93 : z_ft 48 93 = some (.ifCond .eq 26, 3, none, [], 119, 0, 0, 0) := z_ftd (by decide +kernel)
theorem t48_96 : z_ft 48 96 = some (.aload_n 3, 1, none, [], 0, 0, 0, 0) := z_ftd (by decide +kernel)
theorem t48_97 : z_ft 48 97 = some (.getfield 42, 3, none, [], 8, 6, 9, 0) := z_ftd (by decide +kernel)
theorem t48_100 : z_ft 48 100 = some (.iload 7, 2, none, [], 0, 0, 0, 0) := z_ftd (by decide +kernel)
theorem t48_102 : z_ft 48 102 = some (.iaload, 1, none, [], 0, 0, 0, 0) := z_ftd (by decide +kernel)
theorem t48_103 : z_ft 48 103 = some (.sipush 254, 3, none, [], 0, 0, 0, 0) := z_ftd (by decide +kernel)
theorem t48_106 : z_ft 48 106 = some (.if_icmp .ne 13, 3, none, [], 119, 0, 0, 0) := z_ftd (by decide +kernel)
theorem t48_109 : z_ft 48 109 = some (.aload_n 3, 1, none, [], 0, 0, 0, 0) := z_ftd (by decide +kernel)
theorem t48_110 : z_ft 48 110 = some (.iload 7, 2, none, [], 0, 0, 0, 0) := z_ftd (by decide +kernel)
theorem t48_112 : z_ft 48 112 = some (.invokevirtual 93, 3, none, [], 78, 0, 25, 0) := z_ftd (by decide +kernel)
theorem t48_115 : z_ft 48 115 = some (.iconst (-1), 1, none, [], 0, 0, 0, 0) := z_ftd (by decide +kernel)
theorem t48_116 : z_ft 48 116 = some (.if_icmp .eq 5, 3, none, [], 121, 0, 0, 0) := z_ftd (by decide +kernel)
theorem t48_119 : z_ft 48 119 = some (.iconst 0, 1, (some []), [], 0, 0, 0, 0) := z_ftd (by decide +kernel)
theorem t48_120 : z_ft 48 120 = some (.ireturn, 1, none, [], 0, 0, 0, 0) := z_ftd (by decide +kernel)
theorem t48_121 : z_ft 48 121 = some (.aload_n 3, 1, none, [], 0, 0, 0, 0) := z_ftd (by decide +kernel)
theorem t48_122 : z_ft 48 122 = some (.iload 7, 2, none, [], 0, 0, 0, 0) := z_ftd (by decide +kernel)
theorem t48_124 : z_ft 48 124 = some (.aload_n 2, 1, none, [], 0, 0, 0, 0) := z_ftd (by decide +kernel)
theorem t48_125 : z_ft 48 125 = some (.getfield 87, 3, none, [], 6, 2, 1, 0) := z_ftd (by decide +kernel)
theorem t48_128 : z_ft 48 128 = some (.invokevirtual 97, 3, none, [], 80, 0, 26, 0) := z_ftd (by decide +kernel)
theorem t48_131 : z_ft 48 131 = some (.iinc 6 1, 3, none, [], 0, 0, 0, 0) := z_ftd (by decide +kernel)
theorem t48_134 : z_ft 48 134 = some (.goto (-64), 3, none, [], 70, 0, 0, 0) := z_ftd (by decide +kernel)
theorem t48_137 : z_ft 48 137 = some (.iconst 1, 1, none, [], 0, 0, 0, 0) := z_ftd (by decide +kernel)
theorem t48_138 : z_ft 48 138 = some (.ireturn, 1, none, [], 0, 0, 0, 0) := z_ftd (by decide +kernel)
noncomputable def b48_6 (d : Nat) (y0 : Nat) (y1 : Int32) (y2 : Nat) (y3 : Nat) (y4 : Int32) (y5 : Int32) (S : z_S) : Option (Int32 × z_S) := zk kI z_X0 d 48 6 [.ref y0, .int y1, .ref y2, .ref y3, .int y4, .int y5, z_j, z_j] [] S
noncomputable def b48_70 (d : Nat) (y0 : Nat) (y1 : Int32) (y2 : Nat) (y3 : Nat) (y5 : Int32) (y6 : Int32) (S : z_S) : Option (Int32 × z_S) := zk kI z_X0 d 48 70 [.ref y0, .int y1, .ref y2, .ref y3, z_j, .int y5, .int y6, z_j] [] S
noncomputable def b48_35 (d : Nat) (y0 : Nat) (y1 : Int32) (y2 : Nat) (y3 : Nat) (y5 : Int32) (s0 : Int32) (s1 : Int32) (S : z_S) : Option (Int32 × z_S) := zk kI z_X0 d 48 35 [.ref y0, .int y1, .ref y2, .ref y3, z_j, .int y5, z_j, z_j] [.int s0, .int s1] S
theorem b48_6_eq (d : Nat) (y0 : Nat) (y1 : Int32) (y2 : Nat) (y3 : Nat) (y4 : Int32) (y5 : Int32) (S : z_S) (hW : z_W S) (hy0 : z_K y0 = 20) (hy2 : z_K y2 = 6) (hy3 : z_K y3 = 8) : b48_6 d y0 y1 y2 y3 y4 y5 S = (if (gI S y2 6) ≤ y5 then (if z_in y1 (z_Ln y0) then (if ¬ (gI S y0 (y1).toNatClampNeg) = y4 then some ((0 : Int32), S) else (if (gI S y0 (y1).toNatClampNeg) ≤ (gI S y2 2) then b48_70 d y0 y1 y2 y3 (gI S y0 (y1).toNatClampNeg) (0 : Int32) S else some ((0 : Int32), S))) else none) else (if z_in y5 16 then (if ¬ (gI S (y3 + 2) (y5).toNatClampNeg) = (254 : Int32) then b48_35 d y0 y1 y2 y3 y5 (0 : Int32) y4 S else b48_35 d y0 y1 y2 y3 y5 (1 : Int32) y4 S) else none)) := by
  unfold b48_6
  refine (k_iload t48_6 rfl rfl).trans ?_
  refine (k_aload_n t48_8 rfl rfl).trans ?_
  refine (k_getI t48_9 rfl hW hy2 (by decide) (by decide)).trans ?_
  refine (k_icmp_ge t48_12 rfl).trans (z_ite (fun g1 => ?_) (fun g1 => ?_))
  · refine (k_aload_n t48_44 rfl rfl).trans ?_
    refine (k_iload_n t48_45 rfl rfl).trans ?_
    refine (k_iald t48_46 rfl hW hy0 rfl).trans (z_ite (fun g2 => ?_) (fun _ => rfl))
    refine (k_istore (ls' := [.ref y0, .int y1, .ref y2, .ref y3, .int y4, .int (gI S y0 (y1).toNatClampNeg), z_j, z_j]) t48_47 rfl rfl).trans ?_
    refine (k_iload t48_49 rfl rfl).trans ?_
    refine (k_iload t48_51 rfl rfl).trans ?_
    refine (k_icmp_ne t48_53 rfl).trans (z_ite (fun g3 => ?_) (fun g3 => ?_))
    · refine (zk_mk (ls' := [z_j, z_j, z_j, z_j, z_j, z_j, z_j, z_j]) t48_65 rfl).trans ?_
      refine (k_iconst t48_65 rfl zci_0).trans ?_
      exact k_zretC t48_66 rfl (by decide) (by decide)
    · refine (k_iload t48_56 rfl rfl).trans ?_
      refine (k_aload_n t48_58 rfl rfl).trans ?_
      refine (k_getI t48_59 rfl hW hy2 (by decide) (by decide)).trans ?_
      refine (k_icmp_le t48_62 rfl).trans (z_ite (fun g4 => ?_) (fun g4 => ?_))
      · refine (k_iconst t48_67 rfl zci_0).trans ?_
        refine (k_istore (ls' := [.ref y0, .int y1, .ref y2, .ref y3, .int y4, .int (gI S y0 (y1).toNatClampNeg), .int (0 : Int32), z_j]) t48_68 rfl rfl).trans ?_
        exact (zk_mk (ls' := [.ref y0, .int y1, .ref y2, .ref y3, z_j, .int (gI S y0 (y1).toNatClampNeg), .int (0 : Int32), z_j]) t48_70 rfl)
      · refine (zk_mk (ls' := [z_j, z_j, z_j, z_j, z_j, z_j, z_j, z_j]) t48_65 rfl).trans ?_
        refine (k_iconst t48_65 rfl zci_0).trans ?_
        exact k_zretC t48_66 rfl (by decide) (by decide)
  · refine (k_iload t48_15 rfl rfl).trans ?_
    refine (k_aload_n t48_17 rfl rfl).trans ?_
    refine (k_getR t48_18 rfl hW hy3 (by decide) (by decide) (zO_8_6 hW hy3)).trans ?_
    refine (k_iload t48_21 rfl rfl).trans ?_
    refine (k_iald t48_23 rfl hW (zOK_8_6 hy3) (zOL_8_6 hy3)).trans (z_ite (fun g5 => ?_) (fun _ => rfl))
    refine (k_sipush t48_24 rfl zcs_254).trans ?_
    refine (k_icmp_ne t48_27 rfl).trans (z_ite (fun g6 => ?_) (fun g6 => ?_))
    · refine (k_iconst t48_34 rfl zci_0).trans ?_
      exact (zk_mk (ls' := [.ref y0, .int y1, .ref y2, .ref y3, z_j, .int y5, z_j, z_j]) t48_35 rfl)
    · refine (k_iconst t48_30 rfl zci_1).trans ?_
      refine (k_goto t48_31 rfl).trans ?_
      exact (zk_mk (ls' := [.ref y0, .int y1, .ref y2, .ref y3, z_j, .int y5, z_j, z_j]) t48_35 rfl)
theorem b48_70_eq (d : Nat) (y0 : Nat) (y1 : Int32) (y2 : Nat) (y3 : Nat) (y5 : Int32) (y6 : Int32) (S : z_S) (hW : z_W S) (hy0 : z_K y0 = 20) (hy2 : z_K y2 = 6) (hy3 : z_K y3 = 8) : b48_70 d y0 y1 y2 y3 y5 y6 S = (if y5 ≤ y6 then some ((1 : Int32), S) else (if z_in ((y1 + (1 : Int32)) + y6) (z_Ln y0) then (zb (fI d 59 [.ref y2, .int (gI S y0 (((y1 + (1 : Int32)) + y6)).toNatClampNeg)] S) fun v9 S10 => (if v9 = (0 : Int32) then some ((0 : Int32), S10) else (if z_in (gI S y0 (((y1 + (1 : Int32)) + y6)).toNatClampNeg) 16 then (if ¬ (gI S10 (y3 + 2) ((gI S y0 (((y1 + (1 : Int32)) + y6)).toNatClampNeg)).toNatClampNeg) = (254 : Int32) then some ((0 : Int32), S10) else (zb (fI d 78 [.ref y3, .int (gI S y0 (((y1 + (1 : Int32)) + y6)).toNatClampNeg)] S10) fun v14 S15 => (if v14 = (-1 : Int32) then ((fV d 80 [.ref y3, .int (gI S y0 (((y1 + (1 : Int32)) + y6)).toNatClampNeg), .int (gI S15 y2 2)] S15).bind fun S18 => b48_70 d y0 y1 y2 y3 y5 (y6 + (1 : Int32)) S18) else some ((0 : Int32), S15)))) else none))) else none)) := by
  unfold b48_70
  refine (k_iload t48_70 rfl rfl).trans ?_
  refine (k_iload t48_72 rfl rfl).trans ?_
  refine (k_icmp_ge t48_74 rfl).trans (z_ite (fun g7 => ?_) (fun g7 => ?_))
  · refine (k_iconst t48_137 rfl zci_1).trans ?_
    exact k_zretC t48_138 rfl (by decide) (by decide)
  · refine (k_aload_n t48_77 rfl rfl).trans ?_
    refine (k_iload_n t48_78 rfl rfl).trans ?_
    refine (k_iconst t48_79 rfl zci_1).trans ?_
    refine (k_iadd t48_80 rfl).trans ?_
    refine (k_iload t48_81 rfl rfl).trans ?_
    refine (k_iadd t48_83 rfl).trans ?_
    refine (k_iald t48_84 rfl hW hy0 rfl).trans (z_ite (fun g8 => ?_) (fun _ => rfl))
    refine (k_istore (ls' := [.ref y0, .int y1, .ref y2, .ref y3, z_j, .int y5, .int y6, .int (gI S y0 (((y1 + (1 : Int32)) + y6)).toNatClampNeg)]) t48_85 rfl rfl).trans ?_
    refine (k_aload_n t48_87 rfl rfl).trans ?_
    refine (k_iload t48_88 rfl rfl).trans ?_
    refine k_callI (as := [.ref y2, .int (gI S y0 (((y1 + (1 : Int32)) + y6)).toNatClampNeg)]) (rest := []) t48_90 rfl rfl (by decide) rfl rfl (Nat.le_of_ble_eq_true rfl) rfl (z_rcV hW (hy2) (by decide)) (by decide) (Or.inr (by decide)) hW (fun v9 S10 hW10 => ?_)
    refine (k_if_eq t48_93 rfl).trans (z_ite (fun g11 => ?_) (fun g11 => ?_))
    · refine (zk_mk (ls' := [z_j, z_j, z_j, z_j, z_j, z_j, z_j, z_j]) t48_119 rfl).trans ?_
      refine (k_iconst t48_119 rfl zci_0).trans ?_
      exact k_zretC t48_120 rfl (by decide) (by decide)
    · refine (k_aload_n t48_96 rfl rfl).trans ?_
      refine (k_getR t48_97 rfl hW10 hy3 (by decide) (by decide) (zO_8_6 hW10 hy3)).trans ?_
      refine (k_iload t48_100 rfl rfl).trans ?_
      refine (k_iald t48_102 rfl hW10 (zOK_8_6 hy3) (zOL_8_6 hy3)).trans (z_ite (fun g12 => ?_) (fun _ => rfl))
      refine (k_sipush t48_103 rfl zcs_254).trans ?_
      refine (k_icmp_ne t48_106 rfl).trans (z_ite (fun g13 => ?_) (fun g13 => ?_))
      · refine (zk_mk (ls' := [z_j, z_j, z_j, z_j, z_j, z_j, z_j, z_j]) t48_119 rfl).trans ?_
        refine (k_iconst t48_119 rfl zci_0).trans ?_
        exact k_zretC t48_120 rfl (by decide) (by decide)
      · refine (k_aload_n t48_109 rfl rfl).trans ?_
        refine (k_iload t48_110 rfl rfl).trans ?_
        refine k_callI (as := [.ref y3, .int (gI S y0 (((y1 + (1 : Int32)) + y6)).toNatClampNeg)]) (rest := []) t48_112 rfl rfl (by decide) rfl rfl (Nat.le_of_ble_eq_true rfl) rfl (z_rcV hW10 (hy3) (by decide)) (by decide) (Or.inl (by decide)) hW10 (fun v14 S15 hW15 => ?_)
        refine (k_iconst t48_115 rfl zci_m1).trans ?_
        refine (k_icmp_eq t48_116 rfl).trans (z_ite (fun g16 => ?_) (fun g16 => ?_))
        · refine (k_aload_n t48_121 rfl rfl).trans ?_
          refine (k_iload t48_122 rfl rfl).trans ?_
          refine (k_aload_n t48_124 rfl rfl).trans ?_
          refine (k_getI t48_125 rfl hW15 hy2 (by decide) (by decide)).trans ?_
          refine k_callV (as := [.ref y3, .int (gI S y0 (((y1 + (1 : Int32)) + y6)).toNatClampNeg), .int (gI S15 y2 2)]) (rest := []) t48_128 rfl rfl (by decide) rfl rfl (Nat.le_of_ble_eq_true rfl) rfl (z_rcV hW15 (hy3) (by decide)) (by decide) (by decide) hW15 (fun S18 hW18 => ?_)
          refine (k_iinc (b := (y6 + (1 : Int32))) (ls' := [.ref y0, .int y1, .ref y2, .ref y3, z_j, .int y5, .int (y6 + (1 : Int32)), .int (gI S y0 (((y1 + (1 : Int32)) + y6)).toNatClampNeg)]) t48_131 rfl rfl (by rw [zci_1]) rfl).trans ?_
          refine (k_goto t48_134 rfl).trans ?_
          exact (zk_mk (ls' := [.ref y0, .int y1, .ref y2, .ref y3, z_j, .int y5, .int (y6 + (1 : Int32)), z_j]) t48_70 rfl)
        · refine (zk_mk (ls' := [z_j, z_j, z_j, z_j, z_j, z_j, z_j, z_j]) t48_119 rfl).trans ?_
          refine (k_iconst t48_119 rfl zci_0).trans ?_
          exact k_zretC t48_120 rfl (by decide) (by decide)
theorem b48_35_eq (d : Nat) (y0 : Nat) (y1 : Int32) (y2 : Nat) (y3 : Nat) (y5 : Int32) (s0 : Int32) (s1 : Int32) (S : z_S) (hW : z_W S) (hy0 : z_K y0 = 20) (hy2 : z_K y2 = 6) (hy3 : z_K y3 = 8) : b48_35 d y0 y1 y2 y3 y5 s0 s1 S = b48_6 d y0 y1 y2 y3 (s1 + s0) (y5 + (1 : Int32)) S := by
  unfold b48_35
  refine (k_iadd t48_35 rfl).trans ?_
  refine (k_istore (ls' := [.ref y0, .int y1, .ref y2, .ref y3, .int (s1 + s0), .int y5, z_j, z_j]) t48_36 rfl rfl).trans ?_
  refine (k_iinc (b := (y5 + (1 : Int32))) (ls' := [.ref y0, .int y1, .ref y2, .ref y3, .int (s1 + s0), .int (y5 + (1 : Int32)), z_j, z_j]) t48_38 rfl rfl (by rw [zci_1]) rfl).trans ?_
  refine (k_goto t48_41 rfl).trans ?_
  exact (zk_mk (ls' := [.ref y0, .int y1, .ref y2, .ref y3, .int (s1 + s0), .int (y5 + (1 : Int32)), z_j, z_j]) t48_6 rfl)
-- X3_readBench
theorem e48 (d : Nat) (a1 : Nat) (x2 : Int32) (p3 : Nat) (p4 : Nat) (S : z_S) (hW : z_W S) (ha1 : z_K a1 = 20) (hp3 : z_K p3 = 6) (hp4 : z_K p4 = 8) : fI (d + 1) 48 [.ref a1, .int x2, .ref p3, .ref p4] S = b48_6 d a1 x2 p3 p4 (0 : Int32) (0 : Int32) S := by
  refine (fI_en (Nat.le_of_ble_eq_true rfl) rfl).trans ?_
  refine (k_iconst t48_0 rfl zci_0).trans ?_
  refine (k_istore (ls' := [.ref a1, .int x2, .ref p3, .ref p4, .int (0 : Int32), z_j, z_j, z_j]) t48_1 rfl rfl).trans ?_
  refine (k_iconst t48_3 rfl zci_0).trans ?_
  refine (k_istore (ls' := [.ref a1, .int x2, .ref p3, .ref p4, .int (0 : Int32), .int (0 : Int32), z_j, z_j]) t48_4 rfl rfl).trans ?_
  exact (zk_mk (ls' := [.ref a1, .int x2, .ref p3, .ref p4, .int (0 : Int32), .int (0 : Int32), z_j, z_j]) t48_6 rfl)
theorem t54_0 : z_ft 54 0 = some (.aload_n 0, 1, none, [], 0, 0, 0, 0) := z_ftd (by decide +kernel)
theorem t54_1 : z_ft 54 1 = some (.getfield 20, 3, none, [], 5, 2, 6, 0) := z_ftd (by decide +kernel)
theorem t54_4 : z_ft 54 4 = some (.aload_n 0, 1, none, [], 0, 0, 0, 0) := z_ftd (by decide +kernel)
theorem t54_5 : z_ft 54 5 = some (.getfield 15, 3, none, [], 5, 1, 5, 0) := z_ftd (by decide +kernel)
theorem t54_8 : z_ft 54 8 = some (.aaload, 1, none, [], 0, 0, 0, 0) := z_ftd (by decide +kernel)
theorem t54_9 : z_ft 54 9 = some (.aload_n 1, 1, none, [], 0, 0, 0, 0) := z_ftd (by decide +kernel)
theorem t54_10 : z_ft 54 10 = some (.invokevirtual 32, 3, none, [], 75, 0, 8, 0) := z_ftd (by decide +kernel)
theorem t54_13 : z_ft 54 13 = some (.aload_n 0, 1, none, [], 0, 0, 0, 0) := z_ftd (by decide +kernel)
theorem t54_14 : z_ft 54 14 = some (.getfield 26, 3, none, [], 5, 3, 7, 0) := z_ftd (by decide +kernel)
theorem t54_17 : z_ft 54 17 = some (.aload_n 0, 1, none, [], 0, 0, 0, 0) := z_ftd (by decide +kernel)
theorem t54_18 : z_ft 54 18 = some (.getfield 15, 3, none, [], 5, 1, 5, 0) := z_ftd (by decide +kernel)
theorem t54_21 : z_ft 54 21 = some (.aaload, 1, none, [], 0, 0, 0, 0) := z_ftd (by decide +kernel)
theorem t54_22 : z_ft 54 22 = some (.aload_n 2, 1, none, [], 0, 0, 0, 0) := z_ftd (by decide +kernel)
theorem t54_23 : z_ft 54 23 = some (.invokevirtual 36, 3, none, [], 52, 0, 9, 0) := z_ftd (by decide +kernel)
theorem t54_26 : z_ft 54 26 = some (.aload_n 0, 1, none, [], 0, 0, 0, 0) := z_ftd (by decide +kernel)
theorem t54_27 : z_ft 54 27 = some (.aload_n 0, 1, none, [], 0, 0, 0, 0) := z_ftd (by decide +kernel)
theorem t54_28 : z_ft 54 28 = some (.getfield 15, 3, none, [], 5, 1, 5, 0) := z_ftd (by decide +kernel)
theorem t54_31 : z_ft 54 31 = some (.iconst 1, 1, none, [], 0, 0, 0, 0) := z_ftd (by decide +kernel)
theorem t54_32 : z_ft 54 32 = some (.iadd, 1, none, [], 0, 0, 0, 0) := z_ftd (by decide +kernel)
theorem t54_33 : z_ft 54 33 = some (.bipush 20, 2, none, [], 0, 0, 0, 0) := z_ftd (by decide +kernel)
theorem t54_35 : z_ft 54 35 = some (.irem, 1, none, [], 0, 0, 0, 0) := z_ftd (by decide +kernel)
theorem t54_36 : z_ft 54 36 = some (.putfield 15, 3, none, [], 5, 1, 5, 0) := z_ftd (by decide +kernel)
theorem t54_39 : z_ft 54 39 = some (.aload_n 0, 1, none, [], 0, 0, 0, 0) := z_ftd (by decide +kernel)
theorem t54_40 : z_ft 54 40 = some (.aload_n 0, 1, none, [], 0, 0, 0, 0) := z_ftd (by decide +kernel)
theorem t54_41 : z_ft 54 41 = some (.getfield 9, 3, none, [], 5, 0, 4, 0) := z_ftd (by decide +kernel)
theorem t54_44 : z_ft 54 44 = some (.iconst 1, 1, none, [], 0, 0, 0, 0) := z_ftd (by decide +kernel)
theorem t54_45 : z_ft 54 45 = some (.iadd, 1, none, [], 0, 0, 0, 0) := z_ftd (by decide +kernel)
theorem t54_46 : z_ft 54 46 = some (.bipush 20, 2, none, [], 0, 0, 0, 0) := z_ftd (by decide +kernel)
theorem t54_48 : z_ft 54 48 = some (.invokestatic 39, 3, none, [], 279, 0, 10, 0) := z_ftd (by decide +kernel)
theorem t54_51 : z_ft 54 51 = some (.putfield 9, 3, none, [], 5, 0, 4, 0) := z_ftd (by decide +kernel)
theorem t54_54 : z_ft 54 54 = some (.return_, 1, none, [], 0, 0, 0, 0) := z_ftd (by decide +kernel)
-- X5_remember
theorem e54 (d : Nat) (p1 : Nat) (p2 : Nat) (S : z_S) (hW : z_W S) (hp1 : z_K p1 = 8) (hp2 : z_K p2 = 4) : fV (d + 1) 54 [.ref 39, .ref p1, .ref p2] S = (if z_in (gI S 39 1) 20 then ((fV d 75 [.ref (42 + 7 * ((gI S 39 1)).toNatClampNeg), .ref p1] S).bind fun S3 => (if z_in (gI S3 39 1) 20 then ((fV d 52 [.ref (47 + 7 * ((gI S3 39 1)).toNatClampNeg), .ref p2] S3).bind fun S6 => (zb (fI d 279 [.int ((gI (sI S6 39 1 (((gI S6 39 1) + (1 : Int32)) - ((gI S6 39 1) + (1 : Int32)) / (20 : Int32) * (20 : Int32))) 39 0) + (1 : Int32)), .int (20 : Int32)] (sI S6 39 1 (((gI S6 39 1) + (1 : Int32)) - ((gI S6 39 1) + (1 : Int32)) / (20 : Int32) * (20 : Int32)))) fun v7 S8 => some (sI S8 39 0 v7))) else none)) else none) := by
  refine (fV_en (Nat.le_of_ble_eq_true rfl) rfl).trans ?_
  refine (k_aload_n t54_0 rfl rfl).trans ?_
  refine (k_getR t54_1 rfl hW zK_39 (by decide) (by decide) (zF_39_2 hW)).trans ?_
  refine (k_aload_n t54_4 rfl rfl).trans ?_
  refine (k_getI t54_5 rfl hW zK_39 (by decide) (by decide)).trans ?_
  refine (k_aald t54_8 rfl hW (by rw [zK_40]; decide) zL_40).trans (z_ite (fun g1 => ?_) (fun _ => rfl))
  rw [(zA_40 g1).1]
  refine (k_aload_n t54_9 rfl rfl).trans ?_
  refine k_callV (as := [.ref (42 + 7 * ((gI S 39 1)).toNatClampNeg), .ref p1]) (rest := []) t54_10 rfl rfl (by decide) rfl rfl (Nat.le_of_ble_eq_true rfl) rfl (z_rcV hW ((zA_40 g1).2) (by decide)) (by decide) (by decide) hW (fun S3 hW3 => ?_)
  refine (k_aload_n t54_13 rfl rfl).trans ?_
  refine (k_getR t54_14 rfl hW3 zK_39 (by decide) (by decide) (zF_39_3 hW3)).trans ?_
  refine (k_aload_n t54_17 rfl rfl).trans ?_
  refine (k_getI t54_18 rfl hW3 zK_39 (by decide) (by decide)).trans ?_
  refine (k_aald t54_21 rfl hW3 (by rw [zK_41]; decide) zL_41).trans (z_ite (fun g4 => ?_) (fun _ => rfl))
  rw [(zA_41 g4).1]
  refine (k_aload_n t54_22 rfl rfl).trans ?_
  refine k_callV (as := [.ref (47 + 7 * ((gI S3 39 1)).toNatClampNeg), .ref p2]) (rest := []) t54_23 rfl rfl (by decide) rfl rfl (Nat.le_of_ble_eq_true rfl) rfl (z_rcV hW3 ((zA_41 g4).2) (by decide)) (by decide) (by decide) hW3 (fun S6 hW6 => ?_)
  refine (k_aload_n t54_26 rfl rfl).trans ?_
  refine (k_aload_n t54_27 rfl rfl).trans ?_
  refine (k_getI t54_28 rfl hW6 zK_39 (by decide) (by decide)).trans ?_
  refine (k_iconst t54_31 rfl zci_1).trans ?_
  refine (k_iadd t54_32 rfl).trans ?_
  refine (k_bipush t54_33 rfl zcb_20).trans ?_
  refine ((k_irem t54_35 rfl).trans (if_neg (by decide))).trans ?_
  refine (k_putI t54_36 rfl hW6 zK_39 (by decide) (by decide) (by decide)).trans ?_
  refine (k_aload_n t54_39 rfl rfl).trans ?_
  refine (k_aload_n t54_40 rfl rfl).trans ?_
  refine (k_getI t54_41 rfl hW6.sI zK_39 (by decide) (by decide)).trans ?_
  refine (k_iconst t54_44 rfl zci_1).trans ?_
  refine (k_iadd t54_45 rfl).trans ?_
  refine (k_bipush t54_46 rfl zcb_20).trans ?_
  refine k_callI (as := [.int ((gI (sI S6 39 1 (((gI S6 39 1) + (1 : Int32)) - ((gI S6 39 1) + (1 : Int32)) / (20 : Int32) * (20 : Int32))) 39 0) + (1 : Int32)), .int (20 : Int32)]) (rest := [.ref 39]) t54_48 rfl rfl (by decide) rfl rfl (Nat.le_of_ble_eq_true rfl) rfl (z_rcS (by decide)) (by decide) (Or.inl (by decide)) hW6.sI (fun v7 S8 hW8 => ?_)
  refine (k_putI t54_51 rfl hW8 zK_39 (by decide) (by decide) (by decide)).trans ?_
  exact k_return t54_54 rfl (by decide)
theorem t55_0 : z_ft 55 0 = some (.aload_n 0, 1, none, [], 0, 0, 0, 0) := z_ftd (by decide +kernel)
theorem t55_1 : z_ft 55 1 = some (.aload_n 0, 1, none, [], 0, 0, 0, 0) := z_ftd (by decide +kernel)
theorem t55_2 : z_ft 55 2 = some (.getfield 15, 3, none, [], 5, 1, 5, 0) := z_ftd (by decide +kernel)
theorem t55_5 : z_ft 55 5 = some (.bipush 20, 2, none, [], 0, 0, 0, 0) := z_ftd (by decide +kernel)
theorem t55_7 : z_ft 55 7 = some (.iadd, 1, none, [], 0, 0, 0, 0) := z_ftd (by decide +kernel)
theorem t55_8 : z_ft 55 8 = some (.iconst 1, 1, none, [], 0, 0, 0, 0) := z_ftd (by decide +kernel)
theorem t55_9 : z_ft 55 9 = some (.isub, 1, none, [], 0, 0, 0, 0) := z_ftd (by decide +kernel)
theorem t55_10 : z_ft 55 10 = some (.bipush 20, 2, none, [], 0, 0, 0, 0) := z_ftd (by decide +kernel)
theorem t55_12 : z_ft 55 12 = some (.irem, 1, none, [], 0, 0, 0, 0) := z_ftd (by decide +kernel)
theorem t55_13 : z_ft 55 13 = some (.putfield 15, 3, none, [], 5, 1, 5, 0) := z_ftd (by decide +kernel)
theorem t55_16 : z_ft 55 16 = some (.aload_n 0, 1, none, [], 0, 0, 0, 0) := z_ftd (by decide +kernel)
theorem t55_17 : z_ft 55 17 = some (.dup, 1, none, [], 0, 0, 0, 0) := z_ftd (by decide +kernel)
theorem t55_18 : z_ft 55 18 = some (.getfield 9, 3, none, [], 5, 0, 4, 0) := z_ftd (by decide +kernel)
theorem t55_21 : z_ft 55 21 = some (.iconst 1, 1, none, [], 0, 0, 0, 0) := z_ftd (by decide +kernel)
theorem t55_22 : z_ft 55 22 = some (.isub, 1, none, [], 0, 0, 0, 0) := z_ftd (by decide +kernel)
theorem t55_23 : z_ft 55 23 = some (.putfield 9, 3, none, [], 5, 0, 4, 0) := z_ftd (by decide +kernel)
theorem t55_26 : z_ft 55 26 = some (.aload_n 1, 1, none, [], 0, 0, 0, 0) := z_ftd (by decide +kernel)
theorem t55_27 : z_ft 55 27 = some (.aload_n 0, 1, none, [], 0, 0, 0, 0) := z_ftd (by decide +kernel)
theorem t55_28 : z_ft 55 28 = some (.getfield 20, 3, none, [], 5, 2, 6, 0) := z_ftd (by decide +kernel)
theorem t55_31 : z_ft 55 31 = some (.aload_n 0, 1, none, [], 0, 0, 0, 0) := z_ftd (by decide +kernel)
theorem t55_32 : z_ft 55 32 = some (.getfield 15, 3, none, [], 5, 1, 5, 0) := z_ftd (by decide +kernel)
theorem t55_35 : z_ft 55 35 = some (.aaload, 1, none, [], 0, 0, 0, 0) := z_ftd (by decide +kernel)
theorem t55_36 : z_ft 55 36 = some (.invokevirtual 32, 3, none, [], 75, 0, 8, 0) := z_ftd (by decide +kernel)
theorem t55_39 : z_ft 55 39 = some (.aload_n 2, 1, none, [], 0, 0, 0, 0) := z_ftd (by decide +kernel)
theorem t55_40 : z_ft 55 40 = some (.aload_n 0, 1, none, [], 0, 0, 0, 0) := z_ftd (by decide +kernel)
theorem t55_41 : z_ft 55 41 = some (.getfield 26, 3, none, [], 5, 3, 7, 0) := z_ftd (by decide +kernel)
theorem t55_44 : z_ft 55 44 = some (.aload_n 0, 1, none, [], 0, 0, 0, 0) := z_ftd (by decide +kernel)
theorem t55_45 : z_ft 55 45 = some (.getfield 15, 3, none, [], 5, 1, 5, 0) := z_ftd (by decide +kernel)
theorem t55_48 : z_ft 55 48 = some (.aaload, 1, none, [], 0, 0, 0, 0) := z_ftd (by decide +kernel)
theorem t55_49 : z_ft 55 49 = some (.invokevirtual 36, 3, none, [], 52, 0, 9, 0) := z_ftd (by decide +kernel)
theorem t55_52 : z_ft 55 52 = some (.return_, 1, none, [], 0, 0, 0, 0) := z_ftd (by decide +kernel)
-- X5_bringBack
theorem e55 (d : Nat) (p1 : Nat) (p2 : Nat) (S : z_S) (hW : z_W S) (hp1 : z_K p1 = 8) (hp2 : z_K p2 = 4) : fV (d + 1) 55 [.ref 39, .ref p1, .ref p2] S = (if z_in (gI (sI (sI S 39 1 ((((gI S 39 1) + (20 : Int32)) - (1 : Int32)) - (((gI S 39 1) + (20 : Int32)) - (1 : Int32)) / (20 : Int32) * (20 : Int32))) 39 0 ((gI (sI S 39 1 ((((gI S 39 1) + (20 : Int32)) - (1 : Int32)) - (((gI S 39 1) + (20 : Int32)) - (1 : Int32)) / (20 : Int32) * (20 : Int32))) 39 0) - (1 : Int32))) 39 1) 20 then ((fV d 75 [.ref p1, .ref (42 + 7 * ((gI (sI (sI S 39 1 ((((gI S 39 1) + (20 : Int32)) - (1 : Int32)) - (((gI S 39 1) + (20 : Int32)) - (1 : Int32)) / (20 : Int32) * (20 : Int32))) 39 0 ((gI (sI S 39 1 ((((gI S 39 1) + (20 : Int32)) - (1 : Int32)) - (((gI S 39 1) + (20 : Int32)) - (1 : Int32)) / (20 : Int32) * (20 : Int32))) 39 0) - (1 : Int32))) 39 1)).toNatClampNeg)] (sI (sI S 39 1 ((((gI S 39 1) + (20 : Int32)) - (1 : Int32)) - (((gI S 39 1) + (20 : Int32)) - (1 : Int32)) / (20 : Int32) * (20 : Int32))) 39 0 ((gI (sI S 39 1 ((((gI S 39 1) + (20 : Int32)) - (1 : Int32)) - (((gI S 39 1) + (20 : Int32)) - (1 : Int32)) / (20 : Int32) * (20 : Int32))) 39 0) - (1 : Int32)))).bind fun S3 => (if z_in (gI S3 39 1) 20 then ((fV d 52 [.ref p2, .ref (47 + 7 * ((gI S3 39 1)).toNatClampNeg)] S3).bind fun S6 => some S6) else none)) else none) := by
  refine (fV_en (Nat.le_of_ble_eq_true rfl) rfl).trans ?_
  refine (k_aload_n t55_0 rfl rfl).trans ?_
  refine (k_aload_n t55_1 rfl rfl).trans ?_
  refine (k_getI t55_2 rfl hW zK_39 (by decide) (by decide)).trans ?_
  refine (k_bipush t55_5 rfl zcb_20).trans ?_
  refine (k_iadd t55_7 rfl).trans ?_
  refine (k_iconst t55_8 rfl zci_1).trans ?_
  refine (k_isub t55_9 rfl).trans ?_
  refine (k_bipush t55_10 rfl zcb_20).trans ?_
  refine ((k_irem t55_12 rfl).trans (if_neg (by decide))).trans ?_
  refine (k_putI t55_13 rfl hW zK_39 (by decide) (by decide) (by decide)).trans ?_
  refine (k_aload_n t55_16 rfl rfl).trans ?_
  refine (k_dupR t55_17 rfl).trans ?_
  refine (k_getI t55_18 rfl hW.sI zK_39 (by decide) (by decide)).trans ?_
  refine (k_iconst t55_21 rfl zci_1).trans ?_
  refine (k_isub t55_22 rfl).trans ?_
  refine (k_putI t55_23 rfl hW.sI zK_39 (by decide) (by decide) (by decide)).trans ?_
  refine (k_aload_n t55_26 rfl rfl).trans ?_
  refine (k_aload_n t55_27 rfl rfl).trans ?_
  refine (k_getR t55_28 rfl hW.sI.sI zK_39 (by decide) (by decide) (zF_39_2 hW.sI.sI)).trans ?_
  refine (k_aload_n t55_31 rfl rfl).trans ?_
  refine (k_getI t55_32 rfl hW.sI.sI zK_39 (by decide) (by decide)).trans ?_
  refine (k_aald t55_35 rfl hW.sI.sI (by rw [zK_40]; decide) zL_40).trans (z_ite (fun g1 => ?_) (fun _ => rfl))
  rw [(zA_40 g1).1]
  refine k_callV (as := [.ref p1, .ref (42 + 7 * ((gI (sI (sI S 39 1 ((((gI S 39 1) + (20 : Int32)) - (1 : Int32)) - (((gI S 39 1) + (20 : Int32)) - (1 : Int32)) / (20 : Int32) * (20 : Int32))) 39 0 ((gI (sI S 39 1 ((((gI S 39 1) + (20 : Int32)) - (1 : Int32)) - (((gI S 39 1) + (20 : Int32)) - (1 : Int32)) / (20 : Int32) * (20 : Int32))) 39 0) - (1 : Int32))) 39 1)).toNatClampNeg)]) (rest := []) t55_36 rfl rfl (by decide) rfl rfl (Nat.le_of_ble_eq_true rfl) rfl (z_rcV hW.sI.sI (hp1) (by decide)) (by decide) (by decide) hW.sI.sI (fun S3 hW3 => ?_)
  refine (k_aload_n t55_39 rfl rfl).trans ?_
  refine (k_aload_n t55_40 rfl rfl).trans ?_
  refine (k_getR t55_41 rfl hW3 zK_39 (by decide) (by decide) (zF_39_3 hW3)).trans ?_
  refine (k_aload_n t55_44 rfl rfl).trans ?_
  refine (k_getI t55_45 rfl hW3 zK_39 (by decide) (by decide)).trans ?_
  refine (k_aald t55_48 rfl hW3 (by rw [zK_41]; decide) zL_41).trans (z_ite (fun g4 => ?_) (fun _ => rfl))
  rw [(zA_41 g4).1]
  refine k_callV (as := [.ref p2, .ref (47 + 7 * ((gI S3 39 1)).toNatClampNeg)]) (rest := []) t55_49 rfl rfl (by decide) rfl rfl (Nat.le_of_ble_eq_true rfl) rfl (z_rcV hW3 (hp2) (by decide)) (by decide) (by decide) hW3 (fun S6 hW6 => ?_)
  exact k_return t55_52 rfl (by decide)
