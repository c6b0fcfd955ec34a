/-! EQUATIONS of Steps (written by wip/whole/gen/eqs.py). -/
theorem t1_0 : z_ft 1 0 = some (.iconst 0, 1, none, [], 0, 0, 0, 0) := z_ftd (by decide +kernel)
theorem t1_1 : z_ft 1 1 = some (.istore 4, 2, none, [], 0, 0, 0, 0) := z_ftd (by decide +kernel)
theorem t1_3 : z_ft 1 3 = some (.iload 4, 2, (some [0, 1, 2, 3, 4]), [], 0, 0, 0, 0) := z_ftd (by decide +kernel)
theorem t1_5 : z_ft 1 5 = some (.bipush 16, 2, none, [], 0, 0, 0, 0) := z_ftd (by decide +kernel)
theorem t1_7 : z_ft 1 7 = some (.if_icmp .ge 34, 3, none, [], 41, 0, 0, 0) := z_ftd (by decide +kernel)
theorem t1_10 : z_ft 1 10 = some (.aload_n 0, 1, none, [], 0, 0, 0, 0) := z_ftd (by decide +kernel)
theorem t1_11 : z_ft 1 11 = some (.getfield 9, 3, none, [], 0, 0, 4, 0) := z_ftd (by decide +kernel)
theorem t1_14 : z_ft 1 14 = some (.iload 4, 2, none, [], 0, 0, 0, 0) := z_ftd (by decide +kernel)
theorem t1_16 : z_ft 1 16 = some (.iload 4, 2, none, [], 0, 0, 0, 0) := z_ftd (by decide +kernel)
theorem t1_18 : z_ft 1 18 = some (.iastore, 1, none, [], 0, 0, 0, 0) := z_ftd (by decide +kernel)
theorem t1_19 : z_ft 1 19 = some (.aload_n 0, 1, none, [], 0, 0, 0, 0) := z_ftd (by decide +kernel)
theorem t1_20 : z_ft 1 20 = some (.getfield 15, 3, none, [], 0, 1, 5, 0) := z_ftd (by decide +kernel)
theorem t1_23 : z_ft 1 23 = some (.iload 4, 2, none, [], 0, 0, 0, 0) := z_ftd (by decide +kernel)
theorem t1_25 : z_ft 1 25 = some (.iconst 1, 1, none, [], 0, 0, 0, 0) := z_ftd (by decide +kernel)
theorem t1_26 : z_ft 1 26 = some (.iastore, 1, none, [], 0, 0, 0, 0) := z_ftd (by decide +kernel)
theorem t1_27 : z_ft 1 27 = some (.aload_n 0, 1, none, [], 0, 0, 0, 0) := z_ftd (by decide +kernel)
theorem t1_28 : z_ft 1 28 = some (.getfield 18, 3, none, [], 0, 2, 6, 0) := z_ftd (by decide +kernel)
theorem t1_31 : z_ft 1 31 = some (.iload 4, 2, none, [], 0, 0, 0, 0) := z_ftd (by decide +kernel)
theorem t1_33 : z_ft 1 33 = some (.iconst 0, 1, none, [], 0, 0, 0, 0) := z_ftd (by decide +kernel)
theorem t1_34 : z_ft 1 34 = some (.iastore, 1, none, [], 0, 0, 0, 0) := z_ftd (by decide +kernel)
theorem t1_35 : z_ft 1 35 = some (.iinc 4 1, 3, none, [], 0, 0, 0, 0) := z_ftd (by decide +kernel)
theorem t1_38 : z_ft 1 38 = some (.goto (-35), 3, none, [], 3, 0, 0, 0) := z_ftd (by decide +kernel)
theorem t1_41 : z_ft 1 41 = some (.iconst 0, 1, none, [], 0, 0, 0, 0) := z_ftd (by decide +kernel)
theorem t1_42 : z_ft 1 42 = some (.istore 4, 2, none, [], 0, 0, 0, 0) := z_ftd (by decide +kernel)
theorem t1_44 : z_ft 1 44 = some (.aload_n 1, 1, none, [], 0, 0, 0, 0) := z_ftd (by decide +kernel)
theorem t1_45 : z_ft 1 45 = some (.getfield 31, 3, none, [], 6, 6, 0, 0) := z_ftd (by decide +kernel)
theorem t1_48 : z_ft 1 48 = some (.iconst 1, 1, none, [], 0, 0, 0, 0) := z_ftd (by decide +kernel)
theorem t1_49 : z_ft 1 49 = some (.isub, 1, none, [], 0, 0, 0, 0) := z_ftd (by decide +kernel)
theorem t1_50 : z_ft 1 50 = some (.istore 5, 2, none, [], 0, 0, 0, 0) := z_ftd (by decide +kernel)
theorem t1_52 : z_ft 1 52 = some (.iload 5, 2, (some [0, 1, 2, 3, 4, 5]), [], 0, 0, 0, 0) := z_ftd (by decide +kernel)
theorem t1_54 : z_ft 1 54 = some (.ifCond .lt 39, 3, none, [], 93, 0, 0, 0) := z_ftd (by decide +kernel)
theorem t1_57 : z_ft 1 57 = some (.iload_n 3, 1, none, [], 0, 0, 0, 0) := z_ftd (by decide +kernel)
theorem t1_58 : z_ft 1 58 = some (.iload 5, 2, none, [], 0, 0, 0, 0) := z_ftd (by decide +kernel)
theorem t1_60 : z_ft 1 60 = some (.ishr, 1, none, [], 0, 0, 0, 0) := z_ftd (by decide +kernel)
theorem t1_61 : z_ft 1 61 = some (.iconst 1, 1, none, [], 0, 0, 0, 0) := z_ftd (by decide +kernel)
theorem t1_62 : z_ft 1 62 = some (.iand, 1, none, [], 0, 0, 0, 0) := z_ftd (by decide +kernel)
theorem t1_63 : z_ft 1 63 = some (.iconst 1, 1, none, [], 0, 0, 0, 0) := z_ftd (by decide +kernel)
theorem t1_64 : z_ft 1 64 = some (.if_icmp .ne 23, 3, none, [], 87, 0, 0, 0) := z_ftd (by decide +kernel)
theorem t1_67 : z_ft 1 67 = some (.aload_n 0, 1, none, [], 0, 0, 0, 0) := z_ftd (by decide +kernel)
theorem t1_68 : z_ft 1 68 = some (.aload_n 1, 1, none, [], 0, 0, 0, 0) := z_ftd (by decide +kernel)
theorem t1_69 : z_ft 1 69 = some (.iload_n 2, 1, none, [], 0, 0, 0, 0) := z_ftd (by decide +kernel)
theorem t1_70 : z_ft 1 70 = some (.iload 5, 2, none, [], 0, 0, 0, 0) := z_ftd (by decide +kernel)
theorem t1_72 : z_ft 1 72 = some (.invokevirtual 36, 3, none, [], 2, 0, 10, 0) := z_ftd (by decide +kernel)
theorem t1_75 : z_ft 1 75 = some (.ifCond .ne 12, 3, none, [], 87, 0, 0, 0) := z_ftd (by decide +kernel)
theorem t1_78 : z_ft 1 78 = some (.iload 4, 2, none, [], 0, 0, 0, 0) := z_ftd (by decide +kernel)
theorem t1_80 : z_ft 1 80 = some (.iconst 1, 1, none, [], 0, 0, 0, 0) := z_ftd (by decide +kernel)
theorem t1_81 : z_ft 1 81 = some (.iload 5, 2, none, [], 0, 0, 0, 0) := z_ftd (by decide +kernel)
theorem t1_83 : z_ft 1 83 = some (.ishl, 1, none, [], 0, 0, 0, 0) := z_ftd (by decide +kernel)
theorem t1_84 : z_ft 1 84 = some (.ior, 1, none, [], 0, 0, 0, 0) := z_ftd (by decide +kernel)
theorem t1_85 : z_ft 1 85 = some (.istore 4, 2, none, [], 0, 0, 0, 0) := z_ftd (by decide +kernel)
theorem t1_87 : z_ft 1 87 = some (.iinc 5 (-1), 3, (some [0, 1, 2, 3, 4, 5]), [], 0, 0, 0, 0) := z_ftd (by decide +kernel)
theorem t1_90 : z_ft 1 90 = some (.goto (-38), 3, none, [], 52, 0, 0, 0) := z_ftd (by decide +kernel)
theorem t1_93 : z_ft 1 93 = some (.iload 4, 2, none, [], 0, 0, 0, 0) := z_ftd (by decide +kernel)
theorem t1_95 : z_ft 1 95 = some (.ireturn, 1, none, [], 0, 0, 0, 0) := z_ftd (by decide +kernel)
noncomputable def b1_3 (d : Nat) (y1 : Nat) (y2 : Int32) (y3 : Int32) (y4 : Int32) (S : z_S) : Option (Int32 × z_S) := zk kI z_X0 d 1 3 [.ref 387, .ref y1, .int y2, .int y3, .int y4, z_j] [] S
noncomputable def b1_52 (d : Nat) (y1 : Nat) (y2 : Int32) (y3 : Int32) (y4 : Int32) (y5 : Int32) (S : z_S) : Option (Int32 × z_S) := zk kI z_X0 d 1 52 [.ref 387, .ref y1, .int y2, .int y3, .int y4, .int y5] [] S
noncomputable def b1_87 (d : Nat) (y1 : Nat) (y2 : Int32) (y3 : Int32) (y4 : Int32) (y5 : Int32) (S : z_S) : Option (Int32 × z_S) := zk kI z_X0 d 1 87 [.ref 387, .ref y1, .int y2, .int y3, .int y4, .int y5] [] S
theorem b1_3_eq (d : Nat) (y1 : Nat) (y2 : Int32) (y3 : Int32) (y4 : Int32) (S : z_S) (hW : z_W S) (hy1 : z_K y1 = 6) : b1_3 d y1 y2 y3 y4 S = (if (16 : Int32) ≤ y4 then b1_52 d y1 y2 y3 (0 : Int32) ((gI S y1 6) - (1 : Int32)) S else (if z_in y4 16 then (if z_in y4 16 then (if z_in y4 16 then b1_3 d y1 y2 y3 (y4 + (1 : Int32)) (sI (sI (sI S 388 (y4).toNatClampNeg y4) 389 (y4).toNatClampNeg (1 : Int32)) 390 (y4).toNatClampNeg (0 : Int32)) else none) else none) else none)) := by
  unfold b1_3
  refine (k_iload t1_3 rfl rfl).trans ?_
  refine (k_bipush t1_5 rfl zcb_16).trans ?_
  refine (k_icmp_ge t1_7 rfl).trans (z_ite (fun g1 => ?_) (fun g1 => ?_))
  · refine (k_iconst t1_41 rfl zci_0).trans ?_
    refine (k_istore (ls' := [.ref 387, .ref y1, .int y2, .int y3, .int (0 : Int32), z_j]) t1_42 rfl rfl).trans ?_
    refine (k_aload_n t1_44 rfl rfl).trans ?_
    refine (k_getI t1_45 rfl hW hy1 (by decide) (by decide)).trans ?_
    refine (k_iconst t1_48 rfl zci_1).trans ?_
    refine (k_isub t1_49 rfl).trans ?_
    refine (k_istore (ls' := [.ref 387, .ref y1, .int y2, .int y3, .int (0 : Int32), .int ((gI S y1 6) - (1 : Int32))]) t1_50 rfl rfl).trans ?_
    exact (zk_mk (ls' := [.ref 387, .ref y1, .int y2, .int y3, .int (0 : Int32), .int ((gI S y1 6) - (1 : Int32))]) t1_52 rfl)
  · refine (k_aload_n t1_10 rfl rfl).trans ?_
    refine (k_getR t1_11 rfl hW zK_387 (by decide) (by decide) (zF_387_0 hW)).trans ?_
    refine (k_iload t1_14 rfl rfl).trans ?_
    refine (k_iload t1_16 rfl rfl).trans ?_
    refine (k_iast t1_18 rfl hW zK_388 zL_388).trans (z_ite (fun g2 => ?_) (fun _ => rfl))
    refine (k_aload_n t1_19 rfl rfl).trans ?_
    refine (k_getR t1_20 rfl hW.sI zK_387 (by decide) (by decide) (zF_387_1 hW.sI)).trans ?_
    refine (k_iload t1_23 rfl rfl).trans ?_
    refine (k_iconst t1_25 rfl zci_1).trans ?_
    refine (k_iast t1_26 rfl hW.sI zK_389 zL_389).trans (z_ite (fun g3 => ?_) (fun _ => rfl))
    refine (k_aload_n t1_27 rfl rfl).trans ?_
    refine (k_getR t1_28 rfl hW.sI.sI zK_387 (by decide) (by decide) (zF_387_2 hW.sI.sI)).trans ?_
    refine (k_iload t1_31 rfl rfl).trans ?_
    refine (k_iconst t1_33 rfl zci_0).trans ?_
    refine (k_iast t1_34 rfl hW.sI.sI zK_390 zL_390).trans (z_ite (fun g4 => ?_) (fun _ => rfl))
    refine (k_iinc (b := (y4 + (1 : Int32))) (ls' := [.ref 387, .ref y1, .int y2, .int y3, .int (y4 + (1 : Int32)), z_j]) t1_35 rfl rfl (by rw [zci_1]) rfl).trans ?_
    refine (k_goto t1_38 rfl).trans ?_
    exact (zk_mk (ls' := [.ref 387, .ref y1, .int y2, .int y3, .int (y4 + (1 : Int32)), z_j]) t1_3 rfl)
theorem b1_52_eq (d : Nat) (y1 : Nat) (y2 : Int32) (y3 : Int32) (y4 : Int32) (y5 : Int32) (S : z_S) (hW : z_W S) (hy1 : z_K y1 = 6) : b1_52 d y1 y2 y3 y4 y5 S = (if y5 < (0 : Int32) then some (y4, S) else (if ¬ ((y3 >>> (y5 &&& 31)) &&& (1 : Int32)) = (1 : Int32) then b1_87 d y1 y2 y3 y4 y5 S else (zb (fI d 2 [.ref 387, .ref y1, .int y2, .int y5] S) fun v7 S8 => (if ¬ v7 = (0 : Int32) then b1_87 d y1 y2 y3 y4 y5 S8 else b1_87 d y1 y2 y3 (y4 ||| ((1 : Int32) <<< (y5 &&& 31))) y5 S8)))) := by
  unfold b1_52
  refine (k_iload t1_52 rfl rfl).trans ?_
  refine (k_if_lt t1_54 rfl).trans (z_ite (fun g5 => ?_) (fun g5 => ?_))
  · refine (k_iload t1_93 rfl rfl).trans ?_
    exact k_ireturn t1_95 rfl (by decide)
  · refine (k_iload_n t1_57 rfl rfl).trans ?_
    refine (k_iload t1_58 rfl rfl).trans ?_
    refine (k_ishr t1_60 rfl).trans ?_
    refine (k_iconst t1_61 rfl zci_1).trans ?_
    refine (k_iand t1_62 rfl).trans ?_
    refine (k_iconst t1_63 rfl zci_1).trans ?_
    refine (k_icmp_ne t1_64 rfl).trans (z_ite (fun g6 => ?_) (fun g6 => ?_))
    · exact (zk_mk (ls' := [.ref 387, .ref y1, .int y2, .int y3, .int y4, .int y5]) t1_87 rfl)
    · refine (k_aload_n t1_67 rfl rfl).trans ?_
      refine (k_aload_n t1_68 rfl rfl).trans ?_
      refine (k_iload_n t1_69 rfl rfl).trans ?_
      refine (k_iload t1_70 rfl rfl).trans ?_
      refine k_callI (as := [.ref 387, .ref y1, .int y2, .int y5]) (rest := []) t1_72 rfl rfl (by decide) rfl rfl (Nat.le_of_ble_eq_true rfl) rfl (z_rcV hW (zK_387) (by decide)) (by decide) (Or.inr (by decide)) hW (fun v7 S8 hW8 => ?_)
      refine (k_if_ne t1_75 rfl).trans (z_ite (fun g9 => ?_) (fun g9 => ?_))
      · exact (zk_mk (ls' := [.ref 387, .ref y1, .int y2, .int y3, .int y4, .int y5]) t1_87 rfl)
      · refine (k_iload t1_78 rfl rfl).trans ?_
        refine (k_iconst t1_80 rfl zci_1).trans ?_
        refine (k_iload t1_81 rfl rfl).trans ?_
        refine (k_ishl t1_83 rfl).trans ?_
        refine (k_ior t1_84 rfl).trans ?_
        refine (k_istore (ls' := [.ref 387, .ref y1, .int y2, .int y3, .int (y4 ||| ((1 : Int32) <<< (y5 &&& 31))), .int y5]) t1_85 rfl rfl).trans ?_
        exact (zk_mk (ls' := [.ref 387, .ref y1, .int y2, .int y3, .int (y4 ||| ((1 : Int32) <<< (y5 &&& 31))), .int y5]) t1_87 rfl)
theorem b1_87_eq (d : Nat) (y1 : Nat) (y2 : Int32) (y3 : Int32) (y4 : Int32) (y5 : Int32) (S : z_S) (hW : z_W S) (hy1 : z_K y1 = 6) : b1_87 d y1 y2 y3 y4 y5 S = b1_52 d y1 y2 y3 y4 (y5 + (-1 : Int32)) S := by
  unfold b1_87
  refine (k_iinc (b := (y5 + (-1 : Int32))) (ls' := [.ref 387, .ref y1, .int y2, .int y3, .int y4, .int (y5 + (-1 : Int32))]) t1_87 rfl rfl (by rw [zci_m1]) rfl).trans ?_
  refine (k_goto t1_90 rfl).trans ?_
  exact (zk_mk (ls' := [.ref 387, .ref y1, .int y2, .int y3, .int y4, .int (y5 + (-1 : Int32))]) t1_52 rfl)
-- X0_leftOver
theorem e1 (d : Nat) (p1 : Nat) (x2 : Int32) (x3 : Int32) (S : z_S) (hW : z_W S) (hp1 : z_K p1 = 6) : fI (d + 1) 1 [.ref 387, .ref p1, .int x2, .int x3] S = b1_3 d p1 x2 x3 (0 : Int32) S := by
  refine (fI_en (Nat.le_of_ble_eq_true rfl) rfl).trans ?_
  refine (k_iconst t1_0 rfl zci_0).trans ?_
  refine (k_istore (ls' := [.ref 387, .ref p1, .int x2, .int x3, .int (0 : Int32), z_j]) t1_1 rfl rfl).trans ?_
  exact (zk_mk (ls' := [.ref 387, .ref p1, .int x2, .int x3, .int (0 : Int32), z_j]) t1_3 rfl)
theorem t2_0 : z_ft 2 0 = some (.iload_n 2, 1, none, [], 0, 0, 0, 0) := z_ftd (by decide +kernel)
theorem t2_1 : z_ft 2 1 = some (.aload_n 1, 1, none, [], 0, 0, 0, 0) := z_ftd (by decide +kernel)
theorem t2_2 : z_ft 2 2 = some (.getfield 40, 3, none, [], 6, 10, 1, 0) := z_ftd (by decide +kernel)
theorem t2_5 : z_ft 2 5 = some (.iload_n 3, 1, none, [], 0, 0, 0, 0) := z_ftd (by decide +kernel)
theorem t2_6 : z_ft 2 6 = some (.iaload, 1, none, [], 0, 0, 0, 0) := z_ftd (by decide +kernel)
theorem t2_7 : z_ft 2 7 = some (.ishr, 1, none, [], 0, 0, 0, 0) := z_ftd (by decide +kernel)
theorem t2_8 : z_ft 2 8 = some (.iconst 1, 1, none, [], 0, 0, 0, 0) := z_ftd (by decide +kernel)
theorem t2_9 : z_ft 2 9 = some (.iand, 1, none, [], 0, 0, 0, 0) := z_ftd (by decide +kernel)
theorem t2_10 : z_ft 2 10 = some (.ifCond .ne 7, 3, none, [], 17, 0, 0, 0) := z_ftd (by decide +kernel)
theorem t2_13 : z_ft 2 13 = some (.iconst 1, 1, none, [], 0, 0, 0, 0) := z_ftd (by decide +kernel)
theorem t2_14 : z_ft 2 14 = some (.goto 4, 3, none, [], 18, 0, 0, 0) := z_ftd (by decide +kernel)
theorem t2_17 : z_ft 2 17 = some (.iconst 0, 1, none, [], 0, 0, 0, 0) := z_ftd (by decide +kernel)
theorem t2_18 : z_ft 2 18 = some (.istore 4, 2, (some [0, 1, 2, 3]), [], 0, 0, 0, 0) := z_ftd (by decide +kernel)
theorem t2_20 : z_ft 2 20 = some (.iload_n 2, 1, none, [], 0, 0, 0, 0) := z_ftd (by decide +kernel)
theorem t2_21 : z_ft 2 21 = some (.aload_n 1, 1, none, [], 0, 0, 0, 0) := z_ftd (by decide +kernel)
theorem t2_22 : z_ft 2 22 = some (.getfield 43, 3, none, [], 6, 11, 2, 0) := z_ftd (by decide +kernel)
theorem t2_25 : z_ft 2 25 = some (.iload_n 3, 1, none, [], 0, 0, 0, 0) := z_ftd (by decide +kernel)
theorem t2_26 : z_ft 2 26 = some (.iaload, 1, none, [], 0, 0, 0, 0) := z_ftd (by decide +kernel)
theorem t2_27 : z_ft 2 27 = some (.ishr, 1, none, [], 0, 0, 0, 0) := z_ftd (by decide +kernel)
theorem t2_28 : z_ft 2 28 = some (.iconst 1, 1, none, [], 0, 0, 0, 0) := z_ftd (by decide +kernel)
theorem t2_29 : z_ft 2 29 = some (.iand, 1, none, [], 0, 0, 0, 0) := z_ftd (by decide +kernel)
theorem t2_30 : z_ft 2 30 = some (.ifCond .ne 7, 3, none, [], 37, 0, 0, 0) := z_ftd (by decide +kernel)
theorem t2_33 : z_ft 2 33 = some (.iconst 1, 1, none, [], 0, 0, 0, 0) := z_ftd (by decide +kernel)
theorem t2_34 : z_ft 2 34 = some (.goto 4, 3, none, [], 38, 0, 0, 0) := z_ftd (by decide +kernel)
theorem t2_37 : z_ft 2 37 = some (.iconst 0, 1, none, [], 0, 0, 0, 0) := z_ftd (by decide +kernel)
theorem t2_38 : z_ft 2 38 = some (.istore 5, 2, (some [0, 1, 3, 4]), [], 0, 0, 0, 0) := z_ftd (by decide +kernel)
theorem t2_40 : z_ft 2 40 = some (.aload_n 0, 1, none, [], 0, 0, 0, 0) := z_ftd (by decide +kernel)
theorem t2_41 : z_ft 2 41 = some (.iload 4, 2, none, [], 0, 0, 0, 0) := z_ftd (by decide +kernel)
theorem t2_43 : z_ft 2 43 = some (.ifCond .eq 12, 3, none, [], 55, 0, 0, 0) := z_ftd (by decide +kernel)
theorem t2_46 : z_ft 2 46 = some (.aload_n 1, 1, none, [], 0, 0, 0, 0) := z_ftd (by decide +kernel)
theorem t2_47 : z_ft 2 47 = some (.getfield 40, 3, none, [], 6, 10, 1, 0) := z_ftd (by decide +kernel)
theorem t2_50 : z_ft 2 50 = some (.iload_n 3, 1, none, [], 0, 0, 0, 0) := z_ftd (by decide +kernel)
theorem t2_51 : z_ft 2 51 = some (.iaload, 1, none, [], 0, 0, 0, 0) := z_ftd (by decide +kernel)
theorem t2_52 : z_ft 2 52 = some (.goto 9, 3, none, [], 61, 0, 0, 0) := z_ftd (by decide +kernel)
theorem t2_55 : z_ft 2 55 = some (.aload_n 1, 1, none, [], 0, 0, 0, 0) := z_ftd (by decide +kernel)
theorem t2_56 : z_ft 2 56 = some (.getfield 43, 3, none, [], 6, 11, 2, 0) := z_ftd (by decide +kernel)
theorem t2_59 : z_ft 2 59 = some (.iload_n 3, 1, none, [], 0, 0, 0, 0) := z_ftd (by decide +kernel)
theorem t2_60 : z_ft 2 60 = some (.iaload, 1, none, [], 0, 0, 0, 0) := z_ftd (by decide +kernel)
theorem t2_61 : z_ft 2 61 = some (.invokevirtual 46, 3, (some [0, 1, 3, 4, 5]), [], 3, 0, 11, 0) := z_ftd (by decide +kernel)
theorem t2_64 : z_ft 2 64 = some (.istore 6, 2, none, [], 0, 0, 0, 0) := z_ftd (by decide +kernel)
theorem t2_66 : z_ft 2 66 = some (.aload_n 0, 1, none, [], 0, 0, 0, 0) := z_ftd (by decide +kernel)
theorem t2_67 : z_ft 2 67 = some (.iload 5, 2, none, [], 0, 0, 0, 0) := z_ftd (by decide +kernel)
theorem t2_69 : z_ft 2 69 = some (.ifCond .eq 12, 3, none, [], 81, 0, 0, 0) := z_ftd (by decide +kernel)
theorem t2_72 : z_ft 2 72 = some (.aload_n 1, 1, none, [], 0, 0, 0, 0) := z_ftd (by decide +kernel)
theorem t2_73 : z_ft 2 73 = some (.getfield 43, 3, none, [], 6, 11, 2, 0) := z_ftd (by decide +kernel)
theorem t2_76 : z_ft 2 76 = some (.iload_n 3, 1, none, [], 0, 0, 0, 0) := z_ftd (by decide +kernel)
theorem t2_77 : z_ft 2 77 = some (.iaload, 1, none, [], 0, 0, 0, 0) := z_ftd (by decide +kernel)
theorem t2_78 : z_ft 2 78 = some (.goto 9, 3, none, [], 87, 0, 0, 0) := z_ftd (by decide +kernel)
theorem t2_81 : z_ft 2 81 = some (.aload_n 1, 1, none, [], 0, 0, 0, 0) := z_ftd (by decide +kernel)
theorem t2_82 : z_ft 2 82 = some (.getfield 40, 3, none, [], 6, 10, 1, 0) := z_ftd (by decide +kernel)
theorem t2_85 : z_ft 2 85 = some (.iload_n 3, 1, none, [], 0, 0, 0, 0) := z_ftd (by decide +kernel)
theorem t2_86 : z_ft 2 86 = some (.iaload, 1, none, [], 0, 0, 0, 0) := z_ftd (by decide +kernel)
theorem t2_87 : z_ft 2 87 = some (.invokevirtual 46, 3, (some [0, 4, 5, 6]), [], 3, 0, 11, 0) := z_ftd (by decide +kernel)
theorem t2_90 : z_ft 2 90 = some (.istore 7, 2, none, [], 0, 0, 0, 0) := z_ftd (by decide +kernel)
theorem t2_92 : z_ft 2 92 = some (.iload 4, 2, none, [], 0, 0, 0, 0) := z_ftd (by decide +kernel)
theorem t2_94 : z_ft 2 94 = some (.ifCond .ne 8, 3, none, [], 102, 0, 0, 0) := z_ftd (by decide +kernel)
theorem t2_97 : z_ft 2 97 = some (.iload 5, 2, none, [], 0, 0, 0, 0) := z_ftd (by decide +kernel)
theorem t2_99 : z_ft 2 99 = some (.ifCond .eq 23, 3, none, [], 122, 0, 0, 0) := z_ftd (by decide +kernel)
theorem t2_102 : z_ft 2 102 = some (.aload_n 0, 1, (some [0, 4, 5, 6, 7]), [], 0, 0, 0, 0) := z_ftd (by decide +kernel)
theorem t2_103 : z_ft 2 103 = some (.getfield 18, 3, none, [], 0, 2, 6, 0) := z_ftd (by decide +kernel)
theorem t2_106 : z_ft 2 106 = some (.iload 6, 2, none, [], 0, 0, 0, 0) := z_ftd (by decide +kernel)
theorem t2_108 : z_ft 2 108 = some (.iaload, 1, none, [], 0, 0, 0, 0) := z_ftd (by decide +kernel)
theorem t2_109 : z_ft 2 109 = some (.ifCond .eq 15, 3, none, [], 124, 0, 0, 0) := z_ftd (by decide +kernel)
theorem t2_112 : z_ft 2 112 = some (.aload_n 0, 1, none, [], 0, 0, 0, 0) := z_ftd (by decide +kernel)
theorem t2_113 : z_ft 2 113 = some (.getfield 18, 3, none, [], 0, 2, 6, 0) := z_ftd (by decide +kernel)
theorem t2_116 : z_ft 2 116 = some (.iload 7, 2, none, [], 0, 0, 0, 0) := z_ftd (by decide +kernel)
theorem t2_118 : z_ft 2 118 = some (.iaload, 1, none, [], 0, 0, 0, 0) := z_ftd (by decide +kernel)
theorem t2_119 : z_ft 2 119 = some (.ifCond .eq 5, 3, none, [], 124, 0, 0, 0) := z_ftd (by decide +kernel)
theorem t2_122 : z_ft 2 122 = some (.iconst 0, 1, (some []), [], 0, 0, 0, 0) := z_ftd (by decide +kernel)
theorem t2_123 : z_ft 2 123 = some (.ireturn, 1, none, [], 0, 0, 0, 0) := z_ftd (by decide +kernel)
theorem t2_124 : z_ft 2 124 = some (.iload 6, 2, (some [0, 4, 5, 6, 7]), [], 0, 0, 0, 0) := z_ftd (by decide +kernel)
theorem t2_126 : z_ft 2 126 = some (.iload 7, 2, none, [], 0, 0, 0, 0) := z_ftd (by decide +kernel)
theorem t2_128 : z_ft 2 128 = some (.if_icmp .ne 27, 3, none, [], 155, 0, 0, 0) := z_ftd (by decide +kernel)
theorem t2_131 : z_ft 2 131 = some (.aload_n 0, 1, none, [], 0, 0, 0, 0) := z_ftd (by decide +kernel)
theorem t2_132 : z_ft 2 132 = some (.getfield 18, 3, none, [], 0, 2, 6, 0) := z_ftd (by decide +kernel)
theorem t2_135 : z_ft 2 135 = some (.iload 6, 2, none, [], 0, 0, 0, 0) := z_ftd (by decide +kernel)
theorem t2_137 : z_ft 2 137 = some (.iload 4, 2, none, [], 0, 0, 0, 0) := z_ftd (by decide +kernel)
theorem t2_139 : z_ft 2 139 = some (.ifCond .eq 12, 3, none, [], 151, 0, 0, 0) := z_ftd (by decide +kernel)
theorem t2_142 : z_ft 2 142 = some (.iload 5, 2, none, [], 0, 0, 0, 0) := z_ftd (by decide +kernel)
theorem t2_144 : z_ft 2 144 = some (.ifCond .eq 7, 3, none, [], 151, 0, 0, 0) := z_ftd (by decide +kernel)
theorem t2_147 : z_ft 2 147 = some (.iconst 2, 1, none, [], 0, 0, 0, 0) := z_ftd (by decide +kernel)
theorem t2_148 : z_ft 2 148 = some (.goto 4, 3, none, [], 152, 0, 0, 0) := z_ftd (by decide +kernel)
theorem t2_151 : z_ft 2 151 = some (.iconst 1, 1, (some []), [], 0, 0, 0, 0) := z_ftd (by decide +kernel)
theorem t2_152 : z_ft 2 152 = some (.iastore, 1, (some []), [], 0, 0, 0, 0) := z_ftd (by decide +kernel)
theorem t2_153 : z_ft 2 153 = some (.iconst 1, 1, none, [], 0, 0, 0, 0) := z_ftd (by decide +kernel)
theorem t2_154 : z_ft 2 154 = some (.ireturn, 1, none, [], 0, 0, 0, 0) := z_ftd (by decide +kernel)
theorem t2_155 : z_ft 2 155 = some (.aload_n 0, 1, none, [], 0, 0, 0, 0) := z_ftd (by decide +kernel)
theorem t2_156 : z_ft 2 156 = some (.getfield 9, 3, none, [], 0, 0, 4, 0) := z_ftd (by decide +kernel)
theorem t2_159 : z_ft 2 159 = some (.iload 7, 2, none, [], 0, 0, 0, 0) := z_ftd (by decide +kernel)
theorem t2_161 : z_ft 2 161 = some (.iload 6, 2, none, [], 0, 0, 0, 0) := z_ftd (by decide +kernel)
theorem t2_163 : z_ft 2 163 = some (.iastore, 1, none, [], 0, 0, 0, 0) := z_ftd (by decide +kernel)
theorem t2_164 : z_ft 2 164 = some (.aload_n 0, 1, none, [], 0, 0, 0, 0) := z_ftd (by decide +kernel)
theorem t2_165 : z_ft 2 165 = some (.getfield 15, 3, none, [], 0, 1, 5, 0) := z_ftd (by decide +kernel)
theorem t2_168 : z_ft 2 168 = some (.iload 6, 2, none, [], 0, 0, 0, 0) := z_ftd (by decide +kernel)
theorem t2_170 : z_ft 2 170 = some (.dup2, 1, none, [], 0, 0, 0, 0) := z_ftd (by decide +kernel)
theorem t2_171 : z_ft 2 171 = some (.iaload, 1, none, [], 0, 0, 0, 0) := z_ftd (by decide +kernel)
theorem t2_172 : z_ft 2 172 = some (.aload_n 0, 1, none, [], 0, 0, 0, 0) := z_ftd (by decide +kernel)
theorem t2_173 : z_ft 2 173 = some (.getfield 15, 3, none, [], 0, 1, 5, 0) := z_ftd (by decide +kernel)
theorem t2_176 : z_ft 2 176 = some (.iload 7, 2, none, [], 0, 0, 0, 0) := z_ftd (by decide +kernel)
theorem t2_178 : z_ft 2 178 = some (.iaload, 1, none, [], 0, 0, 0, 0) := z_ftd (by decide +kernel)
theorem t2_179 : z_ft 2 179 = some (.iadd, 1, none, [], 0, 0, 0, 0) := z_ftd (by decide +kernel)
theorem t2_180 : z_ft 2 180 = some (.iastore, 1, none, [], 0, 0, 0, 0) := z_ftd (by decide +kernel)
theorem t2_181 : z_ft 2 181 = some (.aload_n 0, 1, none, [], 0, 0, 0, 0) := z_ftd (by decide +kernel)
theorem t2_182 : z_ft 2 182 = some (.getfield 18, 3, none, [], 0, 2, 6, 0) := z_ftd (by decide +kernel)
theorem t2_185 : z_ft 2 185 = some (.iload 6, 2, none, [], 0, 0, 0, 0) := z_ftd (by decide +kernel)
theorem t2_187 : z_ft 2 187 = some (.aload_n 0, 1, none, [], 0, 0, 0, 0) := z_ftd (by decide +kernel)
theorem t2_188 : z_ft 2 188 = some (.getfield 18, 3, none, [], 0, 2, 6, 0) := z_ftd (by decide +kernel)
theorem t2_191 : z_ft 2 191 = some (.iload 6, 2, none, [], 0, 0, 0, 0) := z_ftd (by decide +kernel)
theorem t2_193 : z_ft 2 193 = some (.iaload, 1, none, [], 0, 0, 0, 0) := z_ftd (by decide +kernel)
theorem t2_194 : z_ft 2 194 = some (.aload_n 0, 1, none, [], 0, 0, 0, 0) := z_ftd (by decide +kernel)
theorem t2_195 : z_ft 2 195 = some (.getfield 18, 3, none, [], 0, 2, 6, 0) := z_ftd (by decide +kernel)
theorem t2_198 : z_ft 2 198 = some (.iload 7, 2, none, [], 0, 0, 0, 0) := z_ftd (by decide +kernel)
theorem t2_200 : z_ft 2 200 = some (.iaload, 1, none, [], 0, 0, 0, 0) := z_ftd (by decide +kernel)
theorem t2_201 : z_ft 2 201 = some (.invokestatic 50, 3, none, [], 277, 0, 12, 0) := z_ftd (by decide +kernel)
theorem t2_204 : z_ft 2 204 = some (.iastore, 1, none, [], 0, 0, 0, 0) := z_ftd (by decide +kernel)
theorem t2_205 : z_ft 2 205 = some (.iconst 1, 1, none, [], 0, 0, 0, 0) := z_ftd (by decide +kernel)
theorem t2_206 : z_ft 2 206 = some (.ireturn, 1, none, [], 0, 0, 0, 0) := z_ftd (by decide +kernel)
noncomputable def b2_18 (d : Nat) (y1 : Nat) (y2 : Int32) (y3 : Int32) (s0 : Int32) (S : z_S) : Option (Int32 × z_S) := zk kI z_X0 d 2 18 [.ref 387, .ref y1, .int y2, .int y3, z_j, z_j, z_j, z_j] [.int s0] S
noncomputable def b2_38 (d : Nat) (y1 : Nat) (y3 : Int32) (y4 : Int32) (s0 : Int32) (S : z_S) : Option (Int32 × z_S) := zk kI z_X0 d 2 38 [.ref 387, .ref y1, z_j, .int y3, .int y4, z_j, z_j, z_j] [.int s0] S
noncomputable def b2_61 (d : Nat) (y1 : Nat) (y3 : Int32) (y4 : Int32) (y5 : Int32) (s0 : Int32) (S : z_S) : Option (Int32 × z_S) := zk kI z_X0 d 2 61 [.ref 387, .ref y1, z_j, .int y3, .int y4, .int y5, z_j, z_j] [.int s0, .ref 387] S
noncomputable def b2_87 (d : Nat) (y4 : Int32) (y5 : Int32) (y6 : Int32) (s0 : Int32) (S : z_S) : Option (Int32 × z_S) := zk kI z_X0 d 2 87 [.ref 387, z_j, z_j, z_j, .int y4, .int y5, .int y6, z_j] [.int s0, .ref 387] S
noncomputable def b2_102 (d : Nat) (y4 : Int32) (y5 : Int32) (y6 : Int32) (y7 : Int32) (S : z_S) : Option (Int32 × z_S) := zk kI z_X0 d 2 102 [.ref 387, z_j, z_j, z_j, .int y4, .int y5, .int y6, .int y7] [] S
noncomputable def b2_124 (d : Nat) (y4 : Int32) (y5 : Int32) (y6 : Int32) (y7 : Int32) (S : z_S) : Option (Int32 × z_S) := zk kI z_X0 d 2 124 [.ref 387, z_j, z_j, z_j, .int y4, .int y5, .int y6, .int y7] [] S
noncomputable def b2_151 (d : Nat) (s0 : Int32) (S : z_S) : Option (Int32 × z_S) := zk kI z_X0 d 2 151 [z_j, z_j, z_j, z_j, z_j, z_j, z_j, z_j] [.int s0, .ref 390] S
theorem b2_18_eq (d : Nat) (y1 : Nat) (y2 : Int32) (y3 : Int32) (s0 : Int32) (S : z_S) (hW : z_W S) (hy1 : z_K y1 = 6) : b2_18 d y1 y2 y3 s0 S = (if z_in y3 16 then (if ¬ ((y2 >>> ((gI S (y1 + 3) (y3).toNatClampNeg) &&& 31)) &&& (1 : Int32)) = (0 : Int32) then b2_38 d y1 y3 s0 (0 : Int32) S else b2_38 d y1 y3 s0 (1 : Int32) S) else none) := by
  unfold b2_18
  refine (k_istore (ls' := [.ref 387, .ref y1, .int y2, .int y3, .int s0, z_j, z_j, z_j]) t2_18 rfl rfl).trans ?_
  refine (k_iload_n t2_20 rfl rfl).trans ?_
  refine (k_aload_n t2_21 rfl rfl).trans ?_
  refine (k_getR t2_22 rfl hW hy1 (by decide) (by decide) (zO_6_11 hW hy1)).trans ?_
  refine (k_iload_n t2_25 rfl rfl).trans ?_
  refine (k_iald t2_26 rfl hW (zOK_6_11 hy1) (zOL_6_11 hy1)).trans (z_ite (fun g3 => ?_) (fun _ => rfl))
  refine (k_ishr t2_27 rfl).trans ?_
  refine (k_iconst t2_28 rfl zci_1).trans ?_
  refine (k_iand t2_29 rfl).trans ?_
  refine (k_if_ne t2_30 rfl).trans (z_ite (fun g4 => ?_) (fun g4 => ?_))
  · refine (k_iconst t2_37 rfl zci_0).trans ?_
    exact (zk_mk (ls' := [.ref 387, .ref y1, z_j, .int y3, .int s0, z_j, z_j, z_j]) t2_38 rfl)
  · refine (k_iconst t2_33 rfl zci_1).trans ?_
    refine (k_goto t2_34 rfl).trans ?_
    exact (zk_mk (ls' := [.ref 387, .ref y1, z_j, .int y3, .int s0, z_j, z_j, z_j]) t2_38 rfl)
theorem b2_38_eq (d : Nat) (y1 : Nat) (y3 : Int32) (y4 : Int32) (s0 : Int32) (S : z_S) (hW : z_W S) (hy1 : z_K y1 = 6) : b2_38 d y1 y3 y4 s0 S = (if y4 = (0 : Int32) then (if z_in y3 16 then b2_61 d y1 y3 y4 s0 (gI S (y1 + 3) (y3).toNatClampNeg) S else none) else (if z_in y3 16 then b2_61 d y1 y3 y4 s0 (gI S (y1 + 2) (y3).toNatClampNeg) S else none)) := by
  unfold b2_38
  refine (k_istore (ls' := [.ref 387, .ref y1, z_j, .int y3, .int y4, .int s0, z_j, z_j]) t2_38 rfl rfl).trans ?_
  refine (k_aload_n t2_40 rfl rfl).trans ?_
  refine (k_iload t2_41 rfl rfl).trans ?_
  refine (k_if_eq t2_43 rfl).trans (z_ite (fun g5 => ?_) (fun g5 => ?_))
  · refine (k_aload_n t2_55 rfl rfl).trans ?_
    refine (k_getR t2_56 rfl hW hy1 (by decide) (by decide) (zO_6_11 hW hy1)).trans ?_
    refine (k_iload_n t2_59 rfl rfl).trans ?_
    refine (k_iald t2_60 rfl hW (zOK_6_11 hy1) (zOL_6_11 hy1)).trans (z_ite (fun g6 => ?_) (fun _ => rfl))
    exact (zk_mk (ls' := [.ref 387, .ref y1, z_j, .int y3, .int y4, .int s0, z_j, z_j]) t2_61 rfl)
  · refine (k_aload_n t2_46 rfl rfl).trans ?_
    refine (k_getR t2_47 rfl hW hy1 (by decide) (by decide) (zO_6_10 hW hy1)).trans ?_
    refine (k_iload_n t2_50 rfl rfl).trans ?_
    refine (k_iald t2_51 rfl hW (zOK_6_10 hy1) (zOL_6_10 hy1)).trans (z_ite (fun g7 => ?_) (fun _ => rfl))
    refine (k_goto t2_52 rfl).trans ?_
    exact (zk_mk (ls' := [.ref 387, .ref y1, z_j, .int y3, .int y4, .int s0, z_j, z_j]) t2_61 rfl)
theorem b2_61_eq (d : Nat) (y1 : Nat) (y3 : Int32) (y4 : Int32) (y5 : Int32) (s0 : Int32) (S : z_S) (hW : z_W S) (hy1 : z_K y1 = 6) : b2_61 d y1 y3 y4 y5 s0 S = (zb (fI d 3 [.ref 387, .int s0] S) fun v8 S9 => (if y5 = (0 : Int32) then (if z_in y3 16 then b2_87 d y4 y5 v8 (gI S9 (y1 + 2) (y3).toNatClampNeg) S9 else none) else (if z_in y3 16 then b2_87 d y4 y5 v8 (gI S9 (y1 + 3) (y3).toNatClampNeg) S9 else none))) := by
  unfold b2_61
  refine k_callI (as := [.ref 387, .int s0]) (rest := []) t2_61 rfl rfl (by decide) rfl rfl (Nat.le_of_ble_eq_true rfl) rfl (z_rcV hW (zK_387) (by decide)) (by decide) (Or.inl (by decide)) hW (fun v8 S9 hW9 => ?_)
  refine (k_istore (ls' := [.ref 387, .ref y1, z_j, .int y3, .int y4, .int y5, .int v8, z_j]) t2_64 rfl rfl).trans ?_
  refine (k_aload_n t2_66 rfl rfl).trans ?_
  refine (k_iload t2_67 rfl rfl).trans ?_
  refine (k_if_eq t2_69 rfl).trans (z_ite (fun g10 => ?_) (fun g10 => ?_))
  · refine (k_aload_n t2_81 rfl rfl).trans ?_
    refine (k_getR t2_82 rfl hW9 hy1 (by decide) (by decide) (zO_6_10 hW9 hy1)).trans ?_
    refine (k_iload_n t2_85 rfl rfl).trans ?_
    refine (k_iald t2_86 rfl hW9 (zOK_6_10 hy1) (zOL_6_10 hy1)).trans (z_ite (fun g11 => ?_) (fun _ => rfl))
    exact (zk_mk (ls' := [.ref 387, z_j, z_j, z_j, .int y4, .int y5, .int v8, z_j]) t2_87 rfl)
  · refine (k_aload_n t2_72 rfl rfl).trans ?_
    refine (k_getR t2_73 rfl hW9 hy1 (by decide) (by decide) (zO_6_11 hW9 hy1)).trans ?_
    refine (k_iload_n t2_76 rfl rfl).trans ?_
    refine (k_iald t2_77 rfl hW9 (zOK_6_11 hy1) (zOL_6_11 hy1)).trans (z_ite (fun g12 => ?_) (fun _ => rfl))
    refine (k_goto t2_78 rfl).trans ?_
    exact (zk_mk (ls' := [.ref 387, z_j, z_j, z_j, .int y4, .int y5, .int v8, z_j]) t2_87 rfl)
theorem b2_87_eq (d : Nat) (y4 : Int32) (y5 : Int32) (y6 : Int32) (s0 : Int32) (S : z_S) (hW : z_W S)  : b2_87 d y4 y5 y6 s0 S = (zb (fI d 3 [.ref 387, .int s0] S) fun v13 S14 => (if ¬ y4 = (0 : Int32) then b2_102 d y4 y5 y6 v13 S14 else (if y5 = (0 : Int32) then some ((0 : Int32), S14) else b2_102 d y4 y5 y6 v13 S14))) := by
  unfold b2_87
  refine k_callI (as := [.ref 387, .int s0]) (rest := []) t2_87 rfl rfl (by decide) rfl rfl (Nat.le_of_ble_eq_true rfl) rfl (z_rcV hW (zK_387) (by decide)) (by decide) (Or.inl (by decide)) hW (fun v13 S14 hW14 => ?_)
  refine (k_istore (ls' := [.ref 387, z_j, z_j, z_j, .int y4, .int y5, .int y6, .int v13]) t2_90 rfl rfl).trans ?_
  refine (k_iload t2_92 rfl rfl).trans ?_
  refine (k_if_ne t2_94 rfl).trans (z_ite (fun g15 => ?_) (fun g15 => ?_))
  · exact (zk_mk (ls' := [.ref 387, z_j, z_j, z_j, .int y4, .int y5, .int y6, .int v13]) t2_102 rfl)
  · refine (k_iload t2_97 rfl rfl).trans ?_
    refine (k_if_eq t2_99 rfl).trans (z_ite (fun g16 => ?_) (fun g16 => ?_))
    · refine (zk_mk (ls' := [z_j, z_j, z_j, z_j, z_j, z_j, z_j, z_j]) t2_122 rfl).trans ?_
      refine (k_iconst t2_122 rfl zci_0).trans ?_
      exact k_zretC t2_123 rfl (by decide) (by decide)
    · exact (zk_mk (ls' := [.ref 387, z_j, z_j, z_j, .int y4, .int y5, .int y6, .int v13]) t2_102 rfl)
theorem b2_102_eq (d : Nat) (y4 : Int32) (y5 : Int32) (y6 : Int32) (y7 : Int32) (S : z_S) (hW : z_W S)  : b2_102 d y4 y5 y6 y7 S = (if z_in y6 16 then (if (gI S 390 (y6).toNatClampNeg) = (0 : Int32) then b2_124 d y4 y5 y6 y7 S else (if z_in y7 16 then (if (gI S 390 (y7).toNatClampNeg) = (0 : Int32) then b2_124 d y4 y5 y6 y7 S else some ((0 : Int32), S)) else none)) else none) := by
  unfold b2_102
  refine (k_aload_n t2_102 rfl rfl).trans ?_
  refine (k_getR t2_103 rfl hW zK_387 (by decide) (by decide) (zF_387_2 hW)).trans ?_
  refine (k_iload t2_106 rfl rfl).trans ?_
  refine (k_iald t2_108 rfl hW zK_390 zL_390).trans (z_ite (fun g17 => ?_) (fun _ => rfl))
  refine (k_if_eq t2_109 rfl).trans (z_ite (fun g18 => ?_) (fun g18 => ?_))
  · exact (zk_mk (ls' := [.ref 387, z_j, z_j, z_j, .int y4, .int y5, .int y6, .int y7]) t2_124 rfl)
  · refine (k_aload_n t2_112 rfl rfl).trans ?_
    refine (k_getR t2_113 rfl hW zK_387 (by decide) (by decide) (zF_387_2 hW)).trans ?_
    refine (k_iload t2_116 rfl rfl).trans ?_
    refine (k_iald t2_118 rfl hW zK_390 zL_390).trans (z_ite (fun g19 => ?_) (fun _ => rfl))
    refine (k_if_eq t2_119 rfl).trans (z_ite (fun g20 => ?_) (fun g20 => ?_))
    · exact (zk_mk (ls' := [.ref 387, z_j, z_j, z_j, .int y4, .int y5, .int y6, .int y7]) t2_124 rfl)
    · refine (zk_mk (ls' := [z_j, z_j, z_j, z_j, z_j, z_j, z_j, z_j]) t2_122 rfl).trans ?_
      refine (k_iconst t2_122 rfl zci_0).trans ?_
      exact k_zretC t2_123 rfl (by decide) (by decide)
theorem b2_124_eq (d : Nat) (y4 : Int32) (y5 : Int32) (y6 : Int32) (y7 : Int32) (S : z_S) (hW : z_W S)  : b2_124 d y4 y5 y6 y7 S = (if ¬ y6 = y7 then (if z_in y7 16 then (if z_in y6 16 then (if z_in y7 16 then (if z_in y6 16 then (if z_in y6 16 then (if z_in y7 16 then (zb (fI d 277 [.int (gI (sI (sI S 388 (y7).toNatClampNeg y6) 389 (y6).toNatClampNeg ((gI (sI S 388 (y7).toNatClampNeg y6) 389 (y6).toNatClampNeg) + (gI (sI S 388 (y7).toNatClampNeg y6) 389 (y7).toNatClampNeg))) 390 (y6).toNatClampNeg), .int (gI (sI (sI S 388 (y7).toNatClampNeg y6) 389 (y6).toNatClampNeg ((gI (sI S 388 (y7).toNatClampNeg y6) 389 (y6).toNatClampNeg) + (gI (sI S 388 (y7).toNatClampNeg y6) 389 (y7).toNatClampNeg))) 390 (y7).toNatClampNeg)] (sI (sI S 388 (y7).toNatClampNeg y6) 389 (y6).toNatClampNeg ((gI (sI S 388 (y7).toNatClampNeg y6) 389 (y6).toNatClampNeg) + (gI (sI S 388 (y7).toNatClampNeg y6) 389 (y7).toNatClampNeg)))) fun v28 S29 => (if z_in y6 16 then some ((1 : Int32), sI S29 390 (y6).toNatClampNeg v28) else none)) else none) else none) else none) else none) else none) else none) else (if y4 = (0 : Int32) then b2_151 d y6 S else (if y5 = (0 : Int32) then b2_151 d y6 S else (if z_in y6 16 then some ((1 : Int32), sI S 390 (y6).toNatClampNeg (2 : Int32)) else none)))) := by
  unfold b2_124
  refine (k_iload t2_124 rfl rfl).trans ?_
  refine (k_iload t2_126 rfl rfl).trans ?_
  refine (k_icmp_ne t2_128 rfl).trans (z_ite (fun g21 => ?_) (fun g21 => ?_))
  · refine (k_aload_n t2_155 rfl rfl).trans ?_
    refine (k_getR t2_156 rfl hW zK_387 (by decide) (by decide) (zF_387_0 hW)).trans ?_
    refine (k_iload t2_159 rfl rfl).trans ?_
    refine (k_iload t2_161 rfl rfl).trans ?_
    refine (k_iast t2_163 rfl hW zK_388 zL_388).trans (z_ite (fun g22 => ?_) (fun _ => rfl))
    refine (k_aload_n t2_164 rfl rfl).trans ?_
    refine (k_getR t2_165 rfl hW.sI zK_387 (by decide) (by decide) (zF_387_1 hW.sI)).trans ?_
    refine (k_iload t2_168 rfl rfl).trans ?_
    refine (k_dup2IR t2_170 rfl).trans ?_
    refine (k_iald t2_171 rfl hW.sI zK_389 zL_389).trans (z_ite (fun g23 => ?_) (fun _ => rfl))
    refine (k_aload_n t2_172 rfl rfl).trans ?_
    refine (k_getR t2_173 rfl hW.sI zK_387 (by decide) (by decide) (zF_387_1 hW.sI)).trans ?_
    refine (k_iload t2_176 rfl rfl).trans ?_
    refine (k_iald t2_178 rfl hW.sI zK_389 zL_389).trans (z_ite (fun g24 => ?_) (fun _ => rfl))
    refine (k_iadd t2_179 rfl).trans ?_
    refine (k_iast t2_180 rfl hW.sI zK_389 zL_389).trans (z_ite (fun g25 => ?_) (fun _ => rfl))
    refine (k_aload_n t2_181 rfl rfl).trans ?_
    refine (k_getR t2_182 rfl hW.sI.sI zK_387 (by decide) (by decide) (zF_387_2 hW.sI.sI)).trans ?_
    refine (k_iload t2_185 rfl rfl).trans ?_
    refine (k_aload_n t2_187 rfl rfl).trans ?_
    refine (k_getR t2_188 rfl hW.sI.sI zK_387 (by decide) (by decide) (zF_387_2 hW.sI.sI)).trans ?_
    refine (k_iload t2_191 rfl rfl).trans ?_
    refine (k_iald t2_193 rfl hW.sI.sI zK_390 zL_390).trans (z_ite (fun g26 => ?_) (fun _ => rfl))
    refine (k_aload_n t2_194 rfl rfl).trans ?_
    refine (k_getR t2_195 rfl hW.sI.sI zK_387 (by decide) (by decide) (zF_387_2 hW.sI.sI)).trans ?_
    refine (k_iload t2_198 rfl rfl).trans ?_
    refine (k_iald t2_200 rfl hW.sI.sI zK_390 zL_390).trans (z_ite (fun g27 => ?_) (fun _ => rfl))
    refine k_callI (as := [.int (gI (sI (sI S 388 (y7).toNatClampNeg y6) 389 (y6).toNatClampNeg ((gI (sI S 388 (y7).toNatClampNeg y6) 389 (y6).toNatClampNeg) + (gI (sI S 388 (y7).toNatClampNeg y6) 389 (y7).toNatClampNeg))) 390 (y6).toNatClampNeg), .int (gI (sI (sI S 388 (y7).toNatClampNeg y6) 389 (y6).toNatClampNeg ((gI (sI S 388 (y7).toNatClampNeg y6) 389 (y6).toNatClampNeg) + (gI (sI S 388 (y7).toNatClampNeg y6) 389 (y7).toNatClampNeg))) 390 (y7).toNatClampNeg)]) (rest := [.int y6, .ref 390]) t2_201 rfl rfl (by decide) rfl rfl (Nat.le_of_ble_eq_true rfl) rfl (z_rcS (by decide)) (by decide) (Or.inl (by decide)) hW.sI.sI (fun v28 S29 hW29 => ?_)
    refine (k_iast t2_204 rfl hW29 zK_390 zL_390).trans (z_ite (fun g30 => ?_) (fun _ => rfl))
    refine (k_iconst t2_205 rfl zci_1).trans ?_
    exact k_zretC t2_206 rfl (by decide) (by decide)
  · refine (k_aload_n t2_131 rfl rfl).trans ?_
    refine (k_getR t2_132 rfl hW zK_387 (by decide) (by decide) (zF_387_2 hW)).trans ?_
    refine (k_iload t2_135 rfl rfl).trans ?_
    refine (k_iload t2_137 rfl rfl).trans ?_
    refine (k_if_eq t2_139 rfl).trans (z_ite (fun g31 => ?_) (fun g31 => ?_))
    · exact (zk_mk (ls' := [z_j, z_j, z_j, z_j, z_j, z_j, z_j, z_j]) t2_151 rfl)
    · refine (k_iload t2_142 rfl rfl).trans ?_
      refine (k_if_eq t2_144 rfl).trans (z_ite (fun g32 => ?_) (fun g32 => ?_))
      · exact (zk_mk (ls' := [z_j, z_j, z_j, z_j, z_j, z_j, z_j, z_j]) t2_151 rfl)
      · refine (k_iconst t2_147 rfl zci_2).trans ?_
        refine (k_goto t2_148 rfl).trans ?_
        refine (zk_mk (ls' := [z_j, z_j, z_j, z_j, z_j, z_j, z_j, z_j]) t2_152 rfl).trans ?_
        refine (k_iast t2_152 rfl hW zK_390 zL_390).trans (z_ite (fun g33 => ?_) (fun _ => rfl))
        refine (k_iconst t2_153 rfl zci_1).trans ?_
        exact k_zretC t2_154 rfl (by decide) (by decide)
theorem b2_151_eq (d : Nat) (s0 : Int32) (S : z_S) (hW : z_W S)  : b2_151 d s0 S = (if z_in s0 16 then some ((1 : Int32), sI S 390 (s0).toNatClampNeg (1 : Int32)) else none) := by
  unfold b2_151
  refine (k_iconst t2_151 rfl zci_1).trans ?_
  refine (zk_mk (ls' := [z_j, z_j, z_j, z_j, z_j, z_j, z_j, z_j]) t2_152 rfl).trans ?_
  refine (k_iast t2_152 rfl hW zK_390 zL_390).trans (z_ite (fun g34 => ?_) (fun _ => rfl))
  refine (k_iconst t2_153 rfl zci_1).trans ?_
  exact k_zretC t2_154 rfl (by decide) (by decide)
-- X0_findsBed
theorem e2 (d : Nat) (p1 : Nat) (x2 : Int32) (x3 : Int32) (S : z_S) (hW : z_W S) (hp1 : z_K p1 = 6) : fI (d + 1) 2 [.ref 387, .ref p1, .int x2, .int x3] S = (if z_in x3 16 then (if ¬ ((x2 >>> ((gI S (p1 + 2) (x3).toNatClampNeg) &&& 31)) &&& (1 : Int32)) = (0 : Int32) then b2_18 d p1 x2 x3 (0 : Int32) S else b2_18 d p1 x2 x3 (1 : Int32) S) else none) := by
  refine (fI_en (Nat.le_of_ble_eq_true rfl) rfl).trans ?_
  refine (k_iload_n t2_0 rfl rfl).trans ?_
  refine (k_aload_n t2_1 rfl rfl).trans ?_
  refine (k_getR t2_2 rfl hW hp1 (by decide) (by decide) (zO_6_10 hW hp1)).trans ?_
  refine (k_iload_n t2_5 rfl rfl).trans ?_
  refine (k_iald t2_6 rfl hW (zOK_6_10 hp1) (zOL_6_10 hp1)).trans (z_ite (fun g1 => ?_) (fun _ => rfl))
  refine (k_ishr t2_7 rfl).trans ?_
  refine (k_iconst t2_8 rfl zci_1).trans ?_
  refine (k_iand t2_9 rfl).trans ?_
  refine (k_if_ne t2_10 rfl).trans (z_ite (fun g2 => ?_) (fun g2 => ?_))
  · refine (k_iconst t2_17 rfl zci_0).trans ?_
    exact (zk_mk (ls' := [.ref 387, .ref p1, .int x2, .int x3, z_j, z_j, z_j, z_j]) t2_18 rfl)
  · refine (k_iconst t2_13 rfl zci_1).trans ?_
    refine (k_goto t2_14 rfl).trans ?_
    exact (zk_mk (ls' := [.ref 387, .ref p1, .int x2, .int x3, z_j, z_j, z_j, z_j]) t2_18 rfl)
theorem t3_0 : z_ft 3 0 = some (.iload_n 1, 1, none, [], 0, 0, 0, 0) := z_ftd (by decide +kernel)
theorem t3_1 : z_ft 3 1 = some (.istore_n 2, 1, none, [], 0, 0, 0, 0) := z_ftd (by decide +kernel)
theorem t3_2 : z_ft 3 2 = some (.iconst 0, 1, none, [], 0, 0, 0, 0) := z_ftd (by decide +kernel)
theorem t3_3 : z_ft 3 3 = some (.istore_n 3, 1, none, [], 0, 0, 0, 0) := z_ftd (by decide +kernel)
theorem t3_4 : z_ft 3 4 = some (.iload_n 3, 1, (some [0, 2, 3]), [], 0, 0, 0, 0) := z_ftd (by decide +kernel)
theorem t3_5 : z_ft 3 5 = some (.bipush 16, 2, none, [], 0, 0, 0, 0) := z_ftd (by decide +kernel)
theorem t3_7 : z_ft 3 7 = some (.if_icmp .ge 26, 3, none, [], 33, 0, 0, 0) := z_ftd (by decide +kernel)
theorem t3_10 : z_ft 3 10 = some (.aload_n 0, 1, none, [], 0, 0, 0, 0) := z_ftd (by decide +kernel)
theorem t3_11 : z_ft 3 11 = some (.getfield 9, 3, none, [], 0, 0, 4, 0) := z_ftd (by decide +kernel)
theorem t3_14 : z_ft 3 14 = some (.iload_n 2, 1, none, [], 0, 0, 0, 0) := z_ftd (by decide +kernel)
theorem t3_15 : z_ft 3 15 = some (.iaload, 1, none, [], 0, 0, 0, 0) := z_ftd (by decide +kernel)
theorem t3_16 : z_ft 3 16 = some (.iload_n 2, 1, none, [], 0, 0, 0, 0) := z_ftd (by decide +kernel)
theorem t3_17 : z_ft 3 17 = some (.if_icmp .eq 16, 3, none, [], 33, 0, 0, 0) := z_ftd (by decide +kernel)
theorem t3_20 : z_ft 3 20 = some (.aload_n 0, 1, none, [], 0, 0, 0, 0) := z_ftd (by decide +kernel)
theorem t3_21 : z_ft 3 21 = some (.getfield 9, 3, none, [], 0, 0, 4, 0) := z_ftd (by decide +kernel)
theorem t3_24 : z_ft 3 24 = some (.iload_n 2, 1, none, [], 0, 0, 0, 0) := z_ftd (by decide +kernel)
theorem t3_25 : z_ft 3 25 = some (.iaload, 1, none, [], 0, 0, 0, 0) := z_ftd (by decide +kernel)
theorem t3_26 : z_ft 3 26 = some (.istore_n 2, 1, none, [], 0, 0, 0, 0) := z_ftd (by decide +kernel)
theorem t3_27 : z_ft 3 27 = some (.iinc 3 1, 3, none, [], 0, 0, 0, 0) := z_ftd (by decide +kernel)
theorem t3_30 : z_ft 3 30 = some (.goto (-26), 3, none, [], 4, 0, 0, 0) := z_ftd (by decide +kernel)
theorem t3_33 : z_ft 3 33 = some (.iload_n 2, 1, (some [2]), [], 0, 0, 0, 0) := z_ftd (by decide +kernel)
theorem t3_34 : z_ft 3 34 = some (.ireturn, 1, none, [], 0, 0, 0, 0) := z_ftd (by decide +kernel)
noncomputable def b3_4 (d : Nat) (y2 : Int32) (y3 : Int32) (S : z_S) : Option (Int32 × z_S) := zk kI z_X0 d 3 4 [.ref 387, z_j, .int y2, .int y3] [] S
theorem b3_4_eq (d : Nat) (y2 : Int32) (y3 : Int32) (S : z_S) (hW : z_W S)  : b3_4 d y2 y3 S = (if (16 : Int32) ≤ y3 then some (y2, S) else (if z_in y2 16 then (if (gI S 388 (y2).toNatClampNeg) = y2 then some (y2, S) else (if z_in y2 16 then b3_4 d (gI S 388 (y2).toNatClampNeg) (y3 + (1 : Int32)) S else none)) else none)) := by
  unfold b3_4
  refine (k_iload_n t3_4 rfl rfl).trans ?_
  refine (k_bipush t3_5 rfl zcb_16).trans ?_
  refine (k_icmp_ge t3_7 rfl).trans (z_ite (fun g1 => ?_) (fun g1 => ?_))
  · refine (zk_mk (ls' := [z_j, z_j, .int y2, z_j]) t3_33 rfl).trans ?_
    refine (k_iload_n t3_33 rfl rfl).trans ?_
    exact k_ireturn t3_34 rfl (by decide)
  · refine (k_aload_n t3_10 rfl rfl).trans ?_
    refine (k_getR t3_11 rfl hW zK_387 (by decide) (by decide) (zF_387_0 hW)).trans ?_
    refine (k_iload_n t3_14 rfl rfl).trans ?_
    refine (k_iald t3_15 rfl hW zK_388 zL_388).trans (z_ite (fun g2 => ?_) (fun _ => rfl))
    refine (k_iload_n t3_16 rfl rfl).trans ?_
    refine (k_icmp_eq t3_17 rfl).trans (z_ite (fun g3 => ?_) (fun g3 => ?_))
    · refine (zk_mk (ls' := [z_j, z_j, .int y2, z_j]) t3_33 rfl).trans ?_
      refine (k_iload_n t3_33 rfl rfl).trans ?_
      exact k_ireturn t3_34 rfl (by decide)
    · refine (k_aload_n t3_20 rfl rfl).trans ?_
      refine (k_getR t3_21 rfl hW zK_387 (by decide) (by decide) (zF_387_0 hW)).trans ?_
      refine (k_iload_n t3_24 rfl rfl).trans ?_
      refine (k_iald t3_25 rfl hW zK_388 zL_388).trans (z_ite (fun g4 => ?_) (fun _ => rfl))
      refine (k_istore_n (ls' := [.ref 387, z_j, .int (gI S 388 (y2).toNatClampNeg), .int y3]) t3_26 rfl rfl).trans ?_
      refine (k_iinc (b := (y3 + (1 : Int32))) (ls' := [.ref 387, z_j, .int (gI S 388 (y2).toNatClampNeg), .int (y3 + (1 : Int32))]) t3_27 rfl rfl (by rw [zci_1]) rfl).trans ?_
      refine (k_goto t3_30 rfl).trans ?_
      exact (zk_mk (ls' := [.ref 387, z_j, .int (gI S 388 (y2).toNatClampNeg), .int (y3 + (1 : Int32))]) t3_4 rfl)
-- X0_rootOf
theorem e3 (d : Nat) (x1 : Int32) (S : z_S) (hW : z_W S)  : fI (d + 1) 3 [.ref 387, .int x1] S = b3_4 d x1 (0 : Int32) S := by
  refine (fI_en (Nat.le_of_ble_eq_true rfl) rfl).trans ?_
  refine (k_iload_n t3_0 rfl rfl).trans ?_
  refine (k_istore_n (ls' := [.ref 387, .int x1, .int x1, z_j]) t3_1 rfl rfl).trans ?_
  refine (k_iconst t3_2 rfl zci_0).trans ?_
  refine (k_istore_n (ls' := [.ref 387, .int x1, .int x1, .int (0 : Int32)]) t3_3 rfl rfl).trans ?_
  exact (zk_mk (ls' := [.ref 387, z_j, .int x1, .int (0 : Int32)]) t3_4 rfl)
theorem t4_0 : z_ft 4 0 = some (.iconst 1, 1, none, [], 0, 0, 0, 0) := z_ftd (by decide +kernel)
theorem t4_1 : z_ft 4 1 = some (.istore_n 2, 1, none, [], 0, 0, 0, 0) := z_ftd (by decide +kernel)
theorem t4_2 : z_ft 4 2 = some (.iconst 0, 1, none, [], 0, 0, 0, 0) := z_ftd (by decide +kernel)
theorem t4_3 : z_ft 4 3 = some (.istore_n 3, 1, none, [], 0, 0, 0, 0) := z_ftd (by decide +kernel)
theorem t4_4 : z_ft 4 4 = some (.iload_n 3, 1, (some [0, 1, 2, 3]), [], 0, 0, 0, 0) := z_ftd (by decide +kernel)
theorem t4_5 : z_ft 4 5 = some (.iload_n 1, 1, none, [], 0, 0, 0, 0) := z_ftd (by decide +kernel)
theorem t4_6 : z_ft 4 6 = some (.if_icmp .ge 46, 3, none, [], 52, 0, 0, 0) := z_ftd (by decide +kernel)
theorem t4_9 : z_ft 4 9 = some (.aload_n 0, 1, none, [], 0, 0, 0, 0) := z_ftd (by decide +kernel)
theorem t4_10 : z_ft 4 10 = some (.getfield 9, 3, none, [], 0, 0, 4, 0) := z_ftd (by decide +kernel)
theorem t4_13 : z_ft 4 13 = some (.iload_n 3, 1, none, [], 0, 0, 0, 0) := z_ftd (by decide +kernel)
theorem t4_14 : z_ft 4 14 = some (.iaload, 1, none, [], 0, 0, 0, 0) := z_ftd (by decide +kernel)
theorem t4_15 : z_ft 4 15 = some (.iload_n 3, 1, none, [], 0, 0, 0, 0) := z_ftd (by decide +kernel)
theorem t4_16 : z_ft 4 16 = some (.if_icmp .ne 30, 3, none, [], 46, 0, 0, 0) := z_ftd (by decide +kernel)
theorem t4_19 : z_ft 4 19 = some (.iload_n 2, 1, none, [], 0, 0, 0, 0) := z_ftd (by decide +kernel)
theorem t4_20 : z_ft 4 20 = some (.aload_n 0, 1, none, [], 0, 0, 0, 0) := z_ftd (by decide +kernel)
theorem t4_21 : z_ft 4 21 = some (.getfield 18, 3, none, [], 0, 2, 6, 0) := z_ftd (by decide +kernel)
theorem t4_24 : z_ft 4 24 = some (.iload_n 3, 1, none, [], 0, 0, 0, 0) := z_ftd (by decide +kernel)
theorem t4_25 : z_ft 4 25 = some (.iaload, 1, none, [], 0, 0, 0, 0) := z_ftd (by decide +kernel)
theorem t4_26 : z_ft 4 26 = some (.ifCond .ne 12, 3, none, [], 38, 0, 0, 0) := z_ftd (by decide +kernel)
theorem t4_29 : z_ft 4 29 = some (.aload_n 0, 1, none, [], 0, 0, 0, 0) := z_ftd (by decide +kernel)
theorem t4_30 : z_ft 4 30 = some (.getfield 15, 3, none, [], 0, 1, 5, 0) := z_ftd (by decide +kernel)
theorem t4_33 : z_ft 4 33 = some (.iload_n 3, 1, none, [], 0, 0, 0, 0) := z_ftd (by decide +kernel)
theorem t4_34 : z_ft 4 34 = some (.iaload, 1, none, [], 0, 0, 0, 0) := z_ftd (by decide +kernel)
theorem t4_35 : z_ft 4 35 = some (.goto 9, 3, none, [], 44, 0, 0, 0) := z_ftd (by decide +kernel)
theorem t4_38 : z_ft 4 38 = some (.aload_n 0, 1, none, [], 0, 0, 0, 0) := z_ftd (by decide +kernel)
theorem t4_39 : z_ft 4 39 = some (.getfield 18, 3, none, [], 0, 2, 6, 0) := z_ftd (by decide +kernel)
theorem t4_42 : z_ft 4 42 = some (.iload_n 3, 1, none, [], 0, 0, 0, 0) := z_ftd (by decide +kernel)
theorem t4_43 : z_ft 4 43 = some (.iaload, 1, none, [], 0, 0, 0, 0) := z_ftd (by decide +kernel)
theorem t4_44 : z_ft 4 44 = some (.imul, 1, (some [0, 1, 3]), [], 0, 0, 0, 0) := z_ftd (by decide +kernel)
theorem t4_45 : z_ft 4 45 = some (.istore_n 2, 1, none, [], 0, 0, 0, 0) := z_ftd (by decide +kernel)
theorem t4_46 : z_ft 4 46 = some (.iinc 3 1, 3, (some [0, 1, 2, 3]), [], 0, 0, 0, 0) := z_ftd (by decide +kernel)
theorem t4_49 : z_ft 4 49 = some (.goto (-45), 3, none, [], 4, 0, 0, 0) := z_ftd (by decide +kernel)
theorem t4_52 : z_ft 4 52 = some (.iload_n 2, 1, none, [], 0, 0, 0, 0) := z_ftd (by decide +kernel)
theorem t4_53 : z_ft 4 53 = some (.ireturn, 1, none, [], 0, 0, 0, 0) := z_ftd (by decide +kernel)
noncomputable def b4_4 (d : Nat) (y1 : Int32) (y2 : Int32) (y3 : Int32) (S : z_S) : Option (Int32 × z_S) := zk kI z_X0 d 4 4 [.ref 387, .int y1, .int y2, .int y3] [] S
noncomputable def b4_46 (d : Nat) (y1 : Int32) (y2 : Int32) (y3 : Int32) (S : z_S) : Option (Int32 × z_S) := zk kI z_X0 d 4 46 [.ref 387, .int y1, .int y2, .int y3] [] S
noncomputable def b4_44 (d : Nat) (y1 : Int32) (y3 : Int32) (s0 : Int32) (s1 : Int32) (S : z_S) : Option (Int32 × z_S) := zk kI z_X0 d 4 44 [.ref 387, .int y1, z_j, .int y3] [.int s0, .int s1] S
theorem b4_4_eq (d : Nat) (y1 : Int32) (y2 : Int32) (y3 : Int32) (S : z_S) (hW : z_W S)  : b4_4 d y1 y2 y3 S = (if y1 ≤ y3 then some (y2, S) else (if z_in y3 16 then (if ¬ (gI S 388 (y3).toNatClampNeg) = y3 then b4_46 d y1 y2 y3 S else (if z_in y3 16 then (if ¬ (gI S 390 (y3).toNatClampNeg) = (0 : Int32) then (if z_in y3 16 then b4_44 d y1 y3 (gI S 390 (y3).toNatClampNeg) y2 S else none) else (if z_in y3 16 then b4_44 d y1 y3 (gI S 389 (y3).toNatClampNeg) y2 S else none)) else none)) else none)) := by
  unfold b4_4
  refine (k_iload_n t4_4 rfl rfl).trans ?_
  refine (k_iload_n t4_5 rfl rfl).trans ?_
  refine (k_icmp_ge t4_6 rfl).trans (z_ite (fun g1 => ?_) (fun g1 => ?_))
  · refine (k_iload_n t4_52 rfl rfl).trans ?_
    exact k_ireturn t4_53 rfl (by decide)
  · refine (k_aload_n t4_9 rfl rfl).trans ?_
    refine (k_getR t4_10 rfl hW zK_387 (by decide) (by decide) (zF_387_0 hW)).trans ?_
    refine (k_iload_n t4_13 rfl rfl).trans ?_
    refine (k_iald t4_14 rfl hW zK_388 zL_388).trans (z_ite (fun g2 => ?_) (fun _ => rfl))
    refine (k_iload_n t4_15 rfl rfl).trans ?_
    refine (k_icmp_ne t4_16 rfl).trans (z_ite (fun g3 => ?_) (fun g3 => ?_))
    · exact (zk_mk (ls' := [.ref 387, .int y1, .int y2, .int y3]) t4_46 rfl)
    · refine (k_iload_n t4_19 rfl rfl).trans ?_
      refine (k_aload_n t4_20 rfl rfl).trans ?_
      refine (k_getR t4_21 rfl hW zK_387 (by decide) (by decide) (zF_387_2 hW)).trans ?_
      refine (k_iload_n t4_24 rfl rfl).trans ?_
      refine (k_iald t4_25 rfl hW zK_390 zL_390).trans (z_ite (fun g4 => ?_) (fun _ => rfl))
      refine (k_if_ne t4_26 rfl).trans (z_ite (fun g5 => ?_) (fun g5 => ?_))
      · refine (k_aload_n t4_38 rfl rfl).trans ?_
        refine (k_getR t4_39 rfl hW zK_387 (by decide) (by decide) (zF_387_2 hW)).trans ?_
        refine (k_iload_n t4_42 rfl rfl).trans ?_
        refine (k_iald t4_43 rfl hW zK_390 zL_390).trans (z_ite (fun g6 => ?_) (fun _ => rfl))
        exact (zk_mk (ls' := [.ref 387, .int y1, z_j, .int y3]) t4_44 rfl)
      · refine (k_aload_n t4_29 rfl rfl).trans ?_
        refine (k_getR t4_30 rfl hW zK_387 (by decide) (by decide) (zF_387_1 hW)).trans ?_
        refine (k_iload_n t4_33 rfl rfl).trans ?_
        refine (k_iald t4_34 rfl hW zK_389 zL_389).trans (z_ite (fun g7 => ?_) (fun _ => rfl))
        refine (k_goto t4_35 rfl).trans ?_
        exact (zk_mk (ls' := [.ref 387, .int y1, z_j, .int y3]) t4_44 rfl)
theorem b4_46_eq (d : Nat) (y1 : Int32) (y2 : Int32) (y3 : Int32) (S : z_S) (hW : z_W S)  : b4_46 d y1 y2 y3 S = b4_4 d y1 y2 (y3 + (1 : Int32)) S := by
  unfold b4_46
  refine (k_iinc (b := (y3 + (1 : Int32))) (ls' := [.ref 387, .int y1, .int y2, .int (y3 + (1 : Int32))]) t4_46 rfl rfl (by rw [zci_1]) rfl).trans ?_
  refine (k_goto t4_49 rfl).trans ?_
  exact (zk_mk (ls' := [.ref 387, .int y1, .int y2, .int (y3 + (1 : Int32))]) t4_4 rfl)
theorem b4_44_eq (d : Nat) (y1 : Int32) (y3 : Int32) (s0 : Int32) (s1 : Int32) (S : z_S) (hW : z_W S)  : b4_44 d y1 y3 s0 s1 S = b4_46 d y1 (s1 * s0) y3 S := by
  unfold b4_44
  refine (k_imul t4_44 rfl).trans ?_
  refine (k_istore_n (ls' := [.ref 387, .int y1, .int (s1 * s0), .int y3]) t4_45 rfl rfl).trans ?_
  exact (zk_mk (ls' := [.ref 387, .int y1, .int (s1 * s0), .int y3]) t4_46 rfl)
-- X0_countWays
theorem e4 (d : Nat) (x1 : Int32) (S : z_S) (hW : z_W S)  : fI (d + 1) 4 [.ref 387, .int x1] S = b4_4 d x1 (1 : Int32) (0 : Int32) S := by
  refine (fI_en (Nat.le_of_ble_eq_true rfl) rfl).trans ?_
  refine (k_iconst t4_0 rfl zci_1).trans ?_
  refine (k_istore_n (ls' := [.ref 387, .int x1, .int (1 : Int32), z_j]) t4_1 rfl rfl).trans ?_
  refine (k_iconst t4_2 rfl zci_0).trans ?_
  refine (k_istore_n (ls' := [.ref 387, .int x1, .int (1 : Int32), .int (0 : Int32)]) t4_3 rfl rfl).trans ?_
  exact (zk_mk (ls' := [.ref 387, .int x1, .int (1 : Int32), .int (0 : Int32)]) t4_4 rfl)
theorem t5_0 : z_ft 5 0 = some (.iconst 1, 1, none, [], 0, 0, 0, 0) := z_ftd (by decide +kernel)
theorem t5_1 : z_ft 5 1 = some (.aload_n 1, 1, none, [], 0, 0, 0, 0) := z_ftd (by decide +kernel)
theorem t5_2 : z_ft 5 2 = some (.getfield 31, 3, none, [], 6, 6, 0, 0) := z_ftd (by decide +kernel)
theorem t5_5 : z_ft 5 5 = some (.ishl, 1, none, [], 0, 0, 0, 0) := z_ftd (by decide +kernel)
theorem t5_6 : z_ft 5 6 = some (.iconst 1, 1, none, [], 0, 0, 0, 0) := z_ftd (by decide +kernel)
theorem t5_7 : z_ft 5 7 = some (.isub, 1, none, [], 0, 0, 0, 0) := z_ftd (by decide +kernel)
theorem t5_8 : z_ft 5 8 = some (.istore_n 3, 1, none, [], 0, 0, 0, 0) := z_ftd (by decide +kernel)
theorem t5_9 : z_ft 5 9 = some (.aload_n 0, 1, none, [], 0, 0, 0, 0) := z_ftd (by decide +kernel)
theorem t5_10 : z_ft 5 10 = some (.aload_n 1, 1, none, [], 0, 0, 0, 0) := z_ftd (by decide +kernel)
theorem t5_11 : z_ft 5 11 = some (.iload_n 2, 1, none, [], 0, 0, 0, 0) := z_ftd (by decide +kernel)
theorem t5_12 : z_ft 5 12 = some (.iload_n 3, 1, none, [], 0, 0, 0, 0) := z_ftd (by decide +kernel)
theorem t5_13 : z_ft 5 13 = some (.invokevirtual 56, 3, none, [], 1, 0, 13, 0) := z_ftd (by decide +kernel)
theorem t5_16 : z_ft 5 16 = some (.invokestatic 60, 3, none, [], 274, 0, 14, 0) := z_ftd (by decide +kernel)
theorem t5_19 : z_ft 5 19 = some (.istore 4, 2, none, [], 0, 0, 0, 0) := z_ftd (by decide +kernel)
theorem t5_21 : z_ft 5 21 = some (.iload 4, 2, none, [], 0, 0, 0, 0) := z_ftd (by decide +kernel)
theorem t5_23 : z_ft 5 23 = some (.ifCond .ne 5, 3, none, [], 28, 0, 0, 0) := z_ftd (by decide +kernel)
theorem t5_26 : z_ft 5 26 = some (.iconst (-1), 1, none, [], 0, 0, 0, 0) := z_ftd (by decide +kernel)
theorem t5_27 : z_ft 5 27 = some (.ireturn, 1, none, [], 0, 0, 0, 0) := z_ftd (by decide +kernel)
theorem t5_28 : z_ft 5 28 = some (.aload_n 0, 1, none, [], 0, 0, 0, 0) := z_ftd (by decide +kernel)
theorem t5_29 : z_ft 5 29 = some (.iconst 0, 1, none, [], 0, 0, 0, 0) := z_ftd (by decide +kernel)
theorem t5_30 : z_ft 5 30 = some (.putfield 27, 3, none, [], 0, 5, 9, 0) := z_ftd (by decide +kernel)
theorem t5_33 : z_ft 5 33 = some (.iconst 0, 1, none, [], 0, 0, 0, 0) := z_ftd (by decide +kernel)
theorem t5_34 : z_ft 5 34 = some (.istore 5, 2, none, [], 0, 0, 0, 0) := z_ftd (by decide +kernel)
theorem t5_36 : z_ft 5 36 = some (.iconst 0, 1, none, [], 0, 0, 0, 0) := z_ftd (by decide +kernel)
theorem t5_37 : z_ft 5 37 = some (.istore 6, 2, none, [], 0, 0, 0, 0) := z_ftd (by decide +kernel)
theorem t5_39 : z_ft 5 39 = some (.iload 6, 2, (some [0, 1, 2, 3, 4, 5, 6]), [], 0, 0, 0, 0) := z_ftd (by decide +kernel)
theorem t5_41 : z_ft 5 41 = some (.aload_n 1, 1, none, [], 0, 0, 0, 0) := z_ftd (by decide +kernel)
theorem t5_42 : z_ft 5 42 = some (.getfield 31, 3, none, [], 6, 6, 0, 0) := z_ftd (by decide +kernel)
theorem t5_45 : z_ft 5 45 = some (.if_icmp .ge 79, 3, none, [], 124, 0, 0, 0) := z_ftd (by decide +kernel)
theorem t5_48 : z_ft 5 48 = some (.aload_n 0, 1, none, [], 0, 0, 0, 0) := z_ftd (by decide +kernel)
theorem t5_49 : z_ft 5 49 = some (.getfield 21, 3, none, [], 0, 3, 7, 0) := z_ftd (by decide +kernel)
theorem t5_52 : z_ft 5 52 = some (.iload 6, 2, none, [], 0, 0, 0, 0) := z_ftd (by decide +kernel)
theorem t5_54 : z_ft 5 54 = some (.aload_n 1, 1, none, [], 0, 0, 0, 0) := z_ftd (by decide +kernel)
theorem t5_55 : z_ft 5 55 = some (.iload 6, 2, none, [], 0, 0, 0, 0) := z_ftd (by decide +kernel)
theorem t5_57 : z_ft 5 57 = some (.iload_n 2, 1, none, [], 0, 0, 0, 0) := z_ftd (by decide +kernel)
theorem t5_58 : z_ft 5 58 = some (.invokevirtual 65, 3, none, [], 62, 0, 15, 0) := z_ftd (by decide +kernel)
theorem t5_61 : z_ft 5 61 = some (.iastore, 1, none, [], 0, 0, 0, 0) := z_ftd (by decide +kernel)
theorem t5_62 : z_ft 5 62 = some (.aload_n 0, 1, none, [], 0, 0, 0, 0) := z_ftd (by decide +kernel)
theorem t5_63 : z_ft 5 63 = some (.getfield 24, 3, none, [], 0, 4, 8, 0) := z_ftd (by decide +kernel)
theorem t5_66 : z_ft 5 66 = some (.iload 6, 2, none, [], 0, 0, 0, 0) := z_ftd (by decide +kernel)
theorem t5_68 : z_ft 5 68 = some (.iload 5, 2, none, [], 0, 0, 0, 0) := z_ftd (by decide +kernel)
theorem t5_70 : z_ft 5 70 = some (.iastore, 1, none, [], 0, 0, 0, 0) := z_ftd (by decide +kernel)
theorem t5_71 : z_ft 5 71 = some (.aload_n 0, 1, none, [], 0, 0, 0, 0) := z_ftd (by decide +kernel)
theorem t5_72 : z_ft 5 72 = some (.aload_n 1, 1, none, [], 0, 0, 0, 0) := z_ftd (by decide +kernel)
theorem t5_73 : z_ft 5 73 = some (.iload_n 2, 1, none, [], 0, 0, 0, 0) := z_ftd (by decide +kernel)
theorem t5_74 : z_ft 5 74 = some (.iload_n 3, 1, none, [], 0, 0, 0, 0) := z_ftd (by decide +kernel)
theorem t5_75 : z_ft 5 75 = some (.iconst 1, 1, none, [], 0, 0, 0, 0) := z_ftd (by decide +kernel)
theorem t5_76 : z_ft 5 76 = some (.iload 6, 2, none, [], 0, 0, 0, 0) := z_ftd (by decide +kernel)
theorem t5_78 : z_ft 5 78 = some (.ishl, 1, none, [], 0, 0, 0, 0) := z_ftd (by decide +kernel)
theorem t5_79 : z_ft 5 79 = some (.iconst (-1), 1, none, [], 0, 0, 0, 0) := z_ftd (by decide +kernel)
theorem t5_80 : z_ft 5 80 = some (.ixor, 1, none, [], 0, 0, 0, 0) := z_ftd (by decide +kernel)
theorem t5_81 : z_ft 5 81 = some (.iand, 1, none, [], 0, 0, 0, 0) := z_ftd (by decide +kernel)
theorem t5_82 : z_ft 5 82 = some (.invokevirtual 56, 3, none, [], 1, 0, 13, 0) := z_ftd (by decide +kernel)
theorem t5_85 : z_ft 5 85 = some (.invokestatic 60, 3, none, [], 274, 0, 14, 0) := z_ftd (by decide +kernel)
theorem t5_88 : z_ft 5 88 = some (.iload 4, 2, none, [], 0, 0, 0, 0) := z_ftd (by decide +kernel)
theorem t5_90 : z_ft 5 90 = some (.if_icmp .ge 28, 3, none, [], 118, 0, 0, 0) := z_ftd (by decide +kernel)
theorem t5_93 : z_ft 5 93 = some (.aload_n 0, 1, none, [], 0, 0, 0, 0) := z_ftd (by decide +kernel)
theorem t5_94 : z_ft 5 94 = some (.dup, 1, none, [], 0, 0, 0, 0) := z_ftd (by decide +kernel)
theorem t5_95 : z_ft 5 95 = some (.getfield 27, 3, none, [], 0, 5, 9, 0) := z_ftd (by decide +kernel)
theorem t5_98 : z_ft 5 98 = some (.iconst 1, 1, none, [], 0, 0, 0, 0) := z_ftd (by decide +kernel)
theorem t5_99 : z_ft 5 99 = some (.iload 6, 2, none, [], 0, 0, 0, 0) := z_ftd (by decide +kernel)
theorem t5_101 : z_ft 5 101 = some (.ishl, 1, none, [], 0, 0, 0, 0) := z_ftd (by decide +kernel)
theorem t5_102 : z_ft 5 102 = some (.ior, 1, none, [], 0, 0, 0, 0) := z_ftd (by decide +kernel)
theorem t5_103 : z_ft 5 103 = some (.putfield 27, 3, none, [], 0, 5, 9, 0) := z_ftd (by decide +kernel)
theorem t5_106 : z_ft 5 106 = some (.iload 5, 2, none, [], 0, 0, 0, 0) := z_ftd (by decide +kernel)
theorem t5_108 : z_ft 5 108 = some (.aload_n 0, 1, none, [], 0, 0, 0, 0) := z_ftd (by decide +kernel)
theorem t5_109 : z_ft 5 109 = some (.getfield 21, 3, none, [], 0, 3, 7, 0) := z_ftd (by decide +kernel)
theorem t5_112 : z_ft 5 112 = some (.iload 6, 2, none, [], 0, 0, 0, 0) := z_ftd (by decide +kernel)
theorem t5_114 : z_ft 5 114 = some (.iaload, 1, none, [], 0, 0, 0, 0) := z_ftd (by decide +kernel)
theorem t5_115 : z_ft 5 115 = some (.ior, 1, none, [], 0, 0, 0, 0) := z_ftd (by decide +kernel)
theorem t5_116 : z_ft 5 116 = some (.istore 5, 2, none, [], 0, 0, 0, 0) := z_ftd (by decide +kernel)
theorem t5_118 : z_ft 5 118 = some (.iinc 6 1, 3, (some [0, 1, 2, 3, 4, 5, 6]), [], 0, 0, 0, 0) := z_ftd (by decide +kernel)
theorem t5_121 : z_ft 5 121 = some (.goto (-82), 3, none, [], 39, 0, 0, 0) := z_ftd (by decide +kernel)
theorem t5_124 : z_ft 5 124 = some (.iload 4, 2, none, [], 0, 0, 0, 0) := z_ftd (by decide +kernel)
theorem t5_126 : z_ft 5 126 = some (.iconst 1, 1, none, [], 0, 0, 0, 0) := z_ftd (by decide +kernel)
theorem t5_127 : z_ft 5 127 = some (.if_icmp .ne 8, 3, none, [], 135, 0, 0, 0) := z_ftd (by decide +kernel)
theorem t5_130 : z_ft 5 130 = some (.aload_n 0, 1, none, [], 0, 0, 0, 0) := z_ftd (by decide +kernel)
theorem t5_131 : z_ft 5 131 = some (.getfield 27, 3, none, [], 0, 5, 9, 0) := z_ftd (by decide +kernel)
theorem t5_134 : z_ft 5 134 = some (.ireturn, 1, none, [], 0, 0, 0, 0) := z_ftd (by decide +kernel)
theorem t5_135 : z_ft 5 135 = some (.iconst (-1), 1, none, [], 0, 0, 0, 0) := z_ftd (by decide +kernel)
theorem t5_136 : z_ft 5 136 = some (.istore 6, 2, none, [], 0, 0, 0, 0) := z_ftd (by decide +kernel)
theorem t5_138 : z_ft 5 138 = some (.iconst 1, 1, none, [], 0, 0, 0, 0) := z_ftd (by decide +kernel)
theorem t5_139 : z_ft 5 139 = some (.istore 7, 2, none, [], 0, 0, 0, 0) := z_ftd (by decide +kernel)
theorem t5_141 : z_ft 5 141 = some (.iload 7, 2, (some [0, 1, 6, 7]), [], 0, 0, 0, 0) := z_ftd (by decide +kernel)
theorem t5_143 : z_ft 5 143 = some (.aload_n 1, 1, none, [], 0, 0, 0, 0) := z_ftd (by decide +kernel)
theorem t5_144 : z_ft 5 144 = some (.getfield 31, 3, none, [], 6, 6, 0, 0) := z_ftd (by decide +kernel)
theorem t5_147 : z_ft 5 147 = some (.if_icmp .gt 32, 3, none, [], 179, 0, 0, 0) := z_ftd (by decide +kernel)
theorem t5_150 : z_ft 5 150 = some (.iload 6, 2, none, [], 0, 0, 0, 0) := z_ftd (by decide +kernel)
theorem t5_152 : z_ft 5 152 = some (.iconst (-1), 1, none, [], 0, 0, 0, 0) := z_ftd (by decide +kernel)
theorem t5_153 : z_ft 5 153 = some (.if_icmp .ne 26, 3, none, [], 179, 0, 0, 0) := z_ftd (by decide +kernel)
theorem t5_156 : z_ft 5 156 = some (.aload_n 0, 1, none, [], 0, 0, 0, 0) := z_ftd (by decide +kernel)
theorem t5_157 : z_ft 5 157 = some (.iload 7, 2, none, [], 0, 0, 0, 0) := z_ftd (by decide +kernel)
theorem t5_159 : z_ft 5 159 = some (.iload 7, 2, none, [], 0, 0, 0, 0) := z_ftd (by decide +kernel)
theorem t5_161 : z_ft 5 161 = some (.aload_n 1, 1, none, [], 0, 0, 0, 0) := z_ftd (by decide +kernel)
theorem t5_162 : z_ft 5 162 = some (.getfield 31, 3, none, [], 6, 6, 0, 0) := z_ftd (by decide +kernel)
theorem t5_165 : z_ft 5 165 = some (.iconst 0, 1, none, [], 0, 0, 0, 0) := z_ftd (by decide +kernel)
theorem t5_166 : z_ft 5 166 = some (.iconst 0, 1, none, [], 0, 0, 0, 0) := z_ftd (by decide +kernel)
theorem t5_167 : z_ft 5 167 = some (.iconst 0, 1, none, [], 0, 0, 0, 0) := z_ftd (by decide +kernel)
theorem t5_168 : z_ft 5 168 = some (.invokevirtual 68, 3, none, [], 6, 0, 16, 0) := z_ftd (by decide +kernel)
theorem t5_171 : z_ft 5 171 = some (.istore 6, 2, none, [], 0, 0, 0, 0) := z_ftd (by decide +kernel)
theorem t5_173 : z_ft 5 173 = some (.iinc 7 1, 3, none, [], 0, 0, 0, 0) := z_ftd (by decide +kernel)
theorem t5_176 : z_ft 5 176 = some (.goto (-35), 3, none, [], 141, 0, 0, 0) := z_ftd (by decide +kernel)
theorem t5_179 : z_ft 5 179 = some (.iload 6, 2, (some [6]), [], 0, 0, 0, 0) := z_ftd (by decide +kernel)
theorem t5_181 : z_ft 5 181 = some (.ireturn, 1, none, [], 0, 0, 0, 0) := z_ftd (by decide +kernel)
noncomputable def b5_39 (d : Nat) (y1 : Nat) (y2 : Int32) (y3 : Int32) (y4 : Int32) (y5 : Int32) (y6 : Int32) (S : z_S) : Option (Int32 × z_S) := zk kI z_X0 d 5 39 [.ref 387, .ref y1, .int y2, .int y3, .int y4, .int y5, .int y6, z_j] [] S
noncomputable def b5_141 (d : Nat) (y1 : Nat) (y6 : Int32) (y7 : Int32) (S : z_S) : Option (Int32 × z_S) := zk kI z_X0 d 5 141 [.ref 387, .ref y1, z_j, z_j, z_j, z_j, .int y6, .int y7] [] S
noncomputable def b5_118 (d : Nat) (y1 : Nat) (y2 : Int32) (y3 : Int32) (y4 : Int32) (y5 : Int32) (y6 : Int32) (S : z_S) : Option (Int32 × z_S) := zk kI z_X0 d 5 118 [.ref 387, .ref y1, .int y2, .int y3, .int y4, .int y5, .int y6, z_j] [] S
theorem b5_39_eq (d : Nat) (y1 : Nat) (y2 : Int32) (y3 : Int32) (y4 : Int32) (y5 : Int32) (y6 : Int32) (S : z_S) (hW : z_W S) (hy1 : z_K y1 = 6) : b5_39 d y1 y2 y3 y4 y5 y6 S = (if (gI S y1 6) ≤ y6 then (if ¬ y4 = (1 : Int32) then b5_141 d y1 (-1 : Int32) (1 : Int32) S else some ((gI S 387 5), S)) else (zb (fI d 62 [.ref y1, .int y6, .int y2] S) fun v8 S9 => (if z_in y6 16 then (if z_in y6 16 then (zb (fI d 1 [.ref 387, .ref y1, .int y2, .int (y3 &&& (((1 : Int32) <<< (y6 &&& 31)) ^^^ (-1 : Int32)))] (sI (sI S9 391 (y6).toNatClampNeg v8) 392 (y6).toNatClampNeg y5)) fun v12 S13 => (zb (fI d 274 [.int v12] S13) fun v14 S15 => (if y4 ≤ v14 then b5_118 d y1 y2 y3 y4 y5 y6 S15 else (if z_in y6 16 then b5_118 d y1 y2 y3 y4 (y5 ||| (gI (sI S15 387 5 ((gI S15 387 5) ||| ((1 : Int32) <<< (y6 &&& 31)))) 391 (y6).toNatClampNeg)) y6 (sI S15 387 5 ((gI S15 387 5) ||| ((1 : Int32) <<< (y6 &&& 31)))) else none)))) else none) else none))) := by
  unfold b5_39
  refine (k_iload t5_39 rfl rfl).trans ?_
  refine (k_aload_n t5_41 rfl rfl).trans ?_
  refine (k_getI t5_42 rfl hW hy1 (by decide) (by decide)).trans ?_
  refine (k_icmp_ge t5_45 rfl).trans (z_ite (fun g6 => ?_) (fun g6 => ?_))
  · refine (k_iload t5_124 rfl rfl).trans ?_
    refine (k_iconst t5_126 rfl zci_1).trans ?_
    refine (k_icmp_ne t5_127 rfl).trans (z_ite (fun g7 => ?_) (fun g7 => ?_))
    · refine (k_iconst t5_135 rfl zci_m1).trans ?_
      refine (k_istore (ls' := [.ref 387, .ref y1, .int y2, .int y3, .int y4, .int y5, .int (-1 : Int32), z_j]) t5_136 rfl rfl).trans ?_
      refine (k_iconst t5_138 rfl zci_1).trans ?_
      refine (k_istore (ls' := [.ref 387, .ref y1, .int y2, .int y3, .int y4, .int y5, .int (-1 : Int32), .int (1 : Int32)]) t5_139 rfl rfl).trans ?_
      exact (zk_mk (ls' := [.ref 387, .ref y1, z_j, z_j, z_j, z_j, .int (-1 : Int32), .int (1 : Int32)]) t5_141 rfl)
    · refine (k_aload_n t5_130 rfl rfl).trans ?_
      refine (k_getI t5_131 rfl hW zK_387 (by decide) (by decide)).trans ?_
      exact k_ireturn t5_134 rfl (by decide)
  · refine (k_aload_n t5_48 rfl rfl).trans ?_
    refine (k_getR t5_49 rfl hW zK_387 (by decide) (by decide) (zF_387_3 hW)).trans ?_
    refine (k_iload t5_52 rfl rfl).trans ?_
    refine (k_aload_n t5_54 rfl rfl).trans ?_
    refine (k_iload t5_55 rfl rfl).trans ?_
    refine (k_iload_n t5_57 rfl rfl).trans ?_
    refine k_callI (as := [.ref y1, .int y6, .int y2]) (rest := [.int y6, .ref 391]) t5_58 rfl rfl (by decide) rfl rfl (Nat.le_of_ble_eq_true rfl) rfl (z_rcV hW (hy1) (by decide)) (by decide) (Or.inl (by decide)) hW (fun v8 S9 hW9 => ?_)
    refine (k_iast t5_61 rfl hW9 zK_391 zL_391).trans (z_ite (fun g10 => ?_) (fun _ => rfl))
    refine (k_aload_n t5_62 rfl rfl).trans ?_
    refine (k_getR t5_63 rfl hW9.sI zK_387 (by decide) (by decide) (zF_387_4 hW9.sI)).trans ?_
    refine (k_iload t5_66 rfl rfl).trans ?_
    refine (k_iload t5_68 rfl rfl).trans ?_
    refine (k_iast t5_70 rfl hW9.sI zK_392 zL_392).trans (z_ite (fun g11 => ?_) (fun _ => rfl))
    refine (k_aload_n t5_71 rfl rfl).trans ?_
    refine (k_aload_n t5_72 rfl rfl).trans ?_
    refine (k_iload_n t5_73 rfl rfl).trans ?_
    refine (k_iload_n t5_74 rfl rfl).trans ?_
    refine (k_iconst t5_75 rfl zci_1).trans ?_
    refine (k_iload t5_76 rfl rfl).trans ?_
    refine (k_ishl t5_78 rfl).trans ?_
    refine (k_iconst t5_79 rfl zci_m1).trans ?_
    refine (k_ixor t5_80 rfl).trans ?_
    refine (k_iand t5_81 rfl).trans ?_
    refine k_callI (as := [.ref 387, .ref y1, .int y2, .int (y3 &&& (((1 : Int32) <<< (y6 &&& 31)) ^^^ (-1 : Int32)))]) (rest := []) t5_82 rfl rfl (by decide) rfl rfl (Nat.le_of_ble_eq_true rfl) rfl (z_rcV hW9.sI.sI (zK_387) (by decide)) (by decide) (Or.inl (by decide)) hW9.sI.sI (fun v12 S13 hW13 => ?_)
    refine k_callI (as := [.int v12]) (rest := []) t5_85 rfl rfl (by decide) rfl rfl (Nat.le_of_ble_eq_true rfl) rfl (z_rcS (by decide)) (by decide) (Or.inl (by decide)) hW13 (fun v14 S15 hW15 => ?_)
    refine (k_iload t5_88 rfl rfl).trans ?_
    refine (k_icmp_ge t5_90 rfl).trans (z_ite (fun g16 => ?_) (fun g16 => ?_))
    · exact (zk_mk (ls' := [.ref 387, .ref y1, .int y2, .int y3, .int y4, .int y5, .int y6, z_j]) t5_118 rfl)
    · refine (k_aload_n t5_93 rfl rfl).trans ?_
      refine (k_dupR t5_94 rfl).trans ?_
      refine (k_getI t5_95 rfl hW15 zK_387 (by decide) (by decide)).trans ?_
      refine (k_iconst t5_98 rfl zci_1).trans ?_
      refine (k_iload t5_99 rfl rfl).trans ?_
      refine (k_ishl t5_101 rfl).trans ?_
      refine (k_ior t5_102 rfl).trans ?_
      refine (k_putI t5_103 rfl hW15 zK_387 (by decide) (by decide) (by decide)).trans ?_
      refine (k_iload t5_106 rfl rfl).trans ?_
      refine (k_aload_n t5_108 rfl rfl).trans ?_
      refine (k_getR t5_109 rfl hW15.sI zK_387 (by decide) (by decide) (zF_387_3 hW15.sI)).trans ?_
      refine (k_iload t5_112 rfl rfl).trans ?_
      refine (k_iald t5_114 rfl hW15.sI zK_391 zL_391).trans (z_ite (fun g17 => ?_) (fun _ => rfl))
      refine (k_ior t5_115 rfl).trans ?_
      refine (k_istore (ls' := [.ref 387, .ref y1, .int y2, .int y3, .int y4, .int (y5 ||| (gI (sI S15 387 5 ((gI S15 387 5) ||| ((1 : Int32) <<< (y6 &&& 31)))) 391 (y6).toNatClampNeg)), .int y6, z_j]) t5_116 rfl rfl).trans ?_
      exact (zk_mk (ls' := [.ref 387, .ref y1, .int y2, .int y3, .int y4, .int (y5 ||| (gI (sI S15 387 5 ((gI S15 387 5) ||| ((1 : Int32) <<< (y6 &&& 31)))) 391 (y6).toNatClampNeg)), .int y6, z_j]) t5_118 rfl)
theorem b5_141_eq (d : Nat) (y1 : Nat) (y6 : Int32) (y7 : Int32) (S : z_S) (hW : z_W S) (hy1 : z_K y1 = 6) : b5_141 d y1 y6 y7 S = (if (gI S y1 6) < y7 then some (y6, S) else (if ¬ y6 = (-1 : Int32) then some (y6, S) else (zb (fI d 6 [.ref 387, .int y7, .int y7, .int (gI S y1 6), .int (0 : Int32), .int (0 : Int32), .int (0 : Int32)] S) fun v20 S21 => b5_141 d y1 v20 (y7 + (1 : Int32)) S21))) := by
  unfold b5_141
  refine (k_iload t5_141 rfl rfl).trans ?_
  refine (k_aload_n t5_143 rfl rfl).trans ?_
  refine (k_getI t5_144 rfl hW hy1 (by decide) (by decide)).trans ?_
  refine (k_icmp_gt t5_147 rfl).trans (z_ite (fun g18 => ?_) (fun g18 => ?_))
  · refine (zk_mk (ls' := [z_j, z_j, z_j, z_j, z_j, z_j, .int y6, z_j]) t5_179 rfl).trans ?_
    refine (k_iload t5_179 rfl rfl).trans ?_
    exact k_ireturn t5_181 rfl (by decide)
  · refine (k_iload t5_150 rfl rfl).trans ?_
    refine (k_iconst t5_152 rfl zci_m1).trans ?_
    refine (k_icmp_ne t5_153 rfl).trans (z_ite (fun g19 => ?_) (fun g19 => ?_))
    · refine (zk_mk (ls' := [z_j, z_j, z_j, z_j, z_j, z_j, .int y6, z_j]) t5_179 rfl).trans ?_
      refine (k_iload t5_179 rfl rfl).trans ?_
      exact k_ireturn t5_181 rfl (by decide)
    · refine (k_aload_n t5_156 rfl rfl).trans ?_
      refine (k_iload t5_157 rfl rfl).trans ?_
      refine (k_iload t5_159 rfl rfl).trans ?_
      refine (k_aload_n t5_161 rfl rfl).trans ?_
      refine (k_getI t5_162 rfl hW hy1 (by decide) (by decide)).trans ?_
      refine (k_iconst t5_165 rfl zci_0).trans ?_
      refine (k_iconst t5_166 rfl zci_0).trans ?_
      refine (k_iconst t5_167 rfl zci_0).trans ?_
      refine k_callI (as := [.ref 387, .int y7, .int y7, .int (gI S y1 6), .int (0 : Int32), .int (0 : Int32), .int (0 : Int32)]) (rest := []) t5_168 rfl rfl (by decide) rfl rfl (Nat.le_of_ble_eq_true rfl) rfl (z_rcV hW (zK_387) (by decide)) (by decide) (Or.inl (by decide)) hW (fun v20 S21 hW21 => ?_)
      refine (k_istore (ls' := [.ref 387, .ref y1, z_j, z_j, z_j, z_j, .int v20, .int y7]) t5_171 rfl rfl).trans ?_
      refine (k_iinc (b := (y7 + (1 : Int32))) (ls' := [.ref 387, .ref y1, z_j, z_j, z_j, z_j, .int v20, .int (y7 + (1 : Int32))]) t5_173 rfl rfl (by rw [zci_1]) rfl).trans ?_
      refine (k_goto t5_176 rfl).trans ?_
      exact (zk_mk (ls' := [.ref 387, .ref y1, z_j, z_j, z_j, z_j, .int v20, .int (y7 + (1 : Int32))]) t5_141 rfl)
theorem b5_118_eq (d : Nat) (y1 : Nat) (y2 : Int32) (y3 : Int32) (y4 : Int32) (y5 : Int32) (y6 : Int32) (S : z_S) (hW : z_W S) (hy1 : z_K y1 = 6) : b5_118 d y1 y2 y3 y4 y5 y6 S = b5_39 d y1 y2 y3 y4 y5 (y6 + (1 : Int32)) S := by
  unfold b5_118
  refine (k_iinc (b := (y6 + (1 : Int32))) (ls' := [.ref 387, .ref y1, .int y2, .int y3, .int y4, .int y5, .int (y6 + (1 : Int32)), z_j]) t5_118 rfl rfl (by rw [zci_1]) rfl).trans ?_
  refine (k_goto t5_121 rfl).trans ?_
  exact (zk_mk (ls' := [.ref 387, .ref y1, .int y2, .int y3, .int y4, .int y5, .int (y6 + (1 : Int32)), z_j]) t5_39 rfl)
-- X0_leastCrowd
theorem e5 (d : Nat) (p1 : Nat) (x2 : Int32) (S : z_S) (hW : z_W S) (hp1 : z_K p1 = 6) : fI (d + 1) 5 [.ref 387, .ref p1, .int x2] S = (zb (fI d 1 [.ref 387, .ref p1, .int x2, .int (((1 : Int32) <<< ((gI S p1 6) &&& 31)) - (1 : Int32))] S) fun v1 S2 => (zb (fI d 274 [.int v1] S2) fun v3 S4 => (if ¬ v3 = (0 : Int32) then b5_39 d p1 x2 (((1 : Int32) <<< ((gI S p1 6) &&& 31)) - (1 : Int32)) v3 (0 : Int32) (0 : Int32) (sI S4 387 5 (0 : Int32)) else some ((-1 : Int32), S4)))) := by
  refine (fI_en (Nat.le_of_ble_eq_true rfl) rfl).trans ?_
  refine (k_iconst t5_0 rfl zci_1).trans ?_
  refine (k_aload_n t5_1 rfl rfl).trans ?_
  refine (k_getI t5_2 rfl hW hp1 (by decide) (by decide)).trans ?_
  refine (k_ishl t5_5 rfl).trans ?_
  refine (k_iconst t5_6 rfl zci_1).trans ?_
  refine (k_isub t5_7 rfl).trans ?_
  refine (k_istore_n (ls' := [.ref 387, .ref p1, .int x2, .int (((1 : Int32) <<< ((gI S p1 6) &&& 31)) - (1 : Int32)), z_j, z_j, z_j, z_j]) t5_8 rfl rfl).trans ?_
  refine (k_aload_n t5_9 rfl rfl).trans ?_
  refine (k_aload_n t5_10 rfl rfl).trans ?_
  refine (k_iload_n t5_11 rfl rfl).trans ?_
  refine (k_iload_n t5_12 rfl rfl).trans ?_
  refine k_callI (as := [.ref 387, .ref p1, .int x2, .int (((1 : Int32) <<< ((gI S p1 6) &&& 31)) - (1 : Int32))]) (rest := []) t5_13 rfl rfl (by decide) rfl rfl (Nat.le_of_ble_eq_true rfl) rfl (z_rcV hW (zK_387) (by decide)) (by decide) (Or.inl (by decide)) hW (fun v1 S2 hW2 => ?_)
  refine k_callI (as := [.int v1]) (rest := []) t5_16 rfl rfl (by decide) rfl rfl (Nat.le_of_ble_eq_true rfl) rfl (z_rcS (by decide)) (by decide) (Or.inl (by decide)) hW2 (fun v3 S4 hW4 => ?_)
  refine (k_istore (ls' := [.ref 387, .ref p1, .int x2, .int (((1 : Int32) <<< ((gI S p1 6) &&& 31)) - (1 : Int32)), .int v3, z_j, z_j, z_j]) t5_19 rfl rfl).trans ?_
  refine (k_iload t5_21 rfl rfl).trans ?_
  refine (k_if_ne t5_23 rfl).trans (z_ite (fun g5 => ?_) (fun g5 => ?_))
  · refine (k_aload_n t5_28 rfl rfl).trans ?_
    refine (k_iconst t5_29 rfl zci_0).trans ?_
    refine (k_putI t5_30 rfl hW4 zK_387 (by decide) (by decide) (by decide)).trans ?_
    refine (k_iconst t5_33 rfl zci_0).trans ?_
    refine (k_istore (ls' := [.ref 387, .ref p1, .int x2, .int (((1 : Int32) <<< ((gI S p1 6) &&& 31)) - (1 : Int32)), .int v3, .int (0 : Int32), z_j, z_j]) t5_34 rfl rfl).trans ?_
    refine (k_iconst t5_36 rfl zci_0).trans ?_
    refine (k_istore (ls' := [.ref 387, .ref p1, .int x2, .int (((1 : Int32) <<< ((gI S p1 6) &&& 31)) - (1 : Int32)), .int v3, .int (0 : Int32), .int (0 : Int32), z_j]) t5_37 rfl rfl).trans ?_
    exact (zk_mk (ls' := [.ref 387, .ref p1, .int x2, .int (((1 : Int32) <<< ((gI S p1 6) &&& 31)) - (1 : Int32)), .int v3, .int (0 : Int32), .int (0 : Int32), z_j]) t5_39 rfl)
  · refine (k_iconst t5_26 rfl zci_m1).trans ?_
    exact k_ireturn t5_27 rfl (by decide)
theorem t6_0 : z_ft 6 0 = some (.iload_n 2, 1, none, [], 0, 0, 0, 0) := z_ftd (by decide +kernel)
theorem t6_1 : z_ft 6 1 = some (.ifCond .ne 6, 3, none, [], 7, 0, 0, 0) := z_ftd (by decide +kernel)
theorem t6_4 : z_ft 6 4 = some (.iload 4, 2, none, [], 0, 0, 0, 0) := z_ftd (by decide +kernel)
theorem t6_6 : z_ft 6 6 = some (.ireturn, 1, none, [], 0, 0, 0, 0) := z_ftd (by decide +kernel)
theorem t6_7 : z_ft 6 7 = some (.iload_n 2, 1, none, [], 0, 0, 0, 0) := z_ftd (by decide +kernel)
theorem t6_8 : z_ft 6 8 = some (.iconst 1, 1, none, [], 0, 0, 0, 0) := z_ftd (by decide +kernel)
theorem t6_9 : z_ft 6 9 = some (.isub, 1, none, [], 0, 0, 0, 0) := z_ftd (by decide +kernel)
theorem t6_10 : z_ft 6 10 = some (.istore 7, 2, none, [], 0, 0, 0, 0) := z_ftd (by decide +kernel)
theorem t6_12 : z_ft 6 12 = some (.iload 7, 2, (some [0, 1, 2, 3, 4, 5, 6, 7]), [], 0, 0, 0, 0) := z_ftd (by decide +kernel)
theorem t6_14 : z_ft 6 14 = some (.iload_n 3, 1, none, [], 0, 0, 0, 0) := z_ftd (by decide +kernel)
theorem t6_15 : z_ft 6 15 = some (.if_icmp .ge 142, 3, none, [], 157, 0, 0, 0) := z_ftd (by decide +kernel)
theorem t6_18 : z_ft 6 18 = some (.iload 6, 2, none, [], 0, 0, 0, 0) := z_ftd (by decide +kernel)
theorem t6_20 : z_ft 6 20 = some (.iload 5, 2, none, [], 0, 0, 0, 0) := z_ftd (by decide +kernel)
theorem t6_22 : z_ft 6 22 = some (.aload_n 0, 1, none, [], 0, 0, 0, 0) := z_ftd (by decide +kernel)
theorem t6_23 : z_ft 6 23 = some (.getfield 21, 3, none, [], 0, 3, 7, 0) := z_ftd (by decide +kernel)
theorem t6_26 : z_ft 6 26 = some (.iload 7, 2, none, [], 0, 0, 0, 0) := z_ftd (by decide +kernel)
theorem t6_28 : z_ft 6 28 = some (.iaload, 1, none, [], 0, 0, 0, 0) := z_ftd (by decide +kernel)
theorem t6_29 : z_ft 6 29 = some (.iand, 1, none, [], 0, 0, 0, 0) := z_ftd (by decide +kernel)
theorem t6_30 : z_ft 6 30 = some (.ior, 1, none, [], 0, 0, 0, 0) := z_ftd (by decide +kernel)
theorem t6_31 : z_ft 6 31 = some (.istore 8, 2, none, [], 0, 0, 0, 0) := z_ftd (by decide +kernel)
theorem t6_33 : z_ft 6 33 = some (.iload 5, 2, none, [], 0, 0, 0, 0) := z_ftd (by decide +kernel)
theorem t6_35 : z_ft 6 35 = some (.aload_n 0, 1, none, [], 0, 0, 0, 0) := z_ftd (by decide +kernel)
theorem t6_36 : z_ft 6 36 = some (.getfield 21, 3, none, [], 0, 3, 7, 0) := z_ftd (by decide +kernel)
theorem t6_39 : z_ft 6 39 = some (.iload 7, 2, none, [], 0, 0, 0, 0) := z_ftd (by decide +kernel)
theorem t6_41 : z_ft 6 41 = some (.iaload, 1, none, [], 0, 0, 0, 0) := z_ftd (by decide +kernel)
theorem t6_42 : z_ft 6 42 = some (.ior, 1, none, [], 0, 0, 0, 0) := z_ftd (by decide +kernel)
theorem t6_43 : z_ft 6 43 = some (.iload 8, 2, none, [], 0, 0, 0, 0) := z_ftd (by decide +kernel)
theorem t6_45 : z_ft 6 45 = some (.iconst (-1), 1, none, [], 0, 0, 0, 0) := z_ftd (by decide +kernel)
theorem t6_46 : z_ft 6 46 = some (.ixor, 1, none, [], 0, 0, 0, 0) := z_ftd (by decide +kernel)
theorem t6_47 : z_ft 6 47 = some (.iand, 1, none, [], 0, 0, 0, 0) := z_ftd (by decide +kernel)
theorem t6_48 : z_ft 6 48 = some (.istore 9, 2, none, [], 0, 0, 0, 0) := z_ftd (by decide +kernel)
theorem t6_50 : z_ft 6 50 = some (.aload_n 0, 1, none, [], 0, 0, 0, 0) := z_ftd (by decide +kernel)
theorem t6_51 : z_ft 6 51 = some (.getfield 27, 3, none, [], 0, 5, 9, 0) := z_ftd (by decide +kernel)
theorem t6_54 : z_ft 6 54 = some (.iload 7, 2, none, [], 0, 0, 0, 0) := z_ftd (by decide +kernel)
theorem t6_56 : z_ft 6 56 = some (.ishr, 1, none, [], 0, 0, 0, 0) := z_ftd (by decide +kernel)
theorem t6_57 : z_ft 6 57 = some (.iconst 1, 1, none, [], 0, 0, 0, 0) := z_ftd (by decide +kernel)
theorem t6_58 : z_ft 6 58 = some (.iand, 1, none, [], 0, 0, 0, 0) := z_ftd (by decide +kernel)
theorem t6_59 : z_ft 6 59 = some (.iconst 1, 1, none, [], 0, 0, 0, 0) := z_ftd (by decide +kernel)
theorem t6_60 : z_ft 6 60 = some (.if_icmp .ne 47, 3, none, [], 107, 0, 0, 0) := z_ftd (by decide +kernel)
theorem t6_63 : z_ft 6 63 = some (.iload 9, 2, none, [], 0, 0, 0, 0) := z_ftd (by decide +kernel)
theorem t6_65 : z_ft 6 65 = some (.iload 8, 2, none, [], 0, 0, 0, 0) := z_ftd (by decide +kernel)
theorem t6_67 : z_ft 6 67 = some (.ior, 1, none, [], 0, 0, 0, 0) := z_ftd (by decide +kernel)
theorem t6_68 : z_ft 6 68 = some (.invokestatic 60, 3, none, [], 274, 0, 14, 0) := z_ftd (by decide +kernel)
theorem t6_71 : z_ft 6 71 = some (.iload_n 1, 1, none, [], 0, 0, 0, 0) := z_ftd (by decide +kernel)
theorem t6_72 : z_ft 6 72 = some (.if_icmp .ge 35, 3, none, [], 107, 0, 0, 0) := z_ftd (by decide +kernel)
theorem t6_75 : z_ft 6 75 = some (.iload 9, 2, none, [], 0, 0, 0, 0) := z_ftd (by decide +kernel)
theorem t6_77 : z_ft 6 77 = some (.aload_n 0, 1, none, [], 0, 0, 0, 0) := z_ftd (by decide +kernel)
theorem t6_78 : z_ft 6 78 = some (.getfield 24, 3, none, [], 0, 4, 8, 0) := z_ftd (by decide +kernel)
theorem t6_81 : z_ft 6 81 = some (.iload 7, 2, none, [], 0, 0, 0, 0) := z_ftd (by decide +kernel)
theorem t6_83 : z_ft 6 83 = some (.iaload, 1, none, [], 0, 0, 0, 0) := z_ftd (by decide +kernel)
theorem t6_84 : z_ft 6 84 = some (.iconst (-1), 1, none, [], 0, 0, 0, 0) := z_ftd (by decide +kernel)
theorem t6_85 : z_ft 6 85 = some (.ixor, 1, none, [], 0, 0, 0, 0) := z_ftd (by decide +kernel)
theorem t6_86 : z_ft 6 86 = some (.iand, 1, none, [], 0, 0, 0, 0) := z_ftd (by decide +kernel)
theorem t6_87 : z_ft 6 87 = some (.ifCond .ne 20, 3, none, [], 107, 0, 0, 0) := z_ftd (by decide +kernel)
theorem t6_90 : z_ft 6 90 = some (.iload 9, 2, none, [], 0, 0, 0, 0) := z_ftd (by decide +kernel)
theorem t6_92 : z_ft 6 92 = some (.invokestatic 60, 3, none, [], 274, 0, 14, 0) := z_ftd (by decide +kernel)
theorem t6_95 : z_ft 6 95 = some (.iconst 2, 1, none, [], 0, 0, 0, 0) := z_ftd (by decide +kernel)
theorem t6_96 : z_ft 6 96 = some (.iload_n 2, 1, none, [], 0, 0, 0, 0) := z_ftd (by decide +kernel)
theorem t6_97 : z_ft 6 97 = some (.iconst 1, 1, none, [], 0, 0, 0, 0) := z_ftd (by decide +kernel)
theorem t6_98 : z_ft 6 98 = some (.isub, 1, none, [], 0, 0, 0, 0) := z_ftd (by decide +kernel)
theorem t6_99 : z_ft 6 99 = some (.imul, 1, none, [], 0, 0, 0, 0) := z_ftd (by decide +kernel)
theorem t6_100 : z_ft 6 100 = some (.if_icmp .gt 7, 3, none, [], 107, 0, 0, 0) := z_ftd (by decide +kernel)
theorem t6_103 : z_ft 6 103 = some (.iconst 1, 1, none, [], 0, 0, 0, 0) := z_ftd (by decide +kernel)
theorem t6_104 : z_ft 6 104 = some (.goto 4, 3, none, [], 108, 0, 0, 0) := z_ftd (by decide +kernel)
theorem t6_107 : z_ft 6 107 = some (.iconst 0, 1, (some [0, 1, 2, 3, 4, 5, 6, 7, 8, 9]), [], 0, 0, 0, 0) := z_ftd (by decide +kernel)
theorem t6_108 : z_ft 6 108 = some (.istore 10, 2, (some [0, 1, 2, 3, 4, 5, 6, 7, 8, 9]), [], 0, 0, 0, 0) := z_ftd (by decide +kernel)
theorem t6_110 : z_ft 6 110 = some (.iload 10, 2, none, [], 0, 0, 0, 0) := z_ftd (by decide +kernel)
theorem t6_112 : z_ft 6 112 = some (.ifCond .eq 27, 3, none, [], 139, 0, 0, 0) := z_ftd (by decide +kernel)
theorem t6_115 : z_ft 6 115 = some (.aload_n 0, 1, none, [], 0, 0, 0, 0) := z_ftd (by decide +kernel)
theorem t6_116 : z_ft 6 116 = some (.iload_n 1, 1, none, [], 0, 0, 0, 0) := z_ftd (by decide +kernel)
theorem t6_117 : z_ft 6 117 = some (.iload_n 2, 1, none, [], 0, 0, 0, 0) := z_ftd (by decide +kernel)
theorem t6_118 : z_ft 6 118 = some (.iconst 1, 1, none, [], 0, 0, 0, 0) := z_ftd (by decide +kernel)
theorem t6_119 : z_ft 6 119 = some (.isub, 1, none, [], 0, 0, 0, 0) := z_ftd (by decide +kernel)
theorem t6_120 : z_ft 6 120 = some (.iload 7, 2, none, [], 0, 0, 0, 0) := z_ftd (by decide +kernel)
theorem t6_122 : z_ft 6 122 = some (.iload 4, 2, none, [], 0, 0, 0, 0) := z_ftd (by decide +kernel)
theorem t6_124 : z_ft 6 124 = some (.iconst 1, 1, none, [], 0, 0, 0, 0) := z_ftd (by decide +kernel)
theorem t6_125 : z_ft 6 125 = some (.iload 7, 2, none, [], 0, 0, 0, 0) := z_ftd (by decide +kernel)
theorem t6_127 : z_ft 6 127 = some (.ishl, 1, none, [], 0, 0, 0, 0) := z_ftd (by decide +kernel)
theorem t6_128 : z_ft 6 128 = some (.ior, 1, none, [], 0, 0, 0, 0) := z_ftd (by decide +kernel)
theorem t6_129 : z_ft 6 129 = some (.iload 9, 2, none, [], 0, 0, 0, 0) := z_ftd (by decide +kernel)
theorem t6_131 : z_ft 6 131 = some (.iload 8, 2, none, [], 0, 0, 0, 0) := z_ftd (by decide +kernel)
theorem t6_133 : z_ft 6 133 = some (.invokevirtual 68, 3, none, [], 6, 0, 16, 0) := z_ftd (by decide +kernel)
theorem t6_136 : z_ft 6 136 = some (.goto 4, 3, none, [], 140, 0, 0, 0) := z_ftd (by decide +kernel)
theorem t6_139 : z_ft 6 139 = some (.iconst (-1), 1, none, [], 0, 0, 0, 0) := z_ftd (by decide +kernel)
theorem t6_140 : z_ft 6 140 = some (.istore 11, 2, (some [0, 1, 2, 3, 4, 5, 6, 7]), [], 0, 0, 0, 0) := z_ftd (by decide +kernel)
theorem t6_142 : z_ft 6 142 = some (.iload 11, 2, none, [], 0, 0, 0, 0) := z_ftd (by decide +kernel)
theorem t6_144 : z_ft 6 144 = some (.iconst (-1), 1, none, [], 0, 0, 0, 0) := z_ftd (by decide +kernel)
theorem t6_145 : z_ft 6 145 = some (.if_icmp .eq 6, 3, none, [], 151, 0, 0, 0) := z_ftd (by decide +kernel)
theorem t6_148 : z_ft 6 148 = some (.iload 11, 2, none, [], 0, 0, 0, 0) := z_ftd (by decide +kernel)
theorem t6_150 : z_ft 6 150 = some (.ireturn, 1, none, [], 0, 0, 0, 0) := z_ftd (by decide +kernel)
theorem t6_151 : z_ft 6 151 = some (.iinc 7 1, 3, none, [], 0, 0, 0, 0) := z_ftd (by decide +kernel)
theorem t6_154 : z_ft 6 154 = some (.goto (-142), 3, none, [], 12, 0, 0, 0) := z_ftd (by decide +kernel)
theorem t6_157 : z_ft 6 157 = some (.iconst (-1), 1, none, [], 0, 0, 0, 0) := z_ftd (by decide +kernel)
theorem t6_158 : z_ft 6 158 = some (.ireturn, 1, none, [], 0, 0, 0, 0) := z_ftd (by decide +kernel)
noncomputable def b6_12 (d : Nat) (y1 : Int32) (y2 : Int32) (y3 : Int32) (y4 : Int32) (y5 : Int32) (y6 : Int32) (y7 : Int32) (S : z_S) : Option (Int32 × z_S) := zk kI z_X0 d 6 12 [.ref 387, .int y1, .int y2, .int y3, .int y4, .int y5, .int y6, .int y7, z_j, z_j, z_j, z_j] [] S
noncomputable def b6_107 (d : Nat) (y1 : Int32) (y2 : Int32) (y3 : Int32) (y4 : Int32) (y5 : Int32) (y6 : Int32) (y7 : Int32) (y8 : Int32) (y9 : Int32) (S : z_S) : Option (Int32 × z_S) := zk kI z_X0 d 6 107 [.ref 387, .int y1, .int y2, .int y3, .int y4, .int y5, .int y6, .int y7, .int y8, .int y9, z_j, z_j] [] S
noncomputable def b6_108 (d : Nat) (y1 : Int32) (y2 : Int32) (y3 : Int32) (y4 : Int32) (y5 : Int32) (y6 : Int32) (y7 : Int32) (y8 : Int32) (y9 : Int32) (s0 : Int32) (S : z_S) : Option (Int32 × z_S) := zk kI z_X0 d 6 108 [.ref 387, .int y1, .int y2, .int y3, .int y4, .int y5, .int y6, .int y7, .int y8, .int y9, z_j, z_j] [.int s0] S
noncomputable def b6_140 (d : Nat) (y1 : Int32) (y2 : Int32) (y3 : Int32) (y4 : Int32) (y5 : Int32) (y6 : Int32) (y7 : Int32) (s0 : Int32) (S : z_S) : Option (Int32 × z_S) := zk kI z_X0 d 6 140 [.ref 387, .int y1, .int y2, .int y3, .int y4, .int y5, .int y6, .int y7, z_j, z_j, z_j, z_j] [.int s0] S
theorem b6_12_eq (d : Nat) (y1 : Int32) (y2 : Int32) (y3 : Int32) (y4 : Int32) (y5 : Int32) (y6 : Int32) (y7 : Int32) (S : z_S) (hW : z_W S)  : b6_12 d y1 y2 y3 y4 y5 y6 y7 S = (if y3 ≤ y7 then some ((-1 : Int32), S) else (if z_in y7 16 then (if z_in y7 16 then (if ¬ (((gI S 387 5) >>> (y7 &&& 31)) &&& (1 : Int32)) = (1 : Int32) then b6_107 d y1 y2 y3 y4 y5 y6 y7 (y6 ||| (y5 &&& (gI S 391 (y7).toNatClampNeg))) ((y5 ||| (gI S 391 (y7).toNatClampNeg)) &&& ((y6 ||| (y5 &&& (gI S 391 (y7).toNatClampNeg))) ^^^ (-1 : Int32))) S else (zb (fI d 274 [.int (((y5 ||| (gI S 391 (y7).toNatClampNeg)) &&& ((y6 ||| (y5 &&& (gI S 391 (y7).toNatClampNeg))) ^^^ (-1 : Int32))) ||| (y6 ||| (y5 &&& (gI S 391 (y7).toNatClampNeg))))] S) fun v6 S7 => (if y1 ≤ v6 then b6_107 d y1 y2 y3 y4 y5 y6 y7 (y6 ||| (y5 &&& (gI S 391 (y7).toNatClampNeg))) ((y5 ||| (gI S 391 (y7).toNatClampNeg)) &&& ((y6 ||| (y5 &&& (gI S 391 (y7).toNatClampNeg))) ^^^ (-1 : Int32))) S7 else (if z_in y7 16 then (if ¬ (((y5 ||| (gI S 391 (y7).toNatClampNeg)) &&& ((y6 ||| (y5 &&& (gI S 391 (y7).toNatClampNeg))) ^^^ (-1 : Int32))) &&& ((gI S7 392 (y7).toNatClampNeg) ^^^ (-1 : Int32))) = (0 : Int32) then b6_107 d y1 y2 y3 y4 y5 y6 y7 (y6 ||| (y5 &&& (gI S 391 (y7).toNatClampNeg))) ((y5 ||| (gI S 391 (y7).toNatClampNeg)) &&& ((y6 ||| (y5 &&& (gI S 391 (y7).toNatClampNeg))) ^^^ (-1 : Int32))) S7 else (zb (fI d 274 [.int ((y5 ||| (gI S 391 (y7).toNatClampNeg)) &&& ((y6 ||| (y5 &&& (gI S 391 (y7).toNatClampNeg))) ^^^ (-1 : Int32)))] S7) fun v11 S12 => (if ((2 : Int32) * (y2 - (1 : Int32))) < v11 then b6_107 d y1 y2 y3 y4 y5 y6 y7 (y6 ||| (y5 &&& (gI S 391 (y7).toNatClampNeg))) ((y5 ||| (gI S 391 (y7).toNatClampNeg)) &&& ((y6 ||| (y5 &&& (gI S 391 (y7).toNatClampNeg))) ^^^ (-1 : Int32))) S12 else b6_108 d y1 y2 y3 y4 y5 y6 y7 (y6 ||| (y5 &&& (gI S 391 (y7).toNatClampNeg))) ((y5 ||| (gI S 391 (y7).toNatClampNeg)) &&& ((y6 ||| (y5 &&& (gI S 391 (y7).toNatClampNeg))) ^^^ (-1 : Int32))) (1 : Int32) S12))) else none)))) else none) else none)) := by
  unfold b6_12
  refine (k_iload t6_12 rfl rfl).trans ?_
  refine (k_iload_n t6_14 rfl rfl).trans ?_
  refine (k_icmp_ge t6_15 rfl).trans (z_ite (fun g2 => ?_) (fun g2 => ?_))
  · refine (k_iconst t6_157 rfl zci_m1).trans ?_
    exact k_ireturn t6_158 rfl (by decide)
  · refine (k_iload t6_18 rfl rfl).trans ?_
    refine (k_iload t6_20 rfl rfl).trans ?_
    refine (k_aload_n t6_22 rfl rfl).trans ?_
    refine (k_getR t6_23 rfl hW zK_387 (by decide) (by decide) (zF_387_3 hW)).trans ?_
    refine (k_iload t6_26 rfl rfl).trans ?_
    refine (k_iald t6_28 rfl hW zK_391 zL_391).trans (z_ite (fun g3 => ?_) (fun _ => rfl))
    refine (k_iand t6_29 rfl).trans ?_
    refine (k_ior t6_30 rfl).trans ?_
    refine (k_istore (ls' := [.ref 387, .int y1, .int y2, .int y3, .int y4, .int y5, .int y6, .int y7, .int (y6 ||| (y5 &&& (gI S 391 (y7).toNatClampNeg))), z_j, z_j, z_j]) t6_31 rfl rfl).trans ?_
    refine (k_iload t6_33 rfl rfl).trans ?_
    refine (k_aload_n t6_35 rfl rfl).trans ?_
    refine (k_getR t6_36 rfl hW zK_387 (by decide) (by decide) (zF_387_3 hW)).trans ?_
    refine (k_iload t6_39 rfl rfl).trans ?_
    refine (k_iald t6_41 rfl hW zK_391 zL_391).trans (z_ite (fun g4 => ?_) (fun _ => rfl))
    refine (k_ior t6_42 rfl).trans ?_
    refine (k_iload t6_43 rfl rfl).trans ?_
    refine (k_iconst t6_45 rfl zci_m1).trans ?_
    refine (k_ixor t6_46 rfl).trans ?_
    refine (k_iand t6_47 rfl).trans ?_
    refine (k_istore (ls' := [.ref 387, .int y1, .int y2, .int y3, .int y4, .int y5, .int y6, .int y7, .int (y6 ||| (y5 &&& (gI S 391 (y7).toNatClampNeg))), .int ((y5 ||| (gI S 391 (y7).toNatClampNeg)) &&& ((y6 ||| (y5 &&& (gI S 391 (y7).toNatClampNeg))) ^^^ (-1 : Int32))), z_j, z_j]) t6_48 rfl rfl).trans ?_
    refine (k_aload_n t6_50 rfl rfl).trans ?_
    refine (k_getI t6_51 rfl hW zK_387 (by decide) (by decide)).trans ?_
    refine (k_iload t6_54 rfl rfl).trans ?_
    refine (k_ishr t6_56 rfl).trans ?_
    refine (k_iconst t6_57 rfl zci_1).trans ?_
    refine (k_iand t6_58 rfl).trans ?_
    refine (k_iconst t6_59 rfl zci_1).trans ?_
    refine (k_icmp_ne t6_60 rfl).trans (z_ite (fun g5 => ?_) (fun g5 => ?_))
    · exact (zk_mk (ls' := [.ref 387, .int y1, .int y2, .int y3, .int y4, .int y5, .int y6, .int y7, .int (y6 ||| (y5 &&& (gI S 391 (y7).toNatClampNeg))), .int ((y5 ||| (gI S 391 (y7).toNatClampNeg)) &&& ((y6 ||| (y5 &&& (gI S 391 (y7).toNatClampNeg))) ^^^ (-1 : Int32))), z_j, z_j]) t6_107 rfl)
    · refine (k_iload t6_63 rfl rfl).trans ?_
      refine (k_iload t6_65 rfl rfl).trans ?_
      refine (k_ior t6_67 rfl).trans ?_
      refine k_callI (as := [.int (((y5 ||| (gI S 391 (y7).toNatClampNeg)) &&& ((y6 ||| (y5 &&& (gI S 391 (y7).toNatClampNeg))) ^^^ (-1 : Int32))) ||| (y6 ||| (y5 &&& (gI S 391 (y7).toNatClampNeg))))]) (rest := []) t6_68 rfl rfl (by decide) rfl rfl (Nat.le_of_ble_eq_true rfl) rfl (z_rcS (by decide)) (by decide) (Or.inl (by decide)) hW (fun v6 S7 hW7 => ?_)
      refine (k_iload_n t6_71 rfl rfl).trans ?_
      refine (k_icmp_ge t6_72 rfl).trans (z_ite (fun g8 => ?_) (fun g8 => ?_))
      · exact (zk_mk (ls' := [.ref 387, .int y1, .int y2, .int y3, .int y4, .int y5, .int y6, .int y7, .int (y6 ||| (y5 &&& (gI S 391 (y7).toNatClampNeg))), .int ((y5 ||| (gI S 391 (y7).toNatClampNeg)) &&& ((y6 ||| (y5 &&& (gI S 391 (y7).toNatClampNeg))) ^^^ (-1 : Int32))), z_j, z_j]) t6_107 rfl)
      · refine (k_iload t6_75 rfl rfl).trans ?_
        refine (k_aload_n t6_77 rfl rfl).trans ?_
        refine (k_getR t6_78 rfl hW7 zK_387 (by decide) (by decide) (zF_387_4 hW7)).trans ?_
        refine (k_iload t6_81 rfl rfl).trans ?_
        refine (k_iald t6_83 rfl hW7 zK_392 zL_392).trans (z_ite (fun g9 => ?_) (fun _ => rfl))
        refine (k_iconst t6_84 rfl zci_m1).trans ?_
        refine (k_ixor t6_85 rfl).trans ?_
        refine (k_iand t6_86 rfl).trans ?_
        refine (k_if_ne t6_87 rfl).trans (z_ite (fun g10 => ?_) (fun g10 => ?_))
        · exact (zk_mk (ls' := [.ref 387, .int y1, .int y2, .int y3, .int y4, .int y5, .int y6, .int y7, .int (y6 ||| (y5 &&& (gI S 391 (y7).toNatClampNeg))), .int ((y5 ||| (gI S 391 (y7).toNatClampNeg)) &&& ((y6 ||| (y5 &&& (gI S 391 (y7).toNatClampNeg))) ^^^ (-1 : Int32))), z_j, z_j]) t6_107 rfl)
        · refine (k_iload t6_90 rfl rfl).trans ?_
          refine k_callI (as := [.int ((y5 ||| (gI S 391 (y7).toNatClampNeg)) &&& ((y6 ||| (y5 &&& (gI S 391 (y7).toNatClampNeg))) ^^^ (-1 : Int32)))]) (rest := []) t6_92 rfl rfl (by decide) rfl rfl (Nat.le_of_ble_eq_true rfl) rfl (z_rcS (by decide)) (by decide) (Or.inl (by decide)) hW7 (fun v11 S12 hW12 => ?_)
          refine (k_iconst t6_95 rfl zci_2).trans ?_
          refine (k_iload_n t6_96 rfl rfl).trans ?_
          refine (k_iconst t6_97 rfl zci_1).trans ?_
          refine (k_isub t6_98 rfl).trans ?_
          refine (k_imul t6_99 rfl).trans ?_
          refine (k_icmp_gt t6_100 rfl).trans (z_ite (fun g13 => ?_) (fun g13 => ?_))
          · exact (zk_mk (ls' := [.ref 387, .int y1, .int y2, .int y3, .int y4, .int y5, .int y6, .int y7, .int (y6 ||| (y5 &&& (gI S 391 (y7).toNatClampNeg))), .int ((y5 ||| (gI S 391 (y7).toNatClampNeg)) &&& ((y6 ||| (y5 &&& (gI S 391 (y7).toNatClampNeg))) ^^^ (-1 : Int32))), z_j, z_j]) t6_107 rfl)
          · refine (k_iconst t6_103 rfl zci_1).trans ?_
            refine (k_goto t6_104 rfl).trans ?_
            exact (zk_mk (ls' := [.ref 387, .int y1, .int y2, .int y3, .int y4, .int y5, .int y6, .int y7, .int (y6 ||| (y5 &&& (gI S 391 (y7).toNatClampNeg))), .int ((y5 ||| (gI S 391 (y7).toNatClampNeg)) &&& ((y6 ||| (y5 &&& (gI S 391 (y7).toNatClampNeg))) ^^^ (-1 : Int32))), z_j, z_j]) t6_108 rfl)
theorem b6_107_eq (d : Nat) (y1 : Int32) (y2 : Int32) (y3 : Int32) (y4 : Int32) (y5 : Int32) (y6 : Int32) (y7 : Int32) (y8 : Int32) (y9 : Int32) (S : z_S) (hW : z_W S)  : b6_107 d y1 y2 y3 y4 y5 y6 y7 y8 y9 S = b6_108 d y1 y2 y3 y4 y5 y6 y7 y8 y9 (0 : Int32) S := by
  unfold b6_107
  refine (k_iconst t6_107 rfl zci_0).trans ?_
  exact (zk_mk (ls' := [.ref 387, .int y1, .int y2, .int y3, .int y4, .int y5, .int y6, .int y7, .int y8, .int y9, z_j, z_j]) t6_108 rfl)
theorem b6_108_eq (d : Nat) (y1 : Int32) (y2 : Int32) (y3 : Int32) (y4 : Int32) (y5 : Int32) (y6 : Int32) (y7 : Int32) (y8 : Int32) (y9 : Int32) (s0 : Int32) (S : z_S) (hW : z_W S)  : b6_108 d y1 y2 y3 y4 y5 y6 y7 y8 y9 s0 S = (if s0 = (0 : Int32) then b6_140 d y1 y2 y3 y4 y5 y6 y7 (-1 : Int32) S else (zb (fI d 6 [.ref 387, .int y1, .int (y2 - (1 : Int32)), .int y7, .int (y4 ||| ((1 : Int32) <<< (y7 &&& 31))), .int y9, .int y8] S) fun v15 S16 => b6_140 d y1 y2 y3 y4 y5 y6 y7 v15 S16)) := by
  unfold b6_108
  refine (k_istore (ls' := [.ref 387, .int y1, .int y2, .int y3, .int y4, .int y5, .int y6, .int y7, .int y8, .int y9, .int s0, z_j]) t6_108 rfl rfl).trans ?_
  refine (k_iload t6_110 rfl rfl).trans ?_
  refine (k_if_eq t6_112 rfl).trans (z_ite (fun g14 => ?_) (fun g14 => ?_))
  · refine (k_iconst t6_139 rfl zci_m1).trans ?_
    exact (zk_mk (ls' := [.ref 387, .int y1, .int y2, .int y3, .int y4, .int y5, .int y6, .int y7, z_j, z_j, z_j, z_j]) t6_140 rfl)
  · refine (k_aload_n t6_115 rfl rfl).trans ?_
    refine (k_iload_n t6_116 rfl rfl).trans ?_
    refine (k_iload_n t6_117 rfl rfl).trans ?_
    refine (k_iconst t6_118 rfl zci_1).trans ?_
    refine (k_isub t6_119 rfl).trans ?_
    refine (k_iload t6_120 rfl rfl).trans ?_
    refine (k_iload t6_122 rfl rfl).trans ?_
    refine (k_iconst t6_124 rfl zci_1).trans ?_
    refine (k_iload t6_125 rfl rfl).trans ?_
    refine (k_ishl t6_127 rfl).trans ?_
    refine (k_ior t6_128 rfl).trans ?_
    refine (k_iload t6_129 rfl rfl).trans ?_
    refine (k_iload t6_131 rfl rfl).trans ?_
    refine k_callI (as := [.ref 387, .int y1, .int (y2 - (1 : Int32)), .int y7, .int (y4 ||| ((1 : Int32) <<< (y7 &&& 31))), .int y9, .int y8]) (rest := []) t6_133 rfl rfl (by decide) rfl rfl (Nat.le_of_ble_eq_true rfl) rfl (z_rcV hW (zK_387) (by decide)) (by decide) (Or.inl (by decide)) hW (fun v15 S16 hW16 => ?_)
    refine (k_goto t6_136 rfl).trans ?_
    exact (zk_mk (ls' := [.ref 387, .int y1, .int y2, .int y3, .int y4, .int y5, .int y6, .int y7, z_j, z_j, z_j, z_j]) t6_140 rfl)
theorem b6_140_eq (d : Nat) (y1 : Int32) (y2 : Int32) (y3 : Int32) (y4 : Int32) (y5 : Int32) (y6 : Int32) (y7 : Int32) (s0 : Int32) (S : z_S) (hW : z_W S)  : b6_140 d y1 y2 y3 y4 y5 y6 y7 s0 S = (if s0 = (-1 : Int32) then b6_12 d y1 y2 y3 y4 y5 y6 (y7 + (1 : Int32)) S else some (s0, S)) := by
  unfold b6_140
  refine (k_istore (ls' := [.ref 387, .int y1, .int y2, .int y3, .int y4, .int y5, .int y6, .int y7, z_j, z_j, z_j, .int s0]) t6_140 rfl rfl).trans ?_
  refine (k_iload t6_142 rfl rfl).trans ?_
  refine (k_iconst t6_144 rfl zci_m1).trans ?_
  refine (k_icmp_eq t6_145 rfl).trans (z_ite (fun g17 => ?_) (fun g17 => ?_))
  · refine (k_iinc (b := (y7 + (1 : Int32))) (ls' := [.ref 387, .int y1, .int y2, .int y3, .int y4, .int y5, .int y6, .int (y7 + (1 : Int32)), z_j, z_j, z_j, .int s0]) t6_151 rfl rfl (by rw [zci_1]) rfl).trans ?_
    refine (k_goto t6_154 rfl).trans ?_
    exact (zk_mk (ls' := [.ref 387, .int y1, .int y2, .int y3, .int y4, .int y5, .int y6, .int (y7 + (1 : Int32)), z_j, z_j, z_j, z_j]) t6_12 rfl)
  · refine (k_iload t6_148 rfl rfl).trans ?_
    exact k_ireturn t6_150 rfl (by decide)
-- X0_searchCrowd
theorem e6 (d : Nat) (x1 : Int32) (x2 : Int32) (x3 : Int32) (x4 : Int32) (x5 : Int32) (x6 : Int32) (S : z_S) (hW : z_W S)  : fI (d + 1) 6 [.ref 387, .int x1, .int x2, .int x3, .int x4, .int x5, .int x6] S = (if ¬ x2 = (0 : Int32) then b6_12 d x1 x2 x3 x4 x5 x6 (x2 - (1 : Int32)) S else some (x4, S)) := by
  refine (fI_en (Nat.le_of_ble_eq_true rfl) rfl).trans ?_
  refine (k_iload_n t6_0 rfl rfl).trans ?_
  refine (k_if_ne t6_1 rfl).trans (z_ite (fun g1 => ?_) (fun g1 => ?_))
  · refine (k_iload_n t6_7 rfl rfl).trans ?_
    refine (k_iconst t6_8 rfl zci_1).trans ?_
    refine (k_isub t6_9 rfl).trans ?_
    refine (k_istore (ls' := [.ref 387, .int x1, .int x2, .int x3, .int x4, .int x5, .int x6, .int (x2 - (1 : Int32)), z_j, z_j, z_j, z_j]) t6_10 rfl rfl).trans ?_
    exact (zk_mk (ls' := [.ref 387, .int x1, .int x2, .int x3, .int x4, .int x5, .int x6, .int (x2 - (1 : Int32)), z_j, z_j, z_j, z_j]) t6_12 rfl)
  · refine (k_iload t6_4 rfl rfl).trans ?_
    exact k_ireturn t6_6 rfl (by decide)
theorem t84_0 : z_ft 84 0 = some (.iload_n 2, 1, none, [], 0, 0, 0, 0) := z_ftd (by decide +kernel)
theorem t84_1 : z_ft 84 1 = some (.iconst 3, 1, none, [], 0, 0, 0, 0) := z_ftd (by decide +kernel)
theorem t84_2 : z_ft 84 2 = some (.if_icmp .lt 24, 3, none, [], 26, 0, 0, 0) := z_ftd (by decide +kernel)
theorem t84_5 : z_ft 84 5 = some (.iload_n 2, 1, none, [], 0, 0, 0, 0) := z_ftd (by decide +kernel)
theorem t84_6 : z_ft 84 6 = some (.aload_n 0, 1, none, [], 0, 0, 0, 0) := z_ftd (by decide +kernel)
theorem t84_7 : z_ft 84 7 = some (.getfield 15, 3, none, [], 9, 1, 8, 0) := z_ftd (by decide +kernel)
theorem t84_10 : z_ft 84 10 = some (.arraylength, 1, none, [], 0, 0, 0, 0) := z_ftd (by decide +kernel)
theorem t84_11 : z_ft 84 11 = some (.if_icmp .gt 15, 3, none, [], 26, 0, 0, 0) := z_ftd (by decide +kernel)
theorem t84_14 : z_ft 84 14 = some (.iload_n 2, 1, none, [], 0, 0, 0, 0) := z_ftd (by decide +kernel)
theorem t84_15 : z_ft 84 15 = some (.aload_n 1, 1, none, [], 0, 0, 0, 0) := z_ftd (by decide +kernel)
theorem t84_16 : z_ft 84 16 = some (.arraylength, 1, none, [], 0, 0, 0, 0) := z_ftd (by decide +kernel)
theorem t84_17 : z_ft 84 17 = some (.if_icmp .gt 9, 3, none, [], 26, 0, 0, 0) := z_ftd (by decide +kernel)
theorem t84_20 : z_ft 84 20 = some (.iload_n 2, 1, none, [], 0, 0, 0, 0) := z_ftd (by decide +kernel)
theorem t84_21 : z_ft 84 21 = some (.iconst 3, 1, none, [], 0, 0, 0, 0) := z_ftd (by decide +kernel)
theorem t84_22 : z_ft 84 22 = some (.irem, 1, none, [], 0, 0, 0, 0) := z_ftd (by decide +kernel)
theorem t84_23 : z_ft 84 23 = some (.ifCond .eq 5, 3, none, [], 28, 0, 0, 0) := z_ftd (by decide +kernel)
theorem t84_26 : z_ft 84 26 = some (.iconst 0, 1, (some []), [], 0, 0, 0, 0) := z_ftd (by decide +kernel)
theorem t84_27 : z_ft 84 27 = some (.ireturn, 1, none, [], 0, 0, 0, 0) := z_ftd (by decide +kernel)
theorem t84_28 : z_ft 84 28 = some (.iconst 0, 1, none, [], 0, 0, 0, 0) := z_ftd (by decide +kernel)
theorem t84_29 : z_ft 84 29 = some (.istore 4, 2, none, [], 0, 0, 0, 0) := z_ftd (by decide +kernel)
theorem t84_31 : z_ft 84 31 = some (.iload 4, 2, (some [0, 1, 2, 3, 4]), [], 0, 0, 0, 0) := z_ftd (by decide +kernel)
theorem t84_33 : z_ft 84 33 = some (.iconst 2, 1, none, [], 0, 0, 0, 0) := z_ftd (by decide +kernel)
theorem t84_34 : z_ft 84 34 = some (.iadd, 1, none, [], 0, 0, 0, 0) := z_ftd (by decide +kernel)
theorem t84_35 : z_ft 84 35 = some (.iload_n 2, 1, none, [], 0, 0, 0, 0) := z_ftd (by decide +kernel)
theorem t84_36 : z_ft 84 36 = some (.if_icmp .ge 70, 3, none, [], 106, 0, 0, 0) := z_ftd (by decide +kernel)
theorem t84_39 : z_ft 84 39 = some (.aload_n 1, 1, none, [], 0, 0, 0, 0) := z_ftd (by decide +kernel)
theorem t84_40 : z_ft 84 40 = some (.iload 4, 2, none, [], 0, 0, 0, 0) := z_ftd (by decide +kernel)
theorem t84_42 : z_ft 84 42 = some (.iconst 2, 1, none, [], 0, 0, 0, 0) := z_ftd (by decide +kernel)
theorem t84_43 : z_ft 84 43 = some (.iadd, 1, none, [], 0, 0, 0, 0) := z_ftd (by decide +kernel)
theorem t84_44 : z_ft 84 44 = some (.iaload, 1, none, [], 0, 0, 0, 0) := z_ftd (by decide +kernel)
theorem t84_45 : z_ft 84 45 = some (.sipush 255, 3, none, [], 0, 0, 0, 0) := z_ftd (by decide +kernel)
theorem t84_48 : z_ft 84 48 = some (.if_icmp .eq 16, 3, none, [], 64, 0, 0, 0) := z_ftd (by decide +kernel)
theorem t84_51 : z_ft 84 51 = some (.aload_n 3, 1, none, [], 0, 0, 0, 0) := z_ftd (by decide +kernel)
theorem t84_52 : z_ft 84 52 = some (.aload_n 1, 1, none, [], 0, 0, 0, 0) := z_ftd (by decide +kernel)
theorem t84_53 : z_ft 84 53 = some (.iload 4, 2, none, [], 0, 0, 0, 0) := z_ftd (by decide +kernel)
theorem t84_55 : z_ft 84 55 = some (.iconst 2, 1, none, [], 0, 0, 0, 0) := z_ftd (by decide +kernel)
theorem t84_56 : z_ft 84 56 = some (.iadd, 1, none, [], 0, 0, 0, 0) := z_ftd (by decide +kernel)
theorem t84_57 : z_ft 84 57 = some (.iaload, 1, none, [], 0, 0, 0, 0) := z_ftd (by decide +kernel)
theorem t84_58 : z_ft 84 58 = some (.invokevirtual 45, 3, none, [], 59, 0, 16, 0) := z_ftd (by decide +kernel)
theorem t84_61 : z_ft 84 61 = some (.ifCond .eq 7, 3, none, [], 68, 0, 0, 0) := z_ftd (by decide +kernel)
theorem t84_64 : z_ft 84 64 = some (.iconst 1, 1, (some [0, 1, 2, 3, 4]), [], 0, 0, 0, 0) := z_ftd (by decide +kernel)
theorem t84_65 : z_ft 84 65 = some (.goto 4, 3, none, [], 69, 0, 0, 0) := z_ftd (by decide +kernel)
theorem t84_68 : z_ft 84 68 = some (.iconst 0, 1, none, [], 0, 0, 0, 0) := z_ftd (by decide +kernel)
theorem t84_69 : z_ft 84 69 = some (.istore 5, 2, (some [0, 1, 2, 3, 4]), [], 0, 0, 0, 0) := z_ftd (by decide +kernel)
theorem t84_71 : z_ft 84 71 = some (.aload_n 1, 1, none, [], 0, 0, 0, 0) := z_ftd (by decide +kernel)
theorem t84_72 : z_ft 84 72 = some (.iload 4, 2, none, [], 0, 0, 0, 0) := z_ftd (by decide +kernel)
theorem t84_74 : z_ft 84 74 = some (.iaload, 1, none, [], 0, 0, 0, 0) := z_ftd (by decide +kernel)
theorem t84_75 : z_ft 84 75 = some (.bipush 30, 2, none, [], 0, 0, 0, 0) := z_ftd (by decide +kernel)
theorem t84_77 : z_ft 84 77 = some (.if_icmp .gt 21, 3, none, [], 98, 0, 0, 0) := z_ftd (by decide +kernel)
theorem t84_80 : z_ft 84 80 = some (.aload_n 3, 1, none, [], 0, 0, 0, 0) := z_ftd (by decide +kernel)
theorem t84_81 : z_ft 84 81 = some (.aload_n 1, 1, none, [], 0, 0, 0, 0) := z_ftd (by decide +kernel)
theorem t84_82 : z_ft 84 82 = some (.iload 4, 2, none, [], 0, 0, 0, 0) := z_ftd (by decide +kernel)
theorem t84_84 : z_ft 84 84 = some (.iconst 1, 1, none, [], 0, 0, 0, 0) := z_ftd (by decide +kernel)
theorem t84_85 : z_ft 84 85 = some (.iadd, 1, none, [], 0, 0, 0, 0) := z_ftd (by decide +kernel)
theorem t84_86 : z_ft 84 86 = some (.iaload, 1, none, [], 0, 0, 0, 0) := z_ftd (by decide +kernel)
theorem t84_87 : z_ft 84 87 = some (.invokevirtual 51, 3, none, [], 58, 0, 17, 0) := z_ftd (by decide +kernel)
theorem t84_90 : z_ft 84 90 = some (.ifCond .eq 8, 3, none, [], 98, 0, 0, 0) := z_ftd (by decide +kernel)
theorem t84_93 : z_ft 84 93 = some (.iload 5, 2, none, [], 0, 0, 0, 0) := z_ftd (by decide +kernel)
theorem t84_95 : z_ft 84 95 = some (.ifCond .ne 5, 3, none, [], 100, 0, 0, 0) := z_ftd (by decide +kernel)
theorem t84_98 : z_ft 84 98 = some (.iconst 0, 1, (some []), [], 0, 0, 0, 0) := z_ftd (by decide +kernel)
theorem t84_99 : z_ft 84 99 = some (.ireturn, 1, none, [], 0, 0, 0, 0) := z_ftd (by decide +kernel)
theorem t84_100 : z_ft 84 100 = some (.iinc 4 3, 3, none, [], 0, 0, 0, 0) := z_ftd (by decide +kernel)
theorem t84_103 : z_ft 84 103 = some (.goto (-72), 3, none, [], 31, 0, 0, 0) := z_ftd (by decide +kernel)
theorem t84_106 : z_ft 84 106 = some (.aload_n 1, 1, none, [], 0, 0, 0, 0) := z_ftd (by decide +kernel)
theorem t84_107 : z_ft 84 107 = some (.iconst 0, 1, none, [], 0, 0, 0, 0) := z_ftd (by decide +kernel)
theorem t84_108 : z_ft 84 108 = some (.aload_n 0, 1, none, [], 0, 0, 0, 0) := z_ftd (by decide +kernel)
theorem t84_109 : z_ft 84 109 = some (.getfield 15, 3, none, [], 9, 1, 8, 0) := z_ftd (by decide +kernel)
theorem t84_112 : z_ft 84 112 = some (.iconst 0, 1, none, [], 0, 0, 0, 0) := z_ftd (by decide +kernel)
theorem t84_113 : z_ft 84 113 = some (.iload_n 2, 1, none, [], 0, 0, 0, 0) := z_ftd (by decide +kernel)
theorem t84_114 : z_ft 84 114 = some (.invokestatic 54, 3, none, [], 901, 0, 18, 0) := z_ftd (by decide +kernel)
theorem t84_117 : z_ft 84 117 = some (.aload_n 0, 1, none, [], 0, 0, 0, 0) := z_ftd (by decide +kernel)
theorem t84_118 : z_ft 84 118 = some (.iload_n 2, 1, none, [], 0, 0, 0, 0) := z_ftd (by decide +kernel)
theorem t84_119 : z_ft 84 119 = some (.iconst 3, 1, none, [], 0, 0, 0, 0) := z_ftd (by decide +kernel)
theorem t84_120 : z_ft 84 120 = some (.idiv, 1, none, [], 0, 0, 0, 0) := z_ftd (by decide +kernel)
theorem t84_121 : z_ft 84 121 = some (.putfield 9, 3, none, [], 9, 0, 7, 0) := z_ftd (by decide +kernel)
theorem t84_124 : z_ft 84 124 = some (.iconst 1, 1, none, [], 0, 0, 0, 0) := z_ftd (by decide +kernel)
theorem t84_125 : z_ft 84 125 = some (.ireturn, 1, none, [], 0, 0, 0, 0) := z_ftd (by decide +kernel)
noncomputable def b84_31 (d : Nat) (y1 : Nat) (y2 : Int32) (y3 : Nat) (y4 : Int32) (S : z_S) : Option (Int32 × z_S) := zk kI z_X0 d 84 31 [.ref 182, .ref y1, .int y2, .ref y3, .int y4, z_j] [] S
noncomputable def b84_64 (d : Nat) (y1 : Nat) (y2 : Int32) (y3 : Nat) (y4 : Int32) (S : z_S) : Option (Int32 × z_S) := zk kI z_X0 d 84 64 [.ref 182, .ref y1, .int y2, .ref y3, .int y4, z_j] [] S
noncomputable def b84_69 (d : Nat) (y1 : Nat) (y2 : Int32) (y3 : Nat) (y4 : Int32) (s0 : Int32) (S : z_S) : Option (Int32 × z_S) := zk kI z_X0 d 84 69 [.ref 182, .ref y1, .int y2, .ref y3, .int y4, z_j] [.int s0] S
theorem b84_31_eq (d : Nat) (y1 : Nat) (y2 : Int32) (y3 : Nat) (y4 : Int32) (S : z_S) (hW : z_W S) (hy1 : z_K y1 = 20) (hy3 : z_K y3 = 6) : b84_31 d y1 y2 y3 y4 S = (if y2 ≤ (y4 + (2 : Int32)) then (if 0 ≤ (y2).toInt ∧ 0 ≤ ((0 : Int32)).toInt ∧ 0 ≤ ((0 : Int32)).toInt ∧ ((0 : Int32)).toInt + (y2).toInt ≤ ((z_Ln y1) : Nat) ∧ ((0 : Int32)).toInt + (y2).toInt ≤ (48 : Nat) then some ((1 : Int32), sI (cI S y1 ((0 : Int32)).toNatClampNeg 183 ((0 : Int32)).toNatClampNeg (y2).toNatClampNeg) 182 0 (y2 / (3 : Int32))) else none) else (if z_in (y4 + (2 : Int32)) (z_Ln y1) then (if (gI S y1 ((y4 + (2 : Int32))).toNatClampNeg) = (255 : Int32) then b84_64 d y1 y2 y3 y4 S else (if z_in (y4 + (2 : Int32)) (z_Ln y1) then (zb (fI d 59 [.ref y3, .int (gI S y1 ((y4 + (2 : Int32))).toNatClampNeg)] S) fun v10 S11 => (if v10 = (0 : Int32) then b84_69 d y1 y2 y3 y4 (0 : Int32) S11 else b84_64 d y1 y2 y3 y4 S11)) else none)) else none)) := by
  unfold b84_31
  refine (k_iload t84_31 rfl rfl).trans ?_
  refine (k_iconst t84_33 rfl zci_2).trans ?_
  refine (k_iadd t84_34 rfl).trans ?_
  refine (k_iload_n t84_35 rfl rfl).trans ?_
  refine (k_icmp_ge t84_36 rfl).trans (z_ite (fun g5 => ?_) (fun g5 => ?_))
  · refine (k_aload_n t84_106 rfl rfl).trans ?_
    refine (k_iconst t84_107 rfl zci_0).trans ?_
    refine (k_aload_n t84_108 rfl rfl).trans ?_
    refine (k_getR t84_109 rfl hW zK_182 (by decide) (by decide) (zF_182_1 hW)).trans ?_
    refine (k_iconst t84_112 rfl zci_0).trans ?_
    refine (k_iload_n t84_113 rfl rfl).trans ?_
    refine (k_copy t84_114 rfl rfl hW (Nat.le_of_ble_eq_true rfl) hy1 zK_183 rfl zL_183).trans (z_ite (fun g6 => ?_) (fun _ => rfl))
    refine (k_aload_n t84_117 rfl rfl).trans ?_
    refine (k_iload_n t84_118 rfl rfl).trans ?_
    refine (k_iconst t84_119 rfl zci_3).trans ?_
    refine ((k_idiv t84_120 rfl).trans (if_neg (by decide))).trans ?_
    refine (k_putI t84_121 rfl hW.cI zK_182 (by decide) (by decide) (by decide)).trans ?_
    refine (k_iconst t84_124 rfl zci_1).trans ?_
    exact k_zretC t84_125 rfl (by decide) (by decide)
  · refine (k_aload_n t84_39 rfl rfl).trans ?_
    refine (k_iload t84_40 rfl rfl).trans ?_
    refine (k_iconst t84_42 rfl zci_2).trans ?_
    refine (k_iadd t84_43 rfl).trans ?_
    refine (k_iald t84_44 rfl hW hy1 rfl).trans (z_ite (fun g7 => ?_) (fun _ => rfl))
    refine (k_sipush t84_45 rfl zcs_255).trans ?_
    refine (k_icmp_eq t84_48 rfl).trans (z_ite (fun g8 => ?_) (fun g8 => ?_))
    · exact (zk_mk (ls' := [.ref 182, .ref y1, .int y2, .ref y3, .int y4, z_j]) t84_64 rfl)
    · refine (k_aload_n t84_51 rfl rfl).trans ?_
      refine (k_aload_n t84_52 rfl rfl).trans ?_
      refine (k_iload t84_53 rfl rfl).trans ?_
      refine (k_iconst t84_55 rfl zci_2).trans ?_
      refine (k_iadd t84_56 rfl).trans ?_
      refine (k_iald t84_57 rfl hW hy1 rfl).trans (z_ite (fun g9 => ?_) (fun _ => rfl))
      refine k_callI (as := [.ref y3, .int (gI S y1 ((y4 + (2 : Int32))).toNatClampNeg)]) (rest := []) t84_58 rfl rfl (by decide) rfl rfl (Nat.le_of_ble_eq_true rfl) rfl (z_rcV hW (hy3) (by decide)) (by decide) (Or.inr (by decide)) hW (fun v10 S11 hW11 => ?_)
      refine (k_if_eq t84_61 rfl).trans (z_ite (fun g12 => ?_) (fun g12 => ?_))
      · refine (k_iconst t84_68 rfl zci_0).trans ?_
        exact (zk_mk (ls' := [.ref 182, .ref y1, .int y2, .ref y3, .int y4, z_j]) t84_69 rfl)
      · exact (zk_mk (ls' := [.ref 182, .ref y1, .int y2, .ref y3, .int y4, z_j]) t84_64 rfl)
theorem b84_64_eq (d : Nat) (y1 : Nat) (y2 : Int32) (y3 : Nat) (y4 : Int32) (S : z_S) (hW : z_W S) (hy1 : z_K y1 = 20) (hy3 : z_K y3 = 6) : b84_64 d y1 y2 y3 y4 S = b84_69 d y1 y2 y3 y4 (1 : Int32) S := by
  unfold b84_64
  refine (k_iconst t84_64 rfl zci_1).trans ?_
  refine (k_goto t84_65 rfl).trans ?_
  exact (zk_mk (ls' := [.ref 182, .ref y1, .int y2, .ref y3, .int y4, z_j]) t84_69 rfl)
theorem b84_69_eq (d : Nat) (y1 : Nat) (y2 : Int32) (y3 : Nat) (y4 : Int32) (s0 : Int32) (S : z_S) (hW : z_W S) (hy1 : z_K y1 = 20) (hy3 : z_K y3 = 6) : b84_69 d y1 y2 y3 y4 s0 S = (if z_in y4 (z_Ln y1) then (if (30 : Int32) < (gI S y1 (y4).toNatClampNeg) then some ((0 : Int32), S) else (if z_in (y4 + (1 : Int32)) (z_Ln y1) then (zb (fI d 58 [.ref y3, .int (gI S y1 ((y4 + (1 : Int32))).toNatClampNeg)] S) fun v16 S17 => (if v16 = (0 : Int32) then some ((0 : Int32), S17) else (if ¬ s0 = (0 : Int32) then b84_31 d y1 y2 y3 (y4 + (3 : Int32)) S17 else some ((0 : Int32), S17)))) else none)) else none) := by
  unfold b84_69
  refine (k_istore (ls' := [.ref 182, .ref y1, .int y2, .ref y3, .int y4, .int s0]) t84_69 rfl rfl).trans ?_
  refine (k_aload_n t84_71 rfl rfl).trans ?_
  refine (k_iload t84_72 rfl rfl).trans ?_
  refine (k_iald t84_74 rfl hW hy1 rfl).trans (z_ite (fun g13 => ?_) (fun _ => rfl))
  refine (k_bipush t84_75 rfl zcb_30).trans ?_
  refine (k_icmp_gt t84_77 rfl).trans (z_ite (fun g14 => ?_) (fun g14 => ?_))
  · refine (zk_mk (ls' := [z_j, z_j, z_j, z_j, z_j, z_j]) t84_98 rfl).trans ?_
    refine (k_iconst t84_98 rfl zci_0).trans ?_
    exact k_zretC t84_99 rfl (by decide) (by decide)
  · refine (k_aload_n t84_80 rfl rfl).trans ?_
    refine (k_aload_n t84_81 rfl rfl).trans ?_
    refine (k_iload t84_82 rfl rfl).trans ?_
    refine (k_iconst t84_84 rfl zci_1).trans ?_
    refine (k_iadd t84_85 rfl).trans ?_
    refine (k_iald t84_86 rfl hW hy1 rfl).trans (z_ite (fun g15 => ?_) (fun _ => rfl))
    refine k_callI (as := [.ref y3, .int (gI S y1 ((y4 + (1 : Int32))).toNatClampNeg)]) (rest := []) t84_87 rfl rfl (by decide) rfl rfl (Nat.le_of_ble_eq_true rfl) rfl (z_rcV hW (hy3) (by decide)) (by decide) (Or.inr (by decide)) hW (fun v16 S17 hW17 => ?_)
    refine (k_if_eq t84_90 rfl).trans (z_ite (fun g18 => ?_) (fun g18 => ?_))
    · refine (zk_mk (ls' := [z_j, z_j, z_j, z_j, z_j, z_j]) t84_98 rfl).trans ?_
      refine (k_iconst t84_98 rfl zci_0).trans ?_
      exact k_zretC t84_99 rfl (by decide) (by decide)
    · refine (k_iload t84_93 rfl rfl).trans ?_
      refine (k_if_ne t84_95 rfl).trans (z_ite (fun g19 => ?_) (fun g19 => ?_))
      · refine (k_iinc (b := (y4 + (3 : Int32))) (ls' := [.ref 182, .ref y1, .int y2, .ref y3, .int (y4 + (3 : Int32)), .int s0]) t84_100 rfl rfl (by rw [zci_3]) rfl).trans ?_
        refine (k_goto t84_103 rfl).trans ?_
        exact (zk_mk (ls' := [.ref 182, .ref y1, .int y2, .ref y3, .int (y4 + (3 : Int32)), z_j]) t84_31 rfl)
      · refine (zk_mk (ls' := [z_j, z_j, z_j, z_j, z_j, z_j]) t84_98 rfl).trans ?_
        refine (k_iconst t84_98 rfl zci_0).trans ?_
        exact k_zretC t84_99 rfl (by decide) (by decide)
-- X9_meetRows
theorem e84 (d : Nat) (a1 : Nat) (x2 : Int32) (p3 : Nat) (S : z_S) (hW : z_W S) (ha1 : z_K a1 = 20) (hp3 : z_K p3 = 6) : fI (d + 1) 84 [.ref 182, .ref a1, .int x2, .ref p3] S = (if x2 < (3 : Int32) then some ((0 : Int32), S) else (if (Int32.ofNat 48) < x2 then some ((0 : Int32), S) else (if (Int32.ofNat (z_Ln a1)) < x2 then some ((0 : Int32), S) else (if (x2 - x2 / (3 : Int32) * (3 : Int32)) = (0 : Int32) then b84_31 d a1 x2 p3 (0 : Int32) S else some ((0 : Int32), S))))) := by
  refine (fI_en (Nat.le_of_ble_eq_true rfl) rfl).trans ?_
  refine (k_iload_n t84_0 rfl rfl).trans ?_
  refine (k_iconst t84_1 rfl zci_3).trans ?_
  refine (k_icmp_lt t84_2 rfl).trans (z_ite (fun g1 => ?_) (fun g1 => ?_))
  · refine (zk_mk (ls' := [z_j, z_j, z_j, z_j, z_j, z_j]) t84_26 rfl).trans ?_
    refine (k_iconst t84_26 rfl zci_0).trans ?_
    exact k_zretC t84_27 rfl (by decide) (by decide)
  · refine (k_iload_n t84_5 rfl rfl).trans ?_
    refine (k_aload_n t84_6 rfl rfl).trans ?_
    refine (k_getR t84_7 rfl hW zK_182 (by decide) (by decide) (zF_182_1 hW)).trans ?_
    refine (k_alen t84_10 rfl hW (by rw [zK_183]; decide) zL_183).trans ?_
    refine (k_icmp_gt t84_11 rfl).trans (z_ite (fun g2 => ?_) (fun g2 => ?_))
    · refine (zk_mk (ls' := [z_j, z_j, z_j, z_j, z_j, z_j]) t84_26 rfl).trans ?_
      refine (k_iconst t84_26 rfl zci_0).trans ?_
      exact k_zretC t84_27 rfl (by decide) (by decide)
    · refine (k_iload_n t84_14 rfl rfl).trans ?_
      refine (k_aload_n t84_15 rfl rfl).trans ?_
      refine (k_alen t84_16 rfl hW (by rw [ha1]; decide) rfl).trans ?_
      refine (k_icmp_gt t84_17 rfl).trans (z_ite (fun g3 => ?_) (fun g3 => ?_))
      · refine (zk_mk (ls' := [z_j, z_j, z_j, z_j, z_j, z_j]) t84_26 rfl).trans ?_
        refine (k_iconst t84_26 rfl zci_0).trans ?_
        exact k_zretC t84_27 rfl (by decide) (by decide)
      · refine (k_iload_n t84_20 rfl rfl).trans ?_
        refine (k_iconst t84_21 rfl zci_3).trans ?_
        refine ((k_irem t84_22 rfl).trans (if_neg (by decide))).trans ?_
        refine (k_if_eq t84_23 rfl).trans (z_ite (fun g4 => ?_) (fun g4 => ?_))
        · refine (k_iconst t84_28 rfl zci_0).trans ?_
          refine (k_istore (ls' := [.ref 182, .ref a1, .int x2, .ref p3, .int (0 : Int32), z_j]) t84_29 rfl rfl).trans ?_
          exact (zk_mk (ls' := [.ref 182, .ref a1, .int x2, .ref p3, .int (0 : Int32), z_j]) t84_31 rfl)
        · refine (zk_mk (ls' := [z_j, z_j, z_j, z_j, z_j, z_j]) t84_26 rfl).trans ?_
          refine (k_iconst t84_26 rfl zci_0).trans ?_
          exact k_zretC t84_27 rfl (by decide) (by decide)
theorem t85_0 : z_ft 85 0 = some (.iconst 0, 1, none, [], 0, 0, 0, 0) := z_ftd (by decide +kernel)
theorem t85_1 : z_ft 85 1 = some (.istore 4, 2, none, [], 0, 0, 0, 0) := z_ftd (by decide +kernel)
theorem t85_3 : z_ft 85 3 = some (.iload 4, 2, (some [0, 1, 2, 3, 4]), [], 0, 0, 0, 0) := z_ftd (by decide +kernel)
theorem t85_5 : z_ft 85 5 = some (.bipush 40, 2, none, [], 0, 0, 0, 0) := z_ftd (by decide +kernel)
theorem t85_7 : z_ft 85 7 = some (.if_icmp .ge 17, 3, none, [], 24, 0, 0, 0) := z_ftd (by decide +kernel)
theorem t85_10 : z_ft 85 10 = some (.aload_n 0, 1, none, [], 0, 0, 0, 0) := z_ftd (by decide +kernel)
theorem t85_11 : z_ft 85 11 = some (.getfield 25, 3, none, [], 9, 3, 10, 0) := z_ftd (by decide +kernel)
theorem t85_14 : z_ft 85 14 = some (.iload 4, 2, none, [], 0, 0, 0, 0) := z_ftd (by decide +kernel)
theorem t85_16 : z_ft 85 16 = some (.iconst 1, 1, none, [], 0, 0, 0, 0) := z_ftd (by decide +kernel)
theorem t85_17 : z_ft 85 17 = some (.bastore, 1, none, [], 0, 0, 0, 0) := z_ftd (by decide +kernel)
theorem t85_18 : z_ft 85 18 = some (.iinc 4 1, 3, none, [], 0, 0, 0, 0) := z_ftd (by decide +kernel)
theorem t85_21 : z_ft 85 21 = some (.goto (-18), 3, none, [], 3, 0, 0, 0) := z_ftd (by decide +kernel)
theorem t85_24 : z_ft 85 24 = some (.aload_n 0, 1, none, [], 0, 0, 0, 0) := z_ftd (by decide +kernel)
theorem t85_25 : z_ft 85 25 = some (.aload_n 1, 1, none, [], 0, 0, 0, 0) := z_ftd (by decide +kernel)
theorem t85_26 : z_ft 85 26 = some (.aload_n 2, 1, none, [], 0, 0, 0, 0) := z_ftd (by decide +kernel)
theorem t85_27 : z_ft 85 27 = some (.iload_n 3, 1, none, [], 0, 0, 0, 0) := z_ftd (by decide +kernel)
theorem t85_28 : z_ft 85 28 = some (.invokevirtual 60, 3, none, [], 86, 0, 19, 0) := z_ftd (by decide +kernel)
theorem t85_31 : z_ft 85 31 = some (.aload_n 0, 1, none, [], 0, 0, 0, 0) := z_ftd (by decide +kernel)
theorem t85_32 : z_ft 85 32 = some (.invokevirtual 64, 3, none, [], 87, 0, 22, 0) := z_ftd (by decide +kernel)
theorem t85_35 : z_ft 85 35 = some (.istore 4, 2, none, [], 0, 0, 0, 0) := z_ftd (by decide +kernel)
theorem t85_37 : z_ft 85 37 = some (.iconst 0, 1, none, [], 0, 0, 0, 0) := z_ftd (by decide +kernel)
theorem t85_38 : z_ft 85 38 = some (.istore 5, 2, none, [], 0, 0, 0, 0) := z_ftd (by decide +kernel)
theorem t85_40 : z_ft 85 40 = some (.iload 5, 2, (some [0, 1, 2, 4, 5]), [], 0, 0, 0, 0) := z_ftd (by decide +kernel)
theorem t85_42 : z_ft 85 42 = some (.iload 4, 2, none, [], 0, 0, 0, 0) := z_ftd (by decide +kernel)
theorem t85_44 : z_ft 85 44 = some (.if_icmp .gt 75, 3, none, [], 119, 0, 0, 0) := z_ftd (by decide +kernel)
theorem t85_47 : z_ft 85 47 = some (.iload 5, 2, none, [], 0, 0, 0, 0) := z_ftd (by decide +kernel)
theorem t85_49 : z_ft 85 49 = some (.ifCond .le 8, 3, none, [], 57, 0, 0, 0) := z_ftd (by decide +kernel)
theorem t85_52 : z_ft 85 52 = some (.aload_n 0, 1, none, [], 0, 0, 0, 0) := z_ftd (by decide +kernel)
theorem t85_53 : z_ft 85 53 = some (.aload_n 1, 1, none, [], 0, 0, 0, 0) := z_ftd (by decide +kernel)
theorem t85_54 : z_ft 85 54 = some (.invokevirtual 68, 3, none, [], 88, 0, 24, 0) := z_ftd (by decide +kernel)
theorem t85_57 : z_ft 85 57 = some (.iconst 0, 1, (some [0, 1, 2, 4, 5]), [], 0, 0, 0, 0) := z_ftd (by decide +kernel)
theorem t85_58 : z_ft 85 58 = some (.istore 6, 2, none, [], 0, 0, 0, 0) := z_ftd (by decide +kernel)
theorem t85_60 : z_ft 85 60 = some (.iload 6, 2, (some [0, 1, 2, 4, 5, 6]), [], 0, 0, 0, 0) := z_ftd (by decide +kernel)
theorem t85_62 : z_ft 85 62 = some (.aload_n 0, 1, none, [], 0, 0, 0, 0) := z_ftd (by decide +kernel)
theorem t85_63 : z_ft 85 63 = some (.getfield 9, 3, none, [], 9, 0, 7, 0) := z_ftd (by decide +kernel)
theorem t85_66 : z_ft 85 66 = some (.if_icmp .ge 47, 3, none, [], 113, 0, 0, 0) := z_ftd (by decide +kernel)
theorem t85_69 : z_ft 85 69 = some (.aload_n 0, 1, none, [], 0, 0, 0, 0) := z_ftd (by decide +kernel)
theorem t85_70 : z_ft 85 70 = some (.getfield 15, 3, none, [], 9, 1, 8, 0) := z_ftd (by decide +kernel)
theorem t85_73 : z_ft 85 73 = some (.iconst 3, 1, none, [], 0, 0, 0, 0) := z_ftd (by decide +kernel)
theorem t85_74 : z_ft 85 74 = some (.iload 6, 2, none, [], 0, 0, 0, 0) := z_ftd (by decide +kernel)
theorem t85_76 : z_ft 85 76 = some (.imul, 1, none, [], 0, 0, 0, 0) := z_ftd (by decide +kernel)
theorem t85_77 : z_ft 85 77 = some (.iaload, 1, none, [], 0, 0, 0, 0) := z_ftd (by decide +kernel)
theorem t85_78 : z_ft 85 78 = some (.iload 5, 2, none, [], 0, 0, 0, 0) := z_ftd (by decide +kernel)
theorem t85_80 : z_ft 85 80 = some (.if_icmp .ne 27, 3, none, [], 107, 0, 0, 0) := z_ftd (by decide +kernel)
theorem t85_83 : z_ft 85 83 = some (.aload_n 0, 1, none, [], 0, 0, 0, 0) := z_ftd (by decide +kernel)
theorem t85_84 : z_ft 85 84 = some (.iload 6, 2, none, [], 0, 0, 0, 0) := z_ftd (by decide +kernel)
theorem t85_86 : z_ft 85 86 = some (.aload_n 2, 1, none, [], 0, 0, 0, 0) := z_ftd (by decide +kernel)
theorem t85_87 : z_ft 85 87 = some (.getfield 72, 3, none, [], 8, 0, 2, 0) := z_ftd (by decide +kernel)
theorem t85_90 : z_ft 85 90 = some (.iload 5, 2, none, [], 0, 0, 0, 0) := z_ftd (by decide +kernel)
theorem t85_92 : z_ft 85 92 = some (.iadd, 1, none, [], 0, 0, 0, 0) := z_ftd (by decide +kernel)
theorem t85_93 : z_ft 85 93 = some (.sipush 999, 3, none, [], 0, 0, 0, 0) := z_ftd (by decide +kernel)
theorem t85_96 : z_ft 85 96 = some (.if_icmp .gt 7, 3, none, [], 103, 0, 0, 0) := z_ftd (by decide +kernel)
theorem t85_99 : z_ft 85 99 = some (.iconst 1, 1, none, [], 0, 0, 0, 0) := z_ftd (by decide +kernel)
theorem t85_100 : z_ft 85 100 = some (.goto 4, 3, none, [], 104, 0, 0, 0) := z_ftd (by decide +kernel)
theorem t85_103 : z_ft 85 103 = some (.iconst 0, 1, none, [], 0, 0, 0, 0) := z_ftd (by decide +kernel)
theorem t85_104 : z_ft 85 104 = some (.invokevirtual 75, 3, (some [0, 1, 2, 4, 5, 6]), [], 89, 0, 26, 0) := z_ftd (by decide +kernel)
theorem t85_107 : z_ft 85 107 = some (.iinc 6 1, 3, (some [0, 1, 2, 4, 5, 6]), [], 0, 0, 0, 0) := z_ftd (by decide +kernel)
theorem t85_110 : z_ft 85 110 = some (.goto (-50), 3, none, [], 60, 0, 0, 0) := z_ftd (by decide +kernel)
theorem t85_113 : z_ft 85 113 = some (.iinc 5 1, 3, none, [], 0, 0, 0, 0) := z_ftd (by decide +kernel)
theorem t85_116 : z_ft 85 116 = some (.goto (-76), 3, none, [], 40, 0, 0, 0) := z_ftd (by decide +kernel)
theorem t85_119 : z_ft 85 119 = some (.return_, 1, none, [], 0, 0, 0, 0) := z_ftd (by decide +kernel)
noncomputable def b85_3 (d : Nat) (y2 : Nat) (y3 : Int32) (y4 : Int32) (S : z_S) : Option z_S := zk kV z_X0 d 85 3 [.ref 182, .ref 22, .ref y2, .int y3, .int y4, z_j, z_j] [] S
noncomputable def b85_40 (d : Nat) (y2 : Nat) (y4 : Int32) (y5 : Int32) (S : z_S) : Option z_S := zk kV z_X0 d 85 40 [.ref 182, .ref 22, .ref y2, z_j, .int y4, .int y5, z_j] [] S
noncomputable def b85_57 (d : Nat) (y2 : Nat) (y4 : Int32) (y5 : Int32) (S : z_S) : Option z_S := zk kV z_X0 d 85 57 [.ref 182, .ref 22, .ref y2, z_j, .int y4, .int y5, z_j] [] S
noncomputable def b85_60 (d : Nat) (y2 : Nat) (y4 : Int32) (y5 : Int32) (y6 : Int32) (S : z_S) : Option z_S := zk kV z_X0 d 85 60 [.ref 182, .ref 22, .ref y2, z_j, .int y4, .int y5, .int y6] [] S
noncomputable def b85_107 (d : Nat) (y2 : Nat) (y4 : Int32) (y5 : Int32) (y6 : Int32) (S : z_S) : Option z_S := zk kV z_X0 d 85 107 [.ref 182, .ref 22, .ref y2, z_j, .int y4, .int y5, .int y6] [] S
noncomputable def b85_104 (d : Nat) (y2 : Nat) (y4 : Int32) (y5 : Int32) (y6 : Int32) (s0 : Int32) (s1 : Int32) (S : z_S) : Option z_S := zk kV z_X0 d 85 104 [.ref 182, .ref 22, .ref y2, z_j, .int y4, .int y5, .int y6] [.int s0, .int s1, .ref 182] S
theorem b85_3_eq (d : Nat) (y2 : Nat) (y3 : Int32) (y4 : Int32) (S : z_S) (hW : z_W S) (hy2 : z_K y2 = 8) : b85_3 d y2 y3 y4 S = (if (40 : Int32) ≤ y4 then ((fV d 86 [.ref 182, .ref 22, .ref y2, .int y3] S).bind fun S3 => (zb (fI d 87 [.ref 182] S3) fun v4 S5 => b85_40 d y2 v4 (0 : Int32) S5)) else (if z_in y4 40 ∧ ((1 : Int32) = 0 ∨ (1 : Int32) = 1) then b85_3 d y2 y3 (y4 + (1 : Int32)) (sI S 185 (y4).toNatClampNeg (1 : Int32)) else none)) := by
  unfold b85_3
  refine (k_iload t85_3 rfl rfl).trans ?_
  refine (k_bipush t85_5 rfl zcb_40).trans ?_
  refine (k_icmp_ge t85_7 rfl).trans (z_ite (fun g1 => ?_) (fun g1 => ?_))
  · refine (k_aload_n t85_24 rfl rfl).trans ?_
    refine (k_aload_n t85_25 rfl rfl).trans ?_
    refine (k_aload_n t85_26 rfl rfl).trans ?_
    refine (k_iload_n t85_27 rfl rfl).trans ?_
    refine k_callV (as := [.ref 182, .ref 22, .ref y2, .int y3]) (rest := []) t85_28 rfl rfl (by decide) rfl rfl (Nat.le_of_ble_eq_true rfl) rfl (z_rcV hW (zK_182) (by decide)) (by decide) (by decide) hW (fun S3 hW3 => ?_)
    refine (k_aload_n t85_31 rfl rfl).trans ?_
    refine k_callI (as := [.ref 182]) (rest := []) t85_32 rfl rfl (by decide) rfl rfl (Nat.le_of_ble_eq_true rfl) rfl (z_rcV hW3 (zK_182) (by decide)) (by decide) (Or.inl (by decide)) hW3 (fun v4 S5 hW5 => ?_)
    refine (k_istore (ls' := [.ref 182, .ref 22, .ref y2, .int y3, .int v4, z_j, z_j]) t85_35 rfl rfl).trans ?_
    refine (k_iconst t85_37 rfl zci_0).trans ?_
    refine (k_istore (ls' := [.ref 182, .ref 22, .ref y2, .int y3, .int v4, .int (0 : Int32), z_j]) t85_38 rfl rfl).trans ?_
    exact (zk_mk (ls' := [.ref 182, .ref 22, .ref y2, z_j, .int v4, .int (0 : Int32), z_j]) t85_40 rfl)
  · refine (k_aload_n t85_10 rfl rfl).trans ?_
    refine (k_getR t85_11 rfl hW zK_182 (by decide) (by decide) (zF_182_3 hW)).trans ?_
    refine (k_iload t85_14 rfl rfl).trans ?_
    refine (k_iconst t85_16 rfl zci_1).trans ?_
    refine (k_zast t85_17 rfl hW zK_185 zL_185).trans (z_ite (fun g6 => ?_) (fun _ => rfl))
    refine (k_iinc (b := (y4 + (1 : Int32))) (ls' := [.ref 182, .ref 22, .ref y2, .int y3, .int (y4 + (1 : Int32)), z_j, z_j]) t85_18 rfl rfl (by rw [zci_1]) rfl).trans ?_
    refine (k_goto t85_21 rfl).trans ?_
    exact (zk_mk (ls' := [.ref 182, .ref 22, .ref y2, .int y3, .int (y4 + (1 : Int32)), z_j, z_j]) t85_3 rfl)
theorem b85_40_eq (d : Nat) (y2 : Nat) (y4 : Int32) (y5 : Int32) (S : z_S) (hW : z_W S) (hy2 : z_K y2 = 8) : b85_40 d y2 y4 y5 S = (if y4 < y5 then some S else (if y5 ≤ (0 : Int32) then b85_57 d y2 y4 y5 S else ((fV d 88 [.ref 182, .ref 22] S).bind fun S10 => b85_57 d y2 y4 y5 S10))) := by
  unfold b85_40
  refine (k_iload t85_40 rfl rfl).trans ?_
  refine (k_iload t85_42 rfl rfl).trans ?_
  refine (k_icmp_gt t85_44 rfl).trans (z_ite (fun g7 => ?_) (fun g7 => ?_))
  · exact k_return t85_119 rfl (by decide)
  · refine (k_iload t85_47 rfl rfl).trans ?_
    refine (k_if_le t85_49 rfl).trans (z_ite (fun g8 => ?_) (fun g8 => ?_))
    · exact (zk_mk (ls' := [.ref 182, .ref 22, .ref y2, z_j, .int y4, .int y5, z_j]) t85_57 rfl)
    · refine (k_aload_n t85_52 rfl rfl).trans ?_
      refine (k_aload_n t85_53 rfl rfl).trans ?_
      refine k_callV (as := [.ref 182, .ref 22]) (rest := []) t85_54 rfl rfl (by decide) rfl rfl (Nat.le_of_ble_eq_true rfl) rfl (z_rcV hW (zK_182) (by decide)) (by decide) (by decide) hW (fun S10 hW10 => ?_)
      exact (zk_mk (ls' := [.ref 182, .ref 22, .ref y2, z_j, .int y4, .int y5, z_j]) t85_57 rfl)
theorem b85_57_eq (d : Nat) (y2 : Nat) (y4 : Int32) (y5 : Int32) (S : z_S) (hW : z_W S) (hy2 : z_K y2 = 8) : b85_57 d y2 y4 y5 S = b85_60 d y2 y4 y5 (0 : Int32) S := by
  unfold b85_57
  refine (k_iconst t85_57 rfl zci_0).trans ?_
  refine (k_istore (ls' := [.ref 182, .ref 22, .ref y2, z_j, .int y4, .int y5, .int (0 : Int32)]) t85_58 rfl rfl).trans ?_
  exact (zk_mk (ls' := [.ref 182, .ref 22, .ref y2, z_j, .int y4, .int y5, .int (0 : Int32)]) t85_60 rfl)
theorem b85_60_eq (d : Nat) (y2 : Nat) (y4 : Int32) (y5 : Int32) (y6 : Int32) (S : z_S) (hW : z_W S) (hy2 : z_K y2 = 8) : b85_60 d y2 y4 y5 y6 S = (if (gI S 182 0) ≤ y6 then b85_40 d y2 y4 (y5 + (1 : Int32)) S else (if z_in ((3 : Int32) * y6) 48 then (if ¬ (gI S 183 (((3 : Int32) * y6)).toNatClampNeg) = y5 then b85_107 d y2 y4 y5 y6 S else (if (999 : Int32) < ((gI S y2 0) + y5) then b85_104 d y2 y4 y5 y6 (0 : Int32) y6 S else b85_104 d y2 y4 y5 y6 (1 : Int32) y6 S)) else none)) := by
  unfold b85_60
  refine (k_iload t85_60 rfl rfl).trans ?_
  refine (k_aload_n t85_62 rfl rfl).trans ?_
  refine (k_getI t85_63 rfl hW zK_182 (by decide) (by decide)).trans ?_
  refine (k_icmp_ge t85_66 rfl).trans (z_ite (fun g11 => ?_) (fun g11 => ?_))
  · refine (k_iinc (b := (y5 + (1 : Int32))) (ls' := [.ref 182, .ref 22, .ref y2, z_j, .int y4, .int (y5 + (1 : Int32)), .int y6]) t85_113 rfl rfl (by rw [zci_1]) rfl).trans ?_
    refine (k_goto t85_116 rfl).trans ?_
    exact (zk_mk (ls' := [.ref 182, .ref 22, .ref y2, z_j, .int y4, .int (y5 + (1 : Int32)), z_j]) t85_40 rfl)
  · refine (k_aload_n t85_69 rfl rfl).trans ?_
    refine (k_getR t85_70 rfl hW zK_182 (by decide) (by decide) (zF_182_1 hW)).trans ?_
    refine (k_iconst t85_73 rfl zci_3).trans ?_
    refine (k_iload t85_74 rfl rfl).trans ?_
    refine (k_imul t85_76 rfl).trans ?_
    refine (k_iald t85_77 rfl hW zK_183 zL_183).trans (z_ite (fun g12 => ?_) (fun _ => rfl))
    refine (k_iload t85_78 rfl rfl).trans ?_
    refine (k_icmp_ne t85_80 rfl).trans (z_ite (fun g13 => ?_) (fun g13 => ?_))
    · exact (zk_mk (ls' := [.ref 182, .ref 22, .ref y2, z_j, .int y4, .int y5, .int y6]) t85_107 rfl)
    · refine (k_aload_n t85_83 rfl rfl).trans ?_
      refine (k_iload t85_84 rfl rfl).trans ?_
      refine (k_aload_n t85_86 rfl rfl).trans ?_
      refine (k_getI t85_87 rfl hW hy2 (by decide) (by decide)).trans ?_
      refine (k_iload t85_90 rfl rfl).trans ?_
      refine (k_iadd t85_92 rfl).trans ?_
      refine (k_sipush t85_93 rfl zcs_999).trans ?_
      refine (k_icmp_gt t85_96 rfl).trans (z_ite (fun g14 => ?_) (fun g14 => ?_))
      · refine (k_iconst t85_103 rfl zci_0).trans ?_
        exact (zk_mk (ls' := [.ref 182, .ref 22, .ref y2, z_j, .int y4, .int y5, .int y6]) t85_104 rfl)
      · refine (k_iconst t85_99 rfl zci_1).trans ?_
        refine (k_goto t85_100 rfl).trans ?_
        exact (zk_mk (ls' := [.ref 182, .ref 22, .ref y2, z_j, .int y4, .int y5, .int y6]) t85_104 rfl)
theorem b85_107_eq (d : Nat) (y2 : Nat) (y4 : Int32) (y5 : Int32) (y6 : Int32) (S : z_S) (hW : z_W S) (hy2 : z_K y2 = 8) : b85_107 d y2 y4 y5 y6 S = b85_60 d y2 y4 y5 (y6 + (1 : Int32)) S := by
  unfold b85_107
  refine (k_iinc (b := (y6 + (1 : Int32))) (ls' := [.ref 182, .ref 22, .ref y2, z_j, .int y4, .int y5, .int (y6 + (1 : Int32))]) t85_107 rfl rfl (by rw [zci_1]) rfl).trans ?_
  refine (k_goto t85_110 rfl).trans ?_
  exact (zk_mk (ls' := [.ref 182, .ref 22, .ref y2, z_j, .int y4, .int y5, .int (y6 + (1 : Int32))]) t85_60 rfl)
theorem b85_104_eq (d : Nat) (y2 : Nat) (y4 : Int32) (y5 : Int32) (y6 : Int32) (s0 : Int32) (s1 : Int32) (S : z_S) (hW : z_W S) (hy2 : z_K y2 = 8) : b85_104 d y2 y4 y5 y6 s0 s1 S = ((fV d 89 [.ref 182, .int s1, .int s0] S).bind fun S16 => b85_107 d y2 y4 y5 y6 S16) := by
  unfold b85_104
  refine k_callV (as := [.ref 182, .int s1, .int s0]) (rest := []) t85_104 rfl rfl (by decide) rfl rfl (Nat.le_of_ble_eq_true rfl) rfl (z_rcV hW (zK_182) (by decide)) (by decide) (by decide) hW (fun S16 hW16 => ?_)
  exact (zk_mk (ls' := [.ref 182, .ref 22, .ref y2, z_j, .int y4, .int y5, .int y6]) t85_107 rfl)
-- X9_sift
theorem e85 (d : Nat) (p2 : Nat) (x3 : Int32) (S : z_S) (hW : z_W S) (hp2 : z_K p2 = 8) : fV (d + 1) 85 [.ref 182, .ref 22, .ref p2, .int x3] S = b85_3 d p2 x3 (0 : Int32) S := by
  refine (fV_en (Nat.le_of_ble_eq_true rfl) rfl).trans ?_
  refine (k_iconst t85_0 rfl zci_0).trans ?_
  refine (k_istore (ls' := [.ref 182, .ref 22, .ref p2, .int x3, .int (0 : Int32), z_j, z_j]) t85_1 rfl rfl).trans ?_
  exact (zk_mk (ls' := [.ref 182, .ref 22, .ref p2, .int x3, .int (0 : Int32), z_j, z_j]) t85_3 rfl)
theorem t86_0 : z_ft 86 0 = some (.iconst 0, 1, none, [], 0, 0, 0, 0) := z_ftd (by decide +kernel)
theorem t86_1 : z_ft 86 1 = some (.istore 4, 2, none, [], 0, 0, 0, 0) := z_ftd (by decide +kernel)
theorem t86_3 : z_ft 86 3 = some (.aload_n 0, 1, none, [], 0, 0, 0, 0) := z_ftd (by decide +kernel)
theorem t86_4 : z_ft 86 4 = some (.iconst 0, 1, none, [], 0, 0, 0, 0) := z_ftd (by decide +kernel)
theorem t86_5 : z_ft 86 5 = some (.putfield 29, 3, none, [], 9, 4, 11, 0) := z_ftd (by decide +kernel)
theorem t86_8 : z_ft 86 8 = some (.aload_n 0, 1, (some [0, 1, 2, 3, 4]), [], 0, 0, 0, 0) := z_ftd (by decide +kernel)
theorem t86_9 : z_ft 86 9 = some (.getfield 29, 3, none, [], 9, 4, 11, 0) := z_ftd (by decide +kernel)
theorem t86_12 : z_ft 86 12 = some (.bipush 40, 2, none, [], 0, 0, 0, 0) := z_ftd (by decide +kernel)
theorem t86_14 : z_ft 86 14 = some (.if_icmp .ge 68, 3, none, [], 82, 0, 0, 0) := z_ftd (by decide +kernel)
theorem t86_17 : z_ft 86 17 = some (.iload 4, 2, none, [], 0, 0, 0, 0) := z_ftd (by decide +kernel)
theorem t86_19 : z_ft 86 19 = some (.ifCond .ne 63, 3, none, [], 82, 0, 0, 0) := z_ftd (by decide +kernel)
theorem t86_22 : z_ft 86 22 = some (.aload_n 0, 1, none, [], 0, 0, 0, 0) := z_ftd (by decide +kernel)
theorem t86_23 : z_ft 86 23 = some (.getfield 21, 3, none, [], 9, 2, 9, 0) := z_ftd (by decide +kernel)
theorem t86_26 : z_ft 86 26 = some (.aload_n 0, 1, none, [], 0, 0, 0, 0) := z_ftd (by decide +kernel)
theorem t86_27 : z_ft 86 27 = some (.getfield 29, 3, none, [], 9, 4, 11, 0) := z_ftd (by decide +kernel)
theorem t86_30 : z_ft 86 30 = some (.aaload, 1, none, [], 0, 0, 0, 0) := z_ftd (by decide +kernel)
theorem t86_31 : z_ft 86 31 = some (.aload_n 2, 1, none, [], 0, 0, 0, 0) := z_ftd (by decide +kernel)
theorem t86_32 : z_ft 86 32 = some (.invokevirtual 79, 3, none, [], 75, 0, 20, 0) := z_ftd (by decide +kernel)
theorem t86_35 : z_ft 86 35 = some (.aload_n 0, 1, none, [], 0, 0, 0, 0) := z_ftd (by decide +kernel)
theorem t86_36 : z_ft 86 36 = some (.dup, 1, none, [], 0, 0, 0, 0) := z_ftd (by decide +kernel)
theorem t86_37 : z_ft 86 37 = some (.getfield 29, 3, none, [], 9, 4, 11, 0) := z_ftd (by decide +kernel)
theorem t86_40 : z_ft 86 40 = some (.iconst 1, 1, none, [], 0, 0, 0, 0) := z_ftd (by decide +kernel)
theorem t86_41 : z_ft 86 41 = some (.iadd, 1, none, [], 0, 0, 0, 0) := z_ftd (by decide +kernel)
theorem t86_42 : z_ft 86 42 = some (.putfield 29, 3, none, [], 9, 4, 11, 0) := z_ftd (by decide +kernel)
theorem t86_45 : z_ft 86 45 = some (.aload_n 1, 1, none, [], 0, 0, 0, 0) := z_ftd (by decide +kernel)
theorem t86_46 : z_ft 86 46 = some (.aload_n 0, 1, none, [], 0, 0, 0, 0) := z_ftd (by decide +kernel)
theorem t86_47 : z_ft 86 47 = some (.getfield 21, 3, none, [], 9, 2, 9, 0) := z_ftd (by decide +kernel)
theorem t86_50 : z_ft 86 50 = some (.aload_n 0, 1, none, [], 0, 0, 0, 0) := z_ftd (by decide +kernel)
theorem t86_51 : z_ft 86 51 = some (.getfield 29, 3, none, [], 9, 4, 11, 0) := z_ftd (by decide +kernel)
theorem t86_54 : z_ft 86 54 = some (.iconst 1, 1, none, [], 0, 0, 0, 0) := z_ftd (by decide +kernel)
theorem t86_55 : z_ft 86 55 = some (.isub, 1, none, [], 0, 0, 0, 0) := z_ftd (by decide +kernel)
theorem t86_56 : z_ft 86 56 = some (.aaload, 1, none, [], 0, 0, 0, 0) := z_ftd (by decide +kernel)
theorem t86_57 : z_ft 86 57 = some (.iload_n 3, 1, none, [], 0, 0, 0, 0) := z_ftd (by decide +kernel)
theorem t86_58 : z_ft 86 58 = some (.aload_n 0, 1, none, [], 0, 0, 0, 0) := z_ftd (by decide +kernel)
theorem t86_59 : z_ft 86 59 = some (.getfield 29, 3, none, [], 9, 4, 11, 0) := z_ftd (by decide +kernel)
theorem t86_62 : z_ft 86 62 = some (.invokevirtual 83, 3, none, [], 32, 0, 21, 0) := z_ftd (by decide +kernel)
theorem t86_65 : z_ft 86 65 = some (.aload_n 0, 1, none, [], 0, 0, 0, 0) := z_ftd (by decide +kernel)
theorem t86_66 : z_ft 86 66 = some (.getfield 29, 3, none, [], 9, 4, 11, 0) := z_ftd (by decide +kernel)
theorem t86_69 : z_ft 86 69 = some (.if_icmp .ge 7, 3, none, [], 76, 0, 0, 0) := z_ftd (by decide +kernel)
theorem t86_72 : z_ft 86 72 = some (.iconst 1, 1, none, [], 0, 0, 0, 0) := z_ftd (by decide +kernel)
theorem t86_73 : z_ft 86 73 = some (.goto 4, 3, none, [], 77, 0, 0, 0) := z_ftd (by decide +kernel)
theorem t86_76 : z_ft 86 76 = some (.iconst 0, 1, none, [], 0, 0, 0, 0) := z_ftd (by decide +kernel)
theorem t86_77 : z_ft 86 77 = some (.istore 4, 2, (some [0, 1, 2, 3]), [], 0, 0, 0, 0) := z_ftd (by decide +kernel)
theorem t86_79 : z_ft 86 79 = some (.goto (-71), 3, none, [], 8, 0, 0, 0) := z_ftd (by decide +kernel)
theorem t86_82 : z_ft 86 82 = some (.return_, 1, (some []), [], 0, 0, 0, 0) := z_ftd (by decide +kernel)
noncomputable def b86_8 (d : Nat) (y2 : Nat) (y3 : Int32) (y4 : Int32) (S : z_S) : Option z_S := zk kV z_X0 d 86 8 [.ref 182, .ref 22, .ref y2, .int y3, .int y4] [] S
noncomputable def b86_77 (d : Nat) (y2 : Nat) (y3 : Int32) (s0 : Int32) (S : z_S) : Option z_S := zk kV z_X0 d 86 77 [.ref 182, .ref 22, .ref y2, .int y3, z_j] [.int s0] S
theorem b86_8_eq (d : Nat) (y2 : Nat) (y3 : Int32) (y4 : Int32) (S : z_S) (hW : z_W S) (hy2 : z_K y2 = 8) : b86_8 d y2 y3 y4 S = (if (40 : Int32) ≤ (gI S 182 4) then some S else (if ¬ y4 = (0 : Int32) then some S else (if z_in (gI S 182 4) 40 then ((fV d 75 [.ref (187 + 5 * ((gI S 182 4)).toNatClampNeg), .ref y2] S).bind fun S5 => (if z_in ((gI (sI S5 182 4 ((gI S5 182 4) + (1 : Int32))) 182 4) - (1 : Int32)) 40 then (zb (fI d 32 [.ref 22, .ref (187 + 5 * (((gI (sI S5 182 4 ((gI S5 182 4) + (1 : Int32))) 182 4) - (1 : Int32))).toNatClampNeg), .int y3, .int (gI (sI S5 182 4 ((gI S5 182 4) + (1 : Int32))) 182 4)] (sI S5 182 4 ((gI S5 182 4) + (1 : Int32)))) fun v7 S8 => (if (gI S8 182 4) ≤ v7 then b86_77 d y2 y3 (0 : Int32) S8 else b86_77 d y2 y3 (1 : Int32) S8)) else none)) else none))) := by
  unfold b86_8
  refine (k_aload_n t86_8 rfl rfl).trans ?_
  refine (k_getI t86_9 rfl hW zK_182 (by decide) (by decide)).trans ?_
  refine (k_bipush t86_12 rfl zcb_40).trans ?_
  refine (k_icmp_ge t86_14 rfl).trans (z_ite (fun g1 => ?_) (fun g1 => ?_))
  · refine (zk_mk (ls' := [z_j, z_j, z_j, z_j, z_j]) t86_82 rfl).trans ?_
    exact k_return t86_82 rfl (by decide)
  · refine (k_iload t86_17 rfl rfl).trans ?_
    refine (k_if_ne t86_19 rfl).trans (z_ite (fun g2 => ?_) (fun g2 => ?_))
    · refine (zk_mk (ls' := [z_j, z_j, z_j, z_j, z_j]) t86_82 rfl).trans ?_
      exact k_return t86_82 rfl (by decide)
    · refine (k_aload_n t86_22 rfl rfl).trans ?_
      refine (k_getR t86_23 rfl hW zK_182 (by decide) (by decide) (zF_182_2 hW)).trans ?_
      refine (k_aload_n t86_26 rfl rfl).trans ?_
      refine (k_getI t86_27 rfl hW zK_182 (by decide) (by decide)).trans ?_
      refine (k_aald t86_30 rfl hW (by rw [zK_184]; decide) zL_184).trans (z_ite (fun g3 => ?_) (fun _ => rfl))
      rw [(zA_184 g3).1]
      refine (k_aload_n t86_31 rfl rfl).trans ?_
      refine k_callV (as := [.ref (187 + 5 * ((gI S 182 4)).toNatClampNeg), .ref y2]) (rest := []) t86_32 rfl rfl (by decide) rfl rfl (Nat.le_of_ble_eq_true rfl) rfl (z_rcV hW ((zA_184 g3).2) (by decide)) (by decide) (by decide) hW (fun S5 hW5 => ?_)
      refine (k_aload_n t86_35 rfl rfl).trans ?_
      refine (k_dupR t86_36 rfl).trans ?_
      refine (k_getI t86_37 rfl hW5 zK_182 (by decide) (by decide)).trans ?_
      refine (k_iconst t86_40 rfl zci_1).trans ?_
      refine (k_iadd t86_41 rfl).trans ?_
      refine (k_putI t86_42 rfl hW5 zK_182 (by decide) (by decide) (by decide)).trans ?_
      refine (k_aload_n t86_45 rfl rfl).trans ?_
      refine (k_aload_n t86_46 rfl rfl).trans ?_
      refine (k_getR t86_47 rfl hW5.sI zK_182 (by decide) (by decide) (zF_182_2 hW5.sI)).trans ?_
      refine (k_aload_n t86_50 rfl rfl).trans ?_
      refine (k_getI t86_51 rfl hW5.sI zK_182 (by decide) (by decide)).trans ?_
      refine (k_iconst t86_54 rfl zci_1).trans ?_
      refine (k_isub t86_55 rfl).trans ?_
      refine (k_aald t86_56 rfl hW5.sI (by rw [zK_184]; decide) zL_184).trans (z_ite (fun g6 => ?_) (fun _ => rfl))
      rw [(zA_184 g6).1]
      refine (k_iload_n t86_57 rfl rfl).trans ?_
      refine (k_aload_n t86_58 rfl rfl).trans ?_
      refine (k_getI t86_59 rfl hW5.sI zK_182 (by decide) (by decide)).trans ?_
      refine k_callI (as := [.ref 22, .ref (187 + 5 * (((gI (sI S5 182 4 ((gI S5 182 4) + (1 : Int32))) 182 4) - (1 : Int32))).toNatClampNeg), .int y3, .int (gI (sI S5 182 4 ((gI S5 182 4) + (1 : Int32))) 182 4)]) (rest := []) t86_62 rfl rfl (by decide) rfl rfl (Nat.le_of_ble_eq_true rfl) rfl (z_rcV hW5.sI (zK_22) (by decide)) (by decide) (Or.inl (by decide)) hW5.sI (fun v7 S8 hW8 => ?_)
      refine (k_aload_n t86_65 rfl rfl).trans ?_
      refine (k_getI t86_66 rfl hW8 zK_182 (by decide) (by decide)).trans ?_
      refine (k_icmp_ge t86_69 rfl).trans (z_ite (fun g9 => ?_) (fun g9 => ?_))
      · refine (k_iconst t86_76 rfl zci_0).trans ?_
        exact (zk_mk (ls' := [.ref 182, .ref 22, .ref y2, .int y3, z_j]) t86_77 rfl)
      · refine (k_iconst t86_72 rfl zci_1).trans ?_
        refine (k_goto t86_73 rfl).trans ?_
        exact (zk_mk (ls' := [.ref 182, .ref 22, .ref y2, .int y3, z_j]) t86_77 rfl)
theorem b86_77_eq (d : Nat) (y2 : Nat) (y3 : Int32) (s0 : Int32) (S : z_S) (hW : z_W S) (hy2 : z_K y2 = 8) : b86_77 d y2 y3 s0 S = b86_8 d y2 y3 s0 S := by
  unfold b86_77
  refine (k_istore (ls' := [.ref 182, .ref 22, .ref y2, .int y3, .int s0]) t86_77 rfl rfl).trans ?_
  refine (k_goto t86_79 rfl).trans ?_
  exact (zk_mk (ls' := [.ref 182, .ref 22, .ref y2, .int y3, .int s0]) t86_8 rfl)
-- X9_spread
theorem e86 (d : Nat) (p2 : Nat) (x3 : Int32) (S : z_S) (hW : z_W S) (hp2 : z_K p2 = 8) : fV (d + 1) 86 [.ref 182, .ref 22, .ref p2, .int x3] S = b86_8 d p2 x3 (0 : Int32) (sI S 182 4 (0 : Int32)) := by
  refine (fV_en (Nat.le_of_ble_eq_true rfl) rfl).trans ?_
  refine (k_iconst t86_0 rfl zci_0).trans ?_
  refine (k_istore (ls' := [.ref 182, .ref 22, .ref p2, .int x3, .int (0 : Int32)]) t86_1 rfl rfl).trans ?_
  refine (k_aload_n t86_3 rfl rfl).trans ?_
  refine (k_iconst t86_4 rfl zci_0).trans ?_
  refine (k_putI t86_5 rfl hW zK_182 (by decide) (by decide) (by decide)).trans ?_
  exact (zk_mk (ls' := [.ref 182, .ref 22, .ref p2, .int x3, .int (0 : Int32)]) t86_8 rfl)
theorem t87_0 : z_ft 87 0 = some (.iconst (-1), 1, none, [], 0, 0, 0, 0) := z_ftd (by decide +kernel)
theorem t87_1 : z_ft 87 1 = some (.istore_n 1, 1, none, [], 0, 0, 0, 0) := z_ftd (by decide +kernel)
theorem t87_2 : z_ft 87 2 = some (.iconst 0, 1, none, [], 0, 0, 0, 0) := z_ftd (by decide +kernel)
theorem t87_3 : z_ft 87 3 = some (.istore_n 2, 1, none, [], 0, 0, 0, 0) := z_ftd (by decide +kernel)
theorem t87_4 : z_ft 87 4 = some (.iload_n 2, 1, (some [0, 1, 2]), [], 0, 0, 0, 0) := z_ftd (by decide +kernel)
theorem t87_5 : z_ft 87 5 = some (.aload_n 0, 1, none, [], 0, 0, 0, 0) := z_ftd (by decide +kernel)
theorem t87_6 : z_ft 87 6 = some (.getfield 9, 3, none, [], 9, 0, 7, 0) := z_ftd (by decide +kernel)
theorem t87_9 : z_ft 87 9 = some (.if_icmp .ge 22, 3, none, [], 31, 0, 0, 0) := z_ftd (by decide +kernel)
theorem t87_12 : z_ft 87 12 = some (.iload_n 1, 1, none, [], 0, 0, 0, 0) := z_ftd (by decide +kernel)
theorem t87_13 : z_ft 87 13 = some (.aload_n 0, 1, none, [], 0, 0, 0, 0) := z_ftd (by decide +kernel)
theorem t87_14 : z_ft 87 14 = some (.getfield 15, 3, none, [], 9, 1, 8, 0) := z_ftd (by decide +kernel)
theorem t87_17 : z_ft 87 17 = some (.iconst 3, 1, none, [], 0, 0, 0, 0) := z_ftd (by decide +kernel)
theorem t87_18 : z_ft 87 18 = some (.iload_n 2, 1, none, [], 0, 0, 0, 0) := z_ftd (by decide +kernel)
theorem t87_19 : z_ft 87 19 = some (.imul, 1, none, [], 0, 0, 0, 0) := z_ftd (by decide +kernel)
theorem t87_20 : z_ft 87 20 = some (.iaload, 1, none, [], 0, 0, 0, 0) := z_ftd (by decide +kernel)
theorem t87_21 : z_ft 87 21 = some (.invokestatic 89, 3, none, [], 277, 0, 23, 0) := z_ftd (by decide +kernel)
theorem t87_24 : z_ft 87 24 = some (.istore_n 1, 1, none, [], 0, 0, 0, 0) := z_ftd (by decide +kernel)
theorem t87_25 : z_ft 87 25 = some (.iinc 2 1, 3, none, [], 0, 0, 0, 0) := z_ftd (by decide +kernel)
theorem t87_28 : z_ft 87 28 = some (.goto (-24), 3, none, [], 4, 0, 0, 0) := z_ftd (by decide +kernel)
theorem t87_31 : z_ft 87 31 = some (.iload_n 1, 1, none, [], 0, 0, 0, 0) := z_ftd (by decide +kernel)
theorem t87_32 : z_ft 87 32 = some (.ireturn, 1, none, [], 0, 0, 0, 0) := z_ftd (by decide +kernel)
noncomputable def b87_4 (d : Nat) (y1 : Int32) (y2 : Int32) (S : z_S) : Option (Int32 × z_S) := zk kI z_X0 d 87 4 [.ref 182, .int y1, .int y2] [] S
theorem b87_4_eq (d : Nat) (y1 : Int32) (y2 : Int32) (S : z_S) (hW : z_W S)  : b87_4 d y1 y2 S = (if (gI S 182 0) ≤ y2 then some (y1, S) else (if z_in ((3 : Int32) * y2) 48 then (zb (fI d 277 [.int y1, .int (gI S 183 (((3 : Int32) * y2)).toNatClampNeg)] S) fun v3 S4 => b87_4 d v3 (y2 + (1 : Int32)) S4) else none)) := by
  unfold b87_4
  refine (k_iload_n t87_4 rfl rfl).trans ?_
  refine (k_aload_n t87_5 rfl rfl).trans ?_
  refine (k_getI t87_6 rfl hW zK_182 (by decide) (by decide)).trans ?_
  refine (k_icmp_ge t87_9 rfl).trans (z_ite (fun g1 => ?_) (fun g1 => ?_))
  · refine (k_iload_n t87_31 rfl rfl).trans ?_
    exact k_ireturn t87_32 rfl (by decide)
  · refine (k_iload_n t87_12 rfl rfl).trans ?_
    refine (k_aload_n t87_13 rfl rfl).trans ?_
    refine (k_getR t87_14 rfl hW zK_182 (by decide) (by decide) (zF_182_1 hW)).trans ?_
    refine (k_iconst t87_17 rfl zci_3).trans ?_
    refine (k_iload_n t87_18 rfl rfl).trans ?_
    refine (k_imul t87_19 rfl).trans ?_
    refine (k_iald t87_20 rfl hW zK_183 zL_183).trans (z_ite (fun g2 => ?_) (fun _ => rfl))
    refine k_callI (as := [.int y1, .int (gI S 183 (((3 : Int32) * y2)).toNatClampNeg)]) (rest := []) t87_21 rfl rfl (by decide) rfl rfl (Nat.le_of_ble_eq_true rfl) rfl (z_rcS (by decide)) (by decide) (Or.inl (by decide)) hW (fun v3 S4 hW4 => ?_)
    refine (k_istore_n (ls' := [.ref 182, .int v3, .int y2]) t87_24 rfl rfl).trans ?_
    refine (k_iinc (b := (y2 + (1 : Int32))) (ls' := [.ref 182, .int v3, .int (y2 + (1 : Int32))]) t87_25 rfl rfl (by rw [zci_1]) rfl).trans ?_
    refine (k_goto t87_28 rfl).trans ?_
    exact (zk_mk (ls' := [.ref 182, .int v3, .int (y2 + (1 : Int32))]) t87_4 rfl)
-- X9_latestNightMet
theorem e87 (d : Nat)  (S : z_S) (hW : z_W S)  : fI (d + 1) 87 [.ref 182] S = b87_4 d (-1 : Int32) (0 : Int32) S := by
  refine (fI_en (Nat.le_of_ble_eq_true rfl) rfl).trans ?_
  refine (k_iconst t87_0 rfl zci_m1).trans ?_
  refine (k_istore_n (ls' := [.ref 182, .int (-1 : Int32), z_j]) t87_1 rfl rfl).trans ?_
  refine (k_iconst t87_2 rfl zci_0).trans ?_
  refine (k_istore_n (ls' := [.ref 182, .int (-1 : Int32), .int (0 : Int32)]) t87_3 rfl rfl).trans ?_
  exact (zk_mk (ls' := [.ref 182, .int (-1 : Int32), .int (0 : Int32)]) t87_4 rfl)
theorem t88_0 : z_ft 88 0 = some (.iconst 0, 1, none, [], 0, 0, 0, 0) := z_ftd (by decide +kernel)
theorem t88_1 : z_ft 88 1 = some (.istore_n 2, 1, none, [], 0, 0, 0, 0) := z_ftd (by decide +kernel)
theorem t88_2 : z_ft 88 2 = some (.iload_n 2, 1, (some [0, 1, 2]), [], 0, 0, 0, 0) := z_ftd (by decide +kernel)
theorem t88_3 : z_ft 88 3 = some (.aload_n 0, 1, none, [], 0, 0, 0, 0) := z_ftd (by decide +kernel)
theorem t88_4 : z_ft 88 4 = some (.getfield 29, 3, none, [], 9, 4, 11, 0) := z_ftd (by decide +kernel)
theorem t88_7 : z_ft 88 7 = some (.if_icmp .ge 30, 3, none, [], 37, 0, 0, 0) := z_ftd (by decide +kernel)
theorem t88_10 : z_ft 88 10 = some (.aload_n 0, 1, none, [], 0, 0, 0, 0) := z_ftd (by decide +kernel)
theorem t88_11 : z_ft 88 11 = some (.getfield 25, 3, none, [], 9, 3, 10, 0) := z_ftd (by decide +kernel)
theorem t88_14 : z_ft 88 14 = some (.iload_n 2, 1, none, [], 0, 0, 0, 0) := z_ftd (by decide +kernel)
theorem t88_15 : z_ft 88 15 = some (.baload, 1, none, [], 0, 0, 0, 0) := z_ftd (by decide +kernel)
theorem t88_16 : z_ft 88 16 = some (.ifCond .eq 15, 3, none, [], 31, 0, 0, 0) := z_ftd (by decide +kernel)
theorem t88_19 : z_ft 88 19 = some (.aload_n 1, 1, none, [], 0, 0, 0, 0) := z_ftd (by decide +kernel)
theorem t88_20 : z_ft 88 20 = some (.aload_n 0, 1, none, [], 0, 0, 0, 0) := z_ftd (by decide +kernel)
theorem t88_21 : z_ft 88 21 = some (.getfield 21, 3, none, [], 9, 2, 9, 0) := z_ftd (by decide +kernel)
theorem t88_24 : z_ft 88 24 = some (.iload_n 2, 1, none, [], 0, 0, 0, 0) := z_ftd (by decide +kernel)
theorem t88_25 : z_ft 88 25 = some (.aaload, 1, none, [], 0, 0, 0, 0) := z_ftd (by decide +kernel)
theorem t88_26 : z_ft 88 26 = some (.iconst 0, 1, none, [], 0, 0, 0, 0) := z_ftd (by decide +kernel)
theorem t88_27 : z_ft 88 27 = some (.invokevirtual 95, 3, none, [], 35, 0, 25, 0) := z_ftd (by decide +kernel)
theorem t88_30 : z_ft 88 30 = some (.pop, 1, none, [], 0, 0, 0, 0) := z_ftd (by decide +kernel)
theorem t88_31 : z_ft 88 31 = some (.iinc 2 1, 3, (some [0, 1, 2]), [], 0, 0, 0, 0) := z_ftd (by decide +kernel)
theorem t88_34 : z_ft 88 34 = some (.goto (-32), 3, none, [], 2, 0, 0, 0) := z_ftd (by decide +kernel)
theorem t88_37 : z_ft 88 37 = some (.return_, 1, none, [], 0, 0, 0, 0) := z_ftd (by decide +kernel)
noncomputable def b88_2 (d : Nat) (y2 : Int32) (S : z_S) : Option z_S := zk kV z_X0 d 88 2 [.ref 182, .ref 22, .int y2] [] S
noncomputable def b88_31 (d : Nat) (y2 : Int32) (S : z_S) : Option z_S := zk kV z_X0 d 88 31 [.ref 182, .ref 22, .int y2] [] S
theorem b88_2_eq (d : Nat) (y2 : Int32) (S : z_S) (hW : z_W S)  : b88_2 d y2 S = (if (gI S 182 4) ≤ y2 then some S else (if z_in y2 40 then (if (gI S 185 (y2).toNatClampNeg) = (0 : Int32) then b88_31 d y2 S else (if z_in y2 40 then (zb (fI d 35 [.ref 22, .ref (187 + 5 * (y2).toNatClampNeg), .int (0 : Int32)] S) fun v5 S6 => b88_31 d y2 S6) else none)) else none)) := by
  unfold b88_2
  refine (k_iload_n t88_2 rfl rfl).trans ?_
  refine (k_aload_n t88_3 rfl rfl).trans ?_
  refine (k_getI t88_4 rfl hW zK_182 (by decide) (by decide)).trans ?_
  refine (k_icmp_ge t88_7 rfl).trans (z_ite (fun g1 => ?_) (fun g1 => ?_))
  · exact k_return t88_37 rfl (by decide)
  · refine (k_aload_n t88_10 rfl rfl).trans ?_
    refine (k_getR t88_11 rfl hW zK_182 (by decide) (by decide) (zF_182_3 hW)).trans ?_
    refine (k_iload_n t88_14 rfl rfl).trans ?_
    refine (k_zald t88_15 rfl hW zK_185 zL_185).trans (z_ite (fun g2 => ?_) (fun _ => rfl))
    refine (k_if_eq t88_16 rfl).trans (z_ite (fun g3 => ?_) (fun g3 => ?_))
    · exact (zk_mk (ls' := [.ref 182, .ref 22, .int y2]) t88_31 rfl)
    · refine (k_aload_n t88_19 rfl rfl).trans ?_
      refine (k_aload_n t88_20 rfl rfl).trans ?_
      refine (k_getR t88_21 rfl hW zK_182 (by decide) (by decide) (zF_182_2 hW)).trans ?_
      refine (k_iload_n t88_24 rfl rfl).trans ?_
      refine (k_aald t88_25 rfl hW (by rw [zK_184]; decide) zL_184).trans (z_ite (fun g4 => ?_) (fun _ => rfl))
      rw [(zA_184 g4).1]
      refine (k_iconst t88_26 rfl zci_0).trans ?_
      refine k_callI (as := [.ref 22, .ref (187 + 5 * (y2).toNatClampNeg), .int (0 : Int32)]) (rest := []) t88_27 rfl rfl (by decide) rfl rfl (Nat.le_of_ble_eq_true rfl) rfl (z_rcV hW (zK_22) (by decide)) (by decide) (Or.inl (by decide)) hW (fun v5 S6 hW6 => ?_)
      refine (k_popI t88_30 rfl).trans ?_
      exact (zk_mk (ls' := [.ref 182, .ref 22, .int y2]) t88_31 rfl)
theorem b88_31_eq (d : Nat) (y2 : Int32) (S : z_S) (hW : z_W S)  : b88_31 d y2 S = b88_2 d (y2 + (1 : Int32)) S := by
  unfold b88_31
  refine (k_iinc (b := (y2 + (1 : Int32))) (ls' := [.ref 182, .ref 22, .int (y2 + (1 : Int32))]) t88_31 rfl rfl (by rw [zci_1]) rfl).trans ?_
  refine (k_goto t88_34 rfl).trans ?_
  exact (zk_mk (ls' := [.ref 182, .ref 22, .int (y2 + (1 : Int32))]) t88_2 rfl)
-- X9_passAll
theorem e88 (d : Nat)  (S : z_S) (hW : z_W S)  : fV (d + 1) 88 [.ref 182, .ref 22] S = b88_2 d (0 : Int32) S := by
  refine (fV_en (Nat.le_of_ble_eq_true rfl) rfl).trans ?_
  refine (k_iconst t88_0 rfl zci_0).trans ?_
  refine (k_istore_n (ls' := [.ref 182, .ref 22, .int (0 : Int32)]) t88_1 rfl rfl).trans ?_
  exact (zk_mk (ls' := [.ref 182, .ref 22, .int (0 : Int32)]) t88_2 rfl)
theorem t89_0 : z_ft 89 0 = some (.aload_n 0, 1, none, [], 0, 0, 0, 0) := z_ftd (by decide +kernel)
theorem t89_1 : z_ft 89 1 = some (.getfield 15, 3, none, [], 9, 1, 8, 0) := z_ftd (by decide +kernel)
theorem t89_4 : z_ft 89 4 = some (.iconst 3, 1, none, [], 0, 0, 0, 0) := z_ftd (by decide +kernel)
theorem t89_5 : z_ft 89 5 = some (.iload_n 1, 1, none, [], 0, 0, 0, 0) := z_ftd (by decide +kernel)
theorem t89_6 : z_ft 89 6 = some (.imul, 1, none, [], 0, 0, 0, 0) := z_ftd (by decide +kernel)
theorem t89_7 : z_ft 89 7 = some (.iconst 1, 1, none, [], 0, 0, 0, 0) := z_ftd (by decide +kernel)
theorem t89_8 : z_ft 89 8 = some (.iadd, 1, none, [], 0, 0, 0, 0) := z_ftd (by decide +kernel)
theorem t89_9 : z_ft 89 9 = some (.iaload, 1, none, [], 0, 0, 0, 0) := z_ftd (by decide +kernel)
theorem t89_10 : z_ft 89 10 = some (.istore_n 3, 1, none, [], 0, 0, 0, 0) := z_ftd (by decide +kernel)
theorem t89_11 : z_ft 89 11 = some (.aload_n 0, 1, none, [], 0, 0, 0, 0) := z_ftd (by decide +kernel)
theorem t89_12 : z_ft 89 12 = some (.getfield 15, 3, none, [], 9, 1, 8, 0) := z_ftd (by decide +kernel)
theorem t89_15 : z_ft 89 15 = some (.iconst 3, 1, none, [], 0, 0, 0, 0) := z_ftd (by decide +kernel)
theorem t89_16 : z_ft 89 16 = some (.iload_n 1, 1, none, [], 0, 0, 0, 0) := z_ftd (by decide +kernel)
theorem t89_17 : z_ft 89 17 = some (.imul, 1, none, [], 0, 0, 0, 0) := z_ftd (by decide +kernel)
theorem t89_18 : z_ft 89 18 = some (.iconst 2, 1, none, [], 0, 0, 0, 0) := z_ftd (by decide +kernel)
theorem t89_19 : z_ft 89 19 = some (.iadd, 1, none, [], 0, 0, 0, 0) := z_ftd (by decide +kernel)
theorem t89_20 : z_ft 89 20 = some (.iaload, 1, none, [], 0, 0, 0, 0) := z_ftd (by decide +kernel)
theorem t89_21 : z_ft 89 21 = some (.sipush 255, 3, none, [], 0, 0, 0, 0) := z_ftd (by decide +kernel)
theorem t89_24 : z_ft 89 24 = some (.if_icmp .ne 7, 3, none, [], 31, 0, 0, 0) := z_ftd (by decide +kernel)
theorem t89_27 : z_ft 89 27 = some (.iconst (-1), 1, none, [], 0, 0, 0, 0) := z_ftd (by decide +kernel)
theorem t89_28 : z_ft 89 28 = some (.goto 13, 3, none, [], 41, 0, 0, 0) := z_ftd (by decide +kernel)
theorem t89_31 : z_ft 89 31 = some (.aload_n 0, 1, none, [], 0, 0, 0, 0) := z_ftd (by decide +kernel)
theorem t89_32 : z_ft 89 32 = some (.getfield 15, 3, none, [], 9, 1, 8, 0) := z_ftd (by decide +kernel)
theorem t89_35 : z_ft 89 35 = some (.iconst 3, 1, none, [], 0, 0, 0, 0) := z_ftd (by decide +kernel)
theorem t89_36 : z_ft 89 36 = some (.iload_n 1, 1, none, [], 0, 0, 0, 0) := z_ftd (by decide +kernel)
theorem t89_37 : z_ft 89 37 = some (.imul, 1, none, [], 0, 0, 0, 0) := z_ftd (by decide +kernel)
theorem t89_38 : z_ft 89 38 = some (.iconst 2, 1, none, [], 0, 0, 0, 0) := z_ftd (by decide +kernel)
theorem t89_39 : z_ft 89 39 = some (.iadd, 1, none, [], 0, 0, 0, 0) := z_ftd (by decide +kernel)
theorem t89_40 : z_ft 89 40 = some (.iaload, 1, none, [], 0, 0, 0, 0) := z_ftd (by decide +kernel)
theorem t89_41 : z_ft 89 41 = some (.istore 4, 2, (some [0, 2, 3]), [], 0, 0, 0, 0) := z_ftd (by decide +kernel)
theorem t89_43 : z_ft 89 43 = some (.iconst 0, 1, none, [], 0, 0, 0, 0) := z_ftd (by decide +kernel)
theorem t89_44 : z_ft 89 44 = some (.istore 5, 2, none, [], 0, 0, 0, 0) := z_ftd (by decide +kernel)
theorem t89_46 : z_ft 89 46 = some (.iload 5, 2, (some [0, 2, 3, 4, 5]), [], 0, 0, 0, 0) := z_ftd (by decide +kernel)
theorem t89_48 : z_ft 89 48 = some (.aload_n 0, 1, none, [], 0, 0, 0, 0) := z_ftd (by decide +kernel)
theorem t89_49 : z_ft 89 49 = some (.getfield 29, 3, none, [], 9, 4, 11, 0) := z_ftd (by decide +kernel)
theorem t89_52 : z_ft 89 52 = some (.if_icmp .ge 52, 3, none, [], 104, 0, 0, 0) := z_ftd (by decide +kernel)
theorem t89_55 : z_ft 89 55 = some (.aload_n 0, 1, none, [], 0, 0, 0, 0) := z_ftd (by decide +kernel)
theorem t89_56 : z_ft 89 56 = some (.getfield 25, 3, none, [], 9, 3, 10, 0) := z_ftd (by decide +kernel)
theorem t89_59 : z_ft 89 59 = some (.iload 5, 2, none, [], 0, 0, 0, 0) := z_ftd (by decide +kernel)
theorem t89_61 : z_ft 89 61 = some (.aload_n 0, 1, none, [], 0, 0, 0, 0) := z_ftd (by decide +kernel)
theorem t89_62 : z_ft 89 62 = some (.getfield 25, 3, none, [], 9, 3, 10, 0) := z_ftd (by decide +kernel)
theorem t89_65 : z_ft 89 65 = some (.iload 5, 2, none, [], 0, 0, 0, 0) := z_ftd (by decide +kernel)
theorem t89_67 : z_ft 89 67 = some (.baload, 1, none, [], 0, 0, 0, 0) := z_ftd (by decide +kernel)
theorem t89_68 : z_ft 89 68 = some (.ifCond .eq 28, 3, none, [], 96, 0, 0, 0) := z_ftd (by decide +kernel)
theorem t89_71 : z_ft 89 71 = some (.iload_n 2, 1, none, [], 0, 0, 0, 0) := z_ftd (by decide +kernel)
theorem t89_72 : z_ft 89 72 = some (.ifCond .eq 24, 3, none, [], 96, 0, 0, 0) := z_ftd (by decide +kernel)
theorem t89_75 : z_ft 89 75 = some (.aload_n 0, 1, none, [], 0, 0, 0, 0) := z_ftd (by decide +kernel)
theorem t89_76 : z_ft 89 76 = some (.getfield 21, 3, none, [], 9, 2, 9, 0) := z_ftd (by decide +kernel)
theorem t89_79 : z_ft 89 79 = some (.iload 5, 2, none, [], 0, 0, 0, 0) := z_ftd (by decide +kernel)
theorem t89_81 : z_ft 89 81 = some (.aaload, 1, none, [], 0, 0, 0, 0) := z_ftd (by decide +kernel)
theorem t89_82 : z_ft 89 82 = some (.getfield 99, 3, none, [], 8, 5, 3, 0) := z_ftd (by decide +kernel)
theorem t89_85 : z_ft 89 85 = some (.iload_n 3, 1, none, [], 0, 0, 0, 0) := z_ftd (by decide +kernel)
theorem t89_86 : z_ft 89 86 = some (.iaload, 1, none, [], 0, 0, 0, 0) := z_ftd (by decide +kernel)
theorem t89_87 : z_ft 89 87 = some (.iload 4, 2, none, [], 0, 0, 0, 0) := z_ftd (by decide +kernel)
theorem t89_89 : z_ft 89 89 = some (.if_icmp .ne 7, 3, none, [], 96, 0, 0, 0) := z_ftd (by decide +kernel)
theorem t89_92 : z_ft 89 92 = some (.iconst 1, 1, none, [], 0, 0, 0, 0) := z_ftd (by decide +kernel)
theorem t89_93 : z_ft 89 93 = some (.goto 4, 3, none, [], 97, 0, 0, 0) := z_ftd (by decide +kernel)
theorem t89_96 : z_ft 89 96 = some (.iconst 0, 1, (some [0, 2, 3, 4, 5]), [], 0, 0, 0, 0) := z_ftd (by decide +kernel)
theorem t89_97 : z_ft 89 97 = some (.bastore, 1, (some [0, 2, 3, 4, 5]), [], 0, 0, 0, 0) := z_ftd (by decide +kernel)
theorem t89_98 : z_ft 89 98 = some (.iinc 5 1, 3, none, [], 0, 0, 0, 0) := z_ftd (by decide +kernel)
theorem t89_101 : z_ft 89 101 = some (.goto (-55), 3, none, [], 46, 0, 0, 0) := z_ftd (by decide +kernel)
theorem t89_104 : z_ft 89 104 = some (.return_, 1, none, [], 0, 0, 0, 0) := z_ftd (by decide +kernel)
noncomputable def b89_41 (d : Nat) (y2 : Int32) (y3 : Int32) (s0 : Int32) (S : z_S) : Option z_S := zk kV z_X0 d 89 41 [.ref 182, z_j, .int y2, .int y3, z_j, z_j] [.int s0] S
noncomputable def b89_46 (d : Nat) (y2 : Int32) (y3 : Int32) (y4 : Int32) (y5 : Int32) (S : z_S) : Option z_S := zk kV z_X0 d 89 46 [.ref 182, z_j, .int y2, .int y3, .int y4, .int y5] [] S
noncomputable def b89_96 (d : Nat) (y2 : Int32) (y3 : Int32) (y4 : Int32) (y5 : Int32) (s0 : Int32) (S : z_S) : Option z_S := zk kV z_X0 d 89 96 [.ref 182, z_j, .int y2, .int y3, .int y4, .int y5] [.int s0, .ref 185] S
noncomputable def b89_97 (d : Nat) (y2 : Int32) (y3 : Int32) (y4 : Int32) (y5 : Int32) (s0 : Int32) (s1 : Int32) (S : z_S) : Option z_S := zk kV z_X0 d 89 97 [.ref 182, z_j, .int y2, .int y3, .int y4, .int y5] [.int s0, .int s1, .ref 185] S
theorem b89_41_eq (d : Nat) (y2 : Int32) (y3 : Int32) (s0 : Int32) (S : z_S) (hW : z_W S)  : b89_41 d y2 y3 s0 S = b89_46 d y2 y3 s0 (0 : Int32) S := by
  unfold b89_41
  refine (k_istore (ls' := [.ref 182, z_j, .int y2, .int y3, .int s0, z_j]) t89_41 rfl rfl).trans ?_
  refine (k_iconst t89_43 rfl zci_0).trans ?_
  refine (k_istore (ls' := [.ref 182, z_j, .int y2, .int y3, .int s0, .int (0 : Int32)]) t89_44 rfl rfl).trans ?_
  exact (zk_mk (ls' := [.ref 182, z_j, .int y2, .int y3, .int s0, .int (0 : Int32)]) t89_46 rfl)
theorem b89_46_eq (d : Nat) (y2 : Int32) (y3 : Int32) (y4 : Int32) (y5 : Int32) (S : z_S) (hW : z_W S)  : b89_46 d y2 y3 y4 y5 S = (if (gI S 182 4) ≤ y5 then some S else (if z_in y5 40 then (if (gI S 185 (y5).toNatClampNeg) = (0 : Int32) then b89_96 d y2 y3 y4 y5 y5 S else (if y2 = (0 : Int32) then b89_96 d y2 y3 y4 y5 y5 S else (if z_in y5 40 then (if z_in y3 16 then (if ¬ (gI S ((187 + 5 * (y5).toNatClampNeg) + 1) (y3).toNatClampNeg) = y4 then b89_96 d y2 y3 y4 y5 y5 S else b89_97 d y2 y3 y4 y5 (1 : Int32) y5 S) else none) else none))) else none)) := by
  unfold b89_46
  refine (k_iload t89_46 rfl rfl).trans ?_
  refine (k_aload_n t89_48 rfl rfl).trans ?_
  refine (k_getI t89_49 rfl hW zK_182 (by decide) (by decide)).trans ?_
  refine (k_icmp_ge t89_52 rfl).trans (z_ite (fun g5 => ?_) (fun g5 => ?_))
  · exact k_return t89_104 rfl (by decide)
  · refine (k_aload_n t89_55 rfl rfl).trans ?_
    refine (k_getR t89_56 rfl hW zK_182 (by decide) (by decide) (zF_182_3 hW)).trans ?_
    refine (k_iload t89_59 rfl rfl).trans ?_
    refine (k_aload_n t89_61 rfl rfl).trans ?_
    refine (k_getR t89_62 rfl hW zK_182 (by decide) (by decide) (zF_182_3 hW)).trans ?_
    refine (k_iload t89_65 rfl rfl).trans ?_
    refine (k_zald t89_67 rfl hW zK_185 zL_185).trans (z_ite (fun g6 => ?_) (fun _ => rfl))
    refine (k_if_eq t89_68 rfl).trans (z_ite (fun g7 => ?_) (fun g7 => ?_))
    · exact (zk_mk (ls' := [.ref 182, z_j, .int y2, .int y3, .int y4, .int y5]) t89_96 rfl)
    · refine (k_iload_n t89_71 rfl rfl).trans ?_
      refine (k_if_eq t89_72 rfl).trans (z_ite (fun g8 => ?_) (fun g8 => ?_))
      · exact (zk_mk (ls' := [.ref 182, z_j, .int y2, .int y3, .int y4, .int y5]) t89_96 rfl)
      · refine (k_aload_n t89_75 rfl rfl).trans ?_
        refine (k_getR t89_76 rfl hW zK_182 (by decide) (by decide) (zF_182_2 hW)).trans ?_
        refine (k_iload t89_79 rfl rfl).trans ?_
        refine (k_aald t89_81 rfl hW (by rw [zK_184]; decide) zL_184).trans (z_ite (fun g9 => ?_) (fun _ => rfl))
        rw [(zA_184 g9).1]
        refine (k_getR t89_82 rfl hW (zA_184 g9).2 (by decide) (by decide) (zO_8_5 hW (zA_184 g9).2)).trans ?_
        refine (k_iload_n t89_85 rfl rfl).trans ?_
        refine (k_iald t89_86 rfl hW (zOK_8_5 (zA_184 g9).2) (zOL_8_5 (zA_184 g9).2)).trans (z_ite (fun g10 => ?_) (fun _ => rfl))
        refine (k_iload t89_87 rfl rfl).trans ?_
        refine (k_icmp_ne t89_89 rfl).trans (z_ite (fun g11 => ?_) (fun g11 => ?_))
        · exact (zk_mk (ls' := [.ref 182, z_j, .int y2, .int y3, .int y4, .int y5]) t89_96 rfl)
        · refine (k_iconst t89_92 rfl zci_1).trans ?_
          refine (k_goto t89_93 rfl).trans ?_
          exact (zk_mk (ls' := [.ref 182, z_j, .int y2, .int y3, .int y4, .int y5]) t89_97 rfl)
theorem b89_96_eq (d : Nat) (y2 : Int32) (y3 : Int32) (y4 : Int32) (y5 : Int32) (s0 : Int32) (S : z_S) (hW : z_W S)  : b89_96 d y2 y3 y4 y5 s0 S = b89_97 d y2 y3 y4 y5 (0 : Int32) s0 S := by
  unfold b89_96
  refine (k_iconst t89_96 rfl zci_0).trans ?_
  exact (zk_mk (ls' := [.ref 182, z_j, .int y2, .int y3, .int y4, .int y5]) t89_97 rfl)
theorem b89_97_eq (d : Nat) (y2 : Int32) (y3 : Int32) (y4 : Int32) (y5 : Int32) (s0 : Int32) (s1 : Int32) (S : z_S) (hW : z_W S)  : b89_97 d y2 y3 y4 y5 s0 s1 S = (if z_in s1 40 ∧ (s0 = 0 ∨ s0 = 1) then b89_46 d y2 y3 y4 (y5 + (1 : Int32)) (sI S 185 (s1).toNatClampNeg s0) else none) := by
  unfold b89_97
  refine (k_zast t89_97 rfl hW zK_185 zL_185).trans (z_ite (fun g12 => ?_) (fun _ => rfl))
  refine (k_iinc (b := (y5 + (1 : Int32))) (ls' := [.ref 182, z_j, .int y2, .int y3, .int y4, .int (y5 + (1 : Int32))]) t89_98 rfl rfl (by rw [zci_1]) rfl).trans ?_
  refine (k_goto t89_101 rfl).trans ?_
  exact (zk_mk (ls' := [.ref 182, z_j, .int y2, .int y3, .int y4, .int (y5 + (1 : Int32))]) t89_46 rfl)
-- X9_siftBy
theorem e89 (d : Nat) (x1 : Int32) (x2 : Int32) (S : z_S) (hW : z_W S)  : fV (d + 1) 89 [.ref 182, .int x1, .int x2] S = (if z_in (((3 : Int32) * x1) + (1 : Int32)) 48 then (if z_in (((3 : Int32) * x1) + (2 : Int32)) 48 then (if ¬ (gI S 183 ((((3 : Int32) * x1) + (2 : Int32))).toNatClampNeg) = (255 : Int32) then (if z_in (((3 : Int32) * x1) + (2 : Int32)) 48 then b89_41 d x2 (gI S 183 ((((3 : Int32) * x1) + (1 : Int32))).toNatClampNeg) (gI S 183 ((((3 : Int32) * x1) + (2 : Int32))).toNatClampNeg) S else none) else b89_41 d x2 (gI S 183 ((((3 : Int32) * x1) + (1 : Int32))).toNatClampNeg) (-1 : Int32) S) else none) else none) := by
  refine (fV_en (Nat.le_of_ble_eq_true rfl) rfl).trans ?_
  refine (k_aload_n t89_0 rfl rfl).trans ?_
  refine (k_getR t89_1 rfl hW zK_182 (by decide) (by decide) (zF_182_1 hW)).trans ?_
  refine (k_iconst t89_4 rfl zci_3).trans ?_
  refine (k_iload_n t89_5 rfl rfl).trans ?_
  refine (k_imul t89_6 rfl).trans ?_
  refine (k_iconst t89_7 rfl zci_1).trans ?_
  refine (k_iadd t89_8 rfl).trans ?_
  refine (k_iald t89_9 rfl hW zK_183 zL_183).trans (z_ite (fun g1 => ?_) (fun _ => rfl))
  refine (k_istore_n (ls' := [.ref 182, .int x1, .int x2, .int (gI S 183 ((((3 : Int32) * x1) + (1 : Int32))).toNatClampNeg), z_j, z_j]) t89_10 rfl rfl).trans ?_
  refine (k_aload_n t89_11 rfl rfl).trans ?_
  refine (k_getR t89_12 rfl hW zK_182 (by decide) (by decide) (zF_182_1 hW)).trans ?_
  refine (k_iconst t89_15 rfl zci_3).trans ?_
  refine (k_iload_n t89_16 rfl rfl).trans ?_
  refine (k_imul t89_17 rfl).trans ?_
  refine (k_iconst t89_18 rfl zci_2).trans ?_
  refine (k_iadd t89_19 rfl).trans ?_
  refine (k_iald t89_20 rfl hW zK_183 zL_183).trans (z_ite (fun g2 => ?_) (fun _ => rfl))
  refine (k_sipush t89_21 rfl zcs_255).trans ?_
  refine (k_icmp_ne t89_24 rfl).trans (z_ite (fun g3 => ?_) (fun g3 => ?_))
  · refine (k_aload_n t89_31 rfl rfl).trans ?_
    refine (k_getR t89_32 rfl hW zK_182 (by decide) (by decide) (zF_182_1 hW)).trans ?_
    refine (k_iconst t89_35 rfl zci_3).trans ?_
    refine (k_iload_n t89_36 rfl rfl).trans ?_
    refine (k_imul t89_37 rfl).trans ?_
    refine (k_iconst t89_38 rfl zci_2).trans ?_
    refine (k_iadd t89_39 rfl).trans ?_
    refine (k_iald t89_40 rfl hW zK_183 zL_183).trans (z_ite (fun g4 => ?_) (fun _ => rfl))
    exact (zk_mk (ls' := [.ref 182, z_j, .int x2, .int (gI S 183 ((((3 : Int32) * x1) + (1 : Int32))).toNatClampNeg), z_j, z_j]) t89_41 rfl)
  · refine (k_iconst t89_27 rfl zci_m1).trans ?_
    refine (k_goto t89_28 rfl).trans ?_
    exact (zk_mk (ls' := [.ref 182, z_j, .int x2, .int (gI S 183 ((((3 : Int32) * x1) + (1 : Int32))).toNatClampNeg), z_j, z_j]) t89_41 rfl)
theorem t90_0 : z_ft 90 0 = some (.aload_n 0, 1, none, [], 0, 0, 0, 0) := z_ftd (by decide +kernel)
theorem t90_1 : z_ft 90 1 = some (.getfield 25, 3, none, [], 9, 3, 10, 0) := z_ftd (by decide +kernel)
theorem t90_4 : z_ft 90 4 = some (.iload_n 1, 1, none, [], 0, 0, 0, 0) := z_ftd (by decide +kernel)
theorem t90_5 : z_ft 90 5 = some (.baload, 1, none, [], 0, 0, 0, 0) := z_ftd (by decide +kernel)
theorem t90_6 : z_ft 90 6 = some (.ifCond .ne 5, 3, none, [], 11, 0, 0, 0) := z_ftd (by decide +kernel)
theorem t90_9 : z_ft 90 9 = some (.iconst 0, 1, none, [], 0, 0, 0, 0) := z_ftd (by decide +kernel)
theorem t90_10 : z_ft 90 10 = some (.ireturn, 1, none, [], 0, 0, 0, 0) := z_ftd (by decide +kernel)
theorem t90_11 : z_ft 90 11 = some (.iload_n 1, 1, none, [], 0, 0, 0, 0) := z_ftd (by decide +kernel)
theorem t90_12 : z_ft 90 12 = some (.aload_n 0, 1, none, [], 0, 0, 0, 0) := z_ftd (by decide +kernel)
theorem t90_13 : z_ft 90 13 = some (.getfield 29, 3, none, [], 9, 4, 11, 0) := z_ftd (by decide +kernel)
theorem t90_16 : z_ft 90 16 = some (.iconst 1, 1, none, [], 0, 0, 0, 0) := z_ftd (by decide +kernel)
theorem t90_17 : z_ft 90 17 = some (.isub, 1, none, [], 0, 0, 0, 0) := z_ftd (by decide +kernel)
theorem t90_18 : z_ft 90 18 = some (.if_icmp .ne 10, 3, none, [], 28, 0, 0, 0) := z_ftd (by decide +kernel)
theorem t90_21 : z_ft 90 21 = some (.bipush 40, 2, none, [], 0, 0, 0, 0) := z_ftd (by decide +kernel)
theorem t90_23 : z_ft 90 23 = some (.iload_n 1, 1, none, [], 0, 0, 0, 0) := z_ftd (by decide +kernel)
theorem t90_24 : z_ft 90 24 = some (.isub, 1, none, [], 0, 0, 0, 0) := z_ftd (by decide +kernel)
theorem t90_25 : z_ft 90 25 = some (.goto 4, 3, none, [], 29, 0, 0, 0) := z_ftd (by decide +kernel)
theorem t90_28 : z_ft 90 28 = some (.iconst 1, 1, none, [], 0, 0, 0, 0) := z_ftd (by decide +kernel)
theorem t90_29 : z_ft 90 29 = some (.ireturn, 1, (some []), [], 0, 0, 0, 0) := z_ftd (by decide +kernel)
-- X9_weight
theorem e90 (d : Nat) (x1 : Int32) (S : z_S) (hW : z_W S)  : fI (d + 1) 90 [.ref 182, .int x1] S = (if z_in x1 40 then (if ¬ (gI S 185 (x1).toNatClampNeg) = (0 : Int32) then (if ¬ x1 = ((gI S 182 4) - (1 : Int32)) then some ((1 : Int32), S) else some (((40 : Int32) - x1), S)) else some ((0 : Int32), S)) else none) := by
  refine (fI_en (Nat.le_of_ble_eq_true rfl) rfl).trans ?_
  refine (k_aload_n t90_0 rfl rfl).trans ?_
  refine (k_getR t90_1 rfl hW zK_182 (by decide) (by decide) (zF_182_3 hW)).trans ?_
  refine (k_iload_n t90_4 rfl rfl).trans ?_
  refine (k_zald t90_5 rfl hW zK_185 zL_185).trans (z_ite (fun g1 => ?_) (fun _ => rfl))
  refine (k_if_ne t90_6 rfl).trans (z_ite (fun g2 => ?_) (fun g2 => ?_))
  · refine (k_iload_n t90_11 rfl rfl).trans ?_
    refine (k_aload_n t90_12 rfl rfl).trans ?_
    refine (k_getI t90_13 rfl hW zK_182 (by decide) (by decide)).trans ?_
    refine (k_iconst t90_16 rfl zci_1).trans ?_
    refine (k_isub t90_17 rfl).trans ?_
    refine (k_icmp_ne t90_18 rfl).trans (z_ite (fun g3 => ?_) (fun g3 => ?_))
    · refine (k_iconst t90_28 rfl zci_1).trans ?_
      refine (zk_mk (ls' := [z_j, z_j]) t90_29 rfl).trans ?_
      exact k_ireturn t90_29 rfl (by decide)
    · refine (k_bipush t90_21 rfl zcb_40).trans ?_
      refine (k_iload_n t90_23 rfl rfl).trans ?_
      refine (k_isub t90_24 rfl).trans ?_
      refine (k_goto t90_25 rfl).trans ?_
      refine (zk_mk (ls' := [z_j, z_j]) t90_29 rfl).trans ?_
      exact k_ireturn t90_29 rfl (by decide)
  · refine (k_iconst t90_9 rfl zci_0).trans ?_
    exact k_ireturn t90_10 rfl (by decide)
theorem t91_0 : z_ft 91 0 = some (.iconst 0, 1, none, [], 0, 0, 0, 0) := z_ftd (by decide +kernel)
theorem t91_1 : z_ft 91 1 = some (.istore_n 1, 1, none, [], 0, 0, 0, 0) := z_ftd (by decide +kernel)
theorem t91_2 : z_ft 91 2 = some (.iconst 0, 1, none, [], 0, 0, 0, 0) := z_ftd (by decide +kernel)
theorem t91_3 : z_ft 91 3 = some (.istore_n 2, 1, none, [], 0, 0, 0, 0) := z_ftd (by decide +kernel)
theorem t91_4 : z_ft 91 4 = some (.iload_n 2, 1, (some [0, 1, 2]), [], 0, 0, 0, 0) := z_ftd (by decide +kernel)
theorem t91_5 : z_ft 91 5 = some (.aload_n 0, 1, none, [], 0, 0, 0, 0) := z_ftd (by decide +kernel)
theorem t91_6 : z_ft 91 6 = some (.getfield 29, 3, none, [], 9, 4, 11, 0) := z_ftd (by decide +kernel)
theorem t91_9 : z_ft 91 9 = some (.if_icmp .ge 17, 3, none, [], 26, 0, 0, 0) := z_ftd (by decide +kernel)
theorem t91_12 : z_ft 91 12 = some (.iload_n 1, 1, none, [], 0, 0, 0, 0) := z_ftd (by decide +kernel)
theorem t91_13 : z_ft 91 13 = some (.aload_n 0, 1, none, [], 0, 0, 0, 0) := z_ftd (by decide +kernel)
theorem t91_14 : z_ft 91 14 = some (.iload_n 2, 1, none, [], 0, 0, 0, 0) := z_ftd (by decide +kernel)
theorem t91_15 : z_ft 91 15 = some (.invokevirtual 102, 3, none, [], 90, 0, 27, 0) := z_ftd (by decide +kernel)
theorem t91_18 : z_ft 91 18 = some (.iadd, 1, none, [], 0, 0, 0, 0) := z_ftd (by decide +kernel)
theorem t91_19 : z_ft 91 19 = some (.istore_n 1, 1, none, [], 0, 0, 0, 0) := z_ftd (by decide +kernel)
theorem t91_20 : z_ft 91 20 = some (.iinc 2 1, 3, none, [], 0, 0, 0, 0) := z_ftd (by decide +kernel)
theorem t91_23 : z_ft 91 23 = some (.goto (-19), 3, none, [], 4, 0, 0, 0) := z_ftd (by decide +kernel)
theorem t91_26 : z_ft 91 26 = some (.iload_n 1, 1, none, [], 0, 0, 0, 0) := z_ftd (by decide +kernel)
theorem t91_27 : z_ft 91 27 = some (.ireturn, 1, none, [], 0, 0, 0, 0) := z_ftd (by decide +kernel)
noncomputable def b91_4 (d : Nat) (y1 : Int32) (y2 : Int32) (S : z_S) : Option (Int32 × z_S) := zk kI z_X0 d 91 4 [.ref 182, .int y1, .int y2] [] S
theorem b91_4_eq (d : Nat) (y1 : Int32) (y2 : Int32) (S : z_S) (hW : z_W S)  : b91_4 d y1 y2 S = (if (gI S 182 4) ≤ y2 then some (y1, S) else (zb (fI d 90 [.ref 182, .int y2] S) fun v2 S3 => b91_4 d (y1 + v2) (y2 + (1 : Int32)) S3)) := by
  unfold b91_4
  refine (k_iload_n t91_4 rfl rfl).trans ?_
  refine (k_aload_n t91_5 rfl rfl).trans ?_
  refine (k_getI t91_6 rfl hW zK_182 (by decide) (by decide)).trans ?_
  refine (k_icmp_ge t91_9 rfl).trans (z_ite (fun g1 => ?_) (fun g1 => ?_))
  · refine (k_iload_n t91_26 rfl rfl).trans ?_
    exact k_ireturn t91_27 rfl (by decide)
  · refine (k_iload_n t91_12 rfl rfl).trans ?_
    refine (k_aload_n t91_13 rfl rfl).trans ?_
    refine (k_iload_n t91_14 rfl rfl).trans ?_
    refine k_callI (as := [.ref 182, .int y2]) (rest := [.int y1]) t91_15 rfl rfl (by decide) rfl rfl (Nat.le_of_ble_eq_true rfl) rfl (z_rcV hW (zK_182) (by decide)) (by decide) (Or.inl (by decide)) hW (fun v2 S3 hW3 => ?_)
    refine (k_iadd t91_18 rfl).trans ?_
    refine (k_istore_n (ls' := [.ref 182, .int (y1 + v2), .int y2]) t91_19 rfl rfl).trans ?_
    refine (k_iinc (b := (y2 + (1 : Int32))) (ls' := [.ref 182, .int (y1 + v2), .int (y2 + (1 : Int32))]) t91_20 rfl rfl (by rw [zci_1]) rfl).trans ?_
    refine (k_goto t91_23 rfl).trans ?_
    exact (zk_mk (ls' := [.ref 182, .int (y1 + v2), .int (y2 + (1 : Int32))]) t91_4 rfl)
-- X9_countLeft
theorem e91 (d : Nat)  (S : z_S) (hW : z_W S)  : fI (d + 1) 91 [.ref 182] S = b91_4 d (0 : Int32) (0 : Int32) S := by
  refine (fI_en (Nat.le_of_ble_eq_true rfl) rfl).trans ?_
  refine (k_iconst t91_0 rfl zci_0).trans ?_
  refine (k_istore_n (ls' := [.ref 182, .int (0 : Int32), z_j]) t91_1 rfl rfl).trans ?_
  refine (k_iconst t91_2 rfl zci_0).trans ?_
  refine (k_istore_n (ls' := [.ref 182, .int (0 : Int32), .int (0 : Int32)]) t91_3 rfl rfl).trans ?_
  exact (zk_mk (ls' := [.ref 182, .int (0 : Int32), .int (0 : Int32)]) t91_4 rfl)
theorem t92_0 : z_ft 92 0 = some (.iconst 0, 1, none, [], 0, 0, 0, 0) := z_ftd (by decide +kernel)
theorem t92_1 : z_ft 92 1 = some (.istore_n 2, 1, none, [], 0, 0, 0, 0) := z_ftd (by decide +kernel)
theorem t92_2 : z_ft 92 2 = some (.iconst 0, 1, none, [], 0, 0, 0, 0) := z_ftd (by decide +kernel)
theorem t92_3 : z_ft 92 3 = some (.istore_n 3, 1, none, [], 0, 0, 0, 0) := z_ftd (by decide +kernel)
theorem t92_4 : z_ft 92 4 = some (.iload_n 3, 1, (some [0, 1, 2, 3]), [], 0, 0, 0, 0) := z_ftd (by decide +kernel)
theorem t92_5 : z_ft 92 5 = some (.aload_n 0, 1, none, [], 0, 0, 0, 0) := z_ftd (by decide +kernel)
theorem t92_6 : z_ft 92 6 = some (.getfield 29, 3, none, [], 9, 4, 11, 0) := z_ftd (by decide +kernel)
theorem t92_9 : z_ft 92 9 = some (.if_icmp .ge 42, 3, none, [], 51, 0, 0, 0) := z_ftd (by decide +kernel)
theorem t92_12 : z_ft 92 12 = some (.aload_n 0, 1, none, [], 0, 0, 0, 0) := z_ftd (by decide +kernel)
theorem t92_13 : z_ft 92 13 = some (.iload_n 3, 1, none, [], 0, 0, 0, 0) := z_ftd (by decide +kernel)
theorem t92_14 : z_ft 92 14 = some (.invokevirtual 102, 3, none, [], 90, 0, 27, 0) := z_ftd (by decide +kernel)
theorem t92_17 : z_ft 92 17 = some (.istore 4, 2, none, [], 0, 0, 0, 0) := z_ftd (by decide +kernel)
theorem t92_19 : z_ft 92 19 = some (.iload_n 1, 1, none, [], 0, 0, 0, 0) := z_ftd (by decide +kernel)
theorem t92_20 : z_ft 92 20 = some (.iload_n 2, 1, none, [], 0, 0, 0, 0) := z_ftd (by decide +kernel)
theorem t92_21 : z_ft 92 21 = some (.if_icmp .lt 19, 3, none, [], 40, 0, 0, 0) := z_ftd (by decide +kernel)
theorem t92_24 : z_ft 92 24 = some (.iload_n 1, 1, none, [], 0, 0, 0, 0) := z_ftd (by decide +kernel)
theorem t92_25 : z_ft 92 25 = some (.iload_n 2, 1, none, [], 0, 0, 0, 0) := z_ftd (by decide +kernel)
theorem t92_26 : z_ft 92 26 = some (.iload 4, 2, none, [], 0, 0, 0, 0) := z_ftd (by decide +kernel)
theorem t92_28 : z_ft 92 28 = some (.iadd, 1, none, [], 0, 0, 0, 0) := z_ftd (by decide +kernel)
theorem t92_29 : z_ft 92 29 = some (.if_icmp .ge 11, 3, none, [], 40, 0, 0, 0) := z_ftd (by decide +kernel)
theorem t92_32 : z_ft 92 32 = some (.iload_n 3, 1, none, [], 0, 0, 0, 0) := z_ftd (by decide +kernel)
theorem t92_33 : z_ft 92 33 = some (.iconst 1, 1, none, [], 0, 0, 0, 0) := z_ftd (by decide +kernel)
theorem t92_34 : z_ft 92 34 = some (.iadd, 1, none, [], 0, 0, 0, 0) := z_ftd (by decide +kernel)
theorem t92_35 : z_ft 92 35 = some (.iload_n 1, 1, none, [], 0, 0, 0, 0) := z_ftd (by decide +kernel)
theorem t92_36 : z_ft 92 36 = some (.iadd, 1, none, [], 0, 0, 0, 0) := z_ftd (by decide +kernel)
theorem t92_37 : z_ft 92 37 = some (.iload_n 2, 1, none, [], 0, 0, 0, 0) := z_ftd (by decide +kernel)
theorem t92_38 : z_ft 92 38 = some (.isub, 1, none, [], 0, 0, 0, 0) := z_ftd (by decide +kernel)
theorem t92_39 : z_ft 92 39 = some (.ireturn, 1, none, [], 0, 0, 0, 0) := z_ftd (by decide +kernel)
theorem t92_40 : z_ft 92 40 = some (.iload_n 2, 1, (some [0, 1, 2, 3, 4]), [], 0, 0, 0, 0) := z_ftd (by decide +kernel)
theorem t92_41 : z_ft 92 41 = some (.iload 4, 2, none, [], 0, 0, 0, 0) := z_ftd (by decide +kernel)
theorem t92_43 : z_ft 92 43 = some (.iadd, 1, none, [], 0, 0, 0, 0) := z_ftd (by decide +kernel)
theorem t92_44 : z_ft 92 44 = some (.istore_n 2, 1, none, [], 0, 0, 0, 0) := z_ftd (by decide +kernel)
theorem t92_45 : z_ft 92 45 = some (.iinc 3 1, 3, none, [], 0, 0, 0, 0) := z_ftd (by decide +kernel)
theorem t92_48 : z_ft 92 48 = some (.goto (-44), 3, none, [], 4, 0, 0, 0) := z_ftd (by decide +kernel)
theorem t92_51 : z_ft 92 51 = some (.iconst (-1), 1, none, [], 0, 0, 0, 0) := z_ftd (by decide +kernel)
theorem t92_52 : z_ft 92 52 = some (.ireturn, 1, none, [], 0, 0, 0, 0) := z_ftd (by decide +kernel)
noncomputable def b92_4 (d : Nat) (y1 : Int32) (y2 : Int32) (y3 : Int32) (S : z_S) : Option (Int32 × z_S) := zk kI z_X0 d 92 4 [.ref 182, .int y1, .int y2, .int y3, z_j] [] S
noncomputable def b92_40 (d : Nat) (y1 : Int32) (y2 : Int32) (y3 : Int32) (y4 : Int32) (S : z_S) : Option (Int32 × z_S) := zk kI z_X0 d 92 40 [.ref 182, .int y1, .int y2, .int y3, .int y4] [] S
theorem b92_4_eq (d : Nat) (y1 : Int32) (y2 : Int32) (y3 : Int32) (S : z_S) (hW : z_W S)  : b92_4 d y1 y2 y3 S = (if (gI S 182 4) ≤ y3 then some ((-1 : Int32), S) else (zb (fI d 90 [.ref 182, .int y3] S) fun v2 S3 => (if y1 < y2 then b92_40 d y1 y2 y3 v2 S3 else (if (y2 + v2) ≤ y1 then b92_40 d y1 y2 y3 v2 S3 else some ((((y3 + (1 : Int32)) + y1) - y2), S3))))) := by
  unfold b92_4
  refine (k_iload_n t92_4 rfl rfl).trans ?_
  refine (k_aload_n t92_5 rfl rfl).trans ?_
  refine (k_getI t92_6 rfl hW zK_182 (by decide) (by decide)).trans ?_
  refine (k_icmp_ge t92_9 rfl).trans (z_ite (fun g1 => ?_) (fun g1 => ?_))
  · refine (k_iconst t92_51 rfl zci_m1).trans ?_
    exact k_ireturn t92_52 rfl (by decide)
  · refine (k_aload_n t92_12 rfl rfl).trans ?_
    refine (k_iload_n t92_13 rfl rfl).trans ?_
    refine k_callI (as := [.ref 182, .int y3]) (rest := []) t92_14 rfl rfl (by decide) rfl rfl (Nat.le_of_ble_eq_true rfl) rfl (z_rcV hW (zK_182) (by decide)) (by decide) (Or.inl (by decide)) hW (fun v2 S3 hW3 => ?_)
    refine (k_istore (ls' := [.ref 182, .int y1, .int y2, .int y3, .int v2]) t92_17 rfl rfl).trans ?_
    refine (k_iload_n t92_19 rfl rfl).trans ?_
    refine (k_iload_n t92_20 rfl rfl).trans ?_
    refine (k_icmp_lt t92_21 rfl).trans (z_ite (fun g4 => ?_) (fun g4 => ?_))
    · exact (zk_mk (ls' := [.ref 182, .int y1, .int y2, .int y3, .int v2]) t92_40 rfl)
    · refine (k_iload_n t92_24 rfl rfl).trans ?_
      refine (k_iload_n t92_25 rfl rfl).trans ?_
      refine (k_iload t92_26 rfl rfl).trans ?_
      refine (k_iadd t92_28 rfl).trans ?_
      refine (k_icmp_ge t92_29 rfl).trans (z_ite (fun g5 => ?_) (fun g5 => ?_))
      · exact (zk_mk (ls' := [.ref 182, .int y1, .int y2, .int y3, .int v2]) t92_40 rfl)
      · refine (k_iload_n t92_32 rfl rfl).trans ?_
        refine (k_iconst t92_33 rfl zci_1).trans ?_
        refine (k_iadd t92_34 rfl).trans ?_
        refine (k_iload_n t92_35 rfl rfl).trans ?_
        refine (k_iadd t92_36 rfl).trans ?_
        refine (k_iload_n t92_37 rfl rfl).trans ?_
        refine (k_isub t92_38 rfl).trans ?_
        exact k_ireturn t92_39 rfl (by decide)
theorem b92_40_eq (d : Nat) (y1 : Int32) (y2 : Int32) (y3 : Int32) (y4 : Int32) (S : z_S) (hW : z_W S)  : b92_40 d y1 y2 y3 y4 S = b92_4 d y1 (y2 + y4) (y3 + (1 : Int32)) S := by
  unfold b92_40
  refine (k_iload_n t92_40 rfl rfl).trans ?_
  refine (k_iload t92_41 rfl rfl).trans ?_
  refine (k_iadd t92_43 rfl).trans ?_
  refine (k_istore_n (ls' := [.ref 182, .int y1, .int (y2 + y4), .int y3, .int y4]) t92_44 rfl rfl).trans ?_
  refine (k_iinc (b := (y3 + (1 : Int32))) (ls' := [.ref 182, .int y1, .int (y2 + y4), .int (y3 + (1 : Int32)), .int y4]) t92_45 rfl rfl (by rw [zci_1]) rfl).trans ?_
  refine (k_goto t92_48 rfl).trans ?_
  exact (zk_mk (ls' := [.ref 182, .int y1, .int (y2 + y4), .int (y3 + (1 : Int32)), z_j]) t92_4 rfl)
-- X9_leftAt
theorem e92 (d : Nat) (x1 : Int32) (S : z_S) (hW : z_W S)  : fI (d + 1) 92 [.ref 182, .int x1] S = b92_4 d x1 (0 : Int32) (0 : Int32) S := by
  refine (fI_en (Nat.le_of_ble_eq_true rfl) rfl).trans ?_
  refine (k_iconst t92_0 rfl zci_0).trans ?_
  refine (k_istore_n (ls' := [.ref 182, .int x1, .int (0 : Int32), z_j, z_j]) t92_1 rfl rfl).trans ?_
  refine (k_iconst t92_2 rfl zci_0).trans ?_
  refine (k_istore_n (ls' := [.ref 182, .int x1, .int (0 : Int32), .int (0 : Int32), z_j]) t92_3 rfl rfl).trans ?_
  exact (zk_mk (ls' := [.ref 182, .int x1, .int (0 : Int32), .int (0 : Int32), z_j]) t92_4 rfl)
theorem t93_0 : z_ft 93 0 = some (.aload_n 0, 1, none, [], 0, 0, 0, 0) := z_ftd (by decide +kernel)
theorem t93_1 : z_ft 93 1 = some (.iconst (-1), 1, none, [], 0, 0, 0, 0) := z_ftd (by decide +kernel)
theorem t93_2 : z_ft 93 2 = some (.putfield 35, 3, none, [], 9, 6, 13, 0) := z_ftd (by decide +kernel)
theorem t93_5 : z_ft 93 5 = some (.aload_n 0, 1, none, [], 0, 0, 0, 0) := z_ftd (by decide +kernel)
theorem t93_6 : z_ft 93 6 = some (.iconst (-1), 1, none, [], 0, 0, 0, 0) := z_ftd (by decide +kernel)
theorem t93_7 : z_ft 93 7 = some (.putfield 38, 3, none, [], 9, 7, 14, 0) := z_ftd (by decide +kernel)
theorem t93_10 : z_ft 93 10 = some (.aload_n 0, 1, none, [], 0, 0, 0, 0) := z_ftd (by decide +kernel)
theorem t93_11 : z_ft 93 11 = some (.iconst (-1), 1, none, [], 0, 0, 0, 0) := z_ftd (by decide +kernel)
theorem t93_12 : z_ft 93 12 = some (.putfield 41, 3, none, [], 9, 8, 15, 0) := z_ftd (by decide +kernel)
theorem t93_15 : z_ft 93 15 = some (.aload_n 0, 1, none, [], 0, 0, 0, 0) := z_ftd (by decide +kernel)
theorem t93_16 : z_ft 93 16 = some (.invokevirtual 106, 3, none, [], 91, 0, 28, 0) := z_ftd (by decide +kernel)
theorem t93_19 : z_ft 93 19 = some (.ifCond .ne 4, 3, none, [], 23, 0, 0, 0) := z_ftd (by decide +kernel)
theorem t93_22 : z_ft 93 22 = some (.return_, 1, none, [], 0, 0, 0, 0) := z_ftd (by decide +kernel)
theorem t93_23 : z_ft 93 23 = some (.aload_n 0, 1, none, [], 0, 0, 0, 0) := z_ftd (by decide +kernel)
theorem t93_24 : z_ft 93 24 = some (.aload_n 1, 1, none, [], 0, 0, 0, 0) := z_ftd (by decide +kernel)
theorem t93_25 : z_ft 93 25 = some (.aload_n 2, 1, none, [], 0, 0, 0, 0) := z_ftd (by decide +kernel)
theorem t93_26 : z_ft 93 26 = some (.iload_n 3, 1, none, [], 0, 0, 0, 0) := z_ftd (by decide +kernel)
theorem t93_27 : z_ft 93 27 = some (.invokevirtual 60, 3, none, [], 86, 0, 19, 0) := z_ftd (by decide +kernel)
theorem t93_30 : z_ft 93 30 = some (.iconst 0, 1, none, [], 0, 0, 0, 0) := z_ftd (by decide +kernel)
theorem t93_31 : z_ft 93 31 = some (.istore 4, 2, none, [], 0, 0, 0, 0) := z_ftd (by decide +kernel)
theorem t93_33 : z_ft 93 33 = some (.iload 4, 2, (some [0, 1, 2, 4]), [], 0, 0, 0, 0) := z_ftd (by decide +kernel)
theorem t93_35 : z_ft 93 35 = some (.bipush 30, 2, none, [], 0, 0, 0, 0) := z_ftd (by decide +kernel)
theorem t93_37 : z_ft 93 37 = some (.if_icmp .gt 61, 3, none, [], 98, 0, 0, 0) := z_ftd (by decide +kernel)
theorem t93_40 : z_ft 93 40 = some (.aload_n 2, 1, none, [], 0, 0, 0, 0) := z_ftd (by decide +kernel)
theorem t93_41 : z_ft 93 41 = some (.getfield 72, 3, none, [], 8, 0, 2, 0) := z_ftd (by decide +kernel)
theorem t93_44 : z_ft 93 44 = some (.iload 4, 2, none, [], 0, 0, 0, 0) := z_ftd (by decide +kernel)
theorem t93_46 : z_ft 93 46 = some (.iadd, 1, none, [], 0, 0, 0, 0) := z_ftd (by decide +kernel)
theorem t93_47 : z_ft 93 47 = some (.sipush 999, 3, none, [], 0, 0, 0, 0) := z_ftd (by decide +kernel)
theorem t93_50 : z_ft 93 50 = some (.if_icmp .gt 48, 3, none, [], 98, 0, 0, 0) := z_ftd (by decide +kernel)
theorem t93_53 : z_ft 93 53 = some (.iload 4, 2, none, [], 0, 0, 0, 0) := z_ftd (by decide +kernel)
theorem t93_55 : z_ft 93 55 = some (.ifCond .le 8, 3, none, [], 63, 0, 0, 0) := z_ftd (by decide +kernel)
theorem t93_58 : z_ft 93 58 = some (.aload_n 0, 1, none, [], 0, 0, 0, 0) := z_ftd (by decide +kernel)
theorem t93_59 : z_ft 93 59 = some (.aload_n 1, 1, none, [], 0, 0, 0, 0) := z_ftd (by decide +kernel)
theorem t93_60 : z_ft 93 60 = some (.invokevirtual 68, 3, none, [], 88, 0, 24, 0) := z_ftd (by decide +kernel)
theorem t93_63 : z_ft 93 63 = some (.iconst 0, 1, (some [0, 1, 2, 4]), [], 0, 0, 0, 0) := z_ftd (by decide +kernel)
theorem t93_64 : z_ft 93 64 = some (.istore 5, 2, none, [], 0, 0, 0, 0) := z_ftd (by decide +kernel)
theorem t93_66 : z_ft 93 66 = some (.iload 5, 2, (some [0, 1, 2, 4, 5]), [], 0, 0, 0, 0) := z_ftd (by decide +kernel)
theorem t93_68 : z_ft 93 68 = some (.aload_n 1, 1, none, [], 0, 0, 0, 0) := z_ftd (by decide +kernel)
theorem t93_69 : z_ft 93 69 = some (.getfield 109, 3, none, [], 2, 0, 1, 0) := z_ftd (by decide +kernel)
theorem t93_72 : z_ft 93 72 = some (.getfield 113, 3, none, [], 6, 1, 0, 0) := z_ftd (by decide +kernel)
theorem t93_75 : z_ft 93 75 = some (.if_icmp .ge 17, 3, none, [], 92, 0, 0, 0) := z_ftd (by decide +kernel)
theorem t93_78 : z_ft 93 78 = some (.aload_n 0, 1, none, [], 0, 0, 0, 0) := z_ftd (by decide +kernel)
theorem t93_79 : z_ft 93 79 = some (.iload 4, 2, none, [], 0, 0, 0, 0) := z_ftd (by decide +kernel)
theorem t93_81 : z_ft 93 81 = some (.iload 5, 2, none, [], 0, 0, 0, 0) := z_ftd (by decide +kernel)
theorem t93_83 : z_ft 93 83 = some (.invokevirtual 116, 3, none, [], 94, 0, 29, 0) := z_ftd (by decide +kernel)
theorem t93_86 : z_ft 93 86 = some (.iinc 5 1, 3, none, [], 0, 0, 0, 0) := z_ftd (by decide +kernel)
theorem t93_89 : z_ft 93 89 = some (.goto (-23), 3, none, [], 66, 0, 0, 0) := z_ftd (by decide +kernel)
theorem t93_92 : z_ft 93 92 = some (.iinc 4 1, 3, none, [], 0, 0, 0, 0) := z_ftd (by decide +kernel)
theorem t93_95 : z_ft 93 95 = some (.goto (-62), 3, none, [], 33, 0, 0, 0) := z_ftd (by decide +kernel)
theorem t93_98 : z_ft 93 98 = some (.return_, 1, (some []), [], 0, 0, 0, 0) := z_ftd (by decide +kernel)
noncomputable def b93_33 (d : Nat) (y2 : Nat) (y4 : Int32) (S : z_S) : Option z_S := zk kV z_X0 d 93 33 [.ref 182, .ref 22, .ref y2, z_j, .int y4, z_j] [] S
noncomputable def b93_63 (d : Nat) (y2 : Nat) (y4 : Int32) (S : z_S) : Option z_S := zk kV z_X0 d 93 63 [.ref 182, .ref 22, .ref y2, z_j, .int y4, z_j] [] S
noncomputable def b93_66 (d : Nat) (y2 : Nat) (y4 : Int32) (y5 : Int32) (S : z_S) : Option z_S := zk kV z_X0 d 93 66 [.ref 182, .ref 22, .ref y2, z_j, .int y4, .int y5] [] S
theorem b93_33_eq (d : Nat) (y2 : Nat) (y4 : Int32) (S : z_S) (hW : z_W S) (hy2 : z_K y2 = 8) : b93_33 d y2 y4 S = (if (30 : Int32) < y4 then some S else (if (999 : Int32) < ((gI S y2 0) + y4) then some S else (if y4 ≤ (0 : Int32) then b93_63 d y2 y4 S else ((fV d 88 [.ref 182, .ref 22] S).bind fun S10 => b93_63 d y2 y4 S10)))) := by
  unfold b93_33
  refine (k_iload t93_33 rfl rfl).trans ?_
  refine (k_bipush t93_35 rfl zcb_30).trans ?_
  refine (k_icmp_gt t93_37 rfl).trans (z_ite (fun g6 => ?_) (fun g6 => ?_))
  · refine (zk_mk (ls' := [z_j, z_j, z_j, z_j, z_j, z_j]) t93_98 rfl).trans ?_
    exact k_return t93_98 rfl (by decide)
  · refine (k_aload_n t93_40 rfl rfl).trans ?_
    refine (k_getI t93_41 rfl hW hy2 (by decide) (by decide)).trans ?_
    refine (k_iload t93_44 rfl rfl).trans ?_
    refine (k_iadd t93_46 rfl).trans ?_
    refine (k_sipush t93_47 rfl zcs_999).trans ?_
    refine (k_icmp_gt t93_50 rfl).trans (z_ite (fun g7 => ?_) (fun g7 => ?_))
    · refine (zk_mk (ls' := [z_j, z_j, z_j, z_j, z_j, z_j]) t93_98 rfl).trans ?_
      exact k_return t93_98 rfl (by decide)
    · refine (k_iload t93_53 rfl rfl).trans ?_
      refine (k_if_le t93_55 rfl).trans (z_ite (fun g8 => ?_) (fun g8 => ?_))
      · exact (zk_mk (ls' := [.ref 182, .ref 22, .ref y2, z_j, .int y4, z_j]) t93_63 rfl)
      · refine (k_aload_n t93_58 rfl rfl).trans ?_
        refine (k_aload_n t93_59 rfl rfl).trans ?_
        refine k_callV (as := [.ref 182, .ref 22]) (rest := []) t93_60 rfl rfl (by decide) rfl rfl (Nat.le_of_ble_eq_true rfl) rfl (z_rcV hW (zK_182) (by decide)) (by decide) (by decide) hW (fun S10 hW10 => ?_)
        exact (zk_mk (ls' := [.ref 182, .ref 22, .ref y2, z_j, .int y4, z_j]) t93_63 rfl)
theorem b93_63_eq (d : Nat) (y2 : Nat) (y4 : Int32) (S : z_S) (hW : z_W S) (hy2 : z_K y2 = 8) : b93_63 d y2 y4 S = b93_66 d y2 y4 (0 : Int32) S := by
  unfold b93_63
  refine (k_iconst t93_63 rfl zci_0).trans ?_
  refine (k_istore (ls' := [.ref 182, .ref 22, .ref y2, z_j, .int y4, .int (0 : Int32)]) t93_64 rfl rfl).trans ?_
  exact (zk_mk (ls' := [.ref 182, .ref 22, .ref y2, z_j, .int y4, .int (0 : Int32)]) t93_66 rfl)
theorem b93_66_eq (d : Nat) (y2 : Nat) (y4 : Int32) (y5 : Int32) (S : z_S) (hW : z_W S) (hy2 : z_K y2 = 8) : b93_66 d y2 y4 y5 S = (if (gI S (gP S 22 0) 1) ≤ y5 then b93_33 d y2 (y4 + (1 : Int32)) S else ((fV d 94 [.ref 182, .int y4, .int y5] S).bind fun S13 => b93_66 d y2 y4 (y5 + (1 : Int32)) S13)) := by
  unfold b93_66
  refine (k_iload t93_66 rfl rfl).trans ?_
  refine (k_aload_n t93_68 rfl rfl).trans ?_
  refine (k_getR t93_69 rfl hW zK_22 (by decide) (by decide) (zM_22_0 hW).1).trans ?_
  refine (k_getI t93_72 rfl hW (zM_22_0 hW).2 (by decide) (by decide)).trans ?_
  refine (k_icmp_ge t93_75 rfl).trans (z_ite (fun g11 => ?_) (fun g11 => ?_))
  · refine (k_iinc (b := (y4 + (1 : Int32))) (ls' := [.ref 182, .ref 22, .ref y2, z_j, .int (y4 + (1 : Int32)), .int y5]) t93_92 rfl rfl (by rw [zci_1]) rfl).trans ?_
    refine (k_goto t93_95 rfl).trans ?_
    exact (zk_mk (ls' := [.ref 182, .ref 22, .ref y2, z_j, .int (y4 + (1 : Int32)), z_j]) t93_33 rfl)
  · refine (k_aload_n t93_78 rfl rfl).trans ?_
    refine (k_iload t93_79 rfl rfl).trans ?_
    refine (k_iload t93_81 rfl rfl).trans ?_
    refine k_callV (as := [.ref 182, .int y4, .int y5]) (rest := []) t93_83 rfl rfl (by decide) rfl rfl (Nat.le_of_ble_eq_true rfl) rfl (z_rcV hW (zK_182) (by decide)) (by decide) (by decide) hW (fun S13 hW13 => ?_)
    refine (k_iinc (b := (y5 + (1 : Int32))) (ls' := [.ref 182, .ref 22, .ref y2, z_j, .int y4, .int (y5 + (1 : Int32))]) t93_86 rfl rfl (by rw [zci_1]) rfl).trans ?_
    refine (k_goto t93_89 rfl).trans ?_
    exact (zk_mk (ls' := [.ref 182, .ref 22, .ref y2, z_j, .int y4, .int (y5 + (1 : Int32))]) t93_66 rfl)
-- X9_findTelling
theorem e93 (d : Nat) (p2 : Nat) (x3 : Int32) (S : z_S) (hW : z_W S) (hp2 : z_K p2 = 8) : fV (d + 1) 93 [.ref 182, .ref 22, .ref p2, .int x3] S = (zb (fI d 91 [.ref 182] (sI (sI (sI S 182 6 (-1 : Int32)) 182 7 (-1 : Int32)) 182 8 (-1 : Int32))) fun v1 S2 => (if ¬ v1 = (0 : Int32) then ((fV d 86 [.ref 182, .ref 22, .ref p2, .int x3] S2).bind fun S5 => b93_33 d p2 (0 : Int32) S5) else some S2)) := by
  refine (fV_en (Nat.le_of_ble_eq_true rfl) rfl).trans ?_
  refine (k_aload_n t93_0 rfl rfl).trans ?_
  refine (k_iconst t93_1 rfl zci_m1).trans ?_
  refine (k_putI t93_2 rfl hW zK_182 (by decide) (by decide) (by decide)).trans ?_
  refine (k_aload_n t93_5 rfl rfl).trans ?_
  refine (k_iconst t93_6 rfl zci_m1).trans ?_
  refine (k_putI t93_7 rfl hW.sI zK_182 (by decide) (by decide) (by decide)).trans ?_
  refine (k_aload_n t93_10 rfl rfl).trans ?_
  refine (k_iconst t93_11 rfl zci_m1).trans ?_
  refine (k_putI t93_12 rfl hW.sI.sI zK_182 (by decide) (by decide) (by decide)).trans ?_
  refine (k_aload_n t93_15 rfl rfl).trans ?_
  refine k_callI (as := [.ref 182]) (rest := []) t93_16 rfl rfl (by decide) rfl rfl (Nat.le_of_ble_eq_true rfl) rfl (z_rcV hW.sI.sI.sI (zK_182) (by decide)) (by decide) (Or.inl (by decide)) hW.sI.sI.sI (fun v1 S2 hW2 => ?_)
  refine (k_if_ne t93_19 rfl).trans (z_ite (fun g3 => ?_) (fun g3 => ?_))
  · refine (k_aload_n t93_23 rfl rfl).trans ?_
    refine (k_aload_n t93_24 rfl rfl).trans ?_
    refine (k_aload_n t93_25 rfl rfl).trans ?_
    refine (k_iload_n t93_26 rfl rfl).trans ?_
    refine k_callV (as := [.ref 182, .ref 22, .ref p2, .int x3]) (rest := []) t93_27 rfl rfl (by decide) rfl rfl (Nat.le_of_ble_eq_true rfl) rfl (z_rcV hW2 (zK_182) (by decide)) (by decide) (by decide) hW2 (fun S5 hW5 => ?_)
    refine (k_iconst t93_30 rfl zci_0).trans ?_
    refine (k_istore (ls' := [.ref 182, .ref 22, .ref p2, .int x3, .int (0 : Int32), z_j]) t93_31 rfl rfl).trans ?_
    exact (zk_mk (ls' := [.ref 182, .ref 22, .ref p2, z_j, .int (0 : Int32), z_j]) t93_33 rfl)
  · exact k_return t93_22 rfl (by decide)
theorem t94_0 : z_ft 94 0 = some (.aload_n 0, 1, none, [], 0, 0, 0, 0) := z_ftd (by decide +kernel)
theorem t94_1 : z_ft 94 1 = some (.getfield 32, 3, none, [], 9, 5, 12, 0) := z_ftd (by decide +kernel)
theorem t94_4 : z_ft 94 4 = some (.iconst 0, 1, none, [], 0, 0, 0, 0) := z_ftd (by decide +kernel)
theorem t94_5 : z_ft 94 5 = some (.invokestatic 120, 3, none, [], 281, 0, 30, 0) := z_ftd (by decide +kernel)
theorem t94_8 : z_ft 94 8 = some (.iconst 0, 1, none, [], 0, 0, 0, 0) := z_ftd (by decide +kernel)
theorem t94_9 : z_ft 94 9 = some (.istore_n 3, 1, none, [], 0, 0, 0, 0) := z_ftd (by decide +kernel)
theorem t94_10 : z_ft 94 10 = some (.iconst 0, 1, none, [], 0, 0, 0, 0) := z_ftd (by decide +kernel)
theorem t94_11 : z_ft 94 11 = some (.istore 4, 2, none, [], 0, 0, 0, 0) := z_ftd (by decide +kernel)
theorem t94_13 : z_ft 94 13 = some (.iload 4, 2, (some [0, 1, 2, 3, 4]), [], 0, 0, 0, 0) := z_ftd (by decide +kernel)
theorem t94_15 : z_ft 94 15 = some (.aload_n 0, 1, none, [], 0, 0, 0, 0) := z_ftd (by decide +kernel)
theorem t94_16 : z_ft 94 16 = some (.getfield 29, 3, none, [], 9, 4, 11, 0) := z_ftd (by decide +kernel)
theorem t94_19 : z_ft 94 19 = some (.if_icmp .ge 53, 3, none, [], 72, 0, 0, 0) := z_ftd (by decide +kernel)
theorem t94_22 : z_ft 94 22 = some (.aload_n 0, 1, none, [], 0, 0, 0, 0) := z_ftd (by decide +kernel)
theorem t94_23 : z_ft 94 23 = some (.getfield 21, 3, none, [], 9, 2, 9, 0) := z_ftd (by decide +kernel)
theorem t94_26 : z_ft 94 26 = some (.iload 4, 2, none, [], 0, 0, 0, 0) := z_ftd (by decide +kernel)
theorem t94_28 : z_ft 94 28 = some (.aaload, 1, none, [], 0, 0, 0, 0) := z_ftd (by decide +kernel)
theorem t94_29 : z_ft 94 29 = some (.getfield 99, 3, none, [], 8, 5, 3, 0) := z_ftd (by decide +kernel)
theorem t94_32 : z_ft 94 32 = some (.iload_n 2, 1, none, [], 0, 0, 0, 0) := z_ftd (by decide +kernel)
theorem t94_33 : z_ft 94 33 = some (.iaload, 1, none, [], 0, 0, 0, 0) := z_ftd (by decide +kernel)
theorem t94_34 : z_ft 94 34 = some (.iconst 1, 1, none, [], 0, 0, 0, 0) := z_ftd (by decide +kernel)
theorem t94_35 : z_ft 94 35 = some (.iadd, 1, none, [], 0, 0, 0, 0) := z_ftd (by decide +kernel)
theorem t94_36 : z_ft 94 36 = some (.istore 5, 2, none, [], 0, 0, 0, 0) := z_ftd (by decide +kernel)
theorem t94_38 : z_ft 94 38 = some (.aload_n 0, 1, none, [], 0, 0, 0, 0) := z_ftd (by decide +kernel)
theorem t94_39 : z_ft 94 39 = some (.getfield 32, 3, none, [], 9, 5, 12, 0) := z_ftd (by decide +kernel)
theorem t94_42 : z_ft 94 42 = some (.iload 5, 2, none, [], 0, 0, 0, 0) := z_ftd (by decide +kernel)
theorem t94_44 : z_ft 94 44 = some (.dup2, 1, none, [], 0, 0, 0, 0) := z_ftd (by decide +kernel)
theorem t94_45 : z_ft 94 45 = some (.iaload, 1, none, [], 0, 0, 0, 0) := z_ftd (by decide +kernel)
theorem t94_46 : z_ft 94 46 = some (.aload_n 0, 1, none, [], 0, 0, 0, 0) := z_ftd (by decide +kernel)
theorem t94_47 : z_ft 94 47 = some (.iload 4, 2, none, [], 0, 0, 0, 0) := z_ftd (by decide +kernel)
theorem t94_49 : z_ft 94 49 = some (.invokevirtual 102, 3, none, [], 90, 0, 27, 0) := z_ftd (by decide +kernel)
theorem t94_52 : z_ft 94 52 = some (.iadd, 1, none, [], 0, 0, 0, 0) := z_ftd (by decide +kernel)
theorem t94_53 : z_ft 94 53 = some (.iastore, 1, none, [], 0, 0, 0, 0) := z_ftd (by decide +kernel)
theorem t94_54 : z_ft 94 54 = some (.iload_n 3, 1, none, [], 0, 0, 0, 0) := z_ftd (by decide +kernel)
theorem t94_55 : z_ft 94 55 = some (.aload_n 0, 1, none, [], 0, 0, 0, 0) := z_ftd (by decide +kernel)
theorem t94_56 : z_ft 94 56 = some (.getfield 32, 3, none, [], 9, 5, 12, 0) := z_ftd (by decide +kernel)
theorem t94_59 : z_ft 94 59 = some (.iload 5, 2, none, [], 0, 0, 0, 0) := z_ftd (by decide +kernel)
theorem t94_61 : z_ft 94 61 = some (.iaload, 1, none, [], 0, 0, 0, 0) := z_ftd (by decide +kernel)
theorem t94_62 : z_ft 94 62 = some (.invokestatic 89, 3, none, [], 277, 0, 23, 0) := z_ftd (by decide +kernel)
theorem t94_65 : z_ft 94 65 = some (.istore_n 3, 1, none, [], 0, 0, 0, 0) := z_ftd (by decide +kernel)
theorem t94_66 : z_ft 94 66 = some (.iinc 4 1, 3, none, [], 0, 0, 0, 0) := z_ftd (by decide +kernel)
theorem t94_69 : z_ft 94 69 = some (.goto (-56), 3, none, [], 13, 0, 0, 0) := z_ftd (by decide +kernel)
theorem t94_72 : z_ft 94 72 = some (.aload_n 0, 1, none, [], 0, 0, 0, 0) := z_ftd (by decide +kernel)
theorem t94_73 : z_ft 94 73 = some (.getfield 41, 3, none, [], 9, 8, 15, 0) := z_ftd (by decide +kernel)
theorem t94_76 : z_ft 94 76 = some (.iconst (-1), 1, none, [], 0, 0, 0, 0) := z_ftd (by decide +kernel)
theorem t94_77 : z_ft 94 77 = some (.if_icmp .eq 11, 3, none, [], 88, 0, 0, 0) := z_ftd (by decide +kernel)
theorem t94_80 : z_ft 94 80 = some (.iload_n 3, 1, none, [], 0, 0, 0, 0) := z_ftd (by decide +kernel)
theorem t94_81 : z_ft 94 81 = some (.aload_n 0, 1, none, [], 0, 0, 0, 0) := z_ftd (by decide +kernel)
theorem t94_82 : z_ft 94 82 = some (.getfield 41, 3, none, [], 9, 8, 15, 0) := z_ftd (by decide +kernel)
theorem t94_85 : z_ft 94 85 = some (.if_icmp .ge 18, 3, none, [], 103, 0, 0, 0) := z_ftd (by decide +kernel)
theorem t94_88 : z_ft 94 88 = some (.aload_n 0, 1, (some [0, 1, 2, 3]), [], 0, 0, 0, 0) := z_ftd (by decide +kernel)
theorem t94_89 : z_ft 94 89 = some (.iload_n 1, 1, none, [], 0, 0, 0, 0) := z_ftd (by decide +kernel)
theorem t94_90 : z_ft 94 90 = some (.putfield 35, 3, none, [], 9, 6, 13, 0) := z_ftd (by decide +kernel)
theorem t94_93 : z_ft 94 93 = some (.aload_n 0, 1, none, [], 0, 0, 0, 0) := z_ftd (by decide +kernel)
theorem t94_94 : z_ft 94 94 = some (.iload_n 2, 1, none, [], 0, 0, 0, 0) := z_ftd (by decide +kernel)
theorem t94_95 : z_ft 94 95 = some (.putfield 38, 3, none, [], 9, 7, 14, 0) := z_ftd (by decide +kernel)
theorem t94_98 : z_ft 94 98 = some (.aload_n 0, 1, none, [], 0, 0, 0, 0) := z_ftd (by decide +kernel)
theorem t94_99 : z_ft 94 99 = some (.iload_n 3, 1, none, [], 0, 0, 0, 0) := z_ftd (by decide +kernel)
theorem t94_100 : z_ft 94 100 = some (.putfield 41, 3, none, [], 9, 8, 15, 0) := z_ftd (by decide +kernel)
theorem t94_103 : z_ft 94 103 = some (.return_, 1, (some []), [], 0, 0, 0, 0) := z_ftd (by decide +kernel)
noncomputable def b94_13 (d : Nat) (y1 : Int32) (y2 : Int32) (y3 : Int32) (y4 : Int32) (S : z_S) : Option z_S := zk kV z_X0 d 94 13 [.ref 182, .int y1, .int y2, .int y3, .int y4, z_j] [] S
noncomputable def b94_88 (d : Nat) (y1 : Int32) (y2 : Int32) (y3 : Int32) (S : z_S) : Option z_S := zk kV z_X0 d 94 88 [.ref 182, .int y1, .int y2, .int y3, z_j, z_j] [] S
theorem b94_13_eq (d : Nat) (y1 : Int32) (y2 : Int32) (y3 : Int32) (y4 : Int32) (S : z_S) (hW : z_W S)  : b94_13 d y1 y2 y3 y4 S = (if (gI S 182 4) ≤ y4 then (if (gI S 182 8) = (-1 : Int32) then b94_88 d y1 y2 y3 S else (if (gI S 182 8) ≤ y3 then some S else b94_88 d y1 y2 y3 S)) else (if z_in y4 40 then (if z_in y2 16 then (if z_in ((gI S ((187 + 5 * (y4).toNatClampNeg) + 1) (y2).toNatClampNeg) + (1 : Int32)) 17 then (zb (fI d 90 [.ref 182, .int y4] S) fun v9 S10 => (if z_in ((gI S ((187 + 5 * (y4).toNatClampNeg) + 1) (y2).toNatClampNeg) + (1 : Int32)) 17 then (if z_in ((gI S ((187 + 5 * (y4).toNatClampNeg) + 1) (y2).toNatClampNeg) + (1 : Int32)) 17 then (zb (fI d 277 [.int y3, .int (gI (sI S10 186 (((gI S ((187 + 5 * (y4).toNatClampNeg) + 1) (y2).toNatClampNeg) + (1 : Int32))).toNatClampNeg ((gI S 186 (((gI S ((187 + 5 * (y4).toNatClampNeg) + 1) (y2).toNatClampNeg) + (1 : Int32))).toNatClampNeg) + v9)) 186 (((gI S ((187 + 5 * (y4).toNatClampNeg) + 1) (y2).toNatClampNeg) + (1 : Int32))).toNatClampNeg)] (sI S10 186 (((gI S ((187 + 5 * (y4).toNatClampNeg) + 1) (y2).toNatClampNeg) + (1 : Int32))).toNatClampNeg ((gI S 186 (((gI S ((187 + 5 * (y4).toNatClampNeg) + 1) (y2).toNatClampNeg) + (1 : Int32))).toNatClampNeg) + v9))) fun v13 S14 => b94_13 d y1 y2 v13 (y4 + (1 : Int32)) S14) else none) else none)) else none) else none) else none)) := by
  unfold b94_13
  refine (k_iload t94_13 rfl rfl).trans ?_
  refine (k_aload_n t94_15 rfl rfl).trans ?_
  refine (k_getI t94_16 rfl hW zK_182 (by decide) (by decide)).trans ?_
  refine (k_icmp_ge t94_19 rfl).trans (z_ite (fun g3 => ?_) (fun g3 => ?_))
  · refine (k_aload_n t94_72 rfl rfl).trans ?_
    refine (k_getI t94_73 rfl hW zK_182 (by decide) (by decide)).trans ?_
    refine (k_iconst t94_76 rfl zci_m1).trans ?_
    refine (k_icmp_eq t94_77 rfl).trans (z_ite (fun g4 => ?_) (fun g4 => ?_))
    · exact (zk_mk (ls' := [.ref 182, .int y1, .int y2, .int y3, z_j, z_j]) t94_88 rfl)
    · refine (k_iload_n t94_80 rfl rfl).trans ?_
      refine (k_aload_n t94_81 rfl rfl).trans ?_
      refine (k_getI t94_82 rfl hW zK_182 (by decide) (by decide)).trans ?_
      refine (k_icmp_ge t94_85 rfl).trans (z_ite (fun g5 => ?_) (fun g5 => ?_))
      · refine (zk_mk (ls' := [z_j, z_j, z_j, z_j, z_j, z_j]) t94_103 rfl).trans ?_
        exact k_return t94_103 rfl (by decide)
      · exact (zk_mk (ls' := [.ref 182, .int y1, .int y2, .int y3, z_j, z_j]) t94_88 rfl)
  · refine (k_aload_n t94_22 rfl rfl).trans ?_
    refine (k_getR t94_23 rfl hW zK_182 (by decide) (by decide) (zF_182_2 hW)).trans ?_
    refine (k_iload t94_26 rfl rfl).trans ?_
    refine (k_aald t94_28 rfl hW (by rw [zK_184]; decide) zL_184).trans (z_ite (fun g6 => ?_) (fun _ => rfl))
    rw [(zA_184 g6).1]
    refine (k_getR t94_29 rfl hW (zA_184 g6).2 (by decide) (by decide) (zO_8_5 hW (zA_184 g6).2)).trans ?_
    refine (k_iload_n t94_32 rfl rfl).trans ?_
    refine (k_iald t94_33 rfl hW (zOK_8_5 (zA_184 g6).2) (zOL_8_5 (zA_184 g6).2)).trans (z_ite (fun g7 => ?_) (fun _ => rfl))
    refine (k_iconst t94_34 rfl zci_1).trans ?_
    refine (k_iadd t94_35 rfl).trans ?_
    refine (k_istore (ls' := [.ref 182, .int y1, .int y2, .int y3, .int y4, .int ((gI S ((187 + 5 * (y4).toNatClampNeg) + 1) (y2).toNatClampNeg) + (1 : Int32))]) t94_36 rfl rfl).trans ?_
    refine (k_aload_n t94_38 rfl rfl).trans ?_
    refine (k_getR t94_39 rfl hW zK_182 (by decide) (by decide) (zF_182_5 hW)).trans ?_
    refine (k_iload t94_42 rfl rfl).trans ?_
    refine (k_dup2IR t94_44 rfl).trans ?_
    refine (k_iald t94_45 rfl hW zK_186 zL_186).trans (z_ite (fun g8 => ?_) (fun _ => rfl))
    refine (k_aload_n t94_46 rfl rfl).trans ?_
    refine (k_iload t94_47 rfl rfl).trans ?_
    refine k_callI (as := [.ref 182, .int y4]) (rest := [.int (gI S 186 (((gI S ((187 + 5 * (y4).toNatClampNeg) + 1) (y2).toNatClampNeg) + (1 : Int32))).toNatClampNeg), .int ((gI S ((187 + 5 * (y4).toNatClampNeg) + 1) (y2).toNatClampNeg) + (1 : Int32)), .ref 186]) t94_49 rfl rfl (by decide) rfl rfl (Nat.le_of_ble_eq_true rfl) rfl (z_rcV hW (zK_182) (by decide)) (by decide) (Or.inl (by decide)) hW (fun v9 S10 hW10 => ?_)
    refine (k_iadd t94_52 rfl).trans ?_
    refine (k_iast t94_53 rfl hW10 zK_186 zL_186).trans (z_ite (fun g11 => ?_) (fun _ => rfl))
    refine (k_iload_n t94_54 rfl rfl).trans ?_
    refine (k_aload_n t94_55 rfl rfl).trans ?_
    refine (k_getR t94_56 rfl hW10.sI zK_182 (by decide) (by decide) (zF_182_5 hW10.sI)).trans ?_
    refine (k_iload t94_59 rfl rfl).trans ?_
    refine (k_iald t94_61 rfl hW10.sI zK_186 zL_186).trans (z_ite (fun g12 => ?_) (fun _ => rfl))
    refine k_callI (as := [.int y3, .int (gI (sI S10 186 (((gI S ((187 + 5 * (y4).toNatClampNeg) + 1) (y2).toNatClampNeg) + (1 : Int32))).toNatClampNeg ((gI S 186 (((gI S ((187 + 5 * (y4).toNatClampNeg) + 1) (y2).toNatClampNeg) + (1 : Int32))).toNatClampNeg) + v9)) 186 (((gI S ((187 + 5 * (y4).toNatClampNeg) + 1) (y2).toNatClampNeg) + (1 : Int32))).toNatClampNeg)]) (rest := []) t94_62 rfl rfl (by decide) rfl rfl (Nat.le_of_ble_eq_true rfl) rfl (z_rcS (by decide)) (by decide) (Or.inl (by decide)) hW10.sI (fun v13 S14 hW14 => ?_)
    refine (k_istore_n (ls' := [.ref 182, .int y1, .int y2, .int v13, .int y4, .int ((gI S ((187 + 5 * (y4).toNatClampNeg) + 1) (y2).toNatClampNeg) + (1 : Int32))]) t94_65 rfl rfl).trans ?_
    refine (k_iinc (b := (y4 + (1 : Int32))) (ls' := [.ref 182, .int y1, .int y2, .int v13, .int (y4 + (1 : Int32)), .int ((gI S ((187 + 5 * (y4).toNatClampNeg) + 1) (y2).toNatClampNeg) + (1 : Int32))]) t94_66 rfl rfl (by rw [zci_1]) rfl).trans ?_
    refine (k_goto t94_69 rfl).trans ?_
    exact (zk_mk (ls' := [.ref 182, .int y1, .int y2, .int v13, .int (y4 + (1 : Int32)), z_j]) t94_13 rfl)
theorem b94_88_eq (d : Nat) (y1 : Int32) (y2 : Int32) (y3 : Int32) (S : z_S) (hW : z_W S)  : b94_88 d y1 y2 y3 S = some (sI (sI (sI S 182 6 y1) 182 7 y2) 182 8 y3) := by
  unfold b94_88
  refine (k_aload_n t94_88 rfl rfl).trans ?_
  refine (k_iload_n t94_89 rfl rfl).trans ?_
  refine (k_putI t94_90 rfl hW zK_182 (by decide) (by decide) (by decide)).trans ?_
  refine (k_aload_n t94_93 rfl rfl).trans ?_
  refine (k_iload_n t94_94 rfl rfl).trans ?_
  refine (k_putI t94_95 rfl hW.sI zK_182 (by decide) (by decide) (by decide)).trans ?_
  refine (k_aload_n t94_98 rfl rfl).trans ?_
  refine (k_iload_n t94_99 rfl rfl).trans ?_
  refine (k_putI t94_100 rfl hW.sI.sI zK_182 (by decide) (by decide) (by decide)).trans ?_
  refine (zk_mk (ls' := [z_j, z_j, z_j, z_j, z_j, z_j]) t94_103 rfl).trans ?_
  exact k_return t94_103 rfl (by decide)
-- X9_weigh
theorem e94 (d : Nat) (x1 : Int32) (x2 : Int32) (S : z_S) (hW : z_W S)  : fV (d + 1) 94 [.ref 182, .int x1, .int x2] S = ((fV d 281 [.ref 186, .int (0 : Int32)] S).bind fun S2 => b94_13 d x1 x2 (0 : Int32) (0 : Int32) S2) := by
  refine (fV_en (Nat.le_of_ble_eq_true rfl) rfl).trans ?_
  refine (k_aload_n t94_0 rfl rfl).trans ?_
  refine (k_getR t94_1 rfl hW zK_182 (by decide) (by decide) (zF_182_5 hW)).trans ?_
  refine (k_iconst t94_4 rfl zci_0).trans ?_
  refine k_callV (as := [.ref 186, .int (0 : Int32)]) (rest := []) t94_5 rfl rfl (by decide) rfl rfl (Nat.le_of_ble_eq_true rfl) rfl (z_rcS (by decide)) (by decide) (by decide) hW (fun S2 hW2 => ?_)
  refine (k_iconst t94_8 rfl zci_0).trans ?_
  refine (k_istore_n (ls' := [.ref 182, .int x1, .int x2, .int (0 : Int32), z_j, z_j]) t94_9 rfl rfl).trans ?_
  refine (k_iconst t94_10 rfl zci_0).trans ?_
  refine (k_istore (ls' := [.ref 182, .int x1, .int x2, .int (0 : Int32), .int (0 : Int32), z_j]) t94_11 rfl rfl).trans ?_
  exact (zk_mk (ls' := [.ref 182, .int x1, .int x2, .int (0 : Int32), .int (0 : Int32), z_j]) t94_13 rfl)
