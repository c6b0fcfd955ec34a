/-! EQUATIONS of Grammar (written by wip/whole/gen/eqs.py). -/
theorem t8_0 : z_ft 8 0 = some (.aload_n 0, 1, none, [], 0, 0, 0, 0) := z_ftd (by decide +kernel)
theorem t8_1 : z_ft 8 1 = some (.iconst 0, 1, none, [], 0, 0, 0, 0) := z_ftd (by decide +kernel)
theorem t8_2 : z_ft 8 2 = some (.putfield 9, 3, none, [], 1, 0, 23, 0) := z_ftd (by decide +kernel)
theorem t8_5 : z_ft 8 5 = some (.aload_n 0, 1, none, [], 0, 0, 0, 0) := z_ftd (by decide +kernel)
theorem t8_6 : z_ft 8 6 = some (.iconst (-1), 1, none, [], 0, 0, 0, 0) := z_ftd (by decide +kernel)
theorem t8_7 : z_ft 8 7 = some (.putfield 15, 3, none, [], 1, 1, 24, 0) := z_ftd (by decide +kernel)
theorem t8_10 : z_ft 8 10 = some (.aload_n 0, 1, none, [], 0, 0, 0, 0) := z_ftd (by decide +kernel)
theorem t8_11 : z_ft 8 11 = some (.aload_n 3, 1, none, [], 0, 0, 0, 0) := z_ftd (by decide +kernel)
theorem t8_12 : z_ft 8 12 = some (.putfield 28, 3, none, [], 1, 3, 26, 0) := z_ftd (by decide +kernel)
theorem t8_15 : z_ft 8 15 = some (.aload_n 0, 1, none, [], 0, 0, 0, 0) := z_ftd (by decide +kernel)
theorem t8_16 : z_ft 8 16 = some (.getfield 28, 3, none, [], 1, 3, 26, 0) := z_ftd (by decide +kernel)
theorem t8_19 : z_ft 8 19 = some (.invokevirtual 32, 3, none, [], 57, 0, 28, 0) := z_ftd (by decide +kernel)
theorem t8_22 : z_ft 8 22 = some (.aload_n 0, 1, none, [], 0, 0, 0, 0) := z_ftd (by decide +kernel)
theorem t8_23 : z_ft 8 23 = some (.getfield 21, 3, none, [], 1, 2, 25, 0) := z_ftd (by decide +kernel)
theorem t8_26 : z_ft 8 26 = some (.aload_n 1, 1, none, [], 0, 0, 0, 0) := z_ftd (by decide +kernel)
theorem t8_27 : z_ft 8 27 = some (.iload_n 2, 1, none, [], 0, 0, 0, 0) := z_ftd (by decide +kernel)
theorem t8_28 : z_ft 8 28 = some (.invokevirtual 37, 3, none, [], 97, 0, 29, 0) := z_ftd (by decide +kernel)
theorem t8_31 : z_ft 8 31 = some (.iconst 0, 1, none, [], 0, 0, 0, 0) := z_ftd (by decide +kernel)
theorem t8_32 : z_ft 8 32 = some (.istore 4, 2, none, [], 0, 0, 0, 0) := z_ftd (by decide +kernel)
theorem t8_34 : z_ft 8 34 = some (.iload 4, 2, (some [0, 4]), [], 0, 0, 0, 0) := z_ftd (by decide +kernel)
theorem t8_36 : z_ft 8 36 = some (.bipush 60, 2, none, [], 0, 0, 0, 0) := z_ftd (by decide +kernel)
theorem t8_38 : z_ft 8 38 = some (.if_icmp .gt 64, 3, none, [], 102, 0, 0, 0) := z_ftd (by decide +kernel)
theorem t8_41 : z_ft 8 41 = some (.aload_n 0, 1, none, [], 0, 0, 0, 0) := z_ftd (by decide +kernel)
theorem t8_42 : z_ft 8 42 = some (.getfield 21, 3, none, [], 1, 2, 25, 0) := z_ftd (by decide +kernel)
theorem t8_45 : z_ft 8 45 = some (.getfield 40, 3, none, [], 10, 4, 18, 0) := z_ftd (by decide +kernel)
theorem t8_48 : z_ft 8 48 = some (.ifCond .eq 54, 3, none, [], 102, 0, 0, 0) := z_ftd (by decide +kernel)
theorem t8_51 : z_ft 8 51 = some (.iload 4, 2, none, [], 0, 0, 0, 0) := z_ftd (by decide +kernel)
theorem t8_53 : z_ft 8 53 = some (.bipush 60, 2, none, [], 0, 0, 0, 0) := z_ftd (by decide +kernel)
theorem t8_55 : z_ft 8 55 = some (.if_icmp .ne 10, 3, none, [], 65, 0, 0, 0) := z_ftd (by decide +kernel)
theorem t8_58 : z_ft 8 58 = some (.aload_n 0, 1, none, [], 0, 0, 0, 0) := z_ftd (by decide +kernel)
theorem t8_59 : z_ft 8 59 = some (.bipush 6, 2, none, [], 0, 0, 0, 0) := z_ftd (by decide +kernel)
theorem t8_61 : z_ft 8 61 = some (.invokevirtual 43, 3, none, [], 10, 0, 30, 0) := z_ftd (by decide +kernel)
theorem t8_64 : z_ft 8 64 = some (.ireturn, 1, none, [], 0, 0, 0, 0) := z_ftd (by decide +kernel)
theorem t8_65 : z_ft 8 65 = some (.aload_n 0, 1, none, [], 0, 0, 0, 0) := z_ftd (by decide +kernel)
theorem t8_66 : z_ft 8 66 = some (.invokevirtual 47, 3, none, [], 12, 0, 31, 0) := z_ftd (by decide +kernel)
theorem t8_69 : z_ft 8 69 = some (.ifCond .eq 12, 3, none, [], 81, 0, 0, 0) := z_ftd (by decide +kernel)
theorem t8_72 : z_ft 8 72 = some (.aload_n 0, 1, none, [], 0, 0, 0, 0) := z_ftd (by decide +kernel)
theorem t8_73 : z_ft 8 73 = some (.bipush 59, 2, none, [], 0, 0, 0, 0) := z_ftd (by decide +kernel)
theorem t8_75 : z_ft 8 75 = some (.invokevirtual 51, 3, none, [], 11, 0, 50, 0) := z_ftd (by decide +kernel)
theorem t8_78 : z_ft 8 78 = some (.ifCond .ne 5, 3, none, [], 83, 0, 0, 0) := z_ftd (by decide +kernel)
theorem t8_81 : z_ft 8 81 = some (.iconst 0, 1, (some []), [], 0, 0, 0, 0) := z_ftd (by decide +kernel)
theorem t8_82 : z_ft 8 82 = some (.ireturn, 1, none, [], 0, 0, 0, 0) := z_ftd (by decide +kernel)
theorem t8_83 : z_ft 8 83 = some (.aload_n 0, 1, none, [], 0, 0, 0, 0) := z_ftd (by decide +kernel)
theorem t8_84 : z_ft 8 84 = some (.getfield 28, 3, none, [], 1, 3, 26, 0) := z_ftd (by decide +kernel)
theorem t8_87 : z_ft 8 87 = some (.dup, 1, none, [], 0, 0, 0, 0) := z_ftd (by decide +kernel)
theorem t8_88 : z_ft 8 88 = some (.getfield 54, 3, none, [], 6, 0, 0, 0) := z_ftd (by decide +kernel)
theorem t8_91 : z_ft 8 91 = some (.iconst 1, 1, none, [], 0, 0, 0, 0) := z_ftd (by decide +kernel)
theorem t8_92 : z_ft 8 92 = some (.iadd, 1, none, [], 0, 0, 0, 0) := z_ftd (by decide +kernel)
theorem t8_93 : z_ft 8 93 = some (.putfield 54, 3, none, [], 6, 0, 0, 0) := z_ftd (by decide +kernel)
theorem t8_96 : z_ft 8 96 = some (.iinc 4 1, 3, none, [], 0, 0, 0, 0) := z_ftd (by decide +kernel)
theorem t8_99 : z_ft 8 99 = some (.goto (-65), 3, none, [], 34, 0, 0, 0) := z_ftd (by decide +kernel)
theorem t8_102 : z_ft 8 102 = some (.aload_n 0, 1, (some [0]), [], 0, 0, 0, 0) := z_ftd (by decide +kernel)
theorem t8_103 : z_ft 8 103 = some (.getfield 28, 3, none, [], 1, 3, 26, 0) := z_ftd (by decide +kernel)
theorem t8_106 : z_ft 8 106 = some (.getfield 54, 3, none, [], 6, 0, 0, 0) := z_ftd (by decide +kernel)
theorem t8_109 : z_ft 8 109 = some (.ifCond .gt 10, 3, none, [], 119, 0, 0, 0) := z_ftd (by decide +kernel)
theorem t8_112 : z_ft 8 112 = some (.aload_n 0, 1, none, [], 0, 0, 0, 0) := z_ftd (by decide +kernel)
theorem t8_113 : z_ft 8 113 = some (.invokevirtual 57, 3, none, [], 9, 0, 32, 0) := z_ftd (by decide +kernel)
theorem t8_116 : z_ft 8 116 = some (.ifCond .eq 7, 3, none, [], 123, 0, 0, 0) := z_ftd (by decide +kernel)
theorem t8_119 : z_ft 8 119 = some (.iconst 1, 1, (some []), [], 0, 0, 0, 0) := z_ftd (by decide +kernel)
theorem t8_120 : z_ft 8 120 = some (.goto 4, 3, none, [], 124, 0, 0, 0) := z_ftd (by decide +kernel)
theorem t8_123 : z_ft 8 123 = some (.iconst 0, 1, none, [], 0, 0, 0, 0) := z_ftd (by decide +kernel)
theorem t8_124 : z_ft 8 124 = some (.ireturn, 1, (some []), [], 0, 0, 0, 0) := z_ftd (by decide +kernel)
noncomputable def b8_34 (d : Nat) (y4 : Int32) (S : z_S) : Option (Int32 × z_S) := zk kI z_X0 d 8 34 [.ref 18, z_j, z_j, z_j, .int y4] [] S
noncomputable def b8_102 (d : Nat)  (S : z_S) : Option (Int32 × z_S) := zk kI z_X0 d 8 102 [.ref 18, z_j, z_j, z_j, z_j] [] S
noncomputable def b8_119 (d : Nat)  (S : z_S) : Option (Int32 × z_S) := zk kI z_X0 d 8 119 [z_j, z_j, z_j, z_j, z_j] [] S
theorem b8_34_eq (d : Nat) (y4 : Int32) (S : z_S) (hW : z_W S)  : b8_34 d y4 S = (if (60 : Int32) < y4 then b8_102 d S else (if (gI S 19 4) = (0 : Int32) then b8_102 d S else (if ¬ y4 = (60 : Int32) then (zb (fI d 12 [.ref 18] S) fun v8 S9 => (if v8 = (0 : Int32) then some ((0 : Int32), S9) else (zb (fI d 11 [.ref 18, .int (59 : Int32)] S9) fun v11 S12 => (if ¬ v11 = (0 : Int32) then b8_34 d (y4 + (1 : Int32)) (sI S12 (gP S12 18 3) 0 ((gI S12 (gP S12 18 3) 0) + (1 : Int32))) else some ((0 : Int32), S12))))) else (zb (fI d 10 [.ref 18, .int (6 : Int32)] S) fun v14 S15 => (if v14 = 0 ∨ v14 = 1 then some (v14, S15) else none))))) := by
  unfold b8_34
  refine (k_iload t8_34 rfl rfl).trans ?_
  refine (k_bipush t8_36 rfl zcb_60).trans ?_
  refine (k_icmp_gt t8_38 rfl).trans (z_ite (fun g5 => ?_) (fun g5 => ?_))
  · exact (zk_mk (ls' := [.ref 18, z_j, z_j, z_j, z_j]) t8_102 rfl)
  · refine (k_aload_n t8_41 rfl rfl).trans ?_
    refine (k_getR t8_42 rfl hW zK_18 (by decide) (by decide) (zF_18_2 hW)).trans ?_
    refine (k_getI t8_45 rfl hW zK_19 (by decide) (by decide)).trans ?_
    refine (k_if_eq t8_48 rfl).trans (z_ite (fun g6 => ?_) (fun g6 => ?_))
    · exact (zk_mk (ls' := [.ref 18, z_j, z_j, z_j, z_j]) t8_102 rfl)
    · refine (k_iload t8_51 rfl rfl).trans ?_
      refine (k_bipush t8_53 rfl zcb_60).trans ?_
      refine (k_icmp_ne t8_55 rfl).trans (z_ite (fun g7 => ?_) (fun g7 => ?_))
      · refine (k_aload_n t8_65 rfl rfl).trans ?_
        refine k_callI (as := [.ref 18]) (rest := []) t8_66 rfl rfl (by decide) rfl rfl (Nat.le_of_ble_eq_true rfl) rfl (z_rcV hW (zK_18) (by decide)) (by decide) (Or.inr (by decide)) hW (fun v8 S9 hW9 => ?_)
        refine (k_if_eq t8_69 rfl).trans (z_ite (fun g10 => ?_) (fun g10 => ?_))
        · refine (zk_mk (ls' := [z_j, z_j, z_j, z_j, z_j]) t8_81 rfl).trans ?_
          refine (k_iconst t8_81 rfl zci_0).trans ?_
          exact k_zretC t8_82 rfl (by decide) (by decide)
        · refine (k_aload_n t8_72 rfl rfl).trans ?_
          refine (k_bipush t8_73 rfl zcb_59).trans ?_
          refine k_callI (as := [.ref 18, .int (59 : Int32)]) (rest := []) t8_75 rfl rfl (by decide) rfl rfl (Nat.le_of_ble_eq_true rfl) rfl (z_rcV hW9 (zK_18) (by decide)) (by decide) (Or.inr (by decide)) hW9 (fun v11 S12 hW12 => ?_)
          refine (k_if_ne t8_78 rfl).trans (z_ite (fun g13 => ?_) (fun g13 => ?_))
          · refine (k_aload_n t8_83 rfl rfl).trans ?_
            refine (k_getR t8_84 rfl hW12 zK_18 (by decide) (by decide) (zM_18_3 hW12).1).trans ?_
            refine (k_dupR t8_87 rfl).trans ?_
            refine (k_getI t8_88 rfl hW12 (zM_18_3 hW12).2 (by decide) (by decide)).trans ?_
            refine (k_iconst t8_91 rfl zci_1).trans ?_
            refine (k_iadd t8_92 rfl).trans ?_
            refine (k_putI t8_93 rfl hW12 (zM_18_3 hW12).2 (by decide) (by decide) (by decide)).trans ?_
            refine (k_iinc (b := (y4 + (1 : Int32))) (ls' := [.ref 18, z_j, z_j, z_j, .int (y4 + (1 : Int32))]) t8_96 rfl rfl (by rw [zci_1]) rfl).trans ?_
            refine (k_goto t8_99 rfl).trans ?_
            exact (zk_mk (ls' := [.ref 18, z_j, z_j, z_j, .int (y4 + (1 : Int32))]) t8_34 rfl)
          · refine (zk_mk (ls' := [z_j, z_j, z_j, z_j, z_j]) t8_81 rfl).trans ?_
            refine (k_iconst t8_81 rfl zci_0).trans ?_
            exact k_zretC t8_82 rfl (by decide) (by decide)
      · refine (k_aload_n t8_58 rfl rfl).trans ?_
        refine (k_bipush t8_59 rfl zcb_6).trans ?_
        refine k_callI (as := [.ref 18, .int (6 : Int32)]) (rest := []) t8_61 rfl rfl (by decide) rfl rfl (Nat.le_of_ble_eq_true rfl) rfl (z_rcV hW (zK_18) (by decide)) (by decide) (Or.inr (by decide)) hW (fun v14 S15 hW15 => ?_)
        exact (k_zreturn t8_64 rfl (by decide)).trans (z_ite (fun _ => rfl) (fun _ => rfl))
theorem b8_102_eq (d : Nat)  (S : z_S) (hW : z_W S)  : b8_102 d  S = (if (0 : Int32) < (gI S (gP S 18 3) 0) then b8_119 d S else (zb (fI d 9 [.ref 18] S) fun v17 S18 => (if v17 = (0 : Int32) then some ((0 : Int32), S18) else b8_119 d S18))) := by
  unfold b8_102
  refine (k_aload_n t8_102 rfl rfl).trans ?_
  refine (k_getR t8_103 rfl hW zK_18 (by decide) (by decide) (zM_18_3 hW).1).trans ?_
  refine (k_getI t8_106 rfl hW (zM_18_3 hW).2 (by decide) (by decide)).trans ?_
  refine (k_if_gt t8_109 rfl).trans (z_ite (fun g16 => ?_) (fun g16 => ?_))
  · exact (zk_mk (ls' := [z_j, z_j, z_j, z_j, z_j]) t8_119 rfl)
  · refine (k_aload_n t8_112 rfl rfl).trans ?_
    refine k_callI (as := [.ref 18]) (rest := []) t8_113 rfl rfl (by decide) rfl rfl (Nat.le_of_ble_eq_true rfl) rfl (z_rcV hW (zK_18) (by decide)) (by decide) (Or.inr (by decide)) hW (fun v17 S18 hW18 => ?_)
    refine (k_if_eq t8_116 rfl).trans (z_ite (fun g19 => ?_) (fun g19 => ?_))
    · refine (k_iconst t8_123 rfl zci_0).trans ?_
      refine (zk_mk (ls' := [z_j, z_j, z_j, z_j, z_j]) t8_124 rfl).trans ?_
      exact k_zretC t8_124 rfl (by decide) (by decide)
    · exact (zk_mk (ls' := [z_j, z_j, z_j, z_j, z_j]) t8_119 rfl)
theorem b8_119_eq (d : Nat)  (S : z_S) (hW : z_W S)  : b8_119 d  S = some ((1 : Int32), S) := by
  unfold b8_119
  refine (k_iconst t8_119 rfl zci_1).trans ?_
  refine (k_goto t8_120 rfl).trans ?_
  refine (zk_mk (ls' := [z_j, z_j, z_j, z_j, z_j]) t8_124 rfl).trans ?_
  exact k_zretC t8_124 rfl (by decide) (by decide)
-- X1_readText
theorem e8 (d : Nat) (a1 : Nat) (x2 : Int32) (p3 : Nat) (S : z_S) (hW : z_W S) (ha1 : z_K a1 = 20) (hp3 : z_K p3 = 6) : fI (d + 1) 8 [.ref 18, .ref a1, .int x2, .ref p3] S = ((fV d 57 [.ref (gP (sR (sI (sI S 18 0 (0 : Int32)) 18 1 (-1 : Int32)) 18 3 (some p3)) 18 3)] (sR (sI (sI S 18 0 (0 : Int32)) 18 1 (-1 : Int32)) 18 3 (some p3))).bind fun S2 => ((fV d 97 [.ref 19, .ref a1, .int x2] S2).bind fun S4 => b8_34 d (0 : Int32) S4)) := by
  refine (fI_en (Nat.le_of_ble_eq_true rfl) rfl).trans ?_
  refine (k_aload_n t8_0 rfl rfl).trans ?_
  refine (k_iconst t8_1 rfl zci_0).trans ?_
  refine (k_putI t8_2 rfl hW zK_18 (by decide) (by decide) (by decide)).trans ?_
  refine (k_aload_n t8_5 rfl rfl).trans ?_
  refine (k_iconst t8_6 rfl zci_m1).trans ?_
  refine (k_putI t8_7 rfl hW.sI zK_18 (by decide) (by decide) (by decide)).trans ?_
  refine (k_aload_n t8_10 rfl rfl).trans ?_
  refine (k_aload_n t8_11 rfl rfl).trans ?_
  refine (k_putR t8_12 rfl hW.sI.sI zK_18 (by decide) (by decide) (by rw [hp3]; decide) (by rw [hp3]; decide)).trans ?_
  refine (k_aload_n t8_15 rfl rfl).trans ?_
  refine (k_getR t8_16 rfl (zR_18_3 hW.sI.sI hp3) zK_18 (by decide) (by decide) (zM_18_3 (zR_18_3 hW.sI.sI hp3)).1).trans ?_
  refine k_callV (as := [.ref (gP (sR (sI (sI S 18 0 (0 : Int32)) 18 1 (-1 : Int32)) 18 3 (some p3)) 18 3)]) (rest := []) t8_19 rfl rfl (by decide) rfl rfl (Nat.le_of_ble_eq_true rfl) rfl (z_rcV (zR_18_3 hW.sI.sI hp3) ((zM_18_3 (zR_18_3 hW.sI.sI hp3)).2) (by decide)) (by decide) (by decide) (zR_18_3 hW.sI.sI hp3) (fun S2 hW2 => ?_)
  refine (k_aload_n t8_22 rfl rfl).trans ?_
  refine (k_getR t8_23 rfl hW2 zK_18 (by decide) (by decide) (zF_18_2 hW2)).trans ?_
  refine (k_aload_n t8_26 rfl rfl).trans ?_
  refine (k_iload_n t8_27 rfl rfl).trans ?_
  refine k_callV (as := [.ref 19, .ref a1, .int x2]) (rest := []) t8_28 rfl rfl (by decide) rfl rfl (Nat.le_of_ble_eq_true rfl) rfl (z_rcV hW2 (zK_19) (by decide)) (by decide) (by decide) hW2 (fun S4 hW4 => ?_)
  refine (k_iconst t8_31 rfl zci_0).trans ?_
  refine (k_istore (ls' := [.ref 18, .ref a1, .int x2, .ref p3, .int (0 : Int32)]) t8_32 rfl rfl).trans ?_
  exact (zk_mk (ls' := [.ref 18, z_j, z_j, z_j, .int (0 : Int32)]) t8_34 rfl)
theorem t9_0 : z_ft 9 0 = some (.aload_n 0, 1, none, [], 0, 0, 0, 0) := z_ftd (by decide +kernel)
theorem t9_1 : z_ft 9 1 = some (.iconst 1, 1, none, [], 0, 0, 0, 0) := z_ftd (by decide +kernel)
theorem t9_2 : z_ft 9 2 = some (.putfield 9, 3, none, [], 1, 0, 23, 0) := z_ftd (by decide +kernel)
theorem t9_5 : z_ft 9 5 = some (.aload_n 0, 1, none, [], 0, 0, 0, 0) := z_ftd (by decide +kernel)
theorem t9_6 : z_ft 9 6 = some (.aload_n 0, 1, none, [], 0, 0, 0, 0) := z_ftd (by decide +kernel)
theorem t9_7 : z_ft 9 7 = some (.getfield 21, 3, none, [], 1, 2, 25, 0) := z_ftd (by decide +kernel)
theorem t9_10 : z_ft 9 10 = some (.getfield 60, 3, none, [], 10, 8, 22, 0) := z_ftd (by decide +kernel)
theorem t9_13 : z_ft 9 13 = some (.putfield 15, 3, none, [], 1, 1, 24, 0) := z_ftd (by decide +kernel)
theorem t9_16 : z_ft 9 16 = some (.iconst 0, 1, none, [], 0, 0, 0, 0) := z_ftd (by decide +kernel)
theorem t9_17 : z_ft 9 17 = some (.ireturn, 1, none, [], 0, 0, 0, 0) := z_ftd (by decide +kernel)
-- X1_unexpected
theorem e9 (d : Nat)  (S : z_S) (hW : z_W S)  : fI (d + 1) 9 [.ref 18] S = some ((0 : Int32), sI (sI S 18 0 (1 : Int32)) 18 1 (gI (sI S 18 0 (1 : Int32)) 19 8)) := by
  refine (fI_en (Nat.le_of_ble_eq_true rfl) rfl).trans ?_
  refine (k_aload_n t9_0 rfl rfl).trans ?_
  refine (k_iconst t9_1 rfl zci_1).trans ?_
  refine (k_putI t9_2 rfl hW zK_18 (by decide) (by decide) (by decide)).trans ?_
  refine (k_aload_n t9_5 rfl rfl).trans ?_
  refine (k_aload_n t9_6 rfl rfl).trans ?_
  refine (k_getR t9_7 rfl hW.sI zK_18 (by decide) (by decide) (zF_18_2 hW.sI)).trans ?_
  refine (k_getI t9_10 rfl hW.sI zK_19 (by decide) (by decide)).trans ?_
  refine (k_putI t9_13 rfl hW.sI zK_18 (by decide) (by decide) (by decide)).trans ?_
  refine (k_iconst t9_16 rfl zci_0).trans ?_
  exact k_zretC t9_17 rfl (by decide) (by decide)
theorem t10_0 : z_ft 10 0 = some (.aload_n 0, 1, none, [], 0, 0, 0, 0) := z_ftd (by decide +kernel)
theorem t10_1 : z_ft 10 1 = some (.iload_n 1, 1, none, [], 0, 0, 0, 0) := z_ftd (by decide +kernel)
theorem t10_2 : z_ft 10 2 = some (.putfield 9, 3, none, [], 1, 0, 23, 0) := z_ftd (by decide +kernel)
theorem t10_5 : z_ft 10 5 = some (.aload_n 0, 1, none, [], 0, 0, 0, 0) := z_ftd (by decide +kernel)
theorem t10_6 : z_ft 10 6 = some (.aload_n 0, 1, none, [], 0, 0, 0, 0) := z_ftd (by decide +kernel)
theorem t10_7 : z_ft 10 7 = some (.getfield 21, 3, none, [], 1, 2, 25, 0) := z_ftd (by decide +kernel)
theorem t10_10 : z_ft 10 10 = some (.getfield 63, 3, none, [], 10, 5, 19, 0) := z_ftd (by decide +kernel)
theorem t10_13 : z_ft 10 13 = some (.putfield 15, 3, none, [], 1, 1, 24, 0) := z_ftd (by decide +kernel)
theorem t10_16 : z_ft 10 16 = some (.iconst 0, 1, none, [], 0, 0, 0, 0) := z_ftd (by decide +kernel)
theorem t10_17 : z_ft 10 17 = some (.ireturn, 1, none, [], 0, 0, 0, 0) := z_ftd (by decide +kernel)
-- X1_faulty
theorem e10 (d : Nat) (x1 : Int32) (S : z_S) (hW : z_W S)  : fI (d + 1) 10 [.ref 18, .int x1] S = some ((0 : Int32), sI (sI S 18 0 x1) 18 1 (gI (sI S 18 0 x1) 19 5)) := by
  refine (fI_en (Nat.le_of_ble_eq_true rfl) rfl).trans ?_
  refine (k_aload_n t10_0 rfl rfl).trans ?_
  refine (k_iload_n t10_1 rfl rfl).trans ?_
  refine (k_putI t10_2 rfl hW zK_18 (by decide) (by decide) (by decide)).trans ?_
  refine (k_aload_n t10_5 rfl rfl).trans ?_
  refine (k_aload_n t10_6 rfl rfl).trans ?_
  refine (k_getR t10_7 rfl hW.sI zK_18 (by decide) (by decide) (zF_18_2 hW.sI)).trans ?_
  refine (k_getI t10_10 rfl hW.sI zK_19 (by decide) (by decide)).trans ?_
  refine (k_putI t10_13 rfl hW.sI zK_18 (by decide) (by decide) (by decide)).trans ?_
  refine (k_iconst t10_16 rfl zci_0).trans ?_
  exact k_zretC t10_17 rfl (by decide) (by decide)
theorem t11_0 : z_ft 11 0 = some (.aload_n 0, 1, none, [], 0, 0, 0, 0) := z_ftd (by decide +kernel)
theorem t11_1 : z_ft 11 1 = some (.getfield 21, 3, none, [], 1, 2, 25, 0) := z_ftd (by decide +kernel)
theorem t11_4 : z_ft 11 4 = some (.iload_n 1, 1, none, [], 0, 0, 0, 0) := z_ftd (by decide +kernel)
theorem t11_5 : z_ft 11 5 = some (.invokevirtual 66, 3, none, [], 104, 0, 48, 0) := z_ftd (by decide +kernel)
theorem t11_8 : z_ft 11 8 = some (.ifCond .ne 8, 3, none, [], 16, 0, 0, 0) := z_ftd (by decide +kernel)
theorem t11_11 : z_ft 11 11 = some (.aload_n 0, 1, none, [], 0, 0, 0, 0) := z_ftd (by decide +kernel)
theorem t11_12 : z_ft 11 12 = some (.invokevirtual 57, 3, none, [], 9, 0, 32, 0) := z_ftd (by decide +kernel)
theorem t11_15 : z_ft 11 15 = some (.ireturn, 1, none, [], 0, 0, 0, 0) := z_ftd (by decide +kernel)
theorem t11_16 : z_ft 11 16 = some (.aload_n 0, 1, none, [], 0, 0, 0, 0) := z_ftd (by decide +kernel)
theorem t11_17 : z_ft 11 17 = some (.getfield 21, 3, none, [], 1, 2, 25, 0) := z_ftd (by decide +kernel)
theorem t11_20 : z_ft 11 20 = some (.invokevirtual 69, 3, none, [], 98, 0, 33, 0) := z_ftd (by decide +kernel)
theorem t11_23 : z_ft 11 23 = some (.iconst 1, 1, none, [], 0, 0, 0, 0) := z_ftd (by decide +kernel)
theorem t11_24 : z_ft 11 24 = some (.ireturn, 1, none, [], 0, 0, 0, 0) := z_ftd (by decide +kernel)
-- X1_takeSign
theorem e11 (d : Nat) (x1 : Int32) (S : z_S) (hW : z_W S)  : fI (d + 1) 11 [.ref 18, .int x1] S = (zb (fI d 104 [.ref 19, .int x1] S) fun v1 S2 => (if ¬ v1 = (0 : Int32) then ((fV d 98 [.ref 19] S2).bind fun S5 => some ((1 : Int32), S5)) else (zb (fI d 9 [.ref 18] S2) fun v6 S7 => (if v6 = 0 ∨ v6 = 1 then some (v6, S7) else none)))) := by
  refine (fI_en (Nat.le_of_ble_eq_true rfl) rfl).trans ?_
  refine (k_aload_n t11_0 rfl rfl).trans ?_
  refine (k_getR t11_1 rfl hW zK_18 (by decide) (by decide) (zF_18_2 hW)).trans ?_
  refine (k_iload_n t11_4 rfl rfl).trans ?_
  refine k_callI (as := [.ref 19, .int x1]) (rest := []) t11_5 rfl rfl (by decide) rfl rfl (Nat.le_of_ble_eq_true rfl) rfl (z_rcV hW (zK_19) (by decide)) (by decide) (Or.inr (by decide)) hW (fun v1 S2 hW2 => ?_)
  refine (k_if_ne t11_8 rfl).trans (z_ite (fun g3 => ?_) (fun g3 => ?_))
  · refine (k_aload_n t11_16 rfl rfl).trans ?_
    refine (k_getR t11_17 rfl hW2 zK_18 (by decide) (by decide) (zF_18_2 hW2)).trans ?_
    refine k_callV (as := [.ref 19]) (rest := []) t11_20 rfl rfl (by decide) rfl rfl (Nat.le_of_ble_eq_true rfl) rfl (z_rcV hW2 (zK_19) (by decide)) (by decide) (by decide) hW2 (fun S5 hW5 => ?_)
    refine (k_iconst t11_23 rfl zci_1).trans ?_
    exact k_zretC t11_24 rfl (by decide) (by decide)
  · refine (k_aload_n t11_11 rfl rfl).trans ?_
    refine k_callI (as := [.ref 18]) (rest := []) t11_12 rfl rfl (by decide) rfl rfl (Nat.le_of_ble_eq_true rfl) rfl (z_rcV hW2 (zK_18) (by decide)) (by decide) (Or.inr (by decide)) hW2 (fun v6 S7 hW7 => ?_)
    exact (k_zreturn t11_15 rfl (by decide)).trans (z_ite (fun _ => rfl) (fun _ => rfl))
theorem t12_0 : z_ft 12 0 = some (.aload_n 0, 1, none, [], 0, 0, 0, 0) := z_ftd (by decide +kernel)
theorem t12_1 : z_ft 12 1 = some (.getfield 21, 3, none, [], 1, 2, 25, 0) := z_ftd (by decide +kernel)
theorem t12_4 : z_ft 12 4 = some (.getfield 40, 3, none, [], 10, 4, 18, 0) := z_ftd (by decide +kernel)
theorem t12_7 : z_ft 12 7 = some (.iconst 1, 1, none, [], 0, 0, 0, 0) := z_ftd (by decide +kernel)
theorem t12_8 : z_ft 12 8 = some (.if_icmp .ne 13, 3, none, [], 21, 0, 0, 0) := z_ftd (by decide +kernel)
theorem t12_11 : z_ft 12 11 = some (.aload_n 0, 1, none, [], 0, 0, 0, 0) := z_ftd (by decide +kernel)
theorem t12_12 : z_ft 12 12 = some (.getfield 21, 3, none, [], 1, 2, 25, 0) := z_ftd (by decide +kernel)
theorem t12_15 : z_ft 12 15 = some (.getfield 72, 3, none, [], 10, 7, 21, 0) := z_ftd (by decide +kernel)
theorem t12_18 : z_ft 12 18 = some (.goto 4, 3, none, [], 22, 0, 0, 0) := z_ftd (by decide +kernel)
theorem t12_21 : z_ft 12 21 = some (.iconst (-1), 1, none, [], 0, 0, 0, 0) := z_ftd (by decide +kernel)
theorem t12_22 : z_ft 12 22 = some (.istore_n 1, 1, (some [0]), [], 0, 0, 0, 0) := z_ftd (by decide +kernel)
theorem t12_23 : z_ft 12 23 = some (.aload_n 0, 1, none, [], 0, 0, 0, 0) := z_ftd (by decide +kernel)
theorem t12_24 : z_ft 12 24 = some (.getfield 28, 3, none, [], 1, 3, 26, 0) := z_ftd (by decide +kernel)
theorem t12_27 : z_ft 12 27 = some (.getfield 54, 3, none, [], 6, 0, 0, 0) := z_ftd (by decide +kernel)
theorem t12_30 : z_ft 12 30 = some (.ifCond .ne 7, 3, none, [], 37, 0, 0, 0) := z_ftd (by decide +kernel)
theorem t12_33 : z_ft 12 33 = some (.iconst 1, 1, none, [], 0, 0, 0, 0) := z_ftd (by decide +kernel)
theorem t12_34 : z_ft 12 34 = some (.goto 4, 3, none, [], 38, 0, 0, 0) := z_ftd (by decide +kernel)
theorem t12_37 : z_ft 12 37 = some (.iconst 0, 1, none, [], 0, 0, 0, 0) := z_ftd (by decide +kernel)
theorem t12_38 : z_ft 12 38 = some (.iload_n 1, 1, (some [0, 1]), [], 0, 0, 0, 0) := z_ftd (by decide +kernel)
theorem t12_39 : z_ft 12 39 = some (.ifCond .ne 7, 3, none, [], 46, 0, 0, 0) := z_ftd (by decide +kernel)
theorem t12_42 : z_ft 12 42 = some (.iconst 1, 1, none, [], 0, 0, 0, 0) := z_ftd (by decide +kernel)
theorem t12_43 : z_ft 12 43 = some (.goto 4, 3, none, [], 47, 0, 0, 0) := z_ftd (by decide +kernel)
theorem t12_46 : z_ft 12 46 = some (.iconst 0, 1, none, [], 0, 0, 0, 0) := z_ftd (by decide +kernel)
theorem t12_47 : z_ft 12 47 = some (.if_icmp .eq 8, 3, (some [0, 1]), [], 55, 0, 0, 0) := z_ftd (by decide +kernel)
theorem t12_50 : z_ft 12 50 = some (.aload_n 0, 1, none, [], 0, 0, 0, 0) := z_ftd (by decide +kernel)
theorem t12_51 : z_ft 12 51 = some (.invokevirtual 57, 3, none, [], 9, 0, 32, 0) := z_ftd (by decide +kernel)
theorem t12_54 : z_ft 12 54 = some (.ireturn, 1, none, [], 0, 0, 0, 0) := z_ftd (by decide +kernel)
theorem t12_55 : z_ft 12 55 = some (.iload_n 1, 1, none, [], 0, 0, 0, 0) := z_ftd (by decide +kernel)
theorem t12_56 : z_ft 12 56 = some (.tableswitch 99 0 10 #[60, 60, 60, 60, 73, 99, 78, 60, 90, 90, 90], 60, none, [116, 116, 116, 116, 129, 155, 134, 116, 146, 146, 146], 155, 0, 0, 0) := z_ftd (by decide +kernel)
theorem t12_116 : z_ft 12 116 = some (.aload_n 0, 1, none, [], 0, 0, 0, 0) := z_ftd (by decide +kernel)
theorem t12_117 : z_ft 12 117 = some (.getfield 21, 3, none, [], 1, 2, 25, 0) := z_ftd (by decide +kernel)
theorem t12_120 : z_ft 12 120 = some (.invokevirtual 69, 3, none, [], 98, 0, 33, 0) := z_ftd (by decide +kernel)
theorem t12_123 : z_ft 12 123 = some (.aload_n 0, 1, none, [], 0, 0, 0, 0) := z_ftd (by decide +kernel)
theorem t12_124 : z_ft 12 124 = some (.iload_n 1, 1, none, [], 0, 0, 0, 0) := z_ftd (by decide +kernel)
theorem t12_125 : z_ft 12 125 = some (.invokevirtual 75, 3, none, [], 14, 0, 34, 0) := z_ftd (by decide +kernel)
theorem t12_128 : z_ft 12 128 = some (.ireturn, 1, none, [], 0, 0, 0, 0) := z_ftd (by decide +kernel)
theorem t12_129 : z_ft 12 129 = some (.aload_n 0, 1, none, [], 0, 0, 0, 0) := z_ftd (by decide +kernel)
theorem t12_130 : z_ft 12 130 = some (.invokevirtual 78, 3, none, [], 16, 0, 37, 0) := z_ftd (by decide +kernel)
theorem t12_133 : z_ft 12 133 = some (.ireturn, 1, none, [], 0, 0, 0, 0) := z_ftd (by decide +kernel)
theorem t12_134 : z_ft 12 134 = some (.aload_n 0, 1, none, [], 0, 0, 0, 0) := z_ftd (by decide +kernel)
theorem t12_135 : z_ft 12 135 = some (.getfield 21, 3, none, [], 1, 2, 25, 0) := z_ftd (by decide +kernel)
theorem t12_138 : z_ft 12 138 = some (.invokevirtual 69, 3, none, [], 98, 0, 33, 0) := z_ftd (by decide +kernel)
theorem t12_141 : z_ft 12 141 = some (.aload_n 0, 1, none, [], 0, 0, 0, 0) := z_ftd (by decide +kernel)
theorem t12_142 : z_ft 12 142 = some (.invokevirtual 81, 3, none, [], 18, 0, 41, 0) := z_ftd (by decide +kernel)
theorem t12_145 : z_ft 12 145 = some (.ireturn, 1, none, [], 0, 0, 0, 0) := z_ftd (by decide +kernel)
theorem t12_146 : z_ft 12 146 = some (.aload_n 0, 1, none, [], 0, 0, 0, 0) := z_ftd (by decide +kernel)
theorem t12_147 : z_ft 12 147 = some (.iload_n 1, 1, none, [], 0, 0, 0, 0) := z_ftd (by decide +kernel)
theorem t12_148 : z_ft 12 148 = some (.bipush 8, 2, none, [], 0, 0, 0, 0) := z_ftd (by decide +kernel)
theorem t12_150 : z_ft 12 150 = some (.isub, 1, none, [], 0, 0, 0, 0) := z_ftd (by decide +kernel)
theorem t12_151 : z_ft 12 151 = some (.invokevirtual 84, 3, none, [], 19, 0, 43, 0) := z_ftd (by decide +kernel)
theorem t12_154 : z_ft 12 154 = some (.ireturn, 1, none, [], 0, 0, 0, 0) := z_ftd (by decide +kernel)
theorem t12_155 : z_ft 12 155 = some (.aload_n 0, 1, none, [], 0, 0, 0, 0) := z_ftd (by decide +kernel)
theorem t12_156 : z_ft 12 156 = some (.invokevirtual 57, 3, none, [], 9, 0, 32, 0) := z_ftd (by decide +kernel)
theorem t12_159 : z_ft 12 159 = some (.ireturn, 1, none, [], 0, 0, 0, 0) := z_ftd (by decide +kernel)
noncomputable def b12_22 (d : Nat) (s0 : Int32) (S : z_S) : Option (Int32 × z_S) := zk kI z_X0 d 12 22 [.ref 18, z_j] [.int s0] S
noncomputable def b12_38 (d : Nat) (y1 : Int32) (s0 : Int32) (S : z_S) : Option (Int32 × z_S) := zk kI z_X0 d 12 38 [.ref 18, .int y1] [.int s0] S
noncomputable def b12_47 (d : Nat) (y1 : Int32) (s0 : Int32) (s1 : Int32) (S : z_S) : Option (Int32 × z_S) := zk kI z_X0 d 12 47 [.ref 18, .int y1] [.int s0, .int s1] S
theorem b12_22_eq (d : Nat) (s0 : Int32) (S : z_S) (hW : z_W S)  : b12_22 d s0 S = (if ¬ (gI S (gP S 18 3) 0) = (0 : Int32) then b12_38 d s0 (0 : Int32) S else b12_38 d s0 (1 : Int32) S) := by
  unfold b12_22
  refine (k_istore_n (ls' := [.ref 18, .int s0]) t12_22 rfl rfl).trans ?_
  refine (k_aload_n t12_23 rfl rfl).trans ?_
  refine (k_getR t12_24 rfl hW zK_18 (by decide) (by decide) (zM_18_3 hW).1).trans ?_
  refine (k_getI t12_27 rfl hW (zM_18_3 hW).2 (by decide) (by decide)).trans ?_
  refine (k_if_ne t12_30 rfl).trans (z_ite (fun g2 => ?_) (fun g2 => ?_))
  · refine (k_iconst t12_37 rfl zci_0).trans ?_
    exact (zk_mk (ls' := [.ref 18, .int s0]) t12_38 rfl)
  · refine (k_iconst t12_33 rfl zci_1).trans ?_
    refine (k_goto t12_34 rfl).trans ?_
    exact (zk_mk (ls' := [.ref 18, .int s0]) t12_38 rfl)
theorem b12_38_eq (d : Nat) (y1 : Int32) (s0 : Int32) (S : z_S) (hW : z_W S)  : b12_38 d y1 s0 S = (if ¬ y1 = (0 : Int32) then b12_47 d y1 (0 : Int32) s0 S else b12_47 d y1 (1 : Int32) s0 S) := by
  unfold b12_38
  refine (k_iload_n t12_38 rfl rfl).trans ?_
  refine (k_if_ne t12_39 rfl).trans (z_ite (fun g3 => ?_) (fun g3 => ?_))
  · refine (k_iconst t12_46 rfl zci_0).trans ?_
    exact (zk_mk (ls' := [.ref 18, .int y1]) t12_47 rfl)
  · refine (k_iconst t12_42 rfl zci_1).trans ?_
    refine (k_goto t12_43 rfl).trans ?_
    exact (zk_mk (ls' := [.ref 18, .int y1]) t12_47 rfl)
theorem b12_47_eq (d : Nat) (y1 : Int32) (s0 : Int32) (s1 : Int32) (S : z_S) (hW : z_W S)  : b12_47 d y1 s0 s1 S = (if s1 = s0 then (if y1 = (0 : Int32) then ((fV d 98 [.ref 19] S).bind fun S7 => (zb (fI d 14 [.ref 18, .int y1] S7) fun v8 S9 => (if v8 = 0 ∨ v8 = 1 then some (v8, S9) else none))) else (if y1 = (1 : Int32) then ((fV d 98 [.ref 19] S).bind fun S12 => (zb (fI d 14 [.ref 18, .int y1] S12) fun v13 S14 => (if v13 = 0 ∨ v13 = 1 then some (v13, S14) else none))) else (if y1 = (2 : Int32) then ((fV d 98 [.ref 19] S).bind fun S17 => (zb (fI d 14 [.ref 18, .int y1] S17) fun v18 S19 => (if v18 = 0 ∨ v18 = 1 then some (v18, S19) else none))) else (if y1 = (3 : Int32) then ((fV d 98 [.ref 19] S).bind fun S22 => (zb (fI d 14 [.ref 18, .int y1] S22) fun v23 S24 => (if v23 = 0 ∨ v23 = 1 then some (v23, S24) else none))) else (if y1 = (4 : Int32) then (zb (fI d 16 [.ref 18] S) fun v26 S27 => (if v26 = 0 ∨ v26 = 1 then some (v26, S27) else none)) else (if y1 = (5 : Int32) then (zb (fI d 9 [.ref 18] S) fun v29 S30 => (if v29 = 0 ∨ v29 = 1 then some (v29, S30) else none)) else (if y1 = (6 : Int32) then ((fV d 98 [.ref 19] S).bind fun S33 => (zb (fI d 18 [.ref 18] S33) fun v34 S35 => (if v34 = 0 ∨ v34 = 1 then some (v34, S35) else none))) else (if y1 = (7 : Int32) then ((fV d 98 [.ref 19] S).bind fun S38 => (zb (fI d 14 [.ref 18, .int y1] S38) fun v39 S40 => (if v39 = 0 ∨ v39 = 1 then some (v39, S40) else none))) else (if y1 = (8 : Int32) then (zb (fI d 19 [.ref 18, .int (y1 - (8 : Int32))] S) fun v42 S43 => (if v42 = 0 ∨ v42 = 1 then some (v42, S43) else none)) else (if y1 = (9 : Int32) then (zb (fI d 19 [.ref 18, .int (y1 - (8 : Int32))] S) fun v45 S46 => (if v45 = 0 ∨ v45 = 1 then some (v45, S46) else none)) else (if y1 = (10 : Int32) then (zb (fI d 19 [.ref 18, .int (y1 - (8 : Int32))] S) fun v48 S49 => (if v48 = 0 ∨ v48 = 1 then some (v48, S49) else none)) else (zb (fI d 9 [.ref 18] S) fun v50 S51 => (if v50 = 0 ∨ v50 = 1 then some (v50, S51) else none))))))))))))) else (zb (fI d 9 [.ref 18] S) fun v52 S53 => (if v52 = 0 ∨ v52 = 1 then some (v52, S53) else none))) := by
  unfold b12_47
  refine (k_icmp_eq t12_47 rfl).trans (z_ite (fun g4 => ?_) (fun g4 => ?_))
  · refine (k_iload_n t12_55 rfl rfl).trans ?_
    refine (k_switch t12_56 rfl).trans ?_
    refine (zk_swC (n := (0 : Int32)) (lo' := 1) zci_0 rfl).trans (z_ite (fun g5 => ?_) (fun g5 => ?_))
    · refine (k_aload_n t12_116 rfl rfl).trans ?_
      refine (k_getR t12_117 rfl hW zK_18 (by decide) (by decide) (zF_18_2 hW)).trans ?_
      refine k_callV (as := [.ref 19]) (rest := []) t12_120 rfl rfl (by decide) rfl rfl (Nat.le_of_ble_eq_true rfl) rfl (z_rcV hW (zK_19) (by decide)) (by decide) (by decide) hW (fun S7 hW7 => ?_)
      refine (k_aload_n t12_123 rfl rfl).trans ?_
      refine (k_iload_n t12_124 rfl rfl).trans ?_
      refine k_callI (as := [.ref 18, .int y1]) (rest := []) t12_125 rfl rfl (by decide) rfl rfl (Nat.le_of_ble_eq_true rfl) rfl (z_rcV hW7 (zK_18) (by decide)) (by decide) (Or.inr (by decide)) hW7 (fun v8 S9 hW9 => ?_)
      exact (k_zreturn t12_128 rfl (by decide)).trans (z_ite (fun _ => rfl) (fun _ => rfl))
    refine (zk_swC (n := (1 : Int32)) (lo' := 2) zci_1 rfl).trans (z_ite (fun g10 => ?_) (fun g10 => ?_))
    · refine (k_aload_n t12_116 rfl rfl).trans ?_
      refine (k_getR t12_117 rfl hW zK_18 (by decide) (by decide) (zF_18_2 hW)).trans ?_
      refine k_callV (as := [.ref 19]) (rest := []) t12_120 rfl rfl (by decide) rfl rfl (Nat.le_of_ble_eq_true rfl) rfl (z_rcV hW (zK_19) (by decide)) (by decide) (by decide) hW (fun S12 hW12 => ?_)
      refine (k_aload_n t12_123 rfl rfl).trans ?_
      refine (k_iload_n t12_124 rfl rfl).trans ?_
      refine k_callI (as := [.ref 18, .int y1]) (rest := []) t12_125 rfl rfl (by decide) rfl rfl (Nat.le_of_ble_eq_true rfl) rfl (z_rcV hW12 (zK_18) (by decide)) (by decide) (Or.inr (by decide)) hW12 (fun v13 S14 hW14 => ?_)
      exact (k_zreturn t12_128 rfl (by decide)).trans (z_ite (fun _ => rfl) (fun _ => rfl))
    refine (zk_swC (n := (2 : Int32)) (lo' := 3) zci_2 rfl).trans (z_ite (fun g15 => ?_) (fun g15 => ?_))
    · refine (k_aload_n t12_116 rfl rfl).trans ?_
      refine (k_getR t12_117 rfl hW zK_18 (by decide) (by decide) (zF_18_2 hW)).trans ?_
      refine k_callV (as := [.ref 19]) (rest := []) t12_120 rfl rfl (by decide) rfl rfl (Nat.le_of_ble_eq_true rfl) rfl (z_rcV hW (zK_19) (by decide)) (by decide) (by decide) hW (fun S17 hW17 => ?_)
      refine (k_aload_n t12_123 rfl rfl).trans ?_
      refine (k_iload_n t12_124 rfl rfl).trans ?_
      refine k_callI (as := [.ref 18, .int y1]) (rest := []) t12_125 rfl rfl (by decide) rfl rfl (Nat.le_of_ble_eq_true rfl) rfl (z_rcV hW17 (zK_18) (by decide)) (by decide) (Or.inr (by decide)) hW17 (fun v18 S19 hW19 => ?_)
      exact (k_zreturn t12_128 rfl (by decide)).trans (z_ite (fun _ => rfl) (fun _ => rfl))
    refine (zk_swC (n := (3 : Int32)) (lo' := 4) zci_3 rfl).trans (z_ite (fun g20 => ?_) (fun g20 => ?_))
    · refine (k_aload_n t12_116 rfl rfl).trans ?_
      refine (k_getR t12_117 rfl hW zK_18 (by decide) (by decide) (zF_18_2 hW)).trans ?_
      refine k_callV (as := [.ref 19]) (rest := []) t12_120 rfl rfl (by decide) rfl rfl (Nat.le_of_ble_eq_true rfl) rfl (z_rcV hW (zK_19) (by decide)) (by decide) (by decide) hW (fun S22 hW22 => ?_)
      refine (k_aload_n t12_123 rfl rfl).trans ?_
      refine (k_iload_n t12_124 rfl rfl).trans ?_
      refine k_callI (as := [.ref 18, .int y1]) (rest := []) t12_125 rfl rfl (by decide) rfl rfl (Nat.le_of_ble_eq_true rfl) rfl (z_rcV hW22 (zK_18) (by decide)) (by decide) (Or.inr (by decide)) hW22 (fun v23 S24 hW24 => ?_)
      exact (k_zreturn t12_128 rfl (by decide)).trans (z_ite (fun _ => rfl) (fun _ => rfl))
    refine (zk_swC (n := (4 : Int32)) (lo' := 5) zci_4 rfl).trans (z_ite (fun g25 => ?_) (fun g25 => ?_))
    · refine (k_aload_n t12_129 rfl rfl).trans ?_
      refine k_callI (as := [.ref 18]) (rest := []) t12_130 rfl rfl (by decide) rfl rfl (Nat.le_of_ble_eq_true rfl) rfl (z_rcV hW (zK_18) (by decide)) (by decide) (Or.inr (by decide)) hW (fun v26 S27 hW27 => ?_)
      exact (k_zreturn t12_133 rfl (by decide)).trans (z_ite (fun _ => rfl) (fun _ => rfl))
    refine (zk_swC (n := (5 : Int32)) (lo' := 6) zci_5 rfl).trans (z_ite (fun g28 => ?_) (fun g28 => ?_))
    · refine (k_aload_n t12_155 rfl rfl).trans ?_
      refine k_callI (as := [.ref 18]) (rest := []) t12_156 rfl rfl (by decide) rfl rfl (Nat.le_of_ble_eq_true rfl) rfl (z_rcV hW (zK_18) (by decide)) (by decide) (Or.inr (by decide)) hW (fun v29 S30 hW30 => ?_)
      exact (k_zreturn t12_159 rfl (by decide)).trans (z_ite (fun _ => rfl) (fun _ => rfl))
    refine (zk_swC (n := (6 : Int32)) (lo' := 7) zci_6 rfl).trans (z_ite (fun g31 => ?_) (fun g31 => ?_))
    · refine (k_aload_n t12_134 rfl rfl).trans ?_
      refine (k_getR t12_135 rfl hW zK_18 (by decide) (by decide) (zF_18_2 hW)).trans ?_
      refine k_callV (as := [.ref 19]) (rest := []) t12_138 rfl rfl (by decide) rfl rfl (Nat.le_of_ble_eq_true rfl) rfl (z_rcV hW (zK_19) (by decide)) (by decide) (by decide) hW (fun S33 hW33 => ?_)
      refine (k_aload_n t12_141 rfl rfl).trans ?_
      refine k_callI (as := [.ref 18]) (rest := []) t12_142 rfl rfl (by decide) rfl rfl (Nat.le_of_ble_eq_true rfl) rfl (z_rcV hW33 (zK_18) (by decide)) (by decide) (Or.inr (by decide)) hW33 (fun v34 S35 hW35 => ?_)
      exact (k_zreturn t12_145 rfl (by decide)).trans (z_ite (fun _ => rfl) (fun _ => rfl))
    refine (zk_swC (n := (7 : Int32)) (lo' := 8) zci_7 rfl).trans (z_ite (fun g36 => ?_) (fun g36 => ?_))
    · refine (k_aload_n t12_116 rfl rfl).trans ?_
      refine (k_getR t12_117 rfl hW zK_18 (by decide) (by decide) (zF_18_2 hW)).trans ?_
      refine k_callV (as := [.ref 19]) (rest := []) t12_120 rfl rfl (by decide) rfl rfl (Nat.le_of_ble_eq_true rfl) rfl (z_rcV hW (zK_19) (by decide)) (by decide) (by decide) hW (fun S38 hW38 => ?_)
      refine (k_aload_n t12_123 rfl rfl).trans ?_
      refine (k_iload_n t12_124 rfl rfl).trans ?_
      refine k_callI (as := [.ref 18, .int y1]) (rest := []) t12_125 rfl rfl (by decide) rfl rfl (Nat.le_of_ble_eq_true rfl) rfl (z_rcV hW38 (zK_18) (by decide)) (by decide) (Or.inr (by decide)) hW38 (fun v39 S40 hW40 => ?_)
      exact (k_zreturn t12_128 rfl (by decide)).trans (z_ite (fun _ => rfl) (fun _ => rfl))
    refine (zk_swC (n := (8 : Int32)) (lo' := 9) zci_8 rfl).trans (z_ite (fun g41 => ?_) (fun g41 => ?_))
    · refine (k_aload_n t12_146 rfl rfl).trans ?_
      refine (k_iload_n t12_147 rfl rfl).trans ?_
      refine (k_bipush t12_148 rfl zcb_8).trans ?_
      refine (k_isub t12_150 rfl).trans ?_
      refine k_callI (as := [.ref 18, .int (y1 - (8 : Int32))]) (rest := []) t12_151 rfl rfl (by decide) rfl rfl (Nat.le_of_ble_eq_true rfl) rfl (z_rcV hW (zK_18) (by decide)) (by decide) (Or.inr (by decide)) hW (fun v42 S43 hW43 => ?_)
      exact (k_zreturn t12_154 rfl (by decide)).trans (z_ite (fun _ => rfl) (fun _ => rfl))
    refine (zk_swC (n := (9 : Int32)) (lo' := 10) zci_9 rfl).trans (z_ite (fun g44 => ?_) (fun g44 => ?_))
    · refine (k_aload_n t12_146 rfl rfl).trans ?_
      refine (k_iload_n t12_147 rfl rfl).trans ?_
      refine (k_bipush t12_148 rfl zcb_8).trans ?_
      refine (k_isub t12_150 rfl).trans ?_
      refine k_callI (as := [.ref 18, .int (y1 - (8 : Int32))]) (rest := []) t12_151 rfl rfl (by decide) rfl rfl (Nat.le_of_ble_eq_true rfl) rfl (z_rcV hW (zK_18) (by decide)) (by decide) (Or.inr (by decide)) hW (fun v45 S46 hW46 => ?_)
      exact (k_zreturn t12_154 rfl (by decide)).trans (z_ite (fun _ => rfl) (fun _ => rfl))
    refine (zk_swC (n := (10 : Int32)) (lo' := 11) zci_10 rfl).trans (z_ite (fun g47 => ?_) (fun g47 => ?_))
    · refine (k_aload_n t12_146 rfl rfl).trans ?_
      refine (k_iload_n t12_147 rfl rfl).trans ?_
      refine (k_bipush t12_148 rfl zcb_8).trans ?_
      refine (k_isub t12_150 rfl).trans ?_
      refine k_callI (as := [.ref 18, .int (y1 - (8 : Int32))]) (rest := []) t12_151 rfl rfl (by decide) rfl rfl (Nat.le_of_ble_eq_true rfl) rfl (z_rcV hW (zK_18) (by decide)) (by decide) (Or.inr (by decide)) hW (fun v48 S49 hW49 => ?_)
      exact (k_zreturn t12_154 rfl (by decide)).trans (z_ite (fun _ => rfl) (fun _ => rfl))
    refine (k_aload_n t12_155 rfl rfl).trans ?_
    refine k_callI (as := [.ref 18]) (rest := []) t12_156 rfl rfl (by decide) rfl rfl (Nat.le_of_ble_eq_true rfl) rfl (z_rcV hW (zK_18) (by decide)) (by decide) (Or.inr (by decide)) hW (fun v50 S51 hW51 => ?_)
    exact (k_zreturn t12_159 rfl (by decide)).trans (z_ite (fun _ => rfl) (fun _ => rfl))
  · refine (k_aload_n t12_50 rfl rfl).trans ?_
    refine k_callI (as := [.ref 18]) (rest := []) t12_51 rfl rfl (by decide) rfl rfl (Nat.le_of_ble_eq_true rfl) rfl (z_rcV hW (zK_18) (by decide)) (by decide) (Or.inr (by decide)) hW (fun v52 S53 hW53 => ?_)
    exact (k_zreturn t12_54 rfl (by decide)).trans (z_ite (fun _ => rfl) (fun _ => rfl))
-- X1_readStatement
theorem e12 (d : Nat)  (S : z_S) (hW : z_W S)  : fI (d + 1) 12 [.ref 18] S = (if ¬ (gI S 19 4) = (1 : Int32) then b12_22 d (-1 : Int32) S else b12_22 d (gI S 19 7) S) := by
  refine (fI_en (Nat.le_of_ble_eq_true rfl) rfl).trans ?_
  refine (k_aload_n t12_0 rfl rfl).trans ?_
  refine (k_getR t12_1 rfl hW zK_18 (by decide) (by decide) (zF_18_2 hW)).trans ?_
  refine (k_getI t12_4 rfl hW zK_19 (by decide) (by decide)).trans ?_
  refine (k_iconst t12_7 rfl zci_1).trans ?_
  refine (k_icmp_ne t12_8 rfl).trans (z_ite (fun g1 => ?_) (fun g1 => ?_))
  · refine (k_iconst t12_21 rfl zci_m1).trans ?_
    exact (zk_mk (ls' := [.ref 18, z_j]) t12_22 rfl)
  · refine (k_aload_n t12_11 rfl rfl).trans ?_
    refine (k_getR t12_12 rfl hW zK_18 (by decide) (by decide) (zF_18_2 hW)).trans ?_
    refine (k_getI t12_15 rfl hW zK_19 (by decide) (by decide)).trans ?_
    refine (k_goto t12_18 rfl).trans ?_
    exact (zk_mk (ls' := [.ref 18, z_j]) t12_22 rfl)
theorem t13_0 : z_ft 13 0 = some (.aload_n 0, 1, none, [], 0, 0, 0, 0) := z_ftd (by decide +kernel)
theorem t13_1 : z_ft 13 1 = some (.getfield 21, 3, none, [], 1, 2, 25, 0) := z_ftd (by decide +kernel)
theorem t13_4 : z_ft 13 4 = some (.getfield 40, 3, none, [], 10, 4, 18, 0) := z_ftd (by decide +kernel)
theorem t13_7 : z_ft 13 7 = some (.iconst 2, 1, none, [], 0, 0, 0, 0) := z_ftd (by decide +kernel)
theorem t13_8 : z_ft 13 8 = some (.if_icmp .eq 8, 3, none, [], 16, 0, 0, 0) := z_ftd (by decide +kernel)
theorem t13_11 : z_ft 13 11 = some (.aload_n 0, 1, none, [], 0, 0, 0, 0) := z_ftd (by decide +kernel)
theorem t13_12 : z_ft 13 12 = some (.invokevirtual 57, 3, none, [], 9, 0, 32, 0) := z_ftd (by decide +kernel)
theorem t13_15 : z_ft 13 15 = some (.ireturn, 1, none, [], 0, 0, 0, 0) := z_ftd (by decide +kernel)
theorem t13_16 : z_ft 13 16 = some (.aload_n 0, 1, none, [], 0, 0, 0, 0) := z_ftd (by decide +kernel)
theorem t13_17 : z_ft 13 17 = some (.getfield 21, 3, none, [], 1, 2, 25, 0) := z_ftd (by decide +kernel)
theorem t13_20 : z_ft 13 20 = some (.getfield 87, 3, none, [], 10, 6, 20, 0) := z_ftd (by decide +kernel)
theorem t13_23 : z_ft 13 23 = some (.iload_n 1, 1, none, [], 0, 0, 0, 0) := z_ftd (by decide +kernel)
theorem t13_24 : z_ft 13 24 = some (.if_icmp .lt 14, 3, none, [], 38, 0, 0, 0) := z_ftd (by decide +kernel)
theorem t13_27 : z_ft 13 27 = some (.aload_n 0, 1, none, [], 0, 0, 0, 0) := z_ftd (by decide +kernel)
theorem t13_28 : z_ft 13 28 = some (.getfield 21, 3, none, [], 1, 2, 25, 0) := z_ftd (by decide +kernel)
theorem t13_31 : z_ft 13 31 = some (.getfield 87, 3, none, [], 10, 6, 20, 0) := z_ftd (by decide +kernel)
theorem t13_34 : z_ft 13 34 = some (.iload_n 2, 1, none, [], 0, 0, 0, 0) := z_ftd (by decide +kernel)
theorem t13_35 : z_ft 13 35 = some (.if_icmp .le 11, 3, none, [], 46, 0, 0, 0) := z_ftd (by decide +kernel)
theorem t13_38 : z_ft 13 38 = some (.aload_n 0, 1, (some [0]), [], 0, 0, 0, 0) := z_ftd (by decide +kernel)
theorem t13_39 : z_ft 13 39 = some (.iconst 4, 1, none, [], 0, 0, 0, 0) := z_ftd (by decide +kernel)
theorem t13_40 : z_ft 13 40 = some (.invokevirtual 43, 3, none, [], 10, 0, 30, 0) := z_ftd (by decide +kernel)
theorem t13_43 : z_ft 13 43 = some (.ifCond .eq 7, 3, none, [], 50, 0, 0, 0) := z_ftd (by decide +kernel)
theorem t13_46 : z_ft 13 46 = some (.iconst 1, 1, (some []), [], 0, 0, 0, 0) := z_ftd (by decide +kernel)
theorem t13_47 : z_ft 13 47 = some (.goto 4, 3, none, [], 51, 0, 0, 0) := z_ftd (by decide +kernel)
theorem t13_50 : z_ft 13 50 = some (.iconst 0, 1, none, [], 0, 0, 0, 0) := z_ftd (by decide +kernel)
theorem t13_51 : z_ft 13 51 = some (.ireturn, 1, (some []), [], 0, 0, 0, 0) := z_ftd (by decide +kernel)
noncomputable def b13_38 (d : Nat)  (S : z_S) : Option (Int32 × z_S) := zk kI z_X0 d 13 38 [.ref 18, z_j, z_j] [] S
noncomputable def b13_46 (d : Nat)  (S : z_S) : Option (Int32 × z_S) := zk kI z_X0 d 13 46 [z_j, z_j, z_j] [] S
theorem b13_38_eq (d : Nat)  (S : z_S) (hW : z_W S)  : b13_38 d  S = (zb (fI d 10 [.ref 18, .int (4 : Int32)] S) fun v6 S7 => (if v6 = (0 : Int32) then some ((0 : Int32), S7) else b13_46 d S7)) := by
  unfold b13_38
  refine (k_aload_n t13_38 rfl rfl).trans ?_
  refine (k_iconst t13_39 rfl zci_4).trans ?_
  refine k_callI (as := [.ref 18, .int (4 : Int32)]) (rest := []) t13_40 rfl rfl (by decide) rfl rfl (Nat.le_of_ble_eq_true rfl) rfl (z_rcV hW (zK_18) (by decide)) (by decide) (Or.inr (by decide)) hW (fun v6 S7 hW7 => ?_)
  refine (k_if_eq t13_43 rfl).trans (z_ite (fun g8 => ?_) (fun g8 => ?_))
  · refine (k_iconst t13_50 rfl zci_0).trans ?_
    refine (zk_mk (ls' := [z_j, z_j, z_j]) t13_51 rfl).trans ?_
    exact k_zretC t13_51 rfl (by decide) (by decide)
  · exact (zk_mk (ls' := [z_j, z_j, z_j]) t13_46 rfl)
theorem b13_46_eq (d : Nat)  (S : z_S) (hW : z_W S)  : b13_46 d  S = some ((1 : Int32), S) := by
  unfold b13_46
  refine (k_iconst t13_46 rfl zci_1).trans ?_
  refine (k_goto t13_47 rfl).trans ?_
  refine (zk_mk (ls' := [z_j, z_j, z_j]) t13_51 rfl).trans ?_
  exact k_zretC t13_51 rfl (by decide) (by decide)
-- X1_isNumber
theorem e13 (d : Nat) (x1 : Int32) (x2 : Int32) (S : z_S) (hW : z_W S)  : fI (d + 1) 13 [.ref 18, .int x1, .int x2] S = (if (gI S 19 4) = (2 : Int32) then (if (gI S 19 6) < x1 then b13_38 d S else (if (gI S 19 6) ≤ x2 then b13_46 d S else b13_38 d S)) else (zb (fI d 9 [.ref 18] S) fun v4 S5 => (if v4 = 0 ∨ v4 = 1 then some (v4, S5) else none))) := by
  refine (fI_en (Nat.le_of_ble_eq_true rfl) rfl).trans ?_
  refine (k_aload_n t13_0 rfl rfl).trans ?_
  refine (k_getR t13_1 rfl hW zK_18 (by decide) (by decide) (zF_18_2 hW)).trans ?_
  refine (k_getI t13_4 rfl hW zK_19 (by decide) (by decide)).trans ?_
  refine (k_iconst t13_7 rfl zci_2).trans ?_
  refine (k_icmp_eq t13_8 rfl).trans (z_ite (fun g1 => ?_) (fun g1 => ?_))
  · refine (k_aload_n t13_16 rfl rfl).trans ?_
    refine (k_getR t13_17 rfl hW zK_18 (by decide) (by decide) (zF_18_2 hW)).trans ?_
    refine (k_getI t13_20 rfl hW zK_19 (by decide) (by decide)).trans ?_
    refine (k_iload_n t13_23 rfl rfl).trans ?_
    refine (k_icmp_lt t13_24 rfl).trans (z_ite (fun g2 => ?_) (fun g2 => ?_))
    · exact (zk_mk (ls' := [.ref 18, z_j, z_j]) t13_38 rfl)
    · refine (k_aload_n t13_27 rfl rfl).trans ?_
      refine (k_getR t13_28 rfl hW zK_18 (by decide) (by decide) (zF_18_2 hW)).trans ?_
      refine (k_getI t13_31 rfl hW zK_19 (by decide) (by decide)).trans ?_
      refine (k_iload_n t13_34 rfl rfl).trans ?_
      refine (k_icmp_le t13_35 rfl).trans (z_ite (fun g3 => ?_) (fun g3 => ?_))
      · exact (zk_mk (ls' := [z_j, z_j, z_j]) t13_46 rfl)
      · exact (zk_mk (ls' := [.ref 18, z_j, z_j]) t13_38 rfl)
  · refine (k_aload_n t13_11 rfl rfl).trans ?_
    refine k_callI (as := [.ref 18]) (rest := []) t13_12 rfl rfl (by decide) rfl rfl (Nat.le_of_ble_eq_true rfl) rfl (z_rcV hW (zK_18) (by decide)) (by decide) (Or.inr (by decide)) hW (fun v4 S5 hW5 => ?_)
    exact (k_zreturn t13_15 rfl (by decide)).trans (z_ite (fun _ => rfl) (fun _ => rfl))
theorem t14_0 : z_ft 14 0 = some (.iload_n 1, 1, none, [], 0, 0, 0, 0) := z_ftd (by decide +kernel)
theorem t14_1 : z_ft 14 1 = some (.ifCond .ne 7, 3, none, [], 8, 0, 0, 0) := z_ftd (by decide +kernel)
theorem t14_4 : z_ft 14 4 = some (.iconst 2, 1, none, [], 0, 0, 0, 0) := z_ftd (by decide +kernel)
theorem t14_5 : z_ft 14 5 = some (.goto 13, 3, none, [], 18, 0, 0, 0) := z_ftd (by decide +kernel)
theorem t14_8 : z_ft 14 8 = some (.iload_n 1, 1, none, [], 0, 0, 0, 0) := z_ftd (by decide +kernel)
theorem t14_9 : z_ft 14 9 = some (.iconst 2, 1, none, [], 0, 0, 0, 0) := z_ftd (by decide +kernel)
theorem t14_10 : z_ft 14 10 = some (.if_icmp .ne 7, 3, none, [], 17, 0, 0, 0) := z_ftd (by decide +kernel)
theorem t14_13 : z_ft 14 13 = some (.iconst 1, 1, none, [], 0, 0, 0, 0) := z_ftd (by decide +kernel)
theorem t14_14 : z_ft 14 14 = some (.goto 4, 3, none, [], 18, 0, 0, 0) := z_ftd (by decide +kernel)
theorem t14_17 : z_ft 14 17 = some (.iconst 0, 1, none, [], 0, 0, 0, 0) := z_ftd (by decide +kernel)
theorem t14_18 : z_ft 14 18 = some (.istore_n 2, 1, (some [0, 1]), [], 0, 0, 0, 0) := z_ftd (by decide +kernel)
theorem t14_19 : z_ft 14 19 = some (.aload_n 0, 1, none, [], 0, 0, 0, 0) := z_ftd (by decide +kernel)
theorem t14_20 : z_ft 14 20 = some (.iload_n 2, 1, none, [], 0, 0, 0, 0) := z_ftd (by decide +kernel)
theorem t14_21 : z_ft 14 21 = some (.aload_n 0, 1, none, [], 0, 0, 0, 0) := z_ftd (by decide +kernel)
theorem t14_22 : z_ft 14 22 = some (.iload_n 1, 1, none, [], 0, 0, 0, 0) := z_ftd (by decide +kernel)
theorem t14_23 : z_ft 14 23 = some (.invokevirtual 90, 3, none, [], 15, 0, 35, 0) := z_ftd (by decide +kernel)
theorem t14_26 : z_ft 14 26 = some (.invokevirtual 94, 3, none, [], 13, 0, 36, 0) := z_ftd (by decide +kernel)
theorem t14_29 : z_ft 14 29 = some (.ifCond .ne 5, 3, none, [], 34, 0, 0, 0) := z_ftd (by decide +kernel)
theorem t14_32 : z_ft 14 32 = some (.iconst 0, 1, none, [], 0, 0, 0, 0) := z_ftd (by decide +kernel)
theorem t14_33 : z_ft 14 33 = some (.ireturn, 1, none, [], 0, 0, 0, 0) := z_ftd (by decide +kernel)
theorem t14_34 : z_ft 14 34 = some (.aload_n 0, 1, none, [], 0, 0, 0, 0) := z_ftd (by decide +kernel)
theorem t14_35 : z_ft 14 35 = some (.getfield 21, 3, none, [], 1, 2, 25, 0) := z_ftd (by decide +kernel)
theorem t14_38 : z_ft 14 38 = some (.getfield 87, 3, none, [], 10, 6, 20, 0) := z_ftd (by decide +kernel)
theorem t14_41 : z_ft 14 41 = some (.istore_n 3, 1, none, [], 0, 0, 0, 0) := z_ftd (by decide +kernel)
theorem t14_42 : z_ft 14 42 = some (.iload_n 1, 1, none, [], 0, 0, 0, 0) := z_ftd (by decide +kernel)
theorem t14_43 : z_ft 14 43 = some (.bipush 7, 2, none, [], 0, 0, 0, 0) := z_ftd (by decide +kernel)
theorem t14_45 : z_ft 14 45 = some (.if_icmp .ne 24, 3, none, [], 69, 0, 0, 0) := z_ftd (by decide +kernel)
theorem t14_48 : z_ft 14 48 = some (.aload_n 0, 1, none, [], 0, 0, 0, 0) := z_ftd (by decide +kernel)
theorem t14_49 : z_ft 14 49 = some (.getfield 28, 3, none, [], 1, 3, 26, 0) := z_ftd (by decide +kernel)
theorem t14_52 : z_ft 14 52 = some (.getfield 98, 3, none, [], 6, 5, 5, 0) := z_ftd (by decide +kernel)
theorem t14_55 : z_ft 14 55 = some (.iload_n 3, 1, none, [], 0, 0, 0, 0) := z_ftd (by decide +kernel)
theorem t14_56 : z_ft 14 56 = some (.ishr, 1, none, [], 0, 0, 0, 0) := z_ftd (by decide +kernel)
theorem t14_57 : z_ft 14 57 = some (.iconst 1, 1, none, [], 0, 0, 0, 0) := z_ftd (by decide +kernel)
theorem t14_58 : z_ft 14 58 = some (.iand, 1, none, [], 0, 0, 0, 0) := z_ftd (by decide +kernel)
theorem t14_59 : z_ft 14 59 = some (.iconst 1, 1, none, [], 0, 0, 0, 0) := z_ftd (by decide +kernel)
theorem t14_60 : z_ft 14 60 = some (.if_icmp .ne 9, 3, none, [], 69, 0, 0, 0) := z_ftd (by decide +kernel)
theorem t14_63 : z_ft 14 63 = some (.aload_n 0, 1, none, [], 0, 0, 0, 0) := z_ftd (by decide +kernel)
theorem t14_64 : z_ft 14 64 = some (.iconst 4, 1, none, [], 0, 0, 0, 0) := z_ftd (by decide +kernel)
theorem t14_65 : z_ft 14 65 = some (.invokevirtual 43, 3, none, [], 10, 0, 30, 0) := z_ftd (by decide +kernel)
theorem t14_68 : z_ft 14 68 = some (.ireturn, 1, none, [], 0, 0, 0, 0) := z_ftd (by decide +kernel)
theorem t14_69 : z_ft 14 69 = some (.aload_n 0, 1, (some [0, 1, 3]), [], 0, 0, 0, 0) := z_ftd (by decide +kernel)
theorem t14_70 : z_ft 14 70 = some (.getfield 21, 3, none, [], 1, 2, 25, 0) := z_ftd (by decide +kernel)
theorem t14_73 : z_ft 14 73 = some (.invokevirtual 69, 3, none, [], 98, 0, 33, 0) := z_ftd (by decide +kernel)
theorem t14_76 : z_ft 14 76 = some (.iload_n 1, 1, none, [], 0, 0, 0, 0) := z_ftd (by decide +kernel)
theorem t14_77 : z_ft 14 77 = some (.tableswitch 75 0 3 #[31, 42, 53, 64], 31, none, [108, 119, 130, 141], 152, 0, 0, 0) := z_ftd (by decide +kernel)
theorem t14_108 : z_ft 14 108 = some (.aload_n 0, 1, none, [], 0, 0, 0, 0) := z_ftd (by decide +kernel)
theorem t14_109 : z_ft 14 109 = some (.getfield 28, 3, none, [], 1, 3, 26, 0) := z_ftd (by decide +kernel)
theorem t14_112 : z_ft 14 112 = some (.iload_n 3, 1, none, [], 0, 0, 0, 0) := z_ftd (by decide +kernel)
theorem t14_113 : z_ft 14 113 = some (.putfield 101, 3, none, [], 6, 1, 1, 0) := z_ftd (by decide +kernel)
theorem t14_116 : z_ft 14 116 = some (.goto 51, 3, none, [], 167, 0, 0, 0) := z_ftd (by decide +kernel)
theorem t14_119 : z_ft 14 119 = some (.aload_n 0, 1, none, [], 0, 0, 0, 0) := z_ftd (by decide +kernel)
theorem t14_120 : z_ft 14 120 = some (.getfield 28, 3, none, [], 1, 3, 26, 0) := z_ftd (by decide +kernel)
theorem t14_123 : z_ft 14 123 = some (.iload_n 3, 1, none, [], 0, 0, 0, 0) := z_ftd (by decide +kernel)
theorem t14_124 : z_ft 14 124 = some (.putfield 104, 3, none, [], 6, 2, 2, 0) := z_ftd (by decide +kernel)
theorem t14_127 : z_ft 14 127 = some (.goto 40, 3, none, [], 167, 0, 0, 0) := z_ftd (by decide +kernel)
theorem t14_130 : z_ft 14 130 = some (.aload_n 0, 1, none, [], 0, 0, 0, 0) := z_ftd (by decide +kernel)
theorem t14_131 : z_ft 14 131 = some (.getfield 28, 3, none, [], 1, 3, 26, 0) := z_ftd (by decide +kernel)
theorem t14_134 : z_ft 14 134 = some (.iload_n 3, 1, none, [], 0, 0, 0, 0) := z_ftd (by decide +kernel)
theorem t14_135 : z_ft 14 135 = some (.putfield 107, 3, none, [], 6, 3, 3, 0) := z_ftd (by decide +kernel)
theorem t14_138 : z_ft 14 138 = some (.goto 29, 3, none, [], 167, 0, 0, 0) := z_ftd (by decide +kernel)
theorem t14_141 : z_ft 14 141 = some (.aload_n 0, 1, none, [], 0, 0, 0, 0) := z_ftd (by decide +kernel)
theorem t14_142 : z_ft 14 142 = some (.getfield 28, 3, none, [], 1, 3, 26, 0) := z_ftd (by decide +kernel)
theorem t14_145 : z_ft 14 145 = some (.iload_n 3, 1, none, [], 0, 0, 0, 0) := z_ftd (by decide +kernel)
theorem t14_146 : z_ft 14 146 = some (.putfield 110, 3, none, [], 6, 4, 4, 0) := z_ftd (by decide +kernel)
theorem t14_149 : z_ft 14 149 = some (.goto 18, 3, none, [], 167, 0, 0, 0) := z_ftd (by decide +kernel)
theorem t14_152 : z_ft 14 152 = some (.aload_n 0, 1, none, [], 0, 0, 0, 0) := z_ftd (by decide +kernel)
theorem t14_153 : z_ft 14 153 = some (.getfield 28, 3, none, [], 1, 3, 26, 0) := z_ftd (by decide +kernel)
theorem t14_156 : z_ft 14 156 = some (.dup, 1, none, [], 0, 0, 0, 0) := z_ftd (by decide +kernel)
theorem t14_157 : z_ft 14 157 = some (.getfield 98, 3, none, [], 6, 5, 5, 0) := z_ftd (by decide +kernel)
theorem t14_160 : z_ft 14 160 = some (.iconst 1, 1, none, [], 0, 0, 0, 0) := z_ftd (by decide +kernel)
theorem t14_161 : z_ft 14 161 = some (.iload_n 3, 1, none, [], 0, 0, 0, 0) := z_ftd (by decide +kernel)
theorem t14_162 : z_ft 14 162 = some (.ishl, 1, none, [], 0, 0, 0, 0) := z_ftd (by decide +kernel)
theorem t14_163 : z_ft 14 163 = some (.ior, 1, none, [], 0, 0, 0, 0) := z_ftd (by decide +kernel)
theorem t14_164 : z_ft 14 164 = some (.putfield 98, 3, none, [], 6, 5, 5, 0) := z_ftd (by decide +kernel)
theorem t14_167 : z_ft 14 167 = some (.iconst 1, 1, (some []), [], 0, 0, 0, 0) := z_ftd (by decide +kernel)
theorem t14_168 : z_ft 14 168 = some (.ireturn, 1, none, [], 0, 0, 0, 0) := z_ftd (by decide +kernel)
noncomputable def b14_18 (d : Nat) (y1 : Int32) (s0 : Int32) (S : z_S) : Option (Int32 × z_S) := zk kI z_X0 d 14 18 [.ref 18, .int y1, z_j, z_j] [.int s0] S
noncomputable def b14_69 (d : Nat) (y1 : Int32) (y3 : Int32) (S : z_S) : Option (Int32 × z_S) := zk kI z_X0 d 14 69 [.ref 18, .int y1, z_j, .int y3] [] S
theorem b14_18_eq (d : Nat) (y1 : Int32) (s0 : Int32) (S : z_S) (hW : z_W S)  : b14_18 d y1 s0 S = (zb (fI d 15 [.ref 18, .int y1] S) fun v3 S4 => (zb (fI d 13 [.ref 18, .int s0, .int v3] S4) fun v5 S6 => (if ¬ v5 = (0 : Int32) then (if ¬ y1 = (7 : Int32) then b14_69 d y1 (gI S6 19 6) S6 else (if ¬ (((gI S6 (gP S6 18 3) 5) >>> ((gI S6 19 6) &&& 31)) &&& (1 : Int32)) = (1 : Int32) then b14_69 d y1 (gI S6 19 6) S6 else (zb (fI d 10 [.ref 18, .int (4 : Int32)] S6) fun v10 S11 => (if v10 = 0 ∨ v10 = 1 then some (v10, S11) else none)))) else some ((0 : Int32), S6)))) := by
  unfold b14_18
  refine (k_istore_n (ls' := [.ref 18, .int y1, .int s0, z_j]) t14_18 rfl rfl).trans ?_
  refine (k_aload_n t14_19 rfl rfl).trans ?_
  refine (k_iload_n t14_20 rfl rfl).trans ?_
  refine (k_aload_n t14_21 rfl rfl).trans ?_
  refine (k_iload_n t14_22 rfl rfl).trans ?_
  refine k_callI (as := [.ref 18, .int y1]) (rest := [.int s0, .ref 18]) t14_23 rfl rfl (by decide) rfl rfl (Nat.le_of_ble_eq_true rfl) rfl (z_rcV hW (zK_18) (by decide)) (by decide) (Or.inl (by decide)) hW (fun v3 S4 hW4 => ?_)
  refine k_callI (as := [.ref 18, .int s0, .int v3]) (rest := []) t14_26 rfl rfl (by decide) rfl rfl (Nat.le_of_ble_eq_true rfl) rfl (z_rcV hW4 (zK_18) (by decide)) (by decide) (Or.inr (by decide)) hW4 (fun v5 S6 hW6 => ?_)
  refine (k_if_ne t14_29 rfl).trans (z_ite (fun g7 => ?_) (fun g7 => ?_))
  · refine (k_aload_n t14_34 rfl rfl).trans ?_
    refine (k_getR t14_35 rfl hW6 zK_18 (by decide) (by decide) (zF_18_2 hW6)).trans ?_
    refine (k_getI t14_38 rfl hW6 zK_19 (by decide) (by decide)).trans ?_
    refine (k_istore_n (ls' := [.ref 18, .int y1, .int s0, .int (gI S6 19 6)]) t14_41 rfl rfl).trans ?_
    refine (k_iload_n t14_42 rfl rfl).trans ?_
    refine (k_bipush t14_43 rfl zcb_7).trans ?_
    refine (k_icmp_ne t14_45 rfl).trans (z_ite (fun g8 => ?_) (fun g8 => ?_))
    · exact (zk_mk (ls' := [.ref 18, .int y1, z_j, .int (gI S6 19 6)]) t14_69 rfl)
    · refine (k_aload_n t14_48 rfl rfl).trans ?_
      refine (k_getR t14_49 rfl hW6 zK_18 (by decide) (by decide) (zM_18_3 hW6).1).trans ?_
      refine (k_getI t14_52 rfl hW6 (zM_18_3 hW6).2 (by decide) (by decide)).trans ?_
      refine (k_iload_n t14_55 rfl rfl).trans ?_
      refine (k_ishr t14_56 rfl).trans ?_
      refine (k_iconst t14_57 rfl zci_1).trans ?_
      refine (k_iand t14_58 rfl).trans ?_
      refine (k_iconst t14_59 rfl zci_1).trans ?_
      refine (k_icmp_ne t14_60 rfl).trans (z_ite (fun g9 => ?_) (fun g9 => ?_))
      · exact (zk_mk (ls' := [.ref 18, .int y1, z_j, .int (gI S6 19 6)]) t14_69 rfl)
      · refine (k_aload_n t14_63 rfl rfl).trans ?_
        refine (k_iconst t14_64 rfl zci_4).trans ?_
        refine k_callI (as := [.ref 18, .int (4 : Int32)]) (rest := []) t14_65 rfl rfl (by decide) rfl rfl (Nat.le_of_ble_eq_true rfl) rfl (z_rcV hW6 (zK_18) (by decide)) (by decide) (Or.inr (by decide)) hW6 (fun v10 S11 hW11 => ?_)
        exact (k_zreturn t14_68 rfl (by decide)).trans (z_ite (fun _ => rfl) (fun _ => rfl))
  · refine (k_iconst t14_32 rfl zci_0).trans ?_
    exact k_zretC t14_33 rfl (by decide) (by decide)
theorem b14_69_eq (d : Nat) (y1 : Int32) (y3 : Int32) (S : z_S) (hW : z_W S)  : b14_69 d y1 y3 S = ((fV d 98 [.ref 19] S).bind fun S13 => (if y1 = (0 : Int32) then some ((1 : Int32), sI S13 (gP S13 18 3) 1 y3) else (if y1 = (1 : Int32) then some ((1 : Int32), sI S13 (gP S13 18 3) 2 y3) else (if y1 = (2 : Int32) then some ((1 : Int32), sI S13 (gP S13 18 3) 3 y3) else (if y1 = (3 : Int32) then some ((1 : Int32), sI S13 (gP S13 18 3) 4 y3) else some ((1 : Int32), sI S13 (gP S13 18 3) 5 ((gI S13 (gP S13 18 3) 5) ||| ((1 : Int32) <<< (y3 &&& 31))))))))) := by
  unfold b14_69
  refine (k_aload_n t14_69 rfl rfl).trans ?_
  refine (k_getR t14_70 rfl hW zK_18 (by decide) (by decide) (zF_18_2 hW)).trans ?_
  refine k_callV (as := [.ref 19]) (rest := []) t14_73 rfl rfl (by decide) rfl rfl (Nat.le_of_ble_eq_true rfl) rfl (z_rcV hW (zK_19) (by decide)) (by decide) (by decide) hW (fun S13 hW13 => ?_)
  refine (k_iload_n t14_76 rfl rfl).trans ?_
  refine (k_switch t14_77 rfl).trans ?_
  refine (zk_swC (n := (0 : Int32)) (lo' := 1) zci_0 rfl).trans (z_ite (fun g14 => ?_) (fun g14 => ?_))
  · refine (k_aload_n t14_108 rfl rfl).trans ?_
    refine (k_getR t14_109 rfl hW13 zK_18 (by decide) (by decide) (zM_18_3 hW13).1).trans ?_
    refine (k_iload_n t14_112 rfl rfl).trans ?_
    refine (k_putI t14_113 rfl hW13 (zM_18_3 hW13).2 (by decide) (by decide) (by decide)).trans ?_
    refine (k_goto t14_116 rfl).trans ?_
    refine (zk_mk (ls' := [z_j, z_j, z_j, z_j]) t14_167 rfl).trans ?_
    refine (k_iconst t14_167 rfl zci_1).trans ?_
    exact k_zretC t14_168 rfl (by decide) (by decide)
  refine (zk_swC (n := (1 : Int32)) (lo' := 2) zci_1 rfl).trans (z_ite (fun g15 => ?_) (fun g15 => ?_))
  · refine (k_aload_n t14_119 rfl rfl).trans ?_
    refine (k_getR t14_120 rfl hW13 zK_18 (by decide) (by decide) (zM_18_3 hW13).1).trans ?_
    refine (k_iload_n t14_123 rfl rfl).trans ?_
    refine (k_putI t14_124 rfl hW13 (zM_18_3 hW13).2 (by decide) (by decide) (by decide)).trans ?_
    refine (k_goto t14_127 rfl).trans ?_
    refine (zk_mk (ls' := [z_j, z_j, z_j, z_j]) t14_167 rfl).trans ?_
    refine (k_iconst t14_167 rfl zci_1).trans ?_
    exact k_zretC t14_168 rfl (by decide) (by decide)
  refine (zk_swC (n := (2 : Int32)) (lo' := 3) zci_2 rfl).trans (z_ite (fun g16 => ?_) (fun g16 => ?_))
  · refine (k_aload_n t14_130 rfl rfl).trans ?_
    refine (k_getR t14_131 rfl hW13 zK_18 (by decide) (by decide) (zM_18_3 hW13).1).trans ?_
    refine (k_iload_n t14_134 rfl rfl).trans ?_
    refine (k_putI t14_135 rfl hW13 (zM_18_3 hW13).2 (by decide) (by decide) (by decide)).trans ?_
    refine (k_goto t14_138 rfl).trans ?_
    refine (zk_mk (ls' := [z_j, z_j, z_j, z_j]) t14_167 rfl).trans ?_
    refine (k_iconst t14_167 rfl zci_1).trans ?_
    exact k_zretC t14_168 rfl (by decide) (by decide)
  refine (zk_swC (n := (3 : Int32)) (lo' := 4) zci_3 rfl).trans (z_ite (fun g17 => ?_) (fun g17 => ?_))
  · refine (k_aload_n t14_141 rfl rfl).trans ?_
    refine (k_getR t14_142 rfl hW13 zK_18 (by decide) (by decide) (zM_18_3 hW13).1).trans ?_
    refine (k_iload_n t14_145 rfl rfl).trans ?_
    refine (k_putI t14_146 rfl hW13 (zM_18_3 hW13).2 (by decide) (by decide) (by decide)).trans ?_
    refine (k_goto t14_149 rfl).trans ?_
    refine (zk_mk (ls' := [z_j, z_j, z_j, z_j]) t14_167 rfl).trans ?_
    refine (k_iconst t14_167 rfl zci_1).trans ?_
    exact k_zretC t14_168 rfl (by decide) (by decide)
  refine (k_aload_n t14_152 rfl rfl).trans ?_
  refine (k_getR t14_153 rfl hW13 zK_18 (by decide) (by decide) (zM_18_3 hW13).1).trans ?_
  refine (k_dupR t14_156 rfl).trans ?_
  refine (k_getI t14_157 rfl hW13 (zM_18_3 hW13).2 (by decide) (by decide)).trans ?_
  refine (k_iconst t14_160 rfl zci_1).trans ?_
  refine (k_iload_n t14_161 rfl rfl).trans ?_
  refine (k_ishl t14_162 rfl).trans ?_
  refine (k_ior t14_163 rfl).trans ?_
  refine (k_putI t14_164 rfl hW13 (zM_18_3 hW13).2 (by decide) (by decide) (by decide)).trans ?_
  refine (zk_mk (ls' := [z_j, z_j, z_j, z_j]) t14_167 rfl).trans ?_
  refine (k_iconst t14_167 rfl zci_1).trans ?_
  exact k_zretC t14_168 rfl (by decide) (by decide)
-- X1_readSetting
theorem e14 (d : Nat) (x1 : Int32) (S : z_S) (hW : z_W S)  : fI (d + 1) 14 [.ref 18, .int x1] S = (if ¬ x1 = (0 : Int32) then (if ¬ x1 = (2 : Int32) then b14_18 d x1 (0 : Int32) S else b14_18 d x1 (1 : Int32) S) else b14_18 d x1 (2 : Int32) S) := by
  refine (fI_en (Nat.le_of_ble_eq_true rfl) rfl).trans ?_
  refine (k_iload_n t14_0 rfl rfl).trans ?_
  refine (k_if_ne t14_1 rfl).trans (z_ite (fun g1 => ?_) (fun g1 => ?_))
  · refine (k_iload_n t14_8 rfl rfl).trans ?_
    refine (k_iconst t14_9 rfl zci_2).trans ?_
    refine (k_icmp_ne t14_10 rfl).trans (z_ite (fun g2 => ?_) (fun g2 => ?_))
    · refine (k_iconst t14_17 rfl zci_0).trans ?_
      exact (zk_mk (ls' := [.ref 18, .int x1, z_j, z_j]) t14_18 rfl)
    · refine (k_iconst t14_13 rfl zci_1).trans ?_
      refine (k_goto t14_14 rfl).trans ?_
      exact (zk_mk (ls' := [.ref 18, .int x1, z_j, z_j]) t14_18 rfl)
  · refine (k_iconst t14_4 rfl zci_2).trans ?_
    refine (k_goto t14_5 rfl).trans ?_
    exact (zk_mk (ls' := [.ref 18, .int x1, z_j, z_j]) t14_18 rfl)
theorem t15_0 : z_ft 15 0 = some (.iload_n 1, 1, none, [], 0, 0, 0, 0) := z_ftd (by decide +kernel)
theorem t15_1 : z_ft 15 1 = some (.tableswitch 43 0 3 #[31, 34, 37, 40], 31, none, [32, 35, 38, 41], 44, 0, 0, 0) := z_ftd (by decide +kernel)
theorem t15_32 : z_ft 15 32 = some (.bipush 16, 2, none, [], 0, 0, 0, 0) := z_ftd (by decide +kernel)
theorem t15_34 : z_ft 15 34 = some (.ireturn, 1, none, [], 0, 0, 0, 0) := z_ftd (by decide +kernel)
theorem t15_35 : z_ft 15 35 = some (.bipush 6, 2, none, [], 0, 0, 0, 0) := z_ftd (by decide +kernel)
theorem t15_37 : z_ft 15 37 = some (.ireturn, 1, none, [], 0, 0, 0, 0) := z_ftd (by decide +kernel)
theorem t15_38 : z_ft 15 38 = some (.bipush 40, 2, none, [], 0, 0, 0, 0) := z_ftd (by decide +kernel)
theorem t15_40 : z_ft 15 40 = some (.ireturn, 1, none, [], 0, 0, 0, 0) := z_ftd (by decide +kernel)
theorem t15_41 : z_ft 15 41 = some (.bipush 100, 2, none, [], 0, 0, 0, 0) := z_ftd (by decide +kernel)
theorem t15_43 : z_ft 15 43 = some (.ireturn, 1, none, [], 0, 0, 0, 0) := z_ftd (by decide +kernel)
theorem t15_44 : z_ft 15 44 = some (.aload_n 0, 1, none, [], 0, 0, 0, 0) := z_ftd (by decide +kernel)
theorem t15_45 : z_ft 15 45 = some (.getfield 28, 3, none, [], 1, 3, 26, 0) := z_ftd (by decide +kernel)
theorem t15_48 : z_ft 15 48 = some (.getfield 101, 3, none, [], 6, 1, 1, 0) := z_ftd (by decide +kernel)
theorem t15_51 : z_ft 15 51 = some (.iconst 1, 1, none, [], 0, 0, 0, 0) := z_ftd (by decide +kernel)
theorem t15_52 : z_ft 15 52 = some (.isub, 1, none, [], 0, 0, 0, 0) := z_ftd (by decide +kernel)
theorem t15_53 : z_ft 15 53 = some (.ireturn, 1, none, [], 0, 0, 0, 0) := z_ftd (by decide +kernel)
-- X1_highest
theorem e15 (d : Nat) (x1 : Int32) (S : z_S) (hW : z_W S)  : fI (d + 1) 15 [.ref 18, .int x1] S = (if x1 = (0 : Int32) then some ((16 : Int32), S) else (if x1 = (1 : Int32) then some ((6 : Int32), S) else (if x1 = (2 : Int32) then some ((40 : Int32), S) else (if x1 = (3 : Int32) then some ((100 : Int32), S) else some (((gI S (gP S 18 3) 1) - (1 : Int32)), S))))) := by
  refine (fI_en (Nat.le_of_ble_eq_true rfl) rfl).trans ?_
  refine (k_iload_n t15_0 rfl rfl).trans ?_
  refine (k_switch t15_1 rfl).trans ?_
  refine (zk_swC (n := (0 : Int32)) (lo' := 1) zci_0 rfl).trans (z_ite (fun g1 => ?_) (fun g1 => ?_))
  · refine (k_bipush t15_32 rfl zcb_16).trans ?_
    exact k_ireturn t15_34 rfl (by decide)
  refine (zk_swC (n := (1 : Int32)) (lo' := 2) zci_1 rfl).trans (z_ite (fun g2 => ?_) (fun g2 => ?_))
  · refine (k_bipush t15_35 rfl zcb_6).trans ?_
    exact k_ireturn t15_37 rfl (by decide)
  refine (zk_swC (n := (2 : Int32)) (lo' := 3) zci_2 rfl).trans (z_ite (fun g3 => ?_) (fun g3 => ?_))
  · refine (k_bipush t15_38 rfl zcb_40).trans ?_
    exact k_ireturn t15_40 rfl (by decide)
  refine (zk_swC (n := (3 : Int32)) (lo' := 4) zci_3 rfl).trans (z_ite (fun g4 => ?_) (fun g4 => ?_))
  · refine (k_bipush t15_41 rfl zcb_100).trans ?_
    exact k_ireturn t15_43 rfl (by decide)
  refine (k_aload_n t15_44 rfl rfl).trans ?_
  refine (k_getR t15_45 rfl hW zK_18 (by decide) (by decide) (zM_18_3 hW).1).trans ?_
  refine (k_getI t15_48 rfl hW (zM_18_3 hW).2 (by decide) (by decide)).trans ?_
  refine (k_iconst t15_51 rfl zci_1).trans ?_
  refine (k_isub t15_52 rfl).trans ?_
  exact k_ireturn t15_53 rfl (by decide)
theorem t16_0 : z_ft 16 0 = some (.aload_n 0, 1, none, [], 0, 0, 0, 0) := z_ftd (by decide +kernel)
theorem t16_1 : z_ft 16 1 = some (.getfield 28, 3, none, [], 1, 3, 26, 0) := z_ftd (by decide +kernel)
theorem t16_4 : z_ft 16 4 = some (.getfield 113, 3, none, [], 6, 6, 6, 0) := z_ftd (by decide +kernel)
theorem t16_7 : z_ft 16 7 = some (.bipush 16, 2, none, [], 0, 0, 0, 0) := z_ftd (by decide +kernel)
theorem t16_9 : z_ft 16 9 = some (.if_icmp .lt 10, 3, none, [], 19, 0, 0, 0) := z_ftd (by decide +kernel)
theorem t16_12 : z_ft 16 12 = some (.aload_n 0, 1, none, [], 0, 0, 0, 0) := z_ftd (by decide +kernel)
theorem t16_13 : z_ft 16 13 = some (.bipush 6, 2, none, [], 0, 0, 0, 0) := z_ftd (by decide +kernel)
theorem t16_15 : z_ft 16 15 = some (.invokevirtual 43, 3, none, [], 10, 0, 30, 0) := z_ftd (by decide +kernel)
theorem t16_18 : z_ft 16 18 = some (.ireturn, 1, none, [], 0, 0, 0, 0) := z_ftd (by decide +kernel)
theorem t16_19 : z_ft 16 19 = some (.aload_n 0, 1, none, [], 0, 0, 0, 0) := z_ftd (by decide +kernel)
theorem t16_20 : z_ft 16 20 = some (.getfield 21, 3, none, [], 1, 2, 25, 0) := z_ftd (by decide +kernel)
theorem t16_23 : z_ft 16 23 = some (.invokevirtual 69, 3, none, [], 98, 0, 33, 0) := z_ftd (by decide +kernel)
theorem t16_26 : z_ft 16 26 = some (.aload_n 0, 1, none, [], 0, 0, 0, 0) := z_ftd (by decide +kernel)
theorem t16_27 : z_ft 16 27 = some (.getfield 21, 3, none, [], 1, 2, 25, 0) := z_ftd (by decide +kernel)
theorem t16_30 : z_ft 16 30 = some (.getfield 40, 3, none, [], 10, 4, 18, 0) := z_ftd (by decide +kernel)
theorem t16_33 : z_ft 16 33 = some (.iconst 1, 1, none, [], 0, 0, 0, 0) := z_ftd (by decide +kernel)
theorem t16_34 : z_ft 16 34 = some (.if_icmp .ne 14, 3, none, [], 48, 0, 0, 0) := z_ftd (by decide +kernel)
theorem t16_37 : z_ft 16 37 = some (.aload_n 0, 1, none, [], 0, 0, 0, 0) := z_ftd (by decide +kernel)
theorem t16_38 : z_ft 16 38 = some (.getfield 21, 3, none, [], 1, 2, 25, 0) := z_ftd (by decide +kernel)
theorem t16_41 : z_ft 16 41 = some (.getfield 72, 3, none, [], 10, 7, 21, 0) := z_ftd (by decide +kernel)
theorem t16_44 : z_ft 16 44 = some (.iconst (-1), 1, none, [], 0, 0, 0, 0) := z_ftd (by decide +kernel)
theorem t16_45 : z_ft 16 45 = some (.if_icmp .eq 8, 3, none, [], 53, 0, 0, 0) := z_ftd (by decide +kernel)
theorem t16_48 : z_ft 16 48 = some (.aload_n 0, 1, (some [0]), [], 0, 0, 0, 0) := z_ftd (by decide +kernel)
theorem t16_49 : z_ft 16 49 = some (.invokevirtual 57, 3, none, [], 9, 0, 32, 0) := z_ftd (by decide +kernel)
theorem t16_52 : z_ft 16 52 = some (.ireturn, 1, none, [], 0, 0, 0, 0) := z_ftd (by decide +kernel)
theorem t16_53 : z_ft 16 53 = some (.aload_n 0, 1, none, [], 0, 0, 0, 0) := z_ftd (by decide +kernel)
theorem t16_54 : z_ft 16 54 = some (.getfield 28, 3, none, [], 1, 3, 26, 0) := z_ftd (by decide +kernel)
theorem t16_57 : z_ft 16 57 = some (.aload_n 0, 1, none, [], 0, 0, 0, 0) := z_ftd (by decide +kernel)
theorem t16_58 : z_ft 16 58 = some (.getfield 21, 3, none, [], 1, 2, 25, 0) := z_ftd (by decide +kernel)
theorem t16_61 : z_ft 16 61 = some (.getfield 87, 3, none, [], 10, 6, 20, 0) := z_ftd (by decide +kernel)
theorem t16_64 : z_ft 16 64 = some (.invokevirtual 116, 3, none, [], 64, 0, 38, 0) := z_ftd (by decide +kernel)
theorem t16_67 : z_ft 16 67 = some (.iconst (-1), 1, none, [], 0, 0, 0, 0) := z_ftd (by decide +kernel)
theorem t16_68 : z_ft 16 68 = some (.if_icmp .eq 9, 3, none, [], 77, 0, 0, 0) := z_ftd (by decide +kernel)
theorem t16_71 : z_ft 16 71 = some (.aload_n 0, 1, none, [], 0, 0, 0, 0) := z_ftd (by decide +kernel)
theorem t16_72 : z_ft 16 72 = some (.iconst 2, 1, none, [], 0, 0, 0, 0) := z_ftd (by decide +kernel)
theorem t16_73 : z_ft 16 73 = some (.invokevirtual 43, 3, none, [], 10, 0, 30, 0) := z_ftd (by decide +kernel)
theorem t16_76 : z_ft 16 76 = some (.ireturn, 1, none, [], 0, 0, 0, 0) := z_ftd (by decide +kernel)
theorem t16_77 : z_ft 16 77 = some (.aload_n 0, 1, none, [], 0, 0, 0, 0) := z_ftd (by decide +kernel)
theorem t16_78 : z_ft 16 78 = some (.getfield 28, 3, none, [], 1, 3, 26, 0) := z_ftd (by decide +kernel)
theorem t16_81 : z_ft 16 81 = some (.getfield 119, 3, none, [], 6, 9, 9, 0) := z_ftd (by decide +kernel)
theorem t16_84 : z_ft 16 84 = some (.aload_n 0, 1, none, [], 0, 0, 0, 0) := z_ftd (by decide +kernel)
theorem t16_85 : z_ft 16 85 = some (.getfield 28, 3, none, [], 1, 3, 26, 0) := z_ftd (by decide +kernel)
theorem t16_88 : z_ft 16 88 = some (.getfield 113, 3, none, [], 6, 6, 6, 0) := z_ftd (by decide +kernel)
theorem t16_91 : z_ft 16 91 = some (.aload_n 0, 1, none, [], 0, 0, 0, 0) := z_ftd (by decide +kernel)
theorem t16_92 : z_ft 16 92 = some (.getfield 21, 3, none, [], 1, 2, 25, 0) := z_ftd (by decide +kernel)
theorem t16_95 : z_ft 16 95 = some (.getfield 87, 3, none, [], 10, 6, 20, 0) := z_ftd (by decide +kernel)
theorem t16_98 : z_ft 16 98 = some (.iastore, 1, none, [], 0, 0, 0, 0) := z_ftd (by decide +kernel)
theorem t16_99 : z_ft 16 99 = some (.aload_n 0, 1, none, [], 0, 0, 0, 0) := z_ftd (by decide +kernel)
theorem t16_100 : z_ft 16 100 = some (.getfield 21, 3, none, [], 1, 2, 25, 0) := z_ftd (by decide +kernel)
theorem t16_103 : z_ft 16 103 = some (.invokevirtual 69, 3, none, [], 98, 0, 33, 0) := z_ftd (by decide +kernel)
theorem t16_106 : z_ft 16 106 = some (.aload_n 0, 1, none, [], 0, 0, 0, 0) := z_ftd (by decide +kernel)
theorem t16_107 : z_ft 16 107 = some (.getfield 21, 3, none, [], 1, 2, 25, 0) := z_ftd (by decide +kernel)
theorem t16_110 : z_ft 16 110 = some (.iconst 5, 1, none, [], 0, 0, 0, 0) := z_ftd (by decide +kernel)
theorem t16_111 : z_ft 16 111 = some (.invokevirtual 123, 3, none, [], 103, 0, 39, 0) := z_ftd (by decide +kernel)
theorem t16_114 : z_ft 16 114 = some (.ifCond .ne 8, 3, none, [], 122, 0, 0, 0) := z_ftd (by decide +kernel)
theorem t16_117 : z_ft 16 117 = some (.aload_n 0, 1, none, [], 0, 0, 0, 0) := z_ftd (by decide +kernel)
theorem t16_118 : z_ft 16 118 = some (.invokevirtual 57, 3, none, [], 9, 0, 32, 0) := z_ftd (by decide +kernel)
theorem t16_121 : z_ft 16 121 = some (.ireturn, 1, none, [], 0, 0, 0, 0) := z_ftd (by decide +kernel)
theorem t16_122 : z_ft 16 122 = some (.aload_n 0, 1, none, [], 0, 0, 0, 0) := z_ftd (by decide +kernel)
theorem t16_123 : z_ft 16 123 = some (.getfield 21, 3, none, [], 1, 2, 25, 0) := z_ftd (by decide +kernel)
theorem t16_126 : z_ft 16 126 = some (.invokevirtual 69, 3, none, [], 98, 0, 33, 0) := z_ftd (by decide +kernel)
theorem t16_129 : z_ft 16 129 = some (.aload_n 0, 1, none, [], 0, 0, 0, 0) := z_ftd (by decide +kernel)
theorem t16_130 : z_ft 16 130 = some (.aload_n 0, 1, none, [], 0, 0, 0, 0) := z_ftd (by decide +kernel)
theorem t16_131 : z_ft 16 131 = some (.getfield 28, 3, none, [], 1, 3, 26, 0) := z_ftd (by decide +kernel)
theorem t16_134 : z_ft 16 134 = some (.getfield 113, 3, none, [], 6, 6, 6, 0) := z_ftd (by decide +kernel)
theorem t16_137 : z_ft 16 137 = some (.invokevirtual 126, 3, none, [], 17, 0, 40, 0) := z_ftd (by decide +kernel)
theorem t16_140 : z_ft 16 140 = some (.ireturn, 1, none, [], 0, 0, 0, 0) := z_ftd (by decide +kernel)
noncomputable def b16_48 (d : Nat)  (S : z_S) : Option (Int32 × z_S) := zk kI z_X0 d 16 48 [.ref 18] [] S
theorem b16_48_eq (d : Nat)  (S : z_S) (hW : z_W S)  : b16_48 d  S = (zb (fI d 9 [.ref 18] S) fun v25 S26 => (if v25 = 0 ∨ v25 = 1 then some (v25, S26) else none)) := by
  unfold b16_48
  refine (k_aload_n t16_48 rfl rfl).trans ?_
  refine k_callI (as := [.ref 18]) (rest := []) t16_49 rfl rfl (by decide) rfl rfl (Nat.le_of_ble_eq_true rfl) rfl (z_rcV hW (zK_18) (by decide)) (by decide) (Or.inr (by decide)) hW (fun v25 S26 hW26 => ?_)
  exact (k_zreturn t16_52 rfl (by decide)).trans (z_ite (fun _ => rfl) (fun _ => rfl))
-- X1_readLodger
theorem e16 (d : Nat)  (S : z_S) (hW : z_W S)  : fI (d + 1) 16 [.ref 18] S = (if (gI S (gP S 18 3) 6) < (16 : Int32) then ((fV d 98 [.ref 19] S).bind fun S3 => (if ¬ (gI S3 19 4) = (1 : Int32) then b16_48 d S3 else (if (gI S3 19 7) = (-1 : Int32) then (zb (fI d 64 [.ref (gP S3 18 3), .int (gI S3 19 6)] S3) fun v6 S7 => (if v6 = (-1 : Int32) then (if z_in (gI S7 (gP S7 18 3) 6) 16 then ((fV d 98 [.ref 19] (sI S7 ((gP S7 18 3) + 1) ((gI S7 (gP S7 18 3) 6)).toNatClampNeg (gI S7 19 6))).bind fun S11 => (zb (fI d 103 [.ref 19, .int (5 : Int32)] S11) fun v12 S13 => (if ¬ v12 = (0 : Int32) then ((fV d 98 [.ref 19] S13).bind fun S16 => (zb (fI d 17 [.ref 18, .int (gI S16 (gP S16 18 3) 6)] S16) fun v17 S18 => (if v17 = 0 ∨ v17 = 1 then some (v17, S18) else none))) else (zb (fI d 9 [.ref 18] S13) fun v19 S20 => (if v19 = 0 ∨ v19 = 1 then some (v19, S20) else none))))) else none) else (zb (fI d 10 [.ref 18, .int (2 : Int32)] S7) fun v21 S22 => (if v21 = 0 ∨ v21 = 1 then some (v21, S22) else none)))) else b16_48 d S3))) else (zb (fI d 10 [.ref 18, .int (6 : Int32)] S) fun v23 S24 => (if v23 = 0 ∨ v23 = 1 then some (v23, S24) else none))) := by
  refine (fI_en (Nat.le_of_ble_eq_true rfl) rfl).trans ?_
  refine (k_aload_n t16_0 rfl rfl).trans ?_
  refine (k_getR t16_1 rfl hW zK_18 (by decide) (by decide) (zM_18_3 hW).1).trans ?_
  refine (k_getI t16_4 rfl hW (zM_18_3 hW).2 (by decide) (by decide)).trans ?_
  refine (k_bipush t16_7 rfl zcb_16).trans ?_
  refine (k_icmp_lt t16_9 rfl).trans (z_ite (fun g1 => ?_) (fun g1 => ?_))
  · refine (k_aload_n t16_19 rfl rfl).trans ?_
    refine (k_getR t16_20 rfl hW zK_18 (by decide) (by decide) (zF_18_2 hW)).trans ?_
    refine k_callV (as := [.ref 19]) (rest := []) t16_23 rfl rfl (by decide) rfl rfl (Nat.le_of_ble_eq_true rfl) rfl (z_rcV hW (zK_19) (by decide)) (by decide) (by decide) hW (fun S3 hW3 => ?_)
    refine (k_aload_n t16_26 rfl rfl).trans ?_
    refine (k_getR t16_27 rfl hW3 zK_18 (by decide) (by decide) (zF_18_2 hW3)).trans ?_
    refine (k_getI t16_30 rfl hW3 zK_19 (by decide) (by decide)).trans ?_
    refine (k_iconst t16_33 rfl zci_1).trans ?_
    refine (k_icmp_ne t16_34 rfl).trans (z_ite (fun g4 => ?_) (fun g4 => ?_))
    · exact (zk_mk (ls' := [.ref 18]) t16_48 rfl)
    · refine (k_aload_n t16_37 rfl rfl).trans ?_
      refine (k_getR t16_38 rfl hW3 zK_18 (by decide) (by decide) (zF_18_2 hW3)).trans ?_
      refine (k_getI t16_41 rfl hW3 zK_19 (by decide) (by decide)).trans ?_
      refine (k_iconst t16_44 rfl zci_m1).trans ?_
      refine (k_icmp_eq t16_45 rfl).trans (z_ite (fun g5 => ?_) (fun g5 => ?_))
      · refine (k_aload_n t16_53 rfl rfl).trans ?_
        refine (k_getR t16_54 rfl hW3 zK_18 (by decide) (by decide) (zM_18_3 hW3).1).trans ?_
        refine (k_aload_n t16_57 rfl rfl).trans ?_
        refine (k_getR t16_58 rfl hW3 zK_18 (by decide) (by decide) (zF_18_2 hW3)).trans ?_
        refine (k_getI t16_61 rfl hW3 zK_19 (by decide) (by decide)).trans ?_
        refine k_callI (as := [.ref (gP S3 18 3), .int (gI S3 19 6)]) (rest := []) t16_64 rfl rfl (by decide) rfl rfl (Nat.le_of_ble_eq_true rfl) rfl (z_rcV hW3 ((zM_18_3 hW3).2) (by decide)) (by decide) (Or.inl (by decide)) hW3 (fun v6 S7 hW7 => ?_)
        refine (k_iconst t16_67 rfl zci_m1).trans ?_
        refine (k_icmp_eq t16_68 rfl).trans (z_ite (fun g8 => ?_) (fun g8 => ?_))
        · refine (k_aload_n t16_77 rfl rfl).trans ?_
          refine (k_getR t16_78 rfl hW7 zK_18 (by decide) (by decide) (zM_18_3 hW7).1).trans ?_
          refine (k_getR t16_81 rfl hW7 (zM_18_3 hW7).2 (by decide) (by decide) (zO_6_9 hW7 (zM_18_3 hW7).2)).trans ?_
          refine (k_aload_n t16_84 rfl rfl).trans ?_
          refine (k_getR t16_85 rfl hW7 zK_18 (by decide) (by decide) (zM_18_3 hW7).1).trans ?_
          refine (k_getI t16_88 rfl hW7 (zM_18_3 hW7).2 (by decide) (by decide)).trans ?_
          refine (k_aload_n t16_91 rfl rfl).trans ?_
          refine (k_getR t16_92 rfl hW7 zK_18 (by decide) (by decide) (zF_18_2 hW7)).trans ?_
          refine (k_getI t16_95 rfl hW7 zK_19 (by decide) (by decide)).trans ?_
          refine (k_iast t16_98 rfl hW7 (zOK_6_9 (zM_18_3 hW7).2) (zOL_6_9 (zM_18_3 hW7).2)).trans (z_ite (fun g9 => ?_) (fun _ => rfl))
          refine (k_aload_n t16_99 rfl rfl).trans ?_
          refine (k_getR t16_100 rfl hW7.sI zK_18 (by decide) (by decide) (zF_18_2 hW7.sI)).trans ?_
          refine k_callV (as := [.ref 19]) (rest := []) t16_103 rfl rfl (by decide) rfl rfl (Nat.le_of_ble_eq_true rfl) rfl (z_rcV hW7.sI (zK_19) (by decide)) (by decide) (by decide) hW7.sI (fun S11 hW11 => ?_)
          refine (k_aload_n t16_106 rfl rfl).trans ?_
          refine (k_getR t16_107 rfl hW11 zK_18 (by decide) (by decide) (zF_18_2 hW11)).trans ?_
          refine (k_iconst t16_110 rfl zci_5).trans ?_
          refine k_callI (as := [.ref 19, .int (5 : Int32)]) (rest := []) t16_111 rfl rfl (by decide) rfl rfl (Nat.le_of_ble_eq_true rfl) rfl (z_rcV hW11 (zK_19) (by decide)) (by decide) (Or.inr (by decide)) hW11 (fun v12 S13 hW13 => ?_)
          refine (k_if_ne t16_114 rfl).trans (z_ite (fun g14 => ?_) (fun g14 => ?_))
          · refine (k_aload_n t16_122 rfl rfl).trans ?_
            refine (k_getR t16_123 rfl hW13 zK_18 (by decide) (by decide) (zF_18_2 hW13)).trans ?_
            refine k_callV (as := [.ref 19]) (rest := []) t16_126 rfl rfl (by decide) rfl rfl (Nat.le_of_ble_eq_true rfl) rfl (z_rcV hW13 (zK_19) (by decide)) (by decide) (by decide) hW13 (fun S16 hW16 => ?_)
            refine (k_aload_n t16_129 rfl rfl).trans ?_
            refine (k_aload_n t16_130 rfl rfl).trans ?_
            refine (k_getR t16_131 rfl hW16 zK_18 (by decide) (by decide) (zM_18_3 hW16).1).trans ?_
            refine (k_getI t16_134 rfl hW16 (zM_18_3 hW16).2 (by decide) (by decide)).trans ?_
            refine k_callI (as := [.ref 18, .int (gI S16 (gP S16 18 3) 6)]) (rest := []) t16_137 rfl rfl (by decide) rfl rfl (Nat.le_of_ble_eq_true rfl) rfl (z_rcV hW16 (zK_18) (by decide)) (by decide) (Or.inr (by decide)) hW16 (fun v17 S18 hW18 => ?_)
            exact (k_zreturn t16_140 rfl (by decide)).trans (z_ite (fun _ => rfl) (fun _ => rfl))
          · refine (k_aload_n t16_117 rfl rfl).trans ?_
            refine k_callI (as := [.ref 18]) (rest := []) t16_118 rfl rfl (by decide) rfl rfl (Nat.le_of_ble_eq_true rfl) rfl (z_rcV hW13 (zK_18) (by decide)) (by decide) (Or.inr (by decide)) hW13 (fun v19 S20 hW20 => ?_)
            exact (k_zreturn t16_121 rfl (by decide)).trans (z_ite (fun _ => rfl) (fun _ => rfl))
        · refine (k_aload_n t16_71 rfl rfl).trans ?_
          refine (k_iconst t16_72 rfl zci_2).trans ?_
          refine k_callI (as := [.ref 18, .int (2 : Int32)]) (rest := []) t16_73 rfl rfl (by decide) rfl rfl (Nat.le_of_ble_eq_true rfl) rfl (z_rcV hW7 (zK_18) (by decide)) (by decide) (Or.inr (by decide)) hW7 (fun v21 S22 hW22 => ?_)
          exact (k_zreturn t16_76 rfl (by decide)).trans (z_ite (fun _ => rfl) (fun _ => rfl))
      · exact (zk_mk (ls' := [.ref 18]) t16_48 rfl)
  · refine (k_aload_n t16_12 rfl rfl).trans ?_
    refine (k_bipush t16_13 rfl zcb_6).trans ?_
    refine k_callI (as := [.ref 18, .int (6 : Int32)]) (rest := []) t16_15 rfl rfl (by decide) rfl rfl (Nat.le_of_ble_eq_true rfl) rfl (z_rcV hW (zK_18) (by decide)) (by decide) (Or.inr (by decide)) hW (fun v23 S24 hW24 => ?_)
    exact (k_zreturn t16_18 rfl (by decide)).trans (z_ite (fun _ => rfl) (fun _ => rfl))
theorem t17_0 : z_ft 17 0 = some (.aload_n 0, 1, none, [], 0, 0, 0, 0) := z_ftd (by decide +kernel)
theorem t17_1 : z_ft 17 1 = some (.iconst 0, 1, none, [], 0, 0, 0, 0) := z_ftd (by decide +kernel)
theorem t17_2 : z_ft 17 2 = some (.aload_n 0, 1, none, [], 0, 0, 0, 0) := z_ftd (by decide +kernel)
theorem t17_3 : z_ft 17 3 = some (.getfield 28, 3, none, [], 1, 3, 26, 0) := z_ftd (by decide +kernel)
theorem t17_6 : z_ft 17 6 = some (.getfield 101, 3, none, [], 6, 1, 1, 0) := z_ftd (by decide +kernel)
theorem t17_9 : z_ft 17 9 = some (.iconst 1, 1, none, [], 0, 0, 0, 0) := z_ftd (by decide +kernel)
theorem t17_10 : z_ft 17 10 = some (.isub, 1, none, [], 0, 0, 0, 0) := z_ftd (by decide +kernel)
theorem t17_11 : z_ft 17 11 = some (.invokevirtual 94, 3, none, [], 13, 0, 36, 0) := z_ftd (by decide +kernel)
theorem t17_14 : z_ft 17 14 = some (.ifCond .ne 5, 3, none, [], 19, 0, 0, 0) := z_ftd (by decide +kernel)
theorem t17_17 : z_ft 17 17 = some (.iconst 0, 1, none, [], 0, 0, 0, 0) := z_ftd (by decide +kernel)
theorem t17_18 : z_ft 17 18 = some (.ireturn, 1, none, [], 0, 0, 0, 0) := z_ftd (by decide +kernel)
theorem t17_19 : z_ft 17 19 = some (.aload_n 0, 1, none, [], 0, 0, 0, 0) := z_ftd (by decide +kernel)
theorem t17_20 : z_ft 17 20 = some (.getfield 28, 3, none, [], 1, 3, 26, 0) := z_ftd (by decide +kernel)
theorem t17_23 : z_ft 17 23 = some (.getfield 129, 3, none, [], 6, 10, 10, 0) := z_ftd (by decide +kernel)
theorem t17_26 : z_ft 17 26 = some (.iload_n 1, 1, none, [], 0, 0, 0, 0) := z_ftd (by decide +kernel)
theorem t17_27 : z_ft 17 27 = some (.aload_n 0, 1, none, [], 0, 0, 0, 0) := z_ftd (by decide +kernel)
theorem t17_28 : z_ft 17 28 = some (.getfield 21, 3, none, [], 1, 2, 25, 0) := z_ftd (by decide +kernel)
theorem t17_31 : z_ft 17 31 = some (.getfield 87, 3, none, [], 10, 6, 20, 0) := z_ftd (by decide +kernel)
theorem t17_34 : z_ft 17 34 = some (.iastore, 1, none, [], 0, 0, 0, 0) := z_ftd (by decide +kernel)
theorem t17_35 : z_ft 17 35 = some (.aload_n 0, 1, none, [], 0, 0, 0, 0) := z_ftd (by decide +kernel)
theorem t17_36 : z_ft 17 36 = some (.getfield 21, 3, none, [], 1, 2, 25, 0) := z_ftd (by decide +kernel)
theorem t17_39 : z_ft 17 39 = some (.invokevirtual 69, 3, none, [], 98, 0, 33, 0) := z_ftd (by decide +kernel)
theorem t17_42 : z_ft 17 42 = some (.aload_n 0, 1, none, [], 0, 0, 0, 0) := z_ftd (by decide +kernel)
theorem t17_43 : z_ft 17 43 = some (.iconst 0, 1, none, [], 0, 0, 0, 0) := z_ftd (by decide +kernel)
theorem t17_44 : z_ft 17 44 = some (.aload_n 0, 1, none, [], 0, 0, 0, 0) := z_ftd (by decide +kernel)
theorem t17_45 : z_ft 17 45 = some (.getfield 28, 3, none, [], 1, 3, 26, 0) := z_ftd (by decide +kernel)
theorem t17_48 : z_ft 17 48 = some (.getfield 101, 3, none, [], 6, 1, 1, 0) := z_ftd (by decide +kernel)
theorem t17_51 : z_ft 17 51 = some (.iconst 1, 1, none, [], 0, 0, 0, 0) := z_ftd (by decide +kernel)
theorem t17_52 : z_ft 17 52 = some (.isub, 1, none, [], 0, 0, 0, 0) := z_ftd (by decide +kernel)
theorem t17_53 : z_ft 17 53 = some (.invokevirtual 94, 3, none, [], 13, 0, 36, 0) := z_ftd (by decide +kernel)
theorem t17_56 : z_ft 17 56 = some (.ifCond .ne 5, 3, none, [], 61, 0, 0, 0) := z_ftd (by decide +kernel)
theorem t17_59 : z_ft 17 59 = some (.iconst 0, 1, none, [], 0, 0, 0, 0) := z_ftd (by decide +kernel)
theorem t17_60 : z_ft 17 60 = some (.ireturn, 1, none, [], 0, 0, 0, 0) := z_ftd (by decide +kernel)
theorem t17_61 : z_ft 17 61 = some (.aload_n 0, 1, none, [], 0, 0, 0, 0) := z_ftd (by decide +kernel)
theorem t17_62 : z_ft 17 62 = some (.getfield 21, 3, none, [], 1, 2, 25, 0) := z_ftd (by decide +kernel)
theorem t17_65 : z_ft 17 65 = some (.getfield 87, 3, none, [], 10, 6, 20, 0) := z_ftd (by decide +kernel)
theorem t17_68 : z_ft 17 68 = some (.aload_n 0, 1, none, [], 0, 0, 0, 0) := z_ftd (by decide +kernel)
theorem t17_69 : z_ft 17 69 = some (.getfield 28, 3, none, [], 1, 3, 26, 0) := z_ftd (by decide +kernel)
theorem t17_72 : z_ft 17 72 = some (.getfield 129, 3, none, [], 6, 10, 10, 0) := z_ftd (by decide +kernel)
theorem t17_75 : z_ft 17 75 = some (.iload_n 1, 1, none, [], 0, 0, 0, 0) := z_ftd (by decide +kernel)
theorem t17_76 : z_ft 17 76 = some (.iaload, 1, none, [], 0, 0, 0, 0) := z_ftd (by decide +kernel)
theorem t17_77 : z_ft 17 77 = some (.if_icmp .ne 9, 3, none, [], 86, 0, 0, 0) := z_ftd (by decide +kernel)
theorem t17_80 : z_ft 17 80 = some (.aload_n 0, 1, none, [], 0, 0, 0, 0) := z_ftd (by decide +kernel)
theorem t17_81 : z_ft 17 81 = some (.iconst 4, 1, none, [], 0, 0, 0, 0) := z_ftd (by decide +kernel)
theorem t17_82 : z_ft 17 82 = some (.invokevirtual 43, 3, none, [], 10, 0, 30, 0) := z_ftd (by decide +kernel)
theorem t17_85 : z_ft 17 85 = some (.ireturn, 1, none, [], 0, 0, 0, 0) := z_ftd (by decide +kernel)
theorem t17_86 : z_ft 17 86 = some (.aload_n 0, 1, none, [], 0, 0, 0, 0) := z_ftd (by decide +kernel)
theorem t17_87 : z_ft 17 87 = some (.getfield 28, 3, none, [], 1, 3, 26, 0) := z_ftd (by decide +kernel)
theorem t17_90 : z_ft 17 90 = some (.getfield 132, 3, none, [], 6, 11, 11, 0) := z_ftd (by decide +kernel)
theorem t17_93 : z_ft 17 93 = some (.iload_n 1, 1, none, [], 0, 0, 0, 0) := z_ftd (by decide +kernel)
theorem t17_94 : z_ft 17 94 = some (.aload_n 0, 1, none, [], 0, 0, 0, 0) := z_ftd (by decide +kernel)
theorem t17_95 : z_ft 17 95 = some (.getfield 21, 3, none, [], 1, 2, 25, 0) := z_ftd (by decide +kernel)
theorem t17_98 : z_ft 17 98 = some (.getfield 87, 3, none, [], 10, 6, 20, 0) := z_ftd (by decide +kernel)
theorem t17_101 : z_ft 17 101 = some (.iastore, 1, none, [], 0, 0, 0, 0) := z_ftd (by decide +kernel)
theorem t17_102 : z_ft 17 102 = some (.aload_n 0, 1, none, [], 0, 0, 0, 0) := z_ftd (by decide +kernel)
theorem t17_103 : z_ft 17 103 = some (.getfield 21, 3, none, [], 1, 2, 25, 0) := z_ftd (by decide +kernel)
theorem t17_106 : z_ft 17 106 = some (.invokevirtual 69, 3, none, [], 98, 0, 33, 0) := z_ftd (by decide +kernel)
theorem t17_109 : z_ft 17 109 = some (.aload_n 0, 1, none, [], 0, 0, 0, 0) := z_ftd (by decide +kernel)
theorem t17_110 : z_ft 17 110 = some (.getfield 28, 3, none, [], 1, 3, 26, 0) := z_ftd (by decide +kernel)
theorem t17_113 : z_ft 17 113 = some (.dup, 1, none, [], 0, 0, 0, 0) := z_ftd (by decide +kernel)
theorem t17_114 : z_ft 17 114 = some (.getfield 113, 3, none, [], 6, 6, 6, 0) := z_ftd (by decide +kernel)
theorem t17_117 : z_ft 17 117 = some (.iconst 1, 1, none, [], 0, 0, 0, 0) := z_ftd (by decide +kernel)
theorem t17_118 : z_ft 17 118 = some (.iadd, 1, none, [], 0, 0, 0, 0) := z_ftd (by decide +kernel)
theorem t17_119 : z_ft 17 119 = some (.putfield 113, 3, none, [], 6, 6, 6, 0) := z_ftd (by decide +kernel)
theorem t17_122 : z_ft 17 122 = some (.iconst 1, 1, none, [], 0, 0, 0, 0) := z_ftd (by decide +kernel)
theorem t17_123 : z_ft 17 123 = some (.ireturn, 1, none, [], 0, 0, 0, 0) := z_ftd (by decide +kernel)
-- X1_readRoomsOf
theorem e17 (d : Nat) (x1 : Int32) (S : z_S) (hW : z_W S)  : fI (d + 1) 17 [.ref 18, .int x1] S = (zb (fI d 13 [.ref 18, .int (0 : Int32), .int ((gI S (gP S 18 3) 1) - (1 : Int32))] S) fun v1 S2 => (if ¬ v1 = (0 : Int32) then (if z_in x1 16 then ((fV d 98 [.ref 19] (sI S2 ((gP S2 18 3) + 2) (x1).toNatClampNeg (gI S2 19 6))).bind fun S6 => (zb (fI d 13 [.ref 18, .int (0 : Int32), .int ((gI S6 (gP S6 18 3) 1) - (1 : Int32))] S6) fun v7 S8 => (if ¬ v7 = (0 : Int32) then (if z_in x1 16 then (if ¬ (gI S8 19 6) = (gI S8 ((gP S8 18 3) + 2) (x1).toNatClampNeg) then (if z_in x1 16 then ((fV d 98 [.ref 19] (sI S8 ((gP S8 18 3) + 3) (x1).toNatClampNeg (gI S8 19 6))).bind fun S14 => some ((1 : Int32), sI S14 (gP S14 18 3) 6 ((gI S14 (gP S14 18 3) 6) + (1 : Int32)))) else none) else (zb (fI d 10 [.ref 18, .int (4 : Int32)] S8) fun v15 S16 => (if v15 = 0 ∨ v15 = 1 then some (v15, S16) else none))) else none) else some ((0 : Int32), S8)))) else none) else some ((0 : Int32), S2))) := by
  refine (fI_en (Nat.le_of_ble_eq_true rfl) rfl).trans ?_
  refine (k_aload_n t17_0 rfl rfl).trans ?_
  refine (k_iconst t17_1 rfl zci_0).trans ?_
  refine (k_aload_n t17_2 rfl rfl).trans ?_
  refine (k_getR t17_3 rfl hW zK_18 (by decide) (by decide) (zM_18_3 hW).1).trans ?_
  refine (k_getI t17_6 rfl hW (zM_18_3 hW).2 (by decide) (by decide)).trans ?_
  refine (k_iconst t17_9 rfl zci_1).trans ?_
  refine (k_isub t17_10 rfl).trans ?_
  refine k_callI (as := [.ref 18, .int (0 : Int32), .int ((gI S (gP S 18 3) 1) - (1 : Int32))]) (rest := []) t17_11 rfl rfl (by decide) rfl rfl (Nat.le_of_ble_eq_true rfl) rfl (z_rcV hW (zK_18) (by decide)) (by decide) (Or.inr (by decide)) hW (fun v1 S2 hW2 => ?_)
  refine (k_if_ne t17_14 rfl).trans (z_ite (fun g3 => ?_) (fun g3 => ?_))
  · refine (k_aload_n t17_19 rfl rfl).trans ?_
    refine (k_getR t17_20 rfl hW2 zK_18 (by decide) (by decide) (zM_18_3 hW2).1).trans ?_
    refine (k_getR t17_23 rfl hW2 (zM_18_3 hW2).2 (by decide) (by decide) (zO_6_10 hW2 (zM_18_3 hW2).2)).trans ?_
    refine (k_iload_n t17_26 rfl rfl).trans ?_
    refine (k_aload_n t17_27 rfl rfl).trans ?_
    refine (k_getR t17_28 rfl hW2 zK_18 (by decide) (by decide) (zF_18_2 hW2)).trans ?_
    refine (k_getI t17_31 rfl hW2 zK_19 (by decide) (by decide)).trans ?_
    refine (k_iast t17_34 rfl hW2 (zOK_6_10 (zM_18_3 hW2).2) (zOL_6_10 (zM_18_3 hW2).2)).trans (z_ite (fun g4 => ?_) (fun _ => rfl))
    refine (k_aload_n t17_35 rfl rfl).trans ?_
    refine (k_getR t17_36 rfl hW2.sI zK_18 (by decide) (by decide) (zF_18_2 hW2.sI)).trans ?_
    refine k_callV (as := [.ref 19]) (rest := []) t17_39 rfl rfl (by decide) rfl rfl (Nat.le_of_ble_eq_true rfl) rfl (z_rcV hW2.sI (zK_19) (by decide)) (by decide) (by decide) hW2.sI (fun S6 hW6 => ?_)
    refine (k_aload_n t17_42 rfl rfl).trans ?_
    refine (k_iconst t17_43 rfl zci_0).trans ?_
    refine (k_aload_n t17_44 rfl rfl).trans ?_
    refine (k_getR t17_45 rfl hW6 zK_18 (by decide) (by decide) (zM_18_3 hW6).1).trans ?_
    refine (k_getI t17_48 rfl hW6 (zM_18_3 hW6).2 (by decide) (by decide)).trans ?_
    refine (k_iconst t17_51 rfl zci_1).trans ?_
    refine (k_isub t17_52 rfl).trans ?_
    refine k_callI (as := [.ref 18, .int (0 : Int32), .int ((gI S6 (gP S6 18 3) 1) - (1 : Int32))]) (rest := []) t17_53 rfl rfl (by decide) rfl rfl (Nat.le_of_ble_eq_true rfl) rfl (z_rcV hW6 (zK_18) (by decide)) (by decide) (Or.inr (by decide)) hW6 (fun v7 S8 hW8 => ?_)
    refine (k_if_ne t17_56 rfl).trans (z_ite (fun g9 => ?_) (fun g9 => ?_))
    · refine (k_aload_n t17_61 rfl rfl).trans ?_
      refine (k_getR t17_62 rfl hW8 zK_18 (by decide) (by decide) (zF_18_2 hW8)).trans ?_
      refine (k_getI t17_65 rfl hW8 zK_19 (by decide) (by decide)).trans ?_
      refine (k_aload_n t17_68 rfl rfl).trans ?_
      refine (k_getR t17_69 rfl hW8 zK_18 (by decide) (by decide) (zM_18_3 hW8).1).trans ?_
      refine (k_getR t17_72 rfl hW8 (zM_18_3 hW8).2 (by decide) (by decide) (zO_6_10 hW8 (zM_18_3 hW8).2)).trans ?_
      refine (k_iload_n t17_75 rfl rfl).trans ?_
      refine (k_iald t17_76 rfl hW8 (zOK_6_10 (zM_18_3 hW8).2) (zOL_6_10 (zM_18_3 hW8).2)).trans (z_ite (fun g10 => ?_) (fun _ => rfl))
      refine (k_icmp_ne t17_77 rfl).trans (z_ite (fun g11 => ?_) (fun g11 => ?_))
      · refine (k_aload_n t17_86 rfl rfl).trans ?_
        refine (k_getR t17_87 rfl hW8 zK_18 (by decide) (by decide) (zM_18_3 hW8).1).trans ?_
        refine (k_getR t17_90 rfl hW8 (zM_18_3 hW8).2 (by decide) (by decide) (zO_6_11 hW8 (zM_18_3 hW8).2)).trans ?_
        refine (k_iload_n t17_93 rfl rfl).trans ?_
        refine (k_aload_n t17_94 rfl rfl).trans ?_
        refine (k_getR t17_95 rfl hW8 zK_18 (by decide) (by decide) (zF_18_2 hW8)).trans ?_
        refine (k_getI t17_98 rfl hW8 zK_19 (by decide) (by decide)).trans ?_
        refine (k_iast t17_101 rfl hW8 (zOK_6_11 (zM_18_3 hW8).2) (zOL_6_11 (zM_18_3 hW8).2)).trans (z_ite (fun g12 => ?_) (fun _ => rfl))
        refine (k_aload_n t17_102 rfl rfl).trans ?_
        refine (k_getR t17_103 rfl hW8.sI zK_18 (by decide) (by decide) (zF_18_2 hW8.sI)).trans ?_
        refine k_callV (as := [.ref 19]) (rest := []) t17_106 rfl rfl (by decide) rfl rfl (Nat.le_of_ble_eq_true rfl) rfl (z_rcV hW8.sI (zK_19) (by decide)) (by decide) (by decide) hW8.sI (fun S14 hW14 => ?_)
        refine (k_aload_n t17_109 rfl rfl).trans ?_
        refine (k_getR t17_110 rfl hW14 zK_18 (by decide) (by decide) (zM_18_3 hW14).1).trans ?_
        refine (k_dupR t17_113 rfl).trans ?_
        refine (k_getI t17_114 rfl hW14 (zM_18_3 hW14).2 (by decide) (by decide)).trans ?_
        refine (k_iconst t17_117 rfl zci_1).trans ?_
        refine (k_iadd t17_118 rfl).trans ?_
        refine (k_putI t17_119 rfl hW14 (zM_18_3 hW14).2 (by decide) (by decide) (by decide)).trans ?_
        refine (k_iconst t17_122 rfl zci_1).trans ?_
        exact k_zretC t17_123 rfl (by decide) (by decide)
      · refine (k_aload_n t17_80 rfl rfl).trans ?_
        refine (k_iconst t17_81 rfl zci_4).trans ?_
        refine k_callI (as := [.ref 18, .int (4 : Int32)]) (rest := []) t17_82 rfl rfl (by decide) rfl rfl (Nat.le_of_ble_eq_true rfl) rfl (z_rcV hW8 (zK_18) (by decide)) (by decide) (Or.inr (by decide)) hW8 (fun v15 S16 hW16 => ?_)
        exact (k_zreturn t17_85 rfl (by decide)).trans (z_ite (fun _ => rfl) (fun _ => rfl))
    · refine (k_iconst t17_59 rfl zci_0).trans ?_
      exact k_zretC t17_60 rfl (by decide) (by decide)
  · refine (k_iconst t17_17 rfl zci_0).trans ?_
    exact k_zretC t17_18 rfl (by decide) (by decide)
theorem t18_0 : z_ft 18 0 = some (.aload_n 0, 1, none, [], 0, 0, 0, 0) := z_ftd (by decide +kernel)
theorem t18_1 : z_ft 18 1 = some (.getfield 21, 3, none, [], 1, 2, 25, 0) := z_ftd (by decide +kernel)
theorem t18_4 : z_ft 18 4 = some (.getfield 40, 3, none, [], 10, 4, 18, 0) := z_ftd (by decide +kernel)
theorem t18_7 : z_ft 18 7 = some (.iconst 1, 1, none, [], 0, 0, 0, 0) := z_ftd (by decide +kernel)
theorem t18_8 : z_ft 18 8 = some (.if_icmp .ne 14, 3, none, [], 22, 0, 0, 0) := z_ftd (by decide +kernel)
theorem t18_11 : z_ft 18 11 = some (.aload_n 0, 1, none, [], 0, 0, 0, 0) := z_ftd (by decide +kernel)
theorem t18_12 : z_ft 18 12 = some (.getfield 21, 3, none, [], 1, 2, 25, 0) := z_ftd (by decide +kernel)
theorem t18_15 : z_ft 18 15 = some (.getfield 72, 3, none, [], 10, 7, 21, 0) := z_ftd (by decide +kernel)
theorem t18_18 : z_ft 18 18 = some (.iconst (-1), 1, none, [], 0, 0, 0, 0) := z_ftd (by decide +kernel)
theorem t18_19 : z_ft 18 19 = some (.if_icmp .eq 8, 3, none, [], 27, 0, 0, 0) := z_ftd (by decide +kernel)
theorem t18_22 : z_ft 18 22 = some (.aload_n 0, 1, (some [0]), [], 0, 0, 0, 0) := z_ftd (by decide +kernel)
theorem t18_23 : z_ft 18 23 = some (.invokevirtual 57, 3, none, [], 9, 0, 32, 0) := z_ftd (by decide +kernel)
theorem t18_26 : z_ft 18 26 = some (.ireturn, 1, none, [], 0, 0, 0, 0) := z_ftd (by decide +kernel)
theorem t18_27 : z_ft 18 27 = some (.aload_n 0, 1, none, [], 0, 0, 0, 0) := z_ftd (by decide +kernel)
theorem t18_28 : z_ft 18 28 = some (.getfield 28, 3, none, [], 1, 3, 26, 0) := z_ftd (by decide +kernel)
theorem t18_31 : z_ft 18 31 = some (.aload_n 0, 1, none, [], 0, 0, 0, 0) := z_ftd (by decide +kernel)
theorem t18_32 : z_ft 18 32 = some (.getfield 21, 3, none, [], 1, 2, 25, 0) := z_ftd (by decide +kernel)
theorem t18_35 : z_ft 18 35 = some (.getfield 87, 3, none, [], 10, 6, 20, 0) := z_ftd (by decide +kernel)
theorem t18_38 : z_ft 18 38 = some (.invokevirtual 116, 3, none, [], 64, 0, 38, 0) := z_ftd (by decide +kernel)
theorem t18_41 : z_ft 18 41 = some (.istore_n 1, 1, none, [], 0, 0, 0, 0) := z_ftd (by decide +kernel)
theorem t18_42 : z_ft 18 42 = some (.iload_n 1, 1, none, [], 0, 0, 0, 0) := z_ftd (by decide +kernel)
theorem t18_43 : z_ft 18 43 = some (.iconst (-1), 1, none, [], 0, 0, 0, 0) := z_ftd (by decide +kernel)
theorem t18_44 : z_ft 18 44 = some (.if_icmp .eq 26, 3, none, [], 70, 0, 0, 0) := z_ftd (by decide +kernel)
theorem t18_47 : z_ft 18 47 = some (.aload_n 0, 1, none, [], 0, 0, 0, 0) := z_ftd (by decide +kernel)
theorem t18_48 : z_ft 18 48 = some (.getfield 28, 3, none, [], 1, 3, 26, 0) := z_ftd (by decide +kernel)
theorem t18_51 : z_ft 18 51 = some (.iload_n 1, 1, none, [], 0, 0, 0, 0) := z_ftd (by decide +kernel)
theorem t18_52 : z_ft 18 52 = some (.invokevirtual 135, 3, none, [], 65, 0, 42, 0) := z_ftd (by decide +kernel)
theorem t18_55 : z_ft 18 55 = some (.ifCond .ne 15, 3, none, [], 70, 0, 0, 0) := z_ftd (by decide +kernel)
theorem t18_58 : z_ft 18 58 = some (.aload_n 0, 1, none, [], 0, 0, 0, 0) := z_ftd (by decide +kernel)
theorem t18_59 : z_ft 18 59 = some (.getfield 28, 3, none, [], 1, 3, 26, 0) := z_ftd (by decide +kernel)
theorem t18_62 : z_ft 18 62 = some (.getfield 138, 3, none, [], 6, 7, 7, 0) := z_ftd (by decide +kernel)
theorem t18_65 : z_ft 18 65 = some (.bipush 16, 2, none, [], 0, 0, 0, 0) := z_ftd (by decide +kernel)
theorem t18_67 : z_ft 18 67 = some (.if_icmp .lt 9, 3, none, [], 76, 0, 0, 0) := z_ftd (by decide +kernel)
theorem t18_70 : z_ft 18 70 = some (.aload_n 0, 1, (some [0]), [], 0, 0, 0, 0) := z_ftd (by decide +kernel)
theorem t18_71 : z_ft 18 71 = some (.iconst 3, 1, none, [], 0, 0, 0, 0) := z_ftd (by decide +kernel)
theorem t18_72 : z_ft 18 72 = some (.invokevirtual 43, 3, none, [], 10, 0, 30, 0) := z_ftd (by decide +kernel)
theorem t18_75 : z_ft 18 75 = some (.ireturn, 1, none, [], 0, 0, 0, 0) := z_ftd (by decide +kernel)
theorem t18_76 : z_ft 18 76 = some (.aload_n 0, 1, none, [], 0, 0, 0, 0) := z_ftd (by decide +kernel)
theorem t18_77 : z_ft 18 77 = some (.getfield 28, 3, none, [], 1, 3, 26, 0) := z_ftd (by decide +kernel)
theorem t18_80 : z_ft 18 80 = some (.getfield 141, 3, none, [], 6, 12, 12, 0) := z_ftd (by decide +kernel)
theorem t18_83 : z_ft 18 83 = some (.aload_n 0, 1, none, [], 0, 0, 0, 0) := z_ftd (by decide +kernel)
theorem t18_84 : z_ft 18 84 = some (.getfield 28, 3, none, [], 1, 3, 26, 0) := z_ftd (by decide +kernel)
theorem t18_87 : z_ft 18 87 = some (.getfield 138, 3, none, [], 6, 7, 7, 0) := z_ftd (by decide +kernel)
theorem t18_90 : z_ft 18 90 = some (.iload_n 1, 1, none, [], 0, 0, 0, 0) := z_ftd (by decide +kernel)
theorem t18_91 : z_ft 18 91 = some (.iastore, 1, none, [], 0, 0, 0, 0) := z_ftd (by decide +kernel)
theorem t18_92 : z_ft 18 92 = some (.aload_n 0, 1, none, [], 0, 0, 0, 0) := z_ftd (by decide +kernel)
theorem t18_93 : z_ft 18 93 = some (.getfield 28, 3, none, [], 1, 3, 26, 0) := z_ftd (by decide +kernel)
theorem t18_96 : z_ft 18 96 = some (.dup, 1, none, [], 0, 0, 0, 0) := z_ftd (by decide +kernel)
theorem t18_97 : z_ft 18 97 = some (.getfield 138, 3, none, [], 6, 7, 7, 0) := z_ftd (by decide +kernel)
theorem t18_100 : z_ft 18 100 = some (.iconst 1, 1, none, [], 0, 0, 0, 0) := z_ftd (by decide +kernel)
theorem t18_101 : z_ft 18 101 = some (.iadd, 1, none, [], 0, 0, 0, 0) := z_ftd (by decide +kernel)
theorem t18_102 : z_ft 18 102 = some (.putfield 138, 3, none, [], 6, 7, 7, 0) := z_ftd (by decide +kernel)
theorem t18_105 : z_ft 18 105 = some (.aload_n 0, 1, none, [], 0, 0, 0, 0) := z_ftd (by decide +kernel)
theorem t18_106 : z_ft 18 106 = some (.getfield 21, 3, none, [], 1, 2, 25, 0) := z_ftd (by decide +kernel)
theorem t18_109 : z_ft 18 109 = some (.invokevirtual 69, 3, none, [], 98, 0, 33, 0) := z_ftd (by decide +kernel)
theorem t18_112 : z_ft 18 112 = some (.iconst 1, 1, none, [], 0, 0, 0, 0) := z_ftd (by decide +kernel)
theorem t18_113 : z_ft 18 113 = some (.ireturn, 1, none, [], 0, 0, 0, 0) := z_ftd (by decide +kernel)
noncomputable def b18_22 (d : Nat)  (S : z_S) : Option (Int32 × z_S) := zk kI z_X0 d 18 22 [.ref 18, z_j] [] S
noncomputable def b18_70 (d : Nat)  (S : z_S) : Option (Int32 × z_S) := zk kI z_X0 d 18 70 [.ref 18, z_j] [] S
theorem b18_22_eq (d : Nat)  (S : z_S) (hW : z_W S)  : b18_22 d  S = (zb (fI d 9 [.ref 18] S) fun v13 S14 => (if v13 = 0 ∨ v13 = 1 then some (v13, S14) else none)) := by
  unfold b18_22
  refine (k_aload_n t18_22 rfl rfl).trans ?_
  refine k_callI (as := [.ref 18]) (rest := []) t18_23 rfl rfl (by decide) rfl rfl (Nat.le_of_ble_eq_true rfl) rfl (z_rcV hW (zK_18) (by decide)) (by decide) (Or.inr (by decide)) hW (fun v13 S14 hW14 => ?_)
  exact (k_zreturn t18_26 rfl (by decide)).trans (z_ite (fun _ => rfl) (fun _ => rfl))
theorem b18_70_eq (d : Nat)  (S : z_S) (hW : z_W S)  : b18_70 d  S = (zb (fI d 10 [.ref 18, .int (3 : Int32)] S) fun v15 S16 => (if v15 = 0 ∨ v15 = 1 then some (v15, S16) else none)) := by
  unfold b18_70
  refine (k_aload_n t18_70 rfl rfl).trans ?_
  refine (k_iconst t18_71 rfl zci_3).trans ?_
  refine k_callI (as := [.ref 18, .int (3 : Int32)]) (rest := []) t18_72 rfl rfl (by decide) rfl rfl (Nat.le_of_ble_eq_true rfl) rfl (z_rcV hW (zK_18) (by decide)) (by decide) (Or.inr (by decide)) hW (fun v15 S16 hW16 => ?_)
  exact (k_zreturn t18_75 rfl (by decide)).trans (z_ite (fun _ => rfl) (fun _ => rfl))
-- X1_readComer
theorem e18 (d : Nat)  (S : z_S) (hW : z_W S)  : fI (d + 1) 18 [.ref 18] S = (if ¬ (gI S 19 4) = (1 : Int32) then b18_22 d S else (if (gI S 19 7) = (-1 : Int32) then (zb (fI d 64 [.ref (gP S 18 3), .int (gI S 19 6)] S) fun v3 S4 => (if v3 = (-1 : Int32) then b18_70 d S4 else (zb (fI d 65 [.ref (gP S4 18 3), .int v3] S4) fun v6 S7 => (if ¬ v6 = (0 : Int32) then b18_70 d S7 else (if (gI S7 (gP S7 18 3) 7) < (16 : Int32) then (if z_in (gI S7 (gP S7 18 3) 7) 16 then ((fV d 98 [.ref 19] (sI (sI S7 ((gP S7 18 3) + 4) ((gI S7 (gP S7 18 3) 7)).toNatClampNeg v3) (gP (sI S7 ((gP S7 18 3) + 4) ((gI S7 (gP S7 18 3) 7)).toNatClampNeg v3) 18 3) 7 ((gI (sI S7 ((gP S7 18 3) + 4) ((gI S7 (gP S7 18 3) 7)).toNatClampNeg v3) (gP (sI S7 ((gP S7 18 3) + 4) ((gI S7 (gP S7 18 3) 7)).toNatClampNeg v3) 18 3) 7) + (1 : Int32)))).bind fun S12 => some ((1 : Int32), S12)) else none) else b18_70 d S7))))) else b18_22 d S)) := by
  refine (fI_en (Nat.le_of_ble_eq_true rfl) rfl).trans ?_
  refine (k_aload_n t18_0 rfl rfl).trans ?_
  refine (k_getR t18_1 rfl hW zK_18 (by decide) (by decide) (zF_18_2 hW)).trans ?_
  refine (k_getI t18_4 rfl hW zK_19 (by decide) (by decide)).trans ?_
  refine (k_iconst t18_7 rfl zci_1).trans ?_
  refine (k_icmp_ne t18_8 rfl).trans (z_ite (fun g1 => ?_) (fun g1 => ?_))
  · exact (zk_mk (ls' := [.ref 18, z_j]) t18_22 rfl)
  · refine (k_aload_n t18_11 rfl rfl).trans ?_
    refine (k_getR t18_12 rfl hW zK_18 (by decide) (by decide) (zF_18_2 hW)).trans ?_
    refine (k_getI t18_15 rfl hW zK_19 (by decide) (by decide)).trans ?_
    refine (k_iconst t18_18 rfl zci_m1).trans ?_
    refine (k_icmp_eq t18_19 rfl).trans (z_ite (fun g2 => ?_) (fun g2 => ?_))
    · refine (k_aload_n t18_27 rfl rfl).trans ?_
      refine (k_getR t18_28 rfl hW zK_18 (by decide) (by decide) (zM_18_3 hW).1).trans ?_
      refine (k_aload_n t18_31 rfl rfl).trans ?_
      refine (k_getR t18_32 rfl hW zK_18 (by decide) (by decide) (zF_18_2 hW)).trans ?_
      refine (k_getI t18_35 rfl hW zK_19 (by decide) (by decide)).trans ?_
      refine k_callI (as := [.ref (gP S 18 3), .int (gI S 19 6)]) (rest := []) t18_38 rfl rfl (by decide) rfl rfl (Nat.le_of_ble_eq_true rfl) rfl (z_rcV hW ((zM_18_3 hW).2) (by decide)) (by decide) (Or.inl (by decide)) hW (fun v3 S4 hW4 => ?_)
      refine (k_istore_n (ls' := [.ref 18, .int v3]) t18_41 rfl rfl).trans ?_
      refine (k_iload_n t18_42 rfl rfl).trans ?_
      refine (k_iconst t18_43 rfl zci_m1).trans ?_
      refine (k_icmp_eq t18_44 rfl).trans (z_ite (fun g5 => ?_) (fun g5 => ?_))
      · exact (zk_mk (ls' := [.ref 18, z_j]) t18_70 rfl)
      · refine (k_aload_n t18_47 rfl rfl).trans ?_
        refine (k_getR t18_48 rfl hW4 zK_18 (by decide) (by decide) (zM_18_3 hW4).1).trans ?_
        refine (k_iload_n t18_51 rfl rfl).trans ?_
        refine k_callI (as := [.ref (gP S4 18 3), .int v3]) (rest := []) t18_52 rfl rfl (by decide) rfl rfl (Nat.le_of_ble_eq_true rfl) rfl (z_rcV hW4 ((zM_18_3 hW4).2) (by decide)) (by decide) (Or.inr (by decide)) hW4 (fun v6 S7 hW7 => ?_)
        refine (k_if_ne t18_55 rfl).trans (z_ite (fun g8 => ?_) (fun g8 => ?_))
        · exact (zk_mk (ls' := [.ref 18, z_j]) t18_70 rfl)
        · refine (k_aload_n t18_58 rfl rfl).trans ?_
          refine (k_getR t18_59 rfl hW7 zK_18 (by decide) (by decide) (zM_18_3 hW7).1).trans ?_
          refine (k_getI t18_62 rfl hW7 (zM_18_3 hW7).2 (by decide) (by decide)).trans ?_
          refine (k_bipush t18_65 rfl zcb_16).trans ?_
          refine (k_icmp_lt t18_67 rfl).trans (z_ite (fun g9 => ?_) (fun g9 => ?_))
          · refine (k_aload_n t18_76 rfl rfl).trans ?_
            refine (k_getR t18_77 rfl hW7 zK_18 (by decide) (by decide) (zM_18_3 hW7).1).trans ?_
            refine (k_getR t18_80 rfl hW7 (zM_18_3 hW7).2 (by decide) (by decide) (zO_6_12 hW7 (zM_18_3 hW7).2)).trans ?_
            refine (k_aload_n t18_83 rfl rfl).trans ?_
            refine (k_getR t18_84 rfl hW7 zK_18 (by decide) (by decide) (zM_18_3 hW7).1).trans ?_
            refine (k_getI t18_87 rfl hW7 (zM_18_3 hW7).2 (by decide) (by decide)).trans ?_
            refine (k_iload_n t18_90 rfl rfl).trans ?_
            refine (k_iast t18_91 rfl hW7 (zOK_6_12 (zM_18_3 hW7).2) (zOL_6_12 (zM_18_3 hW7).2)).trans (z_ite (fun g10 => ?_) (fun _ => rfl))
            refine (k_aload_n t18_92 rfl rfl).trans ?_
            refine (k_getR t18_93 rfl hW7.sI zK_18 (by decide) (by decide) (zM_18_3 hW7.sI).1).trans ?_
            refine (k_dupR t18_96 rfl).trans ?_
            refine (k_getI t18_97 rfl hW7.sI (zM_18_3 hW7.sI).2 (by decide) (by decide)).trans ?_
            refine (k_iconst t18_100 rfl zci_1).trans ?_
            refine (k_iadd t18_101 rfl).trans ?_
            refine (k_putI t18_102 rfl hW7.sI (zM_18_3 hW7.sI).2 (by decide) (by decide) (by decide)).trans ?_
            refine (k_aload_n t18_105 rfl rfl).trans ?_
            refine (k_getR t18_106 rfl hW7.sI.sI zK_18 (by decide) (by decide) (zF_18_2 hW7.sI.sI)).trans ?_
            refine k_callV (as := [.ref 19]) (rest := []) t18_109 rfl rfl (by decide) rfl rfl (Nat.le_of_ble_eq_true rfl) rfl (z_rcV hW7.sI.sI (zK_19) (by decide)) (by decide) (by decide) hW7.sI.sI (fun S12 hW12 => ?_)
            refine (k_iconst t18_112 rfl zci_1).trans ?_
            exact k_zretC t18_113 rfl (by decide) (by decide)
          · exact (zk_mk (ls' := [.ref 18, z_j]) t18_70 rfl)
    · exact (zk_mk (ls' := [.ref 18, z_j]) t18_22 rfl)
theorem t19_0 : z_ft 19 0 = some (.aload_n 0, 1, none, [], 0, 0, 0, 0) := z_ftd (by decide +kernel)
theorem t19_1 : z_ft 19 1 = some (.getfield 28, 3, none, [], 1, 3, 26, 0) := z_ftd (by decide +kernel)
theorem t19_4 : z_ft 19 4 = some (.iload_n 1, 1, none, [], 0, 0, 0, 0) := z_ftd (by decide +kernel)
theorem t19_5 : z_ft 19 5 = some (.invokevirtual 144, 3, none, [], 60, 0, 44, 0) := z_ftd (by decide +kernel)
theorem t19_8 : z_ft 19 8 = some (.ifCond .eq 10, 3, none, [], 18, 0, 0, 0) := z_ftd (by decide +kernel)
theorem t19_11 : z_ft 19 11 = some (.aload_n 0, 1, none, [], 0, 0, 0, 0) := z_ftd (by decide +kernel)
theorem t19_12 : z_ft 19 12 = some (.bipush 6, 2, none, [], 0, 0, 0, 0) := z_ftd (by decide +kernel)
theorem t19_14 : z_ft 19 14 = some (.invokevirtual 43, 3, none, [], 10, 0, 30, 0) := z_ftd (by decide +kernel)
theorem t19_17 : z_ft 19 17 = some (.ireturn, 1, none, [], 0, 0, 0, 0) := z_ftd (by decide +kernel)
theorem t19_18 : z_ft 19 18 = some (.aload_n 0, 1, none, [], 0, 0, 0, 0) := z_ftd (by decide +kernel)
theorem t19_19 : z_ft 19 19 = some (.iload_n 1, 1, none, [], 0, 0, 0, 0) := z_ftd (by decide +kernel)
theorem t19_20 : z_ft 19 20 = some (.putfield 25, 3, none, [], 1, 4, 27, 0) := z_ftd (by decide +kernel)
theorem t19_23 : z_ft 19 23 = some (.aload_n 0, 1, none, [], 0, 0, 0, 0) := z_ftd (by decide +kernel)
theorem t19_24 : z_ft 19 24 = some (.getfield 21, 3, none, [], 1, 2, 25, 0) := z_ftd (by decide +kernel)
theorem t19_27 : z_ft 19 27 = some (.invokevirtual 69, 3, none, [], 98, 0, 33, 0) := z_ftd (by decide +kernel)
theorem t19_30 : z_ft 19 30 = some (.aload_n 0, 1, none, [], 0, 0, 0, 0) := z_ftd (by decide +kernel)
theorem t19_31 : z_ft 19 31 = some (.getfield 28, 3, none, [], 1, 3, 26, 0) := z_ftd (by decide +kernel)
theorem t19_34 : z_ft 19 34 = some (.getfield 147, 3, none, [], 6, 8, 8, 0) := z_ftd (by decide +kernel)
theorem t19_37 : z_ft 19 37 = some (.istore_n 2, 1, none, [], 0, 0, 0, 0) := z_ftd (by decide +kernel)
theorem t19_38 : z_ft 19 38 = some (.iload_n 1, 1, none, [], 0, 0, 0, 0) := z_ftd (by decide +kernel)
theorem t19_39 : z_ft 19 39 = some (.iconst 2, 1, none, [], 0, 0, 0, 0) := z_ftd (by decide +kernel)
theorem t19_40 : z_ft 19 40 = some (.if_icmp .ne 14, 3, none, [], 54, 0, 0, 0) := z_ftd (by decide +kernel)
theorem t19_43 : z_ft 19 43 = some (.aload_n 0, 1, none, [], 0, 0, 0, 0) := z_ftd (by decide +kernel)
theorem t19_44 : z_ft 19 44 = some (.iconst 0, 1, none, [], 0, 0, 0, 0) := z_ftd (by decide +kernel)
theorem t19_45 : z_ft 19 45 = some (.invokevirtual 150, 3, none, [], 25, 0, 45, 0) := z_ftd (by decide +kernel)
theorem t19_48 : z_ft 19 48 = some (.ifCond .ne 16, 3, none, [], 64, 0, 0, 0) := z_ftd (by decide +kernel)
theorem t19_51 : z_ft 19 51 = some (.goto 11, 3, none, [], 62, 0, 0, 0) := z_ftd (by decide +kernel)
theorem t19_54 : z_ft 19 54 = some (.aload_n 0, 1, none, [], 0, 0, 0, 0) := z_ftd (by decide +kernel)
theorem t19_55 : z_ft 19 55 = some (.iconst 0, 1, none, [], 0, 0, 0, 0) := z_ftd (by decide +kernel)
theorem t19_56 : z_ft 19 56 = some (.invokevirtual 153, 3, none, [], 20, 0, 54, 0) := z_ftd (by decide +kernel)
theorem t19_59 : z_ft 19 59 = some (.ifCond .ne 5, 3, none, [], 64, 0, 0, 0) := z_ftd (by decide +kernel)
theorem t19_62 : z_ft 19 62 = some (.iconst 0, 1, (some []), [], 0, 0, 0, 0) := z_ftd (by decide +kernel)
theorem t19_63 : z_ft 19 63 = some (.ireturn, 1, none, [], 0, 0, 0, 0) := z_ftd (by decide +kernel)
theorem t19_64 : z_ft 19 64 = some (.aload_n 0, 1, (some [0, 1, 2]), [], 0, 0, 0, 0) := z_ftd (by decide +kernel)
theorem t19_65 : z_ft 19 65 = some (.getfield 28, 3, none, [], 1, 3, 26, 0) := z_ftd (by decide +kernel)
theorem t19_68 : z_ft 19 68 = some (.getfield 156, 3, none, [], 6, 14, 13, 0) := z_ftd (by decide +kernel)
theorem t19_71 : z_ft 19 71 = some (.iload_n 1, 1, none, [], 0, 0, 0, 0) := z_ftd (by decide +kernel)
theorem t19_72 : z_ft 19 72 = some (.iload_n 2, 1, none, [], 0, 0, 0, 0) := z_ftd (by decide +kernel)
theorem t19_73 : z_ft 19 73 = some (.iastore, 1, none, [], 0, 0, 0, 0) := z_ftd (by decide +kernel)
theorem t19_74 : z_ft 19 74 = some (.aload_n 0, 1, none, [], 0, 0, 0, 0) := z_ftd (by decide +kernel)
theorem t19_75 : z_ft 19 75 = some (.getfield 28, 3, none, [], 1, 3, 26, 0) := z_ftd (by decide +kernel)
theorem t19_78 : z_ft 19 78 = some (.getfield 159, 3, none, [], 6, 15, 14, 0) := z_ftd (by decide +kernel)
theorem t19_81 : z_ft 19 81 = some (.iload_n 1, 1, none, [], 0, 0, 0, 0) := z_ftd (by decide +kernel)
theorem t19_82 : z_ft 19 82 = some (.aload_n 0, 1, none, [], 0, 0, 0, 0) := z_ftd (by decide +kernel)
theorem t19_83 : z_ft 19 83 = some (.getfield 28, 3, none, [], 1, 3, 26, 0) := z_ftd (by decide +kernel)
theorem t19_86 : z_ft 19 86 = some (.getfield 147, 3, none, [], 6, 8, 8, 0) := z_ftd (by decide +kernel)
theorem t19_89 : z_ft 19 89 = some (.iastore, 1, none, [], 0, 0, 0, 0) := z_ftd (by decide +kernel)
theorem t19_90 : z_ft 19 90 = some (.iconst 1, 1, none, [], 0, 0, 0, 0) := z_ftd (by decide +kernel)
theorem t19_91 : z_ft 19 91 = some (.ireturn, 1, none, [], 0, 0, 0, 0) := z_ftd (by decide +kernel)
noncomputable def b19_64 (d : Nat) (y1 : Int32) (y2 : Int32) (S : z_S) : Option (Int32 × z_S) := zk kI z_X0 d 19 64 [.ref 18, .int y1, .int y2] [] S
theorem b19_64_eq (d : Nat) (y1 : Int32) (y2 : Int32) (S : z_S) (hW : z_W S)  : b19_64 d y1 y2 S = (if z_in y1 3 then (if z_in y1 3 then some ((1 : Int32), sI (sI S ((gP S 18 3) + 6) (y1).toNatClampNeg y2) ((gP (sI S ((gP S 18 3) + 6) (y1).toNatClampNeg y2) 18 3) + 7) (y1).toNatClampNeg (gI (sI S ((gP S 18 3) + 6) (y1).toNatClampNeg y2) (gP (sI S ((gP S 18 3) + 6) (y1).toNatClampNeg y2) 18 3) 8)) else none) else none) := by
  unfold b19_64
  refine (k_aload_n t19_64 rfl rfl).trans ?_
  refine (k_getR t19_65 rfl hW zK_18 (by decide) (by decide) (zM_18_3 hW).1).trans ?_
  refine (k_getR t19_68 rfl hW (zM_18_3 hW).2 (by decide) (by decide) (zO_6_14 hW (zM_18_3 hW).2)).trans ?_
  refine (k_iload_n t19_71 rfl rfl).trans ?_
  refine (k_iload_n t19_72 rfl rfl).trans ?_
  refine (k_iast t19_73 rfl hW (zOK_6_14 (zM_18_3 hW).2) (zOL_6_14 (zM_18_3 hW).2)).trans (z_ite (fun g15 => ?_) (fun _ => rfl))
  refine (k_aload_n t19_74 rfl rfl).trans ?_
  refine (k_getR t19_75 rfl hW.sI zK_18 (by decide) (by decide) (zM_18_3 hW.sI).1).trans ?_
  refine (k_getR t19_78 rfl hW.sI (zM_18_3 hW.sI).2 (by decide) (by decide) (zO_6_15 hW.sI (zM_18_3 hW.sI).2)).trans ?_
  refine (k_iload_n t19_81 rfl rfl).trans ?_
  refine (k_aload_n t19_82 rfl rfl).trans ?_
  refine (k_getR t19_83 rfl hW.sI zK_18 (by decide) (by decide) (zM_18_3 hW.sI).1).trans ?_
  refine (k_getI t19_86 rfl hW.sI (zM_18_3 hW.sI).2 (by decide) (by decide)).trans ?_
  refine (k_iast t19_89 rfl hW.sI (zOK_6_15 (zM_18_3 hW.sI).2) (zOL_6_15 (zM_18_3 hW.sI).2)).trans (z_ite (fun g16 => ?_) (fun _ => rfl))
  refine (k_iconst t19_90 rfl zci_1).trans ?_
  exact k_zretC t19_91 rfl (by decide) (by decide)
-- X1_readFormula
theorem e19 (d : Nat) (x1 : Int32) (S : z_S) (hW : z_W S)  : fI (d + 1) 19 [.ref 18, .int x1] S = (zb (fI d 60 [.ref (gP S 18 3), .int x1] S) fun v1 S2 => (if v1 = (0 : Int32) then ((fV d 98 [.ref 19] (sI S2 18 4 x1)).bind fun S5 => (if ¬ x1 = (2 : Int32) then (zb (fI d 20 [.ref 18, .int (0 : Int32)] S5) fun v7 S8 => (if ¬ v7 = (0 : Int32) then b19_64 d x1 (gI S5 (gP S5 18 3) 8) S8 else some ((0 : Int32), S8))) else (zb (fI d 25 [.ref 18, .int (0 : Int32)] S5) fun v10 S11 => (if ¬ v10 = (0 : Int32) then b19_64 d x1 (gI S5 (gP S5 18 3) 8) S11 else some ((0 : Int32), S11))))) else (zb (fI d 10 [.ref 18, .int (6 : Int32)] S2) fun v13 S14 => (if v13 = 0 ∨ v13 = 1 then some (v13, S14) else none)))) := by
  refine (fI_en (Nat.le_of_ble_eq_true rfl) rfl).trans ?_
  refine (k_aload_n t19_0 rfl rfl).trans ?_
  refine (k_getR t19_1 rfl hW zK_18 (by decide) (by decide) (zM_18_3 hW).1).trans ?_
  refine (k_iload_n t19_4 rfl rfl).trans ?_
  refine k_callI (as := [.ref (gP S 18 3), .int x1]) (rest := []) t19_5 rfl rfl (by decide) rfl rfl (Nat.le_of_ble_eq_true rfl) rfl (z_rcV hW ((zM_18_3 hW).2) (by decide)) (by decide) (Or.inr (by decide)) hW (fun v1 S2 hW2 => ?_)
  refine (k_if_eq t19_8 rfl).trans (z_ite (fun g3 => ?_) (fun g3 => ?_))
  · refine (k_aload_n t19_18 rfl rfl).trans ?_
    refine (k_iload_n t19_19 rfl rfl).trans ?_
    refine (k_putI t19_20 rfl hW2 zK_18 (by decide) (by decide) (by decide)).trans ?_
    refine (k_aload_n t19_23 rfl rfl).trans ?_
    refine (k_getR t19_24 rfl hW2.sI zK_18 (by decide) (by decide) (zF_18_2 hW2.sI)).trans ?_
    refine k_callV (as := [.ref 19]) (rest := []) t19_27 rfl rfl (by decide) rfl rfl (Nat.le_of_ble_eq_true rfl) rfl (z_rcV hW2.sI (zK_19) (by decide)) (by decide) (by decide) hW2.sI (fun S5 hW5 => ?_)
    refine (k_aload_n t19_30 rfl rfl).trans ?_
    refine (k_getR t19_31 rfl hW5 zK_18 (by decide) (by decide) (zM_18_3 hW5).1).trans ?_
    refine (k_getI t19_34 rfl hW5 (zM_18_3 hW5).2 (by decide) (by decide)).trans ?_
    refine (k_istore_n (ls' := [.ref 18, .int x1, .int (gI S5 (gP S5 18 3) 8)]) t19_37 rfl rfl).trans ?_
    refine (k_iload_n t19_38 rfl rfl).trans ?_
    refine (k_iconst t19_39 rfl zci_2).trans ?_
    refine (k_icmp_ne t19_40 rfl).trans (z_ite (fun g6 => ?_) (fun g6 => ?_))
    · refine (k_aload_n t19_54 rfl rfl).trans ?_
      refine (k_iconst t19_55 rfl zci_0).trans ?_
      refine k_callI (as := [.ref 18, .int (0 : Int32)]) (rest := []) t19_56 rfl rfl (by decide) rfl rfl (Nat.le_of_ble_eq_true rfl) rfl (z_rcV hW5 (zK_18) (by decide)) (by decide) (Or.inr (by decide)) hW5 (fun v7 S8 hW8 => ?_)
      refine (k_if_ne t19_59 rfl).trans (z_ite (fun g9 => ?_) (fun g9 => ?_))
      · exact (zk_mk (ls' := [.ref 18, .int x1, .int (gI S5 (gP S5 18 3) 8)]) t19_64 rfl)
      · refine (zk_mk (ls' := [z_j, z_j, z_j]) t19_62 rfl).trans ?_
        refine (k_iconst t19_62 rfl zci_0).trans ?_
        exact k_zretC t19_63 rfl (by decide) (by decide)
    · refine (k_aload_n t19_43 rfl rfl).trans ?_
      refine (k_iconst t19_44 rfl zci_0).trans ?_
      refine k_callI (as := [.ref 18, .int (0 : Int32)]) (rest := []) t19_45 rfl rfl (by decide) rfl rfl (Nat.le_of_ble_eq_true rfl) rfl (z_rcV hW5 (zK_18) (by decide)) (by decide) (Or.inr (by decide)) hW5 (fun v10 S11 hW11 => ?_)
      refine (k_if_ne t19_48 rfl).trans (z_ite (fun g12 => ?_) (fun g12 => ?_))
      · exact (zk_mk (ls' := [.ref 18, .int x1, .int (gI S5 (gP S5 18 3) 8)]) t19_64 rfl)
      · refine (k_goto t19_51 rfl).trans ?_
        refine (zk_mk (ls' := [z_j, z_j, z_j]) t19_62 rfl).trans ?_
        refine (k_iconst t19_62 rfl zci_0).trans ?_
        exact k_zretC t19_63 rfl (by decide) (by decide)
  · refine (k_aload_n t19_11 rfl rfl).trans ?_
    refine (k_bipush t19_12 rfl zcb_6).trans ?_
    refine k_callI (as := [.ref 18, .int (6 : Int32)]) (rest := []) t19_14 rfl rfl (by decide) rfl rfl (Nat.le_of_ble_eq_true rfl) rfl (z_rcV hW2 (zK_18) (by decide)) (by decide) (Or.inr (by decide)) hW2 (fun v13 S14 hW14 => ?_)
    exact (k_zreturn t19_17 rfl (by decide)).trans (z_ite (fun _ => rfl) (fun _ => rfl))
theorem t20_0 : z_ft 20 0 = some (.aload_n 0, 1, none, [], 0, 0, 0, 0) := z_ftd (by decide +kernel)
theorem t20_1 : z_ft 20 1 = some (.iload_n 1, 1, none, [], 0, 0, 0, 0) := z_ftd (by decide +kernel)
theorem t20_2 : z_ft 20 2 = some (.invokevirtual 162, 3, none, [], 21, 0, 55, 0) := z_ftd (by decide +kernel)
theorem t20_5 : z_ft 20 5 = some (.ifCond .ne 5, 3, none, [], 10, 0, 0, 0) := z_ftd (by decide +kernel)
theorem t20_8 : z_ft 20 8 = some (.iconst 0, 1, none, [], 0, 0, 0, 0) := z_ftd (by decide +kernel)
theorem t20_9 : z_ft 20 9 = some (.ireturn, 1, none, [], 0, 0, 0, 0) := z_ftd (by decide +kernel)
theorem t20_10 : z_ft 20 10 = some (.iconst 0, 1, none, [], 0, 0, 0, 0) := z_ftd (by decide +kernel)
theorem t20_11 : z_ft 20 11 = some (.istore_n 2, 1, none, [], 0, 0, 0, 0) := z_ftd (by decide +kernel)
theorem t20_12 : z_ft 20 12 = some (.iload_n 2, 1, (some [0, 1, 2]), [], 0, 0, 0, 0) := z_ftd (by decide +kernel)
theorem t20_13 : z_ft 20 13 = some (.sipush 1600, 3, none, [], 0, 0, 0, 0) := z_ftd (by decide +kernel)
theorem t20_16 : z_ft 20 16 = some (.if_icmp .ge 47, 3, none, [], 63, 0, 0, 0) := z_ftd (by decide +kernel)
theorem t20_19 : z_ft 20 19 = some (.aload_n 0, 1, none, [], 0, 0, 0, 0) := z_ftd (by decide +kernel)
theorem t20_20 : z_ft 20 20 = some (.getfield 21, 3, none, [], 1, 2, 25, 0) := z_ftd (by decide +kernel)
theorem t20_23 : z_ft 20 23 = some (.bipush 18, 2, none, [], 0, 0, 0, 0) := z_ftd (by decide +kernel)
theorem t20_25 : z_ft 20 25 = some (.invokevirtual 123, 3, none, [], 103, 0, 39, 0) := z_ftd (by decide +kernel)
theorem t20_28 : z_ft 20 28 = some (.ifCond .eq 35, 3, none, [], 63, 0, 0, 0) := z_ftd (by decide +kernel)
theorem t20_31 : z_ft 20 31 = some (.aload_n 0, 1, none, [], 0, 0, 0, 0) := z_ftd (by decide +kernel)
theorem t20_32 : z_ft 20 32 = some (.getfield 21, 3, none, [], 1, 2, 25, 0) := z_ftd (by decide +kernel)
theorem t20_35 : z_ft 20 35 = some (.invokevirtual 69, 3, none, [], 98, 0, 33, 0) := z_ftd (by decide +kernel)
theorem t20_38 : z_ft 20 38 = some (.aload_n 0, 1, none, [], 0, 0, 0, 0) := z_ftd (by decide +kernel)
theorem t20_39 : z_ft 20 39 = some (.iload_n 1, 1, none, [], 0, 0, 0, 0) := z_ftd (by decide +kernel)
theorem t20_40 : z_ft 20 40 = some (.invokevirtual 162, 3, none, [], 21, 0, 55, 0) := z_ftd (by decide +kernel)
theorem t20_43 : z_ft 20 43 = some (.ifCond .ne 5, 3, none, [], 48, 0, 0, 0) := z_ftd (by decide +kernel)
theorem t20_46 : z_ft 20 46 = some (.iconst 0, 1, none, [], 0, 0, 0, 0) := z_ftd (by decide +kernel)
theorem t20_47 : z_ft 20 47 = some (.ireturn, 1, none, [], 0, 0, 0, 0) := z_ftd (by decide +kernel)
theorem t20_48 : z_ft 20 48 = some (.aload_n 0, 1, none, [], 0, 0, 0, 0) := z_ftd (by decide +kernel)
theorem t20_49 : z_ft 20 49 = some (.getfield 28, 3, none, [], 1, 3, 26, 0) := z_ftd (by decide +kernel)
theorem t20_52 : z_ft 20 52 = some (.bipush (-17), 2, none, [], 0, 0, 0, 0) := z_ftd (by decide +kernel)
theorem t20_54 : z_ft 20 54 = some (.invokevirtual 165, 3, none, [], 66, 0, 52, 0) := z_ftd (by decide +kernel)
theorem t20_57 : z_ft 20 57 = some (.iinc 2 1, 3, none, [], 0, 0, 0, 0) := z_ftd (by decide +kernel)
theorem t20_60 : z_ft 20 60 = some (.goto (-48), 3, none, [], 12, 0, 0, 0) := z_ftd (by decide +kernel)
theorem t20_63 : z_ft 20 63 = some (.iconst 1, 1, (some []), [], 0, 0, 0, 0) := z_ftd (by decide +kernel)
theorem t20_64 : z_ft 20 64 = some (.ireturn, 1, none, [], 0, 0, 0, 0) := z_ftd (by decide +kernel)
noncomputable def b20_12 (d : Nat) (y1 : Int32) (y2 : Int32) (S : z_S) : Option (Int32 × z_S) := zk kI z_X0 d 20 12 [.ref 18, .int y1, .int y2] [] S
theorem b20_12_eq (d : Nat) (y1 : Int32) (y2 : Int32) (S : z_S) (hW : z_W S)  : b20_12 d y1 y2 S = (if (1600 : Int32) ≤ y2 then some ((1 : Int32), S) else (zb (fI d 103 [.ref 19, .int (18 : Int32)] S) fun v5 S6 => (if v5 = (0 : Int32) then some ((1 : Int32), S6) else ((fV d 98 [.ref 19] S6).bind fun S9 => (zb (fI d 21 [.ref 18, .int y1] S9) fun v10 S11 => (if ¬ v10 = (0 : Int32) then ((fV d 66 [.ref (gP S11 18 3), .int (-17 : Int32)] S11).bind fun S14 => b20_12 d y1 (y2 + (1 : Int32)) S14) else some ((0 : Int32), S11))))))) := by
  unfold b20_12
  refine (k_iload_n t20_12 rfl rfl).trans ?_
  refine (k_sipush t20_13 rfl zcs_1600).trans ?_
  refine (k_icmp_ge t20_16 rfl).trans (z_ite (fun g4 => ?_) (fun g4 => ?_))
  · refine (zk_mk (ls' := [z_j, z_j, z_j]) t20_63 rfl).trans ?_
    refine (k_iconst t20_63 rfl zci_1).trans ?_
    exact k_zretC t20_64 rfl (by decide) (by decide)
  · refine (k_aload_n t20_19 rfl rfl).trans ?_
    refine (k_getR t20_20 rfl hW zK_18 (by decide) (by decide) (zF_18_2 hW)).trans ?_
    refine (k_bipush t20_23 rfl zcb_18).trans ?_
    refine k_callI (as := [.ref 19, .int (18 : Int32)]) (rest := []) t20_25 rfl rfl (by decide) rfl rfl (Nat.le_of_ble_eq_true rfl) rfl (z_rcV hW (zK_19) (by decide)) (by decide) (Or.inr (by decide)) hW (fun v5 S6 hW6 => ?_)
    refine (k_if_eq t20_28 rfl).trans (z_ite (fun g7 => ?_) (fun g7 => ?_))
    · refine (zk_mk (ls' := [z_j, z_j, z_j]) t20_63 rfl).trans ?_
      refine (k_iconst t20_63 rfl zci_1).trans ?_
      exact k_zretC t20_64 rfl (by decide) (by decide)
    · refine (k_aload_n t20_31 rfl rfl).trans ?_
      refine (k_getR t20_32 rfl hW6 zK_18 (by decide) (by decide) (zF_18_2 hW6)).trans ?_
      refine k_callV (as := [.ref 19]) (rest := []) t20_35 rfl rfl (by decide) rfl rfl (Nat.le_of_ble_eq_true rfl) rfl (z_rcV hW6 (zK_19) (by decide)) (by decide) (by decide) hW6 (fun S9 hW9 => ?_)
      refine (k_aload_n t20_38 rfl rfl).trans ?_
      refine (k_iload_n t20_39 rfl rfl).trans ?_
      refine k_callI (as := [.ref 18, .int y1]) (rest := []) t20_40 rfl rfl (by decide) rfl rfl (Nat.le_of_ble_eq_true rfl) rfl (z_rcV hW9 (zK_18) (by decide)) (by decide) (Or.inr (by decide)) hW9 (fun v10 S11 hW11 => ?_)
      refine (k_if_ne t20_43 rfl).trans (z_ite (fun g12 => ?_) (fun g12 => ?_))
      · refine (k_aload_n t20_48 rfl rfl).trans ?_
        refine (k_getR t20_49 rfl hW11 zK_18 (by decide) (by decide) (zM_18_3 hW11).1).trans ?_
        refine (k_bipush t20_52 rfl zcb_m17).trans ?_
        refine k_callV (as := [.ref (gP S11 18 3), .int (-17 : Int32)]) (rest := []) t20_54 rfl rfl (by decide) rfl rfl (Nat.le_of_ble_eq_true rfl) rfl (z_rcV hW11 ((zM_18_3 hW11).2) (by decide)) (by decide) (by decide) hW11 (fun S14 hW14 => ?_)
        refine (k_iinc (b := (y2 + (1 : Int32))) (ls' := [.ref 18, .int y1, .int (y2 + (1 : Int32))]) t20_57 rfl rfl (by rw [zci_1]) rfl).trans ?_
        refine (k_goto t20_60 rfl).trans ?_
        exact (zk_mk (ls' := [.ref 18, .int y1, .int (y2 + (1 : Int32))]) t20_12 rfl)
      · refine (k_iconst t20_46 rfl zci_0).trans ?_
        exact k_zretC t20_47 rfl (by decide) (by decide)
-- X1_readTest
theorem e20 (d : Nat) (x1 : Int32) (S : z_S) (hW : z_W S)  : fI (d + 1) 20 [.ref 18, .int x1] S = (zb (fI d 21 [.ref 18, .int x1] S) fun v1 S2 => (if ¬ v1 = (0 : Int32) then b20_12 d x1 (0 : Int32) S2 else some ((0 : Int32), S2))) := by
  refine (fI_en (Nat.le_of_ble_eq_true rfl) rfl).trans ?_
  refine (k_aload_n t20_0 rfl rfl).trans ?_
  refine (k_iload_n t20_1 rfl rfl).trans ?_
  refine k_callI (as := [.ref 18, .int x1]) (rest := []) t20_2 rfl rfl (by decide) rfl rfl (Nat.le_of_ble_eq_true rfl) rfl (z_rcV hW (zK_18) (by decide)) (by decide) (Or.inr (by decide)) hW (fun v1 S2 hW2 => ?_)
  refine (k_if_ne t20_5 rfl).trans (z_ite (fun g3 => ?_) (fun g3 => ?_))
  · refine (k_iconst t20_10 rfl zci_0).trans ?_
    refine (k_istore_n (ls' := [.ref 18, .int x1, .int (0 : Int32)]) t20_11 rfl rfl).trans ?_
    exact (zk_mk (ls' := [.ref 18, .int x1, .int (0 : Int32)]) t20_12 rfl)
  · refine (k_iconst t20_8 rfl zci_0).trans ?_
    exact k_zretC t20_9 rfl (by decide) (by decide)
theorem t21_0 : z_ft 21 0 = some (.aload_n 0, 1, none, [], 0, 0, 0, 0) := z_ftd (by decide +kernel)
theorem t21_1 : z_ft 21 1 = some (.iload_n 1, 1, none, [], 0, 0, 0, 0) := z_ftd (by decide +kernel)
theorem t21_2 : z_ft 21 2 = some (.invokevirtual 169, 3, none, [], 22, 0, 56, 0) := z_ftd (by decide +kernel)
theorem t21_5 : z_ft 21 5 = some (.ifCond .ne 5, 3, none, [], 10, 0, 0, 0) := z_ftd (by decide +kernel)
theorem t21_8 : z_ft 21 8 = some (.iconst 0, 1, none, [], 0, 0, 0, 0) := z_ftd (by decide +kernel)
theorem t21_9 : z_ft 21 9 = some (.ireturn, 1, none, [], 0, 0, 0, 0) := z_ftd (by decide +kernel)
theorem t21_10 : z_ft 21 10 = some (.iconst 0, 1, none, [], 0, 0, 0, 0) := z_ftd (by decide +kernel)
theorem t21_11 : z_ft 21 11 = some (.istore_n 2, 1, none, [], 0, 0, 0, 0) := z_ftd (by decide +kernel)
theorem t21_12 : z_ft 21 12 = some (.iload_n 2, 1, (some [0, 1, 2]), [], 0, 0, 0, 0) := z_ftd (by decide +kernel)
theorem t21_13 : z_ft 21 13 = some (.sipush 1600, 3, none, [], 0, 0, 0, 0) := z_ftd (by decide +kernel)
theorem t21_16 : z_ft 21 16 = some (.if_icmp .ge 47, 3, none, [], 63, 0, 0, 0) := z_ftd (by decide +kernel)
theorem t21_19 : z_ft 21 19 = some (.aload_n 0, 1, none, [], 0, 0, 0, 0) := z_ftd (by decide +kernel)
theorem t21_20 : z_ft 21 20 = some (.getfield 21, 3, none, [], 1, 2, 25, 0) := z_ftd (by decide +kernel)
theorem t21_23 : z_ft 21 23 = some (.bipush 19, 2, none, [], 0, 0, 0, 0) := z_ftd (by decide +kernel)
theorem t21_25 : z_ft 21 25 = some (.invokevirtual 123, 3, none, [], 103, 0, 39, 0) := z_ftd (by decide +kernel)
theorem t21_28 : z_ft 21 28 = some (.ifCond .eq 35, 3, none, [], 63, 0, 0, 0) := z_ftd (by decide +kernel)
theorem t21_31 : z_ft 21 31 = some (.aload_n 0, 1, none, [], 0, 0, 0, 0) := z_ftd (by decide +kernel)
theorem t21_32 : z_ft 21 32 = some (.getfield 21, 3, none, [], 1, 2, 25, 0) := z_ftd (by decide +kernel)
theorem t21_35 : z_ft 21 35 = some (.invokevirtual 69, 3, none, [], 98, 0, 33, 0) := z_ftd (by decide +kernel)
theorem t21_38 : z_ft 21 38 = some (.aload_n 0, 1, none, [], 0, 0, 0, 0) := z_ftd (by decide +kernel)
theorem t21_39 : z_ft 21 39 = some (.iload_n 1, 1, none, [], 0, 0, 0, 0) := z_ftd (by decide +kernel)
theorem t21_40 : z_ft 21 40 = some (.invokevirtual 169, 3, none, [], 22, 0, 56, 0) := z_ftd (by decide +kernel)
theorem t21_43 : z_ft 21 43 = some (.ifCond .ne 5, 3, none, [], 48, 0, 0, 0) := z_ftd (by decide +kernel)
theorem t21_46 : z_ft 21 46 = some (.iconst 0, 1, none, [], 0, 0, 0, 0) := z_ftd (by decide +kernel)
theorem t21_47 : z_ft 21 47 = some (.ireturn, 1, none, [], 0, 0, 0, 0) := z_ftd (by decide +kernel)
theorem t21_48 : z_ft 21 48 = some (.aload_n 0, 1, none, [], 0, 0, 0, 0) := z_ftd (by decide +kernel)
theorem t21_49 : z_ft 21 49 = some (.getfield 28, 3, none, [], 1, 3, 26, 0) := z_ftd (by decide +kernel)
theorem t21_52 : z_ft 21 52 = some (.bipush (-16), 2, none, [], 0, 0, 0, 0) := z_ftd (by decide +kernel)
theorem t21_54 : z_ft 21 54 = some (.invokevirtual 165, 3, none, [], 66, 0, 52, 0) := z_ftd (by decide +kernel)
theorem t21_57 : z_ft 21 57 = some (.iinc 2 1, 3, none, [], 0, 0, 0, 0) := z_ftd (by decide +kernel)
theorem t21_60 : z_ft 21 60 = some (.goto (-48), 3, none, [], 12, 0, 0, 0) := z_ftd (by decide +kernel)
theorem t21_63 : z_ft 21 63 = some (.iconst 1, 1, (some []), [], 0, 0, 0, 0) := z_ftd (by decide +kernel)
theorem t21_64 : z_ft 21 64 = some (.ireturn, 1, none, [], 0, 0, 0, 0) := z_ftd (by decide +kernel)
noncomputable def b21_12 (d : Nat) (y1 : Int32) (y2 : Int32) (S : z_S) : Option (Int32 × z_S) := zk kI z_X0 d 21 12 [.ref 18, .int y1, .int y2] [] S
theorem b21_12_eq (d : Nat) (y1 : Int32) (y2 : Int32) (S : z_S) (hW : z_W S)  : b21_12 d y1 y2 S = (if (1600 : Int32) ≤ y2 then some ((1 : Int32), S) else (zb (fI d 103 [.ref 19, .int (19 : Int32)] S) fun v5 S6 => (if v5 = (0 : Int32) then some ((1 : Int32), S6) else ((fV d 98 [.ref 19] S6).bind fun S9 => (zb (fI d 22 [.ref 18, .int y1] S9) fun v10 S11 => (if ¬ v10 = (0 : Int32) then ((fV d 66 [.ref (gP S11 18 3), .int (-16 : Int32)] S11).bind fun S14 => b21_12 d y1 (y2 + (1 : Int32)) S14) else some ((0 : Int32), S11))))))) := by
  unfold b21_12
  refine (k_iload_n t21_12 rfl rfl).trans ?_
  refine (k_sipush t21_13 rfl zcs_1600).trans ?_
  refine (k_icmp_ge t21_16 rfl).trans (z_ite (fun g4 => ?_) (fun g4 => ?_))
  · refine (zk_mk (ls' := [z_j, z_j, z_j]) t21_63 rfl).trans ?_
    refine (k_iconst t21_63 rfl zci_1).trans ?_
    exact k_zretC t21_64 rfl (by decide) (by decide)
  · refine (k_aload_n t21_19 rfl rfl).trans ?_
    refine (k_getR t21_20 rfl hW zK_18 (by decide) (by decide) (zF_18_2 hW)).trans ?_
    refine (k_bipush t21_23 rfl zcb_19).trans ?_
    refine k_callI (as := [.ref 19, .int (19 : Int32)]) (rest := []) t21_25 rfl rfl (by decide) rfl rfl (Nat.le_of_ble_eq_true rfl) rfl (z_rcV hW (zK_19) (by decide)) (by decide) (Or.inr (by decide)) hW (fun v5 S6 hW6 => ?_)
    refine (k_if_eq t21_28 rfl).trans (z_ite (fun g7 => ?_) (fun g7 => ?_))
    · refine (zk_mk (ls' := [z_j, z_j, z_j]) t21_63 rfl).trans ?_
      refine (k_iconst t21_63 rfl zci_1).trans ?_
      exact k_zretC t21_64 rfl (by decide) (by decide)
    · refine (k_aload_n t21_31 rfl rfl).trans ?_
      refine (k_getR t21_32 rfl hW6 zK_18 (by decide) (by decide) (zF_18_2 hW6)).trans ?_
      refine k_callV (as := [.ref 19]) (rest := []) t21_35 rfl rfl (by decide) rfl rfl (Nat.le_of_ble_eq_true rfl) rfl (z_rcV hW6 (zK_19) (by decide)) (by decide) (by decide) hW6 (fun S9 hW9 => ?_)
      refine (k_aload_n t21_38 rfl rfl).trans ?_
      refine (k_iload_n t21_39 rfl rfl).trans ?_
      refine k_callI (as := [.ref 18, .int y1]) (rest := []) t21_40 rfl rfl (by decide) rfl rfl (Nat.le_of_ble_eq_true rfl) rfl (z_rcV hW9 (zK_18) (by decide)) (by decide) (Or.inr (by decide)) hW9 (fun v10 S11 hW11 => ?_)
      refine (k_if_ne t21_43 rfl).trans (z_ite (fun g12 => ?_) (fun g12 => ?_))
      · refine (k_aload_n t21_48 rfl rfl).trans ?_
        refine (k_getR t21_49 rfl hW11 zK_18 (by decide) (by decide) (zM_18_3 hW11).1).trans ?_
        refine (k_bipush t21_52 rfl zcb_m16).trans ?_
        refine k_callV (as := [.ref (gP S11 18 3), .int (-16 : Int32)]) (rest := []) t21_54 rfl rfl (by decide) rfl rfl (Nat.le_of_ble_eq_true rfl) rfl (z_rcV hW11 ((zM_18_3 hW11).2) (by decide)) (by decide) (by decide) hW11 (fun S14 hW14 => ?_)
        refine (k_iinc (b := (y2 + (1 : Int32))) (ls' := [.ref 18, .int y1, .int (y2 + (1 : Int32))]) t21_57 rfl rfl (by rw [zci_1]) rfl).trans ?_
        refine (k_goto t21_60 rfl).trans ?_
        exact (zk_mk (ls' := [.ref 18, .int y1, .int (y2 + (1 : Int32))]) t21_12 rfl)
      · refine (k_iconst t21_46 rfl zci_0).trans ?_
        exact k_zretC t21_47 rfl (by decide) (by decide)
-- X1_readBoth
theorem e21 (d : Nat) (x1 : Int32) (S : z_S) (hW : z_W S)  : fI (d + 1) 21 [.ref 18, .int x1] S = (zb (fI d 22 [.ref 18, .int x1] S) fun v1 S2 => (if ¬ v1 = (0 : Int32) then b21_12 d x1 (0 : Int32) S2 else some ((0 : Int32), S2))) := by
  refine (fI_en (Nat.le_of_ble_eq_true rfl) rfl).trans ?_
  refine (k_aload_n t21_0 rfl rfl).trans ?_
  refine (k_iload_n t21_1 rfl rfl).trans ?_
  refine k_callI (as := [.ref 18, .int x1]) (rest := []) t21_2 rfl rfl (by decide) rfl rfl (Nat.le_of_ble_eq_true rfl) rfl (z_rcV hW (zK_18) (by decide)) (by decide) (Or.inr (by decide)) hW (fun v1 S2 hW2 => ?_)
  refine (k_if_ne t21_5 rfl).trans (z_ite (fun g3 => ?_) (fun g3 => ?_))
  · refine (k_iconst t21_10 rfl zci_0).trans ?_
    refine (k_istore_n (ls' := [.ref 18, .int x1, .int (0 : Int32)]) t21_11 rfl rfl).trans ?_
    exact (zk_mk (ls' := [.ref 18, .int x1, .int (0 : Int32)]) t21_12 rfl)
  · refine (k_iconst t21_8 rfl zci_0).trans ?_
    exact k_zretC t21_9 rfl (by decide) (by decide)
theorem t22_0 : z_ft 22 0 = some (.aload_n 0, 1, none, [], 0, 0, 0, 0) := z_ftd (by decide +kernel)
theorem t22_1 : z_ft 22 1 = some (.getfield 21, 3, none, [], 1, 2, 25, 0) := z_ftd (by decide +kernel)
theorem t22_4 : z_ft 22 4 = some (.bipush 20, 2, none, [], 0, 0, 0, 0) := z_ftd (by decide +kernel)
theorem t22_6 : z_ft 22 6 = some (.invokevirtual 123, 3, none, [], 103, 0, 39, 0) := z_ftd (by decide +kernel)
theorem t22_9 : z_ft 22 9 = some (.ifCond .eq 34, 3, none, [], 43, 0, 0, 0) := z_ftd (by decide +kernel)
theorem t22_12 : z_ft 22 12 = some (.aload_n 0, 1, none, [], 0, 0, 0, 0) := z_ftd (by decide +kernel)
theorem t22_13 : z_ft 22 13 = some (.iload_n 1, 1, none, [], 0, 0, 0, 0) := z_ftd (by decide +kernel)
theorem t22_14 : z_ft 22 14 = some (.invokevirtual 172, 3, none, [], 24, 0, 49, 0) := z_ftd (by decide +kernel)
theorem t22_17 : z_ft 22 17 = some (.ifCond .eq 13, 3, none, [], 30, 0, 0, 0) := z_ftd (by decide +kernel)
theorem t22_20 : z_ft 22 20 = some (.aload_n 0, 1, none, [], 0, 0, 0, 0) := z_ftd (by decide +kernel)
theorem t22_21 : z_ft 22 21 = some (.iload_n 1, 1, none, [], 0, 0, 0, 0) := z_ftd (by decide +kernel)
theorem t22_22 : z_ft 22 22 = some (.iconst 1, 1, none, [], 0, 0, 0, 0) := z_ftd (by decide +kernel)
theorem t22_23 : z_ft 22 23 = some (.iadd, 1, none, [], 0, 0, 0, 0) := z_ftd (by decide +kernel)
theorem t22_24 : z_ft 22 24 = some (.invokevirtual 169, 3, none, [], 22, 0, 56, 0) := z_ftd (by decide +kernel)
theorem t22_27 : z_ft 22 27 = some (.ifCond .ne 5, 3, none, [], 32, 0, 0, 0) := z_ftd (by decide +kernel)
theorem t22_30 : z_ft 22 30 = some (.iconst 0, 1, (some []), [], 0, 0, 0, 0) := z_ftd (by decide +kernel)
theorem t22_31 : z_ft 22 31 = some (.ireturn, 1, none, [], 0, 0, 0, 0) := z_ftd (by decide +kernel)
theorem t22_32 : z_ft 22 32 = some (.aload_n 0, 1, none, [], 0, 0, 0, 0) := z_ftd (by decide +kernel)
theorem t22_33 : z_ft 22 33 = some (.getfield 28, 3, none, [], 1, 3, 26, 0) := z_ftd (by decide +kernel)
theorem t22_36 : z_ft 22 36 = some (.bipush (-18), 2, none, [], 0, 0, 0, 0) := z_ftd (by decide +kernel)
theorem t22_38 : z_ft 22 38 = some (.invokevirtual 165, 3, none, [], 66, 0, 52, 0) := z_ftd (by decide +kernel)
theorem t22_41 : z_ft 22 41 = some (.iconst 1, 1, none, [], 0, 0, 0, 0) := z_ftd (by decide +kernel)
theorem t22_42 : z_ft 22 42 = some (.ireturn, 1, none, [], 0, 0, 0, 0) := z_ftd (by decide +kernel)
theorem t22_43 : z_ft 22 43 = some (.aload_n 0, 1, none, [], 0, 0, 0, 0) := z_ftd (by decide +kernel)
theorem t22_44 : z_ft 22 44 = some (.getfield 21, 3, none, [], 1, 2, 25, 0) := z_ftd (by decide +kernel)
theorem t22_47 : z_ft 22 47 = some (.bipush 91, 2, none, [], 0, 0, 0, 0) := z_ftd (by decide +kernel)
theorem t22_49 : z_ft 22 49 = some (.invokevirtual 66, 3, none, [], 104, 0, 48, 0) := z_ftd (by decide +kernel)
theorem t22_52 : z_ft 22 52 = some (.ifCond .eq 36, 3, none, [], 88, 0, 0, 0) := z_ftd (by decide +kernel)
theorem t22_55 : z_ft 22 55 = some (.aload_n 0, 1, none, [], 0, 0, 0, 0) := z_ftd (by decide +kernel)
theorem t22_56 : z_ft 22 56 = some (.iload_n 1, 1, none, [], 0, 0, 0, 0) := z_ftd (by decide +kernel)
theorem t22_57 : z_ft 22 57 = some (.invokevirtual 172, 3, none, [], 24, 0, 49, 0) := z_ftd (by decide +kernel)
theorem t22_60 : z_ft 22 60 = some (.ifCond .eq 26, 3, none, [], 86, 0, 0, 0) := z_ftd (by decide +kernel)
theorem t22_63 : z_ft 22 63 = some (.aload_n 0, 1, none, [], 0, 0, 0, 0) := z_ftd (by decide +kernel)
theorem t22_64 : z_ft 22 64 = some (.iload_n 1, 1, none, [], 0, 0, 0, 0) := z_ftd (by decide +kernel)
theorem t22_65 : z_ft 22 65 = some (.iconst 1, 1, none, [], 0, 0, 0, 0) := z_ftd (by decide +kernel)
theorem t22_66 : z_ft 22 66 = some (.iadd, 1, none, [], 0, 0, 0, 0) := z_ftd (by decide +kernel)
theorem t22_67 : z_ft 22 67 = some (.invokevirtual 153, 3, none, [], 20, 0, 54, 0) := z_ftd (by decide +kernel)
theorem t22_70 : z_ft 22 70 = some (.ifCond .eq 16, 3, none, [], 86, 0, 0, 0) := z_ftd (by decide +kernel)
theorem t22_73 : z_ft 22 73 = some (.aload_n 0, 1, none, [], 0, 0, 0, 0) := z_ftd (by decide +kernel)
theorem t22_74 : z_ft 22 74 = some (.bipush 93, 2, none, [], 0, 0, 0, 0) := z_ftd (by decide +kernel)
theorem t22_76 : z_ft 22 76 = some (.invokevirtual 51, 3, none, [], 11, 0, 50, 0) := z_ftd (by decide +kernel)
theorem t22_79 : z_ft 22 79 = some (.ifCond .eq 7, 3, none, [], 86, 0, 0, 0) := z_ftd (by decide +kernel)
theorem t22_82 : z_ft 22 82 = some (.iconst 1, 1, none, [], 0, 0, 0, 0) := z_ftd (by decide +kernel)
theorem t22_83 : z_ft 22 83 = some (.goto 4, 3, none, [], 87, 0, 0, 0) := z_ftd (by decide +kernel)
theorem t22_86 : z_ft 22 86 = some (.iconst 0, 1, (some []), [], 0, 0, 0, 0) := z_ftd (by decide +kernel)
theorem t22_87 : z_ft 22 87 = some (.ireturn, 1, (some []), [], 0, 0, 0, 0) := z_ftd (by decide +kernel)
theorem t22_88 : z_ft 22 88 = some (.aload_n 0, 1, none, [], 0, 0, 0, 0) := z_ftd (by decide +kernel)
theorem t22_89 : z_ft 22 89 = some (.getfield 21, 3, none, [], 1, 2, 25, 0) := z_ftd (by decide +kernel)
theorem t22_92 : z_ft 22 92 = some (.bipush 21, 2, none, [], 0, 0, 0, 0) := z_ftd (by decide +kernel)
theorem t22_94 : z_ft 22 94 = some (.invokevirtual 123, 3, none, [], 103, 0, 39, 0) := z_ftd (by decide +kernel)
theorem t22_97 : z_ft 22 97 = some (.ifCond .eq 20, 3, none, [], 117, 0, 0, 0) := z_ftd (by decide +kernel)
theorem t22_100 : z_ft 22 100 = some (.aload_n 0, 1, none, [], 0, 0, 0, 0) := z_ftd (by decide +kernel)
theorem t22_101 : z_ft 22 101 = some (.getfield 21, 3, none, [], 1, 2, 25, 0) := z_ftd (by decide +kernel)
theorem t22_104 : z_ft 22 104 = some (.invokevirtual 69, 3, none, [], 98, 0, 33, 0) := z_ftd (by decide +kernel)
theorem t22_107 : z_ft 22 107 = some (.aload_n 0, 1, none, [], 0, 0, 0, 0) := z_ftd (by decide +kernel)
theorem t22_108 : z_ft 22 108 = some (.getfield 28, 3, none, [], 1, 3, 26, 0) := z_ftd (by decide +kernel)
theorem t22_111 : z_ft 22 111 = some (.iconst 1, 1, none, [], 0, 0, 0, 0) := z_ftd (by decide +kernel)
theorem t22_112 : z_ft 22 112 = some (.invokevirtual 165, 3, none, [], 66, 0, 52, 0) := z_ftd (by decide +kernel)
theorem t22_115 : z_ft 22 115 = some (.iconst 1, 1, none, [], 0, 0, 0, 0) := z_ftd (by decide +kernel)
theorem t22_116 : z_ft 22 116 = some (.ireturn, 1, none, [], 0, 0, 0, 0) := z_ftd (by decide +kernel)
theorem t22_117 : z_ft 22 117 = some (.aload_n 0, 1, none, [], 0, 0, 0, 0) := z_ftd (by decide +kernel)
theorem t22_118 : z_ft 22 118 = some (.iload_n 1, 1, none, [], 0, 0, 0, 0) := z_ftd (by decide +kernel)
theorem t22_119 : z_ft 22 119 = some (.invokevirtual 150, 3, none, [], 25, 0, 45, 0) := z_ftd (by decide +kernel)
theorem t22_122 : z_ft 22 122 = some (.ifCond .eq 15, 3, none, [], 137, 0, 0, 0) := z_ftd (by decide +kernel)
theorem t22_125 : z_ft 22 125 = some (.aload_n 0, 1, none, [], 0, 0, 0, 0) := z_ftd (by decide +kernel)
theorem t22_126 : z_ft 22 126 = some (.iload_n 1, 1, none, [], 0, 0, 0, 0) := z_ftd (by decide +kernel)
theorem t22_127 : z_ft 22 127 = some (.invokevirtual 175, 3, none, [], 23, 0, 57, 0) := z_ftd (by decide +kernel)
theorem t22_130 : z_ft 22 130 = some (.ifCond .eq 7, 3, none, [], 137, 0, 0, 0) := z_ftd (by decide +kernel)
theorem t22_133 : z_ft 22 133 = some (.iconst 1, 1, none, [], 0, 0, 0, 0) := z_ftd (by decide +kernel)
theorem t22_134 : z_ft 22 134 = some (.goto 4, 3, none, [], 138, 0, 0, 0) := z_ftd (by decide +kernel)
theorem t22_137 : z_ft 22 137 = some (.iconst 0, 1, (some []), [], 0, 0, 0, 0) := z_ftd (by decide +kernel)
theorem t22_138 : z_ft 22 138 = some (.ireturn, 1, (some []), [], 0, 0, 0, 0) := z_ftd (by decide +kernel)
noncomputable def b22_137 (d : Nat)  (S : z_S) : Option (Int32 × z_S) := zk kI z_X0 d 22 137 [z_j, z_j] [] S
noncomputable def b22_86 (d : Nat)  (S : z_S) : Option (Int32 × z_S) := zk kI z_X0 d 22 86 [z_j, z_j] [] S
theorem b22_137_eq (d : Nat)  (S : z_S) (hW : z_W S)  : b22_137 d  S = some ((0 : Int32), S) := by
  unfold b22_137
  refine (k_iconst t22_137 rfl zci_0).trans ?_
  refine (zk_mk (ls' := [z_j, z_j]) t22_138 rfl).trans ?_
  exact k_zretC t22_138 rfl (by decide) (by decide)
theorem b22_86_eq (d : Nat)  (S : z_S) (hW : z_W S)  : b22_86 d  S = some ((0 : Int32), S) := by
  unfold b22_86
  refine (k_iconst t22_86 rfl zci_0).trans ?_
  refine (zk_mk (ls' := [z_j, z_j]) t22_87 rfl).trans ?_
  exact k_zretC t22_87 rfl (by decide) (by decide)
-- X1_readFact
theorem e22 (d : Nat) (x1 : Int32) (S : z_S) (hW : z_W S)  : fI (d + 1) 22 [.ref 18, .int x1] S = (zb (fI d 103 [.ref 19, .int (20 : Int32)] S) fun v1 S2 => (if v1 = (0 : Int32) then (zb (fI d 104 [.ref 19, .int (91 : Int32)] S2) fun v4 S5 => (if v4 = (0 : Int32) then (zb (fI d 103 [.ref 19, .int (21 : Int32)] S5) fun v7 S8 => (if v7 = (0 : Int32) then (zb (fI d 25 [.ref 18, .int x1] S8) fun v10 S11 => (if v10 = (0 : Int32) then b22_137 d S11 else (zb (fI d 23 [.ref 18, .int x1] S11) fun v13 S14 => (if v13 = (0 : Int32) then b22_137 d S14 else some ((1 : Int32), S14))))) else ((fV d 98 [.ref 19] S8).bind fun S17 => ((fV d 66 [.ref (gP S17 18 3), .int (1 : Int32)] S17).bind fun S19 => some ((1 : Int32), S19))))) else (zb (fI d 24 [.ref 18, .int x1] S5) fun v20 S21 => (if v20 = (0 : Int32) then b22_86 d S21 else (zb (fI d 20 [.ref 18, .int (x1 + (1 : Int32))] S21) fun v23 S24 => (if v23 = (0 : Int32) then b22_86 d S24 else (zb (fI d 11 [.ref 18, .int (93 : Int32)] S24) fun v26 S27 => (if v26 = (0 : Int32) then b22_86 d S27 else some ((1 : Int32), S27))))))))) else (zb (fI d 24 [.ref 18, .int x1] S2) fun v29 S30 => (if v29 = (0 : Int32) then some ((0 : Int32), S30) else (zb (fI d 22 [.ref 18, .int (x1 + (1 : Int32))] S30) fun v32 S33 => (if ¬ v32 = (0 : Int32) then ((fV d 66 [.ref (gP S33 18 3), .int (-18 : Int32)] S33).bind fun S36 => some ((1 : Int32), S36)) else some ((0 : Int32), S33))))))) := by
  refine (fI_en (Nat.le_of_ble_eq_true rfl) rfl).trans ?_
  refine (k_aload_n t22_0 rfl rfl).trans ?_
  refine (k_getR t22_1 rfl hW zK_18 (by decide) (by decide) (zF_18_2 hW)).trans ?_
  refine (k_bipush t22_4 rfl zcb_20).trans ?_
  refine k_callI (as := [.ref 19, .int (20 : Int32)]) (rest := []) t22_6 rfl rfl (by decide) rfl rfl (Nat.le_of_ble_eq_true rfl) rfl (z_rcV hW (zK_19) (by decide)) (by decide) (Or.inr (by decide)) hW (fun v1 S2 hW2 => ?_)
  refine (k_if_eq t22_9 rfl).trans (z_ite (fun g3 => ?_) (fun g3 => ?_))
  · refine (k_aload_n t22_43 rfl rfl).trans ?_
    refine (k_getR t22_44 rfl hW2 zK_18 (by decide) (by decide) (zF_18_2 hW2)).trans ?_
    refine (k_bipush t22_47 rfl zcb_91).trans ?_
    refine k_callI (as := [.ref 19, .int (91 : Int32)]) (rest := []) t22_49 rfl rfl (by decide) rfl rfl (Nat.le_of_ble_eq_true rfl) rfl (z_rcV hW2 (zK_19) (by decide)) (by decide) (Or.inr (by decide)) hW2 (fun v4 S5 hW5 => ?_)
    refine (k_if_eq t22_52 rfl).trans (z_ite (fun g6 => ?_) (fun g6 => ?_))
    · refine (k_aload_n t22_88 rfl rfl).trans ?_
      refine (k_getR t22_89 rfl hW5 zK_18 (by decide) (by decide) (zF_18_2 hW5)).trans ?_
      refine (k_bipush t22_92 rfl zcb_21).trans ?_
      refine k_callI (as := [.ref 19, .int (21 : Int32)]) (rest := []) t22_94 rfl rfl (by decide) rfl rfl (Nat.le_of_ble_eq_true rfl) rfl (z_rcV hW5 (zK_19) (by decide)) (by decide) (Or.inr (by decide)) hW5 (fun v7 S8 hW8 => ?_)
      refine (k_if_eq t22_97 rfl).trans (z_ite (fun g9 => ?_) (fun g9 => ?_))
      · refine (k_aload_n t22_117 rfl rfl).trans ?_
        refine (k_iload_n t22_118 rfl rfl).trans ?_
        refine k_callI (as := [.ref 18, .int x1]) (rest := []) t22_119 rfl rfl (by decide) rfl rfl (Nat.le_of_ble_eq_true rfl) rfl (z_rcV hW8 (zK_18) (by decide)) (by decide) (Or.inr (by decide)) hW8 (fun v10 S11 hW11 => ?_)
        refine (k_if_eq t22_122 rfl).trans (z_ite (fun g12 => ?_) (fun g12 => ?_))
        · exact (zk_mk (ls' := [z_j, z_j]) t22_137 rfl)
        · refine (k_aload_n t22_125 rfl rfl).trans ?_
          refine (k_iload_n t22_126 rfl rfl).trans ?_
          refine k_callI (as := [.ref 18, .int x1]) (rest := []) t22_127 rfl rfl (by decide) rfl rfl (Nat.le_of_ble_eq_true rfl) rfl (z_rcV hW11 (zK_18) (by decide)) (by decide) (Or.inr (by decide)) hW11 (fun v13 S14 hW14 => ?_)
          refine (k_if_eq t22_130 rfl).trans (z_ite (fun g15 => ?_) (fun g15 => ?_))
          · exact (zk_mk (ls' := [z_j, z_j]) t22_137 rfl)
          · refine (k_iconst t22_133 rfl zci_1).trans ?_
            refine (k_goto t22_134 rfl).trans ?_
            refine (zk_mk (ls' := [z_j, z_j]) t22_138 rfl).trans ?_
            exact k_zretC t22_138 rfl (by decide) (by decide)
      · refine (k_aload_n t22_100 rfl rfl).trans ?_
        refine (k_getR t22_101 rfl hW8 zK_18 (by decide) (by decide) (zF_18_2 hW8)).trans ?_
        refine k_callV (as := [.ref 19]) (rest := []) t22_104 rfl rfl (by decide) rfl rfl (Nat.le_of_ble_eq_true rfl) rfl (z_rcV hW8 (zK_19) (by decide)) (by decide) (by decide) hW8 (fun S17 hW17 => ?_)
        refine (k_aload_n t22_107 rfl rfl).trans ?_
        refine (k_getR t22_108 rfl hW17 zK_18 (by decide) (by decide) (zM_18_3 hW17).1).trans ?_
        refine (k_iconst t22_111 rfl zci_1).trans ?_
        refine k_callV (as := [.ref (gP S17 18 3), .int (1 : Int32)]) (rest := []) t22_112 rfl rfl (by decide) rfl rfl (Nat.le_of_ble_eq_true rfl) rfl (z_rcV hW17 ((zM_18_3 hW17).2) (by decide)) (by decide) (by decide) hW17 (fun S19 hW19 => ?_)
        refine (k_iconst t22_115 rfl zci_1).trans ?_
        exact k_zretC t22_116 rfl (by decide) (by decide)
    · refine (k_aload_n t22_55 rfl rfl).trans ?_
      refine (k_iload_n t22_56 rfl rfl).trans ?_
      refine k_callI (as := [.ref 18, .int x1]) (rest := []) t22_57 rfl rfl (by decide) rfl rfl (Nat.le_of_ble_eq_true rfl) rfl (z_rcV hW5 (zK_18) (by decide)) (by decide) (Or.inr (by decide)) hW5 (fun v20 S21 hW21 => ?_)
      refine (k_if_eq t22_60 rfl).trans (z_ite (fun g22 => ?_) (fun g22 => ?_))
      · exact (zk_mk (ls' := [z_j, z_j]) t22_86 rfl)
      · refine (k_aload_n t22_63 rfl rfl).trans ?_
        refine (k_iload_n t22_64 rfl rfl).trans ?_
        refine (k_iconst t22_65 rfl zci_1).trans ?_
        refine (k_iadd t22_66 rfl).trans ?_
        refine k_callI (as := [.ref 18, .int (x1 + (1 : Int32))]) (rest := []) t22_67 rfl rfl (by decide) rfl rfl (Nat.le_of_ble_eq_true rfl) rfl (z_rcV hW21 (zK_18) (by decide)) (by decide) (Or.inr (by decide)) hW21 (fun v23 S24 hW24 => ?_)
        refine (k_if_eq t22_70 rfl).trans (z_ite (fun g25 => ?_) (fun g25 => ?_))
        · exact (zk_mk (ls' := [z_j, z_j]) t22_86 rfl)
        · refine (k_aload_n t22_73 rfl rfl).trans ?_
          refine (k_bipush t22_74 rfl zcb_93).trans ?_
          refine k_callI (as := [.ref 18, .int (93 : Int32)]) (rest := []) t22_76 rfl rfl (by decide) rfl rfl (Nat.le_of_ble_eq_true rfl) rfl (z_rcV hW24 (zK_18) (by decide)) (by decide) (Or.inr (by decide)) hW24 (fun v26 S27 hW27 => ?_)
          refine (k_if_eq t22_79 rfl).trans (z_ite (fun g28 => ?_) (fun g28 => ?_))
          · exact (zk_mk (ls' := [z_j, z_j]) t22_86 rfl)
          · refine (k_iconst t22_82 rfl zci_1).trans ?_
            refine (k_goto t22_83 rfl).trans ?_
            refine (zk_mk (ls' := [z_j, z_j]) t22_87 rfl).trans ?_
            exact k_zretC t22_87 rfl (by decide) (by decide)
  · refine (k_aload_n t22_12 rfl rfl).trans ?_
    refine (k_iload_n t22_13 rfl rfl).trans ?_
    refine k_callI (as := [.ref 18, .int x1]) (rest := []) t22_14 rfl rfl (by decide) rfl rfl (Nat.le_of_ble_eq_true rfl) rfl (z_rcV hW2 (zK_18) (by decide)) (by decide) (Or.inr (by decide)) hW2 (fun v29 S30 hW30 => ?_)
    refine (k_if_eq t22_17 rfl).trans (z_ite (fun g31 => ?_) (fun g31 => ?_))
    · refine (zk_mk (ls' := [z_j, z_j]) t22_30 rfl).trans ?_
      refine (k_iconst t22_30 rfl zci_0).trans ?_
      exact k_zretC t22_31 rfl (by decide) (by decide)
    · refine (k_aload_n t22_20 rfl rfl).trans ?_
      refine (k_iload_n t22_21 rfl rfl).trans ?_
      refine (k_iconst t22_22 rfl zci_1).trans ?_
      refine (k_iadd t22_23 rfl).trans ?_
      refine k_callI (as := [.ref 18, .int (x1 + (1 : Int32))]) (rest := []) t22_24 rfl rfl (by decide) rfl rfl (Nat.le_of_ble_eq_true rfl) rfl (z_rcV hW30 (zK_18) (by decide)) (by decide) (Or.inr (by decide)) hW30 (fun v32 S33 hW33 => ?_)
      refine (k_if_ne t22_27 rfl).trans (z_ite (fun g34 => ?_) (fun g34 => ?_))
      · refine (k_aload_n t22_32 rfl rfl).trans ?_
        refine (k_getR t22_33 rfl hW33 zK_18 (by decide) (by decide) (zM_18_3 hW33).1).trans ?_
        refine (k_bipush t22_36 rfl zcb_m18).trans ?_
        refine k_callV (as := [.ref (gP S33 18 3), .int (-18 : Int32)]) (rest := []) t22_38 rfl rfl (by decide) rfl rfl (Nat.le_of_ble_eq_true rfl) rfl (z_rcV hW33 ((zM_18_3 hW33).2) (by decide)) (by decide) (by decide) hW33 (fun S36 hW36 => ?_)
        refine (k_iconst t22_41 rfl zci_1).trans ?_
        exact k_zretC t22_42 rfl (by decide) (by decide)
      · refine (zk_mk (ls' := [z_j, z_j]) t22_30 rfl).trans ?_
        refine (k_iconst t22_30 rfl zci_0).trans ?_
        exact k_zretC t22_31 rfl (by decide) (by decide)
theorem t23_0 : z_ft 23 0 = some (.aload_n 0, 1, none, [], 0, 0, 0, 0) := z_ftd (by decide +kernel)
theorem t23_1 : z_ft 23 1 = some (.getfield 21, 3, none, [], 1, 2, 25, 0) := z_ftd (by decide +kernel)
theorem t23_4 : z_ft 23 4 = some (.bipush 60, 2, none, [], 0, 0, 0, 0) := z_ftd (by decide +kernel)
theorem t23_6 : z_ft 23 6 = some (.invokevirtual 66, 3, none, [], 104, 0, 48, 0) := z_ftd (by decide +kernel)
theorem t23_9 : z_ft 23 9 = some (.ifCond .eq 8, 3, none, [], 17, 0, 0, 0) := z_ftd (by decide +kernel)
theorem t23_12 : z_ft 23 12 = some (.bipush (-13), 2, none, [], 0, 0, 0, 0) := z_ftd (by decide +kernel)
theorem t23_14 : z_ft 23 14 = some (.goto 38, 3, none, [], 52, 0, 0, 0) := z_ftd (by decide +kernel)
theorem t23_17 : z_ft 23 17 = some (.aload_n 0, 1, none, [], 0, 0, 0, 0) := z_ftd (by decide +kernel)
theorem t23_18 : z_ft 23 18 = some (.getfield 21, 3, none, [], 1, 2, 25, 0) := z_ftd (by decide +kernel)
theorem t23_21 : z_ft 23 21 = some (.bipush 62, 2, none, [], 0, 0, 0, 0) := z_ftd (by decide +kernel)
theorem t23_23 : z_ft 23 23 = some (.invokevirtual 66, 3, none, [], 104, 0, 48, 0) := z_ftd (by decide +kernel)
theorem t23_26 : z_ft 23 26 = some (.ifCond .eq 8, 3, none, [], 34, 0, 0, 0) := z_ftd (by decide +kernel)
theorem t23_29 : z_ft 23 29 = some (.bipush (-14), 2, none, [], 0, 0, 0, 0) := z_ftd (by decide +kernel)
theorem t23_31 : z_ft 23 31 = some (.goto 21, 3, none, [], 52, 0, 0, 0) := z_ftd (by decide +kernel)
theorem t23_34 : z_ft 23 34 = some (.aload_n 0, 1, none, [], 0, 0, 0, 0) := z_ftd (by decide +kernel)
theorem t23_35 : z_ft 23 35 = some (.getfield 21, 3, none, [], 1, 2, 25, 0) := z_ftd (by decide +kernel)
theorem t23_38 : z_ft 23 38 = some (.bipush 61, 2, none, [], 0, 0, 0, 0) := z_ftd (by decide +kernel)
theorem t23_40 : z_ft 23 40 = some (.invokevirtual 66, 3, none, [], 104, 0, 48, 0) := z_ftd (by decide +kernel)
theorem t23_43 : z_ft 23 43 = some (.ifCond .eq 8, 3, none, [], 51, 0, 0, 0) := z_ftd (by decide +kernel)
theorem t23_46 : z_ft 23 46 = some (.bipush (-15), 2, none, [], 0, 0, 0, 0) := z_ftd (by decide +kernel)
theorem t23_48 : z_ft 23 48 = some (.goto 4, 3, none, [], 52, 0, 0, 0) := z_ftd (by decide +kernel)
theorem t23_51 : z_ft 23 51 = some (.iconst 0, 1, none, [], 0, 0, 0, 0) := z_ftd (by decide +kernel)
theorem t23_52 : z_ft 23 52 = some (.istore_n 2, 1, (some [0, 1]), [], 0, 0, 0, 0) := z_ftd (by decide +kernel)
theorem t23_53 : z_ft 23 53 = some (.iload_n 2, 1, none, [], 0, 0, 0, 0) := z_ftd (by decide +kernel)
theorem t23_54 : z_ft 23 54 = some (.ifCond .ne 8, 3, none, [], 62, 0, 0, 0) := z_ftd (by decide +kernel)
theorem t23_57 : z_ft 23 57 = some (.aload_n 0, 1, none, [], 0, 0, 0, 0) := z_ftd (by decide +kernel)
theorem t23_58 : z_ft 23 58 = some (.invokevirtual 57, 3, none, [], 9, 0, 32, 0) := z_ftd (by decide +kernel)
theorem t23_61 : z_ft 23 61 = some (.ireturn, 1, none, [], 0, 0, 0, 0) := z_ftd (by decide +kernel)
theorem t23_62 : z_ft 23 62 = some (.aload_n 0, 1, none, [], 0, 0, 0, 0) := z_ftd (by decide +kernel)
theorem t23_63 : z_ft 23 63 = some (.getfield 21, 3, none, [], 1, 2, 25, 0) := z_ftd (by decide +kernel)
theorem t23_66 : z_ft 23 66 = some (.invokevirtual 69, 3, none, [], 98, 0, 33, 0) := z_ftd (by decide +kernel)
theorem t23_69 : z_ft 23 69 = some (.aload_n 0, 1, none, [], 0, 0, 0, 0) := z_ftd (by decide +kernel)
theorem t23_70 : z_ft 23 70 = some (.iload_n 1, 1, none, [], 0, 0, 0, 0) := z_ftd (by decide +kernel)
theorem t23_71 : z_ft 23 71 = some (.invokevirtual 150, 3, none, [], 25, 0, 45, 0) := z_ftd (by decide +kernel)
theorem t23_74 : z_ft 23 74 = some (.ifCond .ne 5, 3, none, [], 79, 0, 0, 0) := z_ftd (by decide +kernel)
theorem t23_77 : z_ft 23 77 = some (.iconst 0, 1, none, [], 0, 0, 0, 0) := z_ftd (by decide +kernel)
theorem t23_78 : z_ft 23 78 = some (.ireturn, 1, none, [], 0, 0, 0, 0) := z_ftd (by decide +kernel)
theorem t23_79 : z_ft 23 79 = some (.aload_n 0, 1, none, [], 0, 0, 0, 0) := z_ftd (by decide +kernel)
theorem t23_80 : z_ft 23 80 = some (.getfield 28, 3, none, [], 1, 3, 26, 0) := z_ftd (by decide +kernel)
theorem t23_83 : z_ft 23 83 = some (.iload_n 2, 1, none, [], 0, 0, 0, 0) := z_ftd (by decide +kernel)
theorem t23_84 : z_ft 23 84 = some (.invokevirtual 165, 3, none, [], 66, 0, 52, 0) := z_ftd (by decide +kernel)
theorem t23_87 : z_ft 23 87 = some (.iconst 1, 1, none, [], 0, 0, 0, 0) := z_ftd (by decide +kernel)
theorem t23_88 : z_ft 23 88 = some (.ireturn, 1, none, [], 0, 0, 0, 0) := z_ftd (by decide +kernel)
noncomputable def b23_52 (d : Nat) (y1 : Int32) (s0 : Int32) (S : z_S) : Option (Int32 × z_S) := zk kI z_X0 d 23 52 [.ref 18, .int y1, z_j] [.int s0] S
theorem b23_52_eq (d : Nat) (y1 : Int32) (s0 : Int32) (S : z_S) (hW : z_W S)  : b23_52 d y1 s0 S = (if ¬ s0 = (0 : Int32) then ((fV d 98 [.ref 19] S).bind fun S12 => (zb (fI d 25 [.ref 18, .int y1] S12) fun v13 S14 => (if ¬ v13 = (0 : Int32) then ((fV d 66 [.ref (gP S14 18 3), .int s0] S14).bind fun S17 => some ((1 : Int32), S17)) else some ((0 : Int32), S14)))) else (zb (fI d 9 [.ref 18] S) fun v18 S19 => (if v18 = 0 ∨ v18 = 1 then some (v18, S19) else none))) := by
  unfold b23_52
  refine (k_istore_n (ls' := [.ref 18, .int y1, .int s0]) t23_52 rfl rfl).trans ?_
  refine (k_iload_n t23_53 rfl rfl).trans ?_
  refine (k_if_ne t23_54 rfl).trans (z_ite (fun g10 => ?_) (fun g10 => ?_))
  · refine (k_aload_n t23_62 rfl rfl).trans ?_
    refine (k_getR t23_63 rfl hW zK_18 (by decide) (by decide) (zF_18_2 hW)).trans ?_
    refine k_callV (as := [.ref 19]) (rest := []) t23_66 rfl rfl (by decide) rfl rfl (Nat.le_of_ble_eq_true rfl) rfl (z_rcV hW (zK_19) (by decide)) (by decide) (by decide) hW (fun S12 hW12 => ?_)
    refine (k_aload_n t23_69 rfl rfl).trans ?_
    refine (k_iload_n t23_70 rfl rfl).trans ?_
    refine k_callI (as := [.ref 18, .int y1]) (rest := []) t23_71 rfl rfl (by decide) rfl rfl (Nat.le_of_ble_eq_true rfl) rfl (z_rcV hW12 (zK_18) (by decide)) (by decide) (Or.inr (by decide)) hW12 (fun v13 S14 hW14 => ?_)
    refine (k_if_ne t23_74 rfl).trans (z_ite (fun g15 => ?_) (fun g15 => ?_))
    · refine (k_aload_n t23_79 rfl rfl).trans ?_
      refine (k_getR t23_80 rfl hW14 zK_18 (by decide) (by decide) (zM_18_3 hW14).1).trans ?_
      refine (k_iload_n t23_83 rfl rfl).trans ?_
      refine k_callV (as := [.ref (gP S14 18 3), .int s0]) (rest := []) t23_84 rfl rfl (by decide) rfl rfl (Nat.le_of_ble_eq_true rfl) rfl (z_rcV hW14 ((zM_18_3 hW14).2) (by decide)) (by decide) (by decide) hW14 (fun S17 hW17 => ?_)
      refine (k_iconst t23_87 rfl zci_1).trans ?_
      exact k_zretC t23_88 rfl (by decide) (by decide)
    · refine (k_iconst t23_77 rfl zci_0).trans ?_
      exact k_zretC t23_78 rfl (by decide) (by decide)
  · refine (k_aload_n t23_57 rfl rfl).trans ?_
    refine k_callI (as := [.ref 18]) (rest := []) t23_58 rfl rfl (by decide) rfl rfl (Nat.le_of_ble_eq_true rfl) rfl (z_rcV hW (zK_18) (by decide)) (by decide) (Or.inr (by decide)) hW (fun v18 S19 hW19 => ?_)
    exact (k_zreturn t23_61 rfl (by decide)).trans (z_ite (fun _ => rfl) (fun _ => rfl))
-- X1_readComparison
theorem e23 (d : Nat) (x1 : Int32) (S : z_S) (hW : z_W S)  : fI (d + 1) 23 [.ref 18, .int x1] S = (zb (fI d 104 [.ref 19, .int (60 : Int32)] S) fun v1 S2 => (if v1 = (0 : Int32) then (zb (fI d 104 [.ref 19, .int (62 : Int32)] S2) fun v4 S5 => (if v4 = (0 : Int32) then (zb (fI d 104 [.ref 19, .int (61 : Int32)] S5) fun v7 S8 => (if v7 = (0 : Int32) then b23_52 d x1 (0 : Int32) S8 else b23_52 d x1 (-15 : Int32) S8)) else b23_52 d x1 (-14 : Int32) S5)) else b23_52 d x1 (-13 : Int32) S2)) := by
  refine (fI_en (Nat.le_of_ble_eq_true rfl) rfl).trans ?_
  refine (k_aload_n t23_0 rfl rfl).trans ?_
  refine (k_getR t23_1 rfl hW zK_18 (by decide) (by decide) (zF_18_2 hW)).trans ?_
  refine (k_bipush t23_4 rfl zcb_60).trans ?_
  refine k_callI (as := [.ref 19, .int (60 : Int32)]) (rest := []) t23_6 rfl rfl (by decide) rfl rfl (Nat.le_of_ble_eq_true rfl) rfl (z_rcV hW (zK_19) (by decide)) (by decide) (Or.inr (by decide)) hW (fun v1 S2 hW2 => ?_)
  refine (k_if_eq t23_9 rfl).trans (z_ite (fun g3 => ?_) (fun g3 => ?_))
  · refine (k_aload_n t23_17 rfl rfl).trans ?_
    refine (k_getR t23_18 rfl hW2 zK_18 (by decide) (by decide) (zF_18_2 hW2)).trans ?_
    refine (k_bipush t23_21 rfl zcb_62).trans ?_
    refine k_callI (as := [.ref 19, .int (62 : Int32)]) (rest := []) t23_23 rfl rfl (by decide) rfl rfl (Nat.le_of_ble_eq_true rfl) rfl (z_rcV hW2 (zK_19) (by decide)) (by decide) (Or.inr (by decide)) hW2 (fun v4 S5 hW5 => ?_)
    refine (k_if_eq t23_26 rfl).trans (z_ite (fun g6 => ?_) (fun g6 => ?_))
    · refine (k_aload_n t23_34 rfl rfl).trans ?_
      refine (k_getR t23_35 rfl hW5 zK_18 (by decide) (by decide) (zF_18_2 hW5)).trans ?_
      refine (k_bipush t23_38 rfl zcb_61).trans ?_
      refine k_callI (as := [.ref 19, .int (61 : Int32)]) (rest := []) t23_40 rfl rfl (by decide) rfl rfl (Nat.le_of_ble_eq_true rfl) rfl (z_rcV hW5 (zK_19) (by decide)) (by decide) (Or.inr (by decide)) hW5 (fun v7 S8 hW8 => ?_)
      refine (k_if_eq t23_43 rfl).trans (z_ite (fun g9 => ?_) (fun g9 => ?_))
      · refine (k_iconst t23_51 rfl zci_0).trans ?_
        exact (zk_mk (ls' := [.ref 18, .int x1, z_j]) t23_52 rfl)
      · refine (k_bipush t23_46 rfl zcb_m15).trans ?_
        refine (k_goto t23_48 rfl).trans ?_
        exact (zk_mk (ls' := [.ref 18, .int x1, z_j]) t23_52 rfl)
    · refine (k_bipush t23_29 rfl zcb_m14).trans ?_
      refine (k_goto t23_31 rfl).trans ?_
      exact (zk_mk (ls' := [.ref 18, .int x1, z_j]) t23_52 rfl)
  · refine (k_bipush t23_12 rfl zcb_m13).trans ?_
    refine (k_goto t23_14 rfl).trans ?_
    exact (zk_mk (ls' := [.ref 18, .int x1, z_j]) t23_52 rfl)
theorem t24_0 : z_ft 24 0 = some (.iload_n 1, 1, none, [], 0, 0, 0, 0) := z_ftd (by decide +kernel)
theorem t24_1 : z_ft 24 1 = some (.bipush 7, 2, none, [], 0, 0, 0, 0) := z_ftd (by decide +kernel)
theorem t24_3 : z_ft 24 3 = some (.if_icmp .lt 9, 3, none, [], 12, 0, 0, 0) := z_ftd (by decide +kernel)
theorem t24_6 : z_ft 24 6 = some (.aload_n 0, 1, none, [], 0, 0, 0, 0) := z_ftd (by decide +kernel)
theorem t24_7 : z_ft 24 7 = some (.iconst 5, 1, none, [], 0, 0, 0, 0) := z_ftd (by decide +kernel)
theorem t24_8 : z_ft 24 8 = some (.invokevirtual 43, 3, none, [], 10, 0, 30, 0) := z_ftd (by decide +kernel)
theorem t24_11 : z_ft 24 11 = some (.ireturn, 1, none, [], 0, 0, 0, 0) := z_ftd (by decide +kernel)
theorem t24_12 : z_ft 24 12 = some (.aload_n 0, 1, none, [], 0, 0, 0, 0) := z_ftd (by decide +kernel)
theorem t24_13 : z_ft 24 13 = some (.getfield 21, 3, none, [], 1, 2, 25, 0) := z_ftd (by decide +kernel)
theorem t24_16 : z_ft 24 16 = some (.invokevirtual 69, 3, none, [], 98, 0, 33, 0) := z_ftd (by decide +kernel)
theorem t24_19 : z_ft 24 19 = some (.iconst 1, 1, none, [], 0, 0, 0, 0) := z_ftd (by decide +kernel)
theorem t24_20 : z_ft 24 20 = some (.ireturn, 1, none, [], 0, 0, 0, 0) := z_ftd (by decide +kernel)
-- X1_opens
theorem e24 (d : Nat) (x1 : Int32) (S : z_S) (hW : z_W S)  : fI (d + 1) 24 [.ref 18, .int x1] S = (if x1 < (7 : Int32) then ((fV d 98 [.ref 19] S).bind fun S3 => some ((1 : Int32), S3)) else (zb (fI d 10 [.ref 18, .int (5 : Int32)] S) fun v4 S5 => (if v4 = 0 ∨ v4 = 1 then some (v4, S5) else none))) := by
  refine (fI_en (Nat.le_of_ble_eq_true rfl) rfl).trans ?_
  refine (k_iload_n t24_0 rfl rfl).trans ?_
  refine (k_bipush t24_1 rfl zcb_7).trans ?_
  refine (k_icmp_lt t24_3 rfl).trans (z_ite (fun g1 => ?_) (fun g1 => ?_))
  · refine (k_aload_n t24_12 rfl rfl).trans ?_
    refine (k_getR t24_13 rfl hW zK_18 (by decide) (by decide) (zF_18_2 hW)).trans ?_
    refine k_callV (as := [.ref 19]) (rest := []) t24_16 rfl rfl (by decide) rfl rfl (Nat.le_of_ble_eq_true rfl) rfl (z_rcV hW (zK_19) (by decide)) (by decide) (by decide) hW (fun S3 hW3 => ?_)
    refine (k_iconst t24_19 rfl zci_1).trans ?_
    exact k_zretC t24_20 rfl (by decide) (by decide)
  · refine (k_aload_n t24_6 rfl rfl).trans ?_
    refine (k_iconst t24_7 rfl zci_5).trans ?_
    refine k_callI (as := [.ref 18, .int (5 : Int32)]) (rest := []) t24_8 rfl rfl (by decide) rfl rfl (Nat.le_of_ble_eq_true rfl) rfl (z_rcV hW (zK_18) (by decide)) (by decide) (Or.inr (by decide)) hW (fun v4 S5 hW5 => ?_)
    exact (k_zreturn t24_11 rfl (by decide)).trans (z_ite (fun _ => rfl) (fun _ => rfl))
theorem t25_0 : z_ft 25 0 = some (.aload_n 0, 1, none, [], 0, 0, 0, 0) := z_ftd (by decide +kernel)
theorem t25_1 : z_ft 25 1 = some (.iload_n 1, 1, none, [], 0, 0, 0, 0) := z_ftd (by decide +kernel)
theorem t25_2 : z_ft 25 2 = some (.invokevirtual 178, 3, none, [], 26, 0, 46, 0) := z_ftd (by decide +kernel)
theorem t25_5 : z_ft 25 5 = some (.ifCond .ne 5, 3, none, [], 10, 0, 0, 0) := z_ftd (by decide +kernel)
theorem t25_8 : z_ft 25 8 = some (.iconst 0, 1, none, [], 0, 0, 0, 0) := z_ftd (by decide +kernel)
theorem t25_9 : z_ft 25 9 = some (.ireturn, 1, none, [], 0, 0, 0, 0) := z_ftd (by decide +kernel)
theorem t25_10 : z_ft 25 10 = some (.iconst 0, 1, none, [], 0, 0, 0, 0) := z_ftd (by decide +kernel)
theorem t25_11 : z_ft 25 11 = some (.istore_n 2, 1, none, [], 0, 0, 0, 0) := z_ftd (by decide +kernel)
theorem t25_12 : z_ft 25 12 = some (.iload_n 2, 1, (some [0, 1, 2]), [], 0, 0, 0, 0) := z_ftd (by decide +kernel)
theorem t25_13 : z_ft 25 13 = some (.sipush 1600, 3, none, [], 0, 0, 0, 0) := z_ftd (by decide +kernel)
theorem t25_16 : z_ft 25 16 = some (.if_icmp .ge 78, 3, none, [], 94, 0, 0, 0) := z_ftd (by decide +kernel)
theorem t25_19 : z_ft 25 19 = some (.aload_n 0, 1, none, [], 0, 0, 0, 0) := z_ftd (by decide +kernel)
theorem t25_20 : z_ft 25 20 = some (.getfield 21, 3, none, [], 1, 2, 25, 0) := z_ftd (by decide +kernel)
theorem t25_23 : z_ft 25 23 = some (.bipush 43, 2, none, [], 0, 0, 0, 0) := z_ftd (by decide +kernel)
theorem t25_25 : z_ft 25 25 = some (.invokevirtual 66, 3, none, [], 104, 0, 48, 0) := z_ftd (by decide +kernel)
theorem t25_28 : z_ft 25 28 = some (.ifCond .ne 15, 3, none, [], 43, 0, 0, 0) := z_ftd (by decide +kernel)
theorem t25_31 : z_ft 25 31 = some (.aload_n 0, 1, none, [], 0, 0, 0, 0) := z_ftd (by decide +kernel)
theorem t25_32 : z_ft 25 32 = some (.getfield 21, 3, none, [], 1, 2, 25, 0) := z_ftd (by decide +kernel)
theorem t25_35 : z_ft 25 35 = some (.bipush 45, 2, none, [], 0, 0, 0, 0) := z_ftd (by decide +kernel)
theorem t25_37 : z_ft 25 37 = some (.invokevirtual 66, 3, none, [], 104, 0, 48, 0) := z_ftd (by decide +kernel)
theorem t25_40 : z_ft 25 40 = some (.ifCond .eq 54, 3, none, [], 94, 0, 0, 0) := z_ftd (by decide +kernel)
theorem t25_43 : z_ft 25 43 = some (.aload_n 0, 1, (some [0, 1, 2]), [], 0, 0, 0, 0) := z_ftd (by decide +kernel)
theorem t25_44 : z_ft 25 44 = some (.getfield 21, 3, none, [], 1, 2, 25, 0) := z_ftd (by decide +kernel)
theorem t25_47 : z_ft 25 47 = some (.bipush 43, 2, none, [], 0, 0, 0, 0) := z_ftd (by decide +kernel)
theorem t25_49 : z_ft 25 49 = some (.invokevirtual 66, 3, none, [], 104, 0, 48, 0) := z_ftd (by decide +kernel)
theorem t25_52 : z_ft 25 52 = some (.ifCond .eq 8, 3, none, [], 60, 0, 0, 0) := z_ftd (by decide +kernel)
theorem t25_55 : z_ft 25 55 = some (.bipush (-6), 2, none, [], 0, 0, 0, 0) := z_ftd (by decide +kernel)
theorem t25_57 : z_ft 25 57 = some (.goto 5, 3, none, [], 62, 0, 0, 0) := z_ftd (by decide +kernel)
theorem t25_60 : z_ft 25 60 = some (.bipush (-7), 2, none, [], 0, 0, 0, 0) := z_ftd (by decide +kernel)
theorem t25_62 : z_ft 25 62 = some (.istore_n 3, 1, (some [0, 1, 2]), [], 0, 0, 0, 0) := z_ftd (by decide +kernel)
theorem t25_63 : z_ft 25 63 = some (.aload_n 0, 1, none, [], 0, 0, 0, 0) := z_ftd (by decide +kernel)
theorem t25_64 : z_ft 25 64 = some (.getfield 21, 3, none, [], 1, 2, 25, 0) := z_ftd (by decide +kernel)
theorem t25_67 : z_ft 25 67 = some (.invokevirtual 69, 3, none, [], 98, 0, 33, 0) := z_ftd (by decide +kernel)
theorem t25_70 : z_ft 25 70 = some (.aload_n 0, 1, none, [], 0, 0, 0, 0) := z_ftd (by decide +kernel)
theorem t25_71 : z_ft 25 71 = some (.iload_n 1, 1, none, [], 0, 0, 0, 0) := z_ftd (by decide +kernel)
theorem t25_72 : z_ft 25 72 = some (.invokevirtual 178, 3, none, [], 26, 0, 46, 0) := z_ftd (by decide +kernel)
theorem t25_75 : z_ft 25 75 = some (.ifCond .ne 5, 3, none, [], 80, 0, 0, 0) := z_ftd (by decide +kernel)
theorem t25_78 : z_ft 25 78 = some (.iconst 0, 1, none, [], 0, 0, 0, 0) := z_ftd (by decide +kernel)
theorem t25_79 : z_ft 25 79 = some (.ireturn, 1, none, [], 0, 0, 0, 0) := z_ftd (by decide +kernel)
theorem t25_80 : z_ft 25 80 = some (.aload_n 0, 1, none, [], 0, 0, 0, 0) := z_ftd (by decide +kernel)
theorem t25_81 : z_ft 25 81 = some (.getfield 28, 3, none, [], 1, 3, 26, 0) := z_ftd (by decide +kernel)
theorem t25_84 : z_ft 25 84 = some (.iload_n 3, 1, none, [], 0, 0, 0, 0) := z_ftd (by decide +kernel)
theorem t25_85 : z_ft 25 85 = some (.invokevirtual 165, 3, none, [], 66, 0, 52, 0) := z_ftd (by decide +kernel)
theorem t25_88 : z_ft 25 88 = some (.iinc 2 1, 3, none, [], 0, 0, 0, 0) := z_ftd (by decide +kernel)
theorem t25_91 : z_ft 25 91 = some (.goto (-79), 3, none, [], 12, 0, 0, 0) := z_ftd (by decide +kernel)
theorem t25_94 : z_ft 25 94 = some (.iconst 1, 1, (some []), [], 0, 0, 0, 0) := z_ftd (by decide +kernel)
theorem t25_95 : z_ft 25 95 = some (.ireturn, 1, none, [], 0, 0, 0, 0) := z_ftd (by decide +kernel)
noncomputable def b25_12 (d : Nat) (y1 : Int32) (y2 : Int32) (S : z_S) : Option (Int32 × z_S) := zk kI z_X0 d 25 12 [.ref 18, .int y1, .int y2, z_j] [] S
noncomputable def b25_43 (d : Nat) (y1 : Int32) (y2 : Int32) (S : z_S) : Option (Int32 × z_S) := zk kI z_X0 d 25 43 [.ref 18, .int y1, .int y2, z_j] [] S
noncomputable def b25_62 (d : Nat) (y1 : Int32) (y2 : Int32) (s0 : Int32) (S : z_S) : Option (Int32 × z_S) := zk kI z_X0 d 25 62 [.ref 18, .int y1, .int y2, z_j] [.int s0] S
theorem b25_12_eq (d : Nat) (y1 : Int32) (y2 : Int32) (S : z_S) (hW : z_W S)  : b25_12 d y1 y2 S = (if (1600 : Int32) ≤ y2 then some ((1 : Int32), S) else (zb (fI d 104 [.ref 19, .int (43 : Int32)] S) fun v5 S6 => (if ¬ v5 = (0 : Int32) then b25_43 d y1 y2 S6 else (zb (fI d 104 [.ref 19, .int (45 : Int32)] S6) fun v8 S9 => (if v8 = (0 : Int32) then some ((1 : Int32), S9) else b25_43 d y1 y2 S9))))) := by
  unfold b25_12
  refine (k_iload_n t25_12 rfl rfl).trans ?_
  refine (k_sipush t25_13 rfl zcs_1600).trans ?_
  refine (k_icmp_ge t25_16 rfl).trans (z_ite (fun g4 => ?_) (fun g4 => ?_))
  · refine (zk_mk (ls' := [z_j, z_j, z_j, z_j]) t25_94 rfl).trans ?_
    refine (k_iconst t25_94 rfl zci_1).trans ?_
    exact k_zretC t25_95 rfl (by decide) (by decide)
  · refine (k_aload_n t25_19 rfl rfl).trans ?_
    refine (k_getR t25_20 rfl hW zK_18 (by decide) (by decide) (zF_18_2 hW)).trans ?_
    refine (k_bipush t25_23 rfl zcb_43).trans ?_
    refine k_callI (as := [.ref 19, .int (43 : Int32)]) (rest := []) t25_25 rfl rfl (by decide) rfl rfl (Nat.le_of_ble_eq_true rfl) rfl (z_rcV hW (zK_19) (by decide)) (by decide) (Or.inr (by decide)) hW (fun v5 S6 hW6 => ?_)
    refine (k_if_ne t25_28 rfl).trans (z_ite (fun g7 => ?_) (fun g7 => ?_))
    · exact (zk_mk (ls' := [.ref 18, .int y1, .int y2, z_j]) t25_43 rfl)
    · refine (k_aload_n t25_31 rfl rfl).trans ?_
      refine (k_getR t25_32 rfl hW6 zK_18 (by decide) (by decide) (zF_18_2 hW6)).trans ?_
      refine (k_bipush t25_35 rfl zcb_45).trans ?_
      refine k_callI (as := [.ref 19, .int (45 : Int32)]) (rest := []) t25_37 rfl rfl (by decide) rfl rfl (Nat.le_of_ble_eq_true rfl) rfl (z_rcV hW6 (zK_19) (by decide)) (by decide) (Or.inr (by decide)) hW6 (fun v8 S9 hW9 => ?_)
      refine (k_if_eq t25_40 rfl).trans (z_ite (fun g10 => ?_) (fun g10 => ?_))
      · refine (zk_mk (ls' := [z_j, z_j, z_j, z_j]) t25_94 rfl).trans ?_
        refine (k_iconst t25_94 rfl zci_1).trans ?_
        exact k_zretC t25_95 rfl (by decide) (by decide)
      · exact (zk_mk (ls' := [.ref 18, .int y1, .int y2, z_j]) t25_43 rfl)
theorem b25_43_eq (d : Nat) (y1 : Int32) (y2 : Int32) (S : z_S) (hW : z_W S)  : b25_43 d y1 y2 S = (zb (fI d 104 [.ref 19, .int (43 : Int32)] S) fun v11 S12 => (if v11 = (0 : Int32) then b25_62 d y1 y2 (-7 : Int32) S12 else b25_62 d y1 y2 (-6 : Int32) S12)) := by
  unfold b25_43
  refine (k_aload_n t25_43 rfl rfl).trans ?_
  refine (k_getR t25_44 rfl hW zK_18 (by decide) (by decide) (zF_18_2 hW)).trans ?_
  refine (k_bipush t25_47 rfl zcb_43).trans ?_
  refine k_callI (as := [.ref 19, .int (43 : Int32)]) (rest := []) t25_49 rfl rfl (by decide) rfl rfl (Nat.le_of_ble_eq_true rfl) rfl (z_rcV hW (zK_19) (by decide)) (by decide) (Or.inr (by decide)) hW (fun v11 S12 hW12 => ?_)
  refine (k_if_eq t25_52 rfl).trans (z_ite (fun g13 => ?_) (fun g13 => ?_))
  · refine (k_bipush t25_60 rfl zcb_m7).trans ?_
    exact (zk_mk (ls' := [.ref 18, .int y1, .int y2, z_j]) t25_62 rfl)
  · refine (k_bipush t25_55 rfl zcb_m6).trans ?_
    refine (k_goto t25_57 rfl).trans ?_
    exact (zk_mk (ls' := [.ref 18, .int y1, .int y2, z_j]) t25_62 rfl)
theorem b25_62_eq (d : Nat) (y1 : Int32) (y2 : Int32) (s0 : Int32) (S : z_S) (hW : z_W S)  : b25_62 d y1 y2 s0 S = ((fV d 98 [.ref 19] S).bind fun S15 => (zb (fI d 26 [.ref 18, .int y1] S15) fun v16 S17 => (if ¬ v16 = (0 : Int32) then ((fV d 66 [.ref (gP S17 18 3), .int s0] S17).bind fun S20 => b25_12 d y1 (y2 + (1 : Int32)) S20) else some ((0 : Int32), S17)))) := by
  unfold b25_62
  refine (k_istore_n (ls' := [.ref 18, .int y1, .int y2, .int s0]) t25_62 rfl rfl).trans ?_
  refine (k_aload_n t25_63 rfl rfl).trans ?_
  refine (k_getR t25_64 rfl hW zK_18 (by decide) (by decide) (zF_18_2 hW)).trans ?_
  refine k_callV (as := [.ref 19]) (rest := []) t25_67 rfl rfl (by decide) rfl rfl (Nat.le_of_ble_eq_true rfl) rfl (z_rcV hW (zK_19) (by decide)) (by decide) (by decide) hW (fun S15 hW15 => ?_)
  refine (k_aload_n t25_70 rfl rfl).trans ?_
  refine (k_iload_n t25_71 rfl rfl).trans ?_
  refine k_callI (as := [.ref 18, .int y1]) (rest := []) t25_72 rfl rfl (by decide) rfl rfl (Nat.le_of_ble_eq_true rfl) rfl (z_rcV hW15 (zK_18) (by decide)) (by decide) (Or.inr (by decide)) hW15 (fun v16 S17 hW17 => ?_)
  refine (k_if_ne t25_75 rfl).trans (z_ite (fun g18 => ?_) (fun g18 => ?_))
  · refine (k_aload_n t25_80 rfl rfl).trans ?_
    refine (k_getR t25_81 rfl hW17 zK_18 (by decide) (by decide) (zM_18_3 hW17).1).trans ?_
    refine (k_iload_n t25_84 rfl rfl).trans ?_
    refine k_callV (as := [.ref (gP S17 18 3), .int s0]) (rest := []) t25_85 rfl rfl (by decide) rfl rfl (Nat.le_of_ble_eq_true rfl) rfl (z_rcV hW17 ((zM_18_3 hW17).2) (by decide)) (by decide) (by decide) hW17 (fun S20 hW20 => ?_)
    refine (k_iinc (b := (y2 + (1 : Int32))) (ls' := [.ref 18, .int y1, .int (y2 + (1 : Int32)), .int s0]) t25_88 rfl rfl (by rw [zci_1]) rfl).trans ?_
    refine (k_goto t25_91 rfl).trans ?_
    exact (zk_mk (ls' := [.ref 18, .int y1, .int (y2 + (1 : Int32)), z_j]) t25_12 rfl)
  · refine (k_iconst t25_78 rfl zci_0).trans ?_
    exact k_zretC t25_79 rfl (by decide) (by decide)
-- X1_readSum
theorem e25 (d : Nat) (x1 : Int32) (S : z_S) (hW : z_W S)  : fI (d + 1) 25 [.ref 18, .int x1] S = (zb (fI d 26 [.ref 18, .int x1] S) fun v1 S2 => (if ¬ v1 = (0 : Int32) then b25_12 d x1 (0 : Int32) S2 else some ((0 : Int32), S2))) := by
  refine (fI_en (Nat.le_of_ble_eq_true rfl) rfl).trans ?_
  refine (k_aload_n t25_0 rfl rfl).trans ?_
  refine (k_iload_n t25_1 rfl rfl).trans ?_
  refine k_callI (as := [.ref 18, .int x1]) (rest := []) t25_2 rfl rfl (by decide) rfl rfl (Nat.le_of_ble_eq_true rfl) rfl (z_rcV hW (zK_18) (by decide)) (by decide) (Or.inr (by decide)) hW (fun v1 S2 hW2 => ?_)
  refine (k_if_ne t25_5 rfl).trans (z_ite (fun g3 => ?_) (fun g3 => ?_))
  · refine (k_iconst t25_10 rfl zci_0).trans ?_
    refine (k_istore_n (ls' := [.ref 18, .int x1, .int (0 : Int32), z_j]) t25_11 rfl rfl).trans ?_
    exact (zk_mk (ls' := [.ref 18, .int x1, .int (0 : Int32), z_j]) t25_12 rfl)
  · refine (k_iconst t25_8 rfl zci_0).trans ?_
    exact k_zretC t25_9 rfl (by decide) (by decide)
theorem t26_0 : z_ft 26 0 = some (.aload_n 0, 1, none, [], 0, 0, 0, 0) := z_ftd (by decide +kernel)
theorem t26_1 : z_ft 26 1 = some (.iload_n 1, 1, none, [], 0, 0, 0, 0) := z_ftd (by decide +kernel)
theorem t26_2 : z_ft 26 2 = some (.invokevirtual 181, 3, none, [], 27, 0, 47, 0) := z_ftd (by decide +kernel)
theorem t26_5 : z_ft 26 5 = some (.ifCond .ne 5, 3, none, [], 10, 0, 0, 0) := z_ftd (by decide +kernel)
theorem t26_8 : z_ft 26 8 = some (.iconst 0, 1, none, [], 0, 0, 0, 0) := z_ftd (by decide +kernel)
theorem t26_9 : z_ft 26 9 = some (.ireturn, 1, none, [], 0, 0, 0, 0) := z_ftd (by decide +kernel)
theorem t26_10 : z_ft 26 10 = some (.iconst 0, 1, none, [], 0, 0, 0, 0) := z_ftd (by decide +kernel)
theorem t26_11 : z_ft 26 11 = some (.istore_n 2, 1, none, [], 0, 0, 0, 0) := z_ftd (by decide +kernel)
theorem t26_12 : z_ft 26 12 = some (.iload_n 2, 1, (some [0, 1, 2]), [], 0, 0, 0, 0) := z_ftd (by decide +kernel)
theorem t26_13 : z_ft 26 13 = some (.sipush 1600, 3, none, [], 0, 0, 0, 0) := z_ftd (by decide +kernel)
theorem t26_16 : z_ft 26 16 = some (.if_icmp .ge 93, 3, none, [], 109, 0, 0, 0) := z_ftd (by decide +kernel)
theorem t26_19 : z_ft 26 19 = some (.aload_n 0, 1, none, [], 0, 0, 0, 0) := z_ftd (by decide +kernel)
theorem t26_20 : z_ft 26 20 = some (.getfield 21, 3, none, [], 1, 2, 25, 0) := z_ftd (by decide +kernel)
theorem t26_23 : z_ft 26 23 = some (.bipush 42, 2, none, [], 0, 0, 0, 0) := z_ftd (by decide +kernel)
theorem t26_25 : z_ft 26 25 = some (.invokevirtual 66, 3, none, [], 104, 0, 48, 0) := z_ftd (by decide +kernel)
theorem t26_28 : z_ft 26 28 = some (.ifCond .eq 8, 3, none, [], 36, 0, 0, 0) := z_ftd (by decide +kernel)
theorem t26_31 : z_ft 26 31 = some (.bipush (-8), 2, none, [], 0, 0, 0, 0) := z_ftd (by decide +kernel)
theorem t26_33 : z_ft 26 33 = some (.goto 38, 3, none, [], 71, 0, 0, 0) := z_ftd (by decide +kernel)
theorem t26_36 : z_ft 26 36 = some (.aload_n 0, 1, none, [], 0, 0, 0, 0) := z_ftd (by decide +kernel)
theorem t26_37 : z_ft 26 37 = some (.getfield 21, 3, none, [], 1, 2, 25, 0) := z_ftd (by decide +kernel)
theorem t26_40 : z_ft 26 40 = some (.bipush 47, 2, none, [], 0, 0, 0, 0) := z_ftd (by decide +kernel)
theorem t26_42 : z_ft 26 42 = some (.invokevirtual 66, 3, none, [], 104, 0, 48, 0) := z_ftd (by decide +kernel)
theorem t26_45 : z_ft 26 45 = some (.ifCond .eq 8, 3, none, [], 53, 0, 0, 0) := z_ftd (by decide +kernel)
theorem t26_48 : z_ft 26 48 = some (.bipush (-9), 2, none, [], 0, 0, 0, 0) := z_ftd (by decide +kernel)
theorem t26_50 : z_ft 26 50 = some (.goto 21, 3, none, [], 71, 0, 0, 0) := z_ftd (by decide +kernel)
theorem t26_53 : z_ft 26 53 = some (.aload_n 0, 1, none, [], 0, 0, 0, 0) := z_ftd (by decide +kernel)
theorem t26_54 : z_ft 26 54 = some (.getfield 21, 3, none, [], 1, 2, 25, 0) := z_ftd (by decide +kernel)
theorem t26_57 : z_ft 26 57 = some (.bipush 37, 2, none, [], 0, 0, 0, 0) := z_ftd (by decide +kernel)
theorem t26_59 : z_ft 26 59 = some (.invokevirtual 66, 3, none, [], 104, 0, 48, 0) := z_ftd (by decide +kernel)
theorem t26_62 : z_ft 26 62 = some (.ifCond .eq 8, 3, none, [], 70, 0, 0, 0) := z_ftd (by decide +kernel)
theorem t26_65 : z_ft 26 65 = some (.bipush (-10), 2, none, [], 0, 0, 0, 0) := z_ftd (by decide +kernel)
theorem t26_67 : z_ft 26 67 = some (.goto 4, 3, none, [], 71, 0, 0, 0) := z_ftd (by decide +kernel)
theorem t26_70 : z_ft 26 70 = some (.iconst 0, 1, none, [], 0, 0, 0, 0) := z_ftd (by decide +kernel)
theorem t26_71 : z_ft 26 71 = some (.istore_n 3, 1, (some [0, 1, 2]), [], 0, 0, 0, 0) := z_ftd (by decide +kernel)
theorem t26_72 : z_ft 26 72 = some (.iload_n 3, 1, none, [], 0, 0, 0, 0) := z_ftd (by decide +kernel)
theorem t26_73 : z_ft 26 73 = some (.ifCond .ne 5, 3, none, [], 78, 0, 0, 0) := z_ftd (by decide +kernel)
theorem t26_76 : z_ft 26 76 = some (.iconst 1, 1, none, [], 0, 0, 0, 0) := z_ftd (by decide +kernel)
theorem t26_77 : z_ft 26 77 = some (.ireturn, 1, none, [], 0, 0, 0, 0) := z_ftd (by decide +kernel)
theorem t26_78 : z_ft 26 78 = some (.aload_n 0, 1, none, [], 0, 0, 0, 0) := z_ftd (by decide +kernel)
theorem t26_79 : z_ft 26 79 = some (.getfield 21, 3, none, [], 1, 2, 25, 0) := z_ftd (by decide +kernel)
theorem t26_82 : z_ft 26 82 = some (.invokevirtual 69, 3, none, [], 98, 0, 33, 0) := z_ftd (by decide +kernel)
theorem t26_85 : z_ft 26 85 = some (.aload_n 0, 1, none, [], 0, 0, 0, 0) := z_ftd (by decide +kernel)
theorem t26_86 : z_ft 26 86 = some (.iload_n 1, 1, none, [], 0, 0, 0, 0) := z_ftd (by decide +kernel)
theorem t26_87 : z_ft 26 87 = some (.invokevirtual 181, 3, none, [], 27, 0, 47, 0) := z_ftd (by decide +kernel)
theorem t26_90 : z_ft 26 90 = some (.ifCond .ne 5, 3, none, [], 95, 0, 0, 0) := z_ftd (by decide +kernel)
theorem t26_93 : z_ft 26 93 = some (.iconst 0, 1, none, [], 0, 0, 0, 0) := z_ftd (by decide +kernel)
theorem t26_94 : z_ft 26 94 = some (.ireturn, 1, none, [], 0, 0, 0, 0) := z_ftd (by decide +kernel)
theorem t26_95 : z_ft 26 95 = some (.aload_n 0, 1, none, [], 0, 0, 0, 0) := z_ftd (by decide +kernel)
theorem t26_96 : z_ft 26 96 = some (.getfield 28, 3, none, [], 1, 3, 26, 0) := z_ftd (by decide +kernel)
theorem t26_99 : z_ft 26 99 = some (.iload_n 3, 1, none, [], 0, 0, 0, 0) := z_ftd (by decide +kernel)
theorem t26_100 : z_ft 26 100 = some (.invokevirtual 165, 3, none, [], 66, 0, 52, 0) := z_ftd (by decide +kernel)
theorem t26_103 : z_ft 26 103 = some (.iinc 2 1, 3, none, [], 0, 0, 0, 0) := z_ftd (by decide +kernel)
theorem t26_106 : z_ft 26 106 = some (.goto (-94), 3, none, [], 12, 0, 0, 0) := z_ftd (by decide +kernel)
theorem t26_109 : z_ft 26 109 = some (.iconst 1, 1, none, [], 0, 0, 0, 0) := z_ftd (by decide +kernel)
theorem t26_110 : z_ft 26 110 = some (.ireturn, 1, none, [], 0, 0, 0, 0) := z_ftd (by decide +kernel)
noncomputable def b26_12 (d : Nat) (y1 : Int32) (y2 : Int32) (S : z_S) : Option (Int32 × z_S) := zk kI z_X0 d 26 12 [.ref 18, .int y1, .int y2, z_j] [] S
noncomputable def b26_71 (d : Nat) (y1 : Int32) (y2 : Int32) (s0 : Int32) (S : z_S) : Option (Int32 × z_S) := zk kI z_X0 d 26 71 [.ref 18, .int y1, .int y2, z_j] [.int s0] S
theorem b26_12_eq (d : Nat) (y1 : Int32) (y2 : Int32) (S : z_S) (hW : z_W S)  : b26_12 d y1 y2 S = (if (1600 : Int32) ≤ y2 then some ((1 : Int32), S) else (zb (fI d 104 [.ref 19, .int (42 : Int32)] S) fun v5 S6 => (if v5 = (0 : Int32) then (zb (fI d 104 [.ref 19, .int (47 : Int32)] S6) fun v8 S9 => (if v8 = (0 : Int32) then (zb (fI d 104 [.ref 19, .int (37 : Int32)] S9) fun v11 S12 => (if v11 = (0 : Int32) then b26_71 d y1 y2 (0 : Int32) S12 else b26_71 d y1 y2 (-10 : Int32) S12)) else b26_71 d y1 y2 (-9 : Int32) S9)) else b26_71 d y1 y2 (-8 : Int32) S6))) := by
  unfold b26_12
  refine (k_iload_n t26_12 rfl rfl).trans ?_
  refine (k_sipush t26_13 rfl zcs_1600).trans ?_
  refine (k_icmp_ge t26_16 rfl).trans (z_ite (fun g4 => ?_) (fun g4 => ?_))
  · refine (k_iconst t26_109 rfl zci_1).trans ?_
    exact k_zretC t26_110 rfl (by decide) (by decide)
  · refine (k_aload_n t26_19 rfl rfl).trans ?_
    refine (k_getR t26_20 rfl hW zK_18 (by decide) (by decide) (zF_18_2 hW)).trans ?_
    refine (k_bipush t26_23 rfl zcb_42).trans ?_
    refine k_callI (as := [.ref 19, .int (42 : Int32)]) (rest := []) t26_25 rfl rfl (by decide) rfl rfl (Nat.le_of_ble_eq_true rfl) rfl (z_rcV hW (zK_19) (by decide)) (by decide) (Or.inr (by decide)) hW (fun v5 S6 hW6 => ?_)
    refine (k_if_eq t26_28 rfl).trans (z_ite (fun g7 => ?_) (fun g7 => ?_))
    · refine (k_aload_n t26_36 rfl rfl).trans ?_
      refine (k_getR t26_37 rfl hW6 zK_18 (by decide) (by decide) (zF_18_2 hW6)).trans ?_
      refine (k_bipush t26_40 rfl zcb_47).trans ?_
      refine k_callI (as := [.ref 19, .int (47 : Int32)]) (rest := []) t26_42 rfl rfl (by decide) rfl rfl (Nat.le_of_ble_eq_true rfl) rfl (z_rcV hW6 (zK_19) (by decide)) (by decide) (Or.inr (by decide)) hW6 (fun v8 S9 hW9 => ?_)
      refine (k_if_eq t26_45 rfl).trans (z_ite (fun g10 => ?_) (fun g10 => ?_))
      · refine (k_aload_n t26_53 rfl rfl).trans ?_
        refine (k_getR t26_54 rfl hW9 zK_18 (by decide) (by decide) (zF_18_2 hW9)).trans ?_
        refine (k_bipush t26_57 rfl zcb_37).trans ?_
        refine k_callI (as := [.ref 19, .int (37 : Int32)]) (rest := []) t26_59 rfl rfl (by decide) rfl rfl (Nat.le_of_ble_eq_true rfl) rfl (z_rcV hW9 (zK_19) (by decide)) (by decide) (Or.inr (by decide)) hW9 (fun v11 S12 hW12 => ?_)
        refine (k_if_eq t26_62 rfl).trans (z_ite (fun g13 => ?_) (fun g13 => ?_))
        · refine (k_iconst t26_70 rfl zci_0).trans ?_
          exact (zk_mk (ls' := [.ref 18, .int y1, .int y2, z_j]) t26_71 rfl)
        · refine (k_bipush t26_65 rfl zcb_m10).trans ?_
          refine (k_goto t26_67 rfl).trans ?_
          exact (zk_mk (ls' := [.ref 18, .int y1, .int y2, z_j]) t26_71 rfl)
      · refine (k_bipush t26_48 rfl zcb_m9).trans ?_
        refine (k_goto t26_50 rfl).trans ?_
        exact (zk_mk (ls' := [.ref 18, .int y1, .int y2, z_j]) t26_71 rfl)
    · refine (k_bipush t26_31 rfl zcb_m8).trans ?_
      refine (k_goto t26_33 rfl).trans ?_
      exact (zk_mk (ls' := [.ref 18, .int y1, .int y2, z_j]) t26_71 rfl)
theorem b26_71_eq (d : Nat) (y1 : Int32) (y2 : Int32) (s0 : Int32) (S : z_S) (hW : z_W S)  : b26_71 d y1 y2 s0 S = (if ¬ s0 = (0 : Int32) then ((fV d 98 [.ref 19] S).bind fun S16 => (zb (fI d 27 [.ref 18, .int y1] S16) fun v17 S18 => (if ¬ v17 = (0 : Int32) then ((fV d 66 [.ref (gP S18 18 3), .int s0] S18).bind fun S21 => b26_12 d y1 (y2 + (1 : Int32)) S21) else some ((0 : Int32), S18)))) else some ((1 : Int32), S)) := by
  unfold b26_71
  refine (k_istore_n (ls' := [.ref 18, .int y1, .int y2, .int s0]) t26_71 rfl rfl).trans ?_
  refine (k_iload_n t26_72 rfl rfl).trans ?_
  refine (k_if_ne t26_73 rfl).trans (z_ite (fun g14 => ?_) (fun g14 => ?_))
  · refine (k_aload_n t26_78 rfl rfl).trans ?_
    refine (k_getR t26_79 rfl hW zK_18 (by decide) (by decide) (zF_18_2 hW)).trans ?_
    refine k_callV (as := [.ref 19]) (rest := []) t26_82 rfl rfl (by decide) rfl rfl (Nat.le_of_ble_eq_true rfl) rfl (z_rcV hW (zK_19) (by decide)) (by decide) (by decide) hW (fun S16 hW16 => ?_)
    refine (k_aload_n t26_85 rfl rfl).trans ?_
    refine (k_iload_n t26_86 rfl rfl).trans ?_
    refine k_callI (as := [.ref 18, .int y1]) (rest := []) t26_87 rfl rfl (by decide) rfl rfl (Nat.le_of_ble_eq_true rfl) rfl (z_rcV hW16 (zK_18) (by decide)) (by decide) (Or.inr (by decide)) hW16 (fun v17 S18 hW18 => ?_)
    refine (k_if_ne t26_90 rfl).trans (z_ite (fun g19 => ?_) (fun g19 => ?_))
    · refine (k_aload_n t26_95 rfl rfl).trans ?_
      refine (k_getR t26_96 rfl hW18 zK_18 (by decide) (by decide) (zM_18_3 hW18).1).trans ?_
      refine (k_iload_n t26_99 rfl rfl).trans ?_
      refine k_callV (as := [.ref (gP S18 18 3), .int s0]) (rest := []) t26_100 rfl rfl (by decide) rfl rfl (Nat.le_of_ble_eq_true rfl) rfl (z_rcV hW18 ((zM_18_3 hW18).2) (by decide)) (by decide) (by decide) hW18 (fun S21 hW21 => ?_)
      refine (k_iinc (b := (y2 + (1 : Int32))) (ls' := [.ref 18, .int y1, .int (y2 + (1 : Int32)), .int s0]) t26_103 rfl rfl (by rw [zci_1]) rfl).trans ?_
      refine (k_goto t26_106 rfl).trans ?_
      exact (zk_mk (ls' := [.ref 18, .int y1, .int (y2 + (1 : Int32)), z_j]) t26_12 rfl)
    · refine (k_iconst t26_93 rfl zci_0).trans ?_
      exact k_zretC t26_94 rfl (by decide) (by decide)
  · refine (k_iconst t26_76 rfl zci_1).trans ?_
    exact k_zretC t26_77 rfl (by decide) (by decide)
-- X1_readProduct
theorem e26 (d : Nat) (x1 : Int32) (S : z_S) (hW : z_W S)  : fI (d + 1) 26 [.ref 18, .int x1] S = (zb (fI d 27 [.ref 18, .int x1] S) fun v1 S2 => (if ¬ v1 = (0 : Int32) then b26_12 d x1 (0 : Int32) S2 else some ((0 : Int32), S2))) := by
  refine (fI_en (Nat.le_of_ble_eq_true rfl) rfl).trans ?_
  refine (k_aload_n t26_0 rfl rfl).trans ?_
  refine (k_iload_n t26_1 rfl rfl).trans ?_
  refine k_callI (as := [.ref 18, .int x1]) (rest := []) t26_2 rfl rfl (by decide) rfl rfl (Nat.le_of_ble_eq_true rfl) rfl (z_rcV hW (zK_18) (by decide)) (by decide) (Or.inr (by decide)) hW (fun v1 S2 hW2 => ?_)
  refine (k_if_ne t26_5 rfl).trans (z_ite (fun g3 => ?_) (fun g3 => ?_))
  · refine (k_iconst t26_10 rfl zci_0).trans ?_
    refine (k_istore_n (ls' := [.ref 18, .int x1, .int (0 : Int32), z_j]) t26_11 rfl rfl).trans ?_
    exact (zk_mk (ls' := [.ref 18, .int x1, .int (0 : Int32), z_j]) t26_12 rfl)
  · refine (k_iconst t26_8 rfl zci_0).trans ?_
    exact k_zretC t26_9 rfl (by decide) (by decide)
theorem t27_0 : z_ft 27 0 = some (.aload_n 0, 1, none, [], 0, 0, 0, 0) := z_ftd (by decide +kernel)
theorem t27_1 : z_ft 27 1 = some (.getfield 21, 3, none, [], 1, 2, 25, 0) := z_ftd (by decide +kernel)
theorem t27_4 : z_ft 27 4 = some (.bipush 40, 2, none, [], 0, 0, 0, 0) := z_ftd (by decide +kernel)
theorem t27_6 : z_ft 27 6 = some (.invokevirtual 66, 3, none, [], 104, 0, 48, 0) := z_ftd (by decide +kernel)
theorem t27_9 : z_ft 27 9 = some (.ifCond .eq 36, 3, none, [], 45, 0, 0, 0) := z_ftd (by decide +kernel)
theorem t27_12 : z_ft 27 12 = some (.aload_n 0, 1, none, [], 0, 0, 0, 0) := z_ftd (by decide +kernel)
theorem t27_13 : z_ft 27 13 = some (.iload_n 1, 1, none, [], 0, 0, 0, 0) := z_ftd (by decide +kernel)
theorem t27_14 : z_ft 27 14 = some (.invokevirtual 172, 3, none, [], 24, 0, 49, 0) := z_ftd (by decide +kernel)
theorem t27_17 : z_ft 27 17 = some (.ifCond .eq 26, 3, none, [], 43, 0, 0, 0) := z_ftd (by decide +kernel)
theorem t27_20 : z_ft 27 20 = some (.aload_n 0, 1, none, [], 0, 0, 0, 0) := z_ftd (by decide +kernel)
theorem t27_21 : z_ft 27 21 = some (.iload_n 1, 1, none, [], 0, 0, 0, 0) := z_ftd (by decide +kernel)
theorem t27_22 : z_ft 27 22 = some (.iconst 1, 1, none, [], 0, 0, 0, 0) := z_ftd (by decide +kernel)
theorem t27_23 : z_ft 27 23 = some (.iadd, 1, none, [], 0, 0, 0, 0) := z_ftd (by decide +kernel)
theorem t27_24 : z_ft 27 24 = some (.invokevirtual 150, 3, none, [], 25, 0, 45, 0) := z_ftd (by decide +kernel)
theorem t27_27 : z_ft 27 27 = some (.ifCond .eq 16, 3, none, [], 43, 0, 0, 0) := z_ftd (by decide +kernel)
theorem t27_30 : z_ft 27 30 = some (.aload_n 0, 1, none, [], 0, 0, 0, 0) := z_ftd (by decide +kernel)
theorem t27_31 : z_ft 27 31 = some (.bipush 41, 2, none, [], 0, 0, 0, 0) := z_ftd (by decide +kernel)
theorem t27_33 : z_ft 27 33 = some (.invokevirtual 51, 3, none, [], 11, 0, 50, 0) := z_ftd (by decide +kernel)
theorem t27_36 : z_ft 27 36 = some (.ifCond .eq 7, 3, none, [], 43, 0, 0, 0) := z_ftd (by decide +kernel)
theorem t27_39 : z_ft 27 39 = some (.iconst 1, 1, none, [], 0, 0, 0, 0) := z_ftd (by decide +kernel)
theorem t27_40 : z_ft 27 40 = some (.goto 4, 3, none, [], 44, 0, 0, 0) := z_ftd (by decide +kernel)
theorem t27_43 : z_ft 27 43 = some (.iconst 0, 1, (some []), [], 0, 0, 0, 0) := z_ftd (by decide +kernel)
theorem t27_44 : z_ft 27 44 = some (.ireturn, 1, (some []), [], 0, 0, 0, 0) := z_ftd (by decide +kernel)
theorem t27_45 : z_ft 27 45 = some (.aload_n 0, 1, none, [], 0, 0, 0, 0) := z_ftd (by decide +kernel)
theorem t27_46 : z_ft 27 46 = some (.getfield 21, 3, none, [], 1, 2, 25, 0) := z_ftd (by decide +kernel)
theorem t27_49 : z_ft 27 49 = some (.bipush 22, 2, none, [], 0, 0, 0, 0) := z_ftd (by decide +kernel)
theorem t27_51 : z_ft 27 51 = some (.invokevirtual 123, 3, none, [], 103, 0, 39, 0) := z_ftd (by decide +kernel)
theorem t27_54 : z_ft 27 54 = some (.ifCond .eq 11, 3, none, [], 65, 0, 0, 0) := z_ftd (by decide +kernel)
theorem t27_57 : z_ft 27 57 = some (.aload_n 0, 1, none, [], 0, 0, 0, 0) := z_ftd (by decide +kernel)
theorem t27_58 : z_ft 27 58 = some (.iload_n 1, 1, none, [], 0, 0, 0, 0) := z_ftd (by decide +kernel)
theorem t27_59 : z_ft 27 59 = some (.bipush (-11), 2, none, [], 0, 0, 0, 0) := z_ftd (by decide +kernel)
theorem t27_61 : z_ft 27 61 = some (.invokevirtual 184, 3, none, [], 29, 0, 51, 0) := z_ftd (by decide +kernel)
theorem t27_64 : z_ft 27 64 = some (.ireturn, 1, none, [], 0, 0, 0, 0) := z_ftd (by decide +kernel)
theorem t27_65 : z_ft 27 65 = some (.aload_n 0, 1, none, [], 0, 0, 0, 0) := z_ftd (by decide +kernel)
theorem t27_66 : z_ft 27 66 = some (.getfield 21, 3, none, [], 1, 2, 25, 0) := z_ftd (by decide +kernel)
theorem t27_69 : z_ft 27 69 = some (.bipush 23, 2, none, [], 0, 0, 0, 0) := z_ftd (by decide +kernel)
theorem t27_71 : z_ft 27 71 = some (.invokevirtual 123, 3, none, [], 103, 0, 39, 0) := z_ftd (by decide +kernel)
theorem t27_74 : z_ft 27 74 = some (.ifCond .eq 11, 3, none, [], 85, 0, 0, 0) := z_ftd (by decide +kernel)
theorem t27_77 : z_ft 27 77 = some (.aload_n 0, 1, none, [], 0, 0, 0, 0) := z_ftd (by decide +kernel)
theorem t27_78 : z_ft 27 78 = some (.iload_n 1, 1, none, [], 0, 0, 0, 0) := z_ftd (by decide +kernel)
theorem t27_79 : z_ft 27 79 = some (.bipush (-12), 2, none, [], 0, 0, 0, 0) := z_ftd (by decide +kernel)
theorem t27_81 : z_ft 27 81 = some (.invokevirtual 184, 3, none, [], 29, 0, 51, 0) := z_ftd (by decide +kernel)
theorem t27_84 : z_ft 27 84 = some (.ireturn, 1, none, [], 0, 0, 0, 0) := z_ftd (by decide +kernel)
theorem t27_85 : z_ft 27 85 = some (.aload_n 0, 1, none, [], 0, 0, 0, 0) := z_ftd (by decide +kernel)
theorem t27_86 : z_ft 27 86 = some (.getfield 21, 3, none, [], 1, 2, 25, 0) := z_ftd (by decide +kernel)
theorem t27_89 : z_ft 27 89 = some (.bipush 17, 2, none, [], 0, 0, 0, 0) := z_ftd (by decide +kernel)
theorem t27_91 : z_ft 27 91 = some (.invokevirtual 123, 3, none, [], 103, 0, 39, 0) := z_ftd (by decide +kernel)
theorem t27_94 : z_ft 27 94 = some (.ifCond .eq 9, 3, none, [], 103, 0, 0, 0) := z_ftd (by decide +kernel)
theorem t27_97 : z_ft 27 97 = some (.aload_n 0, 1, none, [], 0, 0, 0, 0) := z_ftd (by decide +kernel)
theorem t27_98 : z_ft 27 98 = some (.iload_n 1, 1, none, [], 0, 0, 0, 0) := z_ftd (by decide +kernel)
theorem t27_99 : z_ft 27 99 = some (.invokevirtual 187, 3, none, [], 30, 0, 53, 0) := z_ftd (by decide +kernel)
theorem t27_102 : z_ft 27 102 = some (.ireturn, 1, none, [], 0, 0, 0, 0) := z_ftd (by decide +kernel)
theorem t27_103 : z_ft 27 103 = some (.aload_n 0, 1, none, [], 0, 0, 0, 0) := z_ftd (by decide +kernel)
theorem t27_104 : z_ft 27 104 = some (.getfield 21, 3, none, [], 1, 2, 25, 0) := z_ftd (by decide +kernel)
theorem t27_107 : z_ft 27 107 = some (.getfield 40, 3, none, [], 10, 4, 18, 0) := z_ftd (by decide +kernel)
theorem t27_110 : z_ft 27 110 = some (.iconst 2, 1, none, [], 0, 0, 0, 0) := z_ftd (by decide +kernel)
theorem t27_111 : z_ft 27 111 = some (.if_icmp .ne 20, 3, none, [], 131, 0, 0, 0) := z_ftd (by decide +kernel)
theorem t27_114 : z_ft 27 114 = some (.aload_n 0, 1, none, [], 0, 0, 0, 0) := z_ftd (by decide +kernel)
theorem t27_115 : z_ft 27 115 = some (.getfield 28, 3, none, [], 1, 3, 26, 0) := z_ftd (by decide +kernel)
theorem t27_118 : z_ft 27 118 = some (.aload_n 0, 1, none, [], 0, 0, 0, 0) := z_ftd (by decide +kernel)
theorem t27_119 : z_ft 27 119 = some (.getfield 21, 3, none, [], 1, 2, 25, 0) := z_ftd (by decide +kernel)
theorem t27_122 : z_ft 27 122 = some (.getfield 87, 3, none, [], 10, 6, 20, 0) := z_ftd (by decide +kernel)
theorem t27_125 : z_ft 27 125 = some (.invokevirtual 165, 3, none, [], 66, 0, 52, 0) := z_ftd (by decide +kernel)
theorem t27_128 : z_ft 27 128 = some (.goto 25, 3, none, [], 153, 0, 0, 0) := z_ftd (by decide +kernel)
theorem t27_131 : z_ft 27 131 = some (.aload_n 0, 1, none, [], 0, 0, 0, 0) := z_ftd (by decide +kernel)
theorem t27_132 : z_ft 27 132 = some (.invokevirtual 190, 3, none, [], 28, 0, 58, 0) := z_ftd (by decide +kernel)
theorem t27_135 : z_ft 27 135 = some (.istore_n 2, 1, none, [], 0, 0, 0, 0) := z_ftd (by decide +kernel)
theorem t27_136 : z_ft 27 136 = some (.iload_n 2, 1, none, [], 0, 0, 0, 0) := z_ftd (by decide +kernel)
theorem t27_137 : z_ft 27 137 = some (.ifCond .ne 8, 3, none, [], 145, 0, 0, 0) := z_ftd (by decide +kernel)
theorem t27_140 : z_ft 27 140 = some (.aload_n 0, 1, none, [], 0, 0, 0, 0) := z_ftd (by decide +kernel)
theorem t27_141 : z_ft 27 141 = some (.invokevirtual 57, 3, none, [], 9, 0, 32, 0) := z_ftd (by decide +kernel)
theorem t27_144 : z_ft 27 144 = some (.ireturn, 1, none, [], 0, 0, 0, 0) := z_ftd (by decide +kernel)
theorem t27_145 : z_ft 27 145 = some (.aload_n 0, 1, none, [], 0, 0, 0, 0) := z_ftd (by decide +kernel)
theorem t27_146 : z_ft 27 146 = some (.getfield 28, 3, none, [], 1, 3, 26, 0) := z_ftd (by decide +kernel)
theorem t27_149 : z_ft 27 149 = some (.iload_n 2, 1, none, [], 0, 0, 0, 0) := z_ftd (by decide +kernel)
theorem t27_150 : z_ft 27 150 = some (.invokevirtual 165, 3, none, [], 66, 0, 52, 0) := z_ftd (by decide +kernel)
theorem t27_153 : z_ft 27 153 = some (.aload_n 0, 1, (some [0]), [], 0, 0, 0, 0) := z_ftd (by decide +kernel)
theorem t27_154 : z_ft 27 154 = some (.getfield 21, 3, none, [], 1, 2, 25, 0) := z_ftd (by decide +kernel)
theorem t27_157 : z_ft 27 157 = some (.invokevirtual 69, 3, none, [], 98, 0, 33, 0) := z_ftd (by decide +kernel)
theorem t27_160 : z_ft 27 160 = some (.iconst 1, 1, none, [], 0, 0, 0, 0) := z_ftd (by decide +kernel)
theorem t27_161 : z_ft 27 161 = some (.ireturn, 1, none, [], 0, 0, 0, 0) := z_ftd (by decide +kernel)
noncomputable def b27_153 (d : Nat)  (S : z_S) : Option (Int32 × z_S) := zk kI z_X0 d 27 153 [.ref 18, z_j, z_j] [] S
noncomputable def b27_43 (d : Nat)  (S : z_S) : Option (Int32 × z_S) := zk kI z_X0 d 27 43 [z_j, z_j, z_j] [] S
theorem b27_153_eq (d : Nat)  (S : z_S) (hW : z_W S)  : b27_153 d  S = ((fV d 98 [.ref 19] S).bind fun S39 => some ((1 : Int32), S39)) := by
  unfold b27_153
  refine (k_aload_n t27_153 rfl rfl).trans ?_
  refine (k_getR t27_154 rfl hW zK_18 (by decide) (by decide) (zF_18_2 hW)).trans ?_
  refine k_callV (as := [.ref 19]) (rest := []) t27_157 rfl rfl (by decide) rfl rfl (Nat.le_of_ble_eq_true rfl) rfl (z_rcV hW (zK_19) (by decide)) (by decide) (by decide) hW (fun S39 hW39 => ?_)
  refine (k_iconst t27_160 rfl zci_1).trans ?_
  exact k_zretC t27_161 rfl (by decide) (by decide)
theorem b27_43_eq (d : Nat)  (S : z_S) (hW : z_W S)  : b27_43 d  S = some ((0 : Int32), S) := by
  unfold b27_43
  refine (k_iconst t27_43 rfl zci_0).trans ?_
  refine (zk_mk (ls' := [z_j, z_j, z_j]) t27_44 rfl).trans ?_
  exact k_zretC t27_44 rfl (by decide) (by decide)
-- X1_readPart
theorem e27 (d : Nat) (x1 : Int32) (S : z_S) (hW : z_W S)  : fI (d + 1) 27 [.ref 18, .int x1] S = (zb (fI d 104 [.ref 19, .int (40 : Int32)] S) fun v1 S2 => (if v1 = (0 : Int32) then (zb (fI d 103 [.ref 19, .int (22 : Int32)] S2) fun v4 S5 => (if v4 = (0 : Int32) then (zb (fI d 103 [.ref 19, .int (23 : Int32)] S5) fun v7 S8 => (if v7 = (0 : Int32) then (zb (fI d 103 [.ref 19, .int (17 : Int32)] S8) fun v10 S11 => (if v10 = (0 : Int32) then (if ¬ (gI S11 19 4) = (2 : Int32) then (zb (fI d 28 [.ref 18] S11) fun v14 S15 => (if ¬ v14 = (0 : Int32) then ((fV d 66 [.ref (gP S15 18 3), .int v14] S15).bind fun S18 => b27_153 d S18) else (zb (fI d 9 [.ref 18] S15) fun v19 S20 => (if v19 = 0 ∨ v19 = 1 then some (v19, S20) else none)))) else ((fV d 66 [.ref (gP S11 18 3), .int (gI S11 19 6)] S11).bind fun S22 => b27_153 d S22)) else (zb (fI d 30 [.ref 18, .int x1] S11) fun v23 S24 => (if v23 = 0 ∨ v23 = 1 then some (v23, S24) else none)))) else (zb (fI d 29 [.ref 18, .int x1, .int (-12 : Int32)] S8) fun v25 S26 => (if v25 = 0 ∨ v25 = 1 then some (v25, S26) else none)))) else (zb (fI d 29 [.ref 18, .int x1, .int (-11 : Int32)] S5) fun v27 S28 => (if v27 = 0 ∨ v27 = 1 then some (v27, S28) else none)))) else (zb (fI d 24 [.ref 18, .int x1] S2) fun v29 S30 => (if v29 = (0 : Int32) then b27_43 d S30 else (zb (fI d 25 [.ref 18, .int (x1 + (1 : Int32))] S30) fun v32 S33 => (if v32 = (0 : Int32) then b27_43 d S33 else (zb (fI d 11 [.ref 18, .int (41 : Int32)] S33) fun v35 S36 => (if v35 = (0 : Int32) then b27_43 d S36 else some ((1 : Int32), S36))))))))) := by
  refine (fI_en (Nat.le_of_ble_eq_true rfl) rfl).trans ?_
  refine (k_aload_n t27_0 rfl rfl).trans ?_
  refine (k_getR t27_1 rfl hW zK_18 (by decide) (by decide) (zF_18_2 hW)).trans ?_
  refine (k_bipush t27_4 rfl zcb_40).trans ?_
  refine k_callI (as := [.ref 19, .int (40 : Int32)]) (rest := []) t27_6 rfl rfl (by decide) rfl rfl (Nat.le_of_ble_eq_true rfl) rfl (z_rcV hW (zK_19) (by decide)) (by decide) (Or.inr (by decide)) hW (fun v1 S2 hW2 => ?_)
  refine (k_if_eq t27_9 rfl).trans (z_ite (fun g3 => ?_) (fun g3 => ?_))
  · refine (k_aload_n t27_45 rfl rfl).trans ?_
    refine (k_getR t27_46 rfl hW2 zK_18 (by decide) (by decide) (zF_18_2 hW2)).trans ?_
    refine (k_bipush t27_49 rfl zcb_22).trans ?_
    refine k_callI (as := [.ref 19, .int (22 : Int32)]) (rest := []) t27_51 rfl rfl (by decide) rfl rfl (Nat.le_of_ble_eq_true rfl) rfl (z_rcV hW2 (zK_19) (by decide)) (by decide) (Or.inr (by decide)) hW2 (fun v4 S5 hW5 => ?_)
    refine (k_if_eq t27_54 rfl).trans (z_ite (fun g6 => ?_) (fun g6 => ?_))
    · refine (k_aload_n t27_65 rfl rfl).trans ?_
      refine (k_getR t27_66 rfl hW5 zK_18 (by decide) (by decide) (zF_18_2 hW5)).trans ?_
      refine (k_bipush t27_69 rfl zcb_23).trans ?_
      refine k_callI (as := [.ref 19, .int (23 : Int32)]) (rest := []) t27_71 rfl rfl (by decide) rfl rfl (Nat.le_of_ble_eq_true rfl) rfl (z_rcV hW5 (zK_19) (by decide)) (by decide) (Or.inr (by decide)) hW5 (fun v7 S8 hW8 => ?_)
      refine (k_if_eq t27_74 rfl).trans (z_ite (fun g9 => ?_) (fun g9 => ?_))
      · refine (k_aload_n t27_85 rfl rfl).trans ?_
        refine (k_getR t27_86 rfl hW8 zK_18 (by decide) (by decide) (zF_18_2 hW8)).trans ?_
        refine (k_bipush t27_89 rfl zcb_17).trans ?_
        refine k_callI (as := [.ref 19, .int (17 : Int32)]) (rest := []) t27_91 rfl rfl (by decide) rfl rfl (Nat.le_of_ble_eq_true rfl) rfl (z_rcV hW8 (zK_19) (by decide)) (by decide) (Or.inr (by decide)) hW8 (fun v10 S11 hW11 => ?_)
        refine (k_if_eq t27_94 rfl).trans (z_ite (fun g12 => ?_) (fun g12 => ?_))
        · refine (k_aload_n t27_103 rfl rfl).trans ?_
          refine (k_getR t27_104 rfl hW11 zK_18 (by decide) (by decide) (zF_18_2 hW11)).trans ?_
          refine (k_getI t27_107 rfl hW11 zK_19 (by decide) (by decide)).trans ?_
          refine (k_iconst t27_110 rfl zci_2).trans ?_
          refine (k_icmp_ne t27_111 rfl).trans (z_ite (fun g13 => ?_) (fun g13 => ?_))
          · refine (k_aload_n t27_131 rfl rfl).trans ?_
            refine k_callI (as := [.ref 18]) (rest := []) t27_132 rfl rfl (by decide) rfl rfl (Nat.le_of_ble_eq_true rfl) rfl (z_rcV hW11 (zK_18) (by decide)) (by decide) (Or.inl (by decide)) hW11 (fun v14 S15 hW15 => ?_)
            refine (k_istore_n (ls' := [.ref 18, .int x1, .int v14]) t27_135 rfl rfl).trans ?_
            refine (k_iload_n t27_136 rfl rfl).trans ?_
            refine (k_if_ne t27_137 rfl).trans (z_ite (fun g16 => ?_) (fun g16 => ?_))
            · refine (k_aload_n t27_145 rfl rfl).trans ?_
              refine (k_getR t27_146 rfl hW15 zK_18 (by decide) (by decide) (zM_18_3 hW15).1).trans ?_
              refine (k_iload_n t27_149 rfl rfl).trans ?_
              refine k_callV (as := [.ref (gP S15 18 3), .int v14]) (rest := []) t27_150 rfl rfl (by decide) rfl rfl (Nat.le_of_ble_eq_true rfl) rfl (z_rcV hW15 ((zM_18_3 hW15).2) (by decide)) (by decide) (by decide) hW15 (fun S18 hW18 => ?_)
              exact (zk_mk (ls' := [.ref 18, z_j, z_j]) t27_153 rfl)
            · refine (k_aload_n t27_140 rfl rfl).trans ?_
              refine k_callI (as := [.ref 18]) (rest := []) t27_141 rfl rfl (by decide) rfl rfl (Nat.le_of_ble_eq_true rfl) rfl (z_rcV hW15 (zK_18) (by decide)) (by decide) (Or.inr (by decide)) hW15 (fun v19 S20 hW20 => ?_)
              exact (k_zreturn t27_144 rfl (by decide)).trans (z_ite (fun _ => rfl) (fun _ => rfl))
          · refine (k_aload_n t27_114 rfl rfl).trans ?_
            refine (k_getR t27_115 rfl hW11 zK_18 (by decide) (by decide) (zM_18_3 hW11).1).trans ?_
            refine (k_aload_n t27_118 rfl rfl).trans ?_
            refine (k_getR t27_119 rfl hW11 zK_18 (by decide) (by decide) (zF_18_2 hW11)).trans ?_
            refine (k_getI t27_122 rfl hW11 zK_19 (by decide) (by decide)).trans ?_
            refine k_callV (as := [.ref (gP S11 18 3), .int (gI S11 19 6)]) (rest := []) t27_125 rfl rfl (by decide) rfl rfl (Nat.le_of_ble_eq_true rfl) rfl (z_rcV hW11 ((zM_18_3 hW11).2) (by decide)) (by decide) (by decide) hW11 (fun S22 hW22 => ?_)
            refine (k_goto t27_128 rfl).trans ?_
            exact (zk_mk (ls' := [.ref 18, z_j, z_j]) t27_153 rfl)
        · refine (k_aload_n t27_97 rfl rfl).trans ?_
          refine (k_iload_n t27_98 rfl rfl).trans ?_
          refine k_callI (as := [.ref 18, .int x1]) (rest := []) t27_99 rfl rfl (by decide) rfl rfl (Nat.le_of_ble_eq_true rfl) rfl (z_rcV hW11 (zK_18) (by decide)) (by decide) (Or.inr (by decide)) hW11 (fun v23 S24 hW24 => ?_)
          exact (k_zreturn t27_102 rfl (by decide)).trans (z_ite (fun _ => rfl) (fun _ => rfl))
      · refine (k_aload_n t27_77 rfl rfl).trans ?_
        refine (k_iload_n t27_78 rfl rfl).trans ?_
        refine (k_bipush t27_79 rfl zcb_m12).trans ?_
        refine k_callI (as := [.ref 18, .int x1, .int (-12 : Int32)]) (rest := []) t27_81 rfl rfl (by decide) rfl rfl (Nat.le_of_ble_eq_true rfl) rfl (z_rcV hW8 (zK_18) (by decide)) (by decide) (Or.inr (by decide)) hW8 (fun v25 S26 hW26 => ?_)
        exact (k_zreturn t27_84 rfl (by decide)).trans (z_ite (fun _ => rfl) (fun _ => rfl))
    · refine (k_aload_n t27_57 rfl rfl).trans ?_
      refine (k_iload_n t27_58 rfl rfl).trans ?_
      refine (k_bipush t27_59 rfl zcb_m11).trans ?_
      refine k_callI (as := [.ref 18, .int x1, .int (-11 : Int32)]) (rest := []) t27_61 rfl rfl (by decide) rfl rfl (Nat.le_of_ble_eq_true rfl) rfl (z_rcV hW5 (zK_18) (by decide)) (by decide) (Or.inr (by decide)) hW5 (fun v27 S28 hW28 => ?_)
      exact (k_zreturn t27_64 rfl (by decide)).trans (z_ite (fun _ => rfl) (fun _ => rfl))
  · refine (k_aload_n t27_12 rfl rfl).trans ?_
    refine (k_iload_n t27_13 rfl rfl).trans ?_
    refine k_callI (as := [.ref 18, .int x1]) (rest := []) t27_14 rfl rfl (by decide) rfl rfl (Nat.le_of_ble_eq_true rfl) rfl (z_rcV hW2 (zK_18) (by decide)) (by decide) (Or.inr (by decide)) hW2 (fun v29 S30 hW30 => ?_)
    refine (k_if_eq t27_17 rfl).trans (z_ite (fun g31 => ?_) (fun g31 => ?_))
    · exact (zk_mk (ls' := [z_j, z_j, z_j]) t27_43 rfl)
    · refine (k_aload_n t27_20 rfl rfl).trans ?_
      refine (k_iload_n t27_21 rfl rfl).trans ?_
      refine (k_iconst t27_22 rfl zci_1).trans ?_
      refine (k_iadd t27_23 rfl).trans ?_
      refine k_callI (as := [.ref 18, .int (x1 + (1 : Int32))]) (rest := []) t27_24 rfl rfl (by decide) rfl rfl (Nat.le_of_ble_eq_true rfl) rfl (z_rcV hW30 (zK_18) (by decide)) (by decide) (Or.inr (by decide)) hW30 (fun v32 S33 hW33 => ?_)
      refine (k_if_eq t27_27 rfl).trans (z_ite (fun g34 => ?_) (fun g34 => ?_))
      · exact (zk_mk (ls' := [z_j, z_j, z_j]) t27_43 rfl)
      · refine (k_aload_n t27_30 rfl rfl).trans ?_
        refine (k_bipush t27_31 rfl zcb_41).trans ?_
        refine k_callI (as := [.ref 18, .int (41 : Int32)]) (rest := []) t27_33 rfl rfl (by decide) rfl rfl (Nat.le_of_ble_eq_true rfl) rfl (z_rcV hW33 (zK_18) (by decide)) (by decide) (Or.inr (by decide)) hW33 (fun v35 S36 hW36 => ?_)
        refine (k_if_eq t27_36 rfl).trans (z_ite (fun g37 => ?_) (fun g37 => ?_))
        · exact (zk_mk (ls' := [z_j, z_j, z_j]) t27_43 rfl)
        · refine (k_iconst t27_39 rfl zci_1).trans ?_
          refine (k_goto t27_40 rfl).trans ?_
          refine (zk_mk (ls' := [z_j, z_j, z_j]) t27_44 rfl).trans ?_
          exact k_zretC t27_44 rfl (by decide) (by decide)
theorem t28_0 : z_ft 28 0 = some (.aload_n 0, 1, none, [], 0, 0, 0, 0) := z_ftd (by decide +kernel)
theorem t28_1 : z_ft 28 1 = some (.getfield 25, 3, none, [], 1, 4, 27, 0) := z_ftd (by decide +kernel)
theorem t28_4 : z_ft 28 4 = some (.ifCond .ne 8, 3, none, [], 12, 0, 0, 0) := z_ftd (by decide +kernel)
theorem t28_7 : z_ft 28 7 = some (.bipush 15, 2, none, [], 0, 0, 0, 0) := z_ftd (by decide +kernel)
theorem t28_9 : z_ft 28 9 = some (.goto 17, 3, none, [], 26, 0, 0, 0) := z_ftd (by decide +kernel)
theorem t28_12 : z_ft 28 12 = some (.aload_n 0, 1, none, [], 0, 0, 0, 0) := z_ftd (by decide +kernel)
theorem t28_13 : z_ft 28 13 = some (.getfield 25, 3, none, [], 1, 4, 27, 0) := z_ftd (by decide +kernel)
theorem t28_16 : z_ft 28 16 = some (.iconst 1, 1, none, [], 0, 0, 0, 0) := z_ftd (by decide +kernel)
theorem t28_17 : z_ft 28 17 = some (.if_icmp .ne 7, 3, none, [], 24, 0, 0, 0) := z_ftd (by decide +kernel)
theorem t28_20 : z_ft 28 20 = some (.iconst 1, 1, none, [], 0, 0, 0, 0) := z_ftd (by decide +kernel)
theorem t28_21 : z_ft 28 21 = some (.goto 5, 3, none, [], 26, 0, 0, 0) := z_ftd (by decide +kernel)
theorem t28_24 : z_ft 28 24 = some (.bipush 16, 2, none, [], 0, 0, 0, 0) := z_ftd (by decide +kernel)
theorem t28_26 : z_ft 28 26 = some (.istore_n 1, 1, (some [0]), [], 0, 0, 0, 0) := z_ftd (by decide +kernel)
theorem t28_27 : z_ft 28 27 = some (.aload_n 0, 1, none, [], 0, 0, 0, 0) := z_ftd (by decide +kernel)
theorem t28_28 : z_ft 28 28 = some (.getfield 21, 3, none, [], 1, 2, 25, 0) := z_ftd (by decide +kernel)
theorem t28_31 : z_ft 28 31 = some (.iload_n 1, 1, none, [], 0, 0, 0, 0) := z_ftd (by decide +kernel)
theorem t28_32 : z_ft 28 32 = some (.invokevirtual 123, 3, none, [], 103, 0, 39, 0) := z_ftd (by decide +kernel)
theorem t28_35 : z_ft 28 35 = some (.ifCond .eq 6, 3, none, [], 41, 0, 0, 0) := z_ftd (by decide +kernel)
theorem t28_38 : z_ft 28 38 = some (.bipush (-5), 2, none, [], 0, 0, 0, 0) := z_ftd (by decide +kernel)
theorem t28_40 : z_ft 28 40 = some (.ireturn, 1, none, [], 0, 0, 0, 0) := z_ftd (by decide +kernel)
theorem t28_41 : z_ft 28 41 = some (.aload_n 0, 1, none, [], 0, 0, 0, 0) := z_ftd (by decide +kernel)
theorem t28_42 : z_ft 28 42 = some (.getfield 21, 3, none, [], 1, 2, 25, 0) := z_ftd (by decide +kernel)
theorem t28_45 : z_ft 28 45 = some (.getfield 72, 3, none, [], 10, 7, 21, 0) := z_ftd (by decide +kernel)
theorem t28_48 : z_ft 28 48 = some (.tableswitch 43 11 14 #[32, 34, 37, 40], 32, none, [80, 82, 85, 88], 91, 0, 0, 0) := z_ftd (by decide +kernel)
theorem t28_80 : z_ft 28 80 = some (.iconst (-1), 1, none, [], 0, 0, 0, 0) := z_ftd (by decide +kernel)
theorem t28_81 : z_ft 28 81 = some (.ireturn, 1, none, [], 0, 0, 0, 0) := z_ftd (by decide +kernel)
theorem t28_82 : z_ft 28 82 = some (.bipush (-2), 2, none, [], 0, 0, 0, 0) := z_ftd (by decide +kernel)
theorem t28_84 : z_ft 28 84 = some (.ireturn, 1, none, [], 0, 0, 0, 0) := z_ftd (by decide +kernel)
theorem t28_85 : z_ft 28 85 = some (.bipush (-3), 2, none, [], 0, 0, 0, 0) := z_ftd (by decide +kernel)
theorem t28_87 : z_ft 28 87 = some (.ireturn, 1, none, [], 0, 0, 0, 0) := z_ftd (by decide +kernel)
theorem t28_88 : z_ft 28 88 = some (.bipush (-4), 2, none, [], 0, 0, 0, 0) := z_ftd (by decide +kernel)
theorem t28_90 : z_ft 28 90 = some (.ireturn, 1, none, [], 0, 0, 0, 0) := z_ftd (by decide +kernel)
theorem t28_91 : z_ft 28 91 = some (.iconst 0, 1, none, [], 0, 0, 0, 0) := z_ftd (by decide +kernel)
theorem t28_92 : z_ft 28 92 = some (.ireturn, 1, none, [], 0, 0, 0, 0) := z_ftd (by decide +kernel)
noncomputable def b28_26 (d : Nat) (s0 : Int32) (S : z_S) : Option (Int32 × z_S) := zk kI z_X0 d 28 26 [.ref 18, z_j] [.int s0] S
theorem b28_26_eq (d : Nat) (s0 : Int32) (S : z_S) (hW : z_W S)  : b28_26 d s0 S = (zb (fI d 103 [.ref 19, .int s0] S) fun v3 S4 => (if v3 = (0 : Int32) then (if (gI S4 19 7) = (11 : Int32) then some ((-1 : Int32), S4) else (if (gI S4 19 7) = (12 : Int32) then some ((-2 : Int32), S4) else (if (gI S4 19 7) = (13 : Int32) then some ((-3 : Int32), S4) else (if (gI S4 19 7) = (14 : Int32) then some ((-4 : Int32), S4) else some ((0 : Int32), S4))))) else some ((-5 : Int32), S4))) := by
  unfold b28_26
  refine (k_istore_n (ls' := [.ref 18, .int s0]) t28_26 rfl rfl).trans ?_
  refine (k_aload_n t28_27 rfl rfl).trans ?_
  refine (k_getR t28_28 rfl hW zK_18 (by decide) (by decide) (zF_18_2 hW)).trans ?_
  refine (k_iload_n t28_31 rfl rfl).trans ?_
  refine k_callI (as := [.ref 19, .int s0]) (rest := []) t28_32 rfl rfl (by decide) rfl rfl (Nat.le_of_ble_eq_true rfl) rfl (z_rcV hW (zK_19) (by decide)) (by decide) (Or.inr (by decide)) hW (fun v3 S4 hW4 => ?_)
  refine (k_if_eq t28_35 rfl).trans (z_ite (fun g5 => ?_) (fun g5 => ?_))
  · refine (k_aload_n t28_41 rfl rfl).trans ?_
    refine (k_getR t28_42 rfl hW4 zK_18 (by decide) (by decide) (zF_18_2 hW4)).trans ?_
    refine (k_getI t28_45 rfl hW4 zK_19 (by decide) (by decide)).trans ?_
    refine (k_switch t28_48 rfl).trans ?_
    refine (zk_swC (n := (11 : Int32)) (lo' := 12) zci_11 rfl).trans (z_ite (fun g6 => ?_) (fun g6 => ?_))
    · refine (k_iconst t28_80 rfl zci_m1).trans ?_
      exact k_ireturn t28_81 rfl (by decide)
    refine (zk_swC (n := (12 : Int32)) (lo' := 13) zci_12 rfl).trans (z_ite (fun g7 => ?_) (fun g7 => ?_))
    · refine (k_bipush t28_82 rfl zcb_m2).trans ?_
      exact k_ireturn t28_84 rfl (by decide)
    refine (zk_swC (n := (13 : Int32)) (lo' := 14) zci_13 rfl).trans (z_ite (fun g8 => ?_) (fun g8 => ?_))
    · refine (k_bipush t28_85 rfl zcb_m3).trans ?_
      exact k_ireturn t28_87 rfl (by decide)
    refine (zk_swC (n := (14 : Int32)) (lo' := 15) zci_14 rfl).trans (z_ite (fun g9 => ?_) (fun g9 => ?_))
    · refine (k_bipush t28_88 rfl zcb_m4).trans ?_
      exact k_ireturn t28_90 rfl (by decide)
    refine (k_iconst t28_91 rfl zci_0).trans ?_
    exact k_ireturn t28_92 rfl (by decide)
  · refine (k_bipush t28_38 rfl zcb_m5).trans ?_
    exact k_ireturn t28_40 rfl (by decide)
-- X1_variable
theorem e28 (d : Nat)  (S : z_S) (hW : z_W S)  : fI (d + 1) 28 [.ref 18] S = (if ¬ (gI S 18 4) = (0 : Int32) then (if ¬ (gI S 18 4) = (1 : Int32) then b28_26 d (16 : Int32) S else b28_26 d (1 : Int32) S) else b28_26 d (15 : Int32) S) := by
  refine (fI_en (Nat.le_of_ble_eq_true rfl) rfl).trans ?_
  refine (k_aload_n t28_0 rfl rfl).trans ?_
  refine (k_getI t28_1 rfl hW zK_18 (by decide) (by decide)).trans ?_
  refine (k_if_ne t28_4 rfl).trans (z_ite (fun g1 => ?_) (fun g1 => ?_))
  · refine (k_aload_n t28_12 rfl rfl).trans ?_
    refine (k_getI t28_13 rfl hW zK_18 (by decide) (by decide)).trans ?_
    refine (k_iconst t28_16 rfl zci_1).trans ?_
    refine (k_icmp_ne t28_17 rfl).trans (z_ite (fun g2 => ?_) (fun g2 => ?_))
    · refine (k_bipush t28_24 rfl zcb_16).trans ?_
      exact (zk_mk (ls' := [.ref 18, z_j]) t28_26 rfl)
    · refine (k_iconst t28_20 rfl zci_1).trans ?_
      refine (k_goto t28_21 rfl).trans ?_
      exact (zk_mk (ls' := [.ref 18, z_j]) t28_26 rfl)
  · refine (k_bipush t28_7 rfl zcb_15).trans ?_
    refine (k_goto t28_9 rfl).trans ?_
    exact (zk_mk (ls' := [.ref 18, z_j]) t28_26 rfl)
theorem t29_0 : z_ft 29 0 = some (.aload_n 0, 1, none, [], 0, 0, 0, 0) := z_ftd (by decide +kernel)
theorem t29_1 : z_ft 29 1 = some (.getfield 21, 3, none, [], 1, 2, 25, 0) := z_ftd (by decide +kernel)
theorem t29_4 : z_ft 29 4 = some (.invokevirtual 69, 3, none, [], 98, 0, 33, 0) := z_ftd (by decide +kernel)
theorem t29_7 : z_ft 29 7 = some (.aload_n 0, 1, none, [], 0, 0, 0, 0) := z_ftd (by decide +kernel)
theorem t29_8 : z_ft 29 8 = some (.getfield 21, 3, none, [], 1, 2, 25, 0) := z_ftd (by decide +kernel)
theorem t29_11 : z_ft 29 11 = some (.bipush 40, 2, none, [], 0, 0, 0, 0) := z_ftd (by decide +kernel)
theorem t29_13 : z_ft 29 13 = some (.invokevirtual 66, 3, none, [], 104, 0, 48, 0) := z_ftd (by decide +kernel)
theorem t29_16 : z_ft 29 16 = some (.ifCond .ne 8, 3, none, [], 24, 0, 0, 0) := z_ftd (by decide +kernel)
theorem t29_19 : z_ft 29 19 = some (.aload_n 0, 1, none, [], 0, 0, 0, 0) := z_ftd (by decide +kernel)
theorem t29_20 : z_ft 29 20 = some (.invokevirtual 57, 3, none, [], 9, 0, 32, 0) := z_ftd (by decide +kernel)
theorem t29_23 : z_ft 29 23 = some (.ireturn, 1, none, [], 0, 0, 0, 0) := z_ftd (by decide +kernel)
theorem t29_24 : z_ft 29 24 = some (.aload_n 0, 1, none, [], 0, 0, 0, 0) := z_ftd (by decide +kernel)
theorem t29_25 : z_ft 29 25 = some (.iload_n 1, 1, none, [], 0, 0, 0, 0) := z_ftd (by decide +kernel)
theorem t29_26 : z_ft 29 26 = some (.invokevirtual 172, 3, none, [], 24, 0, 49, 0) := z_ftd (by decide +kernel)
theorem t29_29 : z_ft 29 29 = some (.ifCond .eq 32, 3, none, [], 61, 0, 0, 0) := z_ftd (by decide +kernel)
theorem t29_32 : z_ft 29 32 = some (.aload_n 0, 1, none, [], 0, 0, 0, 0) := z_ftd (by decide +kernel)
theorem t29_33 : z_ft 29 33 = some (.iload_n 1, 1, none, [], 0, 0, 0, 0) := z_ftd (by decide +kernel)
theorem t29_34 : z_ft 29 34 = some (.iconst 1, 1, none, [], 0, 0, 0, 0) := z_ftd (by decide +kernel)
theorem t29_35 : z_ft 29 35 = some (.iadd, 1, none, [], 0, 0, 0, 0) := z_ftd (by decide +kernel)
theorem t29_36 : z_ft 29 36 = some (.invokevirtual 150, 3, none, [], 25, 0, 45, 0) := z_ftd (by decide +kernel)
theorem t29_39 : z_ft 29 39 = some (.ifCond .eq 22, 3, none, [], 61, 0, 0, 0) := z_ftd (by decide +kernel)
theorem t29_42 : z_ft 29 42 = some (.aload_n 0, 1, none, [], 0, 0, 0, 0) := z_ftd (by decide +kernel)
theorem t29_43 : z_ft 29 43 = some (.bipush 44, 2, none, [], 0, 0, 0, 0) := z_ftd (by decide +kernel)
theorem t29_45 : z_ft 29 45 = some (.invokevirtual 51, 3, none, [], 11, 0, 50, 0) := z_ftd (by decide +kernel)
theorem t29_48 : z_ft 29 48 = some (.ifCond .eq 13, 3, none, [], 61, 0, 0, 0) := z_ftd (by decide +kernel)
theorem t29_51 : z_ft 29 51 = some (.aload_n 0, 1, none, [], 0, 0, 0, 0) := z_ftd (by decide +kernel)
theorem t29_52 : z_ft 29 52 = some (.iload_n 1, 1, none, [], 0, 0, 0, 0) := z_ftd (by decide +kernel)
theorem t29_53 : z_ft 29 53 = some (.iconst 1, 1, none, [], 0, 0, 0, 0) := z_ftd (by decide +kernel)
theorem t29_54 : z_ft 29 54 = some (.iadd, 1, none, [], 0, 0, 0, 0) := z_ftd (by decide +kernel)
theorem t29_55 : z_ft 29 55 = some (.invokevirtual 150, 3, none, [], 25, 0, 45, 0) := z_ftd (by decide +kernel)
theorem t29_58 : z_ft 29 58 = some (.ifCond .ne 5, 3, none, [], 63, 0, 0, 0) := z_ftd (by decide +kernel)
theorem t29_61 : z_ft 29 61 = some (.iconst 0, 1, (some []), [], 0, 0, 0, 0) := z_ftd (by decide +kernel)
theorem t29_62 : z_ft 29 62 = some (.ireturn, 1, none, [], 0, 0, 0, 0) := z_ftd (by decide +kernel)
theorem t29_63 : z_ft 29 63 = some (.aload_n 0, 1, none, [], 0, 0, 0, 0) := z_ftd (by decide +kernel)
theorem t29_64 : z_ft 29 64 = some (.getfield 28, 3, none, [], 1, 3, 26, 0) := z_ftd (by decide +kernel)
theorem t29_67 : z_ft 29 67 = some (.iload_n 2, 1, none, [], 0, 0, 0, 0) := z_ftd (by decide +kernel)
theorem t29_68 : z_ft 29 68 = some (.invokevirtual 165, 3, none, [], 66, 0, 52, 0) := z_ftd (by decide +kernel)
theorem t29_71 : z_ft 29 71 = some (.aload_n 0, 1, none, [], 0, 0, 0, 0) := z_ftd (by decide +kernel)
theorem t29_72 : z_ft 29 72 = some (.bipush 41, 2, none, [], 0, 0, 0, 0) := z_ftd (by decide +kernel)
theorem t29_74 : z_ft 29 74 = some (.invokevirtual 51, 3, none, [], 11, 0, 50, 0) := z_ftd (by decide +kernel)
theorem t29_77 : z_ft 29 77 = some (.ireturn, 1, none, [], 0, 0, 0, 0) := z_ftd (by decide +kernel)
-- X1_readPair
theorem e29 (d : Nat) (x1 : Int32) (x2 : Int32) (S : z_S) (hW : z_W S)  : fI (d + 1) 29 [.ref 18, .int x1, .int x2] S = ((fV d 98 [.ref 19] S).bind fun S2 => (zb (fI d 104 [.ref 19, .int (40 : Int32)] S2) fun v3 S4 => (if ¬ v3 = (0 : Int32) then (zb (fI d 24 [.ref 18, .int x1] S4) fun v6 S7 => (if v6 = (0 : Int32) then some ((0 : Int32), S7) else (zb (fI d 25 [.ref 18, .int (x1 + (1 : Int32))] S7) fun v9 S10 => (if v9 = (0 : Int32) then some ((0 : Int32), S10) else (zb (fI d 11 [.ref 18, .int (44 : Int32)] S10) fun v12 S13 => (if v12 = (0 : Int32) then some ((0 : Int32), S13) else (zb (fI d 25 [.ref 18, .int (x1 + (1 : Int32))] S13) fun v15 S16 => (if ¬ v15 = (0 : Int32) then ((fV d 66 [.ref (gP S16 18 3), .int x2] S16).bind fun S19 => (zb (fI d 11 [.ref 18, .int (41 : Int32)] S19) fun v20 S21 => (if v20 = 0 ∨ v20 = 1 then some (v20, S21) else none))) else some ((0 : Int32), S16))))))))) else (zb (fI d 9 [.ref 18] S4) fun v22 S23 => (if v22 = 0 ∨ v22 = 1 then some (v22, S23) else none))))) := by
  refine (fI_en (Nat.le_of_ble_eq_true rfl) rfl).trans ?_
  refine (k_aload_n t29_0 rfl rfl).trans ?_
  refine (k_getR t29_1 rfl hW zK_18 (by decide) (by decide) (zF_18_2 hW)).trans ?_
  refine k_callV (as := [.ref 19]) (rest := []) t29_4 rfl rfl (by decide) rfl rfl (Nat.le_of_ble_eq_true rfl) rfl (z_rcV hW (zK_19) (by decide)) (by decide) (by decide) hW (fun S2 hW2 => ?_)
  refine (k_aload_n t29_7 rfl rfl).trans ?_
  refine (k_getR t29_8 rfl hW2 zK_18 (by decide) (by decide) (zF_18_2 hW2)).trans ?_
  refine (k_bipush t29_11 rfl zcb_40).trans ?_
  refine k_callI (as := [.ref 19, .int (40 : Int32)]) (rest := []) t29_13 rfl rfl (by decide) rfl rfl (Nat.le_of_ble_eq_true rfl) rfl (z_rcV hW2 (zK_19) (by decide)) (by decide) (Or.inr (by decide)) hW2 (fun v3 S4 hW4 => ?_)
  refine (k_if_ne t29_16 rfl).trans (z_ite (fun g5 => ?_) (fun g5 => ?_))
  · refine (k_aload_n t29_24 rfl rfl).trans ?_
    refine (k_iload_n t29_25 rfl rfl).trans ?_
    refine k_callI (as := [.ref 18, .int x1]) (rest := []) t29_26 rfl rfl (by decide) rfl rfl (Nat.le_of_ble_eq_true rfl) rfl (z_rcV hW4 (zK_18) (by decide)) (by decide) (Or.inr (by decide)) hW4 (fun v6 S7 hW7 => ?_)
    refine (k_if_eq t29_29 rfl).trans (z_ite (fun g8 => ?_) (fun g8 => ?_))
    · refine (zk_mk (ls' := [z_j, z_j, z_j]) t29_61 rfl).trans ?_
      refine (k_iconst t29_61 rfl zci_0).trans ?_
      exact k_zretC t29_62 rfl (by decide) (by decide)
    · refine (k_aload_n t29_32 rfl rfl).trans ?_
      refine (k_iload_n t29_33 rfl rfl).trans ?_
      refine (k_iconst t29_34 rfl zci_1).trans ?_
      refine (k_iadd t29_35 rfl).trans ?_
      refine k_callI (as := [.ref 18, .int (x1 + (1 : Int32))]) (rest := []) t29_36 rfl rfl (by decide) rfl rfl (Nat.le_of_ble_eq_true rfl) rfl (z_rcV hW7 (zK_18) (by decide)) (by decide) (Or.inr (by decide)) hW7 (fun v9 S10 hW10 => ?_)
      refine (k_if_eq t29_39 rfl).trans (z_ite (fun g11 => ?_) (fun g11 => ?_))
      · refine (zk_mk (ls' := [z_j, z_j, z_j]) t29_61 rfl).trans ?_
        refine (k_iconst t29_61 rfl zci_0).trans ?_
        exact k_zretC t29_62 rfl (by decide) (by decide)
      · refine (k_aload_n t29_42 rfl rfl).trans ?_
        refine (k_bipush t29_43 rfl zcb_44).trans ?_
        refine k_callI (as := [.ref 18, .int (44 : Int32)]) (rest := []) t29_45 rfl rfl (by decide) rfl rfl (Nat.le_of_ble_eq_true rfl) rfl (z_rcV hW10 (zK_18) (by decide)) (by decide) (Or.inr (by decide)) hW10 (fun v12 S13 hW13 => ?_)
        refine (k_if_eq t29_48 rfl).trans (z_ite (fun g14 => ?_) (fun g14 => ?_))
        · refine (zk_mk (ls' := [z_j, z_j, z_j]) t29_61 rfl).trans ?_
          refine (k_iconst t29_61 rfl zci_0).trans ?_
          exact k_zretC t29_62 rfl (by decide) (by decide)
        · refine (k_aload_n t29_51 rfl rfl).trans ?_
          refine (k_iload_n t29_52 rfl rfl).trans ?_
          refine (k_iconst t29_53 rfl zci_1).trans ?_
          refine (k_iadd t29_54 rfl).trans ?_
          refine k_callI (as := [.ref 18, .int (x1 + (1 : Int32))]) (rest := []) t29_55 rfl rfl (by decide) rfl rfl (Nat.le_of_ble_eq_true rfl) rfl (z_rcV hW13 (zK_18) (by decide)) (by decide) (Or.inr (by decide)) hW13 (fun v15 S16 hW16 => ?_)
          refine (k_if_ne t29_58 rfl).trans (z_ite (fun g17 => ?_) (fun g17 => ?_))
          · refine (k_aload_n t29_63 rfl rfl).trans ?_
            refine (k_getR t29_64 rfl hW16 zK_18 (by decide) (by decide) (zM_18_3 hW16).1).trans ?_
            refine (k_iload_n t29_67 rfl rfl).trans ?_
            refine k_callV (as := [.ref (gP S16 18 3), .int x2]) (rest := []) t29_68 rfl rfl (by decide) rfl rfl (Nat.le_of_ble_eq_true rfl) rfl (z_rcV hW16 ((zM_18_3 hW16).2) (by decide)) (by decide) (by decide) hW16 (fun S19 hW19 => ?_)
            refine (k_aload_n t29_71 rfl rfl).trans ?_
            refine (k_bipush t29_72 rfl zcb_41).trans ?_
            refine k_callI (as := [.ref 18, .int (41 : Int32)]) (rest := []) t29_74 rfl rfl (by decide) rfl rfl (Nat.le_of_ble_eq_true rfl) rfl (z_rcV hW19 (zK_18) (by decide)) (by decide) (Or.inr (by decide)) hW19 (fun v20 S21 hW21 => ?_)
            exact (k_zreturn t29_77 rfl (by decide)).trans (z_ite (fun _ => rfl) (fun _ => rfl))
          · refine (zk_mk (ls' := [z_j, z_j, z_j]) t29_61 rfl).trans ?_
            refine (k_iconst t29_61 rfl zci_0).trans ?_
            exact k_zretC t29_62 rfl (by decide) (by decide)
  · refine (k_aload_n t29_19 rfl rfl).trans ?_
    refine k_callI (as := [.ref 18]) (rest := []) t29_20 rfl rfl (by decide) rfl rfl (Nat.le_of_ble_eq_true rfl) rfl (z_rcV hW4 (zK_18) (by decide)) (by decide) (Or.inr (by decide)) hW4 (fun v22 S23 hW23 => ?_)
    exact (k_zreturn t29_23 rfl (by decide)).trans (z_ite (fun _ => rfl) (fun _ => rfl))
theorem t30_0 : z_ft 30 0 = some (.aload_n 0, 1, none, [], 0, 0, 0, 0) := z_ftd (by decide +kernel)
theorem t30_1 : z_ft 30 1 = some (.getfield 21, 3, none, [], 1, 2, 25, 0) := z_ftd (by decide +kernel)
theorem t30_4 : z_ft 30 4 = some (.invokevirtual 69, 3, none, [], 98, 0, 33, 0) := z_ftd (by decide +kernel)
theorem t30_7 : z_ft 30 7 = some (.aload_n 0, 1, none, [], 0, 0, 0, 0) := z_ftd (by decide +kernel)
theorem t30_8 : z_ft 30 8 = some (.getfield 21, 3, none, [], 1, 2, 25, 0) := z_ftd (by decide +kernel)
theorem t30_11 : z_ft 30 11 = some (.bipush 40, 2, none, [], 0, 0, 0, 0) := z_ftd (by decide +kernel)
theorem t30_13 : z_ft 30 13 = some (.invokevirtual 66, 3, none, [], 104, 0, 48, 0) := z_ftd (by decide +kernel)
theorem t30_16 : z_ft 30 16 = some (.ifCond .ne 8, 3, none, [], 24, 0, 0, 0) := z_ftd (by decide +kernel)
theorem t30_19 : z_ft 30 19 = some (.aload_n 0, 1, none, [], 0, 0, 0, 0) := z_ftd (by decide +kernel)
theorem t30_20 : z_ft 30 20 = some (.invokevirtual 57, 3, none, [], 9, 0, 32, 0) := z_ftd (by decide +kernel)
theorem t30_23 : z_ft 30 23 = some (.ireturn, 1, none, [], 0, 0, 0, 0) := z_ftd (by decide +kernel)
theorem t30_24 : z_ft 30 24 = some (.aload_n 0, 1, none, [], 0, 0, 0, 0) := z_ftd (by decide +kernel)
theorem t30_25 : z_ft 30 25 = some (.iload_n 1, 1, none, [], 0, 0, 0, 0) := z_ftd (by decide +kernel)
theorem t30_26 : z_ft 30 26 = some (.invokevirtual 172, 3, none, [], 24, 0, 49, 0) := z_ftd (by decide +kernel)
theorem t30_29 : z_ft 30 29 = some (.ifCond .eq 22, 3, none, [], 51, 0, 0, 0) := z_ftd (by decide +kernel)
theorem t30_32 : z_ft 30 32 = some (.aload_n 0, 1, none, [], 0, 0, 0, 0) := z_ftd (by decide +kernel)
theorem t30_33 : z_ft 30 33 = some (.iload_n 1, 1, none, [], 0, 0, 0, 0) := z_ftd (by decide +kernel)
theorem t30_34 : z_ft 30 34 = some (.iconst 1, 1, none, [], 0, 0, 0, 0) := z_ftd (by decide +kernel)
theorem t30_35 : z_ft 30 35 = some (.iadd, 1, none, [], 0, 0, 0, 0) := z_ftd (by decide +kernel)
theorem t30_36 : z_ft 30 36 = some (.invokevirtual 153, 3, none, [], 20, 0, 54, 0) := z_ftd (by decide +kernel)
theorem t30_39 : z_ft 30 39 = some (.ifCond .eq 12, 3, none, [], 51, 0, 0, 0) := z_ftd (by decide +kernel)
theorem t30_42 : z_ft 30 42 = some (.aload_n 0, 1, none, [], 0, 0, 0, 0) := z_ftd (by decide +kernel)
theorem t30_43 : z_ft 30 43 = some (.bipush 44, 2, none, [], 0, 0, 0, 0) := z_ftd (by decide +kernel)
theorem t30_45 : z_ft 30 45 = some (.invokevirtual 51, 3, none, [], 11, 0, 50, 0) := z_ftd (by decide +kernel)
theorem t30_48 : z_ft 30 48 = some (.ifCond .ne 5, 3, none, [], 53, 0, 0, 0) := z_ftd (by decide +kernel)
theorem t30_51 : z_ft 30 51 = some (.iconst 0, 1, (some []), [], 0, 0, 0, 0) := z_ftd (by decide +kernel)
theorem t30_52 : z_ft 30 52 = some (.ireturn, 1, none, [], 0, 0, 0, 0) := z_ftd (by decide +kernel)
theorem t30_53 : z_ft 30 53 = some (.aload_n 0, 1, none, [], 0, 0, 0, 0) := z_ftd (by decide +kernel)
theorem t30_54 : z_ft 30 54 = some (.iload_n 1, 1, none, [], 0, 0, 0, 0) := z_ftd (by decide +kernel)
theorem t30_55 : z_ft 30 55 = some (.iconst 1, 1, none, [], 0, 0, 0, 0) := z_ftd (by decide +kernel)
theorem t30_56 : z_ft 30 56 = some (.iadd, 1, none, [], 0, 0, 0, 0) := z_ftd (by decide +kernel)
theorem t30_57 : z_ft 30 57 = some (.invokevirtual 150, 3, none, [], 25, 0, 45, 0) := z_ftd (by decide +kernel)
theorem t30_60 : z_ft 30 60 = some (.ifCond .eq 22, 3, none, [], 82, 0, 0, 0) := z_ftd (by decide +kernel)
theorem t30_63 : z_ft 30 63 = some (.aload_n 0, 1, none, [], 0, 0, 0, 0) := z_ftd (by decide +kernel)
theorem t30_64 : z_ft 30 64 = some (.bipush 44, 2, none, [], 0, 0, 0, 0) := z_ftd (by decide +kernel)
theorem t30_66 : z_ft 30 66 = some (.invokevirtual 51, 3, none, [], 11, 0, 50, 0) := z_ftd (by decide +kernel)
theorem t30_69 : z_ft 30 69 = some (.ifCond .eq 13, 3, none, [], 82, 0, 0, 0) := z_ftd (by decide +kernel)
theorem t30_72 : z_ft 30 72 = some (.aload_n 0, 1, none, [], 0, 0, 0, 0) := z_ftd (by decide +kernel)
theorem t30_73 : z_ft 30 73 = some (.iload_n 1, 1, none, [], 0, 0, 0, 0) := z_ftd (by decide +kernel)
theorem t30_74 : z_ft 30 74 = some (.iconst 1, 1, none, [], 0, 0, 0, 0) := z_ftd (by decide +kernel)
theorem t30_75 : z_ft 30 75 = some (.iadd, 1, none, [], 0, 0, 0, 0) := z_ftd (by decide +kernel)
theorem t30_76 : z_ft 30 76 = some (.invokevirtual 150, 3, none, [], 25, 0, 45, 0) := z_ftd (by decide +kernel)
theorem t30_79 : z_ft 30 79 = some (.ifCond .ne 5, 3, none, [], 84, 0, 0, 0) := z_ftd (by decide +kernel)
theorem t30_82 : z_ft 30 82 = some (.iconst 0, 1, (some []), [], 0, 0, 0, 0) := z_ftd (by decide +kernel)
theorem t30_83 : z_ft 30 83 = some (.ireturn, 1, none, [], 0, 0, 0, 0) := z_ftd (by decide +kernel)
theorem t30_84 : z_ft 30 84 = some (.aload_n 0, 1, none, [], 0, 0, 0, 0) := z_ftd (by decide +kernel)
theorem t30_85 : z_ft 30 85 = some (.getfield 28, 3, none, [], 1, 3, 26, 0) := z_ftd (by decide +kernel)
theorem t30_88 : z_ft 30 88 = some (.bipush (-19), 2, none, [], 0, 0, 0, 0) := z_ftd (by decide +kernel)
theorem t30_90 : z_ft 30 90 = some (.invokevirtual 165, 3, none, [], 66, 0, 52, 0) := z_ftd (by decide +kernel)
theorem t30_93 : z_ft 30 93 = some (.aload_n 0, 1, none, [], 0, 0, 0, 0) := z_ftd (by decide +kernel)
theorem t30_94 : z_ft 30 94 = some (.bipush 41, 2, none, [], 0, 0, 0, 0) := z_ftd (by decide +kernel)
theorem t30_96 : z_ft 30 96 = some (.invokevirtual 51, 3, none, [], 11, 0, 50, 0) := z_ftd (by decide +kernel)
theorem t30_99 : z_ft 30 99 = some (.ireturn, 1, none, [], 0, 0, 0, 0) := z_ftd (by decide +kernel)
-- X1_readChoice
theorem e30 (d : Nat) (x1 : Int32) (S : z_S) (hW : z_W S)  : fI (d + 1) 30 [.ref 18, .int x1] S = ((fV d 98 [.ref 19] S).bind fun S2 => (zb (fI d 104 [.ref 19, .int (40 : Int32)] S2) fun v3 S4 => (if ¬ v3 = (0 : Int32) then (zb (fI d 24 [.ref 18, .int x1] S4) fun v6 S7 => (if v6 = (0 : Int32) then some ((0 : Int32), S7) else (zb (fI d 20 [.ref 18, .int (x1 + (1 : Int32))] S7) fun v9 S10 => (if v9 = (0 : Int32) then some ((0 : Int32), S10) else (zb (fI d 11 [.ref 18, .int (44 : Int32)] S10) fun v12 S13 => (if ¬ v12 = (0 : Int32) then (zb (fI d 25 [.ref 18, .int (x1 + (1 : Int32))] S13) fun v15 S16 => (if v15 = (0 : Int32) then some ((0 : Int32), S16) else (zb (fI d 11 [.ref 18, .int (44 : Int32)] S16) fun v18 S19 => (if v18 = (0 : Int32) then some ((0 : Int32), S19) else (zb (fI d 25 [.ref 18, .int (x1 + (1 : Int32))] S19) fun v21 S22 => (if ¬ v21 = (0 : Int32) then ((fV d 66 [.ref (gP S22 18 3), .int (-19 : Int32)] S22).bind fun S25 => (zb (fI d 11 [.ref 18, .int (41 : Int32)] S25) fun v26 S27 => (if v26 = 0 ∨ v26 = 1 then some (v26, S27) else none))) else some ((0 : Int32), S22))))))) else some ((0 : Int32), S13))))))) else (zb (fI d 9 [.ref 18] S4) fun v28 S29 => (if v28 = 0 ∨ v28 = 1 then some (v28, S29) else none))))) := by
  refine (fI_en (Nat.le_of_ble_eq_true rfl) rfl).trans ?_
  refine (k_aload_n t30_0 rfl rfl).trans ?_
  refine (k_getR t30_1 rfl hW zK_18 (by decide) (by decide) (zF_18_2 hW)).trans ?_
  refine k_callV (as := [.ref 19]) (rest := []) t30_4 rfl rfl (by decide) rfl rfl (Nat.le_of_ble_eq_true rfl) rfl (z_rcV hW (zK_19) (by decide)) (by decide) (by decide) hW (fun S2 hW2 => ?_)
  refine (k_aload_n t30_7 rfl rfl).trans ?_
  refine (k_getR t30_8 rfl hW2 zK_18 (by decide) (by decide) (zF_18_2 hW2)).trans ?_
  refine (k_bipush t30_11 rfl zcb_40).trans ?_
  refine k_callI (as := [.ref 19, .int (40 : Int32)]) (rest := []) t30_13 rfl rfl (by decide) rfl rfl (Nat.le_of_ble_eq_true rfl) rfl (z_rcV hW2 (zK_19) (by decide)) (by decide) (Or.inr (by decide)) hW2 (fun v3 S4 hW4 => ?_)
  refine (k_if_ne t30_16 rfl).trans (z_ite (fun g5 => ?_) (fun g5 => ?_))
  · refine (k_aload_n t30_24 rfl rfl).trans ?_
    refine (k_iload_n t30_25 rfl rfl).trans ?_
    refine k_callI (as := [.ref 18, .int x1]) (rest := []) t30_26 rfl rfl (by decide) rfl rfl (Nat.le_of_ble_eq_true rfl) rfl (z_rcV hW4 (zK_18) (by decide)) (by decide) (Or.inr (by decide)) hW4 (fun v6 S7 hW7 => ?_)
    refine (k_if_eq t30_29 rfl).trans (z_ite (fun g8 => ?_) (fun g8 => ?_))
    · refine (zk_mk (ls' := [z_j, z_j]) t30_51 rfl).trans ?_
      refine (k_iconst t30_51 rfl zci_0).trans ?_
      exact k_zretC t30_52 rfl (by decide) (by decide)
    · refine (k_aload_n t30_32 rfl rfl).trans ?_
      refine (k_iload_n t30_33 rfl rfl).trans ?_
      refine (k_iconst t30_34 rfl zci_1).trans ?_
      refine (k_iadd t30_35 rfl).trans ?_
      refine k_callI (as := [.ref 18, .int (x1 + (1 : Int32))]) (rest := []) t30_36 rfl rfl (by decide) rfl rfl (Nat.le_of_ble_eq_true rfl) rfl (z_rcV hW7 (zK_18) (by decide)) (by decide) (Or.inr (by decide)) hW7 (fun v9 S10 hW10 => ?_)
      refine (k_if_eq t30_39 rfl).trans (z_ite (fun g11 => ?_) (fun g11 => ?_))
      · refine (zk_mk (ls' := [z_j, z_j]) t30_51 rfl).trans ?_
        refine (k_iconst t30_51 rfl zci_0).trans ?_
        exact k_zretC t30_52 rfl (by decide) (by decide)
      · refine (k_aload_n t30_42 rfl rfl).trans ?_
        refine (k_bipush t30_43 rfl zcb_44).trans ?_
        refine k_callI (as := [.ref 18, .int (44 : Int32)]) (rest := []) t30_45 rfl rfl (by decide) rfl rfl (Nat.le_of_ble_eq_true rfl) rfl (z_rcV hW10 (zK_18) (by decide)) (by decide) (Or.inr (by decide)) hW10 (fun v12 S13 hW13 => ?_)
        refine (k_if_ne t30_48 rfl).trans (z_ite (fun g14 => ?_) (fun g14 => ?_))
        · refine (k_aload_n t30_53 rfl rfl).trans ?_
          refine (k_iload_n t30_54 rfl rfl).trans ?_
          refine (k_iconst t30_55 rfl zci_1).trans ?_
          refine (k_iadd t30_56 rfl).trans ?_
          refine k_callI (as := [.ref 18, .int (x1 + (1 : Int32))]) (rest := []) t30_57 rfl rfl (by decide) rfl rfl (Nat.le_of_ble_eq_true rfl) rfl (z_rcV hW13 (zK_18) (by decide)) (by decide) (Or.inr (by decide)) hW13 (fun v15 S16 hW16 => ?_)
          refine (k_if_eq t30_60 rfl).trans (z_ite (fun g17 => ?_) (fun g17 => ?_))
          · refine (zk_mk (ls' := [z_j, z_j]) t30_82 rfl).trans ?_
            refine (k_iconst t30_82 rfl zci_0).trans ?_
            exact k_zretC t30_83 rfl (by decide) (by decide)
          · refine (k_aload_n t30_63 rfl rfl).trans ?_
            refine (k_bipush t30_64 rfl zcb_44).trans ?_
            refine k_callI (as := [.ref 18, .int (44 : Int32)]) (rest := []) t30_66 rfl rfl (by decide) rfl rfl (Nat.le_of_ble_eq_true rfl) rfl (z_rcV hW16 (zK_18) (by decide)) (by decide) (Or.inr (by decide)) hW16 (fun v18 S19 hW19 => ?_)
            refine (k_if_eq t30_69 rfl).trans (z_ite (fun g20 => ?_) (fun g20 => ?_))
            · refine (zk_mk (ls' := [z_j, z_j]) t30_82 rfl).trans ?_
              refine (k_iconst t30_82 rfl zci_0).trans ?_
              exact k_zretC t30_83 rfl (by decide) (by decide)
            · refine (k_aload_n t30_72 rfl rfl).trans ?_
              refine (k_iload_n t30_73 rfl rfl).trans ?_
              refine (k_iconst t30_74 rfl zci_1).trans ?_
              refine (k_iadd t30_75 rfl).trans ?_
              refine k_callI (as := [.ref 18, .int (x1 + (1 : Int32))]) (rest := []) t30_76 rfl rfl (by decide) rfl rfl (Nat.le_of_ble_eq_true rfl) rfl (z_rcV hW19 (zK_18) (by decide)) (by decide) (Or.inr (by decide)) hW19 (fun v21 S22 hW22 => ?_)
              refine (k_if_ne t30_79 rfl).trans (z_ite (fun g23 => ?_) (fun g23 => ?_))
              · refine (k_aload_n t30_84 rfl rfl).trans ?_
                refine (k_getR t30_85 rfl hW22 zK_18 (by decide) (by decide) (zM_18_3 hW22).1).trans ?_
                refine (k_bipush t30_88 rfl zcb_m19).trans ?_
                refine k_callV (as := [.ref (gP S22 18 3), .int (-19 : Int32)]) (rest := []) t30_90 rfl rfl (by decide) rfl rfl (Nat.le_of_ble_eq_true rfl) rfl (z_rcV hW22 ((zM_18_3 hW22).2) (by decide)) (by decide) (by decide) hW22 (fun S25 hW25 => ?_)
                refine (k_aload_n t30_93 rfl rfl).trans ?_
                refine (k_bipush t30_94 rfl zcb_41).trans ?_
                refine k_callI (as := [.ref 18, .int (41 : Int32)]) (rest := []) t30_96 rfl rfl (by decide) rfl rfl (Nat.le_of_ble_eq_true rfl) rfl (z_rcV hW25 (zK_18) (by decide)) (by decide) (Or.inr (by decide)) hW25 (fun v26 S27 hW27 => ?_)
                exact (k_zreturn t30_99 rfl (by decide)).trans (z_ite (fun _ => rfl) (fun _ => rfl))
              · refine (zk_mk (ls' := [z_j, z_j]) t30_82 rfl).trans ?_
                refine (k_iconst t30_82 rfl zci_0).trans ?_
                exact k_zretC t30_83 rfl (by decide) (by decide)
        · refine (zk_mk (ls' := [z_j, z_j]) t30_51 rfl).trans ?_
          refine (k_iconst t30_51 rfl zci_0).trans ?_
          exact k_zretC t30_52 rfl (by decide) (by decide)
  · refine (k_aload_n t30_19 rfl rfl).trans ?_
    refine k_callI (as := [.ref 18]) (rest := []) t30_20 rfl rfl (by decide) rfl rfl (Nat.le_of_ble_eq_true rfl) rfl (z_rcV hW4 (zK_18) (by decide)) (by decide) (Or.inr (by decide)) hW4 (fun v28 S29 hW29 => ?_)
    exact (k_zreturn t30_23 rfl (by decide)).trans (z_ite (fun _ => rfl) (fun _ => rfl))
