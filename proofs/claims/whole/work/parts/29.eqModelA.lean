/-! EQUATIONS of ModelA (written by wip/whole/gen/eqs.py). -/
theorem t155_0 : z_ft 155 0 = some (.iload_n 0, 1, none, [], 0, 0, 0, 0) := z_ftd (by decide +kernel)
theorem t155_1 : z_ft 155 1 = some (.iload_n 1, 1, none, [], 0, 0, 0, 0) := z_ftd (by decide +kernel)
theorem t155_2 : z_ft 155 2 = some (.if_icmp .lt 12, 3, none, [], 14, 0, 0, 0) := z_ftd (by decide +kernel)
theorem t155_5 : z_ft 155 5 = some (.iload_n 0, 1, none, [], 0, 0, 0, 0) := z_ftd (by decide +kernel)
theorem t155_6 : z_ft 155 6 = some (.iload_n 2, 1, none, [], 0, 0, 0, 0) := z_ftd (by decide +kernel)
theorem t155_7 : z_ft 155 7 = some (.if_icmp .gt 7, 3, none, [], 14, 0, 0, 0) := z_ftd (by decide +kernel)
theorem t155_10 : z_ft 155 10 = some (.iconst 1, 1, none, [], 0, 0, 0, 0) := z_ftd (by decide +kernel)
theorem t155_11 : z_ft 155 11 = some (.goto 4, 3, none, [], 15, 0, 0, 0) := z_ftd (by decide +kernel)
theorem t155_14 : z_ft 155 14 = some (.iconst 0, 1, (some []), [], 0, 0, 0, 0) := z_ftd (by decide +kernel)
theorem t155_15 : z_ft 155 15 = some (.ireturn, 1, (some []), [], 0, 0, 0, 0) := z_ftd (by decide +kernel)
noncomputable def b155_14 (d : Nat)  (S : z_S) : Option (Int32 × z_S) := zk kI z_X0 d 155 14 [z_j, z_j, z_j] [] S
theorem b155_14_eq (d : Nat)  (S : z_S) (hW : z_W S)  : b155_14 d  S = some ((0 : Int32), S) := by
  unfold b155_14
  refine (k_iconst t155_14 rfl zci_0).trans ?_
  refine (zk_mk (ls' := [z_j, z_j, z_j]) t155_15 rfl).trans ?_
  exact k_zretC t155_15 rfl (by decide) (by decide)
-- X12_is
theorem e155 (d : Nat) (x1 : Int32) (x2 : Int32) (x3 : Int32) (S : z_S) (hW : z_W S)  : fI (d + 1) 155 [.int x1, .int x2, .int x3] S = (if x1 < x2 then b155_14 d S else (if x3 < x1 then b155_14 d S else some ((1 : Int32), S))) := by
  refine (fI_en (Nat.le_of_ble_eq_true rfl) rfl).trans ?_
  refine (k_iload_n t155_0 rfl rfl).trans ?_
  refine (k_iload_n t155_1 rfl rfl).trans ?_
  refine (k_icmp_lt t155_2 rfl).trans (z_ite (fun g1 => ?_) (fun g1 => ?_))
  · exact (zk_mk (ls' := [z_j, z_j, z_j]) t155_14 rfl)
  · refine (k_iload_n t155_5 rfl rfl).trans ?_
    refine (k_iload_n t155_6 rfl rfl).trans ?_
    refine (k_icmp_gt t155_7 rfl).trans (z_ite (fun g2 => ?_) (fun g2 => ?_))
    · exact (zk_mk (ls' := [z_j, z_j, z_j]) t155_14 rfl)
    · refine (k_iconst t155_10 rfl zci_1).trans ?_
      refine (k_goto t155_11 rfl).trans ?_
      refine (zk_mk (ls' := [z_j, z_j, z_j]) t155_15 rfl).trans ?_
      exact k_zretC t155_15 rfl (by decide) (by decide)
theorem t156_0 : z_ft 156 0 = some (.bipush 24, 2, none, [], 0, 0, 0, 0) := z_ftd (by decide +kernel)
theorem t156_2 : z_ft 156 2 = some (.istore_n 2, 1, none, [], 0, 0, 0, 0) := z_ftd (by decide +kernel)
theorem t156_3 : z_ft 156 3 = some (.iload_n 2, 1, (some [0, 1, 2]), [], 0, 0, 0, 0) := z_ftd (by decide +kernel)
theorem t156_4 : z_ft 156 4 = some (.ifCond .lt 35, 3, none, [], 39, 0, 0, 0) := z_ftd (by decide +kernel)
theorem t156_7 : z_ft 156 7 = some (.aload_n 0, 1, none, [], 0, 0, 0, 0) := z_ftd (by decide +kernel)
theorem t156_8 : z_ft 156 8 = some (.getfield 7, 3, none, [], 12, 0, 1, 0) := z_ftd (by decide +kernel)
theorem t156_11 : z_ft 156 11 = some (.aload_n 0, 1, none, [], 0, 0, 0, 0) := z_ftd (by decide +kernel)
theorem t156_12 : z_ft 156 12 = some (.getfield 13, 3, none, [], 12, 1, 2, 0) := z_ftd (by decide +kernel)
theorem t156_15 : z_ft 156 15 = some (.iload_n 1, 1, none, [], 0, 0, 0, 0) := z_ftd (by decide +kernel)
theorem t156_16 : z_ft 156 16 = some (.iload_n 2, 1, none, [], 0, 0, 0, 0) := z_ftd (by decide +kernel)
theorem t156_17 : z_ft 156 17 = some (.ishr, 1, none, [], 0, 0, 0, 0) := z_ftd (by decide +kernel)
theorem t156_18 : z_ft 156 18 = some (.sipush 255, 3, none, [], 0, 0, 0, 0) := z_ftd (by decide +kernel)
theorem t156_21 : z_ft 156 21 = some (.iand, 1, none, [], 0, 0, 0, 0) := z_ftd (by decide +kernel)
theorem t156_22 : z_ft 156 22 = some (.iastore, 1, none, [], 0, 0, 0, 0) := z_ftd (by decide +kernel)
theorem t156_23 : z_ft 156 23 = some (.aload_n 0, 1, none, [], 0, 0, 0, 0) := z_ftd (by decide +kernel)
theorem t156_24 : z_ft 156 24 = some (.dup, 1, none, [], 0, 0, 0, 0) := z_ftd (by decide +kernel)
theorem t156_25 : z_ft 156 25 = some (.getfield 13, 3, none, [], 12, 1, 2, 0) := z_ftd (by decide +kernel)
theorem t156_28 : z_ft 156 28 = some (.iconst 1, 1, none, [], 0, 0, 0, 0) := z_ftd (by decide +kernel)
theorem t156_29 : z_ft 156 29 = some (.iadd, 1, none, [], 0, 0, 0, 0) := z_ftd (by decide +kernel)
theorem t156_30 : z_ft 156 30 = some (.putfield 13, 3, none, [], 12, 1, 2, 0) := z_ftd (by decide +kernel)
theorem t156_33 : z_ft 156 33 = some (.iinc 2 (-8), 3, none, [], 0, 0, 0, 0) := z_ftd (by decide +kernel)
theorem t156_36 : z_ft 156 36 = some (.goto (-33), 3, none, [], 3, 0, 0, 0) := z_ftd (by decide +kernel)
theorem t156_39 : z_ft 156 39 = some (.return_, 1, none, [], 0, 0, 0, 0) := z_ftd (by decide +kernel)
noncomputable def b156_3 (d : Nat) (y1 : Int32) (y2 : Int32) (S : z_S) : Option z_S := zk kV z_X0 d 156 3 [.ref 396, .int y1, .int y2] [] S
theorem b156_3_eq (d : Nat) (y1 : Int32) (y2 : Int32) (S : z_S) (hW : z_W S)  : b156_3 d y1 y2 S = (if y2 < (0 : Int32) then some S else (if z_in (gI S 396 1) 1800 then b156_3 d y1 (y2 + (-8 : Int32)) (sI (sI S 397 ((gI S 396 1)).toNatClampNeg ((y1 >>> (y2 &&& 31)) &&& (255 : Int32))) 396 1 ((gI (sI S 397 ((gI S 396 1)).toNatClampNeg ((y1 >>> (y2 &&& 31)) &&& (255 : Int32))) 396 1) + (1 : Int32))) else none)) := by
  unfold b156_3
  refine (k_iload_n t156_3 rfl rfl).trans ?_
  refine (k_if_lt t156_4 rfl).trans (z_ite (fun g1 => ?_) (fun g1 => ?_))
  · exact k_return t156_39 rfl (by decide)
  · refine (k_aload_n t156_7 rfl rfl).trans ?_
    refine (k_getR t156_8 rfl hW zK_396 (by decide) (by decide) (zF_396_0 hW)).trans ?_
    refine (k_aload_n t156_11 rfl rfl).trans ?_
    refine (k_getI t156_12 rfl hW zK_396 (by decide) (by decide)).trans ?_
    refine (k_iload_n t156_15 rfl rfl).trans ?_
    refine (k_iload_n t156_16 rfl rfl).trans ?_
    refine (k_ishr t156_17 rfl).trans ?_
    refine (k_sipush t156_18 rfl zcs_255).trans ?_
    refine (k_iand t156_21 rfl).trans ?_
    refine (k_iast t156_22 rfl hW zK_397 zL_397).trans (z_ite (fun g2 => ?_) (fun _ => rfl))
    refine (k_aload_n t156_23 rfl rfl).trans ?_
    refine (k_dupR t156_24 rfl).trans ?_
    refine (k_getI t156_25 rfl hW.sI zK_396 (by decide) (by decide)).trans ?_
    refine (k_iconst t156_28 rfl zci_1).trans ?_
    refine (k_iadd t156_29 rfl).trans ?_
    refine (k_putI t156_30 rfl hW.sI zK_396 (by decide) (by decide) (by decide)).trans ?_
    refine (k_iinc (b := (y2 + (-8 : Int32))) (ls' := [.ref 396, .int y1, .int (y2 + (-8 : Int32))]) t156_33 rfl rfl (by rw [zci_m8]) rfl).trans ?_
    refine (k_goto t156_36 rfl).trans ?_
    exact (zk_mk (ls' := [.ref 396, .int y1, .int (y2 + (-8 : Int32))]) t156_3 rfl)
-- X12_put
theorem e156 (d : Nat) (x1 : Int32) (S : z_S) (hW : z_W S)  : fV (d + 1) 156 [.ref 396, .int x1] S = b156_3 d x1 (24 : Int32) S := by
  refine (fV_en (Nat.le_of_ble_eq_true rfl) rfl).trans ?_
  refine (k_bipush t156_0 rfl zcb_24).trans ?_
  refine (k_istore_n (ls' := [.ref 396, .int x1, .int (24 : Int32)]) t156_2 rfl rfl).trans ?_
  exact (zk_mk (ls' := [.ref 396, .int x1, .int (24 : Int32)]) t156_3 rfl)
theorem t157_0 : z_ft 157 0 = some (.aload_n 0, 1, none, [], 0, 0, 0, 0) := z_ftd (by decide +kernel)
theorem t157_1 : z_ft 157 1 = some (.getfield 13, 3, none, [], 12, 1, 2, 0) := z_ftd (by decide +kernel)
theorem t157_4 : z_ft 157 4 = some (.bipush 20, 2, none, [], 0, 0, 0, 0) := z_ftd (by decide +kernel)
theorem t157_6 : z_ft 157 6 = some (.iadd, 1, none, [], 0, 0, 0, 0) := z_ftd (by decide +kernel)
theorem t157_7 : z_ft 157 7 = some (.sipush 1600, 3, none, [], 0, 0, 0, 0) := z_ftd (by decide +kernel)
theorem t157_10 : z_ft 157 10 = some (.if_icmp .le 9, 3, none, [], 19, 0, 0, 0) := z_ftd (by decide +kernel)
theorem t157_13 : z_ft 157 13 = some (.aload_n 0, 1, none, [], 0, 0, 0, 0) := z_ftd (by decide +kernel)
theorem t157_14 : z_ft 157 14 = some (.iconst 0, 1, none, [], 0, 0, 0, 0) := z_ftd (by decide +kernel)
theorem t157_15 : z_ft 157 15 = some (.invokevirtual 231, 3, none, [], 194, 0, 73, 0) := z_ftd (by decide +kernel)
theorem t157_18 : z_ft 157 18 = some (.ireturn, 1, none, [], 0, 0, 0, 0) := z_ftd (by decide +kernel)
theorem t157_19 : z_ft 157 19 = some (.aload_n 0, 1, none, [], 0, 0, 0, 0) := z_ftd (by decide +kernel)
theorem t157_20 : z_ft 157 20 = some (.iload_n 1, 1, none, [], 0, 0, 0, 0) := z_ftd (by decide +kernel)
theorem t157_21 : z_ft 157 21 = some (.invokevirtual 235, 3, none, [], 156, 0, 74, 0) := z_ftd (by decide +kernel)
theorem t157_24 : z_ft 157 24 = some (.aload_n 0, 1, none, [], 0, 0, 0, 0) := z_ftd (by decide +kernel)
theorem t157_25 : z_ft 157 25 = some (.iload_n 2, 1, none, [], 0, 0, 0, 0) := z_ftd (by decide +kernel)
theorem t157_26 : z_ft 157 26 = some (.invokevirtual 235, 3, none, [], 156, 0, 74, 0) := z_ftd (by decide +kernel)
theorem t157_29 : z_ft 157 29 = some (.aload_n 0, 1, none, [], 0, 0, 0, 0) := z_ftd (by decide +kernel)
theorem t157_30 : z_ft 157 30 = some (.iload_n 3, 1, none, [], 0, 0, 0, 0) := z_ftd (by decide +kernel)
theorem t157_31 : z_ft 157 31 = some (.invokevirtual 235, 3, none, [], 156, 0, 74, 0) := z_ftd (by decide +kernel)
theorem t157_34 : z_ft 157 34 = some (.aload_n 0, 1, none, [], 0, 0, 0, 0) := z_ftd (by decide +kernel)
theorem t157_35 : z_ft 157 35 = some (.iload 4, 2, none, [], 0, 0, 0, 0) := z_ftd (by decide +kernel)
theorem t157_37 : z_ft 157 37 = some (.invokevirtual 235, 3, none, [], 156, 0, 74, 0) := z_ftd (by decide +kernel)
theorem t157_40 : z_ft 157 40 = some (.aload_n 0, 1, none, [], 0, 0, 0, 0) := z_ftd (by decide +kernel)
theorem t157_41 : z_ft 157 41 = some (.iload 5, 2, none, [], 0, 0, 0, 0) := z_ftd (by decide +kernel)
theorem t157_43 : z_ft 157 43 = some (.invokevirtual 235, 3, none, [], 156, 0, 74, 0) := z_ftd (by decide +kernel)
theorem t157_46 : z_ft 157 46 = some (.aload_n 0, 1, none, [], 0, 0, 0, 0) := z_ftd (by decide +kernel)
theorem t157_47 : z_ft 157 47 = some (.getfield 13, 3, none, [], 12, 1, 2, 0) := z_ftd (by decide +kernel)
theorem t157_50 : z_ft 157 50 = some (.ireturn, 1, none, [], 0, 0, 0, 0) := z_ftd (by decide +kernel)
-- X12_feed
theorem e157 (d : Nat) (x1 : Int32) (x2 : Int32) (x3 : Int32) (x4 : Int32) (x5 : Int32) (S : z_S) (hW : z_W S)  : fI (d + 1) 157 [.ref 396, .int x1, .int x2, .int x3, .int x4, .int x5] S = (if ((gI S 396 1) + (20 : Int32)) ≤ (1600 : Int32) then ((fV d 156 [.ref 396, .int x1] S).bind fun S3 => ((fV d 156 [.ref 396, .int x2] S3).bind fun S5 => ((fV d 156 [.ref 396, .int x3] S5).bind fun S7 => ((fV d 156 [.ref 396, .int x4] S7).bind fun S9 => ((fV d 156 [.ref 396, .int x5] S9).bind fun S11 => some ((gI S11 396 1), S11)))))) else (zb (fI d 194 [.ref 396, .int (0 : Int32)] S) fun v12 S13 => some (v12, S13))) := by
  refine (fI_en (Nat.le_of_ble_eq_true rfl) rfl).trans ?_
  refine (k_aload_n t157_0 rfl rfl).trans ?_
  refine (k_getI t157_1 rfl hW zK_396 (by decide) (by decide)).trans ?_
  refine (k_bipush t157_4 rfl zcb_20).trans ?_
  refine (k_iadd t157_6 rfl).trans ?_
  refine (k_sipush t157_7 rfl zcs_1600).trans ?_
  refine (k_icmp_le t157_10 rfl).trans (z_ite (fun g1 => ?_) (fun g1 => ?_))
  · refine (k_aload_n t157_19 rfl rfl).trans ?_
    refine (k_iload_n t157_20 rfl rfl).trans ?_
    refine k_callV (as := [.ref 396, .int x1]) (rest := []) t157_21 rfl rfl (by decide) rfl rfl (Nat.le_of_ble_eq_true rfl) rfl (z_rcV hW (zK_396) (by decide)) (by decide) (by decide) hW (fun S3 hW3 => ?_)
    refine (k_aload_n t157_24 rfl rfl).trans ?_
    refine (k_iload_n t157_25 rfl rfl).trans ?_
    refine k_callV (as := [.ref 396, .int x2]) (rest := []) t157_26 rfl rfl (by decide) rfl rfl (Nat.le_of_ble_eq_true rfl) rfl (z_rcV hW3 (zK_396) (by decide)) (by decide) (by decide) hW3 (fun S5 hW5 => ?_)
    refine (k_aload_n t157_29 rfl rfl).trans ?_
    refine (k_iload_n t157_30 rfl rfl).trans ?_
    refine k_callV (as := [.ref 396, .int x3]) (rest := []) t157_31 rfl rfl (by decide) rfl rfl (Nat.le_of_ble_eq_true rfl) rfl (z_rcV hW5 (zK_396) (by decide)) (by decide) (by decide) hW5 (fun S7 hW7 => ?_)
    refine (k_aload_n t157_34 rfl rfl).trans ?_
    refine (k_iload t157_35 rfl rfl).trans ?_
    refine k_callV (as := [.ref 396, .int x4]) (rest := []) t157_37 rfl rfl (by decide) rfl rfl (Nat.le_of_ble_eq_true rfl) rfl (z_rcV hW7 (zK_396) (by decide)) (by decide) (by decide) hW7 (fun S9 hW9 => ?_)
    refine (k_aload_n t157_40 rfl rfl).trans ?_
    refine (k_iload t157_41 rfl rfl).trans ?_
    refine k_callV (as := [.ref 396, .int x5]) (rest := []) t157_43 rfl rfl (by decide) rfl rfl (Nat.le_of_ble_eq_true rfl) rfl (z_rcV hW9 (zK_396) (by decide)) (by decide) (by decide) hW9 (fun S11 hW11 => ?_)
    refine (k_aload_n t157_46 rfl rfl).trans ?_
    refine (k_getI t157_47 rfl hW11 zK_396 (by decide) (by decide)).trans ?_
    exact k_ireturn t157_50 rfl (by decide)
  · refine (k_aload_n t157_13 rfl rfl).trans ?_
    refine (k_iconst t157_14 rfl zci_0).trans ?_
    refine k_callI (as := [.ref 396, .int (0 : Int32)]) (rest := []) t157_15 rfl rfl (by decide) rfl rfl (Nat.le_of_ble_eq_true rfl) rfl (z_rcV hW (zK_396) (by decide)) (by decide) (Or.inl (by decide)) hW (fun v12 S13 hW13 => ?_)
    exact k_ireturn t157_18 rfl (by decide)
theorem t158_0 : z_ft 158 0 = some (.iload_n 1, 1, none, [], 0, 0, 0, 0) := z_ftd (by decide +kernel)
theorem t158_1 : z_ft 158 1 = some (.ifCond .lt 11, 3, none, [], 12, 0, 0, 0) := z_ftd (by decide +kernel)
theorem t158_4 : z_ft 158 4 = some (.iload_n 1, 1, none, [], 0, 0, 0, 0) := z_ftd (by decide +kernel)
theorem t158_5 : z_ft 158 5 = some (.aload_n 0, 1, none, [], 0, 0, 0, 0) := z_ftd (by decide +kernel)
theorem t158_6 : z_ft 158 6 = some (.getfield 13, 3, none, [], 12, 1, 2, 0) := z_ftd (by decide +kernel)
theorem t158_9 : z_ft 158 9 = some (.if_icmp .le 17, 3, none, [], 26, 0, 0, 0) := z_ftd (by decide +kernel)
theorem t158_12 : z_ft 158 12 = some (.aload_n 0, 1, (some [0]), [], 0, 0, 0, 0) := z_ftd (by decide +kernel)
theorem t158_13 : z_ft 158 13 = some (.iconst 0, 1, none, [], 0, 0, 0, 0) := z_ftd (by decide +kernel)
theorem t158_14 : z_ft 158 14 = some (.invokevirtual 231, 3, none, [], 194, 0, 73, 0) := z_ftd (by decide +kernel)
theorem t158_17 : z_ft 158 17 = some (.ifCond .lt 7, 3, none, [], 24, 0, 0, 0) := z_ftd (by decide +kernel)
theorem t158_20 : z_ft 158 20 = some (.iconst 1, 1, none, [], 0, 0, 0, 0) := z_ftd (by decide +kernel)
theorem t158_21 : z_ft 158 21 = some (.goto 4, 3, none, [], 25, 0, 0, 0) := z_ftd (by decide +kernel)
theorem t158_24 : z_ft 158 24 = some (.iconst 0, 1, none, [], 0, 0, 0, 0) := z_ftd (by decide +kernel)
theorem t158_25 : z_ft 158 25 = some (.ireturn, 1, (some []), [], 0, 0, 0, 0) := z_ftd (by decide +kernel)
theorem t158_26 : z_ft 158 26 = some (.aload_n 0, 1, none, [], 0, 0, 0, 0) := z_ftd (by decide +kernel)
theorem t158_27 : z_ft 158 27 = some (.iload_n 1, 1, none, [], 0, 0, 0, 0) := z_ftd (by decide +kernel)
theorem t158_28 : z_ft 158 28 = some (.putfield 13, 3, none, [], 12, 1, 2, 0) := z_ftd (by decide +kernel)
theorem t158_31 : z_ft 158 31 = some (.iconst 1, 1, none, [], 0, 0, 0, 0) := z_ftd (by decide +kernel)
theorem t158_32 : z_ft 158 32 = some (.ireturn, 1, none, [], 0, 0, 0, 0) := z_ftd (by decide +kernel)
noncomputable def b158_12 (d : Nat)  (S : z_S) : Option (Int32 × z_S) := zk kI z_X0 d 158 12 [.ref 396, z_j] [] S
theorem b158_12_eq (d : Nat)  (S : z_S) (hW : z_W S)  : b158_12 d  S = (zb (fI d 194 [.ref 396, .int (0 : Int32)] S) fun v3 S4 => (if v3 < (0 : Int32) then some ((0 : Int32), S4) else some ((1 : Int32), S4))) := by
  unfold b158_12
  refine (k_aload_n t158_12 rfl rfl).trans ?_
  refine (k_iconst t158_13 rfl zci_0).trans ?_
  refine k_callI (as := [.ref 396, .int (0 : Int32)]) (rest := []) t158_14 rfl rfl (by decide) rfl rfl (Nat.le_of_ble_eq_true rfl) rfl (z_rcV hW (zK_396) (by decide)) (by decide) (Or.inl (by decide)) hW (fun v3 S4 hW4 => ?_)
  refine (k_if_lt t158_17 rfl).trans (z_ite (fun g5 => ?_) (fun g5 => ?_))
  · refine (k_iconst t158_24 rfl zci_0).trans ?_
    refine (zk_mk (ls' := [z_j, z_j]) t158_25 rfl).trans ?_
    exact k_zretC t158_25 rfl (by decide) (by decide)
  · refine (k_iconst t158_20 rfl zci_1).trans ?_
    refine (k_goto t158_21 rfl).trans ?_
    refine (zk_mk (ls' := [z_j, z_j]) t158_25 rfl).trans ?_
    exact k_zretC t158_25 rfl (by decide) (by decide)
-- X12_end
theorem e158 (d : Nat) (x1 : Int32) (S : z_S) (hW : z_W S)  : fI (d + 1) 158 [.ref 396, .int x1] S = (if x1 < (0 : Int32) then b158_12 d S else (if x1 ≤ (gI S 396 1) then some ((1 : Int32), sI S 396 1 x1) else b158_12 d S)) := by
  refine (fI_en (Nat.le_of_ble_eq_true rfl) rfl).trans ?_
  refine (k_iload_n t158_0 rfl rfl).trans ?_
  refine (k_if_lt t158_1 rfl).trans (z_ite (fun g1 => ?_) (fun g1 => ?_))
  · exact (zk_mk (ls' := [.ref 396, z_j]) t158_12 rfl)
  · refine (k_iload_n t158_4 rfl rfl).trans ?_
    refine (k_aload_n t158_5 rfl rfl).trans ?_
    refine (k_getI t158_6 rfl hW zK_396 (by decide) (by decide)).trans ?_
    refine (k_icmp_le t158_9 rfl).trans (z_ite (fun g2 => ?_) (fun g2 => ?_))
    · refine (k_aload_n t158_26 rfl rfl).trans ?_
      refine (k_iload_n t158_27 rfl rfl).trans ?_
      refine (k_putI t158_28 rfl hW zK_396 (by decide) (by decide) (by decide)).trans ?_
      refine (k_iconst t158_31 rfl zci_1).trans ?_
      exact k_zretC t158_32 rfl (by decide) (by decide)
    · exact (zk_mk (ls' := [.ref 396, z_j]) t158_12 rfl)
theorem t159_0 : z_ft 159 0 = some (.aload_n 0, 1, none, [], 0, 0, 0, 0) := z_ftd (by decide +kernel)
theorem t159_1 : z_ft 159 1 = some (.getfield 36, 3, none, [], 12, 8, 9, 0) := z_ftd (by decide +kernel)
theorem t159_4 : z_ft 159 4 = some (.ifCond .le 4, 3, none, [], 8, 0, 0, 0) := z_ftd (by decide +kernel)
theorem t159_7 : z_ft 159 7 = some (.return_, 1, none, [], 0, 0, 0, 0) := z_ftd (by decide +kernel)
theorem t159_8 : z_ft 159 8 = some (.aload_n 0, 1, none, [], 0, 0, 0, 0) := z_ftd (by decide +kernel)
theorem t159_9 : z_ft 159 9 = some (.iload_n 1, 1, none, [], 0, 0, 0, 0) := z_ftd (by decide +kernel)
theorem t159_10 : z_ft 159 10 = some (.putfield 36, 3, none, [], 12, 8, 9, 0) := z_ftd (by decide +kernel)
theorem t159_13 : z_ft 159 13 = some (.aload_n 0, 1, none, [], 0, 0, 0, 0) := z_ftd (by decide +kernel)
theorem t159_14 : z_ft 159 14 = some (.iload_n 2, 1, none, [], 0, 0, 0, 0) := z_ftd (by decide +kernel)
theorem t159_15 : z_ft 159 15 = some (.putfield 39, 3, none, [], 12, 9, 10, 0) := z_ftd (by decide +kernel)
theorem t159_18 : z_ft 159 18 = some (.return_, 1, none, [], 0, 0, 0, 0) := z_ftd (by decide +kernel)
-- X12_blame
theorem e159 (d : Nat) (x1 : Int32) (x2 : Int32) (S : z_S) (hW : z_W S)  : fV (d + 1) 159 [.ref 396, .int x1, .int x2] S = (if (gI S 396 8) ≤ (0 : Int32) then some (sI (sI S 396 8 x1) 396 9 x2) else some S) := by
  refine (fV_en (Nat.le_of_ble_eq_true rfl) rfl).trans ?_
  refine (k_aload_n t159_0 rfl rfl).trans ?_
  refine (k_getI t159_1 rfl hW zK_396 (by decide) (by decide)).trans ?_
  refine (k_if_le t159_4 rfl).trans (z_ite (fun g1 => ?_) (fun g1 => ?_))
  · refine (k_aload_n t159_8 rfl rfl).trans ?_
    refine (k_iload_n t159_9 rfl rfl).trans ?_
    refine (k_putI t159_10 rfl hW zK_396 (by decide) (by decide) (by decide)).trans ?_
    refine (k_aload_n t159_13 rfl rfl).trans ?_
    refine (k_iload_n t159_14 rfl rfl).trans ?_
    refine (k_putI t159_15 rfl hW.sI zK_396 (by decide) (by decide) (by decide)).trans ?_
    exact k_return t159_18 rfl (by decide)
  · exact k_return t159_7 rfl (by decide)
theorem t160_0 : z_ft 160 0 = some (.iload_n 0, 1, none, [], 0, 0, 0, 0) := z_ftd (by decide +kernel)
theorem t160_1 : z_ft 160 1 = some (.bipush 97, 2, none, [], 0, 0, 0, 0) := z_ftd (by decide +kernel)
theorem t160_3 : z_ft 160 3 = some (.if_icmp .lt 13, 3, none, [], 16, 0, 0, 0) := z_ftd (by decide +kernel)
theorem t160_6 : z_ft 160 6 = some (.iload_n 0, 1, none, [], 0, 0, 0, 0) := z_ftd (by decide +kernel)
theorem t160_7 : z_ft 160 7 = some (.bipush 122, 2, none, [], 0, 0, 0, 0) := z_ftd (by decide +kernel)
theorem t160_9 : z_ft 160 9 = some (.if_icmp .gt 7, 3, none, [], 16, 0, 0, 0) := z_ftd (by decide +kernel)
theorem t160_12 : z_ft 160 12 = some (.iconst 1, 1, none, [], 0, 0, 0, 0) := z_ftd (by decide +kernel)
theorem t160_13 : z_ft 160 13 = some (.goto 4, 3, none, [], 17, 0, 0, 0) := z_ftd (by decide +kernel)
theorem t160_16 : z_ft 160 16 = some (.iconst 0, 1, (some []), [], 0, 0, 0, 0) := z_ftd (by decide +kernel)
theorem t160_17 : z_ft 160 17 = some (.ireturn, 1, (some []), [], 0, 0, 0, 0) := z_ftd (by decide +kernel)
noncomputable def b160_16 (d : Nat)  (S : z_S) : Option (Int32 × z_S) := zk kI z_X0 d 160 16 [z_j] [] S
theorem b160_16_eq (d : Nat)  (S : z_S) (hW : z_W S)  : b160_16 d  S = some ((0 : Int32), S) := by
  unfold b160_16
  refine (k_iconst t160_16 rfl zci_0).trans ?_
  refine (zk_mk (ls' := [z_j]) t160_17 rfl).trans ?_
  exact k_zretC t160_17 rfl (by decide) (by decide)
-- X12_isLetter
theorem e160 (d : Nat) (x1 : Int32) (S : z_S) (hW : z_W S)  : fI (d + 1) 160 [.int x1] S = (if x1 < (97 : Int32) then b160_16 d S else (if (122 : Int32) < x1 then b160_16 d S else some ((1 : Int32), S))) := by
  refine (fI_en (Nat.le_of_ble_eq_true rfl) rfl).trans ?_
  refine (k_iload_n t160_0 rfl rfl).trans ?_
  refine (k_bipush t160_1 rfl zcb_97).trans ?_
  refine (k_icmp_lt t160_3 rfl).trans (z_ite (fun g1 => ?_) (fun g1 => ?_))
  · exact (zk_mk (ls' := [z_j]) t160_16 rfl)
  · refine (k_iload_n t160_6 rfl rfl).trans ?_
    refine (k_bipush t160_7 rfl zcb_122).trans ?_
    refine (k_icmp_gt t160_9 rfl).trans (z_ite (fun g2 => ?_) (fun g2 => ?_))
    · exact (zk_mk (ls' := [z_j]) t160_16 rfl)
    · refine (k_iconst t160_12 rfl zci_1).trans ?_
      refine (k_goto t160_13 rfl).trans ?_
      refine (zk_mk (ls' := [z_j]) t160_17 rfl).trans ?_
      exact k_zretC t160_17 rfl (by decide) (by decide)
theorem t161_0 : z_ft 161 0 = some (.iload_n 0, 1, none, [], 0, 0, 0, 0) := z_ftd (by decide +kernel)
theorem t161_1 : z_ft 161 1 = some (.bipush 48, 2, none, [], 0, 0, 0, 0) := z_ftd (by decide +kernel)
theorem t161_3 : z_ft 161 3 = some (.if_icmp .lt 13, 3, none, [], 16, 0, 0, 0) := z_ftd (by decide +kernel)
theorem t161_6 : z_ft 161 6 = some (.iload_n 0, 1, none, [], 0, 0, 0, 0) := z_ftd (by decide +kernel)
theorem t161_7 : z_ft 161 7 = some (.bipush 57, 2, none, [], 0, 0, 0, 0) := z_ftd (by decide +kernel)
theorem t161_9 : z_ft 161 9 = some (.if_icmp .gt 7, 3, none, [], 16, 0, 0, 0) := z_ftd (by decide +kernel)
theorem t161_12 : z_ft 161 12 = some (.iconst 1, 1, none, [], 0, 0, 0, 0) := z_ftd (by decide +kernel)
theorem t161_13 : z_ft 161 13 = some (.goto 4, 3, none, [], 17, 0, 0, 0) := z_ftd (by decide +kernel)
theorem t161_16 : z_ft 161 16 = some (.iconst 0, 1, (some []), [], 0, 0, 0, 0) := z_ftd (by decide +kernel)
theorem t161_17 : z_ft 161 17 = some (.ireturn, 1, (some []), [], 0, 0, 0, 0) := z_ftd (by decide +kernel)
noncomputable def b161_16 (d : Nat)  (S : z_S) : Option (Int32 × z_S) := zk kI z_X0 d 161 16 [z_j] [] S
theorem b161_16_eq (d : Nat)  (S : z_S) (hW : z_W S)  : b161_16 d  S = some ((0 : Int32), S) := by
  unfold b161_16
  refine (k_iconst t161_16 rfl zci_0).trans ?_
  refine (zk_mk (ls' := [z_j]) t161_17 rfl).trans ?_
  exact k_zretC t161_17 rfl (by decide) (by decide)
-- X12_isDigit
theorem e161 (d : Nat) (x1 : Int32) (S : z_S) (hW : z_W S)  : fI (d + 1) 161 [.int x1] S = (if x1 < (48 : Int32) then b161_16 d S else (if (57 : Int32) < x1 then b161_16 d S else some ((1 : Int32), S))) := by
  refine (fI_en (Nat.le_of_ble_eq_true rfl) rfl).trans ?_
  refine (k_iload_n t161_0 rfl rfl).trans ?_
  refine (k_bipush t161_1 rfl zcb_48).trans ?_
  refine (k_icmp_lt t161_3 rfl).trans (z_ite (fun g1 => ?_) (fun g1 => ?_))
  · exact (zk_mk (ls' := [z_j]) t161_16 rfl)
  · refine (k_iload_n t161_6 rfl rfl).trans ?_
    refine (k_bipush t161_7 rfl zcb_57).trans ?_
    refine (k_icmp_gt t161_9 rfl).trans (z_ite (fun g2 => ?_) (fun g2 => ?_))
    · exact (zk_mk (ls' := [z_j]) t161_16 rfl)
    · refine (k_iconst t161_12 rfl zci_1).trans ?_
      refine (k_goto t161_13 rfl).trans ?_
      refine (zk_mk (ls' := [z_j]) t161_17 rfl).trans ?_
      exact k_zretC t161_17 rfl (by decide) (by decide)
theorem t162_0 : z_ft 162 0 = some (.aload_n 0, 1, none, [], 0, 0, 0, 0) := z_ftd (by decide +kernel)
theorem t162_1 : z_ft 162 1 = some (.getfield 48, 3, none, [], 12, 12, 13, 0) := z_ftd (by decide +kernel)
theorem t162_4 : z_ft 162 4 = some (.iconst (-1), 1, none, [], 0, 0, 0, 0) := z_ftd (by decide +kernel)
theorem t162_5 : z_ft 162 5 = some (.if_icmp .eq 12, 3, none, [], 17, 0, 0, 0) := z_ftd (by decide +kernel)
theorem t162_8 : z_ft 162 8 = some (.aload_n 0, 1, none, [], 0, 0, 0, 0) := z_ftd (by decide +kernel)
theorem t162_9 : z_ft 162 9 = some (.iconst 1, 1, none, [], 0, 0, 0, 0) := z_ftd (by decide +kernel)
theorem t162_10 : z_ft 162 10 = some (.aload_n 0, 1, none, [], 0, 0, 0, 0) := z_ftd (by decide +kernel)
theorem t162_11 : z_ft 162 11 = some (.getfield 48, 3, none, [], 12, 12, 13, 0) := z_ftd (by decide +kernel)
theorem t162_14 : z_ft 162 14 = some (.invokevirtual 239, 3, none, [], 159, 0, 82, 0) := z_ftd (by decide +kernel)
theorem t162_17 : z_ft 162 17 = some (.return_, 1, (some []), [], 0, 0, 0, 0) := z_ftd (by decide +kernel)
-- X12_lex
theorem e162 (d : Nat)  (S : z_S) (hW : z_W S)  : fV (d + 1) 162 [.ref 396] S = (if (gI S 396 12) = (-1 : Int32) then some S else ((fV d 159 [.ref 396, .int (1 : Int32), .int (gI S 396 12)] S).bind fun S3 => some S3)) := by
  refine (fV_en (Nat.le_of_ble_eq_true rfl) rfl).trans ?_
  refine (k_aload_n t162_0 rfl rfl).trans ?_
  refine (k_getI t162_1 rfl hW zK_396 (by decide) (by decide)).trans ?_
  refine (k_iconst t162_4 rfl zci_m1).trans ?_
  refine (k_icmp_eq t162_5 rfl).trans (z_ite (fun g1 => ?_) (fun g1 => ?_))
  · refine (zk_mk (ls' := [z_j]) t162_17 rfl).trans ?_
    exact k_return t162_17 rfl (by decide)
  · refine (k_aload_n t162_8 rfl rfl).trans ?_
    refine (k_iconst t162_9 rfl zci_1).trans ?_
    refine (k_aload_n t162_10 rfl rfl).trans ?_
    refine (k_getI t162_11 rfl hW zK_396 (by decide) (by decide)).trans ?_
    refine k_callV (as := [.ref 396, .int (1 : Int32), .int (gI S 396 12)]) (rest := []) t162_14 rfl rfl (by decide) rfl rfl (Nat.le_of_ble_eq_true rfl) rfl (z_rcV hW (zK_396) (by decide)) (by decide) (by decide) hW (fun S3 hW3 => ?_)
    refine (zk_mk (ls' := [z_j]) t162_17 rfl).trans ?_
    exact k_return t162_17 rfl (by decide)
theorem t163_0 : z_ft 163 0 = some (.aload_n 0, 1, none, [], 0, 0, 0, 0) := z_ftd (by decide +kernel)
theorem t163_1 : z_ft 163 1 = some (.getfield 26, 3, none, [], 12, 5, 6, 0) := z_ftd (by decide +kernel)
theorem t163_4 : z_ft 163 4 = some (.istore_n 1, 1, none, [], 0, 0, 0, 0) := z_ftd (by decide +kernel)
theorem t163_5 : z_ft 163 5 = some (.iload_n 1, 1, (some [0, 1]), [], 0, 0, 0, 0) := z_ftd (by decide +kernel)
theorem t163_6 : z_ft 163 6 = some (.aload_n 0, 1, none, [], 0, 0, 0, 0) := z_ftd (by decide +kernel)
theorem t163_7 : z_ft 163 7 = some (.getfield 17, 3, none, [], 12, 2, 3, 0) := z_ftd (by decide +kernel)
theorem t163_10 : z_ft 163 10 = some (.if_icmp .ge 31, 3, none, [], 41, 0, 0, 0) := z_ftd (by decide +kernel)
theorem t163_13 : z_ft 163 13 = some (.aload_n 0, 1, none, [], 0, 0, 0, 0) := z_ftd (by decide +kernel)
theorem t163_14 : z_ft 163 14 = some (.getfield 7, 3, none, [], 12, 0, 1, 0) := z_ftd (by decide +kernel)
theorem t163_17 : z_ft 163 17 = some (.iload_n 1, 1, none, [], 0, 0, 0, 0) := z_ftd (by decide +kernel)
theorem t163_18 : z_ft 163 18 = some (.iaload, 1, none, [], 0, 0, 0, 0) := z_ftd (by decide +kernel)
theorem t163_19 : z_ft 163 19 = some (.bipush 32, 2, none, [], 0, 0, 0, 0) := z_ftd (by decide +kernel)
theorem t163_21 : z_ft 163 21 = some (.if_icmp .eq 14, 3, none, [], 35, 0, 0, 0) := z_ftd (by decide +kernel)
theorem t163_24 : z_ft 163 24 = some (.aload_n 0, 1, none, [], 0, 0, 0, 0) := z_ftd (by decide +kernel)
theorem t163_25 : z_ft 163 25 = some (.getfield 7, 3, none, [], 12, 0, 1, 0) := z_ftd (by decide +kernel)
theorem t163_28 : z_ft 163 28 = some (.iload_n 1, 1, none, [], 0, 0, 0, 0) := z_ftd (by decide +kernel)
theorem t163_29 : z_ft 163 29 = some (.iaload, 1, none, [], 0, 0, 0, 0) := z_ftd (by decide +kernel)
theorem t163_30 : z_ft 163 30 = some (.bipush 10, 2, none, [], 0, 0, 0, 0) := z_ftd (by decide +kernel)
theorem t163_32 : z_ft 163 32 = some (.if_icmp .ne 9, 3, none, [], 41, 0, 0, 0) := z_ftd (by decide +kernel)
theorem t163_35 : z_ft 163 35 = some (.iinc 1 1, 3, (some [0, 1]), [], 0, 0, 0, 0) := z_ftd (by decide +kernel)
theorem t163_38 : z_ft 163 38 = some (.goto (-33), 3, none, [], 5, 0, 0, 0) := z_ftd (by decide +kernel)
theorem t163_41 : z_ft 163 41 = some (.aload_n 0, 1, (some [0, 1]), [], 0, 0, 0, 0) := z_ftd (by decide +kernel)
theorem t163_42 : z_ft 163 42 = some (.iload_n 1, 1, none, [], 0, 0, 0, 0) := z_ftd (by decide +kernel)
theorem t163_43 : z_ft 163 43 = some (.putfield 23, 3, none, [], 12, 4, 5, 0) := z_ftd (by decide +kernel)
theorem t163_46 : z_ft 163 46 = some (.aload_n 0, 1, none, [], 0, 0, 0, 0) := z_ftd (by decide +kernel)
theorem t163_47 : z_ft 163 47 = some (.iload_n 1, 1, none, [], 0, 0, 0, 0) := z_ftd (by decide +kernel)
theorem t163_48 : z_ft 163 48 = some (.putfield 26, 3, none, [], 12, 5, 6, 0) := z_ftd (by decide +kernel)
theorem t163_51 : z_ft 163 51 = some (.aload_n 0, 1, none, [], 0, 0, 0, 0) := z_ftd (by decide +kernel)
theorem t163_52 : z_ft 163 52 = some (.iconst 0, 1, none, [], 0, 0, 0, 0) := z_ftd (by decide +kernel)
theorem t163_53 : z_ft 163 53 = some (.putfield 20, 3, none, [], 12, 3, 4, 0) := z_ftd (by decide +kernel)
theorem t163_56 : z_ft 163 56 = some (.aload_n 0, 1, none, [], 0, 0, 0, 0) := z_ftd (by decide +kernel)
theorem t163_57 : z_ft 163 57 = some (.iconst (-1), 1, none, [], 0, 0, 0, 0) := z_ftd (by decide +kernel)
theorem t163_58 : z_ft 163 58 = some (.putfield 48, 3, none, [], 12, 12, 13, 0) := z_ftd (by decide +kernel)
theorem t163_61 : z_ft 163 61 = some (.iload_n 1, 1, none, [], 0, 0, 0, 0) := z_ftd (by decide +kernel)
theorem t163_62 : z_ft 163 62 = some (.aload_n 0, 1, none, [], 0, 0, 0, 0) := z_ftd (by decide +kernel)
theorem t163_63 : z_ft 163 63 = some (.getfield 17, 3, none, [], 12, 2, 3, 0) := z_ftd (by decide +kernel)
theorem t163_66 : z_ft 163 66 = some (.if_icmp .lt 4, 3, none, [], 70, 0, 0, 0) := z_ftd (by decide +kernel)
theorem t163_69 : z_ft 163 69 = some (.return_, 1, none, [], 0, 0, 0, 0) := z_ftd (by decide +kernel)
theorem t163_70 : z_ft 163 70 = some (.aload_n 0, 1, none, [], 0, 0, 0, 0) := z_ftd (by decide +kernel)
theorem t163_71 : z_ft 163 71 = some (.getfield 7, 3, none, [], 12, 0, 1, 0) := z_ftd (by decide +kernel)
theorem t163_74 : z_ft 163 74 = some (.iload_n 1, 1, none, [], 0, 0, 0, 0) := z_ftd (by decide +kernel)
theorem t163_75 : z_ft 163 75 = some (.iaload, 1, none, [], 0, 0, 0, 0) := z_ftd (by decide +kernel)
theorem t163_76 : z_ft 163 76 = some (.invokestatic 243, 3, none, [], 160, 0, 76, 0) := z_ftd (by decide +kernel)
theorem t163_79 : z_ft 163 79 = some (.istore_n 2, 1, none, [], 0, 0, 0, 0) := z_ftd (by decide +kernel)
theorem t163_80 : z_ft 163 80 = some (.aload_n 0, 1, none, [], 0, 0, 0, 0) := z_ftd (by decide +kernel)
theorem t163_81 : z_ft 163 81 = some (.getfield 7, 3, none, [], 12, 0, 1, 0) := z_ftd (by decide +kernel)
theorem t163_84 : z_ft 163 84 = some (.iload_n 1, 1, none, [], 0, 0, 0, 0) := z_ftd (by decide +kernel)
theorem t163_85 : z_ft 163 85 = some (.iaload, 1, none, [], 0, 0, 0, 0) := z_ftd (by decide +kernel)
theorem t163_86 : z_ft 163 86 = some (.invokestatic 247, 3, none, [], 161, 0, 77, 0) := z_ftd (by decide +kernel)
theorem t163_89 : z_ft 163 89 = some (.istore_n 3, 1, none, [], 0, 0, 0, 0) := z_ftd (by decide +kernel)
theorem t163_90 : z_ft 163 90 = some (.iload_n 2, 1, none, [], 0, 0, 0, 0) := z_ftd (by decide +kernel)
theorem t163_91 : z_ft 163 91 = some (.ifCond .ne 7, 3, none, [], 98, 0, 0, 0) := z_ftd (by decide +kernel)
theorem t163_94 : z_ft 163 94 = some (.iload_n 3, 1, none, [], 0, 0, 0, 0) := z_ftd (by decide +kernel)
theorem t163_95 : z_ft 163 95 = some (.ifCond .eq 40, 3, none, [], 135, 0, 0, 0) := z_ftd (by decide +kernel)
theorem t163_98 : z_ft 163 98 = some (.iload_n 1, 1, (some [0, 1, 2, 3]), [], 0, 0, 0, 0) := z_ftd (by decide +kernel)
theorem t163_99 : z_ft 163 99 = some (.ifCond .le 36, 3, none, [], 135, 0, 0, 0) := z_ftd (by decide +kernel)
theorem t163_102 : z_ft 163 102 = some (.aload_n 0, 1, none, [], 0, 0, 0, 0) := z_ftd (by decide +kernel)
theorem t163_103 : z_ft 163 103 = some (.getfield 7, 3, none, [], 12, 0, 1, 0) := z_ftd (by decide +kernel)
theorem t163_106 : z_ft 163 106 = some (.iload_n 1, 1, none, [], 0, 0, 0, 0) := z_ftd (by decide +kernel)
theorem t163_107 : z_ft 163 107 = some (.iconst 1, 1, none, [], 0, 0, 0, 0) := z_ftd (by decide +kernel)
theorem t163_108 : z_ft 163 108 = some (.isub, 1, none, [], 0, 0, 0, 0) := z_ftd (by decide +kernel)
theorem t163_109 : z_ft 163 109 = some (.iaload, 1, none, [], 0, 0, 0, 0) := z_ftd (by decide +kernel)
theorem t163_110 : z_ft 163 110 = some (.invokestatic 243, 3, none, [], 160, 0, 76, 0) := z_ftd (by decide +kernel)
theorem t163_113 : z_ft 163 113 = some (.ifCond .ne 17, 3, none, [], 130, 0, 0, 0) := z_ftd (by decide +kernel)
theorem t163_116 : z_ft 163 116 = some (.aload_n 0, 1, none, [], 0, 0, 0, 0) := z_ftd (by decide +kernel)
theorem t163_117 : z_ft 163 117 = some (.getfield 7, 3, none, [], 12, 0, 1, 0) := z_ftd (by decide +kernel)
theorem t163_120 : z_ft 163 120 = some (.iload_n 1, 1, none, [], 0, 0, 0, 0) := z_ftd (by decide +kernel)
theorem t163_121 : z_ft 163 121 = some (.iconst 1, 1, none, [], 0, 0, 0, 0) := z_ftd (by decide +kernel)
theorem t163_122 : z_ft 163 122 = some (.isub, 1, none, [], 0, 0, 0, 0) := z_ftd (by decide +kernel)
theorem t163_123 : z_ft 163 123 = some (.iaload, 1, none, [], 0, 0, 0, 0) := z_ftd (by decide +kernel)
theorem t163_124 : z_ft 163 124 = some (.invokestatic 247, 3, none, [], 161, 0, 77, 0) := z_ftd (by decide +kernel)
theorem t163_127 : z_ft 163 127 = some (.ifCond .eq 8, 3, none, [], 135, 0, 0, 0) := z_ftd (by decide +kernel)
theorem t163_130 : z_ft 163 130 = some (.aload_n 0, 1, (some [0, 1, 2, 3]), [], 0, 0, 0, 0) := z_ftd (by decide +kernel)
theorem t163_131 : z_ft 163 131 = some (.iload_n 1, 1, none, [], 0, 0, 0, 0) := z_ftd (by decide +kernel)
theorem t163_132 : z_ft 163 132 = some (.putfield 48, 3, none, [], 12, 12, 13, 0) := z_ftd (by decide +kernel)
theorem t163_135 : z_ft 163 135 = some (.aload_n 0, 1, (some [0, 1, 2, 3]), [], 0, 0, 0, 0) := z_ftd (by decide +kernel)
theorem t163_136 : z_ft 163 136 = some (.iconst 0, 1, none, [], 0, 0, 0, 0) := z_ftd (by decide +kernel)
theorem t163_137 : z_ft 163 137 = some (.putfield 29, 3, none, [], 12, 6, 7, 0) := z_ftd (by decide +kernel)
theorem t163_140 : z_ft 163 140 = some (.aload_n 0, 1, none, [], 0, 0, 0, 0) := z_ftd (by decide +kernel)
theorem t163_141 : z_ft 163 141 = some (.lconst 0, 1, none, [], 0, 0, 0, 0) := z_ftd (by decide +kernel)
theorem t163_142 : z_ft 163 142 = some (.putfield 32, 3, none, [], 12, 7, 8, 0) := z_ftd (by decide +kernel)
theorem t163_145 : z_ft 163 145 = some (.aload_n 0, 1, none, [], 0, 0, 0, 0) := z_ftd (by decide +kernel)
theorem t163_146 : z_ft 163 146 = some (.iconst 3, 1, none, [], 0, 0, 0, 0) := z_ftd (by decide +kernel)
theorem t163_147 : z_ft 163 147 = some (.putfield 20, 3, none, [], 12, 3, 4, 0) := z_ftd (by decide +kernel)
theorem t163_150 : z_ft 163 150 = some (.aload_n 0, 1, none, [], 0, 0, 0, 0) := z_ftd (by decide +kernel)
theorem t163_151 : z_ft 163 151 = some (.iload_n 1, 1, none, [], 0, 0, 0, 0) := z_ftd (by decide +kernel)
theorem t163_152 : z_ft 163 152 = some (.iconst 1, 1, none, [], 0, 0, 0, 0) := z_ftd (by decide +kernel)
theorem t163_153 : z_ft 163 153 = some (.iadd, 1, none, [], 0, 0, 0, 0) := z_ftd (by decide +kernel)
theorem t163_154 : z_ft 163 154 = some (.putfield 26, 3, none, [], 12, 5, 6, 0) := z_ftd (by decide +kernel)
theorem t163_157 : z_ft 163 157 = some (.iload_n 2, 1, none, [], 0, 0, 0, 0) := z_ftd (by decide +kernel)
theorem t163_158 : z_ft 163 158 = some (.ifCond .ne 18, 3, none, [], 176, 0, 0, 0) := z_ftd (by decide +kernel)
theorem t163_161 : z_ft 163 161 = some (.iload_n 3, 1, none, [], 0, 0, 0, 0) := z_ftd (by decide +kernel)
theorem t163_162 : z_ft 163 162 = some (.ifCond .ne 14, 3, none, [], 176, 0, 0, 0) := z_ftd (by decide +kernel)
theorem t163_165 : z_ft 163 165 = some (.aload_n 0, 1, none, [], 0, 0, 0, 0) := z_ftd (by decide +kernel)
theorem t163_166 : z_ft 163 166 = some (.aload_n 0, 1, none, [], 0, 0, 0, 0) := z_ftd (by decide +kernel)
theorem t163_167 : z_ft 163 167 = some (.getfield 7, 3, none, [], 12, 0, 1, 0) := z_ftd (by decide +kernel)
theorem t163_170 : z_ft 163 170 = some (.iload_n 1, 1, none, [], 0, 0, 0, 0) := z_ftd (by decide +kernel)
theorem t163_171 : z_ft 163 171 = some (.iaload, 1, none, [], 0, 0, 0, 0) := z_ftd (by decide +kernel)
theorem t163_172 : z_ft 163 172 = some (.putfield 29, 3, none, [], 12, 6, 7, 0) := z_ftd (by decide +kernel)
theorem t163_175 : z_ft 163 175 = some (.return_, 1, none, [], 0, 0, 0, 0) := z_ftd (by decide +kernel)
theorem t163_176 : z_ft 163 176 = some (.aload_n 0, 1, (some [0, 1, 2, 3]), [], 0, 0, 0, 0) := z_ftd (by decide +kernel)
theorem t163_177 : z_ft 163 177 = some (.iload_n 2, 1, none, [], 0, 0, 0, 0) := z_ftd (by decide +kernel)
theorem t163_178 : z_ft 163 178 = some (.ifCond .eq 7, 3, none, [], 185, 0, 0, 0) := z_ftd (by decide +kernel)
theorem t163_181 : z_ft 163 181 = some (.iconst 1, 1, none, [], 0, 0, 0, 0) := z_ftd (by decide +kernel)
theorem t163_182 : z_ft 163 182 = some (.goto 4, 3, none, [], 186, 0, 0, 0) := z_ftd (by decide +kernel)
theorem t163_185 : z_ft 163 185 = some (.iconst 2, 1, none, [], 0, 0, 0, 0) := z_ftd (by decide +kernel)
theorem t163_186 : z_ft 163 186 = some (.putfield 20, 3, (some [0, 1, 2, 3]), [], 12, 3, 4, 0) := z_ftd (by decide +kernel)
theorem t163_189 : z_ft 163 189 = some (.iload_n 2, 1, none, [], 0, 0, 0, 0) := z_ftd (by decide +kernel)
theorem t163_190 : z_ft 163 190 = some (.ifCond .eq 8, 3, none, [], 198, 0, 0, 0) := z_ftd (by decide +kernel)
theorem t163_193 : z_ft 163 193 = some (.bipush 6, 2, none, [], 0, 0, 0, 0) := z_ftd (by decide +kernel)
theorem t163_195 : z_ft 163 195 = some (.goto 4, 3, none, [], 199, 0, 0, 0) := z_ftd (by decide +kernel)
theorem t163_198 : z_ft 163 198 = some (.iconst 4, 1, none, [], 0, 0, 0, 0) := z_ftd (by decide +kernel)
theorem t163_199 : z_ft 163 199 = some (.istore 4, 2, (some [0, 1, 2, 3]), [], 0, 0, 0, 0) := z_ftd (by decide +kernel)
theorem t163_201 : z_ft 163 201 = some (.iconst 0, 1, none, [], 0, 0, 0, 0) := z_ftd (by decide +kernel)
theorem t163_202 : z_ft 163 202 = some (.istore 5, 2, none, [], 0, 0, 0, 0) := z_ftd (by decide +kernel)
theorem t163_204 : z_ft 163 204 = some (.iload_n 1, 1, (some [0, 1, 2, 3, 4, 5]), [], 0, 0, 0, 0) := z_ftd (by decide +kernel)
theorem t163_205 : z_ft 163 205 = some (.aload_n 0, 1, none, [], 0, 0, 0, 0) := z_ftd (by decide +kernel)
theorem t163_206 : z_ft 163 206 = some (.getfield 17, 3, none, [], 12, 2, 3, 0) := z_ftd (by decide +kernel)
theorem t163_209 : z_ft 163 209 = some (.if_icmp .ge 125, 3, none, [], 334, 0, 0, 0) := z_ftd (by decide +kernel)
theorem t163_212 : z_ft 163 212 = some (.iload_n 2, 1, none, [], 0, 0, 0, 0) := z_ftd (by decide +kernel)
theorem t163_213 : z_ft 163 213 = some (.ifCond .eq 18, 3, none, [], 231, 0, 0, 0) := z_ftd (by decide +kernel)
theorem t163_216 : z_ft 163 216 = some (.aload_n 0, 1, none, [], 0, 0, 0, 0) := z_ftd (by decide +kernel)
theorem t163_217 : z_ft 163 217 = some (.getfield 7, 3, none, [], 12, 0, 1, 0) := z_ftd (by decide +kernel)
theorem t163_220 : z_ft 163 220 = some (.iload_n 1, 1, none, [], 0, 0, 0, 0) := z_ftd (by decide +kernel)
theorem t163_221 : z_ft 163 221 = some (.iaload, 1, none, [], 0, 0, 0, 0) := z_ftd (by decide +kernel)
theorem t163_222 : z_ft 163 222 = some (.invokestatic 243, 3, none, [], 160, 0, 76, 0) := z_ftd (by decide +kernel)
theorem t163_225 : z_ft 163 225 = some (.ifCond .eq 109, 3, none, [], 334, 0, 0, 0) := z_ftd (by decide +kernel)
theorem t163_228 : z_ft 163 228 = some (.goto 15, 3, none, [], 243, 0, 0, 0) := z_ftd (by decide +kernel)
theorem t163_231 : z_ft 163 231 = some (.aload_n 0, 1, none, [], 0, 0, 0, 0) := z_ftd (by decide +kernel)
theorem t163_232 : z_ft 163 232 = some (.getfield 7, 3, none, [], 12, 0, 1, 0) := z_ftd (by decide +kernel)
theorem t163_235 : z_ft 163 235 = some (.iload_n 1, 1, none, [], 0, 0, 0, 0) := z_ftd (by decide +kernel)
theorem t163_236 : z_ft 163 236 = some (.iaload, 1, none, [], 0, 0, 0, 0) := z_ftd (by decide +kernel)
theorem t163_237 : z_ft 163 237 = some (.invokestatic 247, 3, none, [], 161, 0, 77, 0) := z_ftd (by decide +kernel)
theorem t163_240 : z_ft 163 240 = some (.ifCond .eq 94, 3, none, [], 334, 0, 0, 0) := z_ftd (by decide +kernel)
theorem t163_243 : z_ft 163 243 = some (.iload 5, 2, (some [0, 1, 2, 3, 4, 5]), [], 0, 0, 0, 0) := z_ftd (by decide +kernel)
theorem t163_245 : z_ft 163 245 = some (.iload 4, 2, none, [], 0, 0, 0, 0) := z_ftd (by decide +kernel)
theorem t163_247 : z_ft 163 247 = some (.if_icmp .ne 16, 3, none, [], 263, 0, 0, 0) := z_ftd (by decide +kernel)
theorem t163_250 : z_ft 163 250 = some (.aload_n 0, 1, none, [], 0, 0, 0, 0) := z_ftd (by decide +kernel)
theorem t163_251 : z_ft 163 251 = some (.getfield 48, 3, none, [], 12, 12, 13, 0) := z_ftd (by decide +kernel)
theorem t163_254 : z_ft 163 254 = some (.iconst (-1), 1, none, [], 0, 0, 0, 0) := z_ftd (by decide +kernel)
theorem t163_255 : z_ft 163 255 = some (.if_icmp .ne 8, 3, none, [], 263, 0, 0, 0) := z_ftd (by decide +kernel)
theorem t163_258 : z_ft 163 258 = some (.aload_n 0, 1, none, [], 0, 0, 0, 0) := z_ftd (by decide +kernel)
theorem t163_259 : z_ft 163 259 = some (.iload_n 1, 1, none, [], 0, 0, 0, 0) := z_ftd (by decide +kernel)
theorem t163_260 : z_ft 163 260 = some (.putfield 48, 3, none, [], 12, 12, 13, 0) := z_ftd (by decide +kernel)
theorem t163_263 : z_ft 163 263 = some (.iload 5, 2, (some [0, 1, 2, 3, 4, 5]), [], 0, 0, 0, 0) := z_ftd (by decide +kernel)
theorem t163_265 : z_ft 163 265 = some (.iload 4, 2, none, [], 0, 0, 0, 0) := z_ftd (by decide +kernel)
theorem t163_267 : z_ft 163 267 = some (.if_icmp .ge 26, 3, none, [], 293, 0, 0, 0) := z_ftd (by decide +kernel)
theorem t163_270 : z_ft 163 270 = some (.iload_n 2, 1, none, [], 0, 0, 0, 0) := z_ftd (by decide +kernel)
theorem t163_271 : z_ft 163 271 = some (.ifCond .eq 22, 3, none, [], 293, 0, 0, 0) := z_ftd (by decide +kernel)
theorem t163_274 : z_ft 163 274 = some (.aload_n 0, 1, none, [], 0, 0, 0, 0) := z_ftd (by decide +kernel)
theorem t163_275 : z_ft 163 275 = some (.aload_n 0, 1, none, [], 0, 0, 0, 0) := z_ftd (by decide +kernel)
theorem t163_276 : z_ft 163 276 = some (.getfield 32, 3, none, [], 12, 7, 8, 0) := z_ftd (by decide +kernel)
theorem t163_279 : z_ft 163 279 = some (.bipush 8, 2, none, [], 0, 0, 0, 0) := z_ftd (by decide +kernel)
theorem t163_281 : z_ft 163 281 = some (.lshl, 1, none, [], 0, 0, 0, 0) := z_ftd (by decide +kernel)
theorem t163_282 : z_ft 163 282 = some (.aload_n 0, 1, none, [], 0, 0, 0, 0) := z_ftd (by decide +kernel)
theorem t163_283 : z_ft 163 283 = some (.getfield 7, 3, none, [], 12, 0, 1, 0) := z_ftd (by decide +kernel)
theorem t163_286 : z_ft 163 286 = some (.iload_n 1, 1, none, [], 0, 0, 0, 0) := z_ftd (by decide +kernel)
theorem t163_287 : z_ft 163 287 = some (.iaload, 1, none, [], 0, 0, 0, 0) := z_ftd (by decide +kernel)
theorem t163_288 : z_ft 163 288 = some (.i2l, 1, none, [], 0, 0, 0, 0) := z_ftd (by decide +kernel)
theorem t163_289 : z_ft 163 289 = some (.lor, 1, none, [], 0, 0, 0, 0) := z_ftd (by decide +kernel)
theorem t163_290 : z_ft 163 290 = some (.putfield 32, 3, none, [], 12, 7, 8, 0) := z_ftd (by decide +kernel)
theorem t163_293 : z_ft 163 293 = some (.iload 5, 2, (some [0, 1, 2, 3, 4, 5]), [], 0, 0, 0, 0) := z_ftd (by decide +kernel)
theorem t163_295 : z_ft 163 295 = some (.iload 4, 2, none, [], 0, 0, 0, 0) := z_ftd (by decide +kernel)
theorem t163_297 : z_ft 163 297 = some (.if_icmp .ge 28, 3, none, [], 325, 0, 0, 0) := z_ftd (by decide +kernel)
theorem t163_300 : z_ft 163 300 = some (.iload_n 3, 1, none, [], 0, 0, 0, 0) := z_ftd (by decide +kernel)
theorem t163_301 : z_ft 163 301 = some (.ifCond .eq 24, 3, none, [], 325, 0, 0, 0) := z_ftd (by decide +kernel)
theorem t163_304 : z_ft 163 304 = some (.aload_n 0, 1, none, [], 0, 0, 0, 0) := z_ftd (by decide +kernel)
theorem t163_305 : z_ft 163 305 = some (.bipush 10, 2, none, [], 0, 0, 0, 0) := z_ftd (by decide +kernel)
theorem t163_307 : z_ft 163 307 = some (.aload_n 0, 1, none, [], 0, 0, 0, 0) := z_ftd (by decide +kernel)
theorem t163_308 : z_ft 163 308 = some (.getfield 29, 3, none, [], 12, 6, 7, 0) := z_ftd (by decide +kernel)
theorem t163_311 : z_ft 163 311 = some (.imul, 1, none, [], 0, 0, 0, 0) := z_ftd (by decide +kernel)
theorem t163_312 : z_ft 163 312 = some (.aload_n 0, 1, none, [], 0, 0, 0, 0) := z_ftd (by decide +kernel)
theorem t163_313 : z_ft 163 313 = some (.getfield 7, 3, none, [], 12, 0, 1, 0) := z_ftd (by decide +kernel)
theorem t163_316 : z_ft 163 316 = some (.iload_n 1, 1, none, [], 0, 0, 0, 0) := z_ftd (by decide +kernel)
theorem t163_317 : z_ft 163 317 = some (.iaload, 1, none, [], 0, 0, 0, 0) := z_ftd (by decide +kernel)
theorem t163_318 : z_ft 163 318 = some (.iadd, 1, none, [], 0, 0, 0, 0) := z_ftd (by decide +kernel)
theorem t163_319 : z_ft 163 319 = some (.bipush 48, 2, none, [], 0, 0, 0, 0) := z_ftd (by decide +kernel)
theorem t163_321 : z_ft 163 321 = some (.isub, 1, none, [], 0, 0, 0, 0) := z_ftd (by decide +kernel)
theorem t163_322 : z_ft 163 322 = some (.putfield 29, 3, none, [], 12, 6, 7, 0) := z_ftd (by decide +kernel)
theorem t163_325 : z_ft 163 325 = some (.iinc 5 1, 3, (some [0, 1, 2, 3, 4, 5]), [], 0, 0, 0, 0) := z_ftd (by decide +kernel)
theorem t163_328 : z_ft 163 328 = some (.iinc 1 1, 3, none, [], 0, 0, 0, 0) := z_ftd (by decide +kernel)
theorem t163_331 : z_ft 163 331 = some (.goto (-127), 3, none, [], 204, 0, 0, 0) := z_ftd (by decide +kernel)
theorem t163_334 : z_ft 163 334 = some (.aload_n 0, 1, (some [0, 1]), [], 0, 0, 0, 0) := z_ftd (by decide +kernel)
theorem t163_335 : z_ft 163 335 = some (.iload_n 1, 1, none, [], 0, 0, 0, 0) := z_ftd (by decide +kernel)
theorem t163_336 : z_ft 163 336 = some (.putfield 26, 3, none, [], 12, 5, 6, 0) := z_ftd (by decide +kernel)
theorem t163_339 : z_ft 163 339 = some (.return_, 1, none, [], 0, 0, 0, 0) := z_ftd (by decide +kernel)
noncomputable def b163_5 (d : Nat) (y1 : Int32) (S : z_S) : Option z_S := zk kV z_X0 d 163 5 [.ref 396, .int y1, z_j, z_j, z_j, z_j] [] S
noncomputable def b163_41 (d : Nat) (y1 : Int32) (S : z_S) : Option z_S := zk kV z_X0 d 163 41 [.ref 396, .int y1, z_j, z_j, z_j, z_j] [] S
noncomputable def b163_35 (d : Nat) (y1 : Int32) (S : z_S) : Option z_S := zk kV z_X0 d 163 35 [.ref 396, .int y1, z_j, z_j, z_j, z_j] [] S
noncomputable def b163_98 (d : Nat) (y1 : Int32) (y2 : Int32) (y3 : Int32) (S : z_S) : Option z_S := zk kV z_X0 d 163 98 [.ref 396, .int y1, .int y2, .int y3, z_j, z_j] [] S
noncomputable def b163_135 (d : Nat) (y1 : Int32) (y2 : Int32) (y3 : Int32) (S : z_S) : Option z_S := zk kV z_X0 d 163 135 [.ref 396, .int y1, .int y2, .int y3, z_j, z_j] [] S
noncomputable def b163_130 (d : Nat) (y1 : Int32) (y2 : Int32) (y3 : Int32) (S : z_S) : Option z_S := zk kV z_X0 d 163 130 [.ref 396, .int y1, .int y2, .int y3, z_j, z_j] [] S
noncomputable def b163_176 (d : Nat) (y1 : Int32) (y2 : Int32) (y3 : Int32) (S : z_S) : Option z_S := zk kV z_X0 d 163 176 [.ref 396, .int y1, .int y2, .int y3, z_j, z_j] [] S
noncomputable def b163_186 (d : Nat) (y1 : Int32) (y2 : Int32) (y3 : Int32) (s0 : Int32) (S : z_S) : Option z_S := zk kV z_X0 d 163 186 [.ref 396, .int y1, .int y2, .int y3, z_j, z_j] [.int s0, .ref 396] S
noncomputable def b163_199 (d : Nat) (y1 : Int32) (y2 : Int32) (y3 : Int32) (s0 : Int32) (S : z_S) : Option z_S := zk kV z_X0 d 163 199 [.ref 396, .int y1, .int y2, .int y3, z_j, z_j] [.int s0] S
noncomputable def b163_204 (d : Nat) (y1 : Int32) (y2 : Int32) (y3 : Int32) (y4 : Int32) (y5 : Int32) (S : z_S) : Option z_S := zk kV z_X0 d 163 204 [.ref 396, .int y1, .int y2, .int y3, .int y4, .int y5] [] S
noncomputable def b163_243 (d : Nat) (y1 : Int32) (y2 : Int32) (y3 : Int32) (y4 : Int32) (y5 : Int32) (S : z_S) : Option z_S := zk kV z_X0 d 163 243 [.ref 396, .int y1, .int y2, .int y3, .int y4, .int y5] [] S
noncomputable def b163_263 (d : Nat) (y1 : Int32) (y2 : Int32) (y3 : Int32) (y4 : Int32) (y5 : Int32) (S : z_S) : Option z_S := zk kV z_X0 d 163 263 [.ref 396, .int y1, .int y2, .int y3, .int y4, .int y5] [] S
noncomputable def b163_293 (d : Nat) (y1 : Int32) (y2 : Int32) (y3 : Int32) (y4 : Int32) (y5 : Int32) (S : z_S) : Option z_S := zk kV z_X0 d 163 293 [.ref 396, .int y1, .int y2, .int y3, .int y4, .int y5] [] S
noncomputable def b163_325 (d : Nat) (y1 : Int32) (y2 : Int32) (y3 : Int32) (y4 : Int32) (y5 : Int32) (S : z_S) : Option z_S := zk kV z_X0 d 163 325 [.ref 396, .int y1, .int y2, .int y3, .int y4, .int y5] [] S
theorem b163_5_eq (d : Nat) (y1 : Int32) (S : z_S) (hW : z_W S)  : b163_5 d y1 S = (if (gI S 396 2) ≤ y1 then b163_41 d y1 S else (if z_in y1 1800 then (if (gI S 397 (y1).toNatClampNeg) = (32 : Int32) then b163_35 d y1 S else (if z_in y1 1800 then (if ¬ (gI S 397 (y1).toNatClampNeg) = (10 : Int32) then b163_41 d y1 S else b163_35 d y1 S) else none)) else none)) := by
  unfold b163_5
  refine (k_iload_n t163_5 rfl rfl).trans ?_
  refine (k_aload_n t163_6 rfl rfl).trans ?_
  refine (k_getI t163_7 rfl hW zK_396 (by decide) (by decide)).trans ?_
  refine (k_icmp_ge t163_10 rfl).trans (z_ite (fun g1 => ?_) (fun g1 => ?_))
  · exact (zk_mk (ls' := [.ref 396, .int y1, z_j, z_j, z_j, z_j]) t163_41 rfl)
  · refine (k_aload_n t163_13 rfl rfl).trans ?_
    refine (k_getR t163_14 rfl hW zK_396 (by decide) (by decide) (zF_396_0 hW)).trans ?_
    refine (k_iload_n t163_17 rfl rfl).trans ?_
    refine (k_iald t163_18 rfl hW zK_397 zL_397).trans (z_ite (fun g2 => ?_) (fun _ => rfl))
    refine (k_bipush t163_19 rfl zcb_32).trans ?_
    refine (k_icmp_eq t163_21 rfl).trans (z_ite (fun g3 => ?_) (fun g3 => ?_))
    · exact (zk_mk (ls' := [.ref 396, .int y1, z_j, z_j, z_j, z_j]) t163_35 rfl)
    · refine (k_aload_n t163_24 rfl rfl).trans ?_
      refine (k_getR t163_25 rfl hW zK_396 (by decide) (by decide) (zF_396_0 hW)).trans ?_
      refine (k_iload_n t163_28 rfl rfl).trans ?_
      refine (k_iald t163_29 rfl hW zK_397 zL_397).trans (z_ite (fun g4 => ?_) (fun _ => rfl))
      refine (k_bipush t163_30 rfl zcb_10).trans ?_
      refine (k_icmp_ne t163_32 rfl).trans (z_ite (fun g5 => ?_) (fun g5 => ?_))
      · exact (zk_mk (ls' := [.ref 396, .int y1, z_j, z_j, z_j, z_j]) t163_41 rfl)
      · exact (zk_mk (ls' := [.ref 396, .int y1, z_j, z_j, z_j, z_j]) t163_35 rfl)
theorem b163_41_eq (d : Nat) (y1 : Int32) (S : z_S) (hW : z_W S)  : b163_41 d y1 S = (if y1 < (gI (sI (sI (sI (sI S 396 4 y1) 396 5 y1) 396 3 (0 : Int32)) 396 12 (-1 : Int32)) 396 2) then (if z_in y1 1800 then (zb (fI d 160 [.int (gI (sI (sI (sI (sI S 396 4 y1) 396 5 y1) 396 3 (0 : Int32)) 396 12 (-1 : Int32)) 397 (y1).toNatClampNeg)] (sI (sI (sI (sI S 396 4 y1) 396 5 y1) 396 3 (0 : Int32)) 396 12 (-1 : Int32))) fun v8 S9 => (if z_in y1 1800 then (zb (fI d 161 [.int (gI S9 397 (y1).toNatClampNeg)] S9) fun v11 S12 => (if ¬ v8 = (0 : Int32) then b163_98 d y1 v8 v11 S12 else (if v11 = (0 : Int32) then b163_135 d y1 v8 v11 S12 else b163_98 d y1 v8 v11 S12))) else none)) else none) else some (sI (sI (sI (sI S 396 4 y1) 396 5 y1) 396 3 (0 : Int32)) 396 12 (-1 : Int32))) := by
  unfold b163_41
  refine (k_aload_n t163_41 rfl rfl).trans ?_
  refine (k_iload_n t163_42 rfl rfl).trans ?_
  refine (k_putI t163_43 rfl hW zK_396 (by decide) (by decide) (by decide)).trans ?_
  refine (k_aload_n t163_46 rfl rfl).trans ?_
  refine (k_iload_n t163_47 rfl rfl).trans ?_
  refine (k_putI t163_48 rfl hW.sI zK_396 (by decide) (by decide) (by decide)).trans ?_
  refine (k_aload_n t163_51 rfl rfl).trans ?_
  refine (k_iconst t163_52 rfl zci_0).trans ?_
  refine (k_putI t163_53 rfl hW.sI.sI zK_396 (by decide) (by decide) (by decide)).trans ?_
  refine (k_aload_n t163_56 rfl rfl).trans ?_
  refine (k_iconst t163_57 rfl zci_m1).trans ?_
  refine (k_putI t163_58 rfl hW.sI.sI.sI zK_396 (by decide) (by decide) (by decide)).trans ?_
  refine (k_iload_n t163_61 rfl rfl).trans ?_
  refine (k_aload_n t163_62 rfl rfl).trans ?_
  refine (k_getI t163_63 rfl hW.sI.sI.sI.sI zK_396 (by decide) (by decide)).trans ?_
  refine (k_icmp_lt t163_66 rfl).trans (z_ite (fun g6 => ?_) (fun g6 => ?_))
  · refine (k_aload_n t163_70 rfl rfl).trans ?_
    refine (k_getR t163_71 rfl hW.sI.sI.sI.sI zK_396 (by decide) (by decide) (zF_396_0 hW.sI.sI.sI.sI)).trans ?_
    refine (k_iload_n t163_74 rfl rfl).trans ?_
    refine (k_iald t163_75 rfl hW.sI.sI.sI.sI zK_397 zL_397).trans (z_ite (fun g7 => ?_) (fun _ => rfl))
    refine k_callI (as := [.int (gI (sI (sI (sI (sI S 396 4 y1) 396 5 y1) 396 3 (0 : Int32)) 396 12 (-1 : Int32)) 397 (y1).toNatClampNeg)]) (rest := []) t163_76 rfl rfl (by decide) rfl rfl (Nat.le_of_ble_eq_true rfl) rfl (z_rcS (by decide)) (by decide) (Or.inr (by decide)) hW.sI.sI.sI.sI (fun v8 S9 hW9 => ?_)
    refine (k_istore_n (ls' := [.ref 396, .int y1, .int v8, z_j, z_j, z_j]) t163_79 rfl rfl).trans ?_
    refine (k_aload_n t163_80 rfl rfl).trans ?_
    refine (k_getR t163_81 rfl hW9 zK_396 (by decide) (by decide) (zF_396_0 hW9)).trans ?_
    refine (k_iload_n t163_84 rfl rfl).trans ?_
    refine (k_iald t163_85 rfl hW9 zK_397 zL_397).trans (z_ite (fun g10 => ?_) (fun _ => rfl))
    refine k_callI (as := [.int (gI S9 397 (y1).toNatClampNeg)]) (rest := []) t163_86 rfl rfl (by decide) rfl rfl (Nat.le_of_ble_eq_true rfl) rfl (z_rcS (by decide)) (by decide) (Or.inr (by decide)) hW9 (fun v11 S12 hW12 => ?_)
    refine (k_istore_n (ls' := [.ref 396, .int y1, .int v8, .int v11, z_j, z_j]) t163_89 rfl rfl).trans ?_
    refine (k_iload_n t163_90 rfl rfl).trans ?_
    refine (k_if_ne t163_91 rfl).trans (z_ite (fun g13 => ?_) (fun g13 => ?_))
    · exact (zk_mk (ls' := [.ref 396, .int y1, .int v8, .int v11, z_j, z_j]) t163_98 rfl)
    · refine (k_iload_n t163_94 rfl rfl).trans ?_
      refine (k_if_eq t163_95 rfl).trans (z_ite (fun g14 => ?_) (fun g14 => ?_))
      · exact (zk_mk (ls' := [.ref 396, .int y1, .int v8, .int v11, z_j, z_j]) t163_135 rfl)
      · exact (zk_mk (ls' := [.ref 396, .int y1, .int v8, .int v11, z_j, z_j]) t163_98 rfl)
  · exact k_return t163_69 rfl (by decide)
theorem b163_35_eq (d : Nat) (y1 : Int32) (S : z_S) (hW : z_W S)  : b163_35 d y1 S = b163_5 d (y1 + (1 : Int32)) S := by
  unfold b163_35
  refine (k_iinc (b := (y1 + (1 : Int32))) (ls' := [.ref 396, .int (y1 + (1 : Int32)), z_j, z_j, z_j, z_j]) t163_35 rfl rfl (by rw [zci_1]) rfl).trans ?_
  refine (k_goto t163_38 rfl).trans ?_
  exact (zk_mk (ls' := [.ref 396, .int (y1 + (1 : Int32)), z_j, z_j, z_j, z_j]) t163_5 rfl)
theorem b163_98_eq (d : Nat) (y1 : Int32) (y2 : Int32) (y3 : Int32) (S : z_S) (hW : z_W S)  : b163_98 d y1 y2 y3 S = (if y1 ≤ (0 : Int32) then b163_135 d y1 y2 y3 S else (if z_in (y1 - (1 : Int32)) 1800 then (zb (fI d 160 [.int (gI S 397 ((y1 - (1 : Int32))).toNatClampNeg)] S) fun v17 S18 => (if ¬ v17 = (0 : Int32) then b163_130 d y1 y2 y3 S18 else (if z_in (y1 - (1 : Int32)) 1800 then (zb (fI d 161 [.int (gI S18 397 ((y1 - (1 : Int32))).toNatClampNeg)] S18) fun v21 S22 => (if v21 = (0 : Int32) then b163_135 d y1 y2 y3 S22 else b163_130 d y1 y2 y3 S22)) else none))) else none)) := by
  unfold b163_98
  refine (k_iload_n t163_98 rfl rfl).trans ?_
  refine (k_if_le t163_99 rfl).trans (z_ite (fun g15 => ?_) (fun g15 => ?_))
  · exact (zk_mk (ls' := [.ref 396, .int y1, .int y2, .int y3, z_j, z_j]) t163_135 rfl)
  · refine (k_aload_n t163_102 rfl rfl).trans ?_
    refine (k_getR t163_103 rfl hW zK_396 (by decide) (by decide) (zF_396_0 hW)).trans ?_
    refine (k_iload_n t163_106 rfl rfl).trans ?_
    refine (k_iconst t163_107 rfl zci_1).trans ?_
    refine (k_isub t163_108 rfl).trans ?_
    refine (k_iald t163_109 rfl hW zK_397 zL_397).trans (z_ite (fun g16 => ?_) (fun _ => rfl))
    refine k_callI (as := [.int (gI S 397 ((y1 - (1 : Int32))).toNatClampNeg)]) (rest := []) t163_110 rfl rfl (by decide) rfl rfl (Nat.le_of_ble_eq_true rfl) rfl (z_rcS (by decide)) (by decide) (Or.inr (by decide)) hW (fun v17 S18 hW18 => ?_)
    refine (k_if_ne t163_113 rfl).trans (z_ite (fun g19 => ?_) (fun g19 => ?_))
    · exact (zk_mk (ls' := [.ref 396, .int y1, .int y2, .int y3, z_j, z_j]) t163_130 rfl)
    · refine (k_aload_n t163_116 rfl rfl).trans ?_
      refine (k_getR t163_117 rfl hW18 zK_396 (by decide) (by decide) (zF_396_0 hW18)).trans ?_
      refine (k_iload_n t163_120 rfl rfl).trans ?_
      refine (k_iconst t163_121 rfl zci_1).trans ?_
      refine (k_isub t163_122 rfl).trans ?_
      refine (k_iald t163_123 rfl hW18 zK_397 zL_397).trans (z_ite (fun g20 => ?_) (fun _ => rfl))
      refine k_callI (as := [.int (gI S18 397 ((y1 - (1 : Int32))).toNatClampNeg)]) (rest := []) t163_124 rfl rfl (by decide) rfl rfl (Nat.le_of_ble_eq_true rfl) rfl (z_rcS (by decide)) (by decide) (Or.inr (by decide)) hW18 (fun v21 S22 hW22 => ?_)
      refine (k_if_eq t163_127 rfl).trans (z_ite (fun g23 => ?_) (fun g23 => ?_))
      · exact (zk_mk (ls' := [.ref 396, .int y1, .int y2, .int y3, z_j, z_j]) t163_135 rfl)
      · exact (zk_mk (ls' := [.ref 396, .int y1, .int y2, .int y3, z_j, z_j]) t163_130 rfl)
theorem b163_135_eq (d : Nat) (y1 : Int32) (y2 : Int32) (y3 : Int32) (S : z_S) (hW : z_W S)  : b163_135 d y1 y2 y3 S = (if ¬ y2 = (0 : Int32) then b163_176 d y1 y2 y3 (sI (sI (sL (sI S 396 6 (0 : Int32)) 396 7 (0 : Int64)) 396 3 (3 : Int32)) 396 5 (y1 + (1 : Int32))) else (if ¬ y3 = (0 : Int32) then b163_176 d y1 y2 y3 (sI (sI (sL (sI S 396 6 (0 : Int32)) 396 7 (0 : Int64)) 396 3 (3 : Int32)) 396 5 (y1 + (1 : Int32))) else (if z_in y1 1800 then some (sI (sI (sI (sL (sI S 396 6 (0 : Int32)) 396 7 (0 : Int64)) 396 3 (3 : Int32)) 396 5 (y1 + (1 : Int32))) 396 6 (gI (sI (sI (sL (sI S 396 6 (0 : Int32)) 396 7 (0 : Int64)) 396 3 (3 : Int32)) 396 5 (y1 + (1 : Int32))) 397 (y1).toNatClampNeg)) else none))) := by
  unfold b163_135
  refine (k_aload_n t163_135 rfl rfl).trans ?_
  refine (k_iconst t163_136 rfl zci_0).trans ?_
  refine (k_putI t163_137 rfl hW zK_396 (by decide) (by decide) (by decide)).trans ?_
  refine (k_aload_n t163_140 rfl rfl).trans ?_
  refine (k_lconst t163_141 rfl (z := (0 : Int64)) rfl).trans ?_
  refine (k_putL t163_142 rfl hW.sI zK_396 (by decide) (by decide) (by decide)).trans ?_
  refine (k_aload_n t163_145 rfl rfl).trans ?_
  refine (k_iconst t163_146 rfl zci_3).trans ?_
  refine (k_putI t163_147 rfl hW.sI.sL zK_396 (by decide) (by decide) (by decide)).trans ?_
  refine (k_aload_n t163_150 rfl rfl).trans ?_
  refine (k_iload_n t163_151 rfl rfl).trans ?_
  refine (k_iconst t163_152 rfl zci_1).trans ?_
  refine (k_iadd t163_153 rfl).trans ?_
  refine (k_putI t163_154 rfl hW.sI.sL.sI zK_396 (by decide) (by decide) (by decide)).trans ?_
  refine (k_iload_n t163_157 rfl rfl).trans ?_
  refine (k_if_ne t163_158 rfl).trans (z_ite (fun g24 => ?_) (fun g24 => ?_))
  · exact (zk_mk (ls' := [.ref 396, .int y1, .int y2, .int y3, z_j, z_j]) t163_176 rfl)
  · refine (k_iload_n t163_161 rfl rfl).trans ?_
    refine (k_if_ne t163_162 rfl).trans (z_ite (fun g25 => ?_) (fun g25 => ?_))
    · exact (zk_mk (ls' := [.ref 396, .int y1, .int y2, .int y3, z_j, z_j]) t163_176 rfl)
    · refine (k_aload_n t163_165 rfl rfl).trans ?_
      refine (k_aload_n t163_166 rfl rfl).trans ?_
      refine (k_getR t163_167 rfl hW.sI.sL.sI.sI zK_396 (by decide) (by decide) (zF_396_0 hW.sI.sL.sI.sI)).trans ?_
      refine (k_iload_n t163_170 rfl rfl).trans ?_
      refine (k_iald t163_171 rfl hW.sI.sL.sI.sI zK_397 zL_397).trans (z_ite (fun g26 => ?_) (fun _ => rfl))
      refine (k_putI t163_172 rfl hW.sI.sL.sI.sI zK_396 (by decide) (by decide) (by decide)).trans ?_
      exact k_return t163_175 rfl (by decide)
theorem b163_130_eq (d : Nat) (y1 : Int32) (y2 : Int32) (y3 : Int32) (S : z_S) (hW : z_W S)  : b163_130 d y1 y2 y3 S = b163_135 d y1 y2 y3 (sI S 396 12 y1) := by
  unfold b163_130
  refine (k_aload_n t163_130 rfl rfl).trans ?_
  refine (k_iload_n t163_131 rfl rfl).trans ?_
  refine (k_putI t163_132 rfl hW zK_396 (by decide) (by decide) (by decide)).trans ?_
  exact (zk_mk (ls' := [.ref 396, .int y1, .int y2, .int y3, z_j, z_j]) t163_135 rfl)
theorem b163_176_eq (d : Nat) (y1 : Int32) (y2 : Int32) (y3 : Int32) (S : z_S) (hW : z_W S)  : b163_176 d y1 y2 y3 S = (if y2 = (0 : Int32) then b163_186 d y1 y2 y3 (2 : Int32) S else b163_186 d y1 y2 y3 (1 : Int32) S) := by
  unfold b163_176
  refine (k_aload_n t163_176 rfl rfl).trans ?_
  refine (k_iload_n t163_177 rfl rfl).trans ?_
  refine (k_if_eq t163_178 rfl).trans (z_ite (fun g27 => ?_) (fun g27 => ?_))
  · refine (k_iconst t163_185 rfl zci_2).trans ?_
    exact (zk_mk (ls' := [.ref 396, .int y1, .int y2, .int y3, z_j, z_j]) t163_186 rfl)
  · refine (k_iconst t163_181 rfl zci_1).trans ?_
    refine (k_goto t163_182 rfl).trans ?_
    exact (zk_mk (ls' := [.ref 396, .int y1, .int y2, .int y3, z_j, z_j]) t163_186 rfl)
theorem b163_186_eq (d : Nat) (y1 : Int32) (y2 : Int32) (y3 : Int32) (s0 : Int32) (S : z_S) (hW : z_W S)  : b163_186 d y1 y2 y3 s0 S = (if y2 = (0 : Int32) then b163_199 d y1 y2 y3 (4 : Int32) (sI S 396 3 s0) else b163_199 d y1 y2 y3 (6 : Int32) (sI S 396 3 s0)) := by
  unfold b163_186
  refine (k_putI t163_186 rfl hW zK_396 (by decide) (by decide) (by decide)).trans ?_
  refine (k_iload_n t163_189 rfl rfl).trans ?_
  refine (k_if_eq t163_190 rfl).trans (z_ite (fun g28 => ?_) (fun g28 => ?_))
  · refine (k_iconst t163_198 rfl zci_4).trans ?_
    exact (zk_mk (ls' := [.ref 396, .int y1, .int y2, .int y3, z_j, z_j]) t163_199 rfl)
  · refine (k_bipush t163_193 rfl zcb_6).trans ?_
    refine (k_goto t163_195 rfl).trans ?_
    exact (zk_mk (ls' := [.ref 396, .int y1, .int y2, .int y3, z_j, z_j]) t163_199 rfl)
theorem b163_199_eq (d : Nat) (y1 : Int32) (y2 : Int32) (y3 : Int32) (s0 : Int32) (S : z_S) (hW : z_W S)  : b163_199 d y1 y2 y3 s0 S = b163_204 d y1 y2 y3 s0 (0 : Int32) S := by
  unfold b163_199
  refine (k_istore (ls' := [.ref 396, .int y1, .int y2, .int y3, .int s0, z_j]) t163_199 rfl rfl).trans ?_
  refine (k_iconst t163_201 rfl zci_0).trans ?_
  refine (k_istore (ls' := [.ref 396, .int y1, .int y2, .int y3, .int s0, .int (0 : Int32)]) t163_202 rfl rfl).trans ?_
  exact (zk_mk (ls' := [.ref 396, .int y1, .int y2, .int y3, .int s0, .int (0 : Int32)]) t163_204 rfl)
theorem b163_204_eq (d : Nat) (y1 : Int32) (y2 : Int32) (y3 : Int32) (y4 : Int32) (y5 : Int32) (S : z_S) (hW : z_W S)  : b163_204 d y1 y2 y3 y4 y5 S = (if (gI S 396 2) ≤ y1 then some (sI S 396 5 y1) else (if y2 = (0 : Int32) then (if z_in y1 1800 then (zb (fI d 161 [.int (gI S 397 (y1).toNatClampNeg)] S) fun v32 S33 => (if v32 = (0 : Int32) then some (sI S33 396 5 y1) else b163_243 d y1 y2 y3 y4 y5 S33)) else none) else (if z_in y1 1800 then (zb (fI d 160 [.int (gI S 397 (y1).toNatClampNeg)] S) fun v36 S37 => (if v36 = (0 : Int32) then some (sI S37 396 5 y1) else b163_243 d y1 y2 y3 y4 y5 S37)) else none))) := by
  unfold b163_204
  refine (k_iload_n t163_204 rfl rfl).trans ?_
  refine (k_aload_n t163_205 rfl rfl).trans ?_
  refine (k_getI t163_206 rfl hW zK_396 (by decide) (by decide)).trans ?_
  refine (k_icmp_ge t163_209 rfl).trans (z_ite (fun g29 => ?_) (fun g29 => ?_))
  · refine (zk_mk (ls' := [.ref 396, .int y1, z_j, z_j, z_j, z_j]) t163_334 rfl).trans ?_
    refine (k_aload_n t163_334 rfl rfl).trans ?_
    refine (k_iload_n t163_335 rfl rfl).trans ?_
    refine (k_putI t163_336 rfl hW zK_396 (by decide) (by decide) (by decide)).trans ?_
    exact k_return t163_339 rfl (by decide)
  · refine (k_iload_n t163_212 rfl rfl).trans ?_
    refine (k_if_eq t163_213 rfl).trans (z_ite (fun g30 => ?_) (fun g30 => ?_))
    · refine (k_aload_n t163_231 rfl rfl).trans ?_
      refine (k_getR t163_232 rfl hW zK_396 (by decide) (by decide) (zF_396_0 hW)).trans ?_
      refine (k_iload_n t163_235 rfl rfl).trans ?_
      refine (k_iald t163_236 rfl hW zK_397 zL_397).trans (z_ite (fun g31 => ?_) (fun _ => rfl))
      refine k_callI (as := [.int (gI S 397 (y1).toNatClampNeg)]) (rest := []) t163_237 rfl rfl (by decide) rfl rfl (Nat.le_of_ble_eq_true rfl) rfl (z_rcS (by decide)) (by decide) (Or.inr (by decide)) hW (fun v32 S33 hW33 => ?_)
      refine (k_if_eq t163_240 rfl).trans (z_ite (fun g34 => ?_) (fun g34 => ?_))
      · refine (zk_mk (ls' := [.ref 396, .int y1, z_j, z_j, z_j, z_j]) t163_334 rfl).trans ?_
        refine (k_aload_n t163_334 rfl rfl).trans ?_
        refine (k_iload_n t163_335 rfl rfl).trans ?_
        refine (k_putI t163_336 rfl hW33 zK_396 (by decide) (by decide) (by decide)).trans ?_
        exact k_return t163_339 rfl (by decide)
      · exact (zk_mk (ls' := [.ref 396, .int y1, .int y2, .int y3, .int y4, .int y5]) t163_243 rfl)
    · refine (k_aload_n t163_216 rfl rfl).trans ?_
      refine (k_getR t163_217 rfl hW zK_396 (by decide) (by decide) (zF_396_0 hW)).trans ?_
      refine (k_iload_n t163_220 rfl rfl).trans ?_
      refine (k_iald t163_221 rfl hW zK_397 zL_397).trans (z_ite (fun g35 => ?_) (fun _ => rfl))
      refine k_callI (as := [.int (gI S 397 (y1).toNatClampNeg)]) (rest := []) t163_222 rfl rfl (by decide) rfl rfl (Nat.le_of_ble_eq_true rfl) rfl (z_rcS (by decide)) (by decide) (Or.inr (by decide)) hW (fun v36 S37 hW37 => ?_)
      refine (k_if_eq t163_225 rfl).trans (z_ite (fun g38 => ?_) (fun g38 => ?_))
      · refine (zk_mk (ls' := [.ref 396, .int y1, z_j, z_j, z_j, z_j]) t163_334 rfl).trans ?_
        refine (k_aload_n t163_334 rfl rfl).trans ?_
        refine (k_iload_n t163_335 rfl rfl).trans ?_
        refine (k_putI t163_336 rfl hW37 zK_396 (by decide) (by decide) (by decide)).trans ?_
        exact k_return t163_339 rfl (by decide)
      · refine (k_goto t163_228 rfl).trans ?_
        exact (zk_mk (ls' := [.ref 396, .int y1, .int y2, .int y3, .int y4, .int y5]) t163_243 rfl)
theorem b163_243_eq (d : Nat) (y1 : Int32) (y2 : Int32) (y3 : Int32) (y4 : Int32) (y5 : Int32) (S : z_S) (hW : z_W S)  : b163_243 d y1 y2 y3 y4 y5 S = (if ¬ y5 = y4 then b163_263 d y1 y2 y3 y4 y5 S else (if ¬ (gI S 396 12) = (-1 : Int32) then b163_263 d y1 y2 y3 y4 y5 S else b163_263 d y1 y2 y3 y4 y5 (sI S 396 12 y1))) := by
  unfold b163_243
  refine (k_iload t163_243 rfl rfl).trans ?_
  refine (k_iload t163_245 rfl rfl).trans ?_
  refine (k_icmp_ne t163_247 rfl).trans (z_ite (fun g39 => ?_) (fun g39 => ?_))
  · exact (zk_mk (ls' := [.ref 396, .int y1, .int y2, .int y3, .int y4, .int y5]) t163_263 rfl)
  · refine (k_aload_n t163_250 rfl rfl).trans ?_
    refine (k_getI t163_251 rfl hW zK_396 (by decide) (by decide)).trans ?_
    refine (k_iconst t163_254 rfl zci_m1).trans ?_
    refine (k_icmp_ne t163_255 rfl).trans (z_ite (fun g40 => ?_) (fun g40 => ?_))
    · exact (zk_mk (ls' := [.ref 396, .int y1, .int y2, .int y3, .int y4, .int y5]) t163_263 rfl)
    · refine (k_aload_n t163_258 rfl rfl).trans ?_
      refine (k_iload_n t163_259 rfl rfl).trans ?_
      refine (k_putI t163_260 rfl hW zK_396 (by decide) (by decide) (by decide)).trans ?_
      exact (zk_mk (ls' := [.ref 396, .int y1, .int y2, .int y3, .int y4, .int y5]) t163_263 rfl)
theorem b163_263_eq (d : Nat) (y1 : Int32) (y2 : Int32) (y3 : Int32) (y4 : Int32) (y5 : Int32) (S : z_S) (hW : z_W S)  : b163_263 d y1 y2 y3 y4 y5 S = (if y4 ≤ y5 then b163_293 d y1 y2 y3 y4 y5 S else (if y2 = (0 : Int32) then b163_293 d y1 y2 y3 y4 y5 S else (if z_in y1 1800 then b163_293 d y1 y2 y3 y4 y5 (sL S 396 7 (((gL S 396 7) <<< (((8 : Int32)).toInt64 &&& 63)) ||| ((gI S 397 (y1).toNatClampNeg)).toInt64)) else none))) := by
  unfold b163_263
  refine (k_iload t163_263 rfl rfl).trans ?_
  refine (k_iload t163_265 rfl rfl).trans ?_
  refine (k_icmp_ge t163_267 rfl).trans (z_ite (fun g41 => ?_) (fun g41 => ?_))
  · exact (zk_mk (ls' := [.ref 396, .int y1, .int y2, .int y3, .int y4, .int y5]) t163_293 rfl)
  · refine (k_iload_n t163_270 rfl rfl).trans ?_
    refine (k_if_eq t163_271 rfl).trans (z_ite (fun g42 => ?_) (fun g42 => ?_))
    · exact (zk_mk (ls' := [.ref 396, .int y1, .int y2, .int y3, .int y4, .int y5]) t163_293 rfl)
    · refine (k_aload_n t163_274 rfl rfl).trans ?_
      refine (k_aload_n t163_275 rfl rfl).trans ?_
      refine (k_getL t163_276 rfl hW zK_396 (by decide) (by decide)).trans ?_
      refine (k_bipush t163_279 rfl zcb_8).trans ?_
      refine (k_lshl t163_281 rfl).trans ?_
      refine (k_aload_n t163_282 rfl rfl).trans ?_
      refine (k_getR t163_283 rfl hW zK_396 (by decide) (by decide) (zF_396_0 hW)).trans ?_
      refine (k_iload_n t163_286 rfl rfl).trans ?_
      refine (k_iald t163_287 rfl hW zK_397 zL_397).trans (z_ite (fun g43 => ?_) (fun _ => rfl))
      refine (k_i2l t163_288 rfl).trans ?_
      refine (k_lor t163_289 rfl).trans ?_
      refine (k_putL t163_290 rfl hW zK_396 (by decide) (by decide) (by decide)).trans ?_
      exact (zk_mk (ls' := [.ref 396, .int y1, .int y2, .int y3, .int y4, .int y5]) t163_293 rfl)
theorem b163_293_eq (d : Nat) (y1 : Int32) (y2 : Int32) (y3 : Int32) (y4 : Int32) (y5 : Int32) (S : z_S) (hW : z_W S)  : b163_293 d y1 y2 y3 y4 y5 S = (if y4 ≤ y5 then b163_325 d y1 y2 y3 y4 y5 S else (if y3 = (0 : Int32) then b163_325 d y1 y2 y3 y4 y5 S else (if z_in y1 1800 then b163_325 d y1 y2 y3 y4 y5 (sI S 396 6 ((((10 : Int32) * (gI S 396 6)) + (gI S 397 (y1).toNatClampNeg)) - (48 : Int32))) else none))) := by
  unfold b163_293
  refine (k_iload t163_293 rfl rfl).trans ?_
  refine (k_iload t163_295 rfl rfl).trans ?_
  refine (k_icmp_ge t163_297 rfl).trans (z_ite (fun g44 => ?_) (fun g44 => ?_))
  · exact (zk_mk (ls' := [.ref 396, .int y1, .int y2, .int y3, .int y4, .int y5]) t163_325 rfl)
  · refine (k_iload_n t163_300 rfl rfl).trans ?_
    refine (k_if_eq t163_301 rfl).trans (z_ite (fun g45 => ?_) (fun g45 => ?_))
    · exact (zk_mk (ls' := [.ref 396, .int y1, .int y2, .int y3, .int y4, .int y5]) t163_325 rfl)
    · refine (k_aload_n t163_304 rfl rfl).trans ?_
      refine (k_bipush t163_305 rfl zcb_10).trans ?_
      refine (k_aload_n t163_307 rfl rfl).trans ?_
      refine (k_getI t163_308 rfl hW zK_396 (by decide) (by decide)).trans ?_
      refine (k_imul t163_311 rfl).trans ?_
      refine (k_aload_n t163_312 rfl rfl).trans ?_
      refine (k_getR t163_313 rfl hW zK_396 (by decide) (by decide) (zF_396_0 hW)).trans ?_
      refine (k_iload_n t163_316 rfl rfl).trans ?_
      refine (k_iald t163_317 rfl hW zK_397 zL_397).trans (z_ite (fun g46 => ?_) (fun _ => rfl))
      refine (k_iadd t163_318 rfl).trans ?_
      refine (k_bipush t163_319 rfl zcb_48).trans ?_
      refine (k_isub t163_321 rfl).trans ?_
      refine (k_putI t163_322 rfl hW zK_396 (by decide) (by decide) (by decide)).trans ?_
      exact (zk_mk (ls' := [.ref 396, .int y1, .int y2, .int y3, .int y4, .int y5]) t163_325 rfl)
theorem b163_325_eq (d : Nat) (y1 : Int32) (y2 : Int32) (y3 : Int32) (y4 : Int32) (y5 : Int32) (S : z_S) (hW : z_W S)  : b163_325 d y1 y2 y3 y4 y5 S = b163_204 d (y1 + (1 : Int32)) y2 y3 y4 (y5 + (1 : Int32)) S := by
  unfold b163_325
  refine (k_iinc (b := (y5 + (1 : Int32))) (ls' := [.ref 396, .int y1, .int y2, .int y3, .int y4, .int (y5 + (1 : Int32))]) t163_325 rfl rfl (by rw [zci_1]) rfl).trans ?_
  refine (k_iinc (b := (y1 + (1 : Int32))) (ls' := [.ref 396, .int (y1 + (1 : Int32)), .int y2, .int y3, .int y4, .int (y5 + (1 : Int32))]) t163_328 rfl rfl (by rw [zci_1]) rfl).trans ?_
  refine (k_goto t163_331 rfl).trans ?_
  exact (zk_mk (ls' := [.ref 396, .int (y1 + (1 : Int32)), .int y2, .int y3, .int y4, .int (y5 + (1 : Int32))]) t163_204 rfl)
-- X12_ahead
theorem e163 (d : Nat)  (S : z_S) (hW : z_W S)  : fV (d + 1) 163 [.ref 396] S = b163_5 d (gI S 396 5) S := by
  refine (fV_en (Nat.le_of_ble_eq_true rfl) rfl).trans ?_
  refine (k_aload_n t163_0 rfl rfl).trans ?_
  refine (k_getI t163_1 rfl hW zK_396 (by decide) (by decide)).trans ?_
  refine (k_istore_n (ls' := [.ref 396, .int (gI S 396 5), z_j, z_j, z_j, z_j]) t163_4 rfl rfl).trans ?_
  exact (zk_mk (ls' := [.ref 396, .int (gI S 396 5), z_j, z_j, z_j, z_j]) t163_5 rfl)
theorem t164_0 : z_ft 164 0 = some (.aload_n 0, 1, none, [], 0, 0, 0, 0) := z_ftd (by decide +kernel)
theorem t164_1 : z_ft 164 1 = some (.getfield 20, 3, none, [], 12, 3, 4, 0) := z_ftd (by decide +kernel)
theorem t164_4 : z_ft 164 4 = some (.iconst 3, 1, none, [], 0, 0, 0, 0) := z_ftd (by decide +kernel)
theorem t164_5 : z_ft 164 5 = some (.if_icmp .ne 15, 3, none, [], 20, 0, 0, 0) := z_ftd (by decide +kernel)
theorem t164_8 : z_ft 164 8 = some (.aload_n 0, 1, none, [], 0, 0, 0, 0) := z_ftd (by decide +kernel)
theorem t164_9 : z_ft 164 9 = some (.getfield 29, 3, none, [], 12, 6, 7, 0) := z_ftd (by decide +kernel)
theorem t164_12 : z_ft 164 12 = some (.iload_n 1, 1, none, [], 0, 0, 0, 0) := z_ftd (by decide +kernel)
theorem t164_13 : z_ft 164 13 = some (.if_icmp .ne 7, 3, none, [], 20, 0, 0, 0) := z_ftd (by decide +kernel)
theorem t164_16 : z_ft 164 16 = some (.iconst 1, 1, none, [], 0, 0, 0, 0) := z_ftd (by decide +kernel)
theorem t164_17 : z_ft 164 17 = some (.goto 4, 3, none, [], 21, 0, 0, 0) := z_ftd (by decide +kernel)
theorem t164_20 : z_ft 164 20 = some (.iconst 0, 1, (some []), [], 0, 0, 0, 0) := z_ftd (by decide +kernel)
theorem t164_21 : z_ft 164 21 = some (.ireturn, 1, (some []), [], 0, 0, 0, 0) := z_ftd (by decide +kernel)
noncomputable def b164_20 (d : Nat)  (S : z_S) : Option (Int32 × z_S) := zk kI z_X0 d 164 20 [z_j, z_j] [] S
theorem b164_20_eq (d : Nat)  (S : z_S) (hW : z_W S)  : b164_20 d  S = some ((0 : Int32), S) := by
  unfold b164_20
  refine (k_iconst t164_20 rfl zci_0).trans ?_
  refine (zk_mk (ls' := [z_j, z_j]) t164_21 rfl).trans ?_
  exact k_zretC t164_21 rfl (by decide) (by decide)
-- X12_isSign
theorem e164 (d : Nat) (x1 : Int32) (S : z_S) (hW : z_W S)  : fI (d + 1) 164 [.ref 396, .int x1] S = (if ¬ (gI S 396 3) = (3 : Int32) then b164_20 d S else (if ¬ (gI S 396 6) = x1 then b164_20 d S else some ((1 : Int32), S))) := by
  refine (fI_en (Nat.le_of_ble_eq_true rfl) rfl).trans ?_
  refine (k_aload_n t164_0 rfl rfl).trans ?_
  refine (k_getI t164_1 rfl hW zK_396 (by decide) (by decide)).trans ?_
  refine (k_iconst t164_4 rfl zci_3).trans ?_
  refine (k_icmp_ne t164_5 rfl).trans (z_ite (fun g1 => ?_) (fun g1 => ?_))
  · exact (zk_mk (ls' := [z_j, z_j]) t164_20 rfl)
  · refine (k_aload_n t164_8 rfl rfl).trans ?_
    refine (k_getI t164_9 rfl hW zK_396 (by decide) (by decide)).trans ?_
    refine (k_iload_n t164_12 rfl rfl).trans ?_
    refine (k_icmp_ne t164_13 rfl).trans (z_ite (fun g2 => ?_) (fun g2 => ?_))
    · exact (zk_mk (ls' := [z_j, z_j]) t164_20 rfl)
    · refine (k_iconst t164_16 rfl zci_1).trans ?_
      refine (k_goto t164_17 rfl).trans ?_
      refine (zk_mk (ls' := [z_j, z_j]) t164_21 rfl).trans ?_
      exact k_zretC t164_21 rfl (by decide) (by decide)
theorem t165_0 : z_ft 165 0 = some (.aload_n 0, 1, none, [], 0, 0, 0, 0) := z_ftd (by decide +kernel)
theorem t165_1 : z_ft 165 1 = some (.getfield 20, 3, none, [], 12, 3, 4, 0) := z_ftd (by decide +kernel)
theorem t165_4 : z_ft 165 4 = some (.iconst 1, 1, none, [], 0, 0, 0, 0) := z_ftd (by decide +kernel)
theorem t165_5 : z_ft 165 5 = some (.if_icmp .ne 16, 3, none, [], 21, 0, 0, 0) := z_ftd (by decide +kernel)
theorem t165_8 : z_ft 165 8 = some (.aload_n 0, 1, none, [], 0, 0, 0, 0) := z_ftd (by decide +kernel)
theorem t165_9 : z_ft 165 9 = some (.getfield 32, 3, none, [], 12, 7, 8, 0) := z_ftd (by decide +kernel)
theorem t165_12 : z_ft 165 12 = some (.lload_n 1, 1, none, [], 0, 0, 0, 0) := z_ftd (by decide +kernel)
theorem t165_13 : z_ft 165 13 = some (.lcmp, 1, none, [], 0, 0, 0, 0) := z_ftd (by decide +kernel)
theorem t165_14 : z_ft 165 14 = some (.ifCond .ne 7, 3, none, [], 21, 0, 0, 0) := z_ftd (by decide +kernel)
theorem t165_17 : z_ft 165 17 = some (.iconst 1, 1, none, [], 0, 0, 0, 0) := z_ftd (by decide +kernel)
theorem t165_18 : z_ft 165 18 = some (.goto 4, 3, none, [], 22, 0, 0, 0) := z_ftd (by decide +kernel)
theorem t165_21 : z_ft 165 21 = some (.iconst 0, 1, (some []), [], 0, 0, 0, 0) := z_ftd (by decide +kernel)
theorem t165_22 : z_ft 165 22 = some (.ireturn, 1, (some []), [], 0, 0, 0, 0) := z_ftd (by decide +kernel)
noncomputable def b165_21 (d : Nat)  (S : z_S) : Option (Int32 × z_S) := zk kI z_X0 d 165 21 [z_j, z_j, z_j] [] S
theorem b165_21_eq (d : Nat)  (S : z_S) (hW : z_W S)  : b165_21 d  S = some ((0 : Int32), S) := by
  unfold b165_21
  refine (k_iconst t165_21 rfl zci_0).trans ?_
  refine (zk_mk (ls' := [z_j, z_j, z_j]) t165_22 rfl).trans ?_
  exact k_zretC t165_22 rfl (by decide) (by decide)
-- X12_isWord
theorem e165 (d : Nat) (x1 : Int64) (S : z_S) (hW : z_W S)  : fI (d + 1) 165 [.ref 396, .long x1] S = (if ¬ (gI S 396 3) = (1 : Int32) then b165_21 d S else (if ¬ (lg_cmp (gL S 396 7) x1) = (0 : Int32) then b165_21 d S else some ((1 : Int32), S))) := by
  refine (fI_en (Nat.le_of_ble_eq_true rfl) rfl).trans ?_
  refine (k_aload_n t165_0 rfl rfl).trans ?_
  refine (k_getI t165_1 rfl hW zK_396 (by decide) (by decide)).trans ?_
  refine (k_iconst t165_4 rfl zci_1).trans ?_
  refine (k_icmp_ne t165_5 rfl).trans (z_ite (fun g1 => ?_) (fun g1 => ?_))
  · exact (zk_mk (ls' := [z_j, z_j, z_j]) t165_21 rfl)
  · refine (k_aload_n t165_8 rfl rfl).trans ?_
    refine (k_getL t165_9 rfl hW zK_396 (by decide) (by decide)).trans ?_
    refine (k_lload_n t165_12 rfl rfl).trans ?_
    refine (k_lcmp t165_13 rfl).trans ?_
    refine (k_if_ne t165_14 rfl).trans (z_ite (fun g2 => ?_) (fun g2 => ?_))
    · exact (zk_mk (ls' := [z_j, z_j, z_j]) t165_21 rfl)
    · refine (k_iconst t165_17 rfl zci_1).trans ?_
      refine (k_goto t165_18 rfl).trans ?_
      refine (zk_mk (ls' := [z_j, z_j, z_j]) t165_22 rfl).trans ?_
      exact k_zretC t165_22 rfl (by decide) (by decide)
theorem t166_0 : z_ft 166 0 = some (.aload_n 0, 1, none, [], 0, 0, 0, 0) := z_ftd (by decide +kernel)
theorem t166_1 : z_ft 166 1 = some (.invokevirtual 250, 3, none, [], 162, 0, 81, 0) := z_ftd (by decide +kernel)
theorem t166_4 : z_ft 166 4 = some (.aload_n 0, 1, none, [], 0, 0, 0, 0) := z_ftd (by decide +kernel)
theorem t166_5 : z_ft 166 5 = some (.iload_n 1, 1, none, [], 0, 0, 0, 0) := z_ftd (by decide +kernel)
theorem t166_6 : z_ft 166 6 = some (.invokevirtual 253, 3, none, [], 164, 0, 87, 0) := z_ftd (by decide +kernel)
theorem t166_9 : z_ft 166 9 = some (.ifCond .ne 12, 3, none, [], 21, 0, 0, 0) := z_ftd (by decide +kernel)
theorem t166_12 : z_ft 166 12 = some (.aload_n 0, 1, none, [], 0, 0, 0, 0) := z_ftd (by decide +kernel)
theorem t166_13 : z_ft 166 13 = some (.iconst 1, 1, none, [], 0, 0, 0, 0) := z_ftd (by decide +kernel)
theorem t166_14 : z_ft 166 14 = some (.aload_n 0, 1, none, [], 0, 0, 0, 0) := z_ftd (by decide +kernel)
theorem t166_15 : z_ft 166 15 = some (.getfield 23, 3, none, [], 12, 4, 5, 0) := z_ftd (by decide +kernel)
theorem t166_18 : z_ft 166 18 = some (.invokevirtual 239, 3, none, [], 159, 0, 82, 0) := z_ftd (by decide +kernel)
theorem t166_21 : z_ft 166 21 = some (.aload_n 0, 1, (some [0]), [], 0, 0, 0, 0) := z_ftd (by decide +kernel)
theorem t166_22 : z_ft 166 22 = some (.getfield 36, 3, none, [], 12, 8, 9, 0) := z_ftd (by decide +kernel)
theorem t166_25 : z_ft 166 25 = some (.ifCond .ne 7, 3, none, [], 32, 0, 0, 0) := z_ftd (by decide +kernel)
theorem t166_28 : z_ft 166 28 = some (.aload_n 0, 1, none, [], 0, 0, 0, 0) := z_ftd (by decide +kernel)
theorem t166_29 : z_ft 166 29 = some (.invokevirtual 256, 3, none, [], 163, 0, 75, 0) := z_ftd (by decide +kernel)
theorem t166_32 : z_ft 166 32 = some (.return_, 1, (some []), [], 0, 0, 0, 0) := z_ftd (by decide +kernel)
noncomputable def b166_21 (d : Nat)  (S : z_S) : Option z_S := zk kV z_X0 d 166 21 [.ref 396, z_j] [] S
theorem b166_21_eq (d : Nat)  (S : z_S) (hW : z_W S)  : b166_21 d  S = (if ¬ (gI S 396 8) = (0 : Int32) then some S else ((fV d 163 [.ref 396] S).bind fun S10 => some S10)) := by
  unfold b166_21
  refine (k_aload_n t166_21 rfl rfl).trans ?_
  refine (k_getI t166_22 rfl hW zK_396 (by decide) (by decide)).trans ?_
  refine (k_if_ne t166_25 rfl).trans (z_ite (fun g8 => ?_) (fun g8 => ?_))
  · refine (zk_mk (ls' := [z_j, z_j]) t166_32 rfl).trans ?_
    exact k_return t166_32 rfl (by decide)
  · refine (k_aload_n t166_28 rfl rfl).trans ?_
    refine k_callV (as := [.ref 396]) (rest := []) t166_29 rfl rfl (by decide) rfl rfl (Nat.le_of_ble_eq_true rfl) rfl (z_rcV hW (zK_396) (by decide)) (by decide) (by decide) hW (fun S10 hW10 => ?_)
    refine (zk_mk (ls' := [z_j, z_j]) t166_32 rfl).trans ?_
    exact k_return t166_32 rfl (by decide)
-- X12_must
theorem e166 (d : Nat) (x1 : Int32) (S : z_S) (hW : z_W S)  : fV (d + 1) 166 [.ref 396, .int x1] S = ((fV d 162 [.ref 396] S).bind fun S2 => (zb (fI d 164 [.ref 396, .int x1] S2) fun v3 S4 => (if ¬ v3 = (0 : Int32) then b166_21 d S4 else ((fV d 159 [.ref 396, .int (1 : Int32), .int (gI S4 396 4)] S4).bind fun S7 => b166_21 d S7)))) := by
  refine (fV_en (Nat.le_of_ble_eq_true rfl) rfl).trans ?_
  refine (k_aload_n t166_0 rfl rfl).trans ?_
  refine k_callV (as := [.ref 396]) (rest := []) t166_1 rfl rfl (by decide) rfl rfl (Nat.le_of_ble_eq_true rfl) rfl (z_rcV hW (zK_396) (by decide)) (by decide) (by decide) hW (fun S2 hW2 => ?_)
  refine (k_aload_n t166_4 rfl rfl).trans ?_
  refine (k_iload_n t166_5 rfl rfl).trans ?_
  refine k_callI (as := [.ref 396, .int x1]) (rest := []) t166_6 rfl rfl (by decide) rfl rfl (Nat.le_of_ble_eq_true rfl) rfl (z_rcV hW2 (zK_396) (by decide)) (by decide) (Or.inr (by decide)) hW2 (fun v3 S4 hW4 => ?_)
  refine (k_if_ne t166_9 rfl).trans (z_ite (fun g5 => ?_) (fun g5 => ?_))
  · exact (zk_mk (ls' := [.ref 396, z_j]) t166_21 rfl)
  · refine (k_aload_n t166_12 rfl rfl).trans ?_
    refine (k_iconst t166_13 rfl zci_1).trans ?_
    refine (k_aload_n t166_14 rfl rfl).trans ?_
    refine (k_getI t166_15 rfl hW4 zK_396 (by decide) (by decide)).trans ?_
    refine k_callV (as := [.ref 396, .int (1 : Int32), .int (gI S4 396 4)]) (rest := []) t166_18 rfl rfl (by decide) rfl rfl (Nat.le_of_ble_eq_true rfl) rfl (z_rcV hW4 (zK_396) (by decide)) (by decide) (by decide) hW4 (fun S7 hW7 => ?_)
    exact (zk_mk (ls' := [.ref 396, z_j]) t166_21 rfl)
theorem t167_0 : z_ft 167 0 = some (.lload_n 1, 1, none, [], 0, 0, 0, 0) := z_ftd (by decide +kernel)
theorem t167_1 : z_ft 167 1 = some (.ldc2_w 259, 3, none, [], 0, 0, 79, 491495845235) := z_ftd (by decide +kernel)
theorem t167_4 : z_ft 167 4 = some (.lcmp, 1, none, [], 0, 0, 0, 0) := z_ftd (by decide +kernel)
theorem t167_5 : z_ft 167 5 = some (.ifCond .eq 35, 3, none, [], 40, 0, 0, 0) := z_ftd (by decide +kernel)
theorem t167_8 : z_ft 167 8 = some (.lload_n 1, 1, none, [], 0, 0, 0, 0) := z_ftd (by decide +kernel)
theorem t167_9 : z_ft 167 9 = some (.ldc2_w 261, 3, none, [], 0, 0, 90, 422608528232) := z_ftd (by decide +kernel)
theorem t167_12 : z_ft 167 12 = some (.lcmp, 1, none, [], 0, 0, 0, 0) := z_ftd (by decide +kernel)
theorem t167_13 : z_ft 167 13 = some (.ifCond .eq 27, 3, none, [], 40, 0, 0, 0) := z_ftd (by decide +kernel)
theorem t167_16 : z_ft 167 16 = some (.lload_n 1, 1, none, [], 0, 0, 0, 0) := z_ftd (by decide +kernel)
theorem t167_17 : z_ft 167 17 = some (.ldc2_w 263, 3, none, [], 0, 0, 93, 495874044019) := z_ftd (by decide +kernel)
theorem t167_20 : z_ft 167 20 = some (.lcmp, 1, none, [], 0, 0, 0, 0) := z_ftd (by decide +kernel)
theorem t167_21 : z_ft 167 21 = some (.ifCond .eq 19, 3, none, [], 40, 0, 0, 0) := z_ftd (by decide +kernel)
theorem t167_24 : z_ft 167 24 = some (.lload_n 1, 1, none, [], 0, 0, 0, 0) := z_ftd (by decide +kernel)
theorem t167_25 : z_ft 167 25 = some (.ldc2_w 265, 3, none, [], 0, 0, 94, 461414294379) := z_ftd (by decide +kernel)
theorem t167_28 : z_ft 167 28 = some (.lcmp, 1, none, [], 0, 0, 0, 0) := z_ftd (by decide +kernel)
theorem t167_29 : z_ft 167 29 = some (.ifCond .eq 11, 3, none, [], 40, 0, 0, 0) := z_ftd (by decide +kernel)
theorem t167_32 : z_ft 167 32 = some (.lload_n 1, 1, none, [], 0, 0, 0, 0) := z_ftd (by decide +kernel)
theorem t167_33 : z_ft 167 33 = some (.ldc2_w 267, 3, none, [], 0, 0, 95, 119225681667442) := z_ftd (by decide +kernel)
theorem t167_36 : z_ft 167 36 = some (.lcmp, 1, none, [], 0, 0, 0, 0) := z_ftd (by decide +kernel)
theorem t167_37 : z_ft 167 37 = some (.ifCond .ne 5, 3, none, [], 42, 0, 0, 0) := z_ftd (by decide +kernel)
theorem t167_40 : z_ft 167 40 = some (.iconst 1, 1, (some []), [], 0, 0, 0, 0) := z_ftd (by decide +kernel)
theorem t167_41 : z_ft 167 41 = some (.ireturn, 1, none, [], 0, 0, 0, 0) := z_ftd (by decide +kernel)
theorem t167_42 : z_ft 167 42 = some (.lload_n 1, 1, none, [], 0, 0, 0, 0) := z_ftd (by decide +kernel)
theorem t167_43 : z_ft 167 43 = some (.ldc2_w 269, 3, none, [], 0, 0, 98, 6840691) := z_ftd (by decide +kernel)
theorem t167_46 : z_ft 167 46 = some (.lcmp, 1, none, [], 0, 0, 0, 0) := z_ftd (by decide +kernel)
theorem t167_47 : z_ft 167 47 = some (.ifCond .eq 35, 3, none, [], 82, 0, 0, 0) := z_ftd (by decide +kernel)
theorem t167_50 : z_ft 167 50 = some (.lload_n 1, 1, none, [], 0, 0, 0, 0) := z_ftd (by decide +kernel)
theorem t167_51 : z_ft 167 51 = some (.ldc2_w 271, 3, none, [], 0, 0, 99, 26990) := z_ftd (by decide +kernel)
theorem t167_54 : z_ft 167 54 = some (.lcmp, 1, none, [], 0, 0, 0, 0) := z_ftd (by decide +kernel)
theorem t167_55 : z_ft 167 55 = some (.ifCond .eq 27, 3, none, [], 82, 0, 0, 0) := z_ftd (by decide +kernel)
theorem t167_58 : z_ft 167 58 = some (.lload_n 1, 1, none, [], 0, 0, 0, 0) := z_ftd (by decide +kernel)
theorem t167_59 : z_ft 167 59 = some (.ldc2_w 273, 3, none, [], 0, 0, 100, 1936225652) := z_ftd (by decide +kernel)
theorem t167_62 : z_ft 167 62 = some (.lcmp, 1, none, [], 0, 0, 0, 0) := z_ftd (by decide +kernel)
theorem t167_63 : z_ft 167 63 = some (.ifCond .eq 19, 3, none, [], 82, 0, 0, 0) := z_ftd (by decide +kernel)
theorem t167_66 : z_ft 167 66 = some (.lload_n 1, 1, none, [], 0, 0, 0, 0) := z_ftd (by decide +kernel)
theorem t167_67 : z_ft 167 67 = some (.ldc2_w 275, 3, none, [], 0, 0, 101, 133493580129395) := z_ftd (by decide +kernel)
theorem t167_70 : z_ft 167 70 = some (.lcmp, 1, none, [], 0, 0, 0, 0) := z_ftd (by decide +kernel)
theorem t167_71 : z_ft 167 71 = some (.ifCond .eq 11, 3, none, [], 82, 0, 0, 0) := z_ftd (by decide +kernel)
theorem t167_74 : z_ft 167 74 = some (.lload_n 1, 1, none, [], 0, 0, 0, 0) := z_ftd (by decide +kernel)
theorem t167_75 : z_ft 167 75 = some (.ldc2_w 277, 3, none, [], 0, 0, 102, 119182682645875) := z_ftd (by decide +kernel)
theorem t167_78 : z_ft 167 78 = some (.lcmp, 1, none, [], 0, 0, 0, 0) := z_ftd (by decide +kernel)
theorem t167_79 : z_ft 167 79 = some (.ifCond .ne 5, 3, none, [], 84, 0, 0, 0) := z_ftd (by decide +kernel)
theorem t167_82 : z_ft 167 82 = some (.iconst 1, 1, (some []), [], 0, 0, 0, 0) := z_ftd (by decide +kernel)
theorem t167_83 : z_ft 167 83 = some (.ireturn, 1, none, [], 0, 0, 0, 0) := z_ftd (by decide +kernel)
theorem t167_84 : z_ft 167 84 = some (.lload_n 1, 1, none, [], 0, 0, 0, 0) := z_ftd (by decide +kernel)
theorem t167_85 : z_ft 167 85 = some (.ldc2_w 279, 3, none, [], 0, 0, 103, 491328009331) := z_ftd (by decide +kernel)
theorem t167_88 : z_ft 167 88 = some (.lcmp, 1, none, [], 0, 0, 0, 0) := z_ftd (by decide +kernel)
theorem t167_89 : z_ft 167 89 = some (.ifCond .eq 35, 3, none, [], 124, 0, 0, 0) := z_ftd (by decide +kernel)
theorem t167_92 : z_ft 167 92 = some (.lload_n 1, 1, none, [], 0, 0, 0, 0) := z_ftd (by decide +kernel)
theorem t167_93 : z_ft 167 93 = some (.ldc2_w 281, 3, none, [], 0, 0, 104, 474214787188) := z_ftd (by decide +kernel)
theorem t167_96 : z_ft 167 96 = some (.lcmp, 1, none, [], 0, 0, 0, 0) := z_ftd (by decide +kernel)
theorem t167_97 : z_ft 167 97 = some (.ifCond .eq 27, 3, none, [], 124, 0, 0, 0) := z_ftd (by decide +kernel)
theorem t167_100 : z_ft 167 100 = some (.lload_n 1, 1, none, [], 0, 0, 0, 0) := z_ftd (by decide +kernel)
theorem t167_101 : z_ft 167 101 = some (.ldc2_w 283, 3, none, [], 0, 0, 105, 1919905645) := z_ftd (by decide +kernel)
theorem t167_104 : z_ft 167 104 = some (.lcmp, 1, none, [], 0, 0, 0, 0) := z_ftd (by decide +kernel)
theorem t167_105 : z_ft 167 105 = some (.ifCond .eq 19, 3, none, [], 124, 0, 0, 0) := z_ftd (by decide +kernel)
theorem t167_108 : z_ft 167 108 = some (.lload_n 1, 1, none, [], 0, 0, 0, 0) := z_ftd (by decide +kernel)
theorem t167_109 : z_ft 167 109 = some (.ldc2_w 285, 3, none, [], 0, 0, 106, 121398985520243) := z_ftd (by decide +kernel)
theorem t167_112 : z_ft 167 112 = some (.lcmp, 1, none, [], 0, 0, 0, 0) := z_ftd (by decide +kernel)
theorem t167_113 : z_ft 167 113 = some (.ifCond .eq 11, 3, none, [], 124, 0, 0, 0) := z_ftd (by decide +kernel)
theorem t167_116 : z_ft 167 116 = some (.lload_n 1, 1, none, [], 0, 0, 0, 0) := z_ftd (by decide +kernel)
theorem t167_117 : z_ft 167 117 = some (.ldc2_w 287, 3, none, [], 0, 0, 107, 435627783289) := z_ftd (by decide +kernel)
theorem t167_120 : z_ft 167 120 = some (.lcmp, 1, none, [], 0, 0, 0, 0) := z_ftd (by decide +kernel)
theorem t167_121 : z_ft 167 121 = some (.ifCond .ne 5, 3, none, [], 126, 0, 0, 0) := z_ftd (by decide +kernel)
theorem t167_124 : z_ft 167 124 = some (.iconst 1, 1, (some []), [], 0, 0, 0, 0) := z_ftd (by decide +kernel)
theorem t167_125 : z_ft 167 125 = some (.ireturn, 1, none, [], 0, 0, 0, 0) := z_ftd (by decide +kernel)
theorem t167_126 : z_ft 167 126 = some (.lload_n 1, 1, none, [], 0, 0, 0, 0) := z_ftd (by decide +kernel)
theorem t167_127 : z_ft 167 127 = some (.ldc2_w 289, 3, none, [], 0, 0, 108, 1937007984) := z_ftd (by decide +kernel)
theorem t167_130 : z_ft 167 130 = some (.lcmp, 1, none, [], 0, 0, 0, 0) := z_ftd (by decide +kernel)
theorem t167_131 : z_ft 167 131 = some (.ifCond .eq 35, 3, none, [], 166, 0, 0, 0) := z_ftd (by decide +kernel)
theorem t167_134 : z_ft 167 134 = some (.lload_n 1, 1, none, [], 0, 0, 0, 0) := z_ftd (by decide +kernel)
theorem t167_135 : z_ft 167 135 = some (.ldc2_w 291, 3, none, [], 0, 0, 109, 439855772532) := z_ftd (by decide +kernel)
theorem t167_138 : z_ft 167 138 = some (.lcmp, 1, none, [], 0, 0, 0, 0) := z_ftd (by decide +kernel)
theorem t167_139 : z_ft 167 139 = some (.ifCond .eq 27, 3, none, [], 166, 0, 0, 0) := z_ftd (by decide +kernel)
theorem t167_142 : z_ft 167 142 = some (.lload_n 1, 1, none, [], 0, 0, 0, 0) := z_ftd (by decide +kernel)
theorem t167_143 : z_ft 167 143 = some (.ldc2_w 293, 3, none, [], 0, 0, 110, 26982) := z_ftd (by decide +kernel)
theorem t167_146 : z_ft 167 146 = some (.lcmp, 1, none, [], 0, 0, 0, 0) := z_ftd (by decide +kernel)
theorem t167_147 : z_ft 167 147 = some (.ifCond .eq 19, 3, none, [], 166, 0, 0, 0) := z_ftd (by decide +kernel)
theorem t167_150 : z_ft 167 150 = some (.lload_n 1, 1, none, [], 0, 0, 0, 0) := z_ftd (by decide +kernel)
theorem t167_151 : z_ft 167 151 = some (.ldc2_w 295, 3, none, [], 0, 0, 111, 28530) := z_ftd (by decide +kernel)
theorem t167_154 : z_ft 167 154 = some (.lcmp, 1, none, [], 0, 0, 0, 0) := z_ftd (by decide +kernel)
theorem t167_155 : z_ft 167 155 = some (.ifCond .eq 11, 3, none, [], 166, 0, 0, 0) := z_ftd (by decide +kernel)
theorem t167_158 : z_ft 167 158 = some (.lload_n 1, 1, none, [], 0, 0, 0, 0) := z_ftd (by decide +kernel)
theorem t167_159 : z_ft 167 159 = some (.ldc2_w 297, 3, none, [], 0, 0, 112, 6385252) := z_ftd (by decide +kernel)
theorem t167_162 : z_ft 167 162 = some (.lcmp, 1, none, [], 0, 0, 0, 0) := z_ftd (by decide +kernel)
theorem t167_163 : z_ft 167 163 = some (.ifCond .ne 5, 3, none, [], 168, 0, 0, 0) := z_ftd (by decide +kernel)
theorem t167_166 : z_ft 167 166 = some (.iconst 1, 1, (some []), [], 0, 0, 0, 0) := z_ftd (by decide +kernel)
theorem t167_167 : z_ft 167 167 = some (.ireturn, 1, none, [], 0, 0, 0, 0) := z_ftd (by decide +kernel)
theorem t167_168 : z_ft 167 168 = some (.lload_n 1, 1, none, [], 0, 0, 0, 0) := z_ftd (by decide +kernel)
theorem t167_169 : z_ft 167 169 = some (.ldc2_w 299, 3, none, [], 0, 0, 113, 7237492) := z_ftd (by decide +kernel)
theorem t167_172 : z_ft 167 172 = some (.lcmp, 1, none, [], 0, 0, 0, 0) := z_ftd (by decide +kernel)
theorem t167_173 : z_ft 167 173 = some (.ifCond .eq 27, 3, none, [], 200, 0, 0, 0) := z_ftd (by decide +kernel)
theorem t167_176 : z_ft 167 176 = some (.lload_n 1, 1, none, [], 0, 0, 0, 0) := z_ftd (by decide +kernel)
theorem t167_177 : z_ft 167 177 = some (.ldc2_w 301, 3, none, [], 0, 0, 114, 6384748) := z_ftd (by decide +kernel)
theorem t167_180 : z_ft 167 180 = some (.lcmp, 1, none, [], 0, 0, 0, 0) := z_ftd (by decide +kernel)
theorem t167_181 : z_ft 167 181 = some (.ifCond .eq 19, 3, none, [], 200, 0, 0, 0) := z_ftd (by decide +kernel)
theorem t167_184 : z_ft 167 184 = some (.lload_n 1, 1, none, [], 0, 0, 0, 0) := z_ftd (by decide +kernel)
theorem t167_185 : z_ft 167 185 = some (.ldc2_w 303, 3, none, [], 0, 0, 115, 7170414) := z_ftd (by decide +kernel)
theorem t167_188 : z_ft 167 188 = some (.lcmp, 1, none, [], 0, 0, 0, 0) := z_ftd (by decide +kernel)
theorem t167_189 : z_ft 167 189 = some (.ifCond .eq 11, 3, none, [], 200, 0, 0, 0) := z_ftd (by decide +kernel)
theorem t167_192 : z_ft 167 192 = some (.lload_n 1, 1, none, [], 0, 0, 0, 0) := z_ftd (by decide +kernel)
theorem t167_193 : z_ft 167 193 = some (.ldc2_w 305, 3, none, [], 0, 0, 116, 7168376) := z_ftd (by decide +kernel)
theorem t167_196 : z_ft 167 196 = some (.lcmp, 1, none, [], 0, 0, 0, 0) := z_ftd (by decide +kernel)
theorem t167_197 : z_ft 167 197 = some (.ifCond .ne 5, 3, none, [], 202, 0, 0, 0) := z_ftd (by decide +kernel)
theorem t167_200 : z_ft 167 200 = some (.iconst 1, 1, (some []), [], 0, 0, 0, 0) := z_ftd (by decide +kernel)
theorem t167_201 : z_ft 167 201 = some (.ireturn, 1, none, [], 0, 0, 0, 0) := z_ftd (by decide +kernel)
theorem t167_202 : z_ft 167 202 = some (.iconst 0, 1, none, [], 0, 0, 0, 0) := z_ftd (by decide +kernel)
theorem t167_203 : z_ft 167 203 = some (.ireturn, 1, none, [], 0, 0, 0, 0) := z_ftd (by decide +kernel)
-- X12_isOwn
theorem e167 (d : Nat) (x1 : Int64) (S : z_S) (hW : z_W S)  : fI (d + 1) 167 [.ref 396, .long x1] S = (if (lg_cmp x1 (491495845235 : Int64)) = (0 : Int32) then some ((1 : Int32), S) else (if (lg_cmp x1 (422608528232 : Int64)) = (0 : Int32) then some ((1 : Int32), S) else (if (lg_cmp x1 (495874044019 : Int64)) = (0 : Int32) then some ((1 : Int32), S) else (if (lg_cmp x1 (461414294379 : Int64)) = (0 : Int32) then some ((1 : Int32), S) else (if ¬ (lg_cmp x1 (119225681667442 : Int64)) = (0 : Int32) then (if (lg_cmp x1 (6840691 : Int64)) = (0 : Int32) then some ((1 : Int32), S) else (if (lg_cmp x1 (26990 : Int64)) = (0 : Int32) then some ((1 : Int32), S) else (if (lg_cmp x1 (1936225652 : Int64)) = (0 : Int32) then some ((1 : Int32), S) else (if (lg_cmp x1 (133493580129395 : Int64)) = (0 : Int32) then some ((1 : Int32), S) else (if ¬ (lg_cmp x1 (119182682645875 : Int64)) = (0 : Int32) then (if (lg_cmp x1 (491328009331 : Int64)) = (0 : Int32) then some ((1 : Int32), S) else (if (lg_cmp x1 (474214787188 : Int64)) = (0 : Int32) then some ((1 : Int32), S) else (if (lg_cmp x1 (1919905645 : Int64)) = (0 : Int32) then some ((1 : Int32), S) else (if (lg_cmp x1 (121398985520243 : Int64)) = (0 : Int32) then some ((1 : Int32), S) else (if ¬ (lg_cmp x1 (435627783289 : Int64)) = (0 : Int32) then (if (lg_cmp x1 (1937007984 : Int64)) = (0 : Int32) then some ((1 : Int32), S) else (if (lg_cmp x1 (439855772532 : Int64)) = (0 : Int32) then some ((1 : Int32), S) else (if (lg_cmp x1 (26982 : Int64)) = (0 : Int32) then some ((1 : Int32), S) else (if (lg_cmp x1 (28530 : Int64)) = (0 : Int32) then some ((1 : Int32), S) else (if ¬ (lg_cmp x1 (6385252 : Int64)) = (0 : Int32) then (if (lg_cmp x1 (7237492 : Int64)) = (0 : Int32) then some ((1 : Int32), S) else (if (lg_cmp x1 (6384748 : Int64)) = (0 : Int32) then some ((1 : Int32), S) else (if (lg_cmp x1 (7170414 : Int64)) = (0 : Int32) then some ((1 : Int32), S) else (if ¬ (lg_cmp x1 (7168376 : Int64)) = (0 : Int32) then some ((0 : Int32), S) else some ((1 : Int32), S))))) else some ((1 : Int32), S)))))) else some ((1 : Int32), S)))))) else some ((1 : Int32), S)))))) else some ((1 : Int32), S)))))) := by
  refine (fI_en (Nat.le_of_ble_eq_true rfl) rfl).trans ?_
  refine (k_lload_n t167_0 rfl rfl).trans ?_
  refine (k_ldc2_w t167_1 rfl zcl_491495845235).trans ?_
  refine (k_lcmp t167_4 rfl).trans ?_
  refine (k_if_eq t167_5 rfl).trans (z_ite (fun g1 => ?_) (fun g1 => ?_))
  · refine (zk_mk (ls' := [z_j, z_j, z_j]) t167_40 rfl).trans ?_
    refine (k_iconst t167_40 rfl zci_1).trans ?_
    exact k_zretC t167_41 rfl (by decide) (by decide)
  · refine (k_lload_n t167_8 rfl rfl).trans ?_
    refine (k_ldc2_w t167_9 rfl zcl_422608528232).trans ?_
    refine (k_lcmp t167_12 rfl).trans ?_
    refine (k_if_eq t167_13 rfl).trans (z_ite (fun g2 => ?_) (fun g2 => ?_))
    · refine (zk_mk (ls' := [z_j, z_j, z_j]) t167_40 rfl).trans ?_
      refine (k_iconst t167_40 rfl zci_1).trans ?_
      exact k_zretC t167_41 rfl (by decide) (by decide)
    · refine (k_lload_n t167_16 rfl rfl).trans ?_
      refine (k_ldc2_w t167_17 rfl zcl_495874044019).trans ?_
      refine (k_lcmp t167_20 rfl).trans ?_
      refine (k_if_eq t167_21 rfl).trans (z_ite (fun g3 => ?_) (fun g3 => ?_))
      · refine (zk_mk (ls' := [z_j, z_j, z_j]) t167_40 rfl).trans ?_
        refine (k_iconst t167_40 rfl zci_1).trans ?_
        exact k_zretC t167_41 rfl (by decide) (by decide)
      · refine (k_lload_n t167_24 rfl rfl).trans ?_
        refine (k_ldc2_w t167_25 rfl zcl_461414294379).trans ?_
        refine (k_lcmp t167_28 rfl).trans ?_
        refine (k_if_eq t167_29 rfl).trans (z_ite (fun g4 => ?_) (fun g4 => ?_))
        · refine (zk_mk (ls' := [z_j, z_j, z_j]) t167_40 rfl).trans ?_
          refine (k_iconst t167_40 rfl zci_1).trans ?_
          exact k_zretC t167_41 rfl (by decide) (by decide)
        · refine (k_lload_n t167_32 rfl rfl).trans ?_
          refine (k_ldc2_w t167_33 rfl zcl_119225681667442).trans ?_
          refine (k_lcmp t167_36 rfl).trans ?_
          refine (k_if_ne t167_37 rfl).trans (z_ite (fun g5 => ?_) (fun g5 => ?_))
          · refine (k_lload_n t167_42 rfl rfl).trans ?_
            refine (k_ldc2_w t167_43 rfl zcl_6840691).trans ?_
            refine (k_lcmp t167_46 rfl).trans ?_
            refine (k_if_eq t167_47 rfl).trans (z_ite (fun g6 => ?_) (fun g6 => ?_))
            · refine (zk_mk (ls' := [z_j, z_j, z_j]) t167_82 rfl).trans ?_
              refine (k_iconst t167_82 rfl zci_1).trans ?_
              exact k_zretC t167_83 rfl (by decide) (by decide)
            · refine (k_lload_n t167_50 rfl rfl).trans ?_
              refine (k_ldc2_w t167_51 rfl zcl_26990).trans ?_
              refine (k_lcmp t167_54 rfl).trans ?_
              refine (k_if_eq t167_55 rfl).trans (z_ite (fun g7 => ?_) (fun g7 => ?_))
              · refine (zk_mk (ls' := [z_j, z_j, z_j]) t167_82 rfl).trans ?_
                refine (k_iconst t167_82 rfl zci_1).trans ?_
                exact k_zretC t167_83 rfl (by decide) (by decide)
              · refine (k_lload_n t167_58 rfl rfl).trans ?_
                refine (k_ldc2_w t167_59 rfl zcl_1936225652).trans ?_
                refine (k_lcmp t167_62 rfl).trans ?_
                refine (k_if_eq t167_63 rfl).trans (z_ite (fun g8 => ?_) (fun g8 => ?_))
                · refine (zk_mk (ls' := [z_j, z_j, z_j]) t167_82 rfl).trans ?_
                  refine (k_iconst t167_82 rfl zci_1).trans ?_
                  exact k_zretC t167_83 rfl (by decide) (by decide)
                · refine (k_lload_n t167_66 rfl rfl).trans ?_
                  refine (k_ldc2_w t167_67 rfl zcl_133493580129395).trans ?_
                  refine (k_lcmp t167_70 rfl).trans ?_
                  refine (k_if_eq t167_71 rfl).trans (z_ite (fun g9 => ?_) (fun g9 => ?_))
                  · refine (zk_mk (ls' := [z_j, z_j, z_j]) t167_82 rfl).trans ?_
                    refine (k_iconst t167_82 rfl zci_1).trans ?_
                    exact k_zretC t167_83 rfl (by decide) (by decide)
                  · refine (k_lload_n t167_74 rfl rfl).trans ?_
                    refine (k_ldc2_w t167_75 rfl zcl_119182682645875).trans ?_
                    refine (k_lcmp t167_78 rfl).trans ?_
                    refine (k_if_ne t167_79 rfl).trans (z_ite (fun g10 => ?_) (fun g10 => ?_))
                    · refine (k_lload_n t167_84 rfl rfl).trans ?_
                      refine (k_ldc2_w t167_85 rfl zcl_491328009331).trans ?_
                      refine (k_lcmp t167_88 rfl).trans ?_
                      refine (k_if_eq t167_89 rfl).trans (z_ite (fun g11 => ?_) (fun g11 => ?_))
                      · refine (zk_mk (ls' := [z_j, z_j, z_j]) t167_124 rfl).trans ?_
                        refine (k_iconst t167_124 rfl zci_1).trans ?_
                        exact k_zretC t167_125 rfl (by decide) (by decide)
                      · refine (k_lload_n t167_92 rfl rfl).trans ?_
                        refine (k_ldc2_w t167_93 rfl zcl_474214787188).trans ?_
                        refine (k_lcmp t167_96 rfl).trans ?_
                        refine (k_if_eq t167_97 rfl).trans (z_ite (fun g12 => ?_) (fun g12 => ?_))
                        · refine (zk_mk (ls' := [z_j, z_j, z_j]) t167_124 rfl).trans ?_
                          refine (k_iconst t167_124 rfl zci_1).trans ?_
                          exact k_zretC t167_125 rfl (by decide) (by decide)
                        · refine (k_lload_n t167_100 rfl rfl).trans ?_
                          refine (k_ldc2_w t167_101 rfl zcl_1919905645).trans ?_
                          refine (k_lcmp t167_104 rfl).trans ?_
                          refine (k_if_eq t167_105 rfl).trans (z_ite (fun g13 => ?_) (fun g13 => ?_))
                          · refine (zk_mk (ls' := [z_j, z_j, z_j]) t167_124 rfl).trans ?_
                            refine (k_iconst t167_124 rfl zci_1).trans ?_
                            exact k_zretC t167_125 rfl (by decide) (by decide)
                          · refine (k_lload_n t167_108 rfl rfl).trans ?_
                            refine (k_ldc2_w t167_109 rfl zcl_121398985520243).trans ?_
                            refine (k_lcmp t167_112 rfl).trans ?_
                            refine (k_if_eq t167_113 rfl).trans (z_ite (fun g14 => ?_) (fun g14 => ?_))
                            · refine (zk_mk (ls' := [z_j, z_j, z_j]) t167_124 rfl).trans ?_
                              refine (k_iconst t167_124 rfl zci_1).trans ?_
                              exact k_zretC t167_125 rfl (by decide) (by decide)
                            · refine (k_lload_n t167_116 rfl rfl).trans ?_
                              refine (k_ldc2_w t167_117 rfl zcl_435627783289).trans ?_
                              refine (k_lcmp t167_120 rfl).trans ?_
                              refine (k_if_ne t167_121 rfl).trans (z_ite (fun g15 => ?_) (fun g15 => ?_))
                              · refine (k_lload_n t167_126 rfl rfl).trans ?_
                                refine (k_ldc2_w t167_127 rfl zcl_1937007984).trans ?_
                                refine (k_lcmp t167_130 rfl).trans ?_
                                refine (k_if_eq t167_131 rfl).trans (z_ite (fun g16 => ?_) (fun g16 => ?_))
                                · refine (zk_mk (ls' := [z_j, z_j, z_j]) t167_166 rfl).trans ?_
                                  refine (k_iconst t167_166 rfl zci_1).trans ?_
                                  exact k_zretC t167_167 rfl (by decide) (by decide)
                                · refine (k_lload_n t167_134 rfl rfl).trans ?_
                                  refine (k_ldc2_w t167_135 rfl zcl_439855772532).trans ?_
                                  refine (k_lcmp t167_138 rfl).trans ?_
                                  refine (k_if_eq t167_139 rfl).trans (z_ite (fun g17 => ?_) (fun g17 => ?_))
                                  · refine (zk_mk (ls' := [z_j, z_j, z_j]) t167_166 rfl).trans ?_
                                    refine (k_iconst t167_166 rfl zci_1).trans ?_
                                    exact k_zretC t167_167 rfl (by decide) (by decide)
                                  · refine (k_lload_n t167_142 rfl rfl).trans ?_
                                    refine (k_ldc2_w t167_143 rfl zcl_26982).trans ?_
                                    refine (k_lcmp t167_146 rfl).trans ?_
                                    refine (k_if_eq t167_147 rfl).trans (z_ite (fun g18 => ?_) (fun g18 => ?_))
                                    · refine (zk_mk (ls' := [z_j, z_j, z_j]) t167_166 rfl).trans ?_
                                      refine (k_iconst t167_166 rfl zci_1).trans ?_
                                      exact k_zretC t167_167 rfl (by decide) (by decide)
                                    · refine (k_lload_n t167_150 rfl rfl).trans ?_
                                      refine (k_ldc2_w t167_151 rfl zcl_28530).trans ?_
                                      refine (k_lcmp t167_154 rfl).trans ?_
                                      refine (k_if_eq t167_155 rfl).trans (z_ite (fun g19 => ?_) (fun g19 => ?_))
                                      · refine (zk_mk (ls' := [z_j, z_j, z_j]) t167_166 rfl).trans ?_
                                        refine (k_iconst t167_166 rfl zci_1).trans ?_
                                        exact k_zretC t167_167 rfl (by decide) (by decide)
                                      · refine (k_lload_n t167_158 rfl rfl).trans ?_
                                        refine (k_ldc2_w t167_159 rfl zcl_6385252).trans ?_
                                        refine (k_lcmp t167_162 rfl).trans ?_
                                        refine (k_if_ne t167_163 rfl).trans (z_ite (fun g20 => ?_) (fun g20 => ?_))
                                        · refine (k_lload_n t167_168 rfl rfl).trans ?_
                                          refine (k_ldc2_w t167_169 rfl zcl_7237492).trans ?_
                                          refine (k_lcmp t167_172 rfl).trans ?_
                                          refine (k_if_eq t167_173 rfl).trans (z_ite (fun g21 => ?_) (fun g21 => ?_))
                                          · refine (zk_mk (ls' := [z_j, z_j, z_j]) t167_200 rfl).trans ?_
                                            refine (k_iconst t167_200 rfl zci_1).trans ?_
                                            exact k_zretC t167_201 rfl (by decide) (by decide)
                                          · refine (k_lload_n t167_176 rfl rfl).trans ?_
                                            refine (k_ldc2_w t167_177 rfl zcl_6384748).trans ?_
                                            refine (k_lcmp t167_180 rfl).trans ?_
                                            refine (k_if_eq t167_181 rfl).trans (z_ite (fun g22 => ?_) (fun g22 => ?_))
                                            · refine (zk_mk (ls' := [z_j, z_j, z_j]) t167_200 rfl).trans ?_
                                              refine (k_iconst t167_200 rfl zci_1).trans ?_
                                              exact k_zretC t167_201 rfl (by decide) (by decide)
                                            · refine (k_lload_n t167_184 rfl rfl).trans ?_
                                              refine (k_ldc2_w t167_185 rfl zcl_7170414).trans ?_
                                              refine (k_lcmp t167_188 rfl).trans ?_
                                              refine (k_if_eq t167_189 rfl).trans (z_ite (fun g23 => ?_) (fun g23 => ?_))
                                              · refine (zk_mk (ls' := [z_j, z_j, z_j]) t167_200 rfl).trans ?_
                                                refine (k_iconst t167_200 rfl zci_1).trans ?_
                                                exact k_zretC t167_201 rfl (by decide) (by decide)
                                              · refine (k_lload_n t167_192 rfl rfl).trans ?_
                                                refine (k_ldc2_w t167_193 rfl zcl_7168376).trans ?_
                                                refine (k_lcmp t167_196 rfl).trans ?_
                                                refine (k_if_ne t167_197 rfl).trans (z_ite (fun g24 => ?_) (fun g24 => ?_))
                                                · refine (k_iconst t167_202 rfl zci_0).trans ?_
                                                  exact k_zretC t167_203 rfl (by decide) (by decide)
                                                · refine (zk_mk (ls' := [z_j, z_j, z_j]) t167_200 rfl).trans ?_
                                                  refine (k_iconst t167_200 rfl zci_1).trans ?_
                                                  exact k_zretC t167_201 rfl (by decide) (by decide)
                                        · refine (zk_mk (ls' := [z_j, z_j, z_j]) t167_166 rfl).trans ?_
                                          refine (k_iconst t167_166 rfl zci_1).trans ?_
                                          exact k_zretC t167_167 rfl (by decide) (by decide)
                              · refine (zk_mk (ls' := [z_j, z_j, z_j]) t167_124 rfl).trans ?_
                                refine (k_iconst t167_124 rfl zci_1).trans ?_
                                exact k_zretC t167_125 rfl (by decide) (by decide)
                    · refine (zk_mk (ls' := [z_j, z_j, z_j]) t167_82 rfl).trans ?_
                      refine (k_iconst t167_82 rfl zci_1).trans ?_
                      exact k_zretC t167_83 rfl (by decide) (by decide)
          · refine (zk_mk (ls' := [z_j, z_j, z_j]) t167_40 rfl).trans ?_
            refine (k_iconst t167_40 rfl zci_1).trans ?_
            exact k_zretC t167_41 rfl (by decide) (by decide)
theorem t168_0 : z_ft 168 0 = some (.iconst 0, 1, none, [], 0, 0, 0, 0) := z_ftd (by decide +kernel)
theorem t168_1 : z_ft 168 1 = some (.istore_n 3, 1, none, [], 0, 0, 0, 0) := z_ftd (by decide +kernel)
theorem t168_2 : z_ft 168 2 = some (.iload_n 3, 1, (some [0, 1, 3]), [], 0, 0, 0, 0) := z_ftd (by decide +kernel)
theorem t168_3 : z_ft 168 3 = some (.aload_n 0, 1, none, [], 0, 0, 0, 0) := z_ftd (by decide +kernel)
theorem t168_4 : z_ft 168 4 = some (.getfield 66, 3, none, [], 12, 18, 19, 0) := z_ftd (by decide +kernel)
theorem t168_7 : z_ft 168 7 = some (.aload_n 0, 1, none, [], 0, 0, 0, 0) := z_ftd (by decide +kernel)
theorem t168_8 : z_ft 168 8 = some (.getfield 103, 3, none, [], 12, 30, 31, 0) := z_ftd (by decide +kernel)
theorem t168_11 : z_ft 168 11 = some (.iaload, 1, none, [], 0, 0, 0, 0) := z_ftd (by decide +kernel)
theorem t168_12 : z_ft 168 12 = some (.if_icmp .ge 30, 3, none, [], 42, 0, 0, 0) := z_ftd (by decide +kernel)
theorem t168_15 : z_ft 168 15 = some (.aload_n 0, 1, none, [], 0, 0, 0, 0) := z_ftd (by decide +kernel)
theorem t168_16 : z_ft 168 16 = some (.getfield 96, 3, none, [], 12, 28, 29, 0) := z_ftd (by decide +kernel)
theorem t168_19 : z_ft 168 19 = some (.bipush 16, 2, none, [], 0, 0, 0, 0) := z_ftd (by decide +kernel)
theorem t168_21 : z_ft 168 21 = some (.aload_n 0, 1, none, [], 0, 0, 0, 0) := z_ftd (by decide +kernel)
theorem t168_22 : z_ft 168 22 = some (.getfield 103, 3, none, [], 12, 30, 31, 0) := z_ftd (by decide +kernel)
theorem t168_25 : z_ft 168 25 = some (.imul, 1, none, [], 0, 0, 0, 0) := z_ftd (by decide +kernel)
theorem t168_26 : z_ft 168 26 = some (.iload_n 3, 1, none, [], 0, 0, 0, 0) := z_ftd (by decide +kernel)
theorem t168_27 : z_ft 168 27 = some (.iadd, 1, none, [], 0, 0, 0, 0) := z_ftd (by decide +kernel)
theorem t168_28 : z_ft 168 28 = some (.laload, 1, none, [], 0, 0, 0, 0) := z_ftd (by decide +kernel)
theorem t168_29 : z_ft 168 29 = some (.lload_n 1, 1, none, [], 0, 0, 0, 0) := z_ftd (by decide +kernel)
theorem t168_30 : z_ft 168 30 = some (.lcmp, 1, none, [], 0, 0, 0, 0) := z_ftd (by decide +kernel)
theorem t168_31 : z_ft 168 31 = some (.ifCond .ne 5, 3, none, [], 36, 0, 0, 0) := z_ftd (by decide +kernel)
theorem t168_34 : z_ft 168 34 = some (.iload_n 3, 1, none, [], 0, 0, 0, 0) := z_ftd (by decide +kernel)
theorem t168_35 : z_ft 168 35 = some (.ireturn, 1, none, [], 0, 0, 0, 0) := z_ftd (by decide +kernel)
theorem t168_36 : z_ft 168 36 = some (.iinc 3 1, 3, none, [], 0, 0, 0, 0) := z_ftd (by decide +kernel)
theorem t168_39 : z_ft 168 39 = some (.goto (-37), 3, none, [], 2, 0, 0, 0) := z_ftd (by decide +kernel)
theorem t168_42 : z_ft 168 42 = some (.iconst (-1), 1, none, [], 0, 0, 0, 0) := z_ftd (by decide +kernel)
theorem t168_43 : z_ft 168 43 = some (.ireturn, 1, none, [], 0, 0, 0, 0) := z_ftd (by decide +kernel)
noncomputable def b168_2 (d : Nat) (y1 : Int64) (y3 : Int32) (S : z_S) : Option (Int32 × z_S) := zk kI z_X0 d 168 2 [.ref 396, .long y1, z_j, .int y3] [] S
theorem b168_2_eq (d : Nat) (y1 : Int64) (y3 : Int32) (S : z_S) (hW : z_W S)  : b168_2 d y1 y3 S = (if z_in (gI S 396 30) 2 then (if (gI S 402 ((gI S 396 30)).toNatClampNeg) ≤ y3 then some ((-1 : Int32), S) else (if z_in (((16 : Int32) * (gI S 396 30)) + y3) 32 then (if ¬ (lg_cmp (gL S 412 ((((16 : Int32) * (gI S 396 30)) + y3)).toNatClampNeg) y1) = (0 : Int32) then b168_2 d y1 (y3 + (1 : Int32)) S else some (y3, S)) else none)) else none) := by
  unfold b168_2
  refine (k_iload_n t168_2 rfl rfl).trans ?_
  refine (k_aload_n t168_3 rfl rfl).trans ?_
  refine (k_getR t168_4 rfl hW zK_396 (by decide) (by decide) (zF_396_18 hW)).trans ?_
  refine (k_aload_n t168_7 rfl rfl).trans ?_
  refine (k_getI t168_8 rfl hW zK_396 (by decide) (by decide)).trans ?_
  refine (k_iald t168_11 rfl hW zK_402 zL_402).trans (z_ite (fun g1 => ?_) (fun _ => rfl))
  refine (k_icmp_ge t168_12 rfl).trans (z_ite (fun g2 => ?_) (fun g2 => ?_))
  · refine (k_iconst t168_42 rfl zci_m1).trans ?_
    exact k_ireturn t168_43 rfl (by decide)
  · refine (k_aload_n t168_15 rfl rfl).trans ?_
    refine (k_getR t168_16 rfl hW zK_396 (by decide) (by decide) (zF_396_28 hW)).trans ?_
    refine (k_bipush t168_19 rfl zcb_16).trans ?_
    refine (k_aload_n t168_21 rfl rfl).trans ?_
    refine (k_getI t168_22 rfl hW zK_396 (by decide) (by decide)).trans ?_
    refine (k_imul t168_25 rfl).trans ?_
    refine (k_iload_n t168_26 rfl rfl).trans ?_
    refine (k_iadd t168_27 rfl).trans ?_
    refine (k_lald t168_28 rfl hW zK_412 zL_412).trans (z_ite (fun g3 => ?_) (fun _ => rfl))
    refine (k_lload_n t168_29 rfl rfl).trans ?_
    refine (k_lcmp t168_30 rfl).trans ?_
    refine (k_if_ne t168_31 rfl).trans (z_ite (fun g4 => ?_) (fun g4 => ?_))
    · refine (k_iinc (b := (y3 + (1 : Int32))) (ls' := [.ref 396, .long y1, z_j, .int (y3 + (1 : Int32))]) t168_36 rfl rfl (by rw [zci_1]) rfl).trans ?_
      refine (k_goto t168_39 rfl).trans ?_
      exact (zk_mk (ls' := [.ref 396, .long y1, z_j, .int (y3 + (1 : Int32))]) t168_2 rfl)
    · refine (k_iload_n t168_34 rfl rfl).trans ?_
      exact k_ireturn t168_35 rfl (by decide)
-- X12_lodgerNamed
theorem e168 (d : Nat) (x1 : Int64) (S : z_S) (hW : z_W S)  : fI (d + 1) 168 [.ref 396, .long x1] S = b168_2 d x1 (0 : Int32) S := by
  refine (fI_en (Nat.le_of_ble_eq_true rfl) rfl).trans ?_
  refine (k_iconst t168_0 rfl zci_0).trans ?_
  refine (k_istore_n (ls' := [.ref 396, .long x1, z_j, .int (0 : Int32)]) t168_1 rfl rfl).trans ?_
  exact (zk_mk (ls' := [.ref 396, .long x1, z_j, .int (0 : Int32)]) t168_2 rfl)
theorem t169_0 : z_ft 169 0 = some (.aload_n 0, 1, none, [], 0, 0, 0, 0) := z_ftd (by decide +kernel)
theorem t169_1 : z_ft 169 1 = some (.invokevirtual 250, 3, none, [], 162, 0, 81, 0) := z_ftd (by decide +kernel)
theorem t169_4 : z_ft 169 4 = some (.aload_n 0, 1, none, [], 0, 0, 0, 0) := z_ftd (by decide +kernel)
theorem t169_5 : z_ft 169 5 = some (.getfield 36, 3, none, [], 12, 8, 9, 0) := z_ftd (by decide +kernel)
theorem t169_8 : z_ft 169 8 = some (.ifCond .le 5, 3, none, [], 13, 0, 0, 0) := z_ftd (by decide +kernel)
theorem t169_11 : z_ft 169 11 = some (.iconst 0, 1, none, [], 0, 0, 0, 0) := z_ftd (by decide +kernel)
theorem t169_12 : z_ft 169 12 = some (.ireturn, 1, none, [], 0, 0, 0, 0) := z_ftd (by decide +kernel)
theorem t169_13 : z_ft 169 13 = some (.aload_n 0, 1, none, [], 0, 0, 0, 0) := z_ftd (by decide +kernel)
theorem t169_14 : z_ft 169 14 = some (.getfield 20, 3, none, [], 12, 3, 4, 0) := z_ftd (by decide +kernel)
theorem t169_17 : z_ft 169 17 = some (.iconst 2, 1, none, [], 0, 0, 0, 0) := z_ftd (by decide +kernel)
theorem t169_18 : z_ft 169 18 = some (.if_icmp .eq 12, 3, none, [], 30, 0, 0, 0) := z_ftd (by decide +kernel)
theorem t169_21 : z_ft 169 21 = some (.aload_n 0, 1, none, [], 0, 0, 0, 0) := z_ftd (by decide +kernel)
theorem t169_22 : z_ft 169 22 = some (.iconst 1, 1, none, [], 0, 0, 0, 0) := z_ftd (by decide +kernel)
theorem t169_23 : z_ft 169 23 = some (.aload_n 0, 1, none, [], 0, 0, 0, 0) := z_ftd (by decide +kernel)
theorem t169_24 : z_ft 169 24 = some (.getfield 23, 3, none, [], 12, 4, 5, 0) := z_ftd (by decide +kernel)
theorem t169_27 : z_ft 169 27 = some (.invokevirtual 239, 3, none, [], 159, 0, 82, 0) := z_ftd (by decide +kernel)
theorem t169_30 : z_ft 169 30 = some (.aload_n 0, 1, (some [0, 1, 2]), [], 0, 0, 0, 0) := z_ftd (by decide +kernel)
theorem t169_31 : z_ft 169 31 = some (.getfield 36, 3, none, [], 12, 8, 9, 0) := z_ftd (by decide +kernel)
theorem t169_34 : z_ft 169 34 = some (.ifCond .ne 24, 3, none, [], 58, 0, 0, 0) := z_ftd (by decide +kernel)
theorem t169_37 : z_ft 169 37 = some (.aload_n 0, 1, none, [], 0, 0, 0, 0) := z_ftd (by decide +kernel)
theorem t169_38 : z_ft 169 38 = some (.getfield 29, 3, none, [], 12, 6, 7, 0) := z_ftd (by decide +kernel)
theorem t169_41 : z_ft 169 41 = some (.iload_n 1, 1, none, [], 0, 0, 0, 0) := z_ftd (by decide +kernel)
theorem t169_42 : z_ft 169 42 = some (.iload_n 2, 1, none, [], 0, 0, 0, 0) := z_ftd (by decide +kernel)
theorem t169_43 : z_ft 169 43 = some (.invokestatic 307, 3, none, [], 155, 0, 85, 0) := z_ftd (by decide +kernel)
theorem t169_46 : z_ft 169 46 = some (.ifCond .ne 12, 3, none, [], 58, 0, 0, 0) := z_ftd (by decide +kernel)
theorem t169_49 : z_ft 169 49 = some (.aload_n 0, 1, none, [], 0, 0, 0, 0) := z_ftd (by decide +kernel)
theorem t169_50 : z_ft 169 50 = some (.iconst 4, 1, none, [], 0, 0, 0, 0) := z_ftd (by decide +kernel)
theorem t169_51 : z_ft 169 51 = some (.aload_n 0, 1, none, [], 0, 0, 0, 0) := z_ftd (by decide +kernel)
theorem t169_52 : z_ft 169 52 = some (.getfield 23, 3, none, [], 12, 4, 5, 0) := z_ftd (by decide +kernel)
theorem t169_55 : z_ft 169 55 = some (.invokevirtual 239, 3, none, [], 159, 0, 82, 0) := z_ftd (by decide +kernel)
theorem t169_58 : z_ft 169 58 = some (.aload_n 0, 1, (some [0]), [], 0, 0, 0, 0) := z_ftd (by decide +kernel)
theorem t169_59 : z_ft 169 59 = some (.getfield 29, 3, none, [], 12, 6, 7, 0) := z_ftd (by decide +kernel)
theorem t169_62 : z_ft 169 62 = some (.istore_n 3, 1, none, [], 0, 0, 0, 0) := z_ftd (by decide +kernel)
theorem t169_63 : z_ft 169 63 = some (.aload_n 0, 1, none, [], 0, 0, 0, 0) := z_ftd (by decide +kernel)
theorem t169_64 : z_ft 169 64 = some (.getfield 36, 3, none, [], 12, 8, 9, 0) := z_ftd (by decide +kernel)
theorem t169_67 : z_ft 169 67 = some (.ifCond .ne 7, 3, none, [], 74, 0, 0, 0) := z_ftd (by decide +kernel)
theorem t169_70 : z_ft 169 70 = some (.aload_n 0, 1, none, [], 0, 0, 0, 0) := z_ftd (by decide +kernel)
theorem t169_71 : z_ft 169 71 = some (.invokevirtual 256, 3, none, [], 163, 0, 75, 0) := z_ftd (by decide +kernel)
theorem t169_74 : z_ft 169 74 = some (.iload_n 3, 1, (some [3]), [], 0, 0, 0, 0) := z_ftd (by decide +kernel)
theorem t169_75 : z_ft 169 75 = some (.ireturn, 1, none, [], 0, 0, 0, 0) := z_ftd (by decide +kernel)
noncomputable def b169_30 (d : Nat) (y1 : Int32) (y2 : Int32) (S : z_S) : Option (Int32 × z_S) := zk kI z_X0 d 169 30 [.ref 396, .int y1, .int y2, z_j] [] S
noncomputable def b169_58 (d : Nat)  (S : z_S) : Option (Int32 × z_S) := zk kI z_X0 d 169 58 [.ref 396, z_j, z_j, z_j] [] S
theorem b169_30_eq (d : Nat) (y1 : Int32) (y2 : Int32) (S : z_S) (hW : z_W S)  : b169_30 d y1 y2 S = (if ¬ (gI S 396 8) = (0 : Int32) then b169_58 d S else (zb (fI d 155 [.int (gI S 396 6), .int y1, .int y2] S) fun v8 S9 => (if ¬ v8 = (0 : Int32) then b169_58 d S9 else ((fV d 159 [.ref 396, .int (4 : Int32), .int (gI S9 396 4)] S9).bind fun S12 => b169_58 d S12)))) := by
  unfold b169_30
  refine (k_aload_n t169_30 rfl rfl).trans ?_
  refine (k_getI t169_31 rfl hW zK_396 (by decide) (by decide)).trans ?_
  refine (k_if_ne t169_34 rfl).trans (z_ite (fun g7 => ?_) (fun g7 => ?_))
  · exact (zk_mk (ls' := [.ref 396, z_j, z_j, z_j]) t169_58 rfl)
  · refine (k_aload_n t169_37 rfl rfl).trans ?_
    refine (k_getI t169_38 rfl hW zK_396 (by decide) (by decide)).trans ?_
    refine (k_iload_n t169_41 rfl rfl).trans ?_
    refine (k_iload_n t169_42 rfl rfl).trans ?_
    refine k_callI (as := [.int (gI S 396 6), .int y1, .int y2]) (rest := []) t169_43 rfl rfl (by decide) rfl rfl (Nat.le_of_ble_eq_true rfl) rfl (z_rcS (by decide)) (by decide) (Or.inr (by decide)) hW (fun v8 S9 hW9 => ?_)
    refine (k_if_ne t169_46 rfl).trans (z_ite (fun g10 => ?_) (fun g10 => ?_))
    · exact (zk_mk (ls' := [.ref 396, z_j, z_j, z_j]) t169_58 rfl)
    · refine (k_aload_n t169_49 rfl rfl).trans ?_
      refine (k_iconst t169_50 rfl zci_4).trans ?_
      refine (k_aload_n t169_51 rfl rfl).trans ?_
      refine (k_getI t169_52 rfl hW9 zK_396 (by decide) (by decide)).trans ?_
      refine k_callV (as := [.ref 396, .int (4 : Int32), .int (gI S9 396 4)]) (rest := []) t169_55 rfl rfl (by decide) rfl rfl (Nat.le_of_ble_eq_true rfl) rfl (z_rcV hW9 (zK_396) (by decide)) (by decide) (by decide) hW9 (fun S12 hW12 => ?_)
      exact (zk_mk (ls' := [.ref 396, z_j, z_j, z_j]) t169_58 rfl)
theorem b169_58_eq (d : Nat)  (S : z_S) (hW : z_W S)  : b169_58 d  S = (if ¬ (gI S 396 8) = (0 : Int32) then some ((gI S 396 6), S) else ((fV d 163 [.ref 396] S).bind fun S15 => some ((gI S 396 6), S15))) := by
  unfold b169_58
  refine (k_aload_n t169_58 rfl rfl).trans ?_
  refine (k_getI t169_59 rfl hW zK_396 (by decide) (by decide)).trans ?_
  refine (k_istore_n (ls' := [.ref 396, z_j, z_j, .int (gI S 396 6)]) t169_62 rfl rfl).trans ?_
  refine (k_aload_n t169_63 rfl rfl).trans ?_
  refine (k_getI t169_64 rfl hW zK_396 (by decide) (by decide)).trans ?_
  refine (k_if_ne t169_67 rfl).trans (z_ite (fun g13 => ?_) (fun g13 => ?_))
  · refine (zk_mk (ls' := [z_j, z_j, z_j, .int (gI S 396 6)]) t169_74 rfl).trans ?_
    refine (k_iload_n t169_74 rfl rfl).trans ?_
    exact k_ireturn t169_75 rfl (by decide)
  · refine (k_aload_n t169_70 rfl rfl).trans ?_
    refine k_callV (as := [.ref 396]) (rest := []) t169_71 rfl rfl (by decide) rfl rfl (Nat.le_of_ble_eq_true rfl) rfl (z_rcV hW (zK_396) (by decide)) (by decide) (by decide) hW (fun S15 hW15 => ?_)
    refine (zk_mk (ls' := [z_j, z_j, z_j, .int (gI S 396 6)]) t169_74 rfl).trans ?_
    refine (k_iload_n t169_74 rfl rfl).trans ?_
    exact k_ireturn t169_75 rfl (by decide)
-- X12_number
theorem e169 (d : Nat) (x1 : Int32) (x2 : Int32) (S : z_S) (hW : z_W S)  : fI (d + 1) 169 [.ref 396, .int x1, .int x2] S = ((fV d 162 [.ref 396] S).bind fun S2 => (if (gI S2 396 8) ≤ (0 : Int32) then (if (gI S2 396 3) = (2 : Int32) then b169_30 d x1 x2 S2 else ((fV d 159 [.ref 396, .int (1 : Int32), .int (gI S2 396 4)] S2).bind fun S6 => b169_30 d x1 x2 S6)) else some ((0 : Int32), S2))) := by
  refine (fI_en (Nat.le_of_ble_eq_true rfl) rfl).trans ?_
  refine (k_aload_n t169_0 rfl rfl).trans ?_
  refine k_callV (as := [.ref 396]) (rest := []) t169_1 rfl rfl (by decide) rfl rfl (Nat.le_of_ble_eq_true rfl) rfl (z_rcV hW (zK_396) (by decide)) (by decide) (by decide) hW (fun S2 hW2 => ?_)
  refine (k_aload_n t169_4 rfl rfl).trans ?_
  refine (k_getI t169_5 rfl hW2 zK_396 (by decide) (by decide)).trans ?_
  refine (k_if_le t169_8 rfl).trans (z_ite (fun g3 => ?_) (fun g3 => ?_))
  · refine (k_aload_n t169_13 rfl rfl).trans ?_
    refine (k_getI t169_14 rfl hW2 zK_396 (by decide) (by decide)).trans ?_
    refine (k_iconst t169_17 rfl zci_2).trans ?_
    refine (k_icmp_eq t169_18 rfl).trans (z_ite (fun g4 => ?_) (fun g4 => ?_))
    · exact (zk_mk (ls' := [.ref 396, .int x1, .int x2, z_j]) t169_30 rfl)
    · refine (k_aload_n t169_21 rfl rfl).trans ?_
      refine (k_iconst t169_22 rfl zci_1).trans ?_
      refine (k_aload_n t169_23 rfl rfl).trans ?_
      refine (k_getI t169_24 rfl hW2 zK_396 (by decide) (by decide)).trans ?_
      refine k_callV (as := [.ref 396, .int (1 : Int32), .int (gI S2 396 4)]) (rest := []) t169_27 rfl rfl (by decide) rfl rfl (Nat.le_of_ble_eq_true rfl) rfl (z_rcV hW2 (zK_396) (by decide)) (by decide) (by decide) hW2 (fun S6 hW6 => ?_)
      exact (zk_mk (ls' := [.ref 396, .int x1, .int x2, z_j]) t169_30 rfl)
  · refine (k_iconst t169_11 rfl zci_0).trans ?_
    exact k_ireturn t169_12 rfl (by decide)
theorem t170_0 : z_ft 170 0 = some (.aload_n 0, 1, none, [], 0, 0, 0, 0) := z_ftd (by decide +kernel)
theorem t170_1 : z_ft 170 1 = some (.getfield 90, 3, none, [], 12, 26, 27, 0) := z_ftd (by decide +kernel)
theorem t170_4 : z_ft 170 4 = some (.sipush 1600, 3, none, [], 0, 0, 0, 0) := z_ftd (by decide +kernel)
theorem t170_7 : z_ft 170 7 = some (.aload_n 0, 1, none, [], 0, 0, 0, 0) := z_ftd (by decide +kernel)
theorem t170_8 : z_ft 170 8 = some (.getfield 103, 3, none, [], 12, 30, 31, 0) := z_ftd (by decide +kernel)
theorem t170_11 : z_ft 170 11 = some (.imul, 1, none, [], 0, 0, 0, 0) := z_ftd (by decide +kernel)
theorem t170_12 : z_ft 170 12 = some (.aload_n 0, 1, none, [], 0, 0, 0, 0) := z_ftd (by decide +kernel)
theorem t170_13 : z_ft 170 13 = some (.getfield 100, 3, none, [], 12, 29, 30, 0) := z_ftd (by decide +kernel)
theorem t170_16 : z_ft 170 16 = some (.iadd, 1, none, [], 0, 0, 0, 0) := z_ftd (by decide +kernel)
theorem t170_17 : z_ft 170 17 = some (.iload_n 1, 1, none, [], 0, 0, 0, 0) := z_ftd (by decide +kernel)
theorem t170_18 : z_ft 170 18 = some (.iastore, 1, none, [], 0, 0, 0, 0) := z_ftd (by decide +kernel)
theorem t170_19 : z_ft 170 19 = some (.aload_n 0, 1, none, [], 0, 0, 0, 0) := z_ftd (by decide +kernel)
theorem t170_20 : z_ft 170 20 = some (.getfield 93, 3, none, [], 12, 27, 28, 0) := z_ftd (by decide +kernel)
theorem t170_23 : z_ft 170 23 = some (.sipush 1600, 3, none, [], 0, 0, 0, 0) := z_ftd (by decide +kernel)
theorem t170_26 : z_ft 170 26 = some (.aload_n 0, 1, none, [], 0, 0, 0, 0) := z_ftd (by decide +kernel)
theorem t170_27 : z_ft 170 27 = some (.getfield 103, 3, none, [], 12, 30, 31, 0) := z_ftd (by decide +kernel)
theorem t170_30 : z_ft 170 30 = some (.imul, 1, none, [], 0, 0, 0, 0) := z_ftd (by decide +kernel)
theorem t170_31 : z_ft 170 31 = some (.aload_n 0, 1, none, [], 0, 0, 0, 0) := z_ftd (by decide +kernel)
theorem t170_32 : z_ft 170 32 = some (.getfield 100, 3, none, [], 12, 29, 30, 0) := z_ftd (by decide +kernel)
theorem t170_35 : z_ft 170 35 = some (.iadd, 1, none, [], 0, 0, 0, 0) := z_ftd (by decide +kernel)
theorem t170_36 : z_ft 170 36 = some (.iload_n 2, 1, none, [], 0, 0, 0, 0) := z_ftd (by decide +kernel)
theorem t170_37 : z_ft 170 37 = some (.iastore, 1, none, [], 0, 0, 0, 0) := z_ftd (by decide +kernel)
theorem t170_38 : z_ft 170 38 = some (.aload_n 0, 1, none, [], 0, 0, 0, 0) := z_ftd (by decide +kernel)
theorem t170_39 : z_ft 170 39 = some (.dup, 1, none, [], 0, 0, 0, 0) := z_ftd (by decide +kernel)
theorem t170_40 : z_ft 170 40 = some (.getfield 100, 3, none, [], 12, 29, 30, 0) := z_ftd (by decide +kernel)
theorem t170_43 : z_ft 170 43 = some (.iconst 1, 1, none, [], 0, 0, 0, 0) := z_ftd (by decide +kernel)
theorem t170_44 : z_ft 170 44 = some (.iadd, 1, none, [], 0, 0, 0, 0) := z_ftd (by decide +kernel)
theorem t170_45 : z_ft 170 45 = some (.putfield 100, 3, none, [], 12, 29, 30, 0) := z_ftd (by decide +kernel)
theorem t170_48 : z_ft 170 48 = some (.return_, 1, none, [], 0, 0, 0, 0) := z_ftd (by decide +kernel)
-- X12_add
theorem e170 (d : Nat) (x1 : Int32) (x2 : Int32) (S : z_S) (hW : z_W S)  : fV (d + 1) 170 [.ref 396, .int x1, .int x2] S = (if z_in (((1600 : Int32) * (gI S 396 30)) + (gI S 396 29)) 3200 then (if z_in (((1600 : Int32) * (gI (sI S 410 ((((1600 : Int32) * (gI S 396 30)) + (gI S 396 29))).toNatClampNeg x1) 396 30)) + (gI (sI S 410 ((((1600 : Int32) * (gI S 396 30)) + (gI S 396 29))).toNatClampNeg x1) 396 29)) 3200 then some (sI (sI (sI S 410 ((((1600 : Int32) * (gI S 396 30)) + (gI S 396 29))).toNatClampNeg x1) 411 ((((1600 : Int32) * (gI (sI S 410 ((((1600 : Int32) * (gI S 396 30)) + (gI S 396 29))).toNatClampNeg x1) 396 30)) + (gI (sI S 410 ((((1600 : Int32) * (gI S 396 30)) + (gI S 396 29))).toNatClampNeg x1) 396 29))).toNatClampNeg x2) 396 29 ((gI (sI (sI S 410 ((((1600 : Int32) * (gI S 396 30)) + (gI S 396 29))).toNatClampNeg x1) 411 ((((1600 : Int32) * (gI (sI S 410 ((((1600 : Int32) * (gI S 396 30)) + (gI S 396 29))).toNatClampNeg x1) 396 30)) + (gI (sI S 410 ((((1600 : Int32) * (gI S 396 30)) + (gI S 396 29))).toNatClampNeg x1) 396 29))).toNatClampNeg x2) 396 29) + (1 : Int32))) else none) else none) := by
  refine (fV_en (Nat.le_of_ble_eq_true rfl) rfl).trans ?_
  refine (k_aload_n t170_0 rfl rfl).trans ?_
  refine (k_getR t170_1 rfl hW zK_396 (by decide) (by decide) (zF_396_26 hW)).trans ?_
  refine (k_sipush t170_4 rfl zcs_1600).trans ?_
  refine (k_aload_n t170_7 rfl rfl).trans ?_
  refine (k_getI t170_8 rfl hW zK_396 (by decide) (by decide)).trans ?_
  refine (k_imul t170_11 rfl).trans ?_
  refine (k_aload_n t170_12 rfl rfl).trans ?_
  refine (k_getI t170_13 rfl hW zK_396 (by decide) (by decide)).trans ?_
  refine (k_iadd t170_16 rfl).trans ?_
  refine (k_iload_n t170_17 rfl rfl).trans ?_
  refine (k_iast t170_18 rfl hW zK_410 zL_410).trans (z_ite (fun g1 => ?_) (fun _ => rfl))
  refine (k_aload_n t170_19 rfl rfl).trans ?_
  refine (k_getR t170_20 rfl hW.sI zK_396 (by decide) (by decide) (zF_396_27 hW.sI)).trans ?_
  refine (k_sipush t170_23 rfl zcs_1600).trans ?_
  refine (k_aload_n t170_26 rfl rfl).trans ?_
  refine (k_getI t170_27 rfl hW.sI zK_396 (by decide) (by decide)).trans ?_
  refine (k_imul t170_30 rfl).trans ?_
  refine (k_aload_n t170_31 rfl rfl).trans ?_
  refine (k_getI t170_32 rfl hW.sI zK_396 (by decide) (by decide)).trans ?_
  refine (k_iadd t170_35 rfl).trans ?_
  refine (k_iload_n t170_36 rfl rfl).trans ?_
  refine (k_iast t170_37 rfl hW.sI zK_411 zL_411).trans (z_ite (fun g2 => ?_) (fun _ => rfl))
  refine (k_aload_n t170_38 rfl rfl).trans ?_
  refine (k_dupR t170_39 rfl).trans ?_
  refine (k_getI t170_40 rfl hW.sI.sI zK_396 (by decide) (by decide)).trans ?_
  refine (k_iconst t170_43 rfl zci_1).trans ?_
  refine (k_iadd t170_44 rfl).trans ?_
  refine (k_putI t170_45 rfl hW.sI.sI zK_396 (by decide) (by decide) (by decide)).trans ?_
  exact k_return t170_48 rfl (by decide)
theorem t171_0 : z_ft 171 0 = some (.iload_n 0, 1, none, [], 0, 0, 0, 0) := z_ftd (by decide +kernel)
theorem t171_1 : z_ft 171 1 = some (.bipush 42, 2, none, [], 0, 0, 0, 0) := z_ftd (by decide +kernel)
theorem t171_3 : z_ft 171 3 = some (.if_icmp .ne 7, 3, none, [], 10, 0, 0, 0) := z_ftd (by decide +kernel)
theorem t171_6 : z_ft 171 6 = some (.iconst 1, 1, none, [], 0, 0, 0, 0) := z_ftd (by decide +kernel)
theorem t171_7 : z_ft 171 7 = some (.goto 63, 3, none, [], 70, 0, 0, 0) := z_ftd (by decide +kernel)
theorem t171_10 : z_ft 171 10 = some (.iload_n 0, 1, none, [], 0, 0, 0, 0) := z_ftd (by decide +kernel)
theorem t171_11 : z_ft 171 11 = some (.bipush 41, 2, none, [], 0, 0, 0, 0) := z_ftd (by decide +kernel)
theorem t171_13 : z_ft 171 13 = some (.if_icmp .ne 7, 3, none, [], 20, 0, 0, 0) := z_ftd (by decide +kernel)
theorem t171_16 : z_ft 171 16 = some (.iconst 2, 1, none, [], 0, 0, 0, 0) := z_ftd (by decide +kernel)
theorem t171_17 : z_ft 171 17 = some (.goto 53, 3, none, [], 70, 0, 0, 0) := z_ftd (by decide +kernel)
theorem t171_20 : z_ft 171 20 = some (.iload_n 0, 1, none, [], 0, 0, 0, 0) := z_ftd (by decide +kernel)
theorem t171_21 : z_ft 171 21 = some (.bipush 43, 2, none, [], 0, 0, 0, 0) := z_ftd (by decide +kernel)
theorem t171_23 : z_ft 171 23 = some (.if_icmp .ne 7, 3, none, [], 30, 0, 0, 0) := z_ftd (by decide +kernel)
theorem t171_26 : z_ft 171 26 = some (.iconst 3, 1, none, [], 0, 0, 0, 0) := z_ftd (by decide +kernel)
theorem t171_27 : z_ft 171 27 = some (.goto 43, 3, none, [], 70, 0, 0, 0) := z_ftd (by decide +kernel)
theorem t171_30 : z_ft 171 30 = some (.iload_n 0, 1, none, [], 0, 0, 0, 0) := z_ftd (by decide +kernel)
theorem t171_31 : z_ft 171 31 = some (.bipush 38, 2, none, [], 0, 0, 0, 0) := z_ftd (by decide +kernel)
theorem t171_33 : z_ft 171 33 = some (.if_icmp .eq 15, 3, none, [], 48, 0, 0, 0) := z_ftd (by decide +kernel)
theorem t171_36 : z_ft 171 36 = some (.iload_n 0, 1, none, [], 0, 0, 0, 0) := z_ftd (by decide +kernel)
theorem t171_37 : z_ft 171 37 = some (.bipush 39, 2, none, [], 0, 0, 0, 0) := z_ftd (by decide +kernel)
theorem t171_39 : z_ft 171 39 = some (.if_icmp .eq 9, 3, none, [], 48, 0, 0, 0) := z_ftd (by decide +kernel)
theorem t171_42 : z_ft 171 42 = some (.iload_n 0, 1, none, [], 0, 0, 0, 0) := z_ftd (by decide +kernel)
theorem t171_43 : z_ft 171 43 = some (.bipush 40, 2, none, [], 0, 0, 0, 0) := z_ftd (by decide +kernel)
theorem t171_45 : z_ft 171 45 = some (.if_icmp .ne 7, 3, none, [], 52, 0, 0, 0) := z_ftd (by decide +kernel)
theorem t171_48 : z_ft 171 48 = some (.iconst 4, 1, (some []), [], 0, 0, 0, 0) := z_ftd (by decide +kernel)
theorem t171_49 : z_ft 171 49 = some (.goto 21, 3, none, [], 70, 0, 0, 0) := z_ftd (by decide +kernel)
theorem t171_52 : z_ft 171 52 = some (.iload_n 0, 1, none, [], 0, 0, 0, 0) := z_ftd (by decide +kernel)
theorem t171_53 : z_ft 171 53 = some (.bipush 31, 2, none, [], 0, 0, 0, 0) := z_ftd (by decide +kernel)
theorem t171_55 : z_ft 171 55 = some (.if_icmp .eq 9, 3, none, [], 64, 0, 0, 0) := z_ftd (by decide +kernel)
theorem t171_58 : z_ft 171 58 = some (.iload_n 0, 1, none, [], 0, 0, 0, 0) := z_ftd (by decide +kernel)
theorem t171_59 : z_ft 171 59 = some (.bipush 32, 2, none, [], 0, 0, 0, 0) := z_ftd (by decide +kernel)
theorem t171_61 : z_ft 171 61 = some (.if_icmp .ne 7, 3, none, [], 68, 0, 0, 0) := z_ftd (by decide +kernel)
theorem t171_64 : z_ft 171 64 = some (.iconst 5, 1, (some []), [], 0, 0, 0, 0) := z_ftd (by decide +kernel)
theorem t171_65 : z_ft 171 65 = some (.goto 5, 3, none, [], 70, 0, 0, 0) := z_ftd (by decide +kernel)
theorem t171_68 : z_ft 171 68 = some (.bipush 6, 2, none, [], 0, 0, 0, 0) := z_ftd (by decide +kernel)
theorem t171_70 : z_ft 171 70 = some (.ireturn, 1, (some []), [], 0, 0, 0, 0) := z_ftd (by decide +kernel)
noncomputable def b171_48 (d : Nat)  (S : z_S) : Option (Int32 × z_S) := zk kI z_X0 d 171 48 [z_j] [] S
noncomputable def b171_64 (d : Nat)  (S : z_S) : Option (Int32 × z_S) := zk kI z_X0 d 171 64 [z_j] [] S
theorem b171_48_eq (d : Nat)  (S : z_S) (hW : z_W S)  : b171_48 d  S = some ((4 : Int32), S) := by
  unfold b171_48
  refine (k_iconst t171_48 rfl zci_4).trans ?_
  refine (k_goto t171_49 rfl).trans ?_
  refine (zk_mk (ls' := [z_j]) t171_70 rfl).trans ?_
  exact k_ireturn t171_70 rfl (by decide)
theorem b171_64_eq (d : Nat)  (S : z_S) (hW : z_W S)  : b171_64 d  S = some ((5 : Int32), S) := by
  unfold b171_64
  refine (k_iconst t171_64 rfl zci_5).trans ?_
  refine (k_goto t171_65 rfl).trans ?_
  refine (zk_mk (ls' := [z_j]) t171_70 rfl).trans ?_
  exact k_ireturn t171_70 rfl (by decide)
-- X12_rank
theorem e171 (d : Nat) (x1 : Int32) (S : z_S) (hW : z_W S)  : fI (d + 1) 171 [.int x1] S = (if ¬ x1 = (42 : Int32) then (if ¬ x1 = (41 : Int32) then (if ¬ x1 = (43 : Int32) then (if x1 = (38 : Int32) then b171_48 d S else (if x1 = (39 : Int32) then b171_48 d S else (if ¬ x1 = (40 : Int32) then (if x1 = (31 : Int32) then b171_64 d S else (if ¬ x1 = (32 : Int32) then some ((6 : Int32), S) else b171_64 d S)) else b171_48 d S))) else some ((3 : Int32), S)) else some ((2 : Int32), S)) else some ((1 : Int32), S)) := by
  refine (fI_en (Nat.le_of_ble_eq_true rfl) rfl).trans ?_
  refine (k_iload_n t171_0 rfl rfl).trans ?_
  refine (k_bipush t171_1 rfl zcb_42).trans ?_
  refine (k_icmp_ne t171_3 rfl).trans (z_ite (fun g1 => ?_) (fun g1 => ?_))
  · refine (k_iload_n t171_10 rfl rfl).trans ?_
    refine (k_bipush t171_11 rfl zcb_41).trans ?_
    refine (k_icmp_ne t171_13 rfl).trans (z_ite (fun g2 => ?_) (fun g2 => ?_))
    · refine (k_iload_n t171_20 rfl rfl).trans ?_
      refine (k_bipush t171_21 rfl zcb_43).trans ?_
      refine (k_icmp_ne t171_23 rfl).trans (z_ite (fun g3 => ?_) (fun g3 => ?_))
      · refine (k_iload_n t171_30 rfl rfl).trans ?_
        refine (k_bipush t171_31 rfl zcb_38).trans ?_
        refine (k_icmp_eq t171_33 rfl).trans (z_ite (fun g4 => ?_) (fun g4 => ?_))
        · exact (zk_mk (ls' := [z_j]) t171_48 rfl)
        · refine (k_iload_n t171_36 rfl rfl).trans ?_
          refine (k_bipush t171_37 rfl zcb_39).trans ?_
          refine (k_icmp_eq t171_39 rfl).trans (z_ite (fun g5 => ?_) (fun g5 => ?_))
          · exact (zk_mk (ls' := [z_j]) t171_48 rfl)
          · refine (k_iload_n t171_42 rfl rfl).trans ?_
            refine (k_bipush t171_43 rfl zcb_40).trans ?_
            refine (k_icmp_ne t171_45 rfl).trans (z_ite (fun g6 => ?_) (fun g6 => ?_))
            · refine (k_iload_n t171_52 rfl rfl).trans ?_
              refine (k_bipush t171_53 rfl zcb_31).trans ?_
              refine (k_icmp_eq t171_55 rfl).trans (z_ite (fun g7 => ?_) (fun g7 => ?_))
              · exact (zk_mk (ls' := [z_j]) t171_64 rfl)
              · refine (k_iload_n t171_58 rfl rfl).trans ?_
                refine (k_bipush t171_59 rfl zcb_32).trans ?_
                refine (k_icmp_ne t171_61 rfl).trans (z_ite (fun g8 => ?_) (fun g8 => ?_))
                · refine (k_bipush t171_68 rfl zcb_6).trans ?_
                  refine (zk_mk (ls' := [z_j]) t171_70 rfl).trans ?_
                  exact k_ireturn t171_70 rfl (by decide)
                · exact (zk_mk (ls' := [z_j]) t171_64 rfl)
            · exact (zk_mk (ls' := [z_j]) t171_48 rfl)
      · refine (k_iconst t171_26 rfl zci_3).trans ?_
        refine (k_goto t171_27 rfl).trans ?_
        refine (zk_mk (ls' := [z_j]) t171_70 rfl).trans ?_
        exact k_ireturn t171_70 rfl (by decide)
    · refine (k_iconst t171_16 rfl zci_2).trans ?_
      refine (k_goto t171_17 rfl).trans ?_
      refine (zk_mk (ls' := [z_j]) t171_70 rfl).trans ?_
      exact k_ireturn t171_70 rfl (by decide)
  · refine (k_iconst t171_6 rfl zci_1).trans ?_
    refine (k_goto t171_7 rfl).trans ?_
    refine (zk_mk (ls' := [z_j]) t171_70 rfl).trans ?_
    exact k_ireturn t171_70 rfl (by decide)
theorem t172_0 : z_ft 172 0 = some (.aload_n 0, 1, (some [0, 1]), [], 0, 0, 0, 0) := z_ftd (by decide +kernel)
theorem t172_1 : z_ft 172 1 = some (.getfield 134, 3, none, [], 12, 40, 41, 0) := z_ftd (by decide +kernel)
theorem t172_4 : z_ft 172 4 = some (.aload_n 0, 1, none, [], 0, 0, 0, 0) := z_ftd (by decide +kernel)
theorem t172_5 : z_ft 172 5 = some (.getfield 122, 3, none, [], 12, 36, 37, 0) := z_ftd (by decide +kernel)
theorem t172_8 : z_ft 172 8 = some (.aload_n 0, 1, none, [], 0, 0, 0, 0) := z_ftd (by decide +kernel)
theorem t172_9 : z_ft 172 9 = some (.getfield 125, 3, none, [], 12, 37, 38, 0) := z_ftd (by decide +kernel)
theorem t172_12 : z_ft 172 12 = some (.iconst 1, 1, none, [], 0, 0, 0, 0) := z_ftd (by decide +kernel)
theorem t172_13 : z_ft 172 13 = some (.isub, 1, none, [], 0, 0, 0, 0) := z_ftd (by decide +kernel)
theorem t172_14 : z_ft 172 14 = some (.iaload, 1, none, [], 0, 0, 0, 0) := z_ftd (by decide +kernel)
theorem t172_15 : z_ft 172 15 = some (.if_icmp .le 72, 3, none, [], 87, 0, 0, 0) := z_ftd (by decide +kernel)
theorem t172_18 : z_ft 172 18 = some (.aload_n 0, 1, none, [], 0, 0, 0, 0) := z_ftd (by decide +kernel)
theorem t172_19 : z_ft 172 19 = some (.getfield 131, 3, none, [], 12, 39, 40, 0) := z_ftd (by decide +kernel)
theorem t172_22 : z_ft 172 22 = some (.aload_n 0, 1, none, [], 0, 0, 0, 0) := z_ftd (by decide +kernel)
theorem t172_23 : z_ft 172 23 = some (.getfield 134, 3, none, [], 12, 40, 41, 0) := z_ftd (by decide +kernel)
theorem t172_26 : z_ft 172 26 = some (.iconst 1, 1, none, [], 0, 0, 0, 0) := z_ftd (by decide +kernel)
theorem t172_27 : z_ft 172 27 = some (.isub, 1, none, [], 0, 0, 0, 0) := z_ftd (by decide +kernel)
theorem t172_28 : z_ft 172 28 = some (.iaload, 1, none, [], 0, 0, 0, 0) := z_ftd (by decide +kernel)
theorem t172_29 : z_ft 172 29 = some (.invokestatic 311, 3, none, [], 171, 0, 132, 0) := z_ftd (by decide +kernel)
theorem t172_32 : z_ft 172 32 = some (.iload_n 1, 1, none, [], 0, 0, 0, 0) := z_ftd (by decide +kernel)
theorem t172_33 : z_ft 172 33 = some (.if_icmp .lt 54, 3, none, [], 87, 0, 0, 0) := z_ftd (by decide +kernel)
theorem t172_36 : z_ft 172 36 = some (.aload_n 0, 1, none, [], 0, 0, 0, 0) := z_ftd (by decide +kernel)
theorem t172_37 : z_ft 172 37 = some (.dup, 1, none, [], 0, 0, 0, 0) := z_ftd (by decide +kernel)
theorem t172_38 : z_ft 172 38 = some (.getfield 134, 3, none, [], 12, 40, 41, 0) := z_ftd (by decide +kernel)
theorem t172_41 : z_ft 172 41 = some (.iconst 1, 1, none, [], 0, 0, 0, 0) := z_ftd (by decide +kernel)
theorem t172_42 : z_ft 172 42 = some (.isub, 1, none, [], 0, 0, 0, 0) := z_ftd (by decide +kernel)
theorem t172_43 : z_ft 172 43 = some (.putfield 134, 3, none, [], 12, 40, 41, 0) := z_ftd (by decide +kernel)
theorem t172_46 : z_ft 172 46 = some (.aload_n 0, 1, none, [], 0, 0, 0, 0) := z_ftd (by decide +kernel)
theorem t172_47 : z_ft 172 47 = some (.aload_n 0, 1, none, [], 0, 0, 0, 0) := z_ftd (by decide +kernel)
theorem t172_48 : z_ft 172 48 = some (.getfield 131, 3, none, [], 12, 39, 40, 0) := z_ftd (by decide +kernel)
theorem t172_51 : z_ft 172 51 = some (.aload_n 0, 1, none, [], 0, 0, 0, 0) := z_ftd (by decide +kernel)
theorem t172_52 : z_ft 172 52 = some (.getfield 134, 3, none, [], 12, 40, 41, 0) := z_ftd (by decide +kernel)
theorem t172_55 : z_ft 172 55 = some (.iaload, 1, none, [], 0, 0, 0, 0) := z_ftd (by decide +kernel)
theorem t172_56 : z_ft 172 56 = some (.iconst 0, 1, none, [], 0, 0, 0, 0) := z_ftd (by decide +kernel)
theorem t172_57 : z_ft 172 57 = some (.invokevirtual 314, 3, none, [], 170, 0, 129, 0) := z_ftd (by decide +kernel)
theorem t172_60 : z_ft 172 60 = some (.aload_n 0, 1, none, [], 0, 0, 0, 0) := z_ftd (by decide +kernel)
theorem t172_61 : z_ft 172 61 = some (.getfield 131, 3, none, [], 12, 39, 40, 0) := z_ftd (by decide +kernel)
theorem t172_64 : z_ft 172 64 = some (.aload_n 0, 1, none, [], 0, 0, 0, 0) := z_ftd (by decide +kernel)
theorem t172_65 : z_ft 172 65 = some (.getfield 134, 3, none, [], 12, 40, 41, 0) := z_ftd (by decide +kernel)
theorem t172_68 : z_ft 172 68 = some (.iaload, 1, none, [], 0, 0, 0, 0) := z_ftd (by decide +kernel)
theorem t172_69 : z_ft 172 69 = some (.bipush 43, 2, none, [], 0, 0, 0, 0) := z_ftd (by decide +kernel)
theorem t172_71 : z_ft 172 71 = some (.if_icmp .ne (-71), 3, none, [], 0, 0, 0, 0) := z_ftd (by decide +kernel)
theorem t172_74 : z_ft 172 74 = some (.aload_n 0, 1, none, [], 0, 0, 0, 0) := z_ftd (by decide +kernel)
theorem t172_75 : z_ft 172 75 = some (.dup, 1, none, [], 0, 0, 0, 0) := z_ftd (by decide +kernel)
theorem t172_76 : z_ft 172 76 = some (.getfield 128, 3, none, [], 12, 38, 39, 0) := z_ftd (by decide +kernel)
theorem t172_79 : z_ft 172 79 = some (.iconst 1, 1, none, [], 0, 0, 0, 0) := z_ftd (by decide +kernel)
theorem t172_80 : z_ft 172 80 = some (.isub, 1, none, [], 0, 0, 0, 0) := z_ftd (by decide +kernel)
theorem t172_81 : z_ft 172 81 = some (.putfield 128, 3, none, [], 12, 38, 39, 0) := z_ftd (by decide +kernel)
theorem t172_84 : z_ft 172 84 = some (.goto (-84), 3, none, [], 0, 0, 0, 0) := z_ftd (by decide +kernel)
theorem t172_87 : z_ft 172 87 = some (.return_, 1, (some []), [], 0, 0, 0, 0) := z_ftd (by decide +kernel)
noncomputable def b172_0 (d : Nat) (y1 : Int32) (S : z_S) : Option z_S := zk kV z_X0 d 172 0 [.ref 396, .int y1] [] S
theorem b172_0_eq (d : Nat) (y1 : Int32) (S : z_S) (hW : z_W S)  : b172_0 d y1 S = (if z_in ((gI S 396 37) - (1 : Int32)) 20 then (if (gI S 396 40) ≤ (gI S 417 (((gI S 396 37) - (1 : Int32))).toNatClampNeg) then some S else (if z_in ((gI S 396 40) - (1 : Int32)) 500 then (zb (fI d 171 [.int (gI S 418 (((gI S 396 40) - (1 : Int32))).toNatClampNeg)] S) fun v4 S5 => (if v4 < y1 then some S5 else (if z_in (gI (sI S5 396 40 ((gI S5 396 40) - (1 : Int32))) 396 40) 500 then ((fV d 170 [.ref 396, .int (gI (sI S5 396 40 ((gI S5 396 40) - (1 : Int32))) 418 ((gI (sI S5 396 40 ((gI S5 396 40) - (1 : Int32))) 396 40)).toNatClampNeg), .int (0 : Int32)] (sI S5 396 40 ((gI S5 396 40) - (1 : Int32)))).bind fun S9 => (if z_in (gI S9 396 40) 500 then (if ¬ (gI S9 418 ((gI S9 396 40)).toNatClampNeg) = (43 : Int32) then b172_0 d y1 S9 else b172_0 d y1 (sI S9 396 38 ((gI S9 396 38) - (1 : Int32)))) else none)) else none))) else none)) else none) := by
  unfold b172_0
  refine (k_aload_n t172_0 rfl rfl).trans ?_
  refine (k_getI t172_1 rfl hW zK_396 (by decide) (by decide)).trans ?_
  refine (k_aload_n t172_4 rfl rfl).trans ?_
  refine (k_getR t172_5 rfl hW zK_396 (by decide) (by decide) (zF_396_36 hW)).trans ?_
  refine (k_aload_n t172_8 rfl rfl).trans ?_
  refine (k_getI t172_9 rfl hW zK_396 (by decide) (by decide)).trans ?_
  refine (k_iconst t172_12 rfl zci_1).trans ?_
  refine (k_isub t172_13 rfl).trans ?_
  refine (k_iald t172_14 rfl hW zK_417 zL_417).trans (z_ite (fun g1 => ?_) (fun _ => rfl))
  refine (k_icmp_le t172_15 rfl).trans (z_ite (fun g2 => ?_) (fun g2 => ?_))
  · refine (zk_mk (ls' := [z_j, z_j]) t172_87 rfl).trans ?_
    exact k_return t172_87 rfl (by decide)
  · refine (k_aload_n t172_18 rfl rfl).trans ?_
    refine (k_getR t172_19 rfl hW zK_396 (by decide) (by decide) (zF_396_39 hW)).trans ?_
    refine (k_aload_n t172_22 rfl rfl).trans ?_
    refine (k_getI t172_23 rfl hW zK_396 (by decide) (by decide)).trans ?_
    refine (k_iconst t172_26 rfl zci_1).trans ?_
    refine (k_isub t172_27 rfl).trans ?_
    refine (k_iald t172_28 rfl hW zK_418 zL_418).trans (z_ite (fun g3 => ?_) (fun _ => rfl))
    refine k_callI (as := [.int (gI S 418 (((gI S 396 40) - (1 : Int32))).toNatClampNeg)]) (rest := []) t172_29 rfl rfl (by decide) rfl rfl (Nat.le_of_ble_eq_true rfl) rfl (z_rcS (by decide)) (by decide) (Or.inl (by decide)) hW (fun v4 S5 hW5 => ?_)
    refine (k_iload_n t172_32 rfl rfl).trans ?_
    refine (k_icmp_lt t172_33 rfl).trans (z_ite (fun g6 => ?_) (fun g6 => ?_))
    · refine (zk_mk (ls' := [z_j, z_j]) t172_87 rfl).trans ?_
      exact k_return t172_87 rfl (by decide)
    · refine (k_aload_n t172_36 rfl rfl).trans ?_
      refine (k_dupR t172_37 rfl).trans ?_
      refine (k_getI t172_38 rfl hW5 zK_396 (by decide) (by decide)).trans ?_
      refine (k_iconst t172_41 rfl zci_1).trans ?_
      refine (k_isub t172_42 rfl).trans ?_
      refine (k_putI t172_43 rfl hW5 zK_396 (by decide) (by decide) (by decide)).trans ?_
      refine (k_aload_n t172_46 rfl rfl).trans ?_
      refine (k_aload_n t172_47 rfl rfl).trans ?_
      refine (k_getR t172_48 rfl hW5.sI zK_396 (by decide) (by decide) (zF_396_39 hW5.sI)).trans ?_
      refine (k_aload_n t172_51 rfl rfl).trans ?_
      refine (k_getI t172_52 rfl hW5.sI zK_396 (by decide) (by decide)).trans ?_
      refine (k_iald t172_55 rfl hW5.sI zK_418 zL_418).trans (z_ite (fun g7 => ?_) (fun _ => rfl))
      refine (k_iconst t172_56 rfl zci_0).trans ?_
      refine k_callV (as := [.ref 396, .int (gI (sI S5 396 40 ((gI S5 396 40) - (1 : Int32))) 418 ((gI (sI S5 396 40 ((gI S5 396 40) - (1 : Int32))) 396 40)).toNatClampNeg), .int (0 : Int32)]) (rest := []) t172_57 rfl rfl (by decide) rfl rfl (Nat.le_of_ble_eq_true rfl) rfl (z_rcV hW5.sI (zK_396) (by decide)) (by decide) (by decide) hW5.sI (fun S9 hW9 => ?_)
      refine (k_aload_n t172_60 rfl rfl).trans ?_
      refine (k_getR t172_61 rfl hW9 zK_396 (by decide) (by decide) (zF_396_39 hW9)).trans ?_
      refine (k_aload_n t172_64 rfl rfl).trans ?_
      refine (k_getI t172_65 rfl hW9 zK_396 (by decide) (by decide)).trans ?_
      refine (k_iald t172_68 rfl hW9 zK_418 zL_418).trans (z_ite (fun g10 => ?_) (fun _ => rfl))
      refine (k_bipush t172_69 rfl zcb_43).trans ?_
      refine (k_icmp_ne t172_71 rfl).trans (z_ite (fun g11 => ?_) (fun g11 => ?_))
      · exact (zk_mk (ls' := [.ref 396, .int y1]) t172_0 rfl)
      · refine (k_aload_n t172_74 rfl rfl).trans ?_
        refine (k_dupR t172_75 rfl).trans ?_
        refine (k_getI t172_76 rfl hW9 zK_396 (by decide) (by decide)).trans ?_
        refine (k_iconst t172_79 rfl zci_1).trans ?_
        refine (k_isub t172_80 rfl).trans ?_
        refine (k_putI t172_81 rfl hW9 zK_396 (by decide) (by decide) (by decide)).trans ?_
        refine (k_goto t172_84 rfl).trans ?_
        exact (zk_mk (ls' := [.ref 396, .int y1]) t172_0 rfl)
-- X12_joins
theorem e172 (d : Nat) (x1 : Int32) (S : z_S) (hW : z_W S)  : fV (d + 1) 172 [.ref 396, .int x1] S = b172_0 d x1 S := by
  refine (fV_en (Nat.le_of_ble_eq_true rfl) rfl).trans ?_
  exact (zk_mk (ls' := [.ref 396, .int x1]) t172_0 rfl)
theorem t173_0 : z_ft 173 0 = some (.aload_n 0, 1, none, [], 0, 0, 0, 0) := z_ftd (by decide +kernel)
theorem t173_1 : z_ft 173 1 = some (.getfield 131, 3, none, [], 12, 39, 40, 0) := z_ftd (by decide +kernel)
theorem t173_4 : z_ft 173 4 = some (.aload_n 0, 1, none, [], 0, 0, 0, 0) := z_ftd (by decide +kernel)
theorem t173_5 : z_ft 173 5 = some (.getfield 134, 3, none, [], 12, 40, 41, 0) := z_ftd (by decide +kernel)
theorem t173_8 : z_ft 173 8 = some (.iload_n 1, 1, none, [], 0, 0, 0, 0) := z_ftd (by decide +kernel)
theorem t173_9 : z_ft 173 9 = some (.iastore, 1, none, [], 0, 0, 0, 0) := z_ftd (by decide +kernel)
theorem t173_10 : z_ft 173 10 = some (.aload_n 0, 1, none, [], 0, 0, 0, 0) := z_ftd (by decide +kernel)
theorem t173_11 : z_ft 173 11 = some (.dup, 1, none, [], 0, 0, 0, 0) := z_ftd (by decide +kernel)
theorem t173_12 : z_ft 173 12 = some (.getfield 134, 3, none, [], 12, 40, 41, 0) := z_ftd (by decide +kernel)
theorem t173_15 : z_ft 173 15 = some (.iconst 1, 1, none, [], 0, 0, 0, 0) := z_ftd (by decide +kernel)
theorem t173_16 : z_ft 173 16 = some (.iadd, 1, none, [], 0, 0, 0, 0) := z_ftd (by decide +kernel)
theorem t173_17 : z_ft 173 17 = some (.putfield 134, 3, none, [], 12, 40, 41, 0) := z_ftd (by decide +kernel)
theorem t173_20 : z_ft 173 20 = some (.return_, 1, none, [], 0, 0, 0, 0) := z_ftd (by decide +kernel)
-- X12_holdsBack
theorem e173 (d : Nat) (x1 : Int32) (S : z_S) (hW : z_W S)  : fV (d + 1) 173 [.ref 396, .int x1] S = (if z_in (gI S 396 40) 500 then some (sI (sI S 418 ((gI S 396 40)).toNatClampNeg x1) 396 40 ((gI (sI S 418 ((gI S 396 40)).toNatClampNeg x1) 396 40) + (1 : Int32))) else none) := by
  refine (fV_en (Nat.le_of_ble_eq_true rfl) rfl).trans ?_
  refine (k_aload_n t173_0 rfl rfl).trans ?_
  refine (k_getR t173_1 rfl hW zK_396 (by decide) (by decide) (zF_396_39 hW)).trans ?_
  refine (k_aload_n t173_4 rfl rfl).trans ?_
  refine (k_getI t173_5 rfl hW zK_396 (by decide) (by decide)).trans ?_
  refine (k_iload_n t173_8 rfl rfl).trans ?_
  refine (k_iast t173_9 rfl hW zK_418 zL_418).trans (z_ite (fun g1 => ?_) (fun _ => rfl))
  refine (k_aload_n t173_10 rfl rfl).trans ?_
  refine (k_dupR t173_11 rfl).trans ?_
  refine (k_getI t173_12 rfl hW.sI zK_396 (by decide) (by decide)).trans ?_
  refine (k_iconst t173_15 rfl zci_1).trans ?_
  refine (k_iadd t173_16 rfl).trans ?_
  refine (k_putI t173_17 rfl hW.sI zK_396 (by decide) (by decide) (by decide)).trans ?_
  exact k_return t173_20 rfl (by decide)
theorem t174_0 : z_ft 174 0 = some (.aload_n 0, 1, none, [], 0, 0, 0, 0) := z_ftd (by decide +kernel)
theorem t174_1 : z_ft 174 1 = some (.getfield 109, 3, none, [], 12, 32, 33, 0) := z_ftd (by decide +kernel)
theorem t174_4 : z_ft 174 4 = some (.aload_n 0, 1, none, [], 0, 0, 0, 0) := z_ftd (by decide +kernel)
theorem t174_5 : z_ft 174 5 = some (.getfield 125, 3, none, [], 12, 37, 38, 0) := z_ftd (by decide +kernel)
theorem t174_8 : z_ft 174 8 = some (.iload_n 1, 1, none, [], 0, 0, 0, 0) := z_ftd (by decide +kernel)
theorem t174_9 : z_ft 174 9 = some (.iastore, 1, none, [], 0, 0, 0, 0) := z_ftd (by decide +kernel)
theorem t174_10 : z_ft 174 10 = some (.aload_n 0, 1, none, [], 0, 0, 0, 0) := z_ftd (by decide +kernel)
theorem t174_11 : z_ft 174 11 = some (.getfield 112, 3, none, [], 12, 33, 34, 0) := z_ftd (by decide +kernel)
theorem t174_14 : z_ft 174 14 = some (.aload_n 0, 1, none, [], 0, 0, 0, 0) := z_ftd (by decide +kernel)
theorem t174_15 : z_ft 174 15 = some (.getfield 125, 3, none, [], 12, 37, 38, 0) := z_ftd (by decide +kernel)
theorem t174_18 : z_ft 174 18 = some (.iconst 0, 1, none, [], 0, 0, 0, 0) := z_ftd (by decide +kernel)
theorem t174_19 : z_ft 174 19 = some (.iastore, 1, none, [], 0, 0, 0, 0) := z_ftd (by decide +kernel)
theorem t174_20 : z_ft 174 20 = some (.aload_n 0, 1, none, [], 0, 0, 0, 0) := z_ftd (by decide +kernel)
theorem t174_21 : z_ft 174 21 = some (.getfield 115, 3, none, [], 12, 34, 35, 0) := z_ftd (by decide +kernel)
theorem t174_24 : z_ft 174 24 = some (.aload_n 0, 1, none, [], 0, 0, 0, 0) := z_ftd (by decide +kernel)
theorem t174_25 : z_ft 174 25 = some (.getfield 125, 3, none, [], 12, 37, 38, 0) := z_ftd (by decide +kernel)
theorem t174_28 : z_ft 174 28 = some (.iconst 1, 1, none, [], 0, 0, 0, 0) := z_ftd (by decide +kernel)
theorem t174_29 : z_ft 174 29 = some (.bastore, 1, none, [], 0, 0, 0, 0) := z_ftd (by decide +kernel)
theorem t174_30 : z_ft 174 30 = some (.aload_n 0, 1, none, [], 0, 0, 0, 0) := z_ftd (by decide +kernel)
theorem t174_31 : z_ft 174 31 = some (.getfield 122, 3, none, [], 12, 36, 37, 0) := z_ftd (by decide +kernel)
theorem t174_34 : z_ft 174 34 = some (.aload_n 0, 1, none, [], 0, 0, 0, 0) := z_ftd (by decide +kernel)
theorem t174_35 : z_ft 174 35 = some (.getfield 125, 3, none, [], 12, 37, 38, 0) := z_ftd (by decide +kernel)
theorem t174_38 : z_ft 174 38 = some (.aload_n 0, 1, none, [], 0, 0, 0, 0) := z_ftd (by decide +kernel)
theorem t174_39 : z_ft 174 39 = some (.getfield 134, 3, none, [], 12, 40, 41, 0) := z_ftd (by decide +kernel)
theorem t174_42 : z_ft 174 42 = some (.iastore, 1, none, [], 0, 0, 0, 0) := z_ftd (by decide +kernel)
theorem t174_43 : z_ft 174 43 = some (.aload_n 0, 1, none, [], 0, 0, 0, 0) := z_ftd (by decide +kernel)
theorem t174_44 : z_ft 174 44 = some (.dup, 1, none, [], 0, 0, 0, 0) := z_ftd (by decide +kernel)
theorem t174_45 : z_ft 174 45 = some (.getfield 125, 3, none, [], 12, 37, 38, 0) := z_ftd (by decide +kernel)
theorem t174_48 : z_ft 174 48 = some (.iconst 1, 1, none, [], 0, 0, 0, 0) := z_ftd (by decide +kernel)
theorem t174_49 : z_ft 174 49 = some (.iadd, 1, none, [], 0, 0, 0, 0) := z_ftd (by decide +kernel)
theorem t174_50 : z_ft 174 50 = some (.putfield 125, 3, none, [], 12, 37, 38, 0) := z_ftd (by decide +kernel)
theorem t174_53 : z_ft 174 53 = some (.return_, 1, none, [], 0, 0, 0, 0) := z_ftd (by decide +kernel)
-- X12_pushes
theorem e174 (d : Nat) (x1 : Int32) (S : z_S) (hW : z_W S)  : fV (d + 1) 174 [.ref 396, .int x1] S = (if z_in (gI S 396 37) 20 then (if z_in (gI (sI S 413 ((gI S 396 37)).toNatClampNeg x1) 396 37) 20 then (if z_in (gI (sI (sI S 413 ((gI S 396 37)).toNatClampNeg x1) 414 ((gI (sI S 413 ((gI S 396 37)).toNatClampNeg x1) 396 37)).toNatClampNeg (0 : Int32)) 396 37) 20 ∧ ((1 : Int32) = 0 ∨ (1 : Int32) = 1) then (if z_in (gI (sI (sI (sI S 413 ((gI S 396 37)).toNatClampNeg x1) 414 ((gI (sI S 413 ((gI S 396 37)).toNatClampNeg x1) 396 37)).toNatClampNeg (0 : Int32)) 415 ((gI (sI (sI S 413 ((gI S 396 37)).toNatClampNeg x1) 414 ((gI (sI S 413 ((gI S 396 37)).toNatClampNeg x1) 396 37)).toNatClampNeg (0 : Int32)) 396 37)).toNatClampNeg (1 : Int32)) 396 37) 20 then some (sI (sI (sI (sI (sI S 413 ((gI S 396 37)).toNatClampNeg x1) 414 ((gI (sI S 413 ((gI S 396 37)).toNatClampNeg x1) 396 37)).toNatClampNeg (0 : Int32)) 415 ((gI (sI (sI S 413 ((gI S 396 37)).toNatClampNeg x1) 414 ((gI (sI S 413 ((gI S 396 37)).toNatClampNeg x1) 396 37)).toNatClampNeg (0 : Int32)) 396 37)).toNatClampNeg (1 : Int32)) 417 ((gI (sI (sI (sI S 413 ((gI S 396 37)).toNatClampNeg x1) 414 ((gI (sI S 413 ((gI S 396 37)).toNatClampNeg x1) 396 37)).toNatClampNeg (0 : Int32)) 415 ((gI (sI (sI S 413 ((gI S 396 37)).toNatClampNeg x1) 414 ((gI (sI S 413 ((gI S 396 37)).toNatClampNeg x1) 396 37)).toNatClampNeg (0 : Int32)) 396 37)).toNatClampNeg (1 : Int32)) 396 37)).toNatClampNeg (gI (sI (sI (sI S 413 ((gI S 396 37)).toNatClampNeg x1) 414 ((gI (sI S 413 ((gI S 396 37)).toNatClampNeg x1) 396 37)).toNatClampNeg (0 : Int32)) 415 ((gI (sI (sI S 413 ((gI S 396 37)).toNatClampNeg x1) 414 ((gI (sI S 413 ((gI S 396 37)).toNatClampNeg x1) 396 37)).toNatClampNeg (0 : Int32)) 396 37)).toNatClampNeg (1 : Int32)) 396 40)) 396 37 ((gI (sI (sI (sI (sI S 413 ((gI S 396 37)).toNatClampNeg x1) 414 ((gI (sI S 413 ((gI S 396 37)).toNatClampNeg x1) 396 37)).toNatClampNeg (0 : Int32)) 415 ((gI (sI (sI S 413 ((gI S 396 37)).toNatClampNeg x1) 414 ((gI (sI S 413 ((gI S 396 37)).toNatClampNeg x1) 396 37)).toNatClampNeg (0 : Int32)) 396 37)).toNatClampNeg (1 : Int32)) 417 ((gI (sI (sI (sI S 413 ((gI S 396 37)).toNatClampNeg x1) 414 ((gI (sI S 413 ((gI S 396 37)).toNatClampNeg x1) 396 37)).toNatClampNeg (0 : Int32)) 415 ((gI (sI (sI S 413 ((gI S 396 37)).toNatClampNeg x1) 414 ((gI (sI S 413 ((gI S 396 37)).toNatClampNeg x1) 396 37)).toNatClampNeg (0 : Int32)) 396 37)).toNatClampNeg (1 : Int32)) 396 37)).toNatClampNeg (gI (sI (sI (sI S 413 ((gI S 396 37)).toNatClampNeg x1) 414 ((gI (sI S 413 ((gI S 396 37)).toNatClampNeg x1) 396 37)).toNatClampNeg (0 : Int32)) 415 ((gI (sI (sI S 413 ((gI S 396 37)).toNatClampNeg x1) 414 ((gI (sI S 413 ((gI S 396 37)).toNatClampNeg x1) 396 37)).toNatClampNeg (0 : Int32)) 396 37)).toNatClampNeg (1 : Int32)) 396 40)) 396 37) + (1 : Int32))) else none) else none) else none) else none) := by
  refine (fV_en (Nat.le_of_ble_eq_true rfl) rfl).trans ?_
  refine (k_aload_n t174_0 rfl rfl).trans ?_
  refine (k_getR t174_1 rfl hW zK_396 (by decide) (by decide) (zF_396_32 hW)).trans ?_
  refine (k_aload_n t174_4 rfl rfl).trans ?_
  refine (k_getI t174_5 rfl hW zK_396 (by decide) (by decide)).trans ?_
  refine (k_iload_n t174_8 rfl rfl).trans ?_
  refine (k_iast t174_9 rfl hW zK_413 zL_413).trans (z_ite (fun g1 => ?_) (fun _ => rfl))
  refine (k_aload_n t174_10 rfl rfl).trans ?_
  refine (k_getR t174_11 rfl hW.sI zK_396 (by decide) (by decide) (zF_396_33 hW.sI)).trans ?_
  refine (k_aload_n t174_14 rfl rfl).trans ?_
  refine (k_getI t174_15 rfl hW.sI zK_396 (by decide) (by decide)).trans ?_
  refine (k_iconst t174_18 rfl zci_0).trans ?_
  refine (k_iast t174_19 rfl hW.sI zK_414 zL_414).trans (z_ite (fun g2 => ?_) (fun _ => rfl))
  refine (k_aload_n t174_20 rfl rfl).trans ?_
  refine (k_getR t174_21 rfl hW.sI.sI zK_396 (by decide) (by decide) (zF_396_34 hW.sI.sI)).trans ?_
  refine (k_aload_n t174_24 rfl rfl).trans ?_
  refine (k_getI t174_25 rfl hW.sI.sI zK_396 (by decide) (by decide)).trans ?_
  refine (k_iconst t174_28 rfl zci_1).trans ?_
  refine (k_zast t174_29 rfl hW.sI.sI zK_415 zL_415).trans (z_ite (fun g3 => ?_) (fun _ => rfl))
  refine (k_aload_n t174_30 rfl rfl).trans ?_
  refine (k_getR t174_31 rfl hW.sI.sI.sI zK_396 (by decide) (by decide) (zF_396_36 hW.sI.sI.sI)).trans ?_
  refine (k_aload_n t174_34 rfl rfl).trans ?_
  refine (k_getI t174_35 rfl hW.sI.sI.sI zK_396 (by decide) (by decide)).trans ?_
  refine (k_aload_n t174_38 rfl rfl).trans ?_
  refine (k_getI t174_39 rfl hW.sI.sI.sI zK_396 (by decide) (by decide)).trans ?_
  refine (k_iast t174_42 rfl hW.sI.sI.sI zK_417 zL_417).trans (z_ite (fun g4 => ?_) (fun _ => rfl))
  refine (k_aload_n t174_43 rfl rfl).trans ?_
  refine (k_dupR t174_44 rfl).trans ?_
  refine (k_getI t174_45 rfl hW.sI.sI.sI.sI zK_396 (by decide) (by decide)).trans ?_
  refine (k_iconst t174_48 rfl zci_1).trans ?_
  refine (k_iadd t174_49 rfl).trans ?_
  refine (k_putI t174_50 rfl hW.sI.sI.sI.sI zK_396 (by decide) (by decide) (by decide)).trans ?_
  exact k_return t174_53 rfl (by decide)
theorem t175_0 : z_ft 175 0 = some (.aload_n 0, 1, none, [], 0, 0, 0, 0) := z_ftd (by decide +kernel)
theorem t175_1 : z_ft 175 1 = some (.getfield 128, 3, none, [], 12, 38, 39, 0) := z_ftd (by decide +kernel)
theorem t175_4 : z_ft 175 4 = some (.bipush 7, 2, none, [], 0, 0, 0, 0) := z_ftd (by decide +kernel)
theorem t175_6 : z_ft 175 6 = some (.if_icmp .ne 12, 3, none, [], 18, 0, 0, 0) := z_ftd (by decide +kernel)
theorem t175_9 : z_ft 175 9 = some (.aload_n 0, 1, none, [], 0, 0, 0, 0) := z_ftd (by decide +kernel)
theorem t175_10 : z_ft 175 10 = some (.iconst 5, 1, none, [], 0, 0, 0, 0) := z_ftd (by decide +kernel)
theorem t175_11 : z_ft 175 11 = some (.aload_n 0, 1, none, [], 0, 0, 0, 0) := z_ftd (by decide +kernel)
theorem t175_12 : z_ft 175 12 = some (.getfield 23, 3, none, [], 12, 4, 5, 0) := z_ftd (by decide +kernel)
theorem t175_15 : z_ft 175 15 = some (.invokevirtual 239, 3, none, [], 159, 0, 82, 0) := z_ftd (by decide +kernel)
theorem t175_18 : z_ft 175 18 = some (.aload_n 0, 1, (some [0, 1]), [], 0, 0, 0, 0) := z_ftd (by decide +kernel)
theorem t175_19 : z_ft 175 19 = some (.getfield 36, 3, none, [], 12, 8, 9, 0) := z_ftd (by decide +kernel)
theorem t175_22 : z_ft 175 22 = some (.ifCond .le 4, 3, none, [], 26, 0, 0, 0) := z_ftd (by decide +kernel)
theorem t175_25 : z_ft 175 25 = some (.return_, 1, none, [], 0, 0, 0, 0) := z_ftd (by decide +kernel)
theorem t175_26 : z_ft 175 26 = some (.aload_n 0, 1, none, [], 0, 0, 0, 0) := z_ftd (by decide +kernel)
theorem t175_27 : z_ft 175 27 = some (.dup, 1, none, [], 0, 0, 0, 0) := z_ftd (by decide +kernel)
theorem t175_28 : z_ft 175 28 = some (.getfield 128, 3, none, [], 12, 38, 39, 0) := z_ftd (by decide +kernel)
theorem t175_31 : z_ft 175 31 = some (.iconst 1, 1, none, [], 0, 0, 0, 0) := z_ftd (by decide +kernel)
theorem t175_32 : z_ft 175 32 = some (.iadd, 1, none, [], 0, 0, 0, 0) := z_ftd (by decide +kernel)
theorem t175_33 : z_ft 175 33 = some (.putfield 128, 3, none, [], 12, 38, 39, 0) := z_ftd (by decide +kernel)
theorem t175_36 : z_ft 175 36 = some (.aload_n 0, 1, none, [], 0, 0, 0, 0) := z_ftd (by decide +kernel)
theorem t175_37 : z_ft 175 37 = some (.invokevirtual 256, 3, none, [], 163, 0, 75, 0) := z_ftd (by decide +kernel)
theorem t175_40 : z_ft 175 40 = some (.aload_n 0, 1, none, [], 0, 0, 0, 0) := z_ftd (by decide +kernel)
theorem t175_41 : z_ft 175 41 = some (.iload_n 1, 1, none, [], 0, 0, 0, 0) := z_ftd (by decide +kernel)
theorem t175_42 : z_ft 175 42 = some (.invokevirtual 317, 3, none, [], 174, 0, 124, 0) := z_ftd (by decide +kernel)
theorem t175_45 : z_ft 175 45 = some (.return_, 1, none, [], 0, 0, 0, 0) := z_ftd (by decide +kernel)
noncomputable def b175_18 (d : Nat) (y1 : Int32) (S : z_S) : Option z_S := zk kV z_X0 d 175 18 [.ref 396, .int y1] [] S
theorem b175_18_eq (d : Nat) (y1 : Int32) (S : z_S) (hW : z_W S)  : b175_18 d y1 S = (if (gI S 396 8) ≤ (0 : Int32) then ((fV d 163 [.ref 396] (sI S 396 38 ((gI S 396 38) + (1 : Int32)))).bind fun S6 => ((fV d 174 [.ref 396, .int y1] S6).bind fun S8 => some S8)) else some S) := by
  unfold b175_18
  refine (k_aload_n t175_18 rfl rfl).trans ?_
  refine (k_getI t175_19 rfl hW zK_396 (by decide) (by decide)).trans ?_
  refine (k_if_le t175_22 rfl).trans (z_ite (fun g4 => ?_) (fun g4 => ?_))
  · refine (k_aload_n t175_26 rfl rfl).trans ?_
    refine (k_dupR t175_27 rfl).trans ?_
    refine (k_getI t175_28 rfl hW zK_396 (by decide) (by decide)).trans ?_
    refine (k_iconst t175_31 rfl zci_1).trans ?_
    refine (k_iadd t175_32 rfl).trans ?_
    refine (k_putI t175_33 rfl hW zK_396 (by decide) (by decide) (by decide)).trans ?_
    refine (k_aload_n t175_36 rfl rfl).trans ?_
    refine k_callV (as := [.ref 396]) (rest := []) t175_37 rfl rfl (by decide) rfl rfl (Nat.le_of_ble_eq_true rfl) rfl (z_rcV hW.sI (zK_396) (by decide)) (by decide) (by decide) hW.sI (fun S6 hW6 => ?_)
    refine (k_aload_n t175_40 rfl rfl).trans ?_
    refine (k_iload_n t175_41 rfl rfl).trans ?_
    refine k_callV (as := [.ref 396, .int y1]) (rest := []) t175_42 rfl rfl (by decide) rfl rfl (Nat.le_of_ble_eq_true rfl) rfl (z_rcV hW6 (zK_396) (by decide)) (by decide) (by decide) hW6 (fun S8 hW8 => ?_)
    exact k_return t175_45 rfl (by decide)
  · exact k_return t175_25 rfl (by decide)
-- X12_opens
theorem e175 (d : Nat) (x1 : Int32) (S : z_S) (hW : z_W S)  : fV (d + 1) 175 [.ref 396, .int x1] S = (if ¬ (gI S 396 38) = (7 : Int32) then b175_18 d x1 S else ((fV d 159 [.ref 396, .int (5 : Int32), .int (gI S 396 4)] S).bind fun S3 => b175_18 d x1 S3)) := by
  refine (fV_en (Nat.le_of_ble_eq_true rfl) rfl).trans ?_
  refine (k_aload_n t175_0 rfl rfl).trans ?_
  refine (k_getI t175_1 rfl hW zK_396 (by decide) (by decide)).trans ?_
  refine (k_bipush t175_4 rfl zcb_7).trans ?_
  refine (k_icmp_ne t175_6 rfl).trans (z_ite (fun g1 => ?_) (fun g1 => ?_))
  · exact (zk_mk (ls' := [.ref 396, .int x1]) t175_18 rfl)
  · refine (k_aload_n t175_9 rfl rfl).trans ?_
    refine (k_iconst t175_10 rfl zci_5).trans ?_
    refine (k_aload_n t175_11 rfl rfl).trans ?_
    refine (k_getI t175_12 rfl hW zK_396 (by decide) (by decide)).trans ?_
    refine k_callV (as := [.ref 396, .int (5 : Int32), .int (gI S 396 4)]) (rest := []) t175_15 rfl rfl (by decide) rfl rfl (Nat.le_of_ble_eq_true rfl) rfl (z_rcV hW (zK_396) (by decide)) (by decide) (by decide) hW (fun S3 hW3 => ?_)
    exact (zk_mk (ls' := [.ref 396, .int x1]) t175_18 rfl)
theorem t176_0 : z_ft 176 0 = some (.iload_n 0, 1, none, [], 0, 0, 0, 0) := z_ftd (by decide +kernel)
theorem t176_1 : z_ft 176 1 = some (.iconst 1, 1, none, [], 0, 0, 0, 0) := z_ftd (by decide +kernel)
theorem t176_2 : z_ft 176 2 = some (.if_icmp .eq 14, 3, none, [], 16, 0, 0, 0) := z_ftd (by decide +kernel)
theorem t176_5 : z_ft 176 5 = some (.iload_n 0, 1, none, [], 0, 0, 0, 0) := z_ftd (by decide +kernel)
theorem t176_6 : z_ft 176 6 = some (.iconst 5, 1, none, [], 0, 0, 0, 0) := z_ftd (by decide +kernel)
theorem t176_7 : z_ft 176 7 = some (.if_icmp .eq 9, 3, none, [], 16, 0, 0, 0) := z_ftd (by decide +kernel)
theorem t176_10 : z_ft 176 10 = some (.iload_n 0, 1, none, [], 0, 0, 0, 0) := z_ftd (by decide +kernel)
theorem t176_11 : z_ft 176 11 = some (.bipush 6, 2, none, [], 0, 0, 0, 0) := z_ftd (by decide +kernel)
theorem t176_13 : z_ft 176 13 = some (.if_icmp .ne 7, 3, none, [], 20, 0, 0, 0) := z_ftd (by decide +kernel)
theorem t176_16 : z_ft 176 16 = some (.iconst 1, 1, (some []), [], 0, 0, 0, 0) := z_ftd (by decide +kernel)
theorem t176_17 : z_ft 176 17 = some (.goto 4, 3, none, [], 21, 0, 0, 0) := z_ftd (by decide +kernel)
theorem t176_20 : z_ft 176 20 = some (.iconst 0, 1, none, [], 0, 0, 0, 0) := z_ftd (by decide +kernel)
theorem t176_21 : z_ft 176 21 = some (.ireturn, 1, (some []), [], 0, 0, 0, 0) := z_ftd (by decide +kernel)
noncomputable def b176_16 (d : Nat)  (S : z_S) : Option (Int32 × z_S) := zk kI z_X0 d 176 16 [z_j] [] S
theorem b176_16_eq (d : Nat)  (S : z_S) (hW : z_W S)  : b176_16 d  S = some ((1 : Int32), S) := by
  unfold b176_16
  refine (k_iconst t176_16 rfl zci_1).trans ?_
  refine (k_goto t176_17 rfl).trans ?_
  refine (zk_mk (ls' := [z_j]) t176_21 rfl).trans ?_
  exact k_zretC t176_21 rfl (by decide) (by decide)
-- X12_isTest
theorem e176 (d : Nat) (x1 : Int32) (S : z_S) (hW : z_W S)  : fI (d + 1) 176 [.int x1] S = (if x1 = (1 : Int32) then b176_16 d S else (if x1 = (5 : Int32) then b176_16 d S else (if ¬ x1 = (6 : Int32) then some ((0 : Int32), S) else b176_16 d S))) := by
  refine (fI_en (Nat.le_of_ble_eq_true rfl) rfl).trans ?_
  refine (k_iload_n t176_0 rfl rfl).trans ?_
  refine (k_iconst t176_1 rfl zci_1).trans ?_
  refine (k_icmp_eq t176_2 rfl).trans (z_ite (fun g1 => ?_) (fun g1 => ?_))
  · exact (zk_mk (ls' := [z_j]) t176_16 rfl)
  · refine (k_iload_n t176_5 rfl rfl).trans ?_
    refine (k_iconst t176_6 rfl zci_5).trans ?_
    refine (k_icmp_eq t176_7 rfl).trans (z_ite (fun g2 => ?_) (fun g2 => ?_))
    · exact (zk_mk (ls' := [z_j]) t176_16 rfl)
    · refine (k_iload_n t176_10 rfl rfl).trans ?_
      refine (k_bipush t176_11 rfl zcb_6).trans ?_
      refine (k_icmp_ne t176_13 rfl).trans (z_ite (fun g3 => ?_) (fun g3 => ?_))
      · refine (k_iconst t176_20 rfl zci_0).trans ?_
        refine (zk_mk (ls' := [z_j]) t176_21 rfl).trans ?_
        exact k_zretC t176_21 rfl (by decide) (by decide)
      · exact (zk_mk (ls' := [z_j]) t176_16 rfl)
theorem t177_0 : z_ft 177 0 = some (.aload_n 0, 1, none, [], 0, 0, 0, 0) := z_ftd (by decide +kernel)
theorem t177_1 : z_ft 177 1 = some (.invokevirtual 250, 3, none, [], 162, 0, 81, 0) := z_ftd (by decide +kernel)
theorem t177_4 : z_ft 177 4 = some (.aload_n 0, 1, none, [], 0, 0, 0, 0) := z_ftd (by decide +kernel)
theorem t177_5 : z_ft 177 5 = some (.getfield 36, 3, none, [], 12, 8, 9, 0) := z_ftd (by decide +kernel)
theorem t177_8 : z_ft 177 8 = some (.ifCond .le 5, 3, none, [], 13, 0, 0, 0) := z_ftd (by decide +kernel)
theorem t177_11 : z_ft 177 11 = some (.iconst 1, 1, none, [], 0, 0, 0, 0) := z_ftd (by decide +kernel)
theorem t177_12 : z_ft 177 12 = some (.ireturn, 1, none, [], 0, 0, 0, 0) := z_ftd (by decide +kernel)
theorem t177_13 : z_ft 177 13 = some (.aload_n 0, 1, none, [], 0, 0, 0, 0) := z_ftd (by decide +kernel)
theorem t177_14 : z_ft 177 14 = some (.getfield 125, 3, none, [], 12, 37, 38, 0) := z_ftd (by decide +kernel)
theorem t177_17 : z_ft 177 17 = some (.iconst 1, 1, none, [], 0, 0, 0, 0) := z_ftd (by decide +kernel)
theorem t177_18 : z_ft 177 18 = some (.isub, 1, none, [], 0, 0, 0, 0) := z_ftd (by decide +kernel)
theorem t177_19 : z_ft 177 19 = some (.istore_n 1, 1, none, [], 0, 0, 0, 0) := z_ftd (by decide +kernel)
theorem t177_20 : z_ft 177 20 = some (.aload_n 0, 1, none, [], 0, 0, 0, 0) := z_ftd (by decide +kernel)
theorem t177_21 : z_ft 177 21 = some (.getfield 109, 3, none, [], 12, 32, 33, 0) := z_ftd (by decide +kernel)
theorem t177_24 : z_ft 177 24 = some (.iload_n 1, 1, none, [], 0, 0, 0, 0) := z_ftd (by decide +kernel)
theorem t177_25 : z_ft 177 25 = some (.iaload, 1, none, [], 0, 0, 0, 0) := z_ftd (by decide +kernel)
theorem t177_26 : z_ft 177 26 = some (.invokestatic 320, 3, none, [], 176, 0, 126, 0) := z_ftd (by decide +kernel)
theorem t177_29 : z_ft 177 29 = some (.ifCond .eq 16, 3, none, [], 45, 0, 0, 0) := z_ftd (by decide +kernel)
theorem t177_32 : z_ft 177 32 = some (.aload_n 0, 1, none, [], 0, 0, 0, 0) := z_ftd (by decide +kernel)
theorem t177_33 : z_ft 177 33 = some (.getfield 115, 3, none, [], 12, 34, 35, 0) := z_ftd (by decide +kernel)
theorem t177_36 : z_ft 177 36 = some (.iload_n 1, 1, none, [], 0, 0, 0, 0) := z_ftd (by decide +kernel)
theorem t177_37 : z_ft 177 37 = some (.baload, 1, none, [], 0, 0, 0, 0) := z_ftd (by decide +kernel)
theorem t177_38 : z_ft 177 38 = some (.ifCond .eq 7, 3, none, [], 45, 0, 0, 0) := z_ftd (by decide +kernel)
theorem t177_41 : z_ft 177 41 = some (.iconst 1, 1, none, [], 0, 0, 0, 0) := z_ftd (by decide +kernel)
theorem t177_42 : z_ft 177 42 = some (.goto 4, 3, none, [], 46, 0, 0, 0) := z_ftd (by decide +kernel)
theorem t177_45 : z_ft 177 45 = some (.iconst 0, 1, (some [0, 1]), [], 0, 0, 0, 0) := z_ftd (by decide +kernel)
theorem t177_46 : z_ft 177 46 = some (.istore_n 2, 1, (some [0, 1]), [], 0, 0, 0, 0) := z_ftd (by decide +kernel)
theorem t177_47 : z_ft 177 47 = some (.iload_n 2, 1, none, [], 0, 0, 0, 0) := z_ftd (by decide +kernel)
theorem t177_48 : z_ft 177 48 = some (.ifCond .eq 62, 3, none, [], 110, 0, 0, 0) := z_ftd (by decide +kernel)
theorem t177_51 : z_ft 177 51 = some (.aload_n 0, 1, none, [], 0, 0, 0, 0) := z_ftd (by decide +kernel)
theorem t177_52 : z_ft 177 52 = some (.ldc2_w 299, 3, none, [], 0, 0, 113, 7237492) := z_ftd (by decide +kernel)
theorem t177_55 : z_ft 177 55 = some (.invokevirtual 323, 3, none, [], 165, 0, 83, 0) := z_ftd (by decide +kernel)
theorem t177_58 : z_ft 177 58 = some (.ifCond .eq 52, 3, none, [], 110, 0, 0, 0) := z_ftd (by decide +kernel)
theorem t177_61 : z_ft 177 61 = some (.aload_n 0, 1, none, [], 0, 0, 0, 0) := z_ftd (by decide +kernel)
theorem t177_62 : z_ft 177 62 = some (.getfield 128, 3, none, [], 12, 38, 39, 0) := z_ftd (by decide +kernel)
theorem t177_65 : z_ft 177 65 = some (.bipush 7, 2, none, [], 0, 0, 0, 0) := z_ftd (by decide +kernel)
theorem t177_67 : z_ft 177 67 = some (.if_icmp .ne 12, 3, none, [], 79, 0, 0, 0) := z_ftd (by decide +kernel)
theorem t177_70 : z_ft 177 70 = some (.aload_n 0, 1, none, [], 0, 0, 0, 0) := z_ftd (by decide +kernel)
theorem t177_71 : z_ft 177 71 = some (.iconst 5, 1, none, [], 0, 0, 0, 0) := z_ftd (by decide +kernel)
theorem t177_72 : z_ft 177 72 = some (.aload_n 0, 1, none, [], 0, 0, 0, 0) := z_ftd (by decide +kernel)
theorem t177_73 : z_ft 177 73 = some (.getfield 23, 3, none, [], 12, 4, 5, 0) := z_ftd (by decide +kernel)
theorem t177_76 : z_ft 177 76 = some (.invokevirtual 239, 3, none, [], 159, 0, 82, 0) := z_ftd (by decide +kernel)
theorem t177_79 : z_ft 177 79 = some (.aload_n 0, 1, (some [0]), [], 0, 0, 0, 0) := z_ftd (by decide +kernel)
theorem t177_80 : z_ft 177 80 = some (.getfield 36, 3, none, [], 12, 8, 9, 0) := z_ftd (by decide +kernel)
theorem t177_83 : z_ft 177 83 = some (.ifCond .le 5, 3, none, [], 88, 0, 0, 0) := z_ftd (by decide +kernel)
theorem t177_86 : z_ft 177 86 = some (.iconst 1, 1, none, [], 0, 0, 0, 0) := z_ftd (by decide +kernel)
theorem t177_87 : z_ft 177 87 = some (.ireturn, 1, none, [], 0, 0, 0, 0) := z_ftd (by decide +kernel)
theorem t177_88 : z_ft 177 88 = some (.aload_n 0, 1, none, [], 0, 0, 0, 0) := z_ftd (by decide +kernel)
theorem t177_89 : z_ft 177 89 = some (.dup, 1, none, [], 0, 0, 0, 0) := z_ftd (by decide +kernel)
theorem t177_90 : z_ft 177 90 = some (.getfield 128, 3, none, [], 12, 38, 39, 0) := z_ftd (by decide +kernel)
theorem t177_93 : z_ft 177 93 = some (.iconst 1, 1, none, [], 0, 0, 0, 0) := z_ftd (by decide +kernel)
theorem t177_94 : z_ft 177 94 = some (.iadd, 1, none, [], 0, 0, 0, 0) := z_ftd (by decide +kernel)
theorem t177_95 : z_ft 177 95 = some (.putfield 128, 3, none, [], 12, 38, 39, 0) := z_ftd (by decide +kernel)
theorem t177_98 : z_ft 177 98 = some (.aload_n 0, 1, none, [], 0, 0, 0, 0) := z_ftd (by decide +kernel)
theorem t177_99 : z_ft 177 99 = some (.bipush 43, 2, none, [], 0, 0, 0, 0) := z_ftd (by decide +kernel)
theorem t177_101 : z_ft 177 101 = some (.invokevirtual 327, 3, none, [], 173, 0, 127, 0) := z_ftd (by decide +kernel)
theorem t177_104 : z_ft 177 104 = some (.aload_n 0, 1, none, [], 0, 0, 0, 0) := z_ftd (by decide +kernel)
theorem t177_105 : z_ft 177 105 = some (.invokevirtual 256, 3, none, [], 163, 0, 75, 0) := z_ftd (by decide +kernel)
theorem t177_108 : z_ft 177 108 = some (.iconst 0, 1, none, [], 0, 0, 0, 0) := z_ftd (by decide +kernel)
theorem t177_109 : z_ft 177 109 = some (.ireturn, 1, none, [], 0, 0, 0, 0) := z_ftd (by decide +kernel)
theorem t177_110 : z_ft 177 110 = some (.aload_n 0, 1, (some [0, 1, 2]), [], 0, 0, 0, 0) := z_ftd (by decide +kernel)
theorem t177_111 : z_ft 177 111 = some (.getfield 115, 3, none, [], 12, 34, 35, 0) := z_ftd (by decide +kernel)
theorem t177_114 : z_ft 177 114 = some (.iload_n 1, 1, none, [], 0, 0, 0, 0) := z_ftd (by decide +kernel)
theorem t177_115 : z_ft 177 115 = some (.iconst 0, 1, none, [], 0, 0, 0, 0) := z_ftd (by decide +kernel)
theorem t177_116 : z_ft 177 116 = some (.bastore, 1, none, [], 0, 0, 0, 0) := z_ftd (by decide +kernel)
theorem t177_117 : z_ft 177 117 = some (.iload_n 2, 1, none, [], 0, 0, 0, 0) := z_ftd (by decide +kernel)
theorem t177_118 : z_ft 177 118 = some (.ifCond .eq 19, 3, none, [], 137, 0, 0, 0) := z_ftd (by decide +kernel)
theorem t177_121 : z_ft 177 121 = some (.aload_n 0, 1, none, [], 0, 0, 0, 0) := z_ftd (by decide +kernel)
theorem t177_122 : z_ft 177 122 = some (.bipush 91, 2, none, [], 0, 0, 0, 0) := z_ftd (by decide +kernel)
theorem t177_124 : z_ft 177 124 = some (.invokevirtual 253, 3, none, [], 164, 0, 87, 0) := z_ftd (by decide +kernel)
theorem t177_127 : z_ft 177 127 = some (.ifCond .eq 10, 3, none, [], 137, 0, 0, 0) := z_ftd (by decide +kernel)
theorem t177_130 : z_ft 177 130 = some (.aload_n 0, 1, none, [], 0, 0, 0, 0) := z_ftd (by decide +kernel)
theorem t177_131 : z_ft 177 131 = some (.iconst 5, 1, none, [], 0, 0, 0, 0) := z_ftd (by decide +kernel)
theorem t177_132 : z_ft 177 132 = some (.invokevirtual 330, 3, none, [], 175, 0, 128, 0) := z_ftd (by decide +kernel)
theorem t177_135 : z_ft 177 135 = some (.iconst 0, 1, none, [], 0, 0, 0, 0) := z_ftd (by decide +kernel)
theorem t177_136 : z_ft 177 136 = some (.ireturn, 1, none, [], 0, 0, 0, 0) := z_ftd (by decide +kernel)
theorem t177_137 : z_ft 177 137 = some (.iload_n 2, 1, (some [0, 1, 2]), [], 0, 0, 0, 0) := z_ftd (by decide +kernel)
theorem t177_138 : z_ft 177 138 = some (.ifCond .eq 33, 3, none, [], 171, 0, 0, 0) := z_ftd (by decide +kernel)
theorem t177_141 : z_ft 177 141 = some (.aload_n 0, 1, none, [], 0, 0, 0, 0) := z_ftd (by decide +kernel)
theorem t177_142 : z_ft 177 142 = some (.ldc2_w 301, 3, none, [], 0, 0, 114, 6384748) := z_ftd (by decide +kernel)
theorem t177_145 : z_ft 177 145 = some (.invokevirtual 323, 3, none, [], 165, 0, 83, 0) := z_ftd (by decide +kernel)
theorem t177_148 : z_ft 177 148 = some (.ifCond .eq 23, 3, none, [], 171, 0, 0, 0) := z_ftd (by decide +kernel)
theorem t177_151 : z_ft 177 151 = some (.aload_n 0, 1, none, [], 0, 0, 0, 0) := z_ftd (by decide +kernel)
theorem t177_152 : z_ft 177 152 = some (.bipush 30, 2, none, [], 0, 0, 0, 0) := z_ftd (by decide +kernel)
theorem t177_154 : z_ft 177 154 = some (.iconst 0, 1, none, [], 0, 0, 0, 0) := z_ftd (by decide +kernel)
theorem t177_155 : z_ft 177 155 = some (.invokevirtual 314, 3, none, [], 170, 0, 129, 0) := z_ftd (by decide +kernel)
theorem t177_158 : z_ft 177 158 = some (.aload_n 0, 1, none, [], 0, 0, 0, 0) := z_ftd (by decide +kernel)
theorem t177_159 : z_ft 177 159 = some (.getfield 112, 3, none, [], 12, 33, 34, 0) := z_ftd (by decide +kernel)
theorem t177_162 : z_ft 177 162 = some (.iload_n 1, 1, none, [], 0, 0, 0, 0) := z_ftd (by decide +kernel)
theorem t177_163 : z_ft 177 163 = some (.iconst 2, 1, none, [], 0, 0, 0, 0) := z_ftd (by decide +kernel)
theorem t177_164 : z_ft 177 164 = some (.iastore, 1, none, [], 0, 0, 0, 0) := z_ftd (by decide +kernel)
theorem t177_165 : z_ft 177 165 = some (.aload_n 0, 1, none, [], 0, 0, 0, 0) := z_ftd (by decide +kernel)
theorem t177_166 : z_ft 177 166 = some (.invokevirtual 256, 3, none, [], 163, 0, 75, 0) := z_ftd (by decide +kernel)
theorem t177_169 : z_ft 177 169 = some (.iconst 1, 1, none, [], 0, 0, 0, 0) := z_ftd (by decide +kernel)
theorem t177_170 : z_ft 177 170 = some (.ireturn, 1, none, [], 0, 0, 0, 0) := z_ftd (by decide +kernel)
theorem t177_171 : z_ft 177 171 = some (.aload_n 0, 1, (some [0]), [], 0, 0, 0, 0) := z_ftd (by decide +kernel)
theorem t177_172 : z_ft 177 172 = some (.bipush 40, 2, none, [], 0, 0, 0, 0) := z_ftd (by decide +kernel)
theorem t177_174 : z_ft 177 174 = some (.invokevirtual 253, 3, none, [], 164, 0, 87, 0) := z_ftd (by decide +kernel)
theorem t177_177 : z_ft 177 177 = some (.ifCond .eq 10, 3, none, [], 187, 0, 0, 0) := z_ftd (by decide +kernel)
theorem t177_180 : z_ft 177 180 = some (.aload_n 0, 1, none, [], 0, 0, 0, 0) := z_ftd (by decide +kernel)
theorem t177_181 : z_ft 177 181 = some (.iconst 2, 1, none, [], 0, 0, 0, 0) := z_ftd (by decide +kernel)
theorem t177_182 : z_ft 177 182 = some (.invokevirtual 330, 3, none, [], 175, 0, 128, 0) := z_ftd (by decide +kernel)
theorem t177_185 : z_ft 177 185 = some (.iconst 0, 1, none, [], 0, 0, 0, 0) := z_ftd (by decide +kernel)
theorem t177_186 : z_ft 177 186 = some (.ireturn, 1, none, [], 0, 0, 0, 0) := z_ftd (by decide +kernel)
theorem t177_187 : z_ft 177 187 = some (.aload_n 0, 1, none, [], 0, 0, 0, 0) := z_ftd (by decide +kernel)
theorem t177_188 : z_ft 177 188 = some (.ldc2_w 303, 3, none, [], 0, 0, 115, 7170414) := z_ftd (by decide +kernel)
theorem t177_191 : z_ft 177 191 = some (.invokevirtual 323, 3, none, [], 165, 0, 83, 0) := z_ftd (by decide +kernel)
theorem t177_194 : z_ft 177 194 = some (.ifCond .ne 23, 3, none, [], 217, 0, 0, 0) := z_ftd (by decide +kernel)
theorem t177_197 : z_ft 177 197 = some (.aload_n 0, 1, none, [], 0, 0, 0, 0) := z_ftd (by decide +kernel)
theorem t177_198 : z_ft 177 198 = some (.ldc2_w 305, 3, none, [], 0, 0, 116, 7168376) := z_ftd (by decide +kernel)
theorem t177_201 : z_ft 177 201 = some (.invokevirtual 323, 3, none, [], 165, 0, 83, 0) := z_ftd (by decide +kernel)
theorem t177_204 : z_ft 177 204 = some (.ifCond .ne 13, 3, none, [], 217, 0, 0, 0) := z_ftd (by decide +kernel)
theorem t177_207 : z_ft 177 207 = some (.aload_n 0, 1, none, [], 0, 0, 0, 0) := z_ftd (by decide +kernel)
theorem t177_208 : z_ft 177 208 = some (.ldc2_w 293, 3, none, [], 0, 0, 110, 26982) := z_ftd (by decide +kernel)
theorem t177_211 : z_ft 177 211 = some (.invokevirtual 323, 3, none, [], 165, 0, 83, 0) := z_ftd (by decide +kernel)
theorem t177_214 : z_ft 177 214 = some (.ifCond .eq 99, 3, none, [], 313, 0, 0, 0) := z_ftd (by decide +kernel)
theorem t177_217 : z_ft 177 217 = some (.aload_n 0, 1, (some [0]), [], 0, 0, 0, 0) := z_ftd (by decide +kernel)
theorem t177_218 : z_ft 177 218 = some (.ldc2_w 303, 3, none, [], 0, 0, 115, 7170414) := z_ftd (by decide +kernel)
theorem t177_221 : z_ft 177 221 = some (.invokevirtual 323, 3, none, [], 165, 0, 83, 0) := z_ftd (by decide +kernel)
theorem t177_224 : z_ft 177 224 = some (.ifCond .eq 8, 3, none, [], 232, 0, 0, 0) := z_ftd (by decide +kernel)
theorem t177_227 : z_ft 177 227 = some (.bipush 36, 2, none, [], 0, 0, 0, 0) := z_ftd (by decide +kernel)
theorem t177_229 : z_ft 177 229 = some (.goto 20, 3, none, [], 249, 0, 0, 0) := z_ftd (by decide +kernel)
theorem t177_232 : z_ft 177 232 = some (.aload_n 0, 1, none, [], 0, 0, 0, 0) := z_ftd (by decide +kernel)
theorem t177_233 : z_ft 177 233 = some (.ldc2_w 305, 3, none, [], 0, 0, 116, 7168376) := z_ftd (by decide +kernel)
theorem t177_236 : z_ft 177 236 = some (.invokevirtual 323, 3, none, [], 165, 0, 83, 0) := z_ftd (by decide +kernel)
theorem t177_239 : z_ft 177 239 = some (.ifCond .eq 8, 3, none, [], 247, 0, 0, 0) := z_ftd (by decide +kernel)
theorem t177_242 : z_ft 177 242 = some (.bipush 37, 2, none, [], 0, 0, 0, 0) := z_ftd (by decide +kernel)
theorem t177_244 : z_ft 177 244 = some (.goto 5, 3, none, [], 249, 0, 0, 0) := z_ftd (by decide +kernel)
theorem t177_247 : z_ft 177 247 = some (.bipush 44, 2, none, [], 0, 0, 0, 0) := z_ftd (by decide +kernel)
theorem t177_249 : z_ft 177 249 = some (.istore_n 3, 1, (some [0]), [], 0, 0, 0, 0) := z_ftd (by decide +kernel)
theorem t177_250 : z_ft 177 250 = some (.aload_n 0, 1, none, [], 0, 0, 0, 0) := z_ftd (by decide +kernel)
theorem t177_251 : z_ft 177 251 = some (.invokevirtual 256, 3, none, [], 163, 0, 75, 0) := z_ftd (by decide +kernel)
theorem t177_254 : z_ft 177 254 = some (.aload_n 0, 1, none, [], 0, 0, 0, 0) := z_ftd (by decide +kernel)
theorem t177_255 : z_ft 177 255 = some (.invokevirtual 250, 3, none, [], 162, 0, 81, 0) := z_ftd (by decide +kernel)
theorem t177_258 : z_ft 177 258 = some (.aload_n 0, 1, none, [], 0, 0, 0, 0) := z_ftd (by decide +kernel)
theorem t177_259 : z_ft 177 259 = some (.bipush 40, 2, none, [], 0, 0, 0, 0) := z_ftd (by decide +kernel)
theorem t177_261 : z_ft 177 261 = some (.invokevirtual 253, 3, none, [], 164, 0, 87, 0) := z_ftd (by decide +kernel)
theorem t177_264 : z_ft 177 264 = some (.ifCond .ne 12, 3, none, [], 276, 0, 0, 0) := z_ftd (by decide +kernel)
theorem t177_267 : z_ft 177 267 = some (.aload_n 0, 1, none, [], 0, 0, 0, 0) := z_ftd (by decide +kernel)
theorem t177_268 : z_ft 177 268 = some (.iconst 1, 1, none, [], 0, 0, 0, 0) := z_ftd (by decide +kernel)
theorem t177_269 : z_ft 177 269 = some (.aload_n 0, 1, none, [], 0, 0, 0, 0) := z_ftd (by decide +kernel)
theorem t177_270 : z_ft 177 270 = some (.getfield 23, 3, none, [], 12, 4, 5, 0) := z_ftd (by decide +kernel)
theorem t177_273 : z_ft 177 273 = some (.invokevirtual 239, 3, none, [], 159, 0, 82, 0) := z_ftd (by decide +kernel)
theorem t177_276 : z_ft 177 276 = some (.aload_n 0, 1, (some [0, 3]), [], 0, 0, 0, 0) := z_ftd (by decide +kernel)
theorem t177_277 : z_ft 177 277 = some (.iload_n 3, 1, none, [], 0, 0, 0, 0) := z_ftd (by decide +kernel)
theorem t177_278 : z_ft 177 278 = some (.bipush 44, 2, none, [], 0, 0, 0, 0) := z_ftd (by decide +kernel)
theorem t177_280 : z_ft 177 280 = some (.if_icmp .ne 8, 3, none, [], 288, 0, 0, 0) := z_ftd (by decide +kernel)
theorem t177_283 : z_ft 177 283 = some (.bipush 6, 2, none, [], 0, 0, 0, 0) := z_ftd (by decide +kernel)
theorem t177_285 : z_ft 177 285 = some (.goto 4, 3, none, [], 289, 0, 0, 0) := z_ftd (by decide +kernel)
theorem t177_288 : z_ft 177 288 = some (.iconst 3, 1, none, [], 0, 0, 0, 0) := z_ftd (by decide +kernel)
theorem t177_289 : z_ft 177 289 = some (.invokevirtual 330, 3, (some [0, 3]), [], 175, 0, 128, 0) := z_ftd (by decide +kernel)
theorem t177_292 : z_ft 177 292 = some (.aload_n 0, 1, none, [], 0, 0, 0, 0) := z_ftd (by decide +kernel)
theorem t177_293 : z_ft 177 293 = some (.getfield 36, 3, none, [], 12, 8, 9, 0) := z_ftd (by decide +kernel)
theorem t177_296 : z_ft 177 296 = some (.ifCond .ne 15, 3, none, [], 311, 0, 0, 0) := z_ftd (by decide +kernel)
theorem t177_299 : z_ft 177 299 = some (.aload_n 0, 1, none, [], 0, 0, 0, 0) := z_ftd (by decide +kernel)
theorem t177_300 : z_ft 177 300 = some (.getfield 119, 3, none, [], 12, 35, 36, 0) := z_ftd (by decide +kernel)
theorem t177_303 : z_ft 177 303 = some (.aload_n 0, 1, none, [], 0, 0, 0, 0) := z_ftd (by decide +kernel)
theorem t177_304 : z_ft 177 304 = some (.getfield 125, 3, none, [], 12, 37, 38, 0) := z_ftd (by decide +kernel)
theorem t177_307 : z_ft 177 307 = some (.iconst 1, 1, none, [], 0, 0, 0, 0) := z_ftd (by decide +kernel)
theorem t177_308 : z_ft 177 308 = some (.isub, 1, none, [], 0, 0, 0, 0) := z_ftd (by decide +kernel)
theorem t177_309 : z_ft 177 309 = some (.iload_n 3, 1, none, [], 0, 0, 0, 0) := z_ftd (by decide +kernel)
theorem t177_310 : z_ft 177 310 = some (.iastore, 1, none, [], 0, 0, 0, 0) := z_ftd (by decide +kernel)
theorem t177_311 : z_ft 177 311 = some (.iconst 0, 1, (some []), [], 0, 0, 0, 0) := z_ftd (by decide +kernel)
theorem t177_312 : z_ft 177 312 = some (.ireturn, 1, none, [], 0, 0, 0, 0) := z_ftd (by decide +kernel)
theorem t177_313 : z_ft 177 313 = some (.aload_n 0, 1, none, [], 0, 0, 0, 0) := z_ftd (by decide +kernel)
theorem t177_314 : z_ft 177 314 = some (.getfield 20, 3, none, [], 12, 3, 4, 0) := z_ftd (by decide +kernel)
theorem t177_317 : z_ft 177 317 = some (.iconst 2, 1, none, [], 0, 0, 0, 0) := z_ftd (by decide +kernel)
theorem t177_318 : z_ft 177 318 = some (.if_icmp .ne 7, 3, none, [], 325, 0, 0, 0) := z_ftd (by decide +kernel)
theorem t177_321 : z_ft 177 321 = some (.iconst 0, 1, none, [], 0, 0, 0, 0) := z_ftd (by decide +kernel)
theorem t177_322 : z_ft 177 322 = some (.goto 104, 3, none, [], 426, 0, 0, 0) := z_ftd (by decide +kernel)
theorem t177_325 : z_ft 177 325 = some (.aload_n 0, 1, none, [], 0, 0, 0, 0) := z_ftd (by decide +kernel)
theorem t177_326 : z_ft 177 326 = some (.ldc2_w 281, 3, none, [], 0, 0, 104, 474214787188) := z_ftd (by decide +kernel)
theorem t177_329 : z_ft 177 329 = some (.invokevirtual 323, 3, none, [], 165, 0, 83, 0) := z_ftd (by decide +kernel)
theorem t177_332 : z_ft 177 332 = some (.ifCond .eq 7, 3, none, [], 339, 0, 0, 0) := z_ftd (by decide +kernel)
theorem t177_335 : z_ft 177 335 = some (.iconst 1, 1, none, [], 0, 0, 0, 0) := z_ftd (by decide +kernel)
theorem t177_336 : z_ft 177 336 = some (.goto 90, 3, none, [], 426, 0, 0, 0) := z_ftd (by decide +kernel)
theorem t177_339 : z_ft 177 339 = some (.aload_n 0, 1, none, [], 0, 0, 0, 0) := z_ftd (by decide +kernel)
theorem t177_340 : z_ft 177 340 = some (.ldc2_w 283, 3, none, [], 0, 0, 105, 1919905645) := z_ftd (by decide +kernel)
theorem t177_343 : z_ft 177 343 = some (.invokevirtual 323, 3, none, [], 165, 0, 83, 0) := z_ftd (by decide +kernel)
theorem t177_346 : z_ft 177 346 = some (.ifCond .eq 7, 3, none, [], 353, 0, 0, 0) := z_ftd (by decide +kernel)
theorem t177_349 : z_ft 177 349 = some (.iconst 2, 1, none, [], 0, 0, 0, 0) := z_ftd (by decide +kernel)
theorem t177_350 : z_ft 177 350 = some (.goto 76, 3, none, [], 426, 0, 0, 0) := z_ftd (by decide +kernel)
theorem t177_353 : z_ft 177 353 = some (.aload_n 0, 1, none, [], 0, 0, 0, 0) := z_ftd (by decide +kernel)
theorem t177_354 : z_ft 177 354 = some (.ldc2_w 285, 3, none, [], 0, 0, 106, 121398985520243) := z_ftd (by decide +kernel)
theorem t177_357 : z_ft 177 357 = some (.invokevirtual 323, 3, none, [], 165, 0, 83, 0) := z_ftd (by decide +kernel)
theorem t177_360 : z_ft 177 360 = some (.ifCond .eq 7, 3, none, [], 367, 0, 0, 0) := z_ftd (by decide +kernel)
theorem t177_363 : z_ft 177 363 = some (.iconst 3, 1, none, [], 0, 0, 0, 0) := z_ftd (by decide +kernel)
theorem t177_364 : z_ft 177 364 = some (.goto 62, 3, none, [], 426, 0, 0, 0) := z_ftd (by decide +kernel)
theorem t177_367 : z_ft 177 367 = some (.aload_n 0, 1, none, [], 0, 0, 0, 0) := z_ftd (by decide +kernel)
theorem t177_368 : z_ft 177 368 = some (.ldc2_w 287, 3, none, [], 0, 0, 107, 435627783289) := z_ftd (by decide +kernel)
theorem t177_371 : z_ft 177 371 = some (.invokevirtual 323, 3, none, [], 165, 0, 83, 0) := z_ftd (by decide +kernel)
theorem t177_374 : z_ft 177 374 = some (.ifCond .eq 7, 3, none, [], 381, 0, 0, 0) := z_ftd (by decide +kernel)
theorem t177_377 : z_ft 177 377 = some (.iconst 4, 1, none, [], 0, 0, 0, 0) := z_ftd (by decide +kernel)
theorem t177_378 : z_ft 177 378 = some (.goto 48, 3, none, [], 426, 0, 0, 0) := z_ftd (by decide +kernel)
theorem t177_381 : z_ft 177 381 = some (.aload_n 0, 1, none, [], 0, 0, 0, 0) := z_ftd (by decide +kernel)
theorem t177_382 : z_ft 177 382 = some (.ldc2_w 289, 3, none, [], 0, 0, 108, 1937007984) := z_ftd (by decide +kernel)
theorem t177_385 : z_ft 177 385 = some (.invokevirtual 323, 3, none, [], 165, 0, 83, 0) := z_ftd (by decide +kernel)
theorem t177_388 : z_ft 177 388 = some (.ifCond .eq 7, 3, none, [], 395, 0, 0, 0) := z_ftd (by decide +kernel)
theorem t177_391 : z_ft 177 391 = some (.iconst 5, 1, none, [], 0, 0, 0, 0) := z_ftd (by decide +kernel)
theorem t177_392 : z_ft 177 392 = some (.goto 34, 3, none, [], 426, 0, 0, 0) := z_ftd (by decide +kernel)
theorem t177_395 : z_ft 177 395 = some (.aload_n 0, 1, none, [], 0, 0, 0, 0) := z_ftd (by decide +kernel)
theorem t177_396 : z_ft 177 396 = some (.ldc2_w 261, 3, none, [], 0, 0, 90, 422608528232) := z_ftd (by decide +kernel)
theorem t177_399 : z_ft 177 399 = some (.invokevirtual 323, 3, none, [], 165, 0, 83, 0) := z_ftd (by decide +kernel)
theorem t177_402 : z_ft 177 402 = some (.ifCond .eq 8, 3, none, [], 410, 0, 0, 0) := z_ftd (by decide +kernel)
theorem t177_405 : z_ft 177 405 = some (.bipush 6, 2, none, [], 0, 0, 0, 0) := z_ftd (by decide +kernel)
theorem t177_407 : z_ft 177 407 = some (.goto 19, 3, none, [], 426, 0, 0, 0) := z_ftd (by decide +kernel)
theorem t177_410 : z_ft 177 410 = some (.aload_n 0, 1, none, [], 0, 0, 0, 0) := z_ftd (by decide +kernel)
theorem t177_411 : z_ft 177 411 = some (.ldc2_w 291, 3, none, [], 0, 0, 109, 439855772532) := z_ftd (by decide +kernel)
theorem t177_414 : z_ft 177 414 = some (.invokevirtual 323, 3, none, [], 165, 0, 83, 0) := z_ftd (by decide +kernel)
theorem t177_417 : z_ft 177 417 = some (.ifCond .eq 8, 3, none, [], 425, 0, 0, 0) := z_ftd (by decide +kernel)
theorem t177_420 : z_ft 177 420 = some (.bipush 7, 2, none, [], 0, 0, 0, 0) := z_ftd (by decide +kernel)
theorem t177_422 : z_ft 177 422 = some (.goto 4, 3, none, [], 426, 0, 0, 0) := z_ftd (by decide +kernel)
theorem t177_425 : z_ft 177 425 = some (.iconst (-1), 1, none, [], 0, 0, 0, 0) := z_ftd (by decide +kernel)
theorem t177_426 : z_ft 177 426 = some (.istore_n 3, 1, (some [0]), [], 0, 0, 0, 0) := z_ftd (by decide +kernel)
theorem t177_427 : z_ft 177 427 = some (.iload_n 3, 1, none, [], 0, 0, 0, 0) := z_ftd (by decide +kernel)
theorem t177_428 : z_ft 177 428 = some (.iconst 5, 1, none, [], 0, 0, 0, 0) := z_ftd (by decide +kernel)
theorem t177_429 : z_ft 177 429 = some (.if_icmp .lt 15, 3, none, [], 444, 0, 0, 0) := z_ftd (by decide +kernel)
theorem t177_432 : z_ft 177 432 = some (.aload_n 0, 1, none, [], 0, 0, 0, 0) := z_ftd (by decide +kernel)
theorem t177_433 : z_ft 177 433 = some (.getfield 106, 3, none, [], 12, 31, 32, 0) := z_ftd (by decide +kernel)
theorem t177_436 : z_ft 177 436 = some (.iload_n 3, 1, none, [], 0, 0, 0, 0) := z_ftd (by decide +kernel)
theorem t177_437 : z_ft 177 437 = some (.iconst 5, 1, none, [], 0, 0, 0, 0) := z_ftd (by decide +kernel)
theorem t177_438 : z_ft 177 438 = some (.isub, 1, none, [], 0, 0, 0, 0) := z_ftd (by decide +kernel)
theorem t177_439 : z_ft 177 439 = some (.if_icmp .eq 5, 3, none, [], 444, 0, 0, 0) := z_ftd (by decide +kernel)
theorem t177_442 : z_ft 177 442 = some (.iconst (-1), 1, none, [], 0, 0, 0, 0) := z_ftd (by decide +kernel)
theorem t177_443 : z_ft 177 443 = some (.istore_n 3, 1, none, [], 0, 0, 0, 0) := z_ftd (by decide +kernel)
theorem t177_444 : z_ft 177 444 = some (.iload_n 3, 1, (some [0, 3]), [], 0, 0, 0, 0) := z_ftd (by decide +kernel)
theorem t177_445 : z_ft 177 445 = some (.iconst (-1), 1, none, [], 0, 0, 0, 0) := z_ftd (by decide +kernel)
theorem t177_446 : z_ft 177 446 = some (.if_icmp .ne 12, 3, none, [], 458, 0, 0, 0) := z_ftd (by decide +kernel)
theorem t177_449 : z_ft 177 449 = some (.aload_n 0, 1, none, [], 0, 0, 0, 0) := z_ftd (by decide +kernel)
theorem t177_450 : z_ft 177 450 = some (.iconst 1, 1, none, [], 0, 0, 0, 0) := z_ftd (by decide +kernel)
theorem t177_451 : z_ft 177 451 = some (.aload_n 0, 1, none, [], 0, 0, 0, 0) := z_ftd (by decide +kernel)
theorem t177_452 : z_ft 177 452 = some (.getfield 23, 3, none, [], 12, 4, 5, 0) := z_ftd (by decide +kernel)
theorem t177_455 : z_ft 177 455 = some (.invokevirtual 239, 3, none, [], 159, 0, 82, 0) := z_ftd (by decide +kernel)
theorem t177_458 : z_ft 177 458 = some (.aload_n 0, 1, (some [0, 3]), [], 0, 0, 0, 0) := z_ftd (by decide +kernel)
theorem t177_459 : z_ft 177 459 = some (.getfield 36, 3, none, [], 12, 8, 9, 0) := z_ftd (by decide +kernel)
theorem t177_462 : z_ft 177 462 = some (.ifCond .le 5, 3, none, [], 467, 0, 0, 0) := z_ftd (by decide +kernel)
theorem t177_465 : z_ft 177 465 = some (.iconst 1, 1, none, [], 0, 0, 0, 0) := z_ftd (by decide +kernel)
theorem t177_466 : z_ft 177 466 = some (.ireturn, 1, none, [], 0, 0, 0, 0) := z_ftd (by decide +kernel)
theorem t177_467 : z_ft 177 467 = some (.aload_n 0, 1, none, [], 0, 0, 0, 0) := z_ftd (by decide +kernel)
theorem t177_468 : z_ft 177 468 = some (.iload_n 3, 1, none, [], 0, 0, 0, 0) := z_ftd (by decide +kernel)
theorem t177_469 : z_ft 177 469 = some (.aload_n 0, 1, none, [], 0, 0, 0, 0) := z_ftd (by decide +kernel)
theorem t177_470 : z_ft 177 470 = some (.getfield 29, 3, none, [], 12, 6, 7, 0) := z_ftd (by decide +kernel)
theorem t177_473 : z_ft 177 473 = some (.invokevirtual 314, 3, none, [], 170, 0, 129, 0) := z_ftd (by decide +kernel)
theorem t177_476 : z_ft 177 476 = some (.aload_n 0, 1, none, [], 0, 0, 0, 0) := z_ftd (by decide +kernel)
theorem t177_477 : z_ft 177 477 = some (.invokevirtual 256, 3, none, [], 163, 0, 75, 0) := z_ftd (by decide +kernel)
theorem t177_480 : z_ft 177 480 = some (.iconst 1, 1, none, [], 0, 0, 0, 0) := z_ftd (by decide +kernel)
theorem t177_481 : z_ft 177 481 = some (.ireturn, 1, none, [], 0, 0, 0, 0) := z_ftd (by decide +kernel)
noncomputable def b177_45 (d : Nat) (y1 : Int32) (S : z_S) : Option (Int32 × z_S) := zk kI z_X0 d 177 45 [.ref 396, .int y1, z_j, z_j] [] S
noncomputable def b177_46 (d : Nat) (y1 : Int32) (s0 : Int32) (S : z_S) : Option (Int32 × z_S) := zk kI z_X0 d 177 46 [.ref 396, .int y1, z_j, z_j] [.int s0] S
noncomputable def b177_110 (d : Nat) (y1 : Int32) (y2 : Int32) (S : z_S) : Option (Int32 × z_S) := zk kI z_X0 d 177 110 [.ref 396, .int y1, .int y2, z_j] [] S
noncomputable def b177_79 (d : Nat)  (S : z_S) : Option (Int32 × z_S) := zk kI z_X0 d 177 79 [.ref 396, z_j, z_j, z_j] [] S
noncomputable def b177_137 (d : Nat) (y1 : Int32) (y2 : Int32) (S : z_S) : Option (Int32 × z_S) := zk kI z_X0 d 177 137 [.ref 396, .int y1, .int y2, z_j] [] S
noncomputable def b177_171 (d : Nat)  (S : z_S) : Option (Int32 × z_S) := zk kI z_X0 d 177 171 [.ref 396, z_j, z_j, z_j] [] S
noncomputable def b177_217 (d : Nat)  (S : z_S) : Option (Int32 × z_S) := zk kI z_X0 d 177 217 [.ref 396, z_j, z_j, z_j] [] S
noncomputable def b177_426 (d : Nat) (s0 : Int32) (S : z_S) : Option (Int32 × z_S) := zk kI z_X0 d 177 426 [.ref 396, z_j, z_j, z_j] [.int s0] S
noncomputable def b177_249 (d : Nat) (s0 : Int32) (S : z_S) : Option (Int32 × z_S) := zk kI z_X0 d 177 249 [.ref 396, z_j, z_j, z_j] [.int s0] S
noncomputable def b177_444 (d : Nat) (y3 : Int32) (S : z_S) : Option (Int32 × z_S) := zk kI z_X0 d 177 444 [.ref 396, z_j, z_j, .int y3] [] S
noncomputable def b177_276 (d : Nat) (y3 : Int32) (S : z_S) : Option (Int32 × z_S) := zk kI z_X0 d 177 276 [.ref 396, z_j, z_j, .int y3] [] S
noncomputable def b177_458 (d : Nat) (y3 : Int32) (S : z_S) : Option (Int32 × z_S) := zk kI z_X0 d 177 458 [.ref 396, z_j, z_j, .int y3] [] S
noncomputable def b177_289 (d : Nat) (y3 : Int32) (s0 : Int32) (S : z_S) : Option (Int32 × z_S) := zk kI z_X0 d 177 289 [.ref 396, z_j, z_j, .int y3] [.int s0, .ref 396] S
theorem b177_45_eq (d : Nat) (y1 : Int32) (S : z_S) (hW : z_W S)  : b177_45 d y1 S = b177_46 d y1 (0 : Int32) S := by
  unfold b177_45
  refine (k_iconst t177_45 rfl zci_0).trans ?_
  exact (zk_mk (ls' := [.ref 396, .int y1, z_j, z_j]) t177_46 rfl)
theorem b177_46_eq (d : Nat) (y1 : Int32) (s0 : Int32) (S : z_S) (hW : z_W S)  : b177_46 d y1 s0 S = (if s0 = (0 : Int32) then b177_110 d y1 s0 S else (zb (fI d 165 [.ref 396, .long (7237492 : Int64)] S) fun v11 S12 => (if v11 = (0 : Int32) then b177_110 d y1 s0 S12 else (if ¬ (gI S12 396 38) = (7 : Int32) then b177_79 d S12 else ((fV d 159 [.ref 396, .int (5 : Int32), .int (gI S12 396 4)] S12).bind fun S16 => b177_79 d S16))))) := by
  unfold b177_46
  refine (k_istore_n (ls' := [.ref 396, .int y1, .int s0, z_j]) t177_46 rfl rfl).trans ?_
  refine (k_iload_n t177_47 rfl rfl).trans ?_
  refine (k_if_eq t177_48 rfl).trans (z_ite (fun g10 => ?_) (fun g10 => ?_))
  · exact (zk_mk (ls' := [.ref 396, .int y1, .int s0, z_j]) t177_110 rfl)
  · refine (k_aload_n t177_51 rfl rfl).trans ?_
    refine (k_ldc2_w t177_52 rfl zcl_7237492).trans ?_
    refine k_callI (as := [.ref 396, .long (7237492 : Int64)]) (rest := []) t177_55 rfl rfl (by decide) rfl rfl (Nat.le_of_ble_eq_true rfl) rfl (z_rcV hW (zK_396) (by decide)) (by decide) (Or.inr (by decide)) hW (fun v11 S12 hW12 => ?_)
    refine (k_if_eq t177_58 rfl).trans (z_ite (fun g13 => ?_) (fun g13 => ?_))
    · exact (zk_mk (ls' := [.ref 396, .int y1, .int s0, z_j]) t177_110 rfl)
    · refine (k_aload_n t177_61 rfl rfl).trans ?_
      refine (k_getI t177_62 rfl hW12 zK_396 (by decide) (by decide)).trans ?_
      refine (k_bipush t177_65 rfl zcb_7).trans ?_
      refine (k_icmp_ne t177_67 rfl).trans (z_ite (fun g14 => ?_) (fun g14 => ?_))
      · exact (zk_mk (ls' := [.ref 396, z_j, z_j, z_j]) t177_79 rfl)
      · refine (k_aload_n t177_70 rfl rfl).trans ?_
        refine (k_iconst t177_71 rfl zci_5).trans ?_
        refine (k_aload_n t177_72 rfl rfl).trans ?_
        refine (k_getI t177_73 rfl hW12 zK_396 (by decide) (by decide)).trans ?_
        refine k_callV (as := [.ref 396, .int (5 : Int32), .int (gI S12 396 4)]) (rest := []) t177_76 rfl rfl (by decide) rfl rfl (Nat.le_of_ble_eq_true rfl) rfl (z_rcV hW12 (zK_396) (by decide)) (by decide) (by decide) hW12 (fun S16 hW16 => ?_)
        exact (zk_mk (ls' := [.ref 396, z_j, z_j, z_j]) t177_79 rfl)
theorem b177_110_eq (d : Nat) (y1 : Int32) (y2 : Int32) (S : z_S) (hW : z_W S)  : b177_110 d y1 y2 S = (if z_in y1 20 ∧ ((0 : Int32) = 0 ∨ (0 : Int32) = 1) then (if y2 = (0 : Int32) then b177_137 d y1 y2 (sI S 415 (y1).toNatClampNeg (0 : Int32)) else (zb (fI d 164 [.ref 396, .int (91 : Int32)] (sI S 415 (y1).toNatClampNeg (0 : Int32))) fun v19 S20 => (if v19 = (0 : Int32) then b177_137 d y1 y2 S20 else ((fV d 175 [.ref 396, .int (5 : Int32)] S20).bind fun S23 => some ((0 : Int32), S23))))) else none) := by
  unfold b177_110
  refine (k_aload_n t177_110 rfl rfl).trans ?_
  refine (k_getR t177_111 rfl hW zK_396 (by decide) (by decide) (zF_396_34 hW)).trans ?_
  refine (k_iload_n t177_114 rfl rfl).trans ?_
  refine (k_iconst t177_115 rfl zci_0).trans ?_
  refine (k_zast t177_116 rfl hW zK_415 zL_415).trans (z_ite (fun g17 => ?_) (fun _ => rfl))
  refine (k_iload_n t177_117 rfl rfl).trans ?_
  refine (k_if_eq t177_118 rfl).trans (z_ite (fun g18 => ?_) (fun g18 => ?_))
  · exact (zk_mk (ls' := [.ref 396, .int y1, .int y2, z_j]) t177_137 rfl)
  · refine (k_aload_n t177_121 rfl rfl).trans ?_
    refine (k_bipush t177_122 rfl zcb_91).trans ?_
    refine k_callI (as := [.ref 396, .int (91 : Int32)]) (rest := []) t177_124 rfl rfl (by decide) rfl rfl (Nat.le_of_ble_eq_true rfl) rfl (z_rcV hW.sI (zK_396) (by decide)) (by decide) (Or.inr (by decide)) hW.sI (fun v19 S20 hW20 => ?_)
    refine (k_if_eq t177_127 rfl).trans (z_ite (fun g21 => ?_) (fun g21 => ?_))
    · exact (zk_mk (ls' := [.ref 396, .int y1, .int y2, z_j]) t177_137 rfl)
    · refine (k_aload_n t177_130 rfl rfl).trans ?_
      refine (k_iconst t177_131 rfl zci_5).trans ?_
      refine k_callV (as := [.ref 396, .int (5 : Int32)]) (rest := []) t177_132 rfl rfl (by decide) rfl rfl (Nat.le_of_ble_eq_true rfl) rfl (z_rcV hW20 (zK_396) (by decide)) (by decide) (by decide) hW20 (fun S23 hW23 => ?_)
      refine (k_iconst t177_135 rfl zci_0).trans ?_
      exact k_zretC t177_136 rfl (by decide) (by decide)
theorem b177_79_eq (d : Nat)  (S : z_S) (hW : z_W S)  : b177_79 d  S = (if (gI S 396 8) ≤ (0 : Int32) then ((fV d 173 [.ref 396, .int (43 : Int32)] (sI S 396 38 ((gI S 396 38) + (1 : Int32)))).bind fun S26 => ((fV d 163 [.ref 396] S26).bind fun S28 => some ((0 : Int32), S28))) else some ((1 : Int32), S)) := by
  unfold b177_79
  refine (k_aload_n t177_79 rfl rfl).trans ?_
  refine (k_getI t177_80 rfl hW zK_396 (by decide) (by decide)).trans ?_
  refine (k_if_le t177_83 rfl).trans (z_ite (fun g24 => ?_) (fun g24 => ?_))
  · refine (k_aload_n t177_88 rfl rfl).trans ?_
    refine (k_dupR t177_89 rfl).trans ?_
    refine (k_getI t177_90 rfl hW zK_396 (by decide) (by decide)).trans ?_
    refine (k_iconst t177_93 rfl zci_1).trans ?_
    refine (k_iadd t177_94 rfl).trans ?_
    refine (k_putI t177_95 rfl hW zK_396 (by decide) (by decide) (by decide)).trans ?_
    refine (k_aload_n t177_98 rfl rfl).trans ?_
    refine (k_bipush t177_99 rfl zcb_43).trans ?_
    refine k_callV (as := [.ref 396, .int (43 : Int32)]) (rest := []) t177_101 rfl rfl (by decide) rfl rfl (Nat.le_of_ble_eq_true rfl) rfl (z_rcV hW.sI (zK_396) (by decide)) (by decide) (by decide) hW.sI (fun S26 hW26 => ?_)
    refine (k_aload_n t177_104 rfl rfl).trans ?_
    refine k_callV (as := [.ref 396]) (rest := []) t177_105 rfl rfl (by decide) rfl rfl (Nat.le_of_ble_eq_true rfl) rfl (z_rcV hW26 (zK_396) (by decide)) (by decide) (by decide) hW26 (fun S28 hW28 => ?_)
    refine (k_iconst t177_108 rfl zci_0).trans ?_
    exact k_zretC t177_109 rfl (by decide) (by decide)
  · refine (k_iconst t177_86 rfl zci_1).trans ?_
    exact k_zretC t177_87 rfl (by decide) (by decide)
theorem b177_137_eq (d : Nat) (y1 : Int32) (y2 : Int32) (S : z_S) (hW : z_W S)  : b177_137 d y1 y2 S = (if y2 = (0 : Int32) then b177_171 d S else (zb (fI d 165 [.ref 396, .long (6384748 : Int64)] S) fun v30 S31 => (if v30 = (0 : Int32) then b177_171 d S31 else ((fV d 170 [.ref 396, .int (30 : Int32), .int (0 : Int32)] S31).bind fun S34 => (if z_in y1 20 then ((fV d 163 [.ref 396] (sI S34 414 (y1).toNatClampNeg (2 : Int32))).bind fun S37 => some ((1 : Int32), S37)) else none))))) := by
  unfold b177_137
  refine (k_iload_n t177_137 rfl rfl).trans ?_
  refine (k_if_eq t177_138 rfl).trans (z_ite (fun g29 => ?_) (fun g29 => ?_))
  · exact (zk_mk (ls' := [.ref 396, z_j, z_j, z_j]) t177_171 rfl)
  · refine (k_aload_n t177_141 rfl rfl).trans ?_
    refine (k_ldc2_w t177_142 rfl zcl_6384748).trans ?_
    refine k_callI (as := [.ref 396, .long (6384748 : Int64)]) (rest := []) t177_145 rfl rfl (by decide) rfl rfl (Nat.le_of_ble_eq_true rfl) rfl (z_rcV hW (zK_396) (by decide)) (by decide) (Or.inr (by decide)) hW (fun v30 S31 hW31 => ?_)
    refine (k_if_eq t177_148 rfl).trans (z_ite (fun g32 => ?_) (fun g32 => ?_))
    · exact (zk_mk (ls' := [.ref 396, z_j, z_j, z_j]) t177_171 rfl)
    · refine (k_aload_n t177_151 rfl rfl).trans ?_
      refine (k_bipush t177_152 rfl zcb_30).trans ?_
      refine (k_iconst t177_154 rfl zci_0).trans ?_
      refine k_callV (as := [.ref 396, .int (30 : Int32), .int (0 : Int32)]) (rest := []) t177_155 rfl rfl (by decide) rfl rfl (Nat.le_of_ble_eq_true rfl) rfl (z_rcV hW31 (zK_396) (by decide)) (by decide) (by decide) hW31 (fun S34 hW34 => ?_)
      refine (k_aload_n t177_158 rfl rfl).trans ?_
      refine (k_getR t177_159 rfl hW34 zK_396 (by decide) (by decide) (zF_396_33 hW34)).trans ?_
      refine (k_iload_n t177_162 rfl rfl).trans ?_
      refine (k_iconst t177_163 rfl zci_2).trans ?_
      refine (k_iast t177_164 rfl hW34 zK_414 zL_414).trans (z_ite (fun g35 => ?_) (fun _ => rfl))
      refine (k_aload_n t177_165 rfl rfl).trans ?_
      refine k_callV (as := [.ref 396]) (rest := []) t177_166 rfl rfl (by decide) rfl rfl (Nat.le_of_ble_eq_true rfl) rfl (z_rcV hW34.sI (zK_396) (by decide)) (by decide) (by decide) hW34.sI (fun S37 hW37 => ?_)
      refine (k_iconst t177_169 rfl zci_1).trans ?_
      exact k_zretC t177_170 rfl (by decide) (by decide)
theorem b177_171_eq (d : Nat)  (S : z_S) (hW : z_W S)  : b177_171 d  S = (zb (fI d 164 [.ref 396, .int (40 : Int32)] S) fun v38 S39 => (if v38 = (0 : Int32) then (zb (fI d 165 [.ref 396, .long (7170414 : Int64)] S39) fun v41 S42 => (if ¬ v41 = (0 : Int32) then b177_217 d S42 else (zb (fI d 165 [.ref 396, .long (7168376 : Int64)] S42) fun v44 S45 => (if ¬ v44 = (0 : Int32) then b177_217 d S45 else (zb (fI d 165 [.ref 396, .long (26982 : Int64)] S45) fun v47 S48 => (if v47 = (0 : Int32) then (if ¬ (gI S48 396 3) = (2 : Int32) then (zb (fI d 165 [.ref 396, .long (474214787188 : Int64)] S48) fun v51 S52 => (if v51 = (0 : Int32) then (zb (fI d 165 [.ref 396, .long (1919905645 : Int64)] S52) fun v54 S55 => (if v54 = (0 : Int32) then (zb (fI d 165 [.ref 396, .long (121398985520243 : Int64)] S55) fun v57 S58 => (if v57 = (0 : Int32) then (zb (fI d 165 [.ref 396, .long (435627783289 : Int64)] S58) fun v60 S61 => (if v60 = (0 : Int32) then (zb (fI d 165 [.ref 396, .long (1937007984 : Int64)] S61) fun v63 S64 => (if v63 = (0 : Int32) then (zb (fI d 165 [.ref 396, .long (422608528232 : Int64)] S64) fun v66 S67 => (if v66 = (0 : Int32) then (zb (fI d 165 [.ref 396, .long (439855772532 : Int64)] S67) fun v69 S70 => (if v69 = (0 : Int32) then b177_426 d (-1 : Int32) S70 else b177_426 d (7 : Int32) S70)) else b177_426 d (6 : Int32) S67)) else b177_426 d (5 : Int32) S64)) else b177_426 d (4 : Int32) S61)) else b177_426 d (3 : Int32) S58)) else b177_426 d (2 : Int32) S55)) else b177_426 d (1 : Int32) S52)) else b177_426 d (0 : Int32) S48) else b177_217 d S48)))))) else ((fV d 175 [.ref 396, .int (2 : Int32)] S39).bind fun S73 => some ((0 : Int32), S73)))) := by
  unfold b177_171
  refine (k_aload_n t177_171 rfl rfl).trans ?_
  refine (k_bipush t177_172 rfl zcb_40).trans ?_
  refine k_callI (as := [.ref 396, .int (40 : Int32)]) (rest := []) t177_174 rfl rfl (by decide) rfl rfl (Nat.le_of_ble_eq_true rfl) rfl (z_rcV hW (zK_396) (by decide)) (by decide) (Or.inr (by decide)) hW (fun v38 S39 hW39 => ?_)
  refine (k_if_eq t177_177 rfl).trans (z_ite (fun g40 => ?_) (fun g40 => ?_))
  · refine (k_aload_n t177_187 rfl rfl).trans ?_
    refine (k_ldc2_w t177_188 rfl zcl_7170414).trans ?_
    refine k_callI (as := [.ref 396, .long (7170414 : Int64)]) (rest := []) t177_191 rfl rfl (by decide) rfl rfl (Nat.le_of_ble_eq_true rfl) rfl (z_rcV hW39 (zK_396) (by decide)) (by decide) (Or.inr (by decide)) hW39 (fun v41 S42 hW42 => ?_)
    refine (k_if_ne t177_194 rfl).trans (z_ite (fun g43 => ?_) (fun g43 => ?_))
    · exact (zk_mk (ls' := [.ref 396, z_j, z_j, z_j]) t177_217 rfl)
    · refine (k_aload_n t177_197 rfl rfl).trans ?_
      refine (k_ldc2_w t177_198 rfl zcl_7168376).trans ?_
      refine k_callI (as := [.ref 396, .long (7168376 : Int64)]) (rest := []) t177_201 rfl rfl (by decide) rfl rfl (Nat.le_of_ble_eq_true rfl) rfl (z_rcV hW42 (zK_396) (by decide)) (by decide) (Or.inr (by decide)) hW42 (fun v44 S45 hW45 => ?_)
      refine (k_if_ne t177_204 rfl).trans (z_ite (fun g46 => ?_) (fun g46 => ?_))
      · exact (zk_mk (ls' := [.ref 396, z_j, z_j, z_j]) t177_217 rfl)
      · refine (k_aload_n t177_207 rfl rfl).trans ?_
        refine (k_ldc2_w t177_208 rfl zcl_26982).trans ?_
        refine k_callI (as := [.ref 396, .long (26982 : Int64)]) (rest := []) t177_211 rfl rfl (by decide) rfl rfl (Nat.le_of_ble_eq_true rfl) rfl (z_rcV hW45 (zK_396) (by decide)) (by decide) (Or.inr (by decide)) hW45 (fun v47 S48 hW48 => ?_)
        refine (k_if_eq t177_214 rfl).trans (z_ite (fun g49 => ?_) (fun g49 => ?_))
        · refine (k_aload_n t177_313 rfl rfl).trans ?_
          refine (k_getI t177_314 rfl hW48 zK_396 (by decide) (by decide)).trans ?_
          refine (k_iconst t177_317 rfl zci_2).trans ?_
          refine (k_icmp_ne t177_318 rfl).trans (z_ite (fun g50 => ?_) (fun g50 => ?_))
          · refine (k_aload_n t177_325 rfl rfl).trans ?_
            refine (k_ldc2_w t177_326 rfl zcl_474214787188).trans ?_
            refine k_callI (as := [.ref 396, .long (474214787188 : Int64)]) (rest := []) t177_329 rfl rfl (by decide) rfl rfl (Nat.le_of_ble_eq_true rfl) rfl (z_rcV hW48 (zK_396) (by decide)) (by decide) (Or.inr (by decide)) hW48 (fun v51 S52 hW52 => ?_)
            refine (k_if_eq t177_332 rfl).trans (z_ite (fun g53 => ?_) (fun g53 => ?_))
            · refine (k_aload_n t177_339 rfl rfl).trans ?_
              refine (k_ldc2_w t177_340 rfl zcl_1919905645).trans ?_
              refine k_callI (as := [.ref 396, .long (1919905645 : Int64)]) (rest := []) t177_343 rfl rfl (by decide) rfl rfl (Nat.le_of_ble_eq_true rfl) rfl (z_rcV hW52 (zK_396) (by decide)) (by decide) (Or.inr (by decide)) hW52 (fun v54 S55 hW55 => ?_)
              refine (k_if_eq t177_346 rfl).trans (z_ite (fun g56 => ?_) (fun g56 => ?_))
              · refine (k_aload_n t177_353 rfl rfl).trans ?_
                refine (k_ldc2_w t177_354 rfl zcl_121398985520243).trans ?_
                refine k_callI (as := [.ref 396, .long (121398985520243 : Int64)]) (rest := []) t177_357 rfl rfl (by decide) rfl rfl (Nat.le_of_ble_eq_true rfl) rfl (z_rcV hW55 (zK_396) (by decide)) (by decide) (Or.inr (by decide)) hW55 (fun v57 S58 hW58 => ?_)
                refine (k_if_eq t177_360 rfl).trans (z_ite (fun g59 => ?_) (fun g59 => ?_))
                · refine (k_aload_n t177_367 rfl rfl).trans ?_
                  refine (k_ldc2_w t177_368 rfl zcl_435627783289).trans ?_
                  refine k_callI (as := [.ref 396, .long (435627783289 : Int64)]) (rest := []) t177_371 rfl rfl (by decide) rfl rfl (Nat.le_of_ble_eq_true rfl) rfl (z_rcV hW58 (zK_396) (by decide)) (by decide) (Or.inr (by decide)) hW58 (fun v60 S61 hW61 => ?_)
                  refine (k_if_eq t177_374 rfl).trans (z_ite (fun g62 => ?_) (fun g62 => ?_))
                  · refine (k_aload_n t177_381 rfl rfl).trans ?_
                    refine (k_ldc2_w t177_382 rfl zcl_1937007984).trans ?_
                    refine k_callI (as := [.ref 396, .long (1937007984 : Int64)]) (rest := []) t177_385 rfl rfl (by decide) rfl rfl (Nat.le_of_ble_eq_true rfl) rfl (z_rcV hW61 (zK_396) (by decide)) (by decide) (Or.inr (by decide)) hW61 (fun v63 S64 hW64 => ?_)
                    refine (k_if_eq t177_388 rfl).trans (z_ite (fun g65 => ?_) (fun g65 => ?_))
                    · refine (k_aload_n t177_395 rfl rfl).trans ?_
                      refine (k_ldc2_w t177_396 rfl zcl_422608528232).trans ?_
                      refine k_callI (as := [.ref 396, .long (422608528232 : Int64)]) (rest := []) t177_399 rfl rfl (by decide) rfl rfl (Nat.le_of_ble_eq_true rfl) rfl (z_rcV hW64 (zK_396) (by decide)) (by decide) (Or.inr (by decide)) hW64 (fun v66 S67 hW67 => ?_)
                      refine (k_if_eq t177_402 rfl).trans (z_ite (fun g68 => ?_) (fun g68 => ?_))
                      · refine (k_aload_n t177_410 rfl rfl).trans ?_
                        refine (k_ldc2_w t177_411 rfl zcl_439855772532).trans ?_
                        refine k_callI (as := [.ref 396, .long (439855772532 : Int64)]) (rest := []) t177_414 rfl rfl (by decide) rfl rfl (Nat.le_of_ble_eq_true rfl) rfl (z_rcV hW67 (zK_396) (by decide)) (by decide) (Or.inr (by decide)) hW67 (fun v69 S70 hW70 => ?_)
                        refine (k_if_eq t177_417 rfl).trans (z_ite (fun g71 => ?_) (fun g71 => ?_))
                        · refine (k_iconst t177_425 rfl zci_m1).trans ?_
                          exact (zk_mk (ls' := [.ref 396, z_j, z_j, z_j]) t177_426 rfl)
                        · refine (k_bipush t177_420 rfl zcb_7).trans ?_
                          refine (k_goto t177_422 rfl).trans ?_
                          exact (zk_mk (ls' := [.ref 396, z_j, z_j, z_j]) t177_426 rfl)
                      · refine (k_bipush t177_405 rfl zcb_6).trans ?_
                        refine (k_goto t177_407 rfl).trans ?_
                        exact (zk_mk (ls' := [.ref 396, z_j, z_j, z_j]) t177_426 rfl)
                    · refine (k_iconst t177_391 rfl zci_5).trans ?_
                      refine (k_goto t177_392 rfl).trans ?_
                      exact (zk_mk (ls' := [.ref 396, z_j, z_j, z_j]) t177_426 rfl)
                  · refine (k_iconst t177_377 rfl zci_4).trans ?_
                    refine (k_goto t177_378 rfl).trans ?_
                    exact (zk_mk (ls' := [.ref 396, z_j, z_j, z_j]) t177_426 rfl)
                · refine (k_iconst t177_363 rfl zci_3).trans ?_
                  refine (k_goto t177_364 rfl).trans ?_
                  exact (zk_mk (ls' := [.ref 396, z_j, z_j, z_j]) t177_426 rfl)
              · refine (k_iconst t177_349 rfl zci_2).trans ?_
                refine (k_goto t177_350 rfl).trans ?_
                exact (zk_mk (ls' := [.ref 396, z_j, z_j, z_j]) t177_426 rfl)
            · refine (k_iconst t177_335 rfl zci_1).trans ?_
              refine (k_goto t177_336 rfl).trans ?_
              exact (zk_mk (ls' := [.ref 396, z_j, z_j, z_j]) t177_426 rfl)
          · refine (k_iconst t177_321 rfl zci_0).trans ?_
            refine (k_goto t177_322 rfl).trans ?_
            exact (zk_mk (ls' := [.ref 396, z_j, z_j, z_j]) t177_426 rfl)
        · exact (zk_mk (ls' := [.ref 396, z_j, z_j, z_j]) t177_217 rfl)
  · refine (k_aload_n t177_180 rfl rfl).trans ?_
    refine (k_iconst t177_181 rfl zci_2).trans ?_
    refine k_callV (as := [.ref 396, .int (2 : Int32)]) (rest := []) t177_182 rfl rfl (by decide) rfl rfl (Nat.le_of_ble_eq_true rfl) rfl (z_rcV hW39 (zK_396) (by decide)) (by decide) (by decide) hW39 (fun S73 hW73 => ?_)
    refine (k_iconst t177_185 rfl zci_0).trans ?_
    exact k_zretC t177_186 rfl (by decide) (by decide)
theorem b177_217_eq (d : Nat)  (S : z_S) (hW : z_W S)  : b177_217 d  S = (zb (fI d 165 [.ref 396, .long (7170414 : Int64)] S) fun v74 S75 => (if v74 = (0 : Int32) then (zb (fI d 165 [.ref 396, .long (7168376 : Int64)] S75) fun v77 S78 => (if v77 = (0 : Int32) then b177_249 d (44 : Int32) S78 else b177_249 d (37 : Int32) S78)) else b177_249 d (36 : Int32) S75)) := by
  unfold b177_217
  refine (k_aload_n t177_217 rfl rfl).trans ?_
  refine (k_ldc2_w t177_218 rfl zcl_7170414).trans ?_
  refine k_callI (as := [.ref 396, .long (7170414 : Int64)]) (rest := []) t177_221 rfl rfl (by decide) rfl rfl (Nat.le_of_ble_eq_true rfl) rfl (z_rcV hW (zK_396) (by decide)) (by decide) (Or.inr (by decide)) hW (fun v74 S75 hW75 => ?_)
  refine (k_if_eq t177_224 rfl).trans (z_ite (fun g76 => ?_) (fun g76 => ?_))
  · refine (k_aload_n t177_232 rfl rfl).trans ?_
    refine (k_ldc2_w t177_233 rfl zcl_7168376).trans ?_
    refine k_callI (as := [.ref 396, .long (7168376 : Int64)]) (rest := []) t177_236 rfl rfl (by decide) rfl rfl (Nat.le_of_ble_eq_true rfl) rfl (z_rcV hW75 (zK_396) (by decide)) (by decide) (Or.inr (by decide)) hW75 (fun v77 S78 hW78 => ?_)
    refine (k_if_eq t177_239 rfl).trans (z_ite (fun g79 => ?_) (fun g79 => ?_))
    · refine (k_bipush t177_247 rfl zcb_44).trans ?_
      exact (zk_mk (ls' := [.ref 396, z_j, z_j, z_j]) t177_249 rfl)
    · refine (k_bipush t177_242 rfl zcb_37).trans ?_
      refine (k_goto t177_244 rfl).trans ?_
      exact (zk_mk (ls' := [.ref 396, z_j, z_j, z_j]) t177_249 rfl)
  · refine (k_bipush t177_227 rfl zcb_36).trans ?_
    refine (k_goto t177_229 rfl).trans ?_
    exact (zk_mk (ls' := [.ref 396, z_j, z_j, z_j]) t177_249 rfl)
theorem b177_426_eq (d : Nat) (s0 : Int32) (S : z_S) (hW : z_W S)  : b177_426 d s0 S = (if s0 < (5 : Int32) then b177_444 d s0 S else (if (gI S 396 31) = (s0 - (5 : Int32)) then b177_444 d s0 S else b177_444 d (-1 : Int32) S)) := by
  unfold b177_426
  refine (k_istore_n (ls' := [.ref 396, z_j, z_j, .int s0]) t177_426 rfl rfl).trans ?_
  refine (k_iload_n t177_427 rfl rfl).trans ?_
  refine (k_iconst t177_428 rfl zci_5).trans ?_
  refine (k_icmp_lt t177_429 rfl).trans (z_ite (fun g80 => ?_) (fun g80 => ?_))
  · exact (zk_mk (ls' := [.ref 396, z_j, z_j, .int s0]) t177_444 rfl)
  · refine (k_aload_n t177_432 rfl rfl).trans ?_
    refine (k_getI t177_433 rfl hW zK_396 (by decide) (by decide)).trans ?_
    refine (k_iload_n t177_436 rfl rfl).trans ?_
    refine (k_iconst t177_437 rfl zci_5).trans ?_
    refine (k_isub t177_438 rfl).trans ?_
    refine (k_icmp_eq t177_439 rfl).trans (z_ite (fun g81 => ?_) (fun g81 => ?_))
    · exact (zk_mk (ls' := [.ref 396, z_j, z_j, .int s0]) t177_444 rfl)
    · refine (k_iconst t177_442 rfl zci_m1).trans ?_
      refine (k_istore_n (ls' := [.ref 396, z_j, z_j, .int (-1 : Int32)]) t177_443 rfl rfl).trans ?_
      exact (zk_mk (ls' := [.ref 396, z_j, z_j, .int (-1 : Int32)]) t177_444 rfl)
theorem b177_249_eq (d : Nat) (s0 : Int32) (S : z_S) (hW : z_W S)  : b177_249 d s0 S = ((fV d 163 [.ref 396] S).bind fun S83 => ((fV d 162 [.ref 396] S83).bind fun S85 => (zb (fI d 164 [.ref 396, .int (40 : Int32)] S85) fun v86 S87 => (if ¬ v86 = (0 : Int32) then b177_276 d s0 S87 else ((fV d 159 [.ref 396, .int (1 : Int32), .int (gI S87 396 4)] S87).bind fun S90 => b177_276 d s0 S90))))) := by
  unfold b177_249
  refine (k_istore_n (ls' := [.ref 396, z_j, z_j, .int s0]) t177_249 rfl rfl).trans ?_
  refine (k_aload_n t177_250 rfl rfl).trans ?_
  refine k_callV (as := [.ref 396]) (rest := []) t177_251 rfl rfl (by decide) rfl rfl (Nat.le_of_ble_eq_true rfl) rfl (z_rcV hW (zK_396) (by decide)) (by decide) (by decide) hW (fun S83 hW83 => ?_)
  refine (k_aload_n t177_254 rfl rfl).trans ?_
  refine k_callV (as := [.ref 396]) (rest := []) t177_255 rfl rfl (by decide) rfl rfl (Nat.le_of_ble_eq_true rfl) rfl (z_rcV hW83 (zK_396) (by decide)) (by decide) (by decide) hW83 (fun S85 hW85 => ?_)
  refine (k_aload_n t177_258 rfl rfl).trans ?_
  refine (k_bipush t177_259 rfl zcb_40).trans ?_
  refine k_callI (as := [.ref 396, .int (40 : Int32)]) (rest := []) t177_261 rfl rfl (by decide) rfl rfl (Nat.le_of_ble_eq_true rfl) rfl (z_rcV hW85 (zK_396) (by decide)) (by decide) (Or.inr (by decide)) hW85 (fun v86 S87 hW87 => ?_)
  refine (k_if_ne t177_264 rfl).trans (z_ite (fun g88 => ?_) (fun g88 => ?_))
  · exact (zk_mk (ls' := [.ref 396, z_j, z_j, .int s0]) t177_276 rfl)
  · refine (k_aload_n t177_267 rfl rfl).trans ?_
    refine (k_iconst t177_268 rfl zci_1).trans ?_
    refine (k_aload_n t177_269 rfl rfl).trans ?_
    refine (k_getI t177_270 rfl hW87 zK_396 (by decide) (by decide)).trans ?_
    refine k_callV (as := [.ref 396, .int (1 : Int32), .int (gI S87 396 4)]) (rest := []) t177_273 rfl rfl (by decide) rfl rfl (Nat.le_of_ble_eq_true rfl) rfl (z_rcV hW87 (zK_396) (by decide)) (by decide) (by decide) hW87 (fun S90 hW90 => ?_)
    exact (zk_mk (ls' := [.ref 396, z_j, z_j, .int s0]) t177_276 rfl)
theorem b177_444_eq (d : Nat) (y3 : Int32) (S : z_S) (hW : z_W S)  : b177_444 d y3 S = (if ¬ y3 = (-1 : Int32) then b177_458 d y3 S else ((fV d 159 [.ref 396, .int (1 : Int32), .int (gI S 396 4)] S).bind fun S93 => b177_458 d y3 S93)) := by
  unfold b177_444
  refine (k_iload_n t177_444 rfl rfl).trans ?_
  refine (k_iconst t177_445 rfl zci_m1).trans ?_
  refine (k_icmp_ne t177_446 rfl).trans (z_ite (fun g91 => ?_) (fun g91 => ?_))
  · exact (zk_mk (ls' := [.ref 396, z_j, z_j, .int y3]) t177_458 rfl)
  · refine (k_aload_n t177_449 rfl rfl).trans ?_
    refine (k_iconst t177_450 rfl zci_1).trans ?_
    refine (k_aload_n t177_451 rfl rfl).trans ?_
    refine (k_getI t177_452 rfl hW zK_396 (by decide) (by decide)).trans ?_
    refine k_callV (as := [.ref 396, .int (1 : Int32), .int (gI S 396 4)]) (rest := []) t177_455 rfl rfl (by decide) rfl rfl (Nat.le_of_ble_eq_true rfl) rfl (z_rcV hW (zK_396) (by decide)) (by decide) (by decide) hW (fun S93 hW93 => ?_)
    exact (zk_mk (ls' := [.ref 396, z_j, z_j, .int y3]) t177_458 rfl)
theorem b177_276_eq (d : Nat) (y3 : Int32) (S : z_S) (hW : z_W S)  : b177_276 d y3 S = (if ¬ y3 = (44 : Int32) then b177_289 d y3 (3 : Int32) S else b177_289 d y3 (6 : Int32) S) := by
  unfold b177_276
  refine (k_aload_n t177_276 rfl rfl).trans ?_
  refine (k_iload_n t177_277 rfl rfl).trans ?_
  refine (k_bipush t177_278 rfl zcb_44).trans ?_
  refine (k_icmp_ne t177_280 rfl).trans (z_ite (fun g94 => ?_) (fun g94 => ?_))
  · refine (k_iconst t177_288 rfl zci_3).trans ?_
    exact (zk_mk (ls' := [.ref 396, z_j, z_j, .int y3]) t177_289 rfl)
  · refine (k_bipush t177_283 rfl zcb_6).trans ?_
    refine (k_goto t177_285 rfl).trans ?_
    exact (zk_mk (ls' := [.ref 396, z_j, z_j, .int y3]) t177_289 rfl)
theorem b177_458_eq (d : Nat) (y3 : Int32) (S : z_S) (hW : z_W S)  : b177_458 d y3 S = (if (gI S 396 8) ≤ (0 : Int32) then ((fV d 170 [.ref 396, .int y3, .int (gI S 396 6)] S).bind fun S97 => ((fV d 163 [.ref 396] S97).bind fun S99 => some ((1 : Int32), S99))) else some ((1 : Int32), S)) := by
  unfold b177_458
  refine (k_aload_n t177_458 rfl rfl).trans ?_
  refine (k_getI t177_459 rfl hW zK_396 (by decide) (by decide)).trans ?_
  refine (k_if_le t177_462 rfl).trans (z_ite (fun g95 => ?_) (fun g95 => ?_))
  · refine (k_aload_n t177_467 rfl rfl).trans ?_
    refine (k_iload_n t177_468 rfl rfl).trans ?_
    refine (k_aload_n t177_469 rfl rfl).trans ?_
    refine (k_getI t177_470 rfl hW zK_396 (by decide) (by decide)).trans ?_
    refine k_callV (as := [.ref 396, .int y3, .int (gI S 396 6)]) (rest := []) t177_473 rfl rfl (by decide) rfl rfl (Nat.le_of_ble_eq_true rfl) rfl (z_rcV hW (zK_396) (by decide)) (by decide) (by decide) hW (fun S97 hW97 => ?_)
    refine (k_aload_n t177_476 rfl rfl).trans ?_
    refine k_callV (as := [.ref 396]) (rest := []) t177_477 rfl rfl (by decide) rfl rfl (Nat.le_of_ble_eq_true rfl) rfl (z_rcV hW97 (zK_396) (by decide)) (by decide) (by decide) hW97 (fun S99 hW99 => ?_)
    refine (k_iconst t177_480 rfl zci_1).trans ?_
    exact k_zretC t177_481 rfl (by decide) (by decide)
  · refine (k_iconst t177_465 rfl zci_1).trans ?_
    exact k_zretC t177_466 rfl (by decide) (by decide)
theorem b177_289_eq (d : Nat) (y3 : Int32) (s0 : Int32) (S : z_S) (hW : z_W S)  : b177_289 d y3 s0 S = ((fV d 175 [.ref 396, .int s0] S).bind fun S101 => (if ¬ (gI S101 396 8) = (0 : Int32) then some ((0 : Int32), S101) else (if z_in ((gI S101 396 37) - (1 : Int32)) 20 then some ((0 : Int32), sI S101 416 (((gI S101 396 37) - (1 : Int32))).toNatClampNeg y3) else none))) := by
  unfold b177_289
  refine k_callV (as := [.ref 396, .int s0]) (rest := []) t177_289 rfl rfl (by decide) rfl rfl (Nat.le_of_ble_eq_true rfl) rfl (z_rcV hW (zK_396) (by decide)) (by decide) (by decide) hW (fun S101 hW101 => ?_)
  refine (k_aload_n t177_292 rfl rfl).trans ?_
  refine (k_getI t177_293 rfl hW101 zK_396 (by decide) (by decide)).trans ?_
  refine (k_if_ne t177_296 rfl).trans (z_ite (fun g102 => ?_) (fun g102 => ?_))
  · refine (zk_mk (ls' := [z_j, z_j, z_j, z_j]) t177_311 rfl).trans ?_
    refine (k_iconst t177_311 rfl zci_0).trans ?_
    exact k_zretC t177_312 rfl (by decide) (by decide)
  · refine (k_aload_n t177_299 rfl rfl).trans ?_
    refine (k_getR t177_300 rfl hW101 zK_396 (by decide) (by decide) (zF_396_35 hW101)).trans ?_
    refine (k_aload_n t177_303 rfl rfl).trans ?_
    refine (k_getI t177_304 rfl hW101 zK_396 (by decide) (by decide)).trans ?_
    refine (k_iconst t177_307 rfl zci_1).trans ?_
    refine (k_isub t177_308 rfl).trans ?_
    refine (k_iload_n t177_309 rfl rfl).trans ?_
    refine (k_iast t177_310 rfl hW101 zK_416 zL_416).trans (z_ite (fun g103 => ?_) (fun _ => rfl))
    refine (zk_mk (ls' := [z_j, z_j, z_j, z_j]) t177_311 rfl).trans ?_
    refine (k_iconst t177_311 rfl zci_0).trans ?_
    exact k_zretC t177_312 rfl (by decide) (by decide)
-- X12_operand
theorem e177 (d : Nat)  (S : z_S) (hW : z_W S)  : fI (d + 1) 177 [.ref 396] S = ((fV d 162 [.ref 396] S).bind fun S2 => (if (gI S2 396 8) ≤ (0 : Int32) then (if z_in ((gI S2 396 37) - (1 : Int32)) 20 then (zb (fI d 176 [.int (gI S2 413 (((gI S2 396 37) - (1 : Int32))).toNatClampNeg)] S2) fun v5 S6 => (if v5 = (0 : Int32) then b177_45 d ((gI S2 396 37) - (1 : Int32)) S6 else (if z_in ((gI S2 396 37) - (1 : Int32)) 20 then (if (gI S6 415 (((gI S2 396 37) - (1 : Int32))).toNatClampNeg) = (0 : Int32) then b177_45 d ((gI S2 396 37) - (1 : Int32)) S6 else b177_46 d ((gI S2 396 37) - (1 : Int32)) (1 : Int32) S6) else none))) else none) else some ((1 : Int32), S2))) := by
  refine (fI_en (Nat.le_of_ble_eq_true rfl) rfl).trans ?_
  refine (k_aload_n t177_0 rfl rfl).trans ?_
  refine k_callV (as := [.ref 396]) (rest := []) t177_1 rfl rfl (by decide) rfl rfl (Nat.le_of_ble_eq_true rfl) rfl (z_rcV hW (zK_396) (by decide)) (by decide) (by decide) hW (fun S2 hW2 => ?_)
  refine (k_aload_n t177_4 rfl rfl).trans ?_
  refine (k_getI t177_5 rfl hW2 zK_396 (by decide) (by decide)).trans ?_
  refine (k_if_le t177_8 rfl).trans (z_ite (fun g3 => ?_) (fun g3 => ?_))
  · refine (k_aload_n t177_13 rfl rfl).trans ?_
    refine (k_getI t177_14 rfl hW2 zK_396 (by decide) (by decide)).trans ?_
    refine (k_iconst t177_17 rfl zci_1).trans ?_
    refine (k_isub t177_18 rfl).trans ?_
    refine (k_istore_n (ls' := [.ref 396, .int ((gI S2 396 37) - (1 : Int32)), z_j, z_j]) t177_19 rfl rfl).trans ?_
    refine (k_aload_n t177_20 rfl rfl).trans ?_
    refine (k_getR t177_21 rfl hW2 zK_396 (by decide) (by decide) (zF_396_32 hW2)).trans ?_
    refine (k_iload_n t177_24 rfl rfl).trans ?_
    refine (k_iald t177_25 rfl hW2 zK_413 zL_413).trans (z_ite (fun g4 => ?_) (fun _ => rfl))
    refine k_callI (as := [.int (gI S2 413 (((gI S2 396 37) - (1 : Int32))).toNatClampNeg)]) (rest := []) t177_26 rfl rfl (by decide) rfl rfl (Nat.le_of_ble_eq_true rfl) rfl (z_rcS (by decide)) (by decide) (Or.inr (by decide)) hW2 (fun v5 S6 hW6 => ?_)
    refine (k_if_eq t177_29 rfl).trans (z_ite (fun g7 => ?_) (fun g7 => ?_))
    · exact (zk_mk (ls' := [.ref 396, .int ((gI S2 396 37) - (1 : Int32)), z_j, z_j]) t177_45 rfl)
    · refine (k_aload_n t177_32 rfl rfl).trans ?_
      refine (k_getR t177_33 rfl hW6 zK_396 (by decide) (by decide) (zF_396_34 hW6)).trans ?_
      refine (k_iload_n t177_36 rfl rfl).trans ?_
      refine (k_zald t177_37 rfl hW6 zK_415 zL_415).trans (z_ite (fun g8 => ?_) (fun _ => rfl))
      refine (k_if_eq t177_38 rfl).trans (z_ite (fun g9 => ?_) (fun g9 => ?_))
      · exact (zk_mk (ls' := [.ref 396, .int ((gI S2 396 37) - (1 : Int32)), z_j, z_j]) t177_45 rfl)
      · refine (k_iconst t177_41 rfl zci_1).trans ?_
        refine (k_goto t177_42 rfl).trans ?_
        exact (zk_mk (ls' := [.ref 396, .int ((gI S2 396 37) - (1 : Int32)), z_j, z_j]) t177_46 rfl)
  · refine (k_iconst t177_11 rfl zci_1).trans ?_
    exact k_zretC t177_12 rfl (by decide) (by decide)
theorem t178_0 : z_ft 178 0 = some (.aload_n 0, 1, none, [], 0, 0, 0, 0) := z_ftd (by decide +kernel)
theorem t178_1 : z_ft 178 1 = some (.invokevirtual 250, 3, none, [], 162, 0, 81, 0) := z_ftd (by decide +kernel)
theorem t178_4 : z_ft 178 4 = some (.aload_n 0, 1, none, [], 0, 0, 0, 0) := z_ftd (by decide +kernel)
theorem t178_5 : z_ft 178 5 = some (.getfield 36, 3, none, [], 12, 8, 9, 0) := z_ftd (by decide +kernel)
theorem t178_8 : z_ft 178 8 = some (.ifCond .le 5, 3, none, [], 13, 0, 0, 0) := z_ftd (by decide +kernel)
theorem t178_11 : z_ft 178 11 = some (.iconst 0, 1, none, [], 0, 0, 0, 0) := z_ftd (by decide +kernel)
theorem t178_12 : z_ft 178 12 = some (.ireturn, 1, none, [], 0, 0, 0, 0) := z_ftd (by decide +kernel)
theorem t178_13 : z_ft 178 13 = some (.aload_n 0, 1, none, [], 0, 0, 0, 0) := z_ftd (by decide +kernel)
theorem t178_14 : z_ft 178 14 = some (.getfield 125, 3, none, [], 12, 37, 38, 0) := z_ftd (by decide +kernel)
theorem t178_17 : z_ft 178 17 = some (.iconst 1, 1, none, [], 0, 0, 0, 0) := z_ftd (by decide +kernel)
theorem t178_18 : z_ft 178 18 = some (.isub, 1, none, [], 0, 0, 0, 0) := z_ftd (by decide +kernel)
theorem t178_19 : z_ft 178 19 = some (.istore_n 1, 1, none, [], 0, 0, 0, 0) := z_ftd (by decide +kernel)
theorem t178_20 : z_ft 178 20 = some (.aload_n 0, 1, none, [], 0, 0, 0, 0) := z_ftd (by decide +kernel)
theorem t178_21 : z_ft 178 21 = some (.getfield 109, 3, none, [], 12, 32, 33, 0) := z_ftd (by decide +kernel)
theorem t178_24 : z_ft 178 24 = some (.iload_n 1, 1, none, [], 0, 0, 0, 0) := z_ftd (by decide +kernel)
theorem t178_25 : z_ft 178 25 = some (.iaload, 1, none, [], 0, 0, 0, 0) := z_ftd (by decide +kernel)
theorem t178_26 : z_ft 178 26 = some (.istore_n 2, 1, none, [], 0, 0, 0, 0) := z_ftd (by decide +kernel)
theorem t178_27 : z_ft 178 27 = some (.iload_n 2, 1, none, [], 0, 0, 0, 0) := z_ftd (by decide +kernel)
theorem t178_28 : z_ft 178 28 = some (.invokestatic 320, 3, none, [], 176, 0, 126, 0) := z_ftd (by decide +kernel)
theorem t178_31 : z_ft 178 31 = some (.istore_n 3, 1, none, [], 0, 0, 0, 0) := z_ftd (by decide +kernel)
theorem t178_32 : z_ft 178 32 = some (.aload_n 0, 1, none, [], 0, 0, 0, 0) := z_ftd (by decide +kernel)
theorem t178_33 : z_ft 178 33 = some (.getfield 112, 3, none, [], 12, 33, 34, 0) := z_ftd (by decide +kernel)
theorem t178_36 : z_ft 178 36 = some (.iload_n 1, 1, none, [], 0, 0, 0, 0) := z_ftd (by decide +kernel)
theorem t178_37 : z_ft 178 37 = some (.iaload, 1, none, [], 0, 0, 0, 0) := z_ftd (by decide +kernel)
theorem t178_38 : z_ft 178 38 = some (.iconst 2, 1, none, [], 0, 0, 0, 0) := z_ftd (by decide +kernel)
theorem t178_39 : z_ft 178 39 = some (.if_icmp .ge 149, 3, none, [], 188, 0, 0, 0) := z_ftd (by decide +kernel)
theorem t178_42 : z_ft 178 42 = some (.aload_n 0, 1, none, [], 0, 0, 0, 0) := z_ftd (by decide +kernel)
theorem t178_43 : z_ft 178 43 = some (.bipush 43, 2, none, [], 0, 0, 0, 0) := z_ftd (by decide +kernel)
theorem t178_45 : z_ft 178 45 = some (.invokevirtual 253, 3, none, [], 164, 0, 87, 0) := z_ftd (by decide +kernel)
theorem t178_48 : z_ft 178 48 = some (.ifCond .ne 39, 3, none, [], 87, 0, 0, 0) := z_ftd (by decide +kernel)
theorem t178_51 : z_ft 178 51 = some (.aload_n 0, 1, none, [], 0, 0, 0, 0) := z_ftd (by decide +kernel)
theorem t178_52 : z_ft 178 52 = some (.bipush 45, 2, none, [], 0, 0, 0, 0) := z_ftd (by decide +kernel)
theorem t178_54 : z_ft 178 54 = some (.invokevirtual 253, 3, none, [], 164, 0, 87, 0) := z_ftd (by decide +kernel)
theorem t178_57 : z_ft 178 57 = some (.ifCond .ne 30, 3, none, [], 87, 0, 0, 0) := z_ftd (by decide +kernel)
theorem t178_60 : z_ft 178 60 = some (.aload_n 0, 1, none, [], 0, 0, 0, 0) := z_ftd (by decide +kernel)
theorem t178_61 : z_ft 178 61 = some (.bipush 42, 2, none, [], 0, 0, 0, 0) := z_ftd (by decide +kernel)
theorem t178_63 : z_ft 178 63 = some (.invokevirtual 253, 3, none, [], 164, 0, 87, 0) := z_ftd (by decide +kernel)
theorem t178_66 : z_ft 178 66 = some (.ifCond .ne 21, 3, none, [], 87, 0, 0, 0) := z_ftd (by decide +kernel)
theorem t178_69 : z_ft 178 69 = some (.aload_n 0, 1, none, [], 0, 0, 0, 0) := z_ftd (by decide +kernel)
theorem t178_70 : z_ft 178 70 = some (.bipush 47, 2, none, [], 0, 0, 0, 0) := z_ftd (by decide +kernel)
theorem t178_72 : z_ft 178 72 = some (.invokevirtual 253, 3, none, [], 164, 0, 87, 0) := z_ftd (by decide +kernel)
theorem t178_75 : z_ft 178 75 = some (.ifCond .ne 12, 3, none, [], 87, 0, 0, 0) := z_ftd (by decide +kernel)
theorem t178_78 : z_ft 178 78 = some (.aload_n 0, 1, none, [], 0, 0, 0, 0) := z_ftd (by decide +kernel)
theorem t178_79 : z_ft 178 79 = some (.bipush 37, 2, none, [], 0, 0, 0, 0) := z_ftd (by decide +kernel)
theorem t178_81 : z_ft 178 81 = some (.invokevirtual 253, 3, none, [], 164, 0, 87, 0) := z_ftd (by decide +kernel)
theorem t178_84 : z_ft 178 84 = some (.ifCond .eq 104, 3, none, [], 188, 0, 0, 0) := z_ftd (by decide +kernel)
theorem t178_87 : z_ft 178 87 = some (.aload_n 0, 1, (some [0]), [], 0, 0, 0, 0) := z_ftd (by decide +kernel)
theorem t178_88 : z_ft 178 88 = some (.aload_n 0, 1, none, [], 0, 0, 0, 0) := z_ftd (by decide +kernel)
theorem t178_89 : z_ft 178 89 = some (.bipush 43, 2, none, [], 0, 0, 0, 0) := z_ftd (by decide +kernel)
theorem t178_91 : z_ft 178 91 = some (.invokevirtual 253, 3, none, [], 164, 0, 87, 0) := z_ftd (by decide +kernel)
theorem t178_94 : z_ft 178 94 = some (.ifCond .ne 12, 3, none, [], 106, 0, 0, 0) := z_ftd (by decide +kernel)
theorem t178_97 : z_ft 178 97 = some (.aload_n 0, 1, none, [], 0, 0, 0, 0) := z_ftd (by decide +kernel)
theorem t178_98 : z_ft 178 98 = some (.bipush 45, 2, none, [], 0, 0, 0, 0) := z_ftd (by decide +kernel)
theorem t178_100 : z_ft 178 100 = some (.invokevirtual 253, 3, none, [], 164, 0, 87, 0) := z_ftd (by decide +kernel)
theorem t178_103 : z_ft 178 103 = some (.ifCond .eq 7, 3, none, [], 110, 0, 0, 0) := z_ftd (by decide +kernel)
theorem t178_106 : z_ft 178 106 = some (.iconst 5, 1, (some [0]), [], 0, 0, 0, 0) := z_ftd (by decide +kernel)
theorem t178_107 : z_ft 178 107 = some (.goto 5, 3, none, [], 112, 0, 0, 0) := z_ftd (by decide +kernel)
theorem t178_110 : z_ft 178 110 = some (.bipush 6, 2, none, [], 0, 0, 0, 0) := z_ftd (by decide +kernel)
theorem t178_112 : z_ft 178 112 = some (.invokevirtual 333, 3, (some [0]), [], 172, 0, 131, 0) := z_ftd (by decide +kernel)
theorem t178_115 : z_ft 178 115 = some (.aload_n 0, 1, none, [], 0, 0, 0, 0) := z_ftd (by decide +kernel)
theorem t178_116 : z_ft 178 116 = some (.aload_n 0, 1, none, [], 0, 0, 0, 0) := z_ftd (by decide +kernel)
theorem t178_117 : z_ft 178 117 = some (.bipush 43, 2, none, [], 0, 0, 0, 0) := z_ftd (by decide +kernel)
theorem t178_119 : z_ft 178 119 = some (.invokevirtual 253, 3, none, [], 164, 0, 87, 0) := z_ftd (by decide +kernel)
theorem t178_122 : z_ft 178 122 = some (.ifCond .eq 8, 3, none, [], 130, 0, 0, 0) := z_ftd (by decide +kernel)
theorem t178_125 : z_ft 178 125 = some (.bipush 31, 2, none, [], 0, 0, 0, 0) := z_ftd (by decide +kernel)
theorem t178_127 : z_ft 178 127 = some (.goto 47, 3, none, [], 174, 0, 0, 0) := z_ftd (by decide +kernel)
theorem t178_130 : z_ft 178 130 = some (.aload_n 0, 1, none, [], 0, 0, 0, 0) := z_ftd (by decide +kernel)
theorem t178_131 : z_ft 178 131 = some (.bipush 45, 2, none, [], 0, 0, 0, 0) := z_ftd (by decide +kernel)
theorem t178_133 : z_ft 178 133 = some (.invokevirtual 253, 3, none, [], 164, 0, 87, 0) := z_ftd (by decide +kernel)
theorem t178_136 : z_ft 178 136 = some (.ifCond .eq 8, 3, none, [], 144, 0, 0, 0) := z_ftd (by decide +kernel)
theorem t178_139 : z_ft 178 139 = some (.bipush 32, 2, none, [], 0, 0, 0, 0) := z_ftd (by decide +kernel)
theorem t178_141 : z_ft 178 141 = some (.goto 33, 3, none, [], 174, 0, 0, 0) := z_ftd (by decide +kernel)
theorem t178_144 : z_ft 178 144 = some (.aload_n 0, 1, none, [], 0, 0, 0, 0) := z_ftd (by decide +kernel)
theorem t178_145 : z_ft 178 145 = some (.bipush 42, 2, none, [], 0, 0, 0, 0) := z_ftd (by decide +kernel)
theorem t178_147 : z_ft 178 147 = some (.invokevirtual 253, 3, none, [], 164, 0, 87, 0) := z_ftd (by decide +kernel)
theorem t178_150 : z_ft 178 150 = some (.ifCond .eq 8, 3, none, [], 158, 0, 0, 0) := z_ftd (by decide +kernel)
theorem t178_153 : z_ft 178 153 = some (.bipush 33, 2, none, [], 0, 0, 0, 0) := z_ftd (by decide +kernel)
theorem t178_155 : z_ft 178 155 = some (.goto 19, 3, none, [], 174, 0, 0, 0) := z_ftd (by decide +kernel)
theorem t178_158 : z_ft 178 158 = some (.aload_n 0, 1, none, [], 0, 0, 0, 0) := z_ftd (by decide +kernel)
theorem t178_159 : z_ft 178 159 = some (.bipush 47, 2, none, [], 0, 0, 0, 0) := z_ftd (by decide +kernel)
theorem t178_161 : z_ft 178 161 = some (.invokevirtual 253, 3, none, [], 164, 0, 87, 0) := z_ftd (by decide +kernel)
theorem t178_164 : z_ft 178 164 = some (.ifCond .eq 8, 3, none, [], 172, 0, 0, 0) := z_ftd (by decide +kernel)
theorem t178_167 : z_ft 178 167 = some (.bipush 34, 2, none, [], 0, 0, 0, 0) := z_ftd (by decide +kernel)
theorem t178_169 : z_ft 178 169 = some (.goto 5, 3, none, [], 174, 0, 0, 0) := z_ftd (by decide +kernel)
theorem t178_172 : z_ft 178 172 = some (.bipush 35, 2, none, [], 0, 0, 0, 0) := z_ftd (by decide +kernel)
theorem t178_174 : z_ft 178 174 = some (.invokevirtual 327, 3, (some [0]), [], 173, 0, 127, 0) := z_ftd (by decide +kernel)
theorem t178_177 : z_ft 178 177 = some (.aload_n 0, 1, none, [], 0, 0, 0, 0) := z_ftd (by decide +kernel)
theorem t178_178 : z_ft 178 178 = some (.invokevirtual 256, 3, none, [], 163, 0, 75, 0) := z_ftd (by decide +kernel)
theorem t178_181 : z_ft 178 181 = some (.aload_n 0, 1, none, [], 0, 0, 0, 0) := z_ftd (by decide +kernel)
theorem t178_182 : z_ft 178 182 = some (.iconst 0, 1, none, [], 0, 0, 0, 0) := z_ftd (by decide +kernel)
theorem t178_183 : z_ft 178 183 = some (.putfield 137, 3, none, [], 12, 41, 42, 0) := z_ftd (by decide +kernel)
theorem t178_186 : z_ft 178 186 = some (.iconst 1, 1, none, [], 0, 0, 0, 0) := z_ftd (by decide +kernel)
theorem t178_187 : z_ft 178 187 = some (.ireturn, 1, none, [], 0, 0, 0, 0) := z_ftd (by decide +kernel)
theorem t178_188 : z_ft 178 188 = some (.iload_n 3, 1, (some [0, 1, 2, 3]), [], 0, 0, 0, 0) := z_ftd (by decide +kernel)
theorem t178_189 : z_ft 178 189 = some (.ifCond .eq 96, 3, none, [], 285, 0, 0, 0) := z_ftd (by decide +kernel)
theorem t178_192 : z_ft 178 192 = some (.aload_n 0, 1, none, [], 0, 0, 0, 0) := z_ftd (by decide +kernel)
theorem t178_193 : z_ft 178 193 = some (.getfield 112, 3, none, [], 12, 33, 34, 0) := z_ftd (by decide +kernel)
theorem t178_196 : z_ft 178 196 = some (.iload_n 1, 1, none, [], 0, 0, 0, 0) := z_ftd (by decide +kernel)
theorem t178_197 : z_ft 178 197 = some (.iaload, 1, none, [], 0, 0, 0, 0) := z_ftd (by decide +kernel)
theorem t178_198 : z_ft 178 198 = some (.ifCond .ne 87, 3, none, [], 285, 0, 0, 0) := z_ftd (by decide +kernel)
theorem t178_201 : z_ft 178 201 = some (.aload_n 0, 1, none, [], 0, 0, 0, 0) := z_ftd (by decide +kernel)
theorem t178_202 : z_ft 178 202 = some (.bipush 60, 2, none, [], 0, 0, 0, 0) := z_ftd (by decide +kernel)
theorem t178_204 : z_ft 178 204 = some (.invokevirtual 253, 3, none, [], 164, 0, 87, 0) := z_ftd (by decide +kernel)
theorem t178_207 : z_ft 178 207 = some (.ifCond .ne 21, 3, none, [], 228, 0, 0, 0) := z_ftd (by decide +kernel)
theorem t178_210 : z_ft 178 210 = some (.aload_n 0, 1, none, [], 0, 0, 0, 0) := z_ftd (by decide +kernel)
theorem t178_211 : z_ft 178 211 = some (.bipush 62, 2, none, [], 0, 0, 0, 0) := z_ftd (by decide +kernel)
theorem t178_213 : z_ft 178 213 = some (.invokevirtual 253, 3, none, [], 164, 0, 87, 0) := z_ftd (by decide +kernel)
theorem t178_216 : z_ft 178 216 = some (.ifCond .ne 12, 3, none, [], 228, 0, 0, 0) := z_ftd (by decide +kernel)
theorem t178_219 : z_ft 178 219 = some (.aload_n 0, 1, none, [], 0, 0, 0, 0) := z_ftd (by decide +kernel)
theorem t178_220 : z_ft 178 220 = some (.bipush 61, 2, none, [], 0, 0, 0, 0) := z_ftd (by decide +kernel)
theorem t178_222 : z_ft 178 222 = some (.invokevirtual 253, 3, none, [], 164, 0, 87, 0) := z_ftd (by decide +kernel)
theorem t178_225 : z_ft 178 225 = some (.ifCond .eq 60, 3, none, [], 285, 0, 0, 0) := z_ftd (by decide +kernel)
theorem t178_228 : z_ft 178 228 = some (.aload_n 0, 1, (some [0, 1]), [], 0, 0, 0, 0) := z_ftd (by decide +kernel)
theorem t178_229 : z_ft 178 229 = some (.iconst 5, 1, none, [], 0, 0, 0, 0) := z_ftd (by decide +kernel)
theorem t178_230 : z_ft 178 230 = some (.invokevirtual 333, 3, none, [], 172, 0, 131, 0) := z_ftd (by decide +kernel)
theorem t178_233 : z_ft 178 233 = some (.aload_n 0, 1, none, [], 0, 0, 0, 0) := z_ftd (by decide +kernel)
theorem t178_234 : z_ft 178 234 = some (.aload_n 0, 1, none, [], 0, 0, 0, 0) := z_ftd (by decide +kernel)
theorem t178_235 : z_ft 178 235 = some (.bipush 60, 2, none, [], 0, 0, 0, 0) := z_ftd (by decide +kernel)
theorem t178_237 : z_ft 178 237 = some (.invokevirtual 253, 3, none, [], 164, 0, 87, 0) := z_ftd (by decide +kernel)
theorem t178_240 : z_ft 178 240 = some (.ifCond .eq 8, 3, none, [], 248, 0, 0, 0) := z_ftd (by decide +kernel)
theorem t178_243 : z_ft 178 243 = some (.bipush 38, 2, none, [], 0, 0, 0, 0) := z_ftd (by decide +kernel)
theorem t178_245 : z_ft 178 245 = some (.goto 19, 3, none, [], 264, 0, 0, 0) := z_ftd (by decide +kernel)
theorem t178_248 : z_ft 178 248 = some (.aload_n 0, 1, none, [], 0, 0, 0, 0) := z_ftd (by decide +kernel)
theorem t178_249 : z_ft 178 249 = some (.bipush 62, 2, none, [], 0, 0, 0, 0) := z_ftd (by decide +kernel)
theorem t178_251 : z_ft 178 251 = some (.invokevirtual 253, 3, none, [], 164, 0, 87, 0) := z_ftd (by decide +kernel)
theorem t178_254 : z_ft 178 254 = some (.ifCond .eq 8, 3, none, [], 262, 0, 0, 0) := z_ftd (by decide +kernel)
theorem t178_257 : z_ft 178 257 = some (.bipush 39, 2, none, [], 0, 0, 0, 0) := z_ftd (by decide +kernel)
theorem t178_259 : z_ft 178 259 = some (.goto 5, 3, none, [], 264, 0, 0, 0) := z_ftd (by decide +kernel)
theorem t178_262 : z_ft 178 262 = some (.bipush 40, 2, none, [], 0, 0, 0, 0) := z_ftd (by decide +kernel)
theorem t178_264 : z_ft 178 264 = some (.invokevirtual 327, 3, (some [0, 1]), [], 173, 0, 127, 0) := z_ftd (by decide +kernel)
theorem t178_267 : z_ft 178 267 = some (.aload_n 0, 1, none, [], 0, 0, 0, 0) := z_ftd (by decide +kernel)
theorem t178_268 : z_ft 178 268 = some (.getfield 112, 3, none, [], 12, 33, 34, 0) := z_ftd (by decide +kernel)
theorem t178_271 : z_ft 178 271 = some (.iload_n 1, 1, none, [], 0, 0, 0, 0) := z_ftd (by decide +kernel)
theorem t178_272 : z_ft 178 272 = some (.iconst 1, 1, none, [], 0, 0, 0, 0) := z_ftd (by decide +kernel)
theorem t178_273 : z_ft 178 273 = some (.iastore, 1, none, [], 0, 0, 0, 0) := z_ftd (by decide +kernel)
theorem t178_274 : z_ft 178 274 = some (.aload_n 0, 1, none, [], 0, 0, 0, 0) := z_ftd (by decide +kernel)
theorem t178_275 : z_ft 178 275 = some (.invokevirtual 256, 3, none, [], 163, 0, 75, 0) := z_ftd (by decide +kernel)
theorem t178_278 : z_ft 178 278 = some (.aload_n 0, 1, none, [], 0, 0, 0, 0) := z_ftd (by decide +kernel)
theorem t178_279 : z_ft 178 279 = some (.iconst 0, 1, none, [], 0, 0, 0, 0) := z_ftd (by decide +kernel)
theorem t178_280 : z_ft 178 280 = some (.putfield 137, 3, none, [], 12, 41, 42, 0) := z_ftd (by decide +kernel)
theorem t178_283 : z_ft 178 283 = some (.iconst 1, 1, none, [], 0, 0, 0, 0) := z_ftd (by decide +kernel)
theorem t178_284 : z_ft 178 284 = some (.ireturn, 1, none, [], 0, 0, 0, 0) := z_ftd (by decide +kernel)
theorem t178_285 : z_ft 178 285 = some (.iload_n 3, 1, (some [0, 1, 2, 3]), [], 0, 0, 0, 0) := z_ftd (by decide +kernel)
theorem t178_286 : z_ft 178 286 = some (.ifCond .eq 114, 3, none, [], 400, 0, 0, 0) := z_ftd (by decide +kernel)
theorem t178_289 : z_ft 178 289 = some (.aload_n 0, 1, none, [], 0, 0, 0, 0) := z_ftd (by decide +kernel)
theorem t178_290 : z_ft 178 290 = some (.ldc2_w 297, 3, none, [], 0, 0, 112, 6385252) := z_ftd (by decide +kernel)
theorem t178_293 : z_ft 178 293 = some (.invokevirtual 323, 3, none, [], 165, 0, 83, 0) := z_ftd (by decide +kernel)
theorem t178_296 : z_ft 178 296 = some (.ifCond .ne 13, 3, none, [], 309, 0, 0, 0) := z_ftd (by decide +kernel)
theorem t178_299 : z_ft 178 299 = some (.aload_n 0, 1, none, [], 0, 0, 0, 0) := z_ftd (by decide +kernel)
theorem t178_300 : z_ft 178 300 = some (.ldc2_w 295, 3, none, [], 0, 0, 111, 28530) := z_ftd (by decide +kernel)
theorem t178_303 : z_ft 178 303 = some (.invokevirtual 323, 3, none, [], 165, 0, 83, 0) := z_ftd (by decide +kernel)
theorem t178_306 : z_ft 178 306 = some (.ifCond .eq 94, 3, none, [], 400, 0, 0, 0) := z_ftd (by decide +kernel)
theorem t178_309 : z_ft 178 309 = some (.aload_n 0, 1, (some [0, 1]), [], 0, 0, 0, 0) := z_ftd (by decide +kernel)
theorem t178_310 : z_ft 178 310 = some (.getfield 112, 3, none, [], 12, 33, 34, 0) := z_ftd (by decide +kernel)
theorem t178_313 : z_ft 178 313 = some (.iload_n 1, 1, none, [], 0, 0, 0, 0) := z_ftd (by decide +kernel)
theorem t178_314 : z_ft 178 314 = some (.iaload, 1, none, [], 0, 0, 0, 0) := z_ftd (by decide +kernel)
theorem t178_315 : z_ft 178 315 = some (.ifCond .ne 12, 3, none, [], 327, 0, 0, 0) := z_ftd (by decide +kernel)
theorem t178_318 : z_ft 178 318 = some (.aload_n 0, 1, none, [], 0, 0, 0, 0) := z_ftd (by decide +kernel)
theorem t178_319 : z_ft 178 319 = some (.iconst 1, 1, none, [], 0, 0, 0, 0) := z_ftd (by decide +kernel)
theorem t178_320 : z_ft 178 320 = some (.aload_n 0, 1, none, [], 0, 0, 0, 0) := z_ftd (by decide +kernel)
theorem t178_321 : z_ft 178 321 = some (.getfield 23, 3, none, [], 12, 4, 5, 0) := z_ftd (by decide +kernel)
theorem t178_324 : z_ft 178 324 = some (.invokevirtual 239, 3, none, [], 159, 0, 82, 0) := z_ftd (by decide +kernel)
theorem t178_327 : z_ft 178 327 = some (.aload_n 0, 1, (some [0, 1]), [], 0, 0, 0, 0) := z_ftd (by decide +kernel)
theorem t178_328 : z_ft 178 328 = some (.getfield 36, 3, none, [], 12, 8, 9, 0) := z_ftd (by decide +kernel)
theorem t178_331 : z_ft 178 331 = some (.ifCond .le 5, 3, none, [], 336, 0, 0, 0) := z_ftd (by decide +kernel)
theorem t178_334 : z_ft 178 334 = some (.iconst 0, 1, none, [], 0, 0, 0, 0) := z_ftd (by decide +kernel)
theorem t178_335 : z_ft 178 335 = some (.ireturn, 1, none, [], 0, 0, 0, 0) := z_ftd (by decide +kernel)
theorem t178_336 : z_ft 178 336 = some (.aload_n 0, 1, none, [], 0, 0, 0, 0) := z_ftd (by decide +kernel)
theorem t178_337 : z_ft 178 337 = some (.ldc2_w 297, 3, none, [], 0, 0, 112, 6385252) := z_ftd (by decide +kernel)
theorem t178_340 : z_ft 178 340 = some (.invokevirtual 323, 3, none, [], 165, 0, 83, 0) := z_ftd (by decide +kernel)
theorem t178_343 : z_ft 178 343 = some (.istore 4, 2, none, [], 0, 0, 0, 0) := z_ftd (by decide +kernel)
theorem t178_345 : z_ft 178 345 = some (.aload_n 0, 1, none, [], 0, 0, 0, 0) := z_ftd (by decide +kernel)
theorem t178_346 : z_ft 178 346 = some (.iload 4, 2, none, [], 0, 0, 0, 0) := z_ftd (by decide +kernel)
theorem t178_348 : z_ft 178 348 = some (.ifCond .eq 7, 3, none, [], 355, 0, 0, 0) := z_ftd (by decide +kernel)
theorem t178_351 : z_ft 178 351 = some (.iconst 2, 1, none, [], 0, 0, 0, 0) := z_ftd (by decide +kernel)
theorem t178_352 : z_ft 178 352 = some (.goto 4, 3, none, [], 356, 0, 0, 0) := z_ftd (by decide +kernel)
theorem t178_355 : z_ft 178 355 = some (.iconst 1, 1, none, [], 0, 0, 0, 0) := z_ftd (by decide +kernel)
theorem t178_356 : z_ft 178 356 = some (.invokevirtual 333, 3, (some [0, 1, 4]), [], 172, 0, 131, 0) := z_ftd (by decide +kernel)
theorem t178_359 : z_ft 178 359 = some (.aload_n 0, 1, none, [], 0, 0, 0, 0) := z_ftd (by decide +kernel)
theorem t178_360 : z_ft 178 360 = some (.iload 4, 2, none, [], 0, 0, 0, 0) := z_ftd (by decide +kernel)
theorem t178_362 : z_ft 178 362 = some (.ifCond .eq 8, 3, none, [], 370, 0, 0, 0) := z_ftd (by decide +kernel)
theorem t178_365 : z_ft 178 365 = some (.bipush 41, 2, none, [], 0, 0, 0, 0) := z_ftd (by decide +kernel)
theorem t178_367 : z_ft 178 367 = some (.goto 5, 3, none, [], 372, 0, 0, 0) := z_ftd (by decide +kernel)
theorem t178_370 : z_ft 178 370 = some (.bipush 42, 2, none, [], 0, 0, 0, 0) := z_ftd (by decide +kernel)
theorem t178_372 : z_ft 178 372 = some (.invokevirtual 327, 3, (some [0, 1]), [], 173, 0, 127, 0) := z_ftd (by decide +kernel)
theorem t178_375 : z_ft 178 375 = some (.aload_n 0, 1, none, [], 0, 0, 0, 0) := z_ftd (by decide +kernel)
theorem t178_376 : z_ft 178 376 = some (.getfield 112, 3, none, [], 12, 33, 34, 0) := z_ftd (by decide +kernel)
theorem t178_379 : z_ft 178 379 = some (.iload_n 1, 1, none, [], 0, 0, 0, 0) := z_ftd (by decide +kernel)
theorem t178_380 : z_ft 178 380 = some (.iconst 0, 1, none, [], 0, 0, 0, 0) := z_ftd (by decide +kernel)
theorem t178_381 : z_ft 178 381 = some (.iastore, 1, none, [], 0, 0, 0, 0) := z_ftd (by decide +kernel)
theorem t178_382 : z_ft 178 382 = some (.aload_n 0, 1, none, [], 0, 0, 0, 0) := z_ftd (by decide +kernel)
theorem t178_383 : z_ft 178 383 = some (.getfield 115, 3, none, [], 12, 34, 35, 0) := z_ftd (by decide +kernel)
theorem t178_386 : z_ft 178 386 = some (.iload_n 1, 1, none, [], 0, 0, 0, 0) := z_ftd (by decide +kernel)
theorem t178_387 : z_ft 178 387 = some (.iconst 1, 1, none, [], 0, 0, 0, 0) := z_ftd (by decide +kernel)
theorem t178_388 : z_ft 178 388 = some (.bastore, 1, none, [], 0, 0, 0, 0) := z_ftd (by decide +kernel)
theorem t178_389 : z_ft 178 389 = some (.aload_n 0, 1, none, [], 0, 0, 0, 0) := z_ftd (by decide +kernel)
theorem t178_390 : z_ft 178 390 = some (.invokevirtual 256, 3, none, [], 163, 0, 75, 0) := z_ftd (by decide +kernel)
theorem t178_393 : z_ft 178 393 = some (.aload_n 0, 1, none, [], 0, 0, 0, 0) := z_ftd (by decide +kernel)
theorem t178_394 : z_ft 178 394 = some (.iconst 0, 1, none, [], 0, 0, 0, 0) := z_ftd (by decide +kernel)
theorem t178_395 : z_ft 178 395 = some (.putfield 137, 3, none, [], 12, 41, 42, 0) := z_ftd (by decide +kernel)
theorem t178_398 : z_ft 178 398 = some (.iconst 1, 1, none, [], 0, 0, 0, 0) := z_ftd (by decide +kernel)
theorem t178_399 : z_ft 178 399 = some (.ireturn, 1, none, [], 0, 0, 0, 0) := z_ftd (by decide +kernel)
theorem t178_400 : z_ft 178 400 = some (.iload_n 3, 1, (some [0, 1, 2, 3]), [], 0, 0, 0, 0) := z_ftd (by decide +kernel)
theorem t178_401 : z_ft 178 401 = some (.ifCond .eq 21, 3, none, [], 422, 0, 0, 0) := z_ftd (by decide +kernel)
theorem t178_404 : z_ft 178 404 = some (.aload_n 0, 1, none, [], 0, 0, 0, 0) := z_ftd (by decide +kernel)
theorem t178_405 : z_ft 178 405 = some (.getfield 112, 3, none, [], 12, 33, 34, 0) := z_ftd (by decide +kernel)
theorem t178_408 : z_ft 178 408 = some (.iload_n 1, 1, none, [], 0, 0, 0, 0) := z_ftd (by decide +kernel)
theorem t178_409 : z_ft 178 409 = some (.iaload, 1, none, [], 0, 0, 0, 0) := z_ftd (by decide +kernel)
theorem t178_410 : z_ft 178 410 = some (.ifCond .ne 12, 3, none, [], 422, 0, 0, 0) := z_ftd (by decide +kernel)
theorem t178_413 : z_ft 178 413 = some (.aload_n 0, 1, none, [], 0, 0, 0, 0) := z_ftd (by decide +kernel)
theorem t178_414 : z_ft 178 414 = some (.iconst 1, 1, none, [], 0, 0, 0, 0) := z_ftd (by decide +kernel)
theorem t178_415 : z_ft 178 415 = some (.aload_n 0, 1, none, [], 0, 0, 0, 0) := z_ftd (by decide +kernel)
theorem t178_416 : z_ft 178 416 = some (.getfield 23, 3, none, [], 12, 4, 5, 0) := z_ftd (by decide +kernel)
theorem t178_419 : z_ft 178 419 = some (.invokevirtual 239, 3, none, [], 159, 0, 82, 0) := z_ftd (by decide +kernel)
theorem t178_422 : z_ft 178 422 = some (.iload_n 2, 1, (some [0, 1, 2]), [], 0, 0, 0, 0) := z_ftd (by decide +kernel)
theorem t178_423 : z_ft 178 423 = some (.iconst 2, 1, none, [], 0, 0, 0, 0) := z_ftd (by decide +kernel)
theorem t178_424 : z_ft 178 424 = some (.if_icmp .ge 17, 3, none, [], 441, 0, 0, 0) := z_ftd (by decide +kernel)
theorem t178_427 : z_ft 178 427 = some (.aload_n 0, 1, none, [], 0, 0, 0, 0) := z_ftd (by decide +kernel)
theorem t178_428 : z_ft 178 428 = some (.getfield 36, 3, none, [], 12, 8, 9, 0) := z_ftd (by decide +kernel)
theorem t178_431 : z_ft 178 431 = some (.ifCond .ne 8, 3, none, [], 439, 0, 0, 0) := z_ftd (by decide +kernel)
theorem t178_434 : z_ft 178 434 = some (.aload_n 0, 1, none, [], 0, 0, 0, 0) := z_ftd (by decide +kernel)
theorem t178_435 : z_ft 178 435 = some (.iconst 1, 1, none, [], 0, 0, 0, 0) := z_ftd (by decide +kernel)
theorem t178_436 : z_ft 178 436 = some (.invokevirtual 333, 3, none, [], 172, 0, 131, 0) := z_ftd (by decide +kernel)
theorem t178_439 : z_ft 178 439 = some (.iconst 0, 1, (some []), [], 0, 0, 0, 0) := z_ftd (by decide +kernel)
theorem t178_440 : z_ft 178 440 = some (.ireturn, 1, none, [], 0, 0, 0, 0) := z_ftd (by decide +kernel)
theorem t178_441 : z_ft 178 441 = some (.iload_n 2, 1, none, [], 0, 0, 0, 0) := z_ftd (by decide +kernel)
theorem t178_442 : z_ft 178 442 = some (.iconst 3, 1, none, [], 0, 0, 0, 0) := z_ftd (by decide +kernel)
theorem t178_443 : z_ft 178 443 = some (.if_icmp .eq 9, 3, none, [], 452, 0, 0, 0) := z_ftd (by decide +kernel)
theorem t178_446 : z_ft 178 446 = some (.iload_n 2, 1, none, [], 0, 0, 0, 0) := z_ftd (by decide +kernel)
theorem t178_447 : z_ft 178 447 = some (.bipush 6, 2, none, [], 0, 0, 0, 0) := z_ftd (by decide +kernel)
theorem t178_449 : z_ft 178 449 = some (.if_icmp .ne 69, 3, none, [], 518, 0, 0, 0) := z_ftd (by decide +kernel)
theorem t178_452 : z_ft 178 452 = some (.aload_n 0, 1, (some [0, 1, 2]), [], 0, 0, 0, 0) := z_ftd (by decide +kernel)
theorem t178_453 : z_ft 178 453 = some (.bipush 44, 2, none, [], 0, 0, 0, 0) := z_ftd (by decide +kernel)
theorem t178_455 : z_ft 178 455 = some (.invokevirtual 253, 3, none, [], 164, 0, 87, 0) := z_ftd (by decide +kernel)
theorem t178_458 : z_ft 178 458 = some (.ifCond .ne 12, 3, none, [], 470, 0, 0, 0) := z_ftd (by decide +kernel)
theorem t178_461 : z_ft 178 461 = some (.aload_n 0, 1, none, [], 0, 0, 0, 0) := z_ftd (by decide +kernel)
theorem t178_462 : z_ft 178 462 = some (.iconst 1, 1, none, [], 0, 0, 0, 0) := z_ftd (by decide +kernel)
theorem t178_463 : z_ft 178 463 = some (.aload_n 0, 1, none, [], 0, 0, 0, 0) := z_ftd (by decide +kernel)
theorem t178_464 : z_ft 178 464 = some (.getfield 23, 3, none, [], 12, 4, 5, 0) := z_ftd (by decide +kernel)
theorem t178_467 : z_ft 178 467 = some (.invokevirtual 239, 3, none, [], 159, 0, 82, 0) := z_ftd (by decide +kernel)
theorem t178_470 : z_ft 178 470 = some (.aload_n 0, 1, (some [0, 1, 2]), [], 0, 0, 0, 0) := z_ftd (by decide +kernel)
theorem t178_471 : z_ft 178 471 = some (.getfield 36, 3, none, [], 12, 8, 9, 0) := z_ftd (by decide +kernel)
theorem t178_474 : z_ft 178 474 = some (.ifCond .le 5, 3, none, [], 479, 0, 0, 0) := z_ftd (by decide +kernel)
theorem t178_477 : z_ft 178 477 = some (.iconst 0, 1, none, [], 0, 0, 0, 0) := z_ftd (by decide +kernel)
theorem t178_478 : z_ft 178 478 = some (.ireturn, 1, none, [], 0, 0, 0, 0) := z_ftd (by decide +kernel)
theorem t178_479 : z_ft 178 479 = some (.aload_n 0, 1, none, [], 0, 0, 0, 0) := z_ftd (by decide +kernel)
theorem t178_480 : z_ft 178 480 = some (.iconst 1, 1, none, [], 0, 0, 0, 0) := z_ftd (by decide +kernel)
theorem t178_481 : z_ft 178 481 = some (.invokevirtual 333, 3, none, [], 172, 0, 131, 0) := z_ftd (by decide +kernel)
theorem t178_484 : z_ft 178 484 = some (.aload_n 0, 1, none, [], 0, 0, 0, 0) := z_ftd (by decide +kernel)
theorem t178_485 : z_ft 178 485 = some (.getfield 109, 3, none, [], 12, 32, 33, 0) := z_ftd (by decide +kernel)
theorem t178_488 : z_ft 178 488 = some (.iload_n 1, 1, none, [], 0, 0, 0, 0) := z_ftd (by decide +kernel)
theorem t178_489 : z_ft 178 489 = some (.iload_n 2, 1, none, [], 0, 0, 0, 0) := z_ftd (by decide +kernel)
theorem t178_490 : z_ft 178 490 = some (.iconst 3, 1, none, [], 0, 0, 0, 0) := z_ftd (by decide +kernel)
theorem t178_491 : z_ft 178 491 = some (.if_icmp .ne 7, 3, none, [], 498, 0, 0, 0) := z_ftd (by decide +kernel)
theorem t178_494 : z_ft 178 494 = some (.iconst 4, 1, none, [], 0, 0, 0, 0) := z_ftd (by decide +kernel)
theorem t178_495 : z_ft 178 495 = some (.goto 4, 3, none, [], 499, 0, 0, 0) := z_ftd (by decide +kernel)
theorem t178_498 : z_ft 178 498 = some (.iconst 3, 1, none, [], 0, 0, 0, 0) := z_ftd (by decide +kernel)
theorem t178_499 : z_ft 178 499 = some (.iastore, 1, (some [0, 1]), [], 0, 0, 0, 0) := z_ftd (by decide +kernel)
theorem t178_500 : z_ft 178 500 = some (.aload_n 0, 1, none, [], 0, 0, 0, 0) := z_ftd (by decide +kernel)
theorem t178_501 : z_ft 178 501 = some (.getfield 112, 3, none, [], 12, 33, 34, 0) := z_ftd (by decide +kernel)
theorem t178_504 : z_ft 178 504 = some (.iload_n 1, 1, none, [], 0, 0, 0, 0) := z_ftd (by decide +kernel)
theorem t178_505 : z_ft 178 505 = some (.iconst 0, 1, none, [], 0, 0, 0, 0) := z_ftd (by decide +kernel)
theorem t178_506 : z_ft 178 506 = some (.iastore, 1, none, [], 0, 0, 0, 0) := z_ftd (by decide +kernel)
theorem t178_507 : z_ft 178 507 = some (.aload_n 0, 1, none, [], 0, 0, 0, 0) := z_ftd (by decide +kernel)
theorem t178_508 : z_ft 178 508 = some (.invokevirtual 256, 3, none, [], 163, 0, 75, 0) := z_ftd (by decide +kernel)
theorem t178_511 : z_ft 178 511 = some (.aload_n 0, 1, none, [], 0, 0, 0, 0) := z_ftd (by decide +kernel)
theorem t178_512 : z_ft 178 512 = some (.iconst 0, 1, none, [], 0, 0, 0, 0) := z_ftd (by decide +kernel)
theorem t178_513 : z_ft 178 513 = some (.putfield 137, 3, none, [], 12, 41, 42, 0) := z_ftd (by decide +kernel)
theorem t178_516 : z_ft 178 516 = some (.iconst 1, 1, none, [], 0, 0, 0, 0) := z_ftd (by decide +kernel)
theorem t178_517 : z_ft 178 517 = some (.ireturn, 1, none, [], 0, 0, 0, 0) := z_ftd (by decide +kernel)
theorem t178_518 : z_ft 178 518 = some (.aload_n 0, 1, none, [], 0, 0, 0, 0) := z_ftd (by decide +kernel)
theorem t178_519 : z_ft 178 519 = some (.iload_n 2, 1, none, [], 0, 0, 0, 0) := z_ftd (by decide +kernel)
theorem t178_520 : z_ft 178 520 = some (.iconst 5, 1, none, [], 0, 0, 0, 0) := z_ftd (by decide +kernel)
theorem t178_521 : z_ft 178 521 = some (.if_icmp .ne 8, 3, none, [], 529, 0, 0, 0) := z_ftd (by decide +kernel)
theorem t178_524 : z_ft 178 524 = some (.bipush 93, 2, none, [], 0, 0, 0, 0) := z_ftd (by decide +kernel)
theorem t178_526 : z_ft 178 526 = some (.goto 5, 3, none, [], 531, 0, 0, 0) := z_ftd (by decide +kernel)
theorem t178_529 : z_ft 178 529 = some (.bipush 41, 2, none, [], 0, 0, 0, 0) := z_ftd (by decide +kernel)
theorem t178_531 : z_ft 178 531 = some (.invokevirtual 253, 3, (some [0, 1, 2]), [], 164, 0, 87, 0) := z_ftd (by decide +kernel)
theorem t178_534 : z_ft 178 534 = some (.ifCond .ne 12, 3, none, [], 546, 0, 0, 0) := z_ftd (by decide +kernel)
theorem t178_537 : z_ft 178 537 = some (.aload_n 0, 1, none, [], 0, 0, 0, 0) := z_ftd (by decide +kernel)
theorem t178_538 : z_ft 178 538 = some (.iconst 1, 1, none, [], 0, 0, 0, 0) := z_ftd (by decide +kernel)
theorem t178_539 : z_ft 178 539 = some (.aload_n 0, 1, none, [], 0, 0, 0, 0) := z_ftd (by decide +kernel)
theorem t178_540 : z_ft 178 540 = some (.getfield 23, 3, none, [], 12, 4, 5, 0) := z_ftd (by decide +kernel)
theorem t178_543 : z_ft 178 543 = some (.invokevirtual 239, 3, none, [], 159, 0, 82, 0) := z_ftd (by decide +kernel)
theorem t178_546 : z_ft 178 546 = some (.aload_n 0, 1, (some [0, 1, 2]), [], 0, 0, 0, 0) := z_ftd (by decide +kernel)
theorem t178_547 : z_ft 178 547 = some (.getfield 36, 3, none, [], 12, 8, 9, 0) := z_ftd (by decide +kernel)
theorem t178_550 : z_ft 178 550 = some (.ifCond .le 5, 3, none, [], 555, 0, 0, 0) := z_ftd (by decide +kernel)
theorem t178_553 : z_ft 178 553 = some (.iconst 0, 1, none, [], 0, 0, 0, 0) := z_ftd (by decide +kernel)
theorem t178_554 : z_ft 178 554 = some (.ireturn, 1, none, [], 0, 0, 0, 0) := z_ftd (by decide +kernel)
theorem t178_555 : z_ft 178 555 = some (.aload_n 0, 1, none, [], 0, 0, 0, 0) := z_ftd (by decide +kernel)
theorem t178_556 : z_ft 178 556 = some (.iconst 1, 1, none, [], 0, 0, 0, 0) := z_ftd (by decide +kernel)
theorem t178_557 : z_ft 178 557 = some (.invokevirtual 333, 3, none, [], 172, 0, 131, 0) := z_ftd (by decide +kernel)
theorem t178_560 : z_ft 178 560 = some (.aload_n 0, 1, none, [], 0, 0, 0, 0) := z_ftd (by decide +kernel)
theorem t178_561 : z_ft 178 561 = some (.dup, 1, none, [], 0, 0, 0, 0) := z_ftd (by decide +kernel)
theorem t178_562 : z_ft 178 562 = some (.getfield 125, 3, none, [], 12, 37, 38, 0) := z_ftd (by decide +kernel)
theorem t178_565 : z_ft 178 565 = some (.iconst 1, 1, none, [], 0, 0, 0, 0) := z_ftd (by decide +kernel)
theorem t178_566 : z_ft 178 566 = some (.isub, 1, none, [], 0, 0, 0, 0) := z_ftd (by decide +kernel)
theorem t178_567 : z_ft 178 567 = some (.putfield 125, 3, none, [], 12, 37, 38, 0) := z_ftd (by decide +kernel)
theorem t178_570 : z_ft 178 570 = some (.aload_n 0, 1, none, [], 0, 0, 0, 0) := z_ftd (by decide +kernel)
theorem t178_571 : z_ft 178 571 = some (.dup, 1, none, [], 0, 0, 0, 0) := z_ftd (by decide +kernel)
theorem t178_572 : z_ft 178 572 = some (.getfield 128, 3, none, [], 12, 38, 39, 0) := z_ftd (by decide +kernel)
theorem t178_575 : z_ft 178 575 = some (.iconst 1, 1, none, [], 0, 0, 0, 0) := z_ftd (by decide +kernel)
theorem t178_576 : z_ft 178 576 = some (.isub, 1, none, [], 0, 0, 0, 0) := z_ftd (by decide +kernel)
theorem t178_577 : z_ft 178 577 = some (.putfield 128, 3, none, [], 12, 38, 39, 0) := z_ftd (by decide +kernel)
theorem t178_580 : z_ft 178 580 = some (.iload_n 2, 1, none, [], 0, 0, 0, 0) := z_ftd (by decide +kernel)
theorem t178_581 : z_ft 178 581 = some (.iconst 4, 1, none, [], 0, 0, 0, 0) := z_ftd (by decide +kernel)
theorem t178_582 : z_ft 178 582 = some (.if_icmp .ne 14, 3, none, [], 596, 0, 0, 0) := z_ftd (by decide +kernel)
theorem t178_585 : z_ft 178 585 = some (.aload_n 0, 1, none, [], 0, 0, 0, 0) := z_ftd (by decide +kernel)
theorem t178_586 : z_ft 178 586 = some (.aload_n 0, 1, none, [], 0, 0, 0, 0) := z_ftd (by decide +kernel)
theorem t178_587 : z_ft 178 587 = some (.getfield 119, 3, none, [], 12, 35, 36, 0) := z_ftd (by decide +kernel)
theorem t178_590 : z_ft 178 590 = some (.iload_n 1, 1, none, [], 0, 0, 0, 0) := z_ftd (by decide +kernel)
theorem t178_591 : z_ft 178 591 = some (.iaload, 1, none, [], 0, 0, 0, 0) := z_ftd (by decide +kernel)
theorem t178_592 : z_ft 178 592 = some (.iconst 0, 1, none, [], 0, 0, 0, 0) := z_ftd (by decide +kernel)
theorem t178_593 : z_ft 178 593 = some (.invokevirtual 314, 3, none, [], 170, 0, 129, 0) := z_ftd (by decide +kernel)
theorem t178_596 : z_ft 178 596 = some (.iload_n 2, 1, (some [0, 2]), [], 0, 0, 0, 0) := z_ftd (by decide +kernel)
theorem t178_597 : z_ft 178 597 = some (.iconst 5, 1, none, [], 0, 0, 0, 0) := z_ftd (by decide +kernel)
theorem t178_598 : z_ft 178 598 = some (.if_icmp .ne 15, 3, none, [], 613, 0, 0, 0) := z_ftd (by decide +kernel)
theorem t178_601 : z_ft 178 601 = some (.aload_n 0, 1, none, [], 0, 0, 0, 0) := z_ftd (by decide +kernel)
theorem t178_602 : z_ft 178 602 = some (.getfield 112, 3, none, [], 12, 33, 34, 0) := z_ftd (by decide +kernel)
theorem t178_605 : z_ft 178 605 = some (.aload_n 0, 1, none, [], 0, 0, 0, 0) := z_ftd (by decide +kernel)
theorem t178_606 : z_ft 178 606 = some (.getfield 125, 3, none, [], 12, 37, 38, 0) := z_ftd (by decide +kernel)
theorem t178_609 : z_ft 178 609 = some (.iconst 1, 1, none, [], 0, 0, 0, 0) := z_ftd (by decide +kernel)
theorem t178_610 : z_ft 178 610 = some (.isub, 1, none, [], 0, 0, 0, 0) := z_ftd (by decide +kernel)
theorem t178_611 : z_ft 178 611 = some (.iconst 2, 1, none, [], 0, 0, 0, 0) := z_ftd (by decide +kernel)
theorem t178_612 : z_ft 178 612 = some (.iastore, 1, none, [], 0, 0, 0, 0) := z_ftd (by decide +kernel)
theorem t178_613 : z_ft 178 613 = some (.aload_n 0, 1, (some [0]), [], 0, 0, 0, 0) := z_ftd (by decide +kernel)
theorem t178_614 : z_ft 178 614 = some (.invokevirtual 256, 3, none, [], 163, 0, 75, 0) := z_ftd (by decide +kernel)
theorem t178_617 : z_ft 178 617 = some (.iconst 1, 1, none, [], 0, 0, 0, 0) := z_ftd (by decide +kernel)
theorem t178_618 : z_ft 178 618 = some (.ireturn, 1, none, [], 0, 0, 0, 0) := z_ftd (by decide +kernel)
noncomputable def b178_188 (d : Nat) (y1 : Int32) (y2 : Int32) (y3 : Int32) (S : z_S) : Option (Int32 × z_S) := zk kI z_X0 d 178 188 [.ref 396, .int y1, .int y2, .int y3, z_j] [] S
noncomputable def b178_87 (d : Nat)  (S : z_S) : Option (Int32 × z_S) := zk kI z_X0 d 178 87 [.ref 396, z_j, z_j, z_j, z_j] [] S
noncomputable def b178_285 (d : Nat) (y1 : Int32) (y2 : Int32) (y3 : Int32) (S : z_S) : Option (Int32 × z_S) := zk kI z_X0 d 178 285 [.ref 396, .int y1, .int y2, .int y3, z_j] [] S
noncomputable def b178_228 (d : Nat) (y1 : Int32) (S : z_S) : Option (Int32 × z_S) := zk kI z_X0 d 178 228 [.ref 396, .int y1, z_j, z_j, z_j] [] S
noncomputable def b178_106 (d : Nat)  (S : z_S) : Option (Int32 × z_S) := zk kI z_X0 d 178 106 [.ref 396, z_j, z_j, z_j, z_j] [.ref 396] S
noncomputable def b178_112 (d : Nat) (s0 : Int32) (S : z_S) : Option (Int32 × z_S) := zk kI z_X0 d 178 112 [.ref 396, z_j, z_j, z_j, z_j] [.int s0, .ref 396] S
noncomputable def b178_400 (d : Nat) (y1 : Int32) (y2 : Int32) (y3 : Int32) (S : z_S) : Option (Int32 × z_S) := zk kI z_X0 d 178 400 [.ref 396, .int y1, .int y2, .int y3, z_j] [] S
noncomputable def b178_309 (d : Nat) (y1 : Int32) (S : z_S) : Option (Int32 × z_S) := zk kI z_X0 d 178 309 [.ref 396, .int y1, z_j, z_j, z_j] [] S
noncomputable def b178_264 (d : Nat) (y1 : Int32) (s0 : Int32) (S : z_S) : Option (Int32 × z_S) := zk kI z_X0 d 178 264 [.ref 396, .int y1, z_j, z_j, z_j] [.int s0, .ref 396] S
noncomputable def b178_174 (d : Nat) (s0 : Int32) (S : z_S) : Option (Int32 × z_S) := zk kI z_X0 d 178 174 [.ref 396, z_j, z_j, z_j, z_j] [.int s0, .ref 396] S
noncomputable def b178_422 (d : Nat) (y1 : Int32) (y2 : Int32) (S : z_S) : Option (Int32 × z_S) := zk kI z_X0 d 178 422 [.ref 396, .int y1, .int y2, z_j, z_j] [] S
noncomputable def b178_327 (d : Nat) (y1 : Int32) (S : z_S) : Option (Int32 × z_S) := zk kI z_X0 d 178 327 [.ref 396, .int y1, z_j, z_j, z_j] [] S
noncomputable def b178_452 (d : Nat) (y1 : Int32) (y2 : Int32) (S : z_S) : Option (Int32 × z_S) := zk kI z_X0 d 178 452 [.ref 396, .int y1, .int y2, z_j, z_j] [] S
noncomputable def b178_531 (d : Nat) (y1 : Int32) (y2 : Int32) (s0 : Int32) (S : z_S) : Option (Int32 × z_S) := zk kI z_X0 d 178 531 [.ref 396, .int y1, .int y2, z_j, z_j] [.int s0, .ref 396] S
noncomputable def b178_356 (d : Nat) (y1 : Int32) (y4 : Int32) (s0 : Int32) (S : z_S) : Option (Int32 × z_S) := zk kI z_X0 d 178 356 [.ref 396, .int y1, z_j, z_j, .int y4] [.int s0, .ref 396] S
noncomputable def b178_470 (d : Nat) (y1 : Int32) (y2 : Int32) (S : z_S) : Option (Int32 × z_S) := zk kI z_X0 d 178 470 [.ref 396, .int y1, .int y2, z_j, z_j] [] S
noncomputable def b178_546 (d : Nat) (y1 : Int32) (y2 : Int32) (S : z_S) : Option (Int32 × z_S) := zk kI z_X0 d 178 546 [.ref 396, .int y1, .int y2, z_j, z_j] [] S
noncomputable def b178_372 (d : Nat) (y1 : Int32) (s0 : Int32) (S : z_S) : Option (Int32 × z_S) := zk kI z_X0 d 178 372 [.ref 396, .int y1, z_j, z_j, z_j] [.int s0, .ref 396] S
noncomputable def b178_499 (d : Nat) (y1 : Int32) (s0 : Int32) (s1 : Int32) (S : z_S) : Option (Int32 × z_S) := zk kI z_X0 d 178 499 [.ref 396, .int y1, z_j, z_j, z_j] [.int s0, .int s1, .ref 413] S
noncomputable def b178_596 (d : Nat) (y2 : Int32) (S : z_S) : Option (Int32 × z_S) := zk kI z_X0 d 178 596 [.ref 396, z_j, .int y2, z_j, z_j] [] S
noncomputable def b178_613 (d : Nat)  (S : z_S) : Option (Int32 × z_S) := zk kI z_X0 d 178 613 [.ref 396, z_j, z_j, z_j, z_j] [] S
theorem b178_188_eq (d : Nat) (y1 : Int32) (y2 : Int32) (y3 : Int32) (S : z_S) (hW : z_W S)  : b178_188 d y1 y2 y3 S = (if y3 = (0 : Int32) then b178_285 d y1 y2 y3 S else (if z_in y1 20 then (if ¬ (gI S 414 (y1).toNatClampNeg) = (0 : Int32) then b178_285 d y1 y2 y3 S else (zb (fI d 164 [.ref 396, .int (60 : Int32)] S) fun v27 S28 => (if ¬ v27 = (0 : Int32) then b178_228 d y1 S28 else (zb (fI d 164 [.ref 396, .int (62 : Int32)] S28) fun v30 S31 => (if ¬ v30 = (0 : Int32) then b178_228 d y1 S31 else (zb (fI d 164 [.ref 396, .int (61 : Int32)] S31) fun v33 S34 => (if v33 = (0 : Int32) then b178_285 d y1 y2 y3 S34 else b178_228 d y1 S34))))))) else none)) := by
  unfold b178_188
  refine (k_iload_n t178_188 rfl rfl).trans ?_
  refine (k_if_eq t178_189 rfl).trans (z_ite (fun g24 => ?_) (fun g24 => ?_))
  · exact (zk_mk (ls' := [.ref 396, .int y1, .int y2, .int y3, z_j]) t178_285 rfl)
  · refine (k_aload_n t178_192 rfl rfl).trans ?_
    refine (k_getR t178_193 rfl hW zK_396 (by decide) (by decide) (zF_396_33 hW)).trans ?_
    refine (k_iload_n t178_196 rfl rfl).trans ?_
    refine (k_iald t178_197 rfl hW zK_414 zL_414).trans (z_ite (fun g25 => ?_) (fun _ => rfl))
    refine (k_if_ne t178_198 rfl).trans (z_ite (fun g26 => ?_) (fun g26 => ?_))
    · exact (zk_mk (ls' := [.ref 396, .int y1, .int y2, .int y3, z_j]) t178_285 rfl)
    · refine (k_aload_n t178_201 rfl rfl).trans ?_
      refine (k_bipush t178_202 rfl zcb_60).trans ?_
      refine k_callI (as := [.ref 396, .int (60 : Int32)]) (rest := []) t178_204 rfl rfl (by decide) rfl rfl (Nat.le_of_ble_eq_true rfl) rfl (z_rcV hW (zK_396) (by decide)) (by decide) (Or.inr (by decide)) hW (fun v27 S28 hW28 => ?_)
      refine (k_if_ne t178_207 rfl).trans (z_ite (fun g29 => ?_) (fun g29 => ?_))
      · exact (zk_mk (ls' := [.ref 396, .int y1, z_j, z_j, z_j]) t178_228 rfl)
      · refine (k_aload_n t178_210 rfl rfl).trans ?_
        refine (k_bipush t178_211 rfl zcb_62).trans ?_
        refine k_callI (as := [.ref 396, .int (62 : Int32)]) (rest := []) t178_213 rfl rfl (by decide) rfl rfl (Nat.le_of_ble_eq_true rfl) rfl (z_rcV hW28 (zK_396) (by decide)) (by decide) (Or.inr (by decide)) hW28 (fun v30 S31 hW31 => ?_)
        refine (k_if_ne t178_216 rfl).trans (z_ite (fun g32 => ?_) (fun g32 => ?_))
        · exact (zk_mk (ls' := [.ref 396, .int y1, z_j, z_j, z_j]) t178_228 rfl)
        · refine (k_aload_n t178_219 rfl rfl).trans ?_
          refine (k_bipush t178_220 rfl zcb_61).trans ?_
          refine k_callI (as := [.ref 396, .int (61 : Int32)]) (rest := []) t178_222 rfl rfl (by decide) rfl rfl (Nat.le_of_ble_eq_true rfl) rfl (z_rcV hW31 (zK_396) (by decide)) (by decide) (Or.inr (by decide)) hW31 (fun v33 S34 hW34 => ?_)
          refine (k_if_eq t178_225 rfl).trans (z_ite (fun g35 => ?_) (fun g35 => ?_))
          · exact (zk_mk (ls' := [.ref 396, .int y1, .int y2, .int y3, z_j]) t178_285 rfl)
          · exact (zk_mk (ls' := [.ref 396, .int y1, z_j, z_j, z_j]) t178_228 rfl)
theorem b178_87_eq (d : Nat)  (S : z_S) (hW : z_W S)  : b178_87 d  S = (zb (fI d 164 [.ref 396, .int (43 : Int32)] S) fun v36 S37 => (if ¬ v36 = (0 : Int32) then b178_106 d S37 else (zb (fI d 164 [.ref 396, .int (45 : Int32)] S37) fun v39 S40 => (if v39 = (0 : Int32) then b178_112 d (6 : Int32) S40 else b178_106 d S40)))) := by
  unfold b178_87
  refine (k_aload_n t178_87 rfl rfl).trans ?_
  refine (k_aload_n t178_88 rfl rfl).trans ?_
  refine (k_bipush t178_89 rfl zcb_43).trans ?_
  refine k_callI (as := [.ref 396, .int (43 : Int32)]) (rest := [.ref 396]) t178_91 rfl rfl (by decide) rfl rfl (Nat.le_of_ble_eq_true rfl) rfl (z_rcV hW (zK_396) (by decide)) (by decide) (Or.inr (by decide)) hW (fun v36 S37 hW37 => ?_)
  refine (k_if_ne t178_94 rfl).trans (z_ite (fun g38 => ?_) (fun g38 => ?_))
  · exact (zk_mk (ls' := [.ref 396, z_j, z_j, z_j, z_j]) t178_106 rfl)
  · refine (k_aload_n t178_97 rfl rfl).trans ?_
    refine (k_bipush t178_98 rfl zcb_45).trans ?_
    refine k_callI (as := [.ref 396, .int (45 : Int32)]) (rest := [.ref 396]) t178_100 rfl rfl (by decide) rfl rfl (Nat.le_of_ble_eq_true rfl) rfl (z_rcV hW37 (zK_396) (by decide)) (by decide) (Or.inr (by decide)) hW37 (fun v39 S40 hW40 => ?_)
    refine (k_if_eq t178_103 rfl).trans (z_ite (fun g41 => ?_) (fun g41 => ?_))
    · refine (k_bipush t178_110 rfl zcb_6).trans ?_
      exact (zk_mk (ls' := [.ref 396, z_j, z_j, z_j, z_j]) t178_112 rfl)
    · exact (zk_mk (ls' := [.ref 396, z_j, z_j, z_j, z_j]) t178_106 rfl)
theorem b178_285_eq (d : Nat) (y1 : Int32) (y2 : Int32) (y3 : Int32) (S : z_S) (hW : z_W S)  : b178_285 d y1 y2 y3 S = (if y3 = (0 : Int32) then b178_400 d y1 y2 y3 S else (zb (fI d 165 [.ref 396, .long (6385252 : Int64)] S) fun v43 S44 => (if ¬ v43 = (0 : Int32) then b178_309 d y1 S44 else (zb (fI d 165 [.ref 396, .long (28530 : Int64)] S44) fun v46 S47 => (if v46 = (0 : Int32) then b178_400 d y1 y2 y3 S47 else b178_309 d y1 S47))))) := by
  unfold b178_285
  refine (k_iload_n t178_285 rfl rfl).trans ?_
  refine (k_if_eq t178_286 rfl).trans (z_ite (fun g42 => ?_) (fun g42 => ?_))
  · exact (zk_mk (ls' := [.ref 396, .int y1, .int y2, .int y3, z_j]) t178_400 rfl)
  · refine (k_aload_n t178_289 rfl rfl).trans ?_
    refine (k_ldc2_w t178_290 rfl zcl_6385252).trans ?_
    refine k_callI (as := [.ref 396, .long (6385252 : Int64)]) (rest := []) t178_293 rfl rfl (by decide) rfl rfl (Nat.le_of_ble_eq_true rfl) rfl (z_rcV hW (zK_396) (by decide)) (by decide) (Or.inr (by decide)) hW (fun v43 S44 hW44 => ?_)
    refine (k_if_ne t178_296 rfl).trans (z_ite (fun g45 => ?_) (fun g45 => ?_))
    · exact (zk_mk (ls' := [.ref 396, .int y1, z_j, z_j, z_j]) t178_309 rfl)
    · refine (k_aload_n t178_299 rfl rfl).trans ?_
      refine (k_ldc2_w t178_300 rfl zcl_28530).trans ?_
      refine k_callI (as := [.ref 396, .long (28530 : Int64)]) (rest := []) t178_303 rfl rfl (by decide) rfl rfl (Nat.le_of_ble_eq_true rfl) rfl (z_rcV hW44 (zK_396) (by decide)) (by decide) (Or.inr (by decide)) hW44 (fun v46 S47 hW47 => ?_)
      refine (k_if_eq t178_306 rfl).trans (z_ite (fun g48 => ?_) (fun g48 => ?_))
      · exact (zk_mk (ls' := [.ref 396, .int y1, .int y2, .int y3, z_j]) t178_400 rfl)
      · exact (zk_mk (ls' := [.ref 396, .int y1, z_j, z_j, z_j]) t178_309 rfl)
theorem b178_228_eq (d : Nat) (y1 : Int32) (S : z_S) (hW : z_W S)  : b178_228 d y1 S = ((fV d 172 [.ref 396, .int (5 : Int32)] S).bind fun S50 => (zb (fI d 164 [.ref 396, .int (60 : Int32)] S50) fun v51 S52 => (if v51 = (0 : Int32) then (zb (fI d 164 [.ref 396, .int (62 : Int32)] S52) fun v54 S55 => (if v54 = (0 : Int32) then b178_264 d y1 (40 : Int32) S55 else b178_264 d y1 (39 : Int32) S55)) else b178_264 d y1 (38 : Int32) S52))) := by
  unfold b178_228
  refine (k_aload_n t178_228 rfl rfl).trans ?_
  refine (k_iconst t178_229 rfl zci_5).trans ?_
  refine k_callV (as := [.ref 396, .int (5 : Int32)]) (rest := []) t178_230 rfl rfl (by decide) rfl rfl (Nat.le_of_ble_eq_true rfl) rfl (z_rcV hW (zK_396) (by decide)) (by decide) (by decide) hW (fun S50 hW50 => ?_)
  refine (k_aload_n t178_233 rfl rfl).trans ?_
  refine (k_aload_n t178_234 rfl rfl).trans ?_
  refine (k_bipush t178_235 rfl zcb_60).trans ?_
  refine k_callI (as := [.ref 396, .int (60 : Int32)]) (rest := [.ref 396]) t178_237 rfl rfl (by decide) rfl rfl (Nat.le_of_ble_eq_true rfl) rfl (z_rcV hW50 (zK_396) (by decide)) (by decide) (Or.inr (by decide)) hW50 (fun v51 S52 hW52 => ?_)
  refine (k_if_eq t178_240 rfl).trans (z_ite (fun g53 => ?_) (fun g53 => ?_))
  · refine (k_aload_n t178_248 rfl rfl).trans ?_
    refine (k_bipush t178_249 rfl zcb_62).trans ?_
    refine k_callI (as := [.ref 396, .int (62 : Int32)]) (rest := [.ref 396]) t178_251 rfl rfl (by decide) rfl rfl (Nat.le_of_ble_eq_true rfl) rfl (z_rcV hW52 (zK_396) (by decide)) (by decide) (Or.inr (by decide)) hW52 (fun v54 S55 hW55 => ?_)
    refine (k_if_eq t178_254 rfl).trans (z_ite (fun g56 => ?_) (fun g56 => ?_))
    · refine (k_bipush t178_262 rfl zcb_40).trans ?_
      exact (zk_mk (ls' := [.ref 396, .int y1, z_j, z_j, z_j]) t178_264 rfl)
    · refine (k_bipush t178_257 rfl zcb_39).trans ?_
      refine (k_goto t178_259 rfl).trans ?_
      exact (zk_mk (ls' := [.ref 396, .int y1, z_j, z_j, z_j]) t178_264 rfl)
  · refine (k_bipush t178_243 rfl zcb_38).trans ?_
    refine (k_goto t178_245 rfl).trans ?_
    exact (zk_mk (ls' := [.ref 396, .int y1, z_j, z_j, z_j]) t178_264 rfl)
theorem b178_106_eq (d : Nat)  (S : z_S) (hW : z_W S)  : b178_106 d  S = b178_112 d (5 : Int32) S := by
  unfold b178_106
  refine (k_iconst t178_106 rfl zci_5).trans ?_
  refine (k_goto t178_107 rfl).trans ?_
  exact (zk_mk (ls' := [.ref 396, z_j, z_j, z_j, z_j]) t178_112 rfl)
theorem b178_112_eq (d : Nat) (s0 : Int32) (S : z_S) (hW : z_W S)  : b178_112 d s0 S = ((fV d 172 [.ref 396, .int s0] S).bind fun S58 => (zb (fI d 164 [.ref 396, .int (43 : Int32)] S58) fun v59 S60 => (if v59 = (0 : Int32) then (zb (fI d 164 [.ref 396, .int (45 : Int32)] S60) fun v62 S63 => (if v62 = (0 : Int32) then (zb (fI d 164 [.ref 396, .int (42 : Int32)] S63) fun v65 S66 => (if v65 = (0 : Int32) then (zb (fI d 164 [.ref 396, .int (47 : Int32)] S66) fun v68 S69 => (if v68 = (0 : Int32) then b178_174 d (35 : Int32) S69 else b178_174 d (34 : Int32) S69)) else b178_174 d (33 : Int32) S66)) else b178_174 d (32 : Int32) S63)) else b178_174 d (31 : Int32) S60))) := by
  unfold b178_112
  refine k_callV (as := [.ref 396, .int s0]) (rest := []) t178_112 rfl rfl (by decide) rfl rfl (Nat.le_of_ble_eq_true rfl) rfl (z_rcV hW (zK_396) (by decide)) (by decide) (by decide) hW (fun S58 hW58 => ?_)
  refine (k_aload_n t178_115 rfl rfl).trans ?_
  refine (k_aload_n t178_116 rfl rfl).trans ?_
  refine (k_bipush t178_117 rfl zcb_43).trans ?_
  refine k_callI (as := [.ref 396, .int (43 : Int32)]) (rest := [.ref 396]) t178_119 rfl rfl (by decide) rfl rfl (Nat.le_of_ble_eq_true rfl) rfl (z_rcV hW58 (zK_396) (by decide)) (by decide) (Or.inr (by decide)) hW58 (fun v59 S60 hW60 => ?_)
  refine (k_if_eq t178_122 rfl).trans (z_ite (fun g61 => ?_) (fun g61 => ?_))
  · refine (k_aload_n t178_130 rfl rfl).trans ?_
    refine (k_bipush t178_131 rfl zcb_45).trans ?_
    refine k_callI (as := [.ref 396, .int (45 : Int32)]) (rest := [.ref 396]) t178_133 rfl rfl (by decide) rfl rfl (Nat.le_of_ble_eq_true rfl) rfl (z_rcV hW60 (zK_396) (by decide)) (by decide) (Or.inr (by decide)) hW60 (fun v62 S63 hW63 => ?_)
    refine (k_if_eq t178_136 rfl).trans (z_ite (fun g64 => ?_) (fun g64 => ?_))
    · refine (k_aload_n t178_144 rfl rfl).trans ?_
      refine (k_bipush t178_145 rfl zcb_42).trans ?_
      refine k_callI (as := [.ref 396, .int (42 : Int32)]) (rest := [.ref 396]) t178_147 rfl rfl (by decide) rfl rfl (Nat.le_of_ble_eq_true rfl) rfl (z_rcV hW63 (zK_396) (by decide)) (by decide) (Or.inr (by decide)) hW63 (fun v65 S66 hW66 => ?_)
      refine (k_if_eq t178_150 rfl).trans (z_ite (fun g67 => ?_) (fun g67 => ?_))
      · refine (k_aload_n t178_158 rfl rfl).trans ?_
        refine (k_bipush t178_159 rfl zcb_47).trans ?_
        refine k_callI (as := [.ref 396, .int (47 : Int32)]) (rest := [.ref 396]) t178_161 rfl rfl (by decide) rfl rfl (Nat.le_of_ble_eq_true rfl) rfl (z_rcV hW66 (zK_396) (by decide)) (by decide) (Or.inr (by decide)) hW66 (fun v68 S69 hW69 => ?_)
        refine (k_if_eq t178_164 rfl).trans (z_ite (fun g70 => ?_) (fun g70 => ?_))
        · refine (k_bipush t178_172 rfl zcb_35).trans ?_
          exact (zk_mk (ls' := [.ref 396, z_j, z_j, z_j, z_j]) t178_174 rfl)
        · refine (k_bipush t178_167 rfl zcb_34).trans ?_
          refine (k_goto t178_169 rfl).trans ?_
          exact (zk_mk (ls' := [.ref 396, z_j, z_j, z_j, z_j]) t178_174 rfl)
      · refine (k_bipush t178_153 rfl zcb_33).trans ?_
        refine (k_goto t178_155 rfl).trans ?_
        exact (zk_mk (ls' := [.ref 396, z_j, z_j, z_j, z_j]) t178_174 rfl)
    · refine (k_bipush t178_139 rfl zcb_32).trans ?_
      refine (k_goto t178_141 rfl).trans ?_
      exact (zk_mk (ls' := [.ref 396, z_j, z_j, z_j, z_j]) t178_174 rfl)
  · refine (k_bipush t178_125 rfl zcb_31).trans ?_
    refine (k_goto t178_127 rfl).trans ?_
    exact (zk_mk (ls' := [.ref 396, z_j, z_j, z_j, z_j]) t178_174 rfl)
theorem b178_400_eq (d : Nat) (y1 : Int32) (y2 : Int32) (y3 : Int32) (S : z_S) (hW : z_W S)  : b178_400 d y1 y2 y3 S = (if y3 = (0 : Int32) then b178_422 d y1 y2 S else (if z_in y1 20 then (if ¬ (gI S 414 (y1).toNatClampNeg) = (0 : Int32) then b178_422 d y1 y2 S else ((fV d 159 [.ref 396, .int (1 : Int32), .int (gI S 396 4)] S).bind fun S75 => b178_422 d y1 y2 S75)) else none)) := by
  unfold b178_400
  refine (k_iload_n t178_400 rfl rfl).trans ?_
  refine (k_if_eq t178_401 rfl).trans (z_ite (fun g71 => ?_) (fun g71 => ?_))
  · exact (zk_mk (ls' := [.ref 396, .int y1, .int y2, z_j, z_j]) t178_422 rfl)
  · refine (k_aload_n t178_404 rfl rfl).trans ?_
    refine (k_getR t178_405 rfl hW zK_396 (by decide) (by decide) (zF_396_33 hW)).trans ?_
    refine (k_iload_n t178_408 rfl rfl).trans ?_
    refine (k_iald t178_409 rfl hW zK_414 zL_414).trans (z_ite (fun g72 => ?_) (fun _ => rfl))
    refine (k_if_ne t178_410 rfl).trans (z_ite (fun g73 => ?_) (fun g73 => ?_))
    · exact (zk_mk (ls' := [.ref 396, .int y1, .int y2, z_j, z_j]) t178_422 rfl)
    · refine (k_aload_n t178_413 rfl rfl).trans ?_
      refine (k_iconst t178_414 rfl zci_1).trans ?_
      refine (k_aload_n t178_415 rfl rfl).trans ?_
      refine (k_getI t178_416 rfl hW zK_396 (by decide) (by decide)).trans ?_
      refine k_callV (as := [.ref 396, .int (1 : Int32), .int (gI S 396 4)]) (rest := []) t178_419 rfl rfl (by decide) rfl rfl (Nat.le_of_ble_eq_true rfl) rfl (z_rcV hW (zK_396) (by decide)) (by decide) (by decide) hW (fun S75 hW75 => ?_)
      exact (zk_mk (ls' := [.ref 396, .int y1, .int y2, z_j, z_j]) t178_422 rfl)
theorem b178_309_eq (d : Nat) (y1 : Int32) (S : z_S) (hW : z_W S)  : b178_309 d y1 S = (if z_in y1 20 then (if ¬ (gI S 414 (y1).toNatClampNeg) = (0 : Int32) then b178_327 d y1 S else ((fV d 159 [.ref 396, .int (1 : Int32), .int (gI S 396 4)] S).bind fun S79 => b178_327 d y1 S79)) else none) := by
  unfold b178_309
  refine (k_aload_n t178_309 rfl rfl).trans ?_
  refine (k_getR t178_310 rfl hW zK_396 (by decide) (by decide) (zF_396_33 hW)).trans ?_
  refine (k_iload_n t178_313 rfl rfl).trans ?_
  refine (k_iald t178_314 rfl hW zK_414 zL_414).trans (z_ite (fun g76 => ?_) (fun _ => rfl))
  refine (k_if_ne t178_315 rfl).trans (z_ite (fun g77 => ?_) (fun g77 => ?_))
  · exact (zk_mk (ls' := [.ref 396, .int y1, z_j, z_j, z_j]) t178_327 rfl)
  · refine (k_aload_n t178_318 rfl rfl).trans ?_
    refine (k_iconst t178_319 rfl zci_1).trans ?_
    refine (k_aload_n t178_320 rfl rfl).trans ?_
    refine (k_getI t178_321 rfl hW zK_396 (by decide) (by decide)).trans ?_
    refine k_callV (as := [.ref 396, .int (1 : Int32), .int (gI S 396 4)]) (rest := []) t178_324 rfl rfl (by decide) rfl rfl (Nat.le_of_ble_eq_true rfl) rfl (z_rcV hW (zK_396) (by decide)) (by decide) (by decide) hW (fun S79 hW79 => ?_)
    exact (zk_mk (ls' := [.ref 396, .int y1, z_j, z_j, z_j]) t178_327 rfl)
theorem b178_264_eq (d : Nat) (y1 : Int32) (s0 : Int32) (S : z_S) (hW : z_W S)  : b178_264 d y1 s0 S = ((fV d 173 [.ref 396, .int s0] S).bind fun S81 => (if z_in y1 20 then ((fV d 163 [.ref 396] (sI S81 414 (y1).toNatClampNeg (1 : Int32))).bind fun S84 => some ((1 : Int32), sI S84 396 41 (0 : Int32))) else none)) := by
  unfold b178_264
  refine k_callV (as := [.ref 396, .int s0]) (rest := []) t178_264 rfl rfl (by decide) rfl rfl (Nat.le_of_ble_eq_true rfl) rfl (z_rcV hW (zK_396) (by decide)) (by decide) (by decide) hW (fun S81 hW81 => ?_)
  refine (k_aload_n t178_267 rfl rfl).trans ?_
  refine (k_getR t178_268 rfl hW81 zK_396 (by decide) (by decide) (zF_396_33 hW81)).trans ?_
  refine (k_iload_n t178_271 rfl rfl).trans ?_
  refine (k_iconst t178_272 rfl zci_1).trans ?_
  refine (k_iast t178_273 rfl hW81 zK_414 zL_414).trans (z_ite (fun g82 => ?_) (fun _ => rfl))
  refine (k_aload_n t178_274 rfl rfl).trans ?_
  refine k_callV (as := [.ref 396]) (rest := []) t178_275 rfl rfl (by decide) rfl rfl (Nat.le_of_ble_eq_true rfl) rfl (z_rcV hW81.sI (zK_396) (by decide)) (by decide) (by decide) hW81.sI (fun S84 hW84 => ?_)
  refine (k_aload_n t178_278 rfl rfl).trans ?_
  refine (k_iconst t178_279 rfl zci_0).trans ?_
  refine ((k_putZ t178_280 rfl hW84 zK_396 (by decide) (by decide) (by decide)).trans (if_pos (by decide))).trans ?_
  refine (k_iconst t178_283 rfl zci_1).trans ?_
  exact k_zretC t178_284 rfl (by decide) (by decide)
theorem b178_174_eq (d : Nat) (s0 : Int32) (S : z_S) (hW : z_W S)  : b178_174 d s0 S = ((fV d 173 [.ref 396, .int s0] S).bind fun S86 => ((fV d 163 [.ref 396] S86).bind fun S88 => some ((1 : Int32), sI S88 396 41 (0 : Int32)))) := by
  unfold b178_174
  refine k_callV (as := [.ref 396, .int s0]) (rest := []) t178_174 rfl rfl (by decide) rfl rfl (Nat.le_of_ble_eq_true rfl) rfl (z_rcV hW (zK_396) (by decide)) (by decide) (by decide) hW (fun S86 hW86 => ?_)
  refine (k_aload_n t178_177 rfl rfl).trans ?_
  refine k_callV (as := [.ref 396]) (rest := []) t178_178 rfl rfl (by decide) rfl rfl (Nat.le_of_ble_eq_true rfl) rfl (z_rcV hW86 (zK_396) (by decide)) (by decide) (by decide) hW86 (fun S88 hW88 => ?_)
  refine (k_aload_n t178_181 rfl rfl).trans ?_
  refine (k_iconst t178_182 rfl zci_0).trans ?_
  refine ((k_putZ t178_183 rfl hW88 zK_396 (by decide) (by decide) (by decide)).trans (if_pos (by decide))).trans ?_
  refine (k_iconst t178_186 rfl zci_1).trans ?_
  exact k_zretC t178_187 rfl (by decide) (by decide)
theorem b178_422_eq (d : Nat) (y1 : Int32) (y2 : Int32) (S : z_S) (hW : z_W S)  : b178_422 d y1 y2 S = (if (2 : Int32) ≤ y2 then (if y2 = (3 : Int32) then b178_452 d y1 y2 S else (if ¬ y2 = (6 : Int32) then (if ¬ y2 = (5 : Int32) then b178_531 d y1 y2 (41 : Int32) S else b178_531 d y1 y2 (93 : Int32) S) else b178_452 d y1 y2 S)) else (if ¬ (gI S 396 8) = (0 : Int32) then some ((0 : Int32), S) else ((fV d 172 [.ref 396, .int (1 : Int32)] S).bind fun S95 => some ((0 : Int32), S95)))) := by
  unfold b178_422
  refine (k_iload_n t178_422 rfl rfl).trans ?_
  refine (k_iconst t178_423 rfl zci_2).trans ?_
  refine (k_icmp_ge t178_424 rfl).trans (z_ite (fun g89 => ?_) (fun g89 => ?_))
  · refine (k_iload_n t178_441 rfl rfl).trans ?_
    refine (k_iconst t178_442 rfl zci_3).trans ?_
    refine (k_icmp_eq t178_443 rfl).trans (z_ite (fun g90 => ?_) (fun g90 => ?_))
    · exact (zk_mk (ls' := [.ref 396, .int y1, .int y2, z_j, z_j]) t178_452 rfl)
    · refine (k_iload_n t178_446 rfl rfl).trans ?_
      refine (k_bipush t178_447 rfl zcb_6).trans ?_
      refine (k_icmp_ne t178_449 rfl).trans (z_ite (fun g91 => ?_) (fun g91 => ?_))
      · refine (k_aload_n t178_518 rfl rfl).trans ?_
        refine (k_iload_n t178_519 rfl rfl).trans ?_
        refine (k_iconst t178_520 rfl zci_5).trans ?_
        refine (k_icmp_ne t178_521 rfl).trans (z_ite (fun g92 => ?_) (fun g92 => ?_))
        · refine (k_bipush t178_529 rfl zcb_41).trans ?_
          exact (zk_mk (ls' := [.ref 396, .int y1, .int y2, z_j, z_j]) t178_531 rfl)
        · refine (k_bipush t178_524 rfl zcb_93).trans ?_
          refine (k_goto t178_526 rfl).trans ?_
          exact (zk_mk (ls' := [.ref 396, .int y1, .int y2, z_j, z_j]) t178_531 rfl)
      · exact (zk_mk (ls' := [.ref 396, .int y1, .int y2, z_j, z_j]) t178_452 rfl)
  · refine (k_aload_n t178_427 rfl rfl).trans ?_
    refine (k_getI t178_428 rfl hW zK_396 (by decide) (by decide)).trans ?_
    refine (k_if_ne t178_431 rfl).trans (z_ite (fun g93 => ?_) (fun g93 => ?_))
    · refine (zk_mk (ls' := [z_j, z_j, z_j, z_j, z_j]) t178_439 rfl).trans ?_
      refine (k_iconst t178_439 rfl zci_0).trans ?_
      exact k_zretC t178_440 rfl (by decide) (by decide)
    · refine (k_aload_n t178_434 rfl rfl).trans ?_
      refine (k_iconst t178_435 rfl zci_1).trans ?_
      refine k_callV (as := [.ref 396, .int (1 : Int32)]) (rest := []) t178_436 rfl rfl (by decide) rfl rfl (Nat.le_of_ble_eq_true rfl) rfl (z_rcV hW (zK_396) (by decide)) (by decide) (by decide) hW (fun S95 hW95 => ?_)
      refine (zk_mk (ls' := [z_j, z_j, z_j, z_j, z_j]) t178_439 rfl).trans ?_
      refine (k_iconst t178_439 rfl zci_0).trans ?_
      exact k_zretC t178_440 rfl (by decide) (by decide)
theorem b178_327_eq (d : Nat) (y1 : Int32) (S : z_S) (hW : z_W S)  : b178_327 d y1 S = (if (gI S 396 8) ≤ (0 : Int32) then (zb (fI d 165 [.ref 396, .long (6385252 : Int64)] S) fun v97 S98 => (if v97 = (0 : Int32) then b178_356 d y1 v97 (1 : Int32) S98 else b178_356 d y1 v97 (2 : Int32) S98)) else some ((0 : Int32), S)) := by
  unfold b178_327
  refine (k_aload_n t178_327 rfl rfl).trans ?_
  refine (k_getI t178_328 rfl hW zK_396 (by decide) (by decide)).trans ?_
  refine (k_if_le t178_331 rfl).trans (z_ite (fun g96 => ?_) (fun g96 => ?_))
  · refine (k_aload_n t178_336 rfl rfl).trans ?_
    refine (k_ldc2_w t178_337 rfl zcl_6385252).trans ?_
    refine k_callI (as := [.ref 396, .long (6385252 : Int64)]) (rest := []) t178_340 rfl rfl (by decide) rfl rfl (Nat.le_of_ble_eq_true rfl) rfl (z_rcV hW (zK_396) (by decide)) (by decide) (Or.inr (by decide)) hW (fun v97 S98 hW98 => ?_)
    refine (k_istore (ls' := [.ref 396, .int y1, z_j, z_j, .int v97]) t178_343 rfl rfl).trans ?_
    refine (k_aload_n t178_345 rfl rfl).trans ?_
    refine (k_iload t178_346 rfl rfl).trans ?_
    refine (k_if_eq t178_348 rfl).trans (z_ite (fun g99 => ?_) (fun g99 => ?_))
    · refine (k_iconst t178_355 rfl zci_1).trans ?_
      exact (zk_mk (ls' := [.ref 396, .int y1, z_j, z_j, .int v97]) t178_356 rfl)
    · refine (k_iconst t178_351 rfl zci_2).trans ?_
      refine (k_goto t178_352 rfl).trans ?_
      exact (zk_mk (ls' := [.ref 396, .int y1, z_j, z_j, .int v97]) t178_356 rfl)
  · refine (k_iconst t178_334 rfl zci_0).trans ?_
    exact k_zretC t178_335 rfl (by decide) (by decide)
theorem b178_452_eq (d : Nat) (y1 : Int32) (y2 : Int32) (S : z_S) (hW : z_W S)  : b178_452 d y1 y2 S = (zb (fI d 164 [.ref 396, .int (44 : Int32)] S) fun v100 S101 => (if ¬ v100 = (0 : Int32) then b178_470 d y1 y2 S101 else ((fV d 159 [.ref 396, .int (1 : Int32), .int (gI S101 396 4)] S101).bind fun S104 => b178_470 d y1 y2 S104))) := by
  unfold b178_452
  refine (k_aload_n t178_452 rfl rfl).trans ?_
  refine (k_bipush t178_453 rfl zcb_44).trans ?_
  refine k_callI (as := [.ref 396, .int (44 : Int32)]) (rest := []) t178_455 rfl rfl (by decide) rfl rfl (Nat.le_of_ble_eq_true rfl) rfl (z_rcV hW (zK_396) (by decide)) (by decide) (Or.inr (by decide)) hW (fun v100 S101 hW101 => ?_)
  refine (k_if_ne t178_458 rfl).trans (z_ite (fun g102 => ?_) (fun g102 => ?_))
  · exact (zk_mk (ls' := [.ref 396, .int y1, .int y2, z_j, z_j]) t178_470 rfl)
  · refine (k_aload_n t178_461 rfl rfl).trans ?_
    refine (k_iconst t178_462 rfl zci_1).trans ?_
    refine (k_aload_n t178_463 rfl rfl).trans ?_
    refine (k_getI t178_464 rfl hW101 zK_396 (by decide) (by decide)).trans ?_
    refine k_callV (as := [.ref 396, .int (1 : Int32), .int (gI S101 396 4)]) (rest := []) t178_467 rfl rfl (by decide) rfl rfl (Nat.le_of_ble_eq_true rfl) rfl (z_rcV hW101 (zK_396) (by decide)) (by decide) (by decide) hW101 (fun S104 hW104 => ?_)
    exact (zk_mk (ls' := [.ref 396, .int y1, .int y2, z_j, z_j]) t178_470 rfl)
theorem b178_531_eq (d : Nat) (y1 : Int32) (y2 : Int32) (s0 : Int32) (S : z_S) (hW : z_W S)  : b178_531 d y1 y2 s0 S = (zb (fI d 164 [.ref 396, .int s0] S) fun v105 S106 => (if ¬ v105 = (0 : Int32) then b178_546 d y1 y2 S106 else ((fV d 159 [.ref 396, .int (1 : Int32), .int (gI S106 396 4)] S106).bind fun S109 => b178_546 d y1 y2 S109))) := by
  unfold b178_531
  refine k_callI (as := [.ref 396, .int s0]) (rest := []) t178_531 rfl rfl (by decide) rfl rfl (Nat.le_of_ble_eq_true rfl) rfl (z_rcV hW (zK_396) (by decide)) (by decide) (Or.inr (by decide)) hW (fun v105 S106 hW106 => ?_)
  refine (k_if_ne t178_534 rfl).trans (z_ite (fun g107 => ?_) (fun g107 => ?_))
  · exact (zk_mk (ls' := [.ref 396, .int y1, .int y2, z_j, z_j]) t178_546 rfl)
  · refine (k_aload_n t178_537 rfl rfl).trans ?_
    refine (k_iconst t178_538 rfl zci_1).trans ?_
    refine (k_aload_n t178_539 rfl rfl).trans ?_
    refine (k_getI t178_540 rfl hW106 zK_396 (by decide) (by decide)).trans ?_
    refine k_callV (as := [.ref 396, .int (1 : Int32), .int (gI S106 396 4)]) (rest := []) t178_543 rfl rfl (by decide) rfl rfl (Nat.le_of_ble_eq_true rfl) rfl (z_rcV hW106 (zK_396) (by decide)) (by decide) (by decide) hW106 (fun S109 hW109 => ?_)
    exact (zk_mk (ls' := [.ref 396, .int y1, .int y2, z_j, z_j]) t178_546 rfl)
theorem b178_356_eq (d : Nat) (y1 : Int32) (y4 : Int32) (s0 : Int32) (S : z_S) (hW : z_W S)  : b178_356 d y1 y4 s0 S = ((fV d 172 [.ref 396, .int s0] S).bind fun S111 => (if y4 = (0 : Int32) then b178_372 d y1 (42 : Int32) S111 else b178_372 d y1 (41 : Int32) S111)) := by
  unfold b178_356
  refine k_callV (as := [.ref 396, .int s0]) (rest := []) t178_356 rfl rfl (by decide) rfl rfl (Nat.le_of_ble_eq_true rfl) rfl (z_rcV hW (zK_396) (by decide)) (by decide) (by decide) hW (fun S111 hW111 => ?_)
  refine (k_aload_n t178_359 rfl rfl).trans ?_
  refine (k_iload t178_360 rfl rfl).trans ?_
  refine (k_if_eq t178_362 rfl).trans (z_ite (fun g112 => ?_) (fun g112 => ?_))
  · refine (k_bipush t178_370 rfl zcb_42).trans ?_
    exact (zk_mk (ls' := [.ref 396, .int y1, z_j, z_j, z_j]) t178_372 rfl)
  · refine (k_bipush t178_365 rfl zcb_41).trans ?_
    refine (k_goto t178_367 rfl).trans ?_
    exact (zk_mk (ls' := [.ref 396, .int y1, z_j, z_j, z_j]) t178_372 rfl)
theorem b178_470_eq (d : Nat) (y1 : Int32) (y2 : Int32) (S : z_S) (hW : z_W S)  : b178_470 d y1 y2 S = (if (gI S 396 8) ≤ (0 : Int32) then ((fV d 172 [.ref 396, .int (1 : Int32)] S).bind fun S115 => (if ¬ y2 = (3 : Int32) then b178_499 d y1 (3 : Int32) y1 S115 else b178_499 d y1 (4 : Int32) y1 S115)) else some ((0 : Int32), S)) := by
  unfold b178_470
  refine (k_aload_n t178_470 rfl rfl).trans ?_
  refine (k_getI t178_471 rfl hW zK_396 (by decide) (by decide)).trans ?_
  refine (k_if_le t178_474 rfl).trans (z_ite (fun g113 => ?_) (fun g113 => ?_))
  · refine (k_aload_n t178_479 rfl rfl).trans ?_
    refine (k_iconst t178_480 rfl zci_1).trans ?_
    refine k_callV (as := [.ref 396, .int (1 : Int32)]) (rest := []) t178_481 rfl rfl (by decide) rfl rfl (Nat.le_of_ble_eq_true rfl) rfl (z_rcV hW (zK_396) (by decide)) (by decide) (by decide) hW (fun S115 hW115 => ?_)
    refine (k_aload_n t178_484 rfl rfl).trans ?_
    refine (k_getR t178_485 rfl hW115 zK_396 (by decide) (by decide) (zF_396_32 hW115)).trans ?_
    refine (k_iload_n t178_488 rfl rfl).trans ?_
    refine (k_iload_n t178_489 rfl rfl).trans ?_
    refine (k_iconst t178_490 rfl zci_3).trans ?_
    refine (k_icmp_ne t178_491 rfl).trans (z_ite (fun g116 => ?_) (fun g116 => ?_))
    · refine (k_iconst t178_498 rfl zci_3).trans ?_
      exact (zk_mk (ls' := [.ref 396, .int y1, z_j, z_j, z_j]) t178_499 rfl)
    · refine (k_iconst t178_494 rfl zci_4).trans ?_
      refine (k_goto t178_495 rfl).trans ?_
      exact (zk_mk (ls' := [.ref 396, .int y1, z_j, z_j, z_j]) t178_499 rfl)
  · refine (k_iconst t178_477 rfl zci_0).trans ?_
    exact k_zretC t178_478 rfl (by decide) (by decide)
theorem b178_546_eq (d : Nat) (y1 : Int32) (y2 : Int32) (S : z_S) (hW : z_W S)  : b178_546 d y1 y2 S = (if (gI S 396 8) ≤ (0 : Int32) then ((fV d 172 [.ref 396, .int (1 : Int32)] S).bind fun S119 => (if ¬ y2 = (4 : Int32) then b178_596 d y2 (sI (sI S119 396 37 ((gI S119 396 37) - (1 : Int32))) 396 38 ((gI (sI S119 396 37 ((gI S119 396 37) - (1 : Int32))) 396 38) - (1 : Int32))) else (if z_in y1 20 then ((fV d 170 [.ref 396, .int (gI (sI (sI S119 396 37 ((gI S119 396 37) - (1 : Int32))) 396 38 ((gI (sI S119 396 37 ((gI S119 396 37) - (1 : Int32))) 396 38) - (1 : Int32))) 416 (y1).toNatClampNeg), .int (0 : Int32)] (sI (sI S119 396 37 ((gI S119 396 37) - (1 : Int32))) 396 38 ((gI (sI S119 396 37 ((gI S119 396 37) - (1 : Int32))) 396 38) - (1 : Int32)))).bind fun S123 => b178_596 d y2 S123) else none))) else some ((0 : Int32), S)) := by
  unfold b178_546
  refine (k_aload_n t178_546 rfl rfl).trans ?_
  refine (k_getI t178_547 rfl hW zK_396 (by decide) (by decide)).trans ?_
  refine (k_if_le t178_550 rfl).trans (z_ite (fun g117 => ?_) (fun g117 => ?_))
  · refine (k_aload_n t178_555 rfl rfl).trans ?_
    refine (k_iconst t178_556 rfl zci_1).trans ?_
    refine k_callV (as := [.ref 396, .int (1 : Int32)]) (rest := []) t178_557 rfl rfl (by decide) rfl rfl (Nat.le_of_ble_eq_true rfl) rfl (z_rcV hW (zK_396) (by decide)) (by decide) (by decide) hW (fun S119 hW119 => ?_)
    refine (k_aload_n t178_560 rfl rfl).trans ?_
    refine (k_dupR t178_561 rfl).trans ?_
    refine (k_getI t178_562 rfl hW119 zK_396 (by decide) (by decide)).trans ?_
    refine (k_iconst t178_565 rfl zci_1).trans ?_
    refine (k_isub t178_566 rfl).trans ?_
    refine (k_putI t178_567 rfl hW119 zK_396 (by decide) (by decide) (by decide)).trans ?_
    refine (k_aload_n t178_570 rfl rfl).trans ?_
    refine (k_dupR t178_571 rfl).trans ?_
    refine (k_getI t178_572 rfl hW119.sI zK_396 (by decide) (by decide)).trans ?_
    refine (k_iconst t178_575 rfl zci_1).trans ?_
    refine (k_isub t178_576 rfl).trans ?_
    refine (k_putI t178_577 rfl hW119.sI zK_396 (by decide) (by decide) (by decide)).trans ?_
    refine (k_iload_n t178_580 rfl rfl).trans ?_
    refine (k_iconst t178_581 rfl zci_4).trans ?_
    refine (k_icmp_ne t178_582 rfl).trans (z_ite (fun g120 => ?_) (fun g120 => ?_))
    · exact (zk_mk (ls' := [.ref 396, z_j, .int y2, z_j, z_j]) t178_596 rfl)
    · refine (k_aload_n t178_585 rfl rfl).trans ?_
      refine (k_aload_n t178_586 rfl rfl).trans ?_
      refine (k_getR t178_587 rfl hW119.sI.sI zK_396 (by decide) (by decide) (zF_396_35 hW119.sI.sI)).trans ?_
      refine (k_iload_n t178_590 rfl rfl).trans ?_
      refine (k_iald t178_591 rfl hW119.sI.sI zK_416 zL_416).trans (z_ite (fun g121 => ?_) (fun _ => rfl))
      refine (k_iconst t178_592 rfl zci_0).trans ?_
      refine k_callV (as := [.ref 396, .int (gI (sI (sI S119 396 37 ((gI S119 396 37) - (1 : Int32))) 396 38 ((gI (sI S119 396 37 ((gI S119 396 37) - (1 : Int32))) 396 38) - (1 : Int32))) 416 (y1).toNatClampNeg), .int (0 : Int32)]) (rest := []) t178_593 rfl rfl (by decide) rfl rfl (Nat.le_of_ble_eq_true rfl) rfl (z_rcV hW119.sI.sI (zK_396) (by decide)) (by decide) (by decide) hW119.sI.sI (fun S123 hW123 => ?_)
      exact (zk_mk (ls' := [.ref 396, z_j, .int y2, z_j, z_j]) t178_596 rfl)
  · refine (k_iconst t178_553 rfl zci_0).trans ?_
    exact k_zretC t178_554 rfl (by decide) (by decide)
theorem b178_372_eq (d : Nat) (y1 : Int32) (s0 : Int32) (S : z_S) (hW : z_W S)  : b178_372 d y1 s0 S = ((fV d 173 [.ref 396, .int s0] S).bind fun S125 => (if z_in y1 20 then (if z_in y1 20 ∧ ((1 : Int32) = 0 ∨ (1 : Int32) = 1) then ((fV d 163 [.ref 396] (sI (sI S125 414 (y1).toNatClampNeg (0 : Int32)) 415 (y1).toNatClampNeg (1 : Int32))).bind fun S129 => some ((1 : Int32), sI S129 396 41 (0 : Int32))) else none) else none)) := by
  unfold b178_372
  refine k_callV (as := [.ref 396, .int s0]) (rest := []) t178_372 rfl rfl (by decide) rfl rfl (Nat.le_of_ble_eq_true rfl) rfl (z_rcV hW (zK_396) (by decide)) (by decide) (by decide) hW (fun S125 hW125 => ?_)
  refine (k_aload_n t178_375 rfl rfl).trans ?_
  refine (k_getR t178_376 rfl hW125 zK_396 (by decide) (by decide) (zF_396_33 hW125)).trans ?_
  refine (k_iload_n t178_379 rfl rfl).trans ?_
  refine (k_iconst t178_380 rfl zci_0).trans ?_
  refine (k_iast t178_381 rfl hW125 zK_414 zL_414).trans (z_ite (fun g126 => ?_) (fun _ => rfl))
  refine (k_aload_n t178_382 rfl rfl).trans ?_
  refine (k_getR t178_383 rfl hW125.sI zK_396 (by decide) (by decide) (zF_396_34 hW125.sI)).trans ?_
  refine (k_iload_n t178_386 rfl rfl).trans ?_
  refine (k_iconst t178_387 rfl zci_1).trans ?_
  refine (k_zast t178_388 rfl hW125.sI zK_415 zL_415).trans (z_ite (fun g127 => ?_) (fun _ => rfl))
  refine (k_aload_n t178_389 rfl rfl).trans ?_
  refine k_callV (as := [.ref 396]) (rest := []) t178_390 rfl rfl (by decide) rfl rfl (Nat.le_of_ble_eq_true rfl) rfl (z_rcV hW125.sI.sI (zK_396) (by decide)) (by decide) (by decide) hW125.sI.sI (fun S129 hW129 => ?_)
  refine (k_aload_n t178_393 rfl rfl).trans ?_
  refine (k_iconst t178_394 rfl zci_0).trans ?_
  refine ((k_putZ t178_395 rfl hW129 zK_396 (by decide) (by decide) (by decide)).trans (if_pos (by decide))).trans ?_
  refine (k_iconst t178_398 rfl zci_1).trans ?_
  exact k_zretC t178_399 rfl (by decide) (by decide)
theorem b178_499_eq (d : Nat) (y1 : Int32) (s0 : Int32) (s1 : Int32) (S : z_S) (hW : z_W S)  : b178_499 d y1 s0 s1 S = (if z_in s1 20 then (if z_in y1 20 then ((fV d 163 [.ref 396] (sI (sI S 413 (s1).toNatClampNeg s0) 414 (y1).toNatClampNeg (0 : Int32))).bind fun S133 => some ((1 : Int32), sI S133 396 41 (0 : Int32))) else none) else none) := by
  unfold b178_499
  refine (k_iast t178_499 rfl hW zK_413 zL_413).trans (z_ite (fun g130 => ?_) (fun _ => rfl))
  refine (k_aload_n t178_500 rfl rfl).trans ?_
  refine (k_getR t178_501 rfl hW.sI zK_396 (by decide) (by decide) (zF_396_33 hW.sI)).trans ?_
  refine (k_iload_n t178_504 rfl rfl).trans ?_
  refine (k_iconst t178_505 rfl zci_0).trans ?_
  refine (k_iast t178_506 rfl hW.sI zK_414 zL_414).trans (z_ite (fun g131 => ?_) (fun _ => rfl))
  refine (k_aload_n t178_507 rfl rfl).trans ?_
  refine k_callV (as := [.ref 396]) (rest := []) t178_508 rfl rfl (by decide) rfl rfl (Nat.le_of_ble_eq_true rfl) rfl (z_rcV hW.sI.sI (zK_396) (by decide)) (by decide) (by decide) hW.sI.sI (fun S133 hW133 => ?_)
  refine (k_aload_n t178_511 rfl rfl).trans ?_
  refine (k_iconst t178_512 rfl zci_0).trans ?_
  refine ((k_putZ t178_513 rfl hW133 zK_396 (by decide) (by decide) (by decide)).trans (if_pos (by decide))).trans ?_
  refine (k_iconst t178_516 rfl zci_1).trans ?_
  exact k_zretC t178_517 rfl (by decide) (by decide)
theorem b178_596_eq (d : Nat) (y2 : Int32) (S : z_S) (hW : z_W S)  : b178_596 d y2 S = (if ¬ y2 = (5 : Int32) then b178_613 d S else (if z_in ((gI S 396 37) - (1 : Int32)) 20 then b178_613 d (sI S 414 (((gI S 396 37) - (1 : Int32))).toNatClampNeg (2 : Int32)) else none)) := by
  unfold b178_596
  refine (k_iload_n t178_596 rfl rfl).trans ?_
  refine (k_iconst t178_597 rfl zci_5).trans ?_
  refine (k_icmp_ne t178_598 rfl).trans (z_ite (fun g134 => ?_) (fun g134 => ?_))
  · exact (zk_mk (ls' := [.ref 396, z_j, z_j, z_j, z_j]) t178_613 rfl)
  · refine (k_aload_n t178_601 rfl rfl).trans ?_
    refine (k_getR t178_602 rfl hW zK_396 (by decide) (by decide) (zF_396_33 hW)).trans ?_
    refine (k_aload_n t178_605 rfl rfl).trans ?_
    refine (k_getI t178_606 rfl hW zK_396 (by decide) (by decide)).trans ?_
    refine (k_iconst t178_609 rfl zci_1).trans ?_
    refine (k_isub t178_610 rfl).trans ?_
    refine (k_iconst t178_611 rfl zci_2).trans ?_
    refine (k_iast t178_612 rfl hW zK_414 zL_414).trans (z_ite (fun g135 => ?_) (fun _ => rfl))
    exact (zk_mk (ls' := [.ref 396, z_j, z_j, z_j, z_j]) t178_613 rfl)
theorem b178_613_eq (d : Nat)  (S : z_S) (hW : z_W S)  : b178_613 d  S = ((fV d 163 [.ref 396] S).bind fun S137 => some ((1 : Int32), S137)) := by
  unfold b178_613
  refine (k_aload_n t178_613 rfl rfl).trans ?_
  refine k_callV (as := [.ref 396]) (rest := []) t178_614 rfl rfl (by decide) rfl rfl (Nat.le_of_ble_eq_true rfl) rfl (z_rcV hW (zK_396) (by decide)) (by decide) (by decide) hW (fun S137 hW137 => ?_)
  refine (k_iconst t178_617 rfl zci_1).trans ?_
  exact k_zretC t178_618 rfl (by decide) (by decide)
-- X12_goesOn
theorem e178 (d : Nat)  (S : z_S) (hW : z_W S)  : fI (d + 1) 178 [.ref 396] S = ((fV d 162 [.ref 396] S).bind fun S2 => (if (gI S2 396 8) ≤ (0 : Int32) then (if z_in ((gI S2 396 37) - (1 : Int32)) 20 then (zb (fI d 176 [.int (gI S2 413 (((gI S2 396 37) - (1 : Int32))).toNatClampNeg)] S2) fun v5 S6 => (if z_in ((gI S2 396 37) - (1 : Int32)) 20 then (if (2 : Int32) ≤ (gI S6 414 (((gI S2 396 37) - (1 : Int32))).toNatClampNeg) then b178_188 d ((gI S2 396 37) - (1 : Int32)) (gI S2 413 (((gI S2 396 37) - (1 : Int32))).toNatClampNeg) v5 S6 else (zb (fI d 164 [.ref 396, .int (43 : Int32)] S6) fun v9 S10 => (if ¬ v9 = (0 : Int32) then b178_87 d S10 else (zb (fI d 164 [.ref 396, .int (45 : Int32)] S10) fun v12 S13 => (if ¬ v12 = (0 : Int32) then b178_87 d S13 else (zb (fI d 164 [.ref 396, .int (42 : Int32)] S13) fun v15 S16 => (if ¬ v15 = (0 : Int32) then b178_87 d S16 else (zb (fI d 164 [.ref 396, .int (47 : Int32)] S16) fun v18 S19 => (if ¬ v18 = (0 : Int32) then b178_87 d S19 else (zb (fI d 164 [.ref 396, .int (37 : Int32)] S19) fun v21 S22 => (if v21 = (0 : Int32) then b178_188 d ((gI S2 396 37) - (1 : Int32)) (gI S2 413 (((gI S2 396 37) - (1 : Int32))).toNatClampNeg) v5 S22 else b178_87 d S22))))))))))) else none)) else none) else some ((0 : Int32), S2))) := by
  refine (fI_en (Nat.le_of_ble_eq_true rfl) rfl).trans ?_
  refine (k_aload_n t178_0 rfl rfl).trans ?_
  refine k_callV (as := [.ref 396]) (rest := []) t178_1 rfl rfl (by decide) rfl rfl (Nat.le_of_ble_eq_true rfl) rfl (z_rcV hW (zK_396) (by decide)) (by decide) (by decide) hW (fun S2 hW2 => ?_)
  refine (k_aload_n t178_4 rfl rfl).trans ?_
  refine (k_getI t178_5 rfl hW2 zK_396 (by decide) (by decide)).trans ?_
  refine (k_if_le t178_8 rfl).trans (z_ite (fun g3 => ?_) (fun g3 => ?_))
  · refine (k_aload_n t178_13 rfl rfl).trans ?_
    refine (k_getI t178_14 rfl hW2 zK_396 (by decide) (by decide)).trans ?_
    refine (k_iconst t178_17 rfl zci_1).trans ?_
    refine (k_isub t178_18 rfl).trans ?_
    refine (k_istore_n (ls' := [.ref 396, .int ((gI S2 396 37) - (1 : Int32)), z_j, z_j, z_j]) t178_19 rfl rfl).trans ?_
    refine (k_aload_n t178_20 rfl rfl).trans ?_
    refine (k_getR t178_21 rfl hW2 zK_396 (by decide) (by decide) (zF_396_32 hW2)).trans ?_
    refine (k_iload_n t178_24 rfl rfl).trans ?_
    refine (k_iald t178_25 rfl hW2 zK_413 zL_413).trans (z_ite (fun g4 => ?_) (fun _ => rfl))
    refine (k_istore_n (ls' := [.ref 396, .int ((gI S2 396 37) - (1 : Int32)), .int (gI S2 413 (((gI S2 396 37) - (1 : Int32))).toNatClampNeg), z_j, z_j]) t178_26 rfl rfl).trans ?_
    refine (k_iload_n t178_27 rfl rfl).trans ?_
    refine k_callI (as := [.int (gI S2 413 (((gI S2 396 37) - (1 : Int32))).toNatClampNeg)]) (rest := []) t178_28 rfl rfl (by decide) rfl rfl (Nat.le_of_ble_eq_true rfl) rfl (z_rcS (by decide)) (by decide) (Or.inr (by decide)) hW2 (fun v5 S6 hW6 => ?_)
    refine (k_istore_n (ls' := [.ref 396, .int ((gI S2 396 37) - (1 : Int32)), .int (gI S2 413 (((gI S2 396 37) - (1 : Int32))).toNatClampNeg), .int v5, z_j]) t178_31 rfl rfl).trans ?_
    refine (k_aload_n t178_32 rfl rfl).trans ?_
    refine (k_getR t178_33 rfl hW6 zK_396 (by decide) (by decide) (zF_396_33 hW6)).trans ?_
    refine (k_iload_n t178_36 rfl rfl).trans ?_
    refine (k_iald t178_37 rfl hW6 zK_414 zL_414).trans (z_ite (fun g7 => ?_) (fun _ => rfl))
    refine (k_iconst t178_38 rfl zci_2).trans ?_
    refine (k_icmp_ge t178_39 rfl).trans (z_ite (fun g8 => ?_) (fun g8 => ?_))
    · exact (zk_mk (ls' := [.ref 396, .int ((gI S2 396 37) - (1 : Int32)), .int (gI S2 413 (((gI S2 396 37) - (1 : Int32))).toNatClampNeg), .int v5, z_j]) t178_188 rfl)
    · refine (k_aload_n t178_42 rfl rfl).trans ?_
      refine (k_bipush t178_43 rfl zcb_43).trans ?_
      refine k_callI (as := [.ref 396, .int (43 : Int32)]) (rest := []) t178_45 rfl rfl (by decide) rfl rfl (Nat.le_of_ble_eq_true rfl) rfl (z_rcV hW6 (zK_396) (by decide)) (by decide) (Or.inr (by decide)) hW6 (fun v9 S10 hW10 => ?_)
      refine (k_if_ne t178_48 rfl).trans (z_ite (fun g11 => ?_) (fun g11 => ?_))
      · exact (zk_mk (ls' := [.ref 396, z_j, z_j, z_j, z_j]) t178_87 rfl)
      · refine (k_aload_n t178_51 rfl rfl).trans ?_
        refine (k_bipush t178_52 rfl zcb_45).trans ?_
        refine k_callI (as := [.ref 396, .int (45 : Int32)]) (rest := []) t178_54 rfl rfl (by decide) rfl rfl (Nat.le_of_ble_eq_true rfl) rfl (z_rcV hW10 (zK_396) (by decide)) (by decide) (Or.inr (by decide)) hW10 (fun v12 S13 hW13 => ?_)
        refine (k_if_ne t178_57 rfl).trans (z_ite (fun g14 => ?_) (fun g14 => ?_))
        · exact (zk_mk (ls' := [.ref 396, z_j, z_j, z_j, z_j]) t178_87 rfl)
        · refine (k_aload_n t178_60 rfl rfl).trans ?_
          refine (k_bipush t178_61 rfl zcb_42).trans ?_
          refine k_callI (as := [.ref 396, .int (42 : Int32)]) (rest := []) t178_63 rfl rfl (by decide) rfl rfl (Nat.le_of_ble_eq_true rfl) rfl (z_rcV hW13 (zK_396) (by decide)) (by decide) (Or.inr (by decide)) hW13 (fun v15 S16 hW16 => ?_)
          refine (k_if_ne t178_66 rfl).trans (z_ite (fun g17 => ?_) (fun g17 => ?_))
          · exact (zk_mk (ls' := [.ref 396, z_j, z_j, z_j, z_j]) t178_87 rfl)
          · refine (k_aload_n t178_69 rfl rfl).trans ?_
            refine (k_bipush t178_70 rfl zcb_47).trans ?_
            refine k_callI (as := [.ref 396, .int (47 : Int32)]) (rest := []) t178_72 rfl rfl (by decide) rfl rfl (Nat.le_of_ble_eq_true rfl) rfl (z_rcV hW16 (zK_396) (by decide)) (by decide) (Or.inr (by decide)) hW16 (fun v18 S19 hW19 => ?_)
            refine (k_if_ne t178_75 rfl).trans (z_ite (fun g20 => ?_) (fun g20 => ?_))
            · exact (zk_mk (ls' := [.ref 396, z_j, z_j, z_j, z_j]) t178_87 rfl)
            · refine (k_aload_n t178_78 rfl rfl).trans ?_
              refine (k_bipush t178_79 rfl zcb_37).trans ?_
              refine k_callI (as := [.ref 396, .int (37 : Int32)]) (rest := []) t178_81 rfl rfl (by decide) rfl rfl (Nat.le_of_ble_eq_true rfl) rfl (z_rcV hW19 (zK_396) (by decide)) (by decide) (Or.inr (by decide)) hW19 (fun v21 S22 hW22 => ?_)
              refine (k_if_eq t178_84 rfl).trans (z_ite (fun g23 => ?_) (fun g23 => ?_))
              · exact (zk_mk (ls' := [.ref 396, .int ((gI S2 396 37) - (1 : Int32)), .int (gI S2 413 (((gI S2 396 37) - (1 : Int32))).toNatClampNeg), .int v5, z_j]) t178_188 rfl)
              · exact (zk_mk (ls' := [.ref 396, z_j, z_j, z_j, z_j]) t178_87 rfl)
  · refine (k_iconst t178_11 rfl zci_0).trans ?_
    exact k_zretC t178_12 rfl (by decide) (by decide)
theorem t179_0 : z_ft 179 0 = some (.aload_n 0, 1, none, [], 0, 0, 0, 0) := z_ftd (by decide +kernel)
theorem t179_1 : z_ft 179 1 = some (.getfield 36, 3, none, [], 12, 8, 9, 0) := z_ftd (by decide +kernel)
theorem t179_4 : z_ft 179 4 = some (.ifCond .le 4, 3, none, [], 8, 0, 0, 0) := z_ftd (by decide +kernel)
theorem t179_7 : z_ft 179 7 = some (.return_, 1, none, [], 0, 0, 0, 0) := z_ftd (by decide +kernel)
theorem t179_8 : z_ft 179 8 = some (.aload_n 0, 1, none, [], 0, 0, 0, 0) := z_ftd (by decide +kernel)
theorem t179_9 : z_ft 179 9 = some (.iconst 0, 1, none, [], 0, 0, 0, 0) := z_ftd (by decide +kernel)
theorem t179_10 : z_ft 179 10 = some (.putfield 125, 3, none, [], 12, 37, 38, 0) := z_ftd (by decide +kernel)
theorem t179_13 : z_ft 179 13 = some (.aload_n 0, 1, none, [], 0, 0, 0, 0) := z_ftd (by decide +kernel)
theorem t179_14 : z_ft 179 14 = some (.iconst 0, 1, none, [], 0, 0, 0, 0) := z_ftd (by decide +kernel)
theorem t179_15 : z_ft 179 15 = some (.putfield 128, 3, none, [], 12, 38, 39, 0) := z_ftd (by decide +kernel)
theorem t179_18 : z_ft 179 18 = some (.aload_n 0, 1, none, [], 0, 0, 0, 0) := z_ftd (by decide +kernel)
theorem t179_19 : z_ft 179 19 = some (.iconst 0, 1, none, [], 0, 0, 0, 0) := z_ftd (by decide +kernel)
theorem t179_20 : z_ft 179 20 = some (.putfield 134, 3, none, [], 12, 40, 41, 0) := z_ftd (by decide +kernel)
theorem t179_23 : z_ft 179 23 = some (.aload_n 0, 1, none, [], 0, 0, 0, 0) := z_ftd (by decide +kernel)
theorem t179_24 : z_ft 179 24 = some (.iconst 0, 1, none, [], 0, 0, 0, 0) := z_ftd (by decide +kernel)
theorem t179_25 : z_ft 179 25 = some (.putfield 137, 3, none, [], 12, 41, 42, 0) := z_ftd (by decide +kernel)
theorem t179_28 : z_ft 179 28 = some (.aload_n 0, 1, none, [], 0, 0, 0, 0) := z_ftd (by decide +kernel)
theorem t179_29 : z_ft 179 29 = some (.iload_n 1, 1, none, [], 0, 0, 0, 0) := z_ftd (by decide +kernel)
theorem t179_30 : z_ft 179 30 = some (.ifCond .eq 7, 3, none, [], 37, 0, 0, 0) := z_ftd (by decide +kernel)
theorem t179_33 : z_ft 179 33 = some (.iconst 1, 1, none, [], 0, 0, 0, 0) := z_ftd (by decide +kernel)
theorem t179_34 : z_ft 179 34 = some (.goto 4, 3, none, [], 38, 0, 0, 0) := z_ftd (by decide +kernel)
theorem t179_37 : z_ft 179 37 = some (.iconst 0, 1, none, [], 0, 0, 0, 0) := z_ftd (by decide +kernel)
theorem t179_38 : z_ft 179 38 = some (.invokevirtual 317, 3, (some [0]), [], 174, 0, 124, 0) := z_ftd (by decide +kernel)
theorem t179_41 : z_ft 179 41 = some (.iconst 1, 1, none, [], 0, 0, 0, 0) := z_ftd (by decide +kernel)
theorem t179_42 : z_ft 179 42 = some (.istore_n 2, 1, none, [], 0, 0, 0, 0) := z_ftd (by decide +kernel)
theorem t179_43 : z_ft 179 43 = some (.iload_n 2, 1, (some [0, 2]), [], 0, 0, 0, 0) := z_ftd (by decide +kernel)
theorem t179_44 : z_ft 179 44 = some (.ifCond .eq 46, 3, none, [], 90, 0, 0, 0) := z_ftd (by decide +kernel)
theorem t179_47 : z_ft 179 47 = some (.aload_n 0, 1, none, [], 0, 0, 0, 0) := z_ftd (by decide +kernel)
theorem t179_48 : z_ft 179 48 = some (.getfield 137, 3, none, [], 12, 41, 42, 0) := z_ftd (by decide +kernel)
theorem t179_51 : z_ft 179 51 = some (.ifCond .ne 14, 3, none, [], 65, 0, 0, 0) := z_ftd (by decide +kernel)
theorem t179_54 : z_ft 179 54 = some (.aload_n 0, 1, none, [], 0, 0, 0, 0) := z_ftd (by decide +kernel)
theorem t179_55 : z_ft 179 55 = some (.aload_n 0, 1, none, [], 0, 0, 0, 0) := z_ftd (by decide +kernel)
theorem t179_56 : z_ft 179 56 = some (.invokevirtual 336, 3, none, [], 177, 0, 125, 0) := z_ftd (by decide +kernel)
theorem t179_59 : z_ft 179 59 = some (.putfield 137, 3, none, [], 12, 41, 42, 0) := z_ftd (by decide +kernel)
theorem t179_62 : z_ft 179 62 = some (.goto 8, 3, none, [], 70, 0, 0, 0) := z_ftd (by decide +kernel)
theorem t179_65 : z_ft 179 65 = some (.aload_n 0, 1, none, [], 0, 0, 0, 0) := z_ftd (by decide +kernel)
theorem t179_66 : z_ft 179 66 = some (.invokevirtual 339, 3, none, [], 178, 0, 130, 0) := z_ftd (by decide +kernel)
theorem t179_69 : z_ft 179 69 = some (.istore_n 2, 1, none, [], 0, 0, 0, 0) := z_ftd (by decide +kernel)
theorem t179_70 : z_ft 179 70 = some (.iload_n 2, 1, (some [0, 2]), [], 0, 0, 0, 0) := z_ftd (by decide +kernel)
theorem t179_71 : z_ft 179 71 = some (.ifCond .eq 14, 3, none, [], 85, 0, 0, 0) := z_ftd (by decide +kernel)
theorem t179_74 : z_ft 179 74 = some (.aload_n 0, 1, none, [], 0, 0, 0, 0) := z_ftd (by decide +kernel)
theorem t179_75 : z_ft 179 75 = some (.getfield 36, 3, none, [], 12, 8, 9, 0) := z_ftd (by decide +kernel)
theorem t179_78 : z_ft 179 78 = some (.ifCond .ne 7, 3, none, [], 85, 0, 0, 0) := z_ftd (by decide +kernel)
theorem t179_81 : z_ft 179 81 = some (.iconst 1, 1, none, [], 0, 0, 0, 0) := z_ftd (by decide +kernel)
theorem t179_82 : z_ft 179 82 = some (.goto 4, 3, none, [], 86, 0, 0, 0) := z_ftd (by decide +kernel)
theorem t179_85 : z_ft 179 85 = some (.iconst 0, 1, (some [0]), [], 0, 0, 0, 0) := z_ftd (by decide +kernel)
theorem t179_86 : z_ft 179 86 = some (.istore_n 2, 1, (some [0]), [], 0, 0, 0, 0) := z_ftd (by decide +kernel)
theorem t179_87 : z_ft 179 87 = some (.goto (-44), 3, none, [], 43, 0, 0, 0) := z_ftd (by decide +kernel)
theorem t179_90 : z_ft 179 90 = some (.return_, 1, none, [], 0, 0, 0, 0) := z_ftd (by decide +kernel)
noncomputable def b179_38 (d : Nat) (s0 : Int32) (S : z_S) : Option z_S := zk kV z_X0 d 179 38 [.ref 396, z_j, z_j] [.int s0, .ref 396] S
noncomputable def b179_43 (d : Nat) (y2 : Int32) (S : z_S) : Option z_S := zk kV z_X0 d 179 43 [.ref 396, z_j, .int y2] [] S
noncomputable def b179_70 (d : Nat) (y2 : Int32) (S : z_S) : Option z_S := zk kV z_X0 d 179 70 [.ref 396, z_j, .int y2] [] S
noncomputable def b179_85 (d : Nat)  (S : z_S) : Option z_S := zk kV z_X0 d 179 85 [.ref 396, z_j, z_j] [] S
noncomputable def b179_86 (d : Nat) (s0 : Int32) (S : z_S) : Option z_S := zk kV z_X0 d 179 86 [.ref 396, z_j, z_j] [.int s0] S
theorem b179_38_eq (d : Nat) (s0 : Int32) (S : z_S) (hW : z_W S)  : b179_38 d s0 S = ((fV d 174 [.ref 396, .int s0] S).bind fun S4 => b179_43 d (1 : Int32) S4) := by
  unfold b179_38
  refine k_callV (as := [.ref 396, .int s0]) (rest := []) t179_38 rfl rfl (by decide) rfl rfl (Nat.le_of_ble_eq_true rfl) rfl (z_rcV hW (zK_396) (by decide)) (by decide) (by decide) hW (fun S4 hW4 => ?_)
  refine (k_iconst t179_41 rfl zci_1).trans ?_
  refine (k_istore_n (ls' := [.ref 396, z_j, .int (1 : Int32)]) t179_42 rfl rfl).trans ?_
  exact (zk_mk (ls' := [.ref 396, z_j, .int (1 : Int32)]) t179_43 rfl)
theorem b179_43_eq (d : Nat) (y2 : Int32) (S : z_S) (hW : z_W S)  : b179_43 d y2 S = (if y2 = (0 : Int32) then some S else (if ¬ (gI S 396 41) = (0 : Int32) then (zb (fI d 178 [.ref 396] S) fun v7 S8 => b179_70 d v7 S8) else (zb (fI d 177 [.ref 396] S) fun v9 S10 => (if v9 = 0 ∨ v9 = 1 then b179_70 d y2 (sI S10 396 41 v9) else none)))) := by
  unfold b179_43
  refine (k_iload_n t179_43 rfl rfl).trans ?_
  refine (k_if_eq t179_44 rfl).trans (z_ite (fun g5 => ?_) (fun g5 => ?_))
  · exact k_return t179_90 rfl (by decide)
  · refine (k_aload_n t179_47 rfl rfl).trans ?_
    refine (k_getI t179_48 rfl hW zK_396 (by decide) (by decide)).trans ?_
    refine (k_if_ne t179_51 rfl).trans (z_ite (fun g6 => ?_) (fun g6 => ?_))
    · refine (k_aload_n t179_65 rfl rfl).trans ?_
      refine k_callI (as := [.ref 396]) (rest := []) t179_66 rfl rfl (by decide) rfl rfl (Nat.le_of_ble_eq_true rfl) rfl (z_rcV hW (zK_396) (by decide)) (by decide) (Or.inr (by decide)) hW (fun v7 S8 hW8 => ?_)
      refine (k_istore_n (ls' := [.ref 396, z_j, .int v7]) t179_69 rfl rfl).trans ?_
      exact (zk_mk (ls' := [.ref 396, z_j, .int v7]) t179_70 rfl)
    · refine (k_aload_n t179_54 rfl rfl).trans ?_
      refine (k_aload_n t179_55 rfl rfl).trans ?_
      refine k_callI (as := [.ref 396]) (rest := [.ref 396]) t179_56 rfl rfl (by decide) rfl rfl (Nat.le_of_ble_eq_true rfl) rfl (z_rcV hW (zK_396) (by decide)) (by decide) (Or.inr (by decide)) hW (fun v9 S10 hW10 => ?_)
      refine (k_putZ t179_59 rfl hW10 zK_396 (by decide) (by decide) (by decide)).trans (z_ite (fun g11 => ?_) (fun _ => rfl))
      refine (k_goto t179_62 rfl).trans ?_
      exact (zk_mk (ls' := [.ref 396, z_j, .int y2]) t179_70 rfl)
theorem b179_70_eq (d : Nat) (y2 : Int32) (S : z_S) (hW : z_W S)  : b179_70 d y2 S = (if y2 = (0 : Int32) then b179_85 d S else (if ¬ (gI S 396 8) = (0 : Int32) then b179_85 d S else b179_86 d (1 : Int32) S)) := by
  unfold b179_70
  refine (k_iload_n t179_70 rfl rfl).trans ?_
  refine (k_if_eq t179_71 rfl).trans (z_ite (fun g12 => ?_) (fun g12 => ?_))
  · exact (zk_mk (ls' := [.ref 396, z_j, z_j]) t179_85 rfl)
  · refine (k_aload_n t179_74 rfl rfl).trans ?_
    refine (k_getI t179_75 rfl hW zK_396 (by decide) (by decide)).trans ?_
    refine (k_if_ne t179_78 rfl).trans (z_ite (fun g13 => ?_) (fun g13 => ?_))
    · exact (zk_mk (ls' := [.ref 396, z_j, z_j]) t179_85 rfl)
    · refine (k_iconst t179_81 rfl zci_1).trans ?_
      refine (k_goto t179_82 rfl).trans ?_
      exact (zk_mk (ls' := [.ref 396, z_j, z_j]) t179_86 rfl)
theorem b179_85_eq (d : Nat)  (S : z_S) (hW : z_W S)  : b179_85 d  S = b179_86 d (0 : Int32) S := by
  unfold b179_85
  refine (k_iconst t179_85 rfl zci_0).trans ?_
  exact (zk_mk (ls' := [.ref 396, z_j, z_j]) t179_86 rfl)
theorem b179_86_eq (d : Nat) (s0 : Int32) (S : z_S) (hW : z_W S)  : b179_86 d s0 S = b179_43 d s0 S := by
  unfold b179_86
  refine (k_istore_n (ls' := [.ref 396, z_j, .int s0]) t179_86 rfl rfl).trans ?_
  refine (k_goto t179_87 rfl).trans ?_
  exact (zk_mk (ls' := [.ref 396, z_j, .int s0]) t179_43 rfl)
-- X12_reads
theorem e179 (d : Nat) (x1 : Int32) (S : z_S) (hW : z_W S)  : fV (d + 1) 179 [.ref 396, .int x1] S = (if (gI S 396 8) ≤ (0 : Int32) then (if x1 = (0 : Int32) then b179_38 d (0 : Int32) (sI (sI (sI (sI S 396 37 (0 : Int32)) 396 38 (0 : Int32)) 396 40 (0 : Int32)) 396 41 (0 : Int32)) else b179_38 d (1 : Int32) (sI (sI (sI (sI S 396 37 (0 : Int32)) 396 38 (0 : Int32)) 396 40 (0 : Int32)) 396 41 (0 : Int32))) else some S) := by
  refine (fV_en (Nat.le_of_ble_eq_true rfl) rfl).trans ?_
  refine (k_aload_n t179_0 rfl rfl).trans ?_
  refine (k_getI t179_1 rfl hW zK_396 (by decide) (by decide)).trans ?_
  refine (k_if_le t179_4 rfl).trans (z_ite (fun g1 => ?_) (fun g1 => ?_))
  · refine (k_aload_n t179_8 rfl rfl).trans ?_
    refine (k_iconst t179_9 rfl zci_0).trans ?_
    refine (k_putI t179_10 rfl hW zK_396 (by decide) (by decide) (by decide)).trans ?_
    refine (k_aload_n t179_13 rfl rfl).trans ?_
    refine (k_iconst t179_14 rfl zci_0).trans ?_
    refine (k_putI t179_15 rfl hW.sI zK_396 (by decide) (by decide) (by decide)).trans ?_
    refine (k_aload_n t179_18 rfl rfl).trans ?_
    refine (k_iconst t179_19 rfl zci_0).trans ?_
    refine (k_putI t179_20 rfl hW.sI.sI zK_396 (by decide) (by decide) (by decide)).trans ?_
    refine (k_aload_n t179_23 rfl rfl).trans ?_
    refine (k_iconst t179_24 rfl zci_0).trans ?_
    refine ((k_putZ t179_25 rfl hW.sI.sI.sI zK_396 (by decide) (by decide) (by decide)).trans (if_pos (by decide))).trans ?_
    refine (k_aload_n t179_28 rfl rfl).trans ?_
    refine (k_iload_n t179_29 rfl rfl).trans ?_
    refine (k_if_eq t179_30 rfl).trans (z_ite (fun g2 => ?_) (fun g2 => ?_))
    · refine (k_iconst t179_37 rfl zci_0).trans ?_
      exact (zk_mk (ls' := [.ref 396, z_j, z_j]) t179_38 rfl)
    · refine (k_iconst t179_33 rfl zci_1).trans ?_
      refine (k_goto t179_34 rfl).trans ?_
      exact (zk_mk (ls' := [.ref 396, z_j, z_j]) t179_38 rfl)
  · exact k_return t179_7 rfl (by decide)
theorem t180_0 : z_ft 180 0 = some (.aload_n 0, 1, none, [], 0, 0, 0, 0) := z_ftd (by decide +kernel)
theorem t180_1 : z_ft 180 1 = some (.getfield 36, 3, none, [], 12, 8, 9, 0) := z_ftd (by decide +kernel)
theorem t180_4 : z_ft 180 4 = some (.ifCond .ne 17, 3, none, [], 21, 0, 0, 0) := z_ftd (by decide +kernel)
theorem t180_7 : z_ft 180 7 = some (.iload_n 1, 1, none, [], 0, 0, 0, 0) := z_ftd (by decide +kernel)
theorem t180_8 : z_ft 180 8 = some (.ifCond .eq 13, 3, none, [], 21, 0, 0, 0) := z_ftd (by decide +kernel)
theorem t180_11 : z_ft 180 11 = some (.aload_n 0, 1, none, [], 0, 0, 0, 0) := z_ftd (by decide +kernel)
theorem t180_12 : z_ft 180 12 = some (.bipush 6, 2, none, [], 0, 0, 0, 0) := z_ftd (by decide +kernel)
theorem t180_14 : z_ft 180 14 = some (.aload_n 0, 1, none, [], 0, 0, 0, 0) := z_ftd (by decide +kernel)
theorem t180_15 : z_ft 180 15 = some (.getfield 23, 3, none, [], 12, 4, 5, 0) := z_ftd (by decide +kernel)
theorem t180_18 : z_ft 180 18 = some (.invokevirtual 239, 3, none, [], 159, 0, 82, 0) := z_ftd (by decide +kernel)
theorem t180_21 : z_ft 180 21 = some (.aload_n 0, 1, (some [0]), [], 0, 0, 0, 0) := z_ftd (by decide +kernel)
theorem t180_22 : z_ft 180 22 = some (.getfield 36, 3, none, [], 12, 8, 9, 0) := z_ftd (by decide +kernel)
theorem t180_25 : z_ft 180 25 = some (.ifCond .ne 7, 3, none, [], 32, 0, 0, 0) := z_ftd (by decide +kernel)
theorem t180_28 : z_ft 180 28 = some (.aload_n 0, 1, none, [], 0, 0, 0, 0) := z_ftd (by decide +kernel)
theorem t180_29 : z_ft 180 29 = some (.invokevirtual 256, 3, none, [], 163, 0, 75, 0) := z_ftd (by decide +kernel)
theorem t180_32 : z_ft 180 32 = some (.aload_n 0, 1, (some [0]), [], 0, 0, 0, 0) := z_ftd (by decide +kernel)
theorem t180_33 : z_ft 180 33 = some (.getfield 36, 3, none, [], 12, 8, 9, 0) := z_ftd (by decide +kernel)
theorem t180_36 : z_ft 180 36 = some (.ifCond .ne 7, 3, none, [], 43, 0, 0, 0) := z_ftd (by decide +kernel)
theorem t180_39 : z_ft 180 39 = some (.iconst 1, 1, none, [], 0, 0, 0, 0) := z_ftd (by decide +kernel)
theorem t180_40 : z_ft 180 40 = some (.goto 4, 3, none, [], 44, 0, 0, 0) := z_ftd (by decide +kernel)
theorem t180_43 : z_ft 180 43 = some (.iconst 0, 1, none, [], 0, 0, 0, 0) := z_ftd (by decide +kernel)
theorem t180_44 : z_ft 180 44 = some (.ireturn, 1, (some []), [], 0, 0, 0, 0) := z_ftd (by decide +kernel)
noncomputable def b180_21 (d : Nat)  (S : z_S) : Option (Int32 × z_S) := zk kI z_X0 d 180 21 [.ref 396, z_j] [] S
noncomputable def b180_32 (d : Nat)  (S : z_S) : Option (Int32 × z_S) := zk kI z_X0 d 180 32 [.ref 396, z_j] [] S
theorem b180_21_eq (d : Nat)  (S : z_S) (hW : z_W S)  : b180_21 d  S = (if ¬ (gI S 396 8) = (0 : Int32) then b180_32 d S else ((fV d 163 [.ref 396] S).bind fun S7 => b180_32 d S7)) := by
  unfold b180_21
  refine (k_aload_n t180_21 rfl rfl).trans ?_
  refine (k_getI t180_22 rfl hW zK_396 (by decide) (by decide)).trans ?_
  refine (k_if_ne t180_25 rfl).trans (z_ite (fun g5 => ?_) (fun g5 => ?_))
  · exact (zk_mk (ls' := [.ref 396, z_j]) t180_32 rfl)
  · refine (k_aload_n t180_28 rfl rfl).trans ?_
    refine k_callV (as := [.ref 396]) (rest := []) t180_29 rfl rfl (by decide) rfl rfl (Nat.le_of_ble_eq_true rfl) rfl (z_rcV hW (zK_396) (by decide)) (by decide) (by decide) hW (fun S7 hW7 => ?_)
    exact (zk_mk (ls' := [.ref 396, z_j]) t180_32 rfl)
theorem b180_32_eq (d : Nat)  (S : z_S) (hW : z_W S)  : b180_32 d  S = (if ¬ (gI S 396 8) = (0 : Int32) then some ((0 : Int32), S) else some ((1 : Int32), S)) := by
  unfold b180_32
  refine (k_aload_n t180_32 rfl rfl).trans ?_
  refine (k_getI t180_33 rfl hW zK_396 (by decide) (by decide)).trans ?_
  refine (k_if_ne t180_36 rfl).trans (z_ite (fun g8 => ?_) (fun g8 => ?_))
  · refine (k_iconst t180_43 rfl zci_0).trans ?_
    refine (zk_mk (ls' := [z_j, z_j]) t180_44 rfl).trans ?_
    exact k_zretC t180_44 rfl (by decide) (by decide)
  · refine (k_iconst t180_39 rfl zci_1).trans ?_
    refine (k_goto t180_40 rfl).trans ?_
    refine (zk_mk (ls' := [z_j, z_j]) t180_44 rfl).trans ?_
    exact k_zretC t180_44 rfl (by decide) (by decide)
-- X12_isCounted
theorem e180 (d : Nat) (x1 : Int32) (S : z_S) (hW : z_W S)  : fI (d + 1) 180 [.ref 396, .int x1] S = (if ¬ (gI S 396 8) = (0 : Int32) then b180_21 d S else (if x1 = (0 : Int32) then b180_21 d S else ((fV d 159 [.ref 396, .int (6 : Int32), .int (gI S 396 4)] S).bind fun S4 => b180_21 d S4))) := by
  refine (fI_en (Nat.le_of_ble_eq_true rfl) rfl).trans ?_
  refine (k_aload_n t180_0 rfl rfl).trans ?_
  refine (k_getI t180_1 rfl hW zK_396 (by decide) (by decide)).trans ?_
  refine (k_if_ne t180_4 rfl).trans (z_ite (fun g1 => ?_) (fun g1 => ?_))
  · exact (zk_mk (ls' := [.ref 396, z_j]) t180_21 rfl)
  · refine (k_iload_n t180_7 rfl rfl).trans ?_
    refine (k_if_eq t180_8 rfl).trans (z_ite (fun g2 => ?_) (fun g2 => ?_))
    · exact (zk_mk (ls' := [.ref 396, z_j]) t180_21 rfl)
    · refine (k_aload_n t180_11 rfl rfl).trans ?_
      refine (k_bipush t180_12 rfl zcb_6).trans ?_
      refine (k_aload_n t180_14 rfl rfl).trans ?_
      refine (k_getI t180_15 rfl hW zK_396 (by decide) (by decide)).trans ?_
      refine k_callV (as := [.ref 396, .int (6 : Int32), .int (gI S 396 4)]) (rest := []) t180_18 rfl rfl (by decide) rfl rfl (Nat.le_of_ble_eq_true rfl) rfl (z_rcV hW (zK_396) (by decide)) (by decide) (by decide) hW (fun S4 hW4 => ?_)
      exact (zk_mk (ls' := [.ref 396, z_j]) t180_21 rfl)
theorem t181_0 : z_ft 181 0 = some (.aload_n 0, 1, none, [], 0, 0, 0, 0) := z_ftd (by decide +kernel)
theorem t181_1 : z_ft 181 1 = some (.invokevirtual 250, 3, none, [], 162, 0, 81, 0) := z_ftd (by decide +kernel)
theorem t181_4 : z_ft 181 4 = some (.aload_n 0, 1, none, [], 0, 0, 0, 0) := z_ftd (by decide +kernel)
theorem t181_5 : z_ft 181 5 = some (.getfield 36, 3, none, [], 12, 8, 9, 0) := z_ftd (by decide +kernel)
theorem t181_8 : z_ft 181 8 = some (.ifCond .le 4, 3, none, [], 12, 0, 0, 0) := z_ftd (by decide +kernel)
theorem t181_11 : z_ft 181 11 = some (.return_, 1, none, [], 0, 0, 0, 0) := z_ftd (by decide +kernel)
theorem t181_12 : z_ft 181 12 = some (.aload_n 0, 1, none, [], 0, 0, 0, 0) := z_ftd (by decide +kernel)
theorem t181_13 : z_ft 181 13 = some (.lload_n 1, 1, none, [], 0, 0, 0, 0) := z_ftd (by decide +kernel)
theorem t181_14 : z_ft 181 14 = some (.invokevirtual 323, 3, none, [], 165, 0, 83, 0) := z_ftd (by decide +kernel)
theorem t181_17 : z_ft 181 17 = some (.ifCond .ne 12, 3, none, [], 29, 0, 0, 0) := z_ftd (by decide +kernel)
theorem t181_20 : z_ft 181 20 = some (.aload_n 0, 1, none, [], 0, 0, 0, 0) := z_ftd (by decide +kernel)
theorem t181_21 : z_ft 181 21 = some (.iconst 1, 1, none, [], 0, 0, 0, 0) := z_ftd (by decide +kernel)
theorem t181_22 : z_ft 181 22 = some (.aload_n 0, 1, none, [], 0, 0, 0, 0) := z_ftd (by decide +kernel)
theorem t181_23 : z_ft 181 23 = some (.getfield 23, 3, none, [], 12, 4, 5, 0) := z_ftd (by decide +kernel)
theorem t181_26 : z_ft 181 26 = some (.invokevirtual 239, 3, none, [], 159, 0, 82, 0) := z_ftd (by decide +kernel)
theorem t181_29 : z_ft 181 29 = some (.aload_n 0, 1, (some [0]), [], 0, 0, 0, 0) := z_ftd (by decide +kernel)
theorem t181_30 : z_ft 181 30 = some (.getfield 36, 3, none, [], 12, 8, 9, 0) := z_ftd (by decide +kernel)
theorem t181_33 : z_ft 181 33 = some (.ifCond .ne 7, 3, none, [], 40, 0, 0, 0) := z_ftd (by decide +kernel)
theorem t181_36 : z_ft 181 36 = some (.aload_n 0, 1, none, [], 0, 0, 0, 0) := z_ftd (by decide +kernel)
theorem t181_37 : z_ft 181 37 = some (.invokevirtual 256, 3, none, [], 163, 0, 75, 0) := z_ftd (by decide +kernel)
theorem t181_40 : z_ft 181 40 = some (.return_, 1, (some []), [], 0, 0, 0, 0) := z_ftd (by decide +kernel)
noncomputable def b181_29 (d : Nat)  (S : z_S) : Option z_S := zk kV z_X0 d 181 29 [.ref 396, z_j, z_j] [] S
theorem b181_29_eq (d : Nat)  (S : z_S) (hW : z_W S)  : b181_29 d  S = (if ¬ (gI S 396 8) = (0 : Int32) then some S else ((fV d 163 [.ref 396] S).bind fun S11 => some S11)) := by
  unfold b181_29
  refine (k_aload_n t181_29 rfl rfl).trans ?_
  refine (k_getI t181_30 rfl hW zK_396 (by decide) (by decide)).trans ?_
  refine (k_if_ne t181_33 rfl).trans (z_ite (fun g9 => ?_) (fun g9 => ?_))
  · refine (zk_mk (ls' := [z_j, z_j, z_j]) t181_40 rfl).trans ?_
    exact k_return t181_40 rfl (by decide)
  · refine (k_aload_n t181_36 rfl rfl).trans ?_
    refine k_callV (as := [.ref 396]) (rest := []) t181_37 rfl rfl (by decide) rfl rfl (Nat.le_of_ble_eq_true rfl) rfl (z_rcV hW (zK_396) (by decide)) (by decide) (by decide) hW (fun S11 hW11 => ?_)
    refine (zk_mk (ls' := [z_j, z_j, z_j]) t181_40 rfl).trans ?_
    exact k_return t181_40 rfl (by decide)
-- X12_must_
theorem e181 (d : Nat) (x1 : Int64) (S : z_S) (hW : z_W S)  : fV (d + 1) 181 [.ref 396, .long x1] S = ((fV d 162 [.ref 396] S).bind fun S2 => (if (gI S2 396 8) ≤ (0 : Int32) then (zb (fI d 165 [.ref 396, .long x1] S2) fun v4 S5 => (if ¬ v4 = (0 : Int32) then b181_29 d S5 else ((fV d 159 [.ref 396, .int (1 : Int32), .int (gI S5 396 4)] S5).bind fun S8 => b181_29 d S8))) else some S2)) := by
  refine (fV_en (Nat.le_of_ble_eq_true rfl) rfl).trans ?_
  refine (k_aload_n t181_0 rfl rfl).trans ?_
  refine k_callV (as := [.ref 396]) (rest := []) t181_1 rfl rfl (by decide) rfl rfl (Nat.le_of_ble_eq_true rfl) rfl (z_rcV hW (zK_396) (by decide)) (by decide) (by decide) hW (fun S2 hW2 => ?_)
  refine (k_aload_n t181_4 rfl rfl).trans ?_
  refine (k_getI t181_5 rfl hW2 zK_396 (by decide) (by decide)).trans ?_
  refine (k_if_le t181_8 rfl).trans (z_ite (fun g3 => ?_) (fun g3 => ?_))
  · refine (k_aload_n t181_12 rfl rfl).trans ?_
    refine (k_lload_n t181_13 rfl rfl).trans ?_
    refine k_callI (as := [.ref 396, .long x1]) (rest := []) t181_14 rfl rfl (by decide) rfl rfl (Nat.le_of_ble_eq_true rfl) rfl (z_rcV hW2 (zK_396) (by decide)) (by decide) (Or.inr (by decide)) hW2 (fun v4 S5 hW5 => ?_)
    refine (k_if_ne t181_17 rfl).trans (z_ite (fun g6 => ?_) (fun g6 => ?_))
    · exact (zk_mk (ls' := [.ref 396, z_j, z_j]) t181_29 rfl)
    · refine (k_aload_n t181_20 rfl rfl).trans ?_
      refine (k_iconst t181_21 rfl zci_1).trans ?_
      refine (k_aload_n t181_22 rfl rfl).trans ?_
      refine (k_getI t181_23 rfl hW5 zK_396 (by decide) (by decide)).trans ?_
      refine k_callV (as := [.ref 396, .int (1 : Int32), .int (gI S5 396 4)]) (rest := []) t181_26 rfl rfl (by decide) rfl rfl (Nat.le_of_ble_eq_true rfl) rfl (z_rcV hW5 (zK_396) (by decide)) (by decide) (by decide) hW5 (fun S8 hW8 => ?_)
      exact (zk_mk (ls' := [.ref 396, z_j, z_j]) t181_29 rfl)
  · exact k_return t181_11 rfl (by decide)
theorem t182_0 : z_ft 182 0 = some (.iload_n 0, 1, none, [], 0, 0, 0, 0) := z_ftd (by decide +kernel)
theorem t182_1 : z_ft 182 1 = some (.iload_n 1, 1, none, [], 0, 0, 0, 0) := z_ftd (by decide +kernel)
theorem t182_2 : z_ft 182 2 = some (.ishr, 1, none, [], 0, 0, 0, 0) := z_ftd (by decide +kernel)
theorem t182_3 : z_ft 182 3 = some (.iconst 1, 1, none, [], 0, 0, 0, 0) := z_ftd (by decide +kernel)
theorem t182_4 : z_ft 182 4 = some (.iand, 1, none, [], 0, 0, 0, 0) := z_ftd (by decide +kernel)
theorem t182_5 : z_ft 182 5 = some (.iconst 1, 1, none, [], 0, 0, 0, 0) := z_ftd (by decide +kernel)
theorem t182_6 : z_ft 182 6 = some (.if_icmp .ne 7, 3, none, [], 13, 0, 0, 0) := z_ftd (by decide +kernel)
theorem t182_9 : z_ft 182 9 = some (.iconst 1, 1, none, [], 0, 0, 0, 0) := z_ftd (by decide +kernel)
theorem t182_10 : z_ft 182 10 = some (.goto 4, 3, none, [], 14, 0, 0, 0) := z_ftd (by decide +kernel)
theorem t182_13 : z_ft 182 13 = some (.iconst 0, 1, none, [], 0, 0, 0, 0) := z_ftd (by decide +kernel)
theorem t182_14 : z_ft 182 14 = some (.ireturn, 1, (some []), [], 0, 0, 0, 0) := z_ftd (by decide +kernel)
-- X12_has2
theorem e182 (d : Nat) (x1 : Int32) (x2 : Int32) (S : z_S) (hW : z_W S)  : fI (d + 1) 182 [.int x1, .int x2] S = (if ¬ ((x1 >>> (x2 &&& 31)) &&& (1 : Int32)) = (1 : Int32) then some ((0 : Int32), S) else some ((1 : Int32), S)) := by
  refine (fI_en (Nat.le_of_ble_eq_true rfl) rfl).trans ?_
  refine (k_iload_n t182_0 rfl rfl).trans ?_
  refine (k_iload_n t182_1 rfl rfl).trans ?_
  refine (k_ishr t182_2 rfl).trans ?_
  refine (k_iconst t182_3 rfl zci_1).trans ?_
  refine (k_iand t182_4 rfl).trans ?_
  refine (k_iconst t182_5 rfl zci_1).trans ?_
  refine (k_icmp_ne t182_6 rfl).trans (z_ite (fun g1 => ?_) (fun g1 => ?_))
  · refine (k_iconst t182_13 rfl zci_0).trans ?_
    refine (zk_mk (ls' := [z_j, z_j]) t182_14 rfl).trans ?_
    exact k_zretC t182_14 rfl (by decide) (by decide)
  · refine (k_iconst t182_9 rfl zci_1).trans ?_
    refine (k_goto t182_10 rfl).trans ?_
    refine (zk_mk (ls' := [z_j, z_j]) t182_14 rfl).trans ?_
    exact k_zretC t182_14 rfl (by decide) (by decide)
theorem t183_0 : z_ft 183 0 = some (.aload_n 0, 1, none, [], 0, 0, 0, 0) := z_ftd (by decide +kernel)
theorem t183_1 : z_ft 183 1 = some (.iconst 0, 1, none, [], 0, 0, 0, 0) := z_ftd (by decide +kernel)
theorem t183_2 : z_ft 183 2 = some (.invokevirtual 342, 3, none, [], 180, 0, 92, 0) := z_ftd (by decide +kernel)
theorem t183_5 : z_ft 183 5 = some (.ifCond .ne 5, 3, none, [], 10, 0, 0, 0) := z_ftd (by decide +kernel)
theorem t183_8 : z_ft 183 8 = some (.iconst 0, 1, none, [], 0, 0, 0, 0) := z_ftd (by decide +kernel)
theorem t183_9 : z_ft 183 9 = some (.ireturn, 1, none, [], 0, 0, 0, 0) := z_ftd (by decide +kernel)
theorem t183_10 : z_ft 183 10 = some (.aload_n 0, 1, none, [], 0, 0, 0, 0) := z_ftd (by decide +kernel)
theorem t183_11 : z_ft 183 11 = some (.iload_n 1, 1, none, [], 0, 0, 0, 0) := z_ftd (by decide +kernel)
theorem t183_12 : z_ft 183 12 = some (.iload_n 2, 1, none, [], 0, 0, 0, 0) := z_ftd (by decide +kernel)
theorem t183_13 : z_ft 183 13 = some (.invokevirtual 346, 3, none, [], 169, 0, 84, 0) := z_ftd (by decide +kernel)
theorem t183_16 : z_ft 183 16 = some (.ireturn, 1, none, [], 0, 0, 0, 0) := z_ftd (by decide +kernel)
-- X12_telling
theorem e183 (d : Nat) (x1 : Int32) (x2 : Int32) (S : z_S) (hW : z_W S)  : fI (d + 1) 183 [.ref 396, .int x1, .int x2] S = (zb (fI d 180 [.ref 396, .int (0 : Int32)] S) fun v1 S2 => (if ¬ v1 = (0 : Int32) then (zb (fI d 169 [.ref 396, .int x1, .int x2] S2) fun v4 S5 => some (v4, S5)) else some ((0 : Int32), S2))) := by
  refine (fI_en (Nat.le_of_ble_eq_true rfl) rfl).trans ?_
  refine (k_aload_n t183_0 rfl rfl).trans ?_
  refine (k_iconst t183_1 rfl zci_0).trans ?_
  refine k_callI (as := [.ref 396, .int (0 : Int32)]) (rest := []) t183_2 rfl rfl (by decide) rfl rfl (Nat.le_of_ble_eq_true rfl) rfl (z_rcV hW (zK_396) (by decide)) (by decide) (Or.inr (by decide)) hW (fun v1 S2 hW2 => ?_)
  refine (k_if_ne t183_5 rfl).trans (z_ite (fun g3 => ?_) (fun g3 => ?_))
  · refine (k_aload_n t183_10 rfl rfl).trans ?_
    refine (k_iload_n t183_11 rfl rfl).trans ?_
    refine (k_iload_n t183_12 rfl rfl).trans ?_
    refine k_callI (as := [.ref 396, .int x1, .int x2]) (rest := []) t183_13 rfl rfl (by decide) rfl rfl (Nat.le_of_ble_eq_true rfl) rfl (z_rcV hW2 (zK_396) (by decide)) (by decide) (Or.inl (by decide)) hW2 (fun v4 S5 hW5 => ?_)
    exact k_ireturn t183_16 rfl (by decide)
  · refine (k_iconst t183_8 rfl zci_0).trans ?_
    exact k_ireturn t183_9 rfl (by decide)
theorem t184_0 : z_ft 184 0 = some (.aload_n 0, 1, none, [], 0, 0, 0, 0) := z_ftd (by decide +kernel)
theorem t184_1 : z_ft 184 1 = some (.ldc2_w 259, 3, none, [], 0, 0, 79, 491495845235) := z_ftd (by decide +kernel)
theorem t184_4 : z_ft 184 4 = some (.invokevirtual 350, 3, none, [], 181, 0, 80, 0) := z_ftd (by decide +kernel)
theorem t184_7 : z_ft 184 7 = some (.aload_n 0, 1, none, [], 0, 0, 0, 0) := z_ftd (by decide +kernel)
theorem t184_8 : z_ft 184 8 = some (.getfield 54, 3, none, [], 12, 14, 15, 0) := z_ftd (by decide +kernel)
theorem t184_11 : z_ft 184 11 = some (.aload_n 0, 1, none, [], 0, 0, 0, 0) := z_ftd (by decide +kernel)
theorem t184_12 : z_ft 184 12 = some (.getfield 103, 3, none, [], 12, 30, 31, 0) := z_ftd (by decide +kernel)
theorem t184_15 : z_ft 184 15 = some (.aload_n 0, 1, none, [], 0, 0, 0, 0) := z_ftd (by decide +kernel)
theorem t184_16 : z_ft 184 16 = some (.iconst 2, 1, none, [], 0, 0, 0, 0) := z_ftd (by decide +kernel)
theorem t184_17 : z_ft 184 17 = some (.bipush 16, 2, none, [], 0, 0, 0, 0) := z_ftd (by decide +kernel)
theorem t184_19 : z_ft 184 19 = some (.invokevirtual 346, 3, none, [], 169, 0, 84, 0) := z_ftd (by decide +kernel)
theorem t184_22 : z_ft 184 22 = some (.iastore, 1, none, [], 0, 0, 0, 0) := z_ftd (by decide +kernel)
theorem t184_23 : z_ft 184 23 = some (.return_, 1, none, [], 0, 0, 0, 0) := z_ftd (by decide +kernel)
-- X12_rooming
theorem e184 (d : Nat)  (S : z_S) (hW : z_W S)  : fV (d + 1) 184 [.ref 396] S = ((fV d 181 [.ref 396, .long (491495845235 : Int64)] S).bind fun S2 => (zb (fI d 169 [.ref 396, .int (2 : Int32), .int (16 : Int32)] S2) fun v3 S4 => (if z_in (gI S2 396 30) 2 then some (sI S4 398 ((gI S2 396 30)).toNatClampNeg v3) else none))) := by
  refine (fV_en (Nat.le_of_ble_eq_true rfl) rfl).trans ?_
  refine (k_aload_n t184_0 rfl rfl).trans ?_
  refine (k_ldc2_w t184_1 rfl zcl_491495845235).trans ?_
  refine k_callV (as := [.ref 396, .long (491495845235 : Int64)]) (rest := []) t184_4 rfl rfl (by decide) rfl rfl (Nat.le_of_ble_eq_true rfl) rfl (z_rcV hW (zK_396) (by decide)) (by decide) (by decide) hW (fun S2 hW2 => ?_)
  refine (k_aload_n t184_7 rfl rfl).trans ?_
  refine (k_getR t184_8 rfl hW2 zK_396 (by decide) (by decide) (zF_396_14 hW2)).trans ?_
  refine (k_aload_n t184_11 rfl rfl).trans ?_
  refine (k_getI t184_12 rfl hW2 zK_396 (by decide) (by decide)).trans ?_
  refine (k_aload_n t184_15 rfl rfl).trans ?_
  refine (k_iconst t184_16 rfl zci_2).trans ?_
  refine (k_bipush t184_17 rfl zcb_16).trans ?_
  refine k_callI (as := [.ref 396, .int (2 : Int32), .int (16 : Int32)]) (rest := [.int (gI S2 396 30), .ref 398]) t184_19 rfl rfl (by decide) rfl rfl (Nat.le_of_ble_eq_true rfl) rfl (z_rcV hW2 (zK_396) (by decide)) (by decide) (Or.inl (by decide)) hW2 (fun v3 S4 hW4 => ?_)
  refine (k_iast t184_22 rfl hW4 zK_398 zL_398).trans (z_ite (fun g5 => ?_) (fun _ => rfl))
  exact k_return t184_23 rfl (by decide)
theorem t185_0 : z_ft 185 0 = some (.aload_n 0, 1, none, [], 0, 0, 0, 0) := z_ftd (by decide +kernel)
theorem t185_1 : z_ft 185 1 = some (.aload_n 0, 1, none, [], 0, 0, 0, 0) := z_ftd (by decide +kernel)
theorem t185_2 : z_ft 185 2 = some (.getfield 66, 3, none, [], 12, 18, 19, 0) := z_ftd (by decide +kernel)
theorem t185_5 : z_ft 185 5 = some (.aload_n 0, 1, none, [], 0, 0, 0, 0) := z_ftd (by decide +kernel)
theorem t185_6 : z_ft 185 6 = some (.getfield 103, 3, none, [], 12, 30, 31, 0) := z_ftd (by decide +kernel)
theorem t185_9 : z_ft 185 9 = some (.iaload, 1, none, [], 0, 0, 0, 0) := z_ftd (by decide +kernel)
theorem t185_10 : z_ft 185 10 = some (.bipush 16, 2, none, [], 0, 0, 0, 0) := z_ftd (by decide +kernel)
theorem t185_12 : z_ft 185 12 = some (.if_icmp .ne 7, 3, none, [], 19, 0, 0, 0) := z_ftd (by decide +kernel)
theorem t185_15 : z_ft 185 15 = some (.iconst 1, 1, none, [], 0, 0, 0, 0) := z_ftd (by decide +kernel)
theorem t185_16 : z_ft 185 16 = some (.goto 4, 3, none, [], 20, 0, 0, 0) := z_ftd (by decide +kernel)
theorem t185_19 : z_ft 185 19 = some (.iconst 0, 1, none, [], 0, 0, 0, 0) := z_ftd (by decide +kernel)
theorem t185_20 : z_ft 185 20 = some (.invokevirtual 342, 3, (some [0]), [], 180, 0, 92, 0) := z_ftd (by decide +kernel)
theorem t185_23 : z_ft 185 23 = some (.ifCond .ne 4, 3, none, [], 27, 0, 0, 0) := z_ftd (by decide +kernel)
theorem t185_26 : z_ft 185 26 = some (.return_, 1, none, [], 0, 0, 0, 0) := z_ftd (by decide +kernel)
theorem t185_27 : z_ft 185 27 = some (.aload_n 0, 1, none, [], 0, 0, 0, 0) := z_ftd (by decide +kernel)
theorem t185_28 : z_ft 185 28 = some (.invokevirtual 250, 3, none, [], 162, 0, 81, 0) := z_ftd (by decide +kernel)
theorem t185_31 : z_ft 185 31 = some (.aload_n 0, 1, none, [], 0, 0, 0, 0) := z_ftd (by decide +kernel)
theorem t185_32 : z_ft 185 32 = some (.getfield 36, 3, none, [], 12, 8, 9, 0) := z_ftd (by decide +kernel)
theorem t185_35 : z_ft 185 35 = some (.ifCond .le 4, 3, none, [], 39, 0, 0, 0) := z_ftd (by decide +kernel)
theorem t185_38 : z_ft 185 38 = some (.return_, 1, none, [], 0, 0, 0, 0) := z_ftd (by decide +kernel)
theorem t185_39 : z_ft 185 39 = some (.aload_n 0, 1, none, [], 0, 0, 0, 0) := z_ftd (by decide +kernel)
theorem t185_40 : z_ft 185 40 = some (.getfield 20, 3, none, [], 12, 3, 4, 0) := z_ftd (by decide +kernel)
theorem t185_43 : z_ft 185 43 = some (.iconst 1, 1, none, [], 0, 0, 0, 0) := z_ftd (by decide +kernel)
theorem t185_44 : z_ft 185 44 = some (.if_icmp .ne 14, 3, none, [], 58, 0, 0, 0) := z_ftd (by decide +kernel)
theorem t185_47 : z_ft 185 47 = some (.aload_n 0, 1, none, [], 0, 0, 0, 0) := z_ftd (by decide +kernel)
theorem t185_48 : z_ft 185 48 = some (.aload_n 0, 1, none, [], 0, 0, 0, 0) := z_ftd (by decide +kernel)
theorem t185_49 : z_ft 185 49 = some (.getfield 32, 3, none, [], 12, 7, 8, 0) := z_ftd (by decide +kernel)
theorem t185_52 : z_ft 185 52 = some (.invokevirtual 354, 3, none, [], 167, 0, 97, 0) := z_ftd (by decide +kernel)
theorem t185_55 : z_ft 185 55 = some (.ifCond .eq 12, 3, none, [], 67, 0, 0, 0) := z_ftd (by decide +kernel)
theorem t185_58 : z_ft 185 58 = some (.aload_n 0, 1, (some [0]), [], 0, 0, 0, 0) := z_ftd (by decide +kernel)
theorem t185_59 : z_ft 185 59 = some (.iconst 1, 1, none, [], 0, 0, 0, 0) := z_ftd (by decide +kernel)
theorem t185_60 : z_ft 185 60 = some (.aload_n 0, 1, none, [], 0, 0, 0, 0) := z_ftd (by decide +kernel)
theorem t185_61 : z_ft 185 61 = some (.getfield 23, 3, none, [], 12, 4, 5, 0) := z_ftd (by decide +kernel)
theorem t185_64 : z_ft 185 64 = some (.invokevirtual 239, 3, none, [], 159, 0, 82, 0) := z_ftd (by decide +kernel)
theorem t185_67 : z_ft 185 67 = some (.aload_n 0, 1, (some [0]), [], 0, 0, 0, 0) := z_ftd (by decide +kernel)
theorem t185_68 : z_ft 185 68 = some (.getfield 36, 3, none, [], 12, 8, 9, 0) := z_ftd (by decide +kernel)
theorem t185_71 : z_ft 185 71 = some (.ifCond .ne 24, 3, none, [], 95, 0, 0, 0) := z_ftd (by decide +kernel)
theorem t185_74 : z_ft 185 74 = some (.aload_n 0, 1, none, [], 0, 0, 0, 0) := z_ftd (by decide +kernel)
theorem t185_75 : z_ft 185 75 = some (.aload_n 0, 1, none, [], 0, 0, 0, 0) := z_ftd (by decide +kernel)
theorem t185_76 : z_ft 185 76 = some (.getfield 32, 3, none, [], 12, 7, 8, 0) := z_ftd (by decide +kernel)
theorem t185_79 : z_ft 185 79 = some (.invokevirtual 357, 3, none, [], 168, 0, 117, 0) := z_ftd (by decide +kernel)
theorem t185_82 : z_ft 185 82 = some (.iconst (-1), 1, none, [], 0, 0, 0, 0) := z_ftd (by decide +kernel)
theorem t185_83 : z_ft 185 83 = some (.if_icmp .eq 12, 3, none, [], 95, 0, 0, 0) := z_ftd (by decide +kernel)
theorem t185_86 : z_ft 185 86 = some (.aload_n 0, 1, none, [], 0, 0, 0, 0) := z_ftd (by decide +kernel)
theorem t185_87 : z_ft 185 87 = some (.iconst 2, 1, none, [], 0, 0, 0, 0) := z_ftd (by decide +kernel)
theorem t185_88 : z_ft 185 88 = some (.aload_n 0, 1, none, [], 0, 0, 0, 0) := z_ftd (by decide +kernel)
theorem t185_89 : z_ft 185 89 = some (.getfield 23, 3, none, [], 12, 4, 5, 0) := z_ftd (by decide +kernel)
theorem t185_92 : z_ft 185 92 = some (.invokevirtual 239, 3, none, [], 159, 0, 82, 0) := z_ftd (by decide +kernel)
theorem t185_95 : z_ft 185 95 = some (.aload_n 0, 1, (some [0]), [], 0, 0, 0, 0) := z_ftd (by decide +kernel)
theorem t185_96 : z_ft 185 96 = some (.getfield 36, 3, none, [], 12, 8, 9, 0) := z_ftd (by decide +kernel)
theorem t185_99 : z_ft 185 99 = some (.ifCond .le 4, 3, none, [], 103, 0, 0, 0) := z_ftd (by decide +kernel)
theorem t185_102 : z_ft 185 102 = some (.return_, 1, none, [], 0, 0, 0, 0) := z_ftd (by decide +kernel)
theorem t185_103 : z_ft 185 103 = some (.bipush 16, 2, none, [], 0, 0, 0, 0) := z_ftd (by decide +kernel)
theorem t185_105 : z_ft 185 105 = some (.aload_n 0, 1, none, [], 0, 0, 0, 0) := z_ftd (by decide +kernel)
theorem t185_106 : z_ft 185 106 = some (.getfield 103, 3, none, [], 12, 30, 31, 0) := z_ftd (by decide +kernel)
theorem t185_109 : z_ft 185 109 = some (.imul, 1, none, [], 0, 0, 0, 0) := z_ftd (by decide +kernel)
theorem t185_110 : z_ft 185 110 = some (.aload_n 0, 1, none, [], 0, 0, 0, 0) := z_ftd (by decide +kernel)
theorem t185_111 : z_ft 185 111 = some (.getfield 66, 3, none, [], 12, 18, 19, 0) := z_ftd (by decide +kernel)
theorem t185_114 : z_ft 185 114 = some (.aload_n 0, 1, none, [], 0, 0, 0, 0) := z_ftd (by decide +kernel)
theorem t185_115 : z_ft 185 115 = some (.getfield 103, 3, none, [], 12, 30, 31, 0) := z_ftd (by decide +kernel)
theorem t185_118 : z_ft 185 118 = some (.iaload, 1, none, [], 0, 0, 0, 0) := z_ftd (by decide +kernel)
theorem t185_119 : z_ft 185 119 = some (.iadd, 1, none, [], 0, 0, 0, 0) := z_ftd (by decide +kernel)
theorem t185_120 : z_ft 185 120 = some (.istore_n 1, 1, none, [], 0, 0, 0, 0) := z_ftd (by decide +kernel)
theorem t185_121 : z_ft 185 121 = some (.aload_n 0, 1, none, [], 0, 0, 0, 0) := z_ftd (by decide +kernel)
theorem t185_122 : z_ft 185 122 = some (.getfield 96, 3, none, [], 12, 28, 29, 0) := z_ftd (by decide +kernel)
theorem t185_125 : z_ft 185 125 = some (.iload_n 1, 1, none, [], 0, 0, 0, 0) := z_ftd (by decide +kernel)
theorem t185_126 : z_ft 185 126 = some (.aload_n 0, 1, none, [], 0, 0, 0, 0) := z_ftd (by decide +kernel)
theorem t185_127 : z_ft 185 127 = some (.getfield 32, 3, none, [], 12, 7, 8, 0) := z_ftd (by decide +kernel)
theorem t185_130 : z_ft 185 130 = some (.lastore, 1, none, [], 0, 0, 0, 0) := z_ftd (by decide +kernel)
theorem t185_131 : z_ft 185 131 = some (.aload_n 0, 1, none, [], 0, 0, 0, 0) := z_ftd (by decide +kernel)
theorem t185_132 : z_ft 185 132 = some (.invokevirtual 256, 3, none, [], 163, 0, 75, 0) := z_ftd (by decide +kernel)
theorem t185_135 : z_ft 185 135 = some (.aload_n 0, 1, none, [], 0, 0, 0, 0) := z_ftd (by decide +kernel)
theorem t185_136 : z_ft 185 136 = some (.ldc2_w 269, 3, none, [], 0, 0, 98, 6840691) := z_ftd (by decide +kernel)
theorem t185_139 : z_ft 185 139 = some (.invokevirtual 350, 3, none, [], 181, 0, 80, 0) := z_ftd (by decide +kernel)
theorem t185_142 : z_ft 185 142 = some (.aload_n 0, 1, none, [], 0, 0, 0, 0) := z_ftd (by decide +kernel)
theorem t185_143 : z_ft 185 143 = some (.getfield 69, 3, none, [], 12, 19, 20, 0) := z_ftd (by decide +kernel)
theorem t185_146 : z_ft 185 146 = some (.iload_n 1, 1, none, [], 0, 0, 0, 0) := z_ftd (by decide +kernel)
theorem t185_147 : z_ft 185 147 = some (.aload_n 0, 1, none, [], 0, 0, 0, 0) := z_ftd (by decide +kernel)
theorem t185_148 : z_ft 185 148 = some (.iconst 0, 1, none, [], 0, 0, 0, 0) := z_ftd (by decide +kernel)
theorem t185_149 : z_ft 185 149 = some (.aload_n 0, 1, none, [], 0, 0, 0, 0) := z_ftd (by decide +kernel)
theorem t185_150 : z_ft 185 150 = some (.getfield 54, 3, none, [], 12, 14, 15, 0) := z_ftd (by decide +kernel)
theorem t185_153 : z_ft 185 153 = some (.aload_n 0, 1, none, [], 0, 0, 0, 0) := z_ftd (by decide +kernel)
theorem t185_154 : z_ft 185 154 = some (.getfield 103, 3, none, [], 12, 30, 31, 0) := z_ftd (by decide +kernel)
theorem t185_157 : z_ft 185 157 = some (.iaload, 1, none, [], 0, 0, 0, 0) := z_ftd (by decide +kernel)
theorem t185_158 : z_ft 185 158 = some (.iconst 1, 1, none, [], 0, 0, 0, 0) := z_ftd (by decide +kernel)
theorem t185_159 : z_ft 185 159 = some (.isub, 1, none, [], 0, 0, 0, 0) := z_ftd (by decide +kernel)
theorem t185_160 : z_ft 185 160 = some (.invokevirtual 346, 3, none, [], 169, 0, 84, 0) := z_ftd (by decide +kernel)
theorem t185_163 : z_ft 185 163 = some (.iastore, 1, none, [], 0, 0, 0, 0) := z_ftd (by decide +kernel)
theorem t185_164 : z_ft 185 164 = some (.aload_n 0, 1, none, [], 0, 0, 0, 0) := z_ftd (by decide +kernel)
theorem t185_165 : z_ft 185 165 = some (.invokevirtual 250, 3, none, [], 162, 0, 81, 0) := z_ftd (by decide +kernel)
theorem t185_168 : z_ft 185 168 = some (.aload_n 0, 1, none, [], 0, 0, 0, 0) := z_ftd (by decide +kernel)
theorem t185_169 : z_ft 185 169 = some (.getfield 23, 3, none, [], 12, 4, 5, 0) := z_ftd (by decide +kernel)
theorem t185_172 : z_ft 185 172 = some (.istore_n 2, 1, none, [], 0, 0, 0, 0) := z_ftd (by decide +kernel)
theorem t185_173 : z_ft 185 173 = some (.aload_n 0, 1, none, [], 0, 0, 0, 0) := z_ftd (by decide +kernel)
theorem t185_174 : z_ft 185 174 = some (.getfield 72, 3, none, [], 12, 20, 21, 0) := z_ftd (by decide +kernel)
theorem t185_177 : z_ft 185 177 = some (.iload_n 1, 1, none, [], 0, 0, 0, 0) := z_ftd (by decide +kernel)
theorem t185_178 : z_ft 185 178 = some (.aload_n 0, 1, none, [], 0, 0, 0, 0) := z_ftd (by decide +kernel)
theorem t185_179 : z_ft 185 179 = some (.iconst 0, 1, none, [], 0, 0, 0, 0) := z_ftd (by decide +kernel)
theorem t185_180 : z_ft 185 180 = some (.aload_n 0, 1, none, [], 0, 0, 0, 0) := z_ftd (by decide +kernel)
theorem t185_181 : z_ft 185 181 = some (.getfield 54, 3, none, [], 12, 14, 15, 0) := z_ftd (by decide +kernel)
theorem t185_184 : z_ft 185 184 = some (.aload_n 0, 1, none, [], 0, 0, 0, 0) := z_ftd (by decide +kernel)
theorem t185_185 : z_ft 185 185 = some (.getfield 103, 3, none, [], 12, 30, 31, 0) := z_ftd (by decide +kernel)
theorem t185_188 : z_ft 185 188 = some (.iaload, 1, none, [], 0, 0, 0, 0) := z_ftd (by decide +kernel)
theorem t185_189 : z_ft 185 189 = some (.iconst 1, 1, none, [], 0, 0, 0, 0) := z_ftd (by decide +kernel)
theorem t185_190 : z_ft 185 190 = some (.isub, 1, none, [], 0, 0, 0, 0) := z_ftd (by decide +kernel)
theorem t185_191 : z_ft 185 191 = some (.invokevirtual 346, 3, none, [], 169, 0, 84, 0) := z_ftd (by decide +kernel)
theorem t185_194 : z_ft 185 194 = some (.iastore, 1, none, [], 0, 0, 0, 0) := z_ftd (by decide +kernel)
theorem t185_195 : z_ft 185 195 = some (.aload_n 0, 1, none, [], 0, 0, 0, 0) := z_ftd (by decide +kernel)
theorem t185_196 : z_ft 185 196 = some (.getfield 36, 3, none, [], 12, 8, 9, 0) := z_ftd (by decide +kernel)
theorem t185_199 : z_ft 185 199 = some (.ifCond .ne 24, 3, none, [], 223, 0, 0, 0) := z_ftd (by decide +kernel)
theorem t185_202 : z_ft 185 202 = some (.aload_n 0, 1, none, [], 0, 0, 0, 0) := z_ftd (by decide +kernel)
theorem t185_203 : z_ft 185 203 = some (.getfield 69, 3, none, [], 12, 19, 20, 0) := z_ftd (by decide +kernel)
theorem t185_206 : z_ft 185 206 = some (.iload_n 1, 1, none, [], 0, 0, 0, 0) := z_ftd (by decide +kernel)
theorem t185_207 : z_ft 185 207 = some (.iaload, 1, none, [], 0, 0, 0, 0) := z_ftd (by decide +kernel)
theorem t185_208 : z_ft 185 208 = some (.aload_n 0, 1, none, [], 0, 0, 0, 0) := z_ftd (by decide +kernel)
theorem t185_209 : z_ft 185 209 = some (.getfield 72, 3, none, [], 12, 20, 21, 0) := z_ftd (by decide +kernel)
theorem t185_212 : z_ft 185 212 = some (.iload_n 1, 1, none, [], 0, 0, 0, 0) := z_ftd (by decide +kernel)
theorem t185_213 : z_ft 185 213 = some (.iaload, 1, none, [], 0, 0, 0, 0) := z_ftd (by decide +kernel)
theorem t185_214 : z_ft 185 214 = some (.if_icmp .ne 9, 3, none, [], 223, 0, 0, 0) := z_ftd (by decide +kernel)
theorem t185_217 : z_ft 185 217 = some (.aload_n 0, 1, none, [], 0, 0, 0, 0) := z_ftd (by decide +kernel)
theorem t185_218 : z_ft 185 218 = some (.iconst 4, 1, none, [], 0, 0, 0, 0) := z_ftd (by decide +kernel)
theorem t185_219 : z_ft 185 219 = some (.iload_n 2, 1, none, [], 0, 0, 0, 0) := z_ftd (by decide +kernel)
theorem t185_220 : z_ft 185 220 = some (.invokevirtual 239, 3, none, [], 159, 0, 82, 0) := z_ftd (by decide +kernel)
theorem t185_223 : z_ft 185 223 = some (.aload_n 0, 1, (some [0]), [], 0, 0, 0, 0) := z_ftd (by decide +kernel)
theorem t185_224 : z_ft 185 224 = some (.getfield 36, 3, none, [], 12, 8, 9, 0) := z_ftd (by decide +kernel)
theorem t185_227 : z_ft 185 227 = some (.ifCond .ne 16, 3, none, [], 243, 0, 0, 0) := z_ftd (by decide +kernel)
theorem t185_230 : z_ft 185 230 = some (.aload_n 0, 1, none, [], 0, 0, 0, 0) := z_ftd (by decide +kernel)
theorem t185_231 : z_ft 185 231 = some (.getfield 66, 3, none, [], 12, 18, 19, 0) := z_ftd (by decide +kernel)
theorem t185_234 : z_ft 185 234 = some (.aload_n 0, 1, none, [], 0, 0, 0, 0) := z_ftd (by decide +kernel)
theorem t185_235 : z_ft 185 235 = some (.getfield 103, 3, none, [], 12, 30, 31, 0) := z_ftd (by decide +kernel)
theorem t185_238 : z_ft 185 238 = some (.dup2, 1, none, [], 0, 0, 0, 0) := z_ftd (by decide +kernel)
theorem t185_239 : z_ft 185 239 = some (.iaload, 1, none, [], 0, 0, 0, 0) := z_ftd (by decide +kernel)
theorem t185_240 : z_ft 185 240 = some (.iconst 1, 1, none, [], 0, 0, 0, 0) := z_ftd (by decide +kernel)
theorem t185_241 : z_ft 185 241 = some (.iadd, 1, none, [], 0, 0, 0, 0) := z_ftd (by decide +kernel)
theorem t185_242 : z_ft 185 242 = some (.iastore, 1, none, [], 0, 0, 0, 0) := z_ftd (by decide +kernel)
theorem t185_243 : z_ft 185 243 = some (.return_, 1, (some []), [], 0, 0, 0, 0) := z_ftd (by decide +kernel)
noncomputable def b185_20 (d : Nat) (s0 : Int32) (S : z_S) : Option z_S := zk kV z_X0 d 185 20 [.ref 396, z_j, z_j] [.int s0, .ref 396] S
noncomputable def b185_58 (d : Nat)  (S : z_S) : Option z_S := zk kV z_X0 d 185 58 [.ref 396, z_j, z_j] [] S
noncomputable def b185_67 (d : Nat)  (S : z_S) : Option z_S := zk kV z_X0 d 185 67 [.ref 396, z_j, z_j] [] S
noncomputable def b185_95 (d : Nat)  (S : z_S) : Option z_S := zk kV z_X0 d 185 95 [.ref 396, z_j, z_j] [] S
noncomputable def b185_223 (d : Nat)  (S : z_S) : Option z_S := zk kV z_X0 d 185 223 [.ref 396, z_j, z_j] [] S
theorem b185_20_eq (d : Nat) (s0 : Int32) (S : z_S) (hW : z_W S)  : b185_20 d s0 S = (zb (fI d 180 [.ref 396, .int s0] S) fun v3 S4 => (if ¬ v3 = (0 : Int32) then ((fV d 162 [.ref 396] S4).bind fun S7 => (if (gI S7 396 8) ≤ (0 : Int32) then (if ¬ (gI S7 396 3) = (1 : Int32) then b185_58 d S7 else (zb (fI d 167 [.ref 396, .long (gL S7 396 7)] S7) fun v10 S11 => (if v10 = (0 : Int32) then b185_67 d S11 else b185_58 d S11))) else some S7)) else some S4)) := by
  unfold b185_20
  refine k_callI (as := [.ref 396, .int s0]) (rest := []) t185_20 rfl rfl (by decide) rfl rfl (Nat.le_of_ble_eq_true rfl) rfl (z_rcV hW (zK_396) (by decide)) (by decide) (Or.inr (by decide)) hW (fun v3 S4 hW4 => ?_)
  refine (k_if_ne t185_23 rfl).trans (z_ite (fun g5 => ?_) (fun g5 => ?_))
  · refine (k_aload_n t185_27 rfl rfl).trans ?_
    refine k_callV (as := [.ref 396]) (rest := []) t185_28 rfl rfl (by decide) rfl rfl (Nat.le_of_ble_eq_true rfl) rfl (z_rcV hW4 (zK_396) (by decide)) (by decide) (by decide) hW4 (fun S7 hW7 => ?_)
    refine (k_aload_n t185_31 rfl rfl).trans ?_
    refine (k_getI t185_32 rfl hW7 zK_396 (by decide) (by decide)).trans ?_
    refine (k_if_le t185_35 rfl).trans (z_ite (fun g8 => ?_) (fun g8 => ?_))
    · refine (k_aload_n t185_39 rfl rfl).trans ?_
      refine (k_getI t185_40 rfl hW7 zK_396 (by decide) (by decide)).trans ?_
      refine (k_iconst t185_43 rfl zci_1).trans ?_
      refine (k_icmp_ne t185_44 rfl).trans (z_ite (fun g9 => ?_) (fun g9 => ?_))
      · exact (zk_mk (ls' := [.ref 396, z_j, z_j]) t185_58 rfl)
      · refine (k_aload_n t185_47 rfl rfl).trans ?_
        refine (k_aload_n t185_48 rfl rfl).trans ?_
        refine (k_getL t185_49 rfl hW7 zK_396 (by decide) (by decide)).trans ?_
        refine k_callI (as := [.ref 396, .long (gL S7 396 7)]) (rest := []) t185_52 rfl rfl (by decide) rfl rfl (Nat.le_of_ble_eq_true rfl) rfl (z_rcV hW7 (zK_396) (by decide)) (by decide) (Or.inr (by decide)) hW7 (fun v10 S11 hW11 => ?_)
        refine (k_if_eq t185_55 rfl).trans (z_ite (fun g12 => ?_) (fun g12 => ?_))
        · exact (zk_mk (ls' := [.ref 396, z_j, z_j]) t185_67 rfl)
        · exact (zk_mk (ls' := [.ref 396, z_j, z_j]) t185_58 rfl)
    · exact k_return t185_38 rfl (by decide)
  · exact k_return t185_26 rfl (by decide)
theorem b185_58_eq (d : Nat)  (S : z_S) (hW : z_W S)  : b185_58 d  S = ((fV d 159 [.ref 396, .int (1 : Int32), .int (gI S 396 4)] S).bind fun S14 => b185_67 d S14) := by
  unfold b185_58
  refine (k_aload_n t185_58 rfl rfl).trans ?_
  refine (k_iconst t185_59 rfl zci_1).trans ?_
  refine (k_aload_n t185_60 rfl rfl).trans ?_
  refine (k_getI t185_61 rfl hW zK_396 (by decide) (by decide)).trans ?_
  refine k_callV (as := [.ref 396, .int (1 : Int32), .int (gI S 396 4)]) (rest := []) t185_64 rfl rfl (by decide) rfl rfl (Nat.le_of_ble_eq_true rfl) rfl (z_rcV hW (zK_396) (by decide)) (by decide) (by decide) hW (fun S14 hW14 => ?_)
  exact (zk_mk (ls' := [.ref 396, z_j, z_j]) t185_67 rfl)
theorem b185_67_eq (d : Nat)  (S : z_S) (hW : z_W S)  : b185_67 d  S = (if ¬ (gI S 396 8) = (0 : Int32) then b185_95 d S else (zb (fI d 168 [.ref 396, .long (gL S 396 7)] S) fun v16 S17 => (if v16 = (-1 : Int32) then b185_95 d S17 else ((fV d 159 [.ref 396, .int (2 : Int32), .int (gI S17 396 4)] S17).bind fun S20 => b185_95 d S20)))) := by
  unfold b185_67
  refine (k_aload_n t185_67 rfl rfl).trans ?_
  refine (k_getI t185_68 rfl hW zK_396 (by decide) (by decide)).trans ?_
  refine (k_if_ne t185_71 rfl).trans (z_ite (fun g15 => ?_) (fun g15 => ?_))
  · exact (zk_mk (ls' := [.ref 396, z_j, z_j]) t185_95 rfl)
  · refine (k_aload_n t185_74 rfl rfl).trans ?_
    refine (k_aload_n t185_75 rfl rfl).trans ?_
    refine (k_getL t185_76 rfl hW zK_396 (by decide) (by decide)).trans ?_
    refine k_callI (as := [.ref 396, .long (gL S 396 7)]) (rest := []) t185_79 rfl rfl (by decide) rfl rfl (Nat.le_of_ble_eq_true rfl) rfl (z_rcV hW (zK_396) (by decide)) (by decide) (Or.inl (by decide)) hW (fun v16 S17 hW17 => ?_)
    refine (k_iconst t185_82 rfl zci_m1).trans ?_
    refine (k_icmp_eq t185_83 rfl).trans (z_ite (fun g18 => ?_) (fun g18 => ?_))
    · exact (zk_mk (ls' := [.ref 396, z_j, z_j]) t185_95 rfl)
    · refine (k_aload_n t185_86 rfl rfl).trans ?_
      refine (k_iconst t185_87 rfl zci_2).trans ?_
      refine (k_aload_n t185_88 rfl rfl).trans ?_
      refine (k_getI t185_89 rfl hW17 zK_396 (by decide) (by decide)).trans ?_
      refine k_callV (as := [.ref 396, .int (2 : Int32), .int (gI S17 396 4)]) (rest := []) t185_92 rfl rfl (by decide) rfl rfl (Nat.le_of_ble_eq_true rfl) rfl (z_rcV hW17 (zK_396) (by decide)) (by decide) (by decide) hW17 (fun S20 hW20 => ?_)
      exact (zk_mk (ls' := [.ref 396, z_j, z_j]) t185_95 rfl)
theorem b185_95_eq (d : Nat)  (S : z_S) (hW : z_W S)  : b185_95 d  S = (if (gI S 396 8) ≤ (0 : Int32) then (if z_in (gI S 396 30) 2 then (if z_in (((16 : Int32) * (gI S 396 30)) + (gI S 402 ((gI S 396 30)).toNatClampNeg)) 32 then ((fV d 163 [.ref 396] (sL S 412 ((((16 : Int32) * (gI S 396 30)) + (gI S 402 ((gI S 396 30)).toNatClampNeg))).toNatClampNeg (gL S 396 7))).bind fun S25 => ((fV d 181 [.ref 396, .long (6840691 : Int64)] S25).bind fun S27 => (if z_in (gI S27 396 30) 2 then (zb (fI d 169 [.ref 396, .int (0 : Int32), .int ((gI S27 398 ((gI S27 396 30)).toNatClampNeg) - (1 : Int32))] S27) fun v29 S30 => (if z_in (((16 : Int32) * (gI S 396 30)) + (gI S 402 ((gI S 396 30)).toNatClampNeg)) 32 then ((fV d 162 [.ref 396] (sI S30 403 ((((16 : Int32) * (gI S 396 30)) + (gI S 402 ((gI S 396 30)).toNatClampNeg))).toNatClampNeg v29)).bind fun S33 => (if z_in (gI S33 396 30) 2 then (zb (fI d 169 [.ref 396, .int (0 : Int32), .int ((gI S33 398 ((gI S33 396 30)).toNatClampNeg) - (1 : Int32))] S33) fun v35 S36 => (if z_in (((16 : Int32) * (gI S 396 30)) + (gI S 402 ((gI S 396 30)).toNatClampNeg)) 32 then (if ¬ (gI (sI S36 404 ((((16 : Int32) * (gI S 396 30)) + (gI S 402 ((gI S 396 30)).toNatClampNeg))).toNatClampNeg v35) 396 8) = (0 : Int32) then b185_223 d (sI S36 404 ((((16 : Int32) * (gI S 396 30)) + (gI S 402 ((gI S 396 30)).toNatClampNeg))).toNatClampNeg v35) else (if z_in (((16 : Int32) * (gI S 396 30)) + (gI S 402 ((gI S 396 30)).toNatClampNeg)) 32 then (if z_in (((16 : Int32) * (gI S 396 30)) + (gI S 402 ((gI S 396 30)).toNatClampNeg)) 32 then (if ¬ (gI (sI S36 404 ((((16 : Int32) * (gI S 396 30)) + (gI S 402 ((gI S 396 30)).toNatClampNeg))).toNatClampNeg v35) 403 ((((16 : Int32) * (gI S 396 30)) + (gI S 402 ((gI S 396 30)).toNatClampNeg))).toNatClampNeg) = (gI (sI S36 404 ((((16 : Int32) * (gI S 396 30)) + (gI S 402 ((gI S 396 30)).toNatClampNeg))).toNatClampNeg v35) 404 ((((16 : Int32) * (gI S 396 30)) + (gI S 402 ((gI S 396 30)).toNatClampNeg))).toNatClampNeg) then b185_223 d (sI S36 404 ((((16 : Int32) * (gI S 396 30)) + (gI S 402 ((gI S 396 30)).toNatClampNeg))).toNatClampNeg v35) else ((fV d 159 [.ref 396, .int (4 : Int32), .int (gI S33 396 4)] (sI S36 404 ((((16 : Int32) * (gI S 396 30)) + (gI S 402 ((gI S 396 30)).toNatClampNeg))).toNatClampNeg v35)).bind fun S43 => b185_223 d S43)) else none) else none)) else none)) else none)) else none)) else none))) else none) else none) else some S) := by
  unfold b185_95
  refine (k_aload_n t185_95 rfl rfl).trans ?_
  refine (k_getI t185_96 rfl hW zK_396 (by decide) (by decide)).trans ?_
  refine (k_if_le t185_99 rfl).trans (z_ite (fun g21 => ?_) (fun g21 => ?_))
  · refine (k_bipush t185_103 rfl zcb_16).trans ?_
    refine (k_aload_n t185_105 rfl rfl).trans ?_
    refine (k_getI t185_106 rfl hW zK_396 (by decide) (by decide)).trans ?_
    refine (k_imul t185_109 rfl).trans ?_
    refine (k_aload_n t185_110 rfl rfl).trans ?_
    refine (k_getR t185_111 rfl hW zK_396 (by decide) (by decide) (zF_396_18 hW)).trans ?_
    refine (k_aload_n t185_114 rfl rfl).trans ?_
    refine (k_getI t185_115 rfl hW zK_396 (by decide) (by decide)).trans ?_
    refine (k_iald t185_118 rfl hW zK_402 zL_402).trans (z_ite (fun g22 => ?_) (fun _ => rfl))
    refine (k_iadd t185_119 rfl).trans ?_
    refine (k_istore_n (ls' := [.ref 396, .int (((16 : Int32) * (gI S 396 30)) + (gI S 402 ((gI S 396 30)).toNatClampNeg)), z_j]) t185_120 rfl rfl).trans ?_
    refine (k_aload_n t185_121 rfl rfl).trans ?_
    refine (k_getR t185_122 rfl hW zK_396 (by decide) (by decide) (zF_396_28 hW)).trans ?_
    refine (k_iload_n t185_125 rfl rfl).trans ?_
    refine (k_aload_n t185_126 rfl rfl).trans ?_
    refine (k_getL t185_127 rfl hW zK_396 (by decide) (by decide)).trans ?_
    refine (k_last t185_130 rfl hW zK_412 zL_412).trans (z_ite (fun g23 => ?_) (fun _ => rfl))
    refine (k_aload_n t185_131 rfl rfl).trans ?_
    refine k_callV (as := [.ref 396]) (rest := []) t185_132 rfl rfl (by decide) rfl rfl (Nat.le_of_ble_eq_true rfl) rfl (z_rcV hW.sL (zK_396) (by decide)) (by decide) (by decide) hW.sL (fun S25 hW25 => ?_)
    refine (k_aload_n t185_135 rfl rfl).trans ?_
    refine (k_ldc2_w t185_136 rfl zcl_6840691).trans ?_
    refine k_callV (as := [.ref 396, .long (6840691 : Int64)]) (rest := []) t185_139 rfl rfl (by decide) rfl rfl (Nat.le_of_ble_eq_true rfl) rfl (z_rcV hW25 (zK_396) (by decide)) (by decide) (by decide) hW25 (fun S27 hW27 => ?_)
    refine (k_aload_n t185_142 rfl rfl).trans ?_
    refine (k_getR t185_143 rfl hW27 zK_396 (by decide) (by decide) (zF_396_19 hW27)).trans ?_
    refine (k_iload_n t185_146 rfl rfl).trans ?_
    refine (k_aload_n t185_147 rfl rfl).trans ?_
    refine (k_iconst t185_148 rfl zci_0).trans ?_
    refine (k_aload_n t185_149 rfl rfl).trans ?_
    refine (k_getR t185_150 rfl hW27 zK_396 (by decide) (by decide) (zF_396_14 hW27)).trans ?_
    refine (k_aload_n t185_153 rfl rfl).trans ?_
    refine (k_getI t185_154 rfl hW27 zK_396 (by decide) (by decide)).trans ?_
    refine (k_iald t185_157 rfl hW27 zK_398 zL_398).trans (z_ite (fun g28 => ?_) (fun _ => rfl))
    refine (k_iconst t185_158 rfl zci_1).trans ?_
    refine (k_isub t185_159 rfl).trans ?_
    refine k_callI (as := [.ref 396, .int (0 : Int32), .int ((gI S27 398 ((gI S27 396 30)).toNatClampNeg) - (1 : Int32))]) (rest := [.int (((16 : Int32) * (gI S 396 30)) + (gI S 402 ((gI S 396 30)).toNatClampNeg)), .ref 403]) t185_160 rfl rfl (by decide) rfl rfl (Nat.le_of_ble_eq_true rfl) rfl (z_rcV hW27 (zK_396) (by decide)) (by decide) (Or.inl (by decide)) hW27 (fun v29 S30 hW30 => ?_)
    refine (k_iast t185_163 rfl hW30 zK_403 zL_403).trans (z_ite (fun g31 => ?_) (fun _ => rfl))
    refine (k_aload_n t185_164 rfl rfl).trans ?_
    refine k_callV (as := [.ref 396]) (rest := []) t185_165 rfl rfl (by decide) rfl rfl (Nat.le_of_ble_eq_true rfl) rfl (z_rcV hW30.sI (zK_396) (by decide)) (by decide) (by decide) hW30.sI (fun S33 hW33 => ?_)
    refine (k_aload_n t185_168 rfl rfl).trans ?_
    refine (k_getI t185_169 rfl hW33 zK_396 (by decide) (by decide)).trans ?_
    refine (k_istore_n (ls' := [.ref 396, .int (((16 : Int32) * (gI S 396 30)) + (gI S 402 ((gI S 396 30)).toNatClampNeg)), .int (gI S33 396 4)]) t185_172 rfl rfl).trans ?_
    refine (k_aload_n t185_173 rfl rfl).trans ?_
    refine (k_getR t185_174 rfl hW33 zK_396 (by decide) (by decide) (zF_396_20 hW33)).trans ?_
    refine (k_iload_n t185_177 rfl rfl).trans ?_
    refine (k_aload_n t185_178 rfl rfl).trans ?_
    refine (k_iconst t185_179 rfl zci_0).trans ?_
    refine (k_aload_n t185_180 rfl rfl).trans ?_
    refine (k_getR t185_181 rfl hW33 zK_396 (by decide) (by decide) (zF_396_14 hW33)).trans ?_
    refine (k_aload_n t185_184 rfl rfl).trans ?_
    refine (k_getI t185_185 rfl hW33 zK_396 (by decide) (by decide)).trans ?_
    refine (k_iald t185_188 rfl hW33 zK_398 zL_398).trans (z_ite (fun g34 => ?_) (fun _ => rfl))
    refine (k_iconst t185_189 rfl zci_1).trans ?_
    refine (k_isub t185_190 rfl).trans ?_
    refine k_callI (as := [.ref 396, .int (0 : Int32), .int ((gI S33 398 ((gI S33 396 30)).toNatClampNeg) - (1 : Int32))]) (rest := [.int (((16 : Int32) * (gI S 396 30)) + (gI S 402 ((gI S 396 30)).toNatClampNeg)), .ref 404]) t185_191 rfl rfl (by decide) rfl rfl (Nat.le_of_ble_eq_true rfl) rfl (z_rcV hW33 (zK_396) (by decide)) (by decide) (Or.inl (by decide)) hW33 (fun v35 S36 hW36 => ?_)
    refine (k_iast t185_194 rfl hW36 zK_404 zL_404).trans (z_ite (fun g37 => ?_) (fun _ => rfl))
    refine (k_aload_n t185_195 rfl rfl).trans ?_
    refine (k_getI t185_196 rfl hW36.sI zK_396 (by decide) (by decide)).trans ?_
    refine (k_if_ne t185_199 rfl).trans (z_ite (fun g38 => ?_) (fun g38 => ?_))
    · exact (zk_mk (ls' := [.ref 396, z_j, z_j]) t185_223 rfl)
    · refine (k_aload_n t185_202 rfl rfl).trans ?_
      refine (k_getR t185_203 rfl hW36.sI zK_396 (by decide) (by decide) (zF_396_19 hW36.sI)).trans ?_
      refine (k_iload_n t185_206 rfl rfl).trans ?_
      refine (k_iald t185_207 rfl hW36.sI zK_403 zL_403).trans (z_ite (fun g39 => ?_) (fun _ => rfl))
      refine (k_aload_n t185_208 rfl rfl).trans ?_
      refine (k_getR t185_209 rfl hW36.sI zK_396 (by decide) (by decide) (zF_396_20 hW36.sI)).trans ?_
      refine (k_iload_n t185_212 rfl rfl).trans ?_
      refine (k_iald t185_213 rfl hW36.sI zK_404 zL_404).trans (z_ite (fun g40 => ?_) (fun _ => rfl))
      refine (k_icmp_ne t185_214 rfl).trans (z_ite (fun g41 => ?_) (fun g41 => ?_))
      · exact (zk_mk (ls' := [.ref 396, z_j, z_j]) t185_223 rfl)
      · refine (k_aload_n t185_217 rfl rfl).trans ?_
        refine (k_iconst t185_218 rfl zci_4).trans ?_
        refine (k_iload_n t185_219 rfl rfl).trans ?_
        refine k_callV (as := [.ref 396, .int (4 : Int32), .int (gI S33 396 4)]) (rest := []) t185_220 rfl rfl (by decide) rfl rfl (Nat.le_of_ble_eq_true rfl) rfl (z_rcV hW36.sI (zK_396) (by decide)) (by decide) (by decide) hW36.sI (fun S43 hW43 => ?_)
        exact (zk_mk (ls' := [.ref 396, z_j, z_j]) t185_223 rfl)
  · exact k_return t185_102 rfl (by decide)
theorem b185_223_eq (d : Nat)  (S : z_S) (hW : z_W S)  : b185_223 d  S = (if ¬ (gI S 396 8) = (0 : Int32) then some S else (if z_in (gI S 396 30) 2 then (if z_in (gI S 396 30) 2 then some (sI S 402 ((gI S 396 30)).toNatClampNeg ((gI S 402 ((gI S 396 30)).toNatClampNeg) + (1 : Int32))) else none) else none)) := by
  unfold b185_223
  refine (k_aload_n t185_223 rfl rfl).trans ?_
  refine (k_getI t185_224 rfl hW zK_396 (by decide) (by decide)).trans ?_
  refine (k_if_ne t185_227 rfl).trans (z_ite (fun g44 => ?_) (fun g44 => ?_))
  · refine (zk_mk (ls' := [z_j, z_j, z_j]) t185_243 rfl).trans ?_
    exact k_return t185_243 rfl (by decide)
  · refine (k_aload_n t185_230 rfl rfl).trans ?_
    refine (k_getR t185_231 rfl hW zK_396 (by decide) (by decide) (zF_396_18 hW)).trans ?_
    refine (k_aload_n t185_234 rfl rfl).trans ?_
    refine (k_getI t185_235 rfl hW zK_396 (by decide) (by decide)).trans ?_
    refine (k_dup2IR t185_238 rfl).trans ?_
    refine (k_iald t185_239 rfl hW zK_402 zL_402).trans (z_ite (fun g45 => ?_) (fun _ => rfl))
    refine (k_iconst t185_240 rfl zci_1).trans ?_
    refine (k_iadd t185_241 rfl).trans ?_
    refine (k_iast t185_242 rfl hW zK_402 zL_402).trans (z_ite (fun g46 => ?_) (fun _ => rfl))
    refine (zk_mk (ls' := [z_j, z_j, z_j]) t185_243 rfl).trans ?_
    exact k_return t185_243 rfl (by decide)
-- X12_lodging
theorem e185 (d : Nat)  (S : z_S) (hW : z_W S)  : fV (d + 1) 185 [.ref 396] S = (if z_in (gI S 396 30) 2 then (if ¬ (gI S 402 ((gI S 396 30)).toNatClampNeg) = (16 : Int32) then b185_20 d (0 : Int32) S else b185_20 d (1 : Int32) S) else none) := by
  refine (fV_en (Nat.le_of_ble_eq_true rfl) rfl).trans ?_
  refine (k_aload_n t185_0 rfl rfl).trans ?_
  refine (k_aload_n t185_1 rfl rfl).trans ?_
  refine (k_getR t185_2 rfl hW zK_396 (by decide) (by decide) (zF_396_18 hW)).trans ?_
  refine (k_aload_n t185_5 rfl rfl).trans ?_
  refine (k_getI t185_6 rfl hW zK_396 (by decide) (by decide)).trans ?_
  refine (k_iald t185_9 rfl hW zK_402 zL_402).trans (z_ite (fun g1 => ?_) (fun _ => rfl))
  refine (k_bipush t185_10 rfl zcb_16).trans ?_
  refine (k_icmp_ne t185_12 rfl).trans (z_ite (fun g2 => ?_) (fun g2 => ?_))
  · refine (k_iconst t185_19 rfl zci_0).trans ?_
    exact (zk_mk (ls' := [.ref 396, z_j, z_j]) t185_20 rfl)
  · refine (k_iconst t185_15 rfl zci_1).trans ?_
    refine (k_goto t185_16 rfl).trans ?_
    exact (zk_mk (ls' := [.ref 396, z_j, z_j]) t185_20 rfl)
theorem t186_0 : z_ft 186 0 = some (.iconst 0, 1, none, [], 0, 0, 0, 0) := z_ftd (by decide +kernel)
theorem t186_1 : z_ft 186 1 = some (.istore_n 2, 1, none, [], 0, 0, 0, 0) := z_ftd (by decide +kernel)
theorem t186_2 : z_ft 186 2 = some (.iload_n 2, 1, (some [0, 1, 2]), [], 0, 0, 0, 0) := z_ftd (by decide +kernel)
theorem t186_3 : z_ft 186 3 = some (.aload_n 0, 1, none, [], 0, 0, 0, 0) := z_ftd (by decide +kernel)
theorem t186_4 : z_ft 186 4 = some (.getfield 75, 3, none, [], 12, 21, 22, 0) := z_ftd (by decide +kernel)
theorem t186_7 : z_ft 186 7 = some (.aload_n 0, 1, none, [], 0, 0, 0, 0) := z_ftd (by decide +kernel)
theorem t186_8 : z_ft 186 8 = some (.getfield 103, 3, none, [], 12, 30, 31, 0) := z_ftd (by decide +kernel)
theorem t186_11 : z_ft 186 11 = some (.iaload, 1, none, [], 0, 0, 0, 0) := z_ftd (by decide +kernel)
theorem t186_12 : z_ft 186 12 = some (.if_icmp .ge 29, 3, none, [], 41, 0, 0, 0) := z_ftd (by decide +kernel)
theorem t186_15 : z_ft 186 15 = some (.aload_n 0, 1, none, [], 0, 0, 0, 0) := z_ftd (by decide +kernel)
theorem t186_16 : z_ft 186 16 = some (.getfield 78, 3, none, [], 12, 22, 23, 0) := z_ftd (by decide +kernel)
theorem t186_19 : z_ft 186 19 = some (.bipush 16, 2, none, [], 0, 0, 0, 0) := z_ftd (by decide +kernel)
theorem t186_21 : z_ft 186 21 = some (.aload_n 0, 1, none, [], 0, 0, 0, 0) := z_ftd (by decide +kernel)
theorem t186_22 : z_ft 186 22 = some (.getfield 103, 3, none, [], 12, 30, 31, 0) := z_ftd (by decide +kernel)
theorem t186_25 : z_ft 186 25 = some (.imul, 1, none, [], 0, 0, 0, 0) := z_ftd (by decide +kernel)
theorem t186_26 : z_ft 186 26 = some (.iload_n 2, 1, none, [], 0, 0, 0, 0) := z_ftd (by decide +kernel)
theorem t186_27 : z_ft 186 27 = some (.iadd, 1, none, [], 0, 0, 0, 0) := z_ftd (by decide +kernel)
theorem t186_28 : z_ft 186 28 = some (.iaload, 1, none, [], 0, 0, 0, 0) := z_ftd (by decide +kernel)
theorem t186_29 : z_ft 186 29 = some (.iload_n 1, 1, none, [], 0, 0, 0, 0) := z_ftd (by decide +kernel)
theorem t186_30 : z_ft 186 30 = some (.if_icmp .ne 5, 3, none, [], 35, 0, 0, 0) := z_ftd (by decide +kernel)
theorem t186_33 : z_ft 186 33 = some (.iconst 1, 1, none, [], 0, 0, 0, 0) := z_ftd (by decide +kernel)
theorem t186_34 : z_ft 186 34 = some (.ireturn, 1, none, [], 0, 0, 0, 0) := z_ftd (by decide +kernel)
theorem t186_35 : z_ft 186 35 = some (.iinc 2 1, 3, none, [], 0, 0, 0, 0) := z_ftd (by decide +kernel)
theorem t186_38 : z_ft 186 38 = some (.goto (-36), 3, none, [], 2, 0, 0, 0) := z_ftd (by decide +kernel)
theorem t186_41 : z_ft 186 41 = some (.iconst 0, 1, none, [], 0, 0, 0, 0) := z_ftd (by decide +kernel)
theorem t186_42 : z_ft 186 42 = some (.ireturn, 1, none, [], 0, 0, 0, 0) := z_ftd (by decide +kernel)
noncomputable def b186_2 (d : Nat) (y1 : Int32) (y2 : Int32) (S : z_S) : Option (Int32 × z_S) := zk kI z_X0 d 186 2 [.ref 396, .int y1, .int y2] [] S
theorem b186_2_eq (d : Nat) (y1 : Int32) (y2 : Int32) (S : z_S) (hW : z_W S)  : b186_2 d y1 y2 S = (if z_in (gI S 396 30) 2 then (if (gI S 405 ((gI S 396 30)).toNatClampNeg) ≤ y2 then some ((0 : Int32), S) else (if z_in (((16 : Int32) * (gI S 396 30)) + y2) 32 then (if ¬ (gI S 406 ((((16 : Int32) * (gI S 396 30)) + y2)).toNatClampNeg) = y1 then b186_2 d y1 (y2 + (1 : Int32)) S else some ((1 : Int32), S)) else none)) else none) := by
  unfold b186_2
  refine (k_iload_n t186_2 rfl rfl).trans ?_
  refine (k_aload_n t186_3 rfl rfl).trans ?_
  refine (k_getR t186_4 rfl hW zK_396 (by decide) (by decide) (zF_396_21 hW)).trans ?_
  refine (k_aload_n t186_7 rfl rfl).trans ?_
  refine (k_getI t186_8 rfl hW zK_396 (by decide) (by decide)).trans ?_
  refine (k_iald t186_11 rfl hW zK_405 zL_405).trans (z_ite (fun g1 => ?_) (fun _ => rfl))
  refine (k_icmp_ge t186_12 rfl).trans (z_ite (fun g2 => ?_) (fun g2 => ?_))
  · refine (k_iconst t186_41 rfl zci_0).trans ?_
    exact k_zretC t186_42 rfl (by decide) (by decide)
  · refine (k_aload_n t186_15 rfl rfl).trans ?_
    refine (k_getR t186_16 rfl hW zK_396 (by decide) (by decide) (zF_396_22 hW)).trans ?_
    refine (k_bipush t186_19 rfl zcb_16).trans ?_
    refine (k_aload_n t186_21 rfl rfl).trans ?_
    refine (k_getI t186_22 rfl hW zK_396 (by decide) (by decide)).trans ?_
    refine (k_imul t186_25 rfl).trans ?_
    refine (k_iload_n t186_26 rfl rfl).trans ?_
    refine (k_iadd t186_27 rfl).trans ?_
    refine (k_iald t186_28 rfl hW zK_406 zL_406).trans (z_ite (fun g3 => ?_) (fun _ => rfl))
    refine (k_iload_n t186_29 rfl rfl).trans ?_
    refine (k_icmp_ne t186_30 rfl).trans (z_ite (fun g4 => ?_) (fun g4 => ?_))
    · refine (k_iinc (b := (y2 + (1 : Int32))) (ls' := [.ref 396, .int y1, .int (y2 + (1 : Int32))]) t186_35 rfl rfl (by rw [zci_1]) rfl).trans ?_
      refine (k_goto t186_38 rfl).trans ?_
      exact (zk_mk (ls' := [.ref 396, .int y1, .int (y2 + (1 : Int32))]) t186_2 rfl)
    · refine (k_iconst t186_33 rfl zci_1).trans ?_
      exact k_zretC t186_34 rfl (by decide) (by decide)
-- X12_isIn
theorem e186 (d : Nat) (x1 : Int32) (S : z_S) (hW : z_W S)  : fI (d + 1) 186 [.ref 396, .int x1] S = b186_2 d x1 (0 : Int32) S := by
  refine (fI_en (Nat.le_of_ble_eq_true rfl) rfl).trans ?_
  refine (k_iconst t186_0 rfl zci_0).trans ?_
  refine (k_istore_n (ls' := [.ref 396, .int x1, .int (0 : Int32)]) t186_1 rfl rfl).trans ?_
  exact (zk_mk (ls' := [.ref 396, .int x1, .int (0 : Int32)]) t186_2 rfl)
theorem t187_0 : z_ft 187 0 = some (.aload_n 0, 1, none, [], 0, 0, 0, 0) := z_ftd (by decide +kernel)
theorem t187_1 : z_ft 187 1 = some (.iconst 0, 1, none, [], 0, 0, 0, 0) := z_ftd (by decide +kernel)
theorem t187_2 : z_ft 187 2 = some (.invokevirtual 342, 3, none, [], 180, 0, 92, 0) := z_ftd (by decide +kernel)
theorem t187_5 : z_ft 187 5 = some (.ifCond .ne 4, 3, none, [], 9, 0, 0, 0) := z_ftd (by decide +kernel)
theorem t187_8 : z_ft 187 8 = some (.return_, 1, none, [], 0, 0, 0, 0) := z_ftd (by decide +kernel)
theorem t187_9 : z_ft 187 9 = some (.aload_n 0, 1, none, [], 0, 0, 0, 0) := z_ftd (by decide +kernel)
theorem t187_10 : z_ft 187 10 = some (.invokevirtual 250, 3, none, [], 162, 0, 81, 0) := z_ftd (by decide +kernel)
theorem t187_13 : z_ft 187 13 = some (.aload_n 0, 1, none, [], 0, 0, 0, 0) := z_ftd (by decide +kernel)
theorem t187_14 : z_ft 187 14 = some (.getfield 36, 3, none, [], 12, 8, 9, 0) := z_ftd (by decide +kernel)
theorem t187_17 : z_ft 187 17 = some (.ifCond .le 4, 3, none, [], 21, 0, 0, 0) := z_ftd (by decide +kernel)
theorem t187_20 : z_ft 187 20 = some (.return_, 1, none, [], 0, 0, 0, 0) := z_ftd (by decide +kernel)
theorem t187_21 : z_ft 187 21 = some (.aload_n 0, 1, none, [], 0, 0, 0, 0) := z_ftd (by decide +kernel)
theorem t187_22 : z_ft 187 22 = some (.getfield 20, 3, none, [], 12, 3, 4, 0) := z_ftd (by decide +kernel)
theorem t187_25 : z_ft 187 25 = some (.iconst 1, 1, none, [], 0, 0, 0, 0) := z_ftd (by decide +kernel)
theorem t187_26 : z_ft 187 26 = some (.if_icmp .ne 14, 3, none, [], 40, 0, 0, 0) := z_ftd (by decide +kernel)
theorem t187_29 : z_ft 187 29 = some (.aload_n 0, 1, none, [], 0, 0, 0, 0) := z_ftd (by decide +kernel)
theorem t187_30 : z_ft 187 30 = some (.aload_n 0, 1, none, [], 0, 0, 0, 0) := z_ftd (by decide +kernel)
theorem t187_31 : z_ft 187 31 = some (.getfield 32, 3, none, [], 12, 7, 8, 0) := z_ftd (by decide +kernel)
theorem t187_34 : z_ft 187 34 = some (.invokevirtual 354, 3, none, [], 167, 0, 97, 0) := z_ftd (by decide +kernel)
theorem t187_37 : z_ft 187 37 = some (.ifCond .eq 12, 3, none, [], 49, 0, 0, 0) := z_ftd (by decide +kernel)
theorem t187_40 : z_ft 187 40 = some (.aload_n 0, 1, (some [0]), [], 0, 0, 0, 0) := z_ftd (by decide +kernel)
theorem t187_41 : z_ft 187 41 = some (.iconst 1, 1, none, [], 0, 0, 0, 0) := z_ftd (by decide +kernel)
theorem t187_42 : z_ft 187 42 = some (.aload_n 0, 1, none, [], 0, 0, 0, 0) := z_ftd (by decide +kernel)
theorem t187_43 : z_ft 187 43 = some (.getfield 23, 3, none, [], 12, 4, 5, 0) := z_ftd (by decide +kernel)
theorem t187_46 : z_ft 187 46 = some (.invokevirtual 239, 3, none, [], 159, 0, 82, 0) := z_ftd (by decide +kernel)
theorem t187_49 : z_ft 187 49 = some (.aload_n 0, 1, (some [0]), [], 0, 0, 0, 0) := z_ftd (by decide +kernel)
theorem t187_50 : z_ft 187 50 = some (.getfield 36, 3, none, [], 12, 8, 9, 0) := z_ftd (by decide +kernel)
theorem t187_53 : z_ft 187 53 = some (.ifCond .le 7, 3, none, [], 60, 0, 0, 0) := z_ftd (by decide +kernel)
theorem t187_56 : z_ft 187 56 = some (.iconst 0, 1, none, [], 0, 0, 0, 0) := z_ftd (by decide +kernel)
theorem t187_57 : z_ft 187 57 = some (.goto 11, 3, none, [], 68, 0, 0, 0) := z_ftd (by decide +kernel)
theorem t187_60 : z_ft 187 60 = some (.aload_n 0, 1, none, [], 0, 0, 0, 0) := z_ftd (by decide +kernel)
theorem t187_61 : z_ft 187 61 = some (.aload_n 0, 1, none, [], 0, 0, 0, 0) := z_ftd (by decide +kernel)
theorem t187_62 : z_ft 187 62 = some (.getfield 32, 3, none, [], 12, 7, 8, 0) := z_ftd (by decide +kernel)
theorem t187_65 : z_ft 187 65 = some (.invokevirtual 357, 3, none, [], 168, 0, 117, 0) := z_ftd (by decide +kernel)
theorem t187_68 : z_ft 187 68 = some (.istore_n 1, 1, (some [0]), [], 0, 0, 0, 0) := z_ftd (by decide +kernel)
theorem t187_69 : z_ft 187 69 = some (.aload_n 0, 1, none, [], 0, 0, 0, 0) := z_ftd (by decide +kernel)
theorem t187_70 : z_ft 187 70 = some (.getfield 36, 3, none, [], 12, 8, 9, 0) := z_ftd (by decide +kernel)
theorem t187_73 : z_ft 187 73 = some (.ifCond .ne 25, 3, none, [], 98, 0, 0, 0) := z_ftd (by decide +kernel)
theorem t187_76 : z_ft 187 76 = some (.iload_n 1, 1, none, [], 0, 0, 0, 0) := z_ftd (by decide +kernel)
theorem t187_77 : z_ft 187 77 = some (.iconst (-1), 1, none, [], 0, 0, 0, 0) := z_ftd (by decide +kernel)
theorem t187_78 : z_ft 187 78 = some (.if_icmp .eq 11, 3, none, [], 89, 0, 0, 0) := z_ftd (by decide +kernel)
theorem t187_81 : z_ft 187 81 = some (.aload_n 0, 1, none, [], 0, 0, 0, 0) := z_ftd (by decide +kernel)
theorem t187_82 : z_ft 187 82 = some (.iload_n 1, 1, none, [], 0, 0, 0, 0) := z_ftd (by decide +kernel)
theorem t187_83 : z_ft 187 83 = some (.invokevirtual 361, 3, none, [], 186, 0, 119, 0) := z_ftd (by decide +kernel)
theorem t187_86 : z_ft 187 86 = some (.ifCond .eq 12, 3, none, [], 98, 0, 0, 0) := z_ftd (by decide +kernel)
theorem t187_89 : z_ft 187 89 = some (.aload_n 0, 1, (some [0, 1]), [], 0, 0, 0, 0) := z_ftd (by decide +kernel)
theorem t187_90 : z_ft 187 90 = some (.iconst 3, 1, none, [], 0, 0, 0, 0) := z_ftd (by decide +kernel)
theorem t187_91 : z_ft 187 91 = some (.aload_n 0, 1, none, [], 0, 0, 0, 0) := z_ftd (by decide +kernel)
theorem t187_92 : z_ft 187 92 = some (.getfield 23, 3, none, [], 12, 4, 5, 0) := z_ftd (by decide +kernel)
theorem t187_95 : z_ft 187 95 = some (.invokevirtual 239, 3, none, [], 159, 0, 82, 0) := z_ftd (by decide +kernel)
theorem t187_98 : z_ft 187 98 = some (.aload_n 0, 1, (some [0, 1]), [], 0, 0, 0, 0) := z_ftd (by decide +kernel)
theorem t187_99 : z_ft 187 99 = some (.getfield 36, 3, none, [], 12, 8, 9, 0) := z_ftd (by decide +kernel)
theorem t187_102 : z_ft 187 102 = some (.ifCond .le 4, 3, none, [], 106, 0, 0, 0) := z_ftd (by decide +kernel)
theorem t187_105 : z_ft 187 105 = some (.return_, 1, none, [], 0, 0, 0, 0) := z_ftd (by decide +kernel)
theorem t187_106 : z_ft 187 106 = some (.aload_n 0, 1, none, [], 0, 0, 0, 0) := z_ftd (by decide +kernel)
theorem t187_107 : z_ft 187 107 = some (.invokevirtual 256, 3, none, [], 163, 0, 75, 0) := z_ftd (by decide +kernel)
theorem t187_110 : z_ft 187 110 = some (.aload_n 0, 1, none, [], 0, 0, 0, 0) := z_ftd (by decide +kernel)
theorem t187_111 : z_ft 187 111 = some (.getfield 78, 3, none, [], 12, 22, 23, 0) := z_ftd (by decide +kernel)
theorem t187_114 : z_ft 187 114 = some (.bipush 16, 2, none, [], 0, 0, 0, 0) := z_ftd (by decide +kernel)
theorem t187_116 : z_ft 187 116 = some (.aload_n 0, 1, none, [], 0, 0, 0, 0) := z_ftd (by decide +kernel)
theorem t187_117 : z_ft 187 117 = some (.getfield 103, 3, none, [], 12, 30, 31, 0) := z_ftd (by decide +kernel)
theorem t187_120 : z_ft 187 120 = some (.imul, 1, none, [], 0, 0, 0, 0) := z_ftd (by decide +kernel)
theorem t187_121 : z_ft 187 121 = some (.aload_n 0, 1, none, [], 0, 0, 0, 0) := z_ftd (by decide +kernel)
theorem t187_122 : z_ft 187 122 = some (.getfield 75, 3, none, [], 12, 21, 22, 0) := z_ftd (by decide +kernel)
theorem t187_125 : z_ft 187 125 = some (.aload_n 0, 1, none, [], 0, 0, 0, 0) := z_ftd (by decide +kernel)
theorem t187_126 : z_ft 187 126 = some (.getfield 103, 3, none, [], 12, 30, 31, 0) := z_ftd (by decide +kernel)
theorem t187_129 : z_ft 187 129 = some (.iaload, 1, none, [], 0, 0, 0, 0) := z_ftd (by decide +kernel)
theorem t187_130 : z_ft 187 130 = some (.iadd, 1, none, [], 0, 0, 0, 0) := z_ftd (by decide +kernel)
theorem t187_131 : z_ft 187 131 = some (.iload_n 1, 1, none, [], 0, 0, 0, 0) := z_ftd (by decide +kernel)
theorem t187_132 : z_ft 187 132 = some (.iastore, 1, none, [], 0, 0, 0, 0) := z_ftd (by decide +kernel)
theorem t187_133 : z_ft 187 133 = some (.aload_n 0, 1, none, [], 0, 0, 0, 0) := z_ftd (by decide +kernel)
theorem t187_134 : z_ft 187 134 = some (.getfield 75, 3, none, [], 12, 21, 22, 0) := z_ftd (by decide +kernel)
theorem t187_137 : z_ft 187 137 = some (.aload_n 0, 1, none, [], 0, 0, 0, 0) := z_ftd (by decide +kernel)
theorem t187_138 : z_ft 187 138 = some (.getfield 103, 3, none, [], 12, 30, 31, 0) := z_ftd (by decide +kernel)
theorem t187_141 : z_ft 187 141 = some (.dup2, 1, none, [], 0, 0, 0, 0) := z_ftd (by decide +kernel)
theorem t187_142 : z_ft 187 142 = some (.iaload, 1, none, [], 0, 0, 0, 0) := z_ftd (by decide +kernel)
theorem t187_143 : z_ft 187 143 = some (.iconst 1, 1, none, [], 0, 0, 0, 0) := z_ftd (by decide +kernel)
theorem t187_144 : z_ft 187 144 = some (.iadd, 1, none, [], 0, 0, 0, 0) := z_ftd (by decide +kernel)
theorem t187_145 : z_ft 187 145 = some (.iastore, 1, none, [], 0, 0, 0, 0) := z_ftd (by decide +kernel)
theorem t187_146 : z_ft 187 146 = some (.return_, 1, none, [], 0, 0, 0, 0) := z_ftd (by decide +kernel)
noncomputable def b187_40 (d : Nat)  (S : z_S) : Option z_S := zk kV z_X0 d 187 40 [.ref 396, z_j] [] S
noncomputable def b187_49 (d : Nat)  (S : z_S) : Option z_S := zk kV z_X0 d 187 49 [.ref 396, z_j] [] S
noncomputable def b187_68 (d : Nat) (s0 : Int32) (S : z_S) : Option z_S := zk kV z_X0 d 187 68 [.ref 396, z_j] [.int s0] S
noncomputable def b187_98 (d : Nat) (y1 : Int32) (S : z_S) : Option z_S := zk kV z_X0 d 187 98 [.ref 396, .int y1] [] S
noncomputable def b187_89 (d : Nat) (y1 : Int32) (S : z_S) : Option z_S := zk kV z_X0 d 187 89 [.ref 396, .int y1] [] S
theorem b187_40_eq (d : Nat)  (S : z_S) (hW : z_W S)  : b187_40 d  S = ((fV d 159 [.ref 396, .int (1 : Int32), .int (gI S 396 4)] S).bind fun S12 => b187_49 d S12) := by
  unfold b187_40
  refine (k_aload_n t187_40 rfl rfl).trans ?_
  refine (k_iconst t187_41 rfl zci_1).trans ?_
  refine (k_aload_n t187_42 rfl rfl).trans ?_
  refine (k_getI t187_43 rfl hW zK_396 (by decide) (by decide)).trans ?_
  refine k_callV (as := [.ref 396, .int (1 : Int32), .int (gI S 396 4)]) (rest := []) t187_46 rfl rfl (by decide) rfl rfl (Nat.le_of_ble_eq_true rfl) rfl (z_rcV hW (zK_396) (by decide)) (by decide) (by decide) hW (fun S12 hW12 => ?_)
  exact (zk_mk (ls' := [.ref 396, z_j]) t187_49 rfl)
theorem b187_49_eq (d : Nat)  (S : z_S) (hW : z_W S)  : b187_49 d  S = (if (gI S 396 8) ≤ (0 : Int32) then (zb (fI d 168 [.ref 396, .long (gL S 396 7)] S) fun v14 S15 => b187_68 d v14 S15) else b187_68 d (0 : Int32) S) := by
  unfold b187_49
  refine (k_aload_n t187_49 rfl rfl).trans ?_
  refine (k_getI t187_50 rfl hW zK_396 (by decide) (by decide)).trans ?_
  refine (k_if_le t187_53 rfl).trans (z_ite (fun g13 => ?_) (fun g13 => ?_))
  · refine (k_aload_n t187_60 rfl rfl).trans ?_
    refine (k_aload_n t187_61 rfl rfl).trans ?_
    refine (k_getL t187_62 rfl hW zK_396 (by decide) (by decide)).trans ?_
    refine k_callI (as := [.ref 396, .long (gL S 396 7)]) (rest := []) t187_65 rfl rfl (by decide) rfl rfl (Nat.le_of_ble_eq_true rfl) rfl (z_rcV hW (zK_396) (by decide)) (by decide) (Or.inl (by decide)) hW (fun v14 S15 hW15 => ?_)
    exact (zk_mk (ls' := [.ref 396, z_j]) t187_68 rfl)
  · refine (k_iconst t187_56 rfl zci_0).trans ?_
    refine (k_goto t187_57 rfl).trans ?_
    exact (zk_mk (ls' := [.ref 396, z_j]) t187_68 rfl)
theorem b187_68_eq (d : Nat) (s0 : Int32) (S : z_S) (hW : z_W S)  : b187_68 d s0 S = (if ¬ (gI S 396 8) = (0 : Int32) then b187_98 d s0 S else (if s0 = (-1 : Int32) then b187_89 d s0 S else (zb (fI d 186 [.ref 396, .int s0] S) fun v18 S19 => (if v18 = (0 : Int32) then b187_98 d s0 S19 else b187_89 d s0 S19)))) := by
  unfold b187_68
  refine (k_istore_n (ls' := [.ref 396, .int s0]) t187_68 rfl rfl).trans ?_
  refine (k_aload_n t187_69 rfl rfl).trans ?_
  refine (k_getI t187_70 rfl hW zK_396 (by decide) (by decide)).trans ?_
  refine (k_if_ne t187_73 rfl).trans (z_ite (fun g16 => ?_) (fun g16 => ?_))
  · exact (zk_mk (ls' := [.ref 396, .int s0]) t187_98 rfl)
  · refine (k_iload_n t187_76 rfl rfl).trans ?_
    refine (k_iconst t187_77 rfl zci_m1).trans ?_
    refine (k_icmp_eq t187_78 rfl).trans (z_ite (fun g17 => ?_) (fun g17 => ?_))
    · exact (zk_mk (ls' := [.ref 396, .int s0]) t187_89 rfl)
    · refine (k_aload_n t187_81 rfl rfl).trans ?_
      refine (k_iload_n t187_82 rfl rfl).trans ?_
      refine k_callI (as := [.ref 396, .int s0]) (rest := []) t187_83 rfl rfl (by decide) rfl rfl (Nat.le_of_ble_eq_true rfl) rfl (z_rcV hW (zK_396) (by decide)) (by decide) (Or.inr (by decide)) hW (fun v18 S19 hW19 => ?_)
      refine (k_if_eq t187_86 rfl).trans (z_ite (fun g20 => ?_) (fun g20 => ?_))
      · exact (zk_mk (ls' := [.ref 396, .int s0]) t187_98 rfl)
      · exact (zk_mk (ls' := [.ref 396, .int s0]) t187_89 rfl)
theorem b187_98_eq (d : Nat) (y1 : Int32) (S : z_S) (hW : z_W S)  : b187_98 d y1 S = (if (gI S 396 8) ≤ (0 : Int32) then ((fV d 163 [.ref 396] S).bind fun S23 => (if z_in (gI S23 396 30) 2 then (if z_in (((16 : Int32) * (gI S23 396 30)) + (gI S23 405 ((gI S23 396 30)).toNatClampNeg)) 32 then (if z_in (gI (sI S23 406 ((((16 : Int32) * (gI S23 396 30)) + (gI S23 405 ((gI S23 396 30)).toNatClampNeg))).toNatClampNeg y1) 396 30) 2 then (if z_in (gI (sI S23 406 ((((16 : Int32) * (gI S23 396 30)) + (gI S23 405 ((gI S23 396 30)).toNatClampNeg))).toNatClampNeg y1) 396 30) 2 then some (sI (sI S23 406 ((((16 : Int32) * (gI S23 396 30)) + (gI S23 405 ((gI S23 396 30)).toNatClampNeg))).toNatClampNeg y1) 405 ((gI (sI S23 406 ((((16 : Int32) * (gI S23 396 30)) + (gI S23 405 ((gI S23 396 30)).toNatClampNeg))).toNatClampNeg y1) 396 30)).toNatClampNeg ((gI (sI S23 406 ((((16 : Int32) * (gI S23 396 30)) + (gI S23 405 ((gI S23 396 30)).toNatClampNeg))).toNatClampNeg y1) 405 ((gI (sI S23 406 ((((16 : Int32) * (gI S23 396 30)) + (gI S23 405 ((gI S23 396 30)).toNatClampNeg))).toNatClampNeg y1) 396 30)).toNatClampNeg) + (1 : Int32))) else none) else none) else none) else none)) else some S) := by
  unfold b187_98
  refine (k_aload_n t187_98 rfl rfl).trans ?_
  refine (k_getI t187_99 rfl hW zK_396 (by decide) (by decide)).trans ?_
  refine (k_if_le t187_102 rfl).trans (z_ite (fun g21 => ?_) (fun g21 => ?_))
  · refine (k_aload_n t187_106 rfl rfl).trans ?_
    refine k_callV (as := [.ref 396]) (rest := []) t187_107 rfl rfl (by decide) rfl rfl (Nat.le_of_ble_eq_true rfl) rfl (z_rcV hW (zK_396) (by decide)) (by decide) (by decide) hW (fun S23 hW23 => ?_)
    refine (k_aload_n t187_110 rfl rfl).trans ?_
    refine (k_getR t187_111 rfl hW23 zK_396 (by decide) (by decide) (zF_396_22 hW23)).trans ?_
    refine (k_bipush t187_114 rfl zcb_16).trans ?_
    refine (k_aload_n t187_116 rfl rfl).trans ?_
    refine (k_getI t187_117 rfl hW23 zK_396 (by decide) (by decide)).trans ?_
    refine (k_imul t187_120 rfl).trans ?_
    refine (k_aload_n t187_121 rfl rfl).trans ?_
    refine (k_getR t187_122 rfl hW23 zK_396 (by decide) (by decide) (zF_396_21 hW23)).trans ?_
    refine (k_aload_n t187_125 rfl rfl).trans ?_
    refine (k_getI t187_126 rfl hW23 zK_396 (by decide) (by decide)).trans ?_
    refine (k_iald t187_129 rfl hW23 zK_405 zL_405).trans (z_ite (fun g24 => ?_) (fun _ => rfl))
    refine (k_iadd t187_130 rfl).trans ?_
    refine (k_iload_n t187_131 rfl rfl).trans ?_
    refine (k_iast t187_132 rfl hW23 zK_406 zL_406).trans (z_ite (fun g25 => ?_) (fun _ => rfl))
    refine (k_aload_n t187_133 rfl rfl).trans ?_
    refine (k_getR t187_134 rfl hW23.sI zK_396 (by decide) (by decide) (zF_396_21 hW23.sI)).trans ?_
    refine (k_aload_n t187_137 rfl rfl).trans ?_
    refine (k_getI t187_138 rfl hW23.sI zK_396 (by decide) (by decide)).trans ?_
    refine (k_dup2IR t187_141 rfl).trans ?_
    refine (k_iald t187_142 rfl hW23.sI zK_405 zL_405).trans (z_ite (fun g26 => ?_) (fun _ => rfl))
    refine (k_iconst t187_143 rfl zci_1).trans ?_
    refine (k_iadd t187_144 rfl).trans ?_
    refine (k_iast t187_145 rfl hW23.sI zK_405 zL_405).trans (z_ite (fun g27 => ?_) (fun _ => rfl))
    exact k_return t187_146 rfl (by decide)
  · exact k_return t187_105 rfl (by decide)
theorem b187_89_eq (d : Nat) (y1 : Int32) (S : z_S) (hW : z_W S)  : b187_89 d y1 S = ((fV d 159 [.ref 396, .int (3 : Int32), .int (gI S 396 4)] S).bind fun S29 => b187_98 d y1 S29) := by
  unfold b187_89
  refine (k_aload_n t187_89 rfl rfl).trans ?_
  refine (k_iconst t187_90 rfl zci_3).trans ?_
  refine (k_aload_n t187_91 rfl rfl).trans ?_
  refine (k_getI t187_92 rfl hW zK_396 (by decide) (by decide)).trans ?_
  refine k_callV (as := [.ref 396, .int (3 : Int32), .int (gI S 396 4)]) (rest := []) t187_95 rfl rfl (by decide) rfl rfl (Nat.le_of_ble_eq_true rfl) rfl (z_rcV hW (zK_396) (by decide)) (by decide) (by decide) hW (fun S29 hW29 => ?_)
  exact (zk_mk (ls' := [.ref 396, .int y1]) t187_98 rfl)
-- X12_inning
theorem e187 (d : Nat)  (S : z_S) (hW : z_W S)  : fV (d + 1) 187 [.ref 396] S = (zb (fI d 180 [.ref 396, .int (0 : Int32)] S) fun v1 S2 => (if ¬ v1 = (0 : Int32) then ((fV d 162 [.ref 396] S2).bind fun S5 => (if (gI S5 396 8) ≤ (0 : Int32) then (if ¬ (gI S5 396 3) = (1 : Int32) then b187_40 d S5 else (zb (fI d 167 [.ref 396, .long (gL S5 396 7)] S5) fun v8 S9 => (if v8 = (0 : Int32) then b187_49 d S9 else b187_40 d S9))) else some S5)) else some S2)) := by
  refine (fV_en (Nat.le_of_ble_eq_true rfl) rfl).trans ?_
  refine (k_aload_n t187_0 rfl rfl).trans ?_
  refine (k_iconst t187_1 rfl zci_0).trans ?_
  refine k_callI (as := [.ref 396, .int (0 : Int32)]) (rest := []) t187_2 rfl rfl (by decide) rfl rfl (Nat.le_of_ble_eq_true rfl) rfl (z_rcV hW (zK_396) (by decide)) (by decide) (Or.inr (by decide)) hW (fun v1 S2 hW2 => ?_)
  refine (k_if_ne t187_5 rfl).trans (z_ite (fun g3 => ?_) (fun g3 => ?_))
  · refine (k_aload_n t187_9 rfl rfl).trans ?_
    refine k_callV (as := [.ref 396]) (rest := []) t187_10 rfl rfl (by decide) rfl rfl (Nat.le_of_ble_eq_true rfl) rfl (z_rcV hW2 (zK_396) (by decide)) (by decide) (by decide) hW2 (fun S5 hW5 => ?_)
    refine (k_aload_n t187_13 rfl rfl).trans ?_
    refine (k_getI t187_14 rfl hW5 zK_396 (by decide) (by decide)).trans ?_
    refine (k_if_le t187_17 rfl).trans (z_ite (fun g6 => ?_) (fun g6 => ?_))
    · refine (k_aload_n t187_21 rfl rfl).trans ?_
      refine (k_getI t187_22 rfl hW5 zK_396 (by decide) (by decide)).trans ?_
      refine (k_iconst t187_25 rfl zci_1).trans ?_
      refine (k_icmp_ne t187_26 rfl).trans (z_ite (fun g7 => ?_) (fun g7 => ?_))
      · exact (zk_mk (ls' := [.ref 396, z_j]) t187_40 rfl)
      · refine (k_aload_n t187_29 rfl rfl).trans ?_
        refine (k_aload_n t187_30 rfl rfl).trans ?_
        refine (k_getL t187_31 rfl hW5 zK_396 (by decide) (by decide)).trans ?_
        refine k_callI (as := [.ref 396, .long (gL S5 396 7)]) (rest := []) t187_34 rfl rfl (by decide) rfl rfl (Nat.le_of_ble_eq_true rfl) rfl (z_rcV hW5 (zK_396) (by decide)) (by decide) (Or.inr (by decide)) hW5 (fun v8 S9 hW9 => ?_)
        refine (k_if_eq t187_37 rfl).trans (z_ite (fun g10 => ?_) (fun g10 => ?_))
        · exact (zk_mk (ls' := [.ref 396, z_j]) t187_49 rfl)
        · exact (zk_mk (ls' := [.ref 396, z_j]) t187_40 rfl)
    · exact k_return t187_20 rfl (by decide)
  · exact k_return t187_8 rfl (by decide)
theorem t188_0 : z_ft 188 0 = some (.aload_n 0, 1, none, [], 0, 0, 0, 0) := z_ftd (by decide +kernel)
theorem t188_1 : z_ft 188 1 = some (.iconst 0, 1, none, [], 0, 0, 0, 0) := z_ftd (by decide +kernel)
theorem t188_2 : z_ft 188 2 = some (.invokevirtual 342, 3, none, [], 180, 0, 92, 0) := z_ftd (by decide +kernel)
theorem t188_5 : z_ft 188 5 = some (.ifCond .ne 4, 3, none, [], 9, 0, 0, 0) := z_ftd (by decide +kernel)
theorem t188_8 : z_ft 188 8 = some (.return_, 1, none, [], 0, 0, 0, 0) := z_ftd (by decide +kernel)
theorem t188_9 : z_ft 188 9 = some (.aload_n 0, 1, none, [], 0, 0, 0, 0) := z_ftd (by decide +kernel)
theorem t188_10 : z_ft 188 10 = some (.invokevirtual 250, 3, none, [], 162, 0, 81, 0) := z_ftd (by decide +kernel)
theorem t188_13 : z_ft 188 13 = some (.aload_n 0, 1, none, [], 0, 0, 0, 0) := z_ftd (by decide +kernel)
theorem t188_14 : z_ft 188 14 = some (.getfield 23, 3, none, [], 12, 4, 5, 0) := z_ftd (by decide +kernel)
theorem t188_17 : z_ft 188 17 = some (.istore_n 1, 1, none, [], 0, 0, 0, 0) := z_ftd (by decide +kernel)
theorem t188_18 : z_ft 188 18 = some (.aload_n 0, 1, none, [], 0, 0, 0, 0) := z_ftd (by decide +kernel)
theorem t188_19 : z_ft 188 19 = some (.iconst 0, 1, none, [], 0, 0, 0, 0) := z_ftd (by decide +kernel)
theorem t188_20 : z_ft 188 20 = some (.aload_n 0, 1, none, [], 0, 0, 0, 0) := z_ftd (by decide +kernel)
theorem t188_21 : z_ft 188 21 = some (.getfield 54, 3, none, [], 12, 14, 15, 0) := z_ftd (by decide +kernel)
theorem t188_24 : z_ft 188 24 = some (.aload_n 0, 1, none, [], 0, 0, 0, 0) := z_ftd (by decide +kernel)
theorem t188_25 : z_ft 188 25 = some (.getfield 103, 3, none, [], 12, 30, 31, 0) := z_ftd (by decide +kernel)
theorem t188_28 : z_ft 188 28 = some (.iaload, 1, none, [], 0, 0, 0, 0) := z_ftd (by decide +kernel)
theorem t188_29 : z_ft 188 29 = some (.iconst 1, 1, none, [], 0, 0, 0, 0) := z_ftd (by decide +kernel)
theorem t188_30 : z_ft 188 30 = some (.isub, 1, none, [], 0, 0, 0, 0) := z_ftd (by decide +kernel)
theorem t188_31 : z_ft 188 31 = some (.invokevirtual 346, 3, none, [], 169, 0, 84, 0) := z_ftd (by decide +kernel)
theorem t188_34 : z_ft 188 34 = some (.istore_n 2, 1, none, [], 0, 0, 0, 0) := z_ftd (by decide +kernel)
theorem t188_35 : z_ft 188 35 = some (.aload_n 0, 1, none, [], 0, 0, 0, 0) := z_ftd (by decide +kernel)
theorem t188_36 : z_ft 188 36 = some (.getfield 36, 3, none, [], 12, 8, 9, 0) := z_ftd (by decide +kernel)
theorem t188_39 : z_ft 188 39 = some (.ifCond .ne 25, 3, none, [], 64, 0, 0, 0) := z_ftd (by decide +kernel)
theorem t188_42 : z_ft 188 42 = some (.aload_n 0, 1, none, [], 0, 0, 0, 0) := z_ftd (by decide +kernel)
theorem t188_43 : z_ft 188 43 = some (.getfield 81, 3, none, [], 12, 23, 24, 0) := z_ftd (by decide +kernel)
theorem t188_46 : z_ft 188 46 = some (.aload_n 0, 1, none, [], 0, 0, 0, 0) := z_ftd (by decide +kernel)
theorem t188_47 : z_ft 188 47 = some (.getfield 103, 3, none, [], 12, 30, 31, 0) := z_ftd (by decide +kernel)
theorem t188_50 : z_ft 188 50 = some (.iaload, 1, none, [], 0, 0, 0, 0) := z_ftd (by decide +kernel)
theorem t188_51 : z_ft 188 51 = some (.iload_n 2, 1, none, [], 0, 0, 0, 0) := z_ftd (by decide +kernel)
theorem t188_52 : z_ft 188 52 = some (.invokestatic 364, 3, none, [], 182, 0, 121, 0) := z_ftd (by decide +kernel)
theorem t188_55 : z_ft 188 55 = some (.ifCond .eq 9, 3, none, [], 64, 0, 0, 0) := z_ftd (by decide +kernel)
theorem t188_58 : z_ft 188 58 = some (.aload_n 0, 1, none, [], 0, 0, 0, 0) := z_ftd (by decide +kernel)
theorem t188_59 : z_ft 188 59 = some (.iconst 4, 1, none, [], 0, 0, 0, 0) := z_ftd (by decide +kernel)
theorem t188_60 : z_ft 188 60 = some (.iload_n 1, 1, none, [], 0, 0, 0, 0) := z_ftd (by decide +kernel)
theorem t188_61 : z_ft 188 61 = some (.invokevirtual 239, 3, none, [], 159, 0, 82, 0) := z_ftd (by decide +kernel)
theorem t188_64 : z_ft 188 64 = some (.aload_n 0, 1, (some [0, 2]), [], 0, 0, 0, 0) := z_ftd (by decide +kernel)
theorem t188_65 : z_ft 188 65 = some (.getfield 36, 3, none, [], 12, 8, 9, 0) := z_ftd (by decide +kernel)
theorem t188_68 : z_ft 188 68 = some (.ifCond .ne 18, 3, none, [], 86, 0, 0, 0) := z_ftd (by decide +kernel)
theorem t188_71 : z_ft 188 71 = some (.aload_n 0, 1, none, [], 0, 0, 0, 0) := z_ftd (by decide +kernel)
theorem t188_72 : z_ft 188 72 = some (.getfield 81, 3, none, [], 12, 23, 24, 0) := z_ftd (by decide +kernel)
theorem t188_75 : z_ft 188 75 = some (.aload_n 0, 1, none, [], 0, 0, 0, 0) := z_ftd (by decide +kernel)
theorem t188_76 : z_ft 188 76 = some (.getfield 103, 3, none, [], 12, 30, 31, 0) := z_ftd (by decide +kernel)
theorem t188_79 : z_ft 188 79 = some (.dup2, 1, none, [], 0, 0, 0, 0) := z_ftd (by decide +kernel)
theorem t188_80 : z_ft 188 80 = some (.iaload, 1, none, [], 0, 0, 0, 0) := z_ftd (by decide +kernel)
theorem t188_81 : z_ft 188 81 = some (.iconst 1, 1, none, [], 0, 0, 0, 0) := z_ftd (by decide +kernel)
theorem t188_82 : z_ft 188 82 = some (.iload_n 2, 1, none, [], 0, 0, 0, 0) := z_ftd (by decide +kernel)
theorem t188_83 : z_ft 188 83 = some (.ishl, 1, none, [], 0, 0, 0, 0) := z_ftd (by decide +kernel)
theorem t188_84 : z_ft 188 84 = some (.ior, 1, none, [], 0, 0, 0, 0) := z_ftd (by decide +kernel)
theorem t188_85 : z_ft 188 85 = some (.iastore, 1, none, [], 0, 0, 0, 0) := z_ftd (by decide +kernel)
theorem t188_86 : z_ft 188 86 = some (.return_, 1, (some []), [], 0, 0, 0, 0) := z_ftd (by decide +kernel)
noncomputable def b188_64 (d : Nat) (y2 : Int32) (S : z_S) : Option z_S := zk kV z_X0 d 188 64 [.ref 396, z_j, .int y2] [] S
theorem b188_64_eq (d : Nat) (y2 : Int32) (S : z_S) (hW : z_W S)  : b188_64 d y2 S = (if ¬ (gI S 396 8) = (0 : Int32) then some S else (if z_in (gI S 396 30) 2 then (if z_in (gI S 396 30) 2 then some (sI S 407 ((gI S 396 30)).toNatClampNeg ((gI S 407 ((gI S 396 30)).toNatClampNeg) ||| ((1 : Int32) <<< (y2 &&& 31)))) else none) else none)) := by
  unfold b188_64
  refine (k_aload_n t188_64 rfl rfl).trans ?_
  refine (k_getI t188_65 rfl hW zK_396 (by decide) (by decide)).trans ?_
  refine (k_if_ne t188_68 rfl).trans (z_ite (fun g16 => ?_) (fun g16 => ?_))
  · refine (zk_mk (ls' := [z_j, z_j, z_j]) t188_86 rfl).trans ?_
    exact k_return t188_86 rfl (by decide)
  · refine (k_aload_n t188_71 rfl rfl).trans ?_
    refine (k_getR t188_72 rfl hW zK_396 (by decide) (by decide) (zF_396_23 hW)).trans ?_
    refine (k_aload_n t188_75 rfl rfl).trans ?_
    refine (k_getI t188_76 rfl hW zK_396 (by decide) (by decide)).trans ?_
    refine (k_dup2IR t188_79 rfl).trans ?_
    refine (k_iald t188_80 rfl hW zK_407 zL_407).trans (z_ite (fun g17 => ?_) (fun _ => rfl))
    refine (k_iconst t188_81 rfl zci_1).trans ?_
    refine (k_iload_n t188_82 rfl rfl).trans ?_
    refine (k_ishl t188_83 rfl).trans ?_
    refine (k_ior t188_84 rfl).trans ?_
    refine (k_iast t188_85 rfl hW zK_407 zL_407).trans (z_ite (fun g18 => ?_) (fun _ => rfl))
    refine (zk_mk (ls' := [z_j, z_j, z_j]) t188_86 rfl).trans ?_
    exact k_return t188_86 rfl (by decide)
-- X12_shutting
theorem e188 (d : Nat)  (S : z_S) (hW : z_W S)  : fV (d + 1) 188 [.ref 396] S = (zb (fI d 180 [.ref 396, .int (0 : Int32)] S) fun v1 S2 => (if ¬ v1 = (0 : Int32) then ((fV d 162 [.ref 396] S2).bind fun S5 => (if z_in (gI S5 396 30) 2 then (zb (fI d 169 [.ref 396, .int (0 : Int32), .int ((gI S5 398 ((gI S5 396 30)).toNatClampNeg) - (1 : Int32))] S5) fun v7 S8 => (if ¬ (gI S8 396 8) = (0 : Int32) then b188_64 d v7 S8 else (if z_in (gI S8 396 30) 2 then (zb (fI d 182 [.int (gI S8 407 ((gI S8 396 30)).toNatClampNeg), .int v7] S8) fun v11 S12 => (if v11 = (0 : Int32) then b188_64 d v7 S12 else ((fV d 159 [.ref 396, .int (4 : Int32), .int (gI S5 396 4)] S12).bind fun S15 => b188_64 d v7 S15))) else none))) else none)) else some S2)) := by
  refine (fV_en (Nat.le_of_ble_eq_true rfl) rfl).trans ?_
  refine (k_aload_n t188_0 rfl rfl).trans ?_
  refine (k_iconst t188_1 rfl zci_0).trans ?_
  refine k_callI (as := [.ref 396, .int (0 : Int32)]) (rest := []) t188_2 rfl rfl (by decide) rfl rfl (Nat.le_of_ble_eq_true rfl) rfl (z_rcV hW (zK_396) (by decide)) (by decide) (Or.inr (by decide)) hW (fun v1 S2 hW2 => ?_)
  refine (k_if_ne t188_5 rfl).trans (z_ite (fun g3 => ?_) (fun g3 => ?_))
  · refine (k_aload_n t188_9 rfl rfl).trans ?_
    refine k_callV (as := [.ref 396]) (rest := []) t188_10 rfl rfl (by decide) rfl rfl (Nat.le_of_ble_eq_true rfl) rfl (z_rcV hW2 (zK_396) (by decide)) (by decide) (by decide) hW2 (fun S5 hW5 => ?_)
    refine (k_aload_n t188_13 rfl rfl).trans ?_
    refine (k_getI t188_14 rfl hW5 zK_396 (by decide) (by decide)).trans ?_
    refine (k_istore_n (ls' := [.ref 396, .int (gI S5 396 4), z_j]) t188_17 rfl rfl).trans ?_
    refine (k_aload_n t188_18 rfl rfl).trans ?_
    refine (k_iconst t188_19 rfl zci_0).trans ?_
    refine (k_aload_n t188_20 rfl rfl).trans ?_
    refine (k_getR t188_21 rfl hW5 zK_396 (by decide) (by decide) (zF_396_14 hW5)).trans ?_
    refine (k_aload_n t188_24 rfl rfl).trans ?_
    refine (k_getI t188_25 rfl hW5 zK_396 (by decide) (by decide)).trans ?_
    refine (k_iald t188_28 rfl hW5 zK_398 zL_398).trans (z_ite (fun g6 => ?_) (fun _ => rfl))
    refine (k_iconst t188_29 rfl zci_1).trans ?_
    refine (k_isub t188_30 rfl).trans ?_
    refine k_callI (as := [.ref 396, .int (0 : Int32), .int ((gI S5 398 ((gI S5 396 30)).toNatClampNeg) - (1 : Int32))]) (rest := []) t188_31 rfl rfl (by decide) rfl rfl (Nat.le_of_ble_eq_true rfl) rfl (z_rcV hW5 (zK_396) (by decide)) (by decide) (Or.inl (by decide)) hW5 (fun v7 S8 hW8 => ?_)
    refine (k_istore_n (ls' := [.ref 396, .int (gI S5 396 4), .int v7]) t188_34 rfl rfl).trans ?_
    refine (k_aload_n t188_35 rfl rfl).trans ?_
    refine (k_getI t188_36 rfl hW8 zK_396 (by decide) (by decide)).trans ?_
    refine (k_if_ne t188_39 rfl).trans (z_ite (fun g9 => ?_) (fun g9 => ?_))
    · exact (zk_mk (ls' := [.ref 396, z_j, .int v7]) t188_64 rfl)
    · refine (k_aload_n t188_42 rfl rfl).trans ?_
      refine (k_getR t188_43 rfl hW8 zK_396 (by decide) (by decide) (zF_396_23 hW8)).trans ?_
      refine (k_aload_n t188_46 rfl rfl).trans ?_
      refine (k_getI t188_47 rfl hW8 zK_396 (by decide) (by decide)).trans ?_
      refine (k_iald t188_50 rfl hW8 zK_407 zL_407).trans (z_ite (fun g10 => ?_) (fun _ => rfl))
      refine (k_iload_n t188_51 rfl rfl).trans ?_
      refine k_callI (as := [.int (gI S8 407 ((gI S8 396 30)).toNatClampNeg), .int v7]) (rest := []) t188_52 rfl rfl (by decide) rfl rfl (Nat.le_of_ble_eq_true rfl) rfl (z_rcS (by decide)) (by decide) (Or.inr (by decide)) hW8 (fun v11 S12 hW12 => ?_)
      refine (k_if_eq t188_55 rfl).trans (z_ite (fun g13 => ?_) (fun g13 => ?_))
      · exact (zk_mk (ls' := [.ref 396, z_j, .int v7]) t188_64 rfl)
      · refine (k_aload_n t188_58 rfl rfl).trans ?_
        refine (k_iconst t188_59 rfl zci_4).trans ?_
        refine (k_iload_n t188_60 rfl rfl).trans ?_
        refine k_callV (as := [.ref 396, .int (4 : Int32), .int (gI S5 396 4)]) (rest := []) t188_61 rfl rfl (by decide) rfl rfl (Nat.le_of_ble_eq_true rfl) rfl (z_rcV hW12 (zK_396) (by decide)) (by decide) (by decide) hW12 (fun S15 hW15 => ?_)
        exact (zk_mk (ls' := [.ref 396, z_j, .int v7]) t188_64 rfl)
  · exact k_return t188_8 rfl (by decide)
theorem t189_0 : z_ft 189 0 = some (.iconst 3, 1, none, [], 0, 0, 0, 0) := z_ftd (by decide +kernel)
theorem t189_1 : z_ft 189 1 = some (.aload_n 0, 1, none, [], 0, 0, 0, 0) := z_ftd (by decide +kernel)
theorem t189_2 : z_ft 189 2 = some (.getfield 103, 3, none, [], 12, 30, 31, 0) := z_ftd (by decide +kernel)
theorem t189_5 : z_ft 189 5 = some (.imul, 1, none, [], 0, 0, 0, 0) := z_ftd (by decide +kernel)
theorem t189_6 : z_ft 189 6 = some (.iload_n 1, 1, none, [], 0, 0, 0, 0) := z_ftd (by decide +kernel)
theorem t189_7 : z_ft 189 7 = some (.iadd, 1, none, [], 0, 0, 0, 0) := z_ftd (by decide +kernel)
theorem t189_8 : z_ft 189 8 = some (.istore_n 2, 1, none, [], 0, 0, 0, 0) := z_ftd (by decide +kernel)
theorem t189_9 : z_ft 189 9 = some (.aload_n 0, 1, none, [], 0, 0, 0, 0) := z_ftd (by decide +kernel)
theorem t189_10 : z_ft 189 10 = some (.aload_n 0, 1, none, [], 0, 0, 0, 0) := z_ftd (by decide +kernel)
theorem t189_11 : z_ft 189 11 = some (.getfield 84, 3, none, [], 12, 24, 25, 0) := z_ftd (by decide +kernel)
theorem t189_14 : z_ft 189 14 = some (.iload_n 2, 1, none, [], 0, 0, 0, 0) := z_ftd (by decide +kernel)
theorem t189_15 : z_ft 189 15 = some (.iaload, 1, none, [], 0, 0, 0, 0) := z_ftd (by decide +kernel)
theorem t189_16 : z_ft 189 16 = some (.iconst (-1), 1, none, [], 0, 0, 0, 0) := z_ftd (by decide +kernel)
theorem t189_17 : z_ft 189 17 = some (.if_icmp .eq 7, 3, none, [], 24, 0, 0, 0) := z_ftd (by decide +kernel)
theorem t189_20 : z_ft 189 20 = some (.iconst 1, 1, none, [], 0, 0, 0, 0) := z_ftd (by decide +kernel)
theorem t189_21 : z_ft 189 21 = some (.goto 4, 3, none, [], 25, 0, 0, 0) := z_ftd (by decide +kernel)
theorem t189_24 : z_ft 189 24 = some (.iconst 0, 1, none, [], 0, 0, 0, 0) := z_ftd (by decide +kernel)
theorem t189_25 : z_ft 189 25 = some (.invokevirtual 342, 3, (some [0, 1, 2]), [], 180, 0, 92, 0) := z_ftd (by decide +kernel)
theorem t189_28 : z_ft 189 28 = some (.ifCond .ne 4, 3, none, [], 32, 0, 0, 0) := z_ftd (by decide +kernel)
theorem t189_31 : z_ft 189 31 = some (.return_, 1, none, [], 0, 0, 0, 0) := z_ftd (by decide +kernel)
theorem t189_32 : z_ft 189 32 = some (.aload_n 0, 1, none, [], 0, 0, 0, 0) := z_ftd (by decide +kernel)
theorem t189_33 : z_ft 189 33 = some (.iload_n 1, 1, none, [], 0, 0, 0, 0) := z_ftd (by decide +kernel)
theorem t189_34 : z_ft 189 34 = some (.putfield 106, 3, none, [], 12, 31, 32, 0) := z_ftd (by decide +kernel)
theorem t189_37 : z_ft 189 37 = some (.aload_n 0, 1, none, [], 0, 0, 0, 0) := z_ftd (by decide +kernel)
theorem t189_38 : z_ft 189 38 = some (.getfield 84, 3, none, [], 12, 24, 25, 0) := z_ftd (by decide +kernel)
theorem t189_41 : z_ft 189 41 = some (.iload_n 2, 1, none, [], 0, 0, 0, 0) := z_ftd (by decide +kernel)
theorem t189_42 : z_ft 189 42 = some (.aload_n 0, 1, none, [], 0, 0, 0, 0) := z_ftd (by decide +kernel)
theorem t189_43 : z_ft 189 43 = some (.getfield 100, 3, none, [], 12, 29, 30, 0) := z_ftd (by decide +kernel)
theorem t189_46 : z_ft 189 46 = some (.iastore, 1, none, [], 0, 0, 0, 0) := z_ftd (by decide +kernel)
theorem t189_47 : z_ft 189 47 = some (.aload_n 0, 1, none, [], 0, 0, 0, 0) := z_ftd (by decide +kernel)
theorem t189_48 : z_ft 189 48 = some (.iload_n 1, 1, none, [], 0, 0, 0, 0) := z_ftd (by decide +kernel)
theorem t189_49 : z_ft 189 49 = some (.iconst 2, 1, none, [], 0, 0, 0, 0) := z_ftd (by decide +kernel)
theorem t189_50 : z_ft 189 50 = some (.if_icmp .eq 7, 3, none, [], 57, 0, 0, 0) := z_ftd (by decide +kernel)
theorem t189_53 : z_ft 189 53 = some (.iconst 1, 1, none, [], 0, 0, 0, 0) := z_ftd (by decide +kernel)
theorem t189_54 : z_ft 189 54 = some (.goto 4, 3, none, [], 58, 0, 0, 0) := z_ftd (by decide +kernel)
theorem t189_57 : z_ft 189 57 = some (.iconst 0, 1, none, [], 0, 0, 0, 0) := z_ftd (by decide +kernel)
theorem t189_58 : z_ft 189 58 = some (.invokevirtual 368, 3, (some [0, 2]), [], 179, 0, 123, 0) := z_ftd (by decide +kernel)
theorem t189_61 : z_ft 189 61 = some (.aload_n 0, 1, none, [], 0, 0, 0, 0) := z_ftd (by decide +kernel)
theorem t189_62 : z_ft 189 62 = some (.getfield 87, 3, none, [], 12, 25, 26, 0) := z_ftd (by decide +kernel)
theorem t189_65 : z_ft 189 65 = some (.iload_n 2, 1, none, [], 0, 0, 0, 0) := z_ftd (by decide +kernel)
theorem t189_66 : z_ft 189 66 = some (.aload_n 0, 1, none, [], 0, 0, 0, 0) := z_ftd (by decide +kernel)
theorem t189_67 : z_ft 189 67 = some (.getfield 100, 3, none, [], 12, 29, 30, 0) := z_ftd (by decide +kernel)
theorem t189_70 : z_ft 189 70 = some (.iastore, 1, none, [], 0, 0, 0, 0) := z_ftd (by decide +kernel)
theorem t189_71 : z_ft 189 71 = some (.return_, 1, none, [], 0, 0, 0, 0) := z_ftd (by decide +kernel)
noncomputable def b189_25 (d : Nat) (y1 : Int32) (y2 : Int32) (s0 : Int32) (S : z_S) : Option z_S := zk kV z_X0 d 189 25 [.ref 396, .int y1, .int y2] [.int s0, .ref 396] S
noncomputable def b189_58 (d : Nat) (y2 : Int32) (s0 : Int32) (S : z_S) : Option z_S := zk kV z_X0 d 189 58 [.ref 396, z_j, .int y2] [.int s0, .ref 396] S
theorem b189_25_eq (d : Nat) (y1 : Int32) (y2 : Int32) (s0 : Int32) (S : z_S) (hW : z_W S)  : b189_25 d y1 y2 s0 S = (zb (fI d 180 [.ref 396, .int s0] S) fun v3 S4 => (if ¬ v3 = (0 : Int32) then (if z_in y2 6 then (if y1 = (2 : Int32) then b189_58 d y2 (0 : Int32) (sI (sI S4 396 31 y1) 408 (y2).toNatClampNeg (gI (sI S4 396 31 y1) 396 29)) else b189_58 d y2 (1 : Int32) (sI (sI S4 396 31 y1) 408 (y2).toNatClampNeg (gI (sI S4 396 31 y1) 396 29))) else none) else some S4)) := by
  unfold b189_25
  refine k_callI (as := [.ref 396, .int s0]) (rest := []) t189_25 rfl rfl (by decide) rfl rfl (Nat.le_of_ble_eq_true rfl) rfl (z_rcV hW (zK_396) (by decide)) (by decide) (Or.inr (by decide)) hW (fun v3 S4 hW4 => ?_)
  refine (k_if_ne t189_28 rfl).trans (z_ite (fun g5 => ?_) (fun g5 => ?_))
  · refine (k_aload_n t189_32 rfl rfl).trans ?_
    refine (k_iload_n t189_33 rfl rfl).trans ?_
    refine (k_putI t189_34 rfl hW4 zK_396 (by decide) (by decide) (by decide)).trans ?_
    refine (k_aload_n t189_37 rfl rfl).trans ?_
    refine (k_getR t189_38 rfl hW4.sI zK_396 (by decide) (by decide) (zF_396_24 hW4.sI)).trans ?_
    refine (k_iload_n t189_41 rfl rfl).trans ?_
    refine (k_aload_n t189_42 rfl rfl).trans ?_
    refine (k_getI t189_43 rfl hW4.sI zK_396 (by decide) (by decide)).trans ?_
    refine (k_iast t189_46 rfl hW4.sI zK_408 zL_408).trans (z_ite (fun g6 => ?_) (fun _ => rfl))
    refine (k_aload_n t189_47 rfl rfl).trans ?_
    refine (k_iload_n t189_48 rfl rfl).trans ?_
    refine (k_iconst t189_49 rfl zci_2).trans ?_
    refine (k_icmp_eq t189_50 rfl).trans (z_ite (fun g7 => ?_) (fun g7 => ?_))
    · refine (k_iconst t189_57 rfl zci_0).trans ?_
      exact (zk_mk (ls' := [.ref 396, z_j, .int y2]) t189_58 rfl)
    · refine (k_iconst t189_53 rfl zci_1).trans ?_
      refine (k_goto t189_54 rfl).trans ?_
      exact (zk_mk (ls' := [.ref 396, z_j, .int y2]) t189_58 rfl)
  · exact k_return t189_31 rfl (by decide)
theorem b189_58_eq (d : Nat) (y2 : Int32) (s0 : Int32) (S : z_S) (hW : z_W S)  : b189_58 d y2 s0 S = ((fV d 179 [.ref 396, .int s0] S).bind fun S9 => (if z_in y2 6 then some (sI S9 409 (y2).toNatClampNeg (gI S9 396 29)) else none)) := by
  unfold b189_58
  refine k_callV (as := [.ref 396, .int s0]) (rest := []) t189_58 rfl rfl (by decide) rfl rfl (Nat.le_of_ble_eq_true rfl) rfl (z_rcV hW (zK_396) (by decide)) (by decide) (by decide) hW (fun S9 hW9 => ?_)
  refine (k_aload_n t189_61 rfl rfl).trans ?_
  refine (k_getR t189_62 rfl hW9 zK_396 (by decide) (by decide) (zF_396_25 hW9)).trans ?_
  refine (k_iload_n t189_65 rfl rfl).trans ?_
  refine (k_aload_n t189_66 rfl rfl).trans ?_
  refine (k_getI t189_67 rfl hW9 zK_396 (by decide) (by decide)).trans ?_
  refine (k_iast t189_70 rfl hW9 zK_409 zL_409).trans (z_ite (fun g10 => ?_) (fun _ => rfl))
  exact k_return t189_71 rfl (by decide)
-- X12_reading
theorem e189 (d : Nat) (x1 : Int32) (S : z_S) (hW : z_W S)  : fV (d + 1) 189 [.ref 396, .int x1] S = (if z_in (((3 : Int32) * (gI S 396 30)) + x1) 6 then (if (gI S 408 ((((3 : Int32) * (gI S 396 30)) + x1)).toNatClampNeg) = (-1 : Int32) then b189_25 d x1 (((3 : Int32) * (gI S 396 30)) + x1) (0 : Int32) S else b189_25 d x1 (((3 : Int32) * (gI S 396 30)) + x1) (1 : Int32) S) else none) := by
  refine (fV_en (Nat.le_of_ble_eq_true rfl) rfl).trans ?_
  refine (k_iconst t189_0 rfl zci_3).trans ?_
  refine (k_aload_n t189_1 rfl rfl).trans ?_
  refine (k_getI t189_2 rfl hW zK_396 (by decide) (by decide)).trans ?_
  refine (k_imul t189_5 rfl).trans ?_
  refine (k_iload_n t189_6 rfl rfl).trans ?_
  refine (k_iadd t189_7 rfl).trans ?_
  refine (k_istore_n (ls' := [.ref 396, .int x1, .int (((3 : Int32) * (gI S 396 30)) + x1)]) t189_8 rfl rfl).trans ?_
  refine (k_aload_n t189_9 rfl rfl).trans ?_
  refine (k_aload_n t189_10 rfl rfl).trans ?_
  refine (k_getR t189_11 rfl hW zK_396 (by decide) (by decide) (zF_396_24 hW)).trans ?_
  refine (k_iload_n t189_14 rfl rfl).trans ?_
  refine (k_iald t189_15 rfl hW zK_408 zL_408).trans (z_ite (fun g1 => ?_) (fun _ => rfl))
  refine (k_iconst t189_16 rfl zci_m1).trans ?_
  refine (k_icmp_eq t189_17 rfl).trans (z_ite (fun g2 => ?_) (fun g2 => ?_))
  · refine (k_iconst t189_24 rfl zci_0).trans ?_
    exact (zk_mk (ls' := [.ref 396, .int x1, .int (((3 : Int32) * (gI S 396 30)) + x1)]) t189_25 rfl)
  · refine (k_iconst t189_20 rfl zci_1).trans ?_
    refine (k_goto t189_21 rfl).trans ?_
    exact (zk_mk (ls' := [.ref 396, .int x1, .int (((3 : Int32) * (gI S 396 30)) + x1)]) t189_25 rfl)
theorem t190_0 : z_ft 190 0 = some (.aload_n 0, 1, none, [], 0, 0, 0, 0) := z_ftd (by decide +kernel)
theorem t190_1 : z_ft 190 1 = some (.invokevirtual 250, 3, none, [], 162, 0, 81, 0) := z_ftd (by decide +kernel)
theorem t190_4 : z_ft 190 4 = some (.aload_n 0, 1, none, [], 0, 0, 0, 0) := z_ftd (by decide +kernel)
theorem t190_5 : z_ft 190 5 = some (.getfield 36, 3, none, [], 12, 8, 9, 0) := z_ftd (by decide +kernel)
theorem t190_8 : z_ft 190 8 = some (.ifCond .le 4, 3, none, [], 12, 0, 0, 0) := z_ftd (by decide +kernel)
theorem t190_11 : z_ft 190 11 = some (.return_, 1, none, [], 0, 0, 0, 0) := z_ftd (by decide +kernel)
theorem t190_12 : z_ft 190 12 = some (.aload_n 0, 1, none, [], 0, 0, 0, 0) := z_ftd (by decide +kernel)
theorem t190_13 : z_ft 190 13 = some (.ldc2_w 261, 3, none, [], 0, 0, 90, 422608528232) := z_ftd (by decide +kernel)
theorem t190_16 : z_ft 190 16 = some (.invokevirtual 323, 3, none, [], 165, 0, 83, 0) := z_ftd (by decide +kernel)
theorem t190_19 : z_ft 190 19 = some (.ifCond .eq 22, 3, none, [], 41, 0, 0, 0) := z_ftd (by decide +kernel)
theorem t190_22 : z_ft 190 22 = some (.aload_n 0, 1, none, [], 0, 0, 0, 0) := z_ftd (by decide +kernel)
theorem t190_23 : z_ft 190 23 = some (.getfield 57, 3, none, [], 12, 15, 16, 0) := z_ftd (by decide +kernel)
theorem t190_26 : z_ft 190 26 = some (.aload_n 0, 1, none, [], 0, 0, 0, 0) := z_ftd (by decide +kernel)
theorem t190_27 : z_ft 190 27 = some (.getfield 103, 3, none, [], 12, 30, 31, 0) := z_ftd (by decide +kernel)
theorem t190_30 : z_ft 190 30 = some (.aload_n 0, 1, none, [], 0, 0, 0, 0) := z_ftd (by decide +kernel)
theorem t190_31 : z_ft 190 31 = some (.iconst 0, 1, none, [], 0, 0, 0, 0) := z_ftd (by decide +kernel)
theorem t190_32 : z_ft 190 32 = some (.bipush 6, 2, none, [], 0, 0, 0, 0) := z_ftd (by decide +kernel)
theorem t190_34 : z_ft 190 34 = some (.invokevirtual 372, 3, none, [], 183, 0, 91, 0) := z_ftd (by decide +kernel)
theorem t190_37 : z_ft 190 37 = some (.iastore, 1, none, [], 0, 0, 0, 0) := z_ftd (by decide +kernel)
theorem t190_38 : z_ft 190 38 = some (.goto 175, 3, none, [], 213, 0, 0, 0) := z_ftd (by decide +kernel)
theorem t190_41 : z_ft 190 41 = some (.aload_n 0, 1, none, [], 0, 0, 0, 0) := z_ftd (by decide +kernel)
theorem t190_42 : z_ft 190 42 = some (.ldc2_w 263, 3, none, [], 0, 0, 93, 495874044019) := z_ftd (by decide +kernel)
theorem t190_45 : z_ft 190 45 = some (.invokevirtual 323, 3, none, [], 165, 0, 83, 0) := z_ftd (by decide +kernel)
theorem t190_48 : z_ft 190 48 = some (.ifCond .eq 22, 3, none, [], 70, 0, 0, 0) := z_ftd (by decide +kernel)
theorem t190_51 : z_ft 190 51 = some (.aload_n 0, 1, none, [], 0, 0, 0, 0) := z_ftd (by decide +kernel)
theorem t190_52 : z_ft 190 52 = some (.getfield 60, 3, none, [], 12, 16, 17, 0) := z_ftd (by decide +kernel)
theorem t190_55 : z_ft 190 55 = some (.aload_n 0, 1, none, [], 0, 0, 0, 0) := z_ftd (by decide +kernel)
theorem t190_56 : z_ft 190 56 = some (.getfield 103, 3, none, [], 12, 30, 31, 0) := z_ftd (by decide +kernel)
theorem t190_59 : z_ft 190 59 = some (.aload_n 0, 1, none, [], 0, 0, 0, 0) := z_ftd (by decide +kernel)
theorem t190_60 : z_ft 190 60 = some (.iconst 1, 1, none, [], 0, 0, 0, 0) := z_ftd (by decide +kernel)
theorem t190_61 : z_ft 190 61 = some (.bipush 40, 2, none, [], 0, 0, 0, 0) := z_ftd (by decide +kernel)
theorem t190_63 : z_ft 190 63 = some (.invokevirtual 372, 3, none, [], 183, 0, 91, 0) := z_ftd (by decide +kernel)
theorem t190_66 : z_ft 190 66 = some (.iastore, 1, none, [], 0, 0, 0, 0) := z_ftd (by decide +kernel)
theorem t190_67 : z_ft 190 67 = some (.goto 146, 3, none, [], 213, 0, 0, 0) := z_ftd (by decide +kernel)
theorem t190_70 : z_ft 190 70 = some (.aload_n 0, 1, none, [], 0, 0, 0, 0) := z_ftd (by decide +kernel)
theorem t190_71 : z_ft 190 71 = some (.ldc2_w 265, 3, none, [], 0, 0, 94, 461414294379) := z_ftd (by decide +kernel)
theorem t190_74 : z_ft 190 74 = some (.invokevirtual 323, 3, none, [], 165, 0, 83, 0) := z_ftd (by decide +kernel)
theorem t190_77 : z_ft 190 77 = some (.ifCond .eq 22, 3, none, [], 99, 0, 0, 0) := z_ftd (by decide +kernel)
theorem t190_80 : z_ft 190 80 = some (.aload_n 0, 1, none, [], 0, 0, 0, 0) := z_ftd (by decide +kernel)
theorem t190_81 : z_ft 190 81 = some (.getfield 63, 3, none, [], 12, 17, 18, 0) := z_ftd (by decide +kernel)
theorem t190_84 : z_ft 190 84 = some (.aload_n 0, 1, none, [], 0, 0, 0, 0) := z_ftd (by decide +kernel)
theorem t190_85 : z_ft 190 85 = some (.getfield 103, 3, none, [], 12, 30, 31, 0) := z_ftd (by decide +kernel)
theorem t190_88 : z_ft 190 88 = some (.aload_n 0, 1, none, [], 0, 0, 0, 0) := z_ftd (by decide +kernel)
theorem t190_89 : z_ft 190 89 = some (.iconst 0, 1, none, [], 0, 0, 0, 0) := z_ftd (by decide +kernel)
theorem t190_90 : z_ft 190 90 = some (.bipush 100, 2, none, [], 0, 0, 0, 0) := z_ftd (by decide +kernel)
theorem t190_92 : z_ft 190 92 = some (.invokevirtual 372, 3, none, [], 183, 0, 91, 0) := z_ftd (by decide +kernel)
theorem t190_95 : z_ft 190 95 = some (.iastore, 1, none, [], 0, 0, 0, 0) := z_ftd (by decide +kernel)
theorem t190_96 : z_ft 190 96 = some (.goto 117, 3, none, [], 213, 0, 0, 0) := z_ftd (by decide +kernel)
theorem t190_99 : z_ft 190 99 = some (.aload_n 0, 1, none, [], 0, 0, 0, 0) := z_ftd (by decide +kernel)
theorem t190_100 : z_ft 190 100 = some (.ldc2_w 267, 3, none, [], 0, 0, 95, 119225681667442) := z_ftd (by decide +kernel)
theorem t190_103 : z_ft 190 103 = some (.invokevirtual 323, 3, none, [], 165, 0, 83, 0) := z_ftd (by decide +kernel)
theorem t190_106 : z_ft 190 106 = some (.ifCond .eq 10, 3, none, [], 116, 0, 0, 0) := z_ftd (by decide +kernel)
theorem t190_109 : z_ft 190 109 = some (.aload_n 0, 1, none, [], 0, 0, 0, 0) := z_ftd (by decide +kernel)
theorem t190_110 : z_ft 190 110 = some (.invokevirtual 375, 3, none, [], 185, 0, 96, 0) := z_ftd (by decide +kernel)
theorem t190_113 : z_ft 190 113 = some (.goto 100, 3, none, [], 213, 0, 0, 0) := z_ftd (by decide +kernel)
theorem t190_116 : z_ft 190 116 = some (.aload_n 0, 1, none, [], 0, 0, 0, 0) := z_ftd (by decide +kernel)
theorem t190_117 : z_ft 190 117 = some (.ldc2_w 271, 3, none, [], 0, 0, 99, 26990) := z_ftd (by decide +kernel)
theorem t190_120 : z_ft 190 120 = some (.invokevirtual 323, 3, none, [], 165, 0, 83, 0) := z_ftd (by decide +kernel)
theorem t190_123 : z_ft 190 123 = some (.ifCond .eq 10, 3, none, [], 133, 0, 0, 0) := z_ftd (by decide +kernel)
theorem t190_126 : z_ft 190 126 = some (.aload_n 0, 1, none, [], 0, 0, 0, 0) := z_ftd (by decide +kernel)
theorem t190_127 : z_ft 190 127 = some (.invokevirtual 378, 3, none, [], 187, 0, 118, 0) := z_ftd (by decide +kernel)
theorem t190_130 : z_ft 190 130 = some (.goto 83, 3, none, [], 213, 0, 0, 0) := z_ftd (by decide +kernel)
theorem t190_133 : z_ft 190 133 = some (.aload_n 0, 1, none, [], 0, 0, 0, 0) := z_ftd (by decide +kernel)
theorem t190_134 : z_ft 190 134 = some (.ldc2_w 273, 3, none, [], 0, 0, 100, 1936225652) := z_ftd (by decide +kernel)
theorem t190_137 : z_ft 190 137 = some (.invokevirtual 323, 3, none, [], 165, 0, 83, 0) := z_ftd (by decide +kernel)
theorem t190_140 : z_ft 190 140 = some (.ifCond .eq 10, 3, none, [], 150, 0, 0, 0) := z_ftd (by decide +kernel)
theorem t190_143 : z_ft 190 143 = some (.aload_n 0, 1, none, [], 0, 0, 0, 0) := z_ftd (by decide +kernel)
theorem t190_144 : z_ft 190 144 = some (.invokevirtual 381, 3, none, [], 188, 0, 120, 0) := z_ftd (by decide +kernel)
theorem t190_147 : z_ft 190 147 = some (.goto 66, 3, none, [], 213, 0, 0, 0) := z_ftd (by decide +kernel)
theorem t190_150 : z_ft 190 150 = some (.aload_n 0, 1, none, [], 0, 0, 0, 0) := z_ftd (by decide +kernel)
theorem t190_151 : z_ft 190 151 = some (.ldc2_w 275, 3, none, [], 0, 0, 101, 133493580129395) := z_ftd (by decide +kernel)
theorem t190_154 : z_ft 190 154 = some (.invokevirtual 323, 3, none, [], 165, 0, 83, 0) := z_ftd (by decide +kernel)
theorem t190_157 : z_ft 190 157 = some (.ifCond .eq 11, 3, none, [], 168, 0, 0, 0) := z_ftd (by decide +kernel)
theorem t190_160 : z_ft 190 160 = some (.aload_n 0, 1, none, [], 0, 0, 0, 0) := z_ftd (by decide +kernel)
theorem t190_161 : z_ft 190 161 = some (.iconst 0, 1, none, [], 0, 0, 0, 0) := z_ftd (by decide +kernel)
theorem t190_162 : z_ft 190 162 = some (.invokevirtual 384, 3, none, [], 189, 0, 122, 0) := z_ftd (by decide +kernel)
theorem t190_165 : z_ft 190 165 = some (.goto 48, 3, none, [], 213, 0, 0, 0) := z_ftd (by decide +kernel)
theorem t190_168 : z_ft 190 168 = some (.aload_n 0, 1, none, [], 0, 0, 0, 0) := z_ftd (by decide +kernel)
theorem t190_169 : z_ft 190 169 = some (.ldc2_w 277, 3, none, [], 0, 0, 102, 119182682645875) := z_ftd (by decide +kernel)
theorem t190_172 : z_ft 190 172 = some (.invokevirtual 323, 3, none, [], 165, 0, 83, 0) := z_ftd (by decide +kernel)
theorem t190_175 : z_ft 190 175 = some (.ifCond .eq 11, 3, none, [], 186, 0, 0, 0) := z_ftd (by decide +kernel)
theorem t190_178 : z_ft 190 178 = some (.aload_n 0, 1, none, [], 0, 0, 0, 0) := z_ftd (by decide +kernel)
theorem t190_179 : z_ft 190 179 = some (.iconst 1, 1, none, [], 0, 0, 0, 0) := z_ftd (by decide +kernel)
theorem t190_180 : z_ft 190 180 = some (.invokevirtual 384, 3, none, [], 189, 0, 122, 0) := z_ftd (by decide +kernel)
theorem t190_183 : z_ft 190 183 = some (.goto 30, 3, none, [], 213, 0, 0, 0) := z_ftd (by decide +kernel)
theorem t190_186 : z_ft 190 186 = some (.aload_n 0, 1, none, [], 0, 0, 0, 0) := z_ftd (by decide +kernel)
theorem t190_187 : z_ft 190 187 = some (.ldc2_w 279, 3, none, [], 0, 0, 103, 491328009331) := z_ftd (by decide +kernel)
theorem t190_190 : z_ft 190 190 = some (.invokevirtual 323, 3, none, [], 165, 0, 83, 0) := z_ftd (by decide +kernel)
theorem t190_193 : z_ft 190 193 = some (.ifCond .eq 11, 3, none, [], 204, 0, 0, 0) := z_ftd (by decide +kernel)
theorem t190_196 : z_ft 190 196 = some (.aload_n 0, 1, none, [], 0, 0, 0, 0) := z_ftd (by decide +kernel)
theorem t190_197 : z_ft 190 197 = some (.iconst 2, 1, none, [], 0, 0, 0, 0) := z_ftd (by decide +kernel)
theorem t190_198 : z_ft 190 198 = some (.invokevirtual 384, 3, none, [], 189, 0, 122, 0) := z_ftd (by decide +kernel)
theorem t190_201 : z_ft 190 201 = some (.goto 12, 3, none, [], 213, 0, 0, 0) := z_ftd (by decide +kernel)
theorem t190_204 : z_ft 190 204 = some (.aload_n 0, 1, none, [], 0, 0, 0, 0) := z_ftd (by decide +kernel)
theorem t190_205 : z_ft 190 205 = some (.iconst 1, 1, none, [], 0, 0, 0, 0) := z_ftd (by decide +kernel)
theorem t190_206 : z_ft 190 206 = some (.aload_n 0, 1, none, [], 0, 0, 0, 0) := z_ftd (by decide +kernel)
theorem t190_207 : z_ft 190 207 = some (.getfield 23, 3, none, [], 12, 4, 5, 0) := z_ftd (by decide +kernel)
theorem t190_210 : z_ft 190 210 = some (.invokevirtual 239, 3, none, [], 159, 0, 82, 0) := z_ftd (by decide +kernel)
theorem t190_213 : z_ft 190 213 = some (.return_, 1, (some []), [], 0, 0, 0, 0) := z_ftd (by decide +kernel)
-- X12_statement
theorem e190 (d : Nat)  (S : z_S) (hW : z_W S)  : fV (d + 1) 190 [.ref 396] S = ((fV d 162 [.ref 396] S).bind fun S2 => (if (gI S2 396 8) ≤ (0 : Int32) then (zb (fI d 165 [.ref 396, .long (422608528232 : Int64)] S2) fun v4 S5 => (if v4 = (0 : Int32) then (zb (fI d 165 [.ref 396, .long (495874044019 : Int64)] S5) fun v7 S8 => (if v7 = (0 : Int32) then (zb (fI d 165 [.ref 396, .long (461414294379 : Int64)] S8) fun v10 S11 => (if v10 = (0 : Int32) then (zb (fI d 165 [.ref 396, .long (119225681667442 : Int64)] S11) fun v13 S14 => (if v13 = (0 : Int32) then (zb (fI d 165 [.ref 396, .long (26990 : Int64)] S14) fun v16 S17 => (if v16 = (0 : Int32) then (zb (fI d 165 [.ref 396, .long (1936225652 : Int64)] S17) fun v19 S20 => (if v19 = (0 : Int32) then (zb (fI d 165 [.ref 396, .long (133493580129395 : Int64)] S20) fun v22 S23 => (if v22 = (0 : Int32) then (zb (fI d 165 [.ref 396, .long (119182682645875 : Int64)] S23) fun v25 S26 => (if v25 = (0 : Int32) then (zb (fI d 165 [.ref 396, .long (491328009331 : Int64)] S26) fun v28 S29 => (if v28 = (0 : Int32) then ((fV d 159 [.ref 396, .int (1 : Int32), .int (gI S29 396 4)] S29).bind fun S32 => some S32) else ((fV d 189 [.ref 396, .int (2 : Int32)] S29).bind fun S34 => some S34))) else ((fV d 189 [.ref 396, .int (1 : Int32)] S26).bind fun S36 => some S36))) else ((fV d 189 [.ref 396, .int (0 : Int32)] S23).bind fun S38 => some S38))) else ((fV d 188 [.ref 396] S20).bind fun S40 => some S40))) else ((fV d 187 [.ref 396] S17).bind fun S42 => some S42))) else ((fV d 185 [.ref 396] S14).bind fun S44 => some S44))) else (zb (fI d 183 [.ref 396, .int (0 : Int32), .int (100 : Int32)] S11) fun v45 S46 => (if z_in (gI S11 396 30) 2 then some (sI S46 401 ((gI S11 396 30)).toNatClampNeg v45) else none)))) else (zb (fI d 183 [.ref 396, .int (1 : Int32), .int (40 : Int32)] S8) fun v48 S49 => (if z_in (gI S8 396 30) 2 then some (sI S49 400 ((gI S8 396 30)).toNatClampNeg v48) else none)))) else (zb (fI d 183 [.ref 396, .int (0 : Int32), .int (6 : Int32)] S5) fun v51 S52 => (if z_in (gI S5 396 30) 2 then some (sI S52 399 ((gI S5 396 30)).toNatClampNeg v51) else none)))) else some S2)) := by
  refine (fV_en (Nat.le_of_ble_eq_true rfl) rfl).trans ?_
  refine (k_aload_n t190_0 rfl rfl).trans ?_
  refine k_callV (as := [.ref 396]) (rest := []) t190_1 rfl rfl (by decide) rfl rfl (Nat.le_of_ble_eq_true rfl) rfl (z_rcV hW (zK_396) (by decide)) (by decide) (by decide) hW (fun S2 hW2 => ?_)
  refine (k_aload_n t190_4 rfl rfl).trans ?_
  refine (k_getI t190_5 rfl hW2 zK_396 (by decide) (by decide)).trans ?_
  refine (k_if_le t190_8 rfl).trans (z_ite (fun g3 => ?_) (fun g3 => ?_))
  · refine (k_aload_n t190_12 rfl rfl).trans ?_
    refine (k_ldc2_w t190_13 rfl zcl_422608528232).trans ?_
    refine k_callI (as := [.ref 396, .long (422608528232 : Int64)]) (rest := []) t190_16 rfl rfl (by decide) rfl rfl (Nat.le_of_ble_eq_true rfl) rfl (z_rcV hW2 (zK_396) (by decide)) (by decide) (Or.inr (by decide)) hW2 (fun v4 S5 hW5 => ?_)
    refine (k_if_eq t190_19 rfl).trans (z_ite (fun g6 => ?_) (fun g6 => ?_))
    · refine (k_aload_n t190_41 rfl rfl).trans ?_
      refine (k_ldc2_w t190_42 rfl zcl_495874044019).trans ?_
      refine k_callI (as := [.ref 396, .long (495874044019 : Int64)]) (rest := []) t190_45 rfl rfl (by decide) rfl rfl (Nat.le_of_ble_eq_true rfl) rfl (z_rcV hW5 (zK_396) (by decide)) (by decide) (Or.inr (by decide)) hW5 (fun v7 S8 hW8 => ?_)
      refine (k_if_eq t190_48 rfl).trans (z_ite (fun g9 => ?_) (fun g9 => ?_))
      · refine (k_aload_n t190_70 rfl rfl).trans ?_
        refine (k_ldc2_w t190_71 rfl zcl_461414294379).trans ?_
        refine k_callI (as := [.ref 396, .long (461414294379 : Int64)]) (rest := []) t190_74 rfl rfl (by decide) rfl rfl (Nat.le_of_ble_eq_true rfl) rfl (z_rcV hW8 (zK_396) (by decide)) (by decide) (Or.inr (by decide)) hW8 (fun v10 S11 hW11 => ?_)
        refine (k_if_eq t190_77 rfl).trans (z_ite (fun g12 => ?_) (fun g12 => ?_))
        · refine (k_aload_n t190_99 rfl rfl).trans ?_
          refine (k_ldc2_w t190_100 rfl zcl_119225681667442).trans ?_
          refine k_callI (as := [.ref 396, .long (119225681667442 : Int64)]) (rest := []) t190_103 rfl rfl (by decide) rfl rfl (Nat.le_of_ble_eq_true rfl) rfl (z_rcV hW11 (zK_396) (by decide)) (by decide) (Or.inr (by decide)) hW11 (fun v13 S14 hW14 => ?_)
          refine (k_if_eq t190_106 rfl).trans (z_ite (fun g15 => ?_) (fun g15 => ?_))
          · refine (k_aload_n t190_116 rfl rfl).trans ?_
            refine (k_ldc2_w t190_117 rfl zcl_26990).trans ?_
            refine k_callI (as := [.ref 396, .long (26990 : Int64)]) (rest := []) t190_120 rfl rfl (by decide) rfl rfl (Nat.le_of_ble_eq_true rfl) rfl (z_rcV hW14 (zK_396) (by decide)) (by decide) (Or.inr (by decide)) hW14 (fun v16 S17 hW17 => ?_)
            refine (k_if_eq t190_123 rfl).trans (z_ite (fun g18 => ?_) (fun g18 => ?_))
            · refine (k_aload_n t190_133 rfl rfl).trans ?_
              refine (k_ldc2_w t190_134 rfl zcl_1936225652).trans ?_
              refine k_callI (as := [.ref 396, .long (1936225652 : Int64)]) (rest := []) t190_137 rfl rfl (by decide) rfl rfl (Nat.le_of_ble_eq_true rfl) rfl (z_rcV hW17 (zK_396) (by decide)) (by decide) (Or.inr (by decide)) hW17 (fun v19 S20 hW20 => ?_)
              refine (k_if_eq t190_140 rfl).trans (z_ite (fun g21 => ?_) (fun g21 => ?_))
              · refine (k_aload_n t190_150 rfl rfl).trans ?_
                refine (k_ldc2_w t190_151 rfl zcl_133493580129395).trans ?_
                refine k_callI (as := [.ref 396, .long (133493580129395 : Int64)]) (rest := []) t190_154 rfl rfl (by decide) rfl rfl (Nat.le_of_ble_eq_true rfl) rfl (z_rcV hW20 (zK_396) (by decide)) (by decide) (Or.inr (by decide)) hW20 (fun v22 S23 hW23 => ?_)
                refine (k_if_eq t190_157 rfl).trans (z_ite (fun g24 => ?_) (fun g24 => ?_))
                · refine (k_aload_n t190_168 rfl rfl).trans ?_
                  refine (k_ldc2_w t190_169 rfl zcl_119182682645875).trans ?_
                  refine k_callI (as := [.ref 396, .long (119182682645875 : Int64)]) (rest := []) t190_172 rfl rfl (by decide) rfl rfl (Nat.le_of_ble_eq_true rfl) rfl (z_rcV hW23 (zK_396) (by decide)) (by decide) (Or.inr (by decide)) hW23 (fun v25 S26 hW26 => ?_)
                  refine (k_if_eq t190_175 rfl).trans (z_ite (fun g27 => ?_) (fun g27 => ?_))
                  · refine (k_aload_n t190_186 rfl rfl).trans ?_
                    refine (k_ldc2_w t190_187 rfl zcl_491328009331).trans ?_
                    refine k_callI (as := [.ref 396, .long (491328009331 : Int64)]) (rest := []) t190_190 rfl rfl (by decide) rfl rfl (Nat.le_of_ble_eq_true rfl) rfl (z_rcV hW26 (zK_396) (by decide)) (by decide) (Or.inr (by decide)) hW26 (fun v28 S29 hW29 => ?_)
                    refine (k_if_eq t190_193 rfl).trans (z_ite (fun g30 => ?_) (fun g30 => ?_))
                    · refine (k_aload_n t190_204 rfl rfl).trans ?_
                      refine (k_iconst t190_205 rfl zci_1).trans ?_
                      refine (k_aload_n t190_206 rfl rfl).trans ?_
                      refine (k_getI t190_207 rfl hW29 zK_396 (by decide) (by decide)).trans ?_
                      refine k_callV (as := [.ref 396, .int (1 : Int32), .int (gI S29 396 4)]) (rest := []) t190_210 rfl rfl (by decide) rfl rfl (Nat.le_of_ble_eq_true rfl) rfl (z_rcV hW29 (zK_396) (by decide)) (by decide) (by decide) hW29 (fun S32 hW32 => ?_)
                      refine (zk_mk (ls' := [z_j]) t190_213 rfl).trans ?_
                      exact k_return t190_213 rfl (by decide)
                    · refine (k_aload_n t190_196 rfl rfl).trans ?_
                      refine (k_iconst t190_197 rfl zci_2).trans ?_
                      refine k_callV (as := [.ref 396, .int (2 : Int32)]) (rest := []) t190_198 rfl rfl (by decide) rfl rfl (Nat.le_of_ble_eq_true rfl) rfl (z_rcV hW29 (zK_396) (by decide)) (by decide) (by decide) hW29 (fun S34 hW34 => ?_)
                      refine (k_goto t190_201 rfl).trans ?_
                      refine (zk_mk (ls' := [z_j]) t190_213 rfl).trans ?_
                      exact k_return t190_213 rfl (by decide)
                  · refine (k_aload_n t190_178 rfl rfl).trans ?_
                    refine (k_iconst t190_179 rfl zci_1).trans ?_
                    refine k_callV (as := [.ref 396, .int (1 : Int32)]) (rest := []) t190_180 rfl rfl (by decide) rfl rfl (Nat.le_of_ble_eq_true rfl) rfl (z_rcV hW26 (zK_396) (by decide)) (by decide) (by decide) hW26 (fun S36 hW36 => ?_)
                    refine (k_goto t190_183 rfl).trans ?_
                    refine (zk_mk (ls' := [z_j]) t190_213 rfl).trans ?_
                    exact k_return t190_213 rfl (by decide)
                · refine (k_aload_n t190_160 rfl rfl).trans ?_
                  refine (k_iconst t190_161 rfl zci_0).trans ?_
                  refine k_callV (as := [.ref 396, .int (0 : Int32)]) (rest := []) t190_162 rfl rfl (by decide) rfl rfl (Nat.le_of_ble_eq_true rfl) rfl (z_rcV hW23 (zK_396) (by decide)) (by decide) (by decide) hW23 (fun S38 hW38 => ?_)
                  refine (k_goto t190_165 rfl).trans ?_
                  refine (zk_mk (ls' := [z_j]) t190_213 rfl).trans ?_
                  exact k_return t190_213 rfl (by decide)
              · refine (k_aload_n t190_143 rfl rfl).trans ?_
                refine k_callV (as := [.ref 396]) (rest := []) t190_144 rfl rfl (by decide) rfl rfl (Nat.le_of_ble_eq_true rfl) rfl (z_rcV hW20 (zK_396) (by decide)) (by decide) (by decide) hW20 (fun S40 hW40 => ?_)
                refine (k_goto t190_147 rfl).trans ?_
                refine (zk_mk (ls' := [z_j]) t190_213 rfl).trans ?_
                exact k_return t190_213 rfl (by decide)
            · refine (k_aload_n t190_126 rfl rfl).trans ?_
              refine k_callV (as := [.ref 396]) (rest := []) t190_127 rfl rfl (by decide) rfl rfl (Nat.le_of_ble_eq_true rfl) rfl (z_rcV hW17 (zK_396) (by decide)) (by decide) (by decide) hW17 (fun S42 hW42 => ?_)
              refine (k_goto t190_130 rfl).trans ?_
              refine (zk_mk (ls' := [z_j]) t190_213 rfl).trans ?_
              exact k_return t190_213 rfl (by decide)
          · refine (k_aload_n t190_109 rfl rfl).trans ?_
            refine k_callV (as := [.ref 396]) (rest := []) t190_110 rfl rfl (by decide) rfl rfl (Nat.le_of_ble_eq_true rfl) rfl (z_rcV hW14 (zK_396) (by decide)) (by decide) (by decide) hW14 (fun S44 hW44 => ?_)
            refine (k_goto t190_113 rfl).trans ?_
            refine (zk_mk (ls' := [z_j]) t190_213 rfl).trans ?_
            exact k_return t190_213 rfl (by decide)
        · refine (k_aload_n t190_80 rfl rfl).trans ?_
          refine (k_getR t190_81 rfl hW11 zK_396 (by decide) (by decide) (zF_396_17 hW11)).trans ?_
          refine (k_aload_n t190_84 rfl rfl).trans ?_
          refine (k_getI t190_85 rfl hW11 zK_396 (by decide) (by decide)).trans ?_
          refine (k_aload_n t190_88 rfl rfl).trans ?_
          refine (k_iconst t190_89 rfl zci_0).trans ?_
          refine (k_bipush t190_90 rfl zcb_100).trans ?_
          refine k_callI (as := [.ref 396, .int (0 : Int32), .int (100 : Int32)]) (rest := [.int (gI S11 396 30), .ref 401]) t190_92 rfl rfl (by decide) rfl rfl (Nat.le_of_ble_eq_true rfl) rfl (z_rcV hW11 (zK_396) (by decide)) (by decide) (Or.inl (by decide)) hW11 (fun v45 S46 hW46 => ?_)
          refine (k_iast t190_95 rfl hW46 zK_401 zL_401).trans (z_ite (fun g47 => ?_) (fun _ => rfl))
          refine (k_goto t190_96 rfl).trans ?_
          refine (zk_mk (ls' := [z_j]) t190_213 rfl).trans ?_
          exact k_return t190_213 rfl (by decide)
      · refine (k_aload_n t190_51 rfl rfl).trans ?_
        refine (k_getR t190_52 rfl hW8 zK_396 (by decide) (by decide) (zF_396_16 hW8)).trans ?_
        refine (k_aload_n t190_55 rfl rfl).trans ?_
        refine (k_getI t190_56 rfl hW8 zK_396 (by decide) (by decide)).trans ?_
        refine (k_aload_n t190_59 rfl rfl).trans ?_
        refine (k_iconst t190_60 rfl zci_1).trans ?_
        refine (k_bipush t190_61 rfl zcb_40).trans ?_
        refine k_callI (as := [.ref 396, .int (1 : Int32), .int (40 : Int32)]) (rest := [.int (gI S8 396 30), .ref 400]) t190_63 rfl rfl (by decide) rfl rfl (Nat.le_of_ble_eq_true rfl) rfl (z_rcV hW8 (zK_396) (by decide)) (by decide) (Or.inl (by decide)) hW8 (fun v48 S49 hW49 => ?_)
        refine (k_iast t190_66 rfl hW49 zK_400 zL_400).trans (z_ite (fun g50 => ?_) (fun _ => rfl))
        refine (k_goto t190_67 rfl).trans ?_
        refine (zk_mk (ls' := [z_j]) t190_213 rfl).trans ?_
        exact k_return t190_213 rfl (by decide)
    · refine (k_aload_n t190_22 rfl rfl).trans ?_
      refine (k_getR t190_23 rfl hW5 zK_396 (by decide) (by decide) (zF_396_15 hW5)).trans ?_
      refine (k_aload_n t190_26 rfl rfl).trans ?_
      refine (k_getI t190_27 rfl hW5 zK_396 (by decide) (by decide)).trans ?_
      refine (k_aload_n t190_30 rfl rfl).trans ?_
      refine (k_iconst t190_31 rfl zci_0).trans ?_
      refine (k_bipush t190_32 rfl zcb_6).trans ?_
      refine k_callI (as := [.ref 396, .int (0 : Int32), .int (6 : Int32)]) (rest := [.int (gI S5 396 30), .ref 399]) t190_34 rfl rfl (by decide) rfl rfl (Nat.le_of_ble_eq_true rfl) rfl (z_rcV hW5 (zK_396) (by decide)) (by decide) (Or.inl (by decide)) hW5 (fun v51 S52 hW52 => ?_)
      refine (k_iast t190_37 rfl hW52 zK_399 zL_399).trans (z_ite (fun g53 => ?_) (fun _ => rfl))
      refine (k_goto t190_38 rfl).trans ?_
      refine (zk_mk (ls' := [z_j]) t190_213 rfl).trans ?_
      exact k_return t190_213 rfl (by decide)
  · exact k_return t190_11 rfl (by decide)
theorem t191_0 : z_ft 191 0 = some (.aload_n 0, 1, none, [], 0, 0, 0, 0) := z_ftd (by decide +kernel)
theorem t191_1 : z_ft 191 1 = some (.invokevirtual 250, 3, none, [], 162, 0, 81, 0) := z_ftd (by decide +kernel)
theorem t191_4 : z_ft 191 4 = some (.aload_n 0, 1, none, [], 0, 0, 0, 0) := z_ftd (by decide +kernel)
theorem t191_5 : z_ft 191 5 = some (.getfield 36, 3, none, [], 12, 8, 9, 0) := z_ftd (by decide +kernel)
theorem t191_8 : z_ft 191 8 = some (.ifCond .le 4, 3, none, [], 12, 0, 0, 0) := z_ftd (by decide +kernel)
theorem t191_11 : z_ft 191 11 = some (.return_, 1, none, [], 0, 0, 0, 0) := z_ftd (by decide +kernel)
theorem t191_12 : z_ft 191 12 = some (.aload_n 0, 1, none, [], 0, 0, 0, 0) := z_ftd (by decide +kernel)
theorem t191_13 : z_ft 191 13 = some (.getfield 26, 3, none, [], 12, 5, 6, 0) := z_ftd (by decide +kernel)
theorem t191_16 : z_ft 191 16 = some (.istore_n 2, 1, none, [], 0, 0, 0, 0) := z_ftd (by decide +kernel)
theorem t191_17 : z_ft 191 17 = some (.iload_n 2, 1, (some [0, 1, 2]), [], 0, 0, 0, 0) := z_ftd (by decide +kernel)
theorem t191_18 : z_ft 191 18 = some (.aload_n 0, 1, none, [], 0, 0, 0, 0) := z_ftd (by decide +kernel)
theorem t191_19 : z_ft 191 19 = some (.getfield 17, 3, none, [], 12, 2, 3, 0) := z_ftd (by decide +kernel)
theorem t191_22 : z_ft 191 22 = some (.if_icmp .ge 31, 3, none, [], 53, 0, 0, 0) := z_ftd (by decide +kernel)
theorem t191_25 : z_ft 191 25 = some (.aload_n 0, 1, none, [], 0, 0, 0, 0) := z_ftd (by decide +kernel)
theorem t191_26 : z_ft 191 26 = some (.getfield 7, 3, none, [], 12, 0, 1, 0) := z_ftd (by decide +kernel)
theorem t191_29 : z_ft 191 29 = some (.iload_n 2, 1, none, [], 0, 0, 0, 0) := z_ftd (by decide +kernel)
theorem t191_30 : z_ft 191 30 = some (.iaload, 1, none, [], 0, 0, 0, 0) := z_ftd (by decide +kernel)
theorem t191_31 : z_ft 191 31 = some (.bipush 32, 2, none, [], 0, 0, 0, 0) := z_ftd (by decide +kernel)
theorem t191_33 : z_ft 191 33 = some (.if_icmp .eq 14, 3, none, [], 47, 0, 0, 0) := z_ftd (by decide +kernel)
theorem t191_36 : z_ft 191 36 = some (.aload_n 0, 1, none, [], 0, 0, 0, 0) := z_ftd (by decide +kernel)
theorem t191_37 : z_ft 191 37 = some (.getfield 7, 3, none, [], 12, 0, 1, 0) := z_ftd (by decide +kernel)
theorem t191_40 : z_ft 191 40 = some (.iload_n 2, 1, none, [], 0, 0, 0, 0) := z_ftd (by decide +kernel)
theorem t191_41 : z_ft 191 41 = some (.iaload, 1, none, [], 0, 0, 0, 0) := z_ftd (by decide +kernel)
theorem t191_42 : z_ft 191 42 = some (.bipush 10, 2, none, [], 0, 0, 0, 0) := z_ftd (by decide +kernel)
theorem t191_44 : z_ft 191 44 = some (.if_icmp .ne 9, 3, none, [], 53, 0, 0, 0) := z_ftd (by decide +kernel)
theorem t191_47 : z_ft 191 47 = some (.iinc 2 1, 3, (some [0, 1, 2]), [], 0, 0, 0, 0) := z_ftd (by decide +kernel)
theorem t191_50 : z_ft 191 50 = some (.goto (-33), 3, none, [], 17, 0, 0, 0) := z_ftd (by decide +kernel)
theorem t191_53 : z_ft 191 53 = some (.aload_n 0, 1, (some [0, 1, 2]), [], 0, 0, 0, 0) := z_ftd (by decide +kernel)
theorem t191_54 : z_ft 191 54 = some (.bipush 59, 2, none, [], 0, 0, 0, 0) := z_ftd (by decide +kernel)
theorem t191_56 : z_ft 191 56 = some (.invokevirtual 253, 3, none, [], 164, 0, 87, 0) := z_ftd (by decide +kernel)
theorem t191_59 : z_ft 191 59 = some (.ifCond .eq 24, 3, none, [], 83, 0, 0, 0) := z_ftd (by decide +kernel)
theorem t191_62 : z_ft 191 62 = some (.iload_n 1, 1, none, [], 0, 0, 0, 0) := z_ftd (by decide +kernel)
theorem t191_63 : z_ft 191 63 = some (.bipush 60, 2, none, [], 0, 0, 0, 0) := z_ftd (by decide +kernel)
theorem t191_65 : z_ft 191 65 = some (.if_icmp .ne 18, 3, none, [], 83, 0, 0, 0) := z_ftd (by decide +kernel)
theorem t191_68 : z_ft 191 68 = some (.iload_n 2, 1, none, [], 0, 0, 0, 0) := z_ftd (by decide +kernel)
theorem t191_69 : z_ft 191 69 = some (.aload_n 0, 1, none, [], 0, 0, 0, 0) := z_ftd (by decide +kernel)
theorem t191_70 : z_ft 191 70 = some (.getfield 17, 3, none, [], 12, 2, 3, 0) := z_ftd (by decide +kernel)
theorem t191_73 : z_ft 191 73 = some (.if_icmp .ge 10, 3, none, [], 83, 0, 0, 0) := z_ftd (by decide +kernel)
theorem t191_76 : z_ft 191 76 = some (.aload_n 0, 1, none, [], 0, 0, 0, 0) := z_ftd (by decide +kernel)
theorem t191_77 : z_ft 191 77 = some (.bipush 6, 2, none, [], 0, 0, 0, 0) := z_ftd (by decide +kernel)
theorem t191_79 : z_ft 191 79 = some (.iload_n 2, 1, none, [], 0, 0, 0, 0) := z_ftd (by decide +kernel)
theorem t191_80 : z_ft 191 80 = some (.invokevirtual 239, 3, none, [], 159, 0, 82, 0) := z_ftd (by decide +kernel)
theorem t191_83 : z_ft 191 83 = some (.aload_n 0, 1, (some [0]), [], 0, 0, 0, 0) := z_ftd (by decide +kernel)
theorem t191_84 : z_ft 191 84 = some (.bipush 59, 2, none, [], 0, 0, 0, 0) := z_ftd (by decide +kernel)
theorem t191_86 : z_ft 191 86 = some (.invokevirtual 387, 3, none, [], 166, 0, 88, 0) := z_ftd (by decide +kernel)
theorem t191_89 : z_ft 191 89 = some (.return_, 1, none, [], 0, 0, 0, 0) := z_ftd (by decide +kernel)
noncomputable def b191_17 (d : Nat) (y1 : Int32) (y2 : Int32) (S : z_S) : Option z_S := zk kV z_X0 d 191 17 [.ref 396, .int y1, .int y2] [] S
noncomputable def b191_53 (d : Nat) (y1 : Int32) (y2 : Int32) (S : z_S) : Option z_S := zk kV z_X0 d 191 53 [.ref 396, .int y1, .int y2] [] S
noncomputable def b191_47 (d : Nat) (y1 : Int32) (y2 : Int32) (S : z_S) : Option z_S := zk kV z_X0 d 191 47 [.ref 396, .int y1, .int y2] [] S
noncomputable def b191_83 (d : Nat)  (S : z_S) : Option z_S := zk kV z_X0 d 191 83 [.ref 396, z_j, z_j] [] S
theorem b191_17_eq (d : Nat) (y1 : Int32) (y2 : Int32) (S : z_S) (hW : z_W S)  : b191_17 d y1 y2 S = (if (gI S 396 2) ≤ y2 then b191_53 d y1 y2 S else (if z_in y2 1800 then (if (gI S 397 (y2).toNatClampNeg) = (32 : Int32) then b191_47 d y1 y2 S else (if z_in y2 1800 then (if ¬ (gI S 397 (y2).toNatClampNeg) = (10 : Int32) then b191_53 d y1 y2 S else b191_47 d y1 y2 S) else none)) else none)) := by
  unfold b191_17
  refine (k_iload_n t191_17 rfl rfl).trans ?_
  refine (k_aload_n t191_18 rfl rfl).trans ?_
  refine (k_getI t191_19 rfl hW zK_396 (by decide) (by decide)).trans ?_
  refine (k_icmp_ge t191_22 rfl).trans (z_ite (fun g4 => ?_) (fun g4 => ?_))
  · exact (zk_mk (ls' := [.ref 396, .int y1, .int y2]) t191_53 rfl)
  · refine (k_aload_n t191_25 rfl rfl).trans ?_
    refine (k_getR t191_26 rfl hW zK_396 (by decide) (by decide) (zF_396_0 hW)).trans ?_
    refine (k_iload_n t191_29 rfl rfl).trans ?_
    refine (k_iald t191_30 rfl hW zK_397 zL_397).trans (z_ite (fun g5 => ?_) (fun _ => rfl))
    refine (k_bipush t191_31 rfl zcb_32).trans ?_
    refine (k_icmp_eq t191_33 rfl).trans (z_ite (fun g6 => ?_) (fun g6 => ?_))
    · exact (zk_mk (ls' := [.ref 396, .int y1, .int y2]) t191_47 rfl)
    · refine (k_aload_n t191_36 rfl rfl).trans ?_
      refine (k_getR t191_37 rfl hW zK_396 (by decide) (by decide) (zF_396_0 hW)).trans ?_
      refine (k_iload_n t191_40 rfl rfl).trans ?_
      refine (k_iald t191_41 rfl hW zK_397 zL_397).trans (z_ite (fun g7 => ?_) (fun _ => rfl))
      refine (k_bipush t191_42 rfl zcb_10).trans ?_
      refine (k_icmp_ne t191_44 rfl).trans (z_ite (fun g8 => ?_) (fun g8 => ?_))
      · exact (zk_mk (ls' := [.ref 396, .int y1, .int y2]) t191_53 rfl)
      · exact (zk_mk (ls' := [.ref 396, .int y1, .int y2]) t191_47 rfl)
theorem b191_53_eq (d : Nat) (y1 : Int32) (y2 : Int32) (S : z_S) (hW : z_W S)  : b191_53 d y1 y2 S = (zb (fI d 164 [.ref 396, .int (59 : Int32)] S) fun v9 S10 => (if v9 = (0 : Int32) then b191_83 d S10 else (if ¬ y1 = (60 : Int32) then b191_83 d S10 else (if (gI S10 396 2) ≤ y2 then b191_83 d S10 else ((fV d 159 [.ref 396, .int (6 : Int32), .int y2] S10).bind fun S15 => b191_83 d S15))))) := by
  unfold b191_53
  refine (k_aload_n t191_53 rfl rfl).trans ?_
  refine (k_bipush t191_54 rfl zcb_59).trans ?_
  refine k_callI (as := [.ref 396, .int (59 : Int32)]) (rest := []) t191_56 rfl rfl (by decide) rfl rfl (Nat.le_of_ble_eq_true rfl) rfl (z_rcV hW (zK_396) (by decide)) (by decide) (Or.inr (by decide)) hW (fun v9 S10 hW10 => ?_)
  refine (k_if_eq t191_59 rfl).trans (z_ite (fun g11 => ?_) (fun g11 => ?_))
  · exact (zk_mk (ls' := [.ref 396, z_j, z_j]) t191_83 rfl)
  · refine (k_iload_n t191_62 rfl rfl).trans ?_
    refine (k_bipush t191_63 rfl zcb_60).trans ?_
    refine (k_icmp_ne t191_65 rfl).trans (z_ite (fun g12 => ?_) (fun g12 => ?_))
    · exact (zk_mk (ls' := [.ref 396, z_j, z_j]) t191_83 rfl)
    · refine (k_iload_n t191_68 rfl rfl).trans ?_
      refine (k_aload_n t191_69 rfl rfl).trans ?_
      refine (k_getI t191_70 rfl hW10 zK_396 (by decide) (by decide)).trans ?_
      refine (k_icmp_ge t191_73 rfl).trans (z_ite (fun g13 => ?_) (fun g13 => ?_))
      · exact (zk_mk (ls' := [.ref 396, z_j, z_j]) t191_83 rfl)
      · refine (k_aload_n t191_76 rfl rfl).trans ?_
        refine (k_bipush t191_77 rfl zcb_6).trans ?_
        refine (k_iload_n t191_79 rfl rfl).trans ?_
        refine k_callV (as := [.ref 396, .int (6 : Int32), .int y2]) (rest := []) t191_80 rfl rfl (by decide) rfl rfl (Nat.le_of_ble_eq_true rfl) rfl (z_rcV hW10 (zK_396) (by decide)) (by decide) (by decide) hW10 (fun S15 hW15 => ?_)
        exact (zk_mk (ls' := [.ref 396, z_j, z_j]) t191_83 rfl)
theorem b191_47_eq (d : Nat) (y1 : Int32) (y2 : Int32) (S : z_S) (hW : z_W S)  : b191_47 d y1 y2 S = b191_17 d y1 (y2 + (1 : Int32)) S := by
  unfold b191_47
  refine (k_iinc (b := (y2 + (1 : Int32))) (ls' := [.ref 396, .int y1, .int (y2 + (1 : Int32))]) t191_47 rfl rfl (by rw [zci_1]) rfl).trans ?_
  refine (k_goto t191_50 rfl).trans ?_
  exact (zk_mk (ls' := [.ref 396, .int y1, .int (y2 + (1 : Int32))]) t191_17 rfl)
theorem b191_83_eq (d : Nat)  (S : z_S) (hW : z_W S)  : b191_83 d  S = ((fV d 166 [.ref 396, .int (59 : Int32)] S).bind fun S17 => some S17) := by
  unfold b191_83
  refine (k_aload_n t191_83 rfl rfl).trans ?_
  refine (k_bipush t191_84 rfl zcb_59).trans ?_
  refine k_callV (as := [.ref 396, .int (59 : Int32)]) (rest := []) t191_86 rfl rfl (by decide) rfl rfl (Nat.le_of_ble_eq_true rfl) rfl (z_rcV hW (zK_396) (by decide)) (by decide) (by decide) hW (fun S17 hW17 => ?_)
  exact k_return t191_89 rfl (by decide)
-- X12_finishes
theorem e191 (d : Nat) (x1 : Int32) (S : z_S) (hW : z_W S)  : fV (d + 1) 191 [.ref 396, .int x1] S = ((fV d 162 [.ref 396] S).bind fun S2 => (if (gI S2 396 8) ≤ (0 : Int32) then b191_17 d x1 (gI S2 396 5) S2 else some S2)) := by
  refine (fV_en (Nat.le_of_ble_eq_true rfl) rfl).trans ?_
  refine (k_aload_n t191_0 rfl rfl).trans ?_
  refine k_callV (as := [.ref 396]) (rest := []) t191_1 rfl rfl (by decide) rfl rfl (Nat.le_of_ble_eq_true rfl) rfl (z_rcV hW (zK_396) (by decide)) (by decide) (by decide) hW (fun S2 hW2 => ?_)
  refine (k_aload_n t191_4 rfl rfl).trans ?_
  refine (k_getI t191_5 rfl hW2 zK_396 (by decide) (by decide)).trans ?_
  refine (k_if_le t191_8 rfl).trans (z_ite (fun g3 => ?_) (fun g3 => ?_))
  · refine (k_aload_n t191_12 rfl rfl).trans ?_
    refine (k_getI t191_13 rfl hW2 zK_396 (by decide) (by decide)).trans ?_
    refine (k_istore_n (ls' := [.ref 396, .int x1, .int (gI S2 396 5)]) t191_16 rfl rfl).trans ?_
    exact (zk_mk (ls' := [.ref 396, .int x1, .int (gI S2 396 5)]) t191_17 rfl)
  · exact k_return t191_11 rfl (by decide)
theorem t192_0 : z_ft 192 0 = some (.aload_n 0, 1, none, [], 0, 0, 0, 0) := z_ftd (by decide +kernel)
theorem t192_1 : z_ft 192 1 = some (.aload_n 0, 1, none, [], 0, 0, 0, 0) := z_ftd (by decide +kernel)
theorem t192_2 : z_ft 192 2 = some (.getfield 13, 3, none, [], 12, 1, 2, 0) := z_ftd (by decide +kernel)
theorem t192_5 : z_ft 192 5 = some (.putfield 17, 3, none, [], 12, 2, 3, 0) := z_ftd (by decide +kernel)
theorem t192_8 : z_ft 192 8 = some (.aload_n 0, 1, none, [], 0, 0, 0, 0) := z_ftd (by decide +kernel)
theorem t192_9 : z_ft 192 9 = some (.iconst 0, 1, none, [], 0, 0, 0, 0) := z_ftd (by decide +kernel)
theorem t192_10 : z_ft 192 10 = some (.putfield 13, 3, none, [], 12, 1, 2, 0) := z_ftd (by decide +kernel)
theorem t192_13 : z_ft 192 13 = some (.aload_n 0, 1, none, [], 0, 0, 0, 0) := z_ftd (by decide +kernel)
theorem t192_14 : z_ft 192 14 = some (.iconst 0, 1, none, [], 0, 0, 0, 0) := z_ftd (by decide +kernel)
theorem t192_15 : z_ft 192 15 = some (.putfield 26, 3, none, [], 12, 5, 6, 0) := z_ftd (by decide +kernel)
theorem t192_18 : z_ft 192 18 = some (.aload_n 0, 1, none, [], 0, 0, 0, 0) := z_ftd (by decide +kernel)
theorem t192_19 : z_ft 192 19 = some (.iconst 0, 1, none, [], 0, 0, 0, 0) := z_ftd (by decide +kernel)
theorem t192_20 : z_ft 192 20 = some (.putfield 36, 3, none, [], 12, 8, 9, 0) := z_ftd (by decide +kernel)
theorem t192_23 : z_ft 192 23 = some (.aload_n 0, 1, none, [], 0, 0, 0, 0) := z_ftd (by decide +kernel)
theorem t192_24 : z_ft 192 24 = some (.iconst (-1), 1, none, [], 0, 0, 0, 0) := z_ftd (by decide +kernel)
theorem t192_25 : z_ft 192 25 = some (.putfield 39, 3, none, [], 12, 9, 10, 0) := z_ftd (by decide +kernel)
theorem t192_28 : z_ft 192 28 = some (.aload_n 0, 1, none, [], 0, 0, 0, 0) := z_ftd (by decide +kernel)
theorem t192_29 : z_ft 192 29 = some (.iconst 1, 1, none, [], 0, 0, 0, 0) := z_ftd (by decide +kernel)
theorem t192_30 : z_ft 192 30 = some (.aload_n 0, 1, none, [], 0, 0, 0, 0) := z_ftd (by decide +kernel)
theorem t192_31 : z_ft 192 31 = some (.getfield 51, 3, none, [], 12, 13, 14, 0) := z_ftd (by decide +kernel)
theorem t192_34 : z_ft 192 34 = some (.isub, 1, none, [], 0, 0, 0, 0) := z_ftd (by decide +kernel)
theorem t192_35 : z_ft 192 35 = some (.putfield 103, 3, none, [], 12, 30, 31, 0) := z_ftd (by decide +kernel)
theorem t192_38 : z_ft 192 38 = some (.aload_n 0, 1, none, [], 0, 0, 0, 0) := z_ftd (by decide +kernel)
theorem t192_39 : z_ft 192 39 = some (.getfield 57, 3, none, [], 12, 15, 16, 0) := z_ftd (by decide +kernel)
theorem t192_42 : z_ft 192 42 = some (.aload_n 0, 1, none, [], 0, 0, 0, 0) := z_ftd (by decide +kernel)
theorem t192_43 : z_ft 192 43 = some (.getfield 103, 3, none, [], 12, 30, 31, 0) := z_ftd (by decide +kernel)
theorem t192_46 : z_ft 192 46 = some (.iconst 1, 1, none, [], 0, 0, 0, 0) := z_ftd (by decide +kernel)
theorem t192_47 : z_ft 192 47 = some (.iastore, 1, none, [], 0, 0, 0, 0) := z_ftd (by decide +kernel)
theorem t192_48 : z_ft 192 48 = some (.aload_n 0, 1, none, [], 0, 0, 0, 0) := z_ftd (by decide +kernel)
theorem t192_49 : z_ft 192 49 = some (.getfield 60, 3, none, [], 12, 16, 17, 0) := z_ftd (by decide +kernel)
theorem t192_52 : z_ft 192 52 = some (.aload_n 0, 1, none, [], 0, 0, 0, 0) := z_ftd (by decide +kernel)
theorem t192_53 : z_ft 192 53 = some (.getfield 103, 3, none, [], 12, 30, 31, 0) := z_ftd (by decide +kernel)
theorem t192_56 : z_ft 192 56 = some (.bipush 10, 2, none, [], 0, 0, 0, 0) := z_ftd (by decide +kernel)
theorem t192_58 : z_ft 192 58 = some (.iastore, 1, none, [], 0, 0, 0, 0) := z_ftd (by decide +kernel)
theorem t192_59 : z_ft 192 59 = some (.aload_n 0, 1, none, [], 0, 0, 0, 0) := z_ftd (by decide +kernel)
theorem t192_60 : z_ft 192 60 = some (.getfield 63, 3, none, [], 12, 17, 18, 0) := z_ftd (by decide +kernel)
theorem t192_63 : z_ft 192 63 = some (.aload_n 0, 1, none, [], 0, 0, 0, 0) := z_ftd (by decide +kernel)
theorem t192_64 : z_ft 192 64 = some (.getfield 103, 3, none, [], 12, 30, 31, 0) := z_ftd (by decide +kernel)
theorem t192_67 : z_ft 192 67 = some (.iconst 0, 1, none, [], 0, 0, 0, 0) := z_ftd (by decide +kernel)
theorem t192_68 : z_ft 192 68 = some (.iastore, 1, none, [], 0, 0, 0, 0) := z_ftd (by decide +kernel)
theorem t192_69 : z_ft 192 69 = some (.aload_n 0, 1, none, [], 0, 0, 0, 0) := z_ftd (by decide +kernel)
theorem t192_70 : z_ft 192 70 = some (.getfield 66, 3, none, [], 12, 18, 19, 0) := z_ftd (by decide +kernel)
theorem t192_73 : z_ft 192 73 = some (.aload_n 0, 1, none, [], 0, 0, 0, 0) := z_ftd (by decide +kernel)
theorem t192_74 : z_ft 192 74 = some (.getfield 103, 3, none, [], 12, 30, 31, 0) := z_ftd (by decide +kernel)
theorem t192_77 : z_ft 192 77 = some (.iconst 0, 1, none, [], 0, 0, 0, 0) := z_ftd (by decide +kernel)
theorem t192_78 : z_ft 192 78 = some (.iastore, 1, none, [], 0, 0, 0, 0) := z_ftd (by decide +kernel)
theorem t192_79 : z_ft 192 79 = some (.aload_n 0, 1, none, [], 0, 0, 0, 0) := z_ftd (by decide +kernel)
theorem t192_80 : z_ft 192 80 = some (.getfield 75, 3, none, [], 12, 21, 22, 0) := z_ftd (by decide +kernel)
theorem t192_83 : z_ft 192 83 = some (.aload_n 0, 1, none, [], 0, 0, 0, 0) := z_ftd (by decide +kernel)
theorem t192_84 : z_ft 192 84 = some (.getfield 103, 3, none, [], 12, 30, 31, 0) := z_ftd (by decide +kernel)
theorem t192_87 : z_ft 192 87 = some (.iconst 0, 1, none, [], 0, 0, 0, 0) := z_ftd (by decide +kernel)
theorem t192_88 : z_ft 192 88 = some (.iastore, 1, none, [], 0, 0, 0, 0) := z_ftd (by decide +kernel)
theorem t192_89 : z_ft 192 89 = some (.aload_n 0, 1, none, [], 0, 0, 0, 0) := z_ftd (by decide +kernel)
theorem t192_90 : z_ft 192 90 = some (.getfield 81, 3, none, [], 12, 23, 24, 0) := z_ftd (by decide +kernel)
theorem t192_93 : z_ft 192 93 = some (.aload_n 0, 1, none, [], 0, 0, 0, 0) := z_ftd (by decide +kernel)
theorem t192_94 : z_ft 192 94 = some (.getfield 103, 3, none, [], 12, 30, 31, 0) := z_ftd (by decide +kernel)
theorem t192_97 : z_ft 192 97 = some (.iconst 0, 1, none, [], 0, 0, 0, 0) := z_ftd (by decide +kernel)
theorem t192_98 : z_ft 192 98 = some (.iastore, 1, none, [], 0, 0, 0, 0) := z_ftd (by decide +kernel)
theorem t192_99 : z_ft 192 99 = some (.iconst 3, 1, none, [], 0, 0, 0, 0) := z_ftd (by decide +kernel)
theorem t192_100 : z_ft 192 100 = some (.aload_n 0, 1, none, [], 0, 0, 0, 0) := z_ftd (by decide +kernel)
theorem t192_101 : z_ft 192 101 = some (.getfield 103, 3, none, [], 12, 30, 31, 0) := z_ftd (by decide +kernel)
theorem t192_104 : z_ft 192 104 = some (.imul, 1, none, [], 0, 0, 0, 0) := z_ftd (by decide +kernel)
theorem t192_105 : z_ft 192 105 = some (.istore_n 1, 1, none, [], 0, 0, 0, 0) := z_ftd (by decide +kernel)
theorem t192_106 : z_ft 192 106 = some (.iload_n 1, 1, (some [0, 1]), [], 0, 0, 0, 0) := z_ftd (by decide +kernel)
theorem t192_107 : z_ft 192 107 = some (.iconst 3, 1, none, [], 0, 0, 0, 0) := z_ftd (by decide +kernel)
theorem t192_108 : z_ft 192 108 = some (.aload_n 0, 1, none, [], 0, 0, 0, 0) := z_ftd (by decide +kernel)
theorem t192_109 : z_ft 192 109 = some (.getfield 103, 3, none, [], 12, 30, 31, 0) := z_ftd (by decide +kernel)
theorem t192_112 : z_ft 192 112 = some (.imul, 1, none, [], 0, 0, 0, 0) := z_ftd (by decide +kernel)
theorem t192_113 : z_ft 192 113 = some (.iconst 3, 1, none, [], 0, 0, 0, 0) := z_ftd (by decide +kernel)
theorem t192_114 : z_ft 192 114 = some (.iadd, 1, none, [], 0, 0, 0, 0) := z_ftd (by decide +kernel)
theorem t192_115 : z_ft 192 115 = some (.if_icmp .ge 16, 3, none, [], 131, 0, 0, 0) := z_ftd (by decide +kernel)
theorem t192_118 : z_ft 192 118 = some (.aload_n 0, 1, none, [], 0, 0, 0, 0) := z_ftd (by decide +kernel)
theorem t192_119 : z_ft 192 119 = some (.getfield 84, 3, none, [], 12, 24, 25, 0) := z_ftd (by decide +kernel)
theorem t192_122 : z_ft 192 122 = some (.iload_n 1, 1, none, [], 0, 0, 0, 0) := z_ftd (by decide +kernel)
theorem t192_123 : z_ft 192 123 = some (.iconst (-1), 1, none, [], 0, 0, 0, 0) := z_ftd (by decide +kernel)
theorem t192_124 : z_ft 192 124 = some (.iastore, 1, none, [], 0, 0, 0, 0) := z_ftd (by decide +kernel)
theorem t192_125 : z_ft 192 125 = some (.iinc 1 1, 3, none, [], 0, 0, 0, 0) := z_ftd (by decide +kernel)
theorem t192_128 : z_ft 192 128 = some (.goto (-22), 3, none, [], 106, 0, 0, 0) := z_ftd (by decide +kernel)
theorem t192_131 : z_ft 192 131 = some (.aload_n 0, 1, none, [], 0, 0, 0, 0) := z_ftd (by decide +kernel)
theorem t192_132 : z_ft 192 132 = some (.iconst 0, 1, none, [], 0, 0, 0, 0) := z_ftd (by decide +kernel)
theorem t192_133 : z_ft 192 133 = some (.putfield 100, 3, none, [], 12, 29, 30, 0) := z_ftd (by decide +kernel)
theorem t192_136 : z_ft 192 136 = some (.iconst 1, 1, none, [], 0, 0, 0, 0) := z_ftd (by decide +kernel)
theorem t192_137 : z_ft 192 137 = some (.istore_n 1, 1, none, [], 0, 0, 0, 0) := z_ftd (by decide +kernel)
theorem t192_138 : z_ft 192 138 = some (.aload_n 0, 1, none, [], 0, 0, 0, 0) := z_ftd (by decide +kernel)
theorem t192_139 : z_ft 192 139 = some (.invokevirtual 256, 3, none, [], 163, 0, 75, 0) := z_ftd (by decide +kernel)
theorem t192_142 : z_ft 192 142 = some (.aload_n 0, 1, none, [], 0, 0, 0, 0) := z_ftd (by decide +kernel)
theorem t192_143 : z_ft 192 143 = some (.invokevirtual 389, 3, none, [], 184, 0, 78, 0) := z_ftd (by decide +kernel)
theorem t192_146 : z_ft 192 146 = some (.aload_n 0, 1, none, [], 0, 0, 0, 0) := z_ftd (by decide +kernel)
theorem t192_147 : z_ft 192 147 = some (.iload_n 1, 1, none, [], 0, 0, 0, 0) := z_ftd (by decide +kernel)
theorem t192_148 : z_ft 192 148 = some (.invokevirtual 392, 3, none, [], 191, 0, 86, 0) := z_ftd (by decide +kernel)
theorem t192_151 : z_ft 192 151 = some (.aload_n 0, 1, (some [0, 1]), [], 0, 0, 0, 0) := z_ftd (by decide +kernel)
theorem t192_152 : z_ft 192 152 = some (.getfield 36, 3, none, [], 12, 8, 9, 0) := z_ftd (by decide +kernel)
theorem t192_155 : z_ft 192 155 = some (.ifCond .ne 25, 3, none, [], 180, 0, 0, 0) := z_ftd (by decide +kernel)
theorem t192_158 : z_ft 192 158 = some (.aload_n 0, 1, none, [], 0, 0, 0, 0) := z_ftd (by decide +kernel)
theorem t192_159 : z_ft 192 159 = some (.getfield 20, 3, none, [], 12, 3, 4, 0) := z_ftd (by decide +kernel)
theorem t192_162 : z_ft 192 162 = some (.ifCond .eq 18, 3, none, [], 180, 0, 0, 0) := z_ftd (by decide +kernel)
theorem t192_165 : z_ft 192 165 = some (.aload_n 0, 1, none, [], 0, 0, 0, 0) := z_ftd (by decide +kernel)
theorem t192_166 : z_ft 192 166 = some (.invokevirtual 395, 3, none, [], 190, 0, 89, 0) := z_ftd (by decide +kernel)
theorem t192_169 : z_ft 192 169 = some (.iinc 1 1, 3, none, [], 0, 0, 0, 0) := z_ftd (by decide +kernel)
theorem t192_172 : z_ft 192 172 = some (.aload_n 0, 1, none, [], 0, 0, 0, 0) := z_ftd (by decide +kernel)
theorem t192_173 : z_ft 192 173 = some (.iload_n 1, 1, none, [], 0, 0, 0, 0) := z_ftd (by decide +kernel)
theorem t192_174 : z_ft 192 174 = some (.invokevirtual 392, 3, none, [], 191, 0, 86, 0) := z_ftd (by decide +kernel)
theorem t192_177 : z_ft 192 177 = some (.goto (-26), 3, none, [], 151, 0, 0, 0) := z_ftd (by decide +kernel)
theorem t192_180 : z_ft 192 180 = some (.aload_n 0, 1, (some [0, 1]), [], 0, 0, 0, 0) := z_ftd (by decide +kernel)
theorem t192_181 : z_ft 192 181 = some (.aload_n 0, 1, none, [], 0, 0, 0, 0) := z_ftd (by decide +kernel)
theorem t192_182 : z_ft 192 182 = some (.getfield 36, 3, none, [], 12, 8, 9, 0) := z_ftd (by decide +kernel)
theorem t192_185 : z_ft 192 185 = some (.putfield 42, 3, none, [], 12, 10, 11, 0) := z_ftd (by decide +kernel)
theorem t192_188 : z_ft 192 188 = some (.aload_n 0, 1, none, [], 0, 0, 0, 0) := z_ftd (by decide +kernel)
theorem t192_189 : z_ft 192 189 = some (.aload_n 0, 1, none, [], 0, 0, 0, 0) := z_ftd (by decide +kernel)
theorem t192_190 : z_ft 192 190 = some (.getfield 39, 3, none, [], 12, 9, 10, 0) := z_ftd (by decide +kernel)
theorem t192_193 : z_ft 192 193 = some (.putfield 45, 3, none, [], 12, 11, 12, 0) := z_ftd (by decide +kernel)
theorem t192_196 : z_ft 192 196 = some (.aload_n 0, 1, none, [], 0, 0, 0, 0) := z_ftd (by decide +kernel)
theorem t192_197 : z_ft 192 197 = some (.getfield 36, 3, none, [], 12, 8, 9, 0) := z_ftd (by decide +kernel)
theorem t192_200 : z_ft 192 200 = some (.ifCond .le 9, 3, none, [], 209, 0, 0, 0) := z_ftd (by decide +kernel)
theorem t192_203 : z_ft 192 203 = some (.aload_n 0, 1, none, [], 0, 0, 0, 0) := z_ftd (by decide +kernel)
theorem t192_204 : z_ft 192 204 = some (.iconst 1, 1, none, [], 0, 0, 0, 0) := z_ftd (by decide +kernel)
theorem t192_205 : z_ft 192 205 = some (.invokevirtual 231, 3, none, [], 194, 0, 73, 0) := z_ftd (by decide +kernel)
theorem t192_208 : z_ft 192 208 = some (.ireturn, 1, none, [], 0, 0, 0, 0) := z_ftd (by decide +kernel)
theorem t192_209 : z_ft 192 209 = some (.aload_n 0, 1, none, [], 0, 0, 0, 0) := z_ftd (by decide +kernel)
theorem t192_210 : z_ft 192 210 = some (.aload_n 0, 1, none, [], 0, 0, 0, 0) := z_ftd (by decide +kernel)
theorem t192_211 : z_ft 192 211 = some (.getfield 103, 3, none, [], 12, 30, 31, 0) := z_ftd (by decide +kernel)
theorem t192_214 : z_ft 192 214 = some (.putfield 51, 3, none, [], 12, 13, 14, 0) := z_ftd (by decide +kernel)
theorem t192_217 : z_ft 192 217 = some (.aload_n 0, 1, none, [], 0, 0, 0, 0) := z_ftd (by decide +kernel)
theorem t192_218 : z_ft 192 218 = some (.iconst 1, 1, none, [], 0, 0, 0, 0) := z_ftd (by decide +kernel)
theorem t192_219 : z_ft 192 219 = some (.putfield 141, 3, none, [], 12, 42, 43, 0) := z_ftd (by decide +kernel)
theorem t192_222 : z_ft 192 222 = some (.aload_n 0, 1, none, [], 0, 0, 0, 0) := z_ftd (by decide +kernel)
theorem t192_223 : z_ft 192 223 = some (.invokevirtual 398, 3, none, [], 197, 0, 133, 0) := z_ftd (by decide +kernel)
theorem t192_226 : z_ft 192 226 = some (.iload_n 1, 1, none, [], 0, 0, 0, 0) := z_ftd (by decide +kernel)
theorem t192_227 : z_ft 192 227 = some (.ireturn, 1, none, [], 0, 0, 0, 0) := z_ftd (by decide +kernel)
noncomputable def b192_106 (d : Nat) (y1 : Int32) (S : z_S) : Option (Int32 × z_S) := zk kI z_X0 d 192 106 [.ref 396, .int y1] [] S
noncomputable def b192_151 (d : Nat) (y1 : Int32) (S : z_S) : Option (Int32 × z_S) := zk kI z_X0 d 192 151 [.ref 396, .int y1] [] S
noncomputable def b192_180 (d : Nat) (y1 : Int32) (S : z_S) : Option (Int32 × z_S) := zk kI z_X0 d 192 180 [.ref 396, .int y1] [] S
theorem b192_106_eq (d : Nat) (y1 : Int32) (S : z_S) (hW : z_W S)  : b192_106 d y1 S = (if (((3 : Int32) * (gI S 396 30)) + (3 : Int32)) ≤ y1 then ((fV d 163 [.ref 396] (sI S 396 29 (0 : Int32))).bind fun S9 => ((fV d 184 [.ref 396] S9).bind fun S11 => ((fV d 191 [.ref 396, .int (1 : Int32)] S11).bind fun S13 => b192_151 d (1 : Int32) S13))) else (if z_in y1 6 then b192_106 d (y1 + (1 : Int32)) (sI S 408 (y1).toNatClampNeg (-1 : Int32)) else none)) := by
  unfold b192_106
  refine (k_iload_n t192_106 rfl rfl).trans ?_
  refine (k_iconst t192_107 rfl zci_3).trans ?_
  refine (k_aload_n t192_108 rfl rfl).trans ?_
  refine (k_getI t192_109 rfl hW zK_396 (by decide) (by decide)).trans ?_
  refine (k_imul t192_112 rfl).trans ?_
  refine (k_iconst t192_113 rfl zci_3).trans ?_
  refine (k_iadd t192_114 rfl).trans ?_
  refine (k_icmp_ge t192_115 rfl).trans (z_ite (fun g7 => ?_) (fun g7 => ?_))
  · refine (k_aload_n t192_131 rfl rfl).trans ?_
    refine (k_iconst t192_132 rfl zci_0).trans ?_
    refine (k_putI t192_133 rfl hW zK_396 (by decide) (by decide) (by decide)).trans ?_
    refine (k_iconst t192_136 rfl zci_1).trans ?_
    refine (k_istore_n (ls' := [.ref 396, .int (1 : Int32)]) t192_137 rfl rfl).trans ?_
    refine (k_aload_n t192_138 rfl rfl).trans ?_
    refine k_callV (as := [.ref 396]) (rest := []) t192_139 rfl rfl (by decide) rfl rfl (Nat.le_of_ble_eq_true rfl) rfl (z_rcV hW.sI (zK_396) (by decide)) (by decide) (by decide) hW.sI (fun S9 hW9 => ?_)
    refine (k_aload_n t192_142 rfl rfl).trans ?_
    refine k_callV (as := [.ref 396]) (rest := []) t192_143 rfl rfl (by decide) rfl rfl (Nat.le_of_ble_eq_true rfl) rfl (z_rcV hW9 (zK_396) (by decide)) (by decide) (by decide) hW9 (fun S11 hW11 => ?_)
    refine (k_aload_n t192_146 rfl rfl).trans ?_
    refine (k_iload_n t192_147 rfl rfl).trans ?_
    refine k_callV (as := [.ref 396, .int (1 : Int32)]) (rest := []) t192_148 rfl rfl (by decide) rfl rfl (Nat.le_of_ble_eq_true rfl) rfl (z_rcV hW11 (zK_396) (by decide)) (by decide) (by decide) hW11 (fun S13 hW13 => ?_)
    exact (zk_mk (ls' := [.ref 396, .int (1 : Int32)]) t192_151 rfl)
  · refine (k_aload_n t192_118 rfl rfl).trans ?_
    refine (k_getR t192_119 rfl hW zK_396 (by decide) (by decide) (zF_396_24 hW)).trans ?_
    refine (k_iload_n t192_122 rfl rfl).trans ?_
    refine (k_iconst t192_123 rfl zci_m1).trans ?_
    refine (k_iast t192_124 rfl hW zK_408 zL_408).trans (z_ite (fun g14 => ?_) (fun _ => rfl))
    refine (k_iinc (b := (y1 + (1 : Int32))) (ls' := [.ref 396, .int (y1 + (1 : Int32))]) t192_125 rfl rfl (by rw [zci_1]) rfl).trans ?_
    refine (k_goto t192_128 rfl).trans ?_
    exact (zk_mk (ls' := [.ref 396, .int (y1 + (1 : Int32))]) t192_106 rfl)
theorem b192_151_eq (d : Nat) (y1 : Int32) (S : z_S) (hW : z_W S)  : b192_151 d y1 S = (if ¬ (gI S 396 8) = (0 : Int32) then b192_180 d y1 S else (if (gI S 396 3) = (0 : Int32) then b192_180 d y1 S else ((fV d 190 [.ref 396] S).bind fun S18 => ((fV d 191 [.ref 396, .int (y1 + (1 : Int32))] S18).bind fun S20 => b192_151 d (y1 + (1 : Int32)) S20)))) := by
  unfold b192_151
  refine (k_aload_n t192_151 rfl rfl).trans ?_
  refine (k_getI t192_152 rfl hW zK_396 (by decide) (by decide)).trans ?_
  refine (k_if_ne t192_155 rfl).trans (z_ite (fun g15 => ?_) (fun g15 => ?_))
  · exact (zk_mk (ls' := [.ref 396, .int y1]) t192_180 rfl)
  · refine (k_aload_n t192_158 rfl rfl).trans ?_
    refine (k_getI t192_159 rfl hW zK_396 (by decide) (by decide)).trans ?_
    refine (k_if_eq t192_162 rfl).trans (z_ite (fun g16 => ?_) (fun g16 => ?_))
    · exact (zk_mk (ls' := [.ref 396, .int y1]) t192_180 rfl)
    · refine (k_aload_n t192_165 rfl rfl).trans ?_
      refine k_callV (as := [.ref 396]) (rest := []) t192_166 rfl rfl (by decide) rfl rfl (Nat.le_of_ble_eq_true rfl) rfl (z_rcV hW (zK_396) (by decide)) (by decide) (by decide) hW (fun S18 hW18 => ?_)
      refine (k_iinc (b := (y1 + (1 : Int32))) (ls' := [.ref 396, .int (y1 + (1 : Int32))]) t192_169 rfl rfl (by rw [zci_1]) rfl).trans ?_
      refine (k_aload_n t192_172 rfl rfl).trans ?_
      refine (k_iload_n t192_173 rfl rfl).trans ?_
      refine k_callV (as := [.ref 396, .int (y1 + (1 : Int32))]) (rest := []) t192_174 rfl rfl (by decide) rfl rfl (Nat.le_of_ble_eq_true rfl) rfl (z_rcV hW18 (zK_396) (by decide)) (by decide) (by decide) hW18 (fun S20 hW20 => ?_)
      refine (k_goto t192_177 rfl).trans ?_
      exact (zk_mk (ls' := [.ref 396, .int (y1 + (1 : Int32))]) t192_151 rfl)
theorem b192_180_eq (d : Nat) (y1 : Int32) (S : z_S) (hW : z_W S)  : b192_180 d y1 S = (if (gI (sI (sI S 396 10 (gI S 396 8)) 396 11 (gI (sI S 396 10 (gI S 396 8)) 396 9)) 396 8) ≤ (0 : Int32) then ((fV d 197 [.ref 396] (sI (sI (sI (sI S 396 10 (gI S 396 8)) 396 11 (gI (sI S 396 10 (gI S 396 8)) 396 9)) 396 13 (gI (sI (sI S 396 10 (gI S 396 8)) 396 11 (gI (sI S 396 10 (gI S 396 8)) 396 9)) 396 30)) 396 42 (1 : Int32))).bind fun S23 => some (y1, S23)) else (zb (fI d 194 [.ref 396, .int (1 : Int32)] (sI (sI S 396 10 (gI S 396 8)) 396 11 (gI (sI S 396 10 (gI S 396 8)) 396 9))) fun v24 S25 => some (v24, S25))) := by
  unfold b192_180
  refine (k_aload_n t192_180 rfl rfl).trans ?_
  refine (k_aload_n t192_181 rfl rfl).trans ?_
  refine (k_getI t192_182 rfl hW zK_396 (by decide) (by decide)).trans ?_
  refine (k_putI t192_185 rfl hW zK_396 (by decide) (by decide) (by decide)).trans ?_
  refine (k_aload_n t192_188 rfl rfl).trans ?_
  refine (k_aload_n t192_189 rfl rfl).trans ?_
  refine (k_getI t192_190 rfl hW.sI zK_396 (by decide) (by decide)).trans ?_
  refine (k_putI t192_193 rfl hW.sI zK_396 (by decide) (by decide) (by decide)).trans ?_
  refine (k_aload_n t192_196 rfl rfl).trans ?_
  refine (k_getI t192_197 rfl hW.sI.sI zK_396 (by decide) (by decide)).trans ?_
  refine (k_if_le t192_200 rfl).trans (z_ite (fun g21 => ?_) (fun g21 => ?_))
  · refine (k_aload_n t192_209 rfl rfl).trans ?_
    refine (k_aload_n t192_210 rfl rfl).trans ?_
    refine (k_getI t192_211 rfl hW.sI.sI zK_396 (by decide) (by decide)).trans ?_
    refine (k_putI t192_214 rfl hW.sI.sI zK_396 (by decide) (by decide) (by decide)).trans ?_
    refine (k_aload_n t192_217 rfl rfl).trans ?_
    refine (k_iconst t192_218 rfl zci_1).trans ?_
    refine ((k_putZ t192_219 rfl hW.sI.sI.sI zK_396 (by decide) (by decide) (by decide)).trans (if_pos (by decide))).trans ?_
    refine (k_aload_n t192_222 rfl rfl).trans ?_
    refine k_callV (as := [.ref 396]) (rest := []) t192_223 rfl rfl (by decide) rfl rfl (Nat.le_of_ble_eq_true rfl) rfl (z_rcV hW.sI.sI.sI.sI (zK_396) (by decide)) (by decide) (by decide) hW.sI.sI.sI.sI (fun S23 hW23 => ?_)
    refine (k_iload_n t192_226 rfl rfl).trans ?_
    exact k_ireturn t192_227 rfl (by decide)
  · refine (k_aload_n t192_203 rfl rfl).trans ?_
    refine (k_iconst t192_204 rfl zci_1).trans ?_
    refine k_callI (as := [.ref 396, .int (1 : Int32)]) (rest := []) t192_205 rfl rfl (by decide) rfl rfl (Nat.le_of_ble_eq_true rfl) rfl (z_rcV hW.sI.sI (zK_396) (by decide)) (by decide) (Or.inl (by decide)) hW.sI.sI (fun v24 S25 hW25 => ?_)
    exact k_ireturn t192_208 rfl (by decide)
-- X12_lodge
theorem e192 (d : Nat)  (S : z_S) (hW : z_W S)  : fI (d + 1) 192 [.ref 396] S = (if z_in (gI (sI (sI (sI (sI (sI (sI S 396 2 (gI S 396 1)) 396 1 (0 : Int32)) 396 5 (0 : Int32)) 396 8 (0 : Int32)) 396 9 (-1 : Int32)) 396 30 ((1 : Int32) - (gI (sI (sI (sI (sI (sI S 396 2 (gI S 396 1)) 396 1 (0 : Int32)) 396 5 (0 : Int32)) 396 8 (0 : Int32)) 396 9 (-1 : Int32)) 396 13))) 396 30) 2 then (if z_in (gI (sI (sI (sI (sI (sI (sI (sI S 396 2 (gI S 396 1)) 396 1 (0 : Int32)) 396 5 (0 : Int32)) 396 8 (0 : Int32)) 396 9 (-1 : Int32)) 396 30 ((1 : Int32) - (gI (sI (sI (sI (sI (sI S 396 2 (gI S 396 1)) 396 1 (0 : Int32)) 396 5 (0 : Int32)) 396 8 (0 : Int32)) 396 9 (-1 : Int32)) 396 13))) 399 ((gI (sI (sI (sI (sI (sI (sI S 396 2 (gI S 396 1)) 396 1 (0 : Int32)) 396 5 (0 : Int32)) 396 8 (0 : Int32)) 396 9 (-1 : Int32)) 396 30 ((1 : Int32) - (gI (sI (sI (sI (sI (sI S 396 2 (gI S 396 1)) 396 1 (0 : Int32)) 396 5 (0 : Int32)) 396 8 (0 : Int32)) 396 9 (-1 : Int32)) 396 13))) 396 30)).toNatClampNeg (1 : Int32)) 396 30) 2 then (if z_in (gI (sI (sI (sI (sI (sI (sI (sI (sI S 396 2 (gI S 396 1)) 396 1 (0 : Int32)) 396 5 (0 : Int32)) 396 8 (0 : Int32)) 396 9 (-1 : Int32)) 396 30 ((1 : Int32) - (gI (sI (sI (sI (sI (sI S 396 2 (gI S 396 1)) 396 1 (0 : Int32)) 396 5 (0 : Int32)) 396 8 (0 : Int32)) 396 9 (-1 : Int32)) 396 13))) 399 ((gI (sI (sI (sI (sI (sI (sI S 396 2 (gI S 396 1)) 396 1 (0 : Int32)) 396 5 (0 : Int32)) 396 8 (0 : Int32)) 396 9 (-1 : Int32)) 396 30 ((1 : Int32) - (gI (sI (sI (sI (sI (sI S 396 2 (gI S 396 1)) 396 1 (0 : Int32)) 396 5 (0 : Int32)) 396 8 (0 : Int32)) 396 9 (-1 : Int32)) 396 13))) 396 30)).toNatClampNeg (1 : Int32)) 400 ((gI (sI (sI (sI (sI (sI (sI (sI S 396 2 (gI S 396 1)) 396 1 (0 : Int32)) 396 5 (0 : Int32)) 396 8 (0 : Int32)) 396 9 (-1 : Int32)) 396 30 ((1 : Int32) - (gI (sI (sI (sI (sI (sI S 396 2 (gI S 396 1)) 396 1 (0 : Int32)) 396 5 (0 : Int32)) 396 8 (0 : Int32)) 396 9 (-1 : Int32)) 396 13))) 399 ((gI (sI (sI (sI (sI (sI (sI S 396 2 (gI S 396 1)) 396 1 (0 : Int32)) 396 5 (0 : Int32)) 396 8 (0 : Int32)) 396 9 (-1 : Int32)) 396 30 ((1 : Int32) - (gI (sI (sI (sI (sI (sI S 396 2 (gI S 396 1)) 396 1 (0 : Int32)) 396 5 (0 : Int32)) 396 8 (0 : Int32)) 396 9 (-1 : Int32)) 396 13))) 396 30)).toNatClampNeg (1 : Int32)) 396 30)).toNatClampNeg (10 : Int32)) 396 30) 2 then (if z_in (gI (sI (sI (sI (sI (sI (sI (sI (sI (sI S 396 2 (gI S 396 1)) 396 1 (0 : Int32)) 396 5 (0 : Int32)) 396 8 (0 : Int32)) 396 9 (-1 : Int32)) 396 30 ((1 : Int32) - (gI (sI (sI (sI (sI (sI S 396 2 (gI S 396 1)) 396 1 (0 : Int32)) 396 5 (0 : Int32)) 396 8 (0 : Int32)) 396 9 (-1 : Int32)) 396 13))) 399 ((gI (sI (sI (sI (sI (sI (sI S 396 2 (gI S 396 1)) 396 1 (0 : Int32)) 396 5 (0 : Int32)) 396 8 (0 : Int32)) 396 9 (-1 : Int32)) 396 30 ((1 : Int32) - (gI (sI (sI (sI (sI (sI S 396 2 (gI S 396 1)) 396 1 (0 : Int32)) 396 5 (0 : Int32)) 396 8 (0 : Int32)) 396 9 (-1 : Int32)) 396 13))) 396 30)).toNatClampNeg (1 : Int32)) 400 ((gI (sI (sI (sI (sI (sI (sI (sI S 396 2 (gI S 396 1)) 396 1 (0 : Int32)) 396 5 (0 : Int32)) 396 8 (0 : Int32)) 396 9 (-1 : Int32)) 396 30 ((1 : Int32) - (gI (sI (sI (sI (sI (sI S 396 2 (gI S 396 1)) 396 1 (0 : Int32)) 396 5 (0 : Int32)) 396 8 (0 : Int32)) 396 9 (-1 : Int32)) 396 13))) 399 ((gI (sI (sI (sI (sI (sI (sI S 396 2 (gI S 396 1)) 396 1 (0 : Int32)) 396 5 (0 : Int32)) 396 8 (0 : Int32)) 396 9 (-1 : Int32)) 396 30 ((1 : Int32) - (gI (sI (sI (sI (sI (sI S 396 2 (gI S 396 1)) 396 1 (0 : Int32)) 396 5 (0 : Int32)) 396 8 (0 : Int32)) 396 9 (-1 : Int32)) 396 13))) 396 30)).toNatClampNeg (1 : Int32)) 396 30)).toNatClampNeg (10 : Int32)) 401 ((gI (sI (sI (sI (sI (sI (sI (sI (sI S 396 2 (gI S 396 1)) 396 1 (0 : Int32)) 396 5 (0 : Int32)) 396 8 (0 : Int32)) 396 9 (-1 : Int32)) 396 30 ((1 : Int32) - (gI (sI (sI (sI (sI (sI S 396 2 (gI S 396 1)) 396 1 (0 : Int32)) 396 5 (0 : Int32)) 396 8 (0 : Int32)) 396 9 (-1 : Int32)) 396 13))) 399 ((gI (sI (sI (sI (sI (sI (sI S 396 2 (gI S 396 1)) 396 1 (0 : Int32)) 396 5 (0 : Int32)) 396 8 (0 : Int32)) 396 9 (-1 : Int32)) 396 30 ((1 : Int32) - (gI (sI (sI (sI (sI (sI S 396 2 (gI S 396 1)) 396 1 (0 : Int32)) 396 5 (0 : Int32)) 396 8 (0 : Int32)) 396 9 (-1 : Int32)) 396 13))) 396 30)).toNatClampNeg (1 : Int32)) 400 ((gI (sI (sI (sI (sI (sI (sI (sI S 396 2 (gI S 396 1)) 396 1 (0 : Int32)) 396 5 (0 : Int32)) 396 8 (0 : Int32)) 396 9 (-1 : Int32)) 396 30 ((1 : Int32) - (gI (sI (sI (sI (sI (sI S 396 2 (gI S 396 1)) 396 1 (0 : Int32)) 396 5 (0 : Int32)) 396 8 (0 : Int32)) 396 9 (-1 : Int32)) 396 13))) 399 ((gI (sI (sI (sI (sI (sI (sI S 396 2 (gI S 396 1)) 396 1 (0 : Int32)) 396 5 (0 : Int32)) 396 8 (0 : Int32)) 396 9 (-1 : Int32)) 396 30 ((1 : Int32) - (gI (sI (sI (sI (sI (sI S 396 2 (gI S 396 1)) 396 1 (0 : Int32)) 396 5 (0 : Int32)) 396 8 (0 : Int32)) 396 9 (-1 : Int32)) 396 13))) 396 30)).toNatClampNeg (1 : Int32)) 396 30)).toNatClampNeg (10 : Int32)) 396 30)).toNatClampNeg (0 : Int32)) 396 30) 2 then (if z_in (gI (sI (sI (sI (sI (sI (sI (sI (sI (sI (sI S 396 2 (gI S 396 1)) 396 1 (0 : Int32)) 396 5 (0 : Int32)) 396 8 (0 : Int32)) 396 9 (-1 : Int32)) 396 30 ((1 : Int32) - (gI (sI (sI (sI (sI (sI S 396 2 (gI S 396 1)) 396 1 (0 : Int32)) 396 5 (0 : Int32)) 396 8 (0 : Int32)) 396 9 (-1 : Int32)) 396 13))) 399 ((gI (sI (sI (sI (sI (sI (sI S 396 2 (gI S 396 1)) 396 1 (0 : Int32)) 396 5 (0 : Int32)) 396 8 (0 : Int32)) 396 9 (-1 : Int32)) 396 30 ((1 : Int32) - (gI (sI (sI (sI (sI (sI S 396 2 (gI S 396 1)) 396 1 (0 : Int32)) 396 5 (0 : Int32)) 396 8 (0 : Int32)) 396 9 (-1 : Int32)) 396 13))) 396 30)).toNatClampNeg (1 : Int32)) 400 ((gI (sI (sI (sI (sI (sI (sI (sI S 396 2 (gI S 396 1)) 396 1 (0 : Int32)) 396 5 (0 : Int32)) 396 8 (0 : Int32)) 396 9 (-1 : Int32)) 396 30 ((1 : Int32) - (gI (sI (sI (sI (sI (sI S 396 2 (gI S 396 1)) 396 1 (0 : Int32)) 396 5 (0 : Int32)) 396 8 (0 : Int32)) 396 9 (-1 : Int32)) 396 13))) 399 ((gI (sI (sI (sI (sI (sI (sI S 396 2 (gI S 396 1)) 396 1 (0 : Int32)) 396 5 (0 : Int32)) 396 8 (0 : Int32)) 396 9 (-1 : Int32)) 396 30 ((1 : Int32) - (gI (sI (sI (sI (sI (sI S 396 2 (gI S 396 1)) 396 1 (0 : Int32)) 396 5 (0 : Int32)) 396 8 (0 : Int32)) 396 9 (-1 : Int32)) 396 13))) 396 30)).toNatClampNeg (1 : Int32)) 396 30)).toNatClampNeg (10 : Int32)) 401 ((gI (sI (sI (sI (sI (sI (sI (sI (sI S 396 2 (gI S 396 1)) 396 1 (0 : Int32)) 396 5 (0 : Int32)) 396 8 (0 : Int32)) 396 9 (-1 : Int32)) 396 30 ((1 : Int32) - (gI (sI (sI (sI (sI (sI S 396 2 (gI S 396 1)) 396 1 (0 : Int32)) 396 5 (0 : Int32)) 396 8 (0 : Int32)) 396 9 (-1 : Int32)) 396 13))) 399 ((gI (sI (sI (sI (sI (sI (sI S 396 2 (gI S 396 1)) 396 1 (0 : Int32)) 396 5 (0 : Int32)) 396 8 (0 : Int32)) 396 9 (-1 : Int32)) 396 30 ((1 : Int32) - (gI (sI (sI (sI (sI (sI S 396 2 (gI S 396 1)) 396 1 (0 : Int32)) 396 5 (0 : Int32)) 396 8 (0 : Int32)) 396 9 (-1 : Int32)) 396 13))) 396 30)).toNatClampNeg (1 : Int32)) 400 ((gI (sI (sI (sI (sI (sI (sI (sI S 396 2 (gI S 396 1)) 396 1 (0 : Int32)) 396 5 (0 : Int32)) 396 8 (0 : Int32)) 396 9 (-1 : Int32)) 396 30 ((1 : Int32) - (gI (sI (sI (sI (sI (sI S 396 2 (gI S 396 1)) 396 1 (0 : Int32)) 396 5 (0 : Int32)) 396 8 (0 : Int32)) 396 9 (-1 : Int32)) 396 13))) 399 ((gI (sI (sI (sI (sI (sI (sI S 396 2 (gI S 396 1)) 396 1 (0 : Int32)) 396 5 (0 : Int32)) 396 8 (0 : Int32)) 396 9 (-1 : Int32)) 396 30 ((1 : Int32) - (gI (sI (sI (sI (sI (sI S 396 2 (gI S 396 1)) 396 1 (0 : Int32)) 396 5 (0 : Int32)) 396 8 (0 : Int32)) 396 9 (-1 : Int32)) 396 13))) 396 30)).toNatClampNeg (1 : Int32)) 396 30)).toNatClampNeg (10 : Int32)) 396 30)).toNatClampNeg (0 : Int32)) 402 ((gI (sI (sI (sI (sI (sI (sI (sI (sI (sI S 396 2 (gI S 396 1)) 396 1 (0 : Int32)) 396 5 (0 : Int32)) 396 8 (0 : Int32)) 396 9 (-1 : Int32)) 396 30 ((1 : Int32) - (gI (sI (sI (sI (sI (sI S 396 2 (gI S 396 1)) 396 1 (0 : Int32)) 396 5 (0 : Int32)) 396 8 (0 : Int32)) 396 9 (-1 : Int32)) 396 13))) 399 ((gI (sI (sI (sI (sI (sI (sI S 396 2 (gI S 396 1)) 396 1 (0 : Int32)) 396 5 (0 : Int32)) 396 8 (0 : Int32)) 396 9 (-1 : Int32)) 396 30 ((1 : Int32) - (gI (sI (sI (sI (sI (sI S 396 2 (gI S 396 1)) 396 1 (0 : Int32)) 396 5 (0 : Int32)) 396 8 (0 : Int32)) 396 9 (-1 : Int32)) 396 13))) 396 30)).toNatClampNeg (1 : Int32)) 400 ((gI (sI (sI (sI (sI (sI (sI (sI S 396 2 (gI S 396 1)) 396 1 (0 : Int32)) 396 5 (0 : Int32)) 396 8 (0 : Int32)) 396 9 (-1 : Int32)) 396 30 ((1 : Int32) - (gI (sI (sI (sI (sI (sI S 396 2 (gI S 396 1)) 396 1 (0 : Int32)) 396 5 (0 : Int32)) 396 8 (0 : Int32)) 396 9 (-1 : Int32)) 396 13))) 399 ((gI (sI (sI (sI (sI (sI (sI S 396 2 (gI S 396 1)) 396 1 (0 : Int32)) 396 5 (0 : Int32)) 396 8 (0 : Int32)) 396 9 (-1 : Int32)) 396 30 ((1 : Int32) - (gI (sI (sI (sI (sI (sI S 396 2 (gI S 396 1)) 396 1 (0 : Int32)) 396 5 (0 : Int32)) 396 8 (0 : Int32)) 396 9 (-1 : Int32)) 396 13))) 396 30)).toNatClampNeg (1 : Int32)) 396 30)).toNatClampNeg (10 : Int32)) 401 ((gI (sI (sI (sI (sI (sI (sI (sI (sI S 396 2 (gI S 396 1)) 396 1 (0 : Int32)) 396 5 (0 : Int32)) 396 8 (0 : Int32)) 396 9 (-1 : Int32)) 396 30 ((1 : Int32) - (gI (sI (sI (sI (sI (sI S 396 2 (gI S 396 1)) 396 1 (0 : Int32)) 396 5 (0 : Int32)) 396 8 (0 : Int32)) 396 9 (-1 : Int32)) 396 13))) 399 ((gI (sI (sI (sI (sI (sI (sI S 396 2 (gI S 396 1)) 396 1 (0 : Int32)) 396 5 (0 : Int32)) 396 8 (0 : Int32)) 396 9 (-1 : Int32)) 396 30 ((1 : Int32) - (gI (sI (sI (sI (sI (sI S 396 2 (gI S 396 1)) 396 1 (0 : Int32)) 396 5 (0 : Int32)) 396 8 (0 : Int32)) 396 9 (-1 : Int32)) 396 13))) 396 30)).toNatClampNeg (1 : Int32)) 400 ((gI (sI (sI (sI (sI (sI (sI (sI S 396 2 (gI S 396 1)) 396 1 (0 : Int32)) 396 5 (0 : Int32)) 396 8 (0 : Int32)) 396 9 (-1 : Int32)) 396 30 ((1 : Int32) - (gI (sI (sI (sI (sI (sI S 396 2 (gI S 396 1)) 396 1 (0 : Int32)) 396 5 (0 : Int32)) 396 8 (0 : Int32)) 396 9 (-1 : Int32)) 396 13))) 399 ((gI (sI (sI (sI (sI (sI (sI S 396 2 (gI S 396 1)) 396 1 (0 : Int32)) 396 5 (0 : Int32)) 396 8 (0 : Int32)) 396 9 (-1 : Int32)) 396 30 ((1 : Int32) - (gI (sI (sI (sI (sI (sI S 396 2 (gI S 396 1)) 396 1 (0 : Int32)) 396 5 (0 : Int32)) 396 8 (0 : Int32)) 396 9 (-1 : Int32)) 396 13))) 396 30)).toNatClampNeg (1 : Int32)) 396 30)).toNatClampNeg (10 : Int32)) 396 30)).toNatClampNeg (0 : Int32)) 396 30)).toNatClampNeg (0 : Int32)) 396 30) 2 then (if z_in (gI (sI (sI (sI (sI (sI (sI (sI (sI (sI (sI (sI S 396 2 (gI S 396 1)) 396 1 (0 : Int32)) 396 5 (0 : Int32)) 396 8 (0 : Int32)) 396 9 (-1 : Int32)) 396 30 ((1 : Int32) - (gI (sI (sI (sI (sI (sI S 396 2 (gI S 396 1)) 396 1 (0 : Int32)) 396 5 (0 : Int32)) 396 8 (0 : Int32)) 396 9 (-1 : Int32)) 396 13))) 399 ((gI (sI (sI (sI (sI (sI (sI S 396 2 (gI S 396 1)) 396 1 (0 : Int32)) 396 5 (0 : Int32)) 396 8 (0 : Int32)) 396 9 (-1 : Int32)) 396 30 ((1 : Int32) - (gI (sI (sI (sI (sI (sI S 396 2 (gI S 396 1)) 396 1 (0 : Int32)) 396 5 (0 : Int32)) 396 8 (0 : Int32)) 396 9 (-1 : Int32)) 396 13))) 396 30)).toNatClampNeg (1 : Int32)) 400 ((gI (sI (sI (sI (sI (sI (sI (sI S 396 2 (gI S 396 1)) 396 1 (0 : Int32)) 396 5 (0 : Int32)) 396 8 (0 : Int32)) 396 9 (-1 : Int32)) 396 30 ((1 : Int32) - (gI (sI (sI (sI (sI (sI S 396 2 (gI S 396 1)) 396 1 (0 : Int32)) 396 5 (0 : Int32)) 396 8 (0 : Int32)) 396 9 (-1 : Int32)) 396 13))) 399 ((gI (sI (sI (sI (sI (sI (sI S 396 2 (gI S 396 1)) 396 1 (0 : Int32)) 396 5 (0 : Int32)) 396 8 (0 : Int32)) 396 9 (-1 : Int32)) 396 30 ((1 : Int32) - (gI (sI (sI (sI (sI (sI S 396 2 (gI S 396 1)) 396 1 (0 : Int32)) 396 5 (0 : Int32)) 396 8 (0 : Int32)) 396 9 (-1 : Int32)) 396 13))) 396 30)).toNatClampNeg (1 : Int32)) 396 30)).toNatClampNeg (10 : Int32)) 401 ((gI (sI (sI (sI (sI (sI (sI (sI (sI S 396 2 (gI S 396 1)) 396 1 (0 : Int32)) 396 5 (0 : Int32)) 396 8 (0 : Int32)) 396 9 (-1 : Int32)) 396 30 ((1 : Int32) - (gI (sI (sI (sI (sI (sI S 396 2 (gI S 396 1)) 396 1 (0 : Int32)) 396 5 (0 : Int32)) 396 8 (0 : Int32)) 396 9 (-1 : Int32)) 396 13))) 399 ((gI (sI (sI (sI (sI (sI (sI S 396 2 (gI S 396 1)) 396 1 (0 : Int32)) 396 5 (0 : Int32)) 396 8 (0 : Int32)) 396 9 (-1 : Int32)) 396 30 ((1 : Int32) - (gI (sI (sI (sI (sI (sI S 396 2 (gI S 396 1)) 396 1 (0 : Int32)) 396 5 (0 : Int32)) 396 8 (0 : Int32)) 396 9 (-1 : Int32)) 396 13))) 396 30)).toNatClampNeg (1 : Int32)) 400 ((gI (sI (sI (sI (sI (sI (sI (sI S 396 2 (gI S 396 1)) 396 1 (0 : Int32)) 396 5 (0 : Int32)) 396 8 (0 : Int32)) 396 9 (-1 : Int32)) 396 30 ((1 : Int32) - (gI (sI (sI (sI (sI (sI S 396 2 (gI S 396 1)) 396 1 (0 : Int32)) 396 5 (0 : Int32)) 396 8 (0 : Int32)) 396 9 (-1 : Int32)) 396 13))) 399 ((gI (sI (sI (sI (sI (sI (sI S 396 2 (gI S 396 1)) 396 1 (0 : Int32)) 396 5 (0 : Int32)) 396 8 (0 : Int32)) 396 9 (-1 : Int32)) 396 30 ((1 : Int32) - (gI (sI (sI (sI (sI (sI S 396 2 (gI S 396 1)) 396 1 (0 : Int32)) 396 5 (0 : Int32)) 396 8 (0 : Int32)) 396 9 (-1 : Int32)) 396 13))) 396 30)).toNatClampNeg (1 : Int32)) 396 30)).toNatClampNeg (10 : Int32)) 396 30)).toNatClampNeg (0 : Int32)) 402 ((gI (sI (sI (sI (sI (sI (sI (sI (sI (sI S 396 2 (gI S 396 1)) 396 1 (0 : Int32)) 396 5 (0 : Int32)) 396 8 (0 : Int32)) 396 9 (-1 : Int32)) 396 30 ((1 : Int32) - (gI (sI (sI (sI (sI (sI S 396 2 (gI S 396 1)) 396 1 (0 : Int32)) 396 5 (0 : Int32)) 396 8 (0 : Int32)) 396 9 (-1 : Int32)) 396 13))) 399 ((gI (sI (sI (sI (sI (sI (sI S 396 2 (gI S 396 1)) 396 1 (0 : Int32)) 396 5 (0 : Int32)) 396 8 (0 : Int32)) 396 9 (-1 : Int32)) 396 30 ((1 : Int32) - (gI (sI (sI (sI (sI (sI S 396 2 (gI S 396 1)) 396 1 (0 : Int32)) 396 5 (0 : Int32)) 396 8 (0 : Int32)) 396 9 (-1 : Int32)) 396 13))) 396 30)).toNatClampNeg (1 : Int32)) 400 ((gI (sI (sI (sI (sI (sI (sI (sI S 396 2 (gI S 396 1)) 396 1 (0 : Int32)) 396 5 (0 : Int32)) 396 8 (0 : Int32)) 396 9 (-1 : Int32)) 396 30 ((1 : Int32) - (gI (sI (sI (sI (sI (sI S 396 2 (gI S 396 1)) 396 1 (0 : Int32)) 396 5 (0 : Int32)) 396 8 (0 : Int32)) 396 9 (-1 : Int32)) 396 13))) 399 ((gI (sI (sI (sI (sI (sI (sI S 396 2 (gI S 396 1)) 396 1 (0 : Int32)) 396 5 (0 : Int32)) 396 8 (0 : Int32)) 396 9 (-1 : Int32)) 396 30 ((1 : Int32) - (gI (sI (sI (sI (sI (sI S 396 2 (gI S 396 1)) 396 1 (0 : Int32)) 396 5 (0 : Int32)) 396 8 (0 : Int32)) 396 9 (-1 : Int32)) 396 13))) 396 30)).toNatClampNeg (1 : Int32)) 396 30)).toNatClampNeg (10 : Int32)) 401 ((gI (sI (sI (sI (sI (sI (sI (sI (sI S 396 2 (gI S 396 1)) 396 1 (0 : Int32)) 396 5 (0 : Int32)) 396 8 (0 : Int32)) 396 9 (-1 : Int32)) 396 30 ((1 : Int32) - (gI (sI (sI (sI (sI (sI S 396 2 (gI S 396 1)) 396 1 (0 : Int32)) 396 5 (0 : Int32)) 396 8 (0 : Int32)) 396 9 (-1 : Int32)) 396 13))) 399 ((gI (sI (sI (sI (sI (sI (sI S 396 2 (gI S 396 1)) 396 1 (0 : Int32)) 396 5 (0 : Int32)) 396 8 (0 : Int32)) 396 9 (-1 : Int32)) 396 30 ((1 : Int32) - (gI (sI (sI (sI (sI (sI S 396 2 (gI S 396 1)) 396 1 (0 : Int32)) 396 5 (0 : Int32)) 396 8 (0 : Int32)) 396 9 (-1 : Int32)) 396 13))) 396 30)).toNatClampNeg (1 : Int32)) 400 ((gI (sI (sI (sI (sI (sI (sI (sI S 396 2 (gI S 396 1)) 396 1 (0 : Int32)) 396 5 (0 : Int32)) 396 8 (0 : Int32)) 396 9 (-1 : Int32)) 396 30 ((1 : Int32) - (gI (sI (sI (sI (sI (sI S 396 2 (gI S 396 1)) 396 1 (0 : Int32)) 396 5 (0 : Int32)) 396 8 (0 : Int32)) 396 9 (-1 : Int32)) 396 13))) 399 ((gI (sI (sI (sI (sI (sI (sI S 396 2 (gI S 396 1)) 396 1 (0 : Int32)) 396 5 (0 : Int32)) 396 8 (0 : Int32)) 396 9 (-1 : Int32)) 396 30 ((1 : Int32) - (gI (sI (sI (sI (sI (sI S 396 2 (gI S 396 1)) 396 1 (0 : Int32)) 396 5 (0 : Int32)) 396 8 (0 : Int32)) 396 9 (-1 : Int32)) 396 13))) 396 30)).toNatClampNeg (1 : Int32)) 396 30)).toNatClampNeg (10 : Int32)) 396 30)).toNatClampNeg (0 : Int32)) 396 30)).toNatClampNeg (0 : Int32)) 405 ((gI (sI (sI (sI (sI (sI (sI (sI (sI (sI (sI S 396 2 (gI S 396 1)) 396 1 (0 : Int32)) 396 5 (0 : Int32)) 396 8 (0 : Int32)) 396 9 (-1 : Int32)) 396 30 ((1 : Int32) - (gI (sI (sI (sI (sI (sI S 396 2 (gI S 396 1)) 396 1 (0 : Int32)) 396 5 (0 : Int32)) 396 8 (0 : Int32)) 396 9 (-1 : Int32)) 396 13))) 399 ((gI (sI (sI (sI (sI (sI (sI S 396 2 (gI S 396 1)) 396 1 (0 : Int32)) 396 5 (0 : Int32)) 396 8 (0 : Int32)) 396 9 (-1 : Int32)) 396 30 ((1 : Int32) - (gI (sI (sI (sI (sI (sI S 396 2 (gI S 396 1)) 396 1 (0 : Int32)) 396 5 (0 : Int32)) 396 8 (0 : Int32)) 396 9 (-1 : Int32)) 396 13))) 396 30)).toNatClampNeg (1 : Int32)) 400 ((gI (sI (sI (sI (sI (sI (sI (sI S 396 2 (gI S 396 1)) 396 1 (0 : Int32)) 396 5 (0 : Int32)) 396 8 (0 : Int32)) 396 9 (-1 : Int32)) 396 30 ((1 : Int32) - (gI (sI (sI (sI (sI (sI S 396 2 (gI S 396 1)) 396 1 (0 : Int32)) 396 5 (0 : Int32)) 396 8 (0 : Int32)) 396 9 (-1 : Int32)) 396 13))) 399 ((gI (sI (sI (sI (sI (sI (sI S 396 2 (gI S 396 1)) 396 1 (0 : Int32)) 396 5 (0 : Int32)) 396 8 (0 : Int32)) 396 9 (-1 : Int32)) 396 30 ((1 : Int32) - (gI (sI (sI (sI (sI (sI S 396 2 (gI S 396 1)) 396 1 (0 : Int32)) 396 5 (0 : Int32)) 396 8 (0 : Int32)) 396 9 (-1 : Int32)) 396 13))) 396 30)).toNatClampNeg (1 : Int32)) 396 30)).toNatClampNeg (10 : Int32)) 401 ((gI (sI (sI (sI (sI (sI (sI (sI (sI S 396 2 (gI S 396 1)) 396 1 (0 : Int32)) 396 5 (0 : Int32)) 396 8 (0 : Int32)) 396 9 (-1 : Int32)) 396 30 ((1 : Int32) - (gI (sI (sI (sI (sI (sI S 396 2 (gI S 396 1)) 396 1 (0 : Int32)) 396 5 (0 : Int32)) 396 8 (0 : Int32)) 396 9 (-1 : Int32)) 396 13))) 399 ((gI (sI (sI (sI (sI (sI (sI S 396 2 (gI S 396 1)) 396 1 (0 : Int32)) 396 5 (0 : Int32)) 396 8 (0 : Int32)) 396 9 (-1 : Int32)) 396 30 ((1 : Int32) - (gI (sI (sI (sI (sI (sI S 396 2 (gI S 396 1)) 396 1 (0 : Int32)) 396 5 (0 : Int32)) 396 8 (0 : Int32)) 396 9 (-1 : Int32)) 396 13))) 396 30)).toNatClampNeg (1 : Int32)) 400 ((gI (sI (sI (sI (sI (sI (sI (sI S 396 2 (gI S 396 1)) 396 1 (0 : Int32)) 396 5 (0 : Int32)) 396 8 (0 : Int32)) 396 9 (-1 : Int32)) 396 30 ((1 : Int32) - (gI (sI (sI (sI (sI (sI S 396 2 (gI S 396 1)) 396 1 (0 : Int32)) 396 5 (0 : Int32)) 396 8 (0 : Int32)) 396 9 (-1 : Int32)) 396 13))) 399 ((gI (sI (sI (sI (sI (sI (sI S 396 2 (gI S 396 1)) 396 1 (0 : Int32)) 396 5 (0 : Int32)) 396 8 (0 : Int32)) 396 9 (-1 : Int32)) 396 30 ((1 : Int32) - (gI (sI (sI (sI (sI (sI S 396 2 (gI S 396 1)) 396 1 (0 : Int32)) 396 5 (0 : Int32)) 396 8 (0 : Int32)) 396 9 (-1 : Int32)) 396 13))) 396 30)).toNatClampNeg (1 : Int32)) 396 30)).toNatClampNeg (10 : Int32)) 396 30)).toNatClampNeg (0 : Int32)) 402 ((gI (sI (sI (sI (sI (sI (sI (sI (sI (sI S 396 2 (gI S 396 1)) 396 1 (0 : Int32)) 396 5 (0 : Int32)) 396 8 (0 : Int32)) 396 9 (-1 : Int32)) 396 30 ((1 : Int32) - (gI (sI (sI (sI (sI (sI S 396 2 (gI S 396 1)) 396 1 (0 : Int32)) 396 5 (0 : Int32)) 396 8 (0 : Int32)) 396 9 (-1 : Int32)) 396 13))) 399 ((gI (sI (sI (sI (sI (sI (sI S 396 2 (gI S 396 1)) 396 1 (0 : Int32)) 396 5 (0 : Int32)) 396 8 (0 : Int32)) 396 9 (-1 : Int32)) 396 30 ((1 : Int32) - (gI (sI (sI (sI (sI (sI S 396 2 (gI S 396 1)) 396 1 (0 : Int32)) 396 5 (0 : Int32)) 396 8 (0 : Int32)) 396 9 (-1 : Int32)) 396 13))) 396 30)).toNatClampNeg (1 : Int32)) 400 ((gI (sI (sI (sI (sI (sI (sI (sI S 396 2 (gI S 396 1)) 396 1 (0 : Int32)) 396 5 (0 : Int32)) 396 8 (0 : Int32)) 396 9 (-1 : Int32)) 396 30 ((1 : Int32) - (gI (sI (sI (sI (sI (sI S 396 2 (gI S 396 1)) 396 1 (0 : Int32)) 396 5 (0 : Int32)) 396 8 (0 : Int32)) 396 9 (-1 : Int32)) 396 13))) 399 ((gI (sI (sI (sI (sI (sI (sI S 396 2 (gI S 396 1)) 396 1 (0 : Int32)) 396 5 (0 : Int32)) 396 8 (0 : Int32)) 396 9 (-1 : Int32)) 396 30 ((1 : Int32) - (gI (sI (sI (sI (sI (sI S 396 2 (gI S 396 1)) 396 1 (0 : Int32)) 396 5 (0 : Int32)) 396 8 (0 : Int32)) 396 9 (-1 : Int32)) 396 13))) 396 30)).toNatClampNeg (1 : Int32)) 396 30)).toNatClampNeg (10 : Int32)) 401 ((gI (sI (sI (sI (sI (sI (sI (sI (sI S 396 2 (gI S 396 1)) 396 1 (0 : Int32)) 396 5 (0 : Int32)) 396 8 (0 : Int32)) 396 9 (-1 : Int32)) 396 30 ((1 : Int32) - (gI (sI (sI (sI (sI (sI S 396 2 (gI S 396 1)) 396 1 (0 : Int32)) 396 5 (0 : Int32)) 396 8 (0 : Int32)) 396 9 (-1 : Int32)) 396 13))) 399 ((gI (sI (sI (sI (sI (sI (sI S 396 2 (gI S 396 1)) 396 1 (0 : Int32)) 396 5 (0 : Int32)) 396 8 (0 : Int32)) 396 9 (-1 : Int32)) 396 30 ((1 : Int32) - (gI (sI (sI (sI (sI (sI S 396 2 (gI S 396 1)) 396 1 (0 : Int32)) 396 5 (0 : Int32)) 396 8 (0 : Int32)) 396 9 (-1 : Int32)) 396 13))) 396 30)).toNatClampNeg (1 : Int32)) 400 ((gI (sI (sI (sI (sI (sI (sI (sI S 396 2 (gI S 396 1)) 396 1 (0 : Int32)) 396 5 (0 : Int32)) 396 8 (0 : Int32)) 396 9 (-1 : Int32)) 396 30 ((1 : Int32) - (gI (sI (sI (sI (sI (sI S 396 2 (gI S 396 1)) 396 1 (0 : Int32)) 396 5 (0 : Int32)) 396 8 (0 : Int32)) 396 9 (-1 : Int32)) 396 13))) 399 ((gI (sI (sI (sI (sI (sI (sI S 396 2 (gI S 396 1)) 396 1 (0 : Int32)) 396 5 (0 : Int32)) 396 8 (0 : Int32)) 396 9 (-1 : Int32)) 396 30 ((1 : Int32) - (gI (sI (sI (sI (sI (sI S 396 2 (gI S 396 1)) 396 1 (0 : Int32)) 396 5 (0 : Int32)) 396 8 (0 : Int32)) 396 9 (-1 : Int32)) 396 13))) 396 30)).toNatClampNeg (1 : Int32)) 396 30)).toNatClampNeg (10 : Int32)) 396 30)).toNatClampNeg (0 : Int32)) 396 30)).toNatClampNeg (0 : Int32)) 396 30)).toNatClampNeg (0 : Int32)) 396 30) 2 then b192_106 d ((3 : Int32) * (gI (sI (sI (sI (sI (sI (sI (sI (sI (sI (sI (sI (sI S 396 2 (gI S 396 1)) 396 1 (0 : Int32)) 396 5 (0 : Int32)) 396 8 (0 : Int32)) 396 9 (-1 : Int32)) 396 30 ((1 : Int32) - (gI (sI (sI (sI (sI (sI S 396 2 (gI S 396 1)) 396 1 (0 : Int32)) 396 5 (0 : Int32)) 396 8 (0 : Int32)) 396 9 (-1 : Int32)) 396 13))) 399 ((gI (sI (sI (sI (sI (sI (sI S 396 2 (gI S 396 1)) 396 1 (0 : Int32)) 396 5 (0 : Int32)) 396 8 (0 : Int32)) 396 9 (-1 : Int32)) 396 30 ((1 : Int32) - (gI (sI (sI (sI (sI (sI S 396 2 (gI S 396 1)) 396 1 (0 : Int32)) 396 5 (0 : Int32)) 396 8 (0 : Int32)) 396 9 (-1 : Int32)) 396 13))) 396 30)).toNatClampNeg (1 : Int32)) 400 ((gI (sI (sI (sI (sI (sI (sI (sI S 396 2 (gI S 396 1)) 396 1 (0 : Int32)) 396 5 (0 : Int32)) 396 8 (0 : Int32)) 396 9 (-1 : Int32)) 396 30 ((1 : Int32) - (gI (sI (sI (sI (sI (sI S 396 2 (gI S 396 1)) 396 1 (0 : Int32)) 396 5 (0 : Int32)) 396 8 (0 : Int32)) 396 9 (-1 : Int32)) 396 13))) 399 ((gI (sI (sI (sI (sI (sI (sI S 396 2 (gI S 396 1)) 396 1 (0 : Int32)) 396 5 (0 : Int32)) 396 8 (0 : Int32)) 396 9 (-1 : Int32)) 396 30 ((1 : Int32) - (gI (sI (sI (sI (sI (sI S 396 2 (gI S 396 1)) 396 1 (0 : Int32)) 396 5 (0 : Int32)) 396 8 (0 : Int32)) 396 9 (-1 : Int32)) 396 13))) 396 30)).toNatClampNeg (1 : Int32)) 396 30)).toNatClampNeg (10 : Int32)) 401 ((gI (sI (sI (sI (sI (sI (sI (sI (sI S 396 2 (gI S 396 1)) 396 1 (0 : Int32)) 396 5 (0 : Int32)) 396 8 (0 : Int32)) 396 9 (-1 : Int32)) 396 30 ((1 : Int32) - (gI (sI (sI (sI (sI (sI S 396 2 (gI S 396 1)) 396 1 (0 : Int32)) 396 5 (0 : Int32)) 396 8 (0 : Int32)) 396 9 (-1 : Int32)) 396 13))) 399 ((gI (sI (sI (sI (sI (sI (sI S 396 2 (gI S 396 1)) 396 1 (0 : Int32)) 396 5 (0 : Int32)) 396 8 (0 : Int32)) 396 9 (-1 : Int32)) 396 30 ((1 : Int32) - (gI (sI (sI (sI (sI (sI S 396 2 (gI S 396 1)) 396 1 (0 : Int32)) 396 5 (0 : Int32)) 396 8 (0 : Int32)) 396 9 (-1 : Int32)) 396 13))) 396 30)).toNatClampNeg (1 : Int32)) 400 ((gI (sI (sI (sI (sI (sI (sI (sI S 396 2 (gI S 396 1)) 396 1 (0 : Int32)) 396 5 (0 : Int32)) 396 8 (0 : Int32)) 396 9 (-1 : Int32)) 396 30 ((1 : Int32) - (gI (sI (sI (sI (sI (sI S 396 2 (gI S 396 1)) 396 1 (0 : Int32)) 396 5 (0 : Int32)) 396 8 (0 : Int32)) 396 9 (-1 : Int32)) 396 13))) 399 ((gI (sI (sI (sI (sI (sI (sI S 396 2 (gI S 396 1)) 396 1 (0 : Int32)) 396 5 (0 : Int32)) 396 8 (0 : Int32)) 396 9 (-1 : Int32)) 396 30 ((1 : Int32) - (gI (sI (sI (sI (sI (sI S 396 2 (gI S 396 1)) 396 1 (0 : Int32)) 396 5 (0 : Int32)) 396 8 (0 : Int32)) 396 9 (-1 : Int32)) 396 13))) 396 30)).toNatClampNeg (1 : Int32)) 396 30)).toNatClampNeg (10 : Int32)) 396 30)).toNatClampNeg (0 : Int32)) 402 ((gI (sI (sI (sI (sI (sI (sI (sI (sI (sI S 396 2 (gI S 396 1)) 396 1 (0 : Int32)) 396 5 (0 : Int32)) 396 8 (0 : Int32)) 396 9 (-1 : Int32)) 396 30 ((1 : Int32) - (gI (sI (sI (sI (sI (sI S 396 2 (gI S 396 1)) 396 1 (0 : Int32)) 396 5 (0 : Int32)) 396 8 (0 : Int32)) 396 9 (-1 : Int32)) 396 13))) 399 ((gI (sI (sI (sI (sI (sI (sI S 396 2 (gI S 396 1)) 396 1 (0 : Int32)) 396 5 (0 : Int32)) 396 8 (0 : Int32)) 396 9 (-1 : Int32)) 396 30 ((1 : Int32) - (gI (sI (sI (sI (sI (sI S 396 2 (gI S 396 1)) 396 1 (0 : Int32)) 396 5 (0 : Int32)) 396 8 (0 : Int32)) 396 9 (-1 : Int32)) 396 13))) 396 30)).toNatClampNeg (1 : Int32)) 400 ((gI (sI (sI (sI (sI (sI (sI (sI S 396 2 (gI S 396 1)) 396 1 (0 : Int32)) 396 5 (0 : Int32)) 396 8 (0 : Int32)) 396 9 (-1 : Int32)) 396 30 ((1 : Int32) - (gI (sI (sI (sI (sI (sI S 396 2 (gI S 396 1)) 396 1 (0 : Int32)) 396 5 (0 : Int32)) 396 8 (0 : Int32)) 396 9 (-1 : Int32)) 396 13))) 399 ((gI (sI (sI (sI (sI (sI (sI S 396 2 (gI S 396 1)) 396 1 (0 : Int32)) 396 5 (0 : Int32)) 396 8 (0 : Int32)) 396 9 (-1 : Int32)) 396 30 ((1 : Int32) - (gI (sI (sI (sI (sI (sI S 396 2 (gI S 396 1)) 396 1 (0 : Int32)) 396 5 (0 : Int32)) 396 8 (0 : Int32)) 396 9 (-1 : Int32)) 396 13))) 396 30)).toNatClampNeg (1 : Int32)) 396 30)).toNatClampNeg (10 : Int32)) 401 ((gI (sI (sI (sI (sI (sI (sI (sI (sI S 396 2 (gI S 396 1)) 396 1 (0 : Int32)) 396 5 (0 : Int32)) 396 8 (0 : Int32)) 396 9 (-1 : Int32)) 396 30 ((1 : Int32) - (gI (sI (sI (sI (sI (sI S 396 2 (gI S 396 1)) 396 1 (0 : Int32)) 396 5 (0 : Int32)) 396 8 (0 : Int32)) 396 9 (-1 : Int32)) 396 13))) 399 ((gI (sI (sI (sI (sI (sI (sI S 396 2 (gI S 396 1)) 396 1 (0 : Int32)) 396 5 (0 : Int32)) 396 8 (0 : Int32)) 396 9 (-1 : Int32)) 396 30 ((1 : Int32) - (gI (sI (sI (sI (sI (sI S 396 2 (gI S 396 1)) 396 1 (0 : Int32)) 396 5 (0 : Int32)) 396 8 (0 : Int32)) 396 9 (-1 : Int32)) 396 13))) 396 30)).toNatClampNeg (1 : Int32)) 400 ((gI (sI (sI (sI (sI (sI (sI (sI S 396 2 (gI S 396 1)) 396 1 (0 : Int32)) 396 5 (0 : Int32)) 396 8 (0 : Int32)) 396 9 (-1 : Int32)) 396 30 ((1 : Int32) - (gI (sI (sI (sI (sI (sI S 396 2 (gI S 396 1)) 396 1 (0 : Int32)) 396 5 (0 : Int32)) 396 8 (0 : Int32)) 396 9 (-1 : Int32)) 396 13))) 399 ((gI (sI (sI (sI (sI (sI (sI S 396 2 (gI S 396 1)) 396 1 (0 : Int32)) 396 5 (0 : Int32)) 396 8 (0 : Int32)) 396 9 (-1 : Int32)) 396 30 ((1 : Int32) - (gI (sI (sI (sI (sI (sI S 396 2 (gI S 396 1)) 396 1 (0 : Int32)) 396 5 (0 : Int32)) 396 8 (0 : Int32)) 396 9 (-1 : Int32)) 396 13))) 396 30)).toNatClampNeg (1 : Int32)) 396 30)).toNatClampNeg (10 : Int32)) 396 30)).toNatClampNeg (0 : Int32)) 396 30)).toNatClampNeg (0 : Int32)) 405 ((gI (sI (sI (sI (sI (sI (sI (sI (sI (sI (sI S 396 2 (gI S 396 1)) 396 1 (0 : Int32)) 396 5 (0 : Int32)) 396 8 (0 : Int32)) 396 9 (-1 : Int32)) 396 30 ((1 : Int32) - (gI (sI (sI (sI (sI (sI S 396 2 (gI S 396 1)) 396 1 (0 : Int32)) 396 5 (0 : Int32)) 396 8 (0 : Int32)) 396 9 (-1 : Int32)) 396 13))) 399 ((gI (sI (sI (sI (sI (sI (sI S 396 2 (gI S 396 1)) 396 1 (0 : Int32)) 396 5 (0 : Int32)) 396 8 (0 : Int32)) 396 9 (-1 : Int32)) 396 30 ((1 : Int32) - (gI (sI (sI (sI (sI (sI S 396 2 (gI S 396 1)) 396 1 (0 : Int32)) 396 5 (0 : Int32)) 396 8 (0 : Int32)) 396 9 (-1 : Int32)) 396 13))) 396 30)).toNatClampNeg (1 : Int32)) 400 ((gI (sI (sI (sI (sI (sI (sI (sI S 396 2 (gI S 396 1)) 396 1 (0 : Int32)) 396 5 (0 : Int32)) 396 8 (0 : Int32)) 396 9 (-1 : Int32)) 396 30 ((1 : Int32) - (gI (sI (sI (sI (sI (sI S 396 2 (gI S 396 1)) 396 1 (0 : Int32)) 396 5 (0 : Int32)) 396 8 (0 : Int32)) 396 9 (-1 : Int32)) 396 13))) 399 ((gI (sI (sI (sI (sI (sI (sI S 396 2 (gI S 396 1)) 396 1 (0 : Int32)) 396 5 (0 : Int32)) 396 8 (0 : Int32)) 396 9 (-1 : Int32)) 396 30 ((1 : Int32) - (gI (sI (sI (sI (sI (sI S 396 2 (gI S 396 1)) 396 1 (0 : Int32)) 396 5 (0 : Int32)) 396 8 (0 : Int32)) 396 9 (-1 : Int32)) 396 13))) 396 30)).toNatClampNeg (1 : Int32)) 396 30)).toNatClampNeg (10 : Int32)) 401 ((gI (sI (sI (sI (sI (sI (sI (sI (sI S 396 2 (gI S 396 1)) 396 1 (0 : Int32)) 396 5 (0 : Int32)) 396 8 (0 : Int32)) 396 9 (-1 : Int32)) 396 30 ((1 : Int32) - (gI (sI (sI (sI (sI (sI S 396 2 (gI S 396 1)) 396 1 (0 : Int32)) 396 5 (0 : Int32)) 396 8 (0 : Int32)) 396 9 (-1 : Int32)) 396 13))) 399 ((gI (sI (sI (sI (sI (sI (sI S 396 2 (gI S 396 1)) 396 1 (0 : Int32)) 396 5 (0 : Int32)) 396 8 (0 : Int32)) 396 9 (-1 : Int32)) 396 30 ((1 : Int32) - (gI (sI (sI (sI (sI (sI S 396 2 (gI S 396 1)) 396 1 (0 : Int32)) 396 5 (0 : Int32)) 396 8 (0 : Int32)) 396 9 (-1 : Int32)) 396 13))) 396 30)).toNatClampNeg (1 : Int32)) 400 ((gI (sI (sI (sI (sI (sI (sI (sI S 396 2 (gI S 396 1)) 396 1 (0 : Int32)) 396 5 (0 : Int32)) 396 8 (0 : Int32)) 396 9 (-1 : Int32)) 396 30 ((1 : Int32) - (gI (sI (sI (sI (sI (sI S 396 2 (gI S 396 1)) 396 1 (0 : Int32)) 396 5 (0 : Int32)) 396 8 (0 : Int32)) 396 9 (-1 : Int32)) 396 13))) 399 ((gI (sI (sI (sI (sI (sI (sI S 396 2 (gI S 396 1)) 396 1 (0 : Int32)) 396 5 (0 : Int32)) 396 8 (0 : Int32)) 396 9 (-1 : Int32)) 396 30 ((1 : Int32) - (gI (sI (sI (sI (sI (sI S 396 2 (gI S 396 1)) 396 1 (0 : Int32)) 396 5 (0 : Int32)) 396 8 (0 : Int32)) 396 9 (-1 : Int32)) 396 13))) 396 30)).toNatClampNeg (1 : Int32)) 396 30)).toNatClampNeg (10 : Int32)) 396 30)).toNatClampNeg (0 : Int32)) 402 ((gI (sI (sI (sI (sI (sI (sI (sI (sI (sI S 396 2 (gI S 396 1)) 396 1 (0 : Int32)) 396 5 (0 : Int32)) 396 8 (0 : Int32)) 396 9 (-1 : Int32)) 396 30 ((1 : Int32) - (gI (sI (sI (sI (sI (sI S 396 2 (gI S 396 1)) 396 1 (0 : Int32)) 396 5 (0 : Int32)) 396 8 (0 : Int32)) 396 9 (-1 : Int32)) 396 13))) 399 ((gI (sI (sI (sI (sI (sI (sI S 396 2 (gI S 396 1)) 396 1 (0 : Int32)) 396 5 (0 : Int32)) 396 8 (0 : Int32)) 396 9 (-1 : Int32)) 396 30 ((1 : Int32) - (gI (sI (sI (sI (sI (sI S 396 2 (gI S 396 1)) 396 1 (0 : Int32)) 396 5 (0 : Int32)) 396 8 (0 : Int32)) 396 9 (-1 : Int32)) 396 13))) 396 30)).toNatClampNeg (1 : Int32)) 400 ((gI (sI (sI (sI (sI (sI (sI (sI S 396 2 (gI S 396 1)) 396 1 (0 : Int32)) 396 5 (0 : Int32)) 396 8 (0 : Int32)) 396 9 (-1 : Int32)) 396 30 ((1 : Int32) - (gI (sI (sI (sI (sI (sI S 396 2 (gI S 396 1)) 396 1 (0 : Int32)) 396 5 (0 : Int32)) 396 8 (0 : Int32)) 396 9 (-1 : Int32)) 396 13))) 399 ((gI (sI (sI (sI (sI (sI (sI S 396 2 (gI S 396 1)) 396 1 (0 : Int32)) 396 5 (0 : Int32)) 396 8 (0 : Int32)) 396 9 (-1 : Int32)) 396 30 ((1 : Int32) - (gI (sI (sI (sI (sI (sI S 396 2 (gI S 396 1)) 396 1 (0 : Int32)) 396 5 (0 : Int32)) 396 8 (0 : Int32)) 396 9 (-1 : Int32)) 396 13))) 396 30)).toNatClampNeg (1 : Int32)) 396 30)).toNatClampNeg (10 : Int32)) 401 ((gI (sI (sI (sI (sI (sI (sI (sI (sI S 396 2 (gI S 396 1)) 396 1 (0 : Int32)) 396 5 (0 : Int32)) 396 8 (0 : Int32)) 396 9 (-1 : Int32)) 396 30 ((1 : Int32) - (gI (sI (sI (sI (sI (sI S 396 2 (gI S 396 1)) 396 1 (0 : Int32)) 396 5 (0 : Int32)) 396 8 (0 : Int32)) 396 9 (-1 : Int32)) 396 13))) 399 ((gI (sI (sI (sI (sI (sI (sI S 396 2 (gI S 396 1)) 396 1 (0 : Int32)) 396 5 (0 : Int32)) 396 8 (0 : Int32)) 396 9 (-1 : Int32)) 396 30 ((1 : Int32) - (gI (sI (sI (sI (sI (sI S 396 2 (gI S 396 1)) 396 1 (0 : Int32)) 396 5 (0 : Int32)) 396 8 (0 : Int32)) 396 9 (-1 : Int32)) 396 13))) 396 30)).toNatClampNeg (1 : Int32)) 400 ((gI (sI (sI (sI (sI (sI (sI (sI S 396 2 (gI S 396 1)) 396 1 (0 : Int32)) 396 5 (0 : Int32)) 396 8 (0 : Int32)) 396 9 (-1 : Int32)) 396 30 ((1 : Int32) - (gI (sI (sI (sI (sI (sI S 396 2 (gI S 396 1)) 396 1 (0 : Int32)) 396 5 (0 : Int32)) 396 8 (0 : Int32)) 396 9 (-1 : Int32)) 396 13))) 399 ((gI (sI (sI (sI (sI (sI (sI S 396 2 (gI S 396 1)) 396 1 (0 : Int32)) 396 5 (0 : Int32)) 396 8 (0 : Int32)) 396 9 (-1 : Int32)) 396 30 ((1 : Int32) - (gI (sI (sI (sI (sI (sI S 396 2 (gI S 396 1)) 396 1 (0 : Int32)) 396 5 (0 : Int32)) 396 8 (0 : Int32)) 396 9 (-1 : Int32)) 396 13))) 396 30)).toNatClampNeg (1 : Int32)) 396 30)).toNatClampNeg (10 : Int32)) 396 30)).toNatClampNeg (0 : Int32)) 396 30)).toNatClampNeg (0 : Int32)) 396 30)).toNatClampNeg (0 : Int32)) 407 ((gI (sI (sI (sI (sI (sI (sI (sI (sI (sI (sI (sI S 396 2 (gI S 396 1)) 396 1 (0 : Int32)) 396 5 (0 : Int32)) 396 8 (0 : Int32)) 396 9 (-1 : Int32)) 396 30 ((1 : Int32) - (gI (sI (sI (sI (sI (sI S 396 2 (gI S 396 1)) 396 1 (0 : Int32)) 396 5 (0 : Int32)) 396 8 (0 : Int32)) 396 9 (-1 : Int32)) 396 13))) 399 ((gI (sI (sI (sI (sI (sI (sI S 396 2 (gI S 396 1)) 396 1 (0 : Int32)) 396 5 (0 : Int32)) 396 8 (0 : Int32)) 396 9 (-1 : Int32)) 396 30 ((1 : Int32) - (gI (sI (sI (sI (sI (sI S 396 2 (gI S 396 1)) 396 1 (0 : Int32)) 396 5 (0 : Int32)) 396 8 (0 : Int32)) 396 9 (-1 : Int32)) 396 13))) 396 30)).toNatClampNeg (1 : Int32)) 400 ((gI (sI (sI (sI (sI (sI (sI (sI S 396 2 (gI S 396 1)) 396 1 (0 : Int32)) 396 5 (0 : Int32)) 396 8 (0 : Int32)) 396 9 (-1 : Int32)) 396 30 ((1 : Int32) - (gI (sI (sI (sI (sI (sI S 396 2 (gI S 396 1)) 396 1 (0 : Int32)) 396 5 (0 : Int32)) 396 8 (0 : Int32)) 396 9 (-1 : Int32)) 396 13))) 399 ((gI (sI (sI (sI (sI (sI (sI S 396 2 (gI S 396 1)) 396 1 (0 : Int32)) 396 5 (0 : Int32)) 396 8 (0 : Int32)) 396 9 (-1 : Int32)) 396 30 ((1 : Int32) - (gI (sI (sI (sI (sI (sI S 396 2 (gI S 396 1)) 396 1 (0 : Int32)) 396 5 (0 : Int32)) 396 8 (0 : Int32)) 396 9 (-1 : Int32)) 396 13))) 396 30)).toNatClampNeg (1 : Int32)) 396 30)).toNatClampNeg (10 : Int32)) 401 ((gI (sI (sI (sI (sI (sI (sI (sI (sI S 396 2 (gI S 396 1)) 396 1 (0 : Int32)) 396 5 (0 : Int32)) 396 8 (0 : Int32)) 396 9 (-1 : Int32)) 396 30 ((1 : Int32) - (gI (sI (sI (sI (sI (sI S 396 2 (gI S 396 1)) 396 1 (0 : Int32)) 396 5 (0 : Int32)) 396 8 (0 : Int32)) 396 9 (-1 : Int32)) 396 13))) 399 ((gI (sI (sI (sI (sI (sI (sI S 396 2 (gI S 396 1)) 396 1 (0 : Int32)) 396 5 (0 : Int32)) 396 8 (0 : Int32)) 396 9 (-1 : Int32)) 396 30 ((1 : Int32) - (gI (sI (sI (sI (sI (sI S 396 2 (gI S 396 1)) 396 1 (0 : Int32)) 396 5 (0 : Int32)) 396 8 (0 : Int32)) 396 9 (-1 : Int32)) 396 13))) 396 30)).toNatClampNeg (1 : Int32)) 400 ((gI (sI (sI (sI (sI (sI (sI (sI S 396 2 (gI S 396 1)) 396 1 (0 : Int32)) 396 5 (0 : Int32)) 396 8 (0 : Int32)) 396 9 (-1 : Int32)) 396 30 ((1 : Int32) - (gI (sI (sI (sI (sI (sI S 396 2 (gI S 396 1)) 396 1 (0 : Int32)) 396 5 (0 : Int32)) 396 8 (0 : Int32)) 396 9 (-1 : Int32)) 396 13))) 399 ((gI (sI (sI (sI (sI (sI (sI S 396 2 (gI S 396 1)) 396 1 (0 : Int32)) 396 5 (0 : Int32)) 396 8 (0 : Int32)) 396 9 (-1 : Int32)) 396 30 ((1 : Int32) - (gI (sI (sI (sI (sI (sI S 396 2 (gI S 396 1)) 396 1 (0 : Int32)) 396 5 (0 : Int32)) 396 8 (0 : Int32)) 396 9 (-1 : Int32)) 396 13))) 396 30)).toNatClampNeg (1 : Int32)) 396 30)).toNatClampNeg (10 : Int32)) 396 30)).toNatClampNeg (0 : Int32)) 402 ((gI (sI (sI (sI (sI (sI (sI (sI (sI (sI S 396 2 (gI S 396 1)) 396 1 (0 : Int32)) 396 5 (0 : Int32)) 396 8 (0 : Int32)) 396 9 (-1 : Int32)) 396 30 ((1 : Int32) - (gI (sI (sI (sI (sI (sI S 396 2 (gI S 396 1)) 396 1 (0 : Int32)) 396 5 (0 : Int32)) 396 8 (0 : Int32)) 396 9 (-1 : Int32)) 396 13))) 399 ((gI (sI (sI (sI (sI (sI (sI S 396 2 (gI S 396 1)) 396 1 (0 : Int32)) 396 5 (0 : Int32)) 396 8 (0 : Int32)) 396 9 (-1 : Int32)) 396 30 ((1 : Int32) - (gI (sI (sI (sI (sI (sI S 396 2 (gI S 396 1)) 396 1 (0 : Int32)) 396 5 (0 : Int32)) 396 8 (0 : Int32)) 396 9 (-1 : Int32)) 396 13))) 396 30)).toNatClampNeg (1 : Int32)) 400 ((gI (sI (sI (sI (sI (sI (sI (sI S 396 2 (gI S 396 1)) 396 1 (0 : Int32)) 396 5 (0 : Int32)) 396 8 (0 : Int32)) 396 9 (-1 : Int32)) 396 30 ((1 : Int32) - (gI (sI (sI (sI (sI (sI S 396 2 (gI S 396 1)) 396 1 (0 : Int32)) 396 5 (0 : Int32)) 396 8 (0 : Int32)) 396 9 (-1 : Int32)) 396 13))) 399 ((gI (sI (sI (sI (sI (sI (sI S 396 2 (gI S 396 1)) 396 1 (0 : Int32)) 396 5 (0 : Int32)) 396 8 (0 : Int32)) 396 9 (-1 : Int32)) 396 30 ((1 : Int32) - (gI (sI (sI (sI (sI (sI S 396 2 (gI S 396 1)) 396 1 (0 : Int32)) 396 5 (0 : Int32)) 396 8 (0 : Int32)) 396 9 (-1 : Int32)) 396 13))) 396 30)).toNatClampNeg (1 : Int32)) 396 30)).toNatClampNeg (10 : Int32)) 401 ((gI (sI (sI (sI (sI (sI (sI (sI (sI S 396 2 (gI S 396 1)) 396 1 (0 : Int32)) 396 5 (0 : Int32)) 396 8 (0 : Int32)) 396 9 (-1 : Int32)) 396 30 ((1 : Int32) - (gI (sI (sI (sI (sI (sI S 396 2 (gI S 396 1)) 396 1 (0 : Int32)) 396 5 (0 : Int32)) 396 8 (0 : Int32)) 396 9 (-1 : Int32)) 396 13))) 399 ((gI (sI (sI (sI (sI (sI (sI S 396 2 (gI S 396 1)) 396 1 (0 : Int32)) 396 5 (0 : Int32)) 396 8 (0 : Int32)) 396 9 (-1 : Int32)) 396 30 ((1 : Int32) - (gI (sI (sI (sI (sI (sI S 396 2 (gI S 396 1)) 396 1 (0 : Int32)) 396 5 (0 : Int32)) 396 8 (0 : Int32)) 396 9 (-1 : Int32)) 396 13))) 396 30)).toNatClampNeg (1 : Int32)) 400 ((gI (sI (sI (sI (sI (sI (sI (sI S 396 2 (gI S 396 1)) 396 1 (0 : Int32)) 396 5 (0 : Int32)) 396 8 (0 : Int32)) 396 9 (-1 : Int32)) 396 30 ((1 : Int32) - (gI (sI (sI (sI (sI (sI S 396 2 (gI S 396 1)) 396 1 (0 : Int32)) 396 5 (0 : Int32)) 396 8 (0 : Int32)) 396 9 (-1 : Int32)) 396 13))) 399 ((gI (sI (sI (sI (sI (sI (sI S 396 2 (gI S 396 1)) 396 1 (0 : Int32)) 396 5 (0 : Int32)) 396 8 (0 : Int32)) 396 9 (-1 : Int32)) 396 30 ((1 : Int32) - (gI (sI (sI (sI (sI (sI S 396 2 (gI S 396 1)) 396 1 (0 : Int32)) 396 5 (0 : Int32)) 396 8 (0 : Int32)) 396 9 (-1 : Int32)) 396 13))) 396 30)).toNatClampNeg (1 : Int32)) 396 30)).toNatClampNeg (10 : Int32)) 396 30)).toNatClampNeg (0 : Int32)) 396 30)).toNatClampNeg (0 : Int32)) 405 ((gI (sI (sI (sI (sI (sI (sI (sI (sI (sI (sI S 396 2 (gI S 396 1)) 396 1 (0 : Int32)) 396 5 (0 : Int32)) 396 8 (0 : Int32)) 396 9 (-1 : Int32)) 396 30 ((1 : Int32) - (gI (sI (sI (sI (sI (sI S 396 2 (gI S 396 1)) 396 1 (0 : Int32)) 396 5 (0 : Int32)) 396 8 (0 : Int32)) 396 9 (-1 : Int32)) 396 13))) 399 ((gI (sI (sI (sI (sI (sI (sI S 396 2 (gI S 396 1)) 396 1 (0 : Int32)) 396 5 (0 : Int32)) 396 8 (0 : Int32)) 396 9 (-1 : Int32)) 396 30 ((1 : Int32) - (gI (sI (sI (sI (sI (sI S 396 2 (gI S 396 1)) 396 1 (0 : Int32)) 396 5 (0 : Int32)) 396 8 (0 : Int32)) 396 9 (-1 : Int32)) 396 13))) 396 30)).toNatClampNeg (1 : Int32)) 400 ((gI (sI (sI (sI (sI (sI (sI (sI S 396 2 (gI S 396 1)) 396 1 (0 : Int32)) 396 5 (0 : Int32)) 396 8 (0 : Int32)) 396 9 (-1 : Int32)) 396 30 ((1 : Int32) - (gI (sI (sI (sI (sI (sI S 396 2 (gI S 396 1)) 396 1 (0 : Int32)) 396 5 (0 : Int32)) 396 8 (0 : Int32)) 396 9 (-1 : Int32)) 396 13))) 399 ((gI (sI (sI (sI (sI (sI (sI S 396 2 (gI S 396 1)) 396 1 (0 : Int32)) 396 5 (0 : Int32)) 396 8 (0 : Int32)) 396 9 (-1 : Int32)) 396 30 ((1 : Int32) - (gI (sI (sI (sI (sI (sI S 396 2 (gI S 396 1)) 396 1 (0 : Int32)) 396 5 (0 : Int32)) 396 8 (0 : Int32)) 396 9 (-1 : Int32)) 396 13))) 396 30)).toNatClampNeg (1 : Int32)) 396 30)).toNatClampNeg (10 : Int32)) 401 ((gI (sI (sI (sI (sI (sI (sI (sI (sI S 396 2 (gI S 396 1)) 396 1 (0 : Int32)) 396 5 (0 : Int32)) 396 8 (0 : Int32)) 396 9 (-1 : Int32)) 396 30 ((1 : Int32) - (gI (sI (sI (sI (sI (sI S 396 2 (gI S 396 1)) 396 1 (0 : Int32)) 396 5 (0 : Int32)) 396 8 (0 : Int32)) 396 9 (-1 : Int32)) 396 13))) 399 ((gI (sI (sI (sI (sI (sI (sI S 396 2 (gI S 396 1)) 396 1 (0 : Int32)) 396 5 (0 : Int32)) 396 8 (0 : Int32)) 396 9 (-1 : Int32)) 396 30 ((1 : Int32) - (gI (sI (sI (sI (sI (sI S 396 2 (gI S 396 1)) 396 1 (0 : Int32)) 396 5 (0 : Int32)) 396 8 (0 : Int32)) 396 9 (-1 : Int32)) 396 13))) 396 30)).toNatClampNeg (1 : Int32)) 400 ((gI (sI (sI (sI (sI (sI (sI (sI S 396 2 (gI S 396 1)) 396 1 (0 : Int32)) 396 5 (0 : Int32)) 396 8 (0 : Int32)) 396 9 (-1 : Int32)) 396 30 ((1 : Int32) - (gI (sI (sI (sI (sI (sI S 396 2 (gI S 396 1)) 396 1 (0 : Int32)) 396 5 (0 : Int32)) 396 8 (0 : Int32)) 396 9 (-1 : Int32)) 396 13))) 399 ((gI (sI (sI (sI (sI (sI (sI S 396 2 (gI S 396 1)) 396 1 (0 : Int32)) 396 5 (0 : Int32)) 396 8 (0 : Int32)) 396 9 (-1 : Int32)) 396 30 ((1 : Int32) - (gI (sI (sI (sI (sI (sI S 396 2 (gI S 396 1)) 396 1 (0 : Int32)) 396 5 (0 : Int32)) 396 8 (0 : Int32)) 396 9 (-1 : Int32)) 396 13))) 396 30)).toNatClampNeg (1 : Int32)) 396 30)).toNatClampNeg (10 : Int32)) 396 30)).toNatClampNeg (0 : Int32)) 402 ((gI (sI (sI (sI (sI (sI (sI (sI (sI (sI S 396 2 (gI S 396 1)) 396 1 (0 : Int32)) 396 5 (0 : Int32)) 396 8 (0 : Int32)) 396 9 (-1 : Int32)) 396 30 ((1 : Int32) - (gI (sI (sI (sI (sI (sI S 396 2 (gI S 396 1)) 396 1 (0 : Int32)) 396 5 (0 : Int32)) 396 8 (0 : Int32)) 396 9 (-1 : Int32)) 396 13))) 399 ((gI (sI (sI (sI (sI (sI (sI S 396 2 (gI S 396 1)) 396 1 (0 : Int32)) 396 5 (0 : Int32)) 396 8 (0 : Int32)) 396 9 (-1 : Int32)) 396 30 ((1 : Int32) - (gI (sI (sI (sI (sI (sI S 396 2 (gI S 396 1)) 396 1 (0 : Int32)) 396 5 (0 : Int32)) 396 8 (0 : Int32)) 396 9 (-1 : Int32)) 396 13))) 396 30)).toNatClampNeg (1 : Int32)) 400 ((gI (sI (sI (sI (sI (sI (sI (sI S 396 2 (gI S 396 1)) 396 1 (0 : Int32)) 396 5 (0 : Int32)) 396 8 (0 : Int32)) 396 9 (-1 : Int32)) 396 30 ((1 : Int32) - (gI (sI (sI (sI (sI (sI S 396 2 (gI S 396 1)) 396 1 (0 : Int32)) 396 5 (0 : Int32)) 396 8 (0 : Int32)) 396 9 (-1 : Int32)) 396 13))) 399 ((gI (sI (sI (sI (sI (sI (sI S 396 2 (gI S 396 1)) 396 1 (0 : Int32)) 396 5 (0 : Int32)) 396 8 (0 : Int32)) 396 9 (-1 : Int32)) 396 30 ((1 : Int32) - (gI (sI (sI (sI (sI (sI S 396 2 (gI S 396 1)) 396 1 (0 : Int32)) 396 5 (0 : Int32)) 396 8 (0 : Int32)) 396 9 (-1 : Int32)) 396 13))) 396 30)).toNatClampNeg (1 : Int32)) 396 30)).toNatClampNeg (10 : Int32)) 401 ((gI (sI (sI (sI (sI (sI (sI (sI (sI S 396 2 (gI S 396 1)) 396 1 (0 : Int32)) 396 5 (0 : Int32)) 396 8 (0 : Int32)) 396 9 (-1 : Int32)) 396 30 ((1 : Int32) - (gI (sI (sI (sI (sI (sI S 396 2 (gI S 396 1)) 396 1 (0 : Int32)) 396 5 (0 : Int32)) 396 8 (0 : Int32)) 396 9 (-1 : Int32)) 396 13))) 399 ((gI (sI (sI (sI (sI (sI (sI S 396 2 (gI S 396 1)) 396 1 (0 : Int32)) 396 5 (0 : Int32)) 396 8 (0 : Int32)) 396 9 (-1 : Int32)) 396 30 ((1 : Int32) - (gI (sI (sI (sI (sI (sI S 396 2 (gI S 396 1)) 396 1 (0 : Int32)) 396 5 (0 : Int32)) 396 8 (0 : Int32)) 396 9 (-1 : Int32)) 396 13))) 396 30)).toNatClampNeg (1 : Int32)) 400 ((gI (sI (sI (sI (sI (sI (sI (sI S 396 2 (gI S 396 1)) 396 1 (0 : Int32)) 396 5 (0 : Int32)) 396 8 (0 : Int32)) 396 9 (-1 : Int32)) 396 30 ((1 : Int32) - (gI (sI (sI (sI (sI (sI S 396 2 (gI S 396 1)) 396 1 (0 : Int32)) 396 5 (0 : Int32)) 396 8 (0 : Int32)) 396 9 (-1 : Int32)) 396 13))) 399 ((gI (sI (sI (sI (sI (sI (sI S 396 2 (gI S 396 1)) 396 1 (0 : Int32)) 396 5 (0 : Int32)) 396 8 (0 : Int32)) 396 9 (-1 : Int32)) 396 30 ((1 : Int32) - (gI (sI (sI (sI (sI (sI S 396 2 (gI S 396 1)) 396 1 (0 : Int32)) 396 5 (0 : Int32)) 396 8 (0 : Int32)) 396 9 (-1 : Int32)) 396 13))) 396 30)).toNatClampNeg (1 : Int32)) 396 30)).toNatClampNeg (10 : Int32)) 396 30)).toNatClampNeg (0 : Int32)) 396 30)).toNatClampNeg (0 : Int32)) 396 30)).toNatClampNeg (0 : Int32)) 396 30)).toNatClampNeg (0 : Int32)) 396 30)) (sI (sI (sI (sI (sI (sI (sI (sI (sI (sI (sI (sI S 396 2 (gI S 396 1)) 396 1 (0 : Int32)) 396 5 (0 : Int32)) 396 8 (0 : Int32)) 396 9 (-1 : Int32)) 396 30 ((1 : Int32) - (gI (sI (sI (sI (sI (sI S 396 2 (gI S 396 1)) 396 1 (0 : Int32)) 396 5 (0 : Int32)) 396 8 (0 : Int32)) 396 9 (-1 : Int32)) 396 13))) 399 ((gI (sI (sI (sI (sI (sI (sI S 396 2 (gI S 396 1)) 396 1 (0 : Int32)) 396 5 (0 : Int32)) 396 8 (0 : Int32)) 396 9 (-1 : Int32)) 396 30 ((1 : Int32) - (gI (sI (sI (sI (sI (sI S 396 2 (gI S 396 1)) 396 1 (0 : Int32)) 396 5 (0 : Int32)) 396 8 (0 : Int32)) 396 9 (-1 : Int32)) 396 13))) 396 30)).toNatClampNeg (1 : Int32)) 400 ((gI (sI (sI (sI (sI (sI (sI (sI S 396 2 (gI S 396 1)) 396 1 (0 : Int32)) 396 5 (0 : Int32)) 396 8 (0 : Int32)) 396 9 (-1 : Int32)) 396 30 ((1 : Int32) - (gI (sI (sI (sI (sI (sI S 396 2 (gI S 396 1)) 396 1 (0 : Int32)) 396 5 (0 : Int32)) 396 8 (0 : Int32)) 396 9 (-1 : Int32)) 396 13))) 399 ((gI (sI (sI (sI (sI (sI (sI S 396 2 (gI S 396 1)) 396 1 (0 : Int32)) 396 5 (0 : Int32)) 396 8 (0 : Int32)) 396 9 (-1 : Int32)) 396 30 ((1 : Int32) - (gI (sI (sI (sI (sI (sI S 396 2 (gI S 396 1)) 396 1 (0 : Int32)) 396 5 (0 : Int32)) 396 8 (0 : Int32)) 396 9 (-1 : Int32)) 396 13))) 396 30)).toNatClampNeg (1 : Int32)) 396 30)).toNatClampNeg (10 : Int32)) 401 ((gI (sI (sI (sI (sI (sI (sI (sI (sI S 396 2 (gI S 396 1)) 396 1 (0 : Int32)) 396 5 (0 : Int32)) 396 8 (0 : Int32)) 396 9 (-1 : Int32)) 396 30 ((1 : Int32) - (gI (sI (sI (sI (sI (sI S 396 2 (gI S 396 1)) 396 1 (0 : Int32)) 396 5 (0 : Int32)) 396 8 (0 : Int32)) 396 9 (-1 : Int32)) 396 13))) 399 ((gI (sI (sI (sI (sI (sI (sI S 396 2 (gI S 396 1)) 396 1 (0 : Int32)) 396 5 (0 : Int32)) 396 8 (0 : Int32)) 396 9 (-1 : Int32)) 396 30 ((1 : Int32) - (gI (sI (sI (sI (sI (sI S 396 2 (gI S 396 1)) 396 1 (0 : Int32)) 396 5 (0 : Int32)) 396 8 (0 : Int32)) 396 9 (-1 : Int32)) 396 13))) 396 30)).toNatClampNeg (1 : Int32)) 400 ((gI (sI (sI (sI (sI (sI (sI (sI S 396 2 (gI S 396 1)) 396 1 (0 : Int32)) 396 5 (0 : Int32)) 396 8 (0 : Int32)) 396 9 (-1 : Int32)) 396 30 ((1 : Int32) - (gI (sI (sI (sI (sI (sI S 396 2 (gI S 396 1)) 396 1 (0 : Int32)) 396 5 (0 : Int32)) 396 8 (0 : Int32)) 396 9 (-1 : Int32)) 396 13))) 399 ((gI (sI (sI (sI (sI (sI (sI S 396 2 (gI S 396 1)) 396 1 (0 : Int32)) 396 5 (0 : Int32)) 396 8 (0 : Int32)) 396 9 (-1 : Int32)) 396 30 ((1 : Int32) - (gI (sI (sI (sI (sI (sI S 396 2 (gI S 396 1)) 396 1 (0 : Int32)) 396 5 (0 : Int32)) 396 8 (0 : Int32)) 396 9 (-1 : Int32)) 396 13))) 396 30)).toNatClampNeg (1 : Int32)) 396 30)).toNatClampNeg (10 : Int32)) 396 30)).toNatClampNeg (0 : Int32)) 402 ((gI (sI (sI (sI (sI (sI (sI (sI (sI (sI S 396 2 (gI S 396 1)) 396 1 (0 : Int32)) 396 5 (0 : Int32)) 396 8 (0 : Int32)) 396 9 (-1 : Int32)) 396 30 ((1 : Int32) - (gI (sI (sI (sI (sI (sI S 396 2 (gI S 396 1)) 396 1 (0 : Int32)) 396 5 (0 : Int32)) 396 8 (0 : Int32)) 396 9 (-1 : Int32)) 396 13))) 399 ((gI (sI (sI (sI (sI (sI (sI S 396 2 (gI S 396 1)) 396 1 (0 : Int32)) 396 5 (0 : Int32)) 396 8 (0 : Int32)) 396 9 (-1 : Int32)) 396 30 ((1 : Int32) - (gI (sI (sI (sI (sI (sI S 396 2 (gI S 396 1)) 396 1 (0 : Int32)) 396 5 (0 : Int32)) 396 8 (0 : Int32)) 396 9 (-1 : Int32)) 396 13))) 396 30)).toNatClampNeg (1 : Int32)) 400 ((gI (sI (sI (sI (sI (sI (sI (sI S 396 2 (gI S 396 1)) 396 1 (0 : Int32)) 396 5 (0 : Int32)) 396 8 (0 : Int32)) 396 9 (-1 : Int32)) 396 30 ((1 : Int32) - (gI (sI (sI (sI (sI (sI S 396 2 (gI S 396 1)) 396 1 (0 : Int32)) 396 5 (0 : Int32)) 396 8 (0 : Int32)) 396 9 (-1 : Int32)) 396 13))) 399 ((gI (sI (sI (sI (sI (sI (sI S 396 2 (gI S 396 1)) 396 1 (0 : Int32)) 396 5 (0 : Int32)) 396 8 (0 : Int32)) 396 9 (-1 : Int32)) 396 30 ((1 : Int32) - (gI (sI (sI (sI (sI (sI S 396 2 (gI S 396 1)) 396 1 (0 : Int32)) 396 5 (0 : Int32)) 396 8 (0 : Int32)) 396 9 (-1 : Int32)) 396 13))) 396 30)).toNatClampNeg (1 : Int32)) 396 30)).toNatClampNeg (10 : Int32)) 401 ((gI (sI (sI (sI (sI (sI (sI (sI (sI S 396 2 (gI S 396 1)) 396 1 (0 : Int32)) 396 5 (0 : Int32)) 396 8 (0 : Int32)) 396 9 (-1 : Int32)) 396 30 ((1 : Int32) - (gI (sI (sI (sI (sI (sI S 396 2 (gI S 396 1)) 396 1 (0 : Int32)) 396 5 (0 : Int32)) 396 8 (0 : Int32)) 396 9 (-1 : Int32)) 396 13))) 399 ((gI (sI (sI (sI (sI (sI (sI S 396 2 (gI S 396 1)) 396 1 (0 : Int32)) 396 5 (0 : Int32)) 396 8 (0 : Int32)) 396 9 (-1 : Int32)) 396 30 ((1 : Int32) - (gI (sI (sI (sI (sI (sI S 396 2 (gI S 396 1)) 396 1 (0 : Int32)) 396 5 (0 : Int32)) 396 8 (0 : Int32)) 396 9 (-1 : Int32)) 396 13))) 396 30)).toNatClampNeg (1 : Int32)) 400 ((gI (sI (sI (sI (sI (sI (sI (sI S 396 2 (gI S 396 1)) 396 1 (0 : Int32)) 396 5 (0 : Int32)) 396 8 (0 : Int32)) 396 9 (-1 : Int32)) 396 30 ((1 : Int32) - (gI (sI (sI (sI (sI (sI S 396 2 (gI S 396 1)) 396 1 (0 : Int32)) 396 5 (0 : Int32)) 396 8 (0 : Int32)) 396 9 (-1 : Int32)) 396 13))) 399 ((gI (sI (sI (sI (sI (sI (sI S 396 2 (gI S 396 1)) 396 1 (0 : Int32)) 396 5 (0 : Int32)) 396 8 (0 : Int32)) 396 9 (-1 : Int32)) 396 30 ((1 : Int32) - (gI (sI (sI (sI (sI (sI S 396 2 (gI S 396 1)) 396 1 (0 : Int32)) 396 5 (0 : Int32)) 396 8 (0 : Int32)) 396 9 (-1 : Int32)) 396 13))) 396 30)).toNatClampNeg (1 : Int32)) 396 30)).toNatClampNeg (10 : Int32)) 396 30)).toNatClampNeg (0 : Int32)) 396 30)).toNatClampNeg (0 : Int32)) 405 ((gI (sI (sI (sI (sI (sI (sI (sI (sI (sI (sI S 396 2 (gI S 396 1)) 396 1 (0 : Int32)) 396 5 (0 : Int32)) 396 8 (0 : Int32)) 396 9 (-1 : Int32)) 396 30 ((1 : Int32) - (gI (sI (sI (sI (sI (sI S 396 2 (gI S 396 1)) 396 1 (0 : Int32)) 396 5 (0 : Int32)) 396 8 (0 : Int32)) 396 9 (-1 : Int32)) 396 13))) 399 ((gI (sI (sI (sI (sI (sI (sI S 396 2 (gI S 396 1)) 396 1 (0 : Int32)) 396 5 (0 : Int32)) 396 8 (0 : Int32)) 396 9 (-1 : Int32)) 396 30 ((1 : Int32) - (gI (sI (sI (sI (sI (sI S 396 2 (gI S 396 1)) 396 1 (0 : Int32)) 396 5 (0 : Int32)) 396 8 (0 : Int32)) 396 9 (-1 : Int32)) 396 13))) 396 30)).toNatClampNeg (1 : Int32)) 400 ((gI (sI (sI (sI (sI (sI (sI (sI S 396 2 (gI S 396 1)) 396 1 (0 : Int32)) 396 5 (0 : Int32)) 396 8 (0 : Int32)) 396 9 (-1 : Int32)) 396 30 ((1 : Int32) - (gI (sI (sI (sI (sI (sI S 396 2 (gI S 396 1)) 396 1 (0 : Int32)) 396 5 (0 : Int32)) 396 8 (0 : Int32)) 396 9 (-1 : Int32)) 396 13))) 399 ((gI (sI (sI (sI (sI (sI (sI S 396 2 (gI S 396 1)) 396 1 (0 : Int32)) 396 5 (0 : Int32)) 396 8 (0 : Int32)) 396 9 (-1 : Int32)) 396 30 ((1 : Int32) - (gI (sI (sI (sI (sI (sI S 396 2 (gI S 396 1)) 396 1 (0 : Int32)) 396 5 (0 : Int32)) 396 8 (0 : Int32)) 396 9 (-1 : Int32)) 396 13))) 396 30)).toNatClampNeg (1 : Int32)) 396 30)).toNatClampNeg (10 : Int32)) 401 ((gI (sI (sI (sI (sI (sI (sI (sI (sI S 396 2 (gI S 396 1)) 396 1 (0 : Int32)) 396 5 (0 : Int32)) 396 8 (0 : Int32)) 396 9 (-1 : Int32)) 396 30 ((1 : Int32) - (gI (sI (sI (sI (sI (sI S 396 2 (gI S 396 1)) 396 1 (0 : Int32)) 396 5 (0 : Int32)) 396 8 (0 : Int32)) 396 9 (-1 : Int32)) 396 13))) 399 ((gI (sI (sI (sI (sI (sI (sI S 396 2 (gI S 396 1)) 396 1 (0 : Int32)) 396 5 (0 : Int32)) 396 8 (0 : Int32)) 396 9 (-1 : Int32)) 396 30 ((1 : Int32) - (gI (sI (sI (sI (sI (sI S 396 2 (gI S 396 1)) 396 1 (0 : Int32)) 396 5 (0 : Int32)) 396 8 (0 : Int32)) 396 9 (-1 : Int32)) 396 13))) 396 30)).toNatClampNeg (1 : Int32)) 400 ((gI (sI (sI (sI (sI (sI (sI (sI S 396 2 (gI S 396 1)) 396 1 (0 : Int32)) 396 5 (0 : Int32)) 396 8 (0 : Int32)) 396 9 (-1 : Int32)) 396 30 ((1 : Int32) - (gI (sI (sI (sI (sI (sI S 396 2 (gI S 396 1)) 396 1 (0 : Int32)) 396 5 (0 : Int32)) 396 8 (0 : Int32)) 396 9 (-1 : Int32)) 396 13))) 399 ((gI (sI (sI (sI (sI (sI (sI S 396 2 (gI S 396 1)) 396 1 (0 : Int32)) 396 5 (0 : Int32)) 396 8 (0 : Int32)) 396 9 (-1 : Int32)) 396 30 ((1 : Int32) - (gI (sI (sI (sI (sI (sI S 396 2 (gI S 396 1)) 396 1 (0 : Int32)) 396 5 (0 : Int32)) 396 8 (0 : Int32)) 396 9 (-1 : Int32)) 396 13))) 396 30)).toNatClampNeg (1 : Int32)) 396 30)).toNatClampNeg (10 : Int32)) 396 30)).toNatClampNeg (0 : Int32)) 402 ((gI (sI (sI (sI (sI (sI (sI (sI (sI (sI S 396 2 (gI S 396 1)) 396 1 (0 : Int32)) 396 5 (0 : Int32)) 396 8 (0 : Int32)) 396 9 (-1 : Int32)) 396 30 ((1 : Int32) - (gI (sI (sI (sI (sI (sI S 396 2 (gI S 396 1)) 396 1 (0 : Int32)) 396 5 (0 : Int32)) 396 8 (0 : Int32)) 396 9 (-1 : Int32)) 396 13))) 399 ((gI (sI (sI (sI (sI (sI (sI S 396 2 (gI S 396 1)) 396 1 (0 : Int32)) 396 5 (0 : Int32)) 396 8 (0 : Int32)) 396 9 (-1 : Int32)) 396 30 ((1 : Int32) - (gI (sI (sI (sI (sI (sI S 396 2 (gI S 396 1)) 396 1 (0 : Int32)) 396 5 (0 : Int32)) 396 8 (0 : Int32)) 396 9 (-1 : Int32)) 396 13))) 396 30)).toNatClampNeg (1 : Int32)) 400 ((gI (sI (sI (sI (sI (sI (sI (sI S 396 2 (gI S 396 1)) 396 1 (0 : Int32)) 396 5 (0 : Int32)) 396 8 (0 : Int32)) 396 9 (-1 : Int32)) 396 30 ((1 : Int32) - (gI (sI (sI (sI (sI (sI S 396 2 (gI S 396 1)) 396 1 (0 : Int32)) 396 5 (0 : Int32)) 396 8 (0 : Int32)) 396 9 (-1 : Int32)) 396 13))) 399 ((gI (sI (sI (sI (sI (sI (sI S 396 2 (gI S 396 1)) 396 1 (0 : Int32)) 396 5 (0 : Int32)) 396 8 (0 : Int32)) 396 9 (-1 : Int32)) 396 30 ((1 : Int32) - (gI (sI (sI (sI (sI (sI S 396 2 (gI S 396 1)) 396 1 (0 : Int32)) 396 5 (0 : Int32)) 396 8 (0 : Int32)) 396 9 (-1 : Int32)) 396 13))) 396 30)).toNatClampNeg (1 : Int32)) 396 30)).toNatClampNeg (10 : Int32)) 401 ((gI (sI (sI (sI (sI (sI (sI (sI (sI S 396 2 (gI S 396 1)) 396 1 (0 : Int32)) 396 5 (0 : Int32)) 396 8 (0 : Int32)) 396 9 (-1 : Int32)) 396 30 ((1 : Int32) - (gI (sI (sI (sI (sI (sI S 396 2 (gI S 396 1)) 396 1 (0 : Int32)) 396 5 (0 : Int32)) 396 8 (0 : Int32)) 396 9 (-1 : Int32)) 396 13))) 399 ((gI (sI (sI (sI (sI (sI (sI S 396 2 (gI S 396 1)) 396 1 (0 : Int32)) 396 5 (0 : Int32)) 396 8 (0 : Int32)) 396 9 (-1 : Int32)) 396 30 ((1 : Int32) - (gI (sI (sI (sI (sI (sI S 396 2 (gI S 396 1)) 396 1 (0 : Int32)) 396 5 (0 : Int32)) 396 8 (0 : Int32)) 396 9 (-1 : Int32)) 396 13))) 396 30)).toNatClampNeg (1 : Int32)) 400 ((gI (sI (sI (sI (sI (sI (sI (sI S 396 2 (gI S 396 1)) 396 1 (0 : Int32)) 396 5 (0 : Int32)) 396 8 (0 : Int32)) 396 9 (-1 : Int32)) 396 30 ((1 : Int32) - (gI (sI (sI (sI (sI (sI S 396 2 (gI S 396 1)) 396 1 (0 : Int32)) 396 5 (0 : Int32)) 396 8 (0 : Int32)) 396 9 (-1 : Int32)) 396 13))) 399 ((gI (sI (sI (sI (sI (sI (sI S 396 2 (gI S 396 1)) 396 1 (0 : Int32)) 396 5 (0 : Int32)) 396 8 (0 : Int32)) 396 9 (-1 : Int32)) 396 30 ((1 : Int32) - (gI (sI (sI (sI (sI (sI S 396 2 (gI S 396 1)) 396 1 (0 : Int32)) 396 5 (0 : Int32)) 396 8 (0 : Int32)) 396 9 (-1 : Int32)) 396 13))) 396 30)).toNatClampNeg (1 : Int32)) 396 30)).toNatClampNeg (10 : Int32)) 396 30)).toNatClampNeg (0 : Int32)) 396 30)).toNatClampNeg (0 : Int32)) 396 30)).toNatClampNeg (0 : Int32)) 407 ((gI (sI (sI (sI (sI (sI (sI (sI (sI (sI (sI (sI S 396 2 (gI S 396 1)) 396 1 (0 : Int32)) 396 5 (0 : Int32)) 396 8 (0 : Int32)) 396 9 (-1 : Int32)) 396 30 ((1 : Int32) - (gI (sI (sI (sI (sI (sI S 396 2 (gI S 396 1)) 396 1 (0 : Int32)) 396 5 (0 : Int32)) 396 8 (0 : Int32)) 396 9 (-1 : Int32)) 396 13))) 399 ((gI (sI (sI (sI (sI (sI (sI S 396 2 (gI S 396 1)) 396 1 (0 : Int32)) 396 5 (0 : Int32)) 396 8 (0 : Int32)) 396 9 (-1 : Int32)) 396 30 ((1 : Int32) - (gI (sI (sI (sI (sI (sI S 396 2 (gI S 396 1)) 396 1 (0 : Int32)) 396 5 (0 : Int32)) 396 8 (0 : Int32)) 396 9 (-1 : Int32)) 396 13))) 396 30)).toNatClampNeg (1 : Int32)) 400 ((gI (sI (sI (sI (sI (sI (sI (sI S 396 2 (gI S 396 1)) 396 1 (0 : Int32)) 396 5 (0 : Int32)) 396 8 (0 : Int32)) 396 9 (-1 : Int32)) 396 30 ((1 : Int32) - (gI (sI (sI (sI (sI (sI S 396 2 (gI S 396 1)) 396 1 (0 : Int32)) 396 5 (0 : Int32)) 396 8 (0 : Int32)) 396 9 (-1 : Int32)) 396 13))) 399 ((gI (sI (sI (sI (sI (sI (sI S 396 2 (gI S 396 1)) 396 1 (0 : Int32)) 396 5 (0 : Int32)) 396 8 (0 : Int32)) 396 9 (-1 : Int32)) 396 30 ((1 : Int32) - (gI (sI (sI (sI (sI (sI S 396 2 (gI S 396 1)) 396 1 (0 : Int32)) 396 5 (0 : Int32)) 396 8 (0 : Int32)) 396 9 (-1 : Int32)) 396 13))) 396 30)).toNatClampNeg (1 : Int32)) 396 30)).toNatClampNeg (10 : Int32)) 401 ((gI (sI (sI (sI (sI (sI (sI (sI (sI S 396 2 (gI S 396 1)) 396 1 (0 : Int32)) 396 5 (0 : Int32)) 396 8 (0 : Int32)) 396 9 (-1 : Int32)) 396 30 ((1 : Int32) - (gI (sI (sI (sI (sI (sI S 396 2 (gI S 396 1)) 396 1 (0 : Int32)) 396 5 (0 : Int32)) 396 8 (0 : Int32)) 396 9 (-1 : Int32)) 396 13))) 399 ((gI (sI (sI (sI (sI (sI (sI S 396 2 (gI S 396 1)) 396 1 (0 : Int32)) 396 5 (0 : Int32)) 396 8 (0 : Int32)) 396 9 (-1 : Int32)) 396 30 ((1 : Int32) - (gI (sI (sI (sI (sI (sI S 396 2 (gI S 396 1)) 396 1 (0 : Int32)) 396 5 (0 : Int32)) 396 8 (0 : Int32)) 396 9 (-1 : Int32)) 396 13))) 396 30)).toNatClampNeg (1 : Int32)) 400 ((gI (sI (sI (sI (sI (sI (sI (sI S 396 2 (gI S 396 1)) 396 1 (0 : Int32)) 396 5 (0 : Int32)) 396 8 (0 : Int32)) 396 9 (-1 : Int32)) 396 30 ((1 : Int32) - (gI (sI (sI (sI (sI (sI S 396 2 (gI S 396 1)) 396 1 (0 : Int32)) 396 5 (0 : Int32)) 396 8 (0 : Int32)) 396 9 (-1 : Int32)) 396 13))) 399 ((gI (sI (sI (sI (sI (sI (sI S 396 2 (gI S 396 1)) 396 1 (0 : Int32)) 396 5 (0 : Int32)) 396 8 (0 : Int32)) 396 9 (-1 : Int32)) 396 30 ((1 : Int32) - (gI (sI (sI (sI (sI (sI S 396 2 (gI S 396 1)) 396 1 (0 : Int32)) 396 5 (0 : Int32)) 396 8 (0 : Int32)) 396 9 (-1 : Int32)) 396 13))) 396 30)).toNatClampNeg (1 : Int32)) 396 30)).toNatClampNeg (10 : Int32)) 396 30)).toNatClampNeg (0 : Int32)) 402 ((gI (sI (sI (sI (sI (sI (sI (sI (sI (sI S 396 2 (gI S 396 1)) 396 1 (0 : Int32)) 396 5 (0 : Int32)) 396 8 (0 : Int32)) 396 9 (-1 : Int32)) 396 30 ((1 : Int32) - (gI (sI (sI (sI (sI (sI S 396 2 (gI S 396 1)) 396 1 (0 : Int32)) 396 5 (0 : Int32)) 396 8 (0 : Int32)) 396 9 (-1 : Int32)) 396 13))) 399 ((gI (sI (sI (sI (sI (sI (sI S 396 2 (gI S 396 1)) 396 1 (0 : Int32)) 396 5 (0 : Int32)) 396 8 (0 : Int32)) 396 9 (-1 : Int32)) 396 30 ((1 : Int32) - (gI (sI (sI (sI (sI (sI S 396 2 (gI S 396 1)) 396 1 (0 : Int32)) 396 5 (0 : Int32)) 396 8 (0 : Int32)) 396 9 (-1 : Int32)) 396 13))) 396 30)).toNatClampNeg (1 : Int32)) 400 ((gI (sI (sI (sI (sI (sI (sI (sI S 396 2 (gI S 396 1)) 396 1 (0 : Int32)) 396 5 (0 : Int32)) 396 8 (0 : Int32)) 396 9 (-1 : Int32)) 396 30 ((1 : Int32) - (gI (sI (sI (sI (sI (sI S 396 2 (gI S 396 1)) 396 1 (0 : Int32)) 396 5 (0 : Int32)) 396 8 (0 : Int32)) 396 9 (-1 : Int32)) 396 13))) 399 ((gI (sI (sI (sI (sI (sI (sI S 396 2 (gI S 396 1)) 396 1 (0 : Int32)) 396 5 (0 : Int32)) 396 8 (0 : Int32)) 396 9 (-1 : Int32)) 396 30 ((1 : Int32) - (gI (sI (sI (sI (sI (sI S 396 2 (gI S 396 1)) 396 1 (0 : Int32)) 396 5 (0 : Int32)) 396 8 (0 : Int32)) 396 9 (-1 : Int32)) 396 13))) 396 30)).toNatClampNeg (1 : Int32)) 396 30)).toNatClampNeg (10 : Int32)) 401 ((gI (sI (sI (sI (sI (sI (sI (sI (sI S 396 2 (gI S 396 1)) 396 1 (0 : Int32)) 396 5 (0 : Int32)) 396 8 (0 : Int32)) 396 9 (-1 : Int32)) 396 30 ((1 : Int32) - (gI (sI (sI (sI (sI (sI S 396 2 (gI S 396 1)) 396 1 (0 : Int32)) 396 5 (0 : Int32)) 396 8 (0 : Int32)) 396 9 (-1 : Int32)) 396 13))) 399 ((gI (sI (sI (sI (sI (sI (sI S 396 2 (gI S 396 1)) 396 1 (0 : Int32)) 396 5 (0 : Int32)) 396 8 (0 : Int32)) 396 9 (-1 : Int32)) 396 30 ((1 : Int32) - (gI (sI (sI (sI (sI (sI S 396 2 (gI S 396 1)) 396 1 (0 : Int32)) 396 5 (0 : Int32)) 396 8 (0 : Int32)) 396 9 (-1 : Int32)) 396 13))) 396 30)).toNatClampNeg (1 : Int32)) 400 ((gI (sI (sI (sI (sI (sI (sI (sI S 396 2 (gI S 396 1)) 396 1 (0 : Int32)) 396 5 (0 : Int32)) 396 8 (0 : Int32)) 396 9 (-1 : Int32)) 396 30 ((1 : Int32) - (gI (sI (sI (sI (sI (sI S 396 2 (gI S 396 1)) 396 1 (0 : Int32)) 396 5 (0 : Int32)) 396 8 (0 : Int32)) 396 9 (-1 : Int32)) 396 13))) 399 ((gI (sI (sI (sI (sI (sI (sI S 396 2 (gI S 396 1)) 396 1 (0 : Int32)) 396 5 (0 : Int32)) 396 8 (0 : Int32)) 396 9 (-1 : Int32)) 396 30 ((1 : Int32) - (gI (sI (sI (sI (sI (sI S 396 2 (gI S 396 1)) 396 1 (0 : Int32)) 396 5 (0 : Int32)) 396 8 (0 : Int32)) 396 9 (-1 : Int32)) 396 13))) 396 30)).toNatClampNeg (1 : Int32)) 396 30)).toNatClampNeg (10 : Int32)) 396 30)).toNatClampNeg (0 : Int32)) 396 30)).toNatClampNeg (0 : Int32)) 405 ((gI (sI (sI (sI (sI (sI (sI (sI (sI (sI (sI S 396 2 (gI S 396 1)) 396 1 (0 : Int32)) 396 5 (0 : Int32)) 396 8 (0 : Int32)) 396 9 (-1 : Int32)) 396 30 ((1 : Int32) - (gI (sI (sI (sI (sI (sI S 396 2 (gI S 396 1)) 396 1 (0 : Int32)) 396 5 (0 : Int32)) 396 8 (0 : Int32)) 396 9 (-1 : Int32)) 396 13))) 399 ((gI (sI (sI (sI (sI (sI (sI S 396 2 (gI S 396 1)) 396 1 (0 : Int32)) 396 5 (0 : Int32)) 396 8 (0 : Int32)) 396 9 (-1 : Int32)) 396 30 ((1 : Int32) - (gI (sI (sI (sI (sI (sI S 396 2 (gI S 396 1)) 396 1 (0 : Int32)) 396 5 (0 : Int32)) 396 8 (0 : Int32)) 396 9 (-1 : Int32)) 396 13))) 396 30)).toNatClampNeg (1 : Int32)) 400 ((gI (sI (sI (sI (sI (sI (sI (sI S 396 2 (gI S 396 1)) 396 1 (0 : Int32)) 396 5 (0 : Int32)) 396 8 (0 : Int32)) 396 9 (-1 : Int32)) 396 30 ((1 : Int32) - (gI (sI (sI (sI (sI (sI S 396 2 (gI S 396 1)) 396 1 (0 : Int32)) 396 5 (0 : Int32)) 396 8 (0 : Int32)) 396 9 (-1 : Int32)) 396 13))) 399 ((gI (sI (sI (sI (sI (sI (sI S 396 2 (gI S 396 1)) 396 1 (0 : Int32)) 396 5 (0 : Int32)) 396 8 (0 : Int32)) 396 9 (-1 : Int32)) 396 30 ((1 : Int32) - (gI (sI (sI (sI (sI (sI S 396 2 (gI S 396 1)) 396 1 (0 : Int32)) 396 5 (0 : Int32)) 396 8 (0 : Int32)) 396 9 (-1 : Int32)) 396 13))) 396 30)).toNatClampNeg (1 : Int32)) 396 30)).toNatClampNeg (10 : Int32)) 401 ((gI (sI (sI (sI (sI (sI (sI (sI (sI S 396 2 (gI S 396 1)) 396 1 (0 : Int32)) 396 5 (0 : Int32)) 396 8 (0 : Int32)) 396 9 (-1 : Int32)) 396 30 ((1 : Int32) - (gI (sI (sI (sI (sI (sI S 396 2 (gI S 396 1)) 396 1 (0 : Int32)) 396 5 (0 : Int32)) 396 8 (0 : Int32)) 396 9 (-1 : Int32)) 396 13))) 399 ((gI (sI (sI (sI (sI (sI (sI S 396 2 (gI S 396 1)) 396 1 (0 : Int32)) 396 5 (0 : Int32)) 396 8 (0 : Int32)) 396 9 (-1 : Int32)) 396 30 ((1 : Int32) - (gI (sI (sI (sI (sI (sI S 396 2 (gI S 396 1)) 396 1 (0 : Int32)) 396 5 (0 : Int32)) 396 8 (0 : Int32)) 396 9 (-1 : Int32)) 396 13))) 396 30)).toNatClampNeg (1 : Int32)) 400 ((gI (sI (sI (sI (sI (sI (sI (sI S 396 2 (gI S 396 1)) 396 1 (0 : Int32)) 396 5 (0 : Int32)) 396 8 (0 : Int32)) 396 9 (-1 : Int32)) 396 30 ((1 : Int32) - (gI (sI (sI (sI (sI (sI S 396 2 (gI S 396 1)) 396 1 (0 : Int32)) 396 5 (0 : Int32)) 396 8 (0 : Int32)) 396 9 (-1 : Int32)) 396 13))) 399 ((gI (sI (sI (sI (sI (sI (sI S 396 2 (gI S 396 1)) 396 1 (0 : Int32)) 396 5 (0 : Int32)) 396 8 (0 : Int32)) 396 9 (-1 : Int32)) 396 30 ((1 : Int32) - (gI (sI (sI (sI (sI (sI S 396 2 (gI S 396 1)) 396 1 (0 : Int32)) 396 5 (0 : Int32)) 396 8 (0 : Int32)) 396 9 (-1 : Int32)) 396 13))) 396 30)).toNatClampNeg (1 : Int32)) 396 30)).toNatClampNeg (10 : Int32)) 396 30)).toNatClampNeg (0 : Int32)) 402 ((gI (sI (sI (sI (sI (sI (sI (sI (sI (sI S 396 2 (gI S 396 1)) 396 1 (0 : Int32)) 396 5 (0 : Int32)) 396 8 (0 : Int32)) 396 9 (-1 : Int32)) 396 30 ((1 : Int32) - (gI (sI (sI (sI (sI (sI S 396 2 (gI S 396 1)) 396 1 (0 : Int32)) 396 5 (0 : Int32)) 396 8 (0 : Int32)) 396 9 (-1 : Int32)) 396 13))) 399 ((gI (sI (sI (sI (sI (sI (sI S 396 2 (gI S 396 1)) 396 1 (0 : Int32)) 396 5 (0 : Int32)) 396 8 (0 : Int32)) 396 9 (-1 : Int32)) 396 30 ((1 : Int32) - (gI (sI (sI (sI (sI (sI S 396 2 (gI S 396 1)) 396 1 (0 : Int32)) 396 5 (0 : Int32)) 396 8 (0 : Int32)) 396 9 (-1 : Int32)) 396 13))) 396 30)).toNatClampNeg (1 : Int32)) 400 ((gI (sI (sI (sI (sI (sI (sI (sI S 396 2 (gI S 396 1)) 396 1 (0 : Int32)) 396 5 (0 : Int32)) 396 8 (0 : Int32)) 396 9 (-1 : Int32)) 396 30 ((1 : Int32) - (gI (sI (sI (sI (sI (sI S 396 2 (gI S 396 1)) 396 1 (0 : Int32)) 396 5 (0 : Int32)) 396 8 (0 : Int32)) 396 9 (-1 : Int32)) 396 13))) 399 ((gI (sI (sI (sI (sI (sI (sI S 396 2 (gI S 396 1)) 396 1 (0 : Int32)) 396 5 (0 : Int32)) 396 8 (0 : Int32)) 396 9 (-1 : Int32)) 396 30 ((1 : Int32) - (gI (sI (sI (sI (sI (sI S 396 2 (gI S 396 1)) 396 1 (0 : Int32)) 396 5 (0 : Int32)) 396 8 (0 : Int32)) 396 9 (-1 : Int32)) 396 13))) 396 30)).toNatClampNeg (1 : Int32)) 396 30)).toNatClampNeg (10 : Int32)) 401 ((gI (sI (sI (sI (sI (sI (sI (sI (sI S 396 2 (gI S 396 1)) 396 1 (0 : Int32)) 396 5 (0 : Int32)) 396 8 (0 : Int32)) 396 9 (-1 : Int32)) 396 30 ((1 : Int32) - (gI (sI (sI (sI (sI (sI S 396 2 (gI S 396 1)) 396 1 (0 : Int32)) 396 5 (0 : Int32)) 396 8 (0 : Int32)) 396 9 (-1 : Int32)) 396 13))) 399 ((gI (sI (sI (sI (sI (sI (sI S 396 2 (gI S 396 1)) 396 1 (0 : Int32)) 396 5 (0 : Int32)) 396 8 (0 : Int32)) 396 9 (-1 : Int32)) 396 30 ((1 : Int32) - (gI (sI (sI (sI (sI (sI S 396 2 (gI S 396 1)) 396 1 (0 : Int32)) 396 5 (0 : Int32)) 396 8 (0 : Int32)) 396 9 (-1 : Int32)) 396 13))) 396 30)).toNatClampNeg (1 : Int32)) 400 ((gI (sI (sI (sI (sI (sI (sI (sI S 396 2 (gI S 396 1)) 396 1 (0 : Int32)) 396 5 (0 : Int32)) 396 8 (0 : Int32)) 396 9 (-1 : Int32)) 396 30 ((1 : Int32) - (gI (sI (sI (sI (sI (sI S 396 2 (gI S 396 1)) 396 1 (0 : Int32)) 396 5 (0 : Int32)) 396 8 (0 : Int32)) 396 9 (-1 : Int32)) 396 13))) 399 ((gI (sI (sI (sI (sI (sI (sI S 396 2 (gI S 396 1)) 396 1 (0 : Int32)) 396 5 (0 : Int32)) 396 8 (0 : Int32)) 396 9 (-1 : Int32)) 396 30 ((1 : Int32) - (gI (sI (sI (sI (sI (sI S 396 2 (gI S 396 1)) 396 1 (0 : Int32)) 396 5 (0 : Int32)) 396 8 (0 : Int32)) 396 9 (-1 : Int32)) 396 13))) 396 30)).toNatClampNeg (1 : Int32)) 396 30)).toNatClampNeg (10 : Int32)) 396 30)).toNatClampNeg (0 : Int32)) 396 30)).toNatClampNeg (0 : Int32)) 396 30)).toNatClampNeg (0 : Int32)) 396 30)).toNatClampNeg (0 : Int32)) else none) else none) else none) else none) else none) else none) := by
  refine (fI_en (Nat.le_of_ble_eq_true rfl) rfl).trans ?_
  refine (k_aload_n t192_0 rfl rfl).trans ?_
  refine (k_aload_n t192_1 rfl rfl).trans ?_
  refine (k_getI t192_2 rfl hW zK_396 (by decide) (by decide)).trans ?_
  refine (k_putI t192_5 rfl hW zK_396 (by decide) (by decide) (by decide)).trans ?_
  refine (k_aload_n t192_8 rfl rfl).trans ?_
  refine (k_iconst t192_9 rfl zci_0).trans ?_
  refine (k_putI t192_10 rfl hW.sI zK_396 (by decide) (by decide) (by decide)).trans ?_
  refine (k_aload_n t192_13 rfl rfl).trans ?_
  refine (k_iconst t192_14 rfl zci_0).trans ?_
  refine (k_putI t192_15 rfl hW.sI.sI zK_396 (by decide) (by decide) (by decide)).trans ?_
  refine (k_aload_n t192_18 rfl rfl).trans ?_
  refine (k_iconst t192_19 rfl zci_0).trans ?_
  refine (k_putI t192_20 rfl hW.sI.sI.sI zK_396 (by decide) (by decide) (by decide)).trans ?_
  refine (k_aload_n t192_23 rfl rfl).trans ?_
  refine (k_iconst t192_24 rfl zci_m1).trans ?_
  refine (k_putI t192_25 rfl hW.sI.sI.sI.sI zK_396 (by decide) (by decide) (by decide)).trans ?_
  refine (k_aload_n t192_28 rfl rfl).trans ?_
  refine (k_iconst t192_29 rfl zci_1).trans ?_
  refine (k_aload_n t192_30 rfl rfl).trans ?_
  refine (k_getI t192_31 rfl hW.sI.sI.sI.sI.sI zK_396 (by decide) (by decide)).trans ?_
  refine (k_isub t192_34 rfl).trans ?_
  refine (k_putI t192_35 rfl hW.sI.sI.sI.sI.sI zK_396 (by decide) (by decide) (by decide)).trans ?_
  refine (k_aload_n t192_38 rfl rfl).trans ?_
  refine (k_getR t192_39 rfl hW.sI.sI.sI.sI.sI.sI zK_396 (by decide) (by decide) (zF_396_15 hW.sI.sI.sI.sI.sI.sI)).trans ?_
  refine (k_aload_n t192_42 rfl rfl).trans ?_
  refine (k_getI t192_43 rfl hW.sI.sI.sI.sI.sI.sI zK_396 (by decide) (by decide)).trans ?_
  refine (k_iconst t192_46 rfl zci_1).trans ?_
  refine (k_iast t192_47 rfl hW.sI.sI.sI.sI.sI.sI zK_399 zL_399).trans (z_ite (fun g1 => ?_) (fun _ => rfl))
  refine (k_aload_n t192_48 rfl rfl).trans ?_
  refine (k_getR t192_49 rfl hW.sI.sI.sI.sI.sI.sI.sI zK_396 (by decide) (by decide) (zF_396_16 hW.sI.sI.sI.sI.sI.sI.sI)).trans ?_
  refine (k_aload_n t192_52 rfl rfl).trans ?_
  refine (k_getI t192_53 rfl hW.sI.sI.sI.sI.sI.sI.sI zK_396 (by decide) (by decide)).trans ?_
  refine (k_bipush t192_56 rfl zcb_10).trans ?_
  refine (k_iast t192_58 rfl hW.sI.sI.sI.sI.sI.sI.sI zK_400 zL_400).trans (z_ite (fun g2 => ?_) (fun _ => rfl))
  refine (k_aload_n t192_59 rfl rfl).trans ?_
  refine (k_getR t192_60 rfl hW.sI.sI.sI.sI.sI.sI.sI.sI zK_396 (by decide) (by decide) (zF_396_17 hW.sI.sI.sI.sI.sI.sI.sI.sI)).trans ?_
  refine (k_aload_n t192_63 rfl rfl).trans ?_
  refine (k_getI t192_64 rfl hW.sI.sI.sI.sI.sI.sI.sI.sI zK_396 (by decide) (by decide)).trans ?_
  refine (k_iconst t192_67 rfl zci_0).trans ?_
  refine (k_iast t192_68 rfl hW.sI.sI.sI.sI.sI.sI.sI.sI zK_401 zL_401).trans (z_ite (fun g3 => ?_) (fun _ => rfl))
  refine (k_aload_n t192_69 rfl rfl).trans ?_
  refine (k_getR t192_70 rfl hW.sI.sI.sI.sI.sI.sI.sI.sI.sI zK_396 (by decide) (by decide) (zF_396_18 hW.sI.sI.sI.sI.sI.sI.sI.sI.sI)).trans ?_
  refine (k_aload_n t192_73 rfl rfl).trans ?_
  refine (k_getI t192_74 rfl hW.sI.sI.sI.sI.sI.sI.sI.sI.sI zK_396 (by decide) (by decide)).trans ?_
  refine (k_iconst t192_77 rfl zci_0).trans ?_
  refine (k_iast t192_78 rfl hW.sI.sI.sI.sI.sI.sI.sI.sI.sI zK_402 zL_402).trans (z_ite (fun g4 => ?_) (fun _ => rfl))
  refine (k_aload_n t192_79 rfl rfl).trans ?_
  refine (k_getR t192_80 rfl hW.sI.sI.sI.sI.sI.sI.sI.sI.sI.sI zK_396 (by decide) (by decide) (zF_396_21 hW.sI.sI.sI.sI.sI.sI.sI.sI.sI.sI)).trans ?_
  refine (k_aload_n t192_83 rfl rfl).trans ?_
  refine (k_getI t192_84 rfl hW.sI.sI.sI.sI.sI.sI.sI.sI.sI.sI zK_396 (by decide) (by decide)).trans ?_
  refine (k_iconst t192_87 rfl zci_0).trans ?_
  refine (k_iast t192_88 rfl hW.sI.sI.sI.sI.sI.sI.sI.sI.sI.sI zK_405 zL_405).trans (z_ite (fun g5 => ?_) (fun _ => rfl))
  refine (k_aload_n t192_89 rfl rfl).trans ?_
  refine (k_getR t192_90 rfl hW.sI.sI.sI.sI.sI.sI.sI.sI.sI.sI.sI zK_396 (by decide) (by decide) (zF_396_23 hW.sI.sI.sI.sI.sI.sI.sI.sI.sI.sI.sI)).trans ?_
  refine (k_aload_n t192_93 rfl rfl).trans ?_
  refine (k_getI t192_94 rfl hW.sI.sI.sI.sI.sI.sI.sI.sI.sI.sI.sI zK_396 (by decide) (by decide)).trans ?_
  refine (k_iconst t192_97 rfl zci_0).trans ?_
  refine (k_iast t192_98 rfl hW.sI.sI.sI.sI.sI.sI.sI.sI.sI.sI.sI zK_407 zL_407).trans (z_ite (fun g6 => ?_) (fun _ => rfl))
  refine (k_iconst t192_99 rfl zci_3).trans ?_
  refine (k_aload_n t192_100 rfl rfl).trans ?_
  refine (k_getI t192_101 rfl hW.sI.sI.sI.sI.sI.sI.sI.sI.sI.sI.sI.sI zK_396 (by decide) (by decide)).trans ?_
  refine (k_imul t192_104 rfl).trans ?_
  refine (k_istore_n (ls' := [.ref 396, .int ((3 : Int32) * (gI (sI (sI (sI (sI (sI (sI (sI (sI (sI (sI (sI (sI S 396 2 (gI S 396 1)) 396 1 (0 : Int32)) 396 5 (0 : Int32)) 396 8 (0 : Int32)) 396 9 (-1 : Int32)) 396 30 ((1 : Int32) - (gI (sI (sI (sI (sI (sI S 396 2 (gI S 396 1)) 396 1 (0 : Int32)) 396 5 (0 : Int32)) 396 8 (0 : Int32)) 396 9 (-1 : Int32)) 396 13))) 399 ((gI (sI (sI (sI (sI (sI (sI S 396 2 (gI S 396 1)) 396 1 (0 : Int32)) 396 5 (0 : Int32)) 396 8 (0 : Int32)) 396 9 (-1 : Int32)) 396 30 ((1 : Int32) - (gI (sI (sI (sI (sI (sI S 396 2 (gI S 396 1)) 396 1 (0 : Int32)) 396 5 (0 : Int32)) 396 8 (0 : Int32)) 396 9 (-1 : Int32)) 396 13))) 396 30)).toNatClampNeg (1 : Int32)) 400 ((gI (sI (sI (sI (sI (sI (sI (sI S 396 2 (gI S 396 1)) 396 1 (0 : Int32)) 396 5 (0 : Int32)) 396 8 (0 : Int32)) 396 9 (-1 : Int32)) 396 30 ((1 : Int32) - (gI (sI (sI (sI (sI (sI S 396 2 (gI S 396 1)) 396 1 (0 : Int32)) 396 5 (0 : Int32)) 396 8 (0 : Int32)) 396 9 (-1 : Int32)) 396 13))) 399 ((gI (sI (sI (sI (sI (sI (sI S 396 2 (gI S 396 1)) 396 1 (0 : Int32)) 396 5 (0 : Int32)) 396 8 (0 : Int32)) 396 9 (-1 : Int32)) 396 30 ((1 : Int32) - (gI (sI (sI (sI (sI (sI S 396 2 (gI S 396 1)) 396 1 (0 : Int32)) 396 5 (0 : Int32)) 396 8 (0 : Int32)) 396 9 (-1 : Int32)) 396 13))) 396 30)).toNatClampNeg (1 : Int32)) 396 30)).toNatClampNeg (10 : Int32)) 401 ((gI (sI (sI (sI (sI (sI (sI (sI (sI S 396 2 (gI S 396 1)) 396 1 (0 : Int32)) 396 5 (0 : Int32)) 396 8 (0 : Int32)) 396 9 (-1 : Int32)) 396 30 ((1 : Int32) - (gI (sI (sI (sI (sI (sI S 396 2 (gI S 396 1)) 396 1 (0 : Int32)) 396 5 (0 : Int32)) 396 8 (0 : Int32)) 396 9 (-1 : Int32)) 396 13))) 399 ((gI (sI (sI (sI (sI (sI (sI S 396 2 (gI S 396 1)) 396 1 (0 : Int32)) 396 5 (0 : Int32)) 396 8 (0 : Int32)) 396 9 (-1 : Int32)) 396 30 ((1 : Int32) - (gI (sI (sI (sI (sI (sI S 396 2 (gI S 396 1)) 396 1 (0 : Int32)) 396 5 (0 : Int32)) 396 8 (0 : Int32)) 396 9 (-1 : Int32)) 396 13))) 396 30)).toNatClampNeg (1 : Int32)) 400 ((gI (sI (sI (sI (sI (sI (sI (sI S 396 2 (gI S 396 1)) 396 1 (0 : Int32)) 396 5 (0 : Int32)) 396 8 (0 : Int32)) 396 9 (-1 : Int32)) 396 30 ((1 : Int32) - (gI (sI (sI (sI (sI (sI S 396 2 (gI S 396 1)) 396 1 (0 : Int32)) 396 5 (0 : Int32)) 396 8 (0 : Int32)) 396 9 (-1 : Int32)) 396 13))) 399 ((gI (sI (sI (sI (sI (sI (sI S 396 2 (gI S 396 1)) 396 1 (0 : Int32)) 396 5 (0 : Int32)) 396 8 (0 : Int32)) 396 9 (-1 : Int32)) 396 30 ((1 : Int32) - (gI (sI (sI (sI (sI (sI S 396 2 (gI S 396 1)) 396 1 (0 : Int32)) 396 5 (0 : Int32)) 396 8 (0 : Int32)) 396 9 (-1 : Int32)) 396 13))) 396 30)).toNatClampNeg (1 : Int32)) 396 30)).toNatClampNeg (10 : Int32)) 396 30)).toNatClampNeg (0 : Int32)) 402 ((gI (sI (sI (sI (sI (sI (sI (sI (sI (sI S 396 2 (gI S 396 1)) 396 1 (0 : Int32)) 396 5 (0 : Int32)) 396 8 (0 : Int32)) 396 9 (-1 : Int32)) 396 30 ((1 : Int32) - (gI (sI (sI (sI (sI (sI S 396 2 (gI S 396 1)) 396 1 (0 : Int32)) 396 5 (0 : Int32)) 396 8 (0 : Int32)) 396 9 (-1 : Int32)) 396 13))) 399 ((gI (sI (sI (sI (sI (sI (sI S 396 2 (gI S 396 1)) 396 1 (0 : Int32)) 396 5 (0 : Int32)) 396 8 (0 : Int32)) 396 9 (-1 : Int32)) 396 30 ((1 : Int32) - (gI (sI (sI (sI (sI (sI S 396 2 (gI S 396 1)) 396 1 (0 : Int32)) 396 5 (0 : Int32)) 396 8 (0 : Int32)) 396 9 (-1 : Int32)) 396 13))) 396 30)).toNatClampNeg (1 : Int32)) 400 ((gI (sI (sI (sI (sI (sI (sI (sI S 396 2 (gI S 396 1)) 396 1 (0 : Int32)) 396 5 (0 : Int32)) 396 8 (0 : Int32)) 396 9 (-1 : Int32)) 396 30 ((1 : Int32) - (gI (sI (sI (sI (sI (sI S 396 2 (gI S 396 1)) 396 1 (0 : Int32)) 396 5 (0 : Int32)) 396 8 (0 : Int32)) 396 9 (-1 : Int32)) 396 13))) 399 ((gI (sI (sI (sI (sI (sI (sI S 396 2 (gI S 396 1)) 396 1 (0 : Int32)) 396 5 (0 : Int32)) 396 8 (0 : Int32)) 396 9 (-1 : Int32)) 396 30 ((1 : Int32) - (gI (sI (sI (sI (sI (sI S 396 2 (gI S 396 1)) 396 1 (0 : Int32)) 396 5 (0 : Int32)) 396 8 (0 : Int32)) 396 9 (-1 : Int32)) 396 13))) 396 30)).toNatClampNeg (1 : Int32)) 396 30)).toNatClampNeg (10 : Int32)) 401 ((gI (sI (sI (sI (sI (sI (sI (sI (sI S 396 2 (gI S 396 1)) 396 1 (0 : Int32)) 396 5 (0 : Int32)) 396 8 (0 : Int32)) 396 9 (-1 : Int32)) 396 30 ((1 : Int32) - (gI (sI (sI (sI (sI (sI S 396 2 (gI S 396 1)) 396 1 (0 : Int32)) 396 5 (0 : Int32)) 396 8 (0 : Int32)) 396 9 (-1 : Int32)) 396 13))) 399 ((gI (sI (sI (sI (sI (sI (sI S 396 2 (gI S 396 1)) 396 1 (0 : Int32)) 396 5 (0 : Int32)) 396 8 (0 : Int32)) 396 9 (-1 : Int32)) 396 30 ((1 : Int32) - (gI (sI (sI (sI (sI (sI S 396 2 (gI S 396 1)) 396 1 (0 : Int32)) 396 5 (0 : Int32)) 396 8 (0 : Int32)) 396 9 (-1 : Int32)) 396 13))) 396 30)).toNatClampNeg (1 : Int32)) 400 ((gI (sI (sI (sI (sI (sI (sI (sI S 396 2 (gI S 396 1)) 396 1 (0 : Int32)) 396 5 (0 : Int32)) 396 8 (0 : Int32)) 396 9 (-1 : Int32)) 396 30 ((1 : Int32) - (gI (sI (sI (sI (sI (sI S 396 2 (gI S 396 1)) 396 1 (0 : Int32)) 396 5 (0 : Int32)) 396 8 (0 : Int32)) 396 9 (-1 : Int32)) 396 13))) 399 ((gI (sI (sI (sI (sI (sI (sI S 396 2 (gI S 396 1)) 396 1 (0 : Int32)) 396 5 (0 : Int32)) 396 8 (0 : Int32)) 396 9 (-1 : Int32)) 396 30 ((1 : Int32) - (gI (sI (sI (sI (sI (sI S 396 2 (gI S 396 1)) 396 1 (0 : Int32)) 396 5 (0 : Int32)) 396 8 (0 : Int32)) 396 9 (-1 : Int32)) 396 13))) 396 30)).toNatClampNeg (1 : Int32)) 396 30)).toNatClampNeg (10 : Int32)) 396 30)).toNatClampNeg (0 : Int32)) 396 30)).toNatClampNeg (0 : Int32)) 405 ((gI (sI (sI (sI (sI (sI (sI (sI (sI (sI (sI S 396 2 (gI S 396 1)) 396 1 (0 : Int32)) 396 5 (0 : Int32)) 396 8 (0 : Int32)) 396 9 (-1 : Int32)) 396 30 ((1 : Int32) - (gI (sI (sI (sI (sI (sI S 396 2 (gI S 396 1)) 396 1 (0 : Int32)) 396 5 (0 : Int32)) 396 8 (0 : Int32)) 396 9 (-1 : Int32)) 396 13))) 399 ((gI (sI (sI (sI (sI (sI (sI S 396 2 (gI S 396 1)) 396 1 (0 : Int32)) 396 5 (0 : Int32)) 396 8 (0 : Int32)) 396 9 (-1 : Int32)) 396 30 ((1 : Int32) - (gI (sI (sI (sI (sI (sI S 396 2 (gI S 396 1)) 396 1 (0 : Int32)) 396 5 (0 : Int32)) 396 8 (0 : Int32)) 396 9 (-1 : Int32)) 396 13))) 396 30)).toNatClampNeg (1 : Int32)) 400 ((gI (sI (sI (sI (sI (sI (sI (sI S 396 2 (gI S 396 1)) 396 1 (0 : Int32)) 396 5 (0 : Int32)) 396 8 (0 : Int32)) 396 9 (-1 : Int32)) 396 30 ((1 : Int32) - (gI (sI (sI (sI (sI (sI S 396 2 (gI S 396 1)) 396 1 (0 : Int32)) 396 5 (0 : Int32)) 396 8 (0 : Int32)) 396 9 (-1 : Int32)) 396 13))) 399 ((gI (sI (sI (sI (sI (sI (sI S 396 2 (gI S 396 1)) 396 1 (0 : Int32)) 396 5 (0 : Int32)) 396 8 (0 : Int32)) 396 9 (-1 : Int32)) 396 30 ((1 : Int32) - (gI (sI (sI (sI (sI (sI S 396 2 (gI S 396 1)) 396 1 (0 : Int32)) 396 5 (0 : Int32)) 396 8 (0 : Int32)) 396 9 (-1 : Int32)) 396 13))) 396 30)).toNatClampNeg (1 : Int32)) 396 30)).toNatClampNeg (10 : Int32)) 401 ((gI (sI (sI (sI (sI (sI (sI (sI (sI S 396 2 (gI S 396 1)) 396 1 (0 : Int32)) 396 5 (0 : Int32)) 396 8 (0 : Int32)) 396 9 (-1 : Int32)) 396 30 ((1 : Int32) - (gI (sI (sI (sI (sI (sI S 396 2 (gI S 396 1)) 396 1 (0 : Int32)) 396 5 (0 : Int32)) 396 8 (0 : Int32)) 396 9 (-1 : Int32)) 396 13))) 399 ((gI (sI (sI (sI (sI (sI (sI S 396 2 (gI S 396 1)) 396 1 (0 : Int32)) 396 5 (0 : Int32)) 396 8 (0 : Int32)) 396 9 (-1 : Int32)) 396 30 ((1 : Int32) - (gI (sI (sI (sI (sI (sI S 396 2 (gI S 396 1)) 396 1 (0 : Int32)) 396 5 (0 : Int32)) 396 8 (0 : Int32)) 396 9 (-1 : Int32)) 396 13))) 396 30)).toNatClampNeg (1 : Int32)) 400 ((gI (sI (sI (sI (sI (sI (sI (sI S 396 2 (gI S 396 1)) 396 1 (0 : Int32)) 396 5 (0 : Int32)) 396 8 (0 : Int32)) 396 9 (-1 : Int32)) 396 30 ((1 : Int32) - (gI (sI (sI (sI (sI (sI S 396 2 (gI S 396 1)) 396 1 (0 : Int32)) 396 5 (0 : Int32)) 396 8 (0 : Int32)) 396 9 (-1 : Int32)) 396 13))) 399 ((gI (sI (sI (sI (sI (sI (sI S 396 2 (gI S 396 1)) 396 1 (0 : Int32)) 396 5 (0 : Int32)) 396 8 (0 : Int32)) 396 9 (-1 : Int32)) 396 30 ((1 : Int32) - (gI (sI (sI (sI (sI (sI S 396 2 (gI S 396 1)) 396 1 (0 : Int32)) 396 5 (0 : Int32)) 396 8 (0 : Int32)) 396 9 (-1 : Int32)) 396 13))) 396 30)).toNatClampNeg (1 : Int32)) 396 30)).toNatClampNeg (10 : Int32)) 396 30)).toNatClampNeg (0 : Int32)) 402 ((gI (sI (sI (sI (sI (sI (sI (sI (sI (sI S 396 2 (gI S 396 1)) 396 1 (0 : Int32)) 396 5 (0 : Int32)) 396 8 (0 : Int32)) 396 9 (-1 : Int32)) 396 30 ((1 : Int32) - (gI (sI (sI (sI (sI (sI S 396 2 (gI S 396 1)) 396 1 (0 : Int32)) 396 5 (0 : Int32)) 396 8 (0 : Int32)) 396 9 (-1 : Int32)) 396 13))) 399 ((gI (sI (sI (sI (sI (sI (sI S 396 2 (gI S 396 1)) 396 1 (0 : Int32)) 396 5 (0 : Int32)) 396 8 (0 : Int32)) 396 9 (-1 : Int32)) 396 30 ((1 : Int32) - (gI (sI (sI (sI (sI (sI S 396 2 (gI S 396 1)) 396 1 (0 : Int32)) 396 5 (0 : Int32)) 396 8 (0 : Int32)) 396 9 (-1 : Int32)) 396 13))) 396 30)).toNatClampNeg (1 : Int32)) 400 ((gI (sI (sI (sI (sI (sI (sI (sI S 396 2 (gI S 396 1)) 396 1 (0 : Int32)) 396 5 (0 : Int32)) 396 8 (0 : Int32)) 396 9 (-1 : Int32)) 396 30 ((1 : Int32) - (gI (sI (sI (sI (sI (sI S 396 2 (gI S 396 1)) 396 1 (0 : Int32)) 396 5 (0 : Int32)) 396 8 (0 : Int32)) 396 9 (-1 : Int32)) 396 13))) 399 ((gI (sI (sI (sI (sI (sI (sI S 396 2 (gI S 396 1)) 396 1 (0 : Int32)) 396 5 (0 : Int32)) 396 8 (0 : Int32)) 396 9 (-1 : Int32)) 396 30 ((1 : Int32) - (gI (sI (sI (sI (sI (sI S 396 2 (gI S 396 1)) 396 1 (0 : Int32)) 396 5 (0 : Int32)) 396 8 (0 : Int32)) 396 9 (-1 : Int32)) 396 13))) 396 30)).toNatClampNeg (1 : Int32)) 396 30)).toNatClampNeg (10 : Int32)) 401 ((gI (sI (sI (sI (sI (sI (sI (sI (sI S 396 2 (gI S 396 1)) 396 1 (0 : Int32)) 396 5 (0 : Int32)) 396 8 (0 : Int32)) 396 9 (-1 : Int32)) 396 30 ((1 : Int32) - (gI (sI (sI (sI (sI (sI S 396 2 (gI S 396 1)) 396 1 (0 : Int32)) 396 5 (0 : Int32)) 396 8 (0 : Int32)) 396 9 (-1 : Int32)) 396 13))) 399 ((gI (sI (sI (sI (sI (sI (sI S 396 2 (gI S 396 1)) 396 1 (0 : Int32)) 396 5 (0 : Int32)) 396 8 (0 : Int32)) 396 9 (-1 : Int32)) 396 30 ((1 : Int32) - (gI (sI (sI (sI (sI (sI S 396 2 (gI S 396 1)) 396 1 (0 : Int32)) 396 5 (0 : Int32)) 396 8 (0 : Int32)) 396 9 (-1 : Int32)) 396 13))) 396 30)).toNatClampNeg (1 : Int32)) 400 ((gI (sI (sI (sI (sI (sI (sI (sI S 396 2 (gI S 396 1)) 396 1 (0 : Int32)) 396 5 (0 : Int32)) 396 8 (0 : Int32)) 396 9 (-1 : Int32)) 396 30 ((1 : Int32) - (gI (sI (sI (sI (sI (sI S 396 2 (gI S 396 1)) 396 1 (0 : Int32)) 396 5 (0 : Int32)) 396 8 (0 : Int32)) 396 9 (-1 : Int32)) 396 13))) 399 ((gI (sI (sI (sI (sI (sI (sI S 396 2 (gI S 396 1)) 396 1 (0 : Int32)) 396 5 (0 : Int32)) 396 8 (0 : Int32)) 396 9 (-1 : Int32)) 396 30 ((1 : Int32) - (gI (sI (sI (sI (sI (sI S 396 2 (gI S 396 1)) 396 1 (0 : Int32)) 396 5 (0 : Int32)) 396 8 (0 : Int32)) 396 9 (-1 : Int32)) 396 13))) 396 30)).toNatClampNeg (1 : Int32)) 396 30)).toNatClampNeg (10 : Int32)) 396 30)).toNatClampNeg (0 : Int32)) 396 30)).toNatClampNeg (0 : Int32)) 396 30)).toNatClampNeg (0 : Int32)) 407 ((gI (sI (sI (sI (sI (sI (sI (sI (sI (sI (sI (sI S 396 2 (gI S 396 1)) 396 1 (0 : Int32)) 396 5 (0 : Int32)) 396 8 (0 : Int32)) 396 9 (-1 : Int32)) 396 30 ((1 : Int32) - (gI (sI (sI (sI (sI (sI S 396 2 (gI S 396 1)) 396 1 (0 : Int32)) 396 5 (0 : Int32)) 396 8 (0 : Int32)) 396 9 (-1 : Int32)) 396 13))) 399 ((gI (sI (sI (sI (sI (sI (sI S 396 2 (gI S 396 1)) 396 1 (0 : Int32)) 396 5 (0 : Int32)) 396 8 (0 : Int32)) 396 9 (-1 : Int32)) 396 30 ((1 : Int32) - (gI (sI (sI (sI (sI (sI S 396 2 (gI S 396 1)) 396 1 (0 : Int32)) 396 5 (0 : Int32)) 396 8 (0 : Int32)) 396 9 (-1 : Int32)) 396 13))) 396 30)).toNatClampNeg (1 : Int32)) 400 ((gI (sI (sI (sI (sI (sI (sI (sI S 396 2 (gI S 396 1)) 396 1 (0 : Int32)) 396 5 (0 : Int32)) 396 8 (0 : Int32)) 396 9 (-1 : Int32)) 396 30 ((1 : Int32) - (gI (sI (sI (sI (sI (sI S 396 2 (gI S 396 1)) 396 1 (0 : Int32)) 396 5 (0 : Int32)) 396 8 (0 : Int32)) 396 9 (-1 : Int32)) 396 13))) 399 ((gI (sI (sI (sI (sI (sI (sI S 396 2 (gI S 396 1)) 396 1 (0 : Int32)) 396 5 (0 : Int32)) 396 8 (0 : Int32)) 396 9 (-1 : Int32)) 396 30 ((1 : Int32) - (gI (sI (sI (sI (sI (sI S 396 2 (gI S 396 1)) 396 1 (0 : Int32)) 396 5 (0 : Int32)) 396 8 (0 : Int32)) 396 9 (-1 : Int32)) 396 13))) 396 30)).toNatClampNeg (1 : Int32)) 396 30)).toNatClampNeg (10 : Int32)) 401 ((gI (sI (sI (sI (sI (sI (sI (sI (sI S 396 2 (gI S 396 1)) 396 1 (0 : Int32)) 396 5 (0 : Int32)) 396 8 (0 : Int32)) 396 9 (-1 : Int32)) 396 30 ((1 : Int32) - (gI (sI (sI (sI (sI (sI S 396 2 (gI S 396 1)) 396 1 (0 : Int32)) 396 5 (0 : Int32)) 396 8 (0 : Int32)) 396 9 (-1 : Int32)) 396 13))) 399 ((gI (sI (sI (sI (sI (sI (sI S 396 2 (gI S 396 1)) 396 1 (0 : Int32)) 396 5 (0 : Int32)) 396 8 (0 : Int32)) 396 9 (-1 : Int32)) 396 30 ((1 : Int32) - (gI (sI (sI (sI (sI (sI S 396 2 (gI S 396 1)) 396 1 (0 : Int32)) 396 5 (0 : Int32)) 396 8 (0 : Int32)) 396 9 (-1 : Int32)) 396 13))) 396 30)).toNatClampNeg (1 : Int32)) 400 ((gI (sI (sI (sI (sI (sI (sI (sI S 396 2 (gI S 396 1)) 396 1 (0 : Int32)) 396 5 (0 : Int32)) 396 8 (0 : Int32)) 396 9 (-1 : Int32)) 396 30 ((1 : Int32) - (gI (sI (sI (sI (sI (sI S 396 2 (gI S 396 1)) 396 1 (0 : Int32)) 396 5 (0 : Int32)) 396 8 (0 : Int32)) 396 9 (-1 : Int32)) 396 13))) 399 ((gI (sI (sI (sI (sI (sI (sI S 396 2 (gI S 396 1)) 396 1 (0 : Int32)) 396 5 (0 : Int32)) 396 8 (0 : Int32)) 396 9 (-1 : Int32)) 396 30 ((1 : Int32) - (gI (sI (sI (sI (sI (sI S 396 2 (gI S 396 1)) 396 1 (0 : Int32)) 396 5 (0 : Int32)) 396 8 (0 : Int32)) 396 9 (-1 : Int32)) 396 13))) 396 30)).toNatClampNeg (1 : Int32)) 396 30)).toNatClampNeg (10 : Int32)) 396 30)).toNatClampNeg (0 : Int32)) 402 ((gI (sI (sI (sI (sI (sI (sI (sI (sI (sI S 396 2 (gI S 396 1)) 396 1 (0 : Int32)) 396 5 (0 : Int32)) 396 8 (0 : Int32)) 396 9 (-1 : Int32)) 396 30 ((1 : Int32) - (gI (sI (sI (sI (sI (sI S 396 2 (gI S 396 1)) 396 1 (0 : Int32)) 396 5 (0 : Int32)) 396 8 (0 : Int32)) 396 9 (-1 : Int32)) 396 13))) 399 ((gI (sI (sI (sI (sI (sI (sI S 396 2 (gI S 396 1)) 396 1 (0 : Int32)) 396 5 (0 : Int32)) 396 8 (0 : Int32)) 396 9 (-1 : Int32)) 396 30 ((1 : Int32) - (gI (sI (sI (sI (sI (sI S 396 2 (gI S 396 1)) 396 1 (0 : Int32)) 396 5 (0 : Int32)) 396 8 (0 : Int32)) 396 9 (-1 : Int32)) 396 13))) 396 30)).toNatClampNeg (1 : Int32)) 400 ((gI (sI (sI (sI (sI (sI (sI (sI S 396 2 (gI S 396 1)) 396 1 (0 : Int32)) 396 5 (0 : Int32)) 396 8 (0 : Int32)) 396 9 (-1 : Int32)) 396 30 ((1 : Int32) - (gI (sI (sI (sI (sI (sI S 396 2 (gI S 396 1)) 396 1 (0 : Int32)) 396 5 (0 : Int32)) 396 8 (0 : Int32)) 396 9 (-1 : Int32)) 396 13))) 399 ((gI (sI (sI (sI (sI (sI (sI S 396 2 (gI S 396 1)) 396 1 (0 : Int32)) 396 5 (0 : Int32)) 396 8 (0 : Int32)) 396 9 (-1 : Int32)) 396 30 ((1 : Int32) - (gI (sI (sI (sI (sI (sI S 396 2 (gI S 396 1)) 396 1 (0 : Int32)) 396 5 (0 : Int32)) 396 8 (0 : Int32)) 396 9 (-1 : Int32)) 396 13))) 396 30)).toNatClampNeg (1 : Int32)) 396 30)).toNatClampNeg (10 : Int32)) 401 ((gI (sI (sI (sI (sI (sI (sI (sI (sI S 396 2 (gI S 396 1)) 396 1 (0 : Int32)) 396 5 (0 : Int32)) 396 8 (0 : Int32)) 396 9 (-1 : Int32)) 396 30 ((1 : Int32) - (gI (sI (sI (sI (sI (sI S 396 2 (gI S 396 1)) 396 1 (0 : Int32)) 396 5 (0 : Int32)) 396 8 (0 : Int32)) 396 9 (-1 : Int32)) 396 13))) 399 ((gI (sI (sI (sI (sI (sI (sI S 396 2 (gI S 396 1)) 396 1 (0 : Int32)) 396 5 (0 : Int32)) 396 8 (0 : Int32)) 396 9 (-1 : Int32)) 396 30 ((1 : Int32) - (gI (sI (sI (sI (sI (sI S 396 2 (gI S 396 1)) 396 1 (0 : Int32)) 396 5 (0 : Int32)) 396 8 (0 : Int32)) 396 9 (-1 : Int32)) 396 13))) 396 30)).toNatClampNeg (1 : Int32)) 400 ((gI (sI (sI (sI (sI (sI (sI (sI S 396 2 (gI S 396 1)) 396 1 (0 : Int32)) 396 5 (0 : Int32)) 396 8 (0 : Int32)) 396 9 (-1 : Int32)) 396 30 ((1 : Int32) - (gI (sI (sI (sI (sI (sI S 396 2 (gI S 396 1)) 396 1 (0 : Int32)) 396 5 (0 : Int32)) 396 8 (0 : Int32)) 396 9 (-1 : Int32)) 396 13))) 399 ((gI (sI (sI (sI (sI (sI (sI S 396 2 (gI S 396 1)) 396 1 (0 : Int32)) 396 5 (0 : Int32)) 396 8 (0 : Int32)) 396 9 (-1 : Int32)) 396 30 ((1 : Int32) - (gI (sI (sI (sI (sI (sI S 396 2 (gI S 396 1)) 396 1 (0 : Int32)) 396 5 (0 : Int32)) 396 8 (0 : Int32)) 396 9 (-1 : Int32)) 396 13))) 396 30)).toNatClampNeg (1 : Int32)) 396 30)).toNatClampNeg (10 : Int32)) 396 30)).toNatClampNeg (0 : Int32)) 396 30)).toNatClampNeg (0 : Int32)) 405 ((gI (sI (sI (sI (sI (sI (sI (sI (sI (sI (sI S 396 2 (gI S 396 1)) 396 1 (0 : Int32)) 396 5 (0 : Int32)) 396 8 (0 : Int32)) 396 9 (-1 : Int32)) 396 30 ((1 : Int32) - (gI (sI (sI (sI (sI (sI S 396 2 (gI S 396 1)) 396 1 (0 : Int32)) 396 5 (0 : Int32)) 396 8 (0 : Int32)) 396 9 (-1 : Int32)) 396 13))) 399 ((gI (sI (sI (sI (sI (sI (sI S 396 2 (gI S 396 1)) 396 1 (0 : Int32)) 396 5 (0 : Int32)) 396 8 (0 : Int32)) 396 9 (-1 : Int32)) 396 30 ((1 : Int32) - (gI (sI (sI (sI (sI (sI S 396 2 (gI S 396 1)) 396 1 (0 : Int32)) 396 5 (0 : Int32)) 396 8 (0 : Int32)) 396 9 (-1 : Int32)) 396 13))) 396 30)).toNatClampNeg (1 : Int32)) 400 ((gI (sI (sI (sI (sI (sI (sI (sI S 396 2 (gI S 396 1)) 396 1 (0 : Int32)) 396 5 (0 : Int32)) 396 8 (0 : Int32)) 396 9 (-1 : Int32)) 396 30 ((1 : Int32) - (gI (sI (sI (sI (sI (sI S 396 2 (gI S 396 1)) 396 1 (0 : Int32)) 396 5 (0 : Int32)) 396 8 (0 : Int32)) 396 9 (-1 : Int32)) 396 13))) 399 ((gI (sI (sI (sI (sI (sI (sI S 396 2 (gI S 396 1)) 396 1 (0 : Int32)) 396 5 (0 : Int32)) 396 8 (0 : Int32)) 396 9 (-1 : Int32)) 396 30 ((1 : Int32) - (gI (sI (sI (sI (sI (sI S 396 2 (gI S 396 1)) 396 1 (0 : Int32)) 396 5 (0 : Int32)) 396 8 (0 : Int32)) 396 9 (-1 : Int32)) 396 13))) 396 30)).toNatClampNeg (1 : Int32)) 396 30)).toNatClampNeg (10 : Int32)) 401 ((gI (sI (sI (sI (sI (sI (sI (sI (sI S 396 2 (gI S 396 1)) 396 1 (0 : Int32)) 396 5 (0 : Int32)) 396 8 (0 : Int32)) 396 9 (-1 : Int32)) 396 30 ((1 : Int32) - (gI (sI (sI (sI (sI (sI S 396 2 (gI S 396 1)) 396 1 (0 : Int32)) 396 5 (0 : Int32)) 396 8 (0 : Int32)) 396 9 (-1 : Int32)) 396 13))) 399 ((gI (sI (sI (sI (sI (sI (sI S 396 2 (gI S 396 1)) 396 1 (0 : Int32)) 396 5 (0 : Int32)) 396 8 (0 : Int32)) 396 9 (-1 : Int32)) 396 30 ((1 : Int32) - (gI (sI (sI (sI (sI (sI S 396 2 (gI S 396 1)) 396 1 (0 : Int32)) 396 5 (0 : Int32)) 396 8 (0 : Int32)) 396 9 (-1 : Int32)) 396 13))) 396 30)).toNatClampNeg (1 : Int32)) 400 ((gI (sI (sI (sI (sI (sI (sI (sI S 396 2 (gI S 396 1)) 396 1 (0 : Int32)) 396 5 (0 : Int32)) 396 8 (0 : Int32)) 396 9 (-1 : Int32)) 396 30 ((1 : Int32) - (gI (sI (sI (sI (sI (sI S 396 2 (gI S 396 1)) 396 1 (0 : Int32)) 396 5 (0 : Int32)) 396 8 (0 : Int32)) 396 9 (-1 : Int32)) 396 13))) 399 ((gI (sI (sI (sI (sI (sI (sI S 396 2 (gI S 396 1)) 396 1 (0 : Int32)) 396 5 (0 : Int32)) 396 8 (0 : Int32)) 396 9 (-1 : Int32)) 396 30 ((1 : Int32) - (gI (sI (sI (sI (sI (sI S 396 2 (gI S 396 1)) 396 1 (0 : Int32)) 396 5 (0 : Int32)) 396 8 (0 : Int32)) 396 9 (-1 : Int32)) 396 13))) 396 30)).toNatClampNeg (1 : Int32)) 396 30)).toNatClampNeg (10 : Int32)) 396 30)).toNatClampNeg (0 : Int32)) 402 ((gI (sI (sI (sI (sI (sI (sI (sI (sI (sI S 396 2 (gI S 396 1)) 396 1 (0 : Int32)) 396 5 (0 : Int32)) 396 8 (0 : Int32)) 396 9 (-1 : Int32)) 396 30 ((1 : Int32) - (gI (sI (sI (sI (sI (sI S 396 2 (gI S 396 1)) 396 1 (0 : Int32)) 396 5 (0 : Int32)) 396 8 (0 : Int32)) 396 9 (-1 : Int32)) 396 13))) 399 ((gI (sI (sI (sI (sI (sI (sI S 396 2 (gI S 396 1)) 396 1 (0 : Int32)) 396 5 (0 : Int32)) 396 8 (0 : Int32)) 396 9 (-1 : Int32)) 396 30 ((1 : Int32) - (gI (sI (sI (sI (sI (sI S 396 2 (gI S 396 1)) 396 1 (0 : Int32)) 396 5 (0 : Int32)) 396 8 (0 : Int32)) 396 9 (-1 : Int32)) 396 13))) 396 30)).toNatClampNeg (1 : Int32)) 400 ((gI (sI (sI (sI (sI (sI (sI (sI S 396 2 (gI S 396 1)) 396 1 (0 : Int32)) 396 5 (0 : Int32)) 396 8 (0 : Int32)) 396 9 (-1 : Int32)) 396 30 ((1 : Int32) - (gI (sI (sI (sI (sI (sI S 396 2 (gI S 396 1)) 396 1 (0 : Int32)) 396 5 (0 : Int32)) 396 8 (0 : Int32)) 396 9 (-1 : Int32)) 396 13))) 399 ((gI (sI (sI (sI (sI (sI (sI S 396 2 (gI S 396 1)) 396 1 (0 : Int32)) 396 5 (0 : Int32)) 396 8 (0 : Int32)) 396 9 (-1 : Int32)) 396 30 ((1 : Int32) - (gI (sI (sI (sI (sI (sI S 396 2 (gI S 396 1)) 396 1 (0 : Int32)) 396 5 (0 : Int32)) 396 8 (0 : Int32)) 396 9 (-1 : Int32)) 396 13))) 396 30)).toNatClampNeg (1 : Int32)) 396 30)).toNatClampNeg (10 : Int32)) 401 ((gI (sI (sI (sI (sI (sI (sI (sI (sI S 396 2 (gI S 396 1)) 396 1 (0 : Int32)) 396 5 (0 : Int32)) 396 8 (0 : Int32)) 396 9 (-1 : Int32)) 396 30 ((1 : Int32) - (gI (sI (sI (sI (sI (sI S 396 2 (gI S 396 1)) 396 1 (0 : Int32)) 396 5 (0 : Int32)) 396 8 (0 : Int32)) 396 9 (-1 : Int32)) 396 13))) 399 ((gI (sI (sI (sI (sI (sI (sI S 396 2 (gI S 396 1)) 396 1 (0 : Int32)) 396 5 (0 : Int32)) 396 8 (0 : Int32)) 396 9 (-1 : Int32)) 396 30 ((1 : Int32) - (gI (sI (sI (sI (sI (sI S 396 2 (gI S 396 1)) 396 1 (0 : Int32)) 396 5 (0 : Int32)) 396 8 (0 : Int32)) 396 9 (-1 : Int32)) 396 13))) 396 30)).toNatClampNeg (1 : Int32)) 400 ((gI (sI (sI (sI (sI (sI (sI (sI S 396 2 (gI S 396 1)) 396 1 (0 : Int32)) 396 5 (0 : Int32)) 396 8 (0 : Int32)) 396 9 (-1 : Int32)) 396 30 ((1 : Int32) - (gI (sI (sI (sI (sI (sI S 396 2 (gI S 396 1)) 396 1 (0 : Int32)) 396 5 (0 : Int32)) 396 8 (0 : Int32)) 396 9 (-1 : Int32)) 396 13))) 399 ((gI (sI (sI (sI (sI (sI (sI S 396 2 (gI S 396 1)) 396 1 (0 : Int32)) 396 5 (0 : Int32)) 396 8 (0 : Int32)) 396 9 (-1 : Int32)) 396 30 ((1 : Int32) - (gI (sI (sI (sI (sI (sI S 396 2 (gI S 396 1)) 396 1 (0 : Int32)) 396 5 (0 : Int32)) 396 8 (0 : Int32)) 396 9 (-1 : Int32)) 396 13))) 396 30)).toNatClampNeg (1 : Int32)) 396 30)).toNatClampNeg (10 : Int32)) 396 30)).toNatClampNeg (0 : Int32)) 396 30)).toNatClampNeg (0 : Int32)) 396 30)).toNatClampNeg (0 : Int32)) 396 30)).toNatClampNeg (0 : Int32)) 396 30))]) t192_105 rfl rfl).trans ?_
  exact (zk_mk (ls' := [.ref 396, .int ((3 : Int32) * (gI (sI (sI (sI (sI (sI (sI (sI (sI (sI (sI (sI (sI S 396 2 (gI S 396 1)) 396 1 (0 : Int32)) 396 5 (0 : Int32)) 396 8 (0 : Int32)) 396 9 (-1 : Int32)) 396 30 ((1 : Int32) - (gI (sI (sI (sI (sI (sI S 396 2 (gI S 396 1)) 396 1 (0 : Int32)) 396 5 (0 : Int32)) 396 8 (0 : Int32)) 396 9 (-1 : Int32)) 396 13))) 399 ((gI (sI (sI (sI (sI (sI (sI S 396 2 (gI S 396 1)) 396 1 (0 : Int32)) 396 5 (0 : Int32)) 396 8 (0 : Int32)) 396 9 (-1 : Int32)) 396 30 ((1 : Int32) - (gI (sI (sI (sI (sI (sI S 396 2 (gI S 396 1)) 396 1 (0 : Int32)) 396 5 (0 : Int32)) 396 8 (0 : Int32)) 396 9 (-1 : Int32)) 396 13))) 396 30)).toNatClampNeg (1 : Int32)) 400 ((gI (sI (sI (sI (sI (sI (sI (sI S 396 2 (gI S 396 1)) 396 1 (0 : Int32)) 396 5 (0 : Int32)) 396 8 (0 : Int32)) 396 9 (-1 : Int32)) 396 30 ((1 : Int32) - (gI (sI (sI (sI (sI (sI S 396 2 (gI S 396 1)) 396 1 (0 : Int32)) 396 5 (0 : Int32)) 396 8 (0 : Int32)) 396 9 (-1 : Int32)) 396 13))) 399 ((gI (sI (sI (sI (sI (sI (sI S 396 2 (gI S 396 1)) 396 1 (0 : Int32)) 396 5 (0 : Int32)) 396 8 (0 : Int32)) 396 9 (-1 : Int32)) 396 30 ((1 : Int32) - (gI (sI (sI (sI (sI (sI S 396 2 (gI S 396 1)) 396 1 (0 : Int32)) 396 5 (0 : Int32)) 396 8 (0 : Int32)) 396 9 (-1 : Int32)) 396 13))) 396 30)).toNatClampNeg (1 : Int32)) 396 30)).toNatClampNeg (10 : Int32)) 401 ((gI (sI (sI (sI (sI (sI (sI (sI (sI S 396 2 (gI S 396 1)) 396 1 (0 : Int32)) 396 5 (0 : Int32)) 396 8 (0 : Int32)) 396 9 (-1 : Int32)) 396 30 ((1 : Int32) - (gI (sI (sI (sI (sI (sI S 396 2 (gI S 396 1)) 396 1 (0 : Int32)) 396 5 (0 : Int32)) 396 8 (0 : Int32)) 396 9 (-1 : Int32)) 396 13))) 399 ((gI (sI (sI (sI (sI (sI (sI S 396 2 (gI S 396 1)) 396 1 (0 : Int32)) 396 5 (0 : Int32)) 396 8 (0 : Int32)) 396 9 (-1 : Int32)) 396 30 ((1 : Int32) - (gI (sI (sI (sI (sI (sI S 396 2 (gI S 396 1)) 396 1 (0 : Int32)) 396 5 (0 : Int32)) 396 8 (0 : Int32)) 396 9 (-1 : Int32)) 396 13))) 396 30)).toNatClampNeg (1 : Int32)) 400 ((gI (sI (sI (sI (sI (sI (sI (sI S 396 2 (gI S 396 1)) 396 1 (0 : Int32)) 396 5 (0 : Int32)) 396 8 (0 : Int32)) 396 9 (-1 : Int32)) 396 30 ((1 : Int32) - (gI (sI (sI (sI (sI (sI S 396 2 (gI S 396 1)) 396 1 (0 : Int32)) 396 5 (0 : Int32)) 396 8 (0 : Int32)) 396 9 (-1 : Int32)) 396 13))) 399 ((gI (sI (sI (sI (sI (sI (sI S 396 2 (gI S 396 1)) 396 1 (0 : Int32)) 396 5 (0 : Int32)) 396 8 (0 : Int32)) 396 9 (-1 : Int32)) 396 30 ((1 : Int32) - (gI (sI (sI (sI (sI (sI S 396 2 (gI S 396 1)) 396 1 (0 : Int32)) 396 5 (0 : Int32)) 396 8 (0 : Int32)) 396 9 (-1 : Int32)) 396 13))) 396 30)).toNatClampNeg (1 : Int32)) 396 30)).toNatClampNeg (10 : Int32)) 396 30)).toNatClampNeg (0 : Int32)) 402 ((gI (sI (sI (sI (sI (sI (sI (sI (sI (sI S 396 2 (gI S 396 1)) 396 1 (0 : Int32)) 396 5 (0 : Int32)) 396 8 (0 : Int32)) 396 9 (-1 : Int32)) 396 30 ((1 : Int32) - (gI (sI (sI (sI (sI (sI S 396 2 (gI S 396 1)) 396 1 (0 : Int32)) 396 5 (0 : Int32)) 396 8 (0 : Int32)) 396 9 (-1 : Int32)) 396 13))) 399 ((gI (sI (sI (sI (sI (sI (sI S 396 2 (gI S 396 1)) 396 1 (0 : Int32)) 396 5 (0 : Int32)) 396 8 (0 : Int32)) 396 9 (-1 : Int32)) 396 30 ((1 : Int32) - (gI (sI (sI (sI (sI (sI S 396 2 (gI S 396 1)) 396 1 (0 : Int32)) 396 5 (0 : Int32)) 396 8 (0 : Int32)) 396 9 (-1 : Int32)) 396 13))) 396 30)).toNatClampNeg (1 : Int32)) 400 ((gI (sI (sI (sI (sI (sI (sI (sI S 396 2 (gI S 396 1)) 396 1 (0 : Int32)) 396 5 (0 : Int32)) 396 8 (0 : Int32)) 396 9 (-1 : Int32)) 396 30 ((1 : Int32) - (gI (sI (sI (sI (sI (sI S 396 2 (gI S 396 1)) 396 1 (0 : Int32)) 396 5 (0 : Int32)) 396 8 (0 : Int32)) 396 9 (-1 : Int32)) 396 13))) 399 ((gI (sI (sI (sI (sI (sI (sI S 396 2 (gI S 396 1)) 396 1 (0 : Int32)) 396 5 (0 : Int32)) 396 8 (0 : Int32)) 396 9 (-1 : Int32)) 396 30 ((1 : Int32) - (gI (sI (sI (sI (sI (sI S 396 2 (gI S 396 1)) 396 1 (0 : Int32)) 396 5 (0 : Int32)) 396 8 (0 : Int32)) 396 9 (-1 : Int32)) 396 13))) 396 30)).toNatClampNeg (1 : Int32)) 396 30)).toNatClampNeg (10 : Int32)) 401 ((gI (sI (sI (sI (sI (sI (sI (sI (sI S 396 2 (gI S 396 1)) 396 1 (0 : Int32)) 396 5 (0 : Int32)) 396 8 (0 : Int32)) 396 9 (-1 : Int32)) 396 30 ((1 : Int32) - (gI (sI (sI (sI (sI (sI S 396 2 (gI S 396 1)) 396 1 (0 : Int32)) 396 5 (0 : Int32)) 396 8 (0 : Int32)) 396 9 (-1 : Int32)) 396 13))) 399 ((gI (sI (sI (sI (sI (sI (sI S 396 2 (gI S 396 1)) 396 1 (0 : Int32)) 396 5 (0 : Int32)) 396 8 (0 : Int32)) 396 9 (-1 : Int32)) 396 30 ((1 : Int32) - (gI (sI (sI (sI (sI (sI S 396 2 (gI S 396 1)) 396 1 (0 : Int32)) 396 5 (0 : Int32)) 396 8 (0 : Int32)) 396 9 (-1 : Int32)) 396 13))) 396 30)).toNatClampNeg (1 : Int32)) 400 ((gI (sI (sI (sI (sI (sI (sI (sI S 396 2 (gI S 396 1)) 396 1 (0 : Int32)) 396 5 (0 : Int32)) 396 8 (0 : Int32)) 396 9 (-1 : Int32)) 396 30 ((1 : Int32) - (gI (sI (sI (sI (sI (sI S 396 2 (gI S 396 1)) 396 1 (0 : Int32)) 396 5 (0 : Int32)) 396 8 (0 : Int32)) 396 9 (-1 : Int32)) 396 13))) 399 ((gI (sI (sI (sI (sI (sI (sI S 396 2 (gI S 396 1)) 396 1 (0 : Int32)) 396 5 (0 : Int32)) 396 8 (0 : Int32)) 396 9 (-1 : Int32)) 396 30 ((1 : Int32) - (gI (sI (sI (sI (sI (sI S 396 2 (gI S 396 1)) 396 1 (0 : Int32)) 396 5 (0 : Int32)) 396 8 (0 : Int32)) 396 9 (-1 : Int32)) 396 13))) 396 30)).toNatClampNeg (1 : Int32)) 396 30)).toNatClampNeg (10 : Int32)) 396 30)).toNatClampNeg (0 : Int32)) 396 30)).toNatClampNeg (0 : Int32)) 405 ((gI (sI (sI (sI (sI (sI (sI (sI (sI (sI (sI S 396 2 (gI S 396 1)) 396 1 (0 : Int32)) 396 5 (0 : Int32)) 396 8 (0 : Int32)) 396 9 (-1 : Int32)) 396 30 ((1 : Int32) - (gI (sI (sI (sI (sI (sI S 396 2 (gI S 396 1)) 396 1 (0 : Int32)) 396 5 (0 : Int32)) 396 8 (0 : Int32)) 396 9 (-1 : Int32)) 396 13))) 399 ((gI (sI (sI (sI (sI (sI (sI S 396 2 (gI S 396 1)) 396 1 (0 : Int32)) 396 5 (0 : Int32)) 396 8 (0 : Int32)) 396 9 (-1 : Int32)) 396 30 ((1 : Int32) - (gI (sI (sI (sI (sI (sI S 396 2 (gI S 396 1)) 396 1 (0 : Int32)) 396 5 (0 : Int32)) 396 8 (0 : Int32)) 396 9 (-1 : Int32)) 396 13))) 396 30)).toNatClampNeg (1 : Int32)) 400 ((gI (sI (sI (sI (sI (sI (sI (sI S 396 2 (gI S 396 1)) 396 1 (0 : Int32)) 396 5 (0 : Int32)) 396 8 (0 : Int32)) 396 9 (-1 : Int32)) 396 30 ((1 : Int32) - (gI (sI (sI (sI (sI (sI S 396 2 (gI S 396 1)) 396 1 (0 : Int32)) 396 5 (0 : Int32)) 396 8 (0 : Int32)) 396 9 (-1 : Int32)) 396 13))) 399 ((gI (sI (sI (sI (sI (sI (sI S 396 2 (gI S 396 1)) 396 1 (0 : Int32)) 396 5 (0 : Int32)) 396 8 (0 : Int32)) 396 9 (-1 : Int32)) 396 30 ((1 : Int32) - (gI (sI (sI (sI (sI (sI S 396 2 (gI S 396 1)) 396 1 (0 : Int32)) 396 5 (0 : Int32)) 396 8 (0 : Int32)) 396 9 (-1 : Int32)) 396 13))) 396 30)).toNatClampNeg (1 : Int32)) 396 30)).toNatClampNeg (10 : Int32)) 401 ((gI (sI (sI (sI (sI (sI (sI (sI (sI S 396 2 (gI S 396 1)) 396 1 (0 : Int32)) 396 5 (0 : Int32)) 396 8 (0 : Int32)) 396 9 (-1 : Int32)) 396 30 ((1 : Int32) - (gI (sI (sI (sI (sI (sI S 396 2 (gI S 396 1)) 396 1 (0 : Int32)) 396 5 (0 : Int32)) 396 8 (0 : Int32)) 396 9 (-1 : Int32)) 396 13))) 399 ((gI (sI (sI (sI (sI (sI (sI S 396 2 (gI S 396 1)) 396 1 (0 : Int32)) 396 5 (0 : Int32)) 396 8 (0 : Int32)) 396 9 (-1 : Int32)) 396 30 ((1 : Int32) - (gI (sI (sI (sI (sI (sI S 396 2 (gI S 396 1)) 396 1 (0 : Int32)) 396 5 (0 : Int32)) 396 8 (0 : Int32)) 396 9 (-1 : Int32)) 396 13))) 396 30)).toNatClampNeg (1 : Int32)) 400 ((gI (sI (sI (sI (sI (sI (sI (sI S 396 2 (gI S 396 1)) 396 1 (0 : Int32)) 396 5 (0 : Int32)) 396 8 (0 : Int32)) 396 9 (-1 : Int32)) 396 30 ((1 : Int32) - (gI (sI (sI (sI (sI (sI S 396 2 (gI S 396 1)) 396 1 (0 : Int32)) 396 5 (0 : Int32)) 396 8 (0 : Int32)) 396 9 (-1 : Int32)) 396 13))) 399 ((gI (sI (sI (sI (sI (sI (sI S 396 2 (gI S 396 1)) 396 1 (0 : Int32)) 396 5 (0 : Int32)) 396 8 (0 : Int32)) 396 9 (-1 : Int32)) 396 30 ((1 : Int32) - (gI (sI (sI (sI (sI (sI S 396 2 (gI S 396 1)) 396 1 (0 : Int32)) 396 5 (0 : Int32)) 396 8 (0 : Int32)) 396 9 (-1 : Int32)) 396 13))) 396 30)).toNatClampNeg (1 : Int32)) 396 30)).toNatClampNeg (10 : Int32)) 396 30)).toNatClampNeg (0 : Int32)) 402 ((gI (sI (sI (sI (sI (sI (sI (sI (sI (sI S 396 2 (gI S 396 1)) 396 1 (0 : Int32)) 396 5 (0 : Int32)) 396 8 (0 : Int32)) 396 9 (-1 : Int32)) 396 30 ((1 : Int32) - (gI (sI (sI (sI (sI (sI S 396 2 (gI S 396 1)) 396 1 (0 : Int32)) 396 5 (0 : Int32)) 396 8 (0 : Int32)) 396 9 (-1 : Int32)) 396 13))) 399 ((gI (sI (sI (sI (sI (sI (sI S 396 2 (gI S 396 1)) 396 1 (0 : Int32)) 396 5 (0 : Int32)) 396 8 (0 : Int32)) 396 9 (-1 : Int32)) 396 30 ((1 : Int32) - (gI (sI (sI (sI (sI (sI S 396 2 (gI S 396 1)) 396 1 (0 : Int32)) 396 5 (0 : Int32)) 396 8 (0 : Int32)) 396 9 (-1 : Int32)) 396 13))) 396 30)).toNatClampNeg (1 : Int32)) 400 ((gI (sI (sI (sI (sI (sI (sI (sI S 396 2 (gI S 396 1)) 396 1 (0 : Int32)) 396 5 (0 : Int32)) 396 8 (0 : Int32)) 396 9 (-1 : Int32)) 396 30 ((1 : Int32) - (gI (sI (sI (sI (sI (sI S 396 2 (gI S 396 1)) 396 1 (0 : Int32)) 396 5 (0 : Int32)) 396 8 (0 : Int32)) 396 9 (-1 : Int32)) 396 13))) 399 ((gI (sI (sI (sI (sI (sI (sI S 396 2 (gI S 396 1)) 396 1 (0 : Int32)) 396 5 (0 : Int32)) 396 8 (0 : Int32)) 396 9 (-1 : Int32)) 396 30 ((1 : Int32) - (gI (sI (sI (sI (sI (sI S 396 2 (gI S 396 1)) 396 1 (0 : Int32)) 396 5 (0 : Int32)) 396 8 (0 : Int32)) 396 9 (-1 : Int32)) 396 13))) 396 30)).toNatClampNeg (1 : Int32)) 396 30)).toNatClampNeg (10 : Int32)) 401 ((gI (sI (sI (sI (sI (sI (sI (sI (sI S 396 2 (gI S 396 1)) 396 1 (0 : Int32)) 396 5 (0 : Int32)) 396 8 (0 : Int32)) 396 9 (-1 : Int32)) 396 30 ((1 : Int32) - (gI (sI (sI (sI (sI (sI S 396 2 (gI S 396 1)) 396 1 (0 : Int32)) 396 5 (0 : Int32)) 396 8 (0 : Int32)) 396 9 (-1 : Int32)) 396 13))) 399 ((gI (sI (sI (sI (sI (sI (sI S 396 2 (gI S 396 1)) 396 1 (0 : Int32)) 396 5 (0 : Int32)) 396 8 (0 : Int32)) 396 9 (-1 : Int32)) 396 30 ((1 : Int32) - (gI (sI (sI (sI (sI (sI S 396 2 (gI S 396 1)) 396 1 (0 : Int32)) 396 5 (0 : Int32)) 396 8 (0 : Int32)) 396 9 (-1 : Int32)) 396 13))) 396 30)).toNatClampNeg (1 : Int32)) 400 ((gI (sI (sI (sI (sI (sI (sI (sI S 396 2 (gI S 396 1)) 396 1 (0 : Int32)) 396 5 (0 : Int32)) 396 8 (0 : Int32)) 396 9 (-1 : Int32)) 396 30 ((1 : Int32) - (gI (sI (sI (sI (sI (sI S 396 2 (gI S 396 1)) 396 1 (0 : Int32)) 396 5 (0 : Int32)) 396 8 (0 : Int32)) 396 9 (-1 : Int32)) 396 13))) 399 ((gI (sI (sI (sI (sI (sI (sI S 396 2 (gI S 396 1)) 396 1 (0 : Int32)) 396 5 (0 : Int32)) 396 8 (0 : Int32)) 396 9 (-1 : Int32)) 396 30 ((1 : Int32) - (gI (sI (sI (sI (sI (sI S 396 2 (gI S 396 1)) 396 1 (0 : Int32)) 396 5 (0 : Int32)) 396 8 (0 : Int32)) 396 9 (-1 : Int32)) 396 13))) 396 30)).toNatClampNeg (1 : Int32)) 396 30)).toNatClampNeg (10 : Int32)) 396 30)).toNatClampNeg (0 : Int32)) 396 30)).toNatClampNeg (0 : Int32)) 396 30)).toNatClampNeg (0 : Int32)) 407 ((gI (sI (sI (sI (sI (sI (sI (sI (sI (sI (sI (sI S 396 2 (gI S 396 1)) 396 1 (0 : Int32)) 396 5 (0 : Int32)) 396 8 (0 : Int32)) 396 9 (-1 : Int32)) 396 30 ((1 : Int32) - (gI (sI (sI (sI (sI (sI S 396 2 (gI S 396 1)) 396 1 (0 : Int32)) 396 5 (0 : Int32)) 396 8 (0 : Int32)) 396 9 (-1 : Int32)) 396 13))) 399 ((gI (sI (sI (sI (sI (sI (sI S 396 2 (gI S 396 1)) 396 1 (0 : Int32)) 396 5 (0 : Int32)) 396 8 (0 : Int32)) 396 9 (-1 : Int32)) 396 30 ((1 : Int32) - (gI (sI (sI (sI (sI (sI S 396 2 (gI S 396 1)) 396 1 (0 : Int32)) 396 5 (0 : Int32)) 396 8 (0 : Int32)) 396 9 (-1 : Int32)) 396 13))) 396 30)).toNatClampNeg (1 : Int32)) 400 ((gI (sI (sI (sI (sI (sI (sI (sI S 396 2 (gI S 396 1)) 396 1 (0 : Int32)) 396 5 (0 : Int32)) 396 8 (0 : Int32)) 396 9 (-1 : Int32)) 396 30 ((1 : Int32) - (gI (sI (sI (sI (sI (sI S 396 2 (gI S 396 1)) 396 1 (0 : Int32)) 396 5 (0 : Int32)) 396 8 (0 : Int32)) 396 9 (-1 : Int32)) 396 13))) 399 ((gI (sI (sI (sI (sI (sI (sI S 396 2 (gI S 396 1)) 396 1 (0 : Int32)) 396 5 (0 : Int32)) 396 8 (0 : Int32)) 396 9 (-1 : Int32)) 396 30 ((1 : Int32) - (gI (sI (sI (sI (sI (sI S 396 2 (gI S 396 1)) 396 1 (0 : Int32)) 396 5 (0 : Int32)) 396 8 (0 : Int32)) 396 9 (-1 : Int32)) 396 13))) 396 30)).toNatClampNeg (1 : Int32)) 396 30)).toNatClampNeg (10 : Int32)) 401 ((gI (sI (sI (sI (sI (sI (sI (sI (sI S 396 2 (gI S 396 1)) 396 1 (0 : Int32)) 396 5 (0 : Int32)) 396 8 (0 : Int32)) 396 9 (-1 : Int32)) 396 30 ((1 : Int32) - (gI (sI (sI (sI (sI (sI S 396 2 (gI S 396 1)) 396 1 (0 : Int32)) 396 5 (0 : Int32)) 396 8 (0 : Int32)) 396 9 (-1 : Int32)) 396 13))) 399 ((gI (sI (sI (sI (sI (sI (sI S 396 2 (gI S 396 1)) 396 1 (0 : Int32)) 396 5 (0 : Int32)) 396 8 (0 : Int32)) 396 9 (-1 : Int32)) 396 30 ((1 : Int32) - (gI (sI (sI (sI (sI (sI S 396 2 (gI S 396 1)) 396 1 (0 : Int32)) 396 5 (0 : Int32)) 396 8 (0 : Int32)) 396 9 (-1 : Int32)) 396 13))) 396 30)).toNatClampNeg (1 : Int32)) 400 ((gI (sI (sI (sI (sI (sI (sI (sI S 396 2 (gI S 396 1)) 396 1 (0 : Int32)) 396 5 (0 : Int32)) 396 8 (0 : Int32)) 396 9 (-1 : Int32)) 396 30 ((1 : Int32) - (gI (sI (sI (sI (sI (sI S 396 2 (gI S 396 1)) 396 1 (0 : Int32)) 396 5 (0 : Int32)) 396 8 (0 : Int32)) 396 9 (-1 : Int32)) 396 13))) 399 ((gI (sI (sI (sI (sI (sI (sI S 396 2 (gI S 396 1)) 396 1 (0 : Int32)) 396 5 (0 : Int32)) 396 8 (0 : Int32)) 396 9 (-1 : Int32)) 396 30 ((1 : Int32) - (gI (sI (sI (sI (sI (sI S 396 2 (gI S 396 1)) 396 1 (0 : Int32)) 396 5 (0 : Int32)) 396 8 (0 : Int32)) 396 9 (-1 : Int32)) 396 13))) 396 30)).toNatClampNeg (1 : Int32)) 396 30)).toNatClampNeg (10 : Int32)) 396 30)).toNatClampNeg (0 : Int32)) 402 ((gI (sI (sI (sI (sI (sI (sI (sI (sI (sI S 396 2 (gI S 396 1)) 396 1 (0 : Int32)) 396 5 (0 : Int32)) 396 8 (0 : Int32)) 396 9 (-1 : Int32)) 396 30 ((1 : Int32) - (gI (sI (sI (sI (sI (sI S 396 2 (gI S 396 1)) 396 1 (0 : Int32)) 396 5 (0 : Int32)) 396 8 (0 : Int32)) 396 9 (-1 : Int32)) 396 13))) 399 ((gI (sI (sI (sI (sI (sI (sI S 396 2 (gI S 396 1)) 396 1 (0 : Int32)) 396 5 (0 : Int32)) 396 8 (0 : Int32)) 396 9 (-1 : Int32)) 396 30 ((1 : Int32) - (gI (sI (sI (sI (sI (sI S 396 2 (gI S 396 1)) 396 1 (0 : Int32)) 396 5 (0 : Int32)) 396 8 (0 : Int32)) 396 9 (-1 : Int32)) 396 13))) 396 30)).toNatClampNeg (1 : Int32)) 400 ((gI (sI (sI (sI (sI (sI (sI (sI S 396 2 (gI S 396 1)) 396 1 (0 : Int32)) 396 5 (0 : Int32)) 396 8 (0 : Int32)) 396 9 (-1 : Int32)) 396 30 ((1 : Int32) - (gI (sI (sI (sI (sI (sI S 396 2 (gI S 396 1)) 396 1 (0 : Int32)) 396 5 (0 : Int32)) 396 8 (0 : Int32)) 396 9 (-1 : Int32)) 396 13))) 399 ((gI (sI (sI (sI (sI (sI (sI S 396 2 (gI S 396 1)) 396 1 (0 : Int32)) 396 5 (0 : Int32)) 396 8 (0 : Int32)) 396 9 (-1 : Int32)) 396 30 ((1 : Int32) - (gI (sI (sI (sI (sI (sI S 396 2 (gI S 396 1)) 396 1 (0 : Int32)) 396 5 (0 : Int32)) 396 8 (0 : Int32)) 396 9 (-1 : Int32)) 396 13))) 396 30)).toNatClampNeg (1 : Int32)) 396 30)).toNatClampNeg (10 : Int32)) 401 ((gI (sI (sI (sI (sI (sI (sI (sI (sI S 396 2 (gI S 396 1)) 396 1 (0 : Int32)) 396 5 (0 : Int32)) 396 8 (0 : Int32)) 396 9 (-1 : Int32)) 396 30 ((1 : Int32) - (gI (sI (sI (sI (sI (sI S 396 2 (gI S 396 1)) 396 1 (0 : Int32)) 396 5 (0 : Int32)) 396 8 (0 : Int32)) 396 9 (-1 : Int32)) 396 13))) 399 ((gI (sI (sI (sI (sI (sI (sI S 396 2 (gI S 396 1)) 396 1 (0 : Int32)) 396 5 (0 : Int32)) 396 8 (0 : Int32)) 396 9 (-1 : Int32)) 396 30 ((1 : Int32) - (gI (sI (sI (sI (sI (sI S 396 2 (gI S 396 1)) 396 1 (0 : Int32)) 396 5 (0 : Int32)) 396 8 (0 : Int32)) 396 9 (-1 : Int32)) 396 13))) 396 30)).toNatClampNeg (1 : Int32)) 400 ((gI (sI (sI (sI (sI (sI (sI (sI S 396 2 (gI S 396 1)) 396 1 (0 : Int32)) 396 5 (0 : Int32)) 396 8 (0 : Int32)) 396 9 (-1 : Int32)) 396 30 ((1 : Int32) - (gI (sI (sI (sI (sI (sI S 396 2 (gI S 396 1)) 396 1 (0 : Int32)) 396 5 (0 : Int32)) 396 8 (0 : Int32)) 396 9 (-1 : Int32)) 396 13))) 399 ((gI (sI (sI (sI (sI (sI (sI S 396 2 (gI S 396 1)) 396 1 (0 : Int32)) 396 5 (0 : Int32)) 396 8 (0 : Int32)) 396 9 (-1 : Int32)) 396 30 ((1 : Int32) - (gI (sI (sI (sI (sI (sI S 396 2 (gI S 396 1)) 396 1 (0 : Int32)) 396 5 (0 : Int32)) 396 8 (0 : Int32)) 396 9 (-1 : Int32)) 396 13))) 396 30)).toNatClampNeg (1 : Int32)) 396 30)).toNatClampNeg (10 : Int32)) 396 30)).toNatClampNeg (0 : Int32)) 396 30)).toNatClampNeg (0 : Int32)) 405 ((gI (sI (sI (sI (sI (sI (sI (sI (sI (sI (sI S 396 2 (gI S 396 1)) 396 1 (0 : Int32)) 396 5 (0 : Int32)) 396 8 (0 : Int32)) 396 9 (-1 : Int32)) 396 30 ((1 : Int32) - (gI (sI (sI (sI (sI (sI S 396 2 (gI S 396 1)) 396 1 (0 : Int32)) 396 5 (0 : Int32)) 396 8 (0 : Int32)) 396 9 (-1 : Int32)) 396 13))) 399 ((gI (sI (sI (sI (sI (sI (sI S 396 2 (gI S 396 1)) 396 1 (0 : Int32)) 396 5 (0 : Int32)) 396 8 (0 : Int32)) 396 9 (-1 : Int32)) 396 30 ((1 : Int32) - (gI (sI (sI (sI (sI (sI S 396 2 (gI S 396 1)) 396 1 (0 : Int32)) 396 5 (0 : Int32)) 396 8 (0 : Int32)) 396 9 (-1 : Int32)) 396 13))) 396 30)).toNatClampNeg (1 : Int32)) 400 ((gI (sI (sI (sI (sI (sI (sI (sI S 396 2 (gI S 396 1)) 396 1 (0 : Int32)) 396 5 (0 : Int32)) 396 8 (0 : Int32)) 396 9 (-1 : Int32)) 396 30 ((1 : Int32) - (gI (sI (sI (sI (sI (sI S 396 2 (gI S 396 1)) 396 1 (0 : Int32)) 396 5 (0 : Int32)) 396 8 (0 : Int32)) 396 9 (-1 : Int32)) 396 13))) 399 ((gI (sI (sI (sI (sI (sI (sI S 396 2 (gI S 396 1)) 396 1 (0 : Int32)) 396 5 (0 : Int32)) 396 8 (0 : Int32)) 396 9 (-1 : Int32)) 396 30 ((1 : Int32) - (gI (sI (sI (sI (sI (sI S 396 2 (gI S 396 1)) 396 1 (0 : Int32)) 396 5 (0 : Int32)) 396 8 (0 : Int32)) 396 9 (-1 : Int32)) 396 13))) 396 30)).toNatClampNeg (1 : Int32)) 396 30)).toNatClampNeg (10 : Int32)) 401 ((gI (sI (sI (sI (sI (sI (sI (sI (sI S 396 2 (gI S 396 1)) 396 1 (0 : Int32)) 396 5 (0 : Int32)) 396 8 (0 : Int32)) 396 9 (-1 : Int32)) 396 30 ((1 : Int32) - (gI (sI (sI (sI (sI (sI S 396 2 (gI S 396 1)) 396 1 (0 : Int32)) 396 5 (0 : Int32)) 396 8 (0 : Int32)) 396 9 (-1 : Int32)) 396 13))) 399 ((gI (sI (sI (sI (sI (sI (sI S 396 2 (gI S 396 1)) 396 1 (0 : Int32)) 396 5 (0 : Int32)) 396 8 (0 : Int32)) 396 9 (-1 : Int32)) 396 30 ((1 : Int32) - (gI (sI (sI (sI (sI (sI S 396 2 (gI S 396 1)) 396 1 (0 : Int32)) 396 5 (0 : Int32)) 396 8 (0 : Int32)) 396 9 (-1 : Int32)) 396 13))) 396 30)).toNatClampNeg (1 : Int32)) 400 ((gI (sI (sI (sI (sI (sI (sI (sI S 396 2 (gI S 396 1)) 396 1 (0 : Int32)) 396 5 (0 : Int32)) 396 8 (0 : Int32)) 396 9 (-1 : Int32)) 396 30 ((1 : Int32) - (gI (sI (sI (sI (sI (sI S 396 2 (gI S 396 1)) 396 1 (0 : Int32)) 396 5 (0 : Int32)) 396 8 (0 : Int32)) 396 9 (-1 : Int32)) 396 13))) 399 ((gI (sI (sI (sI (sI (sI (sI S 396 2 (gI S 396 1)) 396 1 (0 : Int32)) 396 5 (0 : Int32)) 396 8 (0 : Int32)) 396 9 (-1 : Int32)) 396 30 ((1 : Int32) - (gI (sI (sI (sI (sI (sI S 396 2 (gI S 396 1)) 396 1 (0 : Int32)) 396 5 (0 : Int32)) 396 8 (0 : Int32)) 396 9 (-1 : Int32)) 396 13))) 396 30)).toNatClampNeg (1 : Int32)) 396 30)).toNatClampNeg (10 : Int32)) 396 30)).toNatClampNeg (0 : Int32)) 402 ((gI (sI (sI (sI (sI (sI (sI (sI (sI (sI S 396 2 (gI S 396 1)) 396 1 (0 : Int32)) 396 5 (0 : Int32)) 396 8 (0 : Int32)) 396 9 (-1 : Int32)) 396 30 ((1 : Int32) - (gI (sI (sI (sI (sI (sI S 396 2 (gI S 396 1)) 396 1 (0 : Int32)) 396 5 (0 : Int32)) 396 8 (0 : Int32)) 396 9 (-1 : Int32)) 396 13))) 399 ((gI (sI (sI (sI (sI (sI (sI S 396 2 (gI S 396 1)) 396 1 (0 : Int32)) 396 5 (0 : Int32)) 396 8 (0 : Int32)) 396 9 (-1 : Int32)) 396 30 ((1 : Int32) - (gI (sI (sI (sI (sI (sI S 396 2 (gI S 396 1)) 396 1 (0 : Int32)) 396 5 (0 : Int32)) 396 8 (0 : Int32)) 396 9 (-1 : Int32)) 396 13))) 396 30)).toNatClampNeg (1 : Int32)) 400 ((gI (sI (sI (sI (sI (sI (sI (sI S 396 2 (gI S 396 1)) 396 1 (0 : Int32)) 396 5 (0 : Int32)) 396 8 (0 : Int32)) 396 9 (-1 : Int32)) 396 30 ((1 : Int32) - (gI (sI (sI (sI (sI (sI S 396 2 (gI S 396 1)) 396 1 (0 : Int32)) 396 5 (0 : Int32)) 396 8 (0 : Int32)) 396 9 (-1 : Int32)) 396 13))) 399 ((gI (sI (sI (sI (sI (sI (sI S 396 2 (gI S 396 1)) 396 1 (0 : Int32)) 396 5 (0 : Int32)) 396 8 (0 : Int32)) 396 9 (-1 : Int32)) 396 30 ((1 : Int32) - (gI (sI (sI (sI (sI (sI S 396 2 (gI S 396 1)) 396 1 (0 : Int32)) 396 5 (0 : Int32)) 396 8 (0 : Int32)) 396 9 (-1 : Int32)) 396 13))) 396 30)).toNatClampNeg (1 : Int32)) 396 30)).toNatClampNeg (10 : Int32)) 401 ((gI (sI (sI (sI (sI (sI (sI (sI (sI S 396 2 (gI S 396 1)) 396 1 (0 : Int32)) 396 5 (0 : Int32)) 396 8 (0 : Int32)) 396 9 (-1 : Int32)) 396 30 ((1 : Int32) - (gI (sI (sI (sI (sI (sI S 396 2 (gI S 396 1)) 396 1 (0 : Int32)) 396 5 (0 : Int32)) 396 8 (0 : Int32)) 396 9 (-1 : Int32)) 396 13))) 399 ((gI (sI (sI (sI (sI (sI (sI S 396 2 (gI S 396 1)) 396 1 (0 : Int32)) 396 5 (0 : Int32)) 396 8 (0 : Int32)) 396 9 (-1 : Int32)) 396 30 ((1 : Int32) - (gI (sI (sI (sI (sI (sI S 396 2 (gI S 396 1)) 396 1 (0 : Int32)) 396 5 (0 : Int32)) 396 8 (0 : Int32)) 396 9 (-1 : Int32)) 396 13))) 396 30)).toNatClampNeg (1 : Int32)) 400 ((gI (sI (sI (sI (sI (sI (sI (sI S 396 2 (gI S 396 1)) 396 1 (0 : Int32)) 396 5 (0 : Int32)) 396 8 (0 : Int32)) 396 9 (-1 : Int32)) 396 30 ((1 : Int32) - (gI (sI (sI (sI (sI (sI S 396 2 (gI S 396 1)) 396 1 (0 : Int32)) 396 5 (0 : Int32)) 396 8 (0 : Int32)) 396 9 (-1 : Int32)) 396 13))) 399 ((gI (sI (sI (sI (sI (sI (sI S 396 2 (gI S 396 1)) 396 1 (0 : Int32)) 396 5 (0 : Int32)) 396 8 (0 : Int32)) 396 9 (-1 : Int32)) 396 30 ((1 : Int32) - (gI (sI (sI (sI (sI (sI S 396 2 (gI S 396 1)) 396 1 (0 : Int32)) 396 5 (0 : Int32)) 396 8 (0 : Int32)) 396 9 (-1 : Int32)) 396 13))) 396 30)).toNatClampNeg (1 : Int32)) 396 30)).toNatClampNeg (10 : Int32)) 396 30)).toNatClampNeg (0 : Int32)) 396 30)).toNatClampNeg (0 : Int32)) 396 30)).toNatClampNeg (0 : Int32)) 396 30)).toNatClampNeg (0 : Int32)) 396 30))]) t192_106 rfl)
theorem t193_0 : z_ft 193 0 = some (.iload_n 1, 1, none, [], 0, 0, 0, 0) := z_ftd (by decide +kernel)
theorem t193_1 : z_ft 193 1 = some (.ifCond .ne 10, 3, none, [], 11, 0, 0, 0) := z_ftd (by decide +kernel)
theorem t193_4 : z_ft 193 4 = some (.aload_n 0, 1, none, [], 0, 0, 0, 0) := z_ftd (by decide +kernel)
theorem t193_5 : z_ft 193 5 = some (.getfield 42, 3, none, [], 12, 10, 11, 0) := z_ftd (by decide +kernel)
theorem t193_8 : z_ft 193 8 = some (.goto 16, 3, none, [], 24, 0, 0, 0) := z_ftd (by decide +kernel)
theorem t193_11 : z_ft 193 11 = some (.iload_n 1, 1, none, [], 0, 0, 0, 0) := z_ftd (by decide +kernel)
theorem t193_12 : z_ft 193 12 = some (.iconst 1, 1, none, [], 0, 0, 0, 0) := z_ftd (by decide +kernel)
theorem t193_13 : z_ft 193 13 = some (.if_icmp .ne 10, 3, none, [], 23, 0, 0, 0) := z_ftd (by decide +kernel)
theorem t193_16 : z_ft 193 16 = some (.aload_n 0, 1, none, [], 0, 0, 0, 0) := z_ftd (by decide +kernel)
theorem t193_17 : z_ft 193 17 = some (.getfield 45, 3, none, [], 12, 11, 12, 0) := z_ftd (by decide +kernel)
theorem t193_20 : z_ft 193 20 = some (.goto 4, 3, none, [], 24, 0, 0, 0) := z_ftd (by decide +kernel)
theorem t193_23 : z_ft 193 23 = some (.iconst (-1), 1, none, [], 0, 0, 0, 0) := z_ftd (by decide +kernel)
theorem t193_24 : z_ft 193 24 = some (.ireturn, 1, (some []), [], 0, 0, 0, 0) := z_ftd (by decide +kernel)
-- X12_fault
theorem e193 (d : Nat) (x1 : Int32) (S : z_S) (hW : z_W S)  : fI (d + 1) 193 [.ref 396, .int x1] S = (if ¬ x1 = (0 : Int32) then (if ¬ x1 = (1 : Int32) then some ((-1 : Int32), S) else some ((gI S 396 11), S)) else some ((gI S 396 10), S)) := by
  refine (fI_en (Nat.le_of_ble_eq_true rfl) rfl).trans ?_
  refine (k_iload_n t193_0 rfl rfl).trans ?_
  refine (k_if_ne t193_1 rfl).trans (z_ite (fun g1 => ?_) (fun g1 => ?_))
  · refine (k_iload_n t193_11 rfl rfl).trans ?_
    refine (k_iconst t193_12 rfl zci_1).trans ?_
    refine (k_icmp_ne t193_13 rfl).trans (z_ite (fun g2 => ?_) (fun g2 => ?_))
    · refine (k_iconst t193_23 rfl zci_m1).trans ?_
      refine (zk_mk (ls' := [z_j, z_j]) t193_24 rfl).trans ?_
      exact k_ireturn t193_24 rfl (by decide)
    · refine (k_aload_n t193_16 rfl rfl).trans ?_
      refine (k_getI t193_17 rfl hW zK_396 (by decide) (by decide)).trans ?_
      refine (k_goto t193_20 rfl).trans ?_
      refine (zk_mk (ls' := [z_j, z_j]) t193_24 rfl).trans ?_
      exact k_ireturn t193_24 rfl (by decide)
  · refine (k_aload_n t193_4 rfl rfl).trans ?_
    refine (k_getI t193_5 rfl hW zK_396 (by decide) (by decide)).trans ?_
    refine (k_goto t193_8 rfl).trans ?_
    refine (zk_mk (ls' := [z_j, z_j]) t193_24 rfl).trans ?_
    exact k_ireturn t193_24 rfl (by decide)
theorem t194_0 : z_ft 194 0 = some (.aload_n 0, 1, none, [], 0, 0, 0, 0) := z_ftd (by decide +kernel)
theorem t194_1 : z_ft 194 1 = some (.getfield 144, 3, none, [], 12, 43, 44, 0) := z_ftd (by decide +kernel)
theorem t194_4 : z_ft 194 4 = some (.iload_n 1, 1, none, [], 0, 0, 0, 0) := z_ftd (by decide +kernel)
theorem t194_5 : z_ft 194 5 = some (.dup2, 1, none, [], 0, 0, 0, 0) := z_ftd (by decide +kernel)
theorem t194_6 : z_ft 194 6 = some (.iaload, 1, none, [], 0, 0, 0, 0) := z_ftd (by decide +kernel)
theorem t194_7 : z_ft 194 7 = some (.iconst 1, 1, none, [], 0, 0, 0, 0) := z_ftd (by decide +kernel)
theorem t194_8 : z_ft 194 8 = some (.iadd, 1, none, [], 0, 0, 0, 0) := z_ftd (by decide +kernel)
theorem t194_9 : z_ft 194 9 = some (.iastore, 1, none, [], 0, 0, 0, 0) := z_ftd (by decide +kernel)
theorem t194_10 : z_ft 194 10 = some (.iconst (-1), 1, none, [], 0, 0, 0, 0) := z_ftd (by decide +kernel)
theorem t194_11 : z_ft 194 11 = some (.ireturn, 1, none, [], 0, 0, 0, 0) := z_ftd (by decide +kernel)
-- X12_refuses
theorem e194 (d : Nat) (x1 : Int32) (S : z_S) (hW : z_W S)  : fI (d + 1) 194 [.ref 396, .int x1] S = (if z_in x1 6 then (if z_in x1 6 then some ((-1 : Int32), sI S 419 (x1).toNatClampNeg ((gI S 419 (x1).toNatClampNeg) + (1 : Int32))) else none) else none) := by
  refine (fI_en (Nat.le_of_ble_eq_true rfl) rfl).trans ?_
  refine (k_aload_n t194_0 rfl rfl).trans ?_
  refine (k_getR t194_1 rfl hW zK_396 (by decide) (by decide) (zF_396_43 hW)).trans ?_
  refine (k_iload_n t194_4 rfl rfl).trans ?_
  refine (k_dup2IR t194_5 rfl).trans ?_
  refine (k_iald t194_6 rfl hW zK_419 zL_419).trans (z_ite (fun g1 => ?_) (fun _ => rfl))
  refine (k_iconst t194_7 rfl zci_1).trans ?_
  refine (k_iadd t194_8 rfl).trans ?_
  refine (k_iast t194_9 rfl hW zK_419 zL_419).trans (z_ite (fun g2 => ?_) (fun _ => rfl))
  refine (k_iconst t194_10 rfl zci_m1).trans ?_
  exact k_ireturn t194_11 rfl (by decide)
