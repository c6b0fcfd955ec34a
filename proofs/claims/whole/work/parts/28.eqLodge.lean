/-! EQUATIONS of Lodge (written by wip/whole/gen/eqs.py). -/
theorem t106_0 : z_ft 106 0 = some (.aload_n 0, 1, none, [], 0, 0, 0, 0) := z_ftd (by decide +kernel)
theorem t106_1 : z_ft 106 1 = some (.getfield 13, 3, none, [], 11, 1, 50, 0) := z_ftd (by decide +kernel)
theorem t106_4 : z_ft 106 4 = some (.bipush 20, 2, none, [], 0, 0, 0, 0) := z_ftd (by decide +kernel)
theorem t106_6 : z_ft 106 6 = some (.iadd, 1, none, [], 0, 0, 0, 0) := z_ftd (by decide +kernel)
theorem t106_7 : z_ft 106 7 = some (.sipush 1600, 3, none, [], 0, 0, 0, 0) := z_ftd (by decide +kernel)
theorem t106_10 : z_ft 106 10 = some (.if_icmp .le 9, 3, none, [], 19, 0, 0, 0) := z_ftd (by decide +kernel)
theorem t106_13 : z_ft 106 13 = some (.aload_n 0, 1, none, [], 0, 0, 0, 0) := z_ftd (by decide +kernel)
theorem t106_14 : z_ft 106 14 = some (.iconst 0, 1, none, [], 0, 0, 0, 0) := z_ftd (by decide +kernel)
theorem t106_15 : z_ft 106 15 = some (.invokevirtual 100, 3, none, [], 150, 0, 66, 0) := z_ftd (by decide +kernel)
theorem t106_18 : z_ft 106 18 = some (.ireturn, 1, none, [], 0, 0, 0, 0) := z_ftd (by decide +kernel)
theorem t106_19 : z_ft 106 19 = some (.aload_n 0, 1, none, [], 0, 0, 0, 0) := z_ftd (by decide +kernel)
theorem t106_20 : z_ft 106 20 = some (.iload_n 1, 1, none, [], 0, 0, 0, 0) := z_ftd (by decide +kernel)
theorem t106_21 : z_ft 106 21 = some (.invokevirtual 104, 3, none, [], 107, 0, 67, 0) := z_ftd (by decide +kernel)
theorem t106_24 : z_ft 106 24 = some (.aload_n 0, 1, none, [], 0, 0, 0, 0) := z_ftd (by decide +kernel)
theorem t106_25 : z_ft 106 25 = some (.iload_n 2, 1, none, [], 0, 0, 0, 0) := z_ftd (by decide +kernel)
theorem t106_26 : z_ft 106 26 = some (.invokevirtual 104, 3, none, [], 107, 0, 67, 0) := z_ftd (by decide +kernel)
theorem t106_29 : z_ft 106 29 = some (.aload_n 0, 1, none, [], 0, 0, 0, 0) := z_ftd (by decide +kernel)
theorem t106_30 : z_ft 106 30 = some (.iload_n 3, 1, none, [], 0, 0, 0, 0) := z_ftd (by decide +kernel)
theorem t106_31 : z_ft 106 31 = some (.invokevirtual 104, 3, none, [], 107, 0, 67, 0) := z_ftd (by decide +kernel)
theorem t106_34 : z_ft 106 34 = some (.aload_n 0, 1, none, [], 0, 0, 0, 0) := z_ftd (by decide +kernel)
theorem t106_35 : z_ft 106 35 = some (.iload 4, 2, none, [], 0, 0, 0, 0) := z_ftd (by decide +kernel)
theorem t106_37 : z_ft 106 37 = some (.invokevirtual 104, 3, none, [], 107, 0, 67, 0) := z_ftd (by decide +kernel)
theorem t106_40 : z_ft 106 40 = some (.aload_n 0, 1, none, [], 0, 0, 0, 0) := z_ftd (by decide +kernel)
theorem t106_41 : z_ft 106 41 = some (.iload 5, 2, none, [], 0, 0, 0, 0) := z_ftd (by decide +kernel)
theorem t106_43 : z_ft 106 43 = some (.invokevirtual 104, 3, none, [], 107, 0, 67, 0) := z_ftd (by decide +kernel)
theorem t106_46 : z_ft 106 46 = some (.aload_n 0, 1, none, [], 0, 0, 0, 0) := z_ftd (by decide +kernel)
theorem t106_47 : z_ft 106 47 = some (.getfield 13, 3, none, [], 11, 1, 50, 0) := z_ftd (by decide +kernel)
theorem t106_50 : z_ft 106 50 = some (.ireturn, 1, none, [], 0, 0, 0, 0) := z_ftd (by decide +kernel)
-- X11_feed
theorem e106 (d : Nat) (x1 : Int32) (x2 : Int32) (x3 : Int32) (x4 : Int32) (x5 : Int32) (S : z_S) (hW : z_W S)  : fI (d + 1) 106 [.ref 0, .int x1, .int x2, .int x3, .int x4, .int x5] S = (if ((gI S 0 1) + (20 : Int32)) ≤ (1600 : Int32) then ((fV d 107 [.ref 0, .int x1] S).bind fun S3 => ((fV d 107 [.ref 0, .int x2] S3).bind fun S5 => ((fV d 107 [.ref 0, .int x3] S5).bind fun S7 => ((fV d 107 [.ref 0, .int x4] S7).bind fun S9 => ((fV d 107 [.ref 0, .int x5] S9).bind fun S11 => some ((gI S11 0 1), S11)))))) else (zb (fI d 150 [.ref 0, .int (0 : Int32)] S) fun v12 S13 => some (v12, S13))) := by
  refine (fI_en (Nat.le_of_ble_eq_true rfl) rfl).trans ?_
  refine (k_aload_n t106_0 rfl rfl).trans ?_
  refine (k_getI t106_1 rfl hW zK_0 (by decide) (by decide)).trans ?_
  refine (k_bipush t106_4 rfl zcb_20).trans ?_
  refine (k_iadd t106_6 rfl).trans ?_
  refine (k_sipush t106_7 rfl zcs_1600).trans ?_
  refine (k_icmp_le t106_10 rfl).trans (z_ite (fun g1 => ?_) (fun g1 => ?_))
  · refine (k_aload_n t106_19 rfl rfl).trans ?_
    refine (k_iload_n t106_20 rfl rfl).trans ?_
    refine k_callV (as := [.ref 0, .int x1]) (rest := []) t106_21 rfl rfl (by decide) rfl rfl (Nat.le_of_ble_eq_true rfl) rfl (z_rcV hW (zK_0) (by decide)) (by decide) (by decide) hW (fun S3 hW3 => ?_)
    refine (k_aload_n t106_24 rfl rfl).trans ?_
    refine (k_iload_n t106_25 rfl rfl).trans ?_
    refine k_callV (as := [.ref 0, .int x2]) (rest := []) t106_26 rfl rfl (by decide) rfl rfl (Nat.le_of_ble_eq_true rfl) rfl (z_rcV hW3 (zK_0) (by decide)) (by decide) (by decide) hW3 (fun S5 hW5 => ?_)
    refine (k_aload_n t106_29 rfl rfl).trans ?_
    refine (k_iload_n t106_30 rfl rfl).trans ?_
    refine k_callV (as := [.ref 0, .int x3]) (rest := []) t106_31 rfl rfl (by decide) rfl rfl (Nat.le_of_ble_eq_true rfl) rfl (z_rcV hW5 (zK_0) (by decide)) (by decide) (by decide) hW5 (fun S7 hW7 => ?_)
    refine (k_aload_n t106_34 rfl rfl).trans ?_
    refine (k_iload t106_35 rfl rfl).trans ?_
    refine k_callV (as := [.ref 0, .int x4]) (rest := []) t106_37 rfl rfl (by decide) rfl rfl (Nat.le_of_ble_eq_true rfl) rfl (z_rcV hW7 (zK_0) (by decide)) (by decide) (by decide) hW7 (fun S9 hW9 => ?_)
    refine (k_aload_n t106_40 rfl rfl).trans ?_
    refine (k_iload t106_41 rfl rfl).trans ?_
    refine k_callV (as := [.ref 0, .int x5]) (rest := []) t106_43 rfl rfl (by decide) rfl rfl (Nat.le_of_ble_eq_true rfl) rfl (z_rcV hW9 (zK_0) (by decide)) (by decide) (by decide) hW9 (fun S11 hW11 => ?_)
    refine (k_aload_n t106_46 rfl rfl).trans ?_
    refine (k_getI t106_47 rfl hW11 zK_0 (by decide) (by decide)).trans ?_
    exact k_ireturn t106_50 rfl (by decide)
  · refine (k_aload_n t106_13 rfl rfl).trans ?_
    refine (k_iconst t106_14 rfl zci_0).trans ?_
    refine k_callI (as := [.ref 0, .int (0 : Int32)]) (rest := []) t106_15 rfl rfl (by decide) rfl rfl (Nat.le_of_ble_eq_true rfl) rfl (z_rcV hW (zK_0) (by decide)) (by decide) (Or.inl (by decide)) hW (fun v12 S13 hW13 => ?_)
    exact k_ireturn t106_18 rfl (by decide)
theorem t107_0 : z_ft 107 0 = some (.bipush 24, 2, none, [], 0, 0, 0, 0) := z_ftd (by decide +kernel)
theorem t107_2 : z_ft 107 2 = some (.istore_n 2, 1, none, [], 0, 0, 0, 0) := z_ftd (by decide +kernel)
theorem t107_3 : z_ft 107 3 = some (.iload_n 2, 1, (some [0, 1, 2]), [], 0, 0, 0, 0) := z_ftd (by decide +kernel)
theorem t107_4 : z_ft 107 4 = some (.ifCond .lt 45, 3, none, [], 49, 0, 0, 0) := z_ftd (by decide +kernel)
theorem t107_7 : z_ft 107 7 = some (.aload_n 0, 1, none, [], 0, 0, 0, 0) := z_ftd (by decide +kernel)
theorem t107_8 : z_ft 107 8 = some (.getfield 13, 3, none, [], 11, 1, 50, 0) := z_ftd (by decide +kernel)
theorem t107_11 : z_ft 107 11 = some (.sipush 1600, 3, none, [], 0, 0, 0, 0) := z_ftd (by decide +kernel)
theorem t107_14 : z_ft 107 14 = some (.if_icmp .ge 35, 3, none, [], 49, 0, 0, 0) := z_ftd (by decide +kernel)
theorem t107_17 : z_ft 107 17 = some (.aload_n 0, 1, none, [], 0, 0, 0, 0) := z_ftd (by decide +kernel)
theorem t107_18 : z_ft 107 18 = some (.getfield 9, 3, none, [], 11, 0, 49, 0) := z_ftd (by decide +kernel)
theorem t107_21 : z_ft 107 21 = some (.aload_n 0, 1, none, [], 0, 0, 0, 0) := z_ftd (by decide +kernel)
theorem t107_22 : z_ft 107 22 = some (.getfield 13, 3, none, [], 11, 1, 50, 0) := z_ftd (by decide +kernel)
theorem t107_25 : z_ft 107 25 = some (.iload_n 1, 1, none, [], 0, 0, 0, 0) := z_ftd (by decide +kernel)
theorem t107_26 : z_ft 107 26 = some (.iload_n 2, 1, none, [], 0, 0, 0, 0) := z_ftd (by decide +kernel)
theorem t107_27 : z_ft 107 27 = some (.ishr, 1, none, [], 0, 0, 0, 0) := z_ftd (by decide +kernel)
theorem t107_28 : z_ft 107 28 = some (.sipush 255, 3, none, [], 0, 0, 0, 0) := z_ftd (by decide +kernel)
theorem t107_31 : z_ft 107 31 = some (.iand, 1, none, [], 0, 0, 0, 0) := z_ftd (by decide +kernel)
theorem t107_32 : z_ft 107 32 = some (.iastore, 1, none, [], 0, 0, 0, 0) := z_ftd (by decide +kernel)
theorem t107_33 : z_ft 107 33 = some (.aload_n 0, 1, none, [], 0, 0, 0, 0) := z_ftd (by decide +kernel)
theorem t107_34 : z_ft 107 34 = some (.dup, 1, none, [], 0, 0, 0, 0) := z_ftd (by decide +kernel)
theorem t107_35 : z_ft 107 35 = some (.getfield 13, 3, none, [], 11, 1, 50, 0) := z_ftd (by decide +kernel)
theorem t107_38 : z_ft 107 38 = some (.iconst 1, 1, none, [], 0, 0, 0, 0) := z_ftd (by decide +kernel)
theorem t107_39 : z_ft 107 39 = some (.iadd, 1, none, [], 0, 0, 0, 0) := z_ftd (by decide +kernel)
theorem t107_40 : z_ft 107 40 = some (.putfield 13, 3, none, [], 11, 1, 50, 0) := z_ftd (by decide +kernel)
theorem t107_43 : z_ft 107 43 = some (.iinc 2 (-8), 3, none, [], 0, 0, 0, 0) := z_ftd (by decide +kernel)
theorem t107_46 : z_ft 107 46 = some (.goto (-43), 3, none, [], 3, 0, 0, 0) := z_ftd (by decide +kernel)
theorem t107_49 : z_ft 107 49 = some (.return_, 1, (some []), [], 0, 0, 0, 0) := z_ftd (by decide +kernel)
noncomputable def b107_3 (d : Nat) (y1 : Int32) (y2 : Int32) (S : z_S) : Option z_S := zk kV z_X0 d 107 3 [.ref 0, .int y1, .int y2] [] S
theorem b107_3_eq (d : Nat) (y1 : Int32) (y2 : Int32) (S : z_S) (hW : z_W S)  : b107_3 d y1 y2 S = (if y2 < (0 : Int32) then some S else (if (1600 : Int32) ≤ (gI S 0 1) then some S else (if z_in (gI S 0 1) 1600 then b107_3 d y1 (y2 + (-8 : Int32)) (sI (sI S 1 ((gI S 0 1)).toNatClampNeg ((y1 >>> (y2 &&& 31)) &&& (255 : Int32))) 0 1 ((gI (sI S 1 ((gI S 0 1)).toNatClampNeg ((y1 >>> (y2 &&& 31)) &&& (255 : Int32))) 0 1) + (1 : Int32))) else none))) := by
  unfold b107_3
  refine (k_iload_n t107_3 rfl rfl).trans ?_
  refine (k_if_lt t107_4 rfl).trans (z_ite (fun g1 => ?_) (fun g1 => ?_))
  · refine (zk_mk (ls' := [z_j, z_j, z_j]) t107_49 rfl).trans ?_
    exact k_return t107_49 rfl (by decide)
  · refine (k_aload_n t107_7 rfl rfl).trans ?_
    refine (k_getI t107_8 rfl hW zK_0 (by decide) (by decide)).trans ?_
    refine (k_sipush t107_11 rfl zcs_1600).trans ?_
    refine (k_icmp_ge t107_14 rfl).trans (z_ite (fun g2 => ?_) (fun g2 => ?_))
    · refine (zk_mk (ls' := [z_j, z_j, z_j]) t107_49 rfl).trans ?_
      exact k_return t107_49 rfl (by decide)
    · refine (k_aload_n t107_17 rfl rfl).trans ?_
      refine (k_getR t107_18 rfl hW zK_0 (by decide) (by decide) (zF_0_0 hW)).trans ?_
      refine (k_aload_n t107_21 rfl rfl).trans ?_
      refine (k_getI t107_22 rfl hW zK_0 (by decide) (by decide)).trans ?_
      refine (k_iload_n t107_25 rfl rfl).trans ?_
      refine (k_iload_n t107_26 rfl rfl).trans ?_
      refine (k_ishr t107_27 rfl).trans ?_
      refine (k_sipush t107_28 rfl zcs_255).trans ?_
      refine (k_iand t107_31 rfl).trans ?_
      refine (k_iast t107_32 rfl hW zK_1 zL_1).trans (z_ite (fun g3 => ?_) (fun _ => rfl))
      refine (k_aload_n t107_33 rfl rfl).trans ?_
      refine (k_dupR t107_34 rfl).trans ?_
      refine (k_getI t107_35 rfl hW.sI zK_0 (by decide) (by decide)).trans ?_
      refine (k_iconst t107_38 rfl zci_1).trans ?_
      refine (k_iadd t107_39 rfl).trans ?_
      refine (k_putI t107_40 rfl hW.sI zK_0 (by decide) (by decide) (by decide)).trans ?_
      refine (k_iinc (b := (y2 + (-8 : Int32))) (ls' := [.ref 0, .int y1, .int (y2 + (-8 : Int32))]) t107_43 rfl rfl (by rw [zci_m8]) rfl).trans ?_
      refine (k_goto t107_46 rfl).trans ?_
      exact (zk_mk (ls' := [.ref 0, .int y1, .int (y2 + (-8 : Int32))]) t107_3 rfl)
-- X11_putFour
theorem e107 (d : Nat) (x1 : Int32) (S : z_S) (hW : z_W S)  : fV (d + 1) 107 [.ref 0, .int x1] S = b107_3 d x1 (24 : Int32) S := by
  refine (fV_en (Nat.le_of_ble_eq_true rfl) rfl).trans ?_
  refine (k_bipush t107_0 rfl zcb_24).trans ?_
  refine (k_istore_n (ls' := [.ref 0, .int x1, .int (24 : Int32)]) t107_2 rfl rfl).trans ?_
  exact (zk_mk (ls' := [.ref 0, .int x1, .int (24 : Int32)]) t107_3 rfl)
theorem t108_0 : z_ft 108 0 = some (.iload_n 1, 1, none, [], 0, 0, 0, 0) := z_ftd (by decide +kernel)
theorem t108_1 : z_ft 108 1 = some (.ifCond .lt 11, 3, none, [], 12, 0, 0, 0) := z_ftd (by decide +kernel)
theorem t108_4 : z_ft 108 4 = some (.iload_n 1, 1, none, [], 0, 0, 0, 0) := z_ftd (by decide +kernel)
theorem t108_5 : z_ft 108 5 = some (.aload_n 0, 1, none, [], 0, 0, 0, 0) := z_ftd (by decide +kernel)
theorem t108_6 : z_ft 108 6 = some (.getfield 13, 3, none, [], 11, 1, 50, 0) := z_ftd (by decide +kernel)
theorem t108_9 : z_ft 108 9 = some (.if_icmp .le 15, 3, none, [], 24, 0, 0, 0) := z_ftd (by decide +kernel)
theorem t108_12 : z_ft 108 12 = some (.aload_n 0, 1, (some [0]), [], 0, 0, 0, 0) := z_ftd (by decide +kernel)
theorem t108_13 : z_ft 108 13 = some (.getfield 88, 3, none, [], 11, 13, 62, 0) := z_ftd (by decide +kernel)
theorem t108_16 : z_ft 108 16 = some (.iconst 0, 1, none, [], 0, 0, 0, 0) := z_ftd (by decide +kernel)
theorem t108_17 : z_ft 108 17 = some (.dup2, 1, none, [], 0, 0, 0, 0) := z_ftd (by decide +kernel)
theorem t108_18 : z_ft 108 18 = some (.iaload, 1, none, [], 0, 0, 0, 0) := z_ftd (by decide +kernel)
theorem t108_19 : z_ft 108 19 = some (.iconst 1, 1, none, [], 0, 0, 0, 0) := z_ftd (by decide +kernel)
theorem t108_20 : z_ft 108 20 = some (.iadd, 1, none, [], 0, 0, 0, 0) := z_ftd (by decide +kernel)
theorem t108_21 : z_ft 108 21 = some (.iastore, 1, none, [], 0, 0, 0, 0) := z_ftd (by decide +kernel)
theorem t108_22 : z_ft 108 22 = some (.iconst 0, 1, none, [], 0, 0, 0, 0) := z_ftd (by decide +kernel)
theorem t108_23 : z_ft 108 23 = some (.ireturn, 1, none, [], 0, 0, 0, 0) := z_ftd (by decide +kernel)
theorem t108_24 : z_ft 108 24 = some (.aload_n 0, 1, none, [], 0, 0, 0, 0) := z_ftd (by decide +kernel)
theorem t108_25 : z_ft 108 25 = some (.iload_n 1, 1, none, [], 0, 0, 0, 0) := z_ftd (by decide +kernel)
theorem t108_26 : z_ft 108 26 = some (.putfield 13, 3, none, [], 11, 1, 50, 0) := z_ftd (by decide +kernel)
theorem t108_29 : z_ft 108 29 = some (.iconst 1, 1, none, [], 0, 0, 0, 0) := z_ftd (by decide +kernel)
theorem t108_30 : z_ft 108 30 = some (.ireturn, 1, none, [], 0, 0, 0, 0) := z_ftd (by decide +kernel)
noncomputable def b108_12 (d : Nat)  (S : z_S) : Option (Int32 × z_S) := zk kI z_X0 d 108 12 [.ref 0, z_j] [] S
theorem b108_12_eq (d : Nat)  (S : z_S) (hW : z_W S)  : b108_12 d  S = (if z_in (0 : Int32) 6 then (if z_in (0 : Int32) 6 then some ((0 : Int32), sI S 395 ((0 : Int32)).toNatClampNeg ((gI S 395 ((0 : Int32)).toNatClampNeg) + (1 : Int32))) else none) else none) := by
  unfold b108_12
  refine (k_aload_n t108_12 rfl rfl).trans ?_
  refine (k_getR t108_13 rfl hW zK_0 (by decide) (by decide) (zF_0_13 hW)).trans ?_
  refine (k_iconst t108_16 rfl zci_0).trans ?_
  refine (k_dup2IR t108_17 rfl).trans ?_
  refine (k_iald t108_18 rfl hW zK_395 zL_395).trans (z_ite (fun g3 => ?_) (fun _ => rfl))
  refine (k_iconst t108_19 rfl zci_1).trans ?_
  refine (k_iadd t108_20 rfl).trans ?_
  refine (k_iast t108_21 rfl hW zK_395 zL_395).trans (z_ite (fun g4 => ?_) (fun _ => rfl))
  refine (k_iconst t108_22 rfl zci_0).trans ?_
  exact k_zretC t108_23 rfl (by decide) (by decide)
-- X11_end
theorem e108 (d : Nat) (x1 : Int32) (S : z_S) (hW : z_W S)  : fI (d + 1) 108 [.ref 0, .int x1] S = (if x1 < (0 : Int32) then b108_12 d S else (if x1 ≤ (gI S 0 1) then some ((1 : Int32), sI S 0 1 x1) else b108_12 d S)) := by
  refine (fI_en (Nat.le_of_ble_eq_true rfl) rfl).trans ?_
  refine (k_iload_n t108_0 rfl rfl).trans ?_
  refine (k_if_lt t108_1 rfl).trans (z_ite (fun g1 => ?_) (fun g1 => ?_))
  · exact (zk_mk (ls' := [.ref 0, z_j]) t108_12 rfl)
  · refine (k_iload_n t108_4 rfl rfl).trans ?_
    refine (k_aload_n t108_5 rfl rfl).trans ?_
    refine (k_getI t108_6 rfl hW zK_0 (by decide) (by decide)).trans ?_
    refine (k_icmp_le t108_9 rfl).trans (z_ite (fun g2 => ?_) (fun g2 => ?_))
    · refine (k_aload_n t108_24 rfl rfl).trans ?_
      refine (k_iload_n t108_25 rfl rfl).trans ?_
      refine (k_putI t108_26 rfl hW zK_0 (by decide) (by decide) (by decide)).trans ?_
      refine (k_iconst t108_29 rfl zci_1).trans ?_
      exact k_zretC t108_30 rfl (by decide) (by decide)
    · exact (zk_mk (ls' := [.ref 0, z_j]) t108_12 rfl)
theorem t109_0 : z_ft 109 0 = some (.aload_n 0, 1, none, [], 0, 0, 0, 0) := z_ftd (by decide +kernel)
theorem t109_1 : z_ft 109 1 = some (.getfield 32, 3, none, [], 11, 4, 53, 0) := z_ftd (by decide +kernel)
theorem t109_4 : z_ft 109 4 = some (.aload_n 0, 1, none, [], 0, 0, 0, 0) := z_ftd (by decide +kernel)
theorem t109_5 : z_ft 109 5 = some (.getfield 9, 3, none, [], 11, 0, 49, 0) := z_ftd (by decide +kernel)
theorem t109_8 : z_ft 109 8 = some (.aload_n 0, 1, none, [], 0, 0, 0, 0) := z_ftd (by decide +kernel)
theorem t109_9 : z_ft 109 9 = some (.getfield 13, 3, none, [], 11, 1, 50, 0) := z_ftd (by decide +kernel)
theorem t109_12 : z_ft 109 12 = some (.aload_n 0, 1, none, [], 0, 0, 0, 0) := z_ftd (by decide +kernel)
theorem t109_13 : z_ft 109 13 = some (.getfield 24, 3, none, [], 11, 3, 52, 0) := z_ftd (by decide +kernel)
theorem t109_16 : z_ft 109 16 = some (.invokevirtual 108, 3, none, [], 8, 0, 68, 0) := z_ftd (by decide +kernel)
theorem t109_19 : z_ft 109 19 = some (.istore_n 1, 1, none, [], 0, 0, 0, 0) := z_ftd (by decide +kernel)
theorem t109_20 : z_ft 109 20 = some (.aload_n 0, 1, none, [], 0, 0, 0, 0) := z_ftd (by decide +kernel)
theorem t109_21 : z_ft 109 21 = some (.iconst 0, 1, none, [], 0, 0, 0, 0) := z_ftd (by decide +kernel)
theorem t109_22 : z_ft 109 22 = some (.putfield 13, 3, none, [], 11, 1, 50, 0) := z_ftd (by decide +kernel)
theorem t109_25 : z_ft 109 25 = some (.aload_n 0, 1, none, [], 0, 0, 0, 0) := z_ftd (by decide +kernel)
theorem t109_26 : z_ft 109 26 = some (.aload_n 0, 1, none, [], 0, 0, 0, 0) := z_ftd (by decide +kernel)
theorem t109_27 : z_ft 109 27 = some (.getfield 32, 3, none, [], 11, 4, 53, 0) := z_ftd (by decide +kernel)
theorem t109_30 : z_ft 109 30 = some (.getfield 112, 3, none, [], 1, 0, 16, 0) := z_ftd (by decide +kernel)
theorem t109_33 : z_ft 109 33 = some (.putfield 94, 3, none, [], 11, 15, 64, 0) := z_ftd (by decide +kernel)
theorem t109_36 : z_ft 109 36 = some (.aload_n 0, 1, none, [], 0, 0, 0, 0) := z_ftd (by decide +kernel)
theorem t109_37 : z_ft 109 37 = some (.aload_n 0, 1, none, [], 0, 0, 0, 0) := z_ftd (by decide +kernel)
theorem t109_38 : z_ft 109 38 = some (.getfield 32, 3, none, [], 11, 4, 53, 0) := z_ftd (by decide +kernel)
theorem t109_41 : z_ft 109 41 = some (.getfield 115, 3, none, [], 1, 1, 17, 0) := z_ftd (by decide +kernel)
theorem t109_44 : z_ft 109 44 = some (.putfield 97, 3, none, [], 11, 16, 65, 0) := z_ftd (by decide +kernel)
theorem t109_47 : z_ft 109 47 = some (.iload_n 1, 1, none, [], 0, 0, 0, 0) := z_ftd (by decide +kernel)
theorem t109_48 : z_ft 109 48 = some (.ifCond .ne 9, 3, none, [], 57, 0, 0, 0) := z_ftd (by decide +kernel)
theorem t109_51 : z_ft 109 51 = some (.aload_n 0, 1, none, [], 0, 0, 0, 0) := z_ftd (by decide +kernel)
theorem t109_52 : z_ft 109 52 = some (.iconst 1, 1, none, [], 0, 0, 0, 0) := z_ftd (by decide +kernel)
theorem t109_53 : z_ft 109 53 = some (.invokevirtual 100, 3, none, [], 150, 0, 66, 0) := z_ftd (by decide +kernel)
theorem t109_56 : z_ft 109 56 = some (.ireturn, 1, none, [], 0, 0, 0, 0) := z_ftd (by decide +kernel)
theorem t109_57 : z_ft 109 57 = some (.aload_n 0, 1, none, [], 0, 0, 0, 0) := z_ftd (by decide +kernel)
theorem t109_58 : z_ft 109 58 = some (.getfield 20, 3, none, [], 11, 2, 51, 0) := z_ftd (by decide +kernel)
theorem t109_61 : z_ft 109 61 = some (.astore_n 2, 1, none, [], 0, 0, 0, 0) := z_ftd (by decide +kernel)
theorem t109_62 : z_ft 109 62 = some (.aload_n 0, 1, none, [], 0, 0, 0, 0) := z_ftd (by decide +kernel)
theorem t109_63 : z_ft 109 63 = some (.aload_n 0, 1, none, [], 0, 0, 0, 0) := z_ftd (by decide +kernel)
theorem t109_64 : z_ft 109 64 = some (.getfield 24, 3, none, [], 11, 3, 52, 0) := z_ftd (by decide +kernel)
theorem t109_67 : z_ft 109 67 = some (.putfield 20, 3, none, [], 11, 2, 51, 0) := z_ftd (by decide +kernel)
theorem t109_70 : z_ft 109 70 = some (.aload_n 0, 1, none, [], 0, 0, 0, 0) := z_ftd (by decide +kernel)
theorem t109_71 : z_ft 109 71 = some (.aload_n 2, 1, none, [], 0, 0, 0, 0) := z_ftd (by decide +kernel)
theorem t109_72 : z_ft 109 72 = some (.putfield 24, 3, none, [], 11, 3, 52, 0) := z_ftd (by decide +kernel)
theorem t109_75 : z_ft 109 75 = some (.aload_n 0, 1, none, [], 0, 0, 0, 0) := z_ftd (by decide +kernel)
theorem t109_76 : z_ft 109 76 = some (.getfield 39, 3, none, [], 11, 5, 54, 0) := z_ftd (by decide +kernel)
theorem t109_79 : z_ft 109 79 = some (.aload_n 0, 1, none, [], 0, 0, 0, 0) := z_ftd (by decide +kernel)
theorem t109_80 : z_ft 109 80 = some (.getfield 20, 3, none, [], 11, 2, 51, 0) := z_ftd (by decide +kernel)
theorem t109_83 : z_ft 109 83 = some (.putfield 118, 3, none, [], 2, 0, 20, 0) := z_ftd (by decide +kernel)
theorem t109_86 : z_ft 109 86 = some (.aload_n 0, 1, none, [], 0, 0, 0, 0) := z_ftd (by decide +kernel)
theorem t109_87 : z_ft 109 87 = some (.invokevirtual 119, 3, none, [], 110, 0, 69, 0) := z_ftd (by decide +kernel)
theorem t109_90 : z_ft 109 90 = some (.aload_n 0, 1, none, [], 0, 0, 0, 0) := z_ftd (by decide +kernel)
theorem t109_91 : z_ft 109 91 = some (.getfield 20, 3, none, [], 11, 2, 51, 0) := z_ftd (by decide +kernel)
theorem t109_94 : z_ft 109 94 = some (.getfield 122, 3, none, [], 6, 0, 2, 0) := z_ftd (by decide +kernel)
theorem t109_97 : z_ft 109 97 = some (.ireturn, 1, none, [], 0, 0, 0, 0) := z_ftd (by decide +kernel)
-- X11_lodge
theorem e109 (d : Nat)  (S : z_S) (hW : z_W S)  : fI (d + 1) 109 [.ref 0] S = (zb (fI d 8 [.ref 18, .ref 1, .int (gI S 0 1), .ref (gP S 0 3)] S) fun v1 S2 => (if ¬ v1 = (0 : Int32) then ((fV d 110 [.ref 0] (sR (sR (sR (sI (sI (sI S2 0 1 (0 : Int32)) 0 15 (gI (sI S2 0 1 (0 : Int32)) 18 0)) 0 16 (gI (sI (sI S2 0 1 (0 : Int32)) 0 15 (gI (sI S2 0 1 (0 : Int32)) 18 0)) 18 1)) 0 2 (some (gP (sI (sI (sI S2 0 1 (0 : Int32)) 0 15 (gI (sI S2 0 1 (0 : Int32)) 18 0)) 0 16 (gI (sI (sI S2 0 1 (0 : Int32)) 0 15 (gI (sI S2 0 1 (0 : Int32)) 18 0)) 18 1)) 0 3))) 0 3 (some (gP (sI (sI (sI S2 0 1 (0 : Int32)) 0 15 (gI (sI S2 0 1 (0 : Int32)) 18 0)) 0 16 (gI (sI (sI S2 0 1 (0 : Int32)) 0 15 (gI (sI S2 0 1 (0 : Int32)) 18 0)) 18 1)) 0 2))) 22 0 (some (gP (sR (sR (sI (sI (sI S2 0 1 (0 : Int32)) 0 15 (gI (sI S2 0 1 (0 : Int32)) 18 0)) 0 16 (gI (sI (sI S2 0 1 (0 : Int32)) 0 15 (gI (sI S2 0 1 (0 : Int32)) 18 0)) 18 1)) 0 2 (some (gP (sI (sI (sI S2 0 1 (0 : Int32)) 0 15 (gI (sI S2 0 1 (0 : Int32)) 18 0)) 0 16 (gI (sI (sI S2 0 1 (0 : Int32)) 0 15 (gI (sI S2 0 1 (0 : Int32)) 18 0)) 18 1)) 0 3))) 0 3 (some (gP (sI (sI (sI S2 0 1 (0 : Int32)) 0 15 (gI (sI S2 0 1 (0 : Int32)) 18 0)) 0 16 (gI (sI (sI S2 0 1 (0 : Int32)) 0 15 (gI (sI S2 0 1 (0 : Int32)) 18 0)) 18 1)) 0 2))) 0 2)))).bind fun S5 => some ((gI S5 (gP S5 0 2) 0), S5)) else (zb (fI d 150 [.ref 0, .int (1 : Int32)] (sI (sI (sI S2 0 1 (0 : Int32)) 0 15 (gI (sI S2 0 1 (0 : Int32)) 18 0)) 0 16 (gI (sI (sI S2 0 1 (0 : Int32)) 0 15 (gI (sI S2 0 1 (0 : Int32)) 18 0)) 18 1))) fun v6 S7 => some (v6, S7)))) := by
  refine (fI_en (Nat.le_of_ble_eq_true rfl) rfl).trans ?_
  refine (k_aload_n t109_0 rfl rfl).trans ?_
  refine (k_getR t109_1 rfl hW zK_0 (by decide) (by decide) (zF_0_4 hW)).trans ?_
  refine (k_aload_n t109_4 rfl rfl).trans ?_
  refine (k_getR t109_5 rfl hW zK_0 (by decide) (by decide) (zF_0_0 hW)).trans ?_
  refine (k_aload_n t109_8 rfl rfl).trans ?_
  refine (k_getI t109_9 rfl hW zK_0 (by decide) (by decide)).trans ?_
  refine (k_aload_n t109_12 rfl rfl).trans ?_
  refine (k_getR t109_13 rfl hW zK_0 (by decide) (by decide) (zM_0_3 hW).1).trans ?_
  refine k_callI (as := [.ref 18, .ref 1, .int (gI S 0 1), .ref (gP S 0 3)]) (rest := []) t109_16 rfl rfl (by decide) rfl rfl (Nat.le_of_ble_eq_true rfl) rfl (z_rcV hW (zK_18) (by decide)) (by decide) (Or.inr (by decide)) hW (fun v1 S2 hW2 => ?_)
  refine (k_istore_n (ls' := [.ref 0, .int v1, z_j]) t109_19 rfl rfl).trans ?_
  refine (k_aload_n t109_20 rfl rfl).trans ?_
  refine (k_iconst t109_21 rfl zci_0).trans ?_
  refine (k_putI t109_22 rfl hW2 zK_0 (by decide) (by decide) (by decide)).trans ?_
  refine (k_aload_n t109_25 rfl rfl).trans ?_
  refine (k_aload_n t109_26 rfl rfl).trans ?_
  refine (k_getR t109_27 rfl hW2.sI zK_0 (by decide) (by decide) (zF_0_4 hW2.sI)).trans ?_
  refine (k_getI t109_30 rfl hW2.sI zK_18 (by decide) (by decide)).trans ?_
  refine (k_putI t109_33 rfl hW2.sI zK_0 (by decide) (by decide) (by decide)).trans ?_
  refine (k_aload_n t109_36 rfl rfl).trans ?_
  refine (k_aload_n t109_37 rfl rfl).trans ?_
  refine (k_getR t109_38 rfl hW2.sI.sI zK_0 (by decide) (by decide) (zF_0_4 hW2.sI.sI)).trans ?_
  refine (k_getI t109_41 rfl hW2.sI.sI zK_18 (by decide) (by decide)).trans ?_
  refine (k_putI t109_44 rfl hW2.sI.sI zK_0 (by decide) (by decide) (by decide)).trans ?_
  refine (k_iload_n t109_47 rfl rfl).trans ?_
  refine (k_if_ne t109_48 rfl).trans (z_ite (fun g3 => ?_) (fun g3 => ?_))
  · refine (k_aload_n t109_57 rfl rfl).trans ?_
    refine (k_getR t109_58 rfl hW2.sI.sI.sI zK_0 (by decide) (by decide) (zM_0_2 hW2.sI.sI.sI).1).trans ?_
    refine (k_astore_n (ls' := [.ref 0, .int v1, .ref (gP (sI (sI (sI S2 0 1 (0 : Int32)) 0 15 (gI (sI S2 0 1 (0 : Int32)) 18 0)) 0 16 (gI (sI (sI S2 0 1 (0 : Int32)) 0 15 (gI (sI S2 0 1 (0 : Int32)) 18 0)) 18 1)) 0 2)]) t109_61 rfl rfl).trans ?_
    refine (k_aload_n t109_62 rfl rfl).trans ?_
    refine (k_aload_n t109_63 rfl rfl).trans ?_
    refine (k_getR t109_64 rfl hW2.sI.sI.sI zK_0 (by decide) (by decide) (zM_0_3 hW2.sI.sI.sI).1).trans ?_
    refine (k_putR t109_67 rfl hW2.sI.sI.sI zK_0 (by decide) (by decide) (by rw [(zM_0_3 hW2.sI.sI.sI).2]; decide) (by rw [(zM_0_3 hW2.sI.sI.sI).2]; decide)).trans ?_
    refine (k_aload_n t109_70 rfl rfl).trans ?_
    refine (k_aload_n t109_71 rfl rfl).trans ?_
    refine (k_putR t109_72 rfl (zR_0_2 hW2.sI.sI.sI (zM_0_3 hW2.sI.sI.sI).2) zK_0 (by decide) (by decide) (by rw [(zM_0_2 hW2.sI.sI.sI).2]; decide) (by rw [(zM_0_2 hW2.sI.sI.sI).2]; decide)).trans ?_
    refine (k_aload_n t109_75 rfl rfl).trans ?_
    refine (k_getR t109_76 rfl (zR_0_3 (zR_0_2 hW2.sI.sI.sI (zM_0_3 hW2.sI.sI.sI).2) (zM_0_2 hW2.sI.sI.sI).2) zK_0 (by decide) (by decide) (zF_0_5 (zR_0_3 (zR_0_2 hW2.sI.sI.sI (zM_0_3 hW2.sI.sI.sI).2) (zM_0_2 hW2.sI.sI.sI).2))).trans ?_
    refine (k_aload_n t109_79 rfl rfl).trans ?_
    refine (k_getR t109_80 rfl (zR_0_3 (zR_0_2 hW2.sI.sI.sI (zM_0_3 hW2.sI.sI.sI).2) (zM_0_2 hW2.sI.sI.sI).2) zK_0 (by decide) (by decide) (zM_0_2 (zR_0_3 (zR_0_2 hW2.sI.sI.sI (zM_0_3 hW2.sI.sI.sI).2) (zM_0_2 hW2.sI.sI.sI).2)).1).trans ?_
    refine (k_putR t109_83 rfl (zR_0_3 (zR_0_2 hW2.sI.sI.sI (zM_0_3 hW2.sI.sI.sI).2) (zM_0_2 hW2.sI.sI.sI).2) zK_22 (by decide) (by decide) (by rw [(zM_0_2 (zR_0_3 (zR_0_2 hW2.sI.sI.sI (zM_0_3 hW2.sI.sI.sI).2) (zM_0_2 hW2.sI.sI.sI).2)).2]; decide) (by rw [(zM_0_2 (zR_0_3 (zR_0_2 hW2.sI.sI.sI (zM_0_3 hW2.sI.sI.sI).2) (zM_0_2 hW2.sI.sI.sI).2)).2]; decide)).trans ?_
    refine (k_aload_n t109_86 rfl rfl).trans ?_
    refine k_callV (as := [.ref 0]) (rest := []) t109_87 rfl rfl (by decide) rfl rfl (Nat.le_of_ble_eq_true rfl) rfl (z_rcV (zR_22_0 (zR_0_3 (zR_0_2 hW2.sI.sI.sI (zM_0_3 hW2.sI.sI.sI).2) (zM_0_2 hW2.sI.sI.sI).2) (zM_0_2 (zR_0_3 (zR_0_2 hW2.sI.sI.sI (zM_0_3 hW2.sI.sI.sI).2) (zM_0_2 hW2.sI.sI.sI).2)).2) (zK_0) (by decide)) (by decide) (by decide) (zR_22_0 (zR_0_3 (zR_0_2 hW2.sI.sI.sI (zM_0_3 hW2.sI.sI.sI).2) (zM_0_2 hW2.sI.sI.sI).2) (zM_0_2 (zR_0_3 (zR_0_2 hW2.sI.sI.sI (zM_0_3 hW2.sI.sI.sI).2) (zM_0_2 hW2.sI.sI.sI).2)).2) (fun S5 hW5 => ?_)
    refine (k_aload_n t109_90 rfl rfl).trans ?_
    refine (k_getR t109_91 rfl hW5 zK_0 (by decide) (by decide) (zM_0_2 hW5).1).trans ?_
    refine (k_getI t109_94 rfl hW5 (zM_0_2 hW5).2 (by decide) (by decide)).trans ?_
    exact k_ireturn t109_97 rfl (by decide)
  · refine (k_aload_n t109_51 rfl rfl).trans ?_
    refine (k_iconst t109_52 rfl zci_1).trans ?_
    refine k_callI (as := [.ref 0, .int (1 : Int32)]) (rest := []) t109_53 rfl rfl (by decide) rfl rfl (Nat.le_of_ble_eq_true rfl) rfl (z_rcV hW2.sI.sI.sI (zK_0) (by decide)) (by decide) (Or.inl (by decide)) hW2.sI.sI.sI (fun v6 S7 hW7 => ?_)
    exact k_ireturn t109_56 rfl (by decide)
theorem t110_0 : z_ft 110 0 = some (.aload_n 0, 1, none, [], 0, 0, 0, 0) := z_ftd (by decide +kernel)
theorem t110_1 : z_ft 110 1 = some (.getfield 46, 3, none, [], 11, 6, 55, 0) := z_ftd (by decide +kernel)
theorem t110_4 : z_ft 110 4 = some (.aload_n 0, 1, none, [], 0, 0, 0, 0) := z_ftd (by decide +kernel)
theorem t110_5 : z_ft 110 5 = some (.getfield 20, 3, none, [], 11, 2, 51, 0) := z_ftd (by decide +kernel)
theorem t110_8 : z_ft 110 8 = some (.getfield 125, 3, none, [], 6, 5, 7, 0) := z_ftd (by decide +kernel)
theorem t110_11 : z_ft 110 11 = some (.invokevirtual 128, 3, none, [], 74, 0, 70, 0) := z_ftd (by decide +kernel)
theorem t110_14 : z_ft 110 14 = some (.aload_n 0, 1, none, [], 0, 0, 0, 0) := z_ftd (by decide +kernel)
theorem t110_15 : z_ft 110 15 = some (.getfield 56, 3, none, [], 11, 8, 57, 0) := z_ftd (by decide +kernel)
theorem t110_18 : z_ft 110 18 = some (.iconst 0, 1, none, [], 0, 0, 0, 0) := z_ftd (by decide +kernel)
theorem t110_19 : z_ft 110 19 = some (.putfield 131, 3, none, [], 4, 0, 35, 0) := z_ftd (by decide +kernel)
theorem t110_22 : z_ft 110 22 = some (.aload_n 0, 1, none, [], 0, 0, 0, 0) := z_ftd (by decide +kernel)
theorem t110_23 : z_ft 110 23 = some (.getfield 63, 3, none, [], 11, 9, 58, 0) := z_ftd (by decide +kernel)
theorem t110_26 : z_ft 110 26 = some (.iconst 0, 1, none, [], 0, 0, 0, 0) := z_ftd (by decide +kernel)
theorem t110_27 : z_ft 110 27 = some (.putfield 134, 3, none, [], 5, 0, 38, 0) := z_ftd (by decide +kernel)
theorem t110_30 : z_ft 110 30 = some (.aload_n 0, 1, none, [], 0, 0, 0, 0) := z_ftd (by decide +kernel)
theorem t110_31 : z_ft 110 31 = some (.getfield 70, 3, none, [], 11, 10, 59, 0) := z_ftd (by decide +kernel)
theorem t110_34 : z_ft 110 34 = some (.iconst 0, 1, none, [], 0, 0, 0, 0) := z_ftd (by decide +kernel)
theorem t110_35 : z_ft 110 35 = some (.putfield 135, 3, none, [], 9, 0, 41, 0) := z_ftd (by decide +kernel)
theorem t110_38 : z_ft 110 38 = some (.iconst 0, 1, none, [], 0, 0, 0, 0) := z_ftd (by decide +kernel)
theorem t110_39 : z_ft 110 39 = some (.istore_n 1, 1, none, [], 0, 0, 0, 0) := z_ftd (by decide +kernel)
theorem t110_40 : z_ft 110 40 = some (.iload_n 1, 1, (some [0, 1]), [], 0, 0, 0, 0) := z_ftd (by decide +kernel)
theorem t110_41 : z_ft 110 41 = some (.aload_n 0, 1, none, [], 0, 0, 0, 0) := z_ftd (by decide +kernel)
theorem t110_42 : z_ft 110 42 = some (.getfield 20, 3, none, [], 11, 2, 51, 0) := z_ftd (by decide +kernel)
theorem t110_45 : z_ft 110 45 = some (.getfield 138, 3, none, [], 6, 7, 9, 0) := z_ftd (by decide +kernel)
theorem t110_48 : z_ft 110 48 = some (.if_icmp .ge 37, 3, none, [], 85, 0, 0, 0) := z_ftd (by decide +kernel)
theorem t110_51 : z_ft 110 51 = some (.aload_n 0, 1, none, [], 0, 0, 0, 0) := z_ftd (by decide +kernel)
theorem t110_52 : z_ft 110 52 = some (.getfield 39, 3, none, [], 11, 5, 54, 0) := z_ftd (by decide +kernel)
theorem t110_55 : z_ft 110 55 = some (.aload_n 0, 1, none, [], 0, 0, 0, 0) := z_ftd (by decide +kernel)
theorem t110_56 : z_ft 110 56 = some (.getfield 46, 3, none, [], 11, 6, 55, 0) := z_ftd (by decide +kernel)
theorem t110_59 : z_ft 110 59 = some (.aload_n 0, 1, none, [], 0, 0, 0, 0) := z_ftd (by decide +kernel)
theorem t110_60 : z_ft 110 60 = some (.getfield 20, 3, none, [], 11, 2, 51, 0) := z_ftd (by decide +kernel)
theorem t110_63 : z_ft 110 63 = some (.getfield 141, 3, none, [], 6, 12, 13, 0) := z_ftd (by decide +kernel)
theorem t110_66 : z_ft 110 66 = some (.iload_n 1, 1, none, [], 0, 0, 0, 0) := z_ftd (by decide +kernel)
theorem t110_67 : z_ft 110 67 = some (.iaload, 1, none, [], 0, 0, 0, 0) := z_ftd (by decide +kernel)
theorem t110_68 : z_ft 110 68 = some (.aload_n 0, 1, none, [], 0, 0, 0, 0) := z_ftd (by decide +kernel)
theorem t110_69 : z_ft 110 69 = some (.getfield 20, 3, none, [], 11, 2, 51, 0) := z_ftd (by decide +kernel)
theorem t110_72 : z_ft 110 72 = some (.getfield 144, 3, none, [], 6, 3, 5, 0) := z_ftd (by decide +kernel)
theorem t110_75 : z_ft 110 75 = some (.invokevirtual 146, 3, none, [], 32, 0, 71, 0) := z_ftd (by decide +kernel)
theorem t110_78 : z_ft 110 78 = some (.pop, 1, none, [], 0, 0, 0, 0) := z_ftd (by decide +kernel)
theorem t110_79 : z_ft 110 79 = some (.iinc 1 1, 3, none, [], 0, 0, 0, 0) := z_ftd (by decide +kernel)
theorem t110_82 : z_ft 110 82 = some (.goto (-42), 3, none, [], 40, 0, 0, 0) := z_ftd (by decide +kernel)
theorem t110_85 : z_ft 110 85 = some (.return_, 1, none, [], 0, 0, 0, 0) := z_ftd (by decide +kernel)
noncomputable def b110_40 (d : Nat) (y1 : Int32) (S : z_S) : Option z_S := zk kV z_X0 d 110 40 [.ref 0, .int y1] [] S
theorem b110_40_eq (d : Nat) (y1 : Int32) (S : z_S) (hW : z_W S)  : b110_40 d y1 S = (if (gI S (gP S 0 2) 7) ≤ y1 then some S else (if z_in y1 16 then (zb (fI d 32 [.ref 22, .ref 27, .int (gI S ((gP S 0 2) + 4) (y1).toNatClampNeg), .int (gI S (gP S 0 2) 3)] S) fun v5 S6 => b110_40 d (y1 + (1 : Int32)) S6) else none)) := by
  unfold b110_40
  refine (k_iload_n t110_40 rfl rfl).trans ?_
  refine (k_aload_n t110_41 rfl rfl).trans ?_
  refine (k_getR t110_42 rfl hW zK_0 (by decide) (by decide) (zM_0_2 hW).1).trans ?_
  refine (k_getI t110_45 rfl hW (zM_0_2 hW).2 (by decide) (by decide)).trans ?_
  refine (k_icmp_ge t110_48 rfl).trans (z_ite (fun g3 => ?_) (fun g3 => ?_))
  · exact k_return t110_85 rfl (by decide)
  · refine (k_aload_n t110_51 rfl rfl).trans ?_
    refine (k_getR t110_52 rfl hW zK_0 (by decide) (by decide) (zF_0_5 hW)).trans ?_
    refine (k_aload_n t110_55 rfl rfl).trans ?_
    refine (k_getR t110_56 rfl hW zK_0 (by decide) (by decide) (zF_0_6 hW)).trans ?_
    refine (k_aload_n t110_59 rfl rfl).trans ?_
    refine (k_getR t110_60 rfl hW zK_0 (by decide) (by decide) (zM_0_2 hW).1).trans ?_
    refine (k_getR t110_63 rfl hW (zM_0_2 hW).2 (by decide) (by decide) (zO_6_12 hW (zM_0_2 hW).2)).trans ?_
    refine (k_iload_n t110_66 rfl rfl).trans ?_
    refine (k_iald t110_67 rfl hW (zOK_6_12 (zM_0_2 hW).2) (zOL_6_12 (zM_0_2 hW).2)).trans (z_ite (fun g4 => ?_) (fun _ => rfl))
    refine (k_aload_n t110_68 rfl rfl).trans ?_
    refine (k_getR t110_69 rfl hW zK_0 (by decide) (by decide) (zM_0_2 hW).1).trans ?_
    refine (k_getI t110_72 rfl hW (zM_0_2 hW).2 (by decide) (by decide)).trans ?_
    refine k_callI (as := [.ref 22, .ref 27, .int (gI S ((gP S 0 2) + 4) (y1).toNatClampNeg), .int (gI S (gP S 0 2) 3)]) (rest := []) t110_75 rfl rfl (by decide) rfl rfl (Nat.le_of_ble_eq_true rfl) rfl (z_rcV hW (zK_22) (by decide)) (by decide) (Or.inl (by decide)) hW (fun v5 S6 hW6 => ?_)
    refine (k_popI t110_78 rfl).trans ?_
    refine (k_iinc (b := (y1 + (1 : Int32))) (ls' := [.ref 0, .int (y1 + (1 : Int32))]) t110_79 rfl rfl (by rw [zci_1]) rfl).trans ?_
    refine (k_goto t110_82 rfl).trans ?_
    exact (zk_mk (ls' := [.ref 0, .int (y1 + (1 : Int32))]) t110_40 rfl)
-- X11_openHouse
theorem e110 (d : Nat)  (S : z_S) (hW : z_W S)  : fV (d + 1) 110 [.ref 0] S = ((fV d 74 [.ref 27, .int (gI S (gP S 0 2) 5)] S).bind fun S2 => b110_40 d (0 : Int32) (sI (sI (sI S2 37 0 (0 : Int32)) 39 0 (0 : Int32)) 182 0 (0 : Int32))) := by
  refine (fV_en (Nat.le_of_ble_eq_true rfl) rfl).trans ?_
  refine (k_aload_n t110_0 rfl rfl).trans ?_
  refine (k_getR t110_1 rfl hW zK_0 (by decide) (by decide) (zF_0_6 hW)).trans ?_
  refine (k_aload_n t110_4 rfl rfl).trans ?_
  refine (k_getR t110_5 rfl hW zK_0 (by decide) (by decide) (zM_0_2 hW).1).trans ?_
  refine (k_getI t110_8 rfl hW (zM_0_2 hW).2 (by decide) (by decide)).trans ?_
  refine k_callV (as := [.ref 27, .int (gI S (gP S 0 2) 5)]) (rest := []) t110_11 rfl rfl (by decide) rfl rfl (Nat.le_of_ble_eq_true rfl) rfl (z_rcV hW (zK_27) (by decide)) (by decide) (by decide) hW (fun S2 hW2 => ?_)
  refine (k_aload_n t110_14 rfl rfl).trans ?_
  refine (k_getR t110_15 rfl hW2 zK_0 (by decide) (by decide) (zF_0_8 hW2)).trans ?_
  refine (k_iconst t110_18 rfl zci_0).trans ?_
  refine (k_putI t110_19 rfl hW2 zK_37 (by decide) (by decide) (by decide)).trans ?_
  refine (k_aload_n t110_22 rfl rfl).trans ?_
  refine (k_getR t110_23 rfl hW2.sI zK_0 (by decide) (by decide) (zF_0_9 hW2.sI)).trans ?_
  refine (k_iconst t110_26 rfl zci_0).trans ?_
  refine (k_putI t110_27 rfl hW2.sI zK_39 (by decide) (by decide) (by decide)).trans ?_
  refine (k_aload_n t110_30 rfl rfl).trans ?_
  refine (k_getR t110_31 rfl hW2.sI.sI zK_0 (by decide) (by decide) (zF_0_10 hW2.sI.sI)).trans ?_
  refine (k_iconst t110_34 rfl zci_0).trans ?_
  refine (k_putI t110_35 rfl hW2.sI.sI zK_182 (by decide) (by decide) (by decide)).trans ?_
  refine (k_iconst t110_38 rfl zci_0).trans ?_
  refine (k_istore_n (ls' := [.ref 0, .int (0 : Int32)]) t110_39 rfl rfl).trans ?_
  exact (zk_mk (ls' := [.ref 0, .int (0 : Int32)]) t110_40 rfl)
theorem t111_0 : z_ft 111 0 = some (.iload_n 1, 1, none, [], 0, 0, 0, 0) := z_ftd (by decide +kernel)
theorem t111_1 : z_ft 111 1 = some (.ifCond .ne 8, 3, none, [], 9, 0, 0, 0) := z_ftd (by decide +kernel)
theorem t111_4 : z_ft 111 4 = some (.aload_n 0, 1, none, [], 0, 0, 0, 0) := z_ftd (by decide +kernel)
theorem t111_5 : z_ft 111 5 = some (.getfield 94, 3, none, [], 11, 15, 64, 0) := z_ftd (by decide +kernel)
theorem t111_8 : z_ft 111 8 = some (.ireturn, 1, none, [], 0, 0, 0, 0) := z_ftd (by decide +kernel)
theorem t111_9 : z_ft 111 9 = some (.iload_n 1, 1, none, [], 0, 0, 0, 0) := z_ftd (by decide +kernel)
theorem t111_10 : z_ft 111 10 = some (.iconst 1, 1, none, [], 0, 0, 0, 0) := z_ftd (by decide +kernel)
theorem t111_11 : z_ft 111 11 = some (.if_icmp .ne 10, 3, none, [], 21, 0, 0, 0) := z_ftd (by decide +kernel)
theorem t111_14 : z_ft 111 14 = some (.aload_n 0, 1, none, [], 0, 0, 0, 0) := z_ftd (by decide +kernel)
theorem t111_15 : z_ft 111 15 = some (.getfield 97, 3, none, [], 11, 16, 65, 0) := z_ftd (by decide +kernel)
theorem t111_18 : z_ft 111 18 = some (.goto 4, 3, none, [], 22, 0, 0, 0) := z_ftd (by decide +kernel)
theorem t111_21 : z_ft 111 21 = some (.iconst (-1), 1, none, [], 0, 0, 0, 0) := z_ftd (by decide +kernel)
theorem t111_22 : z_ft 111 22 = some (.ireturn, 1, (some []), [], 0, 0, 0, 0) := z_ftd (by decide +kernel)
-- X11_fault
theorem e111 (d : Nat) (x1 : Int32) (S : z_S) (hW : z_W S)  : fI (d + 1) 111 [.ref 0, .int x1] S = (if ¬ x1 = (0 : Int32) then (if ¬ x1 = (1 : Int32) then some ((-1 : Int32), S) else some ((gI S 0 16), S)) else some ((gI S 0 15), S)) := by
  refine (fI_en (Nat.le_of_ble_eq_true rfl) rfl).trans ?_
  refine (k_iload_n t111_0 rfl rfl).trans ?_
  refine (k_if_ne t111_1 rfl).trans (z_ite (fun g1 => ?_) (fun g1 => ?_))
  · refine (k_iload_n t111_9 rfl rfl).trans ?_
    refine (k_iconst t111_10 rfl zci_1).trans ?_
    refine (k_icmp_ne t111_11 rfl).trans (z_ite (fun g2 => ?_) (fun g2 => ?_))
    · refine (k_iconst t111_21 rfl zci_m1).trans ?_
      refine (zk_mk (ls' := [z_j, z_j]) t111_22 rfl).trans ?_
      exact k_ireturn t111_22 rfl (by decide)
    · refine (k_aload_n t111_14 rfl rfl).trans ?_
      refine (k_getI t111_15 rfl hW zK_0 (by decide) (by decide)).trans ?_
      refine (k_goto t111_18 rfl).trans ?_
      refine (zk_mk (ls' := [z_j, z_j]) t111_22 rfl).trans ?_
      exact k_ireturn t111_22 rfl (by decide)
  · refine (k_aload_n t111_4 rfl rfl).trans ?_
    refine (k_getI t111_5 rfl hW zK_0 (by decide) (by decide)).trans ?_
    exact k_ireturn t111_8 rfl (by decide)
theorem t112_0 : z_ft 112 0 = some (.iload_n 1, 1, none, [], 0, 0, 0, 0) := z_ftd (by decide +kernel)
theorem t112_1 : z_ft 112 1 = some (.tableswitch 236 0 14 #[75, 83, 91, 102, 110, 137, 164, 175, 183, 191, 199, 207, 215, 223, 231], 75, none, [76, 84, 92, 103, 111, 138, 165, 176, 184, 192, 200, 208, 216, 224, 232], 237, 0, 0, 0) := z_ftd (by decide +kernel)
theorem t112_76 : z_ft 112 76 = some (.aload_n 0, 1, none, [], 0, 0, 0, 0) := z_ftd (by decide +kernel)
theorem t112_77 : z_ft 112 77 = some (.getfield 20, 3, none, [], 11, 2, 51, 0) := z_ftd (by decide +kernel)
theorem t112_80 : z_ft 112 80 = some (.getfield 150, 3, none, [], 6, 1, 3, 0) := z_ftd (by decide +kernel)
theorem t112_83 : z_ft 112 83 = some (.ireturn, 1, none, [], 0, 0, 0, 0) := z_ftd (by decide +kernel)
theorem t112_84 : z_ft 112 84 = some (.aload_n 0, 1, none, [], 0, 0, 0, 0) := z_ftd (by decide +kernel)
theorem t112_85 : z_ft 112 85 = some (.getfield 20, 3, none, [], 11, 2, 51, 0) := z_ftd (by decide +kernel)
theorem t112_88 : z_ft 112 88 = some (.getfield 153, 3, none, [], 6, 6, 8, 0) := z_ftd (by decide +kernel)
theorem t112_91 : z_ft 112 91 = some (.ireturn, 1, none, [], 0, 0, 0, 0) := z_ftd (by decide +kernel)
theorem t112_92 : z_ft 112 92 = some (.aload_n 0, 1, none, [], 0, 0, 0, 0) := z_ftd (by decide +kernel)
theorem t112_93 : z_ft 112 93 = some (.getfield 46, 3, none, [], 11, 6, 55, 0) := z_ftd (by decide +kernel)
theorem t112_96 : z_ft 112 96 = some (.getfield 156, 3, none, [], 8, 3, 28, 0) := z_ftd (by decide +kernel)
theorem t112_99 : z_ft 112 99 = some (.invokestatic 159, 3, none, [], 274, 0, 72, 0) := z_ftd (by decide +kernel)
theorem t112_102 : z_ft 112 102 = some (.ireturn, 1, none, [], 0, 0, 0, 0) := z_ftd (by decide +kernel)
theorem t112_103 : z_ft 112 103 = some (.aload_n 0, 1, none, [], 0, 0, 0, 0) := z_ftd (by decide +kernel)
theorem t112_104 : z_ft 112 104 = some (.getfield 46, 3, none, [], 11, 6, 55, 0) := z_ftd (by decide +kernel)
theorem t112_107 : z_ft 112 107 = some (.getfield 164, 3, none, [], 8, 4, 29, 0) := z_ftd (by decide +kernel)
theorem t112_110 : z_ft 112 110 = some (.ireturn, 1, none, [], 0, 0, 0, 0) := z_ftd (by decide +kernel)
theorem t112_111 : z_ft 112 111 = some (.aload_n 0, 1, none, [], 0, 0, 0, 0) := z_ftd (by decide +kernel)
theorem t112_112 : z_ft 112 112 = some (.getfield 20, 3, none, [], 11, 2, 51, 0) := z_ftd (by decide +kernel)
theorem t112_115 : z_ft 112 115 = some (.getfield 153, 3, none, [], 6, 6, 8, 0) := z_ftd (by decide +kernel)
theorem t112_118 : z_ft 112 118 = some (.aload_n 0, 1, none, [], 0, 0, 0, 0) := z_ftd (by decide +kernel)
theorem t112_119 : z_ft 112 119 = some (.getfield 46, 3, none, [], 11, 6, 55, 0) := z_ftd (by decide +kernel)
theorem t112_122 : z_ft 112 122 = some (.getfield 156, 3, none, [], 8, 3, 28, 0) := z_ftd (by decide +kernel)
theorem t112_125 : z_ft 112 125 = some (.invokestatic 159, 3, none, [], 274, 0, 72, 0) := z_ftd (by decide +kernel)
theorem t112_128 : z_ft 112 128 = some (.isub, 1, none, [], 0, 0, 0, 0) := z_ftd (by decide +kernel)
theorem t112_129 : z_ft 112 129 = some (.aload_n 0, 1, none, [], 0, 0, 0, 0) := z_ftd (by decide +kernel)
theorem t112_130 : z_ft 112 130 = some (.getfield 46, 3, none, [], 11, 6, 55, 0) := z_ftd (by decide +kernel)
theorem t112_133 : z_ft 112 133 = some (.getfield 164, 3, none, [], 8, 4, 29, 0) := z_ftd (by decide +kernel)
theorem t112_136 : z_ft 112 136 = some (.isub, 1, none, [], 0, 0, 0, 0) := z_ftd (by decide +kernel)
theorem t112_137 : z_ft 112 137 = some (.ireturn, 1, none, [], 0, 0, 0, 0) := z_ftd (by decide +kernel)
theorem t112_138 : z_ft 112 138 = some (.aload_n 0, 1, none, [], 0, 0, 0, 0) := z_ftd (by decide +kernel)
theorem t112_139 : z_ft 112 139 = some (.getfield 20, 3, none, [], 11, 2, 51, 0) := z_ftd (by decide +kernel)
theorem t112_142 : z_ft 112 142 = some (.getfield 150, 3, none, [], 6, 1, 3, 0) := z_ftd (by decide +kernel)
theorem t112_145 : z_ft 112 145 = some (.aload_n 0, 1, none, [], 0, 0, 0, 0) := z_ftd (by decide +kernel)
theorem t112_146 : z_ft 112 146 = some (.getfield 46, 3, none, [], 11, 6, 55, 0) := z_ftd (by decide +kernel)
theorem t112_149 : z_ft 112 149 = some (.getfield 167, 3, none, [], 8, 2, 27, 0) := z_ftd (by decide +kernel)
theorem t112_152 : z_ft 112 152 = some (.aload_n 0, 1, none, [], 0, 0, 0, 0) := z_ftd (by decide +kernel)
theorem t112_153 : z_ft 112 153 = some (.getfield 46, 3, none, [], 11, 6, 55, 0) := z_ftd (by decide +kernel)
theorem t112_156 : z_ft 112 156 = some (.getfield 156, 3, none, [], 8, 3, 28, 0) := z_ftd (by decide +kernel)
theorem t112_159 : z_ft 112 159 = some (.ior, 1, none, [], 0, 0, 0, 0) := z_ftd (by decide +kernel)
theorem t112_160 : z_ft 112 160 = some (.invokestatic 159, 3, none, [], 274, 0, 72, 0) := z_ftd (by decide +kernel)
theorem t112_163 : z_ft 112 163 = some (.isub, 1, none, [], 0, 0, 0, 0) := z_ftd (by decide +kernel)
theorem t112_164 : z_ft 112 164 = some (.ireturn, 1, none, [], 0, 0, 0, 0) := z_ftd (by decide +kernel)
theorem t112_165 : z_ft 112 165 = some (.aload_n 0, 1, none, [], 0, 0, 0, 0) := z_ftd (by decide +kernel)
theorem t112_166 : z_ft 112 166 = some (.getfield 46, 3, none, [], 11, 6, 55, 0) := z_ftd (by decide +kernel)
theorem t112_169 : z_ft 112 169 = some (.getfield 167, 3, none, [], 8, 2, 27, 0) := z_ftd (by decide +kernel)
theorem t112_172 : z_ft 112 172 = some (.invokestatic 159, 3, none, [], 274, 0, 72, 0) := z_ftd (by decide +kernel)
theorem t112_175 : z_ft 112 175 = some (.ireturn, 1, none, [], 0, 0, 0, 0) := z_ftd (by decide +kernel)
theorem t112_176 : z_ft 112 176 = some (.aload_n 0, 1, none, [], 0, 0, 0, 0) := z_ftd (by decide +kernel)
theorem t112_177 : z_ft 112 177 = some (.getfield 46, 3, none, [], 11, 6, 55, 0) := z_ftd (by decide +kernel)
theorem t112_180 : z_ft 112 180 = some (.getfield 168, 3, none, [], 8, 0, 25, 0) := z_ftd (by decide +kernel)
theorem t112_183 : z_ft 112 183 = some (.ireturn, 1, none, [], 0, 0, 0, 0) := z_ftd (by decide +kernel)
theorem t112_184 : z_ft 112 184 = some (.aload_n 0, 1, none, [], 0, 0, 0, 0) := z_ftd (by decide +kernel)
theorem t112_185 : z_ft 112 185 = some (.getfield 46, 3, none, [], 11, 6, 55, 0) := z_ftd (by decide +kernel)
theorem t112_188 : z_ft 112 188 = some (.getfield 171, 3, none, [], 8, 1, 26, 0) := z_ftd (by decide +kernel)
theorem t112_191 : z_ft 112 191 = some (.ireturn, 1, none, [], 0, 0, 0, 0) := z_ftd (by decide +kernel)
theorem t112_192 : z_ft 112 192 = some (.aload_n 0, 1, none, [], 0, 0, 0, 0) := z_ftd (by decide +kernel)
theorem t112_193 : z_ft 112 193 = some (.getfield 20, 3, none, [], 11, 2, 51, 0) := z_ftd (by decide +kernel)
theorem t112_196 : z_ft 112 196 = some (.getfield 174, 3, none, [], 6, 2, 4, 0) := z_ftd (by decide +kernel)
theorem t112_199 : z_ft 112 199 = some (.ireturn, 1, none, [], 0, 0, 0, 0) := z_ftd (by decide +kernel)
theorem t112_200 : z_ft 112 200 = some (.aload_n 0, 1, none, [], 0, 0, 0, 0) := z_ftd (by decide +kernel)
theorem t112_201 : z_ft 112 201 = some (.getfield 20, 3, none, [], 11, 2, 51, 0) := z_ftd (by decide +kernel)
theorem t112_204 : z_ft 112 204 = some (.getfield 144, 3, none, [], 6, 3, 5, 0) := z_ftd (by decide +kernel)
theorem t112_207 : z_ft 112 207 = some (.ireturn, 1, none, [], 0, 0, 0, 0) := z_ftd (by decide +kernel)
theorem t112_208 : z_ft 112 208 = some (.aload_n 0, 1, none, [], 0, 0, 0, 0) := z_ftd (by decide +kernel)
theorem t112_209 : z_ft 112 209 = some (.getfield 56, 3, none, [], 11, 8, 57, 0) := z_ftd (by decide +kernel)
theorem t112_212 : z_ft 112 212 = some (.getfield 131, 3, none, [], 4, 0, 35, 0) := z_ftd (by decide +kernel)
theorem t112_215 : z_ft 112 215 = some (.ireturn, 1, none, [], 0, 0, 0, 0) := z_ftd (by decide +kernel)
theorem t112_216 : z_ft 112 216 = some (.aload_n 0, 1, none, [], 0, 0, 0, 0) := z_ftd (by decide +kernel)
theorem t112_217 : z_ft 112 217 = some (.getfield 70, 3, none, [], 11, 10, 59, 0) := z_ftd (by decide +kernel)
theorem t112_220 : z_ft 112 220 = some (.getfield 135, 3, none, [], 9, 0, 41, 0) := z_ftd (by decide +kernel)
theorem t112_223 : z_ft 112 223 = some (.ireturn, 1, none, [], 0, 0, 0, 0) := z_ftd (by decide +kernel)
theorem t112_224 : z_ft 112 224 = some (.aload_n 0, 1, none, [], 0, 0, 0, 0) := z_ftd (by decide +kernel)
theorem t112_225 : z_ft 112 225 = some (.getfield 63, 3, none, [], 11, 9, 58, 0) := z_ftd (by decide +kernel)
theorem t112_228 : z_ft 112 228 = some (.getfield 134, 3, none, [], 5, 0, 38, 0) := z_ftd (by decide +kernel)
theorem t112_231 : z_ft 112 231 = some (.ireturn, 1, none, [], 0, 0, 0, 0) := z_ftd (by decide +kernel)
theorem t112_232 : z_ft 112 232 = some (.aload_n 0, 1, none, [], 0, 0, 0, 0) := z_ftd (by decide +kernel)
theorem t112_233 : z_ft 112 233 = some (.getfield 91, 3, none, [], 11, 14, 63, 0) := z_ftd (by decide +kernel)
theorem t112_236 : z_ft 112 236 = some (.ireturn, 1, none, [], 0, 0, 0, 0) := z_ftd (by decide +kernel)
theorem t112_237 : z_ft 112 237 = some (.iconst (-1), 1, none, [], 0, 0, 0, 0) := z_ftd (by decide +kernel)
theorem t112_238 : z_ft 112 238 = some (.ireturn, 1, none, [], 0, 0, 0, 0) := z_ftd (by decide +kernel)
-- X11_has
theorem e112 (d : Nat) (x1 : Int32) (S : z_S) (hW : z_W S)  : fI (d + 1) 112 [.ref 0, .int x1] S = (if x1 = (0 : Int32) then some ((gI S (gP S 0 2) 1), S) else (if x1 = (1 : Int32) then some ((gI S (gP S 0 2) 6), S) else (if x1 = (2 : Int32) then (zb (fI d 274 [.int (gI S 27 3)] S) fun v4 S5 => some (v4, S5)) else (if x1 = (3 : Int32) then some ((gI S 27 4), S) else (if x1 = (4 : Int32) then (zb (fI d 274 [.int (gI S 27 3)] S) fun v8 S9 => some ((((gI S (gP S 0 2) 6) - v8) - (gI S9 27 4)), S9)) else (if x1 = (5 : Int32) then (zb (fI d 274 [.int ((gI S 27 2) ||| (gI S 27 3))] S) fun v11 S12 => some (((gI S (gP S 0 2) 1) - v11), S12)) else (if x1 = (6 : Int32) then (zb (fI d 274 [.int (gI S 27 2)] S) fun v14 S15 => some (v14, S15)) else (if x1 = (7 : Int32) then some ((gI S 27 0), S) else (if x1 = (8 : Int32) then some ((gI S 27 1), S) else (if x1 = (9 : Int32) then some ((gI S (gP S 0 2) 2), S) else (if x1 = (10 : Int32) then some ((gI S (gP S 0 2) 3), S) else (if x1 = (11 : Int32) then some ((gI S 37 0), S) else (if x1 = (12 : Int32) then some ((gI S 182 0), S) else (if x1 = (13 : Int32) then some ((gI S 39 0), S) else (if x1 = (14 : Int32) then some ((gI S 0 14), S) else some ((-1 : Int32), S)))))))))))))))) := by
  refine (fI_en (Nat.le_of_ble_eq_true rfl) rfl).trans ?_
  refine (k_iload_n t112_0 rfl rfl).trans ?_
  refine (k_switch t112_1 rfl).trans ?_
  refine (zk_swC (n := (0 : Int32)) (lo' := 1) zci_0 rfl).trans (z_ite (fun g1 => ?_) (fun g1 => ?_))
  · refine (k_aload_n t112_76 rfl rfl).trans ?_
    refine (k_getR t112_77 rfl hW zK_0 (by decide) (by decide) (zM_0_2 hW).1).trans ?_
    refine (k_getI t112_80 rfl hW (zM_0_2 hW).2 (by decide) (by decide)).trans ?_
    exact k_ireturn t112_83 rfl (by decide)
  refine (zk_swC (n := (1 : Int32)) (lo' := 2) zci_1 rfl).trans (z_ite (fun g2 => ?_) (fun g2 => ?_))
  · refine (k_aload_n t112_84 rfl rfl).trans ?_
    refine (k_getR t112_85 rfl hW zK_0 (by decide) (by decide) (zM_0_2 hW).1).trans ?_
    refine (k_getI t112_88 rfl hW (zM_0_2 hW).2 (by decide) (by decide)).trans ?_
    exact k_ireturn t112_91 rfl (by decide)
  refine (zk_swC (n := (2 : Int32)) (lo' := 3) zci_2 rfl).trans (z_ite (fun g3 => ?_) (fun g3 => ?_))
  · refine (k_aload_n t112_92 rfl rfl).trans ?_
    refine (k_getR t112_93 rfl hW zK_0 (by decide) (by decide) (zF_0_6 hW)).trans ?_
    refine (k_getI t112_96 rfl hW zK_27 (by decide) (by decide)).trans ?_
    refine k_callI (as := [.int (gI S 27 3)]) (rest := []) t112_99 rfl rfl (by decide) rfl rfl (Nat.le_of_ble_eq_true rfl) rfl (z_rcS (by decide)) (by decide) (Or.inl (by decide)) hW (fun v4 S5 hW5 => ?_)
    exact k_ireturn t112_102 rfl (by decide)
  refine (zk_swC (n := (3 : Int32)) (lo' := 4) zci_3 rfl).trans (z_ite (fun g6 => ?_) (fun g6 => ?_))
  · refine (k_aload_n t112_103 rfl rfl).trans ?_
    refine (k_getR t112_104 rfl hW zK_0 (by decide) (by decide) (zF_0_6 hW)).trans ?_
    refine (k_getI t112_107 rfl hW zK_27 (by decide) (by decide)).trans ?_
    exact k_ireturn t112_110 rfl (by decide)
  refine (zk_swC (n := (4 : Int32)) (lo' := 5) zci_4 rfl).trans (z_ite (fun g7 => ?_) (fun g7 => ?_))
  · refine (k_aload_n t112_111 rfl rfl).trans ?_
    refine (k_getR t112_112 rfl hW zK_0 (by decide) (by decide) (zM_0_2 hW).1).trans ?_
    refine (k_getI t112_115 rfl hW (zM_0_2 hW).2 (by decide) (by decide)).trans ?_
    refine (k_aload_n t112_118 rfl rfl).trans ?_
    refine (k_getR t112_119 rfl hW zK_0 (by decide) (by decide) (zF_0_6 hW)).trans ?_
    refine (k_getI t112_122 rfl hW zK_27 (by decide) (by decide)).trans ?_
    refine k_callI (as := [.int (gI S 27 3)]) (rest := [.int (gI S (gP S 0 2) 6)]) t112_125 rfl rfl (by decide) rfl rfl (Nat.le_of_ble_eq_true rfl) rfl (z_rcS (by decide)) (by decide) (Or.inl (by decide)) hW (fun v8 S9 hW9 => ?_)
    refine (k_isub t112_128 rfl).trans ?_
    refine (k_aload_n t112_129 rfl rfl).trans ?_
    refine (k_getR t112_130 rfl hW9 zK_0 (by decide) (by decide) (zF_0_6 hW9)).trans ?_
    refine (k_getI t112_133 rfl hW9 zK_27 (by decide) (by decide)).trans ?_
    refine (k_isub t112_136 rfl).trans ?_
    exact k_ireturn t112_137 rfl (by decide)
  refine (zk_swC (n := (5 : Int32)) (lo' := 6) zci_5 rfl).trans (z_ite (fun g10 => ?_) (fun g10 => ?_))
  · refine (k_aload_n t112_138 rfl rfl).trans ?_
    refine (k_getR t112_139 rfl hW zK_0 (by decide) (by decide) (zM_0_2 hW).1).trans ?_
    refine (k_getI t112_142 rfl hW (zM_0_2 hW).2 (by decide) (by decide)).trans ?_
    refine (k_aload_n t112_145 rfl rfl).trans ?_
    refine (k_getR t112_146 rfl hW zK_0 (by decide) (by decide) (zF_0_6 hW)).trans ?_
    refine (k_getI t112_149 rfl hW zK_27 (by decide) (by decide)).trans ?_
    refine (k_aload_n t112_152 rfl rfl).trans ?_
    refine (k_getR t112_153 rfl hW zK_0 (by decide) (by decide) (zF_0_6 hW)).trans ?_
    refine (k_getI t112_156 rfl hW zK_27 (by decide) (by decide)).trans ?_
    refine (k_ior t112_159 rfl).trans ?_
    refine k_callI (as := [.int ((gI S 27 2) ||| (gI S 27 3))]) (rest := [.int (gI S (gP S 0 2) 1)]) t112_160 rfl rfl (by decide) rfl rfl (Nat.le_of_ble_eq_true rfl) rfl (z_rcS (by decide)) (by decide) (Or.inl (by decide)) hW (fun v11 S12 hW12 => ?_)
    refine (k_isub t112_163 rfl).trans ?_
    exact k_ireturn t112_164 rfl (by decide)
  refine (zk_swC (n := (6 : Int32)) (lo' := 7) zci_6 rfl).trans (z_ite (fun g13 => ?_) (fun g13 => ?_))
  · refine (k_aload_n t112_165 rfl rfl).trans ?_
    refine (k_getR t112_166 rfl hW zK_0 (by decide) (by decide) (zF_0_6 hW)).trans ?_
    refine (k_getI t112_169 rfl hW zK_27 (by decide) (by decide)).trans ?_
    refine k_callI (as := [.int (gI S 27 2)]) (rest := []) t112_172 rfl rfl (by decide) rfl rfl (Nat.le_of_ble_eq_true rfl) rfl (z_rcS (by decide)) (by decide) (Or.inl (by decide)) hW (fun v14 S15 hW15 => ?_)
    exact k_ireturn t112_175 rfl (by decide)
  refine (zk_swC (n := (7 : Int32)) (lo' := 8) zci_7 rfl).trans (z_ite (fun g16 => ?_) (fun g16 => ?_))
  · refine (k_aload_n t112_176 rfl rfl).trans ?_
    refine (k_getR t112_177 rfl hW zK_0 (by decide) (by decide) (zF_0_6 hW)).trans ?_
    refine (k_getI t112_180 rfl hW zK_27 (by decide) (by decide)).trans ?_
    exact k_ireturn t112_183 rfl (by decide)
  refine (zk_swC (n := (8 : Int32)) (lo' := 9) zci_8 rfl).trans (z_ite (fun g17 => ?_) (fun g17 => ?_))
  · refine (k_aload_n t112_184 rfl rfl).trans ?_
    refine (k_getR t112_185 rfl hW zK_0 (by decide) (by decide) (zF_0_6 hW)).trans ?_
    refine (k_getI t112_188 rfl hW zK_27 (by decide) (by decide)).trans ?_
    exact k_ireturn t112_191 rfl (by decide)
  refine (zk_swC (n := (9 : Int32)) (lo' := 10) zci_9 rfl).trans (z_ite (fun g18 => ?_) (fun g18 => ?_))
  · refine (k_aload_n t112_192 rfl rfl).trans ?_
    refine (k_getR t112_193 rfl hW zK_0 (by decide) (by decide) (zM_0_2 hW).1).trans ?_
    refine (k_getI t112_196 rfl hW (zM_0_2 hW).2 (by decide) (by decide)).trans ?_
    exact k_ireturn t112_199 rfl (by decide)
  refine (zk_swC (n := (10 : Int32)) (lo' := 11) zci_10 rfl).trans (z_ite (fun g19 => ?_) (fun g19 => ?_))
  · refine (k_aload_n t112_200 rfl rfl).trans ?_
    refine (k_getR t112_201 rfl hW zK_0 (by decide) (by decide) (zM_0_2 hW).1).trans ?_
    refine (k_getI t112_204 rfl hW (zM_0_2 hW).2 (by decide) (by decide)).trans ?_
    exact k_ireturn t112_207 rfl (by decide)
  refine (zk_swC (n := (11 : Int32)) (lo' := 12) zci_11 rfl).trans (z_ite (fun g20 => ?_) (fun g20 => ?_))
  · refine (k_aload_n t112_208 rfl rfl).trans ?_
    refine (k_getR t112_209 rfl hW zK_0 (by decide) (by decide) (zF_0_8 hW)).trans ?_
    refine (k_getI t112_212 rfl hW zK_37 (by decide) (by decide)).trans ?_
    exact k_ireturn t112_215 rfl (by decide)
  refine (zk_swC (n := (12 : Int32)) (lo' := 13) zci_12 rfl).trans (z_ite (fun g21 => ?_) (fun g21 => ?_))
  · refine (k_aload_n t112_216 rfl rfl).trans ?_
    refine (k_getR t112_217 rfl hW zK_0 (by decide) (by decide) (zF_0_10 hW)).trans ?_
    refine (k_getI t112_220 rfl hW zK_182 (by decide) (by decide)).trans ?_
    exact k_ireturn t112_223 rfl (by decide)
  refine (zk_swC (n := (13 : Int32)) (lo' := 14) zci_13 rfl).trans (z_ite (fun g22 => ?_) (fun g22 => ?_))
  · refine (k_aload_n t112_224 rfl rfl).trans ?_
    refine (k_getR t112_225 rfl hW zK_0 (by decide) (by decide) (zF_0_9 hW)).trans ?_
    refine (k_getI t112_228 rfl hW zK_39 (by decide) (by decide)).trans ?_
    exact k_ireturn t112_231 rfl (by decide)
  refine (zk_swC (n := (14 : Int32)) (lo' := 15) zci_14 rfl).trans (z_ite (fun g23 => ?_) (fun g23 => ?_))
  · refine (k_aload_n t112_232 rfl rfl).trans ?_
    refine (k_getI t112_233 rfl hW zK_0 (by decide) (by decide)).trans ?_
    exact k_ireturn t112_236 rfl (by decide)
  refine (k_iconst t112_237 rfl zci_m1).trans ?_
  exact k_ireturn t112_238 rfl (by decide)
theorem t113_0 : z_ft 113 0 = some (.aload_n 0, 1, none, [], 0, 0, 0, 0) := z_ftd (by decide +kernel)
theorem t113_1 : z_ft 113 1 = some (.getfield 20, 3, none, [], 11, 2, 51, 0) := z_ftd (by decide +kernel)
theorem t113_4 : z_ft 113 4 = some (.iload_n 1, 1, none, [], 0, 0, 0, 0) := z_ftd (by decide +kernel)
theorem t113_5 : z_ft 113 5 = some (.invokevirtual 177, 3, none, [], 59, 0, 73, 0) := z_ftd (by decide +kernel)
theorem t113_8 : z_ft 113 8 = some (.ifCond .eq 13, 3, none, [], 21, 0, 0, 0) := z_ftd (by decide +kernel)
theorem t113_11 : z_ft 113 11 = some (.iload_n 2, 1, none, [], 0, 0, 0, 0) := z_ftd (by decide +kernel)
theorem t113_12 : z_ft 113 12 = some (.ifCond .lt 9, 3, none, [], 21, 0, 0, 0) := z_ftd (by decide +kernel)
theorem t113_15 : z_ft 113 15 = some (.iload_n 2, 1, none, [], 0, 0, 0, 0) := z_ftd (by decide +kernel)
theorem t113_16 : z_ft 113 16 = some (.bipush 6, 2, none, [], 0, 0, 0, 0) := z_ftd (by decide +kernel)
theorem t113_18 : z_ft 113 18 = some (.if_icmp .lt 5, 3, none, [], 23, 0, 0, 0) := z_ftd (by decide +kernel)
theorem t113_21 : z_ft 113 21 = some (.iconst (-1), 1, (some []), [], 0, 0, 0, 0) := z_ftd (by decide +kernel)
theorem t113_22 : z_ft 113 22 = some (.ireturn, 1, none, [], 0, 0, 0, 0) := z_ftd (by decide +kernel)
theorem t113_23 : z_ft 113 23 = some (.aload_n 0, 1, none, [], 0, 0, 0, 0) := z_ftd (by decide +kernel)
theorem t113_24 : z_ft 113 24 = some (.getfield 20, 3, none, [], 11, 2, 51, 0) := z_ftd (by decide +kernel)
theorem t113_27 : z_ft 113 27 = some (.getfield 183, 3, none, [], 6, 9, 10, 0) := z_ftd (by decide +kernel)
theorem t113_30 : z_ft 113 30 = some (.iload_n 1, 1, none, [], 0, 0, 0, 0) := z_ftd (by decide +kernel)
theorem t113_31 : z_ft 113 31 = some (.iaload, 1, none, [], 0, 0, 0, 0) := z_ftd (by decide +kernel)
theorem t113_32 : z_ft 113 32 = some (.iload_n 2, 1, none, [], 0, 0, 0, 0) := z_ftd (by decide +kernel)
theorem t113_33 : z_ft 113 33 = some (.invokestatic 186, 3, none, [], 96, 0, 74, 0) := z_ftd (by decide +kernel)
theorem t113_36 : z_ft 113 36 = some (.ireturn, 1, none, [], 0, 0, 0, 0) := z_ftd (by decide +kernel)
-- X11_letter
theorem e113 (d : Nat) (x1 : Int32) (x2 : Int32) (S : z_S) (hW : z_W S)  : fI (d + 1) 113 [.ref 0, .int x1, .int x2] S = (zb (fI d 59 [.ref (gP S 0 2), .int x1] S) fun v1 S2 => (if v1 = (0 : Int32) then some ((-1 : Int32), S2) else (if x2 < (0 : Int32) then some ((-1 : Int32), S2) else (if x2 < (6 : Int32) then (if z_in x1 16 then (zb (fI d 96 [.int (gI S2 ((gP S2 0 2) + 1) (x1).toNatClampNeg), .int x2] S2) fun v7 S8 => some (v7, S8)) else none) else some ((-1 : Int32), S2))))) := by
  refine (fI_en (Nat.le_of_ble_eq_true rfl) rfl).trans ?_
  refine (k_aload_n t113_0 rfl rfl).trans ?_
  refine (k_getR t113_1 rfl hW zK_0 (by decide) (by decide) (zM_0_2 hW).1).trans ?_
  refine (k_iload_n t113_4 rfl rfl).trans ?_
  refine k_callI (as := [.ref (gP S 0 2), .int x1]) (rest := []) t113_5 rfl rfl (by decide) rfl rfl (Nat.le_of_ble_eq_true rfl) rfl (z_rcV hW ((zM_0_2 hW).2) (by decide)) (by decide) (Or.inr (by decide)) hW (fun v1 S2 hW2 => ?_)
  refine (k_if_eq t113_8 rfl).trans (z_ite (fun g3 => ?_) (fun g3 => ?_))
  · refine (zk_mk (ls' := [z_j, z_j, z_j]) t113_21 rfl).trans ?_
    refine (k_iconst t113_21 rfl zci_m1).trans ?_
    exact k_ireturn t113_22 rfl (by decide)
  · refine (k_iload_n t113_11 rfl rfl).trans ?_
    refine (k_if_lt t113_12 rfl).trans (z_ite (fun g4 => ?_) (fun g4 => ?_))
    · refine (zk_mk (ls' := [z_j, z_j, z_j]) t113_21 rfl).trans ?_
      refine (k_iconst t113_21 rfl zci_m1).trans ?_
      exact k_ireturn t113_22 rfl (by decide)
    · refine (k_iload_n t113_15 rfl rfl).trans ?_
      refine (k_bipush t113_16 rfl zcb_6).trans ?_
      refine (k_icmp_lt t113_18 rfl).trans (z_ite (fun g5 => ?_) (fun g5 => ?_))
      · refine (k_aload_n t113_23 rfl rfl).trans ?_
        refine (k_getR t113_24 rfl hW2 zK_0 (by decide) (by decide) (zM_0_2 hW2).1).trans ?_
        refine (k_getR t113_27 rfl hW2 (zM_0_2 hW2).2 (by decide) (by decide) (zO_6_9 hW2 (zM_0_2 hW2).2)).trans ?_
        refine (k_iload_n t113_30 rfl rfl).trans ?_
        refine (k_iald t113_31 rfl hW2 (zOK_6_9 (zM_0_2 hW2).2) (zOL_6_9 (zM_0_2 hW2).2)).trans (z_ite (fun g6 => ?_) (fun _ => rfl))
        refine (k_iload_n t113_32 rfl rfl).trans ?_
        refine k_callI (as := [.int (gI S2 ((gP S2 0 2) + 1) (x1).toNatClampNeg), .int x2]) (rest := []) t113_33 rfl rfl (by decide) rfl rfl (Nat.le_of_ble_eq_true rfl) rfl (z_rcS (by decide)) (by decide) (Or.inl (by decide)) hW2 (fun v7 S8 hW8 => ?_)
        exact k_ireturn t113_36 rfl (by decide)
      · refine (zk_mk (ls' := [z_j, z_j, z_j]) t113_21 rfl).trans ?_
        refine (k_iconst t113_21 rfl zci_m1).trans ?_
        exact k_ireturn t113_22 rfl (by decide)
theorem t114_0 : z_ft 114 0 = some (.aload_n 0, 1, none, [], 0, 0, 0, 0) := z_ftd (by decide +kernel)
theorem t114_1 : z_ft 114 1 = some (.getfield 20, 3, none, [], 11, 2, 51, 0) := z_ftd (by decide +kernel)
theorem t114_4 : z_ft 114 4 = some (.iload_n 1, 1, none, [], 0, 0, 0, 0) := z_ftd (by decide +kernel)
theorem t114_5 : z_ft 114 5 = some (.invokevirtual 190, 3, none, [], 58, 0, 75, 0) := z_ftd (by decide +kernel)
theorem t114_8 : z_ft 114 8 = some (.ifCond .ne 5, 3, none, [], 13, 0, 0, 0) := z_ftd (by decide +kernel)
theorem t114_11 : z_ft 114 11 = some (.iconst (-1), 1, none, [], 0, 0, 0, 0) := z_ftd (by decide +kernel)
theorem t114_12 : z_ft 114 12 = some (.ireturn, 1, none, [], 0, 0, 0, 0) := z_ftd (by decide +kernel)
theorem t114_13 : z_ft 114 13 = some (.iload_n 2, 1, none, [], 0, 0, 0, 0) := z_ftd (by decide +kernel)
theorem t114_14 : z_ft 114 14 = some (.tableswitch 111 0 4 #[34, 44, 56, 73, 82], 34, none, [48, 58, 70, 87, 96], 125, 0, 0, 0) := z_ftd (by decide +kernel)
theorem t114_48 : z_ft 114 48 = some (.aload_n 0, 1, none, [], 0, 0, 0, 0) := z_ftd (by decide +kernel)
theorem t114_49 : z_ft 114 49 = some (.getfield 46, 3, none, [], 11, 6, 55, 0) := z_ftd (by decide +kernel)
theorem t114_52 : z_ft 114 52 = some (.getfield 193, 3, none, [], 8, 5, 30, 0) := z_ftd (by decide +kernel)
theorem t114_55 : z_ft 114 55 = some (.iload_n 1, 1, none, [], 0, 0, 0, 0) := z_ftd (by decide +kernel)
theorem t114_56 : z_ft 114 56 = some (.iaload, 1, none, [], 0, 0, 0, 0) := z_ftd (by decide +kernel)
theorem t114_57 : z_ft 114 57 = some (.ireturn, 1, none, [], 0, 0, 0, 0) := z_ftd (by decide +kernel)
theorem t114_58 : z_ft 114 58 = some (.aload_n 0, 1, none, [], 0, 0, 0, 0) := z_ftd (by decide +kernel)
theorem t114_59 : z_ft 114 59 = some (.getfield 46, 3, none, [], 11, 6, 55, 0) := z_ftd (by decide +kernel)
theorem t114_62 : z_ft 114 62 = some (.getfield 167, 3, none, [], 8, 2, 27, 0) := z_ftd (by decide +kernel)
theorem t114_65 : z_ft 114 65 = some (.iload_n 1, 1, none, [], 0, 0, 0, 0) := z_ftd (by decide +kernel)
theorem t114_66 : z_ft 114 66 = some (.ishr, 1, none, [], 0, 0, 0, 0) := z_ftd (by decide +kernel)
theorem t114_67 : z_ft 114 67 = some (.iconst 1, 1, none, [], 0, 0, 0, 0) := z_ftd (by decide +kernel)
theorem t114_68 : z_ft 114 68 = some (.iand, 1, none, [], 0, 0, 0, 0) := z_ftd (by decide +kernel)
theorem t114_69 : z_ft 114 69 = some (.ireturn, 1, none, [], 0, 0, 0, 0) := z_ftd (by decide +kernel)
theorem t114_70 : z_ft 114 70 = some (.aload_n 0, 1, none, [], 0, 0, 0, 0) := z_ftd (by decide +kernel)
theorem t114_71 : z_ft 114 71 = some (.getfield 46, 3, none, [], 11, 6, 55, 0) := z_ftd (by decide +kernel)
theorem t114_74 : z_ft 114 74 = some (.iload_n 1, 1, none, [], 0, 0, 0, 0) := z_ftd (by decide +kernel)
theorem t114_75 : z_ft 114 75 = some (.invokevirtual 196, 3, none, [], 76, 0, 76, 0) := z_ftd (by decide +kernel)
theorem t114_78 : z_ft 114 78 = some (.ifCond .eq 7, 3, none, [], 85, 0, 0, 0) := z_ftd (by decide +kernel)
theorem t114_81 : z_ft 114 81 = some (.iconst 1, 1, none, [], 0, 0, 0, 0) := z_ftd (by decide +kernel)
theorem t114_82 : z_ft 114 82 = some (.goto 4, 3, none, [], 86, 0, 0, 0) := z_ftd (by decide +kernel)
theorem t114_85 : z_ft 114 85 = some (.iconst 0, 1, none, [], 0, 0, 0, 0) := z_ftd (by decide +kernel)
theorem t114_86 : z_ft 114 86 = some (.ireturn, 1, (some []), [], 0, 0, 0, 0) := z_ftd (by decide +kernel)
theorem t114_87 : z_ft 114 87 = some (.aload_n 0, 1, none, [], 0, 0, 0, 0) := z_ftd (by decide +kernel)
theorem t114_88 : z_ft 114 88 = some (.getfield 20, 3, none, [], 11, 2, 51, 0) := z_ftd (by decide +kernel)
theorem t114_91 : z_ft 114 91 = some (.iload_n 1, 1, none, [], 0, 0, 0, 0) := z_ftd (by decide +kernel)
theorem t114_92 : z_ft 114 92 = some (.invokevirtual 199, 3, none, [], 63, 0, 77, 0) := z_ftd (by decide +kernel)
theorem t114_95 : z_ft 114 95 = some (.ireturn, 1, none, [], 0, 0, 0, 0) := z_ftd (by decide +kernel)
theorem t114_96 : z_ft 114 96 = some (.aload_n 0, 1, none, [], 0, 0, 0, 0) := z_ftd (by decide +kernel)
theorem t114_97 : z_ft 114 97 = some (.getfield 39, 3, none, [], 11, 5, 54, 0) := z_ftd (by decide +kernel)
theorem t114_100 : z_ft 114 100 = some (.aload_n 0, 1, none, [], 0, 0, 0, 0) := z_ftd (by decide +kernel)
theorem t114_101 : z_ft 114 101 = some (.getfield 46, 3, none, [], 11, 6, 55, 0) := z_ftd (by decide +kernel)
theorem t114_104 : z_ft 114 104 = some (.iload_n 1, 1, none, [], 0, 0, 0, 0) := z_ftd (by decide +kernel)
theorem t114_105 : z_ft 114 105 = some (.iconst 0, 1, none, [], 0, 0, 0, 0) := z_ftd (by decide +kernel)
theorem t114_106 : z_ft 114 106 = some (.aload_n 0, 1, none, [], 0, 0, 0, 0) := z_ftd (by decide +kernel)
theorem t114_107 : z_ft 114 107 = some (.getfield 20, 3, none, [], 11, 2, 51, 0) := z_ftd (by decide +kernel)
theorem t114_110 : z_ft 114 110 = some (.getfield 144, 3, none, [], 6, 3, 5, 0) := z_ftd (by decide +kernel)
theorem t114_113 : z_ft 114 113 = some (.invokevirtual 202, 3, none, [], 34, 0, 78, 0) := z_ftd (by decide +kernel)
theorem t114_116 : z_ft 114 116 = some (.ifCond .eq 7, 3, none, [], 123, 0, 0, 0) := z_ftd (by decide +kernel)
theorem t114_119 : z_ft 114 119 = some (.iconst 1, 1, none, [], 0, 0, 0, 0) := z_ftd (by decide +kernel)
theorem t114_120 : z_ft 114 120 = some (.goto 4, 3, none, [], 124, 0, 0, 0) := z_ftd (by decide +kernel)
theorem t114_123 : z_ft 114 123 = some (.iconst 0, 1, none, [], 0, 0, 0, 0) := z_ftd (by decide +kernel)
theorem t114_124 : z_ft 114 124 = some (.ireturn, 1, (some []), [], 0, 0, 0, 0) := z_ftd (by decide +kernel)
theorem t114_125 : z_ft 114 125 = some (.iconst (-1), 1, none, [], 0, 0, 0, 0) := z_ftd (by decide +kernel)
theorem t114_126 : z_ft 114 126 = some (.ireturn, 1, none, [], 0, 0, 0, 0) := z_ftd (by decide +kernel)
-- X11_room
theorem e114 (d : Nat) (x1 : Int32) (x2 : Int32) (S : z_S) (hW : z_W S)  : fI (d + 1) 114 [.ref 0, .int x1, .int x2] S = (zb (fI d 58 [.ref (gP S 0 2), .int x1] S) fun v1 S2 => (if ¬ v1 = (0 : Int32) then (if x2 = (0 : Int32) then (if z_in x1 16 then some ((gI S2 28 (x1).toNatClampNeg), S2) else none) else (if x2 = (1 : Int32) then some ((((gI S2 27 2) >>> (x1 &&& 31)) &&& (1 : Int32)), S2) else (if x2 = (2 : Int32) then (zb (fI d 76 [.ref 27, .int x1] S2) fun v8 S9 => (if v8 = (0 : Int32) then some ((0 : Int32), S9) else some ((1 : Int32), S9))) else (if x2 = (3 : Int32) then (zb (fI d 63 [.ref (gP S2 0 2), .int x1] S2) fun v12 S13 => some (v12, S13)) else (if x2 = (4 : Int32) then (zb (fI d 34 [.ref 22, .ref 27, .int x1, .int (0 : Int32), .int (gI S2 (gP S2 0 2) 3)] S2) fun v15 S16 => (if v15 = (0 : Int32) then some ((0 : Int32), S16) else some ((1 : Int32), S16))) else some ((-1 : Int32), S2)))))) else some ((-1 : Int32), S2))) := by
  refine (fI_en (Nat.le_of_ble_eq_true rfl) rfl).trans ?_
  refine (k_aload_n t114_0 rfl rfl).trans ?_
  refine (k_getR t114_1 rfl hW zK_0 (by decide) (by decide) (zM_0_2 hW).1).trans ?_
  refine (k_iload_n t114_4 rfl rfl).trans ?_
  refine k_callI (as := [.ref (gP S 0 2), .int x1]) (rest := []) t114_5 rfl rfl (by decide) rfl rfl (Nat.le_of_ble_eq_true rfl) rfl (z_rcV hW ((zM_0_2 hW).2) (by decide)) (by decide) (Or.inr (by decide)) hW (fun v1 S2 hW2 => ?_)
  refine (k_if_ne t114_8 rfl).trans (z_ite (fun g3 => ?_) (fun g3 => ?_))
  · refine (k_iload_n t114_13 rfl rfl).trans ?_
    refine (k_switch t114_14 rfl).trans ?_
    refine (zk_swC (n := (0 : Int32)) (lo' := 1) zci_0 rfl).trans (z_ite (fun g4 => ?_) (fun g4 => ?_))
    · refine (k_aload_n t114_48 rfl rfl).trans ?_
      refine (k_getR t114_49 rfl hW2 zK_0 (by decide) (by decide) (zF_0_6 hW2)).trans ?_
      refine (k_getR t114_52 rfl hW2 zK_27 (by decide) (by decide) (zF_27_5 hW2)).trans ?_
      refine (k_iload_n t114_55 rfl rfl).trans ?_
      refine (k_iald t114_56 rfl hW2 zK_28 zL_28).trans (z_ite (fun g5 => ?_) (fun _ => rfl))
      exact k_ireturn t114_57 rfl (by decide)
    refine (zk_swC (n := (1 : Int32)) (lo' := 2) zci_1 rfl).trans (z_ite (fun g6 => ?_) (fun g6 => ?_))
    · refine (k_aload_n t114_58 rfl rfl).trans ?_
      refine (k_getR t114_59 rfl hW2 zK_0 (by decide) (by decide) (zF_0_6 hW2)).trans ?_
      refine (k_getI t114_62 rfl hW2 zK_27 (by decide) (by decide)).trans ?_
      refine (k_iload_n t114_65 rfl rfl).trans ?_
      refine (k_ishr t114_66 rfl).trans ?_
      refine (k_iconst t114_67 rfl zci_1).trans ?_
      refine (k_iand t114_68 rfl).trans ?_
      exact k_ireturn t114_69 rfl (by decide)
    refine (zk_swC (n := (2 : Int32)) (lo' := 3) zci_2 rfl).trans (z_ite (fun g7 => ?_) (fun g7 => ?_))
    · refine (k_aload_n t114_70 rfl rfl).trans ?_
      refine (k_getR t114_71 rfl hW2 zK_0 (by decide) (by decide) (zF_0_6 hW2)).trans ?_
      refine (k_iload_n t114_74 rfl rfl).trans ?_
      refine k_callI (as := [.ref 27, .int x1]) (rest := []) t114_75 rfl rfl (by decide) rfl rfl (Nat.le_of_ble_eq_true rfl) rfl (z_rcV hW2 (zK_27) (by decide)) (by decide) (Or.inr (by decide)) hW2 (fun v8 S9 hW9 => ?_)
      refine (k_if_eq t114_78 rfl).trans (z_ite (fun g10 => ?_) (fun g10 => ?_))
      · refine (k_iconst t114_85 rfl zci_0).trans ?_
        refine (zk_mk (ls' := [z_j, z_j, z_j]) t114_86 rfl).trans ?_
        exact k_ireturn t114_86 rfl (by decide)
      · refine (k_iconst t114_81 rfl zci_1).trans ?_
        refine (k_goto t114_82 rfl).trans ?_
        refine (zk_mk (ls' := [z_j, z_j, z_j]) t114_86 rfl).trans ?_
        exact k_ireturn t114_86 rfl (by decide)
    refine (zk_swC (n := (3 : Int32)) (lo' := 4) zci_3 rfl).trans (z_ite (fun g11 => ?_) (fun g11 => ?_))
    · refine (k_aload_n t114_87 rfl rfl).trans ?_
      refine (k_getR t114_88 rfl hW2 zK_0 (by decide) (by decide) (zM_0_2 hW2).1).trans ?_
      refine (k_iload_n t114_91 rfl rfl).trans ?_
      refine k_callI (as := [.ref (gP S2 0 2), .int x1]) (rest := []) t114_92 rfl rfl (by decide) rfl rfl (Nat.le_of_ble_eq_true rfl) rfl (z_rcV hW2 ((zM_0_2 hW2).2) (by decide)) (by decide) (Or.inl (by decide)) hW2 (fun v12 S13 hW13 => ?_)
      exact k_ireturn t114_95 rfl (by decide)
    refine (zk_swC (n := (4 : Int32)) (lo' := 5) zci_4 rfl).trans (z_ite (fun g14 => ?_) (fun g14 => ?_))
    · refine (k_aload_n t114_96 rfl rfl).trans ?_
      refine (k_getR t114_97 rfl hW2 zK_0 (by decide) (by decide) (zF_0_5 hW2)).trans ?_
      refine (k_aload_n t114_100 rfl rfl).trans ?_
      refine (k_getR t114_101 rfl hW2 zK_0 (by decide) (by decide) (zF_0_6 hW2)).trans ?_
      refine (k_iload_n t114_104 rfl rfl).trans ?_
      refine (k_iconst t114_105 rfl zci_0).trans ?_
      refine (k_aload_n t114_106 rfl rfl).trans ?_
      refine (k_getR t114_107 rfl hW2 zK_0 (by decide) (by decide) (zM_0_2 hW2).1).trans ?_
      refine (k_getI t114_110 rfl hW2 (zM_0_2 hW2).2 (by decide) (by decide)).trans ?_
      refine k_callI (as := [.ref 22, .ref 27, .int x1, .int (0 : Int32), .int (gI S2 (gP S2 0 2) 3)]) (rest := []) t114_113 rfl rfl (by decide) rfl rfl (Nat.le_of_ble_eq_true rfl) rfl (z_rcV hW2 (zK_22) (by decide)) (by decide) (Or.inr (by decide)) hW2 (fun v15 S16 hW16 => ?_)
      refine (k_if_eq t114_116 rfl).trans (z_ite (fun g17 => ?_) (fun g17 => ?_))
      · refine (k_iconst t114_123 rfl zci_0).trans ?_
        refine (zk_mk (ls' := [z_j, z_j, z_j]) t114_124 rfl).trans ?_
        exact k_ireturn t114_124 rfl (by decide)
      · refine (k_iconst t114_119 rfl zci_1).trans ?_
        refine (k_goto t114_120 rfl).trans ?_
        refine (zk_mk (ls' := [z_j, z_j, z_j]) t114_124 rfl).trans ?_
        exact k_ireturn t114_124 rfl (by decide)
    refine (k_iconst t114_125 rfl zci_m1).trans ?_
    exact k_ireturn t114_126 rfl (by decide)
  · refine (k_iconst t114_11 rfl zci_m1).trans ?_
    exact k_ireturn t114_12 rfl (by decide)
theorem t115_0 : z_ft 115 0 = some (.aload_n 0, 1, none, [], 0, 0, 0, 0) := z_ftd (by decide +kernel)
theorem t115_1 : z_ft 115 1 = some (.getfield 20, 3, none, [], 11, 2, 51, 0) := z_ftd (by decide +kernel)
theorem t115_4 : z_ft 115 4 = some (.iload_n 1, 1, none, [], 0, 0, 0, 0) := z_ftd (by decide +kernel)
theorem t115_5 : z_ft 115 5 = some (.invokevirtual 177, 3, none, [], 59, 0, 73, 0) := z_ftd (by decide +kernel)
theorem t115_8 : z_ft 115 8 = some (.ifCond .ne 5, 3, none, [], 13, 0, 0, 0) := z_ftd (by decide +kernel)
theorem t115_11 : z_ft 115 11 = some (.iconst (-1), 1, none, [], 0, 0, 0, 0) := z_ftd (by decide +kernel)
theorem t115_12 : z_ft 115 12 = some (.ireturn, 1, none, [], 0, 0, 0, 0) := z_ftd (by decide +kernel)
theorem t115_13 : z_ft 115 13 = some (.iload_n 2, 1, none, [], 0, 0, 0, 0) := z_ftd (by decide +kernel)
theorem t115_14 : z_ft 115 14 = some (.tableswitch 98 0 4 #[34, 44, 54, 79, 89], 34, none, [48, 58, 68, 93, 103], 112, 0, 0, 0) := z_ftd (by decide +kernel)
theorem t115_48 : z_ft 115 48 = some (.aload_n 0, 1, none, [], 0, 0, 0, 0) := z_ftd (by decide +kernel)
theorem t115_49 : z_ft 115 49 = some (.getfield 20, 3, none, [], 11, 2, 51, 0) := z_ftd (by decide +kernel)
theorem t115_52 : z_ft 115 52 = some (.getfield 206, 3, none, [], 6, 10, 11, 0) := z_ftd (by decide +kernel)
theorem t115_55 : z_ft 115 55 = some (.iload_n 1, 1, none, [], 0, 0, 0, 0) := z_ftd (by decide +kernel)
theorem t115_56 : z_ft 115 56 = some (.iaload, 1, none, [], 0, 0, 0, 0) := z_ftd (by decide +kernel)
theorem t115_57 : z_ft 115 57 = some (.ireturn, 1, none, [], 0, 0, 0, 0) := z_ftd (by decide +kernel)
theorem t115_58 : z_ft 115 58 = some (.aload_n 0, 1, none, [], 0, 0, 0, 0) := z_ftd (by decide +kernel)
theorem t115_59 : z_ft 115 59 = some (.getfield 20, 3, none, [], 11, 2, 51, 0) := z_ftd (by decide +kernel)
theorem t115_62 : z_ft 115 62 = some (.getfield 209, 3, none, [], 6, 11, 12, 0) := z_ftd (by decide +kernel)
theorem t115_65 : z_ft 115 65 = some (.iload_n 1, 1, none, [], 0, 0, 0, 0) := z_ftd (by decide +kernel)
theorem t115_66 : z_ft 115 66 = some (.iaload, 1, none, [], 0, 0, 0, 0) := z_ftd (by decide +kernel)
theorem t115_67 : z_ft 115 67 = some (.ireturn, 1, none, [], 0, 0, 0, 0) := z_ftd (by decide +kernel)
theorem t115_68 : z_ft 115 68 = some (.aload_n 0, 1, none, [], 0, 0, 0, 0) := z_ftd (by decide +kernel)
theorem t115_69 : z_ft 115 69 = some (.getfield 46, 3, none, [], 11, 6, 55, 0) := z_ftd (by decide +kernel)
theorem t115_72 : z_ft 115 72 = some (.iload_n 1, 1, none, [], 0, 0, 0, 0) := z_ftd (by decide +kernel)
theorem t115_73 : z_ft 115 73 = some (.invokevirtual 212, 3, none, [], 77, 0, 79, 0) := z_ftd (by decide +kernel)
theorem t115_76 : z_ft 115 76 = some (.ifCond .eq 15, 3, none, [], 91, 0, 0, 0) := z_ftd (by decide +kernel)
theorem t115_79 : z_ft 115 79 = some (.aload_n 0, 1, none, [], 0, 0, 0, 0) := z_ftd (by decide +kernel)
theorem t115_80 : z_ft 115 80 = some (.getfield 46, 3, none, [], 11, 6, 55, 0) := z_ftd (by decide +kernel)
theorem t115_83 : z_ft 115 83 = some (.getfield 215, 3, none, [], 8, 6, 31, 0) := z_ftd (by decide +kernel)
theorem t115_86 : z_ft 115 86 = some (.iload_n 1, 1, none, [], 0, 0, 0, 0) := z_ftd (by decide +kernel)
theorem t115_87 : z_ft 115 87 = some (.iaload, 1, none, [], 0, 0, 0, 0) := z_ftd (by decide +kernel)
theorem t115_88 : z_ft 115 88 = some (.goto 4, 3, none, [], 92, 0, 0, 0) := z_ftd (by decide +kernel)
theorem t115_91 : z_ft 115 91 = some (.iconst (-1), 1, none, [], 0, 0, 0, 0) := z_ftd (by decide +kernel)
theorem t115_92 : z_ft 115 92 = some (.ireturn, 1, (some []), [], 0, 0, 0, 0) := z_ftd (by decide +kernel)
theorem t115_93 : z_ft 115 93 = some (.aload_n 0, 1, none, [], 0, 0, 0, 0) := z_ftd (by decide +kernel)
theorem t115_94 : z_ft 115 94 = some (.getfield 46, 3, none, [], 11, 6, 55, 0) := z_ftd (by decide +kernel)
theorem t115_97 : z_ft 115 97 = some (.getfield 218, 3, none, [], 8, 7, 32, 0) := z_ftd (by decide +kernel)
theorem t115_100 : z_ft 115 100 = some (.iload_n 1, 1, none, [], 0, 0, 0, 0) := z_ftd (by decide +kernel)
theorem t115_101 : z_ft 115 101 = some (.iaload, 1, none, [], 0, 0, 0, 0) := z_ftd (by decide +kernel)
theorem t115_102 : z_ft 115 102 = some (.ireturn, 1, none, [], 0, 0, 0, 0) := z_ftd (by decide +kernel)
theorem t115_103 : z_ft 115 103 = some (.aload_n 0, 1, none, [], 0, 0, 0, 0) := z_ftd (by decide +kernel)
theorem t115_104 : z_ft 115 104 = some (.getfield 46, 3, none, [], 11, 6, 55, 0) := z_ftd (by decide +kernel)
theorem t115_107 : z_ft 115 107 = some (.iload_n 1, 1, none, [], 0, 0, 0, 0) := z_ftd (by decide +kernel)
theorem t115_108 : z_ft 115 108 = some (.invokevirtual 221, 3, none, [], 78, 0, 80, 0) := z_ftd (by decide +kernel)
theorem t115_111 : z_ft 115 111 = some (.ireturn, 1, none, [], 0, 0, 0, 0) := z_ftd (by decide +kernel)
theorem t115_112 : z_ft 115 112 = some (.iconst (-1), 1, none, [], 0, 0, 0, 0) := z_ftd (by decide +kernel)
theorem t115_113 : z_ft 115 113 = some (.ireturn, 1, none, [], 0, 0, 0, 0) := z_ftd (by decide +kernel)
-- X11_lodger
theorem e115 (d : Nat) (x1 : Int32) (x2 : Int32) (S : z_S) (hW : z_W S)  : fI (d + 1) 115 [.ref 0, .int x1, .int x2] S = (zb (fI d 59 [.ref (gP S 0 2), .int x1] S) fun v1 S2 => (if ¬ v1 = (0 : Int32) then (if x2 = (0 : Int32) then (if z_in x1 16 then some ((gI S2 ((gP S2 0 2) + 2) (x1).toNatClampNeg), S2) else none) else (if x2 = (1 : Int32) then (if z_in x1 16 then some ((gI S2 ((gP S2 0 2) + 3) (x1).toNatClampNeg), S2) else none) else (if x2 = (2 : Int32) then (zb (fI d 77 [.ref 27, .int x1] S2) fun v9 S10 => (if v9 = (0 : Int32) then some ((-1 : Int32), S10) else (if z_in x1 16 then some ((gI S10 29 (x1).toNatClampNeg), S10) else none))) else (if x2 = (3 : Int32) then (if z_in x1 16 then some ((gI S2 30 (x1).toNatClampNeg), S2) else none) else (if x2 = (4 : Int32) then (zb (fI d 78 [.ref 27, .int x1] S2) fun v16 S17 => some (v16, S17)) else some ((-1 : Int32), S2)))))) else some ((-1 : Int32), S2))) := by
  refine (fI_en (Nat.le_of_ble_eq_true rfl) rfl).trans ?_
  refine (k_aload_n t115_0 rfl rfl).trans ?_
  refine (k_getR t115_1 rfl hW zK_0 (by decide) (by decide) (zM_0_2 hW).1).trans ?_
  refine (k_iload_n t115_4 rfl rfl).trans ?_
  refine k_callI (as := [.ref (gP S 0 2), .int x1]) (rest := []) t115_5 rfl rfl (by decide) rfl rfl (Nat.le_of_ble_eq_true rfl) rfl (z_rcV hW ((zM_0_2 hW).2) (by decide)) (by decide) (Or.inr (by decide)) hW (fun v1 S2 hW2 => ?_)
  refine (k_if_ne t115_8 rfl).trans (z_ite (fun g3 => ?_) (fun g3 => ?_))
  · refine (k_iload_n t115_13 rfl rfl).trans ?_
    refine (k_switch t115_14 rfl).trans ?_
    refine (zk_swC (n := (0 : Int32)) (lo' := 1) zci_0 rfl).trans (z_ite (fun g4 => ?_) (fun g4 => ?_))
    · refine (k_aload_n t115_48 rfl rfl).trans ?_
      refine (k_getR t115_49 rfl hW2 zK_0 (by decide) (by decide) (zM_0_2 hW2).1).trans ?_
      refine (k_getR t115_52 rfl hW2 (zM_0_2 hW2).2 (by decide) (by decide) (zO_6_10 hW2 (zM_0_2 hW2).2)).trans ?_
      refine (k_iload_n t115_55 rfl rfl).trans ?_
      refine (k_iald t115_56 rfl hW2 (zOK_6_10 (zM_0_2 hW2).2) (zOL_6_10 (zM_0_2 hW2).2)).trans (z_ite (fun g5 => ?_) (fun _ => rfl))
      exact k_ireturn t115_57 rfl (by decide)
    refine (zk_swC (n := (1 : Int32)) (lo' := 2) zci_1 rfl).trans (z_ite (fun g6 => ?_) (fun g6 => ?_))
    · refine (k_aload_n t115_58 rfl rfl).trans ?_
      refine (k_getR t115_59 rfl hW2 zK_0 (by decide) (by decide) (zM_0_2 hW2).1).trans ?_
      refine (k_getR t115_62 rfl hW2 (zM_0_2 hW2).2 (by decide) (by decide) (zO_6_11 hW2 (zM_0_2 hW2).2)).trans ?_
      refine (k_iload_n t115_65 rfl rfl).trans ?_
      refine (k_iald t115_66 rfl hW2 (zOK_6_11 (zM_0_2 hW2).2) (zOL_6_11 (zM_0_2 hW2).2)).trans (z_ite (fun g7 => ?_) (fun _ => rfl))
      exact k_ireturn t115_67 rfl (by decide)
    refine (zk_swC (n := (2 : Int32)) (lo' := 3) zci_2 rfl).trans (z_ite (fun g8 => ?_) (fun g8 => ?_))
    · refine (k_aload_n t115_68 rfl rfl).trans ?_
      refine (k_getR t115_69 rfl hW2 zK_0 (by decide) (by decide) (zF_0_6 hW2)).trans ?_
      refine (k_iload_n t115_72 rfl rfl).trans ?_
      refine k_callI (as := [.ref 27, .int x1]) (rest := []) t115_73 rfl rfl (by decide) rfl rfl (Nat.le_of_ble_eq_true rfl) rfl (z_rcV hW2 (zK_27) (by decide)) (by decide) (Or.inr (by decide)) hW2 (fun v9 S10 hW10 => ?_)
      refine (k_if_eq t115_76 rfl).trans (z_ite (fun g11 => ?_) (fun g11 => ?_))
      · refine (k_iconst t115_91 rfl zci_m1).trans ?_
        refine (zk_mk (ls' := [z_j, z_j, z_j]) t115_92 rfl).trans ?_
        exact k_ireturn t115_92 rfl (by decide)
      · refine (k_aload_n t115_79 rfl rfl).trans ?_
        refine (k_getR t115_80 rfl hW10 zK_0 (by decide) (by decide) (zF_0_6 hW10)).trans ?_
        refine (k_getR t115_83 rfl hW10 zK_27 (by decide) (by decide) (zF_27_6 hW10)).trans ?_
        refine (k_iload_n t115_86 rfl rfl).trans ?_
        refine (k_iald t115_87 rfl hW10 zK_29 zL_29).trans (z_ite (fun g12 => ?_) (fun _ => rfl))
        refine (k_goto t115_88 rfl).trans ?_
        refine (zk_mk (ls' := [z_j, z_j, z_j]) t115_92 rfl).trans ?_
        exact k_ireturn t115_92 rfl (by decide)
    refine (zk_swC (n := (3 : Int32)) (lo' := 4) zci_3 rfl).trans (z_ite (fun g13 => ?_) (fun g13 => ?_))
    · refine (k_aload_n t115_93 rfl rfl).trans ?_
      refine (k_getR t115_94 rfl hW2 zK_0 (by decide) (by decide) (zF_0_6 hW2)).trans ?_
      refine (k_getR t115_97 rfl hW2 zK_27 (by decide) (by decide) (zF_27_7 hW2)).trans ?_
      refine (k_iload_n t115_100 rfl rfl).trans ?_
      refine (k_iald t115_101 rfl hW2 zK_30 zL_30).trans (z_ite (fun g14 => ?_) (fun _ => rfl))
      exact k_ireturn t115_102 rfl (by decide)
    refine (zk_swC (n := (4 : Int32)) (lo' := 5) zci_4 rfl).trans (z_ite (fun g15 => ?_) (fun g15 => ?_))
    · refine (k_aload_n t115_103 rfl rfl).trans ?_
      refine (k_getR t115_104 rfl hW2 zK_0 (by decide) (by decide) (zF_0_6 hW2)).trans ?_
      refine (k_iload_n t115_107 rfl rfl).trans ?_
      refine k_callI (as := [.ref 27, .int x1]) (rest := []) t115_108 rfl rfl (by decide) rfl rfl (Nat.le_of_ble_eq_true rfl) rfl (z_rcV hW2 (zK_27) (by decide)) (by decide) (Or.inl (by decide)) hW2 (fun v16 S17 hW17 => ?_)
      exact k_ireturn t115_111 rfl (by decide)
    refine (k_iconst t115_112 rfl zci_m1).trans ?_
    exact k_ireturn t115_113 rfl (by decide)
  · refine (k_iconst t115_11 rfl zci_m1).trans ?_
    exact k_ireturn t115_12 rfl (by decide)
theorem t116_0 : z_ft 116 0 = some (.iload_n 1, 1, none, [], 0, 0, 0, 0) := z_ftd (by decide +kernel)
theorem t116_1 : z_ft 116 1 = some (.ifCond .lt 26, 3, none, [], 27, 0, 0, 0) := z_ftd (by decide +kernel)
theorem t116_4 : z_ft 116 4 = some (.iload_n 1, 1, none, [], 0, 0, 0, 0) := z_ftd (by decide +kernel)
theorem t116_5 : z_ft 116 5 = some (.aload_n 0, 1, none, [], 0, 0, 0, 0) := z_ftd (by decide +kernel)
theorem t116_6 : z_ft 116 6 = some (.getfield 46, 3, none, [], 11, 6, 55, 0) := z_ftd (by decide +kernel)
theorem t116_9 : z_ft 116 9 = some (.getfield 164, 3, none, [], 8, 4, 29, 0) := z_ftd (by decide +kernel)
theorem t116_12 : z_ft 116 12 = some (.if_icmp .ge 15, 3, none, [], 27, 0, 0, 0) := z_ftd (by decide +kernel)
theorem t116_15 : z_ft 116 15 = some (.aload_n 0, 1, none, [], 0, 0, 0, 0) := z_ftd (by decide +kernel)
theorem t116_16 : z_ft 116 16 = some (.getfield 46, 3, none, [], 11, 6, 55, 0) := z_ftd (by decide +kernel)
theorem t116_19 : z_ft 116 19 = some (.getfield 224, 3, none, [], 8, 8, 33, 0) := z_ftd (by decide +kernel)
theorem t116_22 : z_ft 116 22 = some (.iload_n 1, 1, none, [], 0, 0, 0, 0) := z_ftd (by decide +kernel)
theorem t116_23 : z_ft 116 23 = some (.iaload, 1, none, [], 0, 0, 0, 0) := z_ftd (by decide +kernel)
theorem t116_24 : z_ft 116 24 = some (.goto 4, 3, none, [], 28, 0, 0, 0) := z_ftd (by decide +kernel)
theorem t116_27 : z_ft 116 27 = some (.iconst (-1), 1, (some []), [], 0, 0, 0, 0) := z_ftd (by decide +kernel)
theorem t116_28 : z_ft 116 28 = some (.ireturn, 1, (some []), [], 0, 0, 0, 0) := z_ftd (by decide +kernel)
noncomputable def b116_27 (d : Nat)  (S : z_S) : Option (Int32 × z_S) := zk kI z_X0 d 116 27 [z_j, z_j] [] S
theorem b116_27_eq (d : Nat)  (S : z_S) (hW : z_W S)  : b116_27 d  S = some ((-1 : Int32), S) := by
  unfold b116_27
  refine (k_iconst t116_27 rfl zci_m1).trans ?_
  refine (zk_mk (ls' := [z_j, z_j]) t116_28 rfl).trans ?_
  exact k_ireturn t116_28 rfl (by decide)
-- X11_bench
theorem e116 (d : Nat) (x1 : Int32) (S : z_S) (hW : z_W S)  : fI (d + 1) 116 [.ref 0, .int x1] S = (if x1 < (0 : Int32) then b116_27 d S else (if (gI S 27 4) ≤ x1 then b116_27 d S else (if z_in x1 6 then some ((gI S 31 (x1).toNatClampNeg), S) else none))) := by
  refine (fI_en (Nat.le_of_ble_eq_true rfl) rfl).trans ?_
  refine (k_iload_n t116_0 rfl rfl).trans ?_
  refine (k_if_lt t116_1 rfl).trans (z_ite (fun g1 => ?_) (fun g1 => ?_))
  · exact (zk_mk (ls' := [z_j, z_j]) t116_27 rfl)
  · refine (k_iload_n t116_4 rfl rfl).trans ?_
    refine (k_aload_n t116_5 rfl rfl).trans ?_
    refine (k_getR t116_6 rfl hW zK_0 (by decide) (by decide) (zF_0_6 hW)).trans ?_
    refine (k_getI t116_9 rfl hW zK_27 (by decide) (by decide)).trans ?_
    refine (k_icmp_ge t116_12 rfl).trans (z_ite (fun g2 => ?_) (fun g2 => ?_))
    · exact (zk_mk (ls' := [z_j, z_j]) t116_27 rfl)
    · refine (k_aload_n t116_15 rfl rfl).trans ?_
      refine (k_getR t116_16 rfl hW zK_0 (by decide) (by decide) (zF_0_6 hW)).trans ?_
      refine (k_getR t116_19 rfl hW zK_27 (by decide) (by decide) (zF_27_8 hW)).trans ?_
      refine (k_iload_n t116_22 rfl rfl).trans ?_
      refine (k_iald t116_23 rfl hW zK_31 zL_31).trans (z_ite (fun g3 => ?_) (fun _ => rfl))
      refine (k_goto t116_24 rfl).trans ?_
      refine (zk_mk (ls' := [z_j, z_j]) t116_28 rfl).trans ?_
      exact k_ireturn t116_28 rfl (by decide)
theorem t117_0 : z_ft 117 0 = some (.aload_n 0, 1, none, [], 0, 0, 0, 0) := z_ftd (by decide +kernel)
theorem t117_1 : z_ft 117 1 = some (.iload_n 1, 1, none, [], 0, 0, 0, 0) := z_ftd (by decide +kernel)
theorem t117_2 : z_ft 117 2 = some (.invokevirtual 227, 3, none, [], 152, 0, 81, 0) := z_ftd (by decide +kernel)
theorem t117_5 : z_ft 117 5 = some (.ifCond .ne 5, 3, none, [], 10, 0, 0, 0) := z_ftd (by decide +kernel)
theorem t117_8 : z_ft 117 8 = some (.iconst (-1), 1, none, [], 0, 0, 0, 0) := z_ftd (by decide +kernel)
theorem t117_9 : z_ft 117 9 = some (.ireturn, 1, none, [], 0, 0, 0, 0) := z_ftd (by decide +kernel)
theorem t117_10 : z_ft 117 10 = some (.aload_n 0, 1, none, [], 0, 0, 0, 0) := z_ftd (by decide +kernel)
theorem t117_11 : z_ft 117 11 = some (.getfield 50, 3, none, [], 11, 7, 56, 0) := z_ftd (by decide +kernel)
theorem t117_14 : z_ft 117 14 = some (.aload_n 0, 1, none, [], 0, 0, 0, 0) := z_ftd (by decide +kernel)
theorem t117_15 : z_ft 117 15 = some (.getfield 46, 3, none, [], 11, 6, 55, 0) := z_ftd (by decide +kernel)
theorem t117_18 : z_ft 117 18 = some (.invokevirtual 230, 3, none, [], 75, 0, 82, 0) := z_ftd (by decide +kernel)
theorem t117_21 : z_ft 117 21 = some (.aload_n 0, 1, none, [], 0, 0, 0, 0) := z_ftd (by decide +kernel)
theorem t117_22 : z_ft 117 22 = some (.getfield 39, 3, none, [], 11, 5, 54, 0) := z_ftd (by decide +kernel)
theorem t117_25 : z_ft 117 25 = some (.aload_n 0, 1, none, [], 0, 0, 0, 0) := z_ftd (by decide +kernel)
theorem t117_26 : z_ft 117 26 = some (.getfield 50, 3, none, [], 11, 7, 56, 0) := z_ftd (by decide +kernel)
theorem t117_29 : z_ft 117 29 = some (.iload_n 1, 1, none, [], 0, 0, 0, 0) := z_ftd (by decide +kernel)
theorem t117_30 : z_ft 117 30 = some (.aload_n 0, 1, none, [], 0, 0, 0, 0) := z_ftd (by decide +kernel)
theorem t117_31 : z_ft 117 31 = some (.getfield 20, 3, none, [], 11, 2, 51, 0) := z_ftd (by decide +kernel)
theorem t117_34 : z_ft 117 34 = some (.getfield 144, 3, none, [], 6, 3, 5, 0) := z_ftd (by decide +kernel)
theorem t117_37 : z_ft 117 37 = some (.invokevirtual 146, 3, none, [], 32, 0, 71, 0) := z_ftd (by decide +kernel)
theorem t117_40 : z_ft 117 40 = some (.istore_n 3, 1, none, [], 0, 0, 0, 0) := z_ftd (by decide +kernel)
theorem t117_41 : z_ft 117 41 = some (.iload_n 2, 1, none, [], 0, 0, 0, 0) := z_ftd (by decide +kernel)
theorem t117_42 : z_ft 117 42 = some (.iconst (-1), 1, none, [], 0, 0, 0, 0) := z_ftd (by decide +kernel)
theorem t117_43 : z_ft 117 43 = some (.if_icmp .ne 5, 3, none, [], 48, 0, 0, 0) := z_ftd (by decide +kernel)
theorem t117_46 : z_ft 117 46 = some (.iload_n 3, 1, none, [], 0, 0, 0, 0) := z_ftd (by decide +kernel)
theorem t117_47 : z_ft 117 47 = some (.ireturn, 1, none, [], 0, 0, 0, 0) := z_ftd (by decide +kernel)
theorem t117_48 : z_ft 117 48 = some (.iload_n 2, 1, none, [], 0, 0, 0, 0) := z_ftd (by decide +kernel)
theorem t117_49 : z_ft 117 49 = some (.ifCond .lt 20, 3, none, [], 69, 0, 0, 0) := z_ftd (by decide +kernel)
theorem t117_52 : z_ft 117 52 = some (.iload_n 2, 1, none, [], 0, 0, 0, 0) := z_ftd (by decide +kernel)
theorem t117_53 : z_ft 117 53 = some (.iload_n 3, 1, none, [], 0, 0, 0, 0) := z_ftd (by decide +kernel)
theorem t117_54 : z_ft 117 54 = some (.if_icmp .ge 15, 3, none, [], 69, 0, 0, 0) := z_ftd (by decide +kernel)
theorem t117_57 : z_ft 117 57 = some (.aload_n 0, 1, none, [], 0, 0, 0, 0) := z_ftd (by decide +kernel)
theorem t117_58 : z_ft 117 58 = some (.getfield 39, 3, none, [], 11, 5, 54, 0) := z_ftd (by decide +kernel)
theorem t117_61 : z_ft 117 61 = some (.getfield 234, 3, none, [], 2, 2, 21, 0) := z_ftd (by decide +kernel)
theorem t117_64 : z_ft 117 64 = some (.iload_n 2, 1, none, [], 0, 0, 0, 0) := z_ftd (by decide +kernel)
theorem t117_65 : z_ft 117 65 = some (.iaload, 1, none, [], 0, 0, 0, 0) := z_ftd (by decide +kernel)
theorem t117_66 : z_ft 117 66 = some (.goto 4, 3, none, [], 70, 0, 0, 0) := z_ftd (by decide +kernel)
theorem t117_69 : z_ft 117 69 = some (.iconst (-1), 1, (some []), [], 0, 0, 0, 0) := z_ftd (by decide +kernel)
theorem t117_70 : z_ft 117 70 = some (.ireturn, 1, (some []), [], 0, 0, 0, 0) := z_ftd (by decide +kernel)
noncomputable def b117_69 (d : Nat)  (S : z_S) : Option (Int32 × z_S) := zk kI z_X0 d 117 69 [z_j, z_j, z_j, z_j] [] S
theorem b117_69_eq (d : Nat)  (S : z_S) (hW : z_W S)  : b117_69 d  S = some ((-1 : Int32), S) := by
  unfold b117_69
  refine (k_iconst t117_69 rfl zci_m1).trans ?_
  refine (zk_mk (ls' := [z_j, z_j, z_j, z_j]) t117_70 rfl).trans ?_
  exact k_ireturn t117_70 rfl (by decide)
-- X11_chain
theorem e117 (d : Nat) (x1 : Int32) (x2 : Int32) (S : z_S) (hW : z_W S)  : fI (d + 1) 117 [.ref 0, .int x1, .int x2] S = (zb (fI d 152 [.ref 0, .int x1] S) fun v1 S2 => (if ¬ v1 = (0 : Int32) then ((fV d 75 [.ref 32, .ref 27] S2).bind fun S5 => (zb (fI d 32 [.ref 22, .ref 32, .int x1, .int (gI S5 (gP S5 0 2) 3)] S5) fun v6 S7 => (if ¬ x2 = (-1 : Int32) then (if x2 < (0 : Int32) then b117_69 d S7 else (if v6 ≤ x2 then b117_69 d S7 else (if z_in x2 40 then some ((gI S7 25 (x2).toNatClampNeg), S7) else none))) else some (v6, S7)))) else some ((-1 : Int32), S2))) := by
  refine (fI_en (Nat.le_of_ble_eq_true rfl) rfl).trans ?_
  refine (k_aload_n t117_0 rfl rfl).trans ?_
  refine (k_iload_n t117_1 rfl rfl).trans ?_
  refine k_callI (as := [.ref 0, .int x1]) (rest := []) t117_2 rfl rfl (by decide) rfl rfl (Nat.le_of_ble_eq_true rfl) rfl (z_rcV hW (zK_0) (by decide)) (by decide) (Or.inr (by decide)) hW (fun v1 S2 hW2 => ?_)
  refine (k_if_ne t117_5 rfl).trans (z_ite (fun g3 => ?_) (fun g3 => ?_))
  · refine (k_aload_n t117_10 rfl rfl).trans ?_
    refine (k_getR t117_11 rfl hW2 zK_0 (by decide) (by decide) (zF_0_7 hW2)).trans ?_
    refine (k_aload_n t117_14 rfl rfl).trans ?_
    refine (k_getR t117_15 rfl hW2 zK_0 (by decide) (by decide) (zF_0_6 hW2)).trans ?_
    refine k_callV (as := [.ref 32, .ref 27]) (rest := []) t117_18 rfl rfl (by decide) rfl rfl (Nat.le_of_ble_eq_true rfl) rfl (z_rcV hW2 (zK_32) (by decide)) (by decide) (by decide) hW2 (fun S5 hW5 => ?_)
    refine (k_aload_n t117_21 rfl rfl).trans ?_
    refine (k_getR t117_22 rfl hW5 zK_0 (by decide) (by decide) (zF_0_5 hW5)).trans ?_
    refine (k_aload_n t117_25 rfl rfl).trans ?_
    refine (k_getR t117_26 rfl hW5 zK_0 (by decide) (by decide) (zF_0_7 hW5)).trans ?_
    refine (k_iload_n t117_29 rfl rfl).trans ?_
    refine (k_aload_n t117_30 rfl rfl).trans ?_
    refine (k_getR t117_31 rfl hW5 zK_0 (by decide) (by decide) (zM_0_2 hW5).1).trans ?_
    refine (k_getI t117_34 rfl hW5 (zM_0_2 hW5).2 (by decide) (by decide)).trans ?_
    refine k_callI (as := [.ref 22, .ref 32, .int x1, .int (gI S5 (gP S5 0 2) 3)]) (rest := []) t117_37 rfl rfl (by decide) rfl rfl (Nat.le_of_ble_eq_true rfl) rfl (z_rcV hW5 (zK_22) (by decide)) (by decide) (Or.inl (by decide)) hW5 (fun v6 S7 hW7 => ?_)
    refine (k_istore_n (ls' := [.ref 0, .int x1, .int x2, .int v6]) t117_40 rfl rfl).trans ?_
    refine (k_iload_n t117_41 rfl rfl).trans ?_
    refine (k_iconst t117_42 rfl zci_m1).trans ?_
    refine (k_icmp_ne t117_43 rfl).trans (z_ite (fun g8 => ?_) (fun g8 => ?_))
    · refine (k_iload_n t117_48 rfl rfl).trans ?_
      refine (k_if_lt t117_49 rfl).trans (z_ite (fun g9 => ?_) (fun g9 => ?_))
      · exact (zk_mk (ls' := [z_j, z_j, z_j, z_j]) t117_69 rfl)
      · refine (k_iload_n t117_52 rfl rfl).trans ?_
        refine (k_iload_n t117_53 rfl rfl).trans ?_
        refine (k_icmp_ge t117_54 rfl).trans (z_ite (fun g10 => ?_) (fun g10 => ?_))
        · exact (zk_mk (ls' := [z_j, z_j, z_j, z_j]) t117_69 rfl)
        · refine (k_aload_n t117_57 rfl rfl).trans ?_
          refine (k_getR t117_58 rfl hW7 zK_0 (by decide) (by decide) (zF_0_5 hW7)).trans ?_
          refine (k_getR t117_61 rfl hW7 zK_22 (by decide) (by decide) (zF_22_2 hW7)).trans ?_
          refine (k_iload_n t117_64 rfl rfl).trans ?_
          refine (k_iald t117_65 rfl hW7 zK_25 zL_25).trans (z_ite (fun g11 => ?_) (fun _ => rfl))
          refine (k_goto t117_66 rfl).trans ?_
          refine (zk_mk (ls' := [z_j, z_j, z_j, z_j]) t117_70 rfl).trans ?_
          exact k_ireturn t117_70 rfl (by decide)
    · refine (k_iload_n t117_46 rfl rfl).trans ?_
      exact k_ireturn t117_47 rfl (by decide)
  · refine (k_iconst t117_8 rfl zci_m1).trans ?_
    exact k_ireturn t117_9 rfl (by decide)
theorem t118_0 : z_ft 118 0 = some (.aload_n 0, 1, none, [], 0, 0, 0, 0) := z_ftd (by decide +kernel)
theorem t118_1 : z_ft 118 1 = some (.getfield 20, 3, none, [], 11, 2, 51, 0) := z_ftd (by decide +kernel)
theorem t118_4 : z_ft 118 4 = some (.iload_n 1, 1, none, [], 0, 0, 0, 0) := z_ftd (by decide +kernel)
theorem t118_5 : z_ft 118 5 = some (.invokevirtual 190, 3, none, [], 58, 0, 75, 0) := z_ftd (by decide +kernel)
theorem t118_8 : z_ft 118 8 = some (.ifCond .eq 11, 3, none, [], 19, 0, 0, 0) := z_ftd (by decide +kernel)
theorem t118_11 : z_ft 118 11 = some (.aload_n 0, 1, none, [], 0, 0, 0, 0) := z_ftd (by decide +kernel)
theorem t118_12 : z_ft 118 12 = some (.iload_n 2, 1, none, [], 0, 0, 0, 0) := z_ftd (by decide +kernel)
theorem t118_13 : z_ft 118 13 = some (.invokevirtual 237, 3, none, [], 121, 0, 83, 0) := z_ftd (by decide +kernel)
theorem t118_16 : z_ft 118 16 = some (.ifCond .ne 5, 3, none, [], 21, 0, 0, 0) := z_ftd (by decide +kernel)
theorem t118_19 : z_ft 118 19 = some (.iconst (-1), 1, (some []), [], 0, 0, 0, 0) := z_ftd (by decide +kernel)
theorem t118_20 : z_ft 118 20 = some (.ireturn, 1, none, [], 0, 0, 0, 0) := z_ftd (by decide +kernel)
theorem t118_21 : z_ft 118 21 = some (.aload_n 0, 1, none, [], 0, 0, 0, 0) := z_ftd (by decide +kernel)
theorem t118_22 : z_ft 118 22 = some (.getfield 50, 3, none, [], 11, 7, 56, 0) := z_ftd (by decide +kernel)
theorem t118_25 : z_ft 118 25 = some (.aload_n 0, 1, none, [], 0, 0, 0, 0) := z_ftd (by decide +kernel)
theorem t118_26 : z_ft 118 26 = some (.getfield 46, 3, none, [], 11, 6, 55, 0) := z_ftd (by decide +kernel)
theorem t118_29 : z_ft 118 29 = some (.invokevirtual 230, 3, none, [], 75, 0, 82, 0) := z_ftd (by decide +kernel)
theorem t118_32 : z_ft 118 32 = some (.iconst 0, 1, none, [], 0, 0, 0, 0) := z_ftd (by decide +kernel)
theorem t118_33 : z_ft 118 33 = some (.istore_n 3, 1, none, [], 0, 0, 0, 0) := z_ftd (by decide +kernel)
theorem t118_34 : z_ft 118 34 = some (.iload_n 3, 1, (some [0, 1, 2, 3]), [], 0, 0, 0, 0) := z_ftd (by decide +kernel)
theorem t118_35 : z_ft 118 35 = some (.iload_n 2, 1, none, [], 0, 0, 0, 0) := z_ftd (by decide +kernel)
theorem t118_36 : z_ft 118 36 = some (.if_icmp .ge 22, 3, none, [], 58, 0, 0, 0) := z_ftd (by decide +kernel)
theorem t118_39 : z_ft 118 39 = some (.aload_n 0, 1, none, [], 0, 0, 0, 0) := z_ftd (by decide +kernel)
theorem t118_40 : z_ft 118 40 = some (.getfield 39, 3, none, [], 11, 5, 54, 0) := z_ftd (by decide +kernel)
theorem t118_43 : z_ft 118 43 = some (.aload_n 0, 1, none, [], 0, 0, 0, 0) := z_ftd (by decide +kernel)
theorem t118_44 : z_ft 118 44 = some (.getfield 50, 3, none, [], 11, 7, 56, 0) := z_ftd (by decide +kernel)
theorem t118_47 : z_ft 118 47 = some (.iconst 0, 1, none, [], 0, 0, 0, 0) := z_ftd (by decide +kernel)
theorem t118_48 : z_ft 118 48 = some (.invokevirtual 240, 3, none, [], 35, 0, 84, 0) := z_ftd (by decide +kernel)
theorem t118_51 : z_ft 118 51 = some (.pop, 1, none, [], 0, 0, 0, 0) := z_ftd (by decide +kernel)
theorem t118_52 : z_ft 118 52 = some (.iinc 3 1, 3, none, [], 0, 0, 0, 0) := z_ftd (by decide +kernel)
theorem t118_55 : z_ft 118 55 = some (.goto (-21), 3, none, [], 34, 0, 0, 0) := z_ftd (by decide +kernel)
theorem t118_58 : z_ft 118 58 = some (.aload_n 0, 1, none, [], 0, 0, 0, 0) := z_ftd (by decide +kernel)
theorem t118_59 : z_ft 118 59 = some (.getfield 50, 3, none, [], 11, 7, 56, 0) := z_ftd (by decide +kernel)
theorem t118_62 : z_ft 118 62 = some (.getfield 193, 3, none, [], 8, 5, 30, 0) := z_ftd (by decide +kernel)
theorem t118_65 : z_ft 118 65 = some (.iload_n 1, 1, none, [], 0, 0, 0, 0) := z_ftd (by decide +kernel)
theorem t118_66 : z_ft 118 66 = some (.iaload, 1, none, [], 0, 0, 0, 0) := z_ftd (by decide +kernel)
theorem t118_67 : z_ft 118 67 = some (.ireturn, 1, none, [], 0, 0, 0, 0) := z_ftd (by decide +kernel)
noncomputable def b118_34 (d : Nat) (y1 : Int32) (y2 : Int32) (y3 : Int32) (S : z_S) : Option (Int32 × z_S) := zk kI z_X0 d 118 34 [.ref 0, .int y1, .int y2, .int y3] [] S
theorem b118_34_eq (d : Nat) (y1 : Int32) (y2 : Int32) (y3 : Int32) (S : z_S) (hW : z_W S)  : b118_34 d y1 y2 y3 S = (if y2 ≤ y3 then (if z_in y1 16 then some ((gI S 33 (y1).toNatClampNeg), S) else none) else (zb (fI d 35 [.ref 22, .ref 32, .int (0 : Int32)] S) fun v11 S12 => b118_34 d y1 y2 (y3 + (1 : Int32)) S12)) := by
  unfold b118_34
  refine (k_iload_n t118_34 rfl rfl).trans ?_
  refine (k_iload_n t118_35 rfl rfl).trans ?_
  refine (k_icmp_ge t118_36 rfl).trans (z_ite (fun g9 => ?_) (fun g9 => ?_))
  · refine (k_aload_n t118_58 rfl rfl).trans ?_
    refine (k_getR t118_59 rfl hW zK_0 (by decide) (by decide) (zF_0_7 hW)).trans ?_
    refine (k_getR t118_62 rfl hW zK_32 (by decide) (by decide) (zF_32_5 hW)).trans ?_
    refine (k_iload_n t118_65 rfl rfl).trans ?_
    refine (k_iald t118_66 rfl hW zK_33 zL_33).trans (z_ite (fun g10 => ?_) (fun _ => rfl))
    exact k_ireturn t118_67 rfl (by decide)
  · refine (k_aload_n t118_39 rfl rfl).trans ?_
    refine (k_getR t118_40 rfl hW zK_0 (by decide) (by decide) (zF_0_5 hW)).trans ?_
    refine (k_aload_n t118_43 rfl rfl).trans ?_
    refine (k_getR t118_44 rfl hW zK_0 (by decide) (by decide) (zF_0_7 hW)).trans ?_
    refine (k_iconst t118_47 rfl zci_0).trans ?_
    refine k_callI (as := [.ref 22, .ref 32, .int (0 : Int32)]) (rest := []) t118_48 rfl rfl (by decide) rfl rfl (Nat.le_of_ble_eq_true rfl) rfl (z_rcV hW (zK_22) (by decide)) (by decide) (Or.inl (by decide)) hW (fun v11 S12 hW12 => ?_)
    refine (k_popI t118_51 rfl).trans ?_
    refine (k_iinc (b := (y3 + (1 : Int32))) (ls' := [.ref 0, .int y1, .int y2, .int (y3 + (1 : Int32))]) t118_52 rfl rfl (by rw [zci_1]) rfl).trans ?_
    refine (k_goto t118_55 rfl).trans ?_
    exact (zk_mk (ls' := [.ref 0, .int y1, .int y2, .int (y3 + (1 : Int32))]) t118_34 rfl)
-- X11_later
theorem e118 (d : Nat) (x1 : Int32) (x2 : Int32) (S : z_S) (hW : z_W S)  : fI (d + 1) 118 [.ref 0, .int x1, .int x2] S = (zb (fI d 58 [.ref (gP S 0 2), .int x1] S) fun v1 S2 => (if v1 = (0 : Int32) then some ((-1 : Int32), S2) else (zb (fI d 121 [.ref 0, .int x2] S2) fun v4 S5 => (if ¬ v4 = (0 : Int32) then ((fV d 75 [.ref 32, .ref 27] S5).bind fun S8 => b118_34 d x1 x2 (0 : Int32) S8) else some ((-1 : Int32), S5))))) := by
  refine (fI_en (Nat.le_of_ble_eq_true rfl) rfl).trans ?_
  refine (k_aload_n t118_0 rfl rfl).trans ?_
  refine (k_getR t118_1 rfl hW zK_0 (by decide) (by decide) (zM_0_2 hW).1).trans ?_
  refine (k_iload_n t118_4 rfl rfl).trans ?_
  refine k_callI (as := [.ref (gP S 0 2), .int x1]) (rest := []) t118_5 rfl rfl (by decide) rfl rfl (Nat.le_of_ble_eq_true rfl) rfl (z_rcV hW ((zM_0_2 hW).2) (by decide)) (by decide) (Or.inr (by decide)) hW (fun v1 S2 hW2 => ?_)
  refine (k_if_eq t118_8 rfl).trans (z_ite (fun g3 => ?_) (fun g3 => ?_))
  · refine (zk_mk (ls' := [z_j, z_j, z_j, z_j]) t118_19 rfl).trans ?_
    refine (k_iconst t118_19 rfl zci_m1).trans ?_
    exact k_ireturn t118_20 rfl (by decide)
  · refine (k_aload_n t118_11 rfl rfl).trans ?_
    refine (k_iload_n t118_12 rfl rfl).trans ?_
    refine k_callI (as := [.ref 0, .int x2]) (rest := []) t118_13 rfl rfl (by decide) rfl rfl (Nat.le_of_ble_eq_true rfl) rfl (z_rcV hW2 (zK_0) (by decide)) (by decide) (Or.inr (by decide)) hW2 (fun v4 S5 hW5 => ?_)
    refine (k_if_ne t118_16 rfl).trans (z_ite (fun g6 => ?_) (fun g6 => ?_))
    · refine (k_aload_n t118_21 rfl rfl).trans ?_
      refine (k_getR t118_22 rfl hW5 zK_0 (by decide) (by decide) (zF_0_7 hW5)).trans ?_
      refine (k_aload_n t118_25 rfl rfl).trans ?_
      refine (k_getR t118_26 rfl hW5 zK_0 (by decide) (by decide) (zF_0_6 hW5)).trans ?_
      refine k_callV (as := [.ref 32, .ref 27]) (rest := []) t118_29 rfl rfl (by decide) rfl rfl (Nat.le_of_ble_eq_true rfl) rfl (z_rcV hW5 (zK_32) (by decide)) (by decide) (by decide) hW5 (fun S8 hW8 => ?_)
      refine (k_iconst t118_32 rfl zci_0).trans ?_
      refine (k_istore_n (ls' := [.ref 0, .int x1, .int x2, .int (0 : Int32)]) t118_33 rfl rfl).trans ?_
      exact (zk_mk (ls' := [.ref 0, .int x1, .int x2, .int (0 : Int32)]) t118_34 rfl)
    · refine (zk_mk (ls' := [z_j, z_j, z_j, z_j]) t118_19 rfl).trans ?_
      refine (k_iconst t118_19 rfl zci_m1).trans ?_
      exact k_ireturn t118_20 rfl (by decide)
theorem t119_0 : z_ft 119 0 = some (.aload_n 0, 1, none, [], 0, 0, 0, 0) := z_ftd (by decide +kernel)
theorem t119_1 : z_ft 119 1 = some (.getfield 20, 3, none, [], 11, 2, 51, 0) := z_ftd (by decide +kernel)
theorem t119_4 : z_ft 119 4 = some (.iload_n 1, 1, none, [], 0, 0, 0, 0) := z_ftd (by decide +kernel)
theorem t119_5 : z_ft 119 5 = some (.invokevirtual 177, 3, none, [], 59, 0, 73, 0) := z_ftd (by decide +kernel)
theorem t119_8 : z_ft 119 8 = some (.ifCond .eq 18, 3, none, [], 26, 0, 0, 0) := z_ftd (by decide +kernel)
theorem t119_11 : z_ft 119 11 = some (.aload_n 0, 1, none, [], 0, 0, 0, 0) := z_ftd (by decide +kernel)
theorem t119_12 : z_ft 119 12 = some (.getfield 46, 3, none, [], 11, 6, 55, 0) := z_ftd (by decide +kernel)
theorem t119_15 : z_ft 119 15 = some (.getfield 215, 3, none, [], 8, 6, 31, 0) := z_ftd (by decide +kernel)
theorem t119_18 : z_ft 119 18 = some (.iload_n 1, 1, none, [], 0, 0, 0, 0) := z_ftd (by decide +kernel)
theorem t119_19 : z_ft 119 19 = some (.iaload, 1, none, [], 0, 0, 0, 0) := z_ftd (by decide +kernel)
theorem t119_20 : z_ft 119 20 = some (.sipush 255, 3, none, [], 0, 0, 0, 0) := z_ftd (by decide +kernel)
theorem t119_23 : z_ft 119 23 = some (.if_icmp .ne 5, 3, none, [], 28, 0, 0, 0) := z_ftd (by decide +kernel)
theorem t119_26 : z_ft 119 26 = some (.iconst (-1), 1, (some []), [], 0, 0, 0, 0) := z_ftd (by decide +kernel)
theorem t119_27 : z_ft 119 27 = some (.ireturn, 1, none, [], 0, 0, 0, 0) := z_ftd (by decide +kernel)
theorem t119_28 : z_ft 119 28 = some (.aload_n 0, 1, none, [], 0, 0, 0, 0) := z_ftd (by decide +kernel)
theorem t119_29 : z_ft 119 29 = some (.getfield 50, 3, none, [], 11, 7, 56, 0) := z_ftd (by decide +kernel)
theorem t119_32 : z_ft 119 32 = some (.aload_n 0, 1, none, [], 0, 0, 0, 0) := z_ftd (by decide +kernel)
theorem t119_33 : z_ft 119 33 = some (.getfield 46, 3, none, [], 11, 6, 55, 0) := z_ftd (by decide +kernel)
theorem t119_36 : z_ft 119 36 = some (.invokevirtual 230, 3, none, [], 75, 0, 82, 0) := z_ftd (by decide +kernel)
theorem t119_39 : z_ft 119 39 = some (.iconst 0, 1, none, [], 0, 0, 0, 0) := z_ftd (by decide +kernel)
theorem t119_40 : z_ft 119 40 = some (.istore_n 2, 1, none, [], 0, 0, 0, 0) := z_ftd (by decide +kernel)
theorem t119_41 : z_ft 119 41 = some (.iload_n 2, 1, (some [0, 1, 2]), [], 0, 0, 0, 0) := z_ftd (by decide +kernel)
theorem t119_42 : z_ft 119 42 = some (.bipush 40, 2, none, [], 0, 0, 0, 0) := z_ftd (by decide +kernel)
theorem t119_44 : z_ft 119 44 = some (.if_icmp .gt 54, 3, none, [], 98, 0, 0, 0) := z_ftd (by decide +kernel)
theorem t119_47 : z_ft 119 47 = some (.aload_n 0, 1, none, [], 0, 0, 0, 0) := z_ftd (by decide +kernel)
theorem t119_48 : z_ft 119 48 = some (.getfield 46, 3, none, [], 11, 6, 55, 0) := z_ftd (by decide +kernel)
theorem t119_51 : z_ft 119 51 = some (.getfield 168, 3, none, [], 8, 0, 25, 0) := z_ftd (by decide +kernel)
theorem t119_54 : z_ft 119 54 = some (.iload_n 2, 1, none, [], 0, 0, 0, 0) := z_ftd (by decide +kernel)
theorem t119_55 : z_ft 119 55 = some (.iadd, 1, none, [], 0, 0, 0, 0) := z_ftd (by decide +kernel)
theorem t119_56 : z_ft 119 56 = some (.sipush 999, 3, none, [], 0, 0, 0, 0) := z_ftd (by decide +kernel)
theorem t119_59 : z_ft 119 59 = some (.if_icmp .gt 39, 3, none, [], 98, 0, 0, 0) := z_ftd (by decide +kernel)
theorem t119_62 : z_ft 119 62 = some (.iload_n 2, 1, none, [], 0, 0, 0, 0) := z_ftd (by decide +kernel)
theorem t119_63 : z_ft 119 63 = some (.ifCond .le 16, 3, none, [], 79, 0, 0, 0) := z_ftd (by decide +kernel)
theorem t119_66 : z_ft 119 66 = some (.aload_n 0, 1, none, [], 0, 0, 0, 0) := z_ftd (by decide +kernel)
theorem t119_67 : z_ft 119 67 = some (.getfield 39, 3, none, [], 11, 5, 54, 0) := z_ftd (by decide +kernel)
theorem t119_70 : z_ft 119 70 = some (.aload_n 0, 1, none, [], 0, 0, 0, 0) := z_ftd (by decide +kernel)
theorem t119_71 : z_ft 119 71 = some (.getfield 50, 3, none, [], 11, 7, 56, 0) := z_ftd (by decide +kernel)
theorem t119_74 : z_ft 119 74 = some (.iconst 0, 1, none, [], 0, 0, 0, 0) := z_ftd (by decide +kernel)
theorem t119_75 : z_ft 119 75 = some (.invokevirtual 240, 3, none, [], 35, 0, 84, 0) := z_ftd (by decide +kernel)
theorem t119_78 : z_ft 119 78 = some (.pop, 1, none, [], 0, 0, 0, 0) := z_ftd (by decide +kernel)
theorem t119_79 : z_ft 119 79 = some (.aload_n 0, 1, (some [0, 1, 2]), [], 0, 0, 0, 0) := z_ftd (by decide +kernel)
theorem t119_80 : z_ft 119 80 = some (.getfield 50, 3, none, [], 11, 7, 56, 0) := z_ftd (by decide +kernel)
theorem t119_83 : z_ft 119 83 = some (.iload_n 1, 1, none, [], 0, 0, 0, 0) := z_ftd (by decide +kernel)
theorem t119_84 : z_ft 119 84 = some (.invokevirtual 212, 3, none, [], 77, 0, 79, 0) := z_ftd (by decide +kernel)
theorem t119_87 : z_ft 119 87 = some (.ifCond .eq 5, 3, none, [], 92, 0, 0, 0) := z_ftd (by decide +kernel)
theorem t119_90 : z_ft 119 90 = some (.iload_n 2, 1, none, [], 0, 0, 0, 0) := z_ftd (by decide +kernel)
theorem t119_91 : z_ft 119 91 = some (.ireturn, 1, none, [], 0, 0, 0, 0) := z_ftd (by decide +kernel)
theorem t119_92 : z_ft 119 92 = some (.iinc 2 1, 3, none, [], 0, 0, 0, 0) := z_ftd (by decide +kernel)
theorem t119_95 : z_ft 119 95 = some (.goto (-54), 3, none, [], 41, 0, 0, 0) := z_ftd (by decide +kernel)
theorem t119_98 : z_ft 119 98 = some (.iconst (-1), 1, (some []), [], 0, 0, 0, 0) := z_ftd (by decide +kernel)
theorem t119_99 : z_ft 119 99 = some (.ireturn, 1, none, [], 0, 0, 0, 0) := z_ftd (by decide +kernel)
noncomputable def b119_41 (d : Nat) (y1 : Int32) (y2 : Int32) (S : z_S) : Option (Int32 × z_S) := zk kI z_X0 d 119 41 [.ref 0, .int y1, .int y2] [] S
noncomputable def b119_79 (d : Nat) (y1 : Int32) (y2 : Int32) (S : z_S) : Option (Int32 × z_S) := zk kI z_X0 d 119 79 [.ref 0, .int y1, .int y2] [] S
theorem b119_41_eq (d : Nat) (y1 : Int32) (y2 : Int32) (S : z_S) (hW : z_W S)  : b119_41 d y1 y2 S = (if (40 : Int32) < y2 then some ((-1 : Int32), S) else (if (999 : Int32) < ((gI S 27 0) + y2) then some ((-1 : Int32), S) else (if y2 ≤ (0 : Int32) then b119_79 d y1 y2 S else (zb (fI d 35 [.ref 22, .ref 32, .int (0 : Int32)] S) fun v11 S12 => b119_79 d y1 y2 S12)))) := by
  unfold b119_41
  refine (k_iload_n t119_41 rfl rfl).trans ?_
  refine (k_bipush t119_42 rfl zcb_40).trans ?_
  refine (k_icmp_gt t119_44 rfl).trans (z_ite (fun g8 => ?_) (fun g8 => ?_))
  · refine (zk_mk (ls' := [z_j, z_j, z_j]) t119_98 rfl).trans ?_
    refine (k_iconst t119_98 rfl zci_m1).trans ?_
    exact k_ireturn t119_99 rfl (by decide)
  · refine (k_aload_n t119_47 rfl rfl).trans ?_
    refine (k_getR t119_48 rfl hW zK_0 (by decide) (by decide) (zF_0_6 hW)).trans ?_
    refine (k_getI t119_51 rfl hW zK_27 (by decide) (by decide)).trans ?_
    refine (k_iload_n t119_54 rfl rfl).trans ?_
    refine (k_iadd t119_55 rfl).trans ?_
    refine (k_sipush t119_56 rfl zcs_999).trans ?_
    refine (k_icmp_gt t119_59 rfl).trans (z_ite (fun g9 => ?_) (fun g9 => ?_))
    · refine (zk_mk (ls' := [z_j, z_j, z_j]) t119_98 rfl).trans ?_
      refine (k_iconst t119_98 rfl zci_m1).trans ?_
      exact k_ireturn t119_99 rfl (by decide)
    · refine (k_iload_n t119_62 rfl rfl).trans ?_
      refine (k_if_le t119_63 rfl).trans (z_ite (fun g10 => ?_) (fun g10 => ?_))
      · exact (zk_mk (ls' := [.ref 0, .int y1, .int y2]) t119_79 rfl)
      · refine (k_aload_n t119_66 rfl rfl).trans ?_
        refine (k_getR t119_67 rfl hW zK_0 (by decide) (by decide) (zF_0_5 hW)).trans ?_
        refine (k_aload_n t119_70 rfl rfl).trans ?_
        refine (k_getR t119_71 rfl hW zK_0 (by decide) (by decide) (zF_0_7 hW)).trans ?_
        refine (k_iconst t119_74 rfl zci_0).trans ?_
        refine k_callI (as := [.ref 22, .ref 32, .int (0 : Int32)]) (rest := []) t119_75 rfl rfl (by decide) rfl rfl (Nat.le_of_ble_eq_true rfl) rfl (z_rcV hW (zK_22) (by decide)) (by decide) (Or.inl (by decide)) hW (fun v11 S12 hW12 => ?_)
        refine (k_popI t119_78 rfl).trans ?_
        exact (zk_mk (ls' := [.ref 0, .int y1, .int y2]) t119_79 rfl)
theorem b119_79_eq (d : Nat) (y1 : Int32) (y2 : Int32) (S : z_S) (hW : z_W S)  : b119_79 d y1 y2 S = (zb (fI d 77 [.ref 32, .int y1] S) fun v13 S14 => (if v13 = (0 : Int32) then b119_41 d y1 (y2 + (1 : Int32)) S14 else some (y2, S14))) := by
  unfold b119_79
  refine (k_aload_n t119_79 rfl rfl).trans ?_
  refine (k_getR t119_80 rfl hW zK_0 (by decide) (by decide) (zF_0_7 hW)).trans ?_
  refine (k_iload_n t119_83 rfl rfl).trans ?_
  refine k_callI (as := [.ref 32, .int y1]) (rest := []) t119_84 rfl rfl (by decide) rfl rfl (Nat.le_of_ble_eq_true rfl) rfl (z_rcV hW (zK_32) (by decide)) (by decide) (Or.inr (by decide)) hW (fun v13 S14 hW14 => ?_)
  refine (k_if_eq t119_87 rfl).trans (z_ite (fun g15 => ?_) (fun g15 => ?_))
  · refine (k_iinc (b := (y2 + (1 : Int32))) (ls' := [.ref 0, .int y1, .int (y2 + (1 : Int32))]) t119_92 rfl rfl (by rw [zci_1]) rfl).trans ?_
    refine (k_goto t119_95 rfl).trans ?_
    exact (zk_mk (ls' := [.ref 0, .int y1, .int (y2 + (1 : Int32))]) t119_41 rfl)
  · refine (k_iload_n t119_90 rfl rfl).trans ?_
    exact k_ireturn t119_91 rfl (by decide)
-- X11_sleeps
theorem e119 (d : Nat) (x1 : Int32) (S : z_S) (hW : z_W S)  : fI (d + 1) 119 [.ref 0, .int x1] S = (zb (fI d 59 [.ref (gP S 0 2), .int x1] S) fun v1 S2 => (if v1 = (0 : Int32) then some ((-1 : Int32), S2) else (if z_in x1 16 then (if ¬ (gI S2 29 (x1).toNatClampNeg) = (255 : Int32) then ((fV d 75 [.ref 32, .ref 27] S2).bind fun S7 => b119_41 d x1 (0 : Int32) S7) else some ((-1 : Int32), S2)) else none))) := by
  refine (fI_en (Nat.le_of_ble_eq_true rfl) rfl).trans ?_
  refine (k_aload_n t119_0 rfl rfl).trans ?_
  refine (k_getR t119_1 rfl hW zK_0 (by decide) (by decide) (zM_0_2 hW).1).trans ?_
  refine (k_iload_n t119_4 rfl rfl).trans ?_
  refine k_callI (as := [.ref (gP S 0 2), .int x1]) (rest := []) t119_5 rfl rfl (by decide) rfl rfl (Nat.le_of_ble_eq_true rfl) rfl (z_rcV hW ((zM_0_2 hW).2) (by decide)) (by decide) (Or.inr (by decide)) hW (fun v1 S2 hW2 => ?_)
  refine (k_if_eq t119_8 rfl).trans (z_ite (fun g3 => ?_) (fun g3 => ?_))
  · refine (zk_mk (ls' := [z_j, z_j, z_j]) t119_26 rfl).trans ?_
    refine (k_iconst t119_26 rfl zci_m1).trans ?_
    exact k_ireturn t119_27 rfl (by decide)
  · refine (k_aload_n t119_11 rfl rfl).trans ?_
    refine (k_getR t119_12 rfl hW2 zK_0 (by decide) (by decide) (zF_0_6 hW2)).trans ?_
    refine (k_getR t119_15 rfl hW2 zK_27 (by decide) (by decide) (zF_27_6 hW2)).trans ?_
    refine (k_iload_n t119_18 rfl rfl).trans ?_
    refine (k_iald t119_19 rfl hW2 zK_29 zL_29).trans (z_ite (fun g4 => ?_) (fun _ => rfl))
    refine (k_sipush t119_20 rfl zcs_255).trans ?_
    refine (k_icmp_ne t119_23 rfl).trans (z_ite (fun g5 => ?_) (fun g5 => ?_))
    · refine (k_aload_n t119_28 rfl rfl).trans ?_
      refine (k_getR t119_29 rfl hW2 zK_0 (by decide) (by decide) (zF_0_7 hW2)).trans ?_
      refine (k_aload_n t119_32 rfl rfl).trans ?_
      refine (k_getR t119_33 rfl hW2 zK_0 (by decide) (by decide) (zF_0_6 hW2)).trans ?_
      refine k_callV (as := [.ref 32, .ref 27]) (rest := []) t119_36 rfl rfl (by decide) rfl rfl (Nat.le_of_ble_eq_true rfl) rfl (z_rcV hW2 (zK_32) (by decide)) (by decide) (by decide) hW2 (fun S7 hW7 => ?_)
      refine (k_iconst t119_39 rfl zci_0).trans ?_
      refine (k_istore_n (ls' := [.ref 0, .int x1, .int (0 : Int32)]) t119_40 rfl rfl).trans ?_
      exact (zk_mk (ls' := [.ref 0, .int x1, .int (0 : Int32)]) t119_41 rfl)
    · refine (zk_mk (ls' := [z_j, z_j, z_j]) t119_26 rfl).trans ?_
      refine (k_iconst t119_26 rfl zci_m1).trans ?_
      exact k_ireturn t119_27 rfl (by decide)
theorem t120_0 : z_ft 120 0 = some (.aload_n 0, 1, none, [], 0, 0, 0, 0) := z_ftd (by decide +kernel)
theorem t120_1 : z_ft 120 1 = some (.invokevirtual 244, 3, none, [], 151, 0, 85, 0) := z_ftd (by decide +kernel)
theorem t120_4 : z_ft 120 4 = some (.ifCond .eq 11, 3, none, [], 15, 0, 0, 0) := z_ftd (by decide +kernel)
theorem t120_7 : z_ft 120 7 = some (.aload_n 0, 1, none, [], 0, 0, 0, 0) := z_ftd (by decide +kernel)
theorem t120_8 : z_ft 120 8 = some (.iload_n 1, 1, none, [], 0, 0, 0, 0) := z_ftd (by decide +kernel)
theorem t120_9 : z_ft 120 9 = some (.invokevirtual 237, 3, none, [], 121, 0, 83, 0) := z_ftd (by decide +kernel)
theorem t120_12 : z_ft 120 12 = some (.ifCond .ne 5, 3, none, [], 17, 0, 0, 0) := z_ftd (by decide +kernel)
theorem t120_15 : z_ft 120 15 = some (.iconst (-1), 1, (some []), [], 0, 0, 0, 0) := z_ftd (by decide +kernel)
theorem t120_16 : z_ft 120 16 = some (.ireturn, 1, none, [], 0, 0, 0, 0) := z_ftd (by decide +kernel)
theorem t120_17 : z_ft 120 17 = some (.aload_n 0, 1, none, [], 0, 0, 0, 0) := z_ftd (by decide +kernel)
theorem t120_18 : z_ft 120 18 = some (.getfield 50, 3, none, [], 11, 7, 56, 0) := z_ftd (by decide +kernel)
theorem t120_21 : z_ft 120 21 = some (.aload_n 0, 1, none, [], 0, 0, 0, 0) := z_ftd (by decide +kernel)
theorem t120_22 : z_ft 120 22 = some (.getfield 46, 3, none, [], 11, 6, 55, 0) := z_ftd (by decide +kernel)
theorem t120_25 : z_ft 120 25 = some (.invokevirtual 230, 3, none, [], 75, 0, 82, 0) := z_ftd (by decide +kernel)
theorem t120_28 : z_ft 120 28 = some (.iconst 0, 1, none, [], 0, 0, 0, 0) := z_ftd (by decide +kernel)
theorem t120_29 : z_ft 120 29 = some (.istore_n 2, 1, none, [], 0, 0, 0, 0) := z_ftd (by decide +kernel)
theorem t120_30 : z_ft 120 30 = some (.iload_n 2, 1, (some [0, 1, 2]), [], 0, 0, 0, 0) := z_ftd (by decide +kernel)
theorem t120_31 : z_ft 120 31 = some (.iload_n 1, 1, none, [], 0, 0, 0, 0) := z_ftd (by decide +kernel)
theorem t120_32 : z_ft 120 32 = some (.if_icmp .ge 22, 3, none, [], 54, 0, 0, 0) := z_ftd (by decide +kernel)
theorem t120_35 : z_ft 120 35 = some (.aload_n 0, 1, none, [], 0, 0, 0, 0) := z_ftd (by decide +kernel)
theorem t120_36 : z_ft 120 36 = some (.getfield 39, 3, none, [], 11, 5, 54, 0) := z_ftd (by decide +kernel)
theorem t120_39 : z_ft 120 39 = some (.aload_n 0, 1, none, [], 0, 0, 0, 0) := z_ftd (by decide +kernel)
theorem t120_40 : z_ft 120 40 = some (.getfield 50, 3, none, [], 11, 7, 56, 0) := z_ftd (by decide +kernel)
theorem t120_43 : z_ft 120 43 = some (.iconst 1, 1, none, [], 0, 0, 0, 0) := z_ftd (by decide +kernel)
theorem t120_44 : z_ft 120 44 = some (.invokevirtual 240, 3, none, [], 35, 0, 84, 0) := z_ftd (by decide +kernel)
theorem t120_47 : z_ft 120 47 = some (.pop, 1, none, [], 0, 0, 0, 0) := z_ftd (by decide +kernel)
theorem t120_48 : z_ft 120 48 = some (.iinc 2 1, 3, none, [], 0, 0, 0, 0) := z_ftd (by decide +kernel)
theorem t120_51 : z_ft 120 51 = some (.goto (-21), 3, none, [], 30, 0, 0, 0) := z_ftd (by decide +kernel)
theorem t120_54 : z_ft 120 54 = some (.aload_n 0, 1, none, [], 0, 0, 0, 0) := z_ftd (by decide +kernel)
theorem t120_55 : z_ft 120 55 = some (.getfield 50, 3, none, [], 11, 7, 56, 0) := z_ftd (by decide +kernel)
theorem t120_58 : z_ft 120 58 = some (.getfield 171, 3, none, [], 8, 1, 26, 0) := z_ftd (by decide +kernel)
theorem t120_61 : z_ft 120 61 = some (.ireturn, 1, none, [], 0, 0, 0, 0) := z_ftd (by decide +kernel)
noncomputable def b120_30 (d : Nat) (y1 : Int32) (y2 : Int32) (S : z_S) : Option (Int32 × z_S) := zk kI z_X0 d 120 30 [.ref 0, .int y1, .int y2] [] S
theorem b120_30_eq (d : Nat) (y1 : Int32) (y2 : Int32) (S : z_S) (hW : z_W S)  : b120_30 d y1 y2 S = (if y1 ≤ y2 then some ((gI S 32 1), S) else (zb (fI d 35 [.ref 22, .ref 32, .int (1 : Int32)] S) fun v10 S11 => b120_30 d y1 (y2 + (1 : Int32)) S11)) := by
  unfold b120_30
  refine (k_iload_n t120_30 rfl rfl).trans ?_
  refine (k_iload_n t120_31 rfl rfl).trans ?_
  refine (k_icmp_ge t120_32 rfl).trans (z_ite (fun g9 => ?_) (fun g9 => ?_))
  · refine (k_aload_n t120_54 rfl rfl).trans ?_
    refine (k_getR t120_55 rfl hW zK_0 (by decide) (by decide) (zF_0_7 hW)).trans ?_
    refine (k_getI t120_58 rfl hW zK_32 (by decide) (by decide)).trans ?_
    exact k_ireturn t120_61 rfl (by decide)
  · refine (k_aload_n t120_35 rfl rfl).trans ?_
    refine (k_getR t120_36 rfl hW zK_0 (by decide) (by decide) (zF_0_5 hW)).trans ?_
    refine (k_aload_n t120_39 rfl rfl).trans ?_
    refine (k_getR t120_40 rfl hW zK_0 (by decide) (by decide) (zF_0_7 hW)).trans ?_
    refine (k_iconst t120_43 rfl zci_1).trans ?_
    refine k_callI (as := [.ref 22, .ref 32, .int (1 : Int32)]) (rest := []) t120_44 rfl rfl (by decide) rfl rfl (Nat.le_of_ble_eq_true rfl) rfl (z_rcV hW (zK_22) (by decide)) (by decide) (Or.inl (by decide)) hW (fun v10 S11 hW11 => ?_)
    refine (k_popI t120_47 rfl).trans ?_
    refine (k_iinc (b := (y2 + (1 : Int32))) (ls' := [.ref 0, .int y1, .int (y2 + (1 : Int32))]) t120_48 rfl rfl (by rw [zci_1]) rfl).trans ?_
    refine (k_goto t120_51 rfl).trans ?_
    exact (zk_mk (ls' := [.ref 0, .int y1, .int (y2 + (1 : Int32))]) t120_30 rfl)
-- X11_purse
theorem e120 (d : Nat) (x1 : Int32) (S : z_S) (hW : z_W S)  : fI (d + 1) 120 [.ref 0, .int x1] S = (zb (fI d 151 [.ref 0] S) fun v1 S2 => (if v1 = (0 : Int32) then some ((-1 : Int32), S2) else (zb (fI d 121 [.ref 0, .int x1] S2) fun v4 S5 => (if ¬ v4 = (0 : Int32) then ((fV d 75 [.ref 32, .ref 27] S5).bind fun S8 => b120_30 d x1 (0 : Int32) S8) else some ((-1 : Int32), S5))))) := by
  refine (fI_en (Nat.le_of_ble_eq_true rfl) rfl).trans ?_
  refine (k_aload_n t120_0 rfl rfl).trans ?_
  refine k_callI (as := [.ref 0]) (rest := []) t120_1 rfl rfl (by decide) rfl rfl (Nat.le_of_ble_eq_true rfl) rfl (z_rcV hW (zK_0) (by decide)) (by decide) (Or.inr (by decide)) hW (fun v1 S2 hW2 => ?_)
  refine (k_if_eq t120_4 rfl).trans (z_ite (fun g3 => ?_) (fun g3 => ?_))
  · refine (zk_mk (ls' := [z_j, z_j, z_j]) t120_15 rfl).trans ?_
    refine (k_iconst t120_15 rfl zci_m1).trans ?_
    exact k_ireturn t120_16 rfl (by decide)
  · refine (k_aload_n t120_7 rfl rfl).trans ?_
    refine (k_iload_n t120_8 rfl rfl).trans ?_
    refine k_callI (as := [.ref 0, .int x1]) (rest := []) t120_9 rfl rfl (by decide) rfl rfl (Nat.le_of_ble_eq_true rfl) rfl (z_rcV hW2 (zK_0) (by decide)) (by decide) (Or.inr (by decide)) hW2 (fun v4 S5 hW5 => ?_)
    refine (k_if_ne t120_12 rfl).trans (z_ite (fun g6 => ?_) (fun g6 => ?_))
    · refine (k_aload_n t120_17 rfl rfl).trans ?_
      refine (k_getR t120_18 rfl hW5 zK_0 (by decide) (by decide) (zF_0_7 hW5)).trans ?_
      refine (k_aload_n t120_21 rfl rfl).trans ?_
      refine (k_getR t120_22 rfl hW5 zK_0 (by decide) (by decide) (zF_0_6 hW5)).trans ?_
      refine k_callV (as := [.ref 32, .ref 27]) (rest := []) t120_25 rfl rfl (by decide) rfl rfl (Nat.le_of_ble_eq_true rfl) rfl (z_rcV hW5 (zK_32) (by decide)) (by decide) (by decide) hW5 (fun S8 hW8 => ?_)
      refine (k_iconst t120_28 rfl zci_0).trans ?_
      refine (k_istore_n (ls' := [.ref 0, .int x1, .int (0 : Int32)]) t120_29 rfl rfl).trans ?_
      exact (zk_mk (ls' := [.ref 0, .int x1, .int (0 : Int32)]) t120_30 rfl)
    · refine (zk_mk (ls' := [z_j, z_j, z_j]) t120_15 rfl).trans ?_
      refine (k_iconst t120_15 rfl zci_m1).trans ?_
      exact k_ireturn t120_16 rfl (by decide)
theorem t121_0 : z_ft 121 0 = some (.iload_n 1, 1, none, [], 0, 0, 0, 0) := z_ftd (by decide +kernel)
theorem t121_1 : z_ft 121 1 = some (.ifCond .lt 28, 3, none, [], 29, 0, 0, 0) := z_ftd (by decide +kernel)
theorem t121_4 : z_ft 121 4 = some (.iload_n 1, 1, none, [], 0, 0, 0, 0) := z_ftd (by decide +kernel)
theorem t121_5 : z_ft 121 5 = some (.bipush 40, 2, none, [], 0, 0, 0, 0) := z_ftd (by decide +kernel)
theorem t121_7 : z_ft 121 7 = some (.if_icmp .gt 22, 3, none, [], 29, 0, 0, 0) := z_ftd (by decide +kernel)
theorem t121_10 : z_ft 121 10 = some (.aload_n 0, 1, none, [], 0, 0, 0, 0) := z_ftd (by decide +kernel)
theorem t121_11 : z_ft 121 11 = some (.getfield 46, 3, none, [], 11, 6, 55, 0) := z_ftd (by decide +kernel)
theorem t121_14 : z_ft 121 14 = some (.getfield 168, 3, none, [], 8, 0, 25, 0) := z_ftd (by decide +kernel)
theorem t121_17 : z_ft 121 17 = some (.iload_n 1, 1, none, [], 0, 0, 0, 0) := z_ftd (by decide +kernel)
theorem t121_18 : z_ft 121 18 = some (.iadd, 1, none, [], 0, 0, 0, 0) := z_ftd (by decide +kernel)
theorem t121_19 : z_ft 121 19 = some (.sipush 999, 3, none, [], 0, 0, 0, 0) := z_ftd (by decide +kernel)
theorem t121_22 : z_ft 121 22 = some (.if_icmp .gt 7, 3, none, [], 29, 0, 0, 0) := z_ftd (by decide +kernel)
theorem t121_25 : z_ft 121 25 = some (.iconst 1, 1, none, [], 0, 0, 0, 0) := z_ftd (by decide +kernel)
theorem t121_26 : z_ft 121 26 = some (.goto 4, 3, none, [], 30, 0, 0, 0) := z_ftd (by decide +kernel)
theorem t121_29 : z_ft 121 29 = some (.iconst 0, 1, (some []), [], 0, 0, 0, 0) := z_ftd (by decide +kernel)
theorem t121_30 : z_ft 121 30 = some (.ireturn, 1, (some []), [], 0, 0, 0, 0) := z_ftd (by decide +kernel)
noncomputable def b121_29 (d : Nat)  (S : z_S) : Option (Int32 × z_S) := zk kI z_X0 d 121 29 [z_j, z_j] [] S
theorem b121_29_eq (d : Nat)  (S : z_S) (hW : z_W S)  : b121_29 d  S = some ((0 : Int32), S) := by
  unfold b121_29
  refine (k_iconst t121_29 rfl zci_0).trans ?_
  refine (zk_mk (ls' := [z_j, z_j]) t121_30 rfl).trans ?_
  exact k_zretC t121_30 rfl (by decide) (by decide)
-- X11_canBeAhead
theorem e121 (d : Nat) (x1 : Int32) (S : z_S) (hW : z_W S)  : fI (d + 1) 121 [.ref 0, .int x1] S = (if x1 < (0 : Int32) then b121_29 d S else (if (40 : Int32) < x1 then b121_29 d S else (if (999 : Int32) < ((gI S 27 0) + x1) then b121_29 d S else some ((1 : Int32), S)))) := by
  refine (fI_en (Nat.le_of_ble_eq_true rfl) rfl).trans ?_
  refine (k_iload_n t121_0 rfl rfl).trans ?_
  refine (k_if_lt t121_1 rfl).trans (z_ite (fun g1 => ?_) (fun g1 => ?_))
  · exact (zk_mk (ls' := [z_j, z_j]) t121_29 rfl)
  · refine (k_iload_n t121_4 rfl rfl).trans ?_
    refine (k_bipush t121_5 rfl zcb_40).trans ?_
    refine (k_icmp_gt t121_7 rfl).trans (z_ite (fun g2 => ?_) (fun g2 => ?_))
    · exact (zk_mk (ls' := [z_j, z_j]) t121_29 rfl)
    · refine (k_aload_n t121_10 rfl rfl).trans ?_
      refine (k_getR t121_11 rfl hW zK_0 (by decide) (by decide) (zF_0_6 hW)).trans ?_
      refine (k_getI t121_14 rfl hW zK_27 (by decide) (by decide)).trans ?_
      refine (k_iload_n t121_17 rfl rfl).trans ?_
      refine (k_iadd t121_18 rfl).trans ?_
      refine (k_sipush t121_19 rfl zcs_999).trans ?_
      refine (k_icmp_gt t121_22 rfl).trans (z_ite (fun g3 => ?_) (fun g3 => ?_))
      · exact (zk_mk (ls' := [z_j, z_j]) t121_29 rfl)
      · refine (k_iconst t121_25 rfl zci_1).trans ?_
        refine (k_goto t121_26 rfl).trans ?_
        refine (zk_mk (ls' := [z_j, z_j]) t121_30 rfl).trans ?_
        exact k_zretC t121_30 rfl (by decide) (by decide)
theorem t122_0 : z_ft 122 0 = some (.aload_n 0, 1, none, [], 0, 0, 0, 0) := z_ftd (by decide +kernel)
theorem t122_1 : z_ft 122 1 = some (.iload_n 1, 1, none, [], 0, 0, 0, 0) := z_ftd (by decide +kernel)
theorem t122_2 : z_ft 122 2 = some (.invokevirtual 248, 3, none, [], 153, 0, 86, 0) := z_ftd (by decide +kernel)
theorem t122_5 : z_ft 122 5 = some (.ifCond .ne 5, 3, none, [], 10, 0, 0, 0) := z_ftd (by decide +kernel)
theorem t122_8 : z_ft 122 8 = some (.iconst (-1), 1, none, [], 0, 0, 0, 0) := z_ftd (by decide +kernel)
theorem t122_9 : z_ft 122 9 = some (.ireturn, 1, none, [], 0, 0, 0, 0) := z_ftd (by decide +kernel)
theorem t122_10 : z_ft 122 10 = some (.iload_n 1, 1, none, [], 0, 0, 0, 0) := z_ftd (by decide +kernel)
theorem t122_11 : z_ft 122 11 = some (.invokestatic 159, 3, none, [], 274, 0, 72, 0) := z_ftd (by decide +kernel)
theorem t122_14 : z_ft 122 14 = some (.aload_n 0, 1, none, [], 0, 0, 0, 0) := z_ftd (by decide +kernel)
theorem t122_15 : z_ft 122 15 = some (.getfield 77, 3, none, [], 11, 11, 60, 0) := z_ftd (by decide +kernel)
theorem t122_18 : z_ft 122 18 = some (.aload_n 0, 1, none, [], 0, 0, 0, 0) := z_ftd (by decide +kernel)
theorem t122_19 : z_ft 122 19 = some (.getfield 20, 3, none, [], 11, 2, 51, 0) := z_ftd (by decide +kernel)
theorem t122_22 : z_ft 122 22 = some (.aload_n 0, 1, none, [], 0, 0, 0, 0) := z_ftd (by decide +kernel)
theorem t122_23 : z_ft 122 23 = some (.getfield 46, 3, none, [], 11, 6, 55, 0) := z_ftd (by decide +kernel)
theorem t122_26 : z_ft 122 26 = some (.getfield 167, 3, none, [], 8, 2, 27, 0) := z_ftd (by decide +kernel)
theorem t122_29 : z_ft 122 29 = some (.iload_n 1, 1, none, [], 0, 0, 0, 0) := z_ftd (by decide +kernel)
theorem t122_30 : z_ft 122 30 = some (.invokevirtual 251, 3, none, [], 1, 0, 87, 0) := z_ftd (by decide +kernel)
theorem t122_33 : z_ft 122 33 = some (.invokestatic 159, 3, none, [], 274, 0, 72, 0) := z_ftd (by decide +kernel)
theorem t122_36 : z_ft 122 36 = some (.isub, 1, none, [], 0, 0, 0, 0) := z_ftd (by decide +kernel)
theorem t122_37 : z_ft 122 37 = some (.ireturn, 1, none, [], 0, 0, 0, 0) := z_ftd (by decide +kernel)
-- X11_most
theorem e122 (d : Nat) (x1 : Int32) (S : z_S) (hW : z_W S)  : fI (d + 1) 122 [.ref 0, .int x1] S = (zb (fI d 153 [.ref 0, .int x1] S) fun v1 S2 => (if ¬ v1 = (0 : Int32) then (zb (fI d 274 [.int x1] S2) fun v4 S5 => (zb (fI d 1 [.ref 387, .ref (gP S5 0 2), .int (gI S5 27 2), .int x1] S5) fun v6 S7 => (zb (fI d 274 [.int v6] S7) fun v8 S9 => some ((v4 - v8), S9)))) else some ((-1 : Int32), S2))) := by
  refine (fI_en (Nat.le_of_ble_eq_true rfl) rfl).trans ?_
  refine (k_aload_n t122_0 rfl rfl).trans ?_
  refine (k_iload_n t122_1 rfl rfl).trans ?_
  refine k_callI (as := [.ref 0, .int x1]) (rest := []) t122_2 rfl rfl (by decide) rfl rfl (Nat.le_of_ble_eq_true rfl) rfl (z_rcV hW (zK_0) (by decide)) (by decide) (Or.inr (by decide)) hW (fun v1 S2 hW2 => ?_)
  refine (k_if_ne t122_5 rfl).trans (z_ite (fun g3 => ?_) (fun g3 => ?_))
  · refine (k_iload_n t122_10 rfl rfl).trans ?_
    refine k_callI (as := [.int x1]) (rest := []) t122_11 rfl rfl (by decide) rfl rfl (Nat.le_of_ble_eq_true rfl) rfl (z_rcS (by decide)) (by decide) (Or.inl (by decide)) hW2 (fun v4 S5 hW5 => ?_)
    refine (k_aload_n t122_14 rfl rfl).trans ?_
    refine (k_getR t122_15 rfl hW5 zK_0 (by decide) (by decide) (zF_0_11 hW5)).trans ?_
    refine (k_aload_n t122_18 rfl rfl).trans ?_
    refine (k_getR t122_19 rfl hW5 zK_0 (by decide) (by decide) (zM_0_2 hW5).1).trans ?_
    refine (k_aload_n t122_22 rfl rfl).trans ?_
    refine (k_getR t122_23 rfl hW5 zK_0 (by decide) (by decide) (zF_0_6 hW5)).trans ?_
    refine (k_getI t122_26 rfl hW5 zK_27 (by decide) (by decide)).trans ?_
    refine (k_iload_n t122_29 rfl rfl).trans ?_
    refine k_callI (as := [.ref 387, .ref (gP S5 0 2), .int (gI S5 27 2), .int x1]) (rest := [.int v4]) t122_30 rfl rfl (by decide) rfl rfl (Nat.le_of_ble_eq_true rfl) rfl (z_rcV hW5 (zK_387) (by decide)) (by decide) (Or.inl (by decide)) hW5 (fun v6 S7 hW7 => ?_)
    refine k_callI (as := [.int v6]) (rest := [.int v4]) t122_33 rfl rfl (by decide) rfl rfl (Nat.le_of_ble_eq_true rfl) rfl (z_rcS (by decide)) (by decide) (Or.inl (by decide)) hW7 (fun v8 S9 hW9 => ?_)
    refine (k_isub t122_36 rfl).trans ?_
    exact k_ireturn t122_37 rfl (by decide)
  · refine (k_iconst t122_8 rfl zci_m1).trans ?_
    exact k_ireturn t122_9 rfl (by decide)
theorem t123_0 : z_ft 123 0 = some (.aload_n 0, 1, none, [], 0, 0, 0, 0) := z_ftd (by decide +kernel)
theorem t123_1 : z_ft 123 1 = some (.iload_n 1, 1, none, [], 0, 0, 0, 0) := z_ftd (by decide +kernel)
theorem t123_2 : z_ft 123 2 = some (.invokevirtual 248, 3, none, [], 153, 0, 86, 0) := z_ftd (by decide +kernel)
theorem t123_5 : z_ft 123 5 = some (.ifCond .ne 5, 3, none, [], 10, 0, 0, 0) := z_ftd (by decide +kernel)
theorem t123_8 : z_ft 123 8 = some (.iconst (-1), 1, none, [], 0, 0, 0, 0) := z_ftd (by decide +kernel)
theorem t123_9 : z_ft 123 9 = some (.ireturn, 1, none, [], 0, 0, 0, 0) := z_ftd (by decide +kernel)
theorem t123_10 : z_ft 123 10 = some (.aload_n 0, 1, none, [], 0, 0, 0, 0) := z_ftd (by decide +kernel)
theorem t123_11 : z_ft 123 11 = some (.getfield 77, 3, none, [], 11, 11, 60, 0) := z_ftd (by decide +kernel)
theorem t123_14 : z_ft 123 14 = some (.aload_n 0, 1, none, [], 0, 0, 0, 0) := z_ftd (by decide +kernel)
theorem t123_15 : z_ft 123 15 = some (.getfield 20, 3, none, [], 11, 2, 51, 0) := z_ftd (by decide +kernel)
theorem t123_18 : z_ft 123 18 = some (.aload_n 0, 1, none, [], 0, 0, 0, 0) := z_ftd (by decide +kernel)
theorem t123_19 : z_ft 123 19 = some (.getfield 46, 3, none, [], 11, 6, 55, 0) := z_ftd (by decide +kernel)
theorem t123_22 : z_ft 123 22 = some (.getfield 167, 3, none, [], 8, 2, 27, 0) := z_ftd (by decide +kernel)
theorem t123_25 : z_ft 123 25 = some (.iload_n 1, 1, none, [], 0, 0, 0, 0) := z_ftd (by decide +kernel)
theorem t123_26 : z_ft 123 26 = some (.invokevirtual 251, 3, none, [], 1, 0, 87, 0) := z_ftd (by decide +kernel)
theorem t123_29 : z_ft 123 29 = some (.ifCond .ne 20, 3, none, [], 49, 0, 0, 0) := z_ftd (by decide +kernel)
theorem t123_32 : z_ft 123 32 = some (.aload_n 0, 1, none, [], 0, 0, 0, 0) := z_ftd (by decide +kernel)
theorem t123_33 : z_ft 123 33 = some (.getfield 77, 3, none, [], 11, 11, 60, 0) := z_ftd (by decide +kernel)
theorem t123_36 : z_ft 123 36 = some (.aload_n 0, 1, none, [], 0, 0, 0, 0) := z_ftd (by decide +kernel)
theorem t123_37 : z_ft 123 37 = some (.getfield 20, 3, none, [], 11, 2, 51, 0) := z_ftd (by decide +kernel)
theorem t123_40 : z_ft 123 40 = some (.getfield 150, 3, none, [], 6, 1, 3, 0) := z_ftd (by decide +kernel)
theorem t123_43 : z_ft 123 43 = some (.invokevirtual 255, 3, none, [], 4, 0, 88, 0) := z_ftd (by decide +kernel)
theorem t123_46 : z_ft 123 46 = some (.goto 4, 3, none, [], 50, 0, 0, 0) := z_ftd (by decide +kernel)
theorem t123_49 : z_ft 123 49 = some (.iconst 0, 1, none, [], 0, 0, 0, 0) := z_ftd (by decide +kernel)
theorem t123_50 : z_ft 123 50 = some (.ireturn, 1, (some []), [], 0, 0, 0, 0) := z_ftd (by decide +kernel)
-- X11_ways
theorem e123 (d : Nat) (x1 : Int32) (S : z_S) (hW : z_W S)  : fI (d + 1) 123 [.ref 0, .int x1] S = (zb (fI d 153 [.ref 0, .int x1] S) fun v1 S2 => (if ¬ v1 = (0 : Int32) then (zb (fI d 1 [.ref 387, .ref (gP S2 0 2), .int (gI S2 27 2), .int x1] S2) fun v4 S5 => (if ¬ v4 = (0 : Int32) then some ((0 : Int32), S5) else (zb (fI d 4 [.ref 387, .int (gI S5 (gP S5 0 2) 1)] S5) fun v7 S8 => some (v7, S8)))) else some ((-1 : Int32), S2))) := by
  refine (fI_en (Nat.le_of_ble_eq_true rfl) rfl).trans ?_
  refine (k_aload_n t123_0 rfl rfl).trans ?_
  refine (k_iload_n t123_1 rfl rfl).trans ?_
  refine k_callI (as := [.ref 0, .int x1]) (rest := []) t123_2 rfl rfl (by decide) rfl rfl (Nat.le_of_ble_eq_true rfl) rfl (z_rcV hW (zK_0) (by decide)) (by decide) (Or.inr (by decide)) hW (fun v1 S2 hW2 => ?_)
  refine (k_if_ne t123_5 rfl).trans (z_ite (fun g3 => ?_) (fun g3 => ?_))
  · refine (k_aload_n t123_10 rfl rfl).trans ?_
    refine (k_getR t123_11 rfl hW2 zK_0 (by decide) (by decide) (zF_0_11 hW2)).trans ?_
    refine (k_aload_n t123_14 rfl rfl).trans ?_
    refine (k_getR t123_15 rfl hW2 zK_0 (by decide) (by decide) (zM_0_2 hW2).1).trans ?_
    refine (k_aload_n t123_18 rfl rfl).trans ?_
    refine (k_getR t123_19 rfl hW2 zK_0 (by decide) (by decide) (zF_0_6 hW2)).trans ?_
    refine (k_getI t123_22 rfl hW2 zK_27 (by decide) (by decide)).trans ?_
    refine (k_iload_n t123_25 rfl rfl).trans ?_
    refine k_callI (as := [.ref 387, .ref (gP S2 0 2), .int (gI S2 27 2), .int x1]) (rest := []) t123_26 rfl rfl (by decide) rfl rfl (Nat.le_of_ble_eq_true rfl) rfl (z_rcV hW2 (zK_387) (by decide)) (by decide) (Or.inl (by decide)) hW2 (fun v4 S5 hW5 => ?_)
    refine (k_if_ne t123_29 rfl).trans (z_ite (fun g6 => ?_) (fun g6 => ?_))
    · refine (k_iconst t123_49 rfl zci_0).trans ?_
      refine (zk_mk (ls' := [z_j, z_j]) t123_50 rfl).trans ?_
      exact k_ireturn t123_50 rfl (by decide)
    · refine (k_aload_n t123_32 rfl rfl).trans ?_
      refine (k_getR t123_33 rfl hW5 zK_0 (by decide) (by decide) (zF_0_11 hW5)).trans ?_
      refine (k_aload_n t123_36 rfl rfl).trans ?_
      refine (k_getR t123_37 rfl hW5 zK_0 (by decide) (by decide) (zM_0_2 hW5).1).trans ?_
      refine (k_getI t123_40 rfl hW5 (zM_0_2 hW5).2 (by decide) (by decide)).trans ?_
      refine k_callI (as := [.ref 387, .int (gI S5 (gP S5 0 2) 1)]) (rest := []) t123_43 rfl rfl (by decide) rfl rfl (Nat.le_of_ble_eq_true rfl) rfl (z_rcV hW5 (zK_387) (by decide)) (by decide) (Or.inl (by decide)) hW5 (fun v7 S8 hW8 => ?_)
      refine (k_goto t123_46 rfl).trans ?_
      refine (zk_mk (ls' := [z_j, z_j]) t123_50 rfl).trans ?_
      exact k_ireturn t123_50 rfl (by decide)
  · refine (k_iconst t123_8 rfl zci_m1).trans ?_
    exact k_ireturn t123_9 rfl (by decide)
theorem t124_0 : z_ft 124 0 = some (.aload_n 0, 1, none, [], 0, 0, 0, 0) := z_ftd (by decide +kernel)
theorem t124_1 : z_ft 124 1 = some (.iload_n 1, 1, none, [], 0, 0, 0, 0) := z_ftd (by decide +kernel)
theorem t124_2 : z_ft 124 2 = some (.invokevirtual 248, 3, none, [], 153, 0, 86, 0) := z_ftd (by decide +kernel)
theorem t124_5 : z_ft 124 5 = some (.ifCond .eq 25, 3, none, [], 30, 0, 0, 0) := z_ftd (by decide +kernel)
theorem t124_8 : z_ft 124 8 = some (.aload_n 0, 1, none, [], 0, 0, 0, 0) := z_ftd (by decide +kernel)
theorem t124_9 : z_ft 124 9 = some (.getfield 77, 3, none, [], 11, 11, 60, 0) := z_ftd (by decide +kernel)
theorem t124_12 : z_ft 124 12 = some (.aload_n 0, 1, none, [], 0, 0, 0, 0) := z_ftd (by decide +kernel)
theorem t124_13 : z_ft 124 13 = some (.getfield 20, 3, none, [], 11, 2, 51, 0) := z_ftd (by decide +kernel)
theorem t124_16 : z_ft 124 16 = some (.aload_n 0, 1, none, [], 0, 0, 0, 0) := z_ftd (by decide +kernel)
theorem t124_17 : z_ft 124 17 = some (.getfield 46, 3, none, [], 11, 6, 55, 0) := z_ftd (by decide +kernel)
theorem t124_20 : z_ft 124 20 = some (.getfield 167, 3, none, [], 8, 2, 27, 0) := z_ftd (by decide +kernel)
theorem t124_23 : z_ft 124 23 = some (.iload_n 1, 1, none, [], 0, 0, 0, 0) := z_ftd (by decide +kernel)
theorem t124_24 : z_ft 124 24 = some (.invokevirtual 251, 3, none, [], 1, 0, 87, 0) := z_ftd (by decide +kernel)
theorem t124_27 : z_ft 124 27 = some (.goto 4, 3, none, [], 31, 0, 0, 0) := z_ftd (by decide +kernel)
theorem t124_30 : z_ft 124 30 = some (.iconst (-1), 1, none, [], 0, 0, 0, 0) := z_ftd (by decide +kernel)
theorem t124_31 : z_ft 124 31 = some (.ireturn, 1, (some []), [], 0, 0, 0, 0) := z_ftd (by decide +kernel)
-- X11_turned
theorem e124 (d : Nat) (x1 : Int32) (S : z_S) (hW : z_W S)  : fI (d + 1) 124 [.ref 0, .int x1] S = (zb (fI d 153 [.ref 0, .int x1] S) fun v1 S2 => (if v1 = (0 : Int32) then some ((-1 : Int32), S2) else (zb (fI d 1 [.ref 387, .ref (gP S2 0 2), .int (gI S2 27 2), .int x1] S2) fun v4 S5 => some (v4, S5)))) := by
  refine (fI_en (Nat.le_of_ble_eq_true rfl) rfl).trans ?_
  refine (k_aload_n t124_0 rfl rfl).trans ?_
  refine (k_iload_n t124_1 rfl rfl).trans ?_
  refine k_callI (as := [.ref 0, .int x1]) (rest := []) t124_2 rfl rfl (by decide) rfl rfl (Nat.le_of_ble_eq_true rfl) rfl (z_rcV hW (zK_0) (by decide)) (by decide) (Or.inr (by decide)) hW (fun v1 S2 hW2 => ?_)
  refine (k_if_eq t124_5 rfl).trans (z_ite (fun g3 => ?_) (fun g3 => ?_))
  · refine (k_iconst t124_30 rfl zci_m1).trans ?_
    refine (zk_mk (ls' := [z_j, z_j]) t124_31 rfl).trans ?_
    exact k_ireturn t124_31 rfl (by decide)
  · refine (k_aload_n t124_8 rfl rfl).trans ?_
    refine (k_getR t124_9 rfl hW2 zK_0 (by decide) (by decide) (zF_0_11 hW2)).trans ?_
    refine (k_aload_n t124_12 rfl rfl).trans ?_
    refine (k_getR t124_13 rfl hW2 zK_0 (by decide) (by decide) (zM_0_2 hW2).1).trans ?_
    refine (k_aload_n t124_16 rfl rfl).trans ?_
    refine (k_getR t124_17 rfl hW2 zK_0 (by decide) (by decide) (zF_0_6 hW2)).trans ?_
    refine (k_getI t124_20 rfl hW2 zK_27 (by decide) (by decide)).trans ?_
    refine (k_iload_n t124_23 rfl rfl).trans ?_
    refine k_callI (as := [.ref 387, .ref (gP S2 0 2), .int (gI S2 27 2), .int x1]) (rest := []) t124_24 rfl rfl (by decide) rfl rfl (Nat.le_of_ble_eq_true rfl) rfl (z_rcV hW2 (zK_387) (by decide)) (by decide) (Or.inl (by decide)) hW2 (fun v4 S5 hW5 => ?_)
    refine (k_goto t124_27 rfl).trans ?_
    refine (zk_mk (ls' := [z_j, z_j]) t124_31 rfl).trans ?_
    exact k_ireturn t124_31 rfl (by decide)
theorem t125_0 : z_ft 125 0 = some (.aload_n 0, 1, none, [], 0, 0, 0, 0) := z_ftd (by decide +kernel)
theorem t125_1 : z_ft 125 1 = some (.getfield 77, 3, none, [], 11, 11, 60, 0) := z_ftd (by decide +kernel)
theorem t125_4 : z_ft 125 4 = some (.aload_n 0, 1, none, [], 0, 0, 0, 0) := z_ftd (by decide +kernel)
theorem t125_5 : z_ft 125 5 = some (.getfield 20, 3, none, [], 11, 2, 51, 0) := z_ftd (by decide +kernel)
theorem t125_8 : z_ft 125 8 = some (.aload_n 0, 1, none, [], 0, 0, 0, 0) := z_ftd (by decide +kernel)
theorem t125_9 : z_ft 125 9 = some (.getfield 46, 3, none, [], 11, 6, 55, 0) := z_ftd (by decide +kernel)
theorem t125_12 : z_ft 125 12 = some (.getfield 167, 3, none, [], 8, 2, 27, 0) := z_ftd (by decide +kernel)
theorem t125_15 : z_ft 125 15 = some (.invokevirtual 258, 3, none, [], 5, 0, 89, 0) := z_ftd (by decide +kernel)
theorem t125_18 : z_ft 125 18 = some (.ireturn, 1, none, [], 0, 0, 0, 0) := z_ftd (by decide +kernel)
-- X11_crowd
theorem e125 (d : Nat)  (S : z_S) (hW : z_W S)  : fI (d + 1) 125 [.ref 0] S = (zb (fI d 5 [.ref 387, .ref (gP S 0 2), .int (gI S 27 2)] S) fun v1 S2 => some (v1, S2)) := by
  refine (fI_en (Nat.le_of_ble_eq_true rfl) rfl).trans ?_
  refine (k_aload_n t125_0 rfl rfl).trans ?_
  refine (k_getR t125_1 rfl hW zK_0 (by decide) (by decide) (zF_0_11 hW)).trans ?_
  refine (k_aload_n t125_4 rfl rfl).trans ?_
  refine (k_getR t125_5 rfl hW zK_0 (by decide) (by decide) (zM_0_2 hW).1).trans ?_
  refine (k_aload_n t125_8 rfl rfl).trans ?_
  refine (k_getR t125_9 rfl hW zK_0 (by decide) (by decide) (zF_0_6 hW)).trans ?_
  refine (k_getI t125_12 rfl hW zK_27 (by decide) (by decide)).trans ?_
  refine k_callI (as := [.ref 387, .ref (gP S 0 2), .int (gI S 27 2)]) (rest := []) t125_15 rfl rfl (by decide) rfl rfl (Nat.le_of_ble_eq_true rfl) rfl (z_rcV hW (zK_387) (by decide)) (by decide) (Or.inl (by decide)) hW (fun v1 S2 hW2 => ?_)
  exact k_ireturn t125_18 rfl (by decide)
theorem t126_0 : z_ft 126 0 = some (.aload_n 0, 1, none, [], 0, 0, 0, 0) := z_ftd (by decide +kernel)
theorem t126_1 : z_ft 126 1 = some (.getfield 20, 3, none, [], 11, 2, 51, 0) := z_ftd (by decide +kernel)
theorem t126_4 : z_ft 126 4 = some (.iload_n 1, 1, none, [], 0, 0, 0, 0) := z_ftd (by decide +kernel)
theorem t126_5 : z_ft 126 5 = some (.invokevirtual 190, 3, none, [], 58, 0, 75, 0) := z_ftd (by decide +kernel)
theorem t126_8 : z_ft 126 8 = some (.ifCond .eq 18, 3, none, [], 26, 0, 0, 0) := z_ftd (by decide +kernel)
theorem t126_11 : z_ft 126 11 = some (.aload_n 0, 1, none, [], 0, 0, 0, 0) := z_ftd (by decide +kernel)
theorem t126_12 : z_ft 126 12 = some (.getfield 39, 3, none, [], 11, 5, 54, 0) := z_ftd (by decide +kernel)
theorem t126_15 : z_ft 126 15 = some (.aload_n 0, 1, none, [], 0, 0, 0, 0) := z_ftd (by decide +kernel)
theorem t126_16 : z_ft 126 16 = some (.getfield 46, 3, none, [], 11, 6, 55, 0) := z_ftd (by decide +kernel)
theorem t126_19 : z_ft 126 19 = some (.iload_n 1, 1, none, [], 0, 0, 0, 0) := z_ftd (by decide +kernel)
theorem t126_20 : z_ft 126 20 = some (.invokevirtual 262, 3, none, [], 40, 0, 90, 0) := z_ftd (by decide +kernel)
theorem t126_23 : z_ft 126 23 = some (.goto 4, 3, none, [], 27, 0, 0, 0) := z_ftd (by decide +kernel)
theorem t126_26 : z_ft 126 26 = some (.iconst (-1), 1, none, [], 0, 0, 0, 0) := z_ftd (by decide +kernel)
theorem t126_27 : z_ft 126 27 = some (.ireturn, 1, (some []), [], 0, 0, 0, 0) := z_ftd (by decide +kernel)
-- X11_clear
theorem e126 (d : Nat) (x1 : Int32) (S : z_S) (hW : z_W S)  : fI (d + 1) 126 [.ref 0, .int x1] S = (zb (fI d 58 [.ref (gP S 0 2), .int x1] S) fun v1 S2 => (if v1 = (0 : Int32) then some ((-1 : Int32), S2) else (zb (fI d 40 [.ref 22, .ref 27, .int x1] S2) fun v4 S5 => some (v4, S5)))) := by
  refine (fI_en (Nat.le_of_ble_eq_true rfl) rfl).trans ?_
  refine (k_aload_n t126_0 rfl rfl).trans ?_
  refine (k_getR t126_1 rfl hW zK_0 (by decide) (by decide) (zM_0_2 hW).1).trans ?_
  refine (k_iload_n t126_4 rfl rfl).trans ?_
  refine k_callI (as := [.ref (gP S 0 2), .int x1]) (rest := []) t126_5 rfl rfl (by decide) rfl rfl (Nat.le_of_ble_eq_true rfl) rfl (z_rcV hW ((zM_0_2 hW).2) (by decide)) (by decide) (Or.inr (by decide)) hW (fun v1 S2 hW2 => ?_)
  refine (k_if_eq t126_8 rfl).trans (z_ite (fun g3 => ?_) (fun g3 => ?_))
  · refine (k_iconst t126_26 rfl zci_m1).trans ?_
    refine (zk_mk (ls' := [z_j, z_j]) t126_27 rfl).trans ?_
    exact k_ireturn t126_27 rfl (by decide)
  · refine (k_aload_n t126_11 rfl rfl).trans ?_
    refine (k_getR t126_12 rfl hW2 zK_0 (by decide) (by decide) (zF_0_5 hW2)).trans ?_
    refine (k_aload_n t126_15 rfl rfl).trans ?_
    refine (k_getR t126_16 rfl hW2 zK_0 (by decide) (by decide) (zF_0_6 hW2)).trans ?_
    refine (k_iload_n t126_19 rfl rfl).trans ?_
    refine k_callI (as := [.ref 22, .ref 27, .int x1]) (rest := []) t126_20 rfl rfl (by decide) rfl rfl (Nat.le_of_ble_eq_true rfl) rfl (z_rcV hW2 (zK_22) (by decide)) (by decide) (Or.inl (by decide)) hW2 (fun v4 S5 hW5 => ?_)
    refine (k_goto t126_23 rfl).trans ?_
    refine (zk_mk (ls' := [z_j, z_j]) t126_27 rfl).trans ?_
    exact k_ireturn t126_27 rfl (by decide)
theorem t127_0 : z_ft 127 0 = some (.aload_n 0, 1, none, [], 0, 0, 0, 0) := z_ftd (by decide +kernel)
theorem t127_1 : z_ft 127 1 = some (.getfield 20, 3, none, [], 11, 2, 51, 0) := z_ftd (by decide +kernel)
theorem t127_4 : z_ft 127 4 = some (.iload_n 1, 1, none, [], 0, 0, 0, 0) := z_ftd (by decide +kernel)
theorem t127_5 : z_ft 127 5 = some (.invokevirtual 177, 3, none, [], 59, 0, 73, 0) := z_ftd (by decide +kernel)
theorem t127_8 : z_ft 127 8 = some (.ifCond .eq 14, 3, none, [], 22, 0, 0, 0) := z_ftd (by decide +kernel)
theorem t127_11 : z_ft 127 11 = some (.aload_n 0, 1, none, [], 0, 0, 0, 0) := z_ftd (by decide +kernel)
theorem t127_12 : z_ft 127 12 = some (.getfield 46, 3, none, [], 11, 6, 55, 0) := z_ftd (by decide +kernel)
theorem t127_15 : z_ft 127 15 = some (.iload_n 1, 1, none, [], 0, 0, 0, 0) := z_ftd (by decide +kernel)
theorem t127_16 : z_ft 127 16 = some (.invokevirtual 212, 3, none, [], 77, 0, 79, 0) := z_ftd (by decide +kernel)
theorem t127_19 : z_ft 127 19 = some (.ifCond .eq 5, 3, none, [], 24, 0, 0, 0) := z_ftd (by decide +kernel)
theorem t127_22 : z_ft 127 22 = some (.iconst (-1), 1, (some []), [], 0, 0, 0, 0) := z_ftd (by decide +kernel)
theorem t127_23 : z_ft 127 23 = some (.ireturn, 1, none, [], 0, 0, 0, 0) := z_ftd (by decide +kernel)
theorem t127_24 : z_ft 127 24 = some (.aload_n 0, 1, none, [], 0, 0, 0, 0) := z_ftd (by decide +kernel)
theorem t127_25 : z_ft 127 25 = some (.getfield 39, 3, none, [], 11, 5, 54, 0) := z_ftd (by decide +kernel)
theorem t127_28 : z_ft 127 28 = some (.aload_n 0, 1, none, [], 0, 0, 0, 0) := z_ftd (by decide +kernel)
theorem t127_29 : z_ft 127 29 = some (.getfield 46, 3, none, [], 11, 6, 55, 0) := z_ftd (by decide +kernel)
theorem t127_32 : z_ft 127 32 = some (.aload_n 0, 1, none, [], 0, 0, 0, 0) := z_ftd (by decide +kernel)
theorem t127_33 : z_ft 127 33 = some (.getfield 20, 3, none, [], 11, 2, 51, 0) := z_ftd (by decide +kernel)
theorem t127_36 : z_ft 127 36 = some (.getfield 206, 3, none, [], 6, 10, 11, 0) := z_ftd (by decide +kernel)
theorem t127_39 : z_ft 127 39 = some (.iload_n 1, 1, none, [], 0, 0, 0, 0) := z_ftd (by decide +kernel)
theorem t127_40 : z_ft 127 40 = some (.iaload, 1, none, [], 0, 0, 0, 0) := z_ftd (by decide +kernel)
theorem t127_41 : z_ft 127 41 = some (.invokevirtual 262, 3, none, [], 40, 0, 90, 0) := z_ftd (by decide +kernel)
theorem t127_44 : z_ft 127 44 = some (.istore_n 2, 1, none, [], 0, 0, 0, 0) := z_ftd (by decide +kernel)
theorem t127_45 : z_ft 127 45 = some (.aload_n 0, 1, none, [], 0, 0, 0, 0) := z_ftd (by decide +kernel)
theorem t127_46 : z_ft 127 46 = some (.getfield 39, 3, none, [], 11, 5, 54, 0) := z_ftd (by decide +kernel)
theorem t127_49 : z_ft 127 49 = some (.aload_n 0, 1, none, [], 0, 0, 0, 0) := z_ftd (by decide +kernel)
theorem t127_50 : z_ft 127 50 = some (.getfield 46, 3, none, [], 11, 6, 55, 0) := z_ftd (by decide +kernel)
theorem t127_53 : z_ft 127 53 = some (.aload_n 0, 1, none, [], 0, 0, 0, 0) := z_ftd (by decide +kernel)
theorem t127_54 : z_ft 127 54 = some (.getfield 20, 3, none, [], 11, 2, 51, 0) := z_ftd (by decide +kernel)
theorem t127_57 : z_ft 127 57 = some (.getfield 209, 3, none, [], 6, 11, 12, 0) := z_ftd (by decide +kernel)
theorem t127_60 : z_ft 127 60 = some (.iload_n 1, 1, none, [], 0, 0, 0, 0) := z_ftd (by decide +kernel)
theorem t127_61 : z_ft 127 61 = some (.iaload, 1, none, [], 0, 0, 0, 0) := z_ftd (by decide +kernel)
theorem t127_62 : z_ft 127 62 = some (.invokevirtual 262, 3, none, [], 40, 0, 90, 0) := z_ftd (by decide +kernel)
theorem t127_65 : z_ft 127 65 = some (.istore_n 3, 1, none, [], 0, 0, 0, 0) := z_ftd (by decide +kernel)
theorem t127_66 : z_ft 127 66 = some (.iload_n 2, 1, none, [], 0, 0, 0, 0) := z_ftd (by decide +kernel)
theorem t127_67 : z_ft 127 67 = some (.iconst (-1), 1, none, [], 0, 0, 0, 0) := z_ftd (by decide +kernel)
theorem t127_68 : z_ft 127 68 = some (.if_icmp .ne 5, 3, none, [], 73, 0, 0, 0) := z_ftd (by decide +kernel)
theorem t127_71 : z_ft 127 71 = some (.iload_n 3, 1, none, [], 0, 0, 0, 0) := z_ftd (by decide +kernel)
theorem t127_72 : z_ft 127 72 = some (.ireturn, 1, none, [], 0, 0, 0, 0) := z_ftd (by decide +kernel)
theorem t127_73 : z_ft 127 73 = some (.iload_n 3, 1, none, [], 0, 0, 0, 0) := z_ftd (by decide +kernel)
theorem t127_74 : z_ft 127 74 = some (.iconst (-1), 1, none, [], 0, 0, 0, 0) := z_ftd (by decide +kernel)
theorem t127_75 : z_ft 127 75 = some (.if_icmp .ne 7, 3, none, [], 82, 0, 0, 0) := z_ftd (by decide +kernel)
theorem t127_78 : z_ft 127 78 = some (.iload_n 2, 1, none, [], 0, 0, 0, 0) := z_ftd (by decide +kernel)
theorem t127_79 : z_ft 127 79 = some (.goto 8, 3, none, [], 87, 0, 0, 0) := z_ftd (by decide +kernel)
theorem t127_82 : z_ft 127 82 = some (.iload_n 2, 1, none, [], 0, 0, 0, 0) := z_ftd (by decide +kernel)
theorem t127_83 : z_ft 127 83 = some (.iload_n 3, 1, none, [], 0, 0, 0, 0) := z_ftd (by decide +kernel)
theorem t127_84 : z_ft 127 84 = some (.invokestatic 266, 3, none, [], 279, 0, 91, 0) := z_ftd (by decide +kernel)
theorem t127_87 : z_ft 127 87 = some (.ireturn, 1, (some []), [], 0, 0, 0, 0) := z_ftd (by decide +kernel)
-- X11_moves
theorem e127 (d : Nat) (x1 : Int32) (S : z_S) (hW : z_W S)  : fI (d + 1) 127 [.ref 0, .int x1] S = (zb (fI d 59 [.ref (gP S 0 2), .int x1] S) fun v1 S2 => (if v1 = (0 : Int32) then some ((-1 : Int32), S2) else (zb (fI d 77 [.ref 27, .int x1] S2) fun v4 S5 => (if v4 = (0 : Int32) then (if z_in x1 16 then (zb (fI d 40 [.ref 22, .ref 27, .int (gI S5 ((gP S5 0 2) + 2) (x1).toNatClampNeg)] S5) fun v8 S9 => (if z_in x1 16 then (zb (fI d 40 [.ref 22, .ref 27, .int (gI S9 ((gP S9 0 2) + 3) (x1).toNatClampNeg)] S9) fun v11 S12 => (if ¬ v8 = (-1 : Int32) then (if ¬ v11 = (-1 : Int32) then (zb (fI d 279 [.int v8, .int v11] S12) fun v15 S16 => some (v15, S16)) else some (v8, S12)) else some (v11, S12))) else none)) else none) else some ((-1 : Int32), S5))))) := by
  refine (fI_en (Nat.le_of_ble_eq_true rfl) rfl).trans ?_
  refine (k_aload_n t127_0 rfl rfl).trans ?_
  refine (k_getR t127_1 rfl hW zK_0 (by decide) (by decide) (zM_0_2 hW).1).trans ?_
  refine (k_iload_n t127_4 rfl rfl).trans ?_
  refine k_callI (as := [.ref (gP S 0 2), .int x1]) (rest := []) t127_5 rfl rfl (by decide) rfl rfl (Nat.le_of_ble_eq_true rfl) rfl (z_rcV hW ((zM_0_2 hW).2) (by decide)) (by decide) (Or.inr (by decide)) hW (fun v1 S2 hW2 => ?_)
  refine (k_if_eq t127_8 rfl).trans (z_ite (fun g3 => ?_) (fun g3 => ?_))
  · refine (zk_mk (ls' := [z_j, z_j, z_j, z_j]) t127_22 rfl).trans ?_
    refine (k_iconst t127_22 rfl zci_m1).trans ?_
    exact k_ireturn t127_23 rfl (by decide)
  · refine (k_aload_n t127_11 rfl rfl).trans ?_
    refine (k_getR t127_12 rfl hW2 zK_0 (by decide) (by decide) (zF_0_6 hW2)).trans ?_
    refine (k_iload_n t127_15 rfl rfl).trans ?_
    refine k_callI (as := [.ref 27, .int x1]) (rest := []) t127_16 rfl rfl (by decide) rfl rfl (Nat.le_of_ble_eq_true rfl) rfl (z_rcV hW2 (zK_27) (by decide)) (by decide) (Or.inr (by decide)) hW2 (fun v4 S5 hW5 => ?_)
    refine (k_if_eq t127_19 rfl).trans (z_ite (fun g6 => ?_) (fun g6 => ?_))
    · refine (k_aload_n t127_24 rfl rfl).trans ?_
      refine (k_getR t127_25 rfl hW5 zK_0 (by decide) (by decide) (zF_0_5 hW5)).trans ?_
      refine (k_aload_n t127_28 rfl rfl).trans ?_
      refine (k_getR t127_29 rfl hW5 zK_0 (by decide) (by decide) (zF_0_6 hW5)).trans ?_
      refine (k_aload_n t127_32 rfl rfl).trans ?_
      refine (k_getR t127_33 rfl hW5 zK_0 (by decide) (by decide) (zM_0_2 hW5).1).trans ?_
      refine (k_getR t127_36 rfl hW5 (zM_0_2 hW5).2 (by decide) (by decide) (zO_6_10 hW5 (zM_0_2 hW5).2)).trans ?_
      refine (k_iload_n t127_39 rfl rfl).trans ?_
      refine (k_iald t127_40 rfl hW5 (zOK_6_10 (zM_0_2 hW5).2) (zOL_6_10 (zM_0_2 hW5).2)).trans (z_ite (fun g7 => ?_) (fun _ => rfl))
      refine k_callI (as := [.ref 22, .ref 27, .int (gI S5 ((gP S5 0 2) + 2) (x1).toNatClampNeg)]) (rest := []) t127_41 rfl rfl (by decide) rfl rfl (Nat.le_of_ble_eq_true rfl) rfl (z_rcV hW5 (zK_22) (by decide)) (by decide) (Or.inl (by decide)) hW5 (fun v8 S9 hW9 => ?_)
      refine (k_istore_n (ls' := [.ref 0, .int x1, .int v8, z_j]) t127_44 rfl rfl).trans ?_
      refine (k_aload_n t127_45 rfl rfl).trans ?_
      refine (k_getR t127_46 rfl hW9 zK_0 (by decide) (by decide) (zF_0_5 hW9)).trans ?_
      refine (k_aload_n t127_49 rfl rfl).trans ?_
      refine (k_getR t127_50 rfl hW9 zK_0 (by decide) (by decide) (zF_0_6 hW9)).trans ?_
      refine (k_aload_n t127_53 rfl rfl).trans ?_
      refine (k_getR t127_54 rfl hW9 zK_0 (by decide) (by decide) (zM_0_2 hW9).1).trans ?_
      refine (k_getR t127_57 rfl hW9 (zM_0_2 hW9).2 (by decide) (by decide) (zO_6_11 hW9 (zM_0_2 hW9).2)).trans ?_
      refine (k_iload_n t127_60 rfl rfl).trans ?_
      refine (k_iald t127_61 rfl hW9 (zOK_6_11 (zM_0_2 hW9).2) (zOL_6_11 (zM_0_2 hW9).2)).trans (z_ite (fun g10 => ?_) (fun _ => rfl))
      refine k_callI (as := [.ref 22, .ref 27, .int (gI S9 ((gP S9 0 2) + 3) (x1).toNatClampNeg)]) (rest := []) t127_62 rfl rfl (by decide) rfl rfl (Nat.le_of_ble_eq_true rfl) rfl (z_rcV hW9 (zK_22) (by decide)) (by decide) (Or.inl (by decide)) hW9 (fun v11 S12 hW12 => ?_)
      refine (k_istore_n (ls' := [.ref 0, .int x1, .int v8, .int v11]) t127_65 rfl rfl).trans ?_
      refine (k_iload_n t127_66 rfl rfl).trans ?_
      refine (k_iconst t127_67 rfl zci_m1).trans ?_
      refine (k_icmp_ne t127_68 rfl).trans (z_ite (fun g13 => ?_) (fun g13 => ?_))
      · refine (k_iload_n t127_73 rfl rfl).trans ?_
        refine (k_iconst t127_74 rfl zci_m1).trans ?_
        refine (k_icmp_ne t127_75 rfl).trans (z_ite (fun g14 => ?_) (fun g14 => ?_))
        · refine (k_iload_n t127_82 rfl rfl).trans ?_
          refine (k_iload_n t127_83 rfl rfl).trans ?_
          refine k_callI (as := [.int v8, .int v11]) (rest := []) t127_84 rfl rfl (by decide) rfl rfl (Nat.le_of_ble_eq_true rfl) rfl (z_rcS (by decide)) (by decide) (Or.inl (by decide)) hW12 (fun v15 S16 hW16 => ?_)
          refine (zk_mk (ls' := [z_j, z_j, z_j, z_j]) t127_87 rfl).trans ?_
          exact k_ireturn t127_87 rfl (by decide)
        · refine (k_iload_n t127_78 rfl rfl).trans ?_
          refine (k_goto t127_79 rfl).trans ?_
          refine (zk_mk (ls' := [z_j, z_j, z_j, z_j]) t127_87 rfl).trans ?_
          exact k_ireturn t127_87 rfl (by decide)
      · refine (k_iload_n t127_71 rfl rfl).trans ?_
        exact k_ireturn t127_72 rfl (by decide)
    · refine (zk_mk (ls' := [z_j, z_j, z_j, z_j]) t127_22 rfl).trans ?_
      refine (k_iconst t127_22 rfl zci_m1).trans ?_
      exact k_ireturn t127_23 rfl (by decide)
theorem t128_0 : z_ft 128 0 = some (.aload_n 0, 1, none, [], 0, 0, 0, 0) := z_ftd (by decide +kernel)
theorem t128_1 : z_ft 128 1 = some (.getfield 20, 3, none, [], 11, 2, 51, 0) := z_ftd (by decide +kernel)
theorem t128_4 : z_ft 128 4 = some (.getfield 153, 3, none, [], 6, 6, 8, 0) := z_ftd (by decide +kernel)
theorem t128_7 : z_ft 128 7 = some (.ifCond .eq 16, 3, none, [], 23, 0, 0, 0) := z_ftd (by decide +kernel)
theorem t128_10 : z_ft 128 10 = some (.aload_n 0, 1, none, [], 0, 0, 0, 0) := z_ftd (by decide +kernel)
theorem t128_11 : z_ft 128 11 = some (.getfield 46, 3, none, [], 11, 6, 55, 0) := z_ftd (by decide +kernel)
theorem t128_14 : z_ft 128 14 = some (.getfield 168, 3, none, [], 8, 0, 25, 0) := z_ftd (by decide +kernel)
theorem t128_17 : z_ft 128 17 = some (.sipush 999, 3, none, [], 0, 0, 0, 0) := z_ftd (by decide +kernel)
theorem t128_20 : z_ft 128 20 = some (.if_icmp .lt 5, 3, none, [], 25, 0, 0, 0) := z_ftd (by decide +kernel)
theorem t128_23 : z_ft 128 23 = some (.iconst (-1), 1, (some []), [], 0, 0, 0, 0) := z_ftd (by decide +kernel)
theorem t128_24 : z_ft 128 24 = some (.ireturn, 1, none, [], 0, 0, 0, 0) := z_ftd (by decide +kernel)
theorem t128_25 : z_ft 128 25 = some (.iload_n 1, 1, none, [], 0, 0, 0, 0) := z_ftd (by decide +kernel)
theorem t128_26 : z_ft 128 26 = some (.iconst (-1), 1, none, [], 0, 0, 0, 0) := z_ftd (by decide +kernel)
theorem t128_27 : z_ft 128 27 = some (.if_icmp .ne 14, 3, none, [], 41, 0, 0, 0) := z_ftd (by decide +kernel)
theorem t128_30 : z_ft 128 30 = some (.bipush 100, 2, none, [], 0, 0, 0, 0) := z_ftd (by decide +kernel)
theorem t128_32 : z_ft 128 32 = some (.aload_n 0, 1, none, [], 0, 0, 0, 0) := z_ftd (by decide +kernel)
theorem t128_33 : z_ft 128 33 = some (.getfield 20, 3, none, [], 11, 2, 51, 0) := z_ftd (by decide +kernel)
theorem t128_36 : z_ft 128 36 = some (.getfield 153, 3, none, [], 6, 6, 8, 0) := z_ftd (by decide +kernel)
theorem t128_39 : z_ft 128 39 = some (.imul, 1, none, [], 0, 0, 0, 0) := z_ftd (by decide +kernel)
theorem t128_40 : z_ft 128 40 = some (.ireturn, 1, none, [], 0, 0, 0, 0) := z_ftd (by decide +kernel)
theorem t128_41 : z_ft 128 41 = some (.aload_n 0, 1, none, [], 0, 0, 0, 0) := z_ftd (by decide +kernel)
theorem t128_42 : z_ft 128 42 = some (.getfield 20, 3, none, [], 11, 2, 51, 0) := z_ftd (by decide +kernel)
theorem t128_45 : z_ft 128 45 = some (.iload_n 1, 1, none, [], 0, 0, 0, 0) := z_ftd (by decide +kernel)
theorem t128_46 : z_ft 128 46 = some (.invokevirtual 177, 3, none, [], 59, 0, 73, 0) := z_ftd (by decide +kernel)
theorem t128_49 : z_ft 128 49 = some (.ifCond .ne 5, 3, none, [], 54, 0, 0, 0) := z_ftd (by decide +kernel)
theorem t128_52 : z_ft 128 52 = some (.iconst (-1), 1, none, [], 0, 0, 0, 0) := z_ftd (by decide +kernel)
theorem t128_53 : z_ft 128 53 = some (.ireturn, 1, none, [], 0, 0, 0, 0) := z_ftd (by decide +kernel)
theorem t128_54 : z_ft 128 54 = some (.aload_n 0, 1, none, [], 0, 0, 0, 0) := z_ftd (by decide +kernel)
theorem t128_55 : z_ft 128 55 = some (.iload_n 1, 1, none, [], 0, 0, 0, 0) := z_ftd (by decide +kernel)
theorem t128_56 : z_ft 128 56 = some (.iconst (-1), 1, none, [], 0, 0, 0, 0) := z_ftd (by decide +kernel)
theorem t128_57 : z_ft 128 57 = some (.invokevirtual 271, 3, none, [], 129, 0, 92, 0) := z_ftd (by decide +kernel)
theorem t128_60 : z_ft 128 60 = some (.istore_n 2, 1, none, [], 0, 0, 0, 0) := z_ftd (by decide +kernel)
theorem t128_61 : z_ft 128 61 = some (.bipush 100, 2, none, [], 0, 0, 0, 0) := z_ftd (by decide +kernel)
theorem t128_63 : z_ft 128 63 = some (.aload_n 0, 1, none, [], 0, 0, 0, 0) := z_ftd (by decide +kernel)
theorem t128_64 : z_ft 128 64 = some (.getfield 20, 3, none, [], 11, 2, 51, 0) := z_ftd (by decide +kernel)
theorem t128_67 : z_ft 128 67 = some (.getfield 274, 3, none, [], 6, 4, 6, 0) := z_ftd (by decide +kernel)
theorem t128_70 : z_ft 128 70 = some (.isub, 1, none, [], 0, 0, 0, 0) := z_ftd (by decide +kernel)
theorem t128_71 : z_ft 128 71 = some (.aload_n 0, 1, none, [], 0, 0, 0, 0) := z_ftd (by decide +kernel)
theorem t128_72 : z_ft 128 72 = some (.getfield 20, 3, none, [], 11, 2, 51, 0) := z_ftd (by decide +kernel)
theorem t128_75 : z_ft 128 75 = some (.getfield 153, 3, none, [], 6, 6, 8, 0) := z_ftd (by decide +kernel)
theorem t128_78 : z_ft 128 78 = some (.imul, 1, none, [], 0, 0, 0, 0) := z_ftd (by decide +kernel)
theorem t128_79 : z_ft 128 79 = some (.iload_n 2, 1, none, [], 0, 0, 0, 0) := z_ftd (by decide +kernel)
theorem t128_80 : z_ft 128 80 = some (.imul, 1, none, [], 0, 0, 0, 0) := z_ftd (by decide +kernel)
theorem t128_81 : z_ft 128 81 = some (.istore_n 3, 1, none, [], 0, 0, 0, 0) := z_ftd (by decide +kernel)
theorem t128_82 : z_ft 128 82 = some (.iconst 0, 1, none, [], 0, 0, 0, 0) := z_ftd (by decide +kernel)
theorem t128_83 : z_ft 128 83 = some (.istore 4, 2, none, [], 0, 0, 0, 0) := z_ftd (by decide +kernel)
theorem t128_85 : z_ft 128 85 = some (.iload 4, 2, (some [0, 1, 2, 3, 4]), [], 0, 0, 0, 0) := z_ftd (by decide +kernel)
theorem t128_87 : z_ft 128 87 = some (.aload_n 0, 1, none, [], 0, 0, 0, 0) := z_ftd (by decide +kernel)
theorem t128_88 : z_ft 128 88 = some (.getfield 20, 3, none, [], 11, 2, 51, 0) := z_ftd (by decide +kernel)
theorem t128_91 : z_ft 128 91 = some (.getfield 153, 3, none, [], 6, 6, 8, 0) := z_ftd (by decide +kernel)
theorem t128_94 : z_ft 128 94 = some (.if_icmp .ge 40, 3, none, [], 134, 0, 0, 0) := z_ftd (by decide +kernel)
theorem t128_97 : z_ft 128 97 = some (.iload_n 3, 1, none, [], 0, 0, 0, 0) := z_ftd (by decide +kernel)
theorem t128_98 : z_ft 128 98 = some (.aload_n 0, 1, none, [], 0, 0, 0, 0) := z_ftd (by decide +kernel)
theorem t128_99 : z_ft 128 99 = some (.getfield 20, 3, none, [], 11, 2, 51, 0) := z_ftd (by decide +kernel)
theorem t128_102 : z_ft 128 102 = some (.getfield 274, 3, none, [], 6, 4, 6, 0) := z_ftd (by decide +kernel)
theorem t128_105 : z_ft 128 105 = some (.aload_n 0, 1, none, [], 0, 0, 0, 0) := z_ftd (by decide +kernel)
theorem t128_106 : z_ft 128 106 = some (.iload 4, 2, none, [], 0, 0, 0, 0) := z_ftd (by decide +kernel)
theorem t128_108 : z_ft 128 108 = some (.invokevirtual 227, 3, none, [], 152, 0, 81, 0) := z_ftd (by decide +kernel)
theorem t128_111 : z_ft 128 111 = some (.ifCond .eq 13, 3, none, [], 124, 0, 0, 0) := z_ftd (by decide +kernel)
theorem t128_114 : z_ft 128 114 = some (.aload_n 0, 1, none, [], 0, 0, 0, 0) := z_ftd (by decide +kernel)
theorem t128_115 : z_ft 128 115 = some (.iload_n 1, 1, none, [], 0, 0, 0, 0) := z_ftd (by decide +kernel)
theorem t128_116 : z_ft 128 116 = some (.iload 4, 2, none, [], 0, 0, 0, 0) := z_ftd (by decide +kernel)
theorem t128_118 : z_ft 128 118 = some (.invokevirtual 271, 3, none, [], 129, 0, 92, 0) := z_ftd (by decide +kernel)
theorem t128_121 : z_ft 128 121 = some (.goto 4, 3, none, [], 125, 0, 0, 0) := z_ftd (by decide +kernel)
theorem t128_124 : z_ft 128 124 = some (.iload_n 2, 1, none, [], 0, 0, 0, 0) := z_ftd (by decide +kernel)
theorem t128_125 : z_ft 128 125 = some (.imul, 1, (some [0, 1, 2, 4]), [], 0, 0, 0, 0) := z_ftd (by decide +kernel)
theorem t128_126 : z_ft 128 126 = some (.iadd, 1, none, [], 0, 0, 0, 0) := z_ftd (by decide +kernel)
theorem t128_127 : z_ft 128 127 = some (.istore_n 3, 1, none, [], 0, 0, 0, 0) := z_ftd (by decide +kernel)
theorem t128_128 : z_ft 128 128 = some (.iinc 4 1, 3, none, [], 0, 0, 0, 0) := z_ftd (by decide +kernel)
theorem t128_131 : z_ft 128 131 = some (.goto (-46), 3, none, [], 85, 0, 0, 0) := z_ftd (by decide +kernel)
theorem t128_134 : z_ft 128 134 = some (.iload_n 3, 1, none, [], 0, 0, 0, 0) := z_ftd (by decide +kernel)
theorem t128_135 : z_ft 128 135 = some (.ireturn, 1, none, [], 0, 0, 0, 0) := z_ftd (by decide +kernel)
noncomputable def b128_85 (d : Nat) (y1 : Int32) (y2 : Int32) (y3 : Int32) (y4 : Int32) (S : z_S) : Option (Int32 × z_S) := zk kI z_X0 d 128 85 [.ref 0, .int y1, .int y2, .int y3, .int y4] [] S
noncomputable def b128_125 (d : Nat) (y1 : Int32) (y2 : Int32) (y4 : Int32) (s0 : Int32) (s1 : Int32) (s2 : Int32) (S : z_S) : Option (Int32 × z_S) := zk kI z_X0 d 128 125 [.ref 0, .int y1, .int y2, z_j, .int y4] [.int s0, .int s1, .int s2] S
theorem b128_85_eq (d : Nat) (y1 : Int32) (y2 : Int32) (y3 : Int32) (y4 : Int32) (S : z_S) (hW : z_W S)  : b128_85 d y1 y2 y3 y4 S = (if (gI S (gP S 0 2) 6) ≤ y4 then some (y3, S) else (zb (fI d 152 [.ref 0, .int y4] S) fun v10 S11 => (if v10 = (0 : Int32) then b128_125 d y1 y2 y4 y2 (gI S (gP S 0 2) 4) y3 S11 else (zb (fI d 129 [.ref 0, .int y1, .int y4] S11) fun v13 S14 => b128_125 d y1 y2 y4 v13 (gI S (gP S 0 2) 4) y3 S14)))) := by
  unfold b128_85
  refine (k_iload t128_85 rfl rfl).trans ?_
  refine (k_aload_n t128_87 rfl rfl).trans ?_
  refine (k_getR t128_88 rfl hW zK_0 (by decide) (by decide) (zM_0_2 hW).1).trans ?_
  refine (k_getI t128_91 rfl hW (zM_0_2 hW).2 (by decide) (by decide)).trans ?_
  refine (k_icmp_ge t128_94 rfl).trans (z_ite (fun g9 => ?_) (fun g9 => ?_))
  · refine (k_iload_n t128_134 rfl rfl).trans ?_
    exact k_ireturn t128_135 rfl (by decide)
  · refine (k_iload_n t128_97 rfl rfl).trans ?_
    refine (k_aload_n t128_98 rfl rfl).trans ?_
    refine (k_getR t128_99 rfl hW zK_0 (by decide) (by decide) (zM_0_2 hW).1).trans ?_
    refine (k_getI t128_102 rfl hW (zM_0_2 hW).2 (by decide) (by decide)).trans ?_
    refine (k_aload_n t128_105 rfl rfl).trans ?_
    refine (k_iload t128_106 rfl rfl).trans ?_
    refine k_callI (as := [.ref 0, .int y4]) (rest := [.int (gI S (gP S 0 2) 4), .int y3]) t128_108 rfl rfl (by decide) rfl rfl (Nat.le_of_ble_eq_true rfl) rfl (z_rcV hW (zK_0) (by decide)) (by decide) (Or.inr (by decide)) hW (fun v10 S11 hW11 => ?_)
    refine (k_if_eq t128_111 rfl).trans (z_ite (fun g12 => ?_) (fun g12 => ?_))
    · refine (k_iload_n t128_124 rfl rfl).trans ?_
      exact (zk_mk (ls' := [.ref 0, .int y1, .int y2, z_j, .int y4]) t128_125 rfl)
    · refine (k_aload_n t128_114 rfl rfl).trans ?_
      refine (k_iload_n t128_115 rfl rfl).trans ?_
      refine (k_iload t128_116 rfl rfl).trans ?_
      refine k_callI (as := [.ref 0, .int y1, .int y4]) (rest := [.int (gI S (gP S 0 2) 4), .int y3]) t128_118 rfl rfl (by decide) rfl rfl (Nat.le_of_ble_eq_true rfl) rfl (z_rcV hW11 (zK_0) (by decide)) (by decide) (Or.inl (by decide)) hW11 (fun v13 S14 hW14 => ?_)
      refine (k_goto t128_121 rfl).trans ?_
      exact (zk_mk (ls' := [.ref 0, .int y1, .int y2, z_j, .int y4]) t128_125 rfl)
theorem b128_125_eq (d : Nat) (y1 : Int32) (y2 : Int32) (y4 : Int32) (s0 : Int32) (s1 : Int32) (s2 : Int32) (S : z_S) (hW : z_W S)  : b128_125 d y1 y2 y4 s0 s1 s2 S = b128_85 d y1 y2 (s2 + (s1 * s0)) (y4 + (1 : Int32)) S := by
  unfold b128_125
  refine (k_imul t128_125 rfl).trans ?_
  refine (k_iadd t128_126 rfl).trans ?_
  refine (k_istore_n (ls' := [.ref 0, .int y1, .int y2, .int (s2 + (s1 * s0)), .int y4]) t128_127 rfl rfl).trans ?_
  refine (k_iinc (b := (y4 + (1 : Int32))) (ls' := [.ref 0, .int y1, .int y2, .int (s2 + (s1 * s0)), .int (y4 + (1 : Int32))]) t128_128 rfl rfl (by rw [zci_1]) rfl).trans ?_
  refine (k_goto t128_131 rfl).trans ?_
  exact (zk_mk (ls' := [.ref 0, .int y1, .int y2, .int (s2 + (s1 * s0)), .int (y4 + (1 : Int32))]) t128_85 rfl)
-- X11_odds
theorem e128 (d : Nat) (x1 : Int32) (S : z_S) (hW : z_W S)  : fI (d + 1) 128 [.ref 0, .int x1] S = (if (gI S (gP S 0 2) 6) = (0 : Int32) then some ((-1 : Int32), S) else (if (gI S 27 0) < (999 : Int32) then (if ¬ x1 = (-1 : Int32) then (zb (fI d 59 [.ref (gP S 0 2), .int x1] S) fun v4 S5 => (if ¬ v4 = (0 : Int32) then (zb (fI d 129 [.ref 0, .int x1, .int (-1 : Int32)] S5) fun v7 S8 => b128_85 d x1 v7 ((((100 : Int32) - (gI S8 (gP S8 0 2) 4)) * (gI S8 (gP S8 0 2) 6)) * v7) (0 : Int32) S8) else some ((-1 : Int32), S5))) else some (((100 : Int32) * (gI S (gP S 0 2) 6)), S)) else some ((-1 : Int32), S))) := by
  refine (fI_en (Nat.le_of_ble_eq_true rfl) rfl).trans ?_
  refine (k_aload_n t128_0 rfl rfl).trans ?_
  refine (k_getR t128_1 rfl hW zK_0 (by decide) (by decide) (zM_0_2 hW).1).trans ?_
  refine (k_getI t128_4 rfl hW (zM_0_2 hW).2 (by decide) (by decide)).trans ?_
  refine (k_if_eq t128_7 rfl).trans (z_ite (fun g1 => ?_) (fun g1 => ?_))
  · refine (zk_mk (ls' := [z_j, z_j, z_j, z_j, z_j]) t128_23 rfl).trans ?_
    refine (k_iconst t128_23 rfl zci_m1).trans ?_
    exact k_ireturn t128_24 rfl (by decide)
  · refine (k_aload_n t128_10 rfl rfl).trans ?_
    refine (k_getR t128_11 rfl hW zK_0 (by decide) (by decide) (zF_0_6 hW)).trans ?_
    refine (k_getI t128_14 rfl hW zK_27 (by decide) (by decide)).trans ?_
    refine (k_sipush t128_17 rfl zcs_999).trans ?_
    refine (k_icmp_lt t128_20 rfl).trans (z_ite (fun g2 => ?_) (fun g2 => ?_))
    · refine (k_iload_n t128_25 rfl rfl).trans ?_
      refine (k_iconst t128_26 rfl zci_m1).trans ?_
      refine (k_icmp_ne t128_27 rfl).trans (z_ite (fun g3 => ?_) (fun g3 => ?_))
      · refine (k_aload_n t128_41 rfl rfl).trans ?_
        refine (k_getR t128_42 rfl hW zK_0 (by decide) (by decide) (zM_0_2 hW).1).trans ?_
        refine (k_iload_n t128_45 rfl rfl).trans ?_
        refine k_callI (as := [.ref (gP S 0 2), .int x1]) (rest := []) t128_46 rfl rfl (by decide) rfl rfl (Nat.le_of_ble_eq_true rfl) rfl (z_rcV hW ((zM_0_2 hW).2) (by decide)) (by decide) (Or.inr (by decide)) hW (fun v4 S5 hW5 => ?_)
        refine (k_if_ne t128_49 rfl).trans (z_ite (fun g6 => ?_) (fun g6 => ?_))
        · refine (k_aload_n t128_54 rfl rfl).trans ?_
          refine (k_iload_n t128_55 rfl rfl).trans ?_
          refine (k_iconst t128_56 rfl zci_m1).trans ?_
          refine k_callI (as := [.ref 0, .int x1, .int (-1 : Int32)]) (rest := []) t128_57 rfl rfl (by decide) rfl rfl (Nat.le_of_ble_eq_true rfl) rfl (z_rcV hW5 (zK_0) (by decide)) (by decide) (Or.inl (by decide)) hW5 (fun v7 S8 hW8 => ?_)
          refine (k_istore_n (ls' := [.ref 0, .int x1, .int v7, z_j, z_j]) t128_60 rfl rfl).trans ?_
          refine (k_bipush t128_61 rfl zcb_100).trans ?_
          refine (k_aload_n t128_63 rfl rfl).trans ?_
          refine (k_getR t128_64 rfl hW8 zK_0 (by decide) (by decide) (zM_0_2 hW8).1).trans ?_
          refine (k_getI t128_67 rfl hW8 (zM_0_2 hW8).2 (by decide) (by decide)).trans ?_
          refine (k_isub t128_70 rfl).trans ?_
          refine (k_aload_n t128_71 rfl rfl).trans ?_
          refine (k_getR t128_72 rfl hW8 zK_0 (by decide) (by decide) (zM_0_2 hW8).1).trans ?_
          refine (k_getI t128_75 rfl hW8 (zM_0_2 hW8).2 (by decide) (by decide)).trans ?_
          refine (k_imul t128_78 rfl).trans ?_
          refine (k_iload_n t128_79 rfl rfl).trans ?_
          refine (k_imul t128_80 rfl).trans ?_
          refine (k_istore_n (ls' := [.ref 0, .int x1, .int v7, .int ((((100 : Int32) - (gI S8 (gP S8 0 2) 4)) * (gI S8 (gP S8 0 2) 6)) * v7), z_j]) t128_81 rfl rfl).trans ?_
          refine (k_iconst t128_82 rfl zci_0).trans ?_
          refine (k_istore (ls' := [.ref 0, .int x1, .int v7, .int ((((100 : Int32) - (gI S8 (gP S8 0 2) 4)) * (gI S8 (gP S8 0 2) 6)) * v7), .int (0 : Int32)]) t128_83 rfl rfl).trans ?_
          exact (zk_mk (ls' := [.ref 0, .int x1, .int v7, .int ((((100 : Int32) - (gI S8 (gP S8 0 2) 4)) * (gI S8 (gP S8 0 2) 6)) * v7), .int (0 : Int32)]) t128_85 rfl)
        · refine (k_iconst t128_52 rfl zci_m1).trans ?_
          exact k_ireturn t128_53 rfl (by decide)
      · refine (k_bipush t128_30 rfl zcb_100).trans ?_
        refine (k_aload_n t128_32 rfl rfl).trans ?_
        refine (k_getR t128_33 rfl hW zK_0 (by decide) (by decide) (zM_0_2 hW).1).trans ?_
        refine (k_getI t128_36 rfl hW (zM_0_2 hW).2 (by decide) (by decide)).trans ?_
        refine (k_imul t128_39 rfl).trans ?_
        exact k_ireturn t128_40 rfl (by decide)
    · refine (zk_mk (ls' := [z_j, z_j, z_j, z_j, z_j]) t128_23 rfl).trans ?_
      refine (k_iconst t128_23 rfl zci_m1).trans ?_
      exact k_ireturn t128_24 rfl (by decide)
theorem t129_0 : z_ft 129 0 = some (.aload_n 0, 1, none, [], 0, 0, 0, 0) := z_ftd (by decide +kernel)
theorem t129_1 : z_ft 129 1 = some (.getfield 50, 3, none, [], 11, 7, 56, 0) := z_ftd (by decide +kernel)
theorem t129_4 : z_ft 129 4 = some (.aload_n 0, 1, none, [], 0, 0, 0, 0) := z_ftd (by decide +kernel)
theorem t129_5 : z_ft 129 5 = some (.getfield 46, 3, none, [], 11, 6, 55, 0) := z_ftd (by decide +kernel)
theorem t129_8 : z_ft 129 8 = some (.invokevirtual 230, 3, none, [], 75, 0, 82, 0) := z_ftd (by decide +kernel)
theorem t129_11 : z_ft 129 11 = some (.iload_n 2, 1, none, [], 0, 0, 0, 0) := z_ftd (by decide +kernel)
theorem t129_12 : z_ft 129 12 = some (.iconst (-1), 1, none, [], 0, 0, 0, 0) := z_ftd (by decide +kernel)
theorem t129_13 : z_ft 129 13 = some (.if_icmp .eq 23, 3, none, [], 36, 0, 0, 0) := z_ftd (by decide +kernel)
theorem t129_16 : z_ft 129 16 = some (.aload_n 0, 1, none, [], 0, 0, 0, 0) := z_ftd (by decide +kernel)
theorem t129_17 : z_ft 129 17 = some (.getfield 39, 3, none, [], 11, 5, 54, 0) := z_ftd (by decide +kernel)
theorem t129_20 : z_ft 129 20 = some (.aload_n 0, 1, none, [], 0, 0, 0, 0) := z_ftd (by decide +kernel)
theorem t129_21 : z_ft 129 21 = some (.getfield 50, 3, none, [], 11, 7, 56, 0) := z_ftd (by decide +kernel)
theorem t129_24 : z_ft 129 24 = some (.iload_n 2, 1, none, [], 0, 0, 0, 0) := z_ftd (by decide +kernel)
theorem t129_25 : z_ft 129 25 = some (.aload_n 0, 1, none, [], 0, 0, 0, 0) := z_ftd (by decide +kernel)
theorem t129_26 : z_ft 129 26 = some (.getfield 20, 3, none, [], 11, 2, 51, 0) := z_ftd (by decide +kernel)
theorem t129_29 : z_ft 129 29 = some (.getfield 144, 3, none, [], 6, 3, 5, 0) := z_ftd (by decide +kernel)
theorem t129_32 : z_ft 129 32 = some (.invokevirtual 146, 3, none, [], 32, 0, 71, 0) := z_ftd (by decide +kernel)
theorem t129_35 : z_ft 129 35 = some (.pop, 1, none, [], 0, 0, 0, 0) := z_ftd (by decide +kernel)
theorem t129_36 : z_ft 129 36 = some (.aload_n 0, 1, (some [0, 1]), [], 0, 0, 0, 0) := z_ftd (by decide +kernel)
theorem t129_37 : z_ft 129 37 = some (.getfield 39, 3, none, [], 11, 5, 54, 0) := z_ftd (by decide +kernel)
theorem t129_40 : z_ft 129 40 = some (.aload_n 0, 1, none, [], 0, 0, 0, 0) := z_ftd (by decide +kernel)
theorem t129_41 : z_ft 129 41 = some (.getfield 50, 3, none, [], 11, 7, 56, 0) := z_ftd (by decide +kernel)
theorem t129_44 : z_ft 129 44 = some (.iconst 0, 1, none, [], 0, 0, 0, 0) := z_ftd (by decide +kernel)
theorem t129_45 : z_ft 129 45 = some (.invokevirtual 240, 3, none, [], 35, 0, 84, 0) := z_ftd (by decide +kernel)
theorem t129_48 : z_ft 129 48 = some (.pop, 1, none, [], 0, 0, 0, 0) := z_ftd (by decide +kernel)
theorem t129_49 : z_ft 129 49 = some (.aload_n 0, 1, none, [], 0, 0, 0, 0) := z_ftd (by decide +kernel)
theorem t129_50 : z_ft 129 50 = some (.getfield 50, 3, none, [], 11, 7, 56, 0) := z_ftd (by decide +kernel)
theorem t129_53 : z_ft 129 53 = some (.iload_n 1, 1, none, [], 0, 0, 0, 0) := z_ftd (by decide +kernel)
theorem t129_54 : z_ft 129 54 = some (.invokevirtual 212, 3, none, [], 77, 0, 79, 0) := z_ftd (by decide +kernel)
theorem t129_57 : z_ft 129 57 = some (.ifCond .eq 7, 3, none, [], 64, 0, 0, 0) := z_ftd (by decide +kernel)
theorem t129_60 : z_ft 129 60 = some (.iconst 1, 1, none, [], 0, 0, 0, 0) := z_ftd (by decide +kernel)
theorem t129_61 : z_ft 129 61 = some (.goto 4, 3, none, [], 65, 0, 0, 0) := z_ftd (by decide +kernel)
theorem t129_64 : z_ft 129 64 = some (.iconst 0, 1, none, [], 0, 0, 0, 0) := z_ftd (by decide +kernel)
theorem t129_65 : z_ft 129 65 = some (.ireturn, 1, (some []), [], 0, 0, 0, 0) := z_ftd (by decide +kernel)
noncomputable def b129_36 (d : Nat) (y1 : Int32) (S : z_S) : Option (Int32 × z_S) := zk kI z_X0 d 129 36 [.ref 0, .int y1, z_j] [] S
theorem b129_36_eq (d : Nat) (y1 : Int32) (S : z_S) (hW : z_W S)  : b129_36 d y1 S = (zb (fI d 35 [.ref 22, .ref 32, .int (0 : Int32)] S) fun v6 S7 => (zb (fI d 77 [.ref 32, .int y1] S7) fun v8 S9 => (if v8 = (0 : Int32) then some ((0 : Int32), S9) else some ((1 : Int32), S9)))) := by
  unfold b129_36
  refine (k_aload_n t129_36 rfl rfl).trans ?_
  refine (k_getR t129_37 rfl hW zK_0 (by decide) (by decide) (zF_0_5 hW)).trans ?_
  refine (k_aload_n t129_40 rfl rfl).trans ?_
  refine (k_getR t129_41 rfl hW zK_0 (by decide) (by decide) (zF_0_7 hW)).trans ?_
  refine (k_iconst t129_44 rfl zci_0).trans ?_
  refine k_callI (as := [.ref 22, .ref 32, .int (0 : Int32)]) (rest := []) t129_45 rfl rfl (by decide) rfl rfl (Nat.le_of_ble_eq_true rfl) rfl (z_rcV hW (zK_22) (by decide)) (by decide) (Or.inl (by decide)) hW (fun v6 S7 hW7 => ?_)
  refine (k_popI t129_48 rfl).trans ?_
  refine (k_aload_n t129_49 rfl rfl).trans ?_
  refine (k_getR t129_50 rfl hW7 zK_0 (by decide) (by decide) (zF_0_7 hW7)).trans ?_
  refine (k_iload_n t129_53 rfl rfl).trans ?_
  refine k_callI (as := [.ref 32, .int y1]) (rest := []) t129_54 rfl rfl (by decide) rfl rfl (Nat.le_of_ble_eq_true rfl) rfl (z_rcV hW7 (zK_32) (by decide)) (by decide) (Or.inr (by decide)) hW7 (fun v8 S9 hW9 => ?_)
  refine (k_if_eq t129_57 rfl).trans (z_ite (fun g10 => ?_) (fun g10 => ?_))
  · refine (k_iconst t129_64 rfl zci_0).trans ?_
    refine (zk_mk (ls' := [z_j, z_j, z_j]) t129_65 rfl).trans ?_
    exact k_ireturn t129_65 rfl (by decide)
  · refine (k_iconst t129_60 rfl zci_1).trans ?_
    refine (k_goto t129_61 rfl).trans ?_
    refine (zk_mk (ls' := [z_j, z_j, z_j]) t129_65 rfl).trans ?_
    exact k_ireturn t129_65 rfl (by decide)
-- X11_sleepsAfterKnock
theorem e129 (d : Nat) (x1 : Int32) (x2 : Int32) (S : z_S) (hW : z_W S)  : fI (d + 1) 129 [.ref 0, .int x1, .int x2] S = ((fV d 75 [.ref 32, .ref 27] S).bind fun S2 => (if x2 = (-1 : Int32) then b129_36 d x1 S2 else (zb (fI d 32 [.ref 22, .ref 32, .int x2, .int (gI S2 (gP S2 0 2) 3)] S2) fun v4 S5 => b129_36 d x1 S5))) := by
  refine (fI_en (Nat.le_of_ble_eq_true rfl) rfl).trans ?_
  refine (k_aload_n t129_0 rfl rfl).trans ?_
  refine (k_getR t129_1 rfl hW zK_0 (by decide) (by decide) (zF_0_7 hW)).trans ?_
  refine (k_aload_n t129_4 rfl rfl).trans ?_
  refine (k_getR t129_5 rfl hW zK_0 (by decide) (by decide) (zF_0_6 hW)).trans ?_
  refine k_callV (as := [.ref 32, .ref 27]) (rest := []) t129_8 rfl rfl (by decide) rfl rfl (Nat.le_of_ble_eq_true rfl) rfl (z_rcV hW (zK_32) (by decide)) (by decide) (by decide) hW (fun S2 hW2 => ?_)
  refine (k_iload_n t129_11 rfl rfl).trans ?_
  refine (k_iconst t129_12 rfl zci_m1).trans ?_
  refine (k_icmp_eq t129_13 rfl).trans (z_ite (fun g3 => ?_) (fun g3 => ?_))
  · exact (zk_mk (ls' := [.ref 0, .int x1, z_j]) t129_36 rfl)
  · refine (k_aload_n t129_16 rfl rfl).trans ?_
    refine (k_getR t129_17 rfl hW2 zK_0 (by decide) (by decide) (zF_0_5 hW2)).trans ?_
    refine (k_aload_n t129_20 rfl rfl).trans ?_
    refine (k_getR t129_21 rfl hW2 zK_0 (by decide) (by decide) (zF_0_7 hW2)).trans ?_
    refine (k_iload_n t129_24 rfl rfl).trans ?_
    refine (k_aload_n t129_25 rfl rfl).trans ?_
    refine (k_getR t129_26 rfl hW2 zK_0 (by decide) (by decide) (zM_0_2 hW2).1).trans ?_
    refine (k_getI t129_29 rfl hW2 (zM_0_2 hW2).2 (by decide) (by decide)).trans ?_
    refine k_callI (as := [.ref 22, .ref 32, .int x2, .int (gI S2 (gP S2 0 2) 3)]) (rest := []) t129_32 rfl rfl (by decide) rfl rfl (Nat.le_of_ble_eq_true rfl) rfl (z_rcV hW2 (zK_22) (by decide)) (by decide) (Or.inl (by decide)) hW2 (fun v4 S5 hW5 => ?_)
    refine (k_popI t129_35 rfl).trans ?_
    exact (zk_mk (ls' := [.ref 0, .int x1, z_j]) t129_36 rfl)
theorem t130_0 : z_ft 130 0 = some (.aload_n 0, 1, none, [], 0, 0, 0, 0) := z_ftd (by decide +kernel)
theorem t130_1 : z_ft 130 1 = some (.getfield 70, 3, none, [], 11, 10, 59, 0) := z_ftd (by decide +kernel)
theorem t130_4 : z_ft 130 4 = some (.aload_n 0, 1, none, [], 0, 0, 0, 0) := z_ftd (by decide +kernel)
theorem t130_5 : z_ft 130 5 = some (.getfield 9, 3, none, [], 11, 0, 49, 0) := z_ftd (by decide +kernel)
theorem t130_8 : z_ft 130 8 = some (.aload_n 0, 1, none, [], 0, 0, 0, 0) := z_ftd (by decide +kernel)
theorem t130_9 : z_ft 130 9 = some (.getfield 13, 3, none, [], 11, 1, 50, 0) := z_ftd (by decide +kernel)
theorem t130_12 : z_ft 130 12 = some (.aload_n 0, 1, none, [], 0, 0, 0, 0) := z_ftd (by decide +kernel)
theorem t130_13 : z_ft 130 13 = some (.getfield 20, 3, none, [], 11, 2, 51, 0) := z_ftd (by decide +kernel)
theorem t130_16 : z_ft 130 16 = some (.invokevirtual 277, 3, none, [], 84, 0, 93, 0) := z_ftd (by decide +kernel)
theorem t130_19 : z_ft 130 19 = some (.istore_n 1, 1, none, [], 0, 0, 0, 0) := z_ftd (by decide +kernel)
theorem t130_20 : z_ft 130 20 = some (.aload_n 0, 1, none, [], 0, 0, 0, 0) := z_ftd (by decide +kernel)
theorem t130_21 : z_ft 130 21 = some (.iconst 0, 1, none, [], 0, 0, 0, 0) := z_ftd (by decide +kernel)
theorem t130_22 : z_ft 130 22 = some (.putfield 13, 3, none, [], 11, 1, 50, 0) := z_ftd (by decide +kernel)
theorem t130_25 : z_ft 130 25 = some (.iload_n 1, 1, none, [], 0, 0, 0, 0) := z_ftd (by decide +kernel)
theorem t130_26 : z_ft 130 26 = some (.ifCond .eq 13, 3, none, [], 39, 0, 0, 0) := z_ftd (by decide +kernel)
theorem t130_29 : z_ft 130 29 = some (.aload_n 0, 1, none, [], 0, 0, 0, 0) := z_ftd (by decide +kernel)
theorem t130_30 : z_ft 130 30 = some (.getfield 70, 3, none, [], 11, 10, 59, 0) := z_ftd (by decide +kernel)
theorem t130_33 : z_ft 130 33 = some (.getfield 135, 3, none, [], 9, 0, 41, 0) := z_ftd (by decide +kernel)
theorem t130_36 : z_ft 130 36 = some (.goto 8, 3, none, [], 44, 0, 0, 0) := z_ftd (by decide +kernel)
theorem t130_39 : z_ft 130 39 = some (.aload_n 0, 1, none, [], 0, 0, 0, 0) := z_ftd (by decide +kernel)
theorem t130_40 : z_ft 130 40 = some (.iconst 5, 1, none, [], 0, 0, 0, 0) := z_ftd (by decide +kernel)
theorem t130_41 : z_ft 130 41 = some (.invokevirtual 100, 3, none, [], 150, 0, 66, 0) := z_ftd (by decide +kernel)
theorem t130_44 : z_ft 130 44 = some (.ireturn, 1, (some []), [], 0, 0, 0, 0) := z_ftd (by decide +kernel)
-- X11_meet
theorem e130 (d : Nat)  (S : z_S) (hW : z_W S)  : fI (d + 1) 130 [.ref 0] S = (zb (fI d 84 [.ref 182, .ref 1, .int (gI S 0 1), .ref (gP S 0 2)] S) fun v1 S2 => (if v1 = (0 : Int32) then (zb (fI d 150 [.ref 0, .int (5 : Int32)] (sI S2 0 1 (0 : Int32))) fun v4 S5 => some (v4, S5)) else some ((gI (sI S2 0 1 (0 : Int32)) 182 0), sI S2 0 1 (0 : Int32)))) := by
  refine (fI_en (Nat.le_of_ble_eq_true rfl) rfl).trans ?_
  refine (k_aload_n t130_0 rfl rfl).trans ?_
  refine (k_getR t130_1 rfl hW zK_0 (by decide) (by decide) (zF_0_10 hW)).trans ?_
  refine (k_aload_n t130_4 rfl rfl).trans ?_
  refine (k_getR t130_5 rfl hW zK_0 (by decide) (by decide) (zF_0_0 hW)).trans ?_
  refine (k_aload_n t130_8 rfl rfl).trans ?_
  refine (k_getI t130_9 rfl hW zK_0 (by decide) (by decide)).trans ?_
  refine (k_aload_n t130_12 rfl rfl).trans ?_
  refine (k_getR t130_13 rfl hW zK_0 (by decide) (by decide) (zM_0_2 hW).1).trans ?_
  refine k_callI (as := [.ref 182, .ref 1, .int (gI S 0 1), .ref (gP S 0 2)]) (rest := []) t130_16 rfl rfl (by decide) rfl rfl (Nat.le_of_ble_eq_true rfl) rfl (z_rcV hW (zK_182) (by decide)) (by decide) (Or.inr (by decide)) hW (fun v1 S2 hW2 => ?_)
  refine (k_istore_n (ls' := [.ref 0, .int v1]) t130_19 rfl rfl).trans ?_
  refine (k_aload_n t130_20 rfl rfl).trans ?_
  refine (k_iconst t130_21 rfl zci_0).trans ?_
  refine (k_putI t130_22 rfl hW2 zK_0 (by decide) (by decide) (by decide)).trans ?_
  refine (k_iload_n t130_25 rfl rfl).trans ?_
  refine (k_if_eq t130_26 rfl).trans (z_ite (fun g3 => ?_) (fun g3 => ?_))
  · refine (k_aload_n t130_39 rfl rfl).trans ?_
    refine (k_iconst t130_40 rfl zci_5).trans ?_
    refine k_callI (as := [.ref 0, .int (5 : Int32)]) (rest := []) t130_41 rfl rfl (by decide) rfl rfl (Nat.le_of_ble_eq_true rfl) rfl (z_rcV hW2.sI (zK_0) (by decide)) (by decide) (Or.inl (by decide)) hW2.sI (fun v4 S5 hW5 => ?_)
    refine (zk_mk (ls' := [z_j, z_j]) t130_44 rfl).trans ?_
    exact k_ireturn t130_44 rfl (by decide)
  · refine (k_aload_n t130_29 rfl rfl).trans ?_
    refine (k_getR t130_30 rfl hW2.sI zK_0 (by decide) (by decide) (zF_0_10 hW2.sI)).trans ?_
    refine (k_getI t130_33 rfl hW2.sI zK_182 (by decide) (by decide)).trans ?_
    refine (k_goto t130_36 rfl).trans ?_
    refine (zk_mk (ls' := [z_j, z_j]) t130_44 rfl).trans ?_
    exact k_ireturn t130_44 rfl (by decide)
theorem t131_0 : z_ft 131 0 = some (.aload_n 0, 1, none, [], 0, 0, 0, 0) := z_ftd (by decide +kernel)
theorem t131_1 : z_ft 131 1 = some (.iload_n 1, 1, none, [], 0, 0, 0, 0) := z_ftd (by decide +kernel)
theorem t131_2 : z_ft 131 2 = some (.invokevirtual 227, 3, none, [], 152, 0, 81, 0) := z_ftd (by decide +kernel)
theorem t131_5 : z_ft 131 5 = some (.ifCond .ne 5, 3, none, [], 10, 0, 0, 0) := z_ftd (by decide +kernel)
theorem t131_8 : z_ft 131 8 = some (.iconst (-1), 1, none, [], 0, 0, 0, 0) := z_ftd (by decide +kernel)
theorem t131_9 : z_ft 131 9 = some (.ireturn, 1, none, [], 0, 0, 0, 0) := z_ftd (by decide +kernel)
theorem t131_10 : z_ft 131 10 = some (.aload_n 0, 1, none, [], 0, 0, 0, 0) := z_ftd (by decide +kernel)
theorem t131_11 : z_ft 131 11 = some (.getfield 70, 3, none, [], 11, 10, 59, 0) := z_ftd (by decide +kernel)
theorem t131_14 : z_ft 131 14 = some (.aload_n 0, 1, none, [], 0, 0, 0, 0) := z_ftd (by decide +kernel)
theorem t131_15 : z_ft 131 15 = some (.getfield 39, 3, none, [], 11, 5, 54, 0) := z_ftd (by decide +kernel)
theorem t131_18 : z_ft 131 18 = some (.aload_n 0, 1, none, [], 0, 0, 0, 0) := z_ftd (by decide +kernel)
theorem t131_19 : z_ft 131 19 = some (.getfield 46, 3, none, [], 11, 6, 55, 0) := z_ftd (by decide +kernel)
theorem t131_22 : z_ft 131 22 = some (.iload_n 1, 1, none, [], 0, 0, 0, 0) := z_ftd (by decide +kernel)
theorem t131_23 : z_ft 131 23 = some (.invokevirtual 280, 3, none, [], 85, 0, 94, 0) := z_ftd (by decide +kernel)
theorem t131_26 : z_ft 131 26 = some (.iload_n 2, 1, none, [], 0, 0, 0, 0) := z_ftd (by decide +kernel)
theorem t131_27 : z_ft 131 27 = some (.iconst (-1), 1, none, [], 0, 0, 0, 0) := z_ftd (by decide +kernel)
theorem t131_28 : z_ft 131 28 = some (.if_icmp .ne 13, 3, none, [], 41, 0, 0, 0) := z_ftd (by decide +kernel)
theorem t131_31 : z_ft 131 31 = some (.aload_n 0, 1, none, [], 0, 0, 0, 0) := z_ftd (by decide +kernel)
theorem t131_32 : z_ft 131 32 = some (.getfield 70, 3, none, [], 11, 10, 59, 0) := z_ftd (by decide +kernel)
theorem t131_35 : z_ft 131 35 = some (.invokevirtual 284, 3, none, [], 91, 0, 95, 0) := z_ftd (by decide +kernel)
theorem t131_38 : z_ft 131 38 = some (.goto 11, 3, none, [], 49, 0, 0, 0) := z_ftd (by decide +kernel)
theorem t131_41 : z_ft 131 41 = some (.aload_n 0, 1, none, [], 0, 0, 0, 0) := z_ftd (by decide +kernel)
theorem t131_42 : z_ft 131 42 = some (.getfield 70, 3, none, [], 11, 10, 59, 0) := z_ftd (by decide +kernel)
theorem t131_45 : z_ft 131 45 = some (.iload_n 2, 1, none, [], 0, 0, 0, 0) := z_ftd (by decide +kernel)
theorem t131_46 : z_ft 131 46 = some (.invokevirtual 288, 3, none, [], 92, 0, 96, 0) := z_ftd (by decide +kernel)
theorem t131_49 : z_ft 131 49 = some (.ireturn, 1, (some []), [], 0, 0, 0, 0) := z_ftd (by decide +kernel)
-- X11_stepped
theorem e131 (d : Nat) (x1 : Int32) (x2 : Int32) (S : z_S) (hW : z_W S)  : fI (d + 1) 131 [.ref 0, .int x1, .int x2] S = (zb (fI d 152 [.ref 0, .int x1] S) fun v1 S2 => (if ¬ v1 = (0 : Int32) then ((fV d 85 [.ref 182, .ref 22, .ref 27, .int x1] S2).bind fun S5 => (if ¬ x2 = (-1 : Int32) then (zb (fI d 92 [.ref 182, .int x2] S5) fun v7 S8 => some (v7, S8)) else (zb (fI d 91 [.ref 182] S5) fun v9 S10 => some (v9, S10)))) else some ((-1 : Int32), S2))) := by
  refine (fI_en (Nat.le_of_ble_eq_true rfl) rfl).trans ?_
  refine (k_aload_n t131_0 rfl rfl).trans ?_
  refine (k_iload_n t131_1 rfl rfl).trans ?_
  refine k_callI (as := [.ref 0, .int x1]) (rest := []) t131_2 rfl rfl (by decide) rfl rfl (Nat.le_of_ble_eq_true rfl) rfl (z_rcV hW (zK_0) (by decide)) (by decide) (Or.inr (by decide)) hW (fun v1 S2 hW2 => ?_)
  refine (k_if_ne t131_5 rfl).trans (z_ite (fun g3 => ?_) (fun g3 => ?_))
  · refine (k_aload_n t131_10 rfl rfl).trans ?_
    refine (k_getR t131_11 rfl hW2 zK_0 (by decide) (by decide) (zF_0_10 hW2)).trans ?_
    refine (k_aload_n t131_14 rfl rfl).trans ?_
    refine (k_getR t131_15 rfl hW2 zK_0 (by decide) (by decide) (zF_0_5 hW2)).trans ?_
    refine (k_aload_n t131_18 rfl rfl).trans ?_
    refine (k_getR t131_19 rfl hW2 zK_0 (by decide) (by decide) (zF_0_6 hW2)).trans ?_
    refine (k_iload_n t131_22 rfl rfl).trans ?_
    refine k_callV (as := [.ref 182, .ref 22, .ref 27, .int x1]) (rest := []) t131_23 rfl rfl (by decide) rfl rfl (Nat.le_of_ble_eq_true rfl) rfl (z_rcV hW2 (zK_182) (by decide)) (by decide) (by decide) hW2 (fun S5 hW5 => ?_)
    refine (k_iload_n t131_26 rfl rfl).trans ?_
    refine (k_iconst t131_27 rfl zci_m1).trans ?_
    refine (k_icmp_ne t131_28 rfl).trans (z_ite (fun g6 => ?_) (fun g6 => ?_))
    · refine (k_aload_n t131_41 rfl rfl).trans ?_
      refine (k_getR t131_42 rfl hW5 zK_0 (by decide) (by decide) (zF_0_10 hW5)).trans ?_
      refine (k_iload_n t131_45 rfl rfl).trans ?_
      refine k_callI (as := [.ref 182, .int x2]) (rest := []) t131_46 rfl rfl (by decide) rfl rfl (Nat.le_of_ble_eq_true rfl) rfl (z_rcV hW5 (zK_182) (by decide)) (by decide) (Or.inl (by decide)) hW5 (fun v7 S8 hW8 => ?_)
      refine (zk_mk (ls' := [z_j, z_j, z_j]) t131_49 rfl).trans ?_
      exact k_ireturn t131_49 rfl (by decide)
    · refine (k_aload_n t131_31 rfl rfl).trans ?_
      refine (k_getR t131_32 rfl hW5 zK_0 (by decide) (by decide) (zF_0_10 hW5)).trans ?_
      refine k_callI (as := [.ref 182]) (rest := []) t131_35 rfl rfl (by decide) rfl rfl (Nat.le_of_ble_eq_true rfl) rfl (z_rcV hW5 (zK_182) (by decide)) (by decide) (Or.inl (by decide)) hW5 (fun v9 S10 hW10 => ?_)
      refine (k_goto t131_38 rfl).trans ?_
      refine (zk_mk (ls' := [z_j, z_j, z_j]) t131_49 rfl).trans ?_
      exact k_ireturn t131_49 rfl (by decide)
  · refine (k_iconst t131_8 rfl zci_m1).trans ?_
    exact k_ireturn t131_9 rfl (by decide)
theorem t132_0 : z_ft 132 0 = some (.aload_n 0, 1, none, [], 0, 0, 0, 0) := z_ftd (by decide +kernel)
theorem t132_1 : z_ft 132 1 = some (.iload_n 1, 1, none, [], 0, 0, 0, 0) := z_ftd (by decide +kernel)
theorem t132_2 : z_ft 132 2 = some (.invokevirtual 227, 3, none, [], 152, 0, 81, 0) := z_ftd (by decide +kernel)
theorem t132_5 : z_ft 132 5 = some (.ifCond .eq 12, 3, none, [], 17, 0, 0, 0) := z_ftd (by decide +kernel)
theorem t132_8 : z_ft 132 8 = some (.iload_n 2, 1, none, [], 0, 0, 0, 0) := z_ftd (by decide +kernel)
theorem t132_9 : z_ft 132 9 = some (.ifCond .lt 8, 3, none, [], 17, 0, 0, 0) := z_ftd (by decide +kernel)
theorem t132_12 : z_ft 132 12 = some (.iload_n 2, 1, none, [], 0, 0, 0, 0) := z_ftd (by decide +kernel)
theorem t132_13 : z_ft 132 13 = some (.iconst 2, 1, none, [], 0, 0, 0, 0) := z_ftd (by decide +kernel)
theorem t132_14 : z_ft 132 14 = some (.if_icmp .le 5, 3, none, [], 19, 0, 0, 0) := z_ftd (by decide +kernel)
theorem t132_17 : z_ft 132 17 = some (.iconst (-1), 1, (some []), [], 0, 0, 0, 0) := z_ftd (by decide +kernel)
theorem t132_18 : z_ft 132 18 = some (.ireturn, 1, none, [], 0, 0, 0, 0) := z_ftd (by decide +kernel)
theorem t132_19 : z_ft 132 19 = some (.aload_n 0, 1, none, [], 0, 0, 0, 0) := z_ftd (by decide +kernel)
theorem t132_20 : z_ft 132 20 = some (.getfield 70, 3, none, [], 11, 10, 59, 0) := z_ftd (by decide +kernel)
theorem t132_23 : z_ft 132 23 = some (.aload_n 0, 1, none, [], 0, 0, 0, 0) := z_ftd (by decide +kernel)
theorem t132_24 : z_ft 132 24 = some (.getfield 39, 3, none, [], 11, 5, 54, 0) := z_ftd (by decide +kernel)
theorem t132_27 : z_ft 132 27 = some (.aload_n 0, 1, none, [], 0, 0, 0, 0) := z_ftd (by decide +kernel)
theorem t132_28 : z_ft 132 28 = some (.getfield 46, 3, none, [], 11, 6, 55, 0) := z_ftd (by decide +kernel)
theorem t132_31 : z_ft 132 31 = some (.iload_n 1, 1, none, [], 0, 0, 0, 0) := z_ftd (by decide +kernel)
theorem t132_32 : z_ft 132 32 = some (.invokevirtual 280, 3, none, [], 85, 0, 94, 0) := z_ftd (by decide +kernel)
theorem t132_35 : z_ft 132 35 = some (.aload_n 0, 1, none, [], 0, 0, 0, 0) := z_ftd (by decide +kernel)
theorem t132_36 : z_ft 132 36 = some (.getfield 70, 3, none, [], 11, 10, 59, 0) := z_ftd (by decide +kernel)
theorem t132_39 : z_ft 132 39 = some (.aload_n 0, 1, none, [], 0, 0, 0, 0) := z_ftd (by decide +kernel)
theorem t132_40 : z_ft 132 40 = some (.getfield 39, 3, none, [], 11, 5, 54, 0) := z_ftd (by decide +kernel)
theorem t132_43 : z_ft 132 43 = some (.aload_n 0, 1, none, [], 0, 0, 0, 0) := z_ftd (by decide +kernel)
theorem t132_44 : z_ft 132 44 = some (.getfield 46, 3, none, [], 11, 6, 55, 0) := z_ftd (by decide +kernel)
theorem t132_47 : z_ft 132 47 = some (.iload_n 1, 1, none, [], 0, 0, 0, 0) := z_ftd (by decide +kernel)
theorem t132_48 : z_ft 132 48 = some (.invokevirtual 291, 3, none, [], 93, 0, 97, 0) := z_ftd (by decide +kernel)
theorem t132_51 : z_ft 132 51 = some (.iload_n 2, 1, none, [], 0, 0, 0, 0) := z_ftd (by decide +kernel)
theorem t132_52 : z_ft 132 52 = some (.ifCond .ne 11, 3, none, [], 63, 0, 0, 0) := z_ftd (by decide +kernel)
theorem t132_55 : z_ft 132 55 = some (.aload_n 0, 1, none, [], 0, 0, 0, 0) := z_ftd (by decide +kernel)
theorem t132_56 : z_ft 132 56 = some (.getfield 70, 3, none, [], 11, 10, 59, 0) := z_ftd (by decide +kernel)
theorem t132_59 : z_ft 132 59 = some (.getfield 294, 3, none, [], 9, 6, 42, 0) := z_ftd (by decide +kernel)
theorem t132_62 : z_ft 132 62 = some (.ireturn, 1, none, [], 0, 0, 0, 0) := z_ftd (by decide +kernel)
theorem t132_63 : z_ft 132 63 = some (.iload_n 2, 1, none, [], 0, 0, 0, 0) := z_ftd (by decide +kernel)
theorem t132_64 : z_ft 132 64 = some (.iconst 1, 1, none, [], 0, 0, 0, 0) := z_ftd (by decide +kernel)
theorem t132_65 : z_ft 132 65 = some (.if_icmp .ne 13, 3, none, [], 78, 0, 0, 0) := z_ftd (by decide +kernel)
theorem t132_68 : z_ft 132 68 = some (.aload_n 0, 1, none, [], 0, 0, 0, 0) := z_ftd (by decide +kernel)
theorem t132_69 : z_ft 132 69 = some (.getfield 70, 3, none, [], 11, 10, 59, 0) := z_ftd (by decide +kernel)
theorem t132_72 : z_ft 132 72 = some (.getfield 297, 3, none, [], 9, 7, 43, 0) := z_ftd (by decide +kernel)
theorem t132_75 : z_ft 132 75 = some (.goto 10, 3, none, [], 85, 0, 0, 0) := z_ftd (by decide +kernel)
theorem t132_78 : z_ft 132 78 = some (.aload_n 0, 1, none, [], 0, 0, 0, 0) := z_ftd (by decide +kernel)
theorem t132_79 : z_ft 132 79 = some (.getfield 70, 3, none, [], 11, 10, 59, 0) := z_ftd (by decide +kernel)
theorem t132_82 : z_ft 132 82 = some (.getfield 300, 3, none, [], 9, 8, 44, 0) := z_ftd (by decide +kernel)
theorem t132_85 : z_ft 132 85 = some (.ireturn, 1, (some []), [], 0, 0, 0, 0) := z_ftd (by decide +kernel)
-- X11_tells
theorem e132 (d : Nat) (x1 : Int32) (x2 : Int32) (S : z_S) (hW : z_W S)  : fI (d + 1) 132 [.ref 0, .int x1, .int x2] S = (zb (fI d 152 [.ref 0, .int x1] S) fun v1 S2 => (if v1 = (0 : Int32) then some ((-1 : Int32), S2) else (if x2 < (0 : Int32) then some ((-1 : Int32), S2) else (if x2 ≤ (2 : Int32) then ((fV d 85 [.ref 182, .ref 22, .ref 27, .int x1] S2).bind fun S7 => ((fV d 93 [.ref 182, .ref 22, .ref 27, .int x1] S7).bind fun S9 => (if ¬ x2 = (0 : Int32) then (if ¬ x2 = (1 : Int32) then some ((gI S9 182 8), S9) else some ((gI S9 182 7), S9)) else some ((gI S9 182 6), S9)))) else some ((-1 : Int32), S2))))) := by
  refine (fI_en (Nat.le_of_ble_eq_true rfl) rfl).trans ?_
  refine (k_aload_n t132_0 rfl rfl).trans ?_
  refine (k_iload_n t132_1 rfl rfl).trans ?_
  refine k_callI (as := [.ref 0, .int x1]) (rest := []) t132_2 rfl rfl (by decide) rfl rfl (Nat.le_of_ble_eq_true rfl) rfl (z_rcV hW (zK_0) (by decide)) (by decide) (Or.inr (by decide)) hW (fun v1 S2 hW2 => ?_)
  refine (k_if_eq t132_5 rfl).trans (z_ite (fun g3 => ?_) (fun g3 => ?_))
  · refine (zk_mk (ls' := [z_j, z_j, z_j]) t132_17 rfl).trans ?_
    refine (k_iconst t132_17 rfl zci_m1).trans ?_
    exact k_ireturn t132_18 rfl (by decide)
  · refine (k_iload_n t132_8 rfl rfl).trans ?_
    refine (k_if_lt t132_9 rfl).trans (z_ite (fun g4 => ?_) (fun g4 => ?_))
    · refine (zk_mk (ls' := [z_j, z_j, z_j]) t132_17 rfl).trans ?_
      refine (k_iconst t132_17 rfl zci_m1).trans ?_
      exact k_ireturn t132_18 rfl (by decide)
    · refine (k_iload_n t132_12 rfl rfl).trans ?_
      refine (k_iconst t132_13 rfl zci_2).trans ?_
      refine (k_icmp_le t132_14 rfl).trans (z_ite (fun g5 => ?_) (fun g5 => ?_))
      · refine (k_aload_n t132_19 rfl rfl).trans ?_
        refine (k_getR t132_20 rfl hW2 zK_0 (by decide) (by decide) (zF_0_10 hW2)).trans ?_
        refine (k_aload_n t132_23 rfl rfl).trans ?_
        refine (k_getR t132_24 rfl hW2 zK_0 (by decide) (by decide) (zF_0_5 hW2)).trans ?_
        refine (k_aload_n t132_27 rfl rfl).trans ?_
        refine (k_getR t132_28 rfl hW2 zK_0 (by decide) (by decide) (zF_0_6 hW2)).trans ?_
        refine (k_iload_n t132_31 rfl rfl).trans ?_
        refine k_callV (as := [.ref 182, .ref 22, .ref 27, .int x1]) (rest := []) t132_32 rfl rfl (by decide) rfl rfl (Nat.le_of_ble_eq_true rfl) rfl (z_rcV hW2 (zK_182) (by decide)) (by decide) (by decide) hW2 (fun S7 hW7 => ?_)
        refine (k_aload_n t132_35 rfl rfl).trans ?_
        refine (k_getR t132_36 rfl hW7 zK_0 (by decide) (by decide) (zF_0_10 hW7)).trans ?_
        refine (k_aload_n t132_39 rfl rfl).trans ?_
        refine (k_getR t132_40 rfl hW7 zK_0 (by decide) (by decide) (zF_0_5 hW7)).trans ?_
        refine (k_aload_n t132_43 rfl rfl).trans ?_
        refine (k_getR t132_44 rfl hW7 zK_0 (by decide) (by decide) (zF_0_6 hW7)).trans ?_
        refine (k_iload_n t132_47 rfl rfl).trans ?_
        refine k_callV (as := [.ref 182, .ref 22, .ref 27, .int x1]) (rest := []) t132_48 rfl rfl (by decide) rfl rfl (Nat.le_of_ble_eq_true rfl) rfl (z_rcV hW7 (zK_182) (by decide)) (by decide) (by decide) hW7 (fun S9 hW9 => ?_)
        refine (k_iload_n t132_51 rfl rfl).trans ?_
        refine (k_if_ne t132_52 rfl).trans (z_ite (fun g10 => ?_) (fun g10 => ?_))
        · refine (k_iload_n t132_63 rfl rfl).trans ?_
          refine (k_iconst t132_64 rfl zci_1).trans ?_
          refine (k_icmp_ne t132_65 rfl).trans (z_ite (fun g11 => ?_) (fun g11 => ?_))
          · refine (k_aload_n t132_78 rfl rfl).trans ?_
            refine (k_getR t132_79 rfl hW9 zK_0 (by decide) (by decide) (zF_0_10 hW9)).trans ?_
            refine (k_getI t132_82 rfl hW9 zK_182 (by decide) (by decide)).trans ?_
            refine (zk_mk (ls' := [z_j, z_j, z_j]) t132_85 rfl).trans ?_
            exact k_ireturn t132_85 rfl (by decide)
          · refine (k_aload_n t132_68 rfl rfl).trans ?_
            refine (k_getR t132_69 rfl hW9 zK_0 (by decide) (by decide) (zF_0_10 hW9)).trans ?_
            refine (k_getI t132_72 rfl hW9 zK_182 (by decide) (by decide)).trans ?_
            refine (k_goto t132_75 rfl).trans ?_
            refine (zk_mk (ls' := [z_j, z_j, z_j]) t132_85 rfl).trans ?_
            exact k_ireturn t132_85 rfl (by decide)
        · refine (k_aload_n t132_55 rfl rfl).trans ?_
          refine (k_getR t132_56 rfl hW9 zK_0 (by decide) (by decide) (zF_0_10 hW9)).trans ?_
          refine (k_getI t132_59 rfl hW9 zK_182 (by decide) (by decide)).trans ?_
          exact k_ireturn t132_62 rfl (by decide)
      · refine (zk_mk (ls' := [z_j, z_j, z_j]) t132_17 rfl).trans ?_
        refine (k_iconst t132_17 rfl zci_m1).trans ?_
        exact k_ireturn t132_18 rfl (by decide)
theorem t133_0 : z_ft 133 0 = some (.aload_n 0, 1, none, [], 0, 0, 0, 0) := z_ftd (by decide +kernel)
theorem t133_1 : z_ft 133 1 = some (.iload_n 1, 1, none, [], 0, 0, 0, 0) := z_ftd (by decide +kernel)
theorem t133_2 : z_ft 133 2 = some (.invokevirtual 227, 3, none, [], 152, 0, 81, 0) := z_ftd (by decide +kernel)
theorem t133_5 : z_ft 133 5 = some (.ifCond .ne 9, 3, none, [], 14, 0, 0, 0) := z_ftd (by decide +kernel)
theorem t133_8 : z_ft 133 8 = some (.aload_n 0, 1, none, [], 0, 0, 0, 0) := z_ftd (by decide +kernel)
theorem t133_9 : z_ft 133 9 = some (.iconst 3, 1, none, [], 0, 0, 0, 0) := z_ftd (by decide +kernel)
theorem t133_10 : z_ft 133 10 = some (.invokevirtual 100, 3, none, [], 150, 0, 66, 0) := z_ftd (by decide +kernel)
theorem t133_13 : z_ft 133 13 = some (.ireturn, 1, none, [], 0, 0, 0, 0) := z_ftd (by decide +kernel)
theorem t133_14 : z_ft 133 14 = some (.aload_n 0, 1, none, [], 0, 0, 0, 0) := z_ftd (by decide +kernel)
theorem t133_15 : z_ft 133 15 = some (.getfield 63, 3, none, [], 11, 9, 58, 0) := z_ftd (by decide +kernel)
theorem t133_18 : z_ft 133 18 = some (.aload_n 0, 1, none, [], 0, 0, 0, 0) := z_ftd (by decide +kernel)
theorem t133_19 : z_ft 133 19 = some (.getfield 46, 3, none, [], 11, 6, 55, 0) := z_ftd (by decide +kernel)
theorem t133_22 : z_ft 133 22 = some (.aload_n 0, 1, none, [], 0, 0, 0, 0) := z_ftd (by decide +kernel)
theorem t133_23 : z_ft 133 23 = some (.getfield 56, 3, none, [], 11, 8, 57, 0) := z_ftd (by decide +kernel)
theorem t133_26 : z_ft 133 26 = some (.invokevirtual 303, 3, none, [], 54, 0, 98, 0) := z_ftd (by decide +kernel)
theorem t133_29 : z_ft 133 29 = some (.aload_n 0, 1, none, [], 0, 0, 0, 0) := z_ftd (by decide +kernel)
theorem t133_30 : z_ft 133 30 = some (.iload_n 1, 1, none, [], 0, 0, 0, 0) := z_ftd (by decide +kernel)
theorem t133_31 : z_ft 133 31 = some (.invokevirtual 307, 3, none, [], 134, 0, 99, 0) := z_ftd (by decide +kernel)
theorem t133_34 : z_ft 133 34 = some (.ireturn, 1, none, [], 0, 0, 0, 0) := z_ftd (by decide +kernel)
-- X11_come
theorem e133 (d : Nat) (x1 : Int32) (S : z_S) (hW : z_W S)  : fI (d + 1) 133 [.ref 0, .int x1] S = (zb (fI d 152 [.ref 0, .int x1] S) fun v1 S2 => (if ¬ v1 = (0 : Int32) then ((fV d 54 [.ref 39, .ref 27, .ref 37] S2).bind fun S5 => (zb (fI d 134 [.ref 0, .int x1] S5) fun v6 S7 => some (v6, S7))) else (zb (fI d 150 [.ref 0, .int (3 : Int32)] S2) fun v8 S9 => some (v8, S9)))) := by
  refine (fI_en (Nat.le_of_ble_eq_true rfl) rfl).trans ?_
  refine (k_aload_n t133_0 rfl rfl).trans ?_
  refine (k_iload_n t133_1 rfl rfl).trans ?_
  refine k_callI (as := [.ref 0, .int x1]) (rest := []) t133_2 rfl rfl (by decide) rfl rfl (Nat.le_of_ble_eq_true rfl) rfl (z_rcV hW (zK_0) (by decide)) (by decide) (Or.inr (by decide)) hW (fun v1 S2 hW2 => ?_)
  refine (k_if_ne t133_5 rfl).trans (z_ite (fun g3 => ?_) (fun g3 => ?_))
  · refine (k_aload_n t133_14 rfl rfl).trans ?_
    refine (k_getR t133_15 rfl hW2 zK_0 (by decide) (by decide) (zF_0_9 hW2)).trans ?_
    refine (k_aload_n t133_18 rfl rfl).trans ?_
    refine (k_getR t133_19 rfl hW2 zK_0 (by decide) (by decide) (zF_0_6 hW2)).trans ?_
    refine (k_aload_n t133_22 rfl rfl).trans ?_
    refine (k_getR t133_23 rfl hW2 zK_0 (by decide) (by decide) (zF_0_8 hW2)).trans ?_
    refine k_callV (as := [.ref 39, .ref 27, .ref 37]) (rest := []) t133_26 rfl rfl (by decide) rfl rfl (Nat.le_of_ble_eq_true rfl) rfl (z_rcV hW2 (zK_39) (by decide)) (by decide) (by decide) hW2 (fun S5 hW5 => ?_)
    refine (k_aload_n t133_29 rfl rfl).trans ?_
    refine (k_iload_n t133_30 rfl rfl).trans ?_
    refine k_callI (as := [.ref 0, .int x1]) (rest := []) t133_31 rfl rfl (by decide) rfl rfl (Nat.le_of_ble_eq_true rfl) rfl (z_rcV hW5 (zK_0) (by decide)) (by decide) (Or.inl (by decide)) hW5 (fun v6 S7 hW7 => ?_)
    exact k_ireturn t133_34 rfl (by decide)
  · refine (k_aload_n t133_8 rfl rfl).trans ?_
    refine (k_iconst t133_9 rfl zci_3).trans ?_
    refine k_callI (as := [.ref 0, .int (3 : Int32)]) (rest := []) t133_10 rfl rfl (by decide) rfl rfl (Nat.le_of_ble_eq_true rfl) rfl (z_rcV hW2 (zK_0) (by decide)) (by decide) (Or.inl (by decide)) hW2 (fun v8 S9 hW9 => ?_)
    exact k_ireturn t133_13 rfl (by decide)
theorem t134_0 : z_ft 134 0 = some (.aload_n 0, 1, none, [], 0, 0, 0, 0) := z_ftd (by decide +kernel)
theorem t134_1 : z_ft 134 1 = some (.getfield 39, 3, none, [], 11, 5, 54, 0) := z_ftd (by decide +kernel)
theorem t134_4 : z_ft 134 4 = some (.aload_n 0, 1, none, [], 0, 0, 0, 0) := z_ftd (by decide +kernel)
theorem t134_5 : z_ft 134 5 = some (.getfield 46, 3, none, [], 11, 6, 55, 0) := z_ftd (by decide +kernel)
theorem t134_8 : z_ft 134 8 = some (.iload_n 1, 1, none, [], 0, 0, 0, 0) := z_ftd (by decide +kernel)
theorem t134_9 : z_ft 134 9 = some (.aload_n 0, 1, none, [], 0, 0, 0, 0) := z_ftd (by decide +kernel)
theorem t134_10 : z_ft 134 10 = some (.getfield 20, 3, none, [], 11, 2, 51, 0) := z_ftd (by decide +kernel)
theorem t134_13 : z_ft 134 13 = some (.getfield 144, 3, none, [], 6, 3, 5, 0) := z_ftd (by decide +kernel)
theorem t134_16 : z_ft 134 16 = some (.invokevirtual 146, 3, none, [], 32, 0, 71, 0) := z_ftd (by decide +kernel)
theorem t134_19 : z_ft 134 19 = some (.istore_n 2, 1, none, [], 0, 0, 0, 0) := z_ftd (by decide +kernel)
theorem t134_20 : z_ft 134 20 = some (.iconst 0, 1, none, [], 0, 0, 0, 0) := z_ftd (by decide +kernel)
theorem t134_21 : z_ft 134 21 = some (.istore_n 3, 1, none, [], 0, 0, 0, 0) := z_ftd (by decide +kernel)
theorem t134_22 : z_ft 134 22 = some (.iload_n 3, 1, (some [0, 2, 3]), [], 0, 0, 0, 0) := z_ftd (by decide +kernel)
theorem t134_23 : z_ft 134 23 = some (.iload_n 2, 1, none, [], 0, 0, 0, 0) := z_ftd (by decide +kernel)
theorem t134_24 : z_ft 134 24 = some (.if_icmp .ge 41, 3, none, [], 65, 0, 0, 0) := z_ftd (by decide +kernel)
theorem t134_27 : z_ft 134 27 = some (.aload_n 0, 1, none, [], 0, 0, 0, 0) := z_ftd (by decide +kernel)
theorem t134_28 : z_ft 134 28 = some (.getfield 56, 3, none, [], 11, 8, 57, 0) := z_ftd (by decide +kernel)
theorem t134_31 : z_ft 134 31 = some (.aload_n 0, 1, none, [], 0, 0, 0, 0) := z_ftd (by decide +kernel)
theorem t134_32 : z_ft 134 32 = some (.getfield 46, 3, none, [], 11, 6, 55, 0) := z_ftd (by decide +kernel)
theorem t134_35 : z_ft 134 35 = some (.getfield 168, 3, none, [], 8, 0, 25, 0) := z_ftd (by decide +kernel)
theorem t134_38 : z_ft 134 38 = some (.aload_n 0, 1, none, [], 0, 0, 0, 0) := z_ftd (by decide +kernel)
theorem t134_39 : z_ft 134 39 = some (.getfield 39, 3, none, [], 11, 5, 54, 0) := z_ftd (by decide +kernel)
theorem t134_42 : z_ft 134 42 = some (.getfield 234, 3, none, [], 2, 2, 21, 0) := z_ftd (by decide +kernel)
theorem t134_45 : z_ft 134 45 = some (.iload_n 3, 1, none, [], 0, 0, 0, 0) := z_ftd (by decide +kernel)
theorem t134_46 : z_ft 134 46 = some (.iaload, 1, none, [], 0, 0, 0, 0) := z_ftd (by decide +kernel)
theorem t134_47 : z_ft 134 47 = some (.aload_n 0, 1, none, [], 0, 0, 0, 0) := z_ftd (by decide +kernel)
theorem t134_48 : z_ft 134 48 = some (.getfield 39, 3, none, [], 11, 5, 54, 0) := z_ftd (by decide +kernel)
theorem t134_51 : z_ft 134 51 = some (.getfield 310, 3, none, [], 2, 3, 22, 0) := z_ftd (by decide +kernel)
theorem t134_54 : z_ft 134 54 = some (.iload_n 3, 1, none, [], 0, 0, 0, 0) := z_ftd (by decide +kernel)
theorem t134_55 : z_ft 134 55 = some (.iaload, 1, none, [], 0, 0, 0, 0) := z_ftd (by decide +kernel)
theorem t134_56 : z_ft 134 56 = some (.invokevirtual 313, 3, none, [], 50, 0, 100, 0) := z_ftd (by decide +kernel)
theorem t134_59 : z_ft 134 59 = some (.iinc 3 1, 3, none, [], 0, 0, 0, 0) := z_ftd (by decide +kernel)
theorem t134_62 : z_ft 134 62 = some (.goto (-40), 3, none, [], 22, 0, 0, 0) := z_ftd (by decide +kernel)
theorem t134_65 : z_ft 134 65 = some (.iload_n 2, 1, none, [], 0, 0, 0, 0) := z_ftd (by decide +kernel)
theorem t134_66 : z_ft 134 66 = some (.ireturn, 1, none, [], 0, 0, 0, 0) := z_ftd (by decide +kernel)
noncomputable def b134_22 (d : Nat) (y2 : Int32) (y3 : Int32) (S : z_S) : Option (Int32 × z_S) := zk kI z_X0 d 134 22 [.ref 0, z_j, .int y2, .int y3] [] S
theorem b134_22_eq (d : Nat) (y2 : Int32) (y3 : Int32) (S : z_S) (hW : z_W S)  : b134_22 d y2 y3 S = (if y2 ≤ y3 then some (y2, S) else (if z_in y3 40 then (if z_in y3 40 then ((fV d 50 [.ref 37, .int (gI S 27 0), .int (gI S 25 (y3).toNatClampNeg), .int (gI S 26 (y3).toNatClampNeg)] S).bind fun S7 => b134_22 d y2 (y3 + (1 : Int32)) S7) else none) else none)) := by
  unfold b134_22
  refine (k_iload_n t134_22 rfl rfl).trans ?_
  refine (k_iload_n t134_23 rfl rfl).trans ?_
  refine (k_icmp_ge t134_24 rfl).trans (z_ite (fun g3 => ?_) (fun g3 => ?_))
  · refine (k_iload_n t134_65 rfl rfl).trans ?_
    exact k_ireturn t134_66 rfl (by decide)
  · refine (k_aload_n t134_27 rfl rfl).trans ?_
    refine (k_getR t134_28 rfl hW zK_0 (by decide) (by decide) (zF_0_8 hW)).trans ?_
    refine (k_aload_n t134_31 rfl rfl).trans ?_
    refine (k_getR t134_32 rfl hW zK_0 (by decide) (by decide) (zF_0_6 hW)).trans ?_
    refine (k_getI t134_35 rfl hW zK_27 (by decide) (by decide)).trans ?_
    refine (k_aload_n t134_38 rfl rfl).trans ?_
    refine (k_getR t134_39 rfl hW zK_0 (by decide) (by decide) (zF_0_5 hW)).trans ?_
    refine (k_getR t134_42 rfl hW zK_22 (by decide) (by decide) (zF_22_2 hW)).trans ?_
    refine (k_iload_n t134_45 rfl rfl).trans ?_
    refine (k_iald t134_46 rfl hW zK_25 zL_25).trans (z_ite (fun g4 => ?_) (fun _ => rfl))
    refine (k_aload_n t134_47 rfl rfl).trans ?_
    refine (k_getR t134_48 rfl hW zK_0 (by decide) (by decide) (zF_0_5 hW)).trans ?_
    refine (k_getR t134_51 rfl hW zK_22 (by decide) (by decide) (zF_22_3 hW)).trans ?_
    refine (k_iload_n t134_54 rfl rfl).trans ?_
    refine (k_iald t134_55 rfl hW zK_26 zL_26).trans (z_ite (fun g5 => ?_) (fun _ => rfl))
    refine k_callV (as := [.ref 37, .int (gI S 27 0), .int (gI S 25 (y3).toNatClampNeg), .int (gI S 26 (y3).toNatClampNeg)]) (rest := []) t134_56 rfl rfl (by decide) rfl rfl (Nat.le_of_ble_eq_true rfl) rfl (z_rcV hW (zK_37) (by decide)) (by decide) (by decide) hW (fun S7 hW7 => ?_)
    refine (k_iinc (b := (y3 + (1 : Int32))) (ls' := [.ref 0, z_j, .int y2, .int (y3 + (1 : Int32))]) t134_59 rfl rfl (by rw [zci_1]) rfl).trans ?_
    refine (k_goto t134_62 rfl).trans ?_
    exact (zk_mk (ls' := [.ref 0, z_j, .int y2, .int (y3 + (1 : Int32))]) t134_22 rfl)
-- X11_arriveNow
theorem e134 (d : Nat) (x1 : Int32) (S : z_S) (hW : z_W S)  : fI (d + 1) 134 [.ref 0, .int x1] S = (zb (fI d 32 [.ref 22, .ref 27, .int x1, .int (gI S (gP S 0 2) 3)] S) fun v1 S2 => b134_22 d v1 (0 : Int32) S2) := by
  refine (fI_en (Nat.le_of_ble_eq_true rfl) rfl).trans ?_
  refine (k_aload_n t134_0 rfl rfl).trans ?_
  refine (k_getR t134_1 rfl hW zK_0 (by decide) (by decide) (zF_0_5 hW)).trans ?_
  refine (k_aload_n t134_4 rfl rfl).trans ?_
  refine (k_getR t134_5 rfl hW zK_0 (by decide) (by decide) (zF_0_6 hW)).trans ?_
  refine (k_iload_n t134_8 rfl rfl).trans ?_
  refine (k_aload_n t134_9 rfl rfl).trans ?_
  refine (k_getR t134_10 rfl hW zK_0 (by decide) (by decide) (zM_0_2 hW).1).trans ?_
  refine (k_getI t134_13 rfl hW (zM_0_2 hW).2 (by decide) (by decide)).trans ?_
  refine k_callI (as := [.ref 22, .ref 27, .int x1, .int (gI S (gP S 0 2) 3)]) (rest := []) t134_16 rfl rfl (by decide) rfl rfl (Nat.le_of_ble_eq_true rfl) rfl (z_rcV hW (zK_22) (by decide)) (by decide) (Or.inl (by decide)) hW (fun v1 S2 hW2 => ?_)
  refine (k_istore_n (ls' := [.ref 0, .int x1, .int v1, z_j]) t134_19 rfl rfl).trans ?_
  refine (k_iconst t134_20 rfl zci_0).trans ?_
  refine (k_istore_n (ls' := [.ref 0, .int x1, .int v1, .int (0 : Int32)]) t134_21 rfl rfl).trans ?_
  exact (zk_mk (ls' := [.ref 0, z_j, .int v1, .int (0 : Int32)]) t134_22 rfl)
theorem t135_0 : z_ft 135 0 = some (.aload_n 0, 1, none, [], 0, 0, 0, 0) := z_ftd (by decide +kernel)
theorem t135_1 : z_ft 135 1 = some (.getfield 20, 3, none, [], 11, 2, 51, 0) := z_ftd (by decide +kernel)
theorem t135_4 : z_ft 135 4 = some (.iload_n 1, 1, none, [], 0, 0, 0, 0) := z_ftd (by decide +kernel)
theorem t135_5 : z_ft 135 5 = some (.invokevirtual 177, 3, none, [], 59, 0, 73, 0) := z_ftd (by decide +kernel)
theorem t135_8 : z_ft 135 8 = some (.ifCond .eq 18, 3, none, [], 26, 0, 0, 0) := z_ftd (by decide +kernel)
theorem t135_11 : z_ft 135 11 = some (.aload_n 0, 1, none, [], 0, 0, 0, 0) := z_ftd (by decide +kernel)
theorem t135_12 : z_ft 135 12 = some (.getfield 46, 3, none, [], 11, 6, 55, 0) := z_ftd (by decide +kernel)
theorem t135_15 : z_ft 135 15 = some (.getfield 215, 3, none, [], 8, 6, 31, 0) := z_ftd (by decide +kernel)
theorem t135_18 : z_ft 135 18 = some (.iload_n 1, 1, none, [], 0, 0, 0, 0) := z_ftd (by decide +kernel)
theorem t135_19 : z_ft 135 19 = some (.iaload, 1, none, [], 0, 0, 0, 0) := z_ftd (by decide +kernel)
theorem t135_20 : z_ft 135 20 = some (.sipush 255, 3, none, [], 0, 0, 0, 0) := z_ftd (by decide +kernel)
theorem t135_23 : z_ft 135 23 = some (.if_icmp .ne 15, 3, none, [], 38, 0, 0, 0) := z_ftd (by decide +kernel)
theorem t135_26 : z_ft 135 26 = some (.aload_n 0, 1, (some [0]), [], 0, 0, 0, 0) := z_ftd (by decide +kernel)
theorem t135_27 : z_ft 135 27 = some (.getfield 88, 3, none, [], 11, 13, 62, 0) := z_ftd (by decide +kernel)
theorem t135_30 : z_ft 135 30 = some (.iconst 3, 1, none, [], 0, 0, 0, 0) := z_ftd (by decide +kernel)
theorem t135_31 : z_ft 135 31 = some (.dup2, 1, none, [], 0, 0, 0, 0) := z_ftd (by decide +kernel)
theorem t135_32 : z_ft 135 32 = some (.iaload, 1, none, [], 0, 0, 0, 0) := z_ftd (by decide +kernel)
theorem t135_33 : z_ft 135 33 = some (.iconst 1, 1, none, [], 0, 0, 0, 0) := z_ftd (by decide +kernel)
theorem t135_34 : z_ft 135 34 = some (.iadd, 1, none, [], 0, 0, 0, 0) := z_ftd (by decide +kernel)
theorem t135_35 : z_ft 135 35 = some (.iastore, 1, none, [], 0, 0, 0, 0) := z_ftd (by decide +kernel)
theorem t135_36 : z_ft 135 36 = some (.iconst 0, 1, none, [], 0, 0, 0, 0) := z_ftd (by decide +kernel)
theorem t135_37 : z_ft 135 37 = some (.ireturn, 1, none, [], 0, 0, 0, 0) := z_ftd (by decide +kernel)
theorem t135_38 : z_ft 135 38 = some (.aload_n 0, 1, none, [], 0, 0, 0, 0) := z_ftd (by decide +kernel)
theorem t135_39 : z_ft 135 39 = some (.getfield 63, 3, none, [], 11, 9, 58, 0) := z_ftd (by decide +kernel)
theorem t135_42 : z_ft 135 42 = some (.aload_n 0, 1, none, [], 0, 0, 0, 0) := z_ftd (by decide +kernel)
theorem t135_43 : z_ft 135 43 = some (.getfield 46, 3, none, [], 11, 6, 55, 0) := z_ftd (by decide +kernel)
theorem t135_46 : z_ft 135 46 = some (.aload_n 0, 1, none, [], 0, 0, 0, 0) := z_ftd (by decide +kernel)
theorem t135_47 : z_ft 135 47 = some (.getfield 56, 3, none, [], 11, 8, 57, 0) := z_ftd (by decide +kernel)
theorem t135_50 : z_ft 135 50 = some (.invokevirtual 303, 3, none, [], 54, 0, 98, 0) := z_ftd (by decide +kernel)
theorem t135_53 : z_ft 135 53 = some (.aload_n 0, 1, none, [], 0, 0, 0, 0) := z_ftd (by decide +kernel)
theorem t135_54 : z_ft 135 54 = some (.getfield 46, 3, none, [], 11, 6, 55, 0) := z_ftd (by decide +kernel)
theorem t135_57 : z_ft 135 57 = some (.iload_n 1, 1, none, [], 0, 0, 0, 0) := z_ftd (by decide +kernel)
theorem t135_58 : z_ft 135 58 = some (.invokevirtual 317, 3, none, [], 81, 0, 101, 0) := z_ftd (by decide +kernel)
theorem t135_61 : z_ft 135 61 = some (.iconst 1, 1, none, [], 0, 0, 0, 0) := z_ftd (by decide +kernel)
theorem t135_62 : z_ft 135 62 = some (.ireturn, 1, none, [], 0, 0, 0, 0) := z_ftd (by decide +kernel)
noncomputable def b135_26 (d : Nat)  (S : z_S) : Option (Int32 × z_S) := zk kI z_X0 d 135 26 [.ref 0, z_j] [] S
theorem b135_26_eq (d : Nat)  (S : z_S) (hW : z_W S)  : b135_26 d  S = (if z_in (3 : Int32) 6 then (if z_in (3 : Int32) 6 then some ((0 : Int32), sI S 395 ((3 : Int32)).toNatClampNeg ((gI S 395 ((3 : Int32)).toNatClampNeg) + (1 : Int32))) else none) else none) := by
  unfold b135_26
  refine (k_aload_n t135_26 rfl rfl).trans ?_
  refine (k_getR t135_27 rfl hW zK_0 (by decide) (by decide) (zF_0_13 hW)).trans ?_
  refine (k_iconst t135_30 rfl zci_3).trans ?_
  refine (k_dup2IR t135_31 rfl).trans ?_
  refine (k_iald t135_32 rfl hW zK_395 zL_395).trans (z_ite (fun g10 => ?_) (fun _ => rfl))
  refine (k_iconst t135_33 rfl zci_1).trans ?_
  refine (k_iadd t135_34 rfl).trans ?_
  refine (k_iast t135_35 rfl hW zK_395 zL_395).trans (z_ite (fun g11 => ?_) (fun _ => rfl))
  refine (k_iconst t135_36 rfl zci_0).trans ?_
  exact k_zretC t135_37 rfl (by decide) (by decide)
-- X11_go
theorem e135 (d : Nat) (x1 : Int32) (S : z_S) (hW : z_W S)  : fI (d + 1) 135 [.ref 0, .int x1] S = (zb (fI d 59 [.ref (gP S 0 2), .int x1] S) fun v1 S2 => (if v1 = (0 : Int32) then b135_26 d S2 else (if z_in x1 16 then (if ¬ (gI S2 29 (x1).toNatClampNeg) = (255 : Int32) then ((fV d 54 [.ref 39, .ref 27, .ref 37] S2).bind fun S7 => ((fV d 81 [.ref 27, .int x1] S7).bind fun S9 => some ((1 : Int32), S9))) else b135_26 d S2) else none))) := by
  refine (fI_en (Nat.le_of_ble_eq_true rfl) rfl).trans ?_
  refine (k_aload_n t135_0 rfl rfl).trans ?_
  refine (k_getR t135_1 rfl hW zK_0 (by decide) (by decide) (zM_0_2 hW).1).trans ?_
  refine (k_iload_n t135_4 rfl rfl).trans ?_
  refine k_callI (as := [.ref (gP S 0 2), .int x1]) (rest := []) t135_5 rfl rfl (by decide) rfl rfl (Nat.le_of_ble_eq_true rfl) rfl (z_rcV hW ((zM_0_2 hW).2) (by decide)) (by decide) (Or.inr (by decide)) hW (fun v1 S2 hW2 => ?_)
  refine (k_if_eq t135_8 rfl).trans (z_ite (fun g3 => ?_) (fun g3 => ?_))
  · exact (zk_mk (ls' := [.ref 0, z_j]) t135_26 rfl)
  · refine (k_aload_n t135_11 rfl rfl).trans ?_
    refine (k_getR t135_12 rfl hW2 zK_0 (by decide) (by decide) (zF_0_6 hW2)).trans ?_
    refine (k_getR t135_15 rfl hW2 zK_27 (by decide) (by decide) (zF_27_6 hW2)).trans ?_
    refine (k_iload_n t135_18 rfl rfl).trans ?_
    refine (k_iald t135_19 rfl hW2 zK_29 zL_29).trans (z_ite (fun g4 => ?_) (fun _ => rfl))
    refine (k_sipush t135_20 rfl zcs_255).trans ?_
    refine (k_icmp_ne t135_23 rfl).trans (z_ite (fun g5 => ?_) (fun g5 => ?_))
    · refine (k_aload_n t135_38 rfl rfl).trans ?_
      refine (k_getR t135_39 rfl hW2 zK_0 (by decide) (by decide) (zF_0_9 hW2)).trans ?_
      refine (k_aload_n t135_42 rfl rfl).trans ?_
      refine (k_getR t135_43 rfl hW2 zK_0 (by decide) (by decide) (zF_0_6 hW2)).trans ?_
      refine (k_aload_n t135_46 rfl rfl).trans ?_
      refine (k_getR t135_47 rfl hW2 zK_0 (by decide) (by decide) (zF_0_8 hW2)).trans ?_
      refine k_callV (as := [.ref 39, .ref 27, .ref 37]) (rest := []) t135_50 rfl rfl (by decide) rfl rfl (Nat.le_of_ble_eq_true rfl) rfl (z_rcV hW2 (zK_39) (by decide)) (by decide) (by decide) hW2 (fun S7 hW7 => ?_)
      refine (k_aload_n t135_53 rfl rfl).trans ?_
      refine (k_getR t135_54 rfl hW7 zK_0 (by decide) (by decide) (zF_0_6 hW7)).trans ?_
      refine (k_iload_n t135_57 rfl rfl).trans ?_
      refine k_callV (as := [.ref 27, .int x1]) (rest := []) t135_58 rfl rfl (by decide) rfl rfl (Nat.le_of_ble_eq_true rfl) rfl (z_rcV hW7 (zK_27) (by decide)) (by decide) (by decide) hW7 (fun S9 hW9 => ?_)
      refine (k_iconst t135_61 rfl zci_1).trans ?_
      exact k_zretC t135_62 rfl (by decide) (by decide)
    · exact (zk_mk (ls' := [.ref 0, z_j]) t135_26 rfl)
theorem t136_0 : z_ft 136 0 = some (.aload_n 0, 1, none, [], 0, 0, 0, 0) := z_ftd (by decide +kernel)
theorem t136_1 : z_ft 136 1 = some (.iload_n 1, 1, none, [], 0, 0, 0, 0) := z_ftd (by decide +kernel)
theorem t136_2 : z_ft 136 2 = some (.iload_n 2, 1, none, [], 0, 0, 0, 0) := z_ftd (by decide +kernel)
theorem t136_3 : z_ft 136 3 = some (.invokevirtual 320, 3, none, [], 137, 0, 102, 0) := z_ftd (by decide +kernel)
theorem t136_6 : z_ft 136 6 = some (.ifCond .ne 15, 3, none, [], 21, 0, 0, 0) := z_ftd (by decide +kernel)
theorem t136_9 : z_ft 136 9 = some (.aload_n 0, 1, none, [], 0, 0, 0, 0) := z_ftd (by decide +kernel)
theorem t136_10 : z_ft 136 10 = some (.getfield 88, 3, none, [], 11, 13, 62, 0) := z_ftd (by decide +kernel)
theorem t136_13 : z_ft 136 13 = some (.iconst 3, 1, none, [], 0, 0, 0, 0) := z_ftd (by decide +kernel)
theorem t136_14 : z_ft 136 14 = some (.dup2, 1, none, [], 0, 0, 0, 0) := z_ftd (by decide +kernel)
theorem t136_15 : z_ft 136 15 = some (.iaload, 1, none, [], 0, 0, 0, 0) := z_ftd (by decide +kernel)
theorem t136_16 : z_ft 136 16 = some (.iconst 1, 1, none, [], 0, 0, 0, 0) := z_ftd (by decide +kernel)
theorem t136_17 : z_ft 136 17 = some (.iadd, 1, none, [], 0, 0, 0, 0) := z_ftd (by decide +kernel)
theorem t136_18 : z_ft 136 18 = some (.iastore, 1, none, [], 0, 0, 0, 0) := z_ftd (by decide +kernel)
theorem t136_19 : z_ft 136 19 = some (.iconst 0, 1, none, [], 0, 0, 0, 0) := z_ftd (by decide +kernel)
theorem t136_20 : z_ft 136 20 = some (.ireturn, 1, none, [], 0, 0, 0, 0) := z_ftd (by decide +kernel)
theorem t136_21 : z_ft 136 21 = some (.aload_n 0, 1, none, [], 0, 0, 0, 0) := z_ftd (by decide +kernel)
theorem t136_22 : z_ft 136 22 = some (.getfield 63, 3, none, [], 11, 9, 58, 0) := z_ftd (by decide +kernel)
theorem t136_25 : z_ft 136 25 = some (.aload_n 0, 1, none, [], 0, 0, 0, 0) := z_ftd (by decide +kernel)
theorem t136_26 : z_ft 136 26 = some (.getfield 46, 3, none, [], 11, 6, 55, 0) := z_ftd (by decide +kernel)
theorem t136_29 : z_ft 136 29 = some (.aload_n 0, 1, none, [], 0, 0, 0, 0) := z_ftd (by decide +kernel)
theorem t136_30 : z_ft 136 30 = some (.getfield 56, 3, none, [], 11, 8, 57, 0) := z_ftd (by decide +kernel)
theorem t136_33 : z_ft 136 33 = some (.invokevirtual 303, 3, none, [], 54, 0, 98, 0) := z_ftd (by decide +kernel)
theorem t136_36 : z_ft 136 36 = some (.aload_n 0, 1, none, [], 0, 0, 0, 0) := z_ftd (by decide +kernel)
theorem t136_37 : z_ft 136 37 = some (.getfield 46, 3, none, [], 11, 6, 55, 0) := z_ftd (by decide +kernel)
theorem t136_40 : z_ft 136 40 = some (.dup, 1, none, [], 0, 0, 0, 0) := z_ftd (by decide +kernel)
theorem t136_41 : z_ft 136 41 = some (.getfield 167, 3, none, [], 8, 2, 27, 0) := z_ftd (by decide +kernel)
theorem t136_44 : z_ft 136 44 = some (.iconst 1, 1, none, [], 0, 0, 0, 0) := z_ftd (by decide +kernel)
theorem t136_45 : z_ft 136 45 = some (.iload_n 1, 1, none, [], 0, 0, 0, 0) := z_ftd (by decide +kernel)
theorem t136_46 : z_ft 136 46 = some (.ishl, 1, none, [], 0, 0, 0, 0) := z_ftd (by decide +kernel)
theorem t136_47 : z_ft 136 47 = some (.ixor, 1, none, [], 0, 0, 0, 0) := z_ftd (by decide +kernel)
theorem t136_48 : z_ft 136 48 = some (.putfield 167, 3, none, [], 8, 2, 27, 0) := z_ftd (by decide +kernel)
theorem t136_51 : z_ft 136 51 = some (.iconst 1, 1, none, [], 0, 0, 0, 0) := z_ftd (by decide +kernel)
theorem t136_52 : z_ft 136 52 = some (.ireturn, 1, none, [], 0, 0, 0, 0) := z_ftd (by decide +kernel)
-- X11_shut
theorem e136 (d : Nat) (x1 : Int32) (x2 : Int32) (S : z_S) (hW : z_W S)  : fI (d + 1) 136 [.ref 0, .int x1, .int x2] S = (zb (fI d 137 [.ref 0, .int x1, .int x2] S) fun v1 S2 => (if ¬ v1 = (0 : Int32) then ((fV d 54 [.ref 39, .ref 27, .ref 37] S2).bind fun S5 => some ((1 : Int32), sI S5 27 2 ((gI S5 27 2) ^^^ ((1 : Int32) <<< (x1 &&& 31))))) else (if z_in (3 : Int32) 6 then (if z_in (3 : Int32) 6 then some ((0 : Int32), sI S2 395 ((3 : Int32)).toNatClampNeg ((gI S2 395 ((3 : Int32)).toNatClampNeg) + (1 : Int32))) else none) else none))) := by
  refine (fI_en (Nat.le_of_ble_eq_true rfl) rfl).trans ?_
  refine (k_aload_n t136_0 rfl rfl).trans ?_
  refine (k_iload_n t136_1 rfl rfl).trans ?_
  refine (k_iload_n t136_2 rfl rfl).trans ?_
  refine k_callI (as := [.ref 0, .int x1, .int x2]) (rest := []) t136_3 rfl rfl (by decide) rfl rfl (Nat.le_of_ble_eq_true rfl) rfl (z_rcV hW (zK_0) (by decide)) (by decide) (Or.inr (by decide)) hW (fun v1 S2 hW2 => ?_)
  refine (k_if_ne t136_6 rfl).trans (z_ite (fun g3 => ?_) (fun g3 => ?_))
  · refine (k_aload_n t136_21 rfl rfl).trans ?_
    refine (k_getR t136_22 rfl hW2 zK_0 (by decide) (by decide) (zF_0_9 hW2)).trans ?_
    refine (k_aload_n t136_25 rfl rfl).trans ?_
    refine (k_getR t136_26 rfl hW2 zK_0 (by decide) (by decide) (zF_0_6 hW2)).trans ?_
    refine (k_aload_n t136_29 rfl rfl).trans ?_
    refine (k_getR t136_30 rfl hW2 zK_0 (by decide) (by decide) (zF_0_8 hW2)).trans ?_
    refine k_callV (as := [.ref 39, .ref 27, .ref 37]) (rest := []) t136_33 rfl rfl (by decide) rfl rfl (Nat.le_of_ble_eq_true rfl) rfl (z_rcV hW2 (zK_39) (by decide)) (by decide) (by decide) hW2 (fun S5 hW5 => ?_)
    refine (k_aload_n t136_36 rfl rfl).trans ?_
    refine (k_getR t136_37 rfl hW5 zK_0 (by decide) (by decide) (zF_0_6 hW5)).trans ?_
    refine (k_dupR t136_40 rfl).trans ?_
    refine (k_getI t136_41 rfl hW5 zK_27 (by decide) (by decide)).trans ?_
    refine (k_iconst t136_44 rfl zci_1).trans ?_
    refine (k_iload_n t136_45 rfl rfl).trans ?_
    refine (k_ishl t136_46 rfl).trans ?_
    refine (k_ixor t136_47 rfl).trans ?_
    refine (k_putI t136_48 rfl hW5 zK_27 (by decide) (by decide) (by decide)).trans ?_
    refine (k_iconst t136_51 rfl zci_1).trans ?_
    exact k_zretC t136_52 rfl (by decide) (by decide)
  · refine (k_aload_n t136_9 rfl rfl).trans ?_
    refine (k_getR t136_10 rfl hW2 zK_0 (by decide) (by decide) (zF_0_13 hW2)).trans ?_
    refine (k_iconst t136_13 rfl zci_3).trans ?_
    refine (k_dup2IR t136_14 rfl).trans ?_
    refine (k_iald t136_15 rfl hW2 zK_395 zL_395).trans (z_ite (fun g6 => ?_) (fun _ => rfl))
    refine (k_iconst t136_16 rfl zci_1).trans ?_
    refine (k_iadd t136_17 rfl).trans ?_
    refine (k_iast t136_18 rfl hW2 zK_395 zL_395).trans (z_ite (fun g7 => ?_) (fun _ => rfl))
    refine (k_iconst t136_19 rfl zci_0).trans ?_
    exact k_zretC t136_20 rfl (by decide) (by decide)
theorem t137_0 : z_ft 137 0 = some (.aload_n 0, 1, none, [], 0, 0, 0, 0) := z_ftd (by decide +kernel)
theorem t137_1 : z_ft 137 1 = some (.getfield 20, 3, none, [], 11, 2, 51, 0) := z_ftd (by decide +kernel)
theorem t137_4 : z_ft 137 4 = some (.iload_n 1, 1, none, [], 0, 0, 0, 0) := z_ftd (by decide +kernel)
theorem t137_5 : z_ft 137 5 = some (.invokevirtual 190, 3, none, [], 58, 0, 75, 0) := z_ftd (by decide +kernel)
theorem t137_8 : z_ft 137 8 = some (.ifCond .ne 5, 3, none, [], 13, 0, 0, 0) := z_ftd (by decide +kernel)
theorem t137_11 : z_ft 137 11 = some (.iconst 0, 1, none, [], 0, 0, 0, 0) := z_ftd (by decide +kernel)
theorem t137_12 : z_ft 137 12 = some (.ireturn, 1, none, [], 0, 0, 0, 0) := z_ftd (by decide +kernel)
theorem t137_13 : z_ft 137 13 = some (.iload_n 2, 1, none, [], 0, 0, 0, 0) := z_ftd (by decide +kernel)
theorem t137_14 : z_ft 137 14 = some (.iconst 1, 1, none, [], 0, 0, 0, 0) := z_ftd (by decide +kernel)
theorem t137_15 : z_ft 137 15 = some (.if_icmp .ne 12, 3, none, [], 27, 0, 0, 0) := z_ftd (by decide +kernel)
theorem t137_18 : z_ft 137 18 = some (.aload_n 0, 1, none, [], 0, 0, 0, 0) := z_ftd (by decide +kernel)
theorem t137_19 : z_ft 137 19 = some (.getfield 46, 3, none, [], 11, 6, 55, 0) := z_ftd (by decide +kernel)
theorem t137_22 : z_ft 137 22 = some (.iload_n 1, 1, none, [], 0, 0, 0, 0) := z_ftd (by decide +kernel)
theorem t137_23 : z_ft 137 23 = some (.invokevirtual 196, 3, none, [], 76, 0, 76, 0) := z_ftd (by decide +kernel)
theorem t137_26 : z_ft 137 26 = some (.ireturn, 1, none, [], 0, 0, 0, 0) := z_ftd (by decide +kernel)
theorem t137_27 : z_ft 137 27 = some (.iload_n 2, 1, none, [], 0, 0, 0, 0) := z_ftd (by decide +kernel)
theorem t137_28 : z_ft 137 28 = some (.ifCond .ne 22, 3, none, [], 50, 0, 0, 0) := z_ftd (by decide +kernel)
theorem t137_31 : z_ft 137 31 = some (.aload_n 0, 1, none, [], 0, 0, 0, 0) := z_ftd (by decide +kernel)
theorem t137_32 : z_ft 137 32 = some (.getfield 46, 3, none, [], 11, 6, 55, 0) := z_ftd (by decide +kernel)
theorem t137_35 : z_ft 137 35 = some (.getfield 167, 3, none, [], 8, 2, 27, 0) := z_ftd (by decide +kernel)
theorem t137_38 : z_ft 137 38 = some (.iload_n 1, 1, none, [], 0, 0, 0, 0) := z_ftd (by decide +kernel)
theorem t137_39 : z_ft 137 39 = some (.ishr, 1, none, [], 0, 0, 0, 0) := z_ftd (by decide +kernel)
theorem t137_40 : z_ft 137 40 = some (.iconst 1, 1, none, [], 0, 0, 0, 0) := z_ftd (by decide +kernel)
theorem t137_41 : z_ft 137 41 = some (.iand, 1, none, [], 0, 0, 0, 0) := z_ftd (by decide +kernel)
theorem t137_42 : z_ft 137 42 = some (.iconst 1, 1, none, [], 0, 0, 0, 0) := z_ftd (by decide +kernel)
theorem t137_43 : z_ft 137 43 = some (.if_icmp .ne 7, 3, none, [], 50, 0, 0, 0) := z_ftd (by decide +kernel)
theorem t137_46 : z_ft 137 46 = some (.iconst 1, 1, none, [], 0, 0, 0, 0) := z_ftd (by decide +kernel)
theorem t137_47 : z_ft 137 47 = some (.goto 4, 3, none, [], 51, 0, 0, 0) := z_ftd (by decide +kernel)
theorem t137_50 : z_ft 137 50 = some (.iconst 0, 1, (some []), [], 0, 0, 0, 0) := z_ftd (by decide +kernel)
theorem t137_51 : z_ft 137 51 = some (.ireturn, 1, (some []), [], 0, 0, 0, 0) := z_ftd (by decide +kernel)
noncomputable def b137_50 (d : Nat)  (S : z_S) : Option (Int32 × z_S) := zk kI z_X0 d 137 50 [z_j, z_j, z_j] [] S
theorem b137_50_eq (d : Nat)  (S : z_S) (hW : z_W S)  : b137_50 d  S = some ((0 : Int32), S) := by
  unfold b137_50
  refine (k_iconst t137_50 rfl zci_0).trans ?_
  refine (zk_mk (ls' := [z_j, z_j, z_j]) t137_51 rfl).trans ?_
  exact k_zretC t137_51 rfl (by decide) (by decide)
-- X11_canShut
theorem e137 (d : Nat) (x1 : Int32) (x2 : Int32) (S : z_S) (hW : z_W S)  : fI (d + 1) 137 [.ref 0, .int x1, .int x2] S = (zb (fI d 58 [.ref (gP S 0 2), .int x1] S) fun v1 S2 => (if ¬ v1 = (0 : Int32) then (if ¬ x2 = (1 : Int32) then (if ¬ x2 = (0 : Int32) then b137_50 d S2 else (if ¬ (((gI S2 27 2) >>> (x1 &&& 31)) &&& (1 : Int32)) = (1 : Int32) then b137_50 d S2 else some ((1 : Int32), S2))) else (zb (fI d 76 [.ref 27, .int x1] S2) fun v7 S8 => (if v7 = 0 ∨ v7 = 1 then some (v7, S8) else none))) else some ((0 : Int32), S2))) := by
  refine (fI_en (Nat.le_of_ble_eq_true rfl) rfl).trans ?_
  refine (k_aload_n t137_0 rfl rfl).trans ?_
  refine (k_getR t137_1 rfl hW zK_0 (by decide) (by decide) (zM_0_2 hW).1).trans ?_
  refine (k_iload_n t137_4 rfl rfl).trans ?_
  refine k_callI (as := [.ref (gP S 0 2), .int x1]) (rest := []) t137_5 rfl rfl (by decide) rfl rfl (Nat.le_of_ble_eq_true rfl) rfl (z_rcV hW ((zM_0_2 hW).2) (by decide)) (by decide) (Or.inr (by decide)) hW (fun v1 S2 hW2 => ?_)
  refine (k_if_ne t137_8 rfl).trans (z_ite (fun g3 => ?_) (fun g3 => ?_))
  · refine (k_iload_n t137_13 rfl rfl).trans ?_
    refine (k_iconst t137_14 rfl zci_1).trans ?_
    refine (k_icmp_ne t137_15 rfl).trans (z_ite (fun g4 => ?_) (fun g4 => ?_))
    · refine (k_iload_n t137_27 rfl rfl).trans ?_
      refine (k_if_ne t137_28 rfl).trans (z_ite (fun g5 => ?_) (fun g5 => ?_))
      · exact (zk_mk (ls' := [z_j, z_j, z_j]) t137_50 rfl)
      · refine (k_aload_n t137_31 rfl rfl).trans ?_
        refine (k_getR t137_32 rfl hW2 zK_0 (by decide) (by decide) (zF_0_6 hW2)).trans ?_
        refine (k_getI t137_35 rfl hW2 zK_27 (by decide) (by decide)).trans ?_
        refine (k_iload_n t137_38 rfl rfl).trans ?_
        refine (k_ishr t137_39 rfl).trans ?_
        refine (k_iconst t137_40 rfl zci_1).trans ?_
        refine (k_iand t137_41 rfl).trans ?_
        refine (k_iconst t137_42 rfl zci_1).trans ?_
        refine (k_icmp_ne t137_43 rfl).trans (z_ite (fun g6 => ?_) (fun g6 => ?_))
        · exact (zk_mk (ls' := [z_j, z_j, z_j]) t137_50 rfl)
        · refine (k_iconst t137_46 rfl zci_1).trans ?_
          refine (k_goto t137_47 rfl).trans ?_
          refine (zk_mk (ls' := [z_j, z_j, z_j]) t137_51 rfl).trans ?_
          exact k_zretC t137_51 rfl (by decide) (by decide)
    · refine (k_aload_n t137_18 rfl rfl).trans ?_
      refine (k_getR t137_19 rfl hW2 zK_0 (by decide) (by decide) (zF_0_6 hW2)).trans ?_
      refine (k_iload_n t137_22 rfl rfl).trans ?_
      refine k_callI (as := [.ref 27, .int x1]) (rest := []) t137_23 rfl rfl (by decide) rfl rfl (Nat.le_of_ble_eq_true rfl) rfl (z_rcV hW2 (zK_27) (by decide)) (by decide) (Or.inr (by decide)) hW2 (fun v7 S8 hW8 => ?_)
      exact (k_zreturn t137_26 rfl (by decide)).trans (z_ite (fun _ => rfl) (fun _ => rfl))
  · refine (k_iconst t137_11 rfl zci_0).trans ?_
    exact k_zretC t137_12 rfl (by decide) (by decide)
theorem t138_0 : z_ft 138 0 = some (.aload_n 0, 1, none, [], 0, 0, 0, 0) := z_ftd (by decide +kernel)
theorem t138_1 : z_ft 138 1 = some (.iload_n 1, 1, none, [], 0, 0, 0, 0) := z_ftd (by decide +kernel)
theorem t138_2 : z_ft 138 2 = some (.invokevirtual 324, 3, none, [], 140, 0, 103, 0) := z_ftd (by decide +kernel)
theorem t138_5 : z_ft 138 5 = some (.ifCond .ne 9, 3, none, [], 14, 0, 0, 0) := z_ftd (by decide +kernel)
theorem t138_8 : z_ft 138 8 = some (.aload_n 0, 1, none, [], 0, 0, 0, 0) := z_ftd (by decide +kernel)
theorem t138_9 : z_ft 138 9 = some (.iconst 2, 1, none, [], 0, 0, 0, 0) := z_ftd (by decide +kernel)
theorem t138_10 : z_ft 138 10 = some (.invokevirtual 100, 3, none, [], 150, 0, 66, 0) := z_ftd (by decide +kernel)
theorem t138_13 : z_ft 138 13 = some (.ireturn, 1, none, [], 0, 0, 0, 0) := z_ftd (by decide +kernel)
theorem t138_14 : z_ft 138 14 = some (.aload_n 0, 1, none, [], 0, 0, 0, 0) := z_ftd (by decide +kernel)
theorem t138_15 : z_ft 138 15 = some (.getfield 63, 3, none, [], 11, 9, 58, 0) := z_ftd (by decide +kernel)
theorem t138_18 : z_ft 138 18 = some (.aload_n 0, 1, none, [], 0, 0, 0, 0) := z_ftd (by decide +kernel)
theorem t138_19 : z_ft 138 19 = some (.getfield 46, 3, none, [], 11, 6, 55, 0) := z_ftd (by decide +kernel)
theorem t138_22 : z_ft 138 22 = some (.aload_n 0, 1, none, [], 0, 0, 0, 0) := z_ftd (by decide +kernel)
theorem t138_23 : z_ft 138 23 = some (.getfield 56, 3, none, [], 11, 8, 57, 0) := z_ftd (by decide +kernel)
theorem t138_26 : z_ft 138 26 = some (.invokevirtual 303, 3, none, [], 54, 0, 98, 0) := z_ftd (by decide +kernel)
theorem t138_29 : z_ft 138 29 = some (.iconst 0, 1, none, [], 0, 0, 0, 0) := z_ftd (by decide +kernel)
theorem t138_30 : z_ft 138 30 = some (.istore_n 2, 1, none, [], 0, 0, 0, 0) := z_ftd (by decide +kernel)
theorem t138_31 : z_ft 138 31 = some (.iconst 0, 1, none, [], 0, 0, 0, 0) := z_ftd (by decide +kernel)
theorem t138_32 : z_ft 138 32 = some (.istore_n 3, 1, none, [], 0, 0, 0, 0) := z_ftd (by decide +kernel)
theorem t138_33 : z_ft 138 33 = some (.iload_n 3, 1, (some [0, 1, 2, 3]), [], 0, 0, 0, 0) := z_ftd (by decide +kernel)
theorem t138_34 : z_ft 138 34 = some (.iload_n 1, 1, none, [], 0, 0, 0, 0) := z_ftd (by decide +kernel)
theorem t138_35 : z_ft 138 35 = some (.if_icmp .ge 24, 3, none, [], 59, 0, 0, 0) := z_ftd (by decide +kernel)
theorem t138_38 : z_ft 138 38 = some (.iload_n 2, 1, none, [], 0, 0, 0, 0) := z_ftd (by decide +kernel)
theorem t138_39 : z_ft 138 39 = some (.aload_n 0, 1, none, [], 0, 0, 0, 0) := z_ftd (by decide +kernel)
theorem t138_40 : z_ft 138 40 = some (.getfield 39, 3, none, [], 11, 5, 54, 0) := z_ftd (by decide +kernel)
theorem t138_43 : z_ft 138 43 = some (.aload_n 0, 1, none, [], 0, 0, 0, 0) := z_ftd (by decide +kernel)
theorem t138_44 : z_ft 138 44 = some (.getfield 46, 3, none, [], 11, 6, 55, 0) := z_ftd (by decide +kernel)
theorem t138_47 : z_ft 138 47 = some (.iconst 1, 1, none, [], 0, 0, 0, 0) := z_ftd (by decide +kernel)
theorem t138_48 : z_ft 138 48 = some (.invokevirtual 240, 3, none, [], 35, 0, 84, 0) := z_ftd (by decide +kernel)
theorem t138_51 : z_ft 138 51 = some (.iadd, 1, none, [], 0, 0, 0, 0) := z_ftd (by decide +kernel)
theorem t138_52 : z_ft 138 52 = some (.istore_n 2, 1, none, [], 0, 0, 0, 0) := z_ftd (by decide +kernel)
theorem t138_53 : z_ft 138 53 = some (.iinc 3 1, 3, none, [], 0, 0, 0, 0) := z_ftd (by decide +kernel)
theorem t138_56 : z_ft 138 56 = some (.goto (-23), 3, none, [], 33, 0, 0, 0) := z_ftd (by decide +kernel)
theorem t138_59 : z_ft 138 59 = some (.iload_n 2, 1, none, [], 0, 0, 0, 0) := z_ftd (by decide +kernel)
theorem t138_60 : z_ft 138 60 = some (.ireturn, 1, none, [], 0, 0, 0, 0) := z_ftd (by decide +kernel)
noncomputable def b138_33 (d : Nat) (y1 : Int32) (y2 : Int32) (y3 : Int32) (S : z_S) : Option (Int32 × z_S) := zk kI z_X0 d 138 33 [.ref 0, .int y1, .int y2, .int y3] [] S
theorem b138_33_eq (d : Nat) (y1 : Int32) (y2 : Int32) (y3 : Int32) (S : z_S) (hW : z_W S)  : b138_33 d y1 y2 y3 S = (if y1 ≤ y3 then some (y2, S) else (zb (fI d 35 [.ref 22, .ref 27, .int (1 : Int32)] S) fun v9 S10 => b138_33 d y1 (y2 + v9) (y3 + (1 : Int32)) S10)) := by
  unfold b138_33
  refine (k_iload_n t138_33 rfl rfl).trans ?_
  refine (k_iload_n t138_34 rfl rfl).trans ?_
  refine (k_icmp_ge t138_35 rfl).trans (z_ite (fun g8 => ?_) (fun g8 => ?_))
  · refine (k_iload_n t138_59 rfl rfl).trans ?_
    exact k_ireturn t138_60 rfl (by decide)
  · refine (k_iload_n t138_38 rfl rfl).trans ?_
    refine (k_aload_n t138_39 rfl rfl).trans ?_
    refine (k_getR t138_40 rfl hW zK_0 (by decide) (by decide) (zF_0_5 hW)).trans ?_
    refine (k_aload_n t138_43 rfl rfl).trans ?_
    refine (k_getR t138_44 rfl hW zK_0 (by decide) (by decide) (zF_0_6 hW)).trans ?_
    refine (k_iconst t138_47 rfl zci_1).trans ?_
    refine k_callI (as := [.ref 22, .ref 27, .int (1 : Int32)]) (rest := [.int y2]) t138_48 rfl rfl (by decide) rfl rfl (Nat.le_of_ble_eq_true rfl) rfl (z_rcV hW (zK_22) (by decide)) (by decide) (Or.inl (by decide)) hW (fun v9 S10 hW10 => ?_)
    refine (k_iadd t138_51 rfl).trans ?_
    refine (k_istore_n (ls' := [.ref 0, .int y1, .int (y2 + v9), .int y3]) t138_52 rfl rfl).trans ?_
    refine (k_iinc (b := (y3 + (1 : Int32))) (ls' := [.ref 0, .int y1, .int (y2 + v9), .int (y3 + (1 : Int32))]) t138_53 rfl rfl (by rw [zci_1]) rfl).trans ?_
    refine (k_goto t138_56 rfl).trans ?_
    exact (zk_mk (ls' := [.ref 0, .int y1, .int (y2 + v9), .int (y3 + (1 : Int32))]) t138_33 rfl)
-- X11_nights
theorem e138 (d : Nat) (x1 : Int32) (S : z_S) (hW : z_W S)  : fI (d + 1) 138 [.ref 0, .int x1] S = (zb (fI d 140 [.ref 0, .int x1] S) fun v1 S2 => (if ¬ v1 = (0 : Int32) then ((fV d 54 [.ref 39, .ref 27, .ref 37] S2).bind fun S5 => b138_33 d x1 (0 : Int32) (0 : Int32) S5) else (zb (fI d 150 [.ref 0, .int (2 : Int32)] S2) fun v6 S7 => some (v6, S7)))) := by
  refine (fI_en (Nat.le_of_ble_eq_true rfl) rfl).trans ?_
  refine (k_aload_n t138_0 rfl rfl).trans ?_
  refine (k_iload_n t138_1 rfl rfl).trans ?_
  refine k_callI (as := [.ref 0, .int x1]) (rest := []) t138_2 rfl rfl (by decide) rfl rfl (Nat.le_of_ble_eq_true rfl) rfl (z_rcV hW (zK_0) (by decide)) (by decide) (Or.inr (by decide)) hW (fun v1 S2 hW2 => ?_)
  refine (k_if_ne t138_5 rfl).trans (z_ite (fun g3 => ?_) (fun g3 => ?_))
  · refine (k_aload_n t138_14 rfl rfl).trans ?_
    refine (k_getR t138_15 rfl hW2 zK_0 (by decide) (by decide) (zF_0_9 hW2)).trans ?_
    refine (k_aload_n t138_18 rfl rfl).trans ?_
    refine (k_getR t138_19 rfl hW2 zK_0 (by decide) (by decide) (zF_0_6 hW2)).trans ?_
    refine (k_aload_n t138_22 rfl rfl).trans ?_
    refine (k_getR t138_23 rfl hW2 zK_0 (by decide) (by decide) (zF_0_8 hW2)).trans ?_
    refine k_callV (as := [.ref 39, .ref 27, .ref 37]) (rest := []) t138_26 rfl rfl (by decide) rfl rfl (Nat.le_of_ble_eq_true rfl) rfl (z_rcV hW2 (zK_39) (by decide)) (by decide) (by decide) hW2 (fun S5 hW5 => ?_)
    refine (k_iconst t138_29 rfl zci_0).trans ?_
    refine (k_istore_n (ls' := [.ref 0, .int x1, .int (0 : Int32), z_j]) t138_30 rfl rfl).trans ?_
    refine (k_iconst t138_31 rfl zci_0).trans ?_
    refine (k_istore_n (ls' := [.ref 0, .int x1, .int (0 : Int32), .int (0 : Int32)]) t138_32 rfl rfl).trans ?_
    exact (zk_mk (ls' := [.ref 0, .int x1, .int (0 : Int32), .int (0 : Int32)]) t138_33 rfl)
  · refine (k_aload_n t138_8 rfl rfl).trans ?_
    refine (k_iconst t138_9 rfl zci_2).trans ?_
    refine k_callI (as := [.ref 0, .int (2 : Int32)]) (rest := []) t138_10 rfl rfl (by decide) rfl rfl (Nat.le_of_ble_eq_true rfl) rfl (z_rcV hW2 (zK_0) (by decide)) (by decide) (Or.inl (by decide)) hW2 (fun v6 S7 hW7 => ?_)
    exact k_ireturn t138_13 rfl (by decide)
theorem t139_0 : z_ft 139 0 = some (.aload_n 0, 1, none, [], 0, 0, 0, 0) := z_ftd (by decide +kernel)
theorem t139_1 : z_ft 139 1 = some (.iload_n 1, 1, none, [], 0, 0, 0, 0) := z_ftd (by decide +kernel)
theorem t139_2 : z_ft 139 2 = some (.invokevirtual 324, 3, none, [], 140, 0, 103, 0) := z_ftd (by decide +kernel)
theorem t139_5 : z_ft 139 5 = some (.ifCond .ne 9, 3, none, [], 14, 0, 0, 0) := z_ftd (by decide +kernel)
theorem t139_8 : z_ft 139 8 = some (.aload_n 0, 1, none, [], 0, 0, 0, 0) := z_ftd (by decide +kernel)
theorem t139_9 : z_ft 139 9 = some (.iconst 2, 1, none, [], 0, 0, 0, 0) := z_ftd (by decide +kernel)
theorem t139_10 : z_ft 139 10 = some (.invokevirtual 100, 3, none, [], 150, 0, 66, 0) := z_ftd (by decide +kernel)
theorem t139_13 : z_ft 139 13 = some (.ireturn, 1, none, [], 0, 0, 0, 0) := z_ftd (by decide +kernel)
theorem t139_14 : z_ft 139 14 = some (.aload_n 0, 1, none, [], 0, 0, 0, 0) := z_ftd (by decide +kernel)
theorem t139_15 : z_ft 139 15 = some (.getfield 63, 3, none, [], 11, 9, 58, 0) := z_ftd (by decide +kernel)
theorem t139_18 : z_ft 139 18 = some (.aload_n 0, 1, none, [], 0, 0, 0, 0) := z_ftd (by decide +kernel)
theorem t139_19 : z_ft 139 19 = some (.getfield 46, 3, none, [], 11, 6, 55, 0) := z_ftd (by decide +kernel)
theorem t139_22 : z_ft 139 22 = some (.aload_n 0, 1, none, [], 0, 0, 0, 0) := z_ftd (by decide +kernel)
theorem t139_23 : z_ft 139 23 = some (.getfield 56, 3, none, [], 11, 8, 57, 0) := z_ftd (by decide +kernel)
theorem t139_26 : z_ft 139 26 = some (.invokevirtual 303, 3, none, [], 54, 0, 98, 0) := z_ftd (by decide +kernel)
theorem t139_29 : z_ft 139 29 = some (.iconst 0, 1, none, [], 0, 0, 0, 0) := z_ftd (by decide +kernel)
theorem t139_30 : z_ft 139 30 = some (.istore_n 2, 1, none, [], 0, 0, 0, 0) := z_ftd (by decide +kernel)
theorem t139_31 : z_ft 139 31 = some (.iconst 0, 1, none, [], 0, 0, 0, 0) := z_ftd (by decide +kernel)
theorem t139_32 : z_ft 139 32 = some (.istore_n 3, 1, none, [], 0, 0, 0, 0) := z_ftd (by decide +kernel)
theorem t139_33 : z_ft 139 33 = some (.iload_n 3, 1, (some [0, 1, 2, 3]), [], 0, 0, 0, 0) := z_ftd (by decide +kernel)
theorem t139_34 : z_ft 139 34 = some (.iload_n 1, 1, none, [], 0, 0, 0, 0) := z_ftd (by decide +kernel)
theorem t139_35 : z_ft 139 35 = some (.if_icmp .ge 47, 3, none, [], 82, 0, 0, 0) := z_ftd (by decide +kernel)
theorem t139_38 : z_ft 139 38 = some (.aload_n 0, 1, none, [], 0, 0, 0, 0) := z_ftd (by decide +kernel)
theorem t139_39 : z_ft 139 39 = some (.invokevirtual 327, 3, none, [], 141, 0, 104, 0) := z_ftd (by decide +kernel)
theorem t139_42 : z_ft 139 42 = some (.istore 4, 2, none, [], 0, 0, 0, 0) := z_ftd (by decide +kernel)
theorem t139_44 : z_ft 139 44 = some (.aload_n 0, 1, none, [], 0, 0, 0, 0) := z_ftd (by decide +kernel)
theorem t139_45 : z_ft 139 45 = some (.iload 4, 2, none, [], 0, 0, 0, 0) := z_ftd (by decide +kernel)
theorem t139_47 : z_ft 139 47 = some (.invokevirtual 227, 3, none, [], 152, 0, 81, 0) := z_ftd (by decide +kernel)
theorem t139_50 : z_ft 139 50 = some (.ifCond .eq 13, 3, none, [], 63, 0, 0, 0) := z_ftd (by decide +kernel)
theorem t139_53 : z_ft 139 53 = some (.aload_n 0, 1, none, [], 0, 0, 0, 0) := z_ftd (by decide +kernel)
theorem t139_54 : z_ft 139 54 = some (.iload 4, 2, none, [], 0, 0, 0, 0) := z_ftd (by decide +kernel)
theorem t139_56 : z_ft 139 56 = some (.invokevirtual 307, 3, none, [], 134, 0, 99, 0) := z_ftd (by decide +kernel)
theorem t139_59 : z_ft 139 59 = some (.pop, 1, none, [], 0, 0, 0, 0) := z_ftd (by decide +kernel)
theorem t139_60 : z_ft 139 60 = some (.iinc 2 1, 3, none, [], 0, 0, 0, 0) := z_ftd (by decide +kernel)
theorem t139_63 : z_ft 139 63 = some (.aload_n 0, 1, (some [0, 1, 2, 3]), [], 0, 0, 0, 0) := z_ftd (by decide +kernel)
theorem t139_64 : z_ft 139 64 = some (.getfield 39, 3, none, [], 11, 5, 54, 0) := z_ftd (by decide +kernel)
theorem t139_67 : z_ft 139 67 = some (.aload_n 0, 1, none, [], 0, 0, 0, 0) := z_ftd (by decide +kernel)
theorem t139_68 : z_ft 139 68 = some (.getfield 46, 3, none, [], 11, 6, 55, 0) := z_ftd (by decide +kernel)
theorem t139_71 : z_ft 139 71 = some (.iconst 1, 1, none, [], 0, 0, 0, 0) := z_ftd (by decide +kernel)
theorem t139_72 : z_ft 139 72 = some (.invokevirtual 240, 3, none, [], 35, 0, 84, 0) := z_ftd (by decide +kernel)
theorem t139_75 : z_ft 139 75 = some (.pop, 1, none, [], 0, 0, 0, 0) := z_ftd (by decide +kernel)
theorem t139_76 : z_ft 139 76 = some (.iinc 3 1, 3, none, [], 0, 0, 0, 0) := z_ftd (by decide +kernel)
theorem t139_79 : z_ft 139 79 = some (.goto (-46), 3, none, [], 33, 0, 0, 0) := z_ftd (by decide +kernel)
theorem t139_82 : z_ft 139 82 = some (.iload_n 2, 1, none, [], 0, 0, 0, 0) := z_ftd (by decide +kernel)
theorem t139_83 : z_ft 139 83 = some (.ireturn, 1, none, [], 0, 0, 0, 0) := z_ftd (by decide +kernel)
noncomputable def b139_33 (d : Nat) (y1 : Int32) (y2 : Int32) (y3 : Int32) (S : z_S) : Option (Int32 × z_S) := zk kI z_X0 d 139 33 [.ref 0, .int y1, .int y2, .int y3, z_j] [] S
noncomputable def b139_63 (d : Nat) (y1 : Int32) (y2 : Int32) (y3 : Int32) (S : z_S) : Option (Int32 × z_S) := zk kI z_X0 d 139 63 [.ref 0, .int y1, .int y2, .int y3, z_j] [] S
theorem b139_33_eq (d : Nat) (y1 : Int32) (y2 : Int32) (y3 : Int32) (S : z_S) (hW : z_W S)  : b139_33 d y1 y2 y3 S = (if y1 ≤ y3 then some (y2, S) else (zb (fI d 141 [.ref 0] S) fun v9 S10 => (zb (fI d 152 [.ref 0, .int v9] S10) fun v11 S12 => (if v11 = (0 : Int32) then b139_63 d y1 y2 y3 S12 else (zb (fI d 134 [.ref 0, .int v9] S12) fun v14 S15 => b139_63 d y1 (y2 + (1 : Int32)) y3 S15))))) := by
  unfold b139_33
  refine (k_iload_n t139_33 rfl rfl).trans ?_
  refine (k_iload_n t139_34 rfl rfl).trans ?_
  refine (k_icmp_ge t139_35 rfl).trans (z_ite (fun g8 => ?_) (fun g8 => ?_))
  · refine (k_iload_n t139_82 rfl rfl).trans ?_
    exact k_ireturn t139_83 rfl (by decide)
  · refine (k_aload_n t139_38 rfl rfl).trans ?_
    refine k_callI (as := [.ref 0]) (rest := []) t139_39 rfl rfl (by decide) rfl rfl (Nat.le_of_ble_eq_true rfl) rfl (z_rcV hW (zK_0) (by decide)) (by decide) (Or.inl (by decide)) hW (fun v9 S10 hW10 => ?_)
    refine (k_istore (ls' := [.ref 0, .int y1, .int y2, .int y3, .int v9]) t139_42 rfl rfl).trans ?_
    refine (k_aload_n t139_44 rfl rfl).trans ?_
    refine (k_iload t139_45 rfl rfl).trans ?_
    refine k_callI (as := [.ref 0, .int v9]) (rest := []) t139_47 rfl rfl (by decide) rfl rfl (Nat.le_of_ble_eq_true rfl) rfl (z_rcV hW10 (zK_0) (by decide)) (by decide) (Or.inr (by decide)) hW10 (fun v11 S12 hW12 => ?_)
    refine (k_if_eq t139_50 rfl).trans (z_ite (fun g13 => ?_) (fun g13 => ?_))
    · exact (zk_mk (ls' := [.ref 0, .int y1, .int y2, .int y3, z_j]) t139_63 rfl)
    · refine (k_aload_n t139_53 rfl rfl).trans ?_
      refine (k_iload t139_54 rfl rfl).trans ?_
      refine k_callI (as := [.ref 0, .int v9]) (rest := []) t139_56 rfl rfl (by decide) rfl rfl (Nat.le_of_ble_eq_true rfl) rfl (z_rcV hW12 (zK_0) (by decide)) (by decide) (Or.inl (by decide)) hW12 (fun v14 S15 hW15 => ?_)
      refine (k_popI t139_59 rfl).trans ?_
      refine (k_iinc (b := (y2 + (1 : Int32))) (ls' := [.ref 0, .int y1, .int (y2 + (1 : Int32)), .int y3, .int v9]) t139_60 rfl rfl (by rw [zci_1]) rfl).trans ?_
      exact (zk_mk (ls' := [.ref 0, .int y1, .int (y2 + (1 : Int32)), .int y3, z_j]) t139_63 rfl)
theorem b139_63_eq (d : Nat) (y1 : Int32) (y2 : Int32) (y3 : Int32) (S : z_S) (hW : z_W S)  : b139_63 d y1 y2 y3 S = (zb (fI d 35 [.ref 22, .ref 27, .int (1 : Int32)] S) fun v16 S17 => b139_33 d y1 y2 (y3 + (1 : Int32)) S17) := by
  unfold b139_63
  refine (k_aload_n t139_63 rfl rfl).trans ?_
  refine (k_getR t139_64 rfl hW zK_0 (by decide) (by decide) (zF_0_5 hW)).trans ?_
  refine (k_aload_n t139_67 rfl rfl).trans ?_
  refine (k_getR t139_68 rfl hW zK_0 (by decide) (by decide) (zF_0_6 hW)).trans ?_
  refine (k_iconst t139_71 rfl zci_1).trans ?_
  refine k_callI (as := [.ref 22, .ref 27, .int (1 : Int32)]) (rest := []) t139_72 rfl rfl (by decide) rfl rfl (Nat.le_of_ble_eq_true rfl) rfl (z_rcV hW (zK_22) (by decide)) (by decide) (Or.inl (by decide)) hW (fun v16 S17 hW17 => ?_)
  refine (k_popI t139_75 rfl).trans ?_
  refine (k_iinc (b := (y3 + (1 : Int32))) (ls' := [.ref 0, .int y1, .int y2, .int (y3 + (1 : Int32)), z_j]) t139_76 rfl rfl (by rw [zci_1]) rfl).trans ?_
  refine (k_goto t139_79 rfl).trans ?_
  exact (zk_mk (ls' := [.ref 0, .int y1, .int y2, .int (y3 + (1 : Int32)), z_j]) t139_33 rfl)
-- X11_chance
theorem e139 (d : Nat) (x1 : Int32) (S : z_S) (hW : z_W S)  : fI (d + 1) 139 [.ref 0, .int x1] S = (zb (fI d 140 [.ref 0, .int x1] S) fun v1 S2 => (if ¬ v1 = (0 : Int32) then ((fV d 54 [.ref 39, .ref 27, .ref 37] S2).bind fun S5 => b139_33 d x1 (0 : Int32) (0 : Int32) S5) else (zb (fI d 150 [.ref 0, .int (2 : Int32)] S2) fun v6 S7 => some (v6, S7)))) := by
  refine (fI_en (Nat.le_of_ble_eq_true rfl) rfl).trans ?_
  refine (k_aload_n t139_0 rfl rfl).trans ?_
  refine (k_iload_n t139_1 rfl rfl).trans ?_
  refine k_callI (as := [.ref 0, .int x1]) (rest := []) t139_2 rfl rfl (by decide) rfl rfl (Nat.le_of_ble_eq_true rfl) rfl (z_rcV hW (zK_0) (by decide)) (by decide) (Or.inr (by decide)) hW (fun v1 S2 hW2 => ?_)
  refine (k_if_ne t139_5 rfl).trans (z_ite (fun g3 => ?_) (fun g3 => ?_))
  · refine (k_aload_n t139_14 rfl rfl).trans ?_
    refine (k_getR t139_15 rfl hW2 zK_0 (by decide) (by decide) (zF_0_9 hW2)).trans ?_
    refine (k_aload_n t139_18 rfl rfl).trans ?_
    refine (k_getR t139_19 rfl hW2 zK_0 (by decide) (by decide) (zF_0_6 hW2)).trans ?_
    refine (k_aload_n t139_22 rfl rfl).trans ?_
    refine (k_getR t139_23 rfl hW2 zK_0 (by decide) (by decide) (zF_0_8 hW2)).trans ?_
    refine k_callV (as := [.ref 39, .ref 27, .ref 37]) (rest := []) t139_26 rfl rfl (by decide) rfl rfl (Nat.le_of_ble_eq_true rfl) rfl (z_rcV hW2 (zK_39) (by decide)) (by decide) (by decide) hW2 (fun S5 hW5 => ?_)
    refine (k_iconst t139_29 rfl zci_0).trans ?_
    refine (k_istore_n (ls' := [.ref 0, .int x1, .int (0 : Int32), z_j, z_j]) t139_30 rfl rfl).trans ?_
    refine (k_iconst t139_31 rfl zci_0).trans ?_
    refine (k_istore_n (ls' := [.ref 0, .int x1, .int (0 : Int32), .int (0 : Int32), z_j]) t139_32 rfl rfl).trans ?_
    exact (zk_mk (ls' := [.ref 0, .int x1, .int (0 : Int32), .int (0 : Int32), z_j]) t139_33 rfl)
  · refine (k_aload_n t139_8 rfl rfl).trans ?_
    refine (k_iconst t139_9 rfl zci_2).trans ?_
    refine k_callI (as := [.ref 0, .int (2 : Int32)]) (rest := []) t139_10 rfl rfl (by decide) rfl rfl (Nat.le_of_ble_eq_true rfl) rfl (z_rcV hW2 (zK_0) (by decide)) (by decide) (Or.inl (by decide)) hW2 (fun v6 S7 hW7 => ?_)
    exact k_ireturn t139_13 rfl (by decide)
theorem t140_0 : z_ft 140 0 = some (.aload_n 0, 1, none, [], 0, 0, 0, 0) := z_ftd (by decide +kernel)
theorem t140_1 : z_ft 140 1 = some (.invokevirtual 244, 3, none, [], 151, 0, 85, 0) := z_ftd (by decide +kernel)
theorem t140_4 : z_ft 140 4 = some (.ifCond .eq 20, 3, none, [], 24, 0, 0, 0) := z_ftd (by decide +kernel)
theorem t140_7 : z_ft 140 7 = some (.iload_n 1, 1, none, [], 0, 0, 0, 0) := z_ftd (by decide +kernel)
theorem t140_8 : z_ft 140 8 = some (.iconst 1, 1, none, [], 0, 0, 0, 0) := z_ftd (by decide +kernel)
theorem t140_9 : z_ft 140 9 = some (.if_icmp .lt 15, 3, none, [], 24, 0, 0, 0) := z_ftd (by decide +kernel)
theorem t140_12 : z_ft 140 12 = some (.aload_n 0, 1, none, [], 0, 0, 0, 0) := z_ftd (by decide +kernel)
theorem t140_13 : z_ft 140 13 = some (.iload_n 1, 1, none, [], 0, 0, 0, 0) := z_ftd (by decide +kernel)
theorem t140_14 : z_ft 140 14 = some (.invokevirtual 237, 3, none, [], 121, 0, 83, 0) := z_ftd (by decide +kernel)
theorem t140_17 : z_ft 140 17 = some (.ifCond .eq 7, 3, none, [], 24, 0, 0, 0) := z_ftd (by decide +kernel)
theorem t140_20 : z_ft 140 20 = some (.iconst 1, 1, none, [], 0, 0, 0, 0) := z_ftd (by decide +kernel)
theorem t140_21 : z_ft 140 21 = some (.goto 4, 3, none, [], 25, 0, 0, 0) := z_ftd (by decide +kernel)
theorem t140_24 : z_ft 140 24 = some (.iconst 0, 1, (some []), [], 0, 0, 0, 0) := z_ftd (by decide +kernel)
theorem t140_25 : z_ft 140 25 = some (.ireturn, 1, (some []), [], 0, 0, 0, 0) := z_ftd (by decide +kernel)
noncomputable def b140_24 (d : Nat)  (S : z_S) : Option (Int32 × z_S) := zk kI z_X0 d 140 24 [z_j, z_j] [] S
theorem b140_24_eq (d : Nat)  (S : z_S) (hW : z_W S)  : b140_24 d  S = some ((0 : Int32), S) := by
  unfold b140_24
  refine (k_iconst t140_24 rfl zci_0).trans ?_
  refine (zk_mk (ls' := [z_j, z_j]) t140_25 rfl).trans ?_
  exact k_zretC t140_25 rfl (by decide) (by decide)
-- X11_canGoBy
theorem e140 (d : Nat) (x1 : Int32) (S : z_S) (hW : z_W S)  : fI (d + 1) 140 [.ref 0, .int x1] S = (zb (fI d 151 [.ref 0] S) fun v1 S2 => (if v1 = (0 : Int32) then b140_24 d S2 else (if x1 < (1 : Int32) then b140_24 d S2 else (zb (fI d 121 [.ref 0, .int x1] S2) fun v5 S6 => (if v5 = (0 : Int32) then b140_24 d S6 else some ((1 : Int32), S6)))))) := by
  refine (fI_en (Nat.le_of_ble_eq_true rfl) rfl).trans ?_
  refine (k_aload_n t140_0 rfl rfl).trans ?_
  refine k_callI (as := [.ref 0]) (rest := []) t140_1 rfl rfl (by decide) rfl rfl (Nat.le_of_ble_eq_true rfl) rfl (z_rcV hW (zK_0) (by decide)) (by decide) (Or.inr (by decide)) hW (fun v1 S2 hW2 => ?_)
  refine (k_if_eq t140_4 rfl).trans (z_ite (fun g3 => ?_) (fun g3 => ?_))
  · exact (zk_mk (ls' := [z_j, z_j]) t140_24 rfl)
  · refine (k_iload_n t140_7 rfl rfl).trans ?_
    refine (k_iconst t140_8 rfl zci_1).trans ?_
    refine (k_icmp_lt t140_9 rfl).trans (z_ite (fun g4 => ?_) (fun g4 => ?_))
    · exact (zk_mk (ls' := [z_j, z_j]) t140_24 rfl)
    · refine (k_aload_n t140_12 rfl rfl).trans ?_
      refine (k_iload_n t140_13 rfl rfl).trans ?_
      refine k_callI (as := [.ref 0, .int x1]) (rest := []) t140_14 rfl rfl (by decide) rfl rfl (Nat.le_of_ble_eq_true rfl) rfl (z_rcV hW2 (zK_0) (by decide)) (by decide) (Or.inr (by decide)) hW2 (fun v5 S6 hW6 => ?_)
      refine (k_if_eq t140_17 rfl).trans (z_ite (fun g7 => ?_) (fun g7 => ?_))
      · exact (zk_mk (ls' := [z_j, z_j]) t140_24 rfl)
      · refine (k_iconst t140_20 rfl zci_1).trans ?_
        refine (k_goto t140_21 rfl).trans ?_
        refine (zk_mk (ls' := [z_j, z_j]) t140_25 rfl).trans ?_
        exact k_zretC t140_25 rfl (by decide) (by decide)
theorem t141_0 : z_ft 141 0 = some (.aload_n 0, 1, none, [], 0, 0, 0, 0) := z_ftd (by decide +kernel)
theorem t141_1 : z_ft 141 1 = some (.bipush 100, 2, none, [], 0, 0, 0, 0) := z_ftd (by decide +kernel)
theorem t141_3 : z_ft 141 3 = some (.invokevirtual 330, 3, none, [], 142, 0, 105, 0) := z_ftd (by decide +kernel)
theorem t141_6 : z_ft 141 6 = some (.aload_n 0, 1, none, [], 0, 0, 0, 0) := z_ftd (by decide +kernel)
theorem t141_7 : z_ft 141 7 = some (.getfield 20, 3, none, [], 11, 2, 51, 0) := z_ftd (by decide +kernel)
theorem t141_10 : z_ft 141 10 = some (.getfield 274, 3, none, [], 6, 4, 6, 0) := z_ftd (by decide +kernel)
theorem t141_13 : z_ft 141 13 = some (.if_icmp .ge 7, 3, none, [], 20, 0, 0, 0) := z_ftd (by decide +kernel)
theorem t141_16 : z_ft 141 16 = some (.iconst 1, 1, none, [], 0, 0, 0, 0) := z_ftd (by decide +kernel)
theorem t141_17 : z_ft 141 17 = some (.goto 4, 3, none, [], 21, 0, 0, 0) := z_ftd (by decide +kernel)
theorem t141_20 : z_ft 141 20 = some (.iconst 0, 1, none, [], 0, 0, 0, 0) := z_ftd (by decide +kernel)
theorem t141_21 : z_ft 141 21 = some (.istore_n 1, 1, (some [0]), [], 0, 0, 0, 0) := z_ftd (by decide +kernel)
theorem t141_22 : z_ft 141 22 = some (.iload_n 1, 1, none, [], 0, 0, 0, 0) := z_ftd (by decide +kernel)
theorem t141_23 : z_ft 141 23 = some (.ifCond .eq 27, 3, none, [], 50, 0, 0, 0) := z_ftd (by decide +kernel)
theorem t141_26 : z_ft 141 26 = some (.aload_n 0, 1, none, [], 0, 0, 0, 0) := z_ftd (by decide +kernel)
theorem t141_27 : z_ft 141 27 = some (.getfield 20, 3, none, [], 11, 2, 51, 0) := z_ftd (by decide +kernel)
theorem t141_30 : z_ft 141 30 = some (.getfield 153, 3, none, [], 6, 6, 8, 0) := z_ftd (by decide +kernel)
theorem t141_33 : z_ft 141 33 = some (.ifCond .le 17, 3, none, [], 50, 0, 0, 0) := z_ftd (by decide +kernel)
theorem t141_36 : z_ft 141 36 = some (.aload_n 0, 1, none, [], 0, 0, 0, 0) := z_ftd (by decide +kernel)
theorem t141_37 : z_ft 141 37 = some (.aload_n 0, 1, none, [], 0, 0, 0, 0) := z_ftd (by decide +kernel)
theorem t141_38 : z_ft 141 38 = some (.getfield 20, 3, none, [], 11, 2, 51, 0) := z_ftd (by decide +kernel)
theorem t141_41 : z_ft 141 41 = some (.getfield 153, 3, none, [], 6, 6, 8, 0) := z_ftd (by decide +kernel)
theorem t141_44 : z_ft 141 44 = some (.invokevirtual 330, 3, none, [], 142, 0, 105, 0) := z_ftd (by decide +kernel)
theorem t141_47 : z_ft 141 47 = some (.goto 4, 3, none, [], 51, 0, 0, 0) := z_ftd (by decide +kernel)
theorem t141_50 : z_ft 141 50 = some (.iconst (-1), 1, (some []), [], 0, 0, 0, 0) := z_ftd (by decide +kernel)
theorem t141_51 : z_ft 141 51 = some (.ireturn, 1, (some []), [], 0, 0, 0, 0) := z_ftd (by decide +kernel)
noncomputable def b141_21 (d : Nat) (s0 : Int32) (S : z_S) : Option (Int32 × z_S) := zk kI z_X0 d 141 21 [.ref 0, z_j] [.int s0] S
noncomputable def b141_50 (d : Nat)  (S : z_S) : Option (Int32 × z_S) := zk kI z_X0 d 141 50 [z_j, z_j] [] S
theorem b141_21_eq (d : Nat) (s0 : Int32) (S : z_S) (hW : z_W S)  : b141_21 d s0 S = (if s0 = (0 : Int32) then b141_50 d S else (if (gI S (gP S 0 2) 6) ≤ (0 : Int32) then b141_50 d S else (zb (fI d 142 [.ref 0, .int (gI S (gP S 0 2) 6)] S) fun v6 S7 => some (v6, S7)))) := by
  unfold b141_21
  refine (k_istore_n (ls' := [.ref 0, .int s0]) t141_21 rfl rfl).trans ?_
  refine (k_iload_n t141_22 rfl rfl).trans ?_
  refine (k_if_eq t141_23 rfl).trans (z_ite (fun g4 => ?_) (fun g4 => ?_))
  · exact (zk_mk (ls' := [z_j, z_j]) t141_50 rfl)
  · refine (k_aload_n t141_26 rfl rfl).trans ?_
    refine (k_getR t141_27 rfl hW zK_0 (by decide) (by decide) (zM_0_2 hW).1).trans ?_
    refine (k_getI t141_30 rfl hW (zM_0_2 hW).2 (by decide) (by decide)).trans ?_
    refine (k_if_le t141_33 rfl).trans (z_ite (fun g5 => ?_) (fun g5 => ?_))
    · exact (zk_mk (ls' := [z_j, z_j]) t141_50 rfl)
    · refine (k_aload_n t141_36 rfl rfl).trans ?_
      refine (k_aload_n t141_37 rfl rfl).trans ?_
      refine (k_getR t141_38 rfl hW zK_0 (by decide) (by decide) (zM_0_2 hW).1).trans ?_
      refine (k_getI t141_41 rfl hW (zM_0_2 hW).2 (by decide) (by decide)).trans ?_
      refine k_callI (as := [.ref 0, .int (gI S (gP S 0 2) 6)]) (rest := []) t141_44 rfl rfl (by decide) rfl rfl (Nat.le_of_ble_eq_true rfl) rfl (z_rcV hW (zK_0) (by decide)) (by decide) (Or.inl (by decide)) hW (fun v6 S7 hW7 => ?_)
      refine (k_goto t141_47 rfl).trans ?_
      refine (zk_mk (ls' := [z_j, z_j]) t141_51 rfl).trans ?_
      exact k_ireturn t141_51 rfl (by decide)
theorem b141_50_eq (d : Nat)  (S : z_S) (hW : z_W S)  : b141_50 d  S = some ((-1 : Int32), S) := by
  unfold b141_50
  refine (k_iconst t141_50 rfl zci_m1).trans ?_
  refine (zk_mk (ls' := [z_j, z_j]) t141_51 rfl).trans ?_
  exact k_ireturn t141_51 rfl (by decide)
-- X11_drawKnocker
theorem e141 (d : Nat)  (S : z_S) (hW : z_W S)  : fI (d + 1) 141 [.ref 0] S = (zb (fI d 142 [.ref 0, .int (100 : Int32)] S) fun v1 S2 => (if (gI S2 (gP S2 0 2) 4) ≤ v1 then b141_21 d (0 : Int32) S2 else b141_21 d (1 : Int32) S2)) := by
  refine (fI_en (Nat.le_of_ble_eq_true rfl) rfl).trans ?_
  refine (k_aload_n t141_0 rfl rfl).trans ?_
  refine (k_bipush t141_1 rfl zcb_100).trans ?_
  refine k_callI (as := [.ref 0, .int (100 : Int32)]) (rest := []) t141_3 rfl rfl (by decide) rfl rfl (Nat.le_of_ble_eq_true rfl) rfl (z_rcV hW (zK_0) (by decide)) (by decide) (Or.inl (by decide)) hW (fun v1 S2 hW2 => ?_)
  refine (k_aload_n t141_6 rfl rfl).trans ?_
  refine (k_getR t141_7 rfl hW2 zK_0 (by decide) (by decide) (zM_0_2 hW2).1).trans ?_
  refine (k_getI t141_10 rfl hW2 (zM_0_2 hW2).2 (by decide) (by decide)).trans ?_
  refine (k_icmp_ge t141_13 rfl).trans (z_ite (fun g3 => ?_) (fun g3 => ?_))
  · refine (k_iconst t141_20 rfl zci_0).trans ?_
    exact (zk_mk (ls' := [.ref 0, z_j]) t141_21 rfl)
  · refine (k_iconst t141_16 rfl zci_1).trans ?_
    refine (k_goto t141_17 rfl).trans ?_
    exact (zk_mk (ls' := [.ref 0, z_j]) t141_21 rfl)
theorem t142_0 : z_ft 142 0 = some (.aload_n 0, 1, none, [], 0, 0, 0, 0) := z_ftd (by decide +kernel)
theorem t142_1 : z_ft 142 1 = some (.ldc2_w 333, 3, none, [], 0, 0, 106, 1103515245) := z_ftd (by decide +kernel)
theorem t142_4 : z_ft 142 4 = some (.aload_n 0, 1, none, [], 0, 0, 0, 0) := z_ftd (by decide +kernel)
theorem t142_5 : z_ft 142 5 = some (.getfield 91, 3, none, [], 11, 14, 63, 0) := z_ftd (by decide +kernel)
theorem t142_8 : z_ft 142 8 = some (.i2l, 1, none, [], 0, 0, 0, 0) := z_ftd (by decide +kernel)
theorem t142_9 : z_ft 142 9 = some (.lmul, 1, none, [], 0, 0, 0, 0) := z_ftd (by decide +kernel)
theorem t142_10 : z_ft 142 10 = some (.ldc2_w 335, 3, none, [], 0, 0, 107, 12345) := z_ftd (by decide +kernel)
theorem t142_13 : z_ft 142 13 = some (.ladd, 1, none, [], 0, 0, 0, 0) := z_ftd (by decide +kernel)
theorem t142_14 : z_ft 142 14 = some (.ldc2_w 337, 3, none, [], 0, 0, 108, 2147483647) := z_ftd (by decide +kernel)
theorem t142_17 : z_ft 142 17 = some (.land, 1, none, [], 0, 0, 0, 0) := z_ftd (by decide +kernel)
theorem t142_18 : z_ft 142 18 = some (.l2i, 1, none, [], 0, 0, 0, 0) := z_ftd (by decide +kernel)
theorem t142_19 : z_ft 142 19 = some (.putfield 91, 3, none, [], 11, 14, 63, 0) := z_ftd (by decide +kernel)
theorem t142_22 : z_ft 142 22 = some (.iload_n 1, 1, none, [], 0, 0, 0, 0) := z_ftd (by decide +kernel)
theorem t142_23 : z_ft 142 23 = some (.ifCond .le 15, 3, none, [], 38, 0, 0, 0) := z_ftd (by decide +kernel)
theorem t142_26 : z_ft 142 26 = some (.aload_n 0, 1, none, [], 0, 0, 0, 0) := z_ftd (by decide +kernel)
theorem t142_27 : z_ft 142 27 = some (.getfield 91, 3, none, [], 11, 14, 63, 0) := z_ftd (by decide +kernel)
theorem t142_30 : z_ft 142 30 = some (.bipush 64, 2, none, [], 0, 0, 0, 0) := z_ftd (by decide +kernel)
theorem t142_32 : z_ft 142 32 = some (.idiv, 1, none, [], 0, 0, 0, 0) := z_ftd (by decide +kernel)
theorem t142_33 : z_ft 142 33 = some (.iload_n 1, 1, none, [], 0, 0, 0, 0) := z_ftd (by decide +kernel)
theorem t142_34 : z_ft 142 34 = some (.irem, 1, none, [], 0, 0, 0, 0) := z_ftd (by decide +kernel)
theorem t142_35 : z_ft 142 35 = some (.goto 4, 3, none, [], 39, 0, 0, 0) := z_ftd (by decide +kernel)
theorem t142_38 : z_ft 142 38 = some (.iconst 0, 1, none, [], 0, 0, 0, 0) := z_ftd (by decide +kernel)
theorem t142_39 : z_ft 142 39 = some (.ireturn, 1, (some []), [], 0, 0, 0, 0) := z_ftd (by decide +kernel)
-- X11_draw
theorem e142 (d : Nat) (x1 : Int32) (S : z_S) (hW : z_W S)  : fI (d + 1) 142 [.ref 0, .int x1] S = (if x1 ≤ (0 : Int32) then some ((0 : Int32), sI S 0 14 (((((1103515245 : Int64) * ((gI S 0 14)).toInt64) + (12345 : Int64)) &&& (2147483647 : Int64))).toInt32) else (if x1 = 0 then none else some ((((gI (sI S 0 14 (((((1103515245 : Int64) * ((gI S 0 14)).toInt64) + (12345 : Int64)) &&& (2147483647 : Int64))).toInt32) 0 14) / (64 : Int32)) - ((gI (sI S 0 14 (((((1103515245 : Int64) * ((gI S 0 14)).toInt64) + (12345 : Int64)) &&& (2147483647 : Int64))).toInt32) 0 14) / (64 : Int32)) / x1 * x1), sI S 0 14 (((((1103515245 : Int64) * ((gI S 0 14)).toInt64) + (12345 : Int64)) &&& (2147483647 : Int64))).toInt32))) := by
  refine (fI_en (Nat.le_of_ble_eq_true rfl) rfl).trans ?_
  refine (k_aload_n t142_0 rfl rfl).trans ?_
  refine (k_ldc2_w t142_1 rfl zcl_1103515245).trans ?_
  refine (k_aload_n t142_4 rfl rfl).trans ?_
  refine (k_getI t142_5 rfl hW zK_0 (by decide) (by decide)).trans ?_
  refine (k_i2l t142_8 rfl).trans ?_
  refine (k_lmul t142_9 rfl).trans ?_
  refine (k_ldc2_w t142_10 rfl zcl_12345).trans ?_
  refine (k_ladd t142_13 rfl).trans ?_
  refine (k_ldc2_w t142_14 rfl zcl_2147483647).trans ?_
  refine (k_land t142_17 rfl).trans ?_
  refine (k_l2i t142_18 rfl).trans ?_
  refine (k_putI t142_19 rfl hW zK_0 (by decide) (by decide) (by decide)).trans ?_
  refine (k_iload_n t142_22 rfl rfl).trans ?_
  refine (k_if_le t142_23 rfl).trans (z_ite (fun g1 => ?_) (fun g1 => ?_))
  · refine (k_iconst t142_38 rfl zci_0).trans ?_
    refine (zk_mk (ls' := [z_j, z_j]) t142_39 rfl).trans ?_
    exact k_ireturn t142_39 rfl (by decide)
  · refine (k_aload_n t142_26 rfl rfl).trans ?_
    refine (k_getI t142_27 rfl hW.sI zK_0 (by decide) (by decide)).trans ?_
    refine (k_bipush t142_30 rfl zcb_64).trans ?_
    refine ((k_idiv t142_32 rfl).trans (if_neg (by decide))).trans ?_
    refine (k_iload_n t142_33 rfl rfl).trans ?_
    refine (k_irem t142_34 rfl).trans (z_ite (fun g2 => rfl) (fun g2 => ?_))
    refine (k_goto t142_35 rfl).trans ?_
    refine (zk_mk (ls' := [z_j, z_j]) t142_39 rfl).trans ?_
    exact k_ireturn t142_39 rfl (by decide)
theorem t143_0 : z_ft 143 0 = some (.aload_n 0, 1, none, [], 0, 0, 0, 0) := z_ftd (by decide +kernel)
theorem t143_1 : z_ft 143 1 = some (.getfield 63, 3, none, [], 11, 9, 58, 0) := z_ftd (by decide +kernel)
theorem t143_4 : z_ft 143 4 = some (.getfield 134, 3, none, [], 5, 0, 38, 0) := z_ftd (by decide +kernel)
theorem t143_7 : z_ft 143 7 = some (.ifCond .ne 15, 3, none, [], 22, 0, 0, 0) := z_ftd (by decide +kernel)
theorem t143_10 : z_ft 143 10 = some (.aload_n 0, 1, none, [], 0, 0, 0, 0) := z_ftd (by decide +kernel)
theorem t143_11 : z_ft 143 11 = some (.getfield 88, 3, none, [], 11, 13, 62, 0) := z_ftd (by decide +kernel)
theorem t143_14 : z_ft 143 14 = some (.iconst 4, 1, none, [], 0, 0, 0, 0) := z_ftd (by decide +kernel)
theorem t143_15 : z_ft 143 15 = some (.dup2, 1, none, [], 0, 0, 0, 0) := z_ftd (by decide +kernel)
theorem t143_16 : z_ft 143 16 = some (.iaload, 1, none, [], 0, 0, 0, 0) := z_ftd (by decide +kernel)
theorem t143_17 : z_ft 143 17 = some (.iconst 1, 1, none, [], 0, 0, 0, 0) := z_ftd (by decide +kernel)
theorem t143_18 : z_ft 143 18 = some (.iadd, 1, none, [], 0, 0, 0, 0) := z_ftd (by decide +kernel)
theorem t143_19 : z_ft 143 19 = some (.iastore, 1, none, [], 0, 0, 0, 0) := z_ftd (by decide +kernel)
theorem t143_20 : z_ft 143 20 = some (.iconst 0, 1, none, [], 0, 0, 0, 0) := z_ftd (by decide +kernel)
theorem t143_21 : z_ft 143 21 = some (.ireturn, 1, none, [], 0, 0, 0, 0) := z_ftd (by decide +kernel)
theorem t143_22 : z_ft 143 22 = some (.aload_n 0, 1, none, [], 0, 0, 0, 0) := z_ftd (by decide +kernel)
theorem t143_23 : z_ft 143 23 = some (.getfield 63, 3, none, [], 11, 9, 58, 0) := z_ftd (by decide +kernel)
theorem t143_26 : z_ft 143 26 = some (.aload_n 0, 1, none, [], 0, 0, 0, 0) := z_ftd (by decide +kernel)
theorem t143_27 : z_ft 143 27 = some (.getfield 46, 3, none, [], 11, 6, 55, 0) := z_ftd (by decide +kernel)
theorem t143_30 : z_ft 143 30 = some (.aload_n 0, 1, none, [], 0, 0, 0, 0) := z_ftd (by decide +kernel)
theorem t143_31 : z_ft 143 31 = some (.getfield 56, 3, none, [], 11, 8, 57, 0) := z_ftd (by decide +kernel)
theorem t143_34 : z_ft 143 34 = some (.invokevirtual 339, 3, none, [], 55, 0, 109, 0) := z_ftd (by decide +kernel)
theorem t143_37 : z_ft 143 37 = some (.iconst 1, 1, none, [], 0, 0, 0, 0) := z_ftd (by decide +kernel)
theorem t143_38 : z_ft 143 38 = some (.ireturn, 1, none, [], 0, 0, 0, 0) := z_ftd (by decide +kernel)
-- X11_undo
theorem e143 (d : Nat)  (S : z_S) (hW : z_W S)  : fI (d + 1) 143 [.ref 0] S = (if ¬ (gI S 39 0) = (0 : Int32) then ((fV d 55 [.ref 39, .ref 27, .ref 37] S).bind fun S3 => some ((1 : Int32), S3)) else (if z_in (4 : Int32) 6 then (if z_in (4 : Int32) 6 then some ((0 : Int32), sI S 395 ((4 : Int32)).toNatClampNeg ((gI S 395 ((4 : Int32)).toNatClampNeg) + (1 : Int32))) else none) else none)) := by
  refine (fI_en (Nat.le_of_ble_eq_true rfl) rfl).trans ?_
  refine (k_aload_n t143_0 rfl rfl).trans ?_
  refine (k_getR t143_1 rfl hW zK_0 (by decide) (by decide) (zF_0_9 hW)).trans ?_
  refine (k_getI t143_4 rfl hW zK_39 (by decide) (by decide)).trans ?_
  refine (k_if_ne t143_7 rfl).trans (z_ite (fun g1 => ?_) (fun g1 => ?_))
  · refine (k_aload_n t143_22 rfl rfl).trans ?_
    refine (k_getR t143_23 rfl hW zK_0 (by decide) (by decide) (zF_0_9 hW)).trans ?_
    refine (k_aload_n t143_26 rfl rfl).trans ?_
    refine (k_getR t143_27 rfl hW zK_0 (by decide) (by decide) (zF_0_6 hW)).trans ?_
    refine (k_aload_n t143_30 rfl rfl).trans ?_
    refine (k_getR t143_31 rfl hW zK_0 (by decide) (by decide) (zF_0_8 hW)).trans ?_
    refine k_callV (as := [.ref 39, .ref 27, .ref 37]) (rest := []) t143_34 rfl rfl (by decide) rfl rfl (Nat.le_of_ble_eq_true rfl) rfl (z_rcV hW (zK_39) (by decide)) (by decide) (by decide) hW (fun S3 hW3 => ?_)
    refine (k_iconst t143_37 rfl zci_1).trans ?_
    exact k_zretC t143_38 rfl (by decide) (by decide)
  · refine (k_aload_n t143_10 rfl rfl).trans ?_
    refine (k_getR t143_11 rfl hW zK_0 (by decide) (by decide) (zF_0_13 hW)).trans ?_
    refine (k_iconst t143_14 rfl zci_4).trans ?_
    refine (k_dup2IR t143_15 rfl).trans ?_
    refine (k_iald t143_16 rfl hW zK_395 zL_395).trans (z_ite (fun g4 => ?_) (fun _ => rfl))
    refine (k_iconst t143_17 rfl zci_1).trans ?_
    refine (k_iadd t143_18 rfl).trans ?_
    refine (k_iast t143_19 rfl hW zK_395 zL_395).trans (z_ite (fun g5 => ?_) (fun _ => rfl))
    refine (k_iconst t143_20 rfl zci_0).trans ?_
    exact k_zretC t143_21 rfl (by decide) (by decide)
theorem t144_0 : z_ft 144 0 = some (.iload_n 1, 1, none, [], 0, 0, 0, 0) := z_ftd (by decide +kernel)
theorem t144_1 : z_ft 144 1 = some (.ifCond .ge 15, 3, none, [], 16, 0, 0, 0) := z_ftd (by decide +kernel)
theorem t144_4 : z_ft 144 4 = some (.aload_n 0, 1, none, [], 0, 0, 0, 0) := z_ftd (by decide +kernel)
theorem t144_5 : z_ft 144 5 = some (.getfield 88, 3, none, [], 11, 13, 62, 0) := z_ftd (by decide +kernel)
theorem t144_8 : z_ft 144 8 = some (.iconst 5, 1, none, [], 0, 0, 0, 0) := z_ftd (by decide +kernel)
theorem t144_9 : z_ft 144 9 = some (.dup2, 1, none, [], 0, 0, 0, 0) := z_ftd (by decide +kernel)
theorem t144_10 : z_ft 144 10 = some (.iaload, 1, none, [], 0, 0, 0, 0) := z_ftd (by decide +kernel)
theorem t144_11 : z_ft 144 11 = some (.iconst 1, 1, none, [], 0, 0, 0, 0) := z_ftd (by decide +kernel)
theorem t144_12 : z_ft 144 12 = some (.iadd, 1, none, [], 0, 0, 0, 0) := z_ftd (by decide +kernel)
theorem t144_13 : z_ft 144 13 = some (.iastore, 1, none, [], 0, 0, 0, 0) := z_ftd (by decide +kernel)
theorem t144_14 : z_ft 144 14 = some (.iconst 0, 1, none, [], 0, 0, 0, 0) := z_ftd (by decide +kernel)
theorem t144_15 : z_ft 144 15 = some (.ireturn, 1, none, [], 0, 0, 0, 0) := z_ftd (by decide +kernel)
theorem t144_16 : z_ft 144 16 = some (.aload_n 0, 1, none, [], 0, 0, 0, 0) := z_ftd (by decide +kernel)
theorem t144_17 : z_ft 144 17 = some (.iload_n 1, 1, none, [], 0, 0, 0, 0) := z_ftd (by decide +kernel)
theorem t144_18 : z_ft 144 18 = some (.putfield 91, 3, none, [], 11, 14, 63, 0) := z_ftd (by decide +kernel)
theorem t144_21 : z_ft 144 21 = some (.iconst 1, 1, none, [], 0, 0, 0, 0) := z_ftd (by decide +kernel)
theorem t144_22 : z_ft 144 22 = some (.ireturn, 1, none, [], 0, 0, 0, 0) := z_ftd (by decide +kernel)
-- X11_seed
theorem e144 (d : Nat) (x1 : Int32) (S : z_S) (hW : z_W S)  : fI (d + 1) 144 [.ref 0, .int x1] S = (if (0 : Int32) ≤ x1 then some ((1 : Int32), sI S 0 14 x1) else (if z_in (5 : Int32) 6 then (if z_in (5 : Int32) 6 then some ((0 : Int32), sI S 395 ((5 : Int32)).toNatClampNeg ((gI S 395 ((5 : Int32)).toNatClampNeg) + (1 : Int32))) else none) else none)) := by
  refine (fI_en (Nat.le_of_ble_eq_true rfl) rfl).trans ?_
  refine (k_iload_n t144_0 rfl rfl).trans ?_
  refine (k_if_ge t144_1 rfl).trans (z_ite (fun g1 => ?_) (fun g1 => ?_))
  · refine (k_aload_n t144_16 rfl rfl).trans ?_
    refine (k_iload_n t144_17 rfl rfl).trans ?_
    refine (k_putI t144_18 rfl hW zK_0 (by decide) (by decide) (by decide)).trans ?_
    refine (k_iconst t144_21 rfl zci_1).trans ?_
    exact k_zretC t144_22 rfl (by decide) (by decide)
  · refine (k_aload_n t144_4 rfl rfl).trans ?_
    refine (k_getR t144_5 rfl hW zK_0 (by decide) (by decide) (zF_0_13 hW)).trans ?_
    refine (k_iconst t144_8 rfl zci_5).trans ?_
    refine (k_dup2IR t144_9 rfl).trans ?_
    refine (k_iald t144_10 rfl hW zK_395 zL_395).trans (z_ite (fun g2 => ?_) (fun _ => rfl))
    refine (k_iconst t144_11 rfl zci_1).trans ?_
    refine (k_iadd t144_12 rfl).trans ?_
    refine (k_iast t144_13 rfl hW zK_395 zL_395).trans (z_ite (fun g3 => ?_) (fun _ => rfl))
    refine (k_iconst t144_14 rfl zci_0).trans ?_
    exact k_zretC t144_15 rfl (by decide) (by decide)
theorem t145_0 : z_ft 145 0 = some (.aload_n 0, 1, none, [], 0, 0, 0, 0) := z_ftd (by decide +kernel)
theorem t145_1 : z_ft 145 1 = some (.getfield 56, 3, none, [], 11, 8, 57, 0) := z_ftd (by decide +kernel)
theorem t145_4 : z_ft 145 4 = some (.iload_n 1, 1, none, [], 0, 0, 0, 0) := z_ftd (by decide +kernel)
theorem t145_5 : z_ft 145 5 = some (.iload_n 2, 1, none, [], 0, 0, 0, 0) := z_ftd (by decide +kernel)
theorem t145_6 : z_ft 145 6 = some (.invokevirtual 342, 3, none, [], 51, 0, 110, 0) := z_ftd (by decide +kernel)
theorem t145_9 : z_ft 145 9 = some (.ireturn, 1, none, [], 0, 0, 0, 0) := z_ftd (by decide +kernel)
-- X11_kept
theorem e145 (d : Nat) (x1 : Int32) (x2 : Int32) (S : z_S) (hW : z_W S)  : fI (d + 1) 145 [.ref 0, .int x1, .int x2] S = (zb (fI d 51 [.ref 37, .int x1, .int x2] S) fun v1 S2 => some (v1, S2)) := by
  refine (fI_en (Nat.le_of_ble_eq_true rfl) rfl).trans ?_
  refine (k_aload_n t145_0 rfl rfl).trans ?_
  refine (k_getR t145_1 rfl hW zK_0 (by decide) (by decide) (zF_0_8 hW)).trans ?_
  refine (k_iload_n t145_4 rfl rfl).trans ?_
  refine (k_iload_n t145_5 rfl rfl).trans ?_
  refine k_callI (as := [.ref 37, .int x1, .int x2]) (rest := []) t145_6 rfl rfl (by decide) rfl rfl (Nat.le_of_ble_eq_true rfl) rfl (z_rcV hW (zK_37) (by decide)) (by decide) (Or.inl (by decide)) hW (fun v1 S2 hW2 => ?_)
  exact k_ireturn t145_9 rfl (by decide)
theorem t146_0 : z_ft 146 0 = some (.aload_n 0, 1, none, [], 0, 0, 0, 0) := z_ftd (by decide +kernel)
theorem t146_1 : z_ft 146 1 = some (.getfield 84, 3, none, [], 11, 12, 61, 0) := z_ftd (by decide +kernel)
theorem t146_4 : z_ft 146 4 = some (.aload_n 0, 1, none, [], 0, 0, 0, 0) := z_ftd (by decide +kernel)
theorem t146_5 : z_ft 146 5 = some (.getfield 46, 3, none, [], 11, 6, 55, 0) := z_ftd (by decide +kernel)
theorem t146_8 : z_ft 146 8 = some (.aload_n 0, 1, none, [], 0, 0, 0, 0) := z_ftd (by decide +kernel)
theorem t146_9 : z_ft 146 9 = some (.getfield 20, 3, none, [], 11, 2, 51, 0) := z_ftd (by decide +kernel)
theorem t146_12 : z_ft 146 12 = some (.invokevirtual 345, 3, none, [], 42, 0, 111, 0) := z_ftd (by decide +kernel)
theorem t146_15 : z_ft 146 15 = some (.aload_n 0, 1, none, [], 0, 0, 0, 0) := z_ftd (by decide +kernel)
theorem t146_16 : z_ft 146 16 = some (.getfield 84, 3, none, [], 11, 12, 61, 0) := z_ftd (by decide +kernel)
theorem t146_19 : z_ft 146 19 = some (.getfield 349, 3, none, [], 3, 0, 47, 0) := z_ftd (by decide +kernel)
theorem t146_22 : z_ft 146 22 = some (.ireturn, 1, none, [], 0, 0, 0, 0) := z_ftd (by decide +kernel)
-- X11_image
theorem e146 (d : Nat)  (S : z_S) (hW : z_W S)  : fI (d + 1) 146 [.ref 0] S = ((fV d 42 [.ref 393, .ref 27, .ref (gP S 0 2)] S).bind fun S2 => some ((gI S2 393 0), S2)) := by
  refine (fI_en (Nat.le_of_ble_eq_true rfl) rfl).trans ?_
  refine (k_aload_n t146_0 rfl rfl).trans ?_
  refine (k_getR t146_1 rfl hW zK_0 (by decide) (by decide) (zF_0_12 hW)).trans ?_
  refine (k_aload_n t146_4 rfl rfl).trans ?_
  refine (k_getR t146_5 rfl hW zK_0 (by decide) (by decide) (zF_0_6 hW)).trans ?_
  refine (k_aload_n t146_8 rfl rfl).trans ?_
  refine (k_getR t146_9 rfl hW zK_0 (by decide) (by decide) (zM_0_2 hW).1).trans ?_
  refine k_callV (as := [.ref 393, .ref 27, .ref (gP S 0 2)]) (rest := []) t146_12 rfl rfl (by decide) rfl rfl (Nat.le_of_ble_eq_true rfl) rfl (z_rcV hW (zK_393) (by decide)) (by decide) (by decide) hW (fun S2 hW2 => ?_)
  refine (k_aload_n t146_15 rfl rfl).trans ?_
  refine (k_getR t146_16 rfl hW2 zK_0 (by decide) (by decide) (zF_0_12 hW2)).trans ?_
  refine (k_getI t146_19 rfl hW2 zK_393 (by decide) (by decide)).trans ?_
  exact k_ireturn t146_22 rfl (by decide)
theorem t147_0 : z_ft 147 0 = some (.iload_n 1, 1, none, [], 0, 0, 0, 0) := z_ftd (by decide +kernel)
theorem t147_1 : z_ft 147 1 = some (.ifCond .lt 26, 3, none, [], 27, 0, 0, 0) := z_ftd (by decide +kernel)
theorem t147_4 : z_ft 147 4 = some (.iload_n 1, 1, none, [], 0, 0, 0, 0) := z_ftd (by decide +kernel)
theorem t147_5 : z_ft 147 5 = some (.aload_n 0, 1, none, [], 0, 0, 0, 0) := z_ftd (by decide +kernel)
theorem t147_6 : z_ft 147 6 = some (.getfield 84, 3, none, [], 11, 12, 61, 0) := z_ftd (by decide +kernel)
theorem t147_9 : z_ft 147 9 = some (.getfield 349, 3, none, [], 3, 0, 47, 0) := z_ftd (by decide +kernel)
theorem t147_12 : z_ft 147 12 = some (.if_icmp .ge 15, 3, none, [], 27, 0, 0, 0) := z_ftd (by decide +kernel)
theorem t147_15 : z_ft 147 15 = some (.aload_n 0, 1, none, [], 0, 0, 0, 0) := z_ftd (by decide +kernel)
theorem t147_16 : z_ft 147 16 = some (.getfield 84, 3, none, [], 11, 12, 61, 0) := z_ftd (by decide +kernel)
theorem t147_19 : z_ft 147 19 = some (.getfield 352, 3, none, [], 3, 1, 48, 0) := z_ftd (by decide +kernel)
theorem t147_22 : z_ft 147 22 = some (.iload_n 1, 1, none, [], 0, 0, 0, 0) := z_ftd (by decide +kernel)
theorem t147_23 : z_ft 147 23 = some (.iaload, 1, none, [], 0, 0, 0, 0) := z_ftd (by decide +kernel)
theorem t147_24 : z_ft 147 24 = some (.goto 4, 3, none, [], 28, 0, 0, 0) := z_ftd (by decide +kernel)
theorem t147_27 : z_ft 147 27 = some (.iconst (-1), 1, (some []), [], 0, 0, 0, 0) := z_ftd (by decide +kernel)
theorem t147_28 : z_ft 147 28 = some (.ireturn, 1, (some []), [], 0, 0, 0, 0) := z_ftd (by decide +kernel)
noncomputable def b147_27 (d : Nat)  (S : z_S) : Option (Int32 × z_S) := zk kI z_X0 d 147 27 [z_j, z_j] [] S
theorem b147_27_eq (d : Nat)  (S : z_S) (hW : z_W S)  : b147_27 d  S = some ((-1 : Int32), S) := by
  unfold b147_27
  refine (k_iconst t147_27 rfl zci_m1).trans ?_
  refine (zk_mk (ls' := [z_j, z_j]) t147_28 rfl).trans ?_
  exact k_ireturn t147_28 rfl (by decide)
-- X11_octet
theorem e147 (d : Nat) (x1 : Int32) (S : z_S) (hW : z_W S)  : fI (d + 1) 147 [.ref 0, .int x1] S = (if x1 < (0 : Int32) then b147_27 d S else (if (gI S 393 0) ≤ x1 then b147_27 d S else (if z_in x1 61 then some ((gI S 394 (x1).toNatClampNeg), S) else none))) := by
  refine (fI_en (Nat.le_of_ble_eq_true rfl) rfl).trans ?_
  refine (k_iload_n t147_0 rfl rfl).trans ?_
  refine (k_if_lt t147_1 rfl).trans (z_ite (fun g1 => ?_) (fun g1 => ?_))
  · exact (zk_mk (ls' := [z_j, z_j]) t147_27 rfl)
  · refine (k_iload_n t147_4 rfl rfl).trans ?_
    refine (k_aload_n t147_5 rfl rfl).trans ?_
    refine (k_getR t147_6 rfl hW zK_0 (by decide) (by decide) (zF_0_12 hW)).trans ?_
    refine (k_getI t147_9 rfl hW zK_393 (by decide) (by decide)).trans ?_
    refine (k_icmp_ge t147_12 rfl).trans (z_ite (fun g2 => ?_) (fun g2 => ?_))
    · exact (zk_mk (ls' := [z_j, z_j]) t147_27 rfl)
    · refine (k_aload_n t147_15 rfl rfl).trans ?_
      refine (k_getR t147_16 rfl hW zK_0 (by decide) (by decide) (zF_0_12 hW)).trans ?_
      refine (k_getR t147_19 rfl hW zK_393 (by decide) (by decide) (zF_393_1 hW)).trans ?_
      refine (k_iload_n t147_22 rfl rfl).trans ?_
      refine (k_iald t147_23 rfl hW zK_394 zL_394).trans (z_ite (fun g3 => ?_) (fun _ => rfl))
      refine (k_goto t147_24 rfl).trans ?_
      refine (zk_mk (ls' := [z_j, z_j]) t147_28 rfl).trans ?_
      exact k_ireturn t147_28 rfl (by decide)
theorem t148_0 : z_ft 148 0 = some (.aload_n 0, 1, none, [], 0, 0, 0, 0) := z_ftd (by decide +kernel)
theorem t148_1 : z_ft 148 1 = some (.invokevirtual 244, 3, none, [], 151, 0, 85, 0) := z_ftd (by decide +kernel)
theorem t148_4 : z_ft 148 4 = some (.ifCond .eq 33, 3, none, [], 37, 0, 0, 0) := z_ftd (by decide +kernel)
theorem t148_7 : z_ft 148 7 = some (.aload_n 0, 1, none, [], 0, 0, 0, 0) := z_ftd (by decide +kernel)
theorem t148_8 : z_ft 148 8 = some (.getfield 84, 3, none, [], 11, 12, 61, 0) := z_ftd (by decide +kernel)
theorem t148_11 : z_ft 148 11 = some (.aload_n 0, 1, none, [], 0, 0, 0, 0) := z_ftd (by decide +kernel)
theorem t148_12 : z_ft 148 12 = some (.getfield 9, 3, none, [], 11, 0, 49, 0) := z_ftd (by decide +kernel)
theorem t148_15 : z_ft 148 15 = some (.aload_n 0, 1, none, [], 0, 0, 0, 0) := z_ftd (by decide +kernel)
theorem t148_16 : z_ft 148 16 = some (.getfield 13, 3, none, [], 11, 1, 50, 0) := z_ftd (by decide +kernel)
theorem t148_19 : z_ft 148 19 = some (.aload_n 0, 1, none, [], 0, 0, 0, 0) := z_ftd (by decide +kernel)
theorem t148_20 : z_ft 148 20 = some (.getfield 20, 3, none, [], 11, 2, 51, 0) := z_ftd (by decide +kernel)
theorem t148_23 : z_ft 148 23 = some (.aload_n 0, 1, none, [], 0, 0, 0, 0) := z_ftd (by decide +kernel)
theorem t148_24 : z_ft 148 24 = some (.getfield 50, 3, none, [], 11, 7, 56, 0) := z_ftd (by decide +kernel)
theorem t148_27 : z_ft 148 27 = some (.invokevirtual 355, 3, none, [], 45, 0, 112, 0) := z_ftd (by decide +kernel)
theorem t148_30 : z_ft 148 30 = some (.ifCond .eq 7, 3, none, [], 37, 0, 0, 0) := z_ftd (by decide +kernel)
theorem t148_33 : z_ft 148 33 = some (.iconst 1, 1, none, [], 0, 0, 0, 0) := z_ftd (by decide +kernel)
theorem t148_34 : z_ft 148 34 = some (.goto 4, 3, none, [], 38, 0, 0, 0) := z_ftd (by decide +kernel)
theorem t148_37 : z_ft 148 37 = some (.iconst 0, 1, (some [0]), [], 0, 0, 0, 0) := z_ftd (by decide +kernel)
theorem t148_38 : z_ft 148 38 = some (.istore_n 1, 1, (some [0]), [], 0, 0, 0, 0) := z_ftd (by decide +kernel)
theorem t148_39 : z_ft 148 39 = some (.aload_n 0, 1, none, [], 0, 0, 0, 0) := z_ftd (by decide +kernel)
theorem t148_40 : z_ft 148 40 = some (.iconst 0, 1, none, [], 0, 0, 0, 0) := z_ftd (by decide +kernel)
theorem t148_41 : z_ft 148 41 = some (.putfield 13, 3, none, [], 11, 1, 50, 0) := z_ftd (by decide +kernel)
theorem t148_44 : z_ft 148 44 = some (.iload_n 1, 1, none, [], 0, 0, 0, 0) := z_ftd (by decide +kernel)
theorem t148_45 : z_ft 148 45 = some (.ifCond .ne 15, 3, none, [], 60, 0, 0, 0) := z_ftd (by decide +kernel)
theorem t148_48 : z_ft 148 48 = some (.aload_n 0, 1, none, [], 0, 0, 0, 0) := z_ftd (by decide +kernel)
theorem t148_49 : z_ft 148 49 = some (.getfield 88, 3, none, [], 11, 13, 62, 0) := z_ftd (by decide +kernel)
theorem t148_52 : z_ft 148 52 = some (.iconst 5, 1, none, [], 0, 0, 0, 0) := z_ftd (by decide +kernel)
theorem t148_53 : z_ft 148 53 = some (.dup2, 1, none, [], 0, 0, 0, 0) := z_ftd (by decide +kernel)
theorem t148_54 : z_ft 148 54 = some (.iaload, 1, none, [], 0, 0, 0, 0) := z_ftd (by decide +kernel)
theorem t148_55 : z_ft 148 55 = some (.iconst 1, 1, none, [], 0, 0, 0, 0) := z_ftd (by decide +kernel)
theorem t148_56 : z_ft 148 56 = some (.iadd, 1, none, [], 0, 0, 0, 0) := z_ftd (by decide +kernel)
theorem t148_57 : z_ft 148 57 = some (.iastore, 1, none, [], 0, 0, 0, 0) := z_ftd (by decide +kernel)
theorem t148_58 : z_ft 148 58 = some (.iconst 0, 1, none, [], 0, 0, 0, 0) := z_ftd (by decide +kernel)
theorem t148_59 : z_ft 148 59 = some (.ireturn, 1, none, [], 0, 0, 0, 0) := z_ftd (by decide +kernel)
theorem t148_60 : z_ft 148 60 = some (.aload_n 0, 1, none, [], 0, 0, 0, 0) := z_ftd (by decide +kernel)
theorem t148_61 : z_ft 148 61 = some (.getfield 46, 3, none, [], 11, 6, 55, 0) := z_ftd (by decide +kernel)
theorem t148_64 : z_ft 148 64 = some (.aload_n 0, 1, none, [], 0, 0, 0, 0) := z_ftd (by decide +kernel)
theorem t148_65 : z_ft 148 65 = some (.getfield 50, 3, none, [], 11, 7, 56, 0) := z_ftd (by decide +kernel)
theorem t148_68 : z_ft 148 68 = some (.invokevirtual 230, 3, none, [], 75, 0, 82, 0) := z_ftd (by decide +kernel)
theorem t148_71 : z_ft 148 71 = some (.aload_n 0, 1, none, [], 0, 0, 0, 0) := z_ftd (by decide +kernel)
theorem t148_72 : z_ft 148 72 = some (.getfield 56, 3, none, [], 11, 8, 57, 0) := z_ftd (by decide +kernel)
theorem t148_75 : z_ft 148 75 = some (.iconst 0, 1, none, [], 0, 0, 0, 0) := z_ftd (by decide +kernel)
theorem t148_76 : z_ft 148 76 = some (.putfield 131, 3, none, [], 4, 0, 35, 0) := z_ftd (by decide +kernel)
theorem t148_79 : z_ft 148 79 = some (.aload_n 0, 1, none, [], 0, 0, 0, 0) := z_ftd (by decide +kernel)
theorem t148_80 : z_ft 148 80 = some (.getfield 63, 3, none, [], 11, 9, 58, 0) := z_ftd (by decide +kernel)
theorem t148_83 : z_ft 148 83 = some (.iconst 0, 1, none, [], 0, 0, 0, 0) := z_ftd (by decide +kernel)
theorem t148_84 : z_ft 148 84 = some (.putfield 134, 3, none, [], 5, 0, 38, 0) := z_ftd (by decide +kernel)
theorem t148_87 : z_ft 148 87 = some (.iconst 1, 1, none, [], 0, 0, 0, 0) := z_ftd (by decide +kernel)
theorem t148_88 : z_ft 148 88 = some (.ireturn, 1, none, [], 0, 0, 0, 0) := z_ftd (by decide +kernel)
noncomputable def b148_37 (d : Nat)  (S : z_S) : Option (Int32 × z_S) := zk kI z_X0 d 148 37 [.ref 0, z_j] [] S
noncomputable def b148_38 (d : Nat) (s0 : Int32) (S : z_S) : Option (Int32 × z_S) := zk kI z_X0 d 148 38 [.ref 0, z_j] [.int s0] S
theorem b148_37_eq (d : Nat)  (S : z_S) (hW : z_W S)  : b148_37 d  S = b148_38 d (0 : Int32) S := by
  unfold b148_37
  refine (k_iconst t148_37 rfl zci_0).trans ?_
  exact (zk_mk (ls' := [.ref 0, z_j]) t148_38 rfl)
theorem b148_38_eq (d : Nat) (s0 : Int32) (S : z_S) (hW : z_W S)  : b148_38 d s0 S = (if ¬ s0 = (0 : Int32) then ((fV d 75 [.ref 27, .ref 32] (sI S 0 1 (0 : Int32))).bind fun S9 => some ((1 : Int32), sI (sI S9 37 0 (0 : Int32)) 39 0 (0 : Int32))) else (if z_in (5 : Int32) 6 then (if z_in (5 : Int32) 6 then some ((0 : Int32), sI (sI S 0 1 (0 : Int32)) 395 ((5 : Int32)).toNatClampNeg ((gI (sI S 0 1 (0 : Int32)) 395 ((5 : Int32)).toNatClampNeg) + (1 : Int32))) else none) else none)) := by
  unfold b148_38
  refine (k_istore_n (ls' := [.ref 0, .int s0]) t148_38 rfl rfl).trans ?_
  refine (k_aload_n t148_39 rfl rfl).trans ?_
  refine (k_iconst t148_40 rfl zci_0).trans ?_
  refine (k_putI t148_41 rfl hW zK_0 (by decide) (by decide) (by decide)).trans ?_
  refine (k_iload_n t148_44 rfl rfl).trans ?_
  refine (k_if_ne t148_45 rfl).trans (z_ite (fun g7 => ?_) (fun g7 => ?_))
  · refine (k_aload_n t148_60 rfl rfl).trans ?_
    refine (k_getR t148_61 rfl hW.sI zK_0 (by decide) (by decide) (zF_0_6 hW.sI)).trans ?_
    refine (k_aload_n t148_64 rfl rfl).trans ?_
    refine (k_getR t148_65 rfl hW.sI zK_0 (by decide) (by decide) (zF_0_7 hW.sI)).trans ?_
    refine k_callV (as := [.ref 27, .ref 32]) (rest := []) t148_68 rfl rfl (by decide) rfl rfl (Nat.le_of_ble_eq_true rfl) rfl (z_rcV hW.sI (zK_27) (by decide)) (by decide) (by decide) hW.sI (fun S9 hW9 => ?_)
    refine (k_aload_n t148_71 rfl rfl).trans ?_
    refine (k_getR t148_72 rfl hW9 zK_0 (by decide) (by decide) (zF_0_8 hW9)).trans ?_
    refine (k_iconst t148_75 rfl zci_0).trans ?_
    refine (k_putI t148_76 rfl hW9 zK_37 (by decide) (by decide) (by decide)).trans ?_
    refine (k_aload_n t148_79 rfl rfl).trans ?_
    refine (k_getR t148_80 rfl hW9.sI zK_0 (by decide) (by decide) (zF_0_9 hW9.sI)).trans ?_
    refine (k_iconst t148_83 rfl zci_0).trans ?_
    refine (k_putI t148_84 rfl hW9.sI zK_39 (by decide) (by decide) (by decide)).trans ?_
    refine (k_iconst t148_87 rfl zci_1).trans ?_
    exact k_zretC t148_88 rfl (by decide) (by decide)
  · refine (k_aload_n t148_48 rfl rfl).trans ?_
    refine (k_getR t148_49 rfl hW.sI zK_0 (by decide) (by decide) (zF_0_13 hW.sI)).trans ?_
    refine (k_iconst t148_52 rfl zci_5).trans ?_
    refine (k_dup2IR t148_53 rfl).trans ?_
    refine (k_iald t148_54 rfl hW.sI zK_395 zL_395).trans (z_ite (fun g10 => ?_) (fun _ => rfl))
    refine (k_iconst t148_55 rfl zci_1).trans ?_
    refine (k_iadd t148_56 rfl).trans ?_
    refine (k_iast t148_57 rfl hW.sI zK_395 zL_395).trans (z_ite (fun g11 => ?_) (fun _ => rfl))
    refine (k_iconst t148_58 rfl zci_0).trans ?_
    exact k_zretC t148_59 rfl (by decide) (by decide)
-- X11_on
theorem e148 (d : Nat)  (S : z_S) (hW : z_W S)  : fI (d + 1) 148 [.ref 0] S = (zb (fI d 151 [.ref 0] S) fun v1 S2 => (if v1 = (0 : Int32) then b148_37 d S2 else (zb (fI d 45 [.ref 393, .ref 1, .int (gI S2 0 1), .ref (gP S2 0 2), .ref 32] S2) fun v4 S5 => (if v4 = (0 : Int32) then b148_37 d S5 else b148_38 d (1 : Int32) S5)))) := by
  refine (fI_en (Nat.le_of_ble_eq_true rfl) rfl).trans ?_
  refine (k_aload_n t148_0 rfl rfl).trans ?_
  refine k_callI (as := [.ref 0]) (rest := []) t148_1 rfl rfl (by decide) rfl rfl (Nat.le_of_ble_eq_true rfl) rfl (z_rcV hW (zK_0) (by decide)) (by decide) (Or.inr (by decide)) hW (fun v1 S2 hW2 => ?_)
  refine (k_if_eq t148_4 rfl).trans (z_ite (fun g3 => ?_) (fun g3 => ?_))
  · exact (zk_mk (ls' := [.ref 0, z_j]) t148_37 rfl)
  · refine (k_aload_n t148_7 rfl rfl).trans ?_
    refine (k_getR t148_8 rfl hW2 zK_0 (by decide) (by decide) (zF_0_12 hW2)).trans ?_
    refine (k_aload_n t148_11 rfl rfl).trans ?_
    refine (k_getR t148_12 rfl hW2 zK_0 (by decide) (by decide) (zF_0_0 hW2)).trans ?_
    refine (k_aload_n t148_15 rfl rfl).trans ?_
    refine (k_getI t148_16 rfl hW2 zK_0 (by decide) (by decide)).trans ?_
    refine (k_aload_n t148_19 rfl rfl).trans ?_
    refine (k_getR t148_20 rfl hW2 zK_0 (by decide) (by decide) (zM_0_2 hW2).1).trans ?_
    refine (k_aload_n t148_23 rfl rfl).trans ?_
    refine (k_getR t148_24 rfl hW2 zK_0 (by decide) (by decide) (zF_0_7 hW2)).trans ?_
    refine k_callI (as := [.ref 393, .ref 1, .int (gI S2 0 1), .ref (gP S2 0 2), .ref 32]) (rest := []) t148_27 rfl rfl (by decide) rfl rfl (Nat.le_of_ble_eq_true rfl) rfl (z_rcV hW2 (zK_393) (by decide)) (by decide) (Or.inr (by decide)) hW2 (fun v4 S5 hW5 => ?_)
    refine (k_if_eq t148_30 rfl).trans (z_ite (fun g6 => ?_) (fun g6 => ?_))
    · exact (zk_mk (ls' := [.ref 0, z_j]) t148_37 rfl)
    · refine (k_iconst t148_33 rfl zci_1).trans ?_
      refine (k_goto t148_34 rfl).trans ?_
      exact (zk_mk (ls' := [.ref 0, z_j]) t148_38 rfl)
theorem t149_0 : z_ft 149 0 = some (.iload_n 1, 1, none, [], 0, 0, 0, 0) := z_ftd (by decide +kernel)
theorem t149_1 : z_ft 149 1 = some (.ifCond .lt 18, 3, none, [], 19, 0, 0, 0) := z_ftd (by decide +kernel)
theorem t149_4 : z_ft 149 4 = some (.iload_n 1, 1, none, [], 0, 0, 0, 0) := z_ftd (by decide +kernel)
theorem t149_5 : z_ft 149 5 = some (.bipush 6, 2, none, [], 0, 0, 0, 0) := z_ftd (by decide +kernel)
theorem t149_7 : z_ft 149 7 = some (.if_icmp .ge 12, 3, none, [], 19, 0, 0, 0) := z_ftd (by decide +kernel)
theorem t149_10 : z_ft 149 10 = some (.aload_n 0, 1, none, [], 0, 0, 0, 0) := z_ftd (by decide +kernel)
theorem t149_11 : z_ft 149 11 = some (.getfield 88, 3, none, [], 11, 13, 62, 0) := z_ftd (by decide +kernel)
theorem t149_14 : z_ft 149 14 = some (.iload_n 1, 1, none, [], 0, 0, 0, 0) := z_ftd (by decide +kernel)
theorem t149_15 : z_ft 149 15 = some (.iaload, 1, none, [], 0, 0, 0, 0) := z_ftd (by decide +kernel)
theorem t149_16 : z_ft 149 16 = some (.goto 4, 3, none, [], 20, 0, 0, 0) := z_ftd (by decide +kernel)
theorem t149_19 : z_ft 149 19 = some (.iconst (-1), 1, (some []), [], 0, 0, 0, 0) := z_ftd (by decide +kernel)
theorem t149_20 : z_ft 149 20 = some (.ireturn, 1, (some []), [], 0, 0, 0, 0) := z_ftd (by decide +kernel)
noncomputable def b149_19 (d : Nat)  (S : z_S) : Option (Int32 × z_S) := zk kI z_X0 d 149 19 [z_j, z_j] [] S
theorem b149_19_eq (d : Nat)  (S : z_S) (hW : z_W S)  : b149_19 d  S = some ((-1 : Int32), S) := by
  unfold b149_19
  refine (k_iconst t149_19 rfl zci_m1).trans ?_
  refine (zk_mk (ls' := [z_j, z_j]) t149_20 rfl).trans ?_
  exact k_ireturn t149_20 rfl (by decide)
-- X11_status
theorem e149 (d : Nat) (x1 : Int32) (S : z_S) (hW : z_W S)  : fI (d + 1) 149 [.ref 0, .int x1] S = (if x1 < (0 : Int32) then b149_19 d S else (if (6 : Int32) ≤ x1 then b149_19 d S else (if z_in x1 6 then some ((gI S 395 (x1).toNatClampNeg), S) else none))) := by
  refine (fI_en (Nat.le_of_ble_eq_true rfl) rfl).trans ?_
  refine (k_iload_n t149_0 rfl rfl).trans ?_
  refine (k_if_lt t149_1 rfl).trans (z_ite (fun g1 => ?_) (fun g1 => ?_))
  · exact (zk_mk (ls' := [z_j, z_j]) t149_19 rfl)
  · refine (k_iload_n t149_4 rfl rfl).trans ?_
    refine (k_bipush t149_5 rfl zcb_6).trans ?_
    refine (k_icmp_ge t149_7 rfl).trans (z_ite (fun g2 => ?_) (fun g2 => ?_))
    · exact (zk_mk (ls' := [z_j, z_j]) t149_19 rfl)
    · refine (k_aload_n t149_10 rfl rfl).trans ?_
      refine (k_getR t149_11 rfl hW zK_0 (by decide) (by decide) (zF_0_13 hW)).trans ?_
      refine (k_iload_n t149_14 rfl rfl).trans ?_
      refine (k_iald t149_15 rfl hW zK_395 zL_395).trans (z_ite (fun g3 => ?_) (fun _ => rfl))
      refine (k_goto t149_16 rfl).trans ?_
      refine (zk_mk (ls' := [z_j, z_j]) t149_20 rfl).trans ?_
      exact k_ireturn t149_20 rfl (by decide)
theorem t150_0 : z_ft 150 0 = some (.aload_n 0, 1, none, [], 0, 0, 0, 0) := z_ftd (by decide +kernel)
theorem t150_1 : z_ft 150 1 = some (.getfield 88, 3, none, [], 11, 13, 62, 0) := z_ftd (by decide +kernel)
theorem t150_4 : z_ft 150 4 = some (.iload_n 1, 1, none, [], 0, 0, 0, 0) := z_ftd (by decide +kernel)
theorem t150_5 : z_ft 150 5 = some (.dup2, 1, none, [], 0, 0, 0, 0) := z_ftd (by decide +kernel)
theorem t150_6 : z_ft 150 6 = some (.iaload, 1, none, [], 0, 0, 0, 0) := z_ftd (by decide +kernel)
theorem t150_7 : z_ft 150 7 = some (.iconst 1, 1, none, [], 0, 0, 0, 0) := z_ftd (by decide +kernel)
theorem t150_8 : z_ft 150 8 = some (.iadd, 1, none, [], 0, 0, 0, 0) := z_ftd (by decide +kernel)
theorem t150_9 : z_ft 150 9 = some (.iastore, 1, none, [], 0, 0, 0, 0) := z_ftd (by decide +kernel)
theorem t150_10 : z_ft 150 10 = some (.iconst (-1), 1, none, [], 0, 0, 0, 0) := z_ftd (by decide +kernel)
theorem t150_11 : z_ft 150 11 = some (.ireturn, 1, none, [], 0, 0, 0, 0) := z_ftd (by decide +kernel)
-- X11_refused
theorem e150 (d : Nat) (x1 : Int32) (S : z_S) (hW : z_W S)  : fI (d + 1) 150 [.ref 0, .int x1] S = (if z_in x1 6 then (if z_in x1 6 then some ((-1 : Int32), sI S 395 (x1).toNatClampNeg ((gI S 395 (x1).toNatClampNeg) + (1 : Int32))) else none) else none) := by
  refine (fI_en (Nat.le_of_ble_eq_true rfl) rfl).trans ?_
  refine (k_aload_n t150_0 rfl rfl).trans ?_
  refine (k_getR t150_1 rfl hW zK_0 (by decide) (by decide) (zF_0_13 hW)).trans ?_
  refine (k_iload_n t150_4 rfl rfl).trans ?_
  refine (k_dup2IR t150_5 rfl).trans ?_
  refine (k_iald t150_6 rfl hW zK_395 zL_395).trans (z_ite (fun g1 => ?_) (fun _ => rfl))
  refine (k_iconst t150_7 rfl zci_1).trans ?_
  refine (k_iadd t150_8 rfl).trans ?_
  refine (k_iast t150_9 rfl hW zK_395 zL_395).trans (z_ite (fun g2 => ?_) (fun _ => rfl))
  refine (k_iconst t150_10 rfl zci_m1).trans ?_
  exact k_ireturn t150_11 rfl (by decide)
theorem t151_0 : z_ft 151 0 = some (.aload_n 0, 1, none, [], 0, 0, 0, 0) := z_ftd (by decide +kernel)
theorem t151_1 : z_ft 151 1 = some (.getfield 20, 3, none, [], 11, 2, 51, 0) := z_ftd (by decide +kernel)
theorem t151_4 : z_ft 151 4 = some (.getfield 122, 3, none, [], 6, 0, 2, 0) := z_ftd (by decide +kernel)
theorem t151_7 : z_ft 151 7 = some (.ifCond .le 7, 3, none, [], 14, 0, 0, 0) := z_ftd (by decide +kernel)
theorem t151_10 : z_ft 151 10 = some (.iconst 1, 1, none, [], 0, 0, 0, 0) := z_ftd (by decide +kernel)
theorem t151_11 : z_ft 151 11 = some (.goto 4, 3, none, [], 15, 0, 0, 0) := z_ftd (by decide +kernel)
theorem t151_14 : z_ft 151 14 = some (.iconst 0, 1, none, [], 0, 0, 0, 0) := z_ftd (by decide +kernel)
theorem t151_15 : z_ft 151 15 = some (.ireturn, 1, (some []), [], 0, 0, 0, 0) := z_ftd (by decide +kernel)
-- X11_hasLodge
theorem e151 (d : Nat)  (S : z_S) (hW : z_W S)  : fI (d + 1) 151 [.ref 0] S = (if (gI S (gP S 0 2) 0) ≤ (0 : Int32) then some ((0 : Int32), S) else some ((1 : Int32), S)) := by
  refine (fI_en (Nat.le_of_ble_eq_true rfl) rfl).trans ?_
  refine (k_aload_n t151_0 rfl rfl).trans ?_
  refine (k_getR t151_1 rfl hW zK_0 (by decide) (by decide) (zM_0_2 hW).1).trans ?_
  refine (k_getI t151_4 rfl hW (zM_0_2 hW).2 (by decide) (by decide)).trans ?_
  refine (k_if_le t151_7 rfl).trans (z_ite (fun g1 => ?_) (fun g1 => ?_))
  · refine (k_iconst t151_14 rfl zci_0).trans ?_
    refine (zk_mk (ls' := [z_j]) t151_15 rfl).trans ?_
    exact k_zretC t151_15 rfl (by decide) (by decide)
  · refine (k_iconst t151_10 rfl zci_1).trans ?_
    refine (k_goto t151_11 rfl).trans ?_
    refine (zk_mk (ls' := [z_j]) t151_15 rfl).trans ?_
    exact k_zretC t151_15 rfl (by decide) (by decide)
theorem t152_0 : z_ft 152 0 = some (.aload_n 0, 1, none, [], 0, 0, 0, 0) := z_ftd (by decide +kernel)
theorem t152_1 : z_ft 152 1 = some (.getfield 20, 3, none, [], 11, 2, 51, 0) := z_ftd (by decide +kernel)
theorem t152_4 : z_ft 152 4 = some (.iload_n 1, 1, none, [], 0, 0, 0, 0) := z_ftd (by decide +kernel)
theorem t152_5 : z_ft 152 5 = some (.invokevirtual 177, 3, none, [], 59, 0, 73, 0) := z_ftd (by decide +kernel)
theorem t152_8 : z_ft 152 8 = some (.ifCond .eq 22, 3, none, [], 30, 0, 0, 0) := z_ftd (by decide +kernel)
theorem t152_11 : z_ft 152 11 = some (.aload_n 0, 1, none, [], 0, 0, 0, 0) := z_ftd (by decide +kernel)
theorem t152_12 : z_ft 152 12 = some (.getfield 46, 3, none, [], 11, 6, 55, 0) := z_ftd (by decide +kernel)
theorem t152_15 : z_ft 152 15 = some (.getfield 215, 3, none, [], 8, 6, 31, 0) := z_ftd (by decide +kernel)
theorem t152_18 : z_ft 152 18 = some (.iload_n 1, 1, none, [], 0, 0, 0, 0) := z_ftd (by decide +kernel)
theorem t152_19 : z_ft 152 19 = some (.iaload, 1, none, [], 0, 0, 0, 0) := z_ftd (by decide +kernel)
theorem t152_20 : z_ft 152 20 = some (.sipush 255, 3, none, [], 0, 0, 0, 0) := z_ftd (by decide +kernel)
theorem t152_23 : z_ft 152 23 = some (.if_icmp .ne 7, 3, none, [], 30, 0, 0, 0) := z_ftd (by decide +kernel)
theorem t152_26 : z_ft 152 26 = some (.iconst 1, 1, none, [], 0, 0, 0, 0) := z_ftd (by decide +kernel)
theorem t152_27 : z_ft 152 27 = some (.goto 4, 3, none, [], 31, 0, 0, 0) := z_ftd (by decide +kernel)
theorem t152_30 : z_ft 152 30 = some (.iconst 0, 1, (some []), [], 0, 0, 0, 0) := z_ftd (by decide +kernel)
theorem t152_31 : z_ft 152 31 = some (.ireturn, 1, (some []), [], 0, 0, 0, 0) := z_ftd (by decide +kernel)
noncomputable def b152_30 (d : Nat)  (S : z_S) : Option (Int32 × z_S) := zk kI z_X0 d 152 30 [z_j, z_j] [] S
theorem b152_30_eq (d : Nat)  (S : z_S) (hW : z_W S)  : b152_30 d  S = some ((0 : Int32), S) := by
  unfold b152_30
  refine (k_iconst t152_30 rfl zci_0).trans ?_
  refine (zk_mk (ls' := [z_j, z_j]) t152_31 rfl).trans ?_
  exact k_zretC t152_31 rfl (by decide) (by decide)
-- X11_isAway
theorem e152 (d : Nat) (x1 : Int32) (S : z_S) (hW : z_W S)  : fI (d + 1) 152 [.ref 0, .int x1] S = (zb (fI d 59 [.ref (gP S 0 2), .int x1] S) fun v1 S2 => (if v1 = (0 : Int32) then b152_30 d S2 else (if z_in x1 16 then (if ¬ (gI S2 29 (x1).toNatClampNeg) = (255 : Int32) then b152_30 d S2 else some ((1 : Int32), S2)) else none))) := by
  refine (fI_en (Nat.le_of_ble_eq_true rfl) rfl).trans ?_
  refine (k_aload_n t152_0 rfl rfl).trans ?_
  refine (k_getR t152_1 rfl hW zK_0 (by decide) (by decide) (zM_0_2 hW).1).trans ?_
  refine (k_iload_n t152_4 rfl rfl).trans ?_
  refine k_callI (as := [.ref (gP S 0 2), .int x1]) (rest := []) t152_5 rfl rfl (by decide) rfl rfl (Nat.le_of_ble_eq_true rfl) rfl (z_rcV hW ((zM_0_2 hW).2) (by decide)) (by decide) (Or.inr (by decide)) hW (fun v1 S2 hW2 => ?_)
  refine (k_if_eq t152_8 rfl).trans (z_ite (fun g3 => ?_) (fun g3 => ?_))
  · exact (zk_mk (ls' := [z_j, z_j]) t152_30 rfl)
  · refine (k_aload_n t152_11 rfl rfl).trans ?_
    refine (k_getR t152_12 rfl hW2 zK_0 (by decide) (by decide) (zF_0_6 hW2)).trans ?_
    refine (k_getR t152_15 rfl hW2 zK_27 (by decide) (by decide) (zF_27_6 hW2)).trans ?_
    refine (k_iload_n t152_18 rfl rfl).trans ?_
    refine (k_iald t152_19 rfl hW2 zK_29 zL_29).trans (z_ite (fun g4 => ?_) (fun _ => rfl))
    refine (k_sipush t152_20 rfl zcs_255).trans ?_
    refine (k_icmp_ne t152_23 rfl).trans (z_ite (fun g5 => ?_) (fun g5 => ?_))
    · exact (zk_mk (ls' := [z_j, z_j]) t152_30 rfl)
    · refine (k_iconst t152_26 rfl zci_1).trans ?_
      refine (k_goto t152_27 rfl).trans ?_
      refine (zk_mk (ls' := [z_j, z_j]) t152_31 rfl).trans ?_
      exact k_zretC t152_31 rfl (by decide) (by decide)
theorem t153_0 : z_ft 153 0 = some (.iload_n 1, 1, none, [], 0, 0, 0, 0) := z_ftd (by decide +kernel)
theorem t153_1 : z_ft 153 1 = some (.ifCond .lt 19, 3, none, [], 20, 0, 0, 0) := z_ftd (by decide +kernel)
theorem t153_4 : z_ft 153 4 = some (.iload_n 1, 1, none, [], 0, 0, 0, 0) := z_ftd (by decide +kernel)
theorem t153_5 : z_ft 153 5 = some (.aload_n 0, 1, none, [], 0, 0, 0, 0) := z_ftd (by decide +kernel)
theorem t153_6 : z_ft 153 6 = some (.getfield 20, 3, none, [], 11, 2, 51, 0) := z_ftd (by decide +kernel)
theorem t153_9 : z_ft 153 9 = some (.getfield 153, 3, none, [], 6, 6, 8, 0) := z_ftd (by decide +kernel)
theorem t153_12 : z_ft 153 12 = some (.ishr, 1, none, [], 0, 0, 0, 0) := z_ftd (by decide +kernel)
theorem t153_13 : z_ft 153 13 = some (.ifCond .ne 7, 3, none, [], 20, 0, 0, 0) := z_ftd (by decide +kernel)
theorem t153_16 : z_ft 153 16 = some (.iconst 1, 1, none, [], 0, 0, 0, 0) := z_ftd (by decide +kernel)
theorem t153_17 : z_ft 153 17 = some (.goto 4, 3, none, [], 21, 0, 0, 0) := z_ftd (by decide +kernel)
theorem t153_20 : z_ft 153 20 = some (.iconst 0, 1, (some []), [], 0, 0, 0, 0) := z_ftd (by decide +kernel)
theorem t153_21 : z_ft 153 21 = some (.ireturn, 1, (some []), [], 0, 0, 0, 0) := z_ftd (by decide +kernel)
noncomputable def b153_20 (d : Nat)  (S : z_S) : Option (Int32 × z_S) := zk kI z_X0 d 153 20 [z_j, z_j] [] S
theorem b153_20_eq (d : Nat)  (S : z_S) (hW : z_W S)  : b153_20 d  S = some ((0 : Int32), S) := by
  unfold b153_20
  refine (k_iconst t153_20 rfl zci_0).trans ?_
  refine (zk_mk (ls' := [z_j, z_j]) t153_21 rfl).trans ?_
  exact k_zretC t153_21 rfl (by decide) (by decide)
-- X11_isSet
theorem e153 (d : Nat) (x1 : Int32) (S : z_S) (hW : z_W S)  : fI (d + 1) 153 [.ref 0, .int x1] S = (if x1 < (0 : Int32) then b153_20 d S else (if ¬ (x1 >>> ((gI S (gP S 0 2) 6) &&& 31)) = (0 : Int32) then b153_20 d S else some ((1 : Int32), S))) := by
  refine (fI_en (Nat.le_of_ble_eq_true rfl) rfl).trans ?_
  refine (k_iload_n t153_0 rfl rfl).trans ?_
  refine (k_if_lt t153_1 rfl).trans (z_ite (fun g1 => ?_) (fun g1 => ?_))
  · exact (zk_mk (ls' := [z_j, z_j]) t153_20 rfl)
  · refine (k_iload_n t153_4 rfl rfl).trans ?_
    refine (k_aload_n t153_5 rfl rfl).trans ?_
    refine (k_getR t153_6 rfl hW zK_0 (by decide) (by decide) (zM_0_2 hW).1).trans ?_
    refine (k_getI t153_9 rfl hW (zM_0_2 hW).2 (by decide) (by decide)).trans ?_
    refine (k_ishr t153_12 rfl).trans ?_
    refine (k_if_ne t153_13 rfl).trans (z_ite (fun g2 => ?_) (fun g2 => ?_))
    · exact (zk_mk (ls' := [z_j, z_j]) t153_20 rfl)
    · refine (k_iconst t153_16 rfl zci_1).trans ?_
      refine (k_goto t153_17 rfl).trans ?_
      refine (zk_mk (ls' := [z_j, z_j]) t153_21 rfl).trans ?_
      exact k_zretC t153_21 rfl (by decide) (by decide)
