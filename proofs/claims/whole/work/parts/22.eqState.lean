/-! EQUATIONS of State (written by wip/whole/gen/eqs.py). -/
theorem t50_0 : z_ft 50 0 = some (.aload_n 0, 1, none, [], 0, 0, 0, 0) := z_ftd (by decide +kernel)
theorem t50_1 : z_ft 50 1 = some (.getfield 18, 3, none, [], 4, 2, 3, 0) := z_ftd (by decide +kernel)
theorem t50_4 : z_ft 50 4 = some (.aload_n 0, 1, none, [], 0, 0, 0, 0) := z_ftd (by decide +kernel)
theorem t50_5 : z_ft 50 5 = some (.getfield 15, 3, none, [], 4, 1, 2, 0) := z_ftd (by decide +kernel)
theorem t50_8 : z_ft 50 8 = some (.aload_n 0, 1, none, [], 0, 0, 0, 0) := z_ftd (by decide +kernel)
theorem t50_9 : z_ft 50 9 = some (.getfield 9, 3, none, [], 4, 0, 1, 0) := z_ftd (by decide +kernel)
theorem t50_12 : z_ft 50 12 = some (.iadd, 1, none, [], 0, 0, 0, 0) := z_ftd (by decide +kernel)
theorem t50_13 : z_ft 50 13 = some (.bipush 40, 2, none, [], 0, 0, 0, 0) := z_ftd (by decide +kernel)
theorem t50_15 : z_ft 50 15 = some (.irem, 1, none, [], 0, 0, 0, 0) := z_ftd (by decide +kernel)
theorem t50_16 : z_ft 50 16 = some (.iload_n 1, 1, none, [], 0, 0, 0, 0) := z_ftd (by decide +kernel)
theorem t50_17 : z_ft 50 17 = some (.bipush 8, 2, none, [], 0, 0, 0, 0) := z_ftd (by decide +kernel)
theorem t50_19 : z_ft 50 19 = some (.ishl, 1, none, [], 0, 0, 0, 0) := z_ftd (by decide +kernel)
theorem t50_20 : z_ft 50 20 = some (.iload_n 2, 1, none, [], 0, 0, 0, 0) := z_ftd (by decide +kernel)
theorem t50_21 : z_ft 50 21 = some (.iconst 4, 1, none, [], 0, 0, 0, 0) := z_ftd (by decide +kernel)
theorem t50_22 : z_ft 50 22 = some (.ishl, 1, none, [], 0, 0, 0, 0) := z_ftd (by decide +kernel)
theorem t50_23 : z_ft 50 23 = some (.ior, 1, none, [], 0, 0, 0, 0) := z_ftd (by decide +kernel)
theorem t50_24 : z_ft 50 24 = some (.iload_n 3, 1, none, [], 0, 0, 0, 0) := z_ftd (by decide +kernel)
theorem t50_25 : z_ft 50 25 = some (.ior, 1, none, [], 0, 0, 0, 0) := z_ftd (by decide +kernel)
theorem t50_26 : z_ft 50 26 = some (.iastore, 1, none, [], 0, 0, 0, 0) := z_ftd (by decide +kernel)
theorem t50_27 : z_ft 50 27 = some (.aload_n 0, 1, none, [], 0, 0, 0, 0) := z_ftd (by decide +kernel)
theorem t50_28 : z_ft 50 28 = some (.getfield 9, 3, none, [], 4, 0, 1, 0) := z_ftd (by decide +kernel)
theorem t50_31 : z_ft 50 31 = some (.bipush 40, 2, none, [], 0, 0, 0, 0) := z_ftd (by decide +kernel)
theorem t50_33 : z_ft 50 33 = some (.if_icmp .ge 16, 3, none, [], 49, 0, 0, 0) := z_ftd (by decide +kernel)
theorem t50_36 : z_ft 50 36 = some (.aload_n 0, 1, none, [], 0, 0, 0, 0) := z_ftd (by decide +kernel)
theorem t50_37 : z_ft 50 37 = some (.dup, 1, none, [], 0, 0, 0, 0) := z_ftd (by decide +kernel)
theorem t50_38 : z_ft 50 38 = some (.getfield 9, 3, none, [], 4, 0, 1, 0) := z_ftd (by decide +kernel)
theorem t50_41 : z_ft 50 41 = some (.iconst 1, 1, none, [], 0, 0, 0, 0) := z_ftd (by decide +kernel)
theorem t50_42 : z_ft 50 42 = some (.iadd, 1, none, [], 0, 0, 0, 0) := z_ftd (by decide +kernel)
theorem t50_43 : z_ft 50 43 = some (.putfield 9, 3, none, [], 4, 0, 1, 0) := z_ftd (by decide +kernel)
theorem t50_46 : z_ft 50 46 = some (.goto 16, 3, none, [], 62, 0, 0, 0) := z_ftd (by decide +kernel)
theorem t50_49 : z_ft 50 49 = some (.aload_n 0, 1, none, [], 0, 0, 0, 0) := z_ftd (by decide +kernel)
theorem t50_50 : z_ft 50 50 = some (.aload_n 0, 1, none, [], 0, 0, 0, 0) := z_ftd (by decide +kernel)
theorem t50_51 : z_ft 50 51 = some (.getfield 15, 3, none, [], 4, 1, 2, 0) := z_ftd (by decide +kernel)
theorem t50_54 : z_ft 50 54 = some (.iconst 1, 1, none, [], 0, 0, 0, 0) := z_ftd (by decide +kernel)
theorem t50_55 : z_ft 50 55 = some (.iadd, 1, none, [], 0, 0, 0, 0) := z_ftd (by decide +kernel)
theorem t50_56 : z_ft 50 56 = some (.bipush 40, 2, none, [], 0, 0, 0, 0) := z_ftd (by decide +kernel)
theorem t50_58 : z_ft 50 58 = some (.irem, 1, none, [], 0, 0, 0, 0) := z_ftd (by decide +kernel)
theorem t50_59 : z_ft 50 59 = some (.putfield 15, 3, none, [], 4, 1, 2, 0) := z_ftd (by decide +kernel)
theorem t50_62 : z_ft 50 62 = some (.return_, 1, (some []), [], 0, 0, 0, 0) := z_ftd (by decide +kernel)
-- X4_add
theorem e50 (d : Nat) (p : Nat) (x1 : Int32) (x2 : Int32) (x3 : Int32) (S : z_S) (hW : z_W S) (hp : z_K p = 4) : fV (d + 1) 50 [.ref p, .int x1, .int x2, .int x3] S = (if z_in (((gI S p 1) + (gI S p 0)) - ((gI S p 1) + (gI S p 0)) / (40 : Int32) * (40 : Int32)) 40 then (if (40 : Int32) ≤ (gI (sI S (p + 1) ((((gI S p 1) + (gI S p 0)) - ((gI S p 1) + (gI S p 0)) / (40 : Int32) * (40 : Int32))).toNatClampNeg (((x1 <<< ((8 : Int32) &&& 31)) ||| (x2 <<< ((4 : Int32) &&& 31))) ||| x3)) p 0) then some (sI (sI S (p + 1) ((((gI S p 1) + (gI S p 0)) - ((gI S p 1) + (gI S p 0)) / (40 : Int32) * (40 : Int32))).toNatClampNeg (((x1 <<< ((8 : Int32) &&& 31)) ||| (x2 <<< ((4 : Int32) &&& 31))) ||| x3)) p 1 (((gI (sI S (p + 1) ((((gI S p 1) + (gI S p 0)) - ((gI S p 1) + (gI S p 0)) / (40 : Int32) * (40 : Int32))).toNatClampNeg (((x1 <<< ((8 : Int32) &&& 31)) ||| (x2 <<< ((4 : Int32) &&& 31))) ||| x3)) p 1) + (1 : Int32)) - ((gI (sI S (p + 1) ((((gI S p 1) + (gI S p 0)) - ((gI S p 1) + (gI S p 0)) / (40 : Int32) * (40 : Int32))).toNatClampNeg (((x1 <<< ((8 : Int32) &&& 31)) ||| (x2 <<< ((4 : Int32) &&& 31))) ||| x3)) p 1) + (1 : Int32)) / (40 : Int32) * (40 : Int32))) else some (sI (sI S (p + 1) ((((gI S p 1) + (gI S p 0)) - ((gI S p 1) + (gI S p 0)) / (40 : Int32) * (40 : Int32))).toNatClampNeg (((x1 <<< ((8 : Int32) &&& 31)) ||| (x2 <<< ((4 : Int32) &&& 31))) ||| x3)) p 0 ((gI (sI S (p + 1) ((((gI S p 1) + (gI S p 0)) - ((gI S p 1) + (gI S p 0)) / (40 : Int32) * (40 : Int32))).toNatClampNeg (((x1 <<< ((8 : Int32) &&& 31)) ||| (x2 <<< ((4 : Int32) &&& 31))) ||| x3)) p 0) + (1 : Int32)))) else none) := by
  refine (fV_en (Nat.le_of_ble_eq_true rfl) rfl).trans ?_
  refine (k_aload_n t50_0 rfl rfl).trans ?_
  refine (k_getR t50_1 rfl hW hp (by decide) (by decide) (zO_4_2 hW hp)).trans ?_
  refine (k_aload_n t50_4 rfl rfl).trans ?_
  refine (k_getI t50_5 rfl hW hp (by decide) (by decide)).trans ?_
  refine (k_aload_n t50_8 rfl rfl).trans ?_
  refine (k_getI t50_9 rfl hW hp (by decide) (by decide)).trans ?_
  refine (k_iadd t50_12 rfl).trans ?_
  refine (k_bipush t50_13 rfl zcb_40).trans ?_
  refine ((k_irem t50_15 rfl).trans (if_neg (by decide))).trans ?_
  refine (k_iload_n t50_16 rfl rfl).trans ?_
  refine (k_bipush t50_17 rfl zcb_8).trans ?_
  refine (k_ishl t50_19 rfl).trans ?_
  refine (k_iload_n t50_20 rfl rfl).trans ?_
  refine (k_iconst t50_21 rfl zci_4).trans ?_
  refine (k_ishl t50_22 rfl).trans ?_
  refine (k_ior t50_23 rfl).trans ?_
  refine (k_iload_n t50_24 rfl rfl).trans ?_
  refine (k_ior t50_25 rfl).trans ?_
  refine (k_iast t50_26 rfl hW (zOK_4_2 hp) (zOL_4_2 hp)).trans (z_ite (fun g1 => ?_) (fun _ => rfl))
  refine (k_aload_n t50_27 rfl rfl).trans ?_
  refine (k_getI t50_28 rfl hW.sI hp (by decide) (by decide)).trans ?_
  refine (k_bipush t50_31 rfl zcb_40).trans ?_
  refine (k_icmp_ge t50_33 rfl).trans (z_ite (fun g2 => ?_) (fun g2 => ?_))
  · refine (k_aload_n t50_49 rfl rfl).trans ?_
    refine (k_aload_n t50_50 rfl rfl).trans ?_
    refine (k_getI t50_51 rfl hW.sI hp (by decide) (by decide)).trans ?_
    refine (k_iconst t50_54 rfl zci_1).trans ?_
    refine (k_iadd t50_55 rfl).trans ?_
    refine (k_bipush t50_56 rfl zcb_40).trans ?_
    refine ((k_irem t50_58 rfl).trans (if_neg (by decide))).trans ?_
    refine (k_putI t50_59 rfl hW.sI hp (by decide) (by decide) (by decide)).trans ?_
    refine (zk_mk (ls' := [z_j, z_j, z_j, z_j]) t50_62 rfl).trans ?_
    exact k_return t50_62 rfl (by decide)
  · refine (k_aload_n t50_36 rfl rfl).trans ?_
    refine (k_dupR t50_37 rfl).trans ?_
    refine (k_getI t50_38 rfl hW.sI hp (by decide) (by decide)).trans ?_
    refine (k_iconst t50_41 rfl zci_1).trans ?_
    refine (k_iadd t50_42 rfl).trans ?_
    refine (k_putI t50_43 rfl hW.sI hp (by decide) (by decide) (by decide)).trans ?_
    refine (k_goto t50_46 rfl).trans ?_
    refine (zk_mk (ls' := [z_j, z_j, z_j, z_j]) t50_62 rfl).trans ?_
    exact k_return t50_62 rfl (by decide)
theorem t51_0 : z_ft 51 0 = some (.iload_n 1, 1, none, [], 0, 0, 0, 0) := z_ftd (by decide +kernel)
theorem t51_1 : z_ft 51 1 = some (.ifCond .lt 11, 3, none, [], 12, 0, 0, 0) := z_ftd (by decide +kernel)
theorem t51_4 : z_ft 51 4 = some (.iload_n 1, 1, none, [], 0, 0, 0, 0) := z_ftd (by decide +kernel)
theorem t51_5 : z_ft 51 5 = some (.aload_n 0, 1, none, [], 0, 0, 0, 0) := z_ftd (by decide +kernel)
theorem t51_6 : z_ft 51 6 = some (.getfield 9, 3, none, [], 4, 0, 1, 0) := z_ftd (by decide +kernel)
theorem t51_9 : z_ft 51 9 = some (.if_icmp .lt 5, 3, none, [], 14, 0, 0, 0) := z_ftd (by decide +kernel)
theorem t51_12 : z_ft 51 12 = some (.iconst (-1), 1, (some []), [], 0, 0, 0, 0) := z_ftd (by decide +kernel)
theorem t51_13 : z_ft 51 13 = some (.ireturn, 1, none, [], 0, 0, 0, 0) := z_ftd (by decide +kernel)
theorem t51_14 : z_ft 51 14 = some (.aload_n 0, 1, none, [], 0, 0, 0, 0) := z_ftd (by decide +kernel)
theorem t51_15 : z_ft 51 15 = some (.getfield 18, 3, none, [], 4, 2, 3, 0) := z_ftd (by decide +kernel)
theorem t51_18 : z_ft 51 18 = some (.aload_n 0, 1, none, [], 0, 0, 0, 0) := z_ftd (by decide +kernel)
theorem t51_19 : z_ft 51 19 = some (.getfield 15, 3, none, [], 4, 1, 2, 0) := z_ftd (by decide +kernel)
theorem t51_22 : z_ft 51 22 = some (.iload_n 1, 1, none, [], 0, 0, 0, 0) := z_ftd (by decide +kernel)
theorem t51_23 : z_ft 51 23 = some (.iadd, 1, none, [], 0, 0, 0, 0) := z_ftd (by decide +kernel)
theorem t51_24 : z_ft 51 24 = some (.bipush 40, 2, none, [], 0, 0, 0, 0) := z_ftd (by decide +kernel)
theorem t51_26 : z_ft 51 26 = some (.irem, 1, none, [], 0, 0, 0, 0) := z_ftd (by decide +kernel)
theorem t51_27 : z_ft 51 27 = some (.iaload, 1, none, [], 0, 0, 0, 0) := z_ftd (by decide +kernel)
theorem t51_28 : z_ft 51 28 = some (.istore_n 3, 1, none, [], 0, 0, 0, 0) := z_ftd (by decide +kernel)
theorem t51_29 : z_ft 51 29 = some (.iload_n 2, 1, none, [], 0, 0, 0, 0) := z_ftd (by decide +kernel)
theorem t51_30 : z_ft 51 30 = some (.tableswitch 43 0 2 #[26, 31, 38], 26, none, [56, 61, 68], 73, 0, 0, 0) := z_ftd (by decide +kernel)
theorem t51_56 : z_ft 51 56 = some (.iload_n 3, 1, none, [], 0, 0, 0, 0) := z_ftd (by decide +kernel)
theorem t51_57 : z_ft 51 57 = some (.bipush 8, 2, none, [], 0, 0, 0, 0) := z_ftd (by decide +kernel)
theorem t51_59 : z_ft 51 59 = some (.ishr, 1, none, [], 0, 0, 0, 0) := z_ftd (by decide +kernel)
theorem t51_60 : z_ft 51 60 = some (.ireturn, 1, none, [], 0, 0, 0, 0) := z_ftd (by decide +kernel)
theorem t51_61 : z_ft 51 61 = some (.iload_n 3, 1, none, [], 0, 0, 0, 0) := z_ftd (by decide +kernel)
theorem t51_62 : z_ft 51 62 = some (.iconst 4, 1, none, [], 0, 0, 0, 0) := z_ftd (by decide +kernel)
theorem t51_63 : z_ft 51 63 = some (.ishr, 1, none, [], 0, 0, 0, 0) := z_ftd (by decide +kernel)
theorem t51_64 : z_ft 51 64 = some (.bipush 15, 2, none, [], 0, 0, 0, 0) := z_ftd (by decide +kernel)
theorem t51_66 : z_ft 51 66 = some (.iand, 1, none, [], 0, 0, 0, 0) := z_ftd (by decide +kernel)
theorem t51_67 : z_ft 51 67 = some (.ireturn, 1, none, [], 0, 0, 0, 0) := z_ftd (by decide +kernel)
theorem t51_68 : z_ft 51 68 = some (.iload_n 3, 1, none, [], 0, 0, 0, 0) := z_ftd (by decide +kernel)
theorem t51_69 : z_ft 51 69 = some (.bipush 15, 2, none, [], 0, 0, 0, 0) := z_ftd (by decide +kernel)
theorem t51_71 : z_ft 51 71 = some (.iand, 1, none, [], 0, 0, 0, 0) := z_ftd (by decide +kernel)
theorem t51_72 : z_ft 51 72 = some (.ireturn, 1, none, [], 0, 0, 0, 0) := z_ftd (by decide +kernel)
theorem t51_73 : z_ft 51 73 = some (.iconst (-1), 1, none, [], 0, 0, 0, 0) := z_ftd (by decide +kernel)
theorem t51_74 : z_ft 51 74 = some (.ireturn, 1, none, [], 0, 0, 0, 0) := z_ftd (by decide +kernel)
-- X4_tell
theorem e51 (d : Nat) (p : Nat) (x1 : Int32) (x2 : Int32) (S : z_S) (hW : z_W S) (hp : z_K p = 4) : fI (d + 1) 51 [.ref p, .int x1, .int x2] S = (if x1 < (0 : Int32) then some ((-1 : Int32), S) else (if x1 < (gI S p 0) then (if z_in (((gI S p 1) + x1) - ((gI S p 1) + x1) / (40 : Int32) * (40 : Int32)) 40 then (if x2 = (0 : Int32) then some (((gI S (p + 1) ((((gI S p 1) + x1) - ((gI S p 1) + x1) / (40 : Int32) * (40 : Int32))).toNatClampNeg) >>> ((8 : Int32) &&& 31)), S) else (if x2 = (1 : Int32) then some ((((gI S (p + 1) ((((gI S p 1) + x1) - ((gI S p 1) + x1) / (40 : Int32) * (40 : Int32))).toNatClampNeg) >>> ((4 : Int32) &&& 31)) &&& (15 : Int32)), S) else (if x2 = (2 : Int32) then some (((gI S (p + 1) ((((gI S p 1) + x1) - ((gI S p 1) + x1) / (40 : Int32) * (40 : Int32))).toNatClampNeg) &&& (15 : Int32)), S) else some ((-1 : Int32), S)))) else none) else some ((-1 : Int32), S))) := by
  refine (fI_en (Nat.le_of_ble_eq_true rfl) rfl).trans ?_
  refine (k_iload_n t51_0 rfl rfl).trans ?_
  refine (k_if_lt t51_1 rfl).trans (z_ite (fun g1 => ?_) (fun g1 => ?_))
  · refine (zk_mk (ls' := [z_j, z_j, z_j, z_j]) t51_12 rfl).trans ?_
    refine (k_iconst t51_12 rfl zci_m1).trans ?_
    exact k_ireturn t51_13 rfl (by decide)
  · refine (k_iload_n t51_4 rfl rfl).trans ?_
    refine (k_aload_n t51_5 rfl rfl).trans ?_
    refine (k_getI t51_6 rfl hW hp (by decide) (by decide)).trans ?_
    refine (k_icmp_lt t51_9 rfl).trans (z_ite (fun g2 => ?_) (fun g2 => ?_))
    · refine (k_aload_n t51_14 rfl rfl).trans ?_
      refine (k_getR t51_15 rfl hW hp (by decide) (by decide) (zO_4_2 hW hp)).trans ?_
      refine (k_aload_n t51_18 rfl rfl).trans ?_
      refine (k_getI t51_19 rfl hW hp (by decide) (by decide)).trans ?_
      refine (k_iload_n t51_22 rfl rfl).trans ?_
      refine (k_iadd t51_23 rfl).trans ?_
      refine (k_bipush t51_24 rfl zcb_40).trans ?_
      refine ((k_irem t51_26 rfl).trans (if_neg (by decide))).trans ?_
      refine (k_iald t51_27 rfl hW (zOK_4_2 hp) (zOL_4_2 hp)).trans (z_ite (fun g3 => ?_) (fun _ => rfl))
      refine (k_istore_n (ls' := [.ref p, .int x1, .int x2, .int (gI S (p + 1) ((((gI S p 1) + x1) - ((gI S p 1) + x1) / (40 : Int32) * (40 : Int32))).toNatClampNeg)]) t51_28 rfl rfl).trans ?_
      refine (k_iload_n t51_29 rfl rfl).trans ?_
      refine (k_switch t51_30 rfl).trans ?_
      refine (zk_swC (n := (0 : Int32)) (lo' := 1) zci_0 rfl).trans (z_ite (fun g4 => ?_) (fun g4 => ?_))
      · refine (k_iload_n t51_56 rfl rfl).trans ?_
        refine (k_bipush t51_57 rfl zcb_8).trans ?_
        refine (k_ishr t51_59 rfl).trans ?_
        exact k_ireturn t51_60 rfl (by decide)
      refine (zk_swC (n := (1 : Int32)) (lo' := 2) zci_1 rfl).trans (z_ite (fun g5 => ?_) (fun g5 => ?_))
      · refine (k_iload_n t51_61 rfl rfl).trans ?_
        refine (k_iconst t51_62 rfl zci_4).trans ?_
        refine (k_ishr t51_63 rfl).trans ?_
        refine (k_bipush t51_64 rfl zcb_15).trans ?_
        refine (k_iand t51_66 rfl).trans ?_
        exact k_ireturn t51_67 rfl (by decide)
      refine (zk_swC (n := (2 : Int32)) (lo' := 3) zci_2 rfl).trans (z_ite (fun g6 => ?_) (fun g6 => ?_))
      · refine (k_iload_n t51_68 rfl rfl).trans ?_
        refine (k_bipush t51_69 rfl zcb_15).trans ?_
        refine (k_iand t51_71 rfl).trans ?_
        exact k_ireturn t51_72 rfl (by decide)
      refine (k_iconst t51_73 rfl zci_m1).trans ?_
      exact k_ireturn t51_74 rfl (by decide)
    · refine (zk_mk (ls' := [z_j, z_j, z_j, z_j]) t51_12 rfl).trans ?_
      refine (k_iconst t51_12 rfl zci_m1).trans ?_
      exact k_ireturn t51_13 rfl (by decide)
theorem t52_0 : z_ft 52 0 = some (.aload_n 0, 1, none, [], 0, 0, 0, 0) := z_ftd (by decide +kernel)
theorem t52_1 : z_ft 52 1 = some (.aload_n 1, 1, none, [], 0, 0, 0, 0) := z_ftd (by decide +kernel)
theorem t52_2 : z_ft 52 2 = some (.getfield 9, 3, none, [], 4, 0, 1, 0) := z_ftd (by decide +kernel)
theorem t52_5 : z_ft 52 5 = some (.putfield 9, 3, none, [], 4, 0, 1, 0) := z_ftd (by decide +kernel)
theorem t52_8 : z_ft 52 8 = some (.aload_n 0, 1, none, [], 0, 0, 0, 0) := z_ftd (by decide +kernel)
theorem t52_9 : z_ft 52 9 = some (.aload_n 1, 1, none, [], 0, 0, 0, 0) := z_ftd (by decide +kernel)
theorem t52_10 : z_ft 52 10 = some (.getfield 15, 3, none, [], 4, 1, 2, 0) := z_ftd (by decide +kernel)
theorem t52_13 : z_ft 52 13 = some (.putfield 15, 3, none, [], 4, 1, 2, 0) := z_ftd (by decide +kernel)
theorem t52_16 : z_ft 52 16 = some (.aload_n 1, 1, none, [], 0, 0, 0, 0) := z_ftd (by decide +kernel)
theorem t52_17 : z_ft 52 17 = some (.getfield 18, 3, none, [], 4, 2, 3, 0) := z_ftd (by decide +kernel)
theorem t52_20 : z_ft 52 20 = some (.iconst 0, 1, none, [], 0, 0, 0, 0) := z_ftd (by decide +kernel)
theorem t52_21 : z_ft 52 21 = some (.aload_n 0, 1, none, [], 0, 0, 0, 0) := z_ftd (by decide +kernel)
theorem t52_22 : z_ft 52 22 = some (.getfield 18, 3, none, [], 4, 2, 3, 0) := z_ftd (by decide +kernel)
theorem t52_25 : z_ft 52 25 = some (.iconst 0, 1, none, [], 0, 0, 0, 0) := z_ftd (by decide +kernel)
theorem t52_26 : z_ft 52 26 = some (.bipush 40, 2, none, [], 0, 0, 0, 0) := z_ftd (by decide +kernel)
theorem t52_28 : z_ft 52 28 = some (.invokestatic 22, 3, none, [], 901, 0, 4, 0) := z_ftd (by decide +kernel)
theorem t52_31 : z_ft 52 31 = some (.return_, 1, none, [], 0, 0, 0, 0) := z_ftd (by decide +kernel)
-- X4_copy
theorem e52 (d : Nat) (p : Nat) (p1 : Nat) (S : z_S) (hW : z_W S) (hp : z_K p = 4) (hp1 : z_K p1 = 4) : fV (d + 1) 52 [.ref p, .ref p1] S = some (cI (sI (sI S p 0 (gI S p1 0)) p 1 (gI (sI S p 0 (gI S p1 0)) p1 1)) (p1 + 1) ((0 : Int32)).toNatClampNeg (p + 1) ((0 : Int32)).toNatClampNeg ((40 : Int32)).toNatClampNeg) := by
  refine (fV_en (Nat.le_of_ble_eq_true rfl) rfl).trans ?_
  refine (k_aload_n t52_0 rfl rfl).trans ?_
  refine (k_aload_n t52_1 rfl rfl).trans ?_
  refine (k_getI t52_2 rfl hW hp1 (by decide) (by decide)).trans ?_
  refine (k_putI t52_5 rfl hW hp (by decide) (by decide) (by decide)).trans ?_
  refine (k_aload_n t52_8 rfl rfl).trans ?_
  refine (k_aload_n t52_9 rfl rfl).trans ?_
  refine (k_getI t52_10 rfl hW.sI hp1 (by decide) (by decide)).trans ?_
  refine (k_putI t52_13 rfl hW.sI hp (by decide) (by decide) (by decide)).trans ?_
  refine (k_aload_n t52_16 rfl rfl).trans ?_
  refine (k_getR t52_17 rfl hW.sI.sI hp1 (by decide) (by decide) (zO_4_2 hW.sI.sI hp1)).trans ?_
  refine (k_iconst t52_20 rfl zci_0).trans ?_
  refine (k_aload_n t52_21 rfl rfl).trans ?_
  refine (k_getR t52_22 rfl hW.sI.sI hp (by decide) (by decide) (zO_4_2 hW.sI.sI hp)).trans ?_
  refine (k_iconst t52_25 rfl zci_0).trans ?_
  refine (k_bipush t52_26 rfl zcb_40).trans ?_
  refine ((k_copy t52_28 rfl rfl hW.sI.sI (Nat.le_of_ble_eq_true rfl) (zOK_4_2 hp1) (zOK_4_2 hp) (zOL_4_2 hp1) (zOL_4_2 hp)).trans (if_pos (by decide))).trans ?_
  exact k_return t52_31 rfl (by decide)
theorem t57_0 : z_ft 57 0 = some (.aload_n 0, 1, none, [], 0, 0, 0, 0) := z_ftd (by decide +kernel)
theorem t57_1 : z_ft 57 1 = some (.iconst 0, 1, none, [], 0, 0, 0, 0) := z_ftd (by decide +kernel)
theorem t57_2 : z_ft 57 2 = some (.putfield 9, 3, none, [], 6, 0, 1, 0) := z_ftd (by decide +kernel)
theorem t57_5 : z_ft 57 5 = some (.aload_n 0, 1, none, [], 0, 0, 0, 0) := z_ftd (by decide +kernel)
theorem t57_6 : z_ft 57 6 = some (.iconst 0, 1, none, [], 0, 0, 0, 0) := z_ftd (by decide +kernel)
theorem t57_7 : z_ft 57 7 = some (.putfield 15, 3, none, [], 6, 1, 2, 0) := z_ftd (by decide +kernel)
theorem t57_10 : z_ft 57 10 = some (.aload_n 0, 1, none, [], 0, 0, 0, 0) := z_ftd (by decide +kernel)
theorem t57_11 : z_ft 57 11 = some (.iconst 1, 1, none, [], 0, 0, 0, 0) := z_ftd (by decide +kernel)
theorem t57_12 : z_ft 57 12 = some (.putfield 18, 3, none, [], 6, 2, 3, 0) := z_ftd (by decide +kernel)
theorem t57_15 : z_ft 57 15 = some (.aload_n 0, 1, none, [], 0, 0, 0, 0) := z_ftd (by decide +kernel)
theorem t57_16 : z_ft 57 16 = some (.bipush 10, 2, none, [], 0, 0, 0, 0) := z_ftd (by decide +kernel)
theorem t57_18 : z_ft 57 18 = some (.putfield 21, 3, none, [], 6, 3, 4, 0) := z_ftd (by decide +kernel)
theorem t57_21 : z_ft 57 21 = some (.aload_n 0, 1, none, [], 0, 0, 0, 0) := z_ftd (by decide +kernel)
theorem t57_22 : z_ft 57 22 = some (.iconst 0, 1, none, [], 0, 0, 0, 0) := z_ftd (by decide +kernel)
theorem t57_23 : z_ft 57 23 = some (.putfield 24, 3, none, [], 6, 4, 5, 0) := z_ftd (by decide +kernel)
theorem t57_26 : z_ft 57 26 = some (.aload_n 0, 1, none, [], 0, 0, 0, 0) := z_ftd (by decide +kernel)
theorem t57_27 : z_ft 57 27 = some (.iconst 0, 1, none, [], 0, 0, 0, 0) := z_ftd (by decide +kernel)
theorem t57_28 : z_ft 57 28 = some (.putfield 27, 3, none, [], 6, 5, 6, 0) := z_ftd (by decide +kernel)
theorem t57_31 : z_ft 57 31 = some (.aload_n 0, 1, none, [], 0, 0, 0, 0) := z_ftd (by decide +kernel)
theorem t57_32 : z_ft 57 32 = some (.iconst 0, 1, none, [], 0, 0, 0, 0) := z_ftd (by decide +kernel)
theorem t57_33 : z_ft 57 33 = some (.putfield 30, 3, none, [], 6, 6, 7, 0) := z_ftd (by decide +kernel)
theorem t57_36 : z_ft 57 36 = some (.aload_n 0, 1, none, [], 0, 0, 0, 0) := z_ftd (by decide +kernel)
theorem t57_37 : z_ft 57 37 = some (.iconst 0, 1, none, [], 0, 0, 0, 0) := z_ftd (by decide +kernel)
theorem t57_38 : z_ft 57 38 = some (.putfield 33, 3, none, [], 6, 7, 8, 0) := z_ftd (by decide +kernel)
theorem t57_41 : z_ft 57 41 = some (.aload_n 0, 1, none, [], 0, 0, 0, 0) := z_ftd (by decide +kernel)
theorem t57_42 : z_ft 57 42 = some (.iconst 0, 1, none, [], 0, 0, 0, 0) := z_ftd (by decide +kernel)
theorem t57_43 : z_ft 57 43 = some (.putfield 36, 3, none, [], 6, 8, 9, 0) := z_ftd (by decide +kernel)
theorem t57_46 : z_ft 57 46 = some (.aload_n 0, 1, none, [], 0, 0, 0, 0) := z_ftd (by decide +kernel)
theorem t57_47 : z_ft 57 47 = some (.getfield 55, 3, none, [], 6, 14, 15, 0) := z_ftd (by decide +kernel)
theorem t57_50 : z_ft 57 50 = some (.iconst 0, 1, none, [], 0, 0, 0, 0) := z_ftd (by decide +kernel)
theorem t57_51 : z_ft 57 51 = some (.invokestatic 61, 3, none, [], 281, 0, 17, 0) := z_ftd (by decide +kernel)
theorem t57_54 : z_ft 57 54 = some (.aload_n 0, 1, none, [], 0, 0, 0, 0) := z_ftd (by decide +kernel)
theorem t57_55 : z_ft 57 55 = some (.getfield 58, 3, none, [], 6, 15, 16, 0) := z_ftd (by decide +kernel)
theorem t57_58 : z_ft 57 58 = some (.iconst 0, 1, none, [], 0, 0, 0, 0) := z_ftd (by decide +kernel)
theorem t57_59 : z_ft 57 59 = some (.invokestatic 61, 3, none, [], 281, 0, 17, 0) := z_ftd (by decide +kernel)
theorem t57_62 : z_ft 57 62 = some (.return_, 1, none, [], 0, 0, 0, 0) := z_ftd (by decide +kernel)
-- X6_begin
theorem e57 (d : Nat) (p : Nat) (S : z_S) (hW : z_W S) (hp : z_K p = 6) : fV (d + 1) 57 [.ref p] S = ((fV d 281 [.ref (p + 6), .int (0 : Int32)] (sI (sI (sI (sI (sI (sI (sI (sI (sI S p 0 (0 : Int32)) p 1 (0 : Int32)) p 2 (1 : Int32)) p 3 (10 : Int32)) p 4 (0 : Int32)) p 5 (0 : Int32)) p 6 (0 : Int32)) p 7 (0 : Int32)) p 8 (0 : Int32))).bind fun S2 => ((fV d 281 [.ref (p + 7), .int (0 : Int32)] S2).bind fun S4 => some S4)) := by
  refine (fV_en (Nat.le_of_ble_eq_true rfl) rfl).trans ?_
  refine (k_aload_n t57_0 rfl rfl).trans ?_
  refine (k_iconst t57_1 rfl zci_0).trans ?_
  refine (k_putI t57_2 rfl hW hp (by decide) (by decide) (by decide)).trans ?_
  refine (k_aload_n t57_5 rfl rfl).trans ?_
  refine (k_iconst t57_6 rfl zci_0).trans ?_
  refine (k_putI t57_7 rfl hW.sI hp (by decide) (by decide) (by decide)).trans ?_
  refine (k_aload_n t57_10 rfl rfl).trans ?_
  refine (k_iconst t57_11 rfl zci_1).trans ?_
  refine (k_putI t57_12 rfl hW.sI.sI hp (by decide) (by decide) (by decide)).trans ?_
  refine (k_aload_n t57_15 rfl rfl).trans ?_
  refine (k_bipush t57_16 rfl zcb_10).trans ?_
  refine (k_putI t57_18 rfl hW.sI.sI.sI hp (by decide) (by decide) (by decide)).trans ?_
  refine (k_aload_n t57_21 rfl rfl).trans ?_
  refine (k_iconst t57_22 rfl zci_0).trans ?_
  refine (k_putI t57_23 rfl hW.sI.sI.sI.sI hp (by decide) (by decide) (by decide)).trans ?_
  refine (k_aload_n t57_26 rfl rfl).trans ?_
  refine (k_iconst t57_27 rfl zci_0).trans ?_
  refine (k_putI t57_28 rfl hW.sI.sI.sI.sI.sI hp (by decide) (by decide) (by decide)).trans ?_
  refine (k_aload_n t57_31 rfl rfl).trans ?_
  refine (k_iconst t57_32 rfl zci_0).trans ?_
  refine (k_putI t57_33 rfl hW.sI.sI.sI.sI.sI.sI hp (by decide) (by decide) (by decide)).trans ?_
  refine (k_aload_n t57_36 rfl rfl).trans ?_
  refine (k_iconst t57_37 rfl zci_0).trans ?_
  refine (k_putI t57_38 rfl hW.sI.sI.sI.sI.sI.sI.sI hp (by decide) (by decide) (by decide)).trans ?_
  refine (k_aload_n t57_41 rfl rfl).trans ?_
  refine (k_iconst t57_42 rfl zci_0).trans ?_
  refine (k_putI t57_43 rfl hW.sI.sI.sI.sI.sI.sI.sI.sI hp (by decide) (by decide) (by decide)).trans ?_
  refine (k_aload_n t57_46 rfl rfl).trans ?_
  refine (k_getR t57_47 rfl hW.sI.sI.sI.sI.sI.sI.sI.sI.sI hp (by decide) (by decide) (zO_6_14 hW.sI.sI.sI.sI.sI.sI.sI.sI.sI hp)).trans ?_
  refine (k_iconst t57_50 rfl zci_0).trans ?_
  refine k_callV (as := [.ref (p + 6), .int (0 : Int32)]) (rest := []) t57_51 rfl rfl (by decide) rfl rfl (Nat.le_of_ble_eq_true rfl) rfl (z_rcS (by decide)) (by decide) (by decide) hW.sI.sI.sI.sI.sI.sI.sI.sI.sI (fun S2 hW2 => ?_)
  refine (k_aload_n t57_54 rfl rfl).trans ?_
  refine (k_getR t57_55 rfl hW2 hp (by decide) (by decide) (zO_6_15 hW2 hp)).trans ?_
  refine (k_iconst t57_58 rfl zci_0).trans ?_
  refine k_callV (as := [.ref (p + 7), .int (0 : Int32)]) (rest := []) t57_59 rfl rfl (by decide) rfl rfl (Nat.le_of_ble_eq_true rfl) rfl (z_rcS (by decide)) (by decide) (by decide) hW2 (fun S4 hW4 => ?_)
  exact k_return t57_62 rfl (by decide)
theorem t58_0 : z_ft 58 0 = some (.iload_n 1, 1, none, [], 0, 0, 0, 0) := z_ftd (by decide +kernel)
theorem t58_1 : z_ft 58 1 = some (.ifCond .lt 15, 3, none, [], 16, 0, 0, 0) := z_ftd (by decide +kernel)
theorem t58_4 : z_ft 58 4 = some (.iload_n 1, 1, none, [], 0, 0, 0, 0) := z_ftd (by decide +kernel)
theorem t58_5 : z_ft 58 5 = some (.aload_n 0, 1, none, [], 0, 0, 0, 0) := z_ftd (by decide +kernel)
theorem t58_6 : z_ft 58 6 = some (.getfield 15, 3, none, [], 6, 1, 2, 0) := z_ftd (by decide +kernel)
theorem t58_9 : z_ft 58 9 = some (.if_icmp .ge 7, 3, none, [], 16, 0, 0, 0) := z_ftd (by decide +kernel)
theorem t58_12 : z_ft 58 12 = some (.iconst 1, 1, none, [], 0, 0, 0, 0) := z_ftd (by decide +kernel)
theorem t58_13 : z_ft 58 13 = some (.goto 4, 3, none, [], 17, 0, 0, 0) := z_ftd (by decide +kernel)
theorem t58_16 : z_ft 58 16 = some (.iconst 0, 1, (some []), [], 0, 0, 0, 0) := z_ftd (by decide +kernel)
theorem t58_17 : z_ft 58 17 = some (.ireturn, 1, (some []), [], 0, 0, 0, 0) := z_ftd (by decide +kernel)
noncomputable def b58_16 (d : Nat)  (S : z_S) : Option (Int32 × z_S) := zk kI z_X0 d 58 16 [z_j, z_j] [] S
theorem b58_16_eq (d : Nat)  (S : z_S) (hW : z_W S)  : b58_16 d  S = some ((0 : Int32), S) := by
  unfold b58_16
  refine (k_iconst t58_16 rfl zci_0).trans ?_
  refine (zk_mk (ls' := [z_j, z_j]) t58_17 rfl).trans ?_
  exact k_zretC t58_17 rfl (by decide) (by decide)
-- X6_isRoom
theorem e58 (d : Nat) (p : Nat) (x1 : Int32) (S : z_S) (hW : z_W S) (hp : z_K p = 6) : fI (d + 1) 58 [.ref p, .int x1] S = (if x1 < (0 : Int32) then b58_16 d S else (if (gI S p 1) ≤ x1 then b58_16 d S else some ((1 : Int32), S))) := by
  refine (fI_en (Nat.le_of_ble_eq_true rfl) rfl).trans ?_
  refine (k_iload_n t58_0 rfl rfl).trans ?_
  refine (k_if_lt t58_1 rfl).trans (z_ite (fun g1 => ?_) (fun g1 => ?_))
  · exact (zk_mk (ls' := [z_j, z_j]) t58_16 rfl)
  · refine (k_iload_n t58_4 rfl rfl).trans ?_
    refine (k_aload_n t58_5 rfl rfl).trans ?_
    refine (k_getI t58_6 rfl hW hp (by decide) (by decide)).trans ?_
    refine (k_icmp_ge t58_9 rfl).trans (z_ite (fun g2 => ?_) (fun g2 => ?_))
    · exact (zk_mk (ls' := [z_j, z_j]) t58_16 rfl)
    · refine (k_iconst t58_12 rfl zci_1).trans ?_
      refine (k_goto t58_13 rfl).trans ?_
      refine (zk_mk (ls' := [z_j, z_j]) t58_17 rfl).trans ?_
      exact k_zretC t58_17 rfl (by decide) (by decide)
theorem t59_0 : z_ft 59 0 = some (.iload_n 1, 1, none, [], 0, 0, 0, 0) := z_ftd (by decide +kernel)
theorem t59_1 : z_ft 59 1 = some (.ifCond .lt 15, 3, none, [], 16, 0, 0, 0) := z_ftd (by decide +kernel)
theorem t59_4 : z_ft 59 4 = some (.iload_n 1, 1, none, [], 0, 0, 0, 0) := z_ftd (by decide +kernel)
theorem t59_5 : z_ft 59 5 = some (.aload_n 0, 1, none, [], 0, 0, 0, 0) := z_ftd (by decide +kernel)
theorem t59_6 : z_ft 59 6 = some (.getfield 30, 3, none, [], 6, 6, 7, 0) := z_ftd (by decide +kernel)
theorem t59_9 : z_ft 59 9 = some (.if_icmp .ge 7, 3, none, [], 16, 0, 0, 0) := z_ftd (by decide +kernel)
theorem t59_12 : z_ft 59 12 = some (.iconst 1, 1, none, [], 0, 0, 0, 0) := z_ftd (by decide +kernel)
theorem t59_13 : z_ft 59 13 = some (.goto 4, 3, none, [], 17, 0, 0, 0) := z_ftd (by decide +kernel)
theorem t59_16 : z_ft 59 16 = some (.iconst 0, 1, (some []), [], 0, 0, 0, 0) := z_ftd (by decide +kernel)
theorem t59_17 : z_ft 59 17 = some (.ireturn, 1, (some []), [], 0, 0, 0, 0) := z_ftd (by decide +kernel)
noncomputable def b59_16 (d : Nat)  (S : z_S) : Option (Int32 × z_S) := zk kI z_X0 d 59 16 [z_j, z_j] [] S
theorem b59_16_eq (d : Nat)  (S : z_S) (hW : z_W S)  : b59_16 d  S = some ((0 : Int32), S) := by
  unfold b59_16
  refine (k_iconst t59_16 rfl zci_0).trans ?_
  refine (zk_mk (ls' := [z_j, z_j]) t59_17 rfl).trans ?_
  exact k_zretC t59_17 rfl (by decide) (by decide)
-- X6_isLodger
theorem e59 (d : Nat) (p : Nat) (x1 : Int32) (S : z_S) (hW : z_W S) (hp : z_K p = 6) : fI (d + 1) 59 [.ref p, .int x1] S = (if x1 < (0 : Int32) then b59_16 d S else (if (gI S p 6) ≤ x1 then b59_16 d S else some ((1 : Int32), S))) := by
  refine (fI_en (Nat.le_of_ble_eq_true rfl) rfl).trans ?_
  refine (k_iload_n t59_0 rfl rfl).trans ?_
  refine (k_if_lt t59_1 rfl).trans (z_ite (fun g1 => ?_) (fun g1 => ?_))
  · exact (zk_mk (ls' := [z_j, z_j]) t59_16 rfl)
  · refine (k_iload_n t59_4 rfl rfl).trans ?_
    refine (k_aload_n t59_5 rfl rfl).trans ?_
    refine (k_getI t59_6 rfl hW hp (by decide) (by decide)).trans ?_
    refine (k_icmp_ge t59_9 rfl).trans (z_ite (fun g2 => ?_) (fun g2 => ?_))
    · exact (zk_mk (ls' := [z_j, z_j]) t59_16 rfl)
    · refine (k_iconst t59_12 rfl zci_1).trans ?_
      refine (k_goto t59_13 rfl).trans ?_
      refine (zk_mk (ls' := [z_j, z_j]) t59_17 rfl).trans ?_
      exact k_zretC t59_17 rfl (by decide) (by decide)
theorem t60_0 : z_ft 60 0 = some (.aload_n 0, 1, none, [], 0, 0, 0, 0) := z_ftd (by decide +kernel)
theorem t60_1 : z_ft 60 1 = some (.getfield 58, 3, none, [], 6, 15, 16, 0) := z_ftd (by decide +kernel)
theorem t60_4 : z_ft 60 4 = some (.iload_n 1, 1, none, [], 0, 0, 0, 0) := z_ftd (by decide +kernel)
theorem t60_5 : z_ft 60 5 = some (.iaload, 1, none, [], 0, 0, 0, 0) := z_ftd (by decide +kernel)
theorem t60_6 : z_ft 60 6 = some (.aload_n 0, 1, none, [], 0, 0, 0, 0) := z_ftd (by decide +kernel)
theorem t60_7 : z_ft 60 7 = some (.getfield 55, 3, none, [], 6, 14, 15, 0) := z_ftd (by decide +kernel)
theorem t60_10 : z_ft 60 10 = some (.iload_n 1, 1, none, [], 0, 0, 0, 0) := z_ftd (by decide +kernel)
theorem t60_11 : z_ft 60 11 = some (.iaload, 1, none, [], 0, 0, 0, 0) := z_ftd (by decide +kernel)
theorem t60_12 : z_ft 60 12 = some (.if_icmp .le 7, 3, none, [], 19, 0, 0, 0) := z_ftd (by decide +kernel)
theorem t60_15 : z_ft 60 15 = some (.iconst 1, 1, none, [], 0, 0, 0, 0) := z_ftd (by decide +kernel)
theorem t60_16 : z_ft 60 16 = some (.goto 4, 3, none, [], 20, 0, 0, 0) := z_ftd (by decide +kernel)
theorem t60_19 : z_ft 60 19 = some (.iconst 0, 1, none, [], 0, 0, 0, 0) := z_ftd (by decide +kernel)
theorem t60_20 : z_ft 60 20 = some (.ireturn, 1, (some []), [], 0, 0, 0, 0) := z_ftd (by decide +kernel)
-- X6_hasFormula
theorem e60 (d : Nat) (p : Nat) (x1 : Int32) (S : z_S) (hW : z_W S) (hp : z_K p = 6) : fI (d + 1) 60 [.ref p, .int x1] S = (if z_in x1 3 then (if z_in x1 3 then (if (gI S (p + 7) (x1).toNatClampNeg) ≤ (gI S (p + 6) (x1).toNatClampNeg) then some ((0 : Int32), S) else some ((1 : Int32), S)) else none) else none) := by
  refine (fI_en (Nat.le_of_ble_eq_true rfl) rfl).trans ?_
  refine (k_aload_n t60_0 rfl rfl).trans ?_
  refine (k_getR t60_1 rfl hW hp (by decide) (by decide) (zO_6_15 hW hp)).trans ?_
  refine (k_iload_n t60_4 rfl rfl).trans ?_
  refine (k_iald t60_5 rfl hW (zOK_6_15 hp) (zOL_6_15 hp)).trans (z_ite (fun g1 => ?_) (fun _ => rfl))
  refine (k_aload_n t60_6 rfl rfl).trans ?_
  refine (k_getR t60_7 rfl hW hp (by decide) (by decide) (zO_6_14 hW hp)).trans ?_
  refine (k_iload_n t60_10 rfl rfl).trans ?_
  refine (k_iald t60_11 rfl hW (zOK_6_14 hp) (zOL_6_14 hp)).trans (z_ite (fun g2 => ?_) (fun _ => rfl))
  refine (k_icmp_le t60_12 rfl).trans (z_ite (fun g3 => ?_) (fun g3 => ?_))
  · refine (k_iconst t60_19 rfl zci_0).trans ?_
    refine (zk_mk (ls' := [z_j, z_j]) t60_20 rfl).trans ?_
    exact k_zretC t60_20 rfl (by decide) (by decide)
  · refine (k_iconst t60_15 rfl zci_1).trans ?_
    refine (k_goto t60_16 rfl).trans ?_
    refine (zk_mk (ls' := [z_j, z_j]) t60_20 rfl).trans ?_
    exact k_zretC t60_20 rfl (by decide) (by decide)
theorem t61_0 : z_ft 61 0 = some (.aload_n 0, 1, none, [], 0, 0, 0, 0) := z_ftd (by decide +kernel)
theorem t61_1 : z_ft 61 1 = some (.getfield 43, 3, none, [], 6, 10, 11, 0) := z_ftd (by decide +kernel)
theorem t61_4 : z_ft 61 4 = some (.iload_n 1, 1, none, [], 0, 0, 0, 0) := z_ftd (by decide +kernel)
theorem t61_5 : z_ft 61 5 = some (.iaload, 1, none, [], 0, 0, 0, 0) := z_ftd (by decide +kernel)
theorem t61_6 : z_ft 61 6 = some (.iload_n 2, 1, none, [], 0, 0, 0, 0) := z_ftd (by decide +kernel)
theorem t61_7 : z_ft 61 7 = some (.if_icmp .ne 12, 3, none, [], 19, 0, 0, 0) := z_ftd (by decide +kernel)
theorem t61_10 : z_ft 61 10 = some (.aload_n 0, 1, none, [], 0, 0, 0, 0) := z_ftd (by decide +kernel)
theorem t61_11 : z_ft 61 11 = some (.getfield 46, 3, none, [], 6, 11, 12, 0) := z_ftd (by decide +kernel)
theorem t61_14 : z_ft 61 14 = some (.iload_n 1, 1, none, [], 0, 0, 0, 0) := z_ftd (by decide +kernel)
theorem t61_15 : z_ft 61 15 = some (.iaload, 1, none, [], 0, 0, 0, 0) := z_ftd (by decide +kernel)
theorem t61_16 : z_ft 61 16 = some (.goto 9, 3, none, [], 25, 0, 0, 0) := z_ftd (by decide +kernel)
theorem t61_19 : z_ft 61 19 = some (.aload_n 0, 1, none, [], 0, 0, 0, 0) := z_ftd (by decide +kernel)
theorem t61_20 : z_ft 61 20 = some (.getfield 43, 3, none, [], 6, 10, 11, 0) := z_ftd (by decide +kernel)
theorem t61_23 : z_ft 61 23 = some (.iload_n 1, 1, none, [], 0, 0, 0, 0) := z_ftd (by decide +kernel)
theorem t61_24 : z_ft 61 24 = some (.iaload, 1, none, [], 0, 0, 0, 0) := z_ftd (by decide +kernel)
theorem t61_25 : z_ft 61 25 = some (.ireturn, 1, (some []), [], 0, 0, 0, 0) := z_ftd (by decide +kernel)
-- X6_otherRoom
theorem e61 (d : Nat) (p : Nat) (x1 : Int32) (x2 : Int32) (S : z_S) (hW : z_W S) (hp : z_K p = 6) : fI (d + 1) 61 [.ref p, .int x1, .int x2] S = (if z_in x1 16 then (if ¬ (gI S (p + 2) (x1).toNatClampNeg) = x2 then (if z_in x1 16 then some ((gI S (p + 2) (x1).toNatClampNeg), S) else none) else (if z_in x1 16 then some ((gI S (p + 3) (x1).toNatClampNeg), S) else none)) else none) := by
  refine (fI_en (Nat.le_of_ble_eq_true rfl) rfl).trans ?_
  refine (k_aload_n t61_0 rfl rfl).trans ?_
  refine (k_getR t61_1 rfl hW hp (by decide) (by decide) (zO_6_10 hW hp)).trans ?_
  refine (k_iload_n t61_4 rfl rfl).trans ?_
  refine (k_iald t61_5 rfl hW (zOK_6_10 hp) (zOL_6_10 hp)).trans (z_ite (fun g1 => ?_) (fun _ => rfl))
  refine (k_iload_n t61_6 rfl rfl).trans ?_
  refine (k_icmp_ne t61_7 rfl).trans (z_ite (fun g2 => ?_) (fun g2 => ?_))
  · refine (k_aload_n t61_19 rfl rfl).trans ?_
    refine (k_getR t61_20 rfl hW hp (by decide) (by decide) (zO_6_10 hW hp)).trans ?_
    refine (k_iload_n t61_23 rfl rfl).trans ?_
    refine (k_iald t61_24 rfl hW (zOK_6_10 hp) (zOL_6_10 hp)).trans (z_ite (fun g3 => ?_) (fun _ => rfl))
    refine (zk_mk (ls' := [z_j, z_j, z_j]) t61_25 rfl).trans ?_
    exact k_ireturn t61_25 rfl (by decide)
  · refine (k_aload_n t61_10 rfl rfl).trans ?_
    refine (k_getR t61_11 rfl hW hp (by decide) (by decide) (zO_6_11 hW hp)).trans ?_
    refine (k_iload_n t61_14 rfl rfl).trans ?_
    refine (k_iald t61_15 rfl hW (zOK_6_11 hp) (zOL_6_11 hp)).trans (z_ite (fun g4 => ?_) (fun _ => rfl))
    refine (k_goto t61_16 rfl).trans ?_
    refine (zk_mk (ls' := [z_j, z_j, z_j]) t61_25 rfl).trans ?_
    exact k_ireturn t61_25 rfl (by decide)
theorem t62_0 : z_ft 62 0 = some (.iconst 1, 1, none, [], 0, 0, 0, 0) := z_ftd (by decide +kernel)
theorem t62_1 : z_ft 62 1 = some (.aload_n 0, 1, none, [], 0, 0, 0, 0) := z_ftd (by decide +kernel)
theorem t62_2 : z_ft 62 2 = some (.getfield 43, 3, none, [], 6, 10, 11, 0) := z_ftd (by decide +kernel)
theorem t62_5 : z_ft 62 5 = some (.iload_n 1, 1, none, [], 0, 0, 0, 0) := z_ftd (by decide +kernel)
theorem t62_6 : z_ft 62 6 = some (.iaload, 1, none, [], 0, 0, 0, 0) := z_ftd (by decide +kernel)
theorem t62_7 : z_ft 62 7 = some (.ishl, 1, none, [], 0, 0, 0, 0) := z_ftd (by decide +kernel)
theorem t62_8 : z_ft 62 8 = some (.iconst 1, 1, none, [], 0, 0, 0, 0) := z_ftd (by decide +kernel)
theorem t62_9 : z_ft 62 9 = some (.aload_n 0, 1, none, [], 0, 0, 0, 0) := z_ftd (by decide +kernel)
theorem t62_10 : z_ft 62 10 = some (.getfield 46, 3, none, [], 6, 11, 12, 0) := z_ftd (by decide +kernel)
theorem t62_13 : z_ft 62 13 = some (.iload_n 1, 1, none, [], 0, 0, 0, 0) := z_ftd (by decide +kernel)
theorem t62_14 : z_ft 62 14 = some (.iaload, 1, none, [], 0, 0, 0, 0) := z_ftd (by decide +kernel)
theorem t62_15 : z_ft 62 15 = some (.ishl, 1, none, [], 0, 0, 0, 0) := z_ftd (by decide +kernel)
theorem t62_16 : z_ft 62 16 = some (.ior, 1, none, [], 0, 0, 0, 0) := z_ftd (by decide +kernel)
theorem t62_17 : z_ft 62 17 = some (.iload_n 2, 1, none, [], 0, 0, 0, 0) := z_ftd (by decide +kernel)
theorem t62_18 : z_ft 62 18 = some (.iconst (-1), 1, none, [], 0, 0, 0, 0) := z_ftd (by decide +kernel)
theorem t62_19 : z_ft 62 19 = some (.ixor, 1, none, [], 0, 0, 0, 0) := z_ftd (by decide +kernel)
theorem t62_20 : z_ft 62 20 = some (.iand, 1, none, [], 0, 0, 0, 0) := z_ftd (by decide +kernel)
theorem t62_21 : z_ft 62 21 = some (.ireturn, 1, none, [], 0, 0, 0, 0) := z_ftd (by decide +kernel)
-- X6_openRooms
theorem e62 (d : Nat) (p : Nat) (x1 : Int32) (x2 : Int32) (S : z_S) (hW : z_W S) (hp : z_K p = 6) : fI (d + 1) 62 [.ref p, .int x1, .int x2] S = (if z_in x1 16 then (if z_in x1 16 then some (((((1 : Int32) <<< ((gI S (p + 2) (x1).toNatClampNeg) &&& 31)) ||| ((1 : Int32) <<< ((gI S (p + 3) (x1).toNatClampNeg) &&& 31))) &&& (x2 ^^^ (-1 : Int32))), S) else none) else none) := by
  refine (fI_en (Nat.le_of_ble_eq_true rfl) rfl).trans ?_
  refine (k_iconst t62_0 rfl zci_1).trans ?_
  refine (k_aload_n t62_1 rfl rfl).trans ?_
  refine (k_getR t62_2 rfl hW hp (by decide) (by decide) (zO_6_10 hW hp)).trans ?_
  refine (k_iload_n t62_5 rfl rfl).trans ?_
  refine (k_iald t62_6 rfl hW (zOK_6_10 hp) (zOL_6_10 hp)).trans (z_ite (fun g1 => ?_) (fun _ => rfl))
  refine (k_ishl t62_7 rfl).trans ?_
  refine (k_iconst t62_8 rfl zci_1).trans ?_
  refine (k_aload_n t62_9 rfl rfl).trans ?_
  refine (k_getR t62_10 rfl hW hp (by decide) (by decide) (zO_6_11 hW hp)).trans ?_
  refine (k_iload_n t62_13 rfl rfl).trans ?_
  refine (k_iald t62_14 rfl hW (zOK_6_11 hp) (zOL_6_11 hp)).trans (z_ite (fun g2 => ?_) (fun _ => rfl))
  refine (k_ishl t62_15 rfl).trans ?_
  refine (k_ior t62_16 rfl).trans ?_
  refine (k_iload_n t62_17 rfl rfl).trans ?_
  refine (k_iconst t62_18 rfl zci_m1).trans ?_
  refine (k_ixor t62_19 rfl).trans ?_
  refine (k_iand t62_20 rfl).trans ?_
  exact k_ireturn t62_21 rfl (by decide)
theorem t63_0 : z_ft 63 0 = some (.iconst 0, 1, none, [], 0, 0, 0, 0) := z_ftd (by decide +kernel)
theorem t63_1 : z_ft 63 1 = some (.istore_n 2, 1, none, [], 0, 0, 0, 0) := z_ftd (by decide +kernel)
theorem t63_2 : z_ft 63 2 = some (.iconst 0, 1, none, [], 0, 0, 0, 0) := z_ftd (by decide +kernel)
theorem t63_3 : z_ft 63 3 = some (.istore_n 3, 1, none, [], 0, 0, 0, 0) := z_ftd (by decide +kernel)
theorem t63_4 : z_ft 63 4 = some (.iload_n 3, 1, (some [0, 1, 2, 3]), [], 0, 0, 0, 0) := z_ftd (by decide +kernel)
theorem t63_5 : z_ft 63 5 = some (.aload_n 0, 1, none, [], 0, 0, 0, 0) := z_ftd (by decide +kernel)
theorem t63_6 : z_ft 63 6 = some (.getfield 30, 3, none, [], 6, 6, 7, 0) := z_ftd (by decide +kernel)
theorem t63_9 : z_ft 63 9 = some (.if_icmp .ge 32, 3, none, [], 41, 0, 0, 0) := z_ftd (by decide +kernel)
theorem t63_12 : z_ft 63 12 = some (.aload_n 0, 1, none, [], 0, 0, 0, 0) := z_ftd (by decide +kernel)
theorem t63_13 : z_ft 63 13 = some (.getfield 43, 3, none, [], 6, 10, 11, 0) := z_ftd (by decide +kernel)
theorem t63_16 : z_ft 63 16 = some (.iload_n 3, 1, none, [], 0, 0, 0, 0) := z_ftd (by decide +kernel)
theorem t63_17 : z_ft 63 17 = some (.iaload, 1, none, [], 0, 0, 0, 0) := z_ftd (by decide +kernel)
theorem t63_18 : z_ft 63 18 = some (.iload_n 1, 1, none, [], 0, 0, 0, 0) := z_ftd (by decide +kernel)
theorem t63_19 : z_ft 63 19 = some (.if_icmp .eq 13, 3, none, [], 32, 0, 0, 0) := z_ftd (by decide +kernel)
theorem t63_22 : z_ft 63 22 = some (.aload_n 0, 1, none, [], 0, 0, 0, 0) := z_ftd (by decide +kernel)
theorem t63_23 : z_ft 63 23 = some (.getfield 46, 3, none, [], 6, 11, 12, 0) := z_ftd (by decide +kernel)
theorem t63_26 : z_ft 63 26 = some (.iload_n 3, 1, none, [], 0, 0, 0, 0) := z_ftd (by decide +kernel)
theorem t63_27 : z_ft 63 27 = some (.iaload, 1, none, [], 0, 0, 0, 0) := z_ftd (by decide +kernel)
theorem t63_28 : z_ft 63 28 = some (.iload_n 1, 1, none, [], 0, 0, 0, 0) := z_ftd (by decide +kernel)
theorem t63_29 : z_ft 63 29 = some (.if_icmp .ne 6, 3, none, [], 35, 0, 0, 0) := z_ftd (by decide +kernel)
theorem t63_32 : z_ft 63 32 = some (.iinc 2 1, 3, (some [0, 1, 2, 3]), [], 0, 0, 0, 0) := z_ftd (by decide +kernel)
theorem t63_35 : z_ft 63 35 = some (.iinc 3 1, 3, (some [0, 1, 2, 3]), [], 0, 0, 0, 0) := z_ftd (by decide +kernel)
theorem t63_38 : z_ft 63 38 = some (.goto (-34), 3, none, [], 4, 0, 0, 0) := z_ftd (by decide +kernel)
theorem t63_41 : z_ft 63 41 = some (.iload_n 2, 1, none, [], 0, 0, 0, 0) := z_ftd (by decide +kernel)
theorem t63_42 : z_ft 63 42 = some (.ireturn, 1, none, [], 0, 0, 0, 0) := z_ftd (by decide +kernel)
noncomputable def b63_4 (d : Nat) (y0 : Nat) (y1 : Int32) (y2 : Int32) (y3 : Int32) (S : z_S) : Option (Int32 × z_S) := zk kI z_X0 d 63 4 [.ref y0, .int y1, .int y2, .int y3] [] S
noncomputable def b63_32 (d : Nat) (y0 : Nat) (y1 : Int32) (y2 : Int32) (y3 : Int32) (S : z_S) : Option (Int32 × z_S) := zk kI z_X0 d 63 32 [.ref y0, .int y1, .int y2, .int y3] [] S
noncomputable def b63_35 (d : Nat) (y0 : Nat) (y1 : Int32) (y2 : Int32) (y3 : Int32) (S : z_S) : Option (Int32 × z_S) := zk kI z_X0 d 63 35 [.ref y0, .int y1, .int y2, .int y3] [] S
theorem b63_4_eq (d : Nat) (y0 : Nat) (y1 : Int32) (y2 : Int32) (y3 : Int32) (S : z_S) (hW : z_W S) (hy0 : z_K y0 = 6) : b63_4 d y0 y1 y2 y3 S = (if (gI S y0 6) ≤ y3 then some (y2, S) else (if z_in y3 16 then (if (gI S (y0 + 2) (y3).toNatClampNeg) = y1 then b63_32 d y0 y1 y2 y3 S else (if z_in y3 16 then (if ¬ (gI S (y0 + 3) (y3).toNatClampNeg) = y1 then b63_35 d y0 y1 y2 y3 S else b63_32 d y0 y1 y2 y3 S) else none)) else none)) := by
  unfold b63_4
  refine (k_iload_n t63_4 rfl rfl).trans ?_
  refine (k_aload_n t63_5 rfl rfl).trans ?_
  refine (k_getI t63_6 rfl hW hy0 (by decide) (by decide)).trans ?_
  refine (k_icmp_ge t63_9 rfl).trans (z_ite (fun g1 => ?_) (fun g1 => ?_))
  · refine (k_iload_n t63_41 rfl rfl).trans ?_
    exact k_ireturn t63_42 rfl (by decide)
  · refine (k_aload_n t63_12 rfl rfl).trans ?_
    refine (k_getR t63_13 rfl hW hy0 (by decide) (by decide) (zO_6_10 hW hy0)).trans ?_
    refine (k_iload_n t63_16 rfl rfl).trans ?_
    refine (k_iald t63_17 rfl hW (zOK_6_10 hy0) (zOL_6_10 hy0)).trans (z_ite (fun g2 => ?_) (fun _ => rfl))
    refine (k_iload_n t63_18 rfl rfl).trans ?_
    refine (k_icmp_eq t63_19 rfl).trans (z_ite (fun g3 => ?_) (fun g3 => ?_))
    · exact (zk_mk (ls' := [.ref y0, .int y1, .int y2, .int y3]) t63_32 rfl)
    · refine (k_aload_n t63_22 rfl rfl).trans ?_
      refine (k_getR t63_23 rfl hW hy0 (by decide) (by decide) (zO_6_11 hW hy0)).trans ?_
      refine (k_iload_n t63_26 rfl rfl).trans ?_
      refine (k_iald t63_27 rfl hW (zOK_6_11 hy0) (zOL_6_11 hy0)).trans (z_ite (fun g4 => ?_) (fun _ => rfl))
      refine (k_iload_n t63_28 rfl rfl).trans ?_
      refine (k_icmp_ne t63_29 rfl).trans (z_ite (fun g5 => ?_) (fun g5 => ?_))
      · exact (zk_mk (ls' := [.ref y0, .int y1, .int y2, .int y3]) t63_35 rfl)
      · exact (zk_mk (ls' := [.ref y0, .int y1, .int y2, .int y3]) t63_32 rfl)
theorem b63_32_eq (d : Nat) (y0 : Nat) (y1 : Int32) (y2 : Int32) (y3 : Int32) (S : z_S) (hW : z_W S) (hy0 : z_K y0 = 6) : b63_32 d y0 y1 y2 y3 S = b63_35 d y0 y1 (y2 + (1 : Int32)) y3 S := by
  unfold b63_32
  refine (k_iinc (b := (y2 + (1 : Int32))) (ls' := [.ref y0, .int y1, .int (y2 + (1 : Int32)), .int y3]) t63_32 rfl rfl (by rw [zci_1]) rfl).trans ?_
  exact (zk_mk (ls' := [.ref y0, .int y1, .int (y2 + (1 : Int32)), .int y3]) t63_35 rfl)
theorem b63_35_eq (d : Nat) (y0 : Nat) (y1 : Int32) (y2 : Int32) (y3 : Int32) (S : z_S) (hW : z_W S) (hy0 : z_K y0 = 6) : b63_35 d y0 y1 y2 y3 S = b63_4 d y0 y1 y2 (y3 + (1 : Int32)) S := by
  unfold b63_35
  refine (k_iinc (b := (y3 + (1 : Int32))) (ls' := [.ref y0, .int y1, .int y2, .int (y3 + (1 : Int32))]) t63_35 rfl rfl (by rw [zci_1]) rfl).trans ?_
  refine (k_goto t63_38 rfl).trans ?_
  exact (zk_mk (ls' := [.ref y0, .int y1, .int y2, .int (y3 + (1 : Int32))]) t63_4 rfl)
-- X6_holders
theorem e63 (d : Nat) (p : Nat) (x1 : Int32) (S : z_S) (hW : z_W S) (hp : z_K p = 6) : fI (d + 1) 63 [.ref p, .int x1] S = b63_4 d p x1 (0 : Int32) (0 : Int32) S := by
  refine (fI_en (Nat.le_of_ble_eq_true rfl) rfl).trans ?_
  refine (k_iconst t63_0 rfl zci_0).trans ?_
  refine (k_istore_n (ls' := [.ref p, .int x1, .int (0 : Int32), z_j]) t63_1 rfl rfl).trans ?_
  refine (k_iconst t63_2 rfl zci_0).trans ?_
  refine (k_istore_n (ls' := [.ref p, .int x1, .int (0 : Int32), .int (0 : Int32)]) t63_3 rfl rfl).trans ?_
  exact (zk_mk (ls' := [.ref p, .int x1, .int (0 : Int32), .int (0 : Int32)]) t63_4 rfl)
theorem t64_0 : z_ft 64 0 = some (.iconst 0, 1, none, [], 0, 0, 0, 0) := z_ftd (by decide +kernel)
theorem t64_1 : z_ft 64 1 = some (.istore_n 2, 1, none, [], 0, 0, 0, 0) := z_ftd (by decide +kernel)
theorem t64_2 : z_ft 64 2 = some (.iload_n 2, 1, (some [0, 1, 2]), [], 0, 0, 0, 0) := z_ftd (by decide +kernel)
theorem t64_3 : z_ft 64 3 = some (.aload_n 0, 1, none, [], 0, 0, 0, 0) := z_ftd (by decide +kernel)
theorem t64_4 : z_ft 64 4 = some (.getfield 30, 3, none, [], 6, 6, 7, 0) := z_ftd (by decide +kernel)
theorem t64_7 : z_ft 64 7 = some (.if_icmp .ge 21, 3, none, [], 28, 0, 0, 0) := z_ftd (by decide +kernel)
theorem t64_10 : z_ft 64 10 = some (.aload_n 0, 1, none, [], 0, 0, 0, 0) := z_ftd (by decide +kernel)
theorem t64_11 : z_ft 64 11 = some (.getfield 39, 3, none, [], 6, 9, 10, 0) := z_ftd (by decide +kernel)
theorem t64_14 : z_ft 64 14 = some (.iload_n 2, 1, none, [], 0, 0, 0, 0) := z_ftd (by decide +kernel)
theorem t64_15 : z_ft 64 15 = some (.iaload, 1, none, [], 0, 0, 0, 0) := z_ftd (by decide +kernel)
theorem t64_16 : z_ft 64 16 = some (.iload_n 1, 1, none, [], 0, 0, 0, 0) := z_ftd (by decide +kernel)
theorem t64_17 : z_ft 64 17 = some (.if_icmp .ne 5, 3, none, [], 22, 0, 0, 0) := z_ftd (by decide +kernel)
theorem t64_20 : z_ft 64 20 = some (.iload_n 2, 1, none, [], 0, 0, 0, 0) := z_ftd (by decide +kernel)
theorem t64_21 : z_ft 64 21 = some (.ireturn, 1, none, [], 0, 0, 0, 0) := z_ftd (by decide +kernel)
theorem t64_22 : z_ft 64 22 = some (.iinc 2 1, 3, none, [], 0, 0, 0, 0) := z_ftd (by decide +kernel)
theorem t64_25 : z_ft 64 25 = some (.goto (-23), 3, none, [], 2, 0, 0, 0) := z_ftd (by decide +kernel)
theorem t64_28 : z_ft 64 28 = some (.iconst (-1), 1, none, [], 0, 0, 0, 0) := z_ftd (by decide +kernel)
theorem t64_29 : z_ft 64 29 = some (.ireturn, 1, none, [], 0, 0, 0, 0) := z_ftd (by decide +kernel)
noncomputable def b64_2 (d : Nat) (y0 : Nat) (y1 : Int32) (y2 : Int32) (S : z_S) : Option (Int32 × z_S) := zk kI z_X0 d 64 2 [.ref y0, .int y1, .int y2] [] S
theorem b64_2_eq (d : Nat) (y0 : Nat) (y1 : Int32) (y2 : Int32) (S : z_S) (hW : z_W S) (hy0 : z_K y0 = 6) : b64_2 d y0 y1 y2 S = (if (gI S y0 6) ≤ y2 then some ((-1 : Int32), S) else (if z_in y2 16 then (if ¬ (gI S (y0 + 1) (y2).toNatClampNeg) = y1 then b64_2 d y0 y1 (y2 + (1 : Int32)) S else some (y2, S)) else none)) := by
  unfold b64_2
  refine (k_iload_n t64_2 rfl rfl).trans ?_
  refine (k_aload_n t64_3 rfl rfl).trans ?_
  refine (k_getI t64_4 rfl hW hy0 (by decide) (by decide)).trans ?_
  refine (k_icmp_ge t64_7 rfl).trans (z_ite (fun g1 => ?_) (fun g1 => ?_))
  · refine (k_iconst t64_28 rfl zci_m1).trans ?_
    exact k_ireturn t64_29 rfl (by decide)
  · refine (k_aload_n t64_10 rfl rfl).trans ?_
    refine (k_getR t64_11 rfl hW hy0 (by decide) (by decide) (zO_6_9 hW hy0)).trans ?_
    refine (k_iload_n t64_14 rfl rfl).trans ?_
    refine (k_iald t64_15 rfl hW (zOK_6_9 hy0) (zOL_6_9 hy0)).trans (z_ite (fun g2 => ?_) (fun _ => rfl))
    refine (k_iload_n t64_16 rfl rfl).trans ?_
    refine (k_icmp_ne t64_17 rfl).trans (z_ite (fun g3 => ?_) (fun g3 => ?_))
    · refine (k_iinc (b := (y2 + (1 : Int32))) (ls' := [.ref y0, .int y1, .int (y2 + (1 : Int32))]) t64_22 rfl rfl (by rw [zci_1]) rfl).trans ?_
      refine (k_goto t64_25 rfl).trans ?_
      exact (zk_mk (ls' := [.ref y0, .int y1, .int (y2 + (1 : Int32))]) t64_2 rfl)
    · refine (k_iload_n t64_20 rfl rfl).trans ?_
      exact k_ireturn t64_21 rfl (by decide)
-- X6_lodgerNamed
theorem e64 (d : Nat) (p : Nat) (x1 : Int32) (S : z_S) (hW : z_W S) (hp : z_K p = 6) : fI (d + 1) 64 [.ref p, .int x1] S = b64_2 d p x1 (0 : Int32) S := by
  refine (fI_en (Nat.le_of_ble_eq_true rfl) rfl).trans ?_
  refine (k_iconst t64_0 rfl zci_0).trans ?_
  refine (k_istore_n (ls' := [.ref p, .int x1, .int (0 : Int32)]) t64_1 rfl rfl).trans ?_
  exact (zk_mk (ls' := [.ref p, .int x1, .int (0 : Int32)]) t64_2 rfl)
theorem t65_0 : z_ft 65 0 = some (.iconst 0, 1, none, [], 0, 0, 0, 0) := z_ftd (by decide +kernel)
theorem t65_1 : z_ft 65 1 = some (.istore_n 2, 1, none, [], 0, 0, 0, 0) := z_ftd (by decide +kernel)
theorem t65_2 : z_ft 65 2 = some (.iload_n 2, 1, (some [0, 1, 2]), [], 0, 0, 0, 0) := z_ftd (by decide +kernel)
theorem t65_3 : z_ft 65 3 = some (.aload_n 0, 1, none, [], 0, 0, 0, 0) := z_ftd (by decide +kernel)
theorem t65_4 : z_ft 65 4 = some (.getfield 33, 3, none, [], 6, 7, 8, 0) := z_ftd (by decide +kernel)
theorem t65_7 : z_ft 65 7 = some (.if_icmp .ge 21, 3, none, [], 28, 0, 0, 0) := z_ftd (by decide +kernel)
theorem t65_10 : z_ft 65 10 = some (.aload_n 0, 1, none, [], 0, 0, 0, 0) := z_ftd (by decide +kernel)
theorem t65_11 : z_ft 65 11 = some (.getfield 49, 3, none, [], 6, 12, 13, 0) := z_ftd (by decide +kernel)
theorem t65_14 : z_ft 65 14 = some (.iload_n 2, 1, none, [], 0, 0, 0, 0) := z_ftd (by decide +kernel)
theorem t65_15 : z_ft 65 15 = some (.iaload, 1, none, [], 0, 0, 0, 0) := z_ftd (by decide +kernel)
theorem t65_16 : z_ft 65 16 = some (.iload_n 1, 1, none, [], 0, 0, 0, 0) := z_ftd (by decide +kernel)
theorem t65_17 : z_ft 65 17 = some (.if_icmp .ne 5, 3, none, [], 22, 0, 0, 0) := z_ftd (by decide +kernel)
theorem t65_20 : z_ft 65 20 = some (.iconst 1, 1, none, [], 0, 0, 0, 0) := z_ftd (by decide +kernel)
theorem t65_21 : z_ft 65 21 = some (.ireturn, 1, none, [], 0, 0, 0, 0) := z_ftd (by decide +kernel)
theorem t65_22 : z_ft 65 22 = some (.iinc 2 1, 3, none, [], 0, 0, 0, 0) := z_ftd (by decide +kernel)
theorem t65_25 : z_ft 65 25 = some (.goto (-23), 3, none, [], 2, 0, 0, 0) := z_ftd (by decide +kernel)
theorem t65_28 : z_ft 65 28 = some (.iconst 0, 1, none, [], 0, 0, 0, 0) := z_ftd (by decide +kernel)
theorem t65_29 : z_ft 65 29 = some (.ireturn, 1, none, [], 0, 0, 0, 0) := z_ftd (by decide +kernel)
noncomputable def b65_2 (d : Nat) (y0 : Nat) (y1 : Int32) (y2 : Int32) (S : z_S) : Option (Int32 × z_S) := zk kI z_X0 d 65 2 [.ref y0, .int y1, .int y2] [] S
theorem b65_2_eq (d : Nat) (y0 : Nat) (y1 : Int32) (y2 : Int32) (S : z_S) (hW : z_W S) (hy0 : z_K y0 = 6) : b65_2 d y0 y1 y2 S = (if (gI S y0 7) ≤ y2 then some ((0 : Int32), S) else (if z_in y2 16 then (if ¬ (gI S (y0 + 4) (y2).toNatClampNeg) = y1 then b65_2 d y0 y1 (y2 + (1 : Int32)) S else some ((1 : Int32), S)) else none)) := by
  unfold b65_2
  refine (k_iload_n t65_2 rfl rfl).trans ?_
  refine (k_aload_n t65_3 rfl rfl).trans ?_
  refine (k_getI t65_4 rfl hW hy0 (by decide) (by decide)).trans ?_
  refine (k_icmp_ge t65_7 rfl).trans (z_ite (fun g1 => ?_) (fun g1 => ?_))
  · refine (k_iconst t65_28 rfl zci_0).trans ?_
    exact k_zretC t65_29 rfl (by decide) (by decide)
  · refine (k_aload_n t65_10 rfl rfl).trans ?_
    refine (k_getR t65_11 rfl hW hy0 (by decide) (by decide) (zO_6_12 hW hy0)).trans ?_
    refine (k_iload_n t65_14 rfl rfl).trans ?_
    refine (k_iald t65_15 rfl hW (zOK_6_12 hy0) (zOL_6_12 hy0)).trans (z_ite (fun g2 => ?_) (fun _ => rfl))
    refine (k_iload_n t65_16 rfl rfl).trans ?_
    refine (k_icmp_ne t65_17 rfl).trans (z_ite (fun g3 => ?_) (fun g3 => ?_))
    · refine (k_iinc (b := (y2 + (1 : Int32))) (ls' := [.ref y0, .int y1, .int (y2 + (1 : Int32))]) t65_22 rfl rfl (by rw [zci_1]) rfl).trans ?_
      refine (k_goto t65_25 rfl).trans ?_
      exact (zk_mk (ls' := [.ref y0, .int y1, .int (y2 + (1 : Int32))]) t65_2 rfl)
    · refine (k_iconst t65_20 rfl zci_1).trans ?_
      exact k_zretC t65_21 rfl (by decide) (by decide)
-- X6_isComer
theorem e65 (d : Nat) (p : Nat) (x1 : Int32) (S : z_S) (hW : z_W S) (hp : z_K p = 6) : fI (d + 1) 65 [.ref p, .int x1] S = b65_2 d p x1 (0 : Int32) S := by
  refine (fI_en (Nat.le_of_ble_eq_true rfl) rfl).trans ?_
  refine (k_iconst t65_0 rfl zci_0).trans ?_
  refine (k_istore_n (ls' := [.ref p, .int x1, .int (0 : Int32)]) t65_1 rfl rfl).trans ?_
  exact (zk_mk (ls' := [.ref p, .int x1, .int (0 : Int32)]) t65_2 rfl)
theorem t66_0 : z_ft 66 0 = some (.aload_n 0, 1, none, [], 0, 0, 0, 0) := z_ftd (by decide +kernel)
theorem t66_1 : z_ft 66 1 = some (.getfield 36, 3, none, [], 6, 8, 9, 0) := z_ftd (by decide +kernel)
theorem t66_4 : z_ft 66 4 = some (.aload_n 0, 1, none, [], 0, 0, 0, 0) := z_ftd (by decide +kernel)
theorem t66_5 : z_ft 66 5 = some (.getfield 52, 3, none, [], 6, 13, 14, 0) := z_ftd (by decide +kernel)
theorem t66_8 : z_ft 66 8 = some (.arraylength, 1, none, [], 0, 0, 0, 0) := z_ftd (by decide +kernel)
theorem t66_9 : z_ft 66 9 = some (.if_icmp .ge 23, 3, none, [], 32, 0, 0, 0) := z_ftd (by decide +kernel)
theorem t66_12 : z_ft 66 12 = some (.aload_n 0, 1, none, [], 0, 0, 0, 0) := z_ftd (by decide +kernel)
theorem t66_13 : z_ft 66 13 = some (.getfield 52, 3, none, [], 6, 13, 14, 0) := z_ftd (by decide +kernel)
theorem t66_16 : z_ft 66 16 = some (.aload_n 0, 1, none, [], 0, 0, 0, 0) := z_ftd (by decide +kernel)
theorem t66_17 : z_ft 66 17 = some (.getfield 36, 3, none, [], 6, 8, 9, 0) := z_ftd (by decide +kernel)
theorem t66_20 : z_ft 66 20 = some (.iload_n 1, 1, none, [], 0, 0, 0, 0) := z_ftd (by decide +kernel)
theorem t66_21 : z_ft 66 21 = some (.iastore, 1, none, [], 0, 0, 0, 0) := z_ftd (by decide +kernel)
theorem t66_22 : z_ft 66 22 = some (.aload_n 0, 1, none, [], 0, 0, 0, 0) := z_ftd (by decide +kernel)
theorem t66_23 : z_ft 66 23 = some (.dup, 1, none, [], 0, 0, 0, 0) := z_ftd (by decide +kernel)
theorem t66_24 : z_ft 66 24 = some (.getfield 36, 3, none, [], 6, 8, 9, 0) := z_ftd (by decide +kernel)
theorem t66_27 : z_ft 66 27 = some (.iconst 1, 1, none, [], 0, 0, 0, 0) := z_ftd (by decide +kernel)
theorem t66_28 : z_ft 66 28 = some (.iadd, 1, none, [], 0, 0, 0, 0) := z_ftd (by decide +kernel)
theorem t66_29 : z_ft 66 29 = some (.putfield 36, 3, none, [], 6, 8, 9, 0) := z_ftd (by decide +kernel)
theorem t66_32 : z_ft 66 32 = some (.return_, 1, (some []), [], 0, 0, 0, 0) := z_ftd (by decide +kernel)
-- X6_addCode
theorem e66 (d : Nat) (p : Nat) (x1 : Int32) (S : z_S) (hW : z_W S) (hp : z_K p = 6) : fV (d + 1) 66 [.ref p, .int x1] S = (if (Int32.ofNat 1600) ≤ (gI S p 8) then some S else (if z_in (gI S p 8) 1600 then some (sI (sI S (p + 5) ((gI S p 8)).toNatClampNeg x1) p 8 ((gI (sI S (p + 5) ((gI S p 8)).toNatClampNeg x1) p 8) + (1 : Int32))) else none)) := by
  refine (fV_en (Nat.le_of_ble_eq_true rfl) rfl).trans ?_
  refine (k_aload_n t66_0 rfl rfl).trans ?_
  refine (k_getI t66_1 rfl hW hp (by decide) (by decide)).trans ?_
  refine (k_aload_n t66_4 rfl rfl).trans ?_
  refine (k_getR t66_5 rfl hW hp (by decide) (by decide) (zO_6_13 hW hp)).trans ?_
  refine (k_alen t66_8 rfl hW (by rw [(zOK_6_13 hp)]; decide) (zOL_6_13 hp)).trans ?_
  refine (k_icmp_ge t66_9 rfl).trans (z_ite (fun g1 => ?_) (fun g1 => ?_))
  · refine (zk_mk (ls' := [z_j, z_j]) t66_32 rfl).trans ?_
    exact k_return t66_32 rfl (by decide)
  · refine (k_aload_n t66_12 rfl rfl).trans ?_
    refine (k_getR t66_13 rfl hW hp (by decide) (by decide) (zO_6_13 hW hp)).trans ?_
    refine (k_aload_n t66_16 rfl rfl).trans ?_
    refine (k_getI t66_17 rfl hW hp (by decide) (by decide)).trans ?_
    refine (k_iload_n t66_20 rfl rfl).trans ?_
    refine (k_iast t66_21 rfl hW (zOK_6_13 hp) (zOL_6_13 hp)).trans (z_ite (fun g2 => ?_) (fun _ => rfl))
    refine (k_aload_n t66_22 rfl rfl).trans ?_
    refine (k_dupR t66_23 rfl).trans ?_
    refine (k_getI t66_24 rfl hW.sI hp (by decide) (by decide)).trans ?_
    refine (k_iconst t66_27 rfl zci_1).trans ?_
    refine (k_iadd t66_28 rfl).trans ?_
    refine (k_putI t66_29 rfl hW.sI hp (by decide) (by decide) (by decide)).trans ?_
    refine (zk_mk (ls' := [z_j, z_j]) t66_32 rfl).trans ?_
    exact k_return t66_32 rfl (by decide)
theorem t74_0 : z_ft 74 0 = some (.aload_n 0, 1, none, [], 0, 0, 0, 0) := z_ftd (by decide +kernel)
theorem t74_1 : z_ft 74 1 = some (.iconst 0, 1, none, [], 0, 0, 0, 0) := z_ftd (by decide +kernel)
theorem t74_2 : z_ft 74 2 = some (.putfield 9, 3, none, [], 8, 0, 2, 0) := z_ftd (by decide +kernel)
theorem t74_5 : z_ft 74 5 = some (.aload_n 0, 1, none, [], 0, 0, 0, 0) := z_ftd (by decide +kernel)
theorem t74_6 : z_ft 74 6 = some (.iconst 0, 1, none, [], 0, 0, 0, 0) := z_ftd (by decide +kernel)
theorem t74_7 : z_ft 74 7 = some (.putfield 15, 3, none, [], 8, 1, 3, 0) := z_ftd (by decide +kernel)
theorem t74_10 : z_ft 74 10 = some (.aload_n 0, 1, none, [], 0, 0, 0, 0) := z_ftd (by decide +kernel)
theorem t74_11 : z_ft 74 11 = some (.iload_n 1, 1, none, [], 0, 0, 0, 0) := z_ftd (by decide +kernel)
theorem t74_12 : z_ft 74 12 = some (.putfield 18, 3, none, [], 8, 2, 4, 0) := z_ftd (by decide +kernel)
theorem t74_15 : z_ft 74 15 = some (.aload_n 0, 1, none, [], 0, 0, 0, 0) := z_ftd (by decide +kernel)
theorem t74_16 : z_ft 74 16 = some (.iconst 0, 1, none, [], 0, 0, 0, 0) := z_ftd (by decide +kernel)
theorem t74_17 : z_ft 74 17 = some (.putfield 21, 3, none, [], 8, 3, 5, 0) := z_ftd (by decide +kernel)
theorem t74_20 : z_ft 74 20 = some (.aload_n 0, 1, none, [], 0, 0, 0, 0) := z_ftd (by decide +kernel)
theorem t74_21 : z_ft 74 21 = some (.iconst 0, 1, none, [], 0, 0, 0, 0) := z_ftd (by decide +kernel)
theorem t74_22 : z_ft 74 22 = some (.putfield 24, 3, none, [], 8, 4, 6, 0) := z_ftd (by decide +kernel)
theorem t74_25 : z_ft 74 25 = some (.aload_n 0, 1, none, [], 0, 0, 0, 0) := z_ftd (by decide +kernel)
theorem t74_26 : z_ft 74 26 = some (.getfield 27, 3, none, [], 8, 5, 7, 0) := z_ftd (by decide +kernel)
theorem t74_29 : z_ft 74 29 = some (.iconst (-1), 1, none, [], 0, 0, 0, 0) := z_ftd (by decide +kernel)
theorem t74_30 : z_ft 74 30 = some (.invokestatic 40, 3, none, [], 281, 0, 1, 0) := z_ftd (by decide +kernel)
theorem t74_33 : z_ft 74 33 = some (.aload_n 0, 1, none, [], 0, 0, 0, 0) := z_ftd (by decide +kernel)
theorem t74_34 : z_ft 74 34 = some (.getfield 31, 3, none, [], 8, 6, 8, 0) := z_ftd (by decide +kernel)
theorem t74_37 : z_ft 74 37 = some (.sipush 255, 3, none, [], 0, 0, 0, 0) := z_ftd (by decide +kernel)
theorem t74_40 : z_ft 74 40 = some (.invokestatic 40, 3, none, [], 281, 0, 1, 0) := z_ftd (by decide +kernel)
theorem t74_43 : z_ft 74 43 = some (.aload_n 0, 1, none, [], 0, 0, 0, 0) := z_ftd (by decide +kernel)
theorem t74_44 : z_ft 74 44 = some (.getfield 34, 3, none, [], 8, 7, 9, 0) := z_ftd (by decide +kernel)
theorem t74_47 : z_ft 74 47 = some (.iconst 0, 1, none, [], 0, 0, 0, 0) := z_ftd (by decide +kernel)
theorem t74_48 : z_ft 74 48 = some (.invokestatic 40, 3, none, [], 281, 0, 1, 0) := z_ftd (by decide +kernel)
theorem t74_51 : z_ft 74 51 = some (.return_, 1, none, [], 0, 0, 0, 0) := z_ftd (by decide +kernel)
-- X8_emptyAll
theorem e74 (d : Nat) (p : Nat) (x1 : Int32) (S : z_S) (hW : z_W S) (hp : z_K p = 8) : fV (d + 1) 74 [.ref p, .int x1] S = ((fV d 281 [.ref (p + 1), .int (-1 : Int32)] (sI (sI (sI (sI (sI S p 0 (0 : Int32)) p 1 (0 : Int32)) p 2 x1) p 3 (0 : Int32)) p 4 (0 : Int32))).bind fun S2 => ((fV d 281 [.ref (p + 2), .int (255 : Int32)] S2).bind fun S4 => ((fV d 281 [.ref (p + 3), .int (0 : Int32)] S4).bind fun S6 => some S6))) := by
  refine (fV_en (Nat.le_of_ble_eq_true rfl) rfl).trans ?_
  refine (k_aload_n t74_0 rfl rfl).trans ?_
  refine (k_iconst t74_1 rfl zci_0).trans ?_
  refine (k_putI t74_2 rfl hW hp (by decide) (by decide) (by decide)).trans ?_
  refine (k_aload_n t74_5 rfl rfl).trans ?_
  refine (k_iconst t74_6 rfl zci_0).trans ?_
  refine (k_putI t74_7 rfl hW.sI hp (by decide) (by decide) (by decide)).trans ?_
  refine (k_aload_n t74_10 rfl rfl).trans ?_
  refine (k_iload_n t74_11 rfl rfl).trans ?_
  refine (k_putI t74_12 rfl hW.sI.sI hp (by decide) (by decide) (by decide)).trans ?_
  refine (k_aload_n t74_15 rfl rfl).trans ?_
  refine (k_iconst t74_16 rfl zci_0).trans ?_
  refine (k_putI t74_17 rfl hW.sI.sI.sI hp (by decide) (by decide) (by decide)).trans ?_
  refine (k_aload_n t74_20 rfl rfl).trans ?_
  refine (k_iconst t74_21 rfl zci_0).trans ?_
  refine (k_putI t74_22 rfl hW.sI.sI.sI.sI hp (by decide) (by decide) (by decide)).trans ?_
  refine (k_aload_n t74_25 rfl rfl).trans ?_
  refine (k_getR t74_26 rfl hW.sI.sI.sI.sI.sI hp (by decide) (by decide) (zO_8_5 hW.sI.sI.sI.sI.sI hp)).trans ?_
  refine (k_iconst t74_29 rfl zci_m1).trans ?_
  refine k_callV (as := [.ref (p + 1), .int (-1 : Int32)]) (rest := []) t74_30 rfl rfl (by decide) rfl rfl (Nat.le_of_ble_eq_true rfl) rfl (z_rcS (by decide)) (by decide) (by decide) hW.sI.sI.sI.sI.sI (fun S2 hW2 => ?_)
  refine (k_aload_n t74_33 rfl rfl).trans ?_
  refine (k_getR t74_34 rfl hW2 hp (by decide) (by decide) (zO_8_6 hW2 hp)).trans ?_
  refine (k_sipush t74_37 rfl zcs_255).trans ?_
  refine k_callV (as := [.ref (p + 2), .int (255 : Int32)]) (rest := []) t74_40 rfl rfl (by decide) rfl rfl (Nat.le_of_ble_eq_true rfl) rfl (z_rcS (by decide)) (by decide) (by decide) hW2 (fun S4 hW4 => ?_)
  refine (k_aload_n t74_43 rfl rfl).trans ?_
  refine (k_getR t74_44 rfl hW4 hp (by decide) (by decide) (zO_8_7 hW4 hp)).trans ?_
  refine (k_iconst t74_47 rfl zci_0).trans ?_
  refine k_callV (as := [.ref (p + 3), .int (0 : Int32)]) (rest := []) t74_48 rfl rfl (by decide) rfl rfl (Nat.le_of_ble_eq_true rfl) rfl (z_rcS (by decide)) (by decide) (by decide) hW4 (fun S6 hW6 => ?_)
  exact k_return t74_51 rfl (by decide)
theorem t75_0 : z_ft 75 0 = some (.aload_n 0, 1, none, [], 0, 0, 0, 0) := z_ftd (by decide +kernel)
theorem t75_1 : z_ft 75 1 = some (.aload_n 1, 1, none, [], 0, 0, 0, 0) := z_ftd (by decide +kernel)
theorem t75_2 : z_ft 75 2 = some (.getfield 9, 3, none, [], 8, 0, 2, 0) := z_ftd (by decide +kernel)
theorem t75_5 : z_ft 75 5 = some (.putfield 9, 3, none, [], 8, 0, 2, 0) := z_ftd (by decide +kernel)
theorem t75_8 : z_ft 75 8 = some (.aload_n 0, 1, none, [], 0, 0, 0, 0) := z_ftd (by decide +kernel)
theorem t75_9 : z_ft 75 9 = some (.aload_n 1, 1, none, [], 0, 0, 0, 0) := z_ftd (by decide +kernel)
theorem t75_10 : z_ft 75 10 = some (.getfield 15, 3, none, [], 8, 1, 3, 0) := z_ftd (by decide +kernel)
theorem t75_13 : z_ft 75 13 = some (.putfield 15, 3, none, [], 8, 1, 3, 0) := z_ftd (by decide +kernel)
theorem t75_16 : z_ft 75 16 = some (.aload_n 0, 1, none, [], 0, 0, 0, 0) := z_ftd (by decide +kernel)
theorem t75_17 : z_ft 75 17 = some (.aload_n 1, 1, none, [], 0, 0, 0, 0) := z_ftd (by decide +kernel)
theorem t75_18 : z_ft 75 18 = some (.getfield 18, 3, none, [], 8, 2, 4, 0) := z_ftd (by decide +kernel)
theorem t75_21 : z_ft 75 21 = some (.putfield 18, 3, none, [], 8, 2, 4, 0) := z_ftd (by decide +kernel)
theorem t75_24 : z_ft 75 24 = some (.aload_n 0, 1, none, [], 0, 0, 0, 0) := z_ftd (by decide +kernel)
theorem t75_25 : z_ft 75 25 = some (.aload_n 1, 1, none, [], 0, 0, 0, 0) := z_ftd (by decide +kernel)
theorem t75_26 : z_ft 75 26 = some (.getfield 21, 3, none, [], 8, 3, 5, 0) := z_ftd (by decide +kernel)
theorem t75_29 : z_ft 75 29 = some (.putfield 21, 3, none, [], 8, 3, 5, 0) := z_ftd (by decide +kernel)
theorem t75_32 : z_ft 75 32 = some (.aload_n 0, 1, none, [], 0, 0, 0, 0) := z_ftd (by decide +kernel)
theorem t75_33 : z_ft 75 33 = some (.aload_n 1, 1, none, [], 0, 0, 0, 0) := z_ftd (by decide +kernel)
theorem t75_34 : z_ft 75 34 = some (.getfield 24, 3, none, [], 8, 4, 6, 0) := z_ftd (by decide +kernel)
theorem t75_37 : z_ft 75 37 = some (.putfield 24, 3, none, [], 8, 4, 6, 0) := z_ftd (by decide +kernel)
theorem t75_40 : z_ft 75 40 = some (.aload_n 1, 1, none, [], 0, 0, 0, 0) := z_ftd (by decide +kernel)
theorem t75_41 : z_ft 75 41 = some (.getfield 27, 3, none, [], 8, 5, 7, 0) := z_ftd (by decide +kernel)
theorem t75_44 : z_ft 75 44 = some (.iconst 0, 1, none, [], 0, 0, 0, 0) := z_ftd (by decide +kernel)
theorem t75_45 : z_ft 75 45 = some (.aload_n 0, 1, none, [], 0, 0, 0, 0) := z_ftd (by decide +kernel)
theorem t75_46 : z_ft 75 46 = some (.getfield 27, 3, none, [], 8, 5, 7, 0) := z_ftd (by decide +kernel)
theorem t75_49 : z_ft 75 49 = some (.iconst 0, 1, none, [], 0, 0, 0, 0) := z_ftd (by decide +kernel)
theorem t75_50 : z_ft 75 50 = some (.bipush 16, 2, none, [], 0, 0, 0, 0) := z_ftd (by decide +kernel)
theorem t75_52 : z_ft 75 52 = some (.invokestatic 46, 3, none, [], 901, 0, 11, 0) := z_ftd (by decide +kernel)
theorem t75_55 : z_ft 75 55 = some (.aload_n 1, 1, none, [], 0, 0, 0, 0) := z_ftd (by decide +kernel)
theorem t75_56 : z_ft 75 56 = some (.getfield 31, 3, none, [], 8, 6, 8, 0) := z_ftd (by decide +kernel)
theorem t75_59 : z_ft 75 59 = some (.iconst 0, 1, none, [], 0, 0, 0, 0) := z_ftd (by decide +kernel)
theorem t75_60 : z_ft 75 60 = some (.aload_n 0, 1, none, [], 0, 0, 0, 0) := z_ftd (by decide +kernel)
theorem t75_61 : z_ft 75 61 = some (.getfield 31, 3, none, [], 8, 6, 8, 0) := z_ftd (by decide +kernel)
theorem t75_64 : z_ft 75 64 = some (.iconst 0, 1, none, [], 0, 0, 0, 0) := z_ftd (by decide +kernel)
theorem t75_65 : z_ft 75 65 = some (.bipush 16, 2, none, [], 0, 0, 0, 0) := z_ftd (by decide +kernel)
theorem t75_67 : z_ft 75 67 = some (.invokestatic 46, 3, none, [], 901, 0, 11, 0) := z_ftd (by decide +kernel)
theorem t75_70 : z_ft 75 70 = some (.aload_n 1, 1, none, [], 0, 0, 0, 0) := z_ftd (by decide +kernel)
theorem t75_71 : z_ft 75 71 = some (.getfield 34, 3, none, [], 8, 7, 9, 0) := z_ftd (by decide +kernel)
theorem t75_74 : z_ft 75 74 = some (.iconst 0, 1, none, [], 0, 0, 0, 0) := z_ftd (by decide +kernel)
theorem t75_75 : z_ft 75 75 = some (.aload_n 0, 1, none, [], 0, 0, 0, 0) := z_ftd (by decide +kernel)
theorem t75_76 : z_ft 75 76 = some (.getfield 34, 3, none, [], 8, 7, 9, 0) := z_ftd (by decide +kernel)
theorem t75_79 : z_ft 75 79 = some (.iconst 0, 1, none, [], 0, 0, 0, 0) := z_ftd (by decide +kernel)
theorem t75_80 : z_ft 75 80 = some (.bipush 16, 2, none, [], 0, 0, 0, 0) := z_ftd (by decide +kernel)
theorem t75_82 : z_ft 75 82 = some (.invokestatic 46, 3, none, [], 901, 0, 11, 0) := z_ftd (by decide +kernel)
theorem t75_85 : z_ft 75 85 = some (.aload_n 1, 1, none, [], 0, 0, 0, 0) := z_ftd (by decide +kernel)
theorem t75_86 : z_ft 75 86 = some (.getfield 37, 3, none, [], 8, 8, 10, 0) := z_ftd (by decide +kernel)
theorem t75_89 : z_ft 75 89 = some (.iconst 0, 1, none, [], 0, 0, 0, 0) := z_ftd (by decide +kernel)
theorem t75_90 : z_ft 75 90 = some (.aload_n 0, 1, none, [], 0, 0, 0, 0) := z_ftd (by decide +kernel)
theorem t75_91 : z_ft 75 91 = some (.getfield 37, 3, none, [], 8, 8, 10, 0) := z_ftd (by decide +kernel)
theorem t75_94 : z_ft 75 94 = some (.iconst 0, 1, none, [], 0, 0, 0, 0) := z_ftd (by decide +kernel)
theorem t75_95 : z_ft 75 95 = some (.bipush 6, 2, none, [], 0, 0, 0, 0) := z_ftd (by decide +kernel)
theorem t75_97 : z_ft 75 97 = some (.invokestatic 46, 3, none, [], 901, 0, 11, 0) := z_ftd (by decide +kernel)
theorem t75_100 : z_ft 75 100 = some (.return_, 1, none, [], 0, 0, 0, 0) := z_ftd (by decide +kernel)
-- X8_copy
theorem e75 (d : Nat) (p : Nat) (p1 : Nat) (S : z_S) (hW : z_W S) (hp : z_K p = 8) (hp1 : z_K p1 = 8) : fV (d + 1) 75 [.ref p, .ref p1] S = some (cI (cI (cI (cI (sI (sI (sI (sI (sI S p 0 (gI S p1 0)) p 1 (gI (sI S p 0 (gI S p1 0)) p1 1)) p 2 (gI (sI (sI S p 0 (gI S p1 0)) p 1 (gI (sI S p 0 (gI S p1 0)) p1 1)) p1 2)) p 3 (gI (sI (sI (sI S p 0 (gI S p1 0)) p 1 (gI (sI S p 0 (gI S p1 0)) p1 1)) p 2 (gI (sI (sI S p 0 (gI S p1 0)) p 1 (gI (sI S p 0 (gI S p1 0)) p1 1)) p1 2)) p1 3)) p 4 (gI (sI (sI (sI (sI S p 0 (gI S p1 0)) p 1 (gI (sI S p 0 (gI S p1 0)) p1 1)) p 2 (gI (sI (sI S p 0 (gI S p1 0)) p 1 (gI (sI S p 0 (gI S p1 0)) p1 1)) p1 2)) p 3 (gI (sI (sI (sI S p 0 (gI S p1 0)) p 1 (gI (sI S p 0 (gI S p1 0)) p1 1)) p 2 (gI (sI (sI S p 0 (gI S p1 0)) p 1 (gI (sI S p 0 (gI S p1 0)) p1 1)) p1 2)) p1 3)) p1 4)) (p1 + 1) ((0 : Int32)).toNatClampNeg (p + 1) ((0 : Int32)).toNatClampNeg ((16 : Int32)).toNatClampNeg) (p1 + 2) ((0 : Int32)).toNatClampNeg (p + 2) ((0 : Int32)).toNatClampNeg ((16 : Int32)).toNatClampNeg) (p1 + 3) ((0 : Int32)).toNatClampNeg (p + 3) ((0 : Int32)).toNatClampNeg ((16 : Int32)).toNatClampNeg) (p1 + 4) ((0 : Int32)).toNatClampNeg (p + 4) ((0 : Int32)).toNatClampNeg ((6 : Int32)).toNatClampNeg) := by
  refine (fV_en (Nat.le_of_ble_eq_true rfl) rfl).trans ?_
  refine (k_aload_n t75_0 rfl rfl).trans ?_
  refine (k_aload_n t75_1 rfl rfl).trans ?_
  refine (k_getI t75_2 rfl hW hp1 (by decide) (by decide)).trans ?_
  refine (k_putI t75_5 rfl hW hp (by decide) (by decide) (by decide)).trans ?_
  refine (k_aload_n t75_8 rfl rfl).trans ?_
  refine (k_aload_n t75_9 rfl rfl).trans ?_
  refine (k_getI t75_10 rfl hW.sI hp1 (by decide) (by decide)).trans ?_
  refine (k_putI t75_13 rfl hW.sI hp (by decide) (by decide) (by decide)).trans ?_
  refine (k_aload_n t75_16 rfl rfl).trans ?_
  refine (k_aload_n t75_17 rfl rfl).trans ?_
  refine (k_getI t75_18 rfl hW.sI.sI hp1 (by decide) (by decide)).trans ?_
  refine (k_putI t75_21 rfl hW.sI.sI hp (by decide) (by decide) (by decide)).trans ?_
  refine (k_aload_n t75_24 rfl rfl).trans ?_
  refine (k_aload_n t75_25 rfl rfl).trans ?_
  refine (k_getI t75_26 rfl hW.sI.sI.sI hp1 (by decide) (by decide)).trans ?_
  refine (k_putI t75_29 rfl hW.sI.sI.sI hp (by decide) (by decide) (by decide)).trans ?_
  refine (k_aload_n t75_32 rfl rfl).trans ?_
  refine (k_aload_n t75_33 rfl rfl).trans ?_
  refine (k_getI t75_34 rfl hW.sI.sI.sI.sI hp1 (by decide) (by decide)).trans ?_
  refine (k_putI t75_37 rfl hW.sI.sI.sI.sI hp (by decide) (by decide) (by decide)).trans ?_
  refine (k_aload_n t75_40 rfl rfl).trans ?_
  refine (k_getR t75_41 rfl hW.sI.sI.sI.sI.sI hp1 (by decide) (by decide) (zO_8_5 hW.sI.sI.sI.sI.sI hp1)).trans ?_
  refine (k_iconst t75_44 rfl zci_0).trans ?_
  refine (k_aload_n t75_45 rfl rfl).trans ?_
  refine (k_getR t75_46 rfl hW.sI.sI.sI.sI.sI hp (by decide) (by decide) (zO_8_5 hW.sI.sI.sI.sI.sI hp)).trans ?_
  refine (k_iconst t75_49 rfl zci_0).trans ?_
  refine (k_bipush t75_50 rfl zcb_16).trans ?_
  refine ((k_copy t75_52 rfl rfl hW.sI.sI.sI.sI.sI (Nat.le_of_ble_eq_true rfl) (zOK_8_5 hp1) (zOK_8_5 hp) (zOL_8_5 hp1) (zOL_8_5 hp)).trans (if_pos (by decide))).trans ?_
  refine (k_aload_n t75_55 rfl rfl).trans ?_
  refine (k_getR t75_56 rfl hW.sI.sI.sI.sI.sI.cI hp1 (by decide) (by decide) (zO_8_6 hW.sI.sI.sI.sI.sI.cI hp1)).trans ?_
  refine (k_iconst t75_59 rfl zci_0).trans ?_
  refine (k_aload_n t75_60 rfl rfl).trans ?_
  refine (k_getR t75_61 rfl hW.sI.sI.sI.sI.sI.cI hp (by decide) (by decide) (zO_8_6 hW.sI.sI.sI.sI.sI.cI hp)).trans ?_
  refine (k_iconst t75_64 rfl zci_0).trans ?_
  refine (k_bipush t75_65 rfl zcb_16).trans ?_
  refine ((k_copy t75_67 rfl rfl hW.sI.sI.sI.sI.sI.cI (Nat.le_of_ble_eq_true rfl) (zOK_8_6 hp1) (zOK_8_6 hp) (zOL_8_6 hp1) (zOL_8_6 hp)).trans (if_pos (by decide))).trans ?_
  refine (k_aload_n t75_70 rfl rfl).trans ?_
  refine (k_getR t75_71 rfl hW.sI.sI.sI.sI.sI.cI.cI hp1 (by decide) (by decide) (zO_8_7 hW.sI.sI.sI.sI.sI.cI.cI hp1)).trans ?_
  refine (k_iconst t75_74 rfl zci_0).trans ?_
  refine (k_aload_n t75_75 rfl rfl).trans ?_
  refine (k_getR t75_76 rfl hW.sI.sI.sI.sI.sI.cI.cI hp (by decide) (by decide) (zO_8_7 hW.sI.sI.sI.sI.sI.cI.cI hp)).trans ?_
  refine (k_iconst t75_79 rfl zci_0).trans ?_
  refine (k_bipush t75_80 rfl zcb_16).trans ?_
  refine ((k_copy t75_82 rfl rfl hW.sI.sI.sI.sI.sI.cI.cI (Nat.le_of_ble_eq_true rfl) (zOK_8_7 hp1) (zOK_8_7 hp) (zOL_8_7 hp1) (zOL_8_7 hp)).trans (if_pos (by decide))).trans ?_
  refine (k_aload_n t75_85 rfl rfl).trans ?_
  refine (k_getR t75_86 rfl hW.sI.sI.sI.sI.sI.cI.cI.cI hp1 (by decide) (by decide) (zO_8_8 hW.sI.sI.sI.sI.sI.cI.cI.cI hp1)).trans ?_
  refine (k_iconst t75_89 rfl zci_0).trans ?_
  refine (k_aload_n t75_90 rfl rfl).trans ?_
  refine (k_getR t75_91 rfl hW.sI.sI.sI.sI.sI.cI.cI.cI hp (by decide) (by decide) (zO_8_8 hW.sI.sI.sI.sI.sI.cI.cI.cI hp)).trans ?_
  refine (k_iconst t75_94 rfl zci_0).trans ?_
  refine (k_bipush t75_95 rfl zcb_6).trans ?_
  refine ((k_copy t75_97 rfl rfl hW.sI.sI.sI.sI.sI.cI.cI.cI (Nat.le_of_ble_eq_true rfl) (zOK_8_8 hp1) (zOK_8_8 hp) (zOL_8_8 hp1) (zOL_8_8 hp)).trans (if_pos (by decide))).trans ?_
  exact k_return t75_100 rfl (by decide)
theorem t76_0 : z_ft 76 0 = some (.aload_n 0, 1, none, [], 0, 0, 0, 0) := z_ftd (by decide +kernel)
theorem t76_1 : z_ft 76 1 = some (.getfield 18, 3, none, [], 8, 2, 4, 0) := z_ftd (by decide +kernel)
theorem t76_4 : z_ft 76 4 = some (.aload_n 0, 1, none, [], 0, 0, 0, 0) := z_ftd (by decide +kernel)
theorem t76_5 : z_ft 76 5 = some (.getfield 21, 3, none, [], 8, 3, 5, 0) := z_ftd (by decide +kernel)
theorem t76_8 : z_ft 76 8 = some (.ior, 1, none, [], 0, 0, 0, 0) := z_ftd (by decide +kernel)
theorem t76_9 : z_ft 76 9 = some (.iload_n 1, 1, none, [], 0, 0, 0, 0) := z_ftd (by decide +kernel)
theorem t76_10 : z_ft 76 10 = some (.ishr, 1, none, [], 0, 0, 0, 0) := z_ftd (by decide +kernel)
theorem t76_11 : z_ft 76 11 = some (.iconst 1, 1, none, [], 0, 0, 0, 0) := z_ftd (by decide +kernel)
theorem t76_12 : z_ft 76 12 = some (.iand, 1, none, [], 0, 0, 0, 0) := z_ftd (by decide +kernel)
theorem t76_13 : z_ft 76 13 = some (.ifCond .ne 7, 3, none, [], 20, 0, 0, 0) := z_ftd (by decide +kernel)
theorem t76_16 : z_ft 76 16 = some (.iconst 1, 1, none, [], 0, 0, 0, 0) := z_ftd (by decide +kernel)
theorem t76_17 : z_ft 76 17 = some (.goto 4, 3, none, [], 21, 0, 0, 0) := z_ftd (by decide +kernel)
theorem t76_20 : z_ft 76 20 = some (.iconst 0, 1, none, [], 0, 0, 0, 0) := z_ftd (by decide +kernel)
theorem t76_21 : z_ft 76 21 = some (.ireturn, 1, (some []), [], 0, 0, 0, 0) := z_ftd (by decide +kernel)
-- X8_isFree
theorem e76 (d : Nat) (p : Nat) (x1 : Int32) (S : z_S) (hW : z_W S) (hp : z_K p = 8) : fI (d + 1) 76 [.ref p, .int x1] S = (if ¬ ((((gI S p 2) ||| (gI S p 3)) >>> (x1 &&& 31)) &&& (1 : Int32)) = (0 : Int32) then some ((0 : Int32), S) else some ((1 : Int32), S)) := by
  refine (fI_en (Nat.le_of_ble_eq_true rfl) rfl).trans ?_
  refine (k_aload_n t76_0 rfl rfl).trans ?_
  refine (k_getI t76_1 rfl hW hp (by decide) (by decide)).trans ?_
  refine (k_aload_n t76_4 rfl rfl).trans ?_
  refine (k_getI t76_5 rfl hW hp (by decide) (by decide)).trans ?_
  refine (k_ior t76_8 rfl).trans ?_
  refine (k_iload_n t76_9 rfl rfl).trans ?_
  refine (k_ishr t76_10 rfl).trans ?_
  refine (k_iconst t76_11 rfl zci_1).trans ?_
  refine (k_iand t76_12 rfl).trans ?_
  refine (k_if_ne t76_13 rfl).trans (z_ite (fun g1 => ?_) (fun g1 => ?_))
  · refine (k_iconst t76_20 rfl zci_0).trans ?_
    refine (zk_mk (ls' := [z_j, z_j]) t76_21 rfl).trans ?_
    exact k_zretC t76_21 rfl (by decide) (by decide)
  · refine (k_iconst t76_16 rfl zci_1).trans ?_
    refine (k_goto t76_17 rfl).trans ?_
    refine (zk_mk (ls' := [z_j, z_j]) t76_21 rfl).trans ?_
    exact k_zretC t76_21 rfl (by decide) (by decide)
theorem t77_0 : z_ft 77 0 = some (.aload_n 0, 1, none, [], 0, 0, 0, 0) := z_ftd (by decide +kernel)
theorem t77_1 : z_ft 77 1 = some (.getfield 31, 3, none, [], 8, 6, 8, 0) := z_ftd (by decide +kernel)
theorem t77_4 : z_ft 77 4 = some (.iload_n 1, 1, none, [], 0, 0, 0, 0) := z_ftd (by decide +kernel)
theorem t77_5 : z_ft 77 5 = some (.iaload, 1, none, [], 0, 0, 0, 0) := z_ftd (by decide +kernel)
theorem t77_6 : z_ft 77 6 = some (.bipush 16, 2, none, [], 0, 0, 0, 0) := z_ftd (by decide +kernel)
theorem t77_8 : z_ft 77 8 = some (.if_icmp .ge 7, 3, none, [], 15, 0, 0, 0) := z_ftd (by decide +kernel)
theorem t77_11 : z_ft 77 11 = some (.iconst 1, 1, none, [], 0, 0, 0, 0) := z_ftd (by decide +kernel)
theorem t77_12 : z_ft 77 12 = some (.goto 4, 3, none, [], 16, 0, 0, 0) := z_ftd (by decide +kernel)
theorem t77_15 : z_ft 77 15 = some (.iconst 0, 1, none, [], 0, 0, 0, 0) := z_ftd (by decide +kernel)
theorem t77_16 : z_ft 77 16 = some (.ireturn, 1, (some []), [], 0, 0, 0, 0) := z_ftd (by decide +kernel)
-- X8_isSleeper
theorem e77 (d : Nat) (p : Nat) (x1 : Int32) (S : z_S) (hW : z_W S) (hp : z_K p = 8) : fI (d + 1) 77 [.ref p, .int x1] S = (if z_in x1 16 then (if (16 : Int32) ≤ (gI S (p + 2) (x1).toNatClampNeg) then some ((0 : Int32), S) else some ((1 : Int32), S)) else none) := by
  refine (fI_en (Nat.le_of_ble_eq_true rfl) rfl).trans ?_
  refine (k_aload_n t77_0 rfl rfl).trans ?_
  refine (k_getR t77_1 rfl hW hp (by decide) (by decide) (zO_8_6 hW hp)).trans ?_
  refine (k_iload_n t77_4 rfl rfl).trans ?_
  refine (k_iald t77_5 rfl hW (zOK_8_6 hp) (zOL_8_6 hp)).trans (z_ite (fun g1 => ?_) (fun _ => rfl))
  refine (k_bipush t77_6 rfl zcb_16).trans ?_
  refine (k_icmp_ge t77_8 rfl).trans (z_ite (fun g2 => ?_) (fun g2 => ?_))
  · refine (k_iconst t77_15 rfl zci_0).trans ?_
    refine (zk_mk (ls' := [z_j, z_j]) t77_16 rfl).trans ?_
    exact k_zretC t77_16 rfl (by decide) (by decide)
  · refine (k_iconst t77_11 rfl zci_1).trans ?_
    refine (k_goto t77_12 rfl).trans ?_
    refine (zk_mk (ls' := [z_j, z_j]) t77_16 rfl).trans ?_
    exact k_zretC t77_16 rfl (by decide) (by decide)
theorem t78_0 : z_ft 78 0 = some (.iconst 0, 1, none, [], 0, 0, 0, 0) := z_ftd (by decide +kernel)
theorem t78_1 : z_ft 78 1 = some (.istore_n 2, 1, none, [], 0, 0, 0, 0) := z_ftd (by decide +kernel)
theorem t78_2 : z_ft 78 2 = some (.iload_n 2, 1, (some [0, 1, 2]), [], 0, 0, 0, 0) := z_ftd (by decide +kernel)
theorem t78_3 : z_ft 78 3 = some (.aload_n 0, 1, none, [], 0, 0, 0, 0) := z_ftd (by decide +kernel)
theorem t78_4 : z_ft 78 4 = some (.getfield 24, 3, none, [], 8, 4, 6, 0) := z_ftd (by decide +kernel)
theorem t78_7 : z_ft 78 7 = some (.if_icmp .ge 21, 3, none, [], 28, 0, 0, 0) := z_ftd (by decide +kernel)
theorem t78_10 : z_ft 78 10 = some (.aload_n 0, 1, none, [], 0, 0, 0, 0) := z_ftd (by decide +kernel)
theorem t78_11 : z_ft 78 11 = some (.getfield 37, 3, none, [], 8, 8, 10, 0) := z_ftd (by decide +kernel)
theorem t78_14 : z_ft 78 14 = some (.iload_n 2, 1, none, [], 0, 0, 0, 0) := z_ftd (by decide +kernel)
theorem t78_15 : z_ft 78 15 = some (.iaload, 1, none, [], 0, 0, 0, 0) := z_ftd (by decide +kernel)
theorem t78_16 : z_ft 78 16 = some (.iload_n 1, 1, none, [], 0, 0, 0, 0) := z_ftd (by decide +kernel)
theorem t78_17 : z_ft 78 17 = some (.if_icmp .ne 5, 3, none, [], 22, 0, 0, 0) := z_ftd (by decide +kernel)
theorem t78_20 : z_ft 78 20 = some (.iload_n 2, 1, none, [], 0, 0, 0, 0) := z_ftd (by decide +kernel)
theorem t78_21 : z_ft 78 21 = some (.ireturn, 1, none, [], 0, 0, 0, 0) := z_ftd (by decide +kernel)
theorem t78_22 : z_ft 78 22 = some (.iinc 2 1, 3, none, [], 0, 0, 0, 0) := z_ftd (by decide +kernel)
theorem t78_25 : z_ft 78 25 = some (.goto (-23), 3, none, [], 2, 0, 0, 0) := z_ftd (by decide +kernel)
theorem t78_28 : z_ft 78 28 = some (.iconst (-1), 1, none, [], 0, 0, 0, 0) := z_ftd (by decide +kernel)
theorem t78_29 : z_ft 78 29 = some (.ireturn, 1, none, [], 0, 0, 0, 0) := z_ftd (by decide +kernel)
noncomputable def b78_2 (d : Nat) (y0 : Nat) (y1 : Int32) (y2 : Int32) (S : z_S) : Option (Int32 × z_S) := zk kI z_X0 d 78 2 [.ref y0, .int y1, .int y2] [] S
theorem b78_2_eq (d : Nat) (y0 : Nat) (y1 : Int32) (y2 : Int32) (S : z_S) (hW : z_W S) (hy0 : z_K y0 = 8) : b78_2 d y0 y1 y2 S = (if (gI S y0 4) ≤ y2 then some ((-1 : Int32), S) else (if z_in y2 6 then (if ¬ (gI S (y0 + 4) (y2).toNatClampNeg) = y1 then b78_2 d y0 y1 (y2 + (1 : Int32)) S else some (y2, S)) else none)) := by
  unfold b78_2
  refine (k_iload_n t78_2 rfl rfl).trans ?_
  refine (k_aload_n t78_3 rfl rfl).trans ?_
  refine (k_getI t78_4 rfl hW hy0 (by decide) (by decide)).trans ?_
  refine (k_icmp_ge t78_7 rfl).trans (z_ite (fun g1 => ?_) (fun g1 => ?_))
  · refine (k_iconst t78_28 rfl zci_m1).trans ?_
    exact k_ireturn t78_29 rfl (by decide)
  · refine (k_aload_n t78_10 rfl rfl).trans ?_
    refine (k_getR t78_11 rfl hW hy0 (by decide) (by decide) (zO_8_8 hW hy0)).trans ?_
    refine (k_iload_n t78_14 rfl rfl).trans ?_
    refine (k_iald t78_15 rfl hW (zOK_8_8 hy0) (zOL_8_8 hy0)).trans (z_ite (fun g2 => ?_) (fun _ => rfl))
    refine (k_iload_n t78_16 rfl rfl).trans ?_
    refine (k_icmp_ne t78_17 rfl).trans (z_ite (fun g3 => ?_) (fun g3 => ?_))
    · refine (k_iinc (b := (y2 + (1 : Int32))) (ls' := [.ref y0, .int y1, .int (y2 + (1 : Int32))]) t78_22 rfl rfl (by rw [zci_1]) rfl).trans ?_
      refine (k_goto t78_25 rfl).trans ?_
      exact (zk_mk (ls' := [.ref y0, .int y1, .int (y2 + (1 : Int32))]) t78_2 rfl)
    · refine (k_iload_n t78_20 rfl rfl).trans ?_
      exact k_ireturn t78_21 rfl (by decide)
-- X8_placeOf
theorem e78 (d : Nat) (p : Nat) (x1 : Int32) (S : z_S) (hW : z_W S) (hp : z_K p = 8) : fI (d + 1) 78 [.ref p, .int x1] S = b78_2 d p x1 (0 : Int32) S := by
  refine (fI_en (Nat.le_of_ble_eq_true rfl) rfl).trans ?_
  refine (k_iconst t78_0 rfl zci_0).trans ?_
  refine (k_istore_n (ls' := [.ref p, .int x1, .int (0 : Int32)]) t78_1 rfl rfl).trans ?_
  exact (zk_mk (ls' := [.ref p, .int x1, .int (0 : Int32)]) t78_2 rfl)
theorem t79_0 : z_ft 79 0 = some (.aload_n 0, 1, none, [], 0, 0, 0, 0) := z_ftd (by decide +kernel)
theorem t79_1 : z_ft 79 1 = some (.getfield 27, 3, none, [], 8, 5, 7, 0) := z_ftd (by decide +kernel)
theorem t79_4 : z_ft 79 4 = some (.iload_n 2, 1, none, [], 0, 0, 0, 0) := z_ftd (by decide +kernel)
theorem t79_5 : z_ft 79 5 = some (.iload_n 1, 1, none, [], 0, 0, 0, 0) := z_ftd (by decide +kernel)
theorem t79_6 : z_ft 79 6 = some (.iastore, 1, none, [], 0, 0, 0, 0) := z_ftd (by decide +kernel)
theorem t79_7 : z_ft 79 7 = some (.aload_n 0, 1, none, [], 0, 0, 0, 0) := z_ftd (by decide +kernel)
theorem t79_8 : z_ft 79 8 = some (.dup, 1, none, [], 0, 0, 0, 0) := z_ftd (by decide +kernel)
theorem t79_9 : z_ft 79 9 = some (.getfield 21, 3, none, [], 8, 3, 5, 0) := z_ftd (by decide +kernel)
theorem t79_12 : z_ft 79 12 = some (.iconst 1, 1, none, [], 0, 0, 0, 0) := z_ftd (by decide +kernel)
theorem t79_13 : z_ft 79 13 = some (.iload_n 2, 1, none, [], 0, 0, 0, 0) := z_ftd (by decide +kernel)
theorem t79_14 : z_ft 79 14 = some (.ishl, 1, none, [], 0, 0, 0, 0) := z_ftd (by decide +kernel)
theorem t79_15 : z_ft 79 15 = some (.ior, 1, none, [], 0, 0, 0, 0) := z_ftd (by decide +kernel)
theorem t79_16 : z_ft 79 16 = some (.putfield 21, 3, none, [], 8, 3, 5, 0) := z_ftd (by decide +kernel)
theorem t79_19 : z_ft 79 19 = some (.aload_n 0, 1, none, [], 0, 0, 0, 0) := z_ftd (by decide +kernel)
theorem t79_20 : z_ft 79 20 = some (.getfield 31, 3, none, [], 8, 6, 8, 0) := z_ftd (by decide +kernel)
theorem t79_23 : z_ft 79 23 = some (.iload_n 1, 1, none, [], 0, 0, 0, 0) := z_ftd (by decide +kernel)
theorem t79_24 : z_ft 79 24 = some (.iload_n 2, 1, none, [], 0, 0, 0, 0) := z_ftd (by decide +kernel)
theorem t79_25 : z_ft 79 25 = some (.iastore, 1, none, [], 0, 0, 0, 0) := z_ftd (by decide +kernel)
theorem t79_26 : z_ft 79 26 = some (.aload_n 0, 1, none, [], 0, 0, 0, 0) := z_ftd (by decide +kernel)
theorem t79_27 : z_ft 79 27 = some (.getfield 34, 3, none, [], 8, 7, 9, 0) := z_ftd (by decide +kernel)
theorem t79_30 : z_ft 79 30 = some (.iload_n 1, 1, none, [], 0, 0, 0, 0) := z_ftd (by decide +kernel)
theorem t79_31 : z_ft 79 31 = some (.iconst 0, 1, none, [], 0, 0, 0, 0) := z_ftd (by decide +kernel)
theorem t79_32 : z_ft 79 32 = some (.iastore, 1, none, [], 0, 0, 0, 0) := z_ftd (by decide +kernel)
theorem t79_33 : z_ft 79 33 = some (.return_, 1, none, [], 0, 0, 0, 0) := z_ftd (by decide +kernel)
-- X8_putToBed
theorem e79 (d : Nat) (p : Nat) (x1 : Int32) (x2 : Int32) (S : z_S) (hW : z_W S) (hp : z_K p = 8) : fV (d + 1) 79 [.ref p, .int x1, .int x2] S = (if z_in x2 16 then (if z_in x1 16 then (if z_in x1 16 then some (sI (sI (sI (sI S (p + 1) (x2).toNatClampNeg x1) p 3 ((gI (sI S (p + 1) (x2).toNatClampNeg x1) p 3) ||| ((1 : Int32) <<< (x2 &&& 31)))) (p + 2) (x1).toNatClampNeg x2) (p + 3) (x1).toNatClampNeg (0 : Int32)) else none) else none) else none) := by
  refine (fV_en (Nat.le_of_ble_eq_true rfl) rfl).trans ?_
  refine (k_aload_n t79_0 rfl rfl).trans ?_
  refine (k_getR t79_1 rfl hW hp (by decide) (by decide) (zO_8_5 hW hp)).trans ?_
  refine (k_iload_n t79_4 rfl rfl).trans ?_
  refine (k_iload_n t79_5 rfl rfl).trans ?_
  refine (k_iast t79_6 rfl hW (zOK_8_5 hp) (zOL_8_5 hp)).trans (z_ite (fun g1 => ?_) (fun _ => rfl))
  refine (k_aload_n t79_7 rfl rfl).trans ?_
  refine (k_dupR t79_8 rfl).trans ?_
  refine (k_getI t79_9 rfl hW.sI hp (by decide) (by decide)).trans ?_
  refine (k_iconst t79_12 rfl zci_1).trans ?_
  refine (k_iload_n t79_13 rfl rfl).trans ?_
  refine (k_ishl t79_14 rfl).trans ?_
  refine (k_ior t79_15 rfl).trans ?_
  refine (k_putI t79_16 rfl hW.sI hp (by decide) (by decide) (by decide)).trans ?_
  refine (k_aload_n t79_19 rfl rfl).trans ?_
  refine (k_getR t79_20 rfl hW.sI.sI hp (by decide) (by decide) (zO_8_6 hW.sI.sI hp)).trans ?_
  refine (k_iload_n t79_23 rfl rfl).trans ?_
  refine (k_iload_n t79_24 rfl rfl).trans ?_
  refine (k_iast t79_25 rfl hW.sI.sI (zOK_8_6 hp) (zOL_8_6 hp)).trans (z_ite (fun g2 => ?_) (fun _ => rfl))
  refine (k_aload_n t79_26 rfl rfl).trans ?_
  refine (k_getR t79_27 rfl hW.sI.sI.sI hp (by decide) (by decide) (zO_8_7 hW.sI.sI.sI hp)).trans ?_
  refine (k_iload_n t79_30 rfl rfl).trans ?_
  refine (k_iconst t79_31 rfl zci_0).trans ?_
  refine (k_iast t79_32 rfl hW.sI.sI.sI (zOK_8_7 hp) (zOL_8_7 hp)).trans (z_ite (fun g3 => ?_) (fun _ => rfl))
  exact k_return t79_33 rfl (by decide)
theorem t80_0 : z_ft 80 0 = some (.aload_n 0, 1, none, [], 0, 0, 0, 0) := z_ftd (by decide +kernel)
theorem t80_1 : z_ft 80 1 = some (.getfield 34, 3, none, [], 8, 7, 9, 0) := z_ftd (by decide +kernel)
theorem t80_4 : z_ft 80 4 = some (.iload_n 1, 1, none, [], 0, 0, 0, 0) := z_ftd (by decide +kernel)
theorem t80_5 : z_ft 80 5 = some (.iconst 0, 1, none, [], 0, 0, 0, 0) := z_ftd (by decide +kernel)
theorem t80_6 : z_ft 80 6 = some (.iastore, 1, none, [], 0, 0, 0, 0) := z_ftd (by decide +kernel)
theorem t80_7 : z_ft 80 7 = some (.aload_n 0, 1, none, [], 0, 0, 0, 0) := z_ftd (by decide +kernel)
theorem t80_8 : z_ft 80 8 = some (.getfield 24, 3, none, [], 8, 4, 6, 0) := z_ftd (by decide +kernel)
theorem t80_11 : z_ft 80 11 = some (.iload_n 2, 1, none, [], 0, 0, 0, 0) := z_ftd (by decide +kernel)
theorem t80_12 : z_ft 80 12 = some (.if_icmp .ge 44, 3, none, [], 56, 0, 0, 0) := z_ftd (by decide +kernel)
theorem t80_15 : z_ft 80 15 = some (.aload_n 0, 1, none, [], 0, 0, 0, 0) := z_ftd (by decide +kernel)
theorem t80_16 : z_ft 80 16 = some (.getfield 24, 3, none, [], 8, 4, 6, 0) := z_ftd (by decide +kernel)
theorem t80_19 : z_ft 80 19 = some (.bipush 6, 2, none, [], 0, 0, 0, 0) := z_ftd (by decide +kernel)
theorem t80_21 : z_ft 80 21 = some (.if_icmp .ge 35, 3, none, [], 56, 0, 0, 0) := z_ftd (by decide +kernel)
theorem t80_24 : z_ft 80 24 = some (.aload_n 0, 1, none, [], 0, 0, 0, 0) := z_ftd (by decide +kernel)
theorem t80_25 : z_ft 80 25 = some (.getfield 31, 3, none, [], 8, 6, 8, 0) := z_ftd (by decide +kernel)
theorem t80_28 : z_ft 80 28 = some (.iload_n 1, 1, none, [], 0, 0, 0, 0) := z_ftd (by decide +kernel)
theorem t80_29 : z_ft 80 29 = some (.sipush 254, 3, none, [], 0, 0, 0, 0) := z_ftd (by decide +kernel)
theorem t80_32 : z_ft 80 32 = some (.iastore, 1, none, [], 0, 0, 0, 0) := z_ftd (by decide +kernel)
theorem t80_33 : z_ft 80 33 = some (.aload_n 0, 1, none, [], 0, 0, 0, 0) := z_ftd (by decide +kernel)
theorem t80_34 : z_ft 80 34 = some (.getfield 37, 3, none, [], 8, 8, 10, 0) := z_ftd (by decide +kernel)
theorem t80_37 : z_ft 80 37 = some (.aload_n 0, 1, none, [], 0, 0, 0, 0) := z_ftd (by decide +kernel)
theorem t80_38 : z_ft 80 38 = some (.getfield 24, 3, none, [], 8, 4, 6, 0) := z_ftd (by decide +kernel)
theorem t80_41 : z_ft 80 41 = some (.iload_n 1, 1, none, [], 0, 0, 0, 0) := z_ftd (by decide +kernel)
theorem t80_42 : z_ft 80 42 = some (.iastore, 1, none, [], 0, 0, 0, 0) := z_ftd (by decide +kernel)
theorem t80_43 : z_ft 80 43 = some (.aload_n 0, 1, none, [], 0, 0, 0, 0) := z_ftd (by decide +kernel)
theorem t80_44 : z_ft 80 44 = some (.dup, 1, none, [], 0, 0, 0, 0) := z_ftd (by decide +kernel)
theorem t80_45 : z_ft 80 45 = some (.getfield 24, 3, none, [], 8, 4, 6, 0) := z_ftd (by decide +kernel)
theorem t80_48 : z_ft 80 48 = some (.iconst 1, 1, none, [], 0, 0, 0, 0) := z_ftd (by decide +kernel)
theorem t80_49 : z_ft 80 49 = some (.iadd, 1, none, [], 0, 0, 0, 0) := z_ftd (by decide +kernel)
theorem t80_50 : z_ft 80 50 = some (.putfield 24, 3, none, [], 8, 4, 6, 0) := z_ftd (by decide +kernel)
theorem t80_53 : z_ft 80 53 = some (.goto 12, 3, none, [], 65, 0, 0, 0) := z_ftd (by decide +kernel)
theorem t80_56 : z_ft 80 56 = some (.aload_n 0, 1, (some [0, 1]), [], 0, 0, 0, 0) := z_ftd (by decide +kernel)
theorem t80_57 : z_ft 80 57 = some (.getfield 31, 3, none, [], 8, 6, 8, 0) := z_ftd (by decide +kernel)
theorem t80_60 : z_ft 80 60 = some (.iload_n 1, 1, none, [], 0, 0, 0, 0) := z_ftd (by decide +kernel)
theorem t80_61 : z_ft 80 61 = some (.sipush 255, 3, none, [], 0, 0, 0, 0) := z_ftd (by decide +kernel)
theorem t80_64 : z_ft 80 64 = some (.iastore, 1, none, [], 0, 0, 0, 0) := z_ftd (by decide +kernel)
theorem t80_65 : z_ft 80 65 = some (.return_, 1, (some []), [], 0, 0, 0, 0) := z_ftd (by decide +kernel)
noncomputable def b80_56 (d : Nat) (y0 : Nat) (y1 : Int32) (S : z_S) : Option z_S := zk kV z_X0 d 80 56 [.ref y0, .int y1, z_j] [] S
theorem b80_56_eq (d : Nat) (y0 : Nat) (y1 : Int32) (S : z_S) (hW : z_W S) (hy0 : z_K y0 = 8) : b80_56 d y0 y1 S = (if z_in y1 16 then some (sI S (y0 + 2) (y1).toNatClampNeg (255 : Int32)) else none) := by
  unfold b80_56
  refine (k_aload_n t80_56 rfl rfl).trans ?_
  refine (k_getR t80_57 rfl hW hy0 (by decide) (by decide) (zO_8_6 hW hy0)).trans ?_
  refine (k_iload_n t80_60 rfl rfl).trans ?_
  refine (k_sipush t80_61 rfl zcs_255).trans ?_
  refine (k_iast t80_64 rfl hW (zOK_8_6 hy0) (zOL_8_6 hy0)).trans (z_ite (fun g6 => ?_) (fun _ => rfl))
  refine (zk_mk (ls' := [z_j, z_j, z_j]) t80_65 rfl).trans ?_
  exact k_return t80_65 rfl (by decide)
-- X8_putOnBench
theorem e80 (d : Nat) (p : Nat) (x1 : Int32) (x2 : Int32) (S : z_S) (hW : z_W S) (hp : z_K p = 8) : fV (d + 1) 80 [.ref p, .int x1, .int x2] S = (if z_in x1 16 then (if x2 ≤ (gI (sI S (p + 3) (x1).toNatClampNeg (0 : Int32)) p 4) then b80_56 d p x1 (sI S (p + 3) (x1).toNatClampNeg (0 : Int32)) else (if (6 : Int32) ≤ (gI (sI S (p + 3) (x1).toNatClampNeg (0 : Int32)) p 4) then b80_56 d p x1 (sI S (p + 3) (x1).toNatClampNeg (0 : Int32)) else (if z_in x1 16 then (if z_in (gI (sI (sI S (p + 3) (x1).toNatClampNeg (0 : Int32)) (p + 2) (x1).toNatClampNeg (254 : Int32)) p 4) 6 then some (sI (sI (sI (sI S (p + 3) (x1).toNatClampNeg (0 : Int32)) (p + 2) (x1).toNatClampNeg (254 : Int32)) (p + 4) ((gI (sI (sI S (p + 3) (x1).toNatClampNeg (0 : Int32)) (p + 2) (x1).toNatClampNeg (254 : Int32)) p 4)).toNatClampNeg x1) p 4 ((gI (sI (sI (sI S (p + 3) (x1).toNatClampNeg (0 : Int32)) (p + 2) (x1).toNatClampNeg (254 : Int32)) (p + 4) ((gI (sI (sI S (p + 3) (x1).toNatClampNeg (0 : Int32)) (p + 2) (x1).toNatClampNeg (254 : Int32)) p 4)).toNatClampNeg x1) p 4) + (1 : Int32))) else none) else none))) else none) := by
  refine (fV_en (Nat.le_of_ble_eq_true rfl) rfl).trans ?_
  refine (k_aload_n t80_0 rfl rfl).trans ?_
  refine (k_getR t80_1 rfl hW hp (by decide) (by decide) (zO_8_7 hW hp)).trans ?_
  refine (k_iload_n t80_4 rfl rfl).trans ?_
  refine (k_iconst t80_5 rfl zci_0).trans ?_
  refine (k_iast t80_6 rfl hW (zOK_8_7 hp) (zOL_8_7 hp)).trans (z_ite (fun g1 => ?_) (fun _ => rfl))
  refine (k_aload_n t80_7 rfl rfl).trans ?_
  refine (k_getI t80_8 rfl hW.sI hp (by decide) (by decide)).trans ?_
  refine (k_iload_n t80_11 rfl rfl).trans ?_
  refine (k_icmp_ge t80_12 rfl).trans (z_ite (fun g2 => ?_) (fun g2 => ?_))
  · exact (zk_mk (ls' := [.ref p, .int x1, z_j]) t80_56 rfl)
  · refine (k_aload_n t80_15 rfl rfl).trans ?_
    refine (k_getI t80_16 rfl hW.sI hp (by decide) (by decide)).trans ?_
    refine (k_bipush t80_19 rfl zcb_6).trans ?_
    refine (k_icmp_ge t80_21 rfl).trans (z_ite (fun g3 => ?_) (fun g3 => ?_))
    · exact (zk_mk (ls' := [.ref p, .int x1, z_j]) t80_56 rfl)
    · refine (k_aload_n t80_24 rfl rfl).trans ?_
      refine (k_getR t80_25 rfl hW.sI hp (by decide) (by decide) (zO_8_6 hW.sI hp)).trans ?_
      refine (k_iload_n t80_28 rfl rfl).trans ?_
      refine (k_sipush t80_29 rfl zcs_254).trans ?_
      refine (k_iast t80_32 rfl hW.sI (zOK_8_6 hp) (zOL_8_6 hp)).trans (z_ite (fun g4 => ?_) (fun _ => rfl))
      refine (k_aload_n t80_33 rfl rfl).trans ?_
      refine (k_getR t80_34 rfl hW.sI.sI hp (by decide) (by decide) (zO_8_8 hW.sI.sI hp)).trans ?_
      refine (k_aload_n t80_37 rfl rfl).trans ?_
      refine (k_getI t80_38 rfl hW.sI.sI hp (by decide) (by decide)).trans ?_
      refine (k_iload_n t80_41 rfl rfl).trans ?_
      refine (k_iast t80_42 rfl hW.sI.sI (zOK_8_8 hp) (zOL_8_8 hp)).trans (z_ite (fun g5 => ?_) (fun _ => rfl))
      refine (k_aload_n t80_43 rfl rfl).trans ?_
      refine (k_dupR t80_44 rfl).trans ?_
      refine (k_getI t80_45 rfl hW.sI.sI.sI hp (by decide) (by decide)).trans ?_
      refine (k_iconst t80_48 rfl zci_1).trans ?_
      refine (k_iadd t80_49 rfl).trans ?_
      refine (k_putI t80_50 rfl hW.sI.sI.sI hp (by decide) (by decide) (by decide)).trans ?_
      refine (k_goto t80_53 rfl).trans ?_
      refine (zk_mk (ls' := [z_j, z_j, z_j]) t80_65 rfl).trans ?_
      exact k_return t80_65 rfl (by decide)
theorem t81_0 : z_ft 81 0 = some (.aload_n 0, 1, none, [], 0, 0, 0, 0) := z_ftd (by decide +kernel)
theorem t81_1 : z_ft 81 1 = some (.iload_n 1, 1, none, [], 0, 0, 0, 0) := z_ftd (by decide +kernel)
theorem t81_2 : z_ft 81 2 = some (.invokevirtual 52, 3, none, [], 77, 0, 12, 0) := z_ftd (by decide +kernel)
theorem t81_5 : z_ft 81 5 = some (.ifCond .eq 37, 3, none, [], 42, 0, 0, 0) := z_ftd (by decide +kernel)
theorem t81_8 : z_ft 81 8 = some (.aload_n 0, 1, none, [], 0, 0, 0, 0) := z_ftd (by decide +kernel)
theorem t81_9 : z_ft 81 9 = some (.dup, 1, none, [], 0, 0, 0, 0) := z_ftd (by decide +kernel)
theorem t81_10 : z_ft 81 10 = some (.getfield 21, 3, none, [], 8, 3, 5, 0) := z_ftd (by decide +kernel)
theorem t81_13 : z_ft 81 13 = some (.iconst 1, 1, none, [], 0, 0, 0, 0) := z_ftd (by decide +kernel)
theorem t81_14 : z_ft 81 14 = some (.aload_n 0, 1, none, [], 0, 0, 0, 0) := z_ftd (by decide +kernel)
theorem t81_15 : z_ft 81 15 = some (.getfield 31, 3, none, [], 8, 6, 8, 0) := z_ftd (by decide +kernel)
theorem t81_18 : z_ft 81 18 = some (.iload_n 1, 1, none, [], 0, 0, 0, 0) := z_ftd (by decide +kernel)
theorem t81_19 : z_ft 81 19 = some (.iaload, 1, none, [], 0, 0, 0, 0) := z_ftd (by decide +kernel)
theorem t81_20 : z_ft 81 20 = some (.ishl, 1, none, [], 0, 0, 0, 0) := z_ftd (by decide +kernel)
theorem t81_21 : z_ft 81 21 = some (.iconst (-1), 1, none, [], 0, 0, 0, 0) := z_ftd (by decide +kernel)
theorem t81_22 : z_ft 81 22 = some (.ixor, 1, none, [], 0, 0, 0, 0) := z_ftd (by decide +kernel)
theorem t81_23 : z_ft 81 23 = some (.iand, 1, none, [], 0, 0, 0, 0) := z_ftd (by decide +kernel)
theorem t81_24 : z_ft 81 24 = some (.putfield 21, 3, none, [], 8, 3, 5, 0) := z_ftd (by decide +kernel)
theorem t81_27 : z_ft 81 27 = some (.aload_n 0, 1, none, [], 0, 0, 0, 0) := z_ftd (by decide +kernel)
theorem t81_28 : z_ft 81 28 = some (.getfield 27, 3, none, [], 8, 5, 7, 0) := z_ftd (by decide +kernel)
theorem t81_31 : z_ft 81 31 = some (.aload_n 0, 1, none, [], 0, 0, 0, 0) := z_ftd (by decide +kernel)
theorem t81_32 : z_ft 81 32 = some (.getfield 31, 3, none, [], 8, 6, 8, 0) := z_ftd (by decide +kernel)
theorem t81_35 : z_ft 81 35 = some (.iload_n 1, 1, none, [], 0, 0, 0, 0) := z_ftd (by decide +kernel)
theorem t81_36 : z_ft 81 36 = some (.iaload, 1, none, [], 0, 0, 0, 0) := z_ftd (by decide +kernel)
theorem t81_37 : z_ft 81 37 = some (.iconst (-1), 1, none, [], 0, 0, 0, 0) := z_ftd (by decide +kernel)
theorem t81_38 : z_ft 81 38 = some (.iastore, 1, none, [], 0, 0, 0, 0) := z_ftd (by decide +kernel)
theorem t81_39 : z_ft 81 39 = some (.goto 20, 3, none, [], 59, 0, 0, 0) := z_ftd (by decide +kernel)
theorem t81_42 : z_ft 81 42 = some (.aload_n 0, 1, none, [], 0, 0, 0, 0) := z_ftd (by decide +kernel)
theorem t81_43 : z_ft 81 43 = some (.getfield 31, 3, none, [], 8, 6, 8, 0) := z_ftd (by decide +kernel)
theorem t81_46 : z_ft 81 46 = some (.iload_n 1, 1, none, [], 0, 0, 0, 0) := z_ftd (by decide +kernel)
theorem t81_47 : z_ft 81 47 = some (.iaload, 1, none, [], 0, 0, 0, 0) := z_ftd (by decide +kernel)
theorem t81_48 : z_ft 81 48 = some (.sipush 254, 3, none, [], 0, 0, 0, 0) := z_ftd (by decide +kernel)
theorem t81_51 : z_ft 81 51 = some (.if_icmp .ne 8, 3, none, [], 59, 0, 0, 0) := z_ftd (by decide +kernel)
theorem t81_54 : z_ft 81 54 = some (.aload_n 0, 1, none, [], 0, 0, 0, 0) := z_ftd (by decide +kernel)
theorem t81_55 : z_ft 81 55 = some (.iload_n 1, 1, none, [], 0, 0, 0, 0) := z_ftd (by decide +kernel)
theorem t81_56 : z_ft 81 56 = some (.invokevirtual 56, 3, none, [], 82, 0, 13, 0) := z_ftd (by decide +kernel)
theorem t81_59 : z_ft 81 59 = some (.aload_n 0, 1, (some [0, 1]), [], 0, 0, 0, 0) := z_ftd (by decide +kernel)
theorem t81_60 : z_ft 81 60 = some (.getfield 31, 3, none, [], 8, 6, 8, 0) := z_ftd (by decide +kernel)
theorem t81_63 : z_ft 81 63 = some (.iload_n 1, 1, none, [], 0, 0, 0, 0) := z_ftd (by decide +kernel)
theorem t81_64 : z_ft 81 64 = some (.sipush 255, 3, none, [], 0, 0, 0, 0) := z_ftd (by decide +kernel)
theorem t81_67 : z_ft 81 67 = some (.iastore, 1, none, [], 0, 0, 0, 0) := z_ftd (by decide +kernel)
theorem t81_68 : z_ft 81 68 = some (.aload_n 0, 1, none, [], 0, 0, 0, 0) := z_ftd (by decide +kernel)
theorem t81_69 : z_ft 81 69 = some (.getfield 34, 3, none, [], 8, 7, 9, 0) := z_ftd (by decide +kernel)
theorem t81_72 : z_ft 81 72 = some (.iload_n 1, 1, none, [], 0, 0, 0, 0) := z_ftd (by decide +kernel)
theorem t81_73 : z_ft 81 73 = some (.iconst 0, 1, none, [], 0, 0, 0, 0) := z_ftd (by decide +kernel)
theorem t81_74 : z_ft 81 74 = some (.iastore, 1, none, [], 0, 0, 0, 0) := z_ftd (by decide +kernel)
theorem t81_75 : z_ft 81 75 = some (.return_, 1, none, [], 0, 0, 0, 0) := z_ftd (by decide +kernel)
noncomputable def b81_59 (d : Nat) (y0 : Nat) (y1 : Int32) (S : z_S) : Option z_S := zk kV z_X0 d 81 59 [.ref y0, .int y1] [] S
theorem b81_59_eq (d : Nat) (y0 : Nat) (y1 : Int32) (S : z_S) (hW : z_W S) (hy0 : z_K y0 = 8) : b81_59 d y0 y1 S = (if z_in y1 16 then (if z_in y1 16 then some (sI (sI S (y0 + 2) (y1).toNatClampNeg (255 : Int32)) (y0 + 3) (y1).toNatClampNeg (0 : Int32)) else none) else none) := by
  unfold b81_59
  refine (k_aload_n t81_59 rfl rfl).trans ?_
  refine (k_getR t81_60 rfl hW hy0 (by decide) (by decide) (zO_8_6 hW hy0)).trans ?_
  refine (k_iload_n t81_63 rfl rfl).trans ?_
  refine (k_sipush t81_64 rfl zcs_255).trans ?_
  refine (k_iast t81_67 rfl hW (zOK_8_6 hy0) (zOL_8_6 hy0)).trans (z_ite (fun g11 => ?_) (fun _ => rfl))
  refine (k_aload_n t81_68 rfl rfl).trans ?_
  refine (k_getR t81_69 rfl hW.sI hy0 (by decide) (by decide) (zO_8_7 hW.sI hy0)).trans ?_
  refine (k_iload_n t81_72 rfl rfl).trans ?_
  refine (k_iconst t81_73 rfl zci_0).trans ?_
  refine (k_iast t81_74 rfl hW.sI (zOK_8_7 hy0) (zOL_8_7 hy0)).trans (z_ite (fun g12 => ?_) (fun _ => rfl))
  exact k_return t81_75 rfl (by decide)
-- X8_sendAway
theorem e81 (d : Nat) (p : Nat) (x1 : Int32) (S : z_S) (hW : z_W S) (hp : z_K p = 8) : fV (d + 1) 81 [.ref p, .int x1] S = (zb (fI d 77 [.ref p, .int x1] S) fun v1 S2 => (if v1 = (0 : Int32) then (if z_in x1 16 then (if ¬ (gI S2 (p + 2) (x1).toNatClampNeg) = (254 : Int32) then b81_59 d p x1 S2 else ((fV d 82 [.ref p, .int x1] S2).bind fun S7 => b81_59 d p x1 S7)) else none) else (if z_in x1 16 then (if z_in x1 16 then (if z_in (gI (sI S2 p 3 ((gI S2 p 3) &&& (((1 : Int32) <<< ((gI S2 (p + 2) (x1).toNatClampNeg) &&& 31)) ^^^ (-1 : Int32)))) (p + 2) (x1).toNatClampNeg) 16 then b81_59 d p x1 (sI (sI S2 p 3 ((gI S2 p 3) &&& (((1 : Int32) <<< ((gI S2 (p + 2) (x1).toNatClampNeg) &&& 31)) ^^^ (-1 : Int32)))) (p + 1) ((gI (sI S2 p 3 ((gI S2 p 3) &&& (((1 : Int32) <<< ((gI S2 (p + 2) (x1).toNatClampNeg) &&& 31)) ^^^ (-1 : Int32)))) (p + 2) (x1).toNatClampNeg)).toNatClampNeg (-1 : Int32)) else none) else none) else none))) := by
  refine (fV_en (Nat.le_of_ble_eq_true rfl) rfl).trans ?_
  refine (k_aload_n t81_0 rfl rfl).trans ?_
  refine (k_iload_n t81_1 rfl rfl).trans ?_
  refine k_callI (as := [.ref p, .int x1]) (rest := []) t81_2 rfl rfl (by decide) rfl rfl (Nat.le_of_ble_eq_true rfl) rfl (z_rcV hW (hp) (by decide)) (by decide) (Or.inr (by decide)) hW (fun v1 S2 hW2 => ?_)
  refine (k_if_eq t81_5 rfl).trans (z_ite (fun g3 => ?_) (fun g3 => ?_))
  · refine (k_aload_n t81_42 rfl rfl).trans ?_
    refine (k_getR t81_43 rfl hW2 hp (by decide) (by decide) (zO_8_6 hW2 hp)).trans ?_
    refine (k_iload_n t81_46 rfl rfl).trans ?_
    refine (k_iald t81_47 rfl hW2 (zOK_8_6 hp) (zOL_8_6 hp)).trans (z_ite (fun g4 => ?_) (fun _ => rfl))
    refine (k_sipush t81_48 rfl zcs_254).trans ?_
    refine (k_icmp_ne t81_51 rfl).trans (z_ite (fun g5 => ?_) (fun g5 => ?_))
    · exact (zk_mk (ls' := [.ref p, .int x1]) t81_59 rfl)
    · refine (k_aload_n t81_54 rfl rfl).trans ?_
      refine (k_iload_n t81_55 rfl rfl).trans ?_
      refine k_callV (as := [.ref p, .int x1]) (rest := []) t81_56 rfl rfl (by decide) rfl rfl (Nat.le_of_ble_eq_true rfl) rfl (z_rcV hW2 (hp) (by decide)) (by decide) (by decide) hW2 (fun S7 hW7 => ?_)
      exact (zk_mk (ls' := [.ref p, .int x1]) t81_59 rfl)
  · refine (k_aload_n t81_8 rfl rfl).trans ?_
    refine (k_dupR t81_9 rfl).trans ?_
    refine (k_getI t81_10 rfl hW2 hp (by decide) (by decide)).trans ?_
    refine (k_iconst t81_13 rfl zci_1).trans ?_
    refine (k_aload_n t81_14 rfl rfl).trans ?_
    refine (k_getR t81_15 rfl hW2 hp (by decide) (by decide) (zO_8_6 hW2 hp)).trans ?_
    refine (k_iload_n t81_18 rfl rfl).trans ?_
    refine (k_iald t81_19 rfl hW2 (zOK_8_6 hp) (zOL_8_6 hp)).trans (z_ite (fun g8 => ?_) (fun _ => rfl))
    refine (k_ishl t81_20 rfl).trans ?_
    refine (k_iconst t81_21 rfl zci_m1).trans ?_
    refine (k_ixor t81_22 rfl).trans ?_
    refine (k_iand t81_23 rfl).trans ?_
    refine (k_putI t81_24 rfl hW2 hp (by decide) (by decide) (by decide)).trans ?_
    refine (k_aload_n t81_27 rfl rfl).trans ?_
    refine (k_getR t81_28 rfl hW2.sI hp (by decide) (by decide) (zO_8_5 hW2.sI hp)).trans ?_
    refine (k_aload_n t81_31 rfl rfl).trans ?_
    refine (k_getR t81_32 rfl hW2.sI hp (by decide) (by decide) (zO_8_6 hW2.sI hp)).trans ?_
    refine (k_iload_n t81_35 rfl rfl).trans ?_
    refine (k_iald t81_36 rfl hW2.sI (zOK_8_6 hp) (zOL_8_6 hp)).trans (z_ite (fun g9 => ?_) (fun _ => rfl))
    refine (k_iconst t81_37 rfl zci_m1).trans ?_
    refine (k_iast t81_38 rfl hW2.sI (zOK_8_5 hp) (zOL_8_5 hp)).trans (z_ite (fun g10 => ?_) (fun _ => rfl))
    refine (k_goto t81_39 rfl).trans ?_
    exact (zk_mk (ls' := [.ref p, .int x1]) t81_59 rfl)
theorem t82_0 : z_ft 82 0 = some (.iconst 0, 1, none, [], 0, 0, 0, 0) := z_ftd (by decide +kernel)
theorem t82_1 : z_ft 82 1 = some (.istore_n 2, 1, none, [], 0, 0, 0, 0) := z_ftd (by decide +kernel)
theorem t82_2 : z_ft 82 2 = some (.iconst 0, 1, none, [], 0, 0, 0, 0) := z_ftd (by decide +kernel)
theorem t82_3 : z_ft 82 3 = some (.istore_n 3, 1, none, [], 0, 0, 0, 0) := z_ftd (by decide +kernel)
theorem t82_4 : z_ft 82 4 = some (.iload_n 3, 1, (some [0, 1, 2, 3]), [], 0, 0, 0, 0) := z_ftd (by decide +kernel)
theorem t82_5 : z_ft 82 5 = some (.aload_n 0, 1, none, [], 0, 0, 0, 0) := z_ftd (by decide +kernel)
theorem t82_6 : z_ft 82 6 = some (.getfield 24, 3, none, [], 8, 4, 6, 0) := z_ftd (by decide +kernel)
theorem t82_9 : z_ft 82 9 = some (.if_icmp .ge 34, 3, none, [], 43, 0, 0, 0) := z_ftd (by decide +kernel)
theorem t82_12 : z_ft 82 12 = some (.aload_n 0, 1, none, [], 0, 0, 0, 0) := z_ftd (by decide +kernel)
theorem t82_13 : z_ft 82 13 = some (.getfield 37, 3, none, [], 8, 8, 10, 0) := z_ftd (by decide +kernel)
theorem t82_16 : z_ft 82 16 = some (.iload_n 3, 1, none, [], 0, 0, 0, 0) := z_ftd (by decide +kernel)
theorem t82_17 : z_ft 82 17 = some (.iaload, 1, none, [], 0, 0, 0, 0) := z_ftd (by decide +kernel)
theorem t82_18 : z_ft 82 18 = some (.iload_n 1, 1, none, [], 0, 0, 0, 0) := z_ftd (by decide +kernel)
theorem t82_19 : z_ft 82 19 = some (.if_icmp .eq 18, 3, none, [], 37, 0, 0, 0) := z_ftd (by decide +kernel)
theorem t82_22 : z_ft 82 22 = some (.aload_n 0, 1, none, [], 0, 0, 0, 0) := z_ftd (by decide +kernel)
theorem t82_23 : z_ft 82 23 = some (.getfield 37, 3, none, [], 8, 8, 10, 0) := z_ftd (by decide +kernel)
theorem t82_26 : z_ft 82 26 = some (.iload_n 2, 1, none, [], 0, 0, 0, 0) := z_ftd (by decide +kernel)
theorem t82_27 : z_ft 82 27 = some (.aload_n 0, 1, none, [], 0, 0, 0, 0) := z_ftd (by decide +kernel)
theorem t82_28 : z_ft 82 28 = some (.getfield 37, 3, none, [], 8, 8, 10, 0) := z_ftd (by decide +kernel)
theorem t82_31 : z_ft 82 31 = some (.iload_n 3, 1, none, [], 0, 0, 0, 0) := z_ftd (by decide +kernel)
theorem t82_32 : z_ft 82 32 = some (.iaload, 1, none, [], 0, 0, 0, 0) := z_ftd (by decide +kernel)
theorem t82_33 : z_ft 82 33 = some (.iastore, 1, none, [], 0, 0, 0, 0) := z_ftd (by decide +kernel)
theorem t82_34 : z_ft 82 34 = some (.iinc 2 1, 3, none, [], 0, 0, 0, 0) := z_ftd (by decide +kernel)
theorem t82_37 : z_ft 82 37 = some (.iinc 3 1, 3, (some [0, 1, 2, 3]), [], 0, 0, 0, 0) := z_ftd (by decide +kernel)
theorem t82_40 : z_ft 82 40 = some (.goto (-36), 3, none, [], 4, 0, 0, 0) := z_ftd (by decide +kernel)
theorem t82_43 : z_ft 82 43 = some (.aload_n 0, 1, none, [], 0, 0, 0, 0) := z_ftd (by decide +kernel)
theorem t82_44 : z_ft 82 44 = some (.iload_n 2, 1, none, [], 0, 0, 0, 0) := z_ftd (by decide +kernel)
theorem t82_45 : z_ft 82 45 = some (.putfield 24, 3, none, [], 8, 4, 6, 0) := z_ftd (by decide +kernel)
theorem t82_48 : z_ft 82 48 = some (.return_, 1, none, [], 0, 0, 0, 0) := z_ftd (by decide +kernel)
noncomputable def b82_4 (d : Nat) (y0 : Nat) (y1 : Int32) (y2 : Int32) (y3 : Int32) (S : z_S) : Option z_S := zk kV z_X0 d 82 4 [.ref y0, .int y1, .int y2, .int y3] [] S
noncomputable def b82_37 (d : Nat) (y0 : Nat) (y1 : Int32) (y2 : Int32) (y3 : Int32) (S : z_S) : Option z_S := zk kV z_X0 d 82 37 [.ref y0, .int y1, .int y2, .int y3] [] S
theorem b82_4_eq (d : Nat) (y0 : Nat) (y1 : Int32) (y2 : Int32) (y3 : Int32) (S : z_S) (hW : z_W S) (hy0 : z_K y0 = 8) : b82_4 d y0 y1 y2 y3 S = (if (gI S y0 4) ≤ y3 then some (sI S y0 4 y2) else (if z_in y3 6 then (if (gI S (y0 + 4) (y3).toNatClampNeg) = y1 then b82_37 d y0 y1 y2 y3 S else (if z_in y3 6 then (if z_in y2 6 then b82_37 d y0 y1 (y2 + (1 : Int32)) y3 (sI S (y0 + 4) (y2).toNatClampNeg (gI S (y0 + 4) (y3).toNatClampNeg)) else none) else none)) else none)) := by
  unfold b82_4
  refine (k_iload_n t82_4 rfl rfl).trans ?_
  refine (k_aload_n t82_5 rfl rfl).trans ?_
  refine (k_getI t82_6 rfl hW hy0 (by decide) (by decide)).trans ?_
  refine (k_icmp_ge t82_9 rfl).trans (z_ite (fun g1 => ?_) (fun g1 => ?_))
  · refine (k_aload_n t82_43 rfl rfl).trans ?_
    refine (k_iload_n t82_44 rfl rfl).trans ?_
    refine (k_putI t82_45 rfl hW hy0 (by decide) (by decide) (by decide)).trans ?_
    exact k_return t82_48 rfl (by decide)
  · refine (k_aload_n t82_12 rfl rfl).trans ?_
    refine (k_getR t82_13 rfl hW hy0 (by decide) (by decide) (zO_8_8 hW hy0)).trans ?_
    refine (k_iload_n t82_16 rfl rfl).trans ?_
    refine (k_iald t82_17 rfl hW (zOK_8_8 hy0) (zOL_8_8 hy0)).trans (z_ite (fun g2 => ?_) (fun _ => rfl))
    refine (k_iload_n t82_18 rfl rfl).trans ?_
    refine (k_icmp_eq t82_19 rfl).trans (z_ite (fun g3 => ?_) (fun g3 => ?_))
    · exact (zk_mk (ls' := [.ref y0, .int y1, .int y2, .int y3]) t82_37 rfl)
    · refine (k_aload_n t82_22 rfl rfl).trans ?_
      refine (k_getR t82_23 rfl hW hy0 (by decide) (by decide) (zO_8_8 hW hy0)).trans ?_
      refine (k_iload_n t82_26 rfl rfl).trans ?_
      refine (k_aload_n t82_27 rfl rfl).trans ?_
      refine (k_getR t82_28 rfl hW hy0 (by decide) (by decide) (zO_8_8 hW hy0)).trans ?_
      refine (k_iload_n t82_31 rfl rfl).trans ?_
      refine (k_iald t82_32 rfl hW (zOK_8_8 hy0) (zOL_8_8 hy0)).trans (z_ite (fun g4 => ?_) (fun _ => rfl))
      refine (k_iast t82_33 rfl hW (zOK_8_8 hy0) (zOL_8_8 hy0)).trans (z_ite (fun g5 => ?_) (fun _ => rfl))
      refine (k_iinc (b := (y2 + (1 : Int32))) (ls' := [.ref y0, .int y1, .int (y2 + (1 : Int32)), .int y3]) t82_34 rfl rfl (by rw [zci_1]) rfl).trans ?_
      exact (zk_mk (ls' := [.ref y0, .int y1, .int (y2 + (1 : Int32)), .int y3]) t82_37 rfl)
theorem b82_37_eq (d : Nat) (y0 : Nat) (y1 : Int32) (y2 : Int32) (y3 : Int32) (S : z_S) (hW : z_W S) (hy0 : z_K y0 = 8) : b82_37 d y0 y1 y2 y3 S = b82_4 d y0 y1 y2 (y3 + (1 : Int32)) S := by
  unfold b82_37
  refine (k_iinc (b := (y3 + (1 : Int32))) (ls' := [.ref y0, .int y1, .int y2, .int (y3 + (1 : Int32))]) t82_37 rfl rfl (by rw [zci_1]) rfl).trans ?_
  refine (k_goto t82_40 rfl).trans ?_
  exact (zk_mk (ls' := [.ref y0, .int y1, .int y2, .int (y3 + (1 : Int32))]) t82_4 rfl)
-- X8_takeFromBench
theorem e82 (d : Nat) (p : Nat) (x1 : Int32) (S : z_S) (hW : z_W S) (hp : z_K p = 8) : fV (d + 1) 82 [.ref p, .int x1] S = b82_4 d p x1 (0 : Int32) (0 : Int32) S := by
  refine (fV_en (Nat.le_of_ble_eq_true rfl) rfl).trans ?_
  refine (k_iconst t82_0 rfl zci_0).trans ?_
  refine (k_istore_n (ls' := [.ref p, .int x1, .int (0 : Int32), z_j]) t82_1 rfl rfl).trans ?_
  refine (k_iconst t82_2 rfl zci_0).trans ?_
  refine (k_istore_n (ls' := [.ref p, .int x1, .int (0 : Int32), .int (0 : Int32)]) t82_3 rfl rfl).trans ?_
  exact (zk_mk (ls' := [.ref p, .int x1, .int (0 : Int32), .int (0 : Int32)]) t82_4 rfl)
