/-! EQUATIONS of Jdk (written by wip/whole/gen/eqs.py). -/
theorem t274_0 : z_ft 274 0 = some (.iload_n 0, 1, none, [], 0, 0, 0, 0) := z_ftd (by decide +kernel)
theorem t274_1 : z_ft 274 1 = some (.iload_n 0, 1, none, [], 0, 0, 0, 0) := z_ftd (by decide +kernel)
theorem t274_2 : z_ft 274 2 = some (.iconst 1, 1, none, [], 0, 0, 0, 0) := z_ftd (by decide +kernel)
theorem t274_3 : z_ft 274 3 = some (.iushr, 1, none, [], 0, 0, 0, 0) := z_ftd (by decide +kernel)
theorem t274_4 : z_ft 274 4 = some (.ldc_w 265, 3, none, [], 0, 0, 0, 1431655765) := z_ftd (by decide +kernel)
theorem t274_7 : z_ft 274 7 = some (.iand, 1, none, [], 0, 0, 0, 0) := z_ftd (by decide +kernel)
theorem t274_8 : z_ft 274 8 = some (.isub, 1, none, [], 0, 0, 0, 0) := z_ftd (by decide +kernel)
theorem t274_9 : z_ft 274 9 = some (.istore_n 0, 1, none, [], 0, 0, 0, 0) := z_ftd (by decide +kernel)
theorem t274_10 : z_ft 274 10 = some (.iload_n 0, 1, none, [], 0, 0, 0, 0) := z_ftd (by decide +kernel)
theorem t274_11 : z_ft 274 11 = some (.ldc_w 266, 3, none, [], 0, 0, 1, 858993459) := z_ftd (by decide +kernel)
theorem t274_14 : z_ft 274 14 = some (.iand, 1, none, [], 0, 0, 0, 0) := z_ftd (by decide +kernel)
theorem t274_15 : z_ft 274 15 = some (.iload_n 0, 1, none, [], 0, 0, 0, 0) := z_ftd (by decide +kernel)
theorem t274_16 : z_ft 274 16 = some (.iconst 2, 1, none, [], 0, 0, 0, 0) := z_ftd (by decide +kernel)
theorem t274_17 : z_ft 274 17 = some (.iushr, 1, none, [], 0, 0, 0, 0) := z_ftd (by decide +kernel)
theorem t274_18 : z_ft 274 18 = some (.ldc_w 266, 3, none, [], 0, 0, 1, 858993459) := z_ftd (by decide +kernel)
theorem t274_21 : z_ft 274 21 = some (.iand, 1, none, [], 0, 0, 0, 0) := z_ftd (by decide +kernel)
theorem t274_22 : z_ft 274 22 = some (.iadd, 1, none, [], 0, 0, 0, 0) := z_ftd (by decide +kernel)
theorem t274_23 : z_ft 274 23 = some (.istore_n 0, 1, none, [], 0, 0, 0, 0) := z_ftd (by decide +kernel)
theorem t274_24 : z_ft 274 24 = some (.iload_n 0, 1, none, [], 0, 0, 0, 0) := z_ftd (by decide +kernel)
theorem t274_25 : z_ft 274 25 = some (.iload_n 0, 1, none, [], 0, 0, 0, 0) := z_ftd (by decide +kernel)
theorem t274_26 : z_ft 274 26 = some (.iconst 4, 1, none, [], 0, 0, 0, 0) := z_ftd (by decide +kernel)
theorem t274_27 : z_ft 274 27 = some (.iushr, 1, none, [], 0, 0, 0, 0) := z_ftd (by decide +kernel)
theorem t274_28 : z_ft 274 28 = some (.iadd, 1, none, [], 0, 0, 0, 0) := z_ftd (by decide +kernel)
theorem t274_29 : z_ft 274 29 = some (.ldc_w 267, 3, none, [], 0, 0, 2, 252645135) := z_ftd (by decide +kernel)
theorem t274_32 : z_ft 274 32 = some (.iand, 1, none, [], 0, 0, 0, 0) := z_ftd (by decide +kernel)
theorem t274_33 : z_ft 274 33 = some (.istore_n 0, 1, none, [], 0, 0, 0, 0) := z_ftd (by decide +kernel)
theorem t274_34 : z_ft 274 34 = some (.iload_n 0, 1, none, [], 0, 0, 0, 0) := z_ftd (by decide +kernel)
theorem t274_35 : z_ft 274 35 = some (.iload_n 0, 1, none, [], 0, 0, 0, 0) := z_ftd (by decide +kernel)
theorem t274_36 : z_ft 274 36 = some (.bipush 8, 2, none, [], 0, 0, 0, 0) := z_ftd (by decide +kernel)
theorem t274_38 : z_ft 274 38 = some (.iushr, 1, none, [], 0, 0, 0, 0) := z_ftd (by decide +kernel)
theorem t274_39 : z_ft 274 39 = some (.iadd, 1, none, [], 0, 0, 0, 0) := z_ftd (by decide +kernel)
theorem t274_40 : z_ft 274 40 = some (.istore_n 0, 1, none, [], 0, 0, 0, 0) := z_ftd (by decide +kernel)
theorem t274_41 : z_ft 274 41 = some (.iload_n 0, 1, none, [], 0, 0, 0, 0) := z_ftd (by decide +kernel)
theorem t274_42 : z_ft 274 42 = some (.iload_n 0, 1, none, [], 0, 0, 0, 0) := z_ftd (by decide +kernel)
theorem t274_43 : z_ft 274 43 = some (.bipush 16, 2, none, [], 0, 0, 0, 0) := z_ftd (by decide +kernel)
theorem t274_45 : z_ft 274 45 = some (.iushr, 1, none, [], 0, 0, 0, 0) := z_ftd (by decide +kernel)
theorem t274_46 : z_ft 274 46 = some (.iadd, 1, none, [], 0, 0, 0, 0) := z_ftd (by decide +kernel)
theorem t274_47 : z_ft 274 47 = some (.istore_n 0, 1, none, [], 0, 0, 0, 0) := z_ftd (by decide +kernel)
theorem t274_48 : z_ft 274 48 = some (.iload_n 0, 1, none, [], 0, 0, 0, 0) := z_ftd (by decide +kernel)
theorem t274_49 : z_ft 274 49 = some (.bipush 63, 2, none, [], 0, 0, 0, 0) := z_ftd (by decide +kernel)
theorem t274_51 : z_ft 274 51 = some (.iand, 1, none, [], 0, 0, 0, 0) := z_ftd (by decide +kernel)
theorem t274_52 : z_ft 274 52 = some (.ireturn, 1, none, [], 0, 0, 0, 0) := z_ftd (by decide +kernel)
-- J6_bitCount_0f7a4
theorem e274 (d : Nat) (x1 : Int32) (S : z_S) (hW : z_W S)  : fI (d + 1) 274 [.int x1] S = some (((((((((x1 - (((x1).toUInt32 >>> (((1 : Int32)).toUInt32 &&& Int32.toUInt32 31)).toInt32 &&& (1431655765 : Int32))) &&& (858993459 : Int32)) + ((((x1 - (((x1).toUInt32 >>> (((1 : Int32)).toUInt32 &&& Int32.toUInt32 31)).toInt32 &&& (1431655765 : Int32)))).toUInt32 >>> (((2 : Int32)).toUInt32 &&& Int32.toUInt32 31)).toInt32 &&& (858993459 : Int32))) + (((((x1 - (((x1).toUInt32 >>> (((1 : Int32)).toUInt32 &&& Int32.toUInt32 31)).toInt32 &&& (1431655765 : Int32))) &&& (858993459 : Int32)) + ((((x1 - (((x1).toUInt32 >>> (((1 : Int32)).toUInt32 &&& Int32.toUInt32 31)).toInt32 &&& (1431655765 : Int32)))).toUInt32 >>> (((2 : Int32)).toUInt32 &&& Int32.toUInt32 31)).toInt32 &&& (858993459 : Int32)))).toUInt32 >>> (((4 : Int32)).toUInt32 &&& Int32.toUInt32 31)).toInt32) &&& (252645135 : Int32)) + (((((((x1 - (((x1).toUInt32 >>> (((1 : Int32)).toUInt32 &&& Int32.toUInt32 31)).toInt32 &&& (1431655765 : Int32))) &&& (858993459 : Int32)) + ((((x1 - (((x1).toUInt32 >>> (((1 : Int32)).toUInt32 &&& Int32.toUInt32 31)).toInt32 &&& (1431655765 : Int32)))).toUInt32 >>> (((2 : Int32)).toUInt32 &&& Int32.toUInt32 31)).toInt32 &&& (858993459 : Int32))) + (((((x1 - (((x1).toUInt32 >>> (((1 : Int32)).toUInt32 &&& Int32.toUInt32 31)).toInt32 &&& (1431655765 : Int32))) &&& (858993459 : Int32)) + ((((x1 - (((x1).toUInt32 >>> (((1 : Int32)).toUInt32 &&& Int32.toUInt32 31)).toInt32 &&& (1431655765 : Int32)))).toUInt32 >>> (((2 : Int32)).toUInt32 &&& Int32.toUInt32 31)).toInt32 &&& (858993459 : Int32)))).toUInt32 >>> (((4 : Int32)).toUInt32 &&& Int32.toUInt32 31)).toInt32) &&& (252645135 : Int32))).toUInt32 >>> (((8 : Int32)).toUInt32 &&& Int32.toUInt32 31)).toInt32) + ((((((((x1 - (((x1).toUInt32 >>> (((1 : Int32)).toUInt32 &&& Int32.toUInt32 31)).toInt32 &&& (1431655765 : Int32))) &&& (858993459 : Int32)) + ((((x1 - (((x1).toUInt32 >>> (((1 : Int32)).toUInt32 &&& Int32.toUInt32 31)).toInt32 &&& (1431655765 : Int32)))).toUInt32 >>> (((2 : Int32)).toUInt32 &&& Int32.toUInt32 31)).toInt32 &&& (858993459 : Int32))) + (((((x1 - (((x1).toUInt32 >>> (((1 : Int32)).toUInt32 &&& Int32.toUInt32 31)).toInt32 &&& (1431655765 : Int32))) &&& (858993459 : Int32)) + ((((x1 - (((x1).toUInt32 >>> (((1 : Int32)).toUInt32 &&& Int32.toUInt32 31)).toInt32 &&& (1431655765 : Int32)))).toUInt32 >>> (((2 : Int32)).toUInt32 &&& Int32.toUInt32 31)).toInt32 &&& (858993459 : Int32)))).toUInt32 >>> (((4 : Int32)).toUInt32 &&& Int32.toUInt32 31)).toInt32) &&& (252645135 : Int32)) + (((((((x1 - (((x1).toUInt32 >>> (((1 : Int32)).toUInt32 &&& Int32.toUInt32 31)).toInt32 &&& (1431655765 : Int32))) &&& (858993459 : Int32)) + ((((x1 - (((x1).toUInt32 >>> (((1 : Int32)).toUInt32 &&& Int32.toUInt32 31)).toInt32 &&& (1431655765 : Int32)))).toUInt32 >>> (((2 : Int32)).toUInt32 &&& Int32.toUInt32 31)).toInt32 &&& (858993459 : Int32))) + (((((x1 - (((x1).toUInt32 >>> (((1 : Int32)).toUInt32 &&& Int32.toUInt32 31)).toInt32 &&& (1431655765 : Int32))) &&& (858993459 : Int32)) + ((((x1 - (((x1).toUInt32 >>> (((1 : Int32)).toUInt32 &&& Int32.toUInt32 31)).toInt32 &&& (1431655765 : Int32)))).toUInt32 >>> (((2 : Int32)).toUInt32 &&& Int32.toUInt32 31)).toInt32 &&& (858993459 : Int32)))).toUInt32 >>> (((4 : Int32)).toUInt32 &&& Int32.toUInt32 31)).toInt32) &&& (252645135 : Int32))).toUInt32 >>> (((8 : Int32)).toUInt32 &&& Int32.toUInt32 31)).toInt32)).toUInt32 >>> (((16 : Int32)).toUInt32 &&& Int32.toUInt32 31)).toInt32) &&& (63 : Int32)), S) := by
  refine (fI_en (Nat.le_of_ble_eq_true rfl) rfl).trans ?_
  refine (k_iload_n t274_0 rfl rfl).trans ?_
  refine (k_iload_n t274_1 rfl rfl).trans ?_
  refine (k_iconst t274_2 rfl zci_1).trans ?_
  refine (k_iushr t274_3 rfl).trans ?_
  refine (k_ldc_w t274_4 rfl zci_1431655765).trans ?_
  refine (k_iand t274_7 rfl).trans ?_
  refine (k_isub t274_8 rfl).trans ?_
  refine (k_istore_n (ls' := [.int (x1 - (((x1).toUInt32 >>> (((1 : Int32)).toUInt32 &&& Int32.toUInt32 31)).toInt32 &&& (1431655765 : Int32)))]) t274_9 rfl rfl).trans ?_
  refine (k_iload_n t274_10 rfl rfl).trans ?_
  refine (k_ldc_w t274_11 rfl zci_858993459).trans ?_
  refine (k_iand t274_14 rfl).trans ?_
  refine (k_iload_n t274_15 rfl rfl).trans ?_
  refine (k_iconst t274_16 rfl zci_2).trans ?_
  refine (k_iushr t274_17 rfl).trans ?_
  refine (k_ldc_w t274_18 rfl zci_858993459).trans ?_
  refine (k_iand t274_21 rfl).trans ?_
  refine (k_iadd t274_22 rfl).trans ?_
  refine (k_istore_n (ls' := [.int (((x1 - (((x1).toUInt32 >>> (((1 : Int32)).toUInt32 &&& Int32.toUInt32 31)).toInt32 &&& (1431655765 : Int32))) &&& (858993459 : Int32)) + ((((x1 - (((x1).toUInt32 >>> (((1 : Int32)).toUInt32 &&& Int32.toUInt32 31)).toInt32 &&& (1431655765 : Int32)))).toUInt32 >>> (((2 : Int32)).toUInt32 &&& Int32.toUInt32 31)).toInt32 &&& (858993459 : Int32)))]) t274_23 rfl rfl).trans ?_
  refine (k_iload_n t274_24 rfl rfl).trans ?_
  refine (k_iload_n t274_25 rfl rfl).trans ?_
  refine (k_iconst t274_26 rfl zci_4).trans ?_
  refine (k_iushr t274_27 rfl).trans ?_
  refine (k_iadd t274_28 rfl).trans ?_
  refine (k_ldc_w t274_29 rfl zci_252645135).trans ?_
  refine (k_iand t274_32 rfl).trans ?_
  refine (k_istore_n (ls' := [.int (((((x1 - (((x1).toUInt32 >>> (((1 : Int32)).toUInt32 &&& Int32.toUInt32 31)).toInt32 &&& (1431655765 : Int32))) &&& (858993459 : Int32)) + ((((x1 - (((x1).toUInt32 >>> (((1 : Int32)).toUInt32 &&& Int32.toUInt32 31)).toInt32 &&& (1431655765 : Int32)))).toUInt32 >>> (((2 : Int32)).toUInt32 &&& Int32.toUInt32 31)).toInt32 &&& (858993459 : Int32))) + (((((x1 - (((x1).toUInt32 >>> (((1 : Int32)).toUInt32 &&& Int32.toUInt32 31)).toInt32 &&& (1431655765 : Int32))) &&& (858993459 : Int32)) + ((((x1 - (((x1).toUInt32 >>> (((1 : Int32)).toUInt32 &&& Int32.toUInt32 31)).toInt32 &&& (1431655765 : Int32)))).toUInt32 >>> (((2 : Int32)).toUInt32 &&& Int32.toUInt32 31)).toInt32 &&& (858993459 : Int32)))).toUInt32 >>> (((4 : Int32)).toUInt32 &&& Int32.toUInt32 31)).toInt32) &&& (252645135 : Int32))]) t274_33 rfl rfl).trans ?_
  refine (k_iload_n t274_34 rfl rfl).trans ?_
  refine (k_iload_n t274_35 rfl rfl).trans ?_
  refine (k_bipush t274_36 rfl zcb_8).trans ?_
  refine (k_iushr t274_38 rfl).trans ?_
  refine (k_iadd t274_39 rfl).trans ?_
  refine (k_istore_n (ls' := [.int ((((((x1 - (((x1).toUInt32 >>> (((1 : Int32)).toUInt32 &&& Int32.toUInt32 31)).toInt32 &&& (1431655765 : Int32))) &&& (858993459 : Int32)) + ((((x1 - (((x1).toUInt32 >>> (((1 : Int32)).toUInt32 &&& Int32.toUInt32 31)).toInt32 &&& (1431655765 : Int32)))).toUInt32 >>> (((2 : Int32)).toUInt32 &&& Int32.toUInt32 31)).toInt32 &&& (858993459 : Int32))) + (((((x1 - (((x1).toUInt32 >>> (((1 : Int32)).toUInt32 &&& Int32.toUInt32 31)).toInt32 &&& (1431655765 : Int32))) &&& (858993459 : Int32)) + ((((x1 - (((x1).toUInt32 >>> (((1 : Int32)).toUInt32 &&& Int32.toUInt32 31)).toInt32 &&& (1431655765 : Int32)))).toUInt32 >>> (((2 : Int32)).toUInt32 &&& Int32.toUInt32 31)).toInt32 &&& (858993459 : Int32)))).toUInt32 >>> (((4 : Int32)).toUInt32 &&& Int32.toUInt32 31)).toInt32) &&& (252645135 : Int32)) + (((((((x1 - (((x1).toUInt32 >>> (((1 : Int32)).toUInt32 &&& Int32.toUInt32 31)).toInt32 &&& (1431655765 : Int32))) &&& (858993459 : Int32)) + ((((x1 - (((x1).toUInt32 >>> (((1 : Int32)).toUInt32 &&& Int32.toUInt32 31)).toInt32 &&& (1431655765 : Int32)))).toUInt32 >>> (((2 : Int32)).toUInt32 &&& Int32.toUInt32 31)).toInt32 &&& (858993459 : Int32))) + (((((x1 - (((x1).toUInt32 >>> (((1 : Int32)).toUInt32 &&& Int32.toUInt32 31)).toInt32 &&& (1431655765 : Int32))) &&& (858993459 : Int32)) + ((((x1 - (((x1).toUInt32 >>> (((1 : Int32)).toUInt32 &&& Int32.toUInt32 31)).toInt32 &&& (1431655765 : Int32)))).toUInt32 >>> (((2 : Int32)).toUInt32 &&& Int32.toUInt32 31)).toInt32 &&& (858993459 : Int32)))).toUInt32 >>> (((4 : Int32)).toUInt32 &&& Int32.toUInt32 31)).toInt32) &&& (252645135 : Int32))).toUInt32 >>> (((8 : Int32)).toUInt32 &&& Int32.toUInt32 31)).toInt32)]) t274_40 rfl rfl).trans ?_
  refine (k_iload_n t274_41 rfl rfl).trans ?_
  refine (k_iload_n t274_42 rfl rfl).trans ?_
  refine (k_bipush t274_43 rfl zcb_16).trans ?_
  refine (k_iushr t274_45 rfl).trans ?_
  refine (k_iadd t274_46 rfl).trans ?_
  refine (k_istore_n (ls' := [.int (((((((x1 - (((x1).toUInt32 >>> (((1 : Int32)).toUInt32 &&& Int32.toUInt32 31)).toInt32 &&& (1431655765 : Int32))) &&& (858993459 : Int32)) + ((((x1 - (((x1).toUInt32 >>> (((1 : Int32)).toUInt32 &&& Int32.toUInt32 31)).toInt32 &&& (1431655765 : Int32)))).toUInt32 >>> (((2 : Int32)).toUInt32 &&& Int32.toUInt32 31)).toInt32 &&& (858993459 : Int32))) + (((((x1 - (((x1).toUInt32 >>> (((1 : Int32)).toUInt32 &&& Int32.toUInt32 31)).toInt32 &&& (1431655765 : Int32))) &&& (858993459 : Int32)) + ((((x1 - (((x1).toUInt32 >>> (((1 : Int32)).toUInt32 &&& Int32.toUInt32 31)).toInt32 &&& (1431655765 : Int32)))).toUInt32 >>> (((2 : Int32)).toUInt32 &&& Int32.toUInt32 31)).toInt32 &&& (858993459 : Int32)))).toUInt32 >>> (((4 : Int32)).toUInt32 &&& Int32.toUInt32 31)).toInt32) &&& (252645135 : Int32)) + (((((((x1 - (((x1).toUInt32 >>> (((1 : Int32)).toUInt32 &&& Int32.toUInt32 31)).toInt32 &&& (1431655765 : Int32))) &&& (858993459 : Int32)) + ((((x1 - (((x1).toUInt32 >>> (((1 : Int32)).toUInt32 &&& Int32.toUInt32 31)).toInt32 &&& (1431655765 : Int32)))).toUInt32 >>> (((2 : Int32)).toUInt32 &&& Int32.toUInt32 31)).toInt32 &&& (858993459 : Int32))) + (((((x1 - (((x1).toUInt32 >>> (((1 : Int32)).toUInt32 &&& Int32.toUInt32 31)).toInt32 &&& (1431655765 : Int32))) &&& (858993459 : Int32)) + ((((x1 - (((x1).toUInt32 >>> (((1 : Int32)).toUInt32 &&& Int32.toUInt32 31)).toInt32 &&& (1431655765 : Int32)))).toUInt32 >>> (((2 : Int32)).toUInt32 &&& Int32.toUInt32 31)).toInt32 &&& (858993459 : Int32)))).toUInt32 >>> (((4 : Int32)).toUInt32 &&& Int32.toUInt32 31)).toInt32) &&& (252645135 : Int32))).toUInt32 >>> (((8 : Int32)).toUInt32 &&& Int32.toUInt32 31)).toInt32) + ((((((((x1 - (((x1).toUInt32 >>> (((1 : Int32)).toUInt32 &&& Int32.toUInt32 31)).toInt32 &&& (1431655765 : Int32))) &&& (858993459 : Int32)) + ((((x1 - (((x1).toUInt32 >>> (((1 : Int32)).toUInt32 &&& Int32.toUInt32 31)).toInt32 &&& (1431655765 : Int32)))).toUInt32 >>> (((2 : Int32)).toUInt32 &&& Int32.toUInt32 31)).toInt32 &&& (858993459 : Int32))) + (((((x1 - (((x1).toUInt32 >>> (((1 : Int32)).toUInt32 &&& Int32.toUInt32 31)).toInt32 &&& (1431655765 : Int32))) &&& (858993459 : Int32)) + ((((x1 - (((x1).toUInt32 >>> (((1 : Int32)).toUInt32 &&& Int32.toUInt32 31)).toInt32 &&& (1431655765 : Int32)))).toUInt32 >>> (((2 : Int32)).toUInt32 &&& Int32.toUInt32 31)).toInt32 &&& (858993459 : Int32)))).toUInt32 >>> (((4 : Int32)).toUInt32 &&& Int32.toUInt32 31)).toInt32) &&& (252645135 : Int32)) + (((((((x1 - (((x1).toUInt32 >>> (((1 : Int32)).toUInt32 &&& Int32.toUInt32 31)).toInt32 &&& (1431655765 : Int32))) &&& (858993459 : Int32)) + ((((x1 - (((x1).toUInt32 >>> (((1 : Int32)).toUInt32 &&& Int32.toUInt32 31)).toInt32 &&& (1431655765 : Int32)))).toUInt32 >>> (((2 : Int32)).toUInt32 &&& Int32.toUInt32 31)).toInt32 &&& (858993459 : Int32))) + (((((x1 - (((x1).toUInt32 >>> (((1 : Int32)).toUInt32 &&& Int32.toUInt32 31)).toInt32 &&& (1431655765 : Int32))) &&& (858993459 : Int32)) + ((((x1 - (((x1).toUInt32 >>> (((1 : Int32)).toUInt32 &&& Int32.toUInt32 31)).toInt32 &&& (1431655765 : Int32)))).toUInt32 >>> (((2 : Int32)).toUInt32 &&& Int32.toUInt32 31)).toInt32 &&& (858993459 : Int32)))).toUInt32 >>> (((4 : Int32)).toUInt32 &&& Int32.toUInt32 31)).toInt32) &&& (252645135 : Int32))).toUInt32 >>> (((8 : Int32)).toUInt32 &&& Int32.toUInt32 31)).toInt32)).toUInt32 >>> (((16 : Int32)).toUInt32 &&& Int32.toUInt32 31)).toInt32)]) t274_47 rfl rfl).trans ?_
  refine (k_iload_n t274_48 rfl rfl).trans ?_
  refine (k_bipush t274_49 rfl zcb_63).trans ?_
  refine (k_iand t274_51 rfl).trans ?_
  exact k_ireturn t274_52 rfl (by decide)
theorem t275_0 : z_ft 275 0 = some (.lload_n 0, 1, none, [], 0, 0, 0, 0) := z_ftd (by decide +kernel)
theorem t275_1 : z_ft 275 1 = some (.lload_n 2, 1, none, [], 0, 0, 0, 0) := z_ftd (by decide +kernel)
theorem t275_2 : z_ft 275 2 = some (.ldiv, 1, none, [], 0, 0, 0, 0) := z_ftd (by decide +kernel)
theorem t275_3 : z_ft 275 3 = some (.lstore 4, 2, none, [], 0, 0, 0, 0) := z_ftd (by decide +kernel)
theorem t275_5 : z_ft 275 5 = some (.lload_n 0, 1, none, [], 0, 0, 0, 0) := z_ftd (by decide +kernel)
theorem t275_6 : z_ft 275 6 = some (.lload_n 2, 1, none, [], 0, 0, 0, 0) := z_ftd (by decide +kernel)
theorem t275_7 : z_ft 275 7 = some (.lxor, 1, none, [], 0, 0, 0, 0) := z_ftd (by decide +kernel)
theorem t275_8 : z_ft 275 8 = some (.lconst 0, 1, none, [], 0, 0, 0, 0) := z_ftd (by decide +kernel)
theorem t275_9 : z_ft 275 9 = some (.lcmp, 1, none, [], 0, 0, 0, 0) := z_ftd (by decide +kernel)
theorem t275_10 : z_ft 275 10 = some (.ifCond .ge 17, 3, none, [], 27, 0, 0, 0) := z_ftd (by decide +kernel)
theorem t275_13 : z_ft 275 13 = some (.lload 4, 2, none, [], 0, 0, 0, 0) := z_ftd (by decide +kernel)
theorem t275_15 : z_ft 275 15 = some (.lload_n 2, 1, none, [], 0, 0, 0, 0) := z_ftd (by decide +kernel)
theorem t275_16 : z_ft 275 16 = some (.lmul, 1, none, [], 0, 0, 0, 0) := z_ftd (by decide +kernel)
theorem t275_17 : z_ft 275 17 = some (.lload_n 0, 1, none, [], 0, 0, 0, 0) := z_ftd (by decide +kernel)
theorem t275_18 : z_ft 275 18 = some (.lcmp, 1, none, [], 0, 0, 0, 0) := z_ftd (by decide +kernel)
theorem t275_19 : z_ft 275 19 = some (.ifCond .eq 8, 3, none, [], 27, 0, 0, 0) := z_ftd (by decide +kernel)
theorem t275_22 : z_ft 275 22 = some (.lload 4, 2, none, [], 0, 0, 0, 0) := z_ftd (by decide +kernel)
theorem t275_24 : z_ft 275 24 = some (.lconst 1, 1, none, [], 0, 0, 0, 0) := z_ftd (by decide +kernel)
theorem t275_25 : z_ft 275 25 = some (.lsub, 1, none, [], 0, 0, 0, 0) := z_ftd (by decide +kernel)
theorem t275_26 : z_ft 275 26 = some (.lreturn, 1, none, [], 0, 0, 0, 0) := z_ftd (by decide +kernel)
theorem t275_27 : z_ft 275 27 = some (.lload 4, 2, (some [4]), [], 0, 0, 0, 0) := z_ftd (by decide +kernel)
theorem t275_29 : z_ft 275 29 = some (.lreturn, 1, none, [], 0, 0, 0, 0) := z_ftd (by decide +kernel)
-- J9_floorDiv_f86c9
theorem e275 (d : Nat) (x1 : Int64) (x2 : Int64) (S : z_S) (hW : z_W S)  : fL (d + 1) 275 [.long x1, .long x2] S = (if x2 = 0 then none else (if (0 : Int32) ≤ (lg_cmp (x1 ^^^ x2) (0 : Int64)) then some ((x1 / x2), S) else (if (lg_cmp ((x1 / x2) * x2) x1) = (0 : Int32) then some ((x1 / x2), S) else some (((x1 / x2) - (1 : Int64)), S)))) := by
  refine (fL_en (Nat.le_of_ble_eq_true rfl) rfl).trans ?_
  refine (k_lload_n t275_0 rfl rfl).trans ?_
  refine (k_lload_n t275_1 rfl rfl).trans ?_
  refine (k_ldiv t275_2 rfl).trans (z_ite (fun g1 => rfl) (fun g1 => ?_))
  refine (k_lstore (ls' := [.long x1, z_j, .long x2, z_j, .long (x1 / x2), z_j]) t275_3 rfl rfl).trans ?_
  refine (k_lload_n t275_5 rfl rfl).trans ?_
  refine (k_lload_n t275_6 rfl rfl).trans ?_
  refine (k_lxor t275_7 rfl).trans ?_
  refine (k_lconst t275_8 rfl (z := (0 : Int64)) rfl).trans ?_
  refine (k_lcmp t275_9 rfl).trans ?_
  refine (k_if_ge t275_10 rfl).trans (z_ite (fun g2 => ?_) (fun g2 => ?_))
  · refine (zk_mk (ls' := [z_j, z_j, z_j, z_j, .long (x1 / x2), z_j]) t275_27 rfl).trans ?_
    refine (k_lload t275_27 rfl rfl).trans ?_
    exact k_lreturn t275_29 rfl (by decide)
  · refine (k_lload t275_13 rfl rfl).trans ?_
    refine (k_lload_n t275_15 rfl rfl).trans ?_
    refine (k_lmul t275_16 rfl).trans ?_
    refine (k_lload_n t275_17 rfl rfl).trans ?_
    refine (k_lcmp t275_18 rfl).trans ?_
    refine (k_if_eq t275_19 rfl).trans (z_ite (fun g3 => ?_) (fun g3 => ?_))
    · refine (zk_mk (ls' := [z_j, z_j, z_j, z_j, .long (x1 / x2), z_j]) t275_27 rfl).trans ?_
      refine (k_lload t275_27 rfl rfl).trans ?_
      exact k_lreturn t275_29 rfl (by decide)
    · refine (k_lload t275_22 rfl rfl).trans ?_
      refine (k_lconst t275_24 rfl (z := (1 : Int64)) rfl).trans ?_
      refine (k_lsub t275_25 rfl).trans ?_
      exact k_lreturn t275_26 rfl (by decide)
theorem t276_0 : z_ft 276 0 = some (.lload_n 0, 1, none, [], 0, 0, 0, 0) := z_ftd (by decide +kernel)
theorem t276_1 : z_ft 276 1 = some (.lload_n 2, 1, none, [], 0, 0, 0, 0) := z_ftd (by decide +kernel)
theorem t276_2 : z_ft 276 2 = some (.lrem, 1, none, [], 0, 0, 0, 0) := z_ftd (by decide +kernel)
theorem t276_3 : z_ft 276 3 = some (.lstore 4, 2, none, [], 0, 0, 0, 0) := z_ftd (by decide +kernel)
theorem t276_5 : z_ft 276 5 = some (.lload_n 0, 1, none, [], 0, 0, 0, 0) := z_ftd (by decide +kernel)
theorem t276_6 : z_ft 276 6 = some (.lload_n 2, 1, none, [], 0, 0, 0, 0) := z_ftd (by decide +kernel)
theorem t276_7 : z_ft 276 7 = some (.lxor, 1, none, [], 0, 0, 0, 0) := z_ftd (by decide +kernel)
theorem t276_8 : z_ft 276 8 = some (.lconst 0, 1, none, [], 0, 0, 0, 0) := z_ftd (by decide +kernel)
theorem t276_9 : z_ft 276 9 = some (.lcmp, 1, none, [], 0, 0, 0, 0) := z_ftd (by decide +kernel)
theorem t276_10 : z_ft 276 10 = some (.ifCond .ge 15, 3, none, [], 25, 0, 0, 0) := z_ftd (by decide +kernel)
theorem t276_13 : z_ft 276 13 = some (.lload 4, 2, none, [], 0, 0, 0, 0) := z_ftd (by decide +kernel)
theorem t276_15 : z_ft 276 15 = some (.lconst 0, 1, none, [], 0, 0, 0, 0) := z_ftd (by decide +kernel)
theorem t276_16 : z_ft 276 16 = some (.lcmp, 1, none, [], 0, 0, 0, 0) := z_ftd (by decide +kernel)
theorem t276_17 : z_ft 276 17 = some (.ifCond .eq 8, 3, none, [], 25, 0, 0, 0) := z_ftd (by decide +kernel)
theorem t276_20 : z_ft 276 20 = some (.lload 4, 2, none, [], 0, 0, 0, 0) := z_ftd (by decide +kernel)
theorem t276_22 : z_ft 276 22 = some (.lload_n 2, 1, none, [], 0, 0, 0, 0) := z_ftd (by decide +kernel)
theorem t276_23 : z_ft 276 23 = some (.ladd, 1, none, [], 0, 0, 0, 0) := z_ftd (by decide +kernel)
theorem t276_24 : z_ft 276 24 = some (.lreturn, 1, none, [], 0, 0, 0, 0) := z_ftd (by decide +kernel)
theorem t276_25 : z_ft 276 25 = some (.lload 4, 2, (some [4]), [], 0, 0, 0, 0) := z_ftd (by decide +kernel)
theorem t276_27 : z_ft 276 27 = some (.lreturn, 1, none, [], 0, 0, 0, 0) := z_ftd (by decide +kernel)
-- J9_floorMod_f86c9
theorem e276 (d : Nat) (x1 : Int64) (x2 : Int64) (S : z_S) (hW : z_W S)  : fL (d + 1) 276 [.long x1, .long x2] S = (if x2 = 0 then none else (if (0 : Int32) ≤ (lg_cmp (x1 ^^^ x2) (0 : Int64)) then some ((x1 - x1 / x2 * x2), S) else (if (lg_cmp (x1 - x1 / x2 * x2) (0 : Int64)) = (0 : Int32) then some ((x1 - x1 / x2 * x2), S) else some (((x1 - x1 / x2 * x2) + x2), S)))) := by
  refine (fL_en (Nat.le_of_ble_eq_true rfl) rfl).trans ?_
  refine (k_lload_n t276_0 rfl rfl).trans ?_
  refine (k_lload_n t276_1 rfl rfl).trans ?_
  refine (k_lrem t276_2 rfl).trans (z_ite (fun g1 => rfl) (fun g1 => ?_))
  refine (k_lstore (ls' := [.long x1, z_j, .long x2, z_j, .long (x1 - x1 / x2 * x2), z_j]) t276_3 rfl rfl).trans ?_
  refine (k_lload_n t276_5 rfl rfl).trans ?_
  refine (k_lload_n t276_6 rfl rfl).trans ?_
  refine (k_lxor t276_7 rfl).trans ?_
  refine (k_lconst t276_8 rfl (z := (0 : Int64)) rfl).trans ?_
  refine (k_lcmp t276_9 rfl).trans ?_
  refine (k_if_ge t276_10 rfl).trans (z_ite (fun g2 => ?_) (fun g2 => ?_))
  · refine (zk_mk (ls' := [z_j, z_j, z_j, z_j, .long (x1 - x1 / x2 * x2), z_j]) t276_25 rfl).trans ?_
    refine (k_lload t276_25 rfl rfl).trans ?_
    exact k_lreturn t276_27 rfl (by decide)
  · refine (k_lload t276_13 rfl rfl).trans ?_
    refine (k_lconst t276_15 rfl (z := (0 : Int64)) rfl).trans ?_
    refine (k_lcmp t276_16 rfl).trans ?_
    refine (k_if_eq t276_17 rfl).trans (z_ite (fun g3 => ?_) (fun g3 => ?_))
    · refine (zk_mk (ls' := [z_j, z_j, z_j, z_j, .long (x1 - x1 / x2 * x2), z_j]) t276_25 rfl).trans ?_
      refine (k_lload t276_25 rfl rfl).trans ?_
      exact k_lreturn t276_27 rfl (by decide)
    · refine (k_lload t276_20 rfl rfl).trans ?_
      refine (k_lload_n t276_22 rfl rfl).trans ?_
      refine (k_ladd t276_23 rfl).trans ?_
      exact k_lreturn t276_24 rfl (by decide)
theorem t277_0 : z_ft 277 0 = some (.iload_n 0, 1, none, [], 0, 0, 0, 0) := z_ftd (by decide +kernel)
theorem t277_1 : z_ft 277 1 = some (.iload_n 1, 1, none, [], 0, 0, 0, 0) := z_ftd (by decide +kernel)
theorem t277_2 : z_ft 277 2 = some (.if_icmp .lt 7, 3, none, [], 9, 0, 0, 0) := z_ftd (by decide +kernel)
theorem t277_5 : z_ft 277 5 = some (.iload_n 0, 1, none, [], 0, 0, 0, 0) := z_ftd (by decide +kernel)
theorem t277_6 : z_ft 277 6 = some (.goto 4, 3, none, [], 10, 0, 0, 0) := z_ftd (by decide +kernel)
theorem t277_9 : z_ft 277 9 = some (.iload_n 1, 1, none, [], 0, 0, 0, 0) := z_ftd (by decide +kernel)
theorem t277_10 : z_ft 277 10 = some (.ireturn, 1, (some []), [], 0, 0, 0, 0) := z_ftd (by decide +kernel)
-- J9_max_7cf53
theorem e277 (d : Nat) (x1 : Int32) (x2 : Int32) (S : z_S) (hW : z_W S)  : fI (d + 1) 277 [.int x1, .int x2] S = (if x1 < x2 then some (x2, S) else some (x1, S)) := by
  refine (fI_en (Nat.le_of_ble_eq_true rfl) rfl).trans ?_
  refine (k_iload_n t277_0 rfl rfl).trans ?_
  refine (k_iload_n t277_1 rfl rfl).trans ?_
  refine (k_icmp_lt t277_2 rfl).trans (z_ite (fun g1 => ?_) (fun g1 => ?_))
  · refine (k_iload_n t277_9 rfl rfl).trans ?_
    refine (zk_mk (ls' := [z_j, z_j]) t277_10 rfl).trans ?_
    exact k_ireturn t277_10 rfl (by decide)
  · refine (k_iload_n t277_5 rfl rfl).trans ?_
    refine (k_goto t277_6 rfl).trans ?_
    refine (zk_mk (ls' := [z_j, z_j]) t277_10 rfl).trans ?_
    exact k_ireturn t277_10 rfl (by decide)
theorem t278_0 : z_ft 278 0 = some (.lload_n 0, 1, none, [], 0, 0, 0, 0) := z_ftd (by decide +kernel)
theorem t278_1 : z_ft 278 1 = some (.lload_n 2, 1, none, [], 0, 0, 0, 0) := z_ftd (by decide +kernel)
theorem t278_2 : z_ft 278 2 = some (.lcmp, 1, none, [], 0, 0, 0, 0) := z_ftd (by decide +kernel)
theorem t278_3 : z_ft 278 3 = some (.ifCond .lt 7, 3, none, [], 10, 0, 0, 0) := z_ftd (by decide +kernel)
theorem t278_6 : z_ft 278 6 = some (.lload_n 0, 1, none, [], 0, 0, 0, 0) := z_ftd (by decide +kernel)
theorem t278_7 : z_ft 278 7 = some (.goto 4, 3, none, [], 11, 0, 0, 0) := z_ftd (by decide +kernel)
theorem t278_10 : z_ft 278 10 = some (.lload_n 2, 1, none, [], 0, 0, 0, 0) := z_ftd (by decide +kernel)
theorem t278_11 : z_ft 278 11 = some (.lreturn, 1, (some []), [], 0, 0, 0, 0) := z_ftd (by decide +kernel)
-- J9_max_f86c9
theorem e278 (d : Nat) (x1 : Int64) (x2 : Int64) (S : z_S) (hW : z_W S)  : fL (d + 1) 278 [.long x1, .long x2] S = (if (lg_cmp x1 x2) < (0 : Int32) then some (x2, S) else some (x1, S)) := by
  refine (fL_en (Nat.le_of_ble_eq_true rfl) rfl).trans ?_
  refine (k_lload_n t278_0 rfl rfl).trans ?_
  refine (k_lload_n t278_1 rfl rfl).trans ?_
  refine (k_lcmp t278_2 rfl).trans ?_
  refine (k_if_lt t278_3 rfl).trans (z_ite (fun g1 => ?_) (fun g1 => ?_))
  · refine (k_lload_n t278_10 rfl rfl).trans ?_
    refine (zk_mk (ls' := [z_j, z_j, z_j, z_j]) t278_11 rfl).trans ?_
    exact k_lreturn t278_11 rfl (by decide)
  · refine (k_lload_n t278_6 rfl rfl).trans ?_
    refine (k_goto t278_7 rfl).trans ?_
    refine (zk_mk (ls' := [z_j, z_j, z_j, z_j]) t278_11 rfl).trans ?_
    exact k_lreturn t278_11 rfl (by decide)
theorem t279_0 : z_ft 279 0 = some (.iload_n 0, 1, none, [], 0, 0, 0, 0) := z_ftd (by decide +kernel)
theorem t279_1 : z_ft 279 1 = some (.iload_n 1, 1, none, [], 0, 0, 0, 0) := z_ftd (by decide +kernel)
theorem t279_2 : z_ft 279 2 = some (.if_icmp .gt 7, 3, none, [], 9, 0, 0, 0) := z_ftd (by decide +kernel)
theorem t279_5 : z_ft 279 5 = some (.iload_n 0, 1, none, [], 0, 0, 0, 0) := z_ftd (by decide +kernel)
theorem t279_6 : z_ft 279 6 = some (.goto 4, 3, none, [], 10, 0, 0, 0) := z_ftd (by decide +kernel)
theorem t279_9 : z_ft 279 9 = some (.iload_n 1, 1, none, [], 0, 0, 0, 0) := z_ftd (by decide +kernel)
theorem t279_10 : z_ft 279 10 = some (.ireturn, 1, (some []), [], 0, 0, 0, 0) := z_ftd (by decide +kernel)
-- J9_min_7cf53
theorem e279 (d : Nat) (x1 : Int32) (x2 : Int32) (S : z_S) (hW : z_W S)  : fI (d + 1) 279 [.int x1, .int x2] S = (if x2 < x1 then some (x2, S) else some (x1, S)) := by
  refine (fI_en (Nat.le_of_ble_eq_true rfl) rfl).trans ?_
  refine (k_iload_n t279_0 rfl rfl).trans ?_
  refine (k_iload_n t279_1 rfl rfl).trans ?_
  refine (k_icmp_gt t279_2 rfl).trans (z_ite (fun g1 => ?_) (fun g1 => ?_))
  · refine (k_iload_n t279_9 rfl rfl).trans ?_
    refine (zk_mk (ls' := [z_j, z_j]) t279_10 rfl).trans ?_
    exact k_ireturn t279_10 rfl (by decide)
  · refine (k_iload_n t279_5 rfl rfl).trans ?_
    refine (k_goto t279_6 rfl).trans ?_
    refine (zk_mk (ls' := [z_j, z_j]) t279_10 rfl).trans ?_
    exact k_ireturn t279_10 rfl (by decide)
theorem t280_0 : z_ft 280 0 = some (.lload_n 0, 1, none, [], 0, 0, 0, 0) := z_ftd (by decide +kernel)
theorem t280_1 : z_ft 280 1 = some (.lload_n 2, 1, none, [], 0, 0, 0, 0) := z_ftd (by decide +kernel)
theorem t280_2 : z_ft 280 2 = some (.lcmp, 1, none, [], 0, 0, 0, 0) := z_ftd (by decide +kernel)
theorem t280_3 : z_ft 280 3 = some (.ifCond .gt 7, 3, none, [], 10, 0, 0, 0) := z_ftd (by decide +kernel)
theorem t280_6 : z_ft 280 6 = some (.lload_n 0, 1, none, [], 0, 0, 0, 0) := z_ftd (by decide +kernel)
theorem t280_7 : z_ft 280 7 = some (.goto 4, 3, none, [], 11, 0, 0, 0) := z_ftd (by decide +kernel)
theorem t280_10 : z_ft 280 10 = some (.lload_n 2, 1, none, [], 0, 0, 0, 0) := z_ftd (by decide +kernel)
theorem t280_11 : z_ft 280 11 = some (.lreturn, 1, (some []), [], 0, 0, 0, 0) := z_ftd (by decide +kernel)
-- J9_min_f86c9
theorem e280 (d : Nat) (x1 : Int64) (x2 : Int64) (S : z_S) (hW : z_W S)  : fL (d + 1) 280 [.long x1, .long x2] S = (if (0 : Int32) < (lg_cmp x1 x2) then some (x2, S) else some (x1, S)) := by
  refine (fL_en (Nat.le_of_ble_eq_true rfl) rfl).trans ?_
  refine (k_lload_n t280_0 rfl rfl).trans ?_
  refine (k_lload_n t280_1 rfl rfl).trans ?_
  refine (k_lcmp t280_2 rfl).trans ?_
  refine (k_if_gt t280_3 rfl).trans (z_ite (fun g1 => ?_) (fun g1 => ?_))
  · refine (k_lload_n t280_10 rfl rfl).trans ?_
    refine (zk_mk (ls' := [z_j, z_j, z_j, z_j]) t280_11 rfl).trans ?_
    exact k_lreturn t280_11 rfl (by decide)
  · refine (k_lload_n t280_6 rfl rfl).trans ?_
    refine (k_goto t280_7 rfl).trans ?_
    refine (zk_mk (ls' := [z_j, z_j, z_j, z_j]) t280_11 rfl).trans ?_
    exact k_lreturn t280_11 rfl (by decide)
theorem t281_0 : z_ft 281 0 = some (.iconst 0, 1, none, [], 0, 0, 0, 0) := z_ftd (by decide +kernel)
theorem t281_1 : z_ft 281 1 = some (.istore_n 2, 1, none, [], 0, 0, 0, 0) := z_ftd (by decide +kernel)
theorem t281_2 : z_ft 281 2 = some (.aload_n 0, 1, none, [], 0, 0, 0, 0) := z_ftd (by decide +kernel)
theorem t281_3 : z_ft 281 3 = some (.arraylength, 1, none, [], 0, 0, 0, 0) := z_ftd (by decide +kernel)
theorem t281_4 : z_ft 281 4 = some (.istore_n 3, 1, none, [], 0, 0, 0, 0) := z_ftd (by decide +kernel)
theorem t281_5 : z_ft 281 5 = some (.iload_n 2, 1, (some [0, 1, 2, 3]), [], 0, 0, 0, 0) := z_ftd (by decide +kernel)
theorem t281_6 : z_ft 281 6 = some (.iload_n 3, 1, none, [], 0, 0, 0, 0) := z_ftd (by decide +kernel)
theorem t281_7 : z_ft 281 7 = some (.if_icmp .ge 13, 3, none, [], 20, 0, 0, 0) := z_ftd (by decide +kernel)
theorem t281_10 : z_ft 281 10 = some (.aload_n 0, 1, none, [], 0, 0, 0, 0) := z_ftd (by decide +kernel)
theorem t281_11 : z_ft 281 11 = some (.iload_n 2, 1, none, [], 0, 0, 0, 0) := z_ftd (by decide +kernel)
theorem t281_12 : z_ft 281 12 = some (.iload_n 1, 1, none, [], 0, 0, 0, 0) := z_ftd (by decide +kernel)
theorem t281_13 : z_ft 281 13 = some (.iastore, 1, none, [], 0, 0, 0, 0) := z_ftd (by decide +kernel)
theorem t281_14 : z_ft 281 14 = some (.iinc 2 1, 3, none, [], 0, 0, 0, 0) := z_ftd (by decide +kernel)
theorem t281_17 : z_ft 281 17 = some (.goto (-12), 3, none, [], 5, 0, 0, 0) := z_ftd (by decide +kernel)
theorem t281_20 : z_ft 281 20 = some (.return_, 1, none, [], 0, 0, 0, 0) := z_ftd (by decide +kernel)
noncomputable def b281_5 (d : Nat) (y0 : Nat) (y1 : Int32) (y2 : Int32) (y3 : Int32) (S : z_S) : Option z_S := zk kV z_X0 d 281 5 [.ref y0, .int y1, .int y2, .int y3] [] S
theorem b281_5_eq (d : Nat) (y0 : Nat) (y1 : Int32) (y2 : Int32) (y3 : Int32) (S : z_S) (hW : z_W S) (hy0 : z_K y0 = 20) : b281_5 d y0 y1 y2 y3 S = (if y3 ≤ y2 then some S else (if z_in y2 (z_Ln y0) then b281_5 d y0 y1 (y2 + (1 : Int32)) y3 (sI S y0 (y2).toNatClampNeg y1) else none)) := by
  unfold b281_5
  refine (k_iload_n t281_5 rfl rfl).trans ?_
  refine (k_iload_n t281_6 rfl rfl).trans ?_
  refine (k_icmp_ge t281_7 rfl).trans (z_ite (fun g1 => ?_) (fun g1 => ?_))
  · exact k_return t281_20 rfl (by decide)
  · refine (k_aload_n t281_10 rfl rfl).trans ?_
    refine (k_iload_n t281_11 rfl rfl).trans ?_
    refine (k_iload_n t281_12 rfl rfl).trans ?_
    refine (k_iast t281_13 rfl hW hy0 rfl).trans (z_ite (fun g2 => ?_) (fun _ => rfl))
    refine (k_iinc (b := (y2 + (1 : Int32))) (ls' := [.ref y0, .int y1, .int (y2 + (1 : Int32)), .int y3]) t281_14 rfl rfl (by rw [zci_1]) rfl).trans ?_
    refine (k_goto t281_17 rfl).trans ?_
    exact (zk_mk (ls' := [.ref y0, .int y1, .int (y2 + (1 : Int32)), .int y3]) t281_5 rfl)
-- J7_fill_53178
theorem e281 (d : Nat) (a1 : Nat) (x2 : Int32) (S : z_S) (hW : z_W S) (ha1 : z_K a1 = 20) : fV (d + 1) 281 [.ref a1, .int x2] S = b281_5 d a1 x2 (0 : Int32) (Int32.ofNat (z_Ln a1)) S := by
  refine (fV_en (Nat.le_of_ble_eq_true rfl) rfl).trans ?_
  refine (k_iconst t281_0 rfl zci_0).trans ?_
  refine (k_istore_n (ls' := [.ref a1, .int x2, .int (0 : Int32), z_j]) t281_1 rfl rfl).trans ?_
  refine (k_aload_n t281_2 rfl rfl).trans ?_
  refine (k_alen t281_3 rfl hW (by rw [ha1]; decide) rfl).trans ?_
  refine (k_istore_n (ls' := [.ref a1, .int x2, .int (0 : Int32), .int (Int32.ofNat (z_Ln a1))]) t281_4 rfl rfl).trans ?_
  exact (zk_mk (ls' := [.ref a1, .int x2, .int (0 : Int32), .int (Int32.ofNat (z_Ln a1))]) t281_5 rfl)
