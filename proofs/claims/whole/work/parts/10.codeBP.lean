abbrev b_BP_init : ByteArray := prog_1_method_1_code
def y_BP_init : MethodName := ⟨"BoxPacker", "<init>", "()V"⟩
theorem d_BP_init_0 : decode b_BP_init 0 = .ok (.aload_n 0, 1) := by decide +kernel
theorem d_BP_init_1 : decode b_BP_init 1 = .ok (.invokespecial 1, 3) := by decide +kernel
theorem d_BP_init_4 : decode b_BP_init 4 = .ok (.aload_n 0, 1) := by decide +kernel
theorem d_BP_init_5 : decode b_BP_init 5 = .ok (.bipush 100, 2) := by decide +kernel
theorem d_BP_init_7 : decode b_BP_init 7 = .ok (.anewarray 9, 3) := by decide +kernel
theorem d_BP_init_10 : decode b_BP_init 10 = .ok (.putfield 11, 3) := by decide +kernel
theorem d_BP_init_13 : decode b_BP_init 13 = .ok (.aload_n 0, 1) := by decide +kernel
theorem d_BP_init_14 : decode b_BP_init 14 = .ok (.iconst 0, 1) := by decide +kernel
theorem d_BP_init_15 : decode b_BP_init 15 = .ok (.putfield 15, 3) := by decide +kernel
theorem d_BP_init_18 : decode b_BP_init 18 = .ok (.aload_n 0, 1) := by decide +kernel
theorem d_BP_init_19 : decode b_BP_init 19 = .ok (.bipush 100, 2) := by decide +kernel
theorem d_BP_init_21 : decode b_BP_init 21 = .ok (.anewarray 19, 3) := by decide +kernel
theorem d_BP_init_24 : decode b_BP_init 24 = .ok (.putfield 21, 3) := by decide +kernel
theorem d_BP_init_27 : decode b_BP_init 27 = .ok (.aload_n 0, 1) := by decide +kernel
theorem d_BP_init_28 : decode b_BP_init 28 = .ok (.iconst 0, 1) := by decide +kernel
theorem d_BP_init_29 : decode b_BP_init 29 = .ok (.putfield 25, 3) := by decide +kernel
theorem d_BP_init_32 : decode b_BP_init 32 = .ok (.aload_n 0, 1) := by decide +kernel
theorem d_BP_init_33 : decode b_BP_init 33 = .ok (.new 28, 3) := by decide +kernel
theorem d_BP_init_36 : decode b_BP_init 36 = .ok (.dup, 1) := by decide +kernel
theorem d_BP_init_37 : decode b_BP_init 37 = .ok (.invokespecial 30, 3) := by decide +kernel
theorem d_BP_init_40 : decode b_BP_init 40 = .ok (.putfield 31, 3) := by decide +kernel
theorem d_BP_init_43 : decode b_BP_init 43 = .ok (.return_, 1) := by decide +kernel
abbrev b_BP_leaf : ByteArray := prog_1_method_2_code
def y_BP_leaf : MethodName := ⟨"BoxPacker", "leaf", "(IIII)I"⟩
theorem d_BP_leaf_0 : decode b_BP_leaf 0 = .ok (.iload_n 1, 1) := by decide +kernel
theorem d_BP_leaf_1 : decode b_BP_leaf 1 = .ok (.ifCond .lt 9, 3) := by decide +kernel
theorem d_BP_leaf_4 : decode b_BP_leaf 4 = .ok (.iload_n 1, 1) := by decide +kernel
theorem d_BP_leaf_5 : decode b_BP_leaf 5 = .ok (.ldc 35, 2) := by decide +kernel
theorem d_BP_leaf_7 : decode b_BP_leaf 7 = .ok (.if_icmp .le 13, 3) := by decide +kernel
theorem d_BP_leaf_10 : decode b_BP_leaf 10 = .ok (.new 36, 3) := by decide +kernel
theorem d_BP_leaf_13 : decode b_BP_leaf 13 = .ok (.dup, 1) := by decide +kernel
theorem d_BP_leaf_14 : decode b_BP_leaf 14 = .ok (.ldc 38, 2) := by decide +kernel
theorem d_BP_leaf_16 : decode b_BP_leaf 16 = .ok (.invokespecial 40, 3) := by decide +kernel
theorem d_BP_leaf_19 : decode b_BP_leaf 19 = .ok (.athrow, 1) := by decide +kernel
theorem d_BP_leaf_20 : decode b_BP_leaf 20 = .ok (.iload_n 2, 1) := by decide +kernel
theorem d_BP_leaf_21 : decode b_BP_leaf 21 = .ok (.i2l, 1) := by decide +kernel
theorem d_BP_leaf_22 : decode b_BP_leaf 22 = .ok (.invokestatic 43, 3) := by decide +kernel
theorem d_BP_leaf_25 : decode b_BP_leaf 25 = .ok (.ifCond .eq 20, 3) := by decide +kernel
theorem d_BP_leaf_28 : decode b_BP_leaf 28 = .ok (.iload_n 3, 1) := by decide +kernel
theorem d_BP_leaf_29 : decode b_BP_leaf 29 = .ok (.i2l, 1) := by decide +kernel
theorem d_BP_leaf_30 : decode b_BP_leaf 30 = .ok (.invokestatic 43, 3) := by decide +kernel
theorem d_BP_leaf_33 : decode b_BP_leaf 33 = .ok (.ifCond .eq 12, 3) := by decide +kernel
theorem d_BP_leaf_36 : decode b_BP_leaf 36 = .ok (.iload 4, 2) := by decide +kernel
theorem d_BP_leaf_38 : decode b_BP_leaf 38 = .ok (.i2l, 1) := by decide +kernel
theorem d_BP_leaf_39 : decode b_BP_leaf 39 = .ok (.invokestatic 43, 3) := by decide +kernel
theorem d_BP_leaf_42 : decode b_BP_leaf 42 = .ok (.ifCond .ne 13, 3) := by decide +kernel
theorem d_BP_leaf_45 : decode b_BP_leaf 45 = .ok (.new 36, 3) := by decide +kernel
theorem d_BP_leaf_48 : decode b_BP_leaf 48 = .ok (.dup, 1) := by decide +kernel
theorem d_BP_leaf_49 : decode b_BP_leaf 49 = .ok (.ldc 47, 2) := by decide +kernel
theorem d_BP_leaf_51 : decode b_BP_leaf 51 = .ok (.invokespecial 40, 3) := by decide +kernel
theorem d_BP_leaf_54 : decode b_BP_leaf 54 = .ok (.athrow, 1) := by decide +kernel
theorem d_BP_leaf_55 : decode b_BP_leaf 55 = .ok (.aload_n 0, 1) := by decide +kernel
theorem d_BP_leaf_56 : decode b_BP_leaf 56 = .ok (.new 49, 3) := by decide +kernel
theorem d_BP_leaf_59 : decode b_BP_leaf 59 = .ok (.dup, 1) := by decide +kernel
theorem d_BP_leaf_60 : decode b_BP_leaf 60 = .ok (.iload_n 1, 1) := by decide +kernel
theorem d_BP_leaf_61 : decode b_BP_leaf 61 = .ok (.iload_n 2, 1) := by decide +kernel
theorem d_BP_leaf_62 : decode b_BP_leaf 62 = .ok (.iload_n 3, 1) := by decide +kernel
theorem d_BP_leaf_63 : decode b_BP_leaf 63 = .ok (.iload 4, 2) := by decide +kernel
theorem d_BP_leaf_65 : decode b_BP_leaf 65 = .ok (.aconst_null, 1) := by decide +kernel
theorem d_BP_leaf_66 : decode b_BP_leaf 66 = .ok (.iconst 0, 1) := by decide +kernel
theorem d_BP_leaf_67 : decode b_BP_leaf 67 = .ok (.invokespecial 51, 3) := by decide +kernel
theorem d_BP_leaf_70 : decode b_BP_leaf 70 = .ok (.invokevirtual 54, 3) := by decide +kernel
theorem d_BP_leaf_73 : decode b_BP_leaf 73 = .ok (.ireturn, 1) := by decide +kernel
abbrev b_BP_rule : ByteArray := prog_1_method_3_code
def y_BP_rule : MethodName := ⟨"BoxPacker", "rule", "(III)I"⟩
theorem d_BP_rule_0 : decode b_BP_rule 0 = .ok (.iload_n 1, 1) := by decide +kernel
theorem d_BP_rule_1 : decode b_BP_rule 1 = .ok (.invokestatic 58, 3) := by decide +kernel
theorem d_BP_rule_4 : decode b_BP_rule 4 = .ok (.ifCond .eq 17, 3) := by decide +kernel
theorem d_BP_rule_7 : decode b_BP_rule 7 = .ok (.iload_n 2, 1) := by decide +kernel
theorem d_BP_rule_8 : decode b_BP_rule 8 = .ok (.invokestatic 58, 3) := by decide +kernel
theorem d_BP_rule_11 : decode b_BP_rule 11 = .ok (.ifCond .eq 10, 3) := by decide +kernel
theorem d_BP_rule_14 : decode b_BP_rule 14 = .ok (.iload_n 3, 1) := by decide +kernel
theorem d_BP_rule_15 : decode b_BP_rule 15 = .ok (.invokestatic 58, 3) := by decide +kernel
theorem d_BP_rule_18 : decode b_BP_rule 18 = .ok (.ifCond .ne 13, 3) := by decide +kernel
theorem d_BP_rule_21 : decode b_BP_rule 21 = .ok (.new 36, 3) := by decide +kernel
theorem d_BP_rule_24 : decode b_BP_rule 24 = .ok (.dup, 1) := by decide +kernel
theorem d_BP_rule_25 : decode b_BP_rule 25 = .ok (.ldc 62, 2) := by decide +kernel
theorem d_BP_rule_27 : decode b_BP_rule 27 = .ok (.invokespecial 40, 3) := by decide +kernel
theorem d_BP_rule_30 : decode b_BP_rule 30 = .ok (.athrow, 1) := by decide +kernel
theorem d_BP_rule_31 : decode b_BP_rule 31 = .ok (.aload_n 0, 1) := by decide +kernel
theorem d_BP_rule_32 : decode b_BP_rule 32 = .ok (.new 49, 3) := by decide +kernel
theorem d_BP_rule_35 : decode b_BP_rule 35 = .ok (.dup, 1) := by decide +kernel
theorem d_BP_rule_36 : decode b_BP_rule 36 = .ok (.iconst (-1), 1) := by decide +kernel
theorem d_BP_rule_37 : decode b_BP_rule 37 = .ok (.iload_n 1, 1) := by decide +kernel
theorem d_BP_rule_38 : decode b_BP_rule 38 = .ok (.iload_n 2, 1) := by decide +kernel
theorem d_BP_rule_39 : decode b_BP_rule 39 = .ok (.iload_n 3, 1) := by decide +kernel
theorem d_BP_rule_40 : decode b_BP_rule 40 = .ok (.aconst_null, 1) := by decide +kernel
theorem d_BP_rule_41 : decode b_BP_rule 41 = .ok (.iconst 0, 1) := by decide +kernel
theorem d_BP_rule_42 : decode b_BP_rule 42 = .ok (.invokespecial 51, 3) := by decide +kernel
theorem d_BP_rule_45 : decode b_BP_rule 45 = .ok (.invokevirtual 54, 3) := by decide +kernel
theorem d_BP_rule_48 : decode b_BP_rule 48 = .ok (.ireturn, 1) := by decide +kernel
abbrev b_BP_glue : ByteArray := prog_1_method_4_code
def y_BP_glue : MethodName := ⟨"BoxPacker", "glue", "(IIIII)I"⟩
theorem d_BP_glue_0 : decode b_BP_glue 0 = .ok (.iload_n 1, 1) := by decide +kernel
theorem d_BP_glue_1 : decode b_BP_glue 1 = .ok (.i2l, 1) := by decide +kernel
theorem d_BP_glue_2 : decode b_BP_glue 2 = .ok (.invokestatic 43, 3) := by decide +kernel
theorem d_BP_glue_5 : decode b_BP_glue 5 = .ok (.ifCond .ne 13, 3) := by decide +kernel
theorem d_BP_glue_8 : decode b_BP_glue 8 = .ok (.new 36, 3) := by decide +kernel
theorem d_BP_glue_11 : decode b_BP_glue 11 = .ok (.dup, 1) := by decide +kernel
theorem d_BP_glue_12 : decode b_BP_glue 12 = .ok (.ldc 64, 2) := by decide +kernel
theorem d_BP_glue_14 : decode b_BP_glue 14 = .ok (.invokespecial 40, 3) := by decide +kernel
theorem d_BP_glue_17 : decode b_BP_glue 17 = .ok (.athrow, 1) := by decide +kernel
theorem d_BP_glue_18 : decode b_BP_glue 18 = .ok (.iload_n 2, 1) := by decide +kernel
theorem d_BP_glue_19 : decode b_BP_glue 19 = .ok (.i2l, 1) := by decide +kernel
theorem d_BP_glue_20 : decode b_BP_glue 20 = .ok (.invokestatic 43, 3) := by decide +kernel
theorem d_BP_glue_23 : decode b_BP_glue 23 = .ok (.ifCond .eq 21, 3) := by decide +kernel
theorem d_BP_glue_26 : decode b_BP_glue 26 = .ok (.iload_n 2, 1) := by decide +kernel
theorem d_BP_glue_27 : decode b_BP_glue 27 = .ok (.ifCond .lt 17, 3) := by decide +kernel
theorem d_BP_glue_30 : decode b_BP_glue 30 = .ok (.iload 4, 2) := by decide +kernel
theorem d_BP_glue_32 : decode b_BP_glue 32 = .ok (.i2l, 1) := by decide +kernel
theorem d_BP_glue_33 : decode b_BP_glue 33 = .ok (.invokestatic 43, 3) := by decide +kernel
theorem d_BP_glue_36 : decode b_BP_glue 36 = .ok (.ifCond .eq 8, 3) := by decide +kernel
theorem d_BP_glue_39 : decode b_BP_glue 39 = .ok (.iload 4, 2) := by decide +kernel
theorem d_BP_glue_41 : decode b_BP_glue 41 = .ok (.ifCond .ge 13, 3) := by decide +kernel
theorem d_BP_glue_44 : decode b_BP_glue 44 = .ok (.new 36, 3) := by decide +kernel
theorem d_BP_glue_47 : decode b_BP_glue 47 = .ok (.dup, 1) := by decide +kernel
theorem d_BP_glue_48 : decode b_BP_glue 48 = .ok (.ldc 66, 2) := by decide +kernel
theorem d_BP_glue_50 : decode b_BP_glue 50 = .ok (.invokespecial 40, 3) := by decide +kernel
theorem d_BP_glue_53 : decode b_BP_glue 53 = .ok (.athrow, 1) := by decide +kernel
theorem d_BP_glue_54 : decode b_BP_glue 54 = .ok (.iload_n 3, 1) := by decide +kernel
theorem d_BP_glue_55 : decode b_BP_glue 55 = .ok (.invokestatic 68, 3) := by decide +kernel
theorem d_BP_glue_58 : decode b_BP_glue 58 = .ok (.ifCond .eq 11, 3) := by decide +kernel
theorem d_BP_glue_61 : decode b_BP_glue 61 = .ok (.iload 5, 2) := by decide +kernel
theorem d_BP_glue_63 : decode b_BP_glue 63 = .ok (.invokestatic 68, 3) := by decide +kernel
theorem d_BP_glue_66 : decode b_BP_glue 66 = .ok (.ifCond .ne 13, 3) := by decide +kernel
theorem d_BP_glue_69 : decode b_BP_glue 69 = .ok (.new 36, 3) := by decide +kernel
theorem d_BP_glue_72 : decode b_BP_glue 72 = .ok (.dup, 1) := by decide +kernel
theorem d_BP_glue_73 : decode b_BP_glue 73 = .ok (.ldc 71, 2) := by decide +kernel
theorem d_BP_glue_75 : decode b_BP_glue 75 = .ok (.invokespecial 40, 3) := by decide +kernel
theorem d_BP_glue_78 : decode b_BP_glue 78 = .ok (.athrow, 1) := by decide +kernel
theorem d_BP_glue_79 : decode b_BP_glue 79 = .ok (.aload_n 0, 1) := by decide +kernel
theorem d_BP_glue_80 : decode b_BP_glue 80 = .ok (.new 73, 3) := by decide +kernel
theorem d_BP_glue_83 : decode b_BP_glue 83 = .ok (.dup, 1) := by decide +kernel
theorem d_BP_glue_84 : decode b_BP_glue 84 = .ok (.iload_n 1, 1) := by decide +kernel
theorem d_BP_glue_85 : decode b_BP_glue 85 = .ok (.iload_n 2, 1) := by decide +kernel
theorem d_BP_glue_86 : decode b_BP_glue 86 = .ok (.iload_n 3, 1) := by decide +kernel
theorem d_BP_glue_87 : decode b_BP_glue 87 = .ok (.iload 4, 2) := by decide +kernel
theorem d_BP_glue_89 : decode b_BP_glue 89 = .ok (.iload 5, 2) := by decide +kernel
theorem d_BP_glue_91 : decode b_BP_glue 91 = .ok (.invokespecial 75, 3) := by decide +kernel
theorem d_BP_glue_94 : decode b_BP_glue 94 = .ok (.invokevirtual 54, 3) := by decide +kernel
theorem d_BP_glue_97 : decode b_BP_glue 97 = .ok (.ireturn, 1) := by decide +kernel
abbrev b_BP_kern : ByteArray := prog_1_method_5_code
def y_BP_kern : MethodName := ⟨"BoxPacker", "kern", "(I)I"⟩
theorem d_BP_kern_0 : decode b_BP_kern 0 = .ok (.iload_n 1, 1) := by decide +kernel
theorem d_BP_kern_1 : decode b_BP_kern 1 = .ok (.i2l, 1) := by decide +kernel
theorem d_BP_kern_2 : decode b_BP_kern 2 = .ok (.invokestatic 43, 3) := by decide +kernel
theorem d_BP_kern_5 : decode b_BP_kern 5 = .ok (.ifCond .ne 13, 3) := by decide +kernel
theorem d_BP_kern_8 : decode b_BP_kern 8 = .ok (.new 36, 3) := by decide +kernel
theorem d_BP_kern_11 : decode b_BP_kern 11 = .ok (.dup, 1) := by decide +kernel
theorem d_BP_kern_12 : decode b_BP_kern 12 = .ok (.ldc 64, 2) := by decide +kernel
theorem d_BP_kern_14 : decode b_BP_kern 14 = .ok (.invokespecial 40, 3) := by decide +kernel
theorem d_BP_kern_17 : decode b_BP_kern 17 = .ok (.athrow, 1) := by decide +kernel
theorem d_BP_kern_18 : decode b_BP_kern 18 = .ok (.aload_n 0, 1) := by decide +kernel
theorem d_BP_kern_19 : decode b_BP_kern 19 = .ok (.new 73, 3) := by decide +kernel
theorem d_BP_kern_22 : decode b_BP_kern 22 = .ok (.dup, 1) := by decide +kernel
theorem d_BP_kern_23 : decode b_BP_kern 23 = .ok (.iload_n 1, 1) := by decide +kernel
theorem d_BP_kern_24 : decode b_BP_kern 24 = .ok (.iconst 0, 1) := by decide +kernel
theorem d_BP_kern_25 : decode b_BP_kern 25 = .ok (.iconst 0, 1) := by decide +kernel
theorem d_BP_kern_26 : decode b_BP_kern 26 = .ok (.iconst 0, 1) := by decide +kernel
theorem d_BP_kern_27 : decode b_BP_kern 27 = .ok (.iconst 0, 1) := by decide +kernel
theorem d_BP_kern_28 : decode b_BP_kern 28 = .ok (.invokespecial 75, 3) := by decide +kernel
theorem d_BP_kern_31 : decode b_BP_kern 31 = .ok (.invokevirtual 54, 3) := by decide +kernel
theorem d_BP_kern_34 : decode b_BP_kern 34 = .ok (.ireturn, 1) := by decide +kernel
abbrev b_BP_box : ByteArray := prog_1_method_6_code
def y_BP_box : MethodName := ⟨"BoxPacker", "box", "(II)I"⟩
theorem d_BP_box_0 : decode b_BP_box 0 = .ok (.aload_n 0, 1) := by decide +kernel
theorem d_BP_box_1 : decode b_BP_box 1 = .ok (.iload_n 1, 1) := by decide +kernel
theorem d_BP_box_2 : decode b_BP_box 2 = .ok (.invokevirtual 78, 3) := by decide +kernel
theorem d_BP_box_5 : decode b_BP_box 5 = .ok (.astore_n 3, 1) := by decide +kernel
theorem d_BP_box_6 : decode b_BP_box 6 = .ok (.iload_n 2, 1) := by decide +kernel
theorem d_BP_box_7 : decode b_BP_box 7 = .ok (.i2l, 1) := by decide +kernel
theorem d_BP_box_8 : decode b_BP_box 8 = .ok (.invokestatic 43, 3) := by decide +kernel
theorem d_BP_box_11 : decode b_BP_box 11 = .ok (.ifCond .ne 13, 3) := by decide +kernel
theorem d_BP_box_14 : decode b_BP_box 14 = .ok (.new 36, 3) := by decide +kernel
theorem d_BP_box_17 : decode b_BP_box 17 = .ok (.dup, 1) := by decide +kernel
theorem d_BP_box_18 : decode b_BP_box 18 = .ok (.ldc 82, 2) := by decide +kernel
theorem d_BP_box_20 : decode b_BP_box 20 = .ok (.invokespecial 40, 3) := by decide +kernel
theorem d_BP_box_23 : decode b_BP_box 23 = .ok (.athrow, 1) := by decide +kernel
theorem d_BP_box_24 : decode b_BP_box 24 = .ok (.aload_n 0, 1) := by decide +kernel
theorem d_BP_box_25 : decode b_BP_box 25 = .ok (.new 49, 3) := by decide +kernel
theorem d_BP_box_28 : decode b_BP_box 28 = .ok (.dup, 1) := by decide +kernel
theorem d_BP_box_29 : decode b_BP_box 29 = .ok (.iconst (-1), 1) := by decide +kernel
theorem d_BP_box_30 : decode b_BP_box 30 = .ok (.aload_n 3, 1) := by decide +kernel
theorem d_BP_box_31 : decode b_BP_box 31 = .ok (.getfield 84, 3) := by decide +kernel
theorem d_BP_box_34 : decode b_BP_box 34 = .ok (.aload_n 3, 1) := by decide +kernel
theorem d_BP_box_35 : decode b_BP_box 35 = .ok (.getfield 87, 3) := by decide +kernel
theorem d_BP_box_38 : decode b_BP_box 38 = .ok (.aload_n 3, 1) := by decide +kernel
theorem d_BP_box_39 : decode b_BP_box 39 = .ok (.getfield 90, 3) := by decide +kernel
theorem d_BP_box_42 : decode b_BP_box 42 = .ok (.aload_n 3, 1) := by decide +kernel
theorem d_BP_box_43 : decode b_BP_box 43 = .ok (.iload_n 2, 1) := by decide +kernel
theorem d_BP_box_44 : decode b_BP_box 44 = .ok (.invokespecial 51, 3) := by decide +kernel
theorem d_BP_box_47 : decode b_BP_box 47 = .ok (.invokevirtual 54, 3) := by decide +kernel
theorem d_BP_box_50 : decode b_BP_box 50 = .ok (.ireturn, 1) := by decide +kernel
abbrev b_BP_keep : ByteArray := prog_1_method_7_code
def y_BP_keep : MethodName := ⟨"BoxPacker", "keep", "(I)Z"⟩
theorem d_BP_keep_0 : decode b_BP_keep 0 = .ok (.iload_n 1, 1) := by decide +kernel
theorem d_BP_keep_1 : decode b_BP_keep 1 = .ok (.ifCond .lt 11, 3) := by decide +kernel
theorem d_BP_keep_4 : decode b_BP_keep 4 = .ok (.iload_n 1, 1) := by decide +kernel
theorem d_BP_keep_5 : decode b_BP_keep 5 = .ok (.aload_n 0, 1) := by decide +kernel
theorem d_BP_keep_6 : decode b_BP_keep 6 = .ok (.getfield 15, 3) := by decide +kernel
theorem d_BP_keep_9 : decode b_BP_keep 9 = .ok (.if_icmp .le 5, 3) := by decide +kernel
theorem d_BP_keep_12 : decode b_BP_keep 12 = .ok (.iconst 0, 1) := by decide +kernel
theorem d_BP_keep_13 : decode b_BP_keep 13 = .ok (.ireturn, 1) := by decide +kernel
theorem d_BP_keep_14 : decode b_BP_keep 14 = .ok (.aload_n 0, 1) := by decide +kernel
theorem d_BP_keep_15 : decode b_BP_keep 15 = .ok (.iload_n 1, 1) := by decide +kernel
theorem d_BP_keep_16 : decode b_BP_keep 16 = .ok (.putfield 15, 3) := by decide +kernel
theorem d_BP_keep_19 : decode b_BP_keep 19 = .ok (.iconst 1, 1) := by decide +kernel
theorem d_BP_keep_20 : decode b_BP_keep 20 = .ok (.ireturn, 1) := by decide +kernel
abbrev b_BP_items : ByteArray := prog_1_method_8_code
def y_BP_items : MethodName := ⟨"BoxPacker", "items", "()I"⟩
theorem d_BP_items_0 : decode b_BP_items 0 = .ok (.aload_n 0, 1) := by decide +kernel
theorem d_BP_items_1 : decode b_BP_items 1 = .ok (.getfield 15, 3) := by decide +kernel
theorem d_BP_items_4 : decode b_BP_items 4 = .ok (.ireturn, 1) := by decide +kernel
abbrev b_BP_pack : ByteArray := prog_1_method_9_code
def y_BP_pack : MethodName := ⟨"BoxPacker", "pack", "(ZIII)I"⟩
theorem d_BP_pack_0 : decode b_BP_pack 0 = .ok (.iload_n 2, 1) := by decide +kernel
theorem d_BP_pack_1 : decode b_BP_pack 1 = .ok (.ifCond .lt 8, 3) := by decide +kernel
theorem d_BP_pack_4 : decode b_BP_pack 4 = .ok (.iload_n 2, 1) := by decide +kernel
theorem d_BP_pack_5 : decode b_BP_pack 5 = .ok (.iconst 2, 1) := by decide +kernel
theorem d_BP_pack_6 : decode b_BP_pack 6 = .ok (.if_icmp .le 13, 3) := by decide +kernel
theorem d_BP_pack_9 : decode b_BP_pack 9 = .ok (.new 36, 3) := by decide +kernel
theorem d_BP_pack_12 : decode b_BP_pack 12 = .ok (.dup, 1) := by decide +kernel
theorem d_BP_pack_13 : decode b_BP_pack 13 = .ok (.ldc 93, 2) := by decide +kernel
theorem d_BP_pack_15 : decode b_BP_pack 15 = .ok (.invokespecial 40, 3) := by decide +kernel
theorem d_BP_pack_18 : decode b_BP_pack 18 = .ok (.athrow, 1) := by decide +kernel
theorem d_BP_pack_19 : decode b_BP_pack 19 = .ok (.iload_n 3, 1) := by decide +kernel
theorem d_BP_pack_20 : decode b_BP_pack 20 = .ok (.i2l, 1) := by decide +kernel
theorem d_BP_pack_21 : decode b_BP_pack 21 = .ok (.invokestatic 43, 3) := by decide +kernel
theorem d_BP_pack_24 : decode b_BP_pack 24 = .ok (.ifCond .eq 12, 3) := by decide +kernel
theorem d_BP_pack_27 : decode b_BP_pack 27 = .ok (.iload 4, 2) := by decide +kernel
theorem d_BP_pack_29 : decode b_BP_pack 29 = .ok (.i2l, 1) := by decide +kernel
theorem d_BP_pack_30 : decode b_BP_pack 30 = .ok (.invokestatic 43, 3) := by decide +kernel
theorem d_BP_pack_33 : decode b_BP_pack 33 = .ok (.ifCond .ne 13, 3) := by decide +kernel
theorem d_BP_pack_36 : decode b_BP_pack 36 = .ok (.new 36, 3) := by decide +kernel
theorem d_BP_pack_39 : decode b_BP_pack 39 = .ok (.dup, 1) := by decide +kernel
theorem d_BP_pack_40 : decode b_BP_pack 40 = .ok (.ldc 95, 2) := by decide +kernel
theorem d_BP_pack_42 : decode b_BP_pack 42 = .ok (.invokespecial 40, 3) := by decide +kernel
theorem d_BP_pack_45 : decode b_BP_pack 45 = .ok (.athrow, 1) := by decide +kernel
theorem d_BP_pack_46 : decode b_BP_pack 46 = .ok (.aload_n 0, 1) := by decide +kernel
theorem d_BP_pack_47 : decode b_BP_pack 47 = .ok (.getfield 25, 3) := by decide +kernel
theorem d_BP_pack_50 : decode b_BP_pack 50 = .ok (.bipush 100, 2) := by decide +kernel
theorem d_BP_pack_52 : decode b_BP_pack 52 = .ok (.if_icmp .lt 13, 3) := by decide +kernel
theorem d_BP_pack_55 : decode b_BP_pack 55 = .ok (.new 97, 3) := by decide +kernel
theorem d_BP_pack_58 : decode b_BP_pack 58 = .ok (.dup, 1) := by decide +kernel
theorem d_BP_pack_59 : decode b_BP_pack 59 = .ok (.ldc 99, 2) := by decide +kernel
theorem d_BP_pack_61 : decode b_BP_pack 61 = .ok (.invokespecial 101, 3) := by decide +kernel
theorem d_BP_pack_64 : decode b_BP_pack 64 = .ok (.athrow, 1) := by decide +kernel
theorem d_BP_pack_65 : decode b_BP_pack 65 = .ok (.new 19, 3) := by decide +kernel
theorem d_BP_pack_68 : decode b_BP_pack 68 = .ok (.dup, 1) := by decide +kernel
theorem d_BP_pack_69 : decode b_BP_pack 69 = .ok (.iload_n 1, 1) := by decide +kernel
theorem d_BP_pack_70 : decode b_BP_pack 70 = .ok (.aload_n 0, 1) := by decide +kernel
theorem d_BP_pack_71 : decode b_BP_pack 71 = .ok (.getfield 11, 3) := by decide +kernel
theorem d_BP_pack_74 : decode b_BP_pack 74 = .ok (.aload_n 0, 1) := by decide +kernel
theorem d_BP_pack_75 : decode b_BP_pack 75 = .ok (.getfield 15, 3) := by decide +kernel
theorem d_BP_pack_78 : decode b_BP_pack 78 = .ok (.invokespecial 102, 3) := by decide +kernel
theorem d_BP_pack_81 : decode b_BP_pack 81 = .ok (.astore 5, 2) := by decide +kernel
theorem d_BP_pack_83 : decode b_BP_pack 83 = .ok (.aload 5, 2) := by decide +kernel
theorem d_BP_pack_85 : decode b_BP_pack 85 = .ok (.getfield 105, 3) := by decide +kernel
theorem d_BP_pack_88 : decode b_BP_pack 88 = .ok (.bipush 10, 2) := by decide +kernel
theorem d_BP_pack_90 : decode b_BP_pack 90 = .ok (.if_icmp .le 13, 3) := by decide +kernel
theorem d_BP_pack_93 : decode b_BP_pack 93 = .ok (.new 97, 3) := by decide +kernel
theorem d_BP_pack_96 : decode b_BP_pack 96 = .ok (.dup, 1) := by decide +kernel
theorem d_BP_pack_97 : decode b_BP_pack 97 = .ok (.ldc 108, 2) := by decide +kernel
theorem d_BP_pack_99 : decode b_BP_pack 99 = .ok (.invokespecial 101, 3) := by decide +kernel
theorem d_BP_pack_102 : decode b_BP_pack 102 = .ok (.athrow, 1) := by decide +kernel
theorem d_BP_pack_103 : decode b_BP_pack 103 = .ok (.aload 5, 2) := by decide +kernel
theorem d_BP_pack_105 : decode b_BP_pack 105 = .ok (.iload_n 2, 1) := by decide +kernel
theorem d_BP_pack_106 : decode b_BP_pack 106 = .ok (.iload_n 3, 1) := by decide +kernel
theorem d_BP_pack_107 : decode b_BP_pack 107 = .ok (.iload 4, 2) := by decide +kernel
theorem d_BP_pack_109 : decode b_BP_pack 109 = .ok (.invokevirtual 110, 3) := by decide +kernel
theorem d_BP_pack_112 : decode b_BP_pack 112 = .ok (.aload_n 0, 1) := by decide +kernel
theorem d_BP_pack_113 : decode b_BP_pack 113 = .ok (.getfield 25, 3) := by decide +kernel
theorem d_BP_pack_116 : decode b_BP_pack 116 = .ok (.istore 6, 2) := by decide +kernel
theorem d_BP_pack_118 : decode b_BP_pack 118 = .ok (.aload_n 0, 1) := by decide +kernel
theorem d_BP_pack_119 : decode b_BP_pack 119 = .ok (.getfield 21, 3) := by decide +kernel
theorem d_BP_pack_122 : decode b_BP_pack 122 = .ok (.iload 6, 2) := by decide +kernel
theorem d_BP_pack_124 : decode b_BP_pack 124 = .ok (.aload 5, 2) := by decide +kernel
theorem d_BP_pack_126 : decode b_BP_pack 126 = .ok (.aastore, 1) := by decide +kernel
theorem d_BP_pack_127 : decode b_BP_pack 127 = .ok (.aload_n 0, 1) := by decide +kernel
theorem d_BP_pack_128 : decode b_BP_pack 128 = .ok (.dup, 1) := by decide +kernel
theorem d_BP_pack_129 : decode b_BP_pack 129 = .ok (.getfield 25, 3) := by decide +kernel
theorem d_BP_pack_132 : decode b_BP_pack 132 = .ok (.iconst 1, 1) := by decide +kernel
theorem d_BP_pack_133 : decode b_BP_pack 133 = .ok (.iadd, 1) := by decide +kernel
theorem d_BP_pack_134 : decode b_BP_pack 134 = .ok (.putfield 25, 3) := by decide +kernel
theorem d_BP_pack_137 : decode b_BP_pack 137 = .ok (.aload_n 0, 1) := by decide +kernel
theorem d_BP_pack_138 : decode b_BP_pack 138 = .ok (.iconst 0, 1) := by decide +kernel
theorem d_BP_pack_139 : decode b_BP_pack 139 = .ok (.putfield 15, 3) := by decide +kernel
theorem d_BP_pack_142 : decode b_BP_pack 142 = .ok (.iload 6, 2) := by decide +kernel
theorem d_BP_pack_144 : decode b_BP_pack 144 = .ok (.ireturn, 1) := by decide +kernel
abbrev b_BP_boxes : ByteArray := prog_1_method_10_code
def y_BP_boxes : MethodName := ⟨"BoxPacker", "boxes", "()I"⟩
theorem d_BP_boxes_0 : decode b_BP_boxes 0 = .ok (.aload_n 0, 1) := by decide +kernel
theorem d_BP_boxes_1 : decode b_BP_boxes 1 = .ok (.getfield 25, 3) := by decide +kernel
theorem d_BP_boxes_4 : decode b_BP_boxes 4 = .ok (.ireturn, 1) := by decide +kernel
abbrev b_BP_of : ByteArray := prog_1_method_11_code
def y_BP_of : MethodName := ⟨"BoxPacker", "of", "(II)I"⟩
theorem d_BP_of_0 : decode b_BP_of 0 = .ok (.aload_n 0, 1) := by decide +kernel
theorem d_BP_of_1 : decode b_BP_of 1 = .ok (.iload_n 1, 1) := by decide +kernel
theorem d_BP_of_2 : decode b_BP_of 2 = .ok (.invokevirtual 78, 3) := by decide +kernel
theorem d_BP_of_5 : decode b_BP_of 5 = .ok (.astore_n 3, 1) := by decide +kernel
theorem d_BP_of_6 : decode b_BP_of 6 = .ok (.iload_n 2, 1) := by decide +kernel
theorem d_BP_of_7 : decode b_BP_of 7 = .ok (.tableswitch 113 0 10 #[57, 62, 67, 72, 77, 82, 87, 92, 97, 102, 108], 57) := by decide +kernel
theorem d_BP_of_64 : decode b_BP_of 64 = .ok (.aload_n 3, 1) := by decide +kernel
theorem d_BP_of_65 : decode b_BP_of 65 = .ok (.getfield 84, 3) := by decide +kernel
theorem d_BP_of_68 : decode b_BP_of 68 = .ok (.ireturn, 1) := by decide +kernel
theorem d_BP_of_69 : decode b_BP_of 69 = .ok (.aload_n 3, 1) := by decide +kernel
theorem d_BP_of_70 : decode b_BP_of 70 = .ok (.getfield 87, 3) := by decide +kernel
theorem d_BP_of_73 : decode b_BP_of 73 = .ok (.ireturn, 1) := by decide +kernel
theorem d_BP_of_74 : decode b_BP_of 74 = .ok (.aload_n 3, 1) := by decide +kernel
theorem d_BP_of_75 : decode b_BP_of 75 = .ok (.getfield 90, 3) := by decide +kernel
theorem d_BP_of_78 : decode b_BP_of 78 = .ok (.ireturn, 1) := by decide +kernel
theorem d_BP_of_79 : decode b_BP_of 79 = .ok (.aload_n 3, 1) := by decide +kernel
theorem d_BP_of_80 : decode b_BP_of 80 = .ok (.getfield 114, 3) := by decide +kernel
theorem d_BP_of_83 : decode b_BP_of 83 = .ok (.ireturn, 1) := by decide +kernel
theorem d_BP_of_84 : decode b_BP_of 84 = .ok (.aload_n 3, 1) := by decide +kernel
theorem d_BP_of_85 : decode b_BP_of 85 = .ok (.getfield 117, 3) := by decide +kernel
theorem d_BP_of_88 : decode b_BP_of 88 = .ok (.ireturn, 1) := by decide +kernel
theorem d_BP_of_89 : decode b_BP_of 89 = .ok (.aload_n 3, 1) := by decide +kernel
theorem d_BP_of_90 : decode b_BP_of 90 = .ok (.getfield 120, 3) := by decide +kernel
theorem d_BP_of_93 : decode b_BP_of 93 = .ok (.ireturn, 1) := by decide +kernel
theorem d_BP_of_94 : decode b_BP_of 94 = .ok (.aload_n 3, 1) := by decide +kernel
theorem d_BP_of_95 : decode b_BP_of 95 = .ok (.invokevirtual 123, 3) := by decide +kernel
theorem d_BP_of_98 : decode b_BP_of 98 = .ok (.ireturn, 1) := by decide +kernel
theorem d_BP_of_99 : decode b_BP_of 99 = .ok (.aload_n 3, 1) := by decide +kernel
theorem d_BP_of_100 : decode b_BP_of 100 = .ok (.getfield 127, 3) := by decide +kernel
theorem d_BP_of_103 : decode b_BP_of 103 = .ok (.ireturn, 1) := by decide +kernel
theorem d_BP_of_104 : decode b_BP_of 104 = .ok (.aload_n 3, 1) := by decide +kernel
theorem d_BP_of_105 : decode b_BP_of 105 = .ok (.getfield 105, 3) := by decide +kernel
theorem d_BP_of_108 : decode b_BP_of 108 = .ok (.ireturn, 1) := by decide +kernel
theorem d_BP_of_109 : decode b_BP_of 109 = .ok (.aload_n 3, 1) := by decide +kernel
theorem d_BP_of_110 : decode b_BP_of 110 = .ok (.getfield 130, 3) := by decide +kernel
theorem d_BP_of_113 : decode b_BP_of 113 = .ok (.arraylength, 1) := by decide +kernel
theorem d_BP_of_114 : decode b_BP_of 114 = .ok (.ireturn, 1) := by decide +kernel
theorem d_BP_of_115 : decode b_BP_of 115 = .ok (.aload_n 3, 1) := by decide +kernel
theorem d_BP_of_116 : decode b_BP_of 116 = .ok (.getfield 133, 3) := by decide +kernel
theorem d_BP_of_119 : decode b_BP_of 119 = .ok (.ireturn, 1) := by decide +kernel
theorem d_BP_of_120 : decode b_BP_of 120 = .ok (.new 136, 3) := by decide +kernel
theorem d_BP_of_123 : decode b_BP_of 123 = .ok (.dup, 1) := by decide +kernel
theorem d_BP_of_124 : decode b_BP_of 124 = .ok (.ldc 138, 2) := by decide +kernel
theorem d_BP_of_126 : decode b_BP_of 126 = .ok (.invokespecial 140, 3) := by decide +kernel
theorem d_BP_of_129 : decode b_BP_of 129 = .ok (.athrow, 1) := by decide +kernel
abbrev b_BP_place : ByteArray := prog_1_method_12_code
def y_BP_place : MethodName := ⟨"BoxPacker", "place", "(II)I"⟩
theorem d_BP_place_0 : decode b_BP_place 0 = .ok (.aload_n 0, 1) := by decide +kernel
theorem d_BP_place_1 : decode b_BP_place 1 = .ok (.iload_n 1, 1) := by decide +kernel
theorem d_BP_place_2 : decode b_BP_place 2 = .ok (.invokevirtual 78, 3) := by decide +kernel
theorem d_BP_place_5 : decode b_BP_place 5 = .ok (.astore_n 3, 1) := by decide +kernel
theorem d_BP_place_6 : decode b_BP_place 6 = .ok (.iload_n 2, 1) := by decide +kernel
theorem d_BP_place_7 : decode b_BP_place 7 = .ok (.ifCond .lt 12, 3) := by decide +kernel
theorem d_BP_place_10 : decode b_BP_place 10 = .ok (.iload_n 2, 1) := by decide +kernel
theorem d_BP_place_11 : decode b_BP_place 11 = .ok (.aload_n 3, 1) := by decide +kernel
theorem d_BP_place_12 : decode b_BP_place 12 = .ok (.getfield 141, 3) := by decide +kernel
theorem d_BP_place_15 : decode b_BP_place 15 = .ok (.arraylength, 1) := by decide +kernel
theorem d_BP_place_16 : decode b_BP_place 16 = .ok (.if_icmp .lt 13, 3) := by decide +kernel
theorem d_BP_place_19 : decode b_BP_place 19 = .ok (.new 136, 3) := by decide +kernel
theorem d_BP_place_22 : decode b_BP_place 22 = .ok (.dup, 1) := by decide +kernel
theorem d_BP_place_23 : decode b_BP_place 23 = .ok (.ldc 145, 2) := by decide +kernel
theorem d_BP_place_25 : decode b_BP_place 25 = .ok (.invokespecial 140, 3) := by decide +kernel
theorem d_BP_place_28 : decode b_BP_place 28 = .ok (.athrow, 1) := by decide +kernel
theorem d_BP_place_29 : decode b_BP_place 29 = .ok (.aload_n 3, 1) := by decide +kernel
theorem d_BP_place_30 : decode b_BP_place 30 = .ok (.getfield 141, 3) := by decide +kernel
theorem d_BP_place_33 : decode b_BP_place 33 = .ok (.iload_n 2, 1) := by decide +kernel
theorem d_BP_place_34 : decode b_BP_place 34 = .ok (.iaload, 1) := by decide +kernel
theorem d_BP_place_35 : decode b_BP_place 35 = .ok (.ireturn, 1) := by decide +kernel
abbrev b_BP_lay : ByteArray := prog_1_method_13_code
def y_BP_lay : MethodName := ⟨"BoxPacker", "lay", "(III)I"⟩
theorem d_BP_lay_0 : decode b_BP_lay 0 = .ok (.aload_n 0, 1) := by decide +kernel
theorem d_BP_lay_1 : decode b_BP_lay 1 = .ok (.iload_n 1, 1) := by decide +kernel
theorem d_BP_lay_2 : decode b_BP_lay 2 = .ok (.invokevirtual 78, 3) := by decide +kernel
theorem d_BP_lay_5 : decode b_BP_lay 5 = .ok (.astore 4, 2) := by decide +kernel
theorem d_BP_lay_7 : decode b_BP_lay 7 = .ok (.iload_n 2, 1) := by decide +kernel
theorem d_BP_lay_8 : decode b_BP_lay 8 = .ok (.i2l, 1) := by decide +kernel
theorem d_BP_lay_9 : decode b_BP_lay 9 = .ok (.invokestatic 43, 3) := by decide +kernel
theorem d_BP_lay_12 : decode b_BP_lay 12 = .ok (.ifCond .eq 11, 3) := by decide +kernel
theorem d_BP_lay_15 : decode b_BP_lay 15 = .ok (.iload_n 3, 1) := by decide +kernel
theorem d_BP_lay_16 : decode b_BP_lay 16 = .ok (.i2l, 1) := by decide +kernel
theorem d_BP_lay_17 : decode b_BP_lay 17 = .ok (.invokestatic 43, 3) := by decide +kernel
theorem d_BP_lay_20 : decode b_BP_lay 20 = .ok (.ifCond .ne 13, 3) := by decide +kernel
theorem d_BP_lay_23 : decode b_BP_lay 23 = .ok (.new 36, 3) := by decide +kernel
theorem d_BP_lay_26 : decode b_BP_lay 26 = .ok (.dup, 1) := by decide +kernel
theorem d_BP_lay_27 : decode b_BP_lay 27 = .ok (.ldc 147, 2) := by decide +kernel
theorem d_BP_lay_29 : decode b_BP_lay 29 = .ok (.invokespecial 40, 3) := by decide +kernel
theorem d_BP_lay_32 : decode b_BP_lay 32 = .ok (.athrow, 1) := by decide +kernel
theorem d_BP_lay_33 : decode b_BP_lay 33 = .ok (.aload_n 0, 1) := by decide +kernel
theorem d_BP_lay_34 : decode b_BP_lay 34 = .ok (.getfield 31, 3) := by decide +kernel
theorem d_BP_lay_37 : decode b_BP_lay 37 = .ok (.invokevirtual 149, 3) := by decide +kernel
theorem d_BP_lay_40 : decode b_BP_lay 40 = .ok (.aload 4, 2) := by decide +kernel
theorem d_BP_lay_42 : decode b_BP_lay 42 = .ok (.getfield 133, 3) := by decide +kernel
theorem d_BP_lay_45 : decode b_BP_lay 45 = .ok (.sipush 20000, 3) := by decide +kernel
theorem d_BP_lay_48 : decode b_BP_lay 48 = .ok (.if_icmp .gt 16, 3) := by decide +kernel
theorem d_BP_lay_51 : decode b_BP_lay 51 = .ok (.aload_n 0, 1) := by decide +kernel
theorem d_BP_lay_52 : decode b_BP_lay 52 = .ok (.aload 4, 2) := by decide +kernel
theorem d_BP_lay_54 : decode b_BP_lay 54 = .ok (.iload_n 2, 1) := by decide +kernel
theorem d_BP_lay_55 : decode b_BP_lay 55 = .ok (.i2l, 1) := by decide +kernel
theorem d_BP_lay_56 : decode b_BP_lay 56 = .ok (.iload_n 3, 1) := by decide +kernel
theorem d_BP_lay_57 : decode b_BP_lay 57 = .ok (.i2l, 1) := by decide +kernel
theorem d_BP_lay_58 : decode b_BP_lay 58 = .ok (.invokevirtual 152, 3) := by decide +kernel
theorem d_BP_lay_61 : decode b_BP_lay 61 = .ok (.ifCond .ne 12, 3) := by decide +kernel
theorem d_BP_lay_64 : decode b_BP_lay 64 = .ok (.aload_n 0, 1) := by decide +kernel
theorem d_BP_lay_65 : decode b_BP_lay 65 = .ok (.getfield 31, 3) := by decide +kernel
theorem d_BP_lay_68 : decode b_BP_lay 68 = .ok (.invokevirtual 149, 3) := by decide +kernel
theorem d_BP_lay_71 : decode b_BP_lay 71 = .ok (.iconst (-1), 1) := by decide +kernel
theorem d_BP_lay_72 : decode b_BP_lay 72 = .ok (.ireturn, 1) := by decide +kernel
theorem d_BP_lay_73 : decode b_BP_lay 73 = .ok (.aload_n 0, 1) := by decide +kernel
theorem d_BP_lay_74 : decode b_BP_lay 74 = .ok (.getfield 31, 3) := by decide +kernel
theorem d_BP_lay_77 : decode b_BP_lay 77 = .ok (.getfield 156, 3) := by decide +kernel
theorem d_BP_lay_80 : decode b_BP_lay 80 = .ok (.ireturn, 1) := by decide +kernel
abbrev b_BP_mark : ByteArray := prog_1_method_14_code
def y_BP_mark : MethodName := ⟨"BoxPacker", "mark", "(II)J"⟩
theorem d_BP_mark_0 : decode b_BP_mark 0 = .ok (.iload_n 1, 1) := by decide +kernel
theorem d_BP_mark_1 : decode b_BP_mark 1 = .ok (.ifCond .lt 14, 3) := by decide +kernel
theorem d_BP_mark_4 : decode b_BP_mark 4 = .ok (.iload_n 1, 1) := by decide +kernel
theorem d_BP_mark_5 : decode b_BP_mark 5 = .ok (.aload_n 0, 1) := by decide +kernel
theorem d_BP_mark_6 : decode b_BP_mark 6 = .ok (.getfield 31, 3) := by decide +kernel
theorem d_BP_mark_9 : decode b_BP_mark 9 = .ok (.getfield 156, 3) := by decide +kernel
theorem d_BP_mark_12 : decode b_BP_mark 12 = .ok (.if_icmp .lt 13, 3) := by decide +kernel
theorem d_BP_mark_15 : decode b_BP_mark 15 = .ok (.new 136, 3) := by decide +kernel
theorem d_BP_mark_18 : decode b_BP_mark 18 = .ok (.dup, 1) := by decide +kernel
theorem d_BP_mark_19 : decode b_BP_mark 19 = .ok (.ldc 159, 2) := by decide +kernel
theorem d_BP_mark_21 : decode b_BP_mark 21 = .ok (.invokespecial 140, 3) := by decide +kernel
theorem d_BP_mark_24 : decode b_BP_mark 24 = .ok (.athrow, 1) := by decide +kernel
theorem d_BP_mark_25 : decode b_BP_mark 25 = .ok (.iload_n 2, 1) := by decide +kernel
theorem d_BP_mark_26 : decode b_BP_mark 26 = .ok (.ifCond .lt 9, 3) := by decide +kernel
theorem d_BP_mark_29 : decode b_BP_mark 29 = .ok (.iload_n 2, 1) := by decide +kernel
theorem d_BP_mark_30 : decode b_BP_mark 30 = .ok (.bipush 6, 2) := by decide +kernel
theorem d_BP_mark_32 : decode b_BP_mark 32 = .ok (.if_icmp .lt 13, 3) := by decide +kernel
theorem d_BP_mark_35 : decode b_BP_mark 35 = .ok (.new 136, 3) := by decide +kernel
theorem d_BP_mark_38 : decode b_BP_mark 38 = .ok (.dup, 1) := by decide +kernel
theorem d_BP_mark_39 : decode b_BP_mark 39 = .ok (.ldc 161, 2) := by decide +kernel
theorem d_BP_mark_41 : decode b_BP_mark 41 = .ok (.invokespecial 140, 3) := by decide +kernel
theorem d_BP_mark_44 : decode b_BP_mark 44 = .ok (.athrow, 1) := by decide +kernel
theorem d_BP_mark_45 : decode b_BP_mark 45 = .ok (.aload_n 0, 1) := by decide +kernel
theorem d_BP_mark_46 : decode b_BP_mark 46 = .ok (.getfield 31, 3) := by decide +kernel
theorem d_BP_mark_49 : decode b_BP_mark 49 = .ok (.getfield 163, 3) := by decide +kernel
theorem d_BP_mark_52 : decode b_BP_mark 52 = .ok (.iload_n 1, 1) := by decide +kernel
theorem d_BP_mark_53 : decode b_BP_mark 53 = .ok (.bipush 6, 2) := by decide +kernel
theorem d_BP_mark_55 : decode b_BP_mark 55 = .ok (.imul, 1) := by decide +kernel
theorem d_BP_mark_56 : decode b_BP_mark 56 = .ok (.iload_n 2, 1) := by decide +kernel
theorem d_BP_mark_57 : decode b_BP_mark 57 = .ok (.iadd, 1) := by decide +kernel
theorem d_BP_mark_58 : decode b_BP_mark 58 = .ok (.laload, 1) := by decide +kernel
theorem d_BP_mark_59 : decode b_BP_mark 59 = .ok (.lreturn, 1) := by decide +kernel
abbrev b_BP_append : ByteArray := prog_1_method_15_code
def y_BP_append : MethodName := ⟨"BoxPacker", "append", "(LBoxPacker$Item;)I"⟩
theorem d_BP_append_0 : decode b_BP_append 0 = .ok (.aload_n 0, 1) := by decide +kernel
theorem d_BP_append_1 : decode b_BP_append 1 = .ok (.getfield 15, 3) := by decide +kernel
theorem d_BP_append_4 : decode b_BP_append 4 = .ok (.bipush 100, 2) := by decide +kernel
theorem d_BP_append_6 : decode b_BP_append 6 = .ok (.if_icmp .lt 13, 3) := by decide +kernel
theorem d_BP_append_9 : decode b_BP_append 9 = .ok (.new 97, 3) := by decide +kernel
theorem d_BP_append_12 : decode b_BP_append 12 = .ok (.dup, 1) := by decide +kernel
theorem d_BP_append_13 : decode b_BP_append 13 = .ok (.ldc 167, 2) := by decide +kernel
theorem d_BP_append_15 : decode b_BP_append 15 = .ok (.invokespecial 101, 3) := by decide +kernel
theorem d_BP_append_18 : decode b_BP_append 18 = .ok (.athrow, 1) := by decide +kernel
theorem d_BP_append_19 : decode b_BP_append 19 = .ok (.aload_n 0, 1) := by decide +kernel
theorem d_BP_append_20 : decode b_BP_append 20 = .ok (.getfield 15, 3) := by decide +kernel
theorem d_BP_append_23 : decode b_BP_append 23 = .ok (.istore_n 2, 1) := by decide +kernel
theorem d_BP_append_24 : decode b_BP_append 24 = .ok (.aload_n 0, 1) := by decide +kernel
theorem d_BP_append_25 : decode b_BP_append 25 = .ok (.getfield 11, 3) := by decide +kernel
theorem d_BP_append_28 : decode b_BP_append 28 = .ok (.iload_n 2, 1) := by decide +kernel
theorem d_BP_append_29 : decode b_BP_append 29 = .ok (.aload_n 1, 1) := by decide +kernel
theorem d_BP_append_30 : decode b_BP_append 30 = .ok (.aastore, 1) := by decide +kernel
theorem d_BP_append_31 : decode b_BP_append 31 = .ok (.aload_n 0, 1) := by decide +kernel
theorem d_BP_append_32 : decode b_BP_append 32 = .ok (.dup, 1) := by decide +kernel
theorem d_BP_append_33 : decode b_BP_append 33 = .ok (.getfield 15, 3) := by decide +kernel
theorem d_BP_append_36 : decode b_BP_append 36 = .ok (.iconst 1, 1) := by decide +kernel
theorem d_BP_append_37 : decode b_BP_append 37 = .ok (.iadd, 1) := by decide +kernel
theorem d_BP_append_38 : decode b_BP_append 38 = .ok (.putfield 15, 3) := by decide +kernel
theorem d_BP_append_41 : decode b_BP_append 41 = .ok (.iload_n 2, 1) := by decide +kernel
theorem d_BP_append_42 : decode b_BP_append 42 = .ok (.ireturn, 1) := by decide +kernel
abbrev b_BP_boxNumbered : ByteArray := prog_1_method_16_code
def y_BP_boxNumbered : MethodName := ⟨"BoxPacker", "boxNumbered", "(I)LBoxPacker$Box;"⟩
theorem d_BP_boxNumbered_0 : decode b_BP_boxNumbered 0 = .ok (.iload_n 1, 1) := by decide +kernel
theorem d_BP_boxNumbered_1 : decode b_BP_boxNumbered 1 = .ok (.ifCond .lt 11, 3) := by decide +kernel
theorem d_BP_boxNumbered_4 : decode b_BP_boxNumbered 4 = .ok (.iload_n 1, 1) := by decide +kernel
theorem d_BP_boxNumbered_5 : decode b_BP_boxNumbered 5 = .ok (.aload_n 0, 1) := by decide +kernel
theorem d_BP_boxNumbered_6 : decode b_BP_boxNumbered 6 = .ok (.getfield 25, 3) := by decide +kernel
theorem d_BP_boxNumbered_9 : decode b_BP_boxNumbered 9 = .ok (.if_icmp .lt 13, 3) := by decide +kernel
theorem d_BP_boxNumbered_12 : decode b_BP_boxNumbered 12 = .ok (.new 136, 3) := by decide +kernel
theorem d_BP_boxNumbered_15 : decode b_BP_boxNumbered 15 = .ok (.dup, 1) := by decide +kernel
theorem d_BP_boxNumbered_16 : decode b_BP_boxNumbered 16 = .ok (.ldc 169, 2) := by decide +kernel
theorem d_BP_boxNumbered_18 : decode b_BP_boxNumbered 18 = .ok (.invokespecial 140, 3) := by decide +kernel
theorem d_BP_boxNumbered_21 : decode b_BP_boxNumbered 21 = .ok (.athrow, 1) := by decide +kernel
theorem d_BP_boxNumbered_22 : decode b_BP_boxNumbered 22 = .ok (.aload_n 0, 1) := by decide +kernel
theorem d_BP_boxNumbered_23 : decode b_BP_boxNumbered 23 = .ok (.getfield 21, 3) := by decide +kernel
theorem d_BP_boxNumbered_26 : decode b_BP_boxNumbered 26 = .ok (.iload_n 1, 1) := by decide +kernel
theorem d_BP_boxNumbered_27 : decode b_BP_boxNumbered 27 = .ok (.aaload, 1) := by decide +kernel
theorem d_BP_boxNumbered_28 : decode b_BP_boxNumbered 28 = .ok (.areturn, 1) := by decide +kernel
abbrev b_BP_layOut : ByteArray := prog_1_method_17_code
def y_BP_layOut : MethodName := ⟨"BoxPacker", "layOut", "(LBoxPacker$Box;JJ)Z"⟩
theorem d_BP_layOut_0 : decode b_BP_layOut 0 = .ok (.iconst 0, 1) := by decide +kernel
theorem d_BP_layOut_1 : decode b_BP_layOut 1 = .ok (.istore 6, 2) := by decide +kernel
theorem d_BP_layOut_3 : decode b_BP_layOut 3 = .ok (.iload 6, 2) := by decide +kernel
theorem d_BP_layOut_5 : decode b_BP_layOut 5 = .ok (.aload_n 1, 1) := by decide +kernel
theorem d_BP_layOut_6 : decode b_BP_layOut 6 = .ok (.getfield 130, 3) := by decide +kernel
theorem d_BP_layOut_9 : decode b_BP_layOut 9 = .ok (.arraylength, 1) := by decide +kernel
theorem d_BP_layOut_10 : decode b_BP_layOut 10 = .ok (.if_icmp .ge 55, 3) := by decide +kernel
theorem d_BP_layOut_13 : decode b_BP_layOut 13 = .ok (.aload_n 1, 1) := by decide +kernel
theorem d_BP_layOut_14 : decode b_BP_layOut 14 = .ok (.getfield 130, 3) := by decide +kernel
theorem d_BP_layOut_17 : decode b_BP_layOut 17 = .ok (.iload 6, 2) := by decide +kernel
theorem d_BP_layOut_19 : decode b_BP_layOut 19 = .ok (.aaload, 1) := by decide +kernel
theorem d_BP_layOut_20 : decode b_BP_layOut 20 = .ok (.astore 8, 2) := by decide +kernel
theorem d_BP_layOut_22 : decode b_BP_layOut 22 = .ok (.aload 8, 2) := by decide +kernel
theorem d_BP_layOut_24 : decode b_BP_layOut 24 = .ok (.instanceof 49, 3) := by decide +kernel
theorem d_BP_layOut_27 : decode b_BP_layOut 27 = .ok (.ifCond .eq 32, 3) := by decide +kernel
theorem d_BP_layOut_30 : decode b_BP_layOut 30 = .ok (.aload 8, 2) := by decide +kernel
theorem d_BP_layOut_32 : decode b_BP_layOut 32 = .ok (.checkcast 49, 3) := by decide +kernel
theorem d_BP_layOut_35 : decode b_BP_layOut 35 = .ok (.astore 7, 2) := by decide +kernel
theorem d_BP_layOut_37 : decode b_BP_layOut 37 = .ok (.aload_n 0, 1) := by decide +kernel
theorem d_BP_layOut_38 : decode b_BP_layOut 38 = .ok (.aload_n 1, 1) := by decide +kernel
theorem d_BP_layOut_39 : decode b_BP_layOut 39 = .ok (.aload 7, 2) := by decide +kernel
theorem d_BP_layOut_41 : decode b_BP_layOut 41 = .ok (.aload_n 1, 1) := by decide +kernel
theorem d_BP_layOut_42 : decode b_BP_layOut 42 = .ok (.getfield 141, 3) := by decide +kernel
theorem d_BP_layOut_45 : decode b_BP_layOut 45 = .ok (.iload 6, 2) := by decide +kernel
theorem d_BP_layOut_47 : decode b_BP_layOut 47 = .ok (.iaload, 1) := by decide +kernel
theorem d_BP_layOut_48 : decode b_BP_layOut 48 = .ok (.lload_n 2, 1) := by decide +kernel
theorem d_BP_layOut_49 : decode b_BP_layOut 49 = .ok (.lload 4, 2) := by decide +kernel
theorem d_BP_layOut_51 : decode b_BP_layOut 51 = .ok (.invokevirtual 171, 3) := by decide +kernel
theorem d_BP_layOut_54 : decode b_BP_layOut 54 = .ok (.ifCond .ne 5, 3) := by decide +kernel
theorem d_BP_layOut_57 : decode b_BP_layOut 57 = .ok (.iconst 0, 1) := by decide +kernel
theorem d_BP_layOut_58 : decode b_BP_layOut 58 = .ok (.ireturn, 1) := by decide +kernel
theorem d_BP_layOut_59 : decode b_BP_layOut 59 = .ok (.iinc 6 1, 3) := by decide +kernel
theorem d_BP_layOut_62 : decode b_BP_layOut 62 = .ok (.goto (-59), 3) := by decide +kernel
theorem d_BP_layOut_65 : decode b_BP_layOut 65 = .ok (.iconst 1, 1) := by decide +kernel
theorem d_BP_layOut_66 : decode b_BP_layOut 66 = .ok (.ireturn, 1) := by decide +kernel
abbrev b_BP_layOutItem : ByteArray := prog_1_method_18_code
def y_BP_layOutItem : MethodName := ⟨"BoxPacker", "layOutItem", "(LBoxPacker$Box;LBoxPacker$Solid;IJJ)Z"⟩
theorem d_BP_layOutItem_0 : decode b_BP_layOutItem 0 = .ok (.aload_n 1, 1) := by decide +kernel
theorem d_BP_layOutItem_1 : decode b_BP_layOutItem 1 = .ok (.getfield 175, 3) := by decide +kernel
theorem d_BP_layOutItem_4 : decode b_BP_layOutItem 4 = .ok (.ifCond .eq 14, 3) := by decide +kernel
theorem d_BP_layOutItem_7 : decode b_BP_layOutItem 7 = .ok (.lload 4, 2) := by decide +kernel
theorem d_BP_layOutItem_9 : decode b_BP_layOutItem 9 = .ok (.aload_n 2, 1) := by decide +kernel
theorem d_BP_layOutItem_10 : decode b_BP_layOutItem 10 = .ok (.getfield 179, 3) := by decide +kernel
theorem d_BP_layOutItem_13 : decode b_BP_layOutItem 13 = .ok (.i2l, 1) := by decide +kernel
theorem d_BP_layOutItem_14 : decode b_BP_layOutItem 14 = .ok (.ladd, 1) := by decide +kernel
theorem d_BP_layOutItem_15 : decode b_BP_layOutItem 15 = .ok (.goto 8, 3) := by decide +kernel
theorem d_BP_layOutItem_18 : decode b_BP_layOutItem 18 = .ok (.lload 4, 2) := by decide +kernel
theorem d_BP_layOutItem_20 : decode b_BP_layOutItem 20 = .ok (.iload_n 3, 1) := by decide +kernel
theorem d_BP_layOutItem_21 : decode b_BP_layOutItem 21 = .ok (.i2l, 1) := by decide +kernel
theorem d_BP_layOutItem_22 : decode b_BP_layOutItem 22 = .ok (.ladd, 1) := by decide +kernel
theorem d_BP_layOutItem_23 : decode b_BP_layOutItem 23 = .ok (.lstore 8, 2) := by decide +kernel
theorem d_BP_layOutItem_25 : decode b_BP_layOutItem 25 = .ok (.aload_n 1, 1) := by decide +kernel
theorem d_BP_layOutItem_26 : decode b_BP_layOutItem 26 = .ok (.getfield 175, 3) := by decide +kernel
theorem d_BP_layOutItem_29 : decode b_BP_layOutItem 29 = .ok (.ifCond .eq 26, 3) := by decide +kernel
theorem d_BP_layOutItem_32 : decode b_BP_layOutItem 32 = .ok (.lload 6, 2) := by decide +kernel
theorem d_BP_layOutItem_34 : decode b_BP_layOutItem 34 = .ok (.aload_n 1, 1) := by decide +kernel
theorem d_BP_layOutItem_35 : decode b_BP_layOutItem 35 = .ok (.getfield 87, 3) := by decide +kernel
theorem d_BP_layOutItem_38 : decode b_BP_layOutItem 38 = .ok (.i2l, 1) := by decide +kernel
theorem d_BP_layOutItem_39 : decode b_BP_layOutItem 39 = .ok (.lsub, 1) := by decide +kernel
theorem d_BP_layOutItem_40 : decode b_BP_layOutItem 40 = .ok (.iload_n 3, 1) := by decide +kernel
theorem d_BP_layOutItem_41 : decode b_BP_layOutItem 41 = .ok (.i2l, 1) := by decide +kernel
theorem d_BP_layOutItem_42 : decode b_BP_layOutItem 42 = .ok (.ladd, 1) := by decide +kernel
theorem d_BP_layOutItem_43 : decode b_BP_layOutItem 43 = .ok (.aload_n 2, 1) := by decide +kernel
theorem d_BP_layOutItem_44 : decode b_BP_layOutItem 44 = .ok (.getfield 182, 3) := by decide +kernel
theorem d_BP_layOutItem_47 : decode b_BP_layOutItem 47 = .ok (.invokestatic 183, 3) := by decide +kernel
theorem d_BP_layOutItem_50 : decode b_BP_layOutItem 50 = .ok (.i2l, 1) := by decide +kernel
theorem d_BP_layOutItem_51 : decode b_BP_layOutItem 51 = .ok (.ladd, 1) := by decide +kernel
theorem d_BP_layOutItem_52 : decode b_BP_layOutItem 52 = .ok (.goto 11, 3) := by decide +kernel
theorem d_BP_layOutItem_55 : decode b_BP_layOutItem 55 = .ok (.lload 6, 2) := by decide +kernel
theorem d_BP_layOutItem_57 : decode b_BP_layOutItem 57 = .ok (.aload_n 2, 1) := by decide +kernel
theorem d_BP_layOutItem_58 : decode b_BP_layOutItem 58 = .ok (.getfield 179, 3) := by decide +kernel
theorem d_BP_layOutItem_61 : decode b_BP_layOutItem 61 = .ok (.i2l, 1) := by decide +kernel
theorem d_BP_layOutItem_62 : decode b_BP_layOutItem 62 = .ok (.ladd, 1) := by decide +kernel
theorem d_BP_layOutItem_63 : decode b_BP_layOutItem 63 = .ok (.lstore 10, 2) := by decide +kernel
theorem d_BP_layOutItem_65 : decode b_BP_layOutItem 65 = .ok (.aload_n 2, 1) := by decide +kernel
theorem d_BP_layOutItem_66 : decode b_BP_layOutItem 66 = .ok (.getfield 187, 3) := by decide +kernel
theorem d_BP_layOutItem_69 : decode b_BP_layOutItem 69 = .ok (.ifnull 16, 3) := by decide +kernel
theorem d_BP_layOutItem_72 : decode b_BP_layOutItem 72 = .ok (.aload_n 0, 1) := by decide +kernel
theorem d_BP_layOutItem_73 : decode b_BP_layOutItem 73 = .ok (.aload_n 2, 1) := by decide +kernel
theorem d_BP_layOutItem_74 : decode b_BP_layOutItem 74 = .ok (.getfield 187, 3) := by decide +kernel
theorem d_BP_layOutItem_77 : decode b_BP_layOutItem 77 = .ok (.lload 8, 2) := by decide +kernel
theorem d_BP_layOutItem_79 : decode b_BP_layOutItem 79 = .ok (.lload 10, 2) := by decide +kernel
theorem d_BP_layOutItem_81 : decode b_BP_layOutItem 81 = .ok (.invokevirtual 152, 3) := by decide +kernel
theorem d_BP_layOutItem_84 : decode b_BP_layOutItem 84 = .ok (.ireturn, 1) := by decide +kernel
theorem d_BP_layOutItem_85 : decode b_BP_layOutItem 85 = .ok (.aload_n 2, 1) := by decide +kernel
theorem d_BP_layOutItem_86 : decode b_BP_layOutItem 86 = .ok (.getfield 191, 3) := by decide +kernel
theorem d_BP_layOutItem_89 : decode b_BP_layOutItem 89 = .ok (.aload_n 1, 1) := by decide +kernel
theorem d_BP_layOutItem_90 : decode b_BP_layOutItem 90 = .ok (.getfield 175, 3) := by decide +kernel
theorem d_BP_layOutItem_93 : decode b_BP_layOutItem 93 = .ok (.ifCond .eq 10, 3) := by decide +kernel
theorem d_BP_layOutItem_96 : decode b_BP_layOutItem 96 = .ok (.aload_n 1, 1) := by decide +kernel
theorem d_BP_layOutItem_97 : decode b_BP_layOutItem 97 = .ok (.getfield 84, 3) := by decide +kernel
theorem d_BP_layOutItem_100 : decode b_BP_layOutItem 100 = .ok (.goto 4, 3) := by decide +kernel
theorem d_BP_layOutItem_103 : decode b_BP_layOutItem 103 = .ok (.iconst 0, 1) := by decide +kernel
theorem d_BP_layOutItem_104 : decode b_BP_layOutItem 104 = .ok (.invokestatic 192, 3) := by decide +kernel
theorem d_BP_layOutItem_107 : decode b_BP_layOutItem 107 = .ok (.istore 12, 2) := by decide +kernel
theorem d_BP_layOutItem_109 : decode b_BP_layOutItem 109 = .ok (.aload_n 2, 1) := by decide +kernel
theorem d_BP_layOutItem_110 : decode b_BP_layOutItem 110 = .ok (.getfield 182, 3) := by decide +kernel
theorem d_BP_layOutItem_113 : decode b_BP_layOutItem 113 = .ok (.aload_n 1, 1) := by decide +kernel
theorem d_BP_layOutItem_114 : decode b_BP_layOutItem 114 = .ok (.getfield 175, 3) := by decide +kernel
theorem d_BP_layOutItem_117 : decode b_BP_layOutItem 117 = .ok (.ifCond .eq 7, 3) := by decide +kernel
theorem d_BP_layOutItem_120 : decode b_BP_layOutItem 120 = .ok (.iconst 0, 1) := by decide +kernel
theorem d_BP_layOutItem_121 : decode b_BP_layOutItem 121 = .ok (.goto 7, 3) := by decide +kernel
theorem d_BP_layOutItem_124 : decode b_BP_layOutItem 124 = .ok (.aload_n 1, 1) := by decide +kernel
theorem d_BP_layOutItem_125 : decode b_BP_layOutItem 125 = .ok (.getfield 87, 3) := by decide +kernel
theorem d_BP_layOutItem_128 : decode b_BP_layOutItem 128 = .ok (.invokestatic 192, 3) := by decide +kernel
theorem d_BP_layOutItem_131 : decode b_BP_layOutItem 131 = .ok (.istore 13, 2) := by decide +kernel
theorem d_BP_layOutItem_133 : decode b_BP_layOutItem 133 = .ok (.aload_n 2, 1) := by decide +kernel
theorem d_BP_layOutItem_134 : decode b_BP_layOutItem 134 = .ok (.getfield 195, 3) := by decide +kernel
theorem d_BP_layOutItem_137 : decode b_BP_layOutItem 137 = .ok (.aload_n 1, 1) := by decide +kernel
theorem d_BP_layOutItem_138 : decode b_BP_layOutItem 138 = .ok (.getfield 175, 3) := by decide +kernel
theorem d_BP_layOutItem_141 : decode b_BP_layOutItem 141 = .ok (.ifCond .eq 7, 3) := by decide +kernel
theorem d_BP_layOutItem_144 : decode b_BP_layOutItem 144 = .ok (.iconst 0, 1) := by decide +kernel
theorem d_BP_layOutItem_145 : decode b_BP_layOutItem 145 = .ok (.goto 7, 3) := by decide +kernel
theorem d_BP_layOutItem_148 : decode b_BP_layOutItem 148 = .ok (.aload_n 1, 1) := by decide +kernel
theorem d_BP_layOutItem_149 : decode b_BP_layOutItem 149 = .ok (.getfield 90, 3) := by decide +kernel
theorem d_BP_layOutItem_152 : decode b_BP_layOutItem 152 = .ok (.invokestatic 192, 3) := by decide +kernel
theorem d_BP_layOutItem_155 : decode b_BP_layOutItem 155 = .ok (.istore 14, 2) := by decide +kernel
theorem d_BP_layOutItem_157 : decode b_BP_layOutItem 157 = .ok (.aload_n 2, 1) := by decide +kernel
theorem d_BP_layOutItem_158 : decode b_BP_layOutItem 158 = .ok (.getfield 196, 3) := by decide +kernel
theorem d_BP_layOutItem_161 : decode b_BP_layOutItem 161 = .ok (.iconst (-1), 1) := by decide +kernel
theorem d_BP_layOutItem_162 : decode b_BP_layOutItem 162 = .ok (.if_icmp .eq 7, 3) := by decide +kernel
theorem d_BP_layOutItem_165 : decode b_BP_layOutItem 165 = .ok (.iconst 1, 1) := by decide +kernel
theorem d_BP_layOutItem_166 : decode b_BP_layOutItem 166 = .ok (.goto 4, 3) := by decide +kernel
theorem d_BP_layOutItem_169 : decode b_BP_layOutItem 169 = .ok (.iconst 0, 1) := by decide +kernel
theorem d_BP_layOutItem_170 : decode b_BP_layOutItem 170 = .ok (.istore 15, 2) := by decide +kernel
theorem d_BP_layOutItem_172 : decode b_BP_layOutItem 172 = .ok (.iload 15, 2) := by decide +kernel
theorem d_BP_layOutItem_174 : decode b_BP_layOutItem 174 = .ok (.ifCond .ne 16, 3) := by decide +kernel
theorem d_BP_layOutItem_177 : decode b_BP_layOutItem 177 = .ok (.iload 12, 2) := by decide +kernel
theorem d_BP_layOutItem_179 : decode b_BP_layOutItem 179 = .ok (.ifCond .le 33, 3) := by decide +kernel
theorem d_BP_layOutItem_182 : decode b_BP_layOutItem 182 = .ok (.iload 13, 2) := by decide +kernel
theorem d_BP_layOutItem_184 : decode b_BP_layOutItem 184 = .ok (.iload 14, 2) := by decide +kernel
theorem d_BP_layOutItem_186 : decode b_BP_layOutItem 186 = .ok (.iadd, 1) := by decide +kernel
theorem d_BP_layOutItem_187 : decode b_BP_layOutItem 187 = .ok (.ifCond .le 25, 3) := by decide +kernel
theorem d_BP_layOutItem_190 : decode b_BP_layOutItem 190 = .ok (.aload_n 0, 1) := by decide +kernel
theorem d_BP_layOutItem_191 : decode b_BP_layOutItem 191 = .ok (.getfield 31, 3) := by decide +kernel
theorem d_BP_layOutItem_194 : decode b_BP_layOutItem 194 = .ok (.aload_n 2, 1) := by decide +kernel
theorem d_BP_layOutItem_195 : decode b_BP_layOutItem 195 = .ok (.getfield 196, 3) := by decide +kernel
theorem d_BP_layOutItem_198 : decode b_BP_layOutItem 198 = .ok (.lload 8, 2) := by decide +kernel
theorem d_BP_layOutItem_200 : decode b_BP_layOutItem 200 = .ok (.lload 10, 2) := by decide +kernel
theorem d_BP_layOutItem_202 : decode b_BP_layOutItem 202 = .ok (.iload 12, 2) := by decide +kernel
theorem d_BP_layOutItem_204 : decode b_BP_layOutItem 204 = .ok (.iload 13, 2) := by decide +kernel
theorem d_BP_layOutItem_206 : decode b_BP_layOutItem 206 = .ok (.iload 14, 2) := by decide +kernel
theorem d_BP_layOutItem_208 : decode b_BP_layOutItem 208 = .ok (.invokevirtual 199, 3) := by decide +kernel
theorem d_BP_layOutItem_211 : decode b_BP_layOutItem 211 = .ok (.ireturn, 1) := by decide +kernel
theorem d_BP_layOutItem_212 : decode b_BP_layOutItem 212 = .ok (.iconst 1, 1) := by decide +kernel
theorem d_BP_layOutItem_213 : decode b_BP_layOutItem 213 = .ok (.ireturn, 1) := by decide +kernel
abbrev b_BP_isSize : ByteArray := prog_1_method_19_code
def y_BP_isSize : MethodName := ⟨"BoxPacker", "isSize", "(J)Z"⟩
theorem d_BP_isSize_0 : decode b_BP_isSize 0 = .ok (.lload_n 0, 1) := by decide +kernel
theorem d_BP_isSize_1 : decode b_BP_isSize 1 = .ok (.ldc2_w 203, 3) := by decide +kernel
theorem d_BP_isSize_4 : decode b_BP_isSize 4 = .ok (.lcmp, 1) := by decide +kernel
theorem d_BP_isSize_5 : decode b_BP_isSize 5 = .ok (.ifCond .lt 15, 3) := by decide +kernel
theorem d_BP_isSize_8 : decode b_BP_isSize 8 = .ok (.lload_n 0, 1) := by decide +kernel
theorem d_BP_isSize_9 : decode b_BP_isSize 9 = .ok (.ldc2_w 205, 3) := by decide +kernel
theorem d_BP_isSize_12 : decode b_BP_isSize 12 = .ok (.lcmp, 1) := by decide +kernel
theorem d_BP_isSize_13 : decode b_BP_isSize 13 = .ok (.ifCond .gt 7, 3) := by decide +kernel
theorem d_BP_isSize_16 : decode b_BP_isSize 16 = .ok (.iconst 1, 1) := by decide +kernel
theorem d_BP_isSize_17 : decode b_BP_isSize 17 = .ok (.goto 4, 3) := by decide +kernel
theorem d_BP_isSize_20 : decode b_BP_isSize 20 = .ok (.iconst 0, 1) := by decide +kernel
theorem d_BP_isSize_21 : decode b_BP_isSize 21 = .ok (.ireturn, 1) := by decide +kernel
abbrev b_BP_isSizeOrRunning : ByteArray := prog_1_method_20_code
def y_BP_isSizeOrRunning : MethodName := ⟨"BoxPacker", "isSizeOrRunning", "(I)Z"⟩
theorem d_BP_isSizeOrRunning_0 : decode b_BP_isSizeOrRunning 0 = .ok (.iload_n 0, 1) := by decide +kernel
theorem d_BP_isSizeOrRunning_1 : decode b_BP_isSizeOrRunning 1 = .ok (.ldc 207, 2) := by decide +kernel
theorem d_BP_isSizeOrRunning_3 : decode b_BP_isSizeOrRunning 3 = .ok (.if_icmp .eq 11, 3) := by decide +kernel
theorem d_BP_isSizeOrRunning_6 : decode b_BP_isSizeOrRunning 6 = .ok (.iload_n 0, 1) := by decide +kernel
theorem d_BP_isSizeOrRunning_7 : decode b_BP_isSizeOrRunning 7 = .ok (.i2l, 1) := by decide +kernel
theorem d_BP_isSizeOrRunning_8 : decode b_BP_isSizeOrRunning 8 = .ok (.invokestatic 43, 3) := by decide +kernel
theorem d_BP_isSizeOrRunning_11 : decode b_BP_isSizeOrRunning 11 = .ok (.ifCond .eq 7, 3) := by decide +kernel
theorem d_BP_isSizeOrRunning_14 : decode b_BP_isSizeOrRunning 14 = .ok (.iconst 1, 1) := by decide +kernel
theorem d_BP_isSizeOrRunning_15 : decode b_BP_isSizeOrRunning 15 = .ok (.goto 4, 3) := by decide +kernel
theorem d_BP_isSizeOrRunning_18 : decode b_BP_isSizeOrRunning 18 = .ok (.iconst 0, 1) := by decide +kernel
theorem d_BP_isSizeOrRunning_19 : decode b_BP_isSizeOrRunning 19 = .ok (.ireturn, 1) := by decide +kernel
abbrev b_BP_isOrder : ByteArray := prog_1_method_21_code
def y_BP_isOrder : MethodName := ⟨"BoxPacker", "isOrder", "(I)Z"⟩
theorem d_BP_isOrder_0 : decode b_BP_isOrder 0 = .ok (.iload_n 0, 1) := by decide +kernel
theorem d_BP_isOrder_1 : decode b_BP_isOrder 1 = .ok (.ifCond .lt 12, 3) := by decide +kernel
theorem d_BP_isOrder_4 : decode b_BP_isOrder 4 = .ok (.iload_n 0, 1) := by decide +kernel
theorem d_BP_isOrder_5 : decode b_BP_isOrder 5 = .ok (.iconst 4, 1) := by decide +kernel
theorem d_BP_isOrder_6 : decode b_BP_isOrder 6 = .ok (.if_icmp .ge 7, 3) := by decide +kernel
theorem d_BP_isOrder_9 : decode b_BP_isOrder 9 = .ok (.iconst 1, 1) := by decide +kernel
theorem d_BP_isOrder_10 : decode b_BP_isOrder 10 = .ok (.goto 4, 3) := by decide +kernel
theorem d_BP_isOrder_13 : decode b_BP_isOrder 13 = .ok (.iconst 0, 1) := by decide +kernel
theorem d_BP_isOrder_14 : decode b_BP_isOrder 14 = .ok (.ireturn, 1) := by decide +kernel
abbrev b_BP_known2 : ByteArray := prog_1_method_22_code
def y_BP_known2 : MethodName := ⟨"BoxPacker", "known", "(II)I"⟩
theorem d_BP_known2_0 : decode b_BP_known2 0 = .ok (.iload_n 0, 1) := by decide +kernel
theorem d_BP_known2_1 : decode b_BP_known2 1 = .ok (.ldc 207, 2) := by decide +kernel
theorem d_BP_known2_3 : decode b_BP_known2 3 = .ok (.if_icmp .ne 7, 3) := by decide +kernel
theorem d_BP_known2_6 : decode b_BP_known2 6 = .ok (.iload_n 1, 1) := by decide +kernel
theorem d_BP_known2_7 : decode b_BP_known2 7 = .ok (.goto 4, 3) := by decide +kernel
theorem d_BP_known2_10 : decode b_BP_known2 10 = .ok (.iload_n 0, 1) := by decide +kernel
theorem d_BP_known2_11 : decode b_BP_known2 11 = .ok (.ireturn, 1) := by decide +kernel
abbrev b_BP_known1 : ByteArray := prog_1_method_23_code
def y_BP_known1 : MethodName := ⟨"BoxPacker", "known", "(I)I"⟩
theorem d_BP_known1_0 : decode b_BP_known1 0 = .ok (.iload_n 0, 1) := by decide +kernel
theorem d_BP_known1_1 : decode b_BP_known1 1 = .ok (.iconst 0, 1) := by decide +kernel
theorem d_BP_known1_2 : decode b_BP_known1 2 = .ok (.invokestatic 192, 3) := by decide +kernel
theorem d_BP_known1_5 : decode b_BP_known1 5 = .ok (.ireturn, 1) := by decide +kernel
abbrev b_BP_sum : ByteArray := prog_1_method_24_code
def y_BP_sum : MethodName := ⟨"BoxPacker", "sum", "(JJ)I"⟩
theorem d_BP_sum_0 : decode b_BP_sum 0 = .ok (.lload_n 0, 1) := by decide +kernel
theorem d_BP_sum_1 : decode b_BP_sum 1 = .ok (.lload_n 2, 1) := by decide +kernel
theorem d_BP_sum_2 : decode b_BP_sum 2 = .ok (.ladd, 1) := by decide +kernel
theorem d_BP_sum_3 : decode b_BP_sum 3 = .ok (.lstore 4, 2) := by decide +kernel
theorem d_BP_sum_5 : decode b_BP_sum 5 = .ok (.lload 4, 2) := by decide +kernel
theorem d_BP_sum_7 : decode b_BP_sum 7 = .ok (.invokestatic 43, 3) := by decide +kernel
theorem d_BP_sum_10 : decode b_BP_sum 10 = .ok (.ifCond .ne 13, 3) := by decide +kernel
theorem d_BP_sum_13 : decode b_BP_sum 13 = .ok (.new 208, 3) := by decide +kernel
theorem d_BP_sum_16 : decode b_BP_sum 16 = .ok (.dup, 1) := by decide +kernel
theorem d_BP_sum_17 : decode b_BP_sum 17 = .ok (.ldc 210, 2) := by decide +kernel
theorem d_BP_sum_19 : decode b_BP_sum 19 = .ok (.invokespecial 212, 3) := by decide +kernel
theorem d_BP_sum_22 : decode b_BP_sum 22 = .ok (.athrow, 1) := by decide +kernel
theorem d_BP_sum_23 : decode b_BP_sum 23 = .ok (.lload 4, 2) := by decide +kernel
theorem d_BP_sum_25 : decode b_BP_sum 25 = .ok (.l2i, 1) := by decide +kernel
theorem d_BP_sum_26 : decode b_BP_sum 26 = .ok (.ireturn, 1) := by decide +kernel
abbrev b_BP_share : ByteArray := prog_1_method_25_code
def y_BP_share : MethodName := ⟨"BoxPacker", "share", "(JJI)I"⟩
theorem d_BP_share_0 : decode b_BP_share 0 = .ok (.iload 4, 2) := by decide +kernel
theorem d_BP_share_2 : decode b_BP_share 2 = .ok (.ifCond .ne 5, 3) := by decide +kernel
theorem d_BP_share_5 : decode b_BP_share 5 = .ok (.iconst 0, 1) := by decide +kernel
theorem d_BP_share_6 : decode b_BP_share 6 = .ok (.ireturn, 1) := by decide +kernel
theorem d_BP_share_7 : decode b_BP_share 7 = .ok (.lload_n 0, 1) := by decide +kernel
theorem d_BP_share_8 : decode b_BP_share 8 = .ok (.lload_n 2, 1) := by decide +kernel
theorem d_BP_share_9 : decode b_BP_share 9 = .ok (.lmul, 1) := by decide +kernel
theorem d_BP_share_10 : decode b_BP_share 10 = .ok (.lstore 5, 2) := by decide +kernel
theorem d_BP_share_12 : decode b_BP_share 12 = .ok (.ldc2_w 213, 3) := by decide +kernel
theorem d_BP_share_15 : decode b_BP_share 15 = .ok (.lload 5, 2) := by decide +kernel
theorem d_BP_share_17 : decode b_BP_share 17 = .ok (.invokestatic 215, 3) := by decide +kernel
theorem d_BP_share_20 : decode b_BP_share 20 = .ok (.lmul, 1) := by decide +kernel
theorem d_BP_share_21 : decode b_BP_share 21 = .ok (.iload 4, 2) := by decide +kernel
theorem d_BP_share_23 : decode b_BP_share 23 = .ok (.i2l, 1) := by decide +kernel
theorem d_BP_share_24 : decode b_BP_share 24 = .ok (.ladd, 1) := by decide +kernel
theorem d_BP_share_25 : decode b_BP_share 25 = .ok (.ldc2_w 213, 3) := by decide +kernel
theorem d_BP_share_28 : decode b_BP_share 28 = .ok (.iload 4, 2) := by decide +kernel
theorem d_BP_share_30 : decode b_BP_share 30 = .ok (.i2l, 1) := by decide +kernel
theorem d_BP_share_31 : decode b_BP_share 31 = .ok (.lmul, 1) := by decide +kernel
theorem d_BP_share_32 : decode b_BP_share 32 = .ok (.ldiv, 1) := by decide +kernel
theorem d_BP_share_33 : decode b_BP_share 33 = .ok (.lstore 7, 2) := by decide +kernel
theorem d_BP_share_35 : decode b_BP_share 35 = .ok (.lload 5, 2) := by decide +kernel
theorem d_BP_share_37 : decode b_BP_share 37 = .ok (.lconst 0, 1) := by decide +kernel
theorem d_BP_share_38 : decode b_BP_share 38 = .ok (.lcmp, 1) := by decide +kernel
theorem d_BP_share_39 : decode b_BP_share 39 = .ok (.ifCond .ge 9, 3) := by decide +kernel
theorem d_BP_share_42 : decode b_BP_share 42 = .ok (.lload 7, 2) := by decide +kernel
theorem d_BP_share_44 : decode b_BP_share 44 = .ok (.lneg, 1) := by decide +kernel
theorem d_BP_share_45 : decode b_BP_share 45 = .ok (.goto 5, 3) := by decide +kernel
theorem d_BP_share_48 : decode b_BP_share 48 = .ok (.lload 7, 2) := by decide +kernel
theorem d_BP_share_50 : decode b_BP_share 50 = .ok (.l2i, 1) := by decide +kernel
theorem d_BP_share_51 : decode b_BP_share 51 = .ok (.ireturn, 1) := by decide +kernel
