/-! ===== the law: its code ===== -/
abbrev b_Law_leaf : ByteArray := method_3_code
def y_Law_leaf : MethodName := ⟨"BoxPackerLaw", "leaf", "(LBoxPacker;IIII[J)I"⟩
theorem d_Law_leaf_0 : decode b_Law_leaf 0 = .ok (.aload 5, 2) := by decide +kernel
theorem d_Law_leaf_2 : decode b_Law_leaf 2 = .ok (.iconst 0, 1) := by decide +kernel
theorem d_Law_leaf_3 : decode b_Law_leaf 3 = .ok (.aload_n 0, 1) := by decide +kernel
theorem d_Law_leaf_4 : decode b_Law_leaf 4 = .ok (.iload_n 1, 1) := by decide +kernel
theorem d_Law_leaf_5 : decode b_Law_leaf 5 = .ok (.iload_n 2, 1) := by decide +kernel
theorem d_Law_leaf_6 : decode b_Law_leaf 6 = .ok (.iload_n 3, 1) := by decide +kernel
theorem d_Law_leaf_7 : decode b_Law_leaf 7 = .ok (.iload 4, 2) := by decide +kernel
theorem d_Law_leaf_9 : decode b_Law_leaf 9 = .ok (.invokevirtual 7, 3) := by decide +kernel
theorem d_Law_leaf_12 : decode b_Law_leaf 12 = .ok (.i2l, 1) := by decide +kernel
theorem d_Law_leaf_13 : decode b_Law_leaf 13 = .ok (.lastore, 1) := by decide +kernel
theorem d_Law_leaf_14 : decode b_Law_leaf 14 = .ok (.goto 11, 3) := by decide +kernel
theorem d_Law_leaf_17 : decode b_Law_leaf 17 = .ok (.astore 6, 2) := by decide +kernel
theorem d_Law_leaf_19 : decode b_Law_leaf 19 = .ok (.iconst 1, 1) := by decide +kernel
theorem d_Law_leaf_20 : decode b_Law_leaf 20 = .ok (.ireturn, 1) := by decide +kernel
theorem d_Law_leaf_21 : decode b_Law_leaf 21 = .ok (.astore 6, 2) := by decide +kernel
theorem d_Law_leaf_23 : decode b_Law_leaf 23 = .ok (.iconst 2, 1) := by decide +kernel
theorem d_Law_leaf_24 : decode b_Law_leaf 24 = .ok (.ireturn, 1) := by decide +kernel
theorem d_Law_leaf_25 : decode b_Law_leaf 25 = .ok (.iconst 0, 1) := by decide +kernel
theorem d_Law_leaf_26 : decode b_Law_leaf 26 = .ok (.ireturn, 1) := by decide +kernel
abbrev b_Law_rule : ByteArray := method_4_code
def y_Law_rule : MethodName := ⟨"BoxPackerLaw", "rule", "(LBoxPacker;III[J)I"⟩
theorem d_Law_rule_0 : decode b_Law_rule 0 = .ok (.aload 4, 2) := by decide +kernel
theorem d_Law_rule_2 : decode b_Law_rule 2 = .ok (.iconst 0, 1) := by decide +kernel
theorem d_Law_rule_3 : decode b_Law_rule 3 = .ok (.aload_n 0, 1) := by decide +kernel
theorem d_Law_rule_4 : decode b_Law_rule 4 = .ok (.iload_n 1, 1) := by decide +kernel
theorem d_Law_rule_5 : decode b_Law_rule 5 = .ok (.iload_n 2, 1) := by decide +kernel
theorem d_Law_rule_6 : decode b_Law_rule 6 = .ok (.iload_n 3, 1) := by decide +kernel
theorem d_Law_rule_7 : decode b_Law_rule 7 = .ok (.invokevirtual 17, 3) := by decide +kernel
theorem d_Law_rule_10 : decode b_Law_rule 10 = .ok (.i2l, 1) := by decide +kernel
theorem d_Law_rule_11 : decode b_Law_rule 11 = .ok (.lastore, 1) := by decide +kernel
theorem d_Law_rule_12 : decode b_Law_rule 12 = .ok (.goto 11, 3) := by decide +kernel
theorem d_Law_rule_15 : decode b_Law_rule 15 = .ok (.astore 5, 2) := by decide +kernel
theorem d_Law_rule_17 : decode b_Law_rule 17 = .ok (.iconst 1, 1) := by decide +kernel
theorem d_Law_rule_18 : decode b_Law_rule 18 = .ok (.ireturn, 1) := by decide +kernel
theorem d_Law_rule_19 : decode b_Law_rule 19 = .ok (.astore 5, 2) := by decide +kernel
theorem d_Law_rule_21 : decode b_Law_rule 21 = .ok (.iconst 2, 1) := by decide +kernel
theorem d_Law_rule_22 : decode b_Law_rule 22 = .ok (.ireturn, 1) := by decide +kernel
theorem d_Law_rule_23 : decode b_Law_rule 23 = .ok (.iconst 0, 1) := by decide +kernel
theorem d_Law_rule_24 : decode b_Law_rule 24 = .ok (.ireturn, 1) := by decide +kernel
abbrev b_Law_glue : ByteArray := method_5_code
def y_Law_glue : MethodName := ⟨"BoxPackerLaw", "glue", "(LBoxPacker;IIIII[J)I"⟩
theorem d_Law_glue_0 : decode b_Law_glue 0 = .ok (.aload 6, 2) := by decide +kernel
theorem d_Law_glue_2 : decode b_Law_glue 2 = .ok (.iconst 0, 1) := by decide +kernel
theorem d_Law_glue_3 : decode b_Law_glue 3 = .ok (.aload_n 0, 1) := by decide +kernel
theorem d_Law_glue_4 : decode b_Law_glue 4 = .ok (.iload_n 1, 1) := by decide +kernel
theorem d_Law_glue_5 : decode b_Law_glue 5 = .ok (.iload_n 2, 1) := by decide +kernel
theorem d_Law_glue_6 : decode b_Law_glue 6 = .ok (.iload_n 3, 1) := by decide +kernel
theorem d_Law_glue_7 : decode b_Law_glue 7 = .ok (.iload 4, 2) := by decide +kernel
theorem d_Law_glue_9 : decode b_Law_glue 9 = .ok (.iload 5, 2) := by decide +kernel
theorem d_Law_glue_11 : decode b_Law_glue 11 = .ok (.invokevirtual 21, 3) := by decide +kernel
theorem d_Law_glue_14 : decode b_Law_glue 14 = .ok (.i2l, 1) := by decide +kernel
theorem d_Law_glue_15 : decode b_Law_glue 15 = .ok (.lastore, 1) := by decide +kernel
theorem d_Law_glue_16 : decode b_Law_glue 16 = .ok (.goto 11, 3) := by decide +kernel
theorem d_Law_glue_19 : decode b_Law_glue 19 = .ok (.astore 7, 2) := by decide +kernel
theorem d_Law_glue_21 : decode b_Law_glue 21 = .ok (.iconst 1, 1) := by decide +kernel
theorem d_Law_glue_22 : decode b_Law_glue 22 = .ok (.ireturn, 1) := by decide +kernel
theorem d_Law_glue_23 : decode b_Law_glue 23 = .ok (.astore 7, 2) := by decide +kernel
theorem d_Law_glue_25 : decode b_Law_glue 25 = .ok (.iconst 2, 1) := by decide +kernel
theorem d_Law_glue_26 : decode b_Law_glue 26 = .ok (.ireturn, 1) := by decide +kernel
theorem d_Law_glue_27 : decode b_Law_glue 27 = .ok (.iconst 0, 1) := by decide +kernel
theorem d_Law_glue_28 : decode b_Law_glue 28 = .ok (.ireturn, 1) := by decide +kernel
abbrev b_Law_kern : ByteArray := method_6_code
def y_Law_kern : MethodName := ⟨"BoxPackerLaw", "kern", "(LBoxPacker;I[J)I"⟩
theorem d_Law_kern_0 : decode b_Law_kern 0 = .ok (.aload_n 2, 1) := by decide +kernel
theorem d_Law_kern_1 : decode b_Law_kern 1 = .ok (.iconst 0, 1) := by decide +kernel
theorem d_Law_kern_2 : decode b_Law_kern 2 = .ok (.aload_n 0, 1) := by decide +kernel
theorem d_Law_kern_3 : decode b_Law_kern 3 = .ok (.iload_n 1, 1) := by decide +kernel
theorem d_Law_kern_4 : decode b_Law_kern 4 = .ok (.invokevirtual 25, 3) := by decide +kernel
theorem d_Law_kern_7 : decode b_Law_kern 7 = .ok (.i2l, 1) := by decide +kernel
theorem d_Law_kern_8 : decode b_Law_kern 8 = .ok (.lastore, 1) := by decide +kernel
theorem d_Law_kern_9 : decode b_Law_kern 9 = .ok (.goto 9, 3) := by decide +kernel
theorem d_Law_kern_12 : decode b_Law_kern 12 = .ok (.astore_n 3, 1) := by decide +kernel
theorem d_Law_kern_13 : decode b_Law_kern 13 = .ok (.iconst 1, 1) := by decide +kernel
theorem d_Law_kern_14 : decode b_Law_kern 14 = .ok (.ireturn, 1) := by decide +kernel
theorem d_Law_kern_15 : decode b_Law_kern 15 = .ok (.astore_n 3, 1) := by decide +kernel
theorem d_Law_kern_16 : decode b_Law_kern 16 = .ok (.iconst 2, 1) := by decide +kernel
theorem d_Law_kern_17 : decode b_Law_kern 17 = .ok (.ireturn, 1) := by decide +kernel
theorem d_Law_kern_18 : decode b_Law_kern 18 = .ok (.iconst 0, 1) := by decide +kernel
theorem d_Law_kern_19 : decode b_Law_kern 19 = .ok (.ireturn, 1) := by decide +kernel
abbrev b_Law_box : ByteArray := method_7_code
def y_Law_box : MethodName := ⟨"BoxPackerLaw", "box", "(LBoxPacker;II[J)I"⟩
theorem d_Law_box_0 : decode b_Law_box 0 = .ok (.aload_n 3, 1) := by decide +kernel
theorem d_Law_box_1 : decode b_Law_box 1 = .ok (.iconst 0, 1) := by decide +kernel
theorem d_Law_box_2 : decode b_Law_box 2 = .ok (.aload_n 0, 1) := by decide +kernel
theorem d_Law_box_3 : decode b_Law_box 3 = .ok (.iload_n 1, 1) := by decide +kernel
theorem d_Law_box_4 : decode b_Law_box 4 = .ok (.iload_n 2, 1) := by decide +kernel
theorem d_Law_box_5 : decode b_Law_box 5 = .ok (.invokevirtual 29, 3) := by decide +kernel
theorem d_Law_box_8 : decode b_Law_box 8 = .ok (.i2l, 1) := by decide +kernel
theorem d_Law_box_9 : decode b_Law_box 9 = .ok (.lastore, 1) := by decide +kernel
theorem d_Law_box_10 : decode b_Law_box 10 = .ok (.goto 15, 3) := by decide +kernel
theorem d_Law_box_13 : decode b_Law_box 13 = .ok (.astore 4, 2) := by decide +kernel
theorem d_Law_box_15 : decode b_Law_box 15 = .ok (.iconst 1, 1) := by decide +kernel
theorem d_Law_box_16 : decode b_Law_box 16 = .ok (.ireturn, 1) := by decide +kernel
theorem d_Law_box_17 : decode b_Law_box 17 = .ok (.astore 4, 2) := by decide +kernel
theorem d_Law_box_19 : decode b_Law_box 19 = .ok (.iconst 2, 1) := by decide +kernel
theorem d_Law_box_20 : decode b_Law_box 20 = .ok (.ireturn, 1) := by decide +kernel
theorem d_Law_box_21 : decode b_Law_box 21 = .ok (.astore 4, 2) := by decide +kernel
theorem d_Law_box_23 : decode b_Law_box 23 = .ok (.iconst 3, 1) := by decide +kernel
theorem d_Law_box_24 : decode b_Law_box 24 = .ok (.ireturn, 1) := by decide +kernel
theorem d_Law_box_25 : decode b_Law_box 25 = .ok (.iconst 0, 1) := by decide +kernel
theorem d_Law_box_26 : decode b_Law_box 26 = .ok (.ireturn, 1) := by decide +kernel
abbrev b_Law_pack : ByteArray := method_8_code
def y_Law_pack : MethodName := ⟨"BoxPackerLaw", "pack", "(LBoxPacker;ZIII[J)I"⟩
theorem d_Law_pack_0 : decode b_Law_pack 0 = .ok (.aload 5, 2) := by decide +kernel
theorem d_Law_pack_2 : decode b_Law_pack 2 = .ok (.iconst 0, 1) := by decide +kernel
theorem d_Law_pack_3 : decode b_Law_pack 3 = .ok (.aload_n 0, 1) := by decide +kernel
theorem d_Law_pack_4 : decode b_Law_pack 4 = .ok (.iload_n 1, 1) := by decide +kernel
theorem d_Law_pack_5 : decode b_Law_pack 5 = .ok (.iload_n 2, 1) := by decide +kernel
theorem d_Law_pack_6 : decode b_Law_pack 6 = .ok (.iload_n 3, 1) := by decide +kernel
theorem d_Law_pack_7 : decode b_Law_pack 7 = .ok (.iload 4, 2) := by decide +kernel
theorem d_Law_pack_9 : decode b_Law_pack 9 = .ok (.invokevirtual 35, 3) := by decide +kernel
theorem d_Law_pack_12 : decode b_Law_pack 12 = .ok (.i2l, 1) := by decide +kernel
theorem d_Law_pack_13 : decode b_Law_pack 13 = .ok (.lastore, 1) := by decide +kernel
theorem d_Law_pack_14 : decode b_Law_pack 14 = .ok (.goto 15, 3) := by decide +kernel
theorem d_Law_pack_17 : decode b_Law_pack 17 = .ok (.astore 6, 2) := by decide +kernel
theorem d_Law_pack_19 : decode b_Law_pack 19 = .ok (.iconst 1, 1) := by decide +kernel
theorem d_Law_pack_20 : decode b_Law_pack 20 = .ok (.ireturn, 1) := by decide +kernel
theorem d_Law_pack_21 : decode b_Law_pack 21 = .ok (.astore 6, 2) := by decide +kernel
theorem d_Law_pack_23 : decode b_Law_pack 23 = .ok (.iconst 2, 1) := by decide +kernel
theorem d_Law_pack_24 : decode b_Law_pack 24 = .ok (.ireturn, 1) := by decide +kernel
theorem d_Law_pack_25 : decode b_Law_pack 25 = .ok (.astore 6, 2) := by decide +kernel
theorem d_Law_pack_27 : decode b_Law_pack 27 = .ok (.iconst 3, 1) := by decide +kernel
theorem d_Law_pack_28 : decode b_Law_pack 28 = .ok (.ireturn, 1) := by decide +kernel
theorem d_Law_pack_29 : decode b_Law_pack 29 = .ok (.iconst 0, 1) := by decide +kernel
theorem d_Law_pack_30 : decode b_Law_pack 30 = .ok (.ireturn, 1) := by decide +kernel
abbrev b_Law_of : ByteArray := method_9_code
def y_Law_of : MethodName := ⟨"BoxPackerLaw", "of", "(LBoxPacker;II[J)I"⟩
theorem d_Law_of_0 : decode b_Law_of 0 = .ok (.aload_n 3, 1) := by decide +kernel
theorem d_Law_of_1 : decode b_Law_of 1 = .ok (.iconst 0, 1) := by decide +kernel
theorem d_Law_of_2 : decode b_Law_of 2 = .ok (.aload_n 0, 1) := by decide +kernel
theorem d_Law_of_3 : decode b_Law_of 3 = .ok (.iload_n 1, 1) := by decide +kernel
theorem d_Law_of_4 : decode b_Law_of 4 = .ok (.iload_n 2, 1) := by decide +kernel
theorem d_Law_of_5 : decode b_Law_of 5 = .ok (.invokevirtual 41, 3) := by decide +kernel
theorem d_Law_of_8 : decode b_Law_of 8 = .ok (.i2l, 1) := by decide +kernel
theorem d_Law_of_9 : decode b_Law_of 9 = .ok (.lastore, 1) := by decide +kernel
theorem d_Law_of_10 : decode b_Law_of 10 = .ok (.goto 7, 3) := by decide +kernel
theorem d_Law_of_13 : decode b_Law_of 13 = .ok (.astore 4, 2) := by decide +kernel
theorem d_Law_of_15 : decode b_Law_of 15 = .ok (.iconst 1, 1) := by decide +kernel
theorem d_Law_of_16 : decode b_Law_of 16 = .ok (.ireturn, 1) := by decide +kernel
theorem d_Law_of_17 : decode b_Law_of 17 = .ok (.iconst 0, 1) := by decide +kernel
theorem d_Law_of_18 : decode b_Law_of 18 = .ok (.ireturn, 1) := by decide +kernel
abbrev b_Law_place : ByteArray := method_10_code
def y_Law_place : MethodName := ⟨"BoxPackerLaw", "place", "(LBoxPacker;II[J)I"⟩
theorem d_Law_place_0 : decode b_Law_place 0 = .ok (.aload_n 3, 1) := by decide +kernel
theorem d_Law_place_1 : decode b_Law_place 1 = .ok (.iconst 0, 1) := by decide +kernel
theorem d_Law_place_2 : decode b_Law_place 2 = .ok (.aload_n 0, 1) := by decide +kernel
theorem d_Law_place_3 : decode b_Law_place 3 = .ok (.iload_n 1, 1) := by decide +kernel
theorem d_Law_place_4 : decode b_Law_place 4 = .ok (.iload_n 2, 1) := by decide +kernel
theorem d_Law_place_5 : decode b_Law_place 5 = .ok (.invokevirtual 44, 3) := by decide +kernel
theorem d_Law_place_8 : decode b_Law_place 8 = .ok (.i2l, 1) := by decide +kernel
theorem d_Law_place_9 : decode b_Law_place 9 = .ok (.lastore, 1) := by decide +kernel
theorem d_Law_place_10 : decode b_Law_place 10 = .ok (.goto 7, 3) := by decide +kernel
theorem d_Law_place_13 : decode b_Law_place 13 = .ok (.astore 4, 2) := by decide +kernel
theorem d_Law_place_15 : decode b_Law_place 15 = .ok (.iconst 1, 1) := by decide +kernel
theorem d_Law_place_16 : decode b_Law_place 16 = .ok (.ireturn, 1) := by decide +kernel
theorem d_Law_place_17 : decode b_Law_place 17 = .ok (.iconst 0, 1) := by decide +kernel
theorem d_Law_place_18 : decode b_Law_place 18 = .ok (.ireturn, 1) := by decide +kernel
abbrev b_Law_lay : ByteArray := method_11_code
def y_Law_lay : MethodName := ⟨"BoxPackerLaw", "lay", "(LBoxPacker;III[J)I"⟩
theorem d_Law_lay_0 : decode b_Law_lay 0 = .ok (.aload 4, 2) := by decide +kernel
theorem d_Law_lay_2 : decode b_Law_lay 2 = .ok (.iconst 0, 1) := by decide +kernel
theorem d_Law_lay_3 : decode b_Law_lay 3 = .ok (.aload_n 0, 1) := by decide +kernel
theorem d_Law_lay_4 : decode b_Law_lay 4 = .ok (.iload_n 1, 1) := by decide +kernel
theorem d_Law_lay_5 : decode b_Law_lay 5 = .ok (.iload_n 2, 1) := by decide +kernel
theorem d_Law_lay_6 : decode b_Law_lay 6 = .ok (.iload_n 3, 1) := by decide +kernel
theorem d_Law_lay_7 : decode b_Law_lay 7 = .ok (.invokevirtual 47, 3) := by decide +kernel
theorem d_Law_lay_10 : decode b_Law_lay 10 = .ok (.i2l, 1) := by decide +kernel
theorem d_Law_lay_11 : decode b_Law_lay 11 = .ok (.lastore, 1) := by decide +kernel
theorem d_Law_lay_12 : decode b_Law_lay 12 = .ok (.goto 11, 3) := by decide +kernel
theorem d_Law_lay_15 : decode b_Law_lay 15 = .ok (.astore 5, 2) := by decide +kernel
theorem d_Law_lay_17 : decode b_Law_lay 17 = .ok (.iconst 1, 1) := by decide +kernel
theorem d_Law_lay_18 : decode b_Law_lay 18 = .ok (.ireturn, 1) := by decide +kernel
theorem d_Law_lay_19 : decode b_Law_lay 19 = .ok (.astore 5, 2) := by decide +kernel
theorem d_Law_lay_21 : decode b_Law_lay 21 = .ok (.iconst 2, 1) := by decide +kernel
theorem d_Law_lay_22 : decode b_Law_lay 22 = .ok (.ireturn, 1) := by decide +kernel
theorem d_Law_lay_23 : decode b_Law_lay 23 = .ok (.iconst 0, 1) := by decide +kernel
theorem d_Law_lay_24 : decode b_Law_lay 24 = .ok (.ireturn, 1) := by decide +kernel
abbrev b_Law_mark : ByteArray := method_12_code
def y_Law_mark : MethodName := ⟨"BoxPackerLaw", "mark", "(LBoxPacker;II[J)I"⟩
theorem d_Law_mark_0 : decode b_Law_mark 0 = .ok (.aload_n 3, 1) := by decide +kernel
theorem d_Law_mark_1 : decode b_Law_mark 1 = .ok (.iconst 0, 1) := by decide +kernel
theorem d_Law_mark_2 : decode b_Law_mark 2 = .ok (.aload_n 0, 1) := by decide +kernel
theorem d_Law_mark_3 : decode b_Law_mark 3 = .ok (.iload_n 1, 1) := by decide +kernel
theorem d_Law_mark_4 : decode b_Law_mark 4 = .ok (.iload_n 2, 1) := by decide +kernel
theorem d_Law_mark_5 : decode b_Law_mark 5 = .ok (.invokevirtual 50, 3) := by decide +kernel
theorem d_Law_mark_8 : decode b_Law_mark 8 = .ok (.lastore, 1) := by decide +kernel
theorem d_Law_mark_9 : decode b_Law_mark 9 = .ok (.goto 7, 3) := by decide +kernel
theorem d_Law_mark_12 : decode b_Law_mark 12 = .ok (.astore 4, 2) := by decide +kernel
theorem d_Law_mark_14 : decode b_Law_mark 14 = .ok (.iconst 1, 1) := by decide +kernel
theorem d_Law_mark_15 : decode b_Law_mark 15 = .ok (.ireturn, 1) := by decide +kernel
theorem d_Law_mark_16 : decode b_Law_mark 16 = .ok (.iconst 0, 1) := by decide +kernel
theorem d_Law_mark_17 : decode b_Law_mark 17 = .ok (.ireturn, 1) := by decide +kernel
