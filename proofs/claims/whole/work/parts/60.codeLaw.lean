/-! ===== the law: its code ===== -/
abbrev b_Law_leaf : ByteArray := method_3_code
def y_Law_leaf : MethodName := ⟨"BoxPackerLaw", "leaf", "(LBoxPacker;IIII[J)I"⟩
theorem d_Law_leaf_0 : decode b_Law_leaf 0 = .ok (.aload 5, 2) := by decide +kernel
theorem d_Law_leaf_2 : decode b_Law_leaf 2 = .ok (.iconst 0, 1) := by decide +kernel
theorem d_Law_leaf_3 : decode b_Law_leaf 3 = .ok (.aload_n 0, 1) := by decide +kernel
theorem d_Law_leaf_4 : decode b_Law_leaf 4 = .ok (.iload_n 1, 1) := by decide +kernel
theorem d_Law_leaf_5 : decode b_Law_leaf 5 = .ok (.iload_n 2, 1) := by decide +kernel
theorem d_Law_leaf_6 : decode b_Law_leaf 6 = .ok (.iload_n 3, 1) := by decide +kernel
theorem d_Law_leaf_7 : decode b_Law_leaf 7 = .ok (.iload 4, 2) := by decide +kernel
theorem d_Law_leaf_9 : decode b_Law_leaf 9 = .ok (.invokevirtual 7, 3) := by decide +kernel
theorem d_Law_leaf_12 : decode b_Law_leaf 12 = .ok (.i2l, 1) := by decide +kernel
theorem d_Law_leaf_13 : decode b_Law_leaf 13 = .ok (.lastore, 1) := by decide +kernel
theorem d_Law_leaf_14 : decode b_Law_leaf 14 = .ok (.goto 11, 3) := by decide +kernel
theorem d_Law_leaf_17 : decode b_Law_leaf 17 = .ok (.astore 6, 2) := by decide +kernel
theorem d_Law_leaf_19 : decode b_Law_leaf 19 = .ok (.iconst 1, 1) := by decide +kernel
theorem d_Law_leaf_20 : decode b_Law_leaf 20 = .ok (.ireturn, 1) := by decide +kernel
theorem d_Law_leaf_21 : decode b_Law_leaf 21 = .ok (.astore 6, 2) := by decide +kernel
theorem d_Law_leaf_23 : decode b_Law_leaf 23 = .ok (.iconst 2, 1) := by decide +kernel
theorem d_Law_leaf_24 : decode b_Law_leaf 24 = .ok (.ireturn, 1) := by decide +kernel
theorem d_Law_leaf_25 : decode b_Law_leaf 25 = .ok (.iconst 0, 1) := by decide +kernel
theorem d_Law_leaf_26 : decode b_Law_leaf 26 = .ok (.ireturn, 1) := by decide +kernel
abbrev b_Law_rule : ByteArray := method_4_code
def y_Law_rule : MethodName := ⟨"BoxPackerLaw", "rule", "(LBoxPacker;III[J)I"⟩
theorem d_Law_rule_0 : decode b_Law_rule 0 = .ok (.aload 4, 2) := by decide +kernel
theorem d_Law_rule_2 : decode b_Law_rule 2 = .ok (.iconst 0, 1) := by decide +kernel
theorem d_Law_rule_3 : decode b_Law_rule 3 = .ok (.aload_n 0, 1) := by decide +kernel
theorem d_Law_rule_4 : decode b_Law_rule 4 = .ok (.iload_n 1, 1) := by decide +kernel
theorem d_Law_rule_5 : decode b_Law_rule 5 = .ok (.iload_n 2, 1) := by decide +kernel
theorem d_Law_rule_6 : decode b_Law_rule 6 = .ok (.iload_n 3, 1) := by decide +kernel
theorem d_Law_rule_7 : decode b_Law_rule 7 = .ok (.invokevirtual 17, 3) := by decide +kernel
theorem d_Law_rule_10 : decode b_Law_rule 10 = .ok (.i2l, 1) := by decide +kernel
theorem d_Law_rule_11 : decode b_Law_rule 11 = .ok (.lastore, 1) := by decide +kernel
theorem d_Law_rule_12 : decode b_Law_rule 12 = .ok (.goto 11, 3) := by decide +kernel
theorem d_Law_rule_15 : decode b_Law_rule 15 = .ok (.astore 5, 2) := by decide +kernel
theorem d_Law_rule_17 : decode b_Law_rule 17 = .ok (.iconst 1, 1) := by decide +kernel
theorem d_Law_rule_18 : decode b_Law_rule 18 = .ok (.ireturn, 1) := by decide +kernel
theorem d_Law_rule_19 : decode b_Law_rule 19 = .ok (.astore 5, 2) := by decide +kernel
theorem d_Law_rule_21 : decode b_Law_rule 21 = .ok (.iconst 2, 1) := by decide +kernel
theorem d_Law_rule_22 : decode b_Law_rule 22 = .ok (.ireturn, 1) := by decide +kernel
theorem d_Law_rule_23 : decode b_Law_rule 23 = .ok (.iconst 0, 1) := by decide +kernel
theorem d_Law_rule_24 : decode b_Law_rule 24 = .ok (.ireturn, 1) := by decide +kernel
abbrev b_Law_glue : ByteArray := method_5_code
def y_Law_glue : MethodName := ⟨"BoxPackerLaw", "glue", "(LBoxPacker;IIIII[J)I"⟩
theorem d_Law_glue_0 : decode b_Law_glue 0 = .ok (.aload 6, 2) := by decide +kernel
theorem d_Law_glue_2 : decode b_Law_glue 2 = .ok (.iconst 0, 1) := by decide +kernel
theorem d_Law_glue_3 : decode b_Law_glue 3 = .ok (.aload_n 0, 1) := by decide +kernel
theorem d_Law_glue_4 : decode b_Law_glue 4 = .ok (.iload_n 1, 1) := by decide +kernel
theorem d_Law_glue_5 : decode b_Law_glue 5 = .ok (.iload_n 2, 1) := by decide +kernel
theorem d_Law_glue_6 : decode b_Law_glue 6 = .ok (.iload_n 3, 1) := by decide +kernel
theorem d_Law_glue_7 : decode b_Law_glue 7 = .ok (.iload 4, 2) := by decide +kernel
theorem d_Law_glue_9 : decode b_Law_glue 9 = .ok (.iload 5, 2) := by decide +kernel
theorem d_Law_glue_11 : decode b_Law_glue 11 = .ok (.invokevirtual 21, 3) := by decide +kernel
theorem d_Law_glue_14 : decode b_Law_glue 14 = .ok (.i2l, 1) := by decide +kernel
theorem d_Law_glue_15 : decode b_Law_glue 15 = .ok (.lastore, 1) := by decide +kernel
theorem d_Law_glue_16 : decode b_Law_glue 16 = .ok (.goto 11, 3) := by decide +kernel
theorem d_Law_glue_19 : decode b_Law_glue 19 = .ok (.astore 7, 2) := by decide +kernel
theorem d_Law_glue_21 : decode b_Law_glue 21 = .ok (.iconst 1, 1) := by decide +kernel
theorem d_Law_glue_22 : decode b_Law_glue 22 = .ok (.ireturn, 1) := by decide +kernel
theorem d_Law_glue_23 : decode b_Law_glue 23 = .ok (.astore 7, 2) := by decide +kernel
theorem d_Law_glue_25 : decode b_Law_glue 25 = .ok (.iconst 2, 1) := by decide +kernel
theorem d_Law_glue_26 : decode b_Law_glue 26 = .ok (.ireturn, 1) := by decide +kernel
theorem d_Law_glue_27 : decode b_Law_glue 27 = .ok (.iconst 0, 1) := by decide +kernel
theorem d_Law_glue_28 : decode b_Law_glue 28 = .ok (.ireturn, 1) := by decide +kernel
abbrev b_Law_kern : ByteArray := method_6_code
def y_Law_kern : MethodName := ⟨"BoxPackerLaw", "kern", "(LBoxPacker;I[J)I"⟩
theorem d_Law_kern_0 : decode b_Law_kern 0 = .ok (.aload_n 2, 1) := by decide +kernel
theorem d_Law_kern_1 : decode b_Law_kern 1 = .ok (.iconst 0, 1) := by decide +kernel
theorem d_Law_kern_2 : decode b_Law_kern 2 = .ok (.aload_n 0, 1) := by decide +kernel
theorem d_Law_kern_3 : decode b_Law_kern 3 = .ok (.iload_n 1, 1) := by decide +kernel
theorem d_Law_kern_4 : decode b_Law_kern 4 = .ok (.invokevirtual 25, 3) := by decide +kernel
theorem d_Law_kern_7 : decode b_Law_kern 7 = .ok (.i2l, 1) := by decide +kernel
theorem d_Law_kern_8 : decode b_Law_kern 8 = .ok (.lastore, 1) := by decide +kernel
theorem d_Law_kern_9 : decode b_Law_kern 9 = .ok (.goto 9, 3) := by decide +kernel
theorem d_Law_kern_12 : decode b_Law_kern 12 = .ok (.astore_n 3, 1) := by decide +kernel
theorem d_Law_kern_13 : decode b_Law_kern 13 = .ok (.iconst 1, 1) := by decide +kernel
theorem d_Law_kern_14 : decode b_Law_kern 14 = .ok (.ireturn, 1) := by decide +kernel
theorem d_Law_kern_15 : decode b_Law_kern 15 = .ok (.astore_n 3, 1) := by decide +kernel
theorem d_Law_kern_16 : decode b_Law_kern 16 = .ok (.iconst 2, 1) := by decide +kernel
theorem d_Law_kern_17 : decode b_Law_kern 17 = .ok (.ireturn, 1) := by decide +kernel
theorem d_Law_kern_18 : decode b_Law_kern 18 = .ok (.iconst 0, 1) := by decide +kernel
theorem d_Law_kern_19 : decode b_Law_kern 19 = .ok (.ireturn, 1) := by decide +kernel
abbrev b_Law_box : ByteArray := method_7_code
def y_Law_box : MethodName := ⟨"BoxPackerLaw", "box", "(LBoxPacker;II[J)I"⟩
theorem d_Law_box_0 : decode b_Law_box 0 = .ok (.aload_n 3, 1) := by decide +kernel
theorem d_Law_box_1 : decode b_Law_box 1 = .ok (.iconst 0, 1) := by decide +kernel
theorem d_Law_box_2 : decode b_Law_box 2 = .ok (.aload_n 0, 1) := by decide +kernel
theorem d_Law_box_3 : decode b_Law_box 3 = .ok (.iload_n 1, 1) := by decide +kernel
theorem d_Law_box_4 : decode b_Law_box 4 = .ok (.iload_n 2, 1) := by decide +kernel
theorem d_Law_box_5 : decode b_Law_box 5 = .ok (.invokevirtual 29, 3) := by decide +kernel
theorem d_Law_box_8 : decode b_Law_box 8 = .ok (.i2l, 1) := by decide +kernel
theorem d_Law_box_9 : decode b_Law_box 9 = .ok (.lastore, 1) := by decide +kernel
theorem d_Law_box_10 : decode b_Law_box 10 = .ok (.goto 15, 3) := by decide +kernel
theorem d_Law_box_13 : decode b_Law_box 13 = .ok (.astore 4, 2) := by decide +kernel
theorem d_Law_box_15 : decode b_Law_box 15 = .ok (.iconst 1, 1) := by decide +kernel
theorem d_Law_box_16 : decode b_Law_box 16 = .ok (.ireturn, 1) := by decide +kernel
theorem d_Law_box_17 : decode b_Law_box 17 = .ok (.astore 4, 2) := by decide +kernel
theorem d_Law_box_19 : decode b_Law_box 19 = .ok (.iconst 2, 1) := by decide +kernel
theorem d_Law_box_20 : decode b_Law_box 20 = .ok (.ireturn, 1) := by decide +kernel
theorem d_Law_box_21 : decode b_Law_box 21 = .ok (.astore 4, 2) := by decide +kernel
theorem d_Law_box_23 : decode b_Law_box 23 = .ok (.iconst 3, 1) := by decide +kernel
theorem d_Law_box_24 : decode b_Law_box 24 = .ok (.ireturn, 1) := by decide +kernel
theorem d_Law_box_25 : decode b_Law_box 25 = .ok (.iconst 0, 1) := by decide +kernel
theorem d_Law_box_26 : decode b_Law_box 26 = .ok (.ireturn, 1) := by decide +kernel
abbrev b_Law_pack : ByteArray := method_8_code
def y_Law_pack : MethodName := ⟨"BoxPackerLaw", "pack", "(LBoxPacker;ZIII[J)I"⟩
theorem d_Law_pack_0 : decode b_Law_pack 0 = .ok (.aload 5, 2) := by decide +kernel
theorem d_Law_pack_2 : decode b_Law_pack 2 = .ok (.iconst 0, 1) := by decide +kernel
theorem d_Law_pack_3 : decode b_Law_pack 3 = .ok (.aload_n 0, 1) := by decide +kernel
theorem d_Law_pack_4 : decode b_Law_pack 4 = .ok (.iload_n 1, 1) := by decide +kernel
theorem d_Law_pack_5 : decode b_Law_pack 5 = .ok (.iload_n 2, 1) := by decide +kernel
theorem d_Law_pack_6 : decode b_Law_pack 6 = .ok (.iload_n 3, 1) := by decide +kernel
theorem d_Law_pack_7 : decode b_Law_pack 7 = .ok (.iload 4, 2) := by decide +kernel
theorem d_Law_pack_9 : decode b_Law_pack 9 = .ok (.invokevirtual 35, 3) := by decide +kernel
theorem d_Law_pack_12 : decode b_Law_pack 12 = .ok (.i2l, 1) := by decide +kernel
theorem d_Law_pack_13 : decode b_Law_pack 13 = .ok (.lastore, 1) := by decide +kernel
theorem d_Law_pack_14 : decode b_Law_pack 14 = .ok (.goto 15, 3) := by decide +kernel
theorem d_Law_pack_17 : decode b_Law_pack 17 = .ok (.astore 6, 2) := by decide +kernel
theorem d_Law_pack_19 : decode b_Law_pack 19 = .ok (.iconst 1, 1) := by decide +kernel
theorem d_Law_pack_20 : decode b_Law_pack 20 = .ok (.ireturn, 1) := by decide +kernel
theorem d_Law_pack_21 : decode b_Law_pack 21 = .ok (.astore 6, 2) := by decide +kernel
theorem d_Law_pack_23 : decode b_Law_pack 23 = .ok (.iconst 2, 1) := by decide +kernel
theorem d_Law_pack_24 : decode b_Law_pack 24 = .ok (.ireturn, 1) := by decide +kernel
theorem d_Law_pack_25 : decode b_Law_pack 25 = .ok (.astore 6, 2) := by decide +kernel
theorem d_Law_pack_27 : decode b_Law_pack 27 = .ok (.iconst 3, 1) := by decide +kernel
theorem d_Law_pack_28 : decode b_Law_pack 28 = .ok (.ireturn, 1) := by decide +kernel
theorem d_Law_pack_29 : decode b_Law_pack 29 = .ok (.iconst 0, 1) := by decide +kernel
theorem d_Law_pack_30 : decode b_Law_pack 30 = .ok (.ireturn, 1) := by decide +kernel
abbrev b_Law_of : ByteArray := method_9_code
def y_Law_of : MethodName := ⟨"BoxPackerLaw", "of", "(LBoxPacker;II[J)I"⟩
theorem d_Law_of_0 : decode b_Law_of 0 = .ok (.aload_n 3, 1) := by decide +kernel
theorem d_Law_of_1 : decode b_Law_of 1 = .ok (.iconst 0, 1) := by decide +kernel
theorem d_Law_of_2 : decode b_Law_of 2 = .ok (.aload_n 0, 1) := by decide +kernel
theorem d_Law_of_3 : decode b_Law_of 3 = .ok (.iload_n 1, 1) := by decide +kernel
theorem d_Law_of_4 : decode b_Law_of 4 = .ok (.iload_n 2, 1) := by decide +kernel
theorem d_Law_of_5 : decode b_Law_of 5 = .ok (.invokevirtual 41, 3) := by decide +kernel
theorem d_Law_of_8 : decode b_Law_of 8 = .ok (.i2l, 1) := by decide +kernel
theorem d_Law_of_9 : decode b_Law_of 9 = .ok (.lastore, 1) := by decide +kernel
theorem d_Law_of_10 : decode b_Law_of 10 = .ok (.goto 7, 3) := by decide +kernel
theorem d_Law_of_13 : decode b_Law_of 13 = .ok (.astore 4, 2) := by decide +kernel
theorem d_Law_of_15 : decode b_Law_of 15 = .ok (.iconst 1, 1) := by decide +kernel
theorem d_Law_of_16 : decode b_Law_of 16 = .ok (.ireturn, 1) := by decide +kernel
theorem d_Law_of_17 : decode b_Law_of 17 = .ok (.iconst 0, 1) := by decide +kernel
theorem d_Law_of_18 : decode b_Law_of 18 = .ok (.ireturn, 1) := by decide +kernel
abbrev b_Law_place : ByteArray := method_10_code
def y_Law_place : MethodName := ⟨"BoxPackerLaw", "place", "(LBoxPacker;II[J)I"⟩
theorem d_Law_place_0 : decode b_Law_place 0 = .ok (.aload_n 3, 1) := by decide +kernel
theorem d_Law_place_1 : decode b_Law_place 1 = .ok (.iconst 0, 1) := by decide +kernel
theorem d_Law_place_2 : decode b_Law_place 2 = .ok (.aload_n 0, 1) := by decide +kernel
theorem d_Law_place_3 : decode b_Law_place 3 = .ok (.iload_n 1, 1) := by decide +kernel
theorem d_Law_place_4 : decode b_Law_place 4 = .ok (.iload_n 2, 1) := by decide +kernel
theorem d_Law_place_5 : decode b_Law_place 5 = .ok (.invokevirtual 44, 3) := by decide +kernel
theorem d_Law_place_8 : decode b_Law_place 8 = .ok (.i2l, 1) := by decide +kernel
theorem d_Law_place_9 : decode b_Law_place 9 = .ok (.lastore, 1) := by decide +kernel
theorem d_Law_place_10 : decode b_Law_place 10 = .ok (.goto 7, 3) := by decide +kernel
theorem d_Law_place_13 : decode b_Law_place 13 = .ok (.astore 4, 2) := by decide +kernel
theorem d_Law_place_15 : decode b_Law_place 15 = .ok (.iconst 1, 1) := by decide +kernel
theorem d_Law_place_16 : decode b_Law_place 16 = .ok (.ireturn, 1) := by decide +kernel
theorem d_Law_place_17 : decode b_Law_place 17 = .ok (.iconst 0, 1) := by decide +kernel
theorem d_Law_place_18 : decode b_Law_place 18 = .ok (.ireturn, 1) := by decide +kernel
abbrev b_Law_lay : ByteArray := method_11_code
def y_Law_lay : MethodName := ⟨"BoxPackerLaw", "lay", "(LBoxPacker;III[J)I"⟩
theorem d_Law_lay_0 : decode b_Law_lay 0 = .ok (.aload 4, 2) := by decide +kernel
theorem d_Law_lay_2 : decode b_Law_lay 2 = .ok (.iconst 0, 1) := by decide +kernel
theorem d_Law_lay_3 : decode b_Law_lay 3 = .ok (.aload_n 0, 1) := by decide +kernel
theorem d_Law_lay_4 : decode b_Law_lay 4 = .ok (.iload_n 1, 1) := by decide +kernel
theorem d_Law_lay_5 : decode b_Law_lay 5 = .ok (.iload_n 2, 1) := by decide +kernel
theorem d_Law_lay_6 : decode b_Law_lay 6 = .ok (.iload_n 3, 1) := by decide +kernel
theorem d_Law_lay_7 : decode b_Law_lay 7 = .ok (.invokevirtual 47, 3) := by decide +kernel
theorem d_Law_lay_10 : decode b_Law_lay 10 = .ok (.i2l, 1) := by decide +kernel
theorem d_Law_lay_11 : decode b_Law_lay 11 = .ok (.lastore, 1) := by decide +kernel
theorem d_Law_lay_12 : decode b_Law_lay 12 = .ok (.goto 11, 3) := by decide +kernel
theorem d_Law_lay_15 : decode b_Law_lay 15 = .ok (.astore 5, 2) := by decide +kernel
theorem d_Law_lay_17 : decode b_Law_lay 17 = .ok (.iconst 1, 1) := by decide +kernel
theorem d_Law_lay_18 : decode b_Law_lay 18 = .ok (.ireturn, 1) := by decide +kernel
theorem d_Law_lay_19 : decode b_Law_lay 19 = .ok (.astore 5, 2) := by decide +kernel
theorem d_Law_lay_21 : decode b_Law_lay 21 = .ok (.iconst 2, 1) := by decide +kernel
theorem d_Law_lay_22 : decode b_Law_lay 22 = .ok (.ireturn, 1) := by decide +kernel
theorem d_Law_lay_23 : decode b_Law_lay 23 = .ok (.iconst 0, 1) := by decide +kernel
theorem d_Law_lay_24 : decode b_Law_lay 24 = .ok (.ireturn, 1) := by decide +kernel
abbrev b_Law_mark : ByteArray := method_12_code
def y_Law_mark : MethodName := ⟨"BoxPackerLaw", "mark", "(LBoxPacker;II[J)I"⟩
theorem d_Law_mark_0 : decode b_Law_mark 0 = .ok (.aload_n 3, 1) := by decide +kernel
theorem d_Law_mark_1 : decode b_Law_mark 1 = .ok (.iconst 0, 1) := by decide +kernel
theorem d_Law_mark_2 : decode b_Law_mark 2 = .ok (.aload_n 0, 1) := by decide +kernel
theorem d_Law_mark_3 : decode b_Law_mark 3 = .ok (.iload_n 1, 1) := by decide +kernel
theorem d_Law_mark_4 : decode b_Law_mark 4 = .ok (.iload_n 2, 1) := by decide +kernel
theorem d_Law_mark_5 : decode b_Law_mark 5 = .ok (.invokevirtual 50, 3) := by decide +kernel
theorem d_Law_mark_8 : decode b_Law_mark 8 = .ok (.lastore, 1) := by decide +kernel
theorem d_Law_mark_9 : decode b_Law_mark 9 = .ok (.goto 7, 3) := by decide +kernel
theorem d_Law_mark_12 : decode b_Law_mark 12 = .ok (.astore 4, 2) := by decide +kernel
theorem d_Law_mark_14 : decode b_Law_mark 14 = .ok (.iconst 1, 1) := by decide +kernel
theorem d_Law_mark_15 : decode b_Law_mark 15 = .ok (.ireturn, 1) := by decide +kernel
theorem d_Law_mark_16 : decode b_Law_mark 16 = .ok (.iconst 0, 1) := by decide +kernel
theorem d_Law_mark_17 : decode b_Law_mark 17 = .ok (.ireturn, 1) := by decide +kernel
abbrev b_Law_law : ByteArray := code
def y_Law_law : MethodName := ⟨"BoxPackerLaw", "law", "([I)Z"⟩
theorem d_Law_law_0 : decode b_Law_law 0 = .ok (.new 8, 3) := by decide +kernel
theorem d_Law_law_3 : decode b_Law_law 3 = .ok (.dup, 1) := by decide +kernel
theorem d_Law_law_4 : decode b_Law_law 4 = .ok (.invokespecial 54, 3) := by decide +kernel
theorem d_Law_law_7 : decode b_Law_law 7 = .ok (.astore_n 1, 1) := by decide +kernel
theorem d_Law_law_8 : decode b_Law_law 8 = .ok (.new 55, 3) := by decide +kernel
theorem d_Law_law_11 : decode b_Law_law 11 = .ok (.dup, 1) := by decide +kernel
theorem d_Law_law_12 : decode b_Law_law 12 = .ok (.invokespecial 57, 3) := by decide +kernel
theorem d_Law_law_15 : decode b_Law_law 15 = .ok (.astore_n 2, 1) := by decide +kernel
theorem d_Law_law_16 : decode b_Law_law 16 = .ok (.iconst 1, 1) := by decide +kernel
theorem d_Law_law_17 : decode b_Law_law 17 = .ok (.newarray .long, 2) := by decide +kernel
theorem d_Law_law_19 : decode b_Law_law 19 = .ok (.astore_n 3, 1) := by decide +kernel
theorem d_Law_law_20 : decode b_Law_law 20 = .ok (.iconst 0, 1) := by decide +kernel
theorem d_Law_law_21 : decode b_Law_law 21 = .ok (.istore 4, 2) := by decide +kernel
theorem d_Law_law_23 : decode b_Law_law 23 = .ok (.iload 4, 2) := by decide +kernel
theorem d_Law_law_25 : decode b_Law_law 25 = .ok (.aload_n 0, 1) := by decide +kernel
theorem d_Law_law_26 : decode b_Law_law 26 = .ok (.arraylength, 1) := by decide +kernel
theorem d_Law_law_27 : decode b_Law_law 27 = .ok (.bipush 6, 2) := by decide +kernel
theorem d_Law_law_29 : decode b_Law_law 29 = .ok (.isub, 1) := by decide +kernel
theorem d_Law_law_30 : decode b_Law_law 30 = .ok (.if_icmp .gt 926, 3) := by decide +kernel
theorem d_Law_law_33 : decode b_Law_law 33 = .ok (.aload_n 0, 1) := by decide +kernel
theorem d_Law_law_34 : decode b_Law_law 34 = .ok (.iload 4, 2) := by decide +kernel
theorem d_Law_law_36 : decode b_Law_law 36 = .ok (.iaload, 1) := by decide +kernel
theorem d_Law_law_37 : decode b_Law_law 37 = .ok (.bipush 15, 2) := by decide +kernel
theorem d_Law_law_39 : decode b_Law_law 39 = .ok (.iand, 1) := by decide +kernel
theorem d_Law_law_40 : decode b_Law_law 40 = .ok (.tableswitch 910 0 12 #[68, 160, 240, 344, 400, 468, 493, 506, 614, 627, 695, 763, 843], 68) := by decide +kernel
theorem d_Law_law_108 : decode b_Law_law 108 = .ok (.aload_n 1, 1) := by decide +kernel
theorem d_Law_law_109 : decode b_Law_law 109 = .ok (.aload_n 0, 1) := by decide +kernel
theorem d_Law_law_110 : decode b_Law_law 110 = .ok (.iload 4, 2) := by decide +kernel
theorem d_Law_law_112 : decode b_Law_law 112 = .ok (.iconst 1, 1) := by decide +kernel
theorem d_Law_law_113 : decode b_Law_law 113 = .ok (.iadd, 1) := by decide +kernel
theorem d_Law_law_114 : decode b_Law_law 114 = .ok (.iaload, 1) := by decide +kernel
theorem d_Law_law_115 : decode b_Law_law 115 = .ok (.aload_n 0, 1) := by decide +kernel
theorem d_Law_law_116 : decode b_Law_law 116 = .ok (.iload 4, 2) := by decide +kernel
theorem d_Law_law_118 : decode b_Law_law 118 = .ok (.iconst 2, 1) := by decide +kernel
theorem d_Law_law_119 : decode b_Law_law 119 = .ok (.iadd, 1) := by decide +kernel
theorem d_Law_law_120 : decode b_Law_law 120 = .ok (.iaload, 1) := by decide +kernel
theorem d_Law_law_121 : decode b_Law_law 121 = .ok (.aload_n 0, 1) := by decide +kernel
theorem d_Law_law_122 : decode b_Law_law 122 = .ok (.iload 4, 2) := by decide +kernel
theorem d_Law_law_124 : decode b_Law_law 124 = .ok (.iconst 3, 1) := by decide +kernel
theorem d_Law_law_125 : decode b_Law_law 125 = .ok (.iadd, 1) := by decide +kernel
theorem d_Law_law_126 : decode b_Law_law 126 = .ok (.iaload, 1) := by decide +kernel
theorem d_Law_law_127 : decode b_Law_law 127 = .ok (.aload_n 0, 1) := by decide +kernel
theorem d_Law_law_128 : decode b_Law_law 128 = .ok (.iload 4, 2) := by decide +kernel
theorem d_Law_law_130 : decode b_Law_law 130 = .ok (.iconst 4, 1) := by decide +kernel
theorem d_Law_law_131 : decode b_Law_law 131 = .ok (.iadd, 1) := by decide +kernel
theorem d_Law_law_132 : decode b_Law_law 132 = .ok (.iaload, 1) := by decide +kernel
theorem d_Law_law_133 : decode b_Law_law 133 = .ok (.aload_n 3, 1) := by decide +kernel
theorem d_Law_law_134 : decode b_Law_law 134 = .ok (.invokestatic 58, 3) := by decide +kernel
theorem d_Law_law_137 : decode b_Law_law 137 = .ok (.istore 5, 2) := by decide +kernel
theorem d_Law_law_139 : decode b_Law_law 139 = .ok (.aload_n 2, 1) := by decide +kernel
theorem d_Law_law_140 : decode b_Law_law 140 = .ok (.aload_n 0, 1) := by decide +kernel
theorem d_Law_law_141 : decode b_Law_law 141 = .ok (.iload 4, 2) := by decide +kernel
theorem d_Law_law_143 : decode b_Law_law 143 = .ok (.iconst 1, 1) := by decide +kernel
theorem d_Law_law_144 : decode b_Law_law 144 = .ok (.iadd, 1) := by decide +kernel
theorem d_Law_law_145 : decode b_Law_law 145 = .ok (.iaload, 1) := by decide +kernel
theorem d_Law_law_146 : decode b_Law_law 146 = .ok (.aload_n 0, 1) := by decide +kernel
theorem d_Law_law_147 : decode b_Law_law 147 = .ok (.iload 4, 2) := by decide +kernel
theorem d_Law_law_149 : decode b_Law_law 149 = .ok (.iconst 2, 1) := by decide +kernel
theorem d_Law_law_150 : decode b_Law_law 150 = .ok (.iadd, 1) := by decide +kernel
theorem d_Law_law_151 : decode b_Law_law 151 = .ok (.iaload, 1) := by decide +kernel
theorem d_Law_law_152 : decode b_Law_law 152 = .ok (.aload_n 0, 1) := by decide +kernel
theorem d_Law_law_153 : decode b_Law_law 153 = .ok (.iload 4, 2) := by decide +kernel
theorem d_Law_law_155 : decode b_Law_law 155 = .ok (.iconst 3, 1) := by decide +kernel
theorem d_Law_law_156 : decode b_Law_law 156 = .ok (.iadd, 1) := by decide +kernel
theorem d_Law_law_157 : decode b_Law_law 157 = .ok (.iaload, 1) := by decide +kernel
theorem d_Law_law_158 : decode b_Law_law 158 = .ok (.aload_n 0, 1) := by decide +kernel
theorem d_Law_law_159 : decode b_Law_law 159 = .ok (.iload 4, 2) := by decide +kernel
theorem d_Law_law_161 : decode b_Law_law 161 = .ok (.iconst 4, 1) := by decide +kernel
theorem d_Law_law_162 : decode b_Law_law 162 = .ok (.iadd, 1) := by decide +kernel
theorem d_Law_law_163 : decode b_Law_law 163 = .ok (.iaload, 1) := by decide +kernel
theorem d_Law_law_164 : decode b_Law_law 164 = .ok (.invokevirtual 63, 3) := by decide +kernel
theorem d_Law_law_167 : decode b_Law_law 167 = .ok (.istore 6, 2) := by decide +kernel
theorem d_Law_law_169 : decode b_Law_law 169 = .ok (.aload_n 2, 1) := by decide +kernel
theorem d_Law_law_170 : decode b_Law_law 170 = .ok (.invokevirtual 64, 3) := by decide +kernel
theorem d_Law_law_173 : decode b_Law_law 173 = .ok (.iload 5, 2) := by decide +kernel
theorem d_Law_law_175 : decode b_Law_law 175 = .ok (.if_icmp .eq 5, 3) := by decide +kernel
theorem d_Law_law_178 : decode b_Law_law 178 = .ok (.iconst 0, 1) := by decide +kernel
theorem d_Law_law_179 : decode b_Law_law 179 = .ok (.ireturn, 1) := by decide +kernel
theorem d_Law_law_180 : decode b_Law_law 180 = .ok (.iload 5, 2) := by decide +kernel
theorem d_Law_law_182 : decode b_Law_law 182 = .ok (.ifCond .ne 15, 3) := by decide +kernel
theorem d_Law_law_185 : decode b_Law_law 185 = .ok (.aload_n 3, 1) := by decide +kernel
theorem d_Law_law_186 : decode b_Law_law 186 = .ok (.iconst 0, 1) := by decide +kernel
theorem d_Law_law_187 : decode b_Law_law 187 = .ok (.laload, 1) := by decide +kernel
theorem d_Law_law_188 : decode b_Law_law 188 = .ok (.iload 6, 2) := by decide +kernel
theorem d_Law_law_190 : decode b_Law_law 190 = .ok (.i2l, 1) := by decide +kernel
theorem d_Law_law_191 : decode b_Law_law 191 = .ok (.lcmp, 1) := by decide +kernel
theorem d_Law_law_192 : decode b_Law_law 192 = .ok (.ifCond .eq 5, 3) := by decide +kernel
theorem d_Law_law_195 : decode b_Law_law 195 = .ok (.iconst 0, 1) := by decide +kernel
theorem d_Law_law_196 : decode b_Law_law 196 = .ok (.ireturn, 1) := by decide +kernel
theorem d_Law_law_197 : decode b_Law_law 197 = .ok (.goto 753, 3) := by decide +kernel
theorem d_Law_law_200 : decode b_Law_law 200 = .ok (.aload_n 1, 1) := by decide +kernel
theorem d_Law_law_201 : decode b_Law_law 201 = .ok (.aload_n 0, 1) := by decide +kernel
theorem d_Law_law_202 : decode b_Law_law 202 = .ok (.iload 4, 2) := by decide +kernel
theorem d_Law_law_204 : decode b_Law_law 204 = .ok (.iconst 1, 1) := by decide +kernel
theorem d_Law_law_205 : decode b_Law_law 205 = .ok (.iadd, 1) := by decide +kernel
theorem d_Law_law_206 : decode b_Law_law 206 = .ok (.iaload, 1) := by decide +kernel
theorem d_Law_law_207 : decode b_Law_law 207 = .ok (.aload_n 0, 1) := by decide +kernel
theorem d_Law_law_208 : decode b_Law_law 208 = .ok (.iload 4, 2) := by decide +kernel
theorem d_Law_law_210 : decode b_Law_law 210 = .ok (.iconst 2, 1) := by decide +kernel
theorem d_Law_law_211 : decode b_Law_law 211 = .ok (.iadd, 1) := by decide +kernel
theorem d_Law_law_212 : decode b_Law_law 212 = .ok (.iaload, 1) := by decide +kernel
theorem d_Law_law_213 : decode b_Law_law 213 = .ok (.aload_n 0, 1) := by decide +kernel
theorem d_Law_law_214 : decode b_Law_law 214 = .ok (.iload 4, 2) := by decide +kernel
theorem d_Law_law_216 : decode b_Law_law 216 = .ok (.iconst 3, 1) := by decide +kernel
theorem d_Law_law_217 : decode b_Law_law 217 = .ok (.iadd, 1) := by decide +kernel
theorem d_Law_law_218 : decode b_Law_law 218 = .ok (.iaload, 1) := by decide +kernel
theorem d_Law_law_219 : decode b_Law_law 219 = .ok (.aload_n 3, 1) := by decide +kernel
theorem d_Law_law_220 : decode b_Law_law 220 = .ok (.invokestatic 68, 3) := by decide +kernel
theorem d_Law_law_223 : decode b_Law_law 223 = .ok (.istore 5, 2) := by decide +kernel
theorem d_Law_law_225 : decode b_Law_law 225 = .ok (.aload_n 2, 1) := by decide +kernel
theorem d_Law_law_226 : decode b_Law_law 226 = .ok (.aload_n 0, 1) := by decide +kernel
theorem d_Law_law_227 : decode b_Law_law 227 = .ok (.iload 4, 2) := by decide +kernel
theorem d_Law_law_229 : decode b_Law_law 229 = .ok (.iconst 1, 1) := by decide +kernel
theorem d_Law_law_230 : decode b_Law_law 230 = .ok (.iadd, 1) := by decide +kernel
theorem d_Law_law_231 : decode b_Law_law 231 = .ok (.iaload, 1) := by decide +kernel
theorem d_Law_law_232 : decode b_Law_law 232 = .ok (.aload_n 0, 1) := by decide +kernel
theorem d_Law_law_233 : decode b_Law_law 233 = .ok (.iload 4, 2) := by decide +kernel
theorem d_Law_law_235 : decode b_Law_law 235 = .ok (.iconst 2, 1) := by decide +kernel
theorem d_Law_law_236 : decode b_Law_law 236 = .ok (.iadd, 1) := by decide +kernel
theorem d_Law_law_237 : decode b_Law_law 237 = .ok (.iaload, 1) := by decide +kernel
theorem d_Law_law_238 : decode b_Law_law 238 = .ok (.aload_n 0, 1) := by decide +kernel
theorem d_Law_law_239 : decode b_Law_law 239 = .ok (.iload 4, 2) := by decide +kernel
theorem d_Law_law_241 : decode b_Law_law 241 = .ok (.iconst 3, 1) := by decide +kernel
theorem d_Law_law_242 : decode b_Law_law 242 = .ok (.iadd, 1) := by decide +kernel
theorem d_Law_law_243 : decode b_Law_law 243 = .ok (.iaload, 1) := by decide +kernel
theorem d_Law_law_244 : decode b_Law_law 244 = .ok (.invokevirtual 71, 3) := by decide +kernel
theorem d_Law_law_247 : decode b_Law_law 247 = .ok (.istore 6, 2) := by decide +kernel
theorem d_Law_law_249 : decode b_Law_law 249 = .ok (.aload_n 2, 1) := by decide +kernel
theorem d_Law_law_250 : decode b_Law_law 250 = .ok (.invokevirtual 64, 3) := by decide +kernel
theorem d_Law_law_253 : decode b_Law_law 253 = .ok (.iload 5, 2) := by decide +kernel
theorem d_Law_law_255 : decode b_Law_law 255 = .ok (.if_icmp .eq 5, 3) := by decide +kernel
theorem d_Law_law_258 : decode b_Law_law 258 = .ok (.iconst 0, 1) := by decide +kernel
theorem d_Law_law_259 : decode b_Law_law 259 = .ok (.ireturn, 1) := by decide +kernel
theorem d_Law_law_260 : decode b_Law_law 260 = .ok (.iload 5, 2) := by decide +kernel
theorem d_Law_law_262 : decode b_Law_law 262 = .ok (.ifCond .ne 15, 3) := by decide +kernel
theorem d_Law_law_265 : decode b_Law_law 265 = .ok (.aload_n 3, 1) := by decide +kernel
theorem d_Law_law_266 : decode b_Law_law 266 = .ok (.iconst 0, 1) := by decide +kernel
theorem d_Law_law_267 : decode b_Law_law 267 = .ok (.laload, 1) := by decide +kernel
theorem d_Law_law_268 : decode b_Law_law 268 = .ok (.iload 6, 2) := by decide +kernel
theorem d_Law_law_270 : decode b_Law_law 270 = .ok (.i2l, 1) := by decide +kernel
theorem d_Law_law_271 : decode b_Law_law 271 = .ok (.lcmp, 1) := by decide +kernel
theorem d_Law_law_272 : decode b_Law_law 272 = .ok (.ifCond .eq 5, 3) := by decide +kernel
theorem d_Law_law_275 : decode b_Law_law 275 = .ok (.iconst 0, 1) := by decide +kernel
theorem d_Law_law_276 : decode b_Law_law 276 = .ok (.ireturn, 1) := by decide +kernel
theorem d_Law_law_277 : decode b_Law_law 277 = .ok (.goto 673, 3) := by decide +kernel
theorem d_Law_law_280 : decode b_Law_law 280 = .ok (.aload_n 1, 1) := by decide +kernel
theorem d_Law_law_281 : decode b_Law_law 281 = .ok (.aload_n 0, 1) := by decide +kernel
theorem d_Law_law_282 : decode b_Law_law 282 = .ok (.iload 4, 2) := by decide +kernel
theorem d_Law_law_284 : decode b_Law_law 284 = .ok (.iconst 1, 1) := by decide +kernel
theorem d_Law_law_285 : decode b_Law_law 285 = .ok (.iadd, 1) := by decide +kernel
theorem d_Law_law_286 : decode b_Law_law 286 = .ok (.iaload, 1) := by decide +kernel
theorem d_Law_law_287 : decode b_Law_law 287 = .ok (.aload_n 0, 1) := by decide +kernel
theorem d_Law_law_288 : decode b_Law_law 288 = .ok (.iload 4, 2) := by decide +kernel
theorem d_Law_law_290 : decode b_Law_law 290 = .ok (.iconst 2, 1) := by decide +kernel
theorem d_Law_law_291 : decode b_Law_law 291 = .ok (.iadd, 1) := by decide +kernel
theorem d_Law_law_292 : decode b_Law_law 292 = .ok (.iaload, 1) := by decide +kernel
theorem d_Law_law_293 : decode b_Law_law 293 = .ok (.aload_n 0, 1) := by decide +kernel
theorem d_Law_law_294 : decode b_Law_law 294 = .ok (.iload 4, 2) := by decide +kernel
theorem d_Law_law_296 : decode b_Law_law 296 = .ok (.iconst 3, 1) := by decide +kernel
theorem d_Law_law_297 : decode b_Law_law 297 = .ok (.iadd, 1) := by decide +kernel
theorem d_Law_law_298 : decode b_Law_law 298 = .ok (.iaload, 1) := by decide +kernel
theorem d_Law_law_299 : decode b_Law_law 299 = .ok (.aload_n 0, 1) := by decide +kernel
theorem d_Law_law_300 : decode b_Law_law 300 = .ok (.iload 4, 2) := by decide +kernel
theorem d_Law_law_302 : decode b_Law_law 302 = .ok (.iconst 4, 1) := by decide +kernel
theorem d_Law_law_303 : decode b_Law_law 303 = .ok (.iadd, 1) := by decide +kernel
theorem d_Law_law_304 : decode b_Law_law 304 = .ok (.iaload, 1) := by decide +kernel
theorem d_Law_law_305 : decode b_Law_law 305 = .ok (.aload_n 0, 1) := by decide +kernel
theorem d_Law_law_306 : decode b_Law_law 306 = .ok (.iload 4, 2) := by decide +kernel
theorem d_Law_law_308 : decode b_Law_law 308 = .ok (.iconst 5, 1) := by decide +kernel
theorem d_Law_law_309 : decode b_Law_law 309 = .ok (.iadd, 1) := by decide +kernel
theorem d_Law_law_310 : decode b_Law_law 310 = .ok (.iaload, 1) := by decide +kernel
theorem d_Law_law_311 : decode b_Law_law 311 = .ok (.aload_n 3, 1) := by decide +kernel
theorem d_Law_law_312 : decode b_Law_law 312 = .ok (.invokestatic 72, 3) := by decide +kernel
theorem d_Law_law_315 : decode b_Law_law 315 = .ok (.istore 5, 2) := by decide +kernel
theorem d_Law_law_317 : decode b_Law_law 317 = .ok (.aload_n 2, 1) := by decide +kernel
theorem d_Law_law_318 : decode b_Law_law 318 = .ok (.aload_n 0, 1) := by decide +kernel
theorem d_Law_law_319 : decode b_Law_law 319 = .ok (.iload 4, 2) := by decide +kernel
theorem d_Law_law_321 : decode b_Law_law 321 = .ok (.iconst 1, 1) := by decide +kernel
theorem d_Law_law_322 : decode b_Law_law 322 = .ok (.iadd, 1) := by decide +kernel
theorem d_Law_law_323 : decode b_Law_law 323 = .ok (.iaload, 1) := by decide +kernel
theorem d_Law_law_324 : decode b_Law_law 324 = .ok (.aload_n 0, 1) := by decide +kernel
theorem d_Law_law_325 : decode b_Law_law 325 = .ok (.iload 4, 2) := by decide +kernel
theorem d_Law_law_327 : decode b_Law_law 327 = .ok (.iconst 2, 1) := by decide +kernel
theorem d_Law_law_328 : decode b_Law_law 328 = .ok (.iadd, 1) := by decide +kernel
theorem d_Law_law_329 : decode b_Law_law 329 = .ok (.iaload, 1) := by decide +kernel
theorem d_Law_law_330 : decode b_Law_law 330 = .ok (.aload_n 0, 1) := by decide +kernel
theorem d_Law_law_331 : decode b_Law_law 331 = .ok (.iload 4, 2) := by decide +kernel
theorem d_Law_law_333 : decode b_Law_law 333 = .ok (.iconst 3, 1) := by decide +kernel
theorem d_Law_law_334 : decode b_Law_law 334 = .ok (.iadd, 1) := by decide +kernel
theorem d_Law_law_335 : decode b_Law_law 335 = .ok (.iaload, 1) := by decide +kernel
theorem d_Law_law_336 : decode b_Law_law 336 = .ok (.aload_n 0, 1) := by decide +kernel
theorem d_Law_law_337 : decode b_Law_law 337 = .ok (.iload 4, 2) := by decide +kernel
theorem d_Law_law_339 : decode b_Law_law 339 = .ok (.iconst 4, 1) := by decide +kernel
theorem d_Law_law_340 : decode b_Law_law 340 = .ok (.iadd, 1) := by decide +kernel
theorem d_Law_law_341 : decode b_Law_law 341 = .ok (.iaload, 1) := by decide +kernel
theorem d_Law_law_342 : decode b_Law_law 342 = .ok (.aload_n 0, 1) := by decide +kernel
theorem d_Law_law_343 : decode b_Law_law 343 = .ok (.iload 4, 2) := by decide +kernel
theorem d_Law_law_345 : decode b_Law_law 345 = .ok (.iconst 5, 1) := by decide +kernel
theorem d_Law_law_346 : decode b_Law_law 346 = .ok (.iadd, 1) := by decide +kernel
theorem d_Law_law_347 : decode b_Law_law 347 = .ok (.iaload, 1) := by decide +kernel
theorem d_Law_law_348 : decode b_Law_law 348 = .ok (.invokevirtual 75, 3) := by decide +kernel
theorem d_Law_law_351 : decode b_Law_law 351 = .ok (.istore 6, 2) := by decide +kernel
theorem d_Law_law_353 : decode b_Law_law 353 = .ok (.aload_n 2, 1) := by decide +kernel
theorem d_Law_law_354 : decode b_Law_law 354 = .ok (.invokevirtual 64, 3) := by decide +kernel
theorem d_Law_law_357 : decode b_Law_law 357 = .ok (.iload 5, 2) := by decide +kernel
theorem d_Law_law_359 : decode b_Law_law 359 = .ok (.if_icmp .eq 5, 3) := by decide +kernel
theorem d_Law_law_362 : decode b_Law_law 362 = .ok (.iconst 0, 1) := by decide +kernel
theorem d_Law_law_363 : decode b_Law_law 363 = .ok (.ireturn, 1) := by decide +kernel
theorem d_Law_law_364 : decode b_Law_law 364 = .ok (.iload 5, 2) := by decide +kernel
theorem d_Law_law_366 : decode b_Law_law 366 = .ok (.ifCond .ne 15, 3) := by decide +kernel
theorem d_Law_law_369 : decode b_Law_law 369 = .ok (.aload_n 3, 1) := by decide +kernel
theorem d_Law_law_370 : decode b_Law_law 370 = .ok (.iconst 0, 1) := by decide +kernel
theorem d_Law_law_371 : decode b_Law_law 371 = .ok (.laload, 1) := by decide +kernel
theorem d_Law_law_372 : decode b_Law_law 372 = .ok (.iload 6, 2) := by decide +kernel
theorem d_Law_law_374 : decode b_Law_law 374 = .ok (.i2l, 1) := by decide +kernel
theorem d_Law_law_375 : decode b_Law_law 375 = .ok (.lcmp, 1) := by decide +kernel
theorem d_Law_law_376 : decode b_Law_law 376 = .ok (.ifCond .eq 5, 3) := by decide +kernel
theorem d_Law_law_379 : decode b_Law_law 379 = .ok (.iconst 0, 1) := by decide +kernel
theorem d_Law_law_380 : decode b_Law_law 380 = .ok (.ireturn, 1) := by decide +kernel
theorem d_Law_law_381 : decode b_Law_law 381 = .ok (.goto 569, 3) := by decide +kernel
theorem d_Law_law_384 : decode b_Law_law 384 = .ok (.aload_n 1, 1) := by decide +kernel
theorem d_Law_law_385 : decode b_Law_law 385 = .ok (.aload_n 0, 1) := by decide +kernel
theorem d_Law_law_386 : decode b_Law_law 386 = .ok (.iload 4, 2) := by decide +kernel
theorem d_Law_law_388 : decode b_Law_law 388 = .ok (.iconst 1, 1) := by decide +kernel
theorem d_Law_law_389 : decode b_Law_law 389 = .ok (.iadd, 1) := by decide +kernel
theorem d_Law_law_390 : decode b_Law_law 390 = .ok (.iaload, 1) := by decide +kernel
theorem d_Law_law_391 : decode b_Law_law 391 = .ok (.aload_n 3, 1) := by decide +kernel
theorem d_Law_law_392 : decode b_Law_law 392 = .ok (.invokestatic 76, 3) := by decide +kernel
theorem d_Law_law_395 : decode b_Law_law 395 = .ok (.istore 5, 2) := by decide +kernel
theorem d_Law_law_397 : decode b_Law_law 397 = .ok (.aload_n 2, 1) := by decide +kernel
theorem d_Law_law_398 : decode b_Law_law 398 = .ok (.aload_n 0, 1) := by decide +kernel
theorem d_Law_law_399 : decode b_Law_law 399 = .ok (.iload 4, 2) := by decide +kernel
theorem d_Law_law_401 : decode b_Law_law 401 = .ok (.iconst 1, 1) := by decide +kernel
theorem d_Law_law_402 : decode b_Law_law 402 = .ok (.iadd, 1) := by decide +kernel
theorem d_Law_law_403 : decode b_Law_law 403 = .ok (.iaload, 1) := by decide +kernel
theorem d_Law_law_404 : decode b_Law_law 404 = .ok (.invokevirtual 79, 3) := by decide +kernel
theorem d_Law_law_407 : decode b_Law_law 407 = .ok (.istore 6, 2) := by decide +kernel
theorem d_Law_law_409 : decode b_Law_law 409 = .ok (.aload_n 2, 1) := by decide +kernel
theorem d_Law_law_410 : decode b_Law_law 410 = .ok (.invokevirtual 64, 3) := by decide +kernel
theorem d_Law_law_413 : decode b_Law_law 413 = .ok (.iload 5, 2) := by decide +kernel
theorem d_Law_law_415 : decode b_Law_law 415 = .ok (.if_icmp .eq 5, 3) := by decide +kernel
theorem d_Law_law_418 : decode b_Law_law 418 = .ok (.iconst 0, 1) := by decide +kernel
theorem d_Law_law_419 : decode b_Law_law 419 = .ok (.ireturn, 1) := by decide +kernel
theorem d_Law_law_420 : decode b_Law_law 420 = .ok (.iload 5, 2) := by decide +kernel
theorem d_Law_law_422 : decode b_Law_law 422 = .ok (.ifCond .ne 15, 3) := by decide +kernel
theorem d_Law_law_425 : decode b_Law_law 425 = .ok (.aload_n 3, 1) := by decide +kernel
theorem d_Law_law_426 : decode b_Law_law 426 = .ok (.iconst 0, 1) := by decide +kernel
theorem d_Law_law_427 : decode b_Law_law 427 = .ok (.laload, 1) := by decide +kernel
theorem d_Law_law_428 : decode b_Law_law 428 = .ok (.iload 6, 2) := by decide +kernel
theorem d_Law_law_430 : decode b_Law_law 430 = .ok (.i2l, 1) := by decide +kernel
theorem d_Law_law_431 : decode b_Law_law 431 = .ok (.lcmp, 1) := by decide +kernel
theorem d_Law_law_432 : decode b_Law_law 432 = .ok (.ifCond .eq 5, 3) := by decide +kernel
theorem d_Law_law_435 : decode b_Law_law 435 = .ok (.iconst 0, 1) := by decide +kernel
theorem d_Law_law_436 : decode b_Law_law 436 = .ok (.ireturn, 1) := by decide +kernel
theorem d_Law_law_437 : decode b_Law_law 437 = .ok (.goto 513, 3) := by decide +kernel
theorem d_Law_law_440 : decode b_Law_law 440 = .ok (.aload_n 1, 1) := by decide +kernel
theorem d_Law_law_441 : decode b_Law_law 441 = .ok (.aload_n 0, 1) := by decide +kernel
theorem d_Law_law_442 : decode b_Law_law 442 = .ok (.iload 4, 2) := by decide +kernel
theorem d_Law_law_444 : decode b_Law_law 444 = .ok (.iconst 1, 1) := by decide +kernel
theorem d_Law_law_445 : decode b_Law_law 445 = .ok (.iadd, 1) := by decide +kernel
theorem d_Law_law_446 : decode b_Law_law 446 = .ok (.iaload, 1) := by decide +kernel
theorem d_Law_law_447 : decode b_Law_law 447 = .ok (.aload_n 0, 1) := by decide +kernel
theorem d_Law_law_448 : decode b_Law_law 448 = .ok (.iload 4, 2) := by decide +kernel
theorem d_Law_law_450 : decode b_Law_law 450 = .ok (.iconst 2, 1) := by decide +kernel
theorem d_Law_law_451 : decode b_Law_law 451 = .ok (.iadd, 1) := by decide +kernel
theorem d_Law_law_452 : decode b_Law_law 452 = .ok (.iaload, 1) := by decide +kernel
theorem d_Law_law_453 : decode b_Law_law 453 = .ok (.aload_n 3, 1) := by decide +kernel
theorem d_Law_law_454 : decode b_Law_law 454 = .ok (.invokestatic 80, 3) := by decide +kernel
theorem d_Law_law_457 : decode b_Law_law 457 = .ok (.istore 5, 2) := by decide +kernel
theorem d_Law_law_459 : decode b_Law_law 459 = .ok (.aload_n 2, 1) := by decide +kernel
theorem d_Law_law_460 : decode b_Law_law 460 = .ok (.aload_n 0, 1) := by decide +kernel
theorem d_Law_law_461 : decode b_Law_law 461 = .ok (.iload 4, 2) := by decide +kernel
theorem d_Law_law_463 : decode b_Law_law 463 = .ok (.iconst 1, 1) := by decide +kernel
theorem d_Law_law_464 : decode b_Law_law 464 = .ok (.iadd, 1) := by decide +kernel
theorem d_Law_law_465 : decode b_Law_law 465 = .ok (.iaload, 1) := by decide +kernel
theorem d_Law_law_466 : decode b_Law_law 466 = .ok (.aload_n 0, 1) := by decide +kernel
theorem d_Law_law_467 : decode b_Law_law 467 = .ok (.iload 4, 2) := by decide +kernel
theorem d_Law_law_469 : decode b_Law_law 469 = .ok (.iconst 2, 1) := by decide +kernel
theorem d_Law_law_470 : decode b_Law_law 470 = .ok (.iadd, 1) := by decide +kernel
theorem d_Law_law_471 : decode b_Law_law 471 = .ok (.iaload, 1) := by decide +kernel
theorem d_Law_law_472 : decode b_Law_law 472 = .ok (.invokevirtual 83, 3) := by decide +kernel
theorem d_Law_law_475 : decode b_Law_law 475 = .ok (.istore 6, 2) := by decide +kernel
theorem d_Law_law_477 : decode b_Law_law 477 = .ok (.aload_n 2, 1) := by decide +kernel
theorem d_Law_law_478 : decode b_Law_law 478 = .ok (.invokevirtual 64, 3) := by decide +kernel
theorem d_Law_law_481 : decode b_Law_law 481 = .ok (.iload 5, 2) := by decide +kernel
theorem d_Law_law_483 : decode b_Law_law 483 = .ok (.if_icmp .eq 5, 3) := by decide +kernel
theorem d_Law_law_486 : decode b_Law_law 486 = .ok (.iconst 0, 1) := by decide +kernel
theorem d_Law_law_487 : decode b_Law_law 487 = .ok (.ireturn, 1) := by decide +kernel
theorem d_Law_law_488 : decode b_Law_law 488 = .ok (.iload 5, 2) := by decide +kernel
theorem d_Law_law_490 : decode b_Law_law 490 = .ok (.ifCond .ne 15, 3) := by decide +kernel
theorem d_Law_law_493 : decode b_Law_law 493 = .ok (.aload_n 3, 1) := by decide +kernel
theorem d_Law_law_494 : decode b_Law_law 494 = .ok (.iconst 0, 1) := by decide +kernel
theorem d_Law_law_495 : decode b_Law_law 495 = .ok (.laload, 1) := by decide +kernel
theorem d_Law_law_496 : decode b_Law_law 496 = .ok (.iload 6, 2) := by decide +kernel
theorem d_Law_law_498 : decode b_Law_law 498 = .ok (.i2l, 1) := by decide +kernel
theorem d_Law_law_499 : decode b_Law_law 499 = .ok (.lcmp, 1) := by decide +kernel
theorem d_Law_law_500 : decode b_Law_law 500 = .ok (.ifCond .eq 5, 3) := by decide +kernel
theorem d_Law_law_503 : decode b_Law_law 503 = .ok (.iconst 0, 1) := by decide +kernel
theorem d_Law_law_504 : decode b_Law_law 504 = .ok (.ireturn, 1) := by decide +kernel
theorem d_Law_law_505 : decode b_Law_law 505 = .ok (.goto 445, 3) := by decide +kernel
theorem d_Law_law_508 : decode b_Law_law 508 = .ok (.aload_n 1, 1) := by decide +kernel
theorem d_Law_law_509 : decode b_Law_law 509 = .ok (.aload_n 0, 1) := by decide +kernel
theorem d_Law_law_510 : decode b_Law_law 510 = .ok (.iload 4, 2) := by decide +kernel
theorem d_Law_law_512 : decode b_Law_law 512 = .ok (.iconst 1, 1) := by decide +kernel
theorem d_Law_law_513 : decode b_Law_law 513 = .ok (.iadd, 1) := by decide +kernel
theorem d_Law_law_514 : decode b_Law_law 514 = .ok (.iaload, 1) := by decide +kernel
theorem d_Law_law_515 : decode b_Law_law 515 = .ok (.invokevirtual 84, 3) := by decide +kernel
theorem d_Law_law_518 : decode b_Law_law 518 = .ok (.aload_n 2, 1) := by decide +kernel
theorem d_Law_law_519 : decode b_Law_law 519 = .ok (.aload_n 0, 1) := by decide +kernel
theorem d_Law_law_520 : decode b_Law_law 520 = .ok (.iload 4, 2) := by decide +kernel
theorem d_Law_law_522 : decode b_Law_law 522 = .ok (.iconst 1, 1) := by decide +kernel
theorem d_Law_law_523 : decode b_Law_law 523 = .ok (.iadd, 1) := by decide +kernel
theorem d_Law_law_524 : decode b_Law_law 524 = .ok (.iaload, 1) := by decide +kernel
theorem d_Law_law_525 : decode b_Law_law 525 = .ok (.invokevirtual 88, 3) := by decide +kernel
theorem d_Law_law_528 : decode b_Law_law 528 = .ok (.if_icmp .eq 422, 3) := by decide +kernel
theorem d_Law_law_531 : decode b_Law_law 531 = .ok (.iconst 0, 1) := by decide +kernel
theorem d_Law_law_532 : decode b_Law_law 532 = .ok (.ireturn, 1) := by decide +kernel
theorem d_Law_law_533 : decode b_Law_law 533 = .ok (.aload_n 1, 1) := by decide +kernel
theorem d_Law_law_534 : decode b_Law_law 534 = .ok (.invokevirtual 89, 3) := by decide +kernel
theorem d_Law_law_537 : decode b_Law_law 537 = .ok (.aload_n 2, 1) := by decide +kernel
theorem d_Law_law_538 : decode b_Law_law 538 = .ok (.invokevirtual 92, 3) := by decide +kernel
theorem d_Law_law_541 : decode b_Law_law 541 = .ok (.if_icmp .eq 409, 3) := by decide +kernel
theorem d_Law_law_544 : decode b_Law_law 544 = .ok (.iconst 0, 1) := by decide +kernel
theorem d_Law_law_545 : decode b_Law_law 545 = .ok (.ireturn, 1) := by decide +kernel
theorem d_Law_law_546 : decode b_Law_law 546 = .ok (.aload_n 1, 1) := by decide +kernel
theorem d_Law_law_547 : decode b_Law_law 547 = .ok (.aload_n 0, 1) := by decide +kernel
theorem d_Law_law_548 : decode b_Law_law 548 = .ok (.iload 4, 2) := by decide +kernel
theorem d_Law_law_550 : decode b_Law_law 550 = .ok (.iconst 1, 1) := by decide +kernel
theorem d_Law_law_551 : decode b_Law_law 551 = .ok (.iadd, 1) := by decide +kernel
theorem d_Law_law_552 : decode b_Law_law 552 = .ok (.iaload, 1) := by decide +kernel
theorem d_Law_law_553 : decode b_Law_law 553 = .ok (.ifCond .eq 7, 3) := by decide +kernel
theorem d_Law_law_556 : decode b_Law_law 556 = .ok (.iconst 1, 1) := by decide +kernel
theorem d_Law_law_557 : decode b_Law_law 557 = .ok (.goto 4, 3) := by decide +kernel
theorem d_Law_law_560 : decode b_Law_law 560 = .ok (.iconst 0, 1) := by decide +kernel
theorem d_Law_law_561 : decode b_Law_law 561 = .ok (.aload_n 0, 1) := by decide +kernel
theorem d_Law_law_562 : decode b_Law_law 562 = .ok (.iload 4, 2) := by decide +kernel
theorem d_Law_law_564 : decode b_Law_law 564 = .ok (.iconst 2, 1) := by decide +kernel
theorem d_Law_law_565 : decode b_Law_law 565 = .ok (.iadd, 1) := by decide +kernel
theorem d_Law_law_566 : decode b_Law_law 566 = .ok (.iaload, 1) := by decide +kernel
theorem d_Law_law_567 : decode b_Law_law 567 = .ok (.aload_n 0, 1) := by decide +kernel
theorem d_Law_law_568 : decode b_Law_law 568 = .ok (.iload 4, 2) := by decide +kernel
theorem d_Law_law_570 : decode b_Law_law 570 = .ok (.iconst 3, 1) := by decide +kernel
theorem d_Law_law_571 : decode b_Law_law 571 = .ok (.iadd, 1) := by decide +kernel
theorem d_Law_law_572 : decode b_Law_law 572 = .ok (.iaload, 1) := by decide +kernel
theorem d_Law_law_573 : decode b_Law_law 573 = .ok (.aload_n 0, 1) := by decide +kernel
theorem d_Law_law_574 : decode b_Law_law 574 = .ok (.iload 4, 2) := by decide +kernel
theorem d_Law_law_576 : decode b_Law_law 576 = .ok (.iconst 4, 1) := by decide +kernel
theorem d_Law_law_577 : decode b_Law_law 577 = .ok (.iadd, 1) := by decide +kernel
theorem d_Law_law_578 : decode b_Law_law 578 = .ok (.iaload, 1) := by decide +kernel
theorem d_Law_law_579 : decode b_Law_law 579 = .ok (.aload_n 3, 1) := by decide +kernel
theorem d_Law_law_580 : decode b_Law_law 580 = .ok (.invokestatic 93, 3) := by decide +kernel
theorem d_Law_law_583 : decode b_Law_law 583 = .ok (.istore 5, 2) := by decide +kernel
theorem d_Law_law_585 : decode b_Law_law 585 = .ok (.aload_n 2, 1) := by decide +kernel
theorem d_Law_law_586 : decode b_Law_law 586 = .ok (.aload_n 0, 1) := by decide +kernel
theorem d_Law_law_587 : decode b_Law_law 587 = .ok (.iload 4, 2) := by decide +kernel
theorem d_Law_law_589 : decode b_Law_law 589 = .ok (.iconst 1, 1) := by decide +kernel
theorem d_Law_law_590 : decode b_Law_law 590 = .ok (.iadd, 1) := by decide +kernel
theorem d_Law_law_591 : decode b_Law_law 591 = .ok (.iaload, 1) := by decide +kernel
theorem d_Law_law_592 : decode b_Law_law 592 = .ok (.ifCond .eq 7, 3) := by decide +kernel
theorem d_Law_law_595 : decode b_Law_law 595 = .ok (.iconst 1, 1) := by decide +kernel
theorem d_Law_law_596 : decode b_Law_law 596 = .ok (.goto 4, 3) := by decide +kernel
theorem d_Law_law_599 : decode b_Law_law 599 = .ok (.iconst 0, 1) := by decide +kernel
theorem d_Law_law_600 : decode b_Law_law 600 = .ok (.aload_n 0, 1) := by decide +kernel
theorem d_Law_law_601 : decode b_Law_law 601 = .ok (.iload 4, 2) := by decide +kernel
theorem d_Law_law_603 : decode b_Law_law 603 = .ok (.iconst 2, 1) := by decide +kernel
theorem d_Law_law_604 : decode b_Law_law 604 = .ok (.iadd, 1) := by decide +kernel
theorem d_Law_law_605 : decode b_Law_law 605 = .ok (.iaload, 1) := by decide +kernel
theorem d_Law_law_606 : decode b_Law_law 606 = .ok (.aload_n 0, 1) := by decide +kernel
theorem d_Law_law_607 : decode b_Law_law 607 = .ok (.iload 4, 2) := by decide +kernel
theorem d_Law_law_609 : decode b_Law_law 609 = .ok (.iconst 3, 1) := by decide +kernel
theorem d_Law_law_610 : decode b_Law_law 610 = .ok (.iadd, 1) := by decide +kernel
theorem d_Law_law_611 : decode b_Law_law 611 = .ok (.iaload, 1) := by decide +kernel
theorem d_Law_law_612 : decode b_Law_law 612 = .ok (.aload_n 0, 1) := by decide +kernel
theorem d_Law_law_613 : decode b_Law_law 613 = .ok (.iload 4, 2) := by decide +kernel
theorem d_Law_law_615 : decode b_Law_law 615 = .ok (.iconst 4, 1) := by decide +kernel
theorem d_Law_law_616 : decode b_Law_law 616 = .ok (.iadd, 1) := by decide +kernel
theorem d_Law_law_617 : decode b_Law_law 617 = .ok (.iaload, 1) := by decide +kernel
theorem d_Law_law_618 : decode b_Law_law 618 = .ok (.invokevirtual 96, 3) := by decide +kernel
theorem d_Law_law_621 : decode b_Law_law 621 = .ok (.istore 6, 2) := by decide +kernel
theorem d_Law_law_623 : decode b_Law_law 623 = .ok (.aload_n 2, 1) := by decide +kernel
theorem d_Law_law_624 : decode b_Law_law 624 = .ok (.invokevirtual 64, 3) := by decide +kernel
theorem d_Law_law_627 : decode b_Law_law 627 = .ok (.iload 5, 2) := by decide +kernel
theorem d_Law_law_629 : decode b_Law_law 629 = .ok (.if_icmp .eq 5, 3) := by decide +kernel
theorem d_Law_law_632 : decode b_Law_law 632 = .ok (.iconst 0, 1) := by decide +kernel
theorem d_Law_law_633 : decode b_Law_law 633 = .ok (.ireturn, 1) := by decide +kernel
theorem d_Law_law_634 : decode b_Law_law 634 = .ok (.iload 5, 2) := by decide +kernel
theorem d_Law_law_636 : decode b_Law_law 636 = .ok (.ifCond .ne 15, 3) := by decide +kernel
theorem d_Law_law_639 : decode b_Law_law 639 = .ok (.aload_n 3, 1) := by decide +kernel
theorem d_Law_law_640 : decode b_Law_law 640 = .ok (.iconst 0, 1) := by decide +kernel
theorem d_Law_law_641 : decode b_Law_law 641 = .ok (.laload, 1) := by decide +kernel
theorem d_Law_law_642 : decode b_Law_law 642 = .ok (.iload 6, 2) := by decide +kernel
theorem d_Law_law_644 : decode b_Law_law 644 = .ok (.i2l, 1) := by decide +kernel
theorem d_Law_law_645 : decode b_Law_law 645 = .ok (.lcmp, 1) := by decide +kernel
theorem d_Law_law_646 : decode b_Law_law 646 = .ok (.ifCond .eq 5, 3) := by decide +kernel
theorem d_Law_law_649 : decode b_Law_law 649 = .ok (.iconst 0, 1) := by decide +kernel
theorem d_Law_law_650 : decode b_Law_law 650 = .ok (.ireturn, 1) := by decide +kernel
theorem d_Law_law_651 : decode b_Law_law 651 = .ok (.goto 299, 3) := by decide +kernel
theorem d_Law_law_654 : decode b_Law_law 654 = .ok (.aload_n 1, 1) := by decide +kernel
theorem d_Law_law_655 : decode b_Law_law 655 = .ok (.invokevirtual 97, 3) := by decide +kernel
theorem d_Law_law_658 : decode b_Law_law 658 = .ok (.aload_n 2, 1) := by decide +kernel
theorem d_Law_law_659 : decode b_Law_law 659 = .ok (.invokevirtual 100, 3) := by decide +kernel
theorem d_Law_law_662 : decode b_Law_law 662 = .ok (.if_icmp .eq 288, 3) := by decide +kernel
theorem d_Law_law_665 : decode b_Law_law 665 = .ok (.iconst 0, 1) := by decide +kernel
theorem d_Law_law_666 : decode b_Law_law 666 = .ok (.ireturn, 1) := by decide +kernel
theorem d_Law_law_667 : decode b_Law_law 667 = .ok (.aload_n 1, 1) := by decide +kernel
theorem d_Law_law_668 : decode b_Law_law 668 = .ok (.aload_n 0, 1) := by decide +kernel
theorem d_Law_law_669 : decode b_Law_law 669 = .ok (.iload 4, 2) := by decide +kernel
theorem d_Law_law_671 : decode b_Law_law 671 = .ok (.iconst 1, 1) := by decide +kernel
theorem d_Law_law_672 : decode b_Law_law 672 = .ok (.iadd, 1) := by decide +kernel
theorem d_Law_law_673 : decode b_Law_law 673 = .ok (.iaload, 1) := by decide +kernel
theorem d_Law_law_674 : decode b_Law_law 674 = .ok (.aload_n 0, 1) := by decide +kernel
theorem d_Law_law_675 : decode b_Law_law 675 = .ok (.iload 4, 2) := by decide +kernel
theorem d_Law_law_677 : decode b_Law_law 677 = .ok (.iconst 2, 1) := by decide +kernel
theorem d_Law_law_678 : decode b_Law_law 678 = .ok (.iadd, 1) := by decide +kernel
theorem d_Law_law_679 : decode b_Law_law 679 = .ok (.iaload, 1) := by decide +kernel
theorem d_Law_law_680 : decode b_Law_law 680 = .ok (.aload_n 3, 1) := by decide +kernel
theorem d_Law_law_681 : decode b_Law_law 681 = .ok (.invokestatic 101, 3) := by decide +kernel
theorem d_Law_law_684 : decode b_Law_law 684 = .ok (.istore 5, 2) := by decide +kernel
theorem d_Law_law_686 : decode b_Law_law 686 = .ok (.aload_n 2, 1) := by decide +kernel
theorem d_Law_law_687 : decode b_Law_law 687 = .ok (.aload_n 0, 1) := by decide +kernel
theorem d_Law_law_688 : decode b_Law_law 688 = .ok (.iload 4, 2) := by decide +kernel
theorem d_Law_law_690 : decode b_Law_law 690 = .ok (.iconst 1, 1) := by decide +kernel
theorem d_Law_law_691 : decode b_Law_law 691 = .ok (.iadd, 1) := by decide +kernel
theorem d_Law_law_692 : decode b_Law_law 692 = .ok (.iaload, 1) := by decide +kernel
theorem d_Law_law_693 : decode b_Law_law 693 = .ok (.aload_n 0, 1) := by decide +kernel
theorem d_Law_law_694 : decode b_Law_law 694 = .ok (.iload 4, 2) := by decide +kernel
theorem d_Law_law_696 : decode b_Law_law 696 = .ok (.iconst 2, 1) := by decide +kernel
theorem d_Law_law_697 : decode b_Law_law 697 = .ok (.iadd, 1) := by decide +kernel
theorem d_Law_law_698 : decode b_Law_law 698 = .ok (.iaload, 1) := by decide +kernel
theorem d_Law_law_699 : decode b_Law_law 699 = .ok (.invokevirtual 103, 3) := by decide +kernel
theorem d_Law_law_702 : decode b_Law_law 702 = .ok (.istore 6, 2) := by decide +kernel
theorem d_Law_law_704 : decode b_Law_law 704 = .ok (.aload_n 2, 1) := by decide +kernel
theorem d_Law_law_705 : decode b_Law_law 705 = .ok (.invokevirtual 64, 3) := by decide +kernel
theorem d_Law_law_708 : decode b_Law_law 708 = .ok (.iload 5, 2) := by decide +kernel
theorem d_Law_law_710 : decode b_Law_law 710 = .ok (.if_icmp .eq 5, 3) := by decide +kernel
theorem d_Law_law_713 : decode b_Law_law 713 = .ok (.iconst 0, 1) := by decide +kernel
theorem d_Law_law_714 : decode b_Law_law 714 = .ok (.ireturn, 1) := by decide +kernel
theorem d_Law_law_715 : decode b_Law_law 715 = .ok (.iload 5, 2) := by decide +kernel
theorem d_Law_law_717 : decode b_Law_law 717 = .ok (.ifCond .ne 15, 3) := by decide +kernel
theorem d_Law_law_720 : decode b_Law_law 720 = .ok (.aload_n 3, 1) := by decide +kernel
theorem d_Law_law_721 : decode b_Law_law 721 = .ok (.iconst 0, 1) := by decide +kernel
theorem d_Law_law_722 : decode b_Law_law 722 = .ok (.laload, 1) := by decide +kernel
theorem d_Law_law_723 : decode b_Law_law 723 = .ok (.iload 6, 2) := by decide +kernel
theorem d_Law_law_725 : decode b_Law_law 725 = .ok (.i2l, 1) := by decide +kernel
theorem d_Law_law_726 : decode b_Law_law 726 = .ok (.lcmp, 1) := by decide +kernel
theorem d_Law_law_727 : decode b_Law_law 727 = .ok (.ifCond .eq 5, 3) := by decide +kernel
theorem d_Law_law_730 : decode b_Law_law 730 = .ok (.iconst 0, 1) := by decide +kernel
theorem d_Law_law_731 : decode b_Law_law 731 = .ok (.ireturn, 1) := by decide +kernel
theorem d_Law_law_732 : decode b_Law_law 732 = .ok (.goto 218, 3) := by decide +kernel
theorem d_Law_law_735 : decode b_Law_law 735 = .ok (.aload_n 1, 1) := by decide +kernel
theorem d_Law_law_736 : decode b_Law_law 736 = .ok (.aload_n 0, 1) := by decide +kernel
theorem d_Law_law_737 : decode b_Law_law 737 = .ok (.iload 4, 2) := by decide +kernel
theorem d_Law_law_739 : decode b_Law_law 739 = .ok (.iconst 1, 1) := by decide +kernel
theorem d_Law_law_740 : decode b_Law_law 740 = .ok (.iadd, 1) := by decide +kernel
theorem d_Law_law_741 : decode b_Law_law 741 = .ok (.iaload, 1) := by decide +kernel
theorem d_Law_law_742 : decode b_Law_law 742 = .ok (.aload_n 0, 1) := by decide +kernel
theorem d_Law_law_743 : decode b_Law_law 743 = .ok (.iload 4, 2) := by decide +kernel
theorem d_Law_law_745 : decode b_Law_law 745 = .ok (.iconst 2, 1) := by decide +kernel
theorem d_Law_law_746 : decode b_Law_law 746 = .ok (.iadd, 1) := by decide +kernel
theorem d_Law_law_747 : decode b_Law_law 747 = .ok (.iaload, 1) := by decide +kernel
theorem d_Law_law_748 : decode b_Law_law 748 = .ok (.aload_n 3, 1) := by decide +kernel
theorem d_Law_law_749 : decode b_Law_law 749 = .ok (.invokestatic 104, 3) := by decide +kernel
theorem d_Law_law_752 : decode b_Law_law 752 = .ok (.istore 5, 2) := by decide +kernel
theorem d_Law_law_754 : decode b_Law_law 754 = .ok (.aload_n 2, 1) := by decide +kernel
theorem d_Law_law_755 : decode b_Law_law 755 = .ok (.aload_n 0, 1) := by decide +kernel
theorem d_Law_law_756 : decode b_Law_law 756 = .ok (.iload 4, 2) := by decide +kernel
theorem d_Law_law_758 : decode b_Law_law 758 = .ok (.iconst 1, 1) := by decide +kernel
theorem d_Law_law_759 : decode b_Law_law 759 = .ok (.iadd, 1) := by decide +kernel
theorem d_Law_law_760 : decode b_Law_law 760 = .ok (.iaload, 1) := by decide +kernel
theorem d_Law_law_761 : decode b_Law_law 761 = .ok (.aload_n 0, 1) := by decide +kernel
theorem d_Law_law_762 : decode b_Law_law 762 = .ok (.iload 4, 2) := by decide +kernel
theorem d_Law_law_764 : decode b_Law_law 764 = .ok (.iconst 2, 1) := by decide +kernel
theorem d_Law_law_765 : decode b_Law_law 765 = .ok (.iadd, 1) := by decide +kernel
theorem d_Law_law_766 : decode b_Law_law 766 = .ok (.iaload, 1) := by decide +kernel
theorem d_Law_law_767 : decode b_Law_law 767 = .ok (.invokevirtual 106, 3) := by decide +kernel
theorem d_Law_law_770 : decode b_Law_law 770 = .ok (.istore 6, 2) := by decide +kernel
theorem d_Law_law_772 : decode b_Law_law 772 = .ok (.aload_n 2, 1) := by decide +kernel
theorem d_Law_law_773 : decode b_Law_law 773 = .ok (.invokevirtual 64, 3) := by decide +kernel
theorem d_Law_law_776 : decode b_Law_law 776 = .ok (.iload 5, 2) := by decide +kernel
theorem d_Law_law_778 : decode b_Law_law 778 = .ok (.if_icmp .eq 5, 3) := by decide +kernel
theorem d_Law_law_781 : decode b_Law_law 781 = .ok (.iconst 0, 1) := by decide +kernel
theorem d_Law_law_782 : decode b_Law_law 782 = .ok (.ireturn, 1) := by decide +kernel
theorem d_Law_law_783 : decode b_Law_law 783 = .ok (.iload 5, 2) := by decide +kernel
theorem d_Law_law_785 : decode b_Law_law 785 = .ok (.ifCond .ne 15, 3) := by decide +kernel
theorem d_Law_law_788 : decode b_Law_law 788 = .ok (.aload_n 3, 1) := by decide +kernel
theorem d_Law_law_789 : decode b_Law_law 789 = .ok (.iconst 0, 1) := by decide +kernel
theorem d_Law_law_790 : decode b_Law_law 790 = .ok (.laload, 1) := by decide +kernel
theorem d_Law_law_791 : decode b_Law_law 791 = .ok (.iload 6, 2) := by decide +kernel
theorem d_Law_law_793 : decode b_Law_law 793 = .ok (.i2l, 1) := by decide +kernel
theorem d_Law_law_794 : decode b_Law_law 794 = .ok (.lcmp, 1) := by decide +kernel
theorem d_Law_law_795 : decode b_Law_law 795 = .ok (.ifCond .eq 5, 3) := by decide +kernel
theorem d_Law_law_798 : decode b_Law_law 798 = .ok (.iconst 0, 1) := by decide +kernel
theorem d_Law_law_799 : decode b_Law_law 799 = .ok (.ireturn, 1) := by decide +kernel
theorem d_Law_law_800 : decode b_Law_law 800 = .ok (.goto 150, 3) := by decide +kernel
theorem d_Law_law_803 : decode b_Law_law 803 = .ok (.aload_n 1, 1) := by decide +kernel
theorem d_Law_law_804 : decode b_Law_law 804 = .ok (.aload_n 0, 1) := by decide +kernel
theorem d_Law_law_805 : decode b_Law_law 805 = .ok (.iload 4, 2) := by decide +kernel
theorem d_Law_law_807 : decode b_Law_law 807 = .ok (.iconst 1, 1) := by decide +kernel
theorem d_Law_law_808 : decode b_Law_law 808 = .ok (.iadd, 1) := by decide +kernel
theorem d_Law_law_809 : decode b_Law_law 809 = .ok (.iaload, 1) := by decide +kernel
theorem d_Law_law_810 : decode b_Law_law 810 = .ok (.aload_n 0, 1) := by decide +kernel
theorem d_Law_law_811 : decode b_Law_law 811 = .ok (.iload 4, 2) := by decide +kernel
theorem d_Law_law_813 : decode b_Law_law 813 = .ok (.iconst 2, 1) := by decide +kernel
theorem d_Law_law_814 : decode b_Law_law 814 = .ok (.iadd, 1) := by decide +kernel
theorem d_Law_law_815 : decode b_Law_law 815 = .ok (.iaload, 1) := by decide +kernel
theorem d_Law_law_816 : decode b_Law_law 816 = .ok (.aload_n 0, 1) := by decide +kernel
theorem d_Law_law_817 : decode b_Law_law 817 = .ok (.iload 4, 2) := by decide +kernel
theorem d_Law_law_819 : decode b_Law_law 819 = .ok (.iconst 3, 1) := by decide +kernel
theorem d_Law_law_820 : decode b_Law_law 820 = .ok (.iadd, 1) := by decide +kernel
theorem d_Law_law_821 : decode b_Law_law 821 = .ok (.iaload, 1) := by decide +kernel
theorem d_Law_law_822 : decode b_Law_law 822 = .ok (.aload_n 3, 1) := by decide +kernel
theorem d_Law_law_823 : decode b_Law_law 823 = .ok (.invokestatic 107, 3) := by decide +kernel
theorem d_Law_law_826 : decode b_Law_law 826 = .ok (.istore 5, 2) := by decide +kernel
theorem d_Law_law_828 : decode b_Law_law 828 = .ok (.aload_n 2, 1) := by decide +kernel
theorem d_Law_law_829 : decode b_Law_law 829 = .ok (.aload_n 0, 1) := by decide +kernel
theorem d_Law_law_830 : decode b_Law_law 830 = .ok (.iload 4, 2) := by decide +kernel
theorem d_Law_law_832 : decode b_Law_law 832 = .ok (.iconst 1, 1) := by decide +kernel
theorem d_Law_law_833 : decode b_Law_law 833 = .ok (.iadd, 1) := by decide +kernel
theorem d_Law_law_834 : decode b_Law_law 834 = .ok (.iaload, 1) := by decide +kernel
theorem d_Law_law_835 : decode b_Law_law 835 = .ok (.aload_n 0, 1) := by decide +kernel
theorem d_Law_law_836 : decode b_Law_law 836 = .ok (.iload 4, 2) := by decide +kernel
theorem d_Law_law_838 : decode b_Law_law 838 = .ok (.iconst 2, 1) := by decide +kernel
theorem d_Law_law_839 : decode b_Law_law 839 = .ok (.iadd, 1) := by decide +kernel
theorem d_Law_law_840 : decode b_Law_law 840 = .ok (.iaload, 1) := by decide +kernel
theorem d_Law_law_841 : decode b_Law_law 841 = .ok (.aload_n 0, 1) := by decide +kernel
theorem d_Law_law_842 : decode b_Law_law 842 = .ok (.iload 4, 2) := by decide +kernel
theorem d_Law_law_844 : decode b_Law_law 844 = .ok (.iconst 3, 1) := by decide +kernel
theorem d_Law_law_845 : decode b_Law_law 845 = .ok (.iadd, 1) := by decide +kernel
theorem d_Law_law_846 : decode b_Law_law 846 = .ok (.iaload, 1) := by decide +kernel
theorem d_Law_law_847 : decode b_Law_law 847 = .ok (.invokevirtual 109, 3) := by decide +kernel
theorem d_Law_law_850 : decode b_Law_law 850 = .ok (.istore 6, 2) := by decide +kernel
theorem d_Law_law_852 : decode b_Law_law 852 = .ok (.aload_n 2, 1) := by decide +kernel
theorem d_Law_law_853 : decode b_Law_law 853 = .ok (.invokevirtual 64, 3) := by decide +kernel
theorem d_Law_law_856 : decode b_Law_law 856 = .ok (.iload 5, 2) := by decide +kernel
theorem d_Law_law_858 : decode b_Law_law 858 = .ok (.if_icmp .eq 5, 3) := by decide +kernel
theorem d_Law_law_861 : decode b_Law_law 861 = .ok (.iconst 0, 1) := by decide +kernel
theorem d_Law_law_862 : decode b_Law_law 862 = .ok (.ireturn, 1) := by decide +kernel
theorem d_Law_law_863 : decode b_Law_law 863 = .ok (.iload 5, 2) := by decide +kernel
theorem d_Law_law_865 : decode b_Law_law 865 = .ok (.ifCond .ne 15, 3) := by decide +kernel
theorem d_Law_law_868 : decode b_Law_law 868 = .ok (.aload_n 3, 1) := by decide +kernel
theorem d_Law_law_869 : decode b_Law_law 869 = .ok (.iconst 0, 1) := by decide +kernel
theorem d_Law_law_870 : decode b_Law_law 870 = .ok (.laload, 1) := by decide +kernel
theorem d_Law_law_871 : decode b_Law_law 871 = .ok (.iload 6, 2) := by decide +kernel
theorem d_Law_law_873 : decode b_Law_law 873 = .ok (.i2l, 1) := by decide +kernel
theorem d_Law_law_874 : decode b_Law_law 874 = .ok (.lcmp, 1) := by decide +kernel
theorem d_Law_law_875 : decode b_Law_law 875 = .ok (.ifCond .eq 5, 3) := by decide +kernel
theorem d_Law_law_878 : decode b_Law_law 878 = .ok (.iconst 0, 1) := by decide +kernel
theorem d_Law_law_879 : decode b_Law_law 879 = .ok (.ireturn, 1) := by decide +kernel
theorem d_Law_law_880 : decode b_Law_law 880 = .ok (.goto 70, 3) := by decide +kernel
theorem d_Law_law_883 : decode b_Law_law 883 = .ok (.aload_n 1, 1) := by decide +kernel
theorem d_Law_law_884 : decode b_Law_law 884 = .ok (.aload_n 0, 1) := by decide +kernel
theorem d_Law_law_885 : decode b_Law_law 885 = .ok (.iload 4, 2) := by decide +kernel
theorem d_Law_law_887 : decode b_Law_law 887 = .ok (.iconst 1, 1) := by decide +kernel
theorem d_Law_law_888 : decode b_Law_law 888 = .ok (.iadd, 1) := by decide +kernel
theorem d_Law_law_889 : decode b_Law_law 889 = .ok (.iaload, 1) := by decide +kernel
theorem d_Law_law_890 : decode b_Law_law 890 = .ok (.aload_n 0, 1) := by decide +kernel
theorem d_Law_law_891 : decode b_Law_law 891 = .ok (.iload 4, 2) := by decide +kernel
theorem d_Law_law_893 : decode b_Law_law 893 = .ok (.iconst 2, 1) := by decide +kernel
theorem d_Law_law_894 : decode b_Law_law 894 = .ok (.iadd, 1) := by decide +kernel
theorem d_Law_law_895 : decode b_Law_law 895 = .ok (.iaload, 1) := by decide +kernel
theorem d_Law_law_896 : decode b_Law_law 896 = .ok (.aload_n 3, 1) := by decide +kernel
theorem d_Law_law_897 : decode b_Law_law 897 = .ok (.invokestatic 110, 3) := by decide +kernel
theorem d_Law_law_900 : decode b_Law_law 900 = .ok (.istore 5, 2) := by decide +kernel
theorem d_Law_law_902 : decode b_Law_law 902 = .ok (.aload_n 2, 1) := by decide +kernel
theorem d_Law_law_903 : decode b_Law_law 903 = .ok (.aload_n 0, 1) := by decide +kernel
theorem d_Law_law_904 : decode b_Law_law 904 = .ok (.iload 4, 2) := by decide +kernel
theorem d_Law_law_906 : decode b_Law_law 906 = .ok (.iconst 1, 1) := by decide +kernel
theorem d_Law_law_907 : decode b_Law_law 907 = .ok (.iadd, 1) := by decide +kernel
theorem d_Law_law_908 : decode b_Law_law 908 = .ok (.iaload, 1) := by decide +kernel
theorem d_Law_law_909 : decode b_Law_law 909 = .ok (.aload_n 0, 1) := by decide +kernel
theorem d_Law_law_910 : decode b_Law_law 910 = .ok (.iload 4, 2) := by decide +kernel
theorem d_Law_law_912 : decode b_Law_law 912 = .ok (.iconst 2, 1) := by decide +kernel
theorem d_Law_law_913 : decode b_Law_law 913 = .ok (.iadd, 1) := by decide +kernel
theorem d_Law_law_914 : decode b_Law_law 914 = .ok (.iaload, 1) := by decide +kernel
theorem d_Law_law_915 : decode b_Law_law 915 = .ok (.invokevirtual 112, 3) := by decide +kernel
theorem d_Law_law_918 : decode b_Law_law 918 = .ok (.lstore 6, 2) := by decide +kernel
theorem d_Law_law_920 : decode b_Law_law 920 = .ok (.aload_n 2, 1) := by decide +kernel
theorem d_Law_law_921 : decode b_Law_law 921 = .ok (.invokevirtual 64, 3) := by decide +kernel
theorem d_Law_law_924 : decode b_Law_law 924 = .ok (.iload 5, 2) := by decide +kernel
theorem d_Law_law_926 : decode b_Law_law 926 = .ok (.if_icmp .eq 5, 3) := by decide +kernel
theorem d_Law_law_929 : decode b_Law_law 929 = .ok (.iconst 0, 1) := by decide +kernel
theorem d_Law_law_930 : decode b_Law_law 930 = .ok (.ireturn, 1) := by decide +kernel
theorem d_Law_law_931 : decode b_Law_law 931 = .ok (.iload 5, 2) := by decide +kernel
theorem d_Law_law_933 : decode b_Law_law 933 = .ok (.ifCond .ne 14, 3) := by decide +kernel
theorem d_Law_law_936 : decode b_Law_law 936 = .ok (.aload_n 3, 1) := by decide +kernel
theorem d_Law_law_937 : decode b_Law_law 937 = .ok (.iconst 0, 1) := by decide +kernel
theorem d_Law_law_938 : decode b_Law_law 938 = .ok (.laload, 1) := by decide +kernel
theorem d_Law_law_939 : decode b_Law_law 939 = .ok (.lload 6, 2) := by decide +kernel
theorem d_Law_law_941 : decode b_Law_law 941 = .ok (.lcmp, 1) := by decide +kernel
theorem d_Law_law_942 : decode b_Law_law 942 = .ok (.ifCond .eq 5, 3) := by decide +kernel
theorem d_Law_law_945 : decode b_Law_law 945 = .ok (.iconst 0, 1) := by decide +kernel
theorem d_Law_law_946 : decode b_Law_law 946 = .ok (.ireturn, 1) := by decide +kernel
theorem d_Law_law_947 : decode b_Law_law 947 = .ok (.goto 3, 3) := by decide +kernel
theorem d_Law_law_950 : decode b_Law_law 950 = .ok (.iinc 4 6, 3) := by decide +kernel
theorem d_Law_law_953 : decode b_Law_law 953 = .ok (.goto (-930), 3) := by decide +kernel
theorem d_Law_law_956 : decode b_Law_law 956 = .ok (.iconst 1, 1) := by decide +kernel
theorem d_Law_law_957 : decode b_Law_law 957 = .ok (.ireturn, 1) := by decide +kernel
