abbrev b_Mo_init : ByteArray := prog_8_method_1_code
def y_Mo_init : MethodName := ⟨"BoxPackerModel", "<init>", "()V"⟩
theorem d_Mo_init_0 : decode b_Mo_init 0 = .ok (.aload_n 0, 1) := by decide +kernel
theorem d_Mo_init_1 : decode b_Mo_init 1 = .ok (.invokespecial 1, 3) := by decide +kernel
theorem d_Mo_init_4 : decode b_Mo_init 4 = .ok (.aload_n 0, 1) := by decide +kernel
theorem d_Mo_init_5 : decode b_Mo_init 5 = .ok (.sipush 10200, 3) := by decide +kernel
theorem d_Mo_init_8 : decode b_Mo_init 8 = .ok (.newarray .int, 2) := by decide +kernel
theorem d_Mo_init_10 : decode b_Mo_init 10 = .ok (.putfield 7, 3) := by decide +kernel
theorem d_Mo_init_13 : decode b_Mo_init 13 = .ok (.aload_n 0, 1) := by decide +kernel
theorem d_Mo_init_14 : decode b_Mo_init 14 = .ok (.ldc 13, 2) := by decide +kernel
theorem d_Mo_init_16 : decode b_Mo_init 16 = .ok (.newarray .int, 2) := by decide +kernel
theorem d_Mo_init_18 : decode b_Mo_init 18 = .ok (.putfield 14, 3) := by decide +kernel
theorem d_Mo_init_21 : decode b_Mo_init 21 = .ok (.aload_n 0, 1) := by decide +kernel
theorem d_Mo_init_22 : decode b_Mo_init 22 = .ok (.bipush 101, 2) := by decide +kernel
theorem d_Mo_init_24 : decode b_Mo_init 24 = .ok (.newarray .int, 2) := by decide +kernel
theorem d_Mo_init_26 : decode b_Mo_init 26 = .ok (.putfield 17, 3) := by decide +kernel
theorem d_Mo_init_29 : decode b_Mo_init 29 = .ok (.aload_n 0, 1) := by decide +kernel
theorem d_Mo_init_30 : decode b_Mo_init 30 = .ok (.bipush 100, 2) := by decide +kernel
theorem d_Mo_init_32 : decode b_Mo_init 32 = .ok (.newarray .boolean, 2) := by decide +kernel
theorem d_Mo_init_34 : decode b_Mo_init 34 = .ok (.putfield 20, 3) := by decide +kernel
theorem d_Mo_init_37 : decode b_Mo_init 37 = .ok (.aload_n 0, 1) := by decide +kernel
theorem d_Mo_init_38 : decode b_Mo_init 38 = .ok (.bipush 100, 2) := by decide +kernel
theorem d_Mo_init_40 : decode b_Mo_init 40 = .ok (.newarray .int, 2) := by decide +kernel
theorem d_Mo_init_42 : decode b_Mo_init 42 = .ok (.putfield 24, 3) := by decide +kernel
theorem d_Mo_init_45 : decode b_Mo_init 45 = .ok (.aload_n 0, 1) := by decide +kernel
theorem d_Mo_init_46 : decode b_Mo_init 46 = .ok (.bipush 100, 2) := by decide +kernel
theorem d_Mo_init_48 : decode b_Mo_init 48 = .ok (.newarray .int, 2) := by decide +kernel
theorem d_Mo_init_50 : decode b_Mo_init 50 = .ok (.putfield 27, 3) := by decide +kernel
theorem d_Mo_init_53 : decode b_Mo_init 53 = .ok (.aload_n 0, 1) := by decide +kernel
theorem d_Mo_init_54 : decode b_Mo_init 54 = .ok (.bipush 100, 2) := by decide +kernel
theorem d_Mo_init_56 : decode b_Mo_init 56 = .ok (.newarray .int, 2) := by decide +kernel
theorem d_Mo_init_58 : decode b_Mo_init 58 = .ok (.putfield 30, 3) := by decide +kernel
theorem d_Mo_init_61 : decode b_Mo_init 61 = .ok (.aload_n 0, 1) := by decide +kernel
theorem d_Mo_init_62 : decode b_Mo_init 62 = .ok (.bipush 100, 2) := by decide +kernel
theorem d_Mo_init_64 : decode b_Mo_init 64 = .ok (.newarray .int, 2) := by decide +kernel
theorem d_Mo_init_66 : decode b_Mo_init 66 = .ok (.putfield 33, 3) := by decide +kernel
theorem d_Mo_init_69 : decode b_Mo_init 69 = .ok (.aload_n 0, 1) := by decide +kernel
theorem d_Mo_init_70 : decode b_Mo_init 70 = .ok (.bipush 100, 2) := by decide +kernel
theorem d_Mo_init_72 : decode b_Mo_init 72 = .ok (.newarray .int, 2) := by decide +kernel
theorem d_Mo_init_74 : decode b_Mo_init 74 = .ok (.putfield 36, 3) := by decide +kernel
theorem d_Mo_init_77 : decode b_Mo_init 77 = .ok (.aload_n 0, 1) := by decide +kernel
theorem d_Mo_init_78 : decode b_Mo_init 78 = .ok (.bipush 100, 2) := by decide +kernel
theorem d_Mo_init_80 : decode b_Mo_init 80 = .ok (.newarray .int, 2) := by decide +kernel
theorem d_Mo_init_82 : decode b_Mo_init 82 = .ok (.putfield 39, 3) := by decide +kernel
theorem d_Mo_init_85 : decode b_Mo_init 85 = .ok (.aload_n 0, 1) := by decide +kernel
theorem d_Mo_init_86 : decode b_Mo_init 86 = .ok (.bipush 100, 2) := by decide +kernel
theorem d_Mo_init_88 : decode b_Mo_init 88 = .ok (.newarray .int, 2) := by decide +kernel
theorem d_Mo_init_90 : decode b_Mo_init 90 = .ok (.putfield 42, 3) := by decide +kernel
theorem d_Mo_init_93 : decode b_Mo_init 93 = .ok (.aload_n 0, 1) := by decide +kernel
theorem d_Mo_init_94 : decode b_Mo_init 94 = .ok (.bipush 100, 2) := by decide +kernel
theorem d_Mo_init_96 : decode b_Mo_init 96 = .ok (.newarray .int, 2) := by decide +kernel
theorem d_Mo_init_98 : decode b_Mo_init 98 = .ok (.putfield 45, 3) := by decide +kernel
theorem d_Mo_init_101 : decode b_Mo_init 101 = .ok (.aload_n 0, 1) := by decide +kernel
theorem d_Mo_init_102 : decode b_Mo_init 102 = .ok (.bipush 100, 2) := by decide +kernel
theorem d_Mo_init_104 : decode b_Mo_init 104 = .ok (.newarray .int, 2) := by decide +kernel
theorem d_Mo_init_106 : decode b_Mo_init 106 = .ok (.putfield 48, 3) := by decide +kernel
theorem d_Mo_init_109 : decode b_Mo_init 109 = .ok (.aload_n 0, 1) := by decide +kernel
theorem d_Mo_init_110 : decode b_Mo_init 110 = .ok (.bipush 100, 2) := by decide +kernel
theorem d_Mo_init_112 : decode b_Mo_init 112 = .ok (.newarray .int, 2) := by decide +kernel
theorem d_Mo_init_114 : decode b_Mo_init 114 = .ok (.putfield 51, 3) := by decide +kernel
theorem d_Mo_init_117 : decode b_Mo_init 117 = .ok (.aload_n 0, 1) := by decide +kernel
theorem d_Mo_init_118 : decode b_Mo_init 118 = .ok (.iconst 4, 1) := by decide +kernel
theorem d_Mo_init_119 : decode b_Mo_init 119 = .ok (.newarray .long, 2) := by decide +kernel
theorem d_Mo_init_121 : decode b_Mo_init 121 = .ok (.putfield 54, 3) := by decide +kernel
theorem d_Mo_init_124 : decode b_Mo_init 124 = .ok (.aload_n 0, 1) := by decide +kernel
theorem d_Mo_init_125 : decode b_Mo_init 125 = .ok (.iconst 4, 1) := by decide +kernel
theorem d_Mo_init_126 : decode b_Mo_init 126 = .ok (.newarray .long, 2) := by decide +kernel
theorem d_Mo_init_128 : decode b_Mo_init 128 = .ok (.putfield 58, 3) := by decide +kernel
theorem d_Mo_init_131 : decode b_Mo_init 131 = .ok (.aload_n 0, 1) := by decide +kernel
theorem d_Mo_init_132 : decode b_Mo_init 132 = .ok (.sipush 6000, 3) := by decide +kernel
theorem d_Mo_init_135 : decode b_Mo_init 135 = .ok (.newarray .long, 2) := by decide +kernel
theorem d_Mo_init_137 : decode b_Mo_init 137 = .ok (.putfield 61, 3) := by decide +kernel
theorem d_Mo_init_140 : decode b_Mo_init 140 = .ok (.return_, 1) := by decide +kernel
abbrev b_Mo_thrown : ByteArray := prog_8_method_2_code
def y_Mo_thrown : MethodName := ⟨"BoxPackerModel", "thrown", "()I"⟩
theorem d_Mo_thrown_0 : decode b_Mo_thrown 0 = .ok (.aload_n 0, 1) := by decide +kernel
theorem d_Mo_thrown_1 : decode b_Mo_thrown 1 = .ok (.getfield 64, 3) := by decide +kernel
theorem d_Mo_thrown_4 : decode b_Mo_thrown 4 = .ok (.ireturn, 1) := by decide +kernel
abbrev b_Mo_isSize : ByteArray := prog_8_method_3_code
def y_Mo_isSize : MethodName := ⟨"BoxPackerModel", "isSize", "(J)Z"⟩
theorem d_Mo_isSize_0 : decode b_Mo_isSize 0 = .ok (.lload_n 0, 1) := by decide +kernel
theorem d_Mo_isSize_1 : decode b_Mo_isSize 1 = .ok (.ldc2_w 68, 3) := by decide +kernel
theorem d_Mo_isSize_4 : decode b_Mo_isSize 4 = .ok (.lcmp, 1) := by decide +kernel
theorem d_Mo_isSize_5 : decode b_Mo_isSize 5 = .ok (.ifCond .lt 15, 3) := by decide +kernel
theorem d_Mo_isSize_8 : decode b_Mo_isSize 8 = .ok (.lload_n 0, 1) := by decide +kernel
theorem d_Mo_isSize_9 : decode b_Mo_isSize 9 = .ok (.ldc2_w 70, 3) := by decide +kernel
theorem d_Mo_isSize_12 : decode b_Mo_isSize 12 = .ok (.lcmp, 1) := by decide +kernel
theorem d_Mo_isSize_13 : decode b_Mo_isSize 13 = .ok (.ifCond .gt 7, 3) := by decide +kernel
theorem d_Mo_isSize_16 : decode b_Mo_isSize 16 = .ok (.iconst 1, 1) := by decide +kernel
theorem d_Mo_isSize_17 : decode b_Mo_isSize 17 = .ok (.goto 4, 3) := by decide +kernel
theorem d_Mo_isSize_20 : decode b_Mo_isSize 20 = .ok (.iconst 0, 1) := by decide +kernel
theorem d_Mo_isSize_21 : decode b_Mo_isSize 21 = .ok (.ireturn, 1) := by decide +kernel
abbrev b_Mo_append : ByteArray := prog_8_method_4_code
def y_Mo_append : MethodName := ⟨"BoxPackerModel", "append", "(IIIIII)I"⟩
theorem d_Mo_append_0 : decode b_Mo_append 0 = .ok (.aload_n 0, 1) := by decide +kernel
theorem d_Mo_append_1 : decode b_Mo_append 1 = .ok (.getfield 7, 3) := by decide +kernel
theorem d_Mo_append_4 : decode b_Mo_append 4 = .ok (.aload_n 0, 1) := by decide +kernel
theorem d_Mo_append_5 : decode b_Mo_append 5 = .ok (.getfield 72, 3) := by decide +kernel
theorem d_Mo_append_8 : decode b_Mo_append 8 = .ok (.iload_n 1, 1) := by decide +kernel
theorem d_Mo_append_9 : decode b_Mo_append 9 = .ok (.iastore, 1) := by decide +kernel
theorem d_Mo_append_10 : decode b_Mo_append 10 = .ok (.aload_n 0, 1) := by decide +kernel
theorem d_Mo_append_11 : decode b_Mo_append 11 = .ok (.getfield 14, 3) := by decide +kernel
theorem d_Mo_append_14 : decode b_Mo_append 14 = .ok (.iconst 5, 1) := by decide +kernel
theorem d_Mo_append_15 : decode b_Mo_append 15 = .ok (.aload_n 0, 1) := by decide +kernel
theorem d_Mo_append_16 : decode b_Mo_append 16 = .ok (.getfield 72, 3) := by decide +kernel
theorem d_Mo_append_19 : decode b_Mo_append 19 = .ok (.imul, 1) := by decide +kernel
theorem d_Mo_append_20 : decode b_Mo_append 20 = .ok (.iload_n 2, 1) := by decide +kernel
theorem d_Mo_append_21 : decode b_Mo_append 21 = .ok (.iastore, 1) := by decide +kernel
theorem d_Mo_append_22 : decode b_Mo_append 22 = .ok (.aload_n 0, 1) := by decide +kernel
theorem d_Mo_append_23 : decode b_Mo_append 23 = .ok (.getfield 14, 3) := by decide +kernel
theorem d_Mo_append_26 : decode b_Mo_append 26 = .ok (.iconst 5, 1) := by decide +kernel
theorem d_Mo_append_27 : decode b_Mo_append 27 = .ok (.aload_n 0, 1) := by decide +kernel
theorem d_Mo_append_28 : decode b_Mo_append 28 = .ok (.getfield 72, 3) := by decide +kernel
theorem d_Mo_append_31 : decode b_Mo_append 31 = .ok (.imul, 1) := by decide +kernel
theorem d_Mo_append_32 : decode b_Mo_append 32 = .ok (.iconst 1, 1) := by decide +kernel
theorem d_Mo_append_33 : decode b_Mo_append 33 = .ok (.iadd, 1) := by decide +kernel
theorem d_Mo_append_34 : decode b_Mo_append 34 = .ok (.iload_n 3, 1) := by decide +kernel
theorem d_Mo_append_35 : decode b_Mo_append 35 = .ok (.iastore, 1) := by decide +kernel
theorem d_Mo_append_36 : decode b_Mo_append 36 = .ok (.aload_n 0, 1) := by decide +kernel
theorem d_Mo_append_37 : decode b_Mo_append 37 = .ok (.getfield 14, 3) := by decide +kernel
theorem d_Mo_append_40 : decode b_Mo_append 40 = .ok (.iconst 5, 1) := by decide +kernel
theorem d_Mo_append_41 : decode b_Mo_append 41 = .ok (.aload_n 0, 1) := by decide +kernel
theorem d_Mo_append_42 : decode b_Mo_append 42 = .ok (.getfield 72, 3) := by decide +kernel
theorem d_Mo_append_45 : decode b_Mo_append 45 = .ok (.imul, 1) := by decide +kernel
theorem d_Mo_append_46 : decode b_Mo_append 46 = .ok (.iconst 2, 1) := by decide +kernel
theorem d_Mo_append_47 : decode b_Mo_append 47 = .ok (.iadd, 1) := by decide +kernel
theorem d_Mo_append_48 : decode b_Mo_append 48 = .ok (.iload 4, 2) := by decide +kernel
theorem d_Mo_append_50 : decode b_Mo_append 50 = .ok (.iastore, 1) := by decide +kernel
theorem d_Mo_append_51 : decode b_Mo_append 51 = .ok (.aload_n 0, 1) := by decide +kernel
theorem d_Mo_append_52 : decode b_Mo_append 52 = .ok (.getfield 14, 3) := by decide +kernel
theorem d_Mo_append_55 : decode b_Mo_append 55 = .ok (.iconst 5, 1) := by decide +kernel
theorem d_Mo_append_56 : decode b_Mo_append 56 = .ok (.aload_n 0, 1) := by decide +kernel
theorem d_Mo_append_57 : decode b_Mo_append 57 = .ok (.getfield 72, 3) := by decide +kernel
theorem d_Mo_append_60 : decode b_Mo_append 60 = .ok (.imul, 1) := by decide +kernel
theorem d_Mo_append_61 : decode b_Mo_append 61 = .ok (.iconst 3, 1) := by decide +kernel
theorem d_Mo_append_62 : decode b_Mo_append 62 = .ok (.iadd, 1) := by decide +kernel
theorem d_Mo_append_63 : decode b_Mo_append 63 = .ok (.iload 5, 2) := by decide +kernel
theorem d_Mo_append_65 : decode b_Mo_append 65 = .ok (.iastore, 1) := by decide +kernel
theorem d_Mo_append_66 : decode b_Mo_append 66 = .ok (.aload_n 0, 1) := by decide +kernel
theorem d_Mo_append_67 : decode b_Mo_append 67 = .ok (.getfield 14, 3) := by decide +kernel
theorem d_Mo_append_70 : decode b_Mo_append 70 = .ok (.iconst 5, 1) := by decide +kernel
theorem d_Mo_append_71 : decode b_Mo_append 71 = .ok (.aload_n 0, 1) := by decide +kernel
theorem d_Mo_append_72 : decode b_Mo_append 72 = .ok (.getfield 72, 3) := by decide +kernel
theorem d_Mo_append_75 : decode b_Mo_append 75 = .ok (.imul, 1) := by decide +kernel
theorem d_Mo_append_76 : decode b_Mo_append 76 = .ok (.iconst 4, 1) := by decide +kernel
theorem d_Mo_append_77 : decode b_Mo_append 77 = .ok (.iadd, 1) := by decide +kernel
theorem d_Mo_append_78 : decode b_Mo_append 78 = .ok (.iload 6, 2) := by decide +kernel
theorem d_Mo_append_80 : decode b_Mo_append 80 = .ok (.iastore, 1) := by decide +kernel
theorem d_Mo_append_81 : decode b_Mo_append 81 = .ok (.aload_n 0, 1) := by decide +kernel
theorem d_Mo_append_82 : decode b_Mo_append 82 = .ok (.dup, 1) := by decide +kernel
theorem d_Mo_append_83 : decode b_Mo_append 83 = .ok (.getfield 72, 3) := by decide +kernel
theorem d_Mo_append_86 : decode b_Mo_append 86 = .ok (.iconst 1, 1) := by decide +kernel
theorem d_Mo_append_87 : decode b_Mo_append 87 = .ok (.iadd, 1) := by decide +kernel
theorem d_Mo_append_88 : decode b_Mo_append 88 = .ok (.putfield 72, 3) := by decide +kernel
theorem d_Mo_append_91 : decode b_Mo_append 91 = .ok (.aload_n 0, 1) := by decide +kernel
theorem d_Mo_append_92 : decode b_Mo_append 92 = .ok (.getfield 72, 3) := by decide +kernel
theorem d_Mo_append_95 : decode b_Mo_append 95 = .ok (.aload_n 0, 1) := by decide +kernel
theorem d_Mo_append_96 : decode b_Mo_append 96 = .ok (.getfield 75, 3) := by decide +kernel
theorem d_Mo_append_99 : decode b_Mo_append 99 = .ok (.isub, 1) := by decide +kernel
theorem d_Mo_append_100 : decode b_Mo_append 100 = .ok (.iconst 1, 1) := by decide +kernel
theorem d_Mo_append_101 : decode b_Mo_append 101 = .ok (.isub, 1) := by decide +kernel
theorem d_Mo_append_102 : decode b_Mo_append 102 = .ok (.ireturn, 1) := by decide +kernel
abbrev b_Mo_isFull : ByteArray := prog_8_method_5_code
def y_Mo_isFull : MethodName := ⟨"BoxPackerModel", "isFull", "()Z"⟩
theorem d_Mo_isFull_0 : decode b_Mo_isFull 0 = .ok (.aload_n 0, 1) := by decide +kernel
theorem d_Mo_isFull_1 : decode b_Mo_isFull 1 = .ok (.getfield 72, 3) := by decide +kernel
theorem d_Mo_isFull_4 : decode b_Mo_isFull 4 = .ok (.aload_n 0, 1) := by decide +kernel
theorem d_Mo_isFull_5 : decode b_Mo_isFull 5 = .ok (.getfield 75, 3) := by decide +kernel
theorem d_Mo_isFull_8 : decode b_Mo_isFull 8 = .ok (.isub, 1) := by decide +kernel
theorem d_Mo_isFull_9 : decode b_Mo_isFull 9 = .ok (.bipush 100, 2) := by decide +kernel
theorem d_Mo_isFull_11 : decode b_Mo_isFull 11 = .ok (.if_icmp .ne 7, 3) := by decide +kernel
theorem d_Mo_isFull_14 : decode b_Mo_isFull 14 = .ok (.iconst 1, 1) := by decide +kernel
theorem d_Mo_isFull_15 : decode b_Mo_isFull 15 = .ok (.goto 4, 3) := by decide +kernel
theorem d_Mo_isFull_18 : decode b_Mo_isFull 18 = .ok (.iconst 0, 1) := by decide +kernel
theorem d_Mo_isFull_19 : decode b_Mo_isFull 19 = .ok (.ireturn, 1) := by decide +kernel
abbrev b_Mo_leaf : ByteArray := prog_8_method_6_code
def y_Mo_leaf : MethodName := ⟨"BoxPackerModel", "leaf", "(IIII)I"⟩
theorem d_Mo_leaf_0 : decode b_Mo_leaf 0 = .ok (.iload_n 1, 1) := by decide +kernel
theorem d_Mo_leaf_1 : decode b_Mo_leaf 1 = .ok (.ifCond .lt 38, 3) := by decide +kernel
theorem d_Mo_leaf_4 : decode b_Mo_leaf 4 = .ok (.iload_n 1, 1) := by decide +kernel
theorem d_Mo_leaf_5 : decode b_Mo_leaf 5 = .ok (.ldc 78, 2) := by decide +kernel
theorem d_Mo_leaf_7 : decode b_Mo_leaf 7 = .ok (.if_icmp .gt 32, 3) := by decide +kernel
theorem d_Mo_leaf_10 : decode b_Mo_leaf 10 = .ok (.iload_n 2, 1) := by decide +kernel
theorem d_Mo_leaf_11 : decode b_Mo_leaf 11 = .ok (.i2l, 1) := by decide +kernel
theorem d_Mo_leaf_12 : decode b_Mo_leaf 12 = .ok (.invokestatic 79, 3) := by decide +kernel
theorem d_Mo_leaf_15 : decode b_Mo_leaf 15 = .ok (.ifCond .eq 24, 3) := by decide +kernel
theorem d_Mo_leaf_18 : decode b_Mo_leaf 18 = .ok (.iload_n 3, 1) := by decide +kernel
theorem d_Mo_leaf_19 : decode b_Mo_leaf 19 = .ok (.i2l, 1) := by decide +kernel
theorem d_Mo_leaf_20 : decode b_Mo_leaf 20 = .ok (.invokestatic 79, 3) := by decide +kernel
theorem d_Mo_leaf_23 : decode b_Mo_leaf 23 = .ok (.ifCond .eq 16, 3) := by decide +kernel
theorem d_Mo_leaf_26 : decode b_Mo_leaf 26 = .ok (.iload 4, 2) := by decide +kernel
theorem d_Mo_leaf_28 : decode b_Mo_leaf 28 = .ok (.i2l, 1) := by decide +kernel
theorem d_Mo_leaf_29 : decode b_Mo_leaf 29 = .ok (.invokestatic 79, 3) := by decide +kernel
theorem d_Mo_leaf_32 : decode b_Mo_leaf 32 = .ok (.ifCond .eq 7, 3) := by decide +kernel
theorem d_Mo_leaf_35 : decode b_Mo_leaf 35 = .ok (.iconst 1, 1) := by decide +kernel
theorem d_Mo_leaf_36 : decode b_Mo_leaf 36 = .ok (.goto 4, 3) := by decide +kernel
theorem d_Mo_leaf_39 : decode b_Mo_leaf 39 = .ok (.iconst 0, 1) := by decide +kernel
theorem d_Mo_leaf_40 : decode b_Mo_leaf 40 = .ok (.istore 5, 2) := by decide +kernel
theorem d_Mo_leaf_42 : decode b_Mo_leaf 42 = .ok (.aload_n 0, 1) := by decide +kernel
theorem d_Mo_leaf_43 : decode b_Mo_leaf 43 = .ok (.iload 5, 2) := by decide +kernel
theorem d_Mo_leaf_45 : decode b_Mo_leaf 45 = .ok (.ifCond .ne 7, 3) := by decide +kernel
theorem d_Mo_leaf_48 : decode b_Mo_leaf 48 = .ok (.iconst 1, 1) := by decide +kernel
theorem d_Mo_leaf_49 : decode b_Mo_leaf 49 = .ok (.goto 15, 3) := by decide +kernel
theorem d_Mo_leaf_52 : decode b_Mo_leaf 52 = .ok (.aload_n 0, 1) := by decide +kernel
theorem d_Mo_leaf_53 : decode b_Mo_leaf 53 = .ok (.invokevirtual 83, 3) := by decide +kernel
theorem d_Mo_leaf_56 : decode b_Mo_leaf 56 = .ok (.ifCond .eq 7, 3) := by decide +kernel
theorem d_Mo_leaf_59 : decode b_Mo_leaf 59 = .ok (.iconst 2, 1) := by decide +kernel
theorem d_Mo_leaf_60 : decode b_Mo_leaf 60 = .ok (.goto 4, 3) := by decide +kernel
theorem d_Mo_leaf_63 : decode b_Mo_leaf 63 = .ok (.iconst 0, 1) := by decide +kernel
theorem d_Mo_leaf_64 : decode b_Mo_leaf 64 = .ok (.putfield 64, 3) := by decide +kernel
theorem d_Mo_leaf_67 : decode b_Mo_leaf 67 = .ok (.aload_n 0, 1) := by decide +kernel
theorem d_Mo_leaf_68 : decode b_Mo_leaf 68 = .ok (.getfield 64, 3) := by decide +kernel
theorem d_Mo_leaf_71 : decode b_Mo_leaf 71 = .ok (.ifCond .le 7, 3) := by decide +kernel
theorem d_Mo_leaf_74 : decode b_Mo_leaf 74 = .ok (.iconst 0, 1) := by decide +kernel
theorem d_Mo_leaf_75 : decode b_Mo_leaf 75 = .ok (.goto 14, 3) := by decide +kernel
theorem d_Mo_leaf_78 : decode b_Mo_leaf 78 = .ok (.aload_n 0, 1) := by decide +kernel
theorem d_Mo_leaf_79 : decode b_Mo_leaf 79 = .ok (.iconst 0, 1) := by decide +kernel
theorem d_Mo_leaf_80 : decode b_Mo_leaf 80 = .ok (.iload_n 1, 1) := by decide +kernel
theorem d_Mo_leaf_81 : decode b_Mo_leaf 81 = .ok (.iload_n 2, 1) := by decide +kernel
theorem d_Mo_leaf_82 : decode b_Mo_leaf 82 = .ok (.iload_n 3, 1) := by decide +kernel
theorem d_Mo_leaf_83 : decode b_Mo_leaf 83 = .ok (.iload 4, 2) := by decide +kernel
theorem d_Mo_leaf_85 : decode b_Mo_leaf 85 = .ok (.iconst 0, 1) := by decide +kernel
theorem d_Mo_leaf_86 : decode b_Mo_leaf 86 = .ok (.invokevirtual 87, 3) := by decide +kernel
theorem d_Mo_leaf_89 : decode b_Mo_leaf 89 = .ok (.ireturn, 1) := by decide +kernel
abbrev b_Mo_isRuleSize : ByteArray := prog_8_method_7_code
def y_Mo_isRuleSize : MethodName := ⟨"BoxPackerModel", "isRuleSize", "(I)Z"⟩
theorem d_Mo_isRuleSize_0 : decode b_Mo_isRuleSize 0 = .ok (.iload_n 0, 1) := by decide +kernel
theorem d_Mo_isRuleSize_1 : decode b_Mo_isRuleSize 1 = .ok (.ldc 91, 2) := by decide +kernel
theorem d_Mo_isRuleSize_3 : decode b_Mo_isRuleSize 3 = .ok (.if_icmp .eq 11, 3) := by decide +kernel
theorem d_Mo_isRuleSize_6 : decode b_Mo_isRuleSize 6 = .ok (.iload_n 0, 1) := by decide +kernel
theorem d_Mo_isRuleSize_7 : decode b_Mo_isRuleSize 7 = .ok (.i2l, 1) := by decide +kernel
theorem d_Mo_isRuleSize_8 : decode b_Mo_isRuleSize 8 = .ok (.invokestatic 79, 3) := by decide +kernel
theorem d_Mo_isRuleSize_11 : decode b_Mo_isRuleSize 11 = .ok (.ifCond .eq 7, 3) := by decide +kernel
theorem d_Mo_isRuleSize_14 : decode b_Mo_isRuleSize 14 = .ok (.iconst 1, 1) := by decide +kernel
theorem d_Mo_isRuleSize_15 : decode b_Mo_isRuleSize 15 = .ok (.goto 4, 3) := by decide +kernel
theorem d_Mo_isRuleSize_18 : decode b_Mo_isRuleSize 18 = .ok (.iconst 0, 1) := by decide +kernel
theorem d_Mo_isRuleSize_19 : decode b_Mo_isRuleSize 19 = .ok (.ireturn, 1) := by decide +kernel
abbrev b_Mo_rule : ByteArray := prog_8_method_8_code
def y_Mo_rule : MethodName := ⟨"BoxPackerModel", "rule", "(III)I"⟩
theorem d_Mo_rule_0 : decode b_Mo_rule 0 = .ok (.aload_n 0, 1) := by decide +kernel
theorem d_Mo_rule_1 : decode b_Mo_rule 1 = .ok (.iload_n 1, 1) := by decide +kernel
theorem d_Mo_rule_2 : decode b_Mo_rule 2 = .ok (.invokestatic 92, 3) := by decide +kernel
theorem d_Mo_rule_5 : decode b_Mo_rule 5 = .ok (.ifCond .eq 17, 3) := by decide +kernel
theorem d_Mo_rule_8 : decode b_Mo_rule 8 = .ok (.iload_n 2, 1) := by decide +kernel
theorem d_Mo_rule_9 : decode b_Mo_rule 9 = .ok (.invokestatic 92, 3) := by decide +kernel
theorem d_Mo_rule_12 : decode b_Mo_rule 12 = .ok (.ifCond .eq 10, 3) := by decide +kernel
theorem d_Mo_rule_15 : decode b_Mo_rule 15 = .ok (.iload_n 3, 1) := by decide +kernel
theorem d_Mo_rule_16 : decode b_Mo_rule 16 = .ok (.invokestatic 92, 3) := by decide +kernel
theorem d_Mo_rule_19 : decode b_Mo_rule 19 = .ok (.ifCond .ne 7, 3) := by decide +kernel
theorem d_Mo_rule_22 : decode b_Mo_rule 22 = .ok (.iconst 1, 1) := by decide +kernel
theorem d_Mo_rule_23 : decode b_Mo_rule 23 = .ok (.goto 15, 3) := by decide +kernel
theorem d_Mo_rule_26 : decode b_Mo_rule 26 = .ok (.aload_n 0, 1) := by decide +kernel
theorem d_Mo_rule_27 : decode b_Mo_rule 27 = .ok (.invokevirtual 83, 3) := by decide +kernel
theorem d_Mo_rule_30 : decode b_Mo_rule 30 = .ok (.ifCond .eq 7, 3) := by decide +kernel
theorem d_Mo_rule_33 : decode b_Mo_rule 33 = .ok (.iconst 2, 1) := by decide +kernel
theorem d_Mo_rule_34 : decode b_Mo_rule 34 = .ok (.goto 4, 3) := by decide +kernel
theorem d_Mo_rule_37 : decode b_Mo_rule 37 = .ok (.iconst 0, 1) := by decide +kernel
theorem d_Mo_rule_38 : decode b_Mo_rule 38 = .ok (.putfield 64, 3) := by decide +kernel
theorem d_Mo_rule_41 : decode b_Mo_rule 41 = .ok (.aload_n 0, 1) := by decide +kernel
theorem d_Mo_rule_42 : decode b_Mo_rule 42 = .ok (.getfield 64, 3) := by decide +kernel
theorem d_Mo_rule_45 : decode b_Mo_rule 45 = .ok (.ifCond .le 7, 3) := by decide +kernel
theorem d_Mo_rule_48 : decode b_Mo_rule 48 = .ok (.iconst 0, 1) := by decide +kernel
theorem d_Mo_rule_49 : decode b_Mo_rule 49 = .ok (.goto 13, 3) := by decide +kernel
theorem d_Mo_rule_52 : decode b_Mo_rule 52 = .ok (.aload_n 0, 1) := by decide +kernel
theorem d_Mo_rule_53 : decode b_Mo_rule 53 = .ok (.iconst 1, 1) := by decide +kernel
theorem d_Mo_rule_54 : decode b_Mo_rule 54 = .ok (.iload_n 1, 1) := by decide +kernel
theorem d_Mo_rule_55 : decode b_Mo_rule 55 = .ok (.iload_n 2, 1) := by decide +kernel
theorem d_Mo_rule_56 : decode b_Mo_rule 56 = .ok (.iload_n 3, 1) := by decide +kernel
theorem d_Mo_rule_57 : decode b_Mo_rule 57 = .ok (.iconst 0, 1) := by decide +kernel
theorem d_Mo_rule_58 : decode b_Mo_rule 58 = .ok (.iconst 0, 1) := by decide +kernel
theorem d_Mo_rule_59 : decode b_Mo_rule 59 = .ok (.invokevirtual 87, 3) := by decide +kernel
theorem d_Mo_rule_62 : decode b_Mo_rule 62 = .ok (.ireturn, 1) := by decide +kernel
abbrev b_Mo_isOrder : ByteArray := prog_8_method_9_code
def y_Mo_isOrder : MethodName := ⟨"BoxPackerModel", "isOrder", "(I)Z"⟩
theorem d_Mo_isOrder_0 : decode b_Mo_isOrder 0 = .ok (.iload_n 0, 1) := by decide +kernel
theorem d_Mo_isOrder_1 : decode b_Mo_isOrder 1 = .ok (.ifCond .lt 12, 3) := by decide +kernel
theorem d_Mo_isOrder_4 : decode b_Mo_isOrder 4 = .ok (.iload_n 0, 1) := by decide +kernel
theorem d_Mo_isOrder_5 : decode b_Mo_isOrder 5 = .ok (.iconst 4, 1) := by decide +kernel
theorem d_Mo_isOrder_6 : decode b_Mo_isOrder 6 = .ok (.if_icmp .ge 7, 3) := by decide +kernel
theorem d_Mo_isOrder_9 : decode b_Mo_isOrder 9 = .ok (.iconst 1, 1) := by decide +kernel
theorem d_Mo_isOrder_10 : decode b_Mo_isOrder 10 = .ok (.goto 4, 3) := by decide +kernel
theorem d_Mo_isOrder_13 : decode b_Mo_isOrder 13 = .ok (.iconst 0, 1) := by decide +kernel
theorem d_Mo_isOrder_14 : decode b_Mo_isOrder 14 = .ok (.ireturn, 1) := by decide +kernel
abbrev b_Mo_glue : ByteArray := prog_8_method_10_code
def y_Mo_glue : MethodName := ⟨"BoxPackerModel", "glue", "(IIIII)I"⟩
theorem d_Mo_glue_0 : decode b_Mo_glue 0 = .ok (.iload_n 1, 1) := by decide +kernel
theorem d_Mo_glue_1 : decode b_Mo_glue 1 = .ok (.i2l, 1) := by decide +kernel
theorem d_Mo_glue_2 : decode b_Mo_glue 2 = .ok (.invokestatic 79, 3) := by decide +kernel
theorem d_Mo_glue_5 : decode b_Mo_glue 5 = .ok (.ifCond .eq 48, 3) := by decide +kernel
theorem d_Mo_glue_8 : decode b_Mo_glue 8 = .ok (.iload_n 2, 1) := by decide +kernel
theorem d_Mo_glue_9 : decode b_Mo_glue 9 = .ok (.i2l, 1) := by decide +kernel
theorem d_Mo_glue_10 : decode b_Mo_glue 10 = .ok (.invokestatic 79, 3) := by decide +kernel
theorem d_Mo_glue_13 : decode b_Mo_glue 13 = .ok (.ifCond .eq 40, 3) := by decide +kernel
theorem d_Mo_glue_16 : decode b_Mo_glue 16 = .ok (.iload 4, 2) := by decide +kernel
theorem d_Mo_glue_18 : decode b_Mo_glue 18 = .ok (.i2l, 1) := by decide +kernel
theorem d_Mo_glue_19 : decode b_Mo_glue 19 = .ok (.invokestatic 79, 3) := by decide +kernel
theorem d_Mo_glue_22 : decode b_Mo_glue 22 = .ok (.ifCond .eq 31, 3) := by decide +kernel
theorem d_Mo_glue_25 : decode b_Mo_glue 25 = .ok (.iload_n 2, 1) := by decide +kernel
theorem d_Mo_glue_26 : decode b_Mo_glue 26 = .ok (.ifCond .lt 27, 3) := by decide +kernel
theorem d_Mo_glue_29 : decode b_Mo_glue 29 = .ok (.iload 4, 2) := by decide +kernel
theorem d_Mo_glue_31 : decode b_Mo_glue 31 = .ok (.ifCond .lt 22, 3) := by decide +kernel
theorem d_Mo_glue_34 : decode b_Mo_glue 34 = .ok (.iload_n 3, 1) := by decide +kernel
theorem d_Mo_glue_35 : decode b_Mo_glue 35 = .ok (.invokestatic 96, 3) := by decide +kernel
theorem d_Mo_glue_38 : decode b_Mo_glue 38 = .ok (.ifCond .eq 15, 3) := by decide +kernel
theorem d_Mo_glue_41 : decode b_Mo_glue 41 = .ok (.iload 5, 2) := by decide +kernel
theorem d_Mo_glue_43 : decode b_Mo_glue 43 = .ok (.invokestatic 96, 3) := by decide +kernel
theorem d_Mo_glue_46 : decode b_Mo_glue 46 = .ok (.ifCond .eq 7, 3) := by decide +kernel
theorem d_Mo_glue_49 : decode b_Mo_glue 49 = .ok (.iconst 1, 1) := by decide +kernel
theorem d_Mo_glue_50 : decode b_Mo_glue 50 = .ok (.goto 4, 3) := by decide +kernel
theorem d_Mo_glue_53 : decode b_Mo_glue 53 = .ok (.iconst 0, 1) := by decide +kernel
theorem d_Mo_glue_54 : decode b_Mo_glue 54 = .ok (.istore 6, 2) := by decide +kernel
theorem d_Mo_glue_56 : decode b_Mo_glue 56 = .ok (.aload_n 0, 1) := by decide +kernel
theorem d_Mo_glue_57 : decode b_Mo_glue 57 = .ok (.iload 6, 2) := by decide +kernel
theorem d_Mo_glue_59 : decode b_Mo_glue 59 = .ok (.ifCond .ne 7, 3) := by decide +kernel
theorem d_Mo_glue_62 : decode b_Mo_glue 62 = .ok (.iconst 1, 1) := by decide +kernel
theorem d_Mo_glue_63 : decode b_Mo_glue 63 = .ok (.goto 15, 3) := by decide +kernel
theorem d_Mo_glue_66 : decode b_Mo_glue 66 = .ok (.aload_n 0, 1) := by decide +kernel
theorem d_Mo_glue_67 : decode b_Mo_glue 67 = .ok (.invokevirtual 83, 3) := by decide +kernel
theorem d_Mo_glue_70 : decode b_Mo_glue 70 = .ok (.ifCond .eq 7, 3) := by decide +kernel
theorem d_Mo_glue_73 : decode b_Mo_glue 73 = .ok (.iconst 2, 1) := by decide +kernel
theorem d_Mo_glue_74 : decode b_Mo_glue 74 = .ok (.goto 4, 3) := by decide +kernel
theorem d_Mo_glue_77 : decode b_Mo_glue 77 = .ok (.iconst 0, 1) := by decide +kernel
theorem d_Mo_glue_78 : decode b_Mo_glue 78 = .ok (.putfield 64, 3) := by decide +kernel
theorem d_Mo_glue_81 : decode b_Mo_glue 81 = .ok (.aload_n 0, 1) := by decide +kernel
theorem d_Mo_glue_82 : decode b_Mo_glue 82 = .ok (.getfield 64, 3) := by decide +kernel
theorem d_Mo_glue_85 : decode b_Mo_glue 85 = .ok (.ifCond .le 7, 3) := by decide +kernel
theorem d_Mo_glue_88 : decode b_Mo_glue 88 = .ok (.iconst 0, 1) := by decide +kernel
theorem d_Mo_glue_89 : decode b_Mo_glue 89 = .ok (.goto 15, 3) := by decide +kernel
theorem d_Mo_glue_92 : decode b_Mo_glue 92 = .ok (.aload_n 0, 1) := by decide +kernel
theorem d_Mo_glue_93 : decode b_Mo_glue 93 = .ok (.iconst 2, 1) := by decide +kernel
theorem d_Mo_glue_94 : decode b_Mo_glue 94 = .ok (.iload_n 1, 1) := by decide +kernel
theorem d_Mo_glue_95 : decode b_Mo_glue 95 = .ok (.iload_n 2, 1) := by decide +kernel
theorem d_Mo_glue_96 : decode b_Mo_glue 96 = .ok (.iload_n 3, 1) := by decide +kernel
theorem d_Mo_glue_97 : decode b_Mo_glue 97 = .ok (.iload 4, 2) := by decide +kernel
theorem d_Mo_glue_99 : decode b_Mo_glue 99 = .ok (.iload 5, 2) := by decide +kernel
theorem d_Mo_glue_101 : decode b_Mo_glue 101 = .ok (.invokevirtual 87, 3) := by decide +kernel
theorem d_Mo_glue_104 : decode b_Mo_glue 104 = .ok (.ireturn, 1) := by decide +kernel
abbrev b_Mo_kern : ByteArray := prog_8_method_11_code
def y_Mo_kern : MethodName := ⟨"BoxPackerModel", "kern", "(I)I"⟩
theorem d_Mo_kern_0 : decode b_Mo_kern 0 = .ok (.aload_n 0, 1) := by decide +kernel
theorem d_Mo_kern_1 : decode b_Mo_kern 1 = .ok (.iload_n 1, 1) := by decide +kernel
theorem d_Mo_kern_2 : decode b_Mo_kern 2 = .ok (.i2l, 1) := by decide +kernel
theorem d_Mo_kern_3 : decode b_Mo_kern 3 = .ok (.invokestatic 79, 3) := by decide +kernel
theorem d_Mo_kern_6 : decode b_Mo_kern 6 = .ok (.ifCond .ne 7, 3) := by decide +kernel
theorem d_Mo_kern_9 : decode b_Mo_kern 9 = .ok (.iconst 1, 1) := by decide +kernel
theorem d_Mo_kern_10 : decode b_Mo_kern 10 = .ok (.goto 15, 3) := by decide +kernel
theorem d_Mo_kern_13 : decode b_Mo_kern 13 = .ok (.aload_n 0, 1) := by decide +kernel
theorem d_Mo_kern_14 : decode b_Mo_kern 14 = .ok (.invokevirtual 83, 3) := by decide +kernel
theorem d_Mo_kern_17 : decode b_Mo_kern 17 = .ok (.ifCond .eq 7, 3) := by decide +kernel
theorem d_Mo_kern_20 : decode b_Mo_kern 20 = .ok (.iconst 2, 1) := by decide +kernel
theorem d_Mo_kern_21 : decode b_Mo_kern 21 = .ok (.goto 4, 3) := by decide +kernel
theorem d_Mo_kern_24 : decode b_Mo_kern 24 = .ok (.iconst 0, 1) := by decide +kernel
theorem d_Mo_kern_25 : decode b_Mo_kern 25 = .ok (.putfield 64, 3) := by decide +kernel
theorem d_Mo_kern_28 : decode b_Mo_kern 28 = .ok (.aload_n 0, 1) := by decide +kernel
theorem d_Mo_kern_29 : decode b_Mo_kern 29 = .ok (.getfield 64, 3) := by decide +kernel
theorem d_Mo_kern_32 : decode b_Mo_kern 32 = .ok (.ifCond .le 7, 3) := by decide +kernel
theorem d_Mo_kern_35 : decode b_Mo_kern 35 = .ok (.iconst 0, 1) := by decide +kernel
theorem d_Mo_kern_36 : decode b_Mo_kern 36 = .ok (.goto 13, 3) := by decide +kernel
theorem d_Mo_kern_39 : decode b_Mo_kern 39 = .ok (.aload_n 0, 1) := by decide +kernel
theorem d_Mo_kern_40 : decode b_Mo_kern 40 = .ok (.iconst 3, 1) := by decide +kernel
theorem d_Mo_kern_41 : decode b_Mo_kern 41 = .ok (.iload_n 1, 1) := by decide +kernel
theorem d_Mo_kern_42 : decode b_Mo_kern 42 = .ok (.iconst 0, 1) := by decide +kernel
theorem d_Mo_kern_43 : decode b_Mo_kern 43 = .ok (.iconst 0, 1) := by decide +kernel
theorem d_Mo_kern_44 : decode b_Mo_kern 44 = .ok (.iconst 0, 1) := by decide +kernel
theorem d_Mo_kern_45 : decode b_Mo_kern 45 = .ok (.iconst 0, 1) := by decide +kernel
theorem d_Mo_kern_46 : decode b_Mo_kern 46 = .ok (.invokevirtual 87, 3) := by decide +kernel
theorem d_Mo_kern_49 : decode b_Mo_kern 49 = .ok (.ireturn, 1) := by decide +kernel
abbrev b_Mo_isBox : ByteArray := prog_8_method_12_code
def y_Mo_isBox : MethodName := ⟨"BoxPackerModel", "isBox", "(I)Z"⟩
theorem d_Mo_isBox_0 : decode b_Mo_isBox 0 = .ok (.iload_n 1, 1) := by decide +kernel
theorem d_Mo_isBox_1 : decode b_Mo_isBox 1 = .ok (.ifCond .lt 15, 3) := by decide +kernel
theorem d_Mo_isBox_4 : decode b_Mo_isBox 4 = .ok (.iload_n 1, 1) := by decide +kernel
theorem d_Mo_isBox_5 : decode b_Mo_isBox 5 = .ok (.aload_n 0, 1) := by decide +kernel
theorem d_Mo_isBox_6 : decode b_Mo_isBox 6 = .ok (.getfield 99, 3) := by decide +kernel
theorem d_Mo_isBox_9 : decode b_Mo_isBox 9 = .ok (.if_icmp .ge 7, 3) := by decide +kernel
theorem d_Mo_isBox_12 : decode b_Mo_isBox 12 = .ok (.iconst 1, 1) := by decide +kernel
theorem d_Mo_isBox_13 : decode b_Mo_isBox 13 = .ok (.goto 4, 3) := by decide +kernel
theorem d_Mo_isBox_16 : decode b_Mo_isBox 16 = .ok (.iconst 0, 1) := by decide +kernel
theorem d_Mo_isBox_17 : decode b_Mo_isBox 17 = .ok (.ireturn, 1) := by decide +kernel
abbrev b_Mo_box : ByteArray := prog_8_method_13_code
def y_Mo_box : MethodName := ⟨"BoxPackerModel", "box", "(II)I"⟩
theorem d_Mo_box_0 : decode b_Mo_box 0 = .ok (.aload_n 0, 1) := by decide +kernel
theorem d_Mo_box_1 : decode b_Mo_box 1 = .ok (.aload_n 0, 1) := by decide +kernel
theorem d_Mo_box_2 : decode b_Mo_box 2 = .ok (.iload_n 1, 1) := by decide +kernel
theorem d_Mo_box_3 : decode b_Mo_box 3 = .ok (.invokevirtual 102, 3) := by decide +kernel
theorem d_Mo_box_6 : decode b_Mo_box 6 = .ok (.ifCond .ne 7, 3) := by decide +kernel
theorem d_Mo_box_9 : decode b_Mo_box 9 = .ok (.iconst 1, 1) := by decide +kernel
theorem d_Mo_box_10 : decode b_Mo_box 10 = .ok (.goto 27, 3) := by decide +kernel
theorem d_Mo_box_13 : decode b_Mo_box 13 = .ok (.iload_n 2, 1) := by decide +kernel
theorem d_Mo_box_14 : decode b_Mo_box 14 = .ok (.i2l, 1) := by decide +kernel
theorem d_Mo_box_15 : decode b_Mo_box 15 = .ok (.invokestatic 79, 3) := by decide +kernel
theorem d_Mo_box_18 : decode b_Mo_box 18 = .ok (.ifCond .ne 7, 3) := by decide +kernel
theorem d_Mo_box_21 : decode b_Mo_box 21 = .ok (.iconst 2, 1) := by decide +kernel
theorem d_Mo_box_22 : decode b_Mo_box 22 = .ok (.goto 15, 3) := by decide +kernel
theorem d_Mo_box_25 : decode b_Mo_box 25 = .ok (.aload_n 0, 1) := by decide +kernel
theorem d_Mo_box_26 : decode b_Mo_box 26 = .ok (.invokevirtual 83, 3) := by decide +kernel
theorem d_Mo_box_29 : decode b_Mo_box 29 = .ok (.ifCond .eq 7, 3) := by decide +kernel
theorem d_Mo_box_32 : decode b_Mo_box 32 = .ok (.iconst 3, 1) := by decide +kernel
theorem d_Mo_box_33 : decode b_Mo_box 33 = .ok (.goto 4, 3) := by decide +kernel
theorem d_Mo_box_36 : decode b_Mo_box 36 = .ok (.iconst 0, 1) := by decide +kernel
theorem d_Mo_box_37 : decode b_Mo_box 37 = .ok (.putfield 64, 3) := by decide +kernel
theorem d_Mo_box_40 : decode b_Mo_box 40 = .ok (.aload_n 0, 1) := by decide +kernel
theorem d_Mo_box_41 : decode b_Mo_box 41 = .ok (.getfield 64, 3) := by decide +kernel
theorem d_Mo_box_44 : decode b_Mo_box 44 = .ok (.ifCond .le 7, 3) := by decide +kernel
theorem d_Mo_box_47 : decode b_Mo_box 47 = .ok (.iconst 0, 1) := by decide +kernel
theorem d_Mo_box_48 : decode b_Mo_box 48 = .ok (.goto 13, 3) := by decide +kernel
theorem d_Mo_box_51 : decode b_Mo_box 51 = .ok (.aload_n 0, 1) := by decide +kernel
theorem d_Mo_box_52 : decode b_Mo_box 52 = .ok (.iconst 4, 1) := by decide +kernel
theorem d_Mo_box_53 : decode b_Mo_box 53 = .ok (.iload_n 1, 1) := by decide +kernel
theorem d_Mo_box_54 : decode b_Mo_box 54 = .ok (.iload_n 2, 1) := by decide +kernel
theorem d_Mo_box_55 : decode b_Mo_box 55 = .ok (.iconst 0, 1) := by decide +kernel
theorem d_Mo_box_56 : decode b_Mo_box 56 = .ok (.iconst 0, 1) := by decide +kernel
theorem d_Mo_box_57 : decode b_Mo_box 57 = .ok (.iconst 0, 1) := by decide +kernel
theorem d_Mo_box_58 : decode b_Mo_box 58 = .ok (.invokevirtual 87, 3) := by decide +kernel
theorem d_Mo_box_61 : decode b_Mo_box 61 = .ok (.ireturn, 1) := by decide +kernel
abbrev b_Mo_keep : ByteArray := prog_8_method_14_code
def y_Mo_keep : MethodName := ⟨"BoxPackerModel", "keep", "(I)Z"⟩
theorem d_Mo_keep_0 : decode b_Mo_keep 0 = .ok (.aload_n 0, 1) := by decide +kernel
theorem d_Mo_keep_1 : decode b_Mo_keep 1 = .ok (.iconst 0, 1) := by decide +kernel
theorem d_Mo_keep_2 : decode b_Mo_keep 2 = .ok (.putfield 64, 3) := by decide +kernel
theorem d_Mo_keep_5 : decode b_Mo_keep 5 = .ok (.iload_n 1, 1) := by decide +kernel
theorem d_Mo_keep_6 : decode b_Mo_keep 6 = .ok (.ifCond .lt 16, 3) := by decide +kernel
theorem d_Mo_keep_9 : decode b_Mo_keep 9 = .ok (.iload_n 1, 1) := by decide +kernel
theorem d_Mo_keep_10 : decode b_Mo_keep 10 = .ok (.aload_n 0, 1) := by decide +kernel
theorem d_Mo_keep_11 : decode b_Mo_keep 11 = .ok (.getfield 72, 3) := by decide +kernel
theorem d_Mo_keep_14 : decode b_Mo_keep 14 = .ok (.aload_n 0, 1) := by decide +kernel
theorem d_Mo_keep_15 : decode b_Mo_keep 15 = .ok (.getfield 75, 3) := by decide +kernel
theorem d_Mo_keep_18 : decode b_Mo_keep 18 = .ok (.isub, 1) := by decide +kernel
theorem d_Mo_keep_19 : decode b_Mo_keep 19 = .ok (.if_icmp .le 5, 3) := by decide +kernel
theorem d_Mo_keep_22 : decode b_Mo_keep 22 = .ok (.iconst 0, 1) := by decide +kernel
theorem d_Mo_keep_23 : decode b_Mo_keep 23 = .ok (.ireturn, 1) := by decide +kernel
theorem d_Mo_keep_24 : decode b_Mo_keep 24 = .ok (.aload_n 0, 1) := by decide +kernel
theorem d_Mo_keep_25 : decode b_Mo_keep 25 = .ok (.aload_n 0, 1) := by decide +kernel
theorem d_Mo_keep_26 : decode b_Mo_keep 26 = .ok (.getfield 75, 3) := by decide +kernel
theorem d_Mo_keep_29 : decode b_Mo_keep 29 = .ok (.iload_n 1, 1) := by decide +kernel
theorem d_Mo_keep_30 : decode b_Mo_keep 30 = .ok (.iadd, 1) := by decide +kernel
theorem d_Mo_keep_31 : decode b_Mo_keep 31 = .ok (.putfield 72, 3) := by decide +kernel
theorem d_Mo_keep_34 : decode b_Mo_keep 34 = .ok (.iconst 1, 1) := by decide +kernel
theorem d_Mo_keep_35 : decode b_Mo_keep 35 = .ok (.ireturn, 1) := by decide +kernel
abbrev b_Mo_items : ByteArray := prog_8_method_15_code
def y_Mo_items : MethodName := ⟨"BoxPackerModel", "items", "()I"⟩
theorem d_Mo_items_0 : decode b_Mo_items 0 = .ok (.aload_n 0, 1) := by decide +kernel
theorem d_Mo_items_1 : decode b_Mo_items 1 = .ok (.iconst 0, 1) := by decide +kernel
theorem d_Mo_items_2 : decode b_Mo_items 2 = .ok (.putfield 64, 3) := by decide +kernel
theorem d_Mo_items_5 : decode b_Mo_items 5 = .ok (.aload_n 0, 1) := by decide +kernel
theorem d_Mo_items_6 : decode b_Mo_items 6 = .ok (.getfield 72, 3) := by decide +kernel
theorem d_Mo_items_9 : decode b_Mo_items 9 = .ok (.aload_n 0, 1) := by decide +kernel
theorem d_Mo_items_10 : decode b_Mo_items 10 = .ok (.getfield 75, 3) := by decide +kernel
theorem d_Mo_items_13 : decode b_Mo_items 13 = .ok (.isub, 1) := by decide +kernel
theorem d_Mo_items_14 : decode b_Mo_items 14 = .ok (.ireturn, 1) := by decide +kernel
abbrev b_Mo_number : ByteArray := prog_8_method_16_code
def y_Mo_number : MethodName := ⟨"BoxPackerModel", "number", "(II)I"⟩
theorem d_Mo_number_0 : decode b_Mo_number 0 = .ok (.aload_n 0, 1) := by decide +kernel
theorem d_Mo_number_1 : decode b_Mo_number 1 = .ok (.getfield 14, 3) := by decide +kernel
theorem d_Mo_number_4 : decode b_Mo_number 4 = .ok (.iconst 5, 1) := by decide +kernel
theorem d_Mo_number_5 : decode b_Mo_number 5 = .ok (.iload_n 1, 1) := by decide +kernel
theorem d_Mo_number_6 : decode b_Mo_number 6 = .ok (.imul, 1) := by decide +kernel
theorem d_Mo_number_7 : decode b_Mo_number 7 = .ok (.iload_n 2, 1) := by decide +kernel
theorem d_Mo_number_8 : decode b_Mo_number 8 = .ok (.iadd, 1) := by decide +kernel
theorem d_Mo_number_9 : decode b_Mo_number 9 = .ok (.iaload, 1) := by decide +kernel
theorem d_Mo_number_10 : decode b_Mo_number 10 = .ok (.ireturn, 1) := by decide +kernel
abbrev b_Mo_solid : ByteArray := prog_8_method_17_code
def y_Mo_solid : MethodName := ⟨"BoxPackerModel", "solid", "(II)I"⟩
theorem d_Mo_solid_0 : decode b_Mo_solid 0 = .ok (.aload_n 0, 1) := by decide +kernel
theorem d_Mo_solid_1 : decode b_Mo_solid 1 = .ok (.iload_n 1, 1) := by decide +kernel
theorem d_Mo_solid_2 : decode b_Mo_solid 2 = .ok (.iload_n 2, 1) := by decide +kernel
theorem d_Mo_solid_3 : decode b_Mo_solid 3 = .ok (.invokevirtual 105, 3) := by decide +kernel
theorem d_Mo_solid_6 : decode b_Mo_solid 6 = .ok (.istore_n 3, 1) := by decide +kernel
theorem d_Mo_solid_7 : decode b_Mo_solid 7 = .ok (.iload_n 3, 1) := by decide +kernel
theorem d_Mo_solid_8 : decode b_Mo_solid 8 = .ok (.ldc 91, 2) := by decide +kernel
theorem d_Mo_solid_10 : decode b_Mo_solid 10 = .ok (.if_icmp .ne 7, 3) := by decide +kernel
theorem d_Mo_solid_13 : decode b_Mo_solid 13 = .ok (.iconst 0, 1) := by decide +kernel
theorem d_Mo_solid_14 : decode b_Mo_solid 14 = .ok (.goto 4, 3) := by decide +kernel
theorem d_Mo_solid_17 : decode b_Mo_solid 17 = .ok (.iload_n 3, 1) := by decide +kernel
theorem d_Mo_solid_18 : decode b_Mo_solid 18 = .ok (.ireturn, 1) := by decide +kernel
abbrev b_Mo_isSolid : ByteArray := prog_8_method_18_code
def y_Mo_isSolid : MethodName := ⟨"BoxPackerModel", "isSolid", "(I)Z"⟩
theorem d_Mo_isSolid_0 : decode b_Mo_isSolid 0 = .ok (.aload_n 0, 1) := by decide +kernel
theorem d_Mo_isSolid_1 : decode b_Mo_isSolid 1 = .ok (.getfield 7, 3) := by decide +kernel
theorem d_Mo_isSolid_4 : decode b_Mo_isSolid 4 = .ok (.iload_n 1, 1) := by decide +kernel
theorem d_Mo_isSolid_5 : decode b_Mo_isSolid 5 = .ok (.iaload, 1) := by decide +kernel
theorem d_Mo_isSolid_6 : decode b_Mo_isSolid 6 = .ok (.ifCond .eq 23, 3) := by decide +kernel
theorem d_Mo_isSolid_9 : decode b_Mo_isSolid 9 = .ok (.aload_n 0, 1) := by decide +kernel
theorem d_Mo_isSolid_10 : decode b_Mo_isSolid 10 = .ok (.getfield 7, 3) := by decide +kernel
theorem d_Mo_isSolid_13 : decode b_Mo_isSolid 13 = .ok (.iload_n 1, 1) := by decide +kernel
theorem d_Mo_isSolid_14 : decode b_Mo_isSolid 14 = .ok (.iaload, 1) := by decide +kernel
theorem d_Mo_isSolid_15 : decode b_Mo_isSolid 15 = .ok (.iconst 1, 1) := by decide +kernel
theorem d_Mo_isSolid_16 : decode b_Mo_isSolid 16 = .ok (.if_icmp .eq 13, 3) := by decide +kernel
theorem d_Mo_isSolid_19 : decode b_Mo_isSolid 19 = .ok (.aload_n 0, 1) := by decide +kernel
theorem d_Mo_isSolid_20 : decode b_Mo_isSolid 20 = .ok (.getfield 7, 3) := by decide +kernel
theorem d_Mo_isSolid_23 : decode b_Mo_isSolid 23 = .ok (.iload_n 1, 1) := by decide +kernel
theorem d_Mo_isSolid_24 : decode b_Mo_isSolid 24 = .ok (.iaload, 1) := by decide +kernel
theorem d_Mo_isSolid_25 : decode b_Mo_isSolid 25 = .ok (.iconst 4, 1) := by decide +kernel
theorem d_Mo_isSolid_26 : decode b_Mo_isSolid 26 = .ok (.if_icmp .ne 7, 3) := by decide +kernel
theorem d_Mo_isSolid_29 : decode b_Mo_isSolid 29 = .ok (.iconst 1, 1) := by decide +kernel
theorem d_Mo_isSolid_30 : decode b_Mo_isSolid 30 = .ok (.goto 4, 3) := by decide +kernel
theorem d_Mo_isSolid_33 : decode b_Mo_isSolid 33 = .ok (.iconst 0, 1) := by decide +kernel
theorem d_Mo_isSolid_34 : decode b_Mo_isSolid 34 = .ok (.ireturn, 1) := by decide +kernel
abbrev b_Mo_sizeOf : ByteArray := prog_8_method_19_code
def y_Mo_sizeOf : MethodName := ⟨"BoxPackerModel", "sizeOf", "(II)I"⟩
theorem d_Mo_sizeOf_0 : decode b_Mo_sizeOf 0 = .ok (.aload_n 0, 1) := by decide +kernel
theorem d_Mo_sizeOf_1 : decode b_Mo_sizeOf 1 = .ok (.getfield 7, 3) := by decide +kernel
theorem d_Mo_sizeOf_4 : decode b_Mo_sizeOf 4 = .ok (.iload_n 1, 1) := by decide +kernel
theorem d_Mo_sizeOf_5 : decode b_Mo_sizeOf 5 = .ok (.iaload, 1) := by decide +kernel
theorem d_Mo_sizeOf_6 : decode b_Mo_sizeOf 6 = .ok (.ifCond .ne 12, 3) := by decide +kernel
theorem d_Mo_sizeOf_9 : decode b_Mo_sizeOf 9 = .ok (.aload_n 0, 1) := by decide +kernel
theorem d_Mo_sizeOf_10 : decode b_Mo_sizeOf 10 = .ok (.iload_n 1, 1) := by decide +kernel
theorem d_Mo_sizeOf_11 : decode b_Mo_sizeOf 11 = .ok (.iload_n 2, 1) := by decide +kernel
theorem d_Mo_sizeOf_12 : decode b_Mo_sizeOf 12 = .ok (.iconst 1, 1) := by decide +kernel
theorem d_Mo_sizeOf_13 : decode b_Mo_sizeOf 13 = .ok (.iadd, 1) := by decide +kernel
theorem d_Mo_sizeOf_14 : decode b_Mo_sizeOf 14 = .ok (.invokevirtual 105, 3) := by decide +kernel
theorem d_Mo_sizeOf_17 : decode b_Mo_sizeOf 17 = .ok (.ireturn, 1) := by decide +kernel
theorem d_Mo_sizeOf_18 : decode b_Mo_sizeOf 18 = .ok (.aload_n 0, 1) := by decide +kernel
theorem d_Mo_sizeOf_19 : decode b_Mo_sizeOf 19 = .ok (.getfield 7, 3) := by decide +kernel
theorem d_Mo_sizeOf_22 : decode b_Mo_sizeOf 22 = .ok (.iload_n 1, 1) := by decide +kernel
theorem d_Mo_sizeOf_23 : decode b_Mo_sizeOf 23 = .ok (.iaload, 1) := by decide +kernel
theorem d_Mo_sizeOf_24 : decode b_Mo_sizeOf 24 = .ok (.iconst 1, 1) := by decide +kernel
theorem d_Mo_sizeOf_25 : decode b_Mo_sizeOf 25 = .ok (.if_icmp .ne 10, 3) := by decide +kernel
theorem d_Mo_sizeOf_28 : decode b_Mo_sizeOf 28 = .ok (.aload_n 0, 1) := by decide +kernel
theorem d_Mo_sizeOf_29 : decode b_Mo_sizeOf 29 = .ok (.iload_n 1, 1) := by decide +kernel
theorem d_Mo_sizeOf_30 : decode b_Mo_sizeOf 30 = .ok (.iload_n 2, 1) := by decide +kernel
theorem d_Mo_sizeOf_31 : decode b_Mo_sizeOf 31 = .ok (.invokevirtual 109, 3) := by decide +kernel
theorem d_Mo_sizeOf_34 : decode b_Mo_sizeOf 34 = .ok (.ireturn, 1) := by decide +kernel
theorem d_Mo_sizeOf_35 : decode b_Mo_sizeOf 35 = .ok (.aload_n 0, 1) := by decide +kernel
theorem d_Mo_sizeOf_36 : decode b_Mo_sizeOf 36 = .ok (.iload_n 1, 1) := by decide +kernel
theorem d_Mo_sizeOf_37 : decode b_Mo_sizeOf 37 = .ok (.iconst 0, 1) := by decide +kernel
theorem d_Mo_sizeOf_38 : decode b_Mo_sizeOf 38 = .ok (.invokevirtual 105, 3) := by decide +kernel
theorem d_Mo_sizeOf_41 : decode b_Mo_sizeOf 41 = .ok (.istore_n 3, 1) := by decide +kernel
theorem d_Mo_sizeOf_42 : decode b_Mo_sizeOf 42 = .ok (.iload_n 2, 1) := by decide +kernel
theorem d_Mo_sizeOf_43 : decode b_Mo_sizeOf 43 = .ok (.ifCond .ne 12, 3) := by decide +kernel
theorem d_Mo_sizeOf_46 : decode b_Mo_sizeOf 46 = .ok (.aload_n 0, 1) := by decide +kernel
theorem d_Mo_sizeOf_47 : decode b_Mo_sizeOf 47 = .ok (.getfield 24, 3) := by decide +kernel
theorem d_Mo_sizeOf_50 : decode b_Mo_sizeOf 50 = .ok (.iload_n 3, 1) := by decide +kernel
theorem d_Mo_sizeOf_51 : decode b_Mo_sizeOf 51 = .ok (.iaload, 1) := by decide +kernel
theorem d_Mo_sizeOf_52 : decode b_Mo_sizeOf 52 = .ok (.goto 23, 3) := by decide +kernel
theorem d_Mo_sizeOf_55 : decode b_Mo_sizeOf 55 = .ok (.iload_n 2, 1) := by decide +kernel
theorem d_Mo_sizeOf_56 : decode b_Mo_sizeOf 56 = .ok (.iconst 1, 1) := by decide +kernel
theorem d_Mo_sizeOf_57 : decode b_Mo_sizeOf 57 = .ok (.if_icmp .ne 12, 3) := by decide +kernel
theorem d_Mo_sizeOf_60 : decode b_Mo_sizeOf 60 = .ok (.aload_n 0, 1) := by decide +kernel
theorem d_Mo_sizeOf_61 : decode b_Mo_sizeOf 61 = .ok (.getfield 27, 3) := by decide +kernel
theorem d_Mo_sizeOf_64 : decode b_Mo_sizeOf 64 = .ok (.iload_n 3, 1) := by decide +kernel
theorem d_Mo_sizeOf_65 : decode b_Mo_sizeOf 65 = .ok (.iaload, 1) := by decide +kernel
theorem d_Mo_sizeOf_66 : decode b_Mo_sizeOf 66 = .ok (.goto 9, 3) := by decide +kernel
theorem d_Mo_sizeOf_69 : decode b_Mo_sizeOf 69 = .ok (.aload_n 0, 1) := by decide +kernel
theorem d_Mo_sizeOf_70 : decode b_Mo_sizeOf 70 = .ok (.getfield 30, 3) := by decide +kernel
theorem d_Mo_sizeOf_73 : decode b_Mo_sizeOf 73 = .ok (.iload_n 3, 1) := by decide +kernel
theorem d_Mo_sizeOf_74 : decode b_Mo_sizeOf 74 = .ok (.iaload, 1) := by decide +kernel
theorem d_Mo_sizeOf_75 : decode b_Mo_sizeOf 75 = .ok (.ireturn, 1) := by decide +kernel
abbrev b_Mo_grow : ByteArray := prog_8_method_20_code
def y_Mo_grow : MethodName := ⟨"BoxPackerModel", "grow", "(J)V"⟩
theorem d_Mo_grow_0 : decode b_Mo_grow 0 = .ok (.aload_n 0, 1) := by decide +kernel
theorem d_Mo_grow_1 : decode b_Mo_grow 1 = .ok (.aload_n 0, 1) := by decide +kernel
theorem d_Mo_grow_2 : decode b_Mo_grow 2 = .ok (.getfield 112, 3) := by decide +kernel
theorem d_Mo_grow_5 : decode b_Mo_grow 5 = .ok (.lload_n 1, 1) := by decide +kernel
theorem d_Mo_grow_6 : decode b_Mo_grow 6 = .ok (.ladd, 1) := by decide +kernel
theorem d_Mo_grow_7 : decode b_Mo_grow 7 = .ok (.putfield 112, 3) := by decide +kernel
theorem d_Mo_grow_10 : decode b_Mo_grow 10 = .ok (.aload_n 0, 1) := by decide +kernel
theorem d_Mo_grow_11 : decode b_Mo_grow 11 = .ok (.aload_n 0, 1) := by decide +kernel
theorem d_Mo_grow_12 : decode b_Mo_grow 12 = .ok (.getfield 116, 3) := by decide +kernel
theorem d_Mo_grow_15 : decode b_Mo_grow 15 = .ok (.ifCond .eq 17, 3) := by decide +kernel
theorem d_Mo_grow_18 : decode b_Mo_grow 18 = .ok (.aload_n 0, 1) := by decide +kernel
theorem d_Mo_grow_19 : decode b_Mo_grow 19 = .ok (.getfield 112, 3) := by decide +kernel
theorem d_Mo_grow_22 : decode b_Mo_grow 22 = .ok (.invokestatic 79, 3) := by decide +kernel
theorem d_Mo_grow_25 : decode b_Mo_grow 25 = .ok (.ifCond .eq 7, 3) := by decide +kernel
theorem d_Mo_grow_28 : decode b_Mo_grow 28 = .ok (.iconst 1, 1) := by decide +kernel
theorem d_Mo_grow_29 : decode b_Mo_grow 29 = .ok (.goto 4, 3) := by decide +kernel
theorem d_Mo_grow_32 : decode b_Mo_grow 32 = .ok (.iconst 0, 1) := by decide +kernel
theorem d_Mo_grow_33 : decode b_Mo_grow 33 = .ok (.putfield 116, 3) := by decide +kernel
theorem d_Mo_grow_36 : decode b_Mo_grow 36 = .ok (.return_, 1) := by decide +kernel
abbrev b_Mo_greater : ByteArray := prog_8_method_21_code
def y_Mo_greater : MethodName := ⟨"BoxPackerModel", "greater", "(JJ)J"⟩
theorem d_Mo_greater_0 : decode b_Mo_greater 0 = .ok (.aload_n 0, 1) := by decide +kernel
theorem d_Mo_greater_1 : decode b_Mo_greater 1 = .ok (.aload_n 0, 1) := by decide +kernel
theorem d_Mo_greater_2 : decode b_Mo_greater 2 = .ok (.getfield 116, 3) := by decide +kernel
theorem d_Mo_greater_5 : decode b_Mo_greater 5 = .ok (.ifCond .eq 14, 3) := by decide +kernel
theorem d_Mo_greater_8 : decode b_Mo_greater 8 = .ok (.lload_n 3, 1) := by decide +kernel
theorem d_Mo_greater_9 : decode b_Mo_greater 9 = .ok (.invokestatic 79, 3) := by decide +kernel
theorem d_Mo_greater_12 : decode b_Mo_greater 12 = .ok (.ifCond .eq 7, 3) := by decide +kernel
theorem d_Mo_greater_15 : decode b_Mo_greater 15 = .ok (.iconst 1, 1) := by decide +kernel
theorem d_Mo_greater_16 : decode b_Mo_greater 16 = .ok (.goto 4, 3) := by decide +kernel
theorem d_Mo_greater_19 : decode b_Mo_greater 19 = .ok (.iconst 0, 1) := by decide +kernel
theorem d_Mo_greater_20 : decode b_Mo_greater 20 = .ok (.putfield 116, 3) := by decide +kernel
theorem d_Mo_greater_23 : decode b_Mo_greater 23 = .ok (.lload_n 3, 1) := by decide +kernel
theorem d_Mo_greater_24 : decode b_Mo_greater 24 = .ok (.lload_n 1, 1) := by decide +kernel
theorem d_Mo_greater_25 : decode b_Mo_greater 25 = .ok (.lcmp, 1) := by decide +kernel
theorem d_Mo_greater_26 : decode b_Mo_greater 26 = .ok (.ifCond .le 7, 3) := by decide +kernel
theorem d_Mo_greater_29 : decode b_Mo_greater 29 = .ok (.lload_n 3, 1) := by decide +kernel
theorem d_Mo_greater_30 : decode b_Mo_greater 30 = .ok (.goto 4, 3) := by decide +kernel
theorem d_Mo_greater_33 : decode b_Mo_greater 33 = .ok (.lload_n 1, 1) := by decide +kernel
theorem d_Mo_greater_34 : decode b_Mo_greater 34 = .ok (.lreturn, 1) := by decide +kernel
abbrev b_Mo_clear : ByteArray := prog_8_method_22_code
def y_Mo_clear : MethodName := ⟨"BoxPackerModel", "clear", "()V"⟩
theorem d_Mo_clear_0 : decode b_Mo_clear 0 = .ok (.aload_n 0, 1) := by decide +kernel
theorem d_Mo_clear_1 : decode b_Mo_clear 1 = .ok (.iconst 1, 1) := by decide +kernel
theorem d_Mo_clear_2 : decode b_Mo_clear 2 = .ok (.putfield 116, 3) := by decide +kernel
theorem d_Mo_clear_5 : decode b_Mo_clear 5 = .ok (.aload_n 0, 1) := by decide +kernel
theorem d_Mo_clear_6 : decode b_Mo_clear 6 = .ok (.lconst 0, 1) := by decide +kernel
theorem d_Mo_clear_7 : decode b_Mo_clear 7 = .ok (.putfield 112, 3) := by decide +kernel
theorem d_Mo_clear_10 : decode b_Mo_clear 10 = .ok (.aload_n 0, 1) := by decide +kernel
theorem d_Mo_clear_11 : decode b_Mo_clear 11 = .ok (.lconst 0, 1) := by decide +kernel
theorem d_Mo_clear_12 : decode b_Mo_clear 12 = .ok (.putfield 120, 3) := by decide +kernel
theorem d_Mo_clear_15 : decode b_Mo_clear 15 = .ok (.aload_n 0, 1) := by decide +kernel
theorem d_Mo_clear_16 : decode b_Mo_clear 16 = .ok (.lconst 0, 1) := by decide +kernel
theorem d_Mo_clear_17 : decode b_Mo_clear 17 = .ok (.putfield 123, 3) := by decide +kernel
theorem d_Mo_clear_20 : decode b_Mo_clear 20 = .ok (.aload_n 0, 1) := by decide +kernel
theorem d_Mo_clear_21 : decode b_Mo_clear 21 = .ok (.lconst 0, 1) := by decide +kernel
theorem d_Mo_clear_22 : decode b_Mo_clear 22 = .ok (.putfield 126, 3) := by decide +kernel
theorem d_Mo_clear_25 : decode b_Mo_clear 25 = .ok (.iconst 0, 1) := by decide +kernel
theorem d_Mo_clear_26 : decode b_Mo_clear 26 = .ok (.istore_n 1, 1) := by decide +kernel
theorem d_Mo_clear_27 : decode b_Mo_clear 27 = .ok (.iload_n 1, 1) := by decide +kernel
theorem d_Mo_clear_28 : decode b_Mo_clear 28 = .ok (.iconst 4, 1) := by decide +kernel
theorem d_Mo_clear_29 : decode b_Mo_clear 29 = .ok (.if_icmp .ge 23, 3) := by decide +kernel
theorem d_Mo_clear_32 : decode b_Mo_clear 32 = .ok (.aload_n 0, 1) := by decide +kernel
theorem d_Mo_clear_33 : decode b_Mo_clear 33 = .ok (.getfield 54, 3) := by decide +kernel
theorem d_Mo_clear_36 : decode b_Mo_clear 36 = .ok (.iload_n 1, 1) := by decide +kernel
theorem d_Mo_clear_37 : decode b_Mo_clear 37 = .ok (.lconst 0, 1) := by decide +kernel
theorem d_Mo_clear_38 : decode b_Mo_clear 38 = .ok (.lastore, 1) := by decide +kernel
theorem d_Mo_clear_39 : decode b_Mo_clear 39 = .ok (.aload_n 0, 1) := by decide +kernel
theorem d_Mo_clear_40 : decode b_Mo_clear 40 = .ok (.getfield 58, 3) := by decide +kernel
theorem d_Mo_clear_43 : decode b_Mo_clear 43 = .ok (.iload_n 1, 1) := by decide +kernel
theorem d_Mo_clear_44 : decode b_Mo_clear 44 = .ok (.lconst 0, 1) := by decide +kernel
theorem d_Mo_clear_45 : decode b_Mo_clear 45 = .ok (.lastore, 1) := by decide +kernel
theorem d_Mo_clear_46 : decode b_Mo_clear 46 = .ok (.iinc 1 1, 3) := by decide +kernel
theorem d_Mo_clear_49 : decode b_Mo_clear 49 = .ok (.goto (-22), 3) := by decide +kernel
theorem d_Mo_clear_52 : decode b_Mo_clear 52 = .ok (.return_, 1) := by decide +kernel
abbrev b_Mo_addSolid : ByteArray := prog_8_method_23_code
def y_Mo_addSolid : MethodName := ⟨"BoxPackerModel", "addSolid", "(IZ)V"⟩
theorem d_Mo_addSolid_0 : decode b_Mo_addSolid 0 = .ok (.aload_n 0, 1) := by decide +kernel
theorem d_Mo_addSolid_1 : decode b_Mo_addSolid 1 = .ok (.getfield 7, 3) := by decide +kernel
theorem d_Mo_addSolid_4 : decode b_Mo_addSolid 4 = .ok (.iload_n 1, 1) := by decide +kernel
theorem d_Mo_addSolid_5 : decode b_Mo_addSolid 5 = .ok (.iaload, 1) := by decide +kernel
theorem d_Mo_addSolid_6 : decode b_Mo_addSolid 6 = .ok (.iconst 4, 1) := by decide +kernel
theorem d_Mo_addSolid_7 : decode b_Mo_addSolid 7 = .ok (.if_icmp .ne 12, 3) := by decide +kernel
theorem d_Mo_addSolid_10 : decode b_Mo_addSolid 10 = .ok (.aload_n 0, 1) := by decide +kernel
theorem d_Mo_addSolid_11 : decode b_Mo_addSolid 11 = .ok (.iload_n 1, 1) := by decide +kernel
theorem d_Mo_addSolid_12 : decode b_Mo_addSolid 12 = .ok (.iconst 1, 1) := by decide +kernel
theorem d_Mo_addSolid_13 : decode b_Mo_addSolid 13 = .ok (.invokevirtual 105, 3) := by decide +kernel
theorem d_Mo_addSolid_16 : decode b_Mo_addSolid 16 = .ok (.goto 4, 3) := by decide +kernel
theorem d_Mo_addSolid_19 : decode b_Mo_addSolid 19 = .ok (.iconst 0, 1) := by decide +kernel
theorem d_Mo_addSolid_20 : decode b_Mo_addSolid 20 = .ok (.istore_n 3, 1) := by decide +kernel
theorem d_Mo_addSolid_21 : decode b_Mo_addSolid 21 = .ok (.iload_n 2, 1) := by decide +kernel
theorem d_Mo_addSolid_22 : decode b_Mo_addSolid 22 = .ok (.ifCond .eq 77, 3) := by decide +kernel
theorem d_Mo_addSolid_25 : decode b_Mo_addSolid 25 = .ok (.aload_n 0, 1) := by decide +kernel
theorem d_Mo_addSolid_26 : decode b_Mo_addSolid 26 = .ok (.aload_n 0, 1) := by decide +kernel
theorem d_Mo_addSolid_27 : decode b_Mo_addSolid 27 = .ok (.getfield 120, 3) := by decide +kernel
theorem d_Mo_addSolid_30 : decode b_Mo_addSolid 30 = .ok (.invokevirtual 129, 3) := by decide +kernel
theorem d_Mo_addSolid_33 : decode b_Mo_addSolid 33 = .ok (.aload_n 0, 1) := by decide +kernel
theorem d_Mo_addSolid_34 : decode b_Mo_addSolid 34 = .ok (.aload_n 0, 1) := by decide +kernel
theorem d_Mo_addSolid_35 : decode b_Mo_addSolid 35 = .ok (.iload_n 1, 1) := by decide +kernel
theorem d_Mo_addSolid_36 : decode b_Mo_addSolid 36 = .ok (.iconst 1, 1) := by decide +kernel
theorem d_Mo_addSolid_37 : decode b_Mo_addSolid 37 = .ok (.invokevirtual 133, 3) := by decide +kernel
theorem d_Mo_addSolid_40 : decode b_Mo_addSolid 40 = .ok (.i2l, 1) := by decide +kernel
theorem d_Mo_addSolid_41 : decode b_Mo_addSolid 41 = .ok (.invokevirtual 129, 3) := by decide +kernel
theorem d_Mo_addSolid_44 : decode b_Mo_addSolid 44 = .ok (.aload_n 0, 1) := by decide +kernel
theorem d_Mo_addSolid_45 : decode b_Mo_addSolid 45 = .ok (.aload_n 0, 1) := by decide +kernel
theorem d_Mo_addSolid_46 : decode b_Mo_addSolid 46 = .ok (.iload_n 1, 1) := by decide +kernel
theorem d_Mo_addSolid_47 : decode b_Mo_addSolid 47 = .ok (.iconst 2, 1) := by decide +kernel
theorem d_Mo_addSolid_48 : decode b_Mo_addSolid 48 = .ok (.invokevirtual 133, 3) := by decide +kernel
theorem d_Mo_addSolid_51 : decode b_Mo_addSolid 51 = .ok (.i2l, 1) := by decide +kernel
theorem d_Mo_addSolid_52 : decode b_Mo_addSolid 52 = .ok (.putfield 120, 3) := by decide +kernel
theorem d_Mo_addSolid_55 : decode b_Mo_addSolid 55 = .ok (.aload_n 0, 1) := by decide +kernel
theorem d_Mo_addSolid_56 : decode b_Mo_addSolid 56 = .ok (.getfield 7, 3) := by decide +kernel
theorem d_Mo_addSolid_59 : decode b_Mo_addSolid 59 = .ok (.iload_n 1, 1) := by decide +kernel
theorem d_Mo_addSolid_60 : decode b_Mo_addSolid 60 = .ok (.iaload, 1) := by decide +kernel
theorem d_Mo_addSolid_61 : decode b_Mo_addSolid 61 = .ok (.iconst 1, 1) := by decide +kernel
theorem d_Mo_addSolid_62 : decode b_Mo_addSolid 62 = .ok (.if_icmp .ne 14, 3) := by decide +kernel
theorem d_Mo_addSolid_65 : decode b_Mo_addSolid 65 = .ok (.aload_n 0, 1) := by decide +kernel
theorem d_Mo_addSolid_66 : decode b_Mo_addSolid 66 = .ok (.iload_n 1, 1) := by decide +kernel
theorem d_Mo_addSolid_67 : decode b_Mo_addSolid 67 = .ok (.iconst 0, 1) := by decide +kernel
theorem d_Mo_addSolid_68 : decode b_Mo_addSolid 68 = .ok (.invokevirtual 105, 3) := by decide +kernel
theorem d_Mo_addSolid_71 : decode b_Mo_addSolid 71 = .ok (.ldc 91, 2) := by decide +kernel
theorem d_Mo_addSolid_73 : decode b_Mo_addSolid 73 = .ok (.if_icmp .eq 25, 3) := by decide +kernel
theorem d_Mo_addSolid_76 : decode b_Mo_addSolid 76 = .ok (.aload_n 0, 1) := by decide +kernel
theorem d_Mo_addSolid_77 : decode b_Mo_addSolid 77 = .ok (.aload_n 0, 1) := by decide +kernel
theorem d_Mo_addSolid_78 : decode b_Mo_addSolid 78 = .ok (.aload_n 0, 1) := by decide +kernel
theorem d_Mo_addSolid_79 : decode b_Mo_addSolid 79 = .ok (.getfield 123, 3) := by decide +kernel
theorem d_Mo_addSolid_82 : decode b_Mo_addSolid 82 = .ok (.aload_n 0, 1) := by decide +kernel
theorem d_Mo_addSolid_83 : decode b_Mo_addSolid 83 = .ok (.iload_n 1, 1) := by decide +kernel
theorem d_Mo_addSolid_84 : decode b_Mo_addSolid 84 = .ok (.iconst 0, 1) := by decide +kernel
theorem d_Mo_addSolid_85 : decode b_Mo_addSolid 85 = .ok (.invokevirtual 133, 3) := by decide +kernel
theorem d_Mo_addSolid_88 : decode b_Mo_addSolid 88 = .ok (.i2l, 1) := by decide +kernel
theorem d_Mo_addSolid_89 : decode b_Mo_addSolid 89 = .ok (.iload_n 3, 1) := by decide +kernel
theorem d_Mo_addSolid_90 : decode b_Mo_addSolid 90 = .ok (.i2l, 1) := by decide +kernel
theorem d_Mo_addSolid_91 : decode b_Mo_addSolid 91 = .ok (.ladd, 1) := by decide +kernel
theorem d_Mo_addSolid_92 : decode b_Mo_addSolid 92 = .ok (.invokevirtual 136, 3) := by decide +kernel
theorem d_Mo_addSolid_95 : decode b_Mo_addSolid 95 = .ok (.putfield 123, 3) := by decide +kernel
theorem d_Mo_addSolid_98 : decode b_Mo_addSolid 98 = .ok (.return_, 1) := by decide +kernel
theorem d_Mo_addSolid_99 : decode b_Mo_addSolid 99 = .ok (.aload_n 0, 1) := by decide +kernel
theorem d_Mo_addSolid_100 : decode b_Mo_addSolid 100 = .ok (.aload_n 0, 1) := by decide +kernel
theorem d_Mo_addSolid_101 : decode b_Mo_addSolid 101 = .ok (.iload_n 1, 1) := by decide +kernel
theorem d_Mo_addSolid_102 : decode b_Mo_addSolid 102 = .ok (.iconst 0, 1) := by decide +kernel
theorem d_Mo_addSolid_103 : decode b_Mo_addSolid 103 = .ok (.invokevirtual 133, 3) := by decide +kernel
theorem d_Mo_addSolid_106 : decode b_Mo_addSolid 106 = .ok (.i2l, 1) := by decide +kernel
theorem d_Mo_addSolid_107 : decode b_Mo_addSolid 107 = .ok (.invokevirtual 129, 3) := by decide +kernel
theorem d_Mo_addSolid_110 : decode b_Mo_addSolid 110 = .ok (.aload_n 0, 1) := by decide +kernel
theorem d_Mo_addSolid_111 : decode b_Mo_addSolid 111 = .ok (.getfield 7, 3) := by decide +kernel
theorem d_Mo_addSolid_114 : decode b_Mo_addSolid 114 = .ok (.iload_n 1, 1) := by decide +kernel
theorem d_Mo_addSolid_115 : decode b_Mo_addSolid 115 = .ok (.iaload, 1) := by decide +kernel
theorem d_Mo_addSolid_116 : decode b_Mo_addSolid 116 = .ok (.iconst 1, 1) := by decide +kernel
theorem d_Mo_addSolid_117 : decode b_Mo_addSolid 117 = .ok (.if_icmp .ne 14, 3) := by decide +kernel
theorem d_Mo_addSolid_120 : decode b_Mo_addSolid 120 = .ok (.aload_n 0, 1) := by decide +kernel
theorem d_Mo_addSolid_121 : decode b_Mo_addSolid 121 = .ok (.iload_n 1, 1) := by decide +kernel
theorem d_Mo_addSolid_122 : decode b_Mo_addSolid 122 = .ok (.iconst 1, 1) := by decide +kernel
theorem d_Mo_addSolid_123 : decode b_Mo_addSolid 123 = .ok (.invokevirtual 105, 3) := by decide +kernel
theorem d_Mo_addSolid_126 : decode b_Mo_addSolid 126 = .ok (.ldc 91, 2) := by decide +kernel
theorem d_Mo_addSolid_128 : decode b_Mo_addSolid 128 = .ok (.if_icmp .eq 25, 3) := by decide +kernel
theorem d_Mo_addSolid_131 : decode b_Mo_addSolid 131 = .ok (.aload_n 0, 1) := by decide +kernel
theorem d_Mo_addSolid_132 : decode b_Mo_addSolid 132 = .ok (.aload_n 0, 1) := by decide +kernel
theorem d_Mo_addSolid_133 : decode b_Mo_addSolid 133 = .ok (.aload_n 0, 1) := by decide +kernel
theorem d_Mo_addSolid_134 : decode b_Mo_addSolid 134 = .ok (.getfield 123, 3) := by decide +kernel
theorem d_Mo_addSolid_137 : decode b_Mo_addSolid 137 = .ok (.aload_n 0, 1) := by decide +kernel
theorem d_Mo_addSolid_138 : decode b_Mo_addSolid 138 = .ok (.iload_n 1, 1) := by decide +kernel
theorem d_Mo_addSolid_139 : decode b_Mo_addSolid 139 = .ok (.iconst 1, 1) := by decide +kernel
theorem d_Mo_addSolid_140 : decode b_Mo_addSolid 140 = .ok (.invokevirtual 133, 3) := by decide +kernel
theorem d_Mo_addSolid_143 : decode b_Mo_addSolid 143 = .ok (.i2l, 1) := by decide +kernel
theorem d_Mo_addSolid_144 : decode b_Mo_addSolid 144 = .ok (.iload_n 3, 1) := by decide +kernel
theorem d_Mo_addSolid_145 : decode b_Mo_addSolid 145 = .ok (.i2l, 1) := by decide +kernel
theorem d_Mo_addSolid_146 : decode b_Mo_addSolid 146 = .ok (.lsub, 1) := by decide +kernel
theorem d_Mo_addSolid_147 : decode b_Mo_addSolid 147 = .ok (.invokevirtual 136, 3) := by decide +kernel
theorem d_Mo_addSolid_150 : decode b_Mo_addSolid 150 = .ok (.putfield 123, 3) := by decide +kernel
theorem d_Mo_addSolid_153 : decode b_Mo_addSolid 153 = .ok (.aload_n 0, 1) := by decide +kernel
theorem d_Mo_addSolid_154 : decode b_Mo_addSolid 154 = .ok (.getfield 7, 3) := by decide +kernel
theorem d_Mo_addSolid_157 : decode b_Mo_addSolid 157 = .ok (.iload_n 1, 1) := by decide +kernel
theorem d_Mo_addSolid_158 : decode b_Mo_addSolid 158 = .ok (.iaload, 1) := by decide +kernel
theorem d_Mo_addSolid_159 : decode b_Mo_addSolid 159 = .ok (.iconst 1, 1) := by decide +kernel
theorem d_Mo_addSolid_160 : decode b_Mo_addSolid 160 = .ok (.if_icmp .ne 14, 3) := by decide +kernel
theorem d_Mo_addSolid_163 : decode b_Mo_addSolid 163 = .ok (.aload_n 0, 1) := by decide +kernel
theorem d_Mo_addSolid_164 : decode b_Mo_addSolid 164 = .ok (.iload_n 1, 1) := by decide +kernel
theorem d_Mo_addSolid_165 : decode b_Mo_addSolid 165 = .ok (.iconst 2, 1) := by decide +kernel
theorem d_Mo_addSolid_166 : decode b_Mo_addSolid 166 = .ok (.invokevirtual 105, 3) := by decide +kernel
theorem d_Mo_addSolid_169 : decode b_Mo_addSolid 169 = .ok (.ldc 91, 2) := by decide +kernel
theorem d_Mo_addSolid_171 : decode b_Mo_addSolid 171 = .ok (.if_icmp .eq 25, 3) := by decide +kernel
theorem d_Mo_addSolid_174 : decode b_Mo_addSolid 174 = .ok (.aload_n 0, 1) := by decide +kernel
theorem d_Mo_addSolid_175 : decode b_Mo_addSolid 175 = .ok (.aload_n 0, 1) := by decide +kernel
theorem d_Mo_addSolid_176 : decode b_Mo_addSolid 176 = .ok (.aload_n 0, 1) := by decide +kernel
theorem d_Mo_addSolid_177 : decode b_Mo_addSolid 177 = .ok (.getfield 126, 3) := by decide +kernel
theorem d_Mo_addSolid_180 : decode b_Mo_addSolid 180 = .ok (.aload_n 0, 1) := by decide +kernel
theorem d_Mo_addSolid_181 : decode b_Mo_addSolid 181 = .ok (.iload_n 1, 1) := by decide +kernel
theorem d_Mo_addSolid_182 : decode b_Mo_addSolid 182 = .ok (.iconst 2, 1) := by decide +kernel
theorem d_Mo_addSolid_183 : decode b_Mo_addSolid 183 = .ok (.invokevirtual 133, 3) := by decide +kernel
theorem d_Mo_addSolid_186 : decode b_Mo_addSolid 186 = .ok (.i2l, 1) := by decide +kernel
theorem d_Mo_addSolid_187 : decode b_Mo_addSolid 187 = .ok (.iload_n 3, 1) := by decide +kernel
theorem d_Mo_addSolid_188 : decode b_Mo_addSolid 188 = .ok (.i2l, 1) := by decide +kernel
theorem d_Mo_addSolid_189 : decode b_Mo_addSolid 189 = .ok (.ladd, 1) := by decide +kernel
theorem d_Mo_addSolid_190 : decode b_Mo_addSolid 190 = .ok (.invokevirtual 136, 3) := by decide +kernel
theorem d_Mo_addSolid_193 : decode b_Mo_addSolid 193 = .ok (.putfield 126, 3) := by decide +kernel
theorem d_Mo_addSolid_196 : decode b_Mo_addSolid 196 = .ok (.return_, 1) := by decide +kernel
