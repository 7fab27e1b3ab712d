abbrev b_Mo_add : ByteArray := prog_8_method_24_code
def y_Mo_add : MethodName := ⟨"BoxPackerModel", "add", "(IZ)V"⟩
theorem d_Mo_add_0 : decode b_Mo_add 0 = .ok (.aload_n 0, 1) := by decide +kernel
theorem d_Mo_add_1 : decode b_Mo_add 1 = .ok (.iload_n 1, 1) := by decide +kernel
theorem d_Mo_add_2 : decode b_Mo_add 2 = .ok (.invokevirtual 140, 3) := by decide +kernel
theorem d_Mo_add_5 : decode b_Mo_add 5 = .ok (.ifCond .eq 10, 3) := by decide +kernel
theorem d_Mo_add_8 : decode b_Mo_add 8 = .ok (.aload_n 0, 1) := by decide +kernel
theorem d_Mo_add_9 : decode b_Mo_add 9 = .ok (.iload_n 1, 1) := by decide +kernel
theorem d_Mo_add_10 : decode b_Mo_add 10 = .ok (.iload_n 2, 1) := by decide +kernel
theorem d_Mo_add_11 : decode b_Mo_add 11 = .ok (.invokevirtual 143, 3) := by decide +kernel
theorem d_Mo_add_14 : decode b_Mo_add 14 = .ok (.return_, 1) := by decide +kernel
theorem d_Mo_add_15 : decode b_Mo_add 15 = .ok (.iload_n 2, 1) := by decide +kernel
theorem d_Mo_add_16 : decode b_Mo_add 16 = .ok (.ifCond .eq 16, 3) := by decide +kernel
theorem d_Mo_add_19 : decode b_Mo_add 19 = .ok (.aload_n 0, 1) := by decide +kernel
theorem d_Mo_add_20 : decode b_Mo_add 20 = .ok (.aload_n 0, 1) := by decide +kernel
theorem d_Mo_add_21 : decode b_Mo_add 21 = .ok (.getfield 120, 3) := by decide +kernel
theorem d_Mo_add_24 : decode b_Mo_add 24 = .ok (.invokevirtual 129, 3) := by decide +kernel
theorem d_Mo_add_27 : decode b_Mo_add 27 = .ok (.aload_n 0, 1) := by decide +kernel
theorem d_Mo_add_28 : decode b_Mo_add 28 = .ok (.lconst 0, 1) := by decide +kernel
theorem d_Mo_add_29 : decode b_Mo_add 29 = .ok (.putfield 120, 3) := by decide +kernel
theorem d_Mo_add_32 : decode b_Mo_add 32 = .ok (.aload_n 0, 1) := by decide +kernel
theorem d_Mo_add_33 : decode b_Mo_add 33 = .ok (.aload_n 0, 1) := by decide +kernel
theorem d_Mo_add_34 : decode b_Mo_add 34 = .ok (.iload_n 1, 1) := by decide +kernel
theorem d_Mo_add_35 : decode b_Mo_add 35 = .ok (.iconst 0, 1) := by decide +kernel
theorem d_Mo_add_36 : decode b_Mo_add 36 = .ok (.invokevirtual 105, 3) := by decide +kernel
theorem d_Mo_add_39 : decode b_Mo_add 39 = .ok (.i2l, 1) := by decide +kernel
theorem d_Mo_add_40 : decode b_Mo_add 40 = .ok (.invokevirtual 129, 3) := by decide +kernel
theorem d_Mo_add_43 : decode b_Mo_add 43 = .ok (.aload_n 0, 1) := by decide +kernel
theorem d_Mo_add_44 : decode b_Mo_add 44 = .ok (.getfield 7, 3) := by decide +kernel
theorem d_Mo_add_47 : decode b_Mo_add 47 = .ok (.iload_n 1, 1) := by decide +kernel
theorem d_Mo_add_48 : decode b_Mo_add 48 = .ok (.iaload, 1) := by decide +kernel
theorem d_Mo_add_49 : decode b_Mo_add 49 = .ok (.iconst 2, 1) := by decide +kernel
theorem d_Mo_add_50 : decode b_Mo_add 50 = .ok (.if_icmp .ne 101, 3) := by decide +kernel
theorem d_Mo_add_53 : decode b_Mo_add 53 = .ok (.aload_n 0, 1) := by decide +kernel
theorem d_Mo_add_54 : decode b_Mo_add 54 = .ok (.iload_n 1, 1) := by decide +kernel
theorem d_Mo_add_55 : decode b_Mo_add 55 = .ok (.iconst 2, 1) := by decide +kernel
theorem d_Mo_add_56 : decode b_Mo_add 56 = .ok (.invokevirtual 105, 3) := by decide +kernel
theorem d_Mo_add_59 : decode b_Mo_add 59 = .ok (.istore_n 3, 1) := by decide +kernel
theorem d_Mo_add_60 : decode b_Mo_add 60 = .ok (.aload_n 0, 1) := by decide +kernel
theorem d_Mo_add_61 : decode b_Mo_add 61 = .ok (.iload_n 1, 1) := by decide +kernel
theorem d_Mo_add_62 : decode b_Mo_add 62 = .ok (.iconst 4, 1) := by decide +kernel
theorem d_Mo_add_63 : decode b_Mo_add 63 = .ok (.invokevirtual 105, 3) := by decide +kernel
theorem d_Mo_add_66 : decode b_Mo_add 66 = .ok (.istore 4, 2) := by decide +kernel
theorem d_Mo_add_68 : decode b_Mo_add 68 = .ok (.aload_n 0, 1) := by decide +kernel
theorem d_Mo_add_69 : decode b_Mo_add 69 = .ok (.getfield 54, 3) := by decide +kernel
theorem d_Mo_add_72 : decode b_Mo_add 72 = .ok (.iload_n 3, 1) := by decide +kernel
theorem d_Mo_add_73 : decode b_Mo_add 73 = .ok (.aload_n 0, 1) := by decide +kernel
theorem d_Mo_add_74 : decode b_Mo_add 74 = .ok (.getfield 54, 3) := by decide +kernel
theorem d_Mo_add_77 : decode b_Mo_add 77 = .ok (.iload_n 3, 1) := by decide +kernel
theorem d_Mo_add_78 : decode b_Mo_add 78 = .ok (.laload, 1) := by decide +kernel
theorem d_Mo_add_79 : decode b_Mo_add 79 = .ok (.aload_n 0, 1) := by decide +kernel
theorem d_Mo_add_80 : decode b_Mo_add 80 = .ok (.iload_n 1, 1) := by decide +kernel
theorem d_Mo_add_81 : decode b_Mo_add 81 = .ok (.iconst 1, 1) := by decide +kernel
theorem d_Mo_add_82 : decode b_Mo_add 82 = .ok (.invokevirtual 105, 3) := by decide +kernel
theorem d_Mo_add_85 : decode b_Mo_add 85 = .ok (.i2l, 1) := by decide +kernel
theorem d_Mo_add_86 : decode b_Mo_add 86 = .ok (.ladd, 1) := by decide +kernel
theorem d_Mo_add_87 : decode b_Mo_add 87 = .ok (.lastore, 1) := by decide +kernel
theorem d_Mo_add_88 : decode b_Mo_add 88 = .ok (.aload_n 0, 1) := by decide +kernel
theorem d_Mo_add_89 : decode b_Mo_add 89 = .ok (.getfield 58, 3) := by decide +kernel
theorem d_Mo_add_92 : decode b_Mo_add 92 = .ok (.iload 4, 2) := by decide +kernel
theorem d_Mo_add_94 : decode b_Mo_add 94 = .ok (.aload_n 0, 1) := by decide +kernel
theorem d_Mo_add_95 : decode b_Mo_add 95 = .ok (.getfield 58, 3) := by decide +kernel
theorem d_Mo_add_98 : decode b_Mo_add 98 = .ok (.iload 4, 2) := by decide +kernel
theorem d_Mo_add_100 : decode b_Mo_add 100 = .ok (.laload, 1) := by decide +kernel
theorem d_Mo_add_101 : decode b_Mo_add 101 = .ok (.aload_n 0, 1) := by decide +kernel
theorem d_Mo_add_102 : decode b_Mo_add 102 = .ok (.iload_n 1, 1) := by decide +kernel
theorem d_Mo_add_103 : decode b_Mo_add 103 = .ok (.iconst 3, 1) := by decide +kernel
theorem d_Mo_add_104 : decode b_Mo_add 104 = .ok (.invokevirtual 105, 3) := by decide +kernel
theorem d_Mo_add_107 : decode b_Mo_add 107 = .ok (.i2l, 1) := by decide +kernel
theorem d_Mo_add_108 : decode b_Mo_add 108 = .ok (.ladd, 1) := by decide +kernel
theorem d_Mo_add_109 : decode b_Mo_add 109 = .ok (.lastore, 1) := by decide +kernel
theorem d_Mo_add_110 : decode b_Mo_add 110 = .ok (.aload_n 0, 1) := by decide +kernel
theorem d_Mo_add_111 : decode b_Mo_add 111 = .ok (.aload_n 0, 1) := by decide +kernel
theorem d_Mo_add_112 : decode b_Mo_add 112 = .ok (.getfield 116, 3) := by decide +kernel
theorem d_Mo_add_115 : decode b_Mo_add 115 = .ok (.ifCond .eq 32, 3) := by decide +kernel
theorem d_Mo_add_118 : decode b_Mo_add 118 = .ok (.aload_n 0, 1) := by decide +kernel
theorem d_Mo_add_119 : decode b_Mo_add 119 = .ok (.getfield 54, 3) := by decide +kernel
theorem d_Mo_add_122 : decode b_Mo_add 122 = .ok (.iload_n 3, 1) := by decide +kernel
theorem d_Mo_add_123 : decode b_Mo_add 123 = .ok (.laload, 1) := by decide +kernel
theorem d_Mo_add_124 : decode b_Mo_add 124 = .ok (.invokestatic 79, 3) := by decide +kernel
theorem d_Mo_add_127 : decode b_Mo_add 127 = .ok (.ifCond .eq 20, 3) := by decide +kernel
theorem d_Mo_add_130 : decode b_Mo_add 130 = .ok (.aload_n 0, 1) := by decide +kernel
theorem d_Mo_add_131 : decode b_Mo_add 131 = .ok (.getfield 58, 3) := by decide +kernel
theorem d_Mo_add_134 : decode b_Mo_add 134 = .ok (.iload 4, 2) := by decide +kernel
theorem d_Mo_add_136 : decode b_Mo_add 136 = .ok (.laload, 1) := by decide +kernel
theorem d_Mo_add_137 : decode b_Mo_add 137 = .ok (.invokestatic 79, 3) := by decide +kernel
theorem d_Mo_add_140 : decode b_Mo_add 140 = .ok (.ifCond .eq 7, 3) := by decide +kernel
theorem d_Mo_add_143 : decode b_Mo_add 143 = .ok (.iconst 1, 1) := by decide +kernel
theorem d_Mo_add_144 : decode b_Mo_add 144 = .ok (.goto 4, 3) := by decide +kernel
theorem d_Mo_add_147 : decode b_Mo_add 147 = .ok (.iconst 0, 1) := by decide +kernel
theorem d_Mo_add_148 : decode b_Mo_add 148 = .ok (.putfield 116, 3) := by decide +kernel
theorem d_Mo_add_151 : decode b_Mo_add 151 = .ok (.return_, 1) := by decide +kernel
abbrev b_Mo_badnessOf : ByteArray := prog_8_method_25_code
def y_Mo_badnessOf : MethodName := ⟨"BoxPackerModel", "badnessOf", "(JJ)I"⟩
theorem d_Mo_badnessOf_0 : decode b_Mo_badnessOf 0 = .ok (.lload_n 0, 1) := by decide +kernel
theorem d_Mo_badnessOf_1 : decode b_Mo_badnessOf 1 = .ok (.lconst 0, 1) := by decide +kernel
theorem d_Mo_badnessOf_2 : decode b_Mo_badnessOf 2 = .ok (.lcmp, 1) := by decide +kernel
theorem d_Mo_badnessOf_3 : decode b_Mo_badnessOf 3 = .ok (.ifCond .ne 5, 3) := by decide +kernel
theorem d_Mo_badnessOf_6 : decode b_Mo_badnessOf 6 = .ok (.iconst 0, 1) := by decide +kernel
theorem d_Mo_badnessOf_7 : decode b_Mo_badnessOf 7 = .ok (.ireturn, 1) := by decide +kernel
theorem d_Mo_badnessOf_8 : decode b_Mo_badnessOf 8 = .ok (.lload_n 2, 1) := by decide +kernel
theorem d_Mo_badnessOf_9 : decode b_Mo_badnessOf 9 = .ok (.lconst 0, 1) := by decide +kernel
theorem d_Mo_badnessOf_10 : decode b_Mo_badnessOf 10 = .ok (.lcmp, 1) := by decide +kernel
theorem d_Mo_badnessOf_11 : decode b_Mo_badnessOf 11 = .ok (.ifCond .ne 7, 3) := by decide +kernel
theorem d_Mo_badnessOf_14 : decode b_Mo_badnessOf 14 = .ok (.sipush 10000, 3) := by decide +kernel
theorem d_Mo_badnessOf_17 : decode b_Mo_badnessOf 17 = .ok (.ireturn, 1) := by decide +kernel
theorem d_Mo_badnessOf_18 : decode b_Mo_badnessOf 18 = .ok (.lload_n 0, 1) := by decide +kernel
theorem d_Mo_badnessOf_19 : decode b_Mo_badnessOf 19 = .ok (.lstore 4, 2) := by decide +kernel
theorem d_Mo_badnessOf_21 : decode b_Mo_badnessOf 21 = .ok (.lload_n 0, 1) := by decide +kernel
theorem d_Mo_badnessOf_22 : decode b_Mo_badnessOf 22 = .ok (.ldc2_w 147, 3) := by decide +kernel
theorem d_Mo_badnessOf_25 : decode b_Mo_badnessOf 25 = .ok (.lcmp, 1) := by decide +kernel
theorem d_Mo_badnessOf_26 : decode b_Mo_badnessOf 26 = .ok (.ifCond .gt 15, 3) := by decide +kernel
theorem d_Mo_badnessOf_29 : decode b_Mo_badnessOf 29 = .ok (.lload_n 0, 1) := by decide +kernel
theorem d_Mo_badnessOf_30 : decode b_Mo_badnessOf 30 = .ok (.ldc2_w 149, 3) := by decide +kernel
theorem d_Mo_badnessOf_33 : decode b_Mo_badnessOf 33 = .ok (.lmul, 1) := by decide +kernel
theorem d_Mo_badnessOf_34 : decode b_Mo_badnessOf 34 = .ok (.lload_n 2, 1) := by decide +kernel
theorem d_Mo_badnessOf_35 : decode b_Mo_badnessOf 35 = .ok (.ldiv, 1) := by decide +kernel
theorem d_Mo_badnessOf_36 : decode b_Mo_badnessOf 36 = .ok (.lstore 4, 2) := by decide +kernel
theorem d_Mo_badnessOf_38 : decode b_Mo_badnessOf 38 = .ok (.goto 20, 3) := by decide +kernel
theorem d_Mo_badnessOf_41 : decode b_Mo_badnessOf 41 = .ok (.lload_n 2, 1) := by decide +kernel
theorem d_Mo_badnessOf_42 : decode b_Mo_badnessOf 42 = .ok (.ldc2_w 151, 3) := by decide +kernel
theorem d_Mo_badnessOf_45 : decode b_Mo_badnessOf 45 = .ok (.lcmp, 1) := by decide +kernel
theorem d_Mo_badnessOf_46 : decode b_Mo_badnessOf 46 = .ok (.ifCond .lt 12, 3) := by decide +kernel
theorem d_Mo_badnessOf_49 : decode b_Mo_badnessOf 49 = .ok (.lload_n 0, 1) := by decide +kernel
theorem d_Mo_badnessOf_50 : decode b_Mo_badnessOf 50 = .ok (.lload_n 2, 1) := by decide +kernel
theorem d_Mo_badnessOf_51 : decode b_Mo_badnessOf 51 = .ok (.ldc2_w 149, 3) := by decide +kernel
theorem d_Mo_badnessOf_54 : decode b_Mo_badnessOf 54 = .ok (.ldiv, 1) := by decide +kernel
theorem d_Mo_badnessOf_55 : decode b_Mo_badnessOf 55 = .ok (.ldiv, 1) := by decide +kernel
theorem d_Mo_badnessOf_56 : decode b_Mo_badnessOf 56 = .ok (.lstore 4, 2) := by decide +kernel
theorem d_Mo_badnessOf_58 : decode b_Mo_badnessOf 58 = .ok (.lload 4, 2) := by decide +kernel
theorem d_Mo_badnessOf_60 : decode b_Mo_badnessOf 60 = .ok (.ldc2_w 153, 3) := by decide +kernel
theorem d_Mo_badnessOf_63 : decode b_Mo_badnessOf 63 = .ok (.lcmp, 1) := by decide +kernel
theorem d_Mo_badnessOf_64 : decode b_Mo_badnessOf 64 = .ok (.ifCond .le 9, 3) := by decide +kernel
theorem d_Mo_badnessOf_67 : decode b_Mo_badnessOf 67 = .ok (.sipush 10000, 3) := by decide +kernel
theorem d_Mo_badnessOf_70 : decode b_Mo_badnessOf 70 = .ok (.goto 20, 3) := by decide +kernel
theorem d_Mo_badnessOf_73 : decode b_Mo_badnessOf 73 = .ok (.lload 4, 2) := by decide +kernel
theorem d_Mo_badnessOf_75 : decode b_Mo_badnessOf 75 = .ok (.lload 4, 2) := by decide +kernel
theorem d_Mo_badnessOf_77 : decode b_Mo_badnessOf 77 = .ok (.lmul, 1) := by decide +kernel
theorem d_Mo_badnessOf_78 : decode b_Mo_badnessOf 78 = .ok (.lload 4, 2) := by decide +kernel
theorem d_Mo_badnessOf_80 : decode b_Mo_badnessOf 80 = .ok (.lmul, 1) := by decide +kernel
theorem d_Mo_badnessOf_81 : decode b_Mo_badnessOf 81 = .ok (.ldc2_w 155, 3) := by decide +kernel
theorem d_Mo_badnessOf_84 : decode b_Mo_badnessOf 84 = .ok (.ladd, 1) := by decide +kernel
theorem d_Mo_badnessOf_85 : decode b_Mo_badnessOf 85 = .ok (.ldc2_w 157, 3) := by decide +kernel
theorem d_Mo_badnessOf_88 : decode b_Mo_badnessOf 88 = .ok (.ldiv, 1) := by decide +kernel
theorem d_Mo_badnessOf_89 : decode b_Mo_badnessOf 89 = .ok (.l2i, 1) := by decide +kernel
theorem d_Mo_badnessOf_90 : decode b_Mo_badnessOf 90 = .ok (.ireturn, 1) := by decide +kernel
abbrev b_Mo_deepest : ByteArray := prog_8_method_26_code
def y_Mo_deepest : MethodName := ⟨"BoxPackerModel", "deepest", "()I"⟩
theorem d_Mo_deepest_0 : decode b_Mo_deepest 0 = .ok (.iconst 0, 1) := by decide +kernel
theorem d_Mo_deepest_1 : decode b_Mo_deepest 1 = .ok (.istore_n 1, 1) := by decide +kernel
theorem d_Mo_deepest_2 : decode b_Mo_deepest 2 = .ok (.aload_n 0, 1) := by decide +kernel
theorem d_Mo_deepest_3 : decode b_Mo_deepest 3 = .ok (.getfield 75, 3) := by decide +kernel
theorem d_Mo_deepest_6 : decode b_Mo_deepest 6 = .ok (.istore_n 2, 1) := by decide +kernel
theorem d_Mo_deepest_7 : decode b_Mo_deepest 7 = .ok (.iload_n 2, 1) := by decide +kernel
theorem d_Mo_deepest_8 : decode b_Mo_deepest 8 = .ok (.aload_n 0, 1) := by decide +kernel
theorem d_Mo_deepest_9 : decode b_Mo_deepest 9 = .ok (.getfield 72, 3) := by decide +kernel
theorem d_Mo_deepest_12 : decode b_Mo_deepest 12 = .ok (.if_icmp .ge 46, 3) := by decide +kernel
theorem d_Mo_deepest_15 : decode b_Mo_deepest 15 = .ok (.aload_n 0, 1) := by decide +kernel
theorem d_Mo_deepest_16 : decode b_Mo_deepest 16 = .ok (.getfield 7, 3) := by decide +kernel
theorem d_Mo_deepest_19 : decode b_Mo_deepest 19 = .ok (.iload_n 2, 1) := by decide +kernel
theorem d_Mo_deepest_20 : decode b_Mo_deepest 20 = .ok (.iaload, 1) := by decide +kernel
theorem d_Mo_deepest_21 : decode b_Mo_deepest 21 = .ok (.iconst 4, 1) := by decide +kernel
theorem d_Mo_deepest_22 : decode b_Mo_deepest 22 = .ok (.if_icmp .ne 17, 3) := by decide +kernel
theorem d_Mo_deepest_25 : decode b_Mo_deepest 25 = .ok (.aload_n 0, 1) := by decide +kernel
theorem d_Mo_deepest_26 : decode b_Mo_deepest 26 = .ok (.getfield 48, 3) := by decide +kernel
theorem d_Mo_deepest_29 : decode b_Mo_deepest 29 = .ok (.aload_n 0, 1) := by decide +kernel
theorem d_Mo_deepest_30 : decode b_Mo_deepest 30 = .ok (.iload_n 2, 1) := by decide +kernel
theorem d_Mo_deepest_31 : decode b_Mo_deepest 31 = .ok (.iconst 0, 1) := by decide +kernel
theorem d_Mo_deepest_32 : decode b_Mo_deepest 32 = .ok (.invokevirtual 105, 3) := by decide +kernel
theorem d_Mo_deepest_35 : decode b_Mo_deepest 35 = .ok (.iaload, 1) := by decide +kernel
theorem d_Mo_deepest_36 : decode b_Mo_deepest 36 = .ok (.goto 4, 3) := by decide +kernel
theorem d_Mo_deepest_39 : decode b_Mo_deepest 39 = .ok (.iconst 0, 1) := by decide +kernel
theorem d_Mo_deepest_40 : decode b_Mo_deepest 40 = .ok (.istore_n 3, 1) := by decide +kernel
theorem d_Mo_deepest_41 : decode b_Mo_deepest 41 = .ok (.iload_n 3, 1) := by decide +kernel
theorem d_Mo_deepest_42 : decode b_Mo_deepest 42 = .ok (.iload_n 1, 1) := by decide +kernel
theorem d_Mo_deepest_43 : decode b_Mo_deepest 43 = .ok (.if_icmp .le 7, 3) := by decide +kernel
theorem d_Mo_deepest_46 : decode b_Mo_deepest 46 = .ok (.iload_n 3, 1) := by decide +kernel
theorem d_Mo_deepest_47 : decode b_Mo_deepest 47 = .ok (.goto 4, 3) := by decide +kernel
theorem d_Mo_deepest_50 : decode b_Mo_deepest 50 = .ok (.iload_n 1, 1) := by decide +kernel
theorem d_Mo_deepest_51 : decode b_Mo_deepest 51 = .ok (.istore_n 1, 1) := by decide +kernel
theorem d_Mo_deepest_52 : decode b_Mo_deepest 52 = .ok (.iinc 2 1, 3) := by decide +kernel
theorem d_Mo_deepest_55 : decode b_Mo_deepest 55 = .ok (.goto (-48), 3) := by decide +kernel
theorem d_Mo_deepest_58 : decode b_Mo_deepest 58 = .ok (.iload_n 1, 1) := by decide +kernel
theorem d_Mo_deepest_59 : decode b_Mo_deepest 59 = .ok (.ireturn, 1) := by decide +kernel
abbrev b_Mo_countAll : ByteArray := prog_8_method_27_code
def y_Mo_countAll : MethodName := ⟨"BoxPackerModel", "countAll", "()I"⟩
theorem d_Mo_countAll_0 : decode b_Mo_countAll 0 = .ok (.aload_n 0, 1) := by decide +kernel
theorem d_Mo_countAll_1 : decode b_Mo_countAll 1 = .ok (.getfield 72, 3) := by decide +kernel
theorem d_Mo_countAll_4 : decode b_Mo_countAll 4 = .ok (.aload_n 0, 1) := by decide +kernel
theorem d_Mo_countAll_5 : decode b_Mo_countAll 5 = .ok (.getfield 75, 3) := by decide +kernel
theorem d_Mo_countAll_8 : decode b_Mo_countAll 8 = .ok (.isub, 1) := by decide +kernel
theorem d_Mo_countAll_9 : decode b_Mo_countAll 9 = .ok (.i2l, 1) := by decide +kernel
theorem d_Mo_countAll_10 : decode b_Mo_countAll 10 = .ok (.lstore_n 1, 1) := by decide +kernel
theorem d_Mo_countAll_11 : decode b_Mo_countAll 11 = .ok (.aload_n 0, 1) := by decide +kernel
theorem d_Mo_countAll_12 : decode b_Mo_countAll 12 = .ok (.getfield 75, 3) := by decide +kernel
theorem d_Mo_countAll_15 : decode b_Mo_countAll 15 = .ok (.istore_n 3, 1) := by decide +kernel
theorem d_Mo_countAll_16 : decode b_Mo_countAll 16 = .ok (.iload_n 3, 1) := by decide +kernel
theorem d_Mo_countAll_17 : decode b_Mo_countAll 17 = .ok (.aload_n 0, 1) := by decide +kernel
theorem d_Mo_countAll_18 : decode b_Mo_countAll 18 = .ok (.getfield 72, 3) := by decide +kernel
theorem d_Mo_countAll_21 : decode b_Mo_countAll 21 = .ok (.if_icmp .ge 38, 3) := by decide +kernel
theorem d_Mo_countAll_24 : decode b_Mo_countAll 24 = .ok (.aload_n 0, 1) := by decide +kernel
theorem d_Mo_countAll_25 : decode b_Mo_countAll 25 = .ok (.getfield 7, 3) := by decide +kernel
theorem d_Mo_countAll_28 : decode b_Mo_countAll 28 = .ok (.iload_n 3, 1) := by decide +kernel
theorem d_Mo_countAll_29 : decode b_Mo_countAll 29 = .ok (.iaload, 1) := by decide +kernel
theorem d_Mo_countAll_30 : decode b_Mo_countAll 30 = .ok (.iconst 4, 1) := by decide +kernel
theorem d_Mo_countAll_31 : decode b_Mo_countAll 31 = .ok (.if_icmp .ne 20, 3) := by decide +kernel
theorem d_Mo_countAll_34 : decode b_Mo_countAll 34 = .ok (.lload_n 1, 1) := by decide +kernel
theorem d_Mo_countAll_35 : decode b_Mo_countAll 35 = .ok (.aload_n 0, 1) := by decide +kernel
theorem d_Mo_countAll_36 : decode b_Mo_countAll 36 = .ok (.getfield 51, 3) := by decide +kernel
theorem d_Mo_countAll_39 : decode b_Mo_countAll 39 = .ok (.aload_n 0, 1) := by decide +kernel
theorem d_Mo_countAll_40 : decode b_Mo_countAll 40 = .ok (.iload_n 3, 1) := by decide +kernel
theorem d_Mo_countAll_41 : decode b_Mo_countAll 41 = .ok (.iconst 0, 1) := by decide +kernel
theorem d_Mo_countAll_42 : decode b_Mo_countAll 42 = .ok (.invokevirtual 105, 3) := by decide +kernel
theorem d_Mo_countAll_45 : decode b_Mo_countAll 45 = .ok (.iaload, 1) := by decide +kernel
theorem d_Mo_countAll_46 : decode b_Mo_countAll 46 = .ok (.i2l, 1) := by decide +kernel
theorem d_Mo_countAll_47 : decode b_Mo_countAll 47 = .ok (.ladd, 1) := by decide +kernel
theorem d_Mo_countAll_48 : decode b_Mo_countAll 48 = .ok (.goto 4, 3) := by decide +kernel
theorem d_Mo_countAll_51 : decode b_Mo_countAll 51 = .ok (.lload_n 1, 1) := by decide +kernel
theorem d_Mo_countAll_52 : decode b_Mo_countAll 52 = .ok (.lstore_n 1, 1) := by decide +kernel
theorem d_Mo_countAll_53 : decode b_Mo_countAll 53 = .ok (.iinc 3 1, 3) := by decide +kernel
theorem d_Mo_countAll_56 : decode b_Mo_countAll 56 = .ok (.goto (-40), 3) := by decide +kernel
theorem d_Mo_countAll_59 : decode b_Mo_countAll 59 = .ok (.lload_n 1, 1) := by decide +kernel
theorem d_Mo_countAll_60 : decode b_Mo_countAll 60 = .ok (.ldc2_w 159, 3) := by decide +kernel
theorem d_Mo_countAll_63 : decode b_Mo_countAll 63 = .ok (.lcmp, 1) := by decide +kernel
theorem d_Mo_countAll_64 : decode b_Mo_countAll 64 = .ok (.ifCond .le 8, 3) := by decide +kernel
theorem d_Mo_countAll_67 : decode b_Mo_countAll 67 = .ok (.ldc 161, 2) := by decide +kernel
theorem d_Mo_countAll_69 : decode b_Mo_countAll 69 = .ok (.goto 5, 3) := by decide +kernel
theorem d_Mo_countAll_72 : decode b_Mo_countAll 72 = .ok (.lload_n 1, 1) := by decide +kernel
theorem d_Mo_countAll_73 : decode b_Mo_countAll 73 = .ok (.l2i, 1) := by decide +kernel
theorem d_Mo_countAll_74 : decode b_Mo_countAll 74 = .ok (.ireturn, 1) := by decide +kernel
abbrev b_Mo_setGlue : ByteArray := prog_8_method_28_code
def y_Mo_setGlue : MethodName := ⟨"BoxPackerModel", "setGlue", "(IJ)V"⟩
theorem d_Mo_setGlue_0 : decode b_Mo_setGlue 0 = .ok (.aload_n 0, 1) := by decide +kernel
theorem d_Mo_setGlue_1 : decode b_Mo_setGlue 1 = .ok (.getfield 33, 3) := by decide +kernel
theorem d_Mo_setGlue_4 : decode b_Mo_setGlue 4 = .ok (.iload_n 1, 1) := by decide +kernel
theorem d_Mo_setGlue_5 : decode b_Mo_setGlue 5 = .ok (.lload_n 2, 1) := by decide +kernel
theorem d_Mo_setGlue_6 : decode b_Mo_setGlue 6 = .ok (.l2i, 1) := by decide +kernel
theorem d_Mo_setGlue_7 : decode b_Mo_setGlue 7 = .ok (.iastore, 1) := by decide +kernel
theorem d_Mo_setGlue_8 : decode b_Mo_setGlue 8 = .ok (.aload_n 0, 1) := by decide +kernel
theorem d_Mo_setGlue_9 : decode b_Mo_setGlue 9 = .ok (.getfield 36, 3) := by decide +kernel
theorem d_Mo_setGlue_12 : decode b_Mo_setGlue 12 = .ok (.iload_n 1, 1) := by decide +kernel
theorem d_Mo_setGlue_13 : decode b_Mo_setGlue 13 = .ok (.iconst 0, 1) := by decide +kernel
theorem d_Mo_setGlue_14 : decode b_Mo_setGlue 14 = .ok (.iastore, 1) := by decide +kernel
theorem d_Mo_setGlue_15 : decode b_Mo_setGlue 15 = .ok (.aload_n 0, 1) := by decide +kernel
theorem d_Mo_setGlue_16 : decode b_Mo_setGlue 16 = .ok (.getfield 39, 3) := by decide +kernel
theorem d_Mo_setGlue_19 : decode b_Mo_setGlue 19 = .ok (.iload_n 1, 1) := by decide +kernel
theorem d_Mo_setGlue_20 : decode b_Mo_setGlue 20 = .ok (.iconst 0, 1) := by decide +kernel
theorem d_Mo_setGlue_21 : decode b_Mo_setGlue 21 = .ok (.iastore, 1) := by decide +kernel
theorem d_Mo_setGlue_22 : decode b_Mo_setGlue 22 = .ok (.iconst 0, 1) := by decide +kernel
theorem d_Mo_setGlue_23 : decode b_Mo_setGlue 23 = .ok (.istore 4, 2) := by decide +kernel
theorem d_Mo_setGlue_25 : decode b_Mo_setGlue 25 = .ok (.iload 4, 2) := by decide +kernel
theorem d_Mo_setGlue_27 : decode b_Mo_setGlue 27 = .ok (.iconst 4, 1) := by decide +kernel
theorem d_Mo_setGlue_28 : decode b_Mo_setGlue 28 = .ok (.if_icmp .ge 64, 3) := by decide +kernel
theorem d_Mo_setGlue_31 : decode b_Mo_setGlue 31 = .ok (.lload_n 2, 1) := by decide +kernel
theorem d_Mo_setGlue_32 : decode b_Mo_setGlue 32 = .ok (.lconst 0, 1) := by decide +kernel
theorem d_Mo_setGlue_33 : decode b_Mo_setGlue 33 = .ok (.lcmp, 1) := by decide +kernel
theorem d_Mo_setGlue_34 : decode b_Mo_setGlue 34 = .ok (.ifCond .eq 58, 3) := by decide +kernel
theorem d_Mo_setGlue_37 : decode b_Mo_setGlue 37 = .ok (.lload_n 2, 1) := by decide +kernel
theorem d_Mo_setGlue_38 : decode b_Mo_setGlue 38 = .ok (.lconst 0, 1) := by decide +kernel
theorem d_Mo_setGlue_39 : decode b_Mo_setGlue 39 = .ok (.lcmp, 1) := by decide +kernel
theorem d_Mo_setGlue_40 : decode b_Mo_setGlue 40 = .ok (.ifCond .le 13, 3) := by decide +kernel
theorem d_Mo_setGlue_43 : decode b_Mo_setGlue 43 = .ok (.aload_n 0, 1) := by decide +kernel
theorem d_Mo_setGlue_44 : decode b_Mo_setGlue 44 = .ok (.getfield 54, 3) := by decide +kernel
theorem d_Mo_setGlue_47 : decode b_Mo_setGlue 47 = .ok (.iload 4, 2) := by decide +kernel
theorem d_Mo_setGlue_49 : decode b_Mo_setGlue 49 = .ok (.laload, 1) := by decide +kernel
theorem d_Mo_setGlue_50 : decode b_Mo_setGlue 50 = .ok (.goto 10, 3) := by decide +kernel
theorem d_Mo_setGlue_53 : decode b_Mo_setGlue 53 = .ok (.aload_n 0, 1) := by decide +kernel
theorem d_Mo_setGlue_54 : decode b_Mo_setGlue 54 = .ok (.getfield 58, 3) := by decide +kernel
theorem d_Mo_setGlue_57 : decode b_Mo_setGlue 57 = .ok (.iload 4, 2) := by decide +kernel
theorem d_Mo_setGlue_59 : decode b_Mo_setGlue 59 = .ok (.laload, 1) := by decide +kernel
theorem d_Mo_setGlue_60 : decode b_Mo_setGlue 60 = .ok (.lstore 5, 2) := by decide +kernel
theorem d_Mo_setGlue_62 : decode b_Mo_setGlue 62 = .ok (.lload 5, 2) := by decide +kernel
theorem d_Mo_setGlue_64 : decode b_Mo_setGlue 64 = .ok (.lconst 0, 1) := by decide +kernel
theorem d_Mo_setGlue_65 : decode b_Mo_setGlue 65 = .ok (.lcmp, 1) := by decide +kernel
theorem d_Mo_setGlue_66 : decode b_Mo_setGlue 66 = .ok (.ifCond .eq 20, 3) := by decide +kernel
theorem d_Mo_setGlue_69 : decode b_Mo_setGlue 69 = .ok (.aload_n 0, 1) := by decide +kernel
theorem d_Mo_setGlue_70 : decode b_Mo_setGlue 70 = .ok (.getfield 36, 3) := by decide +kernel
theorem d_Mo_setGlue_73 : decode b_Mo_setGlue 73 = .ok (.iload_n 1, 1) := by decide +kernel
theorem d_Mo_setGlue_74 : decode b_Mo_setGlue 74 = .ok (.iload 4, 2) := by decide +kernel
theorem d_Mo_setGlue_76 : decode b_Mo_setGlue 76 = .ok (.iastore, 1) := by decide +kernel
theorem d_Mo_setGlue_77 : decode b_Mo_setGlue 77 = .ok (.aload_n 0, 1) := by decide +kernel
theorem d_Mo_setGlue_78 : decode b_Mo_setGlue 78 = .ok (.getfield 39, 3) := by decide +kernel
theorem d_Mo_setGlue_81 : decode b_Mo_setGlue 81 = .ok (.iload_n 1, 1) := by decide +kernel
theorem d_Mo_setGlue_82 : decode b_Mo_setGlue 82 = .ok (.lload 5, 2) := by decide +kernel
theorem d_Mo_setGlue_84 : decode b_Mo_setGlue 84 = .ok (.l2i, 1) := by decide +kernel
theorem d_Mo_setGlue_85 : decode b_Mo_setGlue 85 = .ok (.iastore, 1) := by decide +kernel
theorem d_Mo_setGlue_86 : decode b_Mo_setGlue 86 = .ok (.iinc 4 1, 3) := by decide +kernel
theorem d_Mo_setGlue_89 : decode b_Mo_setGlue 89 = .ok (.goto (-64), 3) := by decide +kernel
theorem d_Mo_setGlue_92 : decode b_Mo_setGlue 92 = .ok (.lload_n 2, 1) := by decide +kernel
theorem d_Mo_setGlue_93 : decode b_Mo_setGlue 93 = .ok (.lconst 0, 1) := by decide +kernel
theorem d_Mo_setGlue_94 : decode b_Mo_setGlue 94 = .ok (.lcmp, 1) := by decide +kernel
theorem d_Mo_setGlue_95 : decode b_Mo_setGlue 95 = .ok (.ifCond .ge 8, 3) := by decide +kernel
theorem d_Mo_setGlue_98 : decode b_Mo_setGlue 98 = .ok (.lload_n 2, 1) := by decide +kernel
theorem d_Mo_setGlue_99 : decode b_Mo_setGlue 99 = .ok (.lneg, 1) := by decide +kernel
theorem d_Mo_setGlue_100 : decode b_Mo_setGlue 100 = .ok (.goto 4, 3) := by decide +kernel
theorem d_Mo_setGlue_103 : decode b_Mo_setGlue 103 = .ok (.lconst 0, 1) := by decide +kernel
theorem d_Mo_setGlue_104 : decode b_Mo_setGlue 104 = .ok (.lstore 4, 2) := by decide +kernel
theorem d_Mo_setGlue_106 : decode b_Mo_setGlue 106 = .ok (.lload 4, 2) := by decide +kernel
theorem d_Mo_setGlue_108 : decode b_Mo_setGlue 108 = .ok (.lconst 0, 1) := by decide +kernel
theorem d_Mo_setGlue_109 : decode b_Mo_setGlue 109 = .ok (.lcmp, 1) := by decide +kernel
theorem d_Mo_setGlue_110 : decode b_Mo_setGlue 110 = .ok (.ifCond .le 29, 3) := by decide +kernel
theorem d_Mo_setGlue_113 : decode b_Mo_setGlue 113 = .ok (.aload_n 0, 1) := by decide +kernel
theorem d_Mo_setGlue_114 : decode b_Mo_setGlue 114 = .ok (.getfield 36, 3) := by decide +kernel
theorem d_Mo_setGlue_117 : decode b_Mo_setGlue 117 = .ok (.iload_n 1, 1) := by decide +kernel
theorem d_Mo_setGlue_118 : decode b_Mo_setGlue 118 = .ok (.iaload, 1) := by decide +kernel
theorem d_Mo_setGlue_119 : decode b_Mo_setGlue 119 = .ok (.ifCond .ne 20, 3) := by decide +kernel
theorem d_Mo_setGlue_122 : decode b_Mo_setGlue 122 = .ok (.aload_n 0, 1) := by decide +kernel
theorem d_Mo_setGlue_123 : decode b_Mo_setGlue 123 = .ok (.getfield 39, 3) := by decide +kernel
theorem d_Mo_setGlue_126 : decode b_Mo_setGlue 126 = .ok (.iload_n 1, 1) := by decide +kernel
theorem d_Mo_setGlue_127 : decode b_Mo_setGlue 127 = .ok (.iaload, 1) := by decide +kernel
theorem d_Mo_setGlue_128 : decode b_Mo_setGlue 128 = .ok (.i2l, 1) := by decide +kernel
theorem d_Mo_setGlue_129 : decode b_Mo_setGlue 129 = .ok (.lload 4, 2) := by decide +kernel
theorem d_Mo_setGlue_131 : decode b_Mo_setGlue 131 = .ok (.lcmp, 1) := by decide +kernel
theorem d_Mo_setGlue_132 : decode b_Mo_setGlue 132 = .ok (.ifCond .ge 7, 3) := by decide +kernel
theorem d_Mo_setGlue_135 : decode b_Mo_setGlue 135 = .ok (.iconst 1, 1) := by decide +kernel
theorem d_Mo_setGlue_136 : decode b_Mo_setGlue 136 = .ok (.goto 4, 3) := by decide +kernel
theorem d_Mo_setGlue_139 : decode b_Mo_setGlue 139 = .ok (.iconst 0, 1) := by decide +kernel
theorem d_Mo_setGlue_140 : decode b_Mo_setGlue 140 = .ok (.istore 6, 2) := by decide +kernel
theorem d_Mo_setGlue_142 : decode b_Mo_setGlue 142 = .ok (.aload_n 0, 1) := by decide +kernel
theorem d_Mo_setGlue_143 : decode b_Mo_setGlue 143 = .ok (.getfield 45, 3) := by decide +kernel
theorem d_Mo_setGlue_146 : decode b_Mo_setGlue 146 = .ok (.iload_n 1, 1) := by decide +kernel
theorem d_Mo_setGlue_147 : decode b_Mo_setGlue 147 = .ok (.iload 6, 2) := by decide +kernel
theorem d_Mo_setGlue_149 : decode b_Mo_setGlue 149 = .ok (.ifCond .eq 17, 3) := by decide +kernel
theorem d_Mo_setGlue_152 : decode b_Mo_setGlue 152 = .ok (.lload 4, 2) := by decide +kernel
theorem d_Mo_setGlue_154 : decode b_Mo_setGlue 154 = .ok (.aload_n 0, 1) := by decide +kernel
theorem d_Mo_setGlue_155 : decode b_Mo_setGlue 155 = .ok (.getfield 39, 3) := by decide +kernel
theorem d_Mo_setGlue_158 : decode b_Mo_setGlue 158 = .ok (.iload_n 1, 1) := by decide +kernel
theorem d_Mo_setGlue_159 : decode b_Mo_setGlue 159 = .ok (.iaload, 1) := by decide +kernel
theorem d_Mo_setGlue_160 : decode b_Mo_setGlue 160 = .ok (.i2l, 1) := by decide +kernel
theorem d_Mo_setGlue_161 : decode b_Mo_setGlue 161 = .ok (.lsub, 1) := by decide +kernel
theorem d_Mo_setGlue_162 : decode b_Mo_setGlue 162 = .ok (.l2i, 1) := by decide +kernel
theorem d_Mo_setGlue_163 : decode b_Mo_setGlue 163 = .ok (.goto 4, 3) := by decide +kernel
theorem d_Mo_setGlue_166 : decode b_Mo_setGlue 166 = .ok (.iconst 0, 1) := by decide +kernel
theorem d_Mo_setGlue_167 : decode b_Mo_setGlue 167 = .ok (.iastore, 1) := by decide +kernel
theorem d_Mo_setGlue_168 : decode b_Mo_setGlue 168 = .ok (.aload_n 0, 1) := by decide +kernel
theorem d_Mo_setGlue_169 : decode b_Mo_setGlue 169 = .ok (.getfield 42, 3) := by decide +kernel
theorem d_Mo_setGlue_172 : decode b_Mo_setGlue 172 = .ok (.iload_n 1, 1) := by decide +kernel
theorem d_Mo_setGlue_173 : decode b_Mo_setGlue 173 = .ok (.iload 6, 2) := by decide +kernel
theorem d_Mo_setGlue_175 : decode b_Mo_setGlue 175 = .ok (.ifCond .eq 8, 3) := by decide +kernel
theorem d_Mo_setGlue_178 : decode b_Mo_setGlue 178 = .ok (.ldc 161, 2) := by decide +kernel
theorem d_Mo_setGlue_180 : decode b_Mo_setGlue 180 = .ok (.goto 38, 3) := by decide +kernel
theorem d_Mo_setGlue_183 : decode b_Mo_setGlue 183 = .ok (.aload_n 0, 1) := by decide +kernel
theorem d_Mo_setGlue_184 : decode b_Mo_setGlue 184 = .ok (.getfield 36, 3) := by decide +kernel
theorem d_Mo_setGlue_187 : decode b_Mo_setGlue 187 = .ok (.iload_n 1, 1) := by decide +kernel
theorem d_Mo_setGlue_188 : decode b_Mo_setGlue 188 = .ok (.iaload, 1) := by decide +kernel
theorem d_Mo_setGlue_189 : decode b_Mo_setGlue 189 = .ok (.ifCond .le 7, 3) := by decide +kernel
theorem d_Mo_setGlue_192 : decode b_Mo_setGlue 192 = .ok (.iconst 0, 1) := by decide +kernel
theorem d_Mo_setGlue_193 : decode b_Mo_setGlue 193 = .ok (.goto 25, 3) := by decide +kernel
theorem d_Mo_setGlue_196 : decode b_Mo_setGlue 196 = .ok (.lload_n 2, 1) := by decide +kernel
theorem d_Mo_setGlue_197 : decode b_Mo_setGlue 197 = .ok (.lconst 0, 1) := by decide +kernel
theorem d_Mo_setGlue_198 : decode b_Mo_setGlue 198 = .ok (.lcmp, 1) := by decide +kernel
theorem d_Mo_setGlue_199 : decode b_Mo_setGlue 199 = .ok (.ifCond .ge 8, 3) := by decide +kernel
theorem d_Mo_setGlue_202 : decode b_Mo_setGlue 202 = .ok (.lload_n 2, 1) := by decide +kernel
theorem d_Mo_setGlue_203 : decode b_Mo_setGlue 203 = .ok (.lneg, 1) := by decide +kernel
theorem d_Mo_setGlue_204 : decode b_Mo_setGlue 204 = .ok (.goto 4, 3) := by decide +kernel
theorem d_Mo_setGlue_207 : decode b_Mo_setGlue 207 = .ok (.lload_n 2, 1) := by decide +kernel
theorem d_Mo_setGlue_208 : decode b_Mo_setGlue 208 = .ok (.aload_n 0, 1) := by decide +kernel
theorem d_Mo_setGlue_209 : decode b_Mo_setGlue 209 = .ok (.getfield 39, 3) := by decide +kernel
theorem d_Mo_setGlue_212 : decode b_Mo_setGlue 212 = .ok (.iload_n 1, 1) := by decide +kernel
theorem d_Mo_setGlue_213 : decode b_Mo_setGlue 213 = .ok (.iaload, 1) := by decide +kernel
theorem d_Mo_setGlue_214 : decode b_Mo_setGlue 214 = .ok (.i2l, 1) := by decide +kernel
theorem d_Mo_setGlue_215 : decode b_Mo_setGlue 215 = .ok (.invokestatic 162, 3) := by decide +kernel
theorem d_Mo_setGlue_218 : decode b_Mo_setGlue 218 = .ok (.iastore, 1) := by decide +kernel
theorem d_Mo_setGlue_219 : decode b_Mo_setGlue 219 = .ok (.return_, 1) := by decide +kernel
abbrev b_Mo_pack : ByteArray := prog_8_method_29_code
def y_Mo_pack : MethodName := ⟨"BoxPackerModel", "pack", "(ZIII)I"⟩
theorem d_Mo_pack_0 : decode b_Mo_pack 0 = .ok (.aload_n 0, 1) := by decide +kernel
theorem d_Mo_pack_1 : decode b_Mo_pack 1 = .ok (.iload_n 2, 1) := by decide +kernel
theorem d_Mo_pack_2 : decode b_Mo_pack 2 = .ok (.ifCond .lt 25, 3) := by decide +kernel
theorem d_Mo_pack_5 : decode b_Mo_pack 5 = .ok (.iload_n 2, 1) := by decide +kernel
theorem d_Mo_pack_6 : decode b_Mo_pack 6 = .ok (.iconst 2, 1) := by decide +kernel
theorem d_Mo_pack_7 : decode b_Mo_pack 7 = .ok (.if_icmp .gt 20, 3) := by decide +kernel
theorem d_Mo_pack_10 : decode b_Mo_pack 10 = .ok (.iload_n 3, 1) := by decide +kernel
theorem d_Mo_pack_11 : decode b_Mo_pack 11 = .ok (.i2l, 1) := by decide +kernel
theorem d_Mo_pack_12 : decode b_Mo_pack 12 = .ok (.invokestatic 79, 3) := by decide +kernel
theorem d_Mo_pack_15 : decode b_Mo_pack 15 = .ok (.ifCond .eq 12, 3) := by decide +kernel
theorem d_Mo_pack_18 : decode b_Mo_pack 18 = .ok (.iload 4, 2) := by decide +kernel
theorem d_Mo_pack_20 : decode b_Mo_pack 20 = .ok (.i2l, 1) := by decide +kernel
theorem d_Mo_pack_21 : decode b_Mo_pack 21 = .ok (.invokestatic 79, 3) := by decide +kernel
theorem d_Mo_pack_24 : decode b_Mo_pack 24 = .ok (.ifCond .ne 7, 3) := by decide +kernel
theorem d_Mo_pack_27 : decode b_Mo_pack 27 = .ok (.iconst 1, 1) := by decide +kernel
theorem d_Mo_pack_28 : decode b_Mo_pack 28 = .ok (.goto 26, 3) := by decide +kernel
theorem d_Mo_pack_31 : decode b_Mo_pack 31 = .ok (.aload_n 0, 1) := by decide +kernel
theorem d_Mo_pack_32 : decode b_Mo_pack 32 = .ok (.getfield 99, 3) := by decide +kernel
theorem d_Mo_pack_35 : decode b_Mo_pack 35 = .ok (.bipush 100, 2) := by decide +kernel
theorem d_Mo_pack_37 : decode b_Mo_pack 37 = .ok (.if_icmp .eq 12, 3) := by decide +kernel
theorem d_Mo_pack_40 : decode b_Mo_pack 40 = .ok (.aload_n 0, 1) := by decide +kernel
theorem d_Mo_pack_41 : decode b_Mo_pack 41 = .ok (.invokevirtual 166, 3) := by decide +kernel
theorem d_Mo_pack_44 : decode b_Mo_pack 44 = .ok (.bipush 10, 2) := by decide +kernel
theorem d_Mo_pack_46 : decode b_Mo_pack 46 = .ok (.if_icmp .ne 7, 3) := by decide +kernel
theorem d_Mo_pack_49 : decode b_Mo_pack 49 = .ok (.iconst 2, 1) := by decide +kernel
theorem d_Mo_pack_50 : decode b_Mo_pack 50 = .ok (.goto 4, 3) := by decide +kernel
theorem d_Mo_pack_53 : decode b_Mo_pack 53 = .ok (.iconst 0, 1) := by decide +kernel
theorem d_Mo_pack_54 : decode b_Mo_pack 54 = .ok (.putfield 64, 3) := by decide +kernel
theorem d_Mo_pack_57 : decode b_Mo_pack 57 = .ok (.aload_n 0, 1) := by decide +kernel
theorem d_Mo_pack_58 : decode b_Mo_pack 58 = .ok (.getfield 64, 3) := by decide +kernel
theorem d_Mo_pack_61 : decode b_Mo_pack 61 = .ok (.ifCond .le 5, 3) := by decide +kernel
theorem d_Mo_pack_64 : decode b_Mo_pack 64 = .ok (.iconst 0, 1) := by decide +kernel
theorem d_Mo_pack_65 : decode b_Mo_pack 65 = .ok (.ireturn, 1) := by decide +kernel
theorem d_Mo_pack_66 : decode b_Mo_pack 66 = .ok (.aload_n 0, 1) := by decide +kernel
theorem d_Mo_pack_67 : decode b_Mo_pack 67 = .ok (.invokevirtual 170, 3) := by decide +kernel
theorem d_Mo_pack_70 : decode b_Mo_pack 70 = .ok (.aload_n 0, 1) := by decide +kernel
theorem d_Mo_pack_71 : decode b_Mo_pack 71 = .ok (.getfield 75, 3) := by decide +kernel
theorem d_Mo_pack_74 : decode b_Mo_pack 74 = .ok (.istore 5, 2) := by decide +kernel
theorem d_Mo_pack_76 : decode b_Mo_pack 76 = .ok (.iload 5, 2) := by decide +kernel
theorem d_Mo_pack_78 : decode b_Mo_pack 78 = .ok (.aload_n 0, 1) := by decide +kernel
theorem d_Mo_pack_79 : decode b_Mo_pack 79 = .ok (.getfield 72, 3) := by decide +kernel
theorem d_Mo_pack_82 : decode b_Mo_pack 82 = .ok (.if_icmp .ge 16, 3) := by decide +kernel
theorem d_Mo_pack_85 : decode b_Mo_pack 85 = .ok (.aload_n 0, 1) := by decide +kernel
theorem d_Mo_pack_86 : decode b_Mo_pack 86 = .ok (.iload 5, 2) := by decide +kernel
theorem d_Mo_pack_88 : decode b_Mo_pack 88 = .ok (.iload_n 1, 1) := by decide +kernel
theorem d_Mo_pack_89 : decode b_Mo_pack 89 = .ok (.invokevirtual 173, 3) := by decide +kernel
theorem d_Mo_pack_92 : decode b_Mo_pack 92 = .ok (.iinc 5 1, 3) := by decide +kernel
theorem d_Mo_pack_95 : decode b_Mo_pack 95 = .ok (.goto (-19), 3) := by decide +kernel
theorem d_Mo_pack_98 : decode b_Mo_pack 98 = .ok (.iload_n 1, 1) := by decide +kernel
theorem d_Mo_pack_99 : decode b_Mo_pack 99 = .ok (.ifCond .eq 41, 3) := by decide +kernel
theorem d_Mo_pack_102 : decode b_Mo_pack 102 = .ok (.aload_n 0, 1) := by decide +kernel
theorem d_Mo_pack_103 : decode b_Mo_pack 103 = .ok (.aload_n 0, 1) := by decide +kernel
theorem d_Mo_pack_104 : decode b_Mo_pack 104 = .ok (.getfield 120, 3) := by decide +kernel
theorem d_Mo_pack_107 : decode b_Mo_pack 107 = .ok (.putfield 126, 3) := by decide +kernel
theorem d_Mo_pack_110 : decode b_Mo_pack 110 = .ok (.aload_n 0, 1) := by decide +kernel
theorem d_Mo_pack_111 : decode b_Mo_pack 111 = .ok (.getfield 120, 3) := by decide +kernel
theorem d_Mo_pack_114 : decode b_Mo_pack 114 = .ok (.iload 4, 2) := by decide +kernel
theorem d_Mo_pack_116 : decode b_Mo_pack 116 = .ok (.i2l, 1) := by decide +kernel
theorem d_Mo_pack_117 : decode b_Mo_pack 117 = .ok (.lcmp, 1) := by decide +kernel
theorem d_Mo_pack_118 : decode b_Mo_pack 118 = .ok (.ifCond .le 22, 3) := by decide +kernel
theorem d_Mo_pack_121 : decode b_Mo_pack 121 = .ok (.aload_n 0, 1) := by decide +kernel
theorem d_Mo_pack_122 : decode b_Mo_pack 122 = .ok (.iload 4, 2) := by decide +kernel
theorem d_Mo_pack_124 : decode b_Mo_pack 124 = .ok (.i2l, 1) := by decide +kernel
theorem d_Mo_pack_125 : decode b_Mo_pack 125 = .ok (.putfield 126, 3) := by decide +kernel
theorem d_Mo_pack_128 : decode b_Mo_pack 128 = .ok (.aload_n 0, 1) := by decide +kernel
theorem d_Mo_pack_129 : decode b_Mo_pack 129 = .ok (.aload_n 0, 1) := by decide +kernel
theorem d_Mo_pack_130 : decode b_Mo_pack 130 = .ok (.getfield 120, 3) := by decide +kernel
theorem d_Mo_pack_133 : decode b_Mo_pack 133 = .ok (.iload 4, 2) := by decide +kernel
theorem d_Mo_pack_135 : decode b_Mo_pack 135 = .ok (.i2l, 1) := by decide +kernel
theorem d_Mo_pack_136 : decode b_Mo_pack 136 = .ok (.lsub, 1) := by decide +kernel
theorem d_Mo_pack_137 : decode b_Mo_pack 137 = .ok (.invokevirtual 129, 3) := by decide +kernel
theorem d_Mo_pack_140 : decode b_Mo_pack 140 = .ok (.iload_n 2, 1) := by decide +kernel
theorem d_Mo_pack_141 : decode b_Mo_pack 141 = .ok (.ifCond .ne 7, 3) := by decide +kernel
theorem d_Mo_pack_144 : decode b_Mo_pack 144 = .ok (.lconst 0, 1) := by decide +kernel
theorem d_Mo_pack_145 : decode b_Mo_pack 145 = .ok (.goto 20, 3) := by decide +kernel
theorem d_Mo_pack_148 : decode b_Mo_pack 148 = .ok (.iload_n 2, 1) := by decide +kernel
theorem d_Mo_pack_149 : decode b_Mo_pack 149 = .ok (.iconst 1, 1) := by decide +kernel
theorem d_Mo_pack_150 : decode b_Mo_pack 150 = .ok (.if_icmp .ne 13, 3) := by decide +kernel
theorem d_Mo_pack_153 : decode b_Mo_pack 153 = .ok (.iload_n 3, 1) := by decide +kernel
theorem d_Mo_pack_154 : decode b_Mo_pack 154 = .ok (.i2l, 1) := by decide +kernel
theorem d_Mo_pack_155 : decode b_Mo_pack 155 = .ok (.aload_n 0, 1) := by decide +kernel
theorem d_Mo_pack_156 : decode b_Mo_pack 156 = .ok (.getfield 112, 3) := by decide +kernel
theorem d_Mo_pack_159 : decode b_Mo_pack 159 = .ok (.lsub, 1) := by decide +kernel
theorem d_Mo_pack_160 : decode b_Mo_pack 160 = .ok (.goto 5, 3) := by decide +kernel
theorem d_Mo_pack_163 : decode b_Mo_pack 163 = .ok (.iload_n 3, 1) := by decide +kernel
theorem d_Mo_pack_164 : decode b_Mo_pack 164 = .ok (.i2l, 1) := by decide +kernel
theorem d_Mo_pack_165 : decode b_Mo_pack 165 = .ok (.lstore 5, 2) := by decide +kernel
theorem d_Mo_pack_167 : decode b_Mo_pack 167 = .ok (.aload_n 0, 1) := by decide +kernel
theorem d_Mo_pack_168 : decode b_Mo_pack 168 = .ok (.aload_n 0, 1) := by decide +kernel
theorem d_Mo_pack_169 : decode b_Mo_pack 169 = .ok (.getfield 116, 3) := by decide +kernel
theorem d_Mo_pack_172 : decode b_Mo_pack 172 = .ok (.ifCond .eq 15, 3) := by decide +kernel
theorem d_Mo_pack_175 : decode b_Mo_pack 175 = .ok (.lload 5, 2) := by decide +kernel
theorem d_Mo_pack_177 : decode b_Mo_pack 177 = .ok (.invokestatic 79, 3) := by decide +kernel
theorem d_Mo_pack_180 : decode b_Mo_pack 180 = .ok (.ifCond .eq 7, 3) := by decide +kernel
theorem d_Mo_pack_183 : decode b_Mo_pack 183 = .ok (.iconst 1, 1) := by decide +kernel
theorem d_Mo_pack_184 : decode b_Mo_pack 184 = .ok (.goto 4, 3) := by decide +kernel
theorem d_Mo_pack_187 : decode b_Mo_pack 187 = .ok (.iconst 0, 1) := by decide +kernel
theorem d_Mo_pack_188 : decode b_Mo_pack 188 = .ok (.putfield 116, 3) := by decide +kernel
theorem d_Mo_pack_191 : decode b_Mo_pack 191 = .ok (.aload_n 0, 1) := by decide +kernel
theorem d_Mo_pack_192 : decode b_Mo_pack 192 = .ok (.lload 5, 2) := by decide +kernel
theorem d_Mo_pack_194 : decode b_Mo_pack 194 = .ok (.invokevirtual 129, 3) := by decide +kernel
theorem d_Mo_pack_197 : decode b_Mo_pack 197 = .ok (.aload_n 0, 1) := by decide +kernel
theorem d_Mo_pack_198 : decode b_Mo_pack 198 = .ok (.getfield 116, 3) := by decide +kernel
theorem d_Mo_pack_201 : decode b_Mo_pack 201 = .ok (.ifCond .ne 10, 3) := by decide +kernel
theorem d_Mo_pack_204 : decode b_Mo_pack 204 = .ok (.aload_n 0, 1) := by decide +kernel
theorem d_Mo_pack_205 : decode b_Mo_pack 205 = .ok (.iconst 3, 1) := by decide +kernel
theorem d_Mo_pack_206 : decode b_Mo_pack 206 = .ok (.putfield 64, 3) := by decide +kernel
theorem d_Mo_pack_209 : decode b_Mo_pack 209 = .ok (.iconst 0, 1) := by decide +kernel
theorem d_Mo_pack_210 : decode b_Mo_pack 210 = .ok (.ireturn, 1) := by decide +kernel
theorem d_Mo_pack_211 : decode b_Mo_pack 211 = .ok (.aload_n 0, 1) := by decide +kernel
theorem d_Mo_pack_212 : decode b_Mo_pack 212 = .ok (.getfield 99, 3) := by decide +kernel
theorem d_Mo_pack_215 : decode b_Mo_pack 215 = .ok (.istore 7, 2) := by decide +kernel
theorem d_Mo_pack_217 : decode b_Mo_pack 217 = .ok (.aload_n 0, 1) := by decide +kernel
theorem d_Mo_pack_218 : decode b_Mo_pack 218 = .ok (.iload 7, 2) := by decide +kernel
theorem d_Mo_pack_220 : decode b_Mo_pack 220 = .ok (.lload 5, 2) := by decide +kernel
theorem d_Mo_pack_222 : decode b_Mo_pack 222 = .ok (.invokevirtual 176, 3) := by decide +kernel
theorem d_Mo_pack_225 : decode b_Mo_pack 225 = .ok (.aload_n 0, 1) := by decide +kernel
theorem d_Mo_pack_226 : decode b_Mo_pack 226 = .ok (.getfield 17, 3) := by decide +kernel
theorem d_Mo_pack_229 : decode b_Mo_pack 229 = .ok (.iload 7, 2) := by decide +kernel
theorem d_Mo_pack_231 : decode b_Mo_pack 231 = .ok (.aload_n 0, 1) := by decide +kernel
theorem d_Mo_pack_232 : decode b_Mo_pack 232 = .ok (.getfield 75, 3) := by decide +kernel
theorem d_Mo_pack_235 : decode b_Mo_pack 235 = .ok (.iastore, 1) := by decide +kernel
theorem d_Mo_pack_236 : decode b_Mo_pack 236 = .ok (.aload_n 0, 1) := by decide +kernel
theorem d_Mo_pack_237 : decode b_Mo_pack 237 = .ok (.getfield 20, 3) := by decide +kernel
theorem d_Mo_pack_240 : decode b_Mo_pack 240 = .ok (.iload 7, 2) := by decide +kernel
theorem d_Mo_pack_242 : decode b_Mo_pack 242 = .ok (.iload_n 1, 1) := by decide +kernel
theorem d_Mo_pack_243 : decode b_Mo_pack 243 = .ok (.bastore, 1) := by decide +kernel
theorem d_Mo_pack_244 : decode b_Mo_pack 244 = .ok (.aload_n 0, 1) := by decide +kernel
theorem d_Mo_pack_245 : decode b_Mo_pack 245 = .ok (.getfield 24, 3) := by decide +kernel
theorem d_Mo_pack_248 : decode b_Mo_pack 248 = .ok (.iload 7, 2) := by decide +kernel
theorem d_Mo_pack_250 : decode b_Mo_pack 250 = .ok (.iload_n 1, 1) := by decide +kernel
theorem d_Mo_pack_251 : decode b_Mo_pack 251 = .ok (.ifCond .eq 10, 3) := by decide +kernel
theorem d_Mo_pack_254 : decode b_Mo_pack 254 = .ok (.aload_n 0, 1) := by decide +kernel
theorem d_Mo_pack_255 : decode b_Mo_pack 255 = .ok (.getfield 123, 3) := by decide +kernel
theorem d_Mo_pack_258 : decode b_Mo_pack 258 = .ok (.goto 7, 3) := by decide +kernel
theorem d_Mo_pack_261 : decode b_Mo_pack 261 = .ok (.aload_n 0, 1) := by decide +kernel
theorem d_Mo_pack_262 : decode b_Mo_pack 262 = .ok (.getfield 112, 3) := by decide +kernel
theorem d_Mo_pack_265 : decode b_Mo_pack 265 = .ok (.l2i, 1) := by decide +kernel
theorem d_Mo_pack_266 : decode b_Mo_pack 266 = .ok (.iastore, 1) := by decide +kernel
theorem d_Mo_pack_267 : decode b_Mo_pack 267 = .ok (.aload_n 0, 1) := by decide +kernel
theorem d_Mo_pack_268 : decode b_Mo_pack 268 = .ok (.getfield 27, 3) := by decide +kernel
theorem d_Mo_pack_271 : decode b_Mo_pack 271 = .ok (.iload 7, 2) := by decide +kernel
theorem d_Mo_pack_273 : decode b_Mo_pack 273 = .ok (.iload_n 1, 1) := by decide +kernel
theorem d_Mo_pack_274 : decode b_Mo_pack 274 = .ok (.ifCond .eq 10, 3) := by decide +kernel
theorem d_Mo_pack_277 : decode b_Mo_pack 277 = .ok (.aload_n 0, 1) := by decide +kernel
theorem d_Mo_pack_278 : decode b_Mo_pack 278 = .ok (.getfield 112, 3) := by decide +kernel
theorem d_Mo_pack_281 : decode b_Mo_pack 281 = .ok (.goto 7, 3) := by decide +kernel
theorem d_Mo_pack_284 : decode b_Mo_pack 284 = .ok (.aload_n 0, 1) := by decide +kernel
theorem d_Mo_pack_285 : decode b_Mo_pack 285 = .ok (.getfield 123, 3) := by decide +kernel
theorem d_Mo_pack_288 : decode b_Mo_pack 288 = .ok (.l2i, 1) := by decide +kernel
theorem d_Mo_pack_289 : decode b_Mo_pack 289 = .ok (.iastore, 1) := by decide +kernel
theorem d_Mo_pack_290 : decode b_Mo_pack 290 = .ok (.aload_n 0, 1) := by decide +kernel
theorem d_Mo_pack_291 : decode b_Mo_pack 291 = .ok (.getfield 30, 3) := by decide +kernel
theorem d_Mo_pack_294 : decode b_Mo_pack 294 = .ok (.iload 7, 2) := by decide +kernel
theorem d_Mo_pack_296 : decode b_Mo_pack 296 = .ok (.aload_n 0, 1) := by decide +kernel
theorem d_Mo_pack_297 : decode b_Mo_pack 297 = .ok (.getfield 126, 3) := by decide +kernel
theorem d_Mo_pack_300 : decode b_Mo_pack 300 = .ok (.l2i, 1) := by decide +kernel
theorem d_Mo_pack_301 : decode b_Mo_pack 301 = .ok (.iastore, 1) := by decide +kernel
theorem d_Mo_pack_302 : decode b_Mo_pack 302 = .ok (.aload_n 0, 1) := by decide +kernel
theorem d_Mo_pack_303 : decode b_Mo_pack 303 = .ok (.getfield 48, 3) := by decide +kernel
theorem d_Mo_pack_306 : decode b_Mo_pack 306 = .ok (.iload 7, 2) := by decide +kernel
theorem d_Mo_pack_308 : decode b_Mo_pack 308 = .ok (.aload_n 0, 1) := by decide +kernel
theorem d_Mo_pack_309 : decode b_Mo_pack 309 = .ok (.invokevirtual 166, 3) := by decide +kernel
theorem d_Mo_pack_312 : decode b_Mo_pack 312 = .ok (.iconst 1, 1) := by decide +kernel
theorem d_Mo_pack_313 : decode b_Mo_pack 313 = .ok (.iadd, 1) := by decide +kernel
theorem d_Mo_pack_314 : decode b_Mo_pack 314 = .ok (.iastore, 1) := by decide +kernel
theorem d_Mo_pack_315 : decode b_Mo_pack 315 = .ok (.aload_n 0, 1) := by decide +kernel
theorem d_Mo_pack_316 : decode b_Mo_pack 316 = .ok (.getfield 51, 3) := by decide +kernel
theorem d_Mo_pack_319 : decode b_Mo_pack 319 = .ok (.iload 7, 2) := by decide +kernel
theorem d_Mo_pack_321 : decode b_Mo_pack 321 = .ok (.aload_n 0, 1) := by decide +kernel
theorem d_Mo_pack_322 : decode b_Mo_pack 322 = .ok (.invokevirtual 180, 3) := by decide +kernel
theorem d_Mo_pack_325 : decode b_Mo_pack 325 = .ok (.iastore, 1) := by decide +kernel
theorem d_Mo_pack_326 : decode b_Mo_pack 326 = .ok (.aload_n 0, 1) := by decide +kernel
theorem d_Mo_pack_327 : decode b_Mo_pack 327 = .ok (.dup, 1) := by decide +kernel
theorem d_Mo_pack_328 : decode b_Mo_pack 328 = .ok (.getfield 99, 3) := by decide +kernel
theorem d_Mo_pack_331 : decode b_Mo_pack 331 = .ok (.iconst 1, 1) := by decide +kernel
theorem d_Mo_pack_332 : decode b_Mo_pack 332 = .ok (.iadd, 1) := by decide +kernel
theorem d_Mo_pack_333 : decode b_Mo_pack 333 = .ok (.putfield 99, 3) := by decide +kernel
theorem d_Mo_pack_336 : decode b_Mo_pack 336 = .ok (.aload_n 0, 1) := by decide +kernel
theorem d_Mo_pack_337 : decode b_Mo_pack 337 = .ok (.aload_n 0, 1) := by decide +kernel
theorem d_Mo_pack_338 : decode b_Mo_pack 338 = .ok (.getfield 72, 3) := by decide +kernel
theorem d_Mo_pack_341 : decode b_Mo_pack 341 = .ok (.putfield 75, 3) := by decide +kernel
theorem d_Mo_pack_344 : decode b_Mo_pack 344 = .ok (.aload_n 0, 1) := by decide +kernel
theorem d_Mo_pack_345 : decode b_Mo_pack 345 = .ok (.getfield 17, 3) := by decide +kernel
theorem d_Mo_pack_348 : decode b_Mo_pack 348 = .ok (.aload_n 0, 1) := by decide +kernel
theorem d_Mo_pack_349 : decode b_Mo_pack 349 = .ok (.getfield 99, 3) := by decide +kernel
theorem d_Mo_pack_352 : decode b_Mo_pack 352 = .ok (.aload_n 0, 1) := by decide +kernel
theorem d_Mo_pack_353 : decode b_Mo_pack 353 = .ok (.getfield 72, 3) := by decide +kernel
theorem d_Mo_pack_356 : decode b_Mo_pack 356 = .ok (.iastore, 1) := by decide +kernel
theorem d_Mo_pack_357 : decode b_Mo_pack 357 = .ok (.iload 7, 2) := by decide +kernel
theorem d_Mo_pack_359 : decode b_Mo_pack 359 = .ok (.ireturn, 1) := by decide +kernel
abbrev b_Mo_boxes : ByteArray := prog_8_method_30_code
def y_Mo_boxes : MethodName := ⟨"BoxPackerModel", "boxes", "()I"⟩
theorem d_Mo_boxes_0 : decode b_Mo_boxes 0 = .ok (.aload_n 0, 1) := by decide +kernel
theorem d_Mo_boxes_1 : decode b_Mo_boxes 1 = .ok (.iconst 0, 1) := by decide +kernel
theorem d_Mo_boxes_2 : decode b_Mo_boxes 2 = .ok (.putfield 64, 3) := by decide +kernel
theorem d_Mo_boxes_5 : decode b_Mo_boxes 5 = .ok (.aload_n 0, 1) := by decide +kernel
theorem d_Mo_boxes_6 : decode b_Mo_boxes 6 = .ok (.getfield 99, 3) := by decide +kernel
theorem d_Mo_boxes_9 : decode b_Mo_boxes 9 = .ok (.ireturn, 1) := by decide +kernel
abbrev b_Mo_of : ByteArray := prog_8_method_31_code
def y_Mo_of : MethodName := ⟨"BoxPackerModel", "of", "(II)I"⟩
theorem d_Mo_of_0 : decode b_Mo_of 0 = .ok (.aload_n 0, 1) := by decide +kernel
theorem d_Mo_of_1 : decode b_Mo_of 1 = .ok (.aload_n 0, 1) := by decide +kernel
theorem d_Mo_of_2 : decode b_Mo_of 2 = .ok (.iload_n 1, 1) := by decide +kernel
theorem d_Mo_of_3 : decode b_Mo_of 3 = .ok (.invokevirtual 102, 3) := by decide +kernel
theorem d_Mo_of_6 : decode b_Mo_of 6 = .ok (.ifCond .eq 13, 3) := by decide +kernel
theorem d_Mo_of_9 : decode b_Mo_of 9 = .ok (.iload_n 2, 1) := by decide +kernel
theorem d_Mo_of_10 : decode b_Mo_of 10 = .ok (.ifCond .lt 9, 3) := by decide +kernel
theorem d_Mo_of_13 : decode b_Mo_of 13 = .ok (.iload_n 2, 1) := by decide +kernel
theorem d_Mo_of_14 : decode b_Mo_of 14 = .ok (.bipush 10, 2) := by decide +kernel
theorem d_Mo_of_16 : decode b_Mo_of 16 = .ok (.if_icmp .le 7, 3) := by decide +kernel
theorem d_Mo_of_19 : decode b_Mo_of 19 = .ok (.iconst 1, 1) := by decide +kernel
theorem d_Mo_of_20 : decode b_Mo_of 20 = .ok (.goto 4, 3) := by decide +kernel
theorem d_Mo_of_23 : decode b_Mo_of 23 = .ok (.iconst 0, 1) := by decide +kernel
theorem d_Mo_of_24 : decode b_Mo_of 24 = .ok (.putfield 64, 3) := by decide +kernel
theorem d_Mo_of_27 : decode b_Mo_of 27 = .ok (.aload_n 0, 1) := by decide +kernel
theorem d_Mo_of_28 : decode b_Mo_of 28 = .ok (.getfield 64, 3) := by decide +kernel
theorem d_Mo_of_31 : decode b_Mo_of 31 = .ok (.ifCond .le 5, 3) := by decide +kernel
theorem d_Mo_of_34 : decode b_Mo_of 34 = .ok (.iconst 0, 1) := by decide +kernel
theorem d_Mo_of_35 : decode b_Mo_of 35 = .ok (.ireturn, 1) := by decide +kernel
theorem d_Mo_of_36 : decode b_Mo_of 36 = .ok (.iload_n 2, 1) := by decide +kernel
theorem d_Mo_of_37 : decode b_Mo_of 37 = .ok (.tableswitch 134 0 9 #[55, 62, 69, 76, 83, 90, 97, 104, 111, 118], 55) := by decide +kernel
theorem d_Mo_of_92 : decode b_Mo_of 92 = .ok (.aload_n 0, 1) := by decide +kernel
theorem d_Mo_of_93 : decode b_Mo_of 93 = .ok (.getfield 24, 3) := by decide +kernel
theorem d_Mo_of_96 : decode b_Mo_of 96 = .ok (.iload_n 1, 1) := by decide +kernel
theorem d_Mo_of_97 : decode b_Mo_of 97 = .ok (.iaload, 1) := by decide +kernel
theorem d_Mo_of_98 : decode b_Mo_of 98 = .ok (.ireturn, 1) := by decide +kernel
theorem d_Mo_of_99 : decode b_Mo_of 99 = .ok (.aload_n 0, 1) := by decide +kernel
theorem d_Mo_of_100 : decode b_Mo_of 100 = .ok (.getfield 27, 3) := by decide +kernel
theorem d_Mo_of_103 : decode b_Mo_of 103 = .ok (.iload_n 1, 1) := by decide +kernel
theorem d_Mo_of_104 : decode b_Mo_of 104 = .ok (.iaload, 1) := by decide +kernel
theorem d_Mo_of_105 : decode b_Mo_of 105 = .ok (.ireturn, 1) := by decide +kernel
theorem d_Mo_of_106 : decode b_Mo_of 106 = .ok (.aload_n 0, 1) := by decide +kernel
theorem d_Mo_of_107 : decode b_Mo_of 107 = .ok (.getfield 30, 3) := by decide +kernel
theorem d_Mo_of_110 : decode b_Mo_of 110 = .ok (.iload_n 1, 1) := by decide +kernel
theorem d_Mo_of_111 : decode b_Mo_of 111 = .ok (.iaload, 1) := by decide +kernel
theorem d_Mo_of_112 : decode b_Mo_of 112 = .ok (.ireturn, 1) := by decide +kernel
theorem d_Mo_of_113 : decode b_Mo_of 113 = .ok (.aload_n 0, 1) := by decide +kernel
theorem d_Mo_of_114 : decode b_Mo_of 114 = .ok (.getfield 33, 3) := by decide +kernel
theorem d_Mo_of_117 : decode b_Mo_of 117 = .ok (.iload_n 1, 1) := by decide +kernel
theorem d_Mo_of_118 : decode b_Mo_of 118 = .ok (.iaload, 1) := by decide +kernel
theorem d_Mo_of_119 : decode b_Mo_of 119 = .ok (.ireturn, 1) := by decide +kernel
theorem d_Mo_of_120 : decode b_Mo_of 120 = .ok (.aload_n 0, 1) := by decide +kernel
theorem d_Mo_of_121 : decode b_Mo_of 121 = .ok (.getfield 36, 3) := by decide +kernel
theorem d_Mo_of_124 : decode b_Mo_of 124 = .ok (.iload_n 1, 1) := by decide +kernel
theorem d_Mo_of_125 : decode b_Mo_of 125 = .ok (.iaload, 1) := by decide +kernel
theorem d_Mo_of_126 : decode b_Mo_of 126 = .ok (.ireturn, 1) := by decide +kernel
theorem d_Mo_of_127 : decode b_Mo_of 127 = .ok (.aload_n 0, 1) := by decide +kernel
theorem d_Mo_of_128 : decode b_Mo_of 128 = .ok (.getfield 39, 3) := by decide +kernel
theorem d_Mo_of_131 : decode b_Mo_of 131 = .ok (.iload_n 1, 1) := by decide +kernel
theorem d_Mo_of_132 : decode b_Mo_of 132 = .ok (.iaload, 1) := by decide +kernel
theorem d_Mo_of_133 : decode b_Mo_of 133 = .ok (.ireturn, 1) := by decide +kernel
theorem d_Mo_of_134 : decode b_Mo_of 134 = .ok (.aload_n 0, 1) := by decide +kernel
theorem d_Mo_of_135 : decode b_Mo_of 135 = .ok (.getfield 42, 3) := by decide +kernel
theorem d_Mo_of_138 : decode b_Mo_of 138 = .ok (.iload_n 1, 1) := by decide +kernel
theorem d_Mo_of_139 : decode b_Mo_of 139 = .ok (.iaload, 1) := by decide +kernel
theorem d_Mo_of_140 : decode b_Mo_of 140 = .ok (.ireturn, 1) := by decide +kernel
theorem d_Mo_of_141 : decode b_Mo_of 141 = .ok (.aload_n 0, 1) := by decide +kernel
theorem d_Mo_of_142 : decode b_Mo_of 142 = .ok (.getfield 45, 3) := by decide +kernel
theorem d_Mo_of_145 : decode b_Mo_of 145 = .ok (.iload_n 1, 1) := by decide +kernel
theorem d_Mo_of_146 : decode b_Mo_of 146 = .ok (.iaload, 1) := by decide +kernel
theorem d_Mo_of_147 : decode b_Mo_of 147 = .ok (.ireturn, 1) := by decide +kernel
theorem d_Mo_of_148 : decode b_Mo_of 148 = .ok (.aload_n 0, 1) := by decide +kernel
theorem d_Mo_of_149 : decode b_Mo_of 149 = .ok (.getfield 48, 3) := by decide +kernel
theorem d_Mo_of_152 : decode b_Mo_of 152 = .ok (.iload_n 1, 1) := by decide +kernel
theorem d_Mo_of_153 : decode b_Mo_of 153 = .ok (.iaload, 1) := by decide +kernel
theorem d_Mo_of_154 : decode b_Mo_of 154 = .ok (.ireturn, 1) := by decide +kernel
theorem d_Mo_of_155 : decode b_Mo_of 155 = .ok (.aload_n 0, 1) := by decide +kernel
theorem d_Mo_of_156 : decode b_Mo_of 156 = .ok (.getfield 17, 3) := by decide +kernel
theorem d_Mo_of_159 : decode b_Mo_of 159 = .ok (.iload_n 1, 1) := by decide +kernel
theorem d_Mo_of_160 : decode b_Mo_of 160 = .ok (.iconst 1, 1) := by decide +kernel
theorem d_Mo_of_161 : decode b_Mo_of 161 = .ok (.iadd, 1) := by decide +kernel
theorem d_Mo_of_162 : decode b_Mo_of 162 = .ok (.iaload, 1) := by decide +kernel
theorem d_Mo_of_163 : decode b_Mo_of 163 = .ok (.aload_n 0, 1) := by decide +kernel
theorem d_Mo_of_164 : decode b_Mo_of 164 = .ok (.getfield 17, 3) := by decide +kernel
theorem d_Mo_of_167 : decode b_Mo_of 167 = .ok (.iload_n 1, 1) := by decide +kernel
theorem d_Mo_of_168 : decode b_Mo_of 168 = .ok (.iaload, 1) := by decide +kernel
theorem d_Mo_of_169 : decode b_Mo_of 169 = .ok (.isub, 1) := by decide +kernel
theorem d_Mo_of_170 : decode b_Mo_of 170 = .ok (.ireturn, 1) := by decide +kernel
theorem d_Mo_of_171 : decode b_Mo_of 171 = .ok (.aload_n 0, 1) := by decide +kernel
theorem d_Mo_of_172 : decode b_Mo_of 172 = .ok (.getfield 51, 3) := by decide +kernel
theorem d_Mo_of_175 : decode b_Mo_of 175 = .ok (.iload_n 1, 1) := by decide +kernel
theorem d_Mo_of_176 : decode b_Mo_of 176 = .ok (.iaload, 1) := by decide +kernel
theorem d_Mo_of_177 : decode b_Mo_of 177 = .ok (.ireturn, 1) := by decide +kernel
