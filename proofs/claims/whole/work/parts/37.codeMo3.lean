abbrev b_Mo_nearest : ByteArray := prog_8_method_32_code
def y_Mo_nearest : MethodName := ⟨"BoxPackerModel", "nearest", "(JJ)J"⟩
theorem d_Mo_nearest_0 : decode b_Mo_nearest 0 = .ok (.lload_n 0, 1) := by decide +kernel
theorem d_Mo_nearest_1 : decode b_Mo_nearest 1 = .ok (.lconst 0, 1) := by decide +kernel
theorem d_Mo_nearest_2 : decode b_Mo_nearest 2 = .ok (.lcmp, 1) := by decide +kernel
theorem d_Mo_nearest_3 : decode b_Mo_nearest 3 = .ok (.ifCond .ge 8, 3) := by decide +kernel
theorem d_Mo_nearest_6 : decode b_Mo_nearest 6 = .ok (.lload_n 0, 1) := by decide +kernel
theorem d_Mo_nearest_7 : decode b_Mo_nearest 7 = .ok (.lneg, 1) := by decide +kernel
theorem d_Mo_nearest_8 : decode b_Mo_nearest 8 = .ok (.goto 4, 3) := by decide +kernel
theorem d_Mo_nearest_11 : decode b_Mo_nearest 11 = .ok (.lload_n 0, 1) := by decide +kernel
theorem d_Mo_nearest_12 : decode b_Mo_nearest 12 = .ok (.lload_n 2, 1) := by decide +kernel
theorem d_Mo_nearest_13 : decode b_Mo_nearest 13 = .ok (.ldiv, 1) := by decide +kernel
theorem d_Mo_nearest_14 : decode b_Mo_nearest 14 = .ok (.lstore 4, 2) := by decide +kernel
theorem d_Mo_nearest_16 : decode b_Mo_nearest 16 = .ok (.lload_n 0, 1) := by decide +kernel
theorem d_Mo_nearest_17 : decode b_Mo_nearest 17 = .ok (.lconst 0, 1) := by decide +kernel
theorem d_Mo_nearest_18 : decode b_Mo_nearest 18 = .ok (.lcmp, 1) := by decide +kernel
theorem d_Mo_nearest_19 : decode b_Mo_nearest 19 = .ok (.ifCond .ge 8, 3) := by decide +kernel
theorem d_Mo_nearest_22 : decode b_Mo_nearest 22 = .ok (.lload_n 0, 1) := by decide +kernel
theorem d_Mo_nearest_23 : decode b_Mo_nearest 23 = .ok (.lneg, 1) := by decide +kernel
theorem d_Mo_nearest_24 : decode b_Mo_nearest 24 = .ok (.goto 4, 3) := by decide +kernel
theorem d_Mo_nearest_27 : decode b_Mo_nearest 27 = .ok (.lload_n 0, 1) := by decide +kernel
theorem d_Mo_nearest_28 : decode b_Mo_nearest 28 = .ok (.lload_n 2, 1) := by decide +kernel
theorem d_Mo_nearest_29 : decode b_Mo_nearest 29 = .ok (.lrem, 1) := by decide +kernel
theorem d_Mo_nearest_30 : decode b_Mo_nearest 30 = .ok (.lstore 6, 2) := by decide +kernel
theorem d_Mo_nearest_32 : decode b_Mo_nearest 32 = .ok (.lload 6, 2) := by decide +kernel
theorem d_Mo_nearest_34 : decode b_Mo_nearest 34 = .ok (.lload_n 2, 1) := by decide +kernel
theorem d_Mo_nearest_35 : decode b_Mo_nearest 35 = .ok (.lload 6, 2) := by decide +kernel
theorem d_Mo_nearest_37 : decode b_Mo_nearest 37 = .ok (.lsub, 1) := by decide +kernel
theorem d_Mo_nearest_38 : decode b_Mo_nearest 38 = .ok (.lcmp, 1) := by decide +kernel
theorem d_Mo_nearest_39 : decode b_Mo_nearest 39 = .ok (.ifCond .lt 10, 3) := by decide +kernel
theorem d_Mo_nearest_42 : decode b_Mo_nearest 42 = .ok (.lload 4, 2) := by decide +kernel
theorem d_Mo_nearest_44 : decode b_Mo_nearest 44 = .ok (.lconst 1, 1) := by decide +kernel
theorem d_Mo_nearest_45 : decode b_Mo_nearest 45 = .ok (.ladd, 1) := by decide +kernel
theorem d_Mo_nearest_46 : decode b_Mo_nearest 46 = .ok (.goto 5, 3) := by decide +kernel
theorem d_Mo_nearest_49 : decode b_Mo_nearest 49 = .ok (.lload 4, 2) := by decide +kernel
theorem d_Mo_nearest_51 : decode b_Mo_nearest 51 = .ok (.lstore 4, 2) := by decide +kernel
theorem d_Mo_nearest_53 : decode b_Mo_nearest 53 = .ok (.lload_n 0, 1) := by decide +kernel
theorem d_Mo_nearest_54 : decode b_Mo_nearest 54 = .ok (.lconst 0, 1) := by decide +kernel
theorem d_Mo_nearest_55 : decode b_Mo_nearest 55 = .ok (.lcmp, 1) := by decide +kernel
theorem d_Mo_nearest_56 : decode b_Mo_nearest 56 = .ok (.ifCond .ge 9, 3) := by decide +kernel
theorem d_Mo_nearest_59 : decode b_Mo_nearest 59 = .ok (.lload 4, 2) := by decide +kernel
theorem d_Mo_nearest_61 : decode b_Mo_nearest 61 = .ok (.lneg, 1) := by decide +kernel
theorem d_Mo_nearest_62 : decode b_Mo_nearest 62 = .ok (.goto 5, 3) := by decide +kernel
theorem d_Mo_nearest_65 : decode b_Mo_nearest 65 = .ok (.lload 4, 2) := by decide +kernel
theorem d_Mo_nearest_67 : decode b_Mo_nearest 67 = .ok (.lreturn, 1) := by decide +kernel
abbrev b_Mo_placeOf : ByteArray := prog_8_method_33_code
def y_Mo_placeOf : MethodName := ⟨"BoxPackerModel", "placeOf", "(II)J"⟩
theorem d_Mo_placeOf_0 : decode b_Mo_placeOf 0 = .ok (.aload_n 0, 1) := by decide +kernel
theorem d_Mo_placeOf_1 : decode b_Mo_placeOf 1 = .ok (.invokevirtual 170, 3) := by decide +kernel
theorem d_Mo_placeOf_4 : decode b_Mo_placeOf 4 = .ok (.lconst 0, 1) := by decide +kernel
theorem d_Mo_placeOf_5 : decode b_Mo_placeOf 5 = .ok (.lstore_n 3, 1) := by decide +kernel
theorem d_Mo_placeOf_6 : decode b_Mo_placeOf 6 = .ok (.aload_n 0, 1) := by decide +kernel
theorem d_Mo_placeOf_7 : decode b_Mo_placeOf 7 = .ok (.getfield 17, 3) := by decide +kernel
theorem d_Mo_placeOf_10 : decode b_Mo_placeOf 10 = .ok (.iload_n 1, 1) := by decide +kernel
theorem d_Mo_placeOf_11 : decode b_Mo_placeOf 11 = .ok (.iaload, 1) := by decide +kernel
theorem d_Mo_placeOf_12 : decode b_Mo_placeOf 12 = .ok (.iload_n 2, 1) := by decide +kernel
theorem d_Mo_placeOf_13 : decode b_Mo_placeOf 13 = .ok (.iadd, 1) := by decide +kernel
theorem d_Mo_placeOf_14 : decode b_Mo_placeOf 14 = .ok (.istore 5, 2) := by decide +kernel
theorem d_Mo_placeOf_16 : decode b_Mo_placeOf 16 = .ok (.aload_n 0, 1) := by decide +kernel
theorem d_Mo_placeOf_17 : decode b_Mo_placeOf 17 = .ok (.getfield 17, 3) := by decide +kernel
theorem d_Mo_placeOf_20 : decode b_Mo_placeOf 20 = .ok (.iload_n 1, 1) := by decide +kernel
theorem d_Mo_placeOf_21 : decode b_Mo_placeOf 21 = .ok (.iaload, 1) := by decide +kernel
theorem d_Mo_placeOf_22 : decode b_Mo_placeOf 22 = .ok (.istore 6, 2) := by decide +kernel
theorem d_Mo_placeOf_24 : decode b_Mo_placeOf 24 = .ok (.iload 6, 2) := by decide +kernel
theorem d_Mo_placeOf_26 : decode b_Mo_placeOf 26 = .ok (.iload 5, 2) := by decide +kernel
theorem d_Mo_placeOf_28 : decode b_Mo_placeOf 28 = .ok (.if_icmp .ge 85, 3) := by decide +kernel
theorem d_Mo_placeOf_31 : decode b_Mo_placeOf 31 = .ok (.aload_n 0, 1) := by decide +kernel
theorem d_Mo_placeOf_32 : decode b_Mo_placeOf 32 = .ok (.iload 6, 2) := by decide +kernel
theorem d_Mo_placeOf_34 : decode b_Mo_placeOf 34 = .ok (.aload_n 0, 1) := by decide +kernel
theorem d_Mo_placeOf_35 : decode b_Mo_placeOf 35 = .ok (.getfield 20, 3) := by decide +kernel
theorem d_Mo_placeOf_38 : decode b_Mo_placeOf 38 = .ok (.iload_n 1, 1) := by decide +kernel
theorem d_Mo_placeOf_39 : decode b_Mo_placeOf 39 = .ok (.baload, 1) := by decide +kernel
theorem d_Mo_placeOf_40 : decode b_Mo_placeOf 40 = .ok (.invokevirtual 173, 3) := by decide +kernel
theorem d_Mo_placeOf_43 : decode b_Mo_placeOf 43 = .ok (.aload_n 0, 1) := by decide +kernel
theorem d_Mo_placeOf_44 : decode b_Mo_placeOf 44 = .ok (.getfield 7, 3) := by decide +kernel
theorem d_Mo_placeOf_47 : decode b_Mo_placeOf 47 = .ok (.iload 6, 2) := by decide +kernel
theorem d_Mo_placeOf_49 : decode b_Mo_placeOf 49 = .ok (.iaload, 1) := by decide +kernel
theorem d_Mo_placeOf_50 : decode b_Mo_placeOf 50 = .ok (.iconst 2, 1) := by decide +kernel
theorem d_Mo_placeOf_51 : decode b_Mo_placeOf 51 = .ok (.if_icmp .ne 56, 3) := by decide +kernel
theorem d_Mo_placeOf_54 : decode b_Mo_placeOf 54 = .ok (.aload_n 0, 1) := by decide +kernel
theorem d_Mo_placeOf_55 : decode b_Mo_placeOf 55 = .ok (.iload 6, 2) := by decide +kernel
theorem d_Mo_placeOf_57 : decode b_Mo_placeOf 57 = .ok (.aload_n 0, 1) := by decide +kernel
theorem d_Mo_placeOf_58 : decode b_Mo_placeOf 58 = .ok (.getfield 33, 3) := by decide +kernel
theorem d_Mo_placeOf_61 : decode b_Mo_placeOf 61 = .ok (.iload_n 1, 1) := by decide +kernel
theorem d_Mo_placeOf_62 : decode b_Mo_placeOf 62 = .ok (.iaload, 1) := by decide +kernel
theorem d_Mo_placeOf_63 : decode b_Mo_placeOf 63 = .ok (.ifCond .ge 7, 3) := by decide +kernel
theorem d_Mo_placeOf_66 : decode b_Mo_placeOf 66 = .ok (.iconst 4, 1) := by decide +kernel
theorem d_Mo_placeOf_67 : decode b_Mo_placeOf 67 = .ok (.goto 4, 3) := by decide +kernel
theorem d_Mo_placeOf_70 : decode b_Mo_placeOf 70 = .ok (.iconst 2, 1) := by decide +kernel
theorem d_Mo_placeOf_71 : decode b_Mo_placeOf 71 = .ok (.invokevirtual 105, 3) := by decide +kernel
theorem d_Mo_placeOf_74 : decode b_Mo_placeOf 74 = .ok (.aload_n 0, 1) := by decide +kernel
theorem d_Mo_placeOf_75 : decode b_Mo_placeOf 75 = .ok (.getfield 36, 3) := by decide +kernel
theorem d_Mo_placeOf_78 : decode b_Mo_placeOf 78 = .ok (.iload_n 1, 1) := by decide +kernel
theorem d_Mo_placeOf_79 : decode b_Mo_placeOf 79 = .ok (.iaload, 1) := by decide +kernel
theorem d_Mo_placeOf_80 : decode b_Mo_placeOf 80 = .ok (.if_icmp .ne 27, 3) := by decide +kernel
theorem d_Mo_placeOf_83 : decode b_Mo_placeOf 83 = .ok (.lload_n 3, 1) := by decide +kernel
theorem d_Mo_placeOf_84 : decode b_Mo_placeOf 84 = .ok (.aload_n 0, 1) := by decide +kernel
theorem d_Mo_placeOf_85 : decode b_Mo_placeOf 85 = .ok (.iload 6, 2) := by decide +kernel
theorem d_Mo_placeOf_87 : decode b_Mo_placeOf 87 = .ok (.aload_n 0, 1) := by decide +kernel
theorem d_Mo_placeOf_88 : decode b_Mo_placeOf 88 = .ok (.getfield 33, 3) := by decide +kernel
theorem d_Mo_placeOf_91 : decode b_Mo_placeOf 91 = .ok (.iload_n 1, 1) := by decide +kernel
theorem d_Mo_placeOf_92 : decode b_Mo_placeOf 92 = .ok (.iaload, 1) := by decide +kernel
theorem d_Mo_placeOf_93 : decode b_Mo_placeOf 93 = .ok (.ifCond .ge 7, 3) := by decide +kernel
theorem d_Mo_placeOf_96 : decode b_Mo_placeOf 96 = .ok (.iconst 3, 1) := by decide +kernel
theorem d_Mo_placeOf_97 : decode b_Mo_placeOf 97 = .ok (.goto 4, 3) := by decide +kernel
theorem d_Mo_placeOf_100 : decode b_Mo_placeOf 100 = .ok (.iconst 1, 1) := by decide +kernel
theorem d_Mo_placeOf_101 : decode b_Mo_placeOf 101 = .ok (.invokevirtual 105, 3) := by decide +kernel
theorem d_Mo_placeOf_104 : decode b_Mo_placeOf 104 = .ok (.i2l, 1) := by decide +kernel
theorem d_Mo_placeOf_105 : decode b_Mo_placeOf 105 = .ok (.ladd, 1) := by decide +kernel
theorem d_Mo_placeOf_106 : decode b_Mo_placeOf 106 = .ok (.lstore_n 3, 1) := by decide +kernel
theorem d_Mo_placeOf_107 : decode b_Mo_placeOf 107 = .ok (.iinc 6 1, 3) := by decide +kernel
theorem d_Mo_placeOf_110 : decode b_Mo_placeOf 110 = .ok (.goto (-86), 3) := by decide +kernel
theorem d_Mo_placeOf_113 : decode b_Mo_placeOf 113 = .ok (.aload_n 0, 1) := by decide +kernel
theorem d_Mo_placeOf_114 : decode b_Mo_placeOf 114 = .ok (.getfield 45, 3) := by decide +kernel
theorem d_Mo_placeOf_117 : decode b_Mo_placeOf 117 = .ok (.iload_n 1, 1) := by decide +kernel
theorem d_Mo_placeOf_118 : decode b_Mo_placeOf 118 = .ok (.iaload, 1) := by decide +kernel
theorem d_Mo_placeOf_119 : decode b_Mo_placeOf 119 = .ok (.ifCond .le 14, 3) := by decide +kernel
theorem d_Mo_placeOf_122 : decode b_Mo_placeOf 122 = .ok (.aload_n 0, 1) := by decide +kernel
theorem d_Mo_placeOf_123 : decode b_Mo_placeOf 123 = .ok (.getfield 39, 3) := by decide +kernel
theorem d_Mo_placeOf_126 : decode b_Mo_placeOf 126 = .ok (.iload_n 1, 1) := by decide +kernel
theorem d_Mo_placeOf_127 : decode b_Mo_placeOf 127 = .ok (.iaload, 1) := by decide +kernel
theorem d_Mo_placeOf_128 : decode b_Mo_placeOf 128 = .ok (.ineg, 1) := by decide +kernel
theorem d_Mo_placeOf_129 : decode b_Mo_placeOf 129 = .ok (.i2l, 1) := by decide +kernel
theorem d_Mo_placeOf_130 : decode b_Mo_placeOf 130 = .ok (.goto 10, 3) := by decide +kernel
theorem d_Mo_placeOf_133 : decode b_Mo_placeOf 133 = .ok (.aload_n 0, 1) := by decide +kernel
theorem d_Mo_placeOf_134 : decode b_Mo_placeOf 134 = .ok (.getfield 33, 3) := by decide +kernel
theorem d_Mo_placeOf_137 : decode b_Mo_placeOf 137 = .ok (.iload_n 1, 1) := by decide +kernel
theorem d_Mo_placeOf_138 : decode b_Mo_placeOf 138 = .ok (.iaload, 1) := by decide +kernel
theorem d_Mo_placeOf_139 : decode b_Mo_placeOf 139 = .ok (.i2l, 1) := by decide +kernel
theorem d_Mo_placeOf_140 : decode b_Mo_placeOf 140 = .ok (.lstore 6, 2) := by decide +kernel
theorem d_Mo_placeOf_142 : decode b_Mo_placeOf 142 = .ok (.aload_n 0, 1) := by decide +kernel
theorem d_Mo_placeOf_143 : decode b_Mo_placeOf 143 = .ok (.getfield 39, 3) := by decide +kernel
theorem d_Mo_placeOf_146 : decode b_Mo_placeOf 146 = .ok (.iload_n 1, 1) := by decide +kernel
theorem d_Mo_placeOf_147 : decode b_Mo_placeOf 147 = .ok (.iaload, 1) := by decide +kernel
theorem d_Mo_placeOf_148 : decode b_Mo_placeOf 148 = .ok (.ifCond .ne 7, 3) := by decide +kernel
theorem d_Mo_placeOf_151 : decode b_Mo_placeOf 151 = .ok (.lconst 0, 1) := by decide +kernel
theorem d_Mo_placeOf_152 : decode b_Mo_placeOf 152 = .ok (.goto 17, 3) := by decide +kernel
theorem d_Mo_placeOf_155 : decode b_Mo_placeOf 155 = .ok (.lload_n 3, 1) := by decide +kernel
theorem d_Mo_placeOf_156 : decode b_Mo_placeOf 156 = .ok (.lload 6, 2) := by decide +kernel
theorem d_Mo_placeOf_158 : decode b_Mo_placeOf 158 = .ok (.lmul, 1) := by decide +kernel
theorem d_Mo_placeOf_159 : decode b_Mo_placeOf 159 = .ok (.aload_n 0, 1) := by decide +kernel
theorem d_Mo_placeOf_160 : decode b_Mo_placeOf 160 = .ok (.getfield 39, 3) := by decide +kernel
theorem d_Mo_placeOf_163 : decode b_Mo_placeOf 163 = .ok (.iload_n 1, 1) := by decide +kernel
theorem d_Mo_placeOf_164 : decode b_Mo_placeOf 164 = .ok (.iaload, 1) := by decide +kernel
theorem d_Mo_placeOf_165 : decode b_Mo_placeOf 165 = .ok (.i2l, 1) := by decide +kernel
theorem d_Mo_placeOf_166 : decode b_Mo_placeOf 166 = .ok (.invokestatic 183, 3) := by decide +kernel
theorem d_Mo_placeOf_169 : decode b_Mo_placeOf 169 = .ok (.lstore 8, 2) := by decide +kernel
theorem d_Mo_placeOf_171 : decode b_Mo_placeOf 171 = .ok (.aload_n 0, 1) := by decide +kernel
theorem d_Mo_placeOf_172 : decode b_Mo_placeOf 172 = .ok (.getfield 112, 3) := by decide +kernel
theorem d_Mo_placeOf_175 : decode b_Mo_placeOf 175 = .ok (.aload_n 0, 1) := by decide +kernel
theorem d_Mo_placeOf_176 : decode b_Mo_placeOf 176 = .ok (.getfield 20, 3) := by decide +kernel
theorem d_Mo_placeOf_179 : decode b_Mo_placeOf 179 = .ok (.iload_n 1, 1) := by decide +kernel
theorem d_Mo_placeOf_180 : decode b_Mo_placeOf 180 = .ok (.baload, 1) := by decide +kernel
theorem d_Mo_placeOf_181 : decode b_Mo_placeOf 181 = .ok (.ifCond .eq 19, 3) := by decide +kernel
theorem d_Mo_placeOf_184 : decode b_Mo_placeOf 184 = .ok (.aload_n 0, 1) := by decide +kernel
theorem d_Mo_placeOf_185 : decode b_Mo_placeOf 185 = .ok (.iload 5, 2) := by decide +kernel
theorem d_Mo_placeOf_187 : decode b_Mo_placeOf 187 = .ok (.invokevirtual 140, 3) := by decide +kernel
theorem d_Mo_placeOf_190 : decode b_Mo_placeOf 190 = .ok (.ifCond .eq 10, 3) := by decide +kernel
theorem d_Mo_placeOf_193 : decode b_Mo_placeOf 193 = .ok (.aload_n 0, 1) := by decide +kernel
theorem d_Mo_placeOf_194 : decode b_Mo_placeOf 194 = .ok (.getfield 120, 3) := by decide +kernel
theorem d_Mo_placeOf_197 : decode b_Mo_placeOf 197 = .ok (.goto 4, 3) := by decide +kernel
theorem d_Mo_placeOf_200 : decode b_Mo_placeOf 200 = .ok (.lconst 0, 1) := by decide +kernel
theorem d_Mo_placeOf_201 : decode b_Mo_placeOf 201 = .ok (.ladd, 1) := by decide +kernel
theorem d_Mo_placeOf_202 : decode b_Mo_placeOf 202 = .ok (.lload 8, 2) := by decide +kernel
theorem d_Mo_placeOf_204 : decode b_Mo_placeOf 204 = .ok (.ladd, 1) := by decide +kernel
theorem d_Mo_placeOf_205 : decode b_Mo_placeOf 205 = .ok (.lreturn, 1) := by decide +kernel
abbrev b_Mo_place : ByteArray := prog_8_method_34_code
def y_Mo_place : MethodName := ⟨"BoxPackerModel", "place", "(II)I"⟩
theorem d_Mo_place_0 : decode b_Mo_place 0 = .ok (.aload_n 0, 1) := by decide +kernel
theorem d_Mo_place_1 : decode b_Mo_place 1 = .ok (.aload_n 0, 1) := by decide +kernel
theorem d_Mo_place_2 : decode b_Mo_place 2 = .ok (.iload_n 1, 1) := by decide +kernel
theorem d_Mo_place_3 : decode b_Mo_place 3 = .ok (.invokevirtual 102, 3) := by decide +kernel
theorem d_Mo_place_6 : decode b_Mo_place 6 = .ok (.ifCond .eq 26, 3) := by decide +kernel
theorem d_Mo_place_9 : decode b_Mo_place 9 = .ok (.iload_n 2, 1) := by decide +kernel
theorem d_Mo_place_10 : decode b_Mo_place 10 = .ok (.ifCond .lt 22, 3) := by decide +kernel
theorem d_Mo_place_13 : decode b_Mo_place 13 = .ok (.iload_n 2, 1) := by decide +kernel
theorem d_Mo_place_14 : decode b_Mo_place 14 = .ok (.aload_n 0, 1) := by decide +kernel
theorem d_Mo_place_15 : decode b_Mo_place 15 = .ok (.getfield 17, 3) := by decide +kernel
theorem d_Mo_place_18 : decode b_Mo_place 18 = .ok (.iload_n 1, 1) := by decide +kernel
theorem d_Mo_place_19 : decode b_Mo_place 19 = .ok (.iconst 1, 1) := by decide +kernel
theorem d_Mo_place_20 : decode b_Mo_place 20 = .ok (.iadd, 1) := by decide +kernel
theorem d_Mo_place_21 : decode b_Mo_place 21 = .ok (.iaload, 1) := by decide +kernel
theorem d_Mo_place_22 : decode b_Mo_place 22 = .ok (.aload_n 0, 1) := by decide +kernel
theorem d_Mo_place_23 : decode b_Mo_place 23 = .ok (.getfield 17, 3) := by decide +kernel
theorem d_Mo_place_26 : decode b_Mo_place 26 = .ok (.iload_n 1, 1) := by decide +kernel
theorem d_Mo_place_27 : decode b_Mo_place 27 = .ok (.iaload, 1) := by decide +kernel
theorem d_Mo_place_28 : decode b_Mo_place 28 = .ok (.isub, 1) := by decide +kernel
theorem d_Mo_place_29 : decode b_Mo_place 29 = .ok (.if_icmp .lt 7, 3) := by decide +kernel
theorem d_Mo_place_32 : decode b_Mo_place 32 = .ok (.iconst 1, 1) := by decide +kernel
theorem d_Mo_place_33 : decode b_Mo_place 33 = .ok (.goto 4, 3) := by decide +kernel
theorem d_Mo_place_36 : decode b_Mo_place 36 = .ok (.iconst 0, 1) := by decide +kernel
theorem d_Mo_place_37 : decode b_Mo_place 37 = .ok (.putfield 64, 3) := by decide +kernel
theorem d_Mo_place_40 : decode b_Mo_place 40 = .ok (.aload_n 0, 1) := by decide +kernel
theorem d_Mo_place_41 : decode b_Mo_place 41 = .ok (.getfield 64, 3) := by decide +kernel
theorem d_Mo_place_44 : decode b_Mo_place 44 = .ok (.ifCond .le 7, 3) := by decide +kernel
theorem d_Mo_place_47 : decode b_Mo_place 47 = .ok (.iconst 0, 1) := by decide +kernel
theorem d_Mo_place_48 : decode b_Mo_place 48 = .ok (.goto 10, 3) := by decide +kernel
theorem d_Mo_place_51 : decode b_Mo_place 51 = .ok (.aload_n 0, 1) := by decide +kernel
theorem d_Mo_place_52 : decode b_Mo_place 52 = .ok (.iload_n 1, 1) := by decide +kernel
theorem d_Mo_place_53 : decode b_Mo_place 53 = .ok (.iload_n 2, 1) := by decide +kernel
theorem d_Mo_place_54 : decode b_Mo_place 54 = .ok (.invokevirtual 186, 3) := by decide +kernel
theorem d_Mo_place_57 : decode b_Mo_place 57 = .ok (.l2i, 1) := by decide +kernel
theorem d_Mo_place_58 : decode b_Mo_place 58 = .ok (.ireturn, 1) := by decide +kernel
abbrev b_Mo_note : ByteArray := prog_8_method_35_code
def y_Mo_note : MethodName := ⟨"BoxPackerModel", "note", "(IJJJJJ)Z"⟩
theorem d_Mo_note_0 : decode b_Mo_note 0 = .ok (.aload_n 0, 1) := by decide +kernel
theorem d_Mo_note_1 : decode b_Mo_note 1 = .ok (.getfield 190, 3) := by decide +kernel
theorem d_Mo_note_4 : decode b_Mo_note 4 = .ok (.sipush 1000, 3) := by decide +kernel
theorem d_Mo_note_7 : decode b_Mo_note 7 = .ok (.if_icmp .ne 5, 3) := by decide +kernel
theorem d_Mo_note_10 : decode b_Mo_note 10 = .ok (.iconst 0, 1) := by decide +kernel
theorem d_Mo_note_11 : decode b_Mo_note 11 = .ok (.ireturn, 1) := by decide +kernel
theorem d_Mo_note_12 : decode b_Mo_note 12 = .ok (.aload_n 0, 1) := by decide +kernel
theorem d_Mo_note_13 : decode b_Mo_note 13 = .ok (.getfield 61, 3) := by decide +kernel
theorem d_Mo_note_16 : decode b_Mo_note 16 = .ok (.bipush 6, 2) := by decide +kernel
theorem d_Mo_note_18 : decode b_Mo_note 18 = .ok (.aload_n 0, 1) := by decide +kernel
theorem d_Mo_note_19 : decode b_Mo_note 19 = .ok (.getfield 190, 3) := by decide +kernel
theorem d_Mo_note_22 : decode b_Mo_note 22 = .ok (.imul, 1) := by decide +kernel
theorem d_Mo_note_23 : decode b_Mo_note 23 = .ok (.iload_n 1, 1) := by decide +kernel
theorem d_Mo_note_24 : decode b_Mo_note 24 = .ok (.i2l, 1) := by decide +kernel
theorem d_Mo_note_25 : decode b_Mo_note 25 = .ok (.lastore, 1) := by decide +kernel
theorem d_Mo_note_26 : decode b_Mo_note 26 = .ok (.aload_n 0, 1) := by decide +kernel
theorem d_Mo_note_27 : decode b_Mo_note 27 = .ok (.getfield 61, 3) := by decide +kernel
theorem d_Mo_note_30 : decode b_Mo_note 30 = .ok (.bipush 6, 2) := by decide +kernel
theorem d_Mo_note_32 : decode b_Mo_note 32 = .ok (.aload_n 0, 1) := by decide +kernel
theorem d_Mo_note_33 : decode b_Mo_note 33 = .ok (.getfield 190, 3) := by decide +kernel
theorem d_Mo_note_36 : decode b_Mo_note 36 = .ok (.imul, 1) := by decide +kernel
theorem d_Mo_note_37 : decode b_Mo_note 37 = .ok (.iconst 1, 1) := by decide +kernel
theorem d_Mo_note_38 : decode b_Mo_note 38 = .ok (.iadd, 1) := by decide +kernel
theorem d_Mo_note_39 : decode b_Mo_note 39 = .ok (.lload_n 2, 1) := by decide +kernel
theorem d_Mo_note_40 : decode b_Mo_note 40 = .ok (.lastore, 1) := by decide +kernel
theorem d_Mo_note_41 : decode b_Mo_note 41 = .ok (.aload_n 0, 1) := by decide +kernel
theorem d_Mo_note_42 : decode b_Mo_note 42 = .ok (.getfield 61, 3) := by decide +kernel
theorem d_Mo_note_45 : decode b_Mo_note 45 = .ok (.bipush 6, 2) := by decide +kernel
theorem d_Mo_note_47 : decode b_Mo_note 47 = .ok (.aload_n 0, 1) := by decide +kernel
theorem d_Mo_note_48 : decode b_Mo_note 48 = .ok (.getfield 190, 3) := by decide +kernel
theorem d_Mo_note_51 : decode b_Mo_note 51 = .ok (.imul, 1) := by decide +kernel
theorem d_Mo_note_52 : decode b_Mo_note 52 = .ok (.iconst 2, 1) := by decide +kernel
theorem d_Mo_note_53 : decode b_Mo_note 53 = .ok (.iadd, 1) := by decide +kernel
theorem d_Mo_note_54 : decode b_Mo_note 54 = .ok (.lload 4, 2) := by decide +kernel
theorem d_Mo_note_56 : decode b_Mo_note 56 = .ok (.lastore, 1) := by decide +kernel
theorem d_Mo_note_57 : decode b_Mo_note 57 = .ok (.aload_n 0, 1) := by decide +kernel
theorem d_Mo_note_58 : decode b_Mo_note 58 = .ok (.getfield 61, 3) := by decide +kernel
theorem d_Mo_note_61 : decode b_Mo_note 61 = .ok (.bipush 6, 2) := by decide +kernel
theorem d_Mo_note_63 : decode b_Mo_note 63 = .ok (.aload_n 0, 1) := by decide +kernel
theorem d_Mo_note_64 : decode b_Mo_note 64 = .ok (.getfield 190, 3) := by decide +kernel
theorem d_Mo_note_67 : decode b_Mo_note 67 = .ok (.imul, 1) := by decide +kernel
theorem d_Mo_note_68 : decode b_Mo_note 68 = .ok (.iconst 3, 1) := by decide +kernel
theorem d_Mo_note_69 : decode b_Mo_note 69 = .ok (.iadd, 1) := by decide +kernel
theorem d_Mo_note_70 : decode b_Mo_note 70 = .ok (.lload 6, 2) := by decide +kernel
theorem d_Mo_note_72 : decode b_Mo_note 72 = .ok (.lastore, 1) := by decide +kernel
theorem d_Mo_note_73 : decode b_Mo_note 73 = .ok (.aload_n 0, 1) := by decide +kernel
theorem d_Mo_note_74 : decode b_Mo_note 74 = .ok (.getfield 61, 3) := by decide +kernel
theorem d_Mo_note_77 : decode b_Mo_note 77 = .ok (.bipush 6, 2) := by decide +kernel
theorem d_Mo_note_79 : decode b_Mo_note 79 = .ok (.aload_n 0, 1) := by decide +kernel
theorem d_Mo_note_80 : decode b_Mo_note 80 = .ok (.getfield 190, 3) := by decide +kernel
theorem d_Mo_note_83 : decode b_Mo_note 83 = .ok (.imul, 1) := by decide +kernel
theorem d_Mo_note_84 : decode b_Mo_note 84 = .ok (.iconst 4, 1) := by decide +kernel
theorem d_Mo_note_85 : decode b_Mo_note 85 = .ok (.iadd, 1) := by decide +kernel
theorem d_Mo_note_86 : decode b_Mo_note 86 = .ok (.lload 8, 2) := by decide +kernel
theorem d_Mo_note_88 : decode b_Mo_note 88 = .ok (.lastore, 1) := by decide +kernel
theorem d_Mo_note_89 : decode b_Mo_note 89 = .ok (.aload_n 0, 1) := by decide +kernel
theorem d_Mo_note_90 : decode b_Mo_note 90 = .ok (.getfield 61, 3) := by decide +kernel
theorem d_Mo_note_93 : decode b_Mo_note 93 = .ok (.bipush 6, 2) := by decide +kernel
theorem d_Mo_note_95 : decode b_Mo_note 95 = .ok (.aload_n 0, 1) := by decide +kernel
theorem d_Mo_note_96 : decode b_Mo_note 96 = .ok (.getfield 190, 3) := by decide +kernel
theorem d_Mo_note_99 : decode b_Mo_note 99 = .ok (.imul, 1) := by decide +kernel
theorem d_Mo_note_100 : decode b_Mo_note 100 = .ok (.iconst 5, 1) := by decide +kernel
theorem d_Mo_note_101 : decode b_Mo_note 101 = .ok (.iadd, 1) := by decide +kernel
theorem d_Mo_note_102 : decode b_Mo_note 102 = .ok (.lload 10, 2) := by decide +kernel
theorem d_Mo_note_104 : decode b_Mo_note 104 = .ok (.lastore, 1) := by decide +kernel
theorem d_Mo_note_105 : decode b_Mo_note 105 = .ok (.aload_n 0, 1) := by decide +kernel
theorem d_Mo_note_106 : decode b_Mo_note 106 = .ok (.dup, 1) := by decide +kernel
theorem d_Mo_note_107 : decode b_Mo_note 107 = .ok (.getfield 190, 3) := by decide +kernel
theorem d_Mo_note_110 : decode b_Mo_note 110 = .ok (.iconst 1, 1) := by decide +kernel
theorem d_Mo_note_111 : decode b_Mo_note 111 = .ok (.iadd, 1) := by decide +kernel
theorem d_Mo_note_112 : decode b_Mo_note 112 = .ok (.putfield 190, 3) := by decide +kernel
theorem d_Mo_note_115 : decode b_Mo_note 115 = .ok (.iconst 1, 1) := by decide +kernel
theorem d_Mo_note_116 : decode b_Mo_note 116 = .ok (.ireturn, 1) := by decide +kernel
abbrev b_Mo_ruled : ByteArray := prog_8_method_36_code
def y_Mo_ruled : MethodName := ⟨"BoxPackerModel", "ruled", "(III)J"⟩
theorem d_Mo_ruled_0 : decode b_Mo_ruled 0 = .ok (.aload_n 0, 1) := by decide +kernel
theorem d_Mo_ruled_1 : decode b_Mo_ruled 1 = .ok (.iload_n 2, 1) := by decide +kernel
theorem d_Mo_ruled_2 : decode b_Mo_ruled 2 = .ok (.iload_n 3, 1) := by decide +kernel
theorem d_Mo_ruled_3 : decode b_Mo_ruled 3 = .ok (.invokevirtual 105, 3) := by decide +kernel
theorem d_Mo_ruled_6 : decode b_Mo_ruled 6 = .ok (.ldc 91, 2) := by decide +kernel
theorem d_Mo_ruled_8 : decode b_Mo_ruled 8 = .ok (.if_icmp .eq 11, 3) := by decide +kernel
theorem d_Mo_ruled_11 : decode b_Mo_ruled 11 = .ok (.aload_n 0, 1) := by decide +kernel
theorem d_Mo_ruled_12 : decode b_Mo_ruled 12 = .ok (.iload_n 2, 1) := by decide +kernel
theorem d_Mo_ruled_13 : decode b_Mo_ruled 13 = .ok (.iload_n 3, 1) := by decide +kernel
theorem d_Mo_ruled_14 : decode b_Mo_ruled 14 = .ok (.invokevirtual 105, 3) := by decide +kernel
theorem d_Mo_ruled_17 : decode b_Mo_ruled 17 = .ok (.i2l, 1) := by decide +kernel
theorem d_Mo_ruled_18 : decode b_Mo_ruled 18 = .ok (.lreturn, 1) := by decide +kernel
theorem d_Mo_ruled_19 : decode b_Mo_ruled 19 = .ok (.aload_n 0, 1) := by decide +kernel
theorem d_Mo_ruled_20 : decode b_Mo_ruled 20 = .ok (.getfield 20, 3) := by decide +kernel
theorem d_Mo_ruled_23 : decode b_Mo_ruled 23 = .ok (.iload_n 1, 1) := by decide +kernel
theorem d_Mo_ruled_24 : decode b_Mo_ruled 24 = .ok (.baload, 1) := by decide +kernel
theorem d_Mo_ruled_25 : decode b_Mo_ruled 25 = .ok (.ifCond .eq 19, 3) := by decide +kernel
theorem d_Mo_ruled_28 : decode b_Mo_ruled 28 = .ok (.iload_n 3, 1) := by decide +kernel
theorem d_Mo_ruled_29 : decode b_Mo_ruled 29 = .ok (.ifCond .ne 13, 3) := by decide +kernel
theorem d_Mo_ruled_32 : decode b_Mo_ruled 32 = .ok (.aload_n 0, 1) := by decide +kernel
theorem d_Mo_ruled_33 : decode b_Mo_ruled 33 = .ok (.getfield 24, 3) := by decide +kernel
theorem d_Mo_ruled_36 : decode b_Mo_ruled 36 = .ok (.iload_n 1, 1) := by decide +kernel
theorem d_Mo_ruled_37 : decode b_Mo_ruled 37 = .ok (.iaload, 1) := by decide +kernel
theorem d_Mo_ruled_38 : decode b_Mo_ruled 38 = .ok (.i2l, 1) := by decide +kernel
theorem d_Mo_ruled_39 : decode b_Mo_ruled 39 = .ok (.goto 4, 3) := by decide +kernel
theorem d_Mo_ruled_42 : decode b_Mo_ruled 42 = .ok (.lconst 0, 1) := by decide +kernel
theorem d_Mo_ruled_43 : decode b_Mo_ruled 43 = .ok (.lreturn, 1) := by decide +kernel
theorem d_Mo_ruled_44 : decode b_Mo_ruled 44 = .ok (.iload_n 3, 1) := by decide +kernel
theorem d_Mo_ruled_45 : decode b_Mo_ruled 45 = .ok (.iconst 1, 1) := by decide +kernel
theorem d_Mo_ruled_46 : decode b_Mo_ruled 46 = .ok (.if_icmp .ne 13, 3) := by decide +kernel
theorem d_Mo_ruled_49 : decode b_Mo_ruled 49 = .ok (.aload_n 0, 1) := by decide +kernel
theorem d_Mo_ruled_50 : decode b_Mo_ruled 50 = .ok (.getfield 27, 3) := by decide +kernel
theorem d_Mo_ruled_53 : decode b_Mo_ruled 53 = .ok (.iload_n 1, 1) := by decide +kernel
theorem d_Mo_ruled_54 : decode b_Mo_ruled 54 = .ok (.iaload, 1) := by decide +kernel
theorem d_Mo_ruled_55 : decode b_Mo_ruled 55 = .ok (.i2l, 1) := by decide +kernel
theorem d_Mo_ruled_56 : decode b_Mo_ruled 56 = .ok (.goto 19, 3) := by decide +kernel
theorem d_Mo_ruled_59 : decode b_Mo_ruled 59 = .ok (.iload_n 3, 1) := by decide +kernel
theorem d_Mo_ruled_60 : decode b_Mo_ruled 60 = .ok (.iconst 2, 1) := by decide +kernel
theorem d_Mo_ruled_61 : decode b_Mo_ruled 61 = .ok (.if_icmp .ne 13, 3) := by decide +kernel
theorem d_Mo_ruled_64 : decode b_Mo_ruled 64 = .ok (.aload_n 0, 1) := by decide +kernel
theorem d_Mo_ruled_65 : decode b_Mo_ruled 65 = .ok (.getfield 30, 3) := by decide +kernel
theorem d_Mo_ruled_68 : decode b_Mo_ruled 68 = .ok (.iload_n 1, 1) := by decide +kernel
theorem d_Mo_ruled_69 : decode b_Mo_ruled 69 = .ok (.iaload, 1) := by decide +kernel
theorem d_Mo_ruled_70 : decode b_Mo_ruled 70 = .ok (.i2l, 1) := by decide +kernel
theorem d_Mo_ruled_71 : decode b_Mo_ruled 71 = .ok (.goto 4, 3) := by decide +kernel
theorem d_Mo_ruled_74 : decode b_Mo_ruled 74 = .ok (.lconst 0, 1) := by decide +kernel
theorem d_Mo_ruled_75 : decode b_Mo_ruled 75 = .ok (.lreturn, 1) := by decide +kernel
abbrev b_Mo_layBox : ByteArray := prog_8_method_37_code
def y_Mo_layBox : MethodName := ⟨"BoxPackerModel", "layBox", "(IJJ)Z"⟩
theorem d_Mo_layBox_0 : decode b_Mo_layBox 0 = .ok (.iconst 1, 1) := by decide +kernel
theorem d_Mo_layBox_1 : decode b_Mo_layBox 1 = .ok (.istore 6, 2) := by decide +kernel
theorem d_Mo_layBox_3 : decode b_Mo_layBox 3 = .ok (.aload_n 0, 1) := by decide +kernel
theorem d_Mo_layBox_4 : decode b_Mo_layBox 4 = .ok (.getfield 17, 3) := by decide +kernel
theorem d_Mo_layBox_7 : decode b_Mo_layBox 7 = .ok (.iload_n 1, 1) := by decide +kernel
theorem d_Mo_layBox_8 : decode b_Mo_layBox 8 = .ok (.iaload, 1) := by decide +kernel
theorem d_Mo_layBox_9 : decode b_Mo_layBox 9 = .ok (.istore 7, 2) := by decide +kernel
theorem d_Mo_layBox_11 : decode b_Mo_layBox 11 = .ok (.iload 7, 2) := by decide +kernel
theorem d_Mo_layBox_13 : decode b_Mo_layBox 13 = .ok (.aload_n 0, 1) := by decide +kernel
theorem d_Mo_layBox_14 : decode b_Mo_layBox 14 = .ok (.getfield 17, 3) := by decide +kernel
theorem d_Mo_layBox_17 : decode b_Mo_layBox 17 = .ok (.iload_n 1, 1) := by decide +kernel
theorem d_Mo_layBox_18 : decode b_Mo_layBox 18 = .ok (.iconst 1, 1) := by decide +kernel
theorem d_Mo_layBox_19 : decode b_Mo_layBox 19 = .ok (.iadd, 1) := by decide +kernel
theorem d_Mo_layBox_20 : decode b_Mo_layBox 20 = .ok (.iaload, 1) := by decide +kernel
theorem d_Mo_layBox_21 : decode b_Mo_layBox 21 = .ok (.if_icmp .ge 338, 3) := by decide +kernel
theorem d_Mo_layBox_24 : decode b_Mo_layBox 24 = .ok (.iload 6, 2) := by decide +kernel
theorem d_Mo_layBox_26 : decode b_Mo_layBox 26 = .ok (.ifCond .eq 333, 3) := by decide +kernel
theorem d_Mo_layBox_29 : decode b_Mo_layBox 29 = .ok (.aload_n 0, 1) := by decide +kernel
theorem d_Mo_layBox_30 : decode b_Mo_layBox 30 = .ok (.iload_n 1, 1) := by decide +kernel
theorem d_Mo_layBox_31 : decode b_Mo_layBox 31 = .ok (.iload 7, 2) := by decide +kernel
theorem d_Mo_layBox_33 : decode b_Mo_layBox 33 = .ok (.aload_n 0, 1) := by decide +kernel
theorem d_Mo_layBox_34 : decode b_Mo_layBox 34 = .ok (.getfield 17, 3) := by decide +kernel
theorem d_Mo_layBox_37 : decode b_Mo_layBox 37 = .ok (.iload_n 1, 1) := by decide +kernel
theorem d_Mo_layBox_38 : decode b_Mo_layBox 38 = .ok (.iaload, 1) := by decide +kernel
theorem d_Mo_layBox_39 : decode b_Mo_layBox 39 = .ok (.isub, 1) := by decide +kernel
theorem d_Mo_layBox_40 : decode b_Mo_layBox 40 = .ok (.invokevirtual 186, 3) := by decide +kernel
theorem d_Mo_layBox_43 : decode b_Mo_layBox 43 = .ok (.lstore 8, 2) := by decide +kernel
theorem d_Mo_layBox_45 : decode b_Mo_layBox 45 = .ok (.aload_n 0, 1) := by decide +kernel
theorem d_Mo_layBox_46 : decode b_Mo_layBox 46 = .ok (.getfield 20, 3) := by decide +kernel
theorem d_Mo_layBox_49 : decode b_Mo_layBox 49 = .ok (.iload_n 1, 1) := by decide +kernel
theorem d_Mo_layBox_50 : decode b_Mo_layBox 50 = .ok (.baload, 1) := by decide +kernel
theorem d_Mo_layBox_51 : decode b_Mo_layBox 51 = .ok (.ifCond .eq 7, 3) := by decide +kernel
theorem d_Mo_layBox_54 : decode b_Mo_layBox 54 = .ok (.lload_n 2, 1) := by decide +kernel
theorem d_Mo_layBox_55 : decode b_Mo_layBox 55 = .ok (.goto 7, 3) := by decide +kernel
theorem d_Mo_layBox_58 : decode b_Mo_layBox 58 = .ok (.lload_n 2, 1) := by decide +kernel
theorem d_Mo_layBox_59 : decode b_Mo_layBox 59 = .ok (.lload 8, 2) := by decide +kernel
theorem d_Mo_layBox_61 : decode b_Mo_layBox 61 = .ok (.ladd, 1) := by decide +kernel
theorem d_Mo_layBox_62 : decode b_Mo_layBox 62 = .ok (.lstore 10, 2) := by decide +kernel
theorem d_Mo_layBox_64 : decode b_Mo_layBox 64 = .ok (.aload_n 0, 1) := by decide +kernel
theorem d_Mo_layBox_65 : decode b_Mo_layBox 65 = .ok (.getfield 20, 3) := by decide +kernel
theorem d_Mo_layBox_68 : decode b_Mo_layBox 68 = .ok (.iload_n 1, 1) := by decide +kernel
theorem d_Mo_layBox_69 : decode b_Mo_layBox 69 = .ok (.baload, 1) := by decide +kernel
theorem d_Mo_layBox_70 : decode b_Mo_layBox 70 = .ok (.ifCond .eq 19, 3) := by decide +kernel
theorem d_Mo_layBox_73 : decode b_Mo_layBox 73 = .ok (.lload 4, 2) := by decide +kernel
theorem d_Mo_layBox_75 : decode b_Mo_layBox 75 = .ok (.aload_n 0, 1) := by decide +kernel
theorem d_Mo_layBox_76 : decode b_Mo_layBox 76 = .ok (.getfield 27, 3) := by decide +kernel
theorem d_Mo_layBox_79 : decode b_Mo_layBox 79 = .ok (.iload_n 1, 1) := by decide +kernel
theorem d_Mo_layBox_80 : decode b_Mo_layBox 80 = .ok (.iaload, 1) := by decide +kernel
theorem d_Mo_layBox_81 : decode b_Mo_layBox 81 = .ok (.i2l, 1) := by decide +kernel
theorem d_Mo_layBox_82 : decode b_Mo_layBox 82 = .ok (.lsub, 1) := by decide +kernel
theorem d_Mo_layBox_83 : decode b_Mo_layBox 83 = .ok (.lload 8, 2) := by decide +kernel
theorem d_Mo_layBox_85 : decode b_Mo_layBox 85 = .ok (.ladd, 1) := by decide +kernel
theorem d_Mo_layBox_86 : decode b_Mo_layBox 86 = .ok (.goto 5, 3) := by decide +kernel
theorem d_Mo_layBox_89 : decode b_Mo_layBox 89 = .ok (.lload 4, 2) := by decide +kernel
theorem d_Mo_layBox_91 : decode b_Mo_layBox 91 = .ok (.lstore 12, 2) := by decide +kernel
theorem d_Mo_layBox_93 : decode b_Mo_layBox 93 = .ok (.aload_n 0, 1) := by decide +kernel
theorem d_Mo_layBox_94 : decode b_Mo_layBox 94 = .ok (.getfield 7, 3) := by decide +kernel
theorem d_Mo_layBox_97 : decode b_Mo_layBox 97 = .ok (.iload 7, 2) := by decide +kernel
theorem d_Mo_layBox_99 : decode b_Mo_layBox 99 = .ok (.iaload, 1) := by decide +kernel
theorem d_Mo_layBox_100 : decode b_Mo_layBox 100 = .ok (.ifCond .ne 70, 3) := by decide +kernel
theorem d_Mo_layBox_103 : decode b_Mo_layBox 103 = .ok (.aload_n 0, 1) := by decide +kernel
theorem d_Mo_layBox_104 : decode b_Mo_layBox 104 = .ok (.aload_n 0, 1) := by decide +kernel
theorem d_Mo_layBox_105 : decode b_Mo_layBox 105 = .ok (.iload 7, 2) := by decide +kernel
theorem d_Mo_layBox_107 : decode b_Mo_layBox 107 = .ok (.iconst 0, 1) := by decide +kernel
theorem d_Mo_layBox_108 : decode b_Mo_layBox 108 = .ok (.invokevirtual 105, 3) := by decide +kernel
theorem d_Mo_layBox_111 : decode b_Mo_layBox 111 = .ok (.lload 10, 2) := by decide +kernel
theorem d_Mo_layBox_113 : decode b_Mo_layBox 113 = .ok (.aload_n 0, 1) := by decide +kernel
theorem d_Mo_layBox_114 : decode b_Mo_layBox 114 = .ok (.getfield 20, 3) := by decide +kernel
theorem d_Mo_layBox_117 : decode b_Mo_layBox 117 = .ok (.iload_n 1, 1) := by decide +kernel
theorem d_Mo_layBox_118 : decode b_Mo_layBox 118 = .ok (.baload, 1) := by decide +kernel
theorem d_Mo_layBox_119 : decode b_Mo_layBox 119 = .ok (.ifCond .eq 17, 3) := by decide +kernel
theorem d_Mo_layBox_122 : decode b_Mo_layBox 122 = .ok (.lload 12, 2) := by decide +kernel
theorem d_Mo_layBox_124 : decode b_Mo_layBox 124 = .ok (.aload_n 0, 1) := by decide +kernel
theorem d_Mo_layBox_125 : decode b_Mo_layBox 125 = .ok (.iload 7, 2) := by decide +kernel
theorem d_Mo_layBox_127 : decode b_Mo_layBox 127 = .ok (.iconst 2, 1) := by decide +kernel
theorem d_Mo_layBox_128 : decode b_Mo_layBox 128 = .ok (.invokevirtual 105, 3) := by decide +kernel
theorem d_Mo_layBox_131 : decode b_Mo_layBox 131 = .ok (.i2l, 1) := by decide +kernel
theorem d_Mo_layBox_132 : decode b_Mo_layBox 132 = .ok (.ladd, 1) := by decide +kernel
theorem d_Mo_layBox_133 : decode b_Mo_layBox 133 = .ok (.goto 5, 3) := by decide +kernel
theorem d_Mo_layBox_136 : decode b_Mo_layBox 136 = .ok (.lload 12, 2) := by decide +kernel
theorem d_Mo_layBox_138 : decode b_Mo_layBox 138 = .ok (.aload_n 0, 1) := by decide +kernel
theorem d_Mo_layBox_139 : decode b_Mo_layBox 139 = .ok (.iload 7, 2) := by decide +kernel
theorem d_Mo_layBox_141 : decode b_Mo_layBox 141 = .ok (.iconst 1, 1) := by decide +kernel
theorem d_Mo_layBox_142 : decode b_Mo_layBox 142 = .ok (.invokevirtual 105, 3) := by decide +kernel
theorem d_Mo_layBox_145 : decode b_Mo_layBox 145 = .ok (.i2l, 1) := by decide +kernel
theorem d_Mo_layBox_146 : decode b_Mo_layBox 146 = .ok (.aload_n 0, 1) := by decide +kernel
theorem d_Mo_layBox_147 : decode b_Mo_layBox 147 = .ok (.iload 7, 2) := by decide +kernel
theorem d_Mo_layBox_149 : decode b_Mo_layBox 149 = .ok (.iconst 2, 1) := by decide +kernel
theorem d_Mo_layBox_150 : decode b_Mo_layBox 150 = .ok (.invokevirtual 105, 3) := by decide +kernel
theorem d_Mo_layBox_153 : decode b_Mo_layBox 153 = .ok (.i2l, 1) := by decide +kernel
theorem d_Mo_layBox_154 : decode b_Mo_layBox 154 = .ok (.aload_n 0, 1) := by decide +kernel
theorem d_Mo_layBox_155 : decode b_Mo_layBox 155 = .ok (.iload 7, 2) := by decide +kernel
theorem d_Mo_layBox_157 : decode b_Mo_layBox 157 = .ok (.iconst 3, 1) := by decide +kernel
theorem d_Mo_layBox_158 : decode b_Mo_layBox 158 = .ok (.invokevirtual 105, 3) := by decide +kernel
theorem d_Mo_layBox_161 : decode b_Mo_layBox 161 = .ok (.i2l, 1) := by decide +kernel
theorem d_Mo_layBox_162 : decode b_Mo_layBox 162 = .ok (.invokevirtual 193, 3) := by decide +kernel
theorem d_Mo_layBox_165 : decode b_Mo_layBox 165 = .ok (.istore 6, 2) := by decide +kernel
theorem d_Mo_layBox_167 : decode b_Mo_layBox 167 = .ok (.goto 186, 3) := by decide +kernel
theorem d_Mo_layBox_170 : decode b_Mo_layBox 170 = .ok (.aload_n 0, 1) := by decide +kernel
theorem d_Mo_layBox_171 : decode b_Mo_layBox 171 = .ok (.getfield 7, 3) := by decide +kernel
theorem d_Mo_layBox_174 : decode b_Mo_layBox 174 = .ok (.iload 7, 2) := by decide +kernel
theorem d_Mo_layBox_176 : decode b_Mo_layBox 176 = .ok (.iaload, 1) := by decide +kernel
theorem d_Mo_layBox_177 : decode b_Mo_layBox 177 = .ok (.iconst 1, 1) := by decide +kernel
theorem d_Mo_layBox_178 : decode b_Mo_layBox 178 = .ok (.if_icmp .ne 95, 3) := by decide +kernel
theorem d_Mo_layBox_181 : decode b_Mo_layBox 181 = .ok (.aload_n 0, 1) := by decide +kernel
theorem d_Mo_layBox_182 : decode b_Mo_layBox 182 = .ok (.iload_n 1, 1) := by decide +kernel
theorem d_Mo_layBox_183 : decode b_Mo_layBox 183 = .ok (.iload 7, 2) := by decide +kernel
theorem d_Mo_layBox_185 : decode b_Mo_layBox 185 = .ok (.iconst 0, 1) := by decide +kernel
theorem d_Mo_layBox_186 : decode b_Mo_layBox 186 = .ok (.invokevirtual 197, 3) := by decide +kernel
theorem d_Mo_layBox_189 : decode b_Mo_layBox 189 = .ok (.lstore 14, 2) := by decide +kernel
theorem d_Mo_layBox_191 : decode b_Mo_layBox 191 = .ok (.aload_n 0, 1) := by decide +kernel
theorem d_Mo_layBox_192 : decode b_Mo_layBox 192 = .ok (.iload_n 1, 1) := by decide +kernel
theorem d_Mo_layBox_193 : decode b_Mo_layBox 193 = .ok (.iload 7, 2) := by decide +kernel
theorem d_Mo_layBox_195 : decode b_Mo_layBox 195 = .ok (.iconst 1, 1) := by decide +kernel
theorem d_Mo_layBox_196 : decode b_Mo_layBox 196 = .ok (.invokevirtual 197, 3) := by decide +kernel
theorem d_Mo_layBox_199 : decode b_Mo_layBox 199 = .ok (.lstore 16, 2) := by decide +kernel
theorem d_Mo_layBox_201 : decode b_Mo_layBox 201 = .ok (.aload_n 0, 1) := by decide +kernel
theorem d_Mo_layBox_202 : decode b_Mo_layBox 202 = .ok (.iload_n 1, 1) := by decide +kernel
theorem d_Mo_layBox_203 : decode b_Mo_layBox 203 = .ok (.iload 7, 2) := by decide +kernel
theorem d_Mo_layBox_205 : decode b_Mo_layBox 205 = .ok (.iconst 2, 1) := by decide +kernel
theorem d_Mo_layBox_206 : decode b_Mo_layBox 206 = .ok (.invokevirtual 197, 3) := by decide +kernel
theorem d_Mo_layBox_209 : decode b_Mo_layBox 209 = .ok (.lstore 18, 2) := by decide +kernel
theorem d_Mo_layBox_211 : decode b_Mo_layBox 211 = .ok (.lload 14, 2) := by decide +kernel
theorem d_Mo_layBox_213 : decode b_Mo_layBox 213 = .ok (.lconst 0, 1) := by decide +kernel
theorem d_Mo_layBox_214 : decode b_Mo_layBox 214 = .ok (.lcmp, 1) := by decide +kernel
theorem d_Mo_layBox_215 : decode b_Mo_layBox 215 = .ok (.ifCond .le 48, 3) := by decide +kernel
theorem d_Mo_layBox_218 : decode b_Mo_layBox 218 = .ok (.lload 16, 2) := by decide +kernel
theorem d_Mo_layBox_220 : decode b_Mo_layBox 220 = .ok (.lload 18, 2) := by decide +kernel
theorem d_Mo_layBox_222 : decode b_Mo_layBox 222 = .ok (.ladd, 1) := by decide +kernel
theorem d_Mo_layBox_223 : decode b_Mo_layBox 223 = .ok (.lconst 0, 1) := by decide +kernel
theorem d_Mo_layBox_224 : decode b_Mo_layBox 224 = .ok (.lcmp, 1) := by decide +kernel
theorem d_Mo_layBox_225 : decode b_Mo_layBox 225 = .ok (.ifCond .le 38, 3) := by decide +kernel
theorem d_Mo_layBox_228 : decode b_Mo_layBox 228 = .ok (.aload_n 0, 1) := by decide +kernel
theorem d_Mo_layBox_229 : decode b_Mo_layBox 229 = .ok (.iconst (-1), 1) := by decide +kernel
theorem d_Mo_layBox_230 : decode b_Mo_layBox 230 = .ok (.lload 10, 2) := by decide +kernel
theorem d_Mo_layBox_232 : decode b_Mo_layBox 232 = .ok (.aload_n 0, 1) := by decide +kernel
theorem d_Mo_layBox_233 : decode b_Mo_layBox 233 = .ok (.getfield 20, 3) := by decide +kernel
theorem d_Mo_layBox_236 : decode b_Mo_layBox 236 = .ok (.iload_n 1, 1) := by decide +kernel
theorem d_Mo_layBox_237 : decode b_Mo_layBox 237 = .ok (.baload, 1) := by decide +kernel
theorem d_Mo_layBox_238 : decode b_Mo_layBox 238 = .ok (.ifCond .eq 11, 3) := by decide +kernel
theorem d_Mo_layBox_241 : decode b_Mo_layBox 241 = .ok (.lload 12, 2) := by decide +kernel
theorem d_Mo_layBox_243 : decode b_Mo_layBox 243 = .ok (.lload 16, 2) := by decide +kernel
theorem d_Mo_layBox_245 : decode b_Mo_layBox 245 = .ok (.ladd, 1) := by decide +kernel
theorem d_Mo_layBox_246 : decode b_Mo_layBox 246 = .ok (.goto 5, 3) := by decide +kernel
theorem d_Mo_layBox_249 : decode b_Mo_layBox 249 = .ok (.lload 12, 2) := by decide +kernel
theorem d_Mo_layBox_251 : decode b_Mo_layBox 251 = .ok (.lload 14, 2) := by decide +kernel
theorem d_Mo_layBox_253 : decode b_Mo_layBox 253 = .ok (.lload 16, 2) := by decide +kernel
theorem d_Mo_layBox_255 : decode b_Mo_layBox 255 = .ok (.lload 18, 2) := by decide +kernel
theorem d_Mo_layBox_257 : decode b_Mo_layBox 257 = .ok (.invokevirtual 193, 3) := by decide +kernel
theorem d_Mo_layBox_260 : decode b_Mo_layBox 260 = .ok (.ifCond .eq 7, 3) := by decide +kernel
theorem d_Mo_layBox_263 : decode b_Mo_layBox 263 = .ok (.iconst 1, 1) := by decide +kernel
theorem d_Mo_layBox_264 : decode b_Mo_layBox 264 = .ok (.goto 4, 3) := by decide +kernel
theorem d_Mo_layBox_267 : decode b_Mo_layBox 267 = .ok (.iconst 0, 1) := by decide +kernel
theorem d_Mo_layBox_268 : decode b_Mo_layBox 268 = .ok (.istore 6, 2) := by decide +kernel
theorem d_Mo_layBox_270 : decode b_Mo_layBox 270 = .ok (.goto 83, 3) := by decide +kernel
theorem d_Mo_layBox_273 : decode b_Mo_layBox 273 = .ok (.aload_n 0, 1) := by decide +kernel
theorem d_Mo_layBox_274 : decode b_Mo_layBox 274 = .ok (.getfield 7, 3) := by decide +kernel
theorem d_Mo_layBox_277 : decode b_Mo_layBox 277 = .ok (.iload 7, 2) := by decide +kernel
theorem d_Mo_layBox_279 : decode b_Mo_layBox 279 = .ok (.iaload, 1) := by decide +kernel
theorem d_Mo_layBox_280 : decode b_Mo_layBox 280 = .ok (.iconst 4, 1) := by decide +kernel
theorem d_Mo_layBox_281 : decode b_Mo_layBox 281 = .ok (.if_icmp .ne 72, 3) := by decide +kernel
theorem d_Mo_layBox_284 : decode b_Mo_layBox 284 = .ok (.aload_n 0, 1) := by decide +kernel
theorem d_Mo_layBox_285 : decode b_Mo_layBox 285 = .ok (.iload 7, 2) := by decide +kernel
theorem d_Mo_layBox_287 : decode b_Mo_layBox 287 = .ok (.iconst 0, 1) := by decide +kernel
theorem d_Mo_layBox_288 : decode b_Mo_layBox 288 = .ok (.invokevirtual 105, 3) := by decide +kernel
theorem d_Mo_layBox_291 : decode b_Mo_layBox 291 = .ok (.istore 14, 2) := by decide +kernel
theorem d_Mo_layBox_293 : decode b_Mo_layBox 293 = .ok (.aload_n 0, 1) := by decide +kernel
theorem d_Mo_layBox_294 : decode b_Mo_layBox 294 = .ok (.iload 7, 2) := by decide +kernel
theorem d_Mo_layBox_296 : decode b_Mo_layBox 296 = .ok (.iconst 1, 1) := by decide +kernel
theorem d_Mo_layBox_297 : decode b_Mo_layBox 297 = .ok (.invokevirtual 105, 3) := by decide +kernel
theorem d_Mo_layBox_300 : decode b_Mo_layBox 300 = .ok (.istore 15, 2) := by decide +kernel
theorem d_Mo_layBox_302 : decode b_Mo_layBox 302 = .ok (.aload_n 0, 1) := by decide +kernel
theorem d_Mo_layBox_303 : decode b_Mo_layBox 303 = .ok (.getfield 20, 3) := by decide +kernel
theorem d_Mo_layBox_306 : decode b_Mo_layBox 306 = .ok (.iload_n 1, 1) := by decide +kernel
theorem d_Mo_layBox_307 : decode b_Mo_layBox 307 = .ok (.baload, 1) := by decide +kernel
theorem d_Mo_layBox_308 : decode b_Mo_layBox 308 = .ok (.ifCond .eq 29, 3) := by decide +kernel
theorem d_Mo_layBox_311 : decode b_Mo_layBox 311 = .ok (.aload_n 0, 1) := by decide +kernel
theorem d_Mo_layBox_312 : decode b_Mo_layBox 312 = .ok (.iload 14, 2) := by decide +kernel
theorem d_Mo_layBox_314 : decode b_Mo_layBox 314 = .ok (.lload 10, 2) := by decide +kernel
theorem d_Mo_layBox_316 : decode b_Mo_layBox 316 = .ok (.iload 15, 2) := by decide +kernel
theorem d_Mo_layBox_318 : decode b_Mo_layBox 318 = .ok (.i2l, 1) := by decide +kernel
theorem d_Mo_layBox_319 : decode b_Mo_layBox 319 = .ok (.ladd, 1) := by decide +kernel
theorem d_Mo_layBox_320 : decode b_Mo_layBox 320 = .ok (.lload 12, 2) := by decide +kernel
theorem d_Mo_layBox_322 : decode b_Mo_layBox 322 = .ok (.aload_n 0, 1) := by decide +kernel
theorem d_Mo_layBox_323 : decode b_Mo_layBox 323 = .ok (.getfield 27, 3) := by decide +kernel
theorem d_Mo_layBox_326 : decode b_Mo_layBox 326 = .ok (.iload 14, 2) := by decide +kernel
theorem d_Mo_layBox_328 : decode b_Mo_layBox 328 = .ok (.iaload, 1) := by decide +kernel
theorem d_Mo_layBox_329 : decode b_Mo_layBox 329 = .ok (.i2l, 1) := by decide +kernel
theorem d_Mo_layBox_330 : decode b_Mo_layBox 330 = .ok (.ladd, 1) := by decide +kernel
theorem d_Mo_layBox_331 : decode b_Mo_layBox 331 = .ok (.invokevirtual 201, 3) := by decide +kernel
theorem d_Mo_layBox_334 : decode b_Mo_layBox 334 = .ok (.goto 17, 3) := by decide +kernel
theorem d_Mo_layBox_337 : decode b_Mo_layBox 337 = .ok (.aload_n 0, 1) := by decide +kernel
theorem d_Mo_layBox_338 : decode b_Mo_layBox 338 = .ok (.iload 14, 2) := by decide +kernel
theorem d_Mo_layBox_340 : decode b_Mo_layBox 340 = .ok (.lload 10, 2) := by decide +kernel
theorem d_Mo_layBox_342 : decode b_Mo_layBox 342 = .ok (.lload 12, 2) := by decide +kernel
theorem d_Mo_layBox_344 : decode b_Mo_layBox 344 = .ok (.iload 15, 2) := by decide +kernel
theorem d_Mo_layBox_346 : decode b_Mo_layBox 346 = .ok (.i2l, 1) := by decide +kernel
theorem d_Mo_layBox_347 : decode b_Mo_layBox 347 = .ok (.ladd, 1) := by decide +kernel
theorem d_Mo_layBox_348 : decode b_Mo_layBox 348 = .ok (.invokevirtual 201, 3) := by decide +kernel
theorem d_Mo_layBox_351 : decode b_Mo_layBox 351 = .ok (.istore 6, 2) := by decide +kernel
theorem d_Mo_layBox_353 : decode b_Mo_layBox 353 = .ok (.iinc 7 1, 3) := by decide +kernel
theorem d_Mo_layBox_356 : decode b_Mo_layBox 356 = .ok (.goto (-345), 3) := by decide +kernel
theorem d_Mo_layBox_359 : decode b_Mo_layBox 359 = .ok (.iload 6, 2) := by decide +kernel
theorem d_Mo_layBox_361 : decode b_Mo_layBox 361 = .ok (.ireturn, 1) := by decide +kernel
abbrev b_Mo_lay : ByteArray := prog_8_method_38_code
def y_Mo_lay : MethodName := ⟨"BoxPackerModel", "lay", "(III)I"⟩
theorem d_Mo_lay_0 : decode b_Mo_lay 0 = .ok (.aload_n 0, 1) := by decide +kernel
theorem d_Mo_lay_1 : decode b_Mo_lay 1 = .ok (.aload_n 0, 1) := by decide +kernel
theorem d_Mo_lay_2 : decode b_Mo_lay 2 = .ok (.iload_n 1, 1) := by decide +kernel
theorem d_Mo_lay_3 : decode b_Mo_lay 3 = .ok (.invokevirtual 102, 3) := by decide +kernel
theorem d_Mo_lay_6 : decode b_Mo_lay 6 = .ok (.ifCond .ne 7, 3) := by decide +kernel
theorem d_Mo_lay_9 : decode b_Mo_lay 9 = .ok (.iconst 1, 1) := by decide +kernel
theorem d_Mo_lay_10 : decode b_Mo_lay 10 = .ok (.goto 24, 3) := by decide +kernel
theorem d_Mo_lay_13 : decode b_Mo_lay 13 = .ok (.iload_n 2, 1) := by decide +kernel
theorem d_Mo_lay_14 : decode b_Mo_lay 14 = .ok (.i2l, 1) := by decide +kernel
theorem d_Mo_lay_15 : decode b_Mo_lay 15 = .ok (.invokestatic 79, 3) := by decide +kernel
theorem d_Mo_lay_18 : decode b_Mo_lay 18 = .ok (.ifCond .eq 11, 3) := by decide +kernel
theorem d_Mo_lay_21 : decode b_Mo_lay 21 = .ok (.iload_n 3, 1) := by decide +kernel
theorem d_Mo_lay_22 : decode b_Mo_lay 22 = .ok (.i2l, 1) := by decide +kernel
theorem d_Mo_lay_23 : decode b_Mo_lay 23 = .ok (.invokestatic 79, 3) := by decide +kernel
theorem d_Mo_lay_26 : decode b_Mo_lay 26 = .ok (.ifCond .ne 7, 3) := by decide +kernel
theorem d_Mo_lay_29 : decode b_Mo_lay 29 = .ok (.iconst 2, 1) := by decide +kernel
theorem d_Mo_lay_30 : decode b_Mo_lay 30 = .ok (.goto 4, 3) := by decide +kernel
theorem d_Mo_lay_33 : decode b_Mo_lay 33 = .ok (.iconst 0, 1) := by decide +kernel
theorem d_Mo_lay_34 : decode b_Mo_lay 34 = .ok (.putfield 64, 3) := by decide +kernel
theorem d_Mo_lay_37 : decode b_Mo_lay 37 = .ok (.aload_n 0, 1) := by decide +kernel
theorem d_Mo_lay_38 : decode b_Mo_lay 38 = .ok (.getfield 64, 3) := by decide +kernel
theorem d_Mo_lay_41 : decode b_Mo_lay 41 = .ok (.ifCond .le 5, 3) := by decide +kernel
theorem d_Mo_lay_44 : decode b_Mo_lay 44 = .ok (.iconst 0, 1) := by decide +kernel
theorem d_Mo_lay_45 : decode b_Mo_lay 45 = .ok (.ireturn, 1) := by decide +kernel
theorem d_Mo_lay_46 : decode b_Mo_lay 46 = .ok (.aload_n 0, 1) := by decide +kernel
theorem d_Mo_lay_47 : decode b_Mo_lay 47 = .ok (.iconst 0, 1) := by decide +kernel
theorem d_Mo_lay_48 : decode b_Mo_lay 48 = .ok (.putfield 190, 3) := by decide +kernel
theorem d_Mo_lay_51 : decode b_Mo_lay 51 = .ok (.aload_n 0, 1) := by decide +kernel
theorem d_Mo_lay_52 : decode b_Mo_lay 52 = .ok (.getfield 51, 3) := by decide +kernel
theorem d_Mo_lay_55 : decode b_Mo_lay 55 = .ok (.iload_n 1, 1) := by decide +kernel
theorem d_Mo_lay_56 : decode b_Mo_lay 56 = .ok (.iaload, 1) := by decide +kernel
theorem d_Mo_lay_57 : decode b_Mo_lay 57 = .ok (.sipush 20000, 3) := by decide +kernel
theorem d_Mo_lay_60 : decode b_Mo_lay 60 = .ok (.if_icmp .gt 15, 3) := by decide +kernel
theorem d_Mo_lay_63 : decode b_Mo_lay 63 = .ok (.aload_n 0, 1) := by decide +kernel
theorem d_Mo_lay_64 : decode b_Mo_lay 64 = .ok (.iload_n 1, 1) := by decide +kernel
theorem d_Mo_lay_65 : decode b_Mo_lay 65 = .ok (.iload_n 2, 1) := by decide +kernel
theorem d_Mo_lay_66 : decode b_Mo_lay 66 = .ok (.i2l, 1) := by decide +kernel
theorem d_Mo_lay_67 : decode b_Mo_lay 67 = .ok (.iload_n 3, 1) := by decide +kernel
theorem d_Mo_lay_68 : decode b_Mo_lay 68 = .ok (.i2l, 1) := by decide +kernel
theorem d_Mo_lay_69 : decode b_Mo_lay 69 = .ok (.invokevirtual 201, 3) := by decide +kernel
theorem d_Mo_lay_72 : decode b_Mo_lay 72 = .ok (.ifCond .ne 10, 3) := by decide +kernel
theorem d_Mo_lay_75 : decode b_Mo_lay 75 = .ok (.aload_n 0, 1) := by decide +kernel
theorem d_Mo_lay_76 : decode b_Mo_lay 76 = .ok (.iconst 0, 1) := by decide +kernel
theorem d_Mo_lay_77 : decode b_Mo_lay 77 = .ok (.putfield 190, 3) := by decide +kernel
theorem d_Mo_lay_80 : decode b_Mo_lay 80 = .ok (.iconst (-1), 1) := by decide +kernel
theorem d_Mo_lay_81 : decode b_Mo_lay 81 = .ok (.ireturn, 1) := by decide +kernel
theorem d_Mo_lay_82 : decode b_Mo_lay 82 = .ok (.aload_n 0, 1) := by decide +kernel
theorem d_Mo_lay_83 : decode b_Mo_lay 83 = .ok (.getfield 190, 3) := by decide +kernel
theorem d_Mo_lay_86 : decode b_Mo_lay 86 = .ok (.ireturn, 1) := by decide +kernel
abbrev b_Mo_mark : ByteArray := prog_8_method_39_code
def y_Mo_mark : MethodName := ⟨"BoxPackerModel", "mark", "(II)J"⟩
theorem d_Mo_mark_0 : decode b_Mo_mark 0 = .ok (.aload_n 0, 1) := by decide +kernel
theorem d_Mo_mark_1 : decode b_Mo_mark 1 = .ok (.iload_n 1, 1) := by decide +kernel
theorem d_Mo_mark_2 : decode b_Mo_mark 2 = .ok (.ifCond .lt 20, 3) := by decide +kernel
theorem d_Mo_mark_5 : decode b_Mo_mark 5 = .ok (.iload_n 1, 1) := by decide +kernel
theorem d_Mo_mark_6 : decode b_Mo_mark 6 = .ok (.aload_n 0, 1) := by decide +kernel
theorem d_Mo_mark_7 : decode b_Mo_mark 7 = .ok (.getfield 190, 3) := by decide +kernel
theorem d_Mo_mark_10 : decode b_Mo_mark 10 = .ok (.if_icmp .ge 12, 3) := by decide +kernel
theorem d_Mo_mark_13 : decode b_Mo_mark 13 = .ok (.iload_n 2, 1) := by decide +kernel
theorem d_Mo_mark_14 : decode b_Mo_mark 14 = .ok (.ifCond .lt 8, 3) := by decide +kernel
theorem d_Mo_mark_17 : decode b_Mo_mark 17 = .ok (.iload_n 2, 1) := by decide +kernel
theorem d_Mo_mark_18 : decode b_Mo_mark 18 = .ok (.iconst 5, 1) := by decide +kernel
theorem d_Mo_mark_19 : decode b_Mo_mark 19 = .ok (.if_icmp .le 7, 3) := by decide +kernel
theorem d_Mo_mark_22 : decode b_Mo_mark 22 = .ok (.iconst 1, 1) := by decide +kernel
theorem d_Mo_mark_23 : decode b_Mo_mark 23 = .ok (.goto 4, 3) := by decide +kernel
theorem d_Mo_mark_26 : decode b_Mo_mark 26 = .ok (.iconst 0, 1) := by decide +kernel
theorem d_Mo_mark_27 : decode b_Mo_mark 27 = .ok (.putfield 64, 3) := by decide +kernel
theorem d_Mo_mark_30 : decode b_Mo_mark 30 = .ok (.aload_n 0, 1) := by decide +kernel
theorem d_Mo_mark_31 : decode b_Mo_mark 31 = .ok (.getfield 64, 3) := by decide +kernel
theorem d_Mo_mark_34 : decode b_Mo_mark 34 = .ok (.ifCond .le 7, 3) := by decide +kernel
theorem d_Mo_mark_37 : decode b_Mo_mark 37 = .ok (.lconst 0, 1) := by decide +kernel
theorem d_Mo_mark_38 : decode b_Mo_mark 38 = .ok (.goto 14, 3) := by decide +kernel
theorem d_Mo_mark_41 : decode b_Mo_mark 41 = .ok (.aload_n 0, 1) := by decide +kernel
theorem d_Mo_mark_42 : decode b_Mo_mark 42 = .ok (.getfield 61, 3) := by decide +kernel
theorem d_Mo_mark_45 : decode b_Mo_mark 45 = .ok (.bipush 6, 2) := by decide +kernel
theorem d_Mo_mark_47 : decode b_Mo_mark 47 = .ok (.iload_n 1, 1) := by decide +kernel
theorem d_Mo_mark_48 : decode b_Mo_mark 48 = .ok (.imul, 1) := by decide +kernel
theorem d_Mo_mark_49 : decode b_Mo_mark 49 = .ok (.iload_n 2, 1) := by decide +kernel
theorem d_Mo_mark_50 : decode b_Mo_mark 50 = .ok (.iadd, 1) := by decide +kernel
theorem d_Mo_mark_51 : decode b_Mo_mark 51 = .ok (.laload, 1) := by decide +kernel
theorem d_Mo_mark_52 : decode b_Mo_mark 52 = .ok (.lreturn, 1) := by decide +kernel
