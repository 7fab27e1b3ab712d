abbrev b_Box_init : ByteArray := prog_2_method_1_code
def y_Box_init : MethodName := ⟨"BoxPacker$Box", "<init>", "(Z[LBoxPacker$Item;I)V"⟩
theorem d_Box_init_0 : decode b_Box_init 0 = .ok (.aload_n 0, 1) := by decide +kernel
theorem d_Box_init_1 : decode b_Box_init 1 = .ok (.invokespecial 3, 3) := by decide +kernel
theorem d_Box_init_4 : decode b_Box_init 4 = .ok (.aload_n 0, 1) := by decide +kernel
theorem d_Box_init_5 : decode b_Box_init 5 = .ok (.iconst 0, 1) := by decide +kernel
theorem d_Box_init_6 : decode b_Box_init 6 = .ok (.putfield 9, 3) := by decide +kernel
theorem d_Box_init_9 : decode b_Box_init 9 = .ok (.aload_n 0, 1) := by decide +kernel
theorem d_Box_init_10 : decode b_Box_init 10 = .ok (.iconst 0, 1) := by decide +kernel
theorem d_Box_init_11 : decode b_Box_init 11 = .ok (.putfield 15, 3) := by decide +kernel
theorem d_Box_init_14 : decode b_Box_init 14 = .ok (.aload_n 0, 1) := by decide +kernel
theorem d_Box_init_15 : decode b_Box_init 15 = .ok (.iconst 0, 1) := by decide +kernel
theorem d_Box_init_16 : decode b_Box_init 16 = .ok (.putfield 18, 3) := by decide +kernel
theorem d_Box_init_19 : decode b_Box_init 19 = .ok (.aload_n 0, 1) := by decide +kernel
theorem d_Box_init_20 : decode b_Box_init 20 = .ok (.iconst 0, 1) := by decide +kernel
theorem d_Box_init_21 : decode b_Box_init 21 = .ok (.putfield 21, 3) := by decide +kernel
theorem d_Box_init_24 : decode b_Box_init 24 = .ok (.aload_n 0, 1) := by decide +kernel
theorem d_Box_init_25 : decode b_Box_init 25 = .ok (.iconst 0, 1) := by decide +kernel
theorem d_Box_init_26 : decode b_Box_init 26 = .ok (.putfield 24, 3) := by decide +kernel
theorem d_Box_init_29 : decode b_Box_init 29 = .ok (.aload_n 0, 1) := by decide +kernel
theorem d_Box_init_30 : decode b_Box_init 30 = .ok (.iconst 0, 1) := by decide +kernel
theorem d_Box_init_31 : decode b_Box_init 31 = .ok (.putfield 27, 3) := by decide +kernel
theorem d_Box_init_34 : decode b_Box_init 34 = .ok (.aload_n 0, 1) := by decide +kernel
theorem d_Box_init_35 : decode b_Box_init 35 = .ok (.iconst 0, 1) := by decide +kernel
theorem d_Box_init_36 : decode b_Box_init 36 = .ok (.putfield 30, 3) := by decide +kernel
theorem d_Box_init_39 : decode b_Box_init 39 = .ok (.aload_n 0, 1) := by decide +kernel
theorem d_Box_init_40 : decode b_Box_init 40 = .ok (.iload_n 1, 1) := by decide +kernel
theorem d_Box_init_41 : decode b_Box_init 41 = .ok (.putfield 33, 3) := by decide +kernel
theorem d_Box_init_44 : decode b_Box_init 44 = .ok (.aload_n 0, 1) := by decide +kernel
theorem d_Box_init_45 : decode b_Box_init 45 = .ok (.iload_n 3, 1) := by decide +kernel
theorem d_Box_init_46 : decode b_Box_init 46 = .ok (.anewarray 37, 3) := by decide +kernel
theorem d_Box_init_49 : decode b_Box_init 49 = .ok (.putfield 39, 3) := by decide +kernel
theorem d_Box_init_52 : decode b_Box_init 52 = .ok (.aload_n 0, 1) := by decide +kernel
theorem d_Box_init_53 : decode b_Box_init 53 = .ok (.iload_n 3, 1) := by decide +kernel
theorem d_Box_init_54 : decode b_Box_init 54 = .ok (.newarray .int, 2) := by decide +kernel
theorem d_Box_init_56 : decode b_Box_init 56 = .ok (.putfield 43, 3) := by decide +kernel
theorem d_Box_init_59 : decode b_Box_init 59 = .ok (.iconst 1, 1) := by decide +kernel
theorem d_Box_init_60 : decode b_Box_init 60 = .ok (.istore 4, 2) := by decide +kernel
theorem d_Box_init_62 : decode b_Box_init 62 = .ok (.iload_n 3, 1) := by decide +kernel
theorem d_Box_init_63 : decode b_Box_init 63 = .ok (.istore 5, 2) := by decide +kernel
theorem d_Box_init_65 : decode b_Box_init 65 = .ok (.iconst 0, 1) := by decide +kernel
theorem d_Box_init_66 : decode b_Box_init 66 = .ok (.istore 6, 2) := by decide +kernel
theorem d_Box_init_68 : decode b_Box_init 68 = .ok (.iload 6, 2) := by decide +kernel
theorem d_Box_init_70 : decode b_Box_init 70 = .ok (.iload_n 3, 1) := by decide +kernel
theorem d_Box_init_71 : decode b_Box_init 71 = .ok (.if_icmp .ge 84, 3) := by decide +kernel
theorem d_Box_init_74 : decode b_Box_init 74 = .ok (.aload_n 0, 1) := by decide +kernel
theorem d_Box_init_75 : decode b_Box_init 75 = .ok (.getfield 39, 3) := by decide +kernel
theorem d_Box_init_78 : decode b_Box_init 78 = .ok (.iload 6, 2) := by decide +kernel
theorem d_Box_init_80 : decode b_Box_init 80 = .ok (.aload_n 2, 1) := by decide +kernel
theorem d_Box_init_81 : decode b_Box_init 81 = .ok (.iload 6, 2) := by decide +kernel
theorem d_Box_init_83 : decode b_Box_init 83 = .ok (.aaload, 1) := by decide +kernel
theorem d_Box_init_84 : decode b_Box_init 84 = .ok (.aastore, 1) := by decide +kernel
theorem d_Box_init_85 : decode b_Box_init 85 = .ok (.aload_n 2, 1) := by decide +kernel
theorem d_Box_init_86 : decode b_Box_init 86 = .ok (.iload 6, 2) := by decide +kernel
theorem d_Box_init_88 : decode b_Box_init 88 = .ok (.aaload, 1) := by decide +kernel
theorem d_Box_init_89 : decode b_Box_init 89 = .ok (.astore 8, 2) := by decide +kernel
theorem d_Box_init_91 : decode b_Box_init 91 = .ok (.aload 8, 2) := by decide +kernel
theorem d_Box_init_93 : decode b_Box_init 93 = .ok (.instanceof 47, 3) := by decide +kernel
theorem d_Box_init_96 : decode b_Box_init 96 = .ok (.ifCond .eq 53, 3) := by decide +kernel
theorem d_Box_init_99 : decode b_Box_init 99 = .ok (.aload 8, 2) := by decide +kernel
theorem d_Box_init_101 : decode b_Box_init 101 = .ok (.checkcast 47, 3) := by decide +kernel
theorem d_Box_init_104 : decode b_Box_init 104 = .ok (.astore 7, 2) := by decide +kernel
theorem d_Box_init_106 : decode b_Box_init 106 = .ok (.aload 7, 2) := by decide +kernel
theorem d_Box_init_108 : decode b_Box_init 108 = .ok (.getfield 49, 3) := by decide +kernel
theorem d_Box_init_111 : decode b_Box_init 111 = .ok (.ifnull 38, 3) := by decide +kernel
theorem d_Box_init_114 : decode b_Box_init 114 = .ok (.iload 4, 2) := by decide +kernel
theorem d_Box_init_116 : decode b_Box_init 116 = .ok (.aload 7, 2) := by decide +kernel
theorem d_Box_init_118 : decode b_Box_init 118 = .ok (.getfield 49, 3) := by decide +kernel
theorem d_Box_init_121 : decode b_Box_init 121 = .ok (.getfield 53, 3) := by decide +kernel
theorem d_Box_init_124 : decode b_Box_init 124 = .ok (.iconst 1, 1) := by decide +kernel
theorem d_Box_init_125 : decode b_Box_init 125 = .ok (.iadd, 1) := by decide +kernel
theorem d_Box_init_126 : decode b_Box_init 126 = .ok (.invokestatic 56, 3) := by decide +kernel
theorem d_Box_init_129 : decode b_Box_init 129 = .ok (.istore 4, 2) := by decide +kernel
theorem d_Box_init_131 : decode b_Box_init 131 = .ok (.ldc 62, 2) := by decide +kernel
theorem d_Box_init_133 : decode b_Box_init 133 = .ok (.iload 5, 2) := by decide +kernel
theorem d_Box_init_135 : decode b_Box_init 135 = .ok (.aload 7, 2) := by decide +kernel
theorem d_Box_init_137 : decode b_Box_init 137 = .ok (.getfield 49, 3) := by decide +kernel
theorem d_Box_init_140 : decode b_Box_init 140 = .ok (.getfield 63, 3) := by decide +kernel
theorem d_Box_init_143 : decode b_Box_init 143 = .ok (.iadd, 1) := by decide +kernel
theorem d_Box_init_144 : decode b_Box_init 144 = .ok (.invokestatic 66, 3) := by decide +kernel
theorem d_Box_init_147 : decode b_Box_init 147 = .ok (.istore 5, 2) := by decide +kernel
theorem d_Box_init_149 : decode b_Box_init 149 = .ok (.iinc 6 1, 3) := by decide +kernel
theorem d_Box_init_152 : decode b_Box_init 152 = .ok (.goto (-84), 3) := by decide +kernel
theorem d_Box_init_155 : decode b_Box_init 155 = .ok (.aload_n 0, 1) := by decide +kernel
theorem d_Box_init_156 : decode b_Box_init 156 = .ok (.iload 4, 2) := by decide +kernel
theorem d_Box_init_158 : decode b_Box_init 158 = .ok (.putfield 53, 3) := by decide +kernel
theorem d_Box_init_161 : decode b_Box_init 161 = .ok (.aload_n 0, 1) := by decide +kernel
theorem d_Box_init_162 : decode b_Box_init 162 = .ok (.iload 5, 2) := by decide +kernel
theorem d_Box_init_164 : decode b_Box_init 164 = .ok (.putfield 63, 3) := by decide +kernel
theorem d_Box_init_167 : decode b_Box_init 167 = .ok (.return_, 1) := by decide +kernel
abbrev b_Box_fit : ByteArray := prog_2_method_2_code
def y_Box_fit : MethodName := ⟨"BoxPacker$Box", "fit", "(III)V"⟩
theorem d_Box_fit_0 : decode b_Box_fit 0 = .ok (.aload_n 0, 1) := by decide +kernel
theorem d_Box_fit_1 : decode b_Box_fit 1 = .ok (.getfield 33, 3) := by decide +kernel
theorem d_Box_fit_4 : decode b_Box_fit 4 = .ok (.ifCond .eq 11, 3) := by decide +kernel
theorem d_Box_fit_7 : decode b_Box_fit 7 = .ok (.aload_n 0, 1) := by decide +kernel
theorem d_Box_fit_8 : decode b_Box_fit 8 = .ok (.iload_n 3, 1) := by decide +kernel
theorem d_Box_fit_9 : decode b_Box_fit 9 = .ok (.invokevirtual 69, 3) := by decide +kernel
theorem d_Box_fit_12 : decode b_Box_fit 12 = .ok (.goto 7, 3) := by decide +kernel
theorem d_Box_fit_15 : decode b_Box_fit 15 = .ok (.aload_n 0, 1) := by decide +kernel
theorem d_Box_fit_16 : decode b_Box_fit 16 = .ok (.invokevirtual 73, 3) := by decide +kernel
theorem d_Box_fit_19 : decode b_Box_fit 19 = .ok (.aload_n 0, 1) := by decide +kernel
theorem d_Box_fit_20 : decode b_Box_fit 20 = .ok (.iconst 0, 1) := by decide +kernel
theorem d_Box_fit_21 : decode b_Box_fit 21 = .ok (.invokevirtual 76, 3) := by decide +kernel
theorem d_Box_fit_24 : decode b_Box_fit 24 = .ok (.astore 4, 2) := by decide +kernel
theorem d_Box_fit_26 : decode b_Box_fit 26 = .ok (.aload_n 0, 1) := by decide +kernel
theorem d_Box_fit_27 : decode b_Box_fit 27 = .ok (.iconst 1, 1) := by decide +kernel
theorem d_Box_fit_28 : decode b_Box_fit 28 = .ok (.invokevirtual 76, 3) := by decide +kernel
theorem d_Box_fit_31 : decode b_Box_fit 31 = .ok (.astore 5, 2) := by decide +kernel
theorem d_Box_fit_33 : decode b_Box_fit 33 = .ok (.aload_n 0, 1) := by decide +kernel
theorem d_Box_fit_34 : decode b_Box_fit 34 = .ok (.iload_n 1, 1) := by decide +kernel
theorem d_Box_fit_35 : decode b_Box_fit 35 = .ok (.iload_n 2, 1) := by decide +kernel
theorem d_Box_fit_36 : decode b_Box_fit 36 = .ok (.invokevirtual 80, 3) := by decide +kernel
theorem d_Box_fit_39 : decode b_Box_fit 39 = .ok (.aload_n 0, 1) := by decide +kernel
theorem d_Box_fit_40 : decode b_Box_fit 40 = .ok (.getfield 21, 3) := by decide +kernel
theorem d_Box_fit_43 : decode b_Box_fit 43 = .ok (.ifCond .le 12, 3) := by decide +kernel
theorem d_Box_fit_46 : decode b_Box_fit 46 = .ok (.aload_n 0, 1) := by decide +kernel
theorem d_Box_fit_47 : decode b_Box_fit 47 = .ok (.aload 4, 2) := by decide +kernel
theorem d_Box_fit_49 : decode b_Box_fit 49 = .ok (.invokevirtual 84, 3) := by decide +kernel
theorem d_Box_fit_52 : decode b_Box_fit 52 = .ok (.goto 16, 3) := by decide +kernel
theorem d_Box_fit_55 : decode b_Box_fit 55 = .ok (.aload_n 0, 1) := by decide +kernel
theorem d_Box_fit_56 : decode b_Box_fit 56 = .ok (.getfield 21, 3) := by decide +kernel
theorem d_Box_fit_59 : decode b_Box_fit 59 = .ok (.ifCond .ge 9, 3) := by decide +kernel
theorem d_Box_fit_62 : decode b_Box_fit 62 = .ok (.aload_n 0, 1) := by decide +kernel
theorem d_Box_fit_63 : decode b_Box_fit 63 = .ok (.aload 5, 2) := by decide +kernel
theorem d_Box_fit_65 : decode b_Box_fit 65 = .ok (.invokevirtual 84, 3) := by decide +kernel
theorem d_Box_fit_68 : decode b_Box_fit 68 = .ok (.aload_n 0, 1) := by decide +kernel
theorem d_Box_fit_69 : decode b_Box_fit 69 = .ok (.getfield 21, 3) := by decide +kernel
theorem d_Box_fit_72 : decode b_Box_fit 72 = .ok (.ifCond .ge 36, 3) := by decide +kernel
theorem d_Box_fit_75 : decode b_Box_fit 75 = .ok (.aload_n 0, 1) := by decide +kernel
theorem d_Box_fit_76 : decode b_Box_fit 76 = .ok (.getfield 24, 3) := by decide +kernel
theorem d_Box_fit_79 : decode b_Box_fit 79 = .ok (.ifCond .ne 29, 3) := by decide +kernel
theorem d_Box_fit_82 : decode b_Box_fit 82 = .ok (.aload_n 0, 1) := by decide +kernel
theorem d_Box_fit_83 : decode b_Box_fit 83 = .ok (.getfield 27, 3) := by decide +kernel
theorem d_Box_fit_86 : decode b_Box_fit 86 = .ok (.aload_n 0, 1) := by decide +kernel
theorem d_Box_fit_87 : decode b_Box_fit 87 = .ok (.getfield 21, 3) := by decide +kernel
theorem d_Box_fit_90 : decode b_Box_fit 90 = .ok (.ineg, 1) := by decide +kernel
theorem d_Box_fit_91 : decode b_Box_fit 91 = .ok (.if_icmp .ge 17, 3) := by decide +kernel
theorem d_Box_fit_94 : decode b_Box_fit 94 = .ok (.aload_n 0, 1) := by decide +kernel
theorem d_Box_fit_95 : decode b_Box_fit 95 = .ok (.aload_n 0, 1) := by decide +kernel
theorem d_Box_fit_96 : decode b_Box_fit 96 = .ok (.getfield 21, 3) := by decide +kernel
theorem d_Box_fit_99 : decode b_Box_fit 99 = .ok (.ineg, 1) := by decide +kernel
theorem d_Box_fit_100 : decode b_Box_fit 100 = .ok (.aload_n 0, 1) := by decide +kernel
theorem d_Box_fit_101 : decode b_Box_fit 101 = .ok (.getfield 27, 3) := by decide +kernel
theorem d_Box_fit_104 : decode b_Box_fit 104 = .ok (.isub, 1) := by decide +kernel
theorem d_Box_fit_105 : decode b_Box_fit 105 = .ok (.putfield 30, 3) := by decide +kernel
theorem d_Box_fit_108 : decode b_Box_fit 108 = .ok (.aload_n 0, 1) := by decide +kernel
theorem d_Box_fit_109 : decode b_Box_fit 109 = .ok (.invokevirtual 88, 3) := by decide +kernel
theorem d_Box_fit_112 : decode b_Box_fit 112 = .ok (.return_, 1) := by decide +kernel
abbrev b_Box_measureAlong : ByteArray := prog_2_method_3_code
def y_Box_measureAlong : MethodName := ⟨"BoxPacker$Box", "measureAlong", "()V"⟩
theorem d_Box_measureAlong_0 : decode b_Box_measureAlong 0 = .ok (.iconst 0, 1) := by decide +kernel
theorem d_Box_measureAlong_1 : decode b_Box_measureAlong 1 = .ok (.istore_n 1, 1) := by decide +kernel
theorem d_Box_measureAlong_2 : decode b_Box_measureAlong 2 = .ok (.iload_n 1, 1) := by decide +kernel
theorem d_Box_measureAlong_3 : decode b_Box_measureAlong 3 = .ok (.aload_n 0, 1) := by decide +kernel
theorem d_Box_measureAlong_4 : decode b_Box_measureAlong 4 = .ok (.getfield 39, 3) := by decide +kernel
theorem d_Box_measureAlong_7 : decode b_Box_measureAlong 7 = .ok (.arraylength, 1) := by decide +kernel
theorem d_Box_measureAlong_8 : decode b_Box_measureAlong 8 = .ok (.if_icmp .ge 158, 3) := by decide +kernel
theorem d_Box_measureAlong_11 : decode b_Box_measureAlong 11 = .ok (.aload_n 0, 1) := by decide +kernel
theorem d_Box_measureAlong_12 : decode b_Box_measureAlong 12 = .ok (.getfield 43, 3) := by decide +kernel
theorem d_Box_measureAlong_15 : decode b_Box_measureAlong 15 = .ok (.iload_n 1, 1) := by decide +kernel
theorem d_Box_measureAlong_16 : decode b_Box_measureAlong 16 = .ok (.aload_n 0, 1) := by decide +kernel
theorem d_Box_measureAlong_17 : decode b_Box_measureAlong 17 = .ok (.getfield 9, 3) := by decide +kernel
theorem d_Box_measureAlong_20 : decode b_Box_measureAlong 20 = .ok (.iastore, 1) := by decide +kernel
theorem d_Box_measureAlong_21 : decode b_Box_measureAlong 21 = .ok (.aload_n 0, 1) := by decide +kernel
theorem d_Box_measureAlong_22 : decode b_Box_measureAlong 22 = .ok (.getfield 39, 3) := by decide +kernel
theorem d_Box_measureAlong_25 : decode b_Box_measureAlong 25 = .ok (.iload_n 1, 1) := by decide +kernel
theorem d_Box_measureAlong_26 : decode b_Box_measureAlong 26 = .ok (.aaload, 1) := by decide +kernel
theorem d_Box_measureAlong_27 : decode b_Box_measureAlong 27 = .ok (.astore 4, 2) := by decide +kernel
theorem d_Box_measureAlong_29 : decode b_Box_measureAlong 29 = .ok (.aload 4, 2) := by decide +kernel
theorem d_Box_measureAlong_31 : decode b_Box_measureAlong 31 = .ok (.instanceof 47, 3) := by decide +kernel
theorem d_Box_measureAlong_34 : decode b_Box_measureAlong 34 = .ok (.ifCond .eq 87, 3) := by decide +kernel
theorem d_Box_measureAlong_37 : decode b_Box_measureAlong 37 = .ok (.aload 4, 2) := by decide +kernel
theorem d_Box_measureAlong_39 : decode b_Box_measureAlong 39 = .ok (.checkcast 47, 3) := by decide +kernel
theorem d_Box_measureAlong_42 : decode b_Box_measureAlong 42 = .ok (.astore_n 2, 1) := by decide +kernel
theorem d_Box_measureAlong_43 : decode b_Box_measureAlong 43 = .ok (.aload_n 0, 1) := by decide +kernel
theorem d_Box_measureAlong_44 : decode b_Box_measureAlong 44 = .ok (.aload_n 0, 1) := by decide +kernel
theorem d_Box_measureAlong_45 : decode b_Box_measureAlong 45 = .ok (.getfield 9, 3) := by decide +kernel
theorem d_Box_measureAlong_48 : decode b_Box_measureAlong 48 = .ok (.i2l, 1) := by decide +kernel
theorem d_Box_measureAlong_49 : decode b_Box_measureAlong 49 = .ok (.aload_n 2, 1) := by decide +kernel
theorem d_Box_measureAlong_50 : decode b_Box_measureAlong 50 = .ok (.getfield 91, 3) := by decide +kernel
theorem d_Box_measureAlong_53 : decode b_Box_measureAlong 53 = .ok (.invokestatic 92, 3) := by decide +kernel
theorem d_Box_measureAlong_56 : decode b_Box_measureAlong 56 = .ok (.i2l, 1) := by decide +kernel
theorem d_Box_measureAlong_57 : decode b_Box_measureAlong 57 = .ok (.invokestatic 96, 3) := by decide +kernel
theorem d_Box_measureAlong_60 : decode b_Box_measureAlong 60 = .ok (.putfield 9, 3) := by decide +kernel
theorem d_Box_measureAlong_63 : decode b_Box_measureAlong 63 = .ok (.aload_n 0, 1) := by decide +kernel
theorem d_Box_measureAlong_64 : decode b_Box_measureAlong 64 = .ok (.aload_n 0, 1) := by decide +kernel
theorem d_Box_measureAlong_65 : decode b_Box_measureAlong 65 = .ok (.getfield 15, 3) := by decide +kernel
theorem d_Box_measureAlong_68 : decode b_Box_measureAlong 68 = .ok (.aload_n 2, 1) := by decide +kernel
theorem d_Box_measureAlong_69 : decode b_Box_measureAlong 69 = .ok (.getfield 100, 3) := by decide +kernel
theorem d_Box_measureAlong_72 : decode b_Box_measureAlong 72 = .ok (.invokestatic 92, 3) := by decide +kernel
theorem d_Box_measureAlong_75 : decode b_Box_measureAlong 75 = .ok (.i2l, 1) := by decide +kernel
theorem d_Box_measureAlong_76 : decode b_Box_measureAlong 76 = .ok (.aload_n 2, 1) := by decide +kernel
theorem d_Box_measureAlong_77 : decode b_Box_measureAlong 77 = .ok (.getfield 101, 3) := by decide +kernel
theorem d_Box_measureAlong_80 : decode b_Box_measureAlong 80 = .ok (.ineg, 1) := by decide +kernel
theorem d_Box_measureAlong_81 : decode b_Box_measureAlong 81 = .ok (.i2l, 1) := by decide +kernel
theorem d_Box_measureAlong_82 : decode b_Box_measureAlong 82 = .ok (.invokestatic 96, 3) := by decide +kernel
theorem d_Box_measureAlong_85 : decode b_Box_measureAlong 85 = .ok (.invokestatic 56, 3) := by decide +kernel
theorem d_Box_measureAlong_88 : decode b_Box_measureAlong 88 = .ok (.putfield 15, 3) := by decide +kernel
theorem d_Box_measureAlong_91 : decode b_Box_measureAlong 91 = .ok (.aload_n 0, 1) := by decide +kernel
theorem d_Box_measureAlong_92 : decode b_Box_measureAlong 92 = .ok (.aload_n 0, 1) := by decide +kernel
theorem d_Box_measureAlong_93 : decode b_Box_measureAlong 93 = .ok (.getfield 18, 3) := by decide +kernel
theorem d_Box_measureAlong_96 : decode b_Box_measureAlong 96 = .ok (.aload_n 2, 1) := by decide +kernel
theorem d_Box_measureAlong_97 : decode b_Box_measureAlong 97 = .ok (.getfield 104, 3) := by decide +kernel
theorem d_Box_measureAlong_100 : decode b_Box_measureAlong 100 = .ok (.invokestatic 92, 3) := by decide +kernel
theorem d_Box_measureAlong_103 : decode b_Box_measureAlong 103 = .ok (.i2l, 1) := by decide +kernel
theorem d_Box_measureAlong_104 : decode b_Box_measureAlong 104 = .ok (.aload_n 2, 1) := by decide +kernel
theorem d_Box_measureAlong_105 : decode b_Box_measureAlong 105 = .ok (.getfield 101, 3) := by decide +kernel
theorem d_Box_measureAlong_108 : decode b_Box_measureAlong 108 = .ok (.i2l, 1) := by decide +kernel
theorem d_Box_measureAlong_109 : decode b_Box_measureAlong 109 = .ok (.invokestatic 96, 3) := by decide +kernel
theorem d_Box_measureAlong_112 : decode b_Box_measureAlong 112 = .ok (.invokestatic 56, 3) := by decide +kernel
theorem d_Box_measureAlong_115 : decode b_Box_measureAlong 115 = .ok (.putfield 18, 3) := by decide +kernel
theorem d_Box_measureAlong_118 : decode b_Box_measureAlong 118 = .ok (.goto 42, 3) := by decide +kernel
theorem d_Box_measureAlong_121 : decode b_Box_measureAlong 121 = .ok (.aload_n 0, 1) := by decide +kernel
theorem d_Box_measureAlong_122 : decode b_Box_measureAlong 122 = .ok (.getfield 39, 3) := by decide +kernel
theorem d_Box_measureAlong_125 : decode b_Box_measureAlong 125 = .ok (.iload_n 1, 1) := by decide +kernel
theorem d_Box_measureAlong_126 : decode b_Box_measureAlong 126 = .ok (.aaload, 1) := by decide +kernel
theorem d_Box_measureAlong_127 : decode b_Box_measureAlong 127 = .ok (.astore 4, 2) := by decide +kernel
theorem d_Box_measureAlong_129 : decode b_Box_measureAlong 129 = .ok (.aload 4, 2) := by decide +kernel
theorem d_Box_measureAlong_131 : decode b_Box_measureAlong 131 = .ok (.instanceof 105, 3) := by decide +kernel
theorem d_Box_measureAlong_134 : decode b_Box_measureAlong 134 = .ok (.ifCond .eq 26, 3) := by decide +kernel
theorem d_Box_measureAlong_137 : decode b_Box_measureAlong 137 = .ok (.aload 4, 2) := by decide +kernel
theorem d_Box_measureAlong_139 : decode b_Box_measureAlong 139 = .ok (.checkcast 105, 3) := by decide +kernel
theorem d_Box_measureAlong_142 : decode b_Box_measureAlong 142 = .ok (.astore_n 3, 1) := by decide +kernel
theorem d_Box_measureAlong_143 : decode b_Box_measureAlong 143 = .ok (.aload_n 0, 1) := by decide +kernel
theorem d_Box_measureAlong_144 : decode b_Box_measureAlong 144 = .ok (.aload_n 0, 1) := by decide +kernel
theorem d_Box_measureAlong_145 : decode b_Box_measureAlong 145 = .ok (.getfield 9, 3) := by decide +kernel
theorem d_Box_measureAlong_148 : decode b_Box_measureAlong 148 = .ok (.i2l, 1) := by decide +kernel
theorem d_Box_measureAlong_149 : decode b_Box_measureAlong 149 = .ok (.aload_n 3, 1) := by decide +kernel
theorem d_Box_measureAlong_150 : decode b_Box_measureAlong 150 = .ok (.getfield 107, 3) := by decide +kernel
theorem d_Box_measureAlong_153 : decode b_Box_measureAlong 153 = .ok (.i2l, 1) := by decide +kernel
theorem d_Box_measureAlong_154 : decode b_Box_measureAlong 154 = .ok (.invokestatic 96, 3) := by decide +kernel
theorem d_Box_measureAlong_157 : decode b_Box_measureAlong 157 = .ok (.putfield 9, 3) := by decide +kernel
theorem d_Box_measureAlong_160 : decode b_Box_measureAlong 160 = .ok (.iinc 1 1, 3) := by decide +kernel
theorem d_Box_measureAlong_163 : decode b_Box_measureAlong 163 = .ok (.goto (-161), 3) := by decide +kernel
theorem d_Box_measureAlong_166 : decode b_Box_measureAlong 166 = .ok (.return_, 1) := by decide +kernel
abbrev b_Box_measureBelow : ByteArray := prog_2_method_4_code
def y_Box_measureBelow : MethodName := ⟨"BoxPacker$Box", "measureBelow", "(I)V"⟩
theorem d_Box_measureBelow_0 : decode b_Box_measureBelow 0 = .ok (.iconst 0, 1) := by decide +kernel
theorem d_Box_measureBelow_1 : decode b_Box_measureBelow 1 = .ok (.istore_n 2, 1) := by decide +kernel
theorem d_Box_measureBelow_2 : decode b_Box_measureBelow 2 = .ok (.iload_n 2, 1) := by decide +kernel
theorem d_Box_measureBelow_3 : decode b_Box_measureBelow 3 = .ok (.aload_n 0, 1) := by decide +kernel
theorem d_Box_measureBelow_4 : decode b_Box_measureBelow 4 = .ok (.getfield 39, 3) := by decide +kernel
theorem d_Box_measureBelow_7 : decode b_Box_measureBelow 7 = .ok (.arraylength, 1) := by decide +kernel
theorem d_Box_measureBelow_8 : decode b_Box_measureBelow 8 = .ok (.if_icmp .ge 184, 3) := by decide +kernel
theorem d_Box_measureBelow_11 : decode b_Box_measureBelow 11 = .ok (.aload_n 0, 1) := by decide +kernel
theorem d_Box_measureBelow_12 : decode b_Box_measureBelow 12 = .ok (.getfield 39, 3) := by decide +kernel
theorem d_Box_measureBelow_15 : decode b_Box_measureBelow 15 = .ok (.iload_n 2, 1) := by decide +kernel
theorem d_Box_measureBelow_16 : decode b_Box_measureBelow 16 = .ok (.aaload, 1) := by decide +kernel
theorem d_Box_measureBelow_17 : decode b_Box_measureBelow 17 = .ok (.astore 5, 2) := by decide +kernel
theorem d_Box_measureBelow_19 : decode b_Box_measureBelow 19 = .ok (.aload 5, 2) := by decide +kernel
theorem d_Box_measureBelow_21 : decode b_Box_measureBelow 21 = .ok (.instanceof 47, 3) := by decide +kernel
theorem d_Box_measureBelow_24 : decode b_Box_measureBelow 24 = .ok (.ifCond .eq 97, 3) := by decide +kernel
theorem d_Box_measureBelow_27 : decode b_Box_measureBelow 27 = .ok (.aload 5, 2) := by decide +kernel
theorem d_Box_measureBelow_29 : decode b_Box_measureBelow 29 = .ok (.checkcast 47, 3) := by decide +kernel
theorem d_Box_measureBelow_32 : decode b_Box_measureBelow 32 = .ok (.astore_n 3, 1) := by decide +kernel
theorem d_Box_measureBelow_33 : decode b_Box_measureBelow 33 = .ok (.aload_n 0, 1) := by decide +kernel
theorem d_Box_measureBelow_34 : decode b_Box_measureBelow 34 = .ok (.aload_n 0, 1) := by decide +kernel
theorem d_Box_measureBelow_35 : decode b_Box_measureBelow 35 = .ok (.getfield 15, 3) := by decide +kernel
theorem d_Box_measureBelow_38 : decode b_Box_measureBelow 38 = .ok (.i2l, 1) := by decide +kernel
theorem d_Box_measureBelow_39 : decode b_Box_measureBelow 39 = .ok (.aload_n 0, 1) := by decide +kernel
theorem d_Box_measureBelow_40 : decode b_Box_measureBelow 40 = .ok (.getfield 18, 3) := by decide +kernel
theorem d_Box_measureBelow_43 : decode b_Box_measureBelow 43 = .ok (.i2l, 1) := by decide +kernel
theorem d_Box_measureBelow_44 : decode b_Box_measureBelow 44 = .ok (.invokestatic 96, 3) := by decide +kernel
theorem d_Box_measureBelow_47 : decode b_Box_measureBelow 47 = .ok (.putfield 15, 3) := by decide +kernel
theorem d_Box_measureBelow_50 : decode b_Box_measureBelow 50 = .ok (.aload_n 0, 1) := by decide +kernel
theorem d_Box_measureBelow_51 : decode b_Box_measureBelow 51 = .ok (.getfield 43, 3) := by decide +kernel
theorem d_Box_measureBelow_54 : decode b_Box_measureBelow 54 = .ok (.iload_n 2, 1) := by decide +kernel
theorem d_Box_measureBelow_55 : decode b_Box_measureBelow 55 = .ok (.aload_n 0, 1) := by decide +kernel
theorem d_Box_measureBelow_56 : decode b_Box_measureBelow 56 = .ok (.getfield 15, 3) := by decide +kernel
theorem d_Box_measureBelow_59 : decode b_Box_measureBelow 59 = .ok (.iastore, 1) := by decide +kernel
theorem d_Box_measureBelow_60 : decode b_Box_measureBelow 60 = .ok (.aload_n 0, 1) := by decide +kernel
theorem d_Box_measureBelow_61 : decode b_Box_measureBelow 61 = .ok (.aload_n 0, 1) := by decide +kernel
theorem d_Box_measureBelow_62 : decode b_Box_measureBelow 62 = .ok (.getfield 15, 3) := by decide +kernel
theorem d_Box_measureBelow_65 : decode b_Box_measureBelow 65 = .ok (.i2l, 1) := by decide +kernel
theorem d_Box_measureBelow_66 : decode b_Box_measureBelow 66 = .ok (.aload_n 3, 1) := by decide +kernel
theorem d_Box_measureBelow_67 : decode b_Box_measureBelow 67 = .ok (.getfield 100, 3) := by decide +kernel
theorem d_Box_measureBelow_70 : decode b_Box_measureBelow 70 = .ok (.invokestatic 92, 3) := by decide +kernel
theorem d_Box_measureBelow_73 : decode b_Box_measureBelow 73 = .ok (.i2l, 1) := by decide +kernel
theorem d_Box_measureBelow_74 : decode b_Box_measureBelow 74 = .ok (.invokestatic 96, 3) := by decide +kernel
theorem d_Box_measureBelow_77 : decode b_Box_measureBelow 77 = .ok (.putfield 15, 3) := by decide +kernel
theorem d_Box_measureBelow_80 : decode b_Box_measureBelow 80 = .ok (.aload_n 0, 1) := by decide +kernel
theorem d_Box_measureBelow_81 : decode b_Box_measureBelow 81 = .ok (.aload_n 3, 1) := by decide +kernel
theorem d_Box_measureBelow_82 : decode b_Box_measureBelow 82 = .ok (.getfield 104, 3) := by decide +kernel
theorem d_Box_measureBelow_85 : decode b_Box_measureBelow 85 = .ok (.invokestatic 92, 3) := by decide +kernel
theorem d_Box_measureBelow_88 : decode b_Box_measureBelow 88 = .ok (.putfield 18, 3) := by decide +kernel
theorem d_Box_measureBelow_91 : decode b_Box_measureBelow 91 = .ok (.aload_n 0, 1) := by decide +kernel
theorem d_Box_measureBelow_92 : decode b_Box_measureBelow 92 = .ok (.aload_n 0, 1) := by decide +kernel
theorem d_Box_measureBelow_93 : decode b_Box_measureBelow 93 = .ok (.getfield 9, 3) := by decide +kernel
theorem d_Box_measureBelow_96 : decode b_Box_measureBelow 96 = .ok (.aload_n 3, 1) := by decide +kernel
theorem d_Box_measureBelow_97 : decode b_Box_measureBelow 97 = .ok (.getfield 91, 3) := by decide +kernel
theorem d_Box_measureBelow_100 : decode b_Box_measureBelow 100 = .ok (.invokestatic 92, 3) := by decide +kernel
theorem d_Box_measureBelow_103 : decode b_Box_measureBelow 103 = .ok (.i2l, 1) := by decide +kernel
theorem d_Box_measureBelow_104 : decode b_Box_measureBelow 104 = .ok (.aload_n 3, 1) := by decide +kernel
theorem d_Box_measureBelow_105 : decode b_Box_measureBelow 105 = .ok (.getfield 101, 3) := by decide +kernel
theorem d_Box_measureBelow_108 : decode b_Box_measureBelow 108 = .ok (.i2l, 1) := by decide +kernel
theorem d_Box_measureBelow_109 : decode b_Box_measureBelow 109 = .ok (.invokestatic 96, 3) := by decide +kernel
theorem d_Box_measureBelow_112 : decode b_Box_measureBelow 112 = .ok (.invokestatic 56, 3) := by decide +kernel
theorem d_Box_measureBelow_115 : decode b_Box_measureBelow 115 = .ok (.putfield 9, 3) := by decide +kernel
theorem d_Box_measureBelow_118 : decode b_Box_measureBelow 118 = .ok (.goto 68, 3) := by decide +kernel
theorem d_Box_measureBelow_121 : decode b_Box_measureBelow 121 = .ok (.aload_n 0, 1) := by decide +kernel
theorem d_Box_measureBelow_122 : decode b_Box_measureBelow 122 = .ok (.getfield 39, 3) := by decide +kernel
theorem d_Box_measureBelow_125 : decode b_Box_measureBelow 125 = .ok (.iload_n 2, 1) := by decide +kernel
theorem d_Box_measureBelow_126 : decode b_Box_measureBelow 126 = .ok (.aaload, 1) := by decide +kernel
theorem d_Box_measureBelow_127 : decode b_Box_measureBelow 127 = .ok (.astore 5, 2) := by decide +kernel
theorem d_Box_measureBelow_129 : decode b_Box_measureBelow 129 = .ok (.aload 5, 2) := by decide +kernel
theorem d_Box_measureBelow_131 : decode b_Box_measureBelow 131 = .ok (.instanceof 105, 3) := by decide +kernel
theorem d_Box_measureBelow_134 : decode b_Box_measureBelow 134 = .ok (.ifCond .eq 52, 3) := by decide +kernel
theorem d_Box_measureBelow_137 : decode b_Box_measureBelow 137 = .ok (.aload 5, 2) := by decide +kernel
theorem d_Box_measureBelow_139 : decode b_Box_measureBelow 139 = .ok (.checkcast 105, 3) := by decide +kernel
theorem d_Box_measureBelow_142 : decode b_Box_measureBelow 142 = .ok (.astore 4, 2) := by decide +kernel
theorem d_Box_measureBelow_144 : decode b_Box_measureBelow 144 = .ok (.aload_n 0, 1) := by decide +kernel
theorem d_Box_measureBelow_145 : decode b_Box_measureBelow 145 = .ok (.getfield 43, 3) := by decide +kernel
theorem d_Box_measureBelow_148 : decode b_Box_measureBelow 148 = .ok (.iload_n 2, 1) := by decide +kernel
theorem d_Box_measureBelow_149 : decode b_Box_measureBelow 149 = .ok (.aload_n 0, 1) := by decide +kernel
theorem d_Box_measureBelow_150 : decode b_Box_measureBelow 150 = .ok (.getfield 15, 3) := by decide +kernel
theorem d_Box_measureBelow_153 : decode b_Box_measureBelow 153 = .ok (.iastore, 1) := by decide +kernel
theorem d_Box_measureBelow_154 : decode b_Box_measureBelow 154 = .ok (.aload_n 0, 1) := by decide +kernel
theorem d_Box_measureBelow_155 : decode b_Box_measureBelow 155 = .ok (.aload_n 0, 1) := by decide +kernel
theorem d_Box_measureBelow_156 : decode b_Box_measureBelow 156 = .ok (.getfield 15, 3) := by decide +kernel
theorem d_Box_measureBelow_159 : decode b_Box_measureBelow 159 = .ok (.i2l, 1) := by decide +kernel
theorem d_Box_measureBelow_160 : decode b_Box_measureBelow 160 = .ok (.aload_n 0, 1) := by decide +kernel
theorem d_Box_measureBelow_161 : decode b_Box_measureBelow 161 = .ok (.getfield 18, 3) := by decide +kernel
theorem d_Box_measureBelow_164 : decode b_Box_measureBelow 164 = .ok (.i2l, 1) := by decide +kernel
theorem d_Box_measureBelow_165 : decode b_Box_measureBelow 165 = .ok (.invokestatic 96, 3) := by decide +kernel
theorem d_Box_measureBelow_168 : decode b_Box_measureBelow 168 = .ok (.i2l, 1) := by decide +kernel
theorem d_Box_measureBelow_169 : decode b_Box_measureBelow 169 = .ok (.aload 4, 2) := by decide +kernel
theorem d_Box_measureBelow_171 : decode b_Box_measureBelow 171 = .ok (.getfield 107, 3) := by decide +kernel
theorem d_Box_measureBelow_174 : decode b_Box_measureBelow 174 = .ok (.i2l, 1) := by decide +kernel
theorem d_Box_measureBelow_175 : decode b_Box_measureBelow 175 = .ok (.invokestatic 96, 3) := by decide +kernel
theorem d_Box_measureBelow_178 : decode b_Box_measureBelow 178 = .ok (.putfield 15, 3) := by decide +kernel
theorem d_Box_measureBelow_181 : decode b_Box_measureBelow 181 = .ok (.aload_n 0, 1) := by decide +kernel
theorem d_Box_measureBelow_182 : decode b_Box_measureBelow 182 = .ok (.iconst 0, 1) := by decide +kernel
theorem d_Box_measureBelow_183 : decode b_Box_measureBelow 183 = .ok (.putfield 18, 3) := by decide +kernel
theorem d_Box_measureBelow_186 : decode b_Box_measureBelow 186 = .ok (.iinc 2 1, 3) := by decide +kernel
theorem d_Box_measureBelow_189 : decode b_Box_measureBelow 189 = .ok (.goto (-187), 3) := by decide +kernel
theorem d_Box_measureBelow_192 : decode b_Box_measureBelow 192 = .ok (.aload_n 0, 1) := by decide +kernel
theorem d_Box_measureBelow_193 : decode b_Box_measureBelow 193 = .ok (.getfield 18, 3) := by decide +kernel
theorem d_Box_measureBelow_196 : decode b_Box_measureBelow 196 = .ok (.iload_n 1, 1) := by decide +kernel
theorem d_Box_measureBelow_197 : decode b_Box_measureBelow 197 = .ok (.if_icmp .le 28, 3) := by decide +kernel
theorem d_Box_measureBelow_200 : decode b_Box_measureBelow 200 = .ok (.aload_n 0, 1) := by decide +kernel
theorem d_Box_measureBelow_201 : decode b_Box_measureBelow 201 = .ok (.aload_n 0, 1) := by decide +kernel
theorem d_Box_measureBelow_202 : decode b_Box_measureBelow 202 = .ok (.getfield 15, 3) := by decide +kernel
theorem d_Box_measureBelow_205 : decode b_Box_measureBelow 205 = .ok (.i2l, 1) := by decide +kernel
theorem d_Box_measureBelow_206 : decode b_Box_measureBelow 206 = .ok (.aload_n 0, 1) := by decide +kernel
theorem d_Box_measureBelow_207 : decode b_Box_measureBelow 207 = .ok (.getfield 18, 3) := by decide +kernel
theorem d_Box_measureBelow_210 : decode b_Box_measureBelow 210 = .ok (.i2l, 1) := by decide +kernel
theorem d_Box_measureBelow_211 : decode b_Box_measureBelow 211 = .ok (.iload_n 1, 1) := by decide +kernel
theorem d_Box_measureBelow_212 : decode b_Box_measureBelow 212 = .ok (.i2l, 1) := by decide +kernel
theorem d_Box_measureBelow_213 : decode b_Box_measureBelow 213 = .ok (.lsub, 1) := by decide +kernel
theorem d_Box_measureBelow_214 : decode b_Box_measureBelow 214 = .ok (.invokestatic 96, 3) := by decide +kernel
theorem d_Box_measureBelow_217 : decode b_Box_measureBelow 217 = .ok (.putfield 15, 3) := by decide +kernel
theorem d_Box_measureBelow_220 : decode b_Box_measureBelow 220 = .ok (.aload_n 0, 1) := by decide +kernel
theorem d_Box_measureBelow_221 : decode b_Box_measureBelow 221 = .ok (.iload_n 1, 1) := by decide +kernel
theorem d_Box_measureBelow_222 : decode b_Box_measureBelow 222 = .ok (.putfield 18, 3) := by decide +kernel
theorem d_Box_measureBelow_225 : decode b_Box_measureBelow 225 = .ok (.return_, 1) := by decide +kernel
abbrev b_Box_gives : ByteArray := prog_2_method_5_code
def y_Box_gives : MethodName := ⟨"BoxPacker$Box", "gives", "(Z)[I"⟩
theorem d_Box_gives_0 : decode b_Box_gives 0 = .ok (.iconst 4, 1) := by decide +kernel
theorem d_Box_gives_1 : decode b_Box_gives 1 = .ok (.newarray .int, 2) := by decide +kernel
theorem d_Box_gives_3 : decode b_Box_gives 3 = .ok (.astore_n 2, 1) := by decide +kernel
theorem d_Box_gives_4 : decode b_Box_gives 4 = .ok (.iconst 0, 1) := by decide +kernel
theorem d_Box_gives_5 : decode b_Box_gives 5 = .ok (.istore_n 3, 1) := by decide +kernel
theorem d_Box_gives_6 : decode b_Box_gives 6 = .ok (.iload_n 3, 1) := by decide +kernel
theorem d_Box_gives_7 : decode b_Box_gives 7 = .ok (.aload_n 0, 1) := by decide +kernel
theorem d_Box_gives_8 : decode b_Box_gives 8 = .ok (.getfield 39, 3) := by decide +kernel
theorem d_Box_gives_11 : decode b_Box_gives 11 = .ok (.arraylength, 1) := by decide +kernel
theorem d_Box_gives_12 : decode b_Box_gives 12 = .ok (.if_icmp .ge 59, 3) := by decide +kernel
theorem d_Box_gives_15 : decode b_Box_gives 15 = .ok (.aload_n 0, 1) := by decide +kernel
theorem d_Box_gives_16 : decode b_Box_gives 16 = .ok (.getfield 39, 3) := by decide +kernel
theorem d_Box_gives_19 : decode b_Box_gives 19 = .ok (.iload_n 3, 1) := by decide +kernel
theorem d_Box_gives_20 : decode b_Box_gives 20 = .ok (.aaload, 1) := by decide +kernel
theorem d_Box_gives_21 : decode b_Box_gives 21 = .ok (.astore 5, 2) := by decide +kernel
theorem d_Box_gives_23 : decode b_Box_gives 23 = .ok (.aload 5, 2) := by decide +kernel
theorem d_Box_gives_25 : decode b_Box_gives 25 = .ok (.instanceof 105, 3) := by decide +kernel
theorem d_Box_gives_28 : decode b_Box_gives 28 = .ok (.ifCond .eq 37, 3) := by decide +kernel
theorem d_Box_gives_31 : decode b_Box_gives 31 = .ok (.aload 5, 2) := by decide +kernel
theorem d_Box_gives_33 : decode b_Box_gives 33 = .ok (.checkcast 105, 3) := by decide +kernel
theorem d_Box_gives_36 : decode b_Box_gives 36 = .ok (.astore 4, 2) := by decide +kernel
theorem d_Box_gives_38 : decode b_Box_gives 38 = .ok (.aload 4, 2) := by decide +kernel
theorem d_Box_gives_40 : decode b_Box_gives 40 = .ok (.iload_n 1, 1) := by decide +kernel
theorem d_Box_gives_41 : decode b_Box_gives 41 = .ok (.invokevirtual 108, 3) := by decide +kernel
theorem d_Box_gives_44 : decode b_Box_gives 44 = .ok (.istore 5, 2) := by decide +kernel
theorem d_Box_gives_46 : decode b_Box_gives 46 = .ok (.aload_n 2, 1) := by decide +kernel
theorem d_Box_gives_47 : decode b_Box_gives 47 = .ok (.iload 5, 2) := by decide +kernel
theorem d_Box_gives_49 : decode b_Box_gives 49 = .ok (.aload_n 2, 1) := by decide +kernel
theorem d_Box_gives_50 : decode b_Box_gives 50 = .ok (.iload 5, 2) := by decide +kernel
theorem d_Box_gives_52 : decode b_Box_gives 52 = .ok (.iaload, 1) := by decide +kernel
theorem d_Box_gives_53 : decode b_Box_gives 53 = .ok (.i2l, 1) := by decide +kernel
theorem d_Box_gives_54 : decode b_Box_gives 54 = .ok (.aload 4, 2) := by decide +kernel
theorem d_Box_gives_56 : decode b_Box_gives 56 = .ok (.iload_n 1, 1) := by decide +kernel
theorem d_Box_gives_57 : decode b_Box_gives 57 = .ok (.invokevirtual 112, 3) := by decide +kernel
theorem d_Box_gives_60 : decode b_Box_gives 60 = .ok (.i2l, 1) := by decide +kernel
theorem d_Box_gives_61 : decode b_Box_gives 61 = .ok (.invokestatic 96, 3) := by decide +kernel
theorem d_Box_gives_64 : decode b_Box_gives 64 = .ok (.iastore, 1) := by decide +kernel
theorem d_Box_gives_65 : decode b_Box_gives 65 = .ok (.iinc 3 1, 3) := by decide +kernel
theorem d_Box_gives_68 : decode b_Box_gives 68 = .ok (.goto (-62), 3) := by decide +kernel
theorem d_Box_gives_71 : decode b_Box_gives 71 = .ok (.aload_n 2, 1) := by decide +kernel
theorem d_Box_gives_72 : decode b_Box_gives 72 = .ok (.areturn, 1) := by decide +kernel
abbrev b_Box_fillUp : ByteArray := prog_2_method_6_code
def y_Box_fillUp : MethodName := ⟨"BoxPacker$Box", "fillUp", "(II)V"⟩
theorem d_Box_fillUp_0 : decode b_Box_fillUp 0 = .ok (.aload_n 0, 1) := by decide +kernel
theorem d_Box_fillUp_1 : decode b_Box_fillUp 1 = .ok (.getfield 33, 3) := by decide +kernel
theorem d_Box_fillUp_4 : decode b_Box_fillUp 4 = .ok (.ifCond .eq 10, 3) := by decide +kernel
theorem d_Box_fillUp_7 : decode b_Box_fillUp 7 = .ok (.aload_n 0, 1) := by decide +kernel
theorem d_Box_fillUp_8 : decode b_Box_fillUp 8 = .ok (.getfield 15, 3) := by decide +kernel
theorem d_Box_fillUp_11 : decode b_Box_fillUp 11 = .ok (.goto 7, 3) := by decide +kernel
theorem d_Box_fillUp_14 : decode b_Box_fillUp 14 = .ok (.aload_n 0, 1) := by decide +kernel
theorem d_Box_fillUp_15 : decode b_Box_fillUp 15 = .ok (.getfield 9, 3) := by decide +kernel
theorem d_Box_fillUp_18 : decode b_Box_fillUp 18 = .ok (.istore_n 3, 1) := by decide +kernel
theorem d_Box_fillUp_19 : decode b_Box_fillUp 19 = .ok (.iload_n 1, 1) := by decide +kernel
theorem d_Box_fillUp_20 : decode b_Box_fillUp 20 = .ok (.iconst 1, 1) := by decide +kernel
theorem d_Box_fillUp_21 : decode b_Box_fillUp 21 = .ok (.if_icmp .ne 18, 3) := by decide +kernel
theorem d_Box_fillUp_24 : decode b_Box_fillUp 24 = .ok (.aload_n 0, 1) := by decide +kernel
theorem d_Box_fillUp_25 : decode b_Box_fillUp 25 = .ok (.iload_n 2, 1) := by decide +kernel
theorem d_Box_fillUp_26 : decode b_Box_fillUp 26 = .ok (.i2l, 1) := by decide +kernel
theorem d_Box_fillUp_27 : decode b_Box_fillUp 27 = .ok (.iload_n 3, 1) := by decide +kernel
theorem d_Box_fillUp_28 : decode b_Box_fillUp 28 = .ok (.ineg, 1) := by decide +kernel
theorem d_Box_fillUp_29 : decode b_Box_fillUp 29 = .ok (.i2l, 1) := by decide +kernel
theorem d_Box_fillUp_30 : decode b_Box_fillUp 30 = .ok (.invokestatic 96, 3) := by decide +kernel
theorem d_Box_fillUp_33 : decode b_Box_fillUp 33 = .ok (.putfield 21, 3) := by decide +kernel
theorem d_Box_fillUp_36 : decode b_Box_fillUp 36 = .ok (.goto 13, 3) := by decide +kernel
theorem d_Box_fillUp_39 : decode b_Box_fillUp 39 = .ok (.iload_n 1, 1) := by decide +kernel
theorem d_Box_fillUp_40 : decode b_Box_fillUp 40 = .ok (.iconst 2, 1) := by decide +kernel
theorem d_Box_fillUp_41 : decode b_Box_fillUp 41 = .ok (.if_icmp .ne 8, 3) := by decide +kernel
theorem d_Box_fillUp_44 : decode b_Box_fillUp 44 = .ok (.aload_n 0, 1) := by decide +kernel
theorem d_Box_fillUp_45 : decode b_Box_fillUp 45 = .ok (.iload_n 2, 1) := by decide +kernel
theorem d_Box_fillUp_46 : decode b_Box_fillUp 46 = .ok (.putfield 21, 3) := by decide +kernel
theorem d_Box_fillUp_49 : decode b_Box_fillUp 49 = .ok (.iload_n 3, 1) := by decide +kernel
theorem d_Box_fillUp_50 : decode b_Box_fillUp 50 = .ok (.i2l, 1) := by decide +kernel
theorem d_Box_fillUp_51 : decode b_Box_fillUp 51 = .ok (.aload_n 0, 1) := by decide +kernel
theorem d_Box_fillUp_52 : decode b_Box_fillUp 52 = .ok (.getfield 21, 3) := by decide +kernel
theorem d_Box_fillUp_55 : decode b_Box_fillUp 55 = .ok (.i2l, 1) := by decide +kernel
theorem d_Box_fillUp_56 : decode b_Box_fillUp 56 = .ok (.invokestatic 96, 3) := by decide +kernel
theorem d_Box_fillUp_59 : decode b_Box_fillUp 59 = .ok (.istore 4, 2) := by decide +kernel
theorem d_Box_fillUp_61 : decode b_Box_fillUp 61 = .ok (.aload_n 0, 1) := by decide +kernel
theorem d_Box_fillUp_62 : decode b_Box_fillUp 62 = .ok (.getfield 33, 3) := by decide +kernel
theorem d_Box_fillUp_65 : decode b_Box_fillUp 65 = .ok (.ifCond .eq 12, 3) := by decide +kernel
theorem d_Box_fillUp_68 : decode b_Box_fillUp 68 = .ok (.aload_n 0, 1) := by decide +kernel
theorem d_Box_fillUp_69 : decode b_Box_fillUp 69 = .ok (.iload 4, 2) := by decide +kernel
theorem d_Box_fillUp_71 : decode b_Box_fillUp 71 = .ok (.putfield 15, 3) := by decide +kernel
theorem d_Box_fillUp_74 : decode b_Box_fillUp 74 = .ok (.goto 9, 3) := by decide +kernel
theorem d_Box_fillUp_77 : decode b_Box_fillUp 77 = .ok (.aload_n 0, 1) := by decide +kernel
theorem d_Box_fillUp_78 : decode b_Box_fillUp 78 = .ok (.iload 4, 2) := by decide +kernel
theorem d_Box_fillUp_80 : decode b_Box_fillUp 80 = .ok (.putfield 9, 3) := by decide +kernel
theorem d_Box_fillUp_83 : decode b_Box_fillUp 83 = .ok (.return_, 1) := by decide +kernel
abbrev b_Box_findTotal : ByteArray := prog_2_method_7_code
def y_Box_findTotal : MethodName := ⟨"BoxPacker$Box", "findTotal", "([I)V"⟩
theorem d_Box_findTotal_0 : decode b_Box_findTotal 0 = .ok (.iconst 0, 1) := by decide +kernel
theorem d_Box_findTotal_1 : decode b_Box_findTotal 1 = .ok (.istore_n 2, 1) := by decide +kernel
theorem d_Box_findTotal_2 : decode b_Box_findTotal 2 = .ok (.iload_n 2, 1) := by decide +kernel
theorem d_Box_findTotal_3 : decode b_Box_findTotal 3 = .ok (.aload_n 1, 1) := by decide +kernel
theorem d_Box_findTotal_4 : decode b_Box_findTotal 4 = .ok (.arraylength, 1) := by decide +kernel
theorem d_Box_findTotal_5 : decode b_Box_findTotal 5 = .ok (.if_icmp .ge 27, 3) := by decide +kernel
theorem d_Box_findTotal_8 : decode b_Box_findTotal 8 = .ok (.aload_n 1, 1) := by decide +kernel
theorem d_Box_findTotal_9 : decode b_Box_findTotal 9 = .ok (.iload_n 2, 1) := by decide +kernel
theorem d_Box_findTotal_10 : decode b_Box_findTotal 10 = .ok (.iaload, 1) := by decide +kernel
theorem d_Box_findTotal_11 : decode b_Box_findTotal 11 = .ok (.ifCond .eq 15, 3) := by decide +kernel
theorem d_Box_findTotal_14 : decode b_Box_findTotal 14 = .ok (.aload_n 0, 1) := by decide +kernel
theorem d_Box_findTotal_15 : decode b_Box_findTotal 15 = .ok (.iload_n 2, 1) := by decide +kernel
theorem d_Box_findTotal_16 : decode b_Box_findTotal 16 = .ok (.putfield 24, 3) := by decide +kernel
theorem d_Box_findTotal_19 : decode b_Box_findTotal 19 = .ok (.aload_n 0, 1) := by decide +kernel
theorem d_Box_findTotal_20 : decode b_Box_findTotal 20 = .ok (.aload_n 1, 1) := by decide +kernel
theorem d_Box_findTotal_21 : decode b_Box_findTotal 21 = .ok (.iload_n 2, 1) := by decide +kernel
theorem d_Box_findTotal_22 : decode b_Box_findTotal 22 = .ok (.iaload, 1) := by decide +kernel
theorem d_Box_findTotal_23 : decode b_Box_findTotal 23 = .ok (.putfield 27, 3) := by decide +kernel
theorem d_Box_findTotal_26 : decode b_Box_findTotal 26 = .ok (.iinc 2 1, 3) := by decide +kernel
theorem d_Box_findTotal_29 : decode b_Box_findTotal 29 = .ok (.goto (-27), 3) := by decide +kernel
theorem d_Box_findTotal_32 : decode b_Box_findTotal 32 = .ok (.return_, 1) := by decide +kernel
abbrev b_Box_addShares : ByteArray := prog_2_method_8_code
def y_Box_addShares : MethodName := ⟨"BoxPacker$Box", "addShares", "()V"⟩
theorem d_Box_addShares_0 : decode b_Box_addShares 0 = .ok (.aload_n 0, 1) := by decide +kernel
theorem d_Box_addShares_1 : decode b_Box_addShares 1 = .ok (.getfield 21, 3) := by decide +kernel
theorem d_Box_addShares_4 : decode b_Box_addShares 4 = .ok (.ifCond .ge 7, 3) := by decide +kernel
theorem d_Box_addShares_7 : decode b_Box_addShares 7 = .ok (.iconst 1, 1) := by decide +kernel
theorem d_Box_addShares_8 : decode b_Box_addShares 8 = .ok (.goto 4, 3) := by decide +kernel
theorem d_Box_addShares_11 : decode b_Box_addShares 11 = .ok (.iconst 0, 1) := by decide +kernel
theorem d_Box_addShares_12 : decode b_Box_addShares 12 = .ok (.istore_n 1, 1) := by decide +kernel
theorem d_Box_addShares_13 : decode b_Box_addShares 13 = .ok (.aload_n 0, 1) := by decide +kernel
theorem d_Box_addShares_14 : decode b_Box_addShares 14 = .ok (.getfield 30, 3) := by decide +kernel
theorem d_Box_addShares_17 : decode b_Box_addShares 17 = .ok (.ifCond .le 11, 3) := by decide +kernel
theorem d_Box_addShares_20 : decode b_Box_addShares 20 = .ok (.aload_n 0, 1) := by decide +kernel
theorem d_Box_addShares_21 : decode b_Box_addShares 21 = .ok (.getfield 27, 3) := by decide +kernel
theorem d_Box_addShares_24 : decode b_Box_addShares 24 = .ok (.ineg, 1) := by decide +kernel
theorem d_Box_addShares_25 : decode b_Box_addShares 25 = .ok (.goto 7, 3) := by decide +kernel
theorem d_Box_addShares_28 : decode b_Box_addShares 28 = .ok (.aload_n 0, 1) := by decide +kernel
theorem d_Box_addShares_29 : decode b_Box_addShares 29 = .ok (.getfield 21, 3) := by decide +kernel
theorem d_Box_addShares_32 : decode b_Box_addShares 32 = .ok (.istore_n 2, 1) := by decide +kernel
theorem d_Box_addShares_33 : decode b_Box_addShares 33 = .ok (.iconst 0, 1) := by decide +kernel
theorem d_Box_addShares_34 : decode b_Box_addShares 34 = .ok (.istore_n 3, 1) := by decide +kernel
theorem d_Box_addShares_35 : decode b_Box_addShares 35 = .ok (.iconst 0, 1) := by decide +kernel
theorem d_Box_addShares_36 : decode b_Box_addShares 36 = .ok (.istore 4, 2) := by decide +kernel
theorem d_Box_addShares_38 : decode b_Box_addShares 38 = .ok (.iload 4, 2) := by decide +kernel
theorem d_Box_addShares_40 : decode b_Box_addShares 40 = .ok (.aload_n 0, 1) := by decide +kernel
theorem d_Box_addShares_41 : decode b_Box_addShares 41 = .ok (.getfield 39, 3) := by decide +kernel
theorem d_Box_addShares_44 : decode b_Box_addShares 44 = .ok (.arraylength, 1) := by decide +kernel
theorem d_Box_addShares_45 : decode b_Box_addShares 45 = .ok (.if_icmp .ge 76, 3) := by decide +kernel
theorem d_Box_addShares_48 : decode b_Box_addShares 48 = .ok (.aload_n 0, 1) := by decide +kernel
theorem d_Box_addShares_49 : decode b_Box_addShares 49 = .ok (.getfield 43, 3) := by decide +kernel
theorem d_Box_addShares_52 : decode b_Box_addShares 52 = .ok (.iload 4, 2) := by decide +kernel
theorem d_Box_addShares_54 : decode b_Box_addShares 54 = .ok (.dup2, 1) := by decide +kernel
theorem d_Box_addShares_55 : decode b_Box_addShares 55 = .ok (.iaload, 1) := by decide +kernel
theorem d_Box_addShares_56 : decode b_Box_addShares 56 = .ok (.iload_n 3, 1) := by decide +kernel
theorem d_Box_addShares_57 : decode b_Box_addShares 57 = .ok (.i2l, 1) := by decide +kernel
theorem d_Box_addShares_58 : decode b_Box_addShares 58 = .ok (.iload_n 2, 1) := by decide +kernel
theorem d_Box_addShares_59 : decode b_Box_addShares 59 = .ok (.i2l, 1) := by decide +kernel
theorem d_Box_addShares_60 : decode b_Box_addShares 60 = .ok (.aload_n 0, 1) := by decide +kernel
theorem d_Box_addShares_61 : decode b_Box_addShares 61 = .ok (.getfield 27, 3) := by decide +kernel
theorem d_Box_addShares_64 : decode b_Box_addShares 64 = .ok (.invokestatic 115, 3) := by decide +kernel
theorem d_Box_addShares_67 : decode b_Box_addShares 67 = .ok (.iadd, 1) := by decide +kernel
theorem d_Box_addShares_68 : decode b_Box_addShares 68 = .ok (.iastore, 1) := by decide +kernel
theorem d_Box_addShares_69 : decode b_Box_addShares 69 = .ok (.aload_n 0, 1) := by decide +kernel
theorem d_Box_addShares_70 : decode b_Box_addShares 70 = .ok (.getfield 39, 3) := by decide +kernel
theorem d_Box_addShares_73 : decode b_Box_addShares 73 = .ok (.iload 4, 2) := by decide +kernel
theorem d_Box_addShares_75 : decode b_Box_addShares 75 = .ok (.aaload, 1) := by decide +kernel
theorem d_Box_addShares_76 : decode b_Box_addShares 76 = .ok (.astore 6, 2) := by decide +kernel
theorem d_Box_addShares_78 : decode b_Box_addShares 78 = .ok (.aload 6, 2) := by decide +kernel
theorem d_Box_addShares_80 : decode b_Box_addShares 80 = .ok (.instanceof 105, 3) := by decide +kernel
theorem d_Box_addShares_83 : decode b_Box_addShares 83 = .ok (.ifCond .eq 32, 3) := by decide +kernel
theorem d_Box_addShares_86 : decode b_Box_addShares 86 = .ok (.aload 6, 2) := by decide +kernel
theorem d_Box_addShares_88 : decode b_Box_addShares 88 = .ok (.checkcast 105, 3) := by decide +kernel
theorem d_Box_addShares_91 : decode b_Box_addShares 91 = .ok (.astore 5, 2) := by decide +kernel
theorem d_Box_addShares_93 : decode b_Box_addShares 93 = .ok (.aload 5, 2) := by decide +kernel
theorem d_Box_addShares_95 : decode b_Box_addShares 95 = .ok (.iload_n 1, 1) := by decide +kernel
theorem d_Box_addShares_96 : decode b_Box_addShares 96 = .ok (.invokevirtual 108, 3) := by decide +kernel
theorem d_Box_addShares_99 : decode b_Box_addShares 99 = .ok (.aload_n 0, 1) := by decide +kernel
theorem d_Box_addShares_100 : decode b_Box_addShares 100 = .ok (.getfield 24, 3) := by decide +kernel
theorem d_Box_addShares_103 : decode b_Box_addShares 103 = .ok (.if_icmp .ne 12, 3) := by decide +kernel
theorem d_Box_addShares_106 : decode b_Box_addShares 106 = .ok (.iload_n 3, 1) := by decide +kernel
theorem d_Box_addShares_107 : decode b_Box_addShares 107 = .ok (.aload 5, 2) := by decide +kernel
theorem d_Box_addShares_109 : decode b_Box_addShares 109 = .ok (.iload_n 1, 1) := by decide +kernel
theorem d_Box_addShares_110 : decode b_Box_addShares 110 = .ok (.invokevirtual 112, 3) := by decide +kernel
theorem d_Box_addShares_113 : decode b_Box_addShares 113 = .ok (.iadd, 1) := by decide +kernel
theorem d_Box_addShares_114 : decode b_Box_addShares 114 = .ok (.istore_n 3, 1) := by decide +kernel
theorem d_Box_addShares_115 : decode b_Box_addShares 115 = .ok (.iinc 4 1, 3) := by decide +kernel
theorem d_Box_addShares_118 : decode b_Box_addShares 118 = .ok (.goto (-80), 3) := by decide +kernel
theorem d_Box_addShares_121 : decode b_Box_addShares 121 = .ok (.return_, 1) := by decide +kernel
abbrev b_Box_badness : ByteArray := prog_2_method_9_code
def y_Box_badness : MethodName := ⟨"BoxPacker$Box", "badness", "()I"⟩
theorem d_Box_badness_0 : decode b_Box_badness 0 = .ok (.aload_n 0, 1) := by decide +kernel
theorem d_Box_badness_1 : decode b_Box_badness 1 = .ok (.getfield 30, 3) := by decide +kernel
theorem d_Box_badness_4 : decode b_Box_badness 4 = .ok (.ifCond .le 6, 3) := by decide +kernel
theorem d_Box_badness_7 : decode b_Box_badness 7 = .ok (.ldc 62, 2) := by decide +kernel
theorem d_Box_badness_9 : decode b_Box_badness 9 = .ok (.ireturn, 1) := by decide +kernel
theorem d_Box_badness_10 : decode b_Box_badness 10 = .ok (.aload_n 0, 1) := by decide +kernel
theorem d_Box_badness_11 : decode b_Box_badness 11 = .ok (.getfield 21, 3) := by decide +kernel
theorem d_Box_badness_14 : decode b_Box_badness 14 = .ok (.ifCond .eq 10, 3) := by decide +kernel
theorem d_Box_badness_17 : decode b_Box_badness 17 = .ok (.aload_n 0, 1) := by decide +kernel
theorem d_Box_badness_18 : decode b_Box_badness 18 = .ok (.getfield 24, 3) := by decide +kernel
theorem d_Box_badness_21 : decode b_Box_badness 21 = .ok (.ifCond .le 5, 3) := by decide +kernel
theorem d_Box_badness_24 : decode b_Box_badness 24 = .ok (.iconst 0, 1) := by decide +kernel
theorem d_Box_badness_25 : decode b_Box_badness 25 = .ok (.ireturn, 1) := by decide +kernel
theorem d_Box_badness_26 : decode b_Box_badness 26 = .ok (.aload_n 0, 1) := by decide +kernel
theorem d_Box_badness_27 : decode b_Box_badness 27 = .ok (.getfield 27, 3) := by decide +kernel
theorem d_Box_badness_30 : decode b_Box_badness 30 = .ok (.ifCond .ne 7, 3) := by decide +kernel
theorem d_Box_badness_33 : decode b_Box_badness 33 = .ok (.sipush 10000, 3) := by decide +kernel
theorem d_Box_badness_36 : decode b_Box_badness 36 = .ok (.ireturn, 1) := by decide +kernel
theorem d_Box_badness_37 : decode b_Box_badness 37 = .ok (.aload_n 0, 1) := by decide +kernel
theorem d_Box_badness_38 : decode b_Box_badness 38 = .ok (.getfield 21, 3) := by decide +kernel
theorem d_Box_badness_41 : decode b_Box_badness 41 = .ok (.invokestatic 119, 3) := by decide +kernel
theorem d_Box_badness_44 : decode b_Box_badness 44 = .ok (.aload_n 0, 1) := by decide +kernel
theorem d_Box_badness_45 : decode b_Box_badness 45 = .ok (.getfield 27, 3) := by decide +kernel
theorem d_Box_badness_48 : decode b_Box_badness 48 = .ok (.invokestatic 122, 3) := by decide +kernel
theorem d_Box_badness_51 : decode b_Box_badness 51 = .ok (.istore_n 1, 1) := by decide +kernel
theorem d_Box_badness_52 : decode b_Box_badness 52 = .ok (.iload_n 1, 1) := by decide +kernel
theorem d_Box_badness_53 : decode b_Box_badness 53 = .ok (.sipush 1290, 3) := by decide +kernel
theorem d_Box_badness_56 : decode b_Box_badness 56 = .ok (.if_icmp .le 9, 3) := by decide +kernel
theorem d_Box_badness_59 : decode b_Box_badness 59 = .ok (.sipush 10000, 3) := by decide +kernel
theorem d_Box_badness_62 : decode b_Box_badness 62 = .ok (.goto 14, 3) := by decide +kernel
theorem d_Box_badness_65 : decode b_Box_badness 65 = .ok (.iload_n 1, 1) := by decide +kernel
theorem d_Box_badness_66 : decode b_Box_badness 66 = .ok (.iload_n 1, 1) := by decide +kernel
theorem d_Box_badness_67 : decode b_Box_badness 67 = .ok (.imul, 1) := by decide +kernel
theorem d_Box_badness_68 : decode b_Box_badness 68 = .ok (.iload_n 1, 1) := by decide +kernel
theorem d_Box_badness_69 : decode b_Box_badness 69 = .ok (.imul, 1) := by decide +kernel
theorem d_Box_badness_70 : decode b_Box_badness 70 = .ok (.ldc 125, 2) := by decide +kernel
theorem d_Box_badness_72 : decode b_Box_badness 72 = .ok (.iadd, 1) := by decide +kernel
theorem d_Box_badness_73 : decode b_Box_badness 73 = .ok (.ldc 126, 2) := by decide +kernel
theorem d_Box_badness_75 : decode b_Box_badness 75 = .ok (.idiv, 1) := by decide +kernel
theorem d_Box_badness_76 : decode b_Box_badness 76 = .ok (.ireturn, 1) := by decide +kernel
abbrev b_Box_badnessRatio : ByteArray := prog_2_method_10_code
def y_Box_badnessRatio : MethodName := ⟨"BoxPacker$Box", "badnessRatio", "(II)I"⟩
theorem d_Box_badnessRatio_0 : decode b_Box_badnessRatio 0 = .ok (.iload_n 0, 1) := by decide +kernel
theorem d_Box_badnessRatio_1 : decode b_Box_badnessRatio 1 = .ok (.ldc 127, 2) := by decide +kernel
theorem d_Box_badnessRatio_3 : decode b_Box_badnessRatio 3 = .ok (.if_icmp .gt 11, 3) := by decide +kernel
theorem d_Box_badnessRatio_6 : decode b_Box_badnessRatio 6 = .ok (.sipush 297, 3) := by decide +kernel
theorem d_Box_badnessRatio_9 : decode b_Box_badnessRatio 9 = .ok (.iload_n 0, 1) := by decide +kernel
theorem d_Box_badnessRatio_10 : decode b_Box_badnessRatio 10 = .ok (.imul, 1) := by decide +kernel
theorem d_Box_badnessRatio_11 : decode b_Box_badnessRatio 11 = .ok (.iload_n 1, 1) := by decide +kernel
theorem d_Box_badnessRatio_12 : decode b_Box_badnessRatio 12 = .ok (.idiv, 1) := by decide +kernel
theorem d_Box_badnessRatio_13 : decode b_Box_badnessRatio 13 = .ok (.ireturn, 1) := by decide +kernel
theorem d_Box_badnessRatio_14 : decode b_Box_badnessRatio 14 = .ok (.iload_n 1, 1) := by decide +kernel
theorem d_Box_badnessRatio_15 : decode b_Box_badnessRatio 15 = .ok (.ldc 128, 2) := by decide +kernel
theorem d_Box_badnessRatio_17 : decode b_Box_badnessRatio 17 = .ok (.if_icmp .lt 13, 3) := by decide +kernel
theorem d_Box_badnessRatio_20 : decode b_Box_badnessRatio 20 = .ok (.iload_n 0, 1) := by decide +kernel
theorem d_Box_badnessRatio_21 : decode b_Box_badnessRatio 21 = .ok (.iload_n 1, 1) := by decide +kernel
theorem d_Box_badnessRatio_22 : decode b_Box_badnessRatio 22 = .ok (.sipush 297, 3) := by decide +kernel
theorem d_Box_badnessRatio_25 : decode b_Box_badnessRatio 25 = .ok (.idiv, 1) := by decide +kernel
theorem d_Box_badnessRatio_26 : decode b_Box_badnessRatio 26 = .ok (.idiv, 1) := by decide +kernel
theorem d_Box_badnessRatio_27 : decode b_Box_badnessRatio 27 = .ok (.goto 4, 3) := by decide +kernel
theorem d_Box_badnessRatio_30 : decode b_Box_badnessRatio 30 = .ok (.iload_n 0, 1) := by decide +kernel
theorem d_Box_badnessRatio_31 : decode b_Box_badnessRatio 31 = .ok (.ireturn, 1) := by decide +kernel
abbrev b_Item_init : ByteArray := prog_3_method_1_code
def y_Item_init : MethodName := ⟨"BoxPacker$Item", "<init>", "()V"⟩
theorem d_Item_init_0 : decode b_Item_init 0 = .ok (.aload_n 0, 1) := by decide +kernel
theorem d_Item_init_1 : decode b_Item_init 1 = .ok (.invokespecial 1, 3) := by decide +kernel
theorem d_Item_init_4 : decode b_Item_init 4 = .ok (.return_, 1) := by decide +kernel
abbrev b_Marks_init : ByteArray := prog_4_method_1_code
def y_Marks_init : MethodName := ⟨"BoxPacker$Marks", "<init>", "()V"⟩
theorem d_Marks_init_0 : decode b_Marks_init 0 = .ok (.aload_n 0, 1) := by decide +kernel
theorem d_Marks_init_1 : decode b_Marks_init 1 = .ok (.invokespecial 3, 3) := by decide +kernel
theorem d_Marks_init_4 : decode b_Marks_init 4 = .ok (.aload_n 0, 1) := by decide +kernel
theorem d_Marks_init_5 : decode b_Marks_init 5 = .ok (.sipush 6000, 3) := by decide +kernel
theorem d_Marks_init_8 : decode b_Marks_init 8 = .ok (.newarray .long, 2) := by decide +kernel
theorem d_Marks_init_10 : decode b_Marks_init 10 = .ok (.putfield 11, 3) := by decide +kernel
theorem d_Marks_init_13 : decode b_Marks_init 13 = .ok (.aload_n 0, 1) := by decide +kernel
theorem d_Marks_init_14 : decode b_Marks_init 14 = .ok (.iconst 0, 1) := by decide +kernel
theorem d_Marks_init_15 : decode b_Marks_init 15 = .ok (.putfield 15, 3) := by decide +kernel
theorem d_Marks_init_18 : decode b_Marks_init 18 = .ok (.return_, 1) := by decide +kernel
abbrev b_Marks_clear : ByteArray := prog_4_method_2_code
def y_Marks_clear : MethodName := ⟨"BoxPacker$Marks", "clear", "()V"⟩
theorem d_Marks_clear_0 : decode b_Marks_clear 0 = .ok (.aload_n 0, 1) := by decide +kernel
theorem d_Marks_clear_1 : decode b_Marks_clear 1 = .ok (.iconst 0, 1) := by decide +kernel
theorem d_Marks_clear_2 : decode b_Marks_clear 2 = .ok (.putfield 15, 3) := by decide +kernel
theorem d_Marks_clear_5 : decode b_Marks_clear 5 = .ok (.return_, 1) := by decide +kernel
abbrev b_Marks_add : ByteArray := prog_4_method_3_code
def y_Marks_add : MethodName := ⟨"BoxPacker$Marks", "add", "(IJJIII)Z"⟩
theorem d_Marks_add_0 : decode b_Marks_add 0 = .ok (.aload_n 0, 1) := by decide +kernel
theorem d_Marks_add_1 : decode b_Marks_add 1 = .ok (.getfield 15, 3) := by decide +kernel
theorem d_Marks_add_4 : decode b_Marks_add 4 = .ok (.sipush 1000, 3) := by decide +kernel
theorem d_Marks_add_7 : decode b_Marks_add 7 = .ok (.if_icmp .lt 5, 3) := by decide +kernel
theorem d_Marks_add_10 : decode b_Marks_add 10 = .ok (.iconst 0, 1) := by decide +kernel
theorem d_Marks_add_11 : decode b_Marks_add 11 = .ok (.ireturn, 1) := by decide +kernel
theorem d_Marks_add_12 : decode b_Marks_add 12 = .ok (.aload_n 0, 1) := by decide +kernel
theorem d_Marks_add_13 : decode b_Marks_add 13 = .ok (.getfield 15, 3) := by decide +kernel
theorem d_Marks_add_16 : decode b_Marks_add 16 = .ok (.bipush 6, 2) := by decide +kernel
theorem d_Marks_add_18 : decode b_Marks_add 18 = .ok (.imul, 1) := by decide +kernel
theorem d_Marks_add_19 : decode b_Marks_add 19 = .ok (.istore 9, 2) := by decide +kernel
theorem d_Marks_add_21 : decode b_Marks_add 21 = .ok (.aload_n 0, 1) := by decide +kernel
theorem d_Marks_add_22 : decode b_Marks_add 22 = .ok (.getfield 11, 3) := by decide +kernel
theorem d_Marks_add_25 : decode b_Marks_add 25 = .ok (.iload 9, 2) := by decide +kernel
theorem d_Marks_add_27 : decode b_Marks_add 27 = .ok (.iload_n 1, 1) := by decide +kernel
theorem d_Marks_add_28 : decode b_Marks_add 28 = .ok (.i2l, 1) := by decide +kernel
theorem d_Marks_add_29 : decode b_Marks_add 29 = .ok (.lastore, 1) := by decide +kernel
theorem d_Marks_add_30 : decode b_Marks_add 30 = .ok (.aload_n 0, 1) := by decide +kernel
theorem d_Marks_add_31 : decode b_Marks_add 31 = .ok (.getfield 11, 3) := by decide +kernel
theorem d_Marks_add_34 : decode b_Marks_add 34 = .ok (.iload 9, 2) := by decide +kernel
theorem d_Marks_add_36 : decode b_Marks_add 36 = .ok (.iconst 1, 1) := by decide +kernel
theorem d_Marks_add_37 : decode b_Marks_add 37 = .ok (.iadd, 1) := by decide +kernel
theorem d_Marks_add_38 : decode b_Marks_add 38 = .ok (.lload_n 2, 1) := by decide +kernel
theorem d_Marks_add_39 : decode b_Marks_add 39 = .ok (.lastore, 1) := by decide +kernel
theorem d_Marks_add_40 : decode b_Marks_add 40 = .ok (.aload_n 0, 1) := by decide +kernel
theorem d_Marks_add_41 : decode b_Marks_add 41 = .ok (.getfield 11, 3) := by decide +kernel
theorem d_Marks_add_44 : decode b_Marks_add 44 = .ok (.iload 9, 2) := by decide +kernel
theorem d_Marks_add_46 : decode b_Marks_add 46 = .ok (.iconst 2, 1) := by decide +kernel
theorem d_Marks_add_47 : decode b_Marks_add 47 = .ok (.iadd, 1) := by decide +kernel
theorem d_Marks_add_48 : decode b_Marks_add 48 = .ok (.lload 4, 2) := by decide +kernel
theorem d_Marks_add_50 : decode b_Marks_add 50 = .ok (.lastore, 1) := by decide +kernel
theorem d_Marks_add_51 : decode b_Marks_add 51 = .ok (.aload_n 0, 1) := by decide +kernel
theorem d_Marks_add_52 : decode b_Marks_add 52 = .ok (.getfield 11, 3) := by decide +kernel
theorem d_Marks_add_55 : decode b_Marks_add 55 = .ok (.iload 9, 2) := by decide +kernel
theorem d_Marks_add_57 : decode b_Marks_add 57 = .ok (.iconst 3, 1) := by decide +kernel
theorem d_Marks_add_58 : decode b_Marks_add 58 = .ok (.iadd, 1) := by decide +kernel
theorem d_Marks_add_59 : decode b_Marks_add 59 = .ok (.iload 6, 2) := by decide +kernel
theorem d_Marks_add_61 : decode b_Marks_add 61 = .ok (.i2l, 1) := by decide +kernel
theorem d_Marks_add_62 : decode b_Marks_add 62 = .ok (.lastore, 1) := by decide +kernel
theorem d_Marks_add_63 : decode b_Marks_add 63 = .ok (.aload_n 0, 1) := by decide +kernel
theorem d_Marks_add_64 : decode b_Marks_add 64 = .ok (.getfield 11, 3) := by decide +kernel
theorem d_Marks_add_67 : decode b_Marks_add 67 = .ok (.iload 9, 2) := by decide +kernel
theorem d_Marks_add_69 : decode b_Marks_add 69 = .ok (.iconst 4, 1) := by decide +kernel
theorem d_Marks_add_70 : decode b_Marks_add 70 = .ok (.iadd, 1) := by decide +kernel
theorem d_Marks_add_71 : decode b_Marks_add 71 = .ok (.iload 7, 2) := by decide +kernel
theorem d_Marks_add_73 : decode b_Marks_add 73 = .ok (.i2l, 1) := by decide +kernel
theorem d_Marks_add_74 : decode b_Marks_add 74 = .ok (.lastore, 1) := by decide +kernel
theorem d_Marks_add_75 : decode b_Marks_add 75 = .ok (.aload_n 0, 1) := by decide +kernel
theorem d_Marks_add_76 : decode b_Marks_add 76 = .ok (.getfield 11, 3) := by decide +kernel
theorem d_Marks_add_79 : decode b_Marks_add 79 = .ok (.iload 9, 2) := by decide +kernel
theorem d_Marks_add_81 : decode b_Marks_add 81 = .ok (.iconst 5, 1) := by decide +kernel
theorem d_Marks_add_82 : decode b_Marks_add 82 = .ok (.iadd, 1) := by decide +kernel
theorem d_Marks_add_83 : decode b_Marks_add 83 = .ok (.iload 8, 2) := by decide +kernel
theorem d_Marks_add_85 : decode b_Marks_add 85 = .ok (.i2l, 1) := by decide +kernel
theorem d_Marks_add_86 : decode b_Marks_add 86 = .ok (.lastore, 1) := by decide +kernel
theorem d_Marks_add_87 : decode b_Marks_add 87 = .ok (.aload_n 0, 1) := by decide +kernel
theorem d_Marks_add_88 : decode b_Marks_add 88 = .ok (.dup, 1) := by decide +kernel
theorem d_Marks_add_89 : decode b_Marks_add 89 = .ok (.getfield 15, 3) := by decide +kernel
theorem d_Marks_add_92 : decode b_Marks_add 92 = .ok (.iconst 1, 1) := by decide +kernel
theorem d_Marks_add_93 : decode b_Marks_add 93 = .ok (.iadd, 1) := by decide +kernel
theorem d_Marks_add_94 : decode b_Marks_add 94 = .ok (.putfield 15, 3) := by decide +kernel
theorem d_Marks_add_97 : decode b_Marks_add 97 = .ok (.iconst 1, 1) := by decide +kernel
theorem d_Marks_add_98 : decode b_Marks_add 98 = .ok (.ireturn, 1) := by decide +kernel
abbrev b_Solid_init : ByteArray := prog_5_method_1_code
def y_Solid_init : MethodName := ⟨"BoxPacker$Solid", "<init>", "(IIIILBoxPacker$Box;I)V"⟩
theorem d_Solid_init_0 : decode b_Solid_init 0 = .ok (.aload_n 0, 1) := by decide +kernel
theorem d_Solid_init_1 : decode b_Solid_init 1 = .ok (.invokespecial 1, 3) := by decide +kernel
theorem d_Solid_init_4 : decode b_Solid_init 4 = .ok (.aload_n 0, 1) := by decide +kernel
theorem d_Solid_init_5 : decode b_Solid_init 5 = .ok (.iload_n 1, 1) := by decide +kernel
theorem d_Solid_init_6 : decode b_Solid_init 6 = .ok (.putfield 7, 3) := by decide +kernel
theorem d_Solid_init_9 : decode b_Solid_init 9 = .ok (.aload_n 0, 1) := by decide +kernel
theorem d_Solid_init_10 : decode b_Solid_init 10 = .ok (.iload_n 2, 1) := by decide +kernel
theorem d_Solid_init_11 : decode b_Solid_init 11 = .ok (.putfield 13, 3) := by decide +kernel
theorem d_Solid_init_14 : decode b_Solid_init 14 = .ok (.aload_n 0, 1) := by decide +kernel
theorem d_Solid_init_15 : decode b_Solid_init 15 = .ok (.iload_n 3, 1) := by decide +kernel
theorem d_Solid_init_16 : decode b_Solid_init 16 = .ok (.putfield 16, 3) := by decide +kernel
theorem d_Solid_init_19 : decode b_Solid_init 19 = .ok (.aload_n 0, 1) := by decide +kernel
theorem d_Solid_init_20 : decode b_Solid_init 20 = .ok (.iload 4, 2) := by decide +kernel
theorem d_Solid_init_22 : decode b_Solid_init 22 = .ok (.putfield 19, 3) := by decide +kernel
theorem d_Solid_init_25 : decode b_Solid_init 25 = .ok (.aload_n 0, 1) := by decide +kernel
theorem d_Solid_init_26 : decode b_Solid_init 26 = .ok (.aload 5, 2) := by decide +kernel
theorem d_Solid_init_28 : decode b_Solid_init 28 = .ok (.putfield 22, 3) := by decide +kernel
theorem d_Solid_init_31 : decode b_Solid_init 31 = .ok (.aload_n 0, 1) := by decide +kernel
theorem d_Solid_init_32 : decode b_Solid_init 32 = .ok (.iload 6, 2) := by decide +kernel
theorem d_Solid_init_34 : decode b_Solid_init 34 = .ok (.putfield 26, 3) := by decide +kernel
theorem d_Solid_init_37 : decode b_Solid_init 37 = .ok (.return_, 1) := by decide +kernel
abbrev b_Space_init : ByteArray := prog_6_method_1_code
def y_Space_init : MethodName := ⟨"BoxPacker$Space", "<init>", "(IIIII)V"⟩
theorem d_Space_init_0 : decode b_Space_init 0 = .ok (.aload_n 0, 1) := by decide +kernel
theorem d_Space_init_1 : decode b_Space_init 1 = .ok (.invokespecial 1, 3) := by decide +kernel
theorem d_Space_init_4 : decode b_Space_init 4 = .ok (.aload_n 0, 1) := by decide +kernel
theorem d_Space_init_5 : decode b_Space_init 5 = .ok (.iload_n 1, 1) := by decide +kernel
theorem d_Space_init_6 : decode b_Space_init 6 = .ok (.putfield 7, 3) := by decide +kernel
theorem d_Space_init_9 : decode b_Space_init 9 = .ok (.aload_n 0, 1) := by decide +kernel
theorem d_Space_init_10 : decode b_Space_init 10 = .ok (.iload_n 2, 1) := by decide +kernel
theorem d_Space_init_11 : decode b_Space_init 11 = .ok (.putfield 13, 3) := by decide +kernel
theorem d_Space_init_14 : decode b_Space_init 14 = .ok (.aload_n 0, 1) := by decide +kernel
theorem d_Space_init_15 : decode b_Space_init 15 = .ok (.iload_n 3, 1) := by decide +kernel
theorem d_Space_init_16 : decode b_Space_init 16 = .ok (.putfield 16, 3) := by decide +kernel
theorem d_Space_init_19 : decode b_Space_init 19 = .ok (.aload_n 0, 1) := by decide +kernel
theorem d_Space_init_20 : decode b_Space_init 20 = .ok (.iload 4, 2) := by decide +kernel
theorem d_Space_init_22 : decode b_Space_init 22 = .ok (.putfield 19, 3) := by decide +kernel
theorem d_Space_init_25 : decode b_Space_init 25 = .ok (.aload_n 0, 1) := by decide +kernel
theorem d_Space_init_26 : decode b_Space_init 26 = .ok (.iload 5, 2) := by decide +kernel
theorem d_Space_init_28 : decode b_Space_init 28 = .ok (.putfield 22, 3) := by decide +kernel
theorem d_Space_init_31 : decode b_Space_init 31 = .ok (.return_, 1) := by decide +kernel
abbrev b_Space_give : ByteArray := prog_6_method_2_code
def y_Space_give : MethodName := ⟨"BoxPacker$Space", "give", "(Z)I"⟩
theorem d_Space_give_0 : decode b_Space_give 0 = .ok (.iload_n 1, 1) := by decide +kernel
theorem d_Space_give_1 : decode b_Space_give 1 = .ok (.ifCond .eq 10, 3) := by decide +kernel
theorem d_Space_give_4 : decode b_Space_give 4 = .ok (.aload_n 0, 1) := by decide +kernel
theorem d_Space_give_5 : decode b_Space_give 5 = .ok (.getfield 19, 3) := by decide +kernel
theorem d_Space_give_8 : decode b_Space_give 8 = .ok (.goto 7, 3) := by decide +kernel
theorem d_Space_give_11 : decode b_Space_give 11 = .ok (.aload_n 0, 1) := by decide +kernel
theorem d_Space_give_12 : decode b_Space_give 12 = .ok (.getfield 13, 3) := by decide +kernel
theorem d_Space_give_15 : decode b_Space_give 15 = .ok (.ireturn, 1) := by decide +kernel
abbrev b_Space_giveOrder : ByteArray := prog_6_method_3_code
def y_Space_giveOrder : MethodName := ⟨"BoxPacker$Space", "giveOrder", "(Z)I"⟩
theorem d_Space_giveOrder_0 : decode b_Space_giveOrder 0 = .ok (.iload_n 1, 1) := by decide +kernel
theorem d_Space_giveOrder_1 : decode b_Space_giveOrder 1 = .ok (.ifCond .eq 10, 3) := by decide +kernel
theorem d_Space_giveOrder_4 : decode b_Space_giveOrder 4 = .ok (.aload_n 0, 1) := by decide +kernel
theorem d_Space_giveOrder_5 : decode b_Space_giveOrder 5 = .ok (.getfield 22, 3) := by decide +kernel
theorem d_Space_giveOrder_8 : decode b_Space_giveOrder 8 = .ok (.goto 7, 3) := by decide +kernel
theorem d_Space_giveOrder_11 : decode b_Space_giveOrder 11 = .ok (.aload_n 0, 1) := by decide +kernel
theorem d_Space_giveOrder_12 : decode b_Space_giveOrder 12 = .ok (.getfield 16, 3) := by decide +kernel
theorem d_Space_giveOrder_15 : decode b_Space_giveOrder 15 = .ok (.ireturn, 1) := by decide +kernel
