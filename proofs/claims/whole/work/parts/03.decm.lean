theorem dX8_init_0 : decode cX8_init 0 = .ok (.aload_n 0, 1) := by decide +kernel
theorem dX8_init_1 : decode cX8_init 1 = .ok (.invokespecial 1, 3) := by decide +kernel
theorem dX8_init_4 : decode cX8_init 4 = .ok (.aload_n 0, 1) := by decide +kernel
theorem dX8_init_5 : decode cX8_init 5 = .ok (.bipush 8, 2) := by decide +kernel
theorem dX8_init_7 : decode cX8_init 7 = .ok (.newarray .int, 2) := by decide +kernel
theorem dX8_init_9 : decode cX8_init 9 = .ok (.dup, 1) := by decide +kernel
theorem dX8_init_10 : decode cX8_init 10 = .ok (.iconst 0, 1) := by decide +kernel
theorem dX8_init_11 : decode cX8_init 11 = .ok (.iconst (-1), 1) := by decide +kernel
theorem dX8_init_12 : decode cX8_init 12 = .ok (.iastore, 1) := by decide +kernel
theorem dX8_init_13 : decode cX8_init 13 = .ok (.dup, 1) := by decide +kernel
theorem dX8_init_14 : decode cX8_init 14 = .ok (.iconst 1, 1) := by decide +kernel
theorem dX8_init_15 : decode cX8_init 15 = .ok (.iconst (-1), 1) := by decide +kernel
theorem dX8_init_16 : decode cX8_init 16 = .ok (.iastore, 1) := by decide +kernel
theorem dX8_init_17 : decode cX8_init 17 = .ok (.dup, 1) := by decide +kernel
theorem dX8_init_18 : decode cX8_init 18 = .ok (.iconst 2, 1) := by decide +kernel
theorem dX8_init_19 : decode cX8_init 19 = .ok (.iconst (-1), 1) := by decide +kernel
theorem dX8_init_20 : decode cX8_init 20 = .ok (.iastore, 1) := by decide +kernel
theorem dX8_init_21 : decode cX8_init 21 = .ok (.dup, 1) := by decide +kernel
theorem dX8_init_22 : decode cX8_init 22 = .ok (.iconst 3, 1) := by decide +kernel
theorem dX8_init_23 : decode cX8_init 23 = .ok (.iconst (-1), 1) := by decide +kernel
theorem dX8_init_24 : decode cX8_init 24 = .ok (.iastore, 1) := by decide +kernel
theorem dX8_init_25 : decode cX8_init 25 = .ok (.dup, 1) := by decide +kernel
theorem dX8_init_26 : decode cX8_init 26 = .ok (.iconst 4, 1) := by decide +kernel
theorem dX8_init_27 : decode cX8_init 27 = .ok (.iconst (-1), 1) := by decide +kernel
theorem dX8_init_28 : decode cX8_init 28 = .ok (.iastore, 1) := by decide +kernel
theorem dX8_init_29 : decode cX8_init 29 = .ok (.dup, 1) := by decide +kernel
theorem dX8_init_30 : decode cX8_init 30 = .ok (.iconst 5, 1) := by decide +kernel
theorem dX8_init_31 : decode cX8_init 31 = .ok (.iconst (-1), 1) := by decide +kernel
theorem dX8_init_32 : decode cX8_init 32 = .ok (.iastore, 1) := by decide +kernel
theorem dX8_init_33 : decode cX8_init 33 = .ok (.dup, 1) := by decide +kernel
theorem dX8_init_34 : decode cX8_init 34 = .ok (.bipush 6, 2) := by decide +kernel
theorem dX8_init_36 : decode cX8_init 36 = .ok (.iconst (-1), 1) := by decide +kernel
theorem dX8_init_37 : decode cX8_init 37 = .ok (.iastore, 1) := by decide +kernel
theorem dX8_init_38 : decode cX8_init 38 = .ok (.dup, 1) := by decide +kernel
theorem dX8_init_39 : decode cX8_init 39 = .ok (.bipush 7, 2) := by decide +kernel
theorem dX8_init_41 : decode cX8_init 41 = .ok (.iconst (-1), 1) := by decide +kernel
theorem dX8_init_42 : decode cX8_init 42 = .ok (.iastore, 1) := by decide +kernel
theorem dX8_init_43 : decode cX8_init 43 = .ok (.putfield 7, 3) := by decide +kernel
theorem dX8_init_46 : decode cX8_init 46 = .ok (.aload_n 0, 1) := by decide +kernel
theorem dX8_init_47 : decode cX8_init 47 = .ok (.bipush 8, 2) := by decide +kernel
theorem dX8_init_49 : decode cX8_init 49 = .ok (.newarray .int, 2) := by decide +kernel
theorem dX8_init_51 : decode cX8_init 51 = .ok (.putfield 13, 3) := by decide +kernel
theorem dX8_init_54 : decode cX8_init 54 = .ok (.aload_n 0, 1) := by decide +kernel
theorem dX8_init_55 : decode cX8_init 55 = .ok (.sipush 320, 3) := by decide +kernel
theorem dX8_init_58 : decode cX8_init 58 = .ok (.newarray .int, 2) := by decide +kernel
theorem dX8_init_60 : decode cX8_init 60 = .ok (.putfield 16, 3) := by decide +kernel
theorem dX8_init_63 : decode cX8_init 63 = .ok (.aload_n 0, 1) := by decide +kernel
theorem dX8_init_64 : decode cX8_init 64 = .ok (.bipush 53, 2) := by decide +kernel
theorem dX8_init_66 : decode cX8_init 66 = .ok (.newarray .int, 2) := by decide +kernel
theorem dX8_init_68 : decode cX8_init 68 = .ok (.putfield 19, 3) := by decide +kernel
theorem dX8_init_71 : decode cX8_init 71 = .ok (.aload_n 0, 1) := by decide +kernel
theorem dX8_init_72 : decode cX8_init 72 = .ok (.bipush 53, 2) := by decide +kernel
theorem dX8_init_74 : decode cX8_init 74 = .ok (.newarray .int, 2) := by decide +kernel
theorem dX8_init_76 : decode cX8_init 76 = .ok (.putfield 22, 3) := by decide +kernel
theorem dX8_init_79 : decode cX8_init 79 = .ok (.aload_n 0, 1) := by decide +kernel
theorem dX8_init_80 : decode cX8_init 80 = .ok (.bipush 53, 2) := by decide +kernel
theorem dX8_init_82 : decode cX8_init 82 = .ok (.newarray .int, 2) := by decide +kernel
theorem dX8_init_84 : decode cX8_init 84 = .ok (.putfield 25, 3) := by decide +kernel
theorem dX8_init_87 : decode cX8_init 87 = .ok (.aload_n 0, 1) := by decide +kernel
theorem dX8_init_88 : decode cX8_init 88 = .ok (.bipush 6, 2) := by decide +kernel
theorem dX8_init_90 : decode cX8_init 90 = .ok (.newarray .int, 2) := by decide +kernel
theorem dX8_init_92 : decode cX8_init 92 = .ok (.putfield 28, 3) := by decide +kernel
theorem dX8_init_95 : decode cX8_init 95 = .ok (.aload_n 0, 1) := by decide +kernel
theorem dX8_init_96 : decode cX8_init 96 = .ok (.sipush 1272, 3) := by decide +kernel
theorem dX8_init_99 : decode cX8_init 99 = .ok (.newarray .int, 2) := by decide +kernel
theorem dX8_init_101 : decode cX8_init 101 = .ok (.putfield 31, 3) := by decide +kernel
theorem dX8_init_104 : decode cX8_init 104 = .ok (.aload_n 0, 1) := by decide +kernel
theorem dX8_init_105 : decode cX8_init 105 = .ok (.bipush 100, 2) := by decide +kernel
theorem dX8_init_107 : decode cX8_init 107 = .ok (.newarray .int, 2) := by decide +kernel
theorem dX8_init_109 : decode cX8_init 109 = .ok (.putfield 34, 3) := by decide +kernel
theorem dX8_init_112 : decode cX8_init 112 = .ok (.aload_n 0, 1) := by decide +kernel
theorem dX8_init_113 : decode cX8_init 113 = .ok (.iconst 4, 1) := by decide +kernel
theorem dX8_init_114 : decode cX8_init 114 = .ok (.newarray .int, 2) := by decide +kernel
theorem dX8_init_116 : decode cX8_init 116 = .ok (.dup, 1) := by decide +kernel
theorem dX8_init_117 : decode cX8_init 117 = .ok (.iconst 0, 1) := by decide +kernel
theorem dX8_init_118 : decode cX8_init 118 = .ok (.iconst 0, 1) := by decide +kernel
theorem dX8_init_119 : decode cX8_init 119 = .ok (.iastore, 1) := by decide +kernel
theorem dX8_init_120 : decode cX8_init 120 = .ok (.dup, 1) := by decide +kernel
theorem dX8_init_121 : decode cX8_init 121 = .ok (.iconst 1, 1) := by decide +kernel
theorem dX8_init_122 : decode cX8_init 122 = .ok (.iconst 5, 1) := by decide +kernel
theorem dX8_init_123 : decode cX8_init 123 = .ok (.iastore, 1) := by decide +kernel
theorem dX8_init_124 : decode cX8_init 124 = .ok (.dup, 1) := by decide +kernel
theorem dX8_init_125 : decode cX8_init 125 = .ok (.iconst 2, 1) := by decide +kernel
theorem dX8_init_126 : decode cX8_init 126 = .ok (.bipush 10, 2) := by decide +kernel
theorem dX8_init_128 : decode cX8_init 128 = .ok (.iastore, 1) := by decide +kernel
theorem dX8_init_129 : decode cX8_init 129 = .ok (.dup, 1) := by decide +kernel
theorem dX8_init_130 : decode cX8_init 130 = .ok (.iconst 3, 1) := by decide +kernel
theorem dX8_init_131 : decode cX8_init 131 = .ok (.bipush (-5), 2) := by decide +kernel
theorem dX8_init_133 : decode cX8_init 133 = .ok (.iastore, 1) := by decide +kernel
theorem dX8_init_134 : decode cX8_init 134 = .ok (.putfield 37, 3) := by decide +kernel
theorem dX8_init_137 : decode cX8_init 137 = .ok (.aload_n 0, 1) := by decide +kernel
theorem dX8_init_138 : decode cX8_init 138 = .ok (.iconst 2, 1) := by decide +kernel
theorem dX8_init_139 : decode cX8_init 139 = .ok (.newarray .boolean, 2) := by decide +kernel
theorem dX8_init_141 : decode cX8_init 141 = .ok (.putfield 40, 3) := by decide +kernel
theorem dX8_init_144 : decode cX8_init 144 = .ok (.aload_n 0, 1) := by decide +kernel
theorem dX8_init_145 : decode cX8_init 145 = .ok (.bipush 106, 2) := by decide +kernel
theorem dX8_init_147 : decode cX8_init 147 = .ok (.newarray .int, 2) := by decide +kernel
theorem dX8_init_149 : decode cX8_init 149 = .ok (.putfield 44, 3) := by decide +kernel
theorem dX8_init_152 : decode cX8_init 152 = .ok (.aload_n 0, 1) := by decide +kernel
theorem dX8_init_153 : decode cX8_init 153 = .ok (.bipush 16, 2) := by decide +kernel
theorem dX8_init_155 : decode cX8_init 155 = .ok (.newarray .int, 2) := by decide +kernel
theorem dX8_init_157 : decode cX8_init 157 = .ok (.putfield 47, 3) := by decide +kernel
theorem dX8_init_160 : decode cX8_init 160 = .ok (.return_, 1) := by decide +kernel
theorem dX8_in_0 : decode cX8_in 0 = .ok (.lload_n 0, 1) := by decide +kernel
theorem dX8_in_1 : decode cX8_in 1 = .ok (.lload_n 2, 1) := by decide +kernel
theorem dX8_in_2 : decode cX8_in 2 = .ok (.lcmp, 1) := by decide +kernel
theorem dX8_in_3 : decode cX8_in 3 = .ok (.ifCond .lt 14, 3) := by decide +kernel
theorem dX8_in_6 : decode cX8_in 6 = .ok (.lload_n 0, 1) := by decide +kernel
theorem dX8_in_7 : decode cX8_in 7 = .ok (.lload 4, 2) := by decide +kernel
theorem dX8_in_9 : decode cX8_in 9 = .ok (.lcmp, 1) := by decide +kernel
theorem dX8_in_10 : decode cX8_in 10 = .ok (.ifCond .gt 7, 3) := by decide +kernel
theorem dX8_in_13 : decode cX8_in 13 = .ok (.iconst 1, 1) := by decide +kernel
theorem dX8_in_14 : decode cX8_in 14 = .ok (.goto 4, 3) := by decide +kernel
theorem dX8_in_17 : decode cX8_in 17 = .ok (.iconst 0, 1) := by decide +kernel
theorem dX8_in_18 : decode cX8_in 18 = .ok (.ireturn, 1) := by decide +kernel
theorem dX8_finding_0 : decode cX8_finding 0 = .ok (.aload_n 0, 1) := by decide +kernel
theorem dX8_finding_1 : decode cX8_finding 1 = .ok (.iload_n 1, 1) := by decide +kernel
theorem dX8_finding_2 : decode cX8_finding 2 = .ok (.putfield 54, 3) := by decide +kernel
theorem dX8_finding_5 : decode cX8_finding 5 = .ok (.ldc 57, 2) := by decide +kernel
theorem dX8_finding_7 : decode cX8_finding 7 = .ok (.iload_n 1, 1) := by decide +kernel
theorem dX8_finding_8 : decode cX8_finding 8 = .ok (.isub, 1) := by decide +kernel
theorem dX8_finding_9 : decode cX8_finding 9 = .ok (.ireturn, 1) := by decide +kernel
theorem dX8_isRow_0 : decode cX8_isRow 0 = .ok (.iload_n 0, 1) := by decide +kernel
theorem dX8_isRow_1 : decode cX8_isRow 1 = .ok (.i2l, 1) := by decide +kernel
theorem dX8_isRow_2 : decode cX8_isRow 2 = .ok (.lconst 0, 1) := by decide +kernel
theorem dX8_isRow_3 : decode cX8_isRow 3 = .ok (.ldc2_w 58, 3) := by decide +kernel
theorem dX8_isRow_6 : decode cX8_isRow 6 = .ok (.invokestatic 60, 3) := by decide +kernel
theorem dX8_isRow_9 : decode cX8_isRow 9 = .ok (.ireturn, 1) := by decide +kernel
theorem dX8_row_0 : decode cX8_row 0 = .ok (.aload_n 0, 1) := by decide +kernel
theorem dX8_row_1 : decode cX8_row 1 = .ok (.iconst 0, 1) := by decide +kernel
theorem dX8_row_2 : decode cX8_row 2 = .ok (.putfield 50, 3) := by decide +kernel
theorem dX8_row_5 : decode cX8_row 5 = .ok (.iload_n 1, 1) := by decide +kernel
theorem dX8_row_6 : decode cX8_row 6 = .ok (.invokestatic 64, 3) := by decide +kernel
theorem dX8_row_9 : decode cX8_row 9 = .ok (.ifCond .eq 21, 3) := by decide +kernel
theorem dX8_row_12 : decode cX8_row 12 = .ok (.iload_n 2, 1) := by decide +kernel
theorem dX8_row_13 : decode cX8_row 13 = .ok (.i2l, 1) := by decide +kernel
theorem dX8_row_14 : decode cX8_row 14 = .ok (.lconst 0, 1) := by decide +kernel
theorem dX8_row_15 : decode cX8_row 15 = .ok (.ldc2_w 68, 3) := by decide +kernel
theorem dX8_row_18 : decode cX8_row 18 = .ok (.invokestatic 60, 3) := by decide +kernel
theorem dX8_row_21 : decode cX8_row 21 = .ok (.ifCond .eq 9, 3) := by decide +kernel
theorem dX8_row_24 : decode cX8_row 24 = .ok (.iload_n 3, 1) := by decide +kernel
theorem dX8_row_25 : decode cX8_row 25 = .ok (.bipush 40, 2) := by decide +kernel
theorem dX8_row_27 : decode cX8_row 27 = .ok (.if_icmp .le 6, 3) := by decide +kernel
theorem dX8_row_30 : decode cX8_row 30 = .ok (.ldc 70, 2) := by decide +kernel
theorem dX8_row_32 : decode cX8_row 32 = .ok (.ireturn, 1) := by decide +kernel
theorem dX8_row_33 : decode cX8_row 33 = .ok (.aload_n 0, 1) := by decide +kernel
theorem dX8_row_34 : decode cX8_row 34 = .ok (.iconst 0, 1) := by decide +kernel
theorem dX8_row_35 : decode cX8_row 35 = .ok (.putfield 54, 3) := by decide +kernel
theorem dX8_row_38 : decode cX8_row 38 = .ok (.iload_n 3, 1) := by decide +kernel
theorem dX8_row_39 : decode cX8_row 39 = .ok (.ifCond .ge 9, 3) := by decide +kernel
theorem dX8_row_42 : decode cX8_row 42 = .ok (.aload_n 0, 1) := by decide +kernel
theorem dX8_row_43 : decode cX8_row 43 = .ok (.iconst 4, 1) := by decide +kernel
theorem dX8_row_44 : decode cX8_row 44 = .ok (.invokevirtual 71, 3) := by decide +kernel
theorem dX8_row_47 : decode cX8_row 47 = .ok (.ireturn, 1) := by decide +kernel
theorem dX8_row_48 : decode cX8_row 48 = .ok (.aload_n 0, 1) := by decide +kernel
theorem dX8_row_49 : decode cX8_row 49 = .ok (.getfield 7, 3) := by decide +kernel
theorem dX8_row_52 : decode cX8_row 52 = .ok (.iload_n 1, 1) := by decide +kernel
theorem dX8_row_53 : decode cX8_row 53 = .ok (.iload_n 2, 1) := by decide +kernel
theorem dX8_row_54 : decode cX8_row 54 = .ok (.iastore, 1) := by decide +kernel
theorem dX8_row_55 : decode cX8_row 55 = .ok (.aload_n 0, 1) := by decide +kernel
theorem dX8_row_56 : decode cX8_row 56 = .ok (.getfield 13, 3) := by decide +kernel
theorem dX8_row_59 : decode cX8_row 59 = .ok (.iload_n 1, 1) := by decide +kernel
theorem dX8_row_60 : decode cX8_row 60 = .ok (.iload_n 3, 1) := by decide +kernel
theorem dX8_row_61 : decode cX8_row 61 = .ok (.iastore, 1) := by decide +kernel
theorem dX8_row_62 : decode cX8_row 62 = .ok (.iconst 0, 1) := by decide +kernel
theorem dX8_row_63 : decode cX8_row 63 = .ok (.istore 4, 2) := by decide +kernel
theorem dX8_row_65 : decode cX8_row 65 = .ok (.iload 4, 2) := by decide +kernel
theorem dX8_row_67 : decode cX8_row 67 = .ok (.bipush 40, 2) := by decide +kernel
theorem dX8_row_69 : decode cX8_row 69 = .ok (.if_icmp .ge 22, 3) := by decide +kernel
theorem dX8_row_72 : decode cX8_row 72 = .ok (.aload_n 0, 1) := by decide +kernel
theorem dX8_row_73 : decode cX8_row 73 = .ok (.getfield 16, 3) := by decide +kernel
theorem dX8_row_76 : decode cX8_row 76 = .ok (.bipush 40, 2) := by decide +kernel
theorem dX8_row_78 : decode cX8_row 78 = .ok (.iload_n 1, 1) := by decide +kernel
theorem dX8_row_79 : decode cX8_row 79 = .ok (.imul, 1) := by decide +kernel
theorem dX8_row_80 : decode cX8_row 80 = .ok (.iload 4, 2) := by decide +kernel
theorem dX8_row_82 : decode cX8_row 82 = .ok (.iadd, 1) := by decide +kernel
theorem dX8_row_83 : decode cX8_row 83 = .ok (.iconst 0, 1) := by decide +kernel
theorem dX8_row_84 : decode cX8_row 84 = .ok (.iastore, 1) := by decide +kernel
theorem dX8_row_85 : decode cX8_row 85 = .ok (.iinc 4 1, 3) := by decide +kernel
theorem dX8_row_88 : decode cX8_row 88 = .ok (.goto (-23), 3) := by decide +kernel
theorem dX8_row_91 : decode cX8_row 91 = .ok (.iload_n 3, 1) := by decide +kernel
theorem dX8_row_92 : decode cX8_row 92 = .ok (.ireturn, 1) := by decide +kernel
theorem dX8_set_0 : decode cX8_set 0 = .ok (.aload_n 0, 1) := by decide +kernel
theorem dX8_set_1 : decode cX8_set 1 = .ok (.iconst 0, 1) := by decide +kernel
theorem dX8_set_2 : decode cX8_set 2 = .ok (.putfield 50, 3) := by decide +kernel
theorem dX8_set_5 : decode cX8_set 5 = .ok (.iload_n 1, 1) := by decide +kernel
theorem dX8_set_6 : decode cX8_set 6 = .ok (.invokestatic 64, 3) := by decide +kernel
theorem dX8_set_9 : decode cX8_set 9 = .ok (.ifCond .ne 6, 3) := by decide +kernel
theorem dX8_set_12 : decode cX8_set 12 = .ok (.ldc 70, 2) := by decide +kernel
theorem dX8_set_14 : decode cX8_set 14 = .ok (.ireturn, 1) := by decide +kernel
theorem dX8_set_15 : decode cX8_set 15 = .ok (.aload_n 0, 1) := by decide +kernel
theorem dX8_set_16 : decode cX8_set 16 = .ok (.iconst 0, 1) := by decide +kernel
theorem dX8_set_17 : decode cX8_set 17 = .ok (.putfield 54, 3) := by decide +kernel
theorem dX8_set_20 : decode cX8_set 20 = .ok (.aload_n 0, 1) := by decide +kernel
theorem dX8_set_21 : decode cX8_set 21 = .ok (.getfield 7, 3) := by decide +kernel
theorem dX8_set_24 : decode cX8_set 24 = .ok (.iload_n 1, 1) := by decide +kernel
theorem dX8_set_25 : decode cX8_set 25 = .ok (.iaload, 1) := by decide +kernel
theorem dX8_set_26 : decode cX8_set 26 = .ok (.ifCond .ge 9, 3) := by decide +kernel
theorem dX8_set_29 : decode cX8_set 29 = .ok (.aload_n 0, 1) := by decide +kernel
theorem dX8_set_30 : decode cX8_set 30 = .ok (.iconst 1, 1) := by decide +kernel
theorem dX8_set_31 : decode cX8_set 31 = .ok (.invokevirtual 71, 3) := by decide +kernel
theorem dX8_set_34 : decode cX8_set 34 = .ok (.ireturn, 1) := by decide +kernel
theorem dX8_set_35 : decode cX8_set 35 = .ok (.iload_n 2, 1) := by decide +kernel
theorem dX8_set_36 : decode cX8_set 36 = .ok (.i2l, 1) := by decide +kernel
theorem dX8_set_37 : decode cX8_set 37 = .ok (.lconst 0, 1) := by decide +kernel
theorem dX8_set_38 : decode cX8_set 38 = .ok (.aload_n 0, 1) := by decide +kernel
theorem dX8_set_39 : decode cX8_set 39 = .ok (.getfield 13, 3) := by decide +kernel
theorem dX8_set_42 : decode cX8_set 42 = .ok (.iload_n 1, 1) := by decide +kernel
theorem dX8_set_43 : decode cX8_set 43 = .ok (.iaload, 1) := by decide +kernel
theorem dX8_set_44 : decode cX8_set 44 = .ok (.iconst 1, 1) := by decide +kernel
theorem dX8_set_45 : decode cX8_set 45 = .ok (.isub, 1) := by decide +kernel
theorem dX8_set_46 : decode cX8_set 46 = .ok (.i2l, 1) := by decide +kernel
theorem dX8_set_47 : decode cX8_set 47 = .ok (.invokestatic 60, 3) := by decide +kernel
theorem dX8_set_50 : decode cX8_set 50 = .ok (.ifCond .ne 9, 3) := by decide +kernel
theorem dX8_set_53 : decode cX8_set 53 = .ok (.aload_n 0, 1) := by decide +kernel
theorem dX8_set_54 : decode cX8_set 54 = .ok (.iconst 2, 1) := by decide +kernel
theorem dX8_set_55 : decode cX8_set 55 = .ok (.invokevirtual 71, 3) := by decide +kernel
theorem dX8_set_58 : decode cX8_set 58 = .ok (.ireturn, 1) := by decide +kernel
theorem dX8_set_59 : decode cX8_set 59 = .ok (.aload_n 0, 1) := by decide +kernel
theorem dX8_set_60 : decode cX8_set 60 = .ok (.getfield 16, 3) := by decide +kernel
theorem dX8_set_63 : decode cX8_set 63 = .ok (.bipush 40, 2) := by decide +kernel
theorem dX8_set_65 : decode cX8_set 65 = .ok (.iload_n 1, 1) := by decide +kernel
theorem dX8_set_66 : decode cX8_set 66 = .ok (.imul, 1) := by decide +kernel
theorem dX8_set_67 : decode cX8_set 67 = .ok (.iload_n 2, 1) := by decide +kernel
theorem dX8_set_68 : decode cX8_set 68 = .ok (.iadd, 1) := by decide +kernel
theorem dX8_set_69 : decode cX8_set 69 = .ok (.aload_n 0, 1) := by decide +kernel
theorem dX8_set_70 : decode cX8_set 70 = .ok (.getfield 7, 3) := by decide +kernel
theorem dX8_set_73 : decode cX8_set 73 = .ok (.iload_n 1, 1) := by decide +kernel
theorem dX8_set_74 : decode cX8_set 74 = .ok (.iaload, 1) := by decide +kernel
theorem dX8_set_75 : decode cX8_set 75 = .ok (.ifCond .ne 8, 3) := by decide +kernel
theorem dX8_set_78 : decode cX8_set 78 = .ok (.iload_n 3, 1) := by decide +kernel
theorem dX8_set_79 : decode cX8_set 79 = .ok (.i2b, 1) := by decide +kernel
theorem dX8_set_80 : decode cX8_set 80 = .ok (.goto 19, 3) := by decide +kernel
theorem dX8_set_83 : decode cX8_set 83 = .ok (.aload_n 0, 1) := by decide +kernel
theorem dX8_set_84 : decode cX8_set 84 = .ok (.getfield 7, 3) := by decide +kernel
theorem dX8_set_87 : decode cX8_set 87 = .ok (.iload_n 1, 1) := by decide +kernel
theorem dX8_set_88 : decode cX8_set 88 = .ok (.iaload, 1) := by decide +kernel
theorem dX8_set_89 : decode cX8_set 89 = .ok (.iconst 1, 1) := by decide +kernel
theorem dX8_set_90 : decode cX8_set 90 = .ok (.if_icmp .ne 8, 3) := by decide +kernel
theorem dX8_set_93 : decode cX8_set 93 = .ok (.iload_n 3, 1) := by decide +kernel
theorem dX8_set_94 : decode cX8_set 94 = .ok (.i2s, 1) := by decide +kernel
theorem dX8_set_95 : decode cX8_set 95 = .ok (.goto 4, 3) := by decide +kernel
theorem dX8_set_98 : decode cX8_set 98 = .ok (.iload_n 3, 1) := by decide +kernel
theorem dX8_set_99 : decode cX8_set 99 = .ok (.iastore, 1) := by decide +kernel
theorem dX8_set_100 : decode cX8_set 100 = .ok (.aload_n 0, 1) := by decide +kernel
theorem dX8_set_101 : decode cX8_set 101 = .ok (.getfield 16, 3) := by decide +kernel
theorem dX8_set_104 : decode cX8_set 104 = .ok (.bipush 40, 2) := by decide +kernel
theorem dX8_set_106 : decode cX8_set 106 = .ok (.iload_n 1, 1) := by decide +kernel
theorem dX8_set_107 : decode cX8_set 107 = .ok (.imul, 1) := by decide +kernel
theorem dX8_set_108 : decode cX8_set 108 = .ok (.iload_n 2, 1) := by decide +kernel
theorem dX8_set_109 : decode cX8_set 109 = .ok (.iadd, 1) := by decide +kernel
theorem dX8_set_110 : decode cX8_set 110 = .ok (.iaload, 1) := by decide +kernel
theorem dX8_set_111 : decode cX8_set 111 = .ok (.ireturn, 1) := by decide +kernel
theorem dX8_copy_0 : decode cX8_copy 0 = .ok (.aload_n 0, 1) := by decide +kernel
theorem dX8_copy_1 : decode cX8_copy 1 = .ok (.iconst 0, 1) := by decide +kernel
theorem dX8_copy_2 : decode cX8_copy 2 = .ok (.putfield 50, 3) := by decide +kernel
theorem dX8_copy_5 : decode cX8_copy 5 = .ok (.iload_n 1, 1) := by decide +kernel
theorem dX8_copy_6 : decode cX8_copy 6 = .ok (.invokestatic 64, 3) := by decide +kernel
theorem dX8_copy_9 : decode cX8_copy 9 = .ok (.ifCond .eq 10, 3) := by decide +kernel
theorem dX8_copy_12 : decode cX8_copy 12 = .ok (.iload_n 3, 1) := by decide +kernel
theorem dX8_copy_13 : decode cX8_copy 13 = .ok (.invokestatic 64, 3) := by decide +kernel
theorem dX8_copy_16 : decode cX8_copy 16 = .ok (.ifCond .ne 6, 3) := by decide +kernel
theorem dX8_copy_19 : decode cX8_copy 19 = .ok (.ldc 70, 2) := by decide +kernel
theorem dX8_copy_21 : decode cX8_copy 21 = .ok (.ireturn, 1) := by decide +kernel
theorem dX8_copy_22 : decode cX8_copy 22 = .ok (.aload_n 0, 1) := by decide +kernel
theorem dX8_copy_23 : decode cX8_copy 23 = .ok (.iconst 0, 1) := by decide +kernel
theorem dX8_copy_24 : decode cX8_copy 24 = .ok (.putfield 54, 3) := by decide +kernel
theorem dX8_copy_27 : decode cX8_copy 27 = .ok (.aload_n 0, 1) := by decide +kernel
theorem dX8_copy_28 : decode cX8_copy 28 = .ok (.getfield 7, 3) := by decide +kernel
theorem dX8_copy_31 : decode cX8_copy 31 = .ok (.iload_n 1, 1) := by decide +kernel
theorem dX8_copy_32 : decode cX8_copy 32 = .ok (.iaload, 1) := by decide +kernel
theorem dX8_copy_33 : decode cX8_copy 33 = .ok (.ifCond .lt 12, 3) := by decide +kernel
theorem dX8_copy_36 : decode cX8_copy 36 = .ok (.aload_n 0, 1) := by decide +kernel
theorem dX8_copy_37 : decode cX8_copy 37 = .ok (.getfield 7, 3) := by decide +kernel
theorem dX8_copy_40 : decode cX8_copy 40 = .ok (.iload_n 3, 1) := by decide +kernel
theorem dX8_copy_41 : decode cX8_copy 41 = .ok (.iaload, 1) := by decide +kernel
theorem dX8_copy_42 : decode cX8_copy 42 = .ok (.ifCond .ge 9, 3) := by decide +kernel
theorem dX8_copy_45 : decode cX8_copy 45 = .ok (.aload_n 0, 1) := by decide +kernel
theorem dX8_copy_46 : decode cX8_copy 46 = .ok (.iconst 1, 1) := by decide +kernel
theorem dX8_copy_47 : decode cX8_copy 47 = .ok (.invokevirtual 71, 3) := by decide +kernel
theorem dX8_copy_50 : decode cX8_copy 50 = .ok (.ireturn, 1) := by decide +kernel
theorem dX8_copy_51 : decode cX8_copy 51 = .ok (.aload_n 0, 1) := by decide +kernel
theorem dX8_copy_52 : decode cX8_copy 52 = .ok (.getfield 7, 3) := by decide +kernel
theorem dX8_copy_55 : decode cX8_copy 55 = .ok (.iload_n 1, 1) := by decide +kernel
theorem dX8_copy_56 : decode cX8_copy 56 = .ok (.iaload, 1) := by decide +kernel
theorem dX8_copy_57 : decode cX8_copy 57 = .ok (.aload_n 0, 1) := by decide +kernel
theorem dX8_copy_58 : decode cX8_copy 58 = .ok (.getfield 7, 3) := by decide +kernel
theorem dX8_copy_61 : decode cX8_copy 61 = .ok (.iload_n 3, 1) := by decide +kernel
theorem dX8_copy_62 : decode cX8_copy 62 = .ok (.iaload, 1) := by decide +kernel
theorem dX8_copy_63 : decode cX8_copy 63 = .ok (.if_icmp .eq 9, 3) := by decide +kernel
theorem dX8_copy_66 : decode cX8_copy 66 = .ok (.aload_n 0, 1) := by decide +kernel
theorem dX8_copy_67 : decode cX8_copy 67 = .ok (.iconst 5, 1) := by decide +kernel
theorem dX8_copy_68 : decode cX8_copy 68 = .ok (.invokevirtual 71, 3) := by decide +kernel
theorem dX8_copy_71 : decode cX8_copy 71 = .ok (.ireturn, 1) := by decide +kernel
theorem dX8_copy_72 : decode cX8_copy 72 = .ok (.iload_n 2, 1) := by decide +kernel
theorem dX8_copy_73 : decode cX8_copy 73 = .ok (.ifCond .lt 48, 3) := by decide +kernel
theorem dX8_copy_76 : decode cX8_copy 76 = .ok (.iload 4, 2) := by decide +kernel
theorem dX8_copy_78 : decode cX8_copy 78 = .ok (.ifCond .lt 43, 3) := by decide +kernel
theorem dX8_copy_81 : decode cX8_copy 81 = .ok (.iload 5, 2) := by decide +kernel
theorem dX8_copy_83 : decode cX8_copy 83 = .ok (.ifCond .lt 38, 3) := by decide +kernel
theorem dX8_copy_86 : decode cX8_copy 86 = .ok (.iload_n 2, 1) := by decide +kernel
theorem dX8_copy_87 : decode cX8_copy 87 = .ok (.i2l, 1) := by decide +kernel
theorem dX8_copy_88 : decode cX8_copy 88 = .ok (.iload 5, 2) := by decide +kernel
theorem dX8_copy_90 : decode cX8_copy 90 = .ok (.i2l, 1) := by decide +kernel
theorem dX8_copy_91 : decode cX8_copy 91 = .ok (.ladd, 1) := by decide +kernel
theorem dX8_copy_92 : decode cX8_copy 92 = .ok (.aload_n 0, 1) := by decide +kernel
theorem dX8_copy_93 : decode cX8_copy 93 = .ok (.getfield 13, 3) := by decide +kernel
theorem dX8_copy_96 : decode cX8_copy 96 = .ok (.iload_n 1, 1) := by decide +kernel
theorem dX8_copy_97 : decode cX8_copy 97 = .ok (.iaload, 1) := by decide +kernel
theorem dX8_copy_98 : decode cX8_copy 98 = .ok (.i2l, 1) := by decide +kernel
theorem dX8_copy_99 : decode cX8_copy 99 = .ok (.lcmp, 1) := by decide +kernel
theorem dX8_copy_100 : decode cX8_copy 100 = .ok (.ifCond .gt 21, 3) := by decide +kernel
theorem dX8_copy_103 : decode cX8_copy 103 = .ok (.iload 4, 2) := by decide +kernel
theorem dX8_copy_105 : decode cX8_copy 105 = .ok (.i2l, 1) := by decide +kernel
theorem dX8_copy_106 : decode cX8_copy 106 = .ok (.iload 5, 2) := by decide +kernel
theorem dX8_copy_108 : decode cX8_copy 108 = .ok (.i2l, 1) := by decide +kernel
theorem dX8_copy_109 : decode cX8_copy 109 = .ok (.ladd, 1) := by decide +kernel
theorem dX8_copy_110 : decode cX8_copy 110 = .ok (.aload_n 0, 1) := by decide +kernel
theorem dX8_copy_111 : decode cX8_copy 111 = .ok (.getfield 13, 3) := by decide +kernel
theorem dX8_copy_114 : decode cX8_copy 114 = .ok (.iload_n 3, 1) := by decide +kernel
theorem dX8_copy_115 : decode cX8_copy 115 = .ok (.iaload, 1) := by decide +kernel
theorem dX8_copy_116 : decode cX8_copy 116 = .ok (.i2l, 1) := by decide +kernel
theorem dX8_copy_117 : decode cX8_copy 117 = .ok (.lcmp, 1) := by decide +kernel
theorem dX8_copy_118 : decode cX8_copy 118 = .ok (.ifCond .le 9, 3) := by decide +kernel
theorem dX8_copy_121 : decode cX8_copy 121 = .ok (.aload_n 0, 1) := by decide +kernel
theorem dX8_copy_122 : decode cX8_copy 122 = .ok (.iconst 2, 1) := by decide +kernel
theorem dX8_copy_123 : decode cX8_copy 123 = .ok (.invokevirtual 71, 3) := by decide +kernel
theorem dX8_copy_126 : decode cX8_copy 126 = .ok (.ireturn, 1) := by decide +kernel
theorem dX8_copy_127 : decode cX8_copy 127 = .ok (.iload_n 2, 1) := by decide +kernel
theorem dX8_copy_128 : decode cX8_copy 128 = .ok (.iload 4, 2) := by decide +kernel
theorem dX8_copy_130 : decode cX8_copy 130 = .ok (.if_icmp .lt 7, 3) := by decide +kernel
theorem dX8_copy_133 : decode cX8_copy 133 = .ok (.iconst 1, 1) := by decide +kernel
theorem dX8_copy_134 : decode cX8_copy 134 = .ok (.goto 4, 3) := by decide +kernel
theorem dX8_copy_137 : decode cX8_copy 137 = .ok (.iconst 0, 1) := by decide +kernel
theorem dX8_copy_138 : decode cX8_copy 138 = .ok (.istore 6, 2) := by decide +kernel
theorem dX8_copy_140 : decode cX8_copy 140 = .ok (.iconst 0, 1) := by decide +kernel
theorem dX8_copy_141 : decode cX8_copy 141 = .ok (.istore 7, 2) := by decide +kernel
theorem dX8_copy_143 : decode cX8_copy 143 = .ok (.iload 7, 2) := by decide +kernel
theorem dX8_copy_145 : decode cX8_copy 145 = .ok (.iload 5, 2) := by decide +kernel
theorem dX8_copy_147 : decode cX8_copy 147 = .ok (.if_icmp .ge 57, 3) := by decide +kernel
theorem dX8_copy_150 : decode cX8_copy 150 = .ok (.iload 6, 2) := by decide +kernel
theorem dX8_copy_152 : decode cX8_copy 152 = .ok (.ifCond .eq 8, 3) := by decide +kernel
theorem dX8_copy_155 : decode cX8_copy 155 = .ok (.iload 7, 2) := by decide +kernel
theorem dX8_copy_157 : decode cX8_copy 157 = .ok (.goto 10, 3) := by decide +kernel
theorem dX8_copy_160 : decode cX8_copy 160 = .ok (.iload 5, 2) := by decide +kernel
theorem dX8_copy_162 : decode cX8_copy 162 = .ok (.iconst 1, 1) := by decide +kernel
theorem dX8_copy_163 : decode cX8_copy 163 = .ok (.isub, 1) := by decide +kernel
theorem dX8_copy_164 : decode cX8_copy 164 = .ok (.iload 7, 2) := by decide +kernel
theorem dX8_copy_166 : decode cX8_copy 166 = .ok (.isub, 1) := by decide +kernel
theorem dX8_copy_167 : decode cX8_copy 167 = .ok (.istore 8, 2) := by decide +kernel
theorem dX8_copy_169 : decode cX8_copy 169 = .ok (.aload_n 0, 1) := by decide +kernel
theorem dX8_copy_170 : decode cX8_copy 170 = .ok (.getfield 16, 3) := by decide +kernel
theorem dX8_copy_173 : decode cX8_copy 173 = .ok (.bipush 40, 2) := by decide +kernel
theorem dX8_copy_175 : decode cX8_copy 175 = .ok (.iload_n 3, 1) := by decide +kernel
theorem dX8_copy_176 : decode cX8_copy 176 = .ok (.imul, 1) := by decide +kernel
theorem dX8_copy_177 : decode cX8_copy 177 = .ok (.iload 4, 2) := by decide +kernel
theorem dX8_copy_179 : decode cX8_copy 179 = .ok (.iadd, 1) := by decide +kernel
theorem dX8_copy_180 : decode cX8_copy 180 = .ok (.iload 8, 2) := by decide +kernel
theorem dX8_copy_182 : decode cX8_copy 182 = .ok (.iadd, 1) := by decide +kernel
theorem dX8_copy_183 : decode cX8_copy 183 = .ok (.aload_n 0, 1) := by decide +kernel
theorem dX8_copy_184 : decode cX8_copy 184 = .ok (.getfield 16, 3) := by decide +kernel
theorem dX8_copy_187 : decode cX8_copy 187 = .ok (.bipush 40, 2) := by decide +kernel
theorem dX8_copy_189 : decode cX8_copy 189 = .ok (.iload_n 1, 1) := by decide +kernel
theorem dX8_copy_190 : decode cX8_copy 190 = .ok (.imul, 1) := by decide +kernel
theorem dX8_copy_191 : decode cX8_copy 191 = .ok (.iload_n 2, 1) := by decide +kernel
theorem dX8_copy_192 : decode cX8_copy 192 = .ok (.iadd, 1) := by decide +kernel
theorem dX8_copy_193 : decode cX8_copy 193 = .ok (.iload 8, 2) := by decide +kernel
theorem dX8_copy_195 : decode cX8_copy 195 = .ok (.iadd, 1) := by decide +kernel
theorem dX8_copy_196 : decode cX8_copy 196 = .ok (.iaload, 1) := by decide +kernel
theorem dX8_copy_197 : decode cX8_copy 197 = .ok (.iastore, 1) := by decide +kernel
theorem dX8_copy_198 : decode cX8_copy 198 = .ok (.iinc 7 1, 3) := by decide +kernel
theorem dX8_copy_201 : decode cX8_copy 201 = .ok (.goto (-58), 3) := by decide +kernel
theorem dX8_copy_204 : decode cX8_copy 204 = .ok (.iload 5, 2) := by decide +kernel
theorem dX8_copy_206 : decode cX8_copy 206 = .ok (.ireturn, 1) := by decide +kernel
theorem dX8_drop_0 : decode cX8_drop 0 = .ok (.aload_n 0, 1) := by decide +kernel
theorem dX8_drop_1 : decode cX8_drop 1 = .ok (.iconst 0, 1) := by decide +kernel
theorem dX8_drop_2 : decode cX8_drop 2 = .ok (.putfield 50, 3) := by decide +kernel
theorem dX8_drop_5 : decode cX8_drop 5 = .ok (.iload_n 1, 1) := by decide +kernel
theorem dX8_drop_6 : decode cX8_drop 6 = .ok (.invokestatic 64, 3) := by decide +kernel
theorem dX8_drop_9 : decode cX8_drop 9 = .ok (.ifCond .ne 6, 3) := by decide +kernel
theorem dX8_drop_12 : decode cX8_drop 12 = .ok (.ldc 70, 2) := by decide +kernel
theorem dX8_drop_14 : decode cX8_drop 14 = .ok (.ireturn, 1) := by decide +kernel
theorem dX8_drop_15 : decode cX8_drop 15 = .ok (.aload_n 0, 1) := by decide +kernel
theorem dX8_drop_16 : decode cX8_drop 16 = .ok (.iconst 0, 1) := by decide +kernel
theorem dX8_drop_17 : decode cX8_drop 17 = .ok (.putfield 54, 3) := by decide +kernel
theorem dX8_drop_20 : decode cX8_drop 20 = .ok (.aload_n 0, 1) := by decide +kernel
theorem dX8_drop_21 : decode cX8_drop 21 = .ok (.getfield 7, 3) := by decide +kernel
theorem dX8_drop_24 : decode cX8_drop 24 = .ok (.iload_n 1, 1) := by decide +kernel
theorem dX8_drop_25 : decode cX8_drop 25 = .ok (.iaload, 1) := by decide +kernel
theorem dX8_drop_26 : decode cX8_drop 26 = .ok (.ifCond .ge 9, 3) := by decide +kernel
theorem dX8_drop_29 : decode cX8_drop 29 = .ok (.aload_n 0, 1) := by decide +kernel
theorem dX8_drop_30 : decode cX8_drop 30 = .ok (.iconst 1, 1) := by decide +kernel
theorem dX8_drop_31 : decode cX8_drop 31 = .ok (.invokevirtual 71, 3) := by decide +kernel
theorem dX8_drop_34 : decode cX8_drop 34 = .ok (.ireturn, 1) := by decide +kernel
theorem dX8_drop_35 : decode cX8_drop 35 = .ok (.aload_n 0, 1) := by decide +kernel
theorem dX8_drop_36 : decode cX8_drop 36 = .ok (.getfield 7, 3) := by decide +kernel
theorem dX8_drop_39 : decode cX8_drop 39 = .ok (.iload_n 1, 1) := by decide +kernel
theorem dX8_drop_40 : decode cX8_drop 40 = .ok (.iconst (-1), 1) := by decide +kernel
theorem dX8_drop_41 : decode cX8_drop 41 = .ok (.iastore, 1) := by decide +kernel
theorem dX8_drop_42 : decode cX8_drop 42 = .ok (.aload_n 0, 1) := by decide +kernel
theorem dX8_drop_43 : decode cX8_drop 43 = .ok (.getfield 13, 3) := by decide +kernel
theorem dX8_drop_46 : decode cX8_drop 46 = .ok (.iload_n 1, 1) := by decide +kernel
theorem dX8_drop_47 : decode cX8_drop 47 = .ok (.iaload, 1) := by decide +kernel
theorem dX8_drop_48 : decode cX8_drop 48 = .ok (.ireturn, 1) := by decide +kernel
theorem dX8_feed_0 : decode cX8_feed 0 = .ok (.aload_n 0, 1) := by decide +kernel
theorem dX8_feed_1 : decode cX8_feed 1 = .ok (.iconst 0, 1) := by decide +kernel
theorem dX8_feed_2 : decode cX8_feed 2 = .ok (.putfield 50, 3) := by decide +kernel
theorem dX8_feed_5 : decode cX8_feed 5 = .ok (.iload_n 1, 1) := by decide +kernel
theorem dX8_feed_6 : decode cX8_feed 6 = .ok (.i2l, 1) := by decide +kernel
theorem dX8_feed_7 : decode cX8_feed 7 = .ok (.lconst 0, 1) := by decide +kernel
theorem dX8_feed_8 : decode cX8_feed 8 = .ok (.ldc2_w 75, 3) := by decide +kernel
theorem dX8_feed_11 : decode cX8_feed 11 = .ok (.invokestatic 60, 3) := by decide +kernel
theorem dX8_feed_14 : decode cX8_feed 14 = .ok (.ifCond .ne 6, 3) := by decide +kernel
theorem dX8_feed_17 : decode cX8_feed 17 = .ok (.ldc 70, 2) := by decide +kernel
theorem dX8_feed_19 : decode cX8_feed 19 = .ok (.ireturn, 1) := by decide +kernel
theorem dX8_feed_20 : decode cX8_feed 20 = .ok (.aload_n 0, 1) := by decide +kernel
theorem dX8_feed_21 : decode cX8_feed 21 = .ok (.getfield 77, 3) := by decide +kernel
theorem dX8_feed_24 : decode cX8_feed 24 = .ok (.bipush 100, 2) := by decide +kernel
theorem dX8_feed_26 : decode cX8_feed 26 = .ok (.if_icmp .ne 6, 3) := by decide +kernel
theorem dX8_feed_29 : decode cX8_feed 29 = .ok (.ldc 80, 2) := by decide +kernel
theorem dX8_feed_31 : decode cX8_feed 31 = .ok (.ireturn, 1) := by decide +kernel
theorem dX8_feed_32 : decode cX8_feed 32 = .ok (.aload_n 0, 1) := by decide +kernel
theorem dX8_feed_33 : decode cX8_feed 33 = .ok (.getfield 34, 3) := by decide +kernel
theorem dX8_feed_36 : decode cX8_feed 36 = .ok (.aload_n 0, 1) := by decide +kernel
theorem dX8_feed_37 : decode cX8_feed 37 = .ok (.getfield 77, 3) := by decide +kernel
theorem dX8_feed_40 : decode cX8_feed 40 = .ok (.iload_n 1, 1) := by decide +kernel
theorem dX8_feed_41 : decode cX8_feed 41 = .ok (.iastore, 1) := by decide +kernel
theorem dX8_feed_42 : decode cX8_feed 42 = .ok (.aload_n 0, 1) := by decide +kernel
theorem dX8_feed_43 : decode cX8_feed 43 = .ok (.dup, 1) := by decide +kernel
theorem dX8_feed_44 : decode cX8_feed 44 = .ok (.getfield 77, 3) := by decide +kernel
theorem dX8_feed_47 : decode cX8_feed 47 = .ok (.iconst 1, 1) := by decide +kernel
theorem dX8_feed_48 : decode cX8_feed 48 = .ok (.iadd, 1) := by decide +kernel
theorem dX8_feed_49 : decode cX8_feed 49 = .ok (.putfield 77, 3) := by decide +kernel
theorem dX8_feed_52 : decode cX8_feed 52 = .ok (.aload_n 0, 1) := by decide +kernel
theorem dX8_feed_53 : decode cX8_feed 53 = .ok (.getfield 77, 3) := by decide +kernel
theorem dX8_feed_56 : decode cX8_feed 56 = .ok (.ireturn, 1) := by decide +kernel
theorem dX8_bad_0 : decode cX8_bad 0 = .ok (.aload_n 0, 1) := by decide +kernel
theorem dX8_bad_1 : decode cX8_bad 1 = .ok (.getfield 81, 3) := by decide +kernel
theorem dX8_bad_4 : decode cX8_bad 4 = .ok (.ifCond .ne 16, 3) := by decide +kernel
theorem dX8_bad_7 : decode cX8_bad 7 = .ok (.aload_n 0, 1) := by decide +kernel
theorem dX8_bad_8 : decode cX8_bad 8 = .ok (.iload_n 1, 1) := by decide +kernel
theorem dX8_bad_9 : decode cX8_bad 9 = .ok (.putfield 81, 3) := by decide +kernel
theorem dX8_bad_12 : decode cX8_bad 12 = .ok (.aload_n 0, 1) := by decide +kernel
theorem dX8_bad_13 : decode cX8_bad 13 = .ok (.aload_n 0, 1) := by decide +kernel
theorem dX8_bad_14 : decode cX8_bad 14 = .ok (.getfield 84, 3) := by decide +kernel
theorem dX8_bad_17 : decode cX8_bad 17 = .ok (.putfield 87, 3) := by decide +kernel
theorem dX8_bad_20 : decode cX8_bad 20 = .ok (.return_, 1) := by decide +kernel
theorem dX8_nextToken_0 : decode cX8_nextToken 0 = .ok (.aload_n 0, 1) := by decide +kernel
theorem dX8_nextToken_1 : decode cX8_nextToken 1 = .ok (.aload_n 0, 1) := by decide +kernel
theorem dX8_nextToken_2 : decode cX8_nextToken 2 = .ok (.getfield 90, 3) := by decide +kernel
theorem dX8_nextToken_5 : decode cX8_nextToken 5 = .ok (.putfield 84, 3) := by decide +kernel
theorem dX8_nextToken_8 : decode cX8_nextToken 8 = .ok (.aload_n 0, 1) := by decide +kernel
theorem dX8_nextToken_9 : decode cX8_nextToken 9 = .ok (.aload_n 0, 1) := by decide +kernel
theorem dX8_nextToken_10 : decode cX8_nextToken 10 = .ok (.getfield 90, 3) := by decide +kernel
theorem dX8_nextToken_13 : decode cX8_nextToken 13 = .ok (.aload_n 0, 1) := by decide +kernel
theorem dX8_nextToken_14 : decode cX8_nextToken 14 = .ok (.getfield 77, 3) := by decide +kernel
theorem dX8_nextToken_17 : decode cX8_nextToken 17 = .ok (.if_icmp .ge 15, 3) := by decide +kernel
theorem dX8_nextToken_20 : decode cX8_nextToken 20 = .ok (.aload_n 0, 1) := by decide +kernel
theorem dX8_nextToken_21 : decode cX8_nextToken 21 = .ok (.getfield 34, 3) := by decide +kernel
theorem dX8_nextToken_24 : decode cX8_nextToken 24 = .ok (.aload_n 0, 1) := by decide +kernel
theorem dX8_nextToken_25 : decode cX8_nextToken 25 = .ok (.getfield 90, 3) := by decide +kernel
theorem dX8_nextToken_28 : decode cX8_nextToken 28 = .ok (.iaload, 1) := by decide +kernel
theorem dX8_nextToken_29 : decode cX8_nextToken 29 = .ok (.goto 5, 3) := by decide +kernel
theorem dX8_nextToken_32 : decode cX8_nextToken 32 = .ok (.ldc 93, 2) := by decide +kernel
theorem dX8_nextToken_34 : decode cX8_nextToken 34 = .ok (.putfield 94, 3) := by decide +kernel
theorem dX8_nextToken_37 : decode cX8_nextToken 37 = .ok (.aload_n 0, 1) := by decide +kernel
theorem dX8_nextToken_38 : decode cX8_nextToken 38 = .ok (.aload_n 0, 1) := by decide +kernel
theorem dX8_nextToken_39 : decode cX8_nextToken 39 = .ok (.getfield 90, 3) := by decide +kernel
theorem dX8_nextToken_42 : decode cX8_nextToken 42 = .ok (.aload_n 0, 1) := by decide +kernel
theorem dX8_nextToken_43 : decode cX8_nextToken 43 = .ok (.getfield 77, 3) := by decide +kernel
theorem dX8_nextToken_46 : decode cX8_nextToken 46 = .ok (.if_icmp .ne 7, 3) := by decide +kernel
theorem dX8_nextToken_49 : decode cX8_nextToken 49 = .ok (.iconst 1, 1) := by decide +kernel
theorem dX8_nextToken_50 : decode cX8_nextToken 50 = .ok (.goto 68, 3) := by decide +kernel
theorem dX8_nextToken_53 : decode cX8_nextToken 53 = .ok (.aload_n 0, 1) := by decide +kernel
theorem dX8_nextToken_54 : decode cX8_nextToken 54 = .ok (.getfield 94, 3) := by decide +kernel
theorem dX8_nextToken_57 : decode cX8_nextToken 57 = .ok (.i2l, 1) := by decide +kernel
theorem dX8_nextToken_58 : decode cX8_nextToken 58 = .ok (.ldc2_w 97, 3) := by decide +kernel
theorem dX8_nextToken_61 : decode cX8_nextToken 61 = .ok (.ldc2_w 99, 3) := by decide +kernel
theorem dX8_nextToken_64 : decode cX8_nextToken 64 = .ok (.invokestatic 60, 3) := by decide +kernel
theorem dX8_nextToken_67 : decode cX8_nextToken 67 = .ok (.ifCond .eq 7, 3) := by decide +kernel
theorem dX8_nextToken_70 : decode cX8_nextToken 70 = .ok (.iconst 2, 1) := by decide +kernel
theorem dX8_nextToken_71 : decode cX8_nextToken 71 = .ok (.goto 47, 3) := by decide +kernel
theorem dX8_nextToken_74 : decode cX8_nextToken 74 = .ok (.aload_n 0, 1) := by decide +kernel
theorem dX8_nextToken_75 : decode cX8_nextToken 75 = .ok (.getfield 94, 3) := by decide +kernel
theorem dX8_nextToken_78 : decode cX8_nextToken 78 = .ok (.i2l, 1) := by decide +kernel
theorem dX8_nextToken_79 : decode cX8_nextToken 79 = .ok (.ldc2_w 101, 3) := by decide +kernel
theorem dX8_nextToken_82 : decode cX8_nextToken 82 = .ok (.ldc2_w 103, 3) := by decide +kernel
theorem dX8_nextToken_85 : decode cX8_nextToken 85 = .ok (.invokestatic 60, 3) := by decide +kernel
theorem dX8_nextToken_88 : decode cX8_nextToken 88 = .ok (.ifCond .eq 7, 3) := by decide +kernel
theorem dX8_nextToken_91 : decode cX8_nextToken 91 = .ok (.iconst 3, 1) := by decide +kernel
theorem dX8_nextToken_92 : decode cX8_nextToken 92 = .ok (.goto 26, 3) := by decide +kernel
theorem dX8_nextToken_95 : decode cX8_nextToken 95 = .ok (.aload_n 0, 1) := by decide +kernel
theorem dX8_nextToken_96 : decode cX8_nextToken 96 = .ok (.getfield 94, 3) := by decide +kernel
theorem dX8_nextToken_99 : decode cX8_nextToken 99 = .ok (.bipush 44, 2) := by decide +kernel
theorem dX8_nextToken_101 : decode cX8_nextToken 101 = .ok (.if_icmp .eq 12, 3) := by decide +kernel
theorem dX8_nextToken_104 : decode cX8_nextToken 104 = .ok (.aload_n 0, 1) := by decide +kernel
theorem dX8_nextToken_105 : decode cX8_nextToken 105 = .ok (.getfield 94, 3) := by decide +kernel
theorem dX8_nextToken_108 : decode cX8_nextToken 108 = .ok (.bipush 59, 2) := by decide +kernel
theorem dX8_nextToken_110 : decode cX8_nextToken 110 = .ok (.if_icmp .ne 7, 3) := by decide +kernel
theorem dX8_nextToken_113 : decode cX8_nextToken 113 = .ok (.iconst 4, 1) := by decide +kernel
theorem dX8_nextToken_114 : decode cX8_nextToken 114 = .ok (.goto 4, 3) := by decide +kernel
theorem dX8_nextToken_117 : decode cX8_nextToken 117 = .ok (.iconst 0, 1) := by decide +kernel
theorem dX8_nextToken_118 : decode cX8_nextToken 118 = .ok (.putfield 105, 3) := by decide +kernel
theorem dX8_nextToken_121 : decode cX8_nextToken 121 = .ok (.aload_n 0, 1) := by decide +kernel
theorem dX8_nextToken_122 : decode cX8_nextToken 122 = .ok (.dup, 1) := by decide +kernel
theorem dX8_nextToken_123 : decode cX8_nextToken 123 = .ok (.getfield 90, 3) := by decide +kernel
theorem dX8_nextToken_126 : decode cX8_nextToken 126 = .ok (.aload_n 0, 1) := by decide +kernel
theorem dX8_nextToken_127 : decode cX8_nextToken 127 = .ok (.getfield 90, 3) := by decide +kernel
theorem dX8_nextToken_130 : decode cX8_nextToken 130 = .ok (.aload_n 0, 1) := by decide +kernel
theorem dX8_nextToken_131 : decode cX8_nextToken 131 = .ok (.getfield 77, 3) := by decide +kernel
theorem dX8_nextToken_134 : decode cX8_nextToken 134 = .ok (.if_icmp .ge 7, 3) := by decide +kernel
theorem dX8_nextToken_137 : decode cX8_nextToken 137 = .ok (.iconst 1, 1) := by decide +kernel
theorem dX8_nextToken_138 : decode cX8_nextToken 138 = .ok (.goto 4, 3) := by decide +kernel
theorem dX8_nextToken_141 : decode cX8_nextToken 141 = .ok (.iconst 0, 1) := by decide +kernel
theorem dX8_nextToken_142 : decode cX8_nextToken 142 = .ok (.iadd, 1) := by decide +kernel
theorem dX8_nextToken_143 : decode cX8_nextToken 143 = .ok (.putfield 90, 3) := by decide +kernel
theorem dX8_nextToken_146 : decode cX8_nextToken 146 = .ok (.aload_n 0, 1) := by decide +kernel
theorem dX8_nextToken_147 : decode cX8_nextToken 147 = .ok (.getfield 105, 3) := by decide +kernel
theorem dX8_nextToken_150 : decode cX8_nextToken 150 = .ok (.iconst 3, 1) := by decide +kernel
theorem dX8_nextToken_151 : decode cX8_nextToken 151 = .ok (.if_icmp .ne 126, 3) := by decide +kernel
theorem dX8_nextToken_154 : decode cX8_nextToken 154 = .ok (.aload_n 0, 1) := by decide +kernel
theorem dX8_nextToken_155 : decode cX8_nextToken 155 = .ok (.dup, 1) := by decide +kernel
theorem dX8_nextToken_156 : decode cX8_nextToken 156 = .ok (.getfield 94, 3) := by decide +kernel
theorem dX8_nextToken_159 : decode cX8_nextToken 159 = .ok (.bipush 48, 2) := by decide +kernel
theorem dX8_nextToken_161 : decode cX8_nextToken 161 = .ok (.isub, 1) := by decide +kernel
theorem dX8_nextToken_162 : decode cX8_nextToken 162 = .ok (.putfield 94, 3) := by decide +kernel
theorem dX8_nextToken_165 : decode cX8_nextToken 165 = .ok (.aload_n 0, 1) := by decide +kernel
theorem dX8_nextToken_166 : decode cX8_nextToken 166 = .ok (.getfield 90, 3) := by decide +kernel
theorem dX8_nextToken_169 : decode cX8_nextToken 169 = .ok (.aload_n 0, 1) := by decide +kernel
theorem dX8_nextToken_170 : decode cX8_nextToken 170 = .ok (.getfield 77, 3) := by decide +kernel
theorem dX8_nextToken_173 : decode cX8_nextToken 173 = .ok (.if_icmp .ge 82, 3) := by decide +kernel
theorem dX8_nextToken_176 : decode cX8_nextToken 176 = .ok (.aload_n 0, 1) := by decide +kernel
theorem dX8_nextToken_177 : decode cX8_nextToken 177 = .ok (.getfield 34, 3) := by decide +kernel
theorem dX8_nextToken_180 : decode cX8_nextToken 180 = .ok (.aload_n 0, 1) := by decide +kernel
theorem dX8_nextToken_181 : decode cX8_nextToken 181 = .ok (.getfield 90, 3) := by decide +kernel
theorem dX8_nextToken_184 : decode cX8_nextToken 184 = .ok (.iaload, 1) := by decide +kernel
theorem dX8_nextToken_185 : decode cX8_nextToken 185 = .ok (.i2l, 1) := by decide +kernel
theorem dX8_nextToken_186 : decode cX8_nextToken 186 = .ok (.ldc2_w 101, 3) := by decide +kernel
theorem dX8_nextToken_189 : decode cX8_nextToken 189 = .ok (.ldc2_w 103, 3) := by decide +kernel
theorem dX8_nextToken_192 : decode cX8_nextToken 192 = .ok (.invokestatic 60, 3) := by decide +kernel
theorem dX8_nextToken_195 : decode cX8_nextToken 195 = .ok (.ifCond .eq 60, 3) := by decide +kernel
theorem dX8_nextToken_198 : decode cX8_nextToken 198 = .ok (.aload_n 0, 1) := by decide +kernel
theorem dX8_nextToken_199 : decode cX8_nextToken 199 = .ok (.aload_n 0, 1) := by decide +kernel
theorem dX8_nextToken_200 : decode cX8_nextToken 200 = .ok (.getfield 90, 3) := by decide +kernel
theorem dX8_nextToken_203 : decode cX8_nextToken 203 = .ok (.aload_n 0, 1) := by decide +kernel
theorem dX8_nextToken_204 : decode cX8_nextToken 204 = .ok (.getfield 84, 3) := by decide +kernel
theorem dX8_nextToken_207 : decode cX8_nextToken 207 = .ok (.isub, 1) := by decide +kernel
theorem dX8_nextToken_208 : decode cX8_nextToken 208 = .ok (.iconst 2, 1) := by decide +kernel
theorem dX8_nextToken_209 : decode cX8_nextToken 209 = .ok (.if_icmp .ge 26, 3) := by decide +kernel
theorem dX8_nextToken_212 : decode cX8_nextToken 212 = .ok (.bipush 10, 2) := by decide +kernel
theorem dX8_nextToken_214 : decode cX8_nextToken 214 = .ok (.aload_n 0, 1) := by decide +kernel
theorem dX8_nextToken_215 : decode cX8_nextToken 215 = .ok (.getfield 94, 3) := by decide +kernel
theorem dX8_nextToken_218 : decode cX8_nextToken 218 = .ok (.imul, 1) := by decide +kernel
theorem dX8_nextToken_219 : decode cX8_nextToken 219 = .ok (.aload_n 0, 1) := by decide +kernel
theorem dX8_nextToken_220 : decode cX8_nextToken 220 = .ok (.getfield 34, 3) := by decide +kernel
theorem dX8_nextToken_223 : decode cX8_nextToken 223 = .ok (.aload_n 0, 1) := by decide +kernel
theorem dX8_nextToken_224 : decode cX8_nextToken 224 = .ok (.getfield 90, 3) := by decide +kernel
theorem dX8_nextToken_227 : decode cX8_nextToken 227 = .ok (.iaload, 1) := by decide +kernel
theorem dX8_nextToken_228 : decode cX8_nextToken 228 = .ok (.iadd, 1) := by decide +kernel
theorem dX8_nextToken_229 : decode cX8_nextToken 229 = .ok (.bipush 48, 2) := by decide +kernel
theorem dX8_nextToken_231 : decode cX8_nextToken 231 = .ok (.isub, 1) := by decide +kernel
theorem dX8_nextToken_232 : decode cX8_nextToken 232 = .ok (.goto 7, 3) := by decide +kernel
theorem dX8_nextToken_235 : decode cX8_nextToken 235 = .ok (.aload_n 0, 1) := by decide +kernel
theorem dX8_nextToken_236 : decode cX8_nextToken 236 = .ok (.getfield 94, 3) := by decide +kernel
theorem dX8_nextToken_239 : decode cX8_nextToken 239 = .ok (.putfield 94, 3) := by decide +kernel
theorem dX8_nextToken_242 : decode cX8_nextToken 242 = .ok (.aload_n 0, 1) := by decide +kernel
theorem dX8_nextToken_243 : decode cX8_nextToken 243 = .ok (.dup, 1) := by decide +kernel
theorem dX8_nextToken_244 : decode cX8_nextToken 244 = .ok (.getfield 90, 3) := by decide +kernel
theorem dX8_nextToken_247 : decode cX8_nextToken 247 = .ok (.iconst 1, 1) := by decide +kernel
theorem dX8_nextToken_248 : decode cX8_nextToken 248 = .ok (.iadd, 1) := by decide +kernel
theorem dX8_nextToken_249 : decode cX8_nextToken 249 = .ok (.putfield 90, 3) := by decide +kernel
theorem dX8_nextToken_252 : decode cX8_nextToken 252 = .ok (.goto (-87), 3) := by decide +kernel
theorem dX8_nextToken_255 : decode cX8_nextToken 255 = .ok (.aload_n 0, 1) := by decide +kernel
theorem dX8_nextToken_256 : decode cX8_nextToken 256 = .ok (.aload_n 0, 1) := by decide +kernel
theorem dX8_nextToken_257 : decode cX8_nextToken 257 = .ok (.getfield 90, 3) := by decide +kernel
theorem dX8_nextToken_260 : decode cX8_nextToken 260 = .ok (.aload_n 0, 1) := by decide +kernel
theorem dX8_nextToken_261 : decode cX8_nextToken 261 = .ok (.getfield 84, 3) := by decide +kernel
theorem dX8_nextToken_264 : decode cX8_nextToken 264 = .ok (.isub, 1) := by decide +kernel
theorem dX8_nextToken_265 : decode cX8_nextToken 265 = .ok (.iconst 2, 1) := by decide +kernel
theorem dX8_nextToken_266 : decode cX8_nextToken 266 = .ok (.if_icmp .le 7, 3) := by decide +kernel
theorem dX8_nextToken_269 : decode cX8_nextToken 269 = .ok (.iconst 0, 1) := by decide +kernel
theorem dX8_nextToken_270 : decode cX8_nextToken 270 = .ok (.goto 4, 3) := by decide +kernel
theorem dX8_nextToken_273 : decode cX8_nextToken 273 = .ok (.iconst 3, 1) := by decide +kernel
theorem dX8_nextToken_274 : decode cX8_nextToken 274 = .ok (.putfield 105, 3) := by decide +kernel
theorem dX8_nextToken_277 : decode cX8_nextToken 277 = .ok (.return_, 1) := by decide +kernel
theorem dX8_must_0 : decode cX8_must 0 = .ok (.iload_n 1, 1) := by decide +kernel
theorem dX8_must_1 : decode cX8_must 1 = .ok (.ifCond .ne 8, 3) := by decide +kernel
theorem dX8_must_4 : decode cX8_must 4 = .ok (.aload_n 0, 1) := by decide +kernel
theorem dX8_must_5 : decode cX8_must 5 = .ok (.iconst 1, 1) := by decide +kernel
theorem dX8_must_6 : decode cX8_must 6 = .ok (.invokevirtual 108, 3) := by decide +kernel
theorem dX8_must_9 : decode cX8_must 9 = .ok (.aload_n 0, 1) := by decide +kernel
theorem dX8_must_10 : decode cX8_must 10 = .ok (.getfield 81, 3) := by decide +kernel
theorem dX8_must_13 : decode cX8_must 13 = .ok (.ifCond .ne 7, 3) := by decide +kernel
theorem dX8_must_16 : decode cX8_must 16 = .ok (.aload_n 0, 1) := by decide +kernel
theorem dX8_must_17 : decode cX8_must 17 = .ok (.invokevirtual 112, 3) := by decide +kernel
theorem dX8_must_20 : decode cX8_must 20 = .ok (.return_, 1) := by decide +kernel
theorem dX8_isLetter_0 : decode cX8_isLetter 0 = .ok (.aload_n 0, 1) := by decide +kernel
theorem dX8_isLetter_1 : decode cX8_isLetter 1 = .ok (.getfield 81, 3) := by decide +kernel
theorem dX8_isLetter_4 : decode cX8_isLetter 4 = .ok (.ifCond .ne 23, 3) := by decide +kernel
theorem dX8_isLetter_7 : decode cX8_isLetter 7 = .ok (.aload_n 0, 1) := by decide +kernel
theorem dX8_isLetter_8 : decode cX8_isLetter 8 = .ok (.getfield 105, 3) := by decide +kernel
theorem dX8_isLetter_11 : decode cX8_isLetter 11 = .ok (.iconst 2, 1) := by decide +kernel
theorem dX8_isLetter_12 : decode cX8_isLetter 12 = .ok (.if_icmp .ne 15, 3) := by decide +kernel
theorem dX8_isLetter_15 : decode cX8_isLetter 15 = .ok (.aload_n 0, 1) := by decide +kernel
theorem dX8_isLetter_16 : decode cX8_isLetter 16 = .ok (.getfield 94, 3) := by decide +kernel
theorem dX8_isLetter_19 : decode cX8_isLetter 19 = .ok (.iload_n 1, 1) := by decide +kernel
theorem dX8_isLetter_20 : decode cX8_isLetter 20 = .ok (.if_icmp .ne 7, 3) := by decide +kernel
theorem dX8_isLetter_23 : decode cX8_isLetter 23 = .ok (.iconst 1, 1) := by decide +kernel
theorem dX8_isLetter_24 : decode cX8_isLetter 24 = .ok (.goto 4, 3) := by decide +kernel
theorem dX8_isLetter_27 : decode cX8_isLetter 27 = .ok (.iconst 0, 1) := by decide +kernel
theorem dX8_isLetter_28 : decode cX8_isLetter 28 = .ok (.ireturn, 1) := by decide +kernel
theorem dX8_number_0 : decode cX8_number 0 = .ok (.aload_n 0, 1) := by decide +kernel
theorem dX8_number_1 : decode cX8_number 1 = .ok (.getfield 81, 3) := by decide +kernel
theorem dX8_number_4 : decode cX8_number 4 = .ok (.ifCond .ne 16, 3) := by decide +kernel
theorem dX8_number_7 : decode cX8_number 7 = .ok (.aload_n 0, 1) := by decide +kernel
theorem dX8_number_8 : decode cX8_number 8 = .ok (.getfield 105, 3) := by decide +kernel
theorem dX8_number_11 : decode cX8_number 11 = .ok (.iconst 3, 1) := by decide +kernel
theorem dX8_number_12 : decode cX8_number 12 = .ok (.if_icmp .eq 8, 3) := by decide +kernel
theorem dX8_number_15 : decode cX8_number 15 = .ok (.aload_n 0, 1) := by decide +kernel
theorem dX8_number_16 : decode cX8_number 16 = .ok (.iconst 1, 1) := by decide +kernel
theorem dX8_number_17 : decode cX8_number 17 = .ok (.invokevirtual 108, 3) := by decide +kernel
theorem dX8_number_20 : decode cX8_number 20 = .ok (.aload_n 0, 1) := by decide +kernel
theorem dX8_number_21 : decode cX8_number 21 = .ok (.getfield 81, 3) := by decide +kernel
theorem dX8_number_24 : decode cX8_number 24 = .ok (.ifCond .ne 23, 3) := by decide +kernel
theorem dX8_number_27 : decode cX8_number 27 = .ok (.aload_n 0, 1) := by decide +kernel
theorem dX8_number_28 : decode cX8_number 28 = .ok (.getfield 94, 3) := by decide +kernel
theorem dX8_number_31 : decode cX8_number 31 = .ok (.i2l, 1) := by decide +kernel
theorem dX8_number_32 : decode cX8_number 32 = .ok (.iload_n 1, 1) := by decide +kernel
theorem dX8_number_33 : decode cX8_number 33 = .ok (.i2l, 1) := by decide +kernel
theorem dX8_number_34 : decode cX8_number 34 = .ok (.iload_n 2, 1) := by decide +kernel
theorem dX8_number_35 : decode cX8_number 35 = .ok (.i2l, 1) := by decide +kernel
theorem dX8_number_36 : decode cX8_number 36 = .ok (.invokestatic 60, 3) := by decide +kernel
theorem dX8_number_39 : decode cX8_number 39 = .ok (.ifCond .ne 8, 3) := by decide +kernel
theorem dX8_number_42 : decode cX8_number 42 = .ok (.aload_n 0, 1) := by decide +kernel
theorem dX8_number_43 : decode cX8_number 43 = .ok (.iconst 2, 1) := by decide +kernel
theorem dX8_number_44 : decode cX8_number 44 = .ok (.invokevirtual 108, 3) := by decide +kernel
theorem dX8_number_47 : decode cX8_number 47 = .ok (.aload_n 0, 1) := by decide +kernel
theorem dX8_number_48 : decode cX8_number 48 = .ok (.getfield 81, 3) := by decide +kernel
theorem dX8_number_51 : decode cX8_number 51 = .ok (.ifCond .ne 10, 3) := by decide +kernel
theorem dX8_number_54 : decode cX8_number 54 = .ok (.aload_n 0, 1) := by decide +kernel
theorem dX8_number_55 : decode cX8_number 55 = .ok (.getfield 94, 3) := by decide +kernel
theorem dX8_number_58 : decode cX8_number 58 = .ok (.goto 4, 3) := by decide +kernel
theorem dX8_number_61 : decode cX8_number 61 = .ok (.iload_n 1, 1) := by decide +kernel
theorem dX8_number_62 : decode cX8_number 62 = .ok (.istore_n 3, 1) := by decide +kernel
theorem dX8_number_63 : decode cX8_number 63 = .ok (.aload_n 0, 1) := by decide +kernel
theorem dX8_number_64 : decode cX8_number 64 = .ok (.iconst 1, 1) := by decide +kernel
theorem dX8_number_65 : decode cX8_number 65 = .ok (.invokevirtual 115, 3) := by decide +kernel
theorem dX8_number_68 : decode cX8_number 68 = .ok (.iload_n 3, 1) := by decide +kernel
theorem dX8_number_69 : decode cX8_number 69 = .ok (.ireturn, 1) := by decide +kernel
theorem dX8_mustSign_0 : decode cX8_mustSign 0 = .ok (.aload_n 0, 1) := by decide +kernel
theorem dX8_mustSign_1 : decode cX8_mustSign 1 = .ok (.aload_n 0, 1) := by decide +kernel
theorem dX8_mustSign_2 : decode cX8_mustSign 2 = .ok (.getfield 105, 3) := by decide +kernel
theorem dX8_mustSign_5 : decode cX8_mustSign 5 = .ok (.iconst 4, 1) := by decide +kernel
theorem dX8_mustSign_6 : decode cX8_mustSign 6 = .ok (.if_icmp .ne 15, 3) := by decide +kernel
theorem dX8_mustSign_9 : decode cX8_mustSign 9 = .ok (.aload_n 0, 1) := by decide +kernel
theorem dX8_mustSign_10 : decode cX8_mustSign 10 = .ok (.getfield 94, 3) := by decide +kernel
theorem dX8_mustSign_13 : decode cX8_mustSign 13 = .ok (.iload_n 1, 1) := by decide +kernel
theorem dX8_mustSign_14 : decode cX8_mustSign 14 = .ok (.if_icmp .ne 7, 3) := by decide +kernel
theorem dX8_mustSign_17 : decode cX8_mustSign 17 = .ok (.iconst 1, 1) := by decide +kernel
theorem dX8_mustSign_18 : decode cX8_mustSign 18 = .ok (.goto 4, 3) := by decide +kernel
theorem dX8_mustSign_21 : decode cX8_mustSign 21 = .ok (.iconst 0, 1) := by decide +kernel
theorem dX8_mustSign_22 : decode cX8_mustSign 22 = .ok (.invokevirtual 115, 3) := by decide +kernel
theorem dX8_mustSign_25 : decode cX8_mustSign 25 = .ok (.return_, 1) := by decide +kernel
theorem dX8_begin_0 : decode cX8_begin 0 = .ok (.aload_n 0, 1) := by decide +kernel
theorem dX8_begin_1 : decode cX8_begin 1 = .ok (.iconst 0, 1) := by decide +kernel
theorem dX8_begin_2 : decode cX8_begin 2 = .ok (.putfield 90, 3) := by decide +kernel
theorem dX8_begin_5 : decode cX8_begin 5 = .ok (.aload_n 0, 1) := by decide +kernel
theorem dX8_begin_6 : decode cX8_begin 6 = .ok (.iconst 0, 1) := by decide +kernel
theorem dX8_begin_7 : decode cX8_begin 7 = .ok (.putfield 81, 3) := by decide +kernel
theorem dX8_begin_10 : decode cX8_begin 10 = .ok (.aload_n 0, 1) := by decide +kernel
theorem dX8_begin_11 : decode cX8_begin 11 = .ok (.invokevirtual 112, 3) := by decide +kernel
theorem dX8_begin_14 : decode cX8_begin 14 = .ok (.return_, 1) := by decide +kernel
theorem dX8_failed_0 : decode cX8_failed 0 = .ok (.aload_n 0, 1) := by decide +kernel
theorem dX8_failed_1 : decode cX8_failed 1 = .ok (.getfield 81, 3) := by decide +kernel
theorem dX8_failed_4 : decode cX8_failed 4 = .ok (.ifCond .ne 16, 3) := by decide +kernel
theorem dX8_failed_7 : decode cX8_failed 7 = .ok (.aload_n 0, 1) := by decide +kernel
theorem dX8_failed_8 : decode cX8_failed 8 = .ok (.getfield 105, 3) := by decide +kernel
theorem dX8_failed_11 : decode cX8_failed 11 = .ok (.iconst 1, 1) := by decide +kernel
theorem dX8_failed_12 : decode cX8_failed 12 = .ok (.if_icmp .eq 8, 3) := by decide +kernel
theorem dX8_failed_15 : decode cX8_failed 15 = .ok (.aload_n 0, 1) := by decide +kernel
theorem dX8_failed_16 : decode cX8_failed 16 = .ok (.iconst 1, 1) := by decide +kernel
theorem dX8_failed_17 : decode cX8_failed 17 = .ok (.invokevirtual 108, 3) := by decide +kernel
theorem dX8_failed_20 : decode cX8_failed 20 = .ok (.aload_n 0, 1) := by decide +kernel
theorem dX8_failed_21 : decode cX8_failed 21 = .ok (.iconst 0, 1) := by decide +kernel
theorem dX8_failed_22 : decode cX8_failed 22 = .ok (.putfield 77, 3) := by decide +kernel
theorem dX8_failed_25 : decode cX8_failed 25 = .ok (.aload_n 0, 1) := by decide +kernel
theorem dX8_failed_26 : decode cX8_failed 26 = .ok (.aload_n 0, 1) := by decide +kernel
theorem dX8_failed_27 : decode cX8_failed 27 = .ok (.getfield 81, 3) := by decide +kernel
theorem dX8_failed_30 : decode cX8_failed 30 = .ok (.ifCond .le 10, 3) := by decide +kernel
theorem dX8_failed_33 : decode cX8_failed 33 = .ok (.aload_n 0, 1) := by decide +kernel
theorem dX8_failed_34 : decode cX8_failed 34 = .ok (.getfield 81, 3) := by decide +kernel
theorem dX8_failed_37 : decode cX8_failed 37 = .ok (.goto 7, 3) := by decide +kernel
theorem dX8_failed_40 : decode cX8_failed 40 = .ok (.aload_n 0, 1) := by decide +kernel
theorem dX8_failed_41 : decode cX8_failed 41 = .ok (.getfield 119, 3) := by decide +kernel
theorem dX8_failed_44 : decode cX8_failed 44 = .ok (.putfield 119, 3) := by decide +kernel
theorem dX8_failed_47 : decode cX8_failed 47 = .ok (.aload_n 0, 1) := by decide +kernel
theorem dX8_failed_48 : decode cX8_failed 48 = .ok (.getfield 81, 3) := by decide +kernel
theorem dX8_failed_51 : decode cX8_failed 51 = .ok (.ifCond .le 7, 3) := by decide +kernel
theorem dX8_failed_54 : decode cX8_failed 54 = .ok (.iconst 1, 1) := by decide +kernel
theorem dX8_failed_55 : decode cX8_failed 55 = .ok (.goto 4, 3) := by decide +kernel
theorem dX8_failed_58 : decode cX8_failed 58 = .ok (.iconst 0, 1) := by decide +kernel
theorem dX8_failed_59 : decode cX8_failed 59 = .ok (.ireturn, 1) := by decide +kernel
theorem dX8_fault_0 : decode cX8_fault 0 = .ok (.aload_n 0, 1) := by decide +kernel
theorem dX8_fault_1 : decode cX8_fault 1 = .ok (.iconst 0, 1) := by decide +kernel
theorem dX8_fault_2 : decode cX8_fault 2 = .ok (.putfield 50, 3) := by decide +kernel
theorem dX8_fault_5 : decode cX8_fault 5 = .ok (.aload_n 0, 1) := by decide +kernel
theorem dX8_fault_6 : decode cX8_fault 6 = .ok (.getfield 119, 3) := by decide +kernel
theorem dX8_fault_9 : decode cX8_fault 9 = .ok (.ireturn, 1) := by decide +kernel
theorem dX8_kindBy_0 : decode cX8_kindBy 0 = .ok (.iload_n 0, 1) := by decide +kernel
theorem dX8_kindBy_1 : decode cX8_kindBy 1 = .ok (.bipush 98, 2) := by decide +kernel
theorem dX8_kindBy_3 : decode cX8_kindBy 3 = .ok (.if_icmp .ne 7, 3) := by decide +kernel
theorem dX8_kindBy_6 : decode cX8_kindBy 6 = .ok (.iconst 1, 1) := by decide +kernel
theorem dX8_kindBy_7 : decode cX8_kindBy 7 = .ok (.goto 45, 3) := by decide +kernel
theorem dX8_kindBy_10 : decode cX8_kindBy 10 = .ok (.iload_n 0, 1) := by decide +kernel
theorem dX8_kindBy_11 : decode cX8_kindBy 11 = .ok (.bipush 102, 2) := by decide +kernel
theorem dX8_kindBy_13 : decode cX8_kindBy 13 = .ok (.if_icmp .ne 7, 3) := by decide +kernel
theorem dX8_kindBy_16 : decode cX8_kindBy 16 = .ok (.iconst 2, 1) := by decide +kernel
theorem dX8_kindBy_17 : decode cX8_kindBy 17 = .ok (.goto 35, 3) := by decide +kernel
theorem dX8_kindBy_20 : decode cX8_kindBy 20 = .ok (.iload_n 0, 1) := by decide +kernel
theorem dX8_kindBy_21 : decode cX8_kindBy 21 = .ok (.bipush 116, 2) := by decide +kernel
theorem dX8_kindBy_23 : decode cX8_kindBy 23 = .ok (.if_icmp .ne 7, 3) := by decide +kernel
theorem dX8_kindBy_26 : decode cX8_kindBy 26 = .ok (.iconst 3, 1) := by decide +kernel
theorem dX8_kindBy_27 : decode cX8_kindBy 27 = .ok (.goto 25, 3) := by decide +kernel
theorem dX8_kindBy_30 : decode cX8_kindBy 30 = .ok (.iload_n 0, 1) := by decide +kernel
theorem dX8_kindBy_31 : decode cX8_kindBy 31 = .ok (.bipush 108, 2) := by decide +kernel
theorem dX8_kindBy_33 : decode cX8_kindBy 33 = .ok (.if_icmp .ne 7, 3) := by decide +kernel
theorem dX8_kindBy_36 : decode cX8_kindBy 36 = .ok (.iconst 4, 1) := by decide +kernel
theorem dX8_kindBy_37 : decode cX8_kindBy 37 = .ok (.goto 15, 3) := by decide +kernel
theorem dX8_kindBy_40 : decode cX8_kindBy 40 = .ok (.iload_n 0, 1) := by decide +kernel
theorem dX8_kindBy_41 : decode cX8_kindBy 41 = .ok (.bipush 99, 2) := by decide +kernel
theorem dX8_kindBy_43 : decode cX8_kindBy 43 = .ok (.if_icmp .ne 7, 3) := by decide +kernel
theorem dX8_kindBy_46 : decode cX8_kindBy 46 = .ok (.iconst 5, 1) := by decide +kernel
theorem dX8_kindBy_47 : decode cX8_kindBy 47 = .ok (.goto 5, 3) := by decide +kernel
theorem dX8_kindBy_50 : decode cX8_kindBy 50 = .ok (.ldc 93, 2) := by decide +kernel
theorem dX8_kindBy_52 : decode cX8_kindBy 52 = .ok (.ireturn, 1) := by decide +kernel
theorem dX8_isSort_0 : decode cX8_isSort 0 = .ok (.aload_n 0, 1) := by decide +kernel
theorem dX8_isSort_1 : decode cX8_isSort 1 = .ok (.getfield 81, 3) := by decide +kernel
theorem dX8_isSort_4 : decode cX8_isSort 4 = .ok (.ifCond .ne 27, 3) := by decide +kernel
theorem dX8_isSort_7 : decode cX8_isSort 7 = .ok (.aload_n 0, 1) := by decide +kernel
theorem dX8_isSort_8 : decode cX8_isSort 8 = .ok (.getfield 105, 3) := by decide +kernel
theorem dX8_isSort_11 : decode cX8_isSort 11 = .ok (.iconst 2, 1) := by decide +kernel
theorem dX8_isSort_12 : decode cX8_isSort 12 = .ok (.if_icmp .ne 19, 3) := by decide +kernel
theorem dX8_isSort_15 : decode cX8_isSort 15 = .ok (.aload_n 0, 1) := by decide +kernel
theorem dX8_isSort_16 : decode cX8_isSort 16 = .ok (.getfield 94, 3) := by decide +kernel
theorem dX8_isSort_19 : decode cX8_isSort 19 = .ok (.invokestatic 122, 3) := by decide +kernel
theorem dX8_isSort_22 : decode cX8_isSort 22 = .ok (.ldc 93, 2) := by decide +kernel
theorem dX8_isSort_24 : decode cX8_isSort 24 = .ok (.if_icmp .eq 7, 3) := by decide +kernel
theorem dX8_isSort_27 : decode cX8_isSort 27 = .ok (.iconst 1, 1) := by decide +kernel
theorem dX8_isSort_28 : decode cX8_isSort 28 = .ok (.goto 4, 3) := by decide +kernel
theorem dX8_isSort_31 : decode cX8_isSort 31 = .ok (.iconst 0, 1) := by decide +kernel
theorem dX8_isSort_32 : decode cX8_isSort 32 = .ok (.ireturn, 1) := by decide +kernel
theorem dX8_readWind_0 : decode cX8_readWind 0 = .ok (.aload_n 0, 1) := by decide +kernel
theorem dX8_readWind_1 : decode cX8_readWind 1 = .ok (.getfield 22, 3) := by decide +kernel
theorem dX8_readWind_4 : decode cX8_readWind 4 = .ok (.iconst 1, 1) := by decide +kernel
theorem dX8_readWind_5 : decode cX8_readWind 5 = .ok (.iaload, 1) := by decide +kernel
theorem dX8_readWind_6 : decode cX8_readWind 6 = .ok (.bipush 6, 2) := by decide +kernel
theorem dX8_readWind_8 : decode cX8_readWind 8 = .ok (.if_icmp .ne 8, 3) := by decide +kernel
theorem dX8_readWind_11 : decode cX8_readWind 11 = .ok (.aload_n 0, 1) := by decide +kernel
theorem dX8_readWind_12 : decode cX8_readWind 12 = .ok (.iconst 3, 1) := by decide +kernel
theorem dX8_readWind_13 : decode cX8_readWind 13 = .ok (.invokevirtual 108, 3) := by decide +kernel
theorem dX8_readWind_16 : decode cX8_readWind 16 = .ok (.aload_n 0, 1) := by decide +kernel
theorem dX8_readWind_17 : decode cX8_readWind 17 = .ok (.aload_n 0, 1) := by decide +kernel
theorem dX8_readWind_18 : decode cX8_readWind 18 = .ok (.bipush 119, 2) := by decide +kernel
theorem dX8_readWind_20 : decode cX8_readWind 20 = .ok (.invokevirtual 125, 3) := by decide +kernel
theorem dX8_readWind_23 : decode cX8_readWind 23 = .ok (.invokevirtual 115, 3) := by decide +kernel
theorem dX8_readWind_26 : decode cX8_readWind 26 = .ok (.aload_n 0, 1) := by decide +kernel
theorem dX8_readWind_27 : decode cX8_readWind 27 = .ok (.iconst 0, 1) := by decide +kernel
theorem dX8_readWind_28 : decode cX8_readWind 28 = .ok (.bipush 9, 2) := by decide +kernel
theorem dX8_readWind_30 : decode cX8_readWind 30 = .ok (.invokevirtual 128, 3) := by decide +kernel
theorem dX8_readWind_33 : decode cX8_readWind 33 = .ok (.istore_n 1, 1) := by decide +kernel
theorem dX8_readWind_34 : decode cX8_readWind 34 = .ok (.aload_n 0, 1) := by decide +kernel
theorem dX8_readWind_35 : decode cX8_readWind 35 = .ok (.bipush 59, 2) := by decide +kernel
theorem dX8_readWind_37 : decode cX8_readWind 37 = .ok (.invokevirtual 132, 3) := by decide +kernel
theorem dX8_readWind_40 : decode cX8_readWind 40 = .ok (.aload_n 0, 1) := by decide +kernel
theorem dX8_readWind_41 : decode cX8_readWind 41 = .ok (.getfield 81, 3) := by decide +kernel
theorem dX8_readWind_44 : decode cX8_readWind 44 = .ok (.ifCond .ne 27, 3) := by decide +kernel
theorem dX8_readWind_47 : decode cX8_readWind 47 = .ok (.aload_n 0, 1) := by decide +kernel
theorem dX8_readWind_48 : decode cX8_readWind 48 = .ok (.getfield 22, 3) := by decide +kernel
theorem dX8_readWind_51 : decode cX8_readWind 51 = .ok (.iconst 5, 1) := by decide +kernel
theorem dX8_readWind_52 : decode cX8_readWind 52 = .ok (.aload_n 0, 1) := by decide +kernel
theorem dX8_readWind_53 : decode cX8_readWind 53 = .ok (.getfield 22, 3) := by decide +kernel
theorem dX8_readWind_56 : decode cX8_readWind 56 = .ok (.iconst 1, 1) := by decide +kernel
theorem dX8_readWind_57 : decode cX8_readWind 57 = .ok (.iaload, 1) := by decide +kernel
theorem dX8_readWind_58 : decode cX8_readWind 58 = .ok (.iadd, 1) := by decide +kernel
theorem dX8_readWind_59 : decode cX8_readWind 59 = .ok (.iload_n 1, 1) := by decide +kernel
theorem dX8_readWind_60 : decode cX8_readWind 60 = .ok (.iastore, 1) := by decide +kernel
theorem dX8_readWind_61 : decode cX8_readWind 61 = .ok (.aload_n 0, 1) := by decide +kernel
theorem dX8_readWind_62 : decode cX8_readWind 62 = .ok (.getfield 22, 3) := by decide +kernel
theorem dX8_readWind_65 : decode cX8_readWind 65 = .ok (.iconst 1, 1) := by decide +kernel
theorem dX8_readWind_66 : decode cX8_readWind 66 = .ok (.dup2, 1) := by decide +kernel
theorem dX8_readWind_67 : decode cX8_readWind 67 = .ok (.iaload, 1) := by decide +kernel
theorem dX8_readWind_68 : decode cX8_readWind 68 = .ok (.iconst 1, 1) := by decide +kernel
theorem dX8_readWind_69 : decode cX8_readWind 69 = .ok (.iadd, 1) := by decide +kernel
theorem dX8_readWind_70 : decode cX8_readWind 70 = .ok (.iastore, 1) := by decide +kernel
theorem dX8_readWind_71 : decode cX8_readWind 71 = .ok (.return_, 1) := by decide +kernel
theorem dX8_readPaper_0 : decode cX8_readPaper 0 = .ok (.aload_n 0, 1) := by decide +kernel
theorem dX8_readPaper_1 : decode cX8_readPaper 1 = .ok (.getfield 94, 3) := by decide +kernel
theorem dX8_readPaper_4 : decode cX8_readPaper 4 = .ok (.invokestatic 122, 3) := by decide +kernel
theorem dX8_readPaper_7 : decode cX8_readPaper 7 = .ok (.istore_n 1, 1) := by decide +kernel
theorem dX8_readPaper_8 : decode cX8_readPaper 8 = .ok (.aload_n 0, 1) := by decide +kernel
theorem dX8_readPaper_9 : decode cX8_readPaper 9 = .ok (.getfield 22, 3) := by decide +kernel
theorem dX8_readPaper_12 : decode cX8_readPaper 12 = .ok (.iconst 0, 1) := by decide +kernel
theorem dX8_readPaper_13 : decode cX8_readPaper 13 = .ok (.iaload, 1) := by decide +kernel
theorem dX8_readPaper_14 : decode cX8_readPaper 14 = .ok (.bipush 6, 2) := by decide +kernel
theorem dX8_readPaper_16 : decode cX8_readPaper 16 = .ok (.if_icmp .ne 8, 3) := by decide +kernel
theorem dX8_readPaper_19 : decode cX8_readPaper 19 = .ok (.aload_n 0, 1) := by decide +kernel
theorem dX8_readPaper_20 : decode cX8_readPaper 20 = .ok (.iconst 3, 1) := by decide +kernel
theorem dX8_readPaper_21 : decode cX8_readPaper 21 = .ok (.invokevirtual 108, 3) := by decide +kernel
theorem dX8_readPaper_24 : decode cX8_readPaper 24 = .ok (.aload_n 0, 1) := by decide +kernel
theorem dX8_readPaper_25 : decode cX8_readPaper 25 = .ok (.iconst 1, 1) := by decide +kernel
theorem dX8_readPaper_26 : decode cX8_readPaper 26 = .ok (.invokevirtual 115, 3) := by decide +kernel
theorem dX8_readPaper_29 : decode cX8_readPaper 29 = .ok (.aload_n 0, 1) := by decide +kernel
theorem dX8_readPaper_30 : decode cX8_readPaper 30 = .ok (.iconst 0, 1) := by decide +kernel
theorem dX8_readPaper_31 : decode cX8_readPaper 31 = .ok (.bipush 9, 2) := by decide +kernel
theorem dX8_readPaper_33 : decode cX8_readPaper 33 = .ok (.invokevirtual 128, 3) := by decide +kernel
theorem dX8_readPaper_36 : decode cX8_readPaper 36 = .ok (.istore_n 2, 1) := by decide +kernel
theorem dX8_readPaper_37 : decode cX8_readPaper 37 = .ok (.aload_n 0, 1) := by decide +kernel
theorem dX8_readPaper_38 : decode cX8_readPaper 38 = .ok (.bipush 44, 2) := by decide +kernel
theorem dX8_readPaper_40 : decode cX8_readPaper 40 = .ok (.invokevirtual 132, 3) := by decide +kernel
theorem dX8_readPaper_43 : decode cX8_readPaper 43 = .ok (.aload_n 0, 1) := by decide +kernel
theorem dX8_readPaper_44 : decode cX8_readPaper 44 = .ok (.iconst 1, 1) := by decide +kernel
theorem dX8_readPaper_45 : decode cX8_readPaper 45 = .ok (.bipush 60, 2) := by decide +kernel
theorem dX8_readPaper_47 : decode cX8_readPaper 47 = .ok (.invokevirtual 128, 3) := by decide +kernel
theorem dX8_readPaper_50 : decode cX8_readPaper 50 = .ok (.istore_n 3, 1) := by decide +kernel
theorem dX8_readPaper_51 : decode cX8_readPaper 51 = .ok (.aload_n 0, 1) := by decide +kernel
theorem dX8_readPaper_52 : decode cX8_readPaper 52 = .ok (.bipush 59, 2) := by decide +kernel
theorem dX8_readPaper_54 : decode cX8_readPaper 54 = .ok (.invokevirtual 132, 3) := by decide +kernel
theorem dX8_readPaper_57 : decode cX8_readPaper 57 = .ok (.aload_n 0, 1) := by decide +kernel
theorem dX8_readPaper_58 : decode cX8_readPaper 58 = .ok (.getfield 81, 3) := by decide +kernel
theorem dX8_readPaper_61 : decode cX8_readPaper 61 = .ok (.ifCond .ne 55, 3) := by decide +kernel
theorem dX8_readPaper_64 : decode cX8_readPaper 64 = .ok (.bipush 11, 2) := by decide +kernel
theorem dX8_readPaper_66 : decode cX8_readPaper 66 = .ok (.bipush 7, 2) := by decide +kernel
theorem dX8_readPaper_68 : decode cX8_readPaper 68 = .ok (.aload_n 0, 1) := by decide +kernel
theorem dX8_readPaper_69 : decode cX8_readPaper 69 = .ok (.getfield 22, 3) := by decide +kernel
theorem dX8_readPaper_72 : decode cX8_readPaper 72 = .ok (.iconst 0, 1) := by decide +kernel
theorem dX8_readPaper_73 : decode cX8_readPaper 73 = .ok (.iaload, 1) := by decide +kernel
theorem dX8_readPaper_74 : decode cX8_readPaper 74 = .ok (.imul, 1) := by decide +kernel
theorem dX8_readPaper_75 : decode cX8_readPaper 75 = .ok (.iadd, 1) := by decide +kernel
theorem dX8_readPaper_76 : decode cX8_readPaper 76 = .ok (.istore 4, 2) := by decide +kernel
theorem dX8_readPaper_78 : decode cX8_readPaper 78 = .ok (.aload_n 0, 1) := by decide +kernel
theorem dX8_readPaper_79 : decode cX8_readPaper 79 = .ok (.getfield 22, 3) := by decide +kernel
theorem dX8_readPaper_82 : decode cX8_readPaper 82 = .ok (.iload 4, 2) := by decide +kernel
theorem dX8_readPaper_84 : decode cX8_readPaper 84 = .ok (.iload_n 1, 1) := by decide +kernel
theorem dX8_readPaper_85 : decode cX8_readPaper 85 = .ok (.iastore, 1) := by decide +kernel
theorem dX8_readPaper_86 : decode cX8_readPaper 86 = .ok (.aload_n 0, 1) := by decide +kernel
theorem dX8_readPaper_87 : decode cX8_readPaper 87 = .ok (.getfield 22, 3) := by decide +kernel
theorem dX8_readPaper_90 : decode cX8_readPaper 90 = .ok (.iload 4, 2) := by decide +kernel
theorem dX8_readPaper_92 : decode cX8_readPaper 92 = .ok (.iconst 1, 1) := by decide +kernel
theorem dX8_readPaper_93 : decode cX8_readPaper 93 = .ok (.iadd, 1) := by decide +kernel
theorem dX8_readPaper_94 : decode cX8_readPaper 94 = .ok (.iload_n 2, 1) := by decide +kernel
theorem dX8_readPaper_95 : decode cX8_readPaper 95 = .ok (.iastore, 1) := by decide +kernel
theorem dX8_readPaper_96 : decode cX8_readPaper 96 = .ok (.aload_n 0, 1) := by decide +kernel
theorem dX8_readPaper_97 : decode cX8_readPaper 97 = .ok (.getfield 22, 3) := by decide +kernel
theorem dX8_readPaper_100 : decode cX8_readPaper 100 = .ok (.iload 4, 2) := by decide +kernel
theorem dX8_readPaper_102 : decode cX8_readPaper 102 = .ok (.iconst 2, 1) := by decide +kernel
theorem dX8_readPaper_103 : decode cX8_readPaper 103 = .ok (.iadd, 1) := by decide +kernel
theorem dX8_readPaper_104 : decode cX8_readPaper 104 = .ok (.iload_n 3, 1) := by decide +kernel
theorem dX8_readPaper_105 : decode cX8_readPaper 105 = .ok (.iastore, 1) := by decide +kernel
theorem dX8_readPaper_106 : decode cX8_readPaper 106 = .ok (.aload_n 0, 1) := by decide +kernel
theorem dX8_readPaper_107 : decode cX8_readPaper 107 = .ok (.getfield 22, 3) := by decide +kernel
theorem dX8_readPaper_110 : decode cX8_readPaper 110 = .ok (.iconst 0, 1) := by decide +kernel
theorem dX8_readPaper_111 : decode cX8_readPaper 111 = .ok (.dup2, 1) := by decide +kernel
theorem dX8_readPaper_112 : decode cX8_readPaper 112 = .ok (.iaload, 1) := by decide +kernel
theorem dX8_readPaper_113 : decode cX8_readPaper 113 = .ok (.iconst 1, 1) := by decide +kernel
theorem dX8_readPaper_114 : decode cX8_readPaper 114 = .ok (.iadd, 1) := by decide +kernel
theorem dX8_readPaper_115 : decode cX8_readPaper 115 = .ok (.iastore, 1) := by decide +kernel
theorem dX8_readPaper_116 : decode cX8_readPaper 116 = .ok (.return_, 1) := by decide +kernel
theorem dX8_roof_0 : decode cX8_roof 0 = .ok (.aload_n 0, 1) := by decide +kernel
theorem dX8_roof_1 : decode cX8_roof 1 = .ok (.iconst 0, 1) := by decide +kernel
theorem dX8_roof_2 : decode cX8_roof 2 = .ok (.putfield 50, 3) := by decide +kernel
theorem dX8_roof_5 : decode cX8_roof 5 = .ok (.aload_n 0, 1) := by decide +kernel
theorem dX8_roof_6 : decode cX8_roof 6 = .ok (.invokevirtual 135, 3) := by decide +kernel
theorem dX8_roof_9 : decode cX8_roof 9 = .ok (.iconst 0, 1) := by decide +kernel
theorem dX8_roof_10 : decode cX8_roof 10 = .ok (.istore_n 1, 1) := by decide +kernel
theorem dX8_roof_11 : decode cX8_roof 11 = .ok (.iload_n 1, 1) := by decide +kernel
theorem dX8_roof_12 : decode cX8_roof 12 = .ok (.bipush 53, 2) := by decide +kernel
theorem dX8_roof_14 : decode cX8_roof 14 = .ok (.if_icmp .ge 16, 3) := by decide +kernel
theorem dX8_roof_17 : decode cX8_roof 17 = .ok (.aload_n 0, 1) := by decide +kernel
theorem dX8_roof_18 : decode cX8_roof 18 = .ok (.getfield 22, 3) := by decide +kernel
theorem dX8_roof_21 : decode cX8_roof 21 = .ok (.iload_n 1, 1) := by decide +kernel
theorem dX8_roof_22 : decode cX8_roof 22 = .ok (.iconst 0, 1) := by decide +kernel
theorem dX8_roof_23 : decode cX8_roof 23 = .ok (.iastore, 1) := by decide +kernel
theorem dX8_roof_24 : decode cX8_roof 24 = .ok (.iinc 1 1, 3) := by decide +kernel
theorem dX8_roof_27 : decode cX8_roof 27 = .ok (.goto (-16), 3) := by decide +kernel
theorem dX8_roof_30 : decode cX8_roof 30 = .ok (.aload_n 0, 1) := by decide +kernel
theorem dX8_roof_31 : decode cX8_roof 31 = .ok (.aload_n 0, 1) := by decide +kernel
theorem dX8_roof_32 : decode cX8_roof 32 = .ok (.bipush 114, 2) := by decide +kernel
theorem dX8_roof_34 : decode cX8_roof 34 = .ok (.invokevirtual 125, 3) := by decide +kernel
theorem dX8_roof_37 : decode cX8_roof 37 = .ok (.invokevirtual 115, 3) := by decide +kernel
theorem dX8_roof_40 : decode cX8_roof 40 = .ok (.aload_n 0, 1) := by decide +kernel
theorem dX8_roof_41 : decode cX8_roof 41 = .ok (.getfield 22, 3) := by decide +kernel
theorem dX8_roof_44 : decode cX8_roof 44 = .ok (.iconst 2, 1) := by decide +kernel
theorem dX8_roof_45 : decode cX8_roof 45 = .ok (.aload_n 0, 1) := by decide +kernel
theorem dX8_roof_46 : decode cX8_roof 46 = .ok (.iconst 1, 1) := by decide +kernel
theorem dX8_roof_47 : decode cX8_roof 47 = .ok (.bipush 40, 2) := by decide +kernel
theorem dX8_roof_49 : decode cX8_roof 49 = .ok (.invokevirtual 128, 3) := by decide +kernel
theorem dX8_roof_52 : decode cX8_roof 52 = .ok (.iastore, 1) := by decide +kernel
theorem dX8_roof_53 : decode cX8_roof 53 = .ok (.aload_n 0, 1) := by decide +kernel
theorem dX8_roof_54 : decode cX8_roof 54 = .ok (.bipush 44, 2) := by decide +kernel
theorem dX8_roof_56 : decode cX8_roof 56 = .ok (.invokevirtual 132, 3) := by decide +kernel
theorem dX8_roof_59 : decode cX8_roof 59 = .ok (.aload_n 0, 1) := by decide +kernel
theorem dX8_roof_60 : decode cX8_roof 60 = .ok (.getfield 22, 3) := by decide +kernel
theorem dX8_roof_63 : decode cX8_roof 63 = .ok (.iconst 3, 1) := by decide +kernel
theorem dX8_roof_64 : decode cX8_roof 64 = .ok (.aload_n 0, 1) := by decide +kernel
theorem dX8_roof_65 : decode cX8_roof 65 = .ok (.iconst 1, 1) := by decide +kernel
theorem dX8_roof_66 : decode cX8_roof 66 = .ok (.bipush 99, 2) := by decide +kernel
theorem dX8_roof_68 : decode cX8_roof 68 = .ok (.invokevirtual 128, 3) := by decide +kernel
theorem dX8_roof_71 : decode cX8_roof 71 = .ok (.iastore, 1) := by decide +kernel
theorem dX8_roof_72 : decode cX8_roof 72 = .ok (.aload_n 0, 1) := by decide +kernel
theorem dX8_roof_73 : decode cX8_roof 73 = .ok (.bipush 59, 2) := by decide +kernel
theorem dX8_roof_75 : decode cX8_roof 75 = .ok (.invokevirtual 132, 3) := by decide +kernel
theorem dX8_roof_78 : decode cX8_roof 78 = .ok (.aload_n 0, 1) := by decide +kernel
theorem dX8_roof_79 : decode cX8_roof 79 = .ok (.bipush 119, 2) := by decide +kernel
theorem dX8_roof_81 : decode cX8_roof 81 = .ok (.invokevirtual 125, 3) := by decide +kernel
theorem dX8_roof_84 : decode cX8_roof 84 = .ok (.ifCond .eq 10, 3) := by decide +kernel
theorem dX8_roof_87 : decode cX8_roof 87 = .ok (.aload_n 0, 1) := by decide +kernel
theorem dX8_roof_88 : decode cX8_roof 88 = .ok (.invokevirtual 138, 3) := by decide +kernel
theorem dX8_roof_91 : decode cX8_roof 91 = .ok (.goto (-13), 3) := by decide +kernel
theorem dX8_roof_94 : decode cX8_roof 94 = .ok (.aload_n 0, 1) := by decide +kernel
theorem dX8_roof_95 : decode cX8_roof 95 = .ok (.invokevirtual 141, 3) := by decide +kernel
theorem dX8_roof_98 : decode cX8_roof 98 = .ok (.ifCond .ne 8, 3) := by decide +kernel
theorem dX8_roof_101 : decode cX8_roof 101 = .ok (.aload_n 0, 1) := by decide +kernel
theorem dX8_roof_102 : decode cX8_roof 102 = .ok (.iconst 1, 1) := by decide +kernel
theorem dX8_roof_103 : decode cX8_roof 103 = .ok (.invokevirtual 108, 3) := by decide +kernel
theorem dX8_roof_106 : decode cX8_roof 106 = .ok (.aload_n 0, 1) := by decide +kernel
theorem dX8_roof_107 : decode cX8_roof 107 = .ok (.invokevirtual 141, 3) := by decide +kernel
theorem dX8_roof_110 : decode cX8_roof 110 = .ok (.ifCond .eq 10, 3) := by decide +kernel
theorem dX8_roof_113 : decode cX8_roof 113 = .ok (.aload_n 0, 1) := by decide +kernel
theorem dX8_roof_114 : decode cX8_roof 114 = .ok (.invokevirtual 145, 3) := by decide +kernel
theorem dX8_roof_117 : decode cX8_roof 117 = .ok (.goto (-11), 3) := by decide +kernel
theorem dX8_roof_120 : decode cX8_roof 120 = .ok (.aload_n 0, 1) := by decide +kernel
theorem dX8_roof_121 : decode cX8_roof 121 = .ok (.invokevirtual 148, 3) := by decide +kernel
theorem dX8_roof_124 : decode cX8_roof 124 = .ok (.ifCond .eq 11, 3) := by decide +kernel
theorem dX8_roof_127 : decode cX8_roof 127 = .ok (.ldc 151, 2) := by decide +kernel
theorem dX8_roof_129 : decode cX8_roof 129 = .ok (.aload_n 0, 1) := by decide +kernel
theorem dX8_roof_130 : decode cX8_roof 130 = .ok (.getfield 87, 3) := by decide +kernel
theorem dX8_roof_133 : decode cX8_roof 133 = .ok (.isub, 1) := by decide +kernel
theorem dX8_roof_134 : decode cX8_roof 134 = .ok (.ireturn, 1) := by decide +kernel
theorem dX8_roof_135 : decode cX8_roof 135 = .ok (.aload_n 0, 1) := by decide +kernel
theorem dX8_roof_136 : decode cX8_roof 136 = .ok (.iconst 0, 1) := by decide +kernel
theorem dX8_roof_137 : decode cX8_roof 137 = .ok (.putfield 152, 3) := by decide +kernel
theorem dX8_roof_140 : decode cX8_roof 140 = .ok (.iconst 0, 1) := by decide +kernel
theorem dX8_roof_141 : decode cX8_roof 141 = .ok (.istore_n 1, 1) := by decide +kernel
theorem dX8_roof_142 : decode cX8_roof 142 = .ok (.iload_n 1, 1) := by decide +kernel
theorem dX8_roof_143 : decode cX8_roof 143 = .ok (.bipush 53, 2) := by decide +kernel
theorem dX8_roof_145 : decode cX8_roof 145 = .ok (.if_icmp .ge 21, 3) := by decide +kernel
theorem dX8_roof_148 : decode cX8_roof 148 = .ok (.aload_n 0, 1) := by decide +kernel
theorem dX8_roof_149 : decode cX8_roof 149 = .ok (.getfield 19, 3) := by decide +kernel
theorem dX8_roof_152 : decode cX8_roof 152 = .ok (.iload_n 1, 1) := by decide +kernel
theorem dX8_roof_153 : decode cX8_roof 153 = .ok (.aload_n 0, 1) := by decide +kernel
theorem dX8_roof_154 : decode cX8_roof 154 = .ok (.getfield 22, 3) := by decide +kernel
theorem dX8_roof_157 : decode cX8_roof 157 = .ok (.iload_n 1, 1) := by decide +kernel
theorem dX8_roof_158 : decode cX8_roof 158 = .ok (.iaload, 1) := by decide +kernel
theorem dX8_roof_159 : decode cX8_roof 159 = .ok (.iastore, 1) := by decide +kernel
theorem dX8_roof_160 : decode cX8_roof 160 = .ok (.iinc 1 1, 3) := by decide +kernel
theorem dX8_roof_163 : decode cX8_roof 163 = .ok (.goto (-21), 3) := by decide +kernel
theorem dX8_roof_166 : decode cX8_roof 166 = .ok (.aload_n 0, 1) := by decide +kernel
theorem dX8_roof_167 : decode cX8_roof 167 = .ok (.getfield 19, 3) := by decide +kernel
theorem dX8_roof_170 : decode cX8_roof 170 = .ok (.iconst 0, 1) := by decide +kernel
theorem dX8_roof_171 : decode cX8_roof 171 = .ok (.iaload, 1) := by decide +kernel
theorem dX8_roof_172 : decode cX8_roof 172 = .ok (.ireturn, 1) := by decide +kernel
theorem dX8_isThere_0 : decode cX8_isThere 0 = .ok (.aload_n 0, 1) := by decide +kernel
theorem dX8_isThere_1 : decode cX8_isThere 1 = .ok (.getfield 19, 3) := by decide +kernel
theorem dX8_isThere_4 : decode cX8_isThere 4 = .ok (.iconst 0, 1) := by decide +kernel
theorem dX8_isThere_5 : decode cX8_isThere 5 = .ok (.iaload, 1) := by decide +kernel
theorem dX8_isThere_6 : decode cX8_isThere 6 = .ok (.ifCond .le 7, 3) := by decide +kernel
theorem dX8_isThere_9 : decode cX8_isThere 9 = .ok (.iconst 1, 1) := by decide +kernel
theorem dX8_isThere_10 : decode cX8_isThere 10 = .ok (.goto 4, 3) := by decide +kernel
theorem dX8_isThere_13 : decode cX8_isThere 13 = .ok (.iconst 0, 1) := by decide +kernel
theorem dX8_isThere_14 : decode cX8_isThere 14 = .ok (.ireturn, 1) := by decide +kernel
theorem dX8_isPaper_0 : decode cX8_isPaper 0 = .ok (.iload_n 1, 1) := by decide +kernel
theorem dX8_isPaper_1 : decode cX8_isPaper 1 = .ok (.i2l, 1) := by decide +kernel
theorem dX8_isPaper_2 : decode cX8_isPaper 2 = .ok (.lconst 0, 1) := by decide +kernel
theorem dX8_isPaper_3 : decode cX8_isPaper 3 = .ok (.aload_n 0, 1) := by decide +kernel
theorem dX8_isPaper_4 : decode cX8_isPaper 4 = .ok (.getfield 19, 3) := by decide +kernel
theorem dX8_isPaper_7 : decode cX8_isPaper 7 = .ok (.iconst 0, 1) := by decide +kernel
theorem dX8_isPaper_8 : decode cX8_isPaper 8 = .ok (.iaload, 1) := by decide +kernel
theorem dX8_isPaper_9 : decode cX8_isPaper 9 = .ok (.iconst 1, 1) := by decide +kernel
theorem dX8_isPaper_10 : decode cX8_isPaper 10 = .ok (.isub, 1) := by decide +kernel
theorem dX8_isPaper_11 : decode cX8_isPaper 11 = .ok (.i2l, 1) := by decide +kernel
theorem dX8_isPaper_12 : decode cX8_isPaper 12 = .ok (.invokestatic 60, 3) := by decide +kernel
theorem dX8_isPaper_15 : decode cX8_isPaper 15 = .ok (.ireturn, 1) := by decide +kernel
theorem dX8_bits_0 : decode cX8_bits 0 = .ok (.iconst 0, 1) := by decide +kernel
theorem dX8_bits_1 : decode cX8_bits 1 = .ok (.istore_n 1, 1) := by decide +kernel
theorem dX8_bits_2 : decode cX8_bits 2 = .ok (.iconst 0, 1) := by decide +kernel
theorem dX8_bits_3 : decode cX8_bits 3 = .ok (.istore_n 2, 1) := by decide +kernel
theorem dX8_bits_4 : decode cX8_bits 4 = .ok (.iload_n 2, 1) := by decide +kernel
theorem dX8_bits_5 : decode cX8_bits 5 = .ok (.bipush 6, 2) := by decide +kernel
theorem dX8_bits_7 : decode cX8_bits 7 = .ok (.if_icmp .ge 17, 3) := by decide +kernel
theorem dX8_bits_10 : decode cX8_bits 10 = .ok (.iload_n 1, 1) := by decide +kernel
theorem dX8_bits_11 : decode cX8_bits 11 = .ok (.iload_n 0, 1) := by decide +kernel
theorem dX8_bits_12 : decode cX8_bits 12 = .ok (.iload_n 2, 1) := by decide +kernel
theorem dX8_bits_13 : decode cX8_bits 13 = .ok (.ishr, 1) := by decide +kernel
theorem dX8_bits_14 : decode cX8_bits 14 = .ok (.iconst 1, 1) := by decide +kernel
theorem dX8_bits_15 : decode cX8_bits 15 = .ok (.iand, 1) := by decide +kernel
theorem dX8_bits_16 : decode cX8_bits 16 = .ok (.iadd, 1) := by decide +kernel
theorem dX8_bits_17 : decode cX8_bits 17 = .ok (.istore_n 1, 1) := by decide +kernel
theorem dX8_bits_18 : decode cX8_bits 18 = .ok (.iinc 2 1, 3) := by decide +kernel
theorem dX8_bits_21 : decode cX8_bits 21 = .ok (.goto (-17), 3) := by decide +kernel
theorem dX8_bits_24 : decode cX8_bits 24 = .ok (.iload_n 1, 1) := by decide +kernel
theorem dX8_bits_25 : decode cX8_bits 25 = .ok (.ireturn, 1) := by decide +kernel
theorem dX8_has_0 : decode cX8_has 0 = .ok (.iload_n 0, 1) := by decide +kernel
theorem dX8_has_1 : decode cX8_has 1 = .ok (.iload_n 1, 1) := by decide +kernel
theorem dX8_has_2 : decode cX8_has 2 = .ok (.ishr, 1) := by decide +kernel
theorem dX8_has_3 : decode cX8_has 3 = .ok (.iconst 1, 1) := by decide +kernel
theorem dX8_has_4 : decode cX8_has 4 = .ok (.iand, 1) := by decide +kernel
theorem dX8_has_5 : decode cX8_has 5 = .ok (.iconst 1, 1) := by decide +kernel
theorem dX8_has_6 : decode cX8_has 6 = .ok (.if_icmp .ne 7, 3) := by decide +kernel
theorem dX8_has_9 : decode cX8_has 9 = .ok (.iconst 1, 1) := by decide +kernel
theorem dX8_has_10 : decode cX8_has 10 = .ok (.goto 4, 3) := by decide +kernel
theorem dX8_has_13 : decode cX8_has 13 = .ok (.iconst 0, 1) := by decide +kernel
theorem dX8_has_14 : decode cX8_has 14 = .ok (.ireturn, 1) := by decide +kernel
theorem dX8_of_0 : decode cX8_of 0 = .ok (.aload_n 0, 1) := by decide +kernel
theorem dX8_of_1 : decode cX8_of 1 = .ok (.bipush 11, 2) := by decide +kernel
theorem dX8_of_3 : decode cX8_of 3 = .ok (.bipush 7, 2) := by decide +kernel
theorem dX8_of_5 : decode cX8_of 5 = .ok (.iload_n 1, 1) := by decide +kernel
theorem dX8_of_6 : decode cX8_of 6 = .ok (.imul, 1) := by decide +kernel
theorem dX8_of_7 : decode cX8_of 7 = .ok (.iadd, 1) := by decide +kernel
theorem dX8_of_8 : decode cX8_of 8 = .ok (.iload_n 2, 1) := by decide +kernel
theorem dX8_of_9 : decode cX8_of 9 = .ok (.iadd, 1) := by decide +kernel
theorem dX8_of_10 : decode cX8_of 10 = .ok (.iaload, 1) := by decide +kernel
theorem dX8_of_11 : decode cX8_of 11 = .ok (.ireturn, 1) := by decide +kernel
theorem dX8_be_0 : decode cX8_be 0 = .ok (.aload_n 0, 1) := by decide +kernel
theorem dX8_be_1 : decode cX8_be 1 = .ok (.bipush 11, 2) := by decide +kernel
theorem dX8_be_3 : decode cX8_be 3 = .ok (.bipush 7, 2) := by decide +kernel
theorem dX8_be_5 : decode cX8_be 5 = .ok (.iload_n 1, 1) := by decide +kernel
theorem dX8_be_6 : decode cX8_be 6 = .ok (.imul, 1) := by decide +kernel
theorem dX8_be_7 : decode cX8_be 7 = .ok (.iadd, 1) := by decide +kernel
theorem dX8_be_8 : decode cX8_be 8 = .ok (.iload_n 2, 1) := by decide +kernel
theorem dX8_be_9 : decode cX8_be 9 = .ok (.iadd, 1) := by decide +kernel
theorem dX8_be_10 : decode cX8_be 10 = .ok (.iload_n 3, 1) := by decide +kernel
theorem dX8_be_11 : decode cX8_be 11 = .ok (.iastore, 1) := by decide +kernel
theorem dX8_be_12 : decode cX8_be 12 = .ok (.return_, 1) := by decide +kernel
theorem dX8_isUp_0 : decode cX8_isUp 0 = .ok (.aload_n 0, 1) := by decide +kernel
theorem dX8_isUp_1 : decode cX8_isUp 1 = .ok (.iload_n 1, 1) := by decide +kernel
theorem dX8_isUp_2 : decode cX8_isUp 2 = .ok (.iconst 3, 1) := by decide +kernel
theorem dX8_isUp_3 : decode cX8_isUp 3 = .ok (.invokestatic 155, 3) := by decide +kernel
theorem dX8_isUp_6 : decode cX8_isUp 6 = .ok (.iconst 1, 1) := by decide +kernel
theorem dX8_isUp_7 : decode cX8_isUp 7 = .ok (.if_icmp .ne 7, 3) := by decide +kernel
theorem dX8_isUp_10 : decode cX8_isUp 10 = .ok (.iconst 1, 1) := by decide +kernel
theorem dX8_isUp_11 : decode cX8_isUp 11 = .ok (.goto 4, 3) := by decide +kernel
theorem dX8_isUp_14 : decode cX8_isUp 14 = .ok (.iconst 0, 1) := by decide +kernel
theorem dX8_isUp_15 : decode cX8_isUp 15 = .ok (.ireturn, 1) := by decide +kernel
theorem dX8_forceOf_0 : decode cX8_forceOf 0 = .ok (.aload_n 0, 1) := by decide +kernel
theorem dX8_forceOf_1 : decode cX8_forceOf 1 = .ok (.iconst 1, 1) := by decide +kernel
theorem dX8_forceOf_2 : decode cX8_forceOf 2 = .ok (.iaload, 1) := by decide +kernel
theorem dX8_forceOf_3 : decode cX8_forceOf 3 = .ok (.ifCond .ne 7, 3) := by decide +kernel
theorem dX8_forceOf_6 : decode cX8_forceOf 6 = .ok (.iconst 0, 1) := by decide +kernel
theorem dX8_forceOf_7 : decode cX8_forceOf 7 = .ok (.goto 12, 3) := by decide +kernel
theorem dX8_forceOf_10 : decode cX8_forceOf 10 = .ok (.aload_n 0, 1) := by decide +kernel
theorem dX8_forceOf_11 : decode cX8_forceOf 11 = .ok (.iconst 5, 1) := by decide +kernel
theorem dX8_forceOf_12 : decode cX8_forceOf 12 = .ok (.iload_n 1, 1) := by decide +kernel
theorem dX8_forceOf_13 : decode cX8_forceOf 13 = .ok (.aload_n 0, 1) := by decide +kernel
theorem dX8_forceOf_14 : decode cX8_forceOf 14 = .ok (.iconst 1, 1) := by decide +kernel
theorem dX8_forceOf_15 : decode cX8_forceOf 15 = .ok (.iaload, 1) := by decide +kernel
theorem dX8_forceOf_16 : decode cX8_forceOf 16 = .ok (.irem, 1) := by decide +kernel
theorem dX8_forceOf_17 : decode cX8_forceOf 17 = .ok (.iadd, 1) := by decide +kernel
theorem dX8_forceOf_18 : decode cX8_forceOf 18 = .ok (.iaload, 1) := by decide +kernel
theorem dX8_forceOf_19 : decode cX8_forceOf 19 = .ok (.ireturn, 1) := by decide +kernel
theorem dX8_isOtherUp_0 : decode cX8_isOtherUp 0 = .ok (.iconst 0, 1) := by decide +kernel
theorem dX8_isOtherUp_1 : decode cX8_isOtherUp 1 = .ok (.istore_n 2, 1) := by decide +kernel
theorem dX8_isOtherUp_2 : decode cX8_isOtherUp 2 = .ok (.iconst 0, 1) := by decide +kernel
theorem dX8_isOtherUp_3 : decode cX8_isOtherUp 3 = .ok (.istore_n 3, 1) := by decide +kernel
theorem dX8_isOtherUp_4 : decode cX8_isOtherUp 4 = .ok (.iload_n 3, 1) := by decide +kernel
theorem dX8_isOtherUp_5 : decode cX8_isOtherUp 5 = .ok (.aload_n 0, 1) := by decide +kernel
theorem dX8_isOtherUp_6 : decode cX8_isOtherUp 6 = .ok (.iconst 0, 1) := by decide +kernel
theorem dX8_isOtherUp_7 : decode cX8_isOtherUp 7 = .ok (.iaload, 1) := by decide +kernel
theorem dX8_isOtherUp_8 : decode cX8_isOtherUp 8 = .ok (.if_icmp .ge 42, 3) := by decide +kernel
theorem dX8_isOtherUp_11 : decode cX8_isOtherUp 11 = .ok (.iload_n 2, 1) := by decide +kernel
theorem dX8_isOtherUp_12 : decode cX8_isOtherUp 12 = .ok (.ifCond .ne 26, 3) := by decide +kernel
theorem dX8_isOtherUp_15 : decode cX8_isOtherUp 15 = .ok (.iload_n 3, 1) := by decide +kernel
theorem dX8_isOtherUp_16 : decode cX8_isOtherUp 16 = .ok (.iload_n 1, 1) := by decide +kernel
theorem dX8_isOtherUp_17 : decode cX8_isOtherUp 17 = .ok (.if_icmp .eq 25, 3) := by decide +kernel
theorem dX8_isOtherUp_20 : decode cX8_isOtherUp 20 = .ok (.aload_n 0, 1) := by decide +kernel
theorem dX8_isOtherUp_21 : decode cX8_isOtherUp 21 = .ok (.iload_n 3, 1) := by decide +kernel
theorem dX8_isOtherUp_22 : decode cX8_isOtherUp 22 = .ok (.invokestatic 159, 3) := by decide +kernel
theorem dX8_isOtherUp_25 : decode cX8_isOtherUp 25 = .ok (.ifCond .eq 17, 3) := by decide +kernel
theorem dX8_isOtherUp_28 : decode cX8_isOtherUp 28 = .ok (.aload_n 0, 1) := by decide +kernel
theorem dX8_isOtherUp_29 : decode cX8_isOtherUp 29 = .ok (.iload_n 3, 1) := by decide +kernel
theorem dX8_isOtherUp_30 : decode cX8_isOtherUp 30 = .ok (.iconst 0, 1) := by decide +kernel
theorem dX8_isOtherUp_31 : decode cX8_isOtherUp 31 = .ok (.invokestatic 155, 3) := by decide +kernel
theorem dX8_isOtherUp_34 : decode cX8_isOtherUp 34 = .ok (.iconst 3, 1) := by decide +kernel
theorem dX8_isOtherUp_35 : decode cX8_isOtherUp 35 = .ok (.if_icmp .ne 7, 3) := by decide +kernel
theorem dX8_isOtherUp_38 : decode cX8_isOtherUp 38 = .ok (.iconst 1, 1) := by decide +kernel
theorem dX8_isOtherUp_39 : decode cX8_isOtherUp 39 = .ok (.goto 4, 3) := by decide +kernel
theorem dX8_isOtherUp_42 : decode cX8_isOtherUp 42 = .ok (.iconst 0, 1) := by decide +kernel
theorem dX8_isOtherUp_43 : decode cX8_isOtherUp 43 = .ok (.istore_n 2, 1) := by decide +kernel
theorem dX8_isOtherUp_44 : decode cX8_isOtherUp 44 = .ok (.iinc 3 1, 3) := by decide +kernel
theorem dX8_isOtherUp_47 : decode cX8_isOtherUp 47 = .ok (.goto (-43), 3) := by decide +kernel
theorem dX8_isOtherUp_50 : decode cX8_isOtherUp 50 = .ok (.iload_n 2, 1) := by decide +kernel
theorem dX8_isOtherUp_51 : decode cX8_isOtherUp 51 = .ok (.ireturn, 1) := by decide +kernel
theorem dX8_riseOf_0 : decode cX8_riseOf 0 = .ok (.aload_n 0, 1) := by decide +kernel
theorem dX8_riseOf_1 : decode cX8_riseOf 1 = .ok (.iload_n 1, 1) := by decide +kernel
theorem dX8_riseOf_2 : decode cX8_riseOf 2 = .ok (.iconst 1, 1) := by decide +kernel
theorem dX8_riseOf_3 : decode cX8_riseOf 3 = .ok (.invokestatic 155, 3) := by decide +kernel
theorem dX8_riseOf_6 : decode cX8_riseOf 6 = .ok (.iload_n 2, 1) := by decide +kernel
theorem dX8_riseOf_7 : decode cX8_riseOf 7 = .ok (.imul, 1) := by decide +kernel
theorem dX8_riseOf_8 : decode cX8_riseOf 8 = .ok (.istore_n 3, 1) := by decide +kernel
theorem dX8_riseOf_9 : decode cX8_riseOf 9 = .ok (.aload_n 0, 1) := by decide +kernel
theorem dX8_riseOf_10 : decode cX8_riseOf 10 = .ok (.iload_n 1, 1) := by decide +kernel
theorem dX8_riseOf_11 : decode cX8_riseOf 11 = .ok (.iconst 4, 1) := by decide +kernel
theorem dX8_riseOf_12 : decode cX8_riseOf 12 = .ok (.invokestatic 155, 3) := by decide +kernel
theorem dX8_riseOf_15 : decode cX8_riseOf 15 = .ok (.istore 4, 2) := by decide +kernel
theorem dX8_riseOf_17 : decode cX8_riseOf 17 = .ok (.iconst 0, 1) := by decide +kernel
theorem dX8_riseOf_18 : decode cX8_riseOf 18 = .ok (.istore 5, 2) := by decide +kernel
theorem dX8_riseOf_20 : decode cX8_riseOf 20 = .ok (.aload_n 0, 1) := by decide +kernel
theorem dX8_riseOf_21 : decode cX8_riseOf 21 = .ok (.iload_n 1, 1) := by decide +kernel
theorem dX8_riseOf_22 : decode cX8_riseOf 22 = .ok (.iconst 0, 1) := by decide +kernel
theorem dX8_riseOf_23 : decode cX8_riseOf 23 = .ok (.invokestatic 155, 3) := by decide +kernel
theorem dX8_riseOf_26 : decode cX8_riseOf 26 = .ok (.tableswitch 71 1 3 #[26, 32, 51], 26) := by decide +kernel
theorem dX8_riseOf_52 : decode cX8_riseOf 52 = .ok (.iload_n 3, 1) := by decide +kernel
theorem dX8_riseOf_53 : decode cX8_riseOf 53 = .ok (.istore 5, 2) := by decide +kernel
theorem dX8_riseOf_55 : decode cX8_riseOf 55 = .ok (.goto 47, 3) := by decide +kernel
theorem dX8_riseOf_58 : decode cX8_riseOf 58 = .ok (.iload 4, 2) := by decide +kernel
theorem dX8_riseOf_60 : decode cX8_riseOf 60 = .ok (.bipush 20, 2) := by decide +kernel
theorem dX8_riseOf_62 : decode cX8_riseOf 62 = .ok (.if_icmp .lt 7, 3) := by decide +kernel
theorem dX8_riseOf_65 : decode cX8_riseOf 65 = .ok (.iload_n 3, 1) := by decide +kernel
theorem dX8_riseOf_66 : decode cX8_riseOf 66 = .ok (.goto 6, 3) := by decide +kernel
theorem dX8_riseOf_69 : decode cX8_riseOf 69 = .ok (.iload_n 3, 1) := by decide +kernel
theorem dX8_riseOf_70 : decode cX8_riseOf 70 = .ok (.iconst 2, 1) := by decide +kernel
theorem dX8_riseOf_71 : decode cX8_riseOf 71 = .ok (.idiv, 1) := by decide +kernel
theorem dX8_riseOf_72 : decode cX8_riseOf 72 = .ok (.istore 5, 2) := by decide +kernel
theorem dX8_riseOf_74 : decode cX8_riseOf 74 = .ok (.goto 28, 3) := by decide +kernel
theorem dX8_riseOf_77 : decode cX8_riseOf 77 = .ok (.aload_n 0, 1) := by decide +kernel
theorem dX8_riseOf_78 : decode cX8_riseOf 78 = .ok (.iload_n 1, 1) := by decide +kernel
theorem dX8_riseOf_79 : decode cX8_riseOf 79 = .ok (.invokestatic 163, 3) := by decide +kernel
theorem dX8_riseOf_82 : decode cX8_riseOf 82 = .ok (.ifCond .eq 9, 3) := by decide +kernel
theorem dX8_riseOf_85 : decode cX8_riseOf 85 = .ok (.iconst 2, 1) := by decide +kernel
theorem dX8_riseOf_86 : decode cX8_riseOf 86 = .ok (.iload_n 3, 1) := by decide +kernel
theorem dX8_riseOf_87 : decode cX8_riseOf 87 = .ok (.imul, 1) := by decide +kernel
theorem dX8_riseOf_88 : decode cX8_riseOf 88 = .ok (.goto 4, 3) := by decide +kernel
theorem dX8_riseOf_91 : decode cX8_riseOf 91 = .ok (.iload_n 3, 1) := by decide +kernel
theorem dX8_riseOf_92 : decode cX8_riseOf 92 = .ok (.istore 5, 2) := by decide +kernel
theorem dX8_riseOf_94 : decode cX8_riseOf 94 = .ok (.goto 8, 3) := by decide +kernel
theorem dX8_riseOf_97 : decode cX8_riseOf 97 = .ok (.iconst 4, 1) := by decide +kernel
theorem dX8_riseOf_98 : decode cX8_riseOf 98 = .ok (.iload_n 2, 1) := by decide +kernel
theorem dX8_riseOf_99 : decode cX8_riseOf 99 = .ok (.imul, 1) := by decide +kernel
theorem dX8_riseOf_100 : decode cX8_riseOf 100 = .ok (.istore 5, 2) := by decide +kernel
theorem dX8_riseOf_102 : decode cX8_riseOf 102 = .ok (.aload_n 0, 1) := by decide +kernel
theorem dX8_riseOf_103 : decode cX8_riseOf 103 = .ok (.iload_n 1, 1) := by decide +kernel
theorem dX8_riseOf_104 : decode cX8_riseOf 104 = .ok (.iconst 0, 1) := by decide +kernel
theorem dX8_riseOf_105 : decode cX8_riseOf 105 = .ok (.invokestatic 155, 3) := by decide +kernel
theorem dX8_riseOf_108 : decode cX8_riseOf 108 = .ok (.iconst 5, 1) := by decide +kernel
theorem dX8_riseOf_109 : decode cX8_riseOf 109 = .ok (.if_icmp .ne 21, 3) := by decide +kernel
theorem dX8_riseOf_112 : decode cX8_riseOf 112 = .ok (.iload 4, 2) := by decide +kernel
theorem dX8_riseOf_114 : decode cX8_riseOf 114 = .ok (.bipush 30, 2) := by decide +kernel
theorem dX8_riseOf_116 : decode cX8_riseOf 116 = .ok (.if_icmp .lt 14, 3) := by decide +kernel
theorem dX8_riseOf_119 : decode cX8_riseOf 119 = .ok (.iload 5, 2) := by decide +kernel
theorem dX8_riseOf_121 : decode cX8_riseOf 121 = .ok (.bipush 30, 2) := by decide +kernel
theorem dX8_riseOf_123 : decode cX8_riseOf 123 = .ok (.if_icmp .ge 7, 3) := by decide +kernel
theorem dX8_riseOf_126 : decode cX8_riseOf 126 = .ok (.bipush 30, 2) := by decide +kernel
theorem dX8_riseOf_128 : decode cX8_riseOf 128 = .ok (.istore 5, 2) := by decide +kernel
theorem dX8_riseOf_130 : decode cX8_riseOf 130 = .ok (.iload 5, 2) := by decide +kernel
theorem dX8_riseOf_132 : decode cX8_riseOf 132 = .ok (.aload_n 0, 1) := by decide +kernel
theorem dX8_riseOf_133 : decode cX8_riseOf 133 = .ok (.iload_n 1, 1) := by decide +kernel
theorem dX8_riseOf_134 : decode cX8_riseOf 134 = .ok (.iconst 2, 1) := by decide +kernel
theorem dX8_riseOf_135 : decode cX8_riseOf 135 = .ok (.invokestatic 155, 3) := by decide +kernel
theorem dX8_riseOf_138 : decode cX8_riseOf 138 = .ok (.isub, 1) := by decide +kernel
theorem dX8_riseOf_139 : decode cX8_riseOf 139 = .ok (.ireturn, 1) := by decide +kernel
theorem dX8_doesSnap_0 : decode cX8_doesSnap 0 = .ok (.iload_n 2, 1) := by decide +kernel
theorem dX8_doesSnap_1 : decode cX8_doesSnap 1 = .ok (.ifCond .le 28, 3) := by decide +kernel
theorem dX8_doesSnap_4 : decode cX8_doesSnap 4 = .ok (.aload_n 0, 1) := by decide +kernel
theorem dX8_doesSnap_5 : decode cX8_doesSnap 5 = .ok (.iload_n 1, 1) := by decide +kernel
theorem dX8_doesSnap_6 : decode cX8_doesSnap 6 = .ok (.iconst 4, 1) := by decide +kernel
theorem dX8_doesSnap_7 : decode cX8_doesSnap 7 = .ok (.invokestatic 155, 3) := by decide +kernel
theorem dX8_doesSnap_10 : decode cX8_doesSnap 10 = .ok (.iload_n 2, 1) := by decide +kernel
theorem dX8_doesSnap_11 : decode cX8_doesSnap 11 = .ok (.iadd, 1) := by decide +kernel
theorem dX8_doesSnap_12 : decode cX8_doesSnap 12 = .ok (.aload_n 0, 1) := by decide +kernel
theorem dX8_doesSnap_13 : decode cX8_doesSnap 13 = .ok (.iload_n 1, 1) := by decide +kernel
theorem dX8_doesSnap_14 : decode cX8_doesSnap 14 = .ok (.iconst 5, 1) := by decide +kernel
theorem dX8_doesSnap_15 : decode cX8_doesSnap 15 = .ok (.invokestatic 155, 3) := by decide +kernel
theorem dX8_doesSnap_18 : decode cX8_doesSnap 18 = .ok (.aload_n 0, 1) := by decide +kernel
theorem dX8_doesSnap_19 : decode cX8_doesSnap 19 = .ok (.iconst 3, 1) := by decide +kernel
theorem dX8_doesSnap_20 : decode cX8_doesSnap 20 = .ok (.iaload, 1) := by decide +kernel
theorem dX8_doesSnap_21 : decode cX8_doesSnap 21 = .ok (.iadd, 1) := by decide +kernel
theorem dX8_doesSnap_22 : decode cX8_doesSnap 22 = .ok (.if_icmp .le 7, 3) := by decide +kernel
theorem dX8_doesSnap_25 : decode cX8_doesSnap 25 = .ok (.iconst 1, 1) := by decide +kernel
theorem dX8_doesSnap_26 : decode cX8_doesSnap 26 = .ok (.goto 4, 3) := by decide +kernel
theorem dX8_doesSnap_29 : decode cX8_doesSnap 29 = .ok (.iconst 0, 1) := by decide +kernel
theorem dX8_doesSnap_30 : decode cX8_doesSnap 30 = .ok (.ireturn, 1) := by decide +kernel
theorem dX8_moves_0 : decode cX8_moves 0 = .ok (.aload_n 0, 1) := by decide +kernel
theorem dX8_moves_1 : decode cX8_moves 1 = .ok (.iload_n 1, 1) := by decide +kernel
theorem dX8_moves_2 : decode cX8_moves 2 = .ok (.iconst 4, 1) := by decide +kernel
theorem dX8_moves_3 : decode cX8_moves 3 = .ok (.invokestatic 155, 3) := by decide +kernel
theorem dX8_moves_6 : decode cX8_moves 6 = .ok (.iload_n 2, 1) := by decide +kernel
theorem dX8_moves_7 : decode cX8_moves 7 = .ok (.iadd, 1) := by decide +kernel
theorem dX8_moves_8 : decode cX8_moves 8 = .ok (.istore 4, 2) := by decide +kernel
theorem dX8_moves_10 : decode cX8_moves 10 = .ok (.aload_n 0, 1) := by decide +kernel
theorem dX8_moves_11 : decode cX8_moves 11 = .ok (.iload_n 1, 1) := by decide +kernel
theorem dX8_moves_12 : decode cX8_moves 12 = .ok (.iconst 5, 1) := by decide +kernel
theorem dX8_moves_13 : decode cX8_moves 13 = .ok (.invokestatic 155, 3) := by decide +kernel
theorem dX8_moves_16 : decode cX8_moves 16 = .ok (.istore 5, 2) := by decide +kernel
theorem dX8_moves_18 : decode cX8_moves 18 = .ok (.aload_n 0, 1) := by decide +kernel
theorem dX8_moves_19 : decode cX8_moves 19 = .ok (.iload_n 1, 1) := by decide +kernel
theorem dX8_moves_20 : decode cX8_moves 20 = .ok (.iload_n 2, 1) := by decide +kernel
theorem dX8_moves_21 : decode cX8_moves 21 = .ok (.invokestatic 166, 3) := by decide +kernel
theorem dX8_moves_24 : decode cX8_moves 24 = .ok (.ifCond .eq 43, 3) := by decide +kernel
theorem dX8_moves_27 : decode cX8_moves 27 = .ok (.aload_n 0, 1) := by decide +kernel
theorem dX8_moves_28 : decode cX8_moves 28 = .ok (.iload_n 1, 1) := by decide +kernel
theorem dX8_moves_29 : decode cX8_moves 29 = .ok (.iconst 3, 1) := by decide +kernel
theorem dX8_moves_30 : decode cX8_moves 30 = .ok (.iconst 2, 1) := by decide +kernel
theorem dX8_moves_31 : decode cX8_moves 31 = .ok (.invokestatic 170, 3) := by decide +kernel
theorem dX8_moves_34 : decode cX8_moves 34 = .ok (.aload_n 0, 1) := by decide +kernel
theorem dX8_moves_35 : decode cX8_moves 35 = .ok (.iload_n 1, 1) := by decide +kernel
theorem dX8_moves_36 : decode cX8_moves 36 = .ok (.bipush 6, 2) := by decide +kernel
theorem dX8_moves_38 : decode cX8_moves 38 = .ok (.iload_n 1, 1) := by decide +kernel
theorem dX8_moves_39 : decode cX8_moves 39 = .ok (.iload 5, 2) := by decide +kernel
theorem dX8_moves_41 : decode cX8_moves 41 = .ok (.iadd, 1) := by decide +kernel
theorem dX8_moves_42 : decode cX8_moves 42 = .ok (.iload_n 3, 1) := by decide +kernel
theorem dX8_moves_43 : decode cX8_moves 43 = .ok (.iadd, 1) := by decide +kernel
theorem dX8_moves_44 : decode cX8_moves 44 = .ok (.bipush 16, 2) := by decide +kernel
theorem dX8_moves_46 : decode cX8_moves 46 = .ok (.irem, 1) := by decide +kernel
theorem dX8_moves_47 : decode cX8_moves 47 = .ok (.invokestatic 170, 3) := by decide +kernel
theorem dX8_moves_50 : decode cX8_moves 50 = .ok (.aload_n 0, 1) := by decide +kernel
theorem dX8_moves_51 : decode cX8_moves 51 = .ok (.iload_n 1, 1) := by decide +kernel
theorem dX8_moves_52 : decode cX8_moves 52 = .ok (.iconst 4, 1) := by decide +kernel
theorem dX8_moves_53 : decode cX8_moves 53 = .ok (.iconst 0, 1) := by decide +kernel
theorem dX8_moves_54 : decode cX8_moves 54 = .ok (.invokestatic 170, 3) := by decide +kernel
theorem dX8_moves_57 : decode cX8_moves 57 = .ok (.aload_n 0, 1) := by decide +kernel
theorem dX8_moves_58 : decode cX8_moves 58 = .ok (.iload_n 1, 1) := by decide +kernel
theorem dX8_moves_59 : decode cX8_moves 59 = .ok (.iconst 5, 1) := by decide +kernel
theorem dX8_moves_60 : decode cX8_moves 60 = .ok (.iconst 0, 1) := by decide +kernel
theorem dX8_moves_61 : decode cX8_moves 61 = .ok (.invokestatic 170, 3) := by decide +kernel
theorem dX8_moves_64 : decode cX8_moves 64 = .ok (.goto 56, 3) := by decide +kernel
theorem dX8_moves_67 : decode cX8_moves 67 = .ok (.iload_n 2, 1) := by decide +kernel
theorem dX8_moves_68 : decode cX8_moves 68 = .ok (.ifCond .ge 32, 3) := by decide +kernel
theorem dX8_moves_71 : decode cX8_moves 71 = .ok (.iload 4, 2) := by decide +kernel
theorem dX8_moves_73 : decode cX8_moves 73 = .ok (.ifCond .gt 27, 3) := by decide +kernel
theorem dX8_moves_76 : decode cX8_moves 76 = .ok (.aload_n 0, 1) := by decide +kernel
theorem dX8_moves_77 : decode cX8_moves 77 = .ok (.iload_n 1, 1) := by decide +kernel
theorem dX8_moves_78 : decode cX8_moves 78 = .ok (.iconst 3, 1) := by decide +kernel
theorem dX8_moves_79 : decode cX8_moves 79 = .ok (.iconst 0, 1) := by decide +kernel
theorem dX8_moves_80 : decode cX8_moves 80 = .ok (.invokestatic 170, 3) := by decide +kernel
theorem dX8_moves_83 : decode cX8_moves 83 = .ok (.aload_n 0, 1) := by decide +kernel
theorem dX8_moves_84 : decode cX8_moves 84 = .ok (.iload_n 1, 1) := by decide +kernel
theorem dX8_moves_85 : decode cX8_moves 85 = .ok (.iconst 4, 1) := by decide +kernel
theorem dX8_moves_86 : decode cX8_moves 86 = .ok (.iconst 0, 1) := by decide +kernel
theorem dX8_moves_87 : decode cX8_moves 87 = .ok (.invokestatic 170, 3) := by decide +kernel
theorem dX8_moves_90 : decode cX8_moves 90 = .ok (.aload_n 0, 1) := by decide +kernel
theorem dX8_moves_91 : decode cX8_moves 91 = .ok (.iload_n 1, 1) := by decide +kernel
theorem dX8_moves_92 : decode cX8_moves 92 = .ok (.iconst 5, 1) := by decide +kernel
theorem dX8_moves_93 : decode cX8_moves 93 = .ok (.iconst 0, 1) := by decide +kernel
theorem dX8_moves_94 : decode cX8_moves 94 = .ok (.invokestatic 170, 3) := by decide +kernel
theorem dX8_moves_97 : decode cX8_moves 97 = .ok (.goto 23, 3) := by decide +kernel
theorem dX8_moves_100 : decode cX8_moves 100 = .ok (.aload_n 0, 1) := by decide +kernel
theorem dX8_moves_101 : decode cX8_moves 101 = .ok (.iload_n 1, 1) := by decide +kernel
theorem dX8_moves_102 : decode cX8_moves 102 = .ok (.iconst 4, 1) := by decide +kernel
theorem dX8_moves_103 : decode cX8_moves 103 = .ok (.iload 4, 2) := by decide +kernel
theorem dX8_moves_105 : decode cX8_moves 105 = .ok (.iload 5, 2) := by decide +kernel
theorem dX8_moves_107 : decode cX8_moves 107 = .ok (.if_icmp .le 8, 3) := by decide +kernel
theorem dX8_moves_110 : decode cX8_moves 110 = .ok (.iload 5, 2) := by decide +kernel
theorem dX8_moves_112 : decode cX8_moves 112 = .ok (.goto 5, 3) := by decide +kernel
theorem dX8_moves_115 : decode cX8_moves 115 = .ok (.iload 4, 2) := by decide +kernel
theorem dX8_moves_117 : decode cX8_moves 117 = .ok (.invokestatic 170, 3) := by decide +kernel
theorem dX8_moves_120 : decode cX8_moves 120 = .ok (.return_, 1) := by decide +kernel
theorem dX8_hourBy_0 : decode cX8_hourBy 0 = .ok (.iconst 0, 1) := by decide +kernel
theorem dX8_hourBy_1 : decode cX8_hourBy 1 = .ok (.istore_n 3, 1) := by decide +kernel
theorem dX8_hourBy_2 : decode cX8_hourBy 2 = .ok (.iload_n 3, 1) := by decide +kernel
theorem dX8_hourBy_3 : decode cX8_hourBy 3 = .ok (.aload_n 1, 1) := by decide +kernel
theorem dX8_hourBy_4 : decode cX8_hourBy 4 = .ok (.iconst 0, 1) := by decide +kernel
theorem dX8_hourBy_5 : decode cX8_hourBy 5 = .ok (.iaload, 1) := by decide +kernel
theorem dX8_hourBy_6 : decode cX8_hourBy 6 = .ok (.if_icmp .ge 21, 3) := by decide +kernel
theorem dX8_hourBy_9 : decode cX8_hourBy 9 = .ok (.aload_n 0, 1) := by decide +kernel
theorem dX8_hourBy_10 : decode cX8_hourBy 10 = .ok (.getfield 28, 3) := by decide +kernel
theorem dX8_hourBy_13 : decode cX8_hourBy 13 = .ok (.iload_n 3, 1) := by decide +kernel
theorem dX8_hourBy_14 : decode cX8_hourBy 14 = .ok (.aload_n 1, 1) := by decide +kernel
theorem dX8_hourBy_15 : decode cX8_hourBy 15 = .ok (.iload_n 3, 1) := by decide +kernel
theorem dX8_hourBy_16 : decode cX8_hourBy 16 = .ok (.iload_n 2, 1) := by decide +kernel
theorem dX8_hourBy_17 : decode cX8_hourBy 17 = .ok (.invokestatic 174, 3) := by decide +kernel
theorem dX8_hourBy_20 : decode cX8_hourBy 20 = .ok (.iastore, 1) := by decide +kernel
theorem dX8_hourBy_21 : decode cX8_hourBy 21 = .ok (.iinc 3 1, 3) := by decide +kernel
theorem dX8_hourBy_24 : decode cX8_hourBy 24 = .ok (.goto (-22), 3) := by decide +kernel
theorem dX8_hourBy_27 : decode cX8_hourBy 27 = .ok (.iconst 0, 1) := by decide +kernel
theorem dX8_hourBy_28 : decode cX8_hourBy 28 = .ok (.istore_n 3, 1) := by decide +kernel
theorem dX8_hourBy_29 : decode cX8_hourBy 29 = .ok (.iload_n 3, 1) := by decide +kernel
theorem dX8_hourBy_30 : decode cX8_hourBy 30 = .ok (.aload_n 1, 1) := by decide +kernel
theorem dX8_hourBy_31 : decode cX8_hourBy 31 = .ok (.iconst 0, 1) := by decide +kernel
theorem dX8_hourBy_32 : decode cX8_hourBy 32 = .ok (.iaload, 1) := by decide +kernel
theorem dX8_hourBy_33 : decode cX8_hourBy 33 = .ok (.if_icmp .ge 29, 3) := by decide +kernel
theorem dX8_hourBy_36 : decode cX8_hourBy 36 = .ok (.aload_n 1, 1) := by decide +kernel
theorem dX8_hourBy_37 : decode cX8_hourBy 37 = .ok (.iload_n 3, 1) := by decide +kernel
theorem dX8_hourBy_38 : decode cX8_hourBy 38 = .ok (.invokestatic 159, 3) := by decide +kernel
theorem dX8_hourBy_41 : decode cX8_hourBy 41 = .ok (.ifCond .eq 15, 3) := by decide +kernel
theorem dX8_hourBy_44 : decode cX8_hourBy 44 = .ok (.aload_n 1, 1) := by decide +kernel
theorem dX8_hourBy_45 : decode cX8_hourBy 45 = .ok (.iload_n 3, 1) := by decide +kernel
theorem dX8_hourBy_46 : decode cX8_hourBy 46 = .ok (.aload_n 0, 1) := by decide +kernel
theorem dX8_hourBy_47 : decode cX8_hourBy 47 = .ok (.getfield 28, 3) := by decide +kernel
theorem dX8_hourBy_50 : decode cX8_hourBy 50 = .ok (.iload_n 3, 1) := by decide +kernel
theorem dX8_hourBy_51 : decode cX8_hourBy 51 = .ok (.iaload, 1) := by decide +kernel
theorem dX8_hourBy_52 : decode cX8_hourBy 52 = .ok (.iload_n 2, 1) := by decide +kernel
theorem dX8_hourBy_53 : decode cX8_hourBy 53 = .ok (.invokestatic 177, 3) := by decide +kernel
theorem dX8_hourBy_56 : decode cX8_hourBy 56 = .ok (.iinc 3 1, 3) := by decide +kernel
theorem dX8_hourBy_59 : decode cX8_hourBy 59 = .ok (.goto (-30), 3) := by decide +kernel
theorem dX8_hourBy_62 : decode cX8_hourBy 62 = .ok (.aload_n 1, 1) := by decide +kernel
theorem dX8_hourBy_63 : decode cX8_hourBy 63 = .ok (.iconst 4, 1) := by decide +kernel
theorem dX8_hourBy_64 : decode cX8_hourBy 64 = .ok (.dup2, 1) := by decide +kernel
theorem dX8_hourBy_65 : decode cX8_hourBy 65 = .ok (.iaload, 1) := by decide +kernel
theorem dX8_hourBy_66 : decode cX8_hourBy 66 = .ok (.iconst 1, 1) := by decide +kernel
theorem dX8_hourBy_67 : decode cX8_hourBy 67 = .ok (.iadd, 1) := by decide +kernel
theorem dX8_hourBy_68 : decode cX8_hourBy 68 = .ok (.iastore, 1) := by decide +kernel
theorem dX8_hourBy_69 : decode cX8_hourBy 69 = .ok (.return_, 1) := by decide +kernel
theorem dX8_hour_0 : decode cX8_hour 0 = .ok (.aload_n 0, 1) := by decide +kernel
theorem dX8_hour_1 : decode cX8_hour 1 = .ok (.aload_n 1, 1) := by decide +kernel
theorem dX8_hour_2 : decode cX8_hour 2 = .ok (.aload_n 1, 1) := by decide +kernel
theorem dX8_hour_3 : decode cX8_hour 3 = .ok (.aload_n 1, 1) := by decide +kernel
theorem dX8_hour_4 : decode cX8_hour 4 = .ok (.iconst 4, 1) := by decide +kernel
theorem dX8_hour_5 : decode cX8_hour 5 = .ok (.iaload, 1) := by decide +kernel
theorem dX8_hour_6 : decode cX8_hour 6 = .ok (.invokestatic 180, 3) := by decide +kernel
theorem dX8_hour_9 : decode cX8_hour 9 = .ok (.invokevirtual 184, 3) := by decide +kernel
theorem dX8_hour_12 : decode cX8_hour 12 = .ok (.return_, 1) := by decide +kernel
theorem dX8_hoursOf_0 : decode cX8_hoursOf 0 = .ok (.iconst 0, 1) := by decide +kernel
theorem dX8_hoursOf_1 : decode cX8_hoursOf 1 = .ok (.istore_n 3, 1) := by decide +kernel
theorem dX8_hoursOf_2 : decode cX8_hoursOf 2 = .ok (.iload_n 3, 1) := by decide +kernel
theorem dX8_hoursOf_3 : decode cX8_hoursOf 3 = .ok (.iload_n 2, 1) := by decide +kernel
theorem dX8_hoursOf_4 : decode cX8_hoursOf 4 = .ok (.if_icmp .ge 14, 3) := by decide +kernel
theorem dX8_hoursOf_7 : decode cX8_hoursOf 7 = .ok (.aload_n 0, 1) := by decide +kernel
theorem dX8_hoursOf_8 : decode cX8_hoursOf 8 = .ok (.aload_n 1, 1) := by decide +kernel
theorem dX8_hoursOf_9 : decode cX8_hoursOf 9 = .ok (.invokevirtual 188, 3) := by decide +kernel
theorem dX8_hoursOf_12 : decode cX8_hoursOf 12 = .ok (.iinc 3 1, 3) := by decide +kernel
theorem dX8_hoursOf_15 : decode cX8_hoursOf 15 = .ok (.goto (-13), 3) := by decide +kernel
theorem dX8_hoursOf_18 : decode cX8_hoursOf 18 = .ok (.return_, 1) := by decide +kernel
theorem dX8_isPolicy_0 : decode cX8_isPolicy 0 = .ok (.aload_n 0, 1) := by decide +kernel
theorem dX8_isPolicy_1 : decode cX8_isPolicy 1 = .ok (.iload_n 1, 1) := by decide +kernel
theorem dX8_isPolicy_2 : decode cX8_isPolicy 2 = .ok (.invokestatic 159, 3) := by decide +kernel
theorem dX8_isPolicy_5 : decode cX8_isPolicy 5 = .ok (.ifCond .eq 19, 3) := by decide +kernel
theorem dX8_isPolicy_8 : decode cX8_isPolicy 8 = .ok (.aload_n 0, 1) := by decide +kernel
theorem dX8_isPolicy_9 : decode cX8_isPolicy 9 = .ok (.iload_n 1, 1) := by decide +kernel
theorem dX8_isPolicy_10 : decode cX8_isPolicy 10 = .ok (.iconst 4, 1) := by decide +kernel
theorem dX8_isPolicy_11 : decode cX8_isPolicy 11 = .ok (.invokestatic 155, 3) := by decide +kernel
theorem dX8_isPolicy_14 : decode cX8_isPolicy 14 = .ok (.aload_n 0, 1) := by decide +kernel
theorem dX8_isPolicy_15 : decode cX8_isPolicy 15 = .ok (.iconst 2, 1) := by decide +kernel
theorem dX8_isPolicy_16 : decode cX8_isPolicy 16 = .ok (.iaload, 1) := by decide +kernel
theorem dX8_isPolicy_17 : decode cX8_isPolicy 17 = .ok (.if_icmp .lt 7, 3) := by decide +kernel
theorem dX8_isPolicy_20 : decode cX8_isPolicy 20 = .ok (.iconst 1, 1) := by decide +kernel
theorem dX8_isPolicy_21 : decode cX8_isPolicy 21 = .ok (.goto 4, 3) := by decide +kernel
theorem dX8_isPolicy_24 : decode cX8_isPolicy 24 = .ok (.iconst 0, 1) := by decide +kernel
theorem dX8_isPolicy_25 : decode cX8_isPolicy 25 = .ok (.ireturn, 1) := by decide +kernel
theorem dX8_policies_0 : decode cX8_policies 0 = .ok (.iconst 0, 1) := by decide +kernel
theorem dX8_policies_1 : decode cX8_policies 1 = .ok (.istore_n 1, 1) := by decide +kernel
theorem dX8_policies_2 : decode cX8_policies 2 = .ok (.iconst 0, 1) := by decide +kernel
theorem dX8_policies_3 : decode cX8_policies 3 = .ok (.istore_n 2, 1) := by decide +kernel
theorem dX8_policies_4 : decode cX8_policies 4 = .ok (.iload_n 2, 1) := by decide +kernel
theorem dX8_policies_5 : decode cX8_policies 5 = .ok (.aload_n 0, 1) := by decide +kernel
theorem dX8_policies_6 : decode cX8_policies 6 = .ok (.iconst 0, 1) := by decide +kernel
theorem dX8_policies_7 : decode cX8_policies 7 = .ok (.iaload, 1) := by decide +kernel
theorem dX8_policies_8 : decode cX8_policies 8 = .ok (.if_icmp .ge 27, 3) := by decide +kernel
theorem dX8_policies_11 : decode cX8_policies 11 = .ok (.iload_n 1, 1) := by decide +kernel
theorem dX8_policies_12 : decode cX8_policies 12 = .ok (.aload_n 0, 1) := by decide +kernel
theorem dX8_policies_13 : decode cX8_policies 13 = .ok (.iload_n 2, 1) := by decide +kernel
theorem dX8_policies_14 : decode cX8_policies 14 = .ok (.invokestatic 192, 3) := by decide +kernel
theorem dX8_policies_17 : decode cX8_policies 17 = .ok (.ifCond .eq 9, 3) := by decide +kernel
theorem dX8_policies_20 : decode cX8_policies 20 = .ok (.iconst 1, 1) := by decide +kernel
theorem dX8_policies_21 : decode cX8_policies 21 = .ok (.iload_n 2, 1) := by decide +kernel
theorem dX8_policies_22 : decode cX8_policies 22 = .ok (.ishl, 1) := by decide +kernel
theorem dX8_policies_23 : decode cX8_policies 23 = .ok (.goto 4, 3) := by decide +kernel
theorem dX8_policies_26 : decode cX8_policies 26 = .ok (.iconst 0, 1) := by decide +kernel
theorem dX8_policies_27 : decode cX8_policies 27 = .ok (.ior, 1) := by decide +kernel
theorem dX8_policies_28 : decode cX8_policies 28 = .ok (.istore_n 1, 1) := by decide +kernel
theorem dX8_policies_29 : decode cX8_policies 29 = .ok (.iinc 2 1, 3) := by decide +kernel
theorem dX8_policies_32 : decode cX8_policies 32 = .ok (.goto (-28), 3) := by decide +kernel
theorem dX8_policies_35 : decode cX8_policies 35 = .ok (.iload_n 1, 1) := by decide +kernel
theorem dX8_policies_36 : decode cX8_policies 36 = .ok (.ireturn, 1) := by decide +kernel
theorem dX8_those_0 : decode cX8_those 0 = .ok (.iconst 0, 1) := by decide +kernel
theorem dX8_those_1 : decode cX8_those 1 = .ok (.istore_n 2, 1) := by decide +kernel
theorem dX8_those_2 : decode cX8_those 2 = .ok (.iconst 0, 1) := by decide +kernel
theorem dX8_those_3 : decode cX8_those 3 = .ok (.istore_n 3, 1) := by decide +kernel
theorem dX8_those_4 : decode cX8_those 4 = .ok (.iload_n 3, 1) := by decide +kernel
theorem dX8_those_5 : decode cX8_those 5 = .ok (.aload_n 0, 1) := by decide +kernel
theorem dX8_those_6 : decode cX8_those 6 = .ok (.iconst 0, 1) := by decide +kernel
theorem dX8_those_7 : decode cX8_those 7 = .ok (.iaload, 1) := by decide +kernel
theorem dX8_those_8 : decode cX8_those 8 = .ok (.if_icmp .ge 29, 3) := by decide +kernel
theorem dX8_those_11 : decode cX8_those 11 = .ok (.iload_n 2, 1) := by decide +kernel
theorem dX8_those_12 : decode cX8_those 12 = .ok (.aload_n 0, 1) := by decide +kernel
theorem dX8_those_13 : decode cX8_those 13 = .ok (.iload_n 3, 1) := by decide +kernel
theorem dX8_those_14 : decode cX8_those 14 = .ok (.iconst 3, 1) := by decide +kernel
theorem dX8_those_15 : decode cX8_those 15 = .ok (.invokestatic 155, 3) := by decide +kernel
theorem dX8_those_18 : decode cX8_those 18 = .ok (.iload_n 1, 1) := by decide +kernel
theorem dX8_those_19 : decode cX8_those 19 = .ok (.if_icmp .ne 9, 3) := by decide +kernel
theorem dX8_those_22 : decode cX8_those 22 = .ok (.iconst 1, 1) := by decide +kernel
theorem dX8_those_23 : decode cX8_those 23 = .ok (.iload_n 3, 1) := by decide +kernel
theorem dX8_those_24 : decode cX8_those 24 = .ok (.ishl, 1) := by decide +kernel
theorem dX8_those_25 : decode cX8_those 25 = .ok (.goto 4, 3) := by decide +kernel
theorem dX8_those_28 : decode cX8_those 28 = .ok (.iconst 0, 1) := by decide +kernel
theorem dX8_those_29 : decode cX8_those 29 = .ok (.ior, 1) := by decide +kernel
theorem dX8_those_30 : decode cX8_those 30 = .ok (.istore_n 2, 1) := by decide +kernel
theorem dX8_those_31 : decode cX8_those 31 = .ok (.iinc 3 1, 3) := by decide +kernel
theorem dX8_those_34 : decode cX8_those 34 = .ok (.goto (-30), 3) := by decide +kernel
theorem dX8_those_37 : decode cX8_those 37 = .ok (.iload_n 2, 1) := by decide +kernel
theorem dX8_those_38 : decode cX8_those 38 = .ok (.ireturn, 1) := by decide +kernel
theorem dX8_layThen_0 : decode cX8_layThen 0 = .ok (.iconst 0, 1) := by decide +kernel
theorem dX8_layThen_1 : decode cX8_layThen 1 = .ok (.istore_n 1, 1) := by decide +kernel
theorem dX8_layThen_2 : decode cX8_layThen 2 = .ok (.iload_n 1, 1) := by decide +kernel
theorem dX8_layThen_3 : decode cX8_layThen 3 = .ok (.bipush 53, 2) := by decide +kernel
theorem dX8_layThen_5 : decode cX8_layThen 5 = .ok (.if_icmp .ge 21, 3) := by decide +kernel
theorem dX8_layThen_8 : decode cX8_layThen 8 = .ok (.aload_n 0, 1) := by decide +kernel
theorem dX8_layThen_9 : decode cX8_layThen 9 = .ok (.getfield 25, 3) := by decide +kernel
theorem dX8_layThen_12 : decode cX8_layThen 12 = .ok (.iload_n 1, 1) := by decide +kernel
theorem dX8_layThen_13 : decode cX8_layThen 13 = .ok (.aload_n 0, 1) := by decide +kernel
theorem dX8_layThen_14 : decode cX8_layThen 14 = .ok (.getfield 19, 3) := by decide +kernel
theorem dX8_layThen_17 : decode cX8_layThen 17 = .ok (.iload_n 1, 1) := by decide +kernel
theorem dX8_layThen_18 : decode cX8_layThen 18 = .ok (.iaload, 1) := by decide +kernel
theorem dX8_layThen_19 : decode cX8_layThen 19 = .ok (.iastore, 1) := by decide +kernel
theorem dX8_layThen_20 : decode cX8_layThen 20 = .ok (.iinc 1 1, 3) := by decide +kernel
theorem dX8_layThen_23 : decode cX8_layThen 23 = .ok (.goto (-21), 3) := by decide +kernel
theorem dX8_layThen_26 : decode cX8_layThen 26 = .ok (.return_, 1) := by decide +kernel
theorem dX8_goesUp_0 : decode cX8_goesUp 0 = .ok (.aload_n 0, 1) := by decide +kernel
theorem dX8_goesUp_1 : decode cX8_goesUp 1 = .ok (.iload_n 1, 1) := by decide +kernel
theorem dX8_goesUp_2 : decode cX8_goesUp 2 = .ok (.iconst 3, 1) := by decide +kernel
theorem dX8_goesUp_3 : decode cX8_goesUp 3 = .ok (.iconst 1, 1) := by decide +kernel
theorem dX8_goesUp_4 : decode cX8_goesUp 4 = .ok (.invokestatic 170, 3) := by decide +kernel
theorem dX8_goesUp_7 : decode cX8_goesUp 7 = .ok (.aload_n 0, 1) := by decide +kernel
theorem dX8_goesUp_8 : decode cX8_goesUp 8 = .ok (.iload_n 1, 1) := by decide +kernel
theorem dX8_goesUp_9 : decode cX8_goesUp 9 = .ok (.iconst 4, 1) := by decide +kernel
theorem dX8_goesUp_10 : decode cX8_goesUp 10 = .ok (.iconst 0, 1) := by decide +kernel
theorem dX8_goesUp_11 : decode cX8_goesUp 11 = .ok (.invokestatic 170, 3) := by decide +kernel
theorem dX8_goesUp_14 : decode cX8_goesUp 14 = .ok (.aload_n 0, 1) := by decide +kernel
theorem dX8_goesUp_15 : decode cX8_goesUp 15 = .ok (.iload_n 1, 1) := by decide +kernel
theorem dX8_goesUp_16 : decode cX8_goesUp 16 = .ok (.iconst 5, 1) := by decide +kernel
theorem dX8_goesUp_17 : decode cX8_goesUp 17 = .ok (.iload_n 2, 1) := by decide +kernel
theorem dX8_goesUp_18 : decode cX8_goesUp 18 = .ok (.invokestatic 170, 3) := by decide +kernel
theorem dX8_goesUp_21 : decode cX8_goesUp 21 = .ok (.return_, 1) := by decide +kernel
theorem dX8_letsOut_0 : decode cX8_letsOut 0 = .ok (.aload_n 0, 1) := by decide +kernel
theorem dX8_letsOut_1 : decode cX8_letsOut 1 = .ok (.iload_n 1, 1) := by decide +kernel
theorem dX8_letsOut_2 : decode cX8_letsOut 2 = .ok (.iconst 5, 1) := by decide +kernel
theorem dX8_letsOut_3 : decode cX8_letsOut 3 = .ok (.iload_n 2, 1) := by decide +kernel
theorem dX8_letsOut_4 : decode cX8_letsOut 4 = .ok (.invokestatic 170, 3) := by decide +kernel
theorem dX8_letsOut_7 : decode cX8_letsOut 7 = .ok (.aload_n 0, 1) := by decide +kernel
theorem dX8_letsOut_8 : decode cX8_letsOut 8 = .ok (.iload_n 1, 1) := by decide +kernel
theorem dX8_letsOut_9 : decode cX8_letsOut 9 = .ok (.iconst 4, 1) := by decide +kernel
theorem dX8_letsOut_10 : decode cX8_letsOut 10 = .ok (.aload_n 0, 1) := by decide +kernel
theorem dX8_letsOut_11 : decode cX8_letsOut 11 = .ok (.iload_n 1, 1) := by decide +kernel
theorem dX8_letsOut_12 : decode cX8_letsOut 12 = .ok (.iconst 4, 1) := by decide +kernel
theorem dX8_letsOut_13 : decode cX8_letsOut 13 = .ok (.invokestatic 155, 3) := by decide +kernel
theorem dX8_letsOut_16 : decode cX8_letsOut 16 = .ok (.iload_n 2, 1) := by decide +kernel
theorem dX8_letsOut_17 : decode cX8_letsOut 17 = .ok (.if_icmp .le 7, 3) := by decide +kernel
theorem dX8_letsOut_20 : decode cX8_letsOut 20 = .ok (.iload_n 2, 1) := by decide +kernel
theorem dX8_letsOut_21 : decode cX8_letsOut 21 = .ok (.goto 9, 3) := by decide +kernel
theorem dX8_letsOut_24 : decode cX8_letsOut 24 = .ok (.aload_n 0, 1) := by decide +kernel
theorem dX8_letsOut_25 : decode cX8_letsOut 25 = .ok (.iload_n 1, 1) := by decide +kernel
theorem dX8_letsOut_26 : decode cX8_letsOut 26 = .ok (.iconst 4, 1) := by decide +kernel
theorem dX8_letsOut_27 : decode cX8_letsOut 27 = .ok (.invokestatic 155, 3) := by decide +kernel
theorem dX8_letsOut_30 : decode cX8_letsOut 30 = .ok (.invokestatic 170, 3) := by decide +kernel
theorem dX8_letsOut_33 : decode cX8_letsOut 33 = .ok (.return_, 1) := by decide +kernel
theorem dX8_keep_0 : decode cX8_keep 0 = .ok (.aload_n 0, 1) := by decide +kernel
theorem dX8_keep_1 : decode cX8_keep 1 = .ok (.getfield 152, 3) := by decide +kernel
theorem dX8_keep_4 : decode cX8_keep 4 = .ok (.bipush 24, 2) := by decide +kernel
theorem dX8_keep_6 : decode cX8_keep 6 = .ok (.if_icmp .ne 43, 3) := by decide +kernel
theorem dX8_keep_9 : decode cX8_keep 9 = .ok (.iconst 0, 1) := by decide +kernel
theorem dX8_keep_10 : decode cX8_keep 10 = .ok (.istore_n 1, 1) := by decide +kernel
theorem dX8_keep_11 : decode cX8_keep 11 = .ok (.iload_n 1, 1) := by decide +kernel
theorem dX8_keep_12 : decode cX8_keep 12 = .ok (.sipush 1219, 3) := by decide +kernel
theorem dX8_keep_15 : decode cX8_keep 15 = .ok (.if_icmp .ge 24, 3) := by decide +kernel
theorem dX8_keep_18 : decode cX8_keep 18 = .ok (.aload_n 0, 1) := by decide +kernel
theorem dX8_keep_19 : decode cX8_keep 19 = .ok (.getfield 31, 3) := by decide +kernel
theorem dX8_keep_22 : decode cX8_keep 22 = .ok (.iload_n 1, 1) := by decide +kernel
theorem dX8_keep_23 : decode cX8_keep 23 = .ok (.aload_n 0, 1) := by decide +kernel
theorem dX8_keep_24 : decode cX8_keep 24 = .ok (.getfield 31, 3) := by decide +kernel
theorem dX8_keep_27 : decode cX8_keep 27 = .ok (.iload_n 1, 1) := by decide +kernel
theorem dX8_keep_28 : decode cX8_keep 28 = .ok (.bipush 53, 2) := by decide +kernel
theorem dX8_keep_30 : decode cX8_keep 30 = .ok (.iadd, 1) := by decide +kernel
theorem dX8_keep_31 : decode cX8_keep 31 = .ok (.iaload, 1) := by decide +kernel
theorem dX8_keep_32 : decode cX8_keep 32 = .ok (.iastore, 1) := by decide +kernel
theorem dX8_keep_33 : decode cX8_keep 33 = .ok (.iinc 1 1, 3) := by decide +kernel
theorem dX8_keep_36 : decode cX8_keep 36 = .ok (.goto (-25), 3) := by decide +kernel
theorem dX8_keep_39 : decode cX8_keep 39 = .ok (.aload_n 0, 1) := by decide +kernel
theorem dX8_keep_40 : decode cX8_keep 40 = .ok (.dup, 1) := by decide +kernel
theorem dX8_keep_41 : decode cX8_keep 41 = .ok (.getfield 152, 3) := by decide +kernel
theorem dX8_keep_44 : decode cX8_keep 44 = .ok (.iconst 1, 1) := by decide +kernel
theorem dX8_keep_45 : decode cX8_keep 45 = .ok (.isub, 1) := by decide +kernel
theorem dX8_keep_46 : decode cX8_keep 46 = .ok (.putfield 152, 3) := by decide +kernel
theorem dX8_keep_49 : decode cX8_keep 49 = .ok (.iconst 0, 1) := by decide +kernel
theorem dX8_keep_50 : decode cX8_keep 50 = .ok (.istore_n 1, 1) := by decide +kernel
theorem dX8_keep_51 : decode cX8_keep 51 = .ok (.iload_n 1, 1) := by decide +kernel
theorem dX8_keep_52 : decode cX8_keep 52 = .ok (.bipush 53, 2) := by decide +kernel
theorem dX8_keep_54 : decode cX8_keep 54 = .ok (.if_icmp .ge 29, 3) := by decide +kernel
theorem dX8_keep_57 : decode cX8_keep 57 = .ok (.aload_n 0, 1) := by decide +kernel
theorem dX8_keep_58 : decode cX8_keep 58 = .ok (.getfield 31, 3) := by decide +kernel
theorem dX8_keep_61 : decode cX8_keep 61 = .ok (.bipush 53, 2) := by decide +kernel
theorem dX8_keep_63 : decode cX8_keep 63 = .ok (.aload_n 0, 1) := by decide +kernel
theorem dX8_keep_64 : decode cX8_keep 64 = .ok (.getfield 152, 3) := by decide +kernel
theorem dX8_keep_67 : decode cX8_keep 67 = .ok (.imul, 1) := by decide +kernel
theorem dX8_keep_68 : decode cX8_keep 68 = .ok (.iload_n 1, 1) := by decide +kernel
theorem dX8_keep_69 : decode cX8_keep 69 = .ok (.iadd, 1) := by decide +kernel
theorem dX8_keep_70 : decode cX8_keep 70 = .ok (.aload_n 0, 1) := by decide +kernel
theorem dX8_keep_71 : decode cX8_keep 71 = .ok (.getfield 19, 3) := by decide +kernel
theorem dX8_keep_74 : decode cX8_keep 74 = .ok (.iload_n 1, 1) := by decide +kernel
theorem dX8_keep_75 : decode cX8_keep 75 = .ok (.iaload, 1) := by decide +kernel
theorem dX8_keep_76 : decode cX8_keep 76 = .ok (.iastore, 1) := by decide +kernel
theorem dX8_keep_77 : decode cX8_keep 77 = .ok (.iinc 1 1, 3) := by decide +kernel
theorem dX8_keep_80 : decode cX8_keep 80 = .ok (.goto (-29), 3) := by decide +kernel
theorem dX8_keep_83 : decode cX8_keep 83 = .ok (.aload_n 0, 1) := by decide +kernel
theorem dX8_keep_84 : decode cX8_keep 84 = .ok (.dup, 1) := by decide +kernel
theorem dX8_keep_85 : decode cX8_keep 85 = .ok (.getfield 152, 3) := by decide +kernel
theorem dX8_keep_88 : decode cX8_keep 88 = .ok (.iconst 1, 1) := by decide +kernel
theorem dX8_keep_89 : decode cX8_keep 89 = .ok (.iadd, 1) := by decide +kernel
theorem dX8_keep_90 : decode cX8_keep 90 = .ok (.putfield 152, 3) := by decide +kernel
theorem dX8_keep_93 : decode cX8_keep 93 = .ok (.return_, 1) := by decide +kernel
theorem dX8_hours_0 : decode cX8_hours 0 = .ok (.aload_n 0, 1) := by decide +kernel
theorem dX8_hours_1 : decode cX8_hours 1 = .ok (.iconst 0, 1) := by decide +kernel
theorem dX8_hours_2 : decode cX8_hours 2 = .ok (.putfield 50, 3) := by decide +kernel
theorem dX8_hours_5 : decode cX8_hours 5 = .ok (.aload_n 0, 1) := by decide +kernel
theorem dX8_hours_6 : decode cX8_hours 6 = .ok (.invokevirtual 195, 3) := by decide +kernel
theorem dX8_hours_9 : decode cX8_hours 9 = .ok (.ifCond .ne 6, 3) := by decide +kernel
theorem dX8_hours_12 : decode cX8_hours 12 = .ok (.ldc 198, 2) := by decide +kernel
theorem dX8_hours_14 : decode cX8_hours 14 = .ok (.ireturn, 1) := by decide +kernel
theorem dX8_hours_15 : decode cX8_hours 15 = .ok (.iload_n 1, 1) := by decide +kernel
theorem dX8_hours_16 : decode cX8_hours 16 = .ok (.i2l, 1) := by decide +kernel
theorem dX8_hours_17 : decode cX8_hours 17 = .ok (.lconst 1, 1) := by decide +kernel
theorem dX8_hours_18 : decode cX8_hours 18 = .ok (.ldc2_w 199, 3) := by decide +kernel
theorem dX8_hours_21 : decode cX8_hours 21 = .ok (.invokestatic 60, 3) := by decide +kernel
theorem dX8_hours_24 : decode cX8_hours 24 = .ok (.ifCond .ne 6, 3) := by decide +kernel
theorem dX8_hours_27 : decode cX8_hours 27 = .ok (.ldc 70, 2) := by decide +kernel
theorem dX8_hours_29 : decode cX8_hours 29 = .ok (.ireturn, 1) := by decide +kernel
theorem dX8_hours_30 : decode cX8_hours 30 = .ok (.aload_n 0, 1) := by decide +kernel
theorem dX8_hours_31 : decode cX8_hours 31 = .ok (.getfield 19, 3) := by decide +kernel
theorem dX8_hours_34 : decode cX8_hours 34 = .ok (.iconst 4, 1) := by decide +kernel
theorem dX8_hours_35 : decode cX8_hours 35 = .ok (.iaload, 1) := by decide +kernel
theorem dX8_hours_36 : decode cX8_hours 36 = .ok (.iload_n 1, 1) := by decide +kernel
theorem dX8_hours_37 : decode cX8_hours 37 = .ok (.iadd, 1) := by decide +kernel
theorem dX8_hours_38 : decode cX8_hours 38 = .ok (.sipush 999, 3) := by decide +kernel
theorem dX8_hours_41 : decode cX8_hours 41 = .ok (.if_icmp .le 6, 3) := by decide +kernel
theorem dX8_hours_44 : decode cX8_hours 44 = .ok (.ldc 80, 2) := by decide +kernel
theorem dX8_hours_46 : decode cX8_hours 46 = .ok (.ireturn, 1) := by decide +kernel
theorem dX8_hours_47 : decode cX8_hours 47 = .ok (.iconst 0, 1) := by decide +kernel
theorem dX8_hours_48 : decode cX8_hours 48 = .ok (.istore_n 2, 1) := by decide +kernel
theorem dX8_hours_49 : decode cX8_hours 49 = .ok (.iload_n 2, 1) := by decide +kernel
theorem dX8_hours_50 : decode cX8_hours 50 = .ok (.iload_n 1, 1) := by decide +kernel
theorem dX8_hours_51 : decode cX8_hours 51 = .ok (.if_icmp .ge 21, 3) := by decide +kernel
theorem dX8_hours_54 : decode cX8_hours 54 = .ok (.aload_n 0, 1) := by decide +kernel
theorem dX8_hours_55 : decode cX8_hours 55 = .ok (.invokevirtual 201, 3) := by decide +kernel
theorem dX8_hours_58 : decode cX8_hours 58 = .ok (.aload_n 0, 1) := by decide +kernel
theorem dX8_hours_59 : decode cX8_hours 59 = .ok (.aload_n 0, 1) := by decide +kernel
theorem dX8_hours_60 : decode cX8_hours 60 = .ok (.getfield 19, 3) := by decide +kernel
theorem dX8_hours_63 : decode cX8_hours 63 = .ok (.invokevirtual 188, 3) := by decide +kernel
theorem dX8_hours_66 : decode cX8_hours 66 = .ok (.iinc 2 1, 3) := by decide +kernel
theorem dX8_hours_69 : decode cX8_hours 69 = .ok (.goto (-20), 3) := by decide +kernel
theorem dX8_hours_72 : decode cX8_hours 72 = .ok (.aload_n 0, 1) := by decide +kernel
theorem dX8_hours_73 : decode cX8_hours 73 = .ok (.getfield 19, 3) := by decide +kernel
theorem dX8_hours_76 : decode cX8_hours 76 = .ok (.invokestatic 204, 3) := by decide +kernel
theorem dX8_hours_79 : decode cX8_hours 79 = .ok (.ireturn, 1) := by decide +kernel
theorem dX8_send_0 : decode cX8_send 0 = .ok (.aload_n 0, 1) := by decide +kernel
theorem dX8_send_1 : decode cX8_send 1 = .ok (.iconst 0, 1) := by decide +kernel
theorem dX8_send_2 : decode cX8_send 2 = .ok (.putfield 50, 3) := by decide +kernel
theorem dX8_send_5 : decode cX8_send 5 = .ok (.aload_n 0, 1) := by decide +kernel
theorem dX8_send_6 : decode cX8_send 6 = .ok (.iload_n 1, 1) := by decide +kernel
theorem dX8_send_7 : decode cX8_send 7 = .ok (.invokevirtual 208, 3) := by decide +kernel
theorem dX8_send_10 : decode cX8_send 10 = .ok (.ifCond .eq 15, 3) := by decide +kernel
theorem dX8_send_13 : decode cX8_send 13 = .ok (.iload_n 2, 1) := by decide +kernel
theorem dX8_send_14 : decode cX8_send 14 = .ok (.i2l, 1) := by decide +kernel
theorem dX8_send_15 : decode cX8_send 15 = .ok (.lconst 1, 1) := by decide +kernel
theorem dX8_send_16 : decode cX8_send 16 = .ok (.ldc2_w 211, 3) := by decide +kernel
theorem dX8_send_19 : decode cX8_send 19 = .ok (.invokestatic 60, 3) := by decide +kernel
theorem dX8_send_22 : decode cX8_send 22 = .ok (.ifCond .ne 6, 3) := by decide +kernel
theorem dX8_send_25 : decode cX8_send 25 = .ok (.ldc 70, 2) := by decide +kernel
theorem dX8_send_27 : decode cX8_send 27 = .ok (.ireturn, 1) := by decide +kernel
theorem dX8_send_28 : decode cX8_send 28 = .ok (.aload_n 0, 1) := by decide +kernel
theorem dX8_send_29 : decode cX8_send 29 = .ok (.getfield 19, 3) := by decide +kernel
theorem dX8_send_32 : decode cX8_send 32 = .ok (.iload_n 1, 1) := by decide +kernel
theorem dX8_send_33 : decode cX8_send 33 = .ok (.iconst 3, 1) := by decide +kernel
theorem dX8_send_34 : decode cX8_send 34 = .ok (.invokestatic 155, 3) := by decide +kernel
theorem dX8_send_37 : decode cX8_send 37 = .ok (.ifCond .eq 6, 3) := by decide +kernel
theorem dX8_send_40 : decode cX8_send 40 = .ok (.ldc 198, 2) := by decide +kernel
theorem dX8_send_42 : decode cX8_send 42 = .ok (.ireturn, 1) := by decide +kernel
theorem dX8_send_43 : decode cX8_send 43 = .ok (.aload_n 0, 1) := by decide +kernel
theorem dX8_send_44 : decode cX8_send 44 = .ok (.invokevirtual 201, 3) := by decide +kernel
theorem dX8_send_47 : decode cX8_send 47 = .ok (.aload_n 0, 1) := by decide +kernel
theorem dX8_send_48 : decode cX8_send 48 = .ok (.getfield 19, 3) := by decide +kernel
theorem dX8_send_51 : decode cX8_send 51 = .ok (.iload_n 1, 1) := by decide +kernel
theorem dX8_send_52 : decode cX8_send 52 = .ok (.iload_n 2, 1) := by decide +kernel
theorem dX8_send_53 : decode cX8_send 53 = .ok (.invokestatic 213, 3) := by decide +kernel
theorem dX8_send_56 : decode cX8_send 56 = .ok (.aload_n 0, 1) := by decide +kernel
theorem dX8_send_57 : decode cX8_send 57 = .ok (.getfield 19, 3) := by decide +kernel
theorem dX8_send_60 : decode cX8_send 60 = .ok (.iconst 1, 1) := by decide +kernel
theorem dX8_send_61 : decode cX8_send 61 = .ok (.invokestatic 217, 3) := by decide +kernel
theorem dX8_send_64 : decode cX8_send 64 = .ok (.ireturn, 1) := by decide +kernel
theorem dX8_let_0 : decode cX8_let 0 = .ok (.aload_n 0, 1) := by decide +kernel
theorem dX8_let_1 : decode cX8_let 1 = .ok (.iconst 0, 1) := by decide +kernel
theorem dX8_let_2 : decode cX8_let 2 = .ok (.putfield 50, 3) := by decide +kernel
theorem dX8_let_5 : decode cX8_let 5 = .ok (.aload_n 0, 1) := by decide +kernel
theorem dX8_let_6 : decode cX8_let 6 = .ok (.iload_n 1, 1) := by decide +kernel
theorem dX8_let_7 : decode cX8_let 7 = .ok (.invokevirtual 208, 3) := by decide +kernel
theorem dX8_let_10 : decode cX8_let 10 = .ok (.ifCond .eq 21, 3) := by decide +kernel
theorem dX8_let_13 : decode cX8_let 13 = .ok (.iload_n 2, 1) := by decide +kernel
theorem dX8_let_14 : decode cX8_let 14 = .ok (.i2l, 1) := by decide +kernel
theorem dX8_let_15 : decode cX8_let 15 = .ok (.ldc2_w 220, 3) := by decide +kernel
theorem dX8_let_18 : decode cX8_let 18 = .ok (.ldc2_w 211, 3) := by decide +kernel
theorem dX8_let_21 : decode cX8_let 21 = .ok (.invokestatic 60, 3) := by decide +kernel
theorem dX8_let_24 : decode cX8_let 24 = .ok (.ifCond .eq 7, 3) := by decide +kernel
theorem dX8_let_27 : decode cX8_let 27 = .ok (.iload_n 2, 1) := by decide +kernel
theorem dX8_let_28 : decode cX8_let 28 = .ok (.ifCond .ne 6, 3) := by decide +kernel
theorem dX8_let_31 : decode cX8_let 31 = .ok (.ldc 70, 2) := by decide +kernel
theorem dX8_let_33 : decode cX8_let 33 = .ok (.ireturn, 1) := by decide +kernel
theorem dX8_let_34 : decode cX8_let 34 = .ok (.aload_n 0, 1) := by decide +kernel
theorem dX8_let_35 : decode cX8_let 35 = .ok (.getfield 19, 3) := by decide +kernel
theorem dX8_let_38 : decode cX8_let 38 = .ok (.iload_n 1, 1) := by decide +kernel
theorem dX8_let_39 : decode cX8_let 39 = .ok (.invokestatic 159, 3) := by decide +kernel
theorem dX8_let_42 : decode cX8_let 42 = .ok (.ifCond .eq 25, 3) := by decide +kernel
theorem dX8_let_45 : decode cX8_let 45 = .ok (.aload_n 0, 1) := by decide +kernel
theorem dX8_let_46 : decode cX8_let 46 = .ok (.getfield 19, 3) := by decide +kernel
theorem dX8_let_49 : decode cX8_let 49 = .ok (.iload_n 1, 1) := by decide +kernel
theorem dX8_let_50 : decode cX8_let 50 = .ok (.iconst 5, 1) := by decide +kernel
theorem dX8_let_51 : decode cX8_let 51 = .ok (.invokestatic 155, 3) := by decide +kernel
theorem dX8_let_54 : decode cX8_let 54 = .ok (.iload_n 2, 1) := by decide +kernel
theorem dX8_let_55 : decode cX8_let 55 = .ok (.iadd, 1) := by decide +kernel
theorem dX8_let_56 : decode cX8_let 56 = .ok (.i2l, 1) := by decide +kernel
theorem dX8_let_57 : decode cX8_let 57 = .ok (.lconst 1, 1) := by decide +kernel
theorem dX8_let_58 : decode cX8_let 58 = .ok (.ldc2_w 211, 3) := by decide +kernel
theorem dX8_let_61 : decode cX8_let 61 = .ok (.invokestatic 60, 3) := by decide +kernel
theorem dX8_let_64 : decode cX8_let 64 = .ok (.ifCond .ne 6, 3) := by decide +kernel
theorem dX8_let_67 : decode cX8_let 67 = .ok (.ldc 198, 2) := by decide +kernel
theorem dX8_let_69 : decode cX8_let 69 = .ok (.ireturn, 1) := by decide +kernel
theorem dX8_let_70 : decode cX8_let 70 = .ok (.aload_n 0, 1) := by decide +kernel
theorem dX8_let_71 : decode cX8_let 71 = .ok (.invokevirtual 201, 3) := by decide +kernel
theorem dX8_let_74 : decode cX8_let 74 = .ok (.aload_n 0, 1) := by decide +kernel
theorem dX8_let_75 : decode cX8_let 75 = .ok (.getfield 19, 3) := by decide +kernel
theorem dX8_let_78 : decode cX8_let 78 = .ok (.iload_n 1, 1) := by decide +kernel
theorem dX8_let_79 : decode cX8_let 79 = .ok (.aload_n 0, 1) := by decide +kernel
theorem dX8_let_80 : decode cX8_let 80 = .ok (.getfield 19, 3) := by decide +kernel
theorem dX8_let_83 : decode cX8_let 83 = .ok (.iload_n 1, 1) := by decide +kernel
theorem dX8_let_84 : decode cX8_let 84 = .ok (.iconst 5, 1) := by decide +kernel
theorem dX8_let_85 : decode cX8_let 85 = .ok (.invokestatic 155, 3) := by decide +kernel
theorem dX8_let_88 : decode cX8_let 88 = .ok (.iload_n 2, 1) := by decide +kernel
theorem dX8_let_89 : decode cX8_let 89 = .ok (.iadd, 1) := by decide +kernel
theorem dX8_let_90 : decode cX8_let 90 = .ok (.invokestatic 222, 3) := by decide +kernel
theorem dX8_let_93 : decode cX8_let 93 = .ok (.aload_n 0, 1) := by decide +kernel
theorem dX8_let_94 : decode cX8_let 94 = .ok (.getfield 19, 3) := by decide +kernel
theorem dX8_let_97 : decode cX8_let 97 = .ok (.iload_n 1, 1) := by decide +kernel
theorem dX8_let_98 : decode cX8_let 98 = .ok (.iconst 5, 1) := by decide +kernel
theorem dX8_let_99 : decode cX8_let 99 = .ok (.invokestatic 155, 3) := by decide +kernel
theorem dX8_let_102 : decode cX8_let 102 = .ok (.ireturn, 1) := by decide +kernel
theorem dX8_weigh_0 : decode cX8_weigh 0 = .ok (.aload_n 0, 1) := by decide +kernel
theorem dX8_weigh_1 : decode cX8_weigh 1 = .ok (.iconst 0, 1) := by decide +kernel
theorem dX8_weigh_2 : decode cX8_weigh 2 = .ok (.putfield 50, 3) := by decide +kernel
theorem dX8_weigh_5 : decode cX8_weigh 5 = .ok (.aload_n 0, 1) := by decide +kernel
theorem dX8_weigh_6 : decode cX8_weigh 6 = .ok (.iload_n 1, 1) := by decide +kernel
theorem dX8_weigh_7 : decode cX8_weigh 7 = .ok (.invokevirtual 208, 3) := by decide +kernel
theorem dX8_weigh_10 : decode cX8_weigh 10 = .ok (.ifCond .eq 15, 3) := by decide +kernel
theorem dX8_weigh_13 : decode cX8_weigh 13 = .ok (.iload_n 2, 1) := by decide +kernel
theorem dX8_weigh_14 : decode cX8_weigh 14 = .ok (.i2l, 1) := by decide +kernel
theorem dX8_weigh_15 : decode cX8_weigh 15 = .ok (.lconst 1, 1) := by decide +kernel
theorem dX8_weigh_16 : decode cX8_weigh 16 = .ok (.ldc2_w 225, 3) := by decide +kernel
theorem dX8_weigh_19 : decode cX8_weigh 19 = .ok (.invokestatic 60, 3) := by decide +kernel
theorem dX8_weigh_22 : decode cX8_weigh 22 = .ok (.ifCond .ne 6, 3) := by decide +kernel
theorem dX8_weigh_25 : decode cX8_weigh 25 = .ok (.ldc 70, 2) := by decide +kernel
theorem dX8_weigh_27 : decode cX8_weigh 27 = .ok (.ireturn, 1) := by decide +kernel
theorem dX8_weigh_28 : decode cX8_weigh 28 = .ok (.aload_n 0, 1) := by decide +kernel
theorem dX8_weigh_29 : decode cX8_weigh 29 = .ok (.invokevirtual 201, 3) := by decide +kernel
theorem dX8_weigh_32 : decode cX8_weigh 32 = .ok (.aload_n 0, 1) := by decide +kernel
theorem dX8_weigh_33 : decode cX8_weigh 33 = .ok (.getfield 19, 3) := by decide +kernel
theorem dX8_weigh_36 : decode cX8_weigh 36 = .ok (.iload_n 1, 1) := by decide +kernel
theorem dX8_weigh_37 : decode cX8_weigh 37 = .ok (.iconst 2, 1) := by decide +kernel
theorem dX8_weigh_38 : decode cX8_weigh 38 = .ok (.invokestatic 155, 3) := by decide +kernel
theorem dX8_weigh_41 : decode cX8_weigh 41 = .ok (.istore_n 3, 1) := by decide +kernel
theorem dX8_weigh_42 : decode cX8_weigh 42 = .ok (.aload_n 0, 1) := by decide +kernel
theorem dX8_weigh_43 : decode cX8_weigh 43 = .ok (.getfield 19, 3) := by decide +kernel
theorem dX8_weigh_46 : decode cX8_weigh 46 = .ok (.iload_n 1, 1) := by decide +kernel
theorem dX8_weigh_47 : decode cX8_weigh 47 = .ok (.iconst 2, 1) := by decide +kernel
theorem dX8_weigh_48 : decode cX8_weigh 48 = .ok (.iload_n 2, 1) := by decide +kernel
theorem dX8_weigh_49 : decode cX8_weigh 49 = .ok (.invokestatic 170, 3) := by decide +kernel
theorem dX8_weigh_52 : decode cX8_weigh 52 = .ok (.iload_n 3, 1) := by decide +kernel
theorem dX8_weigh_53 : decode cX8_weigh 53 = .ok (.ireturn, 1) := by decide +kernel
theorem dX8_blow_0 : decode cX8_blow 0 = .ok (.aload_n 0, 1) := by decide +kernel
theorem dX8_blow_1 : decode cX8_blow 1 = .ok (.iconst 0, 1) := by decide +kernel
theorem dX8_blow_2 : decode cX8_blow 2 = .ok (.putfield 50, 3) := by decide +kernel
theorem dX8_blow_5 : decode cX8_blow 5 = .ok (.iload_n 1, 1) := by decide +kernel
theorem dX8_blow_6 : decode cX8_blow 6 = .ok (.i2l, 1) := by decide +kernel
theorem dX8_blow_7 : decode cX8_blow 7 = .ok (.lconst 0, 1) := by decide +kernel
theorem dX8_blow_8 : decode cX8_blow 8 = .ok (.aload_n 0, 1) := by decide +kernel
theorem dX8_blow_9 : decode cX8_blow 9 = .ok (.getfield 19, 3) := by decide +kernel
theorem dX8_blow_12 : decode cX8_blow 12 = .ok (.iconst 1, 1) := by decide +kernel
theorem dX8_blow_13 : decode cX8_blow 13 = .ok (.iaload, 1) := by decide +kernel
theorem dX8_blow_14 : decode cX8_blow 14 = .ok (.iconst 1, 1) := by decide +kernel
theorem dX8_blow_15 : decode cX8_blow 15 = .ok (.isub, 1) := by decide +kernel
theorem dX8_blow_16 : decode cX8_blow 16 = .ok (.i2l, 1) := by decide +kernel
theorem dX8_blow_17 : decode cX8_blow 17 = .ok (.invokestatic 60, 3) := by decide +kernel
theorem dX8_blow_20 : decode cX8_blow 20 = .ok (.ifCond .eq 15, 3) := by decide +kernel
theorem dX8_blow_23 : decode cX8_blow 23 = .ok (.iload_n 2, 1) := by decide +kernel
theorem dX8_blow_24 : decode cX8_blow 24 = .ok (.i2l, 1) := by decide +kernel
theorem dX8_blow_25 : decode cX8_blow 25 = .ok (.lconst 0, 1) := by decide +kernel
theorem dX8_blow_26 : decode cX8_blow 26 = .ok (.ldc2_w 227, 3) := by decide +kernel
theorem dX8_blow_29 : decode cX8_blow 29 = .ok (.invokestatic 60, 3) := by decide +kernel
theorem dX8_blow_32 : decode cX8_blow 32 = .ok (.ifCond .ne 6, 3) := by decide +kernel
theorem dX8_blow_35 : decode cX8_blow 35 = .ok (.ldc 70, 2) := by decide +kernel
theorem dX8_blow_37 : decode cX8_blow 37 = .ok (.ireturn, 1) := by decide +kernel
theorem dX8_blow_38 : decode cX8_blow 38 = .ok (.aload_n 0, 1) := by decide +kernel
theorem dX8_blow_39 : decode cX8_blow 39 = .ok (.invokevirtual 201, 3) := by decide +kernel
theorem dX8_blow_42 : decode cX8_blow 42 = .ok (.aload_n 0, 1) := by decide +kernel
theorem dX8_blow_43 : decode cX8_blow 43 = .ok (.getfield 19, 3) := by decide +kernel
theorem dX8_blow_46 : decode cX8_blow 46 = .ok (.iconst 5, 1) := by decide +kernel
theorem dX8_blow_47 : decode cX8_blow 47 = .ok (.iload_n 1, 1) := by decide +kernel
theorem dX8_blow_48 : decode cX8_blow 48 = .ok (.iadd, 1) := by decide +kernel
theorem dX8_blow_49 : decode cX8_blow 49 = .ok (.iaload, 1) := by decide +kernel
theorem dX8_blow_50 : decode cX8_blow 50 = .ok (.istore_n 3, 1) := by decide +kernel
theorem dX8_blow_51 : decode cX8_blow 51 = .ok (.aload_n 0, 1) := by decide +kernel
theorem dX8_blow_52 : decode cX8_blow 52 = .ok (.getfield 19, 3) := by decide +kernel
theorem dX8_blow_55 : decode cX8_blow 55 = .ok (.iconst 5, 1) := by decide +kernel
theorem dX8_blow_56 : decode cX8_blow 56 = .ok (.iload_n 1, 1) := by decide +kernel
theorem dX8_blow_57 : decode cX8_blow 57 = .ok (.iadd, 1) := by decide +kernel
theorem dX8_blow_58 : decode cX8_blow 58 = .ok (.iload_n 2, 1) := by decide +kernel
theorem dX8_blow_59 : decode cX8_blow 59 = .ok (.iastore, 1) := by decide +kernel
theorem dX8_blow_60 : decode cX8_blow 60 = .ok (.iload_n 3, 1) := by decide +kernel
theorem dX8_blow_61 : decode cX8_blow 61 = .ok (.ireturn, 1) := by decide +kernel
theorem dX8_undo_0 : decode cX8_undo 0 = .ok (.aload_n 0, 1) := by decide +kernel
theorem dX8_undo_1 : decode cX8_undo 1 = .ok (.iconst 0, 1) := by decide +kernel
theorem dX8_undo_2 : decode cX8_undo 2 = .ok (.putfield 50, 3) := by decide +kernel
theorem dX8_undo_5 : decode cX8_undo 5 = .ok (.aload_n 0, 1) := by decide +kernel
theorem dX8_undo_6 : decode cX8_undo 6 = .ok (.getfield 152, 3) := by decide +kernel
theorem dX8_undo_9 : decode cX8_undo 9 = .ok (.ifCond .ne 6, 3) := by decide +kernel
theorem dX8_undo_12 : decode cX8_undo 12 = .ok (.ldc 198, 2) := by decide +kernel
theorem dX8_undo_14 : decode cX8_undo 14 = .ok (.ireturn, 1) := by decide +kernel
theorem dX8_undo_15 : decode cX8_undo 15 = .ok (.aload_n 0, 1) := by decide +kernel
theorem dX8_undo_16 : decode cX8_undo 16 = .ok (.dup, 1) := by decide +kernel
theorem dX8_undo_17 : decode cX8_undo 17 = .ok (.getfield 152, 3) := by decide +kernel
theorem dX8_undo_20 : decode cX8_undo 20 = .ok (.iconst 1, 1) := by decide +kernel
theorem dX8_undo_21 : decode cX8_undo 21 = .ok (.isub, 1) := by decide +kernel
theorem dX8_undo_22 : decode cX8_undo 22 = .ok (.putfield 152, 3) := by decide +kernel
theorem dX8_undo_25 : decode cX8_undo 25 = .ok (.iconst 0, 1) := by decide +kernel
theorem dX8_undo_26 : decode cX8_undo 26 = .ok (.istore_n 1, 1) := by decide +kernel
theorem dX8_undo_27 : decode cX8_undo 27 = .ok (.iload_n 1, 1) := by decide +kernel
theorem dX8_undo_28 : decode cX8_undo 28 = .ok (.bipush 53, 2) := by decide +kernel
theorem dX8_undo_30 : decode cX8_undo 30 = .ok (.if_icmp .ge 29, 3) := by decide +kernel
theorem dX8_undo_33 : decode cX8_undo 33 = .ok (.aload_n 0, 1) := by decide +kernel
theorem dX8_undo_34 : decode cX8_undo 34 = .ok (.getfield 19, 3) := by decide +kernel
theorem dX8_undo_37 : decode cX8_undo 37 = .ok (.iload_n 1, 1) := by decide +kernel
theorem dX8_undo_38 : decode cX8_undo 38 = .ok (.aload_n 0, 1) := by decide +kernel
theorem dX8_undo_39 : decode cX8_undo 39 = .ok (.getfield 31, 3) := by decide +kernel
theorem dX8_undo_42 : decode cX8_undo 42 = .ok (.bipush 53, 2) := by decide +kernel
theorem dX8_undo_44 : decode cX8_undo 44 = .ok (.aload_n 0, 1) := by decide +kernel
theorem dX8_undo_45 : decode cX8_undo 45 = .ok (.getfield 152, 3) := by decide +kernel
theorem dX8_undo_48 : decode cX8_undo 48 = .ok (.imul, 1) := by decide +kernel
theorem dX8_undo_49 : decode cX8_undo 49 = .ok (.iload_n 1, 1) := by decide +kernel
theorem dX8_undo_50 : decode cX8_undo 50 = .ok (.iadd, 1) := by decide +kernel
theorem dX8_undo_51 : decode cX8_undo 51 = .ok (.iaload, 1) := by decide +kernel
theorem dX8_undo_52 : decode cX8_undo 52 = .ok (.iastore, 1) := by decide +kernel
theorem dX8_undo_53 : decode cX8_undo 53 = .ok (.iinc 1 1, 3) := by decide +kernel
theorem dX8_undo_56 : decode cX8_undo 56 = .ok (.goto (-29), 3) := by decide +kernel
theorem dX8_undo_59 : decode cX8_undo 59 = .ok (.aload_n 0, 1) := by decide +kernel
theorem dX8_undo_60 : decode cX8_undo 60 = .ok (.getfield 152, 3) := by decide +kernel
theorem dX8_undo_63 : decode cX8_undo 63 = .ok (.ireturn, 1) := by decide +kernel
theorem dX8_cellOf_0 : decode cX8_cellOf 0 = .ok (.aload_n 0, 1) := by decide +kernel
theorem dX8_cellOf_1 : decode cX8_cellOf 1 = .ok (.iload_n 1, 1) := by decide +kernel
theorem dX8_cellOf_2 : decode cX8_cellOf 2 = .ok (.iconst 3, 1) := by decide +kernel
theorem dX8_cellOf_3 : decode cX8_cellOf 3 = .ok (.invokestatic 155, 3) := by decide +kernel
theorem dX8_cellOf_6 : decode cX8_cellOf 6 = .ok (.iconst 2, 1) := by decide +kernel
theorem dX8_cellOf_7 : decode cX8_cellOf 7 = .ok (.if_icmp .ne 13, 3) := by decide +kernel
theorem dX8_cellOf_10 : decode cX8_cellOf 10 = .ok (.aload_n 0, 1) := by decide +kernel
theorem dX8_cellOf_11 : decode cX8_cellOf 11 = .ok (.iload_n 1, 1) := by decide +kernel
theorem dX8_cellOf_12 : decode cX8_cellOf 12 = .ok (.bipush 6, 2) := by decide +kernel
theorem dX8_cellOf_14 : decode cX8_cellOf 14 = .ok (.invokestatic 155, 3) := by decide +kernel
theorem dX8_cellOf_17 : decode cX8_cellOf 17 = .ok (.goto 5, 3) := by decide +kernel
theorem dX8_cellOf_20 : decode cX8_cellOf 20 = .ok (.ldc 93, 2) := by decide +kernel
theorem dX8_cellOf_22 : decode cX8_cellOf 22 = .ok (.ireturn, 1) := by decide +kernel
theorem dX8_paper_0 : decode cX8_paper 0 = .ok (.aload_n 0, 1) := by decide +kernel
theorem dX8_paper_1 : decode cX8_paper 1 = .ok (.iconst 0, 1) := by decide +kernel
theorem dX8_paper_2 : decode cX8_paper 2 = .ok (.putfield 50, 3) := by decide +kernel
theorem dX8_paper_5 : decode cX8_paper 5 = .ok (.aload_n 0, 1) := by decide +kernel
theorem dX8_paper_6 : decode cX8_paper 6 = .ok (.iload_n 1, 1) := by decide +kernel
theorem dX8_paper_7 : decode cX8_paper 7 = .ok (.invokevirtual 208, 3) := by decide +kernel
theorem dX8_paper_10 : decode cX8_paper 10 = .ok (.ifCond .ne 6, 3) := by decide +kernel
theorem dX8_paper_13 : decode cX8_paper 13 = .ok (.ldc 70, 2) := by decide +kernel
theorem dX8_paper_15 : decode cX8_paper 15 = .ok (.ireturn, 1) := by decide +kernel
theorem dX8_paper_16 : decode cX8_paper 16 = .ok (.iload_n 2, 1) := by decide +kernel
theorem dX8_paper_17 : decode cX8_paper 17 = .ok (.tableswitch 119 0 6 #[43, 53, 63, 73, 83, 93, 102], 43) := by decide +kernel
theorem dX8_paper_60 : decode cX8_paper 60 = .ok (.aload_n 0, 1) := by decide +kernel
theorem dX8_paper_61 : decode cX8_paper 61 = .ok (.getfield 19, 3) := by decide +kernel
theorem dX8_paper_64 : decode cX8_paper 64 = .ok (.iload_n 1, 1) := by decide +kernel
theorem dX8_paper_65 : decode cX8_paper 65 = .ok (.iconst 1, 1) := by decide +kernel
theorem dX8_paper_66 : decode cX8_paper 66 = .ok (.invokestatic 155, 3) := by decide +kernel
theorem dX8_paper_69 : decode cX8_paper 69 = .ok (.ireturn, 1) := by decide +kernel
theorem dX8_paper_70 : decode cX8_paper 70 = .ok (.aload_n 0, 1) := by decide +kernel
theorem dX8_paper_71 : decode cX8_paper 71 = .ok (.getfield 19, 3) := by decide +kernel
theorem dX8_paper_74 : decode cX8_paper 74 = .ok (.iload_n 1, 1) := by decide +kernel
theorem dX8_paper_75 : decode cX8_paper 75 = .ok (.iconst 2, 1) := by decide +kernel
theorem dX8_paper_76 : decode cX8_paper 76 = .ok (.invokestatic 155, 3) := by decide +kernel
theorem dX8_paper_79 : decode cX8_paper 79 = .ok (.ireturn, 1) := by decide +kernel
theorem dX8_paper_80 : decode cX8_paper 80 = .ok (.aload_n 0, 1) := by decide +kernel
theorem dX8_paper_81 : decode cX8_paper 81 = .ok (.getfield 19, 3) := by decide +kernel
theorem dX8_paper_84 : decode cX8_paper 84 = .ok (.iload_n 1, 1) := by decide +kernel
theorem dX8_paper_85 : decode cX8_paper 85 = .ok (.iconst 3, 1) := by decide +kernel
theorem dX8_paper_86 : decode cX8_paper 86 = .ok (.invokestatic 155, 3) := by decide +kernel
theorem dX8_paper_89 : decode cX8_paper 89 = .ok (.ireturn, 1) := by decide +kernel
theorem dX8_paper_90 : decode cX8_paper 90 = .ok (.aload_n 0, 1) := by decide +kernel
theorem dX8_paper_91 : decode cX8_paper 91 = .ok (.getfield 19, 3) := by decide +kernel
theorem dX8_paper_94 : decode cX8_paper 94 = .ok (.iload_n 1, 1) := by decide +kernel
theorem dX8_paper_95 : decode cX8_paper 95 = .ok (.iconst 4, 1) := by decide +kernel
theorem dX8_paper_96 : decode cX8_paper 96 = .ok (.invokestatic 155, 3) := by decide +kernel
theorem dX8_paper_99 : decode cX8_paper 99 = .ok (.ireturn, 1) := by decide +kernel
theorem dX8_paper_100 : decode cX8_paper 100 = .ok (.aload_n 0, 1) := by decide +kernel
theorem dX8_paper_101 : decode cX8_paper 101 = .ok (.getfield 19, 3) := by decide +kernel
theorem dX8_paper_104 : decode cX8_paper 104 = .ok (.iload_n 1, 1) := by decide +kernel
theorem dX8_paper_105 : decode cX8_paper 105 = .ok (.iconst 5, 1) := by decide +kernel
theorem dX8_paper_106 : decode cX8_paper 106 = .ok (.invokestatic 155, 3) := by decide +kernel
theorem dX8_paper_109 : decode cX8_paper 109 = .ok (.ireturn, 1) := by decide +kernel
theorem dX8_paper_110 : decode cX8_paper 110 = .ok (.aload_n 0, 1) := by decide +kernel
theorem dX8_paper_111 : decode cX8_paper 111 = .ok (.getfield 19, 3) := by decide +kernel
theorem dX8_paper_114 : decode cX8_paper 114 = .ok (.iload_n 1, 1) := by decide +kernel
theorem dX8_paper_115 : decode cX8_paper 115 = .ok (.invokestatic 229, 3) := by decide +kernel
theorem dX8_paper_118 : decode cX8_paper 118 = .ok (.ireturn, 1) := by decide +kernel
theorem dX8_paper_119 : decode cX8_paper 119 = .ok (.aload_n 0, 1) := by decide +kernel
theorem dX8_paper_120 : decode cX8_paper 120 = .ok (.getfield 19, 3) := by decide +kernel
theorem dX8_paper_123 : decode cX8_paper 123 = .ok (.iload_n 1, 1) := by decide +kernel
theorem dX8_paper_124 : decode cX8_paper 124 = .ok (.invokestatic 192, 3) := by decide +kernel
theorem dX8_paper_127 : decode cX8_paper 127 = .ok (.ifCond .eq 7, 3) := by decide +kernel
theorem dX8_paper_130 : decode cX8_paper 130 = .ok (.iconst 1, 1) := by decide +kernel
theorem dX8_paper_131 : decode cX8_paper 131 = .ok (.goto 4, 3) := by decide +kernel
theorem dX8_paper_134 : decode cX8_paper 134 = .ok (.iconst 0, 1) := by decide +kernel
theorem dX8_paper_135 : decode cX8_paper 135 = .ok (.ireturn, 1) := by decide +kernel
theorem dX8_paper_136 : decode cX8_paper 136 = .ok (.ldc 70, 2) := by decide +kernel
theorem dX8_paper_138 : decode cX8_paper 138 = .ok (.ireturn, 1) := by decide +kernel
theorem dX8_force_0 : decode cX8_force 0 = .ok (.aload_n 0, 1) := by decide +kernel
theorem dX8_force_1 : decode cX8_force 1 = .ok (.iconst 0, 1) := by decide +kernel
theorem dX8_force_2 : decode cX8_force 2 = .ok (.putfield 50, 3) := by decide +kernel
theorem dX8_force_5 : decode cX8_force 5 = .ok (.aload_n 0, 1) := by decide +kernel
theorem dX8_force_6 : decode cX8_force 6 = .ok (.invokevirtual 195, 3) := by decide +kernel
theorem dX8_force_9 : decode cX8_force 9 = .ok (.ifCond .ne 6, 3) := by decide +kernel
theorem dX8_force_12 : decode cX8_force 12 = .ok (.ldc 198, 2) := by decide +kernel
theorem dX8_force_14 : decode cX8_force 14 = .ok (.ireturn, 1) := by decide +kernel
theorem dX8_force_15 : decode cX8_force 15 = .ok (.iload_n 1, 1) := by decide +kernel
theorem dX8_force_16 : decode cX8_force 16 = .ok (.i2l, 1) := by decide +kernel
theorem dX8_force_17 : decode cX8_force 17 = .ok (.lconst 0, 1) := by decide +kernel
theorem dX8_force_18 : decode cX8_force 18 = .ok (.ldc2_w 225, 3) := by decide +kernel
theorem dX8_force_21 : decode cX8_force 21 = .ok (.invokestatic 60, 3) := by decide +kernel
theorem dX8_force_24 : decode cX8_force 24 = .ok (.ifCond .eq 21, 3) := by decide +kernel
theorem dX8_force_27 : decode cX8_force 27 = .ok (.aload_n 0, 1) := by decide +kernel
theorem dX8_force_28 : decode cX8_force 28 = .ok (.getfield 19, 3) := by decide +kernel
theorem dX8_force_31 : decode cX8_force 31 = .ok (.aload_n 0, 1) := by decide +kernel
theorem dX8_force_32 : decode cX8_force 32 = .ok (.getfield 19, 3) := by decide +kernel
theorem dX8_force_35 : decode cX8_force 35 = .ok (.iconst 4, 1) := by decide +kernel
theorem dX8_force_36 : decode cX8_force 36 = .ok (.iaload, 1) := by decide +kernel
theorem dX8_force_37 : decode cX8_force 37 = .ok (.iload_n 1, 1) := by decide +kernel
theorem dX8_force_38 : decode cX8_force 38 = .ok (.iadd, 1) := by decide +kernel
theorem dX8_force_39 : decode cX8_force 39 = .ok (.invokestatic 180, 3) := by decide +kernel
theorem dX8_force_42 : decode cX8_force 42 = .ok (.goto 5, 3) := by decide +kernel
theorem dX8_force_45 : decode cX8_force 45 = .ok (.ldc 70, 2) := by decide +kernel
theorem dX8_force_47 : decode cX8_force 47 = .ok (.ireturn, 1) := by decide +kernel
theorem dX8_stand_0 : decode cX8_stand 0 = .ok (.aload_n 0, 1) := by decide +kernel
theorem dX8_stand_1 : decode cX8_stand 1 = .ok (.iconst 0, 1) := by decide +kernel
theorem dX8_stand_2 : decode cX8_stand 2 = .ok (.putfield 50, 3) := by decide +kernel
theorem dX8_stand_5 : decode cX8_stand 5 = .ok (.aload_n 0, 1) := by decide +kernel
theorem dX8_stand_6 : decode cX8_stand 6 = .ok (.invokevirtual 195, 3) := by decide +kernel
theorem dX8_stand_9 : decode cX8_stand 9 = .ok (.ifCond .ne 6, 3) := by decide +kernel
theorem dX8_stand_12 : decode cX8_stand 12 = .ok (.ldc 198, 2) := by decide +kernel
theorem dX8_stand_14 : decode cX8_stand 14 = .ok (.ireturn, 1) := by decide +kernel
theorem dX8_stand_15 : decode cX8_stand 15 = .ok (.iload_n 1, 1) := by decide +kernel
theorem dX8_stand_16 : decode cX8_stand 16 = .ok (.tableswitch 76 0 4 #[36, 45, 53, 62, 69], 36) := by decide +kernel
theorem dX8_stand_52 : decode cX8_stand 52 = .ok (.aload_n 0, 1) := by decide +kernel
theorem dX8_stand_53 : decode cX8_stand 53 = .ok (.getfield 19, 3) := by decide +kernel
theorem dX8_stand_56 : decode cX8_stand 56 = .ok (.iconst 1, 1) := by decide +kernel
theorem dX8_stand_57 : decode cX8_stand 57 = .ok (.invokestatic 217, 3) := by decide +kernel
theorem dX8_stand_60 : decode cX8_stand 60 = .ok (.ireturn, 1) := by decide +kernel
theorem dX8_stand_61 : decode cX8_stand 61 = .ok (.aload_n 0, 1) := by decide +kernel
theorem dX8_stand_62 : decode cX8_stand 62 = .ok (.getfield 19, 3) := by decide +kernel
theorem dX8_stand_65 : decode cX8_stand 65 = .ok (.invokestatic 204, 3) := by decide +kernel
theorem dX8_stand_68 : decode cX8_stand 68 = .ok (.ireturn, 1) := by decide +kernel
theorem dX8_stand_69 : decode cX8_stand 69 = .ok (.aload_n 0, 1) := by decide +kernel
theorem dX8_stand_70 : decode cX8_stand 70 = .ok (.getfield 19, 3) := by decide +kernel
theorem dX8_stand_73 : decode cX8_stand 73 = .ok (.iconst 2, 1) := by decide +kernel
theorem dX8_stand_74 : decode cX8_stand 74 = .ok (.invokestatic 217, 3) := by decide +kernel
theorem dX8_stand_77 : decode cX8_stand 77 = .ok (.ireturn, 1) := by decide +kernel
theorem dX8_stand_78 : decode cX8_stand 78 = .ok (.aload_n 0, 1) := by decide +kernel
theorem dX8_stand_79 : decode cX8_stand 79 = .ok (.getfield 19, 3) := by decide +kernel
theorem dX8_stand_82 : decode cX8_stand 82 = .ok (.iconst 2, 1) := by decide +kernel
theorem dX8_stand_83 : decode cX8_stand 83 = .ok (.iaload, 1) := by decide +kernel
theorem dX8_stand_84 : decode cX8_stand 84 = .ok (.ireturn, 1) := by decide +kernel
theorem dX8_stand_85 : decode cX8_stand 85 = .ok (.aload_n 0, 1) := by decide +kernel
theorem dX8_stand_86 : decode cX8_stand 86 = .ok (.getfield 19, 3) := by decide +kernel
theorem dX8_stand_89 : decode cX8_stand 89 = .ok (.iconst 3, 1) := by decide +kernel
theorem dX8_stand_90 : decode cX8_stand 90 = .ok (.iaload, 1) := by decide +kernel
theorem dX8_stand_91 : decode cX8_stand 91 = .ok (.ireturn, 1) := by decide +kernel
theorem dX8_stand_92 : decode cX8_stand 92 = .ok (.ldc 70, 2) := by decide +kernel
theorem dX8_stand_94 : decode cX8_stand 94 = .ok (.ireturn, 1) := by decide +kernel
theorem dX8_ahead_0 : decode cX8_ahead 0 = .ok (.aload_n 0, 1) := by decide +kernel
theorem dX8_ahead_1 : decode cX8_ahead 1 = .ok (.iconst 0, 1) := by decide +kernel
theorem dX8_ahead_2 : decode cX8_ahead 2 = .ok (.putfield 50, 3) := by decide +kernel
theorem dX8_ahead_5 : decode cX8_ahead 5 = .ok (.aload_n 0, 1) := by decide +kernel
theorem dX8_ahead_6 : decode cX8_ahead 6 = .ok (.iload_n 1, 1) := by decide +kernel
theorem dX8_ahead_7 : decode cX8_ahead 7 = .ok (.invokevirtual 208, 3) := by decide +kernel
theorem dX8_ahead_10 : decode cX8_ahead 10 = .ok (.ifCond .eq 27, 3) := by decide +kernel
theorem dX8_ahead_13 : decode cX8_ahead 13 = .ok (.iload_n 2, 1) := by decide +kernel
theorem dX8_ahead_14 : decode cX8_ahead 14 = .ok (.i2l, 1) := by decide +kernel
theorem dX8_ahead_15 : decode cX8_ahead 15 = .ok (.lconst 0, 1) := by decide +kernel
theorem dX8_ahead_16 : decode cX8_ahead 16 = .ok (.ldc2_w 225, 3) := by decide +kernel
theorem dX8_ahead_19 : decode cX8_ahead 19 = .ok (.invokestatic 60, 3) := by decide +kernel
theorem dX8_ahead_22 : decode cX8_ahead 22 = .ok (.ifCond .eq 15, 3) := by decide +kernel
theorem dX8_ahead_25 : decode cX8_ahead 25 = .ok (.iload_n 3, 1) := by decide +kernel
theorem dX8_ahead_26 : decode cX8_ahead 26 = .ok (.i2l, 1) := by decide +kernel
theorem dX8_ahead_27 : decode cX8_ahead 27 = .ok (.lconst 0, 1) := by decide +kernel
theorem dX8_ahead_28 : decode cX8_ahead 28 = .ok (.ldc2_w 68, 3) := by decide +kernel
theorem dX8_ahead_31 : decode cX8_ahead 31 = .ok (.invokestatic 60, 3) := by decide +kernel
theorem dX8_ahead_34 : decode cX8_ahead 34 = .ok (.ifCond .ne 6, 3) := by decide +kernel
theorem dX8_ahead_37 : decode cX8_ahead 37 = .ok (.ldc 70, 2) := by decide +kernel
theorem dX8_ahead_39 : decode cX8_ahead 39 = .ok (.ireturn, 1) := by decide +kernel
theorem dX8_ahead_40 : decode cX8_ahead 40 = .ok (.aload_n 0, 1) := by decide +kernel
theorem dX8_ahead_41 : decode cX8_ahead 41 = .ok (.invokevirtual 232, 3) := by decide +kernel
theorem dX8_ahead_44 : decode cX8_ahead 44 = .ok (.aload_n 0, 1) := by decide +kernel
theorem dX8_ahead_45 : decode cX8_ahead 45 = .ok (.aload_n 0, 1) := by decide +kernel
theorem dX8_ahead_46 : decode cX8_ahead 46 = .ok (.getfield 25, 3) := by decide +kernel
theorem dX8_ahead_49 : decode cX8_ahead 49 = .ok (.iload_n 2, 1) := by decide +kernel
theorem dX8_ahead_50 : decode cX8_ahead 50 = .ok (.invokevirtual 235, 3) := by decide +kernel
theorem dX8_ahead_53 : decode cX8_ahead 53 = .ok (.iload_n 3, 1) := by decide +kernel
theorem dX8_ahead_54 : decode cX8_ahead 54 = .ok (.ifCond .ne 15, 3) := by decide +kernel
theorem dX8_ahead_57 : decode cX8_ahead 57 = .ok (.aload_n 0, 1) := by decide +kernel
theorem dX8_ahead_58 : decode cX8_ahead 58 = .ok (.getfield 25, 3) := by decide +kernel
theorem dX8_ahead_61 : decode cX8_ahead 61 = .ok (.iload_n 1, 1) := by decide +kernel
theorem dX8_ahead_62 : decode cX8_ahead 62 = .ok (.iconst 4, 1) := by decide +kernel
theorem dX8_ahead_63 : decode cX8_ahead 63 = .ok (.invokestatic 155, 3) := by decide +kernel
theorem dX8_ahead_66 : decode cX8_ahead 66 = .ok (.goto 28, 3) := by decide +kernel
theorem dX8_ahead_69 : decode cX8_ahead 69 = .ok (.iload_n 3, 1) := by decide +kernel
theorem dX8_ahead_70 : decode cX8_ahead 70 = .ok (.iconst 1, 1) := by decide +kernel
theorem dX8_ahead_71 : decode cX8_ahead 71 = .ok (.if_icmp .ne 15, 3) := by decide +kernel
theorem dX8_ahead_74 : decode cX8_ahead 74 = .ok (.aload_n 0, 1) := by decide +kernel
theorem dX8_ahead_75 : decode cX8_ahead 75 = .ok (.getfield 25, 3) := by decide +kernel
theorem dX8_ahead_78 : decode cX8_ahead 78 = .ok (.iload_n 1, 1) := by decide +kernel
theorem dX8_ahead_79 : decode cX8_ahead 79 = .ok (.iconst 5, 1) := by decide +kernel
theorem dX8_ahead_80 : decode cX8_ahead 80 = .ok (.invokestatic 155, 3) := by decide +kernel
theorem dX8_ahead_83 : decode cX8_ahead 83 = .ok (.goto 11, 3) := by decide +kernel
theorem dX8_ahead_86 : decode cX8_ahead 86 = .ok (.aload_n 0, 1) := by decide +kernel
theorem dX8_ahead_87 : decode cX8_ahead 87 = .ok (.getfield 25, 3) := by decide +kernel
theorem dX8_ahead_90 : decode cX8_ahead 90 = .ok (.iload_n 1, 1) := by decide +kernel
theorem dX8_ahead_91 : decode cX8_ahead 91 = .ok (.invokestatic 229, 3) := by decide +kernel
theorem dX8_ahead_94 : decode cX8_ahead 94 = .ok (.ireturn, 1) := by decide +kernel
theorem dX8_when_0 : decode cX8_when 0 = .ok (.aload_n 0, 1) := by decide +kernel
theorem dX8_when_1 : decode cX8_when 1 = .ok (.iconst 0, 1) := by decide +kernel
theorem dX8_when_2 : decode cX8_when 2 = .ok (.putfield 50, 3) := by decide +kernel
theorem dX8_when_5 : decode cX8_when 5 = .ok (.aload_n 0, 1) := by decide +kernel
theorem dX8_when_6 : decode cX8_when 6 = .ok (.iload_n 1, 1) := by decide +kernel
theorem dX8_when_7 : decode cX8_when 7 = .ok (.invokevirtual 208, 3) := by decide +kernel
theorem dX8_when_10 : decode cX8_when 10 = .ok (.ifCond .eq 15, 3) := by decide +kernel
theorem dX8_when_13 : decode cX8_when 13 = .ok (.iload_n 2, 1) := by decide +kernel
theorem dX8_when_14 : decode cX8_when 14 = .ok (.i2l, 1) := by decide +kernel
theorem dX8_when_15 : decode cX8_when 15 = .ok (.lconst 1, 1) := by decide +kernel
theorem dX8_when_16 : decode cX8_when 16 = .ok (.ldc2_w 68, 3) := by decide +kernel
theorem dX8_when_19 : decode cX8_when 19 = .ok (.invokestatic 60, 3) := by decide +kernel
theorem dX8_when_22 : decode cX8_when 22 = .ok (.ifCond .ne 6, 3) := by decide +kernel
theorem dX8_when_25 : decode cX8_when 25 = .ok (.ldc 70, 2) := by decide +kernel
theorem dX8_when_27 : decode cX8_when 27 = .ok (.ireturn, 1) := by decide +kernel
theorem dX8_when_28 : decode cX8_when 28 = .ok (.aload_n 0, 1) := by decide +kernel
theorem dX8_when_29 : decode cX8_when 29 = .ok (.invokevirtual 232, 3) := by decide +kernel
theorem dX8_when_32 : decode cX8_when 32 = .ok (.iconst 0, 1) := by decide +kernel
theorem dX8_when_33 : decode cX8_when 33 = .ok (.istore_n 3, 1) := by decide +kernel
theorem dX8_when_34 : decode cX8_when 34 = .ok (.iload_n 3, 1) := by decide +kernel
theorem dX8_when_35 : decode cX8_when 35 = .ok (.bipush 60, 2) := by decide +kernel
theorem dX8_when_37 : decode cX8_when 37 = .ok (.if_icmp .gt 51, 3) := by decide +kernel
theorem dX8_when_40 : decode cX8_when 40 = .ok (.iload_n 2, 1) := by decide +kernel
theorem dX8_when_41 : decode cX8_when 41 = .ok (.iconst 1, 1) := by decide +kernel
theorem dX8_when_42 : decode cX8_when 42 = .ok (.if_icmp .ne 17, 3) := by decide +kernel
theorem dX8_when_45 : decode cX8_when 45 = .ok (.aload_n 0, 1) := by decide +kernel
theorem dX8_when_46 : decode cX8_when 46 = .ok (.getfield 25, 3) := by decide +kernel
theorem dX8_when_49 : decode cX8_when 49 = .ok (.iload_n 1, 1) := by decide +kernel
theorem dX8_when_50 : decode cX8_when 50 = .ok (.invokestatic 192, 3) := by decide +kernel
theorem dX8_when_53 : decode cX8_when 53 = .ok (.ifCond .eq 21, 3) := by decide +kernel
theorem dX8_when_56 : decode cX8_when 56 = .ok (.goto 16, 3) := by decide +kernel
theorem dX8_when_59 : decode cX8_when 59 = .ok (.aload_n 0, 1) := by decide +kernel
theorem dX8_when_60 : decode cX8_when 60 = .ok (.getfield 25, 3) := by decide +kernel
theorem dX8_when_63 : decode cX8_when 63 = .ok (.iload_n 1, 1) := by decide +kernel
theorem dX8_when_64 : decode cX8_when 64 = .ok (.iconst 3, 1) := by decide +kernel
theorem dX8_when_65 : decode cX8_when 65 = .ok (.invokestatic 155, 3) := by decide +kernel
theorem dX8_when_68 : decode cX8_when 68 = .ok (.iconst 2, 1) := by decide +kernel
theorem dX8_when_69 : decode cX8_when 69 = .ok (.if_icmp .ne 5, 3) := by decide +kernel
theorem dX8_when_72 : decode cX8_when 72 = .ok (.iload_n 3, 1) := by decide +kernel
theorem dX8_when_73 : decode cX8_when 73 = .ok (.ireturn, 1) := by decide +kernel
theorem dX8_when_74 : decode cX8_when 74 = .ok (.aload_n 0, 1) := by decide +kernel
theorem dX8_when_75 : decode cX8_when 75 = .ok (.aload_n 0, 1) := by decide +kernel
theorem dX8_when_76 : decode cX8_when 76 = .ok (.getfield 25, 3) := by decide +kernel
theorem dX8_when_79 : decode cX8_when 79 = .ok (.invokevirtual 188, 3) := by decide +kernel
theorem dX8_when_82 : decode cX8_when 82 = .ok (.iinc 3 1, 3) := by decide +kernel
theorem dX8_when_85 : decode cX8_when 85 = .ok (.goto (-51), 3) := by decide +kernel
theorem dX8_when_88 : decode cX8_when 88 = .ok (.ldc 93, 2) := by decide +kernel
theorem dX8_when_90 : decode cX8_when 90 = .ok (.ireturn, 1) := by decide +kernel
theorem dX8_policy_0 : decode cX8_policy 0 = .ok (.aload_n 0, 1) := by decide +kernel
theorem dX8_policy_1 : decode cX8_policy 1 = .ok (.iconst 0, 1) := by decide +kernel
theorem dX8_policy_2 : decode cX8_policy 2 = .ok (.putfield 50, 3) := by decide +kernel
theorem dX8_policy_5 : decode cX8_policy 5 = .ok (.aload_n 0, 1) := by decide +kernel
theorem dX8_policy_6 : decode cX8_policy 6 = .ok (.invokevirtual 195, 3) := by decide +kernel
theorem dX8_policy_9 : decode cX8_policy 9 = .ok (.ifCond .ne 6, 3) := by decide +kernel
theorem dX8_policy_12 : decode cX8_policy 12 = .ok (.ldc 198, 2) := by decide +kernel
theorem dX8_policy_14 : decode cX8_policy 14 = .ok (.ireturn, 1) := by decide +kernel
theorem dX8_policy_15 : decode cX8_policy 15 = .ok (.iload_n 1, 1) := by decide +kernel
theorem dX8_policy_16 : decode cX8_policy 16 = .ok (.i2l, 1) := by decide +kernel
theorem dX8_policy_17 : decode cX8_policy 17 = .ok (.lconst 0, 1) := by decide +kernel
theorem dX8_policy_18 : decode cX8_policy 18 = .ok (.ldc2_w 225, 3) := by decide +kernel
theorem dX8_policy_21 : decode cX8_policy 21 = .ok (.invokestatic 60, 3) := by decide +kernel
theorem dX8_policy_24 : decode cX8_policy 24 = .ok (.ifCond .ne 6, 3) := by decide +kernel
theorem dX8_policy_27 : decode cX8_policy 27 = .ok (.ldc 70, 2) := by decide +kernel
theorem dX8_policy_29 : decode cX8_policy 29 = .ok (.ireturn, 1) := by decide +kernel
theorem dX8_policy_30 : decode cX8_policy 30 = .ok (.aload_n 0, 1) := by decide +kernel
theorem dX8_policy_31 : decode cX8_policy 31 = .ok (.invokevirtual 232, 3) := by decide +kernel
theorem dX8_policy_34 : decode cX8_policy 34 = .ok (.aload_n 0, 1) := by decide +kernel
theorem dX8_policy_35 : decode cX8_policy 35 = .ok (.aload_n 0, 1) := by decide +kernel
theorem dX8_policy_36 : decode cX8_policy 36 = .ok (.getfield 25, 3) := by decide +kernel
theorem dX8_policy_39 : decode cX8_policy 39 = .ok (.iload_n 1, 1) := by decide +kernel
theorem dX8_policy_40 : decode cX8_policy 40 = .ok (.invokevirtual 235, 3) := by decide +kernel
theorem dX8_policy_43 : decode cX8_policy 43 = .ok (.aload_n 0, 1) := by decide +kernel
theorem dX8_policy_44 : decode cX8_policy 44 = .ok (.getfield 25, 3) := by decide +kernel
theorem dX8_policy_47 : decode cX8_policy 47 = .ok (.invokestatic 204, 3) := by decide +kernel
theorem dX8_policy_50 : decode cX8_policy 50 = .ok (.ireturn, 1) := by decide +kernel
theorem dX8_pull_0 : decode cX8_pull 0 = .ok (.aload_n 0, 1) := by decide +kernel
theorem dX8_pull_1 : decode cX8_pull 1 = .ok (.iconst 0, 1) := by decide +kernel
theorem dX8_pull_2 : decode cX8_pull 2 = .ok (.putfield 50, 3) := by decide +kernel
theorem dX8_pull_5 : decode cX8_pull 5 = .ok (.aload_n 0, 1) := by decide +kernel
theorem dX8_pull_6 : decode cX8_pull 6 = .ok (.iload_n 1, 1) := by decide +kernel
theorem dX8_pull_7 : decode cX8_pull 7 = .ok (.invokevirtual 208, 3) := by decide +kernel
theorem dX8_pull_10 : decode cX8_pull 10 = .ok (.ifCond .ne 6, 3) := by decide +kernel
theorem dX8_pull_13 : decode cX8_pull 13 = .ok (.ldc 70, 2) := by decide +kernel
theorem dX8_pull_15 : decode cX8_pull 15 = .ok (.ireturn, 1) := by decide +kernel
theorem dX8_pull_16 : decode cX8_pull 16 = .ok (.aload_n 0, 1) := by decide +kernel
theorem dX8_pull_17 : decode cX8_pull 17 = .ok (.getfield 19, 3) := by decide +kernel
theorem dX8_pull_20 : decode cX8_pull 20 = .ok (.iload_n 1, 1) := by decide +kernel
theorem dX8_pull_21 : decode cX8_pull 21 = .ok (.invokestatic 159, 3) := by decide +kernel
theorem dX8_pull_24 : decode cX8_pull 24 = .ok (.ifCond .eq 27, 3) := by decide +kernel
theorem dX8_pull_27 : decode cX8_pull 27 = .ok (.aload_n 0, 1) := by decide +kernel
theorem dX8_pull_28 : decode cX8_pull 28 = .ok (.getfield 19, 3) := by decide +kernel
theorem dX8_pull_31 : decode cX8_pull 31 = .ok (.iload_n 1, 1) := by decide +kernel
theorem dX8_pull_32 : decode cX8_pull 32 = .ok (.aload_n 0, 1) := by decide +kernel
theorem dX8_pull_33 : decode cX8_pull 33 = .ok (.getfield 19, 3) := by decide +kernel
theorem dX8_pull_36 : decode cX8_pull 36 = .ok (.aload_n 0, 1) := by decide +kernel
theorem dX8_pull_37 : decode cX8_pull 37 = .ok (.getfield 19, 3) := by decide +kernel
theorem dX8_pull_40 : decode cX8_pull 40 = .ok (.iconst 4, 1) := by decide +kernel
theorem dX8_pull_41 : decode cX8_pull 41 = .ok (.iaload, 1) := by decide +kernel
theorem dX8_pull_42 : decode cX8_pull 42 = .ok (.invokestatic 180, 3) := by decide +kernel
theorem dX8_pull_45 : decode cX8_pull 45 = .ok (.invokestatic 174, 3) := by decide +kernel
theorem dX8_pull_48 : decode cX8_pull 48 = .ok (.goto 5, 3) := by decide +kernel
theorem dX8_pull_51 : decode cX8_pull 51 = .ok (.ldc 198, 2) := by decide +kernel
theorem dX8_pull_53 : decode cX8_pull 53 = .ok (.ireturn, 1) := by decide +kernel
theorem dX8_sends_0 : decode cX8_sends 0 = .ok (.aload_n 0, 1) := by decide +kernel
theorem dX8_sends_1 : decode cX8_sends 1 = .ok (.iconst 0, 1) := by decide +kernel
theorem dX8_sends_2 : decode cX8_sends 2 = .ok (.putfield 50, 3) := by decide +kernel
theorem dX8_sends_5 : decode cX8_sends 5 = .ok (.aload_n 0, 1) := by decide +kernel
theorem dX8_sends_6 : decode cX8_sends 6 = .ok (.invokevirtual 195, 3) := by decide +kernel
theorem dX8_sends_9 : decode cX8_sends 9 = .ok (.ifCond .ne 6, 3) := by decide +kernel
theorem dX8_sends_12 : decode cX8_sends 12 = .ok (.ldc 198, 2) := by decide +kernel
theorem dX8_sends_14 : decode cX8_sends 14 = .ok (.ireturn, 1) := by decide +kernel
theorem dX8_sends_15 : decode cX8_sends 15 = .ok (.iload_n 1, 1) := by decide +kernel
theorem dX8_sends_16 : decode cX8_sends 16 = .ok (.i2l, 1) := by decide +kernel
theorem dX8_sends_17 : decode cX8_sends 17 = .ok (.lconst 1, 1) := by decide +kernel
theorem dX8_sends_18 : decode cX8_sends 18 = .ok (.ldc2_w 238, 3) := by decide +kernel
theorem dX8_sends_21 : decode cX8_sends 21 = .ok (.invokestatic 60, 3) := by decide +kernel
theorem dX8_sends_24 : decode cX8_sends 24 = .ok (.ifCond .eq 25, 3) := by decide +kernel
theorem dX8_sends_27 : decode cX8_sends 27 = .ok (.iload_n 2, 1) := by decide +kernel
theorem dX8_sends_28 : decode cX8_sends 28 = .ok (.i2l, 1) := by decide +kernel
theorem dX8_sends_29 : decode cX8_sends 29 = .ok (.lconst 1, 1) := by decide +kernel
theorem dX8_sends_30 : decode cX8_sends 30 = .ok (.ldc2_w 211, 3) := by decide +kernel
theorem dX8_sends_33 : decode cX8_sends 33 = .ok (.invokestatic 60, 3) := by decide +kernel
theorem dX8_sends_36 : decode cX8_sends 36 = .ok (.ifCond .eq 13, 3) := by decide +kernel
theorem dX8_sends_39 : decode cX8_sends 39 = .ok (.iload_n 3, 1) := by decide +kernel
theorem dX8_sends_40 : decode cX8_sends 40 = .ok (.i2l, 1) := by decide +kernel
theorem dX8_sends_41 : decode cX8_sends 41 = .ok (.lconst 0, 1) := by decide +kernel
theorem dX8_sends_42 : decode cX8_sends 42 = .ok (.lconst 1, 1) := by decide +kernel
theorem dX8_sends_43 : decode cX8_sends 43 = .ok (.invokestatic 60, 3) := by decide +kernel
theorem dX8_sends_46 : decode cX8_sends 46 = .ok (.ifCond .ne 6, 3) := by decide +kernel
theorem dX8_sends_49 : decode cX8_sends 49 = .ok (.ldc 70, 2) := by decide +kernel
theorem dX8_sends_51 : decode cX8_sends 51 = .ok (.ireturn, 1) := by decide +kernel
theorem dX8_sends_52 : decode cX8_sends 52 = .ok (.iconst 0, 1) := by decide +kernel
theorem dX8_sends_53 : decode cX8_sends 53 = .ok (.istore 4, 2) := by decide +kernel
theorem dX8_sends_55 : decode cX8_sends 55 = .ok (.iconst (-1), 1) := by decide +kernel
theorem dX8_sends_56 : decode cX8_sends 56 = .ok (.istore 5, 2) := by decide +kernel
theorem dX8_sends_58 : decode cX8_sends 58 = .ok (.iconst 0, 1) := by decide +kernel
theorem dX8_sends_59 : decode cX8_sends 59 = .ok (.istore 6, 2) := by decide +kernel
theorem dX8_sends_61 : decode cX8_sends 61 = .ok (.iload 6, 2) := by decide +kernel
theorem dX8_sends_63 : decode cX8_sends 63 = .ok (.iconst 1, 1) := by decide +kernel
theorem dX8_sends_64 : decode cX8_sends 64 = .ok (.aload_n 0, 1) := by decide +kernel
theorem dX8_sends_65 : decode cX8_sends 65 = .ok (.getfield 19, 3) := by decide +kernel
theorem dX8_sends_68 : decode cX8_sends 68 = .ok (.iconst 0, 1) := by decide +kernel
theorem dX8_sends_69 : decode cX8_sends 69 = .ok (.iaload, 1) := by decide +kernel
theorem dX8_sends_70 : decode cX8_sends 70 = .ok (.ishl, 1) := by decide +kernel
theorem dX8_sends_71 : decode cX8_sends 71 = .ok (.if_icmp .ge 125, 3) := by decide +kernel
theorem dX8_sends_74 : decode cX8_sends 74 = .ok (.iload 6, 2) := by decide +kernel
theorem dX8_sends_76 : decode cX8_sends 76 = .ok (.aload_n 0, 1) := by decide +kernel
theorem dX8_sends_77 : decode cX8_sends 77 = .ok (.getfield 19, 3) := by decide +kernel
theorem dX8_sends_80 : decode cX8_sends 80 = .ok (.iconst 0, 1) := by decide +kernel
theorem dX8_sends_81 : decode cX8_sends 81 = .ok (.invokestatic 217, 3) := by decide +kernel
theorem dX8_sends_84 : decode cX8_sends 84 = .ok (.iconst (-1), 1) := by decide +kernel
theorem dX8_sends_85 : decode cX8_sends 85 = .ok (.ixor, 1) := by decide +kernel
theorem dX8_sends_86 : decode cX8_sends 86 = .ok (.iand, 1) := by decide +kernel
theorem dX8_sends_87 : decode cX8_sends 87 = .ok (.ifCond .ne 103, 3) := by decide +kernel
theorem dX8_sends_90 : decode cX8_sends 90 = .ok (.aload_n 0, 1) := by decide +kernel
theorem dX8_sends_91 : decode cX8_sends 91 = .ok (.invokevirtual 232, 3) := by decide +kernel
theorem dX8_sends_94 : decode cX8_sends 94 = .ok (.iconst 0, 1) := by decide +kernel
theorem dX8_sends_95 : decode cX8_sends 95 = .ok (.istore 7, 2) := by decide +kernel
theorem dX8_sends_97 : decode cX8_sends 97 = .ok (.iload 7, 2) := by decide +kernel
theorem dX8_sends_99 : decode cX8_sends 99 = .ok (.aload_n 0, 1) := by decide +kernel
theorem dX8_sends_100 : decode cX8_sends 100 = .ok (.getfield 19, 3) := by decide +kernel
theorem dX8_sends_103 : decode cX8_sends 103 = .ok (.iconst 0, 1) := by decide +kernel
theorem dX8_sends_104 : decode cX8_sends 104 = .ok (.iaload, 1) := by decide +kernel
theorem dX8_sends_105 : decode cX8_sends 105 = .ok (.if_icmp .ge 29, 3) := by decide +kernel
theorem dX8_sends_108 : decode cX8_sends 108 = .ok (.iload 6, 2) := by decide +kernel
theorem dX8_sends_110 : decode cX8_sends 110 = .ok (.iload 7, 2) := by decide +kernel
theorem dX8_sends_112 : decode cX8_sends 112 = .ok (.invokestatic 240, 3) := by decide +kernel
theorem dX8_sends_115 : decode cX8_sends 115 = .ok (.ifCond .eq 13, 3) := by decide +kernel
theorem dX8_sends_118 : decode cX8_sends 118 = .ok (.aload_n 0, 1) := by decide +kernel
theorem dX8_sends_119 : decode cX8_sends 119 = .ok (.getfield 25, 3) := by decide +kernel
theorem dX8_sends_122 : decode cX8_sends 122 = .ok (.iload 7, 2) := by decide +kernel
theorem dX8_sends_124 : decode cX8_sends 124 = .ok (.iload_n 2, 1) := by decide +kernel
theorem dX8_sends_125 : decode cX8_sends 125 = .ok (.invokestatic 213, 3) := by decide +kernel
theorem dX8_sends_128 : decode cX8_sends 128 = .ok (.iinc 7 1, 3) := by decide +kernel
theorem dX8_sends_131 : decode cX8_sends 131 = .ok (.goto (-34), 3) := by decide +kernel
theorem dX8_sends_134 : decode cX8_sends 134 = .ok (.aload_n 0, 1) := by decide +kernel
theorem dX8_sends_135 : decode cX8_sends 135 = .ok (.aload_n 0, 1) := by decide +kernel
theorem dX8_sends_136 : decode cX8_sends 136 = .ok (.getfield 25, 3) := by decide +kernel
theorem dX8_sends_139 : decode cX8_sends 139 = .ok (.iload_n 1, 1) := by decide +kernel
theorem dX8_sends_140 : decode cX8_sends 140 = .ok (.invokevirtual 235, 3) := by decide +kernel
theorem dX8_sends_143 : decode cX8_sends 143 = .ok (.aload_n 0, 1) := by decide +kernel
theorem dX8_sends_144 : decode cX8_sends 144 = .ok (.getfield 25, 3) := by decide +kernel
theorem dX8_sends_147 : decode cX8_sends 147 = .ok (.invokestatic 204, 3) := by decide +kernel
theorem dX8_sends_150 : decode cX8_sends 150 = .ok (.invokestatic 244, 3) := by decide +kernel
theorem dX8_sends_153 : decode cX8_sends 153 = .ok (.istore 7, 2) := by decide +kernel
theorem dX8_sends_155 : decode cX8_sends 155 = .ok (.iload 7, 2) := by decide +kernel
theorem dX8_sends_157 : decode cX8_sends 157 = .ok (.iload 5, 2) := by decide +kernel
theorem dX8_sends_159 : decode cX8_sends 159 = .ok (.if_icmp .gt 23, 3) := by decide +kernel
theorem dX8_sends_162 : decode cX8_sends 162 = .ok (.iload 7, 2) := by decide +kernel
theorem dX8_sends_164 : decode cX8_sends 164 = .ok (.iload 5, 2) := by decide +kernel
theorem dX8_sends_166 : decode cX8_sends 166 = .ok (.if_icmp .ne 24, 3) := by decide +kernel
theorem dX8_sends_169 : decode cX8_sends 169 = .ok (.iload 6, 2) := by decide +kernel
theorem dX8_sends_171 : decode cX8_sends 171 = .ok (.invokestatic 244, 3) := by decide +kernel
theorem dX8_sends_174 : decode cX8_sends 174 = .ok (.iload 4, 2) := by decide +kernel
theorem dX8_sends_176 : decode cX8_sends 176 = .ok (.invokestatic 244, 3) := by decide +kernel
theorem dX8_sends_179 : decode cX8_sends 179 = .ok (.if_icmp .ge 11, 3) := by decide +kernel
theorem dX8_sends_182 : decode cX8_sends 182 = .ok (.iload 7, 2) := by decide +kernel
theorem dX8_sends_184 : decode cX8_sends 184 = .ok (.istore 5, 2) := by decide +kernel
theorem dX8_sends_186 : decode cX8_sends 186 = .ok (.iload 6, 2) := by decide +kernel
theorem dX8_sends_188 : decode cX8_sends 188 = .ok (.istore 4, 2) := by decide +kernel
theorem dX8_sends_190 : decode cX8_sends 190 = .ok (.iinc 6 1, 3) := by decide +kernel
theorem dX8_sends_193 : decode cX8_sends 193 = .ok (.goto (-132), 3) := by decide +kernel
theorem dX8_sends_196 : decode cX8_sends 196 = .ok (.iload_n 3, 1) := by decide +kernel
theorem dX8_sends_197 : decode cX8_sends 197 = .ok (.ifCond .ne 8, 3) := by decide +kernel
theorem dX8_sends_200 : decode cX8_sends 200 = .ok (.iload 4, 2) := by decide +kernel
theorem dX8_sends_202 : decode cX8_sends 202 = .ok (.goto 5, 3) := by decide +kernel
theorem dX8_sends_205 : decode cX8_sends 205 = .ok (.iload 5, 2) := by decide +kernel
theorem dX8_sends_207 : decode cX8_sends 207 = .ok (.ireturn, 1) := by decide +kernel
theorem dX8_lets_0 : decode cX8_lets 0 = .ok (.aload_n 0, 1) := by decide +kernel
theorem dX8_lets_1 : decode cX8_lets 1 = .ok (.iconst 0, 1) := by decide +kernel
theorem dX8_lets_2 : decode cX8_lets 2 = .ok (.putfield 50, 3) := by decide +kernel
theorem dX8_lets_5 : decode cX8_lets 5 = .ok (.aload_n 0, 1) := by decide +kernel
theorem dX8_lets_6 : decode cX8_lets 6 = .ok (.iload_n 1, 1) := by decide +kernel
theorem dX8_lets_7 : decode cX8_lets 7 = .ok (.invokevirtual 208, 3) := by decide +kernel
theorem dX8_lets_10 : decode cX8_lets 10 = .ok (.ifCond .eq 20, 3) := by decide +kernel
theorem dX8_lets_13 : decode cX8_lets 13 = .ok (.iload_n 2, 1) := by decide +kernel
theorem dX8_lets_14 : decode cX8_lets 14 = .ok (.i2l, 1) := by decide +kernel
theorem dX8_lets_15 : decode cX8_lets 15 = .ok (.lconst 1, 1) := by decide +kernel
theorem dX8_lets_16 : decode cX8_lets 16 = .ok (.ldc2_w 247, 3) := by decide +kernel
theorem dX8_lets_19 : decode cX8_lets 19 = .ok (.invokestatic 60, 3) := by decide +kernel
theorem dX8_lets_22 : decode cX8_lets 22 = .ok (.ifCond .eq 8, 3) := by decide +kernel
theorem dX8_lets_25 : decode cX8_lets 25 = .ok (.iload_n 3, 1) := by decide +kernel
theorem dX8_lets_26 : decode cX8_lets 26 = .ok (.iconst (-1), 1) := by decide +kernel
theorem dX8_lets_27 : decode cX8_lets 27 = .ok (.if_icmp .ge 6, 3) := by decide +kernel
theorem dX8_lets_30 : decode cX8_lets 30 = .ok (.ldc 70, 2) := by decide +kernel
theorem dX8_lets_32 : decode cX8_lets 32 = .ok (.ireturn, 1) := by decide +kernel
theorem dX8_lets_33 : decode cX8_lets 33 = .ok (.aload_n 0, 1) := by decide +kernel
theorem dX8_lets_34 : decode cX8_lets 34 = .ok (.getfield 19, 3) := by decide +kernel
theorem dX8_lets_37 : decode cX8_lets 37 = .ok (.iload_n 1, 1) := by decide +kernel
theorem dX8_lets_38 : decode cX8_lets 38 = .ok (.invokestatic 159, 3) := by decide +kernel
theorem dX8_lets_41 : decode cX8_lets 41 = .ok (.ifCond .ne 6, 3) := by decide +kernel
theorem dX8_lets_44 : decode cX8_lets 44 = .ok (.ldc 198, 2) := by decide +kernel
theorem dX8_lets_46 : decode cX8_lets 46 = .ok (.ireturn, 1) := by decide +kernel
theorem dX8_lets_47 : decode cX8_lets 47 = .ok (.iconst 1, 1) := by decide +kernel
theorem dX8_lets_48 : decode cX8_lets 48 = .ok (.iconst 2, 1) := by decide +kernel
theorem dX8_lets_49 : decode cX8_lets 49 = .ok (.iload_n 2, 1) := by decide +kernel
theorem dX8_lets_50 : decode cX8_lets 50 = .ok (.imul, 1) := by decide +kernel
theorem dX8_lets_51 : decode cX8_lets 51 = .ok (.ishl, 1) := by decide +kernel
theorem dX8_lets_52 : decode cX8_lets 52 = .ok (.istore 4, 2) := by decide +kernel
theorem dX8_lets_54 : decode cX8_lets 54 = .ok (.ldc 93, 2) := by decide +kernel
theorem dX8_lets_56 : decode cX8_lets 56 = .ok (.istore 5, 2) := by decide +kernel
theorem dX8_lets_58 : decode cX8_lets 58 = .ok (.ldc 93, 2) := by decide +kernel
theorem dX8_lets_60 : decode cX8_lets 60 = .ok (.istore 6, 2) := by decide +kernel
theorem dX8_lets_62 : decode cX8_lets 62 = .ok (.iconst 0, 1) := by decide +kernel
theorem dX8_lets_63 : decode cX8_lets 63 = .ok (.istore 7, 2) := by decide +kernel
theorem dX8_lets_65 : decode cX8_lets 65 = .ok (.iload 7, 2) := by decide +kernel
theorem dX8_lets_67 : decode cX8_lets 67 = .ok (.iload 4, 2) := by decide +kernel
theorem dX8_lets_69 : decode cX8_lets 69 = .ok (.if_icmp .ge 149, 3) := by decide +kernel
theorem dX8_lets_72 : decode cX8_lets 72 = .ok (.aload_n 0, 1) := by decide +kernel
theorem dX8_lets_73 : decode cX8_lets 73 = .ok (.invokevirtual 232, 3) := by decide +kernel
theorem dX8_lets_76 : decode cX8_lets 76 = .ok (.iconst 0, 1) := by decide +kernel
theorem dX8_lets_77 : decode cX8_lets 77 = .ok (.istore 8, 2) := by decide +kernel
theorem dX8_lets_79 : decode cX8_lets 79 = .ok (.iload 8, 2) := by decide +kernel
theorem dX8_lets_81 : decode cX8_lets 81 = .ok (.iload_n 2, 1) := by decide +kernel
theorem dX8_lets_82 : decode cX8_lets 82 = .ok (.if_icmp .ge 90, 3) := by decide +kernel
theorem dX8_lets_85 : decode cX8_lets 85 = .ok (.aload_n 0, 1) := by decide +kernel
theorem dX8_lets_86 : decode cX8_lets 86 = .ok (.getfield 25, 3) := by decide +kernel
theorem dX8_lets_89 : decode cX8_lets 89 = .ok (.iload_n 1, 1) := by decide +kernel
theorem dX8_lets_90 : decode cX8_lets 90 = .ok (.invokestatic 159, 3) := by decide +kernel
theorem dX8_lets_93 : decode cX8_lets 93 = .ok (.ifCond .eq 65, 3) := by decide +kernel
theorem dX8_lets_96 : decode cX8_lets 96 = .ok (.aload_n 0, 1) := by decide +kernel
theorem dX8_lets_97 : decode cX8_lets 97 = .ok (.getfield 25, 3) := by decide +kernel
theorem dX8_lets_100 : decode cX8_lets 100 = .ok (.iload_n 1, 1) := by decide +kernel
theorem dX8_lets_101 : decode cX8_lets 101 = .ok (.iconst 5, 1) := by decide +kernel
theorem dX8_lets_102 : decode cX8_lets 102 = .ok (.invokestatic 155, 3) := by decide +kernel
theorem dX8_lets_105 : decode cX8_lets 105 = .ok (.aload_n 0, 1) := by decide +kernel
theorem dX8_lets_106 : decode cX8_lets 106 = .ok (.getfield 37, 3) := by decide +kernel
theorem dX8_lets_109 : decode cX8_lets 109 = .ok (.iload 7, 2) := by decide +kernel
theorem dX8_lets_111 : decode cX8_lets 111 = .ok (.iconst 2, 1) := by decide +kernel
theorem dX8_lets_112 : decode cX8_lets 112 = .ok (.iload_n 2, 1) := by decide +kernel
theorem dX8_lets_113 : decode cX8_lets 113 = .ok (.iconst 1, 1) := by decide +kernel
theorem dX8_lets_114 : decode cX8_lets 114 = .ok (.isub, 1) := by decide +kernel
theorem dX8_lets_115 : decode cX8_lets 115 = .ok (.iload 8, 2) := by decide +kernel
theorem dX8_lets_117 : decode cX8_lets 117 = .ok (.isub, 1) := by decide +kernel
theorem dX8_lets_118 : decode cX8_lets 118 = .ok (.imul, 1) := by decide +kernel
theorem dX8_lets_119 : decode cX8_lets 119 = .ok (.ishr, 1) := by decide +kernel
theorem dX8_lets_120 : decode cX8_lets 120 = .ok (.iconst 3, 1) := by decide +kernel
theorem dX8_lets_121 : decode cX8_lets 121 = .ok (.iand, 1) := by decide +kernel
theorem dX8_lets_122 : decode cX8_lets 122 = .ok (.iaload, 1) := by decide +kernel
theorem dX8_lets_123 : decode cX8_lets 123 = .ok (.iadd, 1) := by decide +kernel
theorem dX8_lets_124 : decode cX8_lets 124 = .ok (.istore 9, 2) := by decide +kernel
theorem dX8_lets_126 : decode cX8_lets 126 = .ok (.aload_n 0, 1) := by decide +kernel
theorem dX8_lets_127 : decode cX8_lets 127 = .ok (.getfield 25, 3) := by decide +kernel
theorem dX8_lets_130 : decode cX8_lets 130 = .ok (.iload_n 1, 1) := by decide +kernel
theorem dX8_lets_131 : decode cX8_lets 131 = .ok (.iload 9, 2) := by decide +kernel
theorem dX8_lets_133 : decode cX8_lets 133 = .ok (.bipush 40, 2) := by decide +kernel
theorem dX8_lets_135 : decode cX8_lets 135 = .ok (.if_icmp .le 8, 3) := by decide +kernel
theorem dX8_lets_138 : decode cX8_lets 138 = .ok (.bipush 40, 2) := by decide +kernel
theorem dX8_lets_140 : decode cX8_lets 140 = .ok (.goto 15, 3) := by decide +kernel
theorem dX8_lets_143 : decode cX8_lets 143 = .ok (.iload 9, 2) := by decide +kernel
theorem dX8_lets_145 : decode cX8_lets 145 = .ok (.iconst 1, 1) := by decide +kernel
theorem dX8_lets_146 : decode cX8_lets 146 = .ok (.if_icmp .ge 7, 3) := by decide +kernel
theorem dX8_lets_149 : decode cX8_lets 149 = .ok (.iconst 1, 1) := by decide +kernel
theorem dX8_lets_150 : decode cX8_lets 150 = .ok (.goto 5, 3) := by decide +kernel
theorem dX8_lets_153 : decode cX8_lets 153 = .ok (.iload 9, 2) := by decide +kernel
theorem dX8_lets_155 : decode cX8_lets 155 = .ok (.invokestatic 222, 3) := by decide +kernel
theorem dX8_lets_158 : decode cX8_lets 158 = .ok (.aload_n 0, 1) := by decide +kernel
theorem dX8_lets_159 : decode cX8_lets 159 = .ok (.aload_n 0, 1) := by decide +kernel
theorem dX8_lets_160 : decode cX8_lets 160 = .ok (.getfield 25, 3) := by decide +kernel
theorem dX8_lets_163 : decode cX8_lets 163 = .ok (.invokevirtual 188, 3) := by decide +kernel
theorem dX8_lets_166 : decode cX8_lets 166 = .ok (.iinc 8 1, 3) := by decide +kernel
theorem dX8_lets_169 : decode cX8_lets 169 = .ok (.goto (-90), 3) := by decide +kernel
theorem dX8_lets_172 : decode cX8_lets 172 = .ok (.aload_n 0, 1) := by decide +kernel
theorem dX8_lets_173 : decode cX8_lets 173 = .ok (.getfield 25, 3) := by decide +kernel
theorem dX8_lets_176 : decode cX8_lets 176 = .ok (.iload_n 1, 1) := by decide +kernel
theorem dX8_lets_177 : decode cX8_lets 177 = .ok (.invokestatic 159, 3) := by decide +kernel
theorem dX8_lets_180 : decode cX8_lets 180 = .ok (.ifCond .eq 32, 3) := by decide +kernel
theorem dX8_lets_183 : decode cX8_lets 183 = .ok (.aload_n 0, 1) := by decide +kernel
theorem dX8_lets_184 : decode cX8_lets 184 = .ok (.getfield 25, 3) := by decide +kernel
theorem dX8_lets_187 : decode cX8_lets 187 = .ok (.iload_n 1, 1) := by decide +kernel
theorem dX8_lets_188 : decode cX8_lets 188 = .ok (.iconst 4, 1) := by decide +kernel
theorem dX8_lets_189 : decode cX8_lets 189 = .ok (.invokestatic 155, 3) := by decide +kernel
theorem dX8_lets_192 : decode cX8_lets 192 = .ok (.iload 6, 2) := by decide +kernel
theorem dX8_lets_194 : decode cX8_lets 194 = .ok (.if_icmp .le 18, 3) := by decide +kernel
theorem dX8_lets_197 : decode cX8_lets 197 = .ok (.aload_n 0, 1) := by decide +kernel
theorem dX8_lets_198 : decode cX8_lets 198 = .ok (.getfield 25, 3) := by decide +kernel
theorem dX8_lets_201 : decode cX8_lets 201 = .ok (.iload_n 1, 1) := by decide +kernel
theorem dX8_lets_202 : decode cX8_lets 202 = .ok (.iconst 4, 1) := by decide +kernel
theorem dX8_lets_203 : decode cX8_lets 203 = .ok (.invokestatic 155, 3) := by decide +kernel
theorem dX8_lets_206 : decode cX8_lets 206 = .ok (.istore 6, 2) := by decide +kernel
theorem dX8_lets_208 : decode cX8_lets 208 = .ok (.iload 7, 2) := by decide +kernel
theorem dX8_lets_210 : decode cX8_lets 210 = .ok (.istore 5, 2) := by decide +kernel
theorem dX8_lets_212 : decode cX8_lets 212 = .ok (.iinc 7 1, 3) := by decide +kernel
theorem dX8_lets_215 : decode cX8_lets 215 = .ok (.goto (-150), 3) := by decide +kernel
theorem dX8_lets_218 : decode cX8_lets 218 = .ok (.iload 5, 2) := by decide +kernel
theorem dX8_lets_220 : decode cX8_lets 220 = .ok (.ldc 93, 2) := by decide +kernel
theorem dX8_lets_222 : decode cX8_lets 222 = .ok (.if_icmp .eq 8, 3) := by decide +kernel
theorem dX8_lets_225 : decode cX8_lets 225 = .ok (.iload_n 3, 1) := by decide +kernel
theorem dX8_lets_226 : decode cX8_lets 226 = .ok (.iconst (-1), 1) := by decide +kernel
theorem dX8_lets_227 : decode cX8_lets 227 = .ok (.if_icmp .ne 8, 3) := by decide +kernel
theorem dX8_lets_230 : decode cX8_lets 230 = .ok (.iload 6, 2) := by decide +kernel
theorem dX8_lets_232 : decode cX8_lets 232 = .ok (.goto 25, 3) := by decide +kernel
theorem dX8_lets_235 : decode cX8_lets 235 = .ok (.iload_n 3, 1) := by decide +kernel
theorem dX8_lets_236 : decode cX8_lets 236 = .ok (.iload_n 2, 1) := by decide +kernel
theorem dX8_lets_237 : decode cX8_lets 237 = .ok (.if_icmp .ge 18, 3) := by decide +kernel
theorem dX8_lets_240 : decode cX8_lets 240 = .ok (.iload 5, 2) := by decide +kernel
theorem dX8_lets_242 : decode cX8_lets 242 = .ok (.iconst 2, 1) := by decide +kernel
theorem dX8_lets_243 : decode cX8_lets 243 = .ok (.iload_n 2, 1) := by decide +kernel
theorem dX8_lets_244 : decode cX8_lets 244 = .ok (.iconst 1, 1) := by decide +kernel
theorem dX8_lets_245 : decode cX8_lets 245 = .ok (.isub, 1) := by decide +kernel
theorem dX8_lets_246 : decode cX8_lets 246 = .ok (.iload_n 3, 1) := by decide +kernel
theorem dX8_lets_247 : decode cX8_lets 247 = .ok (.isub, 1) := by decide +kernel
theorem dX8_lets_248 : decode cX8_lets 248 = .ok (.imul, 1) := by decide +kernel
theorem dX8_lets_249 : decode cX8_lets 249 = .ok (.ishr, 1) := by decide +kernel
theorem dX8_lets_250 : decode cX8_lets 250 = .ok (.iconst 3, 1) := by decide +kernel
theorem dX8_lets_251 : decode cX8_lets 251 = .ok (.iand, 1) := by decide +kernel
theorem dX8_lets_252 : decode cX8_lets 252 = .ok (.goto 5, 3) := by decide +kernel
theorem dX8_lets_255 : decode cX8_lets 255 = .ok (.ldc 93, 2) := by decide +kernel
theorem dX8_lets_257 : decode cX8_lets 257 = .ok (.ireturn, 1) := by decide +kernel
theorem dX8_light_0 : decode cX8_light 0 = .ok (.aload_n 0, 1) := by decide +kernel
theorem dX8_light_1 : decode cX8_light 1 = .ok (.iconst 0, 1) := by decide +kernel
theorem dX8_light_2 : decode cX8_light 2 = .ok (.putfield 50, 3) := by decide +kernel
theorem dX8_light_5 : decode cX8_light 5 = .ok (.aload_n 0, 1) := by decide +kernel
theorem dX8_light_6 : decode cX8_light 6 = .ok (.iload_n 1, 1) := by decide +kernel
theorem dX8_light_7 : decode cX8_light 7 = .ok (.invokevirtual 208, 3) := by decide +kernel
theorem dX8_light_10 : decode cX8_light 10 = .ok (.ifCond .eq 15, 3) := by decide +kernel
theorem dX8_light_13 : decode cX8_light 13 = .ok (.iload_n 2, 1) := by decide +kernel
theorem dX8_light_14 : decode cX8_light 14 = .ok (.i2l, 1) := by decide +kernel
theorem dX8_light_15 : decode cX8_light 15 = .ok (.lconst 1, 1) := by decide +kernel
theorem dX8_light_16 : decode cX8_light 16 = .ok (.ldc2_w 238, 3) := by decide +kernel
theorem dX8_light_19 : decode cX8_light 19 = .ok (.invokestatic 60, 3) := by decide +kernel
theorem dX8_light_22 : decode cX8_light 22 = .ok (.ifCond .ne 6, 3) := by decide +kernel
theorem dX8_light_25 : decode cX8_light 25 = .ok (.ldc 70, 2) := by decide +kernel
theorem dX8_light_27 : decode cX8_light 27 = .ok (.ireturn, 1) := by decide +kernel
theorem dX8_light_28 : decode cX8_light 28 = .ok (.bipush 60, 2) := by decide +kernel
theorem dX8_light_30 : decode cX8_light 30 = .ok (.istore_n 3, 1) := by decide +kernel
theorem dX8_light_31 : decode cX8_light 31 = .ok (.iload_n 3, 1) := by decide +kernel
theorem dX8_light_32 : decode cX8_light 32 = .ok (.ifCond .le 45, 3) := by decide +kernel
theorem dX8_light_35 : decode cX8_light 35 = .ok (.aload_n 0, 1) := by decide +kernel
theorem dX8_light_36 : decode cX8_light 36 = .ok (.invokevirtual 232, 3) := by decide +kernel
theorem dX8_light_39 : decode cX8_light 39 = .ok (.aload_n 0, 1) := by decide +kernel
theorem dX8_light_40 : decode cX8_light 40 = .ok (.getfield 25, 3) := by decide +kernel
theorem dX8_light_43 : decode cX8_light 43 = .ok (.iload_n 1, 1) := by decide +kernel
theorem dX8_light_44 : decode cX8_light 44 = .ok (.iconst 2, 1) := by decide +kernel
theorem dX8_light_45 : decode cX8_light 45 = .ok (.iload_n 3, 1) := by decide +kernel
theorem dX8_light_46 : decode cX8_light 46 = .ok (.invokestatic 170, 3) := by decide +kernel
theorem dX8_light_49 : decode cX8_light 49 = .ok (.aload_n 0, 1) := by decide +kernel
theorem dX8_light_50 : decode cX8_light 50 = .ok (.aload_n 0, 1) := by decide +kernel
theorem dX8_light_51 : decode cX8_light 51 = .ok (.getfield 25, 3) := by decide +kernel
theorem dX8_light_54 : decode cX8_light 54 = .ok (.iload_n 2, 1) := by decide +kernel
theorem dX8_light_55 : decode cX8_light 55 = .ok (.invokevirtual 235, 3) := by decide +kernel
theorem dX8_light_58 : decode cX8_light 58 = .ok (.aload_n 0, 1) := by decide +kernel
theorem dX8_light_59 : decode cX8_light 59 = .ok (.getfield 25, 3) := by decide +kernel
theorem dX8_light_62 : decode cX8_light 62 = .ok (.iload_n 1, 1) := by decide +kernel
theorem dX8_light_63 : decode cX8_light 63 = .ok (.invokestatic 192, 3) := by decide +kernel
theorem dX8_light_66 : decode cX8_light 66 = .ok (.ifCond .eq 5, 3) := by decide +kernel
theorem dX8_light_69 : decode cX8_light 69 = .ok (.iload_n 3, 1) := by decide +kernel
theorem dX8_light_70 : decode cX8_light 70 = .ok (.ireturn, 1) := by decide +kernel
theorem dX8_light_71 : decode cX8_light 71 = .ok (.iinc 3 (-1), 3) := by decide +kernel
theorem dX8_light_74 : decode cX8_light 74 = .ok (.goto (-43), 3) := by decide +kernel
theorem dX8_light_77 : decode cX8_light 77 = .ok (.ldc 93, 2) := by decide +kernel
theorem dX8_light_79 : decode cX8_light 79 = .ok (.ireturn, 1) := by decide +kernel
theorem dX8_gust_0 : decode cX8_gust 0 = .ok (.aload_n 0, 1) := by decide +kernel
theorem dX8_gust_1 : decode cX8_gust 1 = .ok (.iconst 0, 1) := by decide +kernel
theorem dX8_gust_2 : decode cX8_gust 2 = .ok (.putfield 50, 3) := by decide +kernel
theorem dX8_gust_5 : decode cX8_gust 5 = .ok (.aload_n 0, 1) := by decide +kernel
theorem dX8_gust_6 : decode cX8_gust 6 = .ok (.iload_n 1, 1) := by decide +kernel
theorem dX8_gust_7 : decode cX8_gust 7 = .ok (.invokevirtual 208, 3) := by decide +kernel
theorem dX8_gust_10 : decode cX8_gust 10 = .ok (.ifCond .ne 6, 3) := by decide +kernel
theorem dX8_gust_13 : decode cX8_gust 13 = .ok (.ldc 70, 2) := by decide +kernel
theorem dX8_gust_15 : decode cX8_gust 15 = .ok (.ireturn, 1) := by decide +kernel
theorem dX8_gust_16 : decode cX8_gust 16 = .ok (.aload_n 0, 1) := by decide +kernel
theorem dX8_gust_17 : decode cX8_gust 17 = .ok (.getfield 19, 3) := by decide +kernel
theorem dX8_gust_20 : decode cX8_gust 20 = .ok (.iload_n 1, 1) := by decide +kernel
theorem dX8_gust_21 : decode cX8_gust 21 = .ok (.invokestatic 159, 3) := by decide +kernel
theorem dX8_gust_24 : decode cX8_gust 24 = .ok (.ifCond .ne 6, 3) := by decide +kernel
theorem dX8_gust_27 : decode cX8_gust 27 = .ok (.ldc 198, 2) := by decide +kernel
theorem dX8_gust_29 : decode cX8_gust 29 = .ok (.ireturn, 1) := by decide +kernel
theorem dX8_gust_30 : decode cX8_gust 30 = .ok (.iconst 0, 1) := by decide +kernel
theorem dX8_gust_31 : decode cX8_gust 31 = .ok (.istore_n 2, 1) := by decide +kernel
theorem dX8_gust_32 : decode cX8_gust 32 = .ok (.iload_n 2, 1) := by decide +kernel
theorem dX8_gust_33 : decode cX8_gust 33 = .ok (.bipush 100, 2) := by decide +kernel
theorem dX8_gust_35 : decode cX8_gust 35 = .ok (.if_icmp .ge 31, 3) := by decide +kernel
theorem dX8_gust_38 : decode cX8_gust 38 = .ok (.aload_n 0, 1) := by decide +kernel
theorem dX8_gust_39 : decode cX8_gust 39 = .ok (.getfield 19, 3) := by decide +kernel
theorem dX8_gust_42 : decode cX8_gust 42 = .ok (.iload_n 1, 1) := by decide +kernel
theorem dX8_gust_43 : decode cX8_gust 43 = .ok (.aload_n 0, 1) := by decide +kernel
theorem dX8_gust_44 : decode cX8_gust 44 = .ok (.getfield 19, 3) := by decide +kernel
theorem dX8_gust_47 : decode cX8_gust 47 = .ok (.iload_n 1, 1) := by decide +kernel
theorem dX8_gust_48 : decode cX8_gust 48 = .ok (.iload_n 2, 1) := by decide +kernel
theorem dX8_gust_49 : decode cX8_gust 49 = .ok (.invokestatic 174, 3) := by decide +kernel
theorem dX8_gust_52 : decode cX8_gust 52 = .ok (.invokestatic 166, 3) := by decide +kernel
theorem dX8_gust_55 : decode cX8_gust 55 = .ok (.ifCond .eq 5, 3) := by decide +kernel
theorem dX8_gust_58 : decode cX8_gust 58 = .ok (.iload_n 2, 1) := by decide +kernel
theorem dX8_gust_59 : decode cX8_gust 59 = .ok (.ireturn, 1) := by decide +kernel
theorem dX8_gust_60 : decode cX8_gust 60 = .ok (.iinc 2 1, 3) := by decide +kernel
theorem dX8_gust_63 : decode cX8_gust 63 = .ok (.goto (-31), 3) := by decide +kernel
theorem dX8_gust_66 : decode cX8_gust 66 = .ok (.ldc 93, 2) := by decide +kernel
theorem dX8_gust_68 : decode cX8_gust 68 = .ok (.ireturn, 1) := by decide +kernel
theorem dX8_quarrels_0 : decode cX8_quarrels 0 = .ok (.aload_n 0, 1) := by decide +kernel
theorem dX8_quarrels_1 : decode cX8_quarrels 1 = .ok (.iconst 0, 1) := by decide +kernel
theorem dX8_quarrels_2 : decode cX8_quarrels 2 = .ok (.putfield 50, 3) := by decide +kernel
theorem dX8_quarrels_5 : decode cX8_quarrels 5 = .ok (.aload_n 0, 1) := by decide +kernel
theorem dX8_quarrels_6 : decode cX8_quarrels 6 = .ok (.invokevirtual 195, 3) := by decide +kernel
theorem dX8_quarrels_9 : decode cX8_quarrels 9 = .ok (.ifCond .ne 6, 3) := by decide +kernel
theorem dX8_quarrels_12 : decode cX8_quarrels 12 = .ok (.ldc 198, 2) := by decide +kernel
theorem dX8_quarrels_14 : decode cX8_quarrels 14 = .ok (.ireturn, 1) := by decide +kernel
theorem dX8_quarrels_15 : decode cX8_quarrels 15 = .ok (.iload_n 1, 1) := by decide +kernel
theorem dX8_quarrels_16 : decode cX8_quarrels 16 = .ok (.i2l, 1) := by decide +kernel
theorem dX8_quarrels_17 : decode cX8_quarrels 17 = .ok (.lconst 0, 1) := by decide +kernel
theorem dX8_quarrels_18 : decode cX8_quarrels 18 = .ok (.lconst 1, 1) := by decide +kernel
theorem dX8_quarrels_19 : decode cX8_quarrels 19 = .ok (.invokestatic 60, 3) := by decide +kernel
theorem dX8_quarrels_22 : decode cX8_quarrels 22 = .ok (.ifCond .ne 6, 3) := by decide +kernel
theorem dX8_quarrels_25 : decode cX8_quarrels 25 = .ok (.ldc 70, 2) := by decide +kernel
theorem dX8_quarrels_27 : decode cX8_quarrels 27 = .ok (.ireturn, 1) := by decide +kernel
theorem dX8_quarrels_28 : decode cX8_quarrels 28 = .ok (.iconst 0, 1) := by decide +kernel
theorem dX8_quarrels_29 : decode cX8_quarrels 29 = .ok (.istore_n 2, 1) := by decide +kernel
theorem dX8_quarrels_30 : decode cX8_quarrels 30 = .ok (.ldc 93, 2) := by decide +kernel
theorem dX8_quarrels_32 : decode cX8_quarrels 32 = .ok (.istore_n 3, 1) := by decide +kernel
theorem dX8_quarrels_33 : decode cX8_quarrels 33 = .ok (.iconst 0, 1) := by decide +kernel
theorem dX8_quarrels_34 : decode cX8_quarrels 34 = .ok (.istore 4, 2) := by decide +kernel
theorem dX8_quarrels_36 : decode cX8_quarrels 36 = .ok (.iload 4, 2) := by decide +kernel
theorem dX8_quarrels_38 : decode cX8_quarrels 38 = .ok (.aload_n 0, 1) := by decide +kernel
theorem dX8_quarrels_39 : decode cX8_quarrels 39 = .ok (.getfield 19, 3) := by decide +kernel
theorem dX8_quarrels_42 : decode cX8_quarrels 42 = .ok (.iconst 0, 1) := by decide +kernel
theorem dX8_quarrels_43 : decode cX8_quarrels 43 = .ok (.iaload, 1) := by decide +kernel
theorem dX8_quarrels_44 : decode cX8_quarrels 44 = .ok (.if_icmp .ge 87, 3) := by decide +kernel
theorem dX8_quarrels_47 : decode cX8_quarrels 47 = .ok (.iload 4, 2) := by decide +kernel
theorem dX8_quarrels_49 : decode cX8_quarrels 49 = .ok (.iconst 1, 1) := by decide +kernel
theorem dX8_quarrels_50 : decode cX8_quarrels 50 = .ok (.iadd, 1) := by decide +kernel
theorem dX8_quarrels_51 : decode cX8_quarrels 51 = .ok (.istore 5, 2) := by decide +kernel
theorem dX8_quarrels_53 : decode cX8_quarrels 53 = .ok (.iload 5, 2) := by decide +kernel
theorem dX8_quarrels_55 : decode cX8_quarrels 55 = .ok (.aload_n 0, 1) := by decide +kernel
theorem dX8_quarrels_56 : decode cX8_quarrels 56 = .ok (.getfield 19, 3) := by decide +kernel
theorem dX8_quarrels_59 : decode cX8_quarrels 59 = .ok (.iconst 0, 1) := by decide +kernel
theorem dX8_quarrels_60 : decode cX8_quarrels 60 = .ok (.iaload, 1) := by decide +kernel
theorem dX8_quarrels_61 : decode cX8_quarrels 61 = .ok (.if_icmp .ge 64, 3) := by decide +kernel
theorem dX8_quarrels_64 : decode cX8_quarrels 64 = .ok (.aload_n 0, 1) := by decide +kernel
theorem dX8_quarrels_65 : decode cX8_quarrels 65 = .ok (.getfield 19, 3) := by decide +kernel
theorem dX8_quarrels_68 : decode cX8_quarrels 68 = .ok (.iload 4, 2) := by decide +kernel
theorem dX8_quarrels_70 : decode cX8_quarrels 70 = .ok (.invokestatic 229, 3) := by decide +kernel
theorem dX8_quarrels_73 : decode cX8_quarrels 73 = .ok (.ldc 93, 2) := by decide +kernel
theorem dX8_quarrels_75 : decode cX8_quarrels 75 = .ok (.if_icmp .eq 44, 3) := by decide +kernel
theorem dX8_quarrels_78 : decode cX8_quarrels 78 = .ok (.aload_n 0, 1) := by decide +kernel
theorem dX8_quarrels_79 : decode cX8_quarrels 79 = .ok (.getfield 19, 3) := by decide +kernel
theorem dX8_quarrels_82 : decode cX8_quarrels 82 = .ok (.iload 4, 2) := by decide +kernel
theorem dX8_quarrels_84 : decode cX8_quarrels 84 = .ok (.invokestatic 229, 3) := by decide +kernel
theorem dX8_quarrels_87 : decode cX8_quarrels 87 = .ok (.aload_n 0, 1) := by decide +kernel
theorem dX8_quarrels_88 : decode cX8_quarrels 88 = .ok (.getfield 19, 3) := by decide +kernel
theorem dX8_quarrels_91 : decode cX8_quarrels 91 = .ok (.iload 5, 2) := by decide +kernel
theorem dX8_quarrels_93 : decode cX8_quarrels 93 = .ok (.invokestatic 229, 3) := by decide +kernel
theorem dX8_quarrels_96 : decode cX8_quarrels 96 = .ok (.if_icmp .ne 23, 3) := by decide +kernel
theorem dX8_quarrels_99 : decode cX8_quarrels 99 = .ok (.iload_n 2, 1) := by decide +kernel
theorem dX8_quarrels_100 : decode cX8_quarrels 100 = .ok (.ifCond .ne 14, 3) := by decide +kernel
theorem dX8_quarrels_103 : decode cX8_quarrels 103 = .ok (.bipush 10, 2) := by decide +kernel
theorem dX8_quarrels_105 : decode cX8_quarrels 105 = .ok (.iload 4, 2) := by decide +kernel
theorem dX8_quarrels_107 : decode cX8_quarrels 107 = .ok (.imul, 1) := by decide +kernel
theorem dX8_quarrels_108 : decode cX8_quarrels 108 = .ok (.iload 5, 2) := by decide +kernel
theorem dX8_quarrels_110 : decode cX8_quarrels 110 = .ok (.iadd, 1) := by decide +kernel
theorem dX8_quarrels_111 : decode cX8_quarrels 111 = .ok (.goto 4, 3) := by decide +kernel
theorem dX8_quarrels_114 : decode cX8_quarrels 114 = .ok (.iload_n 3, 1) := by decide +kernel
theorem dX8_quarrels_115 : decode cX8_quarrels 115 = .ok (.istore_n 3, 1) := by decide +kernel
theorem dX8_quarrels_116 : decode cX8_quarrels 116 = .ok (.iinc 2 1, 3) := by decide +kernel
theorem dX8_quarrels_119 : decode cX8_quarrels 119 = .ok (.iinc 5 1, 3) := by decide +kernel
theorem dX8_quarrels_122 : decode cX8_quarrels 122 = .ok (.goto (-69), 3) := by decide +kernel
theorem dX8_quarrels_125 : decode cX8_quarrels 125 = .ok (.iinc 4 1, 3) := by decide +kernel
theorem dX8_quarrels_128 : decode cX8_quarrels 128 = .ok (.goto (-92), 3) := by decide +kernel
theorem dX8_quarrels_131 : decode cX8_quarrels 131 = .ok (.iload_n 1, 1) := by decide +kernel
theorem dX8_quarrels_132 : decode cX8_quarrels 132 = .ok (.ifCond .ne 7, 3) := by decide +kernel
theorem dX8_quarrels_135 : decode cX8_quarrels 135 = .ok (.iload_n 2, 1) := by decide +kernel
theorem dX8_quarrels_136 : decode cX8_quarrels 136 = .ok (.goto 4, 3) := by decide +kernel
theorem dX8_quarrels_139 : decode cX8_quarrels 139 = .ok (.iload_n 3, 1) := by decide +kernel
theorem dX8_quarrels_140 : decode cX8_quarrels 140 = .ok (.ireturn, 1) := by decide +kernel
theorem dX8_isSo_0 : decode cX8_isSo 0 = .ok (.iconst 1, 1) := by decide +kernel
theorem dX8_isSo_1 : decode cX8_isSo 1 = .ok (.istore 4, 2) := by decide +kernel
theorem dX8_isSo_3 : decode cX8_isSo 3 = .ok (.iconst 0, 1) := by decide +kernel
theorem dX8_isSo_4 : decode cX8_isSo 4 = .ok (.istore 5, 2) := by decide +kernel
theorem dX8_isSo_6 : decode cX8_isSo 6 = .ok (.iload 5, 2) := by decide +kernel
theorem dX8_isSo_8 : decode cX8_isSo 8 = .ok (.iload_n 3, 1) := by decide +kernel
theorem dX8_isSo_9 : decode cX8_isSo 9 = .ok (.if_icmp .ge 50, 3) := by decide +kernel
theorem dX8_isSo_12 : decode cX8_isSo 12 = .ok (.aload_n 0, 1) := by decide +kernel
theorem dX8_isSo_13 : decode cX8_isSo 13 = .ok (.aload_n 0, 1) := by decide +kernel
theorem dX8_isSo_14 : decode cX8_isSo 14 = .ok (.getfield 25, 3) := by decide +kernel
theorem dX8_isSo_17 : decode cX8_isSo 17 = .ok (.invokevirtual 188, 3) := by decide +kernel
theorem dX8_isSo_20 : decode cX8_isSo 20 = .ok (.iload 4, 2) := by decide +kernel
theorem dX8_isSo_22 : decode cX8_isSo 22 = .ok (.ifCond .eq 28, 3) := by decide +kernel
theorem dX8_isSo_25 : decode cX8_isSo 25 = .ok (.aload_n 0, 1) := by decide +kernel
theorem dX8_isSo_26 : decode cX8_isSo 26 = .ok (.getfield 25, 3) := by decide +kernel
theorem dX8_isSo_29 : decode cX8_isSo 29 = .ok (.iload_n 1, 1) := by decide +kernel
theorem dX8_isSo_30 : decode cX8_isSo 30 = .ok (.iconst 4, 1) := by decide +kernel
theorem dX8_isSo_31 : decode cX8_isSo 31 = .ok (.invokestatic 155, 3) := by decide +kernel
theorem dX8_isSo_34 : decode cX8_isSo 34 = .ok (.aload_n 0, 1) := by decide +kernel
theorem dX8_isSo_35 : decode cX8_isSo 35 = .ok (.getfield 16, 3) := by decide +kernel
theorem dX8_isSo_38 : decode cX8_isSo 38 = .ok (.iload_n 2, 1) := by decide +kernel
theorem dX8_isSo_39 : decode cX8_isSo 39 = .ok (.iload 5, 2) := by decide +kernel
theorem dX8_isSo_41 : decode cX8_isSo 41 = .ok (.iadd, 1) := by decide +kernel
theorem dX8_isSo_42 : decode cX8_isSo 42 = .ok (.iaload, 1) := by decide +kernel
theorem dX8_isSo_43 : decode cX8_isSo 43 = .ok (.if_icmp .ne 7, 3) := by decide +kernel
theorem dX8_isSo_46 : decode cX8_isSo 46 = .ok (.iconst 1, 1) := by decide +kernel
theorem dX8_isSo_47 : decode cX8_isSo 47 = .ok (.goto 4, 3) := by decide +kernel
theorem dX8_isSo_50 : decode cX8_isSo 50 = .ok (.iconst 0, 1) := by decide +kernel
theorem dX8_isSo_51 : decode cX8_isSo 51 = .ok (.istore 4, 2) := by decide +kernel
theorem dX8_isSo_53 : decode cX8_isSo 53 = .ok (.iinc 5 1, 3) := by decide +kernel
theorem dX8_isSo_56 : decode cX8_isSo 56 = .ok (.goto (-50), 3) := by decide +kernel
theorem dX8_isSo_59 : decode cX8_isSo 59 = .ok (.iload 4, 2) := by decide +kernel
theorem dX8_isSo_61 : decode cX8_isSo 61 = .ok (.ireturn, 1) := by decide +kernel
theorem dX8_rowFound_0 : decode cX8_rowFound 0 = .ok (.aload_n 0, 1) := by decide +kernel
theorem dX8_rowFound_1 : decode cX8_rowFound 1 = .ok (.getfield 7, 3) := by decide +kernel
theorem dX8_rowFound_4 : decode cX8_rowFound 4 = .ok (.iload_n 1, 1) := by decide +kernel
theorem dX8_rowFound_5 : decode cX8_rowFound 5 = .ok (.iaload, 1) := by decide +kernel
theorem dX8_rowFound_6 : decode cX8_rowFound 6 = .ok (.ifCond .ge 9, 3) := by decide +kernel
theorem dX8_rowFound_9 : decode cX8_rowFound 9 = .ok (.aload_n 0, 1) := by decide +kernel
theorem dX8_rowFound_10 : decode cX8_rowFound 10 = .ok (.iconst 1, 1) := by decide +kernel
theorem dX8_rowFound_11 : decode cX8_rowFound 11 = .ok (.invokevirtual 71, 3) := by decide +kernel
theorem dX8_rowFound_14 : decode cX8_rowFound 14 = .ok (.ireturn, 1) := by decide +kernel
theorem dX8_rowFound_15 : decode cX8_rowFound 15 = .ok (.iload_n 2, 1) := by decide +kernel
theorem dX8_rowFound_16 : decode cX8_rowFound 16 = .ok (.ifCond .lt 19, 3) := by decide +kernel
theorem dX8_rowFound_19 : decode cX8_rowFound 19 = .ok (.iload_n 2, 1) := by decide +kernel
theorem dX8_rowFound_20 : decode cX8_rowFound 20 = .ok (.i2l, 1) := by decide +kernel
theorem dX8_rowFound_21 : decode cX8_rowFound 21 = .ok (.iload_n 3, 1) := by decide +kernel
theorem dX8_rowFound_22 : decode cX8_rowFound 22 = .ok (.i2l, 1) := by decide +kernel
theorem dX8_rowFound_23 : decode cX8_rowFound 23 = .ok (.ladd, 1) := by decide +kernel
theorem dX8_rowFound_24 : decode cX8_rowFound 24 = .ok (.aload_n 0, 1) := by decide +kernel
theorem dX8_rowFound_25 : decode cX8_rowFound 25 = .ok (.getfield 13, 3) := by decide +kernel
theorem dX8_rowFound_28 : decode cX8_rowFound 28 = .ok (.iload_n 1, 1) := by decide +kernel
theorem dX8_rowFound_29 : decode cX8_rowFound 29 = .ok (.iaload, 1) := by decide +kernel
theorem dX8_rowFound_30 : decode cX8_rowFound 30 = .ok (.i2l, 1) := by decide +kernel
theorem dX8_rowFound_31 : decode cX8_rowFound 31 = .ok (.lcmp, 1) := by decide +kernel
theorem dX8_rowFound_32 : decode cX8_rowFound 32 = .ok (.ifCond .le 9, 3) := by decide +kernel
theorem dX8_rowFound_35 : decode cX8_rowFound 35 = .ok (.aload_n 0, 1) := by decide +kernel
theorem dX8_rowFound_36 : decode cX8_rowFound 36 = .ok (.iconst 2, 1) := by decide +kernel
theorem dX8_rowFound_37 : decode cX8_rowFound 37 = .ok (.invokevirtual 71, 3) := by decide +kernel
theorem dX8_rowFound_40 : decode cX8_rowFound 40 = .ok (.ireturn, 1) := by decide +kernel
theorem dX8_rowFound_41 : decode cX8_rowFound 41 = .ok (.aload_n 0, 1) := by decide +kernel
theorem dX8_rowFound_42 : decode cX8_rowFound 42 = .ok (.iconst 0, 1) := by decide +kernel
theorem dX8_rowFound_43 : decode cX8_rowFound 43 = .ok (.putfield 54, 3) := by decide +kernel
theorem dX8_rowFound_46 : decode cX8_rowFound 46 = .ok (.iconst 0, 1) := by decide +kernel
theorem dX8_rowFound_47 : decode cX8_rowFound 47 = .ok (.ireturn, 1) := by decide +kernel
theorem dX8_isMany_0 : decode cX8_isMany 0 = .ok (.iload_n 0, 1) := by decide +kernel
theorem dX8_isMany_1 : decode cX8_isMany 1 = .ok (.invokestatic 64, 3) := by decide +kernel
theorem dX8_isMany_4 : decode cX8_isMany 4 = .ok (.ifCond .eq 19, 3) := by decide +kernel
theorem dX8_isMany_7 : decode cX8_isMany 7 = .ok (.iload_n 1, 1) := by decide +kernel
theorem dX8_isMany_8 : decode cX8_isMany 8 = .ok (.i2l, 1) := by decide +kernel
theorem dX8_isMany_9 : decode cX8_isMany 9 = .ok (.lconst 1, 1) := by decide +kernel
theorem dX8_isMany_10 : decode cX8_isMany 10 = .ok (.ldc2_w 249, 3) := by decide +kernel
theorem dX8_isMany_13 : decode cX8_isMany 13 = .ok (.invokestatic 60, 3) := by decide +kernel
theorem dX8_isMany_16 : decode cX8_isMany 16 = .ok (.ifCond .eq 7, 3) := by decide +kernel
theorem dX8_isMany_19 : decode cX8_isMany 19 = .ok (.iconst 1, 1) := by decide +kernel
theorem dX8_isMany_20 : decode cX8_isMany 20 = .ok (.goto 4, 3) := by decide +kernel
theorem dX8_isMany_23 : decode cX8_isMany 23 = .ok (.iconst 0, 1) := by decide +kernel
theorem dX8_isMany_24 : decode cX8_isMany 24 = .ok (.ireturn, 1) := by decide +kernel
theorem dX8_who_0 : decode cX8_who 0 = .ok (.aload_n 0, 1) := by decide +kernel
theorem dX8_who_1 : decode cX8_who 1 = .ok (.iconst 0, 1) := by decide +kernel
theorem dX8_who_2 : decode cX8_who 2 = .ok (.putfield 50, 3) := by decide +kernel
theorem dX8_who_5 : decode cX8_who 5 = .ok (.aload_n 0, 1) := by decide +kernel
theorem dX8_who_6 : decode cX8_who 6 = .ok (.iload_n 1, 1) := by decide +kernel
theorem dX8_who_7 : decode cX8_who 7 = .ok (.invokevirtual 208, 3) := by decide +kernel
theorem dX8_who_10 : decode cX8_who 10 = .ok (.ifCond .eq 24, 3) := by decide +kernel
theorem dX8_who_13 : decode cX8_who 13 = .ok (.iload_n 2, 1) := by decide +kernel
theorem dX8_who_14 : decode cX8_who 14 = .ok (.i2l, 1) := by decide +kernel
theorem dX8_who_15 : decode cX8_who 15 = .ok (.lconst 0, 1) := by decide +kernel
theorem dX8_who_16 : decode cX8_who 16 = .ok (.ldc2_w 247, 3) := by decide +kernel
theorem dX8_who_19 : decode cX8_who 19 = .ok (.invokestatic 60, 3) := by decide +kernel
theorem dX8_who_22 : decode cX8_who 22 = .ok (.ifCond .eq 12, 3) := by decide +kernel
theorem dX8_who_25 : decode cX8_who 25 = .ok (.iload_n 3, 1) := by decide +kernel
theorem dX8_who_26 : decode cX8_who 26 = .ok (.iload 5, 2) := by decide +kernel
theorem dX8_who_28 : decode cX8_who 28 = .ok (.invokestatic 251, 3) := by decide +kernel
theorem dX8_who_31 : decode cX8_who 31 = .ok (.ifCond .ne 6, 3) := by decide +kernel
theorem dX8_who_34 : decode cX8_who 34 = .ok (.ldc 70, 2) := by decide +kernel
theorem dX8_who_36 : decode cX8_who 36 = .ok (.ireturn, 1) := by decide +kernel
theorem dX8_who_37 : decode cX8_who 37 = .ok (.aload_n 0, 1) := by decide +kernel
theorem dX8_who_38 : decode cX8_who 38 = .ok (.iload_n 3, 1) := by decide +kernel
theorem dX8_who_39 : decode cX8_who 39 = .ok (.iload 4, 2) := by decide +kernel
theorem dX8_who_41 : decode cX8_who 41 = .ok (.iload 5, 2) := by decide +kernel
theorem dX8_who_43 : decode cX8_who 43 = .ok (.invokevirtual 254, 3) := by decide +kernel
theorem dX8_who_46 : decode cX8_who 46 = .ok (.istore 6, 2) := by decide +kernel
theorem dX8_who_48 : decode cX8_who 48 = .ok (.iload 6, 2) := by decide +kernel
theorem dX8_who_50 : decode cX8_who 50 = .ok (.ifCond .eq 6, 3) := by decide +kernel
theorem dX8_who_53 : decode cX8_who 53 = .ok (.iload 6, 2) := by decide +kernel
theorem dX8_who_55 : decode cX8_who 55 = .ok (.ireturn, 1) := by decide +kernel
theorem dX8_who_56 : decode cX8_who 56 = .ok (.iconst 0, 1) := by decide +kernel
theorem dX8_who_57 : decode cX8_who 57 = .ok (.istore 7, 2) := by decide +kernel
theorem dX8_who_59 : decode cX8_who 59 = .ok (.iconst 0, 1) := by decide +kernel
theorem dX8_who_60 : decode cX8_who 60 = .ok (.istore 8, 2) := by decide +kernel
theorem dX8_who_62 : decode cX8_who 62 = .ok (.ldc 93, 2) := by decide +kernel
theorem dX8_who_64 : decode cX8_who 64 = .ok (.istore 9, 2) := by decide +kernel
theorem dX8_who_66 : decode cX8_who 66 = .ok (.ldc 93, 2) := by decide +kernel
theorem dX8_who_68 : decode cX8_who 68 = .ok (.istore 10, 2) := by decide +kernel
theorem dX8_who_70 : decode cX8_who 70 = .ok (.iload_n 2, 1) := by decide +kernel
theorem dX8_who_71 : decode cX8_who 71 = .ok (.ifCond .ne 7, 3) := by decide +kernel
theorem dX8_who_74 : decode cX8_who 74 = .ok (.iconst 5, 1) := by decide +kernel
theorem dX8_who_75 : decode cX8_who 75 = .ok (.goto 15, 3) := by decide +kernel
theorem dX8_who_78 : decode cX8_who 78 = .ok (.iload_n 2, 1) := by decide +kernel
theorem dX8_who_79 : decode cX8_who 79 = .ok (.iconst 1, 1) := by decide +kernel
theorem dX8_who_80 : decode cX8_who 80 = .ok (.if_icmp .ne 8, 3) := by decide +kernel
theorem dX8_who_83 : decode cX8_who 83 = .ok (.bipush 9, 2) := by decide +kernel
theorem dX8_who_85 : decode cX8_who 85 = .ok (.goto 5, 3) := by decide +kernel
theorem dX8_who_88 : decode cX8_who 88 = .ok (.bipush 60, 2) := by decide +kernel
theorem dX8_who_90 : decode cX8_who 90 = .ok (.istore 11, 2) := by decide +kernel
theorem dX8_who_92 : decode cX8_who 92 = .ok (.iload_n 2, 1) := by decide +kernel
theorem dX8_who_93 : decode cX8_who 93 = .ok (.iconst 1, 1) := by decide +kernel
theorem dX8_who_94 : decode cX8_who 94 = .ok (.if_icmp .ne 7, 3) := by decide +kernel
theorem dX8_who_97 : decode cX8_who 97 = .ok (.iconst 0, 1) := by decide +kernel
theorem dX8_who_98 : decode cX8_who 98 = .ok (.goto 4, 3) := by decide +kernel
theorem dX8_who_101 : decode cX8_who 101 = .ok (.iconst 1, 1) := by decide +kernel
theorem dX8_who_102 : decode cX8_who 102 = .ok (.istore 12, 2) := by decide +kernel
theorem dX8_who_104 : decode cX8_who 104 = .ok (.iload 12, 2) := by decide +kernel
theorem dX8_who_106 : decode cX8_who 106 = .ok (.iload 11, 2) := by decide +kernel
theorem dX8_who_108 : decode cX8_who 108 = .ok (.if_icmp .gt 97, 3) := by decide +kernel
theorem dX8_who_111 : decode cX8_who 111 = .ok (.aload_n 0, 1) := by decide +kernel
theorem dX8_who_112 : decode cX8_who 112 = .ok (.invokevirtual 232, 3) := by decide +kernel
theorem dX8_who_115 : decode cX8_who 115 = .ok (.aload_n 0, 1) := by decide +kernel
theorem dX8_who_116 : decode cX8_who 116 = .ok (.getfield 25, 3) := by decide +kernel
theorem dX8_who_119 : decode cX8_who 119 = .ok (.iload_n 1, 1) := by decide +kernel
theorem dX8_who_120 : decode cX8_who 120 = .ok (.iload_n 2, 1) := by decide +kernel
theorem dX8_who_121 : decode cX8_who 121 = .ok (.ifCond .ne 7, 3) := by decide +kernel
theorem dX8_who_124 : decode cX8_who 124 = .ok (.iconst 0, 1) := by decide +kernel
theorem dX8_who_125 : decode cX8_who 125 = .ok (.goto 13, 3) := by decide +kernel
theorem dX8_who_128 : decode cX8_who 128 = .ok (.iload_n 2, 1) := by decide +kernel
theorem dX8_who_129 : decode cX8_who 129 = .ok (.iconst 1, 1) := by decide +kernel
theorem dX8_who_130 : decode cX8_who 130 = .ok (.if_icmp .ne 7, 3) := by decide +kernel
theorem dX8_who_133 : decode cX8_who 133 = .ok (.iconst 1, 1) := by decide +kernel
theorem dX8_who_134 : decode cX8_who 134 = .ok (.goto 4, 3) := by decide +kernel
theorem dX8_who_137 : decode cX8_who 137 = .ok (.iconst 2, 1) := by decide +kernel
theorem dX8_who_138 : decode cX8_who 138 = .ok (.iload 12, 2) := by decide +kernel
theorem dX8_who_140 : decode cX8_who 140 = .ok (.invokestatic 170, 3) := by decide +kernel
theorem dX8_who_143 : decode cX8_who 143 = .ok (.aload_n 0, 1) := by decide +kernel
theorem dX8_who_144 : decode cX8_who 144 = .ok (.iload_n 1, 1) := by decide +kernel
theorem dX8_who_145 : decode cX8_who 145 = .ok (.bipush 40, 2) := by decide +kernel
theorem dX8_who_147 : decode cX8_who 147 = .ok (.iload_n 3, 1) := by decide +kernel
theorem dX8_who_148 : decode cX8_who 148 = .ok (.imul, 1) := by decide +kernel
theorem dX8_who_149 : decode cX8_who 149 = .ok (.iload 4, 2) := by decide +kernel
theorem dX8_who_151 : decode cX8_who 151 = .ok (.iadd, 1) := by decide +kernel
theorem dX8_who_152 : decode cX8_who 152 = .ok (.iload 5, 2) := by decide +kernel
theorem dX8_who_154 : decode cX8_who 154 = .ok (.invokevirtual 258, 3) := by decide +kernel
theorem dX8_who_157 : decode cX8_who 157 = .ok (.ifCond .eq 42, 3) := by decide +kernel
theorem dX8_who_160 : decode cX8_who 160 = .ok (.iload 7, 2) := by decide +kernel
theorem dX8_who_162 : decode cX8_who 162 = .ok (.iload_n 2, 1) := by decide +kernel
theorem dX8_who_163 : decode cX8_who 163 = .ok (.iconst 2, 1) := by decide +kernel
theorem dX8_who_164 : decode cX8_who 164 = .ok (.if_icmp .ge 10, 3) := by decide +kernel
theorem dX8_who_167 : decode cX8_who 167 = .ok (.iconst 1, 1) := by decide +kernel
theorem dX8_who_168 : decode cX8_who 168 = .ok (.iload 12, 2) := by decide +kernel
theorem dX8_who_170 : decode cX8_who 170 = .ok (.ishl, 1) := by decide +kernel
theorem dX8_who_171 : decode cX8_who 171 = .ok (.goto 4, 3) := by decide +kernel
theorem dX8_who_174 : decode cX8_who 174 = .ok (.iconst 0, 1) := by decide +kernel
theorem dX8_who_175 : decode cX8_who 175 = .ok (.ior, 1) := by decide +kernel
theorem dX8_who_176 : decode cX8_who 176 = .ok (.istore 7, 2) := by decide +kernel
theorem dX8_who_178 : decode cX8_who 178 = .ok (.iload 8, 2) := by decide +kernel
theorem dX8_who_180 : decode cX8_who 180 = .ok (.ifCond .ne 8, 3) := by decide +kernel
theorem dX8_who_183 : decode cX8_who 183 = .ok (.iload 12, 2) := by decide +kernel
theorem dX8_who_185 : decode cX8_who 185 = .ok (.goto 5, 3) := by decide +kernel
theorem dX8_who_188 : decode cX8_who 188 = .ok (.iload 9, 2) := by decide +kernel
theorem dX8_who_190 : decode cX8_who 190 = .ok (.istore 9, 2) := by decide +kernel
theorem dX8_who_192 : decode cX8_who 192 = .ok (.iload 12, 2) := by decide +kernel
theorem dX8_who_194 : decode cX8_who 194 = .ok (.istore 10, 2) := by decide +kernel
theorem dX8_who_196 : decode cX8_who 196 = .ok (.iinc 8 1, 3) := by decide +kernel
theorem dX8_who_199 : decode cX8_who 199 = .ok (.iinc 12 1, 3) := by decide +kernel
theorem dX8_who_202 : decode cX8_who 202 = .ok (.goto (-98), 3) := by decide +kernel
theorem dX8_who_205 : decode cX8_who 205 = .ok (.iload_n 2, 1) := by decide +kernel
theorem dX8_who_206 : decode cX8_who 206 = .ok (.iconst 2, 1) := by decide +kernel
theorem dX8_who_207 : decode cX8_who 207 = .ok (.if_icmp .ge 8, 3) := by decide +kernel
theorem dX8_who_210 : decode cX8_who 210 = .ok (.iload 7, 2) := by decide +kernel
theorem dX8_who_212 : decode cX8_who 212 = .ok (.goto 25, 3) := by decide +kernel
theorem dX8_who_215 : decode cX8_who 215 = .ok (.iload_n 2, 1) := by decide +kernel
theorem dX8_who_216 : decode cX8_who 216 = .ok (.iconst 2, 1) := by decide +kernel
theorem dX8_who_217 : decode cX8_who 217 = .ok (.if_icmp .ne 8, 3) := by decide +kernel
theorem dX8_who_220 : decode cX8_who 220 = .ok (.iload 8, 2) := by decide +kernel
theorem dX8_who_222 : decode cX8_who 222 = .ok (.goto 15, 3) := by decide +kernel
theorem dX8_who_225 : decode cX8_who 225 = .ok (.iload_n 2, 1) := by decide +kernel
theorem dX8_who_226 : decode cX8_who 226 = .ok (.iconst 3, 1) := by decide +kernel
theorem dX8_who_227 : decode cX8_who 227 = .ok (.if_icmp .ne 8, 3) := by decide +kernel
theorem dX8_who_230 : decode cX8_who 230 = .ok (.iload 9, 2) := by decide +kernel
theorem dX8_who_232 : decode cX8_who 232 = .ok (.goto 5, 3) := by decide +kernel
theorem dX8_who_235 : decode cX8_who 235 = .ok (.iload 10, 2) := by decide +kernel
theorem dX8_who_237 : decode cX8_who 237 = .ok (.ireturn, 1) := by decide +kernel
theorem dX8_winds_0 : decode cX8_winds 0 = .ok (.aload_n 0, 1) := by decide +kernel
theorem dX8_winds_1 : decode cX8_winds 1 = .ok (.iconst 0, 1) := by decide +kernel
theorem dX8_winds_2 : decode cX8_winds 2 = .ok (.putfield 50, 3) := by decide +kernel
theorem dX8_winds_5 : decode cX8_winds 5 = .ok (.aload_n 0, 1) := by decide +kernel
theorem dX8_winds_6 : decode cX8_winds 6 = .ok (.iload_n 1, 1) := by decide +kernel
theorem dX8_winds_7 : decode cX8_winds 7 = .ok (.invokevirtual 208, 3) := by decide +kernel
theorem dX8_winds_10 : decode cX8_winds 10 = .ok (.ifCond .eq 30, 3) := by decide +kernel
theorem dX8_winds_13 : decode cX8_winds 13 = .ok (.iload_n 2, 1) := by decide +kernel
theorem dX8_winds_14 : decode cX8_winds 14 = .ok (.i2l, 1) := by decide +kernel
theorem dX8_winds_15 : decode cX8_winds 15 = .ok (.lconst 0, 1) := by decide +kernel
theorem dX8_winds_16 : decode cX8_winds 16 = .ok (.aload_n 0, 1) := by decide +kernel
theorem dX8_winds_17 : decode cX8_winds 17 = .ok (.getfield 19, 3) := by decide +kernel
theorem dX8_winds_20 : decode cX8_winds 20 = .ok (.iconst 1, 1) := by decide +kernel
theorem dX8_winds_21 : decode cX8_winds 21 = .ok (.iaload, 1) := by decide +kernel
theorem dX8_winds_22 : decode cX8_winds 22 = .ok (.iconst 1, 1) := by decide +kernel
theorem dX8_winds_23 : decode cX8_winds 23 = .ok (.isub, 1) := by decide +kernel
theorem dX8_winds_24 : decode cX8_winds 24 = .ok (.i2l, 1) := by decide +kernel
theorem dX8_winds_25 : decode cX8_winds 25 = .ok (.invokestatic 60, 3) := by decide +kernel
theorem dX8_winds_28 : decode cX8_winds 28 = .ok (.ifCond .eq 12, 3) := by decide +kernel
theorem dX8_winds_31 : decode cX8_winds 31 = .ok (.iload_n 3, 1) := by decide +kernel
theorem dX8_winds_32 : decode cX8_winds 32 = .ok (.iload 5, 2) := by decide +kernel
theorem dX8_winds_34 : decode cX8_winds 34 = .ok (.invokestatic 251, 3) := by decide +kernel
theorem dX8_winds_37 : decode cX8_winds 37 = .ok (.ifCond .ne 6, 3) := by decide +kernel
theorem dX8_winds_40 : decode cX8_winds 40 = .ok (.ldc 70, 2) := by decide +kernel
theorem dX8_winds_42 : decode cX8_winds 42 = .ok (.ireturn, 1) := by decide +kernel
theorem dX8_winds_43 : decode cX8_winds 43 = .ok (.aload_n 0, 1) := by decide +kernel
theorem dX8_winds_44 : decode cX8_winds 44 = .ok (.iload_n 3, 1) := by decide +kernel
theorem dX8_winds_45 : decode cX8_winds 45 = .ok (.iload 4, 2) := by decide +kernel
theorem dX8_winds_47 : decode cX8_winds 47 = .ok (.iload 5, 2) := by decide +kernel
theorem dX8_winds_49 : decode cX8_winds 49 = .ok (.invokevirtual 254, 3) := by decide +kernel
theorem dX8_winds_52 : decode cX8_winds 52 = .ok (.istore 6, 2) := by decide +kernel
theorem dX8_winds_54 : decode cX8_winds 54 = .ok (.iload 6, 2) := by decide +kernel
theorem dX8_winds_56 : decode cX8_winds 56 = .ok (.ifCond .eq 6, 3) := by decide +kernel
theorem dX8_winds_59 : decode cX8_winds 59 = .ok (.iload 6, 2) := by decide +kernel
theorem dX8_winds_61 : decode cX8_winds 61 = .ok (.ireturn, 1) := by decide +kernel
theorem dX8_winds_62 : decode cX8_winds 62 = .ok (.iconst 0, 1) := by decide +kernel
theorem dX8_winds_63 : decode cX8_winds 63 = .ok (.istore 7, 2) := by decide +kernel
theorem dX8_winds_65 : decode cX8_winds 65 = .ok (.iconst 0, 1) := by decide +kernel
theorem dX8_winds_66 : decode cX8_winds 66 = .ok (.istore 8, 2) := by decide +kernel
theorem dX8_winds_68 : decode cX8_winds 68 = .ok (.iload 8, 2) := by decide +kernel
theorem dX8_winds_70 : decode cX8_winds 70 = .ok (.bipush 10, 2) := by decide +kernel
theorem dX8_winds_72 : decode cX8_winds 72 = .ok (.if_icmp .ge 53, 3) := by decide +kernel
theorem dX8_winds_75 : decode cX8_winds 75 = .ok (.aload_n 0, 1) := by decide +kernel
theorem dX8_winds_76 : decode cX8_winds 76 = .ok (.invokevirtual 232, 3) := by decide +kernel
theorem dX8_winds_79 : decode cX8_winds 79 = .ok (.aload_n 0, 1) := by decide +kernel
theorem dX8_winds_80 : decode cX8_winds 80 = .ok (.getfield 25, 3) := by decide +kernel
theorem dX8_winds_83 : decode cX8_winds 83 = .ok (.iconst 5, 1) := by decide +kernel
theorem dX8_winds_84 : decode cX8_winds 84 = .ok (.iload_n 2, 1) := by decide +kernel
theorem dX8_winds_85 : decode cX8_winds 85 = .ok (.iadd, 1) := by decide +kernel
theorem dX8_winds_86 : decode cX8_winds 86 = .ok (.iload 8, 2) := by decide +kernel
theorem dX8_winds_88 : decode cX8_winds 88 = .ok (.iastore, 1) := by decide +kernel
theorem dX8_winds_89 : decode cX8_winds 89 = .ok (.iload 7, 2) := by decide +kernel
theorem dX8_winds_91 : decode cX8_winds 91 = .ok (.aload_n 0, 1) := by decide +kernel
theorem dX8_winds_92 : decode cX8_winds 92 = .ok (.iload_n 1, 1) := by decide +kernel
theorem dX8_winds_93 : decode cX8_winds 93 = .ok (.bipush 40, 2) := by decide +kernel
theorem dX8_winds_95 : decode cX8_winds 95 = .ok (.iload_n 3, 1) := by decide +kernel
theorem dX8_winds_96 : decode cX8_winds 96 = .ok (.imul, 1) := by decide +kernel
theorem dX8_winds_97 : decode cX8_winds 97 = .ok (.iload 4, 2) := by decide +kernel
theorem dX8_winds_99 : decode cX8_winds 99 = .ok (.iadd, 1) := by decide +kernel
theorem dX8_winds_100 : decode cX8_winds 100 = .ok (.iload 5, 2) := by decide +kernel
theorem dX8_winds_102 : decode cX8_winds 102 = .ok (.invokevirtual 258, 3) := by decide +kernel
theorem dX8_winds_105 : decode cX8_winds 105 = .ok (.ifCond .eq 10, 3) := by decide +kernel
theorem dX8_winds_108 : decode cX8_winds 108 = .ok (.iconst 1, 1) := by decide +kernel
theorem dX8_winds_109 : decode cX8_winds 109 = .ok (.iload 8, 2) := by decide +kernel
theorem dX8_winds_111 : decode cX8_winds 111 = .ok (.ishl, 1) := by decide +kernel
theorem dX8_winds_112 : decode cX8_winds 112 = .ok (.goto 4, 3) := by decide +kernel
theorem dX8_winds_115 : decode cX8_winds 115 = .ok (.iconst 0, 1) := by decide +kernel
theorem dX8_winds_116 : decode cX8_winds 116 = .ok (.ior, 1) := by decide +kernel
theorem dX8_winds_117 : decode cX8_winds 117 = .ok (.istore 7, 2) := by decide +kernel
theorem dX8_winds_119 : decode cX8_winds 119 = .ok (.iinc 8 1, 3) := by decide +kernel
theorem dX8_winds_122 : decode cX8_winds 122 = .ok (.goto (-54), 3) := by decide +kernel
theorem dX8_winds_125 : decode cX8_winds 125 = .ok (.iload 7, 2) := by decide +kernel
theorem dX8_winds_127 : decode cX8_winds 127 = .ok (.ireturn, 1) := by decide +kernel
theorem dX8_tapes_0 : decode cX8_tapes 0 = .ok (.aload_n 0, 1) := by decide +kernel
theorem dX8_tapes_1 : decode cX8_tapes 1 = .ok (.iconst 0, 1) := by decide +kernel
theorem dX8_tapes_2 : decode cX8_tapes 2 = .ok (.putfield 50, 3) := by decide +kernel
theorem dX8_tapes_5 : decode cX8_tapes 5 = .ok (.aload_n 0, 1) := by decide +kernel
theorem dX8_tapes_6 : decode cX8_tapes 6 = .ok (.iload_n 1, 1) := by decide +kernel
theorem dX8_tapes_7 : decode cX8_tapes 7 = .ok (.invokevirtual 208, 3) := by decide +kernel
theorem dX8_tapes_10 : decode cX8_tapes 10 = .ok (.ifCond .eq 22, 3) := by decide +kernel
theorem dX8_tapes_13 : decode cX8_tapes 13 = .ok (.iload_n 2, 1) := by decide +kernel
theorem dX8_tapes_14 : decode cX8_tapes 14 = .ok (.i2l, 1) := by decide +kernel
theorem dX8_tapes_15 : decode cX8_tapes 15 = .ok (.lconst 0, 1) := by decide +kernel
theorem dX8_tapes_16 : decode cX8_tapes 16 = .ok (.lconst 1, 1) := by decide +kernel
theorem dX8_tapes_17 : decode cX8_tapes 17 = .ok (.invokestatic 60, 3) := by decide +kernel
theorem dX8_tapes_20 : decode cX8_tapes 20 = .ok (.ifCond .eq 12, 3) := by decide +kernel
theorem dX8_tapes_23 : decode cX8_tapes 23 = .ok (.iload_n 3, 1) := by decide +kernel
theorem dX8_tapes_24 : decode cX8_tapes 24 = .ok (.iload 5, 2) := by decide +kernel
theorem dX8_tapes_26 : decode cX8_tapes 26 = .ok (.invokestatic 251, 3) := by decide +kernel
theorem dX8_tapes_29 : decode cX8_tapes 29 = .ok (.ifCond .ne 6, 3) := by decide +kernel
theorem dX8_tapes_32 : decode cX8_tapes 32 = .ok (.ldc 70, 2) := by decide +kernel
theorem dX8_tapes_34 : decode cX8_tapes 34 = .ok (.ireturn, 1) := by decide +kernel
theorem dX8_tapes_35 : decode cX8_tapes 35 = .ok (.aload_n 0, 1) := by decide +kernel
theorem dX8_tapes_36 : decode cX8_tapes 36 = .ok (.iload_n 3, 1) := by decide +kernel
theorem dX8_tapes_37 : decode cX8_tapes 37 = .ok (.iload 4, 2) := by decide +kernel
theorem dX8_tapes_39 : decode cX8_tapes 39 = .ok (.iload 5, 2) := by decide +kernel
theorem dX8_tapes_41 : decode cX8_tapes 41 = .ok (.invokevirtual 254, 3) := by decide +kernel
theorem dX8_tapes_44 : decode cX8_tapes 44 = .ok (.istore 6, 2) := by decide +kernel
theorem dX8_tapes_46 : decode cX8_tapes 46 = .ok (.iload 6, 2) := by decide +kernel
theorem dX8_tapes_48 : decode cX8_tapes 48 = .ok (.ifCond .eq 6, 3) := by decide +kernel
theorem dX8_tapes_51 : decode cX8_tapes 51 = .ok (.iload 6, 2) := by decide +kernel
theorem dX8_tapes_53 : decode cX8_tapes 53 = .ok (.ireturn, 1) := by decide +kernel
theorem dX8_tapes_54 : decode cX8_tapes 54 = .ok (.iconst 0, 1) := by decide +kernel
theorem dX8_tapes_55 : decode cX8_tapes 55 = .ok (.istore 7, 2) := by decide +kernel
theorem dX8_tapes_57 : decode cX8_tapes 57 = .ok (.ldc 93, 2) := by decide +kernel
theorem dX8_tapes_59 : decode cX8_tapes 59 = .ok (.istore 8, 2) := by decide +kernel
theorem dX8_tapes_61 : decode cX8_tapes 61 = .ok (.bipush 99, 2) := by decide +kernel
theorem dX8_tapes_63 : decode cX8_tapes 63 = .ok (.istore 9, 2) := by decide +kernel
theorem dX8_tapes_65 : decode cX8_tapes 65 = .ok (.iload 9, 2) := by decide +kernel
theorem dX8_tapes_67 : decode cX8_tapes 67 = .ok (.ifCond .le 45, 3) := by decide +kernel
theorem dX8_tapes_70 : decode cX8_tapes 70 = .ok (.aload_n 0, 1) := by decide +kernel
theorem dX8_tapes_71 : decode cX8_tapes 71 = .ok (.invokevirtual 232, 3) := by decide +kernel
theorem dX8_tapes_74 : decode cX8_tapes 74 = .ok (.aload_n 0, 1) := by decide +kernel
theorem dX8_tapes_75 : decode cX8_tapes 75 = .ok (.getfield 25, 3) := by decide +kernel
theorem dX8_tapes_78 : decode cX8_tapes 78 = .ok (.iconst 3, 1) := by decide +kernel
theorem dX8_tapes_79 : decode cX8_tapes 79 = .ok (.iload 9, 2) := by decide +kernel
theorem dX8_tapes_81 : decode cX8_tapes 81 = .ok (.iastore, 1) := by decide +kernel
theorem dX8_tapes_82 : decode cX8_tapes 82 = .ok (.aload_n 0, 1) := by decide +kernel
theorem dX8_tapes_83 : decode cX8_tapes 83 = .ok (.iload_n 1, 1) := by decide +kernel
theorem dX8_tapes_84 : decode cX8_tapes 84 = .ok (.bipush 40, 2) := by decide +kernel
theorem dX8_tapes_86 : decode cX8_tapes 86 = .ok (.iload_n 3, 1) := by decide +kernel
theorem dX8_tapes_87 : decode cX8_tapes 87 = .ok (.imul, 1) := by decide +kernel
theorem dX8_tapes_88 : decode cX8_tapes 88 = .ok (.iload 4, 2) := by decide +kernel
theorem dX8_tapes_90 : decode cX8_tapes 90 = .ok (.iadd, 1) := by decide +kernel
theorem dX8_tapes_91 : decode cX8_tapes 91 = .ok (.iload 5, 2) := by decide +kernel
theorem dX8_tapes_93 : decode cX8_tapes 93 = .ok (.invokevirtual 258, 3) := by decide +kernel
theorem dX8_tapes_96 : decode cX8_tapes 96 = .ok (.ifCond .eq 10, 3) := by decide +kernel
theorem dX8_tapes_99 : decode cX8_tapes 99 = .ok (.iinc 7 1, 3) := by decide +kernel
theorem dX8_tapes_102 : decode cX8_tapes 102 = .ok (.iload 9, 2) := by decide +kernel
theorem dX8_tapes_104 : decode cX8_tapes 104 = .ok (.istore 8, 2) := by decide +kernel
theorem dX8_tapes_106 : decode cX8_tapes 106 = .ok (.iinc 9 (-1), 3) := by decide +kernel
theorem dX8_tapes_109 : decode cX8_tapes 109 = .ok (.goto (-44), 3) := by decide +kernel
theorem dX8_tapes_112 : decode cX8_tapes 112 = .ok (.iload_n 2, 1) := by decide +kernel
theorem dX8_tapes_113 : decode cX8_tapes 113 = .ok (.ifCond .ne 8, 3) := by decide +kernel
theorem dX8_tapes_116 : decode cX8_tapes 116 = .ok (.iload 7, 2) := by decide +kernel
theorem dX8_tapes_118 : decode cX8_tapes 118 = .ok (.goto 5, 3) := by decide +kernel
theorem dX8_tapes_121 : decode cX8_tapes 121 = .ok (.iload 8, 2) := by decide +kernel
theorem dX8_tapes_123 : decode cX8_tapes 123 = .ok (.ireturn, 1) := by decide +kernel
theorem dX8_calm_0 : decode cX8_calm 0 = .ok (.aload_n 0, 1) := by decide +kernel
theorem dX8_calm_1 : decode cX8_calm 1 = .ok (.iconst 0, 1) := by decide +kernel
theorem dX8_calm_2 : decode cX8_calm 2 = .ok (.putfield 50, 3) := by decide +kernel
theorem dX8_calm_5 : decode cX8_calm 5 = .ok (.aload_n 0, 1) := by decide +kernel
theorem dX8_calm_6 : decode cX8_calm 6 = .ok (.iload_n 1, 1) := by decide +kernel
theorem dX8_calm_7 : decode cX8_calm 7 = .ok (.invokevirtual 208, 3) := by decide +kernel
theorem dX8_calm_10 : decode cX8_calm 10 = .ok (.ifCond .eq 38, 3) := by decide +kernel
theorem dX8_calm_13 : decode cX8_calm 13 = .ok (.iload_n 2, 1) := by decide +kernel
theorem dX8_calm_14 : decode cX8_calm 14 = .ok (.i2l, 1) := by decide +kernel
theorem dX8_calm_15 : decode cX8_calm 15 = .ok (.lconst 0, 1) := by decide +kernel
theorem dX8_calm_16 : decode cX8_calm 16 = .ok (.ldc2_w 262, 3) := by decide +kernel
theorem dX8_calm_19 : decode cX8_calm 19 = .ok (.invokestatic 60, 3) := by decide +kernel
theorem dX8_calm_22 : decode cX8_calm 22 = .ok (.ifCond .eq 26, 3) := by decide +kernel
theorem dX8_calm_25 : decode cX8_calm 25 = .ok (.iload_n 3, 1) := by decide +kernel
theorem dX8_calm_26 : decode cX8_calm 26 = .ok (.i2l, 1) := by decide +kernel
theorem dX8_calm_27 : decode cX8_calm 27 = .ok (.lconst 0, 1) := by decide +kernel
theorem dX8_calm_28 : decode cX8_calm 28 = .ok (.ldc2_w 264, 3) := by decide +kernel
theorem dX8_calm_31 : decode cX8_calm 31 = .ok (.invokestatic 60, 3) := by decide +kernel
theorem dX8_calm_34 : decode cX8_calm 34 = .ok (.ifCond .eq 14, 3) := by decide +kernel
theorem dX8_calm_37 : decode cX8_calm 37 = .ok (.iload 4, 2) := by decide +kernel
theorem dX8_calm_39 : decode cX8_calm 39 = .ok (.i2l, 1) := by decide +kernel
theorem dX8_calm_40 : decode cX8_calm 40 = .ok (.lconst 0, 1) := by decide +kernel
theorem dX8_calm_41 : decode cX8_calm 41 = .ok (.lconst 1, 1) := by decide +kernel
theorem dX8_calm_42 : decode cX8_calm 42 = .ok (.invokestatic 60, 3) := by decide +kernel
theorem dX8_calm_45 : decode cX8_calm 45 = .ok (.ifCond .ne 7, 3) := by decide +kernel
theorem dX8_calm_48 : decode cX8_calm 48 = .ok (.ldc2_w 266, 3) := by decide +kernel
theorem dX8_calm_51 : decode cX8_calm 51 = .ok (.lreturn, 1) := by decide +kernel
theorem dX8_calm_52 : decode cX8_calm 52 = .ok (.lconst 0, 1) := by decide +kernel
theorem dX8_calm_53 : decode cX8_calm 53 = .ok (.lstore 5, 2) := by decide +kernel
theorem dX8_calm_55 : decode cX8_calm 55 = .ok (.lconst 0, 1) := by decide +kernel
theorem dX8_calm_56 : decode cX8_calm 56 = .ok (.lstore 7, 2) := by decide +kernel
theorem dX8_calm_58 : decode cX8_calm 58 = .ok (.iconst 0, 1) := by decide +kernel
theorem dX8_calm_59 : decode cX8_calm 59 = .ok (.istore 9, 2) := by decide +kernel
theorem dX8_calm_61 : decode cX8_calm 61 = .ok (.iload 9, 2) := by decide +kernel
theorem dX8_calm_63 : decode cX8_calm 63 = .ok (.iconst 1, 1) := by decide +kernel
theorem dX8_calm_64 : decode cX8_calm 64 = .ok (.iload_n 2, 1) := by decide +kernel
theorem dX8_calm_65 : decode cX8_calm 65 = .ok (.ishl, 1) := by decide +kernel
theorem dX8_calm_66 : decode cX8_calm 66 = .ok (.if_icmp .ge 123, 3) := by decide +kernel
theorem dX8_calm_69 : decode cX8_calm 69 = .ok (.lconst 1, 1) := by decide +kernel
theorem dX8_calm_70 : decode cX8_calm 70 = .ok (.lstore 10, 2) := by decide +kernel
theorem dX8_calm_72 : decode cX8_calm 72 = .ok (.aload_n 0, 1) := by decide +kernel
theorem dX8_calm_73 : decode cX8_calm 73 = .ok (.invokevirtual 232, 3) := by decide +kernel
theorem dX8_calm_76 : decode cX8_calm 76 = .ok (.iconst 0, 1) := by decide +kernel
theorem dX8_calm_77 : decode cX8_calm 77 = .ok (.istore 12, 2) := by decide +kernel
theorem dX8_calm_79 : decode cX8_calm 79 = .ok (.iload 12, 2) := by decide +kernel
theorem dX8_calm_81 : decode cX8_calm 81 = .ok (.iload_n 2, 1) := by decide +kernel
theorem dX8_calm_82 : decode cX8_calm 82 = .ok (.if_icmp .ge 72, 3) := by decide +kernel
theorem dX8_calm_85 : decode cX8_calm 85 = .ok (.lload 10, 2) := by decide +kernel
theorem dX8_calm_87 : decode cX8_calm 87 = .ok (.iload 9, 2) := by decide +kernel
theorem dX8_calm_89 : decode cX8_calm 89 = .ok (.iload 12, 2) := by decide +kernel
theorem dX8_calm_91 : decode cX8_calm 91 = .ok (.ishr, 1) := by decide +kernel
theorem dX8_calm_92 : decode cX8_calm 92 = .ok (.iconst 1, 1) := by decide +kernel
theorem dX8_calm_93 : decode cX8_calm 93 = .ok (.iand, 1) := by decide +kernel
theorem dX8_calm_94 : decode cX8_calm 94 = .ok (.iconst 1, 1) := by decide +kernel
theorem dX8_calm_95 : decode cX8_calm 95 = .ok (.if_icmp .ne 8, 3) := by decide +kernel
theorem dX8_calm_98 : decode cX8_calm 98 = .ok (.iload_n 3, 1) := by decide +kernel
theorem dX8_calm_99 : decode cX8_calm 99 = .ok (.i2l, 1) := by decide +kernel
theorem dX8_calm_100 : decode cX8_calm 100 = .ok (.goto 9, 3) := by decide +kernel
theorem dX8_calm_103 : decode cX8_calm 103 = .ok (.ldc2_w 264, 3) := by decide +kernel
theorem dX8_calm_106 : decode cX8_calm 106 = .ok (.iload_n 3, 1) := by decide +kernel
theorem dX8_calm_107 : decode cX8_calm 107 = .ok (.i2l, 1) := by decide +kernel
theorem dX8_calm_108 : decode cX8_calm 108 = .ok (.lsub, 1) := by decide +kernel
theorem dX8_calm_109 : decode cX8_calm 109 = .ok (.lmul, 1) := by decide +kernel
theorem dX8_calm_110 : decode cX8_calm 110 = .ok (.lstore 10, 2) := by decide +kernel
theorem dX8_calm_112 : decode cX8_calm 112 = .ok (.aload_n 0, 1) := by decide +kernel
theorem dX8_calm_113 : decode cX8_calm 113 = .ok (.aload_n 0, 1) := by decide +kernel
theorem dX8_calm_114 : decode cX8_calm 114 = .ok (.getfield 25, 3) := by decide +kernel
theorem dX8_calm_117 : decode cX8_calm 117 = .ok (.iload 9, 2) := by decide +kernel
theorem dX8_calm_119 : decode cX8_calm 119 = .ok (.iload 12, 2) := by decide +kernel
theorem dX8_calm_121 : decode cX8_calm 121 = .ok (.ishr, 1) := by decide +kernel
theorem dX8_calm_122 : decode cX8_calm 122 = .ok (.iconst 1, 1) := by decide +kernel
theorem dX8_calm_123 : decode cX8_calm 123 = .ok (.iand, 1) := by decide +kernel
theorem dX8_calm_124 : decode cX8_calm 124 = .ok (.iconst 1, 1) := by decide +kernel
theorem dX8_calm_125 : decode cX8_calm 125 = .ok (.if_icmp .ne 7, 3) := by decide +kernel
theorem dX8_calm_128 : decode cX8_calm 128 = .ok (.iconst 0, 1) := by decide +kernel
theorem dX8_calm_129 : decode cX8_calm 129 = .ok (.goto 16, 3) := by decide +kernel
theorem dX8_calm_132 : decode cX8_calm 132 = .ok (.aload_n 0, 1) := by decide +kernel
theorem dX8_calm_133 : decode cX8_calm 133 = .ok (.getfield 25, 3) := by decide +kernel
theorem dX8_calm_136 : decode cX8_calm 136 = .ok (.aload_n 0, 1) := by decide +kernel
theorem dX8_calm_137 : decode cX8_calm 137 = .ok (.getfield 25, 3) := by decide +kernel
theorem dX8_calm_140 : decode cX8_calm 140 = .ok (.iconst 4, 1) := by decide +kernel
theorem dX8_calm_141 : decode cX8_calm 141 = .ok (.iaload, 1) := by decide +kernel
theorem dX8_calm_142 : decode cX8_calm 142 = .ok (.invokestatic 180, 3) := by decide +kernel
theorem dX8_calm_145 : decode cX8_calm 145 = .ok (.invokevirtual 184, 3) := by decide +kernel
theorem dX8_calm_148 : decode cX8_calm 148 = .ok (.iinc 12 1, 3) := by decide +kernel
theorem dX8_calm_151 : decode cX8_calm 151 = .ok (.goto (-72), 3) := by decide +kernel
theorem dX8_calm_154 : decode cX8_calm 154 = .ok (.lload 7, 2) := by decide +kernel
theorem dX8_calm_156 : decode cX8_calm 156 = .ok (.lload 10, 2) := by decide +kernel
theorem dX8_calm_158 : decode cX8_calm 158 = .ok (.ladd, 1) := by decide +kernel
theorem dX8_calm_159 : decode cX8_calm 159 = .ok (.lstore 7, 2) := by decide +kernel
theorem dX8_calm_161 : decode cX8_calm 161 = .ok (.lload 5, 2) := by decide +kernel
theorem dX8_calm_163 : decode cX8_calm 163 = .ok (.aload_n 0, 1) := by decide +kernel
theorem dX8_calm_164 : decode cX8_calm 164 = .ok (.getfield 25, 3) := by decide +kernel
theorem dX8_calm_167 : decode cX8_calm 167 = .ok (.iload_n 1, 1) := by decide +kernel
theorem dX8_calm_168 : decode cX8_calm 168 = .ok (.invokestatic 192, 3) := by decide +kernel
theorem dX8_calm_171 : decode cX8_calm 171 = .ok (.ifCond .eq 8, 3) := by decide +kernel
theorem dX8_calm_174 : decode cX8_calm 174 = .ok (.lload 10, 2) := by decide +kernel
theorem dX8_calm_176 : decode cX8_calm 176 = .ok (.goto 4, 3) := by decide +kernel
theorem dX8_calm_179 : decode cX8_calm 179 = .ok (.lconst 0, 1) := by decide +kernel
theorem dX8_calm_180 : decode cX8_calm 180 = .ok (.ladd, 1) := by decide +kernel
theorem dX8_calm_181 : decode cX8_calm 181 = .ok (.lstore 5, 2) := by decide +kernel
theorem dX8_calm_183 : decode cX8_calm 183 = .ok (.iinc 9 1, 3) := by decide +kernel
theorem dX8_calm_186 : decode cX8_calm 186 = .ok (.goto (-125), 3) := by decide +kernel
theorem dX8_calm_189 : decode cX8_calm 189 = .ok (.lload 5, 2) := by decide +kernel
theorem dX8_calm_191 : decode cX8_calm 191 = .ok (.lstore 9, 2) := by decide +kernel
theorem dX8_calm_193 : decode cX8_calm 193 = .ok (.lload 7, 2) := by decide +kernel
theorem dX8_calm_195 : decode cX8_calm 195 = .ok (.lstore 11, 2) := by decide +kernel
theorem dX8_calm_197 : decode cX8_calm 197 = .ok (.lload 11, 2) := by decide +kernel
theorem dX8_calm_199 : decode cX8_calm 199 = .ok (.lconst 0, 1) := by decide +kernel
theorem dX8_calm_200 : decode cX8_calm 200 = .ok (.lcmp, 1) := by decide +kernel
theorem dX8_calm_201 : decode cX8_calm 201 = .ok (.ifCond .eq 21, 3) := by decide +kernel
theorem dX8_calm_204 : decode cX8_calm 204 = .ok (.lload 9, 2) := by decide +kernel
theorem dX8_calm_206 : decode cX8_calm 206 = .ok (.lload 11, 2) := by decide +kernel
theorem dX8_calm_208 : decode cX8_calm 208 = .ok (.lrem, 1) := by decide +kernel
theorem dX8_calm_209 : decode cX8_calm 209 = .ok (.lstore 13, 2) := by decide +kernel
theorem dX8_calm_211 : decode cX8_calm 211 = .ok (.lload 11, 2) := by decide +kernel
theorem dX8_calm_213 : decode cX8_calm 213 = .ok (.lstore 9, 2) := by decide +kernel
theorem dX8_calm_215 : decode cX8_calm 215 = .ok (.lload 13, 2) := by decide +kernel
theorem dX8_calm_217 : decode cX8_calm 217 = .ok (.lstore 11, 2) := by decide +kernel
theorem dX8_calm_219 : decode cX8_calm 219 = .ok (.goto (-22), 3) := by decide +kernel
theorem dX8_calm_222 : decode cX8_calm 222 = .ok (.iload 4, 2) := by decide +kernel
theorem dX8_calm_224 : decode cX8_calm 224 = .ok (.ifCond .ne 8, 3) := by decide +kernel
theorem dX8_calm_227 : decode cX8_calm 227 = .ok (.lload 5, 2) := by decide +kernel
theorem dX8_calm_229 : decode cX8_calm 229 = .ok (.goto 5, 3) := by decide +kernel
theorem dX8_calm_232 : decode cX8_calm 232 = .ok (.lload 7, 2) := by decide +kernel
theorem dX8_calm_234 : decode cX8_calm 234 = .ok (.lload 9, 2) := by decide +kernel
theorem dX8_calm_236 : decode cX8_calm 236 = .ok (.ldiv, 1) := by decide +kernel
theorem dX8_calm_237 : decode cX8_calm 237 = .ok (.lreturn, 1) := by decide +kernel
theorem dX8_drawn_0 : decode cX8_drawn 0 = .ok (.aload_n 0, 1) := by decide +kernel
theorem dX8_drawn_1 : decode cX8_drawn 1 = .ok (.iconst 0, 1) := by decide +kernel
theorem dX8_drawn_2 : decode cX8_drawn 2 = .ok (.putfield 50, 3) := by decide +kernel
theorem dX8_drawn_5 : decode cX8_drawn 5 = .ok (.aload_n 0, 1) := by decide +kernel
theorem dX8_drawn_6 : decode cX8_drawn 6 = .ok (.invokevirtual 195, 3) := by decide +kernel
theorem dX8_drawn_9 : decode cX8_drawn 9 = .ok (.ifCond .ne 6, 3) := by decide +kernel
theorem dX8_drawn_12 : decode cX8_drawn 12 = .ok (.ldc 198, 2) := by decide +kernel
theorem dX8_drawn_14 : decode cX8_drawn 14 = .ok (.ireturn, 1) := by decide +kernel
theorem dX8_drawn_15 : decode cX8_drawn 15 = .ok (.iload_n 1, 1) := by decide +kernel
theorem dX8_drawn_16 : decode cX8_drawn 16 = .ok (.i2l, 1) := by decide +kernel
theorem dX8_drawn_17 : decode cX8_drawn 17 = .ok (.lconst 0, 1) := by decide +kernel
theorem dX8_drawn_18 : decode cX8_drawn 18 = .ok (.ldc2_w 225, 3) := by decide +kernel
theorem dX8_drawn_21 : decode cX8_drawn 21 = .ok (.invokestatic 60, 3) := by decide +kernel
theorem dX8_drawn_24 : decode cX8_drawn 24 = .ok (.ifCond .eq 25, 3) := by decide +kernel
theorem dX8_drawn_27 : decode cX8_drawn 27 = .ok (.iload_n 2, 1) := by decide +kernel
theorem dX8_drawn_28 : decode cX8_drawn 28 = .ok (.i2l, 1) := by decide +kernel
theorem dX8_drawn_29 : decode cX8_drawn 29 = .ok (.lconst 1, 1) := by decide +kernel
theorem dX8_drawn_30 : decode cX8_drawn 30 = .ok (.ldc2_w 268, 3) := by decide +kernel
theorem dX8_drawn_33 : decode cX8_drawn 33 = .ok (.invokestatic 60, 3) := by decide +kernel
theorem dX8_drawn_36 : decode cX8_drawn 36 = .ok (.ifCond .eq 13, 3) := by decide +kernel
theorem dX8_drawn_39 : decode cX8_drawn 39 = .ok (.iload_n 3, 1) := by decide +kernel
theorem dX8_drawn_40 : decode cX8_drawn 40 = .ok (.i2l, 1) := by decide +kernel
theorem dX8_drawn_41 : decode cX8_drawn 41 = .ok (.lconst 0, 1) := by decide +kernel
theorem dX8_drawn_42 : decode cX8_drawn 42 = .ok (.lconst 1, 1) := by decide +kernel
theorem dX8_drawn_43 : decode cX8_drawn 43 = .ok (.invokestatic 60, 3) := by decide +kernel
theorem dX8_drawn_46 : decode cX8_drawn 46 = .ok (.ifCond .ne 6, 3) := by decide +kernel
theorem dX8_drawn_49 : decode cX8_drawn 49 = .ok (.ldc 70, 2) := by decide +kernel
theorem dX8_drawn_51 : decode cX8_drawn 51 = .ok (.ireturn, 1) := by decide +kernel
theorem dX8_drawn_52 : decode cX8_drawn 52 = .ok (.aload_n 0, 1) := by decide +kernel
theorem dX8_drawn_53 : decode cX8_drawn 53 = .ok (.invokevirtual 232, 3) := by decide +kernel
theorem dX8_drawn_56 : decode cX8_drawn 56 = .ok (.iload_n 2, 1) := by decide +kernel
theorem dX8_drawn_57 : decode cX8_drawn 57 = .ok (.i2l, 1) := by decide +kernel
theorem dX8_drawn_58 : decode cX8_drawn 58 = .ok (.lstore 4, 2) := by decide +kernel
theorem dX8_drawn_60 : decode cX8_drawn 60 = .ok (.iconst 0, 1) := by decide +kernel
theorem dX8_drawn_61 : decode cX8_drawn 61 = .ok (.istore 6, 2) := by decide +kernel
theorem dX8_drawn_63 : decode cX8_drawn 63 = .ok (.iload 6, 2) := by decide +kernel
theorem dX8_drawn_65 : decode cX8_drawn 65 = .ok (.iload_n 1, 1) := by decide +kernel
theorem dX8_drawn_66 : decode cX8_drawn 66 = .ok (.if_icmp .ge 143, 3) := by decide +kernel
theorem dX8_drawn_69 : decode cX8_drawn 69 = .ok (.lload 4, 2) := by decide +kernel
theorem dX8_drawn_71 : decode cX8_drawn 71 = .ok (.ldc2_w 270, 3) := by decide +kernel
theorem dX8_drawn_74 : decode cX8_drawn 74 = .ok (.lmul, 1) := by decide +kernel
theorem dX8_drawn_75 : decode cX8_drawn 75 = .ok (.ldc2_w 272, 3) := by decide +kernel
theorem dX8_drawn_78 : decode cX8_drawn 78 = .ok (.lrem, 1) := by decide +kernel
theorem dX8_drawn_79 : decode cX8_drawn 79 = .ok (.lstore 4, 2) := by decide +kernel
theorem dX8_drawn_81 : decode cX8_drawn 81 = .ok (.lload 4, 2) := by decide +kernel
theorem dX8_drawn_83 : decode cX8_drawn 83 = .ok (.aload_n 0, 1) := by decide +kernel
theorem dX8_drawn_84 : decode cX8_drawn 84 = .ok (.getfield 25, 3) := by decide +kernel
theorem dX8_drawn_87 : decode cX8_drawn 87 = .ok (.iconst 0, 1) := by decide +kernel
theorem dX8_drawn_88 : decode cX8_drawn 88 = .ok (.iaload, 1) := by decide +kernel
theorem dX8_drawn_89 : decode cX8_drawn 89 = .ok (.i2l, 1) := by decide +kernel
theorem dX8_drawn_90 : decode cX8_drawn 90 = .ok (.lrem, 1) := by decide +kernel
theorem dX8_drawn_91 : decode cX8_drawn 91 = .ok (.l2i, 1) := by decide +kernel
theorem dX8_drawn_92 : decode cX8_drawn 92 = .ok (.istore 7, 2) := by decide +kernel
theorem dX8_drawn_94 : decode cX8_drawn 94 = .ok (.aload_n 0, 1) := by decide +kernel
theorem dX8_drawn_95 : decode cX8_drawn 95 = .ok (.getfield 25, 3) := by decide +kernel
theorem dX8_drawn_98 : decode cX8_drawn 98 = .ok (.iload 7, 2) := by decide +kernel
theorem dX8_drawn_100 : decode cX8_drawn 100 = .ok (.iconst 3, 1) := by decide +kernel
theorem dX8_drawn_101 : decode cX8_drawn 101 = .ok (.invokestatic 155, 3) := by decide +kernel
theorem dX8_drawn_104 : decode cX8_drawn 104 = .ok (.ifCond .ne 24, 3) := by decide +kernel
theorem dX8_drawn_107 : decode cX8_drawn 107 = .ok (.aload_n 0, 1) := by decide +kernel
theorem dX8_drawn_108 : decode cX8_drawn 108 = .ok (.getfield 25, 3) := by decide +kernel
theorem dX8_drawn_111 : decode cX8_drawn 111 = .ok (.iload 7, 2) := by decide +kernel
theorem dX8_drawn_113 : decode cX8_drawn 113 = .ok (.lload 4, 2) := by decide +kernel
theorem dX8_drawn_115 : decode cX8_drawn 115 = .ok (.ldc2_w 211, 3) := by decide +kernel
theorem dX8_drawn_118 : decode cX8_drawn 118 = .ok (.lrem, 1) := by decide +kernel
theorem dX8_drawn_119 : decode cX8_drawn 119 = .ok (.l2i, 1) := by decide +kernel
theorem dX8_drawn_120 : decode cX8_drawn 120 = .ok (.iconst 1, 1) := by decide +kernel
theorem dX8_drawn_121 : decode cX8_drawn 121 = .ok (.iadd, 1) := by decide +kernel
theorem dX8_drawn_122 : decode cX8_drawn 122 = .ok (.invokestatic 213, 3) := by decide +kernel
theorem dX8_drawn_125 : decode cX8_drawn 125 = .ok (.goto 63, 3) := by decide +kernel
theorem dX8_drawn_128 : decode cX8_drawn 128 = .ok (.aload_n 0, 1) := by decide +kernel
theorem dX8_drawn_129 : decode cX8_drawn 129 = .ok (.getfield 25, 3) := by decide +kernel
theorem dX8_drawn_132 : decode cX8_drawn 132 = .ok (.iload 7, 2) := by decide +kernel
theorem dX8_drawn_134 : decode cX8_drawn 134 = .ok (.invokestatic 159, 3) := by decide +kernel
theorem dX8_drawn_137 : decode cX8_drawn 137 = .ok (.ifCond .eq 51, 3) := by decide +kernel
theorem dX8_drawn_140 : decode cX8_drawn 140 = .ok (.lload 4, 2) := by decide +kernel
theorem dX8_drawn_142 : decode cX8_drawn 142 = .ok (.ldc2_w 68, 3) := by decide +kernel
theorem dX8_drawn_145 : decode cX8_drawn 145 = .ok (.lrem, 1) := by decide +kernel
theorem dX8_drawn_146 : decode cX8_drawn 146 = .ok (.lconst 0, 1) := by decide +kernel
theorem dX8_drawn_147 : decode cX8_drawn 147 = .ok (.lcmp, 1) := by decide +kernel
theorem dX8_drawn_148 : decode cX8_drawn 148 = .ok (.ifCond .ne 40, 3) := by decide +kernel
theorem dX8_drawn_151 : decode cX8_drawn 151 = .ok (.aload_n 0, 1) := by decide +kernel
theorem dX8_drawn_152 : decode cX8_drawn 152 = .ok (.getfield 25, 3) := by decide +kernel
theorem dX8_drawn_155 : decode cX8_drawn 155 = .ok (.iload 7, 2) := by decide +kernel
theorem dX8_drawn_157 : decode cX8_drawn 157 = .ok (.iconst 5, 1) := by decide +kernel
theorem dX8_drawn_158 : decode cX8_drawn 158 = .ok (.invokestatic 155, 3) := by decide +kernel
theorem dX8_drawn_161 : decode cX8_drawn 161 = .ok (.iconst 5, 1) := by decide +kernel
theorem dX8_drawn_162 : decode cX8_drawn 162 = .ok (.iadd, 1) := by decide +kernel
theorem dX8_drawn_163 : decode cX8_drawn 163 = .ok (.istore 8, 2) := by decide +kernel
theorem dX8_drawn_165 : decode cX8_drawn 165 = .ok (.aload_n 0, 1) := by decide +kernel
theorem dX8_drawn_166 : decode cX8_drawn 166 = .ok (.getfield 25, 3) := by decide +kernel
theorem dX8_drawn_169 : decode cX8_drawn 169 = .ok (.iload 7, 2) := by decide +kernel
theorem dX8_drawn_171 : decode cX8_drawn 171 = .ok (.iload 8, 2) := by decide +kernel
theorem dX8_drawn_173 : decode cX8_drawn 173 = .ok (.bipush 40, 2) := by decide +kernel
theorem dX8_drawn_175 : decode cX8_drawn 175 = .ok (.if_icmp .le 8, 3) := by decide +kernel
theorem dX8_drawn_178 : decode cX8_drawn 178 = .ok (.bipush 40, 2) := by decide +kernel
theorem dX8_drawn_180 : decode cX8_drawn 180 = .ok (.goto 5, 3) := by decide +kernel
theorem dX8_drawn_183 : decode cX8_drawn 183 = .ok (.iload 8, 2) := by decide +kernel
theorem dX8_drawn_185 : decode cX8_drawn 185 = .ok (.invokestatic 222, 3) := by decide +kernel
theorem dX8_drawn_188 : decode cX8_drawn 188 = .ok (.aload_n 0, 1) := by decide +kernel
theorem dX8_drawn_189 : decode cX8_drawn 189 = .ok (.aload_n 0, 1) := by decide +kernel
theorem dX8_drawn_190 : decode cX8_drawn 190 = .ok (.getfield 25, 3) := by decide +kernel
theorem dX8_drawn_193 : decode cX8_drawn 193 = .ok (.lload 4, 2) := by decide +kernel
theorem dX8_drawn_195 : decode cX8_drawn 195 = .ok (.ldc2_w 264, 3) := by decide +kernel
theorem dX8_drawn_198 : decode cX8_drawn 198 = .ok (.lrem, 1) := by decide +kernel
theorem dX8_drawn_199 : decode cX8_drawn 199 = .ok (.l2i, 1) := by decide +kernel
theorem dX8_drawn_200 : decode cX8_drawn 200 = .ok (.invokevirtual 184, 3) := by decide +kernel
theorem dX8_drawn_203 : decode cX8_drawn 203 = .ok (.iinc 6 1, 3) := by decide +kernel
theorem dX8_drawn_206 : decode cX8_drawn 206 = .ok (.goto (-143), 3) := by decide +kernel
theorem dX8_drawn_209 : decode cX8_drawn 209 = .ok (.iload_n 3, 1) := by decide +kernel
theorem dX8_drawn_210 : decode cX8_drawn 210 = .ok (.ifCond .ne 13, 3) := by decide +kernel
theorem dX8_drawn_213 : decode cX8_drawn 213 = .ok (.aload_n 0, 1) := by decide +kernel
theorem dX8_drawn_214 : decode cX8_drawn 214 = .ok (.getfield 25, 3) := by decide +kernel
theorem dX8_drawn_217 : decode cX8_drawn 217 = .ok (.invokestatic 204, 3) := by decide +kernel
theorem dX8_drawn_220 : decode cX8_drawn 220 = .ok (.goto 11, 3) := by decide +kernel
theorem dX8_drawn_223 : decode cX8_drawn 223 = .ok (.aload_n 0, 1) := by decide +kernel
theorem dX8_drawn_224 : decode cX8_drawn 224 = .ok (.getfield 25, 3) := by decide +kernel
theorem dX8_drawn_227 : decode cX8_drawn 227 = .ok (.iconst 2, 1) := by decide +kernel
theorem dX8_drawn_228 : decode cX8_drawn 228 = .ok (.invokestatic 217, 3) := by decide +kernel
theorem dX8_drawn_231 : decode cX8_drawn 231 = .ok (.invokestatic 244, 3) := by decide +kernel
theorem dX8_drawn_234 : decode cX8_drawn 234 = .ok (.ireturn, 1) := by decide +kernel
theorem dX8_image_0 : decode cX8_image 0 = .ok (.aload_n 0, 1) := by decide +kernel
theorem dX8_image_1 : decode cX8_image 1 = .ok (.iconst 0, 1) := by decide +kernel
theorem dX8_image_2 : decode cX8_image 2 = .ok (.putfield 50, 3) := by decide +kernel
theorem dX8_image_5 : decode cX8_image 5 = .ok (.iload_n 1, 1) := by decide +kernel
theorem dX8_image_6 : decode cX8_image 6 = .ok (.i2l, 1) := by decide +kernel
theorem dX8_image_7 : decode cX8_image 7 = .ok (.lconst 0, 1) := by decide +kernel
theorem dX8_image_8 : decode cX8_image 8 = .ok (.lconst 1, 1) := by decide +kernel
theorem dX8_image_9 : decode cX8_image 9 = .ok (.invokestatic 60, 3) := by decide +kernel
theorem dX8_image_12 : decode cX8_image 12 = .ok (.ifCond .ne 6, 3) := by decide +kernel
theorem dX8_image_15 : decode cX8_image 15 = .ok (.ldc 70, 2) := by decide +kernel
theorem dX8_image_17 : decode cX8_image 17 = .ok (.ireturn, 1) := by decide +kernel
theorem dX8_image_18 : decode cX8_image 18 = .ok (.aload_n 0, 1) := by decide +kernel
theorem dX8_image_19 : decode cX8_image 19 = .ok (.invokevirtual 195, 3) := by decide +kernel
theorem dX8_image_22 : decode cX8_image 22 = .ok (.ifCond .ne 6, 3) := by decide +kernel
theorem dX8_image_25 : decode cX8_image 25 = .ok (.ldc 198, 2) := by decide +kernel
theorem dX8_image_27 : decode cX8_image 27 = .ok (.ireturn, 1) := by decide +kernel
theorem dX8_image_28 : decode cX8_image 28 = .ok (.iconst 0, 1) := by decide +kernel
theorem dX8_image_29 : decode cX8_image 29 = .ok (.istore_n 2, 1) := by decide +kernel
theorem dX8_image_30 : decode cX8_image 30 = .ok (.iload_n 2, 1) := by decide +kernel
theorem dX8_image_31 : decode cX8_image 31 = .ok (.bipush 53, 2) := by decide +kernel
theorem dX8_image_33 : decode cX8_image 33 = .ok (.if_icmp .ge 26, 3) := by decide +kernel
theorem dX8_image_36 : decode cX8_image 36 = .ok (.aload_n 0, 1) := by decide +kernel
theorem dX8_image_37 : decode cX8_image 37 = .ok (.getfield 44, 3) := by decide +kernel
theorem dX8_image_40 : decode cX8_image 40 = .ok (.bipush 53, 2) := by decide +kernel
theorem dX8_image_42 : decode cX8_image 42 = .ok (.iload_n 1, 1) := by decide +kernel
theorem dX8_image_43 : decode cX8_image 43 = .ok (.imul, 1) := by decide +kernel
theorem dX8_image_44 : decode cX8_image 44 = .ok (.iload_n 2, 1) := by decide +kernel
theorem dX8_image_45 : decode cX8_image 45 = .ok (.iadd, 1) := by decide +kernel
theorem dX8_image_46 : decode cX8_image 46 = .ok (.aload_n 0, 1) := by decide +kernel
theorem dX8_image_47 : decode cX8_image 47 = .ok (.getfield 19, 3) := by decide +kernel
theorem dX8_image_50 : decode cX8_image 50 = .ok (.iload_n 2, 1) := by decide +kernel
theorem dX8_image_51 : decode cX8_image 51 = .ok (.iaload, 1) := by decide +kernel
theorem dX8_image_52 : decode cX8_image 52 = .ok (.iastore, 1) := by decide +kernel
theorem dX8_image_53 : decode cX8_image 53 = .ok (.iinc 2 1, 3) := by decide +kernel
theorem dX8_image_56 : decode cX8_image 56 = .ok (.goto (-26), 3) := by decide +kernel
theorem dX8_image_59 : decode cX8_image 59 = .ok (.aload_n 0, 1) := by decide +kernel
theorem dX8_image_60 : decode cX8_image 60 = .ok (.getfield 40, 3) := by decide +kernel
theorem dX8_image_63 : decode cX8_image 63 = .ok (.iload_n 1, 1) := by decide +kernel
theorem dX8_image_64 : decode cX8_image 64 = .ok (.iconst 1, 1) := by decide +kernel
theorem dX8_image_65 : decode cX8_image 65 = .ok (.bastore, 1) := by decide +kernel
theorem dX8_image_66 : decode cX8_image 66 = .ok (.iconst 1, 1) := by decide +kernel
theorem dX8_image_67 : decode cX8_image 67 = .ok (.ireturn, 1) := by decide +kernel
theorem dX8_restore_0 : decode cX8_restore 0 = .ok (.aload_n 0, 1) := by decide +kernel
theorem dX8_restore_1 : decode cX8_restore 1 = .ok (.iconst 0, 1) := by decide +kernel
theorem dX8_restore_2 : decode cX8_restore 2 = .ok (.putfield 50, 3) := by decide +kernel
theorem dX8_restore_5 : decode cX8_restore 5 = .ok (.iload_n 1, 1) := by decide +kernel
theorem dX8_restore_6 : decode cX8_restore 6 = .ok (.i2l, 1) := by decide +kernel
theorem dX8_restore_7 : decode cX8_restore 7 = .ok (.lconst 0, 1) := by decide +kernel
theorem dX8_restore_8 : decode cX8_restore 8 = .ok (.lconst 1, 1) := by decide +kernel
theorem dX8_restore_9 : decode cX8_restore 9 = .ok (.invokestatic 60, 3) := by decide +kernel
theorem dX8_restore_12 : decode cX8_restore 12 = .ok (.ifCond .ne 6, 3) := by decide +kernel
theorem dX8_restore_15 : decode cX8_restore 15 = .ok (.ldc 70, 2) := by decide +kernel
theorem dX8_restore_17 : decode cX8_restore 17 = .ok (.ireturn, 1) := by decide +kernel
theorem dX8_restore_18 : decode cX8_restore 18 = .ok (.aload_n 0, 1) := by decide +kernel
theorem dX8_restore_19 : decode cX8_restore 19 = .ok (.getfield 40, 3) := by decide +kernel
theorem dX8_restore_22 : decode cX8_restore 22 = .ok (.iload_n 1, 1) := by decide +kernel
theorem dX8_restore_23 : decode cX8_restore 23 = .ok (.baload, 1) := by decide +kernel
theorem dX8_restore_24 : decode cX8_restore 24 = .ok (.ifCond .ne 6, 3) := by decide +kernel
theorem dX8_restore_27 : decode cX8_restore 27 = .ok (.ldc 198, 2) := by decide +kernel
theorem dX8_restore_29 : decode cX8_restore 29 = .ok (.ireturn, 1) := by decide +kernel
theorem dX8_restore_30 : decode cX8_restore 30 = .ok (.iconst 0, 1) := by decide +kernel
theorem dX8_restore_31 : decode cX8_restore 31 = .ok (.istore_n 2, 1) := by decide +kernel
theorem dX8_restore_32 : decode cX8_restore 32 = .ok (.iload_n 2, 1) := by decide +kernel
theorem dX8_restore_33 : decode cX8_restore 33 = .ok (.bipush 53, 2) := by decide +kernel
theorem dX8_restore_35 : decode cX8_restore 35 = .ok (.if_icmp .ge 26, 3) := by decide +kernel
theorem dX8_restore_38 : decode cX8_restore 38 = .ok (.aload_n 0, 1) := by decide +kernel
theorem dX8_restore_39 : decode cX8_restore 39 = .ok (.getfield 19, 3) := by decide +kernel
theorem dX8_restore_42 : decode cX8_restore 42 = .ok (.iload_n 2, 1) := by decide +kernel
theorem dX8_restore_43 : decode cX8_restore 43 = .ok (.aload_n 0, 1) := by decide +kernel
theorem dX8_restore_44 : decode cX8_restore 44 = .ok (.getfield 44, 3) := by decide +kernel
theorem dX8_restore_47 : decode cX8_restore 47 = .ok (.bipush 53, 2) := by decide +kernel
theorem dX8_restore_49 : decode cX8_restore 49 = .ok (.iload_n 1, 1) := by decide +kernel
theorem dX8_restore_50 : decode cX8_restore 50 = .ok (.imul, 1) := by decide +kernel
theorem dX8_restore_51 : decode cX8_restore 51 = .ok (.iload_n 2, 1) := by decide +kernel
theorem dX8_restore_52 : decode cX8_restore 52 = .ok (.iadd, 1) := by decide +kernel
theorem dX8_restore_53 : decode cX8_restore 53 = .ok (.iaload, 1) := by decide +kernel
theorem dX8_restore_54 : decode cX8_restore 54 = .ok (.iastore, 1) := by decide +kernel
theorem dX8_restore_55 : decode cX8_restore 55 = .ok (.iinc 2 1, 3) := by decide +kernel
theorem dX8_restore_58 : decode cX8_restore 58 = .ok (.goto (-26), 3) := by decide +kernel
theorem dX8_restore_61 : decode cX8_restore 61 = .ok (.aload_n 0, 1) := by decide +kernel
theorem dX8_restore_62 : decode cX8_restore 62 = .ok (.iconst 0, 1) := by decide +kernel
theorem dX8_restore_63 : decode cX8_restore 63 = .ok (.putfield 152, 3) := by decide +kernel
theorem dX8_restore_66 : decode cX8_restore 66 = .ok (.iconst 1, 1) := by decide +kernel
theorem dX8_restore_67 : decode cX8_restore 67 = .ok (.ireturn, 1) := by decide +kernel
theorem dX8_isOf_0 : decode cX8_isOf 0 = .ok (.iload_n 1, 1) := by decide +kernel
theorem dX8_isOf_1 : decode cX8_isOf 1 = .ok (.ifCond .eq 28, 3) := by decide +kernel
theorem dX8_isOf_4 : decode cX8_isOf 4 = .ok (.iload_n 0, 1) := by decide +kernel
theorem dX8_isOf_5 : decode cX8_isOf 5 = .ok (.iload_n 1, 1) := by decide +kernel
theorem dX8_isOf_6 : decode cX8_isOf 6 = .ok (.if_icmp .eq 23, 3) := by decide +kernel
theorem dX8_isOf_9 : decode cX8_isOf 9 = .ok (.iload_n 1, 1) := by decide +kernel
theorem dX8_isOf_10 : decode cX8_isOf 10 = .ok (.iconst 1, 1) := by decide +kernel
theorem dX8_isOf_11 : decode cX8_isOf 11 = .ok (.if_icmp .ne 8, 3) := by decide +kernel
theorem dX8_isOf_14 : decode cX8_isOf 14 = .ok (.iload_n 0, 1) := by decide +kernel
theorem dX8_isOf_15 : decode cX8_isOf 15 = .ok (.iconst 4, 1) := by decide +kernel
theorem dX8_isOf_16 : decode cX8_isOf 16 = .ok (.if_icmp .lt 13, 3) := by decide +kernel
theorem dX8_isOf_19 : decode cX8_isOf 19 = .ok (.iload_n 1, 1) := by decide +kernel
theorem dX8_isOf_20 : decode cX8_isOf 20 = .ok (.iconst 4, 1) := by decide +kernel
theorem dX8_isOf_21 : decode cX8_isOf 21 = .ok (.if_icmp .ne 12, 3) := by decide +kernel
theorem dX8_isOf_24 : decode cX8_isOf 24 = .ok (.iload_n 0, 1) := by decide +kernel
theorem dX8_isOf_25 : decode cX8_isOf 25 = .ok (.iconst 5, 1) := by decide +kernel
theorem dX8_isOf_26 : decode cX8_isOf 26 = .ok (.if_icmp .ne 7, 3) := by decide +kernel
theorem dX8_isOf_29 : decode cX8_isOf 29 = .ok (.iconst 1, 1) := by decide +kernel
theorem dX8_isOf_30 : decode cX8_isOf 30 = .ok (.goto 4, 3) := by decide +kernel
theorem dX8_isOf_33 : decode cX8_isOf 33 = .ok (.iconst 0, 1) := by decide +kernel
theorem dX8_isOf_34 : decode cX8_isOf 34 = .ok (.ireturn, 1) := by decide +kernel
theorem dX8_kind_0 : decode cX8_kind 0 = .ok (.aload_n 0, 1) := by decide +kernel
theorem dX8_kind_1 : decode cX8_kind 1 = .ok (.iconst 0, 1) := by decide +kernel
theorem dX8_kind_2 : decode cX8_kind 2 = .ok (.putfield 50, 3) := by decide +kernel
theorem dX8_kind_5 : decode cX8_kind 5 = .ok (.aload_n 0, 1) := by decide +kernel
theorem dX8_kind_6 : decode cX8_kind 6 = .ok (.iload_n 1, 1) := by decide +kernel
theorem dX8_kind_7 : decode cX8_kind 7 = .ok (.invokevirtual 208, 3) := by decide +kernel
theorem dX8_kind_10 : decode cX8_kind 10 = .ok (.ifCond .eq 15, 3) := by decide +kernel
theorem dX8_kind_13 : decode cX8_kind 13 = .ok (.aload_n 0, 1) := by decide +kernel
theorem dX8_kind_14 : decode cX8_kind 14 = .ok (.getfield 19, 3) := by decide +kernel
theorem dX8_kind_17 : decode cX8_kind 17 = .ok (.iload_n 1, 1) := by decide +kernel
theorem dX8_kind_18 : decode cX8_kind 18 = .ok (.iconst 0, 1) := by decide +kernel
theorem dX8_kind_19 : decode cX8_kind 19 = .ok (.invokestatic 155, 3) := by decide +kernel
theorem dX8_kind_22 : decode cX8_kind 22 = .ok (.goto 5, 3) := by decide +kernel
theorem dX8_kind_25 : decode cX8_kind 25 = .ok (.ldc 70, 2) := by decide +kernel
theorem dX8_kind_27 : decode cX8_kind 27 = .ok (.ireturn, 1) := by decide +kernel
theorem dX8_as_0 : decode cX8_as 0 = .ok (.aload_n 0, 1) := by decide +kernel
theorem dX8_as_1 : decode cX8_as 1 = .ok (.iconst 0, 1) := by decide +kernel
theorem dX8_as_2 : decode cX8_as 2 = .ok (.putfield 50, 3) := by decide +kernel
theorem dX8_as_5 : decode cX8_as 5 = .ok (.aload_n 0, 1) := by decide +kernel
theorem dX8_as_6 : decode cX8_as 6 = .ok (.iload_n 1, 1) := by decide +kernel
theorem dX8_as_7 : decode cX8_as 7 = .ok (.invokevirtual 208, 3) := by decide +kernel
theorem dX8_as_10 : decode cX8_as 10 = .ok (.ifCond .eq 15, 3) := by decide +kernel
theorem dX8_as_13 : decode cX8_as 13 = .ok (.iload_n 2, 1) := by decide +kernel
theorem dX8_as_14 : decode cX8_as 14 = .ok (.i2l, 1) := by decide +kernel
theorem dX8_as_15 : decode cX8_as 15 = .ok (.lconst 0, 1) := by decide +kernel
theorem dX8_as_16 : decode cX8_as 16 = .ok (.ldc2_w 274, 3) := by decide +kernel
theorem dX8_as_19 : decode cX8_as 19 = .ok (.invokestatic 60, 3) := by decide +kernel
theorem dX8_as_22 : decode cX8_as 22 = .ok (.ifCond .ne 6, 3) := by decide +kernel
theorem dX8_as_25 : decode cX8_as 25 = .ok (.ldc 70, 2) := by decide +kernel
theorem dX8_as_27 : decode cX8_as 27 = .ok (.ireturn, 1) := by decide +kernel
theorem dX8_as_28 : decode cX8_as 28 = .ok (.aload_n 0, 1) := by decide +kernel
theorem dX8_as_29 : decode cX8_as 29 = .ok (.iconst 0, 1) := by decide +kernel
theorem dX8_as_30 : decode cX8_as 30 = .ok (.putfield 54, 3) := by decide +kernel
theorem dX8_as_33 : decode cX8_as 33 = .ok (.aload_n 0, 1) := by decide +kernel
theorem dX8_as_34 : decode cX8_as 34 = .ok (.getfield 19, 3) := by decide +kernel
theorem dX8_as_37 : decode cX8_as 37 = .ok (.iload_n 1, 1) := by decide +kernel
theorem dX8_as_38 : decode cX8_as 38 = .ok (.iconst 0, 1) := by decide +kernel
theorem dX8_as_39 : decode cX8_as 39 = .ok (.invokestatic 155, 3) := by decide +kernel
theorem dX8_as_42 : decode cX8_as 42 = .ok (.iload_n 2, 1) := by decide +kernel
theorem dX8_as_43 : decode cX8_as 43 = .ok (.invokestatic 276, 3) := by decide +kernel
theorem dX8_as_46 : decode cX8_as 46 = .ok (.ifCond .eq 7, 3) := by decide +kernel
theorem dX8_as_49 : decode cX8_as 49 = .ok (.iload_n 1, 1) := by decide +kernel
theorem dX8_as_50 : decode cX8_as 50 = .ok (.goto 8, 3) := by decide +kernel
theorem dX8_as_53 : decode cX8_as 53 = .ok (.aload_n 0, 1) := by decide +kernel
theorem dX8_as_54 : decode cX8_as 54 = .ok (.iconst 3, 1) := by decide +kernel
theorem dX8_as_55 : decode cX8_as 55 = .ok (.invokevirtual 71, 3) := by decide +kernel
theorem dX8_as_58 : decode cX8_as 58 = .ok (.ireturn, 1) := by decide +kernel
theorem dX8_began_0 : decode cX8_began 0 = .ok (.aload_n 0, 1) := by decide +kernel
theorem dX8_began_1 : decode cX8_began 1 = .ok (.getfield 279, 3) := by decide +kernel
theorem dX8_began_4 : decode cX8_began 4 = .ok (.bipush 16, 2) := by decide +kernel
theorem dX8_began_6 : decode cX8_began 6 = .ok (.if_icmp .ge 23, 3) := by decide +kernel
theorem dX8_began_9 : decode cX8_began 9 = .ok (.aload_n 0, 1) := by decide +kernel
theorem dX8_began_10 : decode cX8_began 10 = .ok (.getfield 47, 3) := by decide +kernel
theorem dX8_began_13 : decode cX8_began 13 = .ok (.aload_n 0, 1) := by decide +kernel
theorem dX8_began_14 : decode cX8_began 14 = .ok (.getfield 279, 3) := by decide +kernel
theorem dX8_began_17 : decode cX8_began 17 = .ok (.iload_n 1, 1) := by decide +kernel
theorem dX8_began_18 : decode cX8_began 18 = .ok (.iastore, 1) := by decide +kernel
theorem dX8_began_19 : decode cX8_began 19 = .ok (.aload_n 0, 1) := by decide +kernel
theorem dX8_began_20 : decode cX8_began 20 = .ok (.dup, 1) := by decide +kernel
theorem dX8_began_21 : decode cX8_began 21 = .ok (.getfield 279, 3) := by decide +kernel
theorem dX8_began_24 : decode cX8_began 24 = .ok (.iconst 1, 1) := by decide +kernel
theorem dX8_began_25 : decode cX8_began 25 = .ok (.iadd, 1) := by decide +kernel
theorem dX8_began_26 : decode cX8_began 26 = .ok (.putfield 279, 3) := by decide +kernel
theorem dX8_began_29 : decode cX8_began 29 = .ok (.return_, 1) := by decide +kernel
theorem dX8_plainSize_0 : decode cX8_plainSize 0 = .ok (.aload_n 0, 1) := by decide +kernel
theorem dX8_plainSize_1 : decode cX8_plainSize 1 = .ok (.bipush 10, 2) := by decide +kernel
theorem dX8_plainSize_3 : decode cX8_plainSize 3 = .ok (.invokevirtual 282, 3) := by decide +kernel
theorem dX8_plainSize_6 : decode cX8_plainSize 6 = .ok (.aload_n 0, 1) := by decide +kernel
theorem dX8_plainSize_7 : decode cX8_plainSize 7 = .ok (.getfield 19, 3) := by decide +kernel
theorem dX8_plainSize_10 : decode cX8_plainSize 10 = .ok (.iload_n 1, 1) := by decide +kernel
theorem dX8_plainSize_11 : decode cX8_plainSize 11 = .ok (.iconst 2, 1) := by decide +kernel
theorem dX8_plainSize_12 : decode cX8_plainSize 12 = .ok (.invokestatic 155, 3) := by decide +kernel
theorem dX8_plainSize_15 : decode cX8_plainSize 15 = .ok (.ireturn, 1) := by decide +kernel
theorem dX8_leafSize_0 : decode cX8_leafSize 0 = .ok (.aload_n 0, 1) := by decide +kernel
theorem dX8_leafSize_1 : decode cX8_leafSize 1 = .ok (.getfield 19, 3) := by decide +kernel
theorem dX8_leafSize_4 : decode cX8_leafSize 4 = .ok (.iload_n 1, 1) := by decide +kernel
theorem dX8_leafSize_5 : decode cX8_leafSize 5 = .ok (.iconst 0, 1) := by decide +kernel
theorem dX8_leafSize_6 : decode cX8_leafSize 6 = .ok (.invokestatic 155, 3) := by decide +kernel
theorem dX8_leafSize_9 : decode cX8_leafSize 9 = .ok (.iconst 5, 1) := by decide +kernel
theorem dX8_leafSize_10 : decode cX8_leafSize 10 = .ok (.if_icmp .ne 7, 3) := by decide +kernel
theorem dX8_leafSize_13 : decode cX8_leafSize 13 = .ok (.iconst 1, 1) := by decide +kernel
theorem dX8_leafSize_14 : decode cX8_leafSize 14 = .ok (.goto 4, 3) := by decide +kernel
theorem dX8_leafSize_17 : decode cX8_leafSize 17 = .ok (.iconst 0, 1) := by decide +kernel
theorem dX8_leafSize_18 : decode cX8_leafSize 18 = .ok (.istore_n 2, 1) := by decide +kernel
theorem dX8_leafSize_19 : decode cX8_leafSize 19 = .ok (.iload_n 2, 1) := by decide +kernel
theorem dX8_leafSize_20 : decode cX8_leafSize 20 = .ok (.ifCond .eq 9, 3) := by decide +kernel
theorem dX8_leafSize_23 : decode cX8_leafSize 23 = .ok (.aload_n 0, 1) := by decide +kernel
theorem dX8_leafSize_24 : decode cX8_leafSize 24 = .ok (.bipush 14, 2) := by decide +kernel
theorem dX8_leafSize_26 : decode cX8_leafSize 26 = .ok (.invokevirtual 282, 3) := by decide +kernel
theorem dX8_leafSize_29 : decode cX8_leafSize 29 = .ok (.aload_n 0, 1) := by decide +kernel
theorem dX8_leafSize_30 : decode cX8_leafSize 30 = .ok (.bipush 13, 2) := by decide +kernel
theorem dX8_leafSize_32 : decode cX8_leafSize 32 = .ok (.invokevirtual 282, 3) := by decide +kernel
theorem dX8_leafSize_35 : decode cX8_leafSize 35 = .ok (.aload_n 0, 1) := by decide +kernel
theorem dX8_leafSize_36 : decode cX8_leafSize 36 = .ok (.iload_n 1, 1) := by decide +kernel
theorem dX8_leafSize_37 : decode cX8_leafSize 37 = .ok (.invokevirtual 285, 3) := by decide +kernel
theorem dX8_leafSize_40 : decode cX8_leafSize 40 = .ok (.bipush 100, 2) := by decide +kernel
theorem dX8_leafSize_42 : decode cX8_leafSize 42 = .ok (.isub, 1) := by decide +kernel
theorem dX8_leafSize_43 : decode cX8_leafSize 43 = .ok (.istore_n 3, 1) := by decide +kernel
theorem dX8_leafSize_44 : decode cX8_leafSize 44 = .ok (.iload_n 2, 1) := by decide +kernel
theorem dX8_leafSize_45 : decode cX8_leafSize 45 = .ok (.ifCond .eq 9, 3) := by decide +kernel
theorem dX8_leafSize_48 : decode cX8_leafSize 48 = .ok (.iconst 2, 1) := by decide +kernel
theorem dX8_leafSize_49 : decode cX8_leafSize 49 = .ok (.iload_n 3, 1) := by decide +kernel
theorem dX8_leafSize_50 : decode cX8_leafSize 50 = .ok (.imul, 1) := by decide +kernel
theorem dX8_leafSize_51 : decode cX8_leafSize 51 = .ok (.goto 4, 3) := by decide +kernel
theorem dX8_leafSize_54 : decode cX8_leafSize 54 = .ok (.iload_n 3, 1) := by decide +kernel
theorem dX8_leafSize_55 : decode cX8_leafSize 55 = .ok (.ireturn, 1) := by decide +kernel
theorem dX8_markOf_0 : decode cX8_markOf 0 = .ok (.aload_n 0, 1) := by decide +kernel
theorem dX8_markOf_1 : decode cX8_markOf 1 = .ok (.getfield 19, 3) := by decide +kernel
theorem dX8_markOf_4 : decode cX8_markOf 4 = .ok (.iload_n 1, 1) := by decide +kernel
theorem dX8_markOf_5 : decode cX8_markOf 5 = .ok (.iconst 0, 1) := by decide +kernel
theorem dX8_markOf_6 : decode cX8_markOf 6 = .ok (.invokestatic 155, 3) := by decide +kernel
theorem dX8_markOf_9 : decode cX8_markOf 9 = .ok (.istore_n 2, 1) := by decide +kernel
theorem dX8_markOf_10 : decode cX8_markOf 10 = .ok (.iload_n 2, 1) := by decide +kernel
theorem dX8_markOf_11 : decode cX8_markOf 11 = .ok (.iconst 4, 1) := by decide +kernel
theorem dX8_markOf_12 : decode cX8_markOf 12 = .ok (.if_icmp .lt 23, 3) := by decide +kernel
theorem dX8_markOf_15 : decode cX8_markOf 15 = .ok (.aload_n 0, 1) := by decide +kernel
theorem dX8_markOf_16 : decode cX8_markOf 16 = .ok (.bipush 23, 2) := by decide +kernel
theorem dX8_markOf_18 : decode cX8_markOf 18 = .ok (.invokevirtual 282, 3) := by decide +kernel
theorem dX8_markOf_21 : decode cX8_markOf 21 = .ok (.aload_n 0, 1) := by decide +kernel
theorem dX8_markOf_22 : decode cX8_markOf 22 = .ok (.bipush 20, 2) := by decide +kernel
theorem dX8_markOf_24 : decode cX8_markOf 24 = .ok (.invokevirtual 282, 3) := by decide +kernel
theorem dX8_markOf_27 : decode cX8_markOf 27 = .ok (.iload_n 1, 1) := by decide +kernel
theorem dX8_markOf_28 : decode cX8_markOf 28 = .ok (.aload_n 0, 1) := by decide +kernel
theorem dX8_markOf_29 : decode cX8_markOf 29 = .ok (.iload_n 1, 1) := by decide +kernel
theorem dX8_markOf_30 : decode cX8_markOf 30 = .ok (.invokevirtual 288, 3) := by decide +kernel
theorem dX8_markOf_33 : decode cX8_markOf 33 = .ok (.isub, 1) := by decide +kernel
theorem dX8_markOf_34 : decode cX8_markOf 34 = .ok (.ireturn, 1) := by decide +kernel
theorem dX8_markOf_35 : decode cX8_markOf 35 = .ok (.iload_n 2, 1) := by decide +kernel
theorem dX8_markOf_36 : decode cX8_markOf 36 = .ok (.iconst 1, 1) := by decide +kernel
theorem dX8_markOf_37 : decode cX8_markOf 37 = .ok (.if_icmp .eq 19, 3) := by decide +kernel
theorem dX8_markOf_40 : decode cX8_markOf 40 = .ok (.aload_n 0, 1) := by decide +kernel
theorem dX8_markOf_41 : decode cX8_markOf 41 = .ok (.iload_n 2, 1) := by decide +kernel
theorem dX8_markOf_42 : decode cX8_markOf 42 = .ok (.iconst 3, 1) := by decide +kernel
theorem dX8_markOf_43 : decode cX8_markOf 43 = .ok (.if_icmp .ne 8, 3) := by decide +kernel
theorem dX8_markOf_46 : decode cX8_markOf 46 = .ok (.bipush 22, 2) := by decide +kernel
theorem dX8_markOf_48 : decode cX8_markOf 48 = .ok (.goto 5, 3) := by decide +kernel
theorem dX8_markOf_51 : decode cX8_markOf 51 = .ok (.bipush 24, 2) := by decide +kernel
theorem dX8_markOf_53 : decode cX8_markOf 53 = .ok (.invokevirtual 282, 3) := by decide +kernel
theorem dX8_markOf_56 : decode cX8_markOf 56 = .ok (.aload_n 0, 1) := by decide +kernel
theorem dX8_markOf_57 : decode cX8_markOf 57 = .ok (.bipush 21, 2) := by decide +kernel
theorem dX8_markOf_59 : decode cX8_markOf 59 = .ok (.invokevirtual 282, 3) := by decide +kernel
theorem dX8_markOf_62 : decode cX8_markOf 62 = .ok (.aload_n 0, 1) := by decide +kernel
theorem dX8_markOf_63 : decode cX8_markOf 63 = .ok (.bipush 20, 2) := by decide +kernel
theorem dX8_markOf_65 : decode cX8_markOf 65 = .ok (.invokevirtual 282, 3) := by decide +kernel
theorem dX8_markOf_68 : decode cX8_markOf 68 = .ok (.iload_n 1, 1) := by decide +kernel
theorem dX8_markOf_69 : decode cX8_markOf 69 = .ok (.aload_n 0, 1) := by decide +kernel
theorem dX8_markOf_70 : decode cX8_markOf 70 = .ok (.getfield 19, 3) := by decide +kernel
theorem dX8_markOf_73 : decode cX8_markOf 73 = .ok (.iload_n 1, 1) := by decide +kernel
theorem dX8_markOf_74 : decode cX8_markOf 74 = .ok (.iconst 4, 1) := by decide +kernel
theorem dX8_markOf_75 : decode cX8_markOf 75 = .ok (.invokestatic 155, 3) := by decide +kernel
theorem dX8_markOf_78 : decode cX8_markOf 78 = .ok (.iadd, 1) := by decide +kernel
theorem dX8_markOf_79 : decode cX8_markOf 79 = .ok (.istore_n 3, 1) := by decide +kernel
theorem dX8_markOf_80 : decode cX8_markOf 80 = .ok (.iload_n 2, 1) := by decide +kernel
theorem dX8_markOf_81 : decode cX8_markOf 81 = .ok (.iconst 1, 1) := by decide +kernel
theorem dX8_markOf_82 : decode cX8_markOf 82 = .ok (.if_icmp .ne 7, 3) := by decide +kernel
theorem dX8_markOf_85 : decode cX8_markOf 85 = .ok (.iload_n 3, 1) := by decide +kernel
theorem dX8_markOf_86 : decode cX8_markOf 86 = .ok (.goto 19, 3) := by decide +kernel
theorem dX8_markOf_89 : decode cX8_markOf 89 = .ok (.iload_n 2, 1) := by decide +kernel
theorem dX8_markOf_90 : decode cX8_markOf 90 = .ok (.iconst 3, 1) := by decide +kernel
theorem dX8_markOf_91 : decode cX8_markOf 91 = .ok (.if_icmp .ne 11, 3) := by decide +kernel
theorem dX8_markOf_94 : decode cX8_markOf 94 = .ok (.iload_n 3, 1) := by decide +kernel
theorem dX8_markOf_95 : decode cX8_markOf 95 = .ok (.sipush 1000, 3) := by decide +kernel
theorem dX8_markOf_98 : decode cX8_markOf 98 = .ok (.isub, 1) := by decide +kernel
theorem dX8_markOf_99 : decode cX8_markOf 99 = .ok (.goto 6, 3) := by decide +kernel
theorem dX8_markOf_102 : decode cX8_markOf 102 = .ok (.iconst 2, 1) := by decide +kernel
theorem dX8_markOf_103 : decode cX8_markOf 103 = .ok (.iload_n 3, 1) := by decide +kernel
theorem dX8_markOf_104 : decode cX8_markOf 104 = .ok (.imul, 1) := by decide +kernel
theorem dX8_markOf_105 : decode cX8_markOf 105 = .ok (.ireturn, 1) := by decide +kernel
theorem dX8_sizeOf_0 : decode cX8_sizeOf 0 = .ok (.aload_n 0, 1) := by decide +kernel
theorem dX8_sizeOf_1 : decode cX8_sizeOf 1 = .ok (.getfield 19, 3) := by decide +kernel
theorem dX8_sizeOf_4 : decode cX8_sizeOf 4 = .ok (.iload_n 1, 1) := by decide +kernel
theorem dX8_sizeOf_5 : decode cX8_sizeOf 5 = .ok (.iconst 0, 1) := by decide +kernel
theorem dX8_sizeOf_6 : decode cX8_sizeOf 6 = .ok (.invokestatic 155, 3) := by decide +kernel
theorem dX8_sizeOf_9 : decode cX8_sizeOf 9 = .ok (.istore_n 2, 1) := by decide +kernel
theorem dX8_sizeOf_10 : decode cX8_sizeOf 10 = .ok (.iload_n 2, 1) := by decide +kernel
theorem dX8_sizeOf_11 : decode cX8_sizeOf 11 = .ok (.iconst 4, 1) := by decide +kernel
theorem dX8_sizeOf_12 : decode cX8_sizeOf 12 = .ok (.if_icmp .lt 9, 3) := by decide +kernel
theorem dX8_sizeOf_15 : decode cX8_sizeOf 15 = .ok (.aload_n 0, 1) := by decide +kernel
theorem dX8_sizeOf_16 : decode cX8_sizeOf 16 = .ok (.iload_n 1, 1) := by decide +kernel
theorem dX8_sizeOf_17 : decode cX8_sizeOf 17 = .ok (.invokevirtual 288, 3) := by decide +kernel
theorem dX8_sizeOf_20 : decode cX8_sizeOf 20 = .ok (.ireturn, 1) := by decide +kernel
theorem dX8_sizeOf_21 : decode cX8_sizeOf 21 = .ok (.iload_n 2, 1) := by decide +kernel
theorem dX8_sizeOf_22 : decode cX8_sizeOf 22 = .ok (.iconst 2, 1) := by decide +kernel
theorem dX8_sizeOf_23 : decode cX8_sizeOf 23 = .ok (.if_icmp .ne 9, 3) := by decide +kernel
theorem dX8_sizeOf_26 : decode cX8_sizeOf 26 = .ok (.aload_n 0, 1) := by decide +kernel
theorem dX8_sizeOf_27 : decode cX8_sizeOf 27 = .ok (.bipush 12, 2) := by decide +kernel
theorem dX8_sizeOf_29 : decode cX8_sizeOf 29 = .ok (.invokevirtual 282, 3) := by decide +kernel
theorem dX8_sizeOf_32 : decode cX8_sizeOf 32 = .ok (.aload_n 0, 1) := by decide +kernel
theorem dX8_sizeOf_33 : decode cX8_sizeOf 33 = .ok (.bipush 11, 2) := by decide +kernel
theorem dX8_sizeOf_35 : decode cX8_sizeOf 35 = .ok (.invokevirtual 282, 3) := by decide +kernel
theorem dX8_sizeOf_38 : decode cX8_sizeOf 38 = .ok (.aload_n 0, 1) := by decide +kernel
theorem dX8_sizeOf_39 : decode cX8_sizeOf 39 = .ok (.iload_n 1, 1) := by decide +kernel
theorem dX8_sizeOf_40 : decode cX8_sizeOf 40 = .ok (.invokevirtual 285, 3) := by decide +kernel
theorem dX8_sizeOf_43 : decode cX8_sizeOf 43 = .ok (.istore_n 3, 1) := by decide +kernel
theorem dX8_sizeOf_44 : decode cX8_sizeOf 44 = .ok (.iload_n 3, 1) := by decide +kernel
theorem dX8_sizeOf_45 : decode cX8_sizeOf 45 = .ok (.aload_n 0, 1) := by decide +kernel
theorem dX8_sizeOf_46 : decode cX8_sizeOf 46 = .ok (.iload_n 1, 1) := by decide +kernel
theorem dX8_sizeOf_47 : decode cX8_sizeOf 47 = .ok (.invokevirtual 291, 3) := by decide +kernel
theorem dX8_sizeOf_50 : decode cX8_sizeOf 50 = .ok (.iadd, 1) := by decide +kernel
theorem dX8_sizeOf_51 : decode cX8_sizeOf 51 = .ok (.istore_n 3, 1) := by decide +kernel
theorem dX8_sizeOf_52 : decode cX8_sizeOf 52 = .ok (.iload_n 2, 1) := by decide +kernel
theorem dX8_sizeOf_53 : decode cX8_sizeOf 53 = .ok (.iconst 2, 1) := by decide +kernel
theorem dX8_sizeOf_54 : decode cX8_sizeOf 54 = .ok (.if_icmp .ne 8, 3) := by decide +kernel
theorem dX8_sizeOf_57 : decode cX8_sizeOf 57 = .ok (.iload_n 3, 1) := by decide +kernel
theorem dX8_sizeOf_58 : decode cX8_sizeOf 58 = .ok (.ineg, 1) := by decide +kernel
theorem dX8_sizeOf_59 : decode cX8_sizeOf 59 = .ok (.goto 4, 3) := by decide +kernel
theorem dX8_sizeOf_62 : decode cX8_sizeOf 62 = .ok (.iload_n 3, 1) := by decide +kernel
theorem dX8_sizeOf_63 : decode cX8_sizeOf 63 = .ok (.ireturn, 1) := by decide +kernel
theorem dX8_ask_0 : decode cX8_ask 0 = .ok (.aload_n 0, 1) := by decide +kernel
theorem dX8_ask_1 : decode cX8_ask 1 = .ok (.iconst 0, 1) := by decide +kernel
theorem dX8_ask_2 : decode cX8_ask 2 = .ok (.putfield 50, 3) := by decide +kernel
theorem dX8_ask_5 : decode cX8_ask 5 = .ok (.aload_n 0, 1) := by decide +kernel
theorem dX8_ask_6 : decode cX8_ask 6 = .ok (.iload_n 1, 1) := by decide +kernel
theorem dX8_ask_7 : decode cX8_ask 7 = .ok (.invokevirtual 208, 3) := by decide +kernel
theorem dX8_ask_10 : decode cX8_ask 10 = .ok (.ifCond .eq 13, 3) := by decide +kernel
theorem dX8_ask_13 : decode cX8_ask 13 = .ok (.iload_n 2, 1) := by decide +kernel
theorem dX8_ask_14 : decode cX8_ask 14 = .ok (.i2l, 1) := by decide +kernel
theorem dX8_ask_15 : decode cX8_ask 15 = .ok (.lconst 0, 1) := by decide +kernel
theorem dX8_ask_16 : decode cX8_ask 16 = .ok (.lconst 1, 1) := by decide +kernel
theorem dX8_ask_17 : decode cX8_ask 17 = .ok (.invokestatic 60, 3) := by decide +kernel
theorem dX8_ask_20 : decode cX8_ask 20 = .ok (.ifCond .ne 6, 3) := by decide +kernel
theorem dX8_ask_23 : decode cX8_ask 23 = .ok (.ldc 70, 2) := by decide +kernel
theorem dX8_ask_25 : decode cX8_ask 25 = .ok (.ireturn, 1) := by decide +kernel
theorem dX8_ask_26 : decode cX8_ask 26 = .ok (.aload_n 0, 1) := by decide +kernel
theorem dX8_ask_27 : decode cX8_ask 27 = .ok (.iconst 0, 1) := by decide +kernel
theorem dX8_ask_28 : decode cX8_ask 28 = .ok (.putfield 279, 3) := by decide +kernel
theorem dX8_ask_31 : decode cX8_ask 31 = .ok (.iload_n 2, 1) := by decide +kernel
theorem dX8_ask_32 : decode cX8_ask 32 = .ok (.ifCond .ne 11, 3) := by decide +kernel
theorem dX8_ask_35 : decode cX8_ask 35 = .ok (.aload_n 0, 1) := by decide +kernel
theorem dX8_ask_36 : decode cX8_ask 36 = .ok (.iload_n 1, 1) := by decide +kernel
theorem dX8_ask_37 : decode cX8_ask 37 = .ok (.invokevirtual 294, 3) := by decide +kernel
theorem dX8_ask_40 : decode cX8_ask 40 = .ok (.goto 8, 3) := by decide +kernel
theorem dX8_ask_43 : decode cX8_ask 43 = .ok (.aload_n 0, 1) := by decide +kernel
theorem dX8_ask_44 : decode cX8_ask 44 = .ok (.iload_n 1, 1) := by decide +kernel
theorem dX8_ask_45 : decode cX8_ask 45 = .ok (.invokevirtual 291, 3) := by decide +kernel
theorem dX8_ask_48 : decode cX8_ask 48 = .ok (.ireturn, 1) := by decide +kernel
theorem dX8_trace_0 : decode cX8_trace 0 = .ok (.aload_n 0, 1) := by decide +kernel
theorem dX8_trace_1 : decode cX8_trace 1 = .ok (.iconst 0, 1) := by decide +kernel
theorem dX8_trace_2 : decode cX8_trace 2 = .ok (.putfield 50, 3) := by decide +kernel
theorem dX8_trace_5 : decode cX8_trace 5 = .ok (.iload_n 1, 1) := by decide +kernel
theorem dX8_trace_6 : decode cX8_trace 6 = .ok (.i2l, 1) := by decide +kernel
theorem dX8_trace_7 : decode cX8_trace 7 = .ok (.lconst 0, 1) := by decide +kernel
theorem dX8_trace_8 : decode cX8_trace 8 = .ok (.aload_n 0, 1) := by decide +kernel
theorem dX8_trace_9 : decode cX8_trace 9 = .ok (.getfield 279, 3) := by decide +kernel
theorem dX8_trace_12 : decode cX8_trace 12 = .ok (.iconst 1, 1) := by decide +kernel
theorem dX8_trace_13 : decode cX8_trace 13 = .ok (.isub, 1) := by decide +kernel
theorem dX8_trace_14 : decode cX8_trace 14 = .ok (.i2l, 1) := by decide +kernel
theorem dX8_trace_15 : decode cX8_trace 15 = .ok (.invokestatic 60, 3) := by decide +kernel
theorem dX8_trace_18 : decode cX8_trace 18 = .ok (.ifCond .eq 12, 3) := by decide +kernel
theorem dX8_trace_21 : decode cX8_trace 21 = .ok (.aload_n 0, 1) := by decide +kernel
theorem dX8_trace_22 : decode cX8_trace 22 = .ok (.getfield 47, 3) := by decide +kernel
theorem dX8_trace_25 : decode cX8_trace 25 = .ok (.iload_n 1, 1) := by decide +kernel
theorem dX8_trace_26 : decode cX8_trace 26 = .ok (.iaload, 1) := by decide +kernel
theorem dX8_trace_27 : decode cX8_trace 27 = .ok (.goto 5, 3) := by decide +kernel
theorem dX8_trace_30 : decode cX8_trace 30 = .ok (.ldc 93, 2) := by decide +kernel
theorem dX8_trace_32 : decode cX8_trace 32 = .ok (.ireturn, 1) := by decide +kernel
theorem dX8_count_0 : decode cX8_count 0 = .ok (.aload_n 0, 1) := by decide +kernel
theorem dX8_count_1 : decode cX8_count 1 = .ok (.iconst 0, 1) := by decide +kernel
theorem dX8_count_2 : decode cX8_count 2 = .ok (.putfield 50, 3) := by decide +kernel
theorem dX8_count_5 : decode cX8_count 5 = .ok (.iconst 0, 1) := by decide +kernel
theorem dX8_count_6 : decode cX8_count 6 = .ok (.istore_n 2, 1) := by decide +kernel
theorem dX8_count_7 : decode cX8_count 7 = .ok (.iload_n 1, 1) := by decide +kernel
theorem dX8_count_8 : decode cX8_count 8 = .ok (.tableswitch 136 0 7 #[48, 81, 88, 95, 102, 114, 126, 131], 48) := by decide +kernel
theorem dX8_count_56 : decode cX8_count 56 = .ok (.iconst 0, 1) := by decide +kernel
theorem dX8_count_57 : decode cX8_count 57 = .ok (.istore_n 3, 1) := by decide +kernel
theorem dX8_count_58 : decode cX8_count 58 = .ok (.iload_n 3, 1) := by decide +kernel
theorem dX8_count_59 : decode cX8_count 59 = .ok (.bipush 8, 2) := by decide +kernel
theorem dX8_count_61 : decode cX8_count 61 = .ok (.if_icmp .ge 26, 3) := by decide +kernel
theorem dX8_count_64 : decode cX8_count 64 = .ok (.iload_n 2, 1) := by decide +kernel
theorem dX8_count_65 : decode cX8_count 65 = .ok (.aload_n 0, 1) := by decide +kernel
theorem dX8_count_66 : decode cX8_count 66 = .ok (.getfield 7, 3) := by decide +kernel
theorem dX8_count_69 : decode cX8_count 69 = .ok (.iload_n 3, 1) := by decide +kernel
theorem dX8_count_70 : decode cX8_count 70 = .ok (.iaload, 1) := by decide +kernel
theorem dX8_count_71 : decode cX8_count 71 = .ok (.ifCond .lt 7, 3) := by decide +kernel
theorem dX8_count_74 : decode cX8_count 74 = .ok (.iconst 1, 1) := by decide +kernel
theorem dX8_count_75 : decode cX8_count 75 = .ok (.goto 4, 3) := by decide +kernel
theorem dX8_count_78 : decode cX8_count 78 = .ok (.iconst 0, 1) := by decide +kernel
theorem dX8_count_79 : decode cX8_count 79 = .ok (.iadd, 1) := by decide +kernel
theorem dX8_count_80 : decode cX8_count 80 = .ok (.istore_n 2, 1) := by decide +kernel
theorem dX8_count_81 : decode cX8_count 81 = .ok (.iinc 3 1, 3) := by decide +kernel
theorem dX8_count_84 : decode cX8_count 84 = .ok (.goto (-26), 3) := by decide +kernel
theorem dX8_count_87 : decode cX8_count 87 = .ok (.iload_n 2, 1) := by decide +kernel
theorem dX8_count_88 : decode cX8_count 88 = .ok (.ireturn, 1) := by decide +kernel
theorem dX8_count_89 : decode cX8_count 89 = .ok (.aload_n 0, 1) := by decide +kernel
theorem dX8_count_90 : decode cX8_count 90 = .ok (.getfield 19, 3) := by decide +kernel
theorem dX8_count_93 : decode cX8_count 93 = .ok (.iconst 0, 1) := by decide +kernel
theorem dX8_count_94 : decode cX8_count 94 = .ok (.iaload, 1) := by decide +kernel
theorem dX8_count_95 : decode cX8_count 95 = .ok (.ireturn, 1) := by decide +kernel
theorem dX8_count_96 : decode cX8_count 96 = .ok (.aload_n 0, 1) := by decide +kernel
theorem dX8_count_97 : decode cX8_count 97 = .ok (.getfield 19, 3) := by decide +kernel
theorem dX8_count_100 : decode cX8_count 100 = .ok (.iconst 1, 1) := by decide +kernel
theorem dX8_count_101 : decode cX8_count 101 = .ok (.iaload, 1) := by decide +kernel
theorem dX8_count_102 : decode cX8_count 102 = .ok (.ireturn, 1) := by decide +kernel
theorem dX8_count_103 : decode cX8_count 103 = .ok (.aload_n 0, 1) := by decide +kernel
theorem dX8_count_104 : decode cX8_count 104 = .ok (.getfield 19, 3) := by decide +kernel
theorem dX8_count_107 : decode cX8_count 107 = .ok (.iconst 4, 1) := by decide +kernel
theorem dX8_count_108 : decode cX8_count 108 = .ok (.iaload, 1) := by decide +kernel
theorem dX8_count_109 : decode cX8_count 109 = .ok (.ireturn, 1) := by decide +kernel
theorem dX8_count_110 : decode cX8_count 110 = .ok (.aload_n 0, 1) := by decide +kernel
theorem dX8_count_111 : decode cX8_count 111 = .ok (.getfield 19, 3) := by decide +kernel
theorem dX8_count_114 : decode cX8_count 114 = .ok (.iconst 1, 1) := by decide +kernel
theorem dX8_count_115 : decode cX8_count 115 = .ok (.invokestatic 217, 3) := by decide +kernel
theorem dX8_count_118 : decode cX8_count 118 = .ok (.invokestatic 244, 3) := by decide +kernel
theorem dX8_count_121 : decode cX8_count 121 = .ok (.ireturn, 1) := by decide +kernel
theorem dX8_count_122 : decode cX8_count 122 = .ok (.aload_n 0, 1) := by decide +kernel
theorem dX8_count_123 : decode cX8_count 123 = .ok (.getfield 19, 3) := by decide +kernel
theorem dX8_count_126 : decode cX8_count 126 = .ok (.iconst 2, 1) := by decide +kernel
theorem dX8_count_127 : decode cX8_count 127 = .ok (.invokestatic 217, 3) := by decide +kernel
theorem dX8_count_130 : decode cX8_count 130 = .ok (.invokestatic 244, 3) := by decide +kernel
theorem dX8_count_133 : decode cX8_count 133 = .ok (.ireturn, 1) := by decide +kernel
theorem dX8_count_134 : decode cX8_count 134 = .ok (.aload_n 0, 1) := by decide +kernel
theorem dX8_count_135 : decode cX8_count 135 = .ok (.getfield 152, 3) := by decide +kernel
theorem dX8_count_138 : decode cX8_count 138 = .ok (.ireturn, 1) := by decide +kernel
theorem dX8_count_139 : decode cX8_count 139 = .ok (.aload_n 0, 1) := by decide +kernel
theorem dX8_count_140 : decode cX8_count 140 = .ok (.getfield 77, 3) := by decide +kernel
theorem dX8_count_143 : decode cX8_count 143 = .ok (.ireturn, 1) := by decide +kernel
theorem dX8_count_144 : decode cX8_count 144 = .ok (.ldc 70, 2) := by decide +kernel
theorem dX8_count_146 : decode cX8_count 146 = .ok (.ireturn, 1) := by decide +kernel
theorem dX8_status_0 : decode cX8_status 0 = .ok (.aload_n 0, 1) := by decide +kernel
theorem dX8_status_1 : decode cX8_status 1 = .ok (.iconst 0, 1) := by decide +kernel
theorem dX8_status_2 : decode cX8_status 2 = .ok (.putfield 50, 3) := by decide +kernel
theorem dX8_status_5 : decode cX8_status 5 = .ok (.aload_n 0, 1) := by decide +kernel
theorem dX8_status_6 : decode cX8_status 6 = .ok (.getfield 54, 3) := by decide +kernel
theorem dX8_status_9 : decode cX8_status 9 = .ok (.ireturn, 1) := by decide +kernel
