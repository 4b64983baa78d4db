theorem dX0_init_0 : decode cX0_init 0 = .ok (.aload_n 0, 1) := by decide +kernel
theorem dX0_init_1 : decode cX0_init 1 = .ok (.invokespecial 3, 3) := by decide +kernel
theorem dX0_init_4 : decode cX0_init 4 = .ok (.aload_n 0, 1) := by decide +kernel
theorem dX0_init_5 : decode cX0_init 5 = .ok (.bipush 24, 2) := by decide +kernel
theorem dX0_init_7 : decode cX0_init 7 = .ok (.anewarray 9, 3) := by decide +kernel
theorem dX0_init_10 : decode cX0_init 10 = .ok (.putfield 11, 3) := by decide +kernel
theorem dX0_init_13 : decode cX0_init 13 = .ok (.aload_n 0, 1) := by decide +kernel
theorem dX0_init_14 : decode cX0_init 14 = .ok (.iconst 0, 1) := by decide +kernel
theorem dX0_init_15 : decode cX0_init 15 = .ok (.putfield 17, 3) := by decide +kernel
theorem dX0_init_18 : decode cX0_init 18 = .ok (.aload_n 0, 1) := by decide +kernel
theorem dX0_init_19 : decode cX0_init 19 = .ok (.iconst 0, 1) := by decide +kernel
theorem dX0_init_20 : decode cX0_init 20 = .ok (.putfield 21, 3) := by decide +kernel
theorem dX0_init_23 : decode cX0_init 23 = .ok (.iconst 0, 1) := by decide +kernel
theorem dX0_init_24 : decode cX0_init 24 = .ok (.istore_n 1, 1) := by decide +kernel
theorem dX0_init_25 : decode cX0_init 25 = .ok (.iload_n 1, 1) := by decide +kernel
theorem dX0_init_26 : decode cX0_init 26 = .ok (.bipush 24, 2) := by decide +kernel
theorem dX0_init_28 : decode cX0_init 28 = .ok (.if_icmp .ge 22, 3) := by decide +kernel
theorem dX0_init_31 : decode cX0_init 31 = .ok (.aload_n 0, 1) := by decide +kernel
theorem dX0_init_32 : decode cX0_init 32 = .ok (.getfield 11, 3) := by decide +kernel
theorem dX0_init_35 : decode cX0_init 35 = .ok (.iload_n 1, 1) := by decide +kernel
theorem dX0_init_36 : decode cX0_init 36 = .ok (.new 9, 3) := by decide +kernel
theorem dX0_init_39 : decode cX0_init 39 = .ok (.dup, 1) := by decide +kernel
theorem dX0_init_40 : decode cX0_init 40 = .ok (.invokespecial 24, 3) := by decide +kernel
theorem dX0_init_43 : decode cX0_init 43 = .ok (.aastore, 1) := by decide +kernel
theorem dX0_init_44 : decode cX0_init 44 = .ok (.iinc 1 1, 3) := by decide +kernel
theorem dX0_init_47 : decode cX0_init 47 = .ok (.goto (-22), 3) := by decide +kernel
theorem dX0_init_50 : decode cX0_init 50 = .ok (.return_, 1) := by decide +kernel
theorem dX0_keep_0 : decode cX0_keep 0 = .ok (.aload_n 0, 1) := by decide +kernel
theorem dX0_keep_1 : decode cX0_keep 1 = .ok (.getfield 11, 3) := by decide +kernel
theorem dX0_keep_4 : decode cX0_keep 4 = .ok (.aload_n 0, 1) := by decide +kernel
theorem dX0_keep_5 : decode cX0_keep 5 = .ok (.getfield 17, 3) := by decide +kernel
theorem dX0_keep_8 : decode cX0_keep 8 = .ok (.aaload, 1) := by decide +kernel
theorem dX0_keep_9 : decode cX0_keep 9 = .ok (.aload_n 1, 1) := by decide +kernel
theorem dX0_keep_10 : decode cX0_keep 10 = .ok (.invokevirtual 25, 3) := by decide +kernel
theorem dX0_keep_13 : decode cX0_keep 13 = .ok (.aload_n 0, 1) := by decide +kernel
theorem dX0_keep_14 : decode cX0_keep 14 = .ok (.aload_n 0, 1) := by decide +kernel
theorem dX0_keep_15 : decode cX0_keep 15 = .ok (.getfield 17, 3) := by decide +kernel
theorem dX0_keep_18 : decode cX0_keep 18 = .ok (.iconst 1, 1) := by decide +kernel
theorem dX0_keep_19 : decode cX0_keep 19 = .ok (.iadd, 1) := by decide +kernel
theorem dX0_keep_20 : decode cX0_keep 20 = .ok (.bipush 24, 2) := by decide +kernel
theorem dX0_keep_22 : decode cX0_keep 22 = .ok (.irem, 1) := by decide +kernel
theorem dX0_keep_23 : decode cX0_keep 23 = .ok (.putfield 17, 3) := by decide +kernel
theorem dX0_keep_26 : decode cX0_keep 26 = .ok (.aload_n 0, 1) := by decide +kernel
theorem dX0_keep_27 : decode cX0_keep 27 = .ok (.aload_n 0, 1) := by decide +kernel
theorem dX0_keep_28 : decode cX0_keep 28 = .ok (.getfield 21, 3) := by decide +kernel
theorem dX0_keep_31 : decode cX0_keep 31 = .ok (.iconst 1, 1) := by decide +kernel
theorem dX0_keep_32 : decode cX0_keep 32 = .ok (.iadd, 1) := by decide +kernel
theorem dX0_keep_33 : decode cX0_keep 33 = .ok (.bipush 24, 2) := by decide +kernel
theorem dX0_keep_35 : decode cX0_keep 35 = .ok (.invokestatic 29, 3) := by decide +kernel
theorem dX0_keep_38 : decode cX0_keep 38 = .ok (.putfield 21, 3) := by decide +kernel
theorem dX0_keep_41 : decode cX0_keep 41 = .ok (.return_, 1) := by decide +kernel
theorem dX0_takeBack_0 : decode cX0_takeBack 0 = .ok (.aload_n 0, 1) := by decide +kernel
theorem dX0_takeBack_1 : decode cX0_takeBack 1 = .ok (.aload_n 0, 1) := by decide +kernel
theorem dX0_takeBack_2 : decode cX0_takeBack 2 = .ok (.getfield 17, 3) := by decide +kernel
theorem dX0_takeBack_5 : decode cX0_takeBack 5 = .ok (.bipush 24, 2) := by decide +kernel
theorem dX0_takeBack_7 : decode cX0_takeBack 7 = .ok (.iadd, 1) := by decide +kernel
theorem dX0_takeBack_8 : decode cX0_takeBack 8 = .ok (.iconst 1, 1) := by decide +kernel
theorem dX0_takeBack_9 : decode cX0_takeBack 9 = .ok (.isub, 1) := by decide +kernel
theorem dX0_takeBack_10 : decode cX0_takeBack 10 = .ok (.bipush 24, 2) := by decide +kernel
theorem dX0_takeBack_12 : decode cX0_takeBack 12 = .ok (.irem, 1) := by decide +kernel
theorem dX0_takeBack_13 : decode cX0_takeBack 13 = .ok (.putfield 17, 3) := by decide +kernel
theorem dX0_takeBack_16 : decode cX0_takeBack 16 = .ok (.aload_n 0, 1) := by decide +kernel
theorem dX0_takeBack_17 : decode cX0_takeBack 17 = .ok (.aload_n 0, 1) := by decide +kernel
theorem dX0_takeBack_18 : decode cX0_takeBack 18 = .ok (.getfield 21, 3) := by decide +kernel
theorem dX0_takeBack_21 : decode cX0_takeBack 21 = .ok (.iconst 1, 1) := by decide +kernel
theorem dX0_takeBack_22 : decode cX0_takeBack 22 = .ok (.isub, 1) := by decide +kernel
theorem dX0_takeBack_23 : decode cX0_takeBack 23 = .ok (.iconst 0, 1) := by decide +kernel
theorem dX0_takeBack_24 : decode cX0_takeBack 24 = .ok (.invokestatic 35, 3) := by decide +kernel
theorem dX0_takeBack_27 : decode cX0_takeBack 27 = .ok (.putfield 21, 3) := by decide +kernel
theorem dX0_takeBack_30 : decode cX0_takeBack 30 = .ok (.aload_n 1, 1) := by decide +kernel
theorem dX0_takeBack_31 : decode cX0_takeBack 31 = .ok (.aload_n 0, 1) := by decide +kernel
theorem dX0_takeBack_32 : decode cX0_takeBack 32 = .ok (.getfield 11, 3) := by decide +kernel
theorem dX0_takeBack_35 : decode cX0_takeBack 35 = .ok (.aload_n 0, 1) := by decide +kernel
theorem dX0_takeBack_36 : decode cX0_takeBack 36 = .ok (.getfield 17, 3) := by decide +kernel
theorem dX0_takeBack_39 : decode cX0_takeBack 39 = .ok (.aaload, 1) := by decide +kernel
theorem dX0_takeBack_40 : decode cX0_takeBack 40 = .ok (.invokevirtual 25, 3) := by decide +kernel
theorem dX0_takeBack_43 : decode cX0_takeBack 43 = .ok (.return_, 1) := by decide +kernel
theorem dX0_forget_0 : decode cX0_forget 0 = .ok (.aload_n 0, 1) := by decide +kernel
theorem dX0_forget_1 : decode cX0_forget 1 = .ok (.iconst 0, 1) := by decide +kernel
theorem dX0_forget_2 : decode cX0_forget 2 = .ok (.putfield 21, 3) := by decide +kernel
theorem dX0_forget_5 : decode cX0_forget 5 = .ok (.return_, 1) := by decide +kernel
theorem dX1_init_0 : decode cX1_init 0 = .ok (.aload_n 0, 1) := by decide +kernel
theorem dX1_init_1 : decode cX1_init 1 = .ok (.invokespecial 3, 3) := by decide +kernel
theorem dX1_init_4 : decode cX1_init 4 = .ok (.aload_n 0, 1) := by decide +kernel
theorem dX1_init_5 : decode cX1_init 5 = .ok (.bipush 16, 2) := by decide +kernel
theorem dX1_init_7 : decode cX1_init 7 = .ok (.newarray .int, 2) := by decide +kernel
theorem dX1_init_9 : decode cX1_init 9 = .ok (.putfield 9, 3) := by decide +kernel
theorem dX1_init_12 : decode cX1_init 12 = .ok (.aload_n 0, 1) := by decide +kernel
theorem dX1_init_13 : decode cX1_init 13 = .ok (.iconst 0, 1) := by decide +kernel
theorem dX1_init_14 : decode cX1_init 14 = .ok (.putfield 15, 3) := by decide +kernel
theorem dX1_init_17 : decode cX1_init 17 = .ok (.return_, 1) := by decide +kernel
theorem dX1_traced_0 : decode cX1_traced 0 = .ok (.iload_n 1, 1) := by decide +kernel
theorem dX1_traced_1 : decode cX1_traced 1 = .ok (.ifCond .lt 26, 3) := by decide +kernel
theorem dX1_traced_4 : decode cX1_traced 4 = .ok (.iload_n 1, 1) := by decide +kernel
theorem dX1_traced_5 : decode cX1_traced 5 = .ok (.aload_n 0, 1) := by decide +kernel
theorem dX1_traced_6 : decode cX1_traced 6 = .ok (.getfield 15, 3) := by decide +kernel
theorem dX1_traced_9 : decode cX1_traced 9 = .ok (.if_icmp .ge 18, 3) := by decide +kernel
theorem dX1_traced_12 : decode cX1_traced 12 = .ok (.iload_n 1, 1) := by decide +kernel
theorem dX1_traced_13 : decode cX1_traced 13 = .ok (.bipush 16, 2) := by decide +kernel
theorem dX1_traced_15 : decode cX1_traced 15 = .ok (.if_icmp .ge 12, 3) := by decide +kernel
theorem dX1_traced_18 : decode cX1_traced 18 = .ok (.aload_n 0, 1) := by decide +kernel
theorem dX1_traced_19 : decode cX1_traced 19 = .ok (.getfield 9, 3) := by decide +kernel
theorem dX1_traced_22 : decode cX1_traced 22 = .ok (.iload_n 1, 1) := by decide +kernel
theorem dX1_traced_23 : decode cX1_traced 23 = .ok (.iaload, 1) := by decide +kernel
theorem dX1_traced_24 : decode cX1_traced 24 = .ok (.goto 5, 3) := by decide +kernel
theorem dX1_traced_27 : decode cX1_traced 27 = .ok (.ldc 19, 2) := by decide +kernel
theorem dX1_traced_29 : decode cX1_traced 29 = .ok (.ireturn, 1) := by decide +kernel
theorem dX1_leave_0 : decode cX1_leave 0 = .ok (.aload_n 0, 1) := by decide +kernel
theorem dX1_leave_1 : decode cX1_leave 1 = .ok (.getfield 15, 3) := by decide +kernel
theorem dX1_leave_4 : decode cX1_leave 4 = .ok (.bipush 16, 2) := by decide +kernel
theorem dX1_leave_6 : decode cX1_leave 6 = .ok (.if_icmp .ge 23, 3) := by decide +kernel
theorem dX1_leave_9 : decode cX1_leave 9 = .ok (.aload_n 0, 1) := by decide +kernel
theorem dX1_leave_10 : decode cX1_leave 10 = .ok (.getfield 9, 3) := by decide +kernel
theorem dX1_leave_13 : decode cX1_leave 13 = .ok (.aload_n 0, 1) := by decide +kernel
theorem dX1_leave_14 : decode cX1_leave 14 = .ok (.getfield 15, 3) := by decide +kernel
theorem dX1_leave_17 : decode cX1_leave 17 = .ok (.iload_n 1, 1) := by decide +kernel
theorem dX1_leave_18 : decode cX1_leave 18 = .ok (.iastore, 1) := by decide +kernel
theorem dX1_leave_19 : decode cX1_leave 19 = .ok (.aload_n 0, 1) := by decide +kernel
theorem dX1_leave_20 : decode cX1_leave 20 = .ok (.dup, 1) := by decide +kernel
theorem dX1_leave_21 : decode cX1_leave 21 = .ok (.getfield 15, 3) := by decide +kernel
theorem dX1_leave_24 : decode cX1_leave 24 = .ok (.iconst 1, 1) := by decide +kernel
theorem dX1_leave_25 : decode cX1_leave 25 = .ok (.iadd, 1) := by decide +kernel
theorem dX1_leave_26 : decode cX1_leave 26 = .ok (.putfield 15, 3) := by decide +kernel
theorem dX1_leave_29 : decode cX1_leave 29 = .ok (.return_, 1) := by decide +kernel
theorem dX1_begin_0 : decode cX1_begin 0 = .ok (.aload_n 0, 1) := by decide +kernel
theorem dX1_begin_1 : decode cX1_begin 1 = .ok (.iconst 0, 1) := by decide +kernel
theorem dX1_begin_2 : decode cX1_begin 2 = .ok (.putfield 15, 3) := by decide +kernel
theorem dX1_begin_5 : decode cX1_begin 5 = .ok (.aload_n 0, 1) := by decide +kernel
theorem dX1_begin_6 : decode cX1_begin 6 = .ok (.iload_n 1, 1) := by decide +kernel
theorem dX1_begin_7 : decode cX1_begin 7 = .ok (.aload_n 2, 1) := by decide +kernel
theorem dX1_begin_8 : decode cX1_begin 8 = .ok (.iload_n 3, 1) := by decide +kernel
theorem dX1_begin_9 : decode cX1_begin 9 = .ok (.iconst 0, 1) := by decide +kernel
theorem dX1_begin_10 : decode cX1_begin 10 = .ok (.invokevirtual 20, 3) := by decide +kernel
theorem dX1_begin_13 : decode cX1_begin 13 = .ok (.ireturn, 1) := by decide +kernel
theorem dX1_give_0 : decode cX1_give 0 = .ok (.iload 4, 2) := by decide +kernel
theorem dX1_give_2 : decode cX1_give 2 = .ok (.bipush 8, 2) := by decide +kernel
theorem dX1_give_4 : decode cX1_give 4 = .ok (.if_icmp .le 5, 3) := by decide +kernel
theorem dX1_give_7 : decode cX1_give 7 = .ok (.iconst 0, 1) := by decide +kernel
theorem dX1_give_8 : decode cX1_give 8 = .ok (.ireturn, 1) := by decide +kernel
theorem dX1_give_9 : decode cX1_give 9 = .ok (.aload_n 0, 1) := by decide +kernel
theorem dX1_give_10 : decode cX1_give 10 = .ok (.iload_n 1, 1) := by decide +kernel
theorem dX1_give_11 : decode cX1_give 11 = .ok (.invokevirtual 24, 3) := by decide +kernel
theorem dX1_give_14 : decode cX1_give 14 = .ok (.iload 4, 2) := by decide +kernel
theorem dX1_give_16 : decode cX1_give 16 = .ok (.iconst 1, 1) := by decide +kernel
theorem dX1_give_17 : decode cX1_give 17 = .ok (.iadd, 1) := by decide +kernel
theorem dX1_give_18 : decode cX1_give 18 = .ok (.istore 5, 2) := by decide +kernel
theorem dX1_give_20 : decode cX1_give 20 = .ok (.iload_n 1, 1) := by decide +kernel
theorem dX1_give_21 : decode cX1_give 21 = .ok (.tableswitch 213 10 24 #[75, 80, 104, 116, 130, 213, 213, 213, 213, 213, 143, 145, 161, 176, 200], 75) := by decide +kernel
theorem dX1_give_96 : decode cX1_give 96 = .ok (.aload_n 2, 1) := by decide +kernel
theorem dX1_give_97 : decode cX1_give 97 = .ok (.getfield 28, 3) := by decide +kernel
theorem dX1_give_100 : decode cX1_give 100 = .ok (.ireturn, 1) := by decide +kernel
theorem dX1_give_101 : decode cX1_give 101 = .ok (.aload_n 0, 1) := by decide +kernel
theorem dX1_give_102 : decode cX1_give 102 = .ok (.bipush 10, 2) := by decide +kernel
theorem dX1_give_104 : decode cX1_give 104 = .ok (.aload_n 2, 1) := by decide +kernel
theorem dX1_give_105 : decode cX1_give 105 = .ok (.iload_n 3, 1) := by decide +kernel
theorem dX1_give_106 : decode cX1_give 106 = .ok (.iload 5, 2) := by decide +kernel
theorem dX1_give_108 : decode cX1_give 108 = .ok (.invokevirtual 20, 3) := by decide +kernel
theorem dX1_give_111 : decode cX1_give 111 = .ok (.aload_n 0, 1) := by decide +kernel
theorem dX1_give_112 : decode cX1_give 112 = .ok (.aload_n 2, 1) := by decide +kernel
theorem dX1_give_113 : decode cX1_give 113 = .ok (.invokevirtual 33, 3) := by decide +kernel
theorem dX1_give_116 : decode cX1_give 116 = .ok (.aload_n 2, 1) := by decide +kernel
theorem dX1_give_117 : decode cX1_give 117 = .ok (.iload_n 3, 1) := by decide +kernel
theorem dX1_give_118 : decode cX1_give 118 = .ok (.iload 5, 2) := by decide +kernel
theorem dX1_give_120 : decode cX1_give 120 = .ok (.invokevirtual 20, 3) := by decide +kernel
theorem dX1_give_123 : decode cX1_give 123 = .ok (.iadd, 1) := by decide +kernel
theorem dX1_give_124 : decode cX1_give 124 = .ok (.ireturn, 1) := by decide +kernel
theorem dX1_give_125 : decode cX1_give 125 = .ok (.aload_n 0, 1) := by decide +kernel
theorem dX1_give_126 : decode cX1_give 126 = .ok (.bipush 11, 2) := by decide +kernel
theorem dX1_give_128 : decode cX1_give 128 = .ok (.aload_n 2, 1) := by decide +kernel
theorem dX1_give_129 : decode cX1_give 129 = .ok (.iload_n 3, 1) := by decide +kernel
theorem dX1_give_130 : decode cX1_give 130 = .ok (.iload 5, 2) := by decide +kernel
theorem dX1_give_132 : decode cX1_give 132 = .ok (.invokevirtual 20, 3) := by decide +kernel
theorem dX1_give_135 : decode cX1_give 135 = .ok (.ineg, 1) := by decide +kernel
theorem dX1_give_136 : decode cX1_give 136 = .ok (.ireturn, 1) := by decide +kernel
theorem dX1_give_137 : decode cX1_give 137 = .ok (.aload_n 0, 1) := by decide +kernel
theorem dX1_give_138 : decode cX1_give 138 = .ok (.bipush 10, 2) := by decide +kernel
theorem dX1_give_140 : decode cX1_give 140 = .ok (.aload_n 2, 1) := by decide +kernel
theorem dX1_give_141 : decode cX1_give 141 = .ok (.iload_n 3, 1) := by decide +kernel
theorem dX1_give_142 : decode cX1_give 142 = .ok (.iload 5, 2) := by decide +kernel
theorem dX1_give_144 : decode cX1_give 144 = .ok (.invokevirtual 20, 3) := by decide +kernel
theorem dX1_give_147 : decode cX1_give 147 = .ok (.bipush 100, 2) := by decide +kernel
theorem dX1_give_149 : decode cX1_give 149 = .ok (.isub, 1) := by decide +kernel
theorem dX1_give_150 : decode cX1_give 150 = .ok (.ireturn, 1) := by decide +kernel
theorem dX1_give_151 : decode cX1_give 151 = .ok (.iconst 2, 1) := by decide +kernel
theorem dX1_give_152 : decode cX1_give 152 = .ok (.aload_n 0, 1) := by decide +kernel
theorem dX1_give_153 : decode cX1_give 153 = .ok (.bipush 13, 2) := by decide +kernel
theorem dX1_give_155 : decode cX1_give 155 = .ok (.aload_n 2, 1) := by decide +kernel
theorem dX1_give_156 : decode cX1_give 156 = .ok (.iload_n 3, 1) := by decide +kernel
theorem dX1_give_157 : decode cX1_give 157 = .ok (.iload 5, 2) := by decide +kernel
theorem dX1_give_159 : decode cX1_give 159 = .ok (.invokevirtual 20, 3) := by decide +kernel
theorem dX1_give_162 : decode cX1_give 162 = .ok (.imul, 1) := by decide +kernel
theorem dX1_give_163 : decode cX1_give 163 = .ok (.ireturn, 1) := by decide +kernel
theorem dX1_give_164 : decode cX1_give 164 = .ok (.iload_n 3, 1) := by decide +kernel
theorem dX1_give_165 : decode cX1_give 165 = .ok (.ireturn, 1) := by decide +kernel
theorem dX1_give_166 : decode cX1_give 166 = .ok (.aload_n 0, 1) := by decide +kernel
theorem dX1_give_167 : decode cX1_give 167 = .ok (.bipush 20, 2) := by decide +kernel
theorem dX1_give_169 : decode cX1_give 169 = .ok (.aload_n 2, 1) := by decide +kernel
theorem dX1_give_170 : decode cX1_give 170 = .ok (.iload_n 3, 1) := by decide +kernel
theorem dX1_give_171 : decode cX1_give 171 = .ok (.iload 5, 2) := by decide +kernel
theorem dX1_give_173 : decode cX1_give 173 = .ok (.invokevirtual 20, 3) := by decide +kernel
theorem dX1_give_176 : decode cX1_give 176 = .ok (.aload_n 2, 1) := by decide +kernel
theorem dX1_give_177 : decode cX1_give 177 = .ok (.getfield 37, 3) := by decide +kernel
theorem dX1_give_180 : decode cX1_give 180 = .ok (.iadd, 1) := by decide +kernel
theorem dX1_give_181 : decode cX1_give 181 = .ok (.ireturn, 1) := by decide +kernel
theorem dX1_give_182 : decode cX1_give 182 = .ok (.aload_n 0, 1) := by decide +kernel
theorem dX1_give_183 : decode cX1_give 183 = .ok (.bipush 21, 2) := by decide +kernel
theorem dX1_give_185 : decode cX1_give 185 = .ok (.aload_n 2, 1) := by decide +kernel
theorem dX1_give_186 : decode cX1_give 186 = .ok (.iload_n 3, 1) := by decide +kernel
theorem dX1_give_187 : decode cX1_give 187 = .ok (.iload 5, 2) := by decide +kernel
theorem dX1_give_189 : decode cX1_give 189 = .ok (.invokevirtual 20, 3) := by decide +kernel
theorem dX1_give_192 : decode cX1_give 192 = .ok (.sipush 1000, 3) := by decide +kernel
theorem dX1_give_195 : decode cX1_give 195 = .ok (.isub, 1) := by decide +kernel
theorem dX1_give_196 : decode cX1_give 196 = .ok (.ireturn, 1) := by decide +kernel
theorem dX1_give_197 : decode cX1_give 197 = .ok (.aload_n 0, 1) := by decide +kernel
theorem dX1_give_198 : decode cX1_give 198 = .ok (.bipush 20, 2) := by decide +kernel
theorem dX1_give_200 : decode cX1_give 200 = .ok (.aload_n 2, 1) := by decide +kernel
theorem dX1_give_201 : decode cX1_give 201 = .ok (.iload_n 3, 1) := by decide +kernel
theorem dX1_give_202 : decode cX1_give 202 = .ok (.iload 5, 2) := by decide +kernel
theorem dX1_give_204 : decode cX1_give 204 = .ok (.invokevirtual 20, 3) := by decide +kernel
theorem dX1_give_207 : decode cX1_give 207 = .ok (.aload_n 0, 1) := by decide +kernel
theorem dX1_give_208 : decode cX1_give 208 = .ok (.aload_n 2, 1) := by decide +kernel
theorem dX1_give_209 : decode cX1_give 209 = .ok (.invokevirtual 40, 3) := by decide +kernel
theorem dX1_give_212 : decode cX1_give 212 = .ok (.aload_n 2, 1) := by decide +kernel
theorem dX1_give_213 : decode cX1_give 213 = .ok (.iload_n 3, 1) := by decide +kernel
theorem dX1_give_214 : decode cX1_give 214 = .ok (.iload 5, 2) := by decide +kernel
theorem dX1_give_216 : decode cX1_give 216 = .ok (.invokevirtual 20, 3) := by decide +kernel
theorem dX1_give_219 : decode cX1_give 219 = .ok (.isub, 1) := by decide +kernel
theorem dX1_give_220 : decode cX1_give 220 = .ok (.ireturn, 1) := by decide +kernel
theorem dX1_give_221 : decode cX1_give 221 = .ok (.iconst 2, 1) := by decide +kernel
theorem dX1_give_222 : decode cX1_give 222 = .ok (.aload_n 0, 1) := by decide +kernel
theorem dX1_give_223 : decode cX1_give 223 = .ok (.bipush 21, 2) := by decide +kernel
theorem dX1_give_225 : decode cX1_give 225 = .ok (.aload_n 2, 1) := by decide +kernel
theorem dX1_give_226 : decode cX1_give 226 = .ok (.iload_n 3, 1) := by decide +kernel
theorem dX1_give_227 : decode cX1_give 227 = .ok (.iload 5, 2) := by decide +kernel
theorem dX1_give_229 : decode cX1_give 229 = .ok (.invokevirtual 20, 3) := by decide +kernel
theorem dX1_give_232 : decode cX1_give 232 = .ok (.imul, 1) := by decide +kernel
theorem dX1_give_233 : decode cX1_give 233 = .ok (.ireturn, 1) := by decide +kernel
theorem dX1_give_234 : decode cX1_give 234 = .ok (.iconst 0, 1) := by decide +kernel
theorem dX1_give_235 : decode cX1_give 235 = .ok (.ireturn, 1) := by decide +kernel
theorem dX2_init_0 : decode cX2_init 0 = .ok (.aload_n 0, 1) := by decide +kernel
theorem dX2_init_1 : decode cX2_init 1 = .ok (.invokespecial 3, 3) := by decide +kernel
theorem dX2_init_4 : decode cX2_init 4 = .ok (.aload_n 0, 1) := by decide +kernel
theorem dX2_init_5 : decode cX2_init 5 = .ok (.new 9, 3) := by decide +kernel
theorem dX2_init_8 : decode cX2_init 8 = .ok (.dup, 1) := by decide +kernel
theorem dX2_init_9 : decode cX2_init 9 = .ok (.invokespecial 11, 3) := by decide +kernel
theorem dX2_init_12 : decode cX2_init 12 = .ok (.putfield 12, 3) := by decide +kernel
theorem dX2_init_15 : decode cX2_init 15 = .ok (.aload_n 0, 1) := by decide +kernel
theorem dX2_init_16 : decode cX2_init 16 = .ok (.new 9, 3) := by decide +kernel
theorem dX2_init_19 : decode cX2_init 19 = .ok (.dup, 1) := by decide +kernel
theorem dX2_init_20 : decode cX2_init 20 = .ok (.invokespecial 11, 3) := by decide +kernel
theorem dX2_init_23 : decode cX2_init 23 = .ok (.putfield 18, 3) := by decide +kernel
theorem dX2_init_26 : decode cX2_init 26 = .ok (.aload_n 0, 1) := by decide +kernel
theorem dX2_init_27 : decode cX2_init 27 = .ok (.iconst 0, 1) := by decide +kernel
theorem dX2_init_28 : decode cX2_init 28 = .ok (.putfield 21, 3) := by decide +kernel
theorem dX2_init_31 : decode cX2_init 31 = .ok (.aload_n 0, 1) := by decide +kernel
theorem dX2_init_32 : decode cX2_init 32 = .ok (.aconst_null, 1) := by decide +kernel
theorem dX2_init_33 : decode cX2_init 33 = .ok (.putfield 25, 3) := by decide +kernel
theorem dX2_init_36 : decode cX2_init 36 = .ok (.aload_n 0, 1) := by decide +kernel
theorem dX2_init_37 : decode cX2_init 37 = .ok (.iconst 0, 1) := by decide +kernel
theorem dX2_init_38 : decode cX2_init 38 = .ok (.putfield 29, 3) := by decide +kernel
theorem dX2_init_41 : decode cX2_init 41 = .ok (.aload_n 0, 1) := by decide +kernel
theorem dX2_init_42 : decode cX2_init 42 = .ok (.iconst 0, 1) := by decide +kernel
theorem dX2_init_43 : decode cX2_init 43 = .ok (.putfield 32, 3) := by decide +kernel
theorem dX2_init_46 : decode cX2_init 46 = .ok (.aload_n 0, 1) := by decide +kernel
theorem dX2_init_47 : decode cX2_init 47 = .ok (.iconst 0, 1) := by decide +kernel
theorem dX2_init_48 : decode cX2_init 48 = .ok (.putfield 35, 3) := by decide +kernel
theorem dX2_init_51 : decode cX2_init 51 = .ok (.aload_n 0, 1) := by decide +kernel
theorem dX2_init_52 : decode cX2_init 52 = .ok (.iconst 0, 1) := by decide +kernel
theorem dX2_init_53 : decode cX2_init 53 = .ok (.putfield 38, 3) := by decide +kernel
theorem dX2_init_56 : decode cX2_init 56 = .ok (.aload_n 0, 1) := by decide +kernel
theorem dX2_init_57 : decode cX2_init 57 = .ok (.ldc 41, 2) := by decide +kernel
theorem dX2_init_59 : decode cX2_init 59 = .ok (.putfield 42, 3) := by decide +kernel
theorem dX2_init_62 : decode cX2_init 62 = .ok (.aload_n 0, 1) := by decide +kernel
theorem dX2_init_63 : decode cX2_init 63 = .ok (.ldc 41, 2) := by decide +kernel
theorem dX2_init_65 : decode cX2_init 65 = .ok (.putfield 45, 3) := by decide +kernel
theorem dX2_init_68 : decode cX2_init 68 = .ok (.return_, 1) := by decide +kernel
theorem dX2_draftAhead_0 : decode cX2_draftAhead 0 = .ok (.aload_n 0, 1) := by decide +kernel
theorem dX2_draftAhead_1 : decode cX2_draftAhead 1 = .ok (.getfield 18, 3) := by decide +kernel
theorem dX2_draftAhead_4 : decode cX2_draftAhead 4 = .ok (.aload_n 0, 1) := by decide +kernel
theorem dX2_draftAhead_5 : decode cX2_draftAhead 5 = .ok (.getfield 12, 3) := by decide +kernel
theorem dX2_draftAhead_8 : decode cX2_draftAhead 8 = .ok (.invokevirtual 48, 3) := by decide +kernel
theorem dX2_draftAhead_11 : decode cX2_draftAhead 11 = .ok (.aload_n 0, 1) := by decide +kernel
theorem dX2_draftAhead_12 : decode cX2_draftAhead 12 = .ok (.iload_n 1, 1) := by decide +kernel
theorem dX2_draftAhead_13 : decode cX2_draftAhead 13 = .ok (.invokevirtual 52, 3) := by decide +kernel
theorem dX2_draftAhead_16 : decode cX2_draftAhead 16 = .ok (.return_, 1) := by decide +kernel
theorem dX2_passDraft_0 : decode cX2_passDraft 0 = .ok (.iconst 0, 1) := by decide +kernel
theorem dX2_passDraft_1 : decode cX2_passDraft 1 = .ok (.istore_n 2, 1) := by decide +kernel
theorem dX2_passDraft_2 : decode cX2_passDraft 2 = .ok (.iload_n 2, 1) := by decide +kernel
theorem dX2_passDraft_3 : decode cX2_passDraft 3 = .ok (.iload_n 1, 1) := by decide +kernel
theorem dX2_passDraft_4 : decode cX2_passDraft 4 = .ok (.if_icmp .ge 24, 3) := by decide +kernel
theorem dX2_passDraft_7 : decode cX2_passDraft 7 = .ok (.aload_n 0, 1) := by decide +kernel
theorem dX2_passDraft_8 : decode cX2_passDraft 8 = .ok (.getfield 18, 3) := by decide +kernel
theorem dX2_passDraft_11 : decode cX2_passDraft 11 = .ok (.aload_n 0, 1) := by decide +kernel
theorem dX2_passDraft_12 : decode cX2_passDraft 12 = .ok (.getfield 18, 3) := by decide +kernel
theorem dX2_passDraft_15 : decode cX2_passDraft 15 = .ok (.iconst 0, 1) := by decide +kernel
theorem dX2_passDraft_16 : decode cX2_passDraft 16 = .ok (.invokevirtual 56, 3) := by decide +kernel
theorem dX2_passDraft_19 : decode cX2_passDraft 19 = .ok (.invokevirtual 60, 3) := by decide +kernel
theorem dX2_passDraft_22 : decode cX2_passDraft 22 = .ok (.iinc 2 1, 3) := by decide +kernel
theorem dX2_passDraft_25 : decode cX2_passDraft 25 = .ok (.goto (-23), 3) := by decide +kernel
theorem dX2_passDraft_28 : decode cX2_passDraft 28 = .ok (.return_, 1) := by decide +kernel
theorem dX2_firstHour_0 : decode cX2_firstHour 0 = .ok (.aload_n 0, 1) := by decide +kernel
theorem dX2_firstHour_1 : decode cX2_firstHour 1 = .ok (.getfield 18, 3) := by decide +kernel
theorem dX2_firstHour_4 : decode cX2_firstHour 4 = .ok (.aload_n 0, 1) := by decide +kernel
theorem dX2_firstHour_5 : decode cX2_firstHour 5 = .ok (.getfield 12, 3) := by decide +kernel
theorem dX2_firstHour_8 : decode cX2_firstHour 8 = .ok (.invokevirtual 48, 3) := by decide +kernel
theorem dX2_firstHour_11 : decode cX2_firstHour 11 = .ok (.iconst 0, 1) := by decide +kernel
theorem dX2_firstHour_12 : decode cX2_firstHour 12 = .ok (.istore_n 3, 1) := by decide +kernel
theorem dX2_firstHour_13 : decode cX2_firstHour 13 = .ok (.iload_n 3, 1) := by decide +kernel
theorem dX2_firstHour_14 : decode cX2_firstHour 14 = .ok (.bipush 60, 2) := by decide +kernel
theorem dX2_firstHour_16 : decode cX2_firstHour 16 = .ok (.if_icmp .gt 60, 3) := by decide +kernel
theorem dX2_firstHour_19 : decode cX2_firstHour 19 = .ok (.iload_n 2, 1) := by decide +kernel
theorem dX2_firstHour_20 : decode cX2_firstHour 20 = .ok (.ifCond .eq 22, 3) := by decide +kernel
theorem dX2_firstHour_23 : decode cX2_firstHour 23 = .ok (.aload_n 0, 1) := by decide +kernel
theorem dX2_firstHour_24 : decode cX2_firstHour 24 = .ok (.getfield 18, 3) := by decide +kernel
theorem dX2_firstHour_27 : decode cX2_firstHour 27 = .ok (.getfield 63, 3) := by decide +kernel
theorem dX2_firstHour_30 : decode cX2_firstHour 30 = .ok (.iload_n 1, 1) := by decide +kernel
theorem dX2_firstHour_31 : decode cX2_firstHour 31 = .ok (.aaload, 1) := by decide +kernel
theorem dX2_firstHour_32 : decode cX2_firstHour 32 = .ok (.getfield 67, 3) := by decide +kernel
theorem dX2_firstHour_35 : decode cX2_firstHour 35 = .ok (.iconst 2, 1) := by decide +kernel
theorem dX2_firstHour_36 : decode cX2_firstHour 36 = .ok (.if_icmp .ne 19, 3) := by decide +kernel
theorem dX2_firstHour_39 : decode cX2_firstHour 39 = .ok (.goto 14, 3) := by decide +kernel
theorem dX2_firstHour_42 : decode cX2_firstHour 42 = .ok (.aload_n 0, 1) := by decide +kernel
theorem dX2_firstHour_43 : decode cX2_firstHour 43 = .ok (.getfield 18, 3) := by decide +kernel
theorem dX2_firstHour_46 : decode cX2_firstHour 46 = .ok (.iload_n 1, 1) := by decide +kernel
theorem dX2_firstHour_47 : decode cX2_firstHour 47 = .ok (.invokevirtual 72, 3) := by decide +kernel
theorem dX2_firstHour_50 : decode cX2_firstHour 50 = .ok (.ifCond .eq 5, 3) := by decide +kernel
theorem dX2_firstHour_53 : decode cX2_firstHour 53 = .ok (.iload_n 3, 1) := by decide +kernel
theorem dX2_firstHour_54 : decode cX2_firstHour 54 = .ok (.ireturn, 1) := by decide +kernel
theorem dX2_firstHour_55 : decode cX2_firstHour 55 = .ok (.aload_n 0, 1) := by decide +kernel
theorem dX2_firstHour_56 : decode cX2_firstHour 56 = .ok (.getfield 18, 3) := by decide +kernel
theorem dX2_firstHour_59 : decode cX2_firstHour 59 = .ok (.aload_n 0, 1) := by decide +kernel
theorem dX2_firstHour_60 : decode cX2_firstHour 60 = .ok (.getfield 18, 3) := by decide +kernel
theorem dX2_firstHour_63 : decode cX2_firstHour 63 = .ok (.iconst 0, 1) := by decide +kernel
theorem dX2_firstHour_64 : decode cX2_firstHour 64 = .ok (.invokevirtual 56, 3) := by decide +kernel
theorem dX2_firstHour_67 : decode cX2_firstHour 67 = .ok (.invokevirtual 60, 3) := by decide +kernel
theorem dX2_firstHour_70 : decode cX2_firstHour 70 = .ok (.iinc 3 1, 3) := by decide +kernel
theorem dX2_firstHour_73 : decode cX2_firstHour 73 = .ok (.goto (-60), 3) := by decide +kernel
theorem dX2_firstHour_76 : decode cX2_firstHour 76 = .ok (.ldc 41, 2) := by decide +kernel
theorem dX2_firstHour_78 : decode cX2_firstHour 78 = .ok (.ireturn, 1) := by decide +kernel
theorem dX2_bestToSend_0 : decode cX2_bestToSend 0 = .ok (.aload_n 0, 1) := by decide +kernel
theorem dX2_bestToSend_1 : decode cX2_bestToSend 1 = .ok (.getfield 12, 3) := by decide +kernel
theorem dX2_bestToSend_4 : decode cX2_bestToSend 4 = .ok (.iconst 0, 1) := by decide +kernel
theorem dX2_bestToSend_5 : decode cX2_bestToSend 5 = .ok (.invokevirtual 76, 3) := by decide +kernel
theorem dX2_bestToSend_8 : decode cX2_bestToSend 8 = .ok (.istore 4, 2) := by decide +kernel
theorem dX2_bestToSend_10 : decode cX2_bestToSend 10 = .ok (.iconst 0, 1) := by decide +kernel
theorem dX2_bestToSend_11 : decode cX2_bestToSend 11 = .ok (.istore 5, 2) := by decide +kernel
theorem dX2_bestToSend_13 : decode cX2_bestToSend 13 = .ok (.iconst (-1), 1) := by decide +kernel
theorem dX2_bestToSend_14 : decode cX2_bestToSend 14 = .ok (.istore 6, 2) := by decide +kernel
theorem dX2_bestToSend_16 : decode cX2_bestToSend 16 = .ok (.iconst 0, 1) := by decide +kernel
theorem dX2_bestToSend_17 : decode cX2_bestToSend 17 = .ok (.istore 7, 2) := by decide +kernel
theorem dX2_bestToSend_19 : decode cX2_bestToSend 19 = .ok (.iload 7, 2) := by decide +kernel
theorem dX2_bestToSend_21 : decode cX2_bestToSend 21 = .ok (.bipush 64, 2) := by decide +kernel
theorem dX2_bestToSend_23 : decode cX2_bestToSend 23 = .ok (.if_icmp .ge 107, 3) := by decide +kernel
theorem dX2_bestToSend_26 : decode cX2_bestToSend 26 = .ok (.iload 7, 2) := by decide +kernel
theorem dX2_bestToSend_28 : decode cX2_bestToSend 28 = .ok (.iload 4, 2) := by decide +kernel
theorem dX2_bestToSend_30 : decode cX2_bestToSend 30 = .ok (.iconst (-1), 1) := by decide +kernel
theorem dX2_bestToSend_31 : decode cX2_bestToSend 31 = .ok (.ixor, 1) := by decide +kernel
theorem dX2_bestToSend_32 : decode cX2_bestToSend 32 = .ok (.iand, 1) := by decide +kernel
theorem dX2_bestToSend_33 : decode cX2_bestToSend 33 = .ok (.ifCond .eq 6, 3) := by decide +kernel
theorem dX2_bestToSend_36 : decode cX2_bestToSend 36 = .ok (.goto 88, 3) := by decide +kernel
theorem dX2_bestToSend_39 : decode cX2_bestToSend 39 = .ok (.aload_n 0, 1) := by decide +kernel
theorem dX2_bestToSend_40 : decode cX2_bestToSend 40 = .ok (.getfield 18, 3) := by decide +kernel
theorem dX2_bestToSend_43 : decode cX2_bestToSend 43 = .ok (.aload_n 0, 1) := by decide +kernel
theorem dX2_bestToSend_44 : decode cX2_bestToSend 44 = .ok (.getfield 12, 3) := by decide +kernel
theorem dX2_bestToSend_47 : decode cX2_bestToSend 47 = .ok (.invokevirtual 48, 3) := by decide +kernel
theorem dX2_bestToSend_50 : decode cX2_bestToSend 50 = .ok (.aload_n 0, 1) := by decide +kernel
theorem dX2_bestToSend_51 : decode cX2_bestToSend 51 = .ok (.getfield 18, 3) := by decide +kernel
theorem dX2_bestToSend_54 : decode cX2_bestToSend 54 = .ok (.iload 7, 2) := by decide +kernel
theorem dX2_bestToSend_56 : decode cX2_bestToSend 56 = .ok (.iload_n 2, 1) := by decide +kernel
theorem dX2_bestToSend_57 : decode cX2_bestToSend 57 = .ok (.invokevirtual 79, 3) := by decide +kernel
theorem dX2_bestToSend_60 : decode cX2_bestToSend 60 = .ok (.aload_n 0, 1) := by decide +kernel
theorem dX2_bestToSend_61 : decode cX2_bestToSend 61 = .ok (.iload_n 1, 1) := by decide +kernel
theorem dX2_bestToSend_62 : decode cX2_bestToSend 62 = .ok (.invokevirtual 52, 3) := by decide +kernel
theorem dX2_bestToSend_65 : decode cX2_bestToSend 65 = .ok (.aload_n 0, 1) := by decide +kernel
theorem dX2_bestToSend_66 : decode cX2_bestToSend 66 = .ok (.getfield 18, 3) := by decide +kernel
theorem dX2_bestToSend_69 : decode cX2_bestToSend 69 = .ok (.invokevirtual 83, 3) := by decide +kernel
theorem dX2_bestToSend_72 : decode cX2_bestToSend 72 = .ok (.invokestatic 87, 3) := by decide +kernel
theorem dX2_bestToSend_75 : decode cX2_bestToSend 75 = .ok (.istore 8, 2) := by decide +kernel
theorem dX2_bestToSend_77 : decode cX2_bestToSend 77 = .ok (.iload 7, 2) := by decide +kernel
theorem dX2_bestToSend_79 : decode cX2_bestToSend 79 = .ok (.invokestatic 87, 3) := by decide +kernel
theorem dX2_bestToSend_82 : decode cX2_bestToSend 82 = .ok (.iload 5, 2) := by decide +kernel
theorem dX2_bestToSend_84 : decode cX2_bestToSend 84 = .ok (.invokestatic 87, 3) := by decide +kernel
theorem dX2_bestToSend_87 : decode cX2_bestToSend 87 = .ok (.if_icmp .ge 7, 3) := by decide +kernel
theorem dX2_bestToSend_90 : decode cX2_bestToSend 90 = .ok (.iconst 1, 1) := by decide +kernel
theorem dX2_bestToSend_91 : decode cX2_bestToSend 91 = .ok (.goto 4, 3) := by decide +kernel
theorem dX2_bestToSend_94 : decode cX2_bestToSend 94 = .ok (.iconst 0, 1) := by decide +kernel
theorem dX2_bestToSend_95 : decode cX2_bestToSend 95 = .ok (.istore 9, 2) := by decide +kernel
theorem dX2_bestToSend_97 : decode cX2_bestToSend 97 = .ok (.iload 8, 2) := by decide +kernel
theorem dX2_bestToSend_99 : decode cX2_bestToSend 99 = .ok (.iload 6, 2) := by decide +kernel
theorem dX2_bestToSend_101 : decode cX2_bestToSend 101 = .ok (.if_icmp .gt 15, 3) := by decide +kernel
theorem dX2_bestToSend_104 : decode cX2_bestToSend 104 = .ok (.iload 8, 2) := by decide +kernel
theorem dX2_bestToSend_106 : decode cX2_bestToSend 106 = .ok (.iload 6, 2) := by decide +kernel
theorem dX2_bestToSend_108 : decode cX2_bestToSend 108 = .ok (.if_icmp .ne 16, 3) := by decide +kernel
theorem dX2_bestToSend_111 : decode cX2_bestToSend 111 = .ok (.iload 9, 2) := by decide +kernel
theorem dX2_bestToSend_113 : decode cX2_bestToSend 113 = .ok (.ifCond .eq 11, 3) := by decide +kernel
theorem dX2_bestToSend_116 : decode cX2_bestToSend 116 = .ok (.iload 8, 2) := by decide +kernel
theorem dX2_bestToSend_118 : decode cX2_bestToSend 118 = .ok (.istore 6, 2) := by decide +kernel
theorem dX2_bestToSend_120 : decode cX2_bestToSend 120 = .ok (.iload 7, 2) := by decide +kernel
theorem dX2_bestToSend_122 : decode cX2_bestToSend 122 = .ok (.istore 5, 2) := by decide +kernel
theorem dX2_bestToSend_124 : decode cX2_bestToSend 124 = .ok (.iinc 7 1, 3) := by decide +kernel
theorem dX2_bestToSend_127 : decode cX2_bestToSend 127 = .ok (.goto (-108), 3) := by decide +kernel
theorem dX2_bestToSend_130 : decode cX2_bestToSend 130 = .ok (.iload_n 3, 1) := by decide +kernel
theorem dX2_bestToSend_131 : decode cX2_bestToSend 131 = .ok (.ifCond .eq 8, 3) := by decide +kernel
theorem dX2_bestToSend_134 : decode cX2_bestToSend 134 = .ok (.iload 6, 2) := by decide +kernel
theorem dX2_bestToSend_136 : decode cX2_bestToSend 136 = .ok (.goto 5, 3) := by decide +kernel
theorem dX2_bestToSend_139 : decode cX2_bestToSend 139 = .ok (.iload 5, 2) := by decide +kernel
theorem dX2_bestToSend_141 : decode cX2_bestToSend 141 = .ok (.ireturn, 1) := by decide +kernel
theorem dX2_bestLetting_0 : decode cX2_bestLetting 0 = .ok (.iconst 1, 1) := by decide +kernel
theorem dX2_bestLetting_1 : decode cX2_bestLetting 1 = .ok (.iconst 2, 1) := by decide +kernel
theorem dX2_bestLetting_2 : decode cX2_bestLetting 2 = .ok (.iload_n 2, 1) := by decide +kernel
theorem dX2_bestLetting_3 : decode cX2_bestLetting 3 = .ok (.imul, 1) := by decide +kernel
theorem dX2_bestLetting_4 : decode cX2_bestLetting 4 = .ok (.ishl, 1) := by decide +kernel
theorem dX2_bestLetting_5 : decode cX2_bestLetting 5 = .ok (.istore 4, 2) := by decide +kernel
theorem dX2_bestLetting_7 : decode cX2_bestLetting 7 = .ok (.iconst 0, 1) := by decide +kernel
theorem dX2_bestLetting_8 : decode cX2_bestLetting 8 = .ok (.istore 5, 2) := by decide +kernel
theorem dX2_bestLetting_10 : decode cX2_bestLetting 10 = .ok (.iconst (-1), 1) := by decide +kernel
theorem dX2_bestLetting_11 : decode cX2_bestLetting 11 = .ok (.istore 6, 2) := by decide +kernel
theorem dX2_bestLetting_13 : decode cX2_bestLetting 13 = .ok (.iconst 0, 1) := by decide +kernel
theorem dX2_bestLetting_14 : decode cX2_bestLetting 14 = .ok (.istore 7, 2) := by decide +kernel
theorem dX2_bestLetting_16 : decode cX2_bestLetting 16 = .ok (.iload 7, 2) := by decide +kernel
theorem dX2_bestLetting_18 : decode cX2_bestLetting 18 = .ok (.iload 4, 2) := by decide +kernel
theorem dX2_bestLetting_20 : decode cX2_bestLetting 20 = .ok (.if_icmp .ge 34, 3) := by decide +kernel
theorem dX2_bestLetting_23 : decode cX2_bestLetting 23 = .ok (.aload_n 0, 1) := by decide +kernel
theorem dX2_bestLetting_24 : decode cX2_bestLetting 24 = .ok (.iload 7, 2) := by decide +kernel
theorem dX2_bestLetting_26 : decode cX2_bestLetting 26 = .ok (.iload_n 1, 1) := by decide +kernel
theorem dX2_bestLetting_27 : decode cX2_bestLetting 27 = .ok (.iload_n 2, 1) := by decide +kernel
theorem dX2_bestLetting_28 : decode cX2_bestLetting 28 = .ok (.invokevirtual 92, 3) := by decide +kernel
theorem dX2_bestLetting_31 : decode cX2_bestLetting 31 = .ok (.istore 8, 2) := by decide +kernel
theorem dX2_bestLetting_33 : decode cX2_bestLetting 33 = .ok (.iload 8, 2) := by decide +kernel
theorem dX2_bestLetting_35 : decode cX2_bestLetting 35 = .ok (.iload 6, 2) := by decide +kernel
theorem dX2_bestLetting_37 : decode cX2_bestLetting 37 = .ok (.if_icmp .le 11, 3) := by decide +kernel
theorem dX2_bestLetting_40 : decode cX2_bestLetting 40 = .ok (.iload 8, 2) := by decide +kernel
theorem dX2_bestLetting_42 : decode cX2_bestLetting 42 = .ok (.istore 6, 2) := by decide +kernel
theorem dX2_bestLetting_44 : decode cX2_bestLetting 44 = .ok (.iload 7, 2) := by decide +kernel
theorem dX2_bestLetting_46 : decode cX2_bestLetting 46 = .ok (.istore 5, 2) := by decide +kernel
theorem dX2_bestLetting_48 : decode cX2_bestLetting 48 = .ok (.iinc 7 1, 3) := by decide +kernel
theorem dX2_bestLetting_51 : decode cX2_bestLetting 51 = .ok (.goto (-35), 3) := by decide +kernel
theorem dX2_bestLetting_54 : decode cX2_bestLetting 54 = .ok (.iload 6, 2) := by decide +kernel
theorem dX2_bestLetting_56 : decode cX2_bestLetting 56 = .ok (.ifCond .lt 8, 3) := by decide +kernel
theorem dX2_bestLetting_59 : decode cX2_bestLetting 59 = .ok (.iload_n 3, 1) := by decide +kernel
theorem dX2_bestLetting_60 : decode cX2_bestLetting 60 = .ok (.iload_n 2, 1) := by decide +kernel
theorem dX2_bestLetting_61 : decode cX2_bestLetting 61 = .ok (.if_icmp .lt 6, 3) := by decide +kernel
theorem dX2_bestLetting_64 : decode cX2_bestLetting 64 = .ok (.ldc 41, 2) := by decide +kernel
theorem dX2_bestLetting_66 : decode cX2_bestLetting 66 = .ok (.ireturn, 1) := by decide +kernel
theorem dX2_bestLetting_67 : decode cX2_bestLetting 67 = .ok (.iload_n 3, 1) := by decide +kernel
theorem dX2_bestLetting_68 : decode cX2_bestLetting 68 = .ok (.ifCond .ge 8, 3) := by decide +kernel
theorem dX2_bestLetting_71 : decode cX2_bestLetting 71 = .ok (.iload 6, 2) := by decide +kernel
theorem dX2_bestLetting_73 : decode cX2_bestLetting 73 = .ok (.goto 10, 3) := by decide +kernel
theorem dX2_bestLetting_76 : decode cX2_bestLetting 76 = .ok (.iload 5, 2) := by decide +kernel
theorem dX2_bestLetting_78 : decode cX2_bestLetting 78 = .ok (.iload_n 2, 1) := by decide +kernel
theorem dX2_bestLetting_79 : decode cX2_bestLetting 79 = .ok (.iload_n 3, 1) := by decide +kernel
theorem dX2_bestLetting_80 : decode cX2_bestLetting 80 = .ok (.invokestatic 96, 3) := by decide +kernel
theorem dX2_bestLetting_83 : decode cX2_bestLetting 83 = .ok (.ireturn, 1) := by decide +kernel
theorem dX2_highBy_0 : decode cX2_highBy 0 = .ok (.aload_n 0, 1) := by decide +kernel
theorem dX2_highBy_1 : decode cX2_highBy 1 = .ok (.getfield 18, 3) := by decide +kernel
theorem dX2_highBy_4 : decode cX2_highBy 4 = .ok (.aload_n 0, 1) := by decide +kernel
theorem dX2_highBy_5 : decode cX2_highBy 5 = .ok (.getfield 12, 3) := by decide +kernel
theorem dX2_highBy_8 : decode cX2_highBy 8 = .ok (.invokevirtual 48, 3) := by decide +kernel
theorem dX2_highBy_11 : decode cX2_highBy 11 = .ok (.aload_n 0, 1) := by decide +kernel
theorem dX2_highBy_12 : decode cX2_highBy 12 = .ok (.getfield 18, 3) := by decide +kernel
theorem dX2_highBy_15 : decode cX2_highBy 15 = .ok (.getfield 63, 3) := by decide +kernel
theorem dX2_highBy_18 : decode cX2_highBy 18 = .ok (.iload_n 2, 1) := by decide +kernel
theorem dX2_highBy_19 : decode cX2_highBy 19 = .ok (.aaload, 1) := by decide +kernel
theorem dX2_highBy_20 : decode cX2_highBy 20 = .ok (.astore 4, 2) := by decide +kernel
theorem dX2_highBy_22 : decode cX2_highBy 22 = .ok (.iconst 0, 1) := by decide +kernel
theorem dX2_highBy_23 : decode cX2_highBy 23 = .ok (.istore 5, 2) := by decide +kernel
theorem dX2_highBy_25 : decode cX2_highBy 25 = .ok (.iload 5, 2) := by decide +kernel
theorem dX2_highBy_27 : decode cX2_highBy 27 = .ok (.iload_n 3, 1) := by decide +kernel
theorem dX2_highBy_28 : decode cX2_highBy 28 = .ok (.if_icmp .ge 47, 3) := by decide +kernel
theorem dX2_highBy_31 : decode cX2_highBy 31 = .ok (.aload 4, 2) := by decide +kernel
theorem dX2_highBy_33 : decode cX2_highBy 33 = .ok (.invokevirtual 99, 3) := by decide +kernel
theorem dX2_highBy_36 : decode cX2_highBy 36 = .ok (.ifCond .eq 39, 3) := by decide +kernel
theorem dX2_highBy_39 : decode cX2_highBy 39 = .ok (.aload 4, 2) := by decide +kernel
theorem dX2_highBy_41 : decode cX2_highBy 41 = .ok (.iload_n 1, 1) := by decide +kernel
theorem dX2_highBy_42 : decode cX2_highBy 42 = .ok (.iload_n 3, 1) := by decide +kernel
theorem dX2_highBy_43 : decode cX2_highBy 43 = .ok (.iload 5, 2) := by decide +kernel
theorem dX2_highBy_45 : decode cX2_highBy 45 = .ok (.invokestatic 96, 3) := by decide +kernel
theorem dX2_highBy_48 : decode cX2_highBy 48 = .ok (.invokestatic 103, 3) := by decide +kernel
theorem dX2_highBy_51 : decode cX2_highBy 51 = .ok (.invokevirtual 106, 3) := by decide +kernel
theorem dX2_highBy_54 : decode cX2_highBy 54 = .ok (.aload_n 0, 1) := by decide +kernel
theorem dX2_highBy_55 : decode cX2_highBy 55 = .ok (.getfield 18, 3) := by decide +kernel
theorem dX2_highBy_58 : decode cX2_highBy 58 = .ok (.aload_n 0, 1) := by decide +kernel
theorem dX2_highBy_59 : decode cX2_highBy 59 = .ok (.getfield 18, 3) := by decide +kernel
theorem dX2_highBy_62 : decode cX2_highBy 62 = .ok (.iconst 0, 1) := by decide +kernel
theorem dX2_highBy_63 : decode cX2_highBy 63 = .ok (.invokevirtual 56, 3) := by decide +kernel
theorem dX2_highBy_66 : decode cX2_highBy 66 = .ok (.invokevirtual 60, 3) := by decide +kernel
theorem dX2_highBy_69 : decode cX2_highBy 69 = .ok (.iinc 5 1, 3) := by decide +kernel
theorem dX2_highBy_72 : decode cX2_highBy 72 = .ok (.goto (-47), 3) := by decide +kernel
theorem dX2_highBy_75 : decode cX2_highBy 75 = .ok (.aload 4, 2) := by decide +kernel
theorem dX2_highBy_77 : decode cX2_highBy 77 = .ok (.invokevirtual 99, 3) := by decide +kernel
theorem dX2_highBy_80 : decode cX2_highBy 80 = .ok (.ifCond .eq 11, 3) := by decide +kernel
theorem dX2_highBy_83 : decode cX2_highBy 83 = .ok (.aload 4, 2) := by decide +kernel
theorem dX2_highBy_85 : decode cX2_highBy 85 = .ok (.getfield 109, 3) := by decide +kernel
theorem dX2_highBy_88 : decode cX2_highBy 88 = .ok (.goto 4, 3) := by decide +kernel
theorem dX2_highBy_91 : decode cX2_highBy 91 = .ok (.iconst (-1), 1) := by decide +kernel
theorem dX2_highBy_92 : decode cX2_highBy 92 = .ok (.ireturn, 1) := by decide +kernel
theorem dX2_lettingAt_0 : decode cX2_lettingAt 0 = .ok (.iload_n 0, 1) := by decide +kernel
theorem dX2_lettingAt_1 : decode cX2_lettingAt 1 = .ok (.iconst 2, 1) := by decide +kernel
theorem dX2_lettingAt_2 : decode cX2_lettingAt 2 = .ok (.iload_n 1, 1) := by decide +kernel
theorem dX2_lettingAt_3 : decode cX2_lettingAt 3 = .ok (.iconst 1, 1) := by decide +kernel
theorem dX2_lettingAt_4 : decode cX2_lettingAt 4 = .ok (.isub, 1) := by decide +kernel
theorem dX2_lettingAt_5 : decode cX2_lettingAt 5 = .ok (.iload_n 2, 1) := by decide +kernel
theorem dX2_lettingAt_6 : decode cX2_lettingAt 6 = .ok (.isub, 1) := by decide +kernel
theorem dX2_lettingAt_7 : decode cX2_lettingAt 7 = .ok (.imul, 1) := by decide +kernel
theorem dX2_lettingAt_8 : decode cX2_lettingAt 8 = .ok (.ishr, 1) := by decide +kernel
theorem dX2_lettingAt_9 : decode cX2_lettingAt 9 = .ok (.iconst 3, 1) := by decide +kernel
theorem dX2_lettingAt_10 : decode cX2_lettingAt 10 = .ok (.iand, 1) := by decide +kernel
theorem dX2_lettingAt_11 : decode cX2_lettingAt 11 = .ok (.ireturn, 1) := by decide +kernel
theorem dX2_yardsOf_0 : decode cX2_yardsOf 0 = .ok (.iload_n 0, 1) := by decide +kernel
theorem dX2_yardsOf_1 : decode cX2_yardsOf 1 = .ok (.iconst 3, 1) := by decide +kernel
theorem dX2_yardsOf_2 : decode cX2_yardsOf 2 = .ok (.if_icmp .ne 8, 3) := by decide +kernel
theorem dX2_yardsOf_5 : decode cX2_yardsOf 5 = .ok (.bipush (-5), 2) := by decide +kernel
theorem dX2_yardsOf_7 : decode cX2_yardsOf 7 = .ok (.goto 6, 3) := by decide +kernel
theorem dX2_yardsOf_10 : decode cX2_yardsOf 10 = .ok (.iconst 5, 1) := by decide +kernel
theorem dX2_yardsOf_11 : decode cX2_yardsOf 11 = .ok (.iload_n 0, 1) := by decide +kernel
theorem dX2_yardsOf_12 : decode cX2_yardsOf 12 = .ok (.imul, 1) := by decide +kernel
theorem dX2_yardsOf_13 : decode cX2_yardsOf 13 = .ok (.ireturn, 1) := by decide +kernel
theorem dX2_greatestWeight_0 : decode cX2_greatestWeight 0 = .ok (.bipush 60, 2) := by decide +kernel
theorem dX2_greatestWeight_2 : decode cX2_greatestWeight 2 = .ok (.istore_n 3, 1) := by decide +kernel
theorem dX2_greatestWeight_3 : decode cX2_greatestWeight 3 = .ok (.iload_n 3, 1) := by decide +kernel
theorem dX2_greatestWeight_4 : decode cX2_greatestWeight 4 = .ok (.iconst 1, 1) := by decide +kernel
theorem dX2_greatestWeight_5 : decode cX2_greatestWeight 5 = .ok (.if_icmp .lt 34, 3) := by decide +kernel
theorem dX2_greatestWeight_8 : decode cX2_greatestWeight 8 = .ok (.aload_n 0, 1) := by decide +kernel
theorem dX2_greatestWeight_9 : decode cX2_greatestWeight 9 = .ok (.iconst 2, 1) := by decide +kernel
theorem dX2_greatestWeight_10 : decode cX2_greatestWeight 10 = .ok (.iload_n 1, 1) := by decide +kernel
theorem dX2_greatestWeight_11 : decode cX2_greatestWeight 11 = .ok (.iload_n 3, 1) := by decide +kernel
theorem dX2_greatestWeight_12 : decode cX2_greatestWeight 12 = .ok (.invokevirtual 112, 3) := by decide +kernel
theorem dX2_greatestWeight_15 : decode cX2_greatestWeight 15 = .ok (.aload_n 0, 1) := by decide +kernel
theorem dX2_greatestWeight_16 : decode cX2_greatestWeight 16 = .ok (.iload_n 2, 1) := by decide +kernel
theorem dX2_greatestWeight_17 : decode cX2_greatestWeight 17 = .ok (.invokevirtual 52, 3) := by decide +kernel
theorem dX2_greatestWeight_20 : decode cX2_greatestWeight 20 = .ok (.aload_n 0, 1) := by decide +kernel
theorem dX2_greatestWeight_21 : decode cX2_greatestWeight 21 = .ok (.getfield 18, 3) := by decide +kernel
theorem dX2_greatestWeight_24 : decode cX2_greatestWeight 24 = .ok (.iload_n 1, 1) := by decide +kernel
theorem dX2_greatestWeight_25 : decode cX2_greatestWeight 25 = .ok (.invokevirtual 72, 3) := by decide +kernel
theorem dX2_greatestWeight_28 : decode cX2_greatestWeight 28 = .ok (.ifCond .eq 5, 3) := by decide +kernel
theorem dX2_greatestWeight_31 : decode cX2_greatestWeight 31 = .ok (.iload_n 3, 1) := by decide +kernel
theorem dX2_greatestWeight_32 : decode cX2_greatestWeight 32 = .ok (.ireturn, 1) := by decide +kernel
theorem dX2_greatestWeight_33 : decode cX2_greatestWeight 33 = .ok (.iinc 3 (-1), 3) := by decide +kernel
theorem dX2_greatestWeight_36 : decode cX2_greatestWeight 36 = .ok (.goto (-33), 3) := by decide +kernel
theorem dX2_greatestWeight_39 : decode cX2_greatestWeight 39 = .ok (.ldc 41, 2) := by decide +kernel
theorem dX2_greatestWeight_41 : decode cX2_greatestWeight 41 = .ok (.ireturn, 1) := by decide +kernel
theorem dX2_leastSnappingForce_0 : decode cX2_leastSnappingForce 0 = .ok (.iconst 0, 1) := by decide +kernel
theorem dX2_leastSnappingForce_1 : decode cX2_leastSnappingForce 1 = .ok (.istore_n 2, 1) := by decide +kernel
theorem dX2_leastSnappingForce_2 : decode cX2_leastSnappingForce 2 = .ok (.iload_n 2, 1) := by decide +kernel
theorem dX2_leastSnappingForce_3 : decode cX2_leastSnappingForce 3 = .ok (.bipush 99, 2) := by decide +kernel
theorem dX2_leastSnappingForce_5 : decode cX2_leastSnappingForce 5 = .ok (.if_icmp .gt 42, 3) := by decide +kernel
theorem dX2_leastSnappingForce_8 : decode cX2_leastSnappingForce 8 = .ok (.aload_n 0, 1) := by decide +kernel
theorem dX2_leastSnappingForce_9 : decode cX2_leastSnappingForce 9 = .ok (.getfield 12, 3) := by decide +kernel
theorem dX2_leastSnappingForce_12 : decode cX2_leastSnappingForce 12 = .ok (.getfield 63, 3) := by decide +kernel
theorem dX2_leastSnappingForce_15 : decode cX2_leastSnappingForce 15 = .ok (.iload_n 1, 1) := by decide +kernel
theorem dX2_leastSnappingForce_16 : decode cX2_leastSnappingForce 16 = .ok (.aaload, 1) := by decide +kernel
theorem dX2_leastSnappingForce_17 : decode cX2_leastSnappingForce 17 = .ok (.aload_n 0, 1) := by decide +kernel
theorem dX2_leastSnappingForce_18 : decode cX2_leastSnappingForce 18 = .ok (.getfield 12, 3) := by decide +kernel
theorem dX2_leastSnappingForce_21 : decode cX2_leastSnappingForce 21 = .ok (.iload_n 1, 1) := by decide +kernel
theorem dX2_leastSnappingForce_22 : decode cX2_leastSnappingForce 22 = .ok (.iload_n 2, 1) := by decide +kernel
theorem dX2_leastSnappingForce_23 : decode cX2_leastSnappingForce 23 = .ok (.invokevirtual 116, 3) := by decide +kernel
theorem dX2_leastSnappingForce_26 : decode cX2_leastSnappingForce 26 = .ok (.aload_n 0, 1) := by decide +kernel
theorem dX2_leastSnappingForce_27 : decode cX2_leastSnappingForce 27 = .ok (.getfield 12, 3) := by decide +kernel
theorem dX2_leastSnappingForce_30 : decode cX2_leastSnappingForce 30 = .ok (.getfield 120, 3) := by decide +kernel
theorem dX2_leastSnappingForce_33 : decode cX2_leastSnappingForce 33 = .ok (.invokevirtual 123, 3) := by decide +kernel
theorem dX2_leastSnappingForce_36 : decode cX2_leastSnappingForce 36 = .ok (.ifCond .eq 5, 3) := by decide +kernel
theorem dX2_leastSnappingForce_39 : decode cX2_leastSnappingForce 39 = .ok (.iload_n 2, 1) := by decide +kernel
theorem dX2_leastSnappingForce_40 : decode cX2_leastSnappingForce 40 = .ok (.ireturn, 1) := by decide +kernel
theorem dX2_leastSnappingForce_41 : decode cX2_leastSnappingForce 41 = .ok (.iinc 2 1, 3) := by decide +kernel
theorem dX2_leastSnappingForce_44 : decode cX2_leastSnappingForce 44 = .ok (.goto (-42), 3) := by decide +kernel
theorem dX2_leastSnappingForce_47 : decode cX2_leastSnappingForce 47 = .ok (.ldc 41, 2) := by decide +kernel
theorem dX2_leastSnappingForce_49 : decode cX2_leastSnappingForce 49 = .ok (.ireturn, 1) := by decide +kernel
theorem dX2_watch_0 : decode cX2_watch 0 = .ok (.aload_n 0, 1) := by decide +kernel
theorem dX2_watch_1 : decode cX2_watch 1 = .ok (.iload_n 1, 1) := by decide +kernel
theorem dX2_watch_2 : decode cX2_watch 2 = .ok (.putfield 21, 3) := by decide +kernel
theorem dX2_watch_5 : decode cX2_watch 5 = .ok (.aload_n 0, 1) := by decide +kernel
theorem dX2_watch_6 : decode cX2_watch 6 = .ok (.aload_n 2, 1) := by decide +kernel
theorem dX2_watch_7 : decode cX2_watch 7 = .ok (.putfield 25, 3) := by decide +kernel
theorem dX2_watch_10 : decode cX2_watch 10 = .ok (.aload_n 0, 1) := by decide +kernel
theorem dX2_watch_11 : decode cX2_watch 11 = .ok (.iload_n 3, 1) := by decide +kernel
theorem dX2_watch_12 : decode cX2_watch 12 = .ok (.putfield 29, 3) := by decide +kernel
theorem dX2_watch_15 : decode cX2_watch 15 = .ok (.aload_n 0, 1) := by decide +kernel
theorem dX2_watch_16 : decode cX2_watch 16 = .ok (.iload 4, 2) := by decide +kernel
theorem dX2_watch_18 : decode cX2_watch 18 = .ok (.putfield 32, 3) := by decide +kernel
theorem dX2_watch_21 : decode cX2_watch 21 = .ok (.return_, 1) := by decide +kernel
theorem dX2_fittingPapers_0 : decode cX2_fittingPapers 0 = .ok (.iload_n 1, 1) := by decide +kernel
theorem dX2_fittingPapers_1 : decode cX2_fittingPapers 1 = .ok (.lookupswitch 60 #[(0, 27), (1, 43)], 27) := by decide +kernel
theorem dX2_fittingPapers_28 : decode cX2_fittingPapers 28 = .ok (.aload_n 0, 1) := by decide +kernel
theorem dX2_fittingPapers_29 : decode cX2_fittingPapers 29 = .ok (.iconst 0, 1) := by decide +kernel
theorem dX2_fittingPapers_30 : decode cX2_fittingPapers 30 = .ok (.aload_n 0, 1) := by decide +kernel
theorem dX2_fittingPapers_31 : decode cX2_fittingPapers 31 = .ok (.getfield 21, 3) := by decide +kernel
theorem dX2_fittingPapers_34 : decode cX2_fittingPapers 34 = .ok (.iconst 1, 1) := by decide +kernel
theorem dX2_fittingPapers_35 : decode cX2_fittingPapers 35 = .ok (.iconst 5, 1) := by decide +kernel
theorem dX2_fittingPapers_36 : decode cX2_fittingPapers 36 = .ok (.invokevirtual 127, 3) := by decide +kernel
theorem dX2_fittingPapers_39 : decode cX2_fittingPapers 39 = .ok (.aload_n 0, 1) := by decide +kernel
theorem dX2_fittingPapers_40 : decode cX2_fittingPapers 40 = .ok (.getfield 35, 3) := by decide +kernel
theorem dX2_fittingPapers_43 : decode cX2_fittingPapers 43 = .ok (.ireturn, 1) := by decide +kernel
theorem dX2_fittingPapers_44 : decode cX2_fittingPapers 44 = .ok (.aload_n 0, 1) := by decide +kernel
theorem dX2_fittingPapers_45 : decode cX2_fittingPapers 45 = .ok (.iconst 1, 1) := by decide +kernel
theorem dX2_fittingPapers_46 : decode cX2_fittingPapers 46 = .ok (.aload_n 0, 1) := by decide +kernel
theorem dX2_fittingPapers_47 : decode cX2_fittingPapers 47 = .ok (.getfield 21, 3) := by decide +kernel
theorem dX2_fittingPapers_50 : decode cX2_fittingPapers 50 = .ok (.iconst 0, 1) := by decide +kernel
theorem dX2_fittingPapers_51 : decode cX2_fittingPapers 51 = .ok (.bipush 9, 2) := by decide +kernel
theorem dX2_fittingPapers_53 : decode cX2_fittingPapers 53 = .ok (.invokevirtual 127, 3) := by decide +kernel
theorem dX2_fittingPapers_56 : decode cX2_fittingPapers 56 = .ok (.aload_n 0, 1) := by decide +kernel
theorem dX2_fittingPapers_57 : decode cX2_fittingPapers 57 = .ok (.getfield 35, 3) := by decide +kernel
theorem dX2_fittingPapers_60 : decode cX2_fittingPapers 60 = .ok (.ireturn, 1) := by decide +kernel
theorem dX2_fittingPapers_61 : decode cX2_fittingPapers 61 = .ok (.aload_n 0, 1) := by decide +kernel
theorem dX2_fittingPapers_62 : decode cX2_fittingPapers 62 = .ok (.iconst 2, 1) := by decide +kernel
theorem dX2_fittingPapers_63 : decode cX2_fittingPapers 63 = .ok (.aload_n 0, 1) := by decide +kernel
theorem dX2_fittingPapers_64 : decode cX2_fittingPapers 64 = .ok (.getfield 21, 3) := by decide +kernel
theorem dX2_fittingPapers_67 : decode cX2_fittingPapers 67 = .ok (.iconst 1, 1) := by decide +kernel
theorem dX2_fittingPapers_68 : decode cX2_fittingPapers 68 = .ok (.bipush 60, 2) := by decide +kernel
theorem dX2_fittingPapers_70 : decode cX2_fittingPapers 70 = .ok (.invokevirtual 127, 3) := by decide +kernel
theorem dX2_fittingPapers_73 : decode cX2_fittingPapers 73 = .ok (.iload_n 1, 1) := by decide +kernel
theorem dX2_fittingPapers_74 : decode cX2_fittingPapers 74 = .ok (.iconst 2, 1) := by decide +kernel
theorem dX2_fittingPapers_75 : decode cX2_fittingPapers 75 = .ok (.if_icmp .ne 8, 3) := by decide +kernel
theorem dX2_fittingPapers_78 : decode cX2_fittingPapers 78 = .ok (.aload_n 0, 1) := by decide +kernel
theorem dX2_fittingPapers_79 : decode cX2_fittingPapers 79 = .ok (.getfield 38, 3) := by decide +kernel
theorem dX2_fittingPapers_82 : decode cX2_fittingPapers 82 = .ok (.ireturn, 1) := by decide +kernel
theorem dX2_fittingPapers_83 : decode cX2_fittingPapers 83 = .ok (.iload_n 1, 1) := by decide +kernel
theorem dX2_fittingPapers_84 : decode cX2_fittingPapers 84 = .ok (.iconst 3, 1) := by decide +kernel
theorem dX2_fittingPapers_85 : decode cX2_fittingPapers 85 = .ok (.if_icmp .ne 10, 3) := by decide +kernel
theorem dX2_fittingPapers_88 : decode cX2_fittingPapers 88 = .ok (.aload_n 0, 1) := by decide +kernel
theorem dX2_fittingPapers_89 : decode cX2_fittingPapers 89 = .ok (.getfield 42, 3) := by decide +kernel
theorem dX2_fittingPapers_92 : decode cX2_fittingPapers 92 = .ok (.goto 7, 3) := by decide +kernel
theorem dX2_fittingPapers_95 : decode cX2_fittingPapers 95 = .ok (.aload_n 0, 1) := by decide +kernel
theorem dX2_fittingPapers_96 : decode cX2_fittingPapers 96 = .ok (.getfield 45, 3) := by decide +kernel
theorem dX2_fittingPapers_99 : decode cX2_fittingPapers 99 = .ok (.ireturn, 1) := by decide +kernel
theorem dX2_fittingForces_0 : decode cX2_fittingForces 0 = .ok (.aload_n 0, 1) := by decide +kernel
theorem dX2_fittingForces_1 : decode cX2_fittingForces 1 = .ok (.iconst 3, 1) := by decide +kernel
theorem dX2_fittingForces_2 : decode cX2_fittingForces 2 = .ok (.iload_n 1, 1) := by decide +kernel
theorem dX2_fittingForces_3 : decode cX2_fittingForces 3 = .ok (.iconst 0, 1) := by decide +kernel
theorem dX2_fittingForces_4 : decode cX2_fittingForces 4 = .ok (.bipush 9, 2) := by decide +kernel
theorem dX2_fittingForces_6 : decode cX2_fittingForces 6 = .ok (.invokevirtual 127, 3) := by decide +kernel
theorem dX2_fittingForces_9 : decode cX2_fittingForces 9 = .ok (.aload_n 0, 1) := by decide +kernel
theorem dX2_fittingForces_10 : decode cX2_fittingForces 10 = .ok (.getfield 35, 3) := by decide +kernel
theorem dX2_fittingForces_13 : decode cX2_fittingForces 13 = .ok (.ireturn, 1) := by decide +kernel
theorem dX2_fittingTapes_0 : decode cX2_fittingTapes 0 = .ok (.aload_n 0, 1) := by decide +kernel
theorem dX2_fittingTapes_1 : decode cX2_fittingTapes 1 = .ok (.iconst 4, 1) := by decide +kernel
theorem dX2_fittingTapes_2 : decode cX2_fittingTapes 2 = .ok (.iconst 0, 1) := by decide +kernel
theorem dX2_fittingTapes_3 : decode cX2_fittingTapes 3 = .ok (.iconst 1, 1) := by decide +kernel
theorem dX2_fittingTapes_4 : decode cX2_fittingTapes 4 = .ok (.bipush 99, 2) := by decide +kernel
theorem dX2_fittingTapes_6 : decode cX2_fittingTapes 6 = .ok (.invokevirtual 127, 3) := by decide +kernel
theorem dX2_fittingTapes_9 : decode cX2_fittingTapes 9 = .ok (.iload_n 1, 1) := by decide +kernel
theorem dX2_fittingTapes_10 : decode cX2_fittingTapes 10 = .ok (.ifCond .ne 10, 3) := by decide +kernel
theorem dX2_fittingTapes_13 : decode cX2_fittingTapes 13 = .ok (.aload_n 0, 1) := by decide +kernel
theorem dX2_fittingTapes_14 : decode cX2_fittingTapes 14 = .ok (.getfield 38, 3) := by decide +kernel
theorem dX2_fittingTapes_17 : decode cX2_fittingTapes 17 = .ok (.goto 7, 3) := by decide +kernel
theorem dX2_fittingTapes_20 : decode cX2_fittingTapes 20 = .ok (.aload_n 0, 1) := by decide +kernel
theorem dX2_fittingTapes_21 : decode cX2_fittingTapes 21 = .ok (.getfield 42, 3) := by decide +kernel
theorem dX2_fittingTapes_24 : decode cX2_fittingTapes 24 = .ok (.ireturn, 1) := by decide +kernel
theorem dX2_search_0 : decode cX2_search 0 = .ok (.aload_n 0, 1) := by decide +kernel
theorem dX2_search_1 : decode cX2_search 1 = .ok (.iconst 0, 1) := by decide +kernel
theorem dX2_search_2 : decode cX2_search 2 = .ok (.putfield 35, 3) := by decide +kernel
theorem dX2_search_5 : decode cX2_search 5 = .ok (.aload_n 0, 1) := by decide +kernel
theorem dX2_search_6 : decode cX2_search 6 = .ok (.iconst 0, 1) := by decide +kernel
theorem dX2_search_7 : decode cX2_search 7 = .ok (.putfield 38, 3) := by decide +kernel
theorem dX2_search_10 : decode cX2_search 10 = .ok (.aload_n 0, 1) := by decide +kernel
theorem dX2_search_11 : decode cX2_search 11 = .ok (.ldc 41, 2) := by decide +kernel
theorem dX2_search_13 : decode cX2_search 13 = .ok (.putfield 42, 3) := by decide +kernel
theorem dX2_search_16 : decode cX2_search 16 = .ok (.aload_n 0, 1) := by decide +kernel
theorem dX2_search_17 : decode cX2_search 17 = .ok (.ldc 41, 2) := by decide +kernel
theorem dX2_search_19 : decode cX2_search 19 = .ok (.putfield 45, 3) := by decide +kernel
theorem dX2_search_22 : decode cX2_search 22 = .ok (.iload_n 3, 1) := by decide +kernel
theorem dX2_search_23 : decode cX2_search 23 = .ok (.istore 5, 2) := by decide +kernel
theorem dX2_search_25 : decode cX2_search 25 = .ok (.iload 5, 2) := by decide +kernel
theorem dX2_search_27 : decode cX2_search 27 = .ok (.iload 4, 2) := by decide +kernel
theorem dX2_search_29 : decode cX2_search 29 = .ok (.if_icmp .gt 30, 3) := by decide +kernel
theorem dX2_search_32 : decode cX2_search 32 = .ok (.aload_n 0, 1) := by decide +kernel
theorem dX2_search_33 : decode cX2_search 33 = .ok (.iload_n 1, 1) := by decide +kernel
theorem dX2_search_34 : decode cX2_search 34 = .ok (.iload_n 2, 1) := by decide +kernel
theorem dX2_search_35 : decode cX2_search 35 = .ok (.iload 5, 2) := by decide +kernel
theorem dX2_search_37 : decode cX2_search 37 = .ok (.invokevirtual 112, 3) := by decide +kernel
theorem dX2_search_40 : decode cX2_search 40 = .ok (.aload_n 0, 1) := by decide +kernel
theorem dX2_search_41 : decode cX2_search 41 = .ok (.invokevirtual 131, 3) := by decide +kernel
theorem dX2_search_44 : decode cX2_search 44 = .ok (.ifCond .eq 9, 3) := by decide +kernel
theorem dX2_search_47 : decode cX2_search 47 = .ok (.aload_n 0, 1) := by decide +kernel
theorem dX2_search_48 : decode cX2_search 48 = .ok (.iload 5, 2) := by decide +kernel
theorem dX2_search_50 : decode cX2_search 50 = .ok (.invokevirtual 134, 3) := by decide +kernel
theorem dX2_search_53 : decode cX2_search 53 = .ok (.iinc 5 1, 3) := by decide +kernel
theorem dX2_search_56 : decode cX2_search 56 = .ok (.goto (-31), 3) := by decide +kernel
theorem dX2_search_59 : decode cX2_search 59 = .ok (.return_, 1) := by decide +kernel
theorem dX2_noteFitting_0 : decode cX2_noteFitting 0 = .ok (.aload_n 0, 1) := by decide +kernel
theorem dX2_noteFitting_1 : decode cX2_noteFitting 1 = .ok (.getfield 38, 3) := by decide +kernel
theorem dX2_noteFitting_4 : decode cX2_noteFitting 4 = .ok (.ifCond .ne 8, 3) := by decide +kernel
theorem dX2_noteFitting_7 : decode cX2_noteFitting 7 = .ok (.aload_n 0, 1) := by decide +kernel
theorem dX2_noteFitting_8 : decode cX2_noteFitting 8 = .ok (.iload_n 1, 1) := by decide +kernel
theorem dX2_noteFitting_9 : decode cX2_noteFitting 9 = .ok (.putfield 42, 3) := by decide +kernel
theorem dX2_noteFitting_12 : decode cX2_noteFitting 12 = .ok (.aload_n 0, 1) := by decide +kernel
theorem dX2_noteFitting_13 : decode cX2_noteFitting 13 = .ok (.iload_n 1, 1) := by decide +kernel
theorem dX2_noteFitting_14 : decode cX2_noteFitting 14 = .ok (.putfield 45, 3) := by decide +kernel
theorem dX2_noteFitting_17 : decode cX2_noteFitting 17 = .ok (.aload_n 0, 1) := by decide +kernel
theorem dX2_noteFitting_18 : decode cX2_noteFitting 18 = .ok (.dup, 1) := by decide +kernel
theorem dX2_noteFitting_19 : decode cX2_noteFitting 19 = .ok (.getfield 38, 3) := by decide +kernel
theorem dX2_noteFitting_22 : decode cX2_noteFitting 22 = .ok (.iconst 1, 1) := by decide +kernel
theorem dX2_noteFitting_23 : decode cX2_noteFitting 23 = .ok (.iadd, 1) := by decide +kernel
theorem dX2_noteFitting_24 : decode cX2_noteFitting 24 = .ok (.putfield 38, 3) := by decide +kernel
theorem dX2_noteFitting_27 : decode cX2_noteFitting 27 = .ok (.iload_n 1, 1) := by decide +kernel
theorem dX2_noteFitting_28 : decode cX2_noteFitting 28 = .ok (.bipush 9, 2) := by decide +kernel
theorem dX2_noteFitting_30 : decode cX2_noteFitting 30 = .ok (.if_icmp .gt 15, 3) := by decide +kernel
theorem dX2_noteFitting_33 : decode cX2_noteFitting 33 = .ok (.aload_n 0, 1) := by decide +kernel
theorem dX2_noteFitting_34 : decode cX2_noteFitting 34 = .ok (.dup, 1) := by decide +kernel
theorem dX2_noteFitting_35 : decode cX2_noteFitting 35 = .ok (.getfield 35, 3) := by decide +kernel
theorem dX2_noteFitting_38 : decode cX2_noteFitting 38 = .ok (.iconst 1, 1) := by decide +kernel
theorem dX2_noteFitting_39 : decode cX2_noteFitting 39 = .ok (.iload_n 1, 1) := by decide +kernel
theorem dX2_noteFitting_40 : decode cX2_noteFitting 40 = .ok (.ishl, 1) := by decide +kernel
theorem dX2_noteFitting_41 : decode cX2_noteFitting 41 = .ok (.ior, 1) := by decide +kernel
theorem dX2_noteFitting_42 : decode cX2_noteFitting 42 = .ok (.putfield 35, 3) := by decide +kernel
theorem dX2_noteFitting_45 : decode cX2_noteFitting 45 = .ok (.return_, 1) := by decide +kernel
theorem dX2_draftWith_0 : decode cX2_draftWith 0 = .ok (.aload_n 0, 1) := by decide +kernel
theorem dX2_draftWith_1 : decode cX2_draftWith 1 = .ok (.getfield 18, 3) := by decide +kernel
theorem dX2_draftWith_4 : decode cX2_draftWith 4 = .ok (.aload_n 0, 1) := by decide +kernel
theorem dX2_draftWith_5 : decode cX2_draftWith 5 = .ok (.getfield 12, 3) := by decide +kernel
theorem dX2_draftWith_8 : decode cX2_draftWith 8 = .ok (.invokevirtual 48, 3) := by decide +kernel
theorem dX2_draftWith_11 : decode cX2_draftWith 11 = .ok (.iload_n 1, 1) := by decide +kernel
theorem dX2_draftWith_12 : decode cX2_draftWith 12 = .ok (.tableswitch 93 0 3 #[32, 48, 64, 80], 32) := by decide +kernel
theorem dX2_draftWith_44 : decode cX2_draftWith 44 = .ok (.aload_n 0, 1) := by decide +kernel
theorem dX2_draftWith_45 : decode cX2_draftWith 45 = .ok (.getfield 18, 3) := by decide +kernel
theorem dX2_draftWith_48 : decode cX2_draftWith 48 = .ok (.getfield 63, 3) := by decide +kernel
theorem dX2_draftWith_51 : decode cX2_draftWith 51 = .ok (.iload_n 2, 1) := by decide +kernel
theorem dX2_draftWith_52 : decode cX2_draftWith 52 = .ok (.aaload, 1) := by decide +kernel
theorem dX2_draftWith_53 : decode cX2_draftWith 53 = .ok (.iload_n 3, 1) := by decide +kernel
theorem dX2_draftWith_54 : decode cX2_draftWith 54 = .ok (.putfield 137, 3) := by decide +kernel
theorem dX2_draftWith_57 : decode cX2_draftWith 57 = .ok (.goto 56, 3) := by decide +kernel
theorem dX2_draftWith_60 : decode cX2_draftWith 60 = .ok (.aload_n 0, 1) := by decide +kernel
theorem dX2_draftWith_61 : decode cX2_draftWith 61 = .ok (.getfield 18, 3) := by decide +kernel
theorem dX2_draftWith_64 : decode cX2_draftWith 64 = .ok (.getfield 63, 3) := by decide +kernel
theorem dX2_draftWith_67 : decode cX2_draftWith 67 = .ok (.iload_n 2, 1) := by decide +kernel
theorem dX2_draftWith_68 : decode cX2_draftWith 68 = .ok (.aaload, 1) := by decide +kernel
theorem dX2_draftWith_69 : decode cX2_draftWith 69 = .ok (.iload_n 3, 1) := by decide +kernel
theorem dX2_draftWith_70 : decode cX2_draftWith 70 = .ok (.putfield 140, 3) := by decide +kernel
theorem dX2_draftWith_73 : decode cX2_draftWith 73 = .ok (.goto 40, 3) := by decide +kernel
theorem dX2_draftWith_76 : decode cX2_draftWith 76 = .ok (.aload_n 0, 1) := by decide +kernel
theorem dX2_draftWith_77 : decode cX2_draftWith 77 = .ok (.getfield 18, 3) := by decide +kernel
theorem dX2_draftWith_80 : decode cX2_draftWith 80 = .ok (.getfield 63, 3) := by decide +kernel
theorem dX2_draftWith_83 : decode cX2_draftWith 83 = .ok (.iload_n 2, 1) := by decide +kernel
theorem dX2_draftWith_84 : decode cX2_draftWith 84 = .ok (.aaload, 1) := by decide +kernel
theorem dX2_draftWith_85 : decode cX2_draftWith 85 = .ok (.iload_n 3, 1) := by decide +kernel
theorem dX2_draftWith_86 : decode cX2_draftWith 86 = .ok (.putfield 143, 3) := by decide +kernel
theorem dX2_draftWith_89 : decode cX2_draftWith 89 = .ok (.goto 24, 3) := by decide +kernel
theorem dX2_draftWith_92 : decode cX2_draftWith 92 = .ok (.aload_n 0, 1) := by decide +kernel
theorem dX2_draftWith_93 : decode cX2_draftWith 93 = .ok (.getfield 18, 3) := by decide +kernel
theorem dX2_draftWith_96 : decode cX2_draftWith 96 = .ok (.getfield 146, 3) := by decide +kernel
theorem dX2_draftWith_99 : decode cX2_draftWith 99 = .ok (.iload_n 2, 1) := by decide +kernel
theorem dX2_draftWith_100 : decode cX2_draftWith 100 = .ok (.iload_n 3, 1) := by decide +kernel
theorem dX2_draftWith_101 : decode cX2_draftWith 101 = .ok (.iastore, 1) := by decide +kernel
theorem dX2_draftWith_102 : decode cX2_draftWith 102 = .ok (.goto 11, 3) := by decide +kernel
theorem dX2_draftWith_105 : decode cX2_draftWith 105 = .ok (.aload_n 0, 1) := by decide +kernel
theorem dX2_draftWith_106 : decode cX2_draftWith 106 = .ok (.getfield 18, 3) := by decide +kernel
theorem dX2_draftWith_109 : decode cX2_draftWith 109 = .ok (.iload_n 3, 1) := by decide +kernel
theorem dX2_draftWith_110 : decode cX2_draftWith 110 = .ok (.putfield 120, 3) := by decide +kernel
theorem dX2_draftWith_113 : decode cX2_draftWith 113 = .ok (.return_, 1) := by decide +kernel
theorem dX2_draftIsAsSeen_0 : decode cX2_draftIsAsSeen 0 = .ok (.aload_n 0, 1) := by decide +kernel
theorem dX2_draftIsAsSeen_1 : decode cX2_draftIsAsSeen 1 = .ok (.getfield 25, 3) := by decide +kernel
theorem dX2_draftIsAsSeen_4 : decode cX2_draftIsAsSeen 4 = .ok (.ifnull 21, 3) := by decide +kernel
theorem dX2_draftIsAsSeen_7 : decode cX2_draftIsAsSeen 7 = .ok (.aload_n 0, 1) := by decide +kernel
theorem dX2_draftIsAsSeen_8 : decode cX2_draftIsAsSeen 8 = .ok (.getfield 25, 3) := by decide +kernel
theorem dX2_draftIsAsSeen_11 : decode cX2_draftIsAsSeen 11 = .ok (.aload_n 0, 1) := by decide +kernel
theorem dX2_draftIsAsSeen_12 : decode cX2_draftIsAsSeen 12 = .ok (.getfield 29, 3) := by decide +kernel
theorem dX2_draftIsAsSeen_15 : decode cX2_draftIsAsSeen 15 = .ok (.aload_n 0, 1) := by decide +kernel
theorem dX2_draftIsAsSeen_16 : decode cX2_draftIsAsSeen 16 = .ok (.getfield 32, 3) := by decide +kernel
theorem dX2_draftIsAsSeen_19 : decode cX2_draftIsAsSeen 19 = .ok (.invokevirtual 150, 3) := by decide +kernel
theorem dX2_draftIsAsSeen_22 : decode cX2_draftIsAsSeen 22 = .ok (.ifCond .ne 5, 3) := by decide +kernel
theorem dX2_draftIsAsSeen_25 : decode cX2_draftIsAsSeen 25 = .ok (.iconst 0, 1) := by decide +kernel
theorem dX2_draftIsAsSeen_26 : decode cX2_draftIsAsSeen 26 = .ok (.ireturn, 1) := by decide +kernel
theorem dX2_draftIsAsSeen_27 : decode cX2_draftIsAsSeen 27 = .ok (.iconst 0, 1) := by decide +kernel
theorem dX2_draftIsAsSeen_28 : decode cX2_draftIsAsSeen 28 = .ok (.istore_n 1, 1) := by decide +kernel
theorem dX2_draftIsAsSeen_29 : decode cX2_draftIsAsSeen 29 = .ok (.iload_n 1, 1) := by decide +kernel
theorem dX2_draftIsAsSeen_30 : decode cX2_draftIsAsSeen 30 = .ok (.aload_n 0, 1) := by decide +kernel
theorem dX2_draftIsAsSeen_31 : decode cX2_draftIsAsSeen 31 = .ok (.getfield 32, 3) := by decide +kernel
theorem dX2_draftIsAsSeen_34 : decode cX2_draftIsAsSeen 34 = .ok (.if_icmp .ge 58, 3) := by decide +kernel
theorem dX2_draftIsAsSeen_37 : decode cX2_draftIsAsSeen 37 = .ok (.aload_n 0, 1) := by decide +kernel
theorem dX2_draftIsAsSeen_38 : decode cX2_draftIsAsSeen 38 = .ok (.getfield 18, 3) := by decide +kernel
theorem dX2_draftIsAsSeen_41 : decode cX2_draftIsAsSeen 41 = .ok (.aload_n 0, 1) := by decide +kernel
theorem dX2_draftIsAsSeen_42 : decode cX2_draftIsAsSeen 42 = .ok (.getfield 18, 3) := by decide +kernel
theorem dX2_draftIsAsSeen_45 : decode cX2_draftIsAsSeen 45 = .ok (.iconst 0, 1) := by decide +kernel
theorem dX2_draftIsAsSeen_46 : decode cX2_draftIsAsSeen 46 = .ok (.invokevirtual 56, 3) := by decide +kernel
theorem dX2_draftIsAsSeen_49 : decode cX2_draftIsAsSeen 49 = .ok (.invokevirtual 60, 3) := by decide +kernel
theorem dX2_draftIsAsSeen_52 : decode cX2_draftIsAsSeen 52 = .ok (.aload_n 0, 1) := by decide +kernel
theorem dX2_draftIsAsSeen_53 : decode cX2_draftIsAsSeen 53 = .ok (.getfield 18, 3) := by decide +kernel
theorem dX2_draftIsAsSeen_56 : decode cX2_draftIsAsSeen 56 = .ok (.getfield 63, 3) := by decide +kernel
theorem dX2_draftIsAsSeen_59 : decode cX2_draftIsAsSeen 59 = .ok (.aload_n 0, 1) := by decide +kernel
theorem dX2_draftIsAsSeen_60 : decode cX2_draftIsAsSeen 60 = .ok (.getfield 21, 3) := by decide +kernel
theorem dX2_draftIsAsSeen_63 : decode cX2_draftIsAsSeen 63 = .ok (.aaload, 1) := by decide +kernel
theorem dX2_draftIsAsSeen_64 : decode cX2_draftIsAsSeen 64 = .ok (.getfield 109, 3) := by decide +kernel
theorem dX2_draftIsAsSeen_67 : decode cX2_draftIsAsSeen 67 = .ok (.aload_n 0, 1) := by decide +kernel
theorem dX2_draftIsAsSeen_68 : decode cX2_draftIsAsSeen 68 = .ok (.getfield 25, 3) := by decide +kernel
theorem dX2_draftIsAsSeen_71 : decode cX2_draftIsAsSeen 71 = .ok (.getfield 155, 3) := by decide +kernel
theorem dX2_draftIsAsSeen_74 : decode cX2_draftIsAsSeen 74 = .ok (.aload_n 0, 1) := by decide +kernel
theorem dX2_draftIsAsSeen_75 : decode cX2_draftIsAsSeen 75 = .ok (.getfield 29, 3) := by decide +kernel
theorem dX2_draftIsAsSeen_78 : decode cX2_draftIsAsSeen 78 = .ok (.iload_n 1, 1) := by decide +kernel
theorem dX2_draftIsAsSeen_79 : decode cX2_draftIsAsSeen 79 = .ok (.iadd, 1) := by decide +kernel
theorem dX2_draftIsAsSeen_80 : decode cX2_draftIsAsSeen 80 = .ok (.iaload, 1) := by decide +kernel
theorem dX2_draftIsAsSeen_81 : decode cX2_draftIsAsSeen 81 = .ok (.if_icmp .eq 5, 3) := by decide +kernel
theorem dX2_draftIsAsSeen_84 : decode cX2_draftIsAsSeen 84 = .ok (.iconst 0, 1) := by decide +kernel
theorem dX2_draftIsAsSeen_85 : decode cX2_draftIsAsSeen 85 = .ok (.ireturn, 1) := by decide +kernel
theorem dX2_draftIsAsSeen_86 : decode cX2_draftIsAsSeen 86 = .ok (.iinc 1 1, 3) := by decide +kernel
theorem dX2_draftIsAsSeen_89 : decode cX2_draftIsAsSeen 89 = .ok (.goto (-60), 3) := by decide +kernel
theorem dX2_draftIsAsSeen_92 : decode cX2_draftIsAsSeen 92 = .ok (.iconst 1, 1) := by decide +kernel
theorem dX2_draftIsAsSeen_93 : decode cX2_draftIsAsSeen 93 = .ok (.ireturn, 1) := by decide +kernel
theorem dX2_calmCases_0 : decode cX2_calmCases 0 = .ok (.lconst 0, 1) := by decide +kernel
theorem dX2_calmCases_1 : decode cX2_calmCases 1 = .ok (.lstore 4, 2) := by decide +kernel
theorem dX2_calmCases_3 : decode cX2_calmCases 3 = .ok (.iconst 0, 1) := by decide +kernel
theorem dX2_calmCases_4 : decode cX2_calmCases 4 = .ok (.istore 6, 2) := by decide +kernel
theorem dX2_calmCases_6 : decode cX2_calmCases 6 = .ok (.iload 6, 2) := by decide +kernel
theorem dX2_calmCases_8 : decode cX2_calmCases 8 = .ok (.iconst 1, 1) := by decide +kernel
theorem dX2_calmCases_9 : decode cX2_calmCases 9 = .ok (.iload_n 2, 1) := by decide +kernel
theorem dX2_calmCases_10 : decode cX2_calmCases 10 = .ok (.ishl, 1) := by decide +kernel
theorem dX2_calmCases_11 : decode cX2_calmCases 11 = .ok (.if_icmp .ge 108, 3) := by decide +kernel
theorem dX2_calmCases_14 : decode cX2_calmCases 14 = .ok (.aload_n 0, 1) := by decide +kernel
theorem dX2_calmCases_15 : decode cX2_calmCases 15 = .ok (.getfield 18, 3) := by decide +kernel
theorem dX2_calmCases_18 : decode cX2_calmCases 18 = .ok (.aload_n 0, 1) := by decide +kernel
theorem dX2_calmCases_19 : decode cX2_calmCases 19 = .ok (.getfield 12, 3) := by decide +kernel
theorem dX2_calmCases_22 : decode cX2_calmCases 22 = .ok (.invokevirtual 48, 3) := by decide +kernel
theorem dX2_calmCases_25 : decode cX2_calmCases 25 = .ok (.iconst 0, 1) := by decide +kernel
theorem dX2_calmCases_26 : decode cX2_calmCases 26 = .ok (.istore 7, 2) := by decide +kernel
theorem dX2_calmCases_28 : decode cX2_calmCases 28 = .ok (.iload 7, 2) := by decide +kernel
theorem dX2_calmCases_30 : decode cX2_calmCases 30 = .ok (.iload_n 2, 1) := by decide +kernel
theorem dX2_calmCases_31 : decode cX2_calmCases 31 = .ok (.if_icmp .ge 39, 3) := by decide +kernel
theorem dX2_calmCases_34 : decode cX2_calmCases 34 = .ok (.aload_n 0, 1) := by decide +kernel
theorem dX2_calmCases_35 : decode cX2_calmCases 35 = .ok (.getfield 18, 3) := by decide +kernel
theorem dX2_calmCases_38 : decode cX2_calmCases 38 = .ok (.iload 6, 2) := by decide +kernel
theorem dX2_calmCases_40 : decode cX2_calmCases 40 = .ok (.iload 7, 2) := by decide +kernel
theorem dX2_calmCases_42 : decode cX2_calmCases 42 = .ok (.ishr, 1) := by decide +kernel
theorem dX2_calmCases_43 : decode cX2_calmCases 43 = .ok (.iconst 1, 1) := by decide +kernel
theorem dX2_calmCases_44 : decode cX2_calmCases 44 = .ok (.iand, 1) := by decide +kernel
theorem dX2_calmCases_45 : decode cX2_calmCases 45 = .ok (.iconst 1, 1) := by decide +kernel
theorem dX2_calmCases_46 : decode cX2_calmCases 46 = .ok (.if_icmp .ne 7, 3) := by decide +kernel
theorem dX2_calmCases_49 : decode cX2_calmCases 49 = .ok (.iconst 0, 1) := by decide +kernel
theorem dX2_calmCases_50 : decode cX2_calmCases 50 = .ok (.goto 11, 3) := by decide +kernel
theorem dX2_calmCases_53 : decode cX2_calmCases 53 = .ok (.aload_n 0, 1) := by decide +kernel
theorem dX2_calmCases_54 : decode cX2_calmCases 54 = .ok (.getfield 18, 3) := by decide +kernel
theorem dX2_calmCases_57 : decode cX2_calmCases 57 = .ok (.iconst 0, 1) := by decide +kernel
theorem dX2_calmCases_58 : decode cX2_calmCases 58 = .ok (.invokevirtual 56, 3) := by decide +kernel
theorem dX2_calmCases_61 : decode cX2_calmCases 61 = .ok (.invokevirtual 60, 3) := by decide +kernel
theorem dX2_calmCases_64 : decode cX2_calmCases 64 = .ok (.iinc 7 1, 3) := by decide +kernel
theorem dX2_calmCases_67 : decode cX2_calmCases 67 = .ok (.goto (-39), 3) := by decide +kernel
theorem dX2_calmCases_70 : decode cX2_calmCases 70 = .ok (.aload_n 0, 1) := by decide +kernel
theorem dX2_calmCases_71 : decode cX2_calmCases 71 = .ok (.getfield 18, 3) := by decide +kernel
theorem dX2_calmCases_74 : decode cX2_calmCases 74 = .ok (.iload_n 1, 1) := by decide +kernel
theorem dX2_calmCases_75 : decode cX2_calmCases 75 = .ok (.invokevirtual 72, 3) := by decide +kernel
theorem dX2_calmCases_78 : decode cX2_calmCases 78 = .ok (.ifCond .eq 35, 3) := by decide +kernel
theorem dX2_calmCases_81 : decode cX2_calmCases 81 = .ok (.iload 6, 2) := by decide +kernel
theorem dX2_calmCases_83 : decode cX2_calmCases 83 = .ok (.invokestatic 87, 3) := by decide +kernel
theorem dX2_calmCases_86 : decode cX2_calmCases 86 = .ok (.istore 7, 2) := by decide +kernel
theorem dX2_calmCases_88 : decode cX2_calmCases 88 = .ok (.lload 4, 2) := by decide +kernel
theorem dX2_calmCases_90 : decode cX2_calmCases 90 = .ok (.iload_n 3, 1) := by decide +kernel
theorem dX2_calmCases_91 : decode cX2_calmCases 91 = .ok (.i2l, 1) := by decide +kernel
theorem dX2_calmCases_92 : decode cX2_calmCases 92 = .ok (.iload 7, 2) := by decide +kernel
theorem dX2_calmCases_94 : decode cX2_calmCases 94 = .ok (.invokestatic 158, 3) := by decide +kernel
theorem dX2_calmCases_97 : decode cX2_calmCases 97 = .ok (.bipush 10, 2) := by decide +kernel
theorem dX2_calmCases_99 : decode cX2_calmCases 99 = .ok (.iload_n 3, 1) := by decide +kernel
theorem dX2_calmCases_100 : decode cX2_calmCases 100 = .ok (.isub, 1) := by decide +kernel
theorem dX2_calmCases_101 : decode cX2_calmCases 101 = .ok (.i2l, 1) := by decide +kernel
theorem dX2_calmCases_102 : decode cX2_calmCases 102 = .ok (.iload_n 2, 1) := by decide +kernel
theorem dX2_calmCases_103 : decode cX2_calmCases 103 = .ok (.iload 7, 2) := by decide +kernel
theorem dX2_calmCases_105 : decode cX2_calmCases 105 = .ok (.isub, 1) := by decide +kernel
theorem dX2_calmCases_106 : decode cX2_calmCases 106 = .ok (.invokestatic 158, 3) := by decide +kernel
theorem dX2_calmCases_109 : decode cX2_calmCases 109 = .ok (.lmul, 1) := by decide +kernel
theorem dX2_calmCases_110 : decode cX2_calmCases 110 = .ok (.ladd, 1) := by decide +kernel
theorem dX2_calmCases_111 : decode cX2_calmCases 111 = .ok (.lstore 4, 2) := by decide +kernel
theorem dX2_calmCases_113 : decode cX2_calmCases 113 = .ok (.iinc 6 1, 3) := by decide +kernel
theorem dX2_calmCases_116 : decode cX2_calmCases 116 = .ok (.goto (-110), 3) := by decide +kernel
theorem dX2_calmCases_119 : decode cX2_calmCases 119 = .ok (.lload 4, 2) := by decide +kernel
theorem dX2_calmCases_121 : decode cX2_calmCases 121 = .ok (.lreturn, 1) := by decide +kernel
theorem dX2_draftYears_0 : decode cX2_draftYears 0 = .ok (.aload_n 0, 1) := by decide +kernel
theorem dX2_draftYears_1 : decode cX2_draftYears 1 = .ok (.getfield 18, 3) := by decide +kernel
theorem dX2_draftYears_4 : decode cX2_draftYears 4 = .ok (.aload_n 0, 1) := by decide +kernel
theorem dX2_draftYears_5 : decode cX2_draftYears 5 = .ok (.getfield 12, 3) := by decide +kernel
theorem dX2_draftYears_8 : decode cX2_draftYears 8 = .ok (.invokevirtual 48, 3) := by decide +kernel
theorem dX2_draftYears_11 : decode cX2_draftYears 11 = .ok (.iload_n 2, 1) := by decide +kernel
theorem dX2_draftYears_12 : decode cX2_draftYears 12 = .ok (.i2l, 1) := by decide +kernel
theorem dX2_draftYears_13 : decode cX2_draftYears 13 = .ok (.lstore_n 3, 1) := by decide +kernel
theorem dX2_draftYears_14 : decode cX2_draftYears 14 = .ok (.iconst 0, 1) := by decide +kernel
theorem dX2_draftYears_15 : decode cX2_draftYears 15 = .ok (.istore 5, 2) := by decide +kernel
theorem dX2_draftYears_17 : decode cX2_draftYears 17 = .ok (.iload 5, 2) := by decide +kernel
theorem dX2_draftYears_19 : decode cX2_draftYears 19 = .ok (.iload_n 1, 1) := by decide +kernel
theorem dX2_draftYears_20 : decode cX2_draftYears 20 = .ok (.if_icmp .ge 38, 3) := by decide +kernel
theorem dX2_draftYears_23 : decode cX2_draftYears 23 = .ok (.lload_n 3, 1) := by decide +kernel
theorem dX2_draftYears_24 : decode cX2_draftYears 24 = .ok (.ldc2_w 162, 3) := by decide +kernel
theorem dX2_draftYears_27 : decode cX2_draftYears 27 = .ok (.lmul, 1) := by decide +kernel
theorem dX2_draftYears_28 : decode cX2_draftYears 28 = .ok (.ldc2_w 164, 3) := by decide +kernel
theorem dX2_draftYears_31 : decode cX2_draftYears 31 = .ok (.lrem, 1) := by decide +kernel
theorem dX2_draftYears_32 : decode cX2_draftYears 32 = .ok (.lstore_n 3, 1) := by decide +kernel
theorem dX2_draftYears_33 : decode cX2_draftYears 33 = .ok (.aload_n 0, 1) := by decide +kernel
theorem dX2_draftYears_34 : decode cX2_draftYears 34 = .ok (.lload_n 3, 1) := by decide +kernel
theorem dX2_draftYears_35 : decode cX2_draftYears 35 = .ok (.l2i, 1) := by decide +kernel
theorem dX2_draftYears_36 : decode cX2_draftYears 36 = .ok (.invokevirtual 166, 3) := by decide +kernel
theorem dX2_draftYears_39 : decode cX2_draftYears 39 = .ok (.aload_n 0, 1) := by decide +kernel
theorem dX2_draftYears_40 : decode cX2_draftYears 40 = .ok (.getfield 18, 3) := by decide +kernel
theorem dX2_draftYears_43 : decode cX2_draftYears 43 = .ok (.lload_n 3, 1) := by decide +kernel
theorem dX2_draftYears_44 : decode cX2_draftYears 44 = .ok (.ldc2_w 169, 3) := by decide +kernel
theorem dX2_draftYears_47 : decode cX2_draftYears 47 = .ok (.lrem, 1) := by decide +kernel
theorem dX2_draftYears_48 : decode cX2_draftYears 48 = .ok (.l2i, 1) := by decide +kernel
theorem dX2_draftYears_49 : decode cX2_draftYears 49 = .ok (.invokevirtual 60, 3) := by decide +kernel
theorem dX2_draftYears_52 : decode cX2_draftYears 52 = .ok (.iinc 5 1, 3) := by decide +kernel
theorem dX2_draftYears_55 : decode cX2_draftYears 55 = .ok (.goto (-38), 3) := by decide +kernel
theorem dX2_draftYears_58 : decode cX2_draftYears 58 = .ok (.return_, 1) := by decide +kernel
theorem dX2_drawAct_0 : decode cX2_drawAct 0 = .ok (.aload_n 0, 1) := by decide +kernel
theorem dX2_drawAct_1 : decode cX2_drawAct 1 = .ok (.getfield 18, 3) := by decide +kernel
theorem dX2_drawAct_4 : decode cX2_drawAct 4 = .ok (.getfield 171, 3) := by decide +kernel
theorem dX2_drawAct_7 : decode cX2_drawAct 7 = .ok (.iconst 1, 1) := by decide +kernel
theorem dX2_drawAct_8 : decode cX2_drawAct 8 = .ok (.if_icmp .ge 4, 3) := by decide +kernel
theorem dX2_drawAct_11 : decode cX2_drawAct 11 = .ok (.return_, 1) := by decide +kernel
theorem dX2_drawAct_12 : decode cX2_drawAct 12 = .ok (.aload_n 0, 1) := by decide +kernel
theorem dX2_drawAct_13 : decode cX2_drawAct 13 = .ok (.getfield 18, 3) := by decide +kernel
theorem dX2_drawAct_16 : decode cX2_drawAct 16 = .ok (.getfield 63, 3) := by decide +kernel
theorem dX2_drawAct_19 : decode cX2_drawAct 19 = .ok (.iload_n 1, 1) := by decide +kernel
theorem dX2_drawAct_20 : decode cX2_drawAct 20 = .ok (.aload_n 0, 1) := by decide +kernel
theorem dX2_drawAct_21 : decode cX2_drawAct 21 = .ok (.getfield 18, 3) := by decide +kernel
theorem dX2_drawAct_24 : decode cX2_drawAct 24 = .ok (.getfield 171, 3) := by decide +kernel
theorem dX2_drawAct_27 : decode cX2_drawAct 27 = .ok (.irem, 1) := by decide +kernel
theorem dX2_drawAct_28 : decode cX2_drawAct 28 = .ok (.aaload, 1) := by decide +kernel
theorem dX2_drawAct_29 : decode cX2_drawAct 29 = .ok (.astore_n 2, 1) := by decide +kernel
theorem dX2_drawAct_30 : decode cX2_drawAct 30 = .ok (.aload_n 2, 1) := by decide +kernel
theorem dX2_drawAct_31 : decode cX2_drawAct 31 = .ok (.getfield 67, 3) := by decide +kernel
theorem dX2_drawAct_34 : decode cX2_drawAct 34 = .ok (.ifCond .ne 16, 3) := by decide +kernel
theorem dX2_drawAct_37 : decode cX2_drawAct 37 = .ok (.aload_n 2, 1) := by decide +kernel
theorem dX2_drawAct_38 : decode cX2_drawAct 38 = .ok (.iload_n 1, 1) := by decide +kernel
theorem dX2_drawAct_39 : decode cX2_drawAct 39 = .ok (.bipush 40, 2) := by decide +kernel
theorem dX2_drawAct_41 : decode cX2_drawAct 41 = .ok (.irem, 1) := by decide +kernel
theorem dX2_drawAct_42 : decode cX2_drawAct 42 = .ok (.iconst 1, 1) := by decide +kernel
theorem dX2_drawAct_43 : decode cX2_drawAct 43 = .ok (.iadd, 1) := by decide +kernel
theorem dX2_drawAct_44 : decode cX2_drawAct 44 = .ok (.invokevirtual 174, 3) := by decide +kernel
theorem dX2_drawAct_47 : decode cX2_drawAct 47 = .ok (.goto 21, 3) := by decide +kernel
theorem dX2_drawAct_50 : decode cX2_drawAct 50 = .ok (.aload_n 2, 1) := by decide +kernel
theorem dX2_drawAct_51 : decode cX2_drawAct 51 = .ok (.invokevirtual 99, 3) := by decide +kernel
theorem dX2_drawAct_54 : decode cX2_drawAct 54 = .ok (.ifCond .eq 14, 3) := by decide +kernel
theorem dX2_drawAct_57 : decode cX2_drawAct 57 = .ok (.iload_n 1, 1) := by decide +kernel
theorem dX2_drawAct_58 : decode cX2_drawAct 58 = .ok (.iconst 2, 1) := by decide +kernel
theorem dX2_drawAct_59 : decode cX2_drawAct 59 = .ok (.irem, 1) := by decide +kernel
theorem dX2_drawAct_60 : decode cX2_drawAct 60 = .ok (.ifCond .ne 8, 3) := by decide +kernel
theorem dX2_drawAct_63 : decode cX2_drawAct 63 = .ok (.aload_n 2, 1) := by decide +kernel
theorem dX2_drawAct_64 : decode cX2_drawAct 64 = .ok (.iconst 5, 1) := by decide +kernel
theorem dX2_drawAct_65 : decode cX2_drawAct 65 = .ok (.invokevirtual 106, 3) := by decide +kernel
theorem dX2_drawAct_68 : decode cX2_drawAct 68 = .ok (.return_, 1) := by decide +kernel
theorem dX3_init_0 : decode cX3_init 0 = .ok (.aload_n 0, 1) := by decide +kernel
theorem dX3_init_1 : decode cX3_init 1 = .ok (.invokespecial 3, 3) := by decide +kernel
theorem dX3_init_4 : decode cX3_init 4 = .ok (.aload_n 0, 1) := by decide +kernel
theorem dX3_init_5 : decode cX3_init 5 = .ok (.iconst 1, 1) := by decide +kernel
theorem dX3_init_6 : decode cX3_init 6 = .ok (.putfield 9, 3) := by decide +kernel
theorem dX3_init_9 : decode cX3_init 9 = .ok (.aload_n 0, 1) := by decide +kernel
theorem dX3_init_10 : decode cX3_init 10 = .ok (.iconst 0, 1) := by decide +kernel
theorem dX3_init_11 : decode cX3_init 11 = .ok (.putfield 15, 3) := by decide +kernel
theorem dX3_init_14 : decode cX3_init 14 = .ok (.aload_n 0, 1) := by decide +kernel
theorem dX3_init_15 : decode cX3_init 15 = .ok (.iconst 1, 1) := by decide +kernel
theorem dX3_init_16 : decode cX3_init 16 = .ok (.putfield 18, 3) := by decide +kernel
theorem dX3_init_19 : decode cX3_init 19 = .ok (.aload_n 0, 1) := by decide +kernel
theorem dX3_init_20 : decode cX3_init 20 = .ok (.iconst 0, 1) := by decide +kernel
theorem dX3_init_21 : decode cX3_init 21 = .ok (.putfield 21, 3) := by decide +kernel
theorem dX3_init_24 : decode cX3_init 24 = .ok (.aload_n 0, 1) := by decide +kernel
theorem dX3_init_25 : decode cX3_init 25 = .ok (.iconst 0, 1) := by decide +kernel
theorem dX3_init_26 : decode cX3_init 26 = .ok (.putfield 24, 3) := by decide +kernel
theorem dX3_init_29 : decode cX3_init 29 = .ok (.aload_n 0, 1) := by decide +kernel
theorem dX3_init_30 : decode cX3_init 30 = .ok (.iconst 0, 1) := by decide +kernel
theorem dX3_init_31 : decode cX3_init 31 = .ok (.putfield 27, 3) := by decide +kernel
theorem dX3_init_34 : decode cX3_init 34 = .ok (.aload_n 0, 1) := by decide +kernel
theorem dX3_init_35 : decode cX3_init 35 = .ok (.ldc 30, 2) := by decide +kernel
theorem dX3_init_37 : decode cX3_init 37 = .ok (.putfield 31, 3) := by decide +kernel
theorem dX3_init_40 : decode cX3_init 40 = .ok (.return_, 1) := by decide +kernel
theorem dX3_become_0 : decode cX3_become 0 = .ok (.aload_n 0, 1) := by decide +kernel
theorem dX3_become_1 : decode cX3_become 1 = .ok (.aload_n 1, 1) := by decide +kernel
theorem dX3_become_2 : decode cX3_become 2 = .ok (.getfield 9, 3) := by decide +kernel
theorem dX3_become_5 : decode cX3_become 5 = .ok (.putfield 9, 3) := by decide +kernel
theorem dX3_become_8 : decode cX3_become 8 = .ok (.aload_n 0, 1) := by decide +kernel
theorem dX3_become_9 : decode cX3_become 9 = .ok (.aload_n 1, 1) := by decide +kernel
theorem dX3_become_10 : decode cX3_become 10 = .ok (.getfield 15, 3) := by decide +kernel
theorem dX3_become_13 : decode cX3_become 13 = .ok (.putfield 15, 3) := by decide +kernel
theorem dX3_become_16 : decode cX3_become 16 = .ok (.aload_n 0, 1) := by decide +kernel
theorem dX3_become_17 : decode cX3_become 17 = .ok (.aload_n 1, 1) := by decide +kernel
theorem dX3_become_18 : decode cX3_become 18 = .ok (.getfield 18, 3) := by decide +kernel
theorem dX3_become_21 : decode cX3_become 21 = .ok (.putfield 18, 3) := by decide +kernel
theorem dX3_become_24 : decode cX3_become 24 = .ok (.aload_n 0, 1) := by decide +kernel
theorem dX3_become_25 : decode cX3_become 25 = .ok (.aload_n 1, 1) := by decide +kernel
theorem dX3_become_26 : decode cX3_become 26 = .ok (.getfield 21, 3) := by decide +kernel
theorem dX3_become_29 : decode cX3_become 29 = .ok (.putfield 21, 3) := by decide +kernel
theorem dX3_become_32 : decode cX3_become 32 = .ok (.aload_n 0, 1) := by decide +kernel
theorem dX3_become_33 : decode cX3_become 33 = .ok (.aload_n 1, 1) := by decide +kernel
theorem dX3_become_34 : decode cX3_become 34 = .ok (.getfield 24, 3) := by decide +kernel
theorem dX3_become_37 : decode cX3_become 37 = .ok (.putfield 24, 3) := by decide +kernel
theorem dX3_become_40 : decode cX3_become 40 = .ok (.aload_n 0, 1) := by decide +kernel
theorem dX3_become_41 : decode cX3_become 41 = .ok (.aload_n 1, 1) := by decide +kernel
theorem dX3_become_42 : decode cX3_become 42 = .ok (.getfield 27, 3) := by decide +kernel
theorem dX3_become_45 : decode cX3_become 45 = .ok (.putfield 27, 3) := by decide +kernel
theorem dX3_become_48 : decode cX3_become 48 = .ok (.aload_n 0, 1) := by decide +kernel
theorem dX3_become_49 : decode cX3_become 49 = .ok (.aload_n 1, 1) := by decide +kernel
theorem dX3_become_50 : decode cX3_become 50 = .ok (.getfield 31, 3) := by decide +kernel
theorem dX3_become_53 : decode cX3_become 53 = .ok (.putfield 31, 3) := by decide +kernel
theorem dX3_become_56 : decode cX3_become 56 = .ok (.return_, 1) := by decide +kernel
theorem dX3_isUp_0 : decode cX3_isUp 0 = .ok (.aload_n 0, 1) := by decide +kernel
theorem dX3_isUp_1 : decode cX3_isUp 1 = .ok (.getfield 21, 3) := by decide +kernel
theorem dX3_isUp_4 : decode cX3_isUp 4 = .ok (.iconst 1, 1) := by decide +kernel
theorem dX3_isUp_5 : decode cX3_isUp 5 = .ok (.if_icmp .ne 7, 3) := by decide +kernel
theorem dX3_isUp_8 : decode cX3_isUp 8 = .ok (.iconst 1, 1) := by decide +kernel
theorem dX3_isUp_9 : decode cX3_isUp 9 = .ok (.goto 4, 3) := by decide +kernel
theorem dX3_isUp_12 : decode cX3_isUp 12 = .ok (.iconst 0, 1) := by decide +kernel
theorem dX3_isUp_13 : decode cX3_isUp 13 = .ok (.ireturn, 1) := by decide +kernel
theorem dX3_isOf_0 : decode cX3_isOf 0 = .ok (.iload_n 1, 1) := by decide +kernel
theorem dX3_isOf_1 : decode cX3_isOf 1 = .ok (.ifCond .eq 22, 3) := by decide +kernel
theorem dX3_isOf_4 : decode cX3_isOf 4 = .ok (.iload_n 1, 1) := by decide +kernel
theorem dX3_isOf_5 : decode cX3_isOf 5 = .ok (.aload_n 0, 1) := by decide +kernel
theorem dX3_isOf_6 : decode cX3_isOf 6 = .ok (.getfield 9, 3) := by decide +kernel
theorem dX3_isOf_9 : decode cX3_isOf 9 = .ok (.if_icmp .eq 14, 3) := by decide +kernel
theorem dX3_isOf_12 : decode cX3_isOf 12 = .ok (.iload_n 1, 1) := by decide +kernel
theorem dX3_isOf_13 : decode cX3_isOf 13 = .ok (.aload_n 0, 1) := by decide +kernel
theorem dX3_isOf_14 : decode cX3_isOf 14 = .ok (.getfield 9, 3) := by decide +kernel
theorem dX3_isOf_17 : decode cX3_isOf 17 = .ok (.invokestatic 34, 3) := by decide +kernel
theorem dX3_isOf_20 : decode cX3_isOf 20 = .ok (.if_icmp .ne 7, 3) := by decide +kernel
theorem dX3_isOf_23 : decode cX3_isOf 23 = .ok (.iconst 1, 1) := by decide +kernel
theorem dX3_isOf_24 : decode cX3_isOf 24 = .ok (.goto 4, 3) := by decide +kernel
theorem dX3_isOf_27 : decode cX3_isOf 27 = .ok (.iconst 0, 1) := by decide +kernel
theorem dX3_isOf_28 : decode cX3_isOf 28 = .ok (.ireturn, 1) := by decide +kernel
theorem dX3_kindAbove_0 : decode cX3_kindAbove 0 = .ok (.iload_n 0, 1) := by decide +kernel
theorem dX3_kindAbove_1 : decode cX3_kindAbove 1 = .ok (.tableswitch 37 2 5 #[31, 33, 37, 35], 31) := by decide +kernel
theorem dX3_kindAbove_32 : decode cX3_kindAbove 32 = .ok (.iconst 1, 1) := by decide +kernel
theorem dX3_kindAbove_33 : decode cX3_kindAbove 33 = .ok (.ireturn, 1) := by decide +kernel
theorem dX3_kindAbove_34 : decode cX3_kindAbove 34 = .ok (.iconst 1, 1) := by decide +kernel
theorem dX3_kindAbove_35 : decode cX3_kindAbove 35 = .ok (.ireturn, 1) := by decide +kernel
theorem dX3_kindAbove_36 : decode cX3_kindAbove 36 = .ok (.iconst 4, 1) := by decide +kernel
theorem dX3_kindAbove_37 : decode cX3_kindAbove 37 = .ok (.ireturn, 1) := by decide +kernel
theorem dX3_kindAbove_38 : decode cX3_kindAbove 38 = .ok (.iconst 0, 1) := by decide +kernel
theorem dX3_kindAbove_39 : decode cX3_kindAbove 39 = .ok (.ireturn, 1) := by decide +kernel
theorem dX3_sizeBody_0 : decode cX3_sizeBody 0 = .ok (.aload_n 0, 1) := by decide +kernel
theorem dX3_sizeBody_1 : decode cX3_sizeBody 1 = .ok (.getfield 9, 3) := by decide +kernel
theorem dX3_sizeBody_4 : decode cX3_sizeBody 4 = .ok (.tableswitch 41 2 5 #[32, 41, 35, 38], 32) := by decide +kernel
theorem dX3_sizeBody_36 : decode cX3_sizeBody 36 = .ok (.bipush 12, 2) := by decide +kernel
theorem dX3_sizeBody_38 : decode cX3_sizeBody 38 = .ok (.ireturn, 1) := by decide +kernel
theorem dX3_sizeBody_39 : decode cX3_sizeBody 39 = .ok (.bipush 13, 2) := by decide +kernel
theorem dX3_sizeBody_41 : decode cX3_sizeBody 41 = .ok (.ireturn, 1) := by decide +kernel
theorem dX3_sizeBody_42 : decode cX3_sizeBody 42 = .ok (.bipush 14, 2) := by decide +kernel
theorem dX3_sizeBody_44 : decode cX3_sizeBody 44 = .ok (.ireturn, 1) := by decide +kernel
theorem dX3_sizeBody_45 : decode cX3_sizeBody 45 = .ok (.aload_n 0, 1) := by decide +kernel
theorem dX3_sizeBody_46 : decode cX3_sizeBody 46 = .ok (.iconst 1, 1) := by decide +kernel
theorem dX3_sizeBody_47 : decode cX3_sizeBody 47 = .ok (.invokevirtual 38, 3) := by decide +kernel
theorem dX3_sizeBody_50 : decode cX3_sizeBody 50 = .ok (.ifCond .eq 8, 3) := by decide +kernel
theorem dX3_sizeBody_53 : decode cX3_sizeBody 53 = .ok (.bipush 11, 2) := by decide +kernel
theorem dX3_sizeBody_55 : decode cX3_sizeBody 55 = .ok (.goto 5, 3) := by decide +kernel
theorem dX3_sizeBody_58 : decode cX3_sizeBody 58 = .ok (.bipush 10, 2) := by decide +kernel
theorem dX3_sizeBody_60 : decode cX3_sizeBody 60 = .ok (.ireturn, 1) := by decide +kernel
theorem dX3_markBody_0 : decode cX3_markBody 0 = .ok (.aload_n 0, 1) := by decide +kernel
theorem dX3_markBody_1 : decode cX3_markBody 1 = .ok (.getfield 9, 3) := by decide +kernel
theorem dX3_markBody_4 : decode cX3_markBody 4 = .ok (.tableswitch 37 1 3 #[34, 28, 31], 28) := by decide +kernel
theorem dX3_markBody_32 : decode cX3_markBody 32 = .ok (.bipush 24, 2) := by decide +kernel
theorem dX3_markBody_34 : decode cX3_markBody 34 = .ok (.ireturn, 1) := by decide +kernel
theorem dX3_markBody_35 : decode cX3_markBody 35 = .ok (.bipush 22, 2) := by decide +kernel
theorem dX3_markBody_37 : decode cX3_markBody 37 = .ok (.ireturn, 1) := by decide +kernel
theorem dX3_markBody_38 : decode cX3_markBody 38 = .ok (.bipush 21, 2) := by decide +kernel
theorem dX3_markBody_40 : decode cX3_markBody 40 = .ok (.ireturn, 1) := by decide +kernel
theorem dX3_markBody_41 : decode cX3_markBody 41 = .ok (.aload_n 0, 1) := by decide +kernel
theorem dX3_markBody_42 : decode cX3_markBody 42 = .ok (.iconst 4, 1) := by decide +kernel
theorem dX3_markBody_43 : decode cX3_markBody 43 = .ok (.invokevirtual 38, 3) := by decide +kernel
theorem dX3_markBody_46 : decode cX3_markBody 46 = .ok (.ifCond .eq 8, 3) := by decide +kernel
theorem dX3_markBody_49 : decode cX3_markBody 49 = .ok (.bipush 23, 2) := by decide +kernel
theorem dX3_markBody_51 : decode cX3_markBody 51 = .ok (.goto 5, 3) := by decide +kernel
theorem dX3_markBody_54 : decode cX3_markBody 54 = .ok (.bipush 20, 2) := by decide +kernel
theorem dX3_markBody_56 : decode cX3_markBody 56 = .ok (.ireturn, 1) := by decide +kernel
theorem dX3_settle_0 : decode cX3_settle 0 = .ok (.aload_n 0, 1) := by decide +kernel
theorem dX3_settle_1 : decode cX3_settle 1 = .ok (.iload_n 1, 1) := by decide +kernel
theorem dX3_settle_2 : decode cX3_settle 2 = .ok (.putfield 21, 3) := by decide +kernel
theorem dX3_settle_5 : decode cX3_settle 5 = .ok (.aload_n 0, 1) := by decide +kernel
theorem dX3_settle_6 : decode cX3_settle 6 = .ok (.iconst 0, 1) := by decide +kernel
theorem dX3_settle_7 : decode cX3_settle 7 = .ok (.putfield 24, 3) := by decide +kernel
theorem dX3_settle_10 : decode cX3_settle 10 = .ok (.aload_n 0, 1) := by decide +kernel
theorem dX3_settle_11 : decode cX3_settle 11 = .ok (.iconst 0, 1) := by decide +kernel
theorem dX3_settle_12 : decode cX3_settle 12 = .ok (.putfield 27, 3) := by decide +kernel
theorem dX3_settle_15 : decode cX3_settle 15 = .ok (.aload_n 0, 1) := by decide +kernel
theorem dX3_settle_16 : decode cX3_settle 16 = .ok (.iload_n 2, 1) := by decide +kernel
theorem dX3_settle_17 : decode cX3_settle 17 = .ok (.putfield 31, 3) := by decide +kernel
theorem dX3_settle_20 : decode cX3_settle 20 = .ok (.return_, 1) := by decide +kernel
theorem dX3_rise_0 : decode cX3_rise 0 = .ok (.aload_n 0, 1) := by decide +kernel
theorem dX3_rise_1 : decode cX3_rise 1 = .ok (.iconst 1, 1) := by decide +kernel
theorem dX3_rise_2 : decode cX3_rise 2 = .ok (.putfield 21, 3) := by decide +kernel
theorem dX3_rise_5 : decode cX3_rise 5 = .ok (.aload_n 0, 1) := by decide +kernel
theorem dX3_rise_6 : decode cX3_rise 6 = .ok (.iconst 0, 1) := by decide +kernel
theorem dX3_rise_7 : decode cX3_rise 7 = .ok (.putfield 24, 3) := by decide +kernel
theorem dX3_rise_10 : decode cX3_rise 10 = .ok (.aload_n 0, 1) := by decide +kernel
theorem dX3_rise_11 : decode cX3_rise 11 = .ok (.iload_n 1, 1) := by decide +kernel
theorem dX3_rise_12 : decode cX3_rise 12 = .ok (.putfield 27, 3) := by decide +kernel
theorem dX3_rise_15 : decode cX3_rise 15 = .ok (.aload_n 0, 1) := by decide +kernel
theorem dX3_rise_16 : decode cX3_rise 16 = .ok (.ldc 30, 2) := by decide +kernel
theorem dX3_rise_18 : decode cX3_rise 18 = .ok (.putfield 31, 3) := by decide +kernel
theorem dX3_rise_21 : decode cX3_rise 21 = .ok (.return_, 1) := by decide +kernel
theorem dX3_letOutBy_0 : decode cX3_letOutBy 0 = .ok (.aload_n 0, 1) := by decide +kernel
theorem dX3_letOutBy_1 : decode cX3_letOutBy 1 = .ok (.iconst 1, 1) := by decide +kernel
theorem dX3_letOutBy_2 : decode cX3_letOutBy 2 = .ok (.bipush 40, 2) := by decide +kernel
theorem dX3_letOutBy_4 : decode cX3_letOutBy 4 = .ok (.aload_n 0, 1) := by decide +kernel
theorem dX3_letOutBy_5 : decode cX3_letOutBy 5 = .ok (.getfield 27, 3) := by decide +kernel
theorem dX3_letOutBy_8 : decode cX3_letOutBy 8 = .ok (.iload_n 1, 1) := by decide +kernel
theorem dX3_letOutBy_9 : decode cX3_letOutBy 9 = .ok (.iadd, 1) := by decide +kernel
theorem dX3_letOutBy_10 : decode cX3_letOutBy 10 = .ok (.invokestatic 42, 3) := by decide +kernel
theorem dX3_letOutBy_13 : decode cX3_letOutBy 13 = .ok (.invokestatic 48, 3) := by decide +kernel
theorem dX3_letOutBy_16 : decode cX3_letOutBy 16 = .ok (.putfield 27, 3) := by decide +kernel
theorem dX3_letOutBy_19 : decode cX3_letOutBy 19 = .ok (.aload_n 0, 1) := by decide +kernel
theorem dX3_letOutBy_20 : decode cX3_letOutBy 20 = .ok (.aload_n 0, 1) := by decide +kernel
theorem dX3_letOutBy_21 : decode cX3_letOutBy 21 = .ok (.getfield 24, 3) := by decide +kernel
theorem dX3_letOutBy_24 : decode cX3_letOutBy 24 = .ok (.aload_n 0, 1) := by decide +kernel
theorem dX3_letOutBy_25 : decode cX3_letOutBy 25 = .ok (.getfield 27, 3) := by decide +kernel
theorem dX3_letOutBy_28 : decode cX3_letOutBy 28 = .ok (.invokestatic 42, 3) := by decide +kernel
theorem dX3_letOutBy_31 : decode cX3_letOutBy 31 = .ok (.putfield 24, 3) := by decide +kernel
theorem dX3_letOutBy_34 : decode cX3_letOutBy 34 = .ok (.return_, 1) := by decide +kernel
theorem dX3_liftIn_0 : decode cX3_liftIn 0 = .ok (.aload_n 0, 1) := by decide +kernel
theorem dX3_liftIn_1 : decode cX3_liftIn 1 = .ok (.getfield 15, 3) := by decide +kernel
theorem dX3_liftIn_4 : decode cX3_liftIn 4 = .ok (.iload_n 1, 1) := by decide +kernel
theorem dX3_liftIn_5 : decode cX3_liftIn 5 = .ok (.imul, 1) := by decide +kernel
theorem dX3_liftIn_6 : decode cX3_liftIn 6 = .ok (.istore_n 3, 1) := by decide +kernel
theorem dX3_liftIn_7 : decode cX3_liftIn 7 = .ok (.iconst 4, 1) := by decide +kernel
theorem dX3_liftIn_8 : decode cX3_liftIn 8 = .ok (.iload_n 1, 1) := by decide +kernel
theorem dX3_liftIn_9 : decode cX3_liftIn 9 = .ok (.imul, 1) := by decide +kernel
theorem dX3_liftIn_10 : decode cX3_liftIn 10 = .ok (.istore 4, 2) := by decide +kernel
theorem dX3_liftIn_12 : decode cX3_liftIn 12 = .ok (.aload_n 0, 1) := by decide +kernel
theorem dX3_liftIn_13 : decode cX3_liftIn 13 = .ok (.getfield 9, 3) := by decide +kernel
theorem dX3_liftIn_16 : decode cX3_liftIn 16 = .ok (.tableswitch 86 2 5 #[32, 49, 61, 64], 32) := by decide +kernel
theorem dX3_liftIn_48 : decode cX3_liftIn 48 = .ok (.aload_n 0, 1) := by decide +kernel
theorem dX3_liftIn_49 : decode cX3_liftIn 49 = .ok (.getfield 24, 3) := by decide +kernel
theorem dX3_liftIn_52 : decode cX3_liftIn 52 = .ok (.bipush 20, 2) := by decide +kernel
theorem dX3_liftIn_54 : decode cX3_liftIn 54 = .ok (.if_icmp .lt 7, 3) := by decide +kernel
theorem dX3_liftIn_57 : decode cX3_liftIn 57 = .ok (.iload_n 3, 1) := by decide +kernel
theorem dX3_liftIn_58 : decode cX3_liftIn 58 = .ok (.goto 6, 3) := by decide +kernel
theorem dX3_liftIn_61 : decode cX3_liftIn 61 = .ok (.iload_n 3, 1) := by decide +kernel
theorem dX3_liftIn_62 : decode cX3_liftIn 62 = .ok (.iconst 2, 1) := by decide +kernel
theorem dX3_liftIn_63 : decode cX3_liftIn 63 = .ok (.idiv, 1) := by decide +kernel
theorem dX3_liftIn_64 : decode cX3_liftIn 64 = .ok (.ireturn, 1) := by decide +kernel
theorem dX3_liftIn_65 : decode cX3_liftIn 65 = .ok (.iload_n 2, 1) := by decide +kernel
theorem dX3_liftIn_66 : decode cX3_liftIn 66 = .ok (.ifCond .eq 9, 3) := by decide +kernel
theorem dX3_liftIn_69 : decode cX3_liftIn 69 = .ok (.iconst 2, 1) := by decide +kernel
theorem dX3_liftIn_70 : decode cX3_liftIn 70 = .ok (.iload_n 3, 1) := by decide +kernel
theorem dX3_liftIn_71 : decode cX3_liftIn 71 = .ok (.imul, 1) := by decide +kernel
theorem dX3_liftIn_72 : decode cX3_liftIn 72 = .ok (.goto 4, 3) := by decide +kernel
theorem dX3_liftIn_75 : decode cX3_liftIn 75 = .ok (.iload_n 3, 1) := by decide +kernel
theorem dX3_liftIn_76 : decode cX3_liftIn 76 = .ok (.ireturn, 1) := by decide +kernel
theorem dX3_liftIn_77 : decode cX3_liftIn 77 = .ok (.iload 4, 2) := by decide +kernel
theorem dX3_liftIn_79 : decode cX3_liftIn 79 = .ok (.ireturn, 1) := by decide +kernel
theorem dX3_liftIn_80 : decode cX3_liftIn 80 = .ok (.aload_n 0, 1) := by decide +kernel
theorem dX3_liftIn_81 : decode cX3_liftIn 81 = .ok (.getfield 24, 3) := by decide +kernel
theorem dX3_liftIn_84 : decode cX3_liftIn 84 = .ok (.bipush 30, 2) := by decide +kernel
theorem dX3_liftIn_86 : decode cX3_liftIn 86 = .ok (.if_icmp .lt 13, 3) := by decide +kernel
theorem dX3_liftIn_89 : decode cX3_liftIn 89 = .ok (.bipush 30, 2) := by decide +kernel
theorem dX3_liftIn_91 : decode cX3_liftIn 91 = .ok (.iload 4, 2) := by decide +kernel
theorem dX3_liftIn_93 : decode cX3_liftIn 93 = .ok (.invokestatic 48, 3) := by decide +kernel
theorem dX3_liftIn_96 : decode cX3_liftIn 96 = .ok (.goto 5, 3) := by decide +kernel
theorem dX3_liftIn_99 : decode cX3_liftIn 99 = .ok (.iload 4, 2) := by decide +kernel
theorem dX3_liftIn_101 : decode cX3_liftIn 101 = .ok (.ireturn, 1) := by decide +kernel
theorem dX3_liftIn_102 : decode cX3_liftIn 102 = .ok (.iload_n 3, 1) := by decide +kernel
theorem dX3_liftIn_103 : decode cX3_liftIn 103 = .ok (.ireturn, 1) := by decide +kernel
theorem dX3_snapsBy_0 : decode cX3_snapsBy 0 = .ok (.iload_n 1, 1) := by decide +kernel
theorem dX3_snapsBy_1 : decode cX3_snapsBy 1 = .ok (.ifCond .le 22, 3) := by decide +kernel
theorem dX3_snapsBy_4 : decode cX3_snapsBy 4 = .ok (.aload_n 0, 1) := by decide +kernel
theorem dX3_snapsBy_5 : decode cX3_snapsBy 5 = .ok (.getfield 24, 3) := by decide +kernel
theorem dX3_snapsBy_8 : decode cX3_snapsBy 8 = .ok (.iload_n 1, 1) := by decide +kernel
theorem dX3_snapsBy_9 : decode cX3_snapsBy 9 = .ok (.iadd, 1) := by decide +kernel
theorem dX3_snapsBy_10 : decode cX3_snapsBy 10 = .ok (.aload_n 0, 1) := by decide +kernel
theorem dX3_snapsBy_11 : decode cX3_snapsBy 11 = .ok (.getfield 27, 3) := by decide +kernel
theorem dX3_snapsBy_14 : decode cX3_snapsBy 14 = .ok (.iload_n 2, 1) := by decide +kernel
theorem dX3_snapsBy_15 : decode cX3_snapsBy 15 = .ok (.iadd, 1) := by decide +kernel
theorem dX3_snapsBy_16 : decode cX3_snapsBy 16 = .ok (.if_icmp .le 7, 3) := by decide +kernel
theorem dX3_snapsBy_19 : decode cX3_snapsBy 19 = .ok (.iconst 1, 1) := by decide +kernel
theorem dX3_snapsBy_20 : decode cX3_snapsBy 20 = .ok (.goto 4, 3) := by decide +kernel
theorem dX3_snapsBy_23 : decode cX3_snapsBy 23 = .ok (.iconst 0, 1) := by decide +kernel
theorem dX3_snapsBy_24 : decode cX3_snapsBy 24 = .ok (.ireturn, 1) := by decide +kernel
theorem dX3_moveBy_0 : decode cX3_moveBy 0 = .ok (.aload_n 0, 1) := by decide +kernel
theorem dX3_moveBy_1 : decode cX3_moveBy 1 = .ok (.iload_n 1, 1) := by decide +kernel
theorem dX3_moveBy_2 : decode cX3_moveBy 2 = .ok (.iload_n 2, 1) := by decide +kernel
theorem dX3_moveBy_3 : decode cX3_moveBy 3 = .ok (.invokevirtual 51, 3) := by decide +kernel
theorem dX3_moveBy_6 : decode cX3_moveBy 6 = .ok (.ifCond .eq 18, 3) := by decide +kernel
theorem dX3_moveBy_9 : decode cX3_moveBy 9 = .ok (.aload_n 0, 1) := by decide +kernel
theorem dX3_moveBy_10 : decode cX3_moveBy 10 = .ok (.iconst 2, 1) := by decide +kernel
theorem dX3_moveBy_11 : decode cX3_moveBy 11 = .ok (.iload_n 3, 1) := by decide +kernel
theorem dX3_moveBy_12 : decode cX3_moveBy 12 = .ok (.aload_n 0, 1) := by decide +kernel
theorem dX3_moveBy_13 : decode cX3_moveBy 13 = .ok (.getfield 27, 3) := by decide +kernel
theorem dX3_moveBy_16 : decode cX3_moveBy 16 = .ok (.iadd, 1) := by decide +kernel
theorem dX3_moveBy_17 : decode cX3_moveBy 17 = .ok (.bipush 16, 2) := by decide +kernel
theorem dX3_moveBy_19 : decode cX3_moveBy 19 = .ok (.irem, 1) := by decide +kernel
theorem dX3_moveBy_20 : decode cX3_moveBy 20 = .ok (.invokevirtual 55, 3) := by decide +kernel
theorem dX3_moveBy_23 : decode cX3_moveBy 23 = .ok (.return_, 1) := by decide +kernel
theorem dX3_moveBy_24 : decode cX3_moveBy 24 = .ok (.aload_n 0, 1) := by decide +kernel
theorem dX3_moveBy_25 : decode cX3_moveBy 25 = .ok (.aload_n 0, 1) := by decide +kernel
theorem dX3_moveBy_26 : decode cX3_moveBy 26 = .ok (.getfield 24, 3) := by decide +kernel
theorem dX3_moveBy_29 : decode cX3_moveBy 29 = .ok (.iload_n 1, 1) := by decide +kernel
theorem dX3_moveBy_30 : decode cX3_moveBy 30 = .ok (.iadd, 1) := by decide +kernel
theorem dX3_moveBy_31 : decode cX3_moveBy 31 = .ok (.aload_n 0, 1) := by decide +kernel
theorem dX3_moveBy_32 : decode cX3_moveBy 32 = .ok (.getfield 27, 3) := by decide +kernel
theorem dX3_moveBy_35 : decode cX3_moveBy 35 = .ok (.invokestatic 42, 3) := by decide +kernel
theorem dX3_moveBy_38 : decode cX3_moveBy 38 = .ok (.putfield 24, 3) := by decide +kernel
theorem dX3_moveBy_41 : decode cX3_moveBy 41 = .ok (.iload_n 1, 1) := by decide +kernel
theorem dX3_moveBy_42 : decode cX3_moveBy 42 = .ok (.ifCond .ge 17, 3) := by decide +kernel
theorem dX3_moveBy_45 : decode cX3_moveBy 45 = .ok (.aload_n 0, 1) := by decide +kernel
theorem dX3_moveBy_46 : decode cX3_moveBy 46 = .ok (.getfield 24, 3) := by decide +kernel
theorem dX3_moveBy_49 : decode cX3_moveBy 49 = .ok (.ifCond .gt 10, 3) := by decide +kernel
theorem dX3_moveBy_52 : decode cX3_moveBy 52 = .ok (.aload_n 0, 1) := by decide +kernel
theorem dX3_moveBy_53 : decode cX3_moveBy 53 = .ok (.iconst 0, 1) := by decide +kernel
theorem dX3_moveBy_54 : decode cX3_moveBy 54 = .ok (.ldc 30, 2) := by decide +kernel
theorem dX3_moveBy_56 : decode cX3_moveBy 56 = .ok (.invokevirtual 55, 3) := by decide +kernel
theorem dX3_moveBy_59 : decode cX3_moveBy 59 = .ok (.return_, 1) := by decide +kernel
theorem dX4_init_0 : decode cX4_init 0 = .ok (.aload_n 0, 1) := by decide +kernel
theorem dX4_init_1 : decode cX4_init 1 = .ok (.invokespecial 3, 3) := by decide +kernel
theorem dX4_init_4 : decode cX4_init 4 = .ok (.aload_n 0, 1) := by decide +kernel
theorem dX4_init_5 : decode cX4_init 5 = .ok (.iconst 1, 1) := by decide +kernel
theorem dX4_init_6 : decode cX4_init 6 = .ok (.putfield 9, 3) := by decide +kernel
theorem dX4_init_9 : decode cX4_init 9 = .ok (.aload_n 0, 1) := by decide +kernel
theorem dX4_init_10 : decode cX4_init 10 = .ok (.iconst 1, 1) := by decide +kernel
theorem dX4_init_11 : decode cX4_init 11 = .ok (.putfield 15, 3) := by decide +kernel
theorem dX4_init_14 : decode cX4_init 14 = .ok (.aload_n 0, 1) := by decide +kernel
theorem dX4_init_15 : decode cX4_init 15 = .ok (.iconst 0, 1) := by decide +kernel
theorem dX4_init_16 : decode cX4_init 16 = .ok (.putfield 18, 3) := by decide +kernel
theorem dX4_init_19 : decode cX4_init 19 = .ok (.aload_n 0, 1) := by decide +kernel
theorem dX4_init_20 : decode cX4_init 20 = .ok (.iconst 0, 1) := by decide +kernel
theorem dX4_init_21 : decode cX4_init 21 = .ok (.putfield 21, 3) := by decide +kernel
theorem dX4_init_24 : decode cX4_init 24 = .ok (.aload_n 0, 1) := by decide +kernel
theorem dX4_init_25 : decode cX4_init 25 = .ok (.iconst 0, 1) := by decide +kernel
theorem dX4_init_26 : decode cX4_init 26 = .ok (.putfield 24, 3) := by decide +kernel
theorem dX4_init_29 : decode cX4_init 29 = .ok (.aload_n 0, 1) := by decide +kernel
theorem dX4_init_30 : decode cX4_init 30 = .ok (.bipush 6, 2) := by decide +kernel
theorem dX4_init_32 : decode cX4_init 32 = .ok (.newarray .int, 2) := by decide +kernel
theorem dX4_init_34 : decode cX4_init 34 = .ok (.putfield 27, 3) := by decide +kernel
theorem dX4_init_37 : decode cX4_init 37 = .ok (.aload_n 0, 1) := by decide +kernel
theorem dX4_init_38 : decode cX4_init 38 = .ok (.bipush 6, 2) := by decide +kernel
theorem dX4_init_40 : decode cX4_init 40 = .ok (.anewarray 31, 3) := by decide +kernel
theorem dX4_init_43 : decode cX4_init 43 = .ok (.putfield 33, 3) := by decide +kernel
theorem dX4_init_46 : decode cX4_init 46 = .ok (.iconst 0, 1) := by decide +kernel
theorem dX4_init_47 : decode cX4_init 47 = .ok (.istore_n 1, 1) := by decide +kernel
theorem dX4_init_48 : decode cX4_init 48 = .ok (.iload_n 1, 1) := by decide +kernel
theorem dX4_init_49 : decode cX4_init 49 = .ok (.bipush 6, 2) := by decide +kernel
theorem dX4_init_51 : decode cX4_init 51 = .ok (.if_icmp .ge 22, 3) := by decide +kernel
theorem dX4_init_54 : decode cX4_init 54 = .ok (.aload_n 0, 1) := by decide +kernel
theorem dX4_init_55 : decode cX4_init 55 = .ok (.getfield 33, 3) := by decide +kernel
theorem dX4_init_58 : decode cX4_init 58 = .ok (.iload_n 1, 1) := by decide +kernel
theorem dX4_init_59 : decode cX4_init 59 = .ok (.new 31, 3) := by decide +kernel
theorem dX4_init_62 : decode cX4_init 62 = .ok (.dup, 1) := by decide +kernel
theorem dX4_init_63 : decode cX4_init 63 = .ok (.invokespecial 37, 3) := by decide +kernel
theorem dX4_init_66 : decode cX4_init 66 = .ok (.aastore, 1) := by decide +kernel
theorem dX4_init_67 : decode cX4_init 67 = .ok (.iinc 1 1, 3) := by decide +kernel
theorem dX4_init_70 : decode cX4_init 70 = .ok (.goto (-22), 3) := by decide +kernel
theorem dX4_init_73 : decode cX4_init 73 = .ok (.return_, 1) := by decide +kernel
theorem dX4_isRead_0 : decode cX4_isRead 0 = .ok (.aload_n 0, 1) := by decide +kernel
theorem dX4_isRead_1 : decode cX4_isRead 1 = .ok (.getfield 24, 3) := by decide +kernel
theorem dX4_isRead_4 : decode cX4_isRead 4 = .ok (.ifCond .le 7, 3) := by decide +kernel
theorem dX4_isRead_7 : decode cX4_isRead 7 = .ok (.iconst 1, 1) := by decide +kernel
theorem dX4_isRead_8 : decode cX4_isRead 8 = .ok (.goto 4, 3) := by decide +kernel
theorem dX4_isRead_11 : decode cX4_isRead 11 = .ok (.iconst 0, 1) := by decide +kernel
theorem dX4_isRead_12 : decode cX4_isRead 12 = .ok (.ireturn, 1) := by decide +kernel
theorem dX4_hasPaper_0 : decode cX4_hasPaper 0 = .ok (.iload_n 1, 1) := by decide +kernel
theorem dX4_hasPaper_1 : decode cX4_hasPaper 1 = .ok (.ifCond .lt 15, 3) := by decide +kernel
theorem dX4_hasPaper_4 : decode cX4_hasPaper 4 = .ok (.iload_n 1, 1) := by decide +kernel
theorem dX4_hasPaper_5 : decode cX4_hasPaper 5 = .ok (.aload_n 0, 1) := by decide +kernel
theorem dX4_hasPaper_6 : decode cX4_hasPaper 6 = .ok (.getfield 24, 3) := by decide +kernel
theorem dX4_hasPaper_9 : decode cX4_hasPaper 9 = .ok (.if_icmp .ge 7, 3) := by decide +kernel
theorem dX4_hasPaper_12 : decode cX4_hasPaper 12 = .ok (.iconst 1, 1) := by decide +kernel
theorem dX4_hasPaper_13 : decode cX4_hasPaper 13 = .ok (.goto 4, 3) := by decide +kernel
theorem dX4_hasPaper_16 : decode cX4_hasPaper 16 = .ok (.iconst 0, 1) := by decide +kernel
theorem dX4_hasPaper_17 : decode cX4_hasPaper 17 = .ok (.ireturn, 1) := by decide +kernel
theorem dX4_hasWind_0 : decode cX4_hasWind 0 = .ok (.iload_n 1, 1) := by decide +kernel
theorem dX4_hasWind_1 : decode cX4_hasWind 1 = .ok (.ifCond .lt 15, 3) := by decide +kernel
theorem dX4_hasWind_4 : decode cX4_hasWind 4 = .ok (.iload_n 1, 1) := by decide +kernel
theorem dX4_hasWind_5 : decode cX4_hasWind 5 = .ok (.aload_n 0, 1) := by decide +kernel
theorem dX4_hasWind_6 : decode cX4_hasWind 6 = .ok (.getfield 21, 3) := by decide +kernel
theorem dX4_hasWind_9 : decode cX4_hasWind 9 = .ok (.if_icmp .ge 7, 3) := by decide +kernel
theorem dX4_hasWind_12 : decode cX4_hasWind 12 = .ok (.iconst 1, 1) := by decide +kernel
theorem dX4_hasWind_13 : decode cX4_hasWind 13 = .ok (.goto 4, 3) := by decide +kernel
theorem dX4_hasWind_16 : decode cX4_hasWind 16 = .ok (.iconst 0, 1) := by decide +kernel
theorem dX4_hasWind_17 : decode cX4_hasWind 17 = .ok (.ireturn, 1) := by decide +kernel
theorem dX4_become_0 : decode cX4_become 0 = .ok (.aload_n 0, 1) := by decide +kernel
theorem dX4_become_1 : decode cX4_become 1 = .ok (.aload_n 1, 1) := by decide +kernel
theorem dX4_become_2 : decode cX4_become 2 = .ok (.getfield 9, 3) := by decide +kernel
theorem dX4_become_5 : decode cX4_become 5 = .ok (.putfield 9, 3) := by decide +kernel
theorem dX4_become_8 : decode cX4_become 8 = .ok (.aload_n 0, 1) := by decide +kernel
theorem dX4_become_9 : decode cX4_become 9 = .ok (.aload_n 1, 1) := by decide +kernel
theorem dX4_become_10 : decode cX4_become 10 = .ok (.getfield 15, 3) := by decide +kernel
theorem dX4_become_13 : decode cX4_become 13 = .ok (.putfield 15, 3) := by decide +kernel
theorem dX4_become_16 : decode cX4_become 16 = .ok (.aload_n 0, 1) := by decide +kernel
theorem dX4_become_17 : decode cX4_become 17 = .ok (.aload_n 1, 1) := by decide +kernel
theorem dX4_become_18 : decode cX4_become 18 = .ok (.getfield 18, 3) := by decide +kernel
theorem dX4_become_21 : decode cX4_become 21 = .ok (.putfield 18, 3) := by decide +kernel
theorem dX4_become_24 : decode cX4_become 24 = .ok (.aload_n 0, 1) := by decide +kernel
theorem dX4_become_25 : decode cX4_become 25 = .ok (.aload_n 1, 1) := by decide +kernel
theorem dX4_become_26 : decode cX4_become 26 = .ok (.getfield 21, 3) := by decide +kernel
theorem dX4_become_29 : decode cX4_become 29 = .ok (.putfield 21, 3) := by decide +kernel
theorem dX4_become_32 : decode cX4_become 32 = .ok (.aload_n 0, 1) := by decide +kernel
theorem dX4_become_33 : decode cX4_become 33 = .ok (.aload_n 1, 1) := by decide +kernel
theorem dX4_become_34 : decode cX4_become 34 = .ok (.getfield 24, 3) := by decide +kernel
theorem dX4_become_37 : decode cX4_become 37 = .ok (.putfield 24, 3) := by decide +kernel
theorem dX4_become_40 : decode cX4_become 40 = .ok (.iconst 0, 1) := by decide +kernel
theorem dX4_become_41 : decode cX4_become 41 = .ok (.istore_n 2, 1) := by decide +kernel
theorem dX4_become_42 : decode cX4_become 42 = .ok (.iload_n 2, 1) := by decide +kernel
theorem dX4_become_43 : decode cX4_become 43 = .ok (.aload_n 0, 1) := by decide +kernel
theorem dX4_become_44 : decode cX4_become 44 = .ok (.getfield 21, 3) := by decide +kernel
theorem dX4_become_47 : decode cX4_become 47 = .ok (.if_icmp .ge 21, 3) := by decide +kernel
theorem dX4_become_50 : decode cX4_become 50 = .ok (.aload_n 0, 1) := by decide +kernel
theorem dX4_become_51 : decode cX4_become 51 = .ok (.getfield 27, 3) := by decide +kernel
theorem dX4_become_54 : decode cX4_become 54 = .ok (.iload_n 2, 1) := by decide +kernel
theorem dX4_become_55 : decode cX4_become 55 = .ok (.aload_n 1, 1) := by decide +kernel
theorem dX4_become_56 : decode cX4_become 56 = .ok (.getfield 27, 3) := by decide +kernel
theorem dX4_become_59 : decode cX4_become 59 = .ok (.iload_n 2, 1) := by decide +kernel
theorem dX4_become_60 : decode cX4_become 60 = .ok (.iaload, 1) := by decide +kernel
theorem dX4_become_61 : decode cX4_become 61 = .ok (.iastore, 1) := by decide +kernel
theorem dX4_become_62 : decode cX4_become 62 = .ok (.iinc 2 1, 3) := by decide +kernel
theorem dX4_become_65 : decode cX4_become 65 = .ok (.goto (-23), 3) := by decide +kernel
theorem dX4_become_68 : decode cX4_become 68 = .ok (.iconst 0, 1) := by decide +kernel
theorem dX4_become_69 : decode cX4_become 69 = .ok (.istore_n 2, 1) := by decide +kernel
theorem dX4_become_70 : decode cX4_become 70 = .ok (.iload_n 2, 1) := by decide +kernel
theorem dX4_become_71 : decode cX4_become 71 = .ok (.aload_n 0, 1) := by decide +kernel
theorem dX4_become_72 : decode cX4_become 72 = .ok (.getfield 24, 3) := by decide +kernel
theorem dX4_become_75 : decode cX4_become 75 = .ok (.if_icmp .ge 24, 3) := by decide +kernel
theorem dX4_become_78 : decode cX4_become 78 = .ok (.aload_n 0, 1) := by decide +kernel
theorem dX4_become_79 : decode cX4_become 79 = .ok (.getfield 33, 3) := by decide +kernel
theorem dX4_become_82 : decode cX4_become 82 = .ok (.iload_n 2, 1) := by decide +kernel
theorem dX4_become_83 : decode cX4_become 83 = .ok (.aaload, 1) := by decide +kernel
theorem dX4_become_84 : decode cX4_become 84 = .ok (.aload_n 1, 1) := by decide +kernel
theorem dX4_become_85 : decode cX4_become 85 = .ok (.getfield 33, 3) := by decide +kernel
theorem dX4_become_88 : decode cX4_become 88 = .ok (.iload_n 2, 1) := by decide +kernel
theorem dX4_become_89 : decode cX4_become 89 = .ok (.aaload, 1) := by decide +kernel
theorem dX4_become_90 : decode cX4_become 90 = .ok (.invokevirtual 38, 3) := by decide +kernel
theorem dX4_become_93 : decode cX4_become 93 = .ok (.iinc 2 1, 3) := by decide +kernel
theorem dX4_become_96 : decode cX4_become 96 = .ok (.goto (-26), 3) := by decide +kernel
theorem dX4_become_99 : decode cX4_become 99 = .ok (.return_, 1) := by decide +kernel
theorem dX4_forceAfter_0 : decode cX4_forceAfter 0 = .ok (.aload_n 0, 1) := by decide +kernel
theorem dX4_forceAfter_1 : decode cX4_forceAfter 1 = .ok (.getfield 21, 3) := by decide +kernel
theorem dX4_forceAfter_4 : decode cX4_forceAfter 4 = .ok (.ifCond .le 22, 3) := by decide +kernel
theorem dX4_forceAfter_7 : decode cX4_forceAfter 7 = .ok (.aload_n 0, 1) := by decide +kernel
theorem dX4_forceAfter_8 : decode cX4_forceAfter 8 = .ok (.getfield 27, 3) := by decide +kernel
theorem dX4_forceAfter_11 : decode cX4_forceAfter 11 = .ok (.aload_n 0, 1) := by decide +kernel
theorem dX4_forceAfter_12 : decode cX4_forceAfter 12 = .ok (.getfield 18, 3) := by decide +kernel
theorem dX4_forceAfter_15 : decode cX4_forceAfter 15 = .ok (.iload_n 1, 1) := by decide +kernel
theorem dX4_forceAfter_16 : decode cX4_forceAfter 16 = .ok (.iadd, 1) := by decide +kernel
theorem dX4_forceAfter_17 : decode cX4_forceAfter 17 = .ok (.aload_n 0, 1) := by decide +kernel
theorem dX4_forceAfter_18 : decode cX4_forceAfter 18 = .ok (.getfield 21, 3) := by decide +kernel
theorem dX4_forceAfter_21 : decode cX4_forceAfter 21 = .ok (.irem, 1) := by decide +kernel
theorem dX4_forceAfter_22 : decode cX4_forceAfter 22 = .ok (.iaload, 1) := by decide +kernel
theorem dX4_forceAfter_23 : decode cX4_forceAfter 23 = .ok (.goto 4, 3) := by decide +kernel
theorem dX4_forceAfter_26 : decode cX4_forceAfter 26 = .ok (.iconst 0, 1) := by decide +kernel
theorem dX4_forceAfter_27 : decode cX4_forceAfter 27 = .ok (.ireturn, 1) := by decide +kernel
theorem dX4_riseOf_0 : decode cX4_riseOf 0 = .ok (.aload_n 0, 1) := by decide +kernel
theorem dX4_riseOf_1 : decode cX4_riseOf 1 = .ok (.getfield 33, 3) := by decide +kernel
theorem dX4_riseOf_4 : decode cX4_riseOf 4 = .ok (.iload_n 1, 1) := by decide +kernel
theorem dX4_riseOf_5 : decode cX4_riseOf 5 = .ok (.aaload, 1) := by decide +kernel
theorem dX4_riseOf_6 : decode cX4_riseOf 6 = .ok (.iload_n 2, 1) := by decide +kernel
theorem dX4_riseOf_7 : decode cX4_riseOf 7 = .ok (.aload_n 0, 1) := by decide +kernel
theorem dX4_riseOf_8 : decode cX4_riseOf 8 = .ok (.invokevirtual 42, 3) := by decide +kernel
theorem dX4_riseOf_11 : decode cX4_riseOf 11 = .ok (.invokevirtual 46, 3) := by decide +kernel
theorem dX4_riseOf_14 : decode cX4_riseOf 14 = .ok (.aload_n 0, 1) := by decide +kernel
theorem dX4_riseOf_15 : decode cX4_riseOf 15 = .ok (.getfield 33, 3) := by decide +kernel
theorem dX4_riseOf_18 : decode cX4_riseOf 18 = .ok (.iload_n 1, 1) := by decide +kernel
theorem dX4_riseOf_19 : decode cX4_riseOf 19 = .ok (.aaload, 1) := by decide +kernel
theorem dX4_riseOf_20 : decode cX4_riseOf 20 = .ok (.getfield 50, 3) := by decide +kernel
theorem dX4_riseOf_23 : decode cX4_riseOf 23 = .ok (.isub, 1) := by decide +kernel
theorem dX4_riseOf_24 : decode cX4_riseOf 24 = .ok (.ireturn, 1) := by decide +kernel
theorem dX4_isPaired_0 : decode cX4_isPaired 0 = .ok (.iconst 0, 1) := by decide +kernel
theorem dX4_isPaired_1 : decode cX4_isPaired 1 = .ok (.istore_n 1, 1) := by decide +kernel
theorem dX4_isPaired_2 : decode cX4_isPaired 2 = .ok (.iconst 0, 1) := by decide +kernel
theorem dX4_isPaired_3 : decode cX4_isPaired 3 = .ok (.istore_n 2, 1) := by decide +kernel
theorem dX4_isPaired_4 : decode cX4_isPaired 4 = .ok (.iload_n 2, 1) := by decide +kernel
theorem dX4_isPaired_5 : decode cX4_isPaired 5 = .ok (.aload_n 0, 1) := by decide +kernel
theorem dX4_isPaired_6 : decode cX4_isPaired 6 = .ok (.getfield 24, 3) := by decide +kernel
theorem dX4_isPaired_9 : decode cX4_isPaired 9 = .ok (.if_icmp .ge 37, 3) := by decide +kernel
theorem dX4_isPaired_12 : decode cX4_isPaired 12 = .ok (.aload_n 0, 1) := by decide +kernel
theorem dX4_isPaired_13 : decode cX4_isPaired 13 = .ok (.getfield 33, 3) := by decide +kernel
theorem dX4_isPaired_16 : decode cX4_isPaired 16 = .ok (.iload_n 2, 1) := by decide +kernel
theorem dX4_isPaired_17 : decode cX4_isPaired 17 = .ok (.aaload, 1) := by decide +kernel
theorem dX4_isPaired_18 : decode cX4_isPaired 18 = .ok (.invokevirtual 53, 3) := by decide +kernel
theorem dX4_isPaired_21 : decode cX4_isPaired 21 = .ok (.ifCond .eq 19, 3) := by decide +kernel
theorem dX4_isPaired_24 : decode cX4_isPaired 24 = .ok (.aload_n 0, 1) := by decide +kernel
theorem dX4_isPaired_25 : decode cX4_isPaired 25 = .ok (.getfield 33, 3) := by decide +kernel
theorem dX4_isPaired_28 : decode cX4_isPaired 28 = .ok (.iload_n 2, 1) := by decide +kernel
theorem dX4_isPaired_29 : decode cX4_isPaired 29 = .ok (.aaload, 1) := by decide +kernel
theorem dX4_isPaired_30 : decode cX4_isPaired 30 = .ok (.getfield 56, 3) := by decide +kernel
theorem dX4_isPaired_33 : decode cX4_isPaired 33 = .ok (.iconst 3, 1) := by decide +kernel
theorem dX4_isPaired_34 : decode cX4_isPaired 34 = .ok (.if_icmp .ne 6, 3) := by decide +kernel
theorem dX4_isPaired_37 : decode cX4_isPaired 37 = .ok (.iinc 1 1, 3) := by decide +kernel
theorem dX4_isPaired_40 : decode cX4_isPaired 40 = .ok (.iinc 2 1, 3) := by decide +kernel
theorem dX4_isPaired_43 : decode cX4_isPaired 43 = .ok (.goto (-39), 3) := by decide +kernel
theorem dX4_isPaired_46 : decode cX4_isPaired 46 = .ok (.iload_n 1, 1) := by decide +kernel
theorem dX4_isPaired_47 : decode cX4_isPaired 47 = .ok (.iconst 1, 1) := by decide +kernel
theorem dX4_isPaired_48 : decode cX4_isPaired 48 = .ok (.if_icmp .le 7, 3) := by decide +kernel
theorem dX4_isPaired_51 : decode cX4_isPaired 51 = .ok (.iconst 1, 1) := by decide +kernel
theorem dX4_isPaired_52 : decode cX4_isPaired 52 = .ok (.goto 4, 3) := by decide +kernel
theorem dX4_isPaired_55 : decode cX4_isPaired 55 = .ok (.iconst 0, 1) := by decide +kernel
theorem dX4_isPaired_56 : decode cX4_isPaired 56 = .ok (.ireturn, 1) := by decide +kernel
theorem dX4_passHourIn_0 : decode cX4_passHourIn 0 = .ok (.aload_n 0, 1) := by decide +kernel
theorem dX4_passHourIn_1 : decode cX4_passHourIn 1 = .ok (.invokevirtual 42, 3) := by decide +kernel
theorem dX4_passHourIn_4 : decode cX4_passHourIn 4 = .ok (.istore_n 2, 1) := by decide +kernel
theorem dX4_passHourIn_5 : decode cX4_passHourIn 5 = .ok (.iconst 0, 1) := by decide +kernel
theorem dX4_passHourIn_6 : decode cX4_passHourIn 6 = .ok (.istore_n 3, 1) := by decide +kernel
theorem dX4_passHourIn_7 : decode cX4_passHourIn 7 = .ok (.iload_n 3, 1) := by decide +kernel
theorem dX4_passHourIn_8 : decode cX4_passHourIn 8 = .ok (.aload_n 0, 1) := by decide +kernel
theorem dX4_passHourIn_9 : decode cX4_passHourIn 9 = .ok (.getfield 24, 3) := by decide +kernel
theorem dX4_passHourIn_12 : decode cX4_passHourIn 12 = .ok (.if_icmp .ge 58, 3) := by decide +kernel
theorem dX4_passHourIn_15 : decode cX4_passHourIn 15 = .ok (.aload_n 0, 1) := by decide +kernel
theorem dX4_passHourIn_16 : decode cX4_passHourIn 16 = .ok (.getfield 33, 3) := by decide +kernel
theorem dX4_passHourIn_19 : decode cX4_passHourIn 19 = .ok (.iload_n 3, 1) := by decide +kernel
theorem dX4_passHourIn_20 : decode cX4_passHourIn 20 = .ok (.aaload, 1) := by decide +kernel
theorem dX4_passHourIn_21 : decode cX4_passHourIn 21 = .ok (.invokevirtual 53, 3) := by decide +kernel
theorem dX4_passHourIn_24 : decode cX4_passHourIn 24 = .ok (.ifCond .eq 40, 3) := by decide +kernel
theorem dX4_passHourIn_27 : decode cX4_passHourIn 27 = .ok (.aload_n 0, 1) := by decide +kernel
theorem dX4_passHourIn_28 : decode cX4_passHourIn 28 = .ok (.getfield 33, 3) := by decide +kernel
theorem dX4_passHourIn_31 : decode cX4_passHourIn 31 = .ok (.iload_n 3, 1) := by decide +kernel
theorem dX4_passHourIn_32 : decode cX4_passHourIn 32 = .ok (.aaload, 1) := by decide +kernel
theorem dX4_passHourIn_33 : decode cX4_passHourIn 33 = .ok (.aload_n 0, 1) := by decide +kernel
theorem dX4_passHourIn_34 : decode cX4_passHourIn 34 = .ok (.getfield 33, 3) := by decide +kernel
theorem dX4_passHourIn_37 : decode cX4_passHourIn 37 = .ok (.iload_n 3, 1) := by decide +kernel
theorem dX4_passHourIn_38 : decode cX4_passHourIn 38 = .ok (.aaload, 1) := by decide +kernel
theorem dX4_passHourIn_39 : decode cX4_passHourIn 39 = .ok (.iload_n 1, 1) := by decide +kernel
theorem dX4_passHourIn_40 : decode cX4_passHourIn 40 = .ok (.iload_n 2, 1) := by decide +kernel
theorem dX4_passHourIn_41 : decode cX4_passHourIn 41 = .ok (.invokevirtual 46, 3) := by decide +kernel
theorem dX4_passHourIn_44 : decode cX4_passHourIn 44 = .ok (.aload_n 0, 1) := by decide +kernel
theorem dX4_passHourIn_45 : decode cX4_passHourIn 45 = .ok (.getfield 33, 3) := by decide +kernel
theorem dX4_passHourIn_48 : decode cX4_passHourIn 48 = .ok (.iload_n 3, 1) := by decide +kernel
theorem dX4_passHourIn_49 : decode cX4_passHourIn 49 = .ok (.aaload, 1) := by decide +kernel
theorem dX4_passHourIn_50 : decode cX4_passHourIn 50 = .ok (.getfield 50, 3) := by decide +kernel
theorem dX4_passHourIn_53 : decode cX4_passHourIn 53 = .ok (.isub, 1) := by decide +kernel
theorem dX4_passHourIn_54 : decode cX4_passHourIn 54 = .ok (.aload_n 0, 1) := by decide +kernel
theorem dX4_passHourIn_55 : decode cX4_passHourIn 55 = .ok (.getfield 15, 3) := by decide +kernel
theorem dX4_passHourIn_58 : decode cX4_passHourIn 58 = .ok (.iload_n 3, 1) := by decide +kernel
theorem dX4_passHourIn_59 : decode cX4_passHourIn 59 = .ok (.iload_n 1, 1) := by decide +kernel
theorem dX4_passHourIn_60 : decode cX4_passHourIn 60 = .ok (.iadd, 1) := by decide +kernel
theorem dX4_passHourIn_61 : decode cX4_passHourIn 61 = .ok (.invokevirtual 59, 3) := by decide +kernel
theorem dX4_passHourIn_64 : decode cX4_passHourIn 64 = .ok (.iinc 3 1, 3) := by decide +kernel
theorem dX4_passHourIn_67 : decode cX4_passHourIn 67 = .ok (.goto (-60), 3) := by decide +kernel
theorem dX4_passHourIn_70 : decode cX4_passHourIn 70 = .ok (.aload_n 0, 1) := by decide +kernel
theorem dX4_passHourIn_71 : decode cX4_passHourIn 71 = .ok (.dup, 1) := by decide +kernel
theorem dX4_passHourIn_72 : decode cX4_passHourIn 72 = .ok (.getfield 18, 3) := by decide +kernel
theorem dX4_passHourIn_75 : decode cX4_passHourIn 75 = .ok (.iconst 1, 1) := by decide +kernel
theorem dX4_passHourIn_76 : decode cX4_passHourIn 76 = .ok (.iadd, 1) := by decide +kernel
theorem dX4_passHourIn_77 : decode cX4_passHourIn 77 = .ok (.putfield 18, 3) := by decide +kernel
theorem dX4_passHourIn_80 : decode cX4_passHourIn 80 = .ok (.return_, 1) := by decide +kernel
theorem dX4_isPolicy_0 : decode cX4_isPolicy 0 = .ok (.aload_n 0, 1) := by decide +kernel
theorem dX4_isPolicy_1 : decode cX4_isPolicy 1 = .ok (.getfield 33, 3) := by decide +kernel
theorem dX4_isPolicy_4 : decode cX4_isPolicy 4 = .ok (.iload_n 1, 1) := by decide +kernel
theorem dX4_isPolicy_5 : decode cX4_isPolicy 5 = .ok (.aaload, 1) := by decide +kernel
theorem dX4_isPolicy_6 : decode cX4_isPolicy 6 = .ok (.invokevirtual 53, 3) := by decide +kernel
theorem dX4_isPolicy_9 : decode cX4_isPolicy 9 = .ok (.ifCond .eq 23, 3) := by decide +kernel
theorem dX4_isPolicy_12 : decode cX4_isPolicy 12 = .ok (.aload_n 0, 1) := by decide +kernel
theorem dX4_isPolicy_13 : decode cX4_isPolicy 13 = .ok (.getfield 33, 3) := by decide +kernel
theorem dX4_isPolicy_16 : decode cX4_isPolicy 16 = .ok (.iload_n 1, 1) := by decide +kernel
theorem dX4_isPolicy_17 : decode cX4_isPolicy 17 = .ok (.aaload, 1) := by decide +kernel
theorem dX4_isPolicy_18 : decode cX4_isPolicy 18 = .ok (.getfield 63, 3) := by decide +kernel
theorem dX4_isPolicy_21 : decode cX4_isPolicy 21 = .ok (.aload_n 0, 1) := by decide +kernel
theorem dX4_isPolicy_22 : decode cX4_isPolicy 22 = .ok (.getfield 9, 3) := by decide +kernel
theorem dX4_isPolicy_25 : decode cX4_isPolicy 25 = .ok (.if_icmp .lt 7, 3) := by decide +kernel
theorem dX4_isPolicy_28 : decode cX4_isPolicy 28 = .ok (.iconst 1, 1) := by decide +kernel
theorem dX4_isPolicy_29 : decode cX4_isPolicy 29 = .ok (.goto 4, 3) := by decide +kernel
theorem dX4_isPolicy_32 : decode cX4_isPolicy 32 = .ok (.iconst 0, 1) := by decide +kernel
theorem dX4_isPolicy_33 : decode cX4_isPolicy 33 = .ok (.ireturn, 1) := by decide +kernel
theorem dX4_policyBits_0 : decode cX4_policyBits 0 = .ok (.iconst 0, 1) := by decide +kernel
theorem dX4_policyBits_1 : decode cX4_policyBits 1 = .ok (.istore_n 1, 1) := by decide +kernel
theorem dX4_policyBits_2 : decode cX4_policyBits 2 = .ok (.iconst 0, 1) := by decide +kernel
theorem dX4_policyBits_3 : decode cX4_policyBits 3 = .ok (.istore_n 2, 1) := by decide +kernel
theorem dX4_policyBits_4 : decode cX4_policyBits 4 = .ok (.iload_n 2, 1) := by decide +kernel
theorem dX4_policyBits_5 : decode cX4_policyBits 5 = .ok (.aload_n 0, 1) := by decide +kernel
theorem dX4_policyBits_6 : decode cX4_policyBits 6 = .ok (.getfield 24, 3) := by decide +kernel
theorem dX4_policyBits_9 : decode cX4_policyBits 9 = .ok (.if_icmp .ge 23, 3) := by decide +kernel
theorem dX4_policyBits_12 : decode cX4_policyBits 12 = .ok (.aload_n 0, 1) := by decide +kernel
theorem dX4_policyBits_13 : decode cX4_policyBits 13 = .ok (.iload_n 2, 1) := by decide +kernel
theorem dX4_policyBits_14 : decode cX4_policyBits 14 = .ok (.invokevirtual 66, 3) := by decide +kernel
theorem dX4_policyBits_17 : decode cX4_policyBits 17 = .ok (.ifCond .eq 9, 3) := by decide +kernel
theorem dX4_policyBits_20 : decode cX4_policyBits 20 = .ok (.iload_n 1, 1) := by decide +kernel
theorem dX4_policyBits_21 : decode cX4_policyBits 21 = .ok (.iconst 1, 1) := by decide +kernel
theorem dX4_policyBits_22 : decode cX4_policyBits 22 = .ok (.iload_n 2, 1) := by decide +kernel
theorem dX4_policyBits_23 : decode cX4_policyBits 23 = .ok (.ishl, 1) := by decide +kernel
theorem dX4_policyBits_24 : decode cX4_policyBits 24 = .ok (.ior, 1) := by decide +kernel
theorem dX4_policyBits_25 : decode cX4_policyBits 25 = .ok (.istore_n 1, 1) := by decide +kernel
theorem dX4_policyBits_26 : decode cX4_policyBits 26 = .ok (.iinc 2 1, 3) := by decide +kernel
theorem dX4_policyBits_29 : decode cX4_policyBits 29 = .ok (.goto (-25), 3) := by decide +kernel
theorem dX4_policyBits_32 : decode cX4_policyBits 32 = .ok (.iload_n 1, 1) := by decide +kernel
theorem dX4_policyBits_33 : decode cX4_policyBits 33 = .ok (.ireturn, 1) := by decide +kernel
theorem dX4_bitsOf_0 : decode cX4_bitsOf 0 = .ok (.iconst 0, 1) := by decide +kernel
theorem dX4_bitsOf_1 : decode cX4_bitsOf 1 = .ok (.istore_n 2, 1) := by decide +kernel
theorem dX4_bitsOf_2 : decode cX4_bitsOf 2 = .ok (.iconst 0, 1) := by decide +kernel
theorem dX4_bitsOf_3 : decode cX4_bitsOf 3 = .ok (.istore_n 3, 1) := by decide +kernel
theorem dX4_bitsOf_4 : decode cX4_bitsOf 4 = .ok (.iload_n 3, 1) := by decide +kernel
theorem dX4_bitsOf_5 : decode cX4_bitsOf 5 = .ok (.aload_n 0, 1) := by decide +kernel
theorem dX4_bitsOf_6 : decode cX4_bitsOf 6 = .ok (.getfield 24, 3) := by decide +kernel
theorem dX4_bitsOf_9 : decode cX4_bitsOf 9 = .ok (.if_icmp .ge 28, 3) := by decide +kernel
theorem dX4_bitsOf_12 : decode cX4_bitsOf 12 = .ok (.aload_n 0, 1) := by decide +kernel
theorem dX4_bitsOf_13 : decode cX4_bitsOf 13 = .ok (.getfield 33, 3) := by decide +kernel
theorem dX4_bitsOf_16 : decode cX4_bitsOf 16 = .ok (.iload_n 3, 1) := by decide +kernel
theorem dX4_bitsOf_17 : decode cX4_bitsOf 17 = .ok (.aaload, 1) := by decide +kernel
theorem dX4_bitsOf_18 : decode cX4_bitsOf 18 = .ok (.getfield 70, 3) := by decide +kernel
theorem dX4_bitsOf_21 : decode cX4_bitsOf 21 = .ok (.iload_n 1, 1) := by decide +kernel
theorem dX4_bitsOf_22 : decode cX4_bitsOf 22 = .ok (.if_icmp .ne 9, 3) := by decide +kernel
theorem dX4_bitsOf_25 : decode cX4_bitsOf 25 = .ok (.iload_n 2, 1) := by decide +kernel
theorem dX4_bitsOf_26 : decode cX4_bitsOf 26 = .ok (.iconst 1, 1) := by decide +kernel
theorem dX4_bitsOf_27 : decode cX4_bitsOf 27 = .ok (.iload_n 3, 1) := by decide +kernel
theorem dX4_bitsOf_28 : decode cX4_bitsOf 28 = .ok (.ishl, 1) := by decide +kernel
theorem dX4_bitsOf_29 : decode cX4_bitsOf 29 = .ok (.ior, 1) := by decide +kernel
theorem dX4_bitsOf_30 : decode cX4_bitsOf 30 = .ok (.istore_n 2, 1) := by decide +kernel
theorem dX4_bitsOf_31 : decode cX4_bitsOf 31 = .ok (.iinc 3 1, 3) := by decide +kernel
theorem dX4_bitsOf_34 : decode cX4_bitsOf 34 = .ok (.goto (-30), 3) := by decide +kernel
theorem dX4_bitsOf_37 : decode cX4_bitsOf 37 = .ok (.iload_n 2, 1) := by decide +kernel
theorem dX4_bitsOf_38 : decode cX4_bitsOf 38 = .ok (.ireturn, 1) := by decide +kernel
theorem dX4_sendAll_0 : decode cX4_sendAll 0 = .ok (.iconst 0, 1) := by decide +kernel
theorem dX4_sendAll_1 : decode cX4_sendAll 1 = .ok (.istore_n 3, 1) := by decide +kernel
theorem dX4_sendAll_2 : decode cX4_sendAll 2 = .ok (.iload_n 3, 1) := by decide +kernel
theorem dX4_sendAll_3 : decode cX4_sendAll 3 = .ok (.aload_n 0, 1) := by decide +kernel
theorem dX4_sendAll_4 : decode cX4_sendAll 4 = .ok (.getfield 24, 3) := by decide +kernel
theorem dX4_sendAll_7 : decode cX4_sendAll 7 = .ok (.if_icmp .ge 28, 3) := by decide +kernel
theorem dX4_sendAll_10 : decode cX4_sendAll 10 = .ok (.iload_n 1, 1) := by decide +kernel
theorem dX4_sendAll_11 : decode cX4_sendAll 11 = .ok (.iload_n 3, 1) := by decide +kernel
theorem dX4_sendAll_12 : decode cX4_sendAll 12 = .ok (.ishr, 1) := by decide +kernel
theorem dX4_sendAll_13 : decode cX4_sendAll 13 = .ok (.iconst 1, 1) := by decide +kernel
theorem dX4_sendAll_14 : decode cX4_sendAll 14 = .ok (.iand, 1) := by decide +kernel
theorem dX4_sendAll_15 : decode cX4_sendAll 15 = .ok (.iconst 1, 1) := by decide +kernel
theorem dX4_sendAll_16 : decode cX4_sendAll 16 = .ok (.if_icmp .ne 13, 3) := by decide +kernel
theorem dX4_sendAll_19 : decode cX4_sendAll 19 = .ok (.aload_n 0, 1) := by decide +kernel
theorem dX4_sendAll_20 : decode cX4_sendAll 20 = .ok (.getfield 33, 3) := by decide +kernel
theorem dX4_sendAll_23 : decode cX4_sendAll 23 = .ok (.iload_n 3, 1) := by decide +kernel
theorem dX4_sendAll_24 : decode cX4_sendAll 24 = .ok (.aaload, 1) := by decide +kernel
theorem dX4_sendAll_25 : decode cX4_sendAll 25 = .ok (.iload_n 2, 1) := by decide +kernel
theorem dX4_sendAll_26 : decode cX4_sendAll 26 = .ok (.invokevirtual 73, 3) := by decide +kernel
theorem dX4_sendAll_29 : decode cX4_sendAll 29 = .ok (.iinc 3 1, 3) := by decide +kernel
theorem dX4_sendAll_32 : decode cX4_sendAll 32 = .ok (.goto (-30), 3) := by decide +kernel
theorem dX4_sendAll_35 : decode cX4_sendAll 35 = .ok (.return_, 1) := by decide +kernel
theorem dX4_quarrelCount_0 : decode cX4_quarrelCount 0 = .ok (.iconst 0, 1) := by decide +kernel
theorem dX4_quarrelCount_1 : decode cX4_quarrelCount 1 = .ok (.istore_n 1, 1) := by decide +kernel
theorem dX4_quarrelCount_2 : decode cX4_quarrelCount 2 = .ok (.iconst 0, 1) := by decide +kernel
theorem dX4_quarrelCount_3 : decode cX4_quarrelCount 3 = .ok (.istore_n 2, 1) := by decide +kernel
theorem dX4_quarrelCount_4 : decode cX4_quarrelCount 4 = .ok (.iload_n 2, 1) := by decide +kernel
theorem dX4_quarrelCount_5 : decode cX4_quarrelCount 5 = .ok (.aload_n 0, 1) := by decide +kernel
theorem dX4_quarrelCount_6 : decode cX4_quarrelCount 6 = .ok (.getfield 24, 3) := by decide +kernel
theorem dX4_quarrelCount_9 : decode cX4_quarrelCount 9 = .ok (.if_icmp .ge 39, 3) := by decide +kernel
theorem dX4_quarrelCount_12 : decode cX4_quarrelCount 12 = .ok (.iload_n 2, 1) := by decide +kernel
theorem dX4_quarrelCount_13 : decode cX4_quarrelCount 13 = .ok (.iconst 1, 1) := by decide +kernel
theorem dX4_quarrelCount_14 : decode cX4_quarrelCount 14 = .ok (.iadd, 1) := by decide +kernel
theorem dX4_quarrelCount_15 : decode cX4_quarrelCount 15 = .ok (.istore_n 3, 1) := by decide +kernel
theorem dX4_quarrelCount_16 : decode cX4_quarrelCount 16 = .ok (.iload_n 3, 1) := by decide +kernel
theorem dX4_quarrelCount_17 : decode cX4_quarrelCount 17 = .ok (.aload_n 0, 1) := by decide +kernel
theorem dX4_quarrelCount_18 : decode cX4_quarrelCount 18 = .ok (.getfield 24, 3) := by decide +kernel
theorem dX4_quarrelCount_21 : decode cX4_quarrelCount 21 = .ok (.if_icmp .ge 21, 3) := by decide +kernel
theorem dX4_quarrelCount_24 : decode cX4_quarrelCount 24 = .ok (.aload_n 0, 1) := by decide +kernel
theorem dX4_quarrelCount_25 : decode cX4_quarrelCount 25 = .ok (.iload_n 2, 1) := by decide +kernel
theorem dX4_quarrelCount_26 : decode cX4_quarrelCount 26 = .ok (.iload_n 3, 1) := by decide +kernel
theorem dX4_quarrelCount_27 : decode cX4_quarrelCount 27 = .ok (.invokevirtual 77, 3) := by decide +kernel
theorem dX4_quarrelCount_30 : decode cX4_quarrelCount 30 = .ok (.ifCond .eq 6, 3) := by decide +kernel
theorem dX4_quarrelCount_33 : decode cX4_quarrelCount 33 = .ok (.iinc 1 1, 3) := by decide +kernel
theorem dX4_quarrelCount_36 : decode cX4_quarrelCount 36 = .ok (.iinc 3 1, 3) := by decide +kernel
theorem dX4_quarrelCount_39 : decode cX4_quarrelCount 39 = .ok (.goto (-23), 3) := by decide +kernel
theorem dX4_quarrelCount_42 : decode cX4_quarrelCount 42 = .ok (.iinc 2 1, 3) := by decide +kernel
theorem dX4_quarrelCount_45 : decode cX4_quarrelCount 45 = .ok (.goto (-41), 3) := by decide +kernel
theorem dX4_quarrelCount_48 : decode cX4_quarrelCount 48 = .ok (.iload_n 1, 1) := by decide +kernel
theorem dX4_quarrelCount_49 : decode cX4_quarrelCount 49 = .ok (.ireturn, 1) := by decide +kernel
theorem dX4_firstQuarrel_0 : decode cX4_firstQuarrel 0 = .ok (.iconst 0, 1) := by decide +kernel
theorem dX4_firstQuarrel_1 : decode cX4_firstQuarrel 1 = .ok (.istore_n 1, 1) := by decide +kernel
theorem dX4_firstQuarrel_2 : decode cX4_firstQuarrel 2 = .ok (.iload_n 1, 1) := by decide +kernel
theorem dX4_firstQuarrel_3 : decode cX4_firstQuarrel 3 = .ok (.aload_n 0, 1) := by decide +kernel
theorem dX4_firstQuarrel_4 : decode cX4_firstQuarrel 4 = .ok (.getfield 24, 3) := by decide +kernel
theorem dX4_firstQuarrel_7 : decode cX4_firstQuarrel 7 = .ok (.if_icmp .ge 43, 3) := by decide +kernel
theorem dX4_firstQuarrel_10 : decode cX4_firstQuarrel 10 = .ok (.iload_n 1, 1) := by decide +kernel
theorem dX4_firstQuarrel_11 : decode cX4_firstQuarrel 11 = .ok (.iconst 1, 1) := by decide +kernel
theorem dX4_firstQuarrel_12 : decode cX4_firstQuarrel 12 = .ok (.iadd, 1) := by decide +kernel
theorem dX4_firstQuarrel_13 : decode cX4_firstQuarrel 13 = .ok (.istore_n 2, 1) := by decide +kernel
theorem dX4_firstQuarrel_14 : decode cX4_firstQuarrel 14 = .ok (.iload_n 2, 1) := by decide +kernel
theorem dX4_firstQuarrel_15 : decode cX4_firstQuarrel 15 = .ok (.aload_n 0, 1) := by decide +kernel
theorem dX4_firstQuarrel_16 : decode cX4_firstQuarrel 16 = .ok (.getfield 24, 3) := by decide +kernel
theorem dX4_firstQuarrel_19 : decode cX4_firstQuarrel 19 = .ok (.if_icmp .ge 25, 3) := by decide +kernel
theorem dX4_firstQuarrel_22 : decode cX4_firstQuarrel 22 = .ok (.aload_n 0, 1) := by decide +kernel
theorem dX4_firstQuarrel_23 : decode cX4_firstQuarrel 23 = .ok (.iload_n 1, 1) := by decide +kernel
theorem dX4_firstQuarrel_24 : decode cX4_firstQuarrel 24 = .ok (.iload_n 2, 1) := by decide +kernel
theorem dX4_firstQuarrel_25 : decode cX4_firstQuarrel 25 = .ok (.invokevirtual 77, 3) := by decide +kernel
theorem dX4_firstQuarrel_28 : decode cX4_firstQuarrel 28 = .ok (.ifCond .eq 10, 3) := by decide +kernel
theorem dX4_firstQuarrel_31 : decode cX4_firstQuarrel 31 = .ok (.bipush 10, 2) := by decide +kernel
theorem dX4_firstQuarrel_33 : decode cX4_firstQuarrel 33 = .ok (.iload_n 1, 1) := by decide +kernel
theorem dX4_firstQuarrel_34 : decode cX4_firstQuarrel 34 = .ok (.imul, 1) := by decide +kernel
theorem dX4_firstQuarrel_35 : decode cX4_firstQuarrel 35 = .ok (.iload_n 2, 1) := by decide +kernel
theorem dX4_firstQuarrel_36 : decode cX4_firstQuarrel 36 = .ok (.iadd, 1) := by decide +kernel
theorem dX4_firstQuarrel_37 : decode cX4_firstQuarrel 37 = .ok (.ireturn, 1) := by decide +kernel
theorem dX4_firstQuarrel_38 : decode cX4_firstQuarrel 38 = .ok (.iinc 2 1, 3) := by decide +kernel
theorem dX4_firstQuarrel_41 : decode cX4_firstQuarrel 41 = .ok (.goto (-27), 3) := by decide +kernel
theorem dX4_firstQuarrel_44 : decode cX4_firstQuarrel 44 = .ok (.iinc 1 1, 3) := by decide +kernel
theorem dX4_firstQuarrel_47 : decode cX4_firstQuarrel 47 = .ok (.goto (-45), 3) := by decide +kernel
theorem dX4_firstQuarrel_50 : decode cX4_firstQuarrel 50 = .ok (.ldc 81, 2) := by decide +kernel
theorem dX4_firstQuarrel_52 : decode cX4_firstQuarrel 52 = .ok (.ireturn, 1) := by decide +kernel
theorem dX4_quarrel_0 : decode cX4_quarrel 0 = .ok (.aload_n 0, 1) := by decide +kernel
theorem dX4_quarrel_1 : decode cX4_quarrel 1 = .ok (.getfield 33, 3) := by decide +kernel
theorem dX4_quarrel_4 : decode cX4_quarrel 4 = .ok (.iload_n 1, 1) := by decide +kernel
theorem dX4_quarrel_5 : decode cX4_quarrel 5 = .ok (.aaload, 1) := by decide +kernel
theorem dX4_quarrel_6 : decode cX4_quarrel 6 = .ok (.getfield 70, 3) := by decide +kernel
theorem dX4_quarrel_9 : decode cX4_quarrel 9 = .ok (.iconst 2, 1) := by decide +kernel
theorem dX4_quarrel_10 : decode cX4_quarrel 10 = .ok (.if_icmp .ne 41, 3) := by decide +kernel
theorem dX4_quarrel_13 : decode cX4_quarrel 13 = .ok (.aload_n 0, 1) := by decide +kernel
theorem dX4_quarrel_14 : decode cX4_quarrel 14 = .ok (.getfield 33, 3) := by decide +kernel
theorem dX4_quarrel_17 : decode cX4_quarrel 17 = .ok (.iload_n 2, 1) := by decide +kernel
theorem dX4_quarrel_18 : decode cX4_quarrel 18 = .ok (.aaload, 1) := by decide +kernel
theorem dX4_quarrel_19 : decode cX4_quarrel 19 = .ok (.getfield 70, 3) := by decide +kernel
theorem dX4_quarrel_22 : decode cX4_quarrel 22 = .ok (.iconst 2, 1) := by decide +kernel
theorem dX4_quarrel_23 : decode cX4_quarrel 23 = .ok (.if_icmp .ne 28, 3) := by decide +kernel
theorem dX4_quarrel_26 : decode cX4_quarrel 26 = .ok (.aload_n 0, 1) := by decide +kernel
theorem dX4_quarrel_27 : decode cX4_quarrel 27 = .ok (.getfield 33, 3) := by decide +kernel
theorem dX4_quarrel_30 : decode cX4_quarrel 30 = .ok (.iload_n 1, 1) := by decide +kernel
theorem dX4_quarrel_31 : decode cX4_quarrel 31 = .ok (.aaload, 1) := by decide +kernel
theorem dX4_quarrel_32 : decode cX4_quarrel 32 = .ok (.getfield 82, 3) := by decide +kernel
theorem dX4_quarrel_35 : decode cX4_quarrel 35 = .ok (.aload_n 0, 1) := by decide +kernel
theorem dX4_quarrel_36 : decode cX4_quarrel 36 = .ok (.getfield 33, 3) := by decide +kernel
theorem dX4_quarrel_39 : decode cX4_quarrel 39 = .ok (.iload_n 2, 1) := by decide +kernel
theorem dX4_quarrel_40 : decode cX4_quarrel 40 = .ok (.aaload, 1) := by decide +kernel
theorem dX4_quarrel_41 : decode cX4_quarrel 41 = .ok (.getfield 82, 3) := by decide +kernel
theorem dX4_quarrel_44 : decode cX4_quarrel 44 = .ok (.if_icmp .ne 7, 3) := by decide +kernel
theorem dX4_quarrel_47 : decode cX4_quarrel 47 = .ok (.iconst 1, 1) := by decide +kernel
theorem dX4_quarrel_48 : decode cX4_quarrel 48 = .ok (.goto 4, 3) := by decide +kernel
theorem dX4_quarrel_51 : decode cX4_quarrel 51 = .ok (.iconst 0, 1) := by decide +kernel
theorem dX4_quarrel_52 : decode cX4_quarrel 52 = .ok (.ireturn, 1) := by decide +kernel
theorem dX5_init_0 : decode cX5_init 0 = .ok (.aload_n 0, 1) := by decide +kernel
theorem dX5_init_1 : decode cX5_init 1 = .ok (.invokespecial 3, 3) := by decide +kernel
theorem dX5_init_4 : decode cX5_init 4 = .ok (.aload_n 0, 1) := by decide +kernel
theorem dX5_init_5 : decode cX5_init 5 = .ok (.iconst (-1), 1) := by decide +kernel
theorem dX5_init_6 : decode cX5_init 6 = .ok (.putfield 11, 3) := by decide +kernel
theorem dX5_init_9 : decode cX5_init 9 = .ok (.aload_n 0, 1) := by decide +kernel
theorem dX5_init_10 : decode cX5_init 10 = .ok (.iconst 0, 1) := by decide +kernel
theorem dX5_init_11 : decode cX5_init 11 = .ok (.putfield 15, 3) := by decide +kernel
theorem dX5_init_14 : decode cX5_init 14 = .ok (.aload_n 0, 1) := by decide +kernel
theorem dX5_init_15 : decode cX5_init 15 = .ok (.bipush 40, 2) := by decide +kernel
theorem dX5_init_17 : decode cX5_init 17 = .ok (.newarray .int, 2) := by decide +kernel
theorem dX5_init_19 : decode cX5_init 19 = .ok (.putfield 18, 3) := by decide +kernel
theorem dX5_init_22 : decode cX5_init 22 = .ok (.return_, 1) := by decide +kernel
theorem dX5_isMissing_0 : decode cX5_isMissing 0 = .ok (.aload_n 0, 1) := by decide +kernel
theorem dX5_isMissing_1 : decode cX5_isMissing 1 = .ok (.getfield 11, 3) := by decide +kernel
theorem dX5_isMissing_4 : decode cX5_isMissing 4 = .ok (.iconst (-1), 1) := by decide +kernel
theorem dX5_isMissing_5 : decode cX5_isMissing 5 = .ok (.if_icmp .ne 7, 3) := by decide +kernel
theorem dX5_isMissing_8 : decode cX5_isMissing 8 = .ok (.iconst 1, 1) := by decide +kernel
theorem dX5_isMissing_9 : decode cX5_isMissing 9 = .ok (.goto 4, 3) := by decide +kernel
theorem dX5_isMissing_12 : decode cX5_isMissing 12 = .ok (.iconst 0, 1) := by decide +kernel
theorem dX5_isMissing_13 : decode cX5_isMissing 13 = .ok (.ireturn, 1) := by decide +kernel
theorem dX5_begin_0 : decode cX5_begin 0 = .ok (.aload_n 0, 1) := by decide +kernel
theorem dX5_begin_1 : decode cX5_begin 1 = .ok (.iload_n 1, 1) := by decide +kernel
theorem dX5_begin_2 : decode cX5_begin 2 = .ok (.putfield 11, 3) := by decide +kernel
theorem dX5_begin_5 : decode cX5_begin 5 = .ok (.aload_n 0, 1) := by decide +kernel
theorem dX5_begin_6 : decode cX5_begin 6 = .ok (.iload_n 2, 1) := by decide +kernel
theorem dX5_begin_7 : decode cX5_begin 7 = .ok (.putfield 15, 3) := by decide +kernel
theorem dX5_begin_10 : decode cX5_begin 10 = .ok (.iconst 0, 1) := by decide +kernel
theorem dX5_begin_11 : decode cX5_begin 11 = .ok (.istore_n 3, 1) := by decide +kernel
theorem dX5_begin_12 : decode cX5_begin 12 = .ok (.iload_n 3, 1) := by decide +kernel
theorem dX5_begin_13 : decode cX5_begin 13 = .ok (.bipush 40, 2) := by decide +kernel
theorem dX5_begin_15 : decode cX5_begin 15 = .ok (.if_icmp .ge 16, 3) := by decide +kernel
theorem dX5_begin_18 : decode cX5_begin 18 = .ok (.aload_n 0, 1) := by decide +kernel
theorem dX5_begin_19 : decode cX5_begin 19 = .ok (.getfield 18, 3) := by decide +kernel
theorem dX5_begin_22 : decode cX5_begin 22 = .ok (.iload_n 3, 1) := by decide +kernel
theorem dX5_begin_23 : decode cX5_begin 23 = .ok (.iconst 0, 1) := by decide +kernel
theorem dX5_begin_24 : decode cX5_begin 24 = .ok (.iastore, 1) := by decide +kernel
theorem dX5_begin_25 : decode cX5_begin 25 = .ok (.iinc 3 1, 3) := by decide +kernel
theorem dX5_begin_28 : decode cX5_begin 28 = .ok (.goto (-16), 3) := by decide +kernel
theorem dX5_begin_31 : decode cX5_begin 31 = .ok (.return_, 1) := by decide +kernel
theorem dX5_end_0 : decode cX5_end 0 = .ok (.aload_n 0, 1) := by decide +kernel
theorem dX5_end_1 : decode cX5_end 1 = .ok (.iconst (-1), 1) := by decide +kernel
theorem dX5_end_2 : decode cX5_end 2 = .ok (.putfield 11, 3) := by decide +kernel
theorem dX5_end_5 : decode cX5_end 5 = .ok (.aload_n 0, 1) := by decide +kernel
theorem dX5_end_6 : decode cX5_end 6 = .ok (.iconst 0, 1) := by decide +kernel
theorem dX5_end_7 : decode cX5_end 7 = .ok (.putfield 15, 3) := by decide +kernel
theorem dX5_end_10 : decode cX5_end 10 = .ok (.return_, 1) := by decide +kernel
theorem dX5_hasPlaces_0 : decode cX5_hasPlaces 0 = .ok (.iload_n 1, 1) := by decide +kernel
theorem dX5_hasPlaces_1 : decode cX5_hasPlaces 1 = .ok (.ifCond .lt 21, 3) := by decide +kernel
theorem dX5_hasPlaces_4 : decode cX5_hasPlaces 4 = .ok (.iload_n 2, 1) := by decide +kernel
theorem dX5_hasPlaces_5 : decode cX5_hasPlaces 5 = .ok (.ifCond .lt 17, 3) := by decide +kernel
theorem dX5_hasPlaces_8 : decode cX5_hasPlaces 8 = .ok (.iload_n 1, 1) := by decide +kernel
theorem dX5_hasPlaces_9 : decode cX5_hasPlaces 9 = .ok (.aload_n 0, 1) := by decide +kernel
theorem dX5_hasPlaces_10 : decode cX5_hasPlaces 10 = .ok (.getfield 15, 3) := by decide +kernel
theorem dX5_hasPlaces_13 : decode cX5_hasPlaces 13 = .ok (.iload_n 2, 1) := by decide +kernel
theorem dX5_hasPlaces_14 : decode cX5_hasPlaces 14 = .ok (.isub, 1) := by decide +kernel
theorem dX5_hasPlaces_15 : decode cX5_hasPlaces 15 = .ok (.if_icmp .gt 7, 3) := by decide +kernel
theorem dX5_hasPlaces_18 : decode cX5_hasPlaces 18 = .ok (.iconst 1, 1) := by decide +kernel
theorem dX5_hasPlaces_19 : decode cX5_hasPlaces 19 = .ok (.goto 4, 3) := by decide +kernel
theorem dX5_hasPlaces_22 : decode cX5_hasPlaces 22 = .ok (.iconst 0, 1) := by decide +kernel
theorem dX5_hasPlaces_23 : decode cX5_hasPlaces 23 = .ok (.ireturn, 1) := by decide +kernel
theorem dX5_put_0 : decode cX5_put 0 = .ok (.aload_n 0, 1) := by decide +kernel
theorem dX5_put_1 : decode cX5_put 1 = .ok (.getfield 18, 3) := by decide +kernel
theorem dX5_put_4 : decode cX5_put 4 = .ok (.iload_n 1, 1) := by decide +kernel
theorem dX5_put_5 : decode cX5_put 5 = .ok (.aload_n 0, 1) := by decide +kernel
theorem dX5_put_6 : decode cX5_put 6 = .ok (.iload_n 2, 1) := by decide +kernel
theorem dX5_put_7 : decode cX5_put 7 = .ok (.invokevirtual 22, 3) := by decide +kernel
theorem dX5_put_10 : decode cX5_put 10 = .ok (.iastore, 1) := by decide +kernel
theorem dX5_put_11 : decode cX5_put 11 = .ok (.aload_n 0, 1) := by decide +kernel
theorem dX5_put_12 : decode cX5_put 12 = .ok (.getfield 18, 3) := by decide +kernel
theorem dX5_put_15 : decode cX5_put 15 = .ok (.iload_n 1, 1) := by decide +kernel
theorem dX5_put_16 : decode cX5_put 16 = .ok (.iaload, 1) := by decide +kernel
theorem dX5_put_17 : decode cX5_put 17 = .ok (.ireturn, 1) := by decide +kernel
theorem dX5_cut_0 : decode cX5_cut 0 = .ok (.aload_n 0, 1) := by decide +kernel
theorem dX5_cut_1 : decode cX5_cut 1 = .ok (.getfield 11, 3) := by decide +kernel
theorem dX5_cut_4 : decode cX5_cut 4 = .ok (.ifCond .ne 6, 3) := by decide +kernel
theorem dX5_cut_7 : decode cX5_cut 7 = .ok (.iload_n 1, 1) := by decide +kernel
theorem dX5_cut_8 : decode cX5_cut 8 = .ok (.i2b, 1) := by decide +kernel
theorem dX5_cut_9 : decode cX5_cut 9 = .ok (.ireturn, 1) := by decide +kernel
theorem dX5_cut_10 : decode cX5_cut 10 = .ok (.aload_n 0, 1) := by decide +kernel
theorem dX5_cut_11 : decode cX5_cut 11 = .ok (.getfield 11, 3) := by decide +kernel
theorem dX5_cut_14 : decode cX5_cut 14 = .ok (.iconst 1, 1) := by decide +kernel
theorem dX5_cut_15 : decode cX5_cut 15 = .ok (.if_icmp .ne 8, 3) := by decide +kernel
theorem dX5_cut_18 : decode cX5_cut 18 = .ok (.iload_n 1, 1) := by decide +kernel
theorem dX5_cut_19 : decode cX5_cut 19 = .ok (.i2s, 1) := by decide +kernel
theorem dX5_cut_20 : decode cX5_cut 20 = .ok (.goto 4, 3) := by decide +kernel
theorem dX5_cut_23 : decode cX5_cut 23 = .ok (.iload_n 1, 1) := by decide +kernel
theorem dX5_cut_24 : decode cX5_cut 24 = .ok (.ireturn, 1) := by decide +kernel
theorem dX6_init_0 : decode cX6_init 0 = .ok (.aload_n 0, 1) := by decide +kernel
theorem dX6_init_1 : decode cX6_init 1 = .ok (.invokespecial 3, 3) := by decide +kernel
theorem dX6_init_4 : decode cX6_init 4 = .ok (.aload_n 0, 1) := by decide +kernel
theorem dX6_init_5 : decode cX6_init 5 = .ok (.bipush 100, 2) := by decide +kernel
theorem dX6_init_7 : decode cX6_init 7 = .ok (.newarray .int, 2) := by decide +kernel
theorem dX6_init_9 : decode cX6_init 9 = .ok (.putfield 9, 3) := by decide +kernel
theorem dX6_init_12 : decode cX6_init 12 = .ok (.aload_n 0, 1) := by decide +kernel
theorem dX6_init_13 : decode cX6_init 13 = .ok (.iconst 0, 1) := by decide +kernel
theorem dX6_init_14 : decode cX6_init 14 = .ok (.putfield 15, 3) := by decide +kernel
theorem dX6_init_17 : decode cX6_init 17 = .ok (.aload_n 0, 1) := by decide +kernel
theorem dX6_init_18 : decode cX6_init 18 = .ok (.iconst 0, 1) := by decide +kernel
theorem dX6_init_19 : decode cX6_init 19 = .ok (.putfield 19, 3) := by decide +kernel
theorem dX6_init_22 : decode cX6_init 22 = .ok (.aload_n 0, 1) := by decide +kernel
theorem dX6_init_23 : decode cX6_init 23 = .ok (.iconst 0, 1) := by decide +kernel
theorem dX6_init_24 : decode cX6_init 24 = .ok (.putfield 22, 3) := by decide +kernel
theorem dX6_init_27 : decode cX6_init 27 = .ok (.return_, 1) := by decide +kernel
theorem dX6_append_0 : decode cX6_append 0 = .ok (.aload_n 0, 1) := by decide +kernel
theorem dX6_append_1 : decode cX6_append 1 = .ok (.getfield 15, 3) := by decide +kernel
theorem dX6_append_4 : decode cX6_append 4 = .ok (.bipush 100, 2) := by decide +kernel
theorem dX6_append_6 : decode cX6_append 6 = .ok (.if_icmp .ge 23, 3) := by decide +kernel
theorem dX6_append_9 : decode cX6_append 9 = .ok (.aload_n 0, 1) := by decide +kernel
theorem dX6_append_10 : decode cX6_append 10 = .ok (.getfield 9, 3) := by decide +kernel
theorem dX6_append_13 : decode cX6_append 13 = .ok (.aload_n 0, 1) := by decide +kernel
theorem dX6_append_14 : decode cX6_append 14 = .ok (.getfield 15, 3) := by decide +kernel
theorem dX6_append_17 : decode cX6_append 17 = .ok (.iload_n 1, 1) := by decide +kernel
theorem dX6_append_18 : decode cX6_append 18 = .ok (.iastore, 1) := by decide +kernel
theorem dX6_append_19 : decode cX6_append 19 = .ok (.aload_n 0, 1) := by decide +kernel
theorem dX6_append_20 : decode cX6_append 20 = .ok (.dup, 1) := by decide +kernel
theorem dX6_append_21 : decode cX6_append 21 = .ok (.getfield 15, 3) := by decide +kernel
theorem dX6_append_24 : decode cX6_append 24 = .ok (.iconst 1, 1) := by decide +kernel
theorem dX6_append_25 : decode cX6_append 25 = .ok (.iadd, 1) := by decide +kernel
theorem dX6_append_26 : decode cX6_append 26 = .ok (.putfield 15, 3) := by decide +kernel
theorem dX6_append_29 : decode cX6_append 29 = .ok (.return_, 1) := by decide +kernel
theorem dX6_readInto_0 : decode cX6_readInto 0 = .ok (.aload_n 0, 1) := by decide +kernel
theorem dX6_readInto_1 : decode cX6_readInto 1 = .ok (.iconst 0, 1) := by decide +kernel
theorem dX6_readInto_2 : decode cX6_readInto 2 = .ok (.putfield 19, 3) := by decide +kernel
theorem dX6_readInto_5 : decode cX6_readInto 5 = .ok (.aload_n 0, 1) := by decide +kernel
theorem dX6_readInto_6 : decode cX6_readInto 6 = .ok (.iconst 0, 1) := by decide +kernel
theorem dX6_readInto_7 : decode cX6_readInto 7 = .ok (.putfield 22, 3) := by decide +kernel
theorem dX6_readInto_10 : decode cX6_readInto 10 = .ok (.aload_n 1, 1) := by decide +kernel
theorem dX6_readInto_11 : decode cX6_readInto 11 = .ok (.iconst 0, 1) := by decide +kernel
theorem dX6_readInto_12 : decode cX6_readInto 12 = .ok (.putfield 25, 3) := by decide +kernel
theorem dX6_readInto_15 : decode cX6_readInto 15 = .ok (.aload_n 1, 1) := by decide +kernel
theorem dX6_readInto_16 : decode cX6_readInto 16 = .ok (.iconst 0, 1) := by decide +kernel
theorem dX6_readInto_17 : decode cX6_readInto 17 = .ok (.putfield 30, 3) := by decide +kernel
theorem dX6_readInto_20 : decode cX6_readInto 20 = .ok (.aload_n 1, 1) := by decide +kernel
theorem dX6_readInto_21 : decode cX6_readInto 21 = .ok (.iconst 0, 1) := by decide +kernel
theorem dX6_readInto_22 : decode cX6_readInto 22 = .ok (.putfield 33, 3) := by decide +kernel
theorem dX6_readInto_25 : decode cX6_readInto 25 = .ok (.aload_n 0, 1) := by decide +kernel
theorem dX6_readInto_26 : decode cX6_readInto 26 = .ok (.aload_n 1, 1) := by decide +kernel
theorem dX6_readInto_27 : decode cX6_readInto 27 = .ok (.invokevirtual 36, 3) := by decide +kernel
theorem dX6_readInto_30 : decode cX6_readInto 30 = .ok (.ifCond .eq 30, 3) := by decide +kernel
theorem dX6_readInto_33 : decode cX6_readInto 33 = .ok (.aload_n 0, 1) := by decide +kernel
theorem dX6_readInto_34 : decode cX6_readInto 34 = .ok (.aload_n 1, 1) := by decide +kernel
theorem dX6_readInto_35 : decode cX6_readInto 35 = .ok (.invokevirtual 40, 3) := by decide +kernel
theorem dX6_readInto_38 : decode cX6_readInto 38 = .ok (.ifCond .eq 22, 3) := by decide +kernel
theorem dX6_readInto_41 : decode cX6_readInto 41 = .ok (.aload_n 0, 1) := by decide +kernel
theorem dX6_readInto_42 : decode cX6_readInto 42 = .ok (.aload_n 1, 1) := by decide +kernel
theorem dX6_readInto_43 : decode cX6_readInto 43 = .ok (.invokevirtual 43, 3) := by decide +kernel
theorem dX6_readInto_46 : decode cX6_readInto 46 = .ok (.ifCond .eq 14, 3) := by decide +kernel
theorem dX6_readInto_49 : decode cX6_readInto 49 = .ok (.aload_n 0, 1) := by decide +kernel
theorem dX6_readInto_50 : decode cX6_readInto 50 = .ok (.invokevirtual 46, 3) := by decide +kernel
theorem dX6_readInto_53 : decode cX6_readInto 53 = .ok (.ifCond .eq 7, 3) := by decide +kernel
theorem dX6_readInto_56 : decode cX6_readInto 56 = .ok (.iconst 1, 1) := by decide +kernel
theorem dX6_readInto_57 : decode cX6_readInto 57 = .ok (.goto 4, 3) := by decide +kernel
theorem dX6_readInto_60 : decode cX6_readInto 60 = .ok (.iconst 0, 1) := by decide +kernel
theorem dX6_readInto_61 : decode cX6_readInto 61 = .ok (.ireturn, 1) := by decide +kernel
theorem dX6_readLaw_0 : decode cX6_readLaw 0 = .ok (.aload_n 0, 1) := by decide +kernel
theorem dX6_readLaw_1 : decode cX6_readLaw 1 = .ok (.bipush 114, 2) := by decide +kernel
theorem dX6_readLaw_3 : decode cX6_readLaw 3 = .ok (.invokevirtual 50, 3) := by decide +kernel
theorem dX6_readLaw_6 : decode cX6_readLaw 6 = .ok (.ifCond .ne 5, 3) := by decide +kernel
theorem dX6_readLaw_9 : decode cX6_readLaw 9 = .ok (.iconst 0, 1) := by decide +kernel
theorem dX6_readLaw_10 : decode cX6_readLaw 10 = .ok (.ireturn, 1) := by decide +kernel
theorem dX6_readLaw_11 : decode cX6_readLaw 11 = .ok (.aload_n 1, 1) := by decide +kernel
theorem dX6_readLaw_12 : decode cX6_readLaw 12 = .ok (.aload_n 0, 1) := by decide +kernel
theorem dX6_readLaw_13 : decode cX6_readLaw 13 = .ok (.iconst 1, 1) := by decide +kernel
theorem dX6_readLaw_14 : decode cX6_readLaw 14 = .ok (.bipush 40, 2) := by decide +kernel
theorem dX6_readLaw_16 : decode cX6_readLaw 16 = .ok (.invokevirtual 54, 3) := by decide +kernel
theorem dX6_readLaw_19 : decode cX6_readLaw 19 = .ok (.putfield 58, 3) := by decide +kernel
theorem dX6_readLaw_22 : decode cX6_readLaw 22 = .ok (.aload_n 1, 1) := by decide +kernel
theorem dX6_readLaw_23 : decode cX6_readLaw 23 = .ok (.getfield 58, 3) := by decide +kernel
theorem dX6_readLaw_26 : decode cX6_readLaw 26 = .ok (.iconst (-1), 1) := by decide +kernel
theorem dX6_readLaw_27 : decode cX6_readLaw 27 = .ok (.if_icmp .eq 12, 3) := by decide +kernel
theorem dX6_readLaw_30 : decode cX6_readLaw 30 = .ok (.aload_n 0, 1) := by decide +kernel
theorem dX6_readLaw_31 : decode cX6_readLaw 31 = .ok (.bipush 44, 2) := by decide +kernel
theorem dX6_readLaw_33 : decode cX6_readLaw 33 = .ok (.invokevirtual 50, 3) := by decide +kernel
theorem dX6_readLaw_36 : decode cX6_readLaw 36 = .ok (.ifCond .ne 5, 3) := by decide +kernel
theorem dX6_readLaw_39 : decode cX6_readLaw 39 = .ok (.iconst 0, 1) := by decide +kernel
theorem dX6_readLaw_40 : decode cX6_readLaw 40 = .ok (.ireturn, 1) := by decide +kernel
theorem dX6_readLaw_41 : decode cX6_readLaw 41 = .ok (.aload_n 1, 1) := by decide +kernel
theorem dX6_readLaw_42 : decode cX6_readLaw 42 = .ok (.aload_n 0, 1) := by decide +kernel
theorem dX6_readLaw_43 : decode cX6_readLaw 43 = .ok (.iconst 1, 1) := by decide +kernel
theorem dX6_readLaw_44 : decode cX6_readLaw 44 = .ok (.bipush 99, 2) := by decide +kernel
theorem dX6_readLaw_46 : decode cX6_readLaw 46 = .ok (.invokevirtual 54, 3) := by decide +kernel
theorem dX6_readLaw_49 : decode cX6_readLaw 49 = .ok (.putfield 61, 3) := by decide +kernel
theorem dX6_readLaw_52 : decode cX6_readLaw 52 = .ok (.aload_n 1, 1) := by decide +kernel
theorem dX6_readLaw_53 : decode cX6_readLaw 53 = .ok (.getfield 61, 3) := by decide +kernel
theorem dX6_readLaw_56 : decode cX6_readLaw 56 = .ok (.iconst (-1), 1) := by decide +kernel
theorem dX6_readLaw_57 : decode cX6_readLaw 57 = .ok (.if_icmp .eq 16, 3) := by decide +kernel
theorem dX6_readLaw_60 : decode cX6_readLaw 60 = .ok (.aload_n 0, 1) := by decide +kernel
theorem dX6_readLaw_61 : decode cX6_readLaw 61 = .ok (.bipush 59, 2) := by decide +kernel
theorem dX6_readLaw_63 : decode cX6_readLaw 63 = .ok (.invokevirtual 50, 3) := by decide +kernel
theorem dX6_readLaw_66 : decode cX6_readLaw 66 = .ok (.ifCond .eq 7, 3) := by decide +kernel
theorem dX6_readLaw_69 : decode cX6_readLaw 69 = .ok (.iconst 1, 1) := by decide +kernel
theorem dX6_readLaw_70 : decode cX6_readLaw 70 = .ok (.goto 4, 3) := by decide +kernel
theorem dX6_readLaw_73 : decode cX6_readLaw 73 = .ok (.iconst 0, 1) := by decide +kernel
theorem dX6_readLaw_74 : decode cX6_readLaw 74 = .ok (.ireturn, 1) := by decide +kernel
theorem dX6_readWinds_0 : decode cX6_readWinds 0 = .ok (.iconst 0, 1) := by decide +kernel
theorem dX6_readWinds_1 : decode cX6_readWinds 1 = .ok (.istore_n 2, 1) := by decide +kernel
theorem dX6_readWinds_2 : decode cX6_readWinds 2 = .ok (.iload_n 2, 1) := by decide +kernel
theorem dX6_readWinds_3 : decode cX6_readWinds 3 = .ok (.bipush 6, 2) := by decide +kernel
theorem dX6_readWinds_5 : decode cX6_readWinds 5 = .ok (.if_icmp .gt 78, 3) := by decide +kernel
theorem dX6_readWinds_8 : decode cX6_readWinds 8 = .ok (.aload_n 0, 1) := by decide +kernel
theorem dX6_readWinds_9 : decode cX6_readWinds 9 = .ok (.invokevirtual 64, 3) := by decide +kernel
theorem dX6_readWinds_12 : decode cX6_readWinds 12 = .ok (.bipush 119, 2) := by decide +kernel
theorem dX6_readWinds_14 : decode cX6_readWinds 14 = .ok (.if_icmp .ne 69, 3) := by decide +kernel
theorem dX6_readWinds_17 : decode cX6_readWinds 17 = .ok (.iload_n 2, 1) := by decide +kernel
theorem dX6_readWinds_18 : decode cX6_readWinds 18 = .ok (.bipush 6, 2) := by decide +kernel
theorem dX6_readWinds_20 : decode cX6_readWinds 20 = .ok (.if_icmp .ne 9, 3) := by decide +kernel
theorem dX6_readWinds_23 : decode cX6_readWinds 23 = .ok (.aload_n 0, 1) := by decide +kernel
theorem dX6_readWinds_24 : decode cX6_readWinds 24 = .ok (.iconst 3, 1) := by decide +kernel
theorem dX6_readWinds_25 : decode cX6_readWinds 25 = .ok (.invokevirtual 68, 3) := by decide +kernel
theorem dX6_readWinds_28 : decode cX6_readWinds 28 = .ok (.ireturn, 1) := by decide +kernel
theorem dX6_readWinds_29 : decode cX6_readWinds 29 = .ok (.aload_n 0, 1) := by decide +kernel
theorem dX6_readWinds_30 : decode cX6_readWinds 30 = .ok (.dup, 1) := by decide +kernel
theorem dX6_readWinds_31 : decode cX6_readWinds 31 = .ok (.getfield 19, 3) := by decide +kernel
theorem dX6_readWinds_34 : decode cX6_readWinds 34 = .ok (.iconst 1, 1) := by decide +kernel
theorem dX6_readWinds_35 : decode cX6_readWinds 35 = .ok (.iadd, 1) := by decide +kernel
theorem dX6_readWinds_36 : decode cX6_readWinds 36 = .ok (.putfield 19, 3) := by decide +kernel
theorem dX6_readWinds_39 : decode cX6_readWinds 39 = .ok (.aload_n 0, 1) := by decide +kernel
theorem dX6_readWinds_40 : decode cX6_readWinds 40 = .ok (.iconst 0, 1) := by decide +kernel
theorem dX6_readWinds_41 : decode cX6_readWinds 41 = .ok (.bipush 9, 2) := by decide +kernel
theorem dX6_readWinds_43 : decode cX6_readWinds 43 = .ok (.invokevirtual 54, 3) := by decide +kernel
theorem dX6_readWinds_46 : decode cX6_readWinds 46 = .ok (.istore_n 3, 1) := by decide +kernel
theorem dX6_readWinds_47 : decode cX6_readWinds 47 = .ok (.iload_n 3, 1) := by decide +kernel
theorem dX6_readWinds_48 : decode cX6_readWinds 48 = .ok (.iconst (-1), 1) := by decide +kernel
theorem dX6_readWinds_49 : decode cX6_readWinds 49 = .ok (.if_icmp .eq 12, 3) := by decide +kernel
theorem dX6_readWinds_52 : decode cX6_readWinds 52 = .ok (.aload_n 0, 1) := by decide +kernel
theorem dX6_readWinds_53 : decode cX6_readWinds 53 = .ok (.bipush 59, 2) := by decide +kernel
theorem dX6_readWinds_55 : decode cX6_readWinds 55 = .ok (.invokevirtual 50, 3) := by decide +kernel
theorem dX6_readWinds_58 : decode cX6_readWinds 58 = .ok (.ifCond .ne 5, 3) := by decide +kernel
theorem dX6_readWinds_61 : decode cX6_readWinds 61 = .ok (.iconst 0, 1) := by decide +kernel
theorem dX6_readWinds_62 : decode cX6_readWinds 62 = .ok (.ireturn, 1) := by decide +kernel
theorem dX6_readWinds_63 : decode cX6_readWinds 63 = .ok (.aload_n 1, 1) := by decide +kernel
theorem dX6_readWinds_64 : decode cX6_readWinds 64 = .ok (.getfield 71, 3) := by decide +kernel
theorem dX6_readWinds_67 : decode cX6_readWinds 67 = .ok (.iload_n 2, 1) := by decide +kernel
theorem dX6_readWinds_68 : decode cX6_readWinds 68 = .ok (.iload_n 3, 1) := by decide +kernel
theorem dX6_readWinds_69 : decode cX6_readWinds 69 = .ok (.iastore, 1) := by decide +kernel
theorem dX6_readWinds_70 : decode cX6_readWinds 70 = .ok (.aload_n 1, 1) := by decide +kernel
theorem dX6_readWinds_71 : decode cX6_readWinds 71 = .ok (.iload_n 2, 1) := by decide +kernel
theorem dX6_readWinds_72 : decode cX6_readWinds 72 = .ok (.iconst 1, 1) := by decide +kernel
theorem dX6_readWinds_73 : decode cX6_readWinds 73 = .ok (.iadd, 1) := by decide +kernel
theorem dX6_readWinds_74 : decode cX6_readWinds 74 = .ok (.putfield 30, 3) := by decide +kernel
theorem dX6_readWinds_77 : decode cX6_readWinds 77 = .ok (.iinc 2 1, 3) := by decide +kernel
theorem dX6_readWinds_80 : decode cX6_readWinds 80 = .ok (.goto (-78), 3) := by decide +kernel
theorem dX6_readWinds_83 : decode cX6_readWinds 83 = .ok (.iconst 1, 1) := by decide +kernel
theorem dX6_readWinds_84 : decode cX6_readWinds 84 = .ok (.ireturn, 1) := by decide +kernel
theorem dX6_readPapers_0 : decode cX6_readPapers 0 = .ok (.iconst 0, 1) := by decide +kernel
theorem dX6_readPapers_1 : decode cX6_readPapers 1 = .ok (.istore_n 2, 1) := by decide +kernel
theorem dX6_readPapers_2 : decode cX6_readPapers 2 = .ok (.iload_n 2, 1) := by decide +kernel
theorem dX6_readPapers_3 : decode cX6_readPapers 3 = .ok (.bipush 6, 2) := by decide +kernel
theorem dX6_readPapers_5 : decode cX6_readPapers 5 = .ok (.if_icmp .gt 53, 3) := by decide +kernel
theorem dX6_readPapers_8 : decode cX6_readPapers 8 = .ok (.aload_n 0, 1) := by decide +kernel
theorem dX6_readPapers_9 : decode cX6_readPapers 9 = .ok (.invokevirtual 64, 3) := by decide +kernel
theorem dX6_readPapers_12 : decode cX6_readPapers 12 = .ok (.invokestatic 74, 3) := by decide +kernel
theorem dX6_readPapers_15 : decode cX6_readPapers 15 = .ok (.ifCond .eq 43, 3) := by decide +kernel
theorem dX6_readPapers_18 : decode cX6_readPapers 18 = .ok (.iload_n 2, 1) := by decide +kernel
theorem dX6_readPapers_19 : decode cX6_readPapers 19 = .ok (.bipush 6, 2) := by decide +kernel
theorem dX6_readPapers_21 : decode cX6_readPapers 21 = .ok (.if_icmp .ne 9, 3) := by decide +kernel
theorem dX6_readPapers_24 : decode cX6_readPapers 24 = .ok (.aload_n 0, 1) := by decide +kernel
theorem dX6_readPapers_25 : decode cX6_readPapers 25 = .ok (.iconst 3, 1) := by decide +kernel
theorem dX6_readPapers_26 : decode cX6_readPapers 26 = .ok (.invokevirtual 68, 3) := by decide +kernel
theorem dX6_readPapers_29 : decode cX6_readPapers 29 = .ok (.ireturn, 1) := by decide +kernel
theorem dX6_readPapers_30 : decode cX6_readPapers 30 = .ok (.aload_n 0, 1) := by decide +kernel
theorem dX6_readPapers_31 : decode cX6_readPapers 31 = .ok (.aload_n 1, 1) := by decide +kernel
theorem dX6_readPapers_32 : decode cX6_readPapers 32 = .ok (.getfield 78, 3) := by decide +kernel
theorem dX6_readPapers_35 : decode cX6_readPapers 35 = .ok (.iload_n 2, 1) := by decide +kernel
theorem dX6_readPapers_36 : decode cX6_readPapers 36 = .ok (.aaload, 1) := by decide +kernel
theorem dX6_readPapers_37 : decode cX6_readPapers 37 = .ok (.invokevirtual 82, 3) := by decide +kernel
theorem dX6_readPapers_40 : decode cX6_readPapers 40 = .ok (.ifCond .ne 5, 3) := by decide +kernel
theorem dX6_readPapers_43 : decode cX6_readPapers 43 = .ok (.iconst 0, 1) := by decide +kernel
theorem dX6_readPapers_44 : decode cX6_readPapers 44 = .ok (.ireturn, 1) := by decide +kernel
theorem dX6_readPapers_45 : decode cX6_readPapers 45 = .ok (.aload_n 1, 1) := by decide +kernel
theorem dX6_readPapers_46 : decode cX6_readPapers 46 = .ok (.iload_n 2, 1) := by decide +kernel
theorem dX6_readPapers_47 : decode cX6_readPapers 47 = .ok (.iconst 1, 1) := by decide +kernel
theorem dX6_readPapers_48 : decode cX6_readPapers 48 = .ok (.iadd, 1) := by decide +kernel
theorem dX6_readPapers_49 : decode cX6_readPapers 49 = .ok (.putfield 33, 3) := by decide +kernel
theorem dX6_readPapers_52 : decode cX6_readPapers 52 = .ok (.iinc 2 1, 3) := by decide +kernel
theorem dX6_readPapers_55 : decode cX6_readPapers 55 = .ok (.goto (-53), 3) := by decide +kernel
theorem dX6_readPapers_58 : decode cX6_readPapers 58 = .ok (.aload_n 1, 1) := by decide +kernel
theorem dX6_readPapers_59 : decode cX6_readPapers 59 = .ok (.getfield 33, 3) := by decide +kernel
theorem dX6_readPapers_62 : decode cX6_readPapers 62 = .ok (.ifCond .gt 11, 3) := by decide +kernel
theorem dX6_readPapers_65 : decode cX6_readPapers 65 = .ok (.aload_n 0, 1) := by decide +kernel
theorem dX6_readPapers_66 : decode cX6_readPapers 66 = .ok (.iconst 1, 1) := by decide +kernel
theorem dX6_readPapers_67 : decode cX6_readPapers 67 = .ok (.invokevirtual 68, 3) := by decide +kernel
theorem dX6_readPapers_70 : decode cX6_readPapers 70 = .ok (.ifCond .eq 7, 3) := by decide +kernel
theorem dX6_readPapers_73 : decode cX6_readPapers 73 = .ok (.iconst 1, 1) := by decide +kernel
theorem dX6_readPapers_74 : decode cX6_readPapers 74 = .ok (.goto 4, 3) := by decide +kernel
theorem dX6_readPapers_77 : decode cX6_readPapers 77 = .ok (.iconst 0, 1) := by decide +kernel
theorem dX6_readPapers_78 : decode cX6_readPapers 78 = .ok (.ireturn, 1) := by decide +kernel
theorem dX6_readPaper_0 : decode cX6_readPaper 0 = .ok (.aload_n 1, 1) := by decide +kernel
theorem dX6_readPaper_1 : decode cX6_readPaper 1 = .ok (.aload_n 0, 1) := by decide +kernel
theorem dX6_readPaper_2 : decode cX6_readPaper 2 = .ok (.invokevirtual 64, 3) := by decide +kernel
theorem dX6_readPaper_5 : decode cX6_readPaper 5 = .ok (.invokestatic 74, 3) := by decide +kernel
theorem dX6_readPaper_8 : decode cX6_readPaper 8 = .ok (.putfield 86, 3) := by decide +kernel
theorem dX6_readPaper_11 : decode cX6_readPaper 11 = .ok (.aload_n 0, 1) := by decide +kernel
theorem dX6_readPaper_12 : decode cX6_readPaper 12 = .ok (.dup, 1) := by decide +kernel
theorem dX6_readPaper_13 : decode cX6_readPaper 13 = .ok (.getfield 19, 3) := by decide +kernel
theorem dX6_readPaper_16 : decode cX6_readPaper 16 = .ok (.iconst 1, 1) := by decide +kernel
theorem dX6_readPaper_17 : decode cX6_readPaper 17 = .ok (.iadd, 1) := by decide +kernel
theorem dX6_readPaper_18 : decode cX6_readPaper 18 = .ok (.putfield 19, 3) := by decide +kernel
theorem dX6_readPaper_21 : decode cX6_readPaper 21 = .ok (.aload_n 1, 1) := by decide +kernel
theorem dX6_readPaper_22 : decode cX6_readPaper 22 = .ok (.aload_n 0, 1) := by decide +kernel
theorem dX6_readPaper_23 : decode cX6_readPaper 23 = .ok (.iconst 0, 1) := by decide +kernel
theorem dX6_readPaper_24 : decode cX6_readPaper 24 = .ok (.bipush 9, 2) := by decide +kernel
theorem dX6_readPaper_26 : decode cX6_readPaper 26 = .ok (.invokevirtual 54, 3) := by decide +kernel
theorem dX6_readPaper_29 : decode cX6_readPaper 29 = .ok (.putfield 91, 3) := by decide +kernel
theorem dX6_readPaper_32 : decode cX6_readPaper 32 = .ok (.aload_n 1, 1) := by decide +kernel
theorem dX6_readPaper_33 : decode cX6_readPaper 33 = .ok (.getfield 91, 3) := by decide +kernel
theorem dX6_readPaper_36 : decode cX6_readPaper 36 = .ok (.iconst (-1), 1) := by decide +kernel
theorem dX6_readPaper_37 : decode cX6_readPaper 37 = .ok (.if_icmp .eq 12, 3) := by decide +kernel
theorem dX6_readPaper_40 : decode cX6_readPaper 40 = .ok (.aload_n 0, 1) := by decide +kernel
theorem dX6_readPaper_41 : decode cX6_readPaper 41 = .ok (.bipush 44, 2) := by decide +kernel
theorem dX6_readPaper_43 : decode cX6_readPaper 43 = .ok (.invokevirtual 50, 3) := by decide +kernel
theorem dX6_readPaper_46 : decode cX6_readPaper 46 = .ok (.ifCond .ne 5, 3) := by decide +kernel
theorem dX6_readPaper_49 : decode cX6_readPaper 49 = .ok (.iconst 0, 1) := by decide +kernel
theorem dX6_readPaper_50 : decode cX6_readPaper 50 = .ok (.ireturn, 1) := by decide +kernel
theorem dX6_readPaper_51 : decode cX6_readPaper 51 = .ok (.aload_n 1, 1) := by decide +kernel
theorem dX6_readPaper_52 : decode cX6_readPaper 52 = .ok (.aload_n 0, 1) := by decide +kernel
theorem dX6_readPaper_53 : decode cX6_readPaper 53 = .ok (.iconst 1, 1) := by decide +kernel
theorem dX6_readPaper_54 : decode cX6_readPaper 54 = .ok (.bipush 60, 2) := by decide +kernel
theorem dX6_readPaper_56 : decode cX6_readPaper 56 = .ok (.invokevirtual 54, 3) := by decide +kernel
theorem dX6_readPaper_59 : decode cX6_readPaper 59 = .ok (.putfield 94, 3) := by decide +kernel
theorem dX6_readPaper_62 : decode cX6_readPaper 62 = .ok (.aload_n 1, 1) := by decide +kernel
theorem dX6_readPaper_63 : decode cX6_readPaper 63 = .ok (.iconst 0, 1) := by decide +kernel
theorem dX6_readPaper_64 : decode cX6_readPaper 64 = .ok (.ldc 97, 2) := by decide +kernel
theorem dX6_readPaper_66 : decode cX6_readPaper 66 = .ok (.invokevirtual 98, 3) := by decide +kernel
theorem dX6_readPaper_69 : decode cX6_readPaper 69 = .ok (.aload_n 1, 1) := by decide +kernel
theorem dX6_readPaper_70 : decode cX6_readPaper 70 = .ok (.getfield 94, 3) := by decide +kernel
theorem dX6_readPaper_73 : decode cX6_readPaper 73 = .ok (.iconst (-1), 1) := by decide +kernel
theorem dX6_readPaper_74 : decode cX6_readPaper 74 = .ok (.if_icmp .eq 16, 3) := by decide +kernel
theorem dX6_readPaper_77 : decode cX6_readPaper 77 = .ok (.aload_n 0, 1) := by decide +kernel
theorem dX6_readPaper_78 : decode cX6_readPaper 78 = .ok (.bipush 59, 2) := by decide +kernel
theorem dX6_readPaper_80 : decode cX6_readPaper 80 = .ok (.invokevirtual 50, 3) := by decide +kernel
theorem dX6_readPaper_83 : decode cX6_readPaper 83 = .ok (.ifCond .eq 7, 3) := by decide +kernel
theorem dX6_readPaper_86 : decode cX6_readPaper 86 = .ok (.iconst 1, 1) := by decide +kernel
theorem dX6_readPaper_87 : decode cX6_readPaper 87 = .ok (.goto 4, 3) := by decide +kernel
theorem dX6_readPaper_90 : decode cX6_readPaper 90 = .ok (.iconst 0, 1) := by decide +kernel
theorem dX6_readPaper_91 : decode cX6_readPaper 91 = .ok (.ireturn, 1) := by decide +kernel
theorem dX6_sortOf_0 : decode cX6_sortOf 0 = .ok (.iload_n 0, 1) := by decide +kernel
theorem dX6_sortOf_1 : decode cX6_sortOf 1 = .ok (.lookupswitch 61 #[(98, 51), (99, 59), (102, 53), (108, 57), (116, 55)], 51) := by decide +kernel
theorem dX6_sortOf_52 : decode cX6_sortOf 52 = .ok (.iconst 1, 1) := by decide +kernel
theorem dX6_sortOf_53 : decode cX6_sortOf 53 = .ok (.ireturn, 1) := by decide +kernel
theorem dX6_sortOf_54 : decode cX6_sortOf 54 = .ok (.iconst 2, 1) := by decide +kernel
theorem dX6_sortOf_55 : decode cX6_sortOf 55 = .ok (.ireturn, 1) := by decide +kernel
theorem dX6_sortOf_56 : decode cX6_sortOf 56 = .ok (.iconst 3, 1) := by decide +kernel
theorem dX6_sortOf_57 : decode cX6_sortOf 57 = .ok (.ireturn, 1) := by decide +kernel
theorem dX6_sortOf_58 : decode cX6_sortOf 58 = .ok (.iconst 4, 1) := by decide +kernel
theorem dX6_sortOf_59 : decode cX6_sortOf 59 = .ok (.ireturn, 1) := by decide +kernel
theorem dX6_sortOf_60 : decode cX6_sortOf 60 = .ok (.iconst 5, 1) := by decide +kernel
theorem dX6_sortOf_61 : decode cX6_sortOf 61 = .ok (.ireturn, 1) := by decide +kernel
theorem dX6_sortOf_62 : decode cX6_sortOf 62 = .ok (.iconst 0, 1) := by decide +kernel
theorem dX6_sortOf_63 : decode cX6_sortOf 63 = .ok (.ireturn, 1) := by decide +kernel
theorem dX6_next_0 : decode cX6_next 0 = .ok (.aload_n 0, 1) := by decide +kernel
theorem dX6_next_1 : decode cX6_next 1 = .ok (.aload_n 0, 1) := by decide +kernel
theorem dX6_next_2 : decode cX6_next 2 = .ok (.getfield 19, 3) := by decide +kernel
theorem dX6_next_5 : decode cX6_next 5 = .ok (.invokevirtual 102, 3) := by decide +kernel
theorem dX6_next_8 : decode cX6_next 8 = .ok (.ireturn, 1) := by decide +kernel
theorem dX6_byteAt_0 : decode cX6_byteAt 0 = .ok (.iload_n 1, 1) := by decide +kernel
theorem dX6_byteAt_1 : decode cX6_byteAt 1 = .ok (.ifCond .lt 26, 3) := by decide +kernel
theorem dX6_byteAt_4 : decode cX6_byteAt 4 = .ok (.iload_n 1, 1) := by decide +kernel
theorem dX6_byteAt_5 : decode cX6_byteAt 5 = .ok (.aload_n 0, 1) := by decide +kernel
theorem dX6_byteAt_6 : decode cX6_byteAt 6 = .ok (.getfield 15, 3) := by decide +kernel
theorem dX6_byteAt_9 : decode cX6_byteAt 9 = .ok (.if_icmp .ge 18, 3) := by decide +kernel
theorem dX6_byteAt_12 : decode cX6_byteAt 12 = .ok (.iload_n 1, 1) := by decide +kernel
theorem dX6_byteAt_13 : decode cX6_byteAt 13 = .ok (.bipush 100, 2) := by decide +kernel
theorem dX6_byteAt_15 : decode cX6_byteAt 15 = .ok (.if_icmp .ge 12, 3) := by decide +kernel
theorem dX6_byteAt_18 : decode cX6_byteAt 18 = .ok (.aload_n 0, 1) := by decide +kernel
theorem dX6_byteAt_19 : decode cX6_byteAt 19 = .ok (.getfield 9, 3) := by decide +kernel
theorem dX6_byteAt_22 : decode cX6_byteAt 22 = .ok (.iload_n 1, 1) := by decide +kernel
theorem dX6_byteAt_23 : decode cX6_byteAt 23 = .ok (.iaload, 1) := by decide +kernel
theorem dX6_byteAt_24 : decode cX6_byteAt 24 = .ok (.goto 4, 3) := by decide +kernel
theorem dX6_byteAt_27 : decode cX6_byteAt 27 = .ok (.iconst (-1), 1) := by decide +kernel
theorem dX6_byteAt_28 : decode cX6_byteAt 28 = .ok (.ireturn, 1) := by decide +kernel
theorem dX6_take_0 : decode cX6_take 0 = .ok (.aload_n 0, 1) := by decide +kernel
theorem dX6_take_1 : decode cX6_take 1 = .ok (.invokevirtual 64, 3) := by decide +kernel
theorem dX6_take_4 : decode cX6_take 4 = .ok (.iload_n 1, 1) := by decide +kernel
theorem dX6_take_5 : decode cX6_take 5 = .ok (.if_icmp .eq 9, 3) := by decide +kernel
theorem dX6_take_8 : decode cX6_take 8 = .ok (.aload_n 0, 1) := by decide +kernel
theorem dX6_take_9 : decode cX6_take 9 = .ok (.iconst 1, 1) := by decide +kernel
theorem dX6_take_10 : decode cX6_take 10 = .ok (.invokevirtual 68, 3) := by decide +kernel
theorem dX6_take_13 : decode cX6_take 13 = .ok (.ireturn, 1) := by decide +kernel
theorem dX6_take_14 : decode cX6_take 14 = .ok (.aload_n 0, 1) := by decide +kernel
theorem dX6_take_15 : decode cX6_take 15 = .ok (.dup, 1) := by decide +kernel
theorem dX6_take_16 : decode cX6_take 16 = .ok (.getfield 19, 3) := by decide +kernel
theorem dX6_take_19 : decode cX6_take 19 = .ok (.iconst 1, 1) := by decide +kernel
theorem dX6_take_20 : decode cX6_take 20 = .ok (.iadd, 1) := by decide +kernel
theorem dX6_take_21 : decode cX6_take 21 = .ok (.putfield 19, 3) := by decide +kernel
theorem dX6_take_24 : decode cX6_take 24 = .ok (.iconst 1, 1) := by decide +kernel
theorem dX6_take_25 : decode cX6_take 25 = .ok (.ireturn, 1) := by decide +kernel
theorem dX6_takeEnd_0 : decode cX6_takeEnd 0 = .ok (.aload_n 0, 1) := by decide +kernel
theorem dX6_takeEnd_1 : decode cX6_takeEnd 1 = .ok (.invokevirtual 64, 3) := by decide +kernel
theorem dX6_takeEnd_4 : decode cX6_takeEnd 4 = .ok (.iconst (-1), 1) := by decide +kernel
theorem dX6_takeEnd_5 : decode cX6_takeEnd 5 = .ok (.if_icmp .eq 11, 3) := by decide +kernel
theorem dX6_takeEnd_8 : decode cX6_takeEnd 8 = .ok (.aload_n 0, 1) := by decide +kernel
theorem dX6_takeEnd_9 : decode cX6_takeEnd 9 = .ok (.iconst 1, 1) := by decide +kernel
theorem dX6_takeEnd_10 : decode cX6_takeEnd 10 = .ok (.invokevirtual 68, 3) := by decide +kernel
theorem dX6_takeEnd_13 : decode cX6_takeEnd 13 = .ok (.ifCond .eq 7, 3) := by decide +kernel
theorem dX6_takeEnd_16 : decode cX6_takeEnd 16 = .ok (.iconst 1, 1) := by decide +kernel
theorem dX6_takeEnd_17 : decode cX6_takeEnd 17 = .ok (.goto 4, 3) := by decide +kernel
theorem dX6_takeEnd_20 : decode cX6_takeEnd 20 = .ok (.iconst 0, 1) := by decide +kernel
theorem dX6_takeEnd_21 : decode cX6_takeEnd 21 = .ok (.ireturn, 1) := by decide +kernel
theorem dX6_takeNumber_0 : decode cX6_takeNumber 0 = .ok (.aload_n 0, 1) := by decide +kernel
theorem dX6_takeNumber_1 : decode cX6_takeNumber 1 = .ok (.invokevirtual 105, 3) := by decide +kernel
theorem dX6_takeNumber_4 : decode cX6_takeNumber 4 = .ok (.istore_n 3, 1) := by decide +kernel
theorem dX6_takeNumber_5 : decode cX6_takeNumber 5 = .ok (.iload_n 3, 1) := by decide +kernel
theorem dX6_takeNumber_6 : decode cX6_takeNumber 6 = .ok (.iconst 1, 1) := by decide +kernel
theorem dX6_takeNumber_7 : decode cX6_takeNumber 7 = .ok (.if_icmp .lt 8, 3) := by decide +kernel
theorem dX6_takeNumber_10 : decode cX6_takeNumber 10 = .ok (.iload_n 3, 1) := by decide +kernel
theorem dX6_takeNumber_11 : decode cX6_takeNumber 11 = .ok (.iconst 2, 1) := by decide +kernel
theorem dX6_takeNumber_12 : decode cX6_takeNumber 12 = .ok (.if_icmp .le 11, 3) := by decide +kernel
theorem dX6_takeNumber_15 : decode cX6_takeNumber 15 = .ok (.aload_n 0, 1) := by decide +kernel
theorem dX6_takeNumber_16 : decode cX6_takeNumber 16 = .ok (.iconst 1, 1) := by decide +kernel
theorem dX6_takeNumber_17 : decode cX6_takeNumber 17 = .ok (.invokevirtual 68, 3) := by decide +kernel
theorem dX6_takeNumber_20 : decode cX6_takeNumber 20 = .ok (.pop, 1) := by decide +kernel
theorem dX6_takeNumber_21 : decode cX6_takeNumber 21 = .ok (.iconst (-1), 1) := by decide +kernel
theorem dX6_takeNumber_22 : decode cX6_takeNumber 22 = .ok (.ireturn, 1) := by decide +kernel
theorem dX6_takeNumber_23 : decode cX6_takeNumber 23 = .ok (.aload_n 0, 1) := by decide +kernel
theorem dX6_takeNumber_24 : decode cX6_takeNumber 24 = .ok (.invokevirtual 64, 3) := by decide +kernel
theorem dX6_takeNumber_27 : decode cX6_takeNumber 27 = .ok (.bipush 48, 2) := by decide +kernel
theorem dX6_takeNumber_29 : decode cX6_takeNumber 29 = .ok (.isub, 1) := by decide +kernel
theorem dX6_takeNumber_30 : decode cX6_takeNumber 30 = .ok (.istore 4, 2) := by decide +kernel
theorem dX6_takeNumber_32 : decode cX6_takeNumber 32 = .ok (.iload_n 3, 1) := by decide +kernel
theorem dX6_takeNumber_33 : decode cX6_takeNumber 33 = .ok (.iconst 2, 1) := by decide +kernel
theorem dX6_takeNumber_34 : decode cX6_takeNumber 34 = .ok (.if_icmp .ne 24, 3) := by decide +kernel
theorem dX6_takeNumber_37 : decode cX6_takeNumber 37 = .ok (.bipush 10, 2) := by decide +kernel
theorem dX6_takeNumber_39 : decode cX6_takeNumber 39 = .ok (.iload 4, 2) := by decide +kernel
theorem dX6_takeNumber_41 : decode cX6_takeNumber 41 = .ok (.imul, 1) := by decide +kernel
theorem dX6_takeNumber_42 : decode cX6_takeNumber 42 = .ok (.aload_n 0, 1) := by decide +kernel
theorem dX6_takeNumber_43 : decode cX6_takeNumber 43 = .ok (.aload_n 0, 1) := by decide +kernel
theorem dX6_takeNumber_44 : decode cX6_takeNumber 44 = .ok (.getfield 19, 3) := by decide +kernel
theorem dX6_takeNumber_47 : decode cX6_takeNumber 47 = .ok (.iconst 1, 1) := by decide +kernel
theorem dX6_takeNumber_48 : decode cX6_takeNumber 48 = .ok (.iadd, 1) := by decide +kernel
theorem dX6_takeNumber_49 : decode cX6_takeNumber 49 = .ok (.invokevirtual 102, 3) := by decide +kernel
theorem dX6_takeNumber_52 : decode cX6_takeNumber 52 = .ok (.iadd, 1) := by decide +kernel
theorem dX6_takeNumber_53 : decode cX6_takeNumber 53 = .ok (.bipush 48, 2) := by decide +kernel
theorem dX6_takeNumber_55 : decode cX6_takeNumber 55 = .ok (.isub, 1) := by decide +kernel
theorem dX6_takeNumber_56 : decode cX6_takeNumber 56 = .ok (.istore 4, 2) := by decide +kernel
theorem dX6_takeNumber_58 : decode cX6_takeNumber 58 = .ok (.iload 4, 2) := by decide +kernel
theorem dX6_takeNumber_60 : decode cX6_takeNumber 60 = .ok (.iload_n 1, 1) := by decide +kernel
theorem dX6_takeNumber_61 : decode cX6_takeNumber 61 = .ok (.if_icmp .lt 9, 3) := by decide +kernel
theorem dX6_takeNumber_64 : decode cX6_takeNumber 64 = .ok (.iload 4, 2) := by decide +kernel
theorem dX6_takeNumber_66 : decode cX6_takeNumber 66 = .ok (.iload_n 2, 1) := by decide +kernel
theorem dX6_takeNumber_67 : decode cX6_takeNumber 67 = .ok (.if_icmp .le 11, 3) := by decide +kernel
theorem dX6_takeNumber_70 : decode cX6_takeNumber 70 = .ok (.aload_n 0, 1) := by decide +kernel
theorem dX6_takeNumber_71 : decode cX6_takeNumber 71 = .ok (.iconst 2, 1) := by decide +kernel
theorem dX6_takeNumber_72 : decode cX6_takeNumber 72 = .ok (.invokevirtual 68, 3) := by decide +kernel
theorem dX6_takeNumber_75 : decode cX6_takeNumber 75 = .ok (.pop, 1) := by decide +kernel
theorem dX6_takeNumber_76 : decode cX6_takeNumber 76 = .ok (.iconst (-1), 1) := by decide +kernel
theorem dX6_takeNumber_77 : decode cX6_takeNumber 77 = .ok (.ireturn, 1) := by decide +kernel
theorem dX6_takeNumber_78 : decode cX6_takeNumber 78 = .ok (.aload_n 0, 1) := by decide +kernel
theorem dX6_takeNumber_79 : decode cX6_takeNumber 79 = .ok (.dup, 1) := by decide +kernel
theorem dX6_takeNumber_80 : decode cX6_takeNumber 80 = .ok (.getfield 19, 3) := by decide +kernel
theorem dX6_takeNumber_83 : decode cX6_takeNumber 83 = .ok (.iload_n 3, 1) := by decide +kernel
theorem dX6_takeNumber_84 : decode cX6_takeNumber 84 = .ok (.iadd, 1) := by decide +kernel
theorem dX6_takeNumber_85 : decode cX6_takeNumber 85 = .ok (.putfield 19, 3) := by decide +kernel
theorem dX6_takeNumber_88 : decode cX6_takeNumber 88 = .ok (.iload 4, 2) := by decide +kernel
theorem dX6_takeNumber_90 : decode cX6_takeNumber 90 = .ok (.ireturn, 1) := by decide +kernel
theorem dX6_figuresHere_0 : decode cX6_figuresHere 0 = .ok (.iconst 0, 1) := by decide +kernel
theorem dX6_figuresHere_1 : decode cX6_figuresHere 1 = .ok (.istore_n 1, 1) := by decide +kernel
theorem dX6_figuresHere_2 : decode cX6_figuresHere 2 = .ok (.iload_n 1, 1) := by decide +kernel
theorem dX6_figuresHere_3 : decode cX6_figuresHere 3 = .ok (.iconst 3, 1) := by decide +kernel
theorem dX6_figuresHere_4 : decode cX6_figuresHere 4 = .ok (.if_icmp .ge 25, 3) := by decide +kernel
theorem dX6_figuresHere_7 : decode cX6_figuresHere 7 = .ok (.aload_n 0, 1) := by decide +kernel
theorem dX6_figuresHere_8 : decode cX6_figuresHere 8 = .ok (.aload_n 0, 1) := by decide +kernel
theorem dX6_figuresHere_9 : decode cX6_figuresHere 9 = .ok (.getfield 19, 3) := by decide +kernel
theorem dX6_figuresHere_12 : decode cX6_figuresHere 12 = .ok (.iload_n 1, 1) := by decide +kernel
theorem dX6_figuresHere_13 : decode cX6_figuresHere 13 = .ok (.iadd, 1) := by decide +kernel
theorem dX6_figuresHere_14 : decode cX6_figuresHere 14 = .ok (.invokevirtual 102, 3) := by decide +kernel
theorem dX6_figuresHere_17 : decode cX6_figuresHere 17 = .ok (.invokestatic 108, 3) := by decide +kernel
theorem dX6_figuresHere_20 : decode cX6_figuresHere 20 = .ok (.ifCond .eq 9, 3) := by decide +kernel
theorem dX6_figuresHere_23 : decode cX6_figuresHere 23 = .ok (.iinc 1 1, 3) := by decide +kernel
theorem dX6_figuresHere_26 : decode cX6_figuresHere 26 = .ok (.goto (-24), 3) := by decide +kernel
theorem dX6_figuresHere_29 : decode cX6_figuresHere 29 = .ok (.iload_n 1, 1) := by decide +kernel
theorem dX6_figuresHere_30 : decode cX6_figuresHere 30 = .ok (.ireturn, 1) := by decide +kernel
theorem dX6_isFigure_0 : decode cX6_isFigure 0 = .ok (.iload_n 0, 1) := by decide +kernel
theorem dX6_isFigure_1 : decode cX6_isFigure 1 = .ok (.bipush 48, 2) := by decide +kernel
theorem dX6_isFigure_3 : decode cX6_isFigure 3 = .ok (.if_icmp .lt 13, 3) := by decide +kernel
theorem dX6_isFigure_6 : decode cX6_isFigure 6 = .ok (.iload_n 0, 1) := by decide +kernel
theorem dX6_isFigure_7 : decode cX6_isFigure 7 = .ok (.bipush 57, 2) := by decide +kernel
theorem dX6_isFigure_9 : decode cX6_isFigure 9 = .ok (.if_icmp .gt 7, 3) := by decide +kernel
theorem dX6_isFigure_12 : decode cX6_isFigure 12 = .ok (.iconst 1, 1) := by decide +kernel
theorem dX6_isFigure_13 : decode cX6_isFigure 13 = .ok (.goto 4, 3) := by decide +kernel
theorem dX6_isFigure_16 : decode cX6_isFigure 16 = .ok (.iconst 0, 1) := by decide +kernel
theorem dX6_isFigure_17 : decode cX6_isFigure 17 = .ok (.ireturn, 1) := by decide +kernel
theorem dX6_hasFault_0 : decode cX6_hasFault 0 = .ok (.aload_n 0, 1) := by decide +kernel
theorem dX6_hasFault_1 : decode cX6_hasFault 1 = .ok (.iload_n 1, 1) := by decide +kernel
theorem dX6_hasFault_2 : decode cX6_hasFault 2 = .ok (.putfield 22, 3) := by decide +kernel
theorem dX6_hasFault_5 : decode cX6_hasFault 5 = .ok (.iconst 0, 1) := by decide +kernel
theorem dX6_hasFault_6 : decode cX6_hasFault 6 = .ok (.ireturn, 1) := by decide +kernel
theorem dX7_init_0 : decode cX7_init 0 = .ok (.aload_n 0, 1) := by decide +kernel
theorem dX7_init_1 : decode cX7_init 1 = .ok (.invokespecial 1, 3) := by decide +kernel
theorem dX7_init_4 : decode cX7_init 4 = .ok (.aload_n 0, 1) := by decide +kernel
theorem dX7_init_5 : decode cX7_init 5 = .ok (.bipush 8, 2) := by decide +kernel
theorem dX7_init_7 : decode cX7_init 7 = .ok (.anewarray 9, 3) := by decide +kernel
theorem dX7_init_10 : decode cX7_init 10 = .ok (.putfield 11, 3) := by decide +kernel
theorem dX7_init_13 : decode cX7_init 13 = .ok (.aload_n 0, 1) := by decide +kernel
theorem dX7_init_14 : decode cX7_init 14 = .ok (.new 15, 3) := by decide +kernel
theorem dX7_init_17 : decode cX7_init 17 = .ok (.dup, 1) := by decide +kernel
theorem dX7_init_18 : decode cX7_init 18 = .ok (.invokespecial 17, 3) := by decide +kernel
theorem dX7_init_21 : decode cX7_init 21 = .ok (.putfield 18, 3) := by decide +kernel
theorem dX7_init_24 : decode cX7_init 24 = .ok (.aload_n 0, 1) := by decide +kernel
theorem dX7_init_25 : decode cX7_init 25 = .ok (.new 22, 3) := by decide +kernel
theorem dX7_init_28 : decode cX7_init 28 = .ok (.dup, 1) := by decide +kernel
theorem dX7_init_29 : decode cX7_init 29 = .ok (.invokespecial 24, 3) := by decide +kernel
theorem dX7_init_32 : decode cX7_init 32 = .ok (.putfield 25, 3) := by decide +kernel
theorem dX7_init_35 : decode cX7_init 35 = .ok (.aload_n 0, 1) := by decide +kernel
theorem dX7_init_36 : decode cX7_init 36 = .ok (.aload_n 0, 1) := by decide +kernel
theorem dX7_init_37 : decode cX7_init 37 = .ok (.getfield 25, 3) := by decide +kernel
theorem dX7_init_40 : decode cX7_init 40 = .ok (.getfield 29, 3) := by decide +kernel
theorem dX7_init_43 : decode cX7_init 43 = .ok (.putfield 33, 3) := by decide +kernel
theorem dX7_init_46 : decode cX7_init 46 = .ok (.aload_n 0, 1) := by decide +kernel
theorem dX7_init_47 : decode cX7_init 47 = .ok (.aload_n 0, 1) := by decide +kernel
theorem dX7_init_48 : decode cX7_init 48 = .ok (.getfield 25, 3) := by decide +kernel
theorem dX7_init_51 : decode cX7_init 51 = .ok (.getfield 34, 3) := by decide +kernel
theorem dX7_init_54 : decode cX7_init 54 = .ok (.putfield 37, 3) := by decide +kernel
theorem dX7_init_57 : decode cX7_init 57 = .ok (.aload_n 0, 1) := by decide +kernel
theorem dX7_init_58 : decode cX7_init 58 = .ok (.new 38, 3) := by decide +kernel
theorem dX7_init_61 : decode cX7_init 61 = .ok (.dup, 1) := by decide +kernel
theorem dX7_init_62 : decode cX7_init 62 = .ok (.invokespecial 40, 3) := by decide +kernel
theorem dX7_init_65 : decode cX7_init 65 = .ok (.putfield 41, 3) := by decide +kernel
theorem dX7_init_68 : decode cX7_init 68 = .ok (.aload_n 0, 1) := by decide +kernel
theorem dX7_init_69 : decode cX7_init 69 = .ok (.iconst 2, 1) := by decide +kernel
theorem dX7_init_70 : decode cX7_init 70 = .ok (.anewarray 45, 3) := by decide +kernel
theorem dX7_init_73 : decode cX7_init 73 = .ok (.putfield 47, 3) := by decide +kernel
theorem dX7_init_76 : decode cX7_init 76 = .ok (.aload_n 0, 1) := by decide +kernel
theorem dX7_init_77 : decode cX7_init 77 = .ok (.new 51, 3) := by decide +kernel
theorem dX7_init_80 : decode cX7_init 80 = .ok (.dup, 1) := by decide +kernel
theorem dX7_init_81 : decode cX7_init 81 = .ok (.invokespecial 53, 3) := by decide +kernel
theorem dX7_init_84 : decode cX7_init 84 = .ok (.putfield 54, 3) := by decide +kernel
theorem dX7_init_87 : decode cX7_init 87 = .ok (.aload_n 0, 1) := by decide +kernel
theorem dX7_init_88 : decode cX7_init 88 = .ok (.iconst 0, 1) := by decide +kernel
theorem dX7_init_89 : decode cX7_init 89 = .ok (.putfield 58, 3) := by decide +kernel
theorem dX7_init_92 : decode cX7_init 92 = .ok (.aload_n 0, 1) := by decide +kernel
theorem dX7_init_93 : decode cX7_init 93 = .ok (.iconst 0, 1) := by decide +kernel
theorem dX7_init_94 : decode cX7_init 94 = .ok (.putfield 62, 3) := by decide +kernel
theorem dX7_init_97 : decode cX7_init 97 = .ok (.iconst 0, 1) := by decide +kernel
theorem dX7_init_98 : decode cX7_init 98 = .ok (.istore_n 1, 1) := by decide +kernel
theorem dX7_init_99 : decode cX7_init 99 = .ok (.iload_n 1, 1) := by decide +kernel
theorem dX7_init_100 : decode cX7_init 100 = .ok (.bipush 8, 2) := by decide +kernel
theorem dX7_init_102 : decode cX7_init 102 = .ok (.if_icmp .ge 22, 3) := by decide +kernel
theorem dX7_init_105 : decode cX7_init 105 = .ok (.aload_n 0, 1) := by decide +kernel
theorem dX7_init_106 : decode cX7_init 106 = .ok (.getfield 11, 3) := by decide +kernel
theorem dX7_init_109 : decode cX7_init 109 = .ok (.iload_n 1, 1) := by decide +kernel
theorem dX7_init_110 : decode cX7_init 110 = .ok (.new 9, 3) := by decide +kernel
theorem dX7_init_113 : decode cX7_init 113 = .ok (.dup, 1) := by decide +kernel
theorem dX7_init_114 : decode cX7_init 114 = .ok (.invokespecial 65, 3) := by decide +kernel
theorem dX7_init_117 : decode cX7_init 117 = .ok (.aastore, 1) := by decide +kernel
theorem dX7_init_118 : decode cX7_init 118 = .ok (.iinc 1 1, 3) := by decide +kernel
theorem dX7_init_121 : decode cX7_init 121 = .ok (.goto (-22), 3) := by decide +kernel
theorem dX7_init_124 : decode cX7_init 124 = .ok (.iconst 0, 1) := by decide +kernel
theorem dX7_init_125 : decode cX7_init 125 = .ok (.istore_n 1, 1) := by decide +kernel
theorem dX7_init_126 : decode cX7_init 126 = .ok (.iload_n 1, 1) := by decide +kernel
theorem dX7_init_127 : decode cX7_init 127 = .ok (.iconst 2, 1) := by decide +kernel
theorem dX7_init_128 : decode cX7_init 128 = .ok (.if_icmp .ge 22, 3) := by decide +kernel
theorem dX7_init_131 : decode cX7_init 131 = .ok (.aload_n 0, 1) := by decide +kernel
theorem dX7_init_132 : decode cX7_init 132 = .ok (.getfield 47, 3) := by decide +kernel
theorem dX7_init_135 : decode cX7_init 135 = .ok (.iload_n 1, 1) := by decide +kernel
theorem dX7_init_136 : decode cX7_init 136 = .ok (.new 45, 3) := by decide +kernel
theorem dX7_init_139 : decode cX7_init 139 = .ok (.dup, 1) := by decide +kernel
theorem dX7_init_140 : decode cX7_init 140 = .ok (.invokespecial 66, 3) := by decide +kernel
theorem dX7_init_143 : decode cX7_init 143 = .ok (.aastore, 1) := by decide +kernel
theorem dX7_init_144 : decode cX7_init 144 = .ok (.iinc 1 1, 3) := by decide +kernel
theorem dX7_init_147 : decode cX7_init 147 = .ok (.goto (-21), 3) := by decide +kernel
theorem dX7_init_150 : decode cX7_init 150 = .ok (.return_, 1) := by decide +kernel
theorem dX7_row_0 : decode cX7_row 0 = .ok (.iload_n 1, 1) := by decide +kernel
theorem dX7_row_1 : decode cX7_row 1 = .ok (.invokestatic 67, 3) := by decide +kernel
theorem dX7_row_4 : decode cX7_row 4 = .ok (.ifCond .eq 18, 3) := by decide +kernel
theorem dX7_row_7 : decode cX7_row 7 = .ok (.iload_n 2, 1) := by decide +kernel
theorem dX7_row_8 : decode cX7_row 8 = .ok (.iconst 0, 1) := by decide +kernel
theorem dX7_row_9 : decode cX7_row 9 = .ok (.iconst 2, 1) := by decide +kernel
theorem dX7_row_10 : decode cX7_row 10 = .ok (.invokestatic 71, 3) := by decide +kernel
theorem dX7_row_13 : decode cX7_row 13 = .ok (.ifCond .eq 9, 3) := by decide +kernel
theorem dX7_row_16 : decode cX7_row 16 = .ok (.iload_n 3, 1) := by decide +kernel
theorem dX7_row_17 : decode cX7_row 17 = .ok (.bipush 40, 2) := by decide +kernel
theorem dX7_row_19 : decode cX7_row 19 = .ok (.if_icmp .le 6, 3) := by decide +kernel
theorem dX7_row_22 : decode cX7_row 22 = .ok (.ldc 75, 2) := by decide +kernel
theorem dX7_row_24 : decode cX7_row 24 = .ok (.ireturn, 1) := by decide +kernel
theorem dX7_row_25 : decode cX7_row 25 = .ok (.iload_n 3, 1) := by decide +kernel
theorem dX7_row_26 : decode cX7_row 26 = .ok (.ifCond .ge 9, 3) := by decide +kernel
theorem dX7_row_29 : decode cX7_row 29 = .ok (.aload_n 0, 1) := by decide +kernel
theorem dX7_row_30 : decode cX7_row 30 = .ok (.iconst 4, 1) := by decide +kernel
theorem dX7_row_31 : decode cX7_row 31 = .ok (.invokevirtual 76, 3) := by decide +kernel
theorem dX7_row_34 : decode cX7_row 34 = .ok (.ireturn, 1) := by decide +kernel
theorem dX7_row_35 : decode cX7_row 35 = .ok (.aload_n 0, 1) := by decide +kernel
theorem dX7_row_36 : decode cX7_row 36 = .ok (.getfield 11, 3) := by decide +kernel
theorem dX7_row_39 : decode cX7_row 39 = .ok (.iload_n 1, 1) := by decide +kernel
theorem dX7_row_40 : decode cX7_row 40 = .ok (.aaload, 1) := by decide +kernel
theorem dX7_row_41 : decode cX7_row 41 = .ok (.iload_n 2, 1) := by decide +kernel
theorem dX7_row_42 : decode cX7_row 42 = .ok (.iload_n 3, 1) := by decide +kernel
theorem dX7_row_43 : decode cX7_row 43 = .ok (.invokevirtual 80, 3) := by decide +kernel
theorem dX7_row_46 : decode cX7_row 46 = .ok (.aload_n 0, 1) := by decide +kernel
theorem dX7_row_47 : decode cX7_row 47 = .ok (.iload_n 3, 1) := by decide +kernel
theorem dX7_row_48 : decode cX7_row 48 = .ok (.invokevirtual 84, 3) := by decide +kernel
theorem dX7_row_51 : decode cX7_row 51 = .ok (.ireturn, 1) := by decide +kernel
theorem dX7_set_0 : decode cX7_set 0 = .ok (.iload_n 1, 1) := by decide +kernel
theorem dX7_set_1 : decode cX7_set 1 = .ok (.invokestatic 67, 3) := by decide +kernel
theorem dX7_set_4 : decode cX7_set 4 = .ok (.ifCond .ne 6, 3) := by decide +kernel
theorem dX7_set_7 : decode cX7_set 7 = .ok (.ldc 75, 2) := by decide +kernel
theorem dX7_set_9 : decode cX7_set 9 = .ok (.ireturn, 1) := by decide +kernel
theorem dX7_set_10 : decode cX7_set 10 = .ok (.aload_n 0, 1) := by decide +kernel
theorem dX7_set_11 : decode cX7_set 11 = .ok (.getfield 11, 3) := by decide +kernel
theorem dX7_set_14 : decode cX7_set 14 = .ok (.iload_n 1, 1) := by decide +kernel
theorem dX7_set_15 : decode cX7_set 15 = .ok (.aaload, 1) := by decide +kernel
theorem dX7_set_16 : decode cX7_set 16 = .ok (.astore 4, 2) := by decide +kernel
theorem dX7_set_18 : decode cX7_set 18 = .ok (.aload 4, 2) := by decide +kernel
theorem dX7_set_20 : decode cX7_set 20 = .ok (.invokevirtual 87, 3) := by decide +kernel
theorem dX7_set_23 : decode cX7_set 23 = .ok (.ifCond .eq 9, 3) := by decide +kernel
theorem dX7_set_26 : decode cX7_set 26 = .ok (.aload_n 0, 1) := by decide +kernel
theorem dX7_set_27 : decode cX7_set 27 = .ok (.iconst 1, 1) := by decide +kernel
theorem dX7_set_28 : decode cX7_set 28 = .ok (.invokevirtual 76, 3) := by decide +kernel
theorem dX7_set_31 : decode cX7_set 31 = .ok (.ireturn, 1) := by decide +kernel
theorem dX7_set_32 : decode cX7_set 32 = .ok (.aload 4, 2) := by decide +kernel
theorem dX7_set_34 : decode cX7_set 34 = .ok (.iload_n 2, 1) := by decide +kernel
theorem dX7_set_35 : decode cX7_set 35 = .ok (.iconst 1, 1) := by decide +kernel
theorem dX7_set_36 : decode cX7_set 36 = .ok (.invokevirtual 91, 3) := by decide +kernel
theorem dX7_set_39 : decode cX7_set 39 = .ok (.ifCond .ne 9, 3) := by decide +kernel
theorem dX7_set_42 : decode cX7_set 42 = .ok (.aload_n 0, 1) := by decide +kernel
theorem dX7_set_43 : decode cX7_set 43 = .ok (.iconst 2, 1) := by decide +kernel
theorem dX7_set_44 : decode cX7_set 44 = .ok (.invokevirtual 76, 3) := by decide +kernel
theorem dX7_set_47 : decode cX7_set 47 = .ok (.ireturn, 1) := by decide +kernel
theorem dX7_set_48 : decode cX7_set 48 = .ok (.aload_n 0, 1) := by decide +kernel
theorem dX7_set_49 : decode cX7_set 49 = .ok (.aload 4, 2) := by decide +kernel
theorem dX7_set_51 : decode cX7_set 51 = .ok (.iload_n 2, 1) := by decide +kernel
theorem dX7_set_52 : decode cX7_set 52 = .ok (.iload_n 3, 1) := by decide +kernel
theorem dX7_set_53 : decode cX7_set 53 = .ok (.invokevirtual 95, 3) := by decide +kernel
theorem dX7_set_56 : decode cX7_set 56 = .ok (.invokevirtual 84, 3) := by decide +kernel
theorem dX7_set_59 : decode cX7_set 59 = .ok (.ireturn, 1) := by decide +kernel
theorem dX7_copy_0 : decode cX7_copy 0 = .ok (.iload_n 1, 1) := by decide +kernel
theorem dX7_copy_1 : decode cX7_copy 1 = .ok (.invokestatic 67, 3) := by decide +kernel
theorem dX7_copy_4 : decode cX7_copy 4 = .ok (.ifCond .eq 10, 3) := by decide +kernel
theorem dX7_copy_7 : decode cX7_copy 7 = .ok (.iload_n 3, 1) := by decide +kernel
theorem dX7_copy_8 : decode cX7_copy 8 = .ok (.invokestatic 67, 3) := by decide +kernel
theorem dX7_copy_11 : decode cX7_copy 11 = .ok (.ifCond .ne 6, 3) := by decide +kernel
theorem dX7_copy_14 : decode cX7_copy 14 = .ok (.ldc 75, 2) := by decide +kernel
theorem dX7_copy_16 : decode cX7_copy 16 = .ok (.ireturn, 1) := by decide +kernel
theorem dX7_copy_17 : decode cX7_copy 17 = .ok (.aload_n 0, 1) := by decide +kernel
theorem dX7_copy_18 : decode cX7_copy 18 = .ok (.getfield 11, 3) := by decide +kernel
theorem dX7_copy_21 : decode cX7_copy 21 = .ok (.iload_n 1, 1) := by decide +kernel
theorem dX7_copy_22 : decode cX7_copy 22 = .ok (.aaload, 1) := by decide +kernel
theorem dX7_copy_23 : decode cX7_copy 23 = .ok (.astore 6, 2) := by decide +kernel
theorem dX7_copy_25 : decode cX7_copy 25 = .ok (.aload_n 0, 1) := by decide +kernel
theorem dX7_copy_26 : decode cX7_copy 26 = .ok (.getfield 11, 3) := by decide +kernel
theorem dX7_copy_29 : decode cX7_copy 29 = .ok (.iload_n 3, 1) := by decide +kernel
theorem dX7_copy_30 : decode cX7_copy 30 = .ok (.aaload, 1) := by decide +kernel
theorem dX7_copy_31 : decode cX7_copy 31 = .ok (.astore 7, 2) := by decide +kernel
theorem dX7_copy_33 : decode cX7_copy 33 = .ok (.aload 6, 2) := by decide +kernel
theorem dX7_copy_35 : decode cX7_copy 35 = .ok (.invokevirtual 87, 3) := by decide +kernel
theorem dX7_copy_38 : decode cX7_copy 38 = .ok (.ifCond .ne 11, 3) := by decide +kernel
theorem dX7_copy_41 : decode cX7_copy 41 = .ok (.aload 7, 2) := by decide +kernel
theorem dX7_copy_43 : decode cX7_copy 43 = .ok (.invokevirtual 87, 3) := by decide +kernel
theorem dX7_copy_46 : decode cX7_copy 46 = .ok (.ifCond .eq 9, 3) := by decide +kernel
theorem dX7_copy_49 : decode cX7_copy 49 = .ok (.aload_n 0, 1) := by decide +kernel
theorem dX7_copy_50 : decode cX7_copy 50 = .ok (.iconst 1, 1) := by decide +kernel
theorem dX7_copy_51 : decode cX7_copy 51 = .ok (.invokevirtual 76, 3) := by decide +kernel
theorem dX7_copy_54 : decode cX7_copy 54 = .ok (.ireturn, 1) := by decide +kernel
theorem dX7_copy_55 : decode cX7_copy 55 = .ok (.aload 6, 2) := by decide +kernel
theorem dX7_copy_57 : decode cX7_copy 57 = .ok (.getfield 99, 3) := by decide +kernel
theorem dX7_copy_60 : decode cX7_copy 60 = .ok (.aload 7, 2) := by decide +kernel
theorem dX7_copy_62 : decode cX7_copy 62 = .ok (.getfield 99, 3) := by decide +kernel
theorem dX7_copy_65 : decode cX7_copy 65 = .ok (.if_icmp .eq 9, 3) := by decide +kernel
theorem dX7_copy_68 : decode cX7_copy 68 = .ok (.aload_n 0, 1) := by decide +kernel
theorem dX7_copy_69 : decode cX7_copy 69 = .ok (.iconst 5, 1) := by decide +kernel
theorem dX7_copy_70 : decode cX7_copy 70 = .ok (.invokevirtual 76, 3) := by decide +kernel
theorem dX7_copy_73 : decode cX7_copy 73 = .ok (.ireturn, 1) := by decide +kernel
theorem dX7_copy_74 : decode cX7_copy 74 = .ok (.aload 6, 2) := by decide +kernel
theorem dX7_copy_76 : decode cX7_copy 76 = .ok (.iload_n 2, 1) := by decide +kernel
theorem dX7_copy_77 : decode cX7_copy 77 = .ok (.iload 5, 2) := by decide +kernel
theorem dX7_copy_79 : decode cX7_copy 79 = .ok (.invokevirtual 91, 3) := by decide +kernel
theorem dX7_copy_82 : decode cX7_copy 82 = .ok (.ifCond .eq 15, 3) := by decide +kernel
theorem dX7_copy_85 : decode cX7_copy 85 = .ok (.aload 7, 2) := by decide +kernel
theorem dX7_copy_87 : decode cX7_copy 87 = .ok (.iload 4, 2) := by decide +kernel
theorem dX7_copy_89 : decode cX7_copy 89 = .ok (.iload 5, 2) := by decide +kernel
theorem dX7_copy_91 : decode cX7_copy 91 = .ok (.invokevirtual 91, 3) := by decide +kernel
theorem dX7_copy_94 : decode cX7_copy 94 = .ok (.ifCond .ne 9, 3) := by decide +kernel
theorem dX7_copy_97 : decode cX7_copy 97 = .ok (.aload_n 0, 1) := by decide +kernel
theorem dX7_copy_98 : decode cX7_copy 98 = .ok (.iconst 2, 1) := by decide +kernel
theorem dX7_copy_99 : decode cX7_copy 99 = .ok (.invokevirtual 76, 3) := by decide +kernel
theorem dX7_copy_102 : decode cX7_copy 102 = .ok (.ireturn, 1) := by decide +kernel
theorem dX7_copy_103 : decode cX7_copy 103 = .ok (.aload 6, 2) := by decide +kernel
theorem dX7_copy_105 : decode cX7_copy 105 = .ok (.getfield 102, 3) := by decide +kernel
theorem dX7_copy_108 : decode cX7_copy 108 = .ok (.iload_n 2, 1) := by decide +kernel
theorem dX7_copy_109 : decode cX7_copy 109 = .ok (.aload 7, 2) := by decide +kernel
theorem dX7_copy_111 : decode cX7_copy 111 = .ok (.getfield 102, 3) := by decide +kernel
theorem dX7_copy_114 : decode cX7_copy 114 = .ok (.iload 4, 2) := by decide +kernel
theorem dX7_copy_116 : decode cX7_copy 116 = .ok (.iload 5, 2) := by decide +kernel
theorem dX7_copy_118 : decode cX7_copy 118 = .ok (.invokestatic 106, 3) := by decide +kernel
theorem dX7_copy_121 : decode cX7_copy 121 = .ok (.aload_n 0, 1) := by decide +kernel
theorem dX7_copy_122 : decode cX7_copy 122 = .ok (.iload 5, 2) := by decide +kernel
theorem dX7_copy_124 : decode cX7_copy 124 = .ok (.invokevirtual 84, 3) := by decide +kernel
theorem dX7_copy_127 : decode cX7_copy 127 = .ok (.ireturn, 1) := by decide +kernel
theorem dX7_drop_0 : decode cX7_drop 0 = .ok (.iload_n 1, 1) := by decide +kernel
theorem dX7_drop_1 : decode cX7_drop 1 = .ok (.invokestatic 67, 3) := by decide +kernel
theorem dX7_drop_4 : decode cX7_drop 4 = .ok (.ifCond .ne 6, 3) := by decide +kernel
theorem dX7_drop_7 : decode cX7_drop 7 = .ok (.ldc 75, 2) := by decide +kernel
theorem dX7_drop_9 : decode cX7_drop 9 = .ok (.ireturn, 1) := by decide +kernel
theorem dX7_drop_10 : decode cX7_drop 10 = .ok (.aload_n 0, 1) := by decide +kernel
theorem dX7_drop_11 : decode cX7_drop 11 = .ok (.getfield 11, 3) := by decide +kernel
theorem dX7_drop_14 : decode cX7_drop 14 = .ok (.iload_n 1, 1) := by decide +kernel
theorem dX7_drop_15 : decode cX7_drop 15 = .ok (.aaload, 1) := by decide +kernel
theorem dX7_drop_16 : decode cX7_drop 16 = .ok (.astore_n 2, 1) := by decide +kernel
theorem dX7_drop_17 : decode cX7_drop 17 = .ok (.aload_n 2, 1) := by decide +kernel
theorem dX7_drop_18 : decode cX7_drop 18 = .ok (.invokevirtual 87, 3) := by decide +kernel
theorem dX7_drop_21 : decode cX7_drop 21 = .ok (.ifCond .eq 9, 3) := by decide +kernel
theorem dX7_drop_24 : decode cX7_drop 24 = .ok (.aload_n 0, 1) := by decide +kernel
theorem dX7_drop_25 : decode cX7_drop 25 = .ok (.iconst 1, 1) := by decide +kernel
theorem dX7_drop_26 : decode cX7_drop 26 = .ok (.invokevirtual 76, 3) := by decide +kernel
theorem dX7_drop_29 : decode cX7_drop 29 = .ok (.ireturn, 1) := by decide +kernel
theorem dX7_drop_30 : decode cX7_drop 30 = .ok (.aload_n 2, 1) := by decide +kernel
theorem dX7_drop_31 : decode cX7_drop 31 = .ok (.getfield 112, 3) := by decide +kernel
theorem dX7_drop_34 : decode cX7_drop 34 = .ok (.istore_n 3, 1) := by decide +kernel
theorem dX7_drop_35 : decode cX7_drop 35 = .ok (.aload_n 2, 1) := by decide +kernel
theorem dX7_drop_36 : decode cX7_drop 36 = .ok (.invokevirtual 115, 3) := by decide +kernel
theorem dX7_drop_39 : decode cX7_drop 39 = .ok (.aload_n 0, 1) := by decide +kernel
theorem dX7_drop_40 : decode cX7_drop 40 = .ok (.iload_n 3, 1) := by decide +kernel
theorem dX7_drop_41 : decode cX7_drop 41 = .ok (.invokevirtual 84, 3) := by decide +kernel
theorem dX7_drop_44 : decode cX7_drop 44 = .ok (.ireturn, 1) := by decide +kernel
theorem dX7_feed_0 : decode cX7_feed 0 = .ok (.iload_n 1, 1) := by decide +kernel
theorem dX7_feed_1 : decode cX7_feed 1 = .ok (.iconst 0, 1) := by decide +kernel
theorem dX7_feed_2 : decode cX7_feed 2 = .ok (.sipush 255, 3) := by decide +kernel
theorem dX7_feed_5 : decode cX7_feed 5 = .ok (.invokestatic 71, 3) := by decide +kernel
theorem dX7_feed_8 : decode cX7_feed 8 = .ok (.ifCond .ne 6, 3) := by decide +kernel
theorem dX7_feed_11 : decode cX7_feed 11 = .ok (.ldc 75, 2) := by decide +kernel
theorem dX7_feed_13 : decode cX7_feed 13 = .ok (.ireturn, 1) := by decide +kernel
theorem dX7_feed_14 : decode cX7_feed 14 = .ok (.aload_n 0, 1) := by decide +kernel
theorem dX7_feed_15 : decode cX7_feed 15 = .ok (.getfield 18, 3) := by decide +kernel
theorem dX7_feed_18 : decode cX7_feed 18 = .ok (.getfield 118, 3) := by decide +kernel
theorem dX7_feed_21 : decode cX7_feed 21 = .ok (.bipush 100, 2) := by decide +kernel
theorem dX7_feed_23 : decode cX7_feed 23 = .ok (.if_icmp .lt 6, 3) := by decide +kernel
theorem dX7_feed_26 : decode cX7_feed 26 = .ok (.ldc 119, 2) := by decide +kernel
theorem dX7_feed_28 : decode cX7_feed 28 = .ok (.ireturn, 1) := by decide +kernel
theorem dX7_feed_29 : decode cX7_feed 29 = .ok (.aload_n 0, 1) := by decide +kernel
theorem dX7_feed_30 : decode cX7_feed 30 = .ok (.getfield 18, 3) := by decide +kernel
theorem dX7_feed_33 : decode cX7_feed 33 = .ok (.iload_n 1, 1) := by decide +kernel
theorem dX7_feed_34 : decode cX7_feed 34 = .ok (.invokevirtual 120, 3) := by decide +kernel
theorem dX7_feed_37 : decode cX7_feed 37 = .ok (.aload_n 0, 1) := by decide +kernel
theorem dX7_feed_38 : decode cX7_feed 38 = .ok (.getfield 18, 3) := by decide +kernel
theorem dX7_feed_41 : decode cX7_feed 41 = .ok (.getfield 118, 3) := by decide +kernel
theorem dX7_feed_44 : decode cX7_feed 44 = .ok (.ireturn, 1) := by decide +kernel
theorem dX7_roof_0 : decode cX7_roof 0 = .ok (.aload_n 0, 1) := by decide +kernel
theorem dX7_roof_1 : decode cX7_roof 1 = .ok (.getfield 18, 3) := by decide +kernel
theorem dX7_roof_4 : decode cX7_roof 4 = .ok (.aload_n 0, 1) := by decide +kernel
theorem dX7_roof_5 : decode cX7_roof 5 = .ok (.getfield 37, 3) := by decide +kernel
theorem dX7_roof_8 : decode cX7_roof 8 = .ok (.invokevirtual 124, 3) := by decide +kernel
theorem dX7_roof_11 : decode cX7_roof 11 = .ok (.istore_n 1, 1) := by decide +kernel
theorem dX7_roof_12 : decode cX7_roof 12 = .ok (.aload_n 0, 1) := by decide +kernel
theorem dX7_roof_13 : decode cX7_roof 13 = .ok (.getfield 18, 3) := by decide +kernel
theorem dX7_roof_16 : decode cX7_roof 16 = .ok (.iconst 0, 1) := by decide +kernel
theorem dX7_roof_17 : decode cX7_roof 17 = .ok (.putfield 118, 3) := by decide +kernel
theorem dX7_roof_20 : decode cX7_roof 20 = .ok (.iload_n 1, 1) := by decide +kernel
theorem dX7_roof_21 : decode cX7_roof 21 = .ok (.ifCond .ne 25, 3) := by decide +kernel
theorem dX7_roof_24 : decode cX7_roof 24 = .ok (.aload_n 0, 1) := by decide +kernel
theorem dX7_roof_25 : decode cX7_roof 25 = .ok (.aload_n 0, 1) := by decide +kernel
theorem dX7_roof_26 : decode cX7_roof 26 = .ok (.getfield 18, 3) := by decide +kernel
theorem dX7_roof_29 : decode cX7_roof 29 = .ok (.getfield 128, 3) := by decide +kernel
theorem dX7_roof_32 : decode cX7_roof 32 = .ok (.putfield 58, 3) := by decide +kernel
theorem dX7_roof_35 : decode cX7_roof 35 = .ok (.ldc 131, 2) := by decide +kernel
theorem dX7_roof_37 : decode cX7_roof 37 = .ok (.aload_n 0, 1) := by decide +kernel
theorem dX7_roof_38 : decode cX7_roof 38 = .ok (.getfield 18, 3) := by decide +kernel
theorem dX7_roof_41 : decode cX7_roof 41 = .ok (.getfield 132, 3) := by decide +kernel
theorem dX7_roof_44 : decode cX7_roof 44 = .ok (.isub, 1) := by decide +kernel
theorem dX7_roof_45 : decode cX7_roof 45 = .ok (.ireturn, 1) := by decide +kernel
theorem dX7_roof_46 : decode cX7_roof 46 = .ok (.aload_n 0, 1) := by decide +kernel
theorem dX7_roof_47 : decode cX7_roof 47 = .ok (.getfield 33, 3) := by decide +kernel
theorem dX7_roof_50 : decode cX7_roof 50 = .ok (.aload_n 0, 1) := by decide +kernel
theorem dX7_roof_51 : decode cX7_roof 51 = .ok (.getfield 37, 3) := by decide +kernel
theorem dX7_roof_54 : decode cX7_roof 54 = .ok (.invokevirtual 135, 3) := by decide +kernel
theorem dX7_roof_57 : decode cX7_roof 57 = .ok (.aload_n 0, 1) := by decide +kernel
theorem dX7_roof_58 : decode cX7_roof 58 = .ok (.getfield 41, 3) := by decide +kernel
theorem dX7_roof_61 : decode cX7_roof 61 = .ok (.invokevirtual 139, 3) := by decide +kernel
theorem dX7_roof_64 : decode cX7_roof 64 = .ok (.aload_n 0, 1) := by decide +kernel
theorem dX7_roof_65 : decode cX7_roof 65 = .ok (.getfield 33, 3) := by decide +kernel
theorem dX7_roof_68 : decode cX7_roof 68 = .ok (.getfield 142, 3) := by decide +kernel
theorem dX7_roof_71 : decode cX7_roof 71 = .ok (.ireturn, 1) := by decide +kernel
theorem dX7_fault_0 : decode cX7_fault 0 = .ok (.aload_n 0, 1) := by decide +kernel
theorem dX7_fault_1 : decode cX7_fault 1 = .ok (.getfield 58, 3) := by decide +kernel
theorem dX7_fault_4 : decode cX7_fault 4 = .ok (.ireturn, 1) := by decide +kernel
theorem dX7_undo_0 : decode cX7_undo 0 = .ok (.aload_n 0, 1) := by decide +kernel
theorem dX7_undo_1 : decode cX7_undo 1 = .ok (.getfield 41, 3) := by decide +kernel
theorem dX7_undo_4 : decode cX7_undo 4 = .ok (.getfield 145, 3) := by decide +kernel
theorem dX7_undo_7 : decode cX7_undo 7 = .ok (.ifCond .ne 6, 3) := by decide +kernel
theorem dX7_undo_10 : decode cX7_undo 10 = .ok (.ldc 148, 2) := by decide +kernel
theorem dX7_undo_12 : decode cX7_undo 12 = .ok (.ireturn, 1) := by decide +kernel
theorem dX7_undo_13 : decode cX7_undo 13 = .ok (.aload_n 0, 1) := by decide +kernel
theorem dX7_undo_14 : decode cX7_undo 14 = .ok (.getfield 41, 3) := by decide +kernel
theorem dX7_undo_17 : decode cX7_undo 17 = .ok (.aload_n 0, 1) := by decide +kernel
theorem dX7_undo_18 : decode cX7_undo 18 = .ok (.getfield 33, 3) := by decide +kernel
theorem dX7_undo_21 : decode cX7_undo 21 = .ok (.invokevirtual 149, 3) := by decide +kernel
theorem dX7_undo_24 : decode cX7_undo 24 = .ok (.aload_n 0, 1) := by decide +kernel
theorem dX7_undo_25 : decode cX7_undo 25 = .ok (.getfield 41, 3) := by decide +kernel
theorem dX7_undo_28 : decode cX7_undo 28 = .ok (.getfield 145, 3) := by decide +kernel
theorem dX7_undo_31 : decode cX7_undo 31 = .ok (.ireturn, 1) := by decide +kernel
theorem dX7_hours_0 : decode cX7_hours 0 = .ok (.aload_n 0, 1) := by decide +kernel
theorem dX7_hours_1 : decode cX7_hours 1 = .ok (.getfield 33, 3) := by decide +kernel
theorem dX7_hours_4 : decode cX7_hours 4 = .ok (.invokevirtual 152, 3) := by decide +kernel
theorem dX7_hours_7 : decode cX7_hours 7 = .ok (.ifCond .ne 6, 3) := by decide +kernel
theorem dX7_hours_10 : decode cX7_hours 10 = .ok (.ldc 148, 2) := by decide +kernel
theorem dX7_hours_12 : decode cX7_hours 12 = .ok (.ireturn, 1) := by decide +kernel
theorem dX7_hours_13 : decode cX7_hours 13 = .ok (.iload_n 1, 1) := by decide +kernel
theorem dX7_hours_14 : decode cX7_hours 14 = .ok (.iconst 1, 1) := by decide +kernel
theorem dX7_hours_15 : decode cX7_hours 15 = .ok (.bipush 24, 2) := by decide +kernel
theorem dX7_hours_17 : decode cX7_hours 17 = .ok (.invokestatic 71, 3) := by decide +kernel
theorem dX7_hours_20 : decode cX7_hours 20 = .ok (.ifCond .ne 6, 3) := by decide +kernel
theorem dX7_hours_23 : decode cX7_hours 23 = .ok (.ldc 75, 2) := by decide +kernel
theorem dX7_hours_25 : decode cX7_hours 25 = .ok (.ireturn, 1) := by decide +kernel
theorem dX7_hours_26 : decode cX7_hours 26 = .ok (.aload_n 0, 1) := by decide +kernel
theorem dX7_hours_27 : decode cX7_hours 27 = .ok (.getfield 33, 3) := by decide +kernel
theorem dX7_hours_30 : decode cX7_hours 30 = .ok (.getfield 155, 3) := by decide +kernel
theorem dX7_hours_33 : decode cX7_hours 33 = .ok (.iload_n 1, 1) := by decide +kernel
theorem dX7_hours_34 : decode cX7_hours 34 = .ok (.iadd, 1) := by decide +kernel
theorem dX7_hours_35 : decode cX7_hours 35 = .ok (.sipush 999, 3) := by decide +kernel
theorem dX7_hours_38 : decode cX7_hours 38 = .ok (.if_icmp .le 6, 3) := by decide +kernel
theorem dX7_hours_41 : decode cX7_hours 41 = .ok (.ldc 119, 2) := by decide +kernel
theorem dX7_hours_43 : decode cX7_hours 43 = .ok (.ireturn, 1) := by decide +kernel
theorem dX7_hours_44 : decode cX7_hours 44 = .ok (.iconst 0, 1) := by decide +kernel
theorem dX7_hours_45 : decode cX7_hours 45 = .ok (.istore_n 2, 1) := by decide +kernel
theorem dX7_hours_46 : decode cX7_hours 46 = .ok (.iload_n 2, 1) := by decide +kernel
theorem dX7_hours_47 : decode cX7_hours 47 = .ok (.iload_n 1, 1) := by decide +kernel
theorem dX7_hours_48 : decode cX7_hours 48 = .ok (.if_icmp .ge 35, 3) := by decide +kernel
theorem dX7_hours_51 : decode cX7_hours 51 = .ok (.aload_n 0, 1) := by decide +kernel
theorem dX7_hours_52 : decode cX7_hours 52 = .ok (.getfield 41, 3) := by decide +kernel
theorem dX7_hours_55 : decode cX7_hours 55 = .ok (.aload_n 0, 1) := by decide +kernel
theorem dX7_hours_56 : decode cX7_hours 56 = .ok (.getfield 33, 3) := by decide +kernel
theorem dX7_hours_59 : decode cX7_hours 59 = .ok (.invokevirtual 158, 3) := by decide +kernel
theorem dX7_hours_62 : decode cX7_hours 62 = .ok (.aload_n 0, 1) := by decide +kernel
theorem dX7_hours_63 : decode cX7_hours 63 = .ok (.getfield 33, 3) := by decide +kernel
theorem dX7_hours_66 : decode cX7_hours 66 = .ok (.aload_n 0, 1) := by decide +kernel
theorem dX7_hours_67 : decode cX7_hours 67 = .ok (.getfield 33, 3) := by decide +kernel
theorem dX7_hours_70 : decode cX7_hours 70 = .ok (.iconst 0, 1) := by decide +kernel
theorem dX7_hours_71 : decode cX7_hours 71 = .ok (.invokevirtual 161, 3) := by decide +kernel
theorem dX7_hours_74 : decode cX7_hours 74 = .ok (.invokevirtual 164, 3) := by decide +kernel
theorem dX7_hours_77 : decode cX7_hours 77 = .ok (.iinc 2 1, 3) := by decide +kernel
theorem dX7_hours_80 : decode cX7_hours 80 = .ok (.goto (-34), 3) := by decide +kernel
theorem dX7_hours_83 : decode cX7_hours 83 = .ok (.aload_n 0, 1) := by decide +kernel
theorem dX7_hours_84 : decode cX7_hours 84 = .ok (.getfield 33, 3) := by decide +kernel
theorem dX7_hours_87 : decode cX7_hours 87 = .ok (.invokevirtual 167, 3) := by decide +kernel
theorem dX7_hours_90 : decode cX7_hours 90 = .ok (.ireturn, 1) := by decide +kernel
theorem dX7_send_0 : decode cX7_send 0 = .ok (.aload_n 0, 1) := by decide +kernel
theorem dX7_send_1 : decode cX7_send 1 = .ok (.getfield 33, 3) := by decide +kernel
theorem dX7_send_4 : decode cX7_send 4 = .ok (.iload_n 1, 1) := by decide +kernel
theorem dX7_send_5 : decode cX7_send 5 = .ok (.invokevirtual 171, 3) := by decide +kernel
theorem dX7_send_8 : decode cX7_send 8 = .ok (.ifCond .eq 13, 3) := by decide +kernel
theorem dX7_send_11 : decode cX7_send 11 = .ok (.iload_n 2, 1) := by decide +kernel
theorem dX7_send_12 : decode cX7_send 12 = .ok (.iconst 1, 1) := by decide +kernel
theorem dX7_send_13 : decode cX7_send 13 = .ok (.bipush 40, 2) := by decide +kernel
theorem dX7_send_15 : decode cX7_send 15 = .ok (.invokestatic 71, 3) := by decide +kernel
theorem dX7_send_18 : decode cX7_send 18 = .ok (.ifCond .ne 6, 3) := by decide +kernel
theorem dX7_send_21 : decode cX7_send 21 = .ok (.ldc 75, 2) := by decide +kernel
theorem dX7_send_23 : decode cX7_send 23 = .ok (.ireturn, 1) := by decide +kernel
theorem dX7_send_24 : decode cX7_send 24 = .ok (.aload_n 0, 1) := by decide +kernel
theorem dX7_send_25 : decode cX7_send 25 = .ok (.getfield 33, 3) := by decide +kernel
theorem dX7_send_28 : decode cX7_send 28 = .ok (.getfield 174, 3) := by decide +kernel
theorem dX7_send_31 : decode cX7_send 31 = .ok (.iload_n 1, 1) := by decide +kernel
theorem dX7_send_32 : decode cX7_send 32 = .ok (.aaload, 1) := by decide +kernel
theorem dX7_send_33 : decode cX7_send 33 = .ok (.astore_n 3, 1) := by decide +kernel
theorem dX7_send_34 : decode cX7_send 34 = .ok (.aload_n 3, 1) := by decide +kernel
theorem dX7_send_35 : decode cX7_send 35 = .ok (.getfield 178, 3) := by decide +kernel
theorem dX7_send_38 : decode cX7_send 38 = .ok (.ifCond .eq 6, 3) := by decide +kernel
theorem dX7_send_41 : decode cX7_send 41 = .ok (.ldc 148, 2) := by decide +kernel
theorem dX7_send_43 : decode cX7_send 43 = .ok (.ireturn, 1) := by decide +kernel
theorem dX7_send_44 : decode cX7_send 44 = .ok (.aload_n 0, 1) := by decide +kernel
theorem dX7_send_45 : decode cX7_send 45 = .ok (.getfield 41, 3) := by decide +kernel
theorem dX7_send_48 : decode cX7_send 48 = .ok (.aload_n 0, 1) := by decide +kernel
theorem dX7_send_49 : decode cX7_send 49 = .ok (.getfield 33, 3) := by decide +kernel
theorem dX7_send_52 : decode cX7_send 52 = .ok (.invokevirtual 158, 3) := by decide +kernel
theorem dX7_send_55 : decode cX7_send 55 = .ok (.aload_n 3, 1) := by decide +kernel
theorem dX7_send_56 : decode cX7_send 56 = .ok (.iload_n 2, 1) := by decide +kernel
theorem dX7_send_57 : decode cX7_send 57 = .ok (.invokevirtual 183, 3) := by decide +kernel
theorem dX7_send_60 : decode cX7_send 60 = .ok (.aload_n 0, 1) := by decide +kernel
theorem dX7_send_61 : decode cX7_send 61 = .ok (.getfield 33, 3) := by decide +kernel
theorem dX7_send_64 : decode cX7_send 64 = .ok (.iconst 1, 1) := by decide +kernel
theorem dX7_send_65 : decode cX7_send 65 = .ok (.invokevirtual 186, 3) := by decide +kernel
theorem dX7_send_68 : decode cX7_send 68 = .ok (.ireturn, 1) := by decide +kernel
theorem dX7_let_0 : decode cX7_let 0 = .ok (.aload_n 0, 1) := by decide +kernel
theorem dX7_let_1 : decode cX7_let 1 = .ok (.getfield 33, 3) := by decide +kernel
theorem dX7_let_4 : decode cX7_let 4 = .ok (.iload_n 1, 1) := by decide +kernel
theorem dX7_let_5 : decode cX7_let 5 = .ok (.invokevirtual 171, 3) := by decide +kernel
theorem dX7_let_8 : decode cX7_let 8 = .ok (.ifCond .eq 18, 3) := by decide +kernel
theorem dX7_let_11 : decode cX7_let 11 = .ok (.iload_n 2, 1) := by decide +kernel
theorem dX7_let_12 : decode cX7_let 12 = .ok (.ifCond .eq 14, 3) := by decide +kernel
theorem dX7_let_15 : decode cX7_let 15 = .ok (.iload_n 2, 1) := by decide +kernel
theorem dX7_let_16 : decode cX7_let 16 = .ok (.bipush (-40), 2) := by decide +kernel
theorem dX7_let_18 : decode cX7_let 18 = .ok (.bipush 40, 2) := by decide +kernel
theorem dX7_let_20 : decode cX7_let 20 = .ok (.invokestatic 71, 3) := by decide +kernel
theorem dX7_let_23 : decode cX7_let 23 = .ok (.ifCond .ne 6, 3) := by decide +kernel
theorem dX7_let_26 : decode cX7_let 26 = .ok (.ldc 75, 2) := by decide +kernel
theorem dX7_let_28 : decode cX7_let 28 = .ok (.ireturn, 1) := by decide +kernel
theorem dX7_let_29 : decode cX7_let 29 = .ok (.aload_n 0, 1) := by decide +kernel
theorem dX7_let_30 : decode cX7_let 30 = .ok (.getfield 33, 3) := by decide +kernel
theorem dX7_let_33 : decode cX7_let 33 = .ok (.getfield 174, 3) := by decide +kernel
theorem dX7_let_36 : decode cX7_let 36 = .ok (.iload_n 1, 1) := by decide +kernel
theorem dX7_let_37 : decode cX7_let 37 = .ok (.aaload, 1) := by decide +kernel
theorem dX7_let_38 : decode cX7_let 38 = .ok (.astore_n 3, 1) := by decide +kernel
theorem dX7_let_39 : decode cX7_let 39 = .ok (.aload_n 3, 1) := by decide +kernel
theorem dX7_let_40 : decode cX7_let 40 = .ok (.invokevirtual 189, 3) := by decide +kernel
theorem dX7_let_43 : decode cX7_let 43 = .ok (.ifCond .eq 18, 3) := by decide +kernel
theorem dX7_let_46 : decode cX7_let 46 = .ok (.aload_n 3, 1) := by decide +kernel
theorem dX7_let_47 : decode cX7_let 47 = .ok (.getfield 192, 3) := by decide +kernel
theorem dX7_let_50 : decode cX7_let 50 = .ok (.iload_n 2, 1) := by decide +kernel
theorem dX7_let_51 : decode cX7_let 51 = .ok (.iadd, 1) := by decide +kernel
theorem dX7_let_52 : decode cX7_let 52 = .ok (.iconst 1, 1) := by decide +kernel
theorem dX7_let_53 : decode cX7_let 53 = .ok (.bipush 40, 2) := by decide +kernel
theorem dX7_let_55 : decode cX7_let 55 = .ok (.invokestatic 71, 3) := by decide +kernel
theorem dX7_let_58 : decode cX7_let 58 = .ok (.ifCond .ne 6, 3) := by decide +kernel
theorem dX7_let_61 : decode cX7_let 61 = .ok (.ldc 148, 2) := by decide +kernel
theorem dX7_let_63 : decode cX7_let 63 = .ok (.ireturn, 1) := by decide +kernel
theorem dX7_let_64 : decode cX7_let 64 = .ok (.aload_n 0, 1) := by decide +kernel
theorem dX7_let_65 : decode cX7_let 65 = .ok (.getfield 41, 3) := by decide +kernel
theorem dX7_let_68 : decode cX7_let 68 = .ok (.aload_n 0, 1) := by decide +kernel
theorem dX7_let_69 : decode cX7_let 69 = .ok (.getfield 33, 3) := by decide +kernel
theorem dX7_let_72 : decode cX7_let 72 = .ok (.invokevirtual 158, 3) := by decide +kernel
theorem dX7_let_75 : decode cX7_let 75 = .ok (.aload_n 3, 1) := by decide +kernel
theorem dX7_let_76 : decode cX7_let 76 = .ok (.iload_n 2, 1) := by decide +kernel
theorem dX7_let_77 : decode cX7_let 77 = .ok (.invokevirtual 195, 3) := by decide +kernel
theorem dX7_let_80 : decode cX7_let 80 = .ok (.aload_n 3, 1) := by decide +kernel
theorem dX7_let_81 : decode cX7_let 81 = .ok (.getfield 192, 3) := by decide +kernel
theorem dX7_let_84 : decode cX7_let 84 = .ok (.ireturn, 1) := by decide +kernel
theorem dX7_weigh_0 : decode cX7_weigh 0 = .ok (.aload_n 0, 1) := by decide +kernel
theorem dX7_weigh_1 : decode cX7_weigh 1 = .ok (.getfield 33, 3) := by decide +kernel
theorem dX7_weigh_4 : decode cX7_weigh 4 = .ok (.iload_n 1, 1) := by decide +kernel
theorem dX7_weigh_5 : decode cX7_weigh 5 = .ok (.invokevirtual 171, 3) := by decide +kernel
theorem dX7_weigh_8 : decode cX7_weigh 8 = .ok (.ifCond .eq 13, 3) := by decide +kernel
theorem dX7_weigh_11 : decode cX7_weigh 11 = .ok (.iload_n 2, 1) := by decide +kernel
theorem dX7_weigh_12 : decode cX7_weigh 12 = .ok (.iconst 1, 1) := by decide +kernel
theorem dX7_weigh_13 : decode cX7_weigh 13 = .ok (.bipush 60, 2) := by decide +kernel
theorem dX7_weigh_15 : decode cX7_weigh 15 = .ok (.invokestatic 71, 3) := by decide +kernel
theorem dX7_weigh_18 : decode cX7_weigh 18 = .ok (.ifCond .ne 6, 3) := by decide +kernel
theorem dX7_weigh_21 : decode cX7_weigh 21 = .ok (.ldc 75, 2) := by decide +kernel
theorem dX7_weigh_23 : decode cX7_weigh 23 = .ok (.ireturn, 1) := by decide +kernel
theorem dX7_weigh_24 : decode cX7_weigh 24 = .ok (.aload_n 0, 1) := by decide +kernel
theorem dX7_weigh_25 : decode cX7_weigh 25 = .ok (.getfield 41, 3) := by decide +kernel
theorem dX7_weigh_28 : decode cX7_weigh 28 = .ok (.aload_n 0, 1) := by decide +kernel
theorem dX7_weigh_29 : decode cX7_weigh 29 = .ok (.getfield 33, 3) := by decide +kernel
theorem dX7_weigh_32 : decode cX7_weigh 32 = .ok (.invokevirtual 158, 3) := by decide +kernel
theorem dX7_weigh_35 : decode cX7_weigh 35 = .ok (.aload_n 0, 1) := by decide +kernel
theorem dX7_weigh_36 : decode cX7_weigh 36 = .ok (.getfield 33, 3) := by decide +kernel
theorem dX7_weigh_39 : decode cX7_weigh 39 = .ok (.getfield 174, 3) := by decide +kernel
theorem dX7_weigh_42 : decode cX7_weigh 42 = .ok (.iload_n 1, 1) := by decide +kernel
theorem dX7_weigh_43 : decode cX7_weigh 43 = .ok (.aaload, 1) := by decide +kernel
theorem dX7_weigh_44 : decode cX7_weigh 44 = .ok (.getfield 198, 3) := by decide +kernel
theorem dX7_weigh_47 : decode cX7_weigh 47 = .ok (.istore_n 3, 1) := by decide +kernel
theorem dX7_weigh_48 : decode cX7_weigh 48 = .ok (.aload_n 0, 1) := by decide +kernel
theorem dX7_weigh_49 : decode cX7_weigh 49 = .ok (.getfield 33, 3) := by decide +kernel
theorem dX7_weigh_52 : decode cX7_weigh 52 = .ok (.getfield 174, 3) := by decide +kernel
theorem dX7_weigh_55 : decode cX7_weigh 55 = .ok (.iload_n 1, 1) := by decide +kernel
theorem dX7_weigh_56 : decode cX7_weigh 56 = .ok (.aaload, 1) := by decide +kernel
theorem dX7_weigh_57 : decode cX7_weigh 57 = .ok (.iload_n 2, 1) := by decide +kernel
theorem dX7_weigh_58 : decode cX7_weigh 58 = .ok (.putfield 198, 3) := by decide +kernel
theorem dX7_weigh_61 : decode cX7_weigh 61 = .ok (.iload_n 3, 1) := by decide +kernel
theorem dX7_weigh_62 : decode cX7_weigh 62 = .ok (.ireturn, 1) := by decide +kernel
theorem dX7_blow_0 : decode cX7_blow 0 = .ok (.aload_n 0, 1) := by decide +kernel
theorem dX7_blow_1 : decode cX7_blow 1 = .ok (.getfield 33, 3) := by decide +kernel
theorem dX7_blow_4 : decode cX7_blow 4 = .ok (.iload_n 1, 1) := by decide +kernel
theorem dX7_blow_5 : decode cX7_blow 5 = .ok (.invokevirtual 201, 3) := by decide +kernel
theorem dX7_blow_8 : decode cX7_blow 8 = .ok (.ifCond .eq 13, 3) := by decide +kernel
theorem dX7_blow_11 : decode cX7_blow 11 = .ok (.iload_n 2, 1) := by decide +kernel
theorem dX7_blow_12 : decode cX7_blow 12 = .ok (.iconst 0, 1) := by decide +kernel
theorem dX7_blow_13 : decode cX7_blow 13 = .ok (.bipush 9, 2) := by decide +kernel
theorem dX7_blow_15 : decode cX7_blow 15 = .ok (.invokestatic 71, 3) := by decide +kernel
theorem dX7_blow_18 : decode cX7_blow 18 = .ok (.ifCond .ne 6, 3) := by decide +kernel
theorem dX7_blow_21 : decode cX7_blow 21 = .ok (.ldc 75, 2) := by decide +kernel
theorem dX7_blow_23 : decode cX7_blow 23 = .ok (.ireturn, 1) := by decide +kernel
theorem dX7_blow_24 : decode cX7_blow 24 = .ok (.aload_n 0, 1) := by decide +kernel
theorem dX7_blow_25 : decode cX7_blow 25 = .ok (.getfield 41, 3) := by decide +kernel
theorem dX7_blow_28 : decode cX7_blow 28 = .ok (.aload_n 0, 1) := by decide +kernel
theorem dX7_blow_29 : decode cX7_blow 29 = .ok (.getfield 33, 3) := by decide +kernel
theorem dX7_blow_32 : decode cX7_blow 32 = .ok (.invokevirtual 158, 3) := by decide +kernel
theorem dX7_blow_35 : decode cX7_blow 35 = .ok (.aload_n 0, 1) := by decide +kernel
theorem dX7_blow_36 : decode cX7_blow 36 = .ok (.getfield 33, 3) := by decide +kernel
theorem dX7_blow_39 : decode cX7_blow 39 = .ok (.getfield 204, 3) := by decide +kernel
theorem dX7_blow_42 : decode cX7_blow 42 = .ok (.iload_n 1, 1) := by decide +kernel
theorem dX7_blow_43 : decode cX7_blow 43 = .ok (.iaload, 1) := by decide +kernel
theorem dX7_blow_44 : decode cX7_blow 44 = .ok (.istore_n 3, 1) := by decide +kernel
theorem dX7_blow_45 : decode cX7_blow 45 = .ok (.aload_n 0, 1) := by decide +kernel
theorem dX7_blow_46 : decode cX7_blow 46 = .ok (.getfield 33, 3) := by decide +kernel
theorem dX7_blow_49 : decode cX7_blow 49 = .ok (.getfield 204, 3) := by decide +kernel
theorem dX7_blow_52 : decode cX7_blow 52 = .ok (.iload_n 1, 1) := by decide +kernel
theorem dX7_blow_53 : decode cX7_blow 53 = .ok (.iload_n 2, 1) := by decide +kernel
theorem dX7_blow_54 : decode cX7_blow 54 = .ok (.iastore, 1) := by decide +kernel
theorem dX7_blow_55 : decode cX7_blow 55 = .ok (.iload_n 3, 1) := by decide +kernel
theorem dX7_blow_56 : decode cX7_blow 56 = .ok (.ireturn, 1) := by decide +kernel
theorem dX7_paper_0 : decode cX7_paper 0 = .ok (.aload_n 0, 1) := by decide +kernel
theorem dX7_paper_1 : decode cX7_paper 1 = .ok (.getfield 33, 3) := by decide +kernel
theorem dX7_paper_4 : decode cX7_paper 4 = .ok (.iload_n 1, 1) := by decide +kernel
theorem dX7_paper_5 : decode cX7_paper 5 = .ok (.invokevirtual 171, 3) := by decide +kernel
theorem dX7_paper_8 : decode cX7_paper 8 = .ok (.ifCond .ne 6, 3) := by decide +kernel
theorem dX7_paper_11 : decode cX7_paper 11 = .ok (.ldc 75, 2) := by decide +kernel
theorem dX7_paper_13 : decode cX7_paper 13 = .ok (.ireturn, 1) := by decide +kernel
theorem dX7_paper_14 : decode cX7_paper 14 = .ok (.aload_n 0, 1) := by decide +kernel
theorem dX7_paper_15 : decode cX7_paper 15 = .ok (.getfield 33, 3) := by decide +kernel
theorem dX7_paper_18 : decode cX7_paper 18 = .ok (.getfield 174, 3) := by decide +kernel
theorem dX7_paper_21 : decode cX7_paper 21 = .ok (.iload_n 1, 1) := by decide +kernel
theorem dX7_paper_22 : decode cX7_paper 22 = .ok (.aaload, 1) := by decide +kernel
theorem dX7_paper_23 : decode cX7_paper 23 = .ok (.astore_n 3, 1) := by decide +kernel
theorem dX7_paper_24 : decode cX7_paper 24 = .ok (.iload_n 2, 1) := by decide +kernel
theorem dX7_paper_25 : decode cX7_paper 25 = .ok (.tableswitch 90 0 6 #[43, 48, 53, 58, 63, 68, 73], 43) := by decide +kernel
theorem dX7_paper_68 : decode cX7_paper 68 = .ok (.aload_n 3, 1) := by decide +kernel
theorem dX7_paper_69 : decode cX7_paper 69 = .ok (.getfield 207, 3) := by decide +kernel
theorem dX7_paper_72 : decode cX7_paper 72 = .ok (.ireturn, 1) := by decide +kernel
theorem dX7_paper_73 : decode cX7_paper 73 = .ok (.aload_n 3, 1) := by decide +kernel
theorem dX7_paper_74 : decode cX7_paper 74 = .ok (.getfield 198, 3) := by decide +kernel
theorem dX7_paper_77 : decode cX7_paper 77 = .ok (.ireturn, 1) := by decide +kernel
theorem dX7_paper_78 : decode cX7_paper 78 = .ok (.aload_n 3, 1) := by decide +kernel
theorem dX7_paper_79 : decode cX7_paper 79 = .ok (.getfield 178, 3) := by decide +kernel
theorem dX7_paper_82 : decode cX7_paper 82 = .ok (.ireturn, 1) := by decide +kernel
theorem dX7_paper_83 : decode cX7_paper 83 = .ok (.aload_n 3, 1) := by decide +kernel
theorem dX7_paper_84 : decode cX7_paper 84 = .ok (.getfield 210, 3) := by decide +kernel
theorem dX7_paper_87 : decode cX7_paper 87 = .ok (.ireturn, 1) := by decide +kernel
theorem dX7_paper_88 : decode cX7_paper 88 = .ok (.aload_n 3, 1) := by decide +kernel
theorem dX7_paper_89 : decode cX7_paper 89 = .ok (.getfield 192, 3) := by decide +kernel
theorem dX7_paper_92 : decode cX7_paper 92 = .ok (.ireturn, 1) := by decide +kernel
theorem dX7_paper_93 : decode cX7_paper 93 = .ok (.aload_n 3, 1) := by decide +kernel
theorem dX7_paper_94 : decode cX7_paper 94 = .ok (.getfield 213, 3) := by decide +kernel
theorem dX7_paper_97 : decode cX7_paper 97 = .ok (.ireturn, 1) := by decide +kernel
theorem dX7_paper_98 : decode cX7_paper 98 = .ok (.aload_n 0, 1) := by decide +kernel
theorem dX7_paper_99 : decode cX7_paper 99 = .ok (.getfield 33, 3) := by decide +kernel
theorem dX7_paper_102 : decode cX7_paper 102 = .ok (.iload_n 1, 1) := by decide +kernel
theorem dX7_paper_103 : decode cX7_paper 103 = .ok (.invokevirtual 216, 3) := by decide +kernel
theorem dX7_paper_106 : decode cX7_paper 106 = .ok (.ifCond .eq 7, 3) := by decide +kernel
theorem dX7_paper_109 : decode cX7_paper 109 = .ok (.iconst 1, 1) := by decide +kernel
theorem dX7_paper_110 : decode cX7_paper 110 = .ok (.goto 4, 3) := by decide +kernel
theorem dX7_paper_113 : decode cX7_paper 113 = .ok (.iconst 0, 1) := by decide +kernel
theorem dX7_paper_114 : decode cX7_paper 114 = .ok (.ireturn, 1) := by decide +kernel
theorem dX7_paper_115 : decode cX7_paper 115 = .ok (.ldc 75, 2) := by decide +kernel
theorem dX7_paper_117 : decode cX7_paper 117 = .ok (.ireturn, 1) := by decide +kernel
theorem dX7_force_0 : decode cX7_force 0 = .ok (.aload_n 0, 1) := by decide +kernel
theorem dX7_force_1 : decode cX7_force 1 = .ok (.getfield 33, 3) := by decide +kernel
theorem dX7_force_4 : decode cX7_force 4 = .ok (.invokevirtual 152, 3) := by decide +kernel
theorem dX7_force_7 : decode cX7_force 7 = .ok (.ifCond .ne 6, 3) := by decide +kernel
theorem dX7_force_10 : decode cX7_force 10 = .ok (.ldc 148, 2) := by decide +kernel
theorem dX7_force_12 : decode cX7_force 12 = .ok (.ireturn, 1) := by decide +kernel
theorem dX7_force_13 : decode cX7_force 13 = .ok (.iload_n 1, 1) := by decide +kernel
theorem dX7_force_14 : decode cX7_force 14 = .ok (.iconst 0, 1) := by decide +kernel
theorem dX7_force_15 : decode cX7_force 15 = .ok (.bipush 60, 2) := by decide +kernel
theorem dX7_force_17 : decode cX7_force 17 = .ok (.invokestatic 71, 3) := by decide +kernel
theorem dX7_force_20 : decode cX7_force 20 = .ok (.ifCond .ne 6, 3) := by decide +kernel
theorem dX7_force_23 : decode cX7_force 23 = .ok (.ldc 75, 2) := by decide +kernel
theorem dX7_force_25 : decode cX7_force 25 = .ok (.ireturn, 1) := by decide +kernel
theorem dX7_force_26 : decode cX7_force 26 = .ok (.aload_n 0, 1) := by decide +kernel
theorem dX7_force_27 : decode cX7_force 27 = .ok (.getfield 33, 3) := by decide +kernel
theorem dX7_force_30 : decode cX7_force 30 = .ok (.iload_n 1, 1) := by decide +kernel
theorem dX7_force_31 : decode cX7_force 31 = .ok (.invokevirtual 161, 3) := by decide +kernel
theorem dX7_force_34 : decode cX7_force 34 = .ok (.ireturn, 1) := by decide +kernel
theorem dX7_stand_0 : decode cX7_stand 0 = .ok (.aload_n 0, 1) := by decide +kernel
theorem dX7_stand_1 : decode cX7_stand 1 = .ok (.getfield 33, 3) := by decide +kernel
theorem dX7_stand_4 : decode cX7_stand 4 = .ok (.invokevirtual 152, 3) := by decide +kernel
theorem dX7_stand_7 : decode cX7_stand 7 = .ok (.ifCond .ne 6, 3) := by decide +kernel
theorem dX7_stand_10 : decode cX7_stand 10 = .ok (.ldc 148, 2) := by decide +kernel
theorem dX7_stand_12 : decode cX7_stand 12 = .ok (.ireturn, 1) := by decide +kernel
theorem dX7_stand_13 : decode cX7_stand 13 = .ok (.iload_n 1, 1) := by decide +kernel
theorem dX7_stand_14 : decode cX7_stand 14 = .ok (.tableswitch 76 0 4 #[34, 43, 51, 60, 68], 34) := by decide +kernel
theorem dX7_stand_48 : decode cX7_stand 48 = .ok (.aload_n 0, 1) := by decide +kernel
theorem dX7_stand_49 : decode cX7_stand 49 = .ok (.getfield 33, 3) := by decide +kernel
theorem dX7_stand_52 : decode cX7_stand 52 = .ok (.iconst 1, 1) := by decide +kernel
theorem dX7_stand_53 : decode cX7_stand 53 = .ok (.invokevirtual 186, 3) := by decide +kernel
theorem dX7_stand_56 : decode cX7_stand 56 = .ok (.ireturn, 1) := by decide +kernel
theorem dX7_stand_57 : decode cX7_stand 57 = .ok (.aload_n 0, 1) := by decide +kernel
theorem dX7_stand_58 : decode cX7_stand 58 = .ok (.getfield 33, 3) := by decide +kernel
theorem dX7_stand_61 : decode cX7_stand 61 = .ok (.invokevirtual 167, 3) := by decide +kernel
theorem dX7_stand_64 : decode cX7_stand 64 = .ok (.ireturn, 1) := by decide +kernel
theorem dX7_stand_65 : decode cX7_stand 65 = .ok (.aload_n 0, 1) := by decide +kernel
theorem dX7_stand_66 : decode cX7_stand 66 = .ok (.getfield 33, 3) := by decide +kernel
theorem dX7_stand_69 : decode cX7_stand 69 = .ok (.iconst 2, 1) := by decide +kernel
theorem dX7_stand_70 : decode cX7_stand 70 = .ok (.invokevirtual 186, 3) := by decide +kernel
theorem dX7_stand_73 : decode cX7_stand 73 = .ok (.ireturn, 1) := by decide +kernel
theorem dX7_stand_74 : decode cX7_stand 74 = .ok (.aload_n 0, 1) := by decide +kernel
theorem dX7_stand_75 : decode cX7_stand 75 = .ok (.getfield 33, 3) := by decide +kernel
theorem dX7_stand_78 : decode cX7_stand 78 = .ok (.getfield 219, 3) := by decide +kernel
theorem dX7_stand_81 : decode cX7_stand 81 = .ok (.ireturn, 1) := by decide +kernel
theorem dX7_stand_82 : decode cX7_stand 82 = .ok (.aload_n 0, 1) := by decide +kernel
theorem dX7_stand_83 : decode cX7_stand 83 = .ok (.getfield 33, 3) := by decide +kernel
theorem dX7_stand_86 : decode cX7_stand 86 = .ok (.getfield 222, 3) := by decide +kernel
theorem dX7_stand_89 : decode cX7_stand 89 = .ok (.ireturn, 1) := by decide +kernel
theorem dX7_stand_90 : decode cX7_stand 90 = .ok (.ldc 75, 2) := by decide +kernel
theorem dX7_stand_92 : decode cX7_stand 92 = .ok (.ireturn, 1) := by decide +kernel
theorem dX7_ahead_0 : decode cX7_ahead 0 = .ok (.aload_n 0, 1) := by decide +kernel
theorem dX7_ahead_1 : decode cX7_ahead 1 = .ok (.getfield 33, 3) := by decide +kernel
theorem dX7_ahead_4 : decode cX7_ahead 4 = .ok (.iload_n 1, 1) := by decide +kernel
theorem dX7_ahead_5 : decode cX7_ahead 5 = .ok (.invokevirtual 171, 3) := by decide +kernel
theorem dX7_ahead_8 : decode cX7_ahead 8 = .ok (.ifCond .eq 22, 3) := by decide +kernel
theorem dX7_ahead_11 : decode cX7_ahead 11 = .ok (.iload_n 2, 1) := by decide +kernel
theorem dX7_ahead_12 : decode cX7_ahead 12 = .ok (.iconst 0, 1) := by decide +kernel
theorem dX7_ahead_13 : decode cX7_ahead 13 = .ok (.bipush 60, 2) := by decide +kernel
theorem dX7_ahead_15 : decode cX7_ahead 15 = .ok (.invokestatic 71, 3) := by decide +kernel
theorem dX7_ahead_18 : decode cX7_ahead 18 = .ok (.ifCond .eq 12, 3) := by decide +kernel
theorem dX7_ahead_21 : decode cX7_ahead 21 = .ok (.iload_n 3, 1) := by decide +kernel
theorem dX7_ahead_22 : decode cX7_ahead 22 = .ok (.iconst 0, 1) := by decide +kernel
theorem dX7_ahead_23 : decode cX7_ahead 23 = .ok (.iconst 2, 1) := by decide +kernel
theorem dX7_ahead_24 : decode cX7_ahead 24 = .ok (.invokestatic 71, 3) := by decide +kernel
theorem dX7_ahead_27 : decode cX7_ahead 27 = .ok (.ifCond .ne 6, 3) := by decide +kernel
theorem dX7_ahead_30 : decode cX7_ahead 30 = .ok (.ldc 75, 2) := by decide +kernel
theorem dX7_ahead_32 : decode cX7_ahead 32 = .ok (.ireturn, 1) := by decide +kernel
theorem dX7_ahead_33 : decode cX7_ahead 33 = .ok (.aload_n 0, 1) := by decide +kernel
theorem dX7_ahead_34 : decode cX7_ahead 34 = .ok (.getfield 25, 3) := by decide +kernel
theorem dX7_ahead_37 : decode cX7_ahead 37 = .ok (.iload_n 2, 1) := by decide +kernel
theorem dX7_ahead_38 : decode cX7_ahead 38 = .ok (.invokevirtual 225, 3) := by decide +kernel
theorem dX7_ahead_41 : decode cX7_ahead 41 = .ok (.aload_n 0, 1) := by decide +kernel
theorem dX7_ahead_42 : decode cX7_ahead 42 = .ok (.getfield 37, 3) := by decide +kernel
theorem dX7_ahead_45 : decode cX7_ahead 45 = .ok (.getfield 174, 3) := by decide +kernel
theorem dX7_ahead_48 : decode cX7_ahead 48 = .ok (.iload_n 1, 1) := by decide +kernel
theorem dX7_ahead_49 : decode cX7_ahead 49 = .ok (.aaload, 1) := by decide +kernel
theorem dX7_ahead_50 : decode cX7_ahead 50 = .ok (.astore 4, 2) := by decide +kernel
theorem dX7_ahead_52 : decode cX7_ahead 52 = .ok (.iload_n 3, 1) := by decide +kernel
theorem dX7_ahead_53 : decode cX7_ahead 53 = .ok (.ifCond .ne 9, 3) := by decide +kernel
theorem dX7_ahead_56 : decode cX7_ahead 56 = .ok (.aload 4, 2) := by decide +kernel
theorem dX7_ahead_58 : decode cX7_ahead 58 = .ok (.getfield 210, 3) := by decide +kernel
theorem dX7_ahead_61 : decode cX7_ahead 61 = .ok (.ireturn, 1) := by decide +kernel
theorem dX7_ahead_62 : decode cX7_ahead 62 = .ok (.iload_n 3, 1) := by decide +kernel
theorem dX7_ahead_63 : decode cX7_ahead 63 = .ok (.iconst 1, 1) := by decide +kernel
theorem dX7_ahead_64 : decode cX7_ahead 64 = .ok (.if_icmp .ne 11, 3) := by decide +kernel
theorem dX7_ahead_67 : decode cX7_ahead 67 = .ok (.aload 4, 2) := by decide +kernel
theorem dX7_ahead_69 : decode cX7_ahead 69 = .ok (.getfield 192, 3) := by decide +kernel
theorem dX7_ahead_72 : decode cX7_ahead 72 = .ok (.goto 8, 3) := by decide +kernel
theorem dX7_ahead_75 : decode cX7_ahead 75 = .ok (.aload 4, 2) := by decide +kernel
theorem dX7_ahead_77 : decode cX7_ahead 77 = .ok (.getfield 213, 3) := by decide +kernel
theorem dX7_ahead_80 : decode cX7_ahead 80 = .ok (.ireturn, 1) := by decide +kernel
theorem dX7_when_0 : decode cX7_when 0 = .ok (.aload_n 0, 1) := by decide +kernel
theorem dX7_when_1 : decode cX7_when 1 = .ok (.getfield 33, 3) := by decide +kernel
theorem dX7_when_4 : decode cX7_when 4 = .ok (.iload_n 1, 1) := by decide +kernel
theorem dX7_when_5 : decode cX7_when 5 = .ok (.invokevirtual 171, 3) := by decide +kernel
theorem dX7_when_8 : decode cX7_when 8 = .ok (.ifCond .eq 12, 3) := by decide +kernel
theorem dX7_when_11 : decode cX7_when 11 = .ok (.iload_n 2, 1) := by decide +kernel
theorem dX7_when_12 : decode cX7_when 12 = .ok (.iconst 1, 1) := by decide +kernel
theorem dX7_when_13 : decode cX7_when 13 = .ok (.iconst 2, 1) := by decide +kernel
theorem dX7_when_14 : decode cX7_when 14 = .ok (.invokestatic 71, 3) := by decide +kernel
theorem dX7_when_17 : decode cX7_when 17 = .ok (.ifCond .ne 6, 3) := by decide +kernel
theorem dX7_when_20 : decode cX7_when 20 = .ok (.ldc 75, 2) := by decide +kernel
theorem dX7_when_22 : decode cX7_when 22 = .ok (.ireturn, 1) := by decide +kernel
theorem dX7_when_23 : decode cX7_when 23 = .ok (.aload_n 0, 1) := by decide +kernel
theorem dX7_when_24 : decode cX7_when 24 = .ok (.getfield 25, 3) := by decide +kernel
theorem dX7_when_27 : decode cX7_when 27 = .ok (.iload_n 1, 1) := by decide +kernel
theorem dX7_when_28 : decode cX7_when 28 = .ok (.iload_n 2, 1) := by decide +kernel
theorem dX7_when_29 : decode cX7_when 29 = .ok (.iconst 2, 1) := by decide +kernel
theorem dX7_when_30 : decode cX7_when 30 = .ok (.if_icmp .ne 7, 3) := by decide +kernel
theorem dX7_when_33 : decode cX7_when 33 = .ok (.iconst 1, 1) := by decide +kernel
theorem dX7_when_34 : decode cX7_when 34 = .ok (.goto 4, 3) := by decide +kernel
theorem dX7_when_37 : decode cX7_when 37 = .ok (.iconst 0, 1) := by decide +kernel
theorem dX7_when_38 : decode cX7_when 38 = .ok (.invokevirtual 228, 3) := by decide +kernel
theorem dX7_when_41 : decode cX7_when 41 = .ok (.ireturn, 1) := by decide +kernel
theorem dX7_policy_0 : decode cX7_policy 0 = .ok (.aload_n 0, 1) := by decide +kernel
theorem dX7_policy_1 : decode cX7_policy 1 = .ok (.getfield 33, 3) := by decide +kernel
theorem dX7_policy_4 : decode cX7_policy 4 = .ok (.invokevirtual 152, 3) := by decide +kernel
theorem dX7_policy_7 : decode cX7_policy 7 = .ok (.ifCond .ne 6, 3) := by decide +kernel
theorem dX7_policy_10 : decode cX7_policy 10 = .ok (.ldc 148, 2) := by decide +kernel
theorem dX7_policy_12 : decode cX7_policy 12 = .ok (.ireturn, 1) := by decide +kernel
theorem dX7_policy_13 : decode cX7_policy 13 = .ok (.iload_n 1, 1) := by decide +kernel
theorem dX7_policy_14 : decode cX7_policy 14 = .ok (.iconst 0, 1) := by decide +kernel
theorem dX7_policy_15 : decode cX7_policy 15 = .ok (.bipush 60, 2) := by decide +kernel
theorem dX7_policy_17 : decode cX7_policy 17 = .ok (.invokestatic 71, 3) := by decide +kernel
theorem dX7_policy_20 : decode cX7_policy 20 = .ok (.ifCond .ne 6, 3) := by decide +kernel
theorem dX7_policy_23 : decode cX7_policy 23 = .ok (.ldc 75, 2) := by decide +kernel
theorem dX7_policy_25 : decode cX7_policy 25 = .ok (.ireturn, 1) := by decide +kernel
theorem dX7_policy_26 : decode cX7_policy 26 = .ok (.aload_n 0, 1) := by decide +kernel
theorem dX7_policy_27 : decode cX7_policy 27 = .ok (.getfield 25, 3) := by decide +kernel
theorem dX7_policy_30 : decode cX7_policy 30 = .ok (.iload_n 1, 1) := by decide +kernel
theorem dX7_policy_31 : decode cX7_policy 31 = .ok (.invokevirtual 225, 3) := by decide +kernel
theorem dX7_policy_34 : decode cX7_policy 34 = .ok (.aload_n 0, 1) := by decide +kernel
theorem dX7_policy_35 : decode cX7_policy 35 = .ok (.getfield 37, 3) := by decide +kernel
theorem dX7_policy_38 : decode cX7_policy 38 = .ok (.invokevirtual 167, 3) := by decide +kernel
theorem dX7_policy_41 : decode cX7_policy 41 = .ok (.ireturn, 1) := by decide +kernel
theorem dX7_pull_0 : decode cX7_pull 0 = .ok (.aload_n 0, 1) := by decide +kernel
theorem dX7_pull_1 : decode cX7_pull 1 = .ok (.getfield 33, 3) := by decide +kernel
theorem dX7_pull_4 : decode cX7_pull 4 = .ok (.iload_n 1, 1) := by decide +kernel
theorem dX7_pull_5 : decode cX7_pull 5 = .ok (.invokevirtual 171, 3) := by decide +kernel
theorem dX7_pull_8 : decode cX7_pull 8 = .ok (.ifCond .ne 6, 3) := by decide +kernel
theorem dX7_pull_11 : decode cX7_pull 11 = .ok (.ldc 75, 2) := by decide +kernel
theorem dX7_pull_13 : decode cX7_pull 13 = .ok (.ireturn, 1) := by decide +kernel
theorem dX7_pull_14 : decode cX7_pull 14 = .ok (.aload_n 0, 1) := by decide +kernel
theorem dX7_pull_15 : decode cX7_pull 15 = .ok (.getfield 33, 3) := by decide +kernel
theorem dX7_pull_18 : decode cX7_pull 18 = .ok (.getfield 174, 3) := by decide +kernel
theorem dX7_pull_21 : decode cX7_pull 21 = .ok (.iload_n 1, 1) := by decide +kernel
theorem dX7_pull_22 : decode cX7_pull 22 = .ok (.aaload, 1) := by decide +kernel
theorem dX7_pull_23 : decode cX7_pull 23 = .ok (.invokevirtual 189, 3) := by decide +kernel
theorem dX7_pull_26 : decode cX7_pull 26 = .ok (.ifCond .ne 6, 3) := by decide +kernel
theorem dX7_pull_29 : decode cX7_pull 29 = .ok (.ldc 148, 2) := by decide +kernel
theorem dX7_pull_31 : decode cX7_pull 31 = .ok (.ireturn, 1) := by decide +kernel
theorem dX7_pull_32 : decode cX7_pull 32 = .ok (.aload_n 0, 1) := by decide +kernel
theorem dX7_pull_33 : decode cX7_pull 33 = .ok (.getfield 33, 3) := by decide +kernel
theorem dX7_pull_36 : decode cX7_pull 36 = .ok (.iload_n 1, 1) := by decide +kernel
theorem dX7_pull_37 : decode cX7_pull 37 = .ok (.aload_n 0, 1) := by decide +kernel
theorem dX7_pull_38 : decode cX7_pull 38 = .ok (.getfield 33, 3) := by decide +kernel
theorem dX7_pull_41 : decode cX7_pull 41 = .ok (.iconst 0, 1) := by decide +kernel
theorem dX7_pull_42 : decode cX7_pull 42 = .ok (.invokevirtual 161, 3) := by decide +kernel
theorem dX7_pull_45 : decode cX7_pull 45 = .ok (.invokevirtual 232, 3) := by decide +kernel
theorem dX7_pull_48 : decode cX7_pull 48 = .ok (.ireturn, 1) := by decide +kernel
theorem dX7_sends_0 : decode cX7_sends 0 = .ok (.aload_n 0, 1) := by decide +kernel
theorem dX7_sends_1 : decode cX7_sends 1 = .ok (.getfield 33, 3) := by decide +kernel
theorem dX7_sends_4 : decode cX7_sends 4 = .ok (.invokevirtual 152, 3) := by decide +kernel
theorem dX7_sends_7 : decode cX7_sends 7 = .ok (.ifCond .ne 6, 3) := by decide +kernel
theorem dX7_sends_10 : decode cX7_sends 10 = .ok (.ldc 148, 2) := by decide +kernel
theorem dX7_sends_12 : decode cX7_sends 12 = .ok (.ireturn, 1) := by decide +kernel
theorem dX7_sends_13 : decode cX7_sends 13 = .ok (.iload_n 1, 1) := by decide +kernel
theorem dX7_sends_14 : decode cX7_sends 14 = .ok (.iconst 1, 1) := by decide +kernel
theorem dX7_sends_15 : decode cX7_sends 15 = .ok (.bipush 30, 2) := by decide +kernel
theorem dX7_sends_17 : decode cX7_sends 17 = .ok (.invokestatic 71, 3) := by decide +kernel
theorem dX7_sends_20 : decode cX7_sends 20 = .ok (.ifCond .eq 22, 3) := by decide +kernel
theorem dX7_sends_23 : decode cX7_sends 23 = .ok (.iload_n 2, 1) := by decide +kernel
theorem dX7_sends_24 : decode cX7_sends 24 = .ok (.iconst 1, 1) := by decide +kernel
theorem dX7_sends_25 : decode cX7_sends 25 = .ok (.bipush 40, 2) := by decide +kernel
theorem dX7_sends_27 : decode cX7_sends 27 = .ok (.invokestatic 71, 3) := by decide +kernel
theorem dX7_sends_30 : decode cX7_sends 30 = .ok (.ifCond .eq 12, 3) := by decide +kernel
theorem dX7_sends_33 : decode cX7_sends 33 = .ok (.iload_n 3, 1) := by decide +kernel
theorem dX7_sends_34 : decode cX7_sends 34 = .ok (.iconst 0, 1) := by decide +kernel
theorem dX7_sends_35 : decode cX7_sends 35 = .ok (.iconst 1, 1) := by decide +kernel
theorem dX7_sends_36 : decode cX7_sends 36 = .ok (.invokestatic 71, 3) := by decide +kernel
theorem dX7_sends_39 : decode cX7_sends 39 = .ok (.ifCond .ne 6, 3) := by decide +kernel
theorem dX7_sends_42 : decode cX7_sends 42 = .ok (.ldc 75, 2) := by decide +kernel
theorem dX7_sends_44 : decode cX7_sends 44 = .ok (.ireturn, 1) := by decide +kernel
theorem dX7_sends_45 : decode cX7_sends 45 = .ok (.aload_n 0, 1) := by decide +kernel
theorem dX7_sends_46 : decode cX7_sends 46 = .ok (.getfield 25, 3) := by decide +kernel
theorem dX7_sends_49 : decode cX7_sends 49 = .ok (.iload_n 1, 1) := by decide +kernel
theorem dX7_sends_50 : decode cX7_sends 50 = .ok (.iload_n 2, 1) := by decide +kernel
theorem dX7_sends_51 : decode cX7_sends 51 = .ok (.iload_n 3, 1) := by decide +kernel
theorem dX7_sends_52 : decode cX7_sends 52 = .ok (.iconst 1, 1) := by decide +kernel
theorem dX7_sends_53 : decode cX7_sends 53 = .ok (.if_icmp .ne 7, 3) := by decide +kernel
theorem dX7_sends_56 : decode cX7_sends 56 = .ok (.iconst 1, 1) := by decide +kernel
theorem dX7_sends_57 : decode cX7_sends 57 = .ok (.goto 4, 3) := by decide +kernel
theorem dX7_sends_60 : decode cX7_sends 60 = .ok (.iconst 0, 1) := by decide +kernel
theorem dX7_sends_61 : decode cX7_sends 61 = .ok (.invokevirtual 235, 3) := by decide +kernel
theorem dX7_sends_64 : decode cX7_sends 64 = .ok (.ireturn, 1) := by decide +kernel
theorem dX7_lets_0 : decode cX7_lets 0 = .ok (.aload_n 0, 1) := by decide +kernel
theorem dX7_lets_1 : decode cX7_lets 1 = .ok (.getfield 33, 3) := by decide +kernel
theorem dX7_lets_4 : decode cX7_lets 4 = .ok (.iload_n 1, 1) := by decide +kernel
theorem dX7_lets_5 : decode cX7_lets 5 = .ok (.invokevirtual 171, 3) := by decide +kernel
theorem dX7_lets_8 : decode cX7_lets 8 = .ok (.ifCond .eq 17, 3) := by decide +kernel
theorem dX7_lets_11 : decode cX7_lets 11 = .ok (.iload_n 2, 1) := by decide +kernel
theorem dX7_lets_12 : decode cX7_lets 12 = .ok (.iconst 1, 1) := by decide +kernel
theorem dX7_lets_13 : decode cX7_lets 13 = .ok (.iconst 4, 1) := by decide +kernel
theorem dX7_lets_14 : decode cX7_lets 14 = .ok (.invokestatic 71, 3) := by decide +kernel
theorem dX7_lets_17 : decode cX7_lets 17 = .ok (.ifCond .eq 8, 3) := by decide +kernel
theorem dX7_lets_20 : decode cX7_lets 20 = .ok (.iload_n 3, 1) := by decide +kernel
theorem dX7_lets_21 : decode cX7_lets 21 = .ok (.iconst (-1), 1) := by decide +kernel
theorem dX7_lets_22 : decode cX7_lets 22 = .ok (.if_icmp .ge 6, 3) := by decide +kernel
theorem dX7_lets_25 : decode cX7_lets 25 = .ok (.ldc 75, 2) := by decide +kernel
theorem dX7_lets_27 : decode cX7_lets 27 = .ok (.ireturn, 1) := by decide +kernel
theorem dX7_lets_28 : decode cX7_lets 28 = .ok (.aload_n 0, 1) := by decide +kernel
theorem dX7_lets_29 : decode cX7_lets 29 = .ok (.getfield 33, 3) := by decide +kernel
theorem dX7_lets_32 : decode cX7_lets 32 = .ok (.getfield 174, 3) := by decide +kernel
theorem dX7_lets_35 : decode cX7_lets 35 = .ok (.iload_n 1, 1) := by decide +kernel
theorem dX7_lets_36 : decode cX7_lets 36 = .ok (.aaload, 1) := by decide +kernel
theorem dX7_lets_37 : decode cX7_lets 37 = .ok (.invokevirtual 189, 3) := by decide +kernel
theorem dX7_lets_40 : decode cX7_lets 40 = .ok (.ifCond .ne 6, 3) := by decide +kernel
theorem dX7_lets_43 : decode cX7_lets 43 = .ok (.ldc 148, 2) := by decide +kernel
theorem dX7_lets_45 : decode cX7_lets 45 = .ok (.ireturn, 1) := by decide +kernel
theorem dX7_lets_46 : decode cX7_lets 46 = .ok (.aload_n 0, 1) := by decide +kernel
theorem dX7_lets_47 : decode cX7_lets 47 = .ok (.getfield 25, 3) := by decide +kernel
theorem dX7_lets_50 : decode cX7_lets 50 = .ok (.iload_n 1, 1) := by decide +kernel
theorem dX7_lets_51 : decode cX7_lets 51 = .ok (.iload_n 2, 1) := by decide +kernel
theorem dX7_lets_52 : decode cX7_lets 52 = .ok (.iload_n 3, 1) := by decide +kernel
theorem dX7_lets_53 : decode cX7_lets 53 = .ok (.invokevirtual 239, 3) := by decide +kernel
theorem dX7_lets_56 : decode cX7_lets 56 = .ok (.ireturn, 1) := by decide +kernel
theorem dX7_light_0 : decode cX7_light 0 = .ok (.aload_n 0, 1) := by decide +kernel
theorem dX7_light_1 : decode cX7_light 1 = .ok (.getfield 33, 3) := by decide +kernel
theorem dX7_light_4 : decode cX7_light 4 = .ok (.iload_n 1, 1) := by decide +kernel
theorem dX7_light_5 : decode cX7_light 5 = .ok (.invokevirtual 171, 3) := by decide +kernel
theorem dX7_light_8 : decode cX7_light 8 = .ok (.ifCond .eq 13, 3) := by decide +kernel
theorem dX7_light_11 : decode cX7_light 11 = .ok (.iload_n 2, 1) := by decide +kernel
theorem dX7_light_12 : decode cX7_light 12 = .ok (.iconst 1, 1) := by decide +kernel
theorem dX7_light_13 : decode cX7_light 13 = .ok (.bipush 30, 2) := by decide +kernel
theorem dX7_light_15 : decode cX7_light 15 = .ok (.invokestatic 71, 3) := by decide +kernel
theorem dX7_light_18 : decode cX7_light 18 = .ok (.ifCond .ne 6, 3) := by decide +kernel
theorem dX7_light_21 : decode cX7_light 21 = .ok (.ldc 75, 2) := by decide +kernel
theorem dX7_light_23 : decode cX7_light 23 = .ok (.ireturn, 1) := by decide +kernel
theorem dX7_light_24 : decode cX7_light 24 = .ok (.aload_n 0, 1) := by decide +kernel
theorem dX7_light_25 : decode cX7_light 25 = .ok (.getfield 25, 3) := by decide +kernel
theorem dX7_light_28 : decode cX7_light 28 = .ok (.iload_n 1, 1) := by decide +kernel
theorem dX7_light_29 : decode cX7_light 29 = .ok (.iload_n 2, 1) := by decide +kernel
theorem dX7_light_30 : decode cX7_light 30 = .ok (.invokevirtual 243, 3) := by decide +kernel
theorem dX7_light_33 : decode cX7_light 33 = .ok (.ireturn, 1) := by decide +kernel
theorem dX7_gust_0 : decode cX7_gust 0 = .ok (.aload_n 0, 1) := by decide +kernel
theorem dX7_gust_1 : decode cX7_gust 1 = .ok (.getfield 33, 3) := by decide +kernel
theorem dX7_gust_4 : decode cX7_gust 4 = .ok (.iload_n 1, 1) := by decide +kernel
theorem dX7_gust_5 : decode cX7_gust 5 = .ok (.invokevirtual 171, 3) := by decide +kernel
theorem dX7_gust_8 : decode cX7_gust 8 = .ok (.ifCond .ne 6, 3) := by decide +kernel
theorem dX7_gust_11 : decode cX7_gust 11 = .ok (.ldc 75, 2) := by decide +kernel
theorem dX7_gust_13 : decode cX7_gust 13 = .ok (.ireturn, 1) := by decide +kernel
theorem dX7_gust_14 : decode cX7_gust 14 = .ok (.aload_n 0, 1) := by decide +kernel
theorem dX7_gust_15 : decode cX7_gust 15 = .ok (.getfield 33, 3) := by decide +kernel
theorem dX7_gust_18 : decode cX7_gust 18 = .ok (.getfield 174, 3) := by decide +kernel
theorem dX7_gust_21 : decode cX7_gust 21 = .ok (.iload_n 1, 1) := by decide +kernel
theorem dX7_gust_22 : decode cX7_gust 22 = .ok (.aaload, 1) := by decide +kernel
theorem dX7_gust_23 : decode cX7_gust 23 = .ok (.invokevirtual 189, 3) := by decide +kernel
theorem dX7_gust_26 : decode cX7_gust 26 = .ok (.ifCond .ne 6, 3) := by decide +kernel
theorem dX7_gust_29 : decode cX7_gust 29 = .ok (.ldc 148, 2) := by decide +kernel
theorem dX7_gust_31 : decode cX7_gust 31 = .ok (.ireturn, 1) := by decide +kernel
theorem dX7_gust_32 : decode cX7_gust 32 = .ok (.aload_n 0, 1) := by decide +kernel
theorem dX7_gust_33 : decode cX7_gust 33 = .ok (.getfield 25, 3) := by decide +kernel
theorem dX7_gust_36 : decode cX7_gust 36 = .ok (.iload_n 1, 1) := by decide +kernel
theorem dX7_gust_37 : decode cX7_gust 37 = .ok (.invokevirtual 246, 3) := by decide +kernel
theorem dX7_gust_40 : decode cX7_gust 40 = .ok (.ireturn, 1) := by decide +kernel
theorem dX7_quarrels_0 : decode cX7_quarrels 0 = .ok (.aload_n 0, 1) := by decide +kernel
theorem dX7_quarrels_1 : decode cX7_quarrels 1 = .ok (.getfield 33, 3) := by decide +kernel
theorem dX7_quarrels_4 : decode cX7_quarrels 4 = .ok (.invokevirtual 152, 3) := by decide +kernel
theorem dX7_quarrels_7 : decode cX7_quarrels 7 = .ok (.ifCond .ne 6, 3) := by decide +kernel
theorem dX7_quarrels_10 : decode cX7_quarrels 10 = .ok (.ldc 148, 2) := by decide +kernel
theorem dX7_quarrels_12 : decode cX7_quarrels 12 = .ok (.ireturn, 1) := by decide +kernel
theorem dX7_quarrels_13 : decode cX7_quarrels 13 = .ok (.iload_n 1, 1) := by decide +kernel
theorem dX7_quarrels_14 : decode cX7_quarrels 14 = .ok (.lookupswitch 42 #[(0, 26), (1, 34)], 26) := by decide +kernel
theorem dX7_quarrels_40 : decode cX7_quarrels 40 = .ok (.aload_n 0, 1) := by decide +kernel
theorem dX7_quarrels_41 : decode cX7_quarrels 41 = .ok (.getfield 33, 3) := by decide +kernel
theorem dX7_quarrels_44 : decode cX7_quarrels 44 = .ok (.invokevirtual 249, 3) := by decide +kernel
theorem dX7_quarrels_47 : decode cX7_quarrels 47 = .ok (.ireturn, 1) := by decide +kernel
theorem dX7_quarrels_48 : decode cX7_quarrels 48 = .ok (.aload_n 0, 1) := by decide +kernel
theorem dX7_quarrels_49 : decode cX7_quarrels 49 = .ok (.getfield 33, 3) := by decide +kernel
theorem dX7_quarrels_52 : decode cX7_quarrels 52 = .ok (.invokevirtual 252, 3) := by decide +kernel
theorem dX7_quarrels_55 : decode cX7_quarrels 55 = .ok (.ireturn, 1) := by decide +kernel
theorem dX7_quarrels_56 : decode cX7_quarrels 56 = .ok (.ldc 75, 2) := by decide +kernel
theorem dX7_quarrels_58 : decode cX7_quarrels 58 = .ok (.ireturn, 1) := by decide +kernel
theorem dX7_who_0 : decode cX7_who 0 = .ok (.aload_n 0, 1) := by decide +kernel
theorem dX7_who_1 : decode cX7_who 1 = .ok (.getfield 33, 3) := by decide +kernel
theorem dX7_who_4 : decode cX7_who 4 = .ok (.iload_n 1, 1) := by decide +kernel
theorem dX7_who_5 : decode cX7_who 5 = .ok (.invokevirtual 171, 3) := by decide +kernel
theorem dX7_who_8 : decode cX7_who 8 = .ok (.ifCond .eq 30, 3) := by decide +kernel
theorem dX7_who_11 : decode cX7_who 11 = .ok (.iload_n 2, 1) := by decide +kernel
theorem dX7_who_12 : decode cX7_who 12 = .ok (.iconst 0, 1) := by decide +kernel
theorem dX7_who_13 : decode cX7_who 13 = .ok (.iconst 4, 1) := by decide +kernel
theorem dX7_who_14 : decode cX7_who 14 = .ok (.invokestatic 71, 3) := by decide +kernel
theorem dX7_who_17 : decode cX7_who 17 = .ok (.ifCond .eq 21, 3) := by decide +kernel
theorem dX7_who_20 : decode cX7_who 20 = .ok (.iload_n 3, 1) := by decide +kernel
theorem dX7_who_21 : decode cX7_who 21 = .ok (.invokestatic 67, 3) := by decide +kernel
theorem dX7_who_24 : decode cX7_who 24 = .ok (.ifCond .eq 14, 3) := by decide +kernel
theorem dX7_who_27 : decode cX7_who 27 = .ok (.iload 5, 2) := by decide +kernel
theorem dX7_who_29 : decode cX7_who 29 = .ok (.iconst 1, 1) := by decide +kernel
theorem dX7_who_30 : decode cX7_who 30 = .ok (.bipush 12, 2) := by decide +kernel
theorem dX7_who_32 : decode cX7_who 32 = .ok (.invokestatic 71, 3) := by decide +kernel
theorem dX7_who_35 : decode cX7_who 35 = .ok (.ifCond .ne 6, 3) := by decide +kernel
theorem dX7_who_38 : decode cX7_who 38 = .ok (.ldc 75, 2) := by decide +kernel
theorem dX7_who_40 : decode cX7_who 40 = .ok (.ireturn, 1) := by decide +kernel
theorem dX7_who_41 : decode cX7_who 41 = .ok (.aload_n 0, 1) := by decide +kernel
theorem dX7_who_42 : decode cX7_who 42 = .ok (.iload_n 1, 1) := by decide +kernel
theorem dX7_who_43 : decode cX7_who 43 = .ok (.iload_n 3, 1) := by decide +kernel
theorem dX7_who_44 : decode cX7_who 44 = .ok (.iload 4, 2) := by decide +kernel
theorem dX7_who_46 : decode cX7_who 46 = .ok (.iload 5, 2) := by decide +kernel
theorem dX7_who_48 : decode cX7_who 48 = .ok (.invokevirtual 255, 3) := by decide +kernel
theorem dX7_who_51 : decode cX7_who 51 = .ok (.istore 6, 2) := by decide +kernel
theorem dX7_who_53 : decode cX7_who 53 = .ok (.iload 6, 2) := by decide +kernel
theorem dX7_who_55 : decode cX7_who 55 = .ok (.ifCond .eq 10, 3) := by decide +kernel
theorem dX7_who_58 : decode cX7_who 58 = .ok (.aload_n 0, 1) := by decide +kernel
theorem dX7_who_59 : decode cX7_who 59 = .ok (.iload 6, 2) := by decide +kernel
theorem dX7_who_61 : decode cX7_who 61 = .ok (.invokevirtual 76, 3) := by decide +kernel
theorem dX7_who_64 : decode cX7_who 64 = .ok (.ireturn, 1) := by decide +kernel
theorem dX7_who_65 : decode cX7_who 65 = .ok (.aload_n 0, 1) := by decide +kernel
theorem dX7_who_66 : decode cX7_who 66 = .ok (.aload_n 0, 1) := by decide +kernel
theorem dX7_who_67 : decode cX7_who 67 = .ok (.getfield 25, 3) := by decide +kernel
theorem dX7_who_70 : decode cX7_who 70 = .ok (.iload_n 2, 1) := by decide +kernel
theorem dX7_who_71 : decode cX7_who 71 = .ok (.invokevirtual 259, 3) := by decide +kernel
theorem dX7_who_74 : decode cX7_who 74 = .ok (.invokevirtual 84, 3) := by decide +kernel
theorem dX7_who_77 : decode cX7_who 77 = .ok (.ireturn, 1) := by decide +kernel
theorem dX7_winds_0 : decode cX7_winds 0 = .ok (.aload_n 0, 1) := by decide +kernel
theorem dX7_winds_1 : decode cX7_winds 1 = .ok (.getfield 33, 3) := by decide +kernel
theorem dX7_winds_4 : decode cX7_winds 4 = .ok (.iload_n 1, 1) := by decide +kernel
theorem dX7_winds_5 : decode cX7_winds 5 = .ok (.invokevirtual 171, 3) := by decide +kernel
theorem dX7_winds_8 : decode cX7_winds 8 = .ok (.ifCond .eq 32, 3) := by decide +kernel
theorem dX7_winds_11 : decode cX7_winds 11 = .ok (.aload_n 0, 1) := by decide +kernel
theorem dX7_winds_12 : decode cX7_winds 12 = .ok (.getfield 33, 3) := by decide +kernel
theorem dX7_winds_15 : decode cX7_winds 15 = .ok (.iload_n 2, 1) := by decide +kernel
theorem dX7_winds_16 : decode cX7_winds 16 = .ok (.invokevirtual 201, 3) := by decide +kernel
theorem dX7_winds_19 : decode cX7_winds 19 = .ok (.ifCond .eq 21, 3) := by decide +kernel
theorem dX7_winds_22 : decode cX7_winds 22 = .ok (.iload_n 3, 1) := by decide +kernel
theorem dX7_winds_23 : decode cX7_winds 23 = .ok (.invokestatic 67, 3) := by decide +kernel
theorem dX7_winds_26 : decode cX7_winds 26 = .ok (.ifCond .eq 14, 3) := by decide +kernel
theorem dX7_winds_29 : decode cX7_winds 29 = .ok (.iload 5, 2) := by decide +kernel
theorem dX7_winds_31 : decode cX7_winds 31 = .ok (.iconst 1, 1) := by decide +kernel
theorem dX7_winds_32 : decode cX7_winds 32 = .ok (.bipush 12, 2) := by decide +kernel
theorem dX7_winds_34 : decode cX7_winds 34 = .ok (.invokestatic 71, 3) := by decide +kernel
theorem dX7_winds_37 : decode cX7_winds 37 = .ok (.ifCond .ne 6, 3) := by decide +kernel
theorem dX7_winds_40 : decode cX7_winds 40 = .ok (.ldc 75, 2) := by decide +kernel
theorem dX7_winds_42 : decode cX7_winds 42 = .ok (.ireturn, 1) := by decide +kernel
theorem dX7_winds_43 : decode cX7_winds 43 = .ok (.aload_n 0, 1) := by decide +kernel
theorem dX7_winds_44 : decode cX7_winds 44 = .ok (.iload_n 1, 1) := by decide +kernel
theorem dX7_winds_45 : decode cX7_winds 45 = .ok (.iload_n 3, 1) := by decide +kernel
theorem dX7_winds_46 : decode cX7_winds 46 = .ok (.iload 4, 2) := by decide +kernel
theorem dX7_winds_48 : decode cX7_winds 48 = .ok (.iload 5, 2) := by decide +kernel
theorem dX7_winds_50 : decode cX7_winds 50 = .ok (.invokevirtual 255, 3) := by decide +kernel
theorem dX7_winds_53 : decode cX7_winds 53 = .ok (.istore 6, 2) := by decide +kernel
theorem dX7_winds_55 : decode cX7_winds 55 = .ok (.iload 6, 2) := by decide +kernel
theorem dX7_winds_57 : decode cX7_winds 57 = .ok (.ifCond .eq 10, 3) := by decide +kernel
theorem dX7_winds_60 : decode cX7_winds 60 = .ok (.aload_n 0, 1) := by decide +kernel
theorem dX7_winds_61 : decode cX7_winds 61 = .ok (.iload 6, 2) := by decide +kernel
theorem dX7_winds_63 : decode cX7_winds 63 = .ok (.invokevirtual 76, 3) := by decide +kernel
theorem dX7_winds_66 : decode cX7_winds 66 = .ok (.ireturn, 1) := by decide +kernel
theorem dX7_winds_67 : decode cX7_winds 67 = .ok (.aload_n 0, 1) := by decide +kernel
theorem dX7_winds_68 : decode cX7_winds 68 = .ok (.aload_n 0, 1) := by decide +kernel
theorem dX7_winds_69 : decode cX7_winds 69 = .ok (.getfield 25, 3) := by decide +kernel
theorem dX7_winds_72 : decode cX7_winds 72 = .ok (.iload_n 2, 1) := by decide +kernel
theorem dX7_winds_73 : decode cX7_winds 73 = .ok (.invokevirtual 262, 3) := by decide +kernel
theorem dX7_winds_76 : decode cX7_winds 76 = .ok (.invokevirtual 84, 3) := by decide +kernel
theorem dX7_winds_79 : decode cX7_winds 79 = .ok (.ireturn, 1) := by decide +kernel
theorem dX7_tapes_0 : decode cX7_tapes 0 = .ok (.aload_n 0, 1) := by decide +kernel
theorem dX7_tapes_1 : decode cX7_tapes 1 = .ok (.getfield 33, 3) := by decide +kernel
theorem dX7_tapes_4 : decode cX7_tapes 4 = .ok (.iload_n 1, 1) := by decide +kernel
theorem dX7_tapes_5 : decode cX7_tapes 5 = .ok (.invokevirtual 171, 3) := by decide +kernel
theorem dX7_tapes_8 : decode cX7_tapes 8 = .ok (.ifCond .eq 30, 3) := by decide +kernel
theorem dX7_tapes_11 : decode cX7_tapes 11 = .ok (.iload_n 2, 1) := by decide +kernel
theorem dX7_tapes_12 : decode cX7_tapes 12 = .ok (.iconst 0, 1) := by decide +kernel
theorem dX7_tapes_13 : decode cX7_tapes 13 = .ok (.iconst 1, 1) := by decide +kernel
theorem dX7_tapes_14 : decode cX7_tapes 14 = .ok (.invokestatic 71, 3) := by decide +kernel
theorem dX7_tapes_17 : decode cX7_tapes 17 = .ok (.ifCond .eq 21, 3) := by decide +kernel
theorem dX7_tapes_20 : decode cX7_tapes 20 = .ok (.iload_n 3, 1) := by decide +kernel
theorem dX7_tapes_21 : decode cX7_tapes 21 = .ok (.invokestatic 67, 3) := by decide +kernel
theorem dX7_tapes_24 : decode cX7_tapes 24 = .ok (.ifCond .eq 14, 3) := by decide +kernel
theorem dX7_tapes_27 : decode cX7_tapes 27 = .ok (.iload 5, 2) := by decide +kernel
theorem dX7_tapes_29 : decode cX7_tapes 29 = .ok (.iconst 1, 1) := by decide +kernel
theorem dX7_tapes_30 : decode cX7_tapes 30 = .ok (.bipush 12, 2) := by decide +kernel
theorem dX7_tapes_32 : decode cX7_tapes 32 = .ok (.invokestatic 71, 3) := by decide +kernel
theorem dX7_tapes_35 : decode cX7_tapes 35 = .ok (.ifCond .ne 6, 3) := by decide +kernel
theorem dX7_tapes_38 : decode cX7_tapes 38 = .ok (.ldc 75, 2) := by decide +kernel
theorem dX7_tapes_40 : decode cX7_tapes 40 = .ok (.ireturn, 1) := by decide +kernel
theorem dX7_tapes_41 : decode cX7_tapes 41 = .ok (.aload_n 0, 1) := by decide +kernel
theorem dX7_tapes_42 : decode cX7_tapes 42 = .ok (.iload_n 1, 1) := by decide +kernel
theorem dX7_tapes_43 : decode cX7_tapes 43 = .ok (.iload_n 3, 1) := by decide +kernel
theorem dX7_tapes_44 : decode cX7_tapes 44 = .ok (.iload 4, 2) := by decide +kernel
theorem dX7_tapes_46 : decode cX7_tapes 46 = .ok (.iload 5, 2) := by decide +kernel
theorem dX7_tapes_48 : decode cX7_tapes 48 = .ok (.invokevirtual 255, 3) := by decide +kernel
theorem dX7_tapes_51 : decode cX7_tapes 51 = .ok (.istore 6, 2) := by decide +kernel
theorem dX7_tapes_53 : decode cX7_tapes 53 = .ok (.iload 6, 2) := by decide +kernel
theorem dX7_tapes_55 : decode cX7_tapes 55 = .ok (.ifCond .eq 10, 3) := by decide +kernel
theorem dX7_tapes_58 : decode cX7_tapes 58 = .ok (.aload_n 0, 1) := by decide +kernel
theorem dX7_tapes_59 : decode cX7_tapes 59 = .ok (.iload 6, 2) := by decide +kernel
theorem dX7_tapes_61 : decode cX7_tapes 61 = .ok (.invokevirtual 76, 3) := by decide +kernel
theorem dX7_tapes_64 : decode cX7_tapes 64 = .ok (.ireturn, 1) := by decide +kernel
theorem dX7_tapes_65 : decode cX7_tapes 65 = .ok (.aload_n 0, 1) := by decide +kernel
theorem dX7_tapes_66 : decode cX7_tapes 66 = .ok (.aload_n 0, 1) := by decide +kernel
theorem dX7_tapes_67 : decode cX7_tapes 67 = .ok (.getfield 25, 3) := by decide +kernel
theorem dX7_tapes_70 : decode cX7_tapes 70 = .ok (.iload_n 2, 1) := by decide +kernel
theorem dX7_tapes_71 : decode cX7_tapes 71 = .ok (.invokevirtual 265, 3) := by decide +kernel
theorem dX7_tapes_74 : decode cX7_tapes 74 = .ok (.invokevirtual 84, 3) := by decide +kernel
theorem dX7_tapes_77 : decode cX7_tapes 77 = .ok (.ireturn, 1) := by decide +kernel
theorem dX7_calm_0 : decode cX7_calm 0 = .ok (.aload_n 0, 1) := by decide +kernel
theorem dX7_calm_1 : decode cX7_calm 1 = .ok (.getfield 33, 3) := by decide +kernel
theorem dX7_calm_4 : decode cX7_calm 4 = .ok (.iload_n 1, 1) := by decide +kernel
theorem dX7_calm_5 : decode cX7_calm 5 = .ok (.invokevirtual 171, 3) := by decide +kernel
theorem dX7_calm_8 : decode cX7_calm 8 = .ok (.ifCond .eq 33, 3) := by decide +kernel
theorem dX7_calm_11 : decode cX7_calm 11 = .ok (.iload_n 2, 1) := by decide +kernel
theorem dX7_calm_12 : decode cX7_calm 12 = .ok (.iconst 0, 1) := by decide +kernel
theorem dX7_calm_13 : decode cX7_calm 13 = .ok (.bipush 8, 2) := by decide +kernel
theorem dX7_calm_15 : decode cX7_calm 15 = .ok (.invokestatic 71, 3) := by decide +kernel
theorem dX7_calm_18 : decode cX7_calm 18 = .ok (.ifCond .eq 23, 3) := by decide +kernel
theorem dX7_calm_21 : decode cX7_calm 21 = .ok (.iload_n 3, 1) := by decide +kernel
theorem dX7_calm_22 : decode cX7_calm 22 = .ok (.iconst 0, 1) := by decide +kernel
theorem dX7_calm_23 : decode cX7_calm 23 = .ok (.bipush 10, 2) := by decide +kernel
theorem dX7_calm_25 : decode cX7_calm 25 = .ok (.invokestatic 71, 3) := by decide +kernel
theorem dX7_calm_28 : decode cX7_calm 28 = .ok (.ifCond .eq 13, 3) := by decide +kernel
theorem dX7_calm_31 : decode cX7_calm 31 = .ok (.iload 4, 2) := by decide +kernel
theorem dX7_calm_33 : decode cX7_calm 33 = .ok (.iconst 0, 1) := by decide +kernel
theorem dX7_calm_34 : decode cX7_calm 34 = .ok (.iconst 1, 1) := by decide +kernel
theorem dX7_calm_35 : decode cX7_calm 35 = .ok (.invokestatic 71, 3) := by decide +kernel
theorem dX7_calm_38 : decode cX7_calm 38 = .ok (.ifCond .ne 7, 3) := by decide +kernel
theorem dX7_calm_41 : decode cX7_calm 41 = .ok (.ldc2_w 268, 3) := by decide +kernel
theorem dX7_calm_44 : decode cX7_calm 44 = .ok (.lreturn, 1) := by decide +kernel
theorem dX7_calm_45 : decode cX7_calm 45 = .ok (.aload_n 0, 1) := by decide +kernel
theorem dX7_calm_46 : decode cX7_calm 46 = .ok (.getfield 25, 3) := by decide +kernel
theorem dX7_calm_49 : decode cX7_calm 49 = .ok (.iload_n 1, 1) := by decide +kernel
theorem dX7_calm_50 : decode cX7_calm 50 = .ok (.iload_n 2, 1) := by decide +kernel
theorem dX7_calm_51 : decode cX7_calm 51 = .ok (.iload_n 3, 1) := by decide +kernel
theorem dX7_calm_52 : decode cX7_calm 52 = .ok (.invokevirtual 270, 3) := by decide +kernel
theorem dX7_calm_55 : decode cX7_calm 55 = .ok (.lstore 5, 2) := by decide +kernel
theorem dX7_calm_57 : decode cX7_calm 57 = .ok (.ldc2_w 274, 3) := by decide +kernel
theorem dX7_calm_60 : decode cX7_calm 60 = .ok (.iload_n 2, 1) := by decide +kernel
theorem dX7_calm_61 : decode cX7_calm 61 = .ok (.invokestatic 276, 3) := by decide +kernel
theorem dX7_calm_64 : decode cX7_calm 64 = .ok (.lstore 7, 2) := by decide +kernel
theorem dX7_calm_66 : decode cX7_calm 66 = .ok (.lload 5, 2) := by decide +kernel
theorem dX7_calm_68 : decode cX7_calm 68 = .ok (.lload 7, 2) := by decide +kernel
theorem dX7_calm_70 : decode cX7_calm 70 = .ok (.invokestatic 280, 3) := by decide +kernel
theorem dX7_calm_73 : decode cX7_calm 73 = .ok (.lstore 9, 2) := by decide +kernel
theorem dX7_calm_75 : decode cX7_calm 75 = .ok (.lload 9, 2) := by decide +kernel
theorem dX7_calm_77 : decode cX7_calm 77 = .ok (.lconst 0, 1) := by decide +kernel
theorem dX7_calm_78 : decode cX7_calm 78 = .ok (.lcmp, 1) := by decide +kernel
theorem dX7_calm_79 : decode cX7_calm 79 = .ok (.ifCond .ne 7, 3) := by decide +kernel
theorem dX7_calm_82 : decode cX7_calm 82 = .ok (.ldc2_w 268, 3) := by decide +kernel
theorem dX7_calm_85 : decode cX7_calm 85 = .ok (.lreturn, 1) := by decide +kernel
theorem dX7_calm_86 : decode cX7_calm 86 = .ok (.iload 4, 2) := by decide +kernel
theorem dX7_calm_88 : decode cX7_calm 88 = .ok (.ifCond .ne 8, 3) := by decide +kernel
theorem dX7_calm_91 : decode cX7_calm 91 = .ok (.lload 5, 2) := by decide +kernel
theorem dX7_calm_93 : decode cX7_calm 93 = .ok (.goto 5, 3) := by decide +kernel
theorem dX7_calm_96 : decode cX7_calm 96 = .ok (.lload 7, 2) := by decide +kernel
theorem dX7_calm_98 : decode cX7_calm 98 = .ok (.lload 9, 2) := by decide +kernel
theorem dX7_calm_100 : decode cX7_calm 100 = .ok (.ldiv, 1) := by decide +kernel
theorem dX7_calm_101 : decode cX7_calm 101 = .ok (.lreturn, 1) := by decide +kernel
theorem dX7_drawn_0 : decode cX7_drawn 0 = .ok (.aload_n 0, 1) := by decide +kernel
theorem dX7_drawn_1 : decode cX7_drawn 1 = .ok (.getfield 33, 3) := by decide +kernel
theorem dX7_drawn_4 : decode cX7_drawn 4 = .ok (.invokevirtual 152, 3) := by decide +kernel
theorem dX7_drawn_7 : decode cX7_drawn 7 = .ok (.ifCond .ne 6, 3) := by decide +kernel
theorem dX7_drawn_10 : decode cX7_drawn 10 = .ok (.ldc 148, 2) := by decide +kernel
theorem dX7_drawn_12 : decode cX7_drawn 12 = .ok (.ireturn, 1) := by decide +kernel
theorem dX7_drawn_13 : decode cX7_drawn 13 = .ok (.iload_n 1, 1) := by decide +kernel
theorem dX7_drawn_14 : decode cX7_drawn 14 = .ok (.iconst 0, 1) := by decide +kernel
theorem dX7_drawn_15 : decode cX7_drawn 15 = .ok (.bipush 60, 2) := by decide +kernel
theorem dX7_drawn_17 : decode cX7_drawn 17 = .ok (.invokestatic 71, 3) := by decide +kernel
theorem dX7_drawn_20 : decode cX7_drawn 20 = .ok (.ifCond .eq 23, 3) := by decide +kernel
theorem dX7_drawn_23 : decode cX7_drawn 23 = .ok (.iload_n 2, 1) := by decide +kernel
theorem dX7_drawn_24 : decode cX7_drawn 24 = .ok (.iconst 1, 1) := by decide +kernel
theorem dX7_drawn_25 : decode cX7_drawn 25 = .ok (.ldc_w 284, 3) := by decide +kernel
theorem dX7_drawn_28 : decode cX7_drawn 28 = .ok (.invokestatic 71, 3) := by decide +kernel
theorem dX7_drawn_31 : decode cX7_drawn 31 = .ok (.ifCond .eq 12, 3) := by decide +kernel
theorem dX7_drawn_34 : decode cX7_drawn 34 = .ok (.iload_n 3, 1) := by decide +kernel
theorem dX7_drawn_35 : decode cX7_drawn 35 = .ok (.iconst 0, 1) := by decide +kernel
theorem dX7_drawn_36 : decode cX7_drawn 36 = .ok (.iconst 1, 1) := by decide +kernel
theorem dX7_drawn_37 : decode cX7_drawn 37 = .ok (.invokestatic 71, 3) := by decide +kernel
theorem dX7_drawn_40 : decode cX7_drawn 40 = .ok (.ifCond .ne 6, 3) := by decide +kernel
theorem dX7_drawn_43 : decode cX7_drawn 43 = .ok (.ldc 75, 2) := by decide +kernel
theorem dX7_drawn_45 : decode cX7_drawn 45 = .ok (.ireturn, 1) := by decide +kernel
theorem dX7_drawn_46 : decode cX7_drawn 46 = .ok (.aload_n 0, 1) := by decide +kernel
theorem dX7_drawn_47 : decode cX7_drawn 47 = .ok (.getfield 25, 3) := by decide +kernel
theorem dX7_drawn_50 : decode cX7_drawn 50 = .ok (.iload_n 1, 1) := by decide +kernel
theorem dX7_drawn_51 : decode cX7_drawn 51 = .ok (.iload_n 2, 1) := by decide +kernel
theorem dX7_drawn_52 : decode cX7_drawn 52 = .ok (.invokevirtual 285, 3) := by decide +kernel
theorem dX7_drawn_55 : decode cX7_drawn 55 = .ok (.iload_n 3, 1) := by decide +kernel
theorem dX7_drawn_56 : decode cX7_drawn 56 = .ok (.ifCond .ne 13, 3) := by decide +kernel
theorem dX7_drawn_59 : decode cX7_drawn 59 = .ok (.aload_n 0, 1) := by decide +kernel
theorem dX7_drawn_60 : decode cX7_drawn 60 = .ok (.getfield 37, 3) := by decide +kernel
theorem dX7_drawn_63 : decode cX7_drawn 63 = .ok (.invokevirtual 167, 3) := by decide +kernel
theorem dX7_drawn_66 : decode cX7_drawn 66 = .ok (.goto 11, 3) := by decide +kernel
theorem dX7_drawn_69 : decode cX7_drawn 69 = .ok (.aload_n 0, 1) := by decide +kernel
theorem dX7_drawn_70 : decode cX7_drawn 70 = .ok (.getfield 37, 3) := by decide +kernel
theorem dX7_drawn_73 : decode cX7_drawn 73 = .ok (.iconst 2, 1) := by decide +kernel
theorem dX7_drawn_74 : decode cX7_drawn 74 = .ok (.invokevirtual 186, 3) := by decide +kernel
theorem dX7_drawn_77 : decode cX7_drawn 77 = .ok (.invokestatic 288, 3) := by decide +kernel
theorem dX7_drawn_80 : decode cX7_drawn 80 = .ok (.ireturn, 1) := by decide +kernel
theorem dX7_image_0 : decode cX7_image 0 = .ok (.iload_n 1, 1) := by decide +kernel
theorem dX7_image_1 : decode cX7_image 1 = .ok (.iconst 0, 1) := by decide +kernel
theorem dX7_image_2 : decode cX7_image 2 = .ok (.iconst 1, 1) := by decide +kernel
theorem dX7_image_3 : decode cX7_image 3 = .ok (.invokestatic 71, 3) := by decide +kernel
theorem dX7_image_6 : decode cX7_image 6 = .ok (.ifCond .ne 6, 3) := by decide +kernel
theorem dX7_image_9 : decode cX7_image 9 = .ok (.ldc 75, 2) := by decide +kernel
theorem dX7_image_11 : decode cX7_image 11 = .ok (.ireturn, 1) := by decide +kernel
theorem dX7_image_12 : decode cX7_image 12 = .ok (.aload_n 0, 1) := by decide +kernel
theorem dX7_image_13 : decode cX7_image 13 = .ok (.getfield 33, 3) := by decide +kernel
theorem dX7_image_16 : decode cX7_image 16 = .ok (.invokevirtual 152, 3) := by decide +kernel
theorem dX7_image_19 : decode cX7_image 19 = .ok (.ifCond .ne 6, 3) := by decide +kernel
theorem dX7_image_22 : decode cX7_image 22 = .ok (.ldc 148, 2) := by decide +kernel
theorem dX7_image_24 : decode cX7_image 24 = .ok (.ireturn, 1) := by decide +kernel
theorem dX7_image_25 : decode cX7_image 25 = .ok (.aload_n 0, 1) := by decide +kernel
theorem dX7_image_26 : decode cX7_image 26 = .ok (.getfield 47, 3) := by decide +kernel
theorem dX7_image_29 : decode cX7_image 29 = .ok (.iload_n 1, 1) := by decide +kernel
theorem dX7_image_30 : decode cX7_image 30 = .ok (.aaload, 1) := by decide +kernel
theorem dX7_image_31 : decode cX7_image 31 = .ok (.aload_n 0, 1) := by decide +kernel
theorem dX7_image_32 : decode cX7_image 32 = .ok (.getfield 33, 3) := by decide +kernel
theorem dX7_image_35 : decode cX7_image 35 = .ok (.invokevirtual 135, 3) := by decide +kernel
theorem dX7_image_38 : decode cX7_image 38 = .ok (.iconst 1, 1) := by decide +kernel
theorem dX7_image_39 : decode cX7_image 39 = .ok (.ireturn, 1) := by decide +kernel
theorem dX7_restore_0 : decode cX7_restore 0 = .ok (.iload_n 1, 1) := by decide +kernel
theorem dX7_restore_1 : decode cX7_restore 1 = .ok (.iconst 0, 1) := by decide +kernel
theorem dX7_restore_2 : decode cX7_restore 2 = .ok (.iconst 1, 1) := by decide +kernel
theorem dX7_restore_3 : decode cX7_restore 3 = .ok (.invokestatic 71, 3) := by decide +kernel
theorem dX7_restore_6 : decode cX7_restore 6 = .ok (.ifCond .ne 6, 3) := by decide +kernel
theorem dX7_restore_9 : decode cX7_restore 9 = .ok (.ldc 75, 2) := by decide +kernel
theorem dX7_restore_11 : decode cX7_restore 11 = .ok (.ireturn, 1) := by decide +kernel
theorem dX7_restore_12 : decode cX7_restore 12 = .ok (.aload_n 0, 1) := by decide +kernel
theorem dX7_restore_13 : decode cX7_restore 13 = .ok (.getfield 47, 3) := by decide +kernel
theorem dX7_restore_16 : decode cX7_restore 16 = .ok (.iload_n 1, 1) := by decide +kernel
theorem dX7_restore_17 : decode cX7_restore 17 = .ok (.aaload, 1) := by decide +kernel
theorem dX7_restore_18 : decode cX7_restore 18 = .ok (.invokevirtual 152, 3) := by decide +kernel
theorem dX7_restore_21 : decode cX7_restore 21 = .ok (.ifCond .ne 6, 3) := by decide +kernel
theorem dX7_restore_24 : decode cX7_restore 24 = .ok (.ldc 148, 2) := by decide +kernel
theorem dX7_restore_26 : decode cX7_restore 26 = .ok (.ireturn, 1) := by decide +kernel
theorem dX7_restore_27 : decode cX7_restore 27 = .ok (.aload_n 0, 1) := by decide +kernel
theorem dX7_restore_28 : decode cX7_restore 28 = .ok (.getfield 33, 3) := by decide +kernel
theorem dX7_restore_31 : decode cX7_restore 31 = .ok (.aload_n 0, 1) := by decide +kernel
theorem dX7_restore_32 : decode cX7_restore 32 = .ok (.getfield 47, 3) := by decide +kernel
theorem dX7_restore_35 : decode cX7_restore 35 = .ok (.iload_n 1, 1) := by decide +kernel
theorem dX7_restore_36 : decode cX7_restore 36 = .ok (.aaload, 1) := by decide +kernel
theorem dX7_restore_37 : decode cX7_restore 37 = .ok (.invokevirtual 135, 3) := by decide +kernel
theorem dX7_restore_40 : decode cX7_restore 40 = .ok (.aload_n 0, 1) := by decide +kernel
theorem dX7_restore_41 : decode cX7_restore 41 = .ok (.getfield 41, 3) := by decide +kernel
theorem dX7_restore_44 : decode cX7_restore 44 = .ok (.invokevirtual 139, 3) := by decide +kernel
theorem dX7_restore_47 : decode cX7_restore 47 = .ok (.iconst 1, 1) := by decide +kernel
theorem dX7_restore_48 : decode cX7_restore 48 = .ok (.ireturn, 1) := by decide +kernel
theorem dX7_kind_0 : decode cX7_kind 0 = .ok (.aload_n 0, 1) := by decide +kernel
theorem dX7_kind_1 : decode cX7_kind 1 = .ok (.getfield 33, 3) := by decide +kernel
theorem dX7_kind_4 : decode cX7_kind 4 = .ok (.iload_n 1, 1) := by decide +kernel
theorem dX7_kind_5 : decode cX7_kind 5 = .ok (.invokevirtual 171, 3) := by decide +kernel
theorem dX7_kind_8 : decode cX7_kind 8 = .ok (.ifCond .ne 6, 3) := by decide +kernel
theorem dX7_kind_11 : decode cX7_kind 11 = .ok (.ldc 75, 2) := by decide +kernel
theorem dX7_kind_13 : decode cX7_kind 13 = .ok (.ireturn, 1) := by decide +kernel
theorem dX7_kind_14 : decode cX7_kind 14 = .ok (.aload_n 0, 1) := by decide +kernel
theorem dX7_kind_15 : decode cX7_kind 15 = .ok (.getfield 33, 3) := by decide +kernel
theorem dX7_kind_18 : decode cX7_kind 18 = .ok (.getfield 174, 3) := by decide +kernel
theorem dX7_kind_21 : decode cX7_kind 21 = .ok (.iload_n 1, 1) := by decide +kernel
theorem dX7_kind_22 : decode cX7_kind 22 = .ok (.aaload, 1) := by decide +kernel
theorem dX7_kind_23 : decode cX7_kind 23 = .ok (.getfield 293, 3) := by decide +kernel
theorem dX7_kind_26 : decode cX7_kind 26 = .ok (.ireturn, 1) := by decide +kernel
theorem dX7_as_0 : decode cX7_as 0 = .ok (.aload_n 0, 1) := by decide +kernel
theorem dX7_as_1 : decode cX7_as 1 = .ok (.getfield 33, 3) := by decide +kernel
theorem dX7_as_4 : decode cX7_as 4 = .ok (.iload_n 1, 1) := by decide +kernel
theorem dX7_as_5 : decode cX7_as 5 = .ok (.invokevirtual 171, 3) := by decide +kernel
theorem dX7_as_8 : decode cX7_as 8 = .ok (.ifCond .eq 12, 3) := by decide +kernel
theorem dX7_as_11 : decode cX7_as 11 = .ok (.iload_n 2, 1) := by decide +kernel
theorem dX7_as_12 : decode cX7_as 12 = .ok (.iconst 0, 1) := by decide +kernel
theorem dX7_as_13 : decode cX7_as 13 = .ok (.iconst 5, 1) := by decide +kernel
theorem dX7_as_14 : decode cX7_as 14 = .ok (.invokestatic 71, 3) := by decide +kernel
theorem dX7_as_17 : decode cX7_as 17 = .ok (.ifCond .ne 6, 3) := by decide +kernel
theorem dX7_as_20 : decode cX7_as 20 = .ok (.ldc 75, 2) := by decide +kernel
theorem dX7_as_22 : decode cX7_as 22 = .ok (.ireturn, 1) := by decide +kernel
theorem dX7_as_23 : decode cX7_as 23 = .ok (.aload_n 0, 1) := by decide +kernel
theorem dX7_as_24 : decode cX7_as 24 = .ok (.getfield 33, 3) := by decide +kernel
theorem dX7_as_27 : decode cX7_as 27 = .ok (.getfield 174, 3) := by decide +kernel
theorem dX7_as_30 : decode cX7_as 30 = .ok (.iload_n 1, 1) := by decide +kernel
theorem dX7_as_31 : decode cX7_as 31 = .ok (.aaload, 1) := by decide +kernel
theorem dX7_as_32 : decode cX7_as 32 = .ok (.iload_n 2, 1) := by decide +kernel
theorem dX7_as_33 : decode cX7_as 33 = .ok (.invokevirtual 296, 3) := by decide +kernel
theorem dX7_as_36 : decode cX7_as 36 = .ok (.ifCond .ne 9, 3) := by decide +kernel
theorem dX7_as_39 : decode cX7_as 39 = .ok (.aload_n 0, 1) := by decide +kernel
theorem dX7_as_40 : decode cX7_as 40 = .ok (.iconst 3, 1) := by decide +kernel
theorem dX7_as_41 : decode cX7_as 41 = .ok (.invokevirtual 76, 3) := by decide +kernel
theorem dX7_as_44 : decode cX7_as 44 = .ok (.ireturn, 1) := by decide +kernel
theorem dX7_as_45 : decode cX7_as 45 = .ok (.aload_n 0, 1) := by decide +kernel
theorem dX7_as_46 : decode cX7_as 46 = .ok (.iload_n 1, 1) := by decide +kernel
theorem dX7_as_47 : decode cX7_as 47 = .ok (.invokevirtual 84, 3) := by decide +kernel
theorem dX7_as_50 : decode cX7_as 50 = .ok (.ireturn, 1) := by decide +kernel
theorem dX7_ask_0 : decode cX7_ask 0 = .ok (.aload_n 0, 1) := by decide +kernel
theorem dX7_ask_1 : decode cX7_ask 1 = .ok (.getfield 33, 3) := by decide +kernel
theorem dX7_ask_4 : decode cX7_ask 4 = .ok (.iload_n 1, 1) := by decide +kernel
theorem dX7_ask_5 : decode cX7_ask 5 = .ok (.invokevirtual 171, 3) := by decide +kernel
theorem dX7_ask_8 : decode cX7_ask 8 = .ok (.ifCond .eq 12, 3) := by decide +kernel
theorem dX7_ask_11 : decode cX7_ask 11 = .ok (.iload_n 2, 1) := by decide +kernel
theorem dX7_ask_12 : decode cX7_ask 12 = .ok (.iconst 0, 1) := by decide +kernel
theorem dX7_ask_13 : decode cX7_ask 13 = .ok (.iconst 1, 1) := by decide +kernel
theorem dX7_ask_14 : decode cX7_ask 14 = .ok (.invokestatic 71, 3) := by decide +kernel
theorem dX7_ask_17 : decode cX7_ask 17 = .ok (.ifCond .ne 6, 3) := by decide +kernel
theorem dX7_ask_20 : decode cX7_ask 20 = .ok (.ldc 75, 2) := by decide +kernel
theorem dX7_ask_22 : decode cX7_ask 22 = .ok (.ireturn, 1) := by decide +kernel
theorem dX7_ask_23 : decode cX7_ask 23 = .ok (.aload_n 0, 1) := by decide +kernel
theorem dX7_ask_24 : decode cX7_ask 24 = .ok (.getfield 33, 3) := by decide +kernel
theorem dX7_ask_27 : decode cX7_ask 27 = .ok (.getfield 174, 3) := by decide +kernel
theorem dX7_ask_30 : decode cX7_ask 30 = .ok (.iload_n 1, 1) := by decide +kernel
theorem dX7_ask_31 : decode cX7_ask 31 = .ok (.aaload, 1) := by decide +kernel
theorem dX7_ask_32 : decode cX7_ask 32 = .ok (.astore_n 3, 1) := by decide +kernel
theorem dX7_ask_33 : decode cX7_ask 33 = .ok (.aload_n 0, 1) := by decide +kernel
theorem dX7_ask_34 : decode cX7_ask 34 = .ok (.getfield 54, 3) := by decide +kernel
theorem dX7_ask_37 : decode cX7_ask 37 = .ok (.iload_n 2, 1) := by decide +kernel
theorem dX7_ask_38 : decode cX7_ask 38 = .ok (.ifCond .ne 10, 3) := by decide +kernel
theorem dX7_ask_41 : decode cX7_ask 41 = .ok (.aload_n 3, 1) := by decide +kernel
theorem dX7_ask_42 : decode cX7_ask 42 = .ok (.invokevirtual 299, 3) := by decide +kernel
theorem dX7_ask_45 : decode cX7_ask 45 = .ok (.goto 7, 3) := by decide +kernel
theorem dX7_ask_48 : decode cX7_ask 48 = .ok (.aload_n 3, 1) := by decide +kernel
theorem dX7_ask_49 : decode cX7_ask 49 = .ok (.invokevirtual 302, 3) := by decide +kernel
theorem dX7_ask_52 : decode cX7_ask 52 = .ok (.aload_n 3, 1) := by decide +kernel
theorem dX7_ask_53 : decode cX7_ask 53 = .ok (.iload_n 1, 1) := by decide +kernel
theorem dX7_ask_54 : decode cX7_ask 54 = .ok (.invokevirtual 305, 3) := by decide +kernel
theorem dX7_ask_57 : decode cX7_ask 57 = .ok (.ireturn, 1) := by decide +kernel
theorem dX7_trace_0 : decode cX7_trace 0 = .ok (.aload_n 0, 1) := by decide +kernel
theorem dX7_trace_1 : decode cX7_trace 1 = .ok (.getfield 54, 3) := by decide +kernel
theorem dX7_trace_4 : decode cX7_trace 4 = .ok (.iload_n 1, 1) := by decide +kernel
theorem dX7_trace_5 : decode cX7_trace 5 = .ok (.invokevirtual 308, 3) := by decide +kernel
theorem dX7_trace_8 : decode cX7_trace 8 = .ok (.ireturn, 1) := by decide +kernel
theorem dX7_count_0 : decode cX7_count 0 = .ok (.iload_n 1, 1) := by decide +kernel
theorem dX7_count_1 : decode cX7_count 1 = .ok (.tableswitch 116 0 7 #[47, 52, 60, 68, 76, 88, 100, 108], 47) := by decide +kernel
theorem dX7_count_48 : decode cX7_count 48 = .ok (.aload_n 0, 1) := by decide +kernel
theorem dX7_count_49 : decode cX7_count 49 = .ok (.invokevirtual 311, 3) := by decide +kernel
theorem dX7_count_52 : decode cX7_count 52 = .ok (.ireturn, 1) := by decide +kernel
theorem dX7_count_53 : decode cX7_count 53 = .ok (.aload_n 0, 1) := by decide +kernel
theorem dX7_count_54 : decode cX7_count 54 = .ok (.getfield 33, 3) := by decide +kernel
theorem dX7_count_57 : decode cX7_count 57 = .ok (.getfield 142, 3) := by decide +kernel
theorem dX7_count_60 : decode cX7_count 60 = .ok (.ireturn, 1) := by decide +kernel
theorem dX7_count_61 : decode cX7_count 61 = .ok (.aload_n 0, 1) := by decide +kernel
theorem dX7_count_62 : decode cX7_count 62 = .ok (.getfield 33, 3) := by decide +kernel
theorem dX7_count_65 : decode cX7_count 65 = .ok (.getfield 314, 3) := by decide +kernel
theorem dX7_count_68 : decode cX7_count 68 = .ok (.ireturn, 1) := by decide +kernel
theorem dX7_count_69 : decode cX7_count 69 = .ok (.aload_n 0, 1) := by decide +kernel
theorem dX7_count_70 : decode cX7_count 70 = .ok (.getfield 33, 3) := by decide +kernel
theorem dX7_count_73 : decode cX7_count 73 = .ok (.getfield 155, 3) := by decide +kernel
theorem dX7_count_76 : decode cX7_count 76 = .ok (.ireturn, 1) := by decide +kernel
theorem dX7_count_77 : decode cX7_count 77 = .ok (.aload_n 0, 1) := by decide +kernel
theorem dX7_count_78 : decode cX7_count 78 = .ok (.getfield 33, 3) := by decide +kernel
theorem dX7_count_81 : decode cX7_count 81 = .ok (.iconst 1, 1) := by decide +kernel
theorem dX7_count_82 : decode cX7_count 82 = .ok (.invokevirtual 186, 3) := by decide +kernel
theorem dX7_count_85 : decode cX7_count 85 = .ok (.invokestatic 288, 3) := by decide +kernel
theorem dX7_count_88 : decode cX7_count 88 = .ok (.ireturn, 1) := by decide +kernel
theorem dX7_count_89 : decode cX7_count 89 = .ok (.aload_n 0, 1) := by decide +kernel
theorem dX7_count_90 : decode cX7_count 90 = .ok (.getfield 33, 3) := by decide +kernel
theorem dX7_count_93 : decode cX7_count 93 = .ok (.iconst 2, 1) := by decide +kernel
theorem dX7_count_94 : decode cX7_count 94 = .ok (.invokevirtual 186, 3) := by decide +kernel
theorem dX7_count_97 : decode cX7_count 97 = .ok (.invokestatic 288, 3) := by decide +kernel
theorem dX7_count_100 : decode cX7_count 100 = .ok (.ireturn, 1) := by decide +kernel
theorem dX7_count_101 : decode cX7_count 101 = .ok (.aload_n 0, 1) := by decide +kernel
theorem dX7_count_102 : decode cX7_count 102 = .ok (.getfield 41, 3) := by decide +kernel
theorem dX7_count_105 : decode cX7_count 105 = .ok (.getfield 145, 3) := by decide +kernel
theorem dX7_count_108 : decode cX7_count 108 = .ok (.ireturn, 1) := by decide +kernel
theorem dX7_count_109 : decode cX7_count 109 = .ok (.aload_n 0, 1) := by decide +kernel
theorem dX7_count_110 : decode cX7_count 110 = .ok (.getfield 18, 3) := by decide +kernel
theorem dX7_count_113 : decode cX7_count 113 = .ok (.getfield 118, 3) := by decide +kernel
theorem dX7_count_116 : decode cX7_count 116 = .ok (.ireturn, 1) := by decide +kernel
theorem dX7_count_117 : decode cX7_count 117 = .ok (.ldc 75, 2) := by decide +kernel
theorem dX7_count_119 : decode cX7_count 119 = .ok (.ireturn, 1) := by decide +kernel
theorem dX7_status_0 : decode cX7_status 0 = .ok (.aload_n 0, 1) := by decide +kernel
theorem dX7_status_1 : decode cX7_status 1 = .ok (.getfield 62, 3) := by decide +kernel
theorem dX7_status_4 : decode cX7_status 4 = .ok (.ireturn, 1) := by decide +kernel
theorem dX7_found_0 : decode cX7_found 0 = .ok (.aload_n 0, 1) := by decide +kernel
theorem dX7_found_1 : decode cX7_found 1 = .ok (.iload_n 1, 1) := by decide +kernel
theorem dX7_found_2 : decode cX7_found 2 = .ok (.putfield 62, 3) := by decide +kernel
theorem dX7_found_5 : decode cX7_found 5 = .ok (.ldc_w 317, 3) := by decide +kernel
theorem dX7_found_8 : decode cX7_found 8 = .ok (.iload_n 1, 1) := by decide +kernel
theorem dX7_found_9 : decode cX7_found 9 = .ok (.isub, 1) := by decide +kernel
theorem dX7_found_10 : decode cX7_found 10 = .ok (.ireturn, 1) := by decide +kernel
theorem dX7_unfound_0 : decode cX7_unfound 0 = .ok (.aload_n 0, 1) := by decide +kernel
theorem dX7_unfound_1 : decode cX7_unfound 1 = .ok (.iconst 0, 1) := by decide +kernel
theorem dX7_unfound_2 : decode cX7_unfound 2 = .ok (.putfield 62, 3) := by decide +kernel
theorem dX7_unfound_5 : decode cX7_unfound 5 = .ok (.iload_n 1, 1) := by decide +kernel
theorem dX7_unfound_6 : decode cX7_unfound 6 = .ok (.ireturn, 1) := by decide +kernel
theorem dX7_watchRow_0 : decode cX7_watchRow 0 = .ok (.aload_n 0, 1) := by decide +kernel
theorem dX7_watchRow_1 : decode cX7_watchRow 1 = .ok (.getfield 11, 3) := by decide +kernel
theorem dX7_watchRow_4 : decode cX7_watchRow 4 = .ok (.iload_n 2, 1) := by decide +kernel
theorem dX7_watchRow_5 : decode cX7_watchRow 5 = .ok (.aaload, 1) := by decide +kernel
theorem dX7_watchRow_6 : decode cX7_watchRow 6 = .ok (.invokevirtual 87, 3) := by decide +kernel
theorem dX7_watchRow_9 : decode cX7_watchRow 9 = .ok (.ifCond .eq 5, 3) := by decide +kernel
theorem dX7_watchRow_12 : decode cX7_watchRow 12 = .ok (.iconst 1, 1) := by decide +kernel
theorem dX7_watchRow_13 : decode cX7_watchRow 13 = .ok (.ireturn, 1) := by decide +kernel
theorem dX7_watchRow_14 : decode cX7_watchRow 14 = .ok (.aload_n 0, 1) := by decide +kernel
theorem dX7_watchRow_15 : decode cX7_watchRow 15 = .ok (.getfield 11, 3) := by decide +kernel
theorem dX7_watchRow_18 : decode cX7_watchRow 18 = .ok (.iload_n 2, 1) := by decide +kernel
theorem dX7_watchRow_19 : decode cX7_watchRow 19 = .ok (.aaload, 1) := by decide +kernel
theorem dX7_watchRow_20 : decode cX7_watchRow 20 = .ok (.iload_n 3, 1) := by decide +kernel
theorem dX7_watchRow_21 : decode cX7_watchRow 21 = .ok (.iload 4, 2) := by decide +kernel
theorem dX7_watchRow_23 : decode cX7_watchRow 23 = .ok (.invokevirtual 91, 3) := by decide +kernel
theorem dX7_watchRow_26 : decode cX7_watchRow 26 = .ok (.ifCond .ne 5, 3) := by decide +kernel
theorem dX7_watchRow_29 : decode cX7_watchRow 29 = .ok (.iconst 2, 1) := by decide +kernel
theorem dX7_watchRow_30 : decode cX7_watchRow 30 = .ok (.ireturn, 1) := by decide +kernel
theorem dX7_watchRow_31 : decode cX7_watchRow 31 = .ok (.aload_n 0, 1) := by decide +kernel
theorem dX7_watchRow_32 : decode cX7_watchRow 32 = .ok (.getfield 25, 3) := by decide +kernel
theorem dX7_watchRow_35 : decode cX7_watchRow 35 = .ok (.iload_n 1, 1) := by decide +kernel
theorem dX7_watchRow_36 : decode cX7_watchRow 36 = .ok (.aload_n 0, 1) := by decide +kernel
theorem dX7_watchRow_37 : decode cX7_watchRow 37 = .ok (.getfield 11, 3) := by decide +kernel
theorem dX7_watchRow_40 : decode cX7_watchRow 40 = .ok (.iload_n 2, 1) := by decide +kernel
theorem dX7_watchRow_41 : decode cX7_watchRow 41 = .ok (.aaload, 1) := by decide +kernel
theorem dX7_watchRow_42 : decode cX7_watchRow 42 = .ok (.iload_n 3, 1) := by decide +kernel
theorem dX7_watchRow_43 : decode cX7_watchRow 43 = .ok (.iload 4, 2) := by decide +kernel
theorem dX7_watchRow_45 : decode cX7_watchRow 45 = .ok (.invokevirtual 318, 3) := by decide +kernel
theorem dX7_watchRow_48 : decode cX7_watchRow 48 = .ok (.iconst 0, 1) := by decide +kernel
theorem dX7_watchRow_49 : decode cX7_watchRow 49 = .ok (.ireturn, 1) := by decide +kernel
theorem dX7_isRow_0 : decode cX7_isRow 0 = .ok (.iload_n 0, 1) := by decide +kernel
theorem dX7_isRow_1 : decode cX7_isRow 1 = .ok (.iconst 0, 1) := by decide +kernel
theorem dX7_isRow_2 : decode cX7_isRow 2 = .ok (.bipush 7, 2) := by decide +kernel
theorem dX7_isRow_4 : decode cX7_isRow 4 = .ok (.invokestatic 71, 3) := by decide +kernel
theorem dX7_isRow_7 : decode cX7_isRow 7 = .ok (.ireturn, 1) := by decide +kernel
theorem dX7_rowCount_0 : decode cX7_rowCount 0 = .ok (.iconst 0, 1) := by decide +kernel
theorem dX7_rowCount_1 : decode cX7_rowCount 1 = .ok (.istore_n 1, 1) := by decide +kernel
theorem dX7_rowCount_2 : decode cX7_rowCount 2 = .ok (.iconst 0, 1) := by decide +kernel
theorem dX7_rowCount_3 : decode cX7_rowCount 3 = .ok (.istore_n 2, 1) := by decide +kernel
theorem dX7_rowCount_4 : decode cX7_rowCount 4 = .ok (.iload_n 2, 1) := by decide +kernel
theorem dX7_rowCount_5 : decode cX7_rowCount 5 = .ok (.bipush 8, 2) := by decide +kernel
theorem dX7_rowCount_7 : decode cX7_rowCount 7 = .ok (.if_icmp .ge 24, 3) := by decide +kernel
theorem dX7_rowCount_10 : decode cX7_rowCount 10 = .ok (.aload_n 0, 1) := by decide +kernel
theorem dX7_rowCount_11 : decode cX7_rowCount 11 = .ok (.getfield 11, 3) := by decide +kernel
theorem dX7_rowCount_14 : decode cX7_rowCount 14 = .ok (.iload_n 2, 1) := by decide +kernel
theorem dX7_rowCount_15 : decode cX7_rowCount 15 = .ok (.aaload, 1) := by decide +kernel
theorem dX7_rowCount_16 : decode cX7_rowCount 16 = .ok (.invokevirtual 87, 3) := by decide +kernel
theorem dX7_rowCount_19 : decode cX7_rowCount 19 = .ok (.ifCond .ne 6, 3) := by decide +kernel
theorem dX7_rowCount_22 : decode cX7_rowCount 22 = .ok (.iinc 1 1, 3) := by decide +kernel
theorem dX7_rowCount_25 : decode cX7_rowCount 25 = .ok (.iinc 2 1, 3) := by decide +kernel
theorem dX7_rowCount_28 : decode cX7_rowCount 28 = .ok (.goto (-24), 3) := by decide +kernel
theorem dX7_rowCount_31 : decode cX7_rowCount 31 = .ok (.iload_n 1, 1) := by decide +kernel
theorem dX7_rowCount_32 : decode cX7_rowCount 32 = .ok (.ireturn, 1) := by decide +kernel
theorem dX7_isWithin_0 : decode cX7_isWithin 0 = .ok (.iload_n 0, 1) := by decide +kernel
theorem dX7_isWithin_1 : decode cX7_isWithin 1 = .ok (.iload_n 1, 1) := by decide +kernel
theorem dX7_isWithin_2 : decode cX7_isWithin 2 = .ok (.if_icmp .lt 12, 3) := by decide +kernel
theorem dX7_isWithin_5 : decode cX7_isWithin 5 = .ok (.iload_n 0, 1) := by decide +kernel
theorem dX7_isWithin_6 : decode cX7_isWithin 6 = .ok (.iload_n 2, 1) := by decide +kernel
theorem dX7_isWithin_7 : decode cX7_isWithin 7 = .ok (.if_icmp .gt 7, 3) := by decide +kernel
theorem dX7_isWithin_10 : decode cX7_isWithin 10 = .ok (.iconst 1, 1) := by decide +kernel
theorem dX7_isWithin_11 : decode cX7_isWithin 11 = .ok (.goto 4, 3) := by decide +kernel
theorem dX7_isWithin_14 : decode cX7_isWithin 14 = .ok (.iconst 0, 1) := by decide +kernel
theorem dX7_isWithin_15 : decode cX7_isWithin 15 = .ok (.ireturn, 1) := by decide +kernel
theorem dX7_power_0 : decode cX7_power 0 = .ok (.lconst 1, 1) := by decide +kernel
theorem dX7_power_1 : decode cX7_power 1 = .ok (.lstore_n 3, 1) := by decide +kernel
theorem dX7_power_2 : decode cX7_power 2 = .ok (.iconst 0, 1) := by decide +kernel
theorem dX7_power_3 : decode cX7_power 3 = .ok (.istore 5, 2) := by decide +kernel
theorem dX7_power_5 : decode cX7_power 5 = .ok (.iload 5, 2) := by decide +kernel
theorem dX7_power_7 : decode cX7_power 7 = .ok (.iload_n 2, 1) := by decide +kernel
theorem dX7_power_8 : decode cX7_power 8 = .ok (.if_icmp .ge 13, 3) := by decide +kernel
theorem dX7_power_11 : decode cX7_power 11 = .ok (.lload_n 3, 1) := by decide +kernel
theorem dX7_power_12 : decode cX7_power 12 = .ok (.lload_n 0, 1) := by decide +kernel
theorem dX7_power_13 : decode cX7_power 13 = .ok (.lmul, 1) := by decide +kernel
theorem dX7_power_14 : decode cX7_power 14 = .ok (.lstore_n 3, 1) := by decide +kernel
theorem dX7_power_15 : decode cX7_power 15 = .ok (.iinc 5 1, 3) := by decide +kernel
theorem dX7_power_18 : decode cX7_power 18 = .ok (.goto (-13), 3) := by decide +kernel
theorem dX7_power_21 : decode cX7_power 21 = .ok (.lload_n 3, 1) := by decide +kernel
theorem dX7_power_22 : decode cX7_power 22 = .ok (.lreturn, 1) := by decide +kernel
theorem dX7_greatestDivisor_0 : decode cX7_greatestDivisor 0 = .ok (.iconst 0, 1) := by decide +kernel
theorem dX7_greatestDivisor_1 : decode cX7_greatestDivisor 1 = .ok (.istore 4, 2) := by decide +kernel
theorem dX7_greatestDivisor_3 : decode cX7_greatestDivisor 3 = .ok (.iload 4, 2) := by decide +kernel
theorem dX7_greatestDivisor_5 : decode cX7_greatestDivisor 5 = .ok (.bipush 100, 2) := by decide +kernel
theorem dX7_greatestDivisor_7 : decode cX7_greatestDivisor 7 = .ok (.if_icmp .ge 25, 3) := by decide +kernel
theorem dX7_greatestDivisor_10 : decode cX7_greatestDivisor 10 = .ok (.lload_n 2, 1) := by decide +kernel
theorem dX7_greatestDivisor_11 : decode cX7_greatestDivisor 11 = .ok (.lconst 0, 1) := by decide +kernel
theorem dX7_greatestDivisor_12 : decode cX7_greatestDivisor 12 = .ok (.lcmp, 1) := by decide +kernel
theorem dX7_greatestDivisor_13 : decode cX7_greatestDivisor 13 = .ok (.ifCond .eq 19, 3) := by decide +kernel
theorem dX7_greatestDivisor_16 : decode cX7_greatestDivisor 16 = .ok (.lload_n 0, 1) := by decide +kernel
theorem dX7_greatestDivisor_17 : decode cX7_greatestDivisor 17 = .ok (.lload_n 2, 1) := by decide +kernel
theorem dX7_greatestDivisor_18 : decode cX7_greatestDivisor 18 = .ok (.lrem, 1) := by decide +kernel
theorem dX7_greatestDivisor_19 : decode cX7_greatestDivisor 19 = .ok (.lstore 5, 2) := by decide +kernel
theorem dX7_greatestDivisor_21 : decode cX7_greatestDivisor 21 = .ok (.lload_n 2, 1) := by decide +kernel
theorem dX7_greatestDivisor_22 : decode cX7_greatestDivisor 22 = .ok (.lstore_n 0, 1) := by decide +kernel
theorem dX7_greatestDivisor_23 : decode cX7_greatestDivisor 23 = .ok (.lload 5, 2) := by decide +kernel
theorem dX7_greatestDivisor_25 : decode cX7_greatestDivisor 25 = .ok (.lstore_n 2, 1) := by decide +kernel
theorem dX7_greatestDivisor_26 : decode cX7_greatestDivisor 26 = .ok (.iinc 4 1, 3) := by decide +kernel
theorem dX7_greatestDivisor_29 : decode cX7_greatestDivisor 29 = .ok (.goto (-26), 3) := by decide +kernel
theorem dX7_greatestDivisor_32 : decode cX7_greatestDivisor 32 = .ok (.lload_n 0, 1) := by decide +kernel
theorem dX7_greatestDivisor_33 : decode cX7_greatestDivisor 33 = .ok (.lreturn, 1) := by decide +kernel
theorem dJ6_bitCount_0f7a4_0 : decode cJ6_bitCount_0f7a4 0 = .ok (.iload_n 0, 1) := by decide +kernel
theorem dJ6_bitCount_0f7a4_1 : decode cJ6_bitCount_0f7a4 1 = .ok (.iload_n 0, 1) := by decide +kernel
theorem dJ6_bitCount_0f7a4_2 : decode cJ6_bitCount_0f7a4 2 = .ok (.iconst 1, 1) := by decide +kernel
theorem dJ6_bitCount_0f7a4_3 : decode cJ6_bitCount_0f7a4 3 = .ok (.iushr, 1) := by decide +kernel
theorem dJ6_bitCount_0f7a4_4 : decode cJ6_bitCount_0f7a4 4 = .ok (.ldc_w 265, 3) := by decide +kernel
theorem dJ6_bitCount_0f7a4_7 : decode cJ6_bitCount_0f7a4 7 = .ok (.iand, 1) := by decide +kernel
theorem dJ6_bitCount_0f7a4_8 : decode cJ6_bitCount_0f7a4 8 = .ok (.isub, 1) := by decide +kernel
theorem dJ6_bitCount_0f7a4_9 : decode cJ6_bitCount_0f7a4 9 = .ok (.istore_n 0, 1) := by decide +kernel
theorem dJ6_bitCount_0f7a4_10 : decode cJ6_bitCount_0f7a4 10 = .ok (.iload_n 0, 1) := by decide +kernel
theorem dJ6_bitCount_0f7a4_11 : decode cJ6_bitCount_0f7a4 11 = .ok (.ldc_w 266, 3) := by decide +kernel
theorem dJ6_bitCount_0f7a4_14 : decode cJ6_bitCount_0f7a4 14 = .ok (.iand, 1) := by decide +kernel
theorem dJ6_bitCount_0f7a4_15 : decode cJ6_bitCount_0f7a4 15 = .ok (.iload_n 0, 1) := by decide +kernel
theorem dJ6_bitCount_0f7a4_16 : decode cJ6_bitCount_0f7a4 16 = .ok (.iconst 2, 1) := by decide +kernel
theorem dJ6_bitCount_0f7a4_17 : decode cJ6_bitCount_0f7a4 17 = .ok (.iushr, 1) := by decide +kernel
theorem dJ6_bitCount_0f7a4_18 : decode cJ6_bitCount_0f7a4 18 = .ok (.ldc_w 266, 3) := by decide +kernel
theorem dJ6_bitCount_0f7a4_21 : decode cJ6_bitCount_0f7a4 21 = .ok (.iand, 1) := by decide +kernel
theorem dJ6_bitCount_0f7a4_22 : decode cJ6_bitCount_0f7a4 22 = .ok (.iadd, 1) := by decide +kernel
theorem dJ6_bitCount_0f7a4_23 : decode cJ6_bitCount_0f7a4 23 = .ok (.istore_n 0, 1) := by decide +kernel
theorem dJ6_bitCount_0f7a4_24 : decode cJ6_bitCount_0f7a4 24 = .ok (.iload_n 0, 1) := by decide +kernel
theorem dJ6_bitCount_0f7a4_25 : decode cJ6_bitCount_0f7a4 25 = .ok (.iload_n 0, 1) := by decide +kernel
theorem dJ6_bitCount_0f7a4_26 : decode cJ6_bitCount_0f7a4 26 = .ok (.iconst 4, 1) := by decide +kernel
theorem dJ6_bitCount_0f7a4_27 : decode cJ6_bitCount_0f7a4 27 = .ok (.iushr, 1) := by decide +kernel
theorem dJ6_bitCount_0f7a4_28 : decode cJ6_bitCount_0f7a4 28 = .ok (.iadd, 1) := by decide +kernel
theorem dJ6_bitCount_0f7a4_29 : decode cJ6_bitCount_0f7a4 29 = .ok (.ldc_w 267, 3) := by decide +kernel
theorem dJ6_bitCount_0f7a4_32 : decode cJ6_bitCount_0f7a4 32 = .ok (.iand, 1) := by decide +kernel
theorem dJ6_bitCount_0f7a4_33 : decode cJ6_bitCount_0f7a4 33 = .ok (.istore_n 0, 1) := by decide +kernel
theorem dJ6_bitCount_0f7a4_34 : decode cJ6_bitCount_0f7a4 34 = .ok (.iload_n 0, 1) := by decide +kernel
theorem dJ6_bitCount_0f7a4_35 : decode cJ6_bitCount_0f7a4 35 = .ok (.iload_n 0, 1) := by decide +kernel
theorem dJ6_bitCount_0f7a4_36 : decode cJ6_bitCount_0f7a4 36 = .ok (.bipush 8, 2) := by decide +kernel
theorem dJ6_bitCount_0f7a4_38 : decode cJ6_bitCount_0f7a4 38 = .ok (.iushr, 1) := by decide +kernel
theorem dJ6_bitCount_0f7a4_39 : decode cJ6_bitCount_0f7a4 39 = .ok (.iadd, 1) := by decide +kernel
theorem dJ6_bitCount_0f7a4_40 : decode cJ6_bitCount_0f7a4 40 = .ok (.istore_n 0, 1) := by decide +kernel
theorem dJ6_bitCount_0f7a4_41 : decode cJ6_bitCount_0f7a4 41 = .ok (.iload_n 0, 1) := by decide +kernel
theorem dJ6_bitCount_0f7a4_42 : decode cJ6_bitCount_0f7a4 42 = .ok (.iload_n 0, 1) := by decide +kernel
theorem dJ6_bitCount_0f7a4_43 : decode cJ6_bitCount_0f7a4 43 = .ok (.bipush 16, 2) := by decide +kernel
theorem dJ6_bitCount_0f7a4_45 : decode cJ6_bitCount_0f7a4 45 = .ok (.iushr, 1) := by decide +kernel
theorem dJ6_bitCount_0f7a4_46 : decode cJ6_bitCount_0f7a4 46 = .ok (.iadd, 1) := by decide +kernel
theorem dJ6_bitCount_0f7a4_47 : decode cJ6_bitCount_0f7a4 47 = .ok (.istore_n 0, 1) := by decide +kernel
theorem dJ6_bitCount_0f7a4_48 : decode cJ6_bitCount_0f7a4 48 = .ok (.iload_n 0, 1) := by decide +kernel
theorem dJ6_bitCount_0f7a4_49 : decode cJ6_bitCount_0f7a4 49 = .ok (.bipush 63, 2) := by decide +kernel
theorem dJ6_bitCount_0f7a4_51 : decode cJ6_bitCount_0f7a4 51 = .ok (.iand, 1) := by decide +kernel
theorem dJ6_bitCount_0f7a4_52 : decode cJ6_bitCount_0f7a4 52 = .ok (.ireturn, 1) := by decide +kernel
theorem dJ9_max_7cf53_0 : decode cJ9_max_7cf53 0 = .ok (.iload_n 0, 1) := by decide +kernel
theorem dJ9_max_7cf53_1 : decode cJ9_max_7cf53 1 = .ok (.iload_n 1, 1) := by decide +kernel
theorem dJ9_max_7cf53_2 : decode cJ9_max_7cf53 2 = .ok (.if_icmp .lt 7, 3) := by decide +kernel
theorem dJ9_max_7cf53_5 : decode cJ9_max_7cf53 5 = .ok (.iload_n 0, 1) := by decide +kernel
theorem dJ9_max_7cf53_6 : decode cJ9_max_7cf53 6 = .ok (.goto 4, 3) := by decide +kernel
theorem dJ9_max_7cf53_9 : decode cJ9_max_7cf53 9 = .ok (.iload_n 1, 1) := by decide +kernel
theorem dJ9_max_7cf53_10 : decode cJ9_max_7cf53 10 = .ok (.ireturn, 1) := by decide +kernel
theorem dJ9_min_7cf53_0 : decode cJ9_min_7cf53 0 = .ok (.iload_n 0, 1) := by decide +kernel
theorem dJ9_min_7cf53_1 : decode cJ9_min_7cf53 1 = .ok (.iload_n 1, 1) := by decide +kernel
theorem dJ9_min_7cf53_2 : decode cJ9_min_7cf53 2 = .ok (.if_icmp .gt 7, 3) := by decide +kernel
theorem dJ9_min_7cf53_5 : decode cJ9_min_7cf53 5 = .ok (.iload_n 0, 1) := by decide +kernel
theorem dJ9_min_7cf53_6 : decode cJ9_min_7cf53 6 = .ok (.goto 4, 3) := by decide +kernel
theorem dJ9_min_7cf53_9 : decode cJ9_min_7cf53 9 = .ok (.iload_n 1, 1) := by decide +kernel
theorem dJ9_min_7cf53_10 : decode cJ9_min_7cf53 10 = .ok (.ireturn, 1) := by decide +kernel
