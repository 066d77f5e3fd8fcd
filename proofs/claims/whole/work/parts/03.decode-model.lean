theorem dX4_init_0 : decode cX4_init 0 = .ok (.aload_n 0, 1) := by decide +kernel
theorem dX4_init_1 : decode cX4_init 1 = .ok (.invokespecial 1, 3) := by decide +kernel
theorem dX4_init_4 : decode cX4_init 4 = .ok (.aload_n 0, 1) := by decide +kernel
theorem dX4_init_5 : decode cX4_init 5 = .ok (.iconst 5, 1) := by decide +kernel
theorem dX4_init_6 : decode cX4_init 6 = .ok (.newarray .int, 2) := by decide +kernel
theorem dX4_init_8 : decode cX4_init 8 = .ok (.putfield 7, 3) := by decide +kernel
theorem dX4_init_11 : decode cX4_init 11 = .ok (.aload_n 0, 1) := by decide +kernel
theorem dX4_init_12 : decode cX4_init 12 = .ok (.iconst 5, 1) := by decide +kernel
theorem dX4_init_13 : decode cX4_init 13 = .ok (.newarray .int, 2) := by decide +kernel
theorem dX4_init_15 : decode cX4_init 15 = .ok (.putfield 13, 3) := by decide +kernel
theorem dX4_init_18 : decode cX4_init 18 = .ok (.aload_n 0, 1) := by decide +kernel
theorem dX4_init_19 : decode cX4_init 19 = .ok (.bipush 30, 2) := by decide +kernel
theorem dX4_init_21 : decode cX4_init 21 = .ok (.newarray .int, 2) := by decide +kernel
theorem dX4_init_23 : decode cX4_init 23 = .ok (.putfield 16, 3) := by decide +kernel
theorem dX4_init_26 : decode cX4_init 26 = .ok (.aload_n 0, 1) := by decide +kernel
theorem dX4_init_27 : decode cX4_init 27 = .ok (.bipush 30, 2) := by decide +kernel
theorem dX4_init_29 : decode cX4_init 29 = .ok (.newarray .int, 2) := by decide +kernel
theorem dX4_init_31 : decode cX4_init 31 = .ok (.putfield 19, 3) := by decide +kernel
theorem dX4_init_34 : decode cX4_init 34 = .ok (.aload_n 0, 1) := by decide +kernel
theorem dX4_init_35 : decode cX4_init 35 = .ok (.bipush 120, 2) := by decide +kernel
theorem dX4_init_37 : decode cX4_init 37 = .ok (.newarray .int, 2) := by decide +kernel
theorem dX4_init_39 : decode cX4_init 39 = .ok (.putfield 22, 3) := by decide +kernel
theorem dX4_init_42 : decode cX4_init 42 = .ok (.aload_n 0, 1) := by decide +kernel
theorem dX4_init_43 : decode cX4_init 43 = .ok (.bipush 120, 2) := by decide +kernel
theorem dX4_init_45 : decode cX4_init 45 = .ok (.newarray .int, 2) := by decide +kernel
theorem dX4_init_47 : decode cX4_init 47 = .ok (.putfield 25, 3) := by decide +kernel
theorem dX4_init_50 : decode cX4_init 50 = .ok (.aload_n 0, 1) := by decide +kernel
theorem dX4_init_51 : decode cX4_init 51 = .ok (.bipush 120, 2) := by decide +kernel
theorem dX4_init_53 : decode cX4_init 53 = .ok (.newarray .int, 2) := by decide +kernel
theorem dX4_init_55 : decode cX4_init 55 = .ok (.putfield 28, 3) := by decide +kernel
theorem dX4_init_58 : decode cX4_init 58 = .ok (.aload_n 0, 1) := by decide +kernel
theorem dX4_init_59 : decode cX4_init 59 = .ok (.bipush 120, 2) := by decide +kernel
theorem dX4_init_61 : decode cX4_init 61 = .ok (.newarray .int, 2) := by decide +kernel
theorem dX4_init_63 : decode cX4_init 63 = .ok (.putfield 31, 3) := by decide +kernel
theorem dX4_init_66 : decode cX4_init 66 = .ok (.aload_n 0, 1) := by decide +kernel
theorem dX4_init_67 : decode cX4_init 67 = .ok (.bipush 120, 2) := by decide +kernel
theorem dX4_init_69 : decode cX4_init 69 = .ok (.newarray .int, 2) := by decide +kernel
theorem dX4_init_71 : decode cX4_init 71 = .ok (.putfield 34, 3) := by decide +kernel
theorem dX4_init_74 : decode cX4_init 74 = .ok (.aload_n 0, 1) := by decide +kernel
theorem dX4_init_75 : decode cX4_init 75 = .ok (.bipush 120, 2) := by decide +kernel
theorem dX4_init_77 : decode cX4_init 77 = .ok (.newarray .int, 2) := by decide +kernel
theorem dX4_init_79 : decode cX4_init 79 = .ok (.putfield 37, 3) := by decide +kernel
theorem dX4_init_82 : decode cX4_init 82 = .ok (.aload_n 0, 1) := by decide +kernel
theorem dX4_init_83 : decode cX4_init 83 = .ok (.bipush 120, 2) := by decide +kernel
theorem dX4_init_85 : decode cX4_init 85 = .ok (.newarray .boolean, 2) := by decide +kernel
theorem dX4_init_87 : decode cX4_init 87 = .ok (.putfield 40, 3) := by decide +kernel
theorem dX4_init_90 : decode cX4_init 90 = .ok (.aload_n 0, 1) := by decide +kernel
theorem dX4_init_91 : decode cX4_init 91 = .ok (.sipush 360, 3) := by decide +kernel
theorem dX4_init_94 : decode cX4_init 94 = .ok (.newarray .int, 2) := by decide +kernel
theorem dX4_init_96 : decode cX4_init 96 = .ok (.putfield 44, 3) := by decide +kernel
theorem dX4_init_99 : decode cX4_init 99 = .ok (.aload_n 0, 1) := by decide +kernel
theorem dX4_init_100 : decode cX4_init 100 = .ok (.iconst 3, 1) := by decide +kernel
theorem dX4_init_101 : decode cX4_init 101 = .ok (.newarray .int, 2) := by decide +kernel
theorem dX4_init_103 : decode cX4_init 103 = .ok (.putfield 47, 3) := by decide +kernel
theorem dX4_init_106 : decode cX4_init 106 = .ok (.aload_n 0, 1) := by decide +kernel
theorem dX4_init_107 : decode cX4_init 107 = .ok (.iconst 3, 1) := by decide +kernel
theorem dX4_init_108 : decode cX4_init 108 = .ok (.newarray .boolean, 2) := by decide +kernel
theorem dX4_init_110 : decode cX4_init 110 = .ok (.putfield 50, 3) := by decide +kernel
theorem dX4_init_113 : decode cX4_init 113 = .ok (.return_, 1) := by decide +kernel
theorem dX4_thrown_0 : decode cX4_thrown 0 = .ok (.aload_n 0, 1) := by decide +kernel
theorem dX4_thrown_1 : decode cX4_thrown 1 = .ok (.getfield 53, 3) := by decide +kernel
theorem dX4_thrown_4 : decode cX4_thrown 4 = .ok (.ireturn, 1) := by decide +kernel
theorem dX4_mark_0 : decode cX4_mark 0 = .ok (.iload_n 1, 1) := by decide +kernel
theorem dX4_mark_1 : decode cX4_mark 1 = .ok (.invokestatic 61, 3) := by decide +kernel
theorem dX4_mark_4 : decode cX4_mark 4 = .ok (.ifCond .ne 7, 3) := by decide +kernel
theorem dX4_mark_7 : decode cX4_mark 7 = .ok (.iconst 1, 1) := by decide +kernel
theorem dX4_mark_8 : decode cX4_mark 8 = .ok (.goto 4, 3) := by decide +kernel
theorem dX4_mark_11 : decode cX4_mark 11 = .ok (.iconst 0, 1) := by decide +kernel
theorem dX4_mark_12 : decode cX4_mark 12 = .ok (.istore 4, 2) := by decide +kernel
theorem dX4_mark_14 : decode cX4_mark 14 = .ok (.iload 4, 2) := by decide +kernel
theorem dX4_mark_16 : decode cX4_mark 16 = .ok (.ifCond .eq 7, 3) := by decide +kernel
theorem dX4_mark_19 : decode cX4_mark 19 = .ok (.iconst 0, 1) := by decide +kernel
theorem dX4_mark_20 : decode cX4_mark 20 = .ok (.goto 9, 3) := by decide +kernel
theorem dX4_mark_23 : decode cX4_mark 23 = .ok (.aload_n 0, 1) := by decide +kernel
theorem dX4_mark_24 : decode cX4_mark 24 = .ok (.getfield 13, 3) := by decide +kernel
theorem dX4_mark_27 : decode cX4_mark 27 = .ok (.iload_n 1, 1) := by decide +kernel
theorem dX4_mark_28 : decode cX4_mark 28 = .ok (.iaload, 1) := by decide +kernel
theorem dX4_mark_29 : decode cX4_mark 29 = .ok (.istore 5, 2) := by decide +kernel
theorem dX4_mark_31 : decode cX4_mark 31 = .ok (.iload 5, 2) := by decide +kernel
theorem dX4_mark_33 : decode cX4_mark 33 = .ok (.ifCond .le 15, 3) := by decide +kernel
theorem dX4_mark_36 : decode cX4_mark 36 = .ok (.bipush 6, 2) := by decide +kernel
theorem dX4_mark_38 : decode cX4_mark 38 = .ok (.iload_n 1, 1) := by decide +kernel
theorem dX4_mark_39 : decode cX4_mark 39 = .ok (.imul, 1) := by decide +kernel
theorem dX4_mark_40 : decode cX4_mark 40 = .ok (.iload 5, 2) := by decide +kernel
theorem dX4_mark_42 : decode cX4_mark 42 = .ok (.iadd, 1) := by decide +kernel
theorem dX4_mark_43 : decode cX4_mark 43 = .ok (.iconst 1, 1) := by decide +kernel
theorem dX4_mark_44 : decode cX4_mark 44 = .ok (.isub, 1) := by decide +kernel
theorem dX4_mark_45 : decode cX4_mark 45 = .ok (.goto 4, 3) := by decide +kernel
theorem dX4_mark_48 : decode cX4_mark 48 = .ok (.iconst 0, 1) := by decide +kernel
theorem dX4_mark_49 : decode cX4_mark 49 = .ok (.istore 6, 2) := by decide +kernel
theorem dX4_mark_51 : decode cX4_mark 51 = .ok (.iload 5, 2) := by decide +kernel
theorem dX4_mark_53 : decode cX4_mark 53 = .ok (.ifCond .le 29, 3) := by decide +kernel
theorem dX4_mark_56 : decode cX4_mark 56 = .ok (.iload_n 2, 1) := by decide +kernel
theorem dX4_mark_57 : decode cX4_mark 57 = .ok (.aload_n 0, 1) := by decide +kernel
theorem dX4_mark_58 : decode cX4_mark 58 = .ok (.getfield 16, 3) := by decide +kernel
theorem dX4_mark_61 : decode cX4_mark 61 = .ok (.iload 6, 2) := by decide +kernel
theorem dX4_mark_63 : decode cX4_mark 63 = .ok (.iaload, 1) := by decide +kernel
theorem dX4_mark_64 : decode cX4_mark 64 = .ok (.if_icmp .le 14, 3) := by decide +kernel
theorem dX4_mark_67 : decode cX4_mark 67 = .ok (.iload_n 3, 1) := by decide +kernel
theorem dX4_mark_68 : decode cX4_mark 68 = .ok (.aload_n 0, 1) := by decide +kernel
theorem dX4_mark_69 : decode cX4_mark 69 = .ok (.getfield 19, 3) := by decide +kernel
theorem dX4_mark_72 : decode cX4_mark 72 = .ok (.iload 6, 2) := by decide +kernel
theorem dX4_mark_74 : decode cX4_mark 74 = .ok (.iaload, 1) := by decide +kernel
theorem dX4_mark_75 : decode cX4_mark 75 = .ok (.if_icmp .ge 7, 3) := by decide +kernel
theorem dX4_mark_78 : decode cX4_mark 78 = .ok (.iconst 1, 1) := by decide +kernel
theorem dX4_mark_79 : decode cX4_mark 79 = .ok (.goto 4, 3) := by decide +kernel
theorem dX4_mark_82 : decode cX4_mark 82 = .ok (.iconst 0, 1) := by decide +kernel
theorem dX4_mark_83 : decode cX4_mark 83 = .ok (.istore 7, 2) := by decide +kernel
theorem dX4_mark_85 : decode cX4_mark 85 = .ok (.aload_n 0, 1) := by decide +kernel
theorem dX4_mark_86 : decode cX4_mark 86 = .ok (.iload 4, 2) := by decide +kernel
theorem dX4_mark_88 : decode cX4_mark 88 = .ok (.iload 5, 2) := by decide +kernel
theorem dX4_mark_90 : decode cX4_mark 90 = .ok (.bipush 6, 2) := by decide +kernel
theorem dX4_mark_92 : decode cX4_mark 92 = .ok (.if_icmp .ne 7, 3) := by decide +kernel
theorem dX4_mark_95 : decode cX4_mark 95 = .ok (.iconst 1, 1) := by decide +kernel
theorem dX4_mark_96 : decode cX4_mark 96 = .ok (.goto 4, 3) := by decide +kernel
theorem dX4_mark_99 : decode cX4_mark 99 = .ok (.iconst 0, 1) := by decide +kernel
theorem dX4_mark_100 : decode cX4_mark 100 = .ok (.iload_n 2, 1) := by decide +kernel
theorem dX4_mark_101 : decode cX4_mark 101 = .ok (.i2l, 1) := by decide +kernel
theorem dX4_mark_102 : decode cX4_mark 102 = .ok (.iconst 0, 1) := by decide +kernel
theorem dX4_mark_103 : decode cX4_mark 103 = .ok (.ldc 65, 2) := by decide +kernel
theorem dX4_mark_105 : decode cX4_mark 105 = .ok (.invokestatic 57, 3) := by decide +kernel
theorem dX4_mark_108 : decode cX4_mark 108 = .ok (.ifCond .eq 19, 3) := by decide +kernel
theorem dX4_mark_111 : decode cX4_mark 111 = .ok (.iload_n 3, 1) := by decide +kernel
theorem dX4_mark_112 : decode cX4_mark 112 = .ok (.i2l, 1) := by decide +kernel
theorem dX4_mark_113 : decode cX4_mark 113 = .ok (.iconst 0, 1) := by decide +kernel
theorem dX4_mark_114 : decode cX4_mark 114 = .ok (.ldc 65, 2) := by decide +kernel
theorem dX4_mark_116 : decode cX4_mark 116 = .ok (.invokestatic 57, 3) := by decide +kernel
theorem dX4_mark_119 : decode cX4_mark 119 = .ok (.ifCond .eq 8, 3) := by decide +kernel
theorem dX4_mark_122 : decode cX4_mark 122 = .ok (.iload 7, 2) := by decide +kernel
theorem dX4_mark_124 : decode cX4_mark 124 = .ok (.ifCond .eq 7, 3) := by decide +kernel
theorem dX4_mark_127 : decode cX4_mark 127 = .ok (.iconst 1, 1) := by decide +kernel
theorem dX4_mark_128 : decode cX4_mark 128 = .ok (.goto 4, 3) := by decide +kernel
theorem dX4_mark_131 : decode cX4_mark 131 = .ok (.iconst 0, 1) := by decide +kernel
theorem dX4_mark_132 : decode cX4_mark 132 = .ok (.iconst 0, 1) := by decide +kernel
theorem dX4_mark_133 : decode cX4_mark 133 = .ok (.invokevirtual 66, 3) := by decide +kernel
theorem dX4_mark_136 : decode cX4_mark 136 = .ok (.ifCond .eq 5, 3) := by decide +kernel
theorem dX4_mark_139 : decode cX4_mark 139 = .ok (.iconst 0, 1) := by decide +kernel
theorem dX4_mark_140 : decode cX4_mark 140 = .ok (.ireturn, 1) := by decide +kernel
theorem dX4_mark_141 : decode cX4_mark 141 = .ok (.aload_n 0, 1) := by decide +kernel
theorem dX4_mark_142 : decode cX4_mark 142 = .ok (.getfield 16, 3) := by decide +kernel
theorem dX4_mark_145 : decode cX4_mark 145 = .ok (.bipush 6, 2) := by decide +kernel
theorem dX4_mark_147 : decode cX4_mark 147 = .ok (.iload_n 1, 1) := by decide +kernel
theorem dX4_mark_148 : decode cX4_mark 148 = .ok (.imul, 1) := by decide +kernel
theorem dX4_mark_149 : decode cX4_mark 149 = .ok (.iload 5, 2) := by decide +kernel
theorem dX4_mark_151 : decode cX4_mark 151 = .ok (.iadd, 1) := by decide +kernel
theorem dX4_mark_152 : decode cX4_mark 152 = .ok (.iload_n 2, 1) := by decide +kernel
theorem dX4_mark_153 : decode cX4_mark 153 = .ok (.iastore, 1) := by decide +kernel
theorem dX4_mark_154 : decode cX4_mark 154 = .ok (.aload_n 0, 1) := by decide +kernel
theorem dX4_mark_155 : decode cX4_mark 155 = .ok (.getfield 19, 3) := by decide +kernel
theorem dX4_mark_158 : decode cX4_mark 158 = .ok (.bipush 6, 2) := by decide +kernel
theorem dX4_mark_160 : decode cX4_mark 160 = .ok (.iload_n 1, 1) := by decide +kernel
theorem dX4_mark_161 : decode cX4_mark 161 = .ok (.imul, 1) := by decide +kernel
theorem dX4_mark_162 : decode cX4_mark 162 = .ok (.iload 5, 2) := by decide +kernel
theorem dX4_mark_164 : decode cX4_mark 164 = .ok (.iadd, 1) := by decide +kernel
theorem dX4_mark_165 : decode cX4_mark 165 = .ok (.iload_n 3, 1) := by decide +kernel
theorem dX4_mark_166 : decode cX4_mark 166 = .ok (.iastore, 1) := by decide +kernel
theorem dX4_mark_167 : decode cX4_mark 167 = .ok (.aload_n 0, 1) := by decide +kernel
theorem dX4_mark_168 : decode cX4_mark 168 = .ok (.getfield 13, 3) := by decide +kernel
theorem dX4_mark_171 : decode cX4_mark 171 = .ok (.iload_n 1, 1) := by decide +kernel
theorem dX4_mark_172 : decode cX4_mark 172 = .ok (.dup2, 1) := by decide +kernel
theorem dX4_mark_173 : decode cX4_mark 173 = .ok (.iaload, 1) := by decide +kernel
theorem dX4_mark_174 : decode cX4_mark 174 = .ok (.iconst 1, 1) := by decide +kernel
theorem dX4_mark_175 : decode cX4_mark 175 = .ok (.iadd, 1) := by decide +kernel
theorem dX4_mark_176 : decode cX4_mark 176 = .ok (.iastore, 1) := by decide +kernel
theorem dX4_mark_177 : decode cX4_mark 177 = .ok (.aload_n 0, 1) := by decide +kernel
theorem dX4_mark_178 : decode cX4_mark 178 = .ok (.getfield 13, 3) := by decide +kernel
theorem dX4_mark_181 : decode cX4_mark 181 = .ok (.iload_n 1, 1) := by decide +kernel
theorem dX4_mark_182 : decode cX4_mark 182 = .ok (.iaload, 1) := by decide +kernel
theorem dX4_mark_183 : decode cX4_mark 183 = .ok (.ireturn, 1) := by decide +kernel
theorem dX4_isTeller_0 : decode cX4_isTeller 0 = .ok (.iload_n 0, 1) := by decide +kernel
theorem dX4_isTeller_1 : decode cX4_isTeller 1 = .ok (.i2l, 1) := by decide +kernel
theorem dX4_isTeller_2 : decode cX4_isTeller 2 = .ok (.iconst 0, 1) := by decide +kernel
theorem dX4_isTeller_3 : decode cX4_isTeller 3 = .ok (.iconst 4, 1) := by decide +kernel
theorem dX4_isTeller_4 : decode cX4_isTeller 4 = .ok (.invokestatic 57, 3) := by decide +kernel
theorem dX4_isTeller_7 : decode cX4_isTeller 7 = .ok (.ireturn, 1) := by decide +kernel
theorem dX4_in_0 : decode cX4_in 0 = .ok (.lload_n 0, 1) := by decide +kernel
theorem dX4_in_1 : decode cX4_in 1 = .ok (.iload_n 2, 1) := by decide +kernel
theorem dX4_in_2 : decode cX4_in 2 = .ok (.i2l, 1) := by decide +kernel
theorem dX4_in_3 : decode cX4_in 3 = .ok (.lcmp, 1) := by decide +kernel
theorem dX4_in_4 : decode cX4_in 4 = .ok (.ifCond .lt 14, 3) := by decide +kernel
theorem dX4_in_7 : decode cX4_in 7 = .ok (.lload_n 0, 1) := by decide +kernel
theorem dX4_in_8 : decode cX4_in 8 = .ok (.iload_n 3, 1) := by decide +kernel
theorem dX4_in_9 : decode cX4_in 9 = .ok (.i2l, 1) := by decide +kernel
theorem dX4_in_10 : decode cX4_in 10 = .ok (.lcmp, 1) := by decide +kernel
theorem dX4_in_11 : decode cX4_in 11 = .ok (.ifCond .gt 7, 3) := by decide +kernel
theorem dX4_in_14 : decode cX4_in 14 = .ok (.iconst 1, 1) := by decide +kernel
theorem dX4_in_15 : decode cX4_in 15 = .ok (.goto 4, 3) := by decide +kernel
theorem dX4_in_18 : decode cX4_in 18 = .ok (.iconst 0, 1) := by decide +kernel
theorem dX4_in_19 : decode cX4_in 19 = .ok (.ireturn, 1) := by decide +kernel
theorem dX4_throwing_0 : decode cX4_throwing 0 = .ok (.aload_n 0, 1) := by decide +kernel
theorem dX4_throwing_1 : decode cX4_throwing 1 = .ok (.iload_n 1, 1) := by decide +kernel
theorem dX4_throwing_2 : decode cX4_throwing 2 = .ok (.ifCond .eq 7, 3) := by decide +kernel
theorem dX4_throwing_5 : decode cX4_throwing 5 = .ok (.iconst 1, 1) := by decide +kernel
theorem dX4_throwing_6 : decode cX4_throwing 6 = .ok (.goto 29, 3) := by decide +kernel
theorem dX4_throwing_9 : decode cX4_throwing 9 = .ok (.iload_n 2, 1) := by decide +kernel
theorem dX4_throwing_10 : decode cX4_throwing 10 = .ok (.ifCond .eq 7, 3) := by decide +kernel
theorem dX4_throwing_13 : decode cX4_throwing 13 = .ok (.iconst 2, 1) := by decide +kernel
theorem dX4_throwing_14 : decode cX4_throwing 14 = .ok (.goto 21, 3) := by decide +kernel
theorem dX4_throwing_17 : decode cX4_throwing 17 = .ok (.iload_n 3, 1) := by decide +kernel
theorem dX4_throwing_18 : decode cX4_throwing 18 = .ok (.ifCond .eq 7, 3) := by decide +kernel
theorem dX4_throwing_21 : decode cX4_throwing 21 = .ok (.iconst 3, 1) := by decide +kernel
theorem dX4_throwing_22 : decode cX4_throwing 22 = .ok (.goto 13, 3) := by decide +kernel
theorem dX4_throwing_25 : decode cX4_throwing 25 = .ok (.iload 4, 2) := by decide +kernel
theorem dX4_throwing_27 : decode cX4_throwing 27 = .ok (.ifCond .eq 7, 3) := by decide +kernel
theorem dX4_throwing_30 : decode cX4_throwing 30 = .ok (.iconst 4, 1) := by decide +kernel
theorem dX4_throwing_31 : decode cX4_throwing 31 = .ok (.goto 4, 3) := by decide +kernel
theorem dX4_throwing_34 : decode cX4_throwing 34 = .ok (.iconst 0, 1) := by decide +kernel
theorem dX4_throwing_35 : decode cX4_throwing 35 = .ok (.putfield 53, 3) := by decide +kernel
theorem dX4_throwing_38 : decode cX4_throwing 38 = .ok (.aload_n 0, 1) := by decide +kernel
theorem dX4_throwing_39 : decode cX4_throwing 39 = .ok (.getfield 53, 3) := by decide +kernel
theorem dX4_throwing_42 : decode cX4_throwing 42 = .ok (.ifCond .le 7, 3) := by decide +kernel
theorem dX4_throwing_45 : decode cX4_throwing 45 = .ok (.iconst 1, 1) := by decide +kernel
theorem dX4_throwing_46 : decode cX4_throwing 46 = .ok (.goto 4, 3) := by decide +kernel
theorem dX4_throwing_49 : decode cX4_throwing 49 = .ok (.iconst 0, 1) := by decide +kernel
theorem dX4_throwing_50 : decode cX4_throwing 50 = .ok (.ireturn, 1) := by decide +kernel
theorem dX4_real_0 : decode cX4_real 0 = .ok (.aload_n 0, 1) := by decide +kernel
theorem dX4_real_1 : decode cX4_real 1 = .ok (.iload_n 1, 1) := by decide +kernel
theorem dX4_real_2 : decode cX4_real 2 = .ok (.invokestatic 61, 3) := by decide +kernel
theorem dX4_real_5 : decode cX4_real 5 = .ok (.ifCond .ne 7, 3) := by decide +kernel
theorem dX4_real_8 : decode cX4_real 8 = .ok (.iconst 1, 1) := by decide +kernel
theorem dX4_real_9 : decode cX4_real 9 = .ok (.goto 4, 3) := by decide +kernel
theorem dX4_real_12 : decode cX4_real 12 = .ok (.iconst 0, 1) := by decide +kernel
theorem dX4_real_13 : decode cX4_real 13 = .ok (.iload_n 2, 1) := by decide +kernel
theorem dX4_real_14 : decode cX4_real 14 = .ok (.i2l, 1) := by decide +kernel
theorem dX4_real_15 : decode cX4_real 15 = .ok (.iconst 0, 1) := by decide +kernel
theorem dX4_real_16 : decode cX4_real 16 = .ok (.ldc 65, 2) := by decide +kernel
theorem dX4_real_18 : decode cX4_real 18 = .ok (.invokestatic 57, 3) := by decide +kernel
theorem dX4_real_21 : decode cX4_real 21 = .ok (.ifCond .ne 7, 3) := by decide +kernel
theorem dX4_real_24 : decode cX4_real 24 = .ok (.iconst 1, 1) := by decide +kernel
theorem dX4_real_25 : decode cX4_real 25 = .ok (.goto 4, 3) := by decide +kernel
theorem dX4_real_28 : decode cX4_real 28 = .ok (.iconst 0, 1) := by decide +kernel
theorem dX4_real_29 : decode cX4_real 29 = .ok (.iconst 0, 1) := by decide +kernel
theorem dX4_real_30 : decode cX4_real 30 = .ok (.iconst 0, 1) := by decide +kernel
theorem dX4_real_31 : decode cX4_real 31 = .ok (.invokevirtual 66, 3) := by decide +kernel
theorem dX4_real_34 : decode cX4_real 34 = .ok (.ifCond .eq 5, 3) := by decide +kernel
theorem dX4_real_37 : decode cX4_real 37 = .ok (.iconst 0, 1) := by decide +kernel
theorem dX4_real_38 : decode cX4_real 38 = .ok (.ireturn, 1) := by decide +kernel
theorem dX4_real_39 : decode cX4_real 39 = .ok (.aload_n 0, 1) := by decide +kernel
theorem dX4_real_40 : decode cX4_real 40 = .ok (.iload_n 1, 1) := by decide +kernel
theorem dX4_real_41 : decode cX4_real 41 = .ok (.iload_n 2, 1) := by decide +kernel
theorem dX4_real_42 : decode cX4_real 42 = .ok (.invokevirtual 70, 3) := by decide +kernel
theorem dX4_real_45 : decode cX4_real 45 = .ok (.ireturn, 1) := by decide +kernel
theorem dX4_realOf_0 : decode cX4_realOf 0 = .ok (.aload_n 0, 1) := by decide +kernel
theorem dX4_realOf_1 : decode cX4_realOf 1 = .ok (.getfield 13, 3) := by decide +kernel
theorem dX4_realOf_4 : decode cX4_realOf 4 = .ok (.iload_n 1, 1) := by decide +kernel
theorem dX4_realOf_5 : decode cX4_realOf 5 = .ok (.iaload, 1) := by decide +kernel
theorem dX4_realOf_6 : decode cX4_realOf 6 = .ok (.ifCond .ne 5, 3) := by decide +kernel
theorem dX4_realOf_9 : decode cX4_realOf 9 = .ok (.iload_n 2, 1) := by decide +kernel
theorem dX4_realOf_10 : decode cX4_realOf 10 = .ok (.ireturn, 1) := by decide +kernel
theorem dX4_realOf_11 : decode cX4_realOf 11 = .ok (.bipush 6, 2) := by decide +kernel
theorem dX4_realOf_13 : decode cX4_realOf 13 = .ok (.iload_n 1, 1) := by decide +kernel
theorem dX4_realOf_14 : decode cX4_realOf 14 = .ok (.imul, 1) := by decide +kernel
theorem dX4_realOf_15 : decode cX4_realOf 15 = .ok (.istore_n 3, 1) := by decide +kernel
theorem dX4_realOf_16 : decode cX4_realOf 16 = .ok (.iload_n 3, 1) := by decide +kernel
theorem dX4_realOf_17 : decode cX4_realOf 17 = .ok (.aload_n 0, 1) := by decide +kernel
theorem dX4_realOf_18 : decode cX4_realOf 18 = .ok (.getfield 13, 3) := by decide +kernel
theorem dX4_realOf_21 : decode cX4_realOf 21 = .ok (.iload_n 1, 1) := by decide +kernel
theorem dX4_realOf_22 : decode cX4_realOf 22 = .ok (.iaload, 1) := by decide +kernel
theorem dX4_realOf_23 : decode cX4_realOf 23 = .ok (.iadd, 1) := by decide +kernel
theorem dX4_realOf_24 : decode cX4_realOf 24 = .ok (.iconst 1, 1) := by decide +kernel
theorem dX4_realOf_25 : decode cX4_realOf 25 = .ok (.isub, 1) := by decide +kernel
theorem dX4_realOf_26 : decode cX4_realOf 26 = .ok (.istore 4, 2) := by decide +kernel
theorem dX4_realOf_28 : decode cX4_realOf 28 = .ok (.iload_n 2, 1) := by decide +kernel
theorem dX4_realOf_29 : decode cX4_realOf 29 = .ok (.aload_n 0, 1) := by decide +kernel
theorem dX4_realOf_30 : decode cX4_realOf 30 = .ok (.getfield 16, 3) := by decide +kernel
theorem dX4_realOf_33 : decode cX4_realOf 33 = .ok (.iload_n 3, 1) := by decide +kernel
theorem dX4_realOf_34 : decode cX4_realOf 34 = .ok (.iaload, 1) := by decide +kernel
theorem dX4_realOf_35 : decode cX4_realOf 35 = .ok (.if_icmp .gt 19, 3) := by decide +kernel
theorem dX4_realOf_38 : decode cX4_realOf 38 = .ok (.iload_n 2, 1) := by decide +kernel
theorem dX4_realOf_39 : decode cX4_realOf 39 = .ok (.aload_n 0, 1) := by decide +kernel
theorem dX4_realOf_40 : decode cX4_realOf 40 = .ok (.getfield 19, 3) := by decide +kernel
theorem dX4_realOf_43 : decode cX4_realOf 43 = .ok (.iload_n 3, 1) := by decide +kernel
theorem dX4_realOf_44 : decode cX4_realOf 44 = .ok (.iaload, 1) := by decide +kernel
theorem dX4_realOf_45 : decode cX4_realOf 45 = .ok (.iadd, 1) := by decide +kernel
theorem dX4_realOf_46 : decode cX4_realOf 46 = .ok (.aload_n 0, 1) := by decide +kernel
theorem dX4_realOf_47 : decode cX4_realOf 47 = .ok (.getfield 16, 3) := by decide +kernel
theorem dX4_realOf_50 : decode cX4_realOf 50 = .ok (.iload_n 3, 1) := by decide +kernel
theorem dX4_realOf_51 : decode cX4_realOf 51 = .ok (.iaload, 1) := by decide +kernel
theorem dX4_realOf_52 : decode cX4_realOf 52 = .ok (.isub, 1) := by decide +kernel
theorem dX4_realOf_53 : decode cX4_realOf 53 = .ok (.ireturn, 1) := by decide +kernel
theorem dX4_realOf_54 : decode cX4_realOf 54 = .ok (.iload_n 2, 1) := by decide +kernel
theorem dX4_realOf_55 : decode cX4_realOf 55 = .ok (.aload_n 0, 1) := by decide +kernel
theorem dX4_realOf_56 : decode cX4_realOf 56 = .ok (.getfield 16, 3) := by decide +kernel
theorem dX4_realOf_59 : decode cX4_realOf 59 = .ok (.iload 4, 2) := by decide +kernel
theorem dX4_realOf_61 : decode cX4_realOf 61 = .ok (.iaload, 1) := by decide +kernel
theorem dX4_realOf_62 : decode cX4_realOf 62 = .ok (.if_icmp .lt 21, 3) := by decide +kernel
theorem dX4_realOf_65 : decode cX4_realOf 65 = .ok (.iload_n 2, 1) := by decide +kernel
theorem dX4_realOf_66 : decode cX4_realOf 66 = .ok (.aload_n 0, 1) := by decide +kernel
theorem dX4_realOf_67 : decode cX4_realOf 67 = .ok (.getfield 19, 3) := by decide +kernel
theorem dX4_realOf_70 : decode cX4_realOf 70 = .ok (.iload 4, 2) := by decide +kernel
theorem dX4_realOf_72 : decode cX4_realOf 72 = .ok (.iaload, 1) := by decide +kernel
theorem dX4_realOf_73 : decode cX4_realOf 73 = .ok (.iadd, 1) := by decide +kernel
theorem dX4_realOf_74 : decode cX4_realOf 74 = .ok (.aload_n 0, 1) := by decide +kernel
theorem dX4_realOf_75 : decode cX4_realOf 75 = .ok (.getfield 16, 3) := by decide +kernel
theorem dX4_realOf_78 : decode cX4_realOf 78 = .ok (.iload 4, 2) := by decide +kernel
theorem dX4_realOf_80 : decode cX4_realOf 80 = .ok (.iaload, 1) := by decide +kernel
theorem dX4_realOf_81 : decode cX4_realOf 81 = .ok (.isub, 1) := by decide +kernel
theorem dX4_realOf_82 : decode cX4_realOf 82 = .ok (.ireturn, 1) := by decide +kernel
theorem dX4_realOf_83 : decode cX4_realOf 83 = .ok (.iload_n 3, 1) := by decide +kernel
theorem dX4_realOf_84 : decode cX4_realOf 84 = .ok (.istore 5, 2) := by decide +kernel
theorem dX4_realOf_86 : decode cX4_realOf 86 = .ok (.aload_n 0, 1) := by decide +kernel
theorem dX4_realOf_87 : decode cX4_realOf 87 = .ok (.getfield 16, 3) := by decide +kernel
theorem dX4_realOf_90 : decode cX4_realOf 90 = .ok (.iload 5, 2) := by decide +kernel
theorem dX4_realOf_92 : decode cX4_realOf 92 = .ok (.iaload, 1) := by decide +kernel
theorem dX4_realOf_93 : decode cX4_realOf 93 = .ok (.iload_n 2, 1) := by decide +kernel
theorem dX4_realOf_94 : decode cX4_realOf 94 = .ok (.if_icmp .ge 9, 3) := by decide +kernel
theorem dX4_realOf_97 : decode cX4_realOf 97 = .ok (.iinc 5 1, 3) := by decide +kernel
theorem dX4_realOf_100 : decode cX4_realOf 100 = .ok (.goto (-14), 3) := by decide +kernel
theorem dX4_realOf_103 : decode cX4_realOf 103 = .ok (.iload 5, 2) := by decide +kernel
theorem dX4_realOf_105 : decode cX4_realOf 105 = .ok (.iconst 1, 1) := by decide +kernel
theorem dX4_realOf_106 : decode cX4_realOf 106 = .ok (.isub, 1) := by decide +kernel
theorem dX4_realOf_107 : decode cX4_realOf 107 = .ok (.istore 6, 2) := by decide +kernel
theorem dX4_realOf_109 : decode cX4_realOf 109 = .ok (.aload_n 0, 1) := by decide +kernel
theorem dX4_realOf_110 : decode cX4_realOf 110 = .ok (.getfield 19, 3) := by decide +kernel
theorem dX4_realOf_113 : decode cX4_realOf 113 = .ok (.iload 5, 2) := by decide +kernel
theorem dX4_realOf_115 : decode cX4_realOf 115 = .ok (.iaload, 1) := by decide +kernel
theorem dX4_realOf_116 : decode cX4_realOf 116 = .ok (.aload_n 0, 1) := by decide +kernel
theorem dX4_realOf_117 : decode cX4_realOf 117 = .ok (.getfield 19, 3) := by decide +kernel
theorem dX4_realOf_120 : decode cX4_realOf 120 = .ok (.iload 6, 2) := by decide +kernel
theorem dX4_realOf_122 : decode cX4_realOf 122 = .ok (.iaload, 1) := by decide +kernel
theorem dX4_realOf_123 : decode cX4_realOf 123 = .ok (.isub, 1) := by decide +kernel
theorem dX4_realOf_124 : decode cX4_realOf 124 = .ok (.i2l, 1) := by decide +kernel
theorem dX4_realOf_125 : decode cX4_realOf 125 = .ok (.iload_n 2, 1) := by decide +kernel
theorem dX4_realOf_126 : decode cX4_realOf 126 = .ok (.aload_n 0, 1) := by decide +kernel
theorem dX4_realOf_127 : decode cX4_realOf 127 = .ok (.getfield 16, 3) := by decide +kernel
theorem dX4_realOf_130 : decode cX4_realOf 130 = .ok (.iload 6, 2) := by decide +kernel
theorem dX4_realOf_132 : decode cX4_realOf 132 = .ok (.iaload, 1) := by decide +kernel
theorem dX4_realOf_133 : decode cX4_realOf 133 = .ok (.isub, 1) := by decide +kernel
theorem dX4_realOf_134 : decode cX4_realOf 134 = .ok (.i2l, 1) := by decide +kernel
theorem dX4_realOf_135 : decode cX4_realOf 135 = .ok (.lmul, 1) := by decide +kernel
theorem dX4_realOf_136 : decode cX4_realOf 136 = .ok (.lstore 7, 2) := by decide +kernel
theorem dX4_realOf_138 : decode cX4_realOf 138 = .ok (.aload_n 0, 1) := by decide +kernel
theorem dX4_realOf_139 : decode cX4_realOf 139 = .ok (.getfield 19, 3) := by decide +kernel
theorem dX4_realOf_142 : decode cX4_realOf 142 = .ok (.iload 6, 2) := by decide +kernel
theorem dX4_realOf_144 : decode cX4_realOf 144 = .ok (.iaload, 1) := by decide +kernel
theorem dX4_realOf_145 : decode cX4_realOf 145 = .ok (.lload 7, 2) := by decide +kernel
theorem dX4_realOf_147 : decode cX4_realOf 147 = .ok (.aload_n 0, 1) := by decide +kernel
theorem dX4_realOf_148 : decode cX4_realOf 148 = .ok (.getfield 16, 3) := by decide +kernel
theorem dX4_realOf_151 : decode cX4_realOf 151 = .ok (.iload 5, 2) := by decide +kernel
theorem dX4_realOf_153 : decode cX4_realOf 153 = .ok (.iaload, 1) := by decide +kernel
theorem dX4_realOf_154 : decode cX4_realOf 154 = .ok (.aload_n 0, 1) := by decide +kernel
theorem dX4_realOf_155 : decode cX4_realOf 155 = .ok (.getfield 16, 3) := by decide +kernel
theorem dX4_realOf_158 : decode cX4_realOf 158 = .ok (.iload 6, 2) := by decide +kernel
theorem dX4_realOf_160 : decode cX4_realOf 160 = .ok (.iaload, 1) := by decide +kernel
theorem dX4_realOf_161 : decode cX4_realOf 161 = .ok (.isub, 1) := by decide +kernel
theorem dX4_realOf_162 : decode cX4_realOf 162 = .ok (.i2l, 1) := by decide +kernel
theorem dX4_realOf_163 : decode cX4_realOf 163 = .ok (.ldiv, 1) := by decide +kernel
theorem dX4_realOf_164 : decode cX4_realOf 164 = .ok (.l2i, 1) := by decide +kernel
theorem dX4_realOf_165 : decode cX4_realOf 165 = .ok (.iadd, 1) := by decide +kernel
theorem dX4_realOf_166 : decode cX4_realOf 166 = .ok (.ireturn, 1) := by decide +kernel
theorem dX4_tell_0 : decode cX4_tell 0 = .ok (.iload_n 1, 1) := by decide +kernel
theorem dX4_tell_1 : decode cX4_tell 1 = .ok (.invokestatic 77, 3) := by decide +kernel
theorem dX4_tell_4 : decode cX4_tell 4 = .ok (.ifCond .eq 10, 3) := by decide +kernel
theorem dX4_tell_7 : decode cX4_tell 7 = .ok (.iload_n 2, 1) := by decide +kernel
theorem dX4_tell_8 : decode cX4_tell 8 = .ok (.invokestatic 61, 3) := by decide +kernel
theorem dX4_tell_11 : decode cX4_tell 11 = .ok (.ifCond .ne 7, 3) := by decide +kernel
theorem dX4_tell_14 : decode cX4_tell 14 = .ok (.iconst 1, 1) := by decide +kernel
theorem dX4_tell_15 : decode cX4_tell 15 = .ok (.goto 4, 3) := by decide +kernel
theorem dX4_tell_18 : decode cX4_tell 18 = .ok (.iconst 0, 1) := by decide +kernel
theorem dX4_tell_19 : decode cX4_tell 19 = .ok (.istore 6, 2) := by decide +kernel
theorem dX4_tell_21 : decode cX4_tell 21 = .ok (.lload_n 3, 1) := by decide +kernel
theorem dX4_tell_22 : decode cX4_tell 22 = .ok (.ldc2_w 80, 3) := by decide +kernel
theorem dX4_tell_25 : decode cX4_tell 25 = .ok (.land, 1) := by decide +kernel
theorem dX4_tell_26 : decode cX4_tell 26 = .ok (.l2i, 1) := by decide +kernel
theorem dX4_tell_27 : decode cX4_tell 27 = .ok (.istore 7, 2) := by decide +kernel
theorem dX4_tell_29 : decode cX4_tell 29 = .ok (.lload_n 3, 1) := by decide +kernel
theorem dX4_tell_30 : decode cX4_tell 30 = .ok (.bipush 20, 2) := by decide +kernel
theorem dX4_tell_32 : decode cX4_tell 32 = .ok (.lshr, 1) := by decide +kernel
theorem dX4_tell_33 : decode cX4_tell 33 = .ok (.ldc2_w 82, 3) := by decide +kernel
theorem dX4_tell_36 : decode cX4_tell 36 = .ok (.land, 1) := by decide +kernel
theorem dX4_tell_37 : decode cX4_tell 37 = .ok (.l2i, 1) := by decide +kernel
theorem dX4_tell_38 : decode cX4_tell 38 = .ok (.istore 8, 2) := by decide +kernel
theorem dX4_tell_40 : decode cX4_tell 40 = .ok (.lload_n 3, 1) := by decide +kernel
theorem dX4_tell_41 : decode cX4_tell 41 = .ok (.bipush 23, 2) := by decide +kernel
theorem dX4_tell_43 : decode cX4_tell 43 = .ok (.lshr, 1) := by decide +kernel
theorem dX4_tell_44 : decode cX4_tell 44 = .ok (.ldc2_w 84, 3) := by decide +kernel
theorem dX4_tell_47 : decode cX4_tell 47 = .ok (.land, 1) := by decide +kernel
theorem dX4_tell_48 : decode cX4_tell 48 = .ok (.l2i, 1) := by decide +kernel
theorem dX4_tell_49 : decode cX4_tell 49 = .ok (.istore 9, 2) := by decide +kernel
theorem dX4_tell_51 : decode cX4_tell 51 = .ok (.iload 7, 2) := by decide +kernel
theorem dX4_tell_53 : decode cX4_tell 53 = .ok (.ldc 65, 2) := by decide +kernel
theorem dX4_tell_55 : decode cX4_tell 55 = .ok (.if_icmp .gt 19, 3) := by decide +kernel
theorem dX4_tell_58 : decode cX4_tell 58 = .ok (.iload 9, 2) := by decide +kernel
theorem dX4_tell_60 : decode cX4_tell 60 = .ok (.bipush 99, 2) := by decide +kernel
theorem dX4_tell_62 : decode cX4_tell 62 = .ok (.if_icmp .gt 12, 3) := by decide +kernel
theorem dX4_tell_65 : decode cX4_tell 65 = .ok (.lload_n 3, 1) := by decide +kernel
theorem dX4_tell_66 : decode cX4_tell 66 = .ok (.bipush 30, 2) := by decide +kernel
theorem dX4_tell_68 : decode cX4_tell 68 = .ok (.lshr, 1) := by decide +kernel
theorem dX4_tell_69 : decode cX4_tell 69 = .ok (.lconst 0, 1) := by decide +kernel
theorem dX4_tell_70 : decode cX4_tell 70 = .ok (.lcmp, 1) := by decide +kernel
theorem dX4_tell_71 : decode cX4_tell 71 = .ok (.ifCond .eq 7, 3) := by decide +kernel
theorem dX4_tell_74 : decode cX4_tell 74 = .ok (.iconst 1, 1) := by decide +kernel
theorem dX4_tell_75 : decode cX4_tell 75 = .ok (.goto 4, 3) := by decide +kernel
theorem dX4_tell_78 : decode cX4_tell 78 = .ok (.iconst 0, 1) := by decide +kernel
theorem dX4_tell_79 : decode cX4_tell 79 = .ok (.istore 10, 2) := by decide +kernel
theorem dX4_tell_81 : decode cX4_tell 81 = .ok (.iload 6, 2) := by decide +kernel
theorem dX4_tell_83 : decode cX4_tell 83 = .ok (.ifCond .eq 7, 3) := by decide +kernel
theorem dX4_tell_86 : decode cX4_tell 86 = .ok (.iconst 0, 1) := by decide +kernel
theorem dX4_tell_87 : decode cX4_tell 87 = .ok (.goto 16, 3) := by decide +kernel
theorem dX4_tell_90 : decode cX4_tell 90 = .ok (.aload_n 0, 1) := by decide +kernel
theorem dX4_tell_91 : decode cX4_tell 91 = .ok (.iload_n 2, 1) := by decide +kernel
theorem dX4_tell_92 : decode cX4_tell 92 = .ok (.iload 7, 2) := by decide +kernel
theorem dX4_tell_94 : decode cX4_tell 94 = .ok (.iload 8, 2) := by decide +kernel
theorem dX4_tell_96 : decode cX4_tell 96 = .ok (.iload 9, 2) := by decide +kernel
theorem dX4_tell_98 : decode cX4_tell 98 = .ok (.iload 5, 2) := by decide +kernel
theorem dX4_tell_100 : decode cX4_tell 100 = .ok (.invokevirtual 86, 3) := by decide +kernel
theorem dX4_tell_103 : decode cX4_tell 103 = .ok (.istore 11, 2) := by decide +kernel
theorem dX4_tell_105 : decode cX4_tell 105 = .ok (.aload_n 0, 1) := by decide +kernel
theorem dX4_tell_106 : decode cX4_tell 106 = .ok (.iload 6, 2) := by decide +kernel
theorem dX4_tell_108 : decode cX4_tell 108 = .ok (.iload 10, 2) := by decide +kernel
theorem dX4_tell_110 : decode cX4_tell 110 = .ok (.iload 6, 2) := by decide +kernel
theorem dX4_tell_112 : decode cX4_tell 112 = .ok (.ifCond .ne 14, 3) := by decide +kernel
theorem dX4_tell_115 : decode cX4_tell 115 = .ok (.iload 11, 2) := by decide +kernel
theorem dX4_tell_117 : decode cX4_tell 117 = .ok (.bipush 120, 2) := by decide +kernel
theorem dX4_tell_119 : decode cX4_tell 119 = .ok (.if_icmp .ne 7, 3) := by decide +kernel
theorem dX4_tell_122 : decode cX4_tell 122 = .ok (.iconst 1, 1) := by decide +kernel
theorem dX4_tell_123 : decode cX4_tell 123 = .ok (.goto 4, 3) := by decide +kernel
theorem dX4_tell_126 : decode cX4_tell 126 = .ok (.iconst 0, 1) := by decide +kernel
theorem dX4_tell_127 : decode cX4_tell 127 = .ok (.iconst 0, 1) := by decide +kernel
theorem dX4_tell_128 : decode cX4_tell 128 = .ok (.invokevirtual 66, 3) := by decide +kernel
theorem dX4_tell_131 : decode cX4_tell 131 = .ok (.ifCond .eq 5, 3) := by decide +kernel
theorem dX4_tell_134 : decode cX4_tell 134 = .ok (.iconst 0, 1) := by decide +kernel
theorem dX4_tell_135 : decode cX4_tell 135 = .ok (.ireturn, 1) := by decide +kernel
theorem dX4_tell_136 : decode cX4_tell 136 = .ok (.iload 11, 2) := by decide +kernel
theorem dX4_tell_138 : decode cX4_tell 138 = .ok (.aload_n 0, 1) := by decide +kernel
theorem dX4_tell_139 : decode cX4_tell 139 = .ok (.getfield 74, 3) := by decide +kernel
theorem dX4_tell_142 : decode cX4_tell 142 = .ok (.if_icmp .ne 78, 3) := by decide +kernel
theorem dX4_tell_145 : decode cX4_tell 145 = .ok (.aload_n 0, 1) := by decide +kernel
theorem dX4_tell_146 : decode cX4_tell 146 = .ok (.getfield 22, 3) := by decide +kernel
theorem dX4_tell_149 : decode cX4_tell 149 = .ok (.iload 11, 2) := by decide +kernel
theorem dX4_tell_151 : decode cX4_tell 151 = .ok (.iload_n 2, 1) := by decide +kernel
theorem dX4_tell_152 : decode cX4_tell 152 = .ok (.iastore, 1) := by decide +kernel
theorem dX4_tell_153 : decode cX4_tell 153 = .ok (.aload_n 0, 1) := by decide +kernel
theorem dX4_tell_154 : decode cX4_tell 154 = .ok (.getfield 25, 3) := by decide +kernel
theorem dX4_tell_157 : decode cX4_tell 157 = .ok (.iload 11, 2) := by decide +kernel
theorem dX4_tell_159 : decode cX4_tell 159 = .ok (.aload_n 0, 1) := by decide +kernel
theorem dX4_tell_160 : decode cX4_tell 160 = .ok (.getfield 7, 3) := by decide +kernel
theorem dX4_tell_163 : decode cX4_tell 163 = .ok (.iload_n 2, 1) := by decide +kernel
theorem dX4_tell_164 : decode cX4_tell 164 = .ok (.iaload, 1) := by decide +kernel
theorem dX4_tell_165 : decode cX4_tell 165 = .ok (.iastore, 1) := by decide +kernel
theorem dX4_tell_166 : decode cX4_tell 166 = .ok (.aload_n 0, 1) := by decide +kernel
theorem dX4_tell_167 : decode cX4_tell 167 = .ok (.getfield 28, 3) := by decide +kernel
theorem dX4_tell_170 : decode cX4_tell 170 = .ok (.iload 11, 2) := by decide +kernel
theorem dX4_tell_172 : decode cX4_tell 172 = .ok (.iload 9, 2) := by decide +kernel
theorem dX4_tell_174 : decode cX4_tell 174 = .ok (.iastore, 1) := by decide +kernel
theorem dX4_tell_175 : decode cX4_tell 175 = .ok (.aload_n 0, 1) := by decide +kernel
theorem dX4_tell_176 : decode cX4_tell 176 = .ok (.getfield 31, 3) := by decide +kernel
theorem dX4_tell_179 : decode cX4_tell 179 = .ok (.iload 11, 2) := by decide +kernel
theorem dX4_tell_181 : decode cX4_tell 181 = .ok (.iload 8, 2) := by decide +kernel
theorem dX4_tell_183 : decode cX4_tell 183 = .ok (.iastore, 1) := by decide +kernel
theorem dX4_tell_184 : decode cX4_tell 184 = .ok (.aload_n 0, 1) := by decide +kernel
theorem dX4_tell_185 : decode cX4_tell 185 = .ok (.getfield 34, 3) := by decide +kernel
theorem dX4_tell_188 : decode cX4_tell 188 = .ok (.iload 11, 2) := by decide +kernel
theorem dX4_tell_190 : decode cX4_tell 190 = .ok (.iload 5, 2) := by decide +kernel
theorem dX4_tell_192 : decode cX4_tell 192 = .ok (.iastore, 1) := by decide +kernel
theorem dX4_tell_193 : decode cX4_tell 193 = .ok (.aload_n 0, 1) := by decide +kernel
theorem dX4_tell_194 : decode cX4_tell 194 = .ok (.getfield 37, 3) := by decide +kernel
theorem dX4_tell_197 : decode cX4_tell 197 = .ok (.iload 11, 2) := by decide +kernel
theorem dX4_tell_199 : decode cX4_tell 199 = .ok (.iload 7, 2) := by decide +kernel
theorem dX4_tell_201 : decode cX4_tell 201 = .ok (.iastore, 1) := by decide +kernel
theorem dX4_tell_202 : decode cX4_tell 202 = .ok (.aload_n 0, 1) := by decide +kernel
theorem dX4_tell_203 : decode cX4_tell 203 = .ok (.getfield 40, 3) := by decide +kernel
theorem dX4_tell_206 : decode cX4_tell 206 = .ok (.iload 11, 2) := by decide +kernel
theorem dX4_tell_208 : decode cX4_tell 208 = .ok (.iconst 0, 1) := by decide +kernel
theorem dX4_tell_209 : decode cX4_tell 209 = .ok (.bastore, 1) := by decide +kernel
theorem dX4_tell_210 : decode cX4_tell 210 = .ok (.aload_n 0, 1) := by decide +kernel
theorem dX4_tell_211 : decode cX4_tell 211 = .ok (.dup, 1) := by decide +kernel
theorem dX4_tell_212 : decode cX4_tell 212 = .ok (.getfield 74, 3) := by decide +kernel
theorem dX4_tell_215 : decode cX4_tell 215 = .ok (.iconst 1, 1) := by decide +kernel
theorem dX4_tell_216 : decode cX4_tell 216 = .ok (.iadd, 1) := by decide +kernel
theorem dX4_tell_217 : decode cX4_tell 217 = .ok (.putfield 74, 3) := by decide +kernel
theorem dX4_tell_220 : decode cX4_tell 220 = .ok (.aload_n 0, 1) := by decide +kernel
theorem dX4_tell_221 : decode cX4_tell 221 = .ok (.iload_n 1, 1) := by decide +kernel
theorem dX4_tell_222 : decode cX4_tell 222 = .ok (.iload 11, 2) := by decide +kernel
theorem dX4_tell_224 : decode cX4_tell 224 = .ok (.invokevirtual 90, 3) := by decide +kernel
theorem dX4_tell_227 : decode cX4_tell 227 = .ok (.ifCond .eq 5, 3) := by decide +kernel
theorem dX4_tell_230 : decode cX4_tell 230 = .ok (.iconst 1, 1) := by decide +kernel
theorem dX4_tell_231 : decode cX4_tell 231 = .ok (.ireturn, 1) := by decide +kernel
theorem dX4_tell_232 : decode cX4_tell 232 = .ok (.iconst 0, 1) := by decide +kernel
theorem dX4_tell_233 : decode cX4_tell 233 = .ok (.istore 12, 2) := by decide +kernel
theorem dX4_tell_235 : decode cX4_tell 235 = .ok (.iconst 0, 1) := by decide +kernel
theorem dX4_tell_236 : decode cX4_tell 236 = .ok (.istore 13, 2) := by decide +kernel
theorem dX4_tell_238 : decode cX4_tell 238 = .ok (.iload 13, 2) := by decide +kernel
theorem dX4_tell_240 : decode cX4_tell 240 = .ok (.aload_n 0, 1) := by decide +kernel
theorem dX4_tell_241 : decode cX4_tell 241 = .ok (.getfield 74, 3) := by decide +kernel
theorem dX4_tell_244 : decode cX4_tell 244 = .ok (.if_icmp .ge 42, 3) := by decide +kernel
theorem dX4_tell_247 : decode cX4_tell 247 = .ok (.iload 12, 2) := by decide +kernel
theorem dX4_tell_249 : decode cX4_tell 249 = .ok (.ifCond .ne 24, 3) := by decide +kernel
theorem dX4_tell_252 : decode cX4_tell 252 = .ok (.aload_n 0, 1) := by decide +kernel
theorem dX4_tell_253 : decode cX4_tell 253 = .ok (.iload 11, 2) := by decide +kernel
theorem dX4_tell_255 : decode cX4_tell 255 = .ok (.iload 13, 2) := by decide +kernel
theorem dX4_tell_257 : decode cX4_tell 257 = .ok (.invokevirtual 94, 3) := by decide +kernel
theorem dX4_tell_260 : decode cX4_tell 260 = .ok (.ifCond .eq 17, 3) := by decide +kernel
theorem dX4_tell_263 : decode cX4_tell 263 = .ok (.aload_n 0, 1) := by decide +kernel
theorem dX4_tell_264 : decode cX4_tell 264 = .ok (.iload_n 1, 1) := by decide +kernel
theorem dX4_tell_265 : decode cX4_tell 265 = .ok (.iload 13, 2) := by decide +kernel
theorem dX4_tell_267 : decode cX4_tell 267 = .ok (.invokevirtual 90, 3) := by decide +kernel
theorem dX4_tell_270 : decode cX4_tell 270 = .ok (.ifCond .eq 7, 3) := by decide +kernel
theorem dX4_tell_273 : decode cX4_tell 273 = .ok (.iconst 1, 1) := by decide +kernel
theorem dX4_tell_274 : decode cX4_tell 274 = .ok (.goto 4, 3) := by decide +kernel
theorem dX4_tell_277 : decode cX4_tell 277 = .ok (.iconst 0, 1) := by decide +kernel
theorem dX4_tell_278 : decode cX4_tell 278 = .ok (.istore 12, 2) := by decide +kernel
theorem dX4_tell_280 : decode cX4_tell 280 = .ok (.iinc 13 1, 3) := by decide +kernel
theorem dX4_tell_283 : decode cX4_tell 283 = .ok (.goto (-45), 3) := by decide +kernel
theorem dX4_tell_286 : decode cX4_tell 286 = .ok (.aload_n 0, 1) := by decide +kernel
theorem dX4_tell_287 : decode cX4_tell 287 = .ok (.iload_n 1, 1) := by decide +kernel
theorem dX4_tell_288 : decode cX4_tell 288 = .ok (.iload 11, 2) := by decide +kernel
theorem dX4_tell_290 : decode cX4_tell 290 = .ok (.invokevirtual 97, 3) := by decide +kernel
theorem dX4_tell_293 : decode cX4_tell 293 = .ok (.iload 12, 2) := by decide +kernel
theorem dX4_tell_295 : decode cX4_tell 295 = .ok (.ifCond .eq 7, 3) := by decide +kernel
theorem dX4_tell_298 : decode cX4_tell 298 = .ok (.iconst 2, 1) := by decide +kernel
theorem dX4_tell_299 : decode cX4_tell 299 = .ok (.goto 4, 3) := by decide +kernel
theorem dX4_tell_302 : decode cX4_tell 302 = .ok (.iconst 0, 1) := by decide +kernel
theorem dX4_tell_303 : decode cX4_tell 303 = .ok (.ireturn, 1) := by decide +kernel
theorem dX4_isDesk_0 : decode cX4_isDesk 0 = .ok (.iload_n 0, 1) := by decide +kernel
theorem dX4_isDesk_1 : decode cX4_isDesk 1 = .ok (.i2l, 1) := by decide +kernel
theorem dX4_isDesk_2 : decode cX4_isDesk 2 = .ok (.iconst 0, 1) := by decide +kernel
theorem dX4_isDesk_3 : decode cX4_isDesk 3 = .ok (.iconst 2, 1) := by decide +kernel
theorem dX4_isDesk_4 : decode cX4_isDesk 4 = .ok (.invokestatic 57, 3) := by decide +kernel
theorem dX4_isDesk_7 : decode cX4_isDesk 7 = .ok (.ireturn, 1) := by decide +kernel
theorem dX4_find_0 : decode cX4_find 0 = .ok (.iconst 0, 1) := by decide +kernel
theorem dX4_find_1 : decode cX4_find 1 = .ok (.istore 6, 2) := by decide +kernel
theorem dX4_find_3 : decode cX4_find 3 = .ok (.iload 6, 2) := by decide +kernel
theorem dX4_find_5 : decode cX4_find 5 = .ok (.aload_n 0, 1) := by decide +kernel
theorem dX4_find_6 : decode cX4_find 6 = .ok (.getfield 74, 3) := by decide +kernel
theorem dX4_find_9 : decode cX4_find 9 = .ok (.if_icmp .ge 97, 3) := by decide +kernel
theorem dX4_find_12 : decode cX4_find 12 = .ok (.aload_n 0, 1) := by decide +kernel
theorem dX4_find_13 : decode cX4_find 13 = .ok (.getfield 22, 3) := by decide +kernel
theorem dX4_find_16 : decode cX4_find 16 = .ok (.iload 6, 2) := by decide +kernel
theorem dX4_find_18 : decode cX4_find 18 = .ok (.iaload, 1) := by decide +kernel
theorem dX4_find_19 : decode cX4_find 19 = .ok (.iload_n 1, 1) := by decide +kernel
theorem dX4_find_20 : decode cX4_find 20 = .ok (.if_icmp .ne 35, 3) := by decide +kernel
theorem dX4_find_23 : decode cX4_find 23 = .ok (.aload_n 0, 1) := by decide +kernel
theorem dX4_find_24 : decode cX4_find 24 = .ok (.getfield 25, 3) := by decide +kernel
theorem dX4_find_27 : decode cX4_find 27 = .ok (.iload 6, 2) := by decide +kernel
theorem dX4_find_29 : decode cX4_find 29 = .ok (.iaload, 1) := by decide +kernel
theorem dX4_find_30 : decode cX4_find 30 = .ok (.aload_n 0, 1) := by decide +kernel
theorem dX4_find_31 : decode cX4_find 31 = .ok (.getfield 7, 3) := by decide +kernel
theorem dX4_find_34 : decode cX4_find 34 = .ok (.iload_n 1, 1) := by decide +kernel
theorem dX4_find_35 : decode cX4_find 35 = .ok (.iaload, 1) := by decide +kernel
theorem dX4_find_36 : decode cX4_find 36 = .ok (.if_icmp .ne 19, 3) := by decide +kernel
theorem dX4_find_39 : decode cX4_find 39 = .ok (.aload_n 0, 1) := by decide +kernel
theorem dX4_find_40 : decode cX4_find 40 = .ok (.getfield 28, 3) := by decide +kernel
theorem dX4_find_43 : decode cX4_find 43 = .ok (.iload 6, 2) := by decide +kernel
theorem dX4_find_45 : decode cX4_find 45 = .ok (.iaload, 1) := by decide +kernel
theorem dX4_find_46 : decode cX4_find 46 = .ok (.iload 4, 2) := by decide +kernel
theorem dX4_find_48 : decode cX4_find 48 = .ok (.if_icmp .ne 7, 3) := by decide +kernel
theorem dX4_find_51 : decode cX4_find 51 = .ok (.iconst 1, 1) := by decide +kernel
theorem dX4_find_52 : decode cX4_find 52 = .ok (.goto 4, 3) := by decide +kernel
theorem dX4_find_55 : decode cX4_find 55 = .ok (.iconst 0, 1) := by decide +kernel
theorem dX4_find_56 : decode cX4_find 56 = .ok (.istore 7, 2) := by decide +kernel
theorem dX4_find_58 : decode cX4_find 58 = .ok (.iload 7, 2) := by decide +kernel
theorem dX4_find_60 : decode cX4_find 60 = .ok (.ifCond .eq 40, 3) := by decide +kernel
theorem dX4_find_63 : decode cX4_find 63 = .ok (.aload_n 0, 1) := by decide +kernel
theorem dX4_find_64 : decode cX4_find 64 = .ok (.getfield 31, 3) := by decide +kernel
theorem dX4_find_67 : decode cX4_find 67 = .ok (.iload 6, 2) := by decide +kernel
theorem dX4_find_69 : decode cX4_find 69 = .ok (.iaload, 1) := by decide +kernel
theorem dX4_find_70 : decode cX4_find 70 = .ok (.iload_n 3, 1) := by decide +kernel
theorem dX4_find_71 : decode cX4_find 71 = .ok (.if_icmp .ne 29, 3) := by decide +kernel
theorem dX4_find_74 : decode cX4_find 74 = .ok (.aload_n 0, 1) := by decide +kernel
theorem dX4_find_75 : decode cX4_find 75 = .ok (.getfield 34, 3) := by decide +kernel
theorem dX4_find_78 : decode cX4_find 78 = .ok (.iload 6, 2) := by decide +kernel
theorem dX4_find_80 : decode cX4_find 80 = .ok (.iaload, 1) := by decide +kernel
theorem dX4_find_81 : decode cX4_find 81 = .ok (.iload 5, 2) := by decide +kernel
theorem dX4_find_83 : decode cX4_find 83 = .ok (.if_icmp .ne 17, 3) := by decide +kernel
theorem dX4_find_86 : decode cX4_find 86 = .ok (.aload_n 0, 1) := by decide +kernel
theorem dX4_find_87 : decode cX4_find 87 = .ok (.getfield 37, 3) := by decide +kernel
theorem dX4_find_90 : decode cX4_find 90 = .ok (.iload 6, 2) := by decide +kernel
theorem dX4_find_92 : decode cX4_find 92 = .ok (.iaload, 1) := by decide +kernel
theorem dX4_find_93 : decode cX4_find 93 = .ok (.iload_n 2, 1) := by decide +kernel
theorem dX4_find_94 : decode cX4_find 94 = .ok (.if_icmp .ne 6, 3) := by decide +kernel
theorem dX4_find_97 : decode cX4_find 97 = .ok (.iload 6, 2) := by decide +kernel
theorem dX4_find_99 : decode cX4_find 99 = .ok (.ireturn, 1) := by decide +kernel
theorem dX4_find_100 : decode cX4_find 100 = .ok (.iinc 6 1, 3) := by decide +kernel
theorem dX4_find_103 : decode cX4_find 103 = .ok (.goto (-100), 3) := by decide +kernel
theorem dX4_find_106 : decode cX4_find 106 = .ok (.aload_n 0, 1) := by decide +kernel
theorem dX4_find_107 : decode cX4_find 107 = .ok (.getfield 74, 3) := by decide +kernel
theorem dX4_find_110 : decode cX4_find 110 = .ok (.ireturn, 1) := by decide +kernel
theorem dX4_has_0 : decode cX4_has 0 = .ok (.aload_n 0, 1) := by decide +kernel
theorem dX4_has_1 : decode cX4_has 1 = .ok (.getfield 44, 3) := by decide +kernel
theorem dX4_has_4 : decode cX4_has 4 = .ok (.bipush 120, 2) := by decide +kernel
theorem dX4_has_6 : decode cX4_has 6 = .ok (.iload_n 1, 1) := by decide +kernel
theorem dX4_has_7 : decode cX4_has 7 = .ok (.imul, 1) := by decide +kernel
theorem dX4_has_8 : decode cX4_has 8 = .ok (.iload_n 2, 1) := by decide +kernel
theorem dX4_has_9 : decode cX4_has 9 = .ok (.iadd, 1) := by decide +kernel
theorem dX4_has_10 : decode cX4_has 10 = .ok (.iaload, 1) := by decide +kernel
theorem dX4_has_11 : decode cX4_has 11 = .ok (.ifCond .eq 7, 3) := by decide +kernel
theorem dX4_has_14 : decode cX4_has 14 = .ok (.iconst 1, 1) := by decide +kernel
theorem dX4_has_15 : decode cX4_has 15 = .ok (.goto 4, 3) := by decide +kernel
theorem dX4_has_18 : decode cX4_has 18 = .ok (.iconst 0, 1) := by decide +kernel
theorem dX4_has_19 : decode cX4_has 19 = .ok (.ireturn, 1) := by decide +kernel
theorem dX4_areRivals_0 : decode cX4_areRivals 0 = .ok (.iload_n 1, 1) := by decide +kernel
theorem dX4_areRivals_1 : decode cX4_areRivals 1 = .ok (.iload_n 2, 1) := by decide +kernel
theorem dX4_areRivals_2 : decode cX4_areRivals 2 = .ok (.if_icmp .eq 52, 3) := by decide +kernel
theorem dX4_areRivals_5 : decode cX4_areRivals 5 = .ok (.aload_n 0, 1) := by decide +kernel
theorem dX4_areRivals_6 : decode cX4_areRivals 6 = .ok (.getfield 22, 3) := by decide +kernel
theorem dX4_areRivals_9 : decode cX4_areRivals 9 = .ok (.iload_n 1, 1) := by decide +kernel
theorem dX4_areRivals_10 : decode cX4_areRivals 10 = .ok (.iaload, 1) := by decide +kernel
theorem dX4_areRivals_11 : decode cX4_areRivals 11 = .ok (.aload_n 0, 1) := by decide +kernel
theorem dX4_areRivals_12 : decode cX4_areRivals 12 = .ok (.getfield 22, 3) := by decide +kernel
theorem dX4_areRivals_15 : decode cX4_areRivals 15 = .ok (.iload_n 2, 1) := by decide +kernel
theorem dX4_areRivals_16 : decode cX4_areRivals 16 = .ok (.iaload, 1) := by decide +kernel
theorem dX4_areRivals_17 : decode cX4_areRivals 17 = .ok (.if_icmp .ne 37, 3) := by decide +kernel
theorem dX4_areRivals_20 : decode cX4_areRivals 20 = .ok (.aload_n 0, 1) := by decide +kernel
theorem dX4_areRivals_21 : decode cX4_areRivals 21 = .ok (.getfield 25, 3) := by decide +kernel
theorem dX4_areRivals_24 : decode cX4_areRivals 24 = .ok (.iload_n 1, 1) := by decide +kernel
theorem dX4_areRivals_25 : decode cX4_areRivals 25 = .ok (.iaload, 1) := by decide +kernel
theorem dX4_areRivals_26 : decode cX4_areRivals 26 = .ok (.aload_n 0, 1) := by decide +kernel
theorem dX4_areRivals_27 : decode cX4_areRivals 27 = .ok (.getfield 25, 3) := by decide +kernel
theorem dX4_areRivals_30 : decode cX4_areRivals 30 = .ok (.iload_n 2, 1) := by decide +kernel
theorem dX4_areRivals_31 : decode cX4_areRivals 31 = .ok (.iaload, 1) := by decide +kernel
theorem dX4_areRivals_32 : decode cX4_areRivals 32 = .ok (.if_icmp .ne 22, 3) := by decide +kernel
theorem dX4_areRivals_35 : decode cX4_areRivals 35 = .ok (.aload_n 0, 1) := by decide +kernel
theorem dX4_areRivals_36 : decode cX4_areRivals 36 = .ok (.getfield 28, 3) := by decide +kernel
theorem dX4_areRivals_39 : decode cX4_areRivals 39 = .ok (.iload_n 1, 1) := by decide +kernel
theorem dX4_areRivals_40 : decode cX4_areRivals 40 = .ok (.iaload, 1) := by decide +kernel
theorem dX4_areRivals_41 : decode cX4_areRivals 41 = .ok (.aload_n 0, 1) := by decide +kernel
theorem dX4_areRivals_42 : decode cX4_areRivals 42 = .ok (.getfield 28, 3) := by decide +kernel
theorem dX4_areRivals_45 : decode cX4_areRivals 45 = .ok (.iload_n 2, 1) := by decide +kernel
theorem dX4_areRivals_46 : decode cX4_areRivals 46 = .ok (.iaload, 1) := by decide +kernel
theorem dX4_areRivals_47 : decode cX4_areRivals 47 = .ok (.if_icmp .ne 7, 3) := by decide +kernel
theorem dX4_areRivals_50 : decode cX4_areRivals 50 = .ok (.iconst 1, 1) := by decide +kernel
theorem dX4_areRivals_51 : decode cX4_areRivals 51 = .ok (.goto 4, 3) := by decide +kernel
theorem dX4_areRivals_54 : decode cX4_areRivals 54 = .ok (.iconst 0, 1) := by decide +kernel
theorem dX4_areRivals_55 : decode cX4_areRivals 55 = .ok (.ireturn, 1) := by decide +kernel
theorem dX4_comes_0 : decode cX4_comes 0 = .ok (.aload_n 0, 1) := by decide +kernel
theorem dX4_comes_1 : decode cX4_comes 1 = .ok (.getfield 50, 3) := by decide +kernel
theorem dX4_comes_4 : decode cX4_comes 4 = .ok (.iload_n 1, 1) := by decide +kernel
theorem dX4_comes_5 : decode cX4_comes 5 = .ok (.baload, 1) := by decide +kernel
theorem dX4_comes_6 : decode cX4_comes 6 = .ok (.ifCond .eq 16, 3) := by decide +kernel
theorem dX4_comes_9 : decode cX4_comes 9 = .ok (.aload_n 0, 1) := by decide +kernel
theorem dX4_comes_10 : decode cX4_comes 10 = .ok (.getfield 44, 3) := by decide +kernel
theorem dX4_comes_13 : decode cX4_comes 13 = .ok (.bipush 120, 2) := by decide +kernel
theorem dX4_comes_15 : decode cX4_comes 15 = .ok (.iload_n 1, 1) := by decide +kernel
theorem dX4_comes_16 : decode cX4_comes 16 = .ok (.imul, 1) := by decide +kernel
theorem dX4_comes_17 : decode cX4_comes 17 = .ok (.iload_n 2, 1) := by decide +kernel
theorem dX4_comes_18 : decode cX4_comes 18 = .ok (.iadd, 1) := by decide +kernel
theorem dX4_comes_19 : decode cX4_comes 19 = .ok (.iconst (-1), 1) := by decide +kernel
theorem dX4_comes_20 : decode cX4_comes 20 = .ok (.iastore, 1) := by decide +kernel
theorem dX4_comes_21 : decode cX4_comes 21 = .ok (.return_, 1) := by decide +kernel
theorem dX4_comes_22 : decode cX4_comes 22 = .ok (.aload_n 0, 1) := by decide +kernel
theorem dX4_comes_23 : decode cX4_comes 23 = .ok (.getfield 47, 3) := by decide +kernel
theorem dX4_comes_26 : decode cX4_comes 26 = .ok (.iload_n 1, 1) := by decide +kernel
theorem dX4_comes_27 : decode cX4_comes 27 = .ok (.dup2, 1) := by decide +kernel
theorem dX4_comes_28 : decode cX4_comes 28 = .ok (.iaload, 1) := by decide +kernel
theorem dX4_comes_29 : decode cX4_comes 29 = .ok (.iconst 1, 1) := by decide +kernel
theorem dX4_comes_30 : decode cX4_comes 30 = .ok (.iadd, 1) := by decide +kernel
theorem dX4_comes_31 : decode cX4_comes 31 = .ok (.iastore, 1) := by decide +kernel
theorem dX4_comes_32 : decode cX4_comes 32 = .ok (.aload_n 0, 1) := by decide +kernel
theorem dX4_comes_33 : decode cX4_comes 33 = .ok (.getfield 44, 3) := by decide +kernel
theorem dX4_comes_36 : decode cX4_comes 36 = .ok (.bipush 120, 2) := by decide +kernel
theorem dX4_comes_38 : decode cX4_comes 38 = .ok (.iload_n 1, 1) := by decide +kernel
theorem dX4_comes_39 : decode cX4_comes 39 = .ok (.imul, 1) := by decide +kernel
theorem dX4_comes_40 : decode cX4_comes 40 = .ok (.iload_n 2, 1) := by decide +kernel
theorem dX4_comes_41 : decode cX4_comes 41 = .ok (.iadd, 1) := by decide +kernel
theorem dX4_comes_42 : decode cX4_comes 42 = .ok (.aload_n 0, 1) := by decide +kernel
theorem dX4_comes_43 : decode cX4_comes 43 = .ok (.getfield 47, 3) := by decide +kernel
theorem dX4_comes_46 : decode cX4_comes 46 = .ok (.iload_n 1, 1) := by decide +kernel
theorem dX4_comes_47 : decode cX4_comes 47 = .ok (.iaload, 1) := by decide +kernel
theorem dX4_comes_48 : decode cX4_comes 48 = .ok (.iastore, 1) := by decide +kernel
theorem dX4_comes_49 : decode cX4_comes 49 = .ok (.return_, 1) := by decide +kernel
theorem dX4_restart_0 : decode cX4_restart 0 = .ok (.iload_n 1, 1) := by decide +kernel
theorem dX4_restart_1 : decode cX4_restart 1 = .ok (.invokestatic 61, 3) := by decide +kernel
theorem dX4_restart_4 : decode cX4_restart 4 = .ok (.ifCond .ne 7, 3) := by decide +kernel
theorem dX4_restart_7 : decode cX4_restart 7 = .ok (.iconst 1, 1) := by decide +kernel
theorem dX4_restart_8 : decode cX4_restart 8 = .ok (.goto 4, 3) := by decide +kernel
theorem dX4_restart_11 : decode cX4_restart 11 = .ok (.iconst 0, 1) := by decide +kernel
theorem dX4_restart_12 : decode cX4_restart 12 = .ok (.istore_n 2, 1) := by decide +kernel
theorem dX4_restart_13 : decode cX4_restart 13 = .ok (.aload_n 0, 1) := by decide +kernel
theorem dX4_restart_14 : decode cX4_restart 14 = .ok (.iload_n 2, 1) := by decide +kernel
theorem dX4_restart_15 : decode cX4_restart 15 = .ok (.iload_n 2, 1) := by decide +kernel
theorem dX4_restart_16 : decode cX4_restart 16 = .ok (.ifCond .ne 25, 3) := by decide +kernel
theorem dX4_restart_19 : decode cX4_restart 19 = .ok (.aload_n 0, 1) := by decide +kernel
theorem dX4_restart_20 : decode cX4_restart 20 = .ok (.getfield 7, 3) := by decide +kernel
theorem dX4_restart_23 : decode cX4_restart 23 = .ok (.iload_n 2, 1) := by decide +kernel
theorem dX4_restart_24 : decode cX4_restart 24 = .ok (.ifCond .eq 7, 3) := by decide +kernel
theorem dX4_restart_27 : decode cX4_restart 27 = .ok (.iconst 0, 1) := by decide +kernel
theorem dX4_restart_28 : decode cX4_restart 28 = .ok (.goto 4, 3) := by decide +kernel
theorem dX4_restart_31 : decode cX4_restart 31 = .ok (.iload_n 1, 1) := by decide +kernel
theorem dX4_restart_32 : decode cX4_restart 32 = .ok (.iaload, 1) := by decide +kernel
theorem dX4_restart_33 : decode cX4_restart 33 = .ok (.iconst 3, 1) := by decide +kernel
theorem dX4_restart_34 : decode cX4_restart 34 = .ok (.if_icmp .ne 7, 3) := by decide +kernel
theorem dX4_restart_37 : decode cX4_restart 37 = .ok (.iconst 1, 1) := by decide +kernel
theorem dX4_restart_38 : decode cX4_restart 38 = .ok (.goto 4, 3) := by decide +kernel
theorem dX4_restart_41 : decode cX4_restart 41 = .ok (.iconst 0, 1) := by decide +kernel
theorem dX4_restart_42 : decode cX4_restart 42 = .ok (.iconst 0, 1) := by decide +kernel
theorem dX4_restart_43 : decode cX4_restart 43 = .ok (.iconst 0, 1) := by decide +kernel
theorem dX4_restart_44 : decode cX4_restart 44 = .ok (.invokevirtual 66, 3) := by decide +kernel
theorem dX4_restart_47 : decode cX4_restart 47 = .ok (.ifCond .eq 5, 3) := by decide +kernel
theorem dX4_restart_50 : decode cX4_restart 50 = .ok (.iconst 0, 1) := by decide +kernel
theorem dX4_restart_51 : decode cX4_restart 51 = .ok (.ireturn, 1) := by decide +kernel
theorem dX4_restart_52 : decode cX4_restart 52 = .ok (.aload_n 0, 1) := by decide +kernel
theorem dX4_restart_53 : decode cX4_restart 53 = .ok (.getfield 7, 3) := by decide +kernel
theorem dX4_restart_56 : decode cX4_restart 56 = .ok (.iload_n 1, 1) := by decide +kernel
theorem dX4_restart_57 : decode cX4_restart 57 = .ok (.dup2, 1) := by decide +kernel
theorem dX4_restart_58 : decode cX4_restart 58 = .ok (.iaload, 1) := by decide +kernel
theorem dX4_restart_59 : decode cX4_restart 59 = .ok (.iconst 1, 1) := by decide +kernel
theorem dX4_restart_60 : decode cX4_restart 60 = .ok (.iadd, 1) := by decide +kernel
theorem dX4_restart_61 : decode cX4_restart 61 = .ok (.iastore, 1) := by decide +kernel
theorem dX4_restart_62 : decode cX4_restart 62 = .ok (.aload_n 0, 1) := by decide +kernel
theorem dX4_restart_63 : decode cX4_restart 63 = .ok (.getfield 7, 3) := by decide +kernel
theorem dX4_restart_66 : decode cX4_restart 66 = .ok (.iload_n 1, 1) := by decide +kernel
theorem dX4_restart_67 : decode cX4_restart 67 = .ok (.iaload, 1) := by decide +kernel
theorem dX4_restart_68 : decode cX4_restart 68 = .ok (.ireturn, 1) := by decide +kernel
theorem dX4_join_0 : decode cX4_join 0 = .ok (.aload_n 0, 1) := by decide +kernel
theorem dX4_join_1 : decode cX4_join 1 = .ok (.iload_n 1, 1) := by decide +kernel
theorem dX4_join_2 : decode cX4_join 2 = .ok (.invokestatic 77, 3) := by decide +kernel
theorem dX4_join_5 : decode cX4_join 5 = .ok (.ifCond .eq 15, 3) := by decide +kernel
theorem dX4_join_8 : decode cX4_join 8 = .ok (.iload_n 2, 1) := by decide +kernel
theorem dX4_join_9 : decode cX4_join 9 = .ok (.invokestatic 77, 3) := by decide +kernel
theorem dX4_join_12 : decode cX4_join 12 = .ok (.ifCond .eq 8, 3) := by decide +kernel
theorem dX4_join_15 : decode cX4_join 15 = .ok (.iload_n 1, 1) := by decide +kernel
theorem dX4_join_16 : decode cX4_join 16 = .ok (.iload_n 2, 1) := by decide +kernel
theorem dX4_join_17 : decode cX4_join 17 = .ok (.if_icmp .ne 7, 3) := by decide +kernel
theorem dX4_join_20 : decode cX4_join 20 = .ok (.iconst 1, 1) := by decide +kernel
theorem dX4_join_21 : decode cX4_join 21 = .ok (.goto 4, 3) := by decide +kernel
theorem dX4_join_24 : decode cX4_join 24 = .ok (.iconst 0, 1) := by decide +kernel
theorem dX4_join_25 : decode cX4_join 25 = .ok (.iconst 0, 1) := by decide +kernel
theorem dX4_join_26 : decode cX4_join 26 = .ok (.iconst 0, 1) := by decide +kernel
theorem dX4_join_27 : decode cX4_join 27 = .ok (.iconst 0, 1) := by decide +kernel
theorem dX4_join_28 : decode cX4_join 28 = .ok (.invokevirtual 66, 3) := by decide +kernel
theorem dX4_join_31 : decode cX4_join 31 = .ok (.ifCond .eq 5, 3) := by decide +kernel
theorem dX4_join_34 : decode cX4_join 34 = .ok (.iconst 0, 1) := by decide +kernel
theorem dX4_join_35 : decode cX4_join 35 = .ok (.ireturn, 1) := by decide +kernel
theorem dX4_join_36 : decode cX4_join 36 = .ok (.iconst 0, 1) := by decide +kernel
theorem dX4_join_37 : decode cX4_join 37 = .ok (.istore_n 3, 1) := by decide +kernel
theorem dX4_join_38 : decode cX4_join 38 = .ok (.iconst 0, 1) := by decide +kernel
theorem dX4_join_39 : decode cX4_join 39 = .ok (.istore 4, 2) := by decide +kernel
theorem dX4_join_41 : decode cX4_join 41 = .ok (.iload 4, 2) := by decide +kernel
theorem dX4_join_43 : decode cX4_join 43 = .ok (.aload_n 0, 1) := by decide +kernel
theorem dX4_join_44 : decode cX4_join 44 = .ok (.getfield 74, 3) := by decide +kernel
theorem dX4_join_47 : decode cX4_join 47 = .ok (.if_icmp .ge 44, 3) := by decide +kernel
theorem dX4_join_50 : decode cX4_join 50 = .ok (.aload_n 0, 1) := by decide +kernel
theorem dX4_join_51 : decode cX4_join 51 = .ok (.getfield 44, 3) := by decide +kernel
theorem dX4_join_54 : decode cX4_join 54 = .ok (.bipush 120, 2) := by decide +kernel
theorem dX4_join_56 : decode cX4_join 56 = .ok (.iload_n 2, 1) := by decide +kernel
theorem dX4_join_57 : decode cX4_join 57 = .ok (.imul, 1) := by decide +kernel
theorem dX4_join_58 : decode cX4_join 58 = .ok (.iload 4, 2) := by decide +kernel
theorem dX4_join_60 : decode cX4_join 60 = .ok (.iadd, 1) := by decide +kernel
theorem dX4_join_61 : decode cX4_join 61 = .ok (.iaload, 1) := by decide +kernel
theorem dX4_join_62 : decode cX4_join 62 = .ok (.ifCond .le 23, 3) := by decide +kernel
theorem dX4_join_65 : decode cX4_join 65 = .ok (.aload_n 0, 1) := by decide +kernel
theorem dX4_join_66 : decode cX4_join 66 = .ok (.iload_n 1, 1) := by decide +kernel
theorem dX4_join_67 : decode cX4_join 67 = .ok (.iload 4, 2) := by decide +kernel
theorem dX4_join_69 : decode cX4_join 69 = .ok (.invokevirtual 90, 3) := by decide +kernel
theorem dX4_join_72 : decode cX4_join 72 = .ok (.ifCond .ne 13, 3) := by decide +kernel
theorem dX4_join_75 : decode cX4_join 75 = .ok (.aload_n 0, 1) := by decide +kernel
theorem dX4_join_76 : decode cX4_join 76 = .ok (.iload_n 1, 1) := by decide +kernel
theorem dX4_join_77 : decode cX4_join 77 = .ok (.iload 4, 2) := by decide +kernel
theorem dX4_join_79 : decode cX4_join 79 = .ok (.invokevirtual 97, 3) := by decide +kernel
theorem dX4_join_82 : decode cX4_join 82 = .ok (.iinc 3 1, 3) := by decide +kernel
theorem dX4_join_85 : decode cX4_join 85 = .ok (.iinc 4 1, 3) := by decide +kernel
theorem dX4_join_88 : decode cX4_join 88 = .ok (.goto (-47), 3) := by decide +kernel
theorem dX4_join_91 : decode cX4_join 91 = .ok (.iload_n 3, 1) := by decide +kernel
theorem dX4_join_92 : decode cX4_join 92 = .ok (.ireturn, 1) := by decide +kernel
theorem dX4_batch_0 : decode cX4_batch 0 = .ok (.iload_n 1, 1) := by decide +kernel
theorem dX4_batch_1 : decode cX4_batch 1 = .ok (.invokestatic 77, 3) := by decide +kernel
theorem dX4_batch_4 : decode cX4_batch 4 = .ok (.ifCond .ne 7, 3) := by decide +kernel
theorem dX4_batch_7 : decode cX4_batch 7 = .ok (.iconst 1, 1) := by decide +kernel
theorem dX4_batch_8 : decode cX4_batch 8 = .ok (.goto 4, 3) := by decide +kernel
theorem dX4_batch_11 : decode cX4_batch 11 = .ok (.iconst 0, 1) := by decide +kernel
theorem dX4_batch_12 : decode cX4_batch 12 = .ok (.istore_n 3, 1) := by decide +kernel
theorem dX4_batch_13 : decode cX4_batch 13 = .ok (.aload_n 0, 1) := by decide +kernel
theorem dX4_batch_14 : decode cX4_batch 14 = .ok (.iload_n 3, 1) := by decide +kernel
theorem dX4_batch_15 : decode cX4_batch 15 = .ok (.iload_n 3, 1) := by decide +kernel
theorem dX4_batch_16 : decode cX4_batch 16 = .ok (.ifCond .ne 25, 3) := by decide +kernel
theorem dX4_batch_19 : decode cX4_batch 19 = .ok (.aload_n 0, 1) := by decide +kernel
theorem dX4_batch_20 : decode cX4_batch 20 = .ok (.getfield 50, 3) := by decide +kernel
theorem dX4_batch_23 : decode cX4_batch 23 = .ok (.iload_n 3, 1) := by decide +kernel
theorem dX4_batch_24 : decode cX4_batch 24 = .ok (.ifCond .eq 7, 3) := by decide +kernel
theorem dX4_batch_27 : decode cX4_batch 27 = .ok (.iconst 0, 1) := by decide +kernel
theorem dX4_batch_28 : decode cX4_batch 28 = .ok (.goto 4, 3) := by decide +kernel
theorem dX4_batch_31 : decode cX4_batch 31 = .ok (.iload_n 1, 1) := by decide +kernel
theorem dX4_batch_32 : decode cX4_batch 32 = .ok (.baload, 1) := by decide +kernel
theorem dX4_batch_33 : decode cX4_batch 33 = .ok (.iload_n 2, 1) := by decide +kernel
theorem dX4_batch_34 : decode cX4_batch 34 = .ok (.if_icmp .ne 7, 3) := by decide +kernel
theorem dX4_batch_37 : decode cX4_batch 37 = .ok (.iconst 1, 1) := by decide +kernel
theorem dX4_batch_38 : decode cX4_batch 38 = .ok (.goto 4, 3) := by decide +kernel
theorem dX4_batch_41 : decode cX4_batch 41 = .ok (.iconst 0, 1) := by decide +kernel
theorem dX4_batch_42 : decode cX4_batch 42 = .ok (.iconst 0, 1) := by decide +kernel
theorem dX4_batch_43 : decode cX4_batch 43 = .ok (.iconst 0, 1) := by decide +kernel
theorem dX4_batch_44 : decode cX4_batch 44 = .ok (.invokevirtual 66, 3) := by decide +kernel
theorem dX4_batch_47 : decode cX4_batch 47 = .ok (.ifCond .eq 5, 3) := by decide +kernel
theorem dX4_batch_50 : decode cX4_batch 50 = .ok (.iconst 0, 1) := by decide +kernel
theorem dX4_batch_51 : decode cX4_batch 51 = .ok (.ireturn, 1) := by decide +kernel
theorem dX4_batch_52 : decode cX4_batch 52 = .ok (.aload_n 0, 1) := by decide +kernel
theorem dX4_batch_53 : decode cX4_batch 53 = .ok (.getfield 50, 3) := by decide +kernel
theorem dX4_batch_56 : decode cX4_batch 56 = .ok (.iload_n 1, 1) := by decide +kernel
theorem dX4_batch_57 : decode cX4_batch 57 = .ok (.iload_n 2, 1) := by decide +kernel
theorem dX4_batch_58 : decode cX4_batch 58 = .ok (.bastore, 1) := by decide +kernel
theorem dX4_batch_59 : decode cX4_batch 59 = .ok (.iconst 0, 1) := by decide +kernel
theorem dX4_batch_60 : decode cX4_batch 60 = .ok (.istore 4, 2) := by decide +kernel
theorem dX4_batch_62 : decode cX4_batch 62 = .ok (.iconst 0, 1) := by decide +kernel
theorem dX4_batch_63 : decode cX4_batch 63 = .ok (.istore 5, 2) := by decide +kernel
theorem dX4_batch_65 : decode cX4_batch 65 = .ok (.iload 5, 2) := by decide +kernel
theorem dX4_batch_67 : decode cX4_batch 67 = .ok (.aload_n 0, 1) := by decide +kernel
theorem dX4_batch_68 : decode cX4_batch 68 = .ok (.getfield 74, 3) := by decide +kernel
theorem dX4_batch_71 : decode cX4_batch 71 = .ok (.if_icmp .ge 34, 3) := by decide +kernel
theorem dX4_batch_74 : decode cX4_batch 74 = .ok (.iload 4, 2) := by decide +kernel
theorem dX4_batch_76 : decode cX4_batch 76 = .ok (.aload_n 0, 1) := by decide +kernel
theorem dX4_batch_77 : decode cX4_batch 77 = .ok (.getfield 44, 3) := by decide +kernel
theorem dX4_batch_80 : decode cX4_batch 80 = .ok (.bipush 120, 2) := by decide +kernel
theorem dX4_batch_82 : decode cX4_batch 82 = .ok (.iload_n 1, 1) := by decide +kernel
theorem dX4_batch_83 : decode cX4_batch 83 = .ok (.imul, 1) := by decide +kernel
theorem dX4_batch_84 : decode cX4_batch 84 = .ok (.iload 5, 2) := by decide +kernel
theorem dX4_batch_86 : decode cX4_batch 86 = .ok (.iadd, 1) := by decide +kernel
theorem dX4_batch_87 : decode cX4_batch 87 = .ok (.iaload, 1) := by decide +kernel
theorem dX4_batch_88 : decode cX4_batch 88 = .ok (.ifCond .ge 7, 3) := by decide +kernel
theorem dX4_batch_91 : decode cX4_batch 91 = .ok (.iconst 1, 1) := by decide +kernel
theorem dX4_batch_92 : decode cX4_batch 92 = .ok (.goto 4, 3) := by decide +kernel
theorem dX4_batch_95 : decode cX4_batch 95 = .ok (.iconst 0, 1) := by decide +kernel
theorem dX4_batch_96 : decode cX4_batch 96 = .ok (.iadd, 1) := by decide +kernel
theorem dX4_batch_97 : decode cX4_batch 97 = .ok (.istore 4, 2) := by decide +kernel
theorem dX4_batch_99 : decode cX4_batch 99 = .ok (.iinc 5 1, 3) := by decide +kernel
theorem dX4_batch_102 : decode cX4_batch 102 = .ok (.goto (-37), 3) := by decide +kernel
theorem dX4_batch_105 : decode cX4_batch 105 = .ok (.iload 4, 2) := by decide +kernel
theorem dX4_batch_107 : decode cX4_batch 107 = .ok (.ifCond .le 13, 3) := by decide +kernel
theorem dX4_batch_110 : decode cX4_batch 110 = .ok (.aload_n 0, 1) := by decide +kernel
theorem dX4_batch_111 : decode cX4_batch 111 = .ok (.getfield 47, 3) := by decide +kernel
theorem dX4_batch_114 : decode cX4_batch 114 = .ok (.iload_n 1, 1) := by decide +kernel
theorem dX4_batch_115 : decode cX4_batch 115 = .ok (.dup2, 1) := by decide +kernel
theorem dX4_batch_116 : decode cX4_batch 116 = .ok (.iaload, 1) := by decide +kernel
theorem dX4_batch_117 : decode cX4_batch 117 = .ok (.iconst 1, 1) := by decide +kernel
theorem dX4_batch_118 : decode cX4_batch 118 = .ok (.iadd, 1) := by decide +kernel
theorem dX4_batch_119 : decode cX4_batch 119 = .ok (.iastore, 1) := by decide +kernel
theorem dX4_batch_120 : decode cX4_batch 120 = .ok (.iconst 0, 1) := by decide +kernel
theorem dX4_batch_121 : decode cX4_batch 121 = .ok (.istore 5, 2) := by decide +kernel
theorem dX4_batch_123 : decode cX4_batch 123 = .ok (.iload 5, 2) := by decide +kernel
theorem dX4_batch_125 : decode cX4_batch 125 = .ok (.aload_n 0, 1) := by decide +kernel
theorem dX4_batch_126 : decode cX4_batch 126 = .ok (.getfield 74, 3) := by decide +kernel
theorem dX4_batch_129 : decode cX4_batch 129 = .ok (.if_icmp .ge 42, 3) := by decide +kernel
theorem dX4_batch_132 : decode cX4_batch 132 = .ok (.aload_n 0, 1) := by decide +kernel
theorem dX4_batch_133 : decode cX4_batch 133 = .ok (.getfield 44, 3) := by decide +kernel
theorem dX4_batch_136 : decode cX4_batch 136 = .ok (.bipush 120, 2) := by decide +kernel
theorem dX4_batch_138 : decode cX4_batch 138 = .ok (.iload_n 1, 1) := by decide +kernel
theorem dX4_batch_139 : decode cX4_batch 139 = .ok (.imul, 1) := by decide +kernel
theorem dX4_batch_140 : decode cX4_batch 140 = .ok (.iload 5, 2) := by decide +kernel
theorem dX4_batch_142 : decode cX4_batch 142 = .ok (.iadd, 1) := by decide +kernel
theorem dX4_batch_143 : decode cX4_batch 143 = .ok (.iaload, 1) := by decide +kernel
theorem dX4_batch_144 : decode cX4_batch 144 = .ok (.ifCond .ge 21, 3) := by decide +kernel
theorem dX4_batch_147 : decode cX4_batch 147 = .ok (.aload_n 0, 1) := by decide +kernel
theorem dX4_batch_148 : decode cX4_batch 148 = .ok (.getfield 44, 3) := by decide +kernel
theorem dX4_batch_151 : decode cX4_batch 151 = .ok (.bipush 120, 2) := by decide +kernel
theorem dX4_batch_153 : decode cX4_batch 153 = .ok (.iload_n 1, 1) := by decide +kernel
theorem dX4_batch_154 : decode cX4_batch 154 = .ok (.imul, 1) := by decide +kernel
theorem dX4_batch_155 : decode cX4_batch 155 = .ok (.iload 5, 2) := by decide +kernel
theorem dX4_batch_157 : decode cX4_batch 157 = .ok (.iadd, 1) := by decide +kernel
theorem dX4_batch_158 : decode cX4_batch 158 = .ok (.aload_n 0, 1) := by decide +kernel
theorem dX4_batch_159 : decode cX4_batch 159 = .ok (.getfield 47, 3) := by decide +kernel
theorem dX4_batch_162 : decode cX4_batch 162 = .ok (.iload_n 1, 1) := by decide +kernel
theorem dX4_batch_163 : decode cX4_batch 163 = .ok (.iaload, 1) := by decide +kernel
theorem dX4_batch_164 : decode cX4_batch 164 = .ok (.iastore, 1) := by decide +kernel
theorem dX4_batch_165 : decode cX4_batch 165 = .ok (.iinc 5 1, 3) := by decide +kernel
theorem dX4_batch_168 : decode cX4_batch 168 = .ok (.goto (-45), 3) := by decide +kernel
theorem dX4_batch_171 : decode cX4_batch 171 = .ok (.aload_n 0, 1) := by decide +kernel
theorem dX4_batch_172 : decode cX4_batch 172 = .ok (.getfield 47, 3) := by decide +kernel
theorem dX4_batch_175 : decode cX4_batch 175 = .ok (.iload_n 1, 1) := by decide +kernel
theorem dX4_batch_176 : decode cX4_batch 176 = .ok (.iaload, 1) := by decide +kernel
theorem dX4_batch_177 : decode cX4_batch 177 = .ok (.ireturn, 1) := by decide +kernel
theorem dX4_same_0 : decode cX4_same 0 = .ok (.aload_n 0, 1) := by decide +kernel
theorem dX4_same_1 : decode cX4_same 1 = .ok (.iload_n 1, 1) := by decide +kernel
theorem dX4_same_2 : decode cX4_same 2 = .ok (.invokestatic 77, 3) := by decide +kernel
theorem dX4_same_5 : decode cX4_same 5 = .ok (.ifCond .eq 10, 3) := by decide +kernel
theorem dX4_same_8 : decode cX4_same 8 = .ok (.iload_n 2, 1) := by decide +kernel
theorem dX4_same_9 : decode cX4_same 9 = .ok (.invokestatic 77, 3) := by decide +kernel
theorem dX4_same_12 : decode cX4_same 12 = .ok (.ifCond .ne 7, 3) := by decide +kernel
theorem dX4_same_15 : decode cX4_same 15 = .ok (.iconst 1, 1) := by decide +kernel
theorem dX4_same_16 : decode cX4_same 16 = .ok (.goto 4, 3) := by decide +kernel
theorem dX4_same_19 : decode cX4_same 19 = .ok (.iconst 0, 1) := by decide +kernel
theorem dX4_same_20 : decode cX4_same 20 = .ok (.iconst 0, 1) := by decide +kernel
theorem dX4_same_21 : decode cX4_same 21 = .ok (.iconst 0, 1) := by decide +kernel
theorem dX4_same_22 : decode cX4_same 22 = .ok (.iconst 0, 1) := by decide +kernel
theorem dX4_same_23 : decode cX4_same 23 = .ok (.invokevirtual 66, 3) := by decide +kernel
theorem dX4_same_26 : decode cX4_same 26 = .ok (.ifCond .eq 5, 3) := by decide +kernel
theorem dX4_same_29 : decode cX4_same 29 = .ok (.iconst 0, 1) := by decide +kernel
theorem dX4_same_30 : decode cX4_same 30 = .ok (.ireturn, 1) := by decide +kernel
theorem dX4_same_31 : decode cX4_same 31 = .ok (.iconst 1, 1) := by decide +kernel
theorem dX4_same_32 : decode cX4_same 32 = .ok (.istore_n 3, 1) := by decide +kernel
theorem dX4_same_33 : decode cX4_same 33 = .ok (.iconst 0, 1) := by decide +kernel
theorem dX4_same_34 : decode cX4_same 34 = .ok (.istore 4, 2) := by decide +kernel
theorem dX4_same_36 : decode cX4_same 36 = .ok (.iload 4, 2) := by decide +kernel
theorem dX4_same_38 : decode cX4_same 38 = .ok (.aload_n 0, 1) := by decide +kernel
theorem dX4_same_39 : decode cX4_same 39 = .ok (.getfield 74, 3) := by decide +kernel
theorem dX4_same_42 : decode cX4_same 42 = .ok (.if_icmp .ge 48, 3) := by decide +kernel
theorem dX4_same_45 : decode cX4_same 45 = .ok (.iload_n 3, 1) := by decide +kernel
theorem dX4_same_46 : decode cX4_same 46 = .ok (.ifCond .eq 36, 3) := by decide +kernel
theorem dX4_same_49 : decode cX4_same 49 = .ok (.aload_n 0, 1) := by decide +kernel
theorem dX4_same_50 : decode cX4_same 50 = .ok (.iload_n 1, 1) := by decide +kernel
theorem dX4_same_51 : decode cX4_same 51 = .ok (.iload 4, 2) := by decide +kernel
theorem dX4_same_53 : decode cX4_same 53 = .ok (.aload_n 0, 1) := by decide +kernel
theorem dX4_same_54 : decode cX4_same 54 = .ok (.getfield 47, 3) := by decide +kernel
theorem dX4_same_57 : decode cX4_same 57 = .ok (.iload_n 1, 1) := by decide +kernel
theorem dX4_same_58 : decode cX4_same 58 = .ok (.iaload, 1) := by decide +kernel
theorem dX4_same_59 : decode cX4_same 59 = .ok (.invokevirtual 101, 3) := by decide +kernel
theorem dX4_same_62 : decode cX4_same 62 = .ok (.aload_n 0, 1) := by decide +kernel
theorem dX4_same_63 : decode cX4_same 63 = .ok (.iload_n 2, 1) := by decide +kernel
theorem dX4_same_64 : decode cX4_same 64 = .ok (.iload 4, 2) := by decide +kernel
theorem dX4_same_66 : decode cX4_same 66 = .ok (.aload_n 0, 1) := by decide +kernel
theorem dX4_same_67 : decode cX4_same 67 = .ok (.getfield 47, 3) := by decide +kernel
theorem dX4_same_70 : decode cX4_same 70 = .ok (.iload_n 2, 1) := by decide +kernel
theorem dX4_same_71 : decode cX4_same 71 = .ok (.iaload, 1) := by decide +kernel
theorem dX4_same_72 : decode cX4_same 72 = .ok (.invokevirtual 101, 3) := by decide +kernel
theorem dX4_same_75 : decode cX4_same 75 = .ok (.if_icmp .ne 7, 3) := by decide +kernel
theorem dX4_same_78 : decode cX4_same 78 = .ok (.iconst 1, 1) := by decide +kernel
theorem dX4_same_79 : decode cX4_same 79 = .ok (.goto 4, 3) := by decide +kernel
theorem dX4_same_82 : decode cX4_same 82 = .ok (.iconst 0, 1) := by decide +kernel
theorem dX4_same_83 : decode cX4_same 83 = .ok (.istore_n 3, 1) := by decide +kernel
theorem dX4_same_84 : decode cX4_same 84 = .ok (.iinc 4 1, 3) := by decide +kernel
theorem dX4_same_87 : decode cX4_same 87 = .ok (.goto (-51), 3) := by decide +kernel
theorem dX4_same_90 : decode cX4_same 90 = .ok (.iload_n 3, 1) := by decide +kernel
theorem dX4_same_91 : decode cX4_same 91 = .ok (.ireturn, 1) := by decide +kernel
theorem dX4_sees_0 : decode cX4_sees 0 = .ok (.aload_n 0, 1) := by decide +kernel
theorem dX4_sees_1 : decode cX4_sees 1 = .ok (.getfield 44, 3) := by decide +kernel
theorem dX4_sees_4 : decode cX4_sees 4 = .ok (.bipush 120, 2) := by decide +kernel
theorem dX4_sees_6 : decode cX4_sees 6 = .ok (.iload_n 1, 1) := by decide +kernel
theorem dX4_sees_7 : decode cX4_sees 7 = .ok (.imul, 1) := by decide +kernel
theorem dX4_sees_8 : decode cX4_sees 8 = .ok (.iload_n 2, 1) := by decide +kernel
theorem dX4_sees_9 : decode cX4_sees 9 = .ok (.iadd, 1) := by decide +kernel
theorem dX4_sees_10 : decode cX4_sees 10 = .ok (.iaload, 1) := by decide +kernel
theorem dX4_sees_11 : decode cX4_sees 11 = .ok (.i2l, 1) := by decide +kernel
theorem dX4_sees_12 : decode cX4_sees 12 = .ok (.iconst 1, 1) := by decide +kernel
theorem dX4_sees_13 : decode cX4_sees 13 = .ok (.iload_n 3, 1) := by decide +kernel
theorem dX4_sees_14 : decode cX4_sees 14 = .ok (.invokestatic 57, 3) := by decide +kernel
theorem dX4_sees_17 : decode cX4_sees 17 = .ok (.ireturn, 1) := by decide +kernel
theorem dX4_conflicts_0 : decode cX4_conflicts 0 = .ok (.aload_n 0, 1) := by decide +kernel
theorem dX4_conflicts_1 : decode cX4_conflicts 1 = .ok (.iload_n 1, 1) := by decide +kernel
theorem dX4_conflicts_2 : decode cX4_conflicts 2 = .ok (.invokestatic 77, 3) := by decide +kernel
theorem dX4_conflicts_5 : decode cX4_conflicts 5 = .ok (.ifCond .ne 7, 3) := by decide +kernel
theorem dX4_conflicts_8 : decode cX4_conflicts 8 = .ok (.iconst 1, 1) := by decide +kernel
theorem dX4_conflicts_9 : decode cX4_conflicts 9 = .ok (.goto 4, 3) := by decide +kernel
theorem dX4_conflicts_12 : decode cX4_conflicts 12 = .ok (.iconst 0, 1) := by decide +kernel
theorem dX4_conflicts_13 : decode cX4_conflicts 13 = .ok (.iconst 0, 1) := by decide +kernel
theorem dX4_conflicts_14 : decode cX4_conflicts 14 = .ok (.iconst 0, 1) := by decide +kernel
theorem dX4_conflicts_15 : decode cX4_conflicts 15 = .ok (.iconst 0, 1) := by decide +kernel
theorem dX4_conflicts_16 : decode cX4_conflicts 16 = .ok (.invokevirtual 66, 3) := by decide +kernel
theorem dX4_conflicts_19 : decode cX4_conflicts 19 = .ok (.ifCond .eq 5, 3) := by decide +kernel
theorem dX4_conflicts_22 : decode cX4_conflicts 22 = .ok (.iconst 0, 1) := by decide +kernel
theorem dX4_conflicts_23 : decode cX4_conflicts 23 = .ok (.ireturn, 1) := by decide +kernel
theorem dX4_conflicts_24 : decode cX4_conflicts 24 = .ok (.iconst 0, 1) := by decide +kernel
theorem dX4_conflicts_25 : decode cX4_conflicts 25 = .ok (.istore_n 2, 1) := by decide +kernel
theorem dX4_conflicts_26 : decode cX4_conflicts 26 = .ok (.iconst 0, 1) := by decide +kernel
theorem dX4_conflicts_27 : decode cX4_conflicts 27 = .ok (.istore_n 3, 1) := by decide +kernel
theorem dX4_conflicts_28 : decode cX4_conflicts 28 = .ok (.iload_n 3, 1) := by decide +kernel
theorem dX4_conflicts_29 : decode cX4_conflicts 29 = .ok (.aload_n 0, 1) := by decide +kernel
theorem dX4_conflicts_30 : decode cX4_conflicts 30 = .ok (.getfield 74, 3) := by decide +kernel
theorem dX4_conflicts_33 : decode cX4_conflicts 33 = .ok (.if_icmp .ge 183, 3) := by decide +kernel
theorem dX4_conflicts_36 : decode cX4_conflicts 36 = .ok (.aload_n 0, 1) := by decide +kernel
theorem dX4_conflicts_37 : decode cX4_conflicts 37 = .ok (.iload_n 1, 1) := by decide +kernel
theorem dX4_conflicts_38 : decode cX4_conflicts 38 = .ok (.iload_n 3, 1) := by decide +kernel
theorem dX4_conflicts_39 : decode cX4_conflicts 39 = .ok (.aload_n 0, 1) := by decide +kernel
theorem dX4_conflicts_40 : decode cX4_conflicts 40 = .ok (.getfield 47, 3) := by decide +kernel
theorem dX4_conflicts_43 : decode cX4_conflicts 43 = .ok (.iload_n 1, 1) := by decide +kernel
theorem dX4_conflicts_44 : decode cX4_conflicts 44 = .ok (.iaload, 1) := by decide +kernel
theorem dX4_conflicts_45 : decode cX4_conflicts 45 = .ok (.invokevirtual 101, 3) := by decide +kernel
theorem dX4_conflicts_48 : decode cX4_conflicts 48 = .ok (.istore 4, 2) := by decide +kernel
theorem dX4_conflicts_50 : decode cX4_conflicts 50 = .ok (.iconst 0, 1) := by decide +kernel
theorem dX4_conflicts_51 : decode cX4_conflicts 51 = .ok (.istore 5, 2) := by decide +kernel
theorem dX4_conflicts_53 : decode cX4_conflicts 53 = .ok (.aload_n 0, 1) := by decide +kernel
theorem dX4_conflicts_54 : decode cX4_conflicts 54 = .ok (.getfield 40, 3) := by decide +kernel
theorem dX4_conflicts_57 : decode cX4_conflicts 57 = .ok (.iload_n 3, 1) := by decide +kernel
theorem dX4_conflicts_58 : decode cX4_conflicts 58 = .ok (.baload, 1) := by decide +kernel
theorem dX4_conflicts_59 : decode cX4_conflicts 59 = .ok (.ifCond .ne 7, 3) := by decide +kernel
theorem dX4_conflicts_62 : decode cX4_conflicts 62 = .ok (.iconst 1, 1) := by decide +kernel
theorem dX4_conflicts_63 : decode cX4_conflicts 63 = .ok (.goto 4, 3) := by decide +kernel
theorem dX4_conflicts_66 : decode cX4_conflicts 66 = .ok (.iconst 0, 1) := by decide +kernel
theorem dX4_conflicts_67 : decode cX4_conflicts 67 = .ok (.istore 6, 2) := by decide +kernel
theorem dX4_conflicts_69 : decode cX4_conflicts 69 = .ok (.iconst 0, 1) := by decide +kernel
theorem dX4_conflicts_70 : decode cX4_conflicts 70 = .ok (.istore 7, 2) := by decide +kernel
theorem dX4_conflicts_72 : decode cX4_conflicts 72 = .ok (.iload 7, 2) := by decide +kernel
theorem dX4_conflicts_74 : decode cX4_conflicts 74 = .ok (.aload_n 0, 1) := by decide +kernel
theorem dX4_conflicts_75 : decode cX4_conflicts 75 = .ok (.getfield 74, 3) := by decide +kernel
theorem dX4_conflicts_78 : decode cX4_conflicts 78 = .ok (.if_icmp .ge 109, 3) := by decide +kernel
theorem dX4_conflicts_81 : decode cX4_conflicts 81 = .ok (.aload_n 0, 1) := by decide +kernel
theorem dX4_conflicts_82 : decode cX4_conflicts 82 = .ok (.iload_n 3, 1) := by decide +kernel
theorem dX4_conflicts_83 : decode cX4_conflicts 83 = .ok (.iload 7, 2) := by decide +kernel
theorem dX4_conflicts_85 : decode cX4_conflicts 85 = .ok (.invokevirtual 94, 3) := by decide +kernel
theorem dX4_conflicts_88 : decode cX4_conflicts 88 = .ok (.ifCond .eq 23, 3) := by decide +kernel
theorem dX4_conflicts_91 : decode cX4_conflicts 91 = .ok (.aload_n 0, 1) := by decide +kernel
theorem dX4_conflicts_92 : decode cX4_conflicts 92 = .ok (.iload_n 1, 1) := by decide +kernel
theorem dX4_conflicts_93 : decode cX4_conflicts 93 = .ok (.iload 7, 2) := by decide +kernel
theorem dX4_conflicts_95 : decode cX4_conflicts 95 = .ok (.aload_n 0, 1) := by decide +kernel
theorem dX4_conflicts_96 : decode cX4_conflicts 96 = .ok (.getfield 47, 3) := by decide +kernel
theorem dX4_conflicts_99 : decode cX4_conflicts 99 = .ok (.iload_n 1, 1) := by decide +kernel
theorem dX4_conflicts_100 : decode cX4_conflicts 100 = .ok (.iaload, 1) := by decide +kernel
theorem dX4_conflicts_101 : decode cX4_conflicts 101 = .ok (.invokevirtual 101, 3) := by decide +kernel
theorem dX4_conflicts_104 : decode cX4_conflicts 104 = .ok (.ifCond .eq 7, 3) := by decide +kernel
theorem dX4_conflicts_107 : decode cX4_conflicts 107 = .ok (.iconst 1, 1) := by decide +kernel
theorem dX4_conflicts_108 : decode cX4_conflicts 108 = .ok (.goto 4, 3) := by decide +kernel
theorem dX4_conflicts_111 : decode cX4_conflicts 111 = .ok (.iconst 0, 1) := by decide +kernel
theorem dX4_conflicts_112 : decode cX4_conflicts 112 = .ok (.istore 8, 2) := by decide +kernel
theorem dX4_conflicts_114 : decode cX4_conflicts 114 = .ok (.iload 4, 2) := by decide +kernel
theorem dX4_conflicts_116 : decode cX4_conflicts 116 = .ok (.ifCond .eq 18, 3) := by decide +kernel
theorem dX4_conflicts_119 : decode cX4_conflicts 119 = .ok (.iload 8, 2) := by decide +kernel
theorem dX4_conflicts_121 : decode cX4_conflicts 121 = .ok (.ifCond .eq 9, 3) := by decide +kernel
theorem dX4_conflicts_124 : decode cX4_conflicts 124 = .ok (.iload 7, 2) := by decide +kernel
theorem dX4_conflicts_126 : decode cX4_conflicts 126 = .ok (.iload_n 3, 1) := by decide +kernel
theorem dX4_conflicts_127 : decode cX4_conflicts 127 = .ok (.if_icmp .lt 7, 3) := by decide +kernel
theorem dX4_conflicts_130 : decode cX4_conflicts 130 = .ok (.iconst 1, 1) := by decide +kernel
theorem dX4_conflicts_131 : decode cX4_conflicts 131 = .ok (.goto 4, 3) := by decide +kernel
theorem dX4_conflicts_134 : decode cX4_conflicts 134 = .ok (.iconst 0, 1) := by decide +kernel
theorem dX4_conflicts_135 : decode cX4_conflicts 135 = .ok (.istore 4, 2) := by decide +kernel
theorem dX4_conflicts_137 : decode cX4_conflicts 137 = .ok (.iload 5, 2) := by decide +kernel
theorem dX4_conflicts_139 : decode cX4_conflicts 139 = .ok (.ifCond .ne 8, 3) := by decide +kernel
theorem dX4_conflicts_142 : decode cX4_conflicts 142 = .ok (.iload 8, 2) := by decide +kernel
theorem dX4_conflicts_144 : decode cX4_conflicts 144 = .ok (.ifCond .eq 7, 3) := by decide +kernel
theorem dX4_conflicts_147 : decode cX4_conflicts 147 = .ok (.iconst 1, 1) := by decide +kernel
theorem dX4_conflicts_148 : decode cX4_conflicts 148 = .ok (.goto 4, 3) := by decide +kernel
theorem dX4_conflicts_151 : decode cX4_conflicts 151 = .ok (.iconst 0, 1) := by decide +kernel
theorem dX4_conflicts_152 : decode cX4_conflicts 152 = .ok (.istore 5, 2) := by decide +kernel
theorem dX4_conflicts_154 : decode cX4_conflicts 154 = .ok (.iload 6, 2) := by decide +kernel
theorem dX4_conflicts_156 : decode cX4_conflicts 156 = .ok (.ifCond .eq 22, 3) := by decide +kernel
theorem dX4_conflicts_159 : decode cX4_conflicts 159 = .ok (.iload 8, 2) := by decide +kernel
theorem dX4_conflicts_161 : decode cX4_conflicts 161 = .ok (.ifCond .eq 13, 3) := by decide +kernel
theorem dX4_conflicts_164 : decode cX4_conflicts 164 = .ok (.aload_n 0, 1) := by decide +kernel
theorem dX4_conflicts_165 : decode cX4_conflicts 165 = .ok (.getfield 40, 3) := by decide +kernel
theorem dX4_conflicts_168 : decode cX4_conflicts 168 = .ok (.iload 7, 2) := by decide +kernel
theorem dX4_conflicts_170 : decode cX4_conflicts 170 = .ok (.baload, 1) := by decide +kernel
theorem dX4_conflicts_171 : decode cX4_conflicts 171 = .ok (.ifCond .ne 7, 3) := by decide +kernel
theorem dX4_conflicts_174 : decode cX4_conflicts 174 = .ok (.iconst 1, 1) := by decide +kernel
theorem dX4_conflicts_175 : decode cX4_conflicts 175 = .ok (.goto 4, 3) := by decide +kernel
theorem dX4_conflicts_178 : decode cX4_conflicts 178 = .ok (.iconst 0, 1) := by decide +kernel
theorem dX4_conflicts_179 : decode cX4_conflicts 179 = .ok (.istore 6, 2) := by decide +kernel
theorem dX4_conflicts_181 : decode cX4_conflicts 181 = .ok (.iinc 7 1, 3) := by decide +kernel
theorem dX4_conflicts_184 : decode cX4_conflicts 184 = .ok (.goto (-112), 3) := by decide +kernel
theorem dX4_conflicts_187 : decode cX4_conflicts 187 = .ok (.iload_n 2, 1) := by decide +kernel
theorem dX4_conflicts_188 : decode cX4_conflicts 188 = .ok (.iload 4, 2) := by decide +kernel
theorem dX4_conflicts_190 : decode cX4_conflicts 190 = .ok (.ifCond .eq 17, 3) := by decide +kernel
theorem dX4_conflicts_193 : decode cX4_conflicts 193 = .ok (.iload 5, 2) := by decide +kernel
theorem dX4_conflicts_195 : decode cX4_conflicts 195 = .ok (.ifCond .eq 12, 3) := by decide +kernel
theorem dX4_conflicts_198 : decode cX4_conflicts 198 = .ok (.iload 6, 2) := by decide +kernel
theorem dX4_conflicts_200 : decode cX4_conflicts 200 = .ok (.ifCond .eq 7, 3) := by decide +kernel
theorem dX4_conflicts_203 : decode cX4_conflicts 203 = .ok (.iconst 1, 1) := by decide +kernel
theorem dX4_conflicts_204 : decode cX4_conflicts 204 = .ok (.goto 4, 3) := by decide +kernel
theorem dX4_conflicts_207 : decode cX4_conflicts 207 = .ok (.iconst 0, 1) := by decide +kernel
theorem dX4_conflicts_208 : decode cX4_conflicts 208 = .ok (.iadd, 1) := by decide +kernel
theorem dX4_conflicts_209 : decode cX4_conflicts 209 = .ok (.istore_n 2, 1) := by decide +kernel
theorem dX4_conflicts_210 : decode cX4_conflicts 210 = .ok (.iinc 3 1, 3) := by decide +kernel
theorem dX4_conflicts_213 : decode cX4_conflicts 213 = .ok (.goto (-185), 3) := by decide +kernel
theorem dX4_conflicts_216 : decode cX4_conflicts 216 = .ok (.iload_n 2, 1) := by decide +kernel
theorem dX4_conflicts_217 : decode cX4_conflicts 217 = .ok (.ireturn, 1) := by decide +kernel
theorem dX4_settle_0 : decode cX4_settle 0 = .ok (.iload_n 1, 1) := by decide +kernel
theorem dX4_settle_1 : decode cX4_settle 1 = .ok (.bipush 127, 2) := by decide +kernel
theorem dX4_settle_3 : decode cX4_settle 3 = .ok (.iand, 1) := by decide +kernel
theorem dX4_settle_4 : decode cX4_settle 4 = .ok (.istore_n 3, 1) := by decide +kernel
theorem dX4_settle_5 : decode cX4_settle 5 = .ok (.iload_n 1, 1) := by decide +kernel
theorem dX4_settle_6 : decode cX4_settle 6 = .ok (.bipush 7, 2) := by decide +kernel
theorem dX4_settle_8 : decode cX4_settle 8 = .ok (.ishr, 1) := by decide +kernel
theorem dX4_settle_9 : decode cX4_settle 9 = .ok (.iconst 3, 1) := by decide +kernel
theorem dX4_settle_10 : decode cX4_settle 10 = .ok (.iand, 1) := by decide +kernel
theorem dX4_settle_11 : decode cX4_settle 11 = .ok (.istore 4, 2) := by decide +kernel
theorem dX4_settle_13 : decode cX4_settle 13 = .ok (.iload_n 1, 1) := by decide +kernel
theorem dX4_settle_14 : decode cX4_settle 14 = .ok (.bipush 9, 2) := by decide +kernel
theorem dX4_settle_16 : decode cX4_settle 16 = .ok (.ishr, 1) := by decide +kernel
theorem dX4_settle_17 : decode cX4_settle 17 = .ok (.istore 5, 2) := by decide +kernel
theorem dX4_settle_19 : decode cX4_settle 19 = .ok (.iconst (-1), 1) := by decide +kernel
theorem dX4_settle_20 : decode cX4_settle 20 = .ok (.istore 6, 2) := by decide +kernel
theorem dX4_settle_22 : decode cX4_settle 22 = .ok (.iconst 0, 1) := by decide +kernel
theorem dX4_settle_23 : decode cX4_settle 23 = .ok (.istore 7, 2) := by decide +kernel
theorem dX4_settle_25 : decode cX4_settle 25 = .ok (.iconst 0, 1) := by decide +kernel
theorem dX4_settle_26 : decode cX4_settle 26 = .ok (.istore 8, 2) := by decide +kernel
theorem dX4_settle_28 : decode cX4_settle 28 = .ok (.iload 8, 2) := by decide +kernel
theorem dX4_settle_30 : decode cX4_settle 30 = .ok (.aload_n 0, 1) := by decide +kernel
theorem dX4_settle_31 : decode cX4_settle 31 = .ok (.getfield 74, 3) := by decide +kernel
theorem dX4_settle_34 : decode cX4_settle 34 = .ok (.if_icmp .ge 62, 3) := by decide +kernel
theorem dX4_settle_37 : decode cX4_settle 37 = .ok (.aload_n 0, 1) := by decide +kernel
theorem dX4_settle_38 : decode cX4_settle 38 = .ok (.getfield 22, 3) := by decide +kernel
theorem dX4_settle_41 : decode cX4_settle 41 = .ok (.iload 8, 2) := by decide +kernel
theorem dX4_settle_43 : decode cX4_settle 43 = .ok (.iaload, 1) := by decide +kernel
theorem dX4_settle_44 : decode cX4_settle 44 = .ok (.iload 5, 2) := by decide +kernel
theorem dX4_settle_46 : decode cX4_settle 46 = .ok (.if_icmp .ne 44, 3) := by decide +kernel
theorem dX4_settle_49 : decode cX4_settle 49 = .ok (.aload_n 0, 1) := by decide +kernel
theorem dX4_settle_50 : decode cX4_settle 50 = .ok (.getfield 25, 3) := by decide +kernel
theorem dX4_settle_53 : decode cX4_settle 53 = .ok (.iload 8, 2) := by decide +kernel
theorem dX4_settle_55 : decode cX4_settle 55 = .ok (.iaload, 1) := by decide +kernel
theorem dX4_settle_56 : decode cX4_settle 56 = .ok (.iload 4, 2) := by decide +kernel
theorem dX4_settle_58 : decode cX4_settle 58 = .ok (.if_icmp .ne 32, 3) := by decide +kernel
theorem dX4_settle_61 : decode cX4_settle 61 = .ok (.aload_n 0, 1) := by decide +kernel
theorem dX4_settle_62 : decode cX4_settle 62 = .ok (.getfield 28, 3) := by decide +kernel
theorem dX4_settle_65 : decode cX4_settle 65 = .ok (.iload 8, 2) := by decide +kernel
theorem dX4_settle_67 : decode cX4_settle 67 = .ok (.iaload, 1) := by decide +kernel
theorem dX4_settle_68 : decode cX4_settle 68 = .ok (.iload_n 3, 1) := by decide +kernel
theorem dX4_settle_69 : decode cX4_settle 69 = .ok (.if_icmp .ne 21, 3) := by decide +kernel
theorem dX4_settle_72 : decode cX4_settle 72 = .ok (.iload 7, 2) := by decide +kernel
theorem dX4_settle_74 : decode cX4_settle 74 = .ok (.iload_n 2, 1) := by decide +kernel
theorem dX4_settle_75 : decode cX4_settle 75 = .ok (.if_icmp .ne 8, 3) := by decide +kernel
theorem dX4_settle_78 : decode cX4_settle 78 = .ok (.iload 8, 2) := by decide +kernel
theorem dX4_settle_80 : decode cX4_settle 80 = .ok (.goto 5, 3) := by decide +kernel
theorem dX4_settle_83 : decode cX4_settle 83 = .ok (.iload 6, 2) := by decide +kernel
theorem dX4_settle_85 : decode cX4_settle 85 = .ok (.istore 6, 2) := by decide +kernel
theorem dX4_settle_87 : decode cX4_settle 87 = .ok (.iinc 7 1, 3) := by decide +kernel
theorem dX4_settle_90 : decode cX4_settle 90 = .ok (.iinc 8 1, 3) := by decide +kernel
theorem dX4_settle_93 : decode cX4_settle 93 = .ok (.goto (-65), 3) := by decide +kernel
theorem dX4_settle_96 : decode cX4_settle 96 = .ok (.aload_n 0, 1) := by decide +kernel
theorem dX4_settle_97 : decode cX4_settle 97 = .ok (.iload 6, 2) := by decide +kernel
theorem dX4_settle_99 : decode cX4_settle 99 = .ok (.ifCond .ge 7, 3) := by decide +kernel
theorem dX4_settle_102 : decode cX4_settle 102 = .ok (.iconst 1, 1) := by decide +kernel
theorem dX4_settle_103 : decode cX4_settle 103 = .ok (.goto 4, 3) := by decide +kernel
theorem dX4_settle_106 : decode cX4_settle 106 = .ok (.iconst 0, 1) := by decide +kernel
theorem dX4_settle_107 : decode cX4_settle 107 = .ok (.iconst 0, 1) := by decide +kernel
theorem dX4_settle_108 : decode cX4_settle 108 = .ok (.iconst 0, 1) := by decide +kernel
theorem dX4_settle_109 : decode cX4_settle 109 = .ok (.iconst 0, 1) := by decide +kernel
theorem dX4_settle_110 : decode cX4_settle 110 = .ok (.invokevirtual 66, 3) := by decide +kernel
theorem dX4_settle_113 : decode cX4_settle 113 = .ok (.ifCond .eq 5, 3) := by decide +kernel
theorem dX4_settle_116 : decode cX4_settle 116 = .ok (.iconst 0, 1) := by decide +kernel
theorem dX4_settle_117 : decode cX4_settle 117 = .ok (.ireturn, 1) := by decide +kernel
theorem dX4_settle_118 : decode cX4_settle 118 = .ok (.iconst 0, 1) := by decide +kernel
theorem dX4_settle_119 : decode cX4_settle 119 = .ok (.istore 8, 2) := by decide +kernel
theorem dX4_settle_121 : decode cX4_settle 121 = .ok (.iload 8, 2) := by decide +kernel
theorem dX4_settle_123 : decode cX4_settle 123 = .ok (.aload_n 0, 1) := by decide +kernel
theorem dX4_settle_124 : decode cX4_settle 124 = .ok (.getfield 74, 3) := by decide +kernel
theorem dX4_settle_127 : decode cX4_settle 127 = .ok (.if_icmp .ge 28, 3) := by decide +kernel
theorem dX4_settle_130 : decode cX4_settle 130 = .ok (.aload_n 0, 1) := by decide +kernel
theorem dX4_settle_131 : decode cX4_settle 131 = .ok (.iload 8, 2) := by decide +kernel
theorem dX4_settle_133 : decode cX4_settle 133 = .ok (.iload 6, 2) := by decide +kernel
theorem dX4_settle_135 : decode cX4_settle 135 = .ok (.invokevirtual 94, 3) := by decide +kernel
theorem dX4_settle_138 : decode cX4_settle 138 = .ok (.ifCond .eq 11, 3) := by decide +kernel
theorem dX4_settle_141 : decode cX4_settle 141 = .ok (.aload_n 0, 1) := by decide +kernel
theorem dX4_settle_142 : decode cX4_settle 142 = .ok (.getfield 40, 3) := by decide +kernel
theorem dX4_settle_145 : decode cX4_settle 145 = .ok (.iload 8, 2) := by decide +kernel
theorem dX4_settle_147 : decode cX4_settle 147 = .ok (.iconst 0, 1) := by decide +kernel
theorem dX4_settle_148 : decode cX4_settle 148 = .ok (.bastore, 1) := by decide +kernel
theorem dX4_settle_149 : decode cX4_settle 149 = .ok (.iinc 8 1, 3) := by decide +kernel
theorem dX4_settle_152 : decode cX4_settle 152 = .ok (.goto (-31), 3) := by decide +kernel
theorem dX4_settle_155 : decode cX4_settle 155 = .ok (.aload_n 0, 1) := by decide +kernel
theorem dX4_settle_156 : decode cX4_settle 156 = .ok (.getfield 40, 3) := by decide +kernel
theorem dX4_settle_159 : decode cX4_settle 159 = .ok (.iload 6, 2) := by decide +kernel
theorem dX4_settle_161 : decode cX4_settle 161 = .ok (.iconst 1, 1) := by decide +kernel
theorem dX4_settle_162 : decode cX4_settle 162 = .ok (.bastore, 1) := by decide +kernel
theorem dX4_settle_163 : decode cX4_settle 163 = .ok (.aload_n 0, 1) := by decide +kernel
theorem dX4_settle_164 : decode cX4_settle 164 = .ok (.getfield 34, 3) := by decide +kernel
theorem dX4_settle_167 : decode cX4_settle 167 = .ok (.iload 6, 2) := by decide +kernel
theorem dX4_settle_169 : decode cX4_settle 169 = .ok (.iaload, 1) := by decide +kernel
theorem dX4_settle_170 : decode cX4_settle 170 = .ok (.ireturn, 1) := by decide +kernel
theorem dX4_last_0 : decode cX4_last 0 = .ok (.iload_n 1, 1) := by decide +kernel
theorem dX4_last_1 : decode cX4_last 1 = .ok (.invokestatic 77, 3) := by decide +kernel
theorem dX4_last_4 : decode cX4_last 4 = .ok (.ifCond .eq 24, 3) := by decide +kernel
theorem dX4_last_7 : decode cX4_last 7 = .ok (.iload_n 2, 1) := by decide +kernel
theorem dX4_last_8 : decode cX4_last 8 = .ok (.i2l, 1) := by decide +kernel
theorem dX4_last_9 : decode cX4_last 9 = .ok (.iconst 0, 1) := by decide +kernel
theorem dX4_last_10 : decode cX4_last 10 = .ok (.bipush 7, 2) := by decide +kernel
theorem dX4_last_12 : decode cX4_last 12 = .ok (.invokestatic 57, 3) := by decide +kernel
theorem dX4_last_15 : decode cX4_last 15 = .ok (.ifCond .eq 13, 3) := by decide +kernel
theorem dX4_last_18 : decode cX4_last 18 = .ok (.iload_n 3, 1) := by decide +kernel
theorem dX4_last_19 : decode cX4_last 19 = .ok (.i2l, 1) := by decide +kernel
theorem dX4_last_20 : decode cX4_last 20 = .ok (.iconst 0, 1) := by decide +kernel
theorem dX4_last_21 : decode cX4_last 21 = .ok (.iconst 4, 1) := by decide +kernel
theorem dX4_last_22 : decode cX4_last 22 = .ok (.invokestatic 57, 3) := by decide +kernel
theorem dX4_last_25 : decode cX4_last 25 = .ok (.ifCond .ne 7, 3) := by decide +kernel
theorem dX4_last_28 : decode cX4_last 28 = .ok (.iconst 1, 1) := by decide +kernel
theorem dX4_last_29 : decode cX4_last 29 = .ok (.goto 4, 3) := by decide +kernel
theorem dX4_last_32 : decode cX4_last 32 = .ok (.iconst 0, 1) := by decide +kernel
theorem dX4_last_33 : decode cX4_last 33 = .ok (.istore 4, 2) := by decide +kernel
theorem dX4_last_35 : decode cX4_last 35 = .ok (.iload 4, 2) := by decide +kernel
theorem dX4_last_37 : decode cX4_last 37 = .ok (.ifCond .eq 7, 3) := by decide +kernel
theorem dX4_last_40 : decode cX4_last 40 = .ok (.iconst (-1), 1) := by decide +kernel
theorem dX4_last_41 : decode cX4_last 41 = .ok (.goto 15, 3) := by decide +kernel
theorem dX4_last_44 : decode cX4_last 44 = .ok (.aload_n 0, 1) := by decide +kernel
theorem dX4_last_45 : decode cX4_last 45 = .ok (.iload_n 1, 1) := by decide +kernel
theorem dX4_last_46 : decode cX4_last 46 = .ok (.iload_n 2, 1) := by decide +kernel
theorem dX4_last_47 : decode cX4_last 47 = .ok (.aload_n 0, 1) := by decide +kernel
theorem dX4_last_48 : decode cX4_last 48 = .ok (.getfield 47, 3) := by decide +kernel
theorem dX4_last_51 : decode cX4_last 51 = .ok (.iload_n 1, 1) := by decide +kernel
theorem dX4_last_52 : decode cX4_last 52 = .ok (.iaload, 1) := by decide +kernel
theorem dX4_last_53 : decode cX4_last 53 = .ok (.invokevirtual 111, 3) := by decide +kernel
theorem dX4_last_56 : decode cX4_last 56 = .ok (.istore 5, 2) := by decide +kernel
theorem dX4_last_58 : decode cX4_last 58 = .ok (.aload_n 0, 1) := by decide +kernel
theorem dX4_last_59 : decode cX4_last 59 = .ok (.iload 4, 2) := by decide +kernel
theorem dX4_last_61 : decode cX4_last 61 = .ok (.iload 5, 2) := by decide +kernel
theorem dX4_last_63 : decode cX4_last 63 = .ok (.ifCond .ge 7, 3) := by decide +kernel
theorem dX4_last_66 : decode cX4_last 66 = .ok (.iconst 1, 1) := by decide +kernel
theorem dX4_last_67 : decode cX4_last 67 = .ok (.goto 4, 3) := by decide +kernel
theorem dX4_last_70 : decode cX4_last 70 = .ok (.iconst 0, 1) := by decide +kernel
theorem dX4_last_71 : decode cX4_last 71 = .ok (.iconst 0, 1) := by decide +kernel
theorem dX4_last_72 : decode cX4_last 72 = .ok (.iconst 0, 1) := by decide +kernel
theorem dX4_last_73 : decode cX4_last 73 = .ok (.invokevirtual 66, 3) := by decide +kernel
theorem dX4_last_76 : decode cX4_last 76 = .ok (.ifCond .eq 5, 3) := by decide +kernel
theorem dX4_last_79 : decode cX4_last 79 = .ok (.iconst 0, 1) := by decide +kernel
theorem dX4_last_80 : decode cX4_last 80 = .ok (.ireturn, 1) := by decide +kernel
theorem dX4_last_81 : decode cX4_last 81 = .ok (.iload_n 3, 1) := by decide +kernel
theorem dX4_last_82 : decode cX4_last 82 = .ok (.iconst 2, 1) := by decide +kernel
theorem dX4_last_83 : decode cX4_last 83 = .ok (.if_icmp .ge 36, 3) := by decide +kernel
theorem dX4_last_86 : decode cX4_last 86 = .ok (.iload_n 3, 1) := by decide +kernel
theorem dX4_last_87 : decode cX4_last 87 = .ok (.ifCond .ne 13, 3) := by decide +kernel
theorem dX4_last_90 : decode cX4_last 90 = .ok (.aload_n 0, 1) := by decide +kernel
theorem dX4_last_91 : decode cX4_last 91 = .ok (.getfield 34, 3) := by decide +kernel
theorem dX4_last_94 : decode cX4_last 94 = .ok (.iload 5, 2) := by decide +kernel
theorem dX4_last_96 : decode cX4_last 96 = .ok (.iaload, 1) := by decide +kernel
theorem dX4_last_97 : decode cX4_last 97 = .ok (.goto 21, 3) := by decide +kernel
theorem dX4_last_100 : decode cX4_last 100 = .ok (.aload_n 0, 1) := by decide +kernel
theorem dX4_last_101 : decode cX4_last 101 = .ok (.aload_n 0, 1) := by decide +kernel
theorem dX4_last_102 : decode cX4_last 102 = .ok (.getfield 22, 3) := by decide +kernel
theorem dX4_last_105 : decode cX4_last 105 = .ok (.iload 5, 2) := by decide +kernel
theorem dX4_last_107 : decode cX4_last 107 = .ok (.iaload, 1) := by decide +kernel
theorem dX4_last_108 : decode cX4_last 108 = .ok (.aload_n 0, 1) := by decide +kernel
theorem dX4_last_109 : decode cX4_last 109 = .ok (.getfield 37, 3) := by decide +kernel
theorem dX4_last_112 : decode cX4_last 112 = .ok (.iload 5, 2) := by decide +kernel
theorem dX4_last_114 : decode cX4_last 114 = .ok (.iaload, 1) := by decide +kernel
theorem dX4_last_115 : decode cX4_last 115 = .ok (.invokevirtual 70, 3) := by decide +kernel
theorem dX4_last_118 : decode cX4_last 118 = .ok (.ireturn, 1) := by decide +kernel
theorem dX4_last_119 : decode cX4_last 119 = .ok (.iload_n 3, 1) := by decide +kernel
theorem dX4_last_120 : decode cX4_last 120 = .ok (.iconst 2, 1) := by decide +kernel
theorem dX4_last_121 : decode cX4_last 121 = .ok (.if_icmp .ne 13, 3) := by decide +kernel
theorem dX4_last_124 : decode cX4_last 124 = .ok (.aload_n 0, 1) := by decide +kernel
theorem dX4_last_125 : decode cX4_last 125 = .ok (.getfield 22, 3) := by decide +kernel
theorem dX4_last_128 : decode cX4_last 128 = .ok (.iload 5, 2) := by decide +kernel
theorem dX4_last_130 : decode cX4_last 130 = .ok (.iaload, 1) := by decide +kernel
theorem dX4_last_131 : decode cX4_last 131 = .ok (.goto 25, 3) := by decide +kernel
theorem dX4_last_134 : decode cX4_last 134 = .ok (.iload_n 3, 1) := by decide +kernel
theorem dX4_last_135 : decode cX4_last 135 = .ok (.iconst 3, 1) := by decide +kernel
theorem dX4_last_136 : decode cX4_last 136 = .ok (.if_icmp .ne 13, 3) := by decide +kernel
theorem dX4_last_139 : decode cX4_last 139 = .ok (.aload_n 0, 1) := by decide +kernel
theorem dX4_last_140 : decode cX4_last 140 = .ok (.getfield 28, 3) := by decide +kernel
theorem dX4_last_143 : decode cX4_last 143 = .ok (.iload 5, 2) := by decide +kernel
theorem dX4_last_145 : decode cX4_last 145 = .ok (.iaload, 1) := by decide +kernel
theorem dX4_last_146 : decode cX4_last 146 = .ok (.goto 10, 3) := by decide +kernel
theorem dX4_last_149 : decode cX4_last 149 = .ok (.aload_n 0, 1) := by decide +kernel
theorem dX4_last_150 : decode cX4_last 150 = .ok (.getfield 25, 3) := by decide +kernel
theorem dX4_last_153 : decode cX4_last 153 = .ok (.iload 5, 2) := by decide +kernel
theorem dX4_last_155 : decode cX4_last 155 = .ok (.iaload, 1) := by decide +kernel
theorem dX4_last_156 : decode cX4_last 156 = .ok (.ireturn, 1) := by decide +kernel
theorem dX4_lastOf_0 : decode cX4_lastOf 0 = .ok (.iconst (-1), 1) := by decide +kernel
theorem dX4_lastOf_1 : decode cX4_lastOf 1 = .ok (.istore 4, 2) := by decide +kernel
theorem dX4_lastOf_3 : decode cX4_lastOf 3 = .ok (.iconst 0, 1) := by decide +kernel
theorem dX4_lastOf_4 : decode cX4_lastOf 4 = .ok (.istore 5, 2) := by decide +kernel
theorem dX4_lastOf_6 : decode cX4_lastOf 6 = .ok (.iload 5, 2) := by decide +kernel
theorem dX4_lastOf_8 : decode cX4_lastOf 8 = .ok (.aload_n 0, 1) := by decide +kernel
theorem dX4_lastOf_9 : decode cX4_lastOf 9 = .ok (.getfield 74, 3) := by decide +kernel
theorem dX4_lastOf_12 : decode cX4_lastOf 12 = .ok (.if_icmp .ge 51, 3) := by decide +kernel
theorem dX4_lastOf_15 : decode cX4_lastOf 15 = .ok (.aload_n 0, 1) := by decide +kernel
theorem dX4_lastOf_16 : decode cX4_lastOf 16 = .ok (.getfield 31, 3) := by decide +kernel
theorem dX4_lastOf_19 : decode cX4_lastOf 19 = .ok (.iload 5, 2) := by decide +kernel
theorem dX4_lastOf_21 : decode cX4_lastOf 21 = .ok (.iaload, 1) := by decide +kernel
theorem dX4_lastOf_22 : decode cX4_lastOf 22 = .ok (.iload_n 2, 1) := by decide +kernel
theorem dX4_lastOf_23 : decode cX4_lastOf 23 = .ok (.if_icmp .ne 34, 3) := by decide +kernel
theorem dX4_lastOf_26 : decode cX4_lastOf 26 = .ok (.aload_n 0, 1) := by decide +kernel
theorem dX4_lastOf_27 : decode cX4_lastOf 27 = .ok (.iload_n 1, 1) := by decide +kernel
theorem dX4_lastOf_28 : decode cX4_lastOf 28 = .ok (.iload 5, 2) := by decide +kernel
theorem dX4_lastOf_30 : decode cX4_lastOf 30 = .ok (.iload_n 3, 1) := by decide +kernel
theorem dX4_lastOf_31 : decode cX4_lastOf 31 = .ok (.invokevirtual 105, 3) := by decide +kernel
theorem dX4_lastOf_34 : decode cX4_lastOf 34 = .ok (.ifCond .eq 23, 3) := by decide +kernel
theorem dX4_lastOf_37 : decode cX4_lastOf 37 = .ok (.iload 4, 2) := by decide +kernel
theorem dX4_lastOf_39 : decode cX4_lastOf 39 = .ok (.ifCond .lt 14, 3) := by decide +kernel
theorem dX4_lastOf_42 : decode cX4_lastOf 42 = .ok (.aload_n 0, 1) := by decide +kernel
theorem dX4_lastOf_43 : decode cX4_lastOf 43 = .ok (.iload 5, 2) := by decide +kernel
theorem dX4_lastOf_45 : decode cX4_lastOf 45 = .ok (.iload 4, 2) := by decide +kernel
theorem dX4_lastOf_47 : decode cX4_lastOf 47 = .ok (.invokevirtual 108, 3) := by decide +kernel
theorem dX4_lastOf_50 : decode cX4_lastOf 50 = .ok (.ifCond .eq 7, 3) := by decide +kernel
theorem dX4_lastOf_53 : decode cX4_lastOf 53 = .ok (.iload 5, 2) := by decide +kernel
theorem dX4_lastOf_55 : decode cX4_lastOf 55 = .ok (.istore 4, 2) := by decide +kernel
theorem dX4_lastOf_57 : decode cX4_lastOf 57 = .ok (.iinc 5 1, 3) := by decide +kernel
theorem dX4_lastOf_60 : decode cX4_lastOf 60 = .ok (.goto (-54), 3) := by decide +kernel
theorem dX4_lastOf_63 : decode cX4_lastOf 63 = .ok (.iload 4, 2) := by decide +kernel
theorem dX4_lastOf_65 : decode cX4_lastOf 65 = .ok (.ireturn, 1) := by decide +kernel
theorem dX4_counts_0 : decode cX4_counts 0 = .ok (.aload_n 0, 1) := by decide +kernel
theorem dX4_counts_1 : decode cX4_counts 1 = .ok (.iload_n 1, 1) := by decide +kernel
theorem dX4_counts_2 : decode cX4_counts 2 = .ok (.iload_n 2, 1) := by decide +kernel
theorem dX4_counts_3 : decode cX4_counts 3 = .ok (.iload_n 3, 1) := by decide +kernel
theorem dX4_counts_4 : decode cX4_counts 4 = .ok (.invokevirtual 101, 3) := by decide +kernel
theorem dX4_counts_7 : decode cX4_counts 7 = .ok (.ifCond .ne 5, 3) := by decide +kernel
theorem dX4_counts_10 : decode cX4_counts 10 = .ok (.iconst 0, 1) := by decide +kernel
theorem dX4_counts_11 : decode cX4_counts 11 = .ok (.ireturn, 1) := by decide +kernel
theorem dX4_counts_12 : decode cX4_counts 12 = .ok (.aload_n 0, 1) := by decide +kernel
theorem dX4_counts_13 : decode cX4_counts 13 = .ok (.getfield 40, 3) := by decide +kernel
theorem dX4_counts_16 : decode cX4_counts 16 = .ok (.iload_n 2, 1) := by decide +kernel
theorem dX4_counts_17 : decode cX4_counts 17 = .ok (.baload, 1) := by decide +kernel
theorem dX4_counts_18 : decode cX4_counts 18 = .ok (.istore 4, 2) := by decide +kernel
theorem dX4_counts_20 : decode cX4_counts 20 = .ok (.iconst 0, 1) := by decide +kernel
theorem dX4_counts_21 : decode cX4_counts 21 = .ok (.istore 5, 2) := by decide +kernel
theorem dX4_counts_23 : decode cX4_counts 23 = .ok (.iconst 0, 1) := by decide +kernel
theorem dX4_counts_24 : decode cX4_counts 24 = .ok (.istore 6, 2) := by decide +kernel
theorem dX4_counts_26 : decode cX4_counts 26 = .ok (.iload 6, 2) := by decide +kernel
theorem dX4_counts_28 : decode cX4_counts 28 = .ok (.aload_n 0, 1) := by decide +kernel
theorem dX4_counts_29 : decode cX4_counts 29 = .ok (.getfield 74, 3) := by decide +kernel
theorem dX4_counts_32 : decode cX4_counts 32 = .ok (.if_icmp .ge 74, 3) := by decide +kernel
theorem dX4_counts_35 : decode cX4_counts 35 = .ok (.iload 4, 2) := by decide +kernel
theorem dX4_counts_37 : decode cX4_counts 37 = .ok (.ifCond .ne 23, 3) := by decide +kernel
theorem dX4_counts_40 : decode cX4_counts 40 = .ok (.aload_n 0, 1) := by decide +kernel
theorem dX4_counts_41 : decode cX4_counts 41 = .ok (.iload_n 2, 1) := by decide +kernel
theorem dX4_counts_42 : decode cX4_counts 42 = .ok (.iload 6, 2) := by decide +kernel
theorem dX4_counts_44 : decode cX4_counts 44 = .ok (.invokevirtual 94, 3) := by decide +kernel
theorem dX4_counts_47 : decode cX4_counts 47 = .ok (.ifCond .eq 17, 3) := by decide +kernel
theorem dX4_counts_50 : decode cX4_counts 50 = .ok (.aload_n 0, 1) := by decide +kernel
theorem dX4_counts_51 : decode cX4_counts 51 = .ok (.getfield 40, 3) := by decide +kernel
theorem dX4_counts_54 : decode cX4_counts 54 = .ok (.iload 6, 2) := by decide +kernel
theorem dX4_counts_56 : decode cX4_counts 56 = .ok (.baload, 1) := by decide +kernel
theorem dX4_counts_57 : decode cX4_counts 57 = .ok (.ifCond .eq 7, 3) := by decide +kernel
theorem dX4_counts_60 : decode cX4_counts 60 = .ok (.iconst 1, 1) := by decide +kernel
theorem dX4_counts_61 : decode cX4_counts 61 = .ok (.goto 4, 3) := by decide +kernel
theorem dX4_counts_64 : decode cX4_counts 64 = .ok (.iconst 0, 1) := by decide +kernel
theorem dX4_counts_65 : decode cX4_counts 65 = .ok (.istore 4, 2) := by decide +kernel
theorem dX4_counts_67 : decode cX4_counts 67 = .ok (.iload 5, 2) := by decide +kernel
theorem dX4_counts_69 : decode cX4_counts 69 = .ok (.ifCond .ne 24, 3) := by decide +kernel
theorem dX4_counts_72 : decode cX4_counts 72 = .ok (.aload_n 0, 1) := by decide +kernel
theorem dX4_counts_73 : decode cX4_counts 73 = .ok (.iload_n 2, 1) := by decide +kernel
theorem dX4_counts_74 : decode cX4_counts 74 = .ok (.iload 6, 2) := by decide +kernel
theorem dX4_counts_76 : decode cX4_counts 76 = .ok (.invokevirtual 94, 3) := by decide +kernel
theorem dX4_counts_79 : decode cX4_counts 79 = .ok (.ifCond .eq 18, 3) := by decide +kernel
theorem dX4_counts_82 : decode cX4_counts 82 = .ok (.aload_n 0, 1) := by decide +kernel
theorem dX4_counts_83 : decode cX4_counts 83 = .ok (.iload_n 1, 1) := by decide +kernel
theorem dX4_counts_84 : decode cX4_counts 84 = .ok (.iload 6, 2) := by decide +kernel
theorem dX4_counts_86 : decode cX4_counts 86 = .ok (.iload_n 3, 1) := by decide +kernel
theorem dX4_counts_87 : decode cX4_counts 87 = .ok (.invokevirtual 101, 3) := by decide +kernel
theorem dX4_counts_90 : decode cX4_counts 90 = .ok (.ifCond .eq 7, 3) := by decide +kernel
theorem dX4_counts_93 : decode cX4_counts 93 = .ok (.iconst 1, 1) := by decide +kernel
theorem dX4_counts_94 : decode cX4_counts 94 = .ok (.goto 4, 3) := by decide +kernel
theorem dX4_counts_97 : decode cX4_counts 97 = .ok (.iconst 0, 1) := by decide +kernel
theorem dX4_counts_98 : decode cX4_counts 98 = .ok (.istore 5, 2) := by decide +kernel
theorem dX4_counts_100 : decode cX4_counts 100 = .ok (.iinc 6 1, 3) := by decide +kernel
theorem dX4_counts_103 : decode cX4_counts 103 = .ok (.goto (-77), 3) := by decide +kernel
theorem dX4_counts_106 : decode cX4_counts 106 = .ok (.iload 4, 2) := by decide +kernel
theorem dX4_counts_108 : decode cX4_counts 108 = .ok (.ifCond .eq 12, 3) := by decide +kernel
theorem dX4_counts_111 : decode cX4_counts 111 = .ok (.aload_n 0, 1) := by decide +kernel
theorem dX4_counts_112 : decode cX4_counts 112 = .ok (.getfield 40, 3) := by decide +kernel
theorem dX4_counts_115 : decode cX4_counts 115 = .ok (.iload_n 2, 1) := by decide +kernel
theorem dX4_counts_116 : decode cX4_counts 116 = .ok (.baload, 1) := by decide +kernel
theorem dX4_counts_117 : decode cX4_counts 117 = .ok (.goto 13, 3) := by decide +kernel
theorem dX4_counts_120 : decode cX4_counts 120 = .ok (.iload 5, 2) := by decide +kernel
theorem dX4_counts_122 : decode cX4_counts 122 = .ok (.ifCond .ne 7, 3) := by decide +kernel
theorem dX4_counts_125 : decode cX4_counts 125 = .ok (.iconst 1, 1) := by decide +kernel
theorem dX4_counts_126 : decode cX4_counts 126 = .ok (.goto 4, 3) := by decide +kernel
theorem dX4_counts_129 : decode cX4_counts 129 = .ok (.iconst 0, 1) := by decide +kernel
theorem dX4_counts_130 : decode cX4_counts 130 = .ok (.ireturn, 1) := by decide +kernel
theorem dX4_isLater_0 : decode cX4_isLater 0 = .ok (.aload_n 0, 1) := by decide +kernel
theorem dX4_isLater_1 : decode cX4_isLater 1 = .ok (.aload_n 0, 1) := by decide +kernel
theorem dX4_isLater_2 : decode cX4_isLater 2 = .ok (.getfield 22, 3) := by decide +kernel
theorem dX4_isLater_5 : decode cX4_isLater 5 = .ok (.iload_n 1, 1) := by decide +kernel
theorem dX4_isLater_6 : decode cX4_isLater 6 = .ok (.iaload, 1) := by decide +kernel
theorem dX4_isLater_7 : decode cX4_isLater 7 = .ok (.aload_n 0, 1) := by decide +kernel
theorem dX4_isLater_8 : decode cX4_isLater 8 = .ok (.getfield 37, 3) := by decide +kernel
theorem dX4_isLater_11 : decode cX4_isLater 11 = .ok (.iload_n 1, 1) := by decide +kernel
theorem dX4_isLater_12 : decode cX4_isLater 12 = .ok (.iaload, 1) := by decide +kernel
theorem dX4_isLater_13 : decode cX4_isLater 13 = .ok (.invokevirtual 70, 3) := by decide +kernel
theorem dX4_isLater_16 : decode cX4_isLater 16 = .ok (.istore_n 3, 1) := by decide +kernel
theorem dX4_isLater_17 : decode cX4_isLater 17 = .ok (.aload_n 0, 1) := by decide +kernel
theorem dX4_isLater_18 : decode cX4_isLater 18 = .ok (.aload_n 0, 1) := by decide +kernel
theorem dX4_isLater_19 : decode cX4_isLater 19 = .ok (.getfield 22, 3) := by decide +kernel
theorem dX4_isLater_22 : decode cX4_isLater 22 = .ok (.iload_n 2, 1) := by decide +kernel
theorem dX4_isLater_23 : decode cX4_isLater 23 = .ok (.iaload, 1) := by decide +kernel
theorem dX4_isLater_24 : decode cX4_isLater 24 = .ok (.aload_n 0, 1) := by decide +kernel
theorem dX4_isLater_25 : decode cX4_isLater 25 = .ok (.getfield 37, 3) := by decide +kernel
theorem dX4_isLater_28 : decode cX4_isLater 28 = .ok (.iload_n 2, 1) := by decide +kernel
theorem dX4_isLater_29 : decode cX4_isLater 29 = .ok (.iaload, 1) := by decide +kernel
theorem dX4_isLater_30 : decode cX4_isLater 30 = .ok (.invokevirtual 70, 3) := by decide +kernel
theorem dX4_isLater_33 : decode cX4_isLater 33 = .ok (.istore 4, 2) := by decide +kernel
theorem dX4_isLater_35 : decode cX4_isLater 35 = .ok (.iload_n 3, 1) := by decide +kernel
theorem dX4_isLater_36 : decode cX4_isLater 36 = .ok (.iload 4, 2) := by decide +kernel
theorem dX4_isLater_38 : decode cX4_isLater 38 = .ok (.if_icmp .eq 15, 3) := by decide +kernel
theorem dX4_isLater_41 : decode cX4_isLater 41 = .ok (.iload_n 3, 1) := by decide +kernel
theorem dX4_isLater_42 : decode cX4_isLater 42 = .ok (.iload 4, 2) := by decide +kernel
theorem dX4_isLater_44 : decode cX4_isLater 44 = .ok (.if_icmp .le 7, 3) := by decide +kernel
theorem dX4_isLater_47 : decode cX4_isLater 47 = .ok (.iconst 1, 1) := by decide +kernel
theorem dX4_isLater_48 : decode cX4_isLater 48 = .ok (.goto 4, 3) := by decide +kernel
theorem dX4_isLater_51 : decode cX4_isLater 51 = .ok (.iconst 0, 1) := by decide +kernel
theorem dX4_isLater_52 : decode cX4_isLater 52 = .ok (.ireturn, 1) := by decide +kernel
theorem dX4_isLater_53 : decode cX4_isLater 53 = .ok (.aload_n 0, 1) := by decide +kernel
theorem dX4_isLater_54 : decode cX4_isLater 54 = .ok (.getfield 25, 3) := by decide +kernel
theorem dX4_isLater_57 : decode cX4_isLater 57 = .ok (.iload_n 1, 1) := by decide +kernel
theorem dX4_isLater_58 : decode cX4_isLater 58 = .ok (.iaload, 1) := by decide +kernel
theorem dX4_isLater_59 : decode cX4_isLater 59 = .ok (.aload_n 0, 1) := by decide +kernel
theorem dX4_isLater_60 : decode cX4_isLater 60 = .ok (.getfield 25, 3) := by decide +kernel
theorem dX4_isLater_63 : decode cX4_isLater 63 = .ok (.iload_n 2, 1) := by decide +kernel
theorem dX4_isLater_64 : decode cX4_isLater 64 = .ok (.iaload, 1) := by decide +kernel
theorem dX4_isLater_65 : decode cX4_isLater 65 = .ok (.if_icmp .eq 24, 3) := by decide +kernel
theorem dX4_isLater_68 : decode cX4_isLater 68 = .ok (.aload_n 0, 1) := by decide +kernel
theorem dX4_isLater_69 : decode cX4_isLater 69 = .ok (.getfield 25, 3) := by decide +kernel
theorem dX4_isLater_72 : decode cX4_isLater 72 = .ok (.iload_n 1, 1) := by decide +kernel
theorem dX4_isLater_73 : decode cX4_isLater 73 = .ok (.iaload, 1) := by decide +kernel
theorem dX4_isLater_74 : decode cX4_isLater 74 = .ok (.aload_n 0, 1) := by decide +kernel
theorem dX4_isLater_75 : decode cX4_isLater 75 = .ok (.getfield 25, 3) := by decide +kernel
theorem dX4_isLater_78 : decode cX4_isLater 78 = .ok (.iload_n 2, 1) := by decide +kernel
theorem dX4_isLater_79 : decode cX4_isLater 79 = .ok (.iaload, 1) := by decide +kernel
theorem dX4_isLater_80 : decode cX4_isLater 80 = .ok (.if_icmp .le 7, 3) := by decide +kernel
theorem dX4_isLater_83 : decode cX4_isLater 83 = .ok (.iconst 1, 1) := by decide +kernel
theorem dX4_isLater_84 : decode cX4_isLater 84 = .ok (.goto 4, 3) := by decide +kernel
theorem dX4_isLater_87 : decode cX4_isLater 87 = .ok (.iconst 0, 1) := by decide +kernel
theorem dX4_isLater_88 : decode cX4_isLater 88 = .ok (.ireturn, 1) := by decide +kernel
theorem dX4_isLater_89 : decode cX4_isLater 89 = .ok (.aload_n 0, 1) := by decide +kernel
theorem dX4_isLater_90 : decode cX4_isLater 90 = .ok (.getfield 22, 3) := by decide +kernel
theorem dX4_isLater_93 : decode cX4_isLater 93 = .ok (.iload_n 1, 1) := by decide +kernel
theorem dX4_isLater_94 : decode cX4_isLater 94 = .ok (.iaload, 1) := by decide +kernel
theorem dX4_isLater_95 : decode cX4_isLater 95 = .ok (.aload_n 0, 1) := by decide +kernel
theorem dX4_isLater_96 : decode cX4_isLater 96 = .ok (.getfield 22, 3) := by decide +kernel
theorem dX4_isLater_99 : decode cX4_isLater 99 = .ok (.iload_n 2, 1) := by decide +kernel
theorem dX4_isLater_100 : decode cX4_isLater 100 = .ok (.iaload, 1) := by decide +kernel
theorem dX4_isLater_101 : decode cX4_isLater 101 = .ok (.if_icmp .eq 26, 3) := by decide +kernel
theorem dX4_isLater_104 : decode cX4_isLater 104 = .ok (.aload_n 0, 1) := by decide +kernel
theorem dX4_isLater_105 : decode cX4_isLater 105 = .ok (.getfield 22, 3) := by decide +kernel
theorem dX4_isLater_108 : decode cX4_isLater 108 = .ok (.iload_n 1, 1) := by decide +kernel
theorem dX4_isLater_109 : decode cX4_isLater 109 = .ok (.iaload, 1) := by decide +kernel
theorem dX4_isLater_110 : decode cX4_isLater 110 = .ok (.aload_n 0, 1) := by decide +kernel
theorem dX4_isLater_111 : decode cX4_isLater 111 = .ok (.getfield 22, 3) := by decide +kernel
theorem dX4_isLater_114 : decode cX4_isLater 114 = .ok (.iload_n 2, 1) := by decide +kernel
theorem dX4_isLater_115 : decode cX4_isLater 115 = .ok (.iaload, 1) := by decide +kernel
theorem dX4_isLater_116 : decode cX4_isLater 116 = .ok (.if_icmp .le 7, 3) := by decide +kernel
theorem dX4_isLater_119 : decode cX4_isLater 119 = .ok (.iconst 1, 1) := by decide +kernel
theorem dX4_isLater_120 : decode cX4_isLater 120 = .ok (.goto 27, 3) := by decide +kernel
theorem dX4_isLater_123 : decode cX4_isLater 123 = .ok (.iconst 0, 1) := by decide +kernel
theorem dX4_isLater_124 : decode cX4_isLater 124 = .ok (.goto 23, 3) := by decide +kernel
theorem dX4_isLater_127 : decode cX4_isLater 127 = .ok (.aload_n 0, 1) := by decide +kernel
theorem dX4_isLater_128 : decode cX4_isLater 128 = .ok (.getfield 28, 3) := by decide +kernel
theorem dX4_isLater_131 : decode cX4_isLater 131 = .ok (.iload_n 1, 1) := by decide +kernel
theorem dX4_isLater_132 : decode cX4_isLater 132 = .ok (.iaload, 1) := by decide +kernel
theorem dX4_isLater_133 : decode cX4_isLater 133 = .ok (.aload_n 0, 1) := by decide +kernel
theorem dX4_isLater_134 : decode cX4_isLater 134 = .ok (.getfield 28, 3) := by decide +kernel
theorem dX4_isLater_137 : decode cX4_isLater 137 = .ok (.iload_n 2, 1) := by decide +kernel
theorem dX4_isLater_138 : decode cX4_isLater 138 = .ok (.iaload, 1) := by decide +kernel
theorem dX4_isLater_139 : decode cX4_isLater 139 = .ok (.if_icmp .le 7, 3) := by decide +kernel
theorem dX4_isLater_142 : decode cX4_isLater 142 = .ok (.iconst 1, 1) := by decide +kernel
theorem dX4_isLater_143 : decode cX4_isLater 143 = .ok (.goto 4, 3) := by decide +kernel
theorem dX4_isLater_146 : decode cX4_isLater 146 = .ok (.iconst 0, 1) := by decide +kernel
theorem dX4_isLater_147 : decode cX4_isLater 147 = .ok (.ireturn, 1) := by decide +kernel
theorem dX4_known_0 : decode cX4_known 0 = .ok (.iload_n 1, 1) := by decide +kernel
theorem dX4_known_1 : decode cX4_known 1 = .ok (.invokestatic 77, 3) := by decide +kernel
theorem dX4_known_4 : decode cX4_known 4 = .ok (.ifCond .eq 14, 3) := by decide +kernel
theorem dX4_known_7 : decode cX4_known 7 = .ok (.iload_n 2, 1) := by decide +kernel
theorem dX4_known_8 : decode cX4_known 8 = .ok (.i2l, 1) := by decide +kernel
theorem dX4_known_9 : decode cX4_known 9 = .ok (.iconst 0, 1) := by decide +kernel
theorem dX4_known_10 : decode cX4_known 10 = .ok (.bipush 7, 2) := by decide +kernel
theorem dX4_known_12 : decode cX4_known 12 = .ok (.invokestatic 57, 3) := by decide +kernel
theorem dX4_known_15 : decode cX4_known 15 = .ok (.ifCond .ne 7, 3) := by decide +kernel
theorem dX4_known_18 : decode cX4_known 18 = .ok (.iconst 1, 1) := by decide +kernel
theorem dX4_known_19 : decode cX4_known 19 = .ok (.goto 4, 3) := by decide +kernel
theorem dX4_known_22 : decode cX4_known 22 = .ok (.iconst 0, 1) := by decide +kernel
theorem dX4_known_23 : decode cX4_known 23 = .ok (.istore 4, 2) := by decide +kernel
theorem dX4_known_25 : decode cX4_known 25 = .ok (.iload 4, 2) := by decide +kernel
theorem dX4_known_27 : decode cX4_known 27 = .ok (.ifCond .ne 31, 3) := by decide +kernel
theorem dX4_known_30 : decode cX4_known 30 = .ok (.iload_n 3, 1) := by decide +kernel
theorem dX4_known_31 : decode cX4_known 31 = .ok (.i2l, 1) := by decide +kernel
theorem dX4_known_32 : decode cX4_known 32 = .ok (.iconst 0, 1) := by decide +kernel
theorem dX4_known_33 : decode cX4_known 33 = .ok (.aload_n 0, 1) := by decide +kernel
theorem dX4_known_34 : decode cX4_known 34 = .ok (.getfield 47, 3) := by decide +kernel
theorem dX4_known_37 : decode cX4_known 37 = .ok (.iload 4, 2) := by decide +kernel
theorem dX4_known_39 : decode cX4_known 39 = .ok (.ifCond .eq 7, 3) := by decide +kernel
theorem dX4_known_42 : decode cX4_known 42 = .ok (.iconst 0, 1) := by decide +kernel
theorem dX4_known_43 : decode cX4_known 43 = .ok (.goto 4, 3) := by decide +kernel
theorem dX4_known_46 : decode cX4_known 46 = .ok (.iload_n 1, 1) := by decide +kernel
theorem dX4_known_47 : decode cX4_known 47 = .ok (.iaload, 1) := by decide +kernel
theorem dX4_known_48 : decode cX4_known 48 = .ok (.invokestatic 57, 3) := by decide +kernel
theorem dX4_known_51 : decode cX4_known 51 = .ok (.ifCond .ne 7, 3) := by decide +kernel
theorem dX4_known_54 : decode cX4_known 54 = .ok (.iconst 1, 1) := by decide +kernel
theorem dX4_known_55 : decode cX4_known 55 = .ok (.goto 4, 3) := by decide +kernel
theorem dX4_known_58 : decode cX4_known 58 = .ok (.iconst 0, 1) := by decide +kernel
theorem dX4_known_59 : decode cX4_known 59 = .ok (.istore 5, 2) := by decide +kernel
theorem dX4_known_61 : decode cX4_known 61 = .ok (.iload 4, 2) := by decide +kernel
theorem dX4_known_63 : decode cX4_known 63 = .ok (.ifCond .ne 8, 3) := by decide +kernel
theorem dX4_known_66 : decode cX4_known 66 = .ok (.iload 5, 2) := by decide +kernel
theorem dX4_known_68 : decode cX4_known 68 = .ok (.ifCond .eq 7, 3) := by decide +kernel
theorem dX4_known_71 : decode cX4_known 71 = .ok (.iconst (-1), 1) := by decide +kernel
theorem dX4_known_72 : decode cX4_known 72 = .ok (.goto 10, 3) := by decide +kernel
theorem dX4_known_75 : decode cX4_known 75 = .ok (.aload_n 0, 1) := by decide +kernel
theorem dX4_known_76 : decode cX4_known 76 = .ok (.iload_n 1, 1) := by decide +kernel
theorem dX4_known_77 : decode cX4_known 77 = .ok (.iload_n 2, 1) := by decide +kernel
theorem dX4_known_78 : decode cX4_known 78 = .ok (.iload_n 3, 1) := by decide +kernel
theorem dX4_known_79 : decode cX4_known 79 = .ok (.invokevirtual 111, 3) := by decide +kernel
theorem dX4_known_82 : decode cX4_known 82 = .ok (.istore 6, 2) := by decide +kernel
theorem dX4_known_84 : decode cX4_known 84 = .ok (.aload_n 0, 1) := by decide +kernel
theorem dX4_known_85 : decode cX4_known 85 = .ok (.iload 4, 2) := by decide +kernel
theorem dX4_known_87 : decode cX4_known 87 = .ok (.iload 5, 2) := by decide +kernel
theorem dX4_known_89 : decode cX4_known 89 = .ok (.ifCond .ne 12, 3) := by decide +kernel
theorem dX4_known_92 : decode cX4_known 92 = .ok (.iload 6, 2) := by decide +kernel
theorem dX4_known_94 : decode cX4_known 94 = .ok (.ifCond .ge 7, 3) := by decide +kernel
theorem dX4_known_97 : decode cX4_known 97 = .ok (.iconst 1, 1) := by decide +kernel
theorem dX4_known_98 : decode cX4_known 98 = .ok (.goto 4, 3) := by decide +kernel
theorem dX4_known_101 : decode cX4_known 101 = .ok (.iconst 0, 1) := by decide +kernel
theorem dX4_known_102 : decode cX4_known 102 = .ok (.iload 5, 2) := by decide +kernel
theorem dX4_known_104 : decode cX4_known 104 = .ok (.iconst 0, 1) := by decide +kernel
theorem dX4_known_105 : decode cX4_known 105 = .ok (.invokevirtual 66, 3) := by decide +kernel
theorem dX4_known_108 : decode cX4_known 108 = .ok (.ifCond .eq 5, 3) := by decide +kernel
theorem dX4_known_111 : decode cX4_known 111 = .ok (.iconst 0, 1) := by decide +kernel
theorem dX4_known_112 : decode cX4_known 112 = .ok (.ireturn, 1) := by decide +kernel
theorem dX4_known_113 : decode cX4_known 113 = .ok (.aload_n 0, 1) := by decide +kernel
theorem dX4_known_114 : decode cX4_known 114 = .ok (.getfield 34, 3) := by decide +kernel
theorem dX4_known_117 : decode cX4_known 117 = .ok (.iload 6, 2) := by decide +kernel
theorem dX4_known_119 : decode cX4_known 119 = .ok (.iaload, 1) := by decide +kernel
theorem dX4_known_120 : decode cX4_known 120 = .ok (.ireturn, 1) := by decide +kernel
theorem dX4_many_0 : decode cX4_many 0 = .ok (.aload_n 0, 1) := by decide +kernel
theorem dX4_many_1 : decode cX4_many 1 = .ok (.iload_n 1, 1) := by decide +kernel
theorem dX4_many_2 : decode cX4_many 2 = .ok (.invokestatic 77, 3) := by decide +kernel
theorem dX4_many_5 : decode cX4_many 5 = .ok (.ifCond .eq 13, 3) := by decide +kernel
theorem dX4_many_8 : decode cX4_many 8 = .ok (.iload_n 2, 1) := by decide +kernel
theorem dX4_many_9 : decode cX4_many 9 = .ok (.i2l, 1) := by decide +kernel
theorem dX4_many_10 : decode cX4_many 10 = .ok (.iconst 0, 1) := by decide +kernel
theorem dX4_many_11 : decode cX4_many 11 = .ok (.iconst 2, 1) := by decide +kernel
theorem dX4_many_12 : decode cX4_many 12 = .ok (.invokestatic 57, 3) := by decide +kernel
theorem dX4_many_15 : decode cX4_many 15 = .ok (.ifCond .ne 7, 3) := by decide +kernel
theorem dX4_many_18 : decode cX4_many 18 = .ok (.iconst 1, 1) := by decide +kernel
theorem dX4_many_19 : decode cX4_many 19 = .ok (.goto 4, 3) := by decide +kernel
theorem dX4_many_22 : decode cX4_many 22 = .ok (.iconst 0, 1) := by decide +kernel
theorem dX4_many_23 : decode cX4_many 23 = .ok (.iconst 0, 1) := by decide +kernel
theorem dX4_many_24 : decode cX4_many 24 = .ok (.iconst 0, 1) := by decide +kernel
theorem dX4_many_25 : decode cX4_many 25 = .ok (.iconst 0, 1) := by decide +kernel
theorem dX4_many_26 : decode cX4_many 26 = .ok (.invokevirtual 66, 3) := by decide +kernel
theorem dX4_many_29 : decode cX4_many 29 = .ok (.ifCond .eq 5, 3) := by decide +kernel
theorem dX4_many_32 : decode cX4_many 32 = .ok (.iconst 0, 1) := by decide +kernel
theorem dX4_many_33 : decode cX4_many 33 = .ok (.ireturn, 1) := by decide +kernel
theorem dX4_many_34 : decode cX4_many 34 = .ok (.iload_n 2, 1) := by decide +kernel
theorem dX4_many_35 : decode cX4_many 35 = .ok (.iconst 1, 1) := by decide +kernel
theorem dX4_many_36 : decode cX4_many 36 = .ok (.if_icmp .ne 10, 3) := by decide +kernel
theorem dX4_many_39 : decode cX4_many 39 = .ok (.aload_n 0, 1) := by decide +kernel
theorem dX4_many_40 : decode cX4_many 40 = .ok (.getfield 47, 3) := by decide +kernel
theorem dX4_many_43 : decode cX4_many 43 = .ok (.iload_n 1, 1) := by decide +kernel
theorem dX4_many_44 : decode cX4_many 44 = .ok (.iaload, 1) := by decide +kernel
theorem dX4_many_45 : decode cX4_many 45 = .ok (.ireturn, 1) := by decide +kernel
theorem dX4_many_46 : decode cX4_many 46 = .ok (.iconst 0, 1) := by decide +kernel
theorem dX4_many_47 : decode cX4_many 47 = .ok (.istore_n 3, 1) := by decide +kernel
theorem dX4_many_48 : decode cX4_many 48 = .ok (.iconst 0, 1) := by decide +kernel
theorem dX4_many_49 : decode cX4_many 49 = .ok (.istore 4, 2) := by decide +kernel
theorem dX4_many_51 : decode cX4_many 51 = .ok (.iload 4, 2) := by decide +kernel
theorem dX4_many_53 : decode cX4_many 53 = .ok (.aload_n 0, 1) := by decide +kernel
theorem dX4_many_54 : decode cX4_many 54 = .ok (.getfield 74, 3) := by decide +kernel
theorem dX4_many_57 : decode cX4_many 57 = .ok (.if_icmp .ge 59, 3) := by decide +kernel
theorem dX4_many_60 : decode cX4_many 60 = .ok (.iload_n 3, 1) := by decide +kernel
theorem dX4_many_61 : decode cX4_many 61 = .ok (.iload_n 2, 1) := by decide +kernel
theorem dX4_many_62 : decode cX4_many 62 = .ok (.ifCond .ne 26, 3) := by decide +kernel
theorem dX4_many_65 : decode cX4_many 65 = .ok (.aload_n 0, 1) := by decide +kernel
theorem dX4_many_66 : decode cX4_many 66 = .ok (.getfield 44, 3) := by decide +kernel
theorem dX4_many_69 : decode cX4_many 69 = .ok (.bipush 120, 2) := by decide +kernel
theorem dX4_many_71 : decode cX4_many 71 = .ok (.iload_n 1, 1) := by decide +kernel
theorem dX4_many_72 : decode cX4_many 72 = .ok (.imul, 1) := by decide +kernel
theorem dX4_many_73 : decode cX4_many 73 = .ok (.iload 4, 2) := by decide +kernel
theorem dX4_many_75 : decode cX4_many 75 = .ok (.iadd, 1) := by decide +kernel
theorem dX4_many_76 : decode cX4_many 76 = .ok (.iaload, 1) := by decide +kernel
theorem dX4_many_77 : decode cX4_many 77 = .ok (.ifCond .le 7, 3) := by decide +kernel
theorem dX4_many_80 : decode cX4_many 80 = .ok (.iconst 1, 1) := by decide +kernel
theorem dX4_many_81 : decode cX4_many 81 = .ok (.goto 27, 3) := by decide +kernel
theorem dX4_many_84 : decode cX4_many 84 = .ok (.iconst 0, 1) := by decide +kernel
theorem dX4_many_85 : decode cX4_many 85 = .ok (.goto 23, 3) := by decide +kernel
theorem dX4_many_88 : decode cX4_many 88 = .ok (.aload_n 0, 1) := by decide +kernel
theorem dX4_many_89 : decode cX4_many 89 = .ok (.getfield 44, 3) := by decide +kernel
theorem dX4_many_92 : decode cX4_many 92 = .ok (.bipush 120, 2) := by decide +kernel
theorem dX4_many_94 : decode cX4_many 94 = .ok (.iload_n 1, 1) := by decide +kernel
theorem dX4_many_95 : decode cX4_many 95 = .ok (.imul, 1) := by decide +kernel
theorem dX4_many_96 : decode cX4_many 96 = .ok (.iload 4, 2) := by decide +kernel
theorem dX4_many_98 : decode cX4_many 98 = .ok (.iadd, 1) := by decide +kernel
theorem dX4_many_99 : decode cX4_many 99 = .ok (.iaload, 1) := by decide +kernel
theorem dX4_many_100 : decode cX4_many 100 = .ok (.ifCond .ge 7, 3) := by decide +kernel
theorem dX4_many_103 : decode cX4_many 103 = .ok (.iconst 1, 1) := by decide +kernel
theorem dX4_many_104 : decode cX4_many 104 = .ok (.goto 4, 3) := by decide +kernel
theorem dX4_many_107 : decode cX4_many 107 = .ok (.iconst 0, 1) := by decide +kernel
theorem dX4_many_108 : decode cX4_many 108 = .ok (.iadd, 1) := by decide +kernel
theorem dX4_many_109 : decode cX4_many 109 = .ok (.istore_n 3, 1) := by decide +kernel
theorem dX4_many_110 : decode cX4_many 110 = .ok (.iinc 4 1, 3) := by decide +kernel
theorem dX4_many_113 : decode cX4_many 113 = .ok (.goto (-62), 3) := by decide +kernel
theorem dX4_many_116 : decode cX4_many 116 = .ok (.iload_n 3, 1) := by decide +kernel
theorem dX4_many_117 : decode cX4_many 117 = .ok (.ireturn, 1) := by decide +kernel
theorem dX4_gap_0 : decode cX4_gap 0 = .ok (.aload_n 0, 1) := by decide +kernel
theorem dX4_gap_1 : decode cX4_gap 1 = .ok (.iload_n 1, 1) := by decide +kernel
theorem dX4_gap_2 : decode cX4_gap 2 = .ok (.invokestatic 77, 3) := by decide +kernel
theorem dX4_gap_5 : decode cX4_gap 5 = .ok (.ifCond .eq 14, 3) := by decide +kernel
theorem dX4_gap_8 : decode cX4_gap 8 = .ok (.iload_n 2, 1) := by decide +kernel
theorem dX4_gap_9 : decode cX4_gap 9 = .ok (.invokestatic 61, 3) := by decide +kernel
theorem dX4_gap_12 : decode cX4_gap 12 = .ok (.ifCond .eq 7, 3) := by decide +kernel
theorem dX4_gap_15 : decode cX4_gap 15 = .ok (.iload_n 3, 1) := by decide +kernel
theorem dX4_gap_16 : decode cX4_gap 16 = .ok (.ifCond .ge 7, 3) := by decide +kernel
theorem dX4_gap_19 : decode cX4_gap 19 = .ok (.iconst 1, 1) := by decide +kernel
theorem dX4_gap_20 : decode cX4_gap 20 = .ok (.goto 4, 3) := by decide +kernel
theorem dX4_gap_23 : decode cX4_gap 23 = .ok (.iconst 0, 1) := by decide +kernel
theorem dX4_gap_24 : decode cX4_gap 24 = .ok (.iconst 0, 1) := by decide +kernel
theorem dX4_gap_25 : decode cX4_gap 25 = .ok (.iconst 0, 1) := by decide +kernel
theorem dX4_gap_26 : decode cX4_gap 26 = .ok (.iconst 0, 1) := by decide +kernel
theorem dX4_gap_27 : decode cX4_gap 27 = .ok (.invokevirtual 66, 3) := by decide +kernel
theorem dX4_gap_30 : decode cX4_gap 30 = .ok (.ifCond .eq 5, 3) := by decide +kernel
theorem dX4_gap_33 : decode cX4_gap 33 = .ok (.iconst 0, 1) := by decide +kernel
theorem dX4_gap_34 : decode cX4_gap 34 = .ok (.ireturn, 1) := by decide +kernel
theorem dX4_gap_35 : decode cX4_gap 35 = .ok (.bipush 99, 2) := by decide +kernel
theorem dX4_gap_37 : decode cX4_gap 37 = .ok (.istore 4, 2) := by decide +kernel
theorem dX4_gap_39 : decode cX4_gap 39 = .ok (.iload 4, 2) := by decide +kernel
theorem dX4_gap_41 : decode cX4_gap 41 = .ok (.ifCond .lt 20, 3) := by decide +kernel
theorem dX4_gap_44 : decode cX4_gap 44 = .ok (.aload_n 0, 1) := by decide +kernel
theorem dX4_gap_45 : decode cX4_gap 45 = .ok (.iload_n 1, 1) := by decide +kernel
theorem dX4_gap_46 : decode cX4_gap 46 = .ok (.iload_n 2, 1) := by decide +kernel
theorem dX4_gap_47 : decode cX4_gap 47 = .ok (.iload 4, 2) := by decide +kernel
theorem dX4_gap_49 : decode cX4_gap 49 = .ok (.invokevirtual 115, 3) := by decide +kernel
theorem dX4_gap_52 : decode cX4_gap 52 = .ok (.ifCond .ne 9, 3) := by decide +kernel
theorem dX4_gap_55 : decode cX4_gap 55 = .ok (.iinc 4 (-1), 3) := by decide +kernel
theorem dX4_gap_58 : decode cX4_gap 58 = .ok (.goto (-19), 3) := by decide +kernel
theorem dX4_gap_61 : decode cX4_gap 61 = .ok (.iconst 0, 1) := by decide +kernel
theorem dX4_gap_62 : decode cX4_gap 62 = .ok (.istore 5, 2) := by decide +kernel
theorem dX4_gap_64 : decode cX4_gap 64 = .ok (.iconst 0, 1) := by decide +kernel
theorem dX4_gap_65 : decode cX4_gap 65 = .ok (.istore 6, 2) := by decide +kernel
theorem dX4_gap_67 : decode cX4_gap 67 = .ok (.iload 6, 2) := by decide +kernel
theorem dX4_gap_69 : decode cX4_gap 69 = .ok (.iload 4, 2) := by decide +kernel
theorem dX4_gap_71 : decode cX4_gap 71 = .ok (.if_icmp .ge 67, 3) := by decide +kernel
theorem dX4_gap_74 : decode cX4_gap 74 = .ok (.iload 6, 2) := by decide +kernel
theorem dX4_gap_76 : decode cX4_gap 76 = .ok (.istore 7, 2) := by decide +kernel
theorem dX4_gap_78 : decode cX4_gap 78 = .ok (.iload 7, 2) := by decide +kernel
theorem dX4_gap_80 : decode cX4_gap 80 = .ok (.iload 4, 2) := by decide +kernel
theorem dX4_gap_82 : decode cX4_gap 82 = .ok (.if_icmp .ge 20, 3) := by decide +kernel
theorem dX4_gap_85 : decode cX4_gap 85 = .ok (.aload_n 0, 1) := by decide +kernel
theorem dX4_gap_86 : decode cX4_gap 86 = .ok (.iload_n 1, 1) := by decide +kernel
theorem dX4_gap_87 : decode cX4_gap 87 = .ok (.iload_n 2, 1) := by decide +kernel
theorem dX4_gap_88 : decode cX4_gap 88 = .ok (.iload 7, 2) := by decide +kernel
theorem dX4_gap_90 : decode cX4_gap 90 = .ok (.invokevirtual 115, 3) := by decide +kernel
theorem dX4_gap_93 : decode cX4_gap 93 = .ok (.ifCond .ne 9, 3) := by decide +kernel
theorem dX4_gap_96 : decode cX4_gap 96 = .ok (.iinc 7 1, 3) := by decide +kernel
theorem dX4_gap_99 : decode cX4_gap 99 = .ok (.goto (-21), 3) := by decide +kernel
theorem dX4_gap_102 : decode cX4_gap 102 = .ok (.iload 7, 2) := by decide +kernel
theorem dX4_gap_104 : decode cX4_gap 104 = .ok (.iload 6, 2) := by decide +kernel
theorem dX4_gap_106 : decode cX4_gap 106 = .ok (.if_icmp .le 23, 3) := by decide +kernel
theorem dX4_gap_109 : decode cX4_gap 109 = .ok (.iload 5, 2) := by decide +kernel
theorem dX4_gap_111 : decode cX4_gap 111 = .ok (.iload_n 3, 1) := by decide +kernel
theorem dX4_gap_112 : decode cX4_gap 112 = .ok (.if_icmp .ne 14, 3) := by decide +kernel
theorem dX4_gap_115 : decode cX4_gap 115 = .ok (.bipush 100, 2) := by decide +kernel
theorem dX4_gap_117 : decode cX4_gap 117 = .ok (.iload 6, 2) := by decide +kernel
theorem dX4_gap_119 : decode cX4_gap 119 = .ok (.imul, 1) := by decide +kernel
theorem dX4_gap_120 : decode cX4_gap 120 = .ok (.iload 7, 2) := by decide +kernel
theorem dX4_gap_122 : decode cX4_gap 122 = .ok (.iadd, 1) := by decide +kernel
theorem dX4_gap_123 : decode cX4_gap 123 = .ok (.iconst 1, 1) := by decide +kernel
theorem dX4_gap_124 : decode cX4_gap 124 = .ok (.isub, 1) := by decide +kernel
theorem dX4_gap_125 : decode cX4_gap 125 = .ok (.ireturn, 1) := by decide +kernel
theorem dX4_gap_126 : decode cX4_gap 126 = .ok (.iinc 5 1, 3) := by decide +kernel
theorem dX4_gap_129 : decode cX4_gap 129 = .ok (.iload 7, 2) := by decide +kernel
theorem dX4_gap_131 : decode cX4_gap 131 = .ok (.iconst 1, 1) := by decide +kernel
theorem dX4_gap_132 : decode cX4_gap 132 = .ok (.iadd, 1) := by decide +kernel
theorem dX4_gap_133 : decode cX4_gap 133 = .ok (.istore 6, 2) := by decide +kernel
theorem dX4_gap_135 : decode cX4_gap 135 = .ok (.goto (-68), 3) := by decide +kernel
theorem dX4_gap_138 : decode cX4_gap 138 = .ok (.iconst (-1), 1) := by decide +kernel
theorem dX4_gap_139 : decode cX4_gap 139 = .ok (.ireturn, 1) := by decide +kernel
theorem dX4_hasNumber_0 : decode cX4_hasNumber 0 = .ok (.iconst 0, 1) := by decide +kernel
theorem dX4_hasNumber_1 : decode cX4_hasNumber 1 = .ok (.istore 4, 2) := by decide +kernel
theorem dX4_hasNumber_3 : decode cX4_hasNumber 3 = .ok (.iconst 0, 1) := by decide +kernel
theorem dX4_hasNumber_4 : decode cX4_hasNumber 4 = .ok (.istore 5, 2) := by decide +kernel
theorem dX4_hasNumber_6 : decode cX4_hasNumber 6 = .ok (.iload 5, 2) := by decide +kernel
theorem dX4_hasNumber_8 : decode cX4_hasNumber 8 = .ok (.aload_n 0, 1) := by decide +kernel
theorem dX4_hasNumber_9 : decode cX4_hasNumber 9 = .ok (.getfield 74, 3) := by decide +kernel
theorem dX4_hasNumber_12 : decode cX4_hasNumber 12 = .ok (.if_icmp .ge 74, 3) := by decide +kernel
theorem dX4_hasNumber_15 : decode cX4_hasNumber 15 = .ok (.iload 4, 2) := by decide +kernel
theorem dX4_hasNumber_17 : decode cX4_hasNumber 17 = .ok (.ifCond .ne 56, 3) := by decide +kernel
theorem dX4_hasNumber_20 : decode cX4_hasNumber 20 = .ok (.aload_n 0, 1) := by decide +kernel
theorem dX4_hasNumber_21 : decode cX4_hasNumber 21 = .ok (.getfield 22, 3) := by decide +kernel
theorem dX4_hasNumber_24 : decode cX4_hasNumber 24 = .ok (.iload 5, 2) := by decide +kernel
theorem dX4_hasNumber_26 : decode cX4_hasNumber 26 = .ok (.iaload, 1) := by decide +kernel
theorem dX4_hasNumber_27 : decode cX4_hasNumber 27 = .ok (.iload_n 2, 1) := by decide +kernel
theorem dX4_hasNumber_28 : decode cX4_hasNumber 28 = .ok (.if_icmp .ne 49, 3) := by decide +kernel
theorem dX4_hasNumber_31 : decode cX4_hasNumber 31 = .ok (.aload_n 0, 1) := by decide +kernel
theorem dX4_hasNumber_32 : decode cX4_hasNumber 32 = .ok (.getfield 25, 3) := by decide +kernel
theorem dX4_hasNumber_35 : decode cX4_hasNumber 35 = .ok (.iload 5, 2) := by decide +kernel
theorem dX4_hasNumber_37 : decode cX4_hasNumber 37 = .ok (.iaload, 1) := by decide +kernel
theorem dX4_hasNumber_38 : decode cX4_hasNumber 38 = .ok (.aload_n 0, 1) := by decide +kernel
theorem dX4_hasNumber_39 : decode cX4_hasNumber 39 = .ok (.getfield 7, 3) := by decide +kernel
theorem dX4_hasNumber_42 : decode cX4_hasNumber 42 = .ok (.iload_n 2, 1) := by decide +kernel
theorem dX4_hasNumber_43 : decode cX4_hasNumber 43 = .ok (.iaload, 1) := by decide +kernel
theorem dX4_hasNumber_44 : decode cX4_hasNumber 44 = .ok (.if_icmp .ne 33, 3) := by decide +kernel
theorem dX4_hasNumber_47 : decode cX4_hasNumber 47 = .ok (.aload_n 0, 1) := by decide +kernel
theorem dX4_hasNumber_48 : decode cX4_hasNumber 48 = .ok (.getfield 28, 3) := by decide +kernel
theorem dX4_hasNumber_51 : decode cX4_hasNumber 51 = .ok (.iload 5, 2) := by decide +kernel
theorem dX4_hasNumber_53 : decode cX4_hasNumber 53 = .ok (.iaload, 1) := by decide +kernel
theorem dX4_hasNumber_54 : decode cX4_hasNumber 54 = .ok (.iload_n 3, 1) := by decide +kernel
theorem dX4_hasNumber_55 : decode cX4_hasNumber 55 = .ok (.if_icmp .ne 22, 3) := by decide +kernel
theorem dX4_hasNumber_58 : decode cX4_hasNumber 58 = .ok (.aload_n 0, 1) := by decide +kernel
theorem dX4_hasNumber_59 : decode cX4_hasNumber 59 = .ok (.getfield 44, 3) := by decide +kernel
theorem dX4_hasNumber_62 : decode cX4_hasNumber 62 = .ok (.bipush 120, 2) := by decide +kernel
theorem dX4_hasNumber_64 : decode cX4_hasNumber 64 = .ok (.iload_n 1, 1) := by decide +kernel
theorem dX4_hasNumber_65 : decode cX4_hasNumber 65 = .ok (.imul, 1) := by decide +kernel
theorem dX4_hasNumber_66 : decode cX4_hasNumber 66 = .ok (.iload 5, 2) := by decide +kernel
theorem dX4_hasNumber_68 : decode cX4_hasNumber 68 = .ok (.iadd, 1) := by decide +kernel
theorem dX4_hasNumber_69 : decode cX4_hasNumber 69 = .ok (.iaload, 1) := by decide +kernel
theorem dX4_hasNumber_70 : decode cX4_hasNumber 70 = .ok (.ifCond .le 7, 3) := by decide +kernel
theorem dX4_hasNumber_73 : decode cX4_hasNumber 73 = .ok (.iconst 1, 1) := by decide +kernel
theorem dX4_hasNumber_74 : decode cX4_hasNumber 74 = .ok (.goto 4, 3) := by decide +kernel
theorem dX4_hasNumber_77 : decode cX4_hasNumber 77 = .ok (.iconst 0, 1) := by decide +kernel
theorem dX4_hasNumber_78 : decode cX4_hasNumber 78 = .ok (.istore 4, 2) := by decide +kernel
theorem dX4_hasNumber_80 : decode cX4_hasNumber 80 = .ok (.iinc 5 1, 3) := by decide +kernel
theorem dX4_hasNumber_83 : decode cX4_hasNumber 83 = .ok (.goto (-77), 3) := by decide +kernel
theorem dX4_hasNumber_86 : decode cX4_hasNumber 86 = .ok (.iload 4, 2) := by decide +kernel
theorem dX4_hasNumber_88 : decode cX4_hasNumber 88 = .ok (.ireturn, 1) := by decide +kernel
