theorem dX9_in_0 : decode cX9_in 0 = .ok (.lload_n 0, 1) := by decide +kernel
theorem dX9_in_1 : decode cX9_in 1 = .ok (.lload_n 2, 1) := by decide +kernel
theorem dX9_in_2 : decode cX9_in 2 = .ok (.lcmp, 1) := by decide +kernel
theorem dX9_in_3 : decode cX9_in 3 = .ok (.ifCond .lt 14, 3) := by decide +kernel
theorem dX9_in_6 : decode cX9_in 6 = .ok (.lload_n 0, 1) := by decide +kernel
theorem dX9_in_7 : decode cX9_in 7 = .ok (.lload 4, 2) := by decide +kernel
theorem dX9_in_9 : decode cX9_in 9 = .ok (.lcmp, 1) := by decide +kernel
theorem dX9_in_10 : decode cX9_in 10 = .ok (.ifCond .gt 7, 3) := by decide +kernel
theorem dX9_in_13 : decode cX9_in 13 = .ok (.iconst 1, 1) := by decide +kernel
theorem dX9_in_14 : decode cX9_in 14 = .ok (.goto 4, 3) := by decide +kernel
theorem dX9_in_17 : decode cX9_in 17 = .ok (.iconst 0, 1) := by decide +kernel
theorem dX9_in_18 : decode cX9_in 18 = .ok (.ireturn, 1) := by decide +kernel
theorem dX9_init_0 : decode cX9_init 0 = .ok (.aload_n 0, 1) := by decide +kernel
theorem dX9_init_1 : decode cX9_init 1 = .ok (.invokespecial 1, 3) := by decide +kernel
theorem dX9_init_4 : decode cX9_init 4 = .ok (.aload_n 0, 1) := by decide +kernel
theorem dX9_init_5 : decode cX9_init 5 = .ok (.sipush 500, 3) := by decide +kernel
theorem dX9_init_8 : decode cX9_init 8 = .ok (.newarray .int, 2) := by decide +kernel
theorem dX9_init_10 : decode cX9_init 10 = .ok (.putfield 7, 3) := by decide +kernel
theorem dX9_init_13 : decode cX9_init 13 = .ok (.aload_n 0, 1) := by decide +kernel
theorem dX9_init_14 : decode cX9_init 14 = .ok (.iconst 4, 1) := by decide +kernel
theorem dX9_init_15 : decode cX9_init 15 = .ok (.newarray .int, 2) := by decide +kernel
theorem dX9_init_17 : decode cX9_init 17 = .ok (.putfield 13, 3) := by decide +kernel
theorem dX9_init_20 : decode cX9_init 20 = .ok (.aload_n 0, 1) := by decide +kernel
theorem dX9_init_21 : decode cX9_init 21 = .ok (.iconst 4, 1) := by decide +kernel
theorem dX9_init_22 : decode cX9_init 22 = .ok (.newarray .int, 2) := by decide +kernel
theorem dX9_init_24 : decode cX9_init 24 = .ok (.putfield 16, 3) := by decide +kernel
theorem dX9_init_27 : decode cX9_init 27 = .ok (.aload_n 0, 1) := by decide +kernel
theorem dX9_init_28 : decode cX9_init 28 = .ok (.bipush 8, 2) := by decide +kernel
theorem dX9_init_30 : decode cX9_init 30 = .ok (.newarray .int, 2) := by decide +kernel
theorem dX9_init_32 : decode cX9_init 32 = .ok (.putfield 19, 3) := by decide +kernel
theorem dX9_init_35 : decode cX9_init 35 = .ok (.aload_n 0, 1) := by decide +kernel
theorem dX9_init_36 : decode cX9_init 36 = .ok (.bipush 20, 2) := by decide +kernel
theorem dX9_init_38 : decode cX9_init 38 = .ok (.newarray .int, 2) := by decide +kernel
theorem dX9_init_40 : decode cX9_init 40 = .ok (.putfield 22, 3) := by decide +kernel
theorem dX9_init_43 : decode cX9_init 43 = .ok (.aload_n 0, 1) := by decide +kernel
theorem dX9_init_44 : decode cX9_init 44 = .ok (.bipush 20, 2) := by decide +kernel
theorem dX9_init_46 : decode cX9_init 46 = .ok (.newarray .int, 2) := by decide +kernel
theorem dX9_init_48 : decode cX9_init 48 = .ok (.putfield 25, 3) := by decide +kernel
theorem dX9_init_51 : decode cX9_init 51 = .ok (.aload_n 0, 1) := by decide +kernel
theorem dX9_init_52 : decode cX9_init 52 = .ok (.bipush 20, 2) := by decide +kernel
theorem dX9_init_54 : decode cX9_init 54 = .ok (.newarray .int, 2) := by decide +kernel
theorem dX9_init_56 : decode cX9_init 56 = .ok (.putfield 28, 3) := by decide +kernel
theorem dX9_init_59 : decode cX9_init 59 = .ok (.aload_n 0, 1) := by decide +kernel
theorem dX9_init_60 : decode cX9_init 60 = .ok (.iconst 4, 1) := by decide +kernel
theorem dX9_init_61 : decode cX9_init 61 = .ok (.newarray .int, 2) := by decide +kernel
theorem dX9_init_63 : decode cX9_init 63 = .ok (.putfield 31, 3) := by decide +kernel
theorem dX9_init_66 : decode cX9_init 66 = .ok (.aload_n 0, 1) := by decide +kernel
theorem dX9_init_67 : decode cX9_init 67 = .ok (.bipush 8, 2) := by decide +kernel
theorem dX9_init_69 : decode cX9_init 69 = .ok (.newarray .int, 2) := by decide +kernel
theorem dX9_init_71 : decode cX9_init 71 = .ok (.putfield 34, 3) := by decide +kernel
theorem dX9_init_74 : decode cX9_init 74 = .ok (.aload_n 0, 1) := by decide +kernel
theorem dX9_init_75 : decode cX9_init 75 = .ok (.bipush 8, 2) := by decide +kernel
theorem dX9_init_77 : decode cX9_init 77 = .ok (.newarray .int, 2) := by decide +kernel
theorem dX9_init_79 : decode cX9_init 79 = .ok (.putfield 37, 3) := by decide +kernel
theorem dX9_init_82 : decode cX9_init 82 = .ok (.aload_n 0, 1) := by decide +kernel
theorem dX9_init_83 : decode cX9_init 83 = .ok (.bipush 20, 2) := by decide +kernel
theorem dX9_init_85 : decode cX9_init 85 = .ok (.newarray .int, 2) := by decide +kernel
theorem dX9_init_87 : decode cX9_init 87 = .ok (.putfield 40, 3) := by decide +kernel
theorem dX9_init_90 : decode cX9_init 90 = .ok (.aload_n 0, 1) := by decide +kernel
theorem dX9_init_91 : decode cX9_init 91 = .ok (.bipush 20, 2) := by decide +kernel
theorem dX9_init_93 : decode cX9_init 93 = .ok (.newarray .int, 2) := by decide +kernel
theorem dX9_init_95 : decode cX9_init 95 = .ok (.putfield 43, 3) := by decide +kernel
theorem dX9_init_98 : decode cX9_init 98 = .ok (.aload_n 0, 1) := by decide +kernel
theorem dX9_init_99 : decode cX9_init 99 = .ok (.bipush 20, 2) := by decide +kernel
theorem dX9_init_101 : decode cX9_init 101 = .ok (.newarray .int, 2) := by decide +kernel
theorem dX9_init_103 : decode cX9_init 103 = .ok (.putfield 46, 3) := by decide +kernel
theorem dX9_init_106 : decode cX9_init 106 = .ok (.aload_n 0, 1) := by decide +kernel
theorem dX9_init_107 : decode cX9_init 107 = .ok (.bipush 20, 2) := by decide +kernel
theorem dX9_init_109 : decode cX9_init 109 = .ok (.newarray .int, 2) := by decide +kernel
theorem dX9_init_111 : decode cX9_init 111 = .ok (.putfield 49, 3) := by decide +kernel
theorem dX9_init_114 : decode cX9_init 114 = .ok (.aload_n 0, 1) := by decide +kernel
theorem dX9_init_115 : decode cX9_init 115 = .ok (.sipush 4096, 3) := by decide +kernel
theorem dX9_init_118 : decode cX9_init 118 = .ok (.newarray .long, 2) := by decide +kernel
theorem dX9_init_120 : decode cX9_init 120 = .ok (.putfield 52, 3) := by decide +kernel
theorem dX9_init_123 : decode cX9_init 123 = .ok (.aload_n 0, 1) := by decide +kernel
theorem dX9_init_124 : decode cX9_init 124 = .ok (.iconst 5, 1) := by decide +kernel
theorem dX9_init_125 : decode cX9_init 125 = .ok (.newarray .int, 2) := by decide +kernel
theorem dX9_init_127 : decode cX9_init 127 = .ok (.putfield 56, 3) := by decide +kernel
theorem dX9_init_130 : decode cX9_init 130 = .ok (.aload_n 0, 1) := by decide +kernel
theorem dX9_init_131 : decode cX9_init 131 = .ok (.iconst 5, 1) := by decide +kernel
theorem dX9_init_132 : decode cX9_init 132 = .ok (.newarray .int, 2) := by decide +kernel
theorem dX9_init_134 : decode cX9_init 134 = .ok (.putfield 59, 3) := by decide +kernel
theorem dX9_init_137 : decode cX9_init 137 = .ok (.aload_n 0, 1) := by decide +kernel
theorem dX9_init_138 : decode cX9_init 138 = .ok (.iconst 5, 1) := by decide +kernel
theorem dX9_init_139 : decode cX9_init 139 = .ok (.newarray .int, 2) := by decide +kernel
theorem dX9_init_141 : decode cX9_init 141 = .ok (.putfield 62, 3) := by decide +kernel
theorem dX9_init_144 : decode cX9_init 144 = .ok (.aload_n 0, 1) := by decide +kernel
theorem dX9_init_145 : decode cX9_init 145 = .ok (.bipush 8, 2) := by decide +kernel
theorem dX9_init_147 : decode cX9_init 147 = .ok (.newarray .int, 2) := by decide +kernel
theorem dX9_init_149 : decode cX9_init 149 = .ok (.putfield 65, 3) := by decide +kernel
theorem dX9_init_152 : decode cX9_init 152 = .ok (.aload_n 0, 1) := by decide +kernel
theorem dX9_init_153 : decode cX9_init 153 = .ok (.bipush 8, 2) := by decide +kernel
theorem dX9_init_155 : decode cX9_init 155 = .ok (.newarray .int, 2) := by decide +kernel
theorem dX9_init_157 : decode cX9_init 157 = .ok (.putfield 68, 3) := by decide +kernel
theorem dX9_init_160 : decode cX9_init 160 = .ok (.aload_n 0, 1) := by decide +kernel
theorem dX9_init_161 : decode cX9_init 161 = .ok (.bipush 8, 2) := by decide +kernel
theorem dX9_init_163 : decode cX9_init 163 = .ok (.newarray .int, 2) := by decide +kernel
theorem dX9_init_165 : decode cX9_init 165 = .ok (.putfield 71, 3) := by decide +kernel
theorem dX9_init_168 : decode cX9_init 168 = .ok (.aload_n 0, 1) := by decide +kernel
theorem dX9_init_169 : decode cX9_init 169 = .ok (.bipush 8, 2) := by decide +kernel
theorem dX9_init_171 : decode cX9_init 171 = .ok (.newarray .int, 2) := by decide +kernel
theorem dX9_init_173 : decode cX9_init 173 = .ok (.putfield 74, 3) := by decide +kernel
theorem dX9_init_176 : decode cX9_init 176 = .ok (.aload_n 0, 1) := by decide +kernel
theorem dX9_init_177 : decode cX9_init 177 = .ok (.bipush 30, 2) := by decide +kernel
theorem dX9_init_179 : decode cX9_init 179 = .ok (.newarray .int, 2) := by decide +kernel
theorem dX9_init_181 : decode cX9_init 181 = .ok (.putfield 77, 3) := by decide +kernel
theorem dX9_init_184 : decode cX9_init 184 = .ok (.aload_n 0, 1) := by decide +kernel
theorem dX9_init_185 : decode cX9_init 185 = .ok (.bipush 30, 2) := by decide +kernel
theorem dX9_init_187 : decode cX9_init 187 = .ok (.newarray .int, 2) := by decide +kernel
theorem dX9_init_189 : decode cX9_init 189 = .ok (.putfield 80, 3) := by decide +kernel
theorem dX9_init_192 : decode cX9_init 192 = .ok (.aload_n 0, 1) := by decide +kernel
theorem dX9_init_193 : decode cX9_init 193 = .ok (.bipush 46, 2) := by decide +kernel
theorem dX9_init_195 : decode cX9_init 195 = .ok (.newarray .int, 2) := by decide +kernel
theorem dX9_init_197 : decode cX9_init 197 = .ok (.putfield 83, 3) := by decide +kernel
theorem dX9_init_200 : decode cX9_init 200 = .ok (.aload_n 0, 1) := by decide +kernel
theorem dX9_init_201 : decode cX9_init 201 = .ok (.iconst (-1), 1) := by decide +kernel
theorem dX9_init_202 : decode cX9_init 202 = .ok (.putfield 86, 3) := by decide +kernel
theorem dX9_init_205 : decode cX9_init 205 = .ok (.return_, 1) := by decide +kernel
theorem dX9_size_0 : decode cX9_size 0 = .ok (.iconst 0, 1) := by decide +kernel
theorem dX9_size_1 : decode cX9_size 1 = .ok (.istore_n 1, 1) := by decide +kernel
theorem dX9_size_2 : decode cX9_size 2 = .ok (.iload_n 0, 1) := by decide +kernel
theorem dX9_size_3 : decode cX9_size 3 = .ok (.istore_n 2, 1) := by decide +kernel
theorem dX9_size_4 : decode cX9_size 4 = .ok (.iload_n 2, 1) := by decide +kernel
theorem dX9_size_5 : decode cX9_size 5 = .ok (.ifCond .eq 15, 3) := by decide +kernel
theorem dX9_size_8 : decode cX9_size 8 = .ok (.iinc 1 1, 3) := by decide +kernel
theorem dX9_size_11 : decode cX9_size 11 = .ok (.iload_n 2, 1) := by decide +kernel
theorem dX9_size_12 : decode cX9_size 12 = .ok (.iload_n 2, 1) := by decide +kernel
theorem dX9_size_13 : decode cX9_size 13 = .ok (.iconst 1, 1) := by decide +kernel
theorem dX9_size_14 : decode cX9_size 14 = .ok (.isub, 1) := by decide +kernel
theorem dX9_size_15 : decode cX9_size 15 = .ok (.iand, 1) := by decide +kernel
theorem dX9_size_16 : decode cX9_size 16 = .ok (.istore_n 2, 1) := by decide +kernel
theorem dX9_size_17 : decode cX9_size 17 = .ok (.goto (-13), 3) := by decide +kernel
theorem dX9_size_20 : decode cX9_size 20 = .ok (.iload_n 1, 1) := by decide +kernel
theorem dX9_size_21 : decode cX9_size 21 = .ok (.ireturn, 1) := by decide +kernel
theorem dX9_feed_0 : decode cX9_feed 0 = .ok (.iload_n 1, 1) := by decide +kernel
theorem dX9_feed_1 : decode cX9_feed 1 = .ok (.i2l, 1) := by decide +kernel
theorem dX9_feed_2 : decode cX9_feed 2 = .ok (.lconst 1, 1) := by decide +kernel
theorem dX9_feed_3 : decode cX9_feed 3 = .ok (.ldc2_w 90, 3) := by decide +kernel
theorem dX9_feed_6 : decode cX9_feed 6 = .ok (.invokestatic 92, 3) := by decide +kernel
theorem dX9_feed_9 : decode cX9_feed 9 = .ok (.ifCond .ne 6, 3) := by decide +kernel
theorem dX9_feed_12 : decode cX9_feed 12 = .ok (.ldc 96, 2) := by decide +kernel
theorem dX9_feed_14 : decode cX9_feed 14 = .ok (.ireturn, 1) := by decide +kernel
theorem dX9_feed_15 : decode cX9_feed 15 = .ok (.aload_n 0, 1) := by decide +kernel
theorem dX9_feed_16 : decode cX9_feed 16 = .ok (.getfield 97, 3) := by decide +kernel
theorem dX9_feed_19 : decode cX9_feed 19 = .ok (.iload_n 1, 1) := by decide +kernel
theorem dX9_feed_20 : decode cX9_feed 20 = .ok (.iadd, 1) := by decide +kernel
theorem dX9_feed_21 : decode cX9_feed 21 = .ok (.sipush 500, 3) := by decide +kernel
theorem dX9_feed_24 : decode cX9_feed 24 = .ok (.if_icmp .le 6, 3) := by decide +kernel
theorem dX9_feed_27 : decode cX9_feed 27 = .ok (.ldc 100, 2) := by decide +kernel
theorem dX9_feed_29 : decode cX9_feed 29 = .ok (.ireturn, 1) := by decide +kernel
theorem dX9_feed_30 : decode cX9_feed 30 = .ok (.iload_n 1, 1) := by decide +kernel
theorem dX9_feed_31 : decode cX9_feed 31 = .ok (.iconst 1, 1) := by decide +kernel
theorem dX9_feed_32 : decode cX9_feed 32 = .ok (.isub, 1) := by decide +kernel
theorem dX9_feed_33 : decode cX9_feed 33 = .ok (.istore 4, 2) := by decide +kernel
theorem dX9_feed_35 : decode cX9_feed 35 = .ok (.iload 4, 2) := by decide +kernel
theorem dX9_feed_37 : decode cX9_feed 37 = .ok (.ifCond .lt 40, 3) := by decide +kernel
theorem dX9_feed_40 : decode cX9_feed 40 = .ok (.aload_n 0, 1) := by decide +kernel
theorem dX9_feed_41 : decode cX9_feed 41 = .ok (.getfield 7, 3) := by decide +kernel
theorem dX9_feed_44 : decode cX9_feed 44 = .ok (.aload_n 0, 1) := by decide +kernel
theorem dX9_feed_45 : decode cX9_feed 45 = .ok (.getfield 97, 3) := by decide +kernel
theorem dX9_feed_48 : decode cX9_feed 48 = .ok (.lload_n 2, 1) := by decide +kernel
theorem dX9_feed_49 : decode cX9_feed 49 = .ok (.bipush 8, 2) := by decide +kernel
theorem dX9_feed_51 : decode cX9_feed 51 = .ok (.iload 4, 2) := by decide +kernel
theorem dX9_feed_53 : decode cX9_feed 53 = .ok (.imul, 1) := by decide +kernel
theorem dX9_feed_54 : decode cX9_feed 54 = .ok (.lshr, 1) := by decide +kernel
theorem dX9_feed_55 : decode cX9_feed 55 = .ok (.ldc2_w 101, 3) := by decide +kernel
theorem dX9_feed_58 : decode cX9_feed 58 = .ok (.land, 1) := by decide +kernel
theorem dX9_feed_59 : decode cX9_feed 59 = .ok (.l2i, 1) := by decide +kernel
theorem dX9_feed_60 : decode cX9_feed 60 = .ok (.iastore, 1) := by decide +kernel
theorem dX9_feed_61 : decode cX9_feed 61 = .ok (.aload_n 0, 1) := by decide +kernel
theorem dX9_feed_62 : decode cX9_feed 62 = .ok (.dup, 1) := by decide +kernel
theorem dX9_feed_63 : decode cX9_feed 63 = .ok (.getfield 97, 3) := by decide +kernel
theorem dX9_feed_66 : decode cX9_feed 66 = .ok (.iconst 1, 1) := by decide +kernel
theorem dX9_feed_67 : decode cX9_feed 67 = .ok (.iadd, 1) := by decide +kernel
theorem dX9_feed_68 : decode cX9_feed 68 = .ok (.putfield 97, 3) := by decide +kernel
theorem dX9_feed_71 : decode cX9_feed 71 = .ok (.iinc 4 (-1), 3) := by decide +kernel
theorem dX9_feed_74 : decode cX9_feed 74 = .ok (.goto (-39), 3) := by decide +kernel
theorem dX9_feed_77 : decode cX9_feed 77 = .ok (.aload_n 0, 1) := by decide +kernel
theorem dX9_feed_78 : decode cX9_feed 78 = .ok (.getfield 97, 3) := by decide +kernel
theorem dX9_feed_81 : decode cX9_feed 81 = .ok (.ireturn, 1) := by decide +kernel
theorem dX9_fails_0 : decode cX9_fails 0 = .ok (.aload_n 0, 1) := by decide +kernel
theorem dX9_fails_1 : decode cX9_fails 1 = .ok (.aload_n 0, 1) := by decide +kernel
theorem dX9_fails_2 : decode cX9_fails 2 = .ok (.getfield 103, 3) := by decide +kernel
theorem dX9_fails_5 : decode cX9_fails 5 = .ok (.ifCond .ne 7, 3) := by decide +kernel
theorem dX9_fails_8 : decode cX9_fails 8 = .ok (.iload_n 2, 1) := by decide +kernel
theorem dX9_fails_9 : decode cX9_fails 9 = .ok (.goto 7, 3) := by decide +kernel
theorem dX9_fails_12 : decode cX9_fails 12 = .ok (.aload_n 0, 1) := by decide +kernel
theorem dX9_fails_13 : decode cX9_fails 13 = .ok (.getfield 106, 3) := by decide +kernel
theorem dX9_fails_16 : decode cX9_fails 16 = .ok (.putfield 106, 3) := by decide +kernel
theorem dX9_fails_19 : decode cX9_fails 19 = .ok (.aload_n 0, 1) := by decide +kernel
theorem dX9_fails_20 : decode cX9_fails 20 = .ok (.aload_n 0, 1) := by decide +kernel
theorem dX9_fails_21 : decode cX9_fails 21 = .ok (.getfield 103, 3) := by decide +kernel
theorem dX9_fails_24 : decode cX9_fails 24 = .ok (.ifCond .ne 7, 3) := by decide +kernel
theorem dX9_fails_27 : decode cX9_fails 27 = .ok (.iload_n 1, 1) := by decide +kernel
theorem dX9_fails_28 : decode cX9_fails 28 = .ok (.goto 7, 3) := by decide +kernel
theorem dX9_fails_31 : decode cX9_fails 31 = .ok (.aload_n 0, 1) := by decide +kernel
theorem dX9_fails_32 : decode cX9_fails 32 = .ok (.getfield 103, 3) := by decide +kernel
theorem dX9_fails_35 : decode cX9_fails 35 = .ok (.putfield 103, 3) := by decide +kernel
theorem dX9_fails_38 : decode cX9_fails 38 = .ok (.return_, 1) := by decide +kernel
theorem dX9_here_0 : decode cX9_here 0 = .ok (.aload_n 0, 1) := by decide +kernel
theorem dX9_here_1 : decode cX9_here 1 = .ok (.getfield 109, 3) := by decide +kernel
theorem dX9_here_4 : decode cX9_here 4 = .ok (.aload_n 0, 1) := by decide +kernel
theorem dX9_here_5 : decode cX9_here 5 = .ok (.getfield 97, 3) := by decide +kernel
theorem dX9_here_8 : decode cX9_here 8 = .ok (.if_icmp .ge 30, 3) := by decide +kernel
theorem dX9_here_11 : decode cX9_here 11 = .ok (.aload_n 0, 1) := by decide +kernel
theorem dX9_here_12 : decode cX9_here 12 = .ok (.getfield 7, 3) := by decide +kernel
theorem dX9_here_15 : decode cX9_here 15 = .ok (.aload_n 0, 1) := by decide +kernel
theorem dX9_here_16 : decode cX9_here 16 = .ok (.getfield 109, 3) := by decide +kernel
theorem dX9_here_19 : decode cX9_here 19 = .ok (.iaload, 1) := by decide +kernel
theorem dX9_here_20 : decode cX9_here 20 = .ok (.bipush 32, 2) := by decide +kernel
theorem dX9_here_22 : decode cX9_here 22 = .ok (.if_icmp .ne 16, 3) := by decide +kernel
theorem dX9_here_25 : decode cX9_here 25 = .ok (.aload_n 0, 1) := by decide +kernel
theorem dX9_here_26 : decode cX9_here 26 = .ok (.dup, 1) := by decide +kernel
theorem dX9_here_27 : decode cX9_here 27 = .ok (.getfield 109, 3) := by decide +kernel
theorem dX9_here_30 : decode cX9_here 30 = .ok (.iconst 1, 1) := by decide +kernel
theorem dX9_here_31 : decode cX9_here 31 = .ok (.iadd, 1) := by decide +kernel
theorem dX9_here_32 : decode cX9_here 32 = .ok (.putfield 109, 3) := by decide +kernel
theorem dX9_here_35 : decode cX9_here 35 = .ok (.goto (-35), 3) := by decide +kernel
theorem dX9_here_38 : decode cX9_here 38 = .ok (.aload_n 0, 1) := by decide +kernel
theorem dX9_here_39 : decode cX9_here 39 = .ok (.getfield 109, 3) := by decide +kernel
theorem dX9_here_42 : decode cX9_here 42 = .ok (.aload_n 0, 1) := by decide +kernel
theorem dX9_here_43 : decode cX9_here 43 = .ok (.getfield 97, 3) := by decide +kernel
theorem dX9_here_46 : decode cX9_here 46 = .ok (.if_icmp .ge 15, 3) := by decide +kernel
theorem dX9_here_49 : decode cX9_here 49 = .ok (.aload_n 0, 1) := by decide +kernel
theorem dX9_here_50 : decode cX9_here 50 = .ok (.getfield 7, 3) := by decide +kernel
theorem dX9_here_53 : decode cX9_here 53 = .ok (.aload_n 0, 1) := by decide +kernel
theorem dX9_here_54 : decode cX9_here 54 = .ok (.getfield 109, 3) := by decide +kernel
theorem dX9_here_57 : decode cX9_here 57 = .ok (.iaload, 1) := by decide +kernel
theorem dX9_here_58 : decode cX9_here 58 = .ok (.goto 4, 3) := by decide +kernel
theorem dX9_here_61 : decode cX9_here 61 = .ok (.iconst 0, 1) := by decide +kernel
theorem dX9_here_62 : decode cX9_here 62 = .ok (.ireturn, 1) := by decide +kernel
theorem dX9_isEnd_0 : decode cX9_isEnd 0 = .ok (.aload_n 0, 1) := by decide +kernel
theorem dX9_isEnd_1 : decode cX9_isEnd 1 = .ok (.invokevirtual 112, 3) := by decide +kernel
theorem dX9_isEnd_4 : decode cX9_isEnd 4 = .ok (.pop, 1) := by decide +kernel
theorem dX9_isEnd_5 : decode cX9_isEnd 5 = .ok (.aload_n 0, 1) := by decide +kernel
theorem dX9_isEnd_6 : decode cX9_isEnd 6 = .ok (.getfield 109, 3) := by decide +kernel
theorem dX9_isEnd_9 : decode cX9_isEnd 9 = .ok (.aload_n 0, 1) := by decide +kernel
theorem dX9_isEnd_10 : decode cX9_isEnd 10 = .ok (.getfield 97, 3) := by decide +kernel
theorem dX9_isEnd_13 : decode cX9_isEnd 13 = .ok (.if_icmp .ne 7, 3) := by decide +kernel
theorem dX9_isEnd_16 : decode cX9_isEnd 16 = .ok (.iconst 1, 1) := by decide +kernel
theorem dX9_isEnd_17 : decode cX9_isEnd 17 = .ok (.goto 4, 3) := by decide +kernel
theorem dX9_isEnd_20 : decode cX9_isEnd 20 = .ok (.iconst 0, 1) := by decide +kernel
theorem dX9_isEnd_21 : decode cX9_isEnd 21 = .ok (.ireturn, 1) := by decide +kernel
theorem dX9_isLetter_0 : decode cX9_isLetter 0 = .ok (.iload_n 0, 1) := by decide +kernel
theorem dX9_isLetter_1 : decode cX9_isLetter 1 = .ok (.i2l, 1) := by decide +kernel
theorem dX9_isLetter_2 : decode cX9_isLetter 2 = .ok (.ldc2_w 116, 3) := by decide +kernel
theorem dX9_isLetter_5 : decode cX9_isLetter 5 = .ok (.ldc2_w 118, 3) := by decide +kernel
theorem dX9_isLetter_8 : decode cX9_isLetter 8 = .ok (.invokestatic 92, 3) := by decide +kernel
theorem dX9_isLetter_11 : decode cX9_isLetter 11 = .ok (.ireturn, 1) := by decide +kernel
theorem dX9_isFigure_0 : decode cX9_isFigure 0 = .ok (.iload_n 0, 1) := by decide +kernel
theorem dX9_isFigure_1 : decode cX9_isFigure 1 = .ok (.i2l, 1) := by decide +kernel
theorem dX9_isFigure_2 : decode cX9_isFigure 2 = .ok (.ldc2_w 120, 3) := by decide +kernel
theorem dX9_isFigure_5 : decode cX9_isFigure 5 = .ok (.ldc2_w 122, 3) := by decide +kernel
theorem dX9_isFigure_8 : decode cX9_isFigure 8 = .ok (.invokestatic 92, 3) := by decide +kernel
theorem dX9_isFigure_11 : decode cX9_isFigure 11 = .ok (.ireturn, 1) := by decide +kernel
theorem dX9_must_0 : decode cX9_must 0 = .ok (.aload_n 0, 1) := by decide +kernel
theorem dX9_must_1 : decode cX9_must 1 = .ok (.getfield 103, 3) := by decide +kernel
theorem dX9_must_4 : decode cX9_must 4 = .ok (.ifCond .ne 44, 3) := by decide +kernel
theorem dX9_must_7 : decode cX9_must 7 = .ok (.aload_n 0, 1) := by decide +kernel
theorem dX9_must_8 : decode cX9_must 8 = .ok (.invokevirtual 112, 3) := by decide +kernel
theorem dX9_must_11 : decode cX9_must 11 = .ok (.iload_n 1, 1) := by decide +kernel
theorem dX9_must_12 : decode cX9_must 12 = .ok (.if_icmp .ne 27, 3) := by decide +kernel
theorem dX9_must_15 : decode cX9_must 15 = .ok (.aload_n 0, 1) := by decide +kernel
theorem dX9_must_16 : decode cX9_must 16 = .ok (.getfield 109, 3) := by decide +kernel
theorem dX9_must_19 : decode cX9_must 19 = .ok (.aload_n 0, 1) := by decide +kernel
theorem dX9_must_20 : decode cX9_must 20 = .ok (.getfield 97, 3) := by decide +kernel
theorem dX9_must_23 : decode cX9_must 23 = .ok (.if_icmp .ge 16, 3) := by decide +kernel
theorem dX9_must_26 : decode cX9_must 26 = .ok (.aload_n 0, 1) := by decide +kernel
theorem dX9_must_27 : decode cX9_must 27 = .ok (.dup, 1) := by decide +kernel
theorem dX9_must_28 : decode cX9_must 28 = .ok (.getfield 109, 3) := by decide +kernel
theorem dX9_must_31 : decode cX9_must 31 = .ok (.iconst 1, 1) := by decide +kernel
theorem dX9_must_32 : decode cX9_must 32 = .ok (.iadd, 1) := by decide +kernel
theorem dX9_must_33 : decode cX9_must 33 = .ok (.putfield 109, 3) := by decide +kernel
theorem dX9_must_36 : decode cX9_must 36 = .ok (.goto 12, 3) := by decide +kernel
theorem dX9_must_39 : decode cX9_must 39 = .ok (.aload_n 0, 1) := by decide +kernel
theorem dX9_must_40 : decode cX9_must 40 = .ok (.iconst 1, 1) := by decide +kernel
theorem dX9_must_41 : decode cX9_must 41 = .ok (.aload_n 0, 1) := by decide +kernel
theorem dX9_must_42 : decode cX9_must 42 = .ok (.getfield 109, 3) := by decide +kernel
theorem dX9_must_45 : decode cX9_must 45 = .ok (.invokevirtual 124, 3) := by decide +kernel
theorem dX9_must_48 : decode cX9_must 48 = .ok (.return_, 1) := by decide +kernel
theorem dX9_number_0 : decode cX9_number 0 = .ok (.aload_n 0, 1) := by decide +kernel
theorem dX9_number_1 : decode cX9_number 1 = .ok (.getfield 103, 3) := by decide +kernel
theorem dX9_number_4 : decode cX9_number 4 = .ok (.ifCond .eq 5, 3) := by decide +kernel
theorem dX9_number_7 : decode cX9_number 7 = .ok (.iconst 0, 1) := by decide +kernel
theorem dX9_number_8 : decode cX9_number 8 = .ok (.ireturn, 1) := by decide +kernel
theorem dX9_number_9 : decode cX9_number 9 = .ok (.aload_n 0, 1) := by decide +kernel
theorem dX9_number_10 : decode cX9_number 10 = .ok (.invokevirtual 112, 3) := by decide +kernel
theorem dX9_number_13 : decode cX9_number 13 = .ok (.invokestatic 128, 3) := by decide +kernel
theorem dX9_number_16 : decode cX9_number 16 = .ok (.ifCond .eq 14, 3) := by decide +kernel
theorem dX9_number_19 : decode cX9_number 19 = .ok (.aload_n 0, 1) := by decide +kernel
theorem dX9_number_20 : decode cX9_number 20 = .ok (.getfield 109, 3) := by decide +kernel
theorem dX9_number_23 : decode cX9_number 23 = .ok (.aload_n 0, 1) := by decide +kernel
theorem dX9_number_24 : decode cX9_number 24 = .ok (.getfield 97, 3) := by decide +kernel
theorem dX9_number_27 : decode cX9_number 27 = .ok (.if_icmp .ne 14, 3) := by decide +kernel
theorem dX9_number_30 : decode cX9_number 30 = .ok (.aload_n 0, 1) := by decide +kernel
theorem dX9_number_31 : decode cX9_number 31 = .ok (.iconst 1, 1) := by decide +kernel
theorem dX9_number_32 : decode cX9_number 32 = .ok (.aload_n 0, 1) := by decide +kernel
theorem dX9_number_33 : decode cX9_number 33 = .ok (.getfield 109, 3) := by decide +kernel
theorem dX9_number_36 : decode cX9_number 36 = .ok (.invokevirtual 124, 3) := by decide +kernel
theorem dX9_number_39 : decode cX9_number 39 = .ok (.iconst 0, 1) := by decide +kernel
theorem dX9_number_40 : decode cX9_number 40 = .ok (.ireturn, 1) := by decide +kernel
theorem dX9_number_41 : decode cX9_number 41 = .ok (.aload_n 0, 1) := by decide +kernel
theorem dX9_number_42 : decode cX9_number 42 = .ok (.aload_n 0, 1) := by decide +kernel
theorem dX9_number_43 : decode cX9_number 43 = .ok (.getfield 109, 3) := by decide +kernel
theorem dX9_number_46 : decode cX9_number 46 = .ok (.putfield 132, 3) := by decide +kernel
theorem dX9_number_49 : decode cX9_number 49 = .ok (.iconst 0, 1) := by decide +kernel
theorem dX9_number_50 : decode cX9_number 50 = .ok (.istore_n 3, 1) := by decide +kernel
theorem dX9_number_51 : decode cX9_number 51 = .ok (.aload_n 0, 1) := by decide +kernel
theorem dX9_number_52 : decode cX9_number 52 = .ok (.getfield 109, 3) := by decide +kernel
theorem dX9_number_55 : decode cX9_number 55 = .ok (.aload_n 0, 1) := by decide +kernel
theorem dX9_number_56 : decode cX9_number 56 = .ok (.getfield 97, 3) := by decide +kernel
theorem dX9_number_59 : decode cX9_number 59 = .ok (.if_icmp .ge 60, 3) := by decide +kernel
theorem dX9_number_62 : decode cX9_number 62 = .ok (.aload_n 0, 1) := by decide +kernel
theorem dX9_number_63 : decode cX9_number 63 = .ok (.getfield 7, 3) := by decide +kernel
theorem dX9_number_66 : decode cX9_number 66 = .ok (.aload_n 0, 1) := by decide +kernel
theorem dX9_number_67 : decode cX9_number 67 = .ok (.getfield 109, 3) := by decide +kernel
theorem dX9_number_70 : decode cX9_number 70 = .ok (.iaload, 1) := by decide +kernel
theorem dX9_number_71 : decode cX9_number 71 = .ok (.invokestatic 128, 3) := by decide +kernel
theorem dX9_number_74 : decode cX9_number 74 = .ok (.ifCond .eq 45, 3) := by decide +kernel
theorem dX9_number_77 : decode cX9_number 77 = .ok (.iload_n 3, 1) := by decide +kernel
theorem dX9_number_78 : decode cX9_number 78 = .ok (.sipush 9999, 3) := by decide +kernel
theorem dX9_number_81 : decode cX9_number 81 = .ok (.if_icmp .le 7, 3) := by decide +kernel
theorem dX9_number_84 : decode cX9_number 84 = .ok (.iload_n 3, 1) := by decide +kernel
theorem dX9_number_85 : decode cX9_number 85 = .ok (.goto 20, 3) := by decide +kernel
theorem dX9_number_88 : decode cX9_number 88 = .ok (.bipush 10, 2) := by decide +kernel
theorem dX9_number_90 : decode cX9_number 90 = .ok (.iload_n 3, 1) := by decide +kernel
theorem dX9_number_91 : decode cX9_number 91 = .ok (.imul, 1) := by decide +kernel
theorem dX9_number_92 : decode cX9_number 92 = .ok (.aload_n 0, 1) := by decide +kernel
theorem dX9_number_93 : decode cX9_number 93 = .ok (.getfield 7, 3) := by decide +kernel
theorem dX9_number_96 : decode cX9_number 96 = .ok (.aload_n 0, 1) := by decide +kernel
theorem dX9_number_97 : decode cX9_number 97 = .ok (.getfield 109, 3) := by decide +kernel
theorem dX9_number_100 : decode cX9_number 100 = .ok (.iaload, 1) := by decide +kernel
theorem dX9_number_101 : decode cX9_number 101 = .ok (.iadd, 1) := by decide +kernel
theorem dX9_number_102 : decode cX9_number 102 = .ok (.bipush 48, 2) := by decide +kernel
theorem dX9_number_104 : decode cX9_number 104 = .ok (.isub, 1) := by decide +kernel
theorem dX9_number_105 : decode cX9_number 105 = .ok (.istore_n 3, 1) := by decide +kernel
theorem dX9_number_106 : decode cX9_number 106 = .ok (.aload_n 0, 1) := by decide +kernel
theorem dX9_number_107 : decode cX9_number 107 = .ok (.dup, 1) := by decide +kernel
theorem dX9_number_108 : decode cX9_number 108 = .ok (.getfield 109, 3) := by decide +kernel
theorem dX9_number_111 : decode cX9_number 111 = .ok (.iconst 1, 1) := by decide +kernel
theorem dX9_number_112 : decode cX9_number 112 = .ok (.iadd, 1) := by decide +kernel
theorem dX9_number_113 : decode cX9_number 113 = .ok (.putfield 109, 3) := by decide +kernel
theorem dX9_number_116 : decode cX9_number 116 = .ok (.goto (-65), 3) := by decide +kernel
theorem dX9_number_119 : decode cX9_number 119 = .ok (.aload_n 0, 1) := by decide +kernel
theorem dX9_number_120 : decode cX9_number 120 = .ok (.getfield 109, 3) := by decide +kernel
theorem dX9_number_123 : decode cX9_number 123 = .ok (.aload_n 0, 1) := by decide +kernel
theorem dX9_number_124 : decode cX9_number 124 = .ok (.getfield 132, 3) := by decide +kernel
theorem dX9_number_127 : decode cX9_number 127 = .ok (.isub, 1) := by decide +kernel
theorem dX9_number_128 : decode cX9_number 128 = .ok (.iconst 3, 1) := by decide +kernel
theorem dX9_number_129 : decode cX9_number 129 = .ok (.if_icmp .gt 15, 3) := by decide +kernel
theorem dX9_number_132 : decode cX9_number 132 = .ok (.iload_n 3, 1) := by decide +kernel
theorem dX9_number_133 : decode cX9_number 133 = .ok (.i2l, 1) := by decide +kernel
theorem dX9_number_134 : decode cX9_number 134 = .ok (.iload_n 1, 1) := by decide +kernel
theorem dX9_number_135 : decode cX9_number 135 = .ok (.i2l, 1) := by decide +kernel
theorem dX9_number_136 : decode cX9_number 136 = .ok (.iload_n 2, 1) := by decide +kernel
theorem dX9_number_137 : decode cX9_number 137 = .ok (.i2l, 1) := by decide +kernel
theorem dX9_number_138 : decode cX9_number 138 = .ok (.invokestatic 92, 3) := by decide +kernel
theorem dX9_number_141 : decode cX9_number 141 = .ok (.ifCond .ne 12, 3) := by decide +kernel
theorem dX9_number_144 : decode cX9_number 144 = .ok (.aload_n 0, 1) := by decide +kernel
theorem dX9_number_145 : decode cX9_number 145 = .ok (.iconst 2, 1) := by decide +kernel
theorem dX9_number_146 : decode cX9_number 146 = .ok (.aload_n 0, 1) := by decide +kernel
theorem dX9_number_147 : decode cX9_number 147 = .ok (.getfield 132, 3) := by decide +kernel
theorem dX9_number_150 : decode cX9_number 150 = .ok (.invokevirtual 124, 3) := by decide +kernel
theorem dX9_number_153 : decode cX9_number 153 = .ok (.iload_n 3, 1) := by decide +kernel
theorem dX9_number_154 : decode cX9_number 154 = .ok (.ireturn, 1) := by decide +kernel
theorem dX9_word_0 : decode cX9_word 0 = .ok (.aload_n 0, 1) := by decide +kernel
theorem dX9_word_1 : decode cX9_word 1 = .ok (.invokevirtual 112, 3) := by decide +kernel
theorem dX9_word_4 : decode cX9_word 4 = .ok (.pop, 1) := by decide +kernel
theorem dX9_word_5 : decode cX9_word 5 = .ok (.aload_n 0, 1) := by decide +kernel
theorem dX9_word_6 : decode cX9_word 6 = .ok (.aload_n 0, 1) := by decide +kernel
theorem dX9_word_7 : decode cX9_word 7 = .ok (.getfield 109, 3) := by decide +kernel
theorem dX9_word_10 : decode cX9_word 10 = .ok (.putfield 132, 3) := by decide +kernel
theorem dX9_word_13 : decode cX9_word 13 = .ok (.lconst 0, 1) := by decide +kernel
theorem dX9_word_14 : decode cX9_word 14 = .ok (.lstore_n 1, 1) := by decide +kernel
theorem dX9_word_15 : decode cX9_word 15 = .ok (.aload_n 0, 1) := by decide +kernel
theorem dX9_word_16 : decode cX9_word 16 = .ok (.getfield 109, 3) := by decide +kernel
theorem dX9_word_19 : decode cX9_word 19 = .ok (.aload_n 0, 1) := by decide +kernel
theorem dX9_word_20 : decode cX9_word 20 = .ok (.getfield 97, 3) := by decide +kernel
theorem dX9_word_23 : decode cX9_word 23 = .ok (.if_icmp .ge 68, 3) := by decide +kernel
theorem dX9_word_26 : decode cX9_word 26 = .ok (.aload_n 0, 1) := by decide +kernel
theorem dX9_word_27 : decode cX9_word 27 = .ok (.getfield 7, 3) := by decide +kernel
theorem dX9_word_30 : decode cX9_word 30 = .ok (.aload_n 0, 1) := by decide +kernel
theorem dX9_word_31 : decode cX9_word 31 = .ok (.getfield 109, 3) := by decide +kernel
theorem dX9_word_34 : decode cX9_word 34 = .ok (.iaload, 1) := by decide +kernel
theorem dX9_word_35 : decode cX9_word 35 = .ok (.invokestatic 135, 3) := by decide +kernel
theorem dX9_word_38 : decode cX9_word 38 = .ok (.ifCond .eq 53, 3) := by decide +kernel
theorem dX9_word_41 : decode cX9_word 41 = .ok (.aload_n 0, 1) := by decide +kernel
theorem dX9_word_42 : decode cX9_word 42 = .ok (.getfield 109, 3) := by decide +kernel
theorem dX9_word_45 : decode cX9_word 45 = .ok (.aload_n 0, 1) := by decide +kernel
theorem dX9_word_46 : decode cX9_word 46 = .ok (.getfield 132, 3) := by decide +kernel
theorem dX9_word_49 : decode cX9_word 49 = .ok (.isub, 1) := by decide +kernel
theorem dX9_word_50 : decode cX9_word 50 = .ok (.bipush 7, 2) := by decide +kernel
theorem dX9_word_52 : decode cX9_word 52 = .ok (.if_icmp .le 9, 3) := by decide +kernel
theorem dX9_word_55 : decode cX9_word 55 = .ok (.ldc2_w 138, 3) := by decide +kernel
theorem dX9_word_58 : decode cX9_word 58 = .ok (.goto 19, 3) := by decide +kernel
theorem dX9_word_61 : decode cX9_word 61 = .ok (.lload_n 1, 1) := by decide +kernel
theorem dX9_word_62 : decode cX9_word 62 = .ok (.ldc2_w 140, 3) := by decide +kernel
theorem dX9_word_65 : decode cX9_word 65 = .ok (.lmul, 1) := by decide +kernel
theorem dX9_word_66 : decode cX9_word 66 = .ok (.aload_n 0, 1) := by decide +kernel
theorem dX9_word_67 : decode cX9_word 67 = .ok (.getfield 7, 3) := by decide +kernel
theorem dX9_word_70 : decode cX9_word 70 = .ok (.aload_n 0, 1) := by decide +kernel
theorem dX9_word_71 : decode cX9_word 71 = .ok (.getfield 109, 3) := by decide +kernel
theorem dX9_word_74 : decode cX9_word 74 = .ok (.iaload, 1) := by decide +kernel
theorem dX9_word_75 : decode cX9_word 75 = .ok (.i2l, 1) := by decide +kernel
theorem dX9_word_76 : decode cX9_word 76 = .ok (.ladd, 1) := by decide +kernel
theorem dX9_word_77 : decode cX9_word 77 = .ok (.lstore_n 1, 1) := by decide +kernel
theorem dX9_word_78 : decode cX9_word 78 = .ok (.aload_n 0, 1) := by decide +kernel
theorem dX9_word_79 : decode cX9_word 79 = .ok (.dup, 1) := by decide +kernel
theorem dX9_word_80 : decode cX9_word 80 = .ok (.getfield 109, 3) := by decide +kernel
theorem dX9_word_83 : decode cX9_word 83 = .ok (.iconst 1, 1) := by decide +kernel
theorem dX9_word_84 : decode cX9_word 84 = .ok (.iadd, 1) := by decide +kernel
theorem dX9_word_85 : decode cX9_word 85 = .ok (.putfield 109, 3) := by decide +kernel
theorem dX9_word_88 : decode cX9_word 88 = .ok (.goto (-73), 3) := by decide +kernel
theorem dX9_word_91 : decode cX9_word 91 = .ok (.lload_n 1, 1) := by decide +kernel
theorem dX9_word_92 : decode cX9_word 92 = .ok (.ldc2_w 142, 3) := by decide +kernel
theorem dX9_word_95 : decode cX9_word 95 = .ok (.lcmp, 1) := by decide +kernel
theorem dX9_word_96 : decode cX9_word 96 = .ok (.ifCond .ne 7, 3) := by decide +kernel
theorem dX9_word_99 : decode cX9_word 99 = .ok (.iconst 0, 1) := by decide +kernel
theorem dX9_word_100 : decode cX9_word 100 = .ok (.goto 52, 3) := by decide +kernel
theorem dX9_word_103 : decode cX9_word 103 = .ok (.lload_n 1, 1) := by decide +kernel
theorem dX9_word_104 : decode cX9_word 104 = .ok (.ldc2_w 144, 3) := by decide +kernel
theorem dX9_word_107 : decode cX9_word 107 = .ok (.lcmp, 1) := by decide +kernel
theorem dX9_word_108 : decode cX9_word 108 = .ok (.ifCond .ne 7, 3) := by decide +kernel
theorem dX9_word_111 : decode cX9_word 111 = .ok (.iconst 1, 1) := by decide +kernel
theorem dX9_word_112 : decode cX9_word 112 = .ok (.goto 40, 3) := by decide +kernel
theorem dX9_word_115 : decode cX9_word 115 = .ok (.lload_n 1, 1) := by decide +kernel
theorem dX9_word_116 : decode cX9_word 116 = .ok (.ldc2_w 146, 3) := by decide +kernel
theorem dX9_word_119 : decode cX9_word 119 = .ok (.lcmp, 1) := by decide +kernel
theorem dX9_word_120 : decode cX9_word 120 = .ok (.ifCond .ne 7, 3) := by decide +kernel
theorem dX9_word_123 : decode cX9_word 123 = .ok (.iconst 2, 1) := by decide +kernel
theorem dX9_word_124 : decode cX9_word 124 = .ok (.goto 28, 3) := by decide +kernel
theorem dX9_word_127 : decode cX9_word 127 = .ok (.lload_n 1, 1) := by decide +kernel
theorem dX9_word_128 : decode cX9_word 128 = .ok (.ldc2_w 148, 3) := by decide +kernel
theorem dX9_word_131 : decode cX9_word 131 = .ok (.lcmp, 1) := by decide +kernel
theorem dX9_word_132 : decode cX9_word 132 = .ok (.ifCond .ne 7, 3) := by decide +kernel
theorem dX9_word_135 : decode cX9_word 135 = .ok (.iconst 3, 1) := by decide +kernel
theorem dX9_word_136 : decode cX9_word 136 = .ok (.goto 16, 3) := by decide +kernel
theorem dX9_word_139 : decode cX9_word 139 = .ok (.lload_n 1, 1) := by decide +kernel
theorem dX9_word_140 : decode cX9_word 140 = .ok (.ldc2_w 150, 3) := by decide +kernel
theorem dX9_word_143 : decode cX9_word 143 = .ok (.lcmp, 1) := by decide +kernel
theorem dX9_word_144 : decode cX9_word 144 = .ok (.ifCond .ne 7, 3) := by decide +kernel
theorem dX9_word_147 : decode cX9_word 147 = .ok (.iconst 4, 1) := by decide +kernel
theorem dX9_word_148 : decode cX9_word 148 = .ok (.goto 4, 3) := by decide +kernel
theorem dX9_word_151 : decode cX9_word 151 = .ok (.iconst (-1), 1) := by decide +kernel
theorem dX9_word_152 : decode cX9_word 152 = .ok (.ireturn, 1) := by decide +kernel
theorem dX9_readColours_0 : decode cX9_readColours 0 = .ok (.iconst 1, 1) := by decide +kernel
theorem dX9_readColours_1 : decode cX9_readColours 1 = .ok (.istore_n 1, 1) := by decide +kernel
theorem dX9_readColours_2 : decode cX9_readColours 2 = .ok (.iload_n 1, 1) := by decide +kernel
theorem dX9_readColours_3 : decode cX9_readColours 3 = .ok (.ifCond .eq 122, 3) := by decide +kernel
theorem dX9_readColours_6 : decode cX9_readColours 6 = .ok (.aload_n 0, 1) := by decide +kernel
theorem dX9_readColours_7 : decode cX9_readColours 7 = .ok (.getfield 103, 3) := by decide +kernel
theorem dX9_readColours_10 : decode cX9_readColours 10 = .ok (.ifCond .ne 115, 3) := by decide +kernel
theorem dX9_readColours_13 : decode cX9_readColours 13 = .ok (.aload_n 0, 1) := by decide +kernel
theorem dX9_readColours_14 : decode cX9_readColours 14 = .ok (.getfield 16, 3) := by decide +kernel
theorem dX9_readColours_17 : decode cX9_readColours 17 = .ok (.aload_n 0, 1) := by decide +kernel
theorem dX9_readColours_18 : decode cX9_readColours 18 = .ok (.getfield 13, 3) := by decide +kernel
theorem dX9_readColours_21 : decode cX9_readColours 21 = .ok (.iconst 0, 1) := by decide +kernel
theorem dX9_readColours_22 : decode cX9_readColours 22 = .ok (.iaload, 1) := by decide +kernel
theorem dX9_readColours_23 : decode cX9_readColours 23 = .ok (.aload_n 0, 1) := by decide +kernel
theorem dX9_readColours_24 : decode cX9_readColours 24 = .ok (.iconst 0, 1) := by decide +kernel
theorem dX9_readColours_25 : decode cX9_readColours 25 = .ok (.bipush 99, 2) := by decide +kernel
theorem dX9_readColours_27 : decode cX9_readColours 27 = .ok (.invokevirtual 152, 3) := by decide +kernel
theorem dX9_readColours_30 : decode cX9_readColours 30 = .ok (.iastore, 1) := by decide +kernel
theorem dX9_readColours_31 : decode cX9_readColours 31 = .ok (.aload_n 0, 1) := by decide +kernel
theorem dX9_readColours_32 : decode cX9_readColours 32 = .ok (.getfield 13, 3) := by decide +kernel
theorem dX9_readColours_35 : decode cX9_readColours 35 = .ok (.iconst 0, 1) := by decide +kernel
theorem dX9_readColours_36 : decode cX9_readColours 36 = .ok (.dup2, 1) := by decide +kernel
theorem dX9_readColours_37 : decode cX9_readColours 37 = .ok (.iaload, 1) := by decide +kernel
theorem dX9_readColours_38 : decode cX9_readColours 38 = .ok (.iconst 1, 1) := by decide +kernel
theorem dX9_readColours_39 : decode cX9_readColours 39 = .ok (.iadd, 1) := by decide +kernel
theorem dX9_readColours_40 : decode cX9_readColours 40 = .ok (.iastore, 1) := by decide +kernel
theorem dX9_readColours_41 : decode cX9_readColours 41 = .ok (.aload_n 0, 1) := by decide +kernel
theorem dX9_readColours_42 : decode cX9_readColours 42 = .ok (.getfield 103, 3) := by decide +kernel
theorem dX9_readColours_45 : decode cX9_readColours 45 = .ok (.ifCond .ne 27, 3) := by decide +kernel
theorem dX9_readColours_48 : decode cX9_readColours 48 = .ok (.aload_n 0, 1) := by decide +kernel
theorem dX9_readColours_49 : decode cX9_readColours 49 = .ok (.invokevirtual 112, 3) := by decide +kernel
theorem dX9_readColours_52 : decode cX9_readColours 52 = .ok (.bipush 44, 2) := by decide +kernel
theorem dX9_readColours_54 : decode cX9_readColours 54 = .ok (.if_icmp .ne 18, 3) := by decide +kernel
theorem dX9_readColours_57 : decode cX9_readColours 57 = .ok (.aload_n 0, 1) := by decide +kernel
theorem dX9_readColours_58 : decode cX9_readColours 58 = .ok (.getfield 109, 3) := by decide +kernel
theorem dX9_readColours_61 : decode cX9_readColours 61 = .ok (.aload_n 0, 1) := by decide +kernel
theorem dX9_readColours_62 : decode cX9_readColours 62 = .ok (.getfield 97, 3) := by decide +kernel
theorem dX9_readColours_65 : decode cX9_readColours 65 = .ok (.if_icmp .ge 7, 3) := by decide +kernel
theorem dX9_readColours_68 : decode cX9_readColours 68 = .ok (.iconst 1, 1) := by decide +kernel
theorem dX9_readColours_69 : decode cX9_readColours 69 = .ok (.goto 4, 3) := by decide +kernel
theorem dX9_readColours_72 : decode cX9_readColours 72 = .ok (.iconst 0, 1) := by decide +kernel
theorem dX9_readColours_73 : decode cX9_readColours 73 = .ok (.istore_n 1, 1) := by decide +kernel
theorem dX9_readColours_74 : decode cX9_readColours 74 = .ok (.iload_n 1, 1) := by decide +kernel
theorem dX9_readColours_75 : decode cX9_readColours 75 = .ok (.ifCond .eq 22, 3) := by decide +kernel
theorem dX9_readColours_78 : decode cX9_readColours 78 = .ok (.aload_n 0, 1) := by decide +kernel
theorem dX9_readColours_79 : decode cX9_readColours 79 = .ok (.getfield 13, 3) := by decide +kernel
theorem dX9_readColours_82 : decode cX9_readColours 82 = .ok (.iconst 0, 1) := by decide +kernel
theorem dX9_readColours_83 : decode cX9_readColours 83 = .ok (.iaload, 1) := by decide +kernel
theorem dX9_readColours_84 : decode cX9_readColours 84 = .ok (.iconst 4, 1) := by decide +kernel
theorem dX9_readColours_85 : decode cX9_readColours 85 = .ok (.if_icmp .ne 12, 3) := by decide +kernel
theorem dX9_readColours_88 : decode cX9_readColours 88 = .ok (.aload_n 0, 1) := by decide +kernel
theorem dX9_readColours_89 : decode cX9_readColours 89 = .ok (.iconst 1, 1) := by decide +kernel
theorem dX9_readColours_90 : decode cX9_readColours 90 = .ok (.aload_n 0, 1) := by decide +kernel
theorem dX9_readColours_91 : decode cX9_readColours 91 = .ok (.getfield 109, 3) := by decide +kernel
theorem dX9_readColours_94 : decode cX9_readColours 94 = .ok (.invokevirtual 124, 3) := by decide +kernel
theorem dX9_readColours_97 : decode cX9_readColours 97 = .ok (.aload_n 0, 1) := by decide +kernel
theorem dX9_readColours_98 : decode cX9_readColours 98 = .ok (.dup, 1) := by decide +kernel
theorem dX9_readColours_99 : decode cX9_readColours 99 = .ok (.getfield 109, 3) := by decide +kernel
theorem dX9_readColours_102 : decode cX9_readColours 102 = .ok (.iload_n 1, 1) := by decide +kernel
theorem dX9_readColours_103 : decode cX9_readColours 103 = .ok (.ifCond .eq 14, 3) := by decide +kernel
theorem dX9_readColours_106 : decode cX9_readColours 106 = .ok (.aload_n 0, 1) := by decide +kernel
theorem dX9_readColours_107 : decode cX9_readColours 107 = .ok (.getfield 103, 3) := by decide +kernel
theorem dX9_readColours_110 : decode cX9_readColours 110 = .ok (.ifCond .ne 7, 3) := by decide +kernel
theorem dX9_readColours_113 : decode cX9_readColours 113 = .ok (.iconst 1, 1) := by decide +kernel
theorem dX9_readColours_114 : decode cX9_readColours 114 = .ok (.goto 4, 3) := by decide +kernel
theorem dX9_readColours_117 : decode cX9_readColours 117 = .ok (.iconst 0, 1) := by decide +kernel
theorem dX9_readColours_118 : decode cX9_readColours 118 = .ok (.iadd, 1) := by decide +kernel
theorem dX9_readColours_119 : decode cX9_readColours 119 = .ok (.putfield 109, 3) := by decide +kernel
theorem dX9_readColours_122 : decode cX9_readColours 122 = .ok (.goto (-120), 3) := by decide +kernel
theorem dX9_readColours_125 : decode cX9_readColours 125 = .ok (.aload_n 0, 1) := by decide +kernel
theorem dX9_readColours_126 : decode cX9_readColours 126 = .ok (.bipush 59, 2) := by decide +kernel
theorem dX9_readColours_128 : decode cX9_readColours 128 = .ok (.invokevirtual 156, 3) := by decide +kernel
theorem dX9_readColours_131 : decode cX9_readColours 131 = .ok (.return_, 1) := by decide +kernel
theorem dX9_readSeam_0 : decode cX9_readSeam 0 = .ok (.aload_n 0, 1) := by decide +kernel
theorem dX9_readSeam_1 : decode cX9_readSeam 1 = .ok (.getfield 22, 3) := by decide +kernel
theorem dX9_readSeam_4 : decode cX9_readSeam 4 = .ok (.iload_n 2, 1) := by decide +kernel
theorem dX9_readSeam_5 : decode cX9_readSeam 5 = .ok (.aload_n 0, 1) := by decide +kernel
theorem dX9_readSeam_6 : decode cX9_readSeam 6 = .ok (.iconst 0, 1) := by decide +kernel
theorem dX9_readSeam_7 : decode cX9_readSeam 7 = .ok (.aload_n 0, 1) := by decide +kernel
theorem dX9_readSeam_8 : decode cX9_readSeam 8 = .ok (.getfield 13, 3) := by decide +kernel
theorem dX9_readSeam_11 : decode cX9_readSeam 11 = .ok (.iconst 1, 1) := by decide +kernel
theorem dX9_readSeam_12 : decode cX9_readSeam 12 = .ok (.iaload, 1) := by decide +kernel
theorem dX9_readSeam_13 : decode cX9_readSeam 13 = .ok (.iconst 1, 1) := by decide +kernel
theorem dX9_readSeam_14 : decode cX9_readSeam 14 = .ok (.isub, 1) := by decide +kernel
theorem dX9_readSeam_15 : decode cX9_readSeam 15 = .ok (.invokevirtual 152, 3) := by decide +kernel
theorem dX9_readSeam_18 : decode cX9_readSeam 18 = .ok (.iastore, 1) := by decide +kernel
theorem dX9_readSeam_19 : decode cX9_readSeam 19 = .ok (.aload_n 0, 1) := by decide +kernel
theorem dX9_readSeam_20 : decode cX9_readSeam 20 = .ok (.getfield 25, 3) := by decide +kernel
theorem dX9_readSeam_23 : decode cX9_readSeam 23 = .ok (.iload_n 2, 1) := by decide +kernel
theorem dX9_readSeam_24 : decode cX9_readSeam 24 = .ok (.bipush 8, 2) := by decide +kernel
theorem dX9_readSeam_26 : decode cX9_readSeam 26 = .ok (.iastore, 1) := by decide +kernel
theorem dX9_readSeam_27 : decode cX9_readSeam 27 = .ok (.iload_n 1, 1) := by decide +kernel
theorem dX9_readSeam_28 : decode cX9_readSeam 28 = .ok (.iconst 2, 1) := by decide +kernel
theorem dX9_readSeam_29 : decode cX9_readSeam 29 = .ok (.if_icmp .le 70, 3) := by decide +kernel
theorem dX9_readSeam_32 : decode cX9_readSeam 32 = .ok (.aload_n 0, 1) := by decide +kernel
theorem dX9_readSeam_33 : decode cX9_readSeam 33 = .ok (.iconst 0, 1) := by decide +kernel
theorem dX9_readSeam_34 : decode cX9_readSeam 34 = .ok (.aload_n 0, 1) := by decide +kernel
theorem dX9_readSeam_35 : decode cX9_readSeam 35 = .ok (.getfield 13, 3) := by decide +kernel
theorem dX9_readSeam_38 : decode cX9_readSeam 38 = .ok (.iconst 1, 1) := by decide +kernel
theorem dX9_readSeam_39 : decode cX9_readSeam 39 = .ok (.iaload, 1) := by decide +kernel
theorem dX9_readSeam_40 : decode cX9_readSeam 40 = .ok (.iconst 1, 1) := by decide +kernel
theorem dX9_readSeam_41 : decode cX9_readSeam 41 = .ok (.isub, 1) := by decide +kernel
theorem dX9_readSeam_42 : decode cX9_readSeam 42 = .ok (.invokevirtual 152, 3) := by decide +kernel
theorem dX9_readSeam_45 : decode cX9_readSeam 45 = .ok (.istore_n 3, 1) := by decide +kernel
theorem dX9_readSeam_46 : decode cX9_readSeam 46 = .ok (.aload_n 0, 1) := by decide +kernel
theorem dX9_readSeam_47 : decode cX9_readSeam 47 = .ok (.getfield 103, 3) := by decide +kernel
theorem dX9_readSeam_50 : decode cX9_readSeam 50 = .ok (.ifCond .ne 27, 3) := by decide +kernel
theorem dX9_readSeam_53 : decode cX9_readSeam 53 = .ok (.iload_n 1, 1) := by decide +kernel
theorem dX9_readSeam_54 : decode cX9_readSeam 54 = .ok (.iconst 3, 1) := by decide +kernel
theorem dX9_readSeam_55 : decode cX9_readSeam 55 = .ok (.if_icmp .ne 22, 3) := by decide +kernel
theorem dX9_readSeam_58 : decode cX9_readSeam 58 = .ok (.iload_n 3, 1) := by decide +kernel
theorem dX9_readSeam_59 : decode cX9_readSeam 59 = .ok (.aload_n 0, 1) := by decide +kernel
theorem dX9_readSeam_60 : decode cX9_readSeam 60 = .ok (.getfield 22, 3) := by decide +kernel
theorem dX9_readSeam_63 : decode cX9_readSeam 63 = .ok (.iload_n 2, 1) := by decide +kernel
theorem dX9_readSeam_64 : decode cX9_readSeam 64 = .ok (.iaload, 1) := by decide +kernel
theorem dX9_readSeam_65 : decode cX9_readSeam 65 = .ok (.if_icmp .ne 12, 3) := by decide +kernel
theorem dX9_readSeam_68 : decode cX9_readSeam 68 = .ok (.aload_n 0, 1) := by decide +kernel
theorem dX9_readSeam_69 : decode cX9_readSeam 69 = .ok (.iconst 4, 1) := by decide +kernel
theorem dX9_readSeam_70 : decode cX9_readSeam 70 = .ok (.aload_n 0, 1) := by decide +kernel
theorem dX9_readSeam_71 : decode cX9_readSeam 71 = .ok (.getfield 132, 3) := by decide +kernel
theorem dX9_readSeam_74 : decode cX9_readSeam 74 = .ok (.invokevirtual 124, 3) := by decide +kernel
theorem dX9_readSeam_77 : decode cX9_readSeam 77 = .ok (.aload_n 0, 1) := by decide +kernel
theorem dX9_readSeam_78 : decode cX9_readSeam 78 = .ok (.getfield 25, 3) := by decide +kernel
theorem dX9_readSeam_81 : decode cX9_readSeam 81 = .ok (.iload_n 2, 1) := by decide +kernel
theorem dX9_readSeam_82 : decode cX9_readSeam 82 = .ok (.iload_n 3, 1) := by decide +kernel
theorem dX9_readSeam_83 : decode cX9_readSeam 83 = .ok (.aload_n 0, 1) := by decide +kernel
theorem dX9_readSeam_84 : decode cX9_readSeam 84 = .ok (.getfield 22, 3) := by decide +kernel
theorem dX9_readSeam_87 : decode cX9_readSeam 87 = .ok (.iload_n 2, 1) := by decide +kernel
theorem dX9_readSeam_88 : decode cX9_readSeam 88 = .ok (.iaload, 1) := by decide +kernel
theorem dX9_readSeam_89 : decode cX9_readSeam 89 = .ok (.if_icmp .ne 8, 3) := by decide +kernel
theorem dX9_readSeam_92 : decode cX9_readSeam 92 = .ok (.bipush 8, 2) := by decide +kernel
theorem dX9_readSeam_94 : decode cX9_readSeam 94 = .ok (.goto 4, 3) := by decide +kernel
theorem dX9_readSeam_97 : decode cX9_readSeam 97 = .ok (.iload_n 3, 1) := by decide +kernel
theorem dX9_readSeam_98 : decode cX9_readSeam 98 = .ok (.iastore, 1) := by decide +kernel
theorem dX9_readSeam_99 : decode cX9_readSeam 99 = .ok (.aload_n 0, 1) := by decide +kernel
theorem dX9_readSeam_100 : decode cX9_readSeam 100 = .ok (.getfield 28, 3) := by decide +kernel
theorem dX9_readSeam_103 : decode cX9_readSeam 103 = .ok (.iload_n 2, 1) := by decide +kernel
theorem dX9_readSeam_104 : decode cX9_readSeam 104 = .ok (.iload_n 1, 1) := by decide +kernel
theorem dX9_readSeam_105 : decode cX9_readSeam 105 = .ok (.iconst 4, 1) := by decide +kernel
theorem dX9_readSeam_106 : decode cX9_readSeam 106 = .ok (.if_icmp .ne 13, 3) := by decide +kernel
theorem dX9_readSeam_109 : decode cX9_readSeam 109 = .ok (.aload_n 0, 1) := by decide +kernel
theorem dX9_readSeam_110 : decode cX9_readSeam 110 = .ok (.iconst 0, 1) := by decide +kernel
theorem dX9_readSeam_111 : decode cX9_readSeam 111 = .ok (.bipush 99, 2) := by decide +kernel
theorem dX9_readSeam_113 : decode cX9_readSeam 113 = .ok (.invokevirtual 152, 3) := by decide +kernel
theorem dX9_readSeam_116 : decode cX9_readSeam 116 = .ok (.goto 10, 3) := by decide +kernel
theorem dX9_readSeam_119 : decode cX9_readSeam 119 = .ok (.aload_n 0, 1) := by decide +kernel
theorem dX9_readSeam_120 : decode cX9_readSeam 120 = .ok (.iconst 1, 1) := by decide +kernel
theorem dX9_readSeam_121 : decode cX9_readSeam 121 = .ok (.bipush 9, 2) := by decide +kernel
theorem dX9_readSeam_123 : decode cX9_readSeam 123 = .ok (.invokevirtual 152, 3) := by decide +kernel
theorem dX9_readSeam_126 : decode cX9_readSeam 126 = .ok (.iastore, 1) := by decide +kernel
theorem dX9_readSeam_127 : decode cX9_readSeam 127 = .ok (.aload_n 0, 1) := by decide +kernel
theorem dX9_readSeam_128 : decode cX9_readSeam 128 = .ok (.bipush 59, 2) := by decide +kernel
theorem dX9_readSeam_130 : decode cX9_readSeam 130 = .ok (.invokevirtual 156, 3) := by decide +kernel
theorem dX9_readSeam_133 : decode cX9_readSeam 133 = .ok (.return_, 1) := by decide +kernel
theorem dX9_readClause_0 : decode cX9_readClause 0 = .ok (.aload_n 0, 1) := by decide +kernel
theorem dX9_readClause_1 : decode cX9_readClause 1 = .ok (.invokevirtual 160, 3) := by decide +kernel
theorem dX9_readClause_4 : decode cX9_readClause 4 = .ok (.istore_n 2, 1) := by decide +kernel
theorem dX9_readClause_5 : decode cX9_readClause 5 = .ok (.iload_n 2, 1) := by decide +kernel
theorem dX9_readClause_6 : decode cX9_readClause 6 = .ok (.iconst (-1), 1) := by decide +kernel
theorem dX9_readClause_7 : decode cX9_readClause 7 = .ok (.if_icmp .eq 20, 3) := by decide +kernel
theorem dX9_readClause_10 : decode cX9_readClause 10 = .ok (.iload_n 1, 1) := by decide +kernel
theorem dX9_readClause_11 : decode cX9_readClause 11 = .ok (.iload_n 2, 1) := by decide +kernel
theorem dX9_readClause_12 : decode cX9_readClause 12 = .ok (.ifCond .ne 7, 3) := by decide +kernel
theorem dX9_readClause_15 : decode cX9_readClause 15 = .ok (.iconst 1, 1) := by decide +kernel
theorem dX9_readClause_16 : decode cX9_readClause 16 = .ok (.goto 4, 3) := by decide +kernel
theorem dX9_readClause_19 : decode cX9_readClause 19 = .ok (.iconst 0, 1) := by decide +kernel
theorem dX9_readClause_20 : decode cX9_readClause 20 = .ok (.if_icmp .eq 19, 3) := by decide +kernel
theorem dX9_readClause_23 : decode cX9_readClause 23 = .ok (.iload_n 1, 1) := by decide +kernel
theorem dX9_readClause_24 : decode cX9_readClause 24 = .ok (.ifCond .eq 15, 3) := by decide +kernel
theorem dX9_readClause_27 : decode cX9_readClause 27 = .ok (.aload_n 0, 1) := by decide +kernel
theorem dX9_readClause_28 : decode cX9_readClause 28 = .ok (.iconst 1, 1) := by decide +kernel
theorem dX9_readClause_29 : decode cX9_readClause 29 = .ok (.aload_n 0, 1) := by decide +kernel
theorem dX9_readClause_30 : decode cX9_readClause 30 = .ok (.getfield 132, 3) := by decide +kernel
theorem dX9_readClause_33 : decode cX9_readClause 33 = .ok (.invokevirtual 124, 3) := by decide +kernel
theorem dX9_readClause_36 : decode cX9_readClause 36 = .ok (.goto 182, 3) := by decide +kernel
theorem dX9_readClause_39 : decode cX9_readClause 39 = .ok (.iload_n 1, 1) := by decide +kernel
theorem dX9_readClause_40 : decode cX9_readClause 40 = .ok (.ifCond .ne 7, 3) := by decide +kernel
theorem dX9_readClause_43 : decode cX9_readClause 43 = .ok (.iload_n 2, 1) := by decide +kernel
theorem dX9_readClause_44 : decode cX9_readClause 44 = .ok (.ifCond .eq 56, 3) := by decide +kernel
theorem dX9_readClause_47 : decode cX9_readClause 47 = .ok (.iload_n 2, 1) := by decide +kernel
theorem dX9_readClause_48 : decode cX9_readClause 48 = .ok (.iconst 1, 1) := by decide +kernel
theorem dX9_readClause_49 : decode cX9_readClause 49 = .ok (.if_icmp .ne 14, 3) := by decide +kernel
theorem dX9_readClause_52 : decode cX9_readClause 52 = .ok (.aload_n 0, 1) := by decide +kernel
theorem dX9_readClause_53 : decode cX9_readClause 53 = .ok (.getfield 13, 3) := by decide +kernel
theorem dX9_readClause_56 : decode cX9_readClause 56 = .ok (.iconst 1, 1) := by decide +kernel
theorem dX9_readClause_57 : decode cX9_readClause 57 = .ok (.iaload, 1) := by decide +kernel
theorem dX9_readClause_58 : decode cX9_readClause 58 = .ok (.bipush 8, 2) := by decide +kernel
theorem dX9_readClause_60 : decode cX9_readClause 60 = .ok (.if_icmp .eq 40, 3) := by decide +kernel
theorem dX9_readClause_63 : decode cX9_readClause 63 = .ok (.iload_n 2, 1) := by decide +kernel
theorem dX9_readClause_64 : decode cX9_readClause 64 = .ok (.iconst 2, 1) := by decide +kernel
theorem dX9_readClause_65 : decode cX9_readClause 65 = .ok (.if_icmp .eq 8, 3) := by decide +kernel
theorem dX9_readClause_68 : decode cX9_readClause 68 = .ok (.iload_n 2, 1) := by decide +kernel
theorem dX9_readClause_69 : decode cX9_readClause 69 = .ok (.iconst 3, 1) := by decide +kernel
theorem dX9_readClause_70 : decode cX9_readClause 70 = .ok (.if_icmp .ne 14, 3) := by decide +kernel
theorem dX9_readClause_73 : decode cX9_readClause 73 = .ok (.aload_n 0, 1) := by decide +kernel
theorem dX9_readClause_74 : decode cX9_readClause 74 = .ok (.getfield 13, 3) := by decide +kernel
theorem dX9_readClause_77 : decode cX9_readClause 77 = .ok (.iconst 2, 1) := by decide +kernel
theorem dX9_readClause_78 : decode cX9_readClause 78 = .ok (.iaload, 1) := by decide +kernel
theorem dX9_readClause_79 : decode cX9_readClause 79 = .ok (.bipush 12, 2) := by decide +kernel
theorem dX9_readClause_81 : decode cX9_readClause 81 = .ok (.if_icmp .eq 19, 3) := by decide +kernel
theorem dX9_readClause_84 : decode cX9_readClause 84 = .ok (.iload_n 2, 1) := by decide +kernel
theorem dX9_readClause_85 : decode cX9_readClause 85 = .ok (.iconst 4, 1) := by decide +kernel
theorem dX9_readClause_86 : decode cX9_readClause 86 = .ok (.if_icmp .ne 26, 3) := by decide +kernel
theorem dX9_readClause_89 : decode cX9_readClause 89 = .ok (.aload_n 0, 1) := by decide +kernel
theorem dX9_readClause_90 : decode cX9_readClause 90 = .ok (.getfield 13, 3) := by decide +kernel
theorem dX9_readClause_93 : decode cX9_readClause 93 = .ok (.iconst 3, 1) := by decide +kernel
theorem dX9_readClause_94 : decode cX9_readClause 94 = .ok (.iaload, 1) := by decide +kernel
theorem dX9_readClause_95 : decode cX9_readClause 95 = .ok (.bipush 8, 2) := by decide +kernel
theorem dX9_readClause_97 : decode cX9_readClause 97 = .ok (.if_icmp .ne 15, 3) := by decide +kernel
theorem dX9_readClause_100 : decode cX9_readClause 100 = .ok (.aload_n 0, 1) := by decide +kernel
theorem dX9_readClause_101 : decode cX9_readClause 101 = .ok (.iconst 3, 1) := by decide +kernel
theorem dX9_readClause_102 : decode cX9_readClause 102 = .ok (.aload_n 0, 1) := by decide +kernel
theorem dX9_readClause_103 : decode cX9_readClause 103 = .ok (.getfield 132, 3) := by decide +kernel
theorem dX9_readClause_106 : decode cX9_readClause 106 = .ok (.invokevirtual 124, 3) := by decide +kernel
theorem dX9_readClause_109 : decode cX9_readClause 109 = .ok (.goto 109, 3) := by decide +kernel
theorem dX9_readClause_112 : decode cX9_readClause 112 = .ok (.iload_n 2, 1) := by decide +kernel
theorem dX9_readClause_113 : decode cX9_readClause 113 = .ok (.ifCond .ne 10, 3) := by decide +kernel
theorem dX9_readClause_116 : decode cX9_readClause 116 = .ok (.aload_n 0, 1) := by decide +kernel
theorem dX9_readClause_117 : decode cX9_readClause 117 = .ok (.invokevirtual 163, 3) := by decide +kernel
theorem dX9_readClause_120 : decode cX9_readClause 120 = .ok (.goto 98, 3) := by decide +kernel
theorem dX9_readClause_123 : decode cX9_readClause 123 = .ok (.iload_n 2, 1) := by decide +kernel
theorem dX9_readClause_124 : decode cX9_readClause 124 = .ok (.iconst 1, 1) := by decide +kernel
theorem dX9_readClause_125 : decode cX9_readClause 125 = .ok (.if_icmp .ne 46, 3) := by decide +kernel
theorem dX9_readClause_128 : decode cX9_readClause 128 = .ok (.aload_n 0, 1) := by decide +kernel
theorem dX9_readClause_129 : decode cX9_readClause 129 = .ok (.getfield 19, 3) := by decide +kernel
theorem dX9_readClause_132 : decode cX9_readClause 132 = .ok (.aload_n 0, 1) := by decide +kernel
theorem dX9_readClause_133 : decode cX9_readClause 133 = .ok (.getfield 13, 3) := by decide +kernel
theorem dX9_readClause_136 : decode cX9_readClause 136 = .ok (.iconst 1, 1) := by decide +kernel
theorem dX9_readClause_137 : decode cX9_readClause 137 = .ok (.iaload, 1) := by decide +kernel
theorem dX9_readClause_138 : decode cX9_readClause 138 = .ok (.aload_n 0, 1) := by decide +kernel
theorem dX9_readClause_139 : decode cX9_readClause 139 = .ok (.iconst 0, 1) := by decide +kernel
theorem dX9_readClause_140 : decode cX9_readClause 140 = .ok (.aload_n 0, 1) := by decide +kernel
theorem dX9_readClause_141 : decode cX9_readClause 141 = .ok (.getfield 13, 3) := by decide +kernel
theorem dX9_readClause_144 : decode cX9_readClause 144 = .ok (.iconst 0, 1) := by decide +kernel
theorem dX9_readClause_145 : decode cX9_readClause 145 = .ok (.iaload, 1) := by decide +kernel
theorem dX9_readClause_146 : decode cX9_readClause 146 = .ok (.iconst 1, 1) := by decide +kernel
theorem dX9_readClause_147 : decode cX9_readClause 147 = .ok (.isub, 1) := by decide +kernel
theorem dX9_readClause_148 : decode cX9_readClause 148 = .ok (.invokevirtual 152, 3) := by decide +kernel
theorem dX9_readClause_151 : decode cX9_readClause 151 = .ok (.iastore, 1) := by decide +kernel
theorem dX9_readClause_152 : decode cX9_readClause 152 = .ok (.aload_n 0, 1) := by decide +kernel
theorem dX9_readClause_153 : decode cX9_readClause 153 = .ok (.bipush 59, 2) := by decide +kernel
theorem dX9_readClause_155 : decode cX9_readClause 155 = .ok (.invokevirtual 156, 3) := by decide +kernel
theorem dX9_readClause_158 : decode cX9_readClause 158 = .ok (.aload_n 0, 1) := by decide +kernel
theorem dX9_readClause_159 : decode cX9_readClause 159 = .ok (.getfield 13, 3) := by decide +kernel
theorem dX9_readClause_162 : decode cX9_readClause 162 = .ok (.iconst 1, 1) := by decide +kernel
theorem dX9_readClause_163 : decode cX9_readClause 163 = .ok (.dup2, 1) := by decide +kernel
theorem dX9_readClause_164 : decode cX9_readClause 164 = .ok (.iaload, 1) := by decide +kernel
theorem dX9_readClause_165 : decode cX9_readClause 165 = .ok (.iconst 1, 1) := by decide +kernel
theorem dX9_readClause_166 : decode cX9_readClause 166 = .ok (.iadd, 1) := by decide +kernel
theorem dX9_readClause_167 : decode cX9_readClause 167 = .ok (.iastore, 1) := by decide +kernel
theorem dX9_readClause_168 : decode cX9_readClause 168 = .ok (.goto 50, 3) := by decide +kernel
theorem dX9_readClause_171 : decode cX9_readClause 171 = .ok (.aload_n 0, 1) := by decide +kernel
theorem dX9_readClause_172 : decode cX9_readClause 172 = .ok (.iload_n 2, 1) := by decide +kernel
theorem dX9_readClause_173 : decode cX9_readClause 173 = .ok (.iload_n 2, 1) := by decide +kernel
theorem dX9_readClause_174 : decode cX9_readClause 174 = .ok (.iconst 4, 1) := by decide +kernel
theorem dX9_readClause_175 : decode cX9_readClause 175 = .ok (.if_icmp .ne 15, 3) := by decide +kernel
theorem dX9_readClause_178 : decode cX9_readClause 178 = .ok (.bipush 12, 2) := by decide +kernel
theorem dX9_readClause_180 : decode cX9_readClause 180 = .ok (.aload_n 0, 1) := by decide +kernel
theorem dX9_readClause_181 : decode cX9_readClause 181 = .ok (.getfield 13, 3) := by decide +kernel
theorem dX9_readClause_184 : decode cX9_readClause 184 = .ok (.iconst 3, 1) := by decide +kernel
theorem dX9_readClause_185 : decode cX9_readClause 185 = .ok (.iaload, 1) := by decide +kernel
theorem dX9_readClause_186 : decode cX9_readClause 186 = .ok (.iadd, 1) := by decide +kernel
theorem dX9_readClause_187 : decode cX9_readClause 187 = .ok (.goto 9, 3) := by decide +kernel
theorem dX9_readClause_190 : decode cX9_readClause 190 = .ok (.aload_n 0, 1) := by decide +kernel
theorem dX9_readClause_191 : decode cX9_readClause 191 = .ok (.getfield 13, 3) := by decide +kernel
theorem dX9_readClause_194 : decode cX9_readClause 194 = .ok (.iconst 2, 1) := by decide +kernel
theorem dX9_readClause_195 : decode cX9_readClause 195 = .ok (.iaload, 1) := by decide +kernel
theorem dX9_readClause_196 : decode cX9_readClause 196 = .ok (.invokevirtual 166, 3) := by decide +kernel
theorem dX9_readClause_199 : decode cX9_readClause 199 = .ok (.aload_n 0, 1) := by decide +kernel
theorem dX9_readClause_200 : decode cX9_readClause 200 = .ok (.getfield 13, 3) := by decide +kernel
theorem dX9_readClause_203 : decode cX9_readClause 203 = .ok (.iload_n 2, 1) := by decide +kernel
theorem dX9_readClause_204 : decode cX9_readClause 204 = .ok (.iconst 4, 1) := by decide +kernel
theorem dX9_readClause_205 : decode cX9_readClause 205 = .ok (.if_icmp .ne 7, 3) := by decide +kernel
theorem dX9_readClause_208 : decode cX9_readClause 208 = .ok (.iconst 3, 1) := by decide +kernel
theorem dX9_readClause_209 : decode cX9_readClause 209 = .ok (.goto 4, 3) := by decide +kernel
theorem dX9_readClause_212 : decode cX9_readClause 212 = .ok (.iconst 2, 1) := by decide +kernel
theorem dX9_readClause_213 : decode cX9_readClause 213 = .ok (.dup2, 1) := by decide +kernel
theorem dX9_readClause_214 : decode cX9_readClause 214 = .ok (.iaload, 1) := by decide +kernel
theorem dX9_readClause_215 : decode cX9_readClause 215 = .ok (.iconst 1, 1) := by decide +kernel
theorem dX9_readClause_216 : decode cX9_readClause 216 = .ok (.iadd, 1) := by decide +kernel
theorem dX9_readClause_217 : decode cX9_readClause 217 = .ok (.iastore, 1) := by decide +kernel
theorem dX9_readClause_218 : decode cX9_readClause 218 = .ok (.return_, 1) := by decide +kernel
theorem dX9_flag_0 : decode cX9_flag 0 = .ok (.aload_n 0, 1) := by decide +kernel
theorem dX9_flag_1 : decode cX9_flag 1 = .ok (.iconst 0, 1) := by decide +kernel
theorem dX9_flag_2 : decode cX9_flag 2 = .ok (.putfield 109, 3) := by decide +kernel
theorem dX9_flag_5 : decode cX9_flag 5 = .ok (.aload_n 0, 1) := by decide +kernel
theorem dX9_flag_6 : decode cX9_flag 6 = .ok (.iconst 0, 1) := by decide +kernel
theorem dX9_flag_7 : decode cX9_flag 7 = .ok (.putfield 103, 3) := by decide +kernel
theorem dX9_flag_10 : decode cX9_flag 10 = .ok (.iconst 0, 1) := by decide +kernel
theorem dX9_flag_11 : decode cX9_flag 11 = .ok (.istore_n 1, 1) := by decide +kernel
theorem dX9_flag_12 : decode cX9_flag 12 = .ok (.iload_n 1, 1) := by decide +kernel
theorem dX9_flag_13 : decode cX9_flag 13 = .ok (.iconst 4, 1) := by decide +kernel
theorem dX9_flag_14 : decode cX9_flag 14 = .ok (.if_icmp .ge 16, 3) := by decide +kernel
theorem dX9_flag_17 : decode cX9_flag 17 = .ok (.aload_n 0, 1) := by decide +kernel
theorem dX9_flag_18 : decode cX9_flag 18 = .ok (.getfield 13, 3) := by decide +kernel
theorem dX9_flag_21 : decode cX9_flag 21 = .ok (.iload_n 1, 1) := by decide +kernel
theorem dX9_flag_22 : decode cX9_flag 22 = .ok (.iconst 0, 1) := by decide +kernel
theorem dX9_flag_23 : decode cX9_flag 23 = .ok (.iastore, 1) := by decide +kernel
theorem dX9_flag_24 : decode cX9_flag 24 = .ok (.iinc 1 1, 3) := by decide +kernel
theorem dX9_flag_27 : decode cX9_flag 27 = .ok (.goto (-15), 3) := by decide +kernel
theorem dX9_flag_30 : decode cX9_flag 30 = .ok (.iconst 1, 1) := by decide +kernel
theorem dX9_flag_31 : decode cX9_flag 31 = .ok (.istore_n 1, 1) := by decide +kernel
theorem dX9_flag_32 : decode cX9_flag 32 = .ok (.aload_n 0, 1) := by decide +kernel
theorem dX9_flag_33 : decode cX9_flag 33 = .ok (.getfield 103, 3) := by decide +kernel
theorem dX9_flag_36 : decode cX9_flag 36 = .ok (.ifCond .ne 20, 3) := by decide +kernel
theorem dX9_flag_39 : decode cX9_flag 39 = .ok (.aload_n 0, 1) := by decide +kernel
theorem dX9_flag_40 : decode cX9_flag 40 = .ok (.invokevirtual 169, 3) := by decide +kernel
theorem dX9_flag_43 : decode cX9_flag 43 = .ok (.ifCond .ne 13, 3) := by decide +kernel
theorem dX9_flag_46 : decode cX9_flag 46 = .ok (.aload_n 0, 1) := by decide +kernel
theorem dX9_flag_47 : decode cX9_flag 47 = .ok (.iload_n 1, 1) := by decide +kernel
theorem dX9_flag_48 : decode cX9_flag 48 = .ok (.invokevirtual 173, 3) := by decide +kernel
theorem dX9_flag_51 : decode cX9_flag 51 = .ok (.iconst 0, 1) := by decide +kernel
theorem dX9_flag_52 : decode cX9_flag 52 = .ok (.istore_n 1, 1) := by decide +kernel
theorem dX9_flag_53 : decode cX9_flag 53 = .ok (.goto (-21), 3) := by decide +kernel
theorem dX9_flag_56 : decode cX9_flag 56 = .ok (.aload_n 0, 1) := by decide +kernel
theorem dX9_flag_57 : decode cX9_flag 57 = .ok (.iconst 0, 1) := by decide +kernel
theorem dX9_flag_58 : decode cX9_flag 58 = .ok (.putfield 97, 3) := by decide +kernel
theorem dX9_flag_61 : decode cX9_flag 61 = .ok (.aload_n 0, 1) := by decide +kernel
theorem dX9_flag_62 : decode cX9_flag 62 = .ok (.aload_n 0, 1) := by decide +kernel
theorem dX9_flag_63 : decode cX9_flag 63 = .ok (.getfield 103, 3) := by decide +kernel
theorem dX9_flag_66 : decode cX9_flag 66 = .ok (.ifCond .ne 7, 3) := by decide +kernel
theorem dX9_flag_69 : decode cX9_flag 69 = .ok (.iconst (-1), 1) := by decide +kernel
theorem dX9_flag_70 : decode cX9_flag 70 = .ok (.goto 7, 3) := by decide +kernel
theorem dX9_flag_73 : decode cX9_flag 73 = .ok (.aload_n 0, 1) := by decide +kernel
theorem dX9_flag_74 : decode cX9_flag 74 = .ok (.getfield 106, 3) := by decide +kernel
theorem dX9_flag_77 : decode cX9_flag 77 = .ok (.putfield 86, 3) := by decide +kernel
theorem dX9_flag_80 : decode cX9_flag 80 = .ok (.aload_n 0, 1) := by decide +kernel
theorem dX9_flag_81 : decode cX9_flag 81 = .ok (.getfield 103, 3) := by decide +kernel
theorem dX9_flag_84 : decode cX9_flag 84 = .ok (.ifCond .eq 11, 3) := by decide +kernel
theorem dX9_flag_87 : decode cX9_flag 87 = .ok (.bipush (-10), 2) := by decide +kernel
theorem dX9_flag_89 : decode cX9_flag 89 = .ok (.aload_n 0, 1) := by decide +kernel
theorem dX9_flag_90 : decode cX9_flag 90 = .ok (.getfield 103, 3) := by decide +kernel
theorem dX9_flag_93 : decode cX9_flag 93 = .ok (.isub, 1) := by decide +kernel
theorem dX9_flag_94 : decode cX9_flag 94 = .ok (.ireturn, 1) := by decide +kernel
theorem dX9_flag_95 : decode cX9_flag 95 = .ok (.aload_n 0, 1) := by decide +kernel
theorem dX9_flag_96 : decode cX9_flag 96 = .ok (.invokevirtual 177, 3) := by decide +kernel
theorem dX9_flag_99 : decode cX9_flag 99 = .ok (.aload_n 0, 1) := by decide +kernel
theorem dX9_flag_100 : decode cX9_flag 100 = .ok (.getfield 180, 3) := by decide +kernel
theorem dX9_flag_103 : decode cX9_flag 103 = .ok (.ireturn, 1) := by decide +kernel
theorem dX9_takes_0 : decode cX9_takes 0 = .ok (.aload_n 0, 1) := by decide +kernel
theorem dX9_takes_1 : decode cX9_takes 1 = .ok (.aload_n 0, 1) := by decide +kernel
theorem dX9_takes_2 : decode cX9_takes 2 = .ok (.getfield 13, 3) := by decide +kernel
theorem dX9_takes_5 : decode cX9_takes 5 = .ok (.iconst 0, 1) := by decide +kernel
theorem dX9_takes_6 : decode cX9_takes 6 = .ok (.iaload, 1) := by decide +kernel
theorem dX9_takes_7 : decode cX9_takes 7 = .ok (.putfield 183, 3) := by decide +kernel
theorem dX9_takes_10 : decode cX9_takes 10 = .ok (.aload_n 0, 1) := by decide +kernel
theorem dX9_takes_11 : decode cX9_takes 11 = .ok (.aload_n 0, 1) := by decide +kernel
theorem dX9_takes_12 : decode cX9_takes 12 = .ok (.getfield 13, 3) := by decide +kernel
theorem dX9_takes_15 : decode cX9_takes 15 = .ok (.iconst 1, 1) := by decide +kernel
theorem dX9_takes_16 : decode cX9_takes 16 = .ok (.iaload, 1) := by decide +kernel
theorem dX9_takes_17 : decode cX9_takes 17 = .ok (.putfield 180, 3) := by decide +kernel
theorem dX9_takes_20 : decode cX9_takes 20 = .ok (.aload_n 0, 1) := by decide +kernel
theorem dX9_takes_21 : decode cX9_takes 21 = .ok (.aload_n 0, 1) := by decide +kernel
theorem dX9_takes_22 : decode cX9_takes 22 = .ok (.getfield 13, 3) := by decide +kernel
theorem dX9_takes_25 : decode cX9_takes 25 = .ok (.iconst 2, 1) := by decide +kernel
theorem dX9_takes_26 : decode cX9_takes 26 = .ok (.iaload, 1) := by decide +kernel
theorem dX9_takes_27 : decode cX9_takes 27 = .ok (.putfield 186, 3) := by decide +kernel
theorem dX9_takes_30 : decode cX9_takes 30 = .ok (.aload_n 0, 1) := by decide +kernel
theorem dX9_takes_31 : decode cX9_takes 31 = .ok (.aload_n 0, 1) := by decide +kernel
theorem dX9_takes_32 : decode cX9_takes 32 = .ok (.getfield 13, 3) := by decide +kernel
theorem dX9_takes_35 : decode cX9_takes 35 = .ok (.iconst 3, 1) := by decide +kernel
theorem dX9_takes_36 : decode cX9_takes 36 = .ok (.iaload, 1) := by decide +kernel
theorem dX9_takes_37 : decode cX9_takes 37 = .ok (.putfield 189, 3) := by decide +kernel
theorem dX9_takes_40 : decode cX9_takes 40 = .ok (.iconst 0, 1) := by decide +kernel
theorem dX9_takes_41 : decode cX9_takes 41 = .ok (.istore_n 1, 1) := by decide +kernel
theorem dX9_takes_42 : decode cX9_takes 42 = .ok (.iload_n 1, 1) := by decide +kernel
theorem dX9_takes_43 : decode cX9_takes 43 = .ok (.aload_n 0, 1) := by decide +kernel
theorem dX9_takes_44 : decode cX9_takes 44 = .ok (.getfield 183, 3) := by decide +kernel
theorem dX9_takes_47 : decode cX9_takes 47 = .ok (.if_icmp .ge 21, 3) := by decide +kernel
theorem dX9_takes_50 : decode cX9_takes 50 = .ok (.aload_n 0, 1) := by decide +kernel
theorem dX9_takes_51 : decode cX9_takes 51 = .ok (.getfield 31, 3) := by decide +kernel
theorem dX9_takes_54 : decode cX9_takes 54 = .ok (.iload_n 1, 1) := by decide +kernel
theorem dX9_takes_55 : decode cX9_takes 55 = .ok (.aload_n 0, 1) := by decide +kernel
theorem dX9_takes_56 : decode cX9_takes 56 = .ok (.getfield 16, 3) := by decide +kernel
theorem dX9_takes_59 : decode cX9_takes 59 = .ok (.iload_n 1, 1) := by decide +kernel
theorem dX9_takes_60 : decode cX9_takes 60 = .ok (.iaload, 1) := by decide +kernel
theorem dX9_takes_61 : decode cX9_takes 61 = .ok (.iastore, 1) := by decide +kernel
theorem dX9_takes_62 : decode cX9_takes 62 = .ok (.iinc 1 1, 3) := by decide +kernel
theorem dX9_takes_65 : decode cX9_takes 65 = .ok (.goto (-23), 3) := by decide +kernel
theorem dX9_takes_68 : decode cX9_takes 68 = .ok (.iconst 0, 1) := by decide +kernel
theorem dX9_takes_69 : decode cX9_takes 69 = .ok (.istore_n 1, 1) := by decide +kernel
theorem dX9_takes_70 : decode cX9_takes 70 = .ok (.iload_n 1, 1) := by decide +kernel
theorem dX9_takes_71 : decode cX9_takes 71 = .ok (.aload_n 0, 1) := by decide +kernel
theorem dX9_takes_72 : decode cX9_takes 72 = .ok (.getfield 180, 3) := by decide +kernel
theorem dX9_takes_75 : decode cX9_takes 75 = .ok (.if_icmp .ge 35, 3) := by decide +kernel
theorem dX9_takes_78 : decode cX9_takes 78 = .ok (.aload_n 0, 1) := by decide +kernel
theorem dX9_takes_79 : decode cX9_takes 79 = .ok (.getfield 34, 3) := by decide +kernel
theorem dX9_takes_82 : decode cX9_takes 82 = .ok (.iload_n 1, 1) := by decide +kernel
theorem dX9_takes_83 : decode cX9_takes 83 = .ok (.aload_n 0, 1) := by decide +kernel
theorem dX9_takes_84 : decode cX9_takes 84 = .ok (.getfield 19, 3) := by decide +kernel
theorem dX9_takes_87 : decode cX9_takes 87 = .ok (.iload_n 1, 1) := by decide +kernel
theorem dX9_takes_88 : decode cX9_takes 88 = .ok (.iaload, 1) := by decide +kernel
theorem dX9_takes_89 : decode cX9_takes 89 = .ok (.iastore, 1) := by decide +kernel
theorem dX9_takes_90 : decode cX9_takes 90 = .ok (.aload_n 0, 1) := by decide +kernel
theorem dX9_takes_91 : decode cX9_takes 91 = .ok (.getfield 37, 3) := by decide +kernel
theorem dX9_takes_94 : decode cX9_takes 94 = .ok (.iload_n 1, 1) := by decide +kernel
theorem dX9_takes_95 : decode cX9_takes 95 = .ok (.iconst 1, 1) := by decide +kernel
theorem dX9_takes_96 : decode cX9_takes 96 = .ok (.aload_n 0, 1) := by decide +kernel
theorem dX9_takes_97 : decode cX9_takes 97 = .ok (.getfield 183, 3) := by decide +kernel
theorem dX9_takes_100 : decode cX9_takes 100 = .ok (.ishl, 1) := by decide +kernel
theorem dX9_takes_101 : decode cX9_takes 101 = .ok (.iconst 1, 1) := by decide +kernel
theorem dX9_takes_102 : decode cX9_takes 102 = .ok (.isub, 1) := by decide +kernel
theorem dX9_takes_103 : decode cX9_takes 103 = .ok (.iastore, 1) := by decide +kernel
theorem dX9_takes_104 : decode cX9_takes 104 = .ok (.iinc 1 1, 3) := by decide +kernel
theorem dX9_takes_107 : decode cX9_takes 107 = .ok (.goto (-37), 3) := by decide +kernel
theorem dX9_takes_110 : decode cX9_takes 110 = .ok (.iconst 0, 1) := by decide +kernel
theorem dX9_takes_111 : decode cX9_takes 111 = .ok (.istore_n 1, 1) := by decide +kernel
theorem dX9_takes_112 : decode cX9_takes 112 = .ok (.iload_n 1, 1) := by decide +kernel
theorem dX9_takes_113 : decode cX9_takes 113 = .ok (.bipush 20, 2) := by decide +kernel
theorem dX9_takes_115 : decode cX9_takes 115 = .ok (.if_icmp .ge 68, 3) := by decide +kernel
theorem dX9_takes_118 : decode cX9_takes 118 = .ok (.aload_n 0, 1) := by decide +kernel
theorem dX9_takes_119 : decode cX9_takes 119 = .ok (.getfield 40, 3) := by decide +kernel
theorem dX9_takes_122 : decode cX9_takes 122 = .ok (.iload_n 1, 1) := by decide +kernel
theorem dX9_takes_123 : decode cX9_takes 123 = .ok (.aload_n 0, 1) := by decide +kernel
theorem dX9_takes_124 : decode cX9_takes 124 = .ok (.getfield 22, 3) := by decide +kernel
theorem dX9_takes_127 : decode cX9_takes 127 = .ok (.iload_n 1, 1) := by decide +kernel
theorem dX9_takes_128 : decode cX9_takes 128 = .ok (.iaload, 1) := by decide +kernel
theorem dX9_takes_129 : decode cX9_takes 129 = .ok (.iastore, 1) := by decide +kernel
theorem dX9_takes_130 : decode cX9_takes 130 = .ok (.aload_n 0, 1) := by decide +kernel
theorem dX9_takes_131 : decode cX9_takes 131 = .ok (.getfield 43, 3) := by decide +kernel
theorem dX9_takes_134 : decode cX9_takes 134 = .ok (.iload_n 1, 1) := by decide +kernel
theorem dX9_takes_135 : decode cX9_takes 135 = .ok (.aload_n 0, 1) := by decide +kernel
theorem dX9_takes_136 : decode cX9_takes 136 = .ok (.getfield 25, 3) := by decide +kernel
theorem dX9_takes_139 : decode cX9_takes 139 = .ok (.iload_n 1, 1) := by decide +kernel
theorem dX9_takes_140 : decode cX9_takes 140 = .ok (.iaload, 1) := by decide +kernel
theorem dX9_takes_141 : decode cX9_takes 141 = .ok (.iastore, 1) := by decide +kernel
theorem dX9_takes_142 : decode cX9_takes 142 = .ok (.aload_n 0, 1) := by decide +kernel
theorem dX9_takes_143 : decode cX9_takes 143 = .ok (.getfield 46, 3) := by decide +kernel
theorem dX9_takes_146 : decode cX9_takes 146 = .ok (.iload_n 1, 1) := by decide +kernel
theorem dX9_takes_147 : decode cX9_takes 147 = .ok (.iload_n 1, 1) := by decide +kernel
theorem dX9_takes_148 : decode cX9_takes 148 = .ok (.bipush 12, 2) := by decide +kernel
theorem dX9_takes_150 : decode cX9_takes 150 = .ok (.if_icmp .ge 12, 3) := by decide +kernel
theorem dX9_takes_153 : decode cX9_takes 153 = .ok (.aload_n 0, 1) := by decide +kernel
theorem dX9_takes_154 : decode cX9_takes 154 = .ok (.getfield 28, 3) := by decide +kernel
theorem dX9_takes_157 : decode cX9_takes 157 = .ok (.iload_n 1, 1) := by decide +kernel
theorem dX9_takes_158 : decode cX9_takes 158 = .ok (.iaload, 1) := by decide +kernel
theorem dX9_takes_159 : decode cX9_takes 159 = .ok (.goto 5, 3) := by decide +kernel
theorem dX9_takes_162 : decode cX9_takes 162 = .ok (.bipush 9, 2) := by decide +kernel
theorem dX9_takes_164 : decode cX9_takes 164 = .ok (.iastore, 1) := by decide +kernel
theorem dX9_takes_165 : decode cX9_takes 165 = .ok (.aload_n 0, 1) := by decide +kernel
theorem dX9_takes_166 : decode cX9_takes 166 = .ok (.getfield 49, 3) := by decide +kernel
theorem dX9_takes_169 : decode cX9_takes 169 = .ok (.iload_n 1, 1) := by decide +kernel
theorem dX9_takes_170 : decode cX9_takes 170 = .ok (.aload_n 0, 1) := by decide +kernel
theorem dX9_takes_171 : decode cX9_takes 171 = .ok (.getfield 28, 3) := by decide +kernel
theorem dX9_takes_174 : decode cX9_takes 174 = .ok (.iload_n 1, 1) := by decide +kernel
theorem dX9_takes_175 : decode cX9_takes 175 = .ok (.iaload, 1) := by decide +kernel
theorem dX9_takes_176 : decode cX9_takes 176 = .ok (.iastore, 1) := by decide +kernel
theorem dX9_takes_177 : decode cX9_takes 177 = .ok (.iinc 1 1, 3) := by decide +kernel
theorem dX9_takes_180 : decode cX9_takes 180 = .ok (.goto (-68), 3) := by decide +kernel
theorem dX9_takes_183 : decode cX9_takes 183 = .ok (.aload_n 0, 1) := by decide +kernel
theorem dX9_takes_184 : decode cX9_takes 184 = .ok (.iconst 0, 1) := by decide +kernel
theorem dX9_takes_185 : decode cX9_takes 185 = .ok (.putfield 192, 3) := by decide +kernel
theorem dX9_takes_188 : decode cX9_takes 188 = .ok (.aload_n 0, 1) := by decide +kernel
theorem dX9_takes_189 : decode cX9_takes 189 = .ok (.iconst 0, 1) := by decide +kernel
theorem dX9_takes_190 : decode cX9_takes 190 = .ok (.putfield 195, 3) := by decide +kernel
theorem dX9_takes_193 : decode cX9_takes 193 = .ok (.aload_n 0, 1) := by decide +kernel
theorem dX9_takes_194 : decode cX9_takes 194 = .ok (.getfield 83, 3) := by decide +kernel
theorem dX9_takes_197 : decode cX9_takes 197 = .ok (.iconst 0, 1) := by decide +kernel
theorem dX9_takes_198 : decode cX9_takes 198 = .ok (.iconst 0, 1) := by decide +kernel
theorem dX9_takes_199 : decode cX9_takes 199 = .ok (.iastore, 1) := by decide +kernel
theorem dX9_takes_200 : decode cX9_takes 200 = .ok (.aload_n 0, 1) := by decide +kernel
theorem dX9_takes_201 : decode cX9_takes 201 = .ok (.getfield 83, 3) := by decide +kernel
theorem dX9_takes_204 : decode cX9_takes 204 = .ok (.bipush 23, 2) := by decide +kernel
theorem dX9_takes_206 : decode cX9_takes 206 = .ok (.iconst 0, 1) := by decide +kernel
theorem dX9_takes_207 : decode cX9_takes 207 = .ok (.iastore, 1) := by decide +kernel
theorem dX9_takes_208 : decode cX9_takes 208 = .ok (.return_, 1) := by decide +kernel
theorem dX9_fault_0 : decode cX9_fault 0 = .ok (.aload_n 0, 1) := by decide +kernel
theorem dX9_fault_1 : decode cX9_fault 1 = .ok (.getfield 86, 3) := by decide +kernel
theorem dX9_fault_4 : decode cX9_fault 4 = .ok (.ireturn, 1) := by decide +kernel
theorem dX9_isStrip_0 : decode cX9_isStrip 0 = .ok (.iload_n 1, 1) := by decide +kernel
theorem dX9_isStrip_1 : decode cX9_isStrip 1 = .ok (.i2l, 1) := by decide +kernel
theorem dX9_isStrip_2 : decode cX9_isStrip 2 = .ok (.lconst 0, 1) := by decide +kernel
theorem dX9_isStrip_3 : decode cX9_isStrip 3 = .ok (.aload_n 0, 1) := by decide +kernel
theorem dX9_isStrip_4 : decode cX9_isStrip 4 = .ok (.getfield 180, 3) := by decide +kernel
theorem dX9_isStrip_7 : decode cX9_isStrip 7 = .ok (.iconst 1, 1) := by decide +kernel
theorem dX9_isStrip_8 : decode cX9_isStrip 8 = .ok (.isub, 1) := by decide +kernel
theorem dX9_isStrip_9 : decode cX9_isStrip 9 = .ok (.i2l, 1) := by decide +kernel
theorem dX9_isStrip_10 : decode cX9_isStrip 10 = .ok (.invokestatic 92, 3) := by decide +kernel
theorem dX9_isStrip_13 : decode cX9_isStrip 13 = .ok (.ireturn, 1) := by decide +kernel
theorem dX9_isSeam_0 : decode cX9_isSeam 0 = .ok (.iload_n 1, 1) := by decide +kernel
theorem dX9_isSeam_1 : decode cX9_isSeam 1 = .ok (.i2l, 1) := by decide +kernel
theorem dX9_isSeam_2 : decode cX9_isSeam 2 = .ok (.lconst 0, 1) := by decide +kernel
theorem dX9_isSeam_3 : decode cX9_isSeam 3 = .ok (.aload_n 0, 1) := by decide +kernel
theorem dX9_isSeam_4 : decode cX9_isSeam 4 = .ok (.getfield 186, 3) := by decide +kernel
theorem dX9_isSeam_7 : decode cX9_isSeam 7 = .ok (.iconst 1, 1) := by decide +kernel
theorem dX9_isSeam_8 : decode cX9_isSeam 8 = .ok (.isub, 1) := by decide +kernel
theorem dX9_isSeam_9 : decode cX9_isSeam 9 = .ok (.i2l, 1) := by decide +kernel
theorem dX9_isSeam_10 : decode cX9_isSeam 10 = .ok (.invokestatic 92, 3) := by decide +kernel
theorem dX9_isSeam_13 : decode cX9_isSeam 13 = .ok (.ireturn, 1) := by decide +kernel
theorem dX9_areStrips_0 : decode cX9_areStrips 0 = .ok (.iload_n 1, 1) := by decide +kernel
theorem dX9_areStrips_1 : decode cX9_areStrips 1 = .ok (.i2l, 1) := by decide +kernel
theorem dX9_areStrips_2 : decode cX9_areStrips 2 = .ok (.lconst 0, 1) := by decide +kernel
theorem dX9_areStrips_3 : decode cX9_areStrips 3 = .ok (.iconst 1, 1) := by decide +kernel
theorem dX9_areStrips_4 : decode cX9_areStrips 4 = .ok (.aload_n 0, 1) := by decide +kernel
theorem dX9_areStrips_5 : decode cX9_areStrips 5 = .ok (.getfield 180, 3) := by decide +kernel
theorem dX9_areStrips_8 : decode cX9_areStrips 8 = .ok (.ishl, 1) := by decide +kernel
theorem dX9_areStrips_9 : decode cX9_areStrips 9 = .ok (.iconst 1, 1) := by decide +kernel
theorem dX9_areStrips_10 : decode cX9_areStrips 10 = .ok (.isub, 1) := by decide +kernel
theorem dX9_areStrips_11 : decode cX9_areStrips 11 = .ok (.i2l, 1) := by decide +kernel
theorem dX9_areStrips_12 : decode cX9_areStrips 12 = .ok (.invokestatic 92, 3) := by decide +kernel
theorem dX9_areStrips_15 : decode cX9_areStrips 15 = .ok (.ireturn, 1) := by decide +kernel
theorem dX9_there_0 : decode cX9_there 0 = .ok (.iconst 0, 1) := by decide +kernel
theorem dX9_there_1 : decode cX9_there 1 = .ok (.istore_n 2, 1) := by decide +kernel
theorem dX9_there_2 : decode cX9_there 2 = .ok (.iconst 0, 1) := by decide +kernel
theorem dX9_there_3 : decode cX9_there 3 = .ok (.istore_n 3, 1) := by decide +kernel
theorem dX9_there_4 : decode cX9_there 4 = .ok (.iload_n 3, 1) := by decide +kernel
theorem dX9_there_5 : decode cX9_there 5 = .ok (.aload_n 0, 1) := by decide +kernel
theorem dX9_there_6 : decode cX9_there 6 = .ok (.getfield 186, 3) := by decide +kernel
theorem dX9_there_9 : decode cX9_there 9 = .ok (.if_icmp .ge 38, 3) := by decide +kernel
theorem dX9_there_12 : decode cX9_there 12 = .ok (.iload_n 2, 1) := by decide +kernel
theorem dX9_there_13 : decode cX9_there 13 = .ok (.aload_n 0, 1) := by decide +kernel
theorem dX9_there_14 : decode cX9_there 14 = .ok (.getfield 46, 3) := by decide +kernel
theorem dX9_there_17 : decode cX9_there 17 = .ok (.iload_n 3, 1) := by decide +kernel
theorem dX9_there_18 : decode cX9_there 18 = .ok (.iaload, 1) := by decide +kernel
theorem dX9_there_19 : decode cX9_there 19 = .ok (.ifCond .le 19, 3) := by decide +kernel
theorem dX9_there_22 : decode cX9_there 22 = .ok (.aload_n 0, 1) := by decide +kernel
theorem dX9_there_23 : decode cX9_there 23 = .ok (.getfield 46, 3) := by decide +kernel
theorem dX9_there_26 : decode cX9_there 26 = .ok (.iload_n 3, 1) := by decide +kernel
theorem dX9_there_27 : decode cX9_there 27 = .ok (.iaload, 1) := by decide +kernel
theorem dX9_there_28 : decode cX9_there 28 = .ok (.iload_n 1, 1) := by decide +kernel
theorem dX9_there_29 : decode cX9_there 29 = .ok (.if_icmp .lt 9, 3) := by decide +kernel
theorem dX9_there_32 : decode cX9_there 32 = .ok (.iconst 1, 1) := by decide +kernel
theorem dX9_there_33 : decode cX9_there 33 = .ok (.iload_n 3, 1) := by decide +kernel
theorem dX9_there_34 : decode cX9_there 34 = .ok (.ishl, 1) := by decide +kernel
theorem dX9_there_35 : decode cX9_there 35 = .ok (.goto 4, 3) := by decide +kernel
theorem dX9_there_38 : decode cX9_there 38 = .ok (.iconst 0, 1) := by decide +kernel
theorem dX9_there_39 : decode cX9_there 39 = .ok (.ior, 1) := by decide +kernel
theorem dX9_there_40 : decode cX9_there 40 = .ok (.istore_n 2, 1) := by decide +kernel
theorem dX9_there_41 : decode cX9_there 41 = .ok (.iinc 3 1, 3) := by decide +kernel
theorem dX9_there_44 : decode cX9_there 44 = .ok (.goto (-40), 3) := by decide +kernel
theorem dX9_there_47 : decode cX9_there 47 = .ok (.iload_n 2, 1) := by decide +kernel
theorem dX9_there_48 : decode cX9_there 48 = .ok (.ireturn, 1) := by decide +kernel
theorem dX9_told_0 : decode cX9_told 0 = .ok (.iconst 0, 1) := by decide +kernel
theorem dX9_told_1 : decode cX9_told 1 = .ok (.istore_n 2, 1) := by decide +kernel
theorem dX9_told_2 : decode cX9_told 2 = .ok (.iconst 0, 1) := by decide +kernel
theorem dX9_told_3 : decode cX9_told 3 = .ok (.istore_n 3, 1) := by decide +kernel
theorem dX9_told_4 : decode cX9_told 4 = .ok (.iload_n 3, 1) := by decide +kernel
theorem dX9_told_5 : decode cX9_told 5 = .ok (.aload_n 0, 1) := by decide +kernel
theorem dX9_told_6 : decode cX9_told 6 = .ok (.getfield 180, 3) := by decide +kernel
theorem dX9_told_9 : decode cX9_told 9 = .ok (.if_icmp .ge 23, 3) := by decide +kernel
theorem dX9_told_12 : decode cX9_told 12 = .ok (.iload_n 2, 1) := by decide +kernel
theorem dX9_told_13 : decode cX9_told 13 = .ok (.aload_n 0, 1) := by decide +kernel
theorem dX9_told_14 : decode cX9_told 14 = .ok (.getfield 31, 3) := by decide +kernel
theorem dX9_told_17 : decode cX9_told 17 = .ok (.aload_n 0, 1) := by decide +kernel
theorem dX9_told_18 : decode cX9_told 18 = .ok (.getfield 34, 3) := by decide +kernel
theorem dX9_told_21 : decode cX9_told 21 = .ok (.iload_n 3, 1) := by decide +kernel
theorem dX9_told_22 : decode cX9_told 22 = .ok (.iaload, 1) := by decide +kernel
theorem dX9_told_23 : decode cX9_told 23 = .ok (.iaload, 1) := by decide +kernel
theorem dX9_told_24 : decode cX9_told 24 = .ok (.iadd, 1) := by decide +kernel
theorem dX9_told_25 : decode cX9_told 25 = .ok (.istore_n 2, 1) := by decide +kernel
theorem dX9_told_26 : decode cX9_told 26 = .ok (.iinc 3 1, 3) := by decide +kernel
theorem dX9_told_29 : decode cX9_told 29 = .ok (.goto (-25), 3) := by decide +kernel
theorem dX9_told_32 : decode cX9_told 32 = .ok (.iload_n 1, 1) := by decide +kernel
theorem dX9_told_33 : decode cX9_told 33 = .ok (.tableswitch 94 0 8 #[51, 56, 61, 66, 71, 76, 82, 87, 89], 51) := by decide +kernel
theorem dX9_told_84 : decode cX9_told 84 = .ok (.aload_n 0, 1) := by decide +kernel
theorem dX9_told_85 : decode cX9_told 85 = .ok (.getfield 183, 3) := by decide +kernel
theorem dX9_told_88 : decode cX9_told 88 = .ok (.ireturn, 1) := by decide +kernel
theorem dX9_told_89 : decode cX9_told 89 = .ok (.aload_n 0, 1) := by decide +kernel
theorem dX9_told_90 : decode cX9_told 90 = .ok (.getfield 180, 3) := by decide +kernel
theorem dX9_told_93 : decode cX9_told 93 = .ok (.ireturn, 1) := by decide +kernel
theorem dX9_told_94 : decode cX9_told 94 = .ok (.aload_n 0, 1) := by decide +kernel
theorem dX9_told_95 : decode cX9_told 95 = .ok (.getfield 186, 3) := by decide +kernel
theorem dX9_told_98 : decode cX9_told 98 = .ok (.ireturn, 1) := by decide +kernel
theorem dX9_told_99 : decode cX9_told 99 = .ok (.aload_n 0, 1) := by decide +kernel
theorem dX9_told_100 : decode cX9_told 100 = .ok (.getfield 189, 3) := by decide +kernel
theorem dX9_told_103 : decode cX9_told 103 = .ok (.ireturn, 1) := by decide +kernel
theorem dX9_told_104 : decode cX9_told 104 = .ok (.aload_n 0, 1) := by decide +kernel
theorem dX9_told_105 : decode cX9_told 105 = .ok (.getfield 97, 3) := by decide +kernel
theorem dX9_told_108 : decode cX9_told 108 = .ok (.ireturn, 1) := by decide +kernel
theorem dX9_told_109 : decode cX9_told 109 = .ok (.aload_n 0, 1) := by decide +kernel
theorem dX9_told_110 : decode cX9_told 110 = .ok (.iconst 0, 1) := by decide +kernel
theorem dX9_told_111 : decode cX9_told 111 = .ok (.invokevirtual 198, 3) := by decide +kernel
theorem dX9_told_114 : decode cX9_told 114 = .ok (.ireturn, 1) := by decide +kernel
theorem dX9_told_115 : decode cX9_told 115 = .ok (.aload_n 0, 1) := by decide +kernel
theorem dX9_told_116 : decode cX9_told 116 = .ok (.getfield 192, 3) := by decide +kernel
theorem dX9_told_119 : decode cX9_told 119 = .ok (.ireturn, 1) := by decide +kernel
theorem dX9_told_120 : decode cX9_told 120 = .ok (.iload_n 2, 1) := by decide +kernel
theorem dX9_told_121 : decode cX9_told 121 = .ok (.ireturn, 1) := by decide +kernel
theorem dX9_told_122 : decode cX9_told 122 = .ok (.aload_n 0, 1) := by decide +kernel
theorem dX9_told_123 : decode cX9_told 123 = .ok (.getfield 195, 3) := by decide +kernel
theorem dX9_told_126 : decode cX9_told 126 = .ok (.ireturn, 1) := by decide +kernel
theorem dX9_told_127 : decode cX9_told 127 = .ok (.ldc 96, 2) := by decide +kernel
theorem dX9_told_129 : decode cX9_told 129 = .ok (.ireturn, 1) := by decide +kernel
theorem dX9_seam_0 : decode cX9_seam 0 = .ok (.aload_n 0, 1) := by decide +kernel
theorem dX9_seam_1 : decode cX9_seam 1 = .ok (.iload_n 1, 1) := by decide +kernel
theorem dX9_seam_2 : decode cX9_seam 2 = .ok (.invokevirtual 202, 3) := by decide +kernel
theorem dX9_seam_5 : decode cX9_seam 5 = .ok (.ifCond .ne 6, 3) := by decide +kernel
theorem dX9_seam_8 : decode cX9_seam 8 = .ok (.ldc 205, 2) := by decide +kernel
theorem dX9_seam_10 : decode cX9_seam 10 = .ok (.ireturn, 1) := by decide +kernel
theorem dX9_seam_11 : decode cX9_seam 11 = .ok (.iload_n 2, 1) := by decide +kernel
theorem dX9_seam_12 : decode cX9_seam 12 = .ok (.i2l, 1) := by decide +kernel
theorem dX9_seam_13 : decode cX9_seam 13 = .ok (.lconst 0, 1) := by decide +kernel
theorem dX9_seam_14 : decode cX9_seam 14 = .ok (.ldc2_w 206, 3) := by decide +kernel
theorem dX9_seam_17 : decode cX9_seam 17 = .ok (.invokestatic 92, 3) := by decide +kernel
theorem dX9_seam_20 : decode cX9_seam 20 = .ok (.ifCond .ne 6, 3) := by decide +kernel
theorem dX9_seam_23 : decode cX9_seam 23 = .ok (.ldc 96, 2) := by decide +kernel
theorem dX9_seam_25 : decode cX9_seam 25 = .ok (.ireturn, 1) := by decide +kernel
theorem dX9_seam_26 : decode cX9_seam 26 = .ok (.iload_n 2, 1) := by decide +kernel
theorem dX9_seam_27 : decode cX9_seam 27 = .ok (.ifCond .ne 12, 3) := by decide +kernel
theorem dX9_seam_30 : decode cX9_seam 30 = .ok (.aload_n 0, 1) := by decide +kernel
theorem dX9_seam_31 : decode cX9_seam 31 = .ok (.getfield 40, 3) := by decide +kernel
theorem dX9_seam_34 : decode cX9_seam 34 = .ok (.iload_n 1, 1) := by decide +kernel
theorem dX9_seam_35 : decode cX9_seam 35 = .ok (.iaload, 1) := by decide +kernel
theorem dX9_seam_36 : decode cX9_seam 36 = .ok (.goto 54, 3) := by decide +kernel
theorem dX9_seam_39 : decode cX9_seam 39 = .ok (.iload_n 2, 1) := by decide +kernel
theorem dX9_seam_40 : decode cX9_seam 40 = .ok (.iconst 1, 1) := by decide +kernel
theorem dX9_seam_41 : decode cX9_seam 41 = .ok (.if_icmp .ne 27, 3) := by decide +kernel
theorem dX9_seam_44 : decode cX9_seam 44 = .ok (.aload_n 0, 1) := by decide +kernel
theorem dX9_seam_45 : decode cX9_seam 45 = .ok (.getfield 43, 3) := by decide +kernel
theorem dX9_seam_48 : decode cX9_seam 48 = .ok (.iload_n 1, 1) := by decide +kernel
theorem dX9_seam_49 : decode cX9_seam 49 = .ok (.iaload, 1) := by decide +kernel
theorem dX9_seam_50 : decode cX9_seam 50 = .ok (.bipush 8, 2) := by decide +kernel
theorem dX9_seam_52 : decode cX9_seam 52 = .ok (.if_icmp .ne 7, 3) := by decide +kernel
theorem dX9_seam_55 : decode cX9_seam 55 = .ok (.iconst (-1), 1) := by decide +kernel
theorem dX9_seam_56 : decode cX9_seam 56 = .ok (.goto 34, 3) := by decide +kernel
theorem dX9_seam_59 : decode cX9_seam 59 = .ok (.aload_n 0, 1) := by decide +kernel
theorem dX9_seam_60 : decode cX9_seam 60 = .ok (.getfield 43, 3) := by decide +kernel
theorem dX9_seam_63 : decode cX9_seam 63 = .ok (.iload_n 1, 1) := by decide +kernel
theorem dX9_seam_64 : decode cX9_seam 64 = .ok (.iaload, 1) := by decide +kernel
theorem dX9_seam_65 : decode cX9_seam 65 = .ok (.goto 25, 3) := by decide +kernel
theorem dX9_seam_68 : decode cX9_seam 68 = .ok (.iload_n 2, 1) := by decide +kernel
theorem dX9_seam_69 : decode cX9_seam 69 = .ok (.iconst 2, 1) := by decide +kernel
theorem dX9_seam_70 : decode cX9_seam 70 = .ok (.if_icmp .ne 12, 3) := by decide +kernel
theorem dX9_seam_73 : decode cX9_seam 73 = .ok (.aload_n 0, 1) := by decide +kernel
theorem dX9_seam_74 : decode cX9_seam 74 = .ok (.getfield 46, 3) := by decide +kernel
theorem dX9_seam_77 : decode cX9_seam 77 = .ok (.iload_n 1, 1) := by decide +kernel
theorem dX9_seam_78 : decode cX9_seam 78 = .ok (.iaload, 1) := by decide +kernel
theorem dX9_seam_79 : decode cX9_seam 79 = .ok (.goto 11, 3) := by decide +kernel
theorem dX9_seam_82 : decode cX9_seam 82 = .ok (.aload_n 0, 1) := by decide +kernel
theorem dX9_seam_83 : decode cX9_seam 83 = .ok (.getfield 192, 3) := by decide +kernel
theorem dX9_seam_86 : decode cX9_seam 86 = .ok (.iload_n 1, 1) := by decide +kernel
theorem dX9_seam_87 : decode cX9_seam 87 = .ok (.ishr, 1) := by decide +kernel
theorem dX9_seam_88 : decode cX9_seam 88 = .ok (.iconst 1, 1) := by decide +kernel
theorem dX9_seam_89 : decode cX9_seam 89 = .ok (.iand, 1) := by decide +kernel
theorem dX9_seam_90 : decode cX9_seam 90 = .ok (.ireturn, 1) := by decide +kernel
theorem dX9_isOn_0 : decode cX9_isOn 0 = .ok (.aload_n 0, 1) := by decide +kernel
theorem dX9_isOn_1 : decode cX9_isOn 1 = .ok (.getfield 40, 3) := by decide +kernel
theorem dX9_isOn_4 : decode cX9_isOn 4 = .ok (.iload_n 1, 1) := by decide +kernel
theorem dX9_isOn_5 : decode cX9_isOn 5 = .ok (.iaload, 1) := by decide +kernel
theorem dX9_isOn_6 : decode cX9_isOn 6 = .ok (.iload_n 2, 1) := by decide +kernel
theorem dX9_isOn_7 : decode cX9_isOn 7 = .ok (.if_icmp .eq 13, 3) := by decide +kernel
theorem dX9_isOn_10 : decode cX9_isOn 10 = .ok (.aload_n 0, 1) := by decide +kernel
theorem dX9_isOn_11 : decode cX9_isOn 11 = .ok (.getfield 43, 3) := by decide +kernel
theorem dX9_isOn_14 : decode cX9_isOn 14 = .ok (.iload_n 1, 1) := by decide +kernel
theorem dX9_isOn_15 : decode cX9_isOn 15 = .ok (.iaload, 1) := by decide +kernel
theorem dX9_isOn_16 : decode cX9_isOn 16 = .ok (.iload_n 2, 1) := by decide +kernel
theorem dX9_isOn_17 : decode cX9_isOn 17 = .ok (.if_icmp .ne 7, 3) := by decide +kernel
theorem dX9_isOn_20 : decode cX9_isOn 20 = .ok (.iconst 1, 1) := by decide +kernel
theorem dX9_isOn_21 : decode cX9_isOn 21 = .ok (.goto 4, 3) := by decide +kernel
theorem dX9_isOn_24 : decode cX9_isOn 24 = .ok (.iconst 0, 1) := by decide +kernel
theorem dX9_isOn_25 : decode cX9_isOn 25 = .ok (.ireturn, 1) := by decide +kernel
theorem dX9_borders_0 : decode cX9_borders 0 = .ok (.iconst 0, 1) := by decide +kernel
theorem dX9_borders_1 : decode cX9_borders 1 = .ok (.istore_n 3, 1) := by decide +kernel
theorem dX9_borders_2 : decode cX9_borders 2 = .ok (.iconst 0, 1) := by decide +kernel
theorem dX9_borders_3 : decode cX9_borders 3 = .ok (.istore 4, 2) := by decide +kernel
theorem dX9_borders_5 : decode cX9_borders 5 = .ok (.iload 4, 2) := by decide +kernel
theorem dX9_borders_7 : decode cX9_borders 7 = .ok (.aload_n 0, 1) := by decide +kernel
theorem dX9_borders_8 : decode cX9_borders 8 = .ok (.getfield 186, 3) := by decide +kernel
theorem dX9_borders_11 : decode cX9_borders 11 = .ok (.if_icmp .ge 79, 3) := by decide +kernel
theorem dX9_borders_14 : decode cX9_borders 14 = .ok (.iload_n 2, 1) := by decide +kernel
theorem dX9_borders_15 : decode cX9_borders 15 = .ok (.iload 4, 2) := by decide +kernel
theorem dX9_borders_17 : decode cX9_borders 17 = .ok (.ishr, 1) := by decide +kernel
theorem dX9_borders_18 : decode cX9_borders 18 = .ok (.iconst 1, 1) := by decide +kernel
theorem dX9_borders_19 : decode cX9_borders 19 = .ok (.iand, 1) := by decide +kernel
theorem dX9_borders_20 : decode cX9_borders 20 = .ok (.iconst 1, 1) := by decide +kernel
theorem dX9_borders_21 : decode cX9_borders 21 = .ok (.if_icmp .ne 29, 3) := by decide +kernel
theorem dX9_borders_24 : decode cX9_borders 24 = .ok (.aload_n 0, 1) := by decide +kernel
theorem dX9_borders_25 : decode cX9_borders 25 = .ok (.iload 4, 2) := by decide +kernel
theorem dX9_borders_27 : decode cX9_borders 27 = .ok (.iload_n 1, 1) := by decide +kernel
theorem dX9_borders_28 : decode cX9_borders 28 = .ok (.invokevirtual 208, 3) := by decide +kernel
theorem dX9_borders_31 : decode cX9_borders 31 = .ok (.ifCond .eq 19, 3) := by decide +kernel
theorem dX9_borders_34 : decode cX9_borders 34 = .ok (.aload_n 0, 1) := by decide +kernel
theorem dX9_borders_35 : decode cX9_borders 35 = .ok (.getfield 43, 3) := by decide +kernel
theorem dX9_borders_38 : decode cX9_borders 38 = .ok (.iload 4, 2) := by decide +kernel
theorem dX9_borders_40 : decode cX9_borders 40 = .ok (.iaload, 1) := by decide +kernel
theorem dX9_borders_41 : decode cX9_borders 41 = .ok (.bipush 8, 2) := by decide +kernel
theorem dX9_borders_43 : decode cX9_borders 43 = .ok (.if_icmp .eq 7, 3) := by decide +kernel
theorem dX9_borders_46 : decode cX9_borders 46 = .ok (.iconst 1, 1) := by decide +kernel
theorem dX9_borders_47 : decode cX9_borders 47 = .ok (.goto 4, 3) := by decide +kernel
theorem dX9_borders_50 : decode cX9_borders 50 = .ok (.iconst 0, 1) := by decide +kernel
theorem dX9_borders_51 : decode cX9_borders 51 = .ok (.istore 5, 2) := by decide +kernel
theorem dX9_borders_53 : decode cX9_borders 53 = .ok (.iload_n 3, 1) := by decide +kernel
theorem dX9_borders_54 : decode cX9_borders 54 = .ok (.iload 5, 2) := by decide +kernel
theorem dX9_borders_56 : decode cX9_borders 56 = .ok (.ifCond .eq 25, 3) := by decide +kernel
theorem dX9_borders_59 : decode cX9_borders 59 = .ok (.iconst 1, 1) := by decide +kernel
theorem dX9_borders_60 : decode cX9_borders 60 = .ok (.aload_n 0, 1) := by decide +kernel
theorem dX9_borders_61 : decode cX9_borders 61 = .ok (.getfield 40, 3) := by decide +kernel
theorem dX9_borders_64 : decode cX9_borders 64 = .ok (.iload 4, 2) := by decide +kernel
theorem dX9_borders_66 : decode cX9_borders 66 = .ok (.iaload, 1) := by decide +kernel
theorem dX9_borders_67 : decode cX9_borders 67 = .ok (.aload_n 0, 1) := by decide +kernel
theorem dX9_borders_68 : decode cX9_borders 68 = .ok (.getfield 43, 3) := by decide +kernel
theorem dX9_borders_71 : decode cX9_borders 71 = .ok (.iload 4, 2) := by decide +kernel
theorem dX9_borders_73 : decode cX9_borders 73 = .ok (.iaload, 1) := by decide +kernel
theorem dX9_borders_74 : decode cX9_borders 74 = .ok (.iadd, 1) := by decide +kernel
theorem dX9_borders_75 : decode cX9_borders 75 = .ok (.iload_n 1, 1) := by decide +kernel
theorem dX9_borders_76 : decode cX9_borders 76 = .ok (.isub, 1) := by decide +kernel
theorem dX9_borders_77 : decode cX9_borders 77 = .ok (.ishl, 1) := by decide +kernel
theorem dX9_borders_78 : decode cX9_borders 78 = .ok (.goto 4, 3) := by decide +kernel
theorem dX9_borders_81 : decode cX9_borders 81 = .ok (.iconst 0, 1) := by decide +kernel
theorem dX9_borders_82 : decode cX9_borders 82 = .ok (.ior, 1) := by decide +kernel
theorem dX9_borders_83 : decode cX9_borders 83 = .ok (.istore_n 3, 1) := by decide +kernel
theorem dX9_borders_84 : decode cX9_borders 84 = .ok (.iinc 4 1, 3) := by decide +kernel
theorem dX9_borders_87 : decode cX9_borders 87 = .ok (.goto (-82), 3) := by decide +kernel
theorem dX9_borders_90 : decode cX9_borders 90 = .ok (.iload_n 3, 1) := by decide +kernel
theorem dX9_borders_91 : decode cX9_borders 91 = .ok (.ireturn, 1) := by decide +kernel
theorem dX9_seamsOf_0 : decode cX9_seamsOf 0 = .ok (.iconst 0, 1) := by decide +kernel
theorem dX9_seamsOf_1 : decode cX9_seamsOf 1 = .ok (.istore_n 3, 1) := by decide +kernel
theorem dX9_seamsOf_2 : decode cX9_seamsOf 2 = .ok (.iconst 0, 1) := by decide +kernel
theorem dX9_seamsOf_3 : decode cX9_seamsOf 3 = .ok (.istore 4, 2) := by decide +kernel
theorem dX9_seamsOf_5 : decode cX9_seamsOf 5 = .ok (.iload 4, 2) := by decide +kernel
theorem dX9_seamsOf_7 : decode cX9_seamsOf 7 = .ok (.aload_n 0, 1) := by decide +kernel
theorem dX9_seamsOf_8 : decode cX9_seamsOf 8 = .ok (.getfield 186, 3) := by decide +kernel
theorem dX9_seamsOf_11 : decode cX9_seamsOf 11 = .ok (.if_icmp .ge 40, 3) := by decide +kernel
theorem dX9_seamsOf_14 : decode cX9_seamsOf 14 = .ok (.iload_n 3, 1) := by decide +kernel
theorem dX9_seamsOf_15 : decode cX9_seamsOf 15 = .ok (.iload_n 2, 1) := by decide +kernel
theorem dX9_seamsOf_16 : decode cX9_seamsOf 16 = .ok (.iload 4, 2) := by decide +kernel
theorem dX9_seamsOf_18 : decode cX9_seamsOf 18 = .ok (.ishr, 1) := by decide +kernel
theorem dX9_seamsOf_19 : decode cX9_seamsOf 19 = .ok (.iconst 1, 1) := by decide +kernel
theorem dX9_seamsOf_20 : decode cX9_seamsOf 20 = .ok (.iand, 1) := by decide +kernel
theorem dX9_seamsOf_21 : decode cX9_seamsOf 21 = .ok (.iconst 1, 1) := by decide +kernel
theorem dX9_seamsOf_22 : decode cX9_seamsOf 22 = .ok (.if_icmp .ne 20, 3) := by decide +kernel
theorem dX9_seamsOf_25 : decode cX9_seamsOf 25 = .ok (.aload_n 0, 1) := by decide +kernel
theorem dX9_seamsOf_26 : decode cX9_seamsOf 26 = .ok (.iload 4, 2) := by decide +kernel
theorem dX9_seamsOf_28 : decode cX9_seamsOf 28 = .ok (.iload_n 1, 1) := by decide +kernel
theorem dX9_seamsOf_29 : decode cX9_seamsOf 29 = .ok (.invokevirtual 208, 3) := by decide +kernel
theorem dX9_seamsOf_32 : decode cX9_seamsOf 32 = .ok (.ifCond .eq 10, 3) := by decide +kernel
theorem dX9_seamsOf_35 : decode cX9_seamsOf 35 = .ok (.iconst 1, 1) := by decide +kernel
theorem dX9_seamsOf_36 : decode cX9_seamsOf 36 = .ok (.iload 4, 2) := by decide +kernel
theorem dX9_seamsOf_38 : decode cX9_seamsOf 38 = .ok (.ishl, 1) := by decide +kernel
theorem dX9_seamsOf_39 : decode cX9_seamsOf 39 = .ok (.goto 4, 3) := by decide +kernel
theorem dX9_seamsOf_42 : decode cX9_seamsOf 42 = .ok (.iconst 0, 1) := by decide +kernel
theorem dX9_seamsOf_43 : decode cX9_seamsOf 43 = .ok (.ior, 1) := by decide +kernel
theorem dX9_seamsOf_44 : decode cX9_seamsOf 44 = .ok (.istore_n 3, 1) := by decide +kernel
theorem dX9_seamsOf_45 : decode cX9_seamsOf 45 = .ok (.iinc 4 1, 3) := by decide +kernel
theorem dX9_seamsOf_48 : decode cX9_seamsOf 48 = .ok (.goto (-43), 3) := by decide +kernel
theorem dX9_seamsOf_51 : decode cX9_seamsOf 51 = .ok (.iload_n 3, 1) := by decide +kernel
theorem dX9_seamsOf_52 : decode cX9_seamsOf 52 = .ok (.ireturn, 1) := by decide +kernel
theorem dX9_strip_0 : decode cX9_strip 0 = .ok (.aload_n 0, 1) := by decide +kernel
theorem dX9_strip_1 : decode cX9_strip 1 = .ok (.iload_n 1, 1) := by decide +kernel
theorem dX9_strip_2 : decode cX9_strip 2 = .ok (.invokevirtual 212, 3) := by decide +kernel
theorem dX9_strip_5 : decode cX9_strip 5 = .ok (.ifCond .ne 6, 3) := by decide +kernel
theorem dX9_strip_8 : decode cX9_strip 8 = .ok (.ldc 205, 2) := by decide +kernel
theorem dX9_strip_10 : decode cX9_strip 10 = .ok (.ireturn, 1) := by decide +kernel
theorem dX9_strip_11 : decode cX9_strip 11 = .ok (.iload_n 2, 1) := by decide +kernel
theorem dX9_strip_12 : decode cX9_strip 12 = .ok (.tableswitch 68 0 3 #[32, 39, 50, 61], 32) := by decide +kernel
theorem dX9_strip_44 : decode cX9_strip 44 = .ok (.aload_n 0, 1) := by decide +kernel
theorem dX9_strip_45 : decode cX9_strip 45 = .ok (.getfield 34, 3) := by decide +kernel
theorem dX9_strip_48 : decode cX9_strip 48 = .ok (.iload_n 1, 1) := by decide +kernel
theorem dX9_strip_49 : decode cX9_strip 49 = .ok (.iaload, 1) := by decide +kernel
theorem dX9_strip_50 : decode cX9_strip 50 = .ok (.ireturn, 1) := by decide +kernel
theorem dX9_strip_51 : decode cX9_strip 51 = .ok (.aload_n 0, 1) := by decide +kernel
theorem dX9_strip_52 : decode cX9_strip 52 = .ok (.iload_n 1, 1) := by decide +kernel
theorem dX9_strip_53 : decode cX9_strip 53 = .ok (.aload_n 0, 1) := by decide +kernel
theorem dX9_strip_54 : decode cX9_strip 54 = .ok (.iconst 0, 1) := by decide +kernel
theorem dX9_strip_55 : decode cX9_strip 55 = .ok (.invokevirtual 198, 3) := by decide +kernel
theorem dX9_strip_58 : decode cX9_strip 58 = .ok (.invokevirtual 215, 3) := by decide +kernel
theorem dX9_strip_61 : decode cX9_strip 61 = .ok (.ireturn, 1) := by decide +kernel
theorem dX9_strip_62 : decode cX9_strip 62 = .ok (.aload_n 0, 1) := by decide +kernel
theorem dX9_strip_63 : decode cX9_strip 63 = .ok (.iload_n 1, 1) := by decide +kernel
theorem dX9_strip_64 : decode cX9_strip 64 = .ok (.aload_n 0, 1) := by decide +kernel
theorem dX9_strip_65 : decode cX9_strip 65 = .ok (.iconst 0, 1) := by decide +kernel
theorem dX9_strip_66 : decode cX9_strip 66 = .ok (.invokevirtual 198, 3) := by decide +kernel
theorem dX9_strip_69 : decode cX9_strip 69 = .ok (.invokevirtual 218, 3) := by decide +kernel
theorem dX9_strip_72 : decode cX9_strip 72 = .ok (.ireturn, 1) := by decide +kernel
theorem dX9_strip_73 : decode cX9_strip 73 = .ok (.aload_n 0, 1) := by decide +kernel
theorem dX9_strip_74 : decode cX9_strip 74 = .ok (.getfield 37, 3) := by decide +kernel
theorem dX9_strip_77 : decode cX9_strip 77 = .ok (.iload_n 1, 1) := by decide +kernel
theorem dX9_strip_78 : decode cX9_strip 78 = .ok (.iaload, 1) := by decide +kernel
theorem dX9_strip_79 : decode cX9_strip 79 = .ok (.ireturn, 1) := by decide +kernel
theorem dX9_strip_80 : decode cX9_strip 80 = .ok (.ldc 96, 2) := by decide +kernel
theorem dX9_strip_82 : decode cX9_strip 82 = .ok (.ireturn, 1) := by decide +kernel
theorem dX9_flying_0 : decode cX9_flying 0 = .ok (.sipush 256, 3) := by decide +kernel
theorem dX9_flying_3 : decode cX9_flying 3 = .ok (.istore_n 2, 1) := by decide +kernel
theorem dX9_flying_4 : decode cX9_flying 4 = .ok (.iconst 0, 1) := by decide +kernel
theorem dX9_flying_5 : decode cX9_flying 5 = .ok (.istore_n 3, 1) := by decide +kernel
theorem dX9_flying_6 : decode cX9_flying 6 = .ok (.iload_n 2, 1) := by decide +kernel
theorem dX9_flying_7 : decode cX9_flying 7 = .ok (.iload_n 3, 1) := by decide +kernel
theorem dX9_flying_8 : decode cX9_flying 8 = .ok (.if_icmp .eq 97, 3) := by decide +kernel
theorem dX9_flying_11 : decode cX9_flying 11 = .ok (.iload_n 2, 1) := by decide +kernel
theorem dX9_flying_12 : decode cX9_flying 12 = .ok (.istore_n 3, 1) := by decide +kernel
theorem dX9_flying_13 : decode cX9_flying 13 = .ok (.iconst 0, 1) := by decide +kernel
theorem dX9_flying_14 : decode cX9_flying 14 = .ok (.istore 4, 2) := by decide +kernel
theorem dX9_flying_16 : decode cX9_flying 16 = .ok (.iload 4, 2) := by decide +kernel
theorem dX9_flying_18 : decode cX9_flying 18 = .ok (.bipush 20, 2) := by decide +kernel
theorem dX9_flying_20 : decode cX9_flying 20 = .ok (.if_icmp .ge 82, 3) := by decide +kernel
theorem dX9_flying_23 : decode cX9_flying 23 = .ok (.iload_n 1, 1) := by decide +kernel
theorem dX9_flying_24 : decode cX9_flying 24 = .ok (.iload 4, 2) := by decide +kernel
theorem dX9_flying_26 : decode cX9_flying 26 = .ok (.ishr, 1) := by decide +kernel
theorem dX9_flying_27 : decode cX9_flying 27 = .ok (.iconst 1, 1) := by decide +kernel
theorem dX9_flying_28 : decode cX9_flying 28 = .ok (.iand, 1) := by decide +kernel
theorem dX9_flying_29 : decode cX9_flying 29 = .ok (.iconst 1, 1) := by decide +kernel
theorem dX9_flying_30 : decode cX9_flying 30 = .ok (.if_icmp .ne 32, 3) := by decide +kernel
theorem dX9_flying_33 : decode cX9_flying 33 = .ok (.iload_n 2, 1) := by decide +kernel
theorem dX9_flying_34 : decode cX9_flying 34 = .ok (.aload_n 0, 1) := by decide +kernel
theorem dX9_flying_35 : decode cX9_flying 35 = .ok (.getfield 40, 3) := by decide +kernel
theorem dX9_flying_38 : decode cX9_flying 38 = .ok (.iload 4, 2) := by decide +kernel
theorem dX9_flying_40 : decode cX9_flying 40 = .ok (.iaload, 1) := by decide +kernel
theorem dX9_flying_41 : decode cX9_flying 41 = .ok (.ishr, 1) := by decide +kernel
theorem dX9_flying_42 : decode cX9_flying 42 = .ok (.iload_n 2, 1) := by decide +kernel
theorem dX9_flying_43 : decode cX9_flying 43 = .ok (.aload_n 0, 1) := by decide +kernel
theorem dX9_flying_44 : decode cX9_flying 44 = .ok (.getfield 43, 3) := by decide +kernel
theorem dX9_flying_47 : decode cX9_flying 47 = .ok (.iload 4, 2) := by decide +kernel
theorem dX9_flying_49 : decode cX9_flying 49 = .ok (.iaload, 1) := by decide +kernel
theorem dX9_flying_50 : decode cX9_flying 50 = .ok (.ishr, 1) := by decide +kernel
theorem dX9_flying_51 : decode cX9_flying 51 = .ok (.ior, 1) := by decide +kernel
theorem dX9_flying_52 : decode cX9_flying 52 = .ok (.iconst 1, 1) := by decide +kernel
theorem dX9_flying_53 : decode cX9_flying 53 = .ok (.iand, 1) := by decide +kernel
theorem dX9_flying_54 : decode cX9_flying 54 = .ok (.iconst 1, 1) := by decide +kernel
theorem dX9_flying_55 : decode cX9_flying 55 = .ok (.if_icmp .ne 7, 3) := by decide +kernel
theorem dX9_flying_58 : decode cX9_flying 58 = .ok (.iconst 1, 1) := by decide +kernel
theorem dX9_flying_59 : decode cX9_flying 59 = .ok (.goto 4, 3) := by decide +kernel
theorem dX9_flying_62 : decode cX9_flying 62 = .ok (.iconst 0, 1) := by decide +kernel
theorem dX9_flying_63 : decode cX9_flying 63 = .ok (.istore 5, 2) := by decide +kernel
theorem dX9_flying_65 : decode cX9_flying 65 = .ok (.iload_n 2, 1) := by decide +kernel
theorem dX9_flying_66 : decode cX9_flying 66 = .ok (.iload 5, 2) := by decide +kernel
theorem dX9_flying_68 : decode cX9_flying 68 = .ok (.ifCond .eq 25, 3) := by decide +kernel
theorem dX9_flying_71 : decode cX9_flying 71 = .ok (.iconst 1, 1) := by decide +kernel
theorem dX9_flying_72 : decode cX9_flying 72 = .ok (.aload_n 0, 1) := by decide +kernel
theorem dX9_flying_73 : decode cX9_flying 73 = .ok (.getfield 40, 3) := by decide +kernel
theorem dX9_flying_76 : decode cX9_flying 76 = .ok (.iload 4, 2) := by decide +kernel
theorem dX9_flying_78 : decode cX9_flying 78 = .ok (.iaload, 1) := by decide +kernel
theorem dX9_flying_79 : decode cX9_flying 79 = .ok (.ishl, 1) := by decide +kernel
theorem dX9_flying_80 : decode cX9_flying 80 = .ok (.iconst 1, 1) := by decide +kernel
theorem dX9_flying_81 : decode cX9_flying 81 = .ok (.aload_n 0, 1) := by decide +kernel
theorem dX9_flying_82 : decode cX9_flying 82 = .ok (.getfield 43, 3) := by decide +kernel
theorem dX9_flying_85 : decode cX9_flying 85 = .ok (.iload 4, 2) := by decide +kernel
theorem dX9_flying_87 : decode cX9_flying 87 = .ok (.iaload, 1) := by decide +kernel
theorem dX9_flying_88 : decode cX9_flying 88 = .ok (.ishl, 1) := by decide +kernel
theorem dX9_flying_89 : decode cX9_flying 89 = .ok (.ior, 1) := by decide +kernel
theorem dX9_flying_90 : decode cX9_flying 90 = .ok (.goto 4, 3) := by decide +kernel
theorem dX9_flying_93 : decode cX9_flying 93 = .ok (.iconst 0, 1) := by decide +kernel
theorem dX9_flying_94 : decode cX9_flying 94 = .ok (.ior, 1) := by decide +kernel
theorem dX9_flying_95 : decode cX9_flying 95 = .ok (.istore_n 2, 1) := by decide +kernel
theorem dX9_flying_96 : decode cX9_flying 96 = .ok (.iinc 4 1, 3) := by decide +kernel
theorem dX9_flying_99 : decode cX9_flying 99 = .ok (.goto (-83), 3) := by decide +kernel
theorem dX9_flying_102 : decode cX9_flying 102 = .ok (.goto (-96), 3) := by decide +kernel
theorem dX9_flying_105 : decode cX9_flying 105 = .ok (.iload_n 2, 1) := by decide +kernel
theorem dX9_flying_106 : decode cX9_flying 106 = .ok (.sipush 255, 3) := by decide +kernel
theorem dX9_flying_109 : decode cX9_flying 109 = .ok (.iand, 1) := by decide +kernel
theorem dX9_flying_110 : decode cX9_flying 110 = .ok (.ireturn, 1) := by decide +kernel
theorem dX9_flies_0 : decode cX9_flies 0 = .ok (.iload_n 1, 1) := by decide +kernel
theorem dX9_flies_1 : decode cX9_flies 1 = .ok (.i2l, 1) := by decide +kernel
theorem dX9_flies_2 : decode cX9_flies 2 = .ok (.lconst 0, 1) := by decide +kernel
theorem dX9_flies_3 : decode cX9_flies 3 = .ok (.ldc2_w 221, 3) := by decide +kernel
theorem dX9_flies_6 : decode cX9_flies 6 = .ok (.invokestatic 92, 3) := by decide +kernel
theorem dX9_flies_9 : decode cX9_flies 9 = .ok (.ifCond .eq 15, 3) := by decide +kernel
theorem dX9_flies_12 : decode cX9_flies 12 = .ok (.aload_n 0, 1) := by decide +kernel
theorem dX9_flies_13 : decode cX9_flies 13 = .ok (.aload_n 0, 1) := by decide +kernel
theorem dX9_flies_14 : decode cX9_flies 14 = .ok (.iload_n 1, 1) := by decide +kernel
theorem dX9_flies_15 : decode cX9_flies 15 = .ok (.invokevirtual 198, 3) := by decide +kernel
theorem dX9_flies_18 : decode cX9_flies 18 = .ok (.invokevirtual 223, 3) := by decide +kernel
theorem dX9_flies_21 : decode cX9_flies 21 = .ok (.goto 5, 3) := by decide +kernel
theorem dX9_flies_24 : decode cX9_flies 24 = .ok (.ldc 96, 2) := by decide +kernel
theorem dX9_flies_26 : decode cX9_flies 26 = .ok (.ireturn, 1) := by decide +kernel
theorem dX9_mayUnpick_0 : decode cX9_mayUnpick 0 = .ok (.iload_n 3, 1) := by decide +kernel
theorem dX9_mayUnpick_1 : decode cX9_mayUnpick 1 = .ok (.iload_n 2, 1) := by decide +kernel
theorem dX9_mayUnpick_2 : decode cX9_mayUnpick 2 = .ok (.ishr, 1) := by decide +kernel
theorem dX9_mayUnpick_3 : decode cX9_mayUnpick 3 = .ok (.iconst 1, 1) := by decide +kernel
theorem dX9_mayUnpick_4 : decode cX9_mayUnpick 4 = .ok (.iand, 1) := by decide +kernel
theorem dX9_mayUnpick_5 : decode cX9_mayUnpick 5 = .ok (.iconst 1, 1) := by decide +kernel
theorem dX9_mayUnpick_6 : decode cX9_mayUnpick 6 = .ok (.if_icmp .ne 25, 3) := by decide +kernel
theorem dX9_mayUnpick_9 : decode cX9_mayUnpick 9 = .ok (.iload 4, 2) := by decide +kernel
theorem dX9_mayUnpick_11 : decode cX9_mayUnpick 11 = .ok (.iload_n 2, 1) := by decide +kernel
theorem dX9_mayUnpick_12 : decode cX9_mayUnpick 12 = .ok (.ishr, 1) := by decide +kernel
theorem dX9_mayUnpick_13 : decode cX9_mayUnpick 13 = .ok (.iconst 1, 1) := by decide +kernel
theorem dX9_mayUnpick_14 : decode cX9_mayUnpick 14 = .ok (.iand, 1) := by decide +kernel
theorem dX9_mayUnpick_15 : decode cX9_mayUnpick 15 = .ok (.ifCond .ne 16, 3) := by decide +kernel
theorem dX9_mayUnpick_18 : decode cX9_mayUnpick 18 = .ok (.aload_n 0, 1) := by decide +kernel
theorem dX9_mayUnpick_19 : decode cX9_mayUnpick 19 = .ok (.iload_n 2, 1) := by decide +kernel
theorem dX9_mayUnpick_20 : decode cX9_mayUnpick 20 = .ok (.iload_n 1, 1) := by decide +kernel
theorem dX9_mayUnpick_21 : decode cX9_mayUnpick 21 = .ok (.invokevirtual 208, 3) := by decide +kernel
theorem dX9_mayUnpick_24 : decode cX9_mayUnpick 24 = .ok (.ifCond .ne 7, 3) := by decide +kernel
theorem dX9_mayUnpick_27 : decode cX9_mayUnpick 27 = .ok (.iconst 1, 1) := by decide +kernel
theorem dX9_mayUnpick_28 : decode cX9_mayUnpick 28 = .ok (.goto 4, 3) := by decide +kernel
theorem dX9_mayUnpick_31 : decode cX9_mayUnpick 31 = .ok (.iconst 0, 1) := by decide +kernel
theorem dX9_mayUnpick_32 : decode cX9_mayUnpick 32 = .ok (.istore 5, 2) := by decide +kernel
theorem dX9_mayUnpick_34 : decode cX9_mayUnpick 34 = .ok (.aload_n 0, 1) := by decide +kernel
theorem dX9_mayUnpick_35 : decode cX9_mayUnpick 35 = .ok (.iload_n 1, 1) := by decide +kernel
theorem dX9_mayUnpick_36 : decode cX9_mayUnpick 36 = .ok (.iload_n 3, 1) := by decide +kernel
theorem dX9_mayUnpick_37 : decode cX9_mayUnpick 37 = .ok (.invokevirtual 218, 3) := by decide +kernel
theorem dX9_mayUnpick_40 : decode cX9_mayUnpick 40 = .ok (.istore 6, 2) := by decide +kernel
theorem dX9_mayUnpick_42 : decode cX9_mayUnpick 42 = .ok (.iload 5, 2) := by decide +kernel
theorem dX9_mayUnpick_44 : decode cX9_mayUnpick 44 = .ok (.ifCond .eq 48, 3) := by decide +kernel
theorem dX9_mayUnpick_47 : decode cX9_mayUnpick 47 = .ok (.iload 6, 2) := by decide +kernel
theorem dX9_mayUnpick_49 : decode cX9_mayUnpick 49 = .ok (.aload_n 0, 1) := by decide +kernel
theorem dX9_mayUnpick_50 : decode cX9_mayUnpick 50 = .ok (.getfield 40, 3) := by decide +kernel
theorem dX9_mayUnpick_53 : decode cX9_mayUnpick 53 = .ok (.iload_n 2, 1) := by decide +kernel
theorem dX9_mayUnpick_54 : decode cX9_mayUnpick 54 = .ok (.iaload, 1) := by decide +kernel
theorem dX9_mayUnpick_55 : decode cX9_mayUnpick 55 = .ok (.ishr, 1) := by decide +kernel
theorem dX9_mayUnpick_56 : decode cX9_mayUnpick 56 = .ok (.iconst 1, 1) := by decide +kernel
theorem dX9_mayUnpick_57 : decode cX9_mayUnpick 57 = .ok (.iand, 1) := by decide +kernel
theorem dX9_mayUnpick_58 : decode cX9_mayUnpick 58 = .ok (.iconst 1, 1) := by decide +kernel
theorem dX9_mayUnpick_59 : decode cX9_mayUnpick 59 = .ok (.if_icmp .eq 29, 3) := by decide +kernel
theorem dX9_mayUnpick_62 : decode cX9_mayUnpick 62 = .ok (.aload_n 0, 1) := by decide +kernel
theorem dX9_mayUnpick_63 : decode cX9_mayUnpick 63 = .ok (.getfield 43, 3) := by decide +kernel
theorem dX9_mayUnpick_66 : decode cX9_mayUnpick 66 = .ok (.iload_n 2, 1) := by decide +kernel
theorem dX9_mayUnpick_67 : decode cX9_mayUnpick 67 = .ok (.iaload, 1) := by decide +kernel
theorem dX9_mayUnpick_68 : decode cX9_mayUnpick 68 = .ok (.bipush 8, 2) := by decide +kernel
theorem dX9_mayUnpick_70 : decode cX9_mayUnpick 70 = .ok (.if_icmp .eq 22, 3) := by decide +kernel
theorem dX9_mayUnpick_73 : decode cX9_mayUnpick 73 = .ok (.iload 6, 2) := by decide +kernel
theorem dX9_mayUnpick_75 : decode cX9_mayUnpick 75 = .ok (.aload_n 0, 1) := by decide +kernel
theorem dX9_mayUnpick_76 : decode cX9_mayUnpick 76 = .ok (.getfield 43, 3) := by decide +kernel
theorem dX9_mayUnpick_79 : decode cX9_mayUnpick 79 = .ok (.iload_n 2, 1) := by decide +kernel
theorem dX9_mayUnpick_80 : decode cX9_mayUnpick 80 = .ok (.iaload, 1) := by decide +kernel
theorem dX9_mayUnpick_81 : decode cX9_mayUnpick 81 = .ok (.ishr, 1) := by decide +kernel
theorem dX9_mayUnpick_82 : decode cX9_mayUnpick 82 = .ok (.iconst 1, 1) := by decide +kernel
theorem dX9_mayUnpick_83 : decode cX9_mayUnpick 83 = .ok (.iand, 1) := by decide +kernel
theorem dX9_mayUnpick_84 : decode cX9_mayUnpick 84 = .ok (.iconst 1, 1) := by decide +kernel
theorem dX9_mayUnpick_85 : decode cX9_mayUnpick 85 = .ok (.if_icmp .ne 7, 3) := by decide +kernel
theorem dX9_mayUnpick_88 : decode cX9_mayUnpick 88 = .ok (.iconst 1, 1) := by decide +kernel
theorem dX9_mayUnpick_89 : decode cX9_mayUnpick 89 = .ok (.goto 4, 3) := by decide +kernel
theorem dX9_mayUnpick_92 : decode cX9_mayUnpick 92 = .ok (.iconst 0, 1) := by decide +kernel
theorem dX9_mayUnpick_93 : decode cX9_mayUnpick 93 = .ok (.ireturn, 1) := by decide +kernel
theorem dX9_unpick_0 : decode cX9_unpick 0 = .ok (.aload_n 0, 1) := by decide +kernel
theorem dX9_unpick_1 : decode cX9_unpick 1 = .ok (.iload_n 1, 1) := by decide +kernel
theorem dX9_unpick_2 : decode cX9_unpick 2 = .ok (.invokevirtual 212, 3) := by decide +kernel
theorem dX9_unpick_5 : decode cX9_unpick 5 = .ok (.ifCond .eq 11, 3) := by decide +kernel
theorem dX9_unpick_8 : decode cX9_unpick 8 = .ok (.aload_n 0, 1) := by decide +kernel
theorem dX9_unpick_9 : decode cX9_unpick 9 = .ok (.iload_n 2, 1) := by decide +kernel
theorem dX9_unpick_10 : decode cX9_unpick 10 = .ok (.invokevirtual 202, 3) := by decide +kernel
theorem dX9_unpick_13 : decode cX9_unpick 13 = .ok (.ifCond .ne 6, 3) := by decide +kernel
theorem dX9_unpick_16 : decode cX9_unpick 16 = .ok (.ldc 205, 2) := by decide +kernel
theorem dX9_unpick_18 : decode cX9_unpick 18 = .ok (.ireturn, 1) := by decide +kernel
theorem dX9_unpick_19 : decode cX9_unpick 19 = .ok (.aload_n 0, 1) := by decide +kernel
theorem dX9_unpick_20 : decode cX9_unpick 20 = .ok (.iload_n 1, 1) := by decide +kernel
theorem dX9_unpick_21 : decode cX9_unpick 21 = .ok (.iload_n 2, 1) := by decide +kernel
theorem dX9_unpick_22 : decode cX9_unpick 22 = .ok (.aload_n 0, 1) := by decide +kernel
theorem dX9_unpick_23 : decode cX9_unpick 23 = .ok (.iconst 0, 1) := by decide +kernel
theorem dX9_unpick_24 : decode cX9_unpick 24 = .ok (.invokevirtual 198, 3) := by decide +kernel
theorem dX9_unpick_27 : decode cX9_unpick 27 = .ok (.aload_n 0, 1) := by decide +kernel
theorem dX9_unpick_28 : decode cX9_unpick 28 = .ok (.getfield 192, 3) := by decide +kernel
theorem dX9_unpick_31 : decode cX9_unpick 31 = .ok (.invokevirtual 226, 3) := by decide +kernel
theorem dX9_unpick_34 : decode cX9_unpick 34 = .ok (.ifCond .ne 6, 3) := by decide +kernel
theorem dX9_unpick_37 : decode cX9_unpick 37 = .ok (.ldc 230, 2) := by decide +kernel
theorem dX9_unpick_39 : decode cX9_unpick 39 = .ok (.ireturn, 1) := by decide +kernel
theorem dX9_unpick_40 : decode cX9_unpick 40 = .ok (.aload_n 0, 1) := by decide +kernel
theorem dX9_unpick_41 : decode cX9_unpick 41 = .ok (.getfield 46, 3) := by decide +kernel
theorem dX9_unpick_44 : decode cX9_unpick 44 = .ok (.iload_n 2, 1) := by decide +kernel
theorem dX9_unpick_45 : decode cX9_unpick 45 = .ok (.iconst 0, 1) := by decide +kernel
theorem dX9_unpick_46 : decode cX9_unpick 46 = .ok (.iastore, 1) := by decide +kernel
theorem dX9_unpick_47 : decode cX9_unpick 47 = .ok (.aload_n 0, 1) := by decide +kernel
theorem dX9_unpick_48 : decode cX9_unpick 48 = .ok (.iconst 0, 1) := by decide +kernel
theorem dX9_unpick_49 : decode cX9_unpick 49 = .ok (.invokevirtual 198, 3) := by decide +kernel
theorem dX9_unpick_52 : decode cX9_unpick 52 = .ok (.invokestatic 231, 3) := by decide +kernel
theorem dX9_unpick_55 : decode cX9_unpick 55 = .ok (.ireturn, 1) := by decide +kernel
theorem dX9_sew_0 : decode cX9_sew 0 = .ok (.aload_n 0, 1) := by decide +kernel
theorem dX9_sew_1 : decode cX9_sew 1 = .ok (.iload_n 1, 1) := by decide +kernel
theorem dX9_sew_2 : decode cX9_sew 2 = .ok (.invokevirtual 202, 3) := by decide +kernel
theorem dX9_sew_5 : decode cX9_sew 5 = .ok (.ifCond .ne 6, 3) := by decide +kernel
theorem dX9_sew_8 : decode cX9_sew 8 = .ok (.ldc 205, 2) := by decide +kernel
theorem dX9_sew_10 : decode cX9_sew 10 = .ok (.ireturn, 1) := by decide +kernel
theorem dX9_sew_11 : decode cX9_sew 11 = .ok (.iload_n 2, 1) := by decide +kernel
theorem dX9_sew_12 : decode cX9_sew 12 = .ok (.i2l, 1) := by decide +kernel
theorem dX9_sew_13 : decode cX9_sew 13 = .ok (.lconst 0, 1) := by decide +kernel
theorem dX9_sew_14 : decode cX9_sew 14 = .ok (.ldc2_w 221, 3) := by decide +kernel
theorem dX9_sew_17 : decode cX9_sew 17 = .ok (.invokestatic 92, 3) := by decide +kernel
theorem dX9_sew_20 : decode cX9_sew 20 = .ok (.ifCond .ne 6, 3) := by decide +kernel
theorem dX9_sew_23 : decode cX9_sew 23 = .ok (.ldc 96, 2) := by decide +kernel
theorem dX9_sew_25 : decode cX9_sew 25 = .ok (.ireturn, 1) := by decide +kernel
theorem dX9_sew_26 : decode cX9_sew 26 = .ok (.aload_n 0, 1) := by decide +kernel
theorem dX9_sew_27 : decode cX9_sew 27 = .ok (.getfield 46, 3) := by decide +kernel
theorem dX9_sew_30 : decode cX9_sew 30 = .ok (.iload_n 1, 1) := by decide +kernel
theorem dX9_sew_31 : decode cX9_sew 31 = .ok (.iaload, 1) := by decide +kernel
theorem dX9_sew_32 : decode cX9_sew 32 = .ok (.istore_n 3, 1) := by decide +kernel
theorem dX9_sew_33 : decode cX9_sew 33 = .ok (.aload_n 0, 1) := by decide +kernel
theorem dX9_sew_34 : decode cX9_sew 34 = .ok (.getfield 46, 3) := by decide +kernel
theorem dX9_sew_37 : decode cX9_sew 37 = .ok (.iload_n 1, 1) := by decide +kernel
theorem dX9_sew_38 : decode cX9_sew 38 = .ok (.iload_n 2, 1) := by decide +kernel
theorem dX9_sew_39 : decode cX9_sew 39 = .ok (.iastore, 1) := by decide +kernel
theorem dX9_sew_40 : decode cX9_sew 40 = .ok (.iload_n 3, 1) := by decide +kernel
theorem dX9_sew_41 : decode cX9_sew 41 = .ok (.ireturn, 1) := by decide +kernel
theorem dX9_hem_0 : decode cX9_hem 0 = .ok (.aload_n 0, 1) := by decide +kernel
theorem dX9_hem_1 : decode cX9_hem 1 = .ok (.iload_n 1, 1) := by decide +kernel
theorem dX9_hem_2 : decode cX9_hem 2 = .ok (.invokevirtual 202, 3) := by decide +kernel
theorem dX9_hem_5 : decode cX9_hem 5 = .ok (.ifCond .ne 6, 3) := by decide +kernel
theorem dX9_hem_8 : decode cX9_hem 8 = .ok (.ldc 205, 2) := by decide +kernel
theorem dX9_hem_10 : decode cX9_hem 10 = .ok (.ireturn, 1) := by decide +kernel
theorem dX9_hem_11 : decode cX9_hem 11 = .ok (.aload_n 0, 1) := by decide +kernel
theorem dX9_hem_12 : decode cX9_hem 12 = .ok (.getfield 192, 3) := by decide +kernel
theorem dX9_hem_15 : decode cX9_hem 15 = .ok (.iload_n 1, 1) := by decide +kernel
theorem dX9_hem_16 : decode cX9_hem 16 = .ok (.ishr, 1) := by decide +kernel
theorem dX9_hem_17 : decode cX9_hem 17 = .ok (.iconst 1, 1) := by decide +kernel
theorem dX9_hem_18 : decode cX9_hem 18 = .ok (.iand, 1) := by decide +kernel
theorem dX9_hem_19 : decode cX9_hem 19 = .ok (.istore_n 3, 1) := by decide +kernel
theorem dX9_hem_20 : decode cX9_hem 20 = .ok (.aload_n 0, 1) := by decide +kernel
theorem dX9_hem_21 : decode cX9_hem 21 = .ok (.iload_n 2, 1) := by decide +kernel
theorem dX9_hem_22 : decode cX9_hem 22 = .ok (.ifCond .eq 14, 3) := by decide +kernel
theorem dX9_hem_25 : decode cX9_hem 25 = .ok (.aload_n 0, 1) := by decide +kernel
theorem dX9_hem_26 : decode cX9_hem 26 = .ok (.getfield 192, 3) := by decide +kernel
theorem dX9_hem_29 : decode cX9_hem 29 = .ok (.iconst 1, 1) := by decide +kernel
theorem dX9_hem_30 : decode cX9_hem 30 = .ok (.iload_n 1, 1) := by decide +kernel
theorem dX9_hem_31 : decode cX9_hem 31 = .ok (.ishl, 1) := by decide +kernel
theorem dX9_hem_32 : decode cX9_hem 32 = .ok (.ior, 1) := by decide +kernel
theorem dX9_hem_33 : decode cX9_hem 33 = .ok (.goto 13, 3) := by decide +kernel
theorem dX9_hem_36 : decode cX9_hem 36 = .ok (.aload_n 0, 1) := by decide +kernel
theorem dX9_hem_37 : decode cX9_hem 37 = .ok (.getfield 192, 3) := by decide +kernel
theorem dX9_hem_40 : decode cX9_hem 40 = .ok (.iconst 1, 1) := by decide +kernel
theorem dX9_hem_41 : decode cX9_hem 41 = .ok (.iload_n 1, 1) := by decide +kernel
theorem dX9_hem_42 : decode cX9_hem 42 = .ok (.ishl, 1) := by decide +kernel
theorem dX9_hem_43 : decode cX9_hem 43 = .ok (.iconst (-1), 1) := by decide +kernel
theorem dX9_hem_44 : decode cX9_hem 44 = .ok (.ixor, 1) := by decide +kernel
theorem dX9_hem_45 : decode cX9_hem 45 = .ok (.iand, 1) := by decide +kernel
theorem dX9_hem_46 : decode cX9_hem 46 = .ok (.putfield 192, 3) := by decide +kernel
theorem dX9_hem_49 : decode cX9_hem 49 = .ok (.iload_n 3, 1) := by decide +kernel
theorem dX9_hem_50 : decode cX9_hem 50 = .ok (.ireturn, 1) := by decide +kernel
theorem dX9_frays_0 : decode cX9_frays 0 = .ok (.aload_n 0, 1) := by decide +kernel
theorem dX9_frays_1 : decode cX9_frays 1 = .ok (.iconst 0, 1) := by decide +kernel
theorem dX9_frays_2 : decode cX9_frays 2 = .ok (.invokevirtual 198, 3) := by decide +kernel
theorem dX9_frays_5 : decode cX9_frays 5 = .ok (.istore_n 2, 1) := by decide +kernel
theorem dX9_frays_6 : decode cX9_frays 6 = .ok (.iconst 0, 1) := by decide +kernel
theorem dX9_frays_7 : decode cX9_frays 7 = .ok (.istore_n 3, 1) := by decide +kernel
theorem dX9_frays_8 : decode cX9_frays 8 = .ok (.iconst 0, 1) := by decide +kernel
theorem dX9_frays_9 : decode cX9_frays 9 = .ok (.istore 4, 2) := by decide +kernel
theorem dX9_frays_11 : decode cX9_frays 11 = .ok (.iload 4, 2) := by decide +kernel
theorem dX9_frays_13 : decode cX9_frays 13 = .ok (.aload_n 0, 1) := by decide +kernel
theorem dX9_frays_14 : decode cX9_frays 14 = .ok (.getfield 180, 3) := by decide +kernel
theorem dX9_frays_17 : decode cX9_frays 17 = .ok (.if_icmp .ge 36, 3) := by decide +kernel
theorem dX9_frays_20 : decode cX9_frays 20 = .ok (.aload_n 0, 1) := by decide +kernel
theorem dX9_frays_21 : decode cX9_frays 21 = .ok (.iload 4, 2) := by decide +kernel
theorem dX9_frays_23 : decode cX9_frays 23 = .ok (.iload_n 2, 1) := by decide +kernel
theorem dX9_frays_24 : decode cX9_frays 24 = .ok (.invokevirtual 215, 3) := by decide +kernel
theorem dX9_frays_27 : decode cX9_frays 27 = .ok (.istore 5, 2) := by decide +kernel
theorem dX9_frays_29 : decode cX9_frays 29 = .ok (.iload_n 3, 1) := by decide +kernel
theorem dX9_frays_30 : decode cX9_frays 30 = .ok (.iload 5, 2) := by decide +kernel
theorem dX9_frays_32 : decode cX9_frays 32 = .ok (.invokestatic 231, 3) := by decide +kernel
theorem dX9_frays_35 : decode cX9_frays 35 = .ok (.iconst 1, 1) := by decide +kernel
theorem dX9_frays_36 : decode cX9_frays 36 = .ok (.if_icmp .ne 8, 3) := by decide +kernel
theorem dX9_frays_39 : decode cX9_frays 39 = .ok (.iload 5, 2) := by decide +kernel
theorem dX9_frays_41 : decode cX9_frays 41 = .ok (.goto 4, 3) := by decide +kernel
theorem dX9_frays_44 : decode cX9_frays 44 = .ok (.iconst 0, 1) := by decide +kernel
theorem dX9_frays_45 : decode cX9_frays 45 = .ok (.ior, 1) := by decide +kernel
theorem dX9_frays_46 : decode cX9_frays 46 = .ok (.istore_n 3, 1) := by decide +kernel
theorem dX9_frays_47 : decode cX9_frays 47 = .ok (.iinc 4 1, 3) := by decide +kernel
theorem dX9_frays_50 : decode cX9_frays 50 = .ok (.goto (-39), 3) := by decide +kernel
theorem dX9_frays_53 : decode cX9_frays 53 = .ok (.iconst 0, 1) := by decide +kernel
theorem dX9_frays_54 : decode cX9_frays 54 = .ok (.istore 4, 2) := by decide +kernel
theorem dX9_frays_56 : decode cX9_frays 56 = .ok (.iload 4, 2) := by decide +kernel
theorem dX9_frays_58 : decode cX9_frays 58 = .ok (.aload_n 0, 1) := by decide +kernel
theorem dX9_frays_59 : decode cX9_frays 59 = .ok (.getfield 186, 3) := by decide +kernel
theorem dX9_frays_62 : decode cX9_frays 62 = .ok (.if_icmp .ge 50, 3) := by decide +kernel
theorem dX9_frays_65 : decode cX9_frays 65 = .ok (.iload_n 3, 1) := by decide +kernel
theorem dX9_frays_66 : decode cX9_frays 66 = .ok (.iload 4, 2) := by decide +kernel
theorem dX9_frays_68 : decode cX9_frays 68 = .ok (.ishr, 1) := by decide +kernel
theorem dX9_frays_69 : decode cX9_frays 69 = .ok (.iconst 1, 1) := by decide +kernel
theorem dX9_frays_70 : decode cX9_frays 70 = .ok (.iand, 1) := by decide +kernel
theorem dX9_frays_71 : decode cX9_frays 71 = .ok (.iconst 1, 1) := by decide +kernel
theorem dX9_frays_72 : decode cX9_frays 72 = .ok (.if_icmp .ne 34, 3) := by decide +kernel
theorem dX9_frays_75 : decode cX9_frays 75 = .ok (.aload_n 0, 1) := by decide +kernel
theorem dX9_frays_76 : decode cX9_frays 76 = .ok (.getfield 46, 3) := by decide +kernel
theorem dX9_frays_79 : decode cX9_frays 79 = .ok (.iload 4, 2) := by decide +kernel
theorem dX9_frays_81 : decode cX9_frays 81 = .ok (.aload_n 0, 1) := by decide +kernel
theorem dX9_frays_82 : decode cX9_frays 82 = .ok (.getfield 46, 3) := by decide +kernel
theorem dX9_frays_85 : decode cX9_frays 85 = .ok (.iload 4, 2) := by decide +kernel
theorem dX9_frays_87 : decode cX9_frays 87 = .ok (.iaload, 1) := by decide +kernel
theorem dX9_frays_88 : decode cX9_frays 88 = .ok (.iload_n 1, 1) := by decide +kernel
theorem dX9_frays_89 : decode cX9_frays 89 = .ok (.if_icmp .le 15, 3) := by decide +kernel
theorem dX9_frays_92 : decode cX9_frays 92 = .ok (.aload_n 0, 1) := by decide +kernel
theorem dX9_frays_93 : decode cX9_frays 93 = .ok (.getfield 46, 3) := by decide +kernel
theorem dX9_frays_96 : decode cX9_frays 96 = .ok (.iload 4, 2) := by decide +kernel
theorem dX9_frays_98 : decode cX9_frays 98 = .ok (.iaload, 1) := by decide +kernel
theorem dX9_frays_99 : decode cX9_frays 99 = .ok (.iload_n 1, 1) := by decide +kernel
theorem dX9_frays_100 : decode cX9_frays 100 = .ok (.isub, 1) := by decide +kernel
theorem dX9_frays_101 : decode cX9_frays 101 = .ok (.goto 4, 3) := by decide +kernel
theorem dX9_frays_104 : decode cX9_frays 104 = .ok (.iconst 0, 1) := by decide +kernel
theorem dX9_frays_105 : decode cX9_frays 105 = .ok (.iastore, 1) := by decide +kernel
theorem dX9_frays_106 : decode cX9_frays 106 = .ok (.iinc 4 1, 3) := by decide +kernel
theorem dX9_frays_109 : decode cX9_frays 109 = .ok (.goto (-53), 3) := by decide +kernel
theorem dX9_frays_112 : decode cX9_frays 112 = .ok (.iload_n 2, 1) := by decide +kernel
theorem dX9_frays_113 : decode cX9_frays 113 = .ok (.aload_n 0, 1) := by decide +kernel
theorem dX9_frays_114 : decode cX9_frays 114 = .ok (.iconst 0, 1) := by decide +kernel
theorem dX9_frays_115 : decode cX9_frays 115 = .ok (.invokevirtual 198, 3) := by decide +kernel
theorem dX9_frays_118 : decode cX9_frays 118 = .ok (.iconst (-1), 1) := by decide +kernel
theorem dX9_frays_119 : decode cX9_frays 119 = .ok (.ixor, 1) := by decide +kernel
theorem dX9_frays_120 : decode cX9_frays 120 = .ok (.iand, 1) := by decide +kernel
theorem dX9_frays_121 : decode cX9_frays 121 = .ok (.ireturn, 1) := by decide +kernel
theorem dX9_fray_0 : decode cX9_fray 0 = .ok (.iload_n 1, 1) := by decide +kernel
theorem dX9_fray_1 : decode cX9_fray 1 = .ok (.i2l, 1) := by decide +kernel
theorem dX9_fray_2 : decode cX9_fray 2 = .ok (.lconst 0, 1) := by decide +kernel
theorem dX9_fray_3 : decode cX9_fray 3 = .ok (.ldc2_w 221, 3) := by decide +kernel
theorem dX9_fray_6 : decode cX9_fray 6 = .ok (.invokestatic 92, 3) := by decide +kernel
theorem dX9_fray_9 : decode cX9_fray 9 = .ok (.ifCond .eq 11, 3) := by decide +kernel
theorem dX9_fray_12 : decode cX9_fray 12 = .ok (.aload_n 0, 1) := by decide +kernel
theorem dX9_fray_13 : decode cX9_fray 13 = .ok (.iload_n 1, 1) := by decide +kernel
theorem dX9_fray_14 : decode cX9_fray 14 = .ok (.invokevirtual 234, 3) := by decide +kernel
theorem dX9_fray_17 : decode cX9_fray 17 = .ok (.goto 5, 3) := by decide +kernel
theorem dX9_fray_20 : decode cX9_fray 20 = .ok (.ldc 96, 2) := by decide +kernel
theorem dX9_fray_22 : decode cX9_fray 22 = .ok (.ireturn, 1) := by decide +kernel
theorem dX9_dye_0 : decode cX9_dye 0 = .ok (.aload_n 0, 1) := by decide +kernel
theorem dX9_dye_1 : decode cX9_dye 1 = .ok (.iload_n 1, 1) := by decide +kernel
theorem dX9_dye_2 : decode cX9_dye 2 = .ok (.invokevirtual 212, 3) := by decide +kernel
theorem dX9_dye_5 : decode cX9_dye 5 = .ok (.ifCond .eq 19, 3) := by decide +kernel
theorem dX9_dye_8 : decode cX9_dye 8 = .ok (.iload_n 2, 1) := by decide +kernel
theorem dX9_dye_9 : decode cX9_dye 9 = .ok (.i2l, 1) := by decide +kernel
theorem dX9_dye_10 : decode cX9_dye 10 = .ok (.lconst 0, 1) := by decide +kernel
theorem dX9_dye_11 : decode cX9_dye 11 = .ok (.aload_n 0, 1) := by decide +kernel
theorem dX9_dye_12 : decode cX9_dye 12 = .ok (.getfield 183, 3) := by decide +kernel
theorem dX9_dye_15 : decode cX9_dye 15 = .ok (.iconst 1, 1) := by decide +kernel
theorem dX9_dye_16 : decode cX9_dye 16 = .ok (.isub, 1) := by decide +kernel
theorem dX9_dye_17 : decode cX9_dye 17 = .ok (.i2l, 1) := by decide +kernel
theorem dX9_dye_18 : decode cX9_dye 18 = .ok (.invokestatic 92, 3) := by decide +kernel
theorem dX9_dye_21 : decode cX9_dye 21 = .ok (.ifCond .ne 6, 3) := by decide +kernel
theorem dX9_dye_24 : decode cX9_dye 24 = .ok (.ldc 205, 2) := by decide +kernel
theorem dX9_dye_26 : decode cX9_dye 26 = .ok (.ireturn, 1) := by decide +kernel
theorem dX9_dye_27 : decode cX9_dye 27 = .ok (.aload_n 0, 1) := by decide +kernel
theorem dX9_dye_28 : decode cX9_dye 28 = .ok (.getfield 34, 3) := by decide +kernel
theorem dX9_dye_31 : decode cX9_dye 31 = .ok (.iload_n 1, 1) := by decide +kernel
theorem dX9_dye_32 : decode cX9_dye 32 = .ok (.iaload, 1) := by decide +kernel
theorem dX9_dye_33 : decode cX9_dye 33 = .ok (.istore_n 3, 1) := by decide +kernel
theorem dX9_dye_34 : decode cX9_dye 34 = .ok (.aload_n 0, 1) := by decide +kernel
theorem dX9_dye_35 : decode cX9_dye 35 = .ok (.getfield 34, 3) := by decide +kernel
theorem dX9_dye_38 : decode cX9_dye 38 = .ok (.iload_n 1, 1) := by decide +kernel
theorem dX9_dye_39 : decode cX9_dye 39 = .ok (.iload_n 2, 1) := by decide +kernel
theorem dX9_dye_40 : decode cX9_dye 40 = .ok (.iastore, 1) := by decide +kernel
theorem dX9_dye_41 : decode cX9_dye 41 = .ok (.iload_n 3, 1) := by decide +kernel
theorem dX9_dye_42 : decode cX9_dye 42 = .ok (.ireturn, 1) := by decide +kernel
theorem dX9_draws_0 : decode cX9_draws 0 = .ok (.aload_n 0, 1) := by decide +kernel
theorem dX9_draws_1 : decode cX9_draws 1 = .ok (.aload_n 0, 1) := by decide +kernel
theorem dX9_draws_2 : decode cX9_draws 2 = .ok (.getfield 237, 3) := by decide +kernel
theorem dX9_draws_5 : decode cX9_draws 5 = .ok (.i2l, 1) := by decide +kernel
theorem dX9_draws_6 : decode cX9_draws 6 = .ok (.ldc2_w 240, 3) := by decide +kernel
theorem dX9_draws_9 : decode cX9_draws 9 = .ok (.lmul, 1) := by decide +kernel
theorem dX9_draws_10 : decode cX9_draws 10 = .ok (.ldc2_w 242, 3) := by decide +kernel
theorem dX9_draws_13 : decode cX9_draws 13 = .ok (.ladd, 1) := by decide +kernel
theorem dX9_draws_14 : decode cX9_draws 14 = .ok (.ldc2_w 244, 3) := by decide +kernel
theorem dX9_draws_17 : decode cX9_draws 17 = .ok (.land, 1) := by decide +kernel
theorem dX9_draws_18 : decode cX9_draws 18 = .ok (.l2i, 1) := by decide +kernel
theorem dX9_draws_19 : decode cX9_draws 19 = .ok (.putfield 237, 3) := by decide +kernel
theorem dX9_draws_22 : decode cX9_draws 22 = .ok (.aload_n 0, 1) := by decide +kernel
theorem dX9_draws_23 : decode cX9_draws 23 = .ok (.getfield 237, 3) := by decide +kernel
theorem dX9_draws_26 : decode cX9_draws 26 = .ok (.ldc 246, 2) := by decide +kernel
theorem dX9_draws_28 : decode cX9_draws 28 = .ok (.idiv, 1) := by decide +kernel
theorem dX9_draws_29 : decode cX9_draws 29 = .ok (.iload_n 1, 1) := by decide +kernel
theorem dX9_draws_30 : decode cX9_draws 30 = .ok (.irem, 1) := by decide +kernel
theorem dX9_draws_31 : decode cX9_draws 31 = .ok (.ireturn, 1) := by decide +kernel
theorem dX9_drift_0 : decode cX9_drift 0 = .ok (.iload_n 1, 1) := by decide +kernel
theorem dX9_drift_1 : decode cX9_drift 1 = .ok (.i2l, 1) := by decide +kernel
theorem dX9_drift_2 : decode cX9_drift 2 = .ok (.lconst 1, 1) := by decide +kernel
theorem dX9_drift_3 : decode cX9_drift 3 = .ok (.ldc2_w 247, 3) := by decide +kernel
theorem dX9_drift_6 : decode cX9_drift 6 = .ok (.invokestatic 92, 3) := by decide +kernel
theorem dX9_drift_9 : decode cX9_drift 9 = .ok (.ifCond .ne 6, 3) := by decide +kernel
theorem dX9_drift_12 : decode cX9_drift 12 = .ok (.ldc 96, 2) := by decide +kernel
theorem dX9_drift_14 : decode cX9_drift 14 = .ok (.ireturn, 1) := by decide +kernel
theorem dX9_drift_15 : decode cX9_drift 15 = .ok (.aload_n 0, 1) := by decide +kernel
theorem dX9_drift_16 : decode cX9_drift 16 = .ok (.getfield 180, 3) := by decide +kernel
theorem dX9_drift_19 : decode cX9_drift 19 = .ok (.ifCond .ne 6, 3) := by decide +kernel
theorem dX9_drift_22 : decode cX9_drift 22 = .ok (.ldc 230, 2) := by decide +kernel
theorem dX9_drift_24 : decode cX9_drift 24 = .ok (.ireturn, 1) := by decide +kernel
theorem dX9_drift_25 : decode cX9_drift 25 = .ok (.iconst 0, 1) := by decide +kernel
theorem dX9_drift_26 : decode cX9_drift 26 = .ok (.istore_n 2, 1) := by decide +kernel
theorem dX9_drift_27 : decode cX9_drift 27 = .ok (.iload_n 2, 1) := by decide +kernel
theorem dX9_drift_28 : decode cX9_drift 28 = .ok (.iload_n 1, 1) := by decide +kernel
theorem dX9_drift_29 : decode cX9_drift 29 = .ok (.if_icmp .ge 97, 3) := by decide +kernel
theorem dX9_drift_32 : decode cX9_drift 32 = .ok (.iconst 0, 1) := by decide +kernel
theorem dX9_drift_33 : decode cX9_drift 33 = .ok (.istore_n 3, 1) := by decide +kernel
theorem dX9_drift_34 : decode cX9_drift 34 = .ok (.iload_n 3, 1) := by decide +kernel
theorem dX9_drift_35 : decode cX9_drift 35 = .ok (.aload_n 0, 1) := by decide +kernel
theorem dX9_drift_36 : decode cX9_drift 36 = .ok (.getfield 180, 3) := by decide +kernel
theorem dX9_drift_39 : decode cX9_drift 39 = .ok (.if_icmp .ge 71, 3) := by decide +kernel
theorem dX9_drift_42 : decode cX9_drift 42 = .ok (.aload_n 0, 1) := by decide +kernel
theorem dX9_drift_43 : decode cX9_drift 43 = .ok (.iconst 3, 1) := by decide +kernel
theorem dX9_drift_44 : decode cX9_drift 44 = .ok (.invokevirtual 249, 3) := by decide +kernel
theorem dX9_drift_47 : decode cX9_drift 47 = .ok (.ifCond .ne 57, 3) := by decide +kernel
theorem dX9_drift_50 : decode cX9_drift 50 = .ok (.aload_n 0, 1) := by decide +kernel
theorem dX9_drift_51 : decode cX9_drift 51 = .ok (.getfield 186, 3) := by decide +kernel
theorem dX9_drift_54 : decode cX9_drift 54 = .ok (.ifCond .le 50, 3) := by decide +kernel
theorem dX9_drift_57 : decode cX9_drift 57 = .ok (.aload_n 0, 1) := by decide +kernel
theorem dX9_drift_58 : decode cX9_drift 58 = .ok (.aload_n 0, 1) := by decide +kernel
theorem dX9_drift_59 : decode cX9_drift 59 = .ok (.getfield 186, 3) := by decide +kernel
theorem dX9_drift_62 : decode cX9_drift 62 = .ok (.invokevirtual 249, 3) := by decide +kernel
theorem dX9_drift_65 : decode cX9_drift 65 = .ok (.istore 4, 2) := by decide +kernel
theorem dX9_drift_67 : decode cX9_drift 67 = .ok (.aload_n 0, 1) := by decide +kernel
theorem dX9_drift_68 : decode cX9_drift 68 = .ok (.getfield 46, 3) := by decide +kernel
theorem dX9_drift_71 : decode cX9_drift 71 = .ok (.iload 4, 2) := by decide +kernel
theorem dX9_drift_73 : decode cX9_drift 73 = .ok (.aload_n 0, 1) := by decide +kernel
theorem dX9_drift_74 : decode cX9_drift 74 = .ok (.iload_n 3, 1) := by decide +kernel
theorem dX9_drift_75 : decode cX9_drift 75 = .ok (.iload 4, 2) := by decide +kernel
theorem dX9_drift_77 : decode cX9_drift 77 = .ok (.aload_n 0, 1) := by decide +kernel
theorem dX9_drift_78 : decode cX9_drift 78 = .ok (.iconst 0, 1) := by decide +kernel
theorem dX9_drift_79 : decode cX9_drift 79 = .ok (.invokevirtual 198, 3) := by decide +kernel
theorem dX9_drift_82 : decode cX9_drift 82 = .ok (.aload_n 0, 1) := by decide +kernel
theorem dX9_drift_83 : decode cX9_drift 83 = .ok (.getfield 192, 3) := by decide +kernel
theorem dX9_drift_86 : decode cX9_drift 86 = .ok (.invokevirtual 226, 3) := by decide +kernel
theorem dX9_drift_89 : decode cX9_drift 89 = .ok (.ifCond .eq 7, 3) := by decide +kernel
theorem dX9_drift_92 : decode cX9_drift 92 = .ok (.iconst 0, 1) := by decide +kernel
theorem dX9_drift_93 : decode cX9_drift 93 = .ok (.goto 10, 3) := by decide +kernel
theorem dX9_drift_96 : decode cX9_drift 96 = .ok (.aload_n 0, 1) := by decide +kernel
theorem dX9_drift_97 : decode cX9_drift 97 = .ok (.getfield 46, 3) := by decide +kernel
theorem dX9_drift_100 : decode cX9_drift 100 = .ok (.iload 4, 2) := by decide +kernel
theorem dX9_drift_102 : decode cX9_drift 102 = .ok (.iaload, 1) := by decide +kernel
theorem dX9_drift_103 : decode cX9_drift 103 = .ok (.iastore, 1) := by decide +kernel
theorem dX9_drift_104 : decode cX9_drift 104 = .ok (.iinc 3 1, 3) := by decide +kernel
theorem dX9_drift_107 : decode cX9_drift 107 = .ok (.goto (-73), 3) := by decide +kernel
theorem dX9_drift_110 : decode cX9_drift 110 = .ok (.aload_n 0, 1) := by decide +kernel
theorem dX9_drift_111 : decode cX9_drift 111 = .ok (.aload_n 0, 1) := by decide +kernel
theorem dX9_drift_112 : decode cX9_drift 112 = .ok (.iconst 3, 1) := by decide +kernel
theorem dX9_drift_113 : decode cX9_drift 113 = .ok (.invokevirtual 249, 3) := by decide +kernel
theorem dX9_drift_116 : decode cX9_drift 116 = .ok (.invokevirtual 234, 3) := by decide +kernel
theorem dX9_drift_119 : decode cX9_drift 119 = .ok (.pop, 1) := by decide +kernel
theorem dX9_drift_120 : decode cX9_drift 120 = .ok (.iinc 2 1, 3) := by decide +kernel
theorem dX9_drift_123 : decode cX9_drift 123 = .ok (.goto (-96), 3) := by decide +kernel
theorem dX9_drift_126 : decode cX9_drift 126 = .ok (.aload_n 0, 1) := by decide +kernel
theorem dX9_drift_127 : decode cX9_drift 127 = .ok (.aload_n 0, 1) := by decide +kernel
theorem dX9_drift_128 : decode cX9_drift 128 = .ok (.iconst 0, 1) := by decide +kernel
theorem dX9_drift_129 : decode cX9_drift 129 = .ok (.invokevirtual 198, 3) := by decide +kernel
theorem dX9_drift_132 : decode cX9_drift 132 = .ok (.invokevirtual 223, 3) := by decide +kernel
theorem dX9_drift_135 : decode cX9_drift 135 = .ok (.ireturn, 1) := by decide +kernel
theorem dX9_seed_0 : decode cX9_seed 0 = .ok (.iload_n 1, 1) := by decide +kernel
theorem dX9_seed_1 : decode cX9_seed 1 = .ok (.ifCond .ge 6, 3) := by decide +kernel
theorem dX9_seed_4 : decode cX9_seed 4 = .ok (.ldc 96, 2) := by decide +kernel
theorem dX9_seed_6 : decode cX9_seed 6 = .ok (.ireturn, 1) := by decide +kernel
theorem dX9_seed_7 : decode cX9_seed 7 = .ok (.aload_n 0, 1) := by decide +kernel
theorem dX9_seed_8 : decode cX9_seed 8 = .ok (.getfield 237, 3) := by decide +kernel
theorem dX9_seed_11 : decode cX9_seed 11 = .ok (.istore_n 2, 1) := by decide +kernel
theorem dX9_seed_12 : decode cX9_seed 12 = .ok (.aload_n 0, 1) := by decide +kernel
theorem dX9_seed_13 : decode cX9_seed 13 = .ok (.iload_n 1, 1) := by decide +kernel
theorem dX9_seed_14 : decode cX9_seed 14 = .ok (.putfield 237, 3) := by decide +kernel
theorem dX9_seed_17 : decode cX9_seed 17 = .ok (.iload_n 2, 1) := by decide +kernel
theorem dX9_seed_18 : decode cX9_seed 18 = .ok (.ireturn, 1) := by decide +kernel
theorem dX9_cut_0 : decode cX9_cut 0 = .ok (.aload_n 0, 1) := by decide +kernel
theorem dX9_cut_1 : decode cX9_cut 1 = .ok (.iload_n 1, 1) := by decide +kernel
theorem dX9_cut_2 : decode cX9_cut 2 = .ok (.invokevirtual 212, 3) := by decide +kernel
theorem dX9_cut_5 : decode cX9_cut 5 = .ok (.ifCond .ne 6, 3) := by decide +kernel
theorem dX9_cut_8 : decode cX9_cut 8 = .ok (.ldc 205, 2) := by decide +kernel
theorem dX9_cut_10 : decode cX9_cut 10 = .ok (.ireturn, 1) := by decide +kernel
theorem dX9_cut_11 : decode cX9_cut 11 = .ok (.iload_n 2, 1) := by decide +kernel
theorem dX9_cut_12 : decode cX9_cut 12 = .ok (.i2l, 1) := by decide +kernel
theorem dX9_cut_13 : decode cX9_cut 13 = .ok (.lconst 0, 1) := by decide +kernel
theorem dX9_cut_14 : decode cX9_cut 14 = .ok (.lconst 1, 1) := by decide +kernel
theorem dX9_cut_15 : decode cX9_cut 15 = .ok (.invokestatic 92, 3) := by decide +kernel
theorem dX9_cut_18 : decode cX9_cut 18 = .ok (.ifCond .ne 6, 3) := by decide +kernel
theorem dX9_cut_21 : decode cX9_cut 21 = .ok (.ldc 96, 2) := by decide +kernel
theorem dX9_cut_23 : decode cX9_cut 23 = .ok (.ireturn, 1) := by decide +kernel
theorem dX9_cut_24 : decode cX9_cut 24 = .ok (.aload_n 0, 1) := by decide +kernel
theorem dX9_cut_25 : decode cX9_cut 25 = .ok (.iconst 0, 1) := by decide +kernel
theorem dX9_cut_26 : decode cX9_cut 26 = .ok (.invokevirtual 198, 3) := by decide +kernel
theorem dX9_cut_29 : decode cX9_cut 29 = .ok (.istore_n 3, 1) := by decide +kernel
theorem dX9_cut_30 : decode cX9_cut 30 = .ok (.iload_n 3, 1) := by decide +kernel
theorem dX9_cut_31 : decode cX9_cut 31 = .ok (.istore 4, 2) := by decide +kernel
theorem dX9_cut_33 : decode cX9_cut 33 = .ok (.aload_n 0, 1) := by decide +kernel
theorem dX9_cut_34 : decode cX9_cut 34 = .ok (.iload_n 3, 1) := by decide +kernel
theorem dX9_cut_35 : decode cX9_cut 35 = .ok (.invokevirtual 223, 3) := by decide +kernel
theorem dX9_cut_38 : decode cX9_cut 38 = .ok (.iload_n 1, 1) := by decide +kernel
theorem dX9_cut_39 : decode cX9_cut 39 = .ok (.ishr, 1) := by decide +kernel
theorem dX9_cut_40 : decode cX9_cut 40 = .ok (.iconst 1, 1) := by decide +kernel
theorem dX9_cut_41 : decode cX9_cut 41 = .ok (.iand, 1) := by decide +kernel
theorem dX9_cut_42 : decode cX9_cut 42 = .ok (.iconst 1, 1) := by decide +kernel
theorem dX9_cut_43 : decode cX9_cut 43 = .ok (.if_icmp .ne 7, 3) := by decide +kernel
theorem dX9_cut_46 : decode cX9_cut 46 = .ok (.iconst 1, 1) := by decide +kernel
theorem dX9_cut_47 : decode cX9_cut 47 = .ok (.goto 4, 3) := by decide +kernel
theorem dX9_cut_50 : decode cX9_cut 50 = .ok (.iconst 0, 1) := by decide +kernel
theorem dX9_cut_51 : decode cX9_cut 51 = .ok (.istore 5, 2) := by decide +kernel
theorem dX9_cut_53 : decode cX9_cut 53 = .ok (.iconst 1, 1) := by decide +kernel
theorem dX9_cut_54 : decode cX9_cut 54 = .ok (.aload_n 0, 1) := by decide +kernel
theorem dX9_cut_55 : decode cX9_cut 55 = .ok (.getfield 186, 3) := by decide +kernel
theorem dX9_cut_58 : decode cX9_cut 58 = .ok (.ishl, 1) := by decide +kernel
theorem dX9_cut_59 : decode cX9_cut 59 = .ok (.iconst 1, 1) := by decide +kernel
theorem dX9_cut_60 : decode cX9_cut 60 = .ok (.isub, 1) := by decide +kernel
theorem dX9_cut_61 : decode cX9_cut 61 = .ok (.istore 6, 2) := by decide +kernel
theorem dX9_cut_63 : decode cX9_cut 63 = .ok (.iload 6, 2) := by decide +kernel
theorem dX9_cut_65 : decode cX9_cut 65 = .ok (.ifCond .lt 74, 3) := by decide +kernel
theorem dX9_cut_68 : decode cX9_cut 68 = .ok (.iload 5, 2) := by decide +kernel
theorem dX9_cut_70 : decode cX9_cut 70 = .ok (.ifCond .eq 69, 3) := by decide +kernel
theorem dX9_cut_73 : decode cX9_cut 73 = .ok (.iload 6, 2) := by decide +kernel
theorem dX9_cut_75 : decode cX9_cut 75 = .ok (.iload_n 3, 1) := by decide +kernel
theorem dX9_cut_76 : decode cX9_cut 76 = .ok (.iconst (-1), 1) := by decide +kernel
theorem dX9_cut_77 : decode cX9_cut 77 = .ok (.ixor, 1) := by decide +kernel
theorem dX9_cut_78 : decode cX9_cut 78 = .ok (.iand, 1) := by decide +kernel
theorem dX9_cut_79 : decode cX9_cut 79 = .ok (.ifCond .ne 37, 3) := by decide +kernel
theorem dX9_cut_82 : decode cX9_cut 82 = .ok (.iload 6, 2) := by decide +kernel
theorem dX9_cut_84 : decode cX9_cut 84 = .ok (.invokestatic 231, 3) := by decide +kernel
theorem dX9_cut_87 : decode cX9_cut 87 = .ok (.iload 4, 2) := by decide +kernel
theorem dX9_cut_89 : decode cX9_cut 89 = .ok (.invokestatic 231, 3) := by decide +kernel
theorem dX9_cut_92 : decode cX9_cut 92 = .ok (.if_icmp .gt 24, 3) := by decide +kernel
theorem dX9_cut_95 : decode cX9_cut 95 = .ok (.aload_n 0, 1) := by decide +kernel
theorem dX9_cut_96 : decode cX9_cut 96 = .ok (.iload_n 3, 1) := by decide +kernel
theorem dX9_cut_97 : decode cX9_cut 97 = .ok (.iload 6, 2) := by decide +kernel
theorem dX9_cut_99 : decode cX9_cut 99 = .ok (.iconst (-1), 1) := by decide +kernel
theorem dX9_cut_100 : decode cX9_cut 100 = .ok (.ixor, 1) := by decide +kernel
theorem dX9_cut_101 : decode cX9_cut 101 = .ok (.iand, 1) := by decide +kernel
theorem dX9_cut_102 : decode cX9_cut 102 = .ok (.invokevirtual 223, 3) := by decide +kernel
theorem dX9_cut_105 : decode cX9_cut 105 = .ok (.iload_n 1, 1) := by decide +kernel
theorem dX9_cut_106 : decode cX9_cut 106 = .ok (.ishr, 1) := by decide +kernel
theorem dX9_cut_107 : decode cX9_cut 107 = .ok (.iconst 1, 1) := by decide +kernel
theorem dX9_cut_108 : decode cX9_cut 108 = .ok (.iand, 1) := by decide +kernel
theorem dX9_cut_109 : decode cX9_cut 109 = .ok (.ifCond .ne 7, 3) := by decide +kernel
theorem dX9_cut_112 : decode cX9_cut 112 = .ok (.iconst 1, 1) := by decide +kernel
theorem dX9_cut_113 : decode cX9_cut 113 = .ok (.goto 4, 3) := by decide +kernel
theorem dX9_cut_116 : decode cX9_cut 116 = .ok (.iconst 0, 1) := by decide +kernel
theorem dX9_cut_117 : decode cX9_cut 117 = .ok (.istore 7, 2) := by decide +kernel
theorem dX9_cut_119 : decode cX9_cut 119 = .ok (.iload 7, 2) := by decide +kernel
theorem dX9_cut_121 : decode cX9_cut 121 = .ok (.ifCond .eq 8, 3) := by decide +kernel
theorem dX9_cut_124 : decode cX9_cut 124 = .ok (.iload 6, 2) := by decide +kernel
theorem dX9_cut_126 : decode cX9_cut 126 = .ok (.goto 5, 3) := by decide +kernel
theorem dX9_cut_129 : decode cX9_cut 129 = .ok (.iload 4, 2) := by decide +kernel
theorem dX9_cut_131 : decode cX9_cut 131 = .ok (.istore 4, 2) := by decide +kernel
theorem dX9_cut_133 : decode cX9_cut 133 = .ok (.iinc 6 (-1), 3) := by decide +kernel
theorem dX9_cut_136 : decode cX9_cut 136 = .ok (.goto (-73), 3) := by decide +kernel
theorem dX9_cut_139 : decode cX9_cut 139 = .ok (.iload 5, 2) := by decide +kernel
theorem dX9_cut_141 : decode cX9_cut 141 = .ok (.ifCond .eq 8, 3) := by decide +kernel
theorem dX9_cut_144 : decode cX9_cut 144 = .ok (.iload 4, 2) := by decide +kernel
theorem dX9_cut_146 : decode cX9_cut 146 = .ok (.goto 4, 3) := by decide +kernel
theorem dX9_cut_149 : decode cX9_cut 149 = .ok (.iconst 0, 1) := by decide +kernel
theorem dX9_cut_150 : decode cX9_cut 150 = .ok (.istore 4, 2) := by decide +kernel
theorem dX9_cut_152 : decode cX9_cut 152 = .ok (.iload_n 2, 1) := by decide +kernel
theorem dX9_cut_153 : decode cX9_cut 153 = .ok (.ifCond .ne 11, 3) := by decide +kernel
theorem dX9_cut_156 : decode cX9_cut 156 = .ok (.iload 4, 2) := by decide +kernel
theorem dX9_cut_158 : decode cX9_cut 158 = .ok (.invokestatic 231, 3) := by decide +kernel
theorem dX9_cut_161 : decode cX9_cut 161 = .ok (.goto 5, 3) := by decide +kernel
theorem dX9_cut_164 : decode cX9_cut 164 = .ok (.iload 4, 2) := by decide +kernel
theorem dX9_cut_166 : decode cX9_cut 166 = .ok (.ireturn, 1) := by decide +kernel
theorem dX9_doLast_0 : decode cX9_doLast 0 = .ok (.iload_n 1, 1) := by decide +kernel
theorem dX9_doLast_1 : decode cX9_doLast 1 = .ok (.aload_n 0, 1) := by decide +kernel
theorem dX9_doLast_2 : decode cX9_doLast 2 = .ok (.iload_n 2, 1) := by decide +kernel
theorem dX9_doLast_3 : decode cX9_doLast 3 = .ok (.invokevirtual 223, 3) := by decide +kernel
theorem dX9_doLast_6 : decode cX9_doLast 6 = .ok (.iconst (-1), 1) := by decide +kernel
theorem dX9_doLast_7 : decode cX9_doLast 7 = .ok (.ixor, 1) := by decide +kernel
theorem dX9_doLast_8 : decode cX9_doLast 8 = .ok (.iand, 1) := by decide +kernel
theorem dX9_doLast_9 : decode cX9_doLast 9 = .ok (.ifCond .eq 5, 3) := by decide +kernel
theorem dX9_doLast_12 : decode cX9_doLast 12 = .ok (.iconst 0, 1) := by decide +kernel
theorem dX9_doLast_13 : decode cX9_doLast 13 = .ok (.ireturn, 1) := by decide +kernel
theorem dX9_doLast_14 : decode cX9_doLast 14 = .ok (.iconst 0, 1) := by decide +kernel
theorem dX9_doLast_15 : decode cX9_doLast 15 = .ok (.istore 5, 2) := by decide +kernel
theorem dX9_doLast_17 : decode cX9_doLast 17 = .ok (.iload 5, 2) := by decide +kernel
theorem dX9_doLast_19 : decode cX9_doLast 19 = .ok (.bipush 20, 2) := by decide +kernel
theorem dX9_doLast_21 : decode cX9_doLast 21 = .ok (.if_icmp .ge 152, 3) := by decide +kernel
theorem dX9_doLast_24 : decode cX9_doLast 24 = .ok (.iload 4, 2) := by decide +kernel
theorem dX9_doLast_26 : decode cX9_doLast 26 = .ok (.ifCond .le 147, 3) := by decide +kernel
theorem dX9_doLast_29 : decode cX9_doLast 29 = .ok (.iload_n 3, 1) := by decide +kernel
theorem dX9_doLast_30 : decode cX9_doLast 30 = .ok (.iconst 1, 1) := by decide +kernel
theorem dX9_doLast_31 : decode cX9_doLast 31 = .ok (.iload 5, 2) := by decide +kernel
theorem dX9_doLast_33 : decode cX9_doLast 33 = .ok (.ishl, 1) := by decide +kernel
theorem dX9_doLast_34 : decode cX9_doLast 34 = .ok (.iand, 1) := by decide +kernel
theorem dX9_doLast_35 : decode cX9_doLast 35 = .ok (.istore 6, 2) := by decide +kernel
theorem dX9_doLast_37 : decode cX9_doLast 37 = .ok (.iconst 0, 1) := by decide +kernel
theorem dX9_doLast_38 : decode cX9_doLast 38 = .ok (.istore 7, 2) := by decide +kernel
theorem dX9_doLast_40 : decode cX9_doLast 40 = .ok (.iload 7, 2) := by decide +kernel
theorem dX9_doLast_42 : decode cX9_doLast 42 = .ok (.iload 5, 2) := by decide +kernel
theorem dX9_doLast_44 : decode cX9_doLast 44 = .ok (.if_icmp .gt 123, 3) := by decide +kernel
theorem dX9_doLast_47 : decode cX9_doLast 47 = .ok (.iload 6, 2) := by decide +kernel
theorem dX9_doLast_49 : decode cX9_doLast 49 = .ok (.ifCond .eq 118, 3) := by decide +kernel
theorem dX9_doLast_52 : decode cX9_doLast 52 = .ok (.iload 4, 2) := by decide +kernel
theorem dX9_doLast_54 : decode cX9_doLast 54 = .ok (.iconst 1, 1) := by decide +kernel
theorem dX9_doLast_55 : decode cX9_doLast 55 = .ok (.if_icmp .le 15, 3) := by decide +kernel
theorem dX9_doLast_58 : decode cX9_doLast 58 = .ok (.iload 6, 2) := by decide +kernel
theorem dX9_doLast_60 : decode cX9_doLast 60 = .ok (.iload_n 3, 1) := by decide +kernel
theorem dX9_doLast_61 : decode cX9_doLast 61 = .ok (.iconst 1, 1) := by decide +kernel
theorem dX9_doLast_62 : decode cX9_doLast 62 = .ok (.iload 7, 2) := by decide +kernel
theorem dX9_doLast_64 : decode cX9_doLast 64 = .ok (.ishl, 1) := by decide +kernel
theorem dX9_doLast_65 : decode cX9_doLast 65 = .ok (.iand, 1) := by decide +kernel
theorem dX9_doLast_66 : decode cX9_doLast 66 = .ok (.ior, 1) := by decide +kernel
theorem dX9_doLast_67 : decode cX9_doLast 67 = .ok (.goto 5, 3) := by decide +kernel
theorem dX9_doLast_70 : decode cX9_doLast 70 = .ok (.iload 6, 2) := by decide +kernel
theorem dX9_doLast_72 : decode cX9_doLast 72 = .ok (.istore 8, 2) := by decide +kernel
theorem dX9_doLast_74 : decode cX9_doLast 74 = .ok (.iconst 0, 1) := by decide +kernel
theorem dX9_doLast_75 : decode cX9_doLast 75 = .ok (.istore 9, 2) := by decide +kernel
theorem dX9_doLast_77 : decode cX9_doLast 77 = .ok (.iload 9, 2) := by decide +kernel
theorem dX9_doLast_79 : decode cX9_doLast 79 = .ok (.iload 7, 2) := by decide +kernel
theorem dX9_doLast_81 : decode cX9_doLast 81 = .ok (.if_icmp .gt 65, 3) := by decide +kernel
theorem dX9_doLast_84 : decode cX9_doLast 84 = .ok (.iload 4, 2) := by decide +kernel
theorem dX9_doLast_86 : decode cX9_doLast 86 = .ok (.iconst 2, 1) := by decide +kernel
theorem dX9_doLast_87 : decode cX9_doLast 87 = .ok (.if_icmp .le 15, 3) := by decide +kernel
theorem dX9_doLast_90 : decode cX9_doLast 90 = .ok (.iload 8, 2) := by decide +kernel
theorem dX9_doLast_92 : decode cX9_doLast 92 = .ok (.iload_n 3, 1) := by decide +kernel
theorem dX9_doLast_93 : decode cX9_doLast 93 = .ok (.iconst 1, 1) := by decide +kernel
theorem dX9_doLast_94 : decode cX9_doLast 94 = .ok (.iload 9, 2) := by decide +kernel
theorem dX9_doLast_96 : decode cX9_doLast 96 = .ok (.ishl, 1) := by decide +kernel
theorem dX9_doLast_97 : decode cX9_doLast 97 = .ok (.iand, 1) := by decide +kernel
theorem dX9_doLast_98 : decode cX9_doLast 98 = .ok (.ior, 1) := by decide +kernel
theorem dX9_doLast_99 : decode cX9_doLast 99 = .ok (.goto 5, 3) := by decide +kernel
theorem dX9_doLast_102 : decode cX9_doLast 102 = .ok (.iload 8, 2) := by decide +kernel
theorem dX9_doLast_104 : decode cX9_doLast 104 = .ok (.istore 10, 2) := by decide +kernel
theorem dX9_doLast_106 : decode cX9_doLast 106 = .ok (.iload_n 1, 1) := by decide +kernel
theorem dX9_doLast_107 : decode cX9_doLast 107 = .ok (.aload_n 0, 1) := by decide +kernel
theorem dX9_doLast_108 : decode cX9_doLast 108 = .ok (.iload_n 2, 1) := by decide +kernel
theorem dX9_doLast_109 : decode cX9_doLast 109 = .ok (.iload 10, 2) := by decide +kernel
theorem dX9_doLast_111 : decode cX9_doLast 111 = .ok (.iconst (-1), 1) := by decide +kernel
theorem dX9_doLast_112 : decode cX9_doLast 112 = .ok (.ixor, 1) := by decide +kernel
theorem dX9_doLast_113 : decode cX9_doLast 113 = .ok (.iand, 1) := by decide +kernel
theorem dX9_doLast_114 : decode cX9_doLast 114 = .ok (.invokevirtual 223, 3) := by decide +kernel
theorem dX9_doLast_117 : decode cX9_doLast 117 = .ok (.iconst (-1), 1) := by decide +kernel
theorem dX9_doLast_118 : decode cX9_doLast 118 = .ok (.ixor, 1) := by decide +kernel
theorem dX9_doLast_119 : decode cX9_doLast 119 = .ok (.iand, 1) := by decide +kernel
theorem dX9_doLast_120 : decode cX9_doLast 120 = .ok (.ifCond .eq 5, 3) := by decide +kernel
theorem dX9_doLast_123 : decode cX9_doLast 123 = .ok (.iconst 0, 1) := by decide +kernel
theorem dX9_doLast_124 : decode cX9_doLast 124 = .ok (.ireturn, 1) := by decide +kernel
theorem dX9_doLast_125 : decode cX9_doLast 125 = .ok (.iload 4, 2) := by decide +kernel
theorem dX9_doLast_127 : decode cX9_doLast 127 = .ok (.iconst 2, 1) := by decide +kernel
theorem dX9_doLast_128 : decode cX9_doLast 128 = .ok (.if_icmp .le 8, 3) := by decide +kernel
theorem dX9_doLast_131 : decode cX9_doLast 131 = .ok (.iload 9, 2) := by decide +kernel
theorem dX9_doLast_133 : decode cX9_doLast 133 = .ok (.goto 5, 3) := by decide +kernel
theorem dX9_doLast_136 : decode cX9_doLast 136 = .ok (.iload 7, 2) := by decide +kernel
theorem dX9_doLast_138 : decode cX9_doLast 138 = .ok (.istore 9, 2) := by decide +kernel
theorem dX9_doLast_140 : decode cX9_doLast 140 = .ok (.iinc 9 1, 3) := by decide +kernel
theorem dX9_doLast_143 : decode cX9_doLast 143 = .ok (.goto (-66), 3) := by decide +kernel
theorem dX9_doLast_146 : decode cX9_doLast 146 = .ok (.iload 4, 2) := by decide +kernel
theorem dX9_doLast_148 : decode cX9_doLast 148 = .ok (.iconst 1, 1) := by decide +kernel
theorem dX9_doLast_149 : decode cX9_doLast 149 = .ok (.if_icmp .le 8, 3) := by decide +kernel
theorem dX9_doLast_152 : decode cX9_doLast 152 = .ok (.iload 7, 2) := by decide +kernel
theorem dX9_doLast_154 : decode cX9_doLast 154 = .ok (.goto 5, 3) := by decide +kernel
theorem dX9_doLast_157 : decode cX9_doLast 157 = .ok (.iload 5, 2) := by decide +kernel
theorem dX9_doLast_159 : decode cX9_doLast 159 = .ok (.istore 7, 2) := by decide +kernel
theorem dX9_doLast_161 : decode cX9_doLast 161 = .ok (.iinc 7 1, 3) := by decide +kernel
theorem dX9_doLast_164 : decode cX9_doLast 164 = .ok (.goto (-124), 3) := by decide +kernel
theorem dX9_doLast_167 : decode cX9_doLast 167 = .ok (.iinc 5 1, 3) := by decide +kernel
theorem dX9_doLast_170 : decode cX9_doLast 170 = .ok (.goto (-153), 3) := by decide +kernel
theorem dX9_doLast_173 : decode cX9_doLast 173 = .ok (.iconst 1, 1) := by decide +kernel
theorem dX9_doLast_174 : decode cX9_doLast 174 = .ok (.ireturn, 1) := by decide +kernel
theorem dX9_lasts_0 : decode cX9_lasts 0 = .ok (.aload_n 0, 1) := by decide +kernel
theorem dX9_lasts_1 : decode cX9_lasts 1 = .ok (.iload_n 1, 1) := by decide +kernel
theorem dX9_lasts_2 : decode cX9_lasts 2 = .ok (.invokevirtual 252, 3) := by decide +kernel
theorem dX9_lasts_5 : decode cX9_lasts 5 = .ok (.ifCond .ne 6, 3) := by decide +kernel
theorem dX9_lasts_8 : decode cX9_lasts 8 = .ok (.ldc 205, 2) := by decide +kernel
theorem dX9_lasts_10 : decode cX9_lasts 10 = .ok (.ireturn, 1) := by decide +kernel
theorem dX9_lasts_11 : decode cX9_lasts 11 = .ok (.iload_n 2, 1) := by decide +kernel
theorem dX9_lasts_12 : decode cX9_lasts 12 = .ok (.i2l, 1) := by decide +kernel
theorem dX9_lasts_13 : decode cX9_lasts 13 = .ok (.lconst 0, 1) := by decide +kernel
theorem dX9_lasts_14 : decode cX9_lasts 14 = .ok (.ldc2_w 206, 3) := by decide +kernel
theorem dX9_lasts_17 : decode cX9_lasts 17 = .ok (.invokestatic 92, 3) := by decide +kernel
theorem dX9_lasts_20 : decode cX9_lasts 20 = .ok (.ifCond .ne 6, 3) := by decide +kernel
theorem dX9_lasts_23 : decode cX9_lasts 23 = .ok (.ldc 96, 2) := by decide +kernel
theorem dX9_lasts_25 : decode cX9_lasts 25 = .ok (.ireturn, 1) := by decide +kernel
theorem dX9_lasts_26 : decode cX9_lasts 26 = .ok (.aload_n 0, 1) := by decide +kernel
theorem dX9_lasts_27 : decode cX9_lasts 27 = .ok (.iload_n 1, 1) := by decide +kernel
theorem dX9_lasts_28 : decode cX9_lasts 28 = .ok (.aload_n 0, 1) := by decide +kernel
theorem dX9_lasts_29 : decode cX9_lasts 29 = .ok (.iconst 0, 1) := by decide +kernel
theorem dX9_lasts_30 : decode cX9_lasts 30 = .ok (.invokevirtual 198, 3) := by decide +kernel
theorem dX9_lasts_33 : decode cX9_lasts 33 = .ok (.aload_n 0, 1) := by decide +kernel
theorem dX9_lasts_34 : decode cX9_lasts 34 = .ok (.iconst 0, 1) := by decide +kernel
theorem dX9_lasts_35 : decode cX9_lasts 35 = .ok (.invokevirtual 198, 3) := by decide +kernel
theorem dX9_lasts_38 : decode cX9_lasts 38 = .ok (.aload_n 0, 1) := by decide +kernel
theorem dX9_lasts_39 : decode cX9_lasts 39 = .ok (.getfield 192, 3) := by decide +kernel
theorem dX9_lasts_42 : decode cX9_lasts 42 = .ok (.iconst (-1), 1) := by decide +kernel
theorem dX9_lasts_43 : decode cX9_lasts 43 = .ok (.ixor, 1) := by decide +kernel
theorem dX9_lasts_44 : decode cX9_lasts 44 = .ok (.iand, 1) := by decide +kernel
theorem dX9_lasts_45 : decode cX9_lasts 45 = .ok (.iload_n 2, 1) := by decide +kernel
theorem dX9_lasts_46 : decode cX9_lasts 46 = .ok (.invokevirtual 255, 3) := by decide +kernel
theorem dX9_lasts_49 : decode cX9_lasts 49 = .ok (.ifCond .eq 7, 3) := by decide +kernel
theorem dX9_lasts_52 : decode cX9_lasts 52 = .ok (.iconst 1, 1) := by decide +kernel
theorem dX9_lasts_53 : decode cX9_lasts 53 = .ok (.goto 4, 3) := by decide +kernel
theorem dX9_lasts_56 : decode cX9_lasts 56 = .ok (.iconst 0, 1) := by decide +kernel
theorem dX9_lasts_57 : decode cX9_lasts 57 = .ok (.ireturn, 1) := by decide +kernel
theorem dX9_hems_0 : decode cX9_hems 0 = .ok (.aload_n 0, 1) := by decide +kernel
theorem dX9_hems_1 : decode cX9_hems 1 = .ok (.iload_n 1, 1) := by decide +kernel
theorem dX9_hems_2 : decode cX9_hems 2 = .ok (.invokevirtual 252, 3) := by decide +kernel
theorem dX9_hems_5 : decode cX9_hems 5 = .ok (.ifCond .ne 6, 3) := by decide +kernel
theorem dX9_hems_8 : decode cX9_hems 8 = .ok (.ldc 205, 2) := by decide +kernel
theorem dX9_hems_10 : decode cX9_hems 10 = .ok (.ireturn, 1) := by decide +kernel
theorem dX9_hems_11 : decode cX9_hems 11 = .ok (.iload_n 2, 1) := by decide +kernel
theorem dX9_hems_12 : decode cX9_hems 12 = .ok (.i2l, 1) := by decide +kernel
theorem dX9_hems_13 : decode cX9_hems 13 = .ok (.lconst 1, 1) := by decide +kernel
theorem dX9_hems_14 : decode cX9_hems 14 = .ok (.ldc2_w 258, 3) := by decide +kernel
theorem dX9_hems_17 : decode cX9_hems 17 = .ok (.invokestatic 92, 3) := by decide +kernel
theorem dX9_hems_20 : decode cX9_hems 20 = .ok (.ifCond .ne 6, 3) := by decide +kernel
theorem dX9_hems_23 : decode cX9_hems 23 = .ok (.ldc 96, 2) := by decide +kernel
theorem dX9_hems_25 : decode cX9_hems 25 = .ok (.ireturn, 1) := by decide +kernel
theorem dX9_hems_26 : decode cX9_hems 26 = .ok (.aload_n 0, 1) := by decide +kernel
theorem dX9_hems_27 : decode cX9_hems 27 = .ok (.iconst 0, 1) := by decide +kernel
theorem dX9_hems_28 : decode cX9_hems 28 = .ok (.invokevirtual 198, 3) := by decide +kernel
theorem dX9_hems_31 : decode cX9_hems 31 = .ok (.istore_n 3, 1) := by decide +kernel
theorem dX9_hems_32 : decode cX9_hems 32 = .ok (.iload_n 3, 1) := by decide +kernel
theorem dX9_hems_33 : decode cX9_hems 33 = .ok (.aload_n 0, 1) := by decide +kernel
theorem dX9_hems_34 : decode cX9_hems 34 = .ok (.getfield 192, 3) := by decide +kernel
theorem dX9_hems_37 : decode cX9_hems 37 = .ok (.iconst (-1), 1) := by decide +kernel
theorem dX9_hems_38 : decode cX9_hems 38 = .ok (.ixor, 1) := by decide +kernel
theorem dX9_hems_39 : decode cX9_hems 39 = .ok (.iand, 1) := by decide +kernel
theorem dX9_hems_40 : decode cX9_hems 40 = .ok (.istore 4, 2) := by decide +kernel
theorem dX9_hems_42 : decode cX9_hems 42 = .ok (.iconst (-1), 1) := by decide +kernel
theorem dX9_hems_43 : decode cX9_hems 43 = .ok (.istore 5, 2) := by decide +kernel
theorem dX9_hems_45 : decode cX9_hems 45 = .ok (.iconst 0, 1) := by decide +kernel
theorem dX9_hems_46 : decode cX9_hems 46 = .ok (.istore 6, 2) := by decide +kernel
theorem dX9_hems_48 : decode cX9_hems 48 = .ok (.iload 6, 2) := by decide +kernel
theorem dX9_hems_50 : decode cX9_hems 50 = .ok (.iconst 1, 1) := by decide +kernel
theorem dX9_hems_51 : decode cX9_hems 51 = .ok (.aload_n 0, 1) := by decide +kernel
theorem dX9_hems_52 : decode cX9_hems 52 = .ok (.getfield 186, 3) := by decide +kernel
theorem dX9_hems_55 : decode cX9_hems 55 = .ok (.ishl, 1) := by decide +kernel
theorem dX9_hems_56 : decode cX9_hems 56 = .ok (.if_icmp .ge 64, 3) := by decide +kernel
theorem dX9_hems_59 : decode cX9_hems 59 = .ok (.iload 6, 2) := by decide +kernel
theorem dX9_hems_61 : decode cX9_hems 61 = .ok (.iload 4, 2) := by decide +kernel
theorem dX9_hems_63 : decode cX9_hems 63 = .ok (.iconst (-1), 1) := by decide +kernel
theorem dX9_hems_64 : decode cX9_hems 64 = .ok (.ixor, 1) := by decide +kernel
theorem dX9_hems_65 : decode cX9_hems 65 = .ok (.iand, 1) := by decide +kernel
theorem dX9_hems_66 : decode cX9_hems 66 = .ok (.ifCond .ne 48, 3) := by decide +kernel
theorem dX9_hems_69 : decode cX9_hems 69 = .ok (.iload 5, 2) := by decide +kernel
theorem dX9_hems_71 : decode cX9_hems 71 = .ok (.iconst (-1), 1) := by decide +kernel
theorem dX9_hems_72 : decode cX9_hems 72 = .ok (.if_icmp .eq 16, 3) := by decide +kernel
theorem dX9_hems_75 : decode cX9_hems 75 = .ok (.iload 6, 2) := by decide +kernel
theorem dX9_hems_77 : decode cX9_hems 77 = .ok (.invokestatic 231, 3) := by decide +kernel
theorem dX9_hems_80 : decode cX9_hems 80 = .ok (.iload 5, 2) := by decide +kernel
theorem dX9_hems_82 : decode cX9_hems 82 = .ok (.invokestatic 231, 3) := by decide +kernel
theorem dX9_hems_85 : decode cX9_hems 85 = .ok (.if_icmp .ge 29, 3) := by decide +kernel
theorem dX9_hems_88 : decode cX9_hems 88 = .ok (.aload_n 0, 1) := by decide +kernel
theorem dX9_hems_89 : decode cX9_hems 89 = .ok (.iload_n 1, 1) := by decide +kernel
theorem dX9_hems_90 : decode cX9_hems 90 = .ok (.iload_n 3, 1) := by decide +kernel
theorem dX9_hems_91 : decode cX9_hems 91 = .ok (.iload 4, 2) := by decide +kernel
theorem dX9_hems_93 : decode cX9_hems 93 = .ok (.iload 6, 2) := by decide +kernel
theorem dX9_hems_95 : decode cX9_hems 95 = .ok (.iconst (-1), 1) := by decide +kernel
theorem dX9_hems_96 : decode cX9_hems 96 = .ok (.ixor, 1) := by decide +kernel
theorem dX9_hems_97 : decode cX9_hems 97 = .ok (.iand, 1) := by decide +kernel
theorem dX9_hems_98 : decode cX9_hems 98 = .ok (.iload_n 2, 1) := by decide +kernel
theorem dX9_hems_99 : decode cX9_hems 99 = .ok (.invokevirtual 255, 3) := by decide +kernel
theorem dX9_hems_102 : decode cX9_hems 102 = .ok (.ifCond .eq 8, 3) := by decide +kernel
theorem dX9_hems_105 : decode cX9_hems 105 = .ok (.iload 6, 2) := by decide +kernel
theorem dX9_hems_107 : decode cX9_hems 107 = .ok (.goto 5, 3) := by decide +kernel
theorem dX9_hems_110 : decode cX9_hems 110 = .ok (.iload 5, 2) := by decide +kernel
theorem dX9_hems_112 : decode cX9_hems 112 = .ok (.istore 5, 2) := by decide +kernel
theorem dX9_hems_114 : decode cX9_hems 114 = .ok (.iinc 6 1, 3) := by decide +kernel
theorem dX9_hems_117 : decode cX9_hems 117 = .ok (.goto (-69), 3) := by decide +kernel
theorem dX9_hems_120 : decode cX9_hems 120 = .ok (.iload 5, 2) := by decide +kernel
theorem dX9_hems_122 : decode cX9_hems 122 = .ok (.ireturn, 1) := by decide +kernel
theorem dX9_thread_0 : decode cX9_thread 0 = .ok (.iload_n 1, 1) := by decide +kernel
theorem dX9_thread_1 : decode cX9_thread 1 = .ok (.i2l, 1) := by decide +kernel
theorem dX9_thread_2 : decode cX9_thread 2 = .ok (.lconst 0, 1) := by decide +kernel
theorem dX9_thread_3 : decode cX9_thread 3 = .ok (.ldc2_w 258, 3) := by decide +kernel
theorem dX9_thread_6 : decode cX9_thread 6 = .ok (.invokestatic 92, 3) := by decide +kernel
theorem dX9_thread_9 : decode cX9_thread 9 = .ok (.ifCond .eq 13, 3) := by decide +kernel
theorem dX9_thread_12 : decode cX9_thread 12 = .ok (.iload_n 2, 1) := by decide +kernel
theorem dX9_thread_13 : decode cX9_thread 13 = .ok (.i2l, 1) := by decide +kernel
theorem dX9_thread_14 : decode cX9_thread 14 = .ok (.lconst 0, 1) := by decide +kernel
theorem dX9_thread_15 : decode cX9_thread 15 = .ok (.lconst 1, 1) := by decide +kernel
theorem dX9_thread_16 : decode cX9_thread 16 = .ok (.invokestatic 92, 3) := by decide +kernel
theorem dX9_thread_19 : decode cX9_thread 19 = .ok (.ifCond .ne 6, 3) := by decide +kernel
theorem dX9_thread_22 : decode cX9_thread 22 = .ok (.ldc 96, 2) := by decide +kernel
theorem dX9_thread_24 : decode cX9_thread 24 = .ok (.ireturn, 1) := by decide +kernel
theorem dX9_thread_25 : decode cX9_thread 25 = .ok (.aload_n 0, 1) := by decide +kernel
theorem dX9_thread_26 : decode cX9_thread 26 = .ok (.iconst 0, 1) := by decide +kernel
theorem dX9_thread_27 : decode cX9_thread 27 = .ok (.invokevirtual 198, 3) := by decide +kernel
theorem dX9_thread_30 : decode cX9_thread 30 = .ok (.istore_n 3, 1) := by decide +kernel
theorem dX9_thread_31 : decode cX9_thread 31 = .ok (.iconst (-1), 1) := by decide +kernel
theorem dX9_thread_32 : decode cX9_thread 32 = .ok (.istore 4, 2) := by decide +kernel
theorem dX9_thread_34 : decode cX9_thread 34 = .ok (.iconst 0, 1) := by decide +kernel
theorem dX9_thread_35 : decode cX9_thread 35 = .ok (.istore 5, 2) := by decide +kernel
theorem dX9_thread_37 : decode cX9_thread 37 = .ok (.iconst 0, 1) := by decide +kernel
theorem dX9_thread_38 : decode cX9_thread 38 = .ok (.istore 6, 2) := by decide +kernel
theorem dX9_thread_40 : decode cX9_thread 40 = .ok (.iload 6, 2) := by decide +kernel
theorem dX9_thread_42 : decode cX9_thread 42 = .ok (.iconst 1, 1) := by decide +kernel
theorem dX9_thread_43 : decode cX9_thread 43 = .ok (.aload_n 0, 1) := by decide +kernel
theorem dX9_thread_44 : decode cX9_thread 44 = .ok (.getfield 189, 3) := by decide +kernel
theorem dX9_thread_47 : decode cX9_thread 47 = .ok (.ishl, 1) := by decide +kernel
theorem dX9_thread_48 : decode cX9_thread 48 = .ok (.if_icmp .ge 110, 3) := by decide +kernel
theorem dX9_thread_51 : decode cX9_thread 51 = .ok (.iconst 0, 1) := by decide +kernel
theorem dX9_thread_52 : decode cX9_thread 52 = .ok (.istore 7, 2) := by decide +kernel
theorem dX9_thread_54 : decode cX9_thread 54 = .ok (.iconst 0, 1) := by decide +kernel
theorem dX9_thread_55 : decode cX9_thread 55 = .ok (.istore 8, 2) := by decide +kernel
theorem dX9_thread_57 : decode cX9_thread 57 = .ok (.iload 8, 2) := by decide +kernel
theorem dX9_thread_59 : decode cX9_thread 59 = .ok (.aload_n 0, 1) := by decide +kernel
theorem dX9_thread_60 : decode cX9_thread 60 = .ok (.getfield 189, 3) := by decide +kernel
theorem dX9_thread_63 : decode cX9_thread 63 = .ok (.if_icmp .ge 32, 3) := by decide +kernel
theorem dX9_thread_66 : decode cX9_thread 66 = .ok (.iload 7, 2) := by decide +kernel
theorem dX9_thread_68 : decode cX9_thread 68 = .ok (.iload 6, 2) := by decide +kernel
theorem dX9_thread_70 : decode cX9_thread 70 = .ok (.iload 8, 2) := by decide +kernel
theorem dX9_thread_72 : decode cX9_thread 72 = .ok (.ishr, 1) := by decide +kernel
theorem dX9_thread_73 : decode cX9_thread 73 = .ok (.iconst 1, 1) := by decide +kernel
theorem dX9_thread_74 : decode cX9_thread 74 = .ok (.iand, 1) := by decide +kernel
theorem dX9_thread_75 : decode cX9_thread 75 = .ok (.aload_n 0, 1) := by decide +kernel
theorem dX9_thread_76 : decode cX9_thread 76 = .ok (.getfield 49, 3) := by decide +kernel
theorem dX9_thread_79 : decode cX9_thread 79 = .ok (.bipush 12, 2) := by decide +kernel
theorem dX9_thread_81 : decode cX9_thread 81 = .ok (.iload 8, 2) := by decide +kernel
theorem dX9_thread_83 : decode cX9_thread 83 = .ok (.iadd, 1) := by decide +kernel
theorem dX9_thread_84 : decode cX9_thread 84 = .ok (.iaload, 1) := by decide +kernel
theorem dX9_thread_85 : decode cX9_thread 85 = .ok (.imul, 1) := by decide +kernel
theorem dX9_thread_86 : decode cX9_thread 86 = .ok (.iadd, 1) := by decide +kernel
theorem dX9_thread_87 : decode cX9_thread 87 = .ok (.istore 7, 2) := by decide +kernel
theorem dX9_thread_89 : decode cX9_thread 89 = .ok (.iinc 8 1, 3) := by decide +kernel
theorem dX9_thread_92 : decode cX9_thread 92 = .ok (.goto (-35), 3) := by decide +kernel
theorem dX9_thread_95 : decode cX9_thread 95 = .ok (.iload_n 3, 1) := by decide +kernel
theorem dX9_thread_96 : decode cX9_thread 96 = .ok (.iload 6, 2) := by decide +kernel
theorem dX9_thread_98 : decode cX9_thread 98 = .ok (.bipush 12, 2) := by decide +kernel
theorem dX9_thread_100 : decode cX9_thread 100 = .ok (.ishl, 1) := by decide +kernel
theorem dX9_thread_101 : decode cX9_thread 101 = .ok (.ior, 1) := by decide +kernel
theorem dX9_thread_102 : decode cX9_thread 102 = .ok (.istore 8, 2) := by decide +kernel
theorem dX9_thread_104 : decode cX9_thread 104 = .ok (.iload 4, 2) := by decide +kernel
theorem dX9_thread_106 : decode cX9_thread 106 = .ok (.iconst (-1), 1) := by decide +kernel
theorem dX9_thread_107 : decode cX9_thread 107 = .ok (.if_icmp .eq 10, 3) := by decide +kernel
theorem dX9_thread_110 : decode cX9_thread 110 = .ok (.iload 7, 2) := by decide +kernel
theorem dX9_thread_112 : decode cX9_thread 112 = .ok (.iload 5, 2) := by decide +kernel
theorem dX9_thread_114 : decode cX9_thread 114 = .ok (.if_icmp .ge 38, 3) := by decide +kernel
theorem dX9_thread_117 : decode cX9_thread 117 = .ok (.aload_n 0, 1) := by decide +kernel
theorem dX9_thread_118 : decode cX9_thread 118 = .ok (.iconst 1, 1) := by decide +kernel
theorem dX9_thread_119 : decode cX9_thread 119 = .ok (.aload_n 0, 1) := by decide +kernel
theorem dX9_thread_120 : decode cX9_thread 120 = .ok (.getfield 180, 3) := by decide +kernel
theorem dX9_thread_123 : decode cX9_thread 123 = .ok (.ishl, 1) := by decide +kernel
theorem dX9_thread_124 : decode cX9_thread 124 = .ok (.iconst 1, 1) := by decide +kernel
theorem dX9_thread_125 : decode cX9_thread 125 = .ok (.isub, 1) := by decide +kernel
theorem dX9_thread_126 : decode cX9_thread 126 = .ok (.iload 8, 2) := by decide +kernel
theorem dX9_thread_128 : decode cX9_thread 128 = .ok (.iload 8, 2) := by decide +kernel
theorem dX9_thread_130 : decode cX9_thread 130 = .ok (.aload_n 0, 1) := by decide +kernel
theorem dX9_thread_131 : decode cX9_thread 131 = .ok (.getfield 192, 3) := by decide +kernel
theorem dX9_thread_134 : decode cX9_thread 134 = .ok (.iconst (-1), 1) := by decide +kernel
theorem dX9_thread_135 : decode cX9_thread 135 = .ok (.ixor, 1) := by decide +kernel
theorem dX9_thread_136 : decode cX9_thread 136 = .ok (.iand, 1) := by decide +kernel
theorem dX9_thread_137 : decode cX9_thread 137 = .ok (.iload_n 1, 1) := by decide +kernel
theorem dX9_thread_138 : decode cX9_thread 138 = .ok (.invokevirtual 255, 3) := by decide +kernel
theorem dX9_thread_141 : decode cX9_thread 141 = .ok (.ifCond .eq 11, 3) := by decide +kernel
theorem dX9_thread_144 : decode cX9_thread 144 = .ok (.iload 6, 2) := by decide +kernel
theorem dX9_thread_146 : decode cX9_thread 146 = .ok (.istore 4, 2) := by decide +kernel
theorem dX9_thread_148 : decode cX9_thread 148 = .ok (.iload 7, 2) := by decide +kernel
theorem dX9_thread_150 : decode cX9_thread 150 = .ok (.istore 5, 2) := by decide +kernel
theorem dX9_thread_152 : decode cX9_thread 152 = .ok (.iinc 6 1, 3) := by decide +kernel
theorem dX9_thread_155 : decode cX9_thread 155 = .ok (.goto (-115), 3) := by decide +kernel
theorem dX9_thread_158 : decode cX9_thread 158 = .ok (.iload 4, 2) := by decide +kernel
theorem dX9_thread_160 : decode cX9_thread 160 = .ok (.iconst (-1), 1) := by decide +kernel
theorem dX9_thread_161 : decode cX9_thread 161 = .ok (.if_icmp .ne 7, 3) := by decide +kernel
theorem dX9_thread_164 : decode cX9_thread 164 = .ok (.iconst (-1), 1) := by decide +kernel
theorem dX9_thread_165 : decode cX9_thread 165 = .ok (.goto 14, 3) := by decide +kernel
theorem dX9_thread_168 : decode cX9_thread 168 = .ok (.iload_n 2, 1) := by decide +kernel
theorem dX9_thread_169 : decode cX9_thread 169 = .ok (.ifCond .ne 8, 3) := by decide +kernel
theorem dX9_thread_172 : decode cX9_thread 172 = .ok (.iload 5, 2) := by decide +kernel
theorem dX9_thread_174 : decode cX9_thread 174 = .ok (.goto 5, 3) := by decide +kernel
theorem dX9_thread_177 : decode cX9_thread 177 = .ok (.iload 4, 2) := by decide +kernel
theorem dX9_thread_179 : decode cX9_thread 179 = .ok (.ireturn, 1) := by decide +kernel
theorem dX9_odds_0 : decode cX9_odds 0 = .ok (.aload_n 0, 1) := by decide +kernel
theorem dX9_odds_1 : decode cX9_odds 1 = .ok (.iload_n 1, 1) := by decide +kernel
theorem dX9_odds_2 : decode cX9_odds 2 = .ok (.invokevirtual 212, 3) := by decide +kernel
theorem dX9_odds_5 : decode cX9_odds 5 = .ok (.ifCond .ne 6, 3) := by decide +kernel
theorem dX9_odds_8 : decode cX9_odds 8 = .ok (.ldc 205, 2) := by decide +kernel
theorem dX9_odds_10 : decode cX9_odds 10 = .ok (.ireturn, 1) := by decide +kernel
theorem dX9_odds_11 : decode cX9_odds 11 = .ok (.iload_n 2, 1) := by decide +kernel
theorem dX9_odds_12 : decode cX9_odds 12 = .ok (.i2l, 1) := by decide +kernel
theorem dX9_odds_13 : decode cX9_odds 13 = .ok (.lconst 0, 1) := by decide +kernel
theorem dX9_odds_14 : decode cX9_odds 14 = .ok (.ldc2_w 260, 3) := by decide +kernel
theorem dX9_odds_17 : decode cX9_odds 17 = .ok (.invokestatic 92, 3) := by decide +kernel
theorem dX9_odds_20 : decode cX9_odds 20 = .ok (.ifCond .ne 6, 3) := by decide +kernel
theorem dX9_odds_23 : decode cX9_odds 23 = .ok (.ldc 96, 2) := by decide +kernel
theorem dX9_odds_25 : decode cX9_odds 25 = .ok (.ireturn, 1) := by decide +kernel
theorem dX9_odds_26 : decode cX9_odds 26 = .ok (.aload_n 0, 1) := by decide +kernel
theorem dX9_odds_27 : decode cX9_odds 27 = .ok (.iconst 0, 1) := by decide +kernel
theorem dX9_odds_28 : decode cX9_odds 28 = .ok (.invokevirtual 198, 3) := by decide +kernel
theorem dX9_odds_31 : decode cX9_odds 31 = .ok (.istore_n 3, 1) := by decide +kernel
theorem dX9_odds_32 : decode cX9_odds 32 = .ok (.iconst 0, 1) := by decide +kernel
theorem dX9_odds_33 : decode cX9_odds 33 = .ok (.istore 4, 2) := by decide +kernel
theorem dX9_odds_35 : decode cX9_odds 35 = .ok (.iload 4, 2) := by decide +kernel
theorem dX9_odds_37 : decode cX9_odds 37 = .ok (.iconst 1, 1) := by decide +kernel
theorem dX9_odds_38 : decode cX9_odds 38 = .ok (.aload_n 0, 1) := by decide +kernel
theorem dX9_odds_39 : decode cX9_odds 39 = .ok (.getfield 186, 3) := by decide +kernel
theorem dX9_odds_42 : decode cX9_odds 42 = .ok (.ishl, 1) := by decide +kernel
theorem dX9_odds_43 : decode cX9_odds 43 = .ok (.if_icmp .ge 28, 3) := by decide +kernel
theorem dX9_odds_46 : decode cX9_odds 46 = .ok (.aload_n 0, 1) := by decide +kernel
theorem dX9_odds_47 : decode cX9_odds 47 = .ok (.getfield 52, 3) := by decide +kernel
theorem dX9_odds_50 : decode cX9_odds 50 = .ok (.iload 4, 2) := by decide +kernel
theorem dX9_odds_52 : decode cX9_odds 52 = .ok (.iload 4, 2) := by decide +kernel
theorem dX9_odds_54 : decode cX9_odds 54 = .ok (.ifCond .ne 9, 3) := by decide +kernel
theorem dX9_odds_57 : decode cX9_odds 57 = .ok (.ldc2_w 262, 3) := by decide +kernel
theorem dX9_odds_60 : decode cX9_odds 60 = .ok (.goto 4, 3) := by decide +kernel
theorem dX9_odds_63 : decode cX9_odds 63 = .ok (.lconst 0, 1) := by decide +kernel
theorem dX9_odds_64 : decode cX9_odds 64 = .ok (.lastore, 1) := by decide +kernel
theorem dX9_odds_65 : decode cX9_odds 65 = .ok (.iinc 4 1, 3) := by decide +kernel
theorem dX9_odds_68 : decode cX9_odds 68 = .ok (.goto (-33), 3) := by decide +kernel
theorem dX9_odds_71 : decode cX9_odds 71 = .ok (.iconst 0, 1) := by decide +kernel
theorem dX9_odds_72 : decode cX9_odds 72 = .ok (.istore 4, 2) := by decide +kernel
theorem dX9_odds_74 : decode cX9_odds 74 = .ok (.iload 4, 2) := by decide +kernel
theorem dX9_odds_76 : decode cX9_odds 76 = .ok (.aload_n 0, 1) := by decide +kernel
theorem dX9_odds_77 : decode cX9_odds 77 = .ok (.getfield 186, 3) := by decide +kernel
theorem dX9_odds_80 : decode cX9_odds 80 = .ok (.if_icmp .ge 97, 3) := by decide +kernel
theorem dX9_odds_83 : decode cX9_odds 83 = .ok (.iload_n 3, 1) := by decide +kernel
theorem dX9_odds_84 : decode cX9_odds 84 = .ok (.aload_n 0, 1) := by decide +kernel
theorem dX9_odds_85 : decode cX9_odds 85 = .ok (.getfield 192, 3) := by decide +kernel
theorem dX9_odds_88 : decode cX9_odds 88 = .ok (.iconst (-1), 1) := by decide +kernel
theorem dX9_odds_89 : decode cX9_odds 89 = .ok (.ixor, 1) := by decide +kernel
theorem dX9_odds_90 : decode cX9_odds 90 = .ok (.iand, 1) := by decide +kernel
theorem dX9_odds_91 : decode cX9_odds 91 = .ok (.iconst 1, 1) := by decide +kernel
theorem dX9_odds_92 : decode cX9_odds 92 = .ok (.iload 4, 2) := by decide +kernel
theorem dX9_odds_94 : decode cX9_odds 94 = .ok (.ishl, 1) := by decide +kernel
theorem dX9_odds_95 : decode cX9_odds 95 = .ok (.iand, 1) := by decide +kernel
theorem dX9_odds_96 : decode cX9_odds 96 = .ok (.ifCond .eq 7, 3) := by decide +kernel
theorem dX9_odds_99 : decode cX9_odds 99 = .ok (.iconst 1, 1) := by decide +kernel
theorem dX9_odds_100 : decode cX9_odds 100 = .ok (.goto 4, 3) := by decide +kernel
theorem dX9_odds_103 : decode cX9_odds 103 = .ok (.iconst 0, 1) := by decide +kernel
theorem dX9_odds_104 : decode cX9_odds 104 = .ok (.istore 5, 2) := by decide +kernel
theorem dX9_odds_106 : decode cX9_odds 106 = .ok (.iconst 0, 1) := by decide +kernel
theorem dX9_odds_107 : decode cX9_odds 107 = .ok (.istore 6, 2) := by decide +kernel
theorem dX9_odds_109 : decode cX9_odds 109 = .ok (.iload 6, 2) := by decide +kernel
theorem dX9_odds_111 : decode cX9_odds 111 = .ok (.iconst 1, 1) := by decide +kernel
theorem dX9_odds_112 : decode cX9_odds 112 = .ok (.iload 4, 2) := by decide +kernel
theorem dX9_odds_114 : decode cX9_odds 114 = .ok (.ishl, 1) := by decide +kernel
theorem dX9_odds_115 : decode cX9_odds 115 = .ok (.if_icmp .ge 56, 3) := by decide +kernel
theorem dX9_odds_118 : decode cX9_odds 118 = .ok (.iload 5, 2) := by decide +kernel
theorem dX9_odds_120 : decode cX9_odds 120 = .ok (.ifCond .eq 51, 3) := by decide +kernel
theorem dX9_odds_123 : decode cX9_odds 123 = .ok (.aload_n 0, 1) := by decide +kernel
theorem dX9_odds_124 : decode cX9_odds 124 = .ok (.getfield 52, 3) := by decide +kernel
theorem dX9_odds_127 : decode cX9_odds 127 = .ok (.iload 6, 2) := by decide +kernel
theorem dX9_odds_129 : decode cX9_odds 129 = .ok (.laload, 1) := by decide +kernel
theorem dX9_odds_130 : decode cX9_odds 130 = .ok (.iload_n 2, 1) := by decide +kernel
theorem dX9_odds_131 : decode cX9_odds 131 = .ok (.i2l, 1) := by decide +kernel
theorem dX9_odds_132 : decode cX9_odds 132 = .ok (.lmul, 1) := by decide +kernel
theorem dX9_odds_133 : decode cX9_odds 133 = .ok (.ldc2_w 260, 3) := by decide +kernel
theorem dX9_odds_136 : decode cX9_odds 136 = .ok (.ldiv, 1) := by decide +kernel
theorem dX9_odds_137 : decode cX9_odds 137 = .ok (.lstore 7, 2) := by decide +kernel
theorem dX9_odds_139 : decode cX9_odds 139 = .ok (.aload_n 0, 1) := by decide +kernel
theorem dX9_odds_140 : decode cX9_odds 140 = .ok (.getfield 52, 3) := by decide +kernel
theorem dX9_odds_143 : decode cX9_odds 143 = .ok (.iload 6, 2) := by decide +kernel
theorem dX9_odds_145 : decode cX9_odds 145 = .ok (.iconst 1, 1) := by decide +kernel
theorem dX9_odds_146 : decode cX9_odds 146 = .ok (.iload 4, 2) := by decide +kernel
theorem dX9_odds_148 : decode cX9_odds 148 = .ok (.ishl, 1) := by decide +kernel
theorem dX9_odds_149 : decode cX9_odds 149 = .ok (.ior, 1) := by decide +kernel
theorem dX9_odds_150 : decode cX9_odds 150 = .ok (.lload 7, 2) := by decide +kernel
theorem dX9_odds_152 : decode cX9_odds 152 = .ok (.lastore, 1) := by decide +kernel
theorem dX9_odds_153 : decode cX9_odds 153 = .ok (.aload_n 0, 1) := by decide +kernel
theorem dX9_odds_154 : decode cX9_odds 154 = .ok (.getfield 52, 3) := by decide +kernel
theorem dX9_odds_157 : decode cX9_odds 157 = .ok (.iload 6, 2) := by decide +kernel
theorem dX9_odds_159 : decode cX9_odds 159 = .ok (.dup2, 1) := by decide +kernel
theorem dX9_odds_160 : decode cX9_odds 160 = .ok (.laload, 1) := by decide +kernel
theorem dX9_odds_161 : decode cX9_odds 161 = .ok (.lload 7, 2) := by decide +kernel
theorem dX9_odds_163 : decode cX9_odds 163 = .ok (.lsub, 1) := by decide +kernel
theorem dX9_odds_164 : decode cX9_odds 164 = .ok (.lastore, 1) := by decide +kernel
theorem dX9_odds_165 : decode cX9_odds 165 = .ok (.iinc 6 1, 3) := by decide +kernel
theorem dX9_odds_168 : decode cX9_odds 168 = .ok (.goto (-59), 3) := by decide +kernel
theorem dX9_odds_171 : decode cX9_odds 171 = .ok (.iinc 4 1, 3) := by decide +kernel
theorem dX9_odds_174 : decode cX9_odds 174 = .ok (.goto (-100), 3) := by decide +kernel
theorem dX9_odds_177 : decode cX9_odds 177 = .ok (.lconst 0, 1) := by decide +kernel
theorem dX9_odds_178 : decode cX9_odds 178 = .ok (.lstore 4, 2) := by decide +kernel
theorem dX9_odds_180 : decode cX9_odds 180 = .ok (.iconst 0, 1) := by decide +kernel
theorem dX9_odds_181 : decode cX9_odds 181 = .ok (.istore 6, 2) := by decide +kernel
theorem dX9_odds_183 : decode cX9_odds 183 = .ok (.iload 6, 2) := by decide +kernel
theorem dX9_odds_185 : decode cX9_odds 185 = .ok (.iconst 1, 1) := by decide +kernel
theorem dX9_odds_186 : decode cX9_odds 186 = .ok (.aload_n 0, 1) := by decide +kernel
theorem dX9_odds_187 : decode cX9_odds 187 = .ok (.getfield 186, 3) := by decide +kernel
theorem dX9_odds_190 : decode cX9_odds 190 = .ok (.ishl, 1) := by decide +kernel
theorem dX9_odds_191 : decode cX9_odds 191 = .ok (.if_icmp .ge 67, 3) := by decide +kernel
theorem dX9_odds_194 : decode cX9_odds 194 = .ok (.aload_n 0, 1) := by decide +kernel
theorem dX9_odds_195 : decode cX9_odds 195 = .ok (.getfield 52, 3) := by decide +kernel
theorem dX9_odds_198 : decode cX9_odds 198 = .ok (.iload 6, 2) := by decide +kernel
theorem dX9_odds_200 : decode cX9_odds 200 = .ok (.laload, 1) := by decide +kernel
theorem dX9_odds_201 : decode cX9_odds 201 = .ok (.lconst 0, 1) := by decide +kernel
theorem dX9_odds_202 : decode cX9_odds 202 = .ok (.lcmp, 1) := by decide +kernel
theorem dX9_odds_203 : decode cX9_odds 203 = .ok (.ifCond .le 25, 3) := by decide +kernel
theorem dX9_odds_206 : decode cX9_odds 206 = .ok (.aload_n 0, 1) := by decide +kernel
theorem dX9_odds_207 : decode cX9_odds 207 = .ok (.iload_n 3, 1) := by decide +kernel
theorem dX9_odds_208 : decode cX9_odds 208 = .ok (.iload 6, 2) := by decide +kernel
theorem dX9_odds_210 : decode cX9_odds 210 = .ok (.iconst (-1), 1) := by decide +kernel
theorem dX9_odds_211 : decode cX9_odds 211 = .ok (.ixor, 1) := by decide +kernel
theorem dX9_odds_212 : decode cX9_odds 212 = .ok (.iand, 1) := by decide +kernel
theorem dX9_odds_213 : decode cX9_odds 213 = .ok (.invokevirtual 223, 3) := by decide +kernel
theorem dX9_odds_216 : decode cX9_odds 216 = .ok (.iload_n 1, 1) := by decide +kernel
theorem dX9_odds_217 : decode cX9_odds 217 = .ok (.ishr, 1) := by decide +kernel
theorem dX9_odds_218 : decode cX9_odds 218 = .ok (.iconst 1, 1) := by decide +kernel
theorem dX9_odds_219 : decode cX9_odds 219 = .ok (.iand, 1) := by decide +kernel
theorem dX9_odds_220 : decode cX9_odds 220 = .ok (.iconst 1, 1) := by decide +kernel
theorem dX9_odds_221 : decode cX9_odds 221 = .ok (.if_icmp .ne 7, 3) := by decide +kernel
theorem dX9_odds_224 : decode cX9_odds 224 = .ok (.iconst 1, 1) := by decide +kernel
theorem dX9_odds_225 : decode cX9_odds 225 = .ok (.goto 4, 3) := by decide +kernel
theorem dX9_odds_228 : decode cX9_odds 228 = .ok (.iconst 0, 1) := by decide +kernel
theorem dX9_odds_229 : decode cX9_odds 229 = .ok (.istore 7, 2) := by decide +kernel
theorem dX9_odds_231 : decode cX9_odds 231 = .ok (.lload 4, 2) := by decide +kernel
theorem dX9_odds_233 : decode cX9_odds 233 = .ok (.iload 7, 2) := by decide +kernel
theorem dX9_odds_235 : decode cX9_odds 235 = .ok (.ifCond .eq 13, 3) := by decide +kernel
theorem dX9_odds_238 : decode cX9_odds 238 = .ok (.aload_n 0, 1) := by decide +kernel
theorem dX9_odds_239 : decode cX9_odds 239 = .ok (.getfield 52, 3) := by decide +kernel
theorem dX9_odds_242 : decode cX9_odds 242 = .ok (.iload 6, 2) := by decide +kernel
theorem dX9_odds_244 : decode cX9_odds 244 = .ok (.laload, 1) := by decide +kernel
theorem dX9_odds_245 : decode cX9_odds 245 = .ok (.goto 4, 3) := by decide +kernel
theorem dX9_odds_248 : decode cX9_odds 248 = .ok (.lconst 0, 1) := by decide +kernel
theorem dX9_odds_249 : decode cX9_odds 249 = .ok (.ladd, 1) := by decide +kernel
theorem dX9_odds_250 : decode cX9_odds 250 = .ok (.lstore 4, 2) := by decide +kernel
theorem dX9_odds_252 : decode cX9_odds 252 = .ok (.iinc 6 1, 3) := by decide +kernel
theorem dX9_odds_255 : decode cX9_odds 255 = .ok (.goto (-72), 3) := by decide +kernel
theorem dX9_odds_258 : decode cX9_odds 258 = .ok (.lload 4, 2) := by decide +kernel
theorem dX9_odds_260 : decode cX9_odds 260 = .ok (.l2i, 1) := by decide +kernel
theorem dX9_odds_261 : decode cX9_odds 261 = .ok (.ireturn, 1) := by decide +kernel
theorem dX9_worth_0 : decode cX9_worth 0 = .ok (.aload_n 0, 1) := by decide +kernel
theorem dX9_worth_1 : decode cX9_worth 1 = .ok (.iload_n 3, 1) := by decide +kernel
theorem dX9_worth_2 : decode cX9_worth 2 = .ok (.invokevirtual 223, 3) := by decide +kernel
theorem dX9_worth_5 : decode cX9_worth 5 = .ok (.istore 4, 2) := by decide +kernel
theorem dX9_worth_7 : decode cX9_worth 7 = .ok (.iconst 3, 1) := by decide +kernel
theorem dX9_worth_8 : decode cX9_worth 8 = .ok (.iload 4, 2) := by decide +kernel
theorem dX9_worth_10 : decode cX9_worth 10 = .ok (.iload_n 1, 1) := by decide +kernel
theorem dX9_worth_11 : decode cX9_worth 11 = .ok (.ishr, 1) := by decide +kernel
theorem dX9_worth_12 : decode cX9_worth 12 = .ok (.iconst 1, 1) := by decide +kernel
theorem dX9_worth_13 : decode cX9_worth 13 = .ok (.iand, 1) := by decide +kernel
theorem dX9_worth_14 : decode cX9_worth 14 = .ok (.iload 4, 2) := by decide +kernel
theorem dX9_worth_16 : decode cX9_worth 16 = .ok (.iload_n 2, 1) := by decide +kernel
theorem dX9_worth_17 : decode cX9_worth 17 = .ok (.ishr, 1) := by decide +kernel
theorem dX9_worth_18 : decode cX9_worth 18 = .ok (.iconst 1, 1) := by decide +kernel
theorem dX9_worth_19 : decode cX9_worth 19 = .ok (.iand, 1) := by decide +kernel
theorem dX9_worth_20 : decode cX9_worth 20 = .ok (.isub, 1) := by decide +kernel
theorem dX9_worth_21 : decode cX9_worth 21 = .ok (.imul, 1) := by decide +kernel
theorem dX9_worth_22 : decode cX9_worth 22 = .ok (.ireturn, 1) := by decide +kernel
theorem dX9_opens_0 : decode cX9_opens 0 = .ok (.aload_n 0, 1) := by decide +kernel
theorem dX9_opens_1 : decode cX9_opens 1 = .ok (.getfield 56, 3) := by decide +kernel
theorem dX9_opens_4 : decode cX9_opens 4 = .ok (.iload_n 1, 1) := by decide +kernel
theorem dX9_opens_5 : decode cX9_opens 5 = .ok (.iload_n 2, 1) := by decide +kernel
theorem dX9_opens_6 : decode cX9_opens 6 = .ok (.iastore, 1) := by decide +kernel
theorem dX9_opens_7 : decode cX9_opens 7 = .ok (.aload_n 0, 1) := by decide +kernel
theorem dX9_opens_8 : decode cX9_opens 8 = .ok (.getfield 59, 3) := by decide +kernel
theorem dX9_opens_11 : decode cX9_opens 11 = .ok (.iload_n 1, 1) := by decide +kernel
theorem dX9_opens_12 : decode cX9_opens 12 = .ok (.iconst (-1), 1) := by decide +kernel
theorem dX9_opens_13 : decode cX9_opens 13 = .ok (.iastore, 1) := by decide +kernel
theorem dX9_opens_14 : decode cX9_opens 14 = .ok (.aload_n 0, 1) := by decide +kernel
theorem dX9_opens_15 : decode cX9_opens 15 = .ok (.getfield 62, 3) := by decide +kernel
theorem dX9_opens_18 : decode cX9_opens 18 = .ok (.iload_n 1, 1) := by decide +kernel
theorem dX9_opens_19 : decode cX9_opens 19 = .ok (.bipush (-9), 2) := by decide +kernel
theorem dX9_opens_21 : decode cX9_opens 21 = .ok (.iastore, 1) := by decide +kernel
theorem dX9_opens_22 : decode cX9_opens 22 = .ok (.return_, 1) := by decide +kernel
theorem dX9_plays_0 : decode cX9_plays 0 = .ok (.iconst 0, 1) := by decide +kernel
theorem dX9_plays_1 : decode cX9_plays 1 = .ok (.istore 4, 2) := by decide +kernel
theorem dX9_plays_3 : decode cX9_plays 3 = .ok (.iconst 0, 1) := by decide +kernel
theorem dX9_plays_4 : decode cX9_plays 4 = .ok (.istore 5, 2) := by decide +kernel
theorem dX9_plays_6 : decode cX9_plays 6 = .ok (.iconst 1, 1) := by decide +kernel
theorem dX9_plays_7 : decode cX9_plays 7 = .ok (.istore 6, 2) := by decide +kernel
theorem dX9_plays_9 : decode cX9_plays 9 = .ok (.aload_n 0, 1) := by decide +kernel
theorem dX9_plays_10 : decode cX9_plays 10 = .ok (.iconst 0, 1) := by decide +kernel
theorem dX9_plays_11 : decode cX9_plays 11 = .ok (.aload_n 0, 1) := by decide +kernel
theorem dX9_plays_12 : decode cX9_plays 12 = .ok (.iconst 0, 1) := by decide +kernel
theorem dX9_plays_13 : decode cX9_plays 13 = .ok (.invokevirtual 198, 3) := by decide +kernel
theorem dX9_plays_16 : decode cX9_plays 16 = .ok (.invokevirtual 264, 3) := by decide +kernel
theorem dX9_plays_19 : decode cX9_plays 19 = .ok (.iload 4, 2) := by decide +kernel
theorem dX9_plays_21 : decode cX9_plays 21 = .ok (.ifCond .lt 311, 3) := by decide +kernel
theorem dX9_plays_24 : decode cX9_plays 24 = .ok (.iload 4, 2) := by decide +kernel
theorem dX9_plays_26 : decode cX9_plays 26 = .ok (.iload_n 3, 1) := by decide +kernel
theorem dX9_plays_27 : decode cX9_plays 27 = .ok (.if_icmp .ne 51, 3) := by decide +kernel
theorem dX9_plays_30 : decode cX9_plays 30 = .ok (.iload 4, 2) := by decide +kernel
theorem dX9_plays_32 : decode cX9_plays 32 = .ok (.iconst 2, 1) := by decide +kernel
theorem dX9_plays_33 : decode cX9_plays 33 = .ok (.irem, 1) := by decide +kernel
theorem dX9_plays_34 : decode cX9_plays 34 = .ok (.ifCond .ne 19, 3) := by decide +kernel
theorem dX9_plays_37 : decode cX9_plays 37 = .ok (.aload_n 0, 1) := by decide +kernel
theorem dX9_plays_38 : decode cX9_plays 38 = .ok (.iload_n 1, 1) := by decide +kernel
theorem dX9_plays_39 : decode cX9_plays 39 = .ok (.iload_n 2, 1) := by decide +kernel
theorem dX9_plays_40 : decode cX9_plays 40 = .ok (.aload_n 0, 1) := by decide +kernel
theorem dX9_plays_41 : decode cX9_plays 41 = .ok (.getfield 56, 3) := by decide +kernel
theorem dX9_plays_44 : decode cX9_plays 44 = .ok (.iload 4, 2) := by decide +kernel
theorem dX9_plays_46 : decode cX9_plays 46 = .ok (.iaload, 1) := by decide +kernel
theorem dX9_plays_47 : decode cX9_plays 47 = .ok (.invokevirtual 267, 3) := by decide +kernel
theorem dX9_plays_50 : decode cX9_plays 50 = .ok (.goto 17, 3) := by decide +kernel
theorem dX9_plays_53 : decode cX9_plays 53 = .ok (.aload_n 0, 1) := by decide +kernel
theorem dX9_plays_54 : decode cX9_plays 54 = .ok (.iload_n 1, 1) := by decide +kernel
theorem dX9_plays_55 : decode cX9_plays 55 = .ok (.iload_n 2, 1) := by decide +kernel
theorem dX9_plays_56 : decode cX9_plays 56 = .ok (.aload_n 0, 1) := by decide +kernel
theorem dX9_plays_57 : decode cX9_plays 57 = .ok (.getfield 56, 3) := by decide +kernel
theorem dX9_plays_60 : decode cX9_plays 60 = .ok (.iload 4, 2) := by decide +kernel
theorem dX9_plays_62 : decode cX9_plays 62 = .ok (.iaload, 1) := by decide +kernel
theorem dX9_plays_63 : decode cX9_plays 63 = .ok (.invokevirtual 267, 3) := by decide +kernel
theorem dX9_plays_66 : decode cX9_plays 66 = .ok (.ineg, 1) := by decide +kernel
theorem dX9_plays_67 : decode cX9_plays 67 = .ok (.istore 5, 2) := by decide +kernel
theorem dX9_plays_69 : decode cX9_plays 69 = .ok (.iinc 4 (-1), 3) := by decide +kernel
theorem dX9_plays_72 : decode cX9_plays 72 = .ok (.iconst 0, 1) := by decide +kernel
theorem dX9_plays_73 : decode cX9_plays 73 = .ok (.istore 6, 2) := by decide +kernel
theorem dX9_plays_75 : decode cX9_plays 75 = .ok (.goto (-56), 3) := by decide +kernel
theorem dX9_plays_78 : decode cX9_plays 78 = .ok (.iload 4, 2) := by decide +kernel
theorem dX9_plays_80 : decode cX9_plays 80 = .ok (.iconst 2, 1) := by decide +kernel
theorem dX9_plays_81 : decode cX9_plays 81 = .ok (.irem, 1) := by decide +kernel
theorem dX9_plays_82 : decode cX9_plays 82 = .ok (.ifCond .ne 7, 3) := by decide +kernel
theorem dX9_plays_85 : decode cX9_plays 85 = .ok (.iload_n 1, 1) := by decide +kernel
theorem dX9_plays_86 : decode cX9_plays 86 = .ok (.goto 4, 3) := by decide +kernel
theorem dX9_plays_89 : decode cX9_plays 89 = .ok (.iload_n 2, 1) := by decide +kernel
theorem dX9_plays_90 : decode cX9_plays 90 = .ok (.istore 7, 2) := by decide +kernel
theorem dX9_plays_92 : decode cX9_plays 92 = .ok (.iload 6, 2) := by decide +kernel
theorem dX9_plays_94 : decode cX9_plays 94 = .ok (.ifCond .ne 86, 3) := by decide +kernel
theorem dX9_plays_97 : decode cX9_plays 97 = .ok (.iload 5, 2) := by decide +kernel
theorem dX9_plays_99 : decode cX9_plays 99 = .ok (.ineg, 1) := by decide +kernel
theorem dX9_plays_100 : decode cX9_plays 100 = .ok (.aload_n 0, 1) := by decide +kernel
theorem dX9_plays_101 : decode cX9_plays 101 = .ok (.getfield 62, 3) := by decide +kernel
theorem dX9_plays_104 : decode cX9_plays 104 = .ok (.iload 4, 2) := by decide +kernel
theorem dX9_plays_106 : decode cX9_plays 106 = .ok (.iaload, 1) := by decide +kernel
theorem dX9_plays_107 : decode cX9_plays 107 = .ok (.if_icmp .le 7, 3) := by decide +kernel
theorem dX9_plays_110 : decode cX9_plays 110 = .ok (.iconst 1, 1) := by decide +kernel
theorem dX9_plays_111 : decode cX9_plays 111 = .ok (.goto 4, 3) := by decide +kernel
theorem dX9_plays_114 : decode cX9_plays 114 = .ok (.iconst 0, 1) := by decide +kernel
theorem dX9_plays_115 : decode cX9_plays 115 = .ok (.istore 8, 2) := by decide +kernel
theorem dX9_plays_117 : decode cX9_plays 117 = .ok (.aload_n 0, 1) := by decide +kernel
theorem dX9_plays_118 : decode cX9_plays 118 = .ok (.iload 8, 2) := by decide +kernel
theorem dX9_plays_120 : decode cX9_plays 120 = .ok (.ifCond .eq 17, 3) := by decide +kernel
theorem dX9_plays_123 : decode cX9_plays 123 = .ok (.iload 4, 2) := by decide +kernel
theorem dX9_plays_125 : decode cX9_plays 125 = .ok (.ifCond .ne 12, 3) := by decide +kernel
theorem dX9_plays_128 : decode cX9_plays 128 = .ok (.aload_n 0, 1) := by decide +kernel
theorem dX9_plays_129 : decode cX9_plays 129 = .ok (.getfield 59, 3) := by decide +kernel
theorem dX9_plays_132 : decode cX9_plays 132 = .ok (.iconst 0, 1) := by decide +kernel
theorem dX9_plays_133 : decode cX9_plays 133 = .ok (.iaload, 1) := by decide +kernel
theorem dX9_plays_134 : decode cX9_plays 134 = .ok (.goto 7, 3) := by decide +kernel
theorem dX9_plays_137 : decode cX9_plays 137 = .ok (.aload_n 0, 1) := by decide +kernel
theorem dX9_plays_138 : decode cX9_plays 138 = .ok (.getfield 271, 3) := by decide +kernel
theorem dX9_plays_141 : decode cX9_plays 141 = .ok (.putfield 271, 3) := by decide +kernel
theorem dX9_plays_144 : decode cX9_plays 144 = .ok (.aload_n 0, 1) := by decide +kernel
theorem dX9_plays_145 : decode cX9_plays 145 = .ok (.getfield 62, 3) := by decide +kernel
theorem dX9_plays_148 : decode cX9_plays 148 = .ok (.iload 4, 2) := by decide +kernel
theorem dX9_plays_150 : decode cX9_plays 150 = .ok (.iload 8, 2) := by decide +kernel
theorem dX9_plays_152 : decode cX9_plays 152 = .ok (.ifCond .eq 9, 3) := by decide +kernel
theorem dX9_plays_155 : decode cX9_plays 155 = .ok (.iload 5, 2) := by decide +kernel
theorem dX9_plays_157 : decode cX9_plays 157 = .ok (.ineg, 1) := by decide +kernel
theorem dX9_plays_158 : decode cX9_plays 158 = .ok (.goto 10, 3) := by decide +kernel
theorem dX9_plays_161 : decode cX9_plays 161 = .ok (.aload_n 0, 1) := by decide +kernel
theorem dX9_plays_162 : decode cX9_plays 162 = .ok (.getfield 62, 3) := by decide +kernel
theorem dX9_plays_165 : decode cX9_plays 165 = .ok (.iload 4, 2) := by decide +kernel
theorem dX9_plays_167 : decode cX9_plays 167 = .ok (.iaload, 1) := by decide +kernel
theorem dX9_plays_168 : decode cX9_plays 168 = .ok (.iastore, 1) := by decide +kernel
theorem dX9_plays_169 : decode cX9_plays 169 = .ok (.aload_n 0, 1) := by decide +kernel
theorem dX9_plays_170 : decode cX9_plays 170 = .ok (.getfield 59, 3) := by decide +kernel
theorem dX9_plays_173 : decode cX9_plays 173 = .ok (.iload 4, 2) := by decide +kernel
theorem dX9_plays_175 : decode cX9_plays 175 = .ok (.dup2, 1) := by decide +kernel
theorem dX9_plays_176 : decode cX9_plays 176 = .ok (.iaload, 1) := by decide +kernel
theorem dX9_plays_177 : decode cX9_plays 177 = .ok (.iconst 1, 1) := by decide +kernel
theorem dX9_plays_178 : decode cX9_plays 178 = .ok (.iadd, 1) := by decide +kernel
theorem dX9_plays_179 : decode cX9_plays 179 = .ok (.iastore, 1) := by decide +kernel
theorem dX9_plays_180 : decode cX9_plays 180 = .ok (.aload_n 0, 1) := by decide +kernel
theorem dX9_plays_181 : decode cX9_plays 181 = .ok (.getfield 59, 3) := by decide +kernel
theorem dX9_plays_184 : decode cX9_plays 184 = .ok (.iload 4, 2) := by decide +kernel
theorem dX9_plays_186 : decode cX9_plays 186 = .ok (.iaload, 1) := by decide +kernel
theorem dX9_plays_187 : decode cX9_plays 187 = .ok (.ifCond .lt 58, 3) := by decide +kernel
theorem dX9_plays_190 : decode cX9_plays 190 = .ok (.aload_n 0, 1) := by decide +kernel
theorem dX9_plays_191 : decode cX9_plays 191 = .ok (.getfield 59, 3) := by decide +kernel
theorem dX9_plays_194 : decode cX9_plays 194 = .ok (.iload 4, 2) := by decide +kernel
theorem dX9_plays_196 : decode cX9_plays 196 = .ok (.iaload, 1) := by decide +kernel
theorem dX9_plays_197 : decode cX9_plays 197 = .ok (.aload_n 0, 1) := by decide +kernel
theorem dX9_plays_198 : decode cX9_plays 198 = .ok (.getfield 186, 3) := by decide +kernel
theorem dX9_plays_201 : decode cX9_plays 201 = .ok (.if_icmp .ge 44, 3) := by decide +kernel
theorem dX9_plays_204 : decode cX9_plays 204 = .ok (.aload_n 0, 1) := by decide +kernel
theorem dX9_plays_205 : decode cX9_plays 205 = .ok (.iload 7, 2) := by decide +kernel
theorem dX9_plays_207 : decode cX9_plays 207 = .ok (.aload_n 0, 1) := by decide +kernel
theorem dX9_plays_208 : decode cX9_plays 208 = .ok (.getfield 59, 3) := by decide +kernel
theorem dX9_plays_211 : decode cX9_plays 211 = .ok (.iload 4, 2) := by decide +kernel
theorem dX9_plays_213 : decode cX9_plays 213 = .ok (.iaload, 1) := by decide +kernel
theorem dX9_plays_214 : decode cX9_plays 214 = .ok (.aload_n 0, 1) := by decide +kernel
theorem dX9_plays_215 : decode cX9_plays 215 = .ok (.getfield 56, 3) := by decide +kernel
theorem dX9_plays_218 : decode cX9_plays 218 = .ok (.iload 4, 2) := by decide +kernel
theorem dX9_plays_220 : decode cX9_plays 220 = .ok (.iaload, 1) := by decide +kernel
theorem dX9_plays_221 : decode cX9_plays 221 = .ok (.aload_n 0, 1) := by decide +kernel
theorem dX9_plays_222 : decode cX9_plays 222 = .ok (.getfield 192, 3) := by decide +kernel
theorem dX9_plays_225 : decode cX9_plays 225 = .ok (.invokevirtual 226, 3) := by decide +kernel
theorem dX9_plays_228 : decode cX9_plays 228 = .ok (.ifCond .ne 17, 3) := by decide +kernel
theorem dX9_plays_231 : decode cX9_plays 231 = .ok (.aload_n 0, 1) := by decide +kernel
theorem dX9_plays_232 : decode cX9_plays 232 = .ok (.getfield 59, 3) := by decide +kernel
theorem dX9_plays_235 : decode cX9_plays 235 = .ok (.iload 4, 2) := by decide +kernel
theorem dX9_plays_237 : decode cX9_plays 237 = .ok (.dup2, 1) := by decide +kernel
theorem dX9_plays_238 : decode cX9_plays 238 = .ok (.iaload, 1) := by decide +kernel
theorem dX9_plays_239 : decode cX9_plays 239 = .ok (.iconst 1, 1) := by decide +kernel
theorem dX9_plays_240 : decode cX9_plays 240 = .ok (.iadd, 1) := by decide +kernel
theorem dX9_plays_241 : decode cX9_plays 241 = .ok (.iastore, 1) := by decide +kernel
theorem dX9_plays_242 : decode cX9_plays 242 = .ok (.goto (-62), 3) := by decide +kernel
theorem dX9_plays_245 : decode cX9_plays 245 = .ok (.aload_n 0, 1) := by decide +kernel
theorem dX9_plays_246 : decode cX9_plays 246 = .ok (.getfield 59, 3) := by decide +kernel
theorem dX9_plays_249 : decode cX9_plays 249 = .ok (.iload 4, 2) := by decide +kernel
theorem dX9_plays_251 : decode cX9_plays 251 = .ok (.iaload, 1) := by decide +kernel
theorem dX9_plays_252 : decode cX9_plays 252 = .ok (.aload_n 0, 1) := by decide +kernel
theorem dX9_plays_253 : decode cX9_plays 253 = .ok (.getfield 186, 3) := by decide +kernel
theorem dX9_plays_256 : decode cX9_plays 256 = .ok (.if_icmp .ne 21, 3) := by decide +kernel
theorem dX9_plays_259 : decode cX9_plays 259 = .ok (.aload_n 0, 1) := by decide +kernel
theorem dX9_plays_260 : decode cX9_plays 260 = .ok (.getfield 62, 3) := by decide +kernel
theorem dX9_plays_263 : decode cX9_plays 263 = .ok (.iload 4, 2) := by decide +kernel
theorem dX9_plays_265 : decode cX9_plays 265 = .ok (.iaload, 1) := by decide +kernel
theorem dX9_plays_266 : decode cX9_plays 266 = .ok (.istore 5, 2) := by decide +kernel
theorem dX9_plays_268 : decode cX9_plays 268 = .ok (.iinc 4 (-1), 3) := by decide +kernel
theorem dX9_plays_271 : decode cX9_plays 271 = .ok (.iconst 0, 1) := by decide +kernel
theorem dX9_plays_272 : decode cX9_plays 272 = .ok (.istore 6, 2) := by decide +kernel
theorem dX9_plays_274 : decode cX9_plays 274 = .ok (.goto 55, 3) := by decide +kernel
theorem dX9_plays_277 : decode cX9_plays 277 = .ok (.aload_n 0, 1) := by decide +kernel
theorem dX9_plays_278 : decode cX9_plays 278 = .ok (.getfield 59, 3) := by decide +kernel
theorem dX9_plays_281 : decode cX9_plays 281 = .ok (.iload 4, 2) := by decide +kernel
theorem dX9_plays_283 : decode cX9_plays 283 = .ok (.iaload, 1) := by decide +kernel
theorem dX9_plays_284 : decode cX9_plays 284 = .ok (.istore 8, 2) := by decide +kernel
theorem dX9_plays_286 : decode cX9_plays 286 = .ok (.aload_n 0, 1) := by decide +kernel
theorem dX9_plays_287 : decode cX9_plays 287 = .ok (.iload 4, 2) := by decide +kernel
theorem dX9_plays_289 : decode cX9_plays 289 = .ok (.iconst 1, 1) := by decide +kernel
theorem dX9_plays_290 : decode cX9_plays 290 = .ok (.iadd, 1) := by decide +kernel
theorem dX9_plays_291 : decode cX9_plays 291 = .ok (.iload 8, 2) := by decide +kernel
theorem dX9_plays_293 : decode cX9_plays 293 = .ok (.ifCond .ge 13, 3) := by decide +kernel
theorem dX9_plays_296 : decode cX9_plays 296 = .ok (.aload_n 0, 1) := by decide +kernel
theorem dX9_plays_297 : decode cX9_plays 297 = .ok (.getfield 56, 3) := by decide +kernel
theorem dX9_plays_300 : decode cX9_plays 300 = .ok (.iload 4, 2) := by decide +kernel
theorem dX9_plays_302 : decode cX9_plays 302 = .ok (.iaload, 1) := by decide +kernel
theorem dX9_plays_303 : decode cX9_plays 303 = .ok (.goto 17, 3) := by decide +kernel
theorem dX9_plays_306 : decode cX9_plays 306 = .ok (.aload_n 0, 1) := by decide +kernel
theorem dX9_plays_307 : decode cX9_plays 307 = .ok (.getfield 56, 3) := by decide +kernel
theorem dX9_plays_310 : decode cX9_plays 310 = .ok (.iload 4, 2) := by decide +kernel
theorem dX9_plays_312 : decode cX9_plays 312 = .ok (.iaload, 1) := by decide +kernel
theorem dX9_plays_313 : decode cX9_plays 313 = .ok (.iconst 1, 1) := by decide +kernel
theorem dX9_plays_314 : decode cX9_plays 314 = .ok (.iload 8, 2) := by decide +kernel
theorem dX9_plays_316 : decode cX9_plays 316 = .ok (.ishl, 1) := by decide +kernel
theorem dX9_plays_317 : decode cX9_plays 317 = .ok (.iconst (-1), 1) := by decide +kernel
theorem dX9_plays_318 : decode cX9_plays 318 = .ok (.ixor, 1) := by decide +kernel
theorem dX9_plays_319 : decode cX9_plays 319 = .ok (.iand, 1) := by decide +kernel
theorem dX9_plays_320 : decode cX9_plays 320 = .ok (.invokevirtual 264, 3) := by decide +kernel
theorem dX9_plays_323 : decode cX9_plays 323 = .ok (.iinc 4 1, 3) := by decide +kernel
theorem dX9_plays_326 : decode cX9_plays 326 = .ok (.iconst 1, 1) := by decide +kernel
theorem dX9_plays_327 : decode cX9_plays 327 = .ok (.istore 6, 2) := by decide +kernel
theorem dX9_plays_329 : decode cX9_plays 329 = .ok (.goto (-310), 3) := by decide +kernel
theorem dX9_plays_332 : decode cX9_plays 332 = .ok (.iload 5, 2) := by decide +kernel
theorem dX9_plays_334 : decode cX9_plays 334 = .ok (.ireturn, 1) := by decide +kernel
theorem dX9_turnsOf_0 : decode cX9_turnsOf 0 = .ok (.aload_n 0, 1) := by decide +kernel
theorem dX9_turnsOf_1 : decode cX9_turnsOf 1 = .ok (.iload_n 1, 1) := by decide +kernel
theorem dX9_turnsOf_2 : decode cX9_turnsOf 2 = .ok (.invokevirtual 212, 3) := by decide +kernel
theorem dX9_turnsOf_5 : decode cX9_turnsOf 5 = .ok (.ifCond .eq 16, 3) := by decide +kernel
theorem dX9_turnsOf_8 : decode cX9_turnsOf 8 = .ok (.aload_n 0, 1) := by decide +kernel
theorem dX9_turnsOf_9 : decode cX9_turnsOf 9 = .ok (.iload_n 2, 1) := by decide +kernel
theorem dX9_turnsOf_10 : decode cX9_turnsOf 10 = .ok (.invokevirtual 212, 3) := by decide +kernel
theorem dX9_turnsOf_13 : decode cX9_turnsOf 13 = .ok (.ifCond .eq 8, 3) := by decide +kernel
theorem dX9_turnsOf_16 : decode cX9_turnsOf 16 = .ok (.iload_n 1, 1) := by decide +kernel
theorem dX9_turnsOf_17 : decode cX9_turnsOf 17 = .ok (.iload_n 2, 1) := by decide +kernel
theorem dX9_turnsOf_18 : decode cX9_turnsOf 18 = .ok (.if_icmp .ne 6, 3) := by decide +kernel
theorem dX9_turnsOf_21 : decode cX9_turnsOf 21 = .ok (.ldc 205, 2) := by decide +kernel
theorem dX9_turnsOf_23 : decode cX9_turnsOf 23 = .ok (.ireturn, 1) := by decide +kernel
theorem dX9_turnsOf_24 : decode cX9_turnsOf 24 = .ok (.iload_n 3, 1) := by decide +kernel
theorem dX9_turnsOf_25 : decode cX9_turnsOf 25 = .ok (.i2l, 1) := by decide +kernel
theorem dX9_turnsOf_26 : decode cX9_turnsOf 26 = .ok (.lconst 0, 1) := by decide +kernel
theorem dX9_turnsOf_27 : decode cX9_turnsOf 27 = .ok (.ldc2_w 274, 3) := by decide +kernel
theorem dX9_turnsOf_30 : decode cX9_turnsOf 30 = .ok (.invokestatic 92, 3) := by decide +kernel
theorem dX9_turnsOf_33 : decode cX9_turnsOf 33 = .ok (.ifCond .eq 14, 3) := by decide +kernel
theorem dX9_turnsOf_36 : decode cX9_turnsOf 36 = .ok (.iload 4, 2) := by decide +kernel
theorem dX9_turnsOf_38 : decode cX9_turnsOf 38 = .ok (.i2l, 1) := by decide +kernel
theorem dX9_turnsOf_39 : decode cX9_turnsOf 39 = .ok (.lconst 0, 1) := by decide +kernel
theorem dX9_turnsOf_40 : decode cX9_turnsOf 40 = .ok (.lconst 1, 1) := by decide +kernel
theorem dX9_turnsOf_41 : decode cX9_turnsOf 41 = .ok (.invokestatic 92, 3) := by decide +kernel
theorem dX9_turnsOf_44 : decode cX9_turnsOf 44 = .ok (.ifCond .ne 6, 3) := by decide +kernel
theorem dX9_turnsOf_47 : decode cX9_turnsOf 47 = .ok (.ldc 96, 2) := by decide +kernel
theorem dX9_turnsOf_49 : decode cX9_turnsOf 49 = .ok (.ireturn, 1) := by decide +kernel
theorem dX9_turnsOf_50 : decode cX9_turnsOf 50 = .ok (.aload_n 0, 1) := by decide +kernel
theorem dX9_turnsOf_51 : decode cX9_turnsOf 51 = .ok (.iconst (-1), 1) := by decide +kernel
theorem dX9_turnsOf_52 : decode cX9_turnsOf 52 = .ok (.putfield 271, 3) := by decide +kernel
theorem dX9_turnsOf_55 : decode cX9_turnsOf 55 = .ok (.aload_n 0, 1) := by decide +kernel
theorem dX9_turnsOf_56 : decode cX9_turnsOf 56 = .ok (.iload_n 1, 1) := by decide +kernel
theorem dX9_turnsOf_57 : decode cX9_turnsOf 57 = .ok (.iload_n 2, 1) := by decide +kernel
theorem dX9_turnsOf_58 : decode cX9_turnsOf 58 = .ok (.iload_n 3, 1) := by decide +kernel
theorem dX9_turnsOf_59 : decode cX9_turnsOf 59 = .ok (.invokevirtual 276, 3) := by decide +kernel
theorem dX9_turnsOf_62 : decode cX9_turnsOf 62 = .ok (.istore 5, 2) := by decide +kernel
theorem dX9_turnsOf_64 : decode cX9_turnsOf 64 = .ok (.iload 4, 2) := by decide +kernel
theorem dX9_turnsOf_66 : decode cX9_turnsOf 66 = .ok (.ifCond .ne 8, 3) := by decide +kernel
theorem dX9_turnsOf_69 : decode cX9_turnsOf 69 = .ok (.iload 5, 2) := by decide +kernel
theorem dX9_turnsOf_71 : decode cX9_turnsOf 71 = .ok (.goto 7, 3) := by decide +kernel
theorem dX9_turnsOf_74 : decode cX9_turnsOf 74 = .ok (.aload_n 0, 1) := by decide +kernel
theorem dX9_turnsOf_75 : decode cX9_turnsOf 75 = .ok (.getfield 271, 3) := by decide +kernel
theorem dX9_turnsOf_78 : decode cX9_turnsOf 78 = .ok (.ireturn, 1) := by decide +kernel
theorem dX9_rows_0 : decode cX9_rows 0 = .ok (.iconst 0, 1) := by decide +kernel
theorem dX9_rows_1 : decode cX9_rows 1 = .ok (.istore_n 2, 1) := by decide +kernel
theorem dX9_rows_2 : decode cX9_rows 2 = .ok (.iconst 0, 1) := by decide +kernel
theorem dX9_rows_3 : decode cX9_rows 3 = .ok (.istore_n 3, 1) := by decide +kernel
theorem dX9_rows_4 : decode cX9_rows 4 = .ok (.aload_n 0, 1) := by decide +kernel
theorem dX9_rows_5 : decode cX9_rows 5 = .ok (.iconst 0, 1) := by decide +kernel
theorem dX9_rows_6 : decode cX9_rows 6 = .ok (.invokevirtual 198, 3) := by decide +kernel
theorem dX9_rows_9 : decode cX9_rows 9 = .ok (.istore 4, 2) := by decide +kernel
theorem dX9_rows_11 : decode cX9_rows 11 = .ok (.iconst 0, 1) := by decide +kernel
theorem dX9_rows_12 : decode cX9_rows 12 = .ok (.istore 5, 2) := by decide +kernel
theorem dX9_rows_14 : decode cX9_rows 14 = .ok (.iload 5, 2) := by decide +kernel
theorem dX9_rows_16 : decode cX9_rows 16 = .ok (.bipush 8, 2) := by decide +kernel
theorem dX9_rows_18 : decode cX9_rows 18 = .ok (.if_icmp .ge 53, 3) := by decide +kernel
theorem dX9_rows_21 : decode cX9_rows 21 = .ok (.aload_n 0, 1) := by decide +kernel
theorem dX9_rows_22 : decode cX9_rows 22 = .ok (.getfield 65, 3) := by decide +kernel
theorem dX9_rows_25 : decode cX9_rows 25 = .ok (.iload 5, 2) := by decide +kernel
theorem dX9_rows_27 : decode cX9_rows 27 = .ok (.iconst (-1), 1) := by decide +kernel
theorem dX9_rows_28 : decode cX9_rows 28 = .ok (.iastore, 1) := by decide +kernel
theorem dX9_rows_29 : decode cX9_rows 29 = .ok (.aload_n 0, 1) := by decide +kernel
theorem dX9_rows_30 : decode cX9_rows 30 = .ok (.getfield 71, 3) := by decide +kernel
theorem dX9_rows_33 : decode cX9_rows 33 = .ok (.iload 5, 2) := by decide +kernel
theorem dX9_rows_35 : decode cX9_rows 35 = .ok (.iconst 0, 1) := by decide +kernel
theorem dX9_rows_36 : decode cX9_rows 36 = .ok (.iastore, 1) := by decide +kernel
theorem dX9_rows_37 : decode cX9_rows 37 = .ok (.aload_n 0, 1) := by decide +kernel
theorem dX9_rows_38 : decode cX9_rows 38 = .ok (.getfield 74, 3) := by decide +kernel
theorem dX9_rows_41 : decode cX9_rows 41 = .ok (.iload 5, 2) := by decide +kernel
theorem dX9_rows_43 : decode cX9_rows 43 = .ok (.iload 5, 2) := by decide +kernel
theorem dX9_rows_45 : decode cX9_rows 45 = .ok (.aload_n 0, 1) := by decide +kernel
theorem dX9_rows_46 : decode cX9_rows 46 = .ok (.getfield 180, 3) := by decide +kernel
theorem dX9_rows_49 : decode cX9_rows 49 = .ok (.if_icmp .ge 14, 3) := by decide +kernel
theorem dX9_rows_52 : decode cX9_rows 52 = .ok (.aload_n 0, 1) := by decide +kernel
theorem dX9_rows_53 : decode cX9_rows 53 = .ok (.iload 5, 2) := by decide +kernel
theorem dX9_rows_55 : decode cX9_rows 55 = .ok (.iload 4, 2) := by decide +kernel
theorem dX9_rows_57 : decode cX9_rows 57 = .ok (.invokevirtual 218, 3) := by decide +kernel
theorem dX9_rows_60 : decode cX9_rows 60 = .ok (.goto 4, 3) := by decide +kernel
theorem dX9_rows_63 : decode cX9_rows 63 = .ok (.iconst 0, 1) := by decide +kernel
theorem dX9_rows_64 : decode cX9_rows 64 = .ok (.iastore, 1) := by decide +kernel
theorem dX9_rows_65 : decode cX9_rows 65 = .ok (.iinc 5 1, 3) := by decide +kernel
theorem dX9_rows_68 : decode cX9_rows 68 = .ok (.goto (-54), 3) := by decide +kernel
theorem dX9_rows_71 : decode cX9_rows 71 = .ok (.iconst 0, 1) := by decide +kernel
theorem dX9_rows_72 : decode cX9_rows 72 = .ok (.istore 5, 2) := by decide +kernel
theorem dX9_rows_74 : decode cX9_rows 74 = .ok (.iload 5, 2) := by decide +kernel
theorem dX9_rows_76 : decode cX9_rows 76 = .ok (.ifCond .lt 223, 3) := by decide +kernel
theorem dX9_rows_79 : decode cX9_rows 79 = .ok (.iload 5, 2) := by decide +kernel
theorem dX9_rows_81 : decode cX9_rows 81 = .ok (.aload_n 0, 1) := by decide +kernel
theorem dX9_rows_82 : decode cX9_rows 82 = .ok (.getfield 180, 3) := by decide +kernel
theorem dX9_rows_85 : decode cX9_rows 85 = .ok (.if_icmp .ne 135, 3) := by decide +kernel
theorem dX9_rows_88 : decode cX9_rows 88 = .ok (.iconst 0, 1) := by decide +kernel
theorem dX9_rows_89 : decode cX9_rows 89 = .ok (.istore 6, 2) := by decide +kernel
theorem dX9_rows_91 : decode cX9_rows 91 = .ok (.iconst 0, 1) := by decide +kernel
theorem dX9_rows_92 : decode cX9_rows 92 = .ok (.istore 7, 2) := by decide +kernel
theorem dX9_rows_94 : decode cX9_rows 94 = .ok (.iload 7, 2) := by decide +kernel
theorem dX9_rows_96 : decode cX9_rows 96 = .ok (.aload_n 0, 1) := by decide +kernel
theorem dX9_rows_97 : decode cX9_rows 97 = .ok (.getfield 180, 3) := by decide +kernel
theorem dX9_rows_100 : decode cX9_rows 100 = .ok (.if_icmp .ge 45, 3) := by decide +kernel
theorem dX9_rows_103 : decode cX9_rows 103 = .ok (.iload 6, 2) := by decide +kernel
theorem dX9_rows_105 : decode cX9_rows 105 = .ok (.aload_n 0, 1) := by decide +kernel
theorem dX9_rows_106 : decode cX9_rows 106 = .ok (.getfield 31, 3) := by decide +kernel
theorem dX9_rows_109 : decode cX9_rows 109 = .ok (.aload_n 0, 1) := by decide +kernel
theorem dX9_rows_110 : decode cX9_rows 110 = .ok (.getfield 65, 3) := by decide +kernel
theorem dX9_rows_113 : decode cX9_rows 113 = .ok (.iload 7, 2) := by decide +kernel
theorem dX9_rows_115 : decode cX9_rows 115 = .ok (.iaload, 1) := by decide +kernel
theorem dX9_rows_116 : decode cX9_rows 116 = .ok (.iaload, 1) := by decide +kernel
theorem dX9_rows_117 : decode cX9_rows 117 = .ok (.iadd, 1) := by decide +kernel
theorem dX9_rows_118 : decode cX9_rows 118 = .ok (.istore 6, 2) := by decide +kernel
theorem dX9_rows_120 : decode cX9_rows 120 = .ok (.aload_n 0, 1) := by decide +kernel
theorem dX9_rows_121 : decode cX9_rows 121 = .ok (.getfield 71, 3) := by decide +kernel
theorem dX9_rows_124 : decode cX9_rows 124 = .ok (.iload 7, 2) := by decide +kernel
theorem dX9_rows_126 : decode cX9_rows 126 = .ok (.dup2, 1) := by decide +kernel
theorem dX9_rows_127 : decode cX9_rows 127 = .ok (.iaload, 1) := by decide +kernel
theorem dX9_rows_128 : decode cX9_rows 128 = .ok (.iconst 1, 1) := by decide +kernel
theorem dX9_rows_129 : decode cX9_rows 129 = .ok (.aload_n 0, 1) := by decide +kernel
theorem dX9_rows_130 : decode cX9_rows 130 = .ok (.getfield 65, 3) := by decide +kernel
theorem dX9_rows_133 : decode cX9_rows 133 = .ok (.iload 7, 2) := by decide +kernel
theorem dX9_rows_135 : decode cX9_rows 135 = .ok (.iaload, 1) := by decide +kernel
theorem dX9_rows_136 : decode cX9_rows 136 = .ok (.ishl, 1) := by decide +kernel
theorem dX9_rows_137 : decode cX9_rows 137 = .ok (.ior, 1) := by decide +kernel
theorem dX9_rows_138 : decode cX9_rows 138 = .ok (.iastore, 1) := by decide +kernel
theorem dX9_rows_139 : decode cX9_rows 139 = .ok (.iinc 7 1, 3) := by decide +kernel
theorem dX9_rows_142 : decode cX9_rows 142 = .ok (.goto (-48), 3) := by decide +kernel
theorem dX9_rows_145 : decode cX9_rows 145 = .ok (.iload_n 2, 1) := by decide +kernel
theorem dX9_rows_146 : decode cX9_rows 146 = .ok (.ifCond .eq 9, 3) := by decide +kernel
theorem dX9_rows_149 : decode cX9_rows 149 = .ok (.iload 6, 2) := by decide +kernel
theorem dX9_rows_151 : decode cX9_rows 151 = .ok (.iload_n 3, 1) := by decide +kernel
theorem dX9_rows_152 : decode cX9_rows 152 = .ok (.if_icmp .ge 7, 3) := by decide +kernel
theorem dX9_rows_155 : decode cX9_rows 155 = .ok (.iconst 1, 1) := by decide +kernel
theorem dX9_rows_156 : decode cX9_rows 156 = .ok (.goto 4, 3) := by decide +kernel
theorem dX9_rows_159 : decode cX9_rows 159 = .ok (.iconst 0, 1) := by decide +kernel
theorem dX9_rows_160 : decode cX9_rows 160 = .ok (.istore 7, 2) := by decide +kernel
theorem dX9_rows_162 : decode cX9_rows 162 = .ok (.iload 7, 2) := by decide +kernel
theorem dX9_rows_164 : decode cX9_rows 164 = .ok (.ifCond .eq 8, 3) := by decide +kernel
theorem dX9_rows_167 : decode cX9_rows 167 = .ok (.iload 6, 2) := by decide +kernel
theorem dX9_rows_169 : decode cX9_rows 169 = .ok (.goto 4, 3) := by decide +kernel
theorem dX9_rows_172 : decode cX9_rows 172 = .ok (.iload_n 3, 1) := by decide +kernel
theorem dX9_rows_173 : decode cX9_rows 173 = .ok (.istore_n 3, 1) := by decide +kernel
theorem dX9_rows_174 : decode cX9_rows 174 = .ok (.iconst 0, 1) := by decide +kernel
theorem dX9_rows_175 : decode cX9_rows 175 = .ok (.istore 8, 2) := by decide +kernel
theorem dX9_rows_177 : decode cX9_rows 177 = .ok (.iload 8, 2) := by decide +kernel
theorem dX9_rows_179 : decode cX9_rows 179 = .ok (.aload_n 0, 1) := by decide +kernel
theorem dX9_rows_180 : decode cX9_rows 180 = .ok (.getfield 180, 3) := by decide +kernel
theorem dX9_rows_183 : decode cX9_rows 183 = .ok (.if_icmp .ge 28, 3) := by decide +kernel
theorem dX9_rows_186 : decode cX9_rows 186 = .ok (.iload 7, 2) := by decide +kernel
theorem dX9_rows_188 : decode cX9_rows 188 = .ok (.ifCond .eq 23, 3) := by decide +kernel
theorem dX9_rows_191 : decode cX9_rows 191 = .ok (.aload_n 0, 1) := by decide +kernel
theorem dX9_rows_192 : decode cX9_rows 192 = .ok (.getfield 68, 3) := by decide +kernel
theorem dX9_rows_195 : decode cX9_rows 195 = .ok (.iload 8, 2) := by decide +kernel
theorem dX9_rows_197 : decode cX9_rows 197 = .ok (.aload_n 0, 1) := by decide +kernel
theorem dX9_rows_198 : decode cX9_rows 198 = .ok (.getfield 65, 3) := by decide +kernel
theorem dX9_rows_201 : decode cX9_rows 201 = .ok (.iload 8, 2) := by decide +kernel
theorem dX9_rows_203 : decode cX9_rows 203 = .ok (.iaload, 1) := by decide +kernel
theorem dX9_rows_204 : decode cX9_rows 204 = .ok (.iastore, 1) := by decide +kernel
theorem dX9_rows_205 : decode cX9_rows 205 = .ok (.iinc 8 1, 3) := by decide +kernel
theorem dX9_rows_208 : decode cX9_rows 208 = .ok (.goto (-31), 3) := by decide +kernel
theorem dX9_rows_211 : decode cX9_rows 211 = .ok (.iinc 2 1, 3) := by decide +kernel
theorem dX9_rows_214 : decode cX9_rows 214 = .ok (.iinc 5 (-1), 3) := by decide +kernel
theorem dX9_rows_217 : decode cX9_rows 217 = .ok (.goto (-143), 3) := by decide +kernel
theorem dX9_rows_220 : decode cX9_rows 220 = .ok (.aload_n 0, 1) := by decide +kernel
theorem dX9_rows_221 : decode cX9_rows 221 = .ok (.getfield 65, 3) := by decide +kernel
theorem dX9_rows_224 : decode cX9_rows 224 = .ok (.iload 5, 2) := by decide +kernel
theorem dX9_rows_226 : decode cX9_rows 226 = .ok (.dup2, 1) := by decide +kernel
theorem dX9_rows_227 : decode cX9_rows 227 = .ok (.iaload, 1) := by decide +kernel
theorem dX9_rows_228 : decode cX9_rows 228 = .ok (.iconst 1, 1) := by decide +kernel
theorem dX9_rows_229 : decode cX9_rows 229 = .ok (.iadd, 1) := by decide +kernel
theorem dX9_rows_230 : decode cX9_rows 230 = .ok (.iastore, 1) := by decide +kernel
theorem dX9_rows_231 : decode cX9_rows 231 = .ok (.aload_n 0, 1) := by decide +kernel
theorem dX9_rows_232 : decode cX9_rows 232 = .ok (.getfield 65, 3) := by decide +kernel
theorem dX9_rows_235 : decode cX9_rows 235 = .ok (.iload 5, 2) := by decide +kernel
theorem dX9_rows_237 : decode cX9_rows 237 = .ok (.iaload, 1) := by decide +kernel
theorem dX9_rows_238 : decode cX9_rows 238 = .ok (.aload_n 0, 1) := by decide +kernel
theorem dX9_rows_239 : decode cX9_rows 239 = .ok (.getfield 183, 3) := by decide +kernel
theorem dX9_rows_242 : decode cX9_rows 242 = .ok (.if_icmp .ne 17, 3) := by decide +kernel
theorem dX9_rows_245 : decode cX9_rows 245 = .ok (.aload_n 0, 1) := by decide +kernel
theorem dX9_rows_246 : decode cX9_rows 246 = .ok (.getfield 65, 3) := by decide +kernel
theorem dX9_rows_249 : decode cX9_rows 249 = .ok (.iload 5, 2) := by decide +kernel
theorem dX9_rows_251 : decode cX9_rows 251 = .ok (.iconst (-1), 1) := by decide +kernel
theorem dX9_rows_252 : decode cX9_rows 252 = .ok (.iastore, 1) := by decide +kernel
theorem dX9_rows_253 : decode cX9_rows 253 = .ok (.iinc 5 (-1), 3) := by decide +kernel
theorem dX9_rows_256 : decode cX9_rows 256 = .ok (.goto (-182), 3) := by decide +kernel
theorem dX9_rows_259 : decode cX9_rows 259 = .ok (.iload_n 1, 1) := by decide +kernel
theorem dX9_rows_260 : decode cX9_rows 260 = .ok (.ifCond .ne 24, 3) := by decide +kernel
theorem dX9_rows_263 : decode cX9_rows 263 = .ok (.aload_n 0, 1) := by decide +kernel
theorem dX9_rows_264 : decode cX9_rows 264 = .ok (.getfield 37, 3) := by decide +kernel
theorem dX9_rows_267 : decode cX9_rows 267 = .ok (.iload 5, 2) := by decide +kernel
theorem dX9_rows_269 : decode cX9_rows 269 = .ok (.iaload, 1) := by decide +kernel
theorem dX9_rows_270 : decode cX9_rows 270 = .ok (.aload_n 0, 1) := by decide +kernel
theorem dX9_rows_271 : decode cX9_rows 271 = .ok (.getfield 65, 3) := by decide +kernel
theorem dX9_rows_274 : decode cX9_rows 274 = .ok (.iload 5, 2) := by decide +kernel
theorem dX9_rows_276 : decode cX9_rows 276 = .ok (.iaload, 1) := by decide +kernel
theorem dX9_rows_277 : decode cX9_rows 277 = .ok (.ishr, 1) := by decide +kernel
theorem dX9_rows_278 : decode cX9_rows 278 = .ok (.iconst 1, 1) := by decide +kernel
theorem dX9_rows_279 : decode cX9_rows 279 = .ok (.iand, 1) := by decide +kernel
theorem dX9_rows_280 : decode cX9_rows 280 = .ok (.iconst 1, 1) := by decide +kernel
theorem dX9_rows_281 : decode cX9_rows 281 = .ok (.if_icmp .ne (-207), 3) := by decide +kernel
theorem dX9_rows_284 : decode cX9_rows 284 = .ok (.aload_n 0, 1) := by decide +kernel
theorem dX9_rows_285 : decode cX9_rows 285 = .ok (.iload 5, 2) := by decide +kernel
theorem dX9_rows_287 : decode cX9_rows 287 = .ok (.invokevirtual 279, 3) := by decide +kernel
theorem dX9_rows_290 : decode cX9_rows 290 = .ok (.ifCond .eq (-216), 3) := by decide +kernel
theorem dX9_rows_293 : decode cX9_rows 293 = .ok (.iinc 5 1, 3) := by decide +kernel
theorem dX9_rows_296 : decode cX9_rows 296 = .ok (.goto (-222), 3) := by decide +kernel
theorem dX9_rows_299 : decode cX9_rows 299 = .ok (.aload_n 0, 1) := by decide +kernel
theorem dX9_rows_300 : decode cX9_rows 300 = .ok (.iload_n 3, 1) := by decide +kernel
theorem dX9_rows_301 : decode cX9_rows 301 = .ok (.putfield 282, 3) := by decide +kernel
theorem dX9_rows_304 : decode cX9_rows 304 = .ok (.iload_n 2, 1) := by decide +kernel
theorem dX9_rows_305 : decode cX9_rows 305 = .ok (.ireturn, 1) := by decide +kernel
theorem dX9_isApart_0 : decode cX9_isApart 0 = .ok (.iconst 1, 1) := by decide +kernel
theorem dX9_isApart_1 : decode cX9_isApart 1 = .ok (.istore_n 2, 1) := by decide +kernel
theorem dX9_isApart_2 : decode cX9_isApart 2 = .ok (.iconst 0, 1) := by decide +kernel
theorem dX9_isApart_3 : decode cX9_isApart 3 = .ok (.istore_n 3, 1) := by decide +kernel
theorem dX9_isApart_4 : decode cX9_isApart 4 = .ok (.iload_n 3, 1) := by decide +kernel
theorem dX9_isApart_5 : decode cX9_isApart 5 = .ok (.iload_n 1, 1) := by decide +kernel
theorem dX9_isApart_6 : decode cX9_isApart 6 = .ok (.if_icmp .ge 47, 3) := by decide +kernel
theorem dX9_isApart_9 : decode cX9_isApart 9 = .ok (.iload_n 2, 1) := by decide +kernel
theorem dX9_isApart_10 : decode cX9_isApart 10 = .ok (.ifCond .eq 35, 3) := by decide +kernel
theorem dX9_isApart_13 : decode cX9_isApart 13 = .ok (.aload_n 0, 1) := by decide +kernel
theorem dX9_isApart_14 : decode cX9_isApart 14 = .ok (.getfield 74, 3) := by decide +kernel
theorem dX9_isApart_17 : decode cX9_isApart 17 = .ok (.iload_n 1, 1) := by decide +kernel
theorem dX9_isApart_18 : decode cX9_isApart 18 = .ok (.iaload, 1) := by decide +kernel
theorem dX9_isApart_19 : decode cX9_isApart 19 = .ok (.iload_n 3, 1) := by decide +kernel
theorem dX9_isApart_20 : decode cX9_isApart 20 = .ok (.ishr, 1) := by decide +kernel
theorem dX9_isApart_21 : decode cX9_isApart 21 = .ok (.iconst 1, 1) := by decide +kernel
theorem dX9_isApart_22 : decode cX9_isApart 22 = .ok (.iand, 1) := by decide +kernel
theorem dX9_isApart_23 : decode cX9_isApart 23 = .ok (.ifCond .eq 18, 3) := by decide +kernel
theorem dX9_isApart_26 : decode cX9_isApart 26 = .ok (.aload_n 0, 1) := by decide +kernel
theorem dX9_isApart_27 : decode cX9_isApart 27 = .ok (.getfield 65, 3) := by decide +kernel
theorem dX9_isApart_30 : decode cX9_isApart 30 = .ok (.iload_n 3, 1) := by decide +kernel
theorem dX9_isApart_31 : decode cX9_isApart 31 = .ok (.iaload, 1) := by decide +kernel
theorem dX9_isApart_32 : decode cX9_isApart 32 = .ok (.aload_n 0, 1) := by decide +kernel
theorem dX9_isApart_33 : decode cX9_isApart 33 = .ok (.getfield 65, 3) := by decide +kernel
theorem dX9_isApart_36 : decode cX9_isApart 36 = .ok (.iload_n 1, 1) := by decide +kernel
theorem dX9_isApart_37 : decode cX9_isApart 37 = .ok (.iaload, 1) := by decide +kernel
theorem dX9_isApart_38 : decode cX9_isApart 38 = .ok (.if_icmp .eq 7, 3) := by decide +kernel
theorem dX9_isApart_41 : decode cX9_isApart 41 = .ok (.iconst 1, 1) := by decide +kernel
theorem dX9_isApart_42 : decode cX9_isApart 42 = .ok (.goto 4, 3) := by decide +kernel
theorem dX9_isApart_45 : decode cX9_isApart 45 = .ok (.iconst 0, 1) := by decide +kernel
theorem dX9_isApart_46 : decode cX9_isApart 46 = .ok (.istore_n 2, 1) := by decide +kernel
theorem dX9_isApart_47 : decode cX9_isApart 47 = .ok (.iinc 3 1, 3) := by decide +kernel
theorem dX9_isApart_50 : decode cX9_isApart 50 = .ok (.goto (-46), 3) := by decide +kernel
theorem dX9_isApart_53 : decode cX9_isApart 53 = .ok (.iload_n 2, 1) := by decide +kernel
theorem dX9_isApart_54 : decode cX9_isApart 54 = .ok (.ireturn, 1) := by decide +kernel
theorem dX9_colours_0 : decode cX9_colours 0 = .ok (.iload_n 1, 1) := by decide +kernel
theorem dX9_colours_1 : decode cX9_colours 1 = .ok (.iconst (-1), 1) := by decide +kernel
theorem dX9_colours_2 : decode cX9_colours 2 = .ok (.if_icmp .eq 14, 3) := by decide +kernel
theorem dX9_colours_5 : decode cX9_colours 5 = .ok (.aload_n 0, 1) := by decide +kernel
theorem dX9_colours_6 : decode cX9_colours 6 = .ok (.iload_n 1, 1) := by decide +kernel
theorem dX9_colours_7 : decode cX9_colours 7 = .ok (.invokevirtual 212, 3) := by decide +kernel
theorem dX9_colours_10 : decode cX9_colours 10 = .ok (.ifCond .ne 6, 3) := by decide +kernel
theorem dX9_colours_13 : decode cX9_colours 13 = .ok (.ldc 205, 2) := by decide +kernel
theorem dX9_colours_15 : decode cX9_colours 15 = .ok (.ireturn, 1) := by decide +kernel
theorem dX9_colours_16 : decode cX9_colours 16 = .ok (.aload_n 0, 1) := by decide +kernel
theorem dX9_colours_17 : decode cX9_colours 17 = .ok (.iconst 1, 1) := by decide +kernel
theorem dX9_colours_18 : decode cX9_colours 18 = .ok (.invokevirtual 285, 3) := by decide +kernel
theorem dX9_colours_21 : decode cX9_colours 21 = .ok (.ifCond .ne 5, 3) := by decide +kernel
theorem dX9_colours_24 : decode cX9_colours 24 = .ok (.iconst (-1), 1) := by decide +kernel
theorem dX9_colours_25 : decode cX9_colours 25 = .ok (.ireturn, 1) := by decide +kernel
theorem dX9_colours_26 : decode cX9_colours 26 = .ok (.iload_n 1, 1) := by decide +kernel
theorem dX9_colours_27 : decode cX9_colours 27 = .ok (.iconst (-1), 1) := by decide +kernel
theorem dX9_colours_28 : decode cX9_colours 28 = .ok (.if_icmp .ne 10, 3) := by decide +kernel
theorem dX9_colours_31 : decode cX9_colours 31 = .ok (.aload_n 0, 1) := by decide +kernel
theorem dX9_colours_32 : decode cX9_colours 32 = .ok (.getfield 282, 3) := by decide +kernel
theorem dX9_colours_35 : decode cX9_colours 35 = .ok (.goto 9, 3) := by decide +kernel
theorem dX9_colours_38 : decode cX9_colours 38 = .ok (.aload_n 0, 1) := by decide +kernel
theorem dX9_colours_39 : decode cX9_colours 39 = .ok (.getfield 68, 3) := by decide +kernel
theorem dX9_colours_42 : decode cX9_colours 42 = .ok (.iload_n 1, 1) := by decide +kernel
theorem dX9_colours_43 : decode cX9_colours 43 = .ok (.iaload, 1) := by decide +kernel
theorem dX9_colours_44 : decode cX9_colours 44 = .ok (.ireturn, 1) := by decide +kernel
theorem dX9_left_0 : decode cX9_left 0 = .ok (.aload_n 0, 1) := by decide +kernel
theorem dX9_left_1 : decode cX9_left 1 = .ok (.iload_n 1, 1) := by decide +kernel
theorem dX9_left_2 : decode cX9_left 2 = .ok (.invokevirtual 212, 3) := by decide +kernel
theorem dX9_left_5 : decode cX9_left 5 = .ok (.ifCond .eq 21, 3) := by decide +kernel
theorem dX9_left_8 : decode cX9_left 8 = .ok (.iload_n 2, 1) := by decide +kernel
theorem dX9_left_9 : decode cX9_left 9 = .ok (.i2l, 1) := by decide +kernel
theorem dX9_left_10 : decode cX9_left 10 = .ok (.lconst 0, 1) := by decide +kernel
theorem dX9_left_11 : decode cX9_left 11 = .ok (.iconst 1, 1) := by decide +kernel
theorem dX9_left_12 : decode cX9_left 12 = .ok (.aload_n 0, 1) := by decide +kernel
theorem dX9_left_13 : decode cX9_left 13 = .ok (.getfield 183, 3) := by decide +kernel
theorem dX9_left_16 : decode cX9_left 16 = .ok (.ishl, 1) := by decide +kernel
theorem dX9_left_17 : decode cX9_left 17 = .ok (.iconst 1, 1) := by decide +kernel
theorem dX9_left_18 : decode cX9_left 18 = .ok (.isub, 1) := by decide +kernel
theorem dX9_left_19 : decode cX9_left 19 = .ok (.i2l, 1) := by decide +kernel
theorem dX9_left_20 : decode cX9_left 20 = .ok (.invokestatic 92, 3) := by decide +kernel
theorem dX9_left_23 : decode cX9_left 23 = .ok (.ifCond .ne 6, 3) := by decide +kernel
theorem dX9_left_26 : decode cX9_left 26 = .ok (.ldc 205, 2) := by decide +kernel
theorem dX9_left_28 : decode cX9_left 28 = .ok (.ireturn, 1) := by decide +kernel
theorem dX9_left_29 : decode cX9_left 29 = .ok (.aload_n 0, 1) := by decide +kernel
theorem dX9_left_30 : decode cX9_left 30 = .ok (.getfield 37, 3) := by decide +kernel
theorem dX9_left_33 : decode cX9_left 33 = .ok (.iload_n 1, 1) := by decide +kernel
theorem dX9_left_34 : decode cX9_left 34 = .ok (.iaload, 1) := by decide +kernel
theorem dX9_left_35 : decode cX9_left 35 = .ok (.istore_n 3, 1) := by decide +kernel
theorem dX9_left_36 : decode cX9_left 36 = .ok (.aload_n 0, 1) := by decide +kernel
theorem dX9_left_37 : decode cX9_left 37 = .ok (.getfield 37, 3) := by decide +kernel
theorem dX9_left_40 : decode cX9_left 40 = .ok (.iload_n 1, 1) := by decide +kernel
theorem dX9_left_41 : decode cX9_left 41 = .ok (.iload_n 2, 1) := by decide +kernel
theorem dX9_left_42 : decode cX9_left 42 = .ok (.iastore, 1) := by decide +kernel
theorem dX9_left_43 : decode cX9_left 43 = .ok (.iload_n 3, 1) := by decide +kernel
theorem dX9_left_44 : decode cX9_left 44 = .ok (.ireturn, 1) := by decide +kernel
theorem dX9_fits_0 : decode cX9_fits 0 = .ok (.aload_n 0, 1) := by decide +kernel
theorem dX9_fits_1 : decode cX9_fits 1 = .ok (.iconst 0, 1) := by decide +kernel
theorem dX9_fits_2 : decode cX9_fits 2 = .ok (.invokevirtual 285, 3) := by decide +kernel
theorem dX9_fits_5 : decode cX9_fits 5 = .ok (.ireturn, 1) := by decide +kernel
theorem dX9_sure_0 : decode cX9_sure 0 = .ok (.aload_n 0, 1) := by decide +kernel
theorem dX9_sure_1 : decode cX9_sure 1 = .ok (.iload_n 1, 1) := by decide +kernel
theorem dX9_sure_2 : decode cX9_sure 2 = .ok (.invokevirtual 212, 3) := by decide +kernel
theorem dX9_sure_5 : decode cX9_sure 5 = .ok (.ifCond .ne 6, 3) := by decide +kernel
theorem dX9_sure_8 : decode cX9_sure 8 = .ok (.ldc 205, 2) := by decide +kernel
theorem dX9_sure_10 : decode cX9_sure 10 = .ok (.ireturn, 1) := by decide +kernel
theorem dX9_sure_11 : decode cX9_sure 11 = .ok (.aload_n 0, 1) := by decide +kernel
theorem dX9_sure_12 : decode cX9_sure 12 = .ok (.iconst 0, 1) := by decide +kernel
theorem dX9_sure_13 : decode cX9_sure 13 = .ok (.invokevirtual 285, 3) := by decide +kernel
theorem dX9_sure_16 : decode cX9_sure 16 = .ok (.ifCond .le 20, 3) := by decide +kernel
theorem dX9_sure_19 : decode cX9_sure 19 = .ok (.aload_n 0, 1) := by decide +kernel
theorem dX9_sure_20 : decode cX9_sure 20 = .ok (.getfield 71, 3) := by decide +kernel
theorem dX9_sure_23 : decode cX9_sure 23 = .ok (.iload_n 1, 1) := by decide +kernel
theorem dX9_sure_24 : decode cX9_sure 24 = .ok (.iaload, 1) := by decide +kernel
theorem dX9_sure_25 : decode cX9_sure 25 = .ok (.invokestatic 231, 3) := by decide +kernel
theorem dX9_sure_28 : decode cX9_sure 28 = .ok (.iconst 1, 1) := by decide +kernel
theorem dX9_sure_29 : decode cX9_sure 29 = .ok (.if_icmp .ne 7, 3) := by decide +kernel
theorem dX9_sure_32 : decode cX9_sure 32 = .ok (.iconst 1, 1) := by decide +kernel
theorem dX9_sure_33 : decode cX9_sure 33 = .ok (.goto 4, 3) := by decide +kernel
theorem dX9_sure_36 : decode cX9_sure 36 = .ok (.iconst 0, 1) := by decide +kernel
theorem dX9_sure_37 : decode cX9_sure 37 = .ok (.istore_n 2, 1) := by decide +kernel
theorem dX9_sure_38 : decode cX9_sure 38 = .ok (.iload_n 2, 1) := by decide +kernel
theorem dX9_sure_39 : decode cX9_sure 39 = .ok (.ifCond .eq 12, 3) := by decide +kernel
theorem dX9_sure_42 : decode cX9_sure 42 = .ok (.aload_n 0, 1) := by decide +kernel
theorem dX9_sure_43 : decode cX9_sure 43 = .ok (.getfield 68, 3) := by decide +kernel
theorem dX9_sure_46 : decode cX9_sure 46 = .ok (.iload_n 1, 1) := by decide +kernel
theorem dX9_sure_47 : decode cX9_sure 47 = .ok (.iaload, 1) := by decide +kernel
theorem dX9_sure_48 : decode cX9_sure 48 = .ok (.goto 4, 3) := by decide +kernel
theorem dX9_sure_51 : decode cX9_sure 51 = .ok (.iconst (-1), 1) := by decide +kernel
theorem dX9_sure_52 : decode cX9_sure 52 = .ok (.ireturn, 1) := by decide +kernel
theorem dX9_write_0 : decode cX9_write 0 = .ok (.aload_n 0, 1) := by decide +kernel
theorem dX9_write_1 : decode cX9_write 1 = .ok (.iload_n 1, 1) := by decide +kernel
theorem dX9_write_2 : decode cX9_write 2 = .ok (.invokevirtual 212, 3) := by decide +kernel
theorem dX9_write_5 : decode cX9_write 5 = .ok (.ifCond .eq 11, 3) := by decide +kernel
theorem dX9_write_8 : decode cX9_write 8 = .ok (.aload_n 0, 1) := by decide +kernel
theorem dX9_write_9 : decode cX9_write 9 = .ok (.iload_n 2, 1) := by decide +kernel
theorem dX9_write_10 : decode cX9_write 10 = .ok (.invokevirtual 202, 3) := by decide +kernel
theorem dX9_write_13 : decode cX9_write 13 = .ok (.ifCond .ne 6, 3) := by decide +kernel
theorem dX9_write_16 : decode cX9_write 16 = .ok (.ldc 205, 2) := by decide +kernel
theorem dX9_write_18 : decode cX9_write 18 = .ok (.ireturn, 1) := by decide +kernel
theorem dX9_write_19 : decode cX9_write 19 = .ok (.aload_n 0, 1) := by decide +kernel
theorem dX9_write_20 : decode cX9_write 20 = .ok (.getfield 195, 3) := by decide +kernel
theorem dX9_write_23 : decode cX9_write 23 = .ok (.bipush 30, 2) := by decide +kernel
theorem dX9_write_25 : decode cX9_write 25 = .ok (.if_icmp .ne 6, 3) := by decide +kernel
theorem dX9_write_28 : decode cX9_write 28 = .ok (.ldc 100, 2) := by decide +kernel
theorem dX9_write_30 : decode cX9_write 30 = .ok (.ireturn, 1) := by decide +kernel
theorem dX9_write_31 : decode cX9_write 31 = .ok (.aload_n 0, 1) := by decide +kernel
theorem dX9_write_32 : decode cX9_write 32 = .ok (.getfield 77, 3) := by decide +kernel
theorem dX9_write_35 : decode cX9_write 35 = .ok (.aload_n 0, 1) := by decide +kernel
theorem dX9_write_36 : decode cX9_write 36 = .ok (.getfield 195, 3) := by decide +kernel
theorem dX9_write_39 : decode cX9_write 39 = .ok (.iload_n 1, 1) := by decide +kernel
theorem dX9_write_40 : decode cX9_write 40 = .ok (.iastore, 1) := by decide +kernel
theorem dX9_write_41 : decode cX9_write 41 = .ok (.aload_n 0, 1) := by decide +kernel
theorem dX9_write_42 : decode cX9_write 42 = .ok (.getfield 80, 3) := by decide +kernel
theorem dX9_write_45 : decode cX9_write 45 = .ok (.aload_n 0, 1) := by decide +kernel
theorem dX9_write_46 : decode cX9_write 46 = .ok (.getfield 195, 3) := by decide +kernel
theorem dX9_write_49 : decode cX9_write 49 = .ok (.iload_n 2, 1) := by decide +kernel
theorem dX9_write_50 : decode cX9_write 50 = .ok (.iastore, 1) := by decide +kernel
theorem dX9_write_51 : decode cX9_write 51 = .ok (.aload_n 0, 1) := by decide +kernel
theorem dX9_write_52 : decode cX9_write 52 = .ok (.dup, 1) := by decide +kernel
theorem dX9_write_53 : decode cX9_write 53 = .ok (.getfield 195, 3) := by decide +kernel
theorem dX9_write_56 : decode cX9_write 56 = .ok (.iconst 1, 1) := by decide +kernel
theorem dX9_write_57 : decode cX9_write 57 = .ok (.iadd, 1) := by decide +kernel
theorem dX9_write_58 : decode cX9_write 58 = .ok (.putfield 195, 3) := by decide +kernel
theorem dX9_write_61 : decode cX9_write 61 = .ok (.aload_n 0, 1) := by decide +kernel
theorem dX9_write_62 : decode cX9_write 62 = .ok (.getfield 195, 3) := by decide +kernel
theorem dX9_write_65 : decode cX9_write 65 = .ok (.ireturn, 1) := by decide +kernel
theorem dX9_tear_0 : decode cX9_tear 0 = .ok (.aload_n 0, 1) := by decide +kernel
theorem dX9_tear_1 : decode cX9_tear 1 = .ok (.getfield 195, 3) := by decide +kernel
theorem dX9_tear_4 : decode cX9_tear 4 = .ok (.istore_n 1, 1) := by decide +kernel
theorem dX9_tear_5 : decode cX9_tear 5 = .ok (.aload_n 0, 1) := by decide +kernel
theorem dX9_tear_6 : decode cX9_tear 6 = .ok (.iconst 0, 1) := by decide +kernel
theorem dX9_tear_7 : decode cX9_tear 7 = .ok (.putfield 195, 3) := by decide +kernel
theorem dX9_tear_10 : decode cX9_tear 10 = .ok (.iload_n 1, 1) := by decide +kernel
theorem dX9_tear_11 : decode cX9_tear 11 = .ok (.ireturn, 1) := by decide +kernel
theorem dX9_judge_0 : decode cX9_judge 0 = .ok (.aload_n 0, 1) := by decide +kernel
theorem dX9_judge_1 : decode cX9_judge 1 = .ok (.iconst 0, 1) := by decide +kernel
theorem dX9_judge_2 : decode cX9_judge 2 = .ok (.invokevirtual 198, 3) := by decide +kernel
theorem dX9_judge_5 : decode cX9_judge 5 = .ok (.istore_n 1, 1) := by decide +kernel
theorem dX9_judge_6 : decode cX9_judge 6 = .ok (.iconst 0, 1) := by decide +kernel
theorem dX9_judge_7 : decode cX9_judge 7 = .ok (.istore_n 2, 1) := by decide +kernel
theorem dX9_judge_8 : decode cX9_judge 8 = .ok (.iload_n 2, 1) := by decide +kernel
theorem dX9_judge_9 : decode cX9_judge 9 = .ok (.aload_n 0, 1) := by decide +kernel
theorem dX9_judge_10 : decode cX9_judge 10 = .ok (.getfield 195, 3) := by decide +kernel
theorem dX9_judge_13 : decode cX9_judge 13 = .ok (.if_icmp .ge 48, 3) := by decide +kernel
theorem dX9_judge_16 : decode cX9_judge 16 = .ok (.aload_n 0, 1) := by decide +kernel
theorem dX9_judge_17 : decode cX9_judge 17 = .ok (.aload_n 0, 1) := by decide +kernel
theorem dX9_judge_18 : decode cX9_judge 18 = .ok (.getfield 77, 3) := by decide +kernel
theorem dX9_judge_21 : decode cX9_judge 21 = .ok (.iload_n 2, 1) := by decide +kernel
theorem dX9_judge_22 : decode cX9_judge 22 = .ok (.iaload, 1) := by decide +kernel
theorem dX9_judge_23 : decode cX9_judge 23 = .ok (.aload_n 0, 1) := by decide +kernel
theorem dX9_judge_24 : decode cX9_judge 24 = .ok (.getfield 80, 3) := by decide +kernel
theorem dX9_judge_27 : decode cX9_judge 27 = .ok (.iload_n 2, 1) := by decide +kernel
theorem dX9_judge_28 : decode cX9_judge 28 = .ok (.iaload, 1) := by decide +kernel
theorem dX9_judge_29 : decode cX9_judge 29 = .ok (.iload_n 1, 1) := by decide +kernel
theorem dX9_judge_30 : decode cX9_judge 30 = .ok (.aload_n 0, 1) := by decide +kernel
theorem dX9_judge_31 : decode cX9_judge 31 = .ok (.getfield 192, 3) := by decide +kernel
theorem dX9_judge_34 : decode cX9_judge 34 = .ok (.invokevirtual 226, 3) := by decide +kernel
theorem dX9_judge_37 : decode cX9_judge 37 = .ok (.ifCond .ne 5, 3) := by decide +kernel
theorem dX9_judge_40 : decode cX9_judge 40 = .ok (.iload_n 2, 1) := by decide +kernel
theorem dX9_judge_41 : decode cX9_judge 41 = .ok (.ireturn, 1) := by decide +kernel
theorem dX9_judge_42 : decode cX9_judge 42 = .ok (.iload_n 1, 1) := by decide +kernel
theorem dX9_judge_43 : decode cX9_judge 43 = .ok (.iconst 1, 1) := by decide +kernel
theorem dX9_judge_44 : decode cX9_judge 44 = .ok (.aload_n 0, 1) := by decide +kernel
theorem dX9_judge_45 : decode cX9_judge 45 = .ok (.getfield 80, 3) := by decide +kernel
theorem dX9_judge_48 : decode cX9_judge 48 = .ok (.iload_n 2, 1) := by decide +kernel
theorem dX9_judge_49 : decode cX9_judge 49 = .ok (.iaload, 1) := by decide +kernel
theorem dX9_judge_50 : decode cX9_judge 50 = .ok (.ishl, 1) := by decide +kernel
theorem dX9_judge_51 : decode cX9_judge 51 = .ok (.iconst (-1), 1) := by decide +kernel
theorem dX9_judge_52 : decode cX9_judge 52 = .ok (.ixor, 1) := by decide +kernel
theorem dX9_judge_53 : decode cX9_judge 53 = .ok (.iand, 1) := by decide +kernel
theorem dX9_judge_54 : decode cX9_judge 54 = .ok (.istore_n 1, 1) := by decide +kernel
theorem dX9_judge_55 : decode cX9_judge 55 = .ok (.iinc 2 1, 3) := by decide +kernel
theorem dX9_judge_58 : decode cX9_judge 58 = .ok (.goto (-50), 3) := by decide +kernel
theorem dX9_judge_61 : decode cX9_judge 61 = .ok (.iconst (-1), 1) := by decide +kernel
theorem dX9_judge_62 : decode cX9_judge 62 = .ok (.ireturn, 1) := by decide +kernel
theorem dX9_keep_0 : decode cX9_keep 0 = .ok (.iload_n 1, 1) := by decide +kernel
theorem dX9_keep_1 : decode cX9_keep 1 = .ok (.i2l, 1) := by decide +kernel
theorem dX9_keep_2 : decode cX9_keep 2 = .ok (.lconst 0, 1) := by decide +kernel
theorem dX9_keep_3 : decode cX9_keep 3 = .ok (.lconst 1, 1) := by decide +kernel
theorem dX9_keep_4 : decode cX9_keep 4 = .ok (.invokestatic 92, 3) := by decide +kernel
theorem dX9_keep_7 : decode cX9_keep 7 = .ok (.ifCond .ne 6, 3) := by decide +kernel
theorem dX9_keep_10 : decode cX9_keep 10 = .ok (.ldc 205, 2) := by decide +kernel
theorem dX9_keep_12 : decode cX9_keep 12 = .ok (.ireturn, 1) := by decide +kernel
theorem dX9_keep_13 : decode cX9_keep 13 = .ok (.bipush 23, 2) := by decide +kernel
theorem dX9_keep_15 : decode cX9_keep 15 = .ok (.iload_n 1, 1) := by decide +kernel
theorem dX9_keep_16 : decode cX9_keep 16 = .ok (.imul, 1) := by decide +kernel
theorem dX9_keep_17 : decode cX9_keep 17 = .ok (.istore_n 2, 1) := by decide +kernel
theorem dX9_keep_18 : decode cX9_keep 18 = .ok (.aload_n 0, 1) := by decide +kernel
theorem dX9_keep_19 : decode cX9_keep 19 = .ok (.getfield 83, 3) := by decide +kernel
theorem dX9_keep_22 : decode cX9_keep 22 = .ok (.iload_n 2, 1) := by decide +kernel
theorem dX9_keep_23 : decode cX9_keep 23 = .ok (.iconst 1, 1) := by decide +kernel
theorem dX9_keep_24 : decode cX9_keep 24 = .ok (.iastore, 1) := by decide +kernel
theorem dX9_keep_25 : decode cX9_keep 25 = .ok (.aload_n 0, 1) := by decide +kernel
theorem dX9_keep_26 : decode cX9_keep 26 = .ok (.getfield 83, 3) := by decide +kernel
theorem dX9_keep_29 : decode cX9_keep 29 = .ok (.iload_n 2, 1) := by decide +kernel
theorem dX9_keep_30 : decode cX9_keep 30 = .ok (.iconst 1, 1) := by decide +kernel
theorem dX9_keep_31 : decode cX9_keep 31 = .ok (.iadd, 1) := by decide +kernel
theorem dX9_keep_32 : decode cX9_keep 32 = .ok (.aload_n 0, 1) := by decide +kernel
theorem dX9_keep_33 : decode cX9_keep 33 = .ok (.getfield 192, 3) := by decide +kernel
theorem dX9_keep_36 : decode cX9_keep 36 = .ok (.iastore, 1) := by decide +kernel
theorem dX9_keep_37 : decode cX9_keep 37 = .ok (.aload_n 0, 1) := by decide +kernel
theorem dX9_keep_38 : decode cX9_keep 38 = .ok (.getfield 83, 3) := by decide +kernel
theorem dX9_keep_41 : decode cX9_keep 41 = .ok (.iload_n 2, 1) := by decide +kernel
theorem dX9_keep_42 : decode cX9_keep 42 = .ok (.iconst 2, 1) := by decide +kernel
theorem dX9_keep_43 : decode cX9_keep 43 = .ok (.iadd, 1) := by decide +kernel
theorem dX9_keep_44 : decode cX9_keep 44 = .ok (.aload_n 0, 1) := by decide +kernel
theorem dX9_keep_45 : decode cX9_keep 45 = .ok (.getfield 237, 3) := by decide +kernel
theorem dX9_keep_48 : decode cX9_keep 48 = .ok (.iastore, 1) := by decide +kernel
theorem dX9_keep_49 : decode cX9_keep 49 = .ok (.iconst 0, 1) := by decide +kernel
theorem dX9_keep_50 : decode cX9_keep 50 = .ok (.istore_n 3, 1) := by decide +kernel
theorem dX9_keep_51 : decode cX9_keep 51 = .ok (.iload_n 3, 1) := by decide +kernel
theorem dX9_keep_52 : decode cX9_keep 52 = .ok (.bipush 12, 2) := by decide +kernel
theorem dX9_keep_54 : decode cX9_keep 54 = .ok (.if_icmp .ge 25, 3) := by decide +kernel
theorem dX9_keep_57 : decode cX9_keep 57 = .ok (.aload_n 0, 1) := by decide +kernel
theorem dX9_keep_58 : decode cX9_keep 58 = .ok (.getfield 83, 3) := by decide +kernel
theorem dX9_keep_61 : decode cX9_keep 61 = .ok (.iload_n 2, 1) := by decide +kernel
theorem dX9_keep_62 : decode cX9_keep 62 = .ok (.iconst 3, 1) := by decide +kernel
theorem dX9_keep_63 : decode cX9_keep 63 = .ok (.iadd, 1) := by decide +kernel
theorem dX9_keep_64 : decode cX9_keep 64 = .ok (.iload_n 3, 1) := by decide +kernel
theorem dX9_keep_65 : decode cX9_keep 65 = .ok (.iadd, 1) := by decide +kernel
theorem dX9_keep_66 : decode cX9_keep 66 = .ok (.aload_n 0, 1) := by decide +kernel
theorem dX9_keep_67 : decode cX9_keep 67 = .ok (.getfield 46, 3) := by decide +kernel
theorem dX9_keep_70 : decode cX9_keep 70 = .ok (.iload_n 3, 1) := by decide +kernel
theorem dX9_keep_71 : decode cX9_keep 71 = .ok (.iaload, 1) := by decide +kernel
theorem dX9_keep_72 : decode cX9_keep 72 = .ok (.iastore, 1) := by decide +kernel
theorem dX9_keep_73 : decode cX9_keep 73 = .ok (.iinc 3 1, 3) := by decide +kernel
theorem dX9_keep_76 : decode cX9_keep 76 = .ok (.goto (-25), 3) := by decide +kernel
theorem dX9_keep_79 : decode cX9_keep 79 = .ok (.iconst 0, 1) := by decide +kernel
theorem dX9_keep_80 : decode cX9_keep 80 = .ok (.istore_n 3, 1) := by decide +kernel
theorem dX9_keep_81 : decode cX9_keep 81 = .ok (.iload_n 3, 1) := by decide +kernel
theorem dX9_keep_82 : decode cX9_keep 82 = .ok (.bipush 8, 2) := by decide +kernel
theorem dX9_keep_84 : decode cX9_keep 84 = .ok (.if_icmp .ge 26, 3) := by decide +kernel
theorem dX9_keep_87 : decode cX9_keep 87 = .ok (.aload_n 0, 1) := by decide +kernel
theorem dX9_keep_88 : decode cX9_keep 88 = .ok (.getfield 83, 3) := by decide +kernel
theorem dX9_keep_91 : decode cX9_keep 91 = .ok (.iload_n 2, 1) := by decide +kernel
theorem dX9_keep_92 : decode cX9_keep 92 = .ok (.bipush 15, 2) := by decide +kernel
theorem dX9_keep_94 : decode cX9_keep 94 = .ok (.iadd, 1) := by decide +kernel
theorem dX9_keep_95 : decode cX9_keep 95 = .ok (.iload_n 3, 1) := by decide +kernel
theorem dX9_keep_96 : decode cX9_keep 96 = .ok (.iadd, 1) := by decide +kernel
theorem dX9_keep_97 : decode cX9_keep 97 = .ok (.aload_n 0, 1) := by decide +kernel
theorem dX9_keep_98 : decode cX9_keep 98 = .ok (.getfield 34, 3) := by decide +kernel
theorem dX9_keep_101 : decode cX9_keep 101 = .ok (.iload_n 3, 1) := by decide +kernel
theorem dX9_keep_102 : decode cX9_keep 102 = .ok (.iaload, 1) := by decide +kernel
theorem dX9_keep_103 : decode cX9_keep 103 = .ok (.iastore, 1) := by decide +kernel
theorem dX9_keep_104 : decode cX9_keep 104 = .ok (.iinc 3 1, 3) := by decide +kernel
theorem dX9_keep_107 : decode cX9_keep 107 = .ok (.goto (-26), 3) := by decide +kernel
theorem dX9_keep_110 : decode cX9_keep 110 = .ok (.iconst 1, 1) := by decide +kernel
theorem dX9_keep_111 : decode cX9_keep 111 = .ok (.ireturn, 1) := by decide +kernel
theorem dX9_goBack_0 : decode cX9_goBack 0 = .ok (.iload_n 1, 1) := by decide +kernel
theorem dX9_goBack_1 : decode cX9_goBack 1 = .ok (.i2l, 1) := by decide +kernel
theorem dX9_goBack_2 : decode cX9_goBack 2 = .ok (.lconst 0, 1) := by decide +kernel
theorem dX9_goBack_3 : decode cX9_goBack 3 = .ok (.lconst 1, 1) := by decide +kernel
theorem dX9_goBack_4 : decode cX9_goBack 4 = .ok (.invokestatic 92, 3) := by decide +kernel
theorem dX9_goBack_7 : decode cX9_goBack 7 = .ok (.ifCond .ne 6, 3) := by decide +kernel
theorem dX9_goBack_10 : decode cX9_goBack 10 = .ok (.ldc 205, 2) := by decide +kernel
theorem dX9_goBack_12 : decode cX9_goBack 12 = .ok (.ireturn, 1) := by decide +kernel
theorem dX9_goBack_13 : decode cX9_goBack 13 = .ok (.bipush 23, 2) := by decide +kernel
theorem dX9_goBack_15 : decode cX9_goBack 15 = .ok (.iload_n 1, 1) := by decide +kernel
theorem dX9_goBack_16 : decode cX9_goBack 16 = .ok (.imul, 1) := by decide +kernel
theorem dX9_goBack_17 : decode cX9_goBack 17 = .ok (.istore_n 2, 1) := by decide +kernel
theorem dX9_goBack_18 : decode cX9_goBack 18 = .ok (.aload_n 0, 1) := by decide +kernel
theorem dX9_goBack_19 : decode cX9_goBack 19 = .ok (.getfield 83, 3) := by decide +kernel
theorem dX9_goBack_22 : decode cX9_goBack 22 = .ok (.iload_n 2, 1) := by decide +kernel
theorem dX9_goBack_23 : decode cX9_goBack 23 = .ok (.iaload, 1) := by decide +kernel
theorem dX9_goBack_24 : decode cX9_goBack 24 = .ok (.ifCond .ne 6, 3) := by decide +kernel
theorem dX9_goBack_27 : decode cX9_goBack 27 = .ok (.ldc 230, 2) := by decide +kernel
theorem dX9_goBack_29 : decode cX9_goBack 29 = .ok (.ireturn, 1) := by decide +kernel
theorem dX9_goBack_30 : decode cX9_goBack 30 = .ok (.aload_n 0, 1) := by decide +kernel
theorem dX9_goBack_31 : decode cX9_goBack 31 = .ok (.aload_n 0, 1) := by decide +kernel
theorem dX9_goBack_32 : decode cX9_goBack 32 = .ok (.getfield 83, 3) := by decide +kernel
theorem dX9_goBack_35 : decode cX9_goBack 35 = .ok (.iload_n 2, 1) := by decide +kernel
theorem dX9_goBack_36 : decode cX9_goBack 36 = .ok (.iconst 1, 1) := by decide +kernel
theorem dX9_goBack_37 : decode cX9_goBack 37 = .ok (.iadd, 1) := by decide +kernel
theorem dX9_goBack_38 : decode cX9_goBack 38 = .ok (.iaload, 1) := by decide +kernel
theorem dX9_goBack_39 : decode cX9_goBack 39 = .ok (.putfield 192, 3) := by decide +kernel
theorem dX9_goBack_42 : decode cX9_goBack 42 = .ok (.aload_n 0, 1) := by decide +kernel
theorem dX9_goBack_43 : decode cX9_goBack 43 = .ok (.aload_n 0, 1) := by decide +kernel
theorem dX9_goBack_44 : decode cX9_goBack 44 = .ok (.getfield 83, 3) := by decide +kernel
theorem dX9_goBack_47 : decode cX9_goBack 47 = .ok (.iload_n 2, 1) := by decide +kernel
theorem dX9_goBack_48 : decode cX9_goBack 48 = .ok (.iconst 2, 1) := by decide +kernel
theorem dX9_goBack_49 : decode cX9_goBack 49 = .ok (.iadd, 1) := by decide +kernel
theorem dX9_goBack_50 : decode cX9_goBack 50 = .ok (.iaload, 1) := by decide +kernel
theorem dX9_goBack_51 : decode cX9_goBack 51 = .ok (.putfield 237, 3) := by decide +kernel
theorem dX9_goBack_54 : decode cX9_goBack 54 = .ok (.iconst 0, 1) := by decide +kernel
theorem dX9_goBack_55 : decode cX9_goBack 55 = .ok (.istore_n 3, 1) := by decide +kernel
theorem dX9_goBack_56 : decode cX9_goBack 56 = .ok (.iload_n 3, 1) := by decide +kernel
theorem dX9_goBack_57 : decode cX9_goBack 57 = .ok (.bipush 12, 2) := by decide +kernel
theorem dX9_goBack_59 : decode cX9_goBack 59 = .ok (.if_icmp .ge 25, 3) := by decide +kernel
theorem dX9_goBack_62 : decode cX9_goBack 62 = .ok (.aload_n 0, 1) := by decide +kernel
theorem dX9_goBack_63 : decode cX9_goBack 63 = .ok (.getfield 46, 3) := by decide +kernel
theorem dX9_goBack_66 : decode cX9_goBack 66 = .ok (.iload_n 3, 1) := by decide +kernel
theorem dX9_goBack_67 : decode cX9_goBack 67 = .ok (.aload_n 0, 1) := by decide +kernel
theorem dX9_goBack_68 : decode cX9_goBack 68 = .ok (.getfield 83, 3) := by decide +kernel
theorem dX9_goBack_71 : decode cX9_goBack 71 = .ok (.iload_n 2, 1) := by decide +kernel
theorem dX9_goBack_72 : decode cX9_goBack 72 = .ok (.iconst 3, 1) := by decide +kernel
theorem dX9_goBack_73 : decode cX9_goBack 73 = .ok (.iadd, 1) := by decide +kernel
theorem dX9_goBack_74 : decode cX9_goBack 74 = .ok (.iload_n 3, 1) := by decide +kernel
theorem dX9_goBack_75 : decode cX9_goBack 75 = .ok (.iadd, 1) := by decide +kernel
theorem dX9_goBack_76 : decode cX9_goBack 76 = .ok (.iaload, 1) := by decide +kernel
theorem dX9_goBack_77 : decode cX9_goBack 77 = .ok (.iastore, 1) := by decide +kernel
theorem dX9_goBack_78 : decode cX9_goBack 78 = .ok (.iinc 3 1, 3) := by decide +kernel
theorem dX9_goBack_81 : decode cX9_goBack 81 = .ok (.goto (-25), 3) := by decide +kernel
theorem dX9_goBack_84 : decode cX9_goBack 84 = .ok (.iconst 0, 1) := by decide +kernel
theorem dX9_goBack_85 : decode cX9_goBack 85 = .ok (.istore_n 3, 1) := by decide +kernel
theorem dX9_goBack_86 : decode cX9_goBack 86 = .ok (.iload_n 3, 1) := by decide +kernel
theorem dX9_goBack_87 : decode cX9_goBack 87 = .ok (.bipush 8, 2) := by decide +kernel
theorem dX9_goBack_89 : decode cX9_goBack 89 = .ok (.if_icmp .ge 26, 3) := by decide +kernel
theorem dX9_goBack_92 : decode cX9_goBack 92 = .ok (.aload_n 0, 1) := by decide +kernel
theorem dX9_goBack_93 : decode cX9_goBack 93 = .ok (.getfield 34, 3) := by decide +kernel
theorem dX9_goBack_96 : decode cX9_goBack 96 = .ok (.iload_n 3, 1) := by decide +kernel
theorem dX9_goBack_97 : decode cX9_goBack 97 = .ok (.aload_n 0, 1) := by decide +kernel
theorem dX9_goBack_98 : decode cX9_goBack 98 = .ok (.getfield 83, 3) := by decide +kernel
theorem dX9_goBack_101 : decode cX9_goBack 101 = .ok (.iload_n 2, 1) := by decide +kernel
theorem dX9_goBack_102 : decode cX9_goBack 102 = .ok (.bipush 15, 2) := by decide +kernel
theorem dX9_goBack_104 : decode cX9_goBack 104 = .ok (.iadd, 1) := by decide +kernel
theorem dX9_goBack_105 : decode cX9_goBack 105 = .ok (.iload_n 3, 1) := by decide +kernel
theorem dX9_goBack_106 : decode cX9_goBack 106 = .ok (.iadd, 1) := by decide +kernel
theorem dX9_goBack_107 : decode cX9_goBack 107 = .ok (.iaload, 1) := by decide +kernel
theorem dX9_goBack_108 : decode cX9_goBack 108 = .ok (.iastore, 1) := by decide +kernel
theorem dX9_goBack_109 : decode cX9_goBack 109 = .ok (.iinc 3 1, 3) := by decide +kernel
theorem dX9_goBack_112 : decode cX9_goBack 112 = .ok (.goto (-26), 3) := by decide +kernel
theorem dX9_goBack_115 : decode cX9_goBack 115 = .ok (.iconst 1, 1) := by decide +kernel
theorem dX9_goBack_116 : decode cX9_goBack 116 = .ok (.ireturn, 1) := by decide +kernel
theorem dL_law_0 : decode cL_law 0 = .ok (.new 7, 3) := by decide +kernel
theorem dL_law_3 : decode cL_law 3 = .ok (.dup, 1) := by decide +kernel
theorem dL_law_4 : decode cL_law 4 = .ok (.invokespecial 9, 3) := by decide +kernel
theorem dL_law_7 : decode cL_law 7 = .ok (.astore_n 1, 1) := by decide +kernel
theorem dL_law_8 : decode cL_law 8 = .ok (.new 10, 3) := by decide +kernel
theorem dL_law_11 : decode cL_law 11 = .ok (.dup, 1) := by decide +kernel
theorem dL_law_12 : decode cL_law 12 = .ok (.invokespecial 12, 3) := by decide +kernel
theorem dL_law_15 : decode cL_law 15 = .ok (.astore_n 2, 1) := by decide +kernel
theorem dL_law_16 : decode cL_law 16 = .ok (.iconst 0, 1) := by decide +kernel
theorem dL_law_17 : decode cL_law 17 = .ok (.istore_n 3, 1) := by decide +kernel
theorem dL_law_18 : decode cL_law 18 = .ok (.iload_n 3, 1) := by decide +kernel
theorem dL_law_19 : decode cL_law 19 = .ok (.aload_n 0, 1) := by decide +kernel
theorem dL_law_20 : decode cL_law 20 = .ok (.arraylength, 1) := by decide +kernel
theorem dL_law_21 : decode cL_law 21 = .ok (.iconst 5, 1) := by decide +kernel
theorem dL_law_22 : decode cL_law 22 = .ok (.isub, 1) := by decide +kernel
theorem dL_law_23 : decode cL_law 23 = .ok (.if_icmp .gt 980, 3) := by decide +kernel
theorem dL_law_26 : decode cL_law 26 = .ok (.aload_n 0, 1) := by decide +kernel
theorem dL_law_27 : decode cL_law 27 = .ok (.iload_n 3, 1) := by decide +kernel
theorem dL_law_28 : decode cL_law 28 = .ok (.iaload, 1) := by decide +kernel
theorem dL_law_29 : decode cL_law 29 = .ok (.bipush 31, 2) := by decide +kernel
theorem dL_law_31 : decode cL_law 31 = .ok (.iand, 1) := by decide +kernel
theorem dL_law_32 : decode cL_law 32 = .ok (.tableswitch 965 0 28 #[132, 195, 208, 221, 244, 277, 310, 333, 366, 399, 448, 471, 504, 527, 560, 593, 626, 659, 692, 745, 768, 801, 814, 837, 870, 883, 896, 919, 942], 132) := by decide +kernel
theorem dL_law_164 : decode cL_law 164 = .ok (.aload_n 1, 1) := by decide +kernel
theorem dL_law_165 : decode cL_law 165 = .ok (.aload_n 0, 1) := by decide +kernel
theorem dL_law_166 : decode cL_law 166 = .ok (.iload_n 3, 1) := by decide +kernel
theorem dL_law_167 : decode cL_law 167 = .ok (.iconst 1, 1) := by decide +kernel
theorem dL_law_168 : decode cL_law 168 = .ok (.iadd, 1) := by decide +kernel
theorem dL_law_169 : decode cL_law 169 = .ok (.iaload, 1) := by decide +kernel
theorem dL_law_170 : decode cL_law 170 = .ok (.aload_n 0, 1) := by decide +kernel
theorem dL_law_171 : decode cL_law 171 = .ok (.iload_n 3, 1) := by decide +kernel
theorem dL_law_172 : decode cL_law 172 = .ok (.iconst 2, 1) := by decide +kernel
theorem dL_law_173 : decode cL_law 173 = .ok (.iadd, 1) := by decide +kernel
theorem dL_law_174 : decode cL_law 174 = .ok (.iaload, 1) := by decide +kernel
theorem dL_law_175 : decode cL_law 175 = .ok (.i2l, 1) := by decide +kernel
theorem dL_law_176 : decode cL_law 176 = .ok (.bipush 32, 2) := by decide +kernel
theorem dL_law_178 : decode cL_law 178 = .ok (.lshl, 1) := by decide +kernel
theorem dL_law_179 : decode cL_law 179 = .ok (.aload_n 0, 1) := by decide +kernel
theorem dL_law_180 : decode cL_law 180 = .ok (.iload_n 3, 1) := by decide +kernel
theorem dL_law_181 : decode cL_law 181 = .ok (.iconst 3, 1) := by decide +kernel
theorem dL_law_182 : decode cL_law 182 = .ok (.iadd, 1) := by decide +kernel
theorem dL_law_183 : decode cL_law 183 = .ok (.iaload, 1) := by decide +kernel
theorem dL_law_184 : decode cL_law 184 = .ok (.i2l, 1) := by decide +kernel
theorem dL_law_185 : decode cL_law 185 = .ok (.ldc2_w 13, 3) := by decide +kernel
theorem dL_law_188 : decode cL_law 188 = .ok (.land, 1) := by decide +kernel
theorem dL_law_189 : decode cL_law 189 = .ok (.lor, 1) := by decide +kernel
theorem dL_law_190 : decode cL_law 190 = .ok (.invokevirtual 15, 3) := by decide +kernel
theorem dL_law_193 : decode cL_law 193 = .ok (.aload_n 2, 1) := by decide +kernel
theorem dL_law_194 : decode cL_law 194 = .ok (.aload_n 0, 1) := by decide +kernel
theorem dL_law_195 : decode cL_law 195 = .ok (.iload_n 3, 1) := by decide +kernel
theorem dL_law_196 : decode cL_law 196 = .ok (.iconst 1, 1) := by decide +kernel
theorem dL_law_197 : decode cL_law 197 = .ok (.iadd, 1) := by decide +kernel
theorem dL_law_198 : decode cL_law 198 = .ok (.iaload, 1) := by decide +kernel
theorem dL_law_199 : decode cL_law 199 = .ok (.aload_n 0, 1) := by decide +kernel
theorem dL_law_200 : decode cL_law 200 = .ok (.iload_n 3, 1) := by decide +kernel
theorem dL_law_201 : decode cL_law 201 = .ok (.iconst 2, 1) := by decide +kernel
theorem dL_law_202 : decode cL_law 202 = .ok (.iadd, 1) := by decide +kernel
theorem dL_law_203 : decode cL_law 203 = .ok (.iaload, 1) := by decide +kernel
theorem dL_law_204 : decode cL_law 204 = .ok (.i2l, 1) := by decide +kernel
theorem dL_law_205 : decode cL_law 205 = .ok (.bipush 32, 2) := by decide +kernel
theorem dL_law_207 : decode cL_law 207 = .ok (.lshl, 1) := by decide +kernel
theorem dL_law_208 : decode cL_law 208 = .ok (.aload_n 0, 1) := by decide +kernel
theorem dL_law_209 : decode cL_law 209 = .ok (.iload_n 3, 1) := by decide +kernel
theorem dL_law_210 : decode cL_law 210 = .ok (.iconst 3, 1) := by decide +kernel
theorem dL_law_211 : decode cL_law 211 = .ok (.iadd, 1) := by decide +kernel
theorem dL_law_212 : decode cL_law 212 = .ok (.iaload, 1) := by decide +kernel
theorem dL_law_213 : decode cL_law 213 = .ok (.i2l, 1) := by decide +kernel
theorem dL_law_214 : decode cL_law 214 = .ok (.ldc2_w 13, 3) := by decide +kernel
theorem dL_law_217 : decode cL_law 217 = .ok (.land, 1) := by decide +kernel
theorem dL_law_218 : decode cL_law 218 = .ok (.lor, 1) := by decide +kernel
theorem dL_law_219 : decode cL_law 219 = .ok (.invokevirtual 19, 3) := by decide +kernel
theorem dL_law_222 : decode cL_law 222 = .ok (.if_icmp .eq 775, 3) := by decide +kernel
theorem dL_law_225 : decode cL_law 225 = .ok (.iconst 0, 1) := by decide +kernel
theorem dL_law_226 : decode cL_law 226 = .ok (.ireturn, 1) := by decide +kernel
theorem dL_law_227 : decode cL_law 227 = .ok (.aload_n 1, 1) := by decide +kernel
theorem dL_law_228 : decode cL_law 228 = .ok (.invokevirtual 20, 3) := by decide +kernel
theorem dL_law_231 : decode cL_law 231 = .ok (.aload_n 2, 1) := by decide +kernel
theorem dL_law_232 : decode cL_law 232 = .ok (.invokevirtual 24, 3) := by decide +kernel
theorem dL_law_235 : decode cL_law 235 = .ok (.if_icmp .eq 762, 3) := by decide +kernel
theorem dL_law_238 : decode cL_law 238 = .ok (.iconst 0, 1) := by decide +kernel
theorem dL_law_239 : decode cL_law 239 = .ok (.ireturn, 1) := by decide +kernel
theorem dL_law_240 : decode cL_law 240 = .ok (.aload_n 1, 1) := by decide +kernel
theorem dL_law_241 : decode cL_law 241 = .ok (.invokevirtual 25, 3) := by decide +kernel
theorem dL_law_244 : decode cL_law 244 = .ok (.aload_n 2, 1) := by decide +kernel
theorem dL_law_245 : decode cL_law 245 = .ok (.invokevirtual 28, 3) := by decide +kernel
theorem dL_law_248 : decode cL_law 248 = .ok (.if_icmp .eq 749, 3) := by decide +kernel
theorem dL_law_251 : decode cL_law 251 = .ok (.iconst 0, 1) := by decide +kernel
theorem dL_law_252 : decode cL_law 252 = .ok (.ireturn, 1) := by decide +kernel
theorem dL_law_253 : decode cL_law 253 = .ok (.aload_n 1, 1) := by decide +kernel
theorem dL_law_254 : decode cL_law 254 = .ok (.aload_n 0, 1) := by decide +kernel
theorem dL_law_255 : decode cL_law 255 = .ok (.iload_n 3, 1) := by decide +kernel
theorem dL_law_256 : decode cL_law 256 = .ok (.iconst 1, 1) := by decide +kernel
theorem dL_law_257 : decode cL_law 257 = .ok (.iadd, 1) := by decide +kernel
theorem dL_law_258 : decode cL_law 258 = .ok (.iaload, 1) := by decide +kernel
theorem dL_law_259 : decode cL_law 259 = .ok (.invokevirtual 29, 3) := by decide +kernel
theorem dL_law_262 : decode cL_law 262 = .ok (.aload_n 2, 1) := by decide +kernel
theorem dL_law_263 : decode cL_law 263 = .ok (.aload_n 0, 1) := by decide +kernel
theorem dL_law_264 : decode cL_law 264 = .ok (.iload_n 3, 1) := by decide +kernel
theorem dL_law_265 : decode cL_law 265 = .ok (.iconst 1, 1) := by decide +kernel
theorem dL_law_266 : decode cL_law 266 = .ok (.iadd, 1) := by decide +kernel
theorem dL_law_267 : decode cL_law 267 = .ok (.iaload, 1) := by decide +kernel
theorem dL_law_268 : decode cL_law 268 = .ok (.invokevirtual 33, 3) := by decide +kernel
theorem dL_law_271 : decode cL_law 271 = .ok (.if_icmp .eq 726, 3) := by decide +kernel
theorem dL_law_274 : decode cL_law 274 = .ok (.iconst 0, 1) := by decide +kernel
theorem dL_law_275 : decode cL_law 275 = .ok (.ireturn, 1) := by decide +kernel
theorem dL_law_276 : decode cL_law 276 = .ok (.aload_n 1, 1) := by decide +kernel
theorem dL_law_277 : decode cL_law 277 = .ok (.aload_n 0, 1) := by decide +kernel
theorem dL_law_278 : decode cL_law 278 = .ok (.iload_n 3, 1) := by decide +kernel
theorem dL_law_279 : decode cL_law 279 = .ok (.iconst 1, 1) := by decide +kernel
theorem dL_law_280 : decode cL_law 280 = .ok (.iadd, 1) := by decide +kernel
theorem dL_law_281 : decode cL_law 281 = .ok (.iaload, 1) := by decide +kernel
theorem dL_law_282 : decode cL_law 282 = .ok (.aload_n 0, 1) := by decide +kernel
theorem dL_law_283 : decode cL_law 283 = .ok (.iload_n 3, 1) := by decide +kernel
theorem dL_law_284 : decode cL_law 284 = .ok (.iconst 2, 1) := by decide +kernel
theorem dL_law_285 : decode cL_law 285 = .ok (.iadd, 1) := by decide +kernel
theorem dL_law_286 : decode cL_law 286 = .ok (.iaload, 1) := by decide +kernel
theorem dL_law_287 : decode cL_law 287 = .ok (.invokevirtual 34, 3) := by decide +kernel
theorem dL_law_290 : decode cL_law 290 = .ok (.aload_n 2, 1) := by decide +kernel
theorem dL_law_291 : decode cL_law 291 = .ok (.aload_n 0, 1) := by decide +kernel
theorem dL_law_292 : decode cL_law 292 = .ok (.iload_n 3, 1) := by decide +kernel
theorem dL_law_293 : decode cL_law 293 = .ok (.iconst 1, 1) := by decide +kernel
theorem dL_law_294 : decode cL_law 294 = .ok (.iadd, 1) := by decide +kernel
theorem dL_law_295 : decode cL_law 295 = .ok (.iaload, 1) := by decide +kernel
theorem dL_law_296 : decode cL_law 296 = .ok (.aload_n 0, 1) := by decide +kernel
theorem dL_law_297 : decode cL_law 297 = .ok (.iload_n 3, 1) := by decide +kernel
theorem dL_law_298 : decode cL_law 298 = .ok (.iconst 2, 1) := by decide +kernel
theorem dL_law_299 : decode cL_law 299 = .ok (.iadd, 1) := by decide +kernel
theorem dL_law_300 : decode cL_law 300 = .ok (.iaload, 1) := by decide +kernel
theorem dL_law_301 : decode cL_law 301 = .ok (.invokevirtual 38, 3) := by decide +kernel
theorem dL_law_304 : decode cL_law 304 = .ok (.if_icmp .eq 693, 3) := by decide +kernel
theorem dL_law_307 : decode cL_law 307 = .ok (.iconst 0, 1) := by decide +kernel
theorem dL_law_308 : decode cL_law 308 = .ok (.ireturn, 1) := by decide +kernel
theorem dL_law_309 : decode cL_law 309 = .ok (.aload_n 1, 1) := by decide +kernel
theorem dL_law_310 : decode cL_law 310 = .ok (.aload_n 0, 1) := by decide +kernel
theorem dL_law_311 : decode cL_law 311 = .ok (.iload_n 3, 1) := by decide +kernel
theorem dL_law_312 : decode cL_law 312 = .ok (.iconst 1, 1) := by decide +kernel
theorem dL_law_313 : decode cL_law 313 = .ok (.iadd, 1) := by decide +kernel
theorem dL_law_314 : decode cL_law 314 = .ok (.iaload, 1) := by decide +kernel
theorem dL_law_315 : decode cL_law 315 = .ok (.aload_n 0, 1) := by decide +kernel
theorem dL_law_316 : decode cL_law 316 = .ok (.iload_n 3, 1) := by decide +kernel
theorem dL_law_317 : decode cL_law 317 = .ok (.iconst 2, 1) := by decide +kernel
theorem dL_law_318 : decode cL_law 318 = .ok (.iadd, 1) := by decide +kernel
theorem dL_law_319 : decode cL_law 319 = .ok (.iaload, 1) := by decide +kernel
theorem dL_law_320 : decode cL_law 320 = .ok (.invokevirtual 39, 3) := by decide +kernel
theorem dL_law_323 : decode cL_law 323 = .ok (.aload_n 2, 1) := by decide +kernel
theorem dL_law_324 : decode cL_law 324 = .ok (.aload_n 0, 1) := by decide +kernel
theorem dL_law_325 : decode cL_law 325 = .ok (.iload_n 3, 1) := by decide +kernel
theorem dL_law_326 : decode cL_law 326 = .ok (.iconst 1, 1) := by decide +kernel
theorem dL_law_327 : decode cL_law 327 = .ok (.iadd, 1) := by decide +kernel
theorem dL_law_328 : decode cL_law 328 = .ok (.iaload, 1) := by decide +kernel
theorem dL_law_329 : decode cL_law 329 = .ok (.aload_n 0, 1) := by decide +kernel
theorem dL_law_330 : decode cL_law 330 = .ok (.iload_n 3, 1) := by decide +kernel
theorem dL_law_331 : decode cL_law 331 = .ok (.iconst 2, 1) := by decide +kernel
theorem dL_law_332 : decode cL_law 332 = .ok (.iadd, 1) := by decide +kernel
theorem dL_law_333 : decode cL_law 333 = .ok (.iaload, 1) := by decide +kernel
theorem dL_law_334 : decode cL_law 334 = .ok (.invokevirtual 42, 3) := by decide +kernel
theorem dL_law_337 : decode cL_law 337 = .ok (.if_icmp .eq 660, 3) := by decide +kernel
theorem dL_law_340 : decode cL_law 340 = .ok (.iconst 0, 1) := by decide +kernel
theorem dL_law_341 : decode cL_law 341 = .ok (.ireturn, 1) := by decide +kernel
theorem dL_law_342 : decode cL_law 342 = .ok (.aload_n 1, 1) := by decide +kernel
theorem dL_law_343 : decode cL_law 343 = .ok (.aload_n 0, 1) := by decide +kernel
theorem dL_law_344 : decode cL_law 344 = .ok (.iload_n 3, 1) := by decide +kernel
theorem dL_law_345 : decode cL_law 345 = .ok (.iconst 1, 1) := by decide +kernel
theorem dL_law_346 : decode cL_law 346 = .ok (.iadd, 1) := by decide +kernel
theorem dL_law_347 : decode cL_law 347 = .ok (.iaload, 1) := by decide +kernel
theorem dL_law_348 : decode cL_law 348 = .ok (.invokevirtual 43, 3) := by decide +kernel
theorem dL_law_351 : decode cL_law 351 = .ok (.aload_n 2, 1) := by decide +kernel
theorem dL_law_352 : decode cL_law 352 = .ok (.aload_n 0, 1) := by decide +kernel
theorem dL_law_353 : decode cL_law 353 = .ok (.iload_n 3, 1) := by decide +kernel
theorem dL_law_354 : decode cL_law 354 = .ok (.iconst 1, 1) := by decide +kernel
theorem dL_law_355 : decode cL_law 355 = .ok (.iadd, 1) := by decide +kernel
theorem dL_law_356 : decode cL_law 356 = .ok (.iaload, 1) := by decide +kernel
theorem dL_law_357 : decode cL_law 357 = .ok (.invokevirtual 46, 3) := by decide +kernel
theorem dL_law_360 : decode cL_law 360 = .ok (.if_icmp .eq 637, 3) := by decide +kernel
theorem dL_law_363 : decode cL_law 363 = .ok (.iconst 0, 1) := by decide +kernel
theorem dL_law_364 : decode cL_law 364 = .ok (.ireturn, 1) := by decide +kernel
theorem dL_law_365 : decode cL_law 365 = .ok (.aload_n 1, 1) := by decide +kernel
theorem dL_law_366 : decode cL_law 366 = .ok (.aload_n 0, 1) := by decide +kernel
theorem dL_law_367 : decode cL_law 367 = .ok (.iload_n 3, 1) := by decide +kernel
theorem dL_law_368 : decode cL_law 368 = .ok (.iconst 1, 1) := by decide +kernel
theorem dL_law_369 : decode cL_law 369 = .ok (.iadd, 1) := by decide +kernel
theorem dL_law_370 : decode cL_law 370 = .ok (.iaload, 1) := by decide +kernel
theorem dL_law_371 : decode cL_law 371 = .ok (.aload_n 0, 1) := by decide +kernel
theorem dL_law_372 : decode cL_law 372 = .ok (.iload_n 3, 1) := by decide +kernel
theorem dL_law_373 : decode cL_law 373 = .ok (.iconst 2, 1) := by decide +kernel
theorem dL_law_374 : decode cL_law 374 = .ok (.iadd, 1) := by decide +kernel
theorem dL_law_375 : decode cL_law 375 = .ok (.iaload, 1) := by decide +kernel
theorem dL_law_376 : decode cL_law 376 = .ok (.invokevirtual 47, 3) := by decide +kernel
theorem dL_law_379 : decode cL_law 379 = .ok (.aload_n 2, 1) := by decide +kernel
theorem dL_law_380 : decode cL_law 380 = .ok (.aload_n 0, 1) := by decide +kernel
theorem dL_law_381 : decode cL_law 381 = .ok (.iload_n 3, 1) := by decide +kernel
theorem dL_law_382 : decode cL_law 382 = .ok (.iconst 1, 1) := by decide +kernel
theorem dL_law_383 : decode cL_law 383 = .ok (.iadd, 1) := by decide +kernel
theorem dL_law_384 : decode cL_law 384 = .ok (.iaload, 1) := by decide +kernel
theorem dL_law_385 : decode cL_law 385 = .ok (.aload_n 0, 1) := by decide +kernel
theorem dL_law_386 : decode cL_law 386 = .ok (.iload_n 3, 1) := by decide +kernel
theorem dL_law_387 : decode cL_law 387 = .ok (.iconst 2, 1) := by decide +kernel
theorem dL_law_388 : decode cL_law 388 = .ok (.iadd, 1) := by decide +kernel
theorem dL_law_389 : decode cL_law 389 = .ok (.iaload, 1) := by decide +kernel
theorem dL_law_390 : decode cL_law 390 = .ok (.invokevirtual 50, 3) := by decide +kernel
theorem dL_law_393 : decode cL_law 393 = .ok (.if_icmp .eq 604, 3) := by decide +kernel
theorem dL_law_396 : decode cL_law 396 = .ok (.iconst 0, 1) := by decide +kernel
theorem dL_law_397 : decode cL_law 397 = .ok (.ireturn, 1) := by decide +kernel
theorem dL_law_398 : decode cL_law 398 = .ok (.aload_n 1, 1) := by decide +kernel
theorem dL_law_399 : decode cL_law 399 = .ok (.aload_n 0, 1) := by decide +kernel
theorem dL_law_400 : decode cL_law 400 = .ok (.iload_n 3, 1) := by decide +kernel
theorem dL_law_401 : decode cL_law 401 = .ok (.iconst 1, 1) := by decide +kernel
theorem dL_law_402 : decode cL_law 402 = .ok (.iadd, 1) := by decide +kernel
theorem dL_law_403 : decode cL_law 403 = .ok (.iaload, 1) := by decide +kernel
theorem dL_law_404 : decode cL_law 404 = .ok (.aload_n 0, 1) := by decide +kernel
theorem dL_law_405 : decode cL_law 405 = .ok (.iload_n 3, 1) := by decide +kernel
theorem dL_law_406 : decode cL_law 406 = .ok (.iconst 2, 1) := by decide +kernel
theorem dL_law_407 : decode cL_law 407 = .ok (.iadd, 1) := by decide +kernel
theorem dL_law_408 : decode cL_law 408 = .ok (.iaload, 1) := by decide +kernel
theorem dL_law_409 : decode cL_law 409 = .ok (.invokevirtual 51, 3) := by decide +kernel
theorem dL_law_412 : decode cL_law 412 = .ok (.aload_n 2, 1) := by decide +kernel
theorem dL_law_413 : decode cL_law 413 = .ok (.aload_n 0, 1) := by decide +kernel
theorem dL_law_414 : decode cL_law 414 = .ok (.iload_n 3, 1) := by decide +kernel
theorem dL_law_415 : decode cL_law 415 = .ok (.iconst 1, 1) := by decide +kernel
theorem dL_law_416 : decode cL_law 416 = .ok (.iadd, 1) := by decide +kernel
theorem dL_law_417 : decode cL_law 417 = .ok (.iaload, 1) := by decide +kernel
theorem dL_law_418 : decode cL_law 418 = .ok (.aload_n 0, 1) := by decide +kernel
theorem dL_law_419 : decode cL_law 419 = .ok (.iload_n 3, 1) := by decide +kernel
theorem dL_law_420 : decode cL_law 420 = .ok (.iconst 2, 1) := by decide +kernel
theorem dL_law_421 : decode cL_law 421 = .ok (.iadd, 1) := by decide +kernel
theorem dL_law_422 : decode cL_law 422 = .ok (.iaload, 1) := by decide +kernel
theorem dL_law_423 : decode cL_law 423 = .ok (.invokevirtual 54, 3) := by decide +kernel
theorem dL_law_426 : decode cL_law 426 = .ok (.if_icmp .eq 571, 3) := by decide +kernel
theorem dL_law_429 : decode cL_law 429 = .ok (.iconst 0, 1) := by decide +kernel
theorem dL_law_430 : decode cL_law 430 = .ok (.ireturn, 1) := by decide +kernel
theorem dL_law_431 : decode cL_law 431 = .ok (.aload_n 1, 1) := by decide +kernel
theorem dL_law_432 : decode cL_law 432 = .ok (.aload_n 0, 1) := by decide +kernel
theorem dL_law_433 : decode cL_law 433 = .ok (.iload_n 3, 1) := by decide +kernel
theorem dL_law_434 : decode cL_law 434 = .ok (.iconst 1, 1) := by decide +kernel
theorem dL_law_435 : decode cL_law 435 = .ok (.iadd, 1) := by decide +kernel
theorem dL_law_436 : decode cL_law 436 = .ok (.iaload, 1) := by decide +kernel
theorem dL_law_437 : decode cL_law 437 = .ok (.aload_n 0, 1) := by decide +kernel
theorem dL_law_438 : decode cL_law 438 = .ok (.iload_n 3, 1) := by decide +kernel
theorem dL_law_439 : decode cL_law 439 = .ok (.iconst 2, 1) := by decide +kernel
theorem dL_law_440 : decode cL_law 440 = .ok (.iadd, 1) := by decide +kernel
theorem dL_law_441 : decode cL_law 441 = .ok (.iaload, 1) := by decide +kernel
theorem dL_law_442 : decode cL_law 442 = .ok (.ifCond .eq 7, 3) := by decide +kernel
theorem dL_law_445 : decode cL_law 445 = .ok (.iconst 1, 1) := by decide +kernel
theorem dL_law_446 : decode cL_law 446 = .ok (.goto 4, 3) := by decide +kernel
theorem dL_law_449 : decode cL_law 449 = .ok (.iconst 0, 1) := by decide +kernel
theorem dL_law_450 : decode cL_law 450 = .ok (.invokevirtual 55, 3) := by decide +kernel
theorem dL_law_453 : decode cL_law 453 = .ok (.aload_n 2, 1) := by decide +kernel
theorem dL_law_454 : decode cL_law 454 = .ok (.aload_n 0, 1) := by decide +kernel
theorem dL_law_455 : decode cL_law 455 = .ok (.iload_n 3, 1) := by decide +kernel
theorem dL_law_456 : decode cL_law 456 = .ok (.iconst 1, 1) := by decide +kernel
theorem dL_law_457 : decode cL_law 457 = .ok (.iadd, 1) := by decide +kernel
theorem dL_law_458 : decode cL_law 458 = .ok (.iaload, 1) := by decide +kernel
theorem dL_law_459 : decode cL_law 459 = .ok (.aload_n 0, 1) := by decide +kernel
theorem dL_law_460 : decode cL_law 460 = .ok (.iload_n 3, 1) := by decide +kernel
theorem dL_law_461 : decode cL_law 461 = .ok (.iconst 2, 1) := by decide +kernel
theorem dL_law_462 : decode cL_law 462 = .ok (.iadd, 1) := by decide +kernel
theorem dL_law_463 : decode cL_law 463 = .ok (.iaload, 1) := by decide +kernel
theorem dL_law_464 : decode cL_law 464 = .ok (.ifCond .eq 7, 3) := by decide +kernel
theorem dL_law_467 : decode cL_law 467 = .ok (.iconst 1, 1) := by decide +kernel
theorem dL_law_468 : decode cL_law 468 = .ok (.goto 4, 3) := by decide +kernel
theorem dL_law_471 : decode cL_law 471 = .ok (.iconst 0, 1) := by decide +kernel
theorem dL_law_472 : decode cL_law 472 = .ok (.invokevirtual 59, 3) := by decide +kernel
theorem dL_law_475 : decode cL_law 475 = .ok (.if_icmp .eq 522, 3) := by decide +kernel
theorem dL_law_478 : decode cL_law 478 = .ok (.iconst 0, 1) := by decide +kernel
theorem dL_law_479 : decode cL_law 479 = .ok (.ireturn, 1) := by decide +kernel
theorem dL_law_480 : decode cL_law 480 = .ok (.aload_n 1, 1) := by decide +kernel
theorem dL_law_481 : decode cL_law 481 = .ok (.aload_n 0, 1) := by decide +kernel
theorem dL_law_482 : decode cL_law 482 = .ok (.iload_n 3, 1) := by decide +kernel
theorem dL_law_483 : decode cL_law 483 = .ok (.iconst 1, 1) := by decide +kernel
theorem dL_law_484 : decode cL_law 484 = .ok (.iadd, 1) := by decide +kernel
theorem dL_law_485 : decode cL_law 485 = .ok (.iaload, 1) := by decide +kernel
theorem dL_law_486 : decode cL_law 486 = .ok (.invokevirtual 60, 3) := by decide +kernel
theorem dL_law_489 : decode cL_law 489 = .ok (.aload_n 2, 1) := by decide +kernel
theorem dL_law_490 : decode cL_law 490 = .ok (.aload_n 0, 1) := by decide +kernel
theorem dL_law_491 : decode cL_law 491 = .ok (.iload_n 3, 1) := by decide +kernel
theorem dL_law_492 : decode cL_law 492 = .ok (.iconst 1, 1) := by decide +kernel
theorem dL_law_493 : decode cL_law 493 = .ok (.iadd, 1) := by decide +kernel
theorem dL_law_494 : decode cL_law 494 = .ok (.iaload, 1) := by decide +kernel
theorem dL_law_495 : decode cL_law 495 = .ok (.invokevirtual 63, 3) := by decide +kernel
theorem dL_law_498 : decode cL_law 498 = .ok (.if_icmp .eq 499, 3) := by decide +kernel
theorem dL_law_501 : decode cL_law 501 = .ok (.iconst 0, 1) := by decide +kernel
theorem dL_law_502 : decode cL_law 502 = .ok (.ireturn, 1) := by decide +kernel
theorem dL_law_503 : decode cL_law 503 = .ok (.aload_n 1, 1) := by decide +kernel
theorem dL_law_504 : decode cL_law 504 = .ok (.aload_n 0, 1) := by decide +kernel
theorem dL_law_505 : decode cL_law 505 = .ok (.iload_n 3, 1) := by decide +kernel
theorem dL_law_506 : decode cL_law 506 = .ok (.iconst 1, 1) := by decide +kernel
theorem dL_law_507 : decode cL_law 507 = .ok (.iadd, 1) := by decide +kernel
theorem dL_law_508 : decode cL_law 508 = .ok (.iaload, 1) := by decide +kernel
theorem dL_law_509 : decode cL_law 509 = .ok (.aload_n 0, 1) := by decide +kernel
theorem dL_law_510 : decode cL_law 510 = .ok (.iload_n 3, 1) := by decide +kernel
theorem dL_law_511 : decode cL_law 511 = .ok (.iconst 2, 1) := by decide +kernel
theorem dL_law_512 : decode cL_law 512 = .ok (.iadd, 1) := by decide +kernel
theorem dL_law_513 : decode cL_law 513 = .ok (.iaload, 1) := by decide +kernel
theorem dL_law_514 : decode cL_law 514 = .ok (.invokevirtual 64, 3) := by decide +kernel
theorem dL_law_517 : decode cL_law 517 = .ok (.aload_n 2, 1) := by decide +kernel
theorem dL_law_518 : decode cL_law 518 = .ok (.aload_n 0, 1) := by decide +kernel
theorem dL_law_519 : decode cL_law 519 = .ok (.iload_n 3, 1) := by decide +kernel
theorem dL_law_520 : decode cL_law 520 = .ok (.iconst 1, 1) := by decide +kernel
theorem dL_law_521 : decode cL_law 521 = .ok (.iadd, 1) := by decide +kernel
theorem dL_law_522 : decode cL_law 522 = .ok (.iaload, 1) := by decide +kernel
theorem dL_law_523 : decode cL_law 523 = .ok (.aload_n 0, 1) := by decide +kernel
theorem dL_law_524 : decode cL_law 524 = .ok (.iload_n 3, 1) := by decide +kernel
theorem dL_law_525 : decode cL_law 525 = .ok (.iconst 2, 1) := by decide +kernel
theorem dL_law_526 : decode cL_law 526 = .ok (.iadd, 1) := by decide +kernel
theorem dL_law_527 : decode cL_law 527 = .ok (.iaload, 1) := by decide +kernel
theorem dL_law_528 : decode cL_law 528 = .ok (.invokevirtual 67, 3) := by decide +kernel
theorem dL_law_531 : decode cL_law 531 = .ok (.if_icmp .eq 466, 3) := by decide +kernel
theorem dL_law_534 : decode cL_law 534 = .ok (.iconst 0, 1) := by decide +kernel
theorem dL_law_535 : decode cL_law 535 = .ok (.ireturn, 1) := by decide +kernel
theorem dL_law_536 : decode cL_law 536 = .ok (.aload_n 1, 1) := by decide +kernel
theorem dL_law_537 : decode cL_law 537 = .ok (.aload_n 0, 1) := by decide +kernel
theorem dL_law_538 : decode cL_law 538 = .ok (.iload_n 3, 1) := by decide +kernel
theorem dL_law_539 : decode cL_law 539 = .ok (.iconst 1, 1) := by decide +kernel
theorem dL_law_540 : decode cL_law 540 = .ok (.iadd, 1) := by decide +kernel
theorem dL_law_541 : decode cL_law 541 = .ok (.iaload, 1) := by decide +kernel
theorem dL_law_542 : decode cL_law 542 = .ok (.invokevirtual 68, 3) := by decide +kernel
theorem dL_law_545 : decode cL_law 545 = .ok (.aload_n 2, 1) := by decide +kernel
theorem dL_law_546 : decode cL_law 546 = .ok (.aload_n 0, 1) := by decide +kernel
theorem dL_law_547 : decode cL_law 547 = .ok (.iload_n 3, 1) := by decide +kernel
theorem dL_law_548 : decode cL_law 548 = .ok (.iconst 1, 1) := by decide +kernel
theorem dL_law_549 : decode cL_law 549 = .ok (.iadd, 1) := by decide +kernel
theorem dL_law_550 : decode cL_law 550 = .ok (.iaload, 1) := by decide +kernel
theorem dL_law_551 : decode cL_law 551 = .ok (.invokevirtual 71, 3) := by decide +kernel
theorem dL_law_554 : decode cL_law 554 = .ok (.if_icmp .eq 443, 3) := by decide +kernel
theorem dL_law_557 : decode cL_law 557 = .ok (.iconst 0, 1) := by decide +kernel
theorem dL_law_558 : decode cL_law 558 = .ok (.ireturn, 1) := by decide +kernel
theorem dL_law_559 : decode cL_law 559 = .ok (.aload_n 1, 1) := by decide +kernel
theorem dL_law_560 : decode cL_law 560 = .ok (.aload_n 0, 1) := by decide +kernel
theorem dL_law_561 : decode cL_law 561 = .ok (.iload_n 3, 1) := by decide +kernel
theorem dL_law_562 : decode cL_law 562 = .ok (.iconst 1, 1) := by decide +kernel
theorem dL_law_563 : decode cL_law 563 = .ok (.iadd, 1) := by decide +kernel
theorem dL_law_564 : decode cL_law 564 = .ok (.iaload, 1) := by decide +kernel
theorem dL_law_565 : decode cL_law 565 = .ok (.aload_n 0, 1) := by decide +kernel
theorem dL_law_566 : decode cL_law 566 = .ok (.iload_n 3, 1) := by decide +kernel
theorem dL_law_567 : decode cL_law 567 = .ok (.iconst 2, 1) := by decide +kernel
theorem dL_law_568 : decode cL_law 568 = .ok (.iadd, 1) := by decide +kernel
theorem dL_law_569 : decode cL_law 569 = .ok (.iaload, 1) := by decide +kernel
theorem dL_law_570 : decode cL_law 570 = .ok (.invokevirtual 72, 3) := by decide +kernel
theorem dL_law_573 : decode cL_law 573 = .ok (.aload_n 2, 1) := by decide +kernel
theorem dL_law_574 : decode cL_law 574 = .ok (.aload_n 0, 1) := by decide +kernel
theorem dL_law_575 : decode cL_law 575 = .ok (.iload_n 3, 1) := by decide +kernel
theorem dL_law_576 : decode cL_law 576 = .ok (.iconst 1, 1) := by decide +kernel
theorem dL_law_577 : decode cL_law 577 = .ok (.iadd, 1) := by decide +kernel
theorem dL_law_578 : decode cL_law 578 = .ok (.iaload, 1) := by decide +kernel
theorem dL_law_579 : decode cL_law 579 = .ok (.aload_n 0, 1) := by decide +kernel
theorem dL_law_580 : decode cL_law 580 = .ok (.iload_n 3, 1) := by decide +kernel
theorem dL_law_581 : decode cL_law 581 = .ok (.iconst 2, 1) := by decide +kernel
theorem dL_law_582 : decode cL_law 582 = .ok (.iadd, 1) := by decide +kernel
theorem dL_law_583 : decode cL_law 583 = .ok (.iaload, 1) := by decide +kernel
theorem dL_law_584 : decode cL_law 584 = .ok (.invokevirtual 75, 3) := by decide +kernel
theorem dL_law_587 : decode cL_law 587 = .ok (.if_icmp .eq 410, 3) := by decide +kernel
theorem dL_law_590 : decode cL_law 590 = .ok (.iconst 0, 1) := by decide +kernel
theorem dL_law_591 : decode cL_law 591 = .ok (.ireturn, 1) := by decide +kernel
theorem dL_law_592 : decode cL_law 592 = .ok (.aload_n 1, 1) := by decide +kernel
theorem dL_law_593 : decode cL_law 593 = .ok (.aload_n 0, 1) := by decide +kernel
theorem dL_law_594 : decode cL_law 594 = .ok (.iload_n 3, 1) := by decide +kernel
theorem dL_law_595 : decode cL_law 595 = .ok (.iconst 1, 1) := by decide +kernel
theorem dL_law_596 : decode cL_law 596 = .ok (.iadd, 1) := by decide +kernel
theorem dL_law_597 : decode cL_law 597 = .ok (.iaload, 1) := by decide +kernel
theorem dL_law_598 : decode cL_law 598 = .ok (.aload_n 0, 1) := by decide +kernel
theorem dL_law_599 : decode cL_law 599 = .ok (.iload_n 3, 1) := by decide +kernel
theorem dL_law_600 : decode cL_law 600 = .ok (.iconst 2, 1) := by decide +kernel
theorem dL_law_601 : decode cL_law 601 = .ok (.iadd, 1) := by decide +kernel
theorem dL_law_602 : decode cL_law 602 = .ok (.iaload, 1) := by decide +kernel
theorem dL_law_603 : decode cL_law 603 = .ok (.invokevirtual 76, 3) := by decide +kernel
theorem dL_law_606 : decode cL_law 606 = .ok (.aload_n 2, 1) := by decide +kernel
theorem dL_law_607 : decode cL_law 607 = .ok (.aload_n 0, 1) := by decide +kernel
theorem dL_law_608 : decode cL_law 608 = .ok (.iload_n 3, 1) := by decide +kernel
theorem dL_law_609 : decode cL_law 609 = .ok (.iconst 1, 1) := by decide +kernel
theorem dL_law_610 : decode cL_law 610 = .ok (.iadd, 1) := by decide +kernel
theorem dL_law_611 : decode cL_law 611 = .ok (.iaload, 1) := by decide +kernel
theorem dL_law_612 : decode cL_law 612 = .ok (.aload_n 0, 1) := by decide +kernel
theorem dL_law_613 : decode cL_law 613 = .ok (.iload_n 3, 1) := by decide +kernel
theorem dL_law_614 : decode cL_law 614 = .ok (.iconst 2, 1) := by decide +kernel
theorem dL_law_615 : decode cL_law 615 = .ok (.iadd, 1) := by decide +kernel
theorem dL_law_616 : decode cL_law 616 = .ok (.iaload, 1) := by decide +kernel
theorem dL_law_617 : decode cL_law 617 = .ok (.invokevirtual 79, 3) := by decide +kernel
theorem dL_law_620 : decode cL_law 620 = .ok (.if_icmp .eq 377, 3) := by decide +kernel
theorem dL_law_623 : decode cL_law 623 = .ok (.iconst 0, 1) := by decide +kernel
theorem dL_law_624 : decode cL_law 624 = .ok (.ireturn, 1) := by decide +kernel
theorem dL_law_625 : decode cL_law 625 = .ok (.aload_n 1, 1) := by decide +kernel
theorem dL_law_626 : decode cL_law 626 = .ok (.aload_n 0, 1) := by decide +kernel
theorem dL_law_627 : decode cL_law 627 = .ok (.iload_n 3, 1) := by decide +kernel
theorem dL_law_628 : decode cL_law 628 = .ok (.iconst 1, 1) := by decide +kernel
theorem dL_law_629 : decode cL_law 629 = .ok (.iadd, 1) := by decide +kernel
theorem dL_law_630 : decode cL_law 630 = .ok (.iaload, 1) := by decide +kernel
theorem dL_law_631 : decode cL_law 631 = .ok (.aload_n 0, 1) := by decide +kernel
theorem dL_law_632 : decode cL_law 632 = .ok (.iload_n 3, 1) := by decide +kernel
theorem dL_law_633 : decode cL_law 633 = .ok (.iconst 2, 1) := by decide +kernel
theorem dL_law_634 : decode cL_law 634 = .ok (.iadd, 1) := by decide +kernel
theorem dL_law_635 : decode cL_law 635 = .ok (.iaload, 1) := by decide +kernel
theorem dL_law_636 : decode cL_law 636 = .ok (.invokevirtual 80, 3) := by decide +kernel
theorem dL_law_639 : decode cL_law 639 = .ok (.aload_n 2, 1) := by decide +kernel
theorem dL_law_640 : decode cL_law 640 = .ok (.aload_n 0, 1) := by decide +kernel
theorem dL_law_641 : decode cL_law 641 = .ok (.iload_n 3, 1) := by decide +kernel
theorem dL_law_642 : decode cL_law 642 = .ok (.iconst 1, 1) := by decide +kernel
theorem dL_law_643 : decode cL_law 643 = .ok (.iadd, 1) := by decide +kernel
theorem dL_law_644 : decode cL_law 644 = .ok (.iaload, 1) := by decide +kernel
theorem dL_law_645 : decode cL_law 645 = .ok (.aload_n 0, 1) := by decide +kernel
theorem dL_law_646 : decode cL_law 646 = .ok (.iload_n 3, 1) := by decide +kernel
theorem dL_law_647 : decode cL_law 647 = .ok (.iconst 2, 1) := by decide +kernel
theorem dL_law_648 : decode cL_law 648 = .ok (.iadd, 1) := by decide +kernel
theorem dL_law_649 : decode cL_law 649 = .ok (.iaload, 1) := by decide +kernel
theorem dL_law_650 : decode cL_law 650 = .ok (.invokevirtual 83, 3) := by decide +kernel
theorem dL_law_653 : decode cL_law 653 = .ok (.if_icmp .eq 344, 3) := by decide +kernel
theorem dL_law_656 : decode cL_law 656 = .ok (.iconst 0, 1) := by decide +kernel
theorem dL_law_657 : decode cL_law 657 = .ok (.ireturn, 1) := by decide +kernel
theorem dL_law_658 : decode cL_law 658 = .ok (.aload_n 1, 1) := by decide +kernel
theorem dL_law_659 : decode cL_law 659 = .ok (.aload_n 0, 1) := by decide +kernel
theorem dL_law_660 : decode cL_law 660 = .ok (.iload_n 3, 1) := by decide +kernel
theorem dL_law_661 : decode cL_law 661 = .ok (.iconst 1, 1) := by decide +kernel
theorem dL_law_662 : decode cL_law 662 = .ok (.iadd, 1) := by decide +kernel
theorem dL_law_663 : decode cL_law 663 = .ok (.iaload, 1) := by decide +kernel
theorem dL_law_664 : decode cL_law 664 = .ok (.aload_n 0, 1) := by decide +kernel
theorem dL_law_665 : decode cL_law 665 = .ok (.iload_n 3, 1) := by decide +kernel
theorem dL_law_666 : decode cL_law 666 = .ok (.iconst 2, 1) := by decide +kernel
theorem dL_law_667 : decode cL_law 667 = .ok (.iadd, 1) := by decide +kernel
theorem dL_law_668 : decode cL_law 668 = .ok (.iaload, 1) := by decide +kernel
theorem dL_law_669 : decode cL_law 669 = .ok (.invokevirtual 84, 3) := by decide +kernel
theorem dL_law_672 : decode cL_law 672 = .ok (.aload_n 2, 1) := by decide +kernel
theorem dL_law_673 : decode cL_law 673 = .ok (.aload_n 0, 1) := by decide +kernel
theorem dL_law_674 : decode cL_law 674 = .ok (.iload_n 3, 1) := by decide +kernel
theorem dL_law_675 : decode cL_law 675 = .ok (.iconst 1, 1) := by decide +kernel
theorem dL_law_676 : decode cL_law 676 = .ok (.iadd, 1) := by decide +kernel
theorem dL_law_677 : decode cL_law 677 = .ok (.iaload, 1) := by decide +kernel
theorem dL_law_678 : decode cL_law 678 = .ok (.aload_n 0, 1) := by decide +kernel
theorem dL_law_679 : decode cL_law 679 = .ok (.iload_n 3, 1) := by decide +kernel
theorem dL_law_680 : decode cL_law 680 = .ok (.iconst 2, 1) := by decide +kernel
theorem dL_law_681 : decode cL_law 681 = .ok (.iadd, 1) := by decide +kernel
theorem dL_law_682 : decode cL_law 682 = .ok (.iaload, 1) := by decide +kernel
theorem dL_law_683 : decode cL_law 683 = .ok (.invokevirtual 87, 3) := by decide +kernel
theorem dL_law_686 : decode cL_law 686 = .ok (.if_icmp .eq 311, 3) := by decide +kernel
theorem dL_law_689 : decode cL_law 689 = .ok (.iconst 0, 1) := by decide +kernel
theorem dL_law_690 : decode cL_law 690 = .ok (.ireturn, 1) := by decide +kernel
theorem dL_law_691 : decode cL_law 691 = .ok (.aload_n 1, 1) := by decide +kernel
theorem dL_law_692 : decode cL_law 692 = .ok (.aload_n 0, 1) := by decide +kernel
theorem dL_law_693 : decode cL_law 693 = .ok (.iload_n 3, 1) := by decide +kernel
theorem dL_law_694 : decode cL_law 694 = .ok (.iconst 1, 1) := by decide +kernel
theorem dL_law_695 : decode cL_law 695 = .ok (.iadd, 1) := by decide +kernel
theorem dL_law_696 : decode cL_law 696 = .ok (.iaload, 1) := by decide +kernel
theorem dL_law_697 : decode cL_law 697 = .ok (.aload_n 0, 1) := by decide +kernel
theorem dL_law_698 : decode cL_law 698 = .ok (.iload_n 3, 1) := by decide +kernel
theorem dL_law_699 : decode cL_law 699 = .ok (.iconst 2, 1) := by decide +kernel
theorem dL_law_700 : decode cL_law 700 = .ok (.iadd, 1) := by decide +kernel
theorem dL_law_701 : decode cL_law 701 = .ok (.iaload, 1) := by decide +kernel
theorem dL_law_702 : decode cL_law 702 = .ok (.invokevirtual 88, 3) := by decide +kernel
theorem dL_law_705 : decode cL_law 705 = .ok (.aload_n 2, 1) := by decide +kernel
theorem dL_law_706 : decode cL_law 706 = .ok (.aload_n 0, 1) := by decide +kernel
theorem dL_law_707 : decode cL_law 707 = .ok (.iload_n 3, 1) := by decide +kernel
theorem dL_law_708 : decode cL_law 708 = .ok (.iconst 1, 1) := by decide +kernel
theorem dL_law_709 : decode cL_law 709 = .ok (.iadd, 1) := by decide +kernel
theorem dL_law_710 : decode cL_law 710 = .ok (.iaload, 1) := by decide +kernel
theorem dL_law_711 : decode cL_law 711 = .ok (.aload_n 0, 1) := by decide +kernel
theorem dL_law_712 : decode cL_law 712 = .ok (.iload_n 3, 1) := by decide +kernel
theorem dL_law_713 : decode cL_law 713 = .ok (.iconst 2, 1) := by decide +kernel
theorem dL_law_714 : decode cL_law 714 = .ok (.iadd, 1) := by decide +kernel
theorem dL_law_715 : decode cL_law 715 = .ok (.iaload, 1) := by decide +kernel
theorem dL_law_716 : decode cL_law 716 = .ok (.invokevirtual 91, 3) := by decide +kernel
theorem dL_law_719 : decode cL_law 719 = .ok (.if_icmp .eq 278, 3) := by decide +kernel
theorem dL_law_722 : decode cL_law 722 = .ok (.iconst 0, 1) := by decide +kernel
theorem dL_law_723 : decode cL_law 723 = .ok (.ireturn, 1) := by decide +kernel
theorem dL_law_724 : decode cL_law 724 = .ok (.aload_n 1, 1) := by decide +kernel
theorem dL_law_725 : decode cL_law 725 = .ok (.aload_n 0, 1) := by decide +kernel
theorem dL_law_726 : decode cL_law 726 = .ok (.iload_n 3, 1) := by decide +kernel
theorem dL_law_727 : decode cL_law 727 = .ok (.iconst 1, 1) := by decide +kernel
theorem dL_law_728 : decode cL_law 728 = .ok (.iadd, 1) := by decide +kernel
theorem dL_law_729 : decode cL_law 729 = .ok (.iaload, 1) := by decide +kernel
theorem dL_law_730 : decode cL_law 730 = .ok (.aload_n 0, 1) := by decide +kernel
theorem dL_law_731 : decode cL_law 731 = .ok (.iload_n 3, 1) := by decide +kernel
theorem dL_law_732 : decode cL_law 732 = .ok (.iconst 2, 1) := by decide +kernel
theorem dL_law_733 : decode cL_law 733 = .ok (.iadd, 1) := by decide +kernel
theorem dL_law_734 : decode cL_law 734 = .ok (.iaload, 1) := by decide +kernel
theorem dL_law_735 : decode cL_law 735 = .ok (.aload_n 0, 1) := by decide +kernel
theorem dL_law_736 : decode cL_law 736 = .ok (.iload_n 3, 1) := by decide +kernel
theorem dL_law_737 : decode cL_law 737 = .ok (.iconst 3, 1) := by decide +kernel
theorem dL_law_738 : decode cL_law 738 = .ok (.iadd, 1) := by decide +kernel
theorem dL_law_739 : decode cL_law 739 = .ok (.iaload, 1) := by decide +kernel
theorem dL_law_740 : decode cL_law 740 = .ok (.aload_n 0, 1) := by decide +kernel
theorem dL_law_741 : decode cL_law 741 = .ok (.iload_n 3, 1) := by decide +kernel
theorem dL_law_742 : decode cL_law 742 = .ok (.iconst 4, 1) := by decide +kernel
theorem dL_law_743 : decode cL_law 743 = .ok (.iadd, 1) := by decide +kernel
theorem dL_law_744 : decode cL_law 744 = .ok (.iaload, 1) := by decide +kernel
theorem dL_law_745 : decode cL_law 745 = .ok (.invokevirtual 92, 3) := by decide +kernel
theorem dL_law_748 : decode cL_law 748 = .ok (.aload_n 2, 1) := by decide +kernel
theorem dL_law_749 : decode cL_law 749 = .ok (.aload_n 0, 1) := by decide +kernel
theorem dL_law_750 : decode cL_law 750 = .ok (.iload_n 3, 1) := by decide +kernel
theorem dL_law_751 : decode cL_law 751 = .ok (.iconst 1, 1) := by decide +kernel
theorem dL_law_752 : decode cL_law 752 = .ok (.iadd, 1) := by decide +kernel
theorem dL_law_753 : decode cL_law 753 = .ok (.iaload, 1) := by decide +kernel
theorem dL_law_754 : decode cL_law 754 = .ok (.aload_n 0, 1) := by decide +kernel
theorem dL_law_755 : decode cL_law 755 = .ok (.iload_n 3, 1) := by decide +kernel
theorem dL_law_756 : decode cL_law 756 = .ok (.iconst 2, 1) := by decide +kernel
theorem dL_law_757 : decode cL_law 757 = .ok (.iadd, 1) := by decide +kernel
theorem dL_law_758 : decode cL_law 758 = .ok (.iaload, 1) := by decide +kernel
theorem dL_law_759 : decode cL_law 759 = .ok (.aload_n 0, 1) := by decide +kernel
theorem dL_law_760 : decode cL_law 760 = .ok (.iload_n 3, 1) := by decide +kernel
theorem dL_law_761 : decode cL_law 761 = .ok (.iconst 3, 1) := by decide +kernel
theorem dL_law_762 : decode cL_law 762 = .ok (.iadd, 1) := by decide +kernel
theorem dL_law_763 : decode cL_law 763 = .ok (.iaload, 1) := by decide +kernel
theorem dL_law_764 : decode cL_law 764 = .ok (.aload_n 0, 1) := by decide +kernel
theorem dL_law_765 : decode cL_law 765 = .ok (.iload_n 3, 1) := by decide +kernel
theorem dL_law_766 : decode cL_law 766 = .ok (.iconst 4, 1) := by decide +kernel
theorem dL_law_767 : decode cL_law 767 = .ok (.iadd, 1) := by decide +kernel
theorem dL_law_768 : decode cL_law 768 = .ok (.iaload, 1) := by decide +kernel
theorem dL_law_769 : decode cL_law 769 = .ok (.invokevirtual 96, 3) := by decide +kernel
theorem dL_law_772 : decode cL_law 772 = .ok (.if_icmp .eq 225, 3) := by decide +kernel
theorem dL_law_775 : decode cL_law 775 = .ok (.iconst 0, 1) := by decide +kernel
theorem dL_law_776 : decode cL_law 776 = .ok (.ireturn, 1) := by decide +kernel
theorem dL_law_777 : decode cL_law 777 = .ok (.aload_n 1, 1) := by decide +kernel
theorem dL_law_778 : decode cL_law 778 = .ok (.aload_n 0, 1) := by decide +kernel
theorem dL_law_779 : decode cL_law 779 = .ok (.iload_n 3, 1) := by decide +kernel
theorem dL_law_780 : decode cL_law 780 = .ok (.iconst 1, 1) := by decide +kernel
theorem dL_law_781 : decode cL_law 781 = .ok (.iadd, 1) := by decide +kernel
theorem dL_law_782 : decode cL_law 782 = .ok (.iaload, 1) := by decide +kernel
theorem dL_law_783 : decode cL_law 783 = .ok (.invokevirtual 97, 3) := by decide +kernel
theorem dL_law_786 : decode cL_law 786 = .ok (.aload_n 2, 1) := by decide +kernel
theorem dL_law_787 : decode cL_law 787 = .ok (.aload_n 0, 1) := by decide +kernel
theorem dL_law_788 : decode cL_law 788 = .ok (.iload_n 3, 1) := by decide +kernel
theorem dL_law_789 : decode cL_law 789 = .ok (.iconst 1, 1) := by decide +kernel
theorem dL_law_790 : decode cL_law 790 = .ok (.iadd, 1) := by decide +kernel
theorem dL_law_791 : decode cL_law 791 = .ok (.iaload, 1) := by decide +kernel
theorem dL_law_792 : decode cL_law 792 = .ok (.invokevirtual 100, 3) := by decide +kernel
theorem dL_law_795 : decode cL_law 795 = .ok (.if_icmp .eq 202, 3) := by decide +kernel
theorem dL_law_798 : decode cL_law 798 = .ok (.iconst 0, 1) := by decide +kernel
theorem dL_law_799 : decode cL_law 799 = .ok (.ireturn, 1) := by decide +kernel
theorem dL_law_800 : decode cL_law 800 = .ok (.aload_n 1, 1) := by decide +kernel
theorem dL_law_801 : decode cL_law 801 = .ok (.aload_n 0, 1) := by decide +kernel
theorem dL_law_802 : decode cL_law 802 = .ok (.iload_n 3, 1) := by decide +kernel
theorem dL_law_803 : decode cL_law 803 = .ok (.iconst 1, 1) := by decide +kernel
theorem dL_law_804 : decode cL_law 804 = .ok (.iadd, 1) := by decide +kernel
theorem dL_law_805 : decode cL_law 805 = .ok (.iaload, 1) := by decide +kernel
theorem dL_law_806 : decode cL_law 806 = .ok (.aload_n 0, 1) := by decide +kernel
theorem dL_law_807 : decode cL_law 807 = .ok (.iload_n 3, 1) := by decide +kernel
theorem dL_law_808 : decode cL_law 808 = .ok (.iconst 2, 1) := by decide +kernel
theorem dL_law_809 : decode cL_law 809 = .ok (.iadd, 1) := by decide +kernel
theorem dL_law_810 : decode cL_law 810 = .ok (.iaload, 1) := by decide +kernel
theorem dL_law_811 : decode cL_law 811 = .ok (.invokevirtual 101, 3) := by decide +kernel
theorem dL_law_814 : decode cL_law 814 = .ok (.aload_n 2, 1) := by decide +kernel
theorem dL_law_815 : decode cL_law 815 = .ok (.aload_n 0, 1) := by decide +kernel
theorem dL_law_816 : decode cL_law 816 = .ok (.iload_n 3, 1) := by decide +kernel
theorem dL_law_817 : decode cL_law 817 = .ok (.iconst 1, 1) := by decide +kernel
theorem dL_law_818 : decode cL_law 818 = .ok (.iadd, 1) := by decide +kernel
theorem dL_law_819 : decode cL_law 819 = .ok (.iaload, 1) := by decide +kernel
theorem dL_law_820 : decode cL_law 820 = .ok (.aload_n 0, 1) := by decide +kernel
theorem dL_law_821 : decode cL_law 821 = .ok (.iload_n 3, 1) := by decide +kernel
theorem dL_law_822 : decode cL_law 822 = .ok (.iconst 2, 1) := by decide +kernel
theorem dL_law_823 : decode cL_law 823 = .ok (.iadd, 1) := by decide +kernel
theorem dL_law_824 : decode cL_law 824 = .ok (.iaload, 1) := by decide +kernel
theorem dL_law_825 : decode cL_law 825 = .ok (.invokevirtual 104, 3) := by decide +kernel
theorem dL_law_828 : decode cL_law 828 = .ok (.if_icmp .eq 169, 3) := by decide +kernel
theorem dL_law_831 : decode cL_law 831 = .ok (.iconst 0, 1) := by decide +kernel
theorem dL_law_832 : decode cL_law 832 = .ok (.ireturn, 1) := by decide +kernel
theorem dL_law_833 : decode cL_law 833 = .ok (.aload_n 1, 1) := by decide +kernel
theorem dL_law_834 : decode cL_law 834 = .ok (.invokevirtual 105, 3) := by decide +kernel
theorem dL_law_837 : decode cL_law 837 = .ok (.aload_n 2, 1) := by decide +kernel
theorem dL_law_838 : decode cL_law 838 = .ok (.invokevirtual 108, 3) := by decide +kernel
theorem dL_law_841 : decode cL_law 841 = .ok (.if_icmp .eq 156, 3) := by decide +kernel
theorem dL_law_844 : decode cL_law 844 = .ok (.iconst 0, 1) := by decide +kernel
theorem dL_law_845 : decode cL_law 845 = .ok (.ireturn, 1) := by decide +kernel
theorem dL_law_846 : decode cL_law 846 = .ok (.aload_n 1, 1) := by decide +kernel
theorem dL_law_847 : decode cL_law 847 = .ok (.aload_n 0, 1) := by decide +kernel
theorem dL_law_848 : decode cL_law 848 = .ok (.iload_n 3, 1) := by decide +kernel
theorem dL_law_849 : decode cL_law 849 = .ok (.iconst 1, 1) := by decide +kernel
theorem dL_law_850 : decode cL_law 850 = .ok (.iadd, 1) := by decide +kernel
theorem dL_law_851 : decode cL_law 851 = .ok (.iaload, 1) := by decide +kernel
theorem dL_law_852 : decode cL_law 852 = .ok (.invokevirtual 109, 3) := by decide +kernel
theorem dL_law_855 : decode cL_law 855 = .ok (.aload_n 2, 1) := by decide +kernel
theorem dL_law_856 : decode cL_law 856 = .ok (.aload_n 0, 1) := by decide +kernel
theorem dL_law_857 : decode cL_law 857 = .ok (.iload_n 3, 1) := by decide +kernel
theorem dL_law_858 : decode cL_law 858 = .ok (.iconst 1, 1) := by decide +kernel
theorem dL_law_859 : decode cL_law 859 = .ok (.iadd, 1) := by decide +kernel
theorem dL_law_860 : decode cL_law 860 = .ok (.iaload, 1) := by decide +kernel
theorem dL_law_861 : decode cL_law 861 = .ok (.invokevirtual 112, 3) := by decide +kernel
theorem dL_law_864 : decode cL_law 864 = .ok (.if_icmp .eq 133, 3) := by decide +kernel
theorem dL_law_867 : decode cL_law 867 = .ok (.iconst 0, 1) := by decide +kernel
theorem dL_law_868 : decode cL_law 868 = .ok (.ireturn, 1) := by decide +kernel
theorem dL_law_869 : decode cL_law 869 = .ok (.aload_n 1, 1) := by decide +kernel
theorem dL_law_870 : decode cL_law 870 = .ok (.aload_n 0, 1) := by decide +kernel
theorem dL_law_871 : decode cL_law 871 = .ok (.iload_n 3, 1) := by decide +kernel
theorem dL_law_872 : decode cL_law 872 = .ok (.iconst 1, 1) := by decide +kernel
theorem dL_law_873 : decode cL_law 873 = .ok (.iadd, 1) := by decide +kernel
theorem dL_law_874 : decode cL_law 874 = .ok (.iaload, 1) := by decide +kernel
theorem dL_law_875 : decode cL_law 875 = .ok (.aload_n 0, 1) := by decide +kernel
theorem dL_law_876 : decode cL_law 876 = .ok (.iload_n 3, 1) := by decide +kernel
theorem dL_law_877 : decode cL_law 877 = .ok (.iconst 2, 1) := by decide +kernel
theorem dL_law_878 : decode cL_law 878 = .ok (.iadd, 1) := by decide +kernel
theorem dL_law_879 : decode cL_law 879 = .ok (.iaload, 1) := by decide +kernel
theorem dL_law_880 : decode cL_law 880 = .ok (.invokevirtual 113, 3) := by decide +kernel
theorem dL_law_883 : decode cL_law 883 = .ok (.aload_n 2, 1) := by decide +kernel
theorem dL_law_884 : decode cL_law 884 = .ok (.aload_n 0, 1) := by decide +kernel
theorem dL_law_885 : decode cL_law 885 = .ok (.iload_n 3, 1) := by decide +kernel
theorem dL_law_886 : decode cL_law 886 = .ok (.iconst 1, 1) := by decide +kernel
theorem dL_law_887 : decode cL_law 887 = .ok (.iadd, 1) := by decide +kernel
theorem dL_law_888 : decode cL_law 888 = .ok (.iaload, 1) := by decide +kernel
theorem dL_law_889 : decode cL_law 889 = .ok (.aload_n 0, 1) := by decide +kernel
theorem dL_law_890 : decode cL_law 890 = .ok (.iload_n 3, 1) := by decide +kernel
theorem dL_law_891 : decode cL_law 891 = .ok (.iconst 2, 1) := by decide +kernel
theorem dL_law_892 : decode cL_law 892 = .ok (.iadd, 1) := by decide +kernel
theorem dL_law_893 : decode cL_law 893 = .ok (.iaload, 1) := by decide +kernel
theorem dL_law_894 : decode cL_law 894 = .ok (.invokevirtual 116, 3) := by decide +kernel
theorem dL_law_897 : decode cL_law 897 = .ok (.if_icmp .eq 100, 3) := by decide +kernel
theorem dL_law_900 : decode cL_law 900 = .ok (.iconst 0, 1) := by decide +kernel
theorem dL_law_901 : decode cL_law 901 = .ok (.ireturn, 1) := by decide +kernel
theorem dL_law_902 : decode cL_law 902 = .ok (.aload_n 1, 1) := by decide +kernel
theorem dL_law_903 : decode cL_law 903 = .ok (.invokevirtual 117, 3) := by decide +kernel
theorem dL_law_906 : decode cL_law 906 = .ok (.aload_n 2, 1) := by decide +kernel
theorem dL_law_907 : decode cL_law 907 = .ok (.invokevirtual 120, 3) := by decide +kernel
theorem dL_law_910 : decode cL_law 910 = .ok (.if_icmp .eq 87, 3) := by decide +kernel
theorem dL_law_913 : decode cL_law 913 = .ok (.iconst 0, 1) := by decide +kernel
theorem dL_law_914 : decode cL_law 914 = .ok (.ireturn, 1) := by decide +kernel
theorem dL_law_915 : decode cL_law 915 = .ok (.aload_n 1, 1) := by decide +kernel
theorem dL_law_916 : decode cL_law 916 = .ok (.invokevirtual 121, 3) := by decide +kernel
theorem dL_law_919 : decode cL_law 919 = .ok (.aload_n 2, 1) := by decide +kernel
theorem dL_law_920 : decode cL_law 920 = .ok (.invokevirtual 124, 3) := by decide +kernel
theorem dL_law_923 : decode cL_law 923 = .ok (.if_icmp .eq 74, 3) := by decide +kernel
theorem dL_law_926 : decode cL_law 926 = .ok (.iconst 0, 1) := by decide +kernel
theorem dL_law_927 : decode cL_law 927 = .ok (.ireturn, 1) := by decide +kernel
theorem dL_law_928 : decode cL_law 928 = .ok (.aload_n 1, 1) := by decide +kernel
theorem dL_law_929 : decode cL_law 929 = .ok (.aload_n 0, 1) := by decide +kernel
theorem dL_law_930 : decode cL_law 930 = .ok (.iload_n 3, 1) := by decide +kernel
theorem dL_law_931 : decode cL_law 931 = .ok (.iconst 1, 1) := by decide +kernel
theorem dL_law_932 : decode cL_law 932 = .ok (.iadd, 1) := by decide +kernel
theorem dL_law_933 : decode cL_law 933 = .ok (.iaload, 1) := by decide +kernel
theorem dL_law_934 : decode cL_law 934 = .ok (.invokevirtual 125, 3) := by decide +kernel
theorem dL_law_937 : decode cL_law 937 = .ok (.aload_n 2, 1) := by decide +kernel
theorem dL_law_938 : decode cL_law 938 = .ok (.aload_n 0, 1) := by decide +kernel
theorem dL_law_939 : decode cL_law 939 = .ok (.iload_n 3, 1) := by decide +kernel
theorem dL_law_940 : decode cL_law 940 = .ok (.iconst 1, 1) := by decide +kernel
theorem dL_law_941 : decode cL_law 941 = .ok (.iadd, 1) := by decide +kernel
theorem dL_law_942 : decode cL_law 942 = .ok (.iaload, 1) := by decide +kernel
theorem dL_law_943 : decode cL_law 943 = .ok (.invokevirtual 128, 3) := by decide +kernel
theorem dL_law_946 : decode cL_law 946 = .ok (.if_icmp .eq 51, 3) := by decide +kernel
theorem dL_law_949 : decode cL_law 949 = .ok (.iconst 0, 1) := by decide +kernel
theorem dL_law_950 : decode cL_law 950 = .ok (.ireturn, 1) := by decide +kernel
theorem dL_law_951 : decode cL_law 951 = .ok (.aload_n 1, 1) := by decide +kernel
theorem dL_law_952 : decode cL_law 952 = .ok (.aload_n 0, 1) := by decide +kernel
theorem dL_law_953 : decode cL_law 953 = .ok (.iload_n 3, 1) := by decide +kernel
theorem dL_law_954 : decode cL_law 954 = .ok (.iconst 1, 1) := by decide +kernel
theorem dL_law_955 : decode cL_law 955 = .ok (.iadd, 1) := by decide +kernel
theorem dL_law_956 : decode cL_law 956 = .ok (.iaload, 1) := by decide +kernel
theorem dL_law_957 : decode cL_law 957 = .ok (.invokevirtual 129, 3) := by decide +kernel
theorem dL_law_960 : decode cL_law 960 = .ok (.aload_n 2, 1) := by decide +kernel
theorem dL_law_961 : decode cL_law 961 = .ok (.aload_n 0, 1) := by decide +kernel
theorem dL_law_962 : decode cL_law 962 = .ok (.iload_n 3, 1) := by decide +kernel
theorem dL_law_963 : decode cL_law 963 = .ok (.iconst 1, 1) := by decide +kernel
theorem dL_law_964 : decode cL_law 964 = .ok (.iadd, 1) := by decide +kernel
theorem dL_law_965 : decode cL_law 965 = .ok (.iaload, 1) := by decide +kernel
theorem dL_law_966 : decode cL_law 966 = .ok (.invokevirtual 132, 3) := by decide +kernel
theorem dL_law_969 : decode cL_law 969 = .ok (.if_icmp .eq 28, 3) := by decide +kernel
theorem dL_law_972 : decode cL_law 972 = .ok (.iconst 0, 1) := by decide +kernel
theorem dL_law_973 : decode cL_law 973 = .ok (.ireturn, 1) := by decide +kernel
theorem dL_law_974 : decode cL_law 974 = .ok (.aload_n 1, 1) := by decide +kernel
theorem dL_law_975 : decode cL_law 975 = .ok (.aload_n 0, 1) := by decide +kernel
theorem dL_law_976 : decode cL_law 976 = .ok (.iload_n 3, 1) := by decide +kernel
theorem dL_law_977 : decode cL_law 977 = .ok (.iconst 1, 1) := by decide +kernel
theorem dL_law_978 : decode cL_law 978 = .ok (.iadd, 1) := by decide +kernel
theorem dL_law_979 : decode cL_law 979 = .ok (.iaload, 1) := by decide +kernel
theorem dL_law_980 : decode cL_law 980 = .ok (.invokevirtual 133, 3) := by decide +kernel
theorem dL_law_983 : decode cL_law 983 = .ok (.aload_n 2, 1) := by decide +kernel
theorem dL_law_984 : decode cL_law 984 = .ok (.aload_n 0, 1) := by decide +kernel
theorem dL_law_985 : decode cL_law 985 = .ok (.iload_n 3, 1) := by decide +kernel
theorem dL_law_986 : decode cL_law 986 = .ok (.iconst 1, 1) := by decide +kernel
theorem dL_law_987 : decode cL_law 987 = .ok (.iadd, 1) := by decide +kernel
theorem dL_law_988 : decode cL_law 988 = .ok (.iaload, 1) := by decide +kernel
theorem dL_law_989 : decode cL_law 989 = .ok (.invokevirtual 136, 3) := by decide +kernel
theorem dL_law_992 : decode cL_law 992 = .ok (.if_icmp .eq 5, 3) := by decide +kernel
theorem dL_law_995 : decode cL_law 995 = .ok (.iconst 0, 1) := by decide +kernel
theorem dL_law_996 : decode cL_law 996 = .ok (.ireturn, 1) := by decide +kernel
theorem dL_law_997 : decode cL_law 997 = .ok (.iinc 3 5, 3) := by decide +kernel
theorem dL_law_1000 : decode cL_law 1000 = .ok (.goto (-982), 3) := by decide +kernel
theorem dL_law_1003 : decode cL_law 1003 = .ok (.iconst 1, 1) := by decide +kernel
theorem dL_law_1004 : decode cL_law 1004 = .ok (.ireturn, 1) := by decide +kernel
