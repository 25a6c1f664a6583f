theorem dX0_init_0 : decode cX0_init 0 = .ok (.aload_n 0, 1) := by decide +kernel
theorem dX0_init_1 : decode cX0_init 1 = .ok (.invokespecial 3, 3) := by decide +kernel
theorem dX0_init_4 : decode cX0_init 4 = .ok (.aload_n 0, 1) := by decide +kernel
theorem dX0_init_5 : decode cX0_init 5 = .ok (.bipush 30, 2) := by decide +kernel
theorem dX0_init_7 : decode cX0_init 7 = .ok (.newarray .int, 2) := by decide +kernel
theorem dX0_init_9 : decode cX0_init 9 = .ok (.putfield 9, 3) := by decide +kernel
theorem dX0_init_12 : decode cX0_init 12 = .ok (.aload_n 0, 1) := by decide +kernel
theorem dX0_init_13 : decode cX0_init 13 = .ok (.bipush 30, 2) := by decide +kernel
theorem dX0_init_15 : decode cX0_init 15 = .ok (.newarray .int, 2) := by decide +kernel
theorem dX0_init_17 : decode cX0_init 17 = .ok (.putfield 15, 3) := by decide +kernel
theorem dX0_init_20 : decode cX0_init 20 = .ok (.return_, 1) := by decide +kernel
theorem dX0_add_0 : decode cX0_add 0 = .ok (.aload_n 0, 1) := by decide +kernel
theorem dX0_add_1 : decode cX0_add 1 = .ok (.getfield 18, 3) := by decide +kernel
theorem dX0_add_4 : decode cX0_add 4 = .ok (.ifCond .lt 42, 3) := by decide +kernel
theorem dX0_add_7 : decode cX0_add 7 = .ok (.aload_n 0, 1) := by decide +kernel
theorem dX0_add_8 : decode cX0_add 8 = .ok (.getfield 18, 3) := by decide +kernel
theorem dX0_add_11 : decode cX0_add 11 = .ok (.bipush 30, 2) := by decide +kernel
theorem dX0_add_13 : decode cX0_add 13 = .ok (.if_icmp .ge 33, 3) := by decide +kernel
theorem dX0_add_16 : decode cX0_add 16 = .ok (.aload_n 0, 1) := by decide +kernel
theorem dX0_add_17 : decode cX0_add 17 = .ok (.getfield 9, 3) := by decide +kernel
theorem dX0_add_20 : decode cX0_add 20 = .ok (.aload_n 0, 1) := by decide +kernel
theorem dX0_add_21 : decode cX0_add 21 = .ok (.getfield 18, 3) := by decide +kernel
theorem dX0_add_24 : decode cX0_add 24 = .ok (.iload_n 1, 1) := by decide +kernel
theorem dX0_add_25 : decode cX0_add 25 = .ok (.iastore, 1) := by decide +kernel
theorem dX0_add_26 : decode cX0_add 26 = .ok (.aload_n 0, 1) := by decide +kernel
theorem dX0_add_27 : decode cX0_add 27 = .ok (.getfield 15, 3) := by decide +kernel
theorem dX0_add_30 : decode cX0_add 30 = .ok (.aload_n 0, 1) := by decide +kernel
theorem dX0_add_31 : decode cX0_add 31 = .ok (.getfield 18, 3) := by decide +kernel
theorem dX0_add_34 : decode cX0_add 34 = .ok (.iload_n 2, 1) := by decide +kernel
theorem dX0_add_35 : decode cX0_add 35 = .ok (.iastore, 1) := by decide +kernel
theorem dX0_add_36 : decode cX0_add 36 = .ok (.aload_n 0, 1) := by decide +kernel
theorem dX0_add_37 : decode cX0_add 37 = .ok (.dup, 1) := by decide +kernel
theorem dX0_add_38 : decode cX0_add 38 = .ok (.getfield 18, 3) := by decide +kernel
theorem dX0_add_41 : decode cX0_add 41 = .ok (.iconst 1, 1) := by decide +kernel
theorem dX0_add_42 : decode cX0_add 42 = .ok (.iadd, 1) := by decide +kernel
theorem dX0_add_43 : decode cX0_add 43 = .ok (.putfield 18, 3) := by decide +kernel
theorem dX0_add_46 : decode cX0_add 46 = .ok (.return_, 1) := by decide +kernel
theorem dX0_firstWrong_0 : decode cX0_firstWrong 0 = .ok (.aload_n 2, 1) := by decide +kernel
theorem dX0_firstWrong_1 : decode cX0_firstWrong 1 = .ok (.invokevirtual 22, 3) := by decide +kernel
theorem dX0_firstWrong_4 : decode cX0_firstWrong 4 = .ok (.istore_n 3, 1) := by decide +kernel
theorem dX0_firstWrong_5 : decode cX0_firstWrong 5 = .ok (.iconst 0, 1) := by decide +kernel
theorem dX0_firstWrong_6 : decode cX0_firstWrong 6 = .ok (.istore 4, 2) := by decide +kernel
theorem dX0_firstWrong_8 : decode cX0_firstWrong 8 = .ok (.iload 4, 2) := by decide +kernel
theorem dX0_firstWrong_10 : decode cX0_firstWrong 10 = .ok (.aload_n 0, 1) := by decide +kernel
theorem dX0_firstWrong_11 : decode cX0_firstWrong 11 = .ok (.getfield 18, 3) := by decide +kernel
theorem dX0_firstWrong_14 : decode cX0_firstWrong 14 = .ok (.if_icmp .ge 62, 3) := by decide +kernel
theorem dX0_firstWrong_17 : decode cX0_firstWrong 17 = .ok (.iload 4, 2) := by decide +kernel
theorem dX0_firstWrong_19 : decode cX0_firstWrong 19 = .ok (.bipush 30, 2) := by decide +kernel
theorem dX0_firstWrong_21 : decode cX0_firstWrong 21 = .ok (.if_icmp .ge 55, 3) := by decide +kernel
theorem dX0_firstWrong_24 : decode cX0_firstWrong 24 = .ok (.aload_n 1, 1) := by decide +kernel
theorem dX0_firstWrong_25 : decode cX0_firstWrong 25 = .ok (.aload_n 0, 1) := by decide +kernel
theorem dX0_firstWrong_26 : decode cX0_firstWrong 26 = .ok (.getfield 9, 3) := by decide +kernel
theorem dX0_firstWrong_29 : decode cX0_firstWrong 29 = .ok (.iload 4, 2) := by decide +kernel
theorem dX0_firstWrong_31 : decode cX0_firstWrong 31 = .ok (.iaload, 1) := by decide +kernel
theorem dX0_firstWrong_32 : decode cX0_firstWrong 32 = .ok (.iload_n 3, 1) := by decide +kernel
theorem dX0_firstWrong_33 : decode cX0_firstWrong 33 = .ok (.aload_n 2, 1) := by decide +kernel
theorem dX0_firstWrong_34 : decode cX0_firstWrong 34 = .ok (.getfield 28, 3) := by decide +kernel
theorem dX0_firstWrong_37 : decode cX0_firstWrong 37 = .ok (.invokevirtual 31, 3) := by decide +kernel
theorem dX0_firstWrong_40 : decode cX0_firstWrong 40 = .ok (.aload_n 0, 1) := by decide +kernel
theorem dX0_firstWrong_41 : decode cX0_firstWrong 41 = .ok (.getfield 15, 3) := by decide +kernel
theorem dX0_firstWrong_44 : decode cX0_firstWrong 44 = .ok (.iload 4, 2) := by decide +kernel
theorem dX0_firstWrong_46 : decode cX0_firstWrong 46 = .ok (.iaload, 1) := by decide +kernel
theorem dX0_firstWrong_47 : decode cX0_firstWrong 47 = .ok (.invokestatic 37, 3) := by decide +kernel
theorem dX0_firstWrong_50 : decode cX0_firstWrong 50 = .ok (.ifCond .ne 6, 3) := by decide +kernel
theorem dX0_firstWrong_53 : decode cX0_firstWrong 53 = .ok (.iload 4, 2) := by decide +kernel
theorem dX0_firstWrong_55 : decode cX0_firstWrong 55 = .ok (.ireturn, 1) := by decide +kernel
theorem dX0_firstWrong_56 : decode cX0_firstWrong 56 = .ok (.iload_n 3, 1) := by decide +kernel
theorem dX0_firstWrong_57 : decode cX0_firstWrong 57 = .ok (.iconst 1, 1) := by decide +kernel
theorem dX0_firstWrong_58 : decode cX0_firstWrong 58 = .ok (.aload_n 0, 1) := by decide +kernel
theorem dX0_firstWrong_59 : decode cX0_firstWrong 59 = .ok (.getfield 15, 3) := by decide +kernel
theorem dX0_firstWrong_62 : decode cX0_firstWrong 62 = .ok (.iload 4, 2) := by decide +kernel
theorem dX0_firstWrong_64 : decode cX0_firstWrong 64 = .ok (.iaload, 1) := by decide +kernel
theorem dX0_firstWrong_65 : decode cX0_firstWrong 65 = .ok (.ishl, 1) := by decide +kernel
theorem dX0_firstWrong_66 : decode cX0_firstWrong 66 = .ok (.iconst (-1), 1) := by decide +kernel
theorem dX0_firstWrong_67 : decode cX0_firstWrong 67 = .ok (.ixor, 1) := by decide +kernel
theorem dX0_firstWrong_68 : decode cX0_firstWrong 68 = .ok (.iand, 1) := by decide +kernel
theorem dX0_firstWrong_69 : decode cX0_firstWrong 69 = .ok (.istore_n 3, 1) := by decide +kernel
theorem dX0_firstWrong_70 : decode cX0_firstWrong 70 = .ok (.iinc 4 1, 3) := by decide +kernel
theorem dX0_firstWrong_73 : decode cX0_firstWrong 73 = .ok (.goto (-65), 3) := by decide +kernel
theorem dX0_firstWrong_76 : decode cX0_firstWrong 76 = .ok (.iconst (-1), 1) := by decide +kernel
theorem dX0_firstWrong_77 : decode cX0_firstWrong 77 = .ok (.ireturn, 1) := by decide +kernel
theorem dX1_init_0 : decode cX1_init 0 = .ok (.aload_n 0, 1) := by decide +kernel
theorem dX1_init_1 : decode cX1_init 1 = .ok (.invokespecial 3, 3) := by decide +kernel
theorem dX1_init_4 : decode cX1_init 4 = .ok (.aload_n 0, 1) := by decide +kernel
theorem dX1_init_5 : decode cX1_init 5 = .ok (.bipush 12, 2) := by decide +kernel
theorem dX1_init_7 : decode cX1_init 7 = .ok (.newarray .int, 2) := by decide +kernel
theorem dX1_init_9 : decode cX1_init 9 = .ok (.putfield 9, 3) := by decide +kernel
theorem dX1_init_12 : decode cX1_init 12 = .ok (.aload_n 0, 1) := by decide +kernel
theorem dX1_init_13 : decode cX1_init 13 = .ok (.bipush 8, 2) := by decide +kernel
theorem dX1_init_15 : decode cX1_init 15 = .ok (.newarray .int, 2) := by decide +kernel
theorem dX1_init_17 : decode cX1_init 17 = .ok (.putfield 15, 3) := by decide +kernel
theorem dX1_init_20 : decode cX1_init 20 = .ok (.return_, 1) := by decide +kernel
theorem dX1_begin_0 : decode cX1_begin 0 = .ok (.aload_n 1, 1) := by decide +kernel
theorem dX1_begin_1 : decode cX1_begin 1 = .ok (.getfield 18, 3) := by decide +kernel
theorem dX1_begin_4 : decode cX1_begin 4 = .ok (.iconst 0, 1) := by decide +kernel
theorem dX1_begin_5 : decode cX1_begin 5 = .ok (.aload_n 0, 1) := by decide +kernel
theorem dX1_begin_6 : decode cX1_begin 6 = .ok (.getfield 9, 3) := by decide +kernel
theorem dX1_begin_9 : decode cX1_begin 9 = .ok (.iconst 0, 1) := by decide +kernel
theorem dX1_begin_10 : decode cX1_begin 10 = .ok (.bipush 12, 2) := by decide +kernel
theorem dX1_begin_12 : decode cX1_begin 12 = .ok (.invokestatic 21, 3) := by decide +kernel
theorem dX1_begin_15 : decode cX1_begin 15 = .ok (.aload_n 1, 1) := by decide +kernel
theorem dX1_begin_16 : decode cX1_begin 16 = .ok (.getfield 27, 3) := by decide +kernel
theorem dX1_begin_19 : decode cX1_begin 19 = .ok (.iconst 0, 1) := by decide +kernel
theorem dX1_begin_20 : decode cX1_begin 20 = .ok (.aload_n 0, 1) := by decide +kernel
theorem dX1_begin_21 : decode cX1_begin 21 = .ok (.getfield 15, 3) := by decide +kernel
theorem dX1_begin_24 : decode cX1_begin 24 = .ok (.iconst 0, 1) := by decide +kernel
theorem dX1_begin_25 : decode cX1_begin 25 = .ok (.bipush 8, 2) := by decide +kernel
theorem dX1_begin_27 : decode cX1_begin 27 = .ok (.invokestatic 21, 3) := by decide +kernel
theorem dX1_begin_30 : decode cX1_begin 30 = .ok (.aload_n 0, 1) := by decide +kernel
theorem dX1_begin_31 : decode cX1_begin 31 = .ok (.iconst 0, 1) := by decide +kernel
theorem dX1_begin_32 : decode cX1_begin 32 = .ok (.putfield 30, 3) := by decide +kernel
theorem dX1_begin_35 : decode cX1_begin 35 = .ok (.return_, 1) := by decide +kernel
theorem dX1_copy_0 : decode cX1_copy 0 = .ok (.aload_n 1, 1) := by decide +kernel
theorem dX1_copy_1 : decode cX1_copy 1 = .ok (.getfield 9, 3) := by decide +kernel
theorem dX1_copy_4 : decode cX1_copy 4 = .ok (.iconst 0, 1) := by decide +kernel
theorem dX1_copy_5 : decode cX1_copy 5 = .ok (.aload_n 0, 1) := by decide +kernel
theorem dX1_copy_6 : decode cX1_copy 6 = .ok (.getfield 9, 3) := by decide +kernel
theorem dX1_copy_9 : decode cX1_copy 9 = .ok (.iconst 0, 1) := by decide +kernel
theorem dX1_copy_10 : decode cX1_copy 10 = .ok (.bipush 12, 2) := by decide +kernel
theorem dX1_copy_12 : decode cX1_copy 12 = .ok (.invokestatic 21, 3) := by decide +kernel
theorem dX1_copy_15 : decode cX1_copy 15 = .ok (.aload_n 1, 1) := by decide +kernel
theorem dX1_copy_16 : decode cX1_copy 16 = .ok (.getfield 15, 3) := by decide +kernel
theorem dX1_copy_19 : decode cX1_copy 19 = .ok (.iconst 0, 1) := by decide +kernel
theorem dX1_copy_20 : decode cX1_copy 20 = .ok (.aload_n 0, 1) := by decide +kernel
theorem dX1_copy_21 : decode cX1_copy 21 = .ok (.getfield 15, 3) := by decide +kernel
theorem dX1_copy_24 : decode cX1_copy 24 = .ok (.iconst 0, 1) := by decide +kernel
theorem dX1_copy_25 : decode cX1_copy 25 = .ok (.bipush 8, 2) := by decide +kernel
theorem dX1_copy_27 : decode cX1_copy 27 = .ok (.invokestatic 21, 3) := by decide +kernel
theorem dX1_copy_30 : decode cX1_copy 30 = .ok (.aload_n 0, 1) := by decide +kernel
theorem dX1_copy_31 : decode cX1_copy 31 = .ok (.aload_n 1, 1) := by decide +kernel
theorem dX1_copy_32 : decode cX1_copy 32 = .ok (.getfield 30, 3) := by decide +kernel
theorem dX1_copy_35 : decode cX1_copy 35 = .ok (.putfield 30, 3) := by decide +kernel
theorem dX1_copy_38 : decode cX1_copy 38 = .ok (.aload_n 0, 1) := by decide +kernel
theorem dX1_copy_39 : decode cX1_copy 39 = .ok (.aload_n 1, 1) := by decide +kernel
theorem dX1_copy_40 : decode cX1_copy 40 = .ok (.getfield 34, 3) := by decide +kernel
theorem dX1_copy_43 : decode cX1_copy 43 = .ok (.putfield 34, 3) := by decide +kernel
theorem dX1_copy_46 : decode cX1_copy 46 = .ok (.return_, 1) := by decide +kernel
theorem dX1_sewn_0 : decode cX1_sewn 0 = .ok (.aload_n 0, 1) := by decide +kernel
theorem dX1_sewn_1 : decode cX1_sewn 1 = .ok (.iconst 0, 1) := by decide +kernel
theorem dX1_sewn_2 : decode cX1_sewn 2 = .ok (.invokevirtual 37, 3) := by decide +kernel
theorem dX1_sewn_5 : decode cX1_sewn 5 = .ok (.ireturn, 1) := by decide +kernel
theorem dX1_holding_0 : decode cX1_holding 0 = .ok (.iconst 0, 1) := by decide +kernel
theorem dX1_holding_1 : decode cX1_holding 1 = .ok (.istore_n 2, 1) := by decide +kernel
theorem dX1_holding_2 : decode cX1_holding 2 = .ok (.iconst 0, 1) := by decide +kernel
theorem dX1_holding_3 : decode cX1_holding 3 = .ok (.istore_n 3, 1) := by decide +kernel
theorem dX1_holding_4 : decode cX1_holding 4 = .ok (.iload_n 3, 1) := by decide +kernel
theorem dX1_holding_5 : decode cX1_holding 5 = .ok (.bipush 12, 2) := by decide +kernel
theorem dX1_holding_7 : decode cX1_holding 7 = .ok (.if_icmp .ge 34, 3) := by decide +kernel
theorem dX1_holding_10 : decode cX1_holding 10 = .ok (.aload_n 0, 1) := by decide +kernel
theorem dX1_holding_11 : decode cX1_holding 11 = .ok (.getfield 9, 3) := by decide +kernel
theorem dX1_holding_14 : decode cX1_holding 14 = .ok (.iload_n 3, 1) := by decide +kernel
theorem dX1_holding_15 : decode cX1_holding 15 = .ok (.iaload, 1) := by decide +kernel
theorem dX1_holding_16 : decode cX1_holding 16 = .ok (.ifCond .le 19, 3) := by decide +kernel
theorem dX1_holding_19 : decode cX1_holding 19 = .ok (.aload_n 0, 1) := by decide +kernel
theorem dX1_holding_20 : decode cX1_holding 20 = .ok (.getfield 9, 3) := by decide +kernel
theorem dX1_holding_23 : decode cX1_holding 23 = .ok (.iload_n 3, 1) := by decide +kernel
theorem dX1_holding_24 : decode cX1_holding 24 = .ok (.iaload, 1) := by decide +kernel
theorem dX1_holding_25 : decode cX1_holding 25 = .ok (.iload_n 1, 1) := by decide +kernel
theorem dX1_holding_26 : decode cX1_holding 26 = .ok (.if_icmp .lt 9, 3) := by decide +kernel
theorem dX1_holding_29 : decode cX1_holding 29 = .ok (.iload_n 2, 1) := by decide +kernel
theorem dX1_holding_30 : decode cX1_holding 30 = .ok (.iconst 1, 1) := by decide +kernel
theorem dX1_holding_31 : decode cX1_holding 31 = .ok (.iload_n 3, 1) := by decide +kernel
theorem dX1_holding_32 : decode cX1_holding 32 = .ok (.ishl, 1) := by decide +kernel
theorem dX1_holding_33 : decode cX1_holding 33 = .ok (.ior, 1) := by decide +kernel
theorem dX1_holding_34 : decode cX1_holding 34 = .ok (.istore_n 2, 1) := by decide +kernel
theorem dX1_holding_35 : decode cX1_holding 35 = .ok (.iinc 3 1, 3) := by decide +kernel
theorem dX1_holding_38 : decode cX1_holding 38 = .ok (.goto (-34), 3) := by decide +kernel
theorem dX1_holding_41 : decode cX1_holding 41 = .ok (.iload_n 2, 1) := by decide +kernel
theorem dX1_holding_42 : decode cX1_holding 42 = .ok (.ireturn, 1) := by decide +kernel
theorem dX1_cost_0 : decode cX1_cost 0 = .ok (.iconst 0, 1) := by decide +kernel
theorem dX1_cost_1 : decode cX1_cost 1 = .ok (.istore_n 2, 1) := by decide +kernel
theorem dX1_cost_2 : decode cX1_cost 2 = .ok (.iconst 0, 1) := by decide +kernel
theorem dX1_cost_3 : decode cX1_cost 3 = .ok (.istore_n 3, 1) := by decide +kernel
theorem dX1_cost_4 : decode cX1_cost 4 = .ok (.iload_n 3, 1) := by decide +kernel
theorem dX1_cost_5 : decode cX1_cost 5 = .ok (.aload_n 1, 1) := by decide +kernel
theorem dX1_cost_6 : decode cX1_cost 6 = .ok (.getfield 41, 3) := by decide +kernel
theorem dX1_cost_9 : decode cX1_cost 9 = .ok (.if_icmp .ge 28, 3) := by decide +kernel
theorem dX1_cost_12 : decode cX1_cost 12 = .ok (.iload_n 3, 1) := by decide +kernel
theorem dX1_cost_13 : decode cX1_cost 13 = .ok (.bipush 8, 2) := by decide +kernel
theorem dX1_cost_15 : decode cX1_cost 15 = .ok (.if_icmp .ge 22, 3) := by decide +kernel
theorem dX1_cost_18 : decode cX1_cost 18 = .ok (.iload_n 2, 1) := by decide +kernel
theorem dX1_cost_19 : decode cX1_cost 19 = .ok (.aload_n 1, 1) := by decide +kernel
theorem dX1_cost_20 : decode cX1_cost 20 = .ok (.aload_n 0, 1) := by decide +kernel
theorem dX1_cost_21 : decode cX1_cost 21 = .ok (.getfield 15, 3) := by decide +kernel
theorem dX1_cost_24 : decode cX1_cost 24 = .ok (.iload_n 3, 1) := by decide +kernel
theorem dX1_cost_25 : decode cX1_cost 25 = .ok (.iaload, 1) := by decide +kernel
theorem dX1_cost_26 : decode cX1_cost 26 = .ok (.invokevirtual 44, 3) := by decide +kernel
theorem dX1_cost_29 : decode cX1_cost 29 = .ok (.iadd, 1) := by decide +kernel
theorem dX1_cost_30 : decode cX1_cost 30 = .ok (.istore_n 2, 1) := by decide +kernel
theorem dX1_cost_31 : decode cX1_cost 31 = .ok (.iinc 3 1, 3) := by decide +kernel
theorem dX1_cost_34 : decode cX1_cost 34 = .ok (.goto (-30), 3) := by decide +kernel
theorem dX1_cost_37 : decode cX1_cost 37 = .ok (.iload_n 2, 1) := by decide +kernel
theorem dX1_cost_38 : decode cX1_cost 38 = .ok (.ireturn, 1) := by decide +kernel
theorem dX1_frayEnds_0 : decode cX1_frayEnds 0 = .ok (.aload_n 0, 1) := by decide +kernel
theorem dX1_frayEnds_1 : decode cX1_frayEnds 1 = .ok (.aload_n 1, 1) := by decide +kernel
theorem dX1_frayEnds_2 : decode cX1_frayEnds 2 = .ok (.invokevirtual 47, 3) := by decide +kernel
theorem dX1_frayEnds_5 : decode cX1_frayEnds 5 = .ok (.istore_n 3, 1) := by decide +kernel
theorem dX1_frayEnds_6 : decode cX1_frayEnds 6 = .ok (.iconst 0, 1) := by decide +kernel
theorem dX1_frayEnds_7 : decode cX1_frayEnds 7 = .ok (.istore 4, 2) := by decide +kernel
theorem dX1_frayEnds_9 : decode cX1_frayEnds 9 = .ok (.iconst 0, 1) := by decide +kernel
theorem dX1_frayEnds_10 : decode cX1_frayEnds 10 = .ok (.istore 5, 2) := by decide +kernel
theorem dX1_frayEnds_12 : decode cX1_frayEnds 12 = .ok (.iload 5, 2) := by decide +kernel
theorem dX1_frayEnds_14 : decode cX1_frayEnds 14 = .ok (.bipush 12, 2) := by decide +kernel
theorem dX1_frayEnds_16 : decode cX1_frayEnds 16 = .ok (.if_icmp .ge 61, 3) := by decide +kernel
theorem dX1_frayEnds_19 : decode cX1_frayEnds 19 = .ok (.iload_n 3, 1) := by decide +kernel
theorem dX1_frayEnds_20 : decode cX1_frayEnds 20 = .ok (.iload 5, 2) := by decide +kernel
theorem dX1_frayEnds_22 : decode cX1_frayEnds 22 = .ok (.invokestatic 51, 3) := by decide +kernel
theorem dX1_frayEnds_25 : decode cX1_frayEnds 25 = .ok (.ifCond .eq 46, 3) := by decide +kernel
theorem dX1_frayEnds_28 : decode cX1_frayEnds 28 = .ok (.aload_n 0, 1) := by decide +kernel
theorem dX1_frayEnds_29 : decode cX1_frayEnds 29 = .ok (.getfield 9, 3) := by decide +kernel
theorem dX1_frayEnds_32 : decode cX1_frayEnds 32 = .ok (.iload 5, 2) := by decide +kernel
theorem dX1_frayEnds_34 : decode cX1_frayEnds 34 = .ok (.iconst 0, 1) := by decide +kernel
theorem dX1_frayEnds_35 : decode cX1_frayEnds 35 = .ok (.aload_n 0, 1) := by decide +kernel
theorem dX1_frayEnds_36 : decode cX1_frayEnds 36 = .ok (.getfield 9, 3) := by decide +kernel
theorem dX1_frayEnds_39 : decode cX1_frayEnds 39 = .ok (.iload 5, 2) := by decide +kernel
theorem dX1_frayEnds_41 : decode cX1_frayEnds 41 = .ok (.iaload, 1) := by decide +kernel
theorem dX1_frayEnds_42 : decode cX1_frayEnds 42 = .ok (.iload_n 2, 1) := by decide +kernel
theorem dX1_frayEnds_43 : decode cX1_frayEnds 43 = .ok (.isub, 1) := by decide +kernel
theorem dX1_frayEnds_44 : decode cX1_frayEnds 44 = .ok (.invokestatic 55, 3) := by decide +kernel
theorem dX1_frayEnds_47 : decode cX1_frayEnds 47 = .ok (.iastore, 1) := by decide +kernel
theorem dX1_frayEnds_48 : decode cX1_frayEnds 48 = .ok (.iload 4, 2) := by decide +kernel
theorem dX1_frayEnds_50 : decode cX1_frayEnds 50 = .ok (.aload_n 0, 1) := by decide +kernel
theorem dX1_frayEnds_51 : decode cX1_frayEnds 51 = .ok (.getfield 9, 3) := by decide +kernel
theorem dX1_frayEnds_54 : decode cX1_frayEnds 54 = .ok (.iload 5, 2) := by decide +kernel
theorem dX1_frayEnds_56 : decode cX1_frayEnds 56 = .ok (.iaload, 1) := by decide +kernel
theorem dX1_frayEnds_57 : decode cX1_frayEnds 57 = .ok (.ifCond .ne 10, 3) := by decide +kernel
theorem dX1_frayEnds_60 : decode cX1_frayEnds 60 = .ok (.iconst 1, 1) := by decide +kernel
theorem dX1_frayEnds_61 : decode cX1_frayEnds 61 = .ok (.iload 5, 2) := by decide +kernel
theorem dX1_frayEnds_63 : decode cX1_frayEnds 63 = .ok (.ishl, 1) := by decide +kernel
theorem dX1_frayEnds_64 : decode cX1_frayEnds 64 = .ok (.goto 4, 3) := by decide +kernel
theorem dX1_frayEnds_67 : decode cX1_frayEnds 67 = .ok (.iconst 0, 1) := by decide +kernel
theorem dX1_frayEnds_68 : decode cX1_frayEnds 68 = .ok (.ior, 1) := by decide +kernel
theorem dX1_frayEnds_69 : decode cX1_frayEnds 69 = .ok (.istore 4, 2) := by decide +kernel
theorem dX1_frayEnds_71 : decode cX1_frayEnds 71 = .ok (.iinc 5 1, 3) := by decide +kernel
theorem dX1_frayEnds_74 : decode cX1_frayEnds 74 = .ok (.goto (-62), 3) := by decide +kernel
theorem dX1_frayEnds_77 : decode cX1_frayEnds 77 = .ok (.iload 4, 2) := by decide +kernel
theorem dX1_frayEnds_79 : decode cX1_frayEnds 79 = .ok (.ireturn, 1) := by decide +kernel
theorem dX1_looseSeams_0 : decode cX1_looseSeams 0 = .ok (.aload_n 0, 1) := by decide +kernel
theorem dX1_looseSeams_1 : decode cX1_looseSeams 1 = .ok (.invokevirtual 61, 3) := by decide +kernel
theorem dX1_looseSeams_4 : decode cX1_looseSeams 4 = .ok (.istore_n 2, 1) := by decide +kernel
theorem dX1_looseSeams_5 : decode cX1_looseSeams 5 = .ok (.iconst 0, 1) := by decide +kernel
theorem dX1_looseSeams_6 : decode cX1_looseSeams 6 = .ok (.istore_n 3, 1) := by decide +kernel
theorem dX1_looseSeams_7 : decode cX1_looseSeams 7 = .ok (.iconst 0, 1) := by decide +kernel
theorem dX1_looseSeams_8 : decode cX1_looseSeams 8 = .ok (.istore 4, 2) := by decide +kernel
theorem dX1_looseSeams_10 : decode cX1_looseSeams 10 = .ok (.iload 4, 2) := by decide +kernel
theorem dX1_looseSeams_12 : decode cX1_looseSeams 12 = .ok (.aload_n 1, 1) := by decide +kernel
theorem dX1_looseSeams_13 : decode cX1_looseSeams 13 = .ok (.getfield 41, 3) := by decide +kernel
theorem dX1_looseSeams_16 : decode cX1_looseSeams 16 = .ok (.if_icmp .ge 32, 3) := by decide +kernel
theorem dX1_looseSeams_19 : decode cX1_looseSeams 19 = .ok (.aload_n 1, 1) := by decide +kernel
theorem dX1_looseSeams_20 : decode cX1_looseSeams 20 = .ok (.iload 4, 2) := by decide +kernel
theorem dX1_looseSeams_22 : decode cX1_looseSeams 22 = .ok (.iload_n 2, 1) := by decide +kernel
theorem dX1_looseSeams_23 : decode cX1_looseSeams 23 = .ok (.invokevirtual 65, 3) := by decide +kernel
theorem dX1_looseSeams_26 : decode cX1_looseSeams 26 = .ok (.istore 5, 2) := by decide +kernel
theorem dX1_looseSeams_28 : decode cX1_looseSeams 28 = .ok (.iload 5, 2) := by decide +kernel
theorem dX1_looseSeams_30 : decode cX1_looseSeams 30 = .ok (.invokestatic 68, 3) := by decide +kernel
theorem dX1_looseSeams_33 : decode cX1_looseSeams 33 = .ok (.iconst 1, 1) := by decide +kernel
theorem dX1_looseSeams_34 : decode cX1_looseSeams 34 = .ok (.if_icmp .ne 8, 3) := by decide +kernel
theorem dX1_looseSeams_37 : decode cX1_looseSeams 37 = .ok (.iload_n 3, 1) := by decide +kernel
theorem dX1_looseSeams_38 : decode cX1_looseSeams 38 = .ok (.iload 5, 2) := by decide +kernel
theorem dX1_looseSeams_40 : decode cX1_looseSeams 40 = .ok (.ior, 1) := by decide +kernel
theorem dX1_looseSeams_41 : decode cX1_looseSeams 41 = .ok (.istore_n 3, 1) := by decide +kernel
theorem dX1_looseSeams_42 : decode cX1_looseSeams 42 = .ok (.iinc 4 1, 3) := by decide +kernel
theorem dX1_looseSeams_45 : decode cX1_looseSeams 45 = .ok (.goto (-35), 3) := by decide +kernel
theorem dX1_looseSeams_48 : decode cX1_looseSeams 48 = .ok (.iload_n 3, 1) := by decide +kernel
theorem dX1_looseSeams_49 : decode cX1_looseSeams 49 = .ok (.ireturn, 1) := by decide +kernel
theorem dX1_passYear_0 : decode cX1_passYear 0 = .ok (.iconst 0, 1) := by decide +kernel
theorem dX1_passYear_1 : decode cX1_passYear 1 = .ok (.istore_n 2, 1) := by decide +kernel
theorem dX1_passYear_2 : decode cX1_passYear 2 = .ok (.iload_n 2, 1) := by decide +kernel
theorem dX1_passYear_3 : decode cX1_passYear 3 = .ok (.aload_n 1, 1) := by decide +kernel
theorem dX1_passYear_4 : decode cX1_passYear 4 = .ok (.getfield 41, 3) := by decide +kernel
theorem dX1_passYear_7 : decode cX1_passYear 7 = .ok (.if_icmp .ge 38, 3) := by decide +kernel
theorem dX1_passYear_10 : decode cX1_passYear 10 = .ok (.aload_n 0, 1) := by decide +kernel
theorem dX1_passYear_11 : decode cX1_passYear 11 = .ok (.iconst 3, 1) := by decide +kernel
theorem dX1_passYear_12 : decode cX1_passYear 12 = .ok (.invokevirtual 73, 3) := by decide +kernel
theorem dX1_passYear_15 : decode cX1_passYear 15 = .ok (.ifCond .ne 24, 3) := by decide +kernel
theorem dX1_passYear_18 : decode cX1_passYear 18 = .ok (.aload_n 1, 1) := by decide +kernel
theorem dX1_passYear_19 : decode cX1_passYear 19 = .ok (.getfield 76, 3) := by decide +kernel
theorem dX1_passYear_22 : decode cX1_passYear 22 = .ok (.ifCond .le 17, 3) := by decide +kernel
theorem dX1_passYear_25 : decode cX1_passYear 25 = .ok (.aload_n 0, 1) := by decide +kernel
theorem dX1_passYear_26 : decode cX1_passYear 26 = .ok (.aload_n 1, 1) := by decide +kernel
theorem dX1_passYear_27 : decode cX1_passYear 27 = .ok (.iload_n 2, 1) := by decide +kernel
theorem dX1_passYear_28 : decode cX1_passYear 28 = .ok (.aload_n 0, 1) := by decide +kernel
theorem dX1_passYear_29 : decode cX1_passYear 29 = .ok (.aload_n 1, 1) := by decide +kernel
theorem dX1_passYear_30 : decode cX1_passYear 30 = .ok (.getfield 76, 3) := by decide +kernel
theorem dX1_passYear_33 : decode cX1_passYear 33 = .ok (.invokevirtual 73, 3) := by decide +kernel
theorem dX1_passYear_36 : decode cX1_passYear 36 = .ok (.invokevirtual 79, 3) := by decide +kernel
theorem dX1_passYear_39 : decode cX1_passYear 39 = .ok (.iinc 2 1, 3) := by decide +kernel
theorem dX1_passYear_42 : decode cX1_passYear 42 = .ok (.goto (-40), 3) := by decide +kernel
theorem dX1_passYear_45 : decode cX1_passYear 45 = .ok (.aload_n 0, 1) := by decide +kernel
theorem dX1_passYear_46 : decode cX1_passYear 46 = .ok (.aload_n 1, 1) := by decide +kernel
theorem dX1_passYear_47 : decode cX1_passYear 47 = .ok (.aload_n 0, 1) := by decide +kernel
theorem dX1_passYear_48 : decode cX1_passYear 48 = .ok (.iconst 3, 1) := by decide +kernel
theorem dX1_passYear_49 : decode cX1_passYear 49 = .ok (.invokevirtual 73, 3) := by decide +kernel
theorem dX1_passYear_52 : decode cX1_passYear 52 = .ok (.invokevirtual 83, 3) := by decide +kernel
theorem dX1_passYear_55 : decode cX1_passYear 55 = .ok (.pop, 1) := by decide +kernel
theorem dX1_passYear_56 : decode cX1_passYear 56 = .ok (.return_, 1) := by decide +kernel
theorem dX1_tryUnpick_0 : decode cX1_tryUnpick 0 = .ok (.aload_n 1, 1) := by decide +kernel
theorem dX1_tryUnpick_1 : decode cX1_tryUnpick 1 = .ok (.iload_n 3, 1) := by decide +kernel
theorem dX1_tryUnpick_2 : decode cX1_tryUnpick 2 = .ok (.invokevirtual 87, 3) := by decide +kernel
theorem dX1_tryUnpick_5 : decode cX1_tryUnpick 5 = .ok (.ifCond .eq 30, 3) := by decide +kernel
theorem dX1_tryUnpick_8 : decode cX1_tryUnpick 8 = .ok (.aload_n 1, 1) := by decide +kernel
theorem dX1_tryUnpick_9 : decode cX1_tryUnpick 9 = .ok (.iload_n 2, 1) := by decide +kernel
theorem dX1_tryUnpick_10 : decode cX1_tryUnpick 10 = .ok (.aload_n 0, 1) := by decide +kernel
theorem dX1_tryUnpick_11 : decode cX1_tryUnpick 11 = .ok (.invokevirtual 61, 3) := by decide +kernel
theorem dX1_tryUnpick_14 : decode cX1_tryUnpick 14 = .ok (.aload_n 0, 1) := by decide +kernel
theorem dX1_tryUnpick_15 : decode cX1_tryUnpick 15 = .ok (.getfield 30, 3) := by decide +kernel
theorem dX1_tryUnpick_18 : decode cX1_tryUnpick 18 = .ok (.invokevirtual 91, 3) := by decide +kernel
theorem dX1_tryUnpick_21 : decode cX1_tryUnpick 21 = .ok (.iload_n 3, 1) := by decide +kernel
theorem dX1_tryUnpick_22 : decode cX1_tryUnpick 22 = .ok (.invokestatic 51, 3) := by decide +kernel
theorem dX1_tryUnpick_25 : decode cX1_tryUnpick 25 = .ok (.ifCond .eq 10, 3) := by decide +kernel
theorem dX1_tryUnpick_28 : decode cX1_tryUnpick 28 = .ok (.aload_n 0, 1) := by decide +kernel
theorem dX1_tryUnpick_29 : decode cX1_tryUnpick 29 = .ok (.getfield 9, 3) := by decide +kernel
theorem dX1_tryUnpick_32 : decode cX1_tryUnpick 32 = .ok (.iload_n 3, 1) := by decide +kernel
theorem dX1_tryUnpick_33 : decode cX1_tryUnpick 33 = .ok (.iconst 0, 1) := by decide +kernel
theorem dX1_tryUnpick_34 : decode cX1_tryUnpick 34 = .ok (.iastore, 1) := by decide +kernel
theorem dX1_tryUnpick_35 : decode cX1_tryUnpick 35 = .ok (.return_, 1) := by decide +kernel
theorem dX1_draw_0 : decode cX1_draw 0 = .ok (.aload_n 0, 1) := by decide +kernel
theorem dX1_draw_1 : decode cX1_draw 1 = .ok (.aload_n 0, 1) := by decide +kernel
theorem dX1_draw_2 : decode cX1_draw 2 = .ok (.getfield 34, 3) := by decide +kernel
theorem dX1_draw_5 : decode cX1_draw 5 = .ok (.i2l, 1) := by decide +kernel
theorem dX1_draw_6 : decode cX1_draw 6 = .ok (.ldc2_w 95, 3) := by decide +kernel
theorem dX1_draw_9 : decode cX1_draw 9 = .ok (.lmul, 1) := by decide +kernel
theorem dX1_draw_10 : decode cX1_draw 10 = .ok (.ldc2_w 97, 3) := by decide +kernel
theorem dX1_draw_13 : decode cX1_draw 13 = .ok (.ladd, 1) := by decide +kernel
theorem dX1_draw_14 : decode cX1_draw 14 = .ok (.ldc2_w 99, 3) := by decide +kernel
theorem dX1_draw_17 : decode cX1_draw 17 = .ok (.land, 1) := by decide +kernel
theorem dX1_draw_18 : decode cX1_draw 18 = .ok (.l2i, 1) := by decide +kernel
theorem dX1_draw_19 : decode cX1_draw 19 = .ok (.putfield 34, 3) := by decide +kernel
theorem dX1_draw_22 : decode cX1_draw 22 = .ok (.iload_n 1, 1) := by decide +kernel
theorem dX1_draw_23 : decode cX1_draw 23 = .ok (.ifCond .le 15, 3) := by decide +kernel
theorem dX1_draw_26 : decode cX1_draw 26 = .ok (.aload_n 0, 1) := by decide +kernel
theorem dX1_draw_27 : decode cX1_draw 27 = .ok (.getfield 34, 3) := by decide +kernel
theorem dX1_draw_30 : decode cX1_draw 30 = .ok (.ldc 101, 2) := by decide +kernel
theorem dX1_draw_32 : decode cX1_draw 32 = .ok (.idiv, 1) := by decide +kernel
theorem dX1_draw_33 : decode cX1_draw 33 = .ok (.iload_n 1, 1) := by decide +kernel
theorem dX1_draw_34 : decode cX1_draw 34 = .ok (.irem, 1) := by decide +kernel
theorem dX1_draw_35 : decode cX1_draw 35 = .ok (.goto 4, 3) := by decide +kernel
theorem dX1_draw_38 : decode cX1_draw 38 = .ok (.iconst 0, 1) := by decide +kernel
theorem dX1_draw_39 : decode cX1_draw 39 = .ok (.ireturn, 1) := by decide +kernel
theorem dX2_init_0 : decode cX2_init 0 = .ok (.aload_n 0, 1) := by decide +kernel
theorem dX2_init_1 : decode cX2_init 1 = .ok (.invokespecial 3, 3) := by decide +kernel
theorem dX2_init_4 : decode cX2_init 4 = .ok (.aload_n 0, 1) := by decide +kernel
theorem dX2_init_5 : decode cX2_init 5 = .ok (.sipush 256, 3) := by decide +kernel
theorem dX2_init_8 : decode cX2_init 8 = .ok (.newarray .int, 2) := by decide +kernel
theorem dX2_init_10 : decode cX2_init 10 = .ok (.putfield 11, 3) := by decide +kernel
theorem dX2_init_13 : decode cX2_init 13 = .ok (.aload_n 0, 1) := by decide +kernel
theorem dX2_init_14 : decode cX2_init 14 = .ok (.sipush 256, 3) := by decide +kernel
theorem dX2_init_17 : decode cX2_init 17 = .ok (.newarray .int, 2) := by decide +kernel
theorem dX2_init_19 : decode cX2_init 19 = .ok (.putfield 15, 3) := by decide +kernel
theorem dX2_init_22 : decode cX2_init 22 = .ok (.return_, 1) := by decide +kernel
theorem dX2_fewestSeams_0 : decode cX2_fewestSeams 0 = .ok (.aload_n 0, 1) := by decide +kernel
theorem dX2_fewestSeams_1 : decode cX2_fewestSeams 1 = .ok (.iload_n 2, 1) := by decide +kernel
theorem dX2_fewestSeams_2 : decode cX2_fewestSeams 2 = .ok (.iload_n 1, 1) := by decide +kernel
theorem dX2_fewestSeams_3 : decode cX2_fewestSeams 3 = .ok (.invokevirtual 18, 3) := by decide +kernel
theorem dX2_fewestSeams_6 : decode cX2_fewestSeams 6 = .ok (.istore_n 3, 1) := by decide +kernel
theorem dX2_fewestSeams_7 : decode cX2_fewestSeams 7 = .ok (.iconst 1, 1) := by decide +kernel
theorem dX2_fewestSeams_8 : decode cX2_fewestSeams 8 = .ok (.istore 4, 2) := by decide +kernel
theorem dX2_fewestSeams_10 : decode cX2_fewestSeams 10 = .ok (.iload 4, 2) := by decide +kernel
theorem dX2_fewestSeams_12 : decode cX2_fewestSeams 12 = .ok (.aload_n 0, 1) := by decide +kernel
theorem dX2_fewestSeams_13 : decode cX2_fewestSeams 13 = .ok (.invokevirtual 24, 3) := by decide +kernel
theorem dX2_fewestSeams_16 : decode cX2_fewestSeams 16 = .ok (.if_icmp .gt 30, 3) := by decide +kernel
theorem dX2_fewestSeams_19 : decode cX2_fewestSeams 19 = .ok (.iload 4, 2) := by decide +kernel
theorem dX2_fewestSeams_21 : decode cX2_fewestSeams 21 = .ok (.iload_n 2, 1) := by decide +kernel
theorem dX2_fewestSeams_22 : decode cX2_fewestSeams 22 = .ok (.invokestatic 28, 3) := by decide +kernel
theorem dX2_fewestSeams_25 : decode cX2_fewestSeams 25 = .ok (.ifCond .eq 15, 3) := by decide +kernel
theorem dX2_fewestSeams_28 : decode cX2_fewestSeams 28 = .ok (.aload_n 0, 1) := by decide +kernel
theorem dX2_fewestSeams_29 : decode cX2_fewestSeams 29 = .ok (.iload 4, 2) := by decide +kernel
theorem dX2_fewestSeams_31 : decode cX2_fewestSeams 31 = .ok (.iload_n 1, 1) := by decide +kernel
theorem dX2_fewestSeams_32 : decode cX2_fewestSeams 32 = .ok (.invokevirtual 32, 3) := by decide +kernel
theorem dX2_fewestSeams_35 : decode cX2_fewestSeams 35 = .ok (.iload_n 3, 1) := by decide +kernel
theorem dX2_fewestSeams_36 : decode cX2_fewestSeams 36 = .ok (.invokestatic 35, 3) := by decide +kernel
theorem dX2_fewestSeams_39 : decode cX2_fewestSeams 39 = .ok (.istore_n 3, 1) := by decide +kernel
theorem dX2_fewestSeams_40 : decode cX2_fewestSeams 40 = .ok (.iinc 4 1, 3) := by decide +kernel
theorem dX2_fewestSeams_43 : decode cX2_fewestSeams 43 = .ok (.goto (-33), 3) := by decide +kernel
theorem dX2_fewestSeams_46 : decode cX2_fewestSeams 46 = .ok (.iload_n 3, 1) := by decide +kernel
theorem dX2_fewestSeams_47 : decode cX2_fewestSeams 47 = .ok (.ireturn, 1) := by decide +kernel
theorem dX2_lesser_0 : decode cX2_lesser 0 = .ok (.iload_n 0, 1) := by decide +kernel
theorem dX2_lesser_1 : decode cX2_lesser 1 = .ok (.invokestatic 38, 3) := by decide +kernel
theorem dX2_lesser_4 : decode cX2_lesser 4 = .ok (.iload_n 1, 1) := by decide +kernel
theorem dX2_lesser_5 : decode cX2_lesser 5 = .ok (.invokestatic 38, 3) := by decide +kernel
theorem dX2_lesser_8 : decode cX2_lesser 8 = .ok (.isub, 1) := by decide +kernel
theorem dX2_lesser_9 : decode cX2_lesser 9 = .ok (.istore_n 2, 1) := by decide +kernel
theorem dX2_lesser_10 : decode cX2_lesser 10 = .ok (.iload_n 2, 1) := by decide +kernel
theorem dX2_lesser_11 : decode cX2_lesser 11 = .ok (.ifCond .lt 12, 3) := by decide +kernel
theorem dX2_lesser_14 : decode cX2_lesser 14 = .ok (.iload_n 2, 1) := by decide +kernel
theorem dX2_lesser_15 : decode cX2_lesser 15 = .ok (.ifCond .ne 12, 3) := by decide +kernel
theorem dX2_lesser_18 : decode cX2_lesser 18 = .ok (.iload_n 0, 1) := by decide +kernel
theorem dX2_lesser_19 : decode cX2_lesser 19 = .ok (.iload_n 1, 1) := by decide +kernel
theorem dX2_lesser_20 : decode cX2_lesser 20 = .ok (.if_icmp .ge 7, 3) := by decide +kernel
theorem dX2_lesser_23 : decode cX2_lesser 23 = .ok (.iload_n 0, 1) := by decide +kernel
theorem dX2_lesser_24 : decode cX2_lesser 24 = .ok (.goto 4, 3) := by decide +kernel
theorem dX2_lesser_27 : decode cX2_lesser 27 = .ok (.iload_n 1, 1) := by decide +kernel
theorem dX2_lesser_28 : decode cX2_lesser 28 = .ok (.ireturn, 1) := by decide +kernel
theorem dX2_findWeak_0 : decode cX2_findWeak 0 = .ok (.aload_n 2, 1) := by decide +kernel
theorem dX2_findWeak_1 : decode cX2_findWeak 1 = .ok (.invokevirtual 44, 3) := by decide +kernel
theorem dX2_findWeak_4 : decode cX2_findWeak 4 = .ok (.istore 5, 2) := by decide +kernel
theorem dX2_findWeak_6 : decode cX2_findWeak 6 = .ok (.aload_n 0, 1) := by decide +kernel
theorem dX2_findWeak_7 : decode cX2_findWeak 7 = .ok (.iconst 0, 1) := by decide +kernel
theorem dX2_findWeak_8 : decode cX2_findWeak 8 = .ok (.putfield 49, 3) := by decide +kernel
theorem dX2_findWeak_11 : decode cX2_findWeak 11 = .ok (.iconst 1, 1) := by decide +kernel
theorem dX2_findWeak_12 : decode cX2_findWeak 12 = .ok (.istore 6, 2) := by decide +kernel
theorem dX2_findWeak_14 : decode cX2_findWeak 14 = .ok (.iload 6, 2) := by decide +kernel
theorem dX2_findWeak_16 : decode cX2_findWeak 16 = .ok (.aload_n 1, 1) := by decide +kernel
theorem dX2_findWeak_17 : decode cX2_findWeak 17 = .ok (.invokevirtual 24, 3) := by decide +kernel
theorem dX2_findWeak_20 : decode cX2_findWeak 20 = .ok (.if_icmp .gt 58, 3) := by decide +kernel
theorem dX2_findWeak_23 : decode cX2_findWeak 23 = .ok (.iload 6, 2) := by decide +kernel
theorem dX2_findWeak_25 : decode cX2_findWeak 25 = .ok (.iload_n 3, 1) := by decide +kernel
theorem dX2_findWeak_26 : decode cX2_findWeak 26 = .ok (.iand, 1) := by decide +kernel
theorem dX2_findWeak_27 : decode cX2_findWeak 27 = .ok (.ifCond .eq 45, 3) := by decide +kernel
theorem dX2_findWeak_30 : decode cX2_findWeak 30 = .ok (.aload_n 1, 1) := by decide +kernel
theorem dX2_findWeak_31 : decode cX2_findWeak 31 = .ok (.iload 6, 2) := by decide +kernel
theorem dX2_findWeak_33 : decode cX2_findWeak 33 = .ok (.iload 5, 2) := by decide +kernel
theorem dX2_findWeak_35 : decode cX2_findWeak 35 = .ok (.invokevirtual 32, 3) := by decide +kernel
theorem dX2_findWeak_38 : decode cX2_findWeak 38 = .ok (.istore 7, 2) := by decide +kernel
theorem dX2_findWeak_40 : decode cX2_findWeak 40 = .ok (.iload 7, 2) := by decide +kernel
theorem dX2_findWeak_42 : decode cX2_findWeak 42 = .ok (.aload_n 2, 1) := by decide +kernel
theorem dX2_findWeak_43 : decode cX2_findWeak 43 = .ok (.getfield 53, 3) := by decide +kernel
theorem dX2_findWeak_46 : decode cX2_findWeak 46 = .ok (.iand, 1) := by decide +kernel
theorem dX2_findWeak_47 : decode cX2_findWeak 47 = .ok (.ifCond .ne 25, 3) := by decide +kernel
theorem dX2_findWeak_50 : decode cX2_findWeak 50 = .ok (.iload 7, 2) := by decide +kernel
theorem dX2_findWeak_52 : decode cX2_findWeak 52 = .ok (.invokestatic 38, 3) := by decide +kernel
theorem dX2_findWeak_55 : decode cX2_findWeak 55 = .ok (.iload 4, 2) := by decide +kernel
theorem dX2_findWeak_57 : decode cX2_findWeak 57 = .ok (.if_icmp .gt 15, 3) := by decide +kernel
theorem dX2_findWeak_60 : decode cX2_findWeak 60 = .ok (.aload_n 0, 1) := by decide +kernel
theorem dX2_findWeak_61 : decode cX2_findWeak 61 = .ok (.iload 7, 2) := by decide +kernel
theorem dX2_findWeak_63 : decode cX2_findWeak 63 = .ok (.aload_n 1, 1) := by decide +kernel
theorem dX2_findWeak_64 : decode cX2_findWeak 64 = .ok (.iload 6, 2) := by decide +kernel
theorem dX2_findWeak_66 : decode cX2_findWeak 66 = .ok (.invokevirtual 56, 3) := by decide +kernel
theorem dX2_findWeak_69 : decode cX2_findWeak 69 = .ok (.invokevirtual 59, 3) := by decide +kernel
theorem dX2_findWeak_72 : decode cX2_findWeak 72 = .ok (.iinc 6 1, 3) := by decide +kernel
theorem dX2_findWeak_75 : decode cX2_findWeak 75 = .ok (.goto (-61), 3) := by decide +kernel
theorem dX2_findWeak_78 : decode cX2_findWeak 78 = .ok (.return_, 1) := by decide +kernel
theorem dX2_addWeak_0 : decode cX2_addWeak 0 = .ok (.aload_n 0, 1) := by decide +kernel
theorem dX2_addWeak_1 : decode cX2_addWeak 1 = .ok (.getfield 49, 3) := by decide +kernel
theorem dX2_addWeak_4 : decode cX2_addWeak 4 = .ok (.ifCond .lt 43, 3) := by decide +kernel
theorem dX2_addWeak_7 : decode cX2_addWeak 7 = .ok (.aload_n 0, 1) := by decide +kernel
theorem dX2_addWeak_8 : decode cX2_addWeak 8 = .ok (.getfield 49, 3) := by decide +kernel
theorem dX2_addWeak_11 : decode cX2_addWeak 11 = .ok (.sipush 256, 3) := by decide +kernel
theorem dX2_addWeak_14 : decode cX2_addWeak 14 = .ok (.if_icmp .ge 33, 3) := by decide +kernel
theorem dX2_addWeak_17 : decode cX2_addWeak 17 = .ok (.aload_n 0, 1) := by decide +kernel
theorem dX2_addWeak_18 : decode cX2_addWeak 18 = .ok (.getfield 11, 3) := by decide +kernel
theorem dX2_addWeak_21 : decode cX2_addWeak 21 = .ok (.aload_n 0, 1) := by decide +kernel
theorem dX2_addWeak_22 : decode cX2_addWeak 22 = .ok (.getfield 49, 3) := by decide +kernel
theorem dX2_addWeak_25 : decode cX2_addWeak 25 = .ok (.iload_n 1, 1) := by decide +kernel
theorem dX2_addWeak_26 : decode cX2_addWeak 26 = .ok (.iastore, 1) := by decide +kernel
theorem dX2_addWeak_27 : decode cX2_addWeak 27 = .ok (.aload_n 0, 1) := by decide +kernel
theorem dX2_addWeak_28 : decode cX2_addWeak 28 = .ok (.getfield 15, 3) := by decide +kernel
theorem dX2_addWeak_31 : decode cX2_addWeak 31 = .ok (.aload_n 0, 1) := by decide +kernel
theorem dX2_addWeak_32 : decode cX2_addWeak 32 = .ok (.getfield 49, 3) := by decide +kernel
theorem dX2_addWeak_35 : decode cX2_addWeak 35 = .ok (.iload_n 2, 1) := by decide +kernel
theorem dX2_addWeak_36 : decode cX2_addWeak 36 = .ok (.iastore, 1) := by decide +kernel
theorem dX2_addWeak_37 : decode cX2_addWeak 37 = .ok (.aload_n 0, 1) := by decide +kernel
theorem dX2_addWeak_38 : decode cX2_addWeak 38 = .ok (.dup, 1) := by decide +kernel
theorem dX2_addWeak_39 : decode cX2_addWeak 39 = .ok (.getfield 49, 3) := by decide +kernel
theorem dX2_addWeak_42 : decode cX2_addWeak 42 = .ok (.iconst 1, 1) := by decide +kernel
theorem dX2_addWeak_43 : decode cX2_addWeak 43 = .ok (.iadd, 1) := by decide +kernel
theorem dX2_addWeak_44 : decode cX2_addWeak 44 = .ok (.putfield 49, 3) := by decide +kernel
theorem dX2_addWeak_47 : decode cX2_addWeak 47 = .ok (.return_, 1) := by decide +kernel
theorem dX2_fewestHems_0 : decode cX2_fewestHems 0 = .ok (.iconst (-1), 1) := by decide +kernel
theorem dX2_fewestHems_1 : decode cX2_fewestHems 1 = .ok (.istore_n 2, 1) := by decide +kernel
theorem dX2_fewestHems_2 : decode cX2_fewestHems 2 = .ok (.iconst 0, 1) := by decide +kernel
theorem dX2_fewestHems_3 : decode cX2_fewestHems 3 = .ok (.istore_n 3, 1) := by decide +kernel
theorem dX2_fewestHems_4 : decode cX2_fewestHems 4 = .ok (.iload_n 3, 1) := by decide +kernel
theorem dX2_fewestHems_5 : decode cX2_fewestHems 5 = .ok (.iload_n 1, 1) := by decide +kernel
theorem dX2_fewestHems_6 : decode cX2_fewestHems 6 = .ok (.if_icmp .gt 55, 3) := by decide +kernel
theorem dX2_fewestHems_9 : decode cX2_fewestHems 9 = .ok (.iload_n 2, 1) := by decide +kernel
theorem dX2_fewestHems_10 : decode cX2_fewestHems 10 = .ok (.iconst (-1), 1) := by decide +kernel
theorem dX2_fewestHems_11 : decode cX2_fewestHems 11 = .ok (.if_icmp .eq 14, 3) := by decide +kernel
theorem dX2_fewestHems_14 : decode cX2_fewestHems 14 = .ok (.iload_n 3, 1) := by decide +kernel
theorem dX2_fewestHems_15 : decode cX2_fewestHems 15 = .ok (.invokestatic 38, 3) := by decide +kernel
theorem dX2_fewestHems_18 : decode cX2_fewestHems 18 = .ok (.iload_n 2, 1) := by decide +kernel
theorem dX2_fewestHems_19 : decode cX2_fewestHems 19 = .ok (.invokestatic 38, 3) := by decide +kernel
theorem dX2_fewestHems_22 : decode cX2_fewestHems 22 = .ok (.if_icmp .ge 7, 3) := by decide +kernel
theorem dX2_fewestHems_25 : decode cX2_fewestHems 25 = .ok (.iconst 1, 1) := by decide +kernel
theorem dX2_fewestHems_26 : decode cX2_fewestHems 26 = .ok (.goto 4, 3) := by decide +kernel
theorem dX2_fewestHems_29 : decode cX2_fewestHems 29 = .ok (.iconst 0, 1) := by decide +kernel
theorem dX2_fewestHems_30 : decode cX2_fewestHems 30 = .ok (.istore 4, 2) := by decide +kernel
theorem dX2_fewestHems_32 : decode cX2_fewestHems 32 = .ok (.iload 4, 2) := by decide +kernel
theorem dX2_fewestHems_34 : decode cX2_fewestHems 34 = .ok (.ifCond .eq 21, 3) := by decide +kernel
theorem dX2_fewestHems_37 : decode cX2_fewestHems 37 = .ok (.iload_n 3, 1) := by decide +kernel
theorem dX2_fewestHems_38 : decode cX2_fewestHems 38 = .ok (.iload_n 1, 1) := by decide +kernel
theorem dX2_fewestHems_39 : decode cX2_fewestHems 39 = .ok (.iconst (-1), 1) := by decide +kernel
theorem dX2_fewestHems_40 : decode cX2_fewestHems 40 = .ok (.ixor, 1) := by decide +kernel
theorem dX2_fewestHems_41 : decode cX2_fewestHems 41 = .ok (.iand, 1) := by decide +kernel
theorem dX2_fewestHems_42 : decode cX2_fewestHems 42 = .ok (.ifCond .ne 13, 3) := by decide +kernel
theorem dX2_fewestHems_45 : decode cX2_fewestHems 45 = .ok (.aload_n 0, 1) := by decide +kernel
theorem dX2_fewestHems_46 : decode cX2_fewestHems 46 = .ok (.iload_n 3, 1) := by decide +kernel
theorem dX2_fewestHems_47 : decode cX2_fewestHems 47 = .ok (.invokevirtual 63, 3) := by decide +kernel
theorem dX2_fewestHems_50 : decode cX2_fewestHems 50 = .ok (.ifCond .eq 5, 3) := by decide +kernel
theorem dX2_fewestHems_53 : decode cX2_fewestHems 53 = .ok (.iload_n 3, 1) := by decide +kernel
theorem dX2_fewestHems_54 : decode cX2_fewestHems 54 = .ok (.istore_n 2, 1) := by decide +kernel
theorem dX2_fewestHems_55 : decode cX2_fewestHems 55 = .ok (.iinc 3 1, 3) := by decide +kernel
theorem dX2_fewestHems_58 : decode cX2_fewestHems 58 = .ok (.goto (-54), 3) := by decide +kernel
theorem dX2_fewestHems_61 : decode cX2_fewestHems 61 = .ok (.iload_n 2, 1) := by decide +kernel
theorem dX2_fewestHems_62 : decode cX2_fewestHems 62 = .ok (.ireturn, 1) := by decide +kernel
theorem dX2_isHeld_0 : decode cX2_isHeld 0 = .ok (.iconst 0, 1) := by decide +kernel
theorem dX2_isHeld_1 : decode cX2_isHeld 1 = .ok (.istore_n 2, 1) := by decide +kernel
theorem dX2_isHeld_2 : decode cX2_isHeld 2 = .ok (.iload_n 2, 1) := by decide +kernel
theorem dX2_isHeld_3 : decode cX2_isHeld 3 = .ok (.aload_n 0, 1) := by decide +kernel
theorem dX2_isHeld_4 : decode cX2_isHeld 4 = .ok (.getfield 49, 3) := by decide +kernel
theorem dX2_isHeld_7 : decode cX2_isHeld 7 = .ok (.if_icmp .ge 29, 3) := by decide +kernel
theorem dX2_isHeld_10 : decode cX2_isHeld 10 = .ok (.iload_n 2, 1) := by decide +kernel
theorem dX2_isHeld_11 : decode cX2_isHeld 11 = .ok (.sipush 256, 3) := by decide +kernel
theorem dX2_isHeld_14 : decode cX2_isHeld 14 = .ok (.if_icmp .ge 22, 3) := by decide +kernel
theorem dX2_isHeld_17 : decode cX2_isHeld 17 = .ok (.aload_n 0, 1) := by decide +kernel
theorem dX2_isHeld_18 : decode cX2_isHeld 18 = .ok (.getfield 11, 3) := by decide +kernel
theorem dX2_isHeld_21 : decode cX2_isHeld 21 = .ok (.iload_n 2, 1) := by decide +kernel
theorem dX2_isHeld_22 : decode cX2_isHeld 22 = .ok (.iaload, 1) := by decide +kernel
theorem dX2_isHeld_23 : decode cX2_isHeld 23 = .ok (.iload_n 1, 1) := by decide +kernel
theorem dX2_isHeld_24 : decode cX2_isHeld 24 = .ok (.iand, 1) := by decide +kernel
theorem dX2_isHeld_25 : decode cX2_isHeld 25 = .ok (.ifCond .ne 5, 3) := by decide +kernel
theorem dX2_isHeld_28 : decode cX2_isHeld 28 = .ok (.iconst 0, 1) := by decide +kernel
theorem dX2_isHeld_29 : decode cX2_isHeld 29 = .ok (.ireturn, 1) := by decide +kernel
theorem dX2_isHeld_30 : decode cX2_isHeld 30 = .ok (.iinc 2 1, 3) := by decide +kernel
theorem dX2_isHeld_33 : decode cX2_isHeld 33 = .ok (.goto (-31), 3) := by decide +kernel
theorem dX2_isHeld_36 : decode cX2_isHeld 36 = .ok (.iconst 1, 1) := by decide +kernel
theorem dX2_isHeld_37 : decode cX2_isHeld 37 = .ok (.ireturn, 1) := by decide +kernel
theorem dX2_leastThread_0 : decode cX2_leastThread 0 = .ok (.iconst (-1), 1) := by decide +kernel
theorem dX2_leastThread_1 : decode cX2_leastThread 1 = .ok (.istore_n 3, 1) := by decide +kernel
theorem dX2_leastThread_2 : decode cX2_leastThread 2 = .ok (.iconst 0, 1) := by decide +kernel
theorem dX2_leastThread_3 : decode cX2_leastThread 3 = .ok (.istore 4, 2) := by decide +kernel
theorem dX2_leastThread_5 : decode cX2_leastThread 5 = .ok (.iconst 0, 1) := by decide +kernel
theorem dX2_leastThread_6 : decode cX2_leastThread 6 = .ok (.istore 5, 2) := by decide +kernel
theorem dX2_leastThread_8 : decode cX2_leastThread 8 = .ok (.iload 5, 2) := by decide +kernel
theorem dX2_leastThread_10 : decode cX2_leastThread 10 = .ok (.iconst 1, 1) := by decide +kernel
theorem dX2_leastThread_11 : decode cX2_leastThread 11 = .ok (.aload_n 1, 1) := by decide +kernel
theorem dX2_leastThread_12 : decode cX2_leastThread 12 = .ok (.getfield 67, 3) := by decide +kernel
theorem dX2_leastThread_15 : decode cX2_leastThread 15 = .ok (.ishl, 1) := by decide +kernel
theorem dX2_leastThread_16 : decode cX2_leastThread 16 = .ok (.if_icmp .ge 46, 3) := by decide +kernel
theorem dX2_leastThread_19 : decode cX2_leastThread 19 = .ok (.aload_n 1, 1) := by decide +kernel
theorem dX2_leastThread_20 : decode cX2_leastThread 20 = .ok (.iload 5, 2) := by decide +kernel
theorem dX2_leastThread_22 : decode cX2_leastThread 22 = .ok (.invokevirtual 70, 3) := by decide +kernel
theorem dX2_leastThread_25 : decode cX2_leastThread 25 = .ok (.istore 6, 2) := by decide +kernel
theorem dX2_leastThread_27 : decode cX2_leastThread 27 = .ok (.iload_n 3, 1) := by decide +kernel
theorem dX2_leastThread_28 : decode cX2_leastThread 28 = .ok (.iconst (-1), 1) := by decide +kernel
theorem dX2_leastThread_29 : decode cX2_leastThread 29 = .ok (.if_icmp .eq 10, 3) := by decide +kernel
theorem dX2_leastThread_32 : decode cX2_leastThread 32 = .ok (.iload 6, 2) := by decide +kernel
theorem dX2_leastThread_34 : decode cX2_leastThread 34 = .ok (.iload 4, 2) := by decide +kernel
theorem dX2_leastThread_36 : decode cX2_leastThread 36 = .ok (.if_icmp .ge 20, 3) := by decide +kernel
theorem dX2_leastThread_39 : decode cX2_leastThread 39 = .ok (.aload_n 0, 1) := by decide +kernel
theorem dX2_leastThread_40 : decode cX2_leastThread 40 = .ok (.iload 5, 2) := by decide +kernel
theorem dX2_leastThread_42 : decode cX2_leastThread 42 = .ok (.iload_n 2, 1) := by decide +kernel
theorem dX2_leastThread_43 : decode cX2_leastThread 43 = .ok (.invokevirtual 73, 3) := by decide +kernel
theorem dX2_leastThread_46 : decode cX2_leastThread 46 = .ok (.ifCond .eq 10, 3) := by decide +kernel
theorem dX2_leastThread_49 : decode cX2_leastThread 49 = .ok (.iload 5, 2) := by decide +kernel
theorem dX2_leastThread_51 : decode cX2_leastThread 51 = .ok (.istore_n 3, 1) := by decide +kernel
theorem dX2_leastThread_52 : decode cX2_leastThread 52 = .ok (.iload 6, 2) := by decide +kernel
theorem dX2_leastThread_54 : decode cX2_leastThread 54 = .ok (.istore 4, 2) := by decide +kernel
theorem dX2_leastThread_56 : decode cX2_leastThread 56 = .ok (.iinc 5 1, 3) := by decide +kernel
theorem dX2_leastThread_59 : decode cX2_leastThread 59 = .ok (.goto (-51), 3) := by decide +kernel
theorem dX2_leastThread_62 : decode cX2_leastThread 62 = .ok (.iload_n 3, 1) := by decide +kernel
theorem dX2_leastThread_63 : decode cX2_leastThread 63 = .ok (.ireturn, 1) := by decide +kernel
theorem dX2_isMended_0 : decode cX2_isMended 0 = .ok (.iconst 0, 1) := by decide +kernel
theorem dX2_isMended_1 : decode cX2_isMended 1 = .ok (.istore_n 3, 1) := by decide +kernel
theorem dX2_isMended_2 : decode cX2_isMended 2 = .ok (.iload_n 3, 1) := by decide +kernel
theorem dX2_isMended_3 : decode cX2_isMended 3 = .ok (.aload_n 0, 1) := by decide +kernel
theorem dX2_isMended_4 : decode cX2_isMended 4 = .ok (.getfield 49, 3) := by decide +kernel
theorem dX2_isMended_7 : decode cX2_isMended 7 = .ok (.if_icmp .ge 43, 3) := by decide +kernel
theorem dX2_isMended_10 : decode cX2_isMended 10 = .ok (.iload_n 3, 1) := by decide +kernel
theorem dX2_isMended_11 : decode cX2_isMended 11 = .ok (.sipush 256, 3) := by decide +kernel
theorem dX2_isMended_14 : decode cX2_isMended 14 = .ok (.if_icmp .ge 36, 3) := by decide +kernel
theorem dX2_isMended_17 : decode cX2_isMended 17 = .ok (.aload_n 0, 1) := by decide +kernel
theorem dX2_isMended_18 : decode cX2_isMended 18 = .ok (.getfield 11, 3) := by decide +kernel
theorem dX2_isMended_21 : decode cX2_isMended 21 = .ok (.iload_n 3, 1) := by decide +kernel
theorem dX2_isMended_22 : decode cX2_isMended 22 = .ok (.iaload, 1) := by decide +kernel
theorem dX2_isMended_23 : decode cX2_isMended 23 = .ok (.invokestatic 38, 3) := by decide +kernel
theorem dX2_isMended_26 : decode cX2_isMended 26 = .ok (.aload_n 0, 1) := by decide +kernel
theorem dX2_isMended_27 : decode cX2_isMended 27 = .ok (.getfield 15, 3) := by decide +kernel
theorem dX2_isMended_30 : decode cX2_isMended 30 = .ok (.iload_n 3, 1) := by decide +kernel
theorem dX2_isMended_31 : decode cX2_isMended 31 = .ok (.iaload, 1) := by decide +kernel
theorem dX2_isMended_32 : decode cX2_isMended 32 = .ok (.iload_n 1, 1) := by decide +kernel
theorem dX2_isMended_33 : decode cX2_isMended 33 = .ok (.iand, 1) := by decide +kernel
theorem dX2_isMended_34 : decode cX2_isMended 34 = .ok (.invokestatic 38, 3) := by decide +kernel
theorem dX2_isMended_37 : decode cX2_isMended 37 = .ok (.iadd, 1) := by decide +kernel
theorem dX2_isMended_38 : decode cX2_isMended 38 = .ok (.iload_n 2, 1) := by decide +kernel
theorem dX2_isMended_39 : decode cX2_isMended 39 = .ok (.if_icmp .gt 5, 3) := by decide +kernel
theorem dX2_isMended_42 : decode cX2_isMended 42 = .ok (.iconst 0, 1) := by decide +kernel
theorem dX2_isMended_43 : decode cX2_isMended 43 = .ok (.ireturn, 1) := by decide +kernel
theorem dX2_isMended_44 : decode cX2_isMended 44 = .ok (.iinc 3 1, 3) := by decide +kernel
theorem dX2_isMended_47 : decode cX2_isMended 47 = .ok (.goto (-45), 3) := by decide +kernel
theorem dX2_isMended_50 : decode cX2_isMended 50 = .ok (.iconst 1, 1) := by decide +kernel
theorem dX2_isMended_51 : decode cX2_isMended 51 = .ok (.ireturn, 1) := by decide +kernel
theorem dX3_init_0 : decode cX3_init 0 = .ok (.aload_n 0, 1) := by decide +kernel
theorem dX3_init_1 : decode cX3_init 1 = .ok (.invokespecial 3, 3) := by decide +kernel
theorem dX3_init_4 : decode cX3_init 4 = .ok (.aload_n 0, 1) := by decide +kernel
theorem dX3_init_5 : decode cX3_init 5 = .ok (.bipush 8, 2) := by decide +kernel
theorem dX3_init_7 : decode cX3_init 7 = .ok (.newarray .int, 2) := by decide +kernel
theorem dX3_init_9 : decode cX3_init 9 = .ok (.putfield 9, 3) := by decide +kernel
theorem dX3_init_12 : decode cX3_init 12 = .ok (.aload_n 0, 1) := by decide +kernel
theorem dX3_init_13 : decode cX3_init 13 = .ok (.bipush 8, 2) := by decide +kernel
theorem dX3_init_15 : decode cX3_init 15 = .ok (.newarray .int, 2) := by decide +kernel
theorem dX3_init_17 : decode cX3_init 17 = .ok (.putfield 15, 3) := by decide +kernel
theorem dX3_init_20 : decode cX3_init 20 = .ok (.aload_n 0, 1) := by decide +kernel
theorem dX3_init_21 : decode cX3_init 21 = .ok (.bipush 8, 2) := by decide +kernel
theorem dX3_init_23 : decode cX3_init 23 = .ok (.newarray .int, 2) := by decide +kernel
theorem dX3_init_25 : decode cX3_init 25 = .ok (.putfield 18, 3) := by decide +kernel
theorem dX3_init_28 : decode cX3_init 28 = .ok (.aload_n 0, 1) := by decide +kernel
theorem dX3_init_29 : decode cX3_init 29 = .ok (.bipush 8, 2) := by decide +kernel
theorem dX3_init_31 : decode cX3_init 31 = .ok (.newarray .int, 2) := by decide +kernel
theorem dX3_init_33 : decode cX3_init 33 = .ok (.putfield 21, 3) := by decide +kernel
theorem dX3_init_36 : decode cX3_init 36 = .ok (.return_, 1) := by decide +kernel
theorem dX3_look_0 : decode cX3_look 0 = .ok (.iconst 0, 1) := by decide +kernel
theorem dX3_look_1 : decode cX3_look 1 = .ok (.istore_n 3, 1) := by decide +kernel
theorem dX3_look_2 : decode cX3_look 2 = .ok (.iload_n 3, 1) := by decide +kernel
theorem dX3_look_3 : decode cX3_look 3 = .ok (.bipush 8, 2) := by decide +kernel
theorem dX3_look_5 : decode cX3_look 5 = .ok (.if_icmp .ge 21, 3) := by decide +kernel
theorem dX3_look_8 : decode cX3_look 8 = .ok (.aload_n 0, 1) := by decide +kernel
theorem dX3_look_9 : decode cX3_look 9 = .ok (.getfield 15, 3) := by decide +kernel
theorem dX3_look_12 : decode cX3_look 12 = .ok (.iload_n 3, 1) := by decide +kernel
theorem dX3_look_13 : decode cX3_look 13 = .ok (.aload_n 1, 1) := by decide +kernel
theorem dX3_look_14 : decode cX3_look 14 = .ok (.iload_n 3, 1) := by decide +kernel
theorem dX3_look_15 : decode cX3_look 15 = .ok (.iload_n 2, 1) := by decide +kernel
theorem dX3_look_16 : decode cX3_look 16 = .ok (.invokevirtual 24, 3) := by decide +kernel
theorem dX3_look_19 : decode cX3_look 19 = .ok (.iastore, 1) := by decide +kernel
theorem dX3_look_20 : decode cX3_look 20 = .ok (.iinc 3 1, 3) := by decide +kernel
theorem dX3_look_23 : decode cX3_look 23 = .ok (.goto (-21), 3) := by decide +kernel
theorem dX3_look_26 : decode cX3_look 26 = .ok (.return_, 1) := by decide +kernel
theorem dX3_paintAnew_0 : decode cX3_paintAnew 0 = .ok (.aload_n 0, 1) := by decide +kernel
theorem dX3_paintAnew_1 : decode cX3_paintAnew 1 = .ok (.aload_n 1, 1) := by decide +kernel
theorem dX3_paintAnew_2 : decode cX3_paintAnew 2 = .ok (.iload_n 2, 1) := by decide +kernel
theorem dX3_paintAnew_3 : decode cX3_paintAnew 3 = .ok (.invokevirtual 30, 3) := by decide +kernel
theorem dX3_paintAnew_6 : decode cX3_paintAnew 6 = .ok (.aload_n 0, 1) := by decide +kernel
theorem dX3_paintAnew_7 : decode cX3_paintAnew 7 = .ok (.iconst 0, 1) := by decide +kernel
theorem dX3_paintAnew_8 : decode cX3_paintAnew 8 = .ok (.putfield 34, 3) := by decide +kernel
theorem dX3_paintAnew_11 : decode cX3_paintAnew 11 = .ok (.aload_n 0, 1) := by decide +kernel
theorem dX3_paintAnew_12 : decode cX3_paintAnew 12 = .ok (.iconst 0, 1) := by decide +kernel
theorem dX3_paintAnew_13 : decode cX3_paintAnew 13 = .ok (.putfield 38, 3) := by decide +kernel
theorem dX3_paintAnew_16 : decode cX3_paintAnew 16 = .ok (.aload_n 0, 1) := by decide +kernel
theorem dX3_paintAnew_17 : decode cX3_paintAnew 17 = .ok (.aload_n 1, 1) := by decide +kernel
theorem dX3_paintAnew_18 : decode cX3_paintAnew 18 = .ok (.invokevirtual 42, 3) := by decide +kernel
theorem dX3_paintAnew_21 : decode cX3_paintAnew 21 = .ok (.putfield 46, 3) := by decide +kernel
theorem dX3_paintAnew_24 : decode cX3_paintAnew 24 = .ok (.aload_n 0, 1) := by decide +kernel
theorem dX3_paintAnew_25 : decode cX3_paintAnew 25 = .ok (.aload_n 1, 1) := by decide +kernel
theorem dX3_paintAnew_26 : decode cX3_paintAnew 26 = .ok (.iconst 0, 1) := by decide +kernel
theorem dX3_paintAnew_27 : decode cX3_paintAnew 27 = .ok (.iconst 0, 1) := by decide +kernel
theorem dX3_paintAnew_28 : decode cX3_paintAnew 28 = .ok (.invokestatic 48, 3) := by decide +kernel
theorem dX3_paintAnew_31 : decode cX3_paintAnew 31 = .ok (.return_, 1) := by decide +kernel
theorem dX3_paintFrom_0 : decode cX3_paintFrom 0 = .ok (.aload_n 1, 1) := by decide +kernel
theorem dX3_paintFrom_1 : decode cX3_paintFrom 1 = .ok (.getfield 52, 3) := by decide +kernel
theorem dX3_paintFrom_4 : decode cX3_paintFrom 4 = .ok (.iload_n 2, 1) := by decide +kernel
theorem dX3_paintFrom_5 : decode cX3_paintFrom 5 = .ok (.isub, 1) := by decide +kernel
theorem dX3_paintFrom_6 : decode cX3_paintFrom 6 = .ok (.aload_n 0, 1) := by decide +kernel
theorem dX3_paintFrom_7 : decode cX3_paintFrom 7 = .ok (.getfield 46, 3) := by decide +kernel
theorem dX3_paintFrom_10 : decode cX3_paintFrom 10 = .ok (.imul, 1) := by decide +kernel
theorem dX3_paintFrom_11 : decode cX3_paintFrom 11 = .ok (.istore 4, 2) := by decide +kernel
theorem dX3_paintFrom_13 : decode cX3_paintFrom 13 = .ok (.aload_n 0, 1) := by decide +kernel
theorem dX3_paintFrom_14 : decode cX3_paintFrom 14 = .ok (.getfield 34, 3) := by decide +kernel
theorem dX3_paintFrom_17 : decode cX3_paintFrom 17 = .ok (.ifCond .eq 15, 3) := by decide +kernel
theorem dX3_paintFrom_20 : decode cX3_paintFrom 20 = .ok (.iload_n 3, 1) := by decide +kernel
theorem dX3_paintFrom_21 : decode cX3_paintFrom 21 = .ok (.iload 4, 2) := by decide +kernel
theorem dX3_paintFrom_23 : decode cX3_paintFrom 23 = .ok (.iadd, 1) := by decide +kernel
theorem dX3_paintFrom_24 : decode cX3_paintFrom 24 = .ok (.aload_n 0, 1) := by decide +kernel
theorem dX3_paintFrom_25 : decode cX3_paintFrom 25 = .ok (.getfield 38, 3) := by decide +kernel
theorem dX3_paintFrom_28 : decode cX3_paintFrom 28 = .ok (.if_icmp .lt 4, 3) := by decide +kernel
theorem dX3_paintFrom_31 : decode cX3_paintFrom 31 = .ok (.return_, 1) := by decide +kernel
theorem dX3_paintFrom_32 : decode cX3_paintFrom 32 = .ok (.aload_n 1, 1) := by decide +kernel
theorem dX3_paintFrom_33 : decode cX3_paintFrom 33 = .ok (.iload_n 2, 1) := by decide +kernel
theorem dX3_paintFrom_34 : decode cX3_paintFrom 34 = .ok (.invokevirtual 55, 3) := by decide +kernel
theorem dX3_paintFrom_37 : decode cX3_paintFrom 37 = .ok (.ifCond .ne 9, 3) := by decide +kernel
theorem dX3_paintFrom_40 : decode cX3_paintFrom 40 = .ok (.aload_n 0, 1) := by decide +kernel
theorem dX3_paintFrom_41 : decode cX3_paintFrom 41 = .ok (.iload_n 3, 1) := by decide +kernel
theorem dX3_paintFrom_42 : decode cX3_paintFrom 42 = .ok (.invokevirtual 59, 3) := by decide +kernel
theorem dX3_paintFrom_45 : decode cX3_paintFrom 45 = .ok (.return_, 1) := by decide +kernel
theorem dX3_paintFrom_46 : decode cX3_paintFrom 46 = .ok (.aload_n 1, 1) := by decide +kernel
theorem dX3_paintFrom_47 : decode cX3_paintFrom 47 = .ok (.invokevirtual 63, 3) := by decide +kernel
theorem dX3_paintFrom_50 : decode cX3_paintFrom 50 = .ok (.aload_n 0, 1) := by decide +kernel
theorem dX3_paintFrom_51 : decode cX3_paintFrom 51 = .ok (.iload_n 2, 1) := by decide +kernel
theorem dX3_paintFrom_52 : decode cX3_paintFrom 52 = .ok (.invokevirtual 66, 3) := by decide +kernel
theorem dX3_paintFrom_55 : decode cX3_paintFrom 55 = .ok (.iconst (-1), 1) := by decide +kernel
theorem dX3_paintFrom_56 : decode cX3_paintFrom 56 = .ok (.ixor, 1) := by decide +kernel
theorem dX3_paintFrom_57 : decode cX3_paintFrom 57 = .ok (.iand, 1) := by decide +kernel
theorem dX3_paintFrom_58 : decode cX3_paintFrom 58 = .ok (.istore 5, 2) := by decide +kernel
theorem dX3_paintFrom_60 : decode cX3_paintFrom 60 = .ok (.iconst 0, 1) := by decide +kernel
theorem dX3_paintFrom_61 : decode cX3_paintFrom 61 = .ok (.istore 6, 2) := by decide +kernel
theorem dX3_paintFrom_63 : decode cX3_paintFrom 63 = .ok (.iload 6, 2) := by decide +kernel
theorem dX3_paintFrom_65 : decode cX3_paintFrom 65 = .ok (.iconst 4, 1) := by decide +kernel
theorem dX3_paintFrom_66 : decode cX3_paintFrom 66 = .ok (.if_icmp .ge 43, 3) := by decide +kernel
theorem dX3_paintFrom_69 : decode cX3_paintFrom 69 = .ok (.iload 5, 2) := by decide +kernel
theorem dX3_paintFrom_71 : decode cX3_paintFrom 71 = .ok (.iload 6, 2) := by decide +kernel
theorem dX3_paintFrom_73 : decode cX3_paintFrom 73 = .ok (.invokestatic 70, 3) := by decide +kernel
theorem dX3_paintFrom_76 : decode cX3_paintFrom 76 = .ok (.ifCond .eq 27, 3) := by decide +kernel
theorem dX3_paintFrom_79 : decode cX3_paintFrom 79 = .ok (.aload_n 0, 1) := by decide +kernel
theorem dX3_paintFrom_80 : decode cX3_paintFrom 80 = .ok (.getfield 21, 3) := by decide +kernel
theorem dX3_paintFrom_83 : decode cX3_paintFrom 83 = .ok (.iload_n 2, 1) := by decide +kernel
theorem dX3_paintFrom_84 : decode cX3_paintFrom 84 = .ok (.iload 6, 2) := by decide +kernel
theorem dX3_paintFrom_86 : decode cX3_paintFrom 86 = .ok (.iastore, 1) := by decide +kernel
theorem dX3_paintFrom_87 : decode cX3_paintFrom 87 = .ok (.aload_n 0, 1) := by decide +kernel
theorem dX3_paintFrom_88 : decode cX3_paintFrom 88 = .ok (.aload_n 1, 1) := by decide +kernel
theorem dX3_paintFrom_89 : decode cX3_paintFrom 89 = .ok (.iload_n 2, 1) := by decide +kernel
theorem dX3_paintFrom_90 : decode cX3_paintFrom 90 = .ok (.iconst 1, 1) := by decide +kernel
theorem dX3_paintFrom_91 : decode cX3_paintFrom 91 = .ok (.iadd, 1) := by decide +kernel
theorem dX3_paintFrom_92 : decode cX3_paintFrom 92 = .ok (.iload_n 3, 1) := by decide +kernel
theorem dX3_paintFrom_93 : decode cX3_paintFrom 93 = .ok (.aload_n 1, 1) := by decide +kernel
theorem dX3_paintFrom_94 : decode cX3_paintFrom 94 = .ok (.iload 6, 2) := by decide +kernel
theorem dX3_paintFrom_96 : decode cX3_paintFrom 96 = .ok (.invokevirtual 74, 3) := by decide +kernel
theorem dX3_paintFrom_99 : decode cX3_paintFrom 99 = .ok (.iadd, 1) := by decide +kernel
theorem dX3_paintFrom_100 : decode cX3_paintFrom 100 = .ok (.invokestatic 48, 3) := by decide +kernel
theorem dX3_paintFrom_103 : decode cX3_paintFrom 103 = .ok (.iinc 6 1, 3) := by decide +kernel
theorem dX3_paintFrom_106 : decode cX3_paintFrom 106 = .ok (.goto (-43), 3) := by decide +kernel
theorem dX3_paintFrom_109 : decode cX3_paintFrom 109 = .ok (.return_, 1) := by decide +kernel
theorem dX3_take_0 : decode cX3_take 0 = .ok (.aload_n 0, 1) := by decide +kernel
theorem dX3_take_1 : decode cX3_take 1 = .ok (.iconst 1, 1) := by decide +kernel
theorem dX3_take_2 : decode cX3_take 2 = .ok (.putfield 34, 3) := by decide +kernel
theorem dX3_take_5 : decode cX3_take 5 = .ok (.aload_n 0, 1) := by decide +kernel
theorem dX3_take_6 : decode cX3_take 6 = .ok (.iload_n 1, 1) := by decide +kernel
theorem dX3_take_7 : decode cX3_take 7 = .ok (.putfield 38, 3) := by decide +kernel
theorem dX3_take_10 : decode cX3_take 10 = .ok (.aload_n 0, 1) := by decide +kernel
theorem dX3_take_11 : decode cX3_take 11 = .ok (.getfield 21, 3) := by decide +kernel
theorem dX3_take_14 : decode cX3_take 14 = .ok (.iconst 0, 1) := by decide +kernel
theorem dX3_take_15 : decode cX3_take 15 = .ok (.aload_n 0, 1) := by decide +kernel
theorem dX3_take_16 : decode cX3_take 16 = .ok (.getfield 9, 3) := by decide +kernel
theorem dX3_take_19 : decode cX3_take 19 = .ok (.iconst 0, 1) := by decide +kernel
theorem dX3_take_20 : decode cX3_take 20 = .ok (.bipush 8, 2) := by decide +kernel
theorem dX3_take_22 : decode cX3_take 22 = .ok (.invokestatic 77, 3) := by decide +kernel
theorem dX3_take_25 : decode cX3_take 25 = .ok (.return_, 1) := by decide +kernel
theorem dX3_usedNear_0 : decode cX3_usedNear 0 = .ok (.iconst 0, 1) := by decide +kernel
theorem dX3_usedNear_1 : decode cX3_usedNear 1 = .ok (.istore_n 2, 1) := by decide +kernel
theorem dX3_usedNear_2 : decode cX3_usedNear 2 = .ok (.iconst 0, 1) := by decide +kernel
theorem dX3_usedNear_3 : decode cX3_usedNear 3 = .ok (.istore_n 3, 1) := by decide +kernel
theorem dX3_usedNear_4 : decode cX3_usedNear 4 = .ok (.iload_n 3, 1) := by decide +kernel
theorem dX3_usedNear_5 : decode cX3_usedNear 5 = .ok (.iload_n 1, 1) := by decide +kernel
theorem dX3_usedNear_6 : decode cX3_usedNear 6 = .ok (.if_icmp .ge 39, 3) := by decide +kernel
theorem dX3_usedNear_9 : decode cX3_usedNear 9 = .ok (.iload_n 1, 1) := by decide +kernel
theorem dX3_usedNear_10 : decode cX3_usedNear 10 = .ok (.bipush 8, 2) := by decide +kernel
theorem dX3_usedNear_12 : decode cX3_usedNear 12 = .ok (.if_icmp .ge 33, 3) := by decide +kernel
theorem dX3_usedNear_15 : decode cX3_usedNear 15 = .ok (.aload_n 0, 1) := by decide +kernel
theorem dX3_usedNear_16 : decode cX3_usedNear 16 = .ok (.getfield 15, 3) := by decide +kernel
theorem dX3_usedNear_19 : decode cX3_usedNear 19 = .ok (.iload_n 1, 1) := by decide +kernel
theorem dX3_usedNear_20 : decode cX3_usedNear 20 = .ok (.iaload, 1) := by decide +kernel
theorem dX3_usedNear_21 : decode cX3_usedNear 21 = .ok (.iload_n 3, 1) := by decide +kernel
theorem dX3_usedNear_22 : decode cX3_usedNear 22 = .ok (.invokestatic 70, 3) := by decide +kernel
theorem dX3_usedNear_25 : decode cX3_usedNear 25 = .ok (.ifCond .eq 14, 3) := by decide +kernel
theorem dX3_usedNear_28 : decode cX3_usedNear 28 = .ok (.iload_n 2, 1) := by decide +kernel
theorem dX3_usedNear_29 : decode cX3_usedNear 29 = .ok (.iconst 1, 1) := by decide +kernel
theorem dX3_usedNear_30 : decode cX3_usedNear 30 = .ok (.aload_n 0, 1) := by decide +kernel
theorem dX3_usedNear_31 : decode cX3_usedNear 31 = .ok (.getfield 21, 3) := by decide +kernel
theorem dX3_usedNear_34 : decode cX3_usedNear 34 = .ok (.iload_n 3, 1) := by decide +kernel
theorem dX3_usedNear_35 : decode cX3_usedNear 35 = .ok (.iaload, 1) := by decide +kernel
theorem dX3_usedNear_36 : decode cX3_usedNear 36 = .ok (.ishl, 1) := by decide +kernel
theorem dX3_usedNear_37 : decode cX3_usedNear 37 = .ok (.ior, 1) := by decide +kernel
theorem dX3_usedNear_38 : decode cX3_usedNear 38 = .ok (.istore_n 2, 1) := by decide +kernel
theorem dX3_usedNear_39 : decode cX3_usedNear 39 = .ok (.iinc 3 1, 3) := by decide +kernel
theorem dX3_usedNear_42 : decode cX3_usedNear 42 = .ok (.goto (-38), 3) := by decide +kernel
theorem dX3_usedNear_45 : decode cX3_usedNear 45 = .ok (.iload_n 2, 1) := by decide +kernel
theorem dX3_usedNear_46 : decode cX3_usedNear 46 = .ok (.ireturn, 1) := by decide +kernel
theorem dX3_lookBack_0 : decode cX3_lookBack 0 = .ok (.aload_n 0, 1) := by decide +kernel
theorem dX3_lookBack_1 : decode cX3_lookBack 1 = .ok (.aload_n 1, 1) := by decide +kernel
theorem dX3_lookBack_2 : decode cX3_lookBack 2 = .ok (.iload_n 2, 1) := by decide +kernel
theorem dX3_lookBack_3 : decode cX3_lookBack 3 = .ok (.invokevirtual 30, 3) := by decide +kernel
theorem dX3_lookBack_6 : decode cX3_lookBack 6 = .ok (.iconst 0, 1) := by decide +kernel
theorem dX3_lookBack_7 : decode cX3_lookBack 7 = .ok (.istore 4, 2) := by decide +kernel
theorem dX3_lookBack_9 : decode cX3_lookBack 9 = .ok (.iload 4, 2) := by decide +kernel
theorem dX3_lookBack_11 : decode cX3_lookBack 11 = .ok (.bipush 8, 2) := by decide +kernel
theorem dX3_lookBack_13 : decode cX3_lookBack 13 = .ok (.if_icmp .ge 27, 3) := by decide +kernel
theorem dX3_lookBack_16 : decode cX3_lookBack 16 = .ok (.iload 4, 2) := by decide +kernel
theorem dX3_lookBack_18 : decode cX3_lookBack 18 = .ok (.aload_n 3, 1) := by decide +kernel
theorem dX3_lookBack_19 : decode cX3_lookBack 19 = .ok (.arraylength, 1) := by decide +kernel
theorem dX3_lookBack_20 : decode cX3_lookBack 20 = .ok (.if_icmp .ge 20, 3) := by decide +kernel
theorem dX3_lookBack_23 : decode cX3_lookBack 23 = .ok (.aload_n 0, 1) := by decide +kernel
theorem dX3_lookBack_24 : decode cX3_lookBack 24 = .ok (.getfield 18, 3) := by decide +kernel
theorem dX3_lookBack_27 : decode cX3_lookBack 27 = .ok (.iload 4, 2) := by decide +kernel
theorem dX3_lookBack_29 : decode cX3_lookBack 29 = .ok (.aload_n 3, 1) := by decide +kernel
theorem dX3_lookBack_30 : decode cX3_lookBack 30 = .ok (.iload 4, 2) := by decide +kernel
theorem dX3_lookBack_32 : decode cX3_lookBack 32 = .ok (.iaload, 1) := by decide +kernel
theorem dX3_lookBack_33 : decode cX3_lookBack 33 = .ok (.iastore, 1) := by decide +kernel
theorem dX3_lookBack_34 : decode cX3_lookBack 34 = .ok (.iinc 4 1, 3) := by decide +kernel
theorem dX3_lookBack_37 : decode cX3_lookBack 37 = .ok (.goto (-28), 3) := by decide +kernel
theorem dX3_lookBack_40 : decode cX3_lookBack 40 = .ok (.return_, 1) := by decide +kernel
theorem dX3_waysFrom_0 : decode cX3_waysFrom 0 = .ok (.aload_n 1, 1) := by decide +kernel
theorem dX3_waysFrom_1 : decode cX3_waysFrom 1 = .ok (.iload_n 2, 1) := by decide +kernel
theorem dX3_waysFrom_2 : decode cX3_waysFrom 2 = .ok (.invokevirtual 55, 3) := by decide +kernel
theorem dX3_waysFrom_5 : decode cX3_waysFrom 5 = .ok (.ifCond .ne 5, 3) := by decide +kernel
theorem dX3_waysFrom_8 : decode cX3_waysFrom 8 = .ok (.iconst 1, 1) := by decide +kernel
theorem dX3_waysFrom_9 : decode cX3_waysFrom 9 = .ok (.ireturn, 1) := by decide +kernel
theorem dX3_waysFrom_10 : decode cX3_waysFrom 10 = .ok (.aload_n 0, 1) := by decide +kernel
theorem dX3_waysFrom_11 : decode cX3_waysFrom 11 = .ok (.getfield 18, 3) := by decide +kernel
theorem dX3_waysFrom_14 : decode cX3_waysFrom 14 = .ok (.iload_n 2, 1) := by decide +kernel
theorem dX3_waysFrom_15 : decode cX3_waysFrom 15 = .ok (.iaload, 1) := by decide +kernel
theorem dX3_waysFrom_16 : decode cX3_waysFrom 16 = .ok (.aload_n 0, 1) := by decide +kernel
theorem dX3_waysFrom_17 : decode cX3_waysFrom 17 = .ok (.iload_n 2, 1) := by decide +kernel
theorem dX3_waysFrom_18 : decode cX3_waysFrom 18 = .ok (.invokevirtual 66, 3) := by decide +kernel
theorem dX3_waysFrom_21 : decode cX3_waysFrom 21 = .ok (.iconst (-1), 1) := by decide +kernel
theorem dX3_waysFrom_22 : decode cX3_waysFrom 22 = .ok (.ixor, 1) := by decide +kernel
theorem dX3_waysFrom_23 : decode cX3_waysFrom 23 = .ok (.iand, 1) := by decide +kernel
theorem dX3_waysFrom_24 : decode cX3_waysFrom 24 = .ok (.istore_n 3, 1) := by decide +kernel
theorem dX3_waysFrom_25 : decode cX3_waysFrom 25 = .ok (.aload_n 0, 1) := by decide +kernel
theorem dX3_waysFrom_26 : decode cX3_waysFrom 26 = .ok (.getfield 15, 3) := by decide +kernel
theorem dX3_waysFrom_29 : decode cX3_waysFrom 29 = .ok (.iload_n 2, 1) := by decide +kernel
theorem dX3_waysFrom_30 : decode cX3_waysFrom 30 = .ok (.iaload, 1) := by decide +kernel
theorem dX3_waysFrom_31 : decode cX3_waysFrom 31 = .ok (.iload_n 2, 1) := by decide +kernel
theorem dX3_waysFrom_32 : decode cX3_waysFrom 32 = .ok (.ishr, 1) := by decide +kernel
theorem dX3_waysFrom_33 : decode cX3_waysFrom 33 = .ok (.ifCond .ne 25, 3) := by decide +kernel
theorem dX3_waysFrom_36 : decode cX3_waysFrom 36 = .ok (.iload_n 3, 1) := by decide +kernel
theorem dX3_waysFrom_37 : decode cX3_waysFrom 37 = .ok (.ifCond .ne 7, 3) := by decide +kernel
theorem dX3_waysFrom_40 : decode cX3_waysFrom 40 = .ok (.iconst 0, 1) := by decide +kernel
theorem dX3_waysFrom_41 : decode cX3_waysFrom 41 = .ok (.goto 16, 3) := by decide +kernel
theorem dX3_waysFrom_44 : decode cX3_waysFrom 44 = .ok (.iload_n 3, 1) := by decide +kernel
theorem dX3_waysFrom_45 : decode cX3_waysFrom 45 = .ok (.invokestatic 83, 3) := by decide +kernel
theorem dX3_waysFrom_48 : decode cX3_waysFrom 48 = .ok (.aload_n 0, 1) := by decide +kernel
theorem dX3_waysFrom_49 : decode cX3_waysFrom 49 = .ok (.aload_n 1, 1) := by decide +kernel
theorem dX3_waysFrom_50 : decode cX3_waysFrom 50 = .ok (.iload_n 2, 1) := by decide +kernel
theorem dX3_waysFrom_51 : decode cX3_waysFrom 51 = .ok (.iconst 1, 1) := by decide +kernel
theorem dX3_waysFrom_52 : decode cX3_waysFrom 52 = .ok (.iadd, 1) := by decide +kernel
theorem dX3_waysFrom_53 : decode cX3_waysFrom 53 = .ok (.invokestatic 88, 3) := by decide +kernel
theorem dX3_waysFrom_56 : decode cX3_waysFrom 56 = .ok (.imul, 1) := by decide +kernel
theorem dX3_waysFrom_57 : decode cX3_waysFrom 57 = .ok (.ireturn, 1) := by decide +kernel
theorem dX3_waysFrom_58 : decode cX3_waysFrom 58 = .ok (.iconst 0, 1) := by decide +kernel
theorem dX3_waysFrom_59 : decode cX3_waysFrom 59 = .ok (.istore 4, 2) := by decide +kernel
theorem dX3_waysFrom_61 : decode cX3_waysFrom 61 = .ok (.iconst 0, 1) := by decide +kernel
theorem dX3_waysFrom_62 : decode cX3_waysFrom 62 = .ok (.istore 5, 2) := by decide +kernel
theorem dX3_waysFrom_64 : decode cX3_waysFrom 64 = .ok (.iload 5, 2) := by decide +kernel
theorem dX3_waysFrom_66 : decode cX3_waysFrom 66 = .ok (.iconst 4, 1) := by decide +kernel
theorem dX3_waysFrom_67 : decode cX3_waysFrom 67 = .ok (.if_icmp .ge 39, 3) := by decide +kernel
theorem dX3_waysFrom_70 : decode cX3_waysFrom 70 = .ok (.iload_n 3, 1) := by decide +kernel
theorem dX3_waysFrom_71 : decode cX3_waysFrom 71 = .ok (.iload 5, 2) := by decide +kernel
theorem dX3_waysFrom_73 : decode cX3_waysFrom 73 = .ok (.invokestatic 70, 3) := by decide +kernel
theorem dX3_waysFrom_76 : decode cX3_waysFrom 76 = .ok (.ifCond .eq 24, 3) := by decide +kernel
theorem dX3_waysFrom_79 : decode cX3_waysFrom 79 = .ok (.aload_n 0, 1) := by decide +kernel
theorem dX3_waysFrom_80 : decode cX3_waysFrom 80 = .ok (.getfield 21, 3) := by decide +kernel
theorem dX3_waysFrom_83 : decode cX3_waysFrom 83 = .ok (.iload_n 2, 1) := by decide +kernel
theorem dX3_waysFrom_84 : decode cX3_waysFrom 84 = .ok (.iload 5, 2) := by decide +kernel
theorem dX3_waysFrom_86 : decode cX3_waysFrom 86 = .ok (.iastore, 1) := by decide +kernel
theorem dX3_waysFrom_87 : decode cX3_waysFrom 87 = .ok (.iload 4, 2) := by decide +kernel
theorem dX3_waysFrom_89 : decode cX3_waysFrom 89 = .ok (.aload_n 0, 1) := by decide +kernel
theorem dX3_waysFrom_90 : decode cX3_waysFrom 90 = .ok (.aload_n 1, 1) := by decide +kernel
theorem dX3_waysFrom_91 : decode cX3_waysFrom 91 = .ok (.iload_n 2, 1) := by decide +kernel
theorem dX3_waysFrom_92 : decode cX3_waysFrom 92 = .ok (.iconst 1, 1) := by decide +kernel
theorem dX3_waysFrom_93 : decode cX3_waysFrom 93 = .ok (.iadd, 1) := by decide +kernel
theorem dX3_waysFrom_94 : decode cX3_waysFrom 94 = .ok (.invokestatic 88, 3) := by decide +kernel
theorem dX3_waysFrom_97 : decode cX3_waysFrom 97 = .ok (.iadd, 1) := by decide +kernel
theorem dX3_waysFrom_98 : decode cX3_waysFrom 98 = .ok (.istore 4, 2) := by decide +kernel
theorem dX3_waysFrom_100 : decode cX3_waysFrom 100 = .ok (.iinc 5 1, 3) := by decide +kernel
theorem dX3_waysFrom_103 : decode cX3_waysFrom 103 = .ok (.goto (-39), 3) := by decide +kernel
theorem dX3_waysFrom_106 : decode cX3_waysFrom 106 = .ok (.iload 4, 2) := by decide +kernel
theorem dX3_waysFrom_108 : decode cX3_waysFrom 108 = .ok (.ireturn, 1) := by decide +kernel
theorem dX3_ways_0 : decode cX3_ways 0 = .ok (.aload_n 0, 1) := by decide +kernel
theorem dX3_ways_1 : decode cX3_ways 1 = .ok (.aload_n 1, 1) := by decide +kernel
theorem dX3_ways_2 : decode cX3_ways 2 = .ok (.iconst 0, 1) := by decide +kernel
theorem dX3_ways_3 : decode cX3_ways 3 = .ok (.invokestatic 88, 3) := by decide +kernel
theorem dX3_ways_6 : decode cX3_ways 6 = .ok (.ireturn, 1) := by decide +kernel
theorem dX3_onlyColour_0 : decode cX3_onlyColour 0 = .ok (.aload_n 1, 1) := by decide +kernel
theorem dX3_onlyColour_1 : decode cX3_onlyColour 1 = .ok (.iload_n 2, 1) := by decide +kernel
theorem dX3_onlyColour_2 : decode cX3_onlyColour 2 = .ok (.invokevirtual 55, 3) := by decide +kernel
theorem dX3_onlyColour_5 : decode cX3_onlyColour 5 = .ok (.ifCond .ne 5, 3) := by decide +kernel
theorem dX3_onlyColour_8 : decode cX3_onlyColour 8 = .ok (.iconst (-1), 1) := by decide +kernel
theorem dX3_onlyColour_9 : decode cX3_onlyColour 9 = .ok (.ireturn, 1) := by decide +kernel
theorem dX3_onlyColour_10 : decode cX3_onlyColour 10 = .ok (.aload_n 0, 1) := by decide +kernel
theorem dX3_onlyColour_11 : decode cX3_onlyColour 11 = .ok (.getfield 18, 3) := by decide +kernel
theorem dX3_onlyColour_14 : decode cX3_onlyColour 14 = .ok (.iload_n 2, 1) := by decide +kernel
theorem dX3_onlyColour_15 : decode cX3_onlyColour 15 = .ok (.iaload, 1) := by decide +kernel
theorem dX3_onlyColour_16 : decode cX3_onlyColour 16 = .ok (.istore_n 3, 1) := by decide +kernel
theorem dX3_onlyColour_17 : decode cX3_onlyColour 17 = .ok (.iconst (-1), 1) := by decide +kernel
theorem dX3_onlyColour_18 : decode cX3_onlyColour 18 = .ok (.istore 4, 2) := by decide +kernel
theorem dX3_onlyColour_20 : decode cX3_onlyColour 20 = .ok (.iconst 0, 1) := by decide +kernel
theorem dX3_onlyColour_21 : decode cX3_onlyColour 21 = .ok (.istore 5, 2) := by decide +kernel
theorem dX3_onlyColour_23 : decode cX3_onlyColour 23 = .ok (.iload 5, 2) := by decide +kernel
theorem dX3_onlyColour_25 : decode cX3_onlyColour 25 = .ok (.iconst 4, 1) := by decide +kernel
theorem dX3_onlyColour_26 : decode cX3_onlyColour 26 = .ok (.if_icmp .ge 41, 3) := by decide +kernel
theorem dX3_onlyColour_29 : decode cX3_onlyColour 29 = .ok (.aload_n 0, 1) := by decide +kernel
theorem dX3_onlyColour_30 : decode cX3_onlyColour 30 = .ok (.getfield 18, 3) := by decide +kernel
theorem dX3_onlyColour_33 : decode cX3_onlyColour 33 = .ok (.iload_n 2, 1) := by decide +kernel
theorem dX3_onlyColour_34 : decode cX3_onlyColour 34 = .ok (.iload_n 3, 1) := by decide +kernel
theorem dX3_onlyColour_35 : decode cX3_onlyColour 35 = .ok (.iconst 1, 1) := by decide +kernel
theorem dX3_onlyColour_36 : decode cX3_onlyColour 36 = .ok (.iload 5, 2) := by decide +kernel
theorem dX3_onlyColour_38 : decode cX3_onlyColour 38 = .ok (.ishl, 1) := by decide +kernel
theorem dX3_onlyColour_39 : decode cX3_onlyColour 39 = .ok (.iand, 1) := by decide +kernel
theorem dX3_onlyColour_40 : decode cX3_onlyColour 40 = .ok (.iastore, 1) := by decide +kernel
theorem dX3_onlyColour_41 : decode cX3_onlyColour 41 = .ok (.aload_n 0, 1) := by decide +kernel
theorem dX3_onlyColour_42 : decode cX3_onlyColour 42 = .ok (.aload_n 1, 1) := by decide +kernel
theorem dX3_onlyColour_43 : decode cX3_onlyColour 43 = .ok (.invokevirtual 92, 3) := by decide +kernel
theorem dX3_onlyColour_46 : decode cX3_onlyColour 46 = .ok (.ifCond .le 15, 3) := by decide +kernel
theorem dX3_onlyColour_49 : decode cX3_onlyColour 49 = .ok (.iload 4, 2) := by decide +kernel
theorem dX3_onlyColour_51 : decode cX3_onlyColour 51 = .ok (.iconst (-1), 1) := by decide +kernel
theorem dX3_onlyColour_52 : decode cX3_onlyColour 52 = .ok (.if_icmp .eq 5, 3) := by decide +kernel
theorem dX3_onlyColour_55 : decode cX3_onlyColour 55 = .ok (.iconst (-1), 1) := by decide +kernel
theorem dX3_onlyColour_56 : decode cX3_onlyColour 56 = .ok (.ireturn, 1) := by decide +kernel
theorem dX3_onlyColour_57 : decode cX3_onlyColour 57 = .ok (.iload 5, 2) := by decide +kernel
theorem dX3_onlyColour_59 : decode cX3_onlyColour 59 = .ok (.istore 4, 2) := by decide +kernel
theorem dX3_onlyColour_61 : decode cX3_onlyColour 61 = .ok (.iinc 5 1, 3) := by decide +kernel
theorem dX3_onlyColour_64 : decode cX3_onlyColour 64 = .ok (.goto (-41), 3) := by decide +kernel
theorem dX3_onlyColour_67 : decode cX3_onlyColour 67 = .ok (.iload 4, 2) := by decide +kernel
theorem dX3_onlyColour_69 : decode cX3_onlyColour 69 = .ok (.ireturn, 1) := by decide +kernel
theorem dX4_init_0 : decode cX4_init 0 = .ok (.aload_n 0, 1) := by decide +kernel
theorem dX4_init_1 : decode cX4_init 1 = .ok (.invokespecial 3, 3) := by decide +kernel
theorem dX4_init_4 : decode cX4_init 4 = .ok (.aload_n 0, 1) := by decide +kernel
theorem dX4_init_5 : decode cX4_init 5 = .ok (.iconst 4, 1) := by decide +kernel
theorem dX4_init_6 : decode cX4_init 6 = .ok (.newarray .int, 2) := by decide +kernel
theorem dX4_init_8 : decode cX4_init 8 = .ok (.putfield 9, 3) := by decide +kernel
theorem dX4_init_11 : decode cX4_init 11 = .ok (.aload_n 0, 1) := by decide +kernel
theorem dX4_init_12 : decode cX4_init 12 = .ok (.bipush 8, 2) := by decide +kernel
theorem dX4_init_14 : decode cX4_init 14 = .ok (.newarray .int, 2) := by decide +kernel
theorem dX4_init_16 : decode cX4_init 16 = .ok (.putfield 15, 3) := by decide +kernel
theorem dX4_init_19 : decode cX4_init 19 = .ok (.aload_n 0, 1) := by decide +kernel
theorem dX4_init_20 : decode cX4_init 20 = .ok (.bipush 12, 2) := by decide +kernel
theorem dX4_init_22 : decode cX4_init 22 = .ok (.newarray .int, 2) := by decide +kernel
theorem dX4_init_24 : decode cX4_init 24 = .ok (.putfield 18, 3) := by decide +kernel
theorem dX4_init_27 : decode cX4_init 27 = .ok (.aload_n 0, 1) := by decide +kernel
theorem dX4_init_28 : decode cX4_init 28 = .ok (.bipush 12, 2) := by decide +kernel
theorem dX4_init_30 : decode cX4_init 30 = .ok (.newarray .int, 2) := by decide +kernel
theorem dX4_init_32 : decode cX4_init 32 = .ok (.putfield 21, 3) := by decide +kernel
theorem dX4_init_35 : decode cX4_init 35 = .ok (.aload_n 0, 1) := by decide +kernel
theorem dX4_init_36 : decode cX4_init 36 = .ok (.bipush 12, 2) := by decide +kernel
theorem dX4_init_38 : decode cX4_init 38 = .ok (.newarray .int, 2) := by decide +kernel
theorem dX4_init_40 : decode cX4_init 40 = .ok (.putfield 24, 3) := by decide +kernel
theorem dX4_init_43 : decode cX4_init 43 = .ok (.aload_n 0, 1) := by decide +kernel
theorem dX4_init_44 : decode cX4_init 44 = .ok (.bipush 12, 2) := by decide +kernel
theorem dX4_init_46 : decode cX4_init 46 = .ok (.newarray .int, 2) := by decide +kernel
theorem dX4_init_48 : decode cX4_init 48 = .ok (.putfield 27, 3) := by decide +kernel
theorem dX4_init_51 : decode cX4_init 51 = .ok (.aload_n 0, 1) := by decide +kernel
theorem dX4_init_52 : decode cX4_init 52 = .ok (.bipush 8, 2) := by decide +kernel
theorem dX4_init_54 : decode cX4_init 54 = .ok (.newarray .int, 2) := by decide +kernel
theorem dX4_init_56 : decode cX4_init 56 = .ok (.putfield 30, 3) := by decide +kernel
theorem dX4_init_59 : decode cX4_init 59 = .ok (.aload_n 0, 1) := by decide +kernel
theorem dX4_init_60 : decode cX4_init 60 = .ok (.bipush 8, 2) := by decide +kernel
theorem dX4_init_62 : decode cX4_init 62 = .ok (.newarray .int, 2) := by decide +kernel
theorem dX4_init_64 : decode cX4_init 64 = .ok (.putfield 33, 3) := by decide +kernel
theorem dX4_init_67 : decode cX4_init 67 = .ok (.return_, 1) := by decide +kernel
theorem dX4_clear_0 : decode cX4_clear 0 = .ok (.aload_n 0, 1) := by decide +kernel
theorem dX4_clear_1 : decode cX4_clear 1 = .ok (.iconst 0, 1) := by decide +kernel
theorem dX4_clear_2 : decode cX4_clear 2 = .ok (.putfield 36, 3) := by decide +kernel
theorem dX4_clear_5 : decode cX4_clear 5 = .ok (.aload_n 0, 1) := by decide +kernel
theorem dX4_clear_6 : decode cX4_clear 6 = .ok (.iconst 0, 1) := by decide +kernel
theorem dX4_clear_7 : decode cX4_clear 7 = .ok (.putfield 40, 3) := by decide +kernel
theorem dX4_clear_10 : decode cX4_clear 10 = .ok (.aload_n 0, 1) := by decide +kernel
theorem dX4_clear_11 : decode cX4_clear 11 = .ok (.iconst 0, 1) := by decide +kernel
theorem dX4_clear_12 : decode cX4_clear 12 = .ok (.putfield 43, 3) := by decide +kernel
theorem dX4_clear_15 : decode cX4_clear 15 = .ok (.aload_n 0, 1) := by decide +kernel
theorem dX4_clear_16 : decode cX4_clear 16 = .ok (.iconst 0, 1) := by decide +kernel
theorem dX4_clear_17 : decode cX4_clear 17 = .ok (.putfield 46, 3) := by decide +kernel
theorem dX4_clear_20 : decode cX4_clear 20 = .ok (.iconst 0, 1) := by decide +kernel
theorem dX4_clear_21 : decode cX4_clear 21 = .ok (.istore_n 1, 1) := by decide +kernel
theorem dX4_clear_22 : decode cX4_clear 22 = .ok (.iload_n 1, 1) := by decide +kernel
theorem dX4_clear_23 : decode cX4_clear 23 = .ok (.bipush 12, 2) := by decide +kernel
theorem dX4_clear_25 : decode cX4_clear 25 = .ok (.if_icmp .ge 16, 3) := by decide +kernel
theorem dX4_clear_28 : decode cX4_clear 28 = .ok (.aload_n 0, 1) := by decide +kernel
theorem dX4_clear_29 : decode cX4_clear 29 = .ok (.getfield 24, 3) := by decide +kernel
theorem dX4_clear_32 : decode cX4_clear 32 = .ok (.iload_n 1, 1) := by decide +kernel
theorem dX4_clear_33 : decode cX4_clear 33 = .ok (.iconst 0, 1) := by decide +kernel
theorem dX4_clear_34 : decode cX4_clear 34 = .ok (.iastore, 1) := by decide +kernel
theorem dX4_clear_35 : decode cX4_clear 35 = .ok (.iinc 1 1, 3) := by decide +kernel
theorem dX4_clear_38 : decode cX4_clear 38 = .ok (.goto (-16), 3) := by decide +kernel
theorem dX4_clear_41 : decode cX4_clear 41 = .ok (.return_, 1) := by decide +kernel
theorem dX4_addColour_0 : decode cX4_addColour 0 = .ok (.aload_n 0, 1) := by decide +kernel
theorem dX4_addColour_1 : decode cX4_addColour 1 = .ok (.getfield 36, 3) := by decide +kernel
theorem dX4_addColour_4 : decode cX4_addColour 4 = .ok (.ifCond .lt 31, 3) := by decide +kernel
theorem dX4_addColour_7 : decode cX4_addColour 7 = .ok (.aload_n 0, 1) := by decide +kernel
theorem dX4_addColour_8 : decode cX4_addColour 8 = .ok (.getfield 36, 3) := by decide +kernel
theorem dX4_addColour_11 : decode cX4_addColour 11 = .ok (.iconst 4, 1) := by decide +kernel
theorem dX4_addColour_12 : decode cX4_addColour 12 = .ok (.if_icmp .ge 23, 3) := by decide +kernel
theorem dX4_addColour_15 : decode cX4_addColour 15 = .ok (.aload_n 0, 1) := by decide +kernel
theorem dX4_addColour_16 : decode cX4_addColour 16 = .ok (.getfield 9, 3) := by decide +kernel
theorem dX4_addColour_19 : decode cX4_addColour 19 = .ok (.aload_n 0, 1) := by decide +kernel
theorem dX4_addColour_20 : decode cX4_addColour 20 = .ok (.getfield 36, 3) := by decide +kernel
theorem dX4_addColour_23 : decode cX4_addColour 23 = .ok (.iload_n 1, 1) := by decide +kernel
theorem dX4_addColour_24 : decode cX4_addColour 24 = .ok (.iastore, 1) := by decide +kernel
theorem dX4_addColour_25 : decode cX4_addColour 25 = .ok (.aload_n 0, 1) := by decide +kernel
theorem dX4_addColour_26 : decode cX4_addColour 26 = .ok (.dup, 1) := by decide +kernel
theorem dX4_addColour_27 : decode cX4_addColour 27 = .ok (.getfield 36, 3) := by decide +kernel
theorem dX4_addColour_30 : decode cX4_addColour 30 = .ok (.iconst 1, 1) := by decide +kernel
theorem dX4_addColour_31 : decode cX4_addColour 31 = .ok (.iadd, 1) := by decide +kernel
theorem dX4_addColour_32 : decode cX4_addColour 32 = .ok (.putfield 36, 3) := by decide +kernel
theorem dX4_addColour_35 : decode cX4_addColour 35 = .ok (.return_, 1) := by decide +kernel
theorem dX4_addStrip_0 : decode cX4_addStrip 0 = .ok (.aload_n 0, 1) := by decide +kernel
theorem dX4_addStrip_1 : decode cX4_addStrip 1 = .ok (.getfield 40, 3) := by decide +kernel
theorem dX4_addStrip_4 : decode cX4_addStrip 4 = .ok (.ifCond .lt 32, 3) := by decide +kernel
theorem dX4_addStrip_7 : decode cX4_addStrip 7 = .ok (.aload_n 0, 1) := by decide +kernel
theorem dX4_addStrip_8 : decode cX4_addStrip 8 = .ok (.getfield 40, 3) := by decide +kernel
theorem dX4_addStrip_11 : decode cX4_addStrip 11 = .ok (.bipush 8, 2) := by decide +kernel
theorem dX4_addStrip_13 : decode cX4_addStrip 13 = .ok (.if_icmp .ge 23, 3) := by decide +kernel
theorem dX4_addStrip_16 : decode cX4_addStrip 16 = .ok (.aload_n 0, 1) := by decide +kernel
theorem dX4_addStrip_17 : decode cX4_addStrip 17 = .ok (.getfield 15, 3) := by decide +kernel
theorem dX4_addStrip_20 : decode cX4_addStrip 20 = .ok (.aload_n 0, 1) := by decide +kernel
theorem dX4_addStrip_21 : decode cX4_addStrip 21 = .ok (.getfield 40, 3) := by decide +kernel
theorem dX4_addStrip_24 : decode cX4_addStrip 24 = .ok (.iload_n 1, 1) := by decide +kernel
theorem dX4_addStrip_25 : decode cX4_addStrip 25 = .ok (.iastore, 1) := by decide +kernel
theorem dX4_addStrip_26 : decode cX4_addStrip 26 = .ok (.aload_n 0, 1) := by decide +kernel
theorem dX4_addStrip_27 : decode cX4_addStrip 27 = .ok (.dup, 1) := by decide +kernel
theorem dX4_addStrip_28 : decode cX4_addStrip 28 = .ok (.getfield 40, 3) := by decide +kernel
theorem dX4_addStrip_31 : decode cX4_addStrip 31 = .ok (.iconst 1, 1) := by decide +kernel
theorem dX4_addStrip_32 : decode cX4_addStrip 32 = .ok (.iadd, 1) := by decide +kernel
theorem dX4_addStrip_33 : decode cX4_addStrip 33 = .ok (.putfield 40, 3) := by decide +kernel
theorem dX4_addStrip_36 : decode cX4_addStrip 36 = .ok (.return_, 1) := by decide +kernel
theorem dX4_addSeam_0 : decode cX4_addSeam 0 = .ok (.aload_n 0, 1) := by decide +kernel
theorem dX4_addSeam_1 : decode cX4_addSeam 1 = .ok (.getfield 43, 3) := by decide +kernel
theorem dX4_addSeam_4 : decode cX4_addSeam 4 = .ok (.ifCond .lt 79, 3) := by decide +kernel
theorem dX4_addSeam_7 : decode cX4_addSeam 7 = .ok (.aload_n 0, 1) := by decide +kernel
theorem dX4_addSeam_8 : decode cX4_addSeam 8 = .ok (.getfield 43, 3) := by decide +kernel
theorem dX4_addSeam_11 : decode cX4_addSeam 11 = .ok (.bipush 12, 2) := by decide +kernel
theorem dX4_addSeam_13 : decode cX4_addSeam 13 = .ok (.if_icmp .ge 70, 3) := by decide +kernel
theorem dX4_addSeam_16 : decode cX4_addSeam 16 = .ok (.aload_n 0, 1) := by decide +kernel
theorem dX4_addSeam_17 : decode cX4_addSeam 17 = .ok (.getfield 18, 3) := by decide +kernel
theorem dX4_addSeam_20 : decode cX4_addSeam 20 = .ok (.aload_n 0, 1) := by decide +kernel
theorem dX4_addSeam_21 : decode cX4_addSeam 21 = .ok (.getfield 43, 3) := by decide +kernel
theorem dX4_addSeam_24 : decode cX4_addSeam 24 = .ok (.iload_n 1, 1) := by decide +kernel
theorem dX4_addSeam_25 : decode cX4_addSeam 25 = .ok (.iastore, 1) := by decide +kernel
theorem dX4_addSeam_26 : decode cX4_addSeam 26 = .ok (.aload_n 0, 1) := by decide +kernel
theorem dX4_addSeam_27 : decode cX4_addSeam 27 = .ok (.getfield 21, 3) := by decide +kernel
theorem dX4_addSeam_30 : decode cX4_addSeam 30 = .ok (.aload_n 0, 1) := by decide +kernel
theorem dX4_addSeam_31 : decode cX4_addSeam 31 = .ok (.getfield 43, 3) := by decide +kernel
theorem dX4_addSeam_34 : decode cX4_addSeam 34 = .ok (.iload_n 2, 1) := by decide +kernel
theorem dX4_addSeam_35 : decode cX4_addSeam 35 = .ok (.iastore, 1) := by decide +kernel
theorem dX4_addSeam_36 : decode cX4_addSeam 36 = .ok (.aload_n 0, 1) := by decide +kernel
theorem dX4_addSeam_37 : decode cX4_addSeam 37 = .ok (.getfield 27, 3) := by decide +kernel
theorem dX4_addSeam_40 : decode cX4_addSeam 40 = .ok (.aload_n 0, 1) := by decide +kernel
theorem dX4_addSeam_41 : decode cX4_addSeam 41 = .ok (.getfield 43, 3) := by decide +kernel
theorem dX4_addSeam_44 : decode cX4_addSeam 44 = .ok (.iconst 1, 1) := by decide +kernel
theorem dX4_addSeam_45 : decode cX4_addSeam 45 = .ok (.iload_n 1, 1) := by decide +kernel
theorem dX4_addSeam_46 : decode cX4_addSeam 46 = .ok (.ishl, 1) := by decide +kernel
theorem dX4_addSeam_47 : decode cX4_addSeam 47 = .ok (.iload_n 2, 1) := by decide +kernel
theorem dX4_addSeam_48 : decode cX4_addSeam 48 = .ok (.iconst (-1), 1) := by decide +kernel
theorem dX4_addSeam_49 : decode cX4_addSeam 49 = .ok (.if_icmp .ne 9, 3) := by decide +kernel
theorem dX4_addSeam_52 : decode cX4_addSeam 52 = .ok (.sipush 256, 3) := by decide +kernel
theorem dX4_addSeam_55 : decode cX4_addSeam 55 = .ok (.goto 6, 3) := by decide +kernel
theorem dX4_addSeam_58 : decode cX4_addSeam 58 = .ok (.iconst 1, 1) := by decide +kernel
theorem dX4_addSeam_59 : decode cX4_addSeam 59 = .ok (.iload_n 2, 1) := by decide +kernel
theorem dX4_addSeam_60 : decode cX4_addSeam 60 = .ok (.ishl, 1) := by decide +kernel
theorem dX4_addSeam_61 : decode cX4_addSeam 61 = .ok (.ior, 1) := by decide +kernel
theorem dX4_addSeam_62 : decode cX4_addSeam 62 = .ok (.iastore, 1) := by decide +kernel
theorem dX4_addSeam_63 : decode cX4_addSeam 63 = .ok (.aload_n 0, 1) := by decide +kernel
theorem dX4_addSeam_64 : decode cX4_addSeam 64 = .ok (.getfield 24, 3) := by decide +kernel
theorem dX4_addSeam_67 : decode cX4_addSeam 67 = .ok (.aload_n 0, 1) := by decide +kernel
theorem dX4_addSeam_68 : decode cX4_addSeam 68 = .ok (.getfield 43, 3) := by decide +kernel
theorem dX4_addSeam_71 : decode cX4_addSeam 71 = .ok (.iload_n 3, 1) := by decide +kernel
theorem dX4_addSeam_72 : decode cX4_addSeam 72 = .ok (.iastore, 1) := by decide +kernel
theorem dX4_addSeam_73 : decode cX4_addSeam 73 = .ok (.aload_n 0, 1) := by decide +kernel
theorem dX4_addSeam_74 : decode cX4_addSeam 74 = .ok (.dup, 1) := by decide +kernel
theorem dX4_addSeam_75 : decode cX4_addSeam 75 = .ok (.getfield 43, 3) := by decide +kernel
theorem dX4_addSeam_78 : decode cX4_addSeam 78 = .ok (.iconst 1, 1) := by decide +kernel
theorem dX4_addSeam_79 : decode cX4_addSeam 79 = .ok (.iadd, 1) := by decide +kernel
theorem dX4_addSeam_80 : decode cX4_addSeam 80 = .ok (.putfield 43, 3) := by decide +kernel
theorem dX4_addSeam_83 : decode cX4_addSeam 83 = .ok (.return_, 1) := by decide +kernel
theorem dX4_addCould_0 : decode cX4_addCould 0 = .ok (.aload_n 0, 1) := by decide +kernel
theorem dX4_addCould_1 : decode cX4_addCould 1 = .ok (.getfield 46, 3) := by decide +kernel
theorem dX4_addCould_4 : decode cX4_addCould 4 = .ok (.ifCond .lt 59, 3) := by decide +kernel
theorem dX4_addCould_7 : decode cX4_addCould 7 = .ok (.aload_n 0, 1) := by decide +kernel
theorem dX4_addCould_8 : decode cX4_addCould 8 = .ok (.getfield 46, 3) := by decide +kernel
theorem dX4_addCould_11 : decode cX4_addCould 11 = .ok (.bipush 8, 2) := by decide +kernel
theorem dX4_addCould_13 : decode cX4_addCould 13 = .ok (.if_icmp .ge 50, 3) := by decide +kernel
theorem dX4_addCould_16 : decode cX4_addCould 16 = .ok (.aload_n 0, 1) := by decide +kernel
theorem dX4_addCould_17 : decode cX4_addCould 17 = .ok (.getfield 30, 3) := by decide +kernel
theorem dX4_addCould_20 : decode cX4_addCould 20 = .ok (.aload_n 0, 1) := by decide +kernel
theorem dX4_addCould_21 : decode cX4_addCould 21 = .ok (.getfield 46, 3) := by decide +kernel
theorem dX4_addCould_24 : decode cX4_addCould 24 = .ok (.iconst 1, 1) := by decide +kernel
theorem dX4_addCould_25 : decode cX4_addCould 25 = .ok (.iload_n 1, 1) := by decide +kernel
theorem dX4_addCould_26 : decode cX4_addCould 26 = .ok (.ishl, 1) := by decide +kernel
theorem dX4_addCould_27 : decode cX4_addCould 27 = .ok (.iload_n 2, 1) := by decide +kernel
theorem dX4_addCould_28 : decode cX4_addCould 28 = .ok (.iload_n 1, 1) := by decide +kernel
theorem dX4_addCould_29 : decode cX4_addCould 29 = .ok (.if_icmp .ne 9, 3) := by decide +kernel
theorem dX4_addCould_32 : decode cX4_addCould 32 = .ok (.sipush 256, 3) := by decide +kernel
theorem dX4_addCould_35 : decode cX4_addCould 35 = .ok (.goto 6, 3) := by decide +kernel
theorem dX4_addCould_38 : decode cX4_addCould 38 = .ok (.iconst 1, 1) := by decide +kernel
theorem dX4_addCould_39 : decode cX4_addCould 39 = .ok (.iload_n 2, 1) := by decide +kernel
theorem dX4_addCould_40 : decode cX4_addCould 40 = .ok (.ishl, 1) := by decide +kernel
theorem dX4_addCould_41 : decode cX4_addCould 41 = .ok (.ior, 1) := by decide +kernel
theorem dX4_addCould_42 : decode cX4_addCould 42 = .ok (.iastore, 1) := by decide +kernel
theorem dX4_addCould_43 : decode cX4_addCould 43 = .ok (.aload_n 0, 1) := by decide +kernel
theorem dX4_addCould_44 : decode cX4_addCould 44 = .ok (.getfield 33, 3) := by decide +kernel
theorem dX4_addCould_47 : decode cX4_addCould 47 = .ok (.aload_n 0, 1) := by decide +kernel
theorem dX4_addCould_48 : decode cX4_addCould 48 = .ok (.getfield 46, 3) := by decide +kernel
theorem dX4_addCould_51 : decode cX4_addCould 51 = .ok (.iload_n 3, 1) := by decide +kernel
theorem dX4_addCould_52 : decode cX4_addCould 52 = .ok (.iastore, 1) := by decide +kernel
theorem dX4_addCould_53 : decode cX4_addCould 53 = .ok (.aload_n 0, 1) := by decide +kernel
theorem dX4_addCould_54 : decode cX4_addCould 54 = .ok (.dup, 1) := by decide +kernel
theorem dX4_addCould_55 : decode cX4_addCould 55 = .ok (.getfield 46, 3) := by decide +kernel
theorem dX4_addCould_58 : decode cX4_addCould 58 = .ok (.iconst 1, 1) := by decide +kernel
theorem dX4_addCould_59 : decode cX4_addCould 59 = .ok (.iadd, 1) := by decide +kernel
theorem dX4_addCould_60 : decode cX4_addCould 60 = .ok (.putfield 46, 3) := by decide +kernel
theorem dX4_addCould_63 : decode cX4_addCould 63 = .ok (.return_, 1) := by decide +kernel
theorem dX4_hasStrip_0 : decode cX4_hasStrip 0 = .ok (.iload_n 1, 1) := by decide +kernel
theorem dX4_hasStrip_1 : decode cX4_hasStrip 1 = .ok (.ifCond .lt 21, 3) := by decide +kernel
theorem dX4_hasStrip_4 : decode cX4_hasStrip 4 = .ok (.iload_n 1, 1) := by decide +kernel
theorem dX4_hasStrip_5 : decode cX4_hasStrip 5 = .ok (.aload_n 0, 1) := by decide +kernel
theorem dX4_hasStrip_6 : decode cX4_hasStrip 6 = .ok (.getfield 40, 3) := by decide +kernel
theorem dX4_hasStrip_9 : decode cX4_hasStrip 9 = .ok (.if_icmp .ge 13, 3) := by decide +kernel
theorem dX4_hasStrip_12 : decode cX4_hasStrip 12 = .ok (.iload_n 1, 1) := by decide +kernel
theorem dX4_hasStrip_13 : decode cX4_hasStrip 13 = .ok (.bipush 8, 2) := by decide +kernel
theorem dX4_hasStrip_15 : decode cX4_hasStrip 15 = .ok (.if_icmp .ge 7, 3) := by decide +kernel
theorem dX4_hasStrip_18 : decode cX4_hasStrip 18 = .ok (.iconst 1, 1) := by decide +kernel
theorem dX4_hasStrip_19 : decode cX4_hasStrip 19 = .ok (.goto 4, 3) := by decide +kernel
theorem dX4_hasStrip_22 : decode cX4_hasStrip 22 = .ok (.iconst 0, 1) := by decide +kernel
theorem dX4_hasStrip_23 : decode cX4_hasStrip 23 = .ok (.ireturn, 1) := by decide +kernel
theorem dX4_hasSeam_0 : decode cX4_hasSeam 0 = .ok (.iload_n 1, 1) := by decide +kernel
theorem dX4_hasSeam_1 : decode cX4_hasSeam 1 = .ok (.ifCond .lt 21, 3) := by decide +kernel
theorem dX4_hasSeam_4 : decode cX4_hasSeam 4 = .ok (.iload_n 1, 1) := by decide +kernel
theorem dX4_hasSeam_5 : decode cX4_hasSeam 5 = .ok (.aload_n 0, 1) := by decide +kernel
theorem dX4_hasSeam_6 : decode cX4_hasSeam 6 = .ok (.getfield 43, 3) := by decide +kernel
theorem dX4_hasSeam_9 : decode cX4_hasSeam 9 = .ok (.if_icmp .ge 13, 3) := by decide +kernel
theorem dX4_hasSeam_12 : decode cX4_hasSeam 12 = .ok (.iload_n 1, 1) := by decide +kernel
theorem dX4_hasSeam_13 : decode cX4_hasSeam 13 = .ok (.bipush 12, 2) := by decide +kernel
theorem dX4_hasSeam_15 : decode cX4_hasSeam 15 = .ok (.if_icmp .ge 7, 3) := by decide +kernel
theorem dX4_hasSeam_18 : decode cX4_hasSeam 18 = .ok (.iconst 1, 1) := by decide +kernel
theorem dX4_hasSeam_19 : decode cX4_hasSeam 19 = .ok (.goto 4, 3) := by decide +kernel
theorem dX4_hasSeam_22 : decode cX4_hasSeam 22 = .ok (.iconst 0, 1) := by decide +kernel
theorem dX4_hasSeam_23 : decode cX4_hasSeam 23 = .ok (.ireturn, 1) := by decide +kernel
theorem dX4_hasColour_0 : decode cX4_hasColour 0 = .ok (.iload_n 1, 1) := by decide +kernel
theorem dX4_hasColour_1 : decode cX4_hasColour 1 = .ok (.ifCond .lt 20, 3) := by decide +kernel
theorem dX4_hasColour_4 : decode cX4_hasColour 4 = .ok (.iload_n 1, 1) := by decide +kernel
theorem dX4_hasColour_5 : decode cX4_hasColour 5 = .ok (.aload_n 0, 1) := by decide +kernel
theorem dX4_hasColour_6 : decode cX4_hasColour 6 = .ok (.getfield 36, 3) := by decide +kernel
theorem dX4_hasColour_9 : decode cX4_hasColour 9 = .ok (.if_icmp .ge 12, 3) := by decide +kernel
theorem dX4_hasColour_12 : decode cX4_hasColour 12 = .ok (.iload_n 1, 1) := by decide +kernel
theorem dX4_hasColour_13 : decode cX4_hasColour 13 = .ok (.iconst 4, 1) := by decide +kernel
theorem dX4_hasColour_14 : decode cX4_hasColour 14 = .ok (.if_icmp .ge 7, 3) := by decide +kernel
theorem dX4_hasColour_17 : decode cX4_hasColour 17 = .ok (.iconst 1, 1) := by decide +kernel
theorem dX4_hasColour_18 : decode cX4_hasColour 18 = .ok (.goto 4, 3) := by decide +kernel
theorem dX4_hasColour_21 : decode cX4_hasColour 21 = .ok (.iconst 0, 1) := by decide +kernel
theorem dX4_hasColour_22 : decode cX4_hasColour 22 = .ok (.ireturn, 1) := by decide +kernel
theorem dX4_hasStrips_0 : decode cX4_hasStrips 0 = .ok (.iload_n 1, 1) := by decide +kernel
theorem dX4_hasStrips_1 : decode cX4_hasStrips 1 = .ok (.aload_n 0, 1) := by decide +kernel
theorem dX4_hasStrips_2 : decode cX4_hasStrips 2 = .ok (.invokevirtual 49, 3) := by decide +kernel
theorem dX4_hasStrips_5 : decode cX4_hasStrips 5 = .ok (.iconst (-1), 1) := by decide +kernel
theorem dX4_hasStrips_6 : decode cX4_hasStrips 6 = .ok (.ixor, 1) := by decide +kernel
theorem dX4_hasStrips_7 : decode cX4_hasStrips 7 = .ok (.iand, 1) := by decide +kernel
theorem dX4_hasStrips_8 : decode cX4_hasStrips 8 = .ok (.ifCond .ne 7, 3) := by decide +kernel
theorem dX4_hasStrips_11 : decode cX4_hasStrips 11 = .ok (.iconst 1, 1) := by decide +kernel
theorem dX4_hasStrips_12 : decode cX4_hasStrips 12 = .ok (.goto 4, 3) := by decide +kernel
theorem dX4_hasStrips_15 : decode cX4_hasStrips 15 = .ok (.iconst 0, 1) := by decide +kernel
theorem dX4_hasStrips_16 : decode cX4_hasStrips 16 = .ok (.ireturn, 1) := by decide +kernel
theorem dX4_hasColours_0 : decode cX4_hasColours 0 = .ok (.iload_n 1, 1) := by decide +kernel
theorem dX4_hasColours_1 : decode cX4_hasColours 1 = .ok (.aload_n 0, 1) := by decide +kernel
theorem dX4_hasColours_2 : decode cX4_hasColours 2 = .ok (.invokevirtual 53, 3) := by decide +kernel
theorem dX4_hasColours_5 : decode cX4_hasColours 5 = .ok (.iconst (-1), 1) := by decide +kernel
theorem dX4_hasColours_6 : decode cX4_hasColours 6 = .ok (.ixor, 1) := by decide +kernel
theorem dX4_hasColours_7 : decode cX4_hasColours 7 = .ok (.iand, 1) := by decide +kernel
theorem dX4_hasColours_8 : decode cX4_hasColours 8 = .ok (.ifCond .ne 7, 3) := by decide +kernel
theorem dX4_hasColours_11 : decode cX4_hasColours 11 = .ok (.iconst 1, 1) := by decide +kernel
theorem dX4_hasColours_12 : decode cX4_hasColours 12 = .ok (.goto 4, 3) := by decide +kernel
theorem dX4_hasColours_15 : decode cX4_hasColours 15 = .ok (.iconst 0, 1) := by decide +kernel
theorem dX4_hasColours_16 : decode cX4_hasColours 16 = .ok (.ireturn, 1) := by decide +kernel
theorem dX4_allStrips_0 : decode cX4_allStrips 0 = .ok (.iconst 1, 1) := by decide +kernel
theorem dX4_allStrips_1 : decode cX4_allStrips 1 = .ok (.aload_n 0, 1) := by decide +kernel
theorem dX4_allStrips_2 : decode cX4_allStrips 2 = .ok (.getfield 40, 3) := by decide +kernel
theorem dX4_allStrips_5 : decode cX4_allStrips 5 = .ok (.ishl, 1) := by decide +kernel
theorem dX4_allStrips_6 : decode cX4_allStrips 6 = .ok (.iconst 1, 1) := by decide +kernel
theorem dX4_allStrips_7 : decode cX4_allStrips 7 = .ok (.isub, 1) := by decide +kernel
theorem dX4_allStrips_8 : decode cX4_allStrips 8 = .ok (.ireturn, 1) := by decide +kernel
theorem dX4_allColours_0 : decode cX4_allColours 0 = .ok (.iconst 1, 1) := by decide +kernel
theorem dX4_allColours_1 : decode cX4_allColours 1 = .ok (.aload_n 0, 1) := by decide +kernel
theorem dX4_allColours_2 : decode cX4_allColours 2 = .ok (.getfield 36, 3) := by decide +kernel
theorem dX4_allColours_5 : decode cX4_allColours 5 = .ok (.ishl, 1) := by decide +kernel
theorem dX4_allColours_6 : decode cX4_allColours 6 = .ok (.iconst 1, 1) := by decide +kernel
theorem dX4_allColours_7 : decode cX4_allColours 7 = .ok (.isub, 1) := by decide +kernel
theorem dX4_allColours_8 : decode cX4_allColours 8 = .ok (.ireturn, 1) := by decide +kernel
theorem dX4_priceOf_0 : decode cX4_priceOf 0 = .ok (.aload_n 0, 1) := by decide +kernel
theorem dX4_priceOf_1 : decode cX4_priceOf 1 = .ok (.iload_n 1, 1) := by decide +kernel
theorem dX4_priceOf_2 : decode cX4_priceOf 2 = .ok (.invokevirtual 56, 3) := by decide +kernel
theorem dX4_priceOf_5 : decode cX4_priceOf 5 = .ok (.ifCond .eq 12, 3) := by decide +kernel
theorem dX4_priceOf_8 : decode cX4_priceOf 8 = .ok (.aload_n 0, 1) := by decide +kernel
theorem dX4_priceOf_9 : decode cX4_priceOf 9 = .ok (.getfield 9, 3) := by decide +kernel
theorem dX4_priceOf_12 : decode cX4_priceOf 12 = .ok (.iload_n 1, 1) := by decide +kernel
theorem dX4_priceOf_13 : decode cX4_priceOf 13 = .ok (.iaload, 1) := by decide +kernel
theorem dX4_priceOf_14 : decode cX4_priceOf 14 = .ok (.goto 4, 3) := by decide +kernel
theorem dX4_priceOf_17 : decode cX4_priceOf 17 = .ok (.iconst 0, 1) := by decide +kernel
theorem dX4_priceOf_18 : decode cX4_priceOf 18 = .ok (.ireturn, 1) := by decide +kernel
theorem dX4_cheapest_0 : decode cX4_cheapest 0 = .ok (.bipush 99, 2) := by decide +kernel
theorem dX4_cheapest_2 : decode cX4_cheapest 2 = .ok (.istore_n 1, 1) := by decide +kernel
theorem dX4_cheapest_3 : decode cX4_cheapest 3 = .ok (.iconst 0, 1) := by decide +kernel
theorem dX4_cheapest_4 : decode cX4_cheapest 4 = .ok (.istore_n 2, 1) := by decide +kernel
theorem dX4_cheapest_5 : decode cX4_cheapest 5 = .ok (.iload_n 2, 1) := by decide +kernel
theorem dX4_cheapest_6 : decode cX4_cheapest 6 = .ok (.aload_n 0, 1) := by decide +kernel
theorem dX4_cheapest_7 : decode cX4_cheapest 7 = .ok (.getfield 36, 3) := by decide +kernel
theorem dX4_cheapest_10 : decode cX4_cheapest 10 = .ok (.if_icmp .ge 25, 3) := by decide +kernel
theorem dX4_cheapest_13 : decode cX4_cheapest 13 = .ok (.iload_n 2, 1) := by decide +kernel
theorem dX4_cheapest_14 : decode cX4_cheapest 14 = .ok (.iconst 4, 1) := by decide +kernel
theorem dX4_cheapest_15 : decode cX4_cheapest 15 = .ok (.if_icmp .ge 20, 3) := by decide +kernel
theorem dX4_cheapest_18 : decode cX4_cheapest 18 = .ok (.iload_n 1, 1) := by decide +kernel
theorem dX4_cheapest_19 : decode cX4_cheapest 19 = .ok (.aload_n 0, 1) := by decide +kernel
theorem dX4_cheapest_20 : decode cX4_cheapest 20 = .ok (.getfield 9, 3) := by decide +kernel
theorem dX4_cheapest_23 : decode cX4_cheapest 23 = .ok (.iload_n 2, 1) := by decide +kernel
theorem dX4_cheapest_24 : decode cX4_cheapest 24 = .ok (.iaload, 1) := by decide +kernel
theorem dX4_cheapest_25 : decode cX4_cheapest 25 = .ok (.invokestatic 60, 3) := by decide +kernel
theorem dX4_cheapest_28 : decode cX4_cheapest 28 = .ok (.istore_n 1, 1) := by decide +kernel
theorem dX4_cheapest_29 : decode cX4_cheapest 29 = .ok (.iinc 2 1, 3) := by decide +kernel
theorem dX4_cheapest_32 : decode cX4_cheapest 32 = .ok (.goto (-27), 3) := by decide +kernel
theorem dX4_cheapest_35 : decode cX4_cheapest 35 = .ok (.iload_n 1, 1) := by decide +kernel
theorem dX4_cheapest_36 : decode cX4_cheapest 36 = .ok (.ireturn, 1) := by decide +kernel
theorem dX4_threadOf_0 : decode cX4_threadOf 0 = .ok (.iconst 0, 1) := by decide +kernel
theorem dX4_threadOf_1 : decode cX4_threadOf 1 = .ok (.istore_n 2, 1) := by decide +kernel
theorem dX4_threadOf_2 : decode cX4_threadOf 2 = .ok (.iconst 0, 1) := by decide +kernel
theorem dX4_threadOf_3 : decode cX4_threadOf 3 = .ok (.istore_n 3, 1) := by decide +kernel
theorem dX4_threadOf_4 : decode cX4_threadOf 4 = .ok (.iload_n 3, 1) := by decide +kernel
theorem dX4_threadOf_5 : decode cX4_threadOf 5 = .ok (.bipush 8, 2) := by decide +kernel
theorem dX4_threadOf_7 : decode cX4_threadOf 7 = .ok (.if_icmp .ge 26, 3) := by decide +kernel
theorem dX4_threadOf_10 : decode cX4_threadOf 10 = .ok (.iload_n 1, 1) := by decide +kernel
theorem dX4_threadOf_11 : decode cX4_threadOf 11 = .ok (.iload_n 3, 1) := by decide +kernel
theorem dX4_threadOf_12 : decode cX4_threadOf 12 = .ok (.invokestatic 66, 3) := by decide +kernel
theorem dX4_threadOf_15 : decode cX4_threadOf 15 = .ok (.ifCond .eq 12, 3) := by decide +kernel
theorem dX4_threadOf_18 : decode cX4_threadOf 18 = .ok (.iload_n 2, 1) := by decide +kernel
theorem dX4_threadOf_19 : decode cX4_threadOf 19 = .ok (.aload_n 0, 1) := by decide +kernel
theorem dX4_threadOf_20 : decode cX4_threadOf 20 = .ok (.getfield 33, 3) := by decide +kernel
theorem dX4_threadOf_23 : decode cX4_threadOf 23 = .ok (.iload_n 3, 1) := by decide +kernel
theorem dX4_threadOf_24 : decode cX4_threadOf 24 = .ok (.iaload, 1) := by decide +kernel
theorem dX4_threadOf_25 : decode cX4_threadOf 25 = .ok (.iadd, 1) := by decide +kernel
theorem dX4_threadOf_26 : decode cX4_threadOf 26 = .ok (.istore_n 2, 1) := by decide +kernel
theorem dX4_threadOf_27 : decode cX4_threadOf 27 = .ok (.iinc 3 1, 3) := by decide +kernel
theorem dX4_threadOf_30 : decode cX4_threadOf 30 = .ok (.goto (-26), 3) := by decide +kernel
theorem dX4_threadOf_33 : decode cX4_threadOf 33 = .ok (.iload_n 2, 1) := by decide +kernel
theorem dX4_threadOf_34 : decode cX4_threadOf 34 = .ok (.ireturn, 1) := by decide +kernel
theorem dX4_crossing_0 : decode cX4_crossing 0 = .ok (.iconst 0, 1) := by decide +kernel
theorem dX4_crossing_1 : decode cX4_crossing 1 = .ok (.istore_n 3, 1) := by decide +kernel
theorem dX4_crossing_2 : decode cX4_crossing 2 = .ok (.iconst 0, 1) := by decide +kernel
theorem dX4_crossing_3 : decode cX4_crossing 3 = .ok (.istore 4, 2) := by decide +kernel
theorem dX4_crossing_5 : decode cX4_crossing 5 = .ok (.iload 4, 2) := by decide +kernel
theorem dX4_crossing_7 : decode cX4_crossing 7 = .ok (.bipush 12, 2) := by decide +kernel
theorem dX4_crossing_9 : decode cX4_crossing 9 = .ok (.if_icmp .ge 51, 3) := by decide +kernel
theorem dX4_crossing_12 : decode cX4_crossing 12 = .ok (.iload_n 2, 1) := by decide +kernel
theorem dX4_crossing_13 : decode cX4_crossing 13 = .ok (.iload 4, 2) := by decide +kernel
theorem dX4_crossing_15 : decode cX4_crossing 15 = .ok (.invokestatic 66, 3) := by decide +kernel
theorem dX4_crossing_18 : decode cX4_crossing 18 = .ok (.ifCond .eq 36, 3) := by decide +kernel
theorem dX4_crossing_21 : decode cX4_crossing 21 = .ok (.aload_n 0, 1) := by decide +kernel
theorem dX4_crossing_22 : decode cX4_crossing 22 = .ok (.getfield 27, 3) := by decide +kernel
theorem dX4_crossing_25 : decode cX4_crossing 25 = .ok (.iload 4, 2) := by decide +kernel
theorem dX4_crossing_27 : decode cX4_crossing 27 = .ok (.iaload, 1) := by decide +kernel
theorem dX4_crossing_28 : decode cX4_crossing 28 = .ok (.iload_n 1, 1) := by decide +kernel
theorem dX4_crossing_29 : decode cX4_crossing 29 = .ok (.iand, 1) := by decide +kernel
theorem dX4_crossing_30 : decode cX4_crossing 30 = .ok (.ifCond .eq 24, 3) := by decide +kernel
theorem dX4_crossing_33 : decode cX4_crossing 33 = .ok (.aload_n 0, 1) := by decide +kernel
theorem dX4_crossing_34 : decode cX4_crossing 34 = .ok (.getfield 27, 3) := by decide +kernel
theorem dX4_crossing_37 : decode cX4_crossing 37 = .ok (.iload 4, 2) := by decide +kernel
theorem dX4_crossing_39 : decode cX4_crossing 39 = .ok (.iaload, 1) := by decide +kernel
theorem dX4_crossing_40 : decode cX4_crossing 40 = .ok (.iload_n 1, 1) := by decide +kernel
theorem dX4_crossing_41 : decode cX4_crossing 41 = .ok (.iconst (-1), 1) := by decide +kernel
theorem dX4_crossing_42 : decode cX4_crossing 42 = .ok (.ixor, 1) := by decide +kernel
theorem dX4_crossing_43 : decode cX4_crossing 43 = .ok (.iand, 1) := by decide +kernel
theorem dX4_crossing_44 : decode cX4_crossing 44 = .ok (.ifCond .eq 10, 3) := by decide +kernel
theorem dX4_crossing_47 : decode cX4_crossing 47 = .ok (.iload_n 3, 1) := by decide +kernel
theorem dX4_crossing_48 : decode cX4_crossing 48 = .ok (.iconst 1, 1) := by decide +kernel
theorem dX4_crossing_49 : decode cX4_crossing 49 = .ok (.iload 4, 2) := by decide +kernel
theorem dX4_crossing_51 : decode cX4_crossing 51 = .ok (.ishl, 1) := by decide +kernel
theorem dX4_crossing_52 : decode cX4_crossing 52 = .ok (.ior, 1) := by decide +kernel
theorem dX4_crossing_53 : decode cX4_crossing 53 = .ok (.istore_n 3, 1) := by decide +kernel
theorem dX4_crossing_54 : decode cX4_crossing 54 = .ok (.iinc 4 1, 3) := by decide +kernel
theorem dX4_crossing_57 : decode cX4_crossing 57 = .ok (.goto (-52), 3) := by decide +kernel
theorem dX4_crossing_60 : decode cX4_crossing 60 = .ok (.iload_n 3, 1) := by decide +kernel
theorem dX4_crossing_61 : decode cX4_crossing 61 = .ok (.ireturn, 1) := by decide +kernel
theorem dX4_couldsCrossing_0 : decode cX4_couldsCrossing 0 = .ok (.iconst 0, 1) := by decide +kernel
theorem dX4_couldsCrossing_1 : decode cX4_couldsCrossing 1 = .ok (.istore_n 2, 1) := by decide +kernel
theorem dX4_couldsCrossing_2 : decode cX4_couldsCrossing 2 = .ok (.iconst 0, 1) := by decide +kernel
theorem dX4_couldsCrossing_3 : decode cX4_couldsCrossing 3 = .ok (.istore_n 3, 1) := by decide +kernel
theorem dX4_couldsCrossing_4 : decode cX4_couldsCrossing 4 = .ok (.iload_n 3, 1) := by decide +kernel
theorem dX4_couldsCrossing_5 : decode cX4_couldsCrossing 5 = .ok (.aload_n 0, 1) := by decide +kernel
theorem dX4_couldsCrossing_6 : decode cX4_couldsCrossing 6 = .ok (.getfield 46, 3) := by decide +kernel
theorem dX4_couldsCrossing_9 : decode cX4_couldsCrossing 9 = .ok (.if_icmp .ge 45, 3) := by decide +kernel
theorem dX4_couldsCrossing_12 : decode cX4_couldsCrossing 12 = .ok (.iload_n 3, 1) := by decide +kernel
theorem dX4_couldsCrossing_13 : decode cX4_couldsCrossing 13 = .ok (.bipush 8, 2) := by decide +kernel
theorem dX4_couldsCrossing_15 : decode cX4_couldsCrossing 15 = .ok (.if_icmp .ge 39, 3) := by decide +kernel
theorem dX4_couldsCrossing_18 : decode cX4_couldsCrossing 18 = .ok (.aload_n 0, 1) := by decide +kernel
theorem dX4_couldsCrossing_19 : decode cX4_couldsCrossing 19 = .ok (.getfield 30, 3) := by decide +kernel
theorem dX4_couldsCrossing_22 : decode cX4_couldsCrossing 22 = .ok (.iload_n 3, 1) := by decide +kernel
theorem dX4_couldsCrossing_23 : decode cX4_couldsCrossing 23 = .ok (.iaload, 1) := by decide +kernel
theorem dX4_couldsCrossing_24 : decode cX4_couldsCrossing 24 = .ok (.iload_n 1, 1) := by decide +kernel
theorem dX4_couldsCrossing_25 : decode cX4_couldsCrossing 25 = .ok (.iand, 1) := by decide +kernel
theorem dX4_couldsCrossing_26 : decode cX4_couldsCrossing 26 = .ok (.ifCond .eq 22, 3) := by decide +kernel
theorem dX4_couldsCrossing_29 : decode cX4_couldsCrossing 29 = .ok (.aload_n 0, 1) := by decide +kernel
theorem dX4_couldsCrossing_30 : decode cX4_couldsCrossing 30 = .ok (.getfield 30, 3) := by decide +kernel
theorem dX4_couldsCrossing_33 : decode cX4_couldsCrossing 33 = .ok (.iload_n 3, 1) := by decide +kernel
theorem dX4_couldsCrossing_34 : decode cX4_couldsCrossing 34 = .ok (.iaload, 1) := by decide +kernel
theorem dX4_couldsCrossing_35 : decode cX4_couldsCrossing 35 = .ok (.iload_n 1, 1) := by decide +kernel
theorem dX4_couldsCrossing_36 : decode cX4_couldsCrossing 36 = .ok (.iconst (-1), 1) := by decide +kernel
theorem dX4_couldsCrossing_37 : decode cX4_couldsCrossing 37 = .ok (.ixor, 1) := by decide +kernel
theorem dX4_couldsCrossing_38 : decode cX4_couldsCrossing 38 = .ok (.iand, 1) := by decide +kernel
theorem dX4_couldsCrossing_39 : decode cX4_couldsCrossing 39 = .ok (.ifCond .eq 9, 3) := by decide +kernel
theorem dX4_couldsCrossing_42 : decode cX4_couldsCrossing 42 = .ok (.iload_n 2, 1) := by decide +kernel
theorem dX4_couldsCrossing_43 : decode cX4_couldsCrossing 43 = .ok (.iconst 1, 1) := by decide +kernel
theorem dX4_couldsCrossing_44 : decode cX4_couldsCrossing 44 = .ok (.iload_n 3, 1) := by decide +kernel
theorem dX4_couldsCrossing_45 : decode cX4_couldsCrossing 45 = .ok (.ishl, 1) := by decide +kernel
theorem dX4_couldsCrossing_46 : decode cX4_couldsCrossing 46 = .ok (.ior, 1) := by decide +kernel
theorem dX4_couldsCrossing_47 : decode cX4_couldsCrossing 47 = .ok (.istore_n 2, 1) := by decide +kernel
theorem dX4_couldsCrossing_48 : decode cX4_couldsCrossing 48 = .ok (.iinc 3 1, 3) := by decide +kernel
theorem dX4_couldsCrossing_51 : decode cX4_couldsCrossing 51 = .ok (.goto (-47), 3) := by decide +kernel
theorem dX4_couldsCrossing_54 : decode cX4_couldsCrossing 54 = .ok (.iload_n 2, 1) := by decide +kernel
theorem dX4_couldsCrossing_55 : decode cX4_couldsCrossing 55 = .ok (.ireturn, 1) := by decide +kernel
theorem dX4_seamsOf_0 : decode cX4_seamsOf 0 = .ok (.aload_n 0, 1) := by decide +kernel
theorem dX4_seamsOf_1 : decode cX4_seamsOf 1 = .ok (.iconst 1, 1) := by decide +kernel
theorem dX4_seamsOf_2 : decode cX4_seamsOf 2 = .ok (.iload_n 1, 1) := by decide +kernel
theorem dX4_seamsOf_3 : decode cX4_seamsOf 3 = .ok (.ishl, 1) := by decide +kernel
theorem dX4_seamsOf_4 : decode cX4_seamsOf 4 = .ok (.iload_n 2, 1) := by decide +kernel
theorem dX4_seamsOf_5 : decode cX4_seamsOf 5 = .ok (.invokevirtual 70, 3) := by decide +kernel
theorem dX4_seamsOf_8 : decode cX4_seamsOf 8 = .ok (.ireturn, 1) := by decide +kernel
theorem dX4_bordering_0 : decode cX4_bordering 0 = .ok (.iconst 0, 1) := by decide +kernel
theorem dX4_bordering_1 : decode cX4_bordering 1 = .ok (.istore_n 3, 1) := by decide +kernel
theorem dX4_bordering_2 : decode cX4_bordering 2 = .ok (.iconst 0, 1) := by decide +kernel
theorem dX4_bordering_3 : decode cX4_bordering 3 = .ok (.istore 4, 2) := by decide +kernel
theorem dX4_bordering_5 : decode cX4_bordering 5 = .ok (.iload 4, 2) := by decide +kernel
theorem dX4_bordering_7 : decode cX4_bordering 7 = .ok (.bipush 12, 2) := by decide +kernel
theorem dX4_bordering_9 : decode cX4_bordering 9 = .ok (.if_icmp .ge 42, 3) := by decide +kernel
theorem dX4_bordering_12 : decode cX4_bordering 12 = .ok (.iload_n 2, 1) := by decide +kernel
theorem dX4_bordering_13 : decode cX4_bordering 13 = .ok (.iload 4, 2) := by decide +kernel
theorem dX4_bordering_15 : decode cX4_bordering 15 = .ok (.invokestatic 66, 3) := by decide +kernel
theorem dX4_bordering_18 : decode cX4_bordering 18 = .ok (.ifCond .eq 27, 3) := by decide +kernel
theorem dX4_bordering_21 : decode cX4_bordering 21 = .ok (.aload_n 0, 1) := by decide +kernel
theorem dX4_bordering_22 : decode cX4_bordering 22 = .ok (.getfield 27, 3) := by decide +kernel
theorem dX4_bordering_25 : decode cX4_bordering 25 = .ok (.iload 4, 2) := by decide +kernel
theorem dX4_bordering_27 : decode cX4_bordering 27 = .ok (.iaload, 1) := by decide +kernel
theorem dX4_bordering_28 : decode cX4_bordering 28 = .ok (.iload_n 1, 1) := by decide +kernel
theorem dX4_bordering_29 : decode cX4_bordering 29 = .ok (.invokestatic 66, 3) := by decide +kernel
theorem dX4_bordering_32 : decode cX4_bordering 32 = .ok (.ifCond .eq 13, 3) := by decide +kernel
theorem dX4_bordering_35 : decode cX4_bordering 35 = .ok (.iload_n 3, 1) := by decide +kernel
theorem dX4_bordering_36 : decode cX4_bordering 36 = .ok (.aload_n 0, 1) := by decide +kernel
theorem dX4_bordering_37 : decode cX4_bordering 37 = .ok (.getfield 27, 3) := by decide +kernel
theorem dX4_bordering_40 : decode cX4_bordering 40 = .ok (.iload 4, 2) := by decide +kernel
theorem dX4_bordering_42 : decode cX4_bordering 42 = .ok (.iaload, 1) := by decide +kernel
theorem dX4_bordering_43 : decode cX4_bordering 43 = .ok (.ior, 1) := by decide +kernel
theorem dX4_bordering_44 : decode cX4_bordering 44 = .ok (.istore_n 3, 1) := by decide +kernel
theorem dX4_bordering_45 : decode cX4_bordering 45 = .ok (.iinc 4 1, 3) := by decide +kernel
theorem dX4_bordering_48 : decode cX4_bordering 48 = .ok (.goto (-43), 3) := by decide +kernel
theorem dX4_bordering_51 : decode cX4_bordering 51 = .ok (.iload_n 3, 1) := by decide +kernel
theorem dX4_bordering_52 : decode cX4_bordering 52 = .ok (.sipush (-257), 3) := by decide +kernel
theorem dX4_bordering_55 : decode cX4_bordering 55 = .ok (.iand, 1) := by decide +kernel
theorem dX4_bordering_56 : decode cX4_bordering 56 = .ok (.iconst 1, 1) := by decide +kernel
theorem dX4_bordering_57 : decode cX4_bordering 57 = .ok (.iload_n 1, 1) := by decide +kernel
theorem dX4_bordering_58 : decode cX4_bordering 58 = .ok (.ishl, 1) := by decide +kernel
theorem dX4_bordering_59 : decode cX4_bordering 59 = .ok (.iconst (-1), 1) := by decide +kernel
theorem dX4_bordering_60 : decode cX4_bordering 60 = .ok (.ixor, 1) := by decide +kernel
theorem dX4_bordering_61 : decode cX4_bordering 61 = .ok (.iand, 1) := by decide +kernel
theorem dX4_bordering_62 : decode cX4_bordering 62 = .ok (.ireturn, 1) := by decide +kernel
theorem dX4_unpickable_0 : decode cX4_unpickable 0 = .ok (.aload_n 0, 1) := by decide +kernel
theorem dX4_unpickable_1 : decode cX4_unpickable 1 = .ok (.iload_n 1, 1) := by decide +kernel
theorem dX4_unpickable_2 : decode cX4_unpickable 2 = .ok (.iload_n 2, 1) := by decide +kernel
theorem dX4_unpickable_3 : decode cX4_unpickable 3 = .ok (.invokevirtual 73, 3) := by decide +kernel
theorem dX4_unpickable_6 : decode cX4_unpickable 6 = .ok (.istore 4, 2) := by decide +kernel
theorem dX4_unpickable_8 : decode cX4_unpickable 8 = .ok (.iconst 0, 1) := by decide +kernel
theorem dX4_unpickable_9 : decode cX4_unpickable 9 = .ok (.istore 5, 2) := by decide +kernel
theorem dX4_unpickable_11 : decode cX4_unpickable 11 = .ok (.iconst 0, 1) := by decide +kernel
theorem dX4_unpickable_12 : decode cX4_unpickable 12 = .ok (.istore 6, 2) := by decide +kernel
theorem dX4_unpickable_14 : decode cX4_unpickable 14 = .ok (.iload 6, 2) := by decide +kernel
theorem dX4_unpickable_16 : decode cX4_unpickable 16 = .ok (.bipush 12, 2) := by decide +kernel
theorem dX4_unpickable_18 : decode cX4_unpickable 18 = .ok (.if_icmp .ge 58, 3) := by decide +kernel
theorem dX4_unpickable_21 : decode cX4_unpickable 21 = .ok (.iload_n 2, 1) := by decide +kernel
theorem dX4_unpickable_22 : decode cX4_unpickable 22 = .ok (.iload_n 3, 1) := by decide +kernel
theorem dX4_unpickable_23 : decode cX4_unpickable 23 = .ok (.iconst (-1), 1) := by decide +kernel
theorem dX4_unpickable_24 : decode cX4_unpickable 24 = .ok (.ixor, 1) := by decide +kernel
theorem dX4_unpickable_25 : decode cX4_unpickable 25 = .ok (.iand, 1) := by decide +kernel
theorem dX4_unpickable_26 : decode cX4_unpickable 26 = .ok (.iload 6, 2) := by decide +kernel
theorem dX4_unpickable_28 : decode cX4_unpickable 28 = .ok (.invokestatic 66, 3) := by decide +kernel
theorem dX4_unpickable_31 : decode cX4_unpickable 31 = .ok (.ifCond .eq 39, 3) := by decide +kernel
theorem dX4_unpickable_34 : decode cX4_unpickable 34 = .ok (.aload_n 0, 1) := by decide +kernel
theorem dX4_unpickable_35 : decode cX4_unpickable 35 = .ok (.getfield 27, 3) := by decide +kernel
theorem dX4_unpickable_38 : decode cX4_unpickable 38 = .ok (.iload 6, 2) := by decide +kernel
theorem dX4_unpickable_40 : decode cX4_unpickable 40 = .ok (.iaload, 1) := by decide +kernel
theorem dX4_unpickable_41 : decode cX4_unpickable 41 = .ok (.iload_n 1, 1) := by decide +kernel
theorem dX4_unpickable_42 : decode cX4_unpickable 42 = .ok (.invokestatic 66, 3) := by decide +kernel
theorem dX4_unpickable_45 : decode cX4_unpickable 45 = .ok (.ifCond .ne 25, 3) := by decide +kernel
theorem dX4_unpickable_48 : decode cX4_unpickable 48 = .ok (.aload_n 0, 1) := by decide +kernel
theorem dX4_unpickable_49 : decode cX4_unpickable 49 = .ok (.getfield 27, 3) := by decide +kernel
theorem dX4_unpickable_52 : decode cX4_unpickable 52 = .ok (.iload 6, 2) := by decide +kernel
theorem dX4_unpickable_54 : decode cX4_unpickable 54 = .ok (.iaload, 1) := by decide +kernel
theorem dX4_unpickable_55 : decode cX4_unpickable 55 = .ok (.iload 4, 2) := by decide +kernel
theorem dX4_unpickable_57 : decode cX4_unpickable 57 = .ok (.iand, 1) := by decide +kernel
theorem dX4_unpickable_58 : decode cX4_unpickable 58 = .ok (.ifCond .eq 12, 3) := by decide +kernel
theorem dX4_unpickable_61 : decode cX4_unpickable 61 = .ok (.iload 5, 2) := by decide +kernel
theorem dX4_unpickable_63 : decode cX4_unpickable 63 = .ok (.iconst 1, 1) := by decide +kernel
theorem dX4_unpickable_64 : decode cX4_unpickable 64 = .ok (.iload 6, 2) := by decide +kernel
theorem dX4_unpickable_66 : decode cX4_unpickable 66 = .ok (.ishl, 1) := by decide +kernel
theorem dX4_unpickable_67 : decode cX4_unpickable 67 = .ok (.ior, 1) := by decide +kernel
theorem dX4_unpickable_68 : decode cX4_unpickable 68 = .ok (.istore 5, 2) := by decide +kernel
theorem dX4_unpickable_70 : decode cX4_unpickable 70 = .ok (.iinc 6 1, 3) := by decide +kernel
theorem dX4_unpickable_73 : decode cX4_unpickable 73 = .ok (.goto (-59), 3) := by decide +kernel
theorem dX4_unpickable_76 : decode cX4_unpickable 76 = .ok (.iload 5, 2) := by decide +kernel
theorem dX4_unpickable_78 : decode cX4_unpickable 78 = .ok (.ireturn, 1) := by decide +kernel
theorem dX4_flying_0 : decode cX4_flying 0 = .ok (.sipush 256, 3) := by decide +kernel
theorem dX4_flying_3 : decode cX4_flying 3 = .ok (.istore_n 2, 1) := by decide +kernel
theorem dX4_flying_4 : decode cX4_flying 4 = .ok (.iconst 0, 1) := by decide +kernel
theorem dX4_flying_5 : decode cX4_flying 5 = .ok (.istore_n 3, 1) := by decide +kernel
theorem dX4_flying_6 : decode cX4_flying 6 = .ok (.iload_n 3, 1) := by decide +kernel
theorem dX4_flying_7 : decode cX4_flying 7 = .ok (.bipush 8, 2) := by decide +kernel
theorem dX4_flying_9 : decode cX4_flying 9 = .ok (.if_icmp .ge 29, 3) := by decide +kernel
theorem dX4_flying_12 : decode cX4_flying 12 = .ok (.aload_n 0, 1) := by decide +kernel
theorem dX4_flying_13 : decode cX4_flying 13 = .ok (.iload_n 2, 1) := by decide +kernel
theorem dX4_flying_14 : decode cX4_flying 14 = .ok (.iload_n 1, 1) := by decide +kernel
theorem dX4_flying_15 : decode cX4_flying 15 = .ok (.invokevirtual 76, 3) := by decide +kernel
theorem dX4_flying_18 : decode cX4_flying 18 = .ok (.istore 4, 2) := by decide +kernel
theorem dX4_flying_20 : decode cX4_flying 20 = .ok (.iload 4, 2) := by decide +kernel
theorem dX4_flying_22 : decode cX4_flying 22 = .ok (.iload_n 2, 1) := by decide +kernel
theorem dX4_flying_23 : decode cX4_flying 23 = .ok (.if_icmp .ne 6, 3) := by decide +kernel
theorem dX4_flying_26 : decode cX4_flying 26 = .ok (.goto 12, 3) := by decide +kernel
theorem dX4_flying_29 : decode cX4_flying 29 = .ok (.iload 4, 2) := by decide +kernel
theorem dX4_flying_31 : decode cX4_flying 31 = .ok (.istore_n 2, 1) := by decide +kernel
theorem dX4_flying_32 : decode cX4_flying 32 = .ok (.iinc 3 1, 3) := by decide +kernel
theorem dX4_flying_35 : decode cX4_flying 35 = .ok (.goto (-29), 3) := by decide +kernel
theorem dX4_flying_38 : decode cX4_flying 38 = .ok (.iload_n 2, 1) := by decide +kernel
theorem dX4_flying_39 : decode cX4_flying 39 = .ok (.sipush (-257), 3) := by decide +kernel
theorem dX4_flying_42 : decode cX4_flying 42 = .ok (.iand, 1) := by decide +kernel
theorem dX4_flying_43 : decode cX4_flying 43 = .ok (.ireturn, 1) := by decide +kernel
theorem dX4_spread_0 : decode cX4_spread 0 = .ok (.iload_n 1, 1) := by decide +kernel
theorem dX4_spread_1 : decode cX4_spread 1 = .ok (.istore_n 3, 1) := by decide +kernel
theorem dX4_spread_2 : decode cX4_spread 2 = .ok (.iconst 0, 1) := by decide +kernel
theorem dX4_spread_3 : decode cX4_spread 3 = .ok (.istore 4, 2) := by decide +kernel
theorem dX4_spread_5 : decode cX4_spread 5 = .ok (.iload 4, 2) := by decide +kernel
theorem dX4_spread_7 : decode cX4_spread 7 = .ok (.bipush 12, 2) := by decide +kernel
theorem dX4_spread_9 : decode cX4_spread 9 = .ok (.if_icmp .ge 40, 3) := by decide +kernel
theorem dX4_spread_12 : decode cX4_spread 12 = .ok (.iload_n 2, 1) := by decide +kernel
theorem dX4_spread_13 : decode cX4_spread 13 = .ok (.iload 4, 2) := by decide +kernel
theorem dX4_spread_15 : decode cX4_spread 15 = .ok (.invokestatic 66, 3) := by decide +kernel
theorem dX4_spread_18 : decode cX4_spread 18 = .ok (.ifCond .eq 25, 3) := by decide +kernel
theorem dX4_spread_21 : decode cX4_spread 21 = .ok (.aload_n 0, 1) := by decide +kernel
theorem dX4_spread_22 : decode cX4_spread 22 = .ok (.getfield 27, 3) := by decide +kernel
theorem dX4_spread_25 : decode cX4_spread 25 = .ok (.iload 4, 2) := by decide +kernel
theorem dX4_spread_27 : decode cX4_spread 27 = .ok (.iaload, 1) := by decide +kernel
theorem dX4_spread_28 : decode cX4_spread 28 = .ok (.iload_n 3, 1) := by decide +kernel
theorem dX4_spread_29 : decode cX4_spread 29 = .ok (.iand, 1) := by decide +kernel
theorem dX4_spread_30 : decode cX4_spread 30 = .ok (.ifCond .eq 13, 3) := by decide +kernel
theorem dX4_spread_33 : decode cX4_spread 33 = .ok (.iload_n 3, 1) := by decide +kernel
theorem dX4_spread_34 : decode cX4_spread 34 = .ok (.aload_n 0, 1) := by decide +kernel
theorem dX4_spread_35 : decode cX4_spread 35 = .ok (.getfield 27, 3) := by decide +kernel
theorem dX4_spread_38 : decode cX4_spread 38 = .ok (.iload 4, 2) := by decide +kernel
theorem dX4_spread_40 : decode cX4_spread 40 = .ok (.iaload, 1) := by decide +kernel
theorem dX4_spread_41 : decode cX4_spread 41 = .ok (.ior, 1) := by decide +kernel
theorem dX4_spread_42 : decode cX4_spread 42 = .ok (.istore_n 3, 1) := by decide +kernel
theorem dX4_spread_43 : decode cX4_spread 43 = .ok (.iinc 4 1, 3) := by decide +kernel
theorem dX4_spread_46 : decode cX4_spread 46 = .ok (.goto (-41), 3) := by decide +kernel
theorem dX4_spread_49 : decode cX4_spread 49 = .ok (.iload_n 3, 1) := by decide +kernel
theorem dX4_spread_50 : decode cX4_spread 50 = .ok (.ireturn, 1) := by decide +kernel
theorem dX5_init_0 : decode cX5_init 0 = .ok (.aload_n 0, 1) := by decide +kernel
theorem dX5_init_1 : decode cX5_init 1 = .ok (.invokespecial 3, 3) := by decide +kernel
theorem dX5_init_4 : decode cX5_init 4 = .ok (.aload_n 0, 1) := by decide +kernel
theorem dX5_init_5 : decode cX5_init 5 = .ok (.sipush 500, 3) := by decide +kernel
theorem dX5_init_8 : decode cX5_init 8 = .ok (.newarray .byte, 2) := by decide +kernel
theorem dX5_init_10 : decode cX5_init 10 = .ok (.putfield 9, 3) := by decide +kernel
theorem dX5_init_13 : decode cX5_init 13 = .ok (.aload_n 0, 1) := by decide +kernel
theorem dX5_init_14 : decode cX5_init 14 = .ok (.iconst (-1), 1) := by decide +kernel
theorem dX5_init_15 : decode cX5_init 15 = .ok (.putfield 15, 3) := by decide +kernel
theorem dX5_init_18 : decode cX5_init 18 = .ok (.return_, 1) := by decide +kernel
theorem dX5_hasRoom_0 : decode cX5_hasRoom 0 = .ok (.aload_n 0, 1) := by decide +kernel
theorem dX5_hasRoom_1 : decode cX5_hasRoom 1 = .ok (.getfield 19, 3) := by decide +kernel
theorem dX5_hasRoom_4 : decode cX5_hasRoom 4 = .ok (.iload_n 1, 1) := by decide +kernel
theorem dX5_hasRoom_5 : decode cX5_hasRoom 5 = .ok (.iadd, 1) := by decide +kernel
theorem dX5_hasRoom_6 : decode cX5_hasRoom 6 = .ok (.sipush 500, 3) := by decide +kernel
theorem dX5_hasRoom_9 : decode cX5_hasRoom 9 = .ok (.if_icmp .gt 7, 3) := by decide +kernel
theorem dX5_hasRoom_12 : decode cX5_hasRoom 12 = .ok (.iconst 1, 1) := by decide +kernel
theorem dX5_hasRoom_13 : decode cX5_hasRoom 13 = .ok (.goto 4, 3) := by decide +kernel
theorem dX5_hasRoom_16 : decode cX5_hasRoom 16 = .ok (.iconst 0, 1) := by decide +kernel
theorem dX5_hasRoom_17 : decode cX5_hasRoom 17 = .ok (.ireturn, 1) := by decide +kernel
theorem dX5_add_0 : decode cX5_add 0 = .ok (.iload_n 1, 1) := by decide +kernel
theorem dX5_add_1 : decode cX5_add 1 = .ok (.iconst 1, 1) := by decide +kernel
theorem dX5_add_2 : decode cX5_add 2 = .ok (.isub, 1) := by decide +kernel
theorem dX5_add_3 : decode cX5_add 3 = .ok (.istore 4, 2) := by decide +kernel
theorem dX5_add_5 : decode cX5_add 5 = .ok (.iload 4, 2) := by decide +kernel
theorem dX5_add_7 : decode cX5_add 7 = .ok (.ifCond .lt 54, 3) := by decide +kernel
theorem dX5_add_10 : decode cX5_add 10 = .ok (.aload_n 0, 1) := by decide +kernel
theorem dX5_add_11 : decode cX5_add 11 = .ok (.getfield 19, 3) := by decide +kernel
theorem dX5_add_14 : decode cX5_add 14 = .ok (.ifCond .lt 41, 3) := by decide +kernel
theorem dX5_add_17 : decode cX5_add 17 = .ok (.aload_n 0, 1) := by decide +kernel
theorem dX5_add_18 : decode cX5_add 18 = .ok (.getfield 19, 3) := by decide +kernel
theorem dX5_add_21 : decode cX5_add 21 = .ok (.sipush 500, 3) := by decide +kernel
theorem dX5_add_24 : decode cX5_add 24 = .ok (.if_icmp .ge 31, 3) := by decide +kernel
theorem dX5_add_27 : decode cX5_add 27 = .ok (.aload_n 0, 1) := by decide +kernel
theorem dX5_add_28 : decode cX5_add 28 = .ok (.getfield 9, 3) := by decide +kernel
theorem dX5_add_31 : decode cX5_add 31 = .ok (.aload_n 0, 1) := by decide +kernel
theorem dX5_add_32 : decode cX5_add 32 = .ok (.getfield 19, 3) := by decide +kernel
theorem dX5_add_35 : decode cX5_add 35 = .ok (.lload_n 2, 1) := by decide +kernel
theorem dX5_add_36 : decode cX5_add 36 = .ok (.bipush 8, 2) := by decide +kernel
theorem dX5_add_38 : decode cX5_add 38 = .ok (.iload 4, 2) := by decide +kernel
theorem dX5_add_40 : decode cX5_add 40 = .ok (.imul, 1) := by decide +kernel
theorem dX5_add_41 : decode cX5_add 41 = .ok (.lshr, 1) := by decide +kernel
theorem dX5_add_42 : decode cX5_add 42 = .ok (.l2i, 1) := by decide +kernel
theorem dX5_add_43 : decode cX5_add 43 = .ok (.i2b, 1) := by decide +kernel
theorem dX5_add_44 : decode cX5_add 44 = .ok (.bastore, 1) := by decide +kernel
theorem dX5_add_45 : decode cX5_add 45 = .ok (.aload_n 0, 1) := by decide +kernel
theorem dX5_add_46 : decode cX5_add 46 = .ok (.dup, 1) := by decide +kernel
theorem dX5_add_47 : decode cX5_add 47 = .ok (.getfield 19, 3) := by decide +kernel
theorem dX5_add_50 : decode cX5_add 50 = .ok (.iconst 1, 1) := by decide +kernel
theorem dX5_add_51 : decode cX5_add 51 = .ok (.iadd, 1) := by decide +kernel
theorem dX5_add_52 : decode cX5_add 52 = .ok (.putfield 19, 3) := by decide +kernel
theorem dX5_add_55 : decode cX5_add 55 = .ok (.iinc 4 (-1), 3) := by decide +kernel
theorem dX5_add_58 : decode cX5_add 58 = .ok (.goto (-53), 3) := by decide +kernel
theorem dX5_add_61 : decode cX5_add 61 = .ok (.return_, 1) := by decide +kernel
theorem dX5_read_0 : decode cX5_read 0 = .ok (.aload_n 1, 1) := by decide +kernel
theorem dX5_read_1 : decode cX5_read 1 = .ok (.invokevirtual 22, 3) := by decide +kernel
theorem dX5_read_4 : decode cX5_read 4 = .ok (.aload_n 0, 1) := by decide +kernel
theorem dX5_read_5 : decode cX5_read 5 = .ok (.iconst 0, 1) := by decide +kernel
theorem dX5_read_6 : decode cX5_read 6 = .ok (.putfield 27, 3) := by decide +kernel
theorem dX5_read_9 : decode cX5_read 9 = .ok (.aload_n 0, 1) := by decide +kernel
theorem dX5_read_10 : decode cX5_read 10 = .ok (.iconst (-1), 1) := by decide +kernel
theorem dX5_read_11 : decode cX5_read 11 = .ok (.putfield 15, 3) := by decide +kernel
theorem dX5_read_14 : decode cX5_read 14 = .ok (.aload_n 0, 1) := by decide +kernel
theorem dX5_read_15 : decode cX5_read 15 = .ok (.iconst 0, 1) := by decide +kernel
theorem dX5_read_16 : decode cX5_read 16 = .ok (.putfield 30, 3) := by decide +kernel
theorem dX5_read_19 : decode cX5_read 19 = .ok (.iconst 0, 1) := by decide +kernel
theorem dX5_read_20 : decode cX5_read 20 = .ok (.istore_n 2, 1) := by decide +kernel
theorem dX5_read_21 : decode cX5_read 21 = .ok (.iload_n 2, 1) := by decide +kernel
theorem dX5_read_22 : decode cX5_read 22 = .ok (.sipush 500, 3) := by decide +kernel
theorem dX5_read_25 : decode cX5_read 25 = .ok (.if_icmp .gt 36, 3) := by decide +kernel
theorem dX5_read_28 : decode cX5_read 28 = .ok (.aload_n 0, 1) := by decide +kernel
theorem dX5_read_29 : decode cX5_read 29 = .ok (.invokevirtual 33, 3) := by decide +kernel
theorem dX5_read_32 : decode cX5_read 32 = .ok (.aload_n 0, 1) := by decide +kernel
theorem dX5_read_33 : decode cX5_read 33 = .ok (.invokevirtual 36, 3) := by decide +kernel
theorem dX5_read_36 : decode cX5_read 36 = .ok (.iconst (-1), 1) := by decide +kernel
theorem dX5_read_37 : decode cX5_read 37 = .ok (.if_icmp .eq 24, 3) := by decide +kernel
theorem dX5_read_40 : decode cX5_read 40 = .ok (.aload_n 0, 1) := by decide +kernel
theorem dX5_read_41 : decode cX5_read 41 = .ok (.getfield 27, 3) := by decide +kernel
theorem dX5_read_44 : decode cX5_read 44 = .ok (.ifCond .eq 6, 3) := by decide +kernel
theorem dX5_read_47 : decode cX5_read 47 = .ok (.goto 14, 3) := by decide +kernel
theorem dX5_read_50 : decode cX5_read 50 = .ok (.aload_n 0, 1) := by decide +kernel
theorem dX5_read_51 : decode cX5_read 51 = .ok (.aload_n 1, 1) := by decide +kernel
theorem dX5_read_52 : decode cX5_read 52 = .ok (.invokevirtual 40, 3) := by decide +kernel
theorem dX5_read_55 : decode cX5_read 55 = .ok (.iinc 2 1, 3) := by decide +kernel
theorem dX5_read_58 : decode cX5_read 58 = .ok (.goto (-37), 3) := by decide +kernel
theorem dX5_read_61 : decode cX5_read 61 = .ok (.return_, 1) := by decide +kernel
theorem dX5_readClause_0 : decode cX5_readClause 0 = .ok (.aload_n 0, 1) := by decide +kernel
theorem dX5_readClause_1 : decode cX5_readClause 1 = .ok (.getfield 30, 3) := by decide +kernel
theorem dX5_readClause_4 : decode cX5_readClause 4 = .ok (.istore_n 2, 1) := by decide +kernel
theorem dX5_readClause_5 : decode cX5_readClause 5 = .ok (.aload_n 0, 1) := by decide +kernel
theorem dX5_readClause_6 : decode cX5_readClause 6 = .ok (.invokevirtual 44, 3) := by decide +kernel
theorem dX5_readClause_9 : decode cX5_readClause 9 = .ok (.istore_n 3, 1) := by decide +kernel
theorem dX5_readClause_10 : decode cX5_readClause 10 = .ok (.iload_n 3, 1) := by decide +kernel
theorem dX5_readClause_11 : decode cX5_readClause 11 = .ok (.ifCond .eq 15, 3) := by decide +kernel
theorem dX5_readClause_14 : decode cX5_readClause 14 = .ok (.iload_n 3, 1) := by decide +kernel
theorem dX5_readClause_15 : decode cX5_readClause 15 = .ok (.iconst 1, 1) := by decide +kernel
theorem dX5_readClause_16 : decode cX5_readClause 16 = .ok (.if_icmp .eq 19, 3) := by decide +kernel
theorem dX5_readClause_19 : decode cX5_readClause 19 = .ok (.aload_n 1, 1) := by decide +kernel
theorem dX5_readClause_20 : decode cX5_readClause 20 = .ok (.getfield 47, 3) := by decide +kernel
theorem dX5_readClause_23 : decode cX5_readClause 23 = .ok (.ifCond .ne 12, 3) := by decide +kernel
theorem dX5_readClause_26 : decode cX5_readClause 26 = .ok (.aload_n 0, 1) := by decide +kernel
theorem dX5_readClause_27 : decode cX5_readClause 27 = .ok (.iconst 1, 1) := by decide +kernel
theorem dX5_readClause_28 : decode cX5_readClause 28 = .ok (.iload_n 2, 1) := by decide +kernel
theorem dX5_readClause_29 : decode cX5_readClause 29 = .ok (.invokevirtual 50, 3) := by decide +kernel
theorem dX5_readClause_32 : decode cX5_readClause 32 = .ok (.goto 39, 3) := by decide +kernel
theorem dX5_readClause_35 : decode cX5_readClause 35 = .ok (.aload_n 1, 1) := by decide +kernel
theorem dX5_readClause_36 : decode cX5_readClause 36 = .ok (.iload_n 3, 1) := by decide +kernel
theorem dX5_readClause_37 : decode cX5_readClause 37 = .ok (.invokestatic 54, 3) := by decide +kernel
theorem dX5_readClause_40 : decode cX5_readClause 40 = .ok (.ifCond .eq 12, 3) := by decide +kernel
theorem dX5_readClause_43 : decode cX5_readClause 43 = .ok (.aload_n 0, 1) := by decide +kernel
theorem dX5_readClause_44 : decode cX5_readClause 44 = .ok (.iconst 3, 1) := by decide +kernel
theorem dX5_readClause_45 : decode cX5_readClause 45 = .ok (.iload_n 2, 1) := by decide +kernel
theorem dX5_readClause_46 : decode cX5_readClause 46 = .ok (.invokevirtual 50, 3) := by decide +kernel
theorem dX5_readClause_49 : decode cX5_readClause 49 = .ok (.goto 22, 3) := by decide +kernel
theorem dX5_readClause_52 : decode cX5_readClause 52 = .ok (.iload_n 3, 1) := by decide +kernel
theorem dX5_readClause_53 : decode cX5_readClause 53 = .ok (.iconst 1, 1) := by decide +kernel
theorem dX5_readClause_54 : decode cX5_readClause 54 = .ok (.if_icmp .ne 11, 3) := by decide +kernel
theorem dX5_readClause_57 : decode cX5_readClause 57 = .ok (.aload_n 0, 1) := by decide +kernel
theorem dX5_readClause_58 : decode cX5_readClause 58 = .ok (.aload_n 1, 1) := by decide +kernel
theorem dX5_readClause_59 : decode cX5_readClause 59 = .ok (.invokevirtual 58, 3) := by decide +kernel
theorem dX5_readClause_62 : decode cX5_readClause 62 = .ok (.goto 9, 3) := by decide +kernel
theorem dX5_readClause_65 : decode cX5_readClause 65 = .ok (.aload_n 0, 1) := by decide +kernel
theorem dX5_readClause_66 : decode cX5_readClause 66 = .ok (.aload_n 1, 1) := by decide +kernel
theorem dX5_readClause_67 : decode cX5_readClause 67 = .ok (.iload_n 3, 1) := by decide +kernel
theorem dX5_readClause_68 : decode cX5_readClause 68 = .ok (.invokevirtual 61, 3) := by decide +kernel
theorem dX5_readClause_71 : decode cX5_readClause 71 = .ok (.return_, 1) := by decide +kernel
theorem dX5_isTooMany_0 : decode cX5_isTooMany 0 = .ok (.iload_n 1, 1) := by decide +kernel
theorem dX5_isTooMany_1 : decode cX5_isTooMany 1 = .ok (.tableswitch 78 1 5 #[35, 48, 78, 78, 63], 35) := by decide +kernel
theorem dX5_isTooMany_36 : decode cX5_isTooMany 36 = .ok (.aload_n 0, 1) := by decide +kernel
theorem dX5_isTooMany_37 : decode cX5_isTooMany 37 = .ok (.getfield 47, 3) := by decide +kernel
theorem dX5_isTooMany_40 : decode cX5_isTooMany 40 = .ok (.ifCond .le 7, 3) := by decide +kernel
theorem dX5_isTooMany_43 : decode cX5_isTooMany 43 = .ok (.iconst 1, 1) := by decide +kernel
theorem dX5_isTooMany_44 : decode cX5_isTooMany 44 = .ok (.goto 4, 3) := by decide +kernel
theorem dX5_isTooMany_47 : decode cX5_isTooMany 47 = .ok (.iconst 0, 1) := by decide +kernel
theorem dX5_isTooMany_48 : decode cX5_isTooMany 48 = .ok (.ireturn, 1) := by decide +kernel
theorem dX5_isTooMany_49 : decode cX5_isTooMany 49 = .ok (.aload_n 0, 1) := by decide +kernel
theorem dX5_isTooMany_50 : decode cX5_isTooMany 50 = .ok (.getfield 65, 3) := by decide +kernel
theorem dX5_isTooMany_53 : decode cX5_isTooMany 53 = .ok (.bipush 8, 2) := by decide +kernel
theorem dX5_isTooMany_55 : decode cX5_isTooMany 55 = .ok (.if_icmp .lt 7, 3) := by decide +kernel
theorem dX5_isTooMany_58 : decode cX5_isTooMany 58 = .ok (.iconst 1, 1) := by decide +kernel
theorem dX5_isTooMany_59 : decode cX5_isTooMany 59 = .ok (.goto 4, 3) := by decide +kernel
theorem dX5_isTooMany_62 : decode cX5_isTooMany 62 = .ok (.iconst 0, 1) := by decide +kernel
theorem dX5_isTooMany_63 : decode cX5_isTooMany 63 = .ok (.ireturn, 1) := by decide +kernel
theorem dX5_isTooMany_64 : decode cX5_isTooMany 64 = .ok (.aload_n 0, 1) := by decide +kernel
theorem dX5_isTooMany_65 : decode cX5_isTooMany 65 = .ok (.getfield 68, 3) := by decide +kernel
theorem dX5_isTooMany_68 : decode cX5_isTooMany 68 = .ok (.bipush 8, 2) := by decide +kernel
theorem dX5_isTooMany_70 : decode cX5_isTooMany 70 = .ok (.if_icmp .lt 7, 3) := by decide +kernel
theorem dX5_isTooMany_73 : decode cX5_isTooMany 73 = .ok (.iconst 1, 1) := by decide +kernel
theorem dX5_isTooMany_74 : decode cX5_isTooMany 74 = .ok (.goto 4, 3) := by decide +kernel
theorem dX5_isTooMany_77 : decode cX5_isTooMany 77 = .ok (.iconst 0, 1) := by decide +kernel
theorem dX5_isTooMany_78 : decode cX5_isTooMany 78 = .ok (.ireturn, 1) := by decide +kernel
theorem dX5_isTooMany_79 : decode cX5_isTooMany 79 = .ok (.aload_n 0, 1) := by decide +kernel
theorem dX5_isTooMany_80 : decode cX5_isTooMany 80 = .ok (.getfield 71, 3) := by decide +kernel
theorem dX5_isTooMany_83 : decode cX5_isTooMany 83 = .ok (.bipush 12, 2) := by decide +kernel
theorem dX5_isTooMany_85 : decode cX5_isTooMany 85 = .ok (.if_icmp .lt 7, 3) := by decide +kernel
theorem dX5_isTooMany_88 : decode cX5_isTooMany 88 = .ok (.iconst 1, 1) := by decide +kernel
theorem dX5_isTooMany_89 : decode cX5_isTooMany 89 = .ok (.goto 4, 3) := by decide +kernel
theorem dX5_isTooMany_92 : decode cX5_isTooMany 92 = .ok (.iconst 0, 1) := by decide +kernel
theorem dX5_isTooMany_93 : decode cX5_isTooMany 93 = .ok (.ireturn, 1) := by decide +kernel
theorem dX5_readColours_0 : decode cX5_readColours 0 = .ok (.iconst 0, 1) := by decide +kernel
theorem dX5_readColours_1 : decode cX5_readColours 1 = .ok (.istore_n 2, 1) := by decide +kernel
theorem dX5_readColours_2 : decode cX5_readColours 2 = .ok (.iload_n 2, 1) := by decide +kernel
theorem dX5_readColours_3 : decode cX5_readColours 3 = .ok (.iconst 4, 1) := by decide +kernel
theorem dX5_readColours_4 : decode cX5_readColours 4 = .ok (.if_icmp .ge 94, 3) := by decide +kernel
theorem dX5_readColours_7 : decode cX5_readColours 7 = .ok (.aload_n 0, 1) := by decide +kernel
theorem dX5_readColours_8 : decode cX5_readColours 8 = .ok (.iconst 0, 1) := by decide +kernel
theorem dX5_readColours_9 : decode cX5_readColours 9 = .ok (.bipush 99, 2) := by decide +kernel
theorem dX5_readColours_11 : decode cX5_readColours 11 = .ok (.invokevirtual 74, 3) := by decide +kernel
theorem dX5_readColours_14 : decode cX5_readColours 14 = .ok (.istore_n 3, 1) := by decide +kernel
theorem dX5_readColours_15 : decode cX5_readColours 15 = .ok (.aload_n 0, 1) := by decide +kernel
theorem dX5_readColours_16 : decode cX5_readColours 16 = .ok (.invokevirtual 33, 3) := by decide +kernel
theorem dX5_readColours_19 : decode cX5_readColours 19 = .ok (.aload_n 0, 1) := by decide +kernel
theorem dX5_readColours_20 : decode cX5_readColours 20 = .ok (.invokevirtual 36, 3) := by decide +kernel
theorem dX5_readColours_23 : decode cX5_readColours 23 = .ok (.bipush 59, 2) := by decide +kernel
theorem dX5_readColours_25 : decode cX5_readColours 25 = .ok (.if_icmp .ne 7, 3) := by decide +kernel
theorem dX5_readColours_28 : decode cX5_readColours 28 = .ok (.iconst 1, 1) := by decide +kernel
theorem dX5_readColours_29 : decode cX5_readColours 29 = .ok (.goto 4, 3) := by decide +kernel
theorem dX5_readColours_32 : decode cX5_readColours 32 = .ok (.iconst 0, 1) := by decide +kernel
theorem dX5_readColours_33 : decode cX5_readColours 33 = .ok (.istore 4, 2) := by decide +kernel
theorem dX5_readColours_35 : decode cX5_readColours 35 = .ok (.iload 4, 2) := by decide +kernel
theorem dX5_readColours_37 : decode cX5_readColours 37 = .ok (.ifCond .ne 26, 3) := by decide +kernel
theorem dX5_readColours_40 : decode cX5_readColours 40 = .ok (.aload_n 0, 1) := by decide +kernel
theorem dX5_readColours_41 : decode cX5_readColours 41 = .ok (.invokevirtual 36, 3) := by decide +kernel
theorem dX5_readColours_44 : decode cX5_readColours 44 = .ok (.bipush 44, 2) := by decide +kernel
theorem dX5_readColours_46 : decode cX5_readColours 46 = .ok (.if_icmp .ne 8, 3) := by decide +kernel
theorem dX5_readColours_49 : decode cX5_readColours 49 = .ok (.iload_n 2, 1) := by decide +kernel
theorem dX5_readColours_50 : decode cX5_readColours 50 = .ok (.iconst 3, 1) := by decide +kernel
theorem dX5_readColours_51 : decode cX5_readColours 51 = .ok (.if_icmp .ne 12, 3) := by decide +kernel
theorem dX5_readColours_54 : decode cX5_readColours 54 = .ok (.aload_n 0, 1) := by decide +kernel
theorem dX5_readColours_55 : decode cX5_readColours 55 = .ok (.iconst 1, 1) := by decide +kernel
theorem dX5_readColours_56 : decode cX5_readColours 56 = .ok (.aload_n 0, 1) := by decide +kernel
theorem dX5_readColours_57 : decode cX5_readColours 57 = .ok (.getfield 30, 3) := by decide +kernel
theorem dX5_readColours_60 : decode cX5_readColours 60 = .ok (.invokevirtual 50, 3) := by decide +kernel
theorem dX5_readColours_63 : decode cX5_readColours 63 = .ok (.aload_n 0, 1) := by decide +kernel
theorem dX5_readColours_64 : decode cX5_readColours 64 = .ok (.getfield 27, 3) := by decide +kernel
theorem dX5_readColours_67 : decode cX5_readColours 67 = .ok (.ifCond .eq 4, 3) := by decide +kernel
theorem dX5_readColours_70 : decode cX5_readColours 70 = .ok (.return_, 1) := by decide +kernel
theorem dX5_readColours_71 : decode cX5_readColours 71 = .ok (.aload_n 1, 1) := by decide +kernel
theorem dX5_readColours_72 : decode cX5_readColours 72 = .ok (.iload_n 3, 1) := by decide +kernel
theorem dX5_readColours_73 : decode cX5_readColours 73 = .ok (.invokevirtual 78, 3) := by decide +kernel
theorem dX5_readColours_76 : decode cX5_readColours 76 = .ok (.aload_n 0, 1) := by decide +kernel
theorem dX5_readColours_77 : decode cX5_readColours 77 = .ok (.dup, 1) := by decide +kernel
theorem dX5_readColours_78 : decode cX5_readColours 78 = .ok (.getfield 30, 3) := by decide +kernel
theorem dX5_readColours_81 : decode cX5_readColours 81 = .ok (.iconst 1, 1) := by decide +kernel
theorem dX5_readColours_82 : decode cX5_readColours 82 = .ok (.iadd, 1) := by decide +kernel
theorem dX5_readColours_83 : decode cX5_readColours 83 = .ok (.putfield 30, 3) := by decide +kernel
theorem dX5_readColours_86 : decode cX5_readColours 86 = .ok (.iload 4, 2) := by decide +kernel
theorem dX5_readColours_88 : decode cX5_readColours 88 = .ok (.ifCond .eq 4, 3) := by decide +kernel
theorem dX5_readColours_91 : decode cX5_readColours 91 = .ok (.return_, 1) := by decide +kernel
theorem dX5_readColours_92 : decode cX5_readColours 92 = .ok (.iinc 2 1, 3) := by decide +kernel
theorem dX5_readColours_95 : decode cX5_readColours 95 = .ok (.goto (-93), 3) := by decide +kernel
theorem dX5_readColours_98 : decode cX5_readColours 98 = .ok (.return_, 1) := by decide +kernel
theorem dX5_readNumbers_0 : decode cX5_readNumbers 0 = .ok (.aload_n 0, 1) := by decide +kernel
theorem dX5_readNumbers_1 : decode cX5_readNumbers 1 = .ok (.iconst 0, 1) := by decide +kernel
theorem dX5_readNumbers_2 : decode cX5_readNumbers 2 = .ok (.iload_n 2, 1) := by decide +kernel
theorem dX5_readNumbers_3 : decode cX5_readNumbers 3 = .ok (.iconst 2, 1) := by decide +kernel
theorem dX5_readNumbers_4 : decode cX5_readNumbers 4 = .ok (.if_icmp .ne 12, 3) := by decide +kernel
theorem dX5_readNumbers_7 : decode cX5_readNumbers 7 = .ok (.aload_n 1, 1) := by decide +kernel
theorem dX5_readNumbers_8 : decode cX5_readNumbers 8 = .ok (.getfield 47, 3) := by decide +kernel
theorem dX5_readNumbers_11 : decode cX5_readNumbers 11 = .ok (.iconst 1, 1) := by decide +kernel
theorem dX5_readNumbers_12 : decode cX5_readNumbers 12 = .ok (.isub, 1) := by decide +kernel
theorem dX5_readNumbers_13 : decode cX5_readNumbers 13 = .ok (.goto 9, 3) := by decide +kernel
theorem dX5_readNumbers_16 : decode cX5_readNumbers 16 = .ok (.aload_n 1, 1) := by decide +kernel
theorem dX5_readNumbers_17 : decode cX5_readNumbers 17 = .ok (.getfield 65, 3) := by decide +kernel
theorem dX5_readNumbers_20 : decode cX5_readNumbers 20 = .ok (.iconst 1, 1) := by decide +kernel
theorem dX5_readNumbers_21 : decode cX5_readNumbers 21 = .ok (.isub, 1) := by decide +kernel
theorem dX5_readNumbers_22 : decode cX5_readNumbers 22 = .ok (.invokevirtual 74, 3) := by decide +kernel
theorem dX5_readNumbers_25 : decode cX5_readNumbers 25 = .ok (.istore_n 3, 1) := by decide +kernel
theorem dX5_readNumbers_26 : decode cX5_readNumbers 26 = .ok (.iconst (-1), 1) := by decide +kernel
theorem dX5_readNumbers_27 : decode cX5_readNumbers 27 = .ok (.istore 4, 2) := by decide +kernel
theorem dX5_readNumbers_29 : decode cX5_readNumbers 29 = .ok (.iload_n 2, 1) := by decide +kernel
theorem dX5_readNumbers_30 : decode cX5_readNumbers 30 = .ok (.iconst 4, 1) := by decide +kernel
theorem dX5_readNumbers_31 : decode cX5_readNumbers 31 = .ok (.if_icmp .eq 8, 3) := by decide +kernel
theorem dX5_readNumbers_34 : decode cX5_readNumbers 34 = .ok (.iload_n 2, 1) := by decide +kernel
theorem dX5_readNumbers_35 : decode cX5_readNumbers 35 = .ok (.iconst 5, 1) := by decide +kernel
theorem dX5_readNumbers_36 : decode cX5_readNumbers 36 = .ok (.if_icmp .ne 36, 3) := by decide +kernel
theorem dX5_readNumbers_39 : decode cX5_readNumbers 39 = .ok (.aload_n 0, 1) := by decide +kernel
theorem dX5_readNumbers_40 : decode cX5_readNumbers 40 = .ok (.iconst 0, 1) := by decide +kernel
theorem dX5_readNumbers_41 : decode cX5_readNumbers 41 = .ok (.aload_n 1, 1) := by decide +kernel
theorem dX5_readNumbers_42 : decode cX5_readNumbers 42 = .ok (.getfield 65, 3) := by decide +kernel
theorem dX5_readNumbers_45 : decode cX5_readNumbers 45 = .ok (.iconst 1, 1) := by decide +kernel
theorem dX5_readNumbers_46 : decode cX5_readNumbers 46 = .ok (.isub, 1) := by decide +kernel
theorem dX5_readNumbers_47 : decode cX5_readNumbers 47 = .ok (.invokevirtual 74, 3) := by decide +kernel
theorem dX5_readNumbers_50 : decode cX5_readNumbers 50 = .ok (.istore 4, 2) := by decide +kernel
theorem dX5_readNumbers_52 : decode cX5_readNumbers 52 = .ok (.iload_n 2, 1) := by decide +kernel
theorem dX5_readNumbers_53 : decode cX5_readNumbers 53 = .ok (.iconst 4, 1) := by decide +kernel
theorem dX5_readNumbers_54 : decode cX5_readNumbers 54 = .ok (.if_icmp .ne 18, 3) := by decide +kernel
theorem dX5_readNumbers_57 : decode cX5_readNumbers 57 = .ok (.iload_n 3, 1) := by decide +kernel
theorem dX5_readNumbers_58 : decode cX5_readNumbers 58 = .ok (.iload 4, 2) := by decide +kernel
theorem dX5_readNumbers_60 : decode cX5_readNumbers 60 = .ok (.if_icmp .ne 12, 3) := by decide +kernel
theorem dX5_readNumbers_63 : decode cX5_readNumbers 63 = .ok (.aload_n 0, 1) := by decide +kernel
theorem dX5_readNumbers_64 : decode cX5_readNumbers 64 = .ok (.iconst 4, 1) := by decide +kernel
theorem dX5_readNumbers_65 : decode cX5_readNumbers 65 = .ok (.aload_n 0, 1) := by decide +kernel
theorem dX5_readNumbers_66 : decode cX5_readNumbers 66 = .ok (.getfield 82, 3) := by decide +kernel
theorem dX5_readNumbers_69 : decode cX5_readNumbers 69 = .ok (.invokevirtual 50, 3) := by decide +kernel
theorem dX5_readNumbers_72 : decode cX5_readNumbers 72 = .ok (.iconst 0, 1) := by decide +kernel
theorem dX5_readNumbers_73 : decode cX5_readNumbers 73 = .ok (.istore 5, 2) := by decide +kernel
theorem dX5_readNumbers_75 : decode cX5_readNumbers 75 = .ok (.iload_n 2, 1) := by decide +kernel
theorem dX5_readNumbers_76 : decode cX5_readNumbers 76 = .ok (.iconst 5, 1) := by decide +kernel
theorem dX5_readNumbers_77 : decode cX5_readNumbers 77 = .ok (.if_icmp .ne 15, 3) := by decide +kernel
theorem dX5_readNumbers_80 : decode cX5_readNumbers 80 = .ok (.aload_n 0, 1) := by decide +kernel
theorem dX5_readNumbers_81 : decode cX5_readNumbers 81 = .ok (.iconst 0, 1) := by decide +kernel
theorem dX5_readNumbers_82 : decode cX5_readNumbers 82 = .ok (.bipush 99, 2) := by decide +kernel
theorem dX5_readNumbers_84 : decode cX5_readNumbers 84 = .ok (.invokevirtual 74, 3) := by decide +kernel
theorem dX5_readNumbers_87 : decode cX5_readNumbers 87 = .ok (.istore 5, 2) := by decide +kernel
theorem dX5_readNumbers_89 : decode cX5_readNumbers 89 = .ok (.goto 17, 3) := by decide +kernel
theorem dX5_readNumbers_92 : decode cX5_readNumbers 92 = .ok (.iload_n 2, 1) := by decide +kernel
theorem dX5_readNumbers_93 : decode cX5_readNumbers 93 = .ok (.iconst 2, 1) := by decide +kernel
theorem dX5_readNumbers_94 : decode cX5_readNumbers 94 = .ok (.if_icmp .eq 12, 3) := by decide +kernel
theorem dX5_readNumbers_97 : decode cX5_readNumbers 97 = .ok (.aload_n 0, 1) := by decide +kernel
theorem dX5_readNumbers_98 : decode cX5_readNumbers 98 = .ok (.iconst 1, 1) := by decide +kernel
theorem dX5_readNumbers_99 : decode cX5_readNumbers 99 = .ok (.bipush 9, 2) := by decide +kernel
theorem dX5_readNumbers_101 : decode cX5_readNumbers 101 = .ok (.invokevirtual 74, 3) := by decide +kernel
theorem dX5_readNumbers_104 : decode cX5_readNumbers 104 = .ok (.istore 5, 2) := by decide +kernel
theorem dX5_readNumbers_106 : decode cX5_readNumbers 106 = .ok (.aload_n 0, 1) := by decide +kernel
theorem dX5_readNumbers_107 : decode cX5_readNumbers 107 = .ok (.invokevirtual 85, 3) := by decide +kernel
theorem dX5_readNumbers_110 : decode cX5_readNumbers 110 = .ok (.aload_n 0, 1) := by decide +kernel
theorem dX5_readNumbers_111 : decode cX5_readNumbers 111 = .ok (.getfield 27, 3) := by decide +kernel
theorem dX5_readNumbers_114 : decode cX5_readNumbers 114 = .ok (.ifCond .ne 13, 3) := by decide +kernel
theorem dX5_readNumbers_117 : decode cX5_readNumbers 117 = .ok (.aload_n 1, 1) := by decide +kernel
theorem dX5_readNumbers_118 : decode cX5_readNumbers 118 = .ok (.iload_n 2, 1) := by decide +kernel
theorem dX5_readNumbers_119 : decode cX5_readNumbers 119 = .ok (.iload_n 3, 1) := by decide +kernel
theorem dX5_readNumbers_120 : decode cX5_readNumbers 120 = .ok (.iload 4, 2) := by decide +kernel
theorem dX5_readNumbers_122 : decode cX5_readNumbers 122 = .ok (.iload 5, 2) := by decide +kernel
theorem dX5_readNumbers_124 : decode cX5_readNumbers 124 = .ok (.invokestatic 88, 3) := by decide +kernel
theorem dX5_readNumbers_127 : decode cX5_readNumbers 127 = .ok (.return_, 1) := by decide +kernel
theorem dX5_addTold_0 : decode cX5_addTold 0 = .ok (.iload_n 1, 1) := by decide +kernel
theorem dX5_addTold_1 : decode cX5_addTold 1 = .ok (.iconst 2, 1) := by decide +kernel
theorem dX5_addTold_2 : decode cX5_addTold 2 = .ok (.if_icmp .ne 11, 3) := by decide +kernel
theorem dX5_addTold_5 : decode cX5_addTold 5 = .ok (.aload_n 0, 1) := by decide +kernel
theorem dX5_addTold_6 : decode cX5_addTold 6 = .ok (.iload_n 2, 1) := by decide +kernel
theorem dX5_addTold_7 : decode cX5_addTold 7 = .ok (.invokevirtual 92, 3) := by decide +kernel
theorem dX5_addTold_10 : decode cX5_addTold 10 = .ok (.goto 27, 3) := by decide +kernel
theorem dX5_addTold_13 : decode cX5_addTold 13 = .ok (.iload_n 1, 1) := by decide +kernel
theorem dX5_addTold_14 : decode cX5_addTold 14 = .ok (.iconst 5, 1) := by decide +kernel
theorem dX5_addTold_15 : decode cX5_addTold 15 = .ok (.if_icmp .ne 14, 3) := by decide +kernel
theorem dX5_addTold_18 : decode cX5_addTold 18 = .ok (.aload_n 0, 1) := by decide +kernel
theorem dX5_addTold_19 : decode cX5_addTold 19 = .ok (.iload_n 2, 1) := by decide +kernel
theorem dX5_addTold_20 : decode cX5_addTold 20 = .ok (.iload_n 3, 1) := by decide +kernel
theorem dX5_addTold_21 : decode cX5_addTold 21 = .ok (.iload 4, 2) := by decide +kernel
theorem dX5_addTold_23 : decode cX5_addTold 23 = .ok (.invokevirtual 95, 3) := by decide +kernel
theorem dX5_addTold_26 : decode cX5_addTold 26 = .ok (.goto 11, 3) := by decide +kernel
theorem dX5_addTold_29 : decode cX5_addTold 29 = .ok (.aload_n 0, 1) := by decide +kernel
theorem dX5_addTold_30 : decode cX5_addTold 30 = .ok (.iload_n 2, 1) := by decide +kernel
theorem dX5_addTold_31 : decode cX5_addTold 31 = .ok (.iload_n 3, 1) := by decide +kernel
theorem dX5_addTold_32 : decode cX5_addTold 32 = .ok (.iload 4, 2) := by decide +kernel
theorem dX5_addTold_34 : decode cX5_addTold 34 = .ok (.invokevirtual 99, 3) := by decide +kernel
theorem dX5_addTold_37 : decode cX5_addTold 37 = .ok (.return_, 1) := by decide +kernel
theorem dX5_readEnd_0 : decode cX5_readEnd 0 = .ok (.aload_n 0, 1) := by decide +kernel
theorem dX5_readEnd_1 : decode cX5_readEnd 1 = .ok (.invokevirtual 33, 3) := by decide +kernel
theorem dX5_readEnd_4 : decode cX5_readEnd 4 = .ok (.aload_n 0, 1) := by decide +kernel
theorem dX5_readEnd_5 : decode cX5_readEnd 5 = .ok (.invokevirtual 36, 3) := by decide +kernel
theorem dX5_readEnd_8 : decode cX5_readEnd 8 = .ok (.bipush 59, 2) := by decide +kernel
theorem dX5_readEnd_10 : decode cX5_readEnd 10 = .ok (.if_icmp .ne 16, 3) := by decide +kernel
theorem dX5_readEnd_13 : decode cX5_readEnd 13 = .ok (.aload_n 0, 1) := by decide +kernel
theorem dX5_readEnd_14 : decode cX5_readEnd 14 = .ok (.dup, 1) := by decide +kernel
theorem dX5_readEnd_15 : decode cX5_readEnd 15 = .ok (.getfield 30, 3) := by decide +kernel
theorem dX5_readEnd_18 : decode cX5_readEnd 18 = .ok (.iconst 1, 1) := by decide +kernel
theorem dX5_readEnd_19 : decode cX5_readEnd 19 = .ok (.iadd, 1) := by decide +kernel
theorem dX5_readEnd_20 : decode cX5_readEnd 20 = .ok (.putfield 30, 3) := by decide +kernel
theorem dX5_readEnd_23 : decode cX5_readEnd 23 = .ok (.goto 12, 3) := by decide +kernel
theorem dX5_readEnd_26 : decode cX5_readEnd 26 = .ok (.aload_n 0, 1) := by decide +kernel
theorem dX5_readEnd_27 : decode cX5_readEnd 27 = .ok (.iconst 1, 1) := by decide +kernel
theorem dX5_readEnd_28 : decode cX5_readEnd 28 = .ok (.aload_n 0, 1) := by decide +kernel
theorem dX5_readEnd_29 : decode cX5_readEnd 29 = .ok (.getfield 30, 3) := by decide +kernel
theorem dX5_readEnd_32 : decode cX5_readEnd 32 = .ok (.invokevirtual 50, 3) := by decide +kernel
theorem dX5_readEnd_35 : decode cX5_readEnd 35 = .ok (.return_, 1) := by decide +kernel
theorem dX5_readNumber_0 : decode cX5_readNumber 0 = .ok (.aload_n 0, 1) := by decide +kernel
theorem dX5_readNumber_1 : decode cX5_readNumber 1 = .ok (.invokevirtual 33, 3) := by decide +kernel
theorem dX5_readNumber_4 : decode cX5_readNumber 4 = .ok (.aload_n 0, 1) := by decide +kernel
theorem dX5_readNumber_5 : decode cX5_readNumber 5 = .ok (.aload_n 0, 1) := by decide +kernel
theorem dX5_readNumber_6 : decode cX5_readNumber 6 = .ok (.getfield 30, 3) := by decide +kernel
theorem dX5_readNumber_9 : decode cX5_readNumber 9 = .ok (.putfield 82, 3) := by decide +kernel
theorem dX5_readNumber_12 : decode cX5_readNumber 12 = .ok (.iconst 0, 1) := by decide +kernel
theorem dX5_readNumber_13 : decode cX5_readNumber 13 = .ok (.istore_n 3, 1) := by decide +kernel
theorem dX5_readNumber_14 : decode cX5_readNumber 14 = .ok (.aload_n 0, 1) := by decide +kernel
theorem dX5_readNumber_15 : decode cX5_readNumber 15 = .ok (.bipush 48, 2) := by decide +kernel
theorem dX5_readNumber_17 : decode cX5_readNumber 17 = .ok (.bipush 57, 2) := by decide +kernel
theorem dX5_readNumber_19 : decode cX5_readNumber 19 = .ok (.invokevirtual 102, 3) := by decide +kernel
theorem dX5_readNumber_22 : decode cX5_readNumber 22 = .ok (.istore 4, 2) := by decide +kernel
theorem dX5_readNumber_24 : decode cX5_readNumber 24 = .ok (.iload 4, 2) := by decide +kernel
theorem dX5_readNumber_26 : decode cX5_readNumber 26 = .ok (.aload_n 0, 1) := by decide +kernel
theorem dX5_readNumber_27 : decode cX5_readNumber 27 = .ok (.getfield 30, 3) := by decide +kernel
theorem dX5_readNumber_30 : decode cX5_readNumber 30 = .ok (.if_icmp .ne 12, 3) := by decide +kernel
theorem dX5_readNumber_33 : decode cX5_readNumber 33 = .ok (.aload_n 0, 1) := by decide +kernel
theorem dX5_readNumber_34 : decode cX5_readNumber 34 = .ok (.iconst 1, 1) := by decide +kernel
theorem dX5_readNumber_35 : decode cX5_readNumber 35 = .ok (.aload_n 0, 1) := by decide +kernel
theorem dX5_readNumber_36 : decode cX5_readNumber 36 = .ok (.getfield 30, 3) := by decide +kernel
theorem dX5_readNumber_39 : decode cX5_readNumber 39 = .ok (.invokevirtual 50, 3) := by decide +kernel
theorem dX5_readNumber_42 : decode cX5_readNumber 42 = .ok (.aload_n 0, 1) := by decide +kernel
theorem dX5_readNumber_43 : decode cX5_readNumber 43 = .ok (.getfield 30, 3) := by decide +kernel
theorem dX5_readNumber_46 : decode cX5_readNumber 46 = .ok (.istore 5, 2) := by decide +kernel
theorem dX5_readNumber_48 : decode cX5_readNumber 48 = .ok (.iload 5, 2) := by decide +kernel
theorem dX5_readNumber_50 : decode cX5_readNumber 50 = .ok (.iload 4, 2) := by decide +kernel
theorem dX5_readNumber_52 : decode cX5_readNumber 52 = .ok (.if_icmp .ge 35, 3) := by decide +kernel
theorem dX5_readNumber_55 : decode cX5_readNumber 55 = .ok (.iload 5, 2) := by decide +kernel
theorem dX5_readNumber_57 : decode cX5_readNumber 57 = .ok (.aload_n 0, 1) := by decide +kernel
theorem dX5_readNumber_58 : decode cX5_readNumber 58 = .ok (.getfield 30, 3) := by decide +kernel
theorem dX5_readNumber_61 : decode cX5_readNumber 61 = .ok (.iconst 3, 1) := by decide +kernel
theorem dX5_readNumber_62 : decode cX5_readNumber 62 = .ok (.iadd, 1) := by decide +kernel
theorem dX5_readNumber_63 : decode cX5_readNumber 63 = .ok (.if_icmp .ge 24, 3) := by decide +kernel
theorem dX5_readNumber_66 : decode cX5_readNumber 66 = .ok (.iload_n 3, 1) := by decide +kernel
theorem dX5_readNumber_67 : decode cX5_readNumber 67 = .ok (.bipush 10, 2) := by decide +kernel
theorem dX5_readNumber_69 : decode cX5_readNumber 69 = .ok (.imul, 1) := by decide +kernel
theorem dX5_readNumber_70 : decode cX5_readNumber 70 = .ok (.aload_n 0, 1) := by decide +kernel
theorem dX5_readNumber_71 : decode cX5_readNumber 71 = .ok (.iload 5, 2) := by decide +kernel
theorem dX5_readNumber_73 : decode cX5_readNumber 73 = .ok (.invokevirtual 105, 3) := by decide +kernel
theorem dX5_readNumber_76 : decode cX5_readNumber 76 = .ok (.iadd, 1) := by decide +kernel
theorem dX5_readNumber_77 : decode cX5_readNumber 77 = .ok (.bipush 48, 2) := by decide +kernel
theorem dX5_readNumber_79 : decode cX5_readNumber 79 = .ok (.isub, 1) := by decide +kernel
theorem dX5_readNumber_80 : decode cX5_readNumber 80 = .ok (.istore_n 3, 1) := by decide +kernel
theorem dX5_readNumber_81 : decode cX5_readNumber 81 = .ok (.iinc 5 1, 3) := by decide +kernel
theorem dX5_readNumber_84 : decode cX5_readNumber 84 = .ok (.goto (-36), 3) := by decide +kernel
theorem dX5_readNumber_87 : decode cX5_readNumber 87 = .ok (.iload 4, 2) := by decide +kernel
theorem dX5_readNumber_89 : decode cX5_readNumber 89 = .ok (.aload_n 0, 1) := by decide +kernel
theorem dX5_readNumber_90 : decode cX5_readNumber 90 = .ok (.getfield 30, 3) := by decide +kernel
theorem dX5_readNumber_93 : decode cX5_readNumber 93 = .ok (.isub, 1) := by decide +kernel
theorem dX5_readNumber_94 : decode cX5_readNumber 94 = .ok (.iconst 3, 1) := by decide +kernel
theorem dX5_readNumber_95 : decode cX5_readNumber 95 = .ok (.if_icmp .gt 13, 3) := by decide +kernel
theorem dX5_readNumber_98 : decode cX5_readNumber 98 = .ok (.iload_n 3, 1) := by decide +kernel
theorem dX5_readNumber_99 : decode cX5_readNumber 99 = .ok (.iload_n 1, 1) := by decide +kernel
theorem dX5_readNumber_100 : decode cX5_readNumber 100 = .ok (.if_icmp .lt 8, 3) := by decide +kernel
theorem dX5_readNumber_103 : decode cX5_readNumber 103 = .ok (.iload_n 3, 1) := by decide +kernel
theorem dX5_readNumber_104 : decode cX5_readNumber 104 = .ok (.iload_n 2, 1) := by decide +kernel
theorem dX5_readNumber_105 : decode cX5_readNumber 105 = .ok (.if_icmp .le 12, 3) := by decide +kernel
theorem dX5_readNumber_108 : decode cX5_readNumber 108 = .ok (.aload_n 0, 1) := by decide +kernel
theorem dX5_readNumber_109 : decode cX5_readNumber 109 = .ok (.iconst 2, 1) := by decide +kernel
theorem dX5_readNumber_110 : decode cX5_readNumber 110 = .ok (.aload_n 0, 1) := by decide +kernel
theorem dX5_readNumber_111 : decode cX5_readNumber 111 = .ok (.getfield 30, 3) := by decide +kernel
theorem dX5_readNumber_114 : decode cX5_readNumber 114 = .ok (.invokevirtual 50, 3) := by decide +kernel
theorem dX5_readNumber_117 : decode cX5_readNumber 117 = .ok (.aload_n 0, 1) := by decide +kernel
theorem dX5_readNumber_118 : decode cX5_readNumber 118 = .ok (.iload 4, 2) := by decide +kernel
theorem dX5_readNumber_120 : decode cX5_readNumber 120 = .ok (.putfield 30, 3) := by decide +kernel
theorem dX5_readNumber_123 : decode cX5_readNumber 123 = .ok (.iload_n 3, 1) := by decide +kernel
theorem dX5_readNumber_124 : decode cX5_readNumber 124 = .ok (.ireturn, 1) := by decide +kernel
theorem dX5_readWord_0 : decode cX5_readWord 0 = .ok (.aload_n 0, 1) := by decide +kernel
theorem dX5_readWord_1 : decode cX5_readWord 1 = .ok (.getfield 30, 3) := by decide +kernel
theorem dX5_readWord_4 : decode cX5_readWord 4 = .ok (.istore_n 1, 1) := by decide +kernel
theorem dX5_readWord_5 : decode cX5_readWord 5 = .ok (.aload_n 0, 1) := by decide +kernel
theorem dX5_readWord_6 : decode cX5_readWord 6 = .ok (.aload_n 0, 1) := by decide +kernel
theorem dX5_readWord_7 : decode cX5_readWord 7 = .ok (.bipush 97, 2) := by decide +kernel
theorem dX5_readWord_9 : decode cX5_readWord 9 = .ok (.bipush 122, 2) := by decide +kernel
theorem dX5_readWord_11 : decode cX5_readWord 11 = .ok (.invokevirtual 102, 3) := by decide +kernel
theorem dX5_readWord_14 : decode cX5_readWord 14 = .ok (.putfield 30, 3) := by decide +kernel
theorem dX5_readWord_17 : decode cX5_readWord 17 = .ok (.aload_n 0, 1) := by decide +kernel
theorem dX5_readWord_18 : decode cX5_readWord 18 = .ok (.iload_n 1, 1) := by decide +kernel
theorem dX5_readWord_19 : decode cX5_readWord 19 = .ok (.ldc 109, 2) := by decide +kernel
theorem dX5_readWord_21 : decode cX5_readWord 21 = .ok (.invokevirtual 110, 3) := by decide +kernel
theorem dX5_readWord_24 : decode cX5_readWord 24 = .ok (.ifCond .eq 5, 3) := by decide +kernel
theorem dX5_readWord_27 : decode cX5_readWord 27 = .ok (.iconst 1, 1) := by decide +kernel
theorem dX5_readWord_28 : decode cX5_readWord 28 = .ok (.ireturn, 1) := by decide +kernel
theorem dX5_readWord_29 : decode cX5_readWord 29 = .ok (.aload_n 0, 1) := by decide +kernel
theorem dX5_readWord_30 : decode cX5_readWord 30 = .ok (.iload_n 1, 1) := by decide +kernel
theorem dX5_readWord_31 : decode cX5_readWord 31 = .ok (.ldc 114, 2) := by decide +kernel
theorem dX5_readWord_33 : decode cX5_readWord 33 = .ok (.invokevirtual 110, 3) := by decide +kernel
theorem dX5_readWord_36 : decode cX5_readWord 36 = .ok (.ifCond .eq 5, 3) := by decide +kernel
theorem dX5_readWord_39 : decode cX5_readWord 39 = .ok (.iconst 2, 1) := by decide +kernel
theorem dX5_readWord_40 : decode cX5_readWord 40 = .ok (.ireturn, 1) := by decide +kernel
theorem dX5_readWord_41 : decode cX5_readWord 41 = .ok (.aload_n 0, 1) := by decide +kernel
theorem dX5_readWord_42 : decode cX5_readWord 42 = .ok (.iload_n 1, 1) := by decide +kernel
theorem dX5_readWord_43 : decode cX5_readWord 43 = .ok (.ldc 116, 2) := by decide +kernel
theorem dX5_readWord_45 : decode cX5_readWord 45 = .ok (.invokevirtual 110, 3) := by decide +kernel
theorem dX5_readWord_48 : decode cX5_readWord 48 = .ok (.ifCond .eq 5, 3) := by decide +kernel
theorem dX5_readWord_51 : decode cX5_readWord 51 = .ok (.iconst 3, 1) := by decide +kernel
theorem dX5_readWord_52 : decode cX5_readWord 52 = .ok (.ireturn, 1) := by decide +kernel
theorem dX5_readWord_53 : decode cX5_readWord 53 = .ok (.aload_n 0, 1) := by decide +kernel
theorem dX5_readWord_54 : decode cX5_readWord 54 = .ok (.iload_n 1, 1) := by decide +kernel
theorem dX5_readWord_55 : decode cX5_readWord 55 = .ok (.ldc 118, 2) := by decide +kernel
theorem dX5_readWord_57 : decode cX5_readWord 57 = .ok (.invokevirtual 110, 3) := by decide +kernel
theorem dX5_readWord_60 : decode cX5_readWord 60 = .ok (.ifCond .eq 5, 3) := by decide +kernel
theorem dX5_readWord_63 : decode cX5_readWord 63 = .ok (.iconst 4, 1) := by decide +kernel
theorem dX5_readWord_64 : decode cX5_readWord 64 = .ok (.ireturn, 1) := by decide +kernel
theorem dX5_readWord_65 : decode cX5_readWord 65 = .ok (.aload_n 0, 1) := by decide +kernel
theorem dX5_readWord_66 : decode cX5_readWord 66 = .ok (.iload_n 1, 1) := by decide +kernel
theorem dX5_readWord_67 : decode cX5_readWord 67 = .ok (.ldc 120, 2) := by decide +kernel
theorem dX5_readWord_69 : decode cX5_readWord 69 = .ok (.invokevirtual 110, 3) := by decide +kernel
theorem dX5_readWord_72 : decode cX5_readWord 72 = .ok (.ifCond .eq 7, 3) := by decide +kernel
theorem dX5_readWord_75 : decode cX5_readWord 75 = .ok (.iconst 5, 1) := by decide +kernel
theorem dX5_readWord_76 : decode cX5_readWord 76 = .ok (.goto 4, 3) := by decide +kernel
theorem dX5_readWord_79 : decode cX5_readWord 79 = .ok (.iconst 0, 1) := by decide +kernel
theorem dX5_readWord_80 : decode cX5_readWord 80 = .ok (.ireturn, 1) := by decide +kernel
theorem dX5_isWord_0 : decode cX5_isWord 0 = .ok (.aload_n 0, 1) := by decide +kernel
theorem dX5_isWord_1 : decode cX5_isWord 1 = .ok (.getfield 30, 3) := by decide +kernel
theorem dX5_isWord_4 : decode cX5_isWord 4 = .ok (.iload_n 1, 1) := by decide +kernel
theorem dX5_isWord_5 : decode cX5_isWord 5 = .ok (.isub, 1) := by decide +kernel
theorem dX5_isWord_6 : decode cX5_isWord 6 = .ok (.aload_n 2, 1) := by decide +kernel
theorem dX5_isWord_7 : decode cX5_isWord 7 = .ok (.invokevirtual 122, 3) := by decide +kernel
theorem dX5_isWord_10 : decode cX5_isWord 10 = .ok (.if_icmp .eq 5, 3) := by decide +kernel
theorem dX5_isWord_13 : decode cX5_isWord 13 = .ok (.iconst 0, 1) := by decide +kernel
theorem dX5_isWord_14 : decode cX5_isWord 14 = .ok (.ireturn, 1) := by decide +kernel
theorem dX5_isWord_15 : decode cX5_isWord 15 = .ok (.iconst 0, 1) := by decide +kernel
theorem dX5_isWord_16 : decode cX5_isWord 16 = .ok (.istore_n 3, 1) := by decide +kernel
theorem dX5_isWord_17 : decode cX5_isWord 17 = .ok (.iload_n 3, 1) := by decide +kernel
theorem dX5_isWord_18 : decode cX5_isWord 18 = .ok (.aload_n 2, 1) := by decide +kernel
theorem dX5_isWord_19 : decode cX5_isWord 19 = .ok (.invokevirtual 122, 3) := by decide +kernel
theorem dX5_isWord_22 : decode cX5_isWord 22 = .ok (.if_icmp .ge 26, 3) := by decide +kernel
theorem dX5_isWord_25 : decode cX5_isWord 25 = .ok (.aload_n 0, 1) := by decide +kernel
theorem dX5_isWord_26 : decode cX5_isWord 26 = .ok (.iload_n 1, 1) := by decide +kernel
theorem dX5_isWord_27 : decode cX5_isWord 27 = .ok (.iload_n 3, 1) := by decide +kernel
theorem dX5_isWord_28 : decode cX5_isWord 28 = .ok (.iadd, 1) := by decide +kernel
theorem dX5_isWord_29 : decode cX5_isWord 29 = .ok (.invokevirtual 105, 3) := by decide +kernel
theorem dX5_isWord_32 : decode cX5_isWord 32 = .ok (.aload_n 2, 1) := by decide +kernel
theorem dX5_isWord_33 : decode cX5_isWord 33 = .ok (.iload_n 3, 1) := by decide +kernel
theorem dX5_isWord_34 : decode cX5_isWord 34 = .ok (.invokevirtual 126, 3) := by decide +kernel
theorem dX5_isWord_37 : decode cX5_isWord 37 = .ok (.if_icmp .eq 5, 3) := by decide +kernel
theorem dX5_isWord_40 : decode cX5_isWord 40 = .ok (.iconst 0, 1) := by decide +kernel
theorem dX5_isWord_41 : decode cX5_isWord 41 = .ok (.ireturn, 1) := by decide +kernel
theorem dX5_isWord_42 : decode cX5_isWord 42 = .ok (.iinc 3 1, 3) := by decide +kernel
theorem dX5_isWord_45 : decode cX5_isWord 45 = .ok (.goto (-28), 3) := by decide +kernel
theorem dX5_isWord_48 : decode cX5_isWord 48 = .ok (.iconst 1, 1) := by decide +kernel
theorem dX5_isWord_49 : decode cX5_isWord 49 = .ok (.ireturn, 1) := by decide +kernel
theorem dX5_endOfRun_0 : decode cX5_endOfRun 0 = .ok (.aload_n 0, 1) := by decide +kernel
theorem dX5_endOfRun_1 : decode cX5_endOfRun 1 = .ok (.getfield 30, 3) := by decide +kernel
theorem dX5_endOfRun_4 : decode cX5_endOfRun 4 = .ok (.istore_n 3, 1) := by decide +kernel
theorem dX5_endOfRun_5 : decode cX5_endOfRun 5 = .ok (.iload_n 3, 1) := by decide +kernel
theorem dX5_endOfRun_6 : decode cX5_endOfRun 6 = .ok (.aload_n 0, 1) := by decide +kernel
theorem dX5_endOfRun_7 : decode cX5_endOfRun 7 = .ok (.getfield 19, 3) := by decide +kernel
theorem dX5_endOfRun_10 : decode cX5_endOfRun 10 = .ok (.if_icmp .ge 27, 3) := by decide +kernel
theorem dX5_endOfRun_13 : decode cX5_endOfRun 13 = .ok (.aload_n 0, 1) := by decide +kernel
theorem dX5_endOfRun_14 : decode cX5_endOfRun 14 = .ok (.iload_n 3, 1) := by decide +kernel
theorem dX5_endOfRun_15 : decode cX5_endOfRun 15 = .ok (.invokevirtual 105, 3) := by decide +kernel
theorem dX5_endOfRun_18 : decode cX5_endOfRun 18 = .ok (.iload_n 1, 1) := by decide +kernel
theorem dX5_endOfRun_19 : decode cX5_endOfRun 19 = .ok (.if_icmp .lt 18, 3) := by decide +kernel
theorem dX5_endOfRun_22 : decode cX5_endOfRun 22 = .ok (.aload_n 0, 1) := by decide +kernel
theorem dX5_endOfRun_23 : decode cX5_endOfRun 23 = .ok (.iload_n 3, 1) := by decide +kernel
theorem dX5_endOfRun_24 : decode cX5_endOfRun 24 = .ok (.invokevirtual 105, 3) := by decide +kernel
theorem dX5_endOfRun_27 : decode cX5_endOfRun 27 = .ok (.iload_n 2, 1) := by decide +kernel
theorem dX5_endOfRun_28 : decode cX5_endOfRun 28 = .ok (.if_icmp .gt 9, 3) := by decide +kernel
theorem dX5_endOfRun_31 : decode cX5_endOfRun 31 = .ok (.iinc 3 1, 3) := by decide +kernel
theorem dX5_endOfRun_34 : decode cX5_endOfRun 34 = .ok (.goto (-29), 3) := by decide +kernel
theorem dX5_endOfRun_37 : decode cX5_endOfRun 37 = .ok (.iload_n 3, 1) := by decide +kernel
theorem dX5_endOfRun_38 : decode cX5_endOfRun 38 = .ok (.ireturn, 1) := by decide +kernel
theorem dX5_skipBlanks_0 : decode cX5_skipBlanks 0 = .ok (.aload_n 0, 1) := by decide +kernel
theorem dX5_skipBlanks_1 : decode cX5_skipBlanks 1 = .ok (.getfield 30, 3) := by decide +kernel
theorem dX5_skipBlanks_4 : decode cX5_skipBlanks 4 = .ok (.aload_n 0, 1) := by decide +kernel
theorem dX5_skipBlanks_5 : decode cX5_skipBlanks 5 = .ok (.getfield 19, 3) := by decide +kernel
theorem dX5_skipBlanks_8 : decode cX5_skipBlanks 8 = .ok (.if_icmp .ge 29, 3) := by decide +kernel
theorem dX5_skipBlanks_11 : decode cX5_skipBlanks 11 = .ok (.aload_n 0, 1) := by decide +kernel
theorem dX5_skipBlanks_12 : decode cX5_skipBlanks 12 = .ok (.aload_n 0, 1) := by decide +kernel
theorem dX5_skipBlanks_13 : decode cX5_skipBlanks 13 = .ok (.getfield 30, 3) := by decide +kernel
theorem dX5_skipBlanks_16 : decode cX5_skipBlanks 16 = .ok (.invokevirtual 105, 3) := by decide +kernel
theorem dX5_skipBlanks_19 : decode cX5_skipBlanks 19 = .ok (.bipush 32, 2) := by decide +kernel
theorem dX5_skipBlanks_21 : decode cX5_skipBlanks 21 = .ok (.if_icmp .ne 16, 3) := by decide +kernel
theorem dX5_skipBlanks_24 : decode cX5_skipBlanks 24 = .ok (.aload_n 0, 1) := by decide +kernel
theorem dX5_skipBlanks_25 : decode cX5_skipBlanks 25 = .ok (.dup, 1) := by decide +kernel
theorem dX5_skipBlanks_26 : decode cX5_skipBlanks 26 = .ok (.getfield 30, 3) := by decide +kernel
theorem dX5_skipBlanks_29 : decode cX5_skipBlanks 29 = .ok (.iconst 1, 1) := by decide +kernel
theorem dX5_skipBlanks_30 : decode cX5_skipBlanks 30 = .ok (.iadd, 1) := by decide +kernel
theorem dX5_skipBlanks_31 : decode cX5_skipBlanks 31 = .ok (.putfield 30, 3) := by decide +kernel
theorem dX5_skipBlanks_34 : decode cX5_skipBlanks 34 = .ok (.goto (-34), 3) := by decide +kernel
theorem dX5_skipBlanks_37 : decode cX5_skipBlanks 37 = .ok (.return_, 1) := by decide +kernel
theorem dX5_sign_0 : decode cX5_sign 0 = .ok (.aload_n 0, 1) := by decide +kernel
theorem dX5_sign_1 : decode cX5_sign 1 = .ok (.aload_n 0, 1) := by decide +kernel
theorem dX5_sign_2 : decode cX5_sign 2 = .ok (.getfield 30, 3) := by decide +kernel
theorem dX5_sign_5 : decode cX5_sign 5 = .ok (.invokevirtual 105, 3) := by decide +kernel
theorem dX5_sign_8 : decode cX5_sign 8 = .ok (.ireturn, 1) := by decide +kernel
theorem dX5_signAt_0 : decode cX5_signAt 0 = .ok (.iload_n 1, 1) := by decide +kernel
theorem dX5_signAt_1 : decode cX5_signAt 1 = .ok (.ifCond .lt 31, 3) := by decide +kernel
theorem dX5_signAt_4 : decode cX5_signAt 4 = .ok (.iload_n 1, 1) := by decide +kernel
theorem dX5_signAt_5 : decode cX5_signAt 5 = .ok (.aload_n 0, 1) := by decide +kernel
theorem dX5_signAt_6 : decode cX5_signAt 6 = .ok (.getfield 19, 3) := by decide +kernel
theorem dX5_signAt_9 : decode cX5_signAt 9 = .ok (.if_icmp .ge 23, 3) := by decide +kernel
theorem dX5_signAt_12 : decode cX5_signAt 12 = .ok (.iload_n 1, 1) := by decide +kernel
theorem dX5_signAt_13 : decode cX5_signAt 13 = .ok (.sipush 500, 3) := by decide +kernel
theorem dX5_signAt_16 : decode cX5_signAt 16 = .ok (.if_icmp .ge 16, 3) := by decide +kernel
theorem dX5_signAt_19 : decode cX5_signAt 19 = .ok (.aload_n 0, 1) := by decide +kernel
theorem dX5_signAt_20 : decode cX5_signAt 20 = .ok (.getfield 9, 3) := by decide +kernel
theorem dX5_signAt_23 : decode cX5_signAt 23 = .ok (.iload_n 1, 1) := by decide +kernel
theorem dX5_signAt_24 : decode cX5_signAt 24 = .ok (.baload, 1) := by decide +kernel
theorem dX5_signAt_25 : decode cX5_signAt 25 = .ok (.sipush 255, 3) := by decide +kernel
theorem dX5_signAt_28 : decode cX5_signAt 28 = .ok (.iand, 1) := by decide +kernel
theorem dX5_signAt_29 : decode cX5_signAt 29 = .ok (.goto 4, 3) := by decide +kernel
theorem dX5_signAt_32 : decode cX5_signAt 32 = .ok (.iconst (-1), 1) := by decide +kernel
theorem dX5_signAt_33 : decode cX5_signAt 33 = .ok (.ireturn, 1) := by decide +kernel
theorem dX5_fail_0 : decode cX5_fail 0 = .ok (.aload_n 0, 1) := by decide +kernel
theorem dX5_fail_1 : decode cX5_fail 1 = .ok (.getfield 27, 3) := by decide +kernel
theorem dX5_fail_4 : decode cX5_fail 4 = .ok (.ifCond .ne 13, 3) := by decide +kernel
theorem dX5_fail_7 : decode cX5_fail 7 = .ok (.aload_n 0, 1) := by decide +kernel
theorem dX5_fail_8 : decode cX5_fail 8 = .ok (.iload_n 1, 1) := by decide +kernel
theorem dX5_fail_9 : decode cX5_fail 9 = .ok (.putfield 27, 3) := by decide +kernel
theorem dX5_fail_12 : decode cX5_fail 12 = .ok (.aload_n 0, 1) := by decide +kernel
theorem dX5_fail_13 : decode cX5_fail 13 = .ok (.iload_n 2, 1) := by decide +kernel
theorem dX5_fail_14 : decode cX5_fail 14 = .ok (.putfield 15, 3) := by decide +kernel
theorem dX5_fail_17 : decode cX5_fail 17 = .ok (.return_, 1) := by decide +kernel
theorem dX6_init_0 : decode cX6_init 0 = .ok (.aload_n 0, 1) := by decide +kernel
theorem dX6_init_1 : decode cX6_init 1 = .ok (.invokespecial 3, 3) := by decide +kernel
theorem dX6_init_4 : decode cX6_init 4 = .ok (.return_, 1) := by decide +kernel
theorem dX6_begin_0 : decode cX6_begin 0 = .ok (.aload_n 0, 1) := by decide +kernel
theorem dX6_begin_1 : decode cX6_begin 1 = .ok (.iload_n 1, 1) := by decide +kernel
theorem dX6_begin_2 : decode cX6_begin 2 = .ok (.putfield 9, 3) := by decide +kernel
theorem dX6_begin_5 : decode cX6_begin 5 = .ok (.aload_n 0, 1) := by decide +kernel
theorem dX6_begin_6 : decode cX6_begin 6 = .ok (.iload_n 2, 1) := by decide +kernel
theorem dX6_begin_7 : decode cX6_begin 7 = .ok (.putfield 15, 3) := by decide +kernel
theorem dX6_begin_10 : decode cX6_begin 10 = .ok (.aload_n 0, 1) := by decide +kernel
theorem dX6_begin_11 : decode cX6_begin 11 = .ok (.iload_n 3, 1) := by decide +kernel
theorem dX6_begin_12 : decode cX6_begin 12 = .ok (.putfield 18, 3) := by decide +kernel
theorem dX6_begin_15 : decode cX6_begin 15 = .ok (.aload_n 0, 1) := by decide +kernel
theorem dX6_begin_16 : decode cX6_begin 16 = .ok (.iload 4, 2) := by decide +kernel
theorem dX6_begin_18 : decode cX6_begin 18 = .ok (.putfield 21, 3) := by decide +kernel
theorem dX6_begin_21 : decode cX6_begin 21 = .ok (.return_, 1) := by decide +kernel
theorem dX6_play_0 : decode cX6_play 0 = .ok (.aload_n 0, 1) := by decide +kernel
theorem dX6_play_1 : decode cX6_play 1 = .ok (.iconst (-1), 1) := by decide +kernel
theorem dX6_play_2 : decode cX6_play 2 = .ok (.putfield 24, 3) := by decide +kernel
theorem dX6_play_5 : decode cX6_play 5 = .ok (.aload_n 0, 1) := by decide +kernel
theorem dX6_play_6 : decode cX6_play 6 = .ok (.getfield 18, 3) := by decide +kernel
theorem dX6_play_9 : decode cX6_play 9 = .ok (.ifCond .gt 15, 3) := by decide +kernel
theorem dX6_play_12 : decode cX6_play 12 = .ok (.aload_n 0, 1) := by decide +kernel
theorem dX6_play_13 : decode cX6_play 13 = .ok (.aload_n 0, 1) := by decide +kernel
theorem dX6_play_14 : decode cX6_play 14 = .ok (.aload_n 1, 1) := by decide +kernel
theorem dX6_play_15 : decode cX6_play 15 = .ok (.iload_n 2, 1) := by decide +kernel
theorem dX6_play_16 : decode cX6_play 16 = .ok (.iconst 0, 1) := by decide +kernel
theorem dX6_play_17 : decode cX6_play 17 = .ok (.invokevirtual 27, 3) := by decide +kernel
theorem dX6_play_20 : decode cX6_play 20 = .ok (.putfield 31, 3) := by decide +kernel
theorem dX6_play_23 : decode cX6_play 23 = .ok (.return_, 1) := by decide +kernel
theorem dX6_play_24 : decode cX6_play 24 = .ok (.aload_n 0, 1) := by decide +kernel
theorem dX6_play_25 : decode cX6_play 25 = .ok (.aload_n 0, 1) := by decide +kernel
theorem dX6_play_26 : decode cX6_play 26 = .ok (.aload_n 1, 1) := by decide +kernel
theorem dX6_play_27 : decode cX6_play 27 = .ok (.iload_n 2, 1) := by decide +kernel
theorem dX6_play_28 : decode cX6_play 28 = .ok (.iconst 1, 1) := by decide +kernel
theorem dX6_play_29 : decode cX6_play 29 = .ok (.bipush (-3), 2) := by decide +kernel
theorem dX6_play_31 : decode cX6_play 31 = .ok (.iconst 3, 1) := by decide +kernel
theorem dX6_play_32 : decode cX6_play 32 = .ok (.invokestatic 34, 3) := by decide +kernel
theorem dX6_play_35 : decode cX6_play 35 = .ok (.ineg, 1) := by decide +kernel
theorem dX6_play_36 : decode cX6_play 36 = .ok (.putfield 31, 3) := by decide +kernel
theorem dX6_play_39 : decode cX6_play 39 = .ok (.aload_n 1, 1) := by decide +kernel
theorem dX6_play_40 : decode cX6_play 40 = .ok (.aload_n 0, 1) := by decide +kernel
theorem dX6_play_41 : decode cX6_play 41 = .ok (.getfield 9, 3) := by decide +kernel
theorem dX6_play_44 : decode cX6_play 44 = .ok (.iload_n 2, 1) := by decide +kernel
theorem dX6_play_45 : decode cX6_play 45 = .ok (.aload_n 0, 1) := by decide +kernel
theorem dX6_play_46 : decode cX6_play 46 = .ok (.getfield 21, 3) := by decide +kernel
theorem dX6_play_49 : decode cX6_play 49 = .ok (.invokevirtual 38, 3) := by decide +kernel
theorem dX6_play_52 : decode cX6_play 52 = .ok (.istore_n 3, 1) := by decide +kernel
theorem dX6_play_53 : decode cX6_play 53 = .ok (.iconst 0, 1) := by decide +kernel
theorem dX6_play_54 : decode cX6_play 54 = .ok (.istore 4, 2) := by decide +kernel
theorem dX6_play_56 : decode cX6_play 56 = .ok (.iload 4, 2) := by decide +kernel
theorem dX6_play_58 : decode cX6_play 58 = .ok (.bipush 12, 2) := by decide +kernel
theorem dX6_play_60 : decode cX6_play 60 = .ok (.if_icmp .ge 71, 3) := by decide +kernel
theorem dX6_play_63 : decode cX6_play 63 = .ok (.aload_n 0, 1) := by decide +kernel
theorem dX6_play_64 : decode cX6_play 64 = .ok (.getfield 31, 3) := by decide +kernel
theorem dX6_play_67 : decode cX6_play 67 = .ok (.iconst 3, 1) := by decide +kernel
theorem dX6_play_68 : decode cX6_play 68 = .ok (.if_icmp .ge 63, 3) := by decide +kernel
theorem dX6_play_71 : decode cX6_play 71 = .ok (.iload_n 3, 1) := by decide +kernel
theorem dX6_play_72 : decode cX6_play 72 = .ok (.iload 4, 2) := by decide +kernel
theorem dX6_play_74 : decode cX6_play 74 = .ok (.invokestatic 44, 3) := by decide +kernel
theorem dX6_play_77 : decode cX6_play 77 = .ok (.ifCond .eq 48, 3) := by decide +kernel
theorem dX6_play_80 : decode cX6_play 80 = .ok (.aload_n 0, 1) := by decide +kernel
theorem dX6_play_81 : decode cX6_play 81 = .ok (.aload_n 1, 1) := by decide +kernel
theorem dX6_play_82 : decode cX6_play 82 = .ok (.iload_n 2, 1) := by decide +kernel
theorem dX6_play_83 : decode cX6_play 83 = .ok (.iconst 1, 1) := by decide +kernel
theorem dX6_play_84 : decode cX6_play 84 = .ok (.iload 4, 2) := by decide +kernel
theorem dX6_play_86 : decode cX6_play 86 = .ok (.ishl, 1) := by decide +kernel
theorem dX6_play_87 : decode cX6_play 87 = .ok (.iconst (-1), 1) := by decide +kernel
theorem dX6_play_88 : decode cX6_play 88 = .ok (.ixor, 1) := by decide +kernel
theorem dX6_play_89 : decode cX6_play 89 = .ok (.iand, 1) := by decide +kernel
theorem dX6_play_90 : decode cX6_play 90 = .ok (.iconst 1, 1) := by decide +kernel
theorem dX6_play_91 : decode cX6_play 91 = .ok (.bipush (-3), 2) := by decide +kernel
theorem dX6_play_93 : decode cX6_play 93 = .ok (.aload_n 0, 1) := by decide +kernel
theorem dX6_play_94 : decode cX6_play 94 = .ok (.getfield 31, 3) := by decide +kernel
theorem dX6_play_97 : decode cX6_play 97 = .ok (.ineg, 1) := by decide +kernel
theorem dX6_play_98 : decode cX6_play 98 = .ok (.invokestatic 34, 3) := by decide +kernel
theorem dX6_play_101 : decode cX6_play 101 = .ok (.ineg, 1) := by decide +kernel
theorem dX6_play_102 : decode cX6_play 102 = .ok (.istore 5, 2) := by decide +kernel
theorem dX6_play_104 : decode cX6_play 104 = .ok (.iload 5, 2) := by decide +kernel
theorem dX6_play_106 : decode cX6_play 106 = .ok (.aload_n 0, 1) := by decide +kernel
theorem dX6_play_107 : decode cX6_play 107 = .ok (.getfield 31, 3) := by decide +kernel
theorem dX6_play_110 : decode cX6_play 110 = .ok (.if_icmp .le 15, 3) := by decide +kernel
theorem dX6_play_113 : decode cX6_play 113 = .ok (.aload_n 0, 1) := by decide +kernel
theorem dX6_play_114 : decode cX6_play 114 = .ok (.iload 5, 2) := by decide +kernel
theorem dX6_play_116 : decode cX6_play 116 = .ok (.putfield 31, 3) := by decide +kernel
theorem dX6_play_119 : decode cX6_play 119 = .ok (.aload_n 0, 1) := by decide +kernel
theorem dX6_play_120 : decode cX6_play 120 = .ok (.iload 4, 2) := by decide +kernel
theorem dX6_play_122 : decode cX6_play 122 = .ok (.putfield 24, 3) := by decide +kernel
theorem dX6_play_125 : decode cX6_play 125 = .ok (.iinc 4 1, 3) := by decide +kernel
theorem dX6_play_128 : decode cX6_play 128 = .ok (.goto (-72), 3) := by decide +kernel
theorem dX6_play_131 : decode cX6_play 131 = .ok (.return_, 1) := by decide +kernel
theorem dX6_worthFrom_0 : decode cX6_worthFrom 0 = .ok (.iload_n 3, 1) := by decide +kernel
theorem dX6_worthFrom_1 : decode cX6_worthFrom 1 = .ok (.aload_n 0, 1) := by decide +kernel
theorem dX6_worthFrom_2 : decode cX6_worthFrom 2 = .ok (.getfield 18, 3) := by decide +kernel
theorem dX6_worthFrom_5 : decode cX6_worthFrom 5 = .ok (.if_icmp .ge 8, 3) := by decide +kernel
theorem dX6_worthFrom_8 : decode cX6_worthFrom 8 = .ok (.iload_n 3, 1) := by decide +kernel
theorem dX6_worthFrom_9 : decode cX6_worthFrom 9 = .ok (.iconst 4, 1) := by decide +kernel
theorem dX6_worthFrom_10 : decode cX6_worthFrom 10 = .ok (.if_icmp .lt 11, 3) := by decide +kernel
theorem dX6_worthFrom_13 : decode cX6_worthFrom 13 = .ok (.aload_n 0, 1) := by decide +kernel
theorem dX6_worthFrom_14 : decode cX6_worthFrom 14 = .ok (.aload_n 1, 1) := by decide +kernel
theorem dX6_worthFrom_15 : decode cX6_worthFrom 15 = .ok (.iload_n 2, 1) := by decide +kernel
theorem dX6_worthFrom_16 : decode cX6_worthFrom 16 = .ok (.iload_n 3, 1) := by decide +kernel
theorem dX6_worthFrom_17 : decode cX6_worthFrom 17 = .ok (.invokevirtual 27, 3) := by decide +kernel
theorem dX6_worthFrom_20 : decode cX6_worthFrom 20 = .ok (.ireturn, 1) := by decide +kernel
theorem dX6_worthFrom_21 : decode cX6_worthFrom 21 = .ok (.aload_n 0, 1) := by decide +kernel
theorem dX6_worthFrom_22 : decode cX6_worthFrom 22 = .ok (.aload_n 1, 1) := by decide +kernel
theorem dX6_worthFrom_23 : decode cX6_worthFrom 23 = .ok (.iload_n 2, 1) := by decide +kernel
theorem dX6_worthFrom_24 : decode cX6_worthFrom 24 = .ok (.iload_n 3, 1) := by decide +kernel
theorem dX6_worthFrom_25 : decode cX6_worthFrom 25 = .ok (.iconst 1, 1) := by decide +kernel
theorem dX6_worthFrom_26 : decode cX6_worthFrom 26 = .ok (.iadd, 1) := by decide +kernel
theorem dX6_worthFrom_27 : decode cX6_worthFrom 27 = .ok (.iload 5, 2) := by decide +kernel
theorem dX6_worthFrom_29 : decode cX6_worthFrom 29 = .ok (.ineg, 1) := by decide +kernel
theorem dX6_worthFrom_30 : decode cX6_worthFrom 30 = .ok (.iload 4, 2) := by decide +kernel
theorem dX6_worthFrom_32 : decode cX6_worthFrom 32 = .ok (.ineg, 1) := by decide +kernel
theorem dX6_worthFrom_33 : decode cX6_worthFrom 33 = .ok (.invokestatic 34, 3) := by decide +kernel
theorem dX6_worthFrom_36 : decode cX6_worthFrom 36 = .ok (.ineg, 1) := by decide +kernel
theorem dX6_worthFrom_37 : decode cX6_worthFrom 37 = .ok (.istore 6, 2) := by decide +kernel
theorem dX6_worthFrom_39 : decode cX6_worthFrom 39 = .ok (.aload_n 1, 1) := by decide +kernel
theorem dX6_worthFrom_40 : decode cX6_worthFrom 40 = .ok (.aload_n 0, 1) := by decide +kernel
theorem dX6_worthFrom_41 : decode cX6_worthFrom 41 = .ok (.iload_n 3, 1) := by decide +kernel
theorem dX6_worthFrom_42 : decode cX6_worthFrom 42 = .ok (.invokevirtual 48, 3) := by decide +kernel
theorem dX6_worthFrom_45 : decode cX6_worthFrom 45 = .ok (.iload_n 2, 1) := by decide +kernel
theorem dX6_worthFrom_46 : decode cX6_worthFrom 46 = .ok (.aload_n 0, 1) := by decide +kernel
theorem dX6_worthFrom_47 : decode cX6_worthFrom 47 = .ok (.getfield 21, 3) := by decide +kernel
theorem dX6_worthFrom_50 : decode cX6_worthFrom 50 = .ok (.invokevirtual 38, 3) := by decide +kernel
theorem dX6_worthFrom_53 : decode cX6_worthFrom 53 = .ok (.istore 7, 2) := by decide +kernel
theorem dX6_worthFrom_55 : decode cX6_worthFrom 55 = .ok (.iconst 0, 1) := by decide +kernel
theorem dX6_worthFrom_56 : decode cX6_worthFrom 56 = .ok (.istore 8, 2) := by decide +kernel
theorem dX6_worthFrom_58 : decode cX6_worthFrom 58 = .ok (.iload 8, 2) := by decide +kernel
theorem dX6_worthFrom_60 : decode cX6_worthFrom 60 = .ok (.bipush 12, 2) := by decide +kernel
theorem dX6_worthFrom_62 : decode cX6_worthFrom 62 = .ok (.if_icmp .ge 65, 3) := by decide +kernel
theorem dX6_worthFrom_65 : decode cX6_worthFrom 65 = .ok (.iload 6, 2) := by decide +kernel
theorem dX6_worthFrom_67 : decode cX6_worthFrom 67 = .ok (.iload 5, 2) := by decide +kernel
theorem dX6_worthFrom_69 : decode cX6_worthFrom 69 = .ok (.if_icmp .ge 58, 3) := by decide +kernel
theorem dX6_worthFrom_72 : decode cX6_worthFrom 72 = .ok (.iload 7, 2) := by decide +kernel
theorem dX6_worthFrom_74 : decode cX6_worthFrom 74 = .ok (.iload 8, 2) := by decide +kernel
theorem dX6_worthFrom_76 : decode cX6_worthFrom 76 = .ok (.invokestatic 44, 3) := by decide +kernel
theorem dX6_worthFrom_79 : decode cX6_worthFrom 79 = .ok (.ifCond .eq 42, 3) := by decide +kernel
theorem dX6_worthFrom_82 : decode cX6_worthFrom 82 = .ok (.aload_n 0, 1) := by decide +kernel
theorem dX6_worthFrom_83 : decode cX6_worthFrom 83 = .ok (.aload_n 1, 1) := by decide +kernel
theorem dX6_worthFrom_84 : decode cX6_worthFrom 84 = .ok (.iload_n 2, 1) := by decide +kernel
theorem dX6_worthFrom_85 : decode cX6_worthFrom 85 = .ok (.iconst 1, 1) := by decide +kernel
theorem dX6_worthFrom_86 : decode cX6_worthFrom 86 = .ok (.iload 8, 2) := by decide +kernel
theorem dX6_worthFrom_88 : decode cX6_worthFrom 88 = .ok (.ishl, 1) := by decide +kernel
theorem dX6_worthFrom_89 : decode cX6_worthFrom 89 = .ok (.iconst (-1), 1) := by decide +kernel
theorem dX6_worthFrom_90 : decode cX6_worthFrom 90 = .ok (.ixor, 1) := by decide +kernel
theorem dX6_worthFrom_91 : decode cX6_worthFrom 91 = .ok (.iand, 1) := by decide +kernel
theorem dX6_worthFrom_92 : decode cX6_worthFrom 92 = .ok (.iload_n 3, 1) := by decide +kernel
theorem dX6_worthFrom_93 : decode cX6_worthFrom 93 = .ok (.iconst 1, 1) := by decide +kernel
theorem dX6_worthFrom_94 : decode cX6_worthFrom 94 = .ok (.iadd, 1) := by decide +kernel
theorem dX6_worthFrom_95 : decode cX6_worthFrom 95 = .ok (.iload 5, 2) := by decide +kernel
theorem dX6_worthFrom_97 : decode cX6_worthFrom 97 = .ok (.ineg, 1) := by decide +kernel
theorem dX6_worthFrom_98 : decode cX6_worthFrom 98 = .ok (.iload 4, 2) := by decide +kernel
theorem dX6_worthFrom_100 : decode cX6_worthFrom 100 = .ok (.iload 6, 2) := by decide +kernel
theorem dX6_worthFrom_102 : decode cX6_worthFrom 102 = .ok (.invokestatic 52, 3) := by decide +kernel
theorem dX6_worthFrom_105 : decode cX6_worthFrom 105 = .ok (.ineg, 1) := by decide +kernel
theorem dX6_worthFrom_106 : decode cX6_worthFrom 106 = .ok (.invokestatic 34, 3) := by decide +kernel
theorem dX6_worthFrom_109 : decode cX6_worthFrom 109 = .ok (.ineg, 1) := by decide +kernel
theorem dX6_worthFrom_110 : decode cX6_worthFrom 110 = .ok (.istore 9, 2) := by decide +kernel
theorem dX6_worthFrom_112 : decode cX6_worthFrom 112 = .ok (.iload 6, 2) := by decide +kernel
theorem dX6_worthFrom_114 : decode cX6_worthFrom 114 = .ok (.iload 9, 2) := by decide +kernel
theorem dX6_worthFrom_116 : decode cX6_worthFrom 116 = .ok (.invokestatic 52, 3) := by decide +kernel
theorem dX6_worthFrom_119 : decode cX6_worthFrom 119 = .ok (.istore 6, 2) := by decide +kernel
theorem dX6_worthFrom_121 : decode cX6_worthFrom 121 = .ok (.iinc 8 1, 3) := by decide +kernel
theorem dX6_worthFrom_124 : decode cX6_worthFrom 124 = .ok (.goto (-66), 3) := by decide +kernel
theorem dX6_worthFrom_127 : decode cX6_worthFrom 127 = .ok (.iload 6, 2) := by decide +kernel
theorem dX6_worthFrom_129 : decode cX6_worthFrom 129 = .ok (.ireturn, 1) := by decide +kernel
theorem dX6_mover_0 : decode cX6_mover 0 = .ok (.iload_n 1, 1) := by decide +kernel
theorem dX6_mover_1 : decode cX6_mover 1 = .ok (.iconst 2, 1) := by decide +kernel
theorem dX6_mover_2 : decode cX6_mover 2 = .ok (.irem, 1) := by decide +kernel
theorem dX6_mover_3 : decode cX6_mover 3 = .ok (.ifCond .ne 10, 3) := by decide +kernel
theorem dX6_mover_6 : decode cX6_mover 6 = .ok (.aload_n 0, 1) := by decide +kernel
theorem dX6_mover_7 : decode cX6_mover 7 = .ok (.getfield 9, 3) := by decide +kernel
theorem dX6_mover_10 : decode cX6_mover 10 = .ok (.goto 7, 3) := by decide +kernel
theorem dX6_mover_13 : decode cX6_mover 13 = .ok (.aload_n 0, 1) := by decide +kernel
theorem dX6_mover_14 : decode cX6_mover 14 = .ok (.getfield 15, 3) := by decide +kernel
theorem dX6_mover_17 : decode cX6_mover 17 = .ok (.ireturn, 1) := by decide +kernel
theorem dX6_worthAtEnd_0 : decode cX6_worthAtEnd 0 = .ok (.aload_n 1, 1) := by decide +kernel
theorem dX6_worthAtEnd_1 : decode cX6_worthAtEnd 1 = .ok (.iload_n 2, 1) := by decide +kernel
theorem dX6_worthAtEnd_2 : decode cX6_worthAtEnd 2 = .ok (.invokevirtual 58, 3) := by decide +kernel
theorem dX6_worthAtEnd_5 : decode cX6_worthAtEnd 5 = .ok (.istore 4, 2) := by decide +kernel
theorem dX6_worthAtEnd_7 : decode cX6_worthAtEnd 7 = .ok (.iload 4, 2) := by decide +kernel
theorem dX6_worthAtEnd_9 : decode cX6_worthAtEnd 9 = .ok (.aload_n 0, 1) := by decide +kernel
theorem dX6_worthAtEnd_10 : decode cX6_worthAtEnd 10 = .ok (.iload_n 3, 1) := by decide +kernel
theorem dX6_worthAtEnd_11 : decode cX6_worthAtEnd 11 = .ok (.invokevirtual 48, 3) := by decide +kernel
theorem dX6_worthAtEnd_14 : decode cX6_worthAtEnd 14 = .ok (.invokestatic 44, 3) := by decide +kernel
theorem dX6_worthAtEnd_17 : decode cX6_worthAtEnd 17 = .ok (.ifCond .eq 7, 3) := by decide +kernel
theorem dX6_worthAtEnd_20 : decode cX6_worthAtEnd 20 = .ok (.iconst 1, 1) := by decide +kernel
theorem dX6_worthAtEnd_21 : decode cX6_worthAtEnd 21 = .ok (.goto 4, 3) := by decide +kernel
theorem dX6_worthAtEnd_24 : decode cX6_worthAtEnd 24 = .ok (.iconst 0, 1) := by decide +kernel
theorem dX6_worthAtEnd_25 : decode cX6_worthAtEnd 25 = .ok (.istore 5, 2) := by decide +kernel
theorem dX6_worthAtEnd_27 : decode cX6_worthAtEnd 27 = .ok (.iload 4, 2) := by decide +kernel
theorem dX6_worthAtEnd_29 : decode cX6_worthAtEnd 29 = .ok (.aload_n 0, 1) := by decide +kernel
theorem dX6_worthAtEnd_30 : decode cX6_worthAtEnd 30 = .ok (.iload_n 3, 1) := by decide +kernel
theorem dX6_worthAtEnd_31 : decode cX6_worthAtEnd 31 = .ok (.iconst 1, 1) := by decide +kernel
theorem dX6_worthAtEnd_32 : decode cX6_worthAtEnd 32 = .ok (.iadd, 1) := by decide +kernel
theorem dX6_worthAtEnd_33 : decode cX6_worthAtEnd 33 = .ok (.invokevirtual 48, 3) := by decide +kernel
theorem dX6_worthAtEnd_36 : decode cX6_worthAtEnd 36 = .ok (.invokestatic 44, 3) := by decide +kernel
theorem dX6_worthAtEnd_39 : decode cX6_worthAtEnd 39 = .ok (.ifCond .eq 7, 3) := by decide +kernel
theorem dX6_worthAtEnd_42 : decode cX6_worthAtEnd 42 = .ok (.iconst 1, 1) := by decide +kernel
theorem dX6_worthAtEnd_43 : decode cX6_worthAtEnd 43 = .ok (.goto 4, 3) := by decide +kernel
theorem dX6_worthAtEnd_46 : decode cX6_worthAtEnd 46 = .ok (.iconst 0, 1) := by decide +kernel
theorem dX6_worthAtEnd_47 : decode cX6_worthAtEnd 47 = .ok (.istore 6, 2) := by decide +kernel
theorem dX6_worthAtEnd_49 : decode cX6_worthAtEnd 49 = .ok (.iconst 2, 1) := by decide +kernel
theorem dX6_worthAtEnd_50 : decode cX6_worthAtEnd 50 = .ok (.iload 5, 2) := by decide +kernel
theorem dX6_worthAtEnd_52 : decode cX6_worthAtEnd 52 = .ok (.imul, 1) := by decide +kernel
theorem dX6_worthAtEnd_53 : decode cX6_worthAtEnd 53 = .ok (.iload 6, 2) := by decide +kernel
theorem dX6_worthAtEnd_55 : decode cX6_worthAtEnd 55 = .ok (.isub, 1) := by decide +kernel
theorem dX6_worthAtEnd_56 : decode cX6_worthAtEnd 56 = .ok (.iconst 2, 1) := by decide +kernel
theorem dX6_worthAtEnd_57 : decode cX6_worthAtEnd 57 = .ok (.iload 6, 2) := by decide +kernel
theorem dX6_worthAtEnd_59 : decode cX6_worthAtEnd 59 = .ok (.imul, 1) := by decide +kernel
theorem dX6_worthAtEnd_60 : decode cX6_worthAtEnd 60 = .ok (.iload 5, 2) := by decide +kernel
theorem dX6_worthAtEnd_62 : decode cX6_worthAtEnd 62 = .ok (.isub, 1) := by decide +kernel
theorem dX6_worthAtEnd_63 : decode cX6_worthAtEnd 63 = .ok (.isub, 1) := by decide +kernel
theorem dX6_worthAtEnd_64 : decode cX6_worthAtEnd 64 = .ok (.ireturn, 1) := by decide +kernel
theorem dX7_init_0 : decode cX7_init 0 = .ok (.aload_n 0, 1) := by decide +kernel
theorem dX7_init_1 : decode cX7_init 1 = .ok (.invokespecial 3, 3) := by decide +kernel
theorem dX7_init_4 : decode cX7_init 4 = .ok (.return_, 1) := by decide +kernel
theorem dX7_begin_0 : decode cX7_begin 0 = .ok (.aload_n 0, 1) := by decide +kernel
theorem dX7_begin_1 : decode cX7_begin 1 = .ok (.iload_n 1, 1) := by decide +kernel
theorem dX7_begin_2 : decode cX7_begin 2 = .ok (.putfield 9, 3) := by decide +kernel
theorem dX7_begin_5 : decode cX7_begin 5 = .ok (.aload_n 0, 1) := by decide +kernel
theorem dX7_begin_6 : decode cX7_begin 6 = .ok (.iload_n 2, 1) := by decide +kernel
theorem dX7_begin_7 : decode cX7_begin 7 = .ok (.putfield 15, 3) := by decide +kernel
theorem dX7_begin_10 : decode cX7_begin 10 = .ok (.return_, 1) := by decide +kernel
theorem dX7_partFlying_0 : decode cX7_partFlying 0 = .ok (.lload 5, 2) := by decide +kernel
theorem dX7_partFlying_2 : decode cX7_partFlying 2 = .ok (.lconst 0, 1) := by decide +kernel
theorem dX7_partFlying_3 : decode cX7_partFlying 3 = .ok (.lcmp, 1) := by decide +kernel
theorem dX7_partFlying_4 : decode cX7_partFlying 4 = .ok (.ifCond .eq 20, 3) := by decide +kernel
theorem dX7_partFlying_7 : decode cX7_partFlying 7 = .ok (.aload_n 1, 1) := by decide +kernel
theorem dX7_partFlying_8 : decode cX7_partFlying 8 = .ok (.iload_n 2, 1) := by decide +kernel
theorem dX7_partFlying_9 : decode cX7_partFlying 9 = .ok (.iload_n 3, 1) := by decide +kernel
theorem dX7_partFlying_10 : decode cX7_partFlying 10 = .ok (.ior, 1) := by decide +kernel
theorem dX7_partFlying_11 : decode cX7_partFlying 11 = .ok (.invokevirtual 18, 3) := by decide +kernel
theorem dX7_partFlying_14 : decode cX7_partFlying 14 = .ok (.aload_n 0, 1) := by decide +kernel
theorem dX7_partFlying_15 : decode cX7_partFlying 15 = .ok (.getfield 9, 3) := by decide +kernel
theorem dX7_partFlying_18 : decode cX7_partFlying 18 = .ok (.invokestatic 24, 3) := by decide +kernel
theorem dX7_partFlying_21 : decode cX7_partFlying 21 = .ok (.ifCond .ne 5, 3) := by decide +kernel
theorem dX7_partFlying_24 : decode cX7_partFlying 24 = .ok (.lconst 0, 1) := by decide +kernel
theorem dX7_partFlying_25 : decode cX7_partFlying 25 = .ok (.lreturn, 1) := by decide +kernel
theorem dX7_partFlying_26 : decode cX7_partFlying 26 = .ok (.iload 4, 2) := by decide +kernel
theorem dX7_partFlying_28 : decode cX7_partFlying 28 = .ok (.bipush 12, 2) := by decide +kernel
theorem dX7_partFlying_30 : decode cX7_partFlying 30 = .ok (.if_icmp .ge 18, 3) := by decide +kernel
theorem dX7_partFlying_33 : decode cX7_partFlying 33 = .ok (.aload_n 1, 1) := by decide +kernel
theorem dX7_partFlying_34 : decode cX7_partFlying 34 = .ok (.iload_n 2, 1) := by decide +kernel
theorem dX7_partFlying_35 : decode cX7_partFlying 35 = .ok (.invokevirtual 18, 3) := by decide +kernel
theorem dX7_partFlying_38 : decode cX7_partFlying 38 = .ok (.aload_n 0, 1) := by decide +kernel
theorem dX7_partFlying_39 : decode cX7_partFlying 39 = .ok (.getfield 9, 3) := by decide +kernel
theorem dX7_partFlying_42 : decode cX7_partFlying 42 = .ok (.invokestatic 24, 3) := by decide +kernel
theorem dX7_partFlying_45 : decode cX7_partFlying 45 = .ok (.ifCond .eq 6, 3) := by decide +kernel
theorem dX7_partFlying_48 : decode cX7_partFlying 48 = .ok (.lload 5, 2) := by decide +kernel
theorem dX7_partFlying_50 : decode cX7_partFlying 50 = .ok (.lreturn, 1) := by decide +kernel
theorem dX7_partFlying_51 : decode cX7_partFlying 51 = .ok (.iconst 1, 1) := by decide +kernel
theorem dX7_partFlying_52 : decode cX7_partFlying 52 = .ok (.iload 4, 2) := by decide +kernel
theorem dX7_partFlying_54 : decode cX7_partFlying 54 = .ok (.ishl, 1) := by decide +kernel
theorem dX7_partFlying_55 : decode cX7_partFlying 55 = .ok (.istore 7, 2) := by decide +kernel
theorem dX7_partFlying_57 : decode cX7_partFlying 57 = .ok (.iload_n 3, 1) := by decide +kernel
theorem dX7_partFlying_58 : decode cX7_partFlying 58 = .ok (.iload 7, 2) := by decide +kernel
theorem dX7_partFlying_60 : decode cX7_partFlying 60 = .ok (.iand, 1) := by decide +kernel
theorem dX7_partFlying_61 : decode cX7_partFlying 61 = .ok (.ifCond .ne 17, 3) := by decide +kernel
theorem dX7_partFlying_64 : decode cX7_partFlying 64 = .ok (.aload_n 0, 1) := by decide +kernel
theorem dX7_partFlying_65 : decode cX7_partFlying 65 = .ok (.aload_n 1, 1) := by decide +kernel
theorem dX7_partFlying_66 : decode cX7_partFlying 66 = .ok (.iload_n 2, 1) := by decide +kernel
theorem dX7_partFlying_67 : decode cX7_partFlying 67 = .ok (.iload_n 3, 1) := by decide +kernel
theorem dX7_partFlying_68 : decode cX7_partFlying 68 = .ok (.iload 4, 2) := by decide +kernel
theorem dX7_partFlying_70 : decode cX7_partFlying 70 = .ok (.iconst 1, 1) := by decide +kernel
theorem dX7_partFlying_71 : decode cX7_partFlying 71 = .ok (.iadd, 1) := by decide +kernel
theorem dX7_partFlying_72 : decode cX7_partFlying 72 = .ok (.lload 5, 2) := by decide +kernel
theorem dX7_partFlying_74 : decode cX7_partFlying 74 = .ok (.invokestatic 28, 3) := by decide +kernel
theorem dX7_partFlying_77 : decode cX7_partFlying 77 = .ok (.lreturn, 1) := by decide +kernel
theorem dX7_partFlying_78 : decode cX7_partFlying 78 = .ok (.lload 5, 2) := by decide +kernel
theorem dX7_partFlying_80 : decode cX7_partFlying 80 = .ok (.aload_n 0, 1) := by decide +kernel
theorem dX7_partFlying_81 : decode cX7_partFlying 81 = .ok (.getfield 15, 3) := by decide +kernel
theorem dX7_partFlying_84 : decode cX7_partFlying 84 = .ok (.i2l, 1) := by decide +kernel
theorem dX7_partFlying_85 : decode cX7_partFlying 85 = .ok (.lmul, 1) := by decide +kernel
theorem dX7_partFlying_86 : decode cX7_partFlying 86 = .ok (.ldc2_w 32, 3) := by decide +kernel
theorem dX7_partFlying_89 : decode cX7_partFlying 89 = .ok (.ldiv, 1) := by decide +kernel
theorem dX7_partFlying_90 : decode cX7_partFlying 90 = .ok (.lstore 8, 2) := by decide +kernel
theorem dX7_partFlying_92 : decode cX7_partFlying 92 = .ok (.aload_n 0, 1) := by decide +kernel
theorem dX7_partFlying_93 : decode cX7_partFlying 93 = .ok (.aload_n 1, 1) := by decide +kernel
theorem dX7_partFlying_94 : decode cX7_partFlying 94 = .ok (.iload_n 2, 1) := by decide +kernel
theorem dX7_partFlying_95 : decode cX7_partFlying 95 = .ok (.iload_n 3, 1) := by decide +kernel
theorem dX7_partFlying_96 : decode cX7_partFlying 96 = .ok (.iload 7, 2) := by decide +kernel
theorem dX7_partFlying_98 : decode cX7_partFlying 98 = .ok (.iconst (-1), 1) := by decide +kernel
theorem dX7_partFlying_99 : decode cX7_partFlying 99 = .ok (.ixor, 1) := by decide +kernel
theorem dX7_partFlying_100 : decode cX7_partFlying 100 = .ok (.iand, 1) := by decide +kernel
theorem dX7_partFlying_101 : decode cX7_partFlying 101 = .ok (.iload 4, 2) := by decide +kernel
theorem dX7_partFlying_103 : decode cX7_partFlying 103 = .ok (.iconst 1, 1) := by decide +kernel
theorem dX7_partFlying_104 : decode cX7_partFlying 104 = .ok (.iadd, 1) := by decide +kernel
theorem dX7_partFlying_105 : decode cX7_partFlying 105 = .ok (.lload 8, 2) := by decide +kernel
theorem dX7_partFlying_107 : decode cX7_partFlying 107 = .ok (.invokestatic 28, 3) := by decide +kernel
theorem dX7_partFlying_110 : decode cX7_partFlying 110 = .ok (.aload_n 0, 1) := by decide +kernel
theorem dX7_partFlying_111 : decode cX7_partFlying 111 = .ok (.aload_n 1, 1) := by decide +kernel
theorem dX7_partFlying_112 : decode cX7_partFlying 112 = .ok (.iload_n 2, 1) := by decide +kernel
theorem dX7_partFlying_113 : decode cX7_partFlying 113 = .ok (.iload 7, 2) := by decide +kernel
theorem dX7_partFlying_115 : decode cX7_partFlying 115 = .ok (.ior, 1) := by decide +kernel
theorem dX7_partFlying_116 : decode cX7_partFlying 116 = .ok (.iload_n 3, 1) := by decide +kernel
theorem dX7_partFlying_117 : decode cX7_partFlying 117 = .ok (.iload 7, 2) := by decide +kernel
theorem dX7_partFlying_119 : decode cX7_partFlying 119 = .ok (.iconst (-1), 1) := by decide +kernel
theorem dX7_partFlying_120 : decode cX7_partFlying 120 = .ok (.ixor, 1) := by decide +kernel
theorem dX7_partFlying_121 : decode cX7_partFlying 121 = .ok (.iand, 1) := by decide +kernel
theorem dX7_partFlying_122 : decode cX7_partFlying 122 = .ok (.iload 4, 2) := by decide +kernel
theorem dX7_partFlying_124 : decode cX7_partFlying 124 = .ok (.iconst 1, 1) := by decide +kernel
theorem dX7_partFlying_125 : decode cX7_partFlying 125 = .ok (.iadd, 1) := by decide +kernel
theorem dX7_partFlying_126 : decode cX7_partFlying 126 = .ok (.lload 5, 2) := by decide +kernel
theorem dX7_partFlying_128 : decode cX7_partFlying 128 = .ok (.lload 8, 2) := by decide +kernel
theorem dX7_partFlying_130 : decode cX7_partFlying 130 = .ok (.lsub, 1) := by decide +kernel
theorem dX7_partFlying_131 : decode cX7_partFlying 131 = .ok (.invokestatic 28, 3) := by decide +kernel
theorem dX7_partFlying_134 : decode cX7_partFlying 134 = .ok (.ladd, 1) := by decide +kernel
theorem dX7_partFlying_135 : decode cX7_partFlying 135 = .ok (.lreturn, 1) := by decide +kernel
theorem dX7_ofBillion_0 : decode cX7_ofBillion 0 = .ok (.aload_n 0, 1) := by decide +kernel
theorem dX7_ofBillion_1 : decode cX7_ofBillion 1 = .ok (.aload_n 1, 1) := by decide +kernel
theorem dX7_ofBillion_2 : decode cX7_ofBillion 2 = .ok (.iload_n 2, 1) := by decide +kernel
theorem dX7_ofBillion_3 : decode cX7_ofBillion 3 = .ok (.iload_n 3, 1) := by decide +kernel
theorem dX7_ofBillion_4 : decode cX7_ofBillion 4 = .ok (.iand, 1) := by decide +kernel
theorem dX7_ofBillion_5 : decode cX7_ofBillion 5 = .ok (.iload_n 2, 1) := by decide +kernel
theorem dX7_ofBillion_6 : decode cX7_ofBillion 6 = .ok (.iload_n 3, 1) := by decide +kernel
theorem dX7_ofBillion_7 : decode cX7_ofBillion 7 = .ok (.iconst (-1), 1) := by decide +kernel
theorem dX7_ofBillion_8 : decode cX7_ofBillion 8 = .ok (.ixor, 1) := by decide +kernel
theorem dX7_ofBillion_9 : decode cX7_ofBillion 9 = .ok (.iand, 1) := by decide +kernel
theorem dX7_ofBillion_10 : decode cX7_ofBillion 10 = .ok (.iconst 0, 1) := by decide +kernel
theorem dX7_ofBillion_11 : decode cX7_ofBillion 11 = .ok (.ldc2_w 34, 3) := by decide +kernel
theorem dX7_ofBillion_14 : decode cX7_ofBillion 14 = .ok (.invokestatic 28, 3) := by decide +kernel
theorem dX7_ofBillion_17 : decode cX7_ofBillion 17 = .ok (.l2i, 1) := by decide +kernel
theorem dX7_ofBillion_18 : decode cX7_ofBillion 18 = .ok (.ireturn, 1) := by decide +kernel
theorem dX8_init_0 : decode cX8_init 0 = .ok (.aload_n 0, 1) := by decide +kernel
theorem dX8_init_1 : decode cX8_init 1 = .ok (.invokespecial 3, 3) := by decide +kernel
theorem dX8_init_4 : decode cX8_init 4 = .ok (.aload_n 0, 1) := by decide +kernel
theorem dX8_init_5 : decode cX8_init 5 = .ok (.new 9, 3) := by decide +kernel
theorem dX8_init_8 : decode cX8_init 8 = .ok (.dup, 1) := by decide +kernel
theorem dX8_init_9 : decode cX8_init 9 = .ok (.invokespecial 11, 3) := by decide +kernel
theorem dX8_init_12 : decode cX8_init 12 = .ok (.putfield 12, 3) := by decide +kernel
theorem dX8_init_15 : decode cX8_init 15 = .ok (.aload_n 0, 1) := by decide +kernel
theorem dX8_init_16 : decode cX8_init 16 = .ok (.new 16, 3) := by decide +kernel
theorem dX8_init_19 : decode cX8_init 19 = .ok (.dup, 1) := by decide +kernel
theorem dX8_init_20 : decode cX8_init 20 = .ok (.invokespecial 18, 3) := by decide +kernel
theorem dX8_init_23 : decode cX8_init 23 = .ok (.putfield 19, 3) := by decide +kernel
theorem dX8_init_26 : decode cX8_init 26 = .ok (.aload_n 0, 1) := by decide +kernel
theorem dX8_init_27 : decode cX8_init 27 = .ok (.iconst 2, 1) := by decide +kernel
theorem dX8_init_28 : decode cX8_init 28 = .ok (.anewarray 16, 3) := by decide +kernel
theorem dX8_init_31 : decode cX8_init 31 = .ok (.dup, 1) := by decide +kernel
theorem dX8_init_32 : decode cX8_init 32 = .ok (.iconst 0, 1) := by decide +kernel
theorem dX8_init_33 : decode cX8_init 33 = .ok (.new 16, 3) := by decide +kernel
theorem dX8_init_36 : decode cX8_init 36 = .ok (.dup, 1) := by decide +kernel
theorem dX8_init_37 : decode cX8_init 37 = .ok (.invokespecial 18, 3) := by decide +kernel
theorem dX8_init_40 : decode cX8_init 40 = .ok (.aastore, 1) := by decide +kernel
theorem dX8_init_41 : decode cX8_init 41 = .ok (.dup, 1) := by decide +kernel
theorem dX8_init_42 : decode cX8_init 42 = .ok (.iconst 1, 1) := by decide +kernel
theorem dX8_init_43 : decode cX8_init 43 = .ok (.new 16, 3) := by decide +kernel
theorem dX8_init_46 : decode cX8_init 46 = .ok (.dup, 1) := by decide +kernel
theorem dX8_init_47 : decode cX8_init 47 = .ok (.invokespecial 18, 3) := by decide +kernel
theorem dX8_init_50 : decode cX8_init 50 = .ok (.aastore, 1) := by decide +kernel
theorem dX8_init_51 : decode cX8_init 51 = .ok (.putfield 23, 3) := by decide +kernel
theorem dX8_init_54 : decode cX8_init 54 = .ok (.aload_n 0, 1) := by decide +kernel
theorem dX8_init_55 : decode cX8_init 55 = .ok (.new 27, 3) := by decide +kernel
theorem dX8_init_58 : decode cX8_init 58 = .ok (.dup, 1) := by decide +kernel
theorem dX8_init_59 : decode cX8_init 59 = .ok (.invokespecial 29, 3) := by decide +kernel
theorem dX8_init_62 : decode cX8_init 62 = .ok (.putfield 30, 3) := by decide +kernel
theorem dX8_init_65 : decode cX8_init 65 = .ok (.aload_n 0, 1) := by decide +kernel
theorem dX8_init_66 : decode cX8_init 66 = .ok (.new 34, 3) := by decide +kernel
theorem dX8_init_69 : decode cX8_init 69 = .ok (.dup, 1) := by decide +kernel
theorem dX8_init_70 : decode cX8_init 70 = .ok (.invokespecial 36, 3) := by decide +kernel
theorem dX8_init_73 : decode cX8_init 73 = .ok (.putfield 37, 3) := by decide +kernel
theorem dX8_init_76 : decode cX8_init 76 = .ok (.aload_n 0, 1) := by decide +kernel
theorem dX8_init_77 : decode cX8_init 77 = .ok (.new 41, 3) := by decide +kernel
theorem dX8_init_80 : decode cX8_init 80 = .ok (.dup, 1) := by decide +kernel
theorem dX8_init_81 : decode cX8_init 81 = .ok (.invokespecial 43, 3) := by decide +kernel
theorem dX8_init_84 : decode cX8_init 84 = .ok (.putfield 44, 3) := by decide +kernel
theorem dX8_init_87 : decode cX8_init 87 = .ok (.aload_n 0, 1) := by decide +kernel
theorem dX8_init_88 : decode cX8_init 88 = .ok (.new 48, 3) := by decide +kernel
theorem dX8_init_91 : decode cX8_init 91 = .ok (.dup, 1) := by decide +kernel
theorem dX8_init_92 : decode cX8_init 92 = .ok (.invokespecial 50, 3) := by decide +kernel
theorem dX8_init_95 : decode cX8_init 95 = .ok (.putfield 51, 3) := by decide +kernel
theorem dX8_init_98 : decode cX8_init 98 = .ok (.aload_n 0, 1) := by decide +kernel
theorem dX8_init_99 : decode cX8_init 99 = .ok (.new 55, 3) := by decide +kernel
theorem dX8_init_102 : decode cX8_init 102 = .ok (.dup, 1) := by decide +kernel
theorem dX8_init_103 : decode cX8_init 103 = .ok (.invokespecial 57, 3) := by decide +kernel
theorem dX8_init_106 : decode cX8_init 106 = .ok (.putfield 58, 3) := by decide +kernel
theorem dX8_init_109 : decode cX8_init 109 = .ok (.aload_n 0, 1) := by decide +kernel
theorem dX8_init_110 : decode cX8_init 110 = .ok (.bipush 8, 2) := by decide +kernel
theorem dX8_init_112 : decode cX8_init 112 = .ok (.newarray .int, 2) := by decide +kernel
theorem dX8_init_114 : decode cX8_init 114 = .ok (.putfield 62, 3) := by decide +kernel
theorem dX8_init_117 : decode cX8_init 117 = .ok (.aload_n 0, 1) := by decide +kernel
theorem dX8_init_118 : decode cX8_init 118 = .ok (.new 66, 3) := by decide +kernel
theorem dX8_init_121 : decode cX8_init 121 = .ok (.dup, 1) := by decide +kernel
theorem dX8_init_122 : decode cX8_init 122 = .ok (.invokespecial 68, 3) := by decide +kernel
theorem dX8_init_125 : decode cX8_init 125 = .ok (.putfield 69, 3) := by decide +kernel
theorem dX8_init_128 : decode cX8_init 128 = .ok (.aload_n 0, 1) := by decide +kernel
theorem dX8_init_129 : decode cX8_init 129 = .ok (.new 66, 3) := by decide +kernel
theorem dX8_init_132 : decode cX8_init 132 = .ok (.dup, 1) := by decide +kernel
theorem dX8_init_133 : decode cX8_init 133 = .ok (.invokespecial 68, 3) := by decide +kernel
theorem dX8_init_136 : decode cX8_init 136 = .ok (.putfield 73, 3) := by decide +kernel
theorem dX8_init_139 : decode cX8_init 139 = .ok (.return_, 1) := by decide +kernel
theorem dX8_feed_0 : decode cX8_feed 0 = .ok (.iload_n 1, 1) := by decide +kernel
theorem dX8_feed_1 : decode cX8_feed 1 = .ok (.iconst 1, 1) := by decide +kernel
theorem dX8_feed_2 : decode cX8_feed 2 = .ok (.if_icmp .lt 9, 3) := by decide +kernel
theorem dX8_feed_5 : decode cX8_feed 5 = .ok (.iload_n 1, 1) := by decide +kernel
theorem dX8_feed_6 : decode cX8_feed 6 = .ok (.bipush 8, 2) := by decide +kernel
theorem dX8_feed_8 : decode cX8_feed 8 = .ok (.if_icmp .le 6, 3) := by decide +kernel
theorem dX8_feed_11 : decode cX8_feed 11 = .ok (.ldc 76, 2) := by decide +kernel
theorem dX8_feed_13 : decode cX8_feed 13 = .ok (.ireturn, 1) := by decide +kernel
theorem dX8_feed_14 : decode cX8_feed 14 = .ok (.aload_n 0, 1) := by decide +kernel
theorem dX8_feed_15 : decode cX8_feed 15 = .ok (.getfield 12, 3) := by decide +kernel
theorem dX8_feed_18 : decode cX8_feed 18 = .ok (.iload_n 1, 1) := by decide +kernel
theorem dX8_feed_19 : decode cX8_feed 19 = .ok (.invokevirtual 77, 3) := by decide +kernel
theorem dX8_feed_22 : decode cX8_feed 22 = .ok (.ifCond .ne 6, 3) := by decide +kernel
theorem dX8_feed_25 : decode cX8_feed 25 = .ok (.ldc 81, 2) := by decide +kernel
theorem dX8_feed_27 : decode cX8_feed 27 = .ok (.ireturn, 1) := by decide +kernel
theorem dX8_feed_28 : decode cX8_feed 28 = .ok (.aload_n 0, 1) := by decide +kernel
theorem dX8_feed_29 : decode cX8_feed 29 = .ok (.getfield 12, 3) := by decide +kernel
theorem dX8_feed_32 : decode cX8_feed 32 = .ok (.iload_n 1, 1) := by decide +kernel
theorem dX8_feed_33 : decode cX8_feed 33 = .ok (.lload_n 2, 1) := by decide +kernel
theorem dX8_feed_34 : decode cX8_feed 34 = .ok (.invokevirtual 82, 3) := by decide +kernel
theorem dX8_feed_37 : decode cX8_feed 37 = .ok (.aload_n 0, 1) := by decide +kernel
theorem dX8_feed_38 : decode cX8_feed 38 = .ok (.getfield 12, 3) := by decide +kernel
theorem dX8_feed_41 : decode cX8_feed 41 = .ok (.getfield 86, 3) := by decide +kernel
theorem dX8_feed_44 : decode cX8_feed 44 = .ok (.ireturn, 1) := by decide +kernel
theorem dX8_flag_0 : decode cX8_flag 0 = .ok (.aload_n 0, 1) := by decide +kernel
theorem dX8_flag_1 : decode cX8_flag 1 = .ok (.getfield 12, 3) := by decide +kernel
theorem dX8_flag_4 : decode cX8_flag 4 = .ok (.aload_n 0, 1) := by decide +kernel
theorem dX8_flag_5 : decode cX8_flag 5 = .ok (.getfield 73, 3) := by decide +kernel
theorem dX8_flag_8 : decode cX8_flag 8 = .ok (.invokevirtual 90, 3) := by decide +kernel
theorem dX8_flag_11 : decode cX8_flag 11 = .ok (.aload_n 0, 1) := by decide +kernel
theorem dX8_flag_12 : decode cX8_flag 12 = .ok (.getfield 12, 3) := by decide +kernel
theorem dX8_flag_15 : decode cX8_flag 15 = .ok (.iconst 0, 1) := by decide +kernel
theorem dX8_flag_16 : decode cX8_flag 16 = .ok (.putfield 86, 3) := by decide +kernel
theorem dX8_flag_19 : decode cX8_flag 19 = .ok (.aload_n 0, 1) := by decide +kernel
theorem dX8_flag_20 : decode cX8_flag 20 = .ok (.getfield 12, 3) := by decide +kernel
theorem dX8_flag_23 : decode cX8_flag 23 = .ok (.getfield 94, 3) := by decide +kernel
theorem dX8_flag_26 : decode cX8_flag 26 = .ok (.ifCond .eq 14, 3) := by decide +kernel
theorem dX8_flag_29 : decode cX8_flag 29 = .ok (.bipush (-10), 2) := by decide +kernel
theorem dX8_flag_31 : decode cX8_flag 31 = .ok (.aload_n 0, 1) := by decide +kernel
theorem dX8_flag_32 : decode cX8_flag 32 = .ok (.getfield 12, 3) := by decide +kernel
theorem dX8_flag_35 : decode cX8_flag 35 = .ok (.getfield 94, 3) := by decide +kernel
theorem dX8_flag_38 : decode cX8_flag 38 = .ok (.isub, 1) := by decide +kernel
theorem dX8_flag_39 : decode cX8_flag 39 = .ok (.ireturn, 1) := by decide +kernel
theorem dX8_flag_40 : decode cX8_flag 40 = .ok (.aload_n 0, 1) := by decide +kernel
theorem dX8_flag_41 : decode cX8_flag 41 = .ok (.getfield 73, 3) := by decide +kernel
theorem dX8_flag_44 : decode cX8_flag 44 = .ok (.astore_n 1, 1) := by decide +kernel
theorem dX8_flag_45 : decode cX8_flag 45 = .ok (.aload_n 0, 1) := by decide +kernel
theorem dX8_flag_46 : decode cX8_flag 46 = .ok (.aload_n 0, 1) := by decide +kernel
theorem dX8_flag_47 : decode cX8_flag 47 = .ok (.getfield 69, 3) := by decide +kernel
theorem dX8_flag_50 : decode cX8_flag 50 = .ok (.putfield 73, 3) := by decide +kernel
theorem dX8_flag_53 : decode cX8_flag 53 = .ok (.aload_n 0, 1) := by decide +kernel
theorem dX8_flag_54 : decode cX8_flag 54 = .ok (.aload_n 1, 1) := by decide +kernel
theorem dX8_flag_55 : decode cX8_flag 55 = .ok (.putfield 69, 3) := by decide +kernel
theorem dX8_flag_58 : decode cX8_flag 58 = .ok (.aload_n 0, 1) := by decide +kernel
theorem dX8_flag_59 : decode cX8_flag 59 = .ok (.getfield 19, 3) := by decide +kernel
theorem dX8_flag_62 : decode cX8_flag 62 = .ok (.aload_n 0, 1) := by decide +kernel
theorem dX8_flag_63 : decode cX8_flag 63 = .ok (.getfield 69, 3) := by decide +kernel
theorem dX8_flag_66 : decode cX8_flag 66 = .ok (.invokevirtual 97, 3) := by decide +kernel
theorem dX8_flag_69 : decode cX8_flag 69 = .ok (.iconst 0, 1) := by decide +kernel
theorem dX8_flag_70 : decode cX8_flag 70 = .ok (.istore_n 2, 1) := by decide +kernel
theorem dX8_flag_71 : decode cX8_flag 71 = .ok (.iload_n 2, 1) := by decide +kernel
theorem dX8_flag_72 : decode cX8_flag 72 = .ok (.bipush 8, 2) := by decide +kernel
theorem dX8_flag_74 : decode cX8_flag 74 = .ok (.if_icmp .ge 22, 3) := by decide +kernel
theorem dX8_flag_77 : decode cX8_flag 77 = .ok (.aload_n 0, 1) := by decide +kernel
theorem dX8_flag_78 : decode cX8_flag 78 = .ok (.getfield 62, 3) := by decide +kernel
theorem dX8_flag_81 : decode cX8_flag 81 = .ok (.iload_n 2, 1) := by decide +kernel
theorem dX8_flag_82 : decode cX8_flag 82 = .ok (.aload_n 0, 1) := by decide +kernel
theorem dX8_flag_83 : decode cX8_flag 83 = .ok (.getfield 69, 3) := by decide +kernel
theorem dX8_flag_86 : decode cX8_flag 86 = .ok (.invokevirtual 100, 3) := by decide +kernel
theorem dX8_flag_89 : decode cX8_flag 89 = .ok (.iastore, 1) := by decide +kernel
theorem dX8_flag_90 : decode cX8_flag 90 = .ok (.iinc 2 1, 3) := by decide +kernel
theorem dX8_flag_93 : decode cX8_flag 93 = .ok (.goto (-22), 3) := by decide +kernel
theorem dX8_flag_96 : decode cX8_flag 96 = .ok (.aload_n 0, 1) := by decide +kernel
theorem dX8_flag_97 : decode cX8_flag 97 = .ok (.getfield 30, 3) := by decide +kernel
theorem dX8_flag_100 : decode cX8_flag 100 = .ok (.iconst 0, 1) := by decide +kernel
theorem dX8_flag_101 : decode cX8_flag 101 = .ok (.putfield 104, 3) := by decide +kernel
theorem dX8_flag_104 : decode cX8_flag 104 = .ok (.aload_n 0, 1) := by decide +kernel
theorem dX8_flag_105 : decode cX8_flag 105 = .ok (.iconst 0, 1) := by decide +kernel
theorem dX8_flag_106 : decode cX8_flag 106 = .ok (.putfield 107, 3) := by decide +kernel
theorem dX8_flag_109 : decode cX8_flag 109 = .ok (.aload_n 0, 1) := by decide +kernel
theorem dX8_flag_110 : decode cX8_flag 110 = .ok (.getfield 69, 3) := by decide +kernel
theorem dX8_flag_113 : decode cX8_flag 113 = .ok (.getfield 110, 3) := by decide +kernel
theorem dX8_flag_116 : decode cX8_flag 116 = .ok (.ireturn, 1) := by decide +kernel
theorem dX8_fault_0 : decode cX8_fault 0 = .ok (.aload_n 0, 1) := by decide +kernel
theorem dX8_fault_1 : decode cX8_fault 1 = .ok (.getfield 12, 3) := by decide +kernel
theorem dX8_fault_4 : decode cX8_fault 4 = .ok (.getfield 113, 3) := by decide +kernel
theorem dX8_fault_7 : decode cX8_fault 7 = .ok (.ireturn, 1) := by decide +kernel
theorem dX8_told_0 : decode cX8_told 0 = .ok (.iload_n 1, 1) := by decide +kernel
theorem dX8_told_1 : decode cX8_told 1 = .ok (.tableswitch 127 0 8 #[51, 59, 67, 75, 83, 91, 99, 107, 119], 51) := by decide +kernel
theorem dX8_told_52 : decode cX8_told 52 = .ok (.aload_n 0, 1) := by decide +kernel
theorem dX8_told_53 : decode cX8_told 53 = .ok (.getfield 69, 3) := by decide +kernel
theorem dX8_told_56 : decode cX8_told 56 = .ok (.getfield 116, 3) := by decide +kernel
theorem dX8_told_59 : decode cX8_told 59 = .ok (.ireturn, 1) := by decide +kernel
theorem dX8_told_60 : decode cX8_told 60 = .ok (.aload_n 0, 1) := by decide +kernel
theorem dX8_told_61 : decode cX8_told 61 = .ok (.getfield 69, 3) := by decide +kernel
theorem dX8_told_64 : decode cX8_told 64 = .ok (.getfield 110, 3) := by decide +kernel
theorem dX8_told_67 : decode cX8_told 67 = .ok (.ireturn, 1) := by decide +kernel
theorem dX8_told_68 : decode cX8_told 68 = .ok (.aload_n 0, 1) := by decide +kernel
theorem dX8_told_69 : decode cX8_told 69 = .ok (.getfield 69, 3) := by decide +kernel
theorem dX8_told_72 : decode cX8_told 72 = .ok (.getfield 119, 3) := by decide +kernel
theorem dX8_told_75 : decode cX8_told 75 = .ok (.ireturn, 1) := by decide +kernel
theorem dX8_told_76 : decode cX8_told 76 = .ok (.aload_n 0, 1) := by decide +kernel
theorem dX8_told_77 : decode cX8_told 77 = .ok (.getfield 69, 3) := by decide +kernel
theorem dX8_told_80 : decode cX8_told 80 = .ok (.getfield 122, 3) := by decide +kernel
theorem dX8_told_83 : decode cX8_told 83 = .ok (.ireturn, 1) := by decide +kernel
theorem dX8_told_84 : decode cX8_told 84 = .ok (.aload_n 0, 1) := by decide +kernel
theorem dX8_told_85 : decode cX8_told 85 = .ok (.getfield 12, 3) := by decide +kernel
theorem dX8_told_88 : decode cX8_told 88 = .ok (.getfield 86, 3) := by decide +kernel
theorem dX8_told_91 : decode cX8_told 91 = .ok (.ireturn, 1) := by decide +kernel
theorem dX8_told_92 : decode cX8_told 92 = .ok (.aload_n 0, 1) := by decide +kernel
theorem dX8_told_93 : decode cX8_told 93 = .ok (.getfield 19, 3) := by decide +kernel
theorem dX8_told_96 : decode cX8_told 96 = .ok (.invokevirtual 125, 3) := by decide +kernel
theorem dX8_told_99 : decode cX8_told 99 = .ok (.ireturn, 1) := by decide +kernel
theorem dX8_told_100 : decode cX8_told 100 = .ok (.aload_n 0, 1) := by decide +kernel
theorem dX8_told_101 : decode cX8_told 101 = .ok (.getfield 19, 3) := by decide +kernel
theorem dX8_told_104 : decode cX8_told 104 = .ok (.getfield 128, 3) := by decide +kernel
theorem dX8_told_107 : decode cX8_told 107 = .ok (.ireturn, 1) := by decide +kernel
theorem dX8_told_108 : decode cX8_told 108 = .ok (.aload_n 0, 1) := by decide +kernel
theorem dX8_told_109 : decode cX8_told 109 = .ok (.getfield 19, 3) := by decide +kernel
theorem dX8_told_112 : decode cX8_told 112 = .ok (.aload_n 0, 1) := by decide +kernel
theorem dX8_told_113 : decode cX8_told 113 = .ok (.getfield 69, 3) := by decide +kernel
theorem dX8_told_116 : decode cX8_told 116 = .ok (.invokevirtual 131, 3) := by decide +kernel
theorem dX8_told_119 : decode cX8_told 119 = .ok (.ireturn, 1) := by decide +kernel
theorem dX8_told_120 : decode cX8_told 120 = .ok (.aload_n 0, 1) := by decide +kernel
theorem dX8_told_121 : decode cX8_told 121 = .ok (.getfield 30, 3) := by decide +kernel
theorem dX8_told_124 : decode cX8_told 124 = .ok (.getfield 104, 3) := by decide +kernel
theorem dX8_told_127 : decode cX8_told 127 = .ok (.ireturn, 1) := by decide +kernel
theorem dX8_told_128 : decode cX8_told 128 = .ok (.ldc 76, 2) := by decide +kernel
theorem dX8_told_130 : decode cX8_told 130 = .ok (.ireturn, 1) := by decide +kernel
theorem dX8_seam_0 : decode cX8_seam 0 = .ok (.aload_n 0, 1) := by decide +kernel
theorem dX8_seam_1 : decode cX8_seam 1 = .ok (.getfield 69, 3) := by decide +kernel
theorem dX8_seam_4 : decode cX8_seam 4 = .ok (.iload_n 1, 1) := by decide +kernel
theorem dX8_seam_5 : decode cX8_seam 5 = .ok (.invokevirtual 135, 3) := by decide +kernel
theorem dX8_seam_8 : decode cX8_seam 8 = .ok (.ifCond .ne 6, 3) := by decide +kernel
theorem dX8_seam_11 : decode cX8_seam 11 = .ok (.ldc 138, 2) := by decide +kernel
theorem dX8_seam_13 : decode cX8_seam 13 = .ok (.ireturn, 1) := by decide +kernel
theorem dX8_seam_14 : decode cX8_seam 14 = .ok (.iload_n 2, 1) := by decide +kernel
theorem dX8_seam_15 : decode cX8_seam 15 = .ok (.tableswitch 79 0 3 #[29, 39, 49, 59], 29) := by decide +kernel
theorem dX8_seam_44 : decode cX8_seam 44 = .ok (.aload_n 0, 1) := by decide +kernel
theorem dX8_seam_45 : decode cX8_seam 45 = .ok (.getfield 69, 3) := by decide +kernel
theorem dX8_seam_48 : decode cX8_seam 48 = .ok (.getfield 139, 3) := by decide +kernel
theorem dX8_seam_51 : decode cX8_seam 51 = .ok (.iload_n 1, 1) := by decide +kernel
theorem dX8_seam_52 : decode cX8_seam 52 = .ok (.iaload, 1) := by decide +kernel
theorem dX8_seam_53 : decode cX8_seam 53 = .ok (.ireturn, 1) := by decide +kernel
theorem dX8_seam_54 : decode cX8_seam 54 = .ok (.aload_n 0, 1) := by decide +kernel
theorem dX8_seam_55 : decode cX8_seam 55 = .ok (.getfield 69, 3) := by decide +kernel
theorem dX8_seam_58 : decode cX8_seam 58 = .ok (.getfield 142, 3) := by decide +kernel
theorem dX8_seam_61 : decode cX8_seam 61 = .ok (.iload_n 1, 1) := by decide +kernel
theorem dX8_seam_62 : decode cX8_seam 62 = .ok (.iaload, 1) := by decide +kernel
theorem dX8_seam_63 : decode cX8_seam 63 = .ok (.ireturn, 1) := by decide +kernel
theorem dX8_seam_64 : decode cX8_seam 64 = .ok (.aload_n 0, 1) := by decide +kernel
theorem dX8_seam_65 : decode cX8_seam 65 = .ok (.getfield 19, 3) := by decide +kernel
theorem dX8_seam_68 : decode cX8_seam 68 = .ok (.getfield 145, 3) := by decide +kernel
theorem dX8_seam_71 : decode cX8_seam 71 = .ok (.iload_n 1, 1) := by decide +kernel
theorem dX8_seam_72 : decode cX8_seam 72 = .ok (.iaload, 1) := by decide +kernel
theorem dX8_seam_73 : decode cX8_seam 73 = .ok (.ireturn, 1) := by decide +kernel
theorem dX8_seam_74 : decode cX8_seam 74 = .ok (.aload_n 0, 1) := by decide +kernel
theorem dX8_seam_75 : decode cX8_seam 75 = .ok (.getfield 19, 3) := by decide +kernel
theorem dX8_seam_78 : decode cX8_seam 78 = .ok (.getfield 128, 3) := by decide +kernel
theorem dX8_seam_81 : decode cX8_seam 81 = .ok (.iload_n 1, 1) := by decide +kernel
theorem dX8_seam_82 : decode cX8_seam 82 = .ok (.invokestatic 148, 3) := by decide +kernel
theorem dX8_seam_85 : decode cX8_seam 85 = .ok (.ifCond .eq 7, 3) := by decide +kernel
theorem dX8_seam_88 : decode cX8_seam 88 = .ok (.iconst 1, 1) := by decide +kernel
theorem dX8_seam_89 : decode cX8_seam 89 = .ok (.goto 4, 3) := by decide +kernel
theorem dX8_seam_92 : decode cX8_seam 92 = .ok (.iconst 0, 1) := by decide +kernel
theorem dX8_seam_93 : decode cX8_seam 93 = .ok (.ireturn, 1) := by decide +kernel
theorem dX8_seam_94 : decode cX8_seam 94 = .ok (.ldc 76, 2) := by decide +kernel
theorem dX8_seam_96 : decode cX8_seam 96 = .ok (.ireturn, 1) := by decide +kernel
theorem dX8_strip_0 : decode cX8_strip 0 = .ok (.aload_n 0, 1) := by decide +kernel
theorem dX8_strip_1 : decode cX8_strip 1 = .ok (.getfield 69, 3) := by decide +kernel
theorem dX8_strip_4 : decode cX8_strip 4 = .ok (.iload_n 1, 1) := by decide +kernel
theorem dX8_strip_5 : decode cX8_strip 5 = .ok (.invokevirtual 152, 3) := by decide +kernel
theorem dX8_strip_8 : decode cX8_strip 8 = .ok (.ifCond .ne 6, 3) := by decide +kernel
theorem dX8_strip_11 : decode cX8_strip 11 = .ok (.ldc 138, 2) := by decide +kernel
theorem dX8_strip_13 : decode cX8_strip 13 = .ok (.ireturn, 1) := by decide +kernel
theorem dX8_strip_14 : decode cX8_strip 14 = .ok (.iload_n 2, 1) := by decide +kernel
theorem dX8_strip_15 : decode cX8_strip 15 = .ok (.tableswitch 78 0 3 #[29, 39, 55, 71], 29) := by decide +kernel
theorem dX8_strip_44 : decode cX8_strip 44 = .ok (.aload_n 0, 1) := by decide +kernel
theorem dX8_strip_45 : decode cX8_strip 45 = .ok (.getfield 19, 3) := by decide +kernel
theorem dX8_strip_48 : decode cX8_strip 48 = .ok (.getfield 155, 3) := by decide +kernel
theorem dX8_strip_51 : decode cX8_strip 51 = .ok (.iload_n 1, 1) := by decide +kernel
theorem dX8_strip_52 : decode cX8_strip 52 = .ok (.iaload, 1) := by decide +kernel
theorem dX8_strip_53 : decode cX8_strip 53 = .ok (.ireturn, 1) := by decide +kernel
theorem dX8_strip_54 : decode cX8_strip 54 = .ok (.aload_n 0, 1) := by decide +kernel
theorem dX8_strip_55 : decode cX8_strip 55 = .ok (.getfield 69, 3) := by decide +kernel
theorem dX8_strip_58 : decode cX8_strip 58 = .ok (.iload_n 1, 1) := by decide +kernel
theorem dX8_strip_59 : decode cX8_strip 59 = .ok (.aload_n 0, 1) := by decide +kernel
theorem dX8_strip_60 : decode cX8_strip 60 = .ok (.getfield 19, 3) := by decide +kernel
theorem dX8_strip_63 : decode cX8_strip 63 = .ok (.invokevirtual 125, 3) := by decide +kernel
theorem dX8_strip_66 : decode cX8_strip 66 = .ok (.invokevirtual 157, 3) := by decide +kernel
theorem dX8_strip_69 : decode cX8_strip 69 = .ok (.ireturn, 1) := by decide +kernel
theorem dX8_strip_70 : decode cX8_strip 70 = .ok (.aload_n 0, 1) := by decide +kernel
theorem dX8_strip_71 : decode cX8_strip 71 = .ok (.getfield 69, 3) := by decide +kernel
theorem dX8_strip_74 : decode cX8_strip 74 = .ok (.iload_n 1, 1) := by decide +kernel
theorem dX8_strip_75 : decode cX8_strip 75 = .ok (.aload_n 0, 1) := by decide +kernel
theorem dX8_strip_76 : decode cX8_strip 76 = .ok (.getfield 19, 3) := by decide +kernel
theorem dX8_strip_79 : decode cX8_strip 79 = .ok (.invokevirtual 125, 3) := by decide +kernel
theorem dX8_strip_82 : decode cX8_strip 82 = .ok (.invokevirtual 161, 3) := by decide +kernel
theorem dX8_strip_85 : decode cX8_strip 85 = .ok (.ireturn, 1) := by decide +kernel
theorem dX8_strip_86 : decode cX8_strip 86 = .ok (.aload_n 0, 1) := by decide +kernel
theorem dX8_strip_87 : decode cX8_strip 87 = .ok (.getfield 62, 3) := by decide +kernel
theorem dX8_strip_90 : decode cX8_strip 90 = .ok (.iload_n 1, 1) := by decide +kernel
theorem dX8_strip_91 : decode cX8_strip 91 = .ok (.iaload, 1) := by decide +kernel
theorem dX8_strip_92 : decode cX8_strip 92 = .ok (.ireturn, 1) := by decide +kernel
theorem dX8_strip_93 : decode cX8_strip 93 = .ok (.ldc 76, 2) := by decide +kernel
theorem dX8_strip_95 : decode cX8_strip 95 = .ok (.ireturn, 1) := by decide +kernel
theorem dX8_flies_0 : decode cX8_flies 0 = .ok (.iload_n 1, 1) := by decide +kernel
theorem dX8_flies_1 : decode cX8_flies 1 = .ok (.ifCond .lt 9, 3) := by decide +kernel
theorem dX8_flies_4 : decode cX8_flies 4 = .ok (.iload_n 1, 1) := by decide +kernel
theorem dX8_flies_5 : decode cX8_flies 5 = .ok (.bipush 9, 2) := by decide +kernel
theorem dX8_flies_7 : decode cX8_flies 7 = .ok (.if_icmp .le 6, 3) := by decide +kernel
theorem dX8_flies_10 : decode cX8_flies 10 = .ok (.ldc 76, 2) := by decide +kernel
theorem dX8_flies_12 : decode cX8_flies 12 = .ok (.ireturn, 1) := by decide +kernel
theorem dX8_flies_13 : decode cX8_flies 13 = .ok (.aload_n 0, 1) := by decide +kernel
theorem dX8_flies_14 : decode cX8_flies 14 = .ok (.getfield 69, 3) := by decide +kernel
theorem dX8_flies_17 : decode cX8_flies 17 = .ok (.aload_n 0, 1) := by decide +kernel
theorem dX8_flies_18 : decode cX8_flies 18 = .ok (.getfield 19, 3) := by decide +kernel
theorem dX8_flies_21 : decode cX8_flies 21 = .ok (.iload_n 1, 1) := by decide +kernel
theorem dX8_flies_22 : decode cX8_flies 22 = .ok (.invokevirtual 164, 3) := by decide +kernel
theorem dX8_flies_25 : decode cX8_flies 25 = .ok (.invokevirtual 168, 3) := by decide +kernel
theorem dX8_flies_28 : decode cX8_flies 28 = .ok (.ireturn, 1) := by decide +kernel
theorem dX8_unpick_0 : decode cX8_unpick 0 = .ok (.aload_n 0, 1) := by decide +kernel
theorem dX8_unpick_1 : decode cX8_unpick 1 = .ok (.getfield 69, 3) := by decide +kernel
theorem dX8_unpick_4 : decode cX8_unpick 4 = .ok (.iload_n 1, 1) := by decide +kernel
theorem dX8_unpick_5 : decode cX8_unpick 5 = .ok (.invokevirtual 152, 3) := by decide +kernel
theorem dX8_unpick_8 : decode cX8_unpick 8 = .ok (.ifCond .eq 14, 3) := by decide +kernel
theorem dX8_unpick_11 : decode cX8_unpick 11 = .ok (.aload_n 0, 1) := by decide +kernel
theorem dX8_unpick_12 : decode cX8_unpick 12 = .ok (.getfield 69, 3) := by decide +kernel
theorem dX8_unpick_15 : decode cX8_unpick 15 = .ok (.iload_n 2, 1) := by decide +kernel
theorem dX8_unpick_16 : decode cX8_unpick 16 = .ok (.invokevirtual 135, 3) := by decide +kernel
theorem dX8_unpick_19 : decode cX8_unpick 19 = .ok (.ifCond .ne 6, 3) := by decide +kernel
theorem dX8_unpick_22 : decode cX8_unpick 22 = .ok (.ldc 138, 2) := by decide +kernel
theorem dX8_unpick_24 : decode cX8_unpick 24 = .ok (.ireturn, 1) := by decide +kernel
theorem dX8_unpick_25 : decode cX8_unpick 25 = .ok (.aload_n 0, 1) := by decide +kernel
theorem dX8_unpick_26 : decode cX8_unpick 26 = .ok (.getfield 69, 3) := by decide +kernel
theorem dX8_unpick_29 : decode cX8_unpick 29 = .ok (.iload_n 1, 1) := by decide +kernel
theorem dX8_unpick_30 : decode cX8_unpick 30 = .ok (.aload_n 0, 1) := by decide +kernel
theorem dX8_unpick_31 : decode cX8_unpick 31 = .ok (.getfield 19, 3) := by decide +kernel
theorem dX8_unpick_34 : decode cX8_unpick 34 = .ok (.invokevirtual 125, 3) := by decide +kernel
theorem dX8_unpick_37 : decode cX8_unpick 37 = .ok (.aload_n 0, 1) := by decide +kernel
theorem dX8_unpick_38 : decode cX8_unpick 38 = .ok (.getfield 19, 3) := by decide +kernel
theorem dX8_unpick_41 : decode cX8_unpick 41 = .ok (.getfield 128, 3) := by decide +kernel
theorem dX8_unpick_44 : decode cX8_unpick 44 = .ok (.invokevirtual 171, 3) := by decide +kernel
theorem dX8_unpick_47 : decode cX8_unpick 47 = .ok (.iload_n 2, 1) := by decide +kernel
theorem dX8_unpick_48 : decode cX8_unpick 48 = .ok (.invokestatic 148, 3) := by decide +kernel
theorem dX8_unpick_51 : decode cX8_unpick 51 = .ok (.ifCond .ne 6, 3) := by decide +kernel
theorem dX8_unpick_54 : decode cX8_unpick 54 = .ok (.ldc 175, 2) := by decide +kernel
theorem dX8_unpick_56 : decode cX8_unpick 56 = .ok (.ireturn, 1) := by decide +kernel
theorem dX8_unpick_57 : decode cX8_unpick 57 = .ok (.aload_n 0, 1) := by decide +kernel
theorem dX8_unpick_58 : decode cX8_unpick 58 = .ok (.getfield 19, 3) := by decide +kernel
theorem dX8_unpick_61 : decode cX8_unpick 61 = .ok (.getfield 145, 3) := by decide +kernel
theorem dX8_unpick_64 : decode cX8_unpick 64 = .ok (.iload_n 2, 1) := by decide +kernel
theorem dX8_unpick_65 : decode cX8_unpick 65 = .ok (.iconst 0, 1) := by decide +kernel
theorem dX8_unpick_66 : decode cX8_unpick 66 = .ok (.iastore, 1) := by decide +kernel
theorem dX8_unpick_67 : decode cX8_unpick 67 = .ok (.aload_n 0, 1) := by decide +kernel
theorem dX8_unpick_68 : decode cX8_unpick 68 = .ok (.getfield 19, 3) := by decide +kernel
theorem dX8_unpick_71 : decode cX8_unpick 71 = .ok (.invokevirtual 125, 3) := by decide +kernel
theorem dX8_unpick_74 : decode cX8_unpick 74 = .ok (.invokestatic 176, 3) := by decide +kernel
theorem dX8_unpick_77 : decode cX8_unpick 77 = .ok (.ireturn, 1) := by decide +kernel
theorem dX8_sew_0 : decode cX8_sew 0 = .ok (.aload_n 0, 1) := by decide +kernel
theorem dX8_sew_1 : decode cX8_sew 1 = .ok (.getfield 69, 3) := by decide +kernel
theorem dX8_sew_4 : decode cX8_sew 4 = .ok (.iload_n 1, 1) := by decide +kernel
theorem dX8_sew_5 : decode cX8_sew 5 = .ok (.invokevirtual 135, 3) := by decide +kernel
theorem dX8_sew_8 : decode cX8_sew 8 = .ok (.ifCond .ne 6, 3) := by decide +kernel
theorem dX8_sew_11 : decode cX8_sew 11 = .ok (.ldc 138, 2) := by decide +kernel
theorem dX8_sew_13 : decode cX8_sew 13 = .ok (.ireturn, 1) := by decide +kernel
theorem dX8_sew_14 : decode cX8_sew 14 = .ok (.iload_n 2, 1) := by decide +kernel
theorem dX8_sew_15 : decode cX8_sew 15 = .ok (.ifCond .lt 9, 3) := by decide +kernel
theorem dX8_sew_18 : decode cX8_sew 18 = .ok (.iload_n 2, 1) := by decide +kernel
theorem dX8_sew_19 : decode cX8_sew 19 = .ok (.bipush 9, 2) := by decide +kernel
theorem dX8_sew_21 : decode cX8_sew 21 = .ok (.if_icmp .le 6, 3) := by decide +kernel
theorem dX8_sew_24 : decode cX8_sew 24 = .ok (.ldc 76, 2) := by decide +kernel
theorem dX8_sew_26 : decode cX8_sew 26 = .ok (.ireturn, 1) := by decide +kernel
theorem dX8_sew_27 : decode cX8_sew 27 = .ok (.aload_n 0, 1) := by decide +kernel
theorem dX8_sew_28 : decode cX8_sew 28 = .ok (.getfield 19, 3) := by decide +kernel
theorem dX8_sew_31 : decode cX8_sew 31 = .ok (.getfield 145, 3) := by decide +kernel
theorem dX8_sew_34 : decode cX8_sew 34 = .ok (.iload_n 1, 1) := by decide +kernel
theorem dX8_sew_35 : decode cX8_sew 35 = .ok (.iaload, 1) := by decide +kernel
theorem dX8_sew_36 : decode cX8_sew 36 = .ok (.istore_n 3, 1) := by decide +kernel
theorem dX8_sew_37 : decode cX8_sew 37 = .ok (.aload_n 0, 1) := by decide +kernel
theorem dX8_sew_38 : decode cX8_sew 38 = .ok (.getfield 19, 3) := by decide +kernel
theorem dX8_sew_41 : decode cX8_sew 41 = .ok (.getfield 145, 3) := by decide +kernel
theorem dX8_sew_44 : decode cX8_sew 44 = .ok (.iload_n 1, 1) := by decide +kernel
theorem dX8_sew_45 : decode cX8_sew 45 = .ok (.iload_n 2, 1) := by decide +kernel
theorem dX8_sew_46 : decode cX8_sew 46 = .ok (.iastore, 1) := by decide +kernel
theorem dX8_sew_47 : decode cX8_sew 47 = .ok (.iload_n 3, 1) := by decide +kernel
theorem dX8_sew_48 : decode cX8_sew 48 = .ok (.ireturn, 1) := by decide +kernel
theorem dX8_hem_0 : decode cX8_hem 0 = .ok (.aload_n 0, 1) := by decide +kernel
theorem dX8_hem_1 : decode cX8_hem 1 = .ok (.getfield 69, 3) := by decide +kernel
theorem dX8_hem_4 : decode cX8_hem 4 = .ok (.iload_n 1, 1) := by decide +kernel
theorem dX8_hem_5 : decode cX8_hem 5 = .ok (.invokevirtual 135, 3) := by decide +kernel
theorem dX8_hem_8 : decode cX8_hem 8 = .ok (.ifCond .ne 6, 3) := by decide +kernel
theorem dX8_hem_11 : decode cX8_hem 11 = .ok (.ldc 138, 2) := by decide +kernel
theorem dX8_hem_13 : decode cX8_hem 13 = .ok (.ireturn, 1) := by decide +kernel
theorem dX8_hem_14 : decode cX8_hem 14 = .ok (.aload_n 0, 1) := by decide +kernel
theorem dX8_hem_15 : decode cX8_hem 15 = .ok (.getfield 19, 3) := by decide +kernel
theorem dX8_hem_18 : decode cX8_hem 18 = .ok (.getfield 128, 3) := by decide +kernel
theorem dX8_hem_21 : decode cX8_hem 21 = .ok (.iload_n 1, 1) := by decide +kernel
theorem dX8_hem_22 : decode cX8_hem 22 = .ok (.invokestatic 148, 3) := by decide +kernel
theorem dX8_hem_25 : decode cX8_hem 25 = .ok (.ifCond .eq 7, 3) := by decide +kernel
theorem dX8_hem_28 : decode cX8_hem 28 = .ok (.iconst 1, 1) := by decide +kernel
theorem dX8_hem_29 : decode cX8_hem 29 = .ok (.goto 4, 3) := by decide +kernel
theorem dX8_hem_32 : decode cX8_hem 32 = .ok (.iconst 0, 1) := by decide +kernel
theorem dX8_hem_33 : decode cX8_hem 33 = .ok (.istore_n 3, 1) := by decide +kernel
theorem dX8_hem_34 : decode cX8_hem 34 = .ok (.aload_n 0, 1) := by decide +kernel
theorem dX8_hem_35 : decode cX8_hem 35 = .ok (.getfield 19, 3) := by decide +kernel
theorem dX8_hem_38 : decode cX8_hem 38 = .ok (.iload_n 2, 1) := by decide +kernel
theorem dX8_hem_39 : decode cX8_hem 39 = .ok (.ifCond .eq 17, 3) := by decide +kernel
theorem dX8_hem_42 : decode cX8_hem 42 = .ok (.aload_n 0, 1) := by decide +kernel
theorem dX8_hem_43 : decode cX8_hem 43 = .ok (.getfield 19, 3) := by decide +kernel
theorem dX8_hem_46 : decode cX8_hem 46 = .ok (.getfield 128, 3) := by decide +kernel
theorem dX8_hem_49 : decode cX8_hem 49 = .ok (.iconst 1, 1) := by decide +kernel
theorem dX8_hem_50 : decode cX8_hem 50 = .ok (.iload_n 1, 1) := by decide +kernel
theorem dX8_hem_51 : decode cX8_hem 51 = .ok (.ishl, 1) := by decide +kernel
theorem dX8_hem_52 : decode cX8_hem 52 = .ok (.ior, 1) := by decide +kernel
theorem dX8_hem_53 : decode cX8_hem 53 = .ok (.goto 16, 3) := by decide +kernel
theorem dX8_hem_56 : decode cX8_hem 56 = .ok (.aload_n 0, 1) := by decide +kernel
theorem dX8_hem_57 : decode cX8_hem 57 = .ok (.getfield 19, 3) := by decide +kernel
theorem dX8_hem_60 : decode cX8_hem 60 = .ok (.getfield 128, 3) := by decide +kernel
theorem dX8_hem_63 : decode cX8_hem 63 = .ok (.iconst 1, 1) := by decide +kernel
theorem dX8_hem_64 : decode cX8_hem 64 = .ok (.iload_n 1, 1) := by decide +kernel
theorem dX8_hem_65 : decode cX8_hem 65 = .ok (.ishl, 1) := by decide +kernel
theorem dX8_hem_66 : decode cX8_hem 66 = .ok (.iconst (-1), 1) := by decide +kernel
theorem dX8_hem_67 : decode cX8_hem 67 = .ok (.ixor, 1) := by decide +kernel
theorem dX8_hem_68 : decode cX8_hem 68 = .ok (.iand, 1) := by decide +kernel
theorem dX8_hem_69 : decode cX8_hem 69 = .ok (.putfield 128, 3) := by decide +kernel
theorem dX8_hem_72 : decode cX8_hem 72 = .ok (.iload_n 3, 1) := by decide +kernel
theorem dX8_hem_73 : decode cX8_hem 73 = .ok (.ireturn, 1) := by decide +kernel
theorem dX8_fray_0 : decode cX8_fray 0 = .ok (.iload_n 1, 1) := by decide +kernel
theorem dX8_fray_1 : decode cX8_fray 1 = .ok (.ifCond .lt 9, 3) := by decide +kernel
theorem dX8_fray_4 : decode cX8_fray 4 = .ok (.iload_n 1, 1) := by decide +kernel
theorem dX8_fray_5 : decode cX8_fray 5 = .ok (.bipush 9, 2) := by decide +kernel
theorem dX8_fray_7 : decode cX8_fray 7 = .ok (.if_icmp .le 6, 3) := by decide +kernel
theorem dX8_fray_10 : decode cX8_fray 10 = .ok (.ldc 76, 2) := by decide +kernel
theorem dX8_fray_12 : decode cX8_fray 12 = .ok (.ireturn, 1) := by decide +kernel
theorem dX8_fray_13 : decode cX8_fray 13 = .ok (.aload_n 0, 1) := by decide +kernel
theorem dX8_fray_14 : decode cX8_fray 14 = .ok (.getfield 19, 3) := by decide +kernel
theorem dX8_fray_17 : decode cX8_fray 17 = .ok (.aload_n 0, 1) := by decide +kernel
theorem dX8_fray_18 : decode cX8_fray 18 = .ok (.getfield 69, 3) := by decide +kernel
theorem dX8_fray_21 : decode cX8_fray 21 = .ok (.iload_n 1, 1) := by decide +kernel
theorem dX8_fray_22 : decode cX8_fray 22 = .ok (.invokevirtual 181, 3) := by decide +kernel
theorem dX8_fray_25 : decode cX8_fray 25 = .ok (.ireturn, 1) := by decide +kernel
theorem dX8_dye_0 : decode cX8_dye 0 = .ok (.aload_n 0, 1) := by decide +kernel
theorem dX8_dye_1 : decode cX8_dye 1 = .ok (.getfield 69, 3) := by decide +kernel
theorem dX8_dye_4 : decode cX8_dye 4 = .ok (.iload_n 1, 1) := by decide +kernel
theorem dX8_dye_5 : decode cX8_dye 5 = .ok (.invokevirtual 152, 3) := by decide +kernel
theorem dX8_dye_8 : decode cX8_dye 8 = .ok (.ifCond .eq 14, 3) := by decide +kernel
theorem dX8_dye_11 : decode cX8_dye 11 = .ok (.aload_n 0, 1) := by decide +kernel
theorem dX8_dye_12 : decode cX8_dye 12 = .ok (.getfield 69, 3) := by decide +kernel
theorem dX8_dye_15 : decode cX8_dye 15 = .ok (.iload_n 2, 1) := by decide +kernel
theorem dX8_dye_16 : decode cX8_dye 16 = .ok (.invokevirtual 185, 3) := by decide +kernel
theorem dX8_dye_19 : decode cX8_dye 19 = .ok (.ifCond .ne 6, 3) := by decide +kernel
theorem dX8_dye_22 : decode cX8_dye 22 = .ok (.ldc 138, 2) := by decide +kernel
theorem dX8_dye_24 : decode cX8_dye 24 = .ok (.ireturn, 1) := by decide +kernel
theorem dX8_dye_25 : decode cX8_dye 25 = .ok (.aload_n 0, 1) := by decide +kernel
theorem dX8_dye_26 : decode cX8_dye 26 = .ok (.getfield 19, 3) := by decide +kernel
theorem dX8_dye_29 : decode cX8_dye 29 = .ok (.getfield 155, 3) := by decide +kernel
theorem dX8_dye_32 : decode cX8_dye 32 = .ok (.iload_n 1, 1) := by decide +kernel
theorem dX8_dye_33 : decode cX8_dye 33 = .ok (.iaload, 1) := by decide +kernel
theorem dX8_dye_34 : decode cX8_dye 34 = .ok (.istore_n 3, 1) := by decide +kernel
theorem dX8_dye_35 : decode cX8_dye 35 = .ok (.aload_n 0, 1) := by decide +kernel
theorem dX8_dye_36 : decode cX8_dye 36 = .ok (.getfield 19, 3) := by decide +kernel
theorem dX8_dye_39 : decode cX8_dye 39 = .ok (.getfield 155, 3) := by decide +kernel
theorem dX8_dye_42 : decode cX8_dye 42 = .ok (.iload_n 1, 1) := by decide +kernel
theorem dX8_dye_43 : decode cX8_dye 43 = .ok (.iload_n 2, 1) := by decide +kernel
theorem dX8_dye_44 : decode cX8_dye 44 = .ok (.iastore, 1) := by decide +kernel
theorem dX8_dye_45 : decode cX8_dye 45 = .ok (.iload_n 3, 1) := by decide +kernel
theorem dX8_dye_46 : decode cX8_dye 46 = .ok (.ireturn, 1) := by decide +kernel
theorem dX8_drift_0 : decode cX8_drift 0 = .ok (.iload_n 1, 1) := by decide +kernel
theorem dX8_drift_1 : decode cX8_drift 1 = .ok (.iconst 1, 1) := by decide +kernel
theorem dX8_drift_2 : decode cX8_drift 2 = .ok (.if_icmp .lt 9, 3) := by decide +kernel
theorem dX8_drift_5 : decode cX8_drift 5 = .ok (.iload_n 1, 1) := by decide +kernel
theorem dX8_drift_6 : decode cX8_drift 6 = .ok (.bipush 99, 2) := by decide +kernel
theorem dX8_drift_8 : decode cX8_drift 8 = .ok (.if_icmp .le 6, 3) := by decide +kernel
theorem dX8_drift_11 : decode cX8_drift 11 = .ok (.ldc 76, 2) := by decide +kernel
theorem dX8_drift_13 : decode cX8_drift 13 = .ok (.ireturn, 1) := by decide +kernel
theorem dX8_drift_14 : decode cX8_drift 14 = .ok (.aload_n 0, 1) := by decide +kernel
theorem dX8_drift_15 : decode cX8_drift 15 = .ok (.getfield 69, 3) := by decide +kernel
theorem dX8_drift_18 : decode cX8_drift 18 = .ok (.getfield 110, 3) := by decide +kernel
theorem dX8_drift_21 : decode cX8_drift 21 = .ok (.ifCond .ne 6, 3) := by decide +kernel
theorem dX8_drift_24 : decode cX8_drift 24 = .ok (.ldc 175, 2) := by decide +kernel
theorem dX8_drift_26 : decode cX8_drift 26 = .ok (.ireturn, 1) := by decide +kernel
theorem dX8_drift_27 : decode cX8_drift 27 = .ok (.iconst 0, 1) := by decide +kernel
theorem dX8_drift_28 : decode cX8_drift 28 = .ok (.istore_n 2, 1) := by decide +kernel
theorem dX8_drift_29 : decode cX8_drift 29 = .ok (.iload_n 2, 1) := by decide +kernel
theorem dX8_drift_30 : decode cX8_drift 30 = .ok (.iload_n 1, 1) := by decide +kernel
theorem dX8_drift_31 : decode cX8_drift 31 = .ok (.if_icmp .ge 20, 3) := by decide +kernel
theorem dX8_drift_34 : decode cX8_drift 34 = .ok (.aload_n 0, 1) := by decide +kernel
theorem dX8_drift_35 : decode cX8_drift 35 = .ok (.getfield 19, 3) := by decide +kernel
theorem dX8_drift_38 : decode cX8_drift 38 = .ok (.aload_n 0, 1) := by decide +kernel
theorem dX8_drift_39 : decode cX8_drift 39 = .ok (.getfield 69, 3) := by decide +kernel
theorem dX8_drift_42 : decode cX8_drift 42 = .ok (.invokevirtual 188, 3) := by decide +kernel
theorem dX8_drift_45 : decode cX8_drift 45 = .ok (.iinc 2 1, 3) := by decide +kernel
theorem dX8_drift_48 : decode cX8_drift 48 = .ok (.goto (-19), 3) := by decide +kernel
theorem dX8_drift_51 : decode cX8_drift 51 = .ok (.aload_n 0, 1) := by decide +kernel
theorem dX8_drift_52 : decode cX8_drift 52 = .ok (.getfield 69, 3) := by decide +kernel
theorem dX8_drift_55 : decode cX8_drift 55 = .ok (.aload_n 0, 1) := by decide +kernel
theorem dX8_drift_56 : decode cX8_drift 56 = .ok (.getfield 19, 3) := by decide +kernel
theorem dX8_drift_59 : decode cX8_drift 59 = .ok (.invokevirtual 125, 3) := by decide +kernel
theorem dX8_drift_62 : decode cX8_drift 62 = .ok (.invokevirtual 168, 3) := by decide +kernel
theorem dX8_drift_65 : decode cX8_drift 65 = .ok (.ireturn, 1) := by decide +kernel
theorem dX8_cut_0 : decode cX8_cut 0 = .ok (.aload_n 0, 1) := by decide +kernel
theorem dX8_cut_1 : decode cX8_cut 1 = .ok (.getfield 69, 3) := by decide +kernel
theorem dX8_cut_4 : decode cX8_cut 4 = .ok (.iload_n 1, 1) := by decide +kernel
theorem dX8_cut_5 : decode cX8_cut 5 = .ok (.invokevirtual 152, 3) := by decide +kernel
theorem dX8_cut_8 : decode cX8_cut 8 = .ok (.ifCond .ne 6, 3) := by decide +kernel
theorem dX8_cut_11 : decode cX8_cut 11 = .ok (.ldc 138, 2) := by decide +kernel
theorem dX8_cut_13 : decode cX8_cut 13 = .ok (.ireturn, 1) := by decide +kernel
theorem dX8_cut_14 : decode cX8_cut 14 = .ok (.iload_n 2, 1) := by decide +kernel
theorem dX8_cut_15 : decode cX8_cut 15 = .ok (.ifCond .lt 8, 3) := by decide +kernel
theorem dX8_cut_18 : decode cX8_cut 18 = .ok (.iload_n 2, 1) := by decide +kernel
theorem dX8_cut_19 : decode cX8_cut 19 = .ok (.iconst 1, 1) := by decide +kernel
theorem dX8_cut_20 : decode cX8_cut 20 = .ok (.if_icmp .le 6, 3) := by decide +kernel
theorem dX8_cut_23 : decode cX8_cut 23 = .ok (.ldc 76, 2) := by decide +kernel
theorem dX8_cut_25 : decode cX8_cut 25 = .ok (.ireturn, 1) := by decide +kernel
theorem dX8_cut_26 : decode cX8_cut 26 = .ok (.aload_n 0, 1) := by decide +kernel
theorem dX8_cut_27 : decode cX8_cut 27 = .ok (.getfield 69, 3) := by decide +kernel
theorem dX8_cut_30 : decode cX8_cut 30 = .ok (.aload_n 0, 1) := by decide +kernel
theorem dX8_cut_31 : decode cX8_cut 31 = .ok (.getfield 19, 3) := by decide +kernel
theorem dX8_cut_34 : decode cX8_cut 34 = .ok (.invokevirtual 125, 3) := by decide +kernel
theorem dX8_cut_37 : decode cX8_cut 37 = .ok (.iload_n 1, 1) := by decide +kernel
theorem dX8_cut_38 : decode cX8_cut 38 = .ok (.invokestatic 191, 3) := by decide +kernel
theorem dX8_cut_41 : decode cX8_cut 41 = .ok (.istore_n 3, 1) := by decide +kernel
theorem dX8_cut_42 : decode cX8_cut 42 = .ok (.iload_n 2, 1) := by decide +kernel
theorem dX8_cut_43 : decode cX8_cut 43 = .ok (.ifCond .ne 10, 3) := by decide +kernel
theorem dX8_cut_46 : decode cX8_cut 46 = .ok (.iload_n 3, 1) := by decide +kernel
theorem dX8_cut_47 : decode cX8_cut 47 = .ok (.invokestatic 176, 3) := by decide +kernel
theorem dX8_cut_50 : decode cX8_cut 50 = .ok (.goto 4, 3) := by decide +kernel
theorem dX8_cut_53 : decode cX8_cut 53 = .ok (.iload_n 3, 1) := by decide +kernel
theorem dX8_cut_54 : decode cX8_cut 54 = .ok (.ireturn, 1) := by decide +kernel
theorem dX8_lasts_0 : decode cX8_lasts 0 = .ok (.aload_n 0, 1) := by decide +kernel
theorem dX8_lasts_1 : decode cX8_lasts 1 = .ok (.getfield 69, 3) := by decide +kernel
theorem dX8_lasts_4 : decode cX8_lasts 4 = .ok (.iload_n 1, 1) := by decide +kernel
theorem dX8_lasts_5 : decode cX8_lasts 5 = .ok (.invokevirtual 195, 3) := by decide +kernel
theorem dX8_lasts_8 : decode cX8_lasts 8 = .ok (.ifCond .ne 6, 3) := by decide +kernel
theorem dX8_lasts_11 : decode cX8_lasts 11 = .ok (.ldc 138, 2) := by decide +kernel
theorem dX8_lasts_13 : decode cX8_lasts 13 = .ok (.ireturn, 1) := by decide +kernel
theorem dX8_lasts_14 : decode cX8_lasts 14 = .ok (.iload_n 2, 1) := by decide +kernel
theorem dX8_lasts_15 : decode cX8_lasts 15 = .ok (.ifCond .lt 8, 3) := by decide +kernel
theorem dX8_lasts_18 : decode cX8_lasts 18 = .ok (.iload_n 2, 1) := by decide +kernel
theorem dX8_lasts_19 : decode cX8_lasts 19 = .ok (.iconst 3, 1) := by decide +kernel
theorem dX8_lasts_20 : decode cX8_lasts 20 = .ok (.if_icmp .le 6, 3) := by decide +kernel
theorem dX8_lasts_23 : decode cX8_lasts 23 = .ok (.ldc 76, 2) := by decide +kernel
theorem dX8_lasts_25 : decode cX8_lasts 25 = .ok (.ireturn, 1) := by decide +kernel
theorem dX8_lasts_26 : decode cX8_lasts 26 = .ok (.aload_n 0, 1) := by decide +kernel
theorem dX8_lasts_27 : decode cX8_lasts 27 = .ok (.getfield 37, 3) := by decide +kernel
theorem dX8_lasts_30 : decode cX8_lasts 30 = .ok (.aload_n 0, 1) := by decide +kernel
theorem dX8_lasts_31 : decode cX8_lasts 31 = .ok (.getfield 69, 3) := by decide +kernel
theorem dX8_lasts_34 : decode cX8_lasts 34 = .ok (.aload_n 0, 1) := by decide +kernel
theorem dX8_lasts_35 : decode cX8_lasts 35 = .ok (.getfield 19, 3) := by decide +kernel
theorem dX8_lasts_38 : decode cX8_lasts 38 = .ok (.iload_n 1, 1) := by decide +kernel
theorem dX8_lasts_39 : decode cX8_lasts 39 = .ok (.iload_n 2, 1) := by decide +kernel
theorem dX8_lasts_40 : decode cX8_lasts 40 = .ok (.invokevirtual 198, 3) := by decide +kernel
theorem dX8_lasts_43 : decode cX8_lasts 43 = .ok (.aload_n 0, 1) := by decide +kernel
theorem dX8_lasts_44 : decode cX8_lasts 44 = .ok (.getfield 37, 3) := by decide +kernel
theorem dX8_lasts_47 : decode cX8_lasts 47 = .ok (.getfield 202, 3) := by decide +kernel
theorem dX8_lasts_50 : decode cX8_lasts 50 = .ok (.ifCond .ne 7, 3) := by decide +kernel
theorem dX8_lasts_53 : decode cX8_lasts 53 = .ok (.iconst 1, 1) := by decide +kernel
theorem dX8_lasts_54 : decode cX8_lasts 54 = .ok (.goto 4, 3) := by decide +kernel
theorem dX8_lasts_57 : decode cX8_lasts 57 = .ok (.iconst 0, 1) := by decide +kernel
theorem dX8_lasts_58 : decode cX8_lasts 58 = .ok (.ireturn, 1) := by decide +kernel
theorem dX8_hems_0 : decode cX8_hems 0 = .ok (.aload_n 0, 1) := by decide +kernel
theorem dX8_hems_1 : decode cX8_hems 1 = .ok (.getfield 69, 3) := by decide +kernel
theorem dX8_hems_4 : decode cX8_hems 4 = .ok (.iload_n 1, 1) := by decide +kernel
theorem dX8_hems_5 : decode cX8_hems 5 = .ok (.invokevirtual 195, 3) := by decide +kernel
theorem dX8_hems_8 : decode cX8_hems 8 = .ok (.ifCond .ne 6, 3) := by decide +kernel
theorem dX8_hems_11 : decode cX8_hems 11 = .ok (.ldc 138, 2) := by decide +kernel
theorem dX8_hems_13 : decode cX8_hems 13 = .ok (.ireturn, 1) := by decide +kernel
theorem dX8_hems_14 : decode cX8_hems 14 = .ok (.iload_n 2, 1) := by decide +kernel
theorem dX8_hems_15 : decode cX8_hems 15 = .ok (.iconst 1, 1) := by decide +kernel
theorem dX8_hems_16 : decode cX8_hems 16 = .ok (.if_icmp .lt 8, 3) := by decide +kernel
theorem dX8_hems_19 : decode cX8_hems 19 = .ok (.iload_n 2, 1) := by decide +kernel
theorem dX8_hems_20 : decode cX8_hems 20 = .ok (.iconst 2, 1) := by decide +kernel
theorem dX8_hems_21 : decode cX8_hems 21 = .ok (.if_icmp .le 6, 3) := by decide +kernel
theorem dX8_hems_24 : decode cX8_hems 24 = .ok (.ldc 76, 2) := by decide +kernel
theorem dX8_hems_26 : decode cX8_hems 26 = .ok (.ireturn, 1) := by decide +kernel
theorem dX8_hems_27 : decode cX8_hems 27 = .ok (.aload_n 0, 1) := by decide +kernel
theorem dX8_hems_28 : decode cX8_hems 28 = .ok (.getfield 37, 3) := by decide +kernel
theorem dX8_hems_31 : decode cX8_hems 31 = .ok (.aload_n 0, 1) := by decide +kernel
theorem dX8_hems_32 : decode cX8_hems 32 = .ok (.getfield 69, 3) := by decide +kernel
theorem dX8_hems_35 : decode cX8_hems 35 = .ok (.aload_n 0, 1) := by decide +kernel
theorem dX8_hems_36 : decode cX8_hems 36 = .ok (.getfield 19, 3) := by decide +kernel
theorem dX8_hems_39 : decode cX8_hems 39 = .ok (.iload_n 1, 1) := by decide +kernel
theorem dX8_hems_40 : decode cX8_hems 40 = .ok (.iload_n 2, 1) := by decide +kernel
theorem dX8_hems_41 : decode cX8_hems 41 = .ok (.invokevirtual 198, 3) := by decide +kernel
theorem dX8_hems_44 : decode cX8_hems 44 = .ok (.aload_n 0, 1) := by decide +kernel
theorem dX8_hems_45 : decode cX8_hems 45 = .ok (.getfield 37, 3) := by decide +kernel
theorem dX8_hems_48 : decode cX8_hems 48 = .ok (.aload_n 0, 1) := by decide +kernel
theorem dX8_hems_49 : decode cX8_hems 49 = .ok (.getfield 19, 3) := by decide +kernel
theorem dX8_hems_52 : decode cX8_hems 52 = .ok (.invokevirtual 125, 3) := by decide +kernel
theorem dX8_hems_55 : decode cX8_hems 55 = .ok (.aload_n 0, 1) := by decide +kernel
theorem dX8_hems_56 : decode cX8_hems 56 = .ok (.getfield 19, 3) := by decide +kernel
theorem dX8_hems_59 : decode cX8_hems 59 = .ok (.getfield 128, 3) := by decide +kernel
theorem dX8_hems_62 : decode cX8_hems 62 = .ok (.iconst (-1), 1) := by decide +kernel
theorem dX8_hems_63 : decode cX8_hems 63 = .ok (.ixor, 1) := by decide +kernel
theorem dX8_hems_64 : decode cX8_hems 64 = .ok (.iand, 1) := by decide +kernel
theorem dX8_hems_65 : decode cX8_hems 65 = .ok (.invokevirtual 203, 3) := by decide +kernel
theorem dX8_hems_68 : decode cX8_hems 68 = .ok (.ireturn, 1) := by decide +kernel
theorem dX8_thread_0 : decode cX8_thread 0 = .ok (.iload_n 1, 1) := by decide +kernel
theorem dX8_thread_1 : decode cX8_thread 1 = .ok (.ifCond .lt 17, 3) := by decide +kernel
theorem dX8_thread_4 : decode cX8_thread 4 = .ok (.iload_n 1, 1) := by decide +kernel
theorem dX8_thread_5 : decode cX8_thread 5 = .ok (.iconst 2, 1) := by decide +kernel
theorem dX8_thread_6 : decode cX8_thread 6 = .ok (.if_icmp .gt 12, 3) := by decide +kernel
theorem dX8_thread_9 : decode cX8_thread 9 = .ok (.iload_n 2, 1) := by decide +kernel
theorem dX8_thread_10 : decode cX8_thread 10 = .ok (.ifCond .lt 8, 3) := by decide +kernel
theorem dX8_thread_13 : decode cX8_thread 13 = .ok (.iload_n 2, 1) := by decide +kernel
theorem dX8_thread_14 : decode cX8_thread 14 = .ok (.iconst 1, 1) := by decide +kernel
theorem dX8_thread_15 : decode cX8_thread 15 = .ok (.if_icmp .le 6, 3) := by decide +kernel
theorem dX8_thread_18 : decode cX8_thread 18 = .ok (.ldc 76, 2) := by decide +kernel
theorem dX8_thread_20 : decode cX8_thread 20 = .ok (.ireturn, 1) := by decide +kernel
theorem dX8_thread_21 : decode cX8_thread 21 = .ok (.aload_n 0, 1) := by decide +kernel
theorem dX8_thread_22 : decode cX8_thread 22 = .ok (.getfield 37, 3) := by decide +kernel
theorem dX8_thread_25 : decode cX8_thread 25 = .ok (.aload_n 0, 1) := by decide +kernel
theorem dX8_thread_26 : decode cX8_thread 26 = .ok (.getfield 69, 3) := by decide +kernel
theorem dX8_thread_29 : decode cX8_thread 29 = .ok (.aload_n 0, 1) := by decide +kernel
theorem dX8_thread_30 : decode cX8_thread 30 = .ok (.getfield 19, 3) := by decide +kernel
theorem dX8_thread_33 : decode cX8_thread 33 = .ok (.aload_n 0, 1) := by decide +kernel
theorem dX8_thread_34 : decode cX8_thread 34 = .ok (.getfield 69, 3) := by decide +kernel
theorem dX8_thread_37 : decode cX8_thread 37 = .ok (.invokevirtual 206, 3) := by decide +kernel
theorem dX8_thread_40 : decode cX8_thread 40 = .ok (.iload_n 1, 1) := by decide +kernel
theorem dX8_thread_41 : decode cX8_thread 41 = .ok (.invokevirtual 198, 3) := by decide +kernel
theorem dX8_thread_44 : decode cX8_thread 44 = .ok (.aload_n 0, 1) := by decide +kernel
theorem dX8_thread_45 : decode cX8_thread 45 = .ok (.getfield 37, 3) := by decide +kernel
theorem dX8_thread_48 : decode cX8_thread 48 = .ok (.aload_n 0, 1) := by decide +kernel
theorem dX8_thread_49 : decode cX8_thread 49 = .ok (.getfield 69, 3) := by decide +kernel
theorem dX8_thread_52 : decode cX8_thread 52 = .ok (.iload_n 1, 1) := by decide +kernel
theorem dX8_thread_53 : decode cX8_thread 53 = .ok (.invokevirtual 209, 3) := by decide +kernel
theorem dX8_thread_56 : decode cX8_thread 56 = .ok (.istore_n 3, 1) := by decide +kernel
theorem dX8_thread_57 : decode cX8_thread 57 = .ok (.iload_n 2, 1) := by decide +kernel
theorem dX8_thread_58 : decode cX8_thread 58 = .ok (.iconst 1, 1) := by decide +kernel
theorem dX8_thread_59 : decode cX8_thread 59 = .ok (.if_icmp .eq 8, 3) := by decide +kernel
theorem dX8_thread_62 : decode cX8_thread 62 = .ok (.iload_n 3, 1) := by decide +kernel
theorem dX8_thread_63 : decode cX8_thread 63 = .ok (.iconst (-1), 1) := by decide +kernel
theorem dX8_thread_64 : decode cX8_thread 64 = .ok (.if_icmp .ne 7, 3) := by decide +kernel
theorem dX8_thread_67 : decode cX8_thread 67 = .ok (.iload_n 3, 1) := by decide +kernel
theorem dX8_thread_68 : decode cX8_thread 68 = .ok (.goto 11, 3) := by decide +kernel
theorem dX8_thread_71 : decode cX8_thread 71 = .ok (.aload_n 0, 1) := by decide +kernel
theorem dX8_thread_72 : decode cX8_thread 72 = .ok (.getfield 69, 3) := by decide +kernel
theorem dX8_thread_75 : decode cX8_thread 75 = .ok (.iload_n 3, 1) := by decide +kernel
theorem dX8_thread_76 : decode cX8_thread 76 = .ok (.invokevirtual 212, 3) := by decide +kernel
theorem dX8_thread_79 : decode cX8_thread 79 = .ok (.ireturn, 1) := by decide +kernel
theorem dX8_odds_0 : decode cX8_odds 0 = .ok (.aload_n 0, 1) := by decide +kernel
theorem dX8_odds_1 : decode cX8_odds 1 = .ok (.getfield 69, 3) := by decide +kernel
theorem dX8_odds_4 : decode cX8_odds 4 = .ok (.iload_n 1, 1) := by decide +kernel
theorem dX8_odds_5 : decode cX8_odds 5 = .ok (.invokevirtual 152, 3) := by decide +kernel
theorem dX8_odds_8 : decode cX8_odds 8 = .ok (.ifCond .ne 6, 3) := by decide +kernel
theorem dX8_odds_11 : decode cX8_odds 11 = .ok (.ldc 138, 2) := by decide +kernel
theorem dX8_odds_13 : decode cX8_odds 13 = .ok (.ireturn, 1) := by decide +kernel
theorem dX8_odds_14 : decode cX8_odds 14 = .ok (.iload_n 2, 1) := by decide +kernel
theorem dX8_odds_15 : decode cX8_odds 15 = .ok (.ifCond .lt 9, 3) := by decide +kernel
theorem dX8_odds_18 : decode cX8_odds 18 = .ok (.iload_n 2, 1) := by decide +kernel
theorem dX8_odds_19 : decode cX8_odds 19 = .ok (.bipush 100, 2) := by decide +kernel
theorem dX8_odds_21 : decode cX8_odds 21 = .ok (.if_icmp .le 6, 3) := by decide +kernel
theorem dX8_odds_24 : decode cX8_odds 24 = .ok (.ldc 76, 2) := by decide +kernel
theorem dX8_odds_26 : decode cX8_odds 26 = .ok (.ireturn, 1) := by decide +kernel
theorem dX8_odds_27 : decode cX8_odds 27 = .ok (.aload_n 0, 1) := by decide +kernel
theorem dX8_odds_28 : decode cX8_odds 28 = .ok (.getfield 44, 3) := by decide +kernel
theorem dX8_odds_31 : decode cX8_odds 31 = .ok (.iload_n 1, 1) := by decide +kernel
theorem dX8_odds_32 : decode cX8_odds 32 = .ok (.iload_n 2, 1) := by decide +kernel
theorem dX8_odds_33 : decode cX8_odds 33 = .ok (.invokevirtual 215, 3) := by decide +kernel
theorem dX8_odds_36 : decode cX8_odds 36 = .ok (.aload_n 0, 1) := by decide +kernel
theorem dX8_odds_37 : decode cX8_odds 37 = .ok (.getfield 44, 3) := by decide +kernel
theorem dX8_odds_40 : decode cX8_odds 40 = .ok (.aload_n 0, 1) := by decide +kernel
theorem dX8_odds_41 : decode cX8_odds 41 = .ok (.getfield 69, 3) := by decide +kernel
theorem dX8_odds_44 : decode cX8_odds 44 = .ok (.aload_n 0, 1) := by decide +kernel
theorem dX8_odds_45 : decode cX8_odds 45 = .ok (.getfield 19, 3) := by decide +kernel
theorem dX8_odds_48 : decode cX8_odds 48 = .ok (.invokevirtual 125, 3) := by decide +kernel
theorem dX8_odds_51 : decode cX8_odds 51 = .ok (.aload_n 0, 1) := by decide +kernel
theorem dX8_odds_52 : decode cX8_odds 52 = .ok (.getfield 19, 3) := by decide +kernel
theorem dX8_odds_55 : decode cX8_odds 55 = .ok (.getfield 128, 3) := by decide +kernel
theorem dX8_odds_58 : decode cX8_odds 58 = .ok (.invokevirtual 218, 3) := by decide +kernel
theorem dX8_odds_61 : decode cX8_odds 61 = .ok (.ireturn, 1) := by decide +kernel
theorem dX8_turnsOf_0 : decode cX8_turnsOf 0 = .ok (.aload_n 0, 1) := by decide +kernel
theorem dX8_turnsOf_1 : decode cX8_turnsOf 1 = .ok (.getfield 69, 3) := by decide +kernel
theorem dX8_turnsOf_4 : decode cX8_turnsOf 4 = .ok (.iload_n 1, 1) := by decide +kernel
theorem dX8_turnsOf_5 : decode cX8_turnsOf 5 = .ok (.invokevirtual 152, 3) := by decide +kernel
theorem dX8_turnsOf_8 : decode cX8_turnsOf 8 = .ok (.ifCond .eq 19, 3) := by decide +kernel
theorem dX8_turnsOf_11 : decode cX8_turnsOf 11 = .ok (.aload_n 0, 1) := by decide +kernel
theorem dX8_turnsOf_12 : decode cX8_turnsOf 12 = .ok (.getfield 69, 3) := by decide +kernel
theorem dX8_turnsOf_15 : decode cX8_turnsOf 15 = .ok (.iload_n 2, 1) := by decide +kernel
theorem dX8_turnsOf_16 : decode cX8_turnsOf 16 = .ok (.invokevirtual 152, 3) := by decide +kernel
theorem dX8_turnsOf_19 : decode cX8_turnsOf 19 = .ok (.ifCond .eq 8, 3) := by decide +kernel
theorem dX8_turnsOf_22 : decode cX8_turnsOf 22 = .ok (.iload_n 1, 1) := by decide +kernel
theorem dX8_turnsOf_23 : decode cX8_turnsOf 23 = .ok (.iload_n 2, 1) := by decide +kernel
theorem dX8_turnsOf_24 : decode cX8_turnsOf 24 = .ok (.if_icmp .ne 6, 3) := by decide +kernel
theorem dX8_turnsOf_27 : decode cX8_turnsOf 27 = .ok (.ldc 138, 2) := by decide +kernel
theorem dX8_turnsOf_29 : decode cX8_turnsOf 29 = .ok (.ireturn, 1) := by decide +kernel
theorem dX8_turnsOf_30 : decode cX8_turnsOf 30 = .ok (.iload_n 3, 1) := by decide +kernel
theorem dX8_turnsOf_31 : decode cX8_turnsOf 31 = .ok (.ifCond .lt 19, 3) := by decide +kernel
theorem dX8_turnsOf_34 : decode cX8_turnsOf 34 = .ok (.iload_n 3, 1) := by decide +kernel
theorem dX8_turnsOf_35 : decode cX8_turnsOf 35 = .ok (.iconst 4, 1) := by decide +kernel
theorem dX8_turnsOf_36 : decode cX8_turnsOf 36 = .ok (.if_icmp .gt 14, 3) := by decide +kernel
theorem dX8_turnsOf_39 : decode cX8_turnsOf 39 = .ok (.iload 4, 2) := by decide +kernel
theorem dX8_turnsOf_41 : decode cX8_turnsOf 41 = .ok (.ifCond .lt 9, 3) := by decide +kernel
theorem dX8_turnsOf_44 : decode cX8_turnsOf 44 = .ok (.iload 4, 2) := by decide +kernel
theorem dX8_turnsOf_46 : decode cX8_turnsOf 46 = .ok (.iconst 1, 1) := by decide +kernel
theorem dX8_turnsOf_47 : decode cX8_turnsOf 47 = .ok (.if_icmp .le 6, 3) := by decide +kernel
theorem dX8_turnsOf_50 : decode cX8_turnsOf 50 = .ok (.ldc 76, 2) := by decide +kernel
theorem dX8_turnsOf_52 : decode cX8_turnsOf 52 = .ok (.ireturn, 1) := by decide +kernel
theorem dX8_turnsOf_53 : decode cX8_turnsOf 53 = .ok (.aload_n 0, 1) := by decide +kernel
theorem dX8_turnsOf_54 : decode cX8_turnsOf 54 = .ok (.getfield 51, 3) := by decide +kernel
theorem dX8_turnsOf_57 : decode cX8_turnsOf 57 = .ok (.iload_n 1, 1) := by decide +kernel
theorem dX8_turnsOf_58 : decode cX8_turnsOf 58 = .ok (.iload_n 2, 1) := by decide +kernel
theorem dX8_turnsOf_59 : decode cX8_turnsOf 59 = .ok (.iload_n 3, 1) := by decide +kernel
theorem dX8_turnsOf_60 : decode cX8_turnsOf 60 = .ok (.aload_n 0, 1) := by decide +kernel
theorem dX8_turnsOf_61 : decode cX8_turnsOf 61 = .ok (.getfield 19, 3) := by decide +kernel
theorem dX8_turnsOf_64 : decode cX8_turnsOf 64 = .ok (.getfield 128, 3) := by decide +kernel
theorem dX8_turnsOf_67 : decode cX8_turnsOf 67 = .ok (.invokevirtual 221, 3) := by decide +kernel
theorem dX8_turnsOf_70 : decode cX8_turnsOf 70 = .ok (.aload_n 0, 1) := by decide +kernel
theorem dX8_turnsOf_71 : decode cX8_turnsOf 71 = .ok (.getfield 51, 3) := by decide +kernel
theorem dX8_turnsOf_74 : decode cX8_turnsOf 74 = .ok (.aload_n 0, 1) := by decide +kernel
theorem dX8_turnsOf_75 : decode cX8_turnsOf 75 = .ok (.getfield 69, 3) := by decide +kernel
theorem dX8_turnsOf_78 : decode cX8_turnsOf 78 = .ok (.aload_n 0, 1) := by decide +kernel
theorem dX8_turnsOf_79 : decode cX8_turnsOf 79 = .ok (.getfield 19, 3) := by decide +kernel
theorem dX8_turnsOf_82 : decode cX8_turnsOf 82 = .ok (.invokevirtual 125, 3) := by decide +kernel
theorem dX8_turnsOf_85 : decode cX8_turnsOf 85 = .ok (.invokevirtual 224, 3) := by decide +kernel
theorem dX8_turnsOf_88 : decode cX8_turnsOf 88 = .ok (.iload 4, 2) := by decide +kernel
theorem dX8_turnsOf_90 : decode cX8_turnsOf 90 = .ok (.ifCond .ne 13, 3) := by decide +kernel
theorem dX8_turnsOf_93 : decode cX8_turnsOf 93 = .ok (.aload_n 0, 1) := by decide +kernel
theorem dX8_turnsOf_94 : decode cX8_turnsOf 94 = .ok (.getfield 51, 3) := by decide +kernel
theorem dX8_turnsOf_97 : decode cX8_turnsOf 97 = .ok (.getfield 228, 3) := by decide +kernel
theorem dX8_turnsOf_100 : decode cX8_turnsOf 100 = .ok (.goto 10, 3) := by decide +kernel
theorem dX8_turnsOf_103 : decode cX8_turnsOf 103 = .ok (.aload_n 0, 1) := by decide +kernel
theorem dX8_turnsOf_104 : decode cX8_turnsOf 104 = .ok (.getfield 51, 3) := by decide +kernel
theorem dX8_turnsOf_107 : decode cX8_turnsOf 107 = .ok (.getfield 231, 3) := by decide +kernel
theorem dX8_turnsOf_110 : decode cX8_turnsOf 110 = .ok (.ireturn, 1) := by decide +kernel
theorem dX8_colours_0 : decode cX8_colours 0 = .ok (.iload_n 1, 1) := by decide +kernel
theorem dX8_colours_1 : decode cX8_colours 1 = .ok (.iconst (-1), 1) := by decide +kernel
theorem dX8_colours_2 : decode cX8_colours 2 = .ok (.if_icmp .eq 17, 3) := by decide +kernel
theorem dX8_colours_5 : decode cX8_colours 5 = .ok (.aload_n 0, 1) := by decide +kernel
theorem dX8_colours_6 : decode cX8_colours 6 = .ok (.getfield 69, 3) := by decide +kernel
theorem dX8_colours_9 : decode cX8_colours 9 = .ok (.iload_n 1, 1) := by decide +kernel
theorem dX8_colours_10 : decode cX8_colours 10 = .ok (.invokevirtual 152, 3) := by decide +kernel
theorem dX8_colours_13 : decode cX8_colours 13 = .ok (.ifCond .ne 6, 3) := by decide +kernel
theorem dX8_colours_16 : decode cX8_colours 16 = .ok (.ldc 138, 2) := by decide +kernel
theorem dX8_colours_18 : decode cX8_colours 18 = .ok (.ireturn, 1) := by decide +kernel
theorem dX8_colours_19 : decode cX8_colours 19 = .ok (.aload_n 0, 1) := by decide +kernel
theorem dX8_colours_20 : decode cX8_colours 20 = .ok (.getfield 58, 3) := by decide +kernel
theorem dX8_colours_23 : decode cX8_colours 23 = .ok (.aload_n 0, 1) := by decide +kernel
theorem dX8_colours_24 : decode cX8_colours 24 = .ok (.getfield 69, 3) := by decide +kernel
theorem dX8_colours_27 : decode cX8_colours 27 = .ok (.aload_n 0, 1) := by decide +kernel
theorem dX8_colours_28 : decode cX8_colours 28 = .ok (.getfield 19, 3) := by decide +kernel
theorem dX8_colours_31 : decode cX8_colours 31 = .ok (.invokevirtual 125, 3) := by decide +kernel
theorem dX8_colours_34 : decode cX8_colours 34 = .ok (.invokevirtual 234, 3) := by decide +kernel
theorem dX8_colours_37 : decode cX8_colours 37 = .ok (.aload_n 0, 1) := by decide +kernel
theorem dX8_colours_38 : decode cX8_colours 38 = .ok (.getfield 58, 3) := by decide +kernel
theorem dX8_colours_41 : decode cX8_colours 41 = .ok (.getfield 237, 3) := by decide +kernel
theorem dX8_colours_44 : decode cX8_colours 44 = .ok (.ifCond .ne 5, 3) := by decide +kernel
theorem dX8_colours_47 : decode cX8_colours 47 = .ok (.iconst (-1), 1) := by decide +kernel
theorem dX8_colours_48 : decode cX8_colours 48 = .ok (.ireturn, 1) := by decide +kernel
theorem dX8_colours_49 : decode cX8_colours 49 = .ok (.iload_n 1, 1) := by decide +kernel
theorem dX8_colours_50 : decode cX8_colours 50 = .ok (.iconst (-1), 1) := by decide +kernel
theorem dX8_colours_51 : decode cX8_colours 51 = .ok (.if_icmp .ne 13, 3) := by decide +kernel
theorem dX8_colours_54 : decode cX8_colours 54 = .ok (.aload_n 0, 1) := by decide +kernel
theorem dX8_colours_55 : decode cX8_colours 55 = .ok (.getfield 58, 3) := by decide +kernel
theorem dX8_colours_58 : decode cX8_colours 58 = .ok (.getfield 241, 3) := by decide +kernel
theorem dX8_colours_61 : decode cX8_colours 61 = .ok (.goto 12, 3) := by decide +kernel
theorem dX8_colours_64 : decode cX8_colours 64 = .ok (.aload_n 0, 1) := by decide +kernel
theorem dX8_colours_65 : decode cX8_colours 65 = .ok (.getfield 58, 3) := by decide +kernel
theorem dX8_colours_68 : decode cX8_colours 68 = .ok (.getfield 244, 3) := by decide +kernel
theorem dX8_colours_71 : decode cX8_colours 71 = .ok (.iload_n 1, 1) := by decide +kernel
theorem dX8_colours_72 : decode cX8_colours 72 = .ok (.iaload, 1) := by decide +kernel
theorem dX8_colours_73 : decode cX8_colours 73 = .ok (.ireturn, 1) := by decide +kernel
theorem dX8_left_0 : decode cX8_left 0 = .ok (.aload_n 0, 1) := by decide +kernel
theorem dX8_left_1 : decode cX8_left 1 = .ok (.getfield 69, 3) := by decide +kernel
theorem dX8_left_4 : decode cX8_left 4 = .ok (.iload_n 1, 1) := by decide +kernel
theorem dX8_left_5 : decode cX8_left 5 = .ok (.invokevirtual 152, 3) := by decide +kernel
theorem dX8_left_8 : decode cX8_left 8 = .ok (.ifCond .eq 14, 3) := by decide +kernel
theorem dX8_left_11 : decode cX8_left 11 = .ok (.aload_n 0, 1) := by decide +kernel
theorem dX8_left_12 : decode cX8_left 12 = .ok (.getfield 69, 3) := by decide +kernel
theorem dX8_left_15 : decode cX8_left 15 = .ok (.iload_n 2, 1) := by decide +kernel
theorem dX8_left_16 : decode cX8_left 16 = .ok (.invokevirtual 247, 3) := by decide +kernel
theorem dX8_left_19 : decode cX8_left 19 = .ok (.ifCond .ne 6, 3) := by decide +kernel
theorem dX8_left_22 : decode cX8_left 22 = .ok (.ldc 138, 2) := by decide +kernel
theorem dX8_left_24 : decode cX8_left 24 = .ok (.ireturn, 1) := by decide +kernel
theorem dX8_left_25 : decode cX8_left 25 = .ok (.aload_n 0, 1) := by decide +kernel
theorem dX8_left_26 : decode cX8_left 26 = .ok (.getfield 62, 3) := by decide +kernel
theorem dX8_left_29 : decode cX8_left 29 = .ok (.iload_n 1, 1) := by decide +kernel
theorem dX8_left_30 : decode cX8_left 30 = .ok (.iaload, 1) := by decide +kernel
theorem dX8_left_31 : decode cX8_left 31 = .ok (.istore_n 3, 1) := by decide +kernel
theorem dX8_left_32 : decode cX8_left 32 = .ok (.aload_n 0, 1) := by decide +kernel
theorem dX8_left_33 : decode cX8_left 33 = .ok (.getfield 62, 3) := by decide +kernel
theorem dX8_left_36 : decode cX8_left 36 = .ok (.iload_n 1, 1) := by decide +kernel
theorem dX8_left_37 : decode cX8_left 37 = .ok (.iload_n 2, 1) := by decide +kernel
theorem dX8_left_38 : decode cX8_left 38 = .ok (.iastore, 1) := by decide +kernel
theorem dX8_left_39 : decode cX8_left 39 = .ok (.iload_n 3, 1) := by decide +kernel
theorem dX8_left_40 : decode cX8_left 40 = .ok (.ireturn, 1) := by decide +kernel
theorem dX8_fits_0 : decode cX8_fits 0 = .ok (.aload_n 0, 1) := by decide +kernel
theorem dX8_fits_1 : decode cX8_fits 1 = .ok (.getfield 58, 3) := by decide +kernel
theorem dX8_fits_4 : decode cX8_fits 4 = .ok (.aload_n 0, 1) := by decide +kernel
theorem dX8_fits_5 : decode cX8_fits 5 = .ok (.getfield 69, 3) := by decide +kernel
theorem dX8_fits_8 : decode cX8_fits 8 = .ok (.aload_n 0, 1) := by decide +kernel
theorem dX8_fits_9 : decode cX8_fits 9 = .ok (.getfield 19, 3) := by decide +kernel
theorem dX8_fits_12 : decode cX8_fits 12 = .ok (.invokevirtual 125, 3) := by decide +kernel
theorem dX8_fits_15 : decode cX8_fits 15 = .ok (.aload_n 0, 1) := by decide +kernel
theorem dX8_fits_16 : decode cX8_fits 16 = .ok (.getfield 62, 3) := by decide +kernel
theorem dX8_fits_19 : decode cX8_fits 19 = .ok (.invokevirtual 250, 3) := by decide +kernel
theorem dX8_fits_22 : decode cX8_fits 22 = .ok (.aload_n 0, 1) := by decide +kernel
theorem dX8_fits_23 : decode cX8_fits 23 = .ok (.getfield 58, 3) := by decide +kernel
theorem dX8_fits_26 : decode cX8_fits 26 = .ok (.aload_n 0, 1) := by decide +kernel
theorem dX8_fits_27 : decode cX8_fits 27 = .ok (.getfield 69, 3) := by decide +kernel
theorem dX8_fits_30 : decode cX8_fits 30 = .ok (.invokevirtual 254, 3) := by decide +kernel
theorem dX8_fits_33 : decode cX8_fits 33 = .ok (.ireturn, 1) := by decide +kernel
theorem dX8_sure_0 : decode cX8_sure 0 = .ok (.aload_n 0, 1) := by decide +kernel
theorem dX8_sure_1 : decode cX8_sure 1 = .ok (.getfield 69, 3) := by decide +kernel
theorem dX8_sure_4 : decode cX8_sure 4 = .ok (.iload_n 1, 1) := by decide +kernel
theorem dX8_sure_5 : decode cX8_sure 5 = .ok (.invokevirtual 152, 3) := by decide +kernel
theorem dX8_sure_8 : decode cX8_sure 8 = .ok (.ifCond .ne 6, 3) := by decide +kernel
theorem dX8_sure_11 : decode cX8_sure 11 = .ok (.ldc 138, 2) := by decide +kernel
theorem dX8_sure_13 : decode cX8_sure 13 = .ok (.ireturn, 1) := by decide +kernel
theorem dX8_sure_14 : decode cX8_sure 14 = .ok (.aload_n 0, 1) := by decide +kernel
theorem dX8_sure_15 : decode cX8_sure 15 = .ok (.getfield 58, 3) := by decide +kernel
theorem dX8_sure_18 : decode cX8_sure 18 = .ok (.aload_n 0, 1) := by decide +kernel
theorem dX8_sure_19 : decode cX8_sure 19 = .ok (.getfield 69, 3) := by decide +kernel
theorem dX8_sure_22 : decode cX8_sure 22 = .ok (.aload_n 0, 1) := by decide +kernel
theorem dX8_sure_23 : decode cX8_sure 23 = .ok (.getfield 19, 3) := by decide +kernel
theorem dX8_sure_26 : decode cX8_sure 26 = .ok (.invokevirtual 125, 3) := by decide +kernel
theorem dX8_sure_29 : decode cX8_sure 29 = .ok (.aload_n 0, 1) := by decide +kernel
theorem dX8_sure_30 : decode cX8_sure 30 = .ok (.getfield 62, 3) := by decide +kernel
theorem dX8_sure_33 : decode cX8_sure 33 = .ok (.invokevirtual 250, 3) := by decide +kernel
theorem dX8_sure_36 : decode cX8_sure 36 = .ok (.aload_n 0, 1) := by decide +kernel
theorem dX8_sure_37 : decode cX8_sure 37 = .ok (.getfield 58, 3) := by decide +kernel
theorem dX8_sure_40 : decode cX8_sure 40 = .ok (.aload_n 0, 1) := by decide +kernel
theorem dX8_sure_41 : decode cX8_sure 41 = .ok (.getfield 69, 3) := by decide +kernel
theorem dX8_sure_44 : decode cX8_sure 44 = .ok (.iload_n 1, 1) := by decide +kernel
theorem dX8_sure_45 : decode cX8_sure 45 = .ok (.invokevirtual 257, 3) := by decide +kernel
theorem dX8_sure_48 : decode cX8_sure 48 = .ok (.ireturn, 1) := by decide +kernel
theorem dX8_write_0 : decode cX8_write 0 = .ok (.aload_n 0, 1) := by decide +kernel
theorem dX8_write_1 : decode cX8_write 1 = .ok (.getfield 69, 3) := by decide +kernel
theorem dX8_write_4 : decode cX8_write 4 = .ok (.iload_n 1, 1) := by decide +kernel
theorem dX8_write_5 : decode cX8_write 5 = .ok (.invokevirtual 152, 3) := by decide +kernel
theorem dX8_write_8 : decode cX8_write 8 = .ok (.ifCond .eq 14, 3) := by decide +kernel
theorem dX8_write_11 : decode cX8_write 11 = .ok (.aload_n 0, 1) := by decide +kernel
theorem dX8_write_12 : decode cX8_write 12 = .ok (.getfield 69, 3) := by decide +kernel
theorem dX8_write_15 : decode cX8_write 15 = .ok (.iload_n 2, 1) := by decide +kernel
theorem dX8_write_16 : decode cX8_write 16 = .ok (.invokevirtual 135, 3) := by decide +kernel
theorem dX8_write_19 : decode cX8_write 19 = .ok (.ifCond .ne 6, 3) := by decide +kernel
theorem dX8_write_22 : decode cX8_write 22 = .ok (.ldc 138, 2) := by decide +kernel
theorem dX8_write_24 : decode cX8_write 24 = .ok (.ireturn, 1) := by decide +kernel
theorem dX8_write_25 : decode cX8_write 25 = .ok (.aload_n 0, 1) := by decide +kernel
theorem dX8_write_26 : decode cX8_write 26 = .ok (.getfield 30, 3) := by decide +kernel
theorem dX8_write_29 : decode cX8_write 29 = .ok (.getfield 104, 3) := by decide +kernel
theorem dX8_write_32 : decode cX8_write 32 = .ok (.bipush 30, 2) := by decide +kernel
theorem dX8_write_34 : decode cX8_write 34 = .ok (.if_icmp .lt 6, 3) := by decide +kernel
theorem dX8_write_37 : decode cX8_write 37 = .ok (.ldc 81, 2) := by decide +kernel
theorem dX8_write_39 : decode cX8_write 39 = .ok (.ireturn, 1) := by decide +kernel
theorem dX8_write_40 : decode cX8_write 40 = .ok (.aload_n 0, 1) := by decide +kernel
theorem dX8_write_41 : decode cX8_write 41 = .ok (.getfield 30, 3) := by decide +kernel
theorem dX8_write_44 : decode cX8_write 44 = .ok (.iload_n 1, 1) := by decide +kernel
theorem dX8_write_45 : decode cX8_write 45 = .ok (.iload_n 2, 1) := by decide +kernel
theorem dX8_write_46 : decode cX8_write 46 = .ok (.invokevirtual 260, 3) := by decide +kernel
theorem dX8_write_49 : decode cX8_write 49 = .ok (.aload_n 0, 1) := by decide +kernel
theorem dX8_write_50 : decode cX8_write 50 = .ok (.getfield 30, 3) := by decide +kernel
theorem dX8_write_53 : decode cX8_write 53 = .ok (.getfield 104, 3) := by decide +kernel
theorem dX8_write_56 : decode cX8_write 56 = .ok (.ireturn, 1) := by decide +kernel
theorem dX8_tear_0 : decode cX8_tear 0 = .ok (.aload_n 0, 1) := by decide +kernel
theorem dX8_tear_1 : decode cX8_tear 1 = .ok (.getfield 30, 3) := by decide +kernel
theorem dX8_tear_4 : decode cX8_tear 4 = .ok (.getfield 104, 3) := by decide +kernel
theorem dX8_tear_7 : decode cX8_tear 7 = .ok (.istore_n 1, 1) := by decide +kernel
theorem dX8_tear_8 : decode cX8_tear 8 = .ok (.aload_n 0, 1) := by decide +kernel
theorem dX8_tear_9 : decode cX8_tear 9 = .ok (.getfield 30, 3) := by decide +kernel
theorem dX8_tear_12 : decode cX8_tear 12 = .ok (.iconst 0, 1) := by decide +kernel
theorem dX8_tear_13 : decode cX8_tear 13 = .ok (.putfield 104, 3) := by decide +kernel
theorem dX8_tear_16 : decode cX8_tear 16 = .ok (.iload_n 1, 1) := by decide +kernel
theorem dX8_tear_17 : decode cX8_tear 17 = .ok (.ireturn, 1) := by decide +kernel
theorem dX8_judge_0 : decode cX8_judge 0 = .ok (.aload_n 0, 1) := by decide +kernel
theorem dX8_judge_1 : decode cX8_judge 1 = .ok (.getfield 30, 3) := by decide +kernel
theorem dX8_judge_4 : decode cX8_judge 4 = .ok (.aload_n 0, 1) := by decide +kernel
theorem dX8_judge_5 : decode cX8_judge 5 = .ok (.getfield 69, 3) := by decide +kernel
theorem dX8_judge_8 : decode cX8_judge 8 = .ok (.aload_n 0, 1) := by decide +kernel
theorem dX8_judge_9 : decode cX8_judge 9 = .ok (.getfield 19, 3) := by decide +kernel
theorem dX8_judge_12 : decode cX8_judge 12 = .ok (.invokevirtual 262, 3) := by decide +kernel
theorem dX8_judge_15 : decode cX8_judge 15 = .ok (.ireturn, 1) := by decide +kernel
theorem dX8_seed_0 : decode cX8_seed 0 = .ok (.iload_n 1, 1) := by decide +kernel
theorem dX8_seed_1 : decode cX8_seed 1 = .ok (.ifCond .ge 6, 3) := by decide +kernel
theorem dX8_seed_4 : decode cX8_seed 4 = .ok (.ldc 76, 2) := by decide +kernel
theorem dX8_seed_6 : decode cX8_seed 6 = .ok (.ireturn, 1) := by decide +kernel
theorem dX8_seed_7 : decode cX8_seed 7 = .ok (.aload_n 0, 1) := by decide +kernel
theorem dX8_seed_8 : decode cX8_seed 8 = .ok (.getfield 19, 3) := by decide +kernel
theorem dX8_seed_11 : decode cX8_seed 11 = .ok (.getfield 266, 3) := by decide +kernel
theorem dX8_seed_14 : decode cX8_seed 14 = .ok (.istore_n 2, 1) := by decide +kernel
theorem dX8_seed_15 : decode cX8_seed 15 = .ok (.aload_n 0, 1) := by decide +kernel
theorem dX8_seed_16 : decode cX8_seed 16 = .ok (.getfield 19, 3) := by decide +kernel
theorem dX8_seed_19 : decode cX8_seed 19 = .ok (.iload_n 1, 1) := by decide +kernel
theorem dX8_seed_20 : decode cX8_seed 20 = .ok (.putfield 266, 3) := by decide +kernel
theorem dX8_seed_23 : decode cX8_seed 23 = .ok (.iload_n 2, 1) := by decide +kernel
theorem dX8_seed_24 : decode cX8_seed 24 = .ok (.ireturn, 1) := by decide +kernel
theorem dX8_keep_0 : decode cX8_keep 0 = .ok (.iload_n 1, 1) := by decide +kernel
theorem dX8_keep_1 : decode cX8_keep 1 = .ok (.ifCond .lt 8, 3) := by decide +kernel
theorem dX8_keep_4 : decode cX8_keep 4 = .ok (.iload_n 1, 1) := by decide +kernel
theorem dX8_keep_5 : decode cX8_keep 5 = .ok (.iconst 2, 1) := by decide +kernel
theorem dX8_keep_6 : decode cX8_keep 6 = .ok (.if_icmp .lt 6, 3) := by decide +kernel
theorem dX8_keep_9 : decode cX8_keep 9 = .ok (.ldc 138, 2) := by decide +kernel
theorem dX8_keep_11 : decode cX8_keep 11 = .ok (.ireturn, 1) := by decide +kernel
theorem dX8_keep_12 : decode cX8_keep 12 = .ok (.aload_n 0, 1) := by decide +kernel
theorem dX8_keep_13 : decode cX8_keep 13 = .ok (.getfield 23, 3) := by decide +kernel
theorem dX8_keep_16 : decode cX8_keep 16 = .ok (.iload_n 1, 1) := by decide +kernel
theorem dX8_keep_17 : decode cX8_keep 17 = .ok (.aaload, 1) := by decide +kernel
theorem dX8_keep_18 : decode cX8_keep 18 = .ok (.aload_n 0, 1) := by decide +kernel
theorem dX8_keep_19 : decode cX8_keep 19 = .ok (.getfield 19, 3) := by decide +kernel
theorem dX8_keep_22 : decode cX8_keep 22 = .ok (.invokevirtual 269, 3) := by decide +kernel
theorem dX8_keep_25 : decode cX8_keep 25 = .ok (.aload_n 0, 1) := by decide +kernel
theorem dX8_keep_26 : decode cX8_keep 26 = .ok (.dup, 1) := by decide +kernel
theorem dX8_keep_27 : decode cX8_keep 27 = .ok (.getfield 107, 3) := by decide +kernel
theorem dX8_keep_30 : decode cX8_keep 30 = .ok (.iconst 1, 1) := by decide +kernel
theorem dX8_keep_31 : decode cX8_keep 31 = .ok (.iload_n 1, 1) := by decide +kernel
theorem dX8_keep_32 : decode cX8_keep 32 = .ok (.ishl, 1) := by decide +kernel
theorem dX8_keep_33 : decode cX8_keep 33 = .ok (.ior, 1) := by decide +kernel
theorem dX8_keep_34 : decode cX8_keep 34 = .ok (.putfield 107, 3) := by decide +kernel
theorem dX8_keep_37 : decode cX8_keep 37 = .ok (.iconst 1, 1) := by decide +kernel
theorem dX8_keep_38 : decode cX8_keep 38 = .ok (.ireturn, 1) := by decide +kernel
theorem dX8_goBack_0 : decode cX8_goBack 0 = .ok (.iload_n 1, 1) := by decide +kernel
theorem dX8_goBack_1 : decode cX8_goBack 1 = .ok (.ifCond .lt 8, 3) := by decide +kernel
theorem dX8_goBack_4 : decode cX8_goBack 4 = .ok (.iload_n 1, 1) := by decide +kernel
theorem dX8_goBack_5 : decode cX8_goBack 5 = .ok (.iconst 2, 1) := by decide +kernel
theorem dX8_goBack_6 : decode cX8_goBack 6 = .ok (.if_icmp .lt 6, 3) := by decide +kernel
theorem dX8_goBack_9 : decode cX8_goBack 9 = .ok (.ldc 138, 2) := by decide +kernel
theorem dX8_goBack_11 : decode cX8_goBack 11 = .ok (.ireturn, 1) := by decide +kernel
theorem dX8_goBack_12 : decode cX8_goBack 12 = .ok (.aload_n 0, 1) := by decide +kernel
theorem dX8_goBack_13 : decode cX8_goBack 13 = .ok (.getfield 107, 3) := by decide +kernel
theorem dX8_goBack_16 : decode cX8_goBack 16 = .ok (.iload_n 1, 1) := by decide +kernel
theorem dX8_goBack_17 : decode cX8_goBack 17 = .ok (.invokestatic 148, 3) := by decide +kernel
theorem dX8_goBack_20 : decode cX8_goBack 20 = .ok (.ifCond .ne 6, 3) := by decide +kernel
theorem dX8_goBack_23 : decode cX8_goBack 23 = .ok (.ldc 175, 2) := by decide +kernel
theorem dX8_goBack_25 : decode cX8_goBack 25 = .ok (.ireturn, 1) := by decide +kernel
theorem dX8_goBack_26 : decode cX8_goBack 26 = .ok (.aload_n 0, 1) := by decide +kernel
theorem dX8_goBack_27 : decode cX8_goBack 27 = .ok (.getfield 19, 3) := by decide +kernel
theorem dX8_goBack_30 : decode cX8_goBack 30 = .ok (.aload_n 0, 1) := by decide +kernel
theorem dX8_goBack_31 : decode cX8_goBack 31 = .ok (.getfield 23, 3) := by decide +kernel
theorem dX8_goBack_34 : decode cX8_goBack 34 = .ok (.iload_n 1, 1) := by decide +kernel
theorem dX8_goBack_35 : decode cX8_goBack 35 = .ok (.aaload, 1) := by decide +kernel
theorem dX8_goBack_36 : decode cX8_goBack 36 = .ok (.invokevirtual 269, 3) := by decide +kernel
theorem dX8_goBack_39 : decode cX8_goBack 39 = .ok (.iconst 1, 1) := by decide +kernel
theorem dX8_goBack_40 : decode cX8_goBack 40 = .ok (.ireturn, 1) := by decide +kernel
theorem dX8_has_0 : decode cX8_has 0 = .ok (.iload_n 0, 1) := by decide +kernel
theorem dX8_has_1 : decode cX8_has 1 = .ok (.iload_n 1, 1) := by decide +kernel
theorem dX8_has_2 : decode cX8_has 2 = .ok (.ishr, 1) := by decide +kernel
theorem dX8_has_3 : decode cX8_has 3 = .ok (.iconst 1, 1) := by decide +kernel
theorem dX8_has_4 : decode cX8_has 4 = .ok (.iand, 1) := by decide +kernel
theorem dX8_has_5 : decode cX8_has 5 = .ok (.ifCond .eq 7, 3) := by decide +kernel
theorem dX8_has_8 : decode cX8_has 8 = .ok (.iconst 1, 1) := by decide +kernel
theorem dX8_has_9 : decode cX8_has 9 = .ok (.goto 4, 3) := by decide +kernel
theorem dX8_has_12 : decode cX8_has 12 = .ok (.iconst 0, 1) := by decide +kernel
theorem dX8_has_13 : decode cX8_has 13 = .ok (.ireturn, 1) := by decide +kernel
