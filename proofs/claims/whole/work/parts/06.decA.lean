theorem dX0_init_0 : decode cX0_init 0 = .ok (.aload_n 0, 1) := by decide +kernel
theorem dX0_init_1 : decode cX0_init 1 = .ok (.invokespecial 3, 3) := by decide +kernel
theorem dX0_init_4 : decode cX0_init 4 = .ok (.aload_n 0, 1) := by decide +kernel
theorem dX0_init_5 : decode cX0_init 5 = .ok (.iconst 4, 1) := by decide +kernel
theorem dX0_init_6 : decode cX0_init 6 = .ok (.newarray .int, 2) := by decide +kernel
theorem dX0_init_8 : decode cX0_init 8 = .ok (.putfield 9, 3) := by decide +kernel
theorem dX0_init_11 : decode cX0_init 11 = .ok (.return_, 1) := by decide +kernel
theorem dX0_begin_0 : decode cX0_begin 0 = .ok (.aload_n 0, 1) := by decide +kernel
theorem dX0_begin_1 : decode cX0_begin 1 = .ok (.getfield 9, 3) := by decide +kernel
theorem dX0_begin_4 : decode cX0_begin 4 = .ok (.iconst 0, 1) := by decide +kernel
theorem dX0_begin_5 : decode cX0_begin 5 = .ok (.iload_n 1, 1) := by decide +kernel
theorem dX0_begin_6 : decode cX0_begin 6 = .ok (.iastore, 1) := by decide +kernel
theorem dX0_begin_7 : decode cX0_begin 7 = .ok (.aload_n 0, 1) := by decide +kernel
theorem dX0_begin_8 : decode cX0_begin 8 = .ok (.getfield 9, 3) := by decide +kernel
theorem dX0_begin_11 : decode cX0_begin 11 = .ok (.iconst 1, 1) := by decide +kernel
theorem dX0_begin_12 : decode cX0_begin 12 = .ok (.iload_n 2, 1) := by decide +kernel
theorem dX0_begin_13 : decode cX0_begin 13 = .ok (.iastore, 1) := by decide +kernel
theorem dX0_begin_14 : decode cX0_begin 14 = .ok (.aload_n 0, 1) := by decide +kernel
theorem dX0_begin_15 : decode cX0_begin 15 = .ok (.getfield 9, 3) := by decide +kernel
theorem dX0_begin_18 : decode cX0_begin 18 = .ok (.iconst 2, 1) := by decide +kernel
theorem dX0_begin_19 : decode cX0_begin 19 = .ok (.iconst 0, 1) := by decide +kernel
theorem dX0_begin_20 : decode cX0_begin 20 = .ok (.iastore, 1) := by decide +kernel
theorem dX0_begin_21 : decode cX0_begin 21 = .ok (.aload_n 0, 1) := by decide +kernel
theorem dX0_begin_22 : decode cX0_begin 22 = .ok (.getfield 9, 3) := by decide +kernel
theorem dX0_begin_25 : decode cX0_begin 25 = .ok (.iconst 3, 1) := by decide +kernel
theorem dX0_begin_26 : decode cX0_begin 26 = .ok (.iconst 0, 1) := by decide +kernel
theorem dX0_begin_27 : decode cX0_begin 27 = .ok (.iastore, 1) := by decide +kernel
theorem dX0_begin_28 : decode cX0_begin 28 = .ok (.return_, 1) := by decide +kernel
theorem dX0_hasLearnt_0 : decode cX0_hasLearnt 0 = .ok (.aload_n 0, 1) := by decide +kernel
theorem dX0_hasLearnt_1 : decode cX0_hasLearnt 1 = .ok (.getfield 9, 3) := by decide +kernel
theorem dX0_hasLearnt_4 : decode cX0_hasLearnt 4 = .ok (.iconst 2, 1) := by decide +kernel
theorem dX0_hasLearnt_5 : decode cX0_hasLearnt 5 = .ok (.iaload, 1) := by decide +kernel
theorem dX0_hasLearnt_6 : decode cX0_hasLearnt 6 = .ok (.iconst 1, 1) := by decide +kernel
theorem dX0_hasLearnt_7 : decode cX0_hasLearnt 7 = .ok (.iload_n 1, 1) := by decide +kernel
theorem dX0_hasLearnt_8 : decode cX0_hasLearnt 8 = .ok (.ishl, 1) := by decide +kernel
theorem dX0_hasLearnt_9 : decode cX0_hasLearnt 9 = .ok (.iand, 1) := by decide +kernel
theorem dX0_hasLearnt_10 : decode cX0_hasLearnt 10 = .ok (.ifCond .eq 7, 3) := by decide +kernel
theorem dX0_hasLearnt_13 : decode cX0_hasLearnt 13 = .ok (.iconst 1, 1) := by decide +kernel
theorem dX0_hasLearnt_14 : decode cX0_hasLearnt 14 = .ok (.goto 4, 3) := by decide +kernel
theorem dX0_hasLearnt_17 : decode cX0_hasLearnt 17 = .ok (.iconst 0, 1) := by decide +kernel
theorem dX0_hasLearnt_18 : decode cX0_hasLearnt 18 = .ok (.ireturn, 1) := by decide +kernel
theorem dX0_hear_0 : decode cX0_hear 0 = .ok (.aload_n 0, 1) := by decide +kernel
theorem dX0_hear_1 : decode cX0_hear 1 = .ok (.iload_n 1, 1) := by decide +kernel
theorem dX0_hear_2 : decode cX0_hear 2 = .ok (.invokevirtual 15, 3) := by decide +kernel
theorem dX0_hear_5 : decode cX0_hear 5 = .ok (.ifCond .eq 4, 3) := by decide +kernel
theorem dX0_hear_8 : decode cX0_hear 8 = .ok (.return_, 1) := by decide +kernel
theorem dX0_hear_9 : decode cX0_hear 9 = .ok (.iload_n 1, 1) := by decide +kernel
theorem dX0_hear_10 : decode cX0_hear 10 = .ok (.ifCond .eq 13, 3) := by decide +kernel
theorem dX0_hear_13 : decode cX0_hear 13 = .ok (.aload_n 0, 1) := by decide +kernel
theorem dX0_hear_14 : decode cX0_hear 14 = .ok (.iload_n 1, 1) := by decide +kernel
theorem dX0_hear_15 : decode cX0_hear 15 = .ok (.iconst 1, 1) := by decide +kernel
theorem dX0_hear_16 : decode cX0_hear 16 = .ok (.isub, 1) := by decide +kernel
theorem dX0_hear_17 : decode cX0_hear 17 = .ok (.invokevirtual 15, 3) := by decide +kernel
theorem dX0_hear_20 : decode cX0_hear 20 = .ok (.ifCond .eq 7, 3) := by decide +kernel
theorem dX0_hear_23 : decode cX0_hear 23 = .ok (.iconst 1, 1) := by decide +kernel
theorem dX0_hear_24 : decode cX0_hear 24 = .ok (.goto 4, 3) := by decide +kernel
theorem dX0_hear_27 : decode cX0_hear 27 = .ok (.iconst 0, 1) := by decide +kernel
theorem dX0_hear_28 : decode cX0_hear 28 = .ok (.istore_n 3, 1) := by decide +kernel
theorem dX0_hear_29 : decode cX0_hear 29 = .ok (.aload_n 0, 1) := by decide +kernel
theorem dX0_hear_30 : decode cX0_hear 30 = .ok (.getfield 9, 3) := by decide +kernel
theorem dX0_hear_33 : decode cX0_hear 33 = .ok (.iconst 1, 1) := by decide +kernel
theorem dX0_hear_34 : decode cX0_hear 34 = .ok (.iaload, 1) := by decide +kernel
theorem dX0_hear_35 : decode cX0_hear 35 = .ok (.iload_n 2, 1) := by decide +kernel
theorem dX0_hear_36 : decode cX0_hear 36 = .ok (.if_icmp .lt 36, 3) := by decide +kernel
theorem dX0_hear_39 : decode cX0_hear 39 = .ok (.iload_n 3, 1) := by decide +kernel
theorem dX0_hear_40 : decode cX0_hear 40 = .ok (.ifCond .eq 32, 3) := by decide +kernel
theorem dX0_hear_43 : decode cX0_hear 43 = .ok (.aload_n 0, 1) := by decide +kernel
theorem dX0_hear_44 : decode cX0_hear 44 = .ok (.getfield 9, 3) := by decide +kernel
theorem dX0_hear_47 : decode cX0_hear 47 = .ok (.iconst 2, 1) := by decide +kernel
theorem dX0_hear_48 : decode cX0_hear 48 = .ok (.dup2, 1) := by decide +kernel
theorem dX0_hear_49 : decode cX0_hear 49 = .ok (.iaload, 1) := by decide +kernel
theorem dX0_hear_50 : decode cX0_hear 50 = .ok (.iconst 1, 1) := by decide +kernel
theorem dX0_hear_51 : decode cX0_hear 51 = .ok (.iload_n 1, 1) := by decide +kernel
theorem dX0_hear_52 : decode cX0_hear 52 = .ok (.ishl, 1) := by decide +kernel
theorem dX0_hear_53 : decode cX0_hear 53 = .ok (.ior, 1) := by decide +kernel
theorem dX0_hear_54 : decode cX0_hear 54 = .ok (.iastore, 1) := by decide +kernel
theorem dX0_hear_55 : decode cX0_hear 55 = .ok (.aload_n 0, 1) := by decide +kernel
theorem dX0_hear_56 : decode cX0_hear 56 = .ok (.getfield 9, 3) := by decide +kernel
theorem dX0_hear_59 : decode cX0_hear 59 = .ok (.iconst 3, 1) := by decide +kernel
theorem dX0_hear_60 : decode cX0_hear 60 = .ok (.dup2, 1) := by decide +kernel
theorem dX0_hear_61 : decode cX0_hear 61 = .ok (.iaload, 1) := by decide +kernel
theorem dX0_hear_62 : decode cX0_hear 62 = .ok (.iconst 1, 1) := by decide +kernel
theorem dX0_hear_63 : decode cX0_hear 63 = .ok (.iload_n 1, 1) := by decide +kernel
theorem dX0_hear_64 : decode cX0_hear 64 = .ok (.ishl, 1) := by decide +kernel
theorem dX0_hear_65 : decode cX0_hear 65 = .ok (.iconst (-1), 1) := by decide +kernel
theorem dX0_hear_66 : decode cX0_hear 66 = .ok (.ixor, 1) := by decide +kernel
theorem dX0_hear_67 : decode cX0_hear 67 = .ok (.iand, 1) := by decide +kernel
theorem dX0_hear_68 : decode cX0_hear 68 = .ok (.iastore, 1) := by decide +kernel
theorem dX0_hear_69 : decode cX0_hear 69 = .ok (.goto 15, 3) := by decide +kernel
theorem dX0_hear_72 : decode cX0_hear 72 = .ok (.aload_n 0, 1) := by decide +kernel
theorem dX0_hear_73 : decode cX0_hear 73 = .ok (.getfield 9, 3) := by decide +kernel
theorem dX0_hear_76 : decode cX0_hear 76 = .ok (.iconst 3, 1) := by decide +kernel
theorem dX0_hear_77 : decode cX0_hear 77 = .ok (.dup2, 1) := by decide +kernel
theorem dX0_hear_78 : decode cX0_hear 78 = .ok (.iaload, 1) := by decide +kernel
theorem dX0_hear_79 : decode cX0_hear 79 = .ok (.iconst 1, 1) := by decide +kernel
theorem dX0_hear_80 : decode cX0_hear 80 = .ok (.iload_n 1, 1) := by decide +kernel
theorem dX0_hear_81 : decode cX0_hear 81 = .ok (.ishl, 1) := by decide +kernel
theorem dX0_hear_82 : decode cX0_hear 82 = .ok (.ior, 1) := by decide +kernel
theorem dX0_hear_83 : decode cX0_hear 83 = .ok (.iastore, 1) := by decide +kernel
theorem dX0_hear_84 : decode cX0_hear 84 = .ok (.return_, 1) := by decide +kernel
theorem dX0_rowOn_0 : decode cX0_rowOn 0 = .ok (.aload_n 0, 1) := by decide +kernel
theorem dX0_rowOn_1 : decode cX0_rowOn 1 = .ok (.getfield 9, 3) := by decide +kernel
theorem dX0_rowOn_4 : decode cX0_rowOn 4 = .ok (.iconst 0, 1) := by decide +kernel
theorem dX0_rowOn_5 : decode cX0_rowOn 5 = .ok (.aload_n 0, 1) := by decide +kernel
theorem dX0_rowOn_6 : decode cX0_rowOn 6 = .ok (.getfield 9, 3) := by decide +kernel
theorem dX0_rowOn_9 : decode cX0_rowOn 9 = .ok (.iconst 0, 1) := by decide +kernel
theorem dX0_rowOn_10 : decode cX0_rowOn 10 = .ok (.iaload, 1) := by decide +kernel
theorem dX0_rowOn_11 : decode cX0_rowOn 11 = .ok (.bipush 15, 2) := by decide +kernel
theorem dX0_rowOn_13 : decode cX0_rowOn 13 = .ok (.if_icmp .ge 14, 3) := by decide +kernel
theorem dX0_rowOn_16 : decode cX0_rowOn 16 = .ok (.aload_n 0, 1) := by decide +kernel
theorem dX0_rowOn_17 : decode cX0_rowOn 17 = .ok (.getfield 9, 3) := by decide +kernel
theorem dX0_rowOn_20 : decode cX0_rowOn 20 = .ok (.iconst 0, 1) := by decide +kernel
theorem dX0_rowOn_21 : decode cX0_rowOn 21 = .ok (.iaload, 1) := by decide +kernel
theorem dX0_rowOn_22 : decode cX0_rowOn 22 = .ok (.iconst 1, 1) := by decide +kernel
theorem dX0_rowOn_23 : decode cX0_rowOn 23 = .ok (.iadd, 1) := by decide +kernel
theorem dX0_rowOn_24 : decode cX0_rowOn 24 = .ok (.goto 4, 3) := by decide +kernel
theorem dX0_rowOn_27 : decode cX0_rowOn 27 = .ok (.iconst 0, 1) := by decide +kernel
theorem dX0_rowOn_28 : decode cX0_rowOn 28 = .ok (.iastore, 1) := by decide +kernel
theorem dX0_rowOn_29 : decode cX0_rowOn 29 = .ok (.return_, 1) := by decide +kernel
theorem dX1_init_0 : decode cX1_init 0 = .ok (.aload_n 0, 1) := by decide +kernel
theorem dX1_init_1 : decode cX1_init 1 = .ok (.invokespecial 3, 3) := by decide +kernel
theorem dX1_init_4 : decode cX1_init 4 = .ok (.aload_n 0, 1) := by decide +kernel
theorem dX1_init_5 : decode cX1_init 5 = .ok (.bipush 6, 2) := by decide +kernel
theorem dX1_init_7 : decode cX1_init 7 = .ok (.newarray .int, 2) := by decide +kernel
theorem dX1_init_9 : decode cX1_init 9 = .ok (.putfield 9, 3) := by decide +kernel
theorem dX1_init_12 : decode cX1_init 12 = .ok (.aload_n 0, 1) := by decide +kernel
theorem dX1_init_13 : decode cX1_init 13 = .ok (.bipush 10, 2) := by decide +kernel
theorem dX1_init_15 : decode cX1_init 15 = .ok (.newarray .int, 2) := by decide +kernel
theorem dX1_init_17 : decode cX1_init 17 = .ok (.putfield 15, 3) := by decide +kernel
theorem dX1_init_20 : decode cX1_init 20 = .ok (.aload_n 0, 1) := by decide +kernel
theorem dX1_init_21 : decode cX1_init 21 = .ok (.getfield 15, 3) := by decide +kernel
theorem dX1_init_24 : decode cX1_init 24 = .ok (.iconst (-1), 1) := by decide +kernel
theorem dX1_init_25 : decode cX1_init 25 = .ok (.invokestatic 18, 3) := by decide +kernel
theorem dX1_init_28 : decode cX1_init 28 = .ok (.aload_n 0, 1) := by decide +kernel
theorem dX1_init_29 : decode cX1_init 29 = .ok (.bipush 8, 2) := by decide +kernel
theorem dX1_init_31 : decode cX1_init 31 = .ok (.anewarray 24, 3) := by decide +kernel
theorem dX1_init_34 : decode cX1_init 34 = .ok (.putfield 26, 3) := by decide +kernel
theorem dX1_init_37 : decode cX1_init 37 = .ok (.iconst 0, 1) := by decide +kernel
theorem dX1_init_38 : decode cX1_init 38 = .ok (.istore_n 1, 1) := by decide +kernel
theorem dX1_init_39 : decode cX1_init 39 = .ok (.iload_n 1, 1) := by decide +kernel
theorem dX1_init_40 : decode cX1_init 40 = .ok (.bipush 8, 2) := by decide +kernel
theorem dX1_init_42 : decode cX1_init 42 = .ok (.if_icmp .ge 22, 3) := by decide +kernel
theorem dX1_init_45 : decode cX1_init 45 = .ok (.aload_n 0, 1) := by decide +kernel
theorem dX1_init_46 : decode cX1_init 46 = .ok (.getfield 26, 3) := by decide +kernel
theorem dX1_init_49 : decode cX1_init 49 = .ok (.iload_n 1, 1) := by decide +kernel
theorem dX1_init_50 : decode cX1_init 50 = .ok (.new 24, 3) := by decide +kernel
theorem dX1_init_53 : decode cX1_init 53 = .ok (.dup, 1) := by decide +kernel
theorem dX1_init_54 : decode cX1_init 54 = .ok (.invokespecial 30, 3) := by decide +kernel
theorem dX1_init_57 : decode cX1_init 57 = .ok (.aastore, 1) := by decide +kernel
theorem dX1_init_58 : decode cX1_init 58 = .ok (.iinc 1 1, 3) := by decide +kernel
theorem dX1_init_61 : decode cX1_init 61 = .ok (.goto (-22), 3) := by decide +kernel
theorem dX1_init_64 : decode cX1_init 64 = .ok (.aload_n 0, 1) := by decide +kernel
theorem dX1_init_65 : decode cX1_init 65 = .ok (.bipush 6, 2) := by decide +kernel
theorem dX1_init_67 : decode cX1_init 67 = .ok (.anewarray 31, 3) := by decide +kernel
theorem dX1_init_70 : decode cX1_init 70 = .ok (.putfield 33, 3) := by decide +kernel
theorem dX1_init_73 : decode cX1_init 73 = .ok (.iconst 0, 1) := by decide +kernel
theorem dX1_init_74 : decode cX1_init 74 = .ok (.istore_n 1, 1) := by decide +kernel
theorem dX1_init_75 : decode cX1_init 75 = .ok (.iload_n 1, 1) := by decide +kernel
theorem dX1_init_76 : decode cX1_init 76 = .ok (.bipush 6, 2) := by decide +kernel
theorem dX1_init_78 : decode cX1_init 78 = .ok (.if_icmp .ge 22, 3) := by decide +kernel
theorem dX1_init_81 : decode cX1_init 81 = .ok (.aload_n 0, 1) := by decide +kernel
theorem dX1_init_82 : decode cX1_init 82 = .ok (.getfield 33, 3) := by decide +kernel
theorem dX1_init_85 : decode cX1_init 85 = .ok (.iload_n 1, 1) := by decide +kernel
theorem dX1_init_86 : decode cX1_init 86 = .ok (.new 31, 3) := by decide +kernel
theorem dX1_init_89 : decode cX1_init 89 = .ok (.dup, 1) := by decide +kernel
theorem dX1_init_90 : decode cX1_init 90 = .ok (.invokespecial 37, 3) := by decide +kernel
theorem dX1_init_93 : decode cX1_init 93 = .ok (.aastore, 1) := by decide +kernel
theorem dX1_init_94 : decode cX1_init 94 = .ok (.iinc 1 1, 3) := by decide +kernel
theorem dX1_init_97 : decode cX1_init 97 = .ok (.goto (-22), 3) := by decide +kernel
theorem dX1_init_100 : decode cX1_init 100 = .ok (.aload_n 0, 1) := by decide +kernel
theorem dX1_init_101 : decode cX1_init 101 = .ok (.iconst 0, 1) := by decide +kernel
theorem dX1_init_102 : decode cX1_init 102 = .ok (.putfield 38, 3) := by decide +kernel
theorem dX1_init_105 : decode cX1_init 105 = .ok (.aload_n 0, 1) := by decide +kernel
theorem dX1_init_106 : decode cX1_init 106 = .ok (.iconst 0, 1) := by decide +kernel
theorem dX1_init_107 : decode cX1_init 107 = .ok (.putfield 42, 3) := by decide +kernel
theorem dX1_init_110 : decode cX1_init 110 = .ok (.aload_n 0, 1) := by decide +kernel
theorem dX1_init_111 : decode cX1_init 111 = .ok (.iconst 0, 1) := by decide +kernel
theorem dX1_init_112 : decode cX1_init 112 = .ok (.putfield 45, 3) := by decide +kernel
theorem dX1_init_115 : decode cX1_init 115 = .ok (.aload_n 0, 1) := by decide +kernel
theorem dX1_init_116 : decode cX1_init 116 = .ok (.iconst 1, 1) := by decide +kernel
theorem dX1_init_117 : decode cX1_init 117 = .ok (.putfield 48, 3) := by decide +kernel
theorem dX1_init_120 : decode cX1_init 120 = .ok (.return_, 1) := by decide +kernel
theorem dX1_become_0 : decode cX1_become 0 = .ok (.aload_n 1, 1) := by decide +kernel
theorem dX1_become_1 : decode cX1_become 1 = .ok (.getfield 9, 3) := by decide +kernel
theorem dX1_become_4 : decode cX1_become 4 = .ok (.iconst 0, 1) := by decide +kernel
theorem dX1_become_5 : decode cX1_become 5 = .ok (.aload_n 0, 1) := by decide +kernel
theorem dX1_become_6 : decode cX1_become 6 = .ok (.getfield 9, 3) := by decide +kernel
theorem dX1_become_9 : decode cX1_become 9 = .ok (.iconst 0, 1) := by decide +kernel
theorem dX1_become_10 : decode cX1_become 10 = .ok (.bipush 6, 2) := by decide +kernel
theorem dX1_become_12 : decode cX1_become 12 = .ok (.invokestatic 51, 3) := by decide +kernel
theorem dX1_become_15 : decode cX1_become 15 = .ok (.aload_n 1, 1) := by decide +kernel
theorem dX1_become_16 : decode cX1_become 16 = .ok (.getfield 15, 3) := by decide +kernel
theorem dX1_become_19 : decode cX1_become 19 = .ok (.iconst 0, 1) := by decide +kernel
theorem dX1_become_20 : decode cX1_become 20 = .ok (.aload_n 0, 1) := by decide +kernel
theorem dX1_become_21 : decode cX1_become 21 = .ok (.getfield 15, 3) := by decide +kernel
theorem dX1_become_24 : decode cX1_become 24 = .ok (.iconst 0, 1) := by decide +kernel
theorem dX1_become_25 : decode cX1_become 25 = .ok (.bipush 10, 2) := by decide +kernel
theorem dX1_become_27 : decode cX1_become 27 = .ok (.invokestatic 51, 3) := by decide +kernel
theorem dX1_become_30 : decode cX1_become 30 = .ok (.iconst 0, 1) := by decide +kernel
theorem dX1_become_31 : decode cX1_become 31 = .ok (.istore_n 2, 1) := by decide +kernel
theorem dX1_become_32 : decode cX1_become 32 = .ok (.iload_n 2, 1) := by decide +kernel
theorem dX1_become_33 : decode cX1_become 33 = .ok (.aload_n 1, 1) := by decide +kernel
theorem dX1_become_34 : decode cX1_become 34 = .ok (.getfield 38, 3) := by decide +kernel
theorem dX1_become_37 : decode cX1_become 37 = .ok (.if_icmp .ge 42, 3) := by decide +kernel
theorem dX1_become_40 : decode cX1_become 40 = .ok (.aload_n 1, 1) := by decide +kernel
theorem dX1_become_41 : decode cX1_become 41 = .ok (.getfield 26, 3) := by decide +kernel
theorem dX1_become_44 : decode cX1_become 44 = .ok (.iload_n 2, 1) := by decide +kernel
theorem dX1_become_45 : decode cX1_become 45 = .ok (.aaload, 1) := by decide +kernel
theorem dX1_become_46 : decode cX1_become 46 = .ok (.getfield 57, 3) := by decide +kernel
theorem dX1_become_49 : decode cX1_become 49 = .ok (.iconst 0, 1) := by decide +kernel
theorem dX1_become_50 : decode cX1_become 50 = .ok (.aload_n 0, 1) := by decide +kernel
theorem dX1_become_51 : decode cX1_become 51 = .ok (.getfield 26, 3) := by decide +kernel
theorem dX1_become_54 : decode cX1_become 54 = .ok (.iload_n 2, 1) := by decide +kernel
theorem dX1_become_55 : decode cX1_become 55 = .ok (.aaload, 1) := by decide +kernel
theorem dX1_become_56 : decode cX1_become 56 = .ok (.getfield 57, 3) := by decide +kernel
theorem dX1_become_59 : decode cX1_become 59 = .ok (.iconst 0, 1) := by decide +kernel
theorem dX1_become_60 : decode cX1_become 60 = .ok (.aload_n 0, 1) := by decide +kernel
theorem dX1_become_61 : decode cX1_become 61 = .ok (.getfield 26, 3) := by decide +kernel
theorem dX1_become_64 : decode cX1_become 64 = .ok (.iload_n 2, 1) := by decide +kernel
theorem dX1_become_65 : decode cX1_become 65 = .ok (.aaload, 1) := by decide +kernel
theorem dX1_become_66 : decode cX1_become 66 = .ok (.getfield 57, 3) := by decide +kernel
theorem dX1_become_69 : decode cX1_become 69 = .ok (.arraylength, 1) := by decide +kernel
theorem dX1_become_70 : decode cX1_become 70 = .ok (.invokestatic 51, 3) := by decide +kernel
theorem dX1_become_73 : decode cX1_become 73 = .ok (.iinc 2 1, 3) := by decide +kernel
theorem dX1_become_76 : decode cX1_become 76 = .ok (.goto (-44), 3) := by decide +kernel
theorem dX1_become_79 : decode cX1_become 79 = .ok (.iconst 0, 1) := by decide +kernel
theorem dX1_become_80 : decode cX1_become 80 = .ok (.istore_n 2, 1) := by decide +kernel
theorem dX1_become_81 : decode cX1_become 81 = .ok (.iload_n 2, 1) := by decide +kernel
theorem dX1_become_82 : decode cX1_become 82 = .ok (.aload_n 1, 1) := by decide +kernel
theorem dX1_become_83 : decode cX1_become 83 = .ok (.getfield 42, 3) := by decide +kernel
theorem dX1_become_86 : decode cX1_become 86 = .ok (.if_icmp .ge 42, 3) := by decide +kernel
theorem dX1_become_89 : decode cX1_become 89 = .ok (.aload_n 1, 1) := by decide +kernel
theorem dX1_become_90 : decode cX1_become 90 = .ok (.getfield 33, 3) := by decide +kernel
theorem dX1_become_93 : decode cX1_become 93 = .ok (.iload_n 2, 1) := by decide +kernel
theorem dX1_become_94 : decode cX1_become 94 = .ok (.aaload, 1) := by decide +kernel
theorem dX1_become_95 : decode cX1_become 95 = .ok (.getfield 60, 3) := by decide +kernel
theorem dX1_become_98 : decode cX1_become 98 = .ok (.iconst 0, 1) := by decide +kernel
theorem dX1_become_99 : decode cX1_become 99 = .ok (.aload_n 0, 1) := by decide +kernel
theorem dX1_become_100 : decode cX1_become 100 = .ok (.getfield 33, 3) := by decide +kernel
theorem dX1_become_103 : decode cX1_become 103 = .ok (.iload_n 2, 1) := by decide +kernel
theorem dX1_become_104 : decode cX1_become 104 = .ok (.aaload, 1) := by decide +kernel
theorem dX1_become_105 : decode cX1_become 105 = .ok (.getfield 60, 3) := by decide +kernel
theorem dX1_become_108 : decode cX1_become 108 = .ok (.iconst 0, 1) := by decide +kernel
theorem dX1_become_109 : decode cX1_become 109 = .ok (.aload_n 0, 1) := by decide +kernel
theorem dX1_become_110 : decode cX1_become 110 = .ok (.getfield 33, 3) := by decide +kernel
theorem dX1_become_113 : decode cX1_become 113 = .ok (.iload_n 2, 1) := by decide +kernel
theorem dX1_become_114 : decode cX1_become 114 = .ok (.aaload, 1) := by decide +kernel
theorem dX1_become_115 : decode cX1_become 115 = .ok (.getfield 60, 3) := by decide +kernel
theorem dX1_become_118 : decode cX1_become 118 = .ok (.arraylength, 1) := by decide +kernel
theorem dX1_become_119 : decode cX1_become 119 = .ok (.invokestatic 51, 3) := by decide +kernel
theorem dX1_become_122 : decode cX1_become 122 = .ok (.iinc 2 1, 3) := by decide +kernel
theorem dX1_become_125 : decode cX1_become 125 = .ok (.goto (-44), 3) := by decide +kernel
theorem dX1_become_128 : decode cX1_become 128 = .ok (.aload_n 0, 1) := by decide +kernel
theorem dX1_become_129 : decode cX1_become 129 = .ok (.aload_n 1, 1) := by decide +kernel
theorem dX1_become_130 : decode cX1_become 130 = .ok (.getfield 38, 3) := by decide +kernel
theorem dX1_become_133 : decode cX1_become 133 = .ok (.putfield 38, 3) := by decide +kernel
theorem dX1_become_136 : decode cX1_become 136 = .ok (.aload_n 0, 1) := by decide +kernel
theorem dX1_become_137 : decode cX1_become 137 = .ok (.aload_n 1, 1) := by decide +kernel
theorem dX1_become_138 : decode cX1_become 138 = .ok (.getfield 42, 3) := by decide +kernel
theorem dX1_become_141 : decode cX1_become 141 = .ok (.putfield 42, 3) := by decide +kernel
theorem dX1_become_144 : decode cX1_become 144 = .ok (.aload_n 0, 1) := by decide +kernel
theorem dX1_become_145 : decode cX1_become 145 = .ok (.aload_n 1, 1) := by decide +kernel
theorem dX1_become_146 : decode cX1_become 146 = .ok (.getfield 45, 3) := by decide +kernel
theorem dX1_become_149 : decode cX1_become 149 = .ok (.putfield 45, 3) := by decide +kernel
theorem dX1_become_152 : decode cX1_become 152 = .ok (.aload_n 0, 1) := by decide +kernel
theorem dX1_become_153 : decode cX1_become 153 = .ok (.aload_n 1, 1) := by decide +kernel
theorem dX1_become_154 : decode cX1_become 154 = .ok (.getfield 48, 3) := by decide +kernel
theorem dX1_become_157 : decode cX1_become 157 = .ok (.putfield 48, 3) := by decide +kernel
theorem dX1_become_160 : decode cX1_become 160 = .ok (.return_, 1) := by decide +kernel
theorem dX1_leaveOnlyKeeper_0 : decode cX1_leaveOnlyKeeper 0 = .ok (.aload_n 0, 1) := by decide +kernel
theorem dX1_leaveOnlyKeeper_1 : decode cX1_leaveOnlyKeeper 1 = .ok (.getfield 26, 3) := by decide +kernel
theorem dX1_leaveOnlyKeeper_4 : decode cX1_leaveOnlyKeeper 4 = .ok (.iload_n 1, 1) := by decide +kernel
theorem dX1_leaveOnlyKeeper_5 : decode cX1_leaveOnlyKeeper 5 = .ok (.aaload, 1) := by decide +kernel
theorem dX1_leaveOnlyKeeper_6 : decode cX1_leaveOnlyKeeper 6 = .ok (.getfield 57, 3) := by decide +kernel
theorem dX1_leaveOnlyKeeper_9 : decode cX1_leaveOnlyKeeper 9 = .ok (.iconst 0, 1) := by decide +kernel
theorem dX1_leaveOnlyKeeper_10 : decode cX1_leaveOnlyKeeper 10 = .ok (.aload_n 0, 1) := by decide +kernel
theorem dX1_leaveOnlyKeeper_11 : decode cX1_leaveOnlyKeeper 11 = .ok (.getfield 26, 3) := by decide +kernel
theorem dX1_leaveOnlyKeeper_14 : decode cX1_leaveOnlyKeeper 14 = .ok (.iconst 0, 1) := by decide +kernel
theorem dX1_leaveOnlyKeeper_15 : decode cX1_leaveOnlyKeeper 15 = .ok (.aaload, 1) := by decide +kernel
theorem dX1_leaveOnlyKeeper_16 : decode cX1_leaveOnlyKeeper 16 = .ok (.getfield 57, 3) := by decide +kernel
theorem dX1_leaveOnlyKeeper_19 : decode cX1_leaveOnlyKeeper 19 = .ok (.iconst 0, 1) := by decide +kernel
theorem dX1_leaveOnlyKeeper_20 : decode cX1_leaveOnlyKeeper 20 = .ok (.aload_n 0, 1) := by decide +kernel
theorem dX1_leaveOnlyKeeper_21 : decode cX1_leaveOnlyKeeper 21 = .ok (.getfield 26, 3) := by decide +kernel
theorem dX1_leaveOnlyKeeper_24 : decode cX1_leaveOnlyKeeper 24 = .ok (.iconst 0, 1) := by decide +kernel
theorem dX1_leaveOnlyKeeper_25 : decode cX1_leaveOnlyKeeper 25 = .ok (.aaload, 1) := by decide +kernel
theorem dX1_leaveOnlyKeeper_26 : decode cX1_leaveOnlyKeeper 26 = .ok (.getfield 57, 3) := by decide +kernel
theorem dX1_leaveOnlyKeeper_29 : decode cX1_leaveOnlyKeeper 29 = .ok (.arraylength, 1) := by decide +kernel
theorem dX1_leaveOnlyKeeper_30 : decode cX1_leaveOnlyKeeper 30 = .ok (.invokestatic 51, 3) := by decide +kernel
theorem dX1_leaveOnlyKeeper_33 : decode cX1_leaveOnlyKeeper 33 = .ok (.aload_n 0, 1) := by decide +kernel
theorem dX1_leaveOnlyKeeper_34 : decode cX1_leaveOnlyKeeper 34 = .ok (.iconst 1, 1) := by decide +kernel
theorem dX1_leaveOnlyKeeper_35 : decode cX1_leaveOnlyKeeper 35 = .ok (.putfield 38, 3) := by decide +kernel
theorem dX1_leaveOnlyKeeper_38 : decode cX1_leaveOnlyKeeper 38 = .ok (.return_, 1) := by decide +kernel
theorem dX1_leaveOnlyChild_0 : decode cX1_leaveOnlyChild 0 = .ok (.aload_n 0, 1) := by decide +kernel
theorem dX1_leaveOnlyChild_1 : decode cX1_leaveOnlyChild 1 = .ok (.getfield 33, 3) := by decide +kernel
theorem dX1_leaveOnlyChild_4 : decode cX1_leaveOnlyChild 4 = .ok (.iload_n 1, 1) := by decide +kernel
theorem dX1_leaveOnlyChild_5 : decode cX1_leaveOnlyChild 5 = .ok (.aaload, 1) := by decide +kernel
theorem dX1_leaveOnlyChild_6 : decode cX1_leaveOnlyChild 6 = .ok (.getfield 60, 3) := by decide +kernel
theorem dX1_leaveOnlyChild_9 : decode cX1_leaveOnlyChild 9 = .ok (.iconst 0, 1) := by decide +kernel
theorem dX1_leaveOnlyChild_10 : decode cX1_leaveOnlyChild 10 = .ok (.aload_n 0, 1) := by decide +kernel
theorem dX1_leaveOnlyChild_11 : decode cX1_leaveOnlyChild 11 = .ok (.getfield 33, 3) := by decide +kernel
theorem dX1_leaveOnlyChild_14 : decode cX1_leaveOnlyChild 14 = .ok (.iconst 0, 1) := by decide +kernel
theorem dX1_leaveOnlyChild_15 : decode cX1_leaveOnlyChild 15 = .ok (.aaload, 1) := by decide +kernel
theorem dX1_leaveOnlyChild_16 : decode cX1_leaveOnlyChild 16 = .ok (.getfield 60, 3) := by decide +kernel
theorem dX1_leaveOnlyChild_19 : decode cX1_leaveOnlyChild 19 = .ok (.iconst 0, 1) := by decide +kernel
theorem dX1_leaveOnlyChild_20 : decode cX1_leaveOnlyChild 20 = .ok (.aload_n 0, 1) := by decide +kernel
theorem dX1_leaveOnlyChild_21 : decode cX1_leaveOnlyChild 21 = .ok (.getfield 33, 3) := by decide +kernel
theorem dX1_leaveOnlyChild_24 : decode cX1_leaveOnlyChild 24 = .ok (.iconst 0, 1) := by decide +kernel
theorem dX1_leaveOnlyChild_25 : decode cX1_leaveOnlyChild 25 = .ok (.aaload, 1) := by decide +kernel
theorem dX1_leaveOnlyChild_26 : decode cX1_leaveOnlyChild 26 = .ok (.getfield 60, 3) := by decide +kernel
theorem dX1_leaveOnlyChild_29 : decode cX1_leaveOnlyChild 29 = .ok (.arraylength, 1) := by decide +kernel
theorem dX1_leaveOnlyChild_30 : decode cX1_leaveOnlyChild 30 = .ok (.invokestatic 51, 3) := by decide +kernel
theorem dX1_leaveOnlyChild_33 : decode cX1_leaveOnlyChild 33 = .ok (.aload_n 0, 1) := by decide +kernel
theorem dX1_leaveOnlyChild_34 : decode cX1_leaveOnlyChild 34 = .ok (.iconst 1, 1) := by decide +kernel
theorem dX1_leaveOnlyChild_35 : decode cX1_leaveOnlyChild 35 = .ok (.putfield 42, 3) := by decide +kernel
theorem dX1_leaveOnlyChild_38 : decode cX1_leaveOnlyChild 38 = .ok (.return_, 1) := by decide +kernel
theorem dX1_hasAllKeepers_0 : decode cX1_hasAllKeepers 0 = .ok (.aload_n 0, 1) := by decide +kernel
theorem dX1_hasAllKeepers_1 : decode cX1_hasAllKeepers 1 = .ok (.getfield 38, 3) := by decide +kernel
theorem dX1_hasAllKeepers_4 : decode cX1_hasAllKeepers 4 = .ok (.bipush 8, 2) := by decide +kernel
theorem dX1_hasAllKeepers_6 : decode cX1_hasAllKeepers 6 = .ok (.if_icmp .lt 7, 3) := by decide +kernel
theorem dX1_hasAllKeepers_9 : decode cX1_hasAllKeepers 9 = .ok (.iconst 1, 1) := by decide +kernel
theorem dX1_hasAllKeepers_10 : decode cX1_hasAllKeepers 10 = .ok (.goto 4, 3) := by decide +kernel
theorem dX1_hasAllKeepers_13 : decode cX1_hasAllKeepers 13 = .ok (.iconst 0, 1) := by decide +kernel
theorem dX1_hasAllKeepers_14 : decode cX1_hasAllKeepers 14 = .ok (.ireturn, 1) := by decide +kernel
theorem dX1_hasAllChildren_0 : decode cX1_hasAllChildren 0 = .ok (.aload_n 0, 1) := by decide +kernel
theorem dX1_hasAllChildren_1 : decode cX1_hasAllChildren 1 = .ok (.getfield 42, 3) := by decide +kernel
theorem dX1_hasAllChildren_4 : decode cX1_hasAllChildren 4 = .ok (.bipush 6, 2) := by decide +kernel
theorem dX1_hasAllChildren_6 : decode cX1_hasAllChildren 6 = .ok (.if_icmp .lt 7, 3) := by decide +kernel
theorem dX1_hasAllChildren_9 : decode cX1_hasAllChildren 9 = .ok (.iconst 1, 1) := by decide +kernel
theorem dX1_hasAllChildren_10 : decode cX1_hasAllChildren 10 = .ok (.goto 4, 3) := by decide +kernel
theorem dX1_hasAllChildren_13 : decode cX1_hasAllChildren 13 = .ok (.iconst 0, 1) := by decide +kernel
theorem dX1_hasAllChildren_14 : decode cX1_hasAllChildren 14 = .ok (.ireturn, 1) := by decide +kernel
theorem dX1_addKeeper_0 : decode cX1_addKeeper 0 = .ok (.aload_n 0, 1) := by decide +kernel
theorem dX1_addKeeper_1 : decode cX1_addKeeper 1 = .ok (.getfield 26, 3) := by decide +kernel
theorem dX1_addKeeper_4 : decode cX1_addKeeper 4 = .ok (.aload_n 0, 1) := by decide +kernel
theorem dX1_addKeeper_5 : decode cX1_addKeeper 5 = .ok (.getfield 38, 3) := by decide +kernel
theorem dX1_addKeeper_8 : decode cX1_addKeeper 8 = .ok (.aaload, 1) := by decide +kernel
theorem dX1_addKeeper_9 : decode cX1_addKeeper 9 = .ok (.iload_n 1, 1) := by decide +kernel
theorem dX1_addKeeper_10 : decode cX1_addKeeper 10 = .ok (.iload_n 2, 1) := by decide +kernel
theorem dX1_addKeeper_11 : decode cX1_addKeeper 11 = .ok (.invokevirtual 61, 3) := by decide +kernel
theorem dX1_addKeeper_14 : decode cX1_addKeeper 14 = .ok (.aload_n 0, 1) := by decide +kernel
theorem dX1_addKeeper_15 : decode cX1_addKeeper 15 = .ok (.dup, 1) := by decide +kernel
theorem dX1_addKeeper_16 : decode cX1_addKeeper 16 = .ok (.getfield 38, 3) := by decide +kernel
theorem dX1_addKeeper_19 : decode cX1_addKeeper 19 = .ok (.dup_x1, 1) := by decide +kernel
theorem dX1_addKeeper_20 : decode cX1_addKeeper 20 = .ok (.iconst 1, 1) := by decide +kernel
theorem dX1_addKeeper_21 : decode cX1_addKeeper 21 = .ok (.iadd, 1) := by decide +kernel
theorem dX1_addKeeper_22 : decode cX1_addKeeper 22 = .ok (.putfield 38, 3) := by decide +kernel
theorem dX1_addKeeper_25 : decode cX1_addKeeper 25 = .ok (.ireturn, 1) := by decide +kernel
theorem dX1_addChild_0 : decode cX1_addChild 0 = .ok (.aload_n 0, 1) := by decide +kernel
theorem dX1_addChild_1 : decode cX1_addChild 1 = .ok (.getfield 33, 3) := by decide +kernel
theorem dX1_addChild_4 : decode cX1_addChild 4 = .ok (.aload_n 0, 1) := by decide +kernel
theorem dX1_addChild_5 : decode cX1_addChild 5 = .ok (.getfield 42, 3) := by decide +kernel
theorem dX1_addChild_8 : decode cX1_addChild 8 = .ok (.aaload, 1) := by decide +kernel
theorem dX1_addChild_9 : decode cX1_addChild 9 = .ok (.iload_n 1, 1) := by decide +kernel
theorem dX1_addChild_10 : decode cX1_addChild 10 = .ok (.iload_n 2, 1) := by decide +kernel
theorem dX1_addChild_11 : decode cX1_addChild 11 = .ok (.invokevirtual 65, 3) := by decide +kernel
theorem dX1_addChild_14 : decode cX1_addChild 14 = .ok (.aload_n 0, 1) := by decide +kernel
theorem dX1_addChild_15 : decode cX1_addChild 15 = .ok (.dup, 1) := by decide +kernel
theorem dX1_addChild_16 : decode cX1_addChild 16 = .ok (.getfield 42, 3) := by decide +kernel
theorem dX1_addChild_19 : decode cX1_addChild 19 = .ok (.dup_x1, 1) := by decide +kernel
theorem dX1_addChild_20 : decode cX1_addChild 20 = .ok (.iconst 1, 1) := by decide +kernel
theorem dX1_addChild_21 : decode cX1_addChild 21 = .ok (.iadd, 1) := by decide +kernel
theorem dX1_addChild_22 : decode cX1_addChild 22 = .ok (.putfield 42, 3) := by decide +kernel
theorem dX1_addChild_25 : decode cX1_addChild 25 = .ok (.ireturn, 1) := by decide +kernel
theorem dX1_thickness_0 : decode cX1_thickness 0 = .ok (.aload_n 0, 1) := by decide +kernel
theorem dX1_thickness_1 : decode cX1_thickness 1 = .ok (.getfield 9, 3) := by decide +kernel
theorem dX1_thickness_4 : decode cX1_thickness 4 = .ok (.aload_n 0, 1) := by decide +kernel
theorem dX1_thickness_5 : decode cX1_thickness 5 = .ok (.getfield 45, 3) := by decide +kernel
theorem dX1_thickness_8 : decode cX1_thickness 8 = .ok (.bipush 6, 2) := by decide +kernel
theorem dX1_thickness_10 : decode cX1_thickness 10 = .ok (.irem, 1) := by decide +kernel
theorem dX1_thickness_11 : decode cX1_thickness 11 = .ok (.iaload, 1) := by decide +kernel
theorem dX1_thickness_12 : decode cX1_thickness 12 = .ok (.ireturn, 1) := by decide +kernel
theorem dX1_toldOfKeeper_0 : decode cX1_toldOfKeeper 0 = .ok (.aload_n 0, 1) := by decide +kernel
theorem dX1_toldOfKeeper_1 : decode cX1_toldOfKeeper 1 = .ok (.getfield 26, 3) := by decide +kernel
theorem dX1_toldOfKeeper_4 : decode cX1_toldOfKeeper 4 = .ok (.iload_n 1, 1) := by decide +kernel
theorem dX1_toldOfKeeper_5 : decode cX1_toldOfKeeper 5 = .ok (.aaload, 1) := by decide +kernel
theorem dX1_toldOfKeeper_6 : decode cX1_toldOfKeeper 6 = .ok (.astore_n 3, 1) := by decide +kernel
theorem dX1_toldOfKeeper_7 : decode cX1_toldOfKeeper 7 = .ok (.iload_n 2, 1) := by decide +kernel
theorem dX1_toldOfKeeper_8 : decode cX1_toldOfKeeper 8 = .ok (.tableswitch 73 6 10 #[36, 45, 54, 59, 64], 36) := by decide +kernel
theorem dX1_toldOfKeeper_44 : decode cX1_toldOfKeeper 44 = .ok (.aload_n 3, 1) := by decide +kernel
theorem dX1_toldOfKeeper_45 : decode cX1_toldOfKeeper 45 = .ok (.aload_n 0, 1) := by decide +kernel
theorem dX1_toldOfKeeper_46 : decode cX1_toldOfKeeper 46 = .ok (.getfield 45, 3) := by decide +kernel
theorem dX1_toldOfKeeper_49 : decode cX1_toldOfKeeper 49 = .ok (.invokevirtual 66, 3) := by decide +kernel
theorem dX1_toldOfKeeper_52 : decode cX1_toldOfKeeper 52 = .ok (.ireturn, 1) := by decide +kernel
theorem dX1_toldOfKeeper_53 : decode cX1_toldOfKeeper 53 = .ok (.aload_n 3, 1) := by decide +kernel
theorem dX1_toldOfKeeper_54 : decode cX1_toldOfKeeper 54 = .ok (.aload_n 0, 1) := by decide +kernel
theorem dX1_toldOfKeeper_55 : decode cX1_toldOfKeeper 55 = .ok (.invokevirtual 70, 3) := by decide +kernel
theorem dX1_toldOfKeeper_58 : decode cX1_toldOfKeeper 58 = .ok (.invokevirtual 74, 3) := by decide +kernel
theorem dX1_toldOfKeeper_61 : decode cX1_toldOfKeeper 61 = .ok (.ireturn, 1) := by decide +kernel
theorem dX1_toldOfKeeper_62 : decode cX1_toldOfKeeper 62 = .ok (.aload_n 3, 1) := by decide +kernel
theorem dX1_toldOfKeeper_63 : decode cX1_toldOfKeeper 63 = .ok (.invokevirtual 77, 3) := by decide +kernel
theorem dX1_toldOfKeeper_66 : decode cX1_toldOfKeeper 66 = .ok (.ireturn, 1) := by decide +kernel
theorem dX1_toldOfKeeper_67 : decode cX1_toldOfKeeper 67 = .ok (.aload_n 3, 1) := by decide +kernel
theorem dX1_toldOfKeeper_68 : decode cX1_toldOfKeeper 68 = .ok (.invokevirtual 80, 3) := by decide +kernel
theorem dX1_toldOfKeeper_71 : decode cX1_toldOfKeeper 71 = .ok (.ireturn, 1) := by decide +kernel
theorem dX1_toldOfKeeper_72 : decode cX1_toldOfKeeper 72 = .ok (.aload_n 3, 1) := by decide +kernel
theorem dX1_toldOfKeeper_73 : decode cX1_toldOfKeeper 73 = .ok (.aload_n 0, 1) := by decide +kernel
theorem dX1_toldOfKeeper_74 : decode cX1_toldOfKeeper 74 = .ok (.getfield 45, 3) := by decide +kernel
theorem dX1_toldOfKeeper_77 : decode cX1_toldOfKeeper 77 = .ok (.invokevirtual 83, 3) := by decide +kernel
theorem dX1_toldOfKeeper_80 : decode cX1_toldOfKeeper 80 = .ok (.ireturn, 1) := by decide +kernel
theorem dX1_toldOfKeeper_81 : decode cX1_toldOfKeeper 81 = .ok (.aload_n 3, 1) := by decide +kernel
theorem dX1_toldOfKeeper_82 : decode cX1_toldOfKeeper 82 = .ok (.getfield 57, 3) := by decide +kernel
theorem dX1_toldOfKeeper_85 : decode cX1_toldOfKeeper 85 = .ok (.iload_n 2, 1) := by decide +kernel
theorem dX1_toldOfKeeper_86 : decode cX1_toldOfKeeper 86 = .ok (.iaload, 1) := by decide +kernel
theorem dX1_toldOfKeeper_87 : decode cX1_toldOfKeeper 87 = .ok (.ireturn, 1) := by decide +kernel
theorem dX1_isHeard_0 : decode cX1_isHeard 0 = .ok (.aload_n 0, 1) := by decide +kernel
theorem dX1_isHeard_1 : decode cX1_isHeard 1 = .ok (.getfield 26, 3) := by decide +kernel
theorem dX1_isHeard_4 : decode cX1_isHeard 4 = .ok (.iload_n 1, 1) := by decide +kernel
theorem dX1_isHeard_5 : decode cX1_isHeard 5 = .ok (.aaload, 1) := by decide +kernel
theorem dX1_isHeard_6 : decode cX1_isHeard 6 = .ok (.invokevirtual 86, 3) := by decide +kernel
theorem dX1_isHeard_9 : decode cX1_isHeard 9 = .ok (.ifCond .ne 35, 3) := by decide +kernel
theorem dX1_isHeard_12 : decode cX1_isHeard 12 = .ok (.aload_n 0, 1) := by decide +kernel
theorem dX1_isHeard_13 : decode cX1_isHeard 13 = .ok (.getfield 26, 3) := by decide +kernel
theorem dX1_isHeard_16 : decode cX1_isHeard 16 = .ok (.iload_n 1, 1) := by decide +kernel
theorem dX1_isHeard_17 : decode cX1_isHeard 17 = .ok (.aaload, 1) := by decide +kernel
theorem dX1_isHeard_18 : decode cX1_isHeard 18 = .ok (.aload_n 0, 1) := by decide +kernel
theorem dX1_isHeard_19 : decode cX1_isHeard 19 = .ok (.getfield 33, 3) := by decide +kernel
theorem dX1_isHeard_22 : decode cX1_isHeard 22 = .ok (.iload_n 2, 1) := by decide +kernel
theorem dX1_isHeard_23 : decode cX1_isHeard 23 = .ok (.aaload, 1) := by decide +kernel
theorem dX1_isHeard_24 : decode cX1_isHeard 24 = .ok (.aload_n 0, 1) := by decide +kernel
theorem dX1_isHeard_25 : decode cX1_isHeard 25 = .ok (.getfield 26, 3) := by decide +kernel
theorem dX1_isHeard_28 : decode cX1_isHeard 28 = .ok (.iload_n 1, 1) := by decide +kernel
theorem dX1_isHeard_29 : decode cX1_isHeard 29 = .ok (.aaload, 1) := by decide +kernel
theorem dX1_isHeard_30 : decode cX1_isHeard 30 = .ok (.iload_n 3, 1) := by decide +kernel
theorem dX1_isHeard_31 : decode cX1_isHeard 31 = .ok (.invokevirtual 74, 3) := by decide +kernel
theorem dX1_isHeard_34 : decode cX1_isHeard 34 = .ok (.invokestatic 90, 3) := by decide +kernel
theorem dX1_isHeard_37 : decode cX1_isHeard 37 = .ok (.ifCond .eq 7, 3) := by decide +kernel
theorem dX1_isHeard_40 : decode cX1_isHeard 40 = .ok (.iconst 1, 1) := by decide +kernel
theorem dX1_isHeard_41 : decode cX1_isHeard 41 = .ok (.goto 4, 3) := by decide +kernel
theorem dX1_isHeard_44 : decode cX1_isHeard 44 = .ok (.iconst 0, 1) := by decide +kernel
theorem dX1_isHeard_45 : decode cX1_isHeard 45 = .ok (.ireturn, 1) := by decide +kernel
theorem dX1_isWithin_0 : decode cX1_isWithin 0 = .ok (.aload_n 0, 1) := by decide +kernel
theorem dX1_isWithin_1 : decode cX1_isWithin 1 = .ok (.getfield 57, 3) := by decide +kernel
theorem dX1_isWithin_4 : decode cX1_isWithin 4 = .ok (.iconst 1, 1) := by decide +kernel
theorem dX1_isWithin_5 : decode cX1_isWithin 5 = .ok (.iaload, 1) := by decide +kernel
theorem dX1_isWithin_6 : decode cX1_isWithin 6 = .ok (.aload_n 1, 1) := by decide +kernel
theorem dX1_isWithin_7 : decode cX1_isWithin 7 = .ok (.getfield 60, 3) := by decide +kernel
theorem dX1_isWithin_10 : decode cX1_isWithin 10 = .ok (.iconst 0, 1) := by decide +kernel
theorem dX1_isWithin_11 : decode cX1_isWithin 11 = .ok (.iaload, 1) := by decide +kernel
theorem dX1_isWithin_12 : decode cX1_isWithin 12 = .ok (.isub, 1) := by decide +kernel
theorem dX1_isWithin_13 : decode cX1_isWithin 13 = .ok (.invokestatic 94, 3) := by decide +kernel
theorem dX1_isWithin_16 : decode cX1_isWithin 16 = .ok (.iload_n 2, 1) := by decide +kernel
theorem dX1_isWithin_17 : decode cX1_isWithin 17 = .ok (.if_icmp .gt 7, 3) := by decide +kernel
theorem dX1_isWithin_20 : decode cX1_isWithin 20 = .ok (.iconst 1, 1) := by decide +kernel
theorem dX1_isWithin_21 : decode cX1_isWithin 21 = .ok (.goto 4, 3) := by decide +kernel
theorem dX1_isWithin_24 : decode cX1_isWithin 24 = .ok (.iconst 0, 1) := by decide +kernel
theorem dX1_isWithin_25 : decode cX1_isWithin 25 = .ok (.ireturn, 1) := by decide +kernel
theorem dX1_draw_0 : decode cX1_draw 0 = .ok (.aload_n 0, 1) := by decide +kernel
theorem dX1_draw_1 : decode cX1_draw 1 = .ok (.aload_n 0, 1) := by decide +kernel
theorem dX1_draw_2 : decode cX1_draw 2 = .ok (.getfield 48, 3) := by decide +kernel
theorem dX1_draw_5 : decode cX1_draw 5 = .ok (.ldc 99, 2) := by decide +kernel
theorem dX1_draw_7 : decode cX1_draw 7 = .ok (.imul, 1) := by decide +kernel
theorem dX1_draw_8 : decode cX1_draw 8 = .ok (.sipush 12345, 3) := by decide +kernel
theorem dX1_draw_11 : decode cX1_draw 11 = .ok (.iadd, 1) := by decide +kernel
theorem dX1_draw_12 : decode cX1_draw 12 = .ok (.putfield 48, 3) := by decide +kernel
theorem dX1_draw_15 : decode cX1_draw 15 = .ok (.aload_n 0, 1) := by decide +kernel
theorem dX1_draw_16 : decode cX1_draw 16 = .ok (.getfield 48, 3) := by decide +kernel
theorem dX1_draw_19 : decode cX1_draw 19 = .ok (.bipush 8, 2) := by decide +kernel
theorem dX1_draw_21 : decode cX1_draw 21 = .ok (.iushr, 1) := by decide +kernel
theorem dX1_draw_22 : decode cX1_draw 22 = .ok (.ireturn, 1) := by decide +kernel
theorem dX1_passDays_0 : decode cX1_passDays 0 = .ok (.iconst 0, 1) := by decide +kernel
theorem dX1_passDays_1 : decode cX1_passDays 1 = .ok (.istore_n 2, 1) := by decide +kernel
theorem dX1_passDays_2 : decode cX1_passDays 2 = .ok (.iload_n 2, 1) := by decide +kernel
theorem dX1_passDays_3 : decode cX1_passDays 3 = .ok (.iload_n 1, 1) := by decide +kernel
theorem dX1_passDays_4 : decode cX1_passDays 4 = .ok (.if_icmp .ge 13, 3) := by decide +kernel
theorem dX1_passDays_7 : decode cX1_passDays 7 = .ok (.aload_n 0, 1) := by decide +kernel
theorem dX1_passDays_8 : decode cX1_passDays 8 = .ok (.invokevirtual 100, 3) := by decide +kernel
theorem dX1_passDays_11 : decode cX1_passDays 11 = .ok (.iinc 2 1, 3) := by decide +kernel
theorem dX1_passDays_14 : decode cX1_passDays 14 = .ok (.goto (-12), 3) := by decide +kernel
theorem dX1_passDays_17 : decode cX1_passDays 17 = .ok (.return_, 1) := by decide +kernel
theorem dX1_passDay_0 : decode cX1_passDay 0 = .ok (.aload_n 0, 1) := by decide +kernel
theorem dX1_passDay_1 : decode cX1_passDay 1 = .ok (.invokevirtual 70, 3) := by decide +kernel
theorem dX1_passDay_4 : decode cX1_passDay 4 = .ok (.istore_n 1, 1) := by decide +kernel
theorem dX1_passDay_5 : decode cX1_passDay 5 = .ok (.iconst 0, 1) := by decide +kernel
theorem dX1_passDay_6 : decode cX1_passDay 6 = .ok (.istore_n 2, 1) := by decide +kernel
theorem dX1_passDay_7 : decode cX1_passDay 7 = .ok (.iload_n 2, 1) := by decide +kernel
theorem dX1_passDay_8 : decode cX1_passDay 8 = .ok (.aload_n 0, 1) := by decide +kernel
theorem dX1_passDay_9 : decode cX1_passDay 9 = .ok (.getfield 38, 3) := by decide +kernel
theorem dX1_passDay_12 : decode cX1_passDay 12 = .ok (.if_icmp .ge 48, 3) := by decide +kernel
theorem dX1_passDay_15 : decode cX1_passDay 15 = .ok (.iload_n 1, 1) := by decide +kernel
theorem dX1_passDay_16 : decode cX1_passDay 16 = .ok (.ifCond .ne 15, 3) := by decide +kernel
theorem dX1_passDay_19 : decode cX1_passDay 19 = .ok (.aload_n 0, 1) := by decide +kernel
theorem dX1_passDay_20 : decode cX1_passDay 20 = .ok (.getfield 26, 3) := by decide +kernel
theorem dX1_passDay_23 : decode cX1_passDay 23 = .ok (.iload_n 2, 1) := by decide +kernel
theorem dX1_passDay_24 : decode cX1_passDay 24 = .ok (.aaload, 1) := by decide +kernel
theorem dX1_passDay_25 : decode cX1_passDay 25 = .ok (.invokevirtual 103, 3) := by decide +kernel
theorem dX1_passDay_28 : decode cX1_passDay 28 = .ok (.goto 26, 3) := by decide +kernel
theorem dX1_passDay_31 : decode cX1_passDay 31 = .ok (.aload_n 0, 1) := by decide +kernel
theorem dX1_passDay_32 : decode cX1_passDay 32 = .ok (.getfield 26, 3) := by decide +kernel
theorem dX1_passDay_35 : decode cX1_passDay 35 = .ok (.iload_n 2, 1) := by decide +kernel
theorem dX1_passDay_36 : decode cX1_passDay 36 = .ok (.aaload, 1) := by decide +kernel
theorem dX1_passDay_37 : decode cX1_passDay 37 = .ok (.invokevirtual 86, 3) := by decide +kernel
theorem dX1_passDay_40 : decode cX1_passDay 40 = .ok (.ifCond .ne 14, 3) := by decide +kernel
theorem dX1_passDay_43 : decode cX1_passDay 43 = .ok (.aload_n 0, 1) := by decide +kernel
theorem dX1_passDay_44 : decode cX1_passDay 44 = .ok (.aload_n 0, 1) := by decide +kernel
theorem dX1_passDay_45 : decode cX1_passDay 45 = .ok (.getfield 26, 3) := by decide +kernel
theorem dX1_passDay_48 : decode cX1_passDay 48 = .ok (.iload_n 2, 1) := by decide +kernel
theorem dX1_passDay_49 : decode cX1_passDay 49 = .ok (.aaload, 1) := by decide +kernel
theorem dX1_passDay_50 : decode cX1_passDay 50 = .ok (.iload_n 1, 1) := by decide +kernel
theorem dX1_passDay_51 : decode cX1_passDay 51 = .ok (.invokevirtual 106, 3) := by decide +kernel
theorem dX1_passDay_54 : decode cX1_passDay 54 = .ok (.iinc 2 1, 3) := by decide +kernel
theorem dX1_passDay_57 : decode cX1_passDay 57 = .ok (.goto (-50), 3) := by decide +kernel
theorem dX1_passDay_60 : decode cX1_passDay 60 = .ok (.aload_n 0, 1) := by decide +kernel
theorem dX1_passDay_61 : decode cX1_passDay 61 = .ok (.ldc 110, 2) := by decide +kernel
theorem dX1_passDay_63 : decode cX1_passDay 63 = .ok (.aload_n 0, 1) := by decide +kernel
theorem dX1_passDay_64 : decode cX1_passDay 64 = .ok (.getfield 45, 3) := by decide +kernel
theorem dX1_passDay_67 : decode cX1_passDay 67 = .ok (.iconst 1, 1) := by decide +kernel
theorem dX1_passDay_68 : decode cX1_passDay 68 = .ok (.iadd, 1) := by decide +kernel
theorem dX1_passDay_69 : decode cX1_passDay 69 = .ok (.invokestatic 111, 3) := by decide +kernel
theorem dX1_passDay_72 : decode cX1_passDay 72 = .ok (.putfield 45, 3) := by decide +kernel
theorem dX1_passDay_75 : decode cX1_passDay 75 = .ok (.return_, 1) := by decide +kernel
theorem dX1_sound_0 : decode cX1_sound 0 = .ok (.aload_n 1, 1) := by decide +kernel
theorem dX1_sound_1 : decode cX1_sound 1 = .ok (.aload_n 0, 1) := by decide +kernel
theorem dX1_sound_2 : decode cX1_sound 2 = .ok (.getfield 45, 3) := by decide +kernel
theorem dX1_sound_5 : decode cX1_sound 5 = .ok (.invokevirtual 66, 3) := by decide +kernel
theorem dX1_sound_8 : decode cX1_sound 8 = .ok (.istore_n 3, 1) := by decide +kernel
theorem dX1_sound_9 : decode cX1_sound 9 = .ok (.aload_n 1, 1) := by decide +kernel
theorem dX1_sound_10 : decode cX1_sound 10 = .ok (.iload_n 2, 1) := by decide +kernel
theorem dX1_sound_11 : decode cX1_sound 11 = .ok (.invokevirtual 74, 3) := by decide +kernel
theorem dX1_sound_14 : decode cX1_sound 14 = .ok (.istore 4, 2) := by decide +kernel
theorem dX1_sound_16 : decode cX1_sound 16 = .ok (.aload_n 1, 1) := by decide +kernel
theorem dX1_sound_17 : decode cX1_sound 17 = .ok (.invokevirtual 77, 3) := by decide +kernel
theorem dX1_sound_20 : decode cX1_sound 20 = .ok (.istore 5, 2) := by decide +kernel
theorem dX1_sound_22 : decode cX1_sound 22 = .ok (.iconst 0, 1) := by decide +kernel
theorem dX1_sound_23 : decode cX1_sound 23 = .ok (.istore 6, 2) := by decide +kernel
theorem dX1_sound_25 : decode cX1_sound 25 = .ok (.iload 6, 2) := by decide +kernel
theorem dX1_sound_27 : decode cX1_sound 27 = .ok (.aload_n 0, 1) := by decide +kernel
theorem dX1_sound_28 : decode cX1_sound 28 = .ok (.getfield 42, 3) := by decide +kernel
theorem dX1_sound_31 : decode cX1_sound 31 = .ok (.if_icmp .ge 38, 3) := by decide +kernel
theorem dX1_sound_34 : decode cX1_sound 34 = .ok (.aload_n 1, 1) := by decide +kernel
theorem dX1_sound_35 : decode cX1_sound 35 = .ok (.aload_n 0, 1) := by decide +kernel
theorem dX1_sound_36 : decode cX1_sound 36 = .ok (.getfield 33, 3) := by decide +kernel
theorem dX1_sound_39 : decode cX1_sound 39 = .ok (.iload 6, 2) := by decide +kernel
theorem dX1_sound_41 : decode cX1_sound 41 = .ok (.aaload, 1) := by decide +kernel
theorem dX1_sound_42 : decode cX1_sound 42 = .ok (.iload 4, 2) := by decide +kernel
theorem dX1_sound_44 : decode cX1_sound 44 = .ok (.invokestatic 90, 3) := by decide +kernel
theorem dX1_sound_47 : decode cX1_sound 47 = .ok (.ifCond .eq 16, 3) := by decide +kernel
theorem dX1_sound_50 : decode cX1_sound 50 = .ok (.aload_n 0, 1) := by decide +kernel
theorem dX1_sound_51 : decode cX1_sound 51 = .ok (.getfield 33, 3) := by decide +kernel
theorem dX1_sound_54 : decode cX1_sound 54 = .ok (.iload 6, 2) := by decide +kernel
theorem dX1_sound_56 : decode cX1_sound 56 = .ok (.aaload, 1) := by decide +kernel
theorem dX1_sound_57 : decode cX1_sound 57 = .ok (.iload_n 3, 1) := by decide +kernel
theorem dX1_sound_58 : decode cX1_sound 58 = .ok (.iload 5, 2) := by decide +kernel
theorem dX1_sound_60 : decode cX1_sound 60 = .ok (.invokevirtual 115, 3) := by decide +kernel
theorem dX1_sound_63 : decode cX1_sound 63 = .ok (.iinc 6 1, 3) := by decide +kernel
theorem dX1_sound_66 : decode cX1_sound 66 = .ok (.goto (-41), 3) := by decide +kernel
theorem dX1_sound_69 : decode cX1_sound 69 = .ok (.aload_n 1, 1) := by decide +kernel
theorem dX1_sound_70 : decode cX1_sound 70 = .ok (.aload_n 0, 1) := by decide +kernel
theorem dX1_sound_71 : decode cX1_sound 71 = .ok (.getfield 45, 3) := by decide +kernel
theorem dX1_sound_74 : decode cX1_sound 74 = .ok (.invokevirtual 118, 3) := by decide +kernel
theorem dX1_sound_77 : decode cX1_sound 77 = .ok (.return_, 1) := by decide +kernel
theorem dX1_haveAllLearnt_0 : decode cX1_haveAllLearnt 0 = .ok (.iconst 0, 1) := by decide +kernel
theorem dX1_haveAllLearnt_1 : decode cX1_haveAllLearnt 1 = .ok (.istore_n 2, 1) := by decide +kernel
theorem dX1_haveAllLearnt_2 : decode cX1_haveAllLearnt 2 = .ok (.iload_n 2, 1) := by decide +kernel
theorem dX1_haveAllLearnt_3 : decode cX1_haveAllLearnt 3 = .ok (.aload_n 0, 1) := by decide +kernel
theorem dX1_haveAllLearnt_4 : decode cX1_haveAllLearnt 4 = .ok (.getfield 42, 3) := by decide +kernel
theorem dX1_haveAllLearnt_7 : decode cX1_haveAllLearnt 7 = .ok (.if_icmp .ge 24, 3) := by decide +kernel
theorem dX1_haveAllLearnt_10 : decode cX1_haveAllLearnt 10 = .ok (.aload_n 0, 1) := by decide +kernel
theorem dX1_haveAllLearnt_11 : decode cX1_haveAllLearnt 11 = .ok (.getfield 33, 3) := by decide +kernel
theorem dX1_haveAllLearnt_14 : decode cX1_haveAllLearnt 14 = .ok (.iload_n 2, 1) := by decide +kernel
theorem dX1_haveAllLearnt_15 : decode cX1_haveAllLearnt 15 = .ok (.aaload, 1) := by decide +kernel
theorem dX1_haveAllLearnt_16 : decode cX1_haveAllLearnt 16 = .ok (.iload_n 1, 1) := by decide +kernel
theorem dX1_haveAllLearnt_17 : decode cX1_haveAllLearnt 17 = .ok (.invokevirtual 122, 3) := by decide +kernel
theorem dX1_haveAllLearnt_20 : decode cX1_haveAllLearnt 20 = .ok (.ifCond .ne 5, 3) := by decide +kernel
theorem dX1_haveAllLearnt_23 : decode cX1_haveAllLearnt 23 = .ok (.iconst 0, 1) := by decide +kernel
theorem dX1_haveAllLearnt_24 : decode cX1_haveAllLearnt 24 = .ok (.ireturn, 1) := by decide +kernel
theorem dX1_haveAllLearnt_25 : decode cX1_haveAllLearnt 25 = .ok (.iinc 2 1, 3) := by decide +kernel
theorem dX1_haveAllLearnt_28 : decode cX1_haveAllLearnt 28 = .ok (.goto (-26), 3) := by decide +kernel
theorem dX1_haveAllLearnt_31 : decode cX1_haveAllLearnt 31 = .ok (.iconst 1, 1) := by decide +kernel
theorem dX1_haveAllLearnt_32 : decode cX1_haveAllLearnt 32 = .ok (.ireturn, 1) := by decide +kernel
theorem dX1_learntTogether_0 : decode cX1_learntTogether 0 = .ok (.iconst 0, 1) := by decide +kernel
theorem dX1_learntTogether_1 : decode cX1_learntTogether 1 = .ok (.istore_n 1, 1) := by decide +kernel
theorem dX1_learntTogether_2 : decode cX1_learntTogether 2 = .ok (.iconst 0, 1) := by decide +kernel
theorem dX1_learntTogether_3 : decode cX1_learntTogether 3 = .ok (.istore_n 2, 1) := by decide +kernel
theorem dX1_learntTogether_4 : decode cX1_learntTogether 4 = .ok (.iload_n 2, 1) := by decide +kernel
theorem dX1_learntTogether_5 : decode cX1_learntTogether 5 = .ok (.aload_n 0, 1) := by decide +kernel
theorem dX1_learntTogether_6 : decode cX1_learntTogether 6 = .ok (.getfield 42, 3) := by decide +kernel
theorem dX1_learntTogether_9 : decode cX1_learntTogether 9 = .ok (.if_icmp .ge 26, 3) := by decide +kernel
theorem dX1_learntTogether_12 : decode cX1_learntTogether 12 = .ok (.iload_n 1, 1) := by decide +kernel
theorem dX1_learntTogether_13 : decode cX1_learntTogether 13 = .ok (.aload_n 0, 1) := by decide +kernel
theorem dX1_learntTogether_14 : decode cX1_learntTogether 14 = .ok (.getfield 33, 3) := by decide +kernel
theorem dX1_learntTogether_17 : decode cX1_learntTogether 17 = .ok (.iload_n 2, 1) := by decide +kernel
theorem dX1_learntTogether_18 : decode cX1_learntTogether 18 = .ok (.aaload, 1) := by decide +kernel
theorem dX1_learntTogether_19 : decode cX1_learntTogether 19 = .ok (.getfield 60, 3) := by decide +kernel
theorem dX1_learntTogether_22 : decode cX1_learntTogether 22 = .ok (.iconst 2, 1) := by decide +kernel
theorem dX1_learntTogether_23 : decode cX1_learntTogether 23 = .ok (.iaload, 1) := by decide +kernel
theorem dX1_learntTogether_24 : decode cX1_learntTogether 24 = .ok (.invokestatic 126, 3) := by decide +kernel
theorem dX1_learntTogether_27 : decode cX1_learntTogether 27 = .ok (.iadd, 1) := by decide +kernel
theorem dX1_learntTogether_28 : decode cX1_learntTogether 28 = .ok (.istore_n 1, 1) := by decide +kernel
theorem dX1_learntTogether_29 : decode cX1_learntTogether 29 = .ok (.iinc 2 1, 3) := by decide +kernel
theorem dX1_learntTogether_32 : decode cX1_learntTogether 32 = .ok (.goto (-28), 3) := by decide +kernel
theorem dX1_learntTogether_35 : decode cX1_learntTogether 35 = .ok (.iload_n 1, 1) := by decide +kernel
theorem dX1_learntTogether_36 : decode cX1_learntTogether 36 = .ok (.ireturn, 1) := by decide +kernel
theorem dX1_notesOfAll_0 : decode cX1_notesOfAll 0 = .ok (.iconst 0, 1) := by decide +kernel
theorem dX1_notesOfAll_1 : decode cX1_notesOfAll 1 = .ok (.istore_n 2, 1) := by decide +kernel
theorem dX1_notesOfAll_2 : decode cX1_notesOfAll 2 = .ok (.iconst 0, 1) := by decide +kernel
theorem dX1_notesOfAll_3 : decode cX1_notesOfAll 3 = .ok (.istore_n 3, 1) := by decide +kernel
theorem dX1_notesOfAll_4 : decode cX1_notesOfAll 4 = .ok (.iload_n 3, 1) := by decide +kernel
theorem dX1_notesOfAll_5 : decode cX1_notesOfAll 5 = .ok (.aload_n 0, 1) := by decide +kernel
theorem dX1_notesOfAll_6 : decode cX1_notesOfAll 6 = .ok (.getfield 42, 3) := by decide +kernel
theorem dX1_notesOfAll_9 : decode cX1_notesOfAll 9 = .ok (.if_icmp .ge 23, 3) := by decide +kernel
theorem dX1_notesOfAll_12 : decode cX1_notesOfAll 12 = .ok (.iload_n 2, 1) := by decide +kernel
theorem dX1_notesOfAll_13 : decode cX1_notesOfAll 13 = .ok (.aload_n 0, 1) := by decide +kernel
theorem dX1_notesOfAll_14 : decode cX1_notesOfAll 14 = .ok (.getfield 33, 3) := by decide +kernel
theorem dX1_notesOfAll_17 : decode cX1_notesOfAll 17 = .ok (.iload_n 3, 1) := by decide +kernel
theorem dX1_notesOfAll_18 : decode cX1_notesOfAll 18 = .ok (.aaload, 1) := by decide +kernel
theorem dX1_notesOfAll_19 : decode cX1_notesOfAll 19 = .ok (.getfield 60, 3) := by decide +kernel
theorem dX1_notesOfAll_22 : decode cX1_notesOfAll 22 = .ok (.iload_n 1, 1) := by decide +kernel
theorem dX1_notesOfAll_23 : decode cX1_notesOfAll 23 = .ok (.iaload, 1) := by decide +kernel
theorem dX1_notesOfAll_24 : decode cX1_notesOfAll 24 = .ok (.ior, 1) := by decide +kernel
theorem dX1_notesOfAll_25 : decode cX1_notesOfAll 25 = .ok (.istore_n 2, 1) := by decide +kernel
theorem dX1_notesOfAll_26 : decode cX1_notesOfAll 26 = .ok (.iinc 3 1, 3) := by decide +kernel
theorem dX1_notesOfAll_29 : decode cX1_notesOfAll 29 = .ok (.goto (-25), 3) := by decide +kernel
theorem dX1_notesOfAll_32 : decode cX1_notesOfAll 32 = .ok (.iload_n 2, 1) := by decide +kernel
theorem dX1_notesOfAll_33 : decode cX1_notesOfAll 33 = .ok (.ireturn, 1) := by decide +kernel
theorem dX1_notesGiven_0 : decode cX1_notesGiven 0 = .ok (.iconst 0, 1) := by decide +kernel
theorem dX1_notesGiven_1 : decode cX1_notesGiven 1 = .ok (.istore_n 1, 1) := by decide +kernel
theorem dX1_notesGiven_2 : decode cX1_notesGiven 2 = .ok (.iconst 0, 1) := by decide +kernel
theorem dX1_notesGiven_3 : decode cX1_notesGiven 3 = .ok (.istore_n 2, 1) := by decide +kernel
theorem dX1_notesGiven_4 : decode cX1_notesGiven 4 = .ok (.iload_n 2, 1) := by decide +kernel
theorem dX1_notesGiven_5 : decode cX1_notesGiven 5 = .ok (.aload_n 0, 1) := by decide +kernel
theorem dX1_notesGiven_6 : decode cX1_notesGiven 6 = .ok (.getfield 38, 3) := by decide +kernel
theorem dX1_notesGiven_9 : decode cX1_notesGiven 9 = .ok (.if_icmp .ge 39, 3) := by decide +kernel
theorem dX1_notesGiven_12 : decode cX1_notesGiven 12 = .ok (.aload_n 0, 1) := by decide +kernel
theorem dX1_notesGiven_13 : decode cX1_notesGiven 13 = .ok (.getfield 26, 3) := by decide +kernel
theorem dX1_notesGiven_16 : decode cX1_notesGiven 16 = .ok (.iload_n 2, 1) := by decide +kernel
theorem dX1_notesGiven_17 : decode cX1_notesGiven 17 = .ok (.aaload, 1) := by decide +kernel
theorem dX1_notesGiven_18 : decode cX1_notesGiven 18 = .ok (.invokevirtual 86, 3) := by decide +kernel
theorem dX1_notesGiven_21 : decode cX1_notesGiven 21 = .ok (.ifCond .ne 21, 3) := by decide +kernel
theorem dX1_notesGiven_24 : decode cX1_notesGiven 24 = .ok (.iload_n 1, 1) := by decide +kernel
theorem dX1_notesGiven_25 : decode cX1_notesGiven 25 = .ok (.iconst 1, 1) := by decide +kernel
theorem dX1_notesGiven_26 : decode cX1_notesGiven 26 = .ok (.aload_n 0, 1) := by decide +kernel
theorem dX1_notesGiven_27 : decode cX1_notesGiven 27 = .ok (.getfield 26, 3) := by decide +kernel
theorem dX1_notesGiven_30 : decode cX1_notesGiven 30 = .ok (.iload_n 2, 1) := by decide +kernel
theorem dX1_notesGiven_31 : decode cX1_notesGiven 31 = .ok (.aaload, 1) := by decide +kernel
theorem dX1_notesGiven_32 : decode cX1_notesGiven 32 = .ok (.aload_n 0, 1) := by decide +kernel
theorem dX1_notesGiven_33 : decode cX1_notesGiven 33 = .ok (.getfield 45, 3) := by decide +kernel
theorem dX1_notesGiven_36 : decode cX1_notesGiven 36 = .ok (.invokevirtual 66, 3) := by decide +kernel
theorem dX1_notesGiven_39 : decode cX1_notesGiven 39 = .ok (.ishl, 1) := by decide +kernel
theorem dX1_notesGiven_40 : decode cX1_notesGiven 40 = .ok (.ior, 1) := by decide +kernel
theorem dX1_notesGiven_41 : decode cX1_notesGiven 41 = .ok (.istore_n 1, 1) := by decide +kernel
theorem dX1_notesGiven_42 : decode cX1_notesGiven 42 = .ok (.iinc 2 1, 3) := by decide +kernel
theorem dX1_notesGiven_45 : decode cX1_notesGiven 45 = .ok (.goto (-41), 3) := by decide +kernel
theorem dX1_notesGiven_48 : decode cX1_notesGiven 48 = .ok (.iload_n 1, 1) := by decide +kernel
theorem dX1_notesGiven_49 : decode cX1_notesGiven 49 = .ok (.ireturn, 1) := by decide +kernel
theorem dX1_tiredTogether_0 : decode cX1_tiredTogether 0 = .ok (.iconst 0, 1) := by decide +kernel
theorem dX1_tiredTogether_1 : decode cX1_tiredTogether 1 = .ok (.istore_n 1, 1) := by decide +kernel
theorem dX1_tiredTogether_2 : decode cX1_tiredTogether 2 = .ok (.iconst 0, 1) := by decide +kernel
theorem dX1_tiredTogether_3 : decode cX1_tiredTogether 3 = .ok (.istore_n 2, 1) := by decide +kernel
theorem dX1_tiredTogether_4 : decode cX1_tiredTogether 4 = .ok (.iload_n 2, 1) := by decide +kernel
theorem dX1_tiredTogether_5 : decode cX1_tiredTogether 5 = .ok (.aload_n 0, 1) := by decide +kernel
theorem dX1_tiredTogether_6 : decode cX1_tiredTogether 6 = .ok (.getfield 38, 3) := by decide +kernel
theorem dX1_tiredTogether_9 : decode cX1_tiredTogether 9 = .ok (.if_icmp .ge 23, 3) := by decide +kernel
theorem dX1_tiredTogether_12 : decode cX1_tiredTogether 12 = .ok (.iload_n 1, 1) := by decide +kernel
theorem dX1_tiredTogether_13 : decode cX1_tiredTogether 13 = .ok (.aload_n 0, 1) := by decide +kernel
theorem dX1_tiredTogether_14 : decode cX1_tiredTogether 14 = .ok (.getfield 26, 3) := by decide +kernel
theorem dX1_tiredTogether_17 : decode cX1_tiredTogether 17 = .ok (.iload_n 2, 1) := by decide +kernel
theorem dX1_tiredTogether_18 : decode cX1_tiredTogether 18 = .ok (.aaload, 1) := by decide +kernel
theorem dX1_tiredTogether_19 : decode cX1_tiredTogether 19 = .ok (.getfield 57, 3) := by decide +kernel
theorem dX1_tiredTogether_22 : decode cX1_tiredTogether 22 = .ok (.iconst 4, 1) := by decide +kernel
theorem dX1_tiredTogether_23 : decode cX1_tiredTogether 23 = .ok (.iaload, 1) := by decide +kernel
theorem dX1_tiredTogether_24 : decode cX1_tiredTogether 24 = .ok (.iadd, 1) := by decide +kernel
theorem dX1_tiredTogether_25 : decode cX1_tiredTogether 25 = .ok (.istore_n 1, 1) := by decide +kernel
theorem dX1_tiredTogether_26 : decode cX1_tiredTogether 26 = .ok (.iinc 2 1, 3) := by decide +kernel
theorem dX1_tiredTogether_29 : decode cX1_tiredTogether 29 = .ok (.goto (-25), 3) := by decide +kernel
theorem dX1_tiredTogether_32 : decode cX1_tiredTogether 32 = .ok (.iload_n 1, 1) := by decide +kernel
theorem dX1_tiredTogether_33 : decode cX1_tiredTogether 33 = .ok (.ireturn, 1) := by decide +kernel
theorem dX1_childrenWhoLearntAll_0 : decode cX1_childrenWhoLearntAll 0 = .ok (.iconst 0, 1) := by decide +kernel
theorem dX1_childrenWhoLearntAll_1 : decode cX1_childrenWhoLearntAll 1 = .ok (.istore_n 1, 1) := by decide +kernel
theorem dX1_childrenWhoLearntAll_2 : decode cX1_childrenWhoLearntAll 2 = .ok (.iconst 0, 1) := by decide +kernel
theorem dX1_childrenWhoLearntAll_3 : decode cX1_childrenWhoLearntAll 3 = .ok (.istore_n 2, 1) := by decide +kernel
theorem dX1_childrenWhoLearntAll_4 : decode cX1_childrenWhoLearntAll 4 = .ok (.iload_n 2, 1) := by decide +kernel
theorem dX1_childrenWhoLearntAll_5 : decode cX1_childrenWhoLearntAll 5 = .ok (.aload_n 0, 1) := by decide +kernel
theorem dX1_childrenWhoLearntAll_6 : decode cX1_childrenWhoLearntAll 6 = .ok (.getfield 42, 3) := by decide +kernel
theorem dX1_childrenWhoLearntAll_9 : decode cX1_childrenWhoLearntAll 9 = .ok (.if_icmp .ge 32, 3) := by decide +kernel
theorem dX1_childrenWhoLearntAll_12 : decode cX1_childrenWhoLearntAll 12 = .ok (.aload_n 0, 1) := by decide +kernel
theorem dX1_childrenWhoLearntAll_13 : decode cX1_childrenWhoLearntAll 13 = .ok (.getfield 33, 3) := by decide +kernel
theorem dX1_childrenWhoLearntAll_16 : decode cX1_childrenWhoLearntAll 16 = .ok (.iload_n 2, 1) := by decide +kernel
theorem dX1_childrenWhoLearntAll_17 : decode cX1_childrenWhoLearntAll 17 = .ok (.aaload, 1) := by decide +kernel
theorem dX1_childrenWhoLearntAll_18 : decode cX1_childrenWhoLearntAll 18 = .ok (.getfield 60, 3) := by decide +kernel
theorem dX1_childrenWhoLearntAll_21 : decode cX1_childrenWhoLearntAll 21 = .ok (.iconst 2, 1) := by decide +kernel
theorem dX1_childrenWhoLearntAll_22 : decode cX1_childrenWhoLearntAll 22 = .ok (.iaload, 1) := by decide +kernel
theorem dX1_childrenWhoLearntAll_23 : decode cX1_childrenWhoLearntAll 23 = .ok (.sipush 4095, 3) := by decide +kernel
theorem dX1_childrenWhoLearntAll_26 : decode cX1_childrenWhoLearntAll 26 = .ok (.if_icmp .ne 9, 3) := by decide +kernel
theorem dX1_childrenWhoLearntAll_29 : decode cX1_childrenWhoLearntAll 29 = .ok (.iload_n 1, 1) := by decide +kernel
theorem dX1_childrenWhoLearntAll_30 : decode cX1_childrenWhoLearntAll 30 = .ok (.iconst 1, 1) := by decide +kernel
theorem dX1_childrenWhoLearntAll_31 : decode cX1_childrenWhoLearntAll 31 = .ok (.iload_n 2, 1) := by decide +kernel
theorem dX1_childrenWhoLearntAll_32 : decode cX1_childrenWhoLearntAll 32 = .ok (.ishl, 1) := by decide +kernel
theorem dX1_childrenWhoLearntAll_33 : decode cX1_childrenWhoLearntAll 33 = .ok (.ior, 1) := by decide +kernel
theorem dX1_childrenWhoLearntAll_34 : decode cX1_childrenWhoLearntAll 34 = .ok (.istore_n 1, 1) := by decide +kernel
theorem dX1_childrenWhoLearntAll_35 : decode cX1_childrenWhoLearntAll 35 = .ok (.iinc 2 1, 3) := by decide +kernel
theorem dX1_childrenWhoLearntAll_38 : decode cX1_childrenWhoLearntAll 38 = .ok (.goto (-34), 3) := by decide +kernel
theorem dX1_childrenWhoLearntAll_41 : decode cX1_childrenWhoLearntAll 41 = .ok (.iload_n 1, 1) := by decide +kernel
theorem dX1_childrenWhoLearntAll_42 : decode cX1_childrenWhoLearntAll 42 = .ok (.ireturn, 1) := by decide +kernel
theorem dX1_spotsThatHold_0 : decode cX1_spotsThatHold 0 = .ok (.iconst 0, 1) := by decide +kernel
theorem dX1_spotsThatHold_1 : decode cX1_spotsThatHold 1 = .ok (.istore_n 1, 1) := by decide +kernel
theorem dX1_spotsThatHold_2 : decode cX1_spotsThatHold 2 = .ok (.iconst 0, 1) := by decide +kernel
theorem dX1_spotsThatHold_3 : decode cX1_spotsThatHold 3 = .ok (.istore_n 2, 1) := by decide +kernel
theorem dX1_spotsThatHold_4 : decode cX1_spotsThatHold 4 = .ok (.iload_n 2, 1) := by decide +kernel
theorem dX1_spotsThatHold_5 : decode cX1_spotsThatHold 5 = .ok (.bipush 10, 2) := by decide +kernel
theorem dX1_spotsThatHold_7 : decode cX1_spotsThatHold 7 = .ok (.if_icmp .ge 22, 3) := by decide +kernel
theorem dX1_spotsThatHold_10 : decode cX1_spotsThatHold 10 = .ok (.aload_n 0, 1) := by decide +kernel
theorem dX1_spotsThatHold_11 : decode cX1_spotsThatHold 11 = .ok (.getfield 15, 3) := by decide +kernel
theorem dX1_spotsThatHold_14 : decode cX1_spotsThatHold 14 = .ok (.iload_n 2, 1) := by decide +kernel
theorem dX1_spotsThatHold_15 : decode cX1_spotsThatHold 15 = .ok (.iaload, 1) := by decide +kernel
theorem dX1_spotsThatHold_16 : decode cX1_spotsThatHold 16 = .ok (.iconst (-1), 1) := by decide +kernel
theorem dX1_spotsThatHold_17 : decode cX1_spotsThatHold 17 = .ok (.if_icmp .eq 6, 3) := by decide +kernel
theorem dX1_spotsThatHold_20 : decode cX1_spotsThatHold 20 = .ok (.iinc 1 1, 3) := by decide +kernel
theorem dX1_spotsThatHold_23 : decode cX1_spotsThatHold 23 = .ok (.iinc 2 1, 3) := by decide +kernel
theorem dX1_spotsThatHold_26 : decode cX1_spotsThatHold 26 = .ok (.goto (-22), 3) := by decide +kernel
theorem dX1_spotsThatHold_29 : decode cX1_spotsThatHold 29 = .ok (.iload_n 1, 1) := by decide +kernel
theorem dX1_spotsThatHold_30 : decode cX1_spotsThatHold 30 = .ok (.ireturn, 1) := by decide +kernel
theorem dX2_init_0 : decode cX2_init 0 = .ok (.aload_n 0, 1) := by decide +kernel
theorem dX2_init_1 : decode cX2_init 1 = .ok (.invokespecial 3, 3) := by decide +kernel
theorem dX2_init_4 : decode cX2_init 4 = .ok (.aload_n 0, 1) := by decide +kernel
theorem dX2_init_5 : decode cX2_init 5 = .ok (.bipush 6, 2) := by decide +kernel
theorem dX2_init_7 : decode cX2_init 7 = .ok (.newarray .int, 2) := by decide +kernel
theorem dX2_init_9 : decode cX2_init 9 = .ok (.putfield 9, 3) := by decide +kernel
theorem dX2_init_12 : decode cX2_init 12 = .ok (.return_, 1) := by decide +kernel
theorem dX2_begin_0 : decode cX2_begin 0 = .ok (.aload_n 0, 1) := by decide +kernel
theorem dX2_begin_1 : decode cX2_begin 1 = .ok (.getfield 9, 3) := by decide +kernel
theorem dX2_begin_4 : decode cX2_begin 4 = .ok (.iconst 0, 1) := by decide +kernel
theorem dX2_begin_5 : decode cX2_begin 5 = .ok (.iload_n 1, 1) := by decide +kernel
theorem dX2_begin_6 : decode cX2_begin 6 = .ok (.iastore, 1) := by decide +kernel
theorem dX2_begin_7 : decode cX2_begin 7 = .ok (.aload_n 0, 1) := by decide +kernel
theorem dX2_begin_8 : decode cX2_begin 8 = .ok (.getfield 9, 3) := by decide +kernel
theorem dX2_begin_11 : decode cX2_begin 11 = .ok (.iconst 1, 1) := by decide +kernel
theorem dX2_begin_12 : decode cX2_begin 12 = .ok (.iload_n 2, 1) := by decide +kernel
theorem dX2_begin_13 : decode cX2_begin 13 = .ok (.iastore, 1) := by decide +kernel
theorem dX2_begin_14 : decode cX2_begin 14 = .ok (.aload_n 0, 1) := by decide +kernel
theorem dX2_begin_15 : decode cX2_begin 15 = .ok (.getfield 9, 3) := by decide +kernel
theorem dX2_begin_18 : decode cX2_begin 18 = .ok (.iconst 2, 1) := by decide +kernel
theorem dX2_begin_19 : decode cX2_begin 19 = .ok (.iconst 0, 1) := by decide +kernel
theorem dX2_begin_20 : decode cX2_begin 20 = .ok (.iastore, 1) := by decide +kernel
theorem dX2_begin_21 : decode cX2_begin 21 = .ok (.aload_n 0, 1) := by decide +kernel
theorem dX2_begin_22 : decode cX2_begin 22 = .ok (.getfield 9, 3) := by decide +kernel
theorem dX2_begin_25 : decode cX2_begin 25 = .ok (.iconst 3, 1) := by decide +kernel
theorem dX2_begin_26 : decode cX2_begin 26 = .ok (.bipush 6, 2) := by decide +kernel
theorem dX2_begin_28 : decode cX2_begin 28 = .ok (.iastore, 1) := by decide +kernel
theorem dX2_begin_29 : decode cX2_begin 29 = .ok (.aload_n 0, 1) := by decide +kernel
theorem dX2_begin_30 : decode cX2_begin 30 = .ok (.getfield 9, 3) := by decide +kernel
theorem dX2_begin_33 : decode cX2_begin 33 = .ok (.iconst 4, 1) := by decide +kernel
theorem dX2_begin_34 : decode cX2_begin 34 = .ok (.iconst 0, 1) := by decide +kernel
theorem dX2_begin_35 : decode cX2_begin 35 = .ok (.iastore, 1) := by decide +kernel
theorem dX2_begin_36 : decode cX2_begin 36 = .ok (.aload_n 0, 1) := by decide +kernel
theorem dX2_begin_37 : decode cX2_begin 37 = .ok (.getfield 9, 3) := by decide +kernel
theorem dX2_begin_40 : decode cX2_begin 40 = .ok (.iconst 5, 1) := by decide +kernel
theorem dX2_begin_41 : decode cX2_begin 41 = .ok (.iconst 0, 1) := by decide +kernel
theorem dX2_begin_42 : decode cX2_begin 42 = .ok (.iastore, 1) := by decide +kernel
theorem dX2_begin_43 : decode cX2_begin 43 = .ok (.return_, 1) := by decide +kernel
theorem dX2_isSilent_0 : decode cX2_isSilent 0 = .ok (.aload_n 0, 1) := by decide +kernel
theorem dX2_isSilent_1 : decode cX2_isSilent 1 = .ok (.getfield 9, 3) := by decide +kernel
theorem dX2_isSilent_4 : decode cX2_isSilent 4 = .ok (.iconst 5, 1) := by decide +kernel
theorem dX2_isSilent_5 : decode cX2_isSilent 5 = .ok (.iaload, 1) := by decide +kernel
theorem dX2_isSilent_6 : decode cX2_isSilent 6 = .ok (.iconst 1, 1) := by decide +kernel
theorem dX2_isSilent_7 : decode cX2_isSilent 7 = .ok (.if_icmp .ne 7, 3) := by decide +kernel
theorem dX2_isSilent_10 : decode cX2_isSilent 10 = .ok (.iconst 1, 1) := by decide +kernel
theorem dX2_isSilent_11 : decode cX2_isSilent 11 = .ok (.goto 4, 3) := by decide +kernel
theorem dX2_isSilent_14 : decode cX2_isSilent 14 = .ok (.iconst 0, 1) := by decide +kernel
theorem dX2_isSilent_15 : decode cX2_isSilent 15 = .ok (.ireturn, 1) := by decide +kernel
theorem dX2_isOf_0 : decode cX2_isOf 0 = .ok (.aload_n 0, 1) := by decide +kernel
theorem dX2_isOf_1 : decode cX2_isOf 1 = .ok (.getfield 9, 3) := by decide +kernel
theorem dX2_isOf_4 : decode cX2_isOf 4 = .ok (.iconst 0, 1) := by decide +kernel
theorem dX2_isOf_5 : decode cX2_isOf 5 = .ok (.iaload, 1) := by decide +kernel
theorem dX2_isOf_6 : decode cX2_isOf 6 = .ok (.istore_n 2, 1) := by decide +kernel
theorem dX2_isOf_7 : decode cX2_isOf 7 = .ok (.iconst 0, 1) := by decide +kernel
theorem dX2_isOf_8 : decode cX2_isOf 8 = .ok (.istore_n 3, 1) := by decide +kernel
theorem dX2_isOf_9 : decode cX2_isOf 9 = .ok (.iload_n 3, 1) := by decide +kernel
theorem dX2_isOf_10 : decode cX2_isOf 10 = .ok (.bipush 6, 2) := by decide +kernel
theorem dX2_isOf_12 : decode cX2_isOf 12 = .ok (.if_icmp .gt 26, 3) := by decide +kernel
theorem dX2_isOf_15 : decode cX2_isOf 15 = .ok (.iload_n 2, 1) := by decide +kernel
theorem dX2_isOf_16 : decode cX2_isOf 16 = .ok (.ifCond .lt 22, 3) := by decide +kernel
theorem dX2_isOf_19 : decode cX2_isOf 19 = .ok (.iload_n 2, 1) := by decide +kernel
theorem dX2_isOf_20 : decode cX2_isOf 20 = .ok (.iload_n 1, 1) := by decide +kernel
theorem dX2_isOf_21 : decode cX2_isOf 21 = .ok (.if_icmp .ne 5, 3) := by decide +kernel
theorem dX2_isOf_24 : decode cX2_isOf 24 = .ok (.iconst 1, 1) := by decide +kernel
theorem dX2_isOf_25 : decode cX2_isOf 25 = .ok (.ireturn, 1) := by decide +kernel
theorem dX2_isOf_26 : decode cX2_isOf 26 = .ok (.getstatic 15, 3) := by decide +kernel
theorem dX2_isOf_29 : decode cX2_isOf 29 = .ok (.iload_n 2, 1) := by decide +kernel
theorem dX2_isOf_30 : decode cX2_isOf 30 = .ok (.iaload, 1) := by decide +kernel
theorem dX2_isOf_31 : decode cX2_isOf 31 = .ok (.istore_n 2, 1) := by decide +kernel
theorem dX2_isOf_32 : decode cX2_isOf 32 = .ok (.iinc 3 1, 3) := by decide +kernel
theorem dX2_isOf_35 : decode cX2_isOf 35 = .ok (.goto (-26), 3) := by decide +kernel
theorem dX2_isOf_38 : decode cX2_isOf 38 = .ok (.iconst 0, 1) := by decide +kernel
theorem dX2_isOf_39 : decode cX2_isOf 39 = .ok (.ireturn, 1) := by decide +kernel
theorem dX2_gives_0 : decode cX2_gives 0 = .ok (.aload_n 0, 1) := by decide +kernel
theorem dX2_gives_1 : decode cX2_gives 1 = .ok (.getfield 9, 3) := by decide +kernel
theorem dX2_gives_4 : decode cX2_gives 4 = .ok (.iconst 0, 1) := by decide +kernel
theorem dX2_gives_5 : decode cX2_gives 5 = .ok (.iaload, 1) := by decide +kernel
theorem dX2_gives_6 : decode cX2_gives 6 = .ok (.tableswitch 95 2 6 #[34, 51, 70, 72, 82], 34) := by decide +kernel
theorem dX2_gives_40 : decode cX2_gives 40 = .ok (.aload_n 0, 1) := by decide +kernel
theorem dX2_gives_41 : decode cX2_gives 41 = .ok (.getfield 9, 3) := by decide +kernel
theorem dX2_gives_44 : decode cX2_gives 44 = .ok (.iconst 2, 1) := by decide +kernel
theorem dX2_gives_45 : decode cX2_gives 45 = .ok (.iaload, 1) := by decide +kernel
theorem dX2_gives_46 : decode cX2_gives 46 = .ok (.aload_n 0, 1) := by decide +kernel
theorem dX2_gives_47 : decode cX2_gives 47 = .ok (.getfield 9, 3) := by decide +kernel
theorem dX2_gives_50 : decode cX2_gives 50 = .ok (.iconst 4, 1) := by decide +kernel
theorem dX2_gives_51 : decode cX2_gives 51 = .ok (.iaload, 1) := by decide +kernel
theorem dX2_gives_52 : decode cX2_gives 52 = .ok (.iadd, 1) := by decide +kernel
theorem dX2_gives_53 : decode cX2_gives 53 = .ok (.bipush 12, 2) := by decide +kernel
theorem dX2_gives_55 : decode cX2_gives 55 = .ok (.irem, 1) := by decide +kernel
theorem dX2_gives_56 : decode cX2_gives 56 = .ok (.ireturn, 1) := by decide +kernel
theorem dX2_gives_57 : decode cX2_gives 57 = .ok (.aload_n 0, 1) := by decide +kernel
theorem dX2_gives_58 : decode cX2_gives 58 = .ok (.getfield 9, 3) := by decide +kernel
theorem dX2_gives_61 : decode cX2_gives 61 = .ok (.iconst 2, 1) := by decide +kernel
theorem dX2_gives_62 : decode cX2_gives 62 = .ok (.iaload, 1) := by decide +kernel
theorem dX2_gives_63 : decode cX2_gives 63 = .ok (.aload_n 0, 1) := by decide +kernel
theorem dX2_gives_64 : decode cX2_gives 64 = .ok (.getfield 9, 3) := by decide +kernel
theorem dX2_gives_67 : decode cX2_gives 67 = .ok (.iconst 4, 1) := by decide +kernel
theorem dX2_gives_68 : decode cX2_gives 68 = .ok (.iaload, 1) := by decide +kernel
theorem dX2_gives_69 : decode cX2_gives 69 = .ok (.iadd, 1) := by decide +kernel
theorem dX2_gives_70 : decode cX2_gives 70 = .ok (.iload_n 1, 1) := by decide +kernel
theorem dX2_gives_71 : decode cX2_gives 71 = .ok (.iadd, 1) := by decide +kernel
theorem dX2_gives_72 : decode cX2_gives 72 = .ok (.bipush 12, 2) := by decide +kernel
theorem dX2_gives_74 : decode cX2_gives 74 = .ok (.irem, 1) := by decide +kernel
theorem dX2_gives_75 : decode cX2_gives 75 = .ok (.ireturn, 1) := by decide +kernel
theorem dX2_gives_76 : decode cX2_gives 76 = .ok (.iconst 0, 1) := by decide +kernel
theorem dX2_gives_77 : decode cX2_gives 77 = .ok (.ireturn, 1) := by decide +kernel
theorem dX2_gives_78 : decode cX2_gives 78 = .ok (.bipush 11, 2) := by decide +kernel
theorem dX2_gives_80 : decode cX2_gives 80 = .ok (.aload_n 0, 1) := by decide +kernel
theorem dX2_gives_81 : decode cX2_gives 81 = .ok (.getfield 9, 3) := by decide +kernel
theorem dX2_gives_84 : decode cX2_gives 84 = .ok (.iconst 2, 1) := by decide +kernel
theorem dX2_gives_85 : decode cX2_gives 85 = .ok (.iaload, 1) := by decide +kernel
theorem dX2_gives_86 : decode cX2_gives 86 = .ok (.isub, 1) := by decide +kernel
theorem dX2_gives_87 : decode cX2_gives 87 = .ok (.ireturn, 1) := by decide +kernel
theorem dX2_gives_88 : decode cX2_gives 88 = .ok (.aload_n 0, 1) := by decide +kernel
theorem dX2_gives_89 : decode cX2_gives 89 = .ok (.getfield 9, 3) := by decide +kernel
theorem dX2_gives_92 : decode cX2_gives 92 = .ok (.iconst 2, 1) := by decide +kernel
theorem dX2_gives_93 : decode cX2_gives 93 = .ok (.iaload, 1) := by decide +kernel
theorem dX2_gives_94 : decode cX2_gives 94 = .ok (.bipush 11, 2) := by decide +kernel
theorem dX2_gives_96 : decode cX2_gives 96 = .ok (.iadd, 1) := by decide +kernel
theorem dX2_gives_97 : decode cX2_gives 97 = .ok (.bipush 12, 2) := by decide +kernel
theorem dX2_gives_99 : decode cX2_gives 99 = .ok (.irem, 1) := by decide +kernel
theorem dX2_gives_100 : decode cX2_gives 100 = .ok (.ireturn, 1) := by decide +kernel
theorem dX2_gives_101 : decode cX2_gives 101 = .ok (.aload_n 0, 1) := by decide +kernel
theorem dX2_gives_102 : decode cX2_gives 102 = .ok (.getfield 9, 3) := by decide +kernel
theorem dX2_gives_105 : decode cX2_gives 105 = .ok (.iconst 2, 1) := by decide +kernel
theorem dX2_gives_106 : decode cX2_gives 106 = .ok (.iaload, 1) := by decide +kernel
theorem dX2_gives_107 : decode cX2_gives 107 = .ok (.ireturn, 1) := by decide +kernel
theorem dX2_reaches_0 : decode cX2_reaches 0 = .ok (.iconst 0, 1) := by decide +kernel
theorem dX2_reaches_1 : decode cX2_reaches 1 = .ok (.aload_n 0, 1) := by decide +kernel
theorem dX2_reaches_2 : decode cX2_reaches 2 = .ok (.getfield 9, 3) := by decide +kernel
theorem dX2_reaches_5 : decode cX2_reaches 5 = .ok (.iconst 3, 1) := by decide +kernel
theorem dX2_reaches_6 : decode cX2_reaches 6 = .ok (.iaload, 1) := by decide +kernel
theorem dX2_reaches_7 : decode cX2_reaches 7 = .ok (.iload_n 1, 1) := by decide +kernel
theorem dX2_reaches_8 : decode cX2_reaches 8 = .ok (.iconst 2, 1) := by decide +kernel
theorem dX2_reaches_9 : decode cX2_reaches 9 = .ok (.idiv, 1) := by decide +kernel
theorem dX2_reaches_10 : decode cX2_reaches 10 = .ok (.isub, 1) := by decide +kernel
theorem dX2_reaches_11 : decode cX2_reaches 11 = .ok (.invokestatic 18, 3) := by decide +kernel
theorem dX2_reaches_14 : decode cX2_reaches 14 = .ok (.istore_n 2, 1) := by decide +kernel
theorem dX2_reaches_15 : decode cX2_reaches 15 = .ok (.aload_n 0, 1) := by decide +kernel
theorem dX2_reaches_16 : decode cX2_reaches 16 = .ok (.getfield 9, 3) := by decide +kernel
theorem dX2_reaches_19 : decode cX2_reaches 19 = .ok (.iconst 0, 1) := by decide +kernel
theorem dX2_reaches_20 : decode cX2_reaches 20 = .ok (.iaload, 1) := by decide +kernel
theorem dX2_reaches_21 : decode cX2_reaches 21 = .ok (.tableswitch 66 1 6 #[39, 43, 43, 59, 62, 39], 39) := by decide +kernel
theorem dX2_reaches_60 : decode cX2_reaches 60 = .ok (.iload_n 2, 1) := by decide +kernel
theorem dX2_reaches_61 : decode cX2_reaches 61 = .ok (.iconst 2, 1) := by decide +kernel
theorem dX2_reaches_62 : decode cX2_reaches 62 = .ok (.iadd, 1) := by decide +kernel
theorem dX2_reaches_63 : decode cX2_reaches 63 = .ok (.ireturn, 1) := by decide +kernel
theorem dX2_reaches_64 : decode cX2_reaches 64 = .ok (.iconst 0, 1) := by decide +kernel
theorem dX2_reaches_65 : decode cX2_reaches 65 = .ok (.iload_n 2, 1) := by decide +kernel
theorem dX2_reaches_66 : decode cX2_reaches 66 = .ok (.aload_n 0, 1) := by decide +kernel
theorem dX2_reaches_67 : decode cX2_reaches 67 = .ok (.getfield 9, 3) := by decide +kernel
theorem dX2_reaches_70 : decode cX2_reaches 70 = .ok (.iconst 4, 1) := by decide +kernel
theorem dX2_reaches_71 : decode cX2_reaches 71 = .ok (.iaload, 1) := by decide +kernel
theorem dX2_reaches_72 : decode cX2_reaches 72 = .ok (.bipush 10, 2) := by decide +kernel
theorem dX2_reaches_74 : decode cX2_reaches 74 = .ok (.idiv, 1) := by decide +kernel
theorem dX2_reaches_75 : decode cX2_reaches 75 = .ok (.isub, 1) := by decide +kernel
theorem dX2_reaches_76 : decode cX2_reaches 76 = .ok (.invokestatic 18, 3) := by decide +kernel
theorem dX2_reaches_79 : decode cX2_reaches 79 = .ok (.ireturn, 1) := by decide +kernel
theorem dX2_reaches_80 : decode cX2_reaches 80 = .ok (.bipush 15, 2) := by decide +kernel
theorem dX2_reaches_82 : decode cX2_reaches 82 = .ok (.ireturn, 1) := by decide +kernel
theorem dX2_reaches_83 : decode cX2_reaches 83 = .ok (.iload_n 2, 1) := by decide +kernel
theorem dX2_reaches_84 : decode cX2_reaches 84 = .ok (.iconst 2, 1) := by decide +kernel
theorem dX2_reaches_85 : decode cX2_reaches 85 = .ok (.idiv, 1) := by decide +kernel
theorem dX2_reaches_86 : decode cX2_reaches 86 = .ok (.ireturn, 1) := by decide +kernel
theorem dX2_reaches_87 : decode cX2_reaches 87 = .ok (.iload_n 2, 1) := by decide +kernel
theorem dX2_reaches_88 : decode cX2_reaches 88 = .ok (.ireturn, 1) := by decide +kernel
theorem dX2_tempo_0 : decode cX2_tempo 0 = .ok (.getstatic 24, 3) := by decide +kernel
theorem dX2_tempo_3 : decode cX2_tempo 3 = .ok (.aload_n 0, 1) := by decide +kernel
theorem dX2_tempo_4 : decode cX2_tempo 4 = .ok (.getfield 9, 3) := by decide +kernel
theorem dX2_tempo_7 : decode cX2_tempo 7 = .ok (.iconst 0, 1) := by decide +kernel
theorem dX2_tempo_8 : decode cX2_tempo 8 = .ok (.iaload, 1) := by decide +kernel
theorem dX2_tempo_9 : decode cX2_tempo 9 = .ok (.iaload, 1) := by decide +kernel
theorem dX2_tempo_10 : decode cX2_tempo 10 = .ok (.ireturn, 1) := by decide +kernel
theorem dX2_tires_0 : decode cX2_tires 0 = .ok (.getstatic 27, 3) := by decide +kernel
theorem dX2_tires_3 : decode cX2_tires 3 = .ok (.aload_n 0, 1) := by decide +kernel
theorem dX2_tires_4 : decode cX2_tires 4 = .ok (.getfield 9, 3) := by decide +kernel
theorem dX2_tires_7 : decode cX2_tires 7 = .ok (.iconst 0, 1) := by decide +kernel
theorem dX2_tires_8 : decode cX2_tires 8 = .ok (.iaload, 1) := by decide +kernel
theorem dX2_tires_9 : decode cX2_tires 9 = .ok (.iaload, 1) := by decide +kernel
theorem dX2_tires_10 : decode cX2_tires 10 = .ok (.ireturn, 1) := by decide +kernel
theorem dX2_turns_0 : decode cX2_turns 0 = .ok (.iload_n 1, 1) := by decide +kernel
theorem dX2_turns_1 : decode cX2_turns 1 = .ok (.iconst 2, 1) := by decide +kernel
theorem dX2_turns_2 : decode cX2_turns 2 = .ok (.irem, 1) := by decide +kernel
theorem dX2_turns_3 : decode cX2_turns 3 = .ok (.ifCond .ne 7, 3) := by decide +kernel
theorem dX2_turns_6 : decode cX2_turns 6 = .ok (.iconst 1, 1) := by decide +kernel
theorem dX2_turns_7 : decode cX2_turns 7 = .ok (.goto 4, 3) := by decide +kernel
theorem dX2_turns_10 : decode cX2_turns 10 = .ok (.iconst 0, 1) := by decide +kernel
theorem dX2_turns_11 : decode cX2_turns 11 = .ok (.istore_n 2, 1) := by decide +kernel
theorem dX2_turns_12 : decode cX2_turns 12 = .ok (.aload_n 0, 1) := by decide +kernel
theorem dX2_turns_13 : decode cX2_turns 13 = .ok (.getfield 9, 3) := by decide +kernel
theorem dX2_turns_16 : decode cX2_turns 16 = .ok (.iconst 0, 1) := by decide +kernel
theorem dX2_turns_17 : decode cX2_turns 17 = .ok (.iaload, 1) := by decide +kernel
theorem dX2_turns_18 : decode cX2_turns 18 = .ok (.tableswitch 47 2 6 #[34, 36, 40, 42, 45], 34) := by decide +kernel
theorem dX2_turns_52 : decode cX2_turns 52 = .ok (.iload_n 2, 1) := by decide +kernel
theorem dX2_turns_53 : decode cX2_turns 53 = .ok (.ireturn, 1) := by decide +kernel
theorem dX2_turns_54 : decode cX2_turns 54 = .ok (.iload_n 2, 1) := by decide +kernel
theorem dX2_turns_55 : decode cX2_turns 55 = .ok (.iconst 5, 1) := by decide +kernel
theorem dX2_turns_56 : decode cX2_turns 56 = .ok (.iadd, 1) := by decide +kernel
theorem dX2_turns_57 : decode cX2_turns 57 = .ok (.ireturn, 1) := by decide +kernel
theorem dX2_turns_58 : decode cX2_turns 58 = .ok (.iconst 0, 1) := by decide +kernel
theorem dX2_turns_59 : decode cX2_turns 59 = .ok (.ireturn, 1) := by decide +kernel
theorem dX2_turns_60 : decode cX2_turns 60 = .ok (.bipush 11, 2) := by decide +kernel
theorem dX2_turns_62 : decode cX2_turns 62 = .ok (.ireturn, 1) := by decide +kernel
theorem dX2_turns_63 : decode cX2_turns 63 = .ok (.iconst 2, 1) := by decide +kernel
theorem dX2_turns_64 : decode cX2_turns 64 = .ok (.ireturn, 1) := by decide +kernel
theorem dX2_turns_65 : decode cX2_turns 65 = .ok (.iconst 1, 1) := by decide +kernel
theorem dX2_turns_66 : decode cX2_turns 66 = .ok (.ireturn, 1) := by decide +kernel
theorem dX2_goOn_0 : decode cX2_goOn 0 = .ok (.aload_n 0, 1) := by decide +kernel
theorem dX2_goOn_1 : decode cX2_goOn 1 = .ok (.getfield 9, 3) := by decide +kernel
theorem dX2_goOn_4 : decode cX2_goOn 4 = .ok (.iconst 4, 1) := by decide +kernel
theorem dX2_goOn_5 : decode cX2_goOn 5 = .ok (.getstatic 30, 3) := by decide +kernel
theorem dX2_goOn_8 : decode cX2_goOn 8 = .ok (.iconst 4, 1) := by decide +kernel
theorem dX2_goOn_9 : decode cX2_goOn 9 = .ok (.iaload, 1) := by decide +kernel
theorem dX2_goOn_10 : decode cX2_goOn 10 = .ok (.aload_n 0, 1) := by decide +kernel
theorem dX2_goOn_11 : decode cX2_goOn 11 = .ok (.getfield 9, 3) := by decide +kernel
theorem dX2_goOn_14 : decode cX2_goOn 14 = .ok (.iconst 4, 1) := by decide +kernel
theorem dX2_goOn_15 : decode cX2_goOn 15 = .ok (.iaload, 1) := by decide +kernel
theorem dX2_goOn_16 : decode cX2_goOn 16 = .ok (.aload_n 0, 1) := by decide +kernel
theorem dX2_goOn_17 : decode cX2_goOn 17 = .ok (.invokevirtual 33, 3) := by decide +kernel
theorem dX2_goOn_20 : decode cX2_goOn 20 = .ok (.iadd, 1) := by decide +kernel
theorem dX2_goOn_21 : decode cX2_goOn 21 = .ok (.invokestatic 37, 3) := by decide +kernel
theorem dX2_goOn_24 : decode cX2_goOn 24 = .ok (.iastore, 1) := by decide +kernel
theorem dX2_goOn_25 : decode cX2_goOn 25 = .ok (.aload_n 0, 1) := by decide +kernel
theorem dX2_goOn_26 : decode cX2_goOn 26 = .ok (.getfield 9, 3) := by decide +kernel
theorem dX2_goOn_29 : decode cX2_goOn 29 = .ok (.iconst 2, 1) := by decide +kernel
theorem dX2_goOn_30 : decode cX2_goOn 30 = .ok (.aload_n 0, 1) := by decide +kernel
theorem dX2_goOn_31 : decode cX2_goOn 31 = .ok (.getfield 9, 3) := by decide +kernel
theorem dX2_goOn_34 : decode cX2_goOn 34 = .ok (.iconst 2, 1) := by decide +kernel
theorem dX2_goOn_35 : decode cX2_goOn 35 = .ok (.iaload, 1) := by decide +kernel
theorem dX2_goOn_36 : decode cX2_goOn 36 = .ok (.aload_n 0, 1) := by decide +kernel
theorem dX2_goOn_37 : decode cX2_goOn 37 = .ok (.iload_n 1, 1) := by decide +kernel
theorem dX2_goOn_38 : decode cX2_goOn 38 = .ok (.invokevirtual 40, 3) := by decide +kernel
theorem dX2_goOn_41 : decode cX2_goOn 41 = .ok (.iadd, 1) := by decide +kernel
theorem dX2_goOn_42 : decode cX2_goOn 42 = .ok (.bipush 12, 2) := by decide +kernel
theorem dX2_goOn_44 : decode cX2_goOn 44 = .ok (.irem, 1) := by decide +kernel
theorem dX2_goOn_45 : decode cX2_goOn 45 = .ok (.iastore, 1) := by decide +kernel
theorem dX2_goOn_46 : decode cX2_goOn 46 = .ok (.return_, 1) := by decide +kernel
theorem dX2_rest_0 : decode cX2_rest 0 = .ok (.aload_n 0, 1) := by decide +kernel
theorem dX2_rest_1 : decode cX2_rest 1 = .ok (.getfield 9, 3) := by decide +kernel
theorem dX2_rest_4 : decode cX2_rest 4 = .ok (.iconst 4, 1) := by decide +kernel
theorem dX2_rest_5 : decode cX2_rest 5 = .ok (.iconst 0, 1) := by decide +kernel
theorem dX2_rest_6 : decode cX2_rest 6 = .ok (.aload_n 0, 1) := by decide +kernel
theorem dX2_rest_7 : decode cX2_rest 7 = .ok (.getfield 9, 3) := by decide +kernel
theorem dX2_rest_10 : decode cX2_rest 10 = .ok (.iconst 4, 1) := by decide +kernel
theorem dX2_rest_11 : decode cX2_rest 11 = .ok (.iaload, 1) := by decide +kernel
theorem dX2_rest_12 : decode cX2_rest 12 = .ok (.iconst 3, 1) := by decide +kernel
theorem dX2_rest_13 : decode cX2_rest 13 = .ok (.isub, 1) := by decide +kernel
theorem dX2_rest_14 : decode cX2_rest 14 = .ok (.invokestatic 18, 3) := by decide +kernel
theorem dX2_rest_17 : decode cX2_rest 17 = .ok (.iastore, 1) := by decide +kernel
theorem dX2_rest_18 : decode cX2_rest 18 = .ok (.return_, 1) := by decide +kernel
theorem dX3_init_0 : decode cX3_init 0 = .ok (.aload_n 0, 1) := by decide +kernel
theorem dX3_init_1 : decode cX3_init 1 = .ok (.invokespecial 1, 3) := by decide +kernel
theorem dX3_init_4 : decode cX3_init 4 = .ok (.aload_n 0, 1) := by decide +kernel
theorem dX3_init_5 : decode cX3_init 5 = .ok (.bipush 40, 2) := by decide +kernel
theorem dX3_init_7 : decode cX3_init 7 = .ok (.newarray .int, 2) := by decide +kernel
theorem dX3_init_9 : decode cX3_init 9 = .ok (.putfield 9, 3) := by decide +kernel
theorem dX3_init_12 : decode cX3_init 12 = .ok (.aload_n 0, 1) := by decide +kernel
theorem dX3_init_13 : decode cX3_init 13 = .ok (.iconst 0, 1) := by decide +kernel
theorem dX3_init_14 : decode cX3_init 14 = .ok (.putfield 13, 3) := by decide +kernel
theorem dX3_init_17 : decode cX3_init 17 = .ok (.aload_n 0, 1) := by decide +kernel
theorem dX3_init_18 : decode cX3_init 18 = .ok (.iconst 0, 1) := by decide +kernel
theorem dX3_init_19 : decode cX3_init 19 = .ok (.putfield 17, 3) := by decide +kernel
theorem dX3_init_22 : decode cX3_init 22 = .ok (.return_, 1) := by decide +kernel
theorem dX3_isMissing_0 : decode cX3_isMissing 0 = .ok (.aload_n 0, 1) := by decide +kernel
theorem dX3_isMissing_1 : decode cX3_isMissing 1 = .ok (.getfield 13, 3) := by decide +kernel
theorem dX3_isMissing_4 : decode cX3_isMissing 4 = .ok (.ifCond .ne 7, 3) := by decide +kernel
theorem dX3_isMissing_7 : decode cX3_isMissing 7 = .ok (.iconst 1, 1) := by decide +kernel
theorem dX3_isMissing_8 : decode cX3_isMissing 8 = .ok (.goto 4, 3) := by decide +kernel
theorem dX3_isMissing_11 : decode cX3_isMissing 11 = .ok (.iconst 0, 1) := by decide +kernel
theorem dX3_isMissing_12 : decode cX3_isMissing 12 = .ok (.ireturn, 1) := by decide +kernel
theorem dX3_begin_0 : decode cX3_begin 0 = .ok (.aload_n 0, 1) := by decide +kernel
theorem dX3_begin_1 : decode cX3_begin 1 = .ok (.iload_n 1, 1) := by decide +kernel
theorem dX3_begin_2 : decode cX3_begin 2 = .ok (.putfield 13, 3) := by decide +kernel
theorem dX3_begin_5 : decode cX3_begin 5 = .ok (.aload_n 0, 1) := by decide +kernel
theorem dX3_begin_6 : decode cX3_begin 6 = .ok (.iload_n 1, 1) := by decide +kernel
theorem dX3_begin_7 : decode cX3_begin 7 = .ok (.ifCond .ne 7, 3) := by decide +kernel
theorem dX3_begin_10 : decode cX3_begin 10 = .ok (.iconst 0, 1) := by decide +kernel
theorem dX3_begin_11 : decode cX3_begin 11 = .ok (.goto 4, 3) := by decide +kernel
theorem dX3_begin_14 : decode cX3_begin 14 = .ok (.iload_n 2, 1) := by decide +kernel
theorem dX3_begin_15 : decode cX3_begin 15 = .ok (.putfield 17, 3) := by decide +kernel
theorem dX3_begin_18 : decode cX3_begin 18 = .ok (.aload_n 0, 1) := by decide +kernel
theorem dX3_begin_19 : decode cX3_begin 19 = .ok (.getfield 9, 3) := by decide +kernel
theorem dX3_begin_22 : decode cX3_begin 22 = .ok (.iconst 0, 1) := by decide +kernel
theorem dX3_begin_23 : decode cX3_begin 23 = .ok (.invokestatic 20, 3) := by decide +kernel
theorem dX3_begin_26 : decode cX3_begin 26 = .ok (.return_, 1) := by decide +kernel
theorem dX3_put_0 : decode cX3_put 0 = .ok (.aload_n 0, 1) := by decide +kernel
theorem dX3_put_1 : decode cX3_put 1 = .ok (.getfield 13, 3) := by decide +kernel
theorem dX3_put_4 : decode cX3_put 4 = .ok (.lookupswitch 50 #[(8, 28), (16, 39)], 28) := by decide +kernel
theorem dX3_put_32 : decode cX3_put 32 = .ok (.aload_n 0, 1) := by decide +kernel
theorem dX3_put_33 : decode cX3_put 33 = .ok (.getfield 9, 3) := by decide +kernel
theorem dX3_put_36 : decode cX3_put 36 = .ok (.iload_n 1, 1) := by decide +kernel
theorem dX3_put_37 : decode cX3_put 37 = .ok (.iload_n 2, 1) := by decide +kernel
theorem dX3_put_38 : decode cX3_put 38 = .ok (.i2b, 1) := by decide +kernel
theorem dX3_put_39 : decode cX3_put 39 = .ok (.iastore, 1) := by decide +kernel
theorem dX3_put_40 : decode cX3_put 40 = .ok (.goto 21, 3) := by decide +kernel
theorem dX3_put_43 : decode cX3_put 43 = .ok (.aload_n 0, 1) := by decide +kernel
theorem dX3_put_44 : decode cX3_put 44 = .ok (.getfield 9, 3) := by decide +kernel
theorem dX3_put_47 : decode cX3_put 47 = .ok (.iload_n 1, 1) := by decide +kernel
theorem dX3_put_48 : decode cX3_put 48 = .ok (.iload_n 2, 1) := by decide +kernel
theorem dX3_put_49 : decode cX3_put 49 = .ok (.i2s, 1) := by decide +kernel
theorem dX3_put_50 : decode cX3_put 50 = .ok (.iastore, 1) := by decide +kernel
theorem dX3_put_51 : decode cX3_put 51 = .ok (.goto 10, 3) := by decide +kernel
theorem dX3_put_54 : decode cX3_put 54 = .ok (.aload_n 0, 1) := by decide +kernel
theorem dX3_put_55 : decode cX3_put 55 = .ok (.getfield 9, 3) := by decide +kernel
theorem dX3_put_58 : decode cX3_put 58 = .ok (.iload_n 1, 1) := by decide +kernel
theorem dX3_put_59 : decode cX3_put 59 = .ok (.iload_n 2, 1) := by decide +kernel
theorem dX3_put_60 : decode cX3_put 60 = .ok (.iastore, 1) := by decide +kernel
theorem dX3_put_61 : decode cX3_put 61 = .ok (.return_, 1) := by decide +kernel
theorem dX3_hasRun_0 : decode cX3_hasRun 0 = .ok (.iload_n 1, 1) := by decide +kernel
theorem dX3_hasRun_1 : decode cX3_hasRun 1 = .ok (.ifCond .lt 29, 3) := by decide +kernel
theorem dX3_hasRun_4 : decode cX3_hasRun 4 = .ok (.iload_n 2, 1) := by decide +kernel
theorem dX3_hasRun_5 : decode cX3_hasRun 5 = .ok (.ifCond .lt 25, 3) := by decide +kernel
theorem dX3_hasRun_8 : decode cX3_hasRun 8 = .ok (.iload_n 1, 1) := by decide +kernel
theorem dX3_hasRun_9 : decode cX3_hasRun 9 = .ok (.aload_n 0, 1) := by decide +kernel
theorem dX3_hasRun_10 : decode cX3_hasRun 10 = .ok (.getfield 17, 3) := by decide +kernel
theorem dX3_hasRun_13 : decode cX3_hasRun 13 = .ok (.if_icmp .gt 17, 3) := by decide +kernel
theorem dX3_hasRun_16 : decode cX3_hasRun 16 = .ok (.iload_n 2, 1) := by decide +kernel
theorem dX3_hasRun_17 : decode cX3_hasRun 17 = .ok (.aload_n 0, 1) := by decide +kernel
theorem dX3_hasRun_18 : decode cX3_hasRun 18 = .ok (.getfield 17, 3) := by decide +kernel
theorem dX3_hasRun_21 : decode cX3_hasRun 21 = .ok (.iload_n 1, 1) := by decide +kernel
theorem dX3_hasRun_22 : decode cX3_hasRun 22 = .ok (.isub, 1) := by decide +kernel
theorem dX3_hasRun_23 : decode cX3_hasRun 23 = .ok (.if_icmp .gt 7, 3) := by decide +kernel
theorem dX3_hasRun_26 : decode cX3_hasRun 26 = .ok (.iconst 1, 1) := by decide +kernel
theorem dX3_hasRun_27 : decode cX3_hasRun 27 = .ok (.goto 4, 3) := by decide +kernel
theorem dX3_hasRun_30 : decode cX3_hasRun 30 = .ok (.iconst 0, 1) := by decide +kernel
theorem dX3_hasRun_31 : decode cX3_hasRun 31 = .ok (.ireturn, 1) := by decide +kernel
theorem dX4_init_0 : decode cX4_init 0 = .ok (.aload_n 0, 1) := by decide +kernel
theorem dX4_init_1 : decode cX4_init 1 = .ok (.invokespecial 3, 3) := by decide +kernel
theorem dX4_init_4 : decode cX4_init 4 = .ok (.aload_n 0, 1) := by decide +kernel
theorem dX4_init_5 : decode cX4_init 5 = .ok (.bipush 120, 2) := by decide +kernel
theorem dX4_init_7 : decode cX4_init 7 = .ok (.newarray .byte, 2) := by decide +kernel
theorem dX4_init_9 : decode cX4_init 9 = .ok (.putfield 11, 3) := by decide +kernel
theorem dX4_init_12 : decode cX4_init 12 = .ok (.aload_n 0, 1) := by decide +kernel
theorem dX4_init_13 : decode cX4_init 13 = .ok (.iconst 0, 1) := by decide +kernel
theorem dX4_init_14 : decode cX4_init 14 = .ok (.putfield 15, 3) := by decide +kernel
theorem dX4_init_17 : decode cX4_init 17 = .ok (.aload_n 0, 1) := by decide +kernel
theorem dX4_init_18 : decode cX4_init 18 = .ok (.iconst 0, 1) := by decide +kernel
theorem dX4_init_19 : decode cX4_init 19 = .ok (.putfield 19, 3) := by decide +kernel
theorem dX4_init_22 : decode cX4_init 22 = .ok (.aload_n 0, 1) := by decide +kernel
theorem dX4_init_23 : decode cX4_init 23 = .ok (.iconst 0, 1) := by decide +kernel
theorem dX4_init_24 : decode cX4_init 24 = .ok (.putfield 22, 3) := by decide +kernel
theorem dX4_init_27 : decode cX4_init 27 = .ok (.aload_n 0, 1) := by decide +kernel
theorem dX4_init_28 : decode cX4_init 28 = .ok (.iconst 0, 1) := by decide +kernel
theorem dX4_init_29 : decode cX4_init 29 = .ok (.putfield 25, 3) := by decide +kernel
theorem dX4_init_32 : decode cX4_init 32 = .ok (.aload_n 0, 1) := by decide +kernel
theorem dX4_init_33 : decode cX4_init 33 = .ok (.iconst 0, 1) := by decide +kernel
theorem dX4_init_34 : decode cX4_init 34 = .ok (.putfield 28, 3) := by decide +kernel
theorem dX4_init_37 : decode cX4_init 37 = .ok (.return_, 1) := by decide +kernel
theorem dX4_append_0 : decode cX4_append 0 = .ok (.bipush 8, 2) := by decide +kernel
theorem dX4_append_2 : decode cX4_append 2 = .ok (.iload_n 2, 1) := by decide +kernel
theorem dX4_append_3 : decode cX4_append 3 = .ok (.iconst 1, 1) := by decide +kernel
theorem dX4_append_4 : decode cX4_append 4 = .ok (.isub, 1) := by decide +kernel
theorem dX4_append_5 : decode cX4_append 5 = .ok (.imul, 1) := by decide +kernel
theorem dX4_append_6 : decode cX4_append 6 = .ok (.istore_n 3, 1) := by decide +kernel
theorem dX4_append_7 : decode cX4_append 7 = .ok (.iload_n 3, 1) := by decide +kernel
theorem dX4_append_8 : decode cX4_append 8 = .ok (.ifCond .lt 32, 3) := by decide +kernel
theorem dX4_append_11 : decode cX4_append 11 = .ok (.aload_n 0, 1) := by decide +kernel
theorem dX4_append_12 : decode cX4_append 12 = .ok (.getfield 11, 3) := by decide +kernel
theorem dX4_append_15 : decode cX4_append 15 = .ok (.aload_n 0, 1) := by decide +kernel
theorem dX4_append_16 : decode cX4_append 16 = .ok (.getfield 15, 3) := by decide +kernel
theorem dX4_append_19 : decode cX4_append 19 = .ok (.iload_n 1, 1) := by decide +kernel
theorem dX4_append_20 : decode cX4_append 20 = .ok (.iload_n 3, 1) := by decide +kernel
theorem dX4_append_21 : decode cX4_append 21 = .ok (.ishr, 1) := by decide +kernel
theorem dX4_append_22 : decode cX4_append 22 = .ok (.i2b, 1) := by decide +kernel
theorem dX4_append_23 : decode cX4_append 23 = .ok (.bastore, 1) := by decide +kernel
theorem dX4_append_24 : decode cX4_append 24 = .ok (.aload_n 0, 1) := by decide +kernel
theorem dX4_append_25 : decode cX4_append 25 = .ok (.dup, 1) := by decide +kernel
theorem dX4_append_26 : decode cX4_append 26 = .ok (.getfield 15, 3) := by decide +kernel
theorem dX4_append_29 : decode cX4_append 29 = .ok (.iconst 1, 1) := by decide +kernel
theorem dX4_append_30 : decode cX4_append 30 = .ok (.iadd, 1) := by decide +kernel
theorem dX4_append_31 : decode cX4_append 31 = .ok (.putfield 15, 3) := by decide +kernel
theorem dX4_append_34 : decode cX4_append 34 = .ok (.iinc 3 (-8), 3) := by decide +kernel
theorem dX4_append_37 : decode cX4_append 37 = .ok (.goto (-30), 3) := by decide +kernel
theorem dX4_append_40 : decode cX4_append 40 = .ok (.return_, 1) := by decide +kernel
theorem dX4_readOnto_0 : decode cX4_readOnto 0 = .ok (.aload_n 0, 1) := by decide +kernel
theorem dX4_readOnto_1 : decode cX4_readOnto 1 = .ok (.iconst 0, 1) := by decide +kernel
theorem dX4_readOnto_2 : decode cX4_readOnto 2 = .ok (.putfield 25, 3) := by decide +kernel
theorem dX4_readOnto_5 : decode cX4_readOnto 5 = .ok (.iconst 1, 1) := by decide +kernel
theorem dX4_readOnto_6 : decode cX4_readOnto 6 = .ok (.istore_n 2, 1) := by decide +kernel
theorem dX4_readOnto_7 : decode cX4_readOnto 7 = .ok (.iload_n 2, 1) := by decide +kernel
theorem dX4_readOnto_8 : decode cX4_readOnto 8 = .ok (.bipush 120, 2) := by decide +kernel
theorem dX4_readOnto_10 : decode cX4_readOnto 10 = .ok (.if_icmp .gt 52, 3) := by decide +kernel
theorem dX4_readOnto_13 : decode cX4_readOnto 13 = .ok (.aload_n 0, 1) := by decide +kernel
theorem dX4_readOnto_14 : decode cX4_readOnto 14 = .ok (.invokevirtual 31, 3) := by decide +kernel
theorem dX4_readOnto_17 : decode cX4_readOnto 17 = .ok (.aload_n 0, 1) := by decide +kernel
theorem dX4_readOnto_18 : decode cX4_readOnto 18 = .ok (.aload_n 1, 1) := by decide +kernel
theorem dX4_readOnto_19 : decode cX4_readOnto 19 = .ok (.invokevirtual 34, 3) := by decide +kernel
theorem dX4_readOnto_22 : decode cX4_readOnto 22 = .ok (.ifCond .ne 10, 3) := by decide +kernel
theorem dX4_readOnto_25 : decode cX4_readOnto 25 = .ok (.iconst (-1), 1) := by decide +kernel
theorem dX4_readOnto_26 : decode cX4_readOnto 26 = .ok (.aload_n 0, 1) := by decide +kernel
theorem dX4_readOnto_27 : decode cX4_readOnto 27 = .ok (.getfield 22, 3) := by decide +kernel
theorem dX4_readOnto_30 : decode cX4_readOnto 30 = .ok (.isub, 1) := by decide +kernel
theorem dX4_readOnto_31 : decode cX4_readOnto 31 = .ok (.ireturn, 1) := by decide +kernel
theorem dX4_readOnto_32 : decode cX4_readOnto 32 = .ok (.aload_n 0, 1) := by decide +kernel
theorem dX4_readOnto_33 : decode cX4_readOnto 33 = .ok (.getfield 19, 3) := by decide +kernel
theorem dX4_readOnto_36 : decode cX4_readOnto 36 = .ok (.ifCond .ne 5, 3) := by decide +kernel
theorem dX4_readOnto_39 : decode cX4_readOnto 39 = .ok (.iload_n 2, 1) := by decide +kernel
theorem dX4_readOnto_40 : decode cX4_readOnto 40 = .ok (.ireturn, 1) := by decide +kernel
theorem dX4_readOnto_41 : decode cX4_readOnto 41 = .ok (.aload_n 0, 1) := by decide +kernel
theorem dX4_readOnto_42 : decode cX4_readOnto 42 = .ok (.getfield 19, 3) := by decide +kernel
theorem dX4_readOnto_45 : decode cX4_readOnto 45 = .ok (.iconst 3, 1) := by decide +kernel
theorem dX4_readOnto_46 : decode cX4_readOnto 46 = .ok (.if_icmp .eq 10, 3) := by decide +kernel
theorem dX4_readOnto_49 : decode cX4_readOnto 49 = .ok (.iconst (-1), 1) := by decide +kernel
theorem dX4_readOnto_50 : decode cX4_readOnto 50 = .ok (.aload_n 0, 1) := by decide +kernel
theorem dX4_readOnto_51 : decode cX4_readOnto 51 = .ok (.getfield 22, 3) := by decide +kernel
theorem dX4_readOnto_54 : decode cX4_readOnto 54 = .ok (.isub, 1) := by decide +kernel
theorem dX4_readOnto_55 : decode cX4_readOnto 55 = .ok (.ireturn, 1) := by decide +kernel
theorem dX4_readOnto_56 : decode cX4_readOnto 56 = .ok (.iinc 2 1, 3) := by decide +kernel
theorem dX4_readOnto_59 : decode cX4_readOnto 59 = .ok (.goto (-52), 3) := by decide +kernel
theorem dX4_readOnto_62 : decode cX4_readOnto 62 = .ok (.iconst (-1), 1) := by decide +kernel
theorem dX4_readOnto_63 : decode cX4_readOnto 63 = .ok (.aload_n 0, 1) := by decide +kernel
theorem dX4_readOnto_64 : decode cX4_readOnto 64 = .ok (.getfield 22, 3) := by decide +kernel
theorem dX4_readOnto_67 : decode cX4_readOnto 67 = .ok (.isub, 1) := by decide +kernel
theorem dX4_readOnto_68 : decode cX4_readOnto 68 = .ok (.ireturn, 1) := by decide +kernel
theorem dX4_readItem_0 : decode cX4_readItem 0 = .ok (.iconst 0, 1) := by decide +kernel
theorem dX4_readItem_1 : decode cX4_readItem 1 = .ok (.istore_n 2, 1) := by decide +kernel
theorem dX4_readItem_2 : decode cX4_readItem 2 = .ok (.iload_n 2, 1) := by decide +kernel
theorem dX4_readItem_3 : decode cX4_readItem 3 = .ok (.bipush 6, 2) := by decide +kernel
theorem dX4_readItem_5 : decode cX4_readItem 5 = .ok (.if_icmp .gt 27, 3) := by decide +kernel
theorem dX4_readItem_8 : decode cX4_readItem 8 = .ok (.aload_n 0, 1) := by decide +kernel
theorem dX4_readItem_9 : decode cX4_readItem 9 = .ok (.iload_n 2, 1) := by decide +kernel
theorem dX4_readItem_10 : decode cX4_readItem 10 = .ok (.invokestatic 38, 3) := by decide +kernel
theorem dX4_readItem_13 : decode cX4_readItem 13 = .ok (.invokevirtual 42, 3) := by decide +kernel
theorem dX4_readItem_16 : decode cX4_readItem 16 = .ok (.ifCond .eq 10, 3) := by decide +kernel
theorem dX4_readItem_19 : decode cX4_readItem 19 = .ok (.aload_n 0, 1) := by decide +kernel
theorem dX4_readItem_20 : decode cX4_readItem 20 = .ok (.aload_n 1, 1) := by decide +kernel
theorem dX4_readItem_21 : decode cX4_readItem 21 = .ok (.iload_n 2, 1) := by decide +kernel
theorem dX4_readItem_22 : decode cX4_readItem 22 = .ok (.invokevirtual 46, 3) := by decide +kernel
theorem dX4_readItem_25 : decode cX4_readItem 25 = .ok (.ireturn, 1) := by decide +kernel
theorem dX4_readItem_26 : decode cX4_readItem 26 = .ok (.iinc 2 1, 3) := by decide +kernel
theorem dX4_readItem_29 : decode cX4_readItem 29 = .ok (.goto (-27), 3) := by decide +kernel
theorem dX4_readItem_32 : decode cX4_readItem 32 = .ok (.aload_n 0, 1) := by decide +kernel
theorem dX4_readItem_33 : decode cX4_readItem 33 = .ok (.ldc 50, 2) := by decide +kernel
theorem dX4_readItem_35 : decode cX4_readItem 35 = .ok (.invokevirtual 42, 3) := by decide +kernel
theorem dX4_readItem_38 : decode cX4_readItem 38 = .ok (.ifCond .eq 9, 3) := by decide +kernel
theorem dX4_readItem_41 : decode cX4_readItem 41 = .ok (.aload_n 0, 1) := by decide +kernel
theorem dX4_readItem_42 : decode cX4_readItem 42 = .ok (.aload_n 1, 1) := by decide +kernel
theorem dX4_readItem_43 : decode cX4_readItem 43 = .ok (.invokevirtual 52, 3) := by decide +kernel
theorem dX4_readItem_46 : decode cX4_readItem 46 = .ok (.ireturn, 1) := by decide +kernel
theorem dX4_readItem_47 : decode cX4_readItem 47 = .ok (.aload_n 0, 1) := by decide +kernel
theorem dX4_readItem_48 : decode cX4_readItem 48 = .ok (.ldc 55, 2) := by decide +kernel
theorem dX4_readItem_50 : decode cX4_readItem 50 = .ok (.invokevirtual 42, 3) := by decide +kernel
theorem dX4_readItem_53 : decode cX4_readItem 53 = .ok (.ifCond .eq 15, 3) := by decide +kernel
theorem dX4_readItem_56 : decode cX4_readItem 56 = .ok (.aload_n 0, 1) := by decide +kernel
theorem dX4_readItem_57 : decode cX4_readItem 57 = .ok (.aload_n 1, 1) := by decide +kernel
theorem dX4_readItem_58 : decode cX4_readItem 58 = .ok (.invokevirtual 57, 3) := by decide +kernel
theorem dX4_readItem_61 : decode cX4_readItem 61 = .ok (.ifCond .eq 7, 3) := by decide +kernel
theorem dX4_readItem_64 : decode cX4_readItem 64 = .ok (.iconst 1, 1) := by decide +kernel
theorem dX4_readItem_65 : decode cX4_readItem 65 = .ok (.goto 4, 3) := by decide +kernel
theorem dX4_readItem_68 : decode cX4_readItem 68 = .ok (.iconst 0, 1) := by decide +kernel
theorem dX4_readItem_69 : decode cX4_readItem 69 = .ok (.ireturn, 1) := by decide +kernel
theorem dX4_readKeeper_0 : decode cX4_readKeeper 0 = .ok (.aload_n 1, 1) := by decide +kernel
theorem dX4_readKeeper_1 : decode cX4_readKeeper 1 = .ok (.invokevirtual 60, 3) := by decide +kernel
theorem dX4_readKeeper_4 : decode cX4_readKeeper 4 = .ok (.ifCond .eq 5, 3) := by decide +kernel
theorem dX4_readKeeper_7 : decode cX4_readKeeper 7 = .ok (.iconst 0, 1) := by decide +kernel
theorem dX4_readKeeper_8 : decode cX4_readKeeper 8 = .ok (.ireturn, 1) := by decide +kernel
theorem dX4_readKeeper_9 : decode cX4_readKeeper 9 = .ok (.aload_n 0, 1) := by decide +kernel
theorem dX4_readKeeper_10 : decode cX4_readKeeper 10 = .ok (.invokevirtual 31, 3) := by decide +kernel
theorem dX4_readKeeper_13 : decode cX4_readKeeper 13 = .ok (.aload_n 0, 1) := by decide +kernel
theorem dX4_readKeeper_14 : decode cX4_readKeeper 14 = .ok (.ldc 66, 2) := by decide +kernel
theorem dX4_readKeeper_16 : decode cX4_readKeeper 16 = .ok (.bipush 15, 2) := by decide +kernel
theorem dX4_readKeeper_18 : decode cX4_readKeeper 18 = .ok (.iconst 0, 1) := by decide +kernel
theorem dX4_readKeeper_19 : decode cX4_readKeeper 19 = .ok (.invokevirtual 68, 3) := by decide +kernel
theorem dX4_readKeeper_22 : decode cX4_readKeeper 22 = .ok (.istore_n 3, 1) := by decide +kernel
theorem dX4_readKeeper_23 : decode cX4_readKeeper 23 = .ok (.iload_n 3, 1) := by decide +kernel
theorem dX4_readKeeper_24 : decode cX4_readKeeper 24 = .ok (.ifCond .ge 7, 3) := by decide +kernel
theorem dX4_readKeeper_27 : decode cX4_readKeeper 27 = .ok (.iconst (-1), 1) := by decide +kernel
theorem dX4_readKeeper_28 : decode cX4_readKeeper 28 = .ok (.goto 12, 3) := by decide +kernel
theorem dX4_readKeeper_31 : decode cX4_readKeeper 31 = .ok (.aload_n 0, 1) := by decide +kernel
theorem dX4_readKeeper_32 : decode cX4_readKeeper 32 = .ok (.ldc 72, 2) := by decide +kernel
theorem dX4_readKeeper_34 : decode cX4_readKeeper 34 = .ok (.bipush 11, 2) := by decide +kernel
theorem dX4_readKeeper_36 : decode cX4_readKeeper 36 = .ok (.iconst 0, 1) := by decide +kernel
theorem dX4_readKeeper_37 : decode cX4_readKeeper 37 = .ok (.invokevirtual 68, 3) := by decide +kernel
theorem dX4_readKeeper_40 : decode cX4_readKeeper 40 = .ok (.istore 4, 2) := by decide +kernel
theorem dX4_readKeeper_42 : decode cX4_readKeeper 42 = .ok (.iload 4, 2) := by decide +kernel
theorem dX4_readKeeper_44 : decode cX4_readKeeper 44 = .ok (.ifCond .ge 7, 3) := by decide +kernel
theorem dX4_readKeeper_47 : decode cX4_readKeeper 47 = .ok (.iconst (-1), 1) := by decide +kernel
theorem dX4_readKeeper_48 : decode cX4_readKeeper 48 = .ok (.goto 13, 3) := by decide +kernel
theorem dX4_readKeeper_51 : decode cX4_readKeeper 51 = .ok (.aload_n 0, 1) := by decide +kernel
theorem dX4_readKeeper_52 : decode cX4_readKeeper 52 = .ok (.ldc 74, 2) := by decide +kernel
theorem dX4_readKeeper_54 : decode cX4_readKeeper 54 = .ok (.bipush 15, 2) := by decide +kernel
theorem dX4_readKeeper_56 : decode cX4_readKeeper 56 = .ok (.bipush 6, 2) := by decide +kernel
theorem dX4_readKeeper_58 : decode cX4_readKeeper 58 = .ok (.invokevirtual 68, 3) := by decide +kernel
theorem dX4_readKeeper_61 : decode cX4_readKeeper 61 = .ok (.istore 5, 2) := by decide +kernel
theorem dX4_readKeeper_63 : decode cX4_readKeeper 63 = .ok (.iload 5, 2) := by decide +kernel
theorem dX4_readKeeper_65 : decode cX4_readKeeper 65 = .ok (.ifCond .ge 5, 3) := by decide +kernel
theorem dX4_readKeeper_68 : decode cX4_readKeeper 68 = .ok (.iconst 0, 1) := by decide +kernel
theorem dX4_readKeeper_69 : decode cX4_readKeeper 69 = .ok (.ireturn, 1) := by decide +kernel
theorem dX4_readKeeper_70 : decode cX4_readKeeper 70 = .ok (.aload_n 1, 1) := by decide +kernel
theorem dX4_readKeeper_71 : decode cX4_readKeeper 71 = .ok (.getfield 78, 3) := by decide +kernel
theorem dX4_readKeeper_74 : decode cX4_readKeeper 74 = .ok (.aload_n 1, 1) := by decide +kernel
theorem dX4_readKeeper_75 : decode cX4_readKeeper 75 = .ok (.iload_n 2, 1) := by decide +kernel
theorem dX4_readKeeper_76 : decode cX4_readKeeper 76 = .ok (.iload_n 3, 1) := by decide +kernel
theorem dX4_readKeeper_77 : decode cX4_readKeeper 77 = .ok (.invokevirtual 82, 3) := by decide +kernel
theorem dX4_readKeeper_80 : decode cX4_readKeeper 80 = .ok (.aaload, 1) := by decide +kernel
theorem dX4_readKeeper_81 : decode cX4_readKeeper 81 = .ok (.getfield 86, 3) := by decide +kernel
theorem dX4_readKeeper_84 : decode cX4_readKeeper 84 = .ok (.astore 6, 2) := by decide +kernel
theorem dX4_readKeeper_86 : decode cX4_readKeeper 86 = .ok (.aload 6, 2) := by decide +kernel
theorem dX4_readKeeper_88 : decode cX4_readKeeper 88 = .ok (.iconst 2, 1) := by decide +kernel
theorem dX4_readKeeper_89 : decode cX4_readKeeper 89 = .ok (.iload 4, 2) := by decide +kernel
theorem dX4_readKeeper_91 : decode cX4_readKeeper 91 = .ok (.iastore, 1) := by decide +kernel
theorem dX4_readKeeper_92 : decode cX4_readKeeper 92 = .ok (.aload 6, 2) := by decide +kernel
theorem dX4_readKeeper_94 : decode cX4_readKeeper 94 = .ok (.iconst 3, 1) := by decide +kernel
theorem dX4_readKeeper_95 : decode cX4_readKeeper 95 = .ok (.iload 5, 2) := by decide +kernel
theorem dX4_readKeeper_97 : decode cX4_readKeeper 97 = .ok (.iastore, 1) := by decide +kernel
theorem dX4_readKeeper_98 : decode cX4_readKeeper 98 = .ok (.aload_n 0, 1) := by decide +kernel
theorem dX4_readKeeper_99 : decode cX4_readKeeper 99 = .ok (.ldc 90, 2) := by decide +kernel
theorem dX4_readKeeper_101 : decode cX4_readKeeper 101 = .ok (.invokevirtual 42, 3) := by decide +kernel
theorem dX4_readKeeper_104 : decode cX4_readKeeper 104 = .ok (.ifCond .eq 12, 3) := by decide +kernel
theorem dX4_readKeeper_107 : decode cX4_readKeeper 107 = .ok (.aload 6, 2) := by decide +kernel
theorem dX4_readKeeper_109 : decode cX4_readKeeper 109 = .ok (.iconst 5, 1) := by decide +kernel
theorem dX4_readKeeper_110 : decode cX4_readKeeper 110 = .ok (.iconst 1, 1) := by decide +kernel
theorem dX4_readKeeper_111 : decode cX4_readKeeper 111 = .ok (.iastore, 1) := by decide +kernel
theorem dX4_readKeeper_112 : decode cX4_readKeeper 112 = .ok (.aload_n 0, 1) := by decide +kernel
theorem dX4_readKeeper_113 : decode cX4_readKeeper 113 = .ok (.invokevirtual 31, 3) := by decide +kernel
theorem dX4_readKeeper_116 : decode cX4_readKeeper 116 = .ok (.iconst 1, 1) := by decide +kernel
theorem dX4_readKeeper_117 : decode cX4_readKeeper 117 = .ok (.ireturn, 1) := by decide +kernel
theorem dX4_readChild_0 : decode cX4_readChild 0 = .ok (.aload_n 1, 1) := by decide +kernel
theorem dX4_readChild_1 : decode cX4_readChild 1 = .ok (.invokevirtual 92, 3) := by decide +kernel
theorem dX4_readChild_4 : decode cX4_readChild 4 = .ok (.ifCond .eq 5, 3) := by decide +kernel
theorem dX4_readChild_7 : decode cX4_readChild 7 = .ok (.iconst 0, 1) := by decide +kernel
theorem dX4_readChild_8 : decode cX4_readChild 8 = .ok (.ireturn, 1) := by decide +kernel
theorem dX4_readChild_9 : decode cX4_readChild 9 = .ok (.aload_n 0, 1) := by decide +kernel
theorem dX4_readChild_10 : decode cX4_readChild 10 = .ok (.invokevirtual 31, 3) := by decide +kernel
theorem dX4_readChild_13 : decode cX4_readChild 13 = .ok (.aload_n 0, 1) := by decide +kernel
theorem dX4_readChild_14 : decode cX4_readChild 14 = .ok (.ldc 66, 2) := by decide +kernel
theorem dX4_readChild_16 : decode cX4_readChild 16 = .ok (.bipush 15, 2) := by decide +kernel
theorem dX4_readChild_18 : decode cX4_readChild 18 = .ok (.iconst 0, 1) := by decide +kernel
theorem dX4_readChild_19 : decode cX4_readChild 19 = .ok (.invokevirtual 68, 3) := by decide +kernel
theorem dX4_readChild_22 : decode cX4_readChild 22 = .ok (.istore_n 2, 1) := by decide +kernel
theorem dX4_readChild_23 : decode cX4_readChild 23 = .ok (.iload_n 2, 1) := by decide +kernel
theorem dX4_readChild_24 : decode cX4_readChild 24 = .ok (.ifCond .ge 7, 3) := by decide +kernel
theorem dX4_readChild_27 : decode cX4_readChild 27 = .ok (.iconst (-1), 1) := by decide +kernel
theorem dX4_readChild_28 : decode cX4_readChild 28 = .ok (.goto 12, 3) := by decide +kernel
theorem dX4_readChild_31 : decode cX4_readChild 31 = .ok (.aload_n 0, 1) := by decide +kernel
theorem dX4_readChild_32 : decode cX4_readChild 32 = .ok (.ldc 95, 2) := by decide +kernel
theorem dX4_readChild_34 : decode cX4_readChild 34 = .ok (.bipush 9, 2) := by decide +kernel
theorem dX4_readChild_36 : decode cX4_readChild 36 = .ok (.iconst 3, 1) := by decide +kernel
theorem dX4_readChild_37 : decode cX4_readChild 37 = .ok (.invokevirtual 68, 3) := by decide +kernel
theorem dX4_readChild_40 : decode cX4_readChild 40 = .ok (.istore_n 3, 1) := by decide +kernel
theorem dX4_readChild_41 : decode cX4_readChild 41 = .ok (.iload_n 3, 1) := by decide +kernel
theorem dX4_readChild_42 : decode cX4_readChild 42 = .ok (.ifCond .ge 7, 3) := by decide +kernel
theorem dX4_readChild_45 : decode cX4_readChild 45 = .ok (.iconst (-1), 1) := by decide +kernel
theorem dX4_readChild_46 : decode cX4_readChild 46 = .ok (.goto 13, 3) := by decide +kernel
theorem dX4_readChild_49 : decode cX4_readChild 49 = .ok (.aload_n 0, 1) := by decide +kernel
theorem dX4_readChild_50 : decode cX4_readChild 50 = .ok (.ldc 99, 2) := by decide +kernel
theorem dX4_readChild_52 : decode cX4_readChild 52 = .ok (.sipush 4095, 3) := by decide +kernel
theorem dX4_readChild_55 : decode cX4_readChild 55 = .ok (.iconst 0, 1) := by decide +kernel
theorem dX4_readChild_56 : decode cX4_readChild 56 = .ok (.invokevirtual 68, 3) := by decide +kernel
theorem dX4_readChild_59 : decode cX4_readChild 59 = .ok (.istore 4, 2) := by decide +kernel
theorem dX4_readChild_61 : decode cX4_readChild 61 = .ok (.iload 4, 2) := by decide +kernel
theorem dX4_readChild_63 : decode cX4_readChild 63 = .ok (.ifCond .ge 5, 3) := by decide +kernel
theorem dX4_readChild_66 : decode cX4_readChild 66 = .ok (.iconst 0, 1) := by decide +kernel
theorem dX4_readChild_67 : decode cX4_readChild 67 = .ok (.ireturn, 1) := by decide +kernel
theorem dX4_readChild_68 : decode cX4_readChild 68 = .ok (.aload_n 1, 1) := by decide +kernel
theorem dX4_readChild_69 : decode cX4_readChild 69 = .ok (.getfield 101, 3) := by decide +kernel
theorem dX4_readChild_72 : decode cX4_readChild 72 = .ok (.aload_n 1, 1) := by decide +kernel
theorem dX4_readChild_73 : decode cX4_readChild 73 = .ok (.iload_n 2, 1) := by decide +kernel
theorem dX4_readChild_74 : decode cX4_readChild 74 = .ok (.iload_n 3, 1) := by decide +kernel
theorem dX4_readChild_75 : decode cX4_readChild 75 = .ok (.invokevirtual 105, 3) := by decide +kernel
theorem dX4_readChild_78 : decode cX4_readChild 78 = .ok (.aaload, 1) := by decide +kernel
theorem dX4_readChild_79 : decode cX4_readChild 79 = .ok (.getfield 108, 3) := by decide +kernel
theorem dX4_readChild_82 : decode cX4_readChild 82 = .ok (.iconst 2, 1) := by decide +kernel
theorem dX4_readChild_83 : decode cX4_readChild 83 = .ok (.iload 4, 2) := by decide +kernel
theorem dX4_readChild_85 : decode cX4_readChild 85 = .ok (.iastore, 1) := by decide +kernel
theorem dX4_readChild_86 : decode cX4_readChild 86 = .ok (.iconst 1, 1) := by decide +kernel
theorem dX4_readChild_87 : decode cX4_readChild 87 = .ok (.ireturn, 1) := by decide +kernel
theorem dX4_readFog_0 : decode cX4_readFog 0 = .ok (.aload_n 0, 1) := by decide +kernel
theorem dX4_readFog_1 : decode cX4_readFog 1 = .ok (.invokevirtual 31, 3) := by decide +kernel
theorem dX4_readFog_4 : decode cX4_readFog 4 = .ok (.aload_n 0, 1) := by decide +kernel
theorem dX4_readFog_5 : decode cX4_readFog 5 = .ok (.iconst 5, 1) := by decide +kernel
theorem dX4_readFog_6 : decode cX4_readFog 6 = .ok (.invokevirtual 109, 3) := by decide +kernel
theorem dX4_readFog_9 : decode cX4_readFog 9 = .ok (.istore_n 2, 1) := by decide +kernel
theorem dX4_readFog_10 : decode cX4_readFog 10 = .ok (.iload_n 2, 1) := by decide +kernel
theorem dX4_readFog_11 : decode cX4_readFog 11 = .ok (.ifCond .ge 5, 3) := by decide +kernel
theorem dX4_readFog_14 : decode cX4_readFog 14 = .ok (.iconst 0, 1) := by decide +kernel
theorem dX4_readFog_15 : decode cX4_readFog 15 = .ok (.ireturn, 1) := by decide +kernel
theorem dX4_readFog_16 : decode cX4_readFog 16 = .ok (.aload_n 0, 1) := by decide +kernel
theorem dX4_readFog_17 : decode cX4_readFog 17 = .ok (.invokevirtual 31, 3) := by decide +kernel
theorem dX4_readFog_20 : decode cX4_readFog 20 = .ok (.aload_n 0, 1) := by decide +kernel
theorem dX4_readFog_21 : decode cX4_readFog 21 = .ok (.bipush 9, 2) := by decide +kernel
theorem dX4_readFog_23 : decode cX4_readFog 23 = .ok (.invokevirtual 109, 3) := by decide +kernel
theorem dX4_readFog_26 : decode cX4_readFog 26 = .ok (.istore_n 3, 1) := by decide +kernel
theorem dX4_readFog_27 : decode cX4_readFog 27 = .ok (.iload_n 3, 1) := by decide +kernel
theorem dX4_readFog_28 : decode cX4_readFog 28 = .ok (.ifCond .ge 5, 3) := by decide +kernel
theorem dX4_readFog_31 : decode cX4_readFog 31 = .ok (.iconst 0, 1) := by decide +kernel
theorem dX4_readFog_32 : decode cX4_readFog 32 = .ok (.ireturn, 1) := by decide +kernel
theorem dX4_readFog_33 : decode cX4_readFog 33 = .ok (.aload_n 0, 1) := by decide +kernel
theorem dX4_readFog_34 : decode cX4_readFog 34 = .ok (.invokevirtual 31, 3) := by decide +kernel
theorem dX4_readFog_37 : decode cX4_readFog 37 = .ok (.aload_n 1, 1) := by decide +kernel
theorem dX4_readFog_38 : decode cX4_readFog 38 = .ok (.getfield 113, 3) := by decide +kernel
theorem dX4_readFog_41 : decode cX4_readFog 41 = .ok (.iload_n 2, 1) := by decide +kernel
theorem dX4_readFog_42 : decode cX4_readFog 42 = .ok (.iload_n 3, 1) := by decide +kernel
theorem dX4_readFog_43 : decode cX4_readFog 43 = .ok (.iastore, 1) := by decide +kernel
theorem dX4_readFog_44 : decode cX4_readFog 44 = .ok (.iconst 1, 1) := by decide +kernel
theorem dX4_readFog_45 : decode cX4_readFog 45 = .ok (.ireturn, 1) := by decide +kernel
theorem dX4_readOption_0 : decode cX4_readOption 0 = .ok (.aload_n 0, 1) := by decide +kernel
theorem dX4_readOption_1 : decode cX4_readOption 1 = .ok (.aload_n 1, 1) := by decide +kernel
theorem dX4_readOption_2 : decode cX4_readOption 2 = .ok (.invokevirtual 42, 3) := by decide +kernel
theorem dX4_readOption_5 : decode cX4_readOption 5 = .ok (.ifCond .ne 5, 3) := by decide +kernel
theorem dX4_readOption_8 : decode cX4_readOption 8 = .ok (.iload_n 3, 1) := by decide +kernel
theorem dX4_readOption_9 : decode cX4_readOption 9 = .ok (.ireturn, 1) := by decide +kernel
theorem dX4_readOption_10 : decode cX4_readOption 10 = .ok (.aload_n 0, 1) := by decide +kernel
theorem dX4_readOption_11 : decode cX4_readOption 11 = .ok (.invokevirtual 31, 3) := by decide +kernel
theorem dX4_readOption_14 : decode cX4_readOption 14 = .ok (.aload_n 0, 1) := by decide +kernel
theorem dX4_readOption_15 : decode cX4_readOption 15 = .ok (.iload_n 2, 1) := by decide +kernel
theorem dX4_readOption_16 : decode cX4_readOption 16 = .ok (.invokevirtual 109, 3) := by decide +kernel
theorem dX4_readOption_19 : decode cX4_readOption 19 = .ok (.istore 4, 2) := by decide +kernel
theorem dX4_readOption_21 : decode cX4_readOption 21 = .ok (.iload 4, 2) := by decide +kernel
theorem dX4_readOption_23 : decode cX4_readOption 23 = .ok (.ifCond .lt 7, 3) := by decide +kernel
theorem dX4_readOption_26 : decode cX4_readOption 26 = .ok (.aload_n 0, 1) := by decide +kernel
theorem dX4_readOption_27 : decode cX4_readOption 27 = .ok (.invokevirtual 31, 3) := by decide +kernel
theorem dX4_readOption_30 : decode cX4_readOption 30 = .ok (.iload 4, 2) := by decide +kernel
theorem dX4_readOption_32 : decode cX4_readOption 32 = .ok (.ireturn, 1) := by decide +kernel
theorem dX4_numberUpTo_0 : decode cX4_numberUpTo 0 = .ok (.aload_n 0, 1) := by decide +kernel
theorem dX4_numberUpTo_1 : decode cX4_numberUpTo 1 = .ok (.getfield 19, 3) := by decide +kernel
theorem dX4_numberUpTo_4 : decode cX4_numberUpTo 4 = .ok (.iconst 2, 1) := by decide +kernel
theorem dX4_numberUpTo_5 : decode cX4_numberUpTo 5 = .ok (.if_icmp .ne 18, 3) := by decide +kernel
theorem dX4_numberUpTo_8 : decode cX4_numberUpTo 8 = .ok (.aload_n 0, 1) := by decide +kernel
theorem dX4_numberUpTo_9 : decode cX4_numberUpTo 9 = .ok (.getfield 28, 3) := by decide +kernel
theorem dX4_numberUpTo_12 : decode cX4_numberUpTo 12 = .ok (.iload_n 1, 1) := by decide +kernel
theorem dX4_numberUpTo_13 : decode cX4_numberUpTo 13 = .ok (.if_icmp .gt 10, 3) := by decide +kernel
theorem dX4_numberUpTo_16 : decode cX4_numberUpTo 16 = .ok (.aload_n 0, 1) := by decide +kernel
theorem dX4_numberUpTo_17 : decode cX4_numberUpTo 17 = .ok (.getfield 28, 3) := by decide +kernel
theorem dX4_numberUpTo_20 : decode cX4_numberUpTo 20 = .ok (.goto 4, 3) := by decide +kernel
theorem dX4_numberUpTo_23 : decode cX4_numberUpTo 23 = .ok (.iconst (-1), 1) := by decide +kernel
theorem dX4_numberUpTo_24 : decode cX4_numberUpTo 24 = .ok (.ireturn, 1) := by decide +kernel
theorem dX4_isAt_0 : decode cX4_isAt 0 = .ok (.aload_n 0, 1) := by decide +kernel
theorem dX4_isAt_1 : decode cX4_isAt 1 = .ok (.getfield 19, 3) := by decide +kernel
theorem dX4_isAt_4 : decode cX4_isAt 4 = .ok (.iconst 1, 1) := by decide +kernel
theorem dX4_isAt_5 : decode cX4_isAt 5 = .ok (.if_icmp .ne 19, 3) := by decide +kernel
theorem dX4_isAt_8 : decode cX4_isAt 8 = .ok (.aload_n 0, 1) := by decide +kernel
theorem dX4_isAt_9 : decode cX4_isAt 9 = .ok (.getfield 25, 3) := by decide +kernel
theorem dX4_isAt_12 : decode cX4_isAt 12 = .ok (.aload_n 0, 1) := by decide +kernel
theorem dX4_isAt_13 : decode cX4_isAt 13 = .ok (.getfield 22, 3) := by decide +kernel
theorem dX4_isAt_16 : decode cX4_isAt 16 = .ok (.isub, 1) := by decide +kernel
theorem dX4_isAt_17 : decode cX4_isAt 17 = .ok (.aload_n 1, 1) := by decide +kernel
theorem dX4_isAt_18 : decode cX4_isAt 18 = .ok (.invokevirtual 116, 3) := by decide +kernel
theorem dX4_isAt_21 : decode cX4_isAt 21 = .ok (.if_icmp .eq 5, 3) := by decide +kernel
theorem dX4_isAt_24 : decode cX4_isAt 24 = .ok (.iconst 0, 1) := by decide +kernel
theorem dX4_isAt_25 : decode cX4_isAt 25 = .ok (.ireturn, 1) := by decide +kernel
theorem dX4_isAt_26 : decode cX4_isAt 26 = .ok (.iconst 0, 1) := by decide +kernel
theorem dX4_isAt_27 : decode cX4_isAt 27 = .ok (.istore_n 2, 1) := by decide +kernel
theorem dX4_isAt_28 : decode cX4_isAt 28 = .ok (.iload_n 2, 1) := by decide +kernel
theorem dX4_isAt_29 : decode cX4_isAt 29 = .ok (.aload_n 1, 1) := by decide +kernel
theorem dX4_isAt_30 : decode cX4_isAt 30 = .ok (.invokevirtual 116, 3) := by decide +kernel
theorem dX4_isAt_33 : decode cX4_isAt 33 = .ok (.if_icmp .ge 30, 3) := by decide +kernel
theorem dX4_isAt_36 : decode cX4_isAt 36 = .ok (.aload_n 0, 1) := by decide +kernel
theorem dX4_isAt_37 : decode cX4_isAt 37 = .ok (.getfield 11, 3) := by decide +kernel
theorem dX4_isAt_40 : decode cX4_isAt 40 = .ok (.aload_n 0, 1) := by decide +kernel
theorem dX4_isAt_41 : decode cX4_isAt 41 = .ok (.getfield 22, 3) := by decide +kernel
theorem dX4_isAt_44 : decode cX4_isAt 44 = .ok (.iload_n 2, 1) := by decide +kernel
theorem dX4_isAt_45 : decode cX4_isAt 45 = .ok (.iadd, 1) := by decide +kernel
theorem dX4_isAt_46 : decode cX4_isAt 46 = .ok (.baload, 1) := by decide +kernel
theorem dX4_isAt_47 : decode cX4_isAt 47 = .ok (.aload_n 1, 1) := by decide +kernel
theorem dX4_isAt_48 : decode cX4_isAt 48 = .ok (.iload_n 2, 1) := by decide +kernel
theorem dX4_isAt_49 : decode cX4_isAt 49 = .ok (.invokevirtual 122, 3) := by decide +kernel
theorem dX4_isAt_52 : decode cX4_isAt 52 = .ok (.if_icmp .eq 5, 3) := by decide +kernel
theorem dX4_isAt_55 : decode cX4_isAt 55 = .ok (.iconst 0, 1) := by decide +kernel
theorem dX4_isAt_56 : decode cX4_isAt 56 = .ok (.ireturn, 1) := by decide +kernel
theorem dX4_isAt_57 : decode cX4_isAt 57 = .ok (.iinc 2 1, 3) := by decide +kernel
theorem dX4_isAt_60 : decode cX4_isAt 60 = .ok (.goto (-32), 3) := by decide +kernel
theorem dX4_isAt_63 : decode cX4_isAt 63 = .ok (.iconst 1, 1) := by decide +kernel
theorem dX4_isAt_64 : decode cX4_isAt 64 = .ok (.ireturn, 1) := by decide +kernel
theorem dX4_step_0 : decode cX4_step 0 = .ok (.aload_n 0, 1) := by decide +kernel
theorem dX4_step_1 : decode cX4_step 1 = .ok (.aload_n 0, 1) := by decide +kernel
theorem dX4_step_2 : decode cX4_step 2 = .ok (.getfield 25, 3) := by decide +kernel
theorem dX4_step_5 : decode cX4_step 5 = .ok (.putfield 22, 3) := by decide +kernel
theorem dX4_step_8 : decode cX4_step 8 = .ok (.aload_n 0, 1) := by decide +kernel
theorem dX4_step_9 : decode cX4_step 9 = .ok (.getfield 22, 3) := by decide +kernel
theorem dX4_step_12 : decode cX4_step 12 = .ok (.aload_n 0, 1) := by decide +kernel
theorem dX4_step_13 : decode cX4_step 13 = .ok (.getfield 15, 3) := by decide +kernel
theorem dX4_step_16 : decode cX4_step 16 = .ok (.if_icmp .ge 30, 3) := by decide +kernel
theorem dX4_step_19 : decode cX4_step 19 = .ok (.aload_n 0, 1) := by decide +kernel
theorem dX4_step_20 : decode cX4_step 20 = .ok (.getfield 11, 3) := by decide +kernel
theorem dX4_step_23 : decode cX4_step 23 = .ok (.aload_n 0, 1) := by decide +kernel
theorem dX4_step_24 : decode cX4_step 24 = .ok (.getfield 22, 3) := by decide +kernel
theorem dX4_step_27 : decode cX4_step 27 = .ok (.baload, 1) := by decide +kernel
theorem dX4_step_28 : decode cX4_step 28 = .ok (.bipush 32, 2) := by decide +kernel
theorem dX4_step_30 : decode cX4_step 30 = .ok (.if_icmp .ne 16, 3) := by decide +kernel
theorem dX4_step_33 : decode cX4_step 33 = .ok (.aload_n 0, 1) := by decide +kernel
theorem dX4_step_34 : decode cX4_step 34 = .ok (.dup, 1) := by decide +kernel
theorem dX4_step_35 : decode cX4_step 35 = .ok (.getfield 22, 3) := by decide +kernel
theorem dX4_step_38 : decode cX4_step 38 = .ok (.iconst 1, 1) := by decide +kernel
theorem dX4_step_39 : decode cX4_step 39 = .ok (.iadd, 1) := by decide +kernel
theorem dX4_step_40 : decode cX4_step 40 = .ok (.putfield 22, 3) := by decide +kernel
theorem dX4_step_43 : decode cX4_step 43 = .ok (.goto (-35), 3) := by decide +kernel
theorem dX4_step_46 : decode cX4_step 46 = .ok (.aload_n 0, 1) := by decide +kernel
theorem dX4_step_47 : decode cX4_step 47 = .ok (.aload_n 0, 1) := by decide +kernel
theorem dX4_step_48 : decode cX4_step 48 = .ok (.getfield 22, 3) := by decide +kernel
theorem dX4_step_51 : decode cX4_step 51 = .ok (.putfield 25, 3) := by decide +kernel
theorem dX4_step_54 : decode cX4_step 54 = .ok (.aload_n 0, 1) := by decide +kernel
theorem dX4_step_55 : decode cX4_step 55 = .ok (.getfield 22, 3) := by decide +kernel
theorem dX4_step_58 : decode cX4_step 58 = .ok (.aload_n 0, 1) := by decide +kernel
theorem dX4_step_59 : decode cX4_step 59 = .ok (.getfield 15, 3) := by decide +kernel
theorem dX4_step_62 : decode cX4_step 62 = .ok (.if_icmp .lt 11, 3) := by decide +kernel
theorem dX4_step_65 : decode cX4_step 65 = .ok (.aload_n 0, 1) := by decide +kernel
theorem dX4_step_66 : decode cX4_step 66 = .ok (.iconst 0, 1) := by decide +kernel
theorem dX4_step_67 : decode cX4_step 67 = .ok (.putfield 19, 3) := by decide +kernel
theorem dX4_step_70 : decode cX4_step 70 = .ok (.goto 189, 3) := by decide +kernel
theorem dX4_step_73 : decode cX4_step 73 = .ok (.aload_n 0, 1) := by decide +kernel
theorem dX4_step_74 : decode cX4_step 74 = .ok (.getfield 11, 3) := by decide +kernel
theorem dX4_step_77 : decode cX4_step 77 = .ok (.aload_n 0, 1) := by decide +kernel
theorem dX4_step_78 : decode cX4_step 78 = .ok (.getfield 22, 3) := by decide +kernel
theorem dX4_step_81 : decode cX4_step 81 = .ok (.baload, 1) := by decide +kernel
theorem dX4_step_82 : decode cX4_step 82 = .ok (.invokestatic 126, 3) := by decide +kernel
theorem dX4_step_85 : decode cX4_step 85 = .ok (.ifCond .eq 47, 3) := by decide +kernel
theorem dX4_step_88 : decode cX4_step 88 = .ok (.aload_n 0, 1) := by decide +kernel
theorem dX4_step_89 : decode cX4_step 89 = .ok (.iconst 1, 1) := by decide +kernel
theorem dX4_step_90 : decode cX4_step 90 = .ok (.putfield 19, 3) := by decide +kernel
theorem dX4_step_93 : decode cX4_step 93 = .ok (.aload_n 0, 1) := by decide +kernel
theorem dX4_step_94 : decode cX4_step 94 = .ok (.getfield 25, 3) := by decide +kernel
theorem dX4_step_97 : decode cX4_step 97 = .ok (.aload_n 0, 1) := by decide +kernel
theorem dX4_step_98 : decode cX4_step 98 = .ok (.getfield 15, 3) := by decide +kernel
theorem dX4_step_101 : decode cX4_step 101 = .ok (.if_icmp .ge 158, 3) := by decide +kernel
theorem dX4_step_104 : decode cX4_step 104 = .ok (.aload_n 0, 1) := by decide +kernel
theorem dX4_step_105 : decode cX4_step 105 = .ok (.getfield 11, 3) := by decide +kernel
theorem dX4_step_108 : decode cX4_step 108 = .ok (.aload_n 0, 1) := by decide +kernel
theorem dX4_step_109 : decode cX4_step 109 = .ok (.getfield 25, 3) := by decide +kernel
theorem dX4_step_112 : decode cX4_step 112 = .ok (.baload, 1) := by decide +kernel
theorem dX4_step_113 : decode cX4_step 113 = .ok (.invokestatic 126, 3) := by decide +kernel
theorem dX4_step_116 : decode cX4_step 116 = .ok (.ifCond .eq 143, 3) := by decide +kernel
theorem dX4_step_119 : decode cX4_step 119 = .ok (.aload_n 0, 1) := by decide +kernel
theorem dX4_step_120 : decode cX4_step 120 = .ok (.dup, 1) := by decide +kernel
theorem dX4_step_121 : decode cX4_step 121 = .ok (.getfield 25, 3) := by decide +kernel
theorem dX4_step_124 : decode cX4_step 124 = .ok (.iconst 1, 1) := by decide +kernel
theorem dX4_step_125 : decode cX4_step 125 = .ok (.iadd, 1) := by decide +kernel
theorem dX4_step_126 : decode cX4_step 126 = .ok (.putfield 25, 3) := by decide +kernel
theorem dX4_step_129 : decode cX4_step 129 = .ok (.goto (-36), 3) := by decide +kernel
theorem dX4_step_132 : decode cX4_step 132 = .ok (.aload_n 0, 1) := by decide +kernel
theorem dX4_step_133 : decode cX4_step 133 = .ok (.getfield 11, 3) := by decide +kernel
theorem dX4_step_136 : decode cX4_step 136 = .ok (.aload_n 0, 1) := by decide +kernel
theorem dX4_step_137 : decode cX4_step 137 = .ok (.getfield 22, 3) := by decide +kernel
theorem dX4_step_140 : decode cX4_step 140 = .ok (.baload, 1) := by decide +kernel
theorem dX4_step_141 : decode cX4_step 141 = .ok (.invokestatic 130, 3) := by decide +kernel
theorem dX4_step_144 : decode cX4_step 144 = .ok (.ifCond .eq 82, 3) := by decide +kernel
theorem dX4_step_147 : decode cX4_step 147 = .ok (.aload_n 0, 1) := by decide +kernel
theorem dX4_step_148 : decode cX4_step 148 = .ok (.iconst 2, 1) := by decide +kernel
theorem dX4_step_149 : decode cX4_step 149 = .ok (.putfield 19, 3) := by decide +kernel
theorem dX4_step_152 : decode cX4_step 152 = .ok (.aload_n 0, 1) := by decide +kernel
theorem dX4_step_153 : decode cX4_step 153 = .ok (.iconst 0, 1) := by decide +kernel
theorem dX4_step_154 : decode cX4_step 154 = .ok (.putfield 28, 3) := by decide +kernel
theorem dX4_step_157 : decode cX4_step 157 = .ok (.aload_n 0, 1) := by decide +kernel
theorem dX4_step_158 : decode cX4_step 158 = .ok (.getfield 25, 3) := by decide +kernel
theorem dX4_step_161 : decode cX4_step 161 = .ok (.aload_n 0, 1) := by decide +kernel
theorem dX4_step_162 : decode cX4_step 162 = .ok (.getfield 15, 3) := by decide +kernel
theorem dX4_step_165 : decode cX4_step 165 = .ok (.if_icmp .ge 94, 3) := by decide +kernel
theorem dX4_step_168 : decode cX4_step 168 = .ok (.aload_n 0, 1) := by decide +kernel
theorem dX4_step_169 : decode cX4_step 169 = .ok (.getfield 11, 3) := by decide +kernel
theorem dX4_step_172 : decode cX4_step 172 = .ok (.aload_n 0, 1) := by decide +kernel
theorem dX4_step_173 : decode cX4_step 173 = .ok (.getfield 25, 3) := by decide +kernel
theorem dX4_step_176 : decode cX4_step 176 = .ok (.baload, 1) := by decide +kernel
theorem dX4_step_177 : decode cX4_step 177 = .ok (.invokestatic 130, 3) := by decide +kernel
theorem dX4_step_180 : decode cX4_step 180 = .ok (.ifCond .eq 79, 3) := by decide +kernel
theorem dX4_step_183 : decode cX4_step 183 = .ok (.aload_n 0, 1) := by decide +kernel
theorem dX4_step_184 : decode cX4_step 184 = .ok (.sipush 10000, 3) := by decide +kernel
theorem dX4_step_187 : decode cX4_step 187 = .ok (.bipush 10, 2) := by decide +kernel
theorem dX4_step_189 : decode cX4_step 189 = .ok (.aload_n 0, 1) := by decide +kernel
theorem dX4_step_190 : decode cX4_step 190 = .ok (.getfield 28, 3) := by decide +kernel
theorem dX4_step_193 : decode cX4_step 193 = .ok (.imul, 1) := by decide +kernel
theorem dX4_step_194 : decode cX4_step 194 = .ok (.aload_n 0, 1) := by decide +kernel
theorem dX4_step_195 : decode cX4_step 195 = .ok (.getfield 11, 3) := by decide +kernel
theorem dX4_step_198 : decode cX4_step 198 = .ok (.aload_n 0, 1) := by decide +kernel
theorem dX4_step_199 : decode cX4_step 199 = .ok (.getfield 25, 3) := by decide +kernel
theorem dX4_step_202 : decode cX4_step 202 = .ok (.baload, 1) := by decide +kernel
theorem dX4_step_203 : decode cX4_step 203 = .ok (.iadd, 1) := by decide +kernel
theorem dX4_step_204 : decode cX4_step 204 = .ok (.bipush 48, 2) := by decide +kernel
theorem dX4_step_206 : decode cX4_step 206 = .ok (.isub, 1) := by decide +kernel
theorem dX4_step_207 : decode cX4_step 207 = .ok (.invokestatic 133, 3) := by decide +kernel
theorem dX4_step_210 : decode cX4_step 210 = .ok (.putfield 28, 3) := by decide +kernel
theorem dX4_step_213 : decode cX4_step 213 = .ok (.aload_n 0, 1) := by decide +kernel
theorem dX4_step_214 : decode cX4_step 214 = .ok (.dup, 1) := by decide +kernel
theorem dX4_step_215 : decode cX4_step 215 = .ok (.getfield 25, 3) := by decide +kernel
theorem dX4_step_218 : decode cX4_step 218 = .ok (.iconst 1, 1) := by decide +kernel
theorem dX4_step_219 : decode cX4_step 219 = .ok (.iadd, 1) := by decide +kernel
theorem dX4_step_220 : decode cX4_step 220 = .ok (.putfield 25, 3) := by decide +kernel
theorem dX4_step_223 : decode cX4_step 223 = .ok (.goto (-66), 3) := by decide +kernel
theorem dX4_step_226 : decode cX4_step 226 = .ok (.aload_n 0, 1) := by decide +kernel
theorem dX4_step_227 : decode cX4_step 227 = .ok (.aload_n 0, 1) := by decide +kernel
theorem dX4_step_228 : decode cX4_step 228 = .ok (.getfield 11, 3) := by decide +kernel
theorem dX4_step_231 : decode cX4_step 231 = .ok (.aload_n 0, 1) := by decide +kernel
theorem dX4_step_232 : decode cX4_step 232 = .ok (.getfield 22, 3) := by decide +kernel
theorem dX4_step_235 : decode cX4_step 235 = .ok (.baload, 1) := by decide +kernel
theorem dX4_step_236 : decode cX4_step 236 = .ok (.bipush 59, 2) := by decide +kernel
theorem dX4_step_238 : decode cX4_step 238 = .ok (.if_icmp .ne 7, 3) := by decide +kernel
theorem dX4_step_241 : decode cX4_step 241 = .ok (.iconst 3, 1) := by decide +kernel
theorem dX4_step_242 : decode cX4_step 242 = .ok (.goto 4, 3) := by decide +kernel
theorem dX4_step_245 : decode cX4_step 245 = .ok (.iconst 4, 1) := by decide +kernel
theorem dX4_step_246 : decode cX4_step 246 = .ok (.putfield 19, 3) := by decide +kernel
theorem dX4_step_249 : decode cX4_step 249 = .ok (.aload_n 0, 1) := by decide +kernel
theorem dX4_step_250 : decode cX4_step 250 = .ok (.dup, 1) := by decide +kernel
theorem dX4_step_251 : decode cX4_step 251 = .ok (.getfield 25, 3) := by decide +kernel
theorem dX4_step_254 : decode cX4_step 254 = .ok (.iconst 1, 1) := by decide +kernel
theorem dX4_step_255 : decode cX4_step 255 = .ok (.iadd, 1) := by decide +kernel
theorem dX4_step_256 : decode cX4_step 256 = .ok (.putfield 25, 3) := by decide +kernel
theorem dX4_step_259 : decode cX4_step 259 = .ok (.return_, 1) := by decide +kernel
theorem dX4_isLetter_0 : decode cX4_isLetter 0 = .ok (.iload_n 0, 1) := by decide +kernel
theorem dX4_isLetter_1 : decode cX4_isLetter 1 = .ok (.bipush 97, 2) := by decide +kernel
theorem dX4_isLetter_3 : decode cX4_isLetter 3 = .ok (.if_icmp .lt 13, 3) := by decide +kernel
theorem dX4_isLetter_6 : decode cX4_isLetter 6 = .ok (.iload_n 0, 1) := by decide +kernel
theorem dX4_isLetter_7 : decode cX4_isLetter 7 = .ok (.bipush 122, 2) := by decide +kernel
theorem dX4_isLetter_9 : decode cX4_isLetter 9 = .ok (.if_icmp .gt 7, 3) := by decide +kernel
theorem dX4_isLetter_12 : decode cX4_isLetter 12 = .ok (.iconst 1, 1) := by decide +kernel
theorem dX4_isLetter_13 : decode cX4_isLetter 13 = .ok (.goto 4, 3) := by decide +kernel
theorem dX4_isLetter_16 : decode cX4_isLetter 16 = .ok (.iconst 0, 1) := by decide +kernel
theorem dX4_isLetter_17 : decode cX4_isLetter 17 = .ok (.ireturn, 1) := by decide +kernel
theorem dX4_isDigit_0 : decode cX4_isDigit 0 = .ok (.iload_n 0, 1) := by decide +kernel
theorem dX4_isDigit_1 : decode cX4_isDigit 1 = .ok (.bipush 48, 2) := by decide +kernel
theorem dX4_isDigit_3 : decode cX4_isDigit 3 = .ok (.if_icmp .lt 13, 3) := by decide +kernel
theorem dX4_isDigit_6 : decode cX4_isDigit 6 = .ok (.iload_n 0, 1) := by decide +kernel
theorem dX4_isDigit_7 : decode cX4_isDigit 7 = .ok (.bipush 57, 2) := by decide +kernel
theorem dX4_isDigit_9 : decode cX4_isDigit 9 = .ok (.if_icmp .gt 7, 3) := by decide +kernel
theorem dX4_isDigit_12 : decode cX4_isDigit 12 = .ok (.iconst 1, 1) := by decide +kernel
theorem dX4_isDigit_13 : decode cX4_isDigit 13 = .ok (.goto 4, 3) := by decide +kernel
theorem dX4_isDigit_16 : decode cX4_isDigit 16 = .ok (.iconst 0, 1) := by decide +kernel
theorem dX4_isDigit_17 : decode cX4_isDigit 17 = .ok (.ireturn, 1) := by decide +kernel
theorem dX4_wordOf_0 : decode cX4_wordOf 0 = .ok (.iload_n 0, 1) := by decide +kernel
theorem dX4_wordOf_1 : decode cX4_wordOf 1 = .ok (.tableswitch 57 1 6 #[39, 42, 45, 48, 51, 54], 39) := by decide +kernel
theorem dX4_wordOf_40 : decode cX4_wordOf 40 = .ok (.ldc 138, 2) := by decide +kernel
theorem dX4_wordOf_42 : decode cX4_wordOf 42 = .ok (.areturn, 1) := by decide +kernel
theorem dX4_wordOf_43 : decode cX4_wordOf 43 = .ok (.ldc 140, 2) := by decide +kernel
theorem dX4_wordOf_45 : decode cX4_wordOf 45 = .ok (.areturn, 1) := by decide +kernel
theorem dX4_wordOf_46 : decode cX4_wordOf 46 = .ok (.ldc 142, 2) := by decide +kernel
theorem dX4_wordOf_48 : decode cX4_wordOf 48 = .ok (.areturn, 1) := by decide +kernel
theorem dX4_wordOf_49 : decode cX4_wordOf 49 = .ok (.ldc 144, 2) := by decide +kernel
theorem dX4_wordOf_51 : decode cX4_wordOf 51 = .ok (.areturn, 1) := by decide +kernel
theorem dX4_wordOf_52 : decode cX4_wordOf 52 = .ok (.ldc 146, 2) := by decide +kernel
theorem dX4_wordOf_54 : decode cX4_wordOf 54 = .ok (.areturn, 1) := by decide +kernel
theorem dX4_wordOf_55 : decode cX4_wordOf 55 = .ok (.ldc 148, 2) := by decide +kernel
theorem dX4_wordOf_57 : decode cX4_wordOf 57 = .ok (.areturn, 1) := by decide +kernel
theorem dX4_wordOf_58 : decode cX4_wordOf 58 = .ok (.ldc 150, 2) := by decide +kernel
theorem dX4_wordOf_60 : decode cX4_wordOf 60 = .ok (.areturn, 1) := by decide +kernel
theorem dJ6_bitCount_0f7a4_0 : decode cJ6_bitCount_0f7a4 0 = .ok (.iload_n 0, 1) := by decide +kernel
theorem dJ6_bitCount_0f7a4_1 : decode cJ6_bitCount_0f7a4 1 = .ok (.iload_n 0, 1) := by decide +kernel
theorem dJ6_bitCount_0f7a4_2 : decode cJ6_bitCount_0f7a4 2 = .ok (.iconst 1, 1) := by decide +kernel
theorem dJ6_bitCount_0f7a4_3 : decode cJ6_bitCount_0f7a4 3 = .ok (.iushr, 1) := by decide +kernel
theorem dJ6_bitCount_0f7a4_4 : decode cJ6_bitCount_0f7a4 4 = .ok (.ldc_w 265, 3) := by decide +kernel
theorem dJ6_bitCount_0f7a4_7 : decode cJ6_bitCount_0f7a4 7 = .ok (.iand, 1) := by decide +kernel
theorem dJ6_bitCount_0f7a4_8 : decode cJ6_bitCount_0f7a4 8 = .ok (.isub, 1) := by decide +kernel
theorem dJ6_bitCount_0f7a4_9 : decode cJ6_bitCount_0f7a4 9 = .ok (.istore_n 0, 1) := by decide +kernel
theorem dJ6_bitCount_0f7a4_10 : decode cJ6_bitCount_0f7a4 10 = .ok (.iload_n 0, 1) := by decide +kernel
theorem dJ6_bitCount_0f7a4_11 : decode cJ6_bitCount_0f7a4 11 = .ok (.ldc_w 266, 3) := by decide +kernel
theorem dJ6_bitCount_0f7a4_14 : decode cJ6_bitCount_0f7a4 14 = .ok (.iand, 1) := by decide +kernel
theorem dJ6_bitCount_0f7a4_15 : decode cJ6_bitCount_0f7a4 15 = .ok (.iload_n 0, 1) := by decide +kernel
theorem dJ6_bitCount_0f7a4_16 : decode cJ6_bitCount_0f7a4 16 = .ok (.iconst 2, 1) := by decide +kernel
theorem dJ6_bitCount_0f7a4_17 : decode cJ6_bitCount_0f7a4 17 = .ok (.iushr, 1) := by decide +kernel
theorem dJ6_bitCount_0f7a4_18 : decode cJ6_bitCount_0f7a4 18 = .ok (.ldc_w 266, 3) := by decide +kernel
theorem dJ6_bitCount_0f7a4_21 : decode cJ6_bitCount_0f7a4 21 = .ok (.iand, 1) := by decide +kernel
theorem dJ6_bitCount_0f7a4_22 : decode cJ6_bitCount_0f7a4 22 = .ok (.iadd, 1) := by decide +kernel
theorem dJ6_bitCount_0f7a4_23 : decode cJ6_bitCount_0f7a4 23 = .ok (.istore_n 0, 1) := by decide +kernel
theorem dJ6_bitCount_0f7a4_24 : decode cJ6_bitCount_0f7a4 24 = .ok (.iload_n 0, 1) := by decide +kernel
theorem dJ6_bitCount_0f7a4_25 : decode cJ6_bitCount_0f7a4 25 = .ok (.iload_n 0, 1) := by decide +kernel
theorem dJ6_bitCount_0f7a4_26 : decode cJ6_bitCount_0f7a4 26 = .ok (.iconst 4, 1) := by decide +kernel
theorem dJ6_bitCount_0f7a4_27 : decode cJ6_bitCount_0f7a4 27 = .ok (.iushr, 1) := by decide +kernel
theorem dJ6_bitCount_0f7a4_28 : decode cJ6_bitCount_0f7a4 28 = .ok (.iadd, 1) := by decide +kernel
theorem dJ6_bitCount_0f7a4_29 : decode cJ6_bitCount_0f7a4 29 = .ok (.ldc_w 267, 3) := by decide +kernel
theorem dJ6_bitCount_0f7a4_32 : decode cJ6_bitCount_0f7a4 32 = .ok (.iand, 1) := by decide +kernel
theorem dJ6_bitCount_0f7a4_33 : decode cJ6_bitCount_0f7a4 33 = .ok (.istore_n 0, 1) := by decide +kernel
theorem dJ6_bitCount_0f7a4_34 : decode cJ6_bitCount_0f7a4 34 = .ok (.iload_n 0, 1) := by decide +kernel
theorem dJ6_bitCount_0f7a4_35 : decode cJ6_bitCount_0f7a4 35 = .ok (.iload_n 0, 1) := by decide +kernel
theorem dJ6_bitCount_0f7a4_36 : decode cJ6_bitCount_0f7a4 36 = .ok (.bipush 8, 2) := by decide +kernel
theorem dJ6_bitCount_0f7a4_38 : decode cJ6_bitCount_0f7a4 38 = .ok (.iushr, 1) := by decide +kernel
theorem dJ6_bitCount_0f7a4_39 : decode cJ6_bitCount_0f7a4 39 = .ok (.iadd, 1) := by decide +kernel
theorem dJ6_bitCount_0f7a4_40 : decode cJ6_bitCount_0f7a4 40 = .ok (.istore_n 0, 1) := by decide +kernel
theorem dJ6_bitCount_0f7a4_41 : decode cJ6_bitCount_0f7a4 41 = .ok (.iload_n 0, 1) := by decide +kernel
theorem dJ6_bitCount_0f7a4_42 : decode cJ6_bitCount_0f7a4 42 = .ok (.iload_n 0, 1) := by decide +kernel
theorem dJ6_bitCount_0f7a4_43 : decode cJ6_bitCount_0f7a4 43 = .ok (.bipush 16, 2) := by decide +kernel
theorem dJ6_bitCount_0f7a4_45 : decode cJ6_bitCount_0f7a4 45 = .ok (.iushr, 1) := by decide +kernel
theorem dJ6_bitCount_0f7a4_46 : decode cJ6_bitCount_0f7a4 46 = .ok (.iadd, 1) := by decide +kernel
theorem dJ6_bitCount_0f7a4_47 : decode cJ6_bitCount_0f7a4 47 = .ok (.istore_n 0, 1) := by decide +kernel
theorem dJ6_bitCount_0f7a4_48 : decode cJ6_bitCount_0f7a4 48 = .ok (.iload_n 0, 1) := by decide +kernel
theorem dJ6_bitCount_0f7a4_49 : decode cJ6_bitCount_0f7a4 49 = .ok (.bipush 63, 2) := by decide +kernel
theorem dJ6_bitCount_0f7a4_51 : decode cJ6_bitCount_0f7a4 51 = .ok (.iand, 1) := by decide +kernel
theorem dJ6_bitCount_0f7a4_52 : decode cJ6_bitCount_0f7a4 52 = .ok (.ireturn, 1) := by decide +kernel
theorem dJ0_length_8abf5_0 : decode cJ0_length_8abf5 0 = .ok (.aload_n 0, 1) := by decide +kernel
theorem dJ0_length_8abf5_1 : decode cJ0_length_8abf5 1 = .ok (.getfield 9, 3) := by decide +kernel
theorem dJ0_length_8abf5_4 : decode cJ0_length_8abf5 4 = .ok (.arraylength, 1) := by decide +kernel
theorem dJ0_length_8abf5_5 : decode cJ0_length_8abf5 5 = .ok (.aload_n 0, 1) := by decide +kernel
theorem dJ0_length_8abf5_6 : decode cJ0_length_8abf5 6 = .ok (.invokevirtual 335, 3) := by decide +kernel
theorem dJ0_length_8abf5_9 : decode cJ0_length_8abf5 9 = .ok (.ishr, 1) := by decide +kernel
theorem dJ0_length_8abf5_10 : decode cJ0_length_8abf5 10 = .ok (.ireturn, 1) := by decide +kernel
theorem dJ0_charAt_5068e_0 : decode cJ0_charAt_5068e 0 = .ok (.aload_n 0, 1) := by decide +kernel
theorem dJ0_charAt_5068e_1 : decode cJ0_charAt_5068e 1 = .ok (.invokevirtual 492, 3) := by decide +kernel
theorem dJ0_charAt_5068e_4 : decode cJ0_charAt_5068e 4 = .ok (.ifCond .eq 12, 3) := by decide +kernel
theorem dJ0_charAt_5068e_7 : decode cJ0_charAt_5068e 7 = .ok (.aload_n 0, 1) := by decide +kernel
theorem dJ0_charAt_5068e_8 : decode cJ0_charAt_5068e 8 = .ok (.getfield 9, 3) := by decide +kernel
theorem dJ0_charAt_5068e_11 : decode cJ0_charAt_5068e 11 = .ok (.iload_n 1, 1) := by decide +kernel
theorem dJ0_charAt_5068e_12 : decode cJ0_charAt_5068e 12 = .ok (.invokestatic 495, 3) := by decide +kernel
theorem dJ0_charAt_5068e_15 : decode cJ0_charAt_5068e 15 = .ok (.ireturn, 1) := by decide +kernel
theorem dJ0_charAt_5068e_16 : decode cJ0_charAt_5068e 16 = .ok (.aload_n 0, 1) := by decide +kernel
theorem dJ0_charAt_5068e_17 : decode cJ0_charAt_5068e 17 = .ok (.getfield 9, 3) := by decide +kernel
theorem dJ0_charAt_5068e_20 : decode cJ0_charAt_5068e 20 = .ok (.iload_n 1, 1) := by decide +kernel
theorem dJ0_charAt_5068e_21 : decode cJ0_charAt_5068e 21 = .ok (.invokestatic 498, 3) := by decide +kernel
theorem dJ0_charAt_5068e_24 : decode cJ0_charAt_5068e 24 = .ok (.ireturn, 1) := by decide +kernel
theorem dJ0_coder_7d493_0 : decode cJ0_coder_7d493 0 = .ok (.getstatic 38, 3) := by decide +kernel
theorem dJ0_coder_7d493_3 : decode cJ0_coder_7d493 3 = .ok (.ifCond .eq 10, 3) := by decide +kernel
theorem dJ0_coder_7d493_6 : decode cJ0_coder_7d493 6 = .ok (.aload_n 0, 1) := by decide +kernel
theorem dJ0_coder_7d493_7 : decode cJ0_coder_7d493 7 = .ok (.getfield 15, 3) := by decide +kernel
theorem dJ0_coder_7d493_10 : decode cJ0_coder_7d493 10 = .ok (.goto 4, 3) := by decide +kernel
theorem dJ0_coder_7d493_13 : decode cJ0_coder_7d493 13 = .ok (.iconst 1, 1) := by decide +kernel
theorem dJ0_coder_7d493_14 : decode cJ0_coder_7d493 14 = .ok (.ireturn, 1) := by decide +kernel
theorem dJ0_isLatin1_aae02_0 : decode cJ0_isLatin1_aae02 0 = .ok (.getstatic 38, 3) := by decide +kernel
theorem dJ0_isLatin1_aae02_3 : decode cJ0_isLatin1_aae02 3 = .ok (.ifCond .eq 14, 3) := by decide +kernel
theorem dJ0_isLatin1_aae02_6 : decode cJ0_isLatin1_aae02 6 = .ok (.aload_n 0, 1) := by decide +kernel
theorem dJ0_isLatin1_aae02_7 : decode cJ0_isLatin1_aae02 7 = .ok (.getfield 15, 3) := by decide +kernel
theorem dJ0_isLatin1_aae02_10 : decode cJ0_isLatin1_aae02 10 = .ok (.ifCond .ne 7, 3) := by decide +kernel
theorem dJ0_isLatin1_aae02_13 : decode cJ0_isLatin1_aae02 13 = .ok (.iconst 1, 1) := by decide +kernel
theorem dJ0_isLatin1_aae02_14 : decode cJ0_isLatin1_aae02 14 = .ok (.goto 4, 3) := by decide +kernel
theorem dJ0_isLatin1_aae02_17 : decode cJ0_isLatin1_aae02 17 = .ok (.iconst 0, 1) := by decide +kernel
theorem dJ0_isLatin1_aae02_18 : decode cJ0_isLatin1_aae02 18 = .ok (.ireturn, 1) := by decide +kernel
theorem dJ0_checkIndex_df160_0 : decode cJ0_checkIndex_df160 0 = .ok (.iload_n 0, 1) := by decide +kernel
theorem dJ0_checkIndex_df160_1 : decode cJ0_checkIndex_df160 1 = .ok (.iload_n 1, 1) := by decide +kernel
theorem dJ0_checkIndex_df160_2 : decode cJ0_checkIndex_df160 2 = .ok (.getstatic 1053, 3) := by decide +kernel
theorem dJ0_checkIndex_df160_5 : decode cJ0_checkIndex_df160 5 = .ok (.invokestatic 1059, 3) := by decide +kernel
theorem dJ0_checkIndex_df160_8 : decode cJ0_checkIndex_df160 8 = .ok (.pop, 1) := by decide +kernel
theorem dJ0_checkIndex_df160_9 : decode cJ0_checkIndex_df160 9 = .ok (.return_, 1) := by decide +kernel
theorem dJ1_charAt_3b067_0 : decode cJ1_charAt_3b067 0 = .ok (.iload_n 1, 1) := by decide +kernel
theorem dJ1_charAt_3b067_1 : decode cJ1_charAt_3b067 1 = .ok (.aload_n 0, 1) := by decide +kernel
theorem dJ1_charAt_3b067_2 : decode cJ1_charAt_3b067 2 = .ok (.arraylength, 1) := by decide +kernel
theorem dJ1_charAt_3b067_3 : decode cJ1_charAt_3b067 3 = .ok (.invokestatic 9, 3) := by decide +kernel
theorem dJ1_charAt_3b067_6 : decode cJ1_charAt_3b067 6 = .ok (.aload_n 0, 1) := by decide +kernel
theorem dJ1_charAt_3b067_7 : decode cJ1_charAt_3b067 7 = .ok (.iload_n 1, 1) := by decide +kernel
theorem dJ1_charAt_3b067_8 : decode cJ1_charAt_3b067 8 = .ok (.baload, 1) := by decide +kernel
theorem dJ1_charAt_3b067_9 : decode cJ1_charAt_3b067 9 = .ok (.sipush 255, 3) := by decide +kernel
theorem dJ1_charAt_3b067_12 : decode cJ1_charAt_3b067 12 = .ok (.iand, 1) := by decide +kernel
theorem dJ1_charAt_3b067_13 : decode cJ1_charAt_3b067 13 = .ok (.i2c, 1) := by decide +kernel
theorem dJ1_charAt_3b067_14 : decode cJ1_charAt_3b067 14 = .ok (.ireturn, 1) := by decide +kernel
theorem dJ7_fill_53178_0 : decode cJ7_fill_53178 0 = .ok (.iconst 0, 1) := by decide +kernel
theorem dJ7_fill_53178_1 : decode cJ7_fill_53178 1 = .ok (.istore_n 2, 1) := by decide +kernel
theorem dJ7_fill_53178_2 : decode cJ7_fill_53178 2 = .ok (.aload_n 0, 1) := by decide +kernel
theorem dJ7_fill_53178_3 : decode cJ7_fill_53178 3 = .ok (.arraylength, 1) := by decide +kernel
theorem dJ7_fill_53178_4 : decode cJ7_fill_53178 4 = .ok (.istore_n 3, 1) := by decide +kernel
theorem dJ7_fill_53178_5 : decode cJ7_fill_53178 5 = .ok (.iload_n 2, 1) := by decide +kernel
theorem dJ7_fill_53178_6 : decode cJ7_fill_53178 6 = .ok (.iload_n 3, 1) := by decide +kernel
theorem dJ7_fill_53178_7 : decode cJ7_fill_53178 7 = .ok (.if_icmp .ge 13, 3) := by decide +kernel
theorem dJ7_fill_53178_10 : decode cJ7_fill_53178 10 = .ok (.aload_n 0, 1) := by decide +kernel
theorem dJ7_fill_53178_11 : decode cJ7_fill_53178 11 = .ok (.iload_n 2, 1) := by decide +kernel
theorem dJ7_fill_53178_12 : decode cJ7_fill_53178 12 = .ok (.iload_n 1, 1) := by decide +kernel
theorem dJ7_fill_53178_13 : decode cJ7_fill_53178 13 = .ok (.iastore, 1) := by decide +kernel
theorem dJ7_fill_53178_14 : decode cJ7_fill_53178 14 = .ok (.iinc 2 1, 3) := by decide +kernel
theorem dJ7_fill_53178_17 : decode cJ7_fill_53178 17 = .ok (.goto (-12), 3) := by decide +kernel
theorem dJ7_fill_53178_20 : decode cJ7_fill_53178 20 = .ok (.return_, 1) := by decide +kernel
theorem dJ3_checkIndex_8e157_0 : decode cJ3_checkIndex_8e157 0 = .ok (.iload_n 0, 1) := by decide +kernel
theorem dJ3_checkIndex_8e157_1 : decode cJ3_checkIndex_8e157 1 = .ok (.ifCond .lt 8, 3) := by decide +kernel
theorem dJ3_checkIndex_8e157_4 : decode cJ3_checkIndex_8e157 4 = .ok (.iload_n 0, 1) := by decide +kernel
theorem dJ3_checkIndex_8e157_5 : decode cJ3_checkIndex_8e157 5 = .ok (.iload_n 1, 1) := by decide +kernel
theorem dJ3_checkIndex_8e157_6 : decode cJ3_checkIndex_8e157 6 = .ok (.if_icmp .lt 10, 3) := by decide +kernel
theorem dJ3_checkIndex_8e157_9 : decode cJ3_checkIndex_8e157 9 = .ok (.aload_n 2, 1) := by decide +kernel
theorem dJ3_checkIndex_8e157_10 : decode cJ3_checkIndex_8e157 10 = .ok (.iload_n 0, 1) := by decide +kernel
theorem dJ3_checkIndex_8e157_11 : decode cJ3_checkIndex_8e157 11 = .ok (.iload_n 1, 1) := by decide +kernel
theorem dJ3_checkIndex_8e157_12 : decode cJ3_checkIndex_8e157 12 = .ok (.invokestatic 95, 3) := by decide +kernel
theorem dJ3_checkIndex_8e157_15 : decode cJ3_checkIndex_8e157 15 = .ok (.athrow, 1) := by decide +kernel
theorem dJ3_checkIndex_8e157_16 : decode cJ3_checkIndex_8e157 16 = .ok (.iload_n 0, 1) := by decide +kernel
theorem dJ3_checkIndex_8e157_17 : decode cJ3_checkIndex_8e157 17 = .ok (.ireturn, 1) := by decide +kernel
