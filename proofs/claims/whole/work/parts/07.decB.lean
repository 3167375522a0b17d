theorem dX5_init_0 : decode cX5_init 0 = .ok (.aload_n 0, 1) := by decide +kernel
theorem dX5_init_1 : decode cX5_init 1 = .ok (.invokespecial 1, 3) := by decide +kernel
theorem dX5_init_4 : decode cX5_init 4 = .ok (.aload_n 0, 1) := by decide +kernel
theorem dX5_init_5 : decode cX5_init 5 = .ok (.new 7, 3) := by decide +kernel
theorem dX5_init_8 : decode cX5_init 8 = .ok (.dup, 1) := by decide +kernel
theorem dX5_init_9 : decode cX5_init 9 = .ok (.invokespecial 9, 3) := by decide +kernel
theorem dX5_init_12 : decode cX5_init 12 = .ok (.putfield 10, 3) := by decide +kernel
theorem dX5_init_15 : decode cX5_init 15 = .ok (.aload_n 0, 1) := by decide +kernel
theorem dX5_init_16 : decode cX5_init 16 = .ok (.new 7, 3) := by decide +kernel
theorem dX5_init_19 : decode cX5_init 19 = .ok (.dup, 1) := by decide +kernel
theorem dX5_init_20 : decode cX5_init 20 = .ok (.invokespecial 9, 3) := by decide +kernel
theorem dX5_init_23 : decode cX5_init 23 = .ok (.putfield 16, 3) := by decide +kernel
theorem dX5_init_26 : decode cX5_init 26 = .ok (.aload_n 0, 1) := by decide +kernel
theorem dX5_init_27 : decode cX5_init 27 = .ok (.new 7, 3) := by decide +kernel
theorem dX5_init_30 : decode cX5_init 30 = .ok (.dup, 1) := by decide +kernel
theorem dX5_init_31 : decode cX5_init 31 = .ok (.invokespecial 9, 3) := by decide +kernel
theorem dX5_init_34 : decode cX5_init 34 = .ok (.putfield 19, 3) := by decide +kernel
theorem dX5_init_37 : decode cX5_init 37 = .ok (.aload_n 0, 1) := by decide +kernel
theorem dX5_init_38 : decode cX5_init 38 = .ok (.new 22, 3) := by decide +kernel
theorem dX5_init_41 : decode cX5_init 41 = .ok (.dup, 1) := by decide +kernel
theorem dX5_init_42 : decode cX5_init 42 = .ok (.invokespecial 24, 3) := by decide +kernel
theorem dX5_init_45 : decode cX5_init 45 = .ok (.putfield 25, 3) := by decide +kernel
theorem dX5_init_48 : decode cX5_init 48 = .ok (.aload_n 0, 1) := by decide +kernel
theorem dX5_init_49 : decode cX5_init 49 = .ok (.iconst 4, 1) := by decide +kernel
theorem dX5_init_50 : decode cX5_init 50 = .ok (.anewarray 29, 3) := by decide +kernel
theorem dX5_init_53 : decode cX5_init 53 = .ok (.putfield 31, 3) := by decide +kernel
theorem dX5_init_56 : decode cX5_init 56 = .ok (.iconst 0, 1) := by decide +kernel
theorem dX5_init_57 : decode cX5_init 57 = .ok (.istore_n 1, 1) := by decide +kernel
theorem dX5_init_58 : decode cX5_init 58 = .ok (.iload_n 1, 1) := by decide +kernel
theorem dX5_init_59 : decode cX5_init 59 = .ok (.iconst 4, 1) := by decide +kernel
theorem dX5_init_60 : decode cX5_init 60 = .ok (.if_icmp .ge 22, 3) := by decide +kernel
theorem dX5_init_63 : decode cX5_init 63 = .ok (.aload_n 0, 1) := by decide +kernel
theorem dX5_init_64 : decode cX5_init 64 = .ok (.getfield 31, 3) := by decide +kernel
theorem dX5_init_67 : decode cX5_init 67 = .ok (.iload_n 1, 1) := by decide +kernel
theorem dX5_init_68 : decode cX5_init 68 = .ok (.new 29, 3) := by decide +kernel
theorem dX5_init_71 : decode cX5_init 71 = .ok (.dup, 1) := by decide +kernel
theorem dX5_init_72 : decode cX5_init 72 = .ok (.invokespecial 35, 3) := by decide +kernel
theorem dX5_init_75 : decode cX5_init 75 = .ok (.aastore, 1) := by decide +kernel
theorem dX5_init_76 : decode cX5_init 76 = .ok (.iinc 1 1, 3) := by decide +kernel
theorem dX5_init_79 : decode cX5_init 79 = .ok (.goto (-21), 3) := by decide +kernel
theorem dX5_init_82 : decode cX5_init 82 = .ok (.aload_n 0, 1) := by decide +kernel
theorem dX5_init_83 : decode cX5_init 83 = .ok (.bipush 7, 2) := by decide +kernel
theorem dX5_init_85 : decode cX5_init 85 = .ok (.newarray .int, 2) := by decide +kernel
theorem dX5_init_87 : decode cX5_init 87 = .ok (.putfield 36, 3) := by decide +kernel
theorem dX5_init_90 : decode cX5_init 90 = .ok (.aload_n 0, 1) := by decide +kernel
theorem dX5_init_91 : decode cX5_init 91 = .ok (.iconst 0, 1) := by decide +kernel
theorem dX5_init_92 : decode cX5_init 92 = .ok (.putfield 40, 3) := by decide +kernel
theorem dX5_init_95 : decode cX5_init 95 = .ok (.return_, 1) := by decide +kernel
theorem dX5_fog_0 : decode cX5_fog 0 = .ok (.iload_n 1, 1) := by decide +kernel
theorem dX5_fog_1 : decode cX5_fog 1 = .ok (.iconst 5, 1) := by decide +kernel
theorem dX5_fog_2 : decode cX5_fog 2 = .ok (.invokestatic 44, 3) := by decide +kernel
theorem dX5_fog_5 : decode cX5_fog 5 = .ok (.ifCond .eq 12, 3) := by decide +kernel
theorem dX5_fog_8 : decode cX5_fog 8 = .ok (.iload_n 2, 1) := by decide +kernel
theorem dX5_fog_9 : decode cX5_fog 9 = .ok (.bipush 9, 2) := by decide +kernel
theorem dX5_fog_11 : decode cX5_fog 11 = .ok (.invokestatic 44, 3) := by decide +kernel
theorem dX5_fog_14 : decode cX5_fog 14 = .ok (.ifCond .ne 9, 3) := by decide +kernel
theorem dX5_fog_17 : decode cX5_fog 17 = .ok (.aload_n 0, 1) := by decide +kernel
theorem dX5_fog_18 : decode cX5_fog 18 = .ok (.iconst 0, 1) := by decide +kernel
theorem dX5_fog_19 : decode cX5_fog 19 = .ok (.invokevirtual 48, 3) := by decide +kernel
theorem dX5_fog_22 : decode cX5_fog 22 = .ok (.ireturn, 1) := by decide +kernel
theorem dX5_fog_23 : decode cX5_fog 23 = .ok (.aload_n 0, 1) := by decide +kernel
theorem dX5_fog_24 : decode cX5_fog 24 = .ok (.getfield 10, 3) := by decide +kernel
theorem dX5_fog_27 : decode cX5_fog 27 = .ok (.getfield 52, 3) := by decide +kernel
theorem dX5_fog_30 : decode cX5_fog 30 = .ok (.iload_n 1, 1) := by decide +kernel
theorem dX5_fog_31 : decode cX5_fog 31 = .ok (.iaload, 1) := by decide +kernel
theorem dX5_fog_32 : decode cX5_fog 32 = .ok (.istore_n 3, 1) := by decide +kernel
theorem dX5_fog_33 : decode cX5_fog 33 = .ok (.aload_n 0, 1) := by decide +kernel
theorem dX5_fog_34 : decode cX5_fog 34 = .ok (.getfield 10, 3) := by decide +kernel
theorem dX5_fog_37 : decode cX5_fog 37 = .ok (.getfield 52, 3) := by decide +kernel
theorem dX5_fog_40 : decode cX5_fog 40 = .ok (.iload_n 1, 1) := by decide +kernel
theorem dX5_fog_41 : decode cX5_fog 41 = .ok (.iload_n 2, 1) := by decide +kernel
theorem dX5_fog_42 : decode cX5_fog 42 = .ok (.iastore, 1) := by decide +kernel
theorem dX5_fog_43 : decode cX5_fog 43 = .ok (.iload_n 3, 1) := by decide +kernel
theorem dX5_fog_44 : decode cX5_fog 44 = .ok (.ireturn, 1) := by decide +kernel
theorem dX5_listed_0 : decode cX5_listed 0 = .ok (.iload_n 1, 1) := by decide +kernel
theorem dX5_listed_1 : decode cX5_listed 1 = .ok (.iconst 5, 1) := by decide +kernel
theorem dX5_listed_2 : decode cX5_listed 2 = .ok (.invokestatic 44, 3) := by decide +kernel
theorem dX5_listed_5 : decode cX5_listed 5 = .ok (.ifCond .ne 9, 3) := by decide +kernel
theorem dX5_listed_8 : decode cX5_listed 8 = .ok (.aload_n 0, 1) := by decide +kernel
theorem dX5_listed_9 : decode cX5_listed 9 = .ok (.iconst 0, 1) := by decide +kernel
theorem dX5_listed_10 : decode cX5_listed 10 = .ok (.invokevirtual 48, 3) := by decide +kernel
theorem dX5_listed_13 : decode cX5_listed 13 = .ok (.ireturn, 1) := by decide +kernel
theorem dX5_listed_14 : decode cX5_listed 14 = .ok (.aload_n 0, 1) := by decide +kernel
theorem dX5_listed_15 : decode cX5_listed 15 = .ok (.getfield 10, 3) := by decide +kernel
theorem dX5_listed_18 : decode cX5_listed 18 = .ok (.getfield 52, 3) := by decide +kernel
theorem dX5_listed_21 : decode cX5_listed 21 = .ok (.iload_n 1, 1) := by decide +kernel
theorem dX5_listed_22 : decode cX5_listed 22 = .ok (.iaload, 1) := by decide +kernel
theorem dX5_listed_23 : decode cX5_listed 23 = .ok (.ireturn, 1) := by decide +kernel
theorem dX5_keeper_0 : decode cX5_keeper 0 = .ok (.iload_n 1, 1) := by decide +kernel
theorem dX5_keeper_1 : decode cX5_keeper 1 = .ok (.bipush 6, 2) := by decide +kernel
theorem dX5_keeper_3 : decode cX5_keeper 3 = .ok (.invokestatic 44, 3) := by decide +kernel
theorem dX5_keeper_6 : decode cX5_keeper 6 = .ok (.ifCond .eq 12, 3) := by decide +kernel
theorem dX5_keeper_9 : decode cX5_keeper 9 = .ok (.iload_n 2, 1) := by decide +kernel
theorem dX5_keeper_10 : decode cX5_keeper 10 = .ok (.bipush 15, 2) := by decide +kernel
theorem dX5_keeper_12 : decode cX5_keeper 12 = .ok (.invokestatic 44, 3) := by decide +kernel
theorem dX5_keeper_15 : decode cX5_keeper 15 = .ok (.ifCond .ne 9, 3) := by decide +kernel
theorem dX5_keeper_18 : decode cX5_keeper 18 = .ok (.aload_n 0, 1) := by decide +kernel
theorem dX5_keeper_19 : decode cX5_keeper 19 = .ok (.iconst 0, 1) := by decide +kernel
theorem dX5_keeper_20 : decode cX5_keeper 20 = .ok (.invokevirtual 48, 3) := by decide +kernel
theorem dX5_keeper_23 : decode cX5_keeper 23 = .ok (.ireturn, 1) := by decide +kernel
theorem dX5_keeper_24 : decode cX5_keeper 24 = .ok (.aload_n 0, 1) := by decide +kernel
theorem dX5_keeper_25 : decode cX5_keeper 25 = .ok (.getfield 10, 3) := by decide +kernel
theorem dX5_keeper_28 : decode cX5_keeper 28 = .ok (.invokevirtual 55, 3) := by decide +kernel
theorem dX5_keeper_31 : decode cX5_keeper 31 = .ok (.ifCond .eq 9, 3) := by decide +kernel
theorem dX5_keeper_34 : decode cX5_keeper 34 = .ok (.aload_n 0, 1) := by decide +kernel
theorem dX5_keeper_35 : decode cX5_keeper 35 = .ok (.iconst 1, 1) := by decide +kernel
theorem dX5_keeper_36 : decode cX5_keeper 36 = .ok (.invokevirtual 48, 3) := by decide +kernel
theorem dX5_keeper_39 : decode cX5_keeper 39 = .ok (.ireturn, 1) := by decide +kernel
theorem dX5_keeper_40 : decode cX5_keeper 40 = .ok (.aload_n 0, 1) := by decide +kernel
theorem dX5_keeper_41 : decode cX5_keeper 41 = .ok (.getfield 10, 3) := by decide +kernel
theorem dX5_keeper_44 : decode cX5_keeper 44 = .ok (.iload_n 1, 1) := by decide +kernel
theorem dX5_keeper_45 : decode cX5_keeper 45 = .ok (.iload_n 2, 1) := by decide +kernel
theorem dX5_keeper_46 : decode cX5_keeper 46 = .ok (.invokevirtual 59, 3) := by decide +kernel
theorem dX5_keeper_49 : decode cX5_keeper 49 = .ok (.ireturn, 1) := by decide +kernel
theorem dX5_child_0 : decode cX5_child 0 = .ok (.iload_n 1, 1) := by decide +kernel
theorem dX5_child_1 : decode cX5_child 1 = .ok (.bipush 15, 2) := by decide +kernel
theorem dX5_child_3 : decode cX5_child 3 = .ok (.invokestatic 44, 3) := by decide +kernel
theorem dX5_child_6 : decode cX5_child 6 = .ok (.ifCond .eq 12, 3) := by decide +kernel
theorem dX5_child_9 : decode cX5_child 9 = .ok (.iload_n 2, 1) := by decide +kernel
theorem dX5_child_10 : decode cX5_child 10 = .ok (.bipush 9, 2) := by decide +kernel
theorem dX5_child_12 : decode cX5_child 12 = .ok (.invokestatic 44, 3) := by decide +kernel
theorem dX5_child_15 : decode cX5_child 15 = .ok (.ifCond .ne 9, 3) := by decide +kernel
theorem dX5_child_18 : decode cX5_child 18 = .ok (.aload_n 0, 1) := by decide +kernel
theorem dX5_child_19 : decode cX5_child 19 = .ok (.iconst 0, 1) := by decide +kernel
theorem dX5_child_20 : decode cX5_child 20 = .ok (.invokevirtual 48, 3) := by decide +kernel
theorem dX5_child_23 : decode cX5_child 23 = .ok (.ireturn, 1) := by decide +kernel
theorem dX5_child_24 : decode cX5_child 24 = .ok (.aload_n 0, 1) := by decide +kernel
theorem dX5_child_25 : decode cX5_child 25 = .ok (.getfield 10, 3) := by decide +kernel
theorem dX5_child_28 : decode cX5_child 28 = .ok (.invokevirtual 63, 3) := by decide +kernel
theorem dX5_child_31 : decode cX5_child 31 = .ok (.ifCond .eq 9, 3) := by decide +kernel
theorem dX5_child_34 : decode cX5_child 34 = .ok (.aload_n 0, 1) := by decide +kernel
theorem dX5_child_35 : decode cX5_child 35 = .ok (.iconst 1, 1) := by decide +kernel
theorem dX5_child_36 : decode cX5_child 36 = .ok (.invokevirtual 48, 3) := by decide +kernel
theorem dX5_child_39 : decode cX5_child 39 = .ok (.ireturn, 1) := by decide +kernel
theorem dX5_child_40 : decode cX5_child 40 = .ok (.aload_n 0, 1) := by decide +kernel
theorem dX5_child_41 : decode cX5_child 41 = .ok (.getfield 10, 3) := by decide +kernel
theorem dX5_child_44 : decode cX5_child 44 = .ok (.iload_n 1, 1) := by decide +kernel
theorem dX5_child_45 : decode cX5_child 45 = .ok (.iload_n 2, 1) := by decide +kernel
theorem dX5_child_46 : decode cX5_child 46 = .ok (.invokevirtual 66, 3) := by decide +kernel
theorem dX5_child_49 : decode cX5_child 49 = .ok (.ireturn, 1) := by decide +kernel
theorem dX5_of_0 : decode cX5_of 0 = .ok (.aload_n 0, 1) := by decide +kernel
theorem dX5_of_1 : decode cX5_of 1 = .ok (.iload_n 1, 1) := by decide +kernel
theorem dX5_of_2 : decode cX5_of 2 = .ok (.invokevirtual 69, 3) := by decide +kernel
theorem dX5_of_5 : decode cX5_of 5 = .ok (.ifCond .eq 12, 3) := by decide +kernel
theorem dX5_of_8 : decode cX5_of 8 = .ok (.iload_n 2, 1) := by decide +kernel
theorem dX5_of_9 : decode cX5_of 9 = .ok (.bipush 10, 2) := by decide +kernel
theorem dX5_of_11 : decode cX5_of 11 = .ok (.invokestatic 44, 3) := by decide +kernel
theorem dX5_of_14 : decode cX5_of 14 = .ok (.ifCond .ne 9, 3) := by decide +kernel
theorem dX5_of_17 : decode cX5_of 17 = .ok (.aload_n 0, 1) := by decide +kernel
theorem dX5_of_18 : decode cX5_of 18 = .ok (.iconst 0, 1) := by decide +kernel
theorem dX5_of_19 : decode cX5_of 19 = .ok (.invokevirtual 48, 3) := by decide +kernel
theorem dX5_of_22 : decode cX5_of 22 = .ok (.ireturn, 1) := by decide +kernel
theorem dX5_of_23 : decode cX5_of 23 = .ok (.aload_n 0, 1) := by decide +kernel
theorem dX5_of_24 : decode cX5_of 24 = .ok (.getfield 10, 3) := by decide +kernel
theorem dX5_of_27 : decode cX5_of 27 = .ok (.iload_n 1, 1) := by decide +kernel
theorem dX5_of_28 : decode cX5_of 28 = .ok (.iload_n 2, 1) := by decide +kernel
theorem dX5_of_29 : decode cX5_of 29 = .ok (.invokevirtual 73, 3) := by decide +kernel
theorem dX5_of_32 : decode cX5_of 32 = .ok (.ireturn, 1) := by decide +kernel
theorem dX5_change_0 : decode cX5_change 0 = .ok (.aload_n 0, 1) := by decide +kernel
theorem dX5_change_1 : decode cX5_change 1 = .ok (.iload_n 1, 1) := by decide +kernel
theorem dX5_change_2 : decode cX5_change 2 = .ok (.invokevirtual 69, 3) := by decide +kernel
theorem dX5_change_5 : decode cX5_change 5 = .ok (.ifCond .eq 23, 3) := by decide +kernel
theorem dX5_change_8 : decode cX5_change 8 = .ok (.iload_n 2, 1) := by decide +kernel
theorem dX5_change_9 : decode cX5_change 9 = .ok (.iconst 5, 1) := by decide +kernel
theorem dX5_change_10 : decode cX5_change 10 = .ok (.invokestatic 44, 3) := by decide +kernel
theorem dX5_change_13 : decode cX5_change 13 = .ok (.ifCond .eq 15, 3) := by decide +kernel
theorem dX5_change_16 : decode cX5_change 16 = .ok (.iload_n 3, 1) := by decide +kernel
theorem dX5_change_17 : decode cX5_change 17 = .ok (.getstatic 78, 3) := by decide +kernel
theorem dX5_change_20 : decode cX5_change 20 = .ok (.iload_n 2, 1) := by decide +kernel
theorem dX5_change_21 : decode cX5_change 21 = .ok (.iaload, 1) := by decide +kernel
theorem dX5_change_22 : decode cX5_change 22 = .ok (.invokestatic 44, 3) := by decide +kernel
theorem dX5_change_25 : decode cX5_change 25 = .ok (.ifCond .ne 9, 3) := by decide +kernel
theorem dX5_change_28 : decode cX5_change 28 = .ok (.aload_n 0, 1) := by decide +kernel
theorem dX5_change_29 : decode cX5_change 29 = .ok (.iconst 0, 1) := by decide +kernel
theorem dX5_change_30 : decode cX5_change 30 = .ok (.invokevirtual 48, 3) := by decide +kernel
theorem dX5_change_33 : decode cX5_change 33 = .ok (.ireturn, 1) := by decide +kernel
theorem dX5_change_34 : decode cX5_change 34 = .ok (.aload_n 0, 1) := by decide +kernel
theorem dX5_change_35 : decode cX5_change 35 = .ok (.getfield 10, 3) := by decide +kernel
theorem dX5_change_38 : decode cX5_change 38 = .ok (.getfield 81, 3) := by decide +kernel
theorem dX5_change_41 : decode cX5_change 41 = .ok (.iload_n 1, 1) := by decide +kernel
theorem dX5_change_42 : decode cX5_change 42 = .ok (.aaload, 1) := by decide +kernel
theorem dX5_change_43 : decode cX5_change 43 = .ok (.getfield 85, 3) := by decide +kernel
theorem dX5_change_46 : decode cX5_change 46 = .ok (.astore 4, 2) := by decide +kernel
theorem dX5_change_48 : decode cX5_change 48 = .ok (.aload 4, 2) := by decide +kernel
theorem dX5_change_50 : decode cX5_change 50 = .ok (.iload_n 2, 1) := by decide +kernel
theorem dX5_change_51 : decode cX5_change 51 = .ok (.iaload, 1) := by decide +kernel
theorem dX5_change_52 : decode cX5_change 52 = .ok (.istore 5, 2) := by decide +kernel
theorem dX5_change_54 : decode cX5_change 54 = .ok (.aload 4, 2) := by decide +kernel
theorem dX5_change_56 : decode cX5_change 56 = .ok (.iload_n 2, 1) := by decide +kernel
theorem dX5_change_57 : decode cX5_change 57 = .ok (.iload_n 3, 1) := by decide +kernel
theorem dX5_change_58 : decode cX5_change 58 = .ok (.iastore, 1) := by decide +kernel
theorem dX5_change_59 : decode cX5_change 59 = .ok (.iload 5, 2) := by decide +kernel
theorem dX5_change_61 : decode cX5_change 61 = .ok (.ireturn, 1) := by decide +kernel
theorem dX5_ofChild_0 : decode cX5_ofChild 0 = .ok (.aload_n 0, 1) := by decide +kernel
theorem dX5_ofChild_1 : decode cX5_ofChild 1 = .ok (.iload_n 1, 1) := by decide +kernel
theorem dX5_ofChild_2 : decode cX5_ofChild 2 = .ok (.invokevirtual 88, 3) := by decide +kernel
theorem dX5_ofChild_5 : decode cX5_ofChild 5 = .ok (.ifCond .eq 11, 3) := by decide +kernel
theorem dX5_ofChild_8 : decode cX5_ofChild 8 = .ok (.iload_n 2, 1) := by decide +kernel
theorem dX5_ofChild_9 : decode cX5_ofChild 9 = .ok (.iconst 3, 1) := by decide +kernel
theorem dX5_ofChild_10 : decode cX5_ofChild 10 = .ok (.invokestatic 44, 3) := by decide +kernel
theorem dX5_ofChild_13 : decode cX5_ofChild 13 = .ok (.ifCond .ne 9, 3) := by decide +kernel
theorem dX5_ofChild_16 : decode cX5_ofChild 16 = .ok (.aload_n 0, 1) := by decide +kernel
theorem dX5_ofChild_17 : decode cX5_ofChild 17 = .ok (.iconst 0, 1) := by decide +kernel
theorem dX5_ofChild_18 : decode cX5_ofChild 18 = .ok (.invokevirtual 48, 3) := by decide +kernel
theorem dX5_ofChild_21 : decode cX5_ofChild 21 = .ok (.ireturn, 1) := by decide +kernel
theorem dX5_ofChild_22 : decode cX5_ofChild 22 = .ok (.aload_n 0, 1) := by decide +kernel
theorem dX5_ofChild_23 : decode cX5_ofChild 23 = .ok (.getfield 10, 3) := by decide +kernel
theorem dX5_ofChild_26 : decode cX5_ofChild 26 = .ok (.getfield 93, 3) := by decide +kernel
theorem dX5_ofChild_29 : decode cX5_ofChild 29 = .ok (.iload_n 1, 1) := by decide +kernel
theorem dX5_ofChild_30 : decode cX5_ofChild 30 = .ok (.aaload, 1) := by decide +kernel
theorem dX5_ofChild_31 : decode cX5_ofChild 31 = .ok (.getfield 97, 3) := by decide +kernel
theorem dX5_ofChild_34 : decode cX5_ofChild 34 = .ok (.iload_n 2, 1) := by decide +kernel
theorem dX5_ofChild_35 : decode cX5_ofChild 35 = .ok (.iaload, 1) := by decide +kernel
theorem dX5_ofChild_36 : decode cX5_ofChild 36 = .ok (.ireturn, 1) := by decide +kernel
theorem dX5_teach_0 : decode cX5_teach 0 = .ok (.aload_n 0, 1) := by decide +kernel
theorem dX5_teach_1 : decode cX5_teach 1 = .ok (.iload_n 1, 1) := by decide +kernel
theorem dX5_teach_2 : decode cX5_teach 2 = .ok (.invokevirtual 88, 3) := by decide +kernel
theorem dX5_teach_5 : decode cX5_teach 5 = .ok (.ifCond .eq 23, 3) := by decide +kernel
theorem dX5_teach_8 : decode cX5_teach 8 = .ok (.iload_n 2, 1) := by decide +kernel
theorem dX5_teach_9 : decode cX5_teach 9 = .ok (.iconst 3, 1) := by decide +kernel
theorem dX5_teach_10 : decode cX5_teach 10 = .ok (.invokestatic 44, 3) := by decide +kernel
theorem dX5_teach_13 : decode cX5_teach 13 = .ok (.ifCond .eq 15, 3) := by decide +kernel
theorem dX5_teach_16 : decode cX5_teach 16 = .ok (.iload_n 3, 1) := by decide +kernel
theorem dX5_teach_17 : decode cX5_teach 17 = .ok (.getstatic 98, 3) := by decide +kernel
theorem dX5_teach_20 : decode cX5_teach 20 = .ok (.iload_n 2, 1) := by decide +kernel
theorem dX5_teach_21 : decode cX5_teach 21 = .ok (.iaload, 1) := by decide +kernel
theorem dX5_teach_22 : decode cX5_teach 22 = .ok (.invokestatic 44, 3) := by decide +kernel
theorem dX5_teach_25 : decode cX5_teach 25 = .ok (.ifCond .ne 9, 3) := by decide +kernel
theorem dX5_teach_28 : decode cX5_teach 28 = .ok (.aload_n 0, 1) := by decide +kernel
theorem dX5_teach_29 : decode cX5_teach 29 = .ok (.iconst 0, 1) := by decide +kernel
theorem dX5_teach_30 : decode cX5_teach 30 = .ok (.invokevirtual 48, 3) := by decide +kernel
theorem dX5_teach_33 : decode cX5_teach 33 = .ok (.ireturn, 1) := by decide +kernel
theorem dX5_teach_34 : decode cX5_teach 34 = .ok (.aload_n 0, 1) := by decide +kernel
theorem dX5_teach_35 : decode cX5_teach 35 = .ok (.getfield 10, 3) := by decide +kernel
theorem dX5_teach_38 : decode cX5_teach 38 = .ok (.getfield 93, 3) := by decide +kernel
theorem dX5_teach_41 : decode cX5_teach 41 = .ok (.iload_n 1, 1) := by decide +kernel
theorem dX5_teach_42 : decode cX5_teach 42 = .ok (.aaload, 1) := by decide +kernel
theorem dX5_teach_43 : decode cX5_teach 43 = .ok (.getfield 97, 3) := by decide +kernel
theorem dX5_teach_46 : decode cX5_teach 46 = .ok (.astore 4, 2) := by decide +kernel
theorem dX5_teach_48 : decode cX5_teach 48 = .ok (.aload 4, 2) := by decide +kernel
theorem dX5_teach_50 : decode cX5_teach 50 = .ok (.iload_n 2, 1) := by decide +kernel
theorem dX5_teach_51 : decode cX5_teach 51 = .ok (.iaload, 1) := by decide +kernel
theorem dX5_teach_52 : decode cX5_teach 52 = .ok (.istore 5, 2) := by decide +kernel
theorem dX5_teach_54 : decode cX5_teach 54 = .ok (.aload 4, 2) := by decide +kernel
theorem dX5_teach_56 : decode cX5_teach 56 = .ok (.iload_n 2, 1) := by decide +kernel
theorem dX5_teach_57 : decode cX5_teach 57 = .ok (.iload_n 3, 1) := by decide +kernel
theorem dX5_teach_58 : decode cX5_teach 58 = .ok (.iastore, 1) := by decide +kernel
theorem dX5_teach_59 : decode cX5_teach 59 = .ok (.iload 5, 2) := by decide +kernel
theorem dX5_teach_61 : decode cX5_teach 61 = .ok (.ireturn, 1) := by decide +kernel
theorem dX5_hears_0 : decode cX5_hears 0 = .ok (.aload_n 0, 1) := by decide +kernel
theorem dX5_hears_1 : decode cX5_hears 1 = .ok (.iload_n 1, 1) := by decide +kernel
theorem dX5_hears_2 : decode cX5_hears 2 = .ok (.invokevirtual 88, 3) := by decide +kernel
theorem dX5_hears_5 : decode cX5_hears 5 = .ok (.ifCond .eq 14, 3) := by decide +kernel
theorem dX5_hears_8 : decode cX5_hears 8 = .ok (.iload_n 2, 1) := by decide +kernel
theorem dX5_hears_9 : decode cX5_hears 9 = .ok (.iconst 1, 1) := by decide +kernel
theorem dX5_hears_10 : decode cX5_hears 10 = .ok (.if_icmp .lt 9, 3) := by decide +kernel
theorem dX5_hears_13 : decode cX5_hears 13 = .ok (.iload_n 2, 1) := by decide +kernel
theorem dX5_hears_14 : decode cX5_hears 14 = .ok (.bipush 9, 2) := by decide +kernel
theorem dX5_hears_16 : decode cX5_hears 16 = .ok (.if_icmp .le 9, 3) := by decide +kernel
theorem dX5_hears_19 : decode cX5_hears 19 = .ok (.aload_n 0, 1) := by decide +kernel
theorem dX5_hears_20 : decode cX5_hears 20 = .ok (.iconst 0, 1) := by decide +kernel
theorem dX5_hears_21 : decode cX5_hears 21 = .ok (.invokevirtual 48, 3) := by decide +kernel
theorem dX5_hears_24 : decode cX5_hears 24 = .ok (.ireturn, 1) := by decide +kernel
theorem dX5_hears_25 : decode cX5_hears 25 = .ok (.iconst 0, 1) := by decide +kernel
theorem dX5_hears_26 : decode cX5_hears 26 = .ok (.istore_n 3, 1) := by decide +kernel
theorem dX5_hears_27 : decode cX5_hears 27 = .ok (.iconst 0, 1) := by decide +kernel
theorem dX5_hears_28 : decode cX5_hears 28 = .ok (.istore 4, 2) := by decide +kernel
theorem dX5_hears_30 : decode cX5_hears 30 = .ok (.iload 4, 2) := by decide +kernel
theorem dX5_hears_32 : decode cX5_hears 32 = .ok (.aload_n 0, 1) := by decide +kernel
theorem dX5_hears_33 : decode cX5_hears 33 = .ok (.getfield 10, 3) := by decide +kernel
theorem dX5_hears_36 : decode cX5_hears 36 = .ok (.getfield 99, 3) := by decide +kernel
theorem dX5_hears_39 : decode cX5_hears 39 = .ok (.if_icmp .ge 30, 3) := by decide +kernel
theorem dX5_hears_42 : decode cX5_hears 42 = .ok (.aload_n 0, 1) := by decide +kernel
theorem dX5_hears_43 : decode cX5_hears 43 = .ok (.getfield 10, 3) := by decide +kernel
theorem dX5_hears_46 : decode cX5_hears 46 = .ok (.iload 4, 2) := by decide +kernel
theorem dX5_hears_48 : decode cX5_hears 48 = .ok (.iload_n 1, 1) := by decide +kernel
theorem dX5_hears_49 : decode cX5_hears 49 = .ok (.iload_n 2, 1) := by decide +kernel
theorem dX5_hears_50 : decode cX5_hears 50 = .ok (.invokevirtual 103, 3) := by decide +kernel
theorem dX5_hears_53 : decode cX5_hears 53 = .ok (.ifCond .eq 10, 3) := by decide +kernel
theorem dX5_hears_56 : decode cX5_hears 56 = .ok (.iload_n 3, 1) := by decide +kernel
theorem dX5_hears_57 : decode cX5_hears 57 = .ok (.iconst 1, 1) := by decide +kernel
theorem dX5_hears_58 : decode cX5_hears 58 = .ok (.iload 4, 2) := by decide +kernel
theorem dX5_hears_60 : decode cX5_hears 60 = .ok (.ishl, 1) := by decide +kernel
theorem dX5_hears_61 : decode cX5_hears 61 = .ok (.ior, 1) := by decide +kernel
theorem dX5_hears_62 : decode cX5_hears 62 = .ok (.istore_n 3, 1) := by decide +kernel
theorem dX5_hears_63 : decode cX5_hears 63 = .ok (.iinc 4 1, 3) := by decide +kernel
theorem dX5_hears_66 : decode cX5_hears 66 = .ok (.goto (-36), 3) := by decide +kernel
theorem dX5_hears_69 : decode cX5_hears 69 = .ok (.iload_n 3, 1) := by decide +kernel
theorem dX5_hears_70 : decode cX5_hears 70 = .ok (.ireturn, 1) := by decide +kernel
theorem dX5_go_0 : decode cX5_go 0 = .ok (.iload_n 1, 1) := by decide +kernel
theorem dX5_go_1 : decode cX5_go 1 = .ok (.iconst 1, 1) := by decide +kernel
theorem dX5_go_2 : decode cX5_go 2 = .ok (.if_icmp .lt 9, 3) := by decide +kernel
theorem dX5_go_5 : decode cX5_go 5 = .ok (.iload_n 1, 1) := by decide +kernel
theorem dX5_go_6 : decode cX5_go 6 = .ok (.bipush 60, 2) := by decide +kernel
theorem dX5_go_8 : decode cX5_go 8 = .ok (.if_icmp .le 9, 3) := by decide +kernel
theorem dX5_go_11 : decode cX5_go 11 = .ok (.aload_n 0, 1) := by decide +kernel
theorem dX5_go_12 : decode cX5_go 12 = .ok (.iconst 0, 1) := by decide +kernel
theorem dX5_go_13 : decode cX5_go 13 = .ok (.invokevirtual 48, 3) := by decide +kernel
theorem dX5_go_16 : decode cX5_go 16 = .ok (.ireturn, 1) := by decide +kernel
theorem dX5_go_17 : decode cX5_go 17 = .ok (.aload_n 0, 1) := by decide +kernel
theorem dX5_go_18 : decode cX5_go 18 = .ok (.getfield 10, 3) := by decide +kernel
theorem dX5_go_21 : decode cX5_go 21 = .ok (.getfield 107, 3) := by decide +kernel
theorem dX5_go_24 : decode cX5_go 24 = .ok (.iload_n 1, 1) := by decide +kernel
theorem dX5_go_25 : decode cX5_go 25 = .ok (.iadd, 1) := by decide +kernel
theorem dX5_go_26 : decode cX5_go 26 = .ok (.ldc 110, 2) := by decide +kernel
theorem dX5_go_28 : decode cX5_go 28 = .ok (.if_icmp .le 9, 3) := by decide +kernel
theorem dX5_go_31 : decode cX5_go 31 = .ok (.aload_n 0, 1) := by decide +kernel
theorem dX5_go_32 : decode cX5_go 32 = .ok (.iconst 4, 1) := by decide +kernel
theorem dX5_go_33 : decode cX5_go 33 = .ok (.invokevirtual 48, 3) := by decide +kernel
theorem dX5_go_36 : decode cX5_go 36 = .ok (.ireturn, 1) := by decide +kernel
theorem dX5_go_37 : decode cX5_go 37 = .ok (.aload_n 0, 1) := by decide +kernel
theorem dX5_go_38 : decode cX5_go 38 = .ok (.getfield 10, 3) := by decide +kernel
theorem dX5_go_41 : decode cX5_go 41 = .ok (.iload_n 1, 1) := by decide +kernel
theorem dX5_go_42 : decode cX5_go 42 = .ok (.invokevirtual 111, 3) := by decide +kernel
theorem dX5_go_45 : decode cX5_go 45 = .ok (.aload_n 0, 1) := by decide +kernel
theorem dX5_go_46 : decode cX5_go 46 = .ok (.getfield 10, 3) := by decide +kernel
theorem dX5_go_49 : decode cX5_go 49 = .ok (.invokevirtual 115, 3) := by decide +kernel
theorem dX5_go_52 : decode cX5_go 52 = .ok (.ireturn, 1) := by decide +kernel
theorem dX5_now_0 : decode cX5_now 0 = .ok (.iload_n 1, 1) := by decide +kernel
theorem dX5_now_1 : decode cX5_now 1 = .ok (.tableswitch 113 0 7 #[47, 55, 63, 72, 81, 89, 97, 105], 47) := by decide +kernel
theorem dX5_now_48 : decode cX5_now 48 = .ok (.aload_n 0, 1) := by decide +kernel
theorem dX5_now_49 : decode cX5_now 49 = .ok (.getfield 10, 3) := by decide +kernel
theorem dX5_now_52 : decode cX5_now 52 = .ok (.getfield 107, 3) := by decide +kernel
theorem dX5_now_55 : decode cX5_now 55 = .ok (.ireturn, 1) := by decide +kernel
theorem dX5_now_56 : decode cX5_now 56 = .ok (.aload_n 0, 1) := by decide +kernel
theorem dX5_now_57 : decode cX5_now 57 = .ok (.getfield 10, 3) := by decide +kernel
theorem dX5_now_60 : decode cX5_now 60 = .ok (.invokevirtual 115, 3) := by decide +kernel
theorem dX5_now_63 : decode cX5_now 63 = .ok (.ireturn, 1) := by decide +kernel
theorem dX5_now_64 : decode cX5_now 64 = .ok (.aload_n 0, 1) := by decide +kernel
theorem dX5_now_65 : decode cX5_now 65 = .ok (.getfield 10, 3) := by decide +kernel
theorem dX5_now_68 : decode cX5_now 68 = .ok (.iconst 2, 1) := by decide +kernel
theorem dX5_now_69 : decode cX5_now 69 = .ok (.invokevirtual 119, 3) := by decide +kernel
theorem dX5_now_72 : decode cX5_now 72 = .ok (.ireturn, 1) := by decide +kernel
theorem dX5_now_73 : decode cX5_now 73 = .ok (.aload_n 0, 1) := by decide +kernel
theorem dX5_now_74 : decode cX5_now 74 = .ok (.getfield 10, 3) := by decide +kernel
theorem dX5_now_77 : decode cX5_now 77 = .ok (.iconst 3, 1) := by decide +kernel
theorem dX5_now_78 : decode cX5_now 78 = .ok (.invokevirtual 119, 3) := by decide +kernel
theorem dX5_now_81 : decode cX5_now 81 = .ok (.ireturn, 1) := by decide +kernel
theorem dX5_now_82 : decode cX5_now 82 = .ok (.aload_n 0, 1) := by decide +kernel
theorem dX5_now_83 : decode cX5_now 83 = .ok (.getfield 10, 3) := by decide +kernel
theorem dX5_now_86 : decode cX5_now 86 = .ok (.invokevirtual 122, 3) := by decide +kernel
theorem dX5_now_89 : decode cX5_now 89 = .ok (.ireturn, 1) := by decide +kernel
theorem dX5_now_90 : decode cX5_now 90 = .ok (.aload_n 0, 1) := by decide +kernel
theorem dX5_now_91 : decode cX5_now 91 = .ok (.getfield 10, 3) := by decide +kernel
theorem dX5_now_94 : decode cX5_now 94 = .ok (.invokevirtual 125, 3) := by decide +kernel
theorem dX5_now_97 : decode cX5_now 97 = .ok (.ireturn, 1) := by decide +kernel
theorem dX5_now_98 : decode cX5_now 98 = .ok (.aload_n 0, 1) := by decide +kernel
theorem dX5_now_99 : decode cX5_now 99 = .ok (.getfield 10, 3) := by decide +kernel
theorem dX5_now_102 : decode cX5_now 102 = .ok (.invokevirtual 128, 3) := by decide +kernel
theorem dX5_now_105 : decode cX5_now 105 = .ok (.ireturn, 1) := by decide +kernel
theorem dX5_now_106 : decode cX5_now 106 = .ok (.aload_n 0, 1) := by decide +kernel
theorem dX5_now_107 : decode cX5_now 107 = .ok (.getfield 10, 3) := by decide +kernel
theorem dX5_now_110 : decode cX5_now 110 = .ok (.invokevirtual 131, 3) := by decide +kernel
theorem dX5_now_113 : decode cX5_now 113 = .ok (.ireturn, 1) := by decide +kernel
theorem dX5_now_114 : decode cX5_now 114 = .ok (.aload_n 0, 1) := by decide +kernel
theorem dX5_now_115 : decode cX5_now 115 = .ok (.iconst 0, 1) := by decide +kernel
theorem dX5_now_116 : decode cX5_now 116 = .ok (.invokevirtual 48, 3) := by decide +kernel
theorem dX5_now_119 : decode cX5_now 119 = .ok (.ireturn, 1) := by decide +kernel
theorem dX5_ahead_0 : decode cX5_ahead 0 = .ok (.iload_n 2, 1) := by decide +kernel
theorem dX5_ahead_1 : decode cX5_ahead 1 = .ok (.iconst 2, 1) := by decide +kernel
theorem dX5_ahead_2 : decode cX5_ahead 2 = .ok (.if_icmp .eq 14, 3) := by decide +kernel
theorem dX5_ahead_5 : decode cX5_ahead 5 = .ok (.iload_n 2, 1) := by decide +kernel
theorem dX5_ahead_6 : decode cX5_ahead 6 = .ok (.iconst 4, 1) := by decide +kernel
theorem dX5_ahead_7 : decode cX5_ahead 7 = .ok (.if_icmp .eq 9, 3) := by decide +kernel
theorem dX5_ahead_10 : decode cX5_ahead 10 = .ok (.iload_n 2, 1) := by decide +kernel
theorem dX5_ahead_11 : decode cX5_ahead 11 = .ok (.bipush 6, 2) := by decide +kernel
theorem dX5_ahead_13 : decode cX5_ahead 13 = .ok (.if_icmp .ne 7, 3) := by decide +kernel
theorem dX5_ahead_16 : decode cX5_ahead 16 = .ok (.iconst 1, 1) := by decide +kernel
theorem dX5_ahead_17 : decode cX5_ahead 17 = .ok (.goto 4, 3) := by decide +kernel
theorem dX5_ahead_20 : decode cX5_ahead 20 = .ok (.iconst 0, 1) := by decide +kernel
theorem dX5_ahead_21 : decode cX5_ahead 21 = .ok (.istore 4, 2) := by decide +kernel
theorem dX5_ahead_23 : decode cX5_ahead 23 = .ok (.aload_n 0, 1) := by decide +kernel
theorem dX5_ahead_24 : decode cX5_ahead 24 = .ok (.iload_n 1, 1) := by decide +kernel
theorem dX5_ahead_25 : decode cX5_ahead 25 = .ok (.invokevirtual 69, 3) := by decide +kernel
theorem dX5_ahead_28 : decode cX5_ahead 28 = .ok (.ifCond .eq 17, 3) := by decide +kernel
theorem dX5_ahead_31 : decode cX5_ahead 31 = .ok (.iload 4, 2) := by decide +kernel
theorem dX5_ahead_33 : decode cX5_ahead 33 = .ok (.ifCond .eq 12, 3) := by decide +kernel
theorem dX5_ahead_36 : decode cX5_ahead 36 = .ok (.iload_n 3, 1) := by decide +kernel
theorem dX5_ahead_37 : decode cX5_ahead 37 = .ok (.bipush 100, 2) := by decide +kernel
theorem dX5_ahead_39 : decode cX5_ahead 39 = .ok (.invokestatic 44, 3) := by decide +kernel
theorem dX5_ahead_42 : decode cX5_ahead 42 = .ok (.ifCond .ne 9, 3) := by decide +kernel
theorem dX5_ahead_45 : decode cX5_ahead 45 = .ok (.aload_n 0, 1) := by decide +kernel
theorem dX5_ahead_46 : decode cX5_ahead 46 = .ok (.iconst 0, 1) := by decide +kernel
theorem dX5_ahead_47 : decode cX5_ahead 47 = .ok (.invokevirtual 48, 3) := by decide +kernel
theorem dX5_ahead_50 : decode cX5_ahead 50 = .ok (.ireturn, 1) := by decide +kernel
theorem dX5_ahead_51 : decode cX5_ahead 51 = .ok (.aload_n 0, 1) := by decide +kernel
theorem dX5_ahead_52 : decode cX5_ahead 52 = .ok (.iload_n 1, 1) := by decide +kernel
theorem dX5_ahead_53 : decode cX5_ahead 53 = .ok (.invokevirtual 134, 3) := by decide +kernel
theorem dX5_ahead_56 : decode cX5_ahead 56 = .ok (.aload_n 0, 1) := by decide +kernel
theorem dX5_ahead_57 : decode cX5_ahead 57 = .ok (.getfield 16, 3) := by decide +kernel
theorem dX5_ahead_60 : decode cX5_ahead 60 = .ok (.iload_n 3, 1) := by decide +kernel
theorem dX5_ahead_61 : decode cX5_ahead 61 = .ok (.invokevirtual 111, 3) := by decide +kernel
theorem dX5_ahead_64 : decode cX5_ahead 64 = .ok (.aload_n 0, 1) := by decide +kernel
theorem dX5_ahead_65 : decode cX5_ahead 65 = .ok (.getfield 16, 3) := by decide +kernel
theorem dX5_ahead_68 : decode cX5_ahead 68 = .ok (.iconst 0, 1) := by decide +kernel
theorem dX5_ahead_69 : decode cX5_ahead 69 = .ok (.iload_n 2, 1) := by decide +kernel
theorem dX5_ahead_70 : decode cX5_ahead 70 = .ok (.invokevirtual 73, 3) := by decide +kernel
theorem dX5_ahead_73 : decode cX5_ahead 73 = .ok (.ireturn, 1) := by decide +kernel
theorem dX5_later_0 : decode cX5_later 0 = .ok (.iload_n 2, 1) := by decide +kernel
theorem dX5_later_1 : decode cX5_later 1 = .ok (.iconst 2, 1) := by decide +kernel
theorem dX5_later_2 : decode cX5_later 2 = .ok (.if_icmp .eq 8, 3) := by decide +kernel
theorem dX5_later_5 : decode cX5_later 5 = .ok (.iload_n 2, 1) := by decide +kernel
theorem dX5_later_6 : decode cX5_later 6 = .ok (.iconst 3, 1) := by decide +kernel
theorem dX5_later_7 : decode cX5_later 7 = .ok (.if_icmp .ne 7, 3) := by decide +kernel
theorem dX5_later_10 : decode cX5_later 10 = .ok (.iconst 1, 1) := by decide +kernel
theorem dX5_later_11 : decode cX5_later 11 = .ok (.goto 4, 3) := by decide +kernel
theorem dX5_later_14 : decode cX5_later 14 = .ok (.iconst 0, 1) := by decide +kernel
theorem dX5_later_15 : decode cX5_later 15 = .ok (.istore 4, 2) := by decide +kernel
theorem dX5_later_17 : decode cX5_later 17 = .ok (.aload_n 0, 1) := by decide +kernel
theorem dX5_later_18 : decode cX5_later 18 = .ok (.iload_n 1, 1) := by decide +kernel
theorem dX5_later_19 : decode cX5_later 19 = .ok (.invokevirtual 88, 3) := by decide +kernel
theorem dX5_later_22 : decode cX5_later 22 = .ok (.ifCond .eq 17, 3) := by decide +kernel
theorem dX5_later_25 : decode cX5_later 25 = .ok (.iload 4, 2) := by decide +kernel
theorem dX5_later_27 : decode cX5_later 27 = .ok (.ifCond .eq 12, 3) := by decide +kernel
theorem dX5_later_30 : decode cX5_later 30 = .ok (.iload_n 3, 1) := by decide +kernel
theorem dX5_later_31 : decode cX5_later 31 = .ok (.bipush 100, 2) := by decide +kernel
theorem dX5_later_33 : decode cX5_later 33 = .ok (.invokestatic 44, 3) := by decide +kernel
theorem dX5_later_36 : decode cX5_later 36 = .ok (.ifCond .ne 9, 3) := by decide +kernel
theorem dX5_later_39 : decode cX5_later 39 = .ok (.aload_n 0, 1) := by decide +kernel
theorem dX5_later_40 : decode cX5_later 40 = .ok (.iconst 0, 1) := by decide +kernel
theorem dX5_later_41 : decode cX5_later 41 = .ok (.invokevirtual 48, 3) := by decide +kernel
theorem dX5_later_44 : decode cX5_later 44 = .ok (.ireturn, 1) := by decide +kernel
theorem dX5_later_45 : decode cX5_later 45 = .ok (.aload_n 0, 1) := by decide +kernel
theorem dX5_later_46 : decode cX5_later 46 = .ok (.iload_n 1, 1) := by decide +kernel
theorem dX5_later_47 : decode cX5_later 47 = .ok (.invokevirtual 137, 3) := by decide +kernel
theorem dX5_later_50 : decode cX5_later 50 = .ok (.aload_n 0, 1) := by decide +kernel
theorem dX5_later_51 : decode cX5_later 51 = .ok (.getfield 16, 3) := by decide +kernel
theorem dX5_later_54 : decode cX5_later 54 = .ok (.iload_n 3, 1) := by decide +kernel
theorem dX5_later_55 : decode cX5_later 55 = .ok (.invokevirtual 111, 3) := by decide +kernel
theorem dX5_later_58 : decode cX5_later 58 = .ok (.aload_n 0, 1) := by decide +kernel
theorem dX5_later_59 : decode cX5_later 59 = .ok (.getfield 16, 3) := by decide +kernel
theorem dX5_later_62 : decode cX5_later 62 = .ok (.getfield 93, 3) := by decide +kernel
theorem dX5_later_65 : decode cX5_later 65 = .ok (.iconst 0, 1) := by decide +kernel
theorem dX5_later_66 : decode cX5_later 66 = .ok (.aaload, 1) := by decide +kernel
theorem dX5_later_67 : decode cX5_later 67 = .ok (.getfield 97, 3) := by decide +kernel
theorem dX5_later_70 : decode cX5_later 70 = .ok (.iload_n 2, 1) := by decide +kernel
theorem dX5_later_71 : decode cX5_later 71 = .ok (.iaload, 1) := by decide +kernel
theorem dX5_later_72 : decode cX5_later 72 = .ok (.ireturn, 1) := by decide +kernel
theorem dX5_learns_0 : decode cX5_learns 0 = .ok (.aload_n 0, 1) := by decide +kernel
theorem dX5_learns_1 : decode cX5_learns 1 = .ok (.iload_n 1, 1) := by decide +kernel
theorem dX5_learns_2 : decode cX5_learns 2 = .ok (.invokevirtual 88, 3) := by decide +kernel
theorem dX5_learns_5 : decode cX5_learns 5 = .ok (.ifCond .eq 12, 3) := by decide +kernel
theorem dX5_learns_8 : decode cX5_learns 8 = .ok (.iload_n 2, 1) := by decide +kernel
theorem dX5_learns_9 : decode cX5_learns 9 = .ok (.bipush 11, 2) := by decide +kernel
theorem dX5_learns_11 : decode cX5_learns 11 = .ok (.invokestatic 44, 3) := by decide +kernel
theorem dX5_learns_14 : decode cX5_learns 14 = .ok (.ifCond .ne 9, 3) := by decide +kernel
theorem dX5_learns_17 : decode cX5_learns 17 = .ok (.aload_n 0, 1) := by decide +kernel
theorem dX5_learns_18 : decode cX5_learns 18 = .ok (.iconst 0, 1) := by decide +kernel
theorem dX5_learns_19 : decode cX5_learns 19 = .ok (.invokevirtual 48, 3) := by decide +kernel
theorem dX5_learns_22 : decode cX5_learns 22 = .ok (.ireturn, 1) := by decide +kernel
theorem dX5_learns_23 : decode cX5_learns 23 = .ok (.aload_n 0, 1) := by decide +kernel
theorem dX5_learns_24 : decode cX5_learns 24 = .ok (.iload_n 1, 1) := by decide +kernel
theorem dX5_learns_25 : decode cX5_learns 25 = .ok (.invokevirtual 137, 3) := by decide +kernel
theorem dX5_learns_28 : decode cX5_learns 28 = .ok (.aload_n 0, 1) := by decide +kernel
theorem dX5_learns_29 : decode cX5_learns 29 = .ok (.iload_n 2, 1) := by decide +kernel
theorem dX5_learns_30 : decode cX5_learns 30 = .ok (.invokevirtual 140, 3) := by decide +kernel
theorem dX5_learns_33 : decode cX5_learns 33 = .ok (.ireturn, 1) := by decide +kernel
theorem dX5_taught_0 : decode cX5_taught 0 = .ok (.iload_n 1, 1) := by decide +kernel
theorem dX5_taught_1 : decode cX5_taught 1 = .ok (.bipush 11, 2) := by decide +kernel
theorem dX5_taught_3 : decode cX5_taught 3 = .ok (.invokestatic 44, 3) := by decide +kernel
theorem dX5_taught_6 : decode cX5_taught 6 = .ok (.ifCond .ne 9, 3) := by decide +kernel
theorem dX5_taught_9 : decode cX5_taught 9 = .ok (.aload_n 0, 1) := by decide +kernel
theorem dX5_taught_10 : decode cX5_taught 10 = .ok (.iconst 0, 1) := by decide +kernel
theorem dX5_taught_11 : decode cX5_taught 11 = .ok (.invokevirtual 48, 3) := by decide +kernel
theorem dX5_taught_14 : decode cX5_taught 14 = .ok (.ireturn, 1) := by decide +kernel
theorem dX5_taught_15 : decode cX5_taught 15 = .ok (.aload_n 0, 1) := by decide +kernel
theorem dX5_taught_16 : decode cX5_taught 16 = .ok (.getfield 16, 3) := by decide +kernel
theorem dX5_taught_19 : decode cX5_taught 19 = .ok (.aload_n 0, 1) := by decide +kernel
theorem dX5_taught_20 : decode cX5_taught 20 = .ok (.getfield 10, 3) := by decide +kernel
theorem dX5_taught_23 : decode cX5_taught 23 = .ok (.invokevirtual 143, 3) := by decide +kernel
theorem dX5_taught_26 : decode cX5_taught 26 = .ok (.aload_n 0, 1) := by decide +kernel
theorem dX5_taught_27 : decode cX5_taught 27 = .ok (.iload_n 1, 1) := by decide +kernel
theorem dX5_taught_28 : decode cX5_taught 28 = .ok (.invokevirtual 140, 3) := by decide +kernel
theorem dX5_taught_31 : decode cX5_taught 31 = .ok (.ireturn, 1) := by decide +kernel
theorem dX5_weary_0 : decode cX5_weary 0 = .ok (.aload_n 0, 1) := by decide +kernel
theorem dX5_weary_1 : decode cX5_weary 1 = .ok (.iload_n 1, 1) := by decide +kernel
theorem dX5_weary_2 : decode cX5_weary 2 = .ok (.invokevirtual 69, 3) := by decide +kernel
theorem dX5_weary_5 : decode cX5_weary 5 = .ok (.ifCond .eq 15, 3) := by decide +kernel
theorem dX5_weary_8 : decode cX5_weary 8 = .ok (.iload_n 2, 1) := by decide +kernel
theorem dX5_weary_9 : decode cX5_weary 9 = .ok (.getstatic 78, 3) := by decide +kernel
theorem dX5_weary_12 : decode cX5_weary 12 = .ok (.iconst 4, 1) := by decide +kernel
theorem dX5_weary_13 : decode cX5_weary 13 = .ok (.iaload, 1) := by decide +kernel
theorem dX5_weary_14 : decode cX5_weary 14 = .ok (.invokestatic 44, 3) := by decide +kernel
theorem dX5_weary_17 : decode cX5_weary 17 = .ok (.ifCond .ne 9, 3) := by decide +kernel
theorem dX5_weary_20 : decode cX5_weary 20 = .ok (.aload_n 0, 1) := by decide +kernel
theorem dX5_weary_21 : decode cX5_weary 21 = .ok (.iconst 0, 1) := by decide +kernel
theorem dX5_weary_22 : decode cX5_weary 22 = .ok (.invokevirtual 48, 3) := by decide +kernel
theorem dX5_weary_25 : decode cX5_weary 25 = .ok (.ireturn, 1) := by decide +kernel
theorem dX5_weary_26 : decode cX5_weary 26 = .ok (.aload_n 0, 1) := by decide +kernel
theorem dX5_weary_27 : decode cX5_weary 27 = .ok (.iload_n 1, 1) := by decide +kernel
theorem dX5_weary_28 : decode cX5_weary 28 = .ok (.invokevirtual 134, 3) := by decide +kernel
theorem dX5_weary_31 : decode cX5_weary 31 = .ok (.iconst 0, 1) := by decide +kernel
theorem dX5_weary_32 : decode cX5_weary 32 = .ok (.istore_n 3, 1) := by decide +kernel
theorem dX5_weary_33 : decode cX5_weary 33 = .ok (.iload_n 3, 1) := by decide +kernel
theorem dX5_weary_34 : decode cX5_weary 34 = .ok (.sipush 200, 3) := by decide +kernel
theorem dX5_weary_37 : decode cX5_weary 37 = .ok (.if_icmp .gt 36, 3) := by decide +kernel
theorem dX5_weary_40 : decode cX5_weary 40 = .ok (.aload_n 0, 1) := by decide +kernel
theorem dX5_weary_41 : decode cX5_weary 41 = .ok (.getfield 16, 3) := by decide +kernel
theorem dX5_weary_44 : decode cX5_weary 44 = .ok (.getfield 81, 3) := by decide +kernel
theorem dX5_weary_47 : decode cX5_weary 47 = .ok (.iconst 0, 1) := by decide +kernel
theorem dX5_weary_48 : decode cX5_weary 48 = .ok (.aaload, 1) := by decide +kernel
theorem dX5_weary_49 : decode cX5_weary 49 = .ok (.getfield 85, 3) := by decide +kernel
theorem dX5_weary_52 : decode cX5_weary 52 = .ok (.iconst 4, 1) := by decide +kernel
theorem dX5_weary_53 : decode cX5_weary 53 = .ok (.iaload, 1) := by decide +kernel
theorem dX5_weary_54 : decode cX5_weary 54 = .ok (.iload_n 2, 1) := by decide +kernel
theorem dX5_weary_55 : decode cX5_weary 55 = .ok (.if_icmp .lt 5, 3) := by decide +kernel
theorem dX5_weary_58 : decode cX5_weary 58 = .ok (.iload_n 3, 1) := by decide +kernel
theorem dX5_weary_59 : decode cX5_weary 59 = .ok (.ireturn, 1) := by decide +kernel
theorem dX5_weary_60 : decode cX5_weary 60 = .ok (.aload_n 0, 1) := by decide +kernel
theorem dX5_weary_61 : decode cX5_weary 61 = .ok (.getfield 16, 3) := by decide +kernel
theorem dX5_weary_64 : decode cX5_weary 64 = .ok (.invokevirtual 147, 3) := by decide +kernel
theorem dX5_weary_67 : decode cX5_weary 67 = .ok (.iinc 3 1, 3) := by decide +kernel
theorem dX5_weary_70 : decode cX5_weary 70 = .ok (.goto (-37), 3) := by decide +kernel
theorem dX5_weary_73 : decode cX5_weary 73 = .ok (.aload_n 0, 1) := by decide +kernel
theorem dX5_weary_74 : decode cX5_weary 74 = .ok (.iconst 3, 1) := by decide +kernel
theorem dX5_weary_75 : decode cX5_weary 75 = .ok (.invokevirtual 48, 3) := by decide +kernel
theorem dX5_weary_78 : decode cX5_weary 78 = .ok (.ireturn, 1) := by decide +kernel
theorem dX5_seatFor_0 : decode cX5_seatFor 0 = .ok (.aload_n 0, 1) := by decide +kernel
theorem dX5_seatFor_1 : decode cX5_seatFor 1 = .ok (.iload_n 1, 1) := by decide +kernel
theorem dX5_seatFor_2 : decode cX5_seatFor 2 = .ok (.invokevirtual 88, 3) := by decide +kernel
theorem dX5_seatFor_5 : decode cX5_seatFor 5 = .ok (.ifCond .eq 12, 3) := by decide +kernel
theorem dX5_seatFor_8 : decode cX5_seatFor 8 = .ok (.iload_n 2, 1) := by decide +kernel
theorem dX5_seatFor_9 : decode cX5_seatFor 9 = .ok (.bipush 60, 2) := by decide +kernel
theorem dX5_seatFor_11 : decode cX5_seatFor 11 = .ok (.invokestatic 44, 3) := by decide +kernel
theorem dX5_seatFor_14 : decode cX5_seatFor 14 = .ok (.ifCond .ne 9, 3) := by decide +kernel
theorem dX5_seatFor_17 : decode cX5_seatFor 17 = .ok (.aload_n 0, 1) := by decide +kernel
theorem dX5_seatFor_18 : decode cX5_seatFor 18 = .ok (.iconst 0, 1) := by decide +kernel
theorem dX5_seatFor_19 : decode cX5_seatFor 19 = .ok (.invokevirtual 48, 3) := by decide +kernel
theorem dX5_seatFor_22 : decode cX5_seatFor 22 = .ok (.ireturn, 1) := by decide +kernel
theorem dX5_seatFor_23 : decode cX5_seatFor 23 = .ok (.iconst 0, 1) := by decide +kernel
theorem dX5_seatFor_24 : decode cX5_seatFor 24 = .ok (.istore_n 3, 1) := by decide +kernel
theorem dX5_seatFor_25 : decode cX5_seatFor 25 = .ok (.iconst (-1), 1) := by decide +kernel
theorem dX5_seatFor_26 : decode cX5_seatFor 26 = .ok (.istore 4, 2) := by decide +kernel
theorem dX5_seatFor_28 : decode cX5_seatFor 28 = .ok (.iconst 0, 1) := by decide +kernel
theorem dX5_seatFor_29 : decode cX5_seatFor 29 = .ok (.istore 5, 2) := by decide +kernel
theorem dX5_seatFor_31 : decode cX5_seatFor 31 = .ok (.iload 5, 2) := by decide +kernel
theorem dX5_seatFor_33 : decode cX5_seatFor 33 = .ok (.bipush 15, 2) := by decide +kernel
theorem dX5_seatFor_35 : decode cX5_seatFor 35 = .ok (.if_icmp .gt 61, 3) := by decide +kernel
theorem dX5_seatFor_38 : decode cX5_seatFor 38 = .ok (.aload_n 0, 1) := by decide +kernel
theorem dX5_seatFor_39 : decode cX5_seatFor 39 = .ok (.iload_n 1, 1) := by decide +kernel
theorem dX5_seatFor_40 : decode cX5_seatFor 40 = .ok (.invokevirtual 137, 3) := by decide +kernel
theorem dX5_seatFor_43 : decode cX5_seatFor 43 = .ok (.aload_n 0, 1) := by decide +kernel
theorem dX5_seatFor_44 : decode cX5_seatFor 44 = .ok (.getfield 16, 3) := by decide +kernel
theorem dX5_seatFor_47 : decode cX5_seatFor 47 = .ok (.getfield 93, 3) := by decide +kernel
theorem dX5_seatFor_50 : decode cX5_seatFor 50 = .ok (.iconst 0, 1) := by decide +kernel
theorem dX5_seatFor_51 : decode cX5_seatFor 51 = .ok (.aaload, 1) := by decide +kernel
theorem dX5_seatFor_52 : decode cX5_seatFor 52 = .ok (.getfield 97, 3) := by decide +kernel
theorem dX5_seatFor_55 : decode cX5_seatFor 55 = .ok (.iconst 0, 1) := by decide +kernel
theorem dX5_seatFor_56 : decode cX5_seatFor 56 = .ok (.iload 5, 2) := by decide +kernel
theorem dX5_seatFor_58 : decode cX5_seatFor 58 = .ok (.iastore, 1) := by decide +kernel
theorem dX5_seatFor_59 : decode cX5_seatFor 59 = .ok (.aload_n 0, 1) := by decide +kernel
theorem dX5_seatFor_60 : decode cX5_seatFor 60 = .ok (.getfield 16, 3) := by decide +kernel
theorem dX5_seatFor_63 : decode cX5_seatFor 63 = .ok (.iload_n 2, 1) := by decide +kernel
theorem dX5_seatFor_64 : decode cX5_seatFor 64 = .ok (.invokevirtual 111, 3) := by decide +kernel
theorem dX5_seatFor_67 : decode cX5_seatFor 67 = .ok (.aload_n 0, 1) := by decide +kernel
theorem dX5_seatFor_68 : decode cX5_seatFor 68 = .ok (.getfield 16, 3) := by decide +kernel
theorem dX5_seatFor_71 : decode cX5_seatFor 71 = .ok (.invokevirtual 115, 3) := by decide +kernel
theorem dX5_seatFor_74 : decode cX5_seatFor 74 = .ok (.istore 6, 2) := by decide +kernel
theorem dX5_seatFor_76 : decode cX5_seatFor 76 = .ok (.iload 6, 2) := by decide +kernel
theorem dX5_seatFor_78 : decode cX5_seatFor 78 = .ok (.iload 4, 2) := by decide +kernel
theorem dX5_seatFor_80 : decode cX5_seatFor 80 = .ok (.if_icmp .le 10, 3) := by decide +kernel
theorem dX5_seatFor_83 : decode cX5_seatFor 83 = .ok (.iload 6, 2) := by decide +kernel
theorem dX5_seatFor_85 : decode cX5_seatFor 85 = .ok (.istore 4, 2) := by decide +kernel
theorem dX5_seatFor_87 : decode cX5_seatFor 87 = .ok (.iload 5, 2) := by decide +kernel
theorem dX5_seatFor_89 : decode cX5_seatFor 89 = .ok (.istore_n 3, 1) := by decide +kernel
theorem dX5_seatFor_90 : decode cX5_seatFor 90 = .ok (.iinc 5 1, 3) := by decide +kernel
theorem dX5_seatFor_93 : decode cX5_seatFor 93 = .ok (.goto (-62), 3) := by decide +kernel
theorem dX5_seatFor_96 : decode cX5_seatFor 96 = .ok (.iload_n 3, 1) := by decide +kernel
theorem dX5_seatFor_97 : decode cX5_seatFor 97 = .ok (.ireturn, 1) := by decide +kernel
theorem dX5_quickFor_0 : decode cX5_quickFor 0 = .ok (.aload_n 0, 1) := by decide +kernel
theorem dX5_quickFor_1 : decode cX5_quickFor 1 = .ok (.iload_n 1, 1) := by decide +kernel
theorem dX5_quickFor_2 : decode cX5_quickFor 2 = .ok (.invokevirtual 88, 3) := by decide +kernel
theorem dX5_quickFor_5 : decode cX5_quickFor 5 = .ok (.ifCond .eq 21, 3) := by decide +kernel
theorem dX5_quickFor_8 : decode cX5_quickFor 8 = .ok (.iload_n 2, 1) := by decide +kernel
theorem dX5_quickFor_9 : decode cX5_quickFor 9 = .ok (.bipush 11, 2) := by decide +kernel
theorem dX5_quickFor_11 : decode cX5_quickFor 11 = .ok (.invokestatic 44, 3) := by decide +kernel
theorem dX5_quickFor_14 : decode cX5_quickFor 14 = .ok (.ifCond .eq 12, 3) := by decide +kernel
theorem dX5_quickFor_17 : decode cX5_quickFor 17 = .ok (.iload_n 3, 1) := by decide +kernel
theorem dX5_quickFor_18 : decode cX5_quickFor 18 = .ok (.bipush 60, 2) := by decide +kernel
theorem dX5_quickFor_20 : decode cX5_quickFor 20 = .ok (.invokestatic 44, 3) := by decide +kernel
theorem dX5_quickFor_23 : decode cX5_quickFor 23 = .ok (.ifCond .ne 9, 3) := by decide +kernel
theorem dX5_quickFor_26 : decode cX5_quickFor 26 = .ok (.aload_n 0, 1) := by decide +kernel
theorem dX5_quickFor_27 : decode cX5_quickFor 27 = .ok (.iconst 0, 1) := by decide +kernel
theorem dX5_quickFor_28 : decode cX5_quickFor 28 = .ok (.invokevirtual 48, 3) := by decide +kernel
theorem dX5_quickFor_31 : decode cX5_quickFor 31 = .ok (.ireturn, 1) := by decide +kernel
theorem dX5_quickFor_32 : decode cX5_quickFor 32 = .ok (.iconst 0, 1) := by decide +kernel
theorem dX5_quickFor_33 : decode cX5_quickFor 33 = .ok (.istore 4, 2) := by decide +kernel
theorem dX5_quickFor_35 : decode cX5_quickFor 35 = .ok (.iload 4, 2) := by decide +kernel
theorem dX5_quickFor_37 : decode cX5_quickFor 37 = .ok (.bipush 9, 2) := by decide +kernel
theorem dX5_quickFor_39 : decode cX5_quickFor 39 = .ok (.if_icmp .gt 52, 3) := by decide +kernel
theorem dX5_quickFor_42 : decode cX5_quickFor 42 = .ok (.aload_n 0, 1) := by decide +kernel
theorem dX5_quickFor_43 : decode cX5_quickFor 43 = .ok (.iload_n 1, 1) := by decide +kernel
theorem dX5_quickFor_44 : decode cX5_quickFor 44 = .ok (.invokevirtual 137, 3) := by decide +kernel
theorem dX5_quickFor_47 : decode cX5_quickFor 47 = .ok (.aload_n 0, 1) := by decide +kernel
theorem dX5_quickFor_48 : decode cX5_quickFor 48 = .ok (.getfield 16, 3) := by decide +kernel
theorem dX5_quickFor_51 : decode cX5_quickFor 51 = .ok (.getfield 93, 3) := by decide +kernel
theorem dX5_quickFor_54 : decode cX5_quickFor 54 = .ok (.iconst 0, 1) := by decide +kernel
theorem dX5_quickFor_55 : decode cX5_quickFor 55 = .ok (.aaload, 1) := by decide +kernel
theorem dX5_quickFor_56 : decode cX5_quickFor 56 = .ok (.getfield 97, 3) := by decide +kernel
theorem dX5_quickFor_59 : decode cX5_quickFor 59 = .ok (.iconst 1, 1) := by decide +kernel
theorem dX5_quickFor_60 : decode cX5_quickFor 60 = .ok (.iload 4, 2) := by decide +kernel
theorem dX5_quickFor_62 : decode cX5_quickFor 62 = .ok (.iastore, 1) := by decide +kernel
theorem dX5_quickFor_63 : decode cX5_quickFor 63 = .ok (.aload_n 0, 1) := by decide +kernel
theorem dX5_quickFor_64 : decode cX5_quickFor 64 = .ok (.getfield 16, 3) := by decide +kernel
theorem dX5_quickFor_67 : decode cX5_quickFor 67 = .ok (.iload_n 3, 1) := by decide +kernel
theorem dX5_quickFor_68 : decode cX5_quickFor 68 = .ok (.invokevirtual 111, 3) := by decide +kernel
theorem dX5_quickFor_71 : decode cX5_quickFor 71 = .ok (.aload_n 0, 1) := by decide +kernel
theorem dX5_quickFor_72 : decode cX5_quickFor 72 = .ok (.getfield 16, 3) := by decide +kernel
theorem dX5_quickFor_75 : decode cX5_quickFor 75 = .ok (.iload_n 2, 1) := by decide +kernel
theorem dX5_quickFor_76 : decode cX5_quickFor 76 = .ok (.invokevirtual 150, 3) := by decide +kernel
theorem dX5_quickFor_79 : decode cX5_quickFor 79 = .ok (.ifCond .eq 6, 3) := by decide +kernel
theorem dX5_quickFor_82 : decode cX5_quickFor 82 = .ok (.iload 4, 2) := by decide +kernel
theorem dX5_quickFor_84 : decode cX5_quickFor 84 = .ok (.ireturn, 1) := by decide +kernel
theorem dX5_quickFor_85 : decode cX5_quickFor 85 = .ok (.iinc 4 1, 3) := by decide +kernel
theorem dX5_quickFor_88 : decode cX5_quickFor 88 = .ok (.goto (-53), 3) := by decide +kernel
theorem dX5_quickFor_91 : decode cX5_quickFor 91 = .ok (.aload_n 0, 1) := by decide +kernel
theorem dX5_quickFor_92 : decode cX5_quickFor 92 = .ok (.iconst 3, 1) := by decide +kernel
theorem dX5_quickFor_93 : decode cX5_quickFor 93 = .ok (.invokevirtual 48, 3) := by decide +kernel
theorem dX5_quickFor_96 : decode cX5_quickFor 96 = .ok (.ireturn, 1) := by decide +kernel
theorem dX5_kindFor_0 : decode cX5_kindFor 0 = .ok (.aload_n 0, 1) := by decide +kernel
theorem dX5_kindFor_1 : decode cX5_kindFor 1 = .ok (.iload_n 1, 1) := by decide +kernel
theorem dX5_kindFor_2 : decode cX5_kindFor 2 = .ok (.invokevirtual 69, 3) := by decide +kernel
theorem dX5_kindFor_5 : decode cX5_kindFor 5 = .ok (.ifCond .eq 12, 3) := by decide +kernel
theorem dX5_kindFor_8 : decode cX5_kindFor 8 = .ok (.iload_n 2, 1) := by decide +kernel
theorem dX5_kindFor_9 : decode cX5_kindFor 9 = .ok (.bipush 60, 2) := by decide +kernel
theorem dX5_kindFor_11 : decode cX5_kindFor 11 = .ok (.invokestatic 44, 3) := by decide +kernel
theorem dX5_kindFor_14 : decode cX5_kindFor 14 = .ok (.ifCond .ne 9, 3) := by decide +kernel
theorem dX5_kindFor_17 : decode cX5_kindFor 17 = .ok (.aload_n 0, 1) := by decide +kernel
theorem dX5_kindFor_18 : decode cX5_kindFor 18 = .ok (.iconst 0, 1) := by decide +kernel
theorem dX5_kindFor_19 : decode cX5_kindFor 19 = .ok (.invokevirtual 48, 3) := by decide +kernel
theorem dX5_kindFor_22 : decode cX5_kindFor 22 = .ok (.ireturn, 1) := by decide +kernel
theorem dX5_kindFor_23 : decode cX5_kindFor 23 = .ok (.iconst 0, 1) := by decide +kernel
theorem dX5_kindFor_24 : decode cX5_kindFor 24 = .ok (.istore_n 3, 1) := by decide +kernel
theorem dX5_kindFor_25 : decode cX5_kindFor 25 = .ok (.iconst (-1), 1) := by decide +kernel
theorem dX5_kindFor_26 : decode cX5_kindFor 26 = .ok (.istore 4, 2) := by decide +kernel
theorem dX5_kindFor_28 : decode cX5_kindFor 28 = .ok (.iconst 0, 1) := by decide +kernel
theorem dX5_kindFor_29 : decode cX5_kindFor 29 = .ok (.istore 5, 2) := by decide +kernel
theorem dX5_kindFor_31 : decode cX5_kindFor 31 = .ok (.iload 5, 2) := by decide +kernel
theorem dX5_kindFor_33 : decode cX5_kindFor 33 = .ok (.bipush 6, 2) := by decide +kernel
theorem dX5_kindFor_35 : decode cX5_kindFor 35 = .ok (.if_icmp .gt 67, 3) := by decide +kernel
theorem dX5_kindFor_38 : decode cX5_kindFor 38 = .ok (.aload_n 0, 1) := by decide +kernel
theorem dX5_kindFor_39 : decode cX5_kindFor 39 = .ok (.getfield 16, 3) := by decide +kernel
theorem dX5_kindFor_42 : decode cX5_kindFor 42 = .ok (.aload_n 0, 1) := by decide +kernel
theorem dX5_kindFor_43 : decode cX5_kindFor 43 = .ok (.getfield 10, 3) := by decide +kernel
theorem dX5_kindFor_46 : decode cX5_kindFor 46 = .ok (.invokevirtual 143, 3) := by decide +kernel
theorem dX5_kindFor_49 : decode cX5_kindFor 49 = .ok (.aload_n 0, 1) := by decide +kernel
theorem dX5_kindFor_50 : decode cX5_kindFor 50 = .ok (.getfield 16, 3) := by decide +kernel
theorem dX5_kindFor_53 : decode cX5_kindFor 53 = .ok (.getfield 81, 3) := by decide +kernel
theorem dX5_kindFor_56 : decode cX5_kindFor 56 = .ok (.iload_n 1, 1) := by decide +kernel
theorem dX5_kindFor_57 : decode cX5_kindFor 57 = .ok (.aaload, 1) := by decide +kernel
theorem dX5_kindFor_58 : decode cX5_kindFor 58 = .ok (.getfield 85, 3) := by decide +kernel
theorem dX5_kindFor_61 : decode cX5_kindFor 61 = .ok (.iconst 0, 1) := by decide +kernel
theorem dX5_kindFor_62 : decode cX5_kindFor 62 = .ok (.iload 5, 2) := by decide +kernel
theorem dX5_kindFor_64 : decode cX5_kindFor 64 = .ok (.iastore, 1) := by decide +kernel
theorem dX5_kindFor_65 : decode cX5_kindFor 65 = .ok (.aload_n 0, 1) := by decide +kernel
theorem dX5_kindFor_66 : decode cX5_kindFor 66 = .ok (.getfield 16, 3) := by decide +kernel
theorem dX5_kindFor_69 : decode cX5_kindFor 69 = .ok (.iload_n 2, 1) := by decide +kernel
theorem dX5_kindFor_70 : decode cX5_kindFor 70 = .ok (.invokevirtual 111, 3) := by decide +kernel
theorem dX5_kindFor_73 : decode cX5_kindFor 73 = .ok (.aload_n 0, 1) := by decide +kernel
theorem dX5_kindFor_74 : decode cX5_kindFor 74 = .ok (.getfield 16, 3) := by decide +kernel
theorem dX5_kindFor_77 : decode cX5_kindFor 77 = .ok (.invokevirtual 115, 3) := by decide +kernel
theorem dX5_kindFor_80 : decode cX5_kindFor 80 = .ok (.istore 6, 2) := by decide +kernel
theorem dX5_kindFor_82 : decode cX5_kindFor 82 = .ok (.iload 6, 2) := by decide +kernel
theorem dX5_kindFor_84 : decode cX5_kindFor 84 = .ok (.iload 4, 2) := by decide +kernel
theorem dX5_kindFor_86 : decode cX5_kindFor 86 = .ok (.if_icmp .le 10, 3) := by decide +kernel
theorem dX5_kindFor_89 : decode cX5_kindFor 89 = .ok (.iload 6, 2) := by decide +kernel
theorem dX5_kindFor_91 : decode cX5_kindFor 91 = .ok (.istore 4, 2) := by decide +kernel
theorem dX5_kindFor_93 : decode cX5_kindFor 93 = .ok (.iload 5, 2) := by decide +kernel
theorem dX5_kindFor_95 : decode cX5_kindFor 95 = .ok (.istore_n 3, 1) := by decide +kernel
theorem dX5_kindFor_96 : decode cX5_kindFor 96 = .ok (.iinc 5 1, 3) := by decide +kernel
theorem dX5_kindFor_99 : decode cX5_kindFor 99 = .ok (.goto (-68), 3) := by decide +kernel
theorem dX5_kindFor_102 : decode cX5_kindFor 102 = .ok (.iload_n 3, 1) := by decide +kernel
theorem dX5_kindFor_103 : decode cX5_kindFor 103 = .ok (.ireturn, 1) := by decide +kernel
theorem dX5_fogFor_0 : decode cX5_fogFor 0 = .ok (.iload_n 1, 1) := by decide +kernel
theorem dX5_fogFor_1 : decode cX5_fogFor 1 = .ok (.iconst 5, 1) := by decide +kernel
theorem dX5_fogFor_2 : decode cX5_fogFor 2 = .ok (.invokestatic 44, 3) := by decide +kernel
theorem dX5_fogFor_5 : decode cX5_fogFor 5 = .ok (.ifCond .eq 21, 3) := by decide +kernel
theorem dX5_fogFor_8 : decode cX5_fogFor 8 = .ok (.iload_n 2, 1) := by decide +kernel
theorem dX5_fogFor_9 : decode cX5_fogFor 9 = .ok (.bipush 72, 2) := by decide +kernel
theorem dX5_fogFor_11 : decode cX5_fogFor 11 = .ok (.invokestatic 44, 3) := by decide +kernel
theorem dX5_fogFor_14 : decode cX5_fogFor 14 = .ok (.ifCond .eq 12, 3) := by decide +kernel
theorem dX5_fogFor_17 : decode cX5_fogFor 17 = .ok (.iload_n 3, 1) := by decide +kernel
theorem dX5_fogFor_18 : decode cX5_fogFor 18 = .ok (.bipush 60, 2) := by decide +kernel
theorem dX5_fogFor_20 : decode cX5_fogFor 20 = .ok (.invokestatic 44, 3) := by decide +kernel
theorem dX5_fogFor_23 : decode cX5_fogFor 23 = .ok (.ifCond .ne 9, 3) := by decide +kernel
theorem dX5_fogFor_26 : decode cX5_fogFor 26 = .ok (.aload_n 0, 1) := by decide +kernel
theorem dX5_fogFor_27 : decode cX5_fogFor 27 = .ok (.iconst 0, 1) := by decide +kernel
theorem dX5_fogFor_28 : decode cX5_fogFor 28 = .ok (.invokevirtual 48, 3) := by decide +kernel
theorem dX5_fogFor_31 : decode cX5_fogFor 31 = .ok (.ireturn, 1) := by decide +kernel
theorem dX5_fogFor_32 : decode cX5_fogFor 32 = .ok (.bipush 9, 2) := by decide +kernel
theorem dX5_fogFor_34 : decode cX5_fogFor 34 = .ok (.istore 4, 2) := by decide +kernel
theorem dX5_fogFor_36 : decode cX5_fogFor 36 = .ok (.iload 4, 2) := by decide +kernel
theorem dX5_fogFor_38 : decode cX5_fogFor 38 = .ok (.ifCond .lt 53, 3) := by decide +kernel
theorem dX5_fogFor_41 : decode cX5_fogFor 41 = .ok (.aload_n 0, 1) := by decide +kernel
theorem dX5_fogFor_42 : decode cX5_fogFor 42 = .ok (.getfield 16, 3) := by decide +kernel
theorem dX5_fogFor_45 : decode cX5_fogFor 45 = .ok (.aload_n 0, 1) := by decide +kernel
theorem dX5_fogFor_46 : decode cX5_fogFor 46 = .ok (.getfield 10, 3) := by decide +kernel
theorem dX5_fogFor_49 : decode cX5_fogFor 49 = .ok (.invokevirtual 143, 3) := by decide +kernel
theorem dX5_fogFor_52 : decode cX5_fogFor 52 = .ok (.aload_n 0, 1) := by decide +kernel
theorem dX5_fogFor_53 : decode cX5_fogFor 53 = .ok (.getfield 16, 3) := by decide +kernel
theorem dX5_fogFor_56 : decode cX5_fogFor 56 = .ok (.getfield 52, 3) := by decide +kernel
theorem dX5_fogFor_59 : decode cX5_fogFor 59 = .ok (.iload_n 1, 1) := by decide +kernel
theorem dX5_fogFor_60 : decode cX5_fogFor 60 = .ok (.iload 4, 2) := by decide +kernel
theorem dX5_fogFor_62 : decode cX5_fogFor 62 = .ok (.iastore, 1) := by decide +kernel
theorem dX5_fogFor_63 : decode cX5_fogFor 63 = .ok (.aload_n 0, 1) := by decide +kernel
theorem dX5_fogFor_64 : decode cX5_fogFor 64 = .ok (.getfield 16, 3) := by decide +kernel
theorem dX5_fogFor_67 : decode cX5_fogFor 67 = .ok (.iload_n 3, 1) := by decide +kernel
theorem dX5_fogFor_68 : decode cX5_fogFor 68 = .ok (.invokevirtual 111, 3) := by decide +kernel
theorem dX5_fogFor_71 : decode cX5_fogFor 71 = .ok (.aload_n 0, 1) := by decide +kernel
theorem dX5_fogFor_72 : decode cX5_fogFor 72 = .ok (.getfield 16, 3) := by decide +kernel
theorem dX5_fogFor_75 : decode cX5_fogFor 75 = .ok (.invokevirtual 115, 3) := by decide +kernel
theorem dX5_fogFor_78 : decode cX5_fogFor 78 = .ok (.iload_n 2, 1) := by decide +kernel
theorem dX5_fogFor_79 : decode cX5_fogFor 79 = .ok (.if_icmp .lt 6, 3) := by decide +kernel
theorem dX5_fogFor_82 : decode cX5_fogFor 82 = .ok (.iload 4, 2) := by decide +kernel
theorem dX5_fogFor_84 : decode cX5_fogFor 84 = .ok (.ireturn, 1) := by decide +kernel
theorem dX5_fogFor_85 : decode cX5_fogFor 85 = .ok (.iinc 4 (-1), 3) := by decide +kernel
theorem dX5_fogFor_88 : decode cX5_fogFor 88 = .ok (.goto (-52), 3) := by decide +kernel
theorem dX5_fogFor_91 : decode cX5_fogFor 91 = .ok (.aload_n 0, 1) := by decide +kernel
theorem dX5_fogFor_92 : decode cX5_fogFor 92 = .ok (.iconst 3, 1) := by decide +kernel
theorem dX5_fogFor_93 : decode cX5_fogFor 93 = .ok (.invokevirtual 48, 3) := by decide +kernel
theorem dX5_fogFor_96 : decode cX5_fogFor 96 = .ok (.ireturn, 1) := by decide +kernel
theorem dX5_hush_0 : decode cX5_hush 0 = .ok (.iload_n 1, 1) := by decide +kernel
theorem dX5_hush_1 : decode cX5_hush 1 = .ok (.bipush 20, 2) := by decide +kernel
theorem dX5_hush_3 : decode cX5_hush 3 = .ok (.invokestatic 44, 3) := by decide +kernel
theorem dX5_hush_6 : decode cX5_hush 6 = .ok (.ifCond .ne 9, 3) := by decide +kernel
theorem dX5_hush_9 : decode cX5_hush 9 = .ok (.aload_n 0, 1) := by decide +kernel
theorem dX5_hush_10 : decode cX5_hush 10 = .ok (.iconst 0, 1) := by decide +kernel
theorem dX5_hush_11 : decode cX5_hush 11 = .ok (.invokevirtual 48, 3) := by decide +kernel
theorem dX5_hush_14 : decode cX5_hush 14 = .ok (.ireturn, 1) := by decide +kernel
theorem dX5_hush_15 : decode cX5_hush 15 = .ok (.aload_n 0, 1) := by decide +kernel
theorem dX5_hush_16 : decode cX5_hush 16 = .ok (.getfield 10, 3) := by decide +kernel
theorem dX5_hush_19 : decode cX5_hush 19 = .ok (.invokevirtual 115, 3) := by decide +kernel
theorem dX5_hush_22 : decode cX5_hush 22 = .ok (.istore_n 2, 1) := by decide +kernel
theorem dX5_hush_23 : decode cX5_hush 23 = .ok (.iconst 0, 1) := by decide +kernel
theorem dX5_hush_24 : decode cX5_hush 24 = .ok (.istore_n 3, 1) := by decide +kernel
theorem dX5_hush_25 : decode cX5_hush 25 = .ok (.iconst 0, 1) := by decide +kernel
theorem dX5_hush_26 : decode cX5_hush 26 = .ok (.istore 4, 2) := by decide +kernel
theorem dX5_hush_28 : decode cX5_hush 28 = .ok (.iload 4, 2) := by decide +kernel
theorem dX5_hush_30 : decode cX5_hush 30 = .ok (.aload_n 0, 1) := by decide +kernel
theorem dX5_hush_31 : decode cX5_hush 31 = .ok (.getfield 10, 3) := by decide +kernel
theorem dX5_hush_34 : decode cX5_hush 34 = .ok (.getfield 99, 3) := by decide +kernel
theorem dX5_hush_37 : decode cX5_hush 37 = .ok (.if_icmp .ge 55, 3) := by decide +kernel
theorem dX5_hush_40 : decode cX5_hush 40 = .ok (.aload_n 0, 1) := by decide +kernel
theorem dX5_hush_41 : decode cX5_hush 41 = .ok (.getfield 16, 3) := by decide +kernel
theorem dX5_hush_44 : decode cX5_hush 44 = .ok (.aload_n 0, 1) := by decide +kernel
theorem dX5_hush_45 : decode cX5_hush 45 = .ok (.getfield 10, 3) := by decide +kernel
theorem dX5_hush_48 : decode cX5_hush 48 = .ok (.invokevirtual 143, 3) := by decide +kernel
theorem dX5_hush_51 : decode cX5_hush 51 = .ok (.aload_n 0, 1) := by decide +kernel
theorem dX5_hush_52 : decode cX5_hush 52 = .ok (.getfield 16, 3) := by decide +kernel
theorem dX5_hush_55 : decode cX5_hush 55 = .ok (.iload 4, 2) := by decide +kernel
theorem dX5_hush_57 : decode cX5_hush 57 = .ok (.invokevirtual 153, 3) := by decide +kernel
theorem dX5_hush_60 : decode cX5_hush 60 = .ok (.aload_n 0, 1) := by decide +kernel
theorem dX5_hush_61 : decode cX5_hush 61 = .ok (.getfield 16, 3) := by decide +kernel
theorem dX5_hush_64 : decode cX5_hush 64 = .ok (.iload_n 1, 1) := by decide +kernel
theorem dX5_hush_65 : decode cX5_hush 65 = .ok (.invokevirtual 111, 3) := by decide +kernel
theorem dX5_hush_68 : decode cX5_hush 68 = .ok (.aload_n 0, 1) := by decide +kernel
theorem dX5_hush_69 : decode cX5_hush 69 = .ok (.getfield 16, 3) := by decide +kernel
theorem dX5_hush_72 : decode cX5_hush 72 = .ok (.invokevirtual 115, 3) := by decide +kernel
theorem dX5_hush_75 : decode cX5_hush 75 = .ok (.iload_n 2, 1) := by decide +kernel
theorem dX5_hush_76 : decode cX5_hush 76 = .ok (.if_icmp .le 10, 3) := by decide +kernel
theorem dX5_hush_79 : decode cX5_hush 79 = .ok (.iload_n 3, 1) := by decide +kernel
theorem dX5_hush_80 : decode cX5_hush 80 = .ok (.iconst 1, 1) := by decide +kernel
theorem dX5_hush_81 : decode cX5_hush 81 = .ok (.iload 4, 2) := by decide +kernel
theorem dX5_hush_83 : decode cX5_hush 83 = .ok (.ishl, 1) := by decide +kernel
theorem dX5_hush_84 : decode cX5_hush 84 = .ok (.ior, 1) := by decide +kernel
theorem dX5_hush_85 : decode cX5_hush 85 = .ok (.istore_n 3, 1) := by decide +kernel
theorem dX5_hush_86 : decode cX5_hush 86 = .ok (.iinc 4 1, 3) := by decide +kernel
theorem dX5_hush_89 : decode cX5_hush 89 = .ok (.goto (-61), 3) := by decide +kernel
theorem dX5_hush_92 : decode cX5_hush 92 = .ok (.iload_n 3, 1) := by decide +kernel
theorem dX5_hush_93 : decode cX5_hush 93 = .ok (.ireturn, 1) := by decide +kernel
theorem dX5_fits_0 : decode cX5_fits 0 = .ok (.aload_n 0, 1) := by decide +kernel
theorem dX5_fits_1 : decode cX5_fits 1 = .ok (.iload_n 1, 1) := by decide +kernel
theorem dX5_fits_2 : decode cX5_fits 2 = .ok (.invokevirtual 156, 3) := by decide +kernel
theorem dX5_fits_5 : decode cX5_fits 5 = .ok (.istore_n 3, 1) := by decide +kernel
theorem dX5_fits_6 : decode cX5_fits 6 = .ok (.iload_n 3, 1) := by decide +kernel
theorem dX5_fits_7 : decode cX5_fits 7 = .ok (.ifCond .eq 5, 3) := by decide +kernel
theorem dX5_fits_10 : decode cX5_fits 10 = .ok (.iload_n 3, 1) := by decide +kernel
theorem dX5_fits_11 : decode cX5_fits 11 = .ok (.ireturn, 1) := by decide +kernel
theorem dX5_fits_12 : decode cX5_fits 12 = .ok (.aload_n 0, 1) := by decide +kernel
theorem dX5_fits_13 : decode cX5_fits 13 = .ok (.iload_n 2, 1) := by decide +kernel
theorem dX5_fits_14 : decode cX5_fits 14 = .ok (.invokevirtual 88, 3) := by decide +kernel
theorem dX5_fits_17 : decode cX5_fits 17 = .ok (.ifCond .ne 9, 3) := by decide +kernel
theorem dX5_fits_20 : decode cX5_fits 20 = .ok (.aload_n 0, 1) := by decide +kernel
theorem dX5_fits_21 : decode cX5_fits 21 = .ok (.iconst 0, 1) := by decide +kernel
theorem dX5_fits_22 : decode cX5_fits 22 = .ok (.invokevirtual 48, 3) := by decide +kernel
theorem dX5_fits_25 : decode cX5_fits 25 = .ok (.ireturn, 1) := by decide +kernel
theorem dX5_fits_26 : decode cX5_fits 26 = .ok (.iconst 0, 1) := by decide +kernel
theorem dX5_fits_27 : decode cX5_fits 27 = .ok (.istore 4, 2) := by decide +kernel
theorem dX5_fits_29 : decode cX5_fits 29 = .ok (.iconst 0, 1) := by decide +kernel
theorem dX5_fits_30 : decode cX5_fits 30 = .ok (.istore 5, 2) := by decide +kernel
theorem dX5_fits_32 : decode cX5_fits 32 = .ok (.iload 5, 2) := by decide +kernel
theorem dX5_fits_34 : decode cX5_fits 34 = .ok (.bipush 9, 2) := by decide +kernel
theorem dX5_fits_36 : decode cX5_fits 36 = .ok (.if_icmp .gt 59, 3) := by decide +kernel
theorem dX5_fits_39 : decode cX5_fits 39 = .ok (.aload_n 0, 1) := by decide +kernel
theorem dX5_fits_40 : decode cX5_fits 40 = .ok (.iload_n 2, 1) := by decide +kernel
theorem dX5_fits_41 : decode cX5_fits 41 = .ok (.invokevirtual 137, 3) := by decide +kernel
theorem dX5_fits_44 : decode cX5_fits 44 = .ok (.aload_n 0, 1) := by decide +kernel
theorem dX5_fits_45 : decode cX5_fits 45 = .ok (.getfield 16, 3) := by decide +kernel
theorem dX5_fits_48 : decode cX5_fits 48 = .ok (.getfield 93, 3) := by decide +kernel
theorem dX5_fits_51 : decode cX5_fits 51 = .ok (.iconst 0, 1) := by decide +kernel
theorem dX5_fits_52 : decode cX5_fits 52 = .ok (.aaload, 1) := by decide +kernel
theorem dX5_fits_53 : decode cX5_fits 53 = .ok (.getfield 97, 3) := by decide +kernel
theorem dX5_fits_56 : decode cX5_fits 56 = .ok (.iconst 1, 1) := by decide +kernel
theorem dX5_fits_57 : decode cX5_fits 57 = .ok (.iload 5, 2) := by decide +kernel
theorem dX5_fits_59 : decode cX5_fits 59 = .ok (.iastore, 1) := by decide +kernel
theorem dX5_fits_60 : decode cX5_fits 60 = .ok (.aload_n 0, 1) := by decide +kernel
theorem dX5_fits_61 : decode cX5_fits 61 = .ok (.aload_n 0, 1) := by decide +kernel
theorem dX5_fits_62 : decode cX5_fits 62 = .ok (.getfield 31, 3) := by decide +kernel
theorem dX5_fits_65 : decode cX5_fits 65 = .ok (.iload_n 1, 1) := by decide +kernel
theorem dX5_fits_66 : decode cX5_fits 66 = .ok (.aaload, 1) := by decide +kernel
theorem dX5_fits_67 : decode cX5_fits 67 = .ok (.aload_n 0, 1) := by decide +kernel
theorem dX5_fits_68 : decode cX5_fits 68 = .ok (.getfield 16, 3) := by decide +kernel
theorem dX5_fits_71 : decode cX5_fits 71 = .ok (.getfield 93, 3) := by decide +kernel
theorem dX5_fits_74 : decode cX5_fits 74 = .ok (.iconst 0, 1) := by decide +kernel
theorem dX5_fits_75 : decode cX5_fits 75 = .ok (.aaload, 1) := by decide +kernel
theorem dX5_fits_76 : decode cX5_fits 76 = .ok (.getfield 97, 3) := by decide +kernel
theorem dX5_fits_79 : decode cX5_fits 79 = .ok (.iconst 2, 1) := by decide +kernel
theorem dX5_fits_80 : decode cX5_fits 80 = .ok (.invokevirtual 159, 3) := by decide +kernel
theorem dX5_fits_83 : decode cX5_fits 83 = .ok (.ifCond .eq 6, 3) := by decide +kernel
theorem dX5_fits_86 : decode cX5_fits 86 = .ok (.iinc 4 1, 3) := by decide +kernel
theorem dX5_fits_89 : decode cX5_fits 89 = .ok (.iinc 5 1, 3) := by decide +kernel
theorem dX5_fits_92 : decode cX5_fits 92 = .ok (.goto (-60), 3) := by decide +kernel
theorem dX5_fits_95 : decode cX5_fits 95 = .ok (.iload 4, 2) := by decide +kernel
theorem dX5_fits_97 : decode cX5_fits 97 = .ok (.ireturn, 1) := by decide +kernel
theorem dX5_kinds_0 : decode cX5_kinds 0 = .ok (.aload_n 0, 1) := by decide +kernel
theorem dX5_kinds_1 : decode cX5_kinds 1 = .ok (.iload_n 1, 1) := by decide +kernel
theorem dX5_kinds_2 : decode cX5_kinds 2 = .ok (.invokevirtual 156, 3) := by decide +kernel
theorem dX5_kinds_5 : decode cX5_kinds 5 = .ok (.istore_n 3, 1) := by decide +kernel
theorem dX5_kinds_6 : decode cX5_kinds 6 = .ok (.iload_n 3, 1) := by decide +kernel
theorem dX5_kinds_7 : decode cX5_kinds 7 = .ok (.ifCond .eq 5, 3) := by decide +kernel
theorem dX5_kinds_10 : decode cX5_kinds 10 = .ok (.iload_n 3, 1) := by decide +kernel
theorem dX5_kinds_11 : decode cX5_kinds 11 = .ok (.ireturn, 1) := by decide +kernel
theorem dX5_kinds_12 : decode cX5_kinds 12 = .ok (.aload_n 0, 1) := by decide +kernel
theorem dX5_kinds_13 : decode cX5_kinds 13 = .ok (.iload_n 2, 1) := by decide +kernel
theorem dX5_kinds_14 : decode cX5_kinds 14 = .ok (.invokevirtual 69, 3) := by decide +kernel
theorem dX5_kinds_17 : decode cX5_kinds 17 = .ok (.ifCond .ne 9, 3) := by decide +kernel
theorem dX5_kinds_20 : decode cX5_kinds 20 = .ok (.aload_n 0, 1) := by decide +kernel
theorem dX5_kinds_21 : decode cX5_kinds 21 = .ok (.iconst 0, 1) := by decide +kernel
theorem dX5_kinds_22 : decode cX5_kinds 22 = .ok (.invokevirtual 48, 3) := by decide +kernel
theorem dX5_kinds_25 : decode cX5_kinds 25 = .ok (.ireturn, 1) := by decide +kernel
theorem dX5_kinds_26 : decode cX5_kinds 26 = .ok (.iconst 0, 1) := by decide +kernel
theorem dX5_kinds_27 : decode cX5_kinds 27 = .ok (.istore 4, 2) := by decide +kernel
theorem dX5_kinds_29 : decode cX5_kinds 29 = .ok (.iconst 0, 1) := by decide +kernel
theorem dX5_kinds_30 : decode cX5_kinds 30 = .ok (.istore 5, 2) := by decide +kernel
theorem dX5_kinds_32 : decode cX5_kinds 32 = .ok (.iload 5, 2) := by decide +kernel
theorem dX5_kinds_34 : decode cX5_kinds 34 = .ok (.bipush 6, 2) := by decide +kernel
theorem dX5_kinds_36 : decode cX5_kinds 36 = .ok (.if_icmp .gt 65, 3) := by decide +kernel
theorem dX5_kinds_39 : decode cX5_kinds 39 = .ok (.aload_n 0, 1) := by decide +kernel
theorem dX5_kinds_40 : decode cX5_kinds 40 = .ok (.iload_n 2, 1) := by decide +kernel
theorem dX5_kinds_41 : decode cX5_kinds 41 = .ok (.invokevirtual 134, 3) := by decide +kernel
theorem dX5_kinds_44 : decode cX5_kinds 44 = .ok (.aload_n 0, 1) := by decide +kernel
theorem dX5_kinds_45 : decode cX5_kinds 45 = .ok (.getfield 16, 3) := by decide +kernel
theorem dX5_kinds_48 : decode cX5_kinds 48 = .ok (.getfield 81, 3) := by decide +kernel
theorem dX5_kinds_51 : decode cX5_kinds 51 = .ok (.iconst 0, 1) := by decide +kernel
theorem dX5_kinds_52 : decode cX5_kinds 52 = .ok (.aaload, 1) := by decide +kernel
theorem dX5_kinds_53 : decode cX5_kinds 53 = .ok (.getfield 85, 3) := by decide +kernel
theorem dX5_kinds_56 : decode cX5_kinds 56 = .ok (.iconst 0, 1) := by decide +kernel
theorem dX5_kinds_57 : decode cX5_kinds 57 = .ok (.iload 5, 2) := by decide +kernel
theorem dX5_kinds_59 : decode cX5_kinds 59 = .ok (.iastore, 1) := by decide +kernel
theorem dX5_kinds_60 : decode cX5_kinds 60 = .ok (.aload_n 0, 1) := by decide +kernel
theorem dX5_kinds_61 : decode cX5_kinds 61 = .ok (.aload_n 0, 1) := by decide +kernel
theorem dX5_kinds_62 : decode cX5_kinds 62 = .ok (.getfield 31, 3) := by decide +kernel
theorem dX5_kinds_65 : decode cX5_kinds 65 = .ok (.iload_n 1, 1) := by decide +kernel
theorem dX5_kinds_66 : decode cX5_kinds 66 = .ok (.aaload, 1) := by decide +kernel
theorem dX5_kinds_67 : decode cX5_kinds 67 = .ok (.aload_n 0, 1) := by decide +kernel
theorem dX5_kinds_68 : decode cX5_kinds 68 = .ok (.getfield 16, 3) := by decide +kernel
theorem dX5_kinds_71 : decode cX5_kinds 71 = .ok (.getfield 81, 3) := by decide +kernel
theorem dX5_kinds_74 : decode cX5_kinds 74 = .ok (.iconst 0, 1) := by decide +kernel
theorem dX5_kinds_75 : decode cX5_kinds 75 = .ok (.aaload, 1) := by decide +kernel
theorem dX5_kinds_76 : decode cX5_kinds 76 = .ok (.getfield 85, 3) := by decide +kernel
theorem dX5_kinds_79 : decode cX5_kinds 79 = .ok (.iconst 2, 1) := by decide +kernel
theorem dX5_kinds_80 : decode cX5_kinds 80 = .ok (.invokevirtual 159, 3) := by decide +kernel
theorem dX5_kinds_83 : decode cX5_kinds 83 = .ok (.ifCond .eq 12, 3) := by decide +kernel
theorem dX5_kinds_86 : decode cX5_kinds 86 = .ok (.iload 4, 2) := by decide +kernel
theorem dX5_kinds_88 : decode cX5_kinds 88 = .ok (.iconst 1, 1) := by decide +kernel
theorem dX5_kinds_89 : decode cX5_kinds 89 = .ok (.iload 5, 2) := by decide +kernel
theorem dX5_kinds_91 : decode cX5_kinds 91 = .ok (.ishl, 1) := by decide +kernel
theorem dX5_kinds_92 : decode cX5_kinds 92 = .ok (.ior, 1) := by decide +kernel
theorem dX5_kinds_93 : decode cX5_kinds 93 = .ok (.istore 4, 2) := by decide +kernel
theorem dX5_kinds_95 : decode cX5_kinds 95 = .ok (.iinc 5 1, 3) := by decide +kernel
theorem dX5_kinds_98 : decode cX5_kinds 98 = .ok (.goto (-66), 3) := by decide +kernel
theorem dX5_kinds_101 : decode cX5_kinds 101 = .ok (.iload 4, 2) := by decide +kernel
theorem dX5_kinds_103 : decode cX5_kinds 103 = .ok (.ireturn, 1) := by decide +kernel
theorem dX5_autumn_0 : decode cX5_autumn 0 = .ok (.iload_n 1, 1) := by decide +kernel
theorem dX5_autumn_1 : decode cX5_autumn 1 = .ok (.iconst 1, 1) := by decide +kernel
theorem dX5_autumn_2 : decode cX5_autumn 2 = .ok (.if_icmp .lt 9, 3) := by decide +kernel
theorem dX5_autumn_5 : decode cX5_autumn 5 = .ok (.iload_n 1, 1) := by decide +kernel
theorem dX5_autumn_6 : decode cX5_autumn 6 = .ok (.bipush 20, 2) := by decide +kernel
theorem dX5_autumn_8 : decode cX5_autumn 8 = .ok (.if_icmp .le 9, 3) := by decide +kernel
theorem dX5_autumn_11 : decode cX5_autumn 11 = .ok (.aload_n 0, 1) := by decide +kernel
theorem dX5_autumn_12 : decode cX5_autumn 12 = .ok (.iconst 0, 1) := by decide +kernel
theorem dX5_autumn_13 : decode cX5_autumn 13 = .ok (.invokevirtual 48, 3) := by decide +kernel
theorem dX5_autumn_16 : decode cX5_autumn 16 = .ok (.ireturn, 1) := by decide +kernel
theorem dX5_autumn_17 : decode cX5_autumn 17 = .ok (.aload_n 0, 1) := by decide +kernel
theorem dX5_autumn_18 : decode cX5_autumn 18 = .ok (.getfield 10, 3) := by decide +kernel
theorem dX5_autumn_21 : decode cX5_autumn 21 = .ok (.getfield 107, 3) := by decide +kernel
theorem dX5_autumn_24 : decode cX5_autumn 24 = .ok (.iload_n 1, 1) := by decide +kernel
theorem dX5_autumn_25 : decode cX5_autumn 25 = .ok (.iadd, 1) := by decide +kernel
theorem dX5_autumn_26 : decode cX5_autumn 26 = .ok (.ldc 110, 2) := by decide +kernel
theorem dX5_autumn_28 : decode cX5_autumn 28 = .ok (.if_icmp .le 9, 3) := by decide +kernel
theorem dX5_autumn_31 : decode cX5_autumn 31 = .ok (.aload_n 0, 1) := by decide +kernel
theorem dX5_autumn_32 : decode cX5_autumn 32 = .ok (.iconst 4, 1) := by decide +kernel
theorem dX5_autumn_33 : decode cX5_autumn 33 = .ok (.invokevirtual 48, 3) := by decide +kernel
theorem dX5_autumn_36 : decode cX5_autumn 36 = .ok (.ireturn, 1) := by decide +kernel
theorem dX5_autumn_37 : decode cX5_autumn 37 = .ok (.iconst 0, 1) := by decide +kernel
theorem dX5_autumn_38 : decode cX5_autumn 38 = .ok (.istore_n 2, 1) := by decide +kernel
theorem dX5_autumn_39 : decode cX5_autumn 39 = .ok (.iload_n 2, 1) := by decide +kernel
theorem dX5_autumn_40 : decode cX5_autumn 40 = .ok (.iload_n 1, 1) := by decide +kernel
theorem dX5_autumn_41 : decode cX5_autumn 41 = .ok (.if_icmp .ge 78, 3) := by decide +kernel
theorem dX5_autumn_44 : decode cX5_autumn 44 = .ok (.aload_n 0, 1) := by decide +kernel
theorem dX5_autumn_45 : decode cX5_autumn 45 = .ok (.getfield 10, 3) := by decide +kernel
theorem dX5_autumn_48 : decode cX5_autumn 48 = .ok (.getfield 52, 3) := by decide +kernel
theorem dX5_autumn_51 : decode cX5_autumn 51 = .ok (.aload_n 0, 1) := by decide +kernel
theorem dX5_autumn_52 : decode cX5_autumn 52 = .ok (.getfield 10, 3) := by decide +kernel
theorem dX5_autumn_55 : decode cX5_autumn 55 = .ok (.getfield 107, 3) := by decide +kernel
theorem dX5_autumn_58 : decode cX5_autumn 58 = .ok (.bipush 6, 2) := by decide +kernel
theorem dX5_autumn_60 : decode cX5_autumn 60 = .ok (.irem, 1) := by decide +kernel
theorem dX5_autumn_61 : decode cX5_autumn 61 = .ok (.aload_n 0, 1) := by decide +kernel
theorem dX5_autumn_62 : decode cX5_autumn 62 = .ok (.getfield 10, 3) := by decide +kernel
theorem dX5_autumn_65 : decode cX5_autumn 65 = .ok (.invokevirtual 163, 3) := by decide +kernel
theorem dX5_autumn_68 : decode cX5_autumn 68 = .ok (.bipush 10, 2) := by decide +kernel
theorem dX5_autumn_70 : decode cX5_autumn 70 = .ok (.irem, 1) := by decide +kernel
theorem dX5_autumn_71 : decode cX5_autumn 71 = .ok (.iastore, 1) := by decide +kernel
theorem dX5_autumn_72 : decode cX5_autumn 72 = .ok (.aload_n 0, 1) := by decide +kernel
theorem dX5_autumn_73 : decode cX5_autumn 73 = .ok (.getfield 10, 3) := by decide +kernel
theorem dX5_autumn_76 : decode cX5_autumn 76 = .ok (.invokevirtual 163, 3) := by decide +kernel
theorem dX5_autumn_79 : decode cX5_autumn 79 = .ok (.bipush 8, 2) := by decide +kernel
theorem dX5_autumn_81 : decode cX5_autumn 81 = .ok (.irem, 1) := by decide +kernel
theorem dX5_autumn_82 : decode cX5_autumn 82 = .ok (.istore_n 3, 1) := by decide +kernel
theorem dX5_autumn_83 : decode cX5_autumn 83 = .ok (.iload_n 3, 1) := by decide +kernel
theorem dX5_autumn_84 : decode cX5_autumn 84 = .ok (.aload_n 0, 1) := by decide +kernel
theorem dX5_autumn_85 : decode cX5_autumn 85 = .ok (.getfield 10, 3) := by decide +kernel
theorem dX5_autumn_88 : decode cX5_autumn 88 = .ok (.getfield 166, 3) := by decide +kernel
theorem dX5_autumn_91 : decode cX5_autumn 91 = .ok (.if_icmp .ge 15, 3) := by decide +kernel
theorem dX5_autumn_94 : decode cX5_autumn 94 = .ok (.aload_n 0, 1) := by decide +kernel
theorem dX5_autumn_95 : decode cX5_autumn 95 = .ok (.getfield 10, 3) := by decide +kernel
theorem dX5_autumn_98 : decode cX5_autumn 98 = .ok (.getfield 93, 3) := by decide +kernel
theorem dX5_autumn_101 : decode cX5_autumn 101 = .ok (.iload_n 3, 1) := by decide +kernel
theorem dX5_autumn_102 : decode cX5_autumn 102 = .ok (.aaload, 1) := by decide +kernel
theorem dX5_autumn_103 : decode cX5_autumn 103 = .ok (.invokevirtual 169, 3) := by decide +kernel
theorem dX5_autumn_106 : decode cX5_autumn 106 = .ok (.aload_n 0, 1) := by decide +kernel
theorem dX5_autumn_107 : decode cX5_autumn 107 = .ok (.getfield 10, 3) := by decide +kernel
theorem dX5_autumn_110 : decode cX5_autumn 110 = .ok (.invokevirtual 147, 3) := by decide +kernel
theorem dX5_autumn_113 : decode cX5_autumn 113 = .ok (.iinc 2 1, 3) := by decide +kernel
theorem dX5_autumn_116 : decode cX5_autumn 116 = .ok (.goto (-77), 3) := by decide +kernel
theorem dX5_autumn_119 : decode cX5_autumn 119 = .ok (.aload_n 0, 1) := by decide +kernel
theorem dX5_autumn_120 : decode cX5_autumn 120 = .ok (.getfield 10, 3) := by decide +kernel
theorem dX5_autumn_123 : decode cX5_autumn 123 = .ok (.invokevirtual 115, 3) := by decide +kernel
theorem dX5_autumn_126 : decode cX5_autumn 126 = .ok (.ireturn, 1) := by decide +kernel
theorem dX5_odds_0 : decode cX5_odds 0 = .ok (.aload_n 0, 1) := by decide +kernel
theorem dX5_odds_1 : decode cX5_odds 1 = .ok (.iload_n 1, 1) := by decide +kernel
theorem dX5_odds_2 : decode cX5_odds 2 = .ok (.invokevirtual 88, 3) := by decide +kernel
theorem dX5_odds_5 : decode cX5_odds 5 = .ok (.ifCond .eq 29, 3) := by decide +kernel
theorem dX5_odds_8 : decode cX5_odds 8 = .ok (.aload_n 0, 1) := by decide +kernel
theorem dX5_odds_9 : decode cX5_odds 9 = .ok (.iload_n 2, 1) := by decide +kernel
theorem dX5_odds_10 : decode cX5_odds 10 = .ok (.invokevirtual 69, 3) := by decide +kernel
theorem dX5_odds_13 : decode cX5_odds 13 = .ok (.ifCond .eq 21, 3) := by decide +kernel
theorem dX5_odds_16 : decode cX5_odds 16 = .ok (.iload_n 3, 1) := by decide +kernel
theorem dX5_odds_17 : decode cX5_odds 17 = .ok (.bipush 17, 2) := by decide +kernel
theorem dX5_odds_19 : decode cX5_odds 19 = .ok (.invokestatic 44, 3) := by decide +kernel
theorem dX5_odds_22 : decode cX5_odds 22 = .ok (.ifCond .eq 12, 3) := by decide +kernel
theorem dX5_odds_25 : decode cX5_odds 25 = .ok (.iload 4, 2) := by decide +kernel
theorem dX5_odds_27 : decode cX5_odds 27 = .ok (.iconst 1, 1) := by decide +kernel
theorem dX5_odds_28 : decode cX5_odds 28 = .ok (.invokestatic 44, 3) := by decide +kernel
theorem dX5_odds_31 : decode cX5_odds 31 = .ok (.ifCond .ne 10, 3) := by decide +kernel
theorem dX5_odds_34 : decode cX5_odds 34 = .ok (.aload_n 0, 1) := by decide +kernel
theorem dX5_odds_35 : decode cX5_odds 35 = .ok (.iconst 0, 1) := by decide +kernel
theorem dX5_odds_36 : decode cX5_odds 36 = .ok (.invokevirtual 48, 3) := by decide +kernel
theorem dX5_odds_39 : decode cX5_odds 39 = .ok (.i2l, 1) := by decide +kernel
theorem dX5_odds_40 : decode cX5_odds 40 = .ok (.lreturn, 1) := by decide +kernel
theorem dX5_odds_41 : decode cX5_odds 41 = .ok (.iconst 0, 1) := by decide +kernel
theorem dX5_odds_42 : decode cX5_odds 42 = .ok (.istore 5, 2) := by decide +kernel
theorem dX5_odds_44 : decode cX5_odds 44 = .ok (.iconst 1, 1) := by decide +kernel
theorem dX5_odds_45 : decode cX5_odds 45 = .ok (.istore 6, 2) := by decide +kernel
theorem dX5_odds_47 : decode cX5_odds 47 = .ok (.iload 6, 2) := by decide +kernel
theorem dX5_odds_49 : decode cX5_odds 49 = .ok (.bipush 9, 2) := by decide +kernel
theorem dX5_odds_51 : decode cX5_odds 51 = .ok (.if_icmp .gt 26, 3) := by decide +kernel
theorem dX5_odds_54 : decode cX5_odds 54 = .ok (.aload_n 0, 1) := by decide +kernel
theorem dX5_odds_55 : decode cX5_odds 55 = .ok (.getfield 10, 3) := by decide +kernel
theorem dX5_odds_58 : decode cX5_odds 58 = .ok (.iload_n 2, 1) := by decide +kernel
theorem dX5_odds_59 : decode cX5_odds 59 = .ok (.iload_n 1, 1) := by decide +kernel
theorem dX5_odds_60 : decode cX5_odds 60 = .ok (.iload 6, 2) := by decide +kernel
theorem dX5_odds_62 : decode cX5_odds 62 = .ok (.invokevirtual 103, 3) := by decide +kernel
theorem dX5_odds_65 : decode cX5_odds 65 = .ok (.ifCond .eq 6, 3) := by decide +kernel
theorem dX5_odds_68 : decode cX5_odds 68 = .ok (.iinc 5 1, 3) := by decide +kernel
theorem dX5_odds_71 : decode cX5_odds 71 = .ok (.iinc 6 1, 3) := by decide +kernel
theorem dX5_odds_74 : decode cX5_odds 74 = .ok (.goto (-27), 3) := by decide +kernel
theorem dX5_odds_77 : decode cX5_odds 77 = .ok (.iload 5, 2) := by decide +kernel
theorem dX5_odds_79 : decode cX5_odds 79 = .ok (.bipush 10, 2) := by decide +kernel
theorem dX5_odds_81 : decode cX5_odds 81 = .ok (.invokestatic 172, 3) := by decide +kernel
theorem dX5_odds_84 : decode cX5_odds 84 = .ok (.istore 6, 2) := by decide +kernel
theorem dX5_odds_86 : decode cX5_odds 86 = .ok (.iload 4, 2) := by decide +kernel
theorem dX5_odds_88 : decode cX5_odds 88 = .ok (.ifCond .ne 8, 3) := by decide +kernel
theorem dX5_odds_91 : decode cX5_odds 91 = .ok (.iload 5, 2) := by decide +kernel
theorem dX5_odds_93 : decode cX5_odds 93 = .ok (.goto 5, 3) := by decide +kernel
theorem dX5_odds_96 : decode cX5_odds 96 = .ok (.bipush 10, 2) := by decide +kernel
theorem dX5_odds_98 : decode cX5_odds 98 = .ok (.iload 6, 2) := by decide +kernel
theorem dX5_odds_100 : decode cX5_odds 100 = .ok (.idiv, 1) := by decide +kernel
theorem dX5_odds_101 : decode cX5_odds 101 = .ok (.iload_n 3, 1) := by decide +kernel
theorem dX5_odds_102 : decode cX5_odds 102 = .ok (.invokestatic 175, 3) := by decide +kernel
theorem dX5_odds_105 : decode cX5_odds 105 = .ok (.lreturn, 1) := by decide +kernel
theorem dX5_seed_0 : decode cX5_seed 0 = .ok (.aload_n 0, 1) := by decide +kernel
theorem dX5_seed_1 : decode cX5_seed 1 = .ok (.getfield 10, 3) := by decide +kernel
theorem dX5_seed_4 : decode cX5_seed 4 = .ok (.getfield 179, 3) := by decide +kernel
theorem dX5_seed_7 : decode cX5_seed 7 = .ok (.istore_n 2, 1) := by decide +kernel
theorem dX5_seed_8 : decode cX5_seed 8 = .ok (.aload_n 0, 1) := by decide +kernel
theorem dX5_seed_9 : decode cX5_seed 9 = .ok (.getfield 10, 3) := by decide +kernel
theorem dX5_seed_12 : decode cX5_seed 12 = .ok (.iload_n 1, 1) := by decide +kernel
theorem dX5_seed_13 : decode cX5_seed 13 = .ok (.putfield 179, 3) := by decide +kernel
theorem dX5_seed_16 : decode cX5_seed 16 = .ok (.iload_n 2, 1) := by decide +kernel
theorem dX5_seed_17 : decode cX5_seed 17 = .ok (.ireturn, 1) := by decide +kernel
theorem dX5_feed_0 : decode cX5_feed 0 = .ok (.iload_n 2, 1) := by decide +kernel
theorem dX5_feed_1 : decode cX5_feed 1 = .ok (.iconst 1, 1) := by decide +kernel
theorem dX5_feed_2 : decode cX5_feed 2 = .ok (.if_icmp .lt 8, 3) := by decide +kernel
theorem dX5_feed_5 : decode cX5_feed 5 = .ok (.iload_n 2, 1) := by decide +kernel
theorem dX5_feed_6 : decode cX5_feed 6 = .ok (.iconst 4, 1) := by decide +kernel
theorem dX5_feed_7 : decode cX5_feed 7 = .ok (.if_icmp .le 9, 3) := by decide +kernel
theorem dX5_feed_10 : decode cX5_feed 10 = .ok (.aload_n 0, 1) := by decide +kernel
theorem dX5_feed_11 : decode cX5_feed 11 = .ok (.iconst 0, 1) := by decide +kernel
theorem dX5_feed_12 : decode cX5_feed 12 = .ok (.invokevirtual 48, 3) := by decide +kernel
theorem dX5_feed_15 : decode cX5_feed 15 = .ok (.ireturn, 1) := by decide +kernel
theorem dX5_feed_16 : decode cX5_feed 16 = .ok (.aload_n 0, 1) := by decide +kernel
theorem dX5_feed_17 : decode cX5_feed 17 = .ok (.getfield 25, 3) := by decide +kernel
theorem dX5_feed_20 : decode cX5_feed 20 = .ok (.getfield 182, 3) := by decide +kernel
theorem dX5_feed_23 : decode cX5_feed 23 = .ok (.iload_n 2, 1) := by decide +kernel
theorem dX5_feed_24 : decode cX5_feed 24 = .ok (.iadd, 1) := by decide +kernel
theorem dX5_feed_25 : decode cX5_feed 25 = .ok (.bipush 120, 2) := by decide +kernel
theorem dX5_feed_27 : decode cX5_feed 27 = .ok (.if_icmp .le 9, 3) := by decide +kernel
theorem dX5_feed_30 : decode cX5_feed 30 = .ok (.aload_n 0, 1) := by decide +kernel
theorem dX5_feed_31 : decode cX5_feed 31 = .ok (.iconst 1, 1) := by decide +kernel
theorem dX5_feed_32 : decode cX5_feed 32 = .ok (.invokevirtual 48, 3) := by decide +kernel
theorem dX5_feed_35 : decode cX5_feed 35 = .ok (.ireturn, 1) := by decide +kernel
theorem dX5_feed_36 : decode cX5_feed 36 = .ok (.aload_n 0, 1) := by decide +kernel
theorem dX5_feed_37 : decode cX5_feed 37 = .ok (.getfield 25, 3) := by decide +kernel
theorem dX5_feed_40 : decode cX5_feed 40 = .ok (.iload_n 1, 1) := by decide +kernel
theorem dX5_feed_41 : decode cX5_feed 41 = .ok (.iload_n 2, 1) := by decide +kernel
theorem dX5_feed_42 : decode cX5_feed 42 = .ok (.invokevirtual 185, 3) := by decide +kernel
theorem dX5_feed_45 : decode cX5_feed 45 = .ok (.aload_n 0, 1) := by decide +kernel
theorem dX5_feed_46 : decode cX5_feed 46 = .ok (.getfield 25, 3) := by decide +kernel
theorem dX5_feed_49 : decode cX5_feed 49 = .ok (.getfield 182, 3) := by decide +kernel
theorem dX5_feed_52 : decode cX5_feed 52 = .ok (.ireturn, 1) := by decide +kernel
theorem dX5_wipe_0 : decode cX5_wipe 0 = .ok (.aload_n 0, 1) := by decide +kernel
theorem dX5_wipe_1 : decode cX5_wipe 1 = .ok (.getfield 25, 3) := by decide +kernel
theorem dX5_wipe_4 : decode cX5_wipe 4 = .ok (.getfield 182, 3) := by decide +kernel
theorem dX5_wipe_7 : decode cX5_wipe 7 = .ok (.istore_n 1, 1) := by decide +kernel
theorem dX5_wipe_8 : decode cX5_wipe 8 = .ok (.aload_n 0, 1) := by decide +kernel
theorem dX5_wipe_9 : decode cX5_wipe 9 = .ok (.getfield 25, 3) := by decide +kernel
theorem dX5_wipe_12 : decode cX5_wipe 12 = .ok (.iconst 0, 1) := by decide +kernel
theorem dX5_wipe_13 : decode cX5_wipe 13 = .ok (.putfield 182, 3) := by decide +kernel
theorem dX5_wipe_16 : decode cX5_wipe 16 = .ok (.iload_n 1, 1) := by decide +kernel
theorem dX5_wipe_17 : decode cX5_wipe 17 = .ok (.ireturn, 1) := by decide +kernel
theorem dX5_text_0 : decode cX5_text 0 = .ok (.aload_n 0, 1) := by decide +kernel
theorem dX5_text_1 : decode cX5_text 1 = .ok (.getfield 16, 3) := by decide +kernel
theorem dX5_text_4 : decode cX5_text 4 = .ok (.aload_n 0, 1) := by decide +kernel
theorem dX5_text_5 : decode cX5_text 5 = .ok (.getfield 10, 3) := by decide +kernel
theorem dX5_text_8 : decode cX5_text 8 = .ok (.invokevirtual 143, 3) := by decide +kernel
theorem dX5_text_11 : decode cX5_text 11 = .ok (.aload_n 0, 1) := by decide +kernel
theorem dX5_text_12 : decode cX5_text 12 = .ok (.getfield 25, 3) := by decide +kernel
theorem dX5_text_15 : decode cX5_text 15 = .ok (.aload_n 0, 1) := by decide +kernel
theorem dX5_text_16 : decode cX5_text 16 = .ok (.getfield 16, 3) := by decide +kernel
theorem dX5_text_19 : decode cX5_text 19 = .ok (.invokevirtual 189, 3) := by decide +kernel
theorem dX5_text_22 : decode cX5_text 22 = .ok (.istore_n 1, 1) := by decide +kernel
theorem dX5_text_23 : decode cX5_text 23 = .ok (.aload_n 0, 1) := by decide +kernel
theorem dX5_text_24 : decode cX5_text 24 = .ok (.getfield 25, 3) := by decide +kernel
theorem dX5_text_27 : decode cX5_text 27 = .ok (.iconst 0, 1) := by decide +kernel
theorem dX5_text_28 : decode cX5_text 28 = .ok (.putfield 182, 3) := by decide +kernel
theorem dX5_text_31 : decode cX5_text 31 = .ok (.iload_n 1, 1) := by decide +kernel
theorem dX5_text_32 : decode cX5_text 32 = .ok (.ifCond .lt 14, 3) := by decide +kernel
theorem dX5_text_35 : decode cX5_text 35 = .ok (.aload_n 0, 1) := by decide +kernel
theorem dX5_text_36 : decode cX5_text 36 = .ok (.getfield 10, 3) := by decide +kernel
theorem dX5_text_39 : decode cX5_text 39 = .ok (.aload_n 0, 1) := by decide +kernel
theorem dX5_text_40 : decode cX5_text 40 = .ok (.getfield 16, 3) := by decide +kernel
theorem dX5_text_43 : decode cX5_text 43 = .ok (.invokevirtual 143, 3) := by decide +kernel
theorem dX5_text_46 : decode cX5_text 46 = .ok (.iload_n 1, 1) := by decide +kernel
theorem dX5_text_47 : decode cX5_text 47 = .ok (.ireturn, 1) := by decide +kernel
theorem dX5_hold_0 : decode cX5_hold 0 = .ok (.iload_n 1, 1) := by decide +kernel
theorem dX5_hold_1 : decode cX5_hold 1 = .ok (.bipush 9, 2) := by decide +kernel
theorem dX5_hold_3 : decode cX5_hold 3 = .ok (.invokestatic 44, 3) := by decide +kernel
theorem dX5_hold_6 : decode cX5_hold 6 = .ok (.ifCond .eq 16, 3) := by decide +kernel
theorem dX5_hold_9 : decode cX5_hold 9 = .ok (.aload_n 0, 1) := by decide +kernel
theorem dX5_hold_10 : decode cX5_hold 10 = .ok (.iload_n 2, 1) := by decide +kernel
theorem dX5_hold_11 : decode cX5_hold 11 = .ok (.invokevirtual 69, 3) := by decide +kernel
theorem dX5_hold_14 : decode cX5_hold 14 = .ok (.ifCond .ne 14, 3) := by decide +kernel
theorem dX5_hold_17 : decode cX5_hold 17 = .ok (.iload_n 2, 1) := by decide +kernel
theorem dX5_hold_18 : decode cX5_hold 18 = .ok (.iconst (-1), 1) := by decide +kernel
theorem dX5_hold_19 : decode cX5_hold 19 = .ok (.if_icmp .eq 9, 3) := by decide +kernel
theorem dX5_hold_22 : decode cX5_hold 22 = .ok (.aload_n 0, 1) := by decide +kernel
theorem dX5_hold_23 : decode cX5_hold 23 = .ok (.iconst 0, 1) := by decide +kernel
theorem dX5_hold_24 : decode cX5_hold 24 = .ok (.invokevirtual 48, 3) := by decide +kernel
theorem dX5_hold_27 : decode cX5_hold 27 = .ok (.ireturn, 1) := by decide +kernel
theorem dX5_hold_28 : decode cX5_hold 28 = .ok (.aload_n 0, 1) := by decide +kernel
theorem dX5_hold_29 : decode cX5_hold 29 = .ok (.getfield 10, 3) := by decide +kernel
theorem dX5_hold_32 : decode cX5_hold 32 = .ok (.getfield 193, 3) := by decide +kernel
theorem dX5_hold_35 : decode cX5_hold 35 = .ok (.iload_n 1, 1) := by decide +kernel
theorem dX5_hold_36 : decode cX5_hold 36 = .ok (.iload_n 2, 1) := by decide +kernel
theorem dX5_hold_37 : decode cX5_hold 37 = .ok (.iastore, 1) := by decide +kernel
theorem dX5_hold_38 : decode cX5_hold 38 = .ok (.iconst 1, 1) := by decide +kernel
theorem dX5_hold_39 : decode cX5_hold 39 = .ok (.ireturn, 1) := by decide +kernel
theorem dX5_as_0 : decode cX5_as 0 = .ok (.iload_n 1, 1) := by decide +kernel
theorem dX5_as_1 : decode cX5_as 1 = .ok (.bipush 9, 2) := by decide +kernel
theorem dX5_as_3 : decode cX5_as 3 = .ok (.invokestatic 44, 3) := by decide +kernel
theorem dX5_as_6 : decode cX5_as 6 = .ok (.ifCond .eq 12, 3) := by decide +kernel
theorem dX5_as_9 : decode cX5_as 9 = .ok (.iload_n 2, 1) := by decide +kernel
theorem dX5_as_10 : decode cX5_as 10 = .ok (.bipush 6, 2) := by decide +kernel
theorem dX5_as_12 : decode cX5_as 12 = .ok (.invokestatic 44, 3) := by decide +kernel
theorem dX5_as_15 : decode cX5_as 15 = .ok (.ifCond .ne 9, 3) := by decide +kernel
theorem dX5_as_18 : decode cX5_as 18 = .ok (.aload_n 0, 1) := by decide +kernel
theorem dX5_as_19 : decode cX5_as 19 = .ok (.iconst 0, 1) := by decide +kernel
theorem dX5_as_20 : decode cX5_as 20 = .ok (.invokevirtual 48, 3) := by decide +kernel
theorem dX5_as_23 : decode cX5_as 23 = .ok (.ireturn, 1) := by decide +kernel
theorem dX5_as_24 : decode cX5_as 24 = .ok (.aload_n 0, 1) := by decide +kernel
theorem dX5_as_25 : decode cX5_as 25 = .ok (.getfield 10, 3) := by decide +kernel
theorem dX5_as_28 : decode cX5_as 28 = .ok (.getfield 193, 3) := by decide +kernel
theorem dX5_as_31 : decode cX5_as 31 = .ok (.iload_n 1, 1) := by decide +kernel
theorem dX5_as_32 : decode cX5_as 32 = .ok (.iaload, 1) := by decide +kernel
theorem dX5_as_33 : decode cX5_as 33 = .ok (.istore_n 3, 1) := by decide +kernel
theorem dX5_as_34 : decode cX5_as 34 = .ok (.aload_n 0, 1) := by decide +kernel
theorem dX5_as_35 : decode cX5_as 35 = .ok (.iload_n 3, 1) := by decide +kernel
theorem dX5_as_36 : decode cX5_as 36 = .ok (.invokevirtual 69, 3) := by decide +kernel
theorem dX5_as_39 : decode cX5_as 39 = .ok (.ifCond .ne 9, 3) := by decide +kernel
theorem dX5_as_42 : decode cX5_as 42 = .ok (.aload_n 0, 1) := by decide +kernel
theorem dX5_as_43 : decode cX5_as 43 = .ok (.iconst 5, 1) := by decide +kernel
theorem dX5_as_44 : decode cX5_as 44 = .ok (.invokevirtual 48, 3) := by decide +kernel
theorem dX5_as_47 : decode cX5_as 47 = .ok (.ireturn, 1) := by decide +kernel
theorem dX5_as_48 : decode cX5_as 48 = .ok (.aload_n 0, 1) := by decide +kernel
theorem dX5_as_49 : decode cX5_as 49 = .ok (.getfield 10, 3) := by decide +kernel
theorem dX5_as_52 : decode cX5_as 52 = .ok (.getfield 81, 3) := by decide +kernel
theorem dX5_as_55 : decode cX5_as 55 = .ok (.iload_n 3, 1) := by decide +kernel
theorem dX5_as_56 : decode cX5_as 56 = .ok (.aaload, 1) := by decide +kernel
theorem dX5_as_57 : decode cX5_as 57 = .ok (.iload_n 2, 1) := by decide +kernel
theorem dX5_as_58 : decode cX5_as 58 = .ok (.invokevirtual 196, 3) := by decide +kernel
theorem dX5_as_61 : decode cX5_as 61 = .ok (.ifCond .ne 9, 3) := by decide +kernel
theorem dX5_as_64 : decode cX5_as 64 = .ok (.aload_n 0, 1) := by decide +kernel
theorem dX5_as_65 : decode cX5_as 65 = .ok (.iconst 2, 1) := by decide +kernel
theorem dX5_as_66 : decode cX5_as 66 = .ok (.invokevirtual 48, 3) := by decide +kernel
theorem dX5_as_69 : decode cX5_as 69 = .ok (.ireturn, 1) := by decide +kernel
theorem dX5_as_70 : decode cX5_as 70 = .ok (.iload_n 3, 1) := by decide +kernel
theorem dX5_as_71 : decode cX5_as 71 = .ok (.ireturn, 1) := by decide +kernel
theorem dX5_sheet_0 : decode cX5_sheet 0 = .ok (.iload_n 2, 1) := by decide +kernel
theorem dX5_sheet_1 : decode cX5_sheet 1 = .ok (.ifCond .eq 21, 3) := by decide +kernel
theorem dX5_sheet_4 : decode cX5_sheet 4 = .ok (.iload_n 2, 1) := by decide +kernel
theorem dX5_sheet_5 : decode cX5_sheet 5 = .ok (.bipush 8, 2) := by decide +kernel
theorem dX5_sheet_7 : decode cX5_sheet 7 = .ok (.if_icmp .eq 15, 3) := by decide +kernel
theorem dX5_sheet_10 : decode cX5_sheet 10 = .ok (.iload_n 2, 1) := by decide +kernel
theorem dX5_sheet_11 : decode cX5_sheet 11 = .ok (.bipush 16, 2) := by decide +kernel
theorem dX5_sheet_13 : decode cX5_sheet 13 = .ok (.if_icmp .eq 9, 3) := by decide +kernel
theorem dX5_sheet_16 : decode cX5_sheet 16 = .ok (.iload_n 2, 1) := by decide +kernel
theorem dX5_sheet_17 : decode cX5_sheet 17 = .ok (.bipush 32, 2) := by decide +kernel
theorem dX5_sheet_19 : decode cX5_sheet 19 = .ok (.if_icmp .ne 7, 3) := by decide +kernel
theorem dX5_sheet_22 : decode cX5_sheet 22 = .ok (.iconst 1, 1) := by decide +kernel
theorem dX5_sheet_23 : decode cX5_sheet 23 = .ok (.goto 4, 3) := by decide +kernel
theorem dX5_sheet_26 : decode cX5_sheet 26 = .ok (.iconst 0, 1) := by decide +kernel
theorem dX5_sheet_27 : decode cX5_sheet 27 = .ok (.istore 4, 2) := by decide +kernel
theorem dX5_sheet_29 : decode cX5_sheet 29 = .ok (.iload_n 1, 1) := by decide +kernel
theorem dX5_sheet_30 : decode cX5_sheet 30 = .ok (.invokestatic 199, 3) := by decide +kernel
theorem dX5_sheet_33 : decode cX5_sheet 33 = .ok (.ifCond .eq 8, 3) := by decide +kernel
theorem dX5_sheet_36 : decode cX5_sheet 36 = .ok (.iload 4, 2) := by decide +kernel
theorem dX5_sheet_38 : decode cX5_sheet 38 = .ok (.ifCond .ne 9, 3) := by decide +kernel
theorem dX5_sheet_41 : decode cX5_sheet 41 = .ok (.aload_n 0, 1) := by decide +kernel
theorem dX5_sheet_42 : decode cX5_sheet 42 = .ok (.iconst 0, 1) := by decide +kernel
theorem dX5_sheet_43 : decode cX5_sheet 43 = .ok (.invokevirtual 48, 3) := by decide +kernel
theorem dX5_sheet_46 : decode cX5_sheet 46 = .ok (.ireturn, 1) := by decide +kernel
theorem dX5_sheet_47 : decode cX5_sheet 47 = .ok (.iload_n 3, 1) := by decide +kernel
theorem dX5_sheet_48 : decode cX5_sheet 48 = .ok (.ifCond .ge 10, 3) := by decide +kernel
theorem dX5_sheet_51 : decode cX5_sheet 51 = .ok (.aload_n 0, 1) := by decide +kernel
theorem dX5_sheet_52 : decode cX5_sheet 52 = .ok (.bipush 6, 2) := by decide +kernel
theorem dX5_sheet_54 : decode cX5_sheet 54 = .ok (.invokevirtual 48, 3) := by decide +kernel
theorem dX5_sheet_57 : decode cX5_sheet 57 = .ok (.ireturn, 1) := by decide +kernel
theorem dX5_sheet_58 : decode cX5_sheet 58 = .ok (.iload_n 3, 1) := by decide +kernel
theorem dX5_sheet_59 : decode cX5_sheet 59 = .ok (.bipush 40, 2) := by decide +kernel
theorem dX5_sheet_61 : decode cX5_sheet 61 = .ok (.if_icmp .le 9, 3) := by decide +kernel
theorem dX5_sheet_64 : decode cX5_sheet 64 = .ok (.aload_n 0, 1) := by decide +kernel
theorem dX5_sheet_65 : decode cX5_sheet 65 = .ok (.iconst 0, 1) := by decide +kernel
theorem dX5_sheet_66 : decode cX5_sheet 66 = .ok (.invokevirtual 48, 3) := by decide +kernel
theorem dX5_sheet_69 : decode cX5_sheet 69 = .ok (.ireturn, 1) := by decide +kernel
theorem dX5_sheet_70 : decode cX5_sheet 70 = .ok (.aload_n 0, 1) := by decide +kernel
theorem dX5_sheet_71 : decode cX5_sheet 71 = .ok (.getfield 31, 3) := by decide +kernel
theorem dX5_sheet_74 : decode cX5_sheet 74 = .ok (.iload_n 1, 1) := by decide +kernel
theorem dX5_sheet_75 : decode cX5_sheet 75 = .ok (.aaload, 1) := by decide +kernel
theorem dX5_sheet_76 : decode cX5_sheet 76 = .ok (.iload_n 2, 1) := by decide +kernel
theorem dX5_sheet_77 : decode cX5_sheet 77 = .ok (.iload_n 3, 1) := by decide +kernel
theorem dX5_sheet_78 : decode cX5_sheet 78 = .ok (.invokevirtual 202, 3) := by decide +kernel
theorem dX5_sheet_81 : decode cX5_sheet 81 = .ok (.aload_n 0, 1) := by decide +kernel
theorem dX5_sheet_82 : decode cX5_sheet 82 = .ok (.getfield 31, 3) := by decide +kernel
theorem dX5_sheet_85 : decode cX5_sheet 85 = .ok (.iload_n 1, 1) := by decide +kernel
theorem dX5_sheet_86 : decode cX5_sheet 86 = .ok (.aaload, 1) := by decide +kernel
theorem dX5_sheet_87 : decode cX5_sheet 87 = .ok (.getfield 205, 3) := by decide +kernel
theorem dX5_sheet_90 : decode cX5_sheet 90 = .ok (.ireturn, 1) := by decide +kernel
theorem dX5_write_0 : decode cX5_write 0 = .ok (.aload_n 0, 1) := by decide +kernel
theorem dX5_write_1 : decode cX5_write 1 = .ok (.iload_n 1, 1) := by decide +kernel
theorem dX5_write_2 : decode cX5_write 2 = .ok (.invokevirtual 156, 3) := by decide +kernel
theorem dX5_write_5 : decode cX5_write 5 = .ok (.istore 4, 2) := by decide +kernel
theorem dX5_write_7 : decode cX5_write 7 = .ok (.iload 4, 2) := by decide +kernel
theorem dX5_write_9 : decode cX5_write 9 = .ok (.ifCond .eq 6, 3) := by decide +kernel
theorem dX5_write_12 : decode cX5_write 12 = .ok (.iload 4, 2) := by decide +kernel
theorem dX5_write_14 : decode cX5_write 14 = .ok (.ireturn, 1) := by decide +kernel
theorem dX5_write_15 : decode cX5_write 15 = .ok (.iload_n 2, 1) := by decide +kernel
theorem dX5_write_16 : decode cX5_write 16 = .ok (.aload_n 0, 1) := by decide +kernel
theorem dX5_write_17 : decode cX5_write 17 = .ok (.getfield 31, 3) := by decide +kernel
theorem dX5_write_20 : decode cX5_write 20 = .ok (.iload_n 1, 1) := by decide +kernel
theorem dX5_write_21 : decode cX5_write 21 = .ok (.aaload, 1) := by decide +kernel
theorem dX5_write_22 : decode cX5_write 22 = .ok (.getfield 205, 3) := by decide +kernel
theorem dX5_write_25 : decode cX5_write 25 = .ok (.iconst 1, 1) := by decide +kernel
theorem dX5_write_26 : decode cX5_write 26 = .ok (.isub, 1) := by decide +kernel
theorem dX5_write_27 : decode cX5_write 27 = .ok (.invokestatic 44, 3) := by decide +kernel
theorem dX5_write_30 : decode cX5_write 30 = .ok (.ifCond .ne 9, 3) := by decide +kernel
theorem dX5_write_33 : decode cX5_write 33 = .ok (.aload_n 0, 1) := by decide +kernel
theorem dX5_write_34 : decode cX5_write 34 = .ok (.iconst 0, 1) := by decide +kernel
theorem dX5_write_35 : decode cX5_write 35 = .ok (.invokevirtual 48, 3) := by decide +kernel
theorem dX5_write_38 : decode cX5_write 38 = .ok (.ireturn, 1) := by decide +kernel
theorem dX5_write_39 : decode cX5_write 39 = .ok (.aload_n 0, 1) := by decide +kernel
theorem dX5_write_40 : decode cX5_write 40 = .ok (.getfield 31, 3) := by decide +kernel
theorem dX5_write_43 : decode cX5_write 43 = .ok (.iload_n 1, 1) := by decide +kernel
theorem dX5_write_44 : decode cX5_write 44 = .ok (.aaload, 1) := by decide +kernel
theorem dX5_write_45 : decode cX5_write 45 = .ok (.iload_n 2, 1) := by decide +kernel
theorem dX5_write_46 : decode cX5_write 46 = .ok (.iload_n 3, 1) := by decide +kernel
theorem dX5_write_47 : decode cX5_write 47 = .ok (.invokevirtual 206, 3) := by decide +kernel
theorem dX5_write_50 : decode cX5_write 50 = .ok (.iconst 1, 1) := by decide +kernel
theorem dX5_write_51 : decode cX5_write 51 = .ok (.ireturn, 1) := by decide +kernel
theorem dX5_copy_0 : decode cX5_copy 0 = .ok (.iload_n 1, 1) := by decide +kernel
theorem dX5_copy_1 : decode cX5_copy 1 = .ok (.invokestatic 199, 3) := by decide +kernel
theorem dX5_copy_4 : decode cX5_copy 4 = .ok (.ifCond .eq 10, 3) := by decide +kernel
theorem dX5_copy_7 : decode cX5_copy 7 = .ok (.iload_n 3, 1) := by decide +kernel
theorem dX5_copy_8 : decode cX5_copy 8 = .ok (.invokestatic 199, 3) := by decide +kernel
theorem dX5_copy_11 : decode cX5_copy 11 = .ok (.ifCond .ne 9, 3) := by decide +kernel
theorem dX5_copy_14 : decode cX5_copy 14 = .ok (.aload_n 0, 1) := by decide +kernel
theorem dX5_copy_15 : decode cX5_copy 15 = .ok (.iconst 0, 1) := by decide +kernel
theorem dX5_copy_16 : decode cX5_copy 16 = .ok (.invokevirtual 48, 3) := by decide +kernel
theorem dX5_copy_19 : decode cX5_copy 19 = .ok (.ireturn, 1) := by decide +kernel
theorem dX5_copy_20 : decode cX5_copy 20 = .ok (.aload_n 0, 1) := by decide +kernel
theorem dX5_copy_21 : decode cX5_copy 21 = .ok (.getfield 31, 3) := by decide +kernel
theorem dX5_copy_24 : decode cX5_copy 24 = .ok (.iload_n 1, 1) := by decide +kernel
theorem dX5_copy_25 : decode cX5_copy 25 = .ok (.aaload, 1) := by decide +kernel
theorem dX5_copy_26 : decode cX5_copy 26 = .ok (.invokevirtual 209, 3) := by decide +kernel
theorem dX5_copy_29 : decode cX5_copy 29 = .ok (.ifCond .ne 15, 3) := by decide +kernel
theorem dX5_copy_32 : decode cX5_copy 32 = .ok (.aload_n 0, 1) := by decide +kernel
theorem dX5_copy_33 : decode cX5_copy 33 = .ok (.getfield 31, 3) := by decide +kernel
theorem dX5_copy_36 : decode cX5_copy 36 = .ok (.iload_n 3, 1) := by decide +kernel
theorem dX5_copy_37 : decode cX5_copy 37 = .ok (.aaload, 1) := by decide +kernel
theorem dX5_copy_38 : decode cX5_copy 38 = .ok (.invokevirtual 209, 3) := by decide +kernel
theorem dX5_copy_41 : decode cX5_copy 41 = .ok (.ifCond .eq 9, 3) := by decide +kernel
theorem dX5_copy_44 : decode cX5_copy 44 = .ok (.aload_n 0, 1) := by decide +kernel
theorem dX5_copy_45 : decode cX5_copy 45 = .ok (.iconst 5, 1) := by decide +kernel
theorem dX5_copy_46 : decode cX5_copy 46 = .ok (.invokevirtual 48, 3) := by decide +kernel
theorem dX5_copy_49 : decode cX5_copy 49 = .ok (.ireturn, 1) := by decide +kernel
theorem dX5_copy_50 : decode cX5_copy 50 = .ok (.aload_n 0, 1) := by decide +kernel
theorem dX5_copy_51 : decode cX5_copy 51 = .ok (.getfield 31, 3) := by decide +kernel
theorem dX5_copy_54 : decode cX5_copy 54 = .ok (.iload_n 1, 1) := by decide +kernel
theorem dX5_copy_55 : decode cX5_copy 55 = .ok (.aaload, 1) := by decide +kernel
theorem dX5_copy_56 : decode cX5_copy 56 = .ok (.getfield 212, 3) := by decide +kernel
theorem dX5_copy_59 : decode cX5_copy 59 = .ok (.aload_n 0, 1) := by decide +kernel
theorem dX5_copy_60 : decode cX5_copy 60 = .ok (.getfield 31, 3) := by decide +kernel
theorem dX5_copy_63 : decode cX5_copy 63 = .ok (.iload_n 3, 1) := by decide +kernel
theorem dX5_copy_64 : decode cX5_copy 64 = .ok (.aaload, 1) := by decide +kernel
theorem dX5_copy_65 : decode cX5_copy 65 = .ok (.getfield 212, 3) := by decide +kernel
theorem dX5_copy_68 : decode cX5_copy 68 = .ok (.if_icmp .eq 9, 3) := by decide +kernel
theorem dX5_copy_71 : decode cX5_copy 71 = .ok (.aload_n 0, 1) := by decide +kernel
theorem dX5_copy_72 : decode cX5_copy 72 = .ok (.iconst 2, 1) := by decide +kernel
theorem dX5_copy_73 : decode cX5_copy 73 = .ok (.invokevirtual 48, 3) := by decide +kernel
theorem dX5_copy_76 : decode cX5_copy 76 = .ok (.ireturn, 1) := by decide +kernel
theorem dX5_copy_77 : decode cX5_copy 77 = .ok (.aload_n 0, 1) := by decide +kernel
theorem dX5_copy_78 : decode cX5_copy 78 = .ok (.getfield 31, 3) := by decide +kernel
theorem dX5_copy_81 : decode cX5_copy 81 = .ok (.iload_n 1, 1) := by decide +kernel
theorem dX5_copy_82 : decode cX5_copy 82 = .ok (.aaload, 1) := by decide +kernel
theorem dX5_copy_83 : decode cX5_copy 83 = .ok (.iload_n 2, 1) := by decide +kernel
theorem dX5_copy_84 : decode cX5_copy 84 = .ok (.iload 5, 2) := by decide +kernel
theorem dX5_copy_86 : decode cX5_copy 86 = .ok (.invokevirtual 215, 3) := by decide +kernel
theorem dX5_copy_89 : decode cX5_copy 89 = .ok (.ifCond .eq 19, 3) := by decide +kernel
theorem dX5_copy_92 : decode cX5_copy 92 = .ok (.aload_n 0, 1) := by decide +kernel
theorem dX5_copy_93 : decode cX5_copy 93 = .ok (.getfield 31, 3) := by decide +kernel
theorem dX5_copy_96 : decode cX5_copy 96 = .ok (.iload_n 3, 1) := by decide +kernel
theorem dX5_copy_97 : decode cX5_copy 97 = .ok (.aaload, 1) := by decide +kernel
theorem dX5_copy_98 : decode cX5_copy 98 = .ok (.iload 4, 2) := by decide +kernel
theorem dX5_copy_100 : decode cX5_copy 100 = .ok (.iload 5, 2) := by decide +kernel
theorem dX5_copy_102 : decode cX5_copy 102 = .ok (.invokevirtual 215, 3) := by decide +kernel
theorem dX5_copy_105 : decode cX5_copy 105 = .ok (.ifCond .ne 9, 3) := by decide +kernel
theorem dX5_copy_108 : decode cX5_copy 108 = .ok (.aload_n 0, 1) := by decide +kernel
theorem dX5_copy_109 : decode cX5_copy 109 = .ok (.iconst 0, 1) := by decide +kernel
theorem dX5_copy_110 : decode cX5_copy 110 = .ok (.invokevirtual 48, 3) := by decide +kernel
theorem dX5_copy_113 : decode cX5_copy 113 = .ok (.ireturn, 1) := by decide +kernel
theorem dX5_copy_114 : decode cX5_copy 114 = .ok (.aload_n 0, 1) := by decide +kernel
theorem dX5_copy_115 : decode cX5_copy 115 = .ok (.getfield 31, 3) := by decide +kernel
theorem dX5_copy_118 : decode cX5_copy 118 = .ok (.iload_n 1, 1) := by decide +kernel
theorem dX5_copy_119 : decode cX5_copy 119 = .ok (.aaload, 1) := by decide +kernel
theorem dX5_copy_120 : decode cX5_copy 120 = .ok (.getfield 218, 3) := by decide +kernel
theorem dX5_copy_123 : decode cX5_copy 123 = .ok (.iload_n 2, 1) := by decide +kernel
theorem dX5_copy_124 : decode cX5_copy 124 = .ok (.aload_n 0, 1) := by decide +kernel
theorem dX5_copy_125 : decode cX5_copy 125 = .ok (.getfield 31, 3) := by decide +kernel
theorem dX5_copy_128 : decode cX5_copy 128 = .ok (.iload_n 3, 1) := by decide +kernel
theorem dX5_copy_129 : decode cX5_copy 129 = .ok (.aaload, 1) := by decide +kernel
theorem dX5_copy_130 : decode cX5_copy 130 = .ok (.getfield 218, 3) := by decide +kernel
theorem dX5_copy_133 : decode cX5_copy 133 = .ok (.iload 4, 2) := by decide +kernel
theorem dX5_copy_135 : decode cX5_copy 135 = .ok (.iload 5, 2) := by decide +kernel
theorem dX5_copy_137 : decode cX5_copy 137 = .ok (.invokestatic 221, 3) := by decide +kernel
theorem dX5_copy_140 : decode cX5_copy 140 = .ok (.iload 5, 2) := by decide +kernel
theorem dX5_copy_142 : decode cX5_copy 142 = .ok (.ireturn, 1) := by decide +kernel
theorem dX5_load_0 : decode cX5_load 0 = .ok (.aload_n 0, 1) := by decide +kernel
theorem dX5_load_1 : decode cX5_load 1 = .ok (.iload_n 1, 1) := by decide +kernel
theorem dX5_load_2 : decode cX5_load 2 = .ok (.invokevirtual 156, 3) := by decide +kernel
theorem dX5_load_5 : decode cX5_load 5 = .ok (.istore_n 2, 1) := by decide +kernel
theorem dX5_load_6 : decode cX5_load 6 = .ok (.iload_n 2, 1) := by decide +kernel
theorem dX5_load_7 : decode cX5_load 7 = .ok (.ifCond .eq 5, 3) := by decide +kernel
theorem dX5_load_10 : decode cX5_load 10 = .ok (.iload_n 2, 1) := by decide +kernel
theorem dX5_load_11 : decode cX5_load 11 = .ok (.ireturn, 1) := by decide +kernel
theorem dX5_load_12 : decode cX5_load 12 = .ok (.iconst 0, 1) := by decide +kernel
theorem dX5_load_13 : decode cX5_load 13 = .ok (.istore_n 3, 1) := by decide +kernel
theorem dX5_load_14 : decode cX5_load 14 = .ok (.iload_n 3, 1) := by decide +kernel
theorem dX5_load_15 : decode cX5_load 15 = .ok (.bipush 6, 2) := by decide +kernel
theorem dX5_load_17 : decode cX5_load 17 = .ok (.if_icmp .ge 61, 3) := by decide +kernel
theorem dX5_load_20 : decode cX5_load 20 = .ok (.iload_n 3, 1) := by decide +kernel
theorem dX5_load_21 : decode cX5_load 21 = .ok (.aload_n 0, 1) := by decide +kernel
theorem dX5_load_22 : decode cX5_load 22 = .ok (.getfield 31, 3) := by decide +kernel
theorem dX5_load_25 : decode cX5_load 25 = .ok (.iload_n 1, 1) := by decide +kernel
theorem dX5_load_26 : decode cX5_load 26 = .ok (.aaload, 1) := by decide +kernel
theorem dX5_load_27 : decode cX5_load 27 = .ok (.getfield 205, 3) := by decide +kernel
theorem dX5_load_30 : decode cX5_load 30 = .ok (.if_icmp .ge 48, 3) := by decide +kernel
theorem dX5_load_33 : decode cX5_load 33 = .ok (.aload_n 0, 1) := by decide +kernel
theorem dX5_load_34 : decode cX5_load 34 = .ok (.getfield 31, 3) := by decide +kernel
theorem dX5_load_37 : decode cX5_load 37 = .ok (.iload_n 1, 1) := by decide +kernel
theorem dX5_load_38 : decode cX5_load 38 = .ok (.aaload, 1) := by decide +kernel
theorem dX5_load_39 : decode cX5_load 39 = .ok (.getfield 218, 3) := by decide +kernel
theorem dX5_load_42 : decode cX5_load 42 = .ok (.iload_n 3, 1) := by decide +kernel
theorem dX5_load_43 : decode cX5_load 43 = .ok (.iaload, 1) := by decide +kernel
theorem dX5_load_44 : decode cX5_load 44 = .ok (.bipush 9, 2) := by decide +kernel
theorem dX5_load_46 : decode cX5_load 46 = .ok (.invokestatic 44, 3) := by decide +kernel
theorem dX5_load_49 : decode cX5_load 49 = .ok (.ifCond .eq 29, 3) := by decide +kernel
theorem dX5_load_52 : decode cX5_load 52 = .ok (.aload_n 0, 1) := by decide +kernel
theorem dX5_load_53 : decode cX5_load 53 = .ok (.getfield 10, 3) := by decide +kernel
theorem dX5_load_56 : decode cX5_load 56 = .ok (.getfield 52, 3) := by decide +kernel
theorem dX5_load_59 : decode cX5_load 59 = .ok (.iload_n 3, 1) := by decide +kernel
theorem dX5_load_60 : decode cX5_load 60 = .ok (.aload_n 0, 1) := by decide +kernel
theorem dX5_load_61 : decode cX5_load 61 = .ok (.getfield 31, 3) := by decide +kernel
theorem dX5_load_64 : decode cX5_load 64 = .ok (.iload_n 1, 1) := by decide +kernel
theorem dX5_load_65 : decode cX5_load 65 = .ok (.aaload, 1) := by decide +kernel
theorem dX5_load_66 : decode cX5_load 66 = .ok (.getfield 218, 3) := by decide +kernel
theorem dX5_load_69 : decode cX5_load 69 = .ok (.iload_n 3, 1) := by decide +kernel
theorem dX5_load_70 : decode cX5_load 70 = .ok (.iaload, 1) := by decide +kernel
theorem dX5_load_71 : decode cX5_load 71 = .ok (.iastore, 1) := by decide +kernel
theorem dX5_load_72 : decode cX5_load 72 = .ok (.iinc 3 1, 3) := by decide +kernel
theorem dX5_load_75 : decode cX5_load 75 = .ok (.goto (-61), 3) := by decide +kernel
theorem dX5_load_78 : decode cX5_load 78 = .ok (.iload_n 3, 1) := by decide +kernel
theorem dX5_load_79 : decode cX5_load 79 = .ok (.ireturn, 1) := by decide +kernel
theorem dX5_judge_0 : decode cX5_judge 0 = .ok (.aload_n 0, 1) := by decide +kernel
theorem dX5_judge_1 : decode cX5_judge 1 = .ok (.iload_n 1, 1) := by decide +kernel
theorem dX5_judge_2 : decode cX5_judge 2 = .ok (.invokevirtual 156, 3) := by decide +kernel
theorem dX5_judge_5 : decode cX5_judge 5 = .ok (.istore_n 2, 1) := by decide +kernel
theorem dX5_judge_6 : decode cX5_judge 6 = .ok (.iload_n 2, 1) := by decide +kernel
theorem dX5_judge_7 : decode cX5_judge 7 = .ok (.ifCond .eq 5, 3) := by decide +kernel
theorem dX5_judge_10 : decode cX5_judge 10 = .ok (.iload_n 2, 1) := by decide +kernel
theorem dX5_judge_11 : decode cX5_judge 11 = .ok (.ireturn, 1) := by decide +kernel
theorem dX5_judge_12 : decode cX5_judge 12 = .ok (.iconst 0, 1) := by decide +kernel
theorem dX5_judge_13 : decode cX5_judge 13 = .ok (.istore_n 3, 1) := by decide +kernel
theorem dX5_judge_14 : decode cX5_judge 14 = .ok (.iload_n 3, 1) := by decide +kernel
theorem dX5_judge_15 : decode cX5_judge 15 = .ok (.aload_n 0, 1) := by decide +kernel
theorem dX5_judge_16 : decode cX5_judge 16 = .ok (.getfield 31, 3) := by decide +kernel
theorem dX5_judge_19 : decode cX5_judge 19 = .ok (.iload_n 1, 1) := by decide +kernel
theorem dX5_judge_20 : decode cX5_judge 20 = .ok (.aaload, 1) := by decide +kernel
theorem dX5_judge_21 : decode cX5_judge 21 = .ok (.getfield 205, 3) := by decide +kernel
theorem dX5_judge_24 : decode cX5_judge 24 = .ok (.if_icmp .ge 49, 3) := by decide +kernel
theorem dX5_judge_27 : decode cX5_judge 27 = .ok (.aload_n 0, 1) := by decide +kernel
theorem dX5_judge_28 : decode cX5_judge 28 = .ok (.iload_n 3, 1) := by decide +kernel
theorem dX5_judge_29 : decode cX5_judge 29 = .ok (.invokevirtual 88, 3) := by decide +kernel
theorem dX5_judge_32 : decode cX5_judge 32 = .ok (.ifCond .eq 31, 3) := by decide +kernel
theorem dX5_judge_35 : decode cX5_judge 35 = .ok (.aload_n 0, 1) := by decide +kernel
theorem dX5_judge_36 : decode cX5_judge 36 = .ok (.getfield 10, 3) := by decide +kernel
theorem dX5_judge_39 : decode cX5_judge 39 = .ok (.getfield 93, 3) := by decide +kernel
theorem dX5_judge_42 : decode cX5_judge 42 = .ok (.iload_n 3, 1) := by decide +kernel
theorem dX5_judge_43 : decode cX5_judge 43 = .ok (.aaload, 1) := by decide +kernel
theorem dX5_judge_44 : decode cX5_judge 44 = .ok (.getfield 97, 3) := by decide +kernel
theorem dX5_judge_47 : decode cX5_judge 47 = .ok (.iconst 2, 1) := by decide +kernel
theorem dX5_judge_48 : decode cX5_judge 48 = .ok (.iaload, 1) := by decide +kernel
theorem dX5_judge_49 : decode cX5_judge 49 = .ok (.aload_n 0, 1) := by decide +kernel
theorem dX5_judge_50 : decode cX5_judge 50 = .ok (.getfield 31, 3) := by decide +kernel
theorem dX5_judge_53 : decode cX5_judge 53 = .ok (.iload_n 1, 1) := by decide +kernel
theorem dX5_judge_54 : decode cX5_judge 54 = .ok (.aaload, 1) := by decide +kernel
theorem dX5_judge_55 : decode cX5_judge 55 = .ok (.getfield 218, 3) := by decide +kernel
theorem dX5_judge_58 : decode cX5_judge 58 = .ok (.iload_n 3, 1) := by decide +kernel
theorem dX5_judge_59 : decode cX5_judge 59 = .ok (.iaload, 1) := by decide +kernel
theorem dX5_judge_60 : decode cX5_judge 60 = .ok (.if_icmp .eq 7, 3) := by decide +kernel
theorem dX5_judge_63 : decode cX5_judge 63 = .ok (.iconst 1, 1) := by decide +kernel
theorem dX5_judge_64 : decode cX5_judge 64 = .ok (.iload_n 3, 1) := by decide +kernel
theorem dX5_judge_65 : decode cX5_judge 65 = .ok (.iadd, 1) := by decide +kernel
theorem dX5_judge_66 : decode cX5_judge 66 = .ok (.ireturn, 1) := by decide +kernel
theorem dX5_judge_67 : decode cX5_judge 67 = .ok (.iinc 3 1, 3) := by decide +kernel
theorem dX5_judge_70 : decode cX5_judge 70 = .ok (.goto (-56), 3) := by decide +kernel
theorem dX5_judge_73 : decode cX5_judge 73 = .ok (.iconst 0, 1) := by decide +kernel
theorem dX5_judge_74 : decode cX5_judge 74 = .ok (.ireturn, 1) := by decide +kernel
theorem dX5_image_0 : decode cX5_image 0 = .ok (.aload_n 0, 1) := by decide +kernel
theorem dX5_image_1 : decode cX5_image 1 = .ok (.getfield 19, 3) := by decide +kernel
theorem dX5_image_4 : decode cX5_image 4 = .ok (.aload_n 0, 1) := by decide +kernel
theorem dX5_image_5 : decode cX5_image 5 = .ok (.getfield 10, 3) := by decide +kernel
theorem dX5_image_8 : decode cX5_image 8 = .ok (.invokevirtual 143, 3) := by decide +kernel
theorem dX5_image_11 : decode cX5_image 11 = .ok (.aload_n 0, 1) := by decide +kernel
theorem dX5_image_12 : decode cX5_image 12 = .ok (.iconst 1, 1) := by decide +kernel
theorem dX5_image_13 : decode cX5_image 13 = .ok (.putfield 40, 3) := by decide +kernel
theorem dX5_image_16 : decode cX5_image 16 = .ok (.iconst 1, 1) := by decide +kernel
theorem dX5_image_17 : decode cX5_image 17 = .ok (.ireturn, 1) := by decide +kernel
theorem dX5_undo_0 : decode cX5_undo 0 = .ok (.aload_n 0, 1) := by decide +kernel
theorem dX5_undo_1 : decode cX5_undo 1 = .ok (.getfield 40, 3) := by decide +kernel
theorem dX5_undo_4 : decode cX5_undo 4 = .ok (.ifCond .ne 9, 3) := by decide +kernel
theorem dX5_undo_7 : decode cX5_undo 7 = .ok (.aload_n 0, 1) := by decide +kernel
theorem dX5_undo_8 : decode cX5_undo 8 = .ok (.iconst 3, 1) := by decide +kernel
theorem dX5_undo_9 : decode cX5_undo 9 = .ok (.invokevirtual 48, 3) := by decide +kernel
theorem dX5_undo_12 : decode cX5_undo 12 = .ok (.ireturn, 1) := by decide +kernel
theorem dX5_undo_13 : decode cX5_undo 13 = .ok (.aload_n 0, 1) := by decide +kernel
theorem dX5_undo_14 : decode cX5_undo 14 = .ok (.getfield 10, 3) := by decide +kernel
theorem dX5_undo_17 : decode cX5_undo 17 = .ok (.aload_n 0, 1) := by decide +kernel
theorem dX5_undo_18 : decode cX5_undo 18 = .ok (.getfield 19, 3) := by decide +kernel
theorem dX5_undo_21 : decode cX5_undo 21 = .ok (.invokevirtual 143, 3) := by decide +kernel
theorem dX5_undo_24 : decode cX5_undo 24 = .ok (.aload_n 0, 1) := by decide +kernel
theorem dX5_undo_25 : decode cX5_undo 25 = .ok (.getfield 10, 3) := by decide +kernel
theorem dX5_undo_28 : decode cX5_undo 28 = .ok (.getfield 107, 3) := by decide +kernel
theorem dX5_undo_31 : decode cX5_undo 31 = .ok (.ireturn, 1) := by decide +kernel
theorem dX5_tear_0 : decode cX5_tear 0 = .ok (.aload_n 0, 1) := by decide +kernel
theorem dX5_tear_1 : decode cX5_tear 1 = .ok (.getfield 40, 3) := by decide +kernel
theorem dX5_tear_4 : decode cX5_tear 4 = .ok (.ifCond .eq 7, 3) := by decide +kernel
theorem dX5_tear_7 : decode cX5_tear 7 = .ok (.iconst 1, 1) := by decide +kernel
theorem dX5_tear_8 : decode cX5_tear 8 = .ok (.goto 4, 3) := by decide +kernel
theorem dX5_tear_11 : decode cX5_tear 11 = .ok (.iconst 0, 1) := by decide +kernel
theorem dX5_tear_12 : decode cX5_tear 12 = .ok (.istore_n 1, 1) := by decide +kernel
theorem dX5_tear_13 : decode cX5_tear 13 = .ok (.aload_n 0, 1) := by decide +kernel
theorem dX5_tear_14 : decode cX5_tear 14 = .ok (.iconst 0, 1) := by decide +kernel
theorem dX5_tear_15 : decode cX5_tear 15 = .ok (.putfield 40, 3) := by decide +kernel
theorem dX5_tear_18 : decode cX5_tear 18 = .ok (.iload_n 1, 1) := by decide +kernel
theorem dX5_tear_19 : decode cX5_tear 19 = .ok (.ireturn, 1) := by decide +kernel
theorem dX5_count_0 : decode cX5_count 0 = .ok (.iload_n 1, 1) := by decide +kernel
theorem dX5_count_1 : decode cX5_count 1 = .ok (.tableswitch 111 0 7 #[47, 55, 63, 71, 79, 87, 95, 103], 47) := by decide +kernel
theorem dX5_count_48 : decode cX5_count 48 = .ok (.aload_n 0, 1) := by decide +kernel
theorem dX5_count_49 : decode cX5_count 49 = .ok (.getfield 10, 3) := by decide +kernel
theorem dX5_count_52 : decode cX5_count 52 = .ok (.getfield 107, 3) := by decide +kernel
theorem dX5_count_55 : decode cX5_count 55 = .ok (.ireturn, 1) := by decide +kernel
theorem dX5_count_56 : decode cX5_count 56 = .ok (.aload_n 0, 1) := by decide +kernel
theorem dX5_count_57 : decode cX5_count 57 = .ok (.getfield 10, 3) := by decide +kernel
theorem dX5_count_60 : decode cX5_count 60 = .ok (.getfield 99, 3) := by decide +kernel
theorem dX5_count_63 : decode cX5_count 63 = .ok (.ireturn, 1) := by decide +kernel
theorem dX5_count_64 : decode cX5_count 64 = .ok (.aload_n 0, 1) := by decide +kernel
theorem dX5_count_65 : decode cX5_count 65 = .ok (.getfield 10, 3) := by decide +kernel
theorem dX5_count_68 : decode cX5_count 68 = .ok (.getfield 166, 3) := by decide +kernel
theorem dX5_count_71 : decode cX5_count 71 = .ok (.ireturn, 1) := by decide +kernel
theorem dX5_count_72 : decode cX5_count 72 = .ok (.aload_n 0, 1) := by decide +kernel
theorem dX5_count_73 : decode cX5_count 73 = .ok (.getfield 10, 3) := by decide +kernel
theorem dX5_count_76 : decode cX5_count 76 = .ok (.invokevirtual 115, 3) := by decide +kernel
theorem dX5_count_79 : decode cX5_count 79 = .ok (.ireturn, 1) := by decide +kernel
theorem dX5_count_80 : decode cX5_count 80 = .ok (.aload_n 0, 1) := by decide +kernel
theorem dX5_count_81 : decode cX5_count 81 = .ok (.getfield 10, 3) := by decide +kernel
theorem dX5_count_84 : decode cX5_count 84 = .ok (.invokevirtual 125, 3) := by decide +kernel
theorem dX5_count_87 : decode cX5_count 87 = .ok (.ireturn, 1) := by decide +kernel
theorem dX5_count_88 : decode cX5_count 88 = .ok (.aload_n 0, 1) := by decide +kernel
theorem dX5_count_89 : decode cX5_count 89 = .ok (.getfield 25, 3) := by decide +kernel
theorem dX5_count_92 : decode cX5_count 92 = .ok (.getfield 182, 3) := by decide +kernel
theorem dX5_count_95 : decode cX5_count 95 = .ok (.ireturn, 1) := by decide +kernel
theorem dX5_count_96 : decode cX5_count 96 = .ok (.aload_n 0, 1) := by decide +kernel
theorem dX5_count_97 : decode cX5_count 97 = .ok (.getfield 10, 3) := by decide +kernel
theorem dX5_count_100 : decode cX5_count 100 = .ok (.getfield 179, 3) := by decide +kernel
theorem dX5_count_103 : decode cX5_count 103 = .ok (.ireturn, 1) := by decide +kernel
theorem dX5_count_104 : decode cX5_count 104 = .ok (.aload_n 0, 1) := by decide +kernel
theorem dX5_count_105 : decode cX5_count 105 = .ok (.getfield 10, 3) := by decide +kernel
theorem dX5_count_108 : decode cX5_count 108 = .ok (.invokevirtual 227, 3) := by decide +kernel
theorem dX5_count_111 : decode cX5_count 111 = .ok (.ireturn, 1) := by decide +kernel
theorem dX5_count_112 : decode cX5_count 112 = .ok (.aload_n 0, 1) := by decide +kernel
theorem dX5_count_113 : decode cX5_count 113 = .ok (.iconst 0, 1) := by decide +kernel
theorem dX5_count_114 : decode cX5_count 114 = .ok (.invokevirtual 48, 3) := by decide +kernel
theorem dX5_count_117 : decode cX5_count 117 = .ok (.ireturn, 1) := by decide +kernel
theorem dX5_status_0 : decode cX5_status 0 = .ok (.iload_n 1, 1) := by decide +kernel
theorem dX5_status_1 : decode cX5_status 1 = .ok (.iconst (-1), 1) := by decide +kernel
theorem dX5_status_2 : decode cX5_status 2 = .ok (.if_icmp .ne 30, 3) := by decide +kernel
theorem dX5_status_5 : decode cX5_status 5 = .ok (.iconst 0, 1) := by decide +kernel
theorem dX5_status_6 : decode cX5_status 6 = .ok (.istore_n 2, 1) := by decide +kernel
theorem dX5_status_7 : decode cX5_status 7 = .ok (.iconst 0, 1) := by decide +kernel
theorem dX5_status_8 : decode cX5_status 8 = .ok (.istore_n 3, 1) := by decide +kernel
theorem dX5_status_9 : decode cX5_status 9 = .ok (.iload_n 3, 1) := by decide +kernel
theorem dX5_status_10 : decode cX5_status 10 = .ok (.bipush 7, 2) := by decide +kernel
theorem dX5_status_12 : decode cX5_status 12 = .ok (.if_icmp .ge 18, 3) := by decide +kernel
theorem dX5_status_15 : decode cX5_status 15 = .ok (.iload_n 2, 1) := by decide +kernel
theorem dX5_status_16 : decode cX5_status 16 = .ok (.aload_n 0, 1) := by decide +kernel
theorem dX5_status_17 : decode cX5_status 17 = .ok (.getfield 36, 3) := by decide +kernel
theorem dX5_status_20 : decode cX5_status 20 = .ok (.iload_n 3, 1) := by decide +kernel
theorem dX5_status_21 : decode cX5_status 21 = .ok (.iaload, 1) := by decide +kernel
theorem dX5_status_22 : decode cX5_status 22 = .ok (.iadd, 1) := by decide +kernel
theorem dX5_status_23 : decode cX5_status 23 = .ok (.istore_n 2, 1) := by decide +kernel
theorem dX5_status_24 : decode cX5_status 24 = .ok (.iinc 3 1, 3) := by decide +kernel
theorem dX5_status_27 : decode cX5_status 27 = .ok (.goto (-18), 3) := by decide +kernel
theorem dX5_status_30 : decode cX5_status 30 = .ok (.iload_n 2, 1) := by decide +kernel
theorem dX5_status_31 : decode cX5_status 31 = .ok (.ireturn, 1) := by decide +kernel
theorem dX5_status_32 : decode cX5_status 32 = .ok (.iload_n 1, 1) := by decide +kernel
theorem dX5_status_33 : decode cX5_status 33 = .ok (.bipush 6, 2) := by decide +kernel
theorem dX5_status_35 : decode cX5_status 35 = .ok (.invokestatic 44, 3) := by decide +kernel
theorem dX5_status_38 : decode cX5_status 38 = .ok (.ifCond .ne 9, 3) := by decide +kernel
theorem dX5_status_41 : decode cX5_status 41 = .ok (.aload_n 0, 1) := by decide +kernel
theorem dX5_status_42 : decode cX5_status 42 = .ok (.iconst 0, 1) := by decide +kernel
theorem dX5_status_43 : decode cX5_status 43 = .ok (.invokevirtual 48, 3) := by decide +kernel
theorem dX5_status_46 : decode cX5_status 46 = .ok (.ireturn, 1) := by decide +kernel
theorem dX5_status_47 : decode cX5_status 47 = .ok (.aload_n 0, 1) := by decide +kernel
theorem dX5_status_48 : decode cX5_status 48 = .ok (.getfield 36, 3) := by decide +kernel
theorem dX5_status_51 : decode cX5_status 51 = .ok (.iload_n 1, 1) := by decide +kernel
theorem dX5_status_52 : decode cX5_status 52 = .ok (.iaload, 1) := by decide +kernel
theorem dX5_status_53 : decode cX5_status 53 = .ok (.ireturn, 1) := by decide +kernel
theorem dX5_finding_0 : decode cX5_finding 0 = .ok (.aload_n 0, 1) := by decide +kernel
theorem dX5_finding_1 : decode cX5_finding 1 = .ok (.getfield 36, 3) := by decide +kernel
theorem dX5_finding_4 : decode cX5_finding 4 = .ok (.iload_n 1, 1) := by decide +kernel
theorem dX5_finding_5 : decode cX5_finding 5 = .ok (.dup2, 1) := by decide +kernel
theorem dX5_finding_6 : decode cX5_finding 6 = .ok (.iaload, 1) := by decide +kernel
theorem dX5_finding_7 : decode cX5_finding 7 = .ok (.iconst 1, 1) := by decide +kernel
theorem dX5_finding_8 : decode cX5_finding 8 = .ok (.iadd, 1) := by decide +kernel
theorem dX5_finding_9 : decode cX5_finding 9 = .ok (.iastore, 1) := by decide +kernel
theorem dX5_finding_10 : decode cX5_finding 10 = .ok (.ldc 230, 2) := by decide +kernel
theorem dX5_finding_12 : decode cX5_finding 12 = .ok (.iload_n 1, 1) := by decide +kernel
theorem dX5_finding_13 : decode cX5_finding 13 = .ok (.isub, 1) := by decide +kernel
theorem dX5_finding_14 : decode cX5_finding 14 = .ok (.ireturn, 1) := by decide +kernel
theorem dX5_isUpTo_0 : decode cX5_isUpTo 0 = .ok (.iload_n 0, 1) := by decide +kernel
theorem dX5_isUpTo_1 : decode cX5_isUpTo 1 = .ok (.ifCond .lt 12, 3) := by decide +kernel
theorem dX5_isUpTo_4 : decode cX5_isUpTo 4 = .ok (.iload_n 0, 1) := by decide +kernel
theorem dX5_isUpTo_5 : decode cX5_isUpTo 5 = .ok (.iload_n 1, 1) := by decide +kernel
theorem dX5_isUpTo_6 : decode cX5_isUpTo 6 = .ok (.if_icmp .gt 7, 3) := by decide +kernel
theorem dX5_isUpTo_9 : decode cX5_isUpTo 9 = .ok (.iconst 1, 1) := by decide +kernel
theorem dX5_isUpTo_10 : decode cX5_isUpTo 10 = .ok (.goto 4, 3) := by decide +kernel
theorem dX5_isUpTo_13 : decode cX5_isUpTo 13 = .ok (.iconst 0, 1) := by decide +kernel
theorem dX5_isUpTo_14 : decode cX5_isUpTo 14 = .ok (.ireturn, 1) := by decide +kernel
theorem dX5_isKeeper_0 : decode cX5_isKeeper 0 = .ok (.iload_n 1, 1) := by decide +kernel
theorem dX5_isKeeper_1 : decode cX5_isKeeper 1 = .ok (.ifCond .lt 18, 3) := by decide +kernel
theorem dX5_isKeeper_4 : decode cX5_isKeeper 4 = .ok (.iload_n 1, 1) := by decide +kernel
theorem dX5_isKeeper_5 : decode cX5_isKeeper 5 = .ok (.aload_n 0, 1) := by decide +kernel
theorem dX5_isKeeper_6 : decode cX5_isKeeper 6 = .ok (.getfield 10, 3) := by decide +kernel
theorem dX5_isKeeper_9 : decode cX5_isKeeper 9 = .ok (.getfield 99, 3) := by decide +kernel
theorem dX5_isKeeper_12 : decode cX5_isKeeper 12 = .ok (.if_icmp .ge 7, 3) := by decide +kernel
theorem dX5_isKeeper_15 : decode cX5_isKeeper 15 = .ok (.iconst 1, 1) := by decide +kernel
theorem dX5_isKeeper_16 : decode cX5_isKeeper 16 = .ok (.goto 4, 3) := by decide +kernel
theorem dX5_isKeeper_19 : decode cX5_isKeeper 19 = .ok (.iconst 0, 1) := by decide +kernel
theorem dX5_isKeeper_20 : decode cX5_isKeeper 20 = .ok (.ireturn, 1) := by decide +kernel
theorem dX5_isChild_0 : decode cX5_isChild 0 = .ok (.iload_n 1, 1) := by decide +kernel
theorem dX5_isChild_1 : decode cX5_isChild 1 = .ok (.ifCond .lt 18, 3) := by decide +kernel
theorem dX5_isChild_4 : decode cX5_isChild 4 = .ok (.iload_n 1, 1) := by decide +kernel
theorem dX5_isChild_5 : decode cX5_isChild 5 = .ok (.aload_n 0, 1) := by decide +kernel
theorem dX5_isChild_6 : decode cX5_isChild 6 = .ok (.getfield 10, 3) := by decide +kernel
theorem dX5_isChild_9 : decode cX5_isChild 9 = .ok (.getfield 166, 3) := by decide +kernel
theorem dX5_isChild_12 : decode cX5_isChild 12 = .ok (.if_icmp .ge 7, 3) := by decide +kernel
theorem dX5_isChild_15 : decode cX5_isChild 15 = .ok (.iconst 1, 1) := by decide +kernel
theorem dX5_isChild_16 : decode cX5_isChild 16 = .ok (.goto 4, 3) := by decide +kernel
theorem dX5_isChild_19 : decode cX5_isChild 19 = .ok (.iconst 0, 1) := by decide +kernel
theorem dX5_isChild_20 : decode cX5_isChild 20 = .ok (.ireturn, 1) := by decide +kernel
theorem dX5_isSheet_0 : decode cX5_isSheet 0 = .ok (.iload_n 0, 1) := by decide +kernel
theorem dX5_isSheet_1 : decode cX5_isSheet 1 = .ok (.ifCond .lt 12, 3) := by decide +kernel
theorem dX5_isSheet_4 : decode cX5_isSheet 4 = .ok (.iload_n 0, 1) := by decide +kernel
theorem dX5_isSheet_5 : decode cX5_isSheet 5 = .ok (.iconst 4, 1) := by decide +kernel
theorem dX5_isSheet_6 : decode cX5_isSheet 6 = .ok (.if_icmp .ge 7, 3) := by decide +kernel
theorem dX5_isSheet_9 : decode cX5_isSheet 9 = .ok (.iconst 1, 1) := by decide +kernel
theorem dX5_isSheet_10 : decode cX5_isSheet 10 = .ok (.goto 4, 3) := by decide +kernel
theorem dX5_isSheet_13 : decode cX5_isSheet 13 = .ok (.iconst 0, 1) := by decide +kernel
theorem dX5_isSheet_14 : decode cX5_isSheet 14 = .ok (.ireturn, 1) := by decide +kernel
theorem dX5_findingOfSheet_0 : decode cX5_findingOfSheet 0 = .ok (.iload_n 1, 1) := by decide +kernel
theorem dX5_findingOfSheet_1 : decode cX5_findingOfSheet 1 = .ok (.invokestatic 199, 3) := by decide +kernel
theorem dX5_findingOfSheet_4 : decode cX5_findingOfSheet 4 = .ok (.ifCond .ne 9, 3) := by decide +kernel
theorem dX5_findingOfSheet_7 : decode cX5_findingOfSheet 7 = .ok (.aload_n 0, 1) := by decide +kernel
theorem dX5_findingOfSheet_8 : decode cX5_findingOfSheet 8 = .ok (.iconst 0, 1) := by decide +kernel
theorem dX5_findingOfSheet_9 : decode cX5_findingOfSheet 9 = .ok (.invokevirtual 48, 3) := by decide +kernel
theorem dX5_findingOfSheet_12 : decode cX5_findingOfSheet 12 = .ok (.ireturn, 1) := by decide +kernel
theorem dX5_findingOfSheet_13 : decode cX5_findingOfSheet 13 = .ok (.aload_n 0, 1) := by decide +kernel
theorem dX5_findingOfSheet_14 : decode cX5_findingOfSheet 14 = .ok (.getfield 31, 3) := by decide +kernel
theorem dX5_findingOfSheet_17 : decode cX5_findingOfSheet 17 = .ok (.iload_n 1, 1) := by decide +kernel
theorem dX5_findingOfSheet_18 : decode cX5_findingOfSheet 18 = .ok (.aaload, 1) := by decide +kernel
theorem dX5_findingOfSheet_19 : decode cX5_findingOfSheet 19 = .ok (.invokevirtual 209, 3) := by decide +kernel
theorem dX5_findingOfSheet_22 : decode cX5_findingOfSheet 22 = .ok (.ifCond .eq 11, 3) := by decide +kernel
theorem dX5_findingOfSheet_25 : decode cX5_findingOfSheet 25 = .ok (.aload_n 0, 1) := by decide +kernel
theorem dX5_findingOfSheet_26 : decode cX5_findingOfSheet 26 = .ok (.iconst 5, 1) := by decide +kernel
theorem dX5_findingOfSheet_27 : decode cX5_findingOfSheet 27 = .ok (.invokevirtual 48, 3) := by decide +kernel
theorem dX5_findingOfSheet_30 : decode cX5_findingOfSheet 30 = .ok (.goto 4, 3) := by decide +kernel
theorem dX5_findingOfSheet_33 : decode cX5_findingOfSheet 33 = .ok (.iconst 0, 1) := by decide +kernel
theorem dX5_findingOfSheet_34 : decode cX5_findingOfSheet 34 = .ok (.ireturn, 1) := by decide +kernel
theorem dX5_draftLoneChild_0 : decode cX5_draftLoneChild 0 = .ok (.aload_n 0, 1) := by decide +kernel
theorem dX5_draftLoneChild_1 : decode cX5_draftLoneChild 1 = .ok (.getfield 16, 3) := by decide +kernel
theorem dX5_draftLoneChild_4 : decode cX5_draftLoneChild 4 = .ok (.aload_n 0, 1) := by decide +kernel
theorem dX5_draftLoneChild_5 : decode cX5_draftLoneChild 5 = .ok (.getfield 10, 3) := by decide +kernel
theorem dX5_draftLoneChild_8 : decode cX5_draftLoneChild 8 = .ok (.invokevirtual 143, 3) := by decide +kernel
theorem dX5_draftLoneChild_11 : decode cX5_draftLoneChild 11 = .ok (.aload_n 0, 1) := by decide +kernel
theorem dX5_draftLoneChild_12 : decode cX5_draftLoneChild 12 = .ok (.getfield 16, 3) := by decide +kernel
theorem dX5_draftLoneChild_15 : decode cX5_draftLoneChild 15 = .ok (.iload_n 1, 1) := by decide +kernel
theorem dX5_draftLoneChild_16 : decode cX5_draftLoneChild 16 = .ok (.invokevirtual 231, 3) := by decide +kernel
theorem dX5_draftLoneChild_19 : decode cX5_draftLoneChild 19 = .ok (.return_, 1) := by decide +kernel
theorem dX5_draftLoneKeeper_0 : decode cX5_draftLoneKeeper 0 = .ok (.aload_n 0, 1) := by decide +kernel
theorem dX5_draftLoneKeeper_1 : decode cX5_draftLoneKeeper 1 = .ok (.getfield 16, 3) := by decide +kernel
theorem dX5_draftLoneKeeper_4 : decode cX5_draftLoneKeeper 4 = .ok (.aload_n 0, 1) := by decide +kernel
theorem dX5_draftLoneKeeper_5 : decode cX5_draftLoneKeeper 5 = .ok (.getfield 10, 3) := by decide +kernel
theorem dX5_draftLoneKeeper_8 : decode cX5_draftLoneKeeper 8 = .ok (.invokevirtual 143, 3) := by decide +kernel
theorem dX5_draftLoneKeeper_11 : decode cX5_draftLoneKeeper 11 = .ok (.aload_n 0, 1) := by decide +kernel
theorem dX5_draftLoneKeeper_12 : decode cX5_draftLoneKeeper 12 = .ok (.getfield 16, 3) := by decide +kernel
theorem dX5_draftLoneKeeper_15 : decode cX5_draftLoneKeeper 15 = .ok (.iload_n 1, 1) := by decide +kernel
theorem dX5_draftLoneKeeper_16 : decode cX5_draftLoneKeeper 16 = .ok (.invokevirtual 153, 3) := by decide +kernel
theorem dX5_draftLoneKeeper_19 : decode cX5_draftLoneKeeper 19 = .ok (.aload_n 0, 1) := by decide +kernel
theorem dX5_draftLoneKeeper_20 : decode cX5_draftLoneKeeper 20 = .ok (.getfield 16, 3) := by decide +kernel
theorem dX5_draftLoneKeeper_23 : decode cX5_draftLoneKeeper 23 = .ok (.iconst 0, 1) := by decide +kernel
theorem dX5_draftLoneKeeper_24 : decode cX5_draftLoneKeeper 24 = .ok (.putfield 166, 3) := by decide +kernel
theorem dX5_draftLoneKeeper_27 : decode cX5_draftLoneKeeper 27 = .ok (.return_, 1) := by decide +kernel
theorem dX5_daysUntilDraftLearnt_0 : decode cX5_daysUntilDraftLearnt 0 = .ok (.iconst 0, 1) := by decide +kernel
theorem dX5_daysUntilDraftLearnt_1 : decode cX5_daysUntilDraftLearnt 1 = .ok (.istore_n 2, 1) := by decide +kernel
theorem dX5_daysUntilDraftLearnt_2 : decode cX5_daysUntilDraftLearnt 2 = .ok (.iload_n 2, 1) := by decide +kernel
theorem dX5_daysUntilDraftLearnt_3 : decode cX5_daysUntilDraftLearnt 3 = .ok (.sipush 200, 3) := by decide +kernel
theorem dX5_daysUntilDraftLearnt_6 : decode cX5_daysUntilDraftLearnt 6 = .ok (.if_icmp .gt 29, 3) := by decide +kernel
theorem dX5_daysUntilDraftLearnt_9 : decode cX5_daysUntilDraftLearnt 9 = .ok (.aload_n 0, 1) := by decide +kernel
theorem dX5_daysUntilDraftLearnt_10 : decode cX5_daysUntilDraftLearnt 10 = .ok (.getfield 16, 3) := by decide +kernel
theorem dX5_daysUntilDraftLearnt_13 : decode cX5_daysUntilDraftLearnt 13 = .ok (.iload_n 1, 1) := by decide +kernel
theorem dX5_daysUntilDraftLearnt_14 : decode cX5_daysUntilDraftLearnt 14 = .ok (.invokevirtual 150, 3) := by decide +kernel
theorem dX5_daysUntilDraftLearnt_17 : decode cX5_daysUntilDraftLearnt 17 = .ok (.ifCond .eq 5, 3) := by decide +kernel
theorem dX5_daysUntilDraftLearnt_20 : decode cX5_daysUntilDraftLearnt 20 = .ok (.iload_n 2, 1) := by decide +kernel
theorem dX5_daysUntilDraftLearnt_21 : decode cX5_daysUntilDraftLearnt 21 = .ok (.ireturn, 1) := by decide +kernel
theorem dX5_daysUntilDraftLearnt_22 : decode cX5_daysUntilDraftLearnt 22 = .ok (.aload_n 0, 1) := by decide +kernel
theorem dX5_daysUntilDraftLearnt_23 : decode cX5_daysUntilDraftLearnt 23 = .ok (.getfield 16, 3) := by decide +kernel
theorem dX5_daysUntilDraftLearnt_26 : decode cX5_daysUntilDraftLearnt 26 = .ok (.invokevirtual 147, 3) := by decide +kernel
theorem dX5_daysUntilDraftLearnt_29 : decode cX5_daysUntilDraftLearnt 29 = .ok (.iinc 2 1, 3) := by decide +kernel
theorem dX5_daysUntilDraftLearnt_32 : decode cX5_daysUntilDraftLearnt 32 = .ok (.goto (-30), 3) := by decide +kernel
theorem dX5_daysUntilDraftLearnt_35 : decode cX5_daysUntilDraftLearnt 35 = .ok (.aload_n 0, 1) := by decide +kernel
theorem dX5_daysUntilDraftLearnt_36 : decode cX5_daysUntilDraftLearnt 36 = .ok (.iconst 3, 1) := by decide +kernel
theorem dX5_daysUntilDraftLearnt_37 : decode cX5_daysUntilDraftLearnt 37 = .ok (.invokevirtual 48, 3) := by decide +kernel
theorem dX5_daysUntilDraftLearnt_40 : decode cX5_daysUntilDraftLearnt 40 = .ok (.ireturn, 1) := by decide +kernel
theorem dX5_isDraftAsTold_0 : decode cX5_isDraftAsTold 0 = .ok (.iconst 0, 1) := by decide +kernel
theorem dX5_isDraftAsTold_1 : decode cX5_isDraftAsTold 1 = .ok (.istore 4, 2) := by decide +kernel
theorem dX5_isDraftAsTold_3 : decode cX5_isDraftAsTold 3 = .ok (.iload 4, 2) := by decide +kernel
theorem dX5_isDraftAsTold_5 : decode cX5_isDraftAsTold 5 = .ok (.aload_n 1, 1) := by decide +kernel
theorem dX5_isDraftAsTold_6 : decode cX5_isDraftAsTold 6 = .ok (.getfield 205, 3) := by decide +kernel
theorem dX5_isDraftAsTold_9 : decode cX5_isDraftAsTold 9 = .ok (.if_icmp .ge 42, 3) := by decide +kernel
theorem dX5_isDraftAsTold_12 : decode cX5_isDraftAsTold 12 = .ok (.aload_n 1, 1) := by decide +kernel
theorem dX5_isDraftAsTold_13 : decode cX5_isDraftAsTold 13 = .ok (.getfield 218, 3) := by decide +kernel
theorem dX5_isDraftAsTold_16 : decode cX5_isDraftAsTold 16 = .ok (.iload 4, 2) := by decide +kernel
theorem dX5_isDraftAsTold_18 : decode cX5_isDraftAsTold 18 = .ok (.iaload, 1) := by decide +kernel
theorem dX5_isDraftAsTold_19 : decode cX5_isDraftAsTold 19 = .ok (.iconst (-1), 1) := by decide +kernel
theorem dX5_isDraftAsTold_20 : decode cX5_isDraftAsTold 20 = .ok (.if_icmp .eq 18, 3) := by decide +kernel
theorem dX5_isDraftAsTold_23 : decode cX5_isDraftAsTold 23 = .ok (.aload_n 1, 1) := by decide +kernel
theorem dX5_isDraftAsTold_24 : decode cX5_isDraftAsTold 24 = .ok (.getfield 218, 3) := by decide +kernel
theorem dX5_isDraftAsTold_27 : decode cX5_isDraftAsTold 27 = .ok (.iload 4, 2) := by decide +kernel
theorem dX5_isDraftAsTold_29 : decode cX5_isDraftAsTold 29 = .ok (.iaload, 1) := by decide +kernel
theorem dX5_isDraftAsTold_30 : decode cX5_isDraftAsTold 30 = .ok (.aload_n 2, 1) := by decide +kernel
theorem dX5_isDraftAsTold_31 : decode cX5_isDraftAsTold 31 = .ok (.iload_n 3, 1) := by decide +kernel
theorem dX5_isDraftAsTold_32 : decode cX5_isDraftAsTold 32 = .ok (.iaload, 1) := by decide +kernel
theorem dX5_isDraftAsTold_33 : decode cX5_isDraftAsTold 33 = .ok (.if_icmp .eq 5, 3) := by decide +kernel
theorem dX5_isDraftAsTold_36 : decode cX5_isDraftAsTold 36 = .ok (.iconst 0, 1) := by decide +kernel
theorem dX5_isDraftAsTold_37 : decode cX5_isDraftAsTold 37 = .ok (.ireturn, 1) := by decide +kernel
theorem dX5_isDraftAsTold_38 : decode cX5_isDraftAsTold 38 = .ok (.aload_n 0, 1) := by decide +kernel
theorem dX5_isDraftAsTold_39 : decode cX5_isDraftAsTold 39 = .ok (.getfield 16, 3) := by decide +kernel
theorem dX5_isDraftAsTold_42 : decode cX5_isDraftAsTold 42 = .ok (.invokevirtual 147, 3) := by decide +kernel
theorem dX5_isDraftAsTold_45 : decode cX5_isDraftAsTold 45 = .ok (.iinc 4 1, 3) := by decide +kernel
theorem dX5_isDraftAsTold_48 : decode cX5_isDraftAsTold 48 = .ok (.goto (-45), 3) := by decide +kernel
theorem dX5_isDraftAsTold_51 : decode cX5_isDraftAsTold 51 = .ok (.iconst 1, 1) := by decide +kernel
theorem dX5_isDraftAsTold_52 : decode cX5_isDraftAsTold 52 = .ok (.ireturn, 1) := by decide +kernel
theorem dX5_greatestShared_0 : decode cX5_greatestShared 0 = .ok (.iload_n 1, 1) := by decide +kernel
theorem dX5_greatestShared_1 : decode cX5_greatestShared 1 = .ok (.istore_n 2, 1) := by decide +kernel
theorem dX5_greatestShared_2 : decode cX5_greatestShared 2 = .ok (.iload_n 2, 1) := by decide +kernel
theorem dX5_greatestShared_3 : decode cX5_greatestShared 3 = .ok (.iconst 1, 1) := by decide +kernel
theorem dX5_greatestShared_4 : decode cX5_greatestShared 4 = .ok (.if_icmp .le 23, 3) := by decide +kernel
theorem dX5_greatestShared_7 : decode cX5_greatestShared 7 = .ok (.iload_n 0, 1) := by decide +kernel
theorem dX5_greatestShared_8 : decode cX5_greatestShared 8 = .ok (.iload_n 2, 1) := by decide +kernel
theorem dX5_greatestShared_9 : decode cX5_greatestShared 9 = .ok (.irem, 1) := by decide +kernel
theorem dX5_greatestShared_10 : decode cX5_greatestShared 10 = .ok (.ifCond .ne 11, 3) := by decide +kernel
theorem dX5_greatestShared_13 : decode cX5_greatestShared 13 = .ok (.iload_n 1, 1) := by decide +kernel
theorem dX5_greatestShared_14 : decode cX5_greatestShared 14 = .ok (.iload_n 2, 1) := by decide +kernel
theorem dX5_greatestShared_15 : decode cX5_greatestShared 15 = .ok (.irem, 1) := by decide +kernel
theorem dX5_greatestShared_16 : decode cX5_greatestShared 16 = .ok (.ifCond .ne 5, 3) := by decide +kernel
theorem dX5_greatestShared_19 : decode cX5_greatestShared 19 = .ok (.iload_n 2, 1) := by decide +kernel
theorem dX5_greatestShared_20 : decode cX5_greatestShared 20 = .ok (.ireturn, 1) := by decide +kernel
theorem dX5_greatestShared_21 : decode cX5_greatestShared 21 = .ok (.iinc 2 (-1), 3) := by decide +kernel
theorem dX5_greatestShared_24 : decode cX5_greatestShared 24 = .ok (.goto (-22), 3) := by decide +kernel
theorem dX5_greatestShared_27 : decode cX5_greatestShared 27 = .ok (.iconst 1, 1) := by decide +kernel
theorem dX5_greatestShared_28 : decode cX5_greatestShared 28 = .ok (.ireturn, 1) := by decide +kernel
theorem dX5_power_0 : decode cX5_power 0 = .ok (.lconst 1, 1) := by decide +kernel
theorem dX5_power_1 : decode cX5_power 1 = .ok (.lstore_n 2, 1) := by decide +kernel
theorem dX5_power_2 : decode cX5_power 2 = .ok (.iconst 0, 1) := by decide +kernel
theorem dX5_power_3 : decode cX5_power 3 = .ok (.istore 4, 2) := by decide +kernel
theorem dX5_power_5 : decode cX5_power 5 = .ok (.iload 4, 2) := by decide +kernel
theorem dX5_power_7 : decode cX5_power 7 = .ok (.iload_n 1, 1) := by decide +kernel
theorem dX5_power_8 : decode cX5_power 8 = .ok (.if_icmp .ge 14, 3) := by decide +kernel
theorem dX5_power_11 : decode cX5_power 11 = .ok (.lload_n 2, 1) := by decide +kernel
theorem dX5_power_12 : decode cX5_power 12 = .ok (.iload_n 0, 1) := by decide +kernel
theorem dX5_power_13 : decode cX5_power 13 = .ok (.i2l, 1) := by decide +kernel
theorem dX5_power_14 : decode cX5_power 14 = .ok (.lmul, 1) := by decide +kernel
theorem dX5_power_15 : decode cX5_power 15 = .ok (.lstore_n 2, 1) := by decide +kernel
theorem dX5_power_16 : decode cX5_power 16 = .ok (.iinc 4 1, 3) := by decide +kernel
theorem dX5_power_19 : decode cX5_power 19 = .ok (.goto (-14), 3) := by decide +kernel
theorem dX5_power_22 : decode cX5_power 22 = .ok (.lload_n 2, 1) := by decide +kernel
theorem dX5_power_23 : decode cX5_power 23 = .ok (.lreturn, 1) := by decide +kernel
