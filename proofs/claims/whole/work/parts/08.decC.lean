theorem dX6_init_0 : decode cX6_init 0 = .ok (.aload_n 0, 1) := by decide +kernel
theorem dX6_init_1 : decode cX6_init 1 = .ok (.invokespecial 1, 3) := by decide +kernel
theorem dX6_init_4 : decode cX6_init 4 = .ok (.aload_n 0, 1) := by decide +kernel
theorem dX6_init_5 : decode cX6_init 5 = .ok (.bipush 92, 2) := by decide +kernel
theorem dX6_init_7 : decode cX6_init 7 = .ok (.newarray .int, 2) := by decide +kernel
theorem dX6_init_9 : decode cX6_init 9 = .ok (.putfield 9, 3) := by decide +kernel
theorem dX6_init_12 : decode cX6_init 12 = .ok (.aload_n 0, 1) := by decide +kernel
theorem dX6_init_13 : decode cX6_init 13 = .ok (.bipush 92, 2) := by decide +kernel
theorem dX6_init_15 : decode cX6_init 15 = .ok (.newarray .int, 2) := by decide +kernel
theorem dX6_init_17 : decode cX6_init 17 = .ok (.putfield 13, 3) := by decide +kernel
theorem dX6_init_20 : decode cX6_init 20 = .ok (.aload_n 0, 1) := by decide +kernel
theorem dX6_init_21 : decode cX6_init 21 = .ok (.bipush 92, 2) := by decide +kernel
theorem dX6_init_23 : decode cX6_init 23 = .ok (.newarray .int, 2) := by decide +kernel
theorem dX6_init_25 : decode cX6_init 25 = .ok (.putfield 16, 3) := by decide +kernel
theorem dX6_init_28 : decode cX6_init 28 = .ok (.aload_n 0, 1) := by decide +kernel
theorem dX6_init_29 : decode cX6_init 29 = .ok (.bipush 8, 2) := by decide +kernel
theorem dX6_init_31 : decode cX6_init 31 = .ok (.newarray .int, 2) := by decide +kernel
theorem dX6_init_33 : decode cX6_init 33 = .ok (.putfield 19, 3) := by decide +kernel
theorem dX6_init_36 : decode cX6_init 36 = .ok (.aload_n 0, 1) := by decide +kernel
theorem dX6_init_37 : decode cX6_init 37 = .ok (.bipush 120, 2) := by decide +kernel
theorem dX6_init_39 : decode cX6_init 39 = .ok (.newarray .int, 2) := by decide +kernel
theorem dX6_init_41 : decode cX6_init 41 = .ok (.putfield 22, 3) := by decide +kernel
theorem dX6_init_44 : decode cX6_init 44 = .ok (.aload_n 0, 1) := by decide +kernel
theorem dX6_init_45 : decode cX6_init 45 = .ok (.bipush 7, 2) := by decide +kernel
theorem dX6_init_47 : decode cX6_init 47 = .ok (.anewarray 25, 3) := by decide +kernel
theorem dX6_init_50 : decode cX6_init 50 = .ok (.dup, 1) := by decide +kernel
theorem dX6_init_51 : decode cX6_init 51 = .ok (.iconst 0, 1) := by decide +kernel
theorem dX6_init_52 : decode cX6_init 52 = .ok (.ldc 27, 2) := by decide +kernel
theorem dX6_init_54 : decode cX6_init 54 = .ok (.aastore, 1) := by decide +kernel
theorem dX6_init_55 : decode cX6_init 55 = .ok (.dup, 1) := by decide +kernel
theorem dX6_init_56 : decode cX6_init 56 = .ok (.iconst 1, 1) := by decide +kernel
theorem dX6_init_57 : decode cX6_init 57 = .ok (.ldc 29, 2) := by decide +kernel
theorem dX6_init_59 : decode cX6_init 59 = .ok (.aastore, 1) := by decide +kernel
theorem dX6_init_60 : decode cX6_init 60 = .ok (.dup, 1) := by decide +kernel
theorem dX6_init_61 : decode cX6_init 61 = .ok (.iconst 2, 1) := by decide +kernel
theorem dX6_init_62 : decode cX6_init 62 = .ok (.ldc 31, 2) := by decide +kernel
theorem dX6_init_64 : decode cX6_init 64 = .ok (.aastore, 1) := by decide +kernel
theorem dX6_init_65 : decode cX6_init 65 = .ok (.dup, 1) := by decide +kernel
theorem dX6_init_66 : decode cX6_init 66 = .ok (.iconst 3, 1) := by decide +kernel
theorem dX6_init_67 : decode cX6_init 67 = .ok (.ldc 33, 2) := by decide +kernel
theorem dX6_init_69 : decode cX6_init 69 = .ok (.aastore, 1) := by decide +kernel
theorem dX6_init_70 : decode cX6_init 70 = .ok (.dup, 1) := by decide +kernel
theorem dX6_init_71 : decode cX6_init 71 = .ok (.iconst 4, 1) := by decide +kernel
theorem dX6_init_72 : decode cX6_init 72 = .ok (.ldc 35, 2) := by decide +kernel
theorem dX6_init_74 : decode cX6_init 74 = .ok (.aastore, 1) := by decide +kernel
theorem dX6_init_75 : decode cX6_init 75 = .ok (.dup, 1) := by decide +kernel
theorem dX6_init_76 : decode cX6_init 76 = .ok (.iconst 5, 1) := by decide +kernel
theorem dX6_init_77 : decode cX6_init 77 = .ok (.ldc 37, 2) := by decide +kernel
theorem dX6_init_79 : decode cX6_init 79 = .ok (.aastore, 1) := by decide +kernel
theorem dX6_init_80 : decode cX6_init 80 = .ok (.dup, 1) := by decide +kernel
theorem dX6_init_81 : decode cX6_init 81 = .ok (.bipush 6, 2) := by decide +kernel
theorem dX6_init_83 : decode cX6_init 83 = .ok (.ldc 39, 2) := by decide +kernel
theorem dX6_init_85 : decode cX6_init 85 = .ok (.aastore, 1) := by decide +kernel
theorem dX6_init_86 : decode cX6_init 86 = .ok (.putfield 41, 3) := by decide +kernel
theorem dX6_init_89 : decode cX6_init 89 = .ok (.aload_n 0, 1) := by decide +kernel
theorem dX6_init_90 : decode cX6_init 90 = .ok (.sipush 600, 3) := by decide +kernel
theorem dX6_init_93 : decode cX6_init 93 = .ok (.newarray .int, 2) := by decide +kernel
theorem dX6_init_95 : decode cX6_init 95 = .ok (.putfield 45, 3) := by decide +kernel
theorem dX6_init_98 : decode cX6_init 98 = .ok (.aload_n 0, 1) := by decide +kernel
theorem dX6_init_99 : decode cX6_init 99 = .ok (.iconst 4, 1) := by decide +kernel
theorem dX6_init_100 : decode cX6_init 100 = .ok (.newarray .int, 2) := by decide +kernel
theorem dX6_init_102 : decode cX6_init 102 = .ok (.putfield 48, 3) := by decide +kernel
theorem dX6_init_105 : decode cX6_init 105 = .ok (.aload_n 0, 1) := by decide +kernel
theorem dX6_init_106 : decode cX6_init 106 = .ok (.iconst 4, 1) := by decide +kernel
theorem dX6_init_107 : decode cX6_init 107 = .ok (.newarray .int, 2) := by decide +kernel
theorem dX6_init_109 : decode cX6_init 109 = .ok (.putfield 51, 3) := by decide +kernel
theorem dX6_init_112 : decode cX6_init 112 = .ok (.aload_n 0, 1) := by decide +kernel
theorem dX6_init_113 : decode cX6_init 113 = .ok (.sipush 160, 3) := by decide +kernel
theorem dX6_init_116 : decode cX6_init 116 = .ok (.newarray .int, 2) := by decide +kernel
theorem dX6_init_118 : decode cX6_init 118 = .ok (.putfield 54, 3) := by decide +kernel
theorem dX6_init_121 : decode cX6_init 121 = .ok (.aload_n 0, 1) := by decide +kernel
theorem dX6_init_122 : decode cX6_init 122 = .ok (.bipush 40, 2) := by decide +kernel
theorem dX6_init_124 : decode cX6_init 124 = .ok (.newarray .int, 2) := by decide +kernel
theorem dX6_init_126 : decode cX6_init 126 = .ok (.putfield 57, 3) := by decide +kernel
theorem dX6_init_129 : decode cX6_init 129 = .ok (.aload_n 0, 1) := by decide +kernel
theorem dX6_init_130 : decode cX6_init 130 = .ok (.getfield 9, 3) := by decide +kernel
theorem dX6_init_133 : decode cX6_init 133 = .ok (.iconst 2, 1) := by decide +kernel
theorem dX6_init_134 : decode cX6_init 134 = .ok (.iconst 1, 1) := by decide +kernel
theorem dX6_init_135 : decode cX6_init 135 = .ok (.iastore, 1) := by decide +kernel
theorem dX6_init_136 : decode cX6_init 136 = .ok (.iconst 0, 1) := by decide +kernel
theorem dX6_init_137 : decode cX6_init 137 = .ok (.istore_n 1, 1) := by decide +kernel
theorem dX6_init_138 : decode cX6_init 138 = .ok (.iload_n 1, 1) := by decide +kernel
theorem dX6_init_139 : decode cX6_init 139 = .ok (.bipush 10, 2) := by decide +kernel
theorem dX6_init_141 : decode cX6_init 141 = .ok (.if_icmp .ge 19, 3) := by decide +kernel
theorem dX6_init_144 : decode cX6_init 144 = .ok (.aload_n 0, 1) := by decide +kernel
theorem dX6_init_145 : decode cX6_init 145 = .ok (.getfield 9, 3) := by decide +kernel
theorem dX6_init_148 : decode cX6_init 148 = .ok (.bipush 10, 2) := by decide +kernel
theorem dX6_init_150 : decode cX6_init 150 = .ok (.iload_n 1, 1) := by decide +kernel
theorem dX6_init_151 : decode cX6_init 151 = .ok (.iadd, 1) := by decide +kernel
theorem dX6_init_152 : decode cX6_init 152 = .ok (.iconst (-1), 1) := by decide +kernel
theorem dX6_init_153 : decode cX6_init 153 = .ok (.iastore, 1) := by decide +kernel
theorem dX6_init_154 : decode cX6_init 154 = .ok (.iinc 1 1, 3) := by decide +kernel
theorem dX6_init_157 : decode cX6_init 157 = .ok (.goto (-19), 3) := by decide +kernel
theorem dX6_init_160 : decode cX6_init 160 = .ok (.return_, 1) := by decide +kernel
theorem dX6_finding_0 : decode cX6_finding 0 = .ok (.aload_n 0, 1) := by decide +kernel
theorem dX6_finding_1 : decode cX6_finding 1 = .ok (.getfield 19, 3) := by decide +kernel
theorem dX6_finding_4 : decode cX6_finding 4 = .ok (.ldc 60, 2) := by decide +kernel
theorem dX6_finding_6 : decode cX6_finding 6 = .ok (.iload_n 1, 1) := by decide +kernel
theorem dX6_finding_7 : decode cX6_finding 7 = .ok (.isub, 1) := by decide +kernel
theorem dX6_finding_8 : decode cX6_finding 8 = .ok (.iconst 1, 1) := by decide +kernel
theorem dX6_finding_9 : decode cX6_finding 9 = .ok (.iadd, 1) := by decide +kernel
theorem dX6_finding_10 : decode cX6_finding 10 = .ok (.dup2, 1) := by decide +kernel
theorem dX6_finding_11 : decode cX6_finding 11 = .ok (.iaload, 1) := by decide +kernel
theorem dX6_finding_12 : decode cX6_finding 12 = .ok (.iconst 1, 1) := by decide +kernel
theorem dX6_finding_13 : decode cX6_finding 13 = .ok (.iadd, 1) := by decide +kernel
theorem dX6_finding_14 : decode cX6_finding 14 = .ok (.iastore, 1) := by decide +kernel
theorem dX6_finding_15 : decode cX6_finding 15 = .ok (.aload_n 0, 1) := by decide +kernel
theorem dX6_finding_16 : decode cX6_finding 16 = .ok (.getfield 19, 3) := by decide +kernel
theorem dX6_finding_19 : decode cX6_finding 19 = .ok (.iconst 0, 1) := by decide +kernel
theorem dX6_finding_20 : decode cX6_finding 20 = .ok (.dup2, 1) := by decide +kernel
theorem dX6_finding_21 : decode cX6_finding 21 = .ok (.iaload, 1) := by decide +kernel
theorem dX6_finding_22 : decode cX6_finding 22 = .ok (.iconst 1, 1) := by decide +kernel
theorem dX6_finding_23 : decode cX6_finding 23 = .ok (.iadd, 1) := by decide +kernel
theorem dX6_finding_24 : decode cX6_finding 24 = .ok (.iastore, 1) := by decide +kernel
theorem dX6_finding_25 : decode cX6_finding 25 = .ok (.iload_n 1, 1) := by decide +kernel
theorem dX6_finding_26 : decode cX6_finding 26 = .ok (.ireturn, 1) := by decide +kernel
theorem dX6_within_0 : decode cX6_within 0 = .ok (.iload_n 0, 1) := by decide +kernel
theorem dX6_within_1 : decode cX6_within 1 = .ok (.iload_n 1, 1) := by decide +kernel
theorem dX6_within_2 : decode cX6_within 2 = .ok (.if_icmp .lt 12, 3) := by decide +kernel
theorem dX6_within_5 : decode cX6_within 5 = .ok (.iload_n 0, 1) := by decide +kernel
theorem dX6_within_6 : decode cX6_within 6 = .ok (.iload_n 2, 1) := by decide +kernel
theorem dX6_within_7 : decode cX6_within 7 = .ok (.if_icmp .gt 7, 3) := by decide +kernel
theorem dX6_within_10 : decode cX6_within 10 = .ok (.iconst 1, 1) := by decide +kernel
theorem dX6_within_11 : decode cX6_within 11 = .ok (.goto 4, 3) := by decide +kernel
theorem dX6_within_14 : decode cX6_within 14 = .ok (.iconst 0, 1) := by decide +kernel
theorem dX6_within_15 : decode cX6_within 15 = .ok (.ireturn, 1) := by decide +kernel
theorem dX6_become_0 : decode cX6_become 0 = .ok (.aload_n 0, 1) := by decide +kernel
theorem dX6_become_1 : decode cX6_become 1 = .ok (.getfield 9, 3) := by decide +kernel
theorem dX6_become_4 : decode cX6_become 4 = .ok (.iload_n 1, 1) := by decide +kernel
theorem dX6_become_5 : decode cX6_become 5 = .ok (.iaload, 1) := by decide +kernel
theorem dX6_become_6 : decode cX6_become 6 = .ok (.istore_n 3, 1) := by decide +kernel
theorem dX6_become_7 : decode cX6_become 7 = .ok (.aload_n 0, 1) := by decide +kernel
theorem dX6_become_8 : decode cX6_become 8 = .ok (.getfield 9, 3) := by decide +kernel
theorem dX6_become_11 : decode cX6_become 11 = .ok (.iload_n 1, 1) := by decide +kernel
theorem dX6_become_12 : decode cX6_become 12 = .ok (.iload_n 2, 1) := by decide +kernel
theorem dX6_become_13 : decode cX6_become 13 = .ok (.iastore, 1) := by decide +kernel
theorem dX6_become_14 : decode cX6_become 14 = .ok (.iload_n 3, 1) := by decide +kernel
theorem dX6_become_15 : decode cX6_become 15 = .ok (.ireturn, 1) := by decide +kernel
theorem dX6_copyRow_0 : decode cX6_copyRow 0 = .ok (.iconst 0, 1) := by decide +kernel
theorem dX6_copyRow_1 : decode cX6_copyRow 1 = .ok (.istore_n 2, 1) := by decide +kernel
theorem dX6_copyRow_2 : decode cX6_copyRow 2 = .ok (.iload_n 2, 1) := by decide +kernel
theorem dX6_copyRow_3 : decode cX6_copyRow 3 = .ok (.bipush 92, 2) := by decide +kernel
theorem dX6_copyRow_5 : decode cX6_copyRow 5 = .ok (.if_icmp .ge 15, 3) := by decide +kernel
theorem dX6_copyRow_8 : decode cX6_copyRow 8 = .ok (.aload_n 1, 1) := by decide +kernel
theorem dX6_copyRow_9 : decode cX6_copyRow 9 = .ok (.iload_n 2, 1) := by decide +kernel
theorem dX6_copyRow_10 : decode cX6_copyRow 10 = .ok (.aload_n 0, 1) := by decide +kernel
theorem dX6_copyRow_11 : decode cX6_copyRow 11 = .ok (.iload_n 2, 1) := by decide +kernel
theorem dX6_copyRow_12 : decode cX6_copyRow 12 = .ok (.iaload, 1) := by decide +kernel
theorem dX6_copyRow_13 : decode cX6_copyRow 13 = .ok (.iastore, 1) := by decide +kernel
theorem dX6_copyRow_14 : decode cX6_copyRow 14 = .ok (.iinc 2 1, 3) := by decide +kernel
theorem dX6_copyRow_17 : decode cX6_copyRow 17 = .ok (.goto (-15), 3) := by decide +kernel
theorem dX6_copyRow_20 : decode cX6_copyRow 20 = .ok (.return_, 1) := by decide +kernel
theorem dX6_putBack_0 : decode cX6_putBack 0 = .ok (.aload_n 0, 1) := by decide +kernel
theorem dX6_putBack_1 : decode cX6_putBack 1 = .ok (.getfield 16, 3) := by decide +kernel
theorem dX6_putBack_4 : decode cX6_putBack 4 = .ok (.aload_n 0, 1) := by decide +kernel
theorem dX6_putBack_5 : decode cX6_putBack 5 = .ok (.getfield 9, 3) := by decide +kernel
theorem dX6_putBack_8 : decode cX6_putBack 8 = .ok (.invokestatic 61, 3) := by decide +kernel
theorem dX6_putBack_11 : decode cX6_putBack 11 = .ok (.iload_n 1, 1) := by decide +kernel
theorem dX6_putBack_12 : decode cX6_putBack 12 = .ok (.ireturn, 1) := by decide +kernel
theorem dX6_orNone_0 : decode cX6_orNone 0 = .ok (.iload_n 1, 1) := by decide +kernel
theorem dX6_orNone_1 : decode cX6_orNone 1 = .ok (.ifCond .ge 12, 3) := by decide +kernel
theorem dX6_orNone_4 : decode cX6_orNone 4 = .ok (.aload_n 0, 1) := by decide +kernel
theorem dX6_orNone_5 : decode cX6_orNone 5 = .ok (.ldc 65, 2) := by decide +kernel
theorem dX6_orNone_7 : decode cX6_orNone 7 = .ok (.invokevirtual 66, 3) := by decide +kernel
theorem dX6_orNone_10 : decode cX6_orNone 10 = .ok (.goto 4, 3) := by decide +kernel
theorem dX6_orNone_13 : decode cX6_orNone 13 = .ok (.iload_n 1, 1) := by decide +kernel
theorem dX6_orNone_14 : decode cX6_orNone 14 = .ok (.ireturn, 1) := by decide +kernel
theorem dX6_bits_0 : decode cX6_bits 0 = .ok (.iconst 0, 1) := by decide +kernel
theorem dX6_bits_1 : decode cX6_bits 1 = .ok (.istore_n 1, 1) := by decide +kernel
theorem dX6_bits_2 : decode cX6_bits 2 = .ok (.iload_n 0, 1) := by decide +kernel
theorem dX6_bits_3 : decode cX6_bits 3 = .ok (.istore_n 2, 1) := by decide +kernel
theorem dX6_bits_4 : decode cX6_bits 4 = .ok (.iload_n 2, 1) := by decide +kernel
theorem dX6_bits_5 : decode cX6_bits 5 = .ok (.ifCond .eq 15, 3) := by decide +kernel
theorem dX6_bits_8 : decode cX6_bits 8 = .ok (.iinc 1 1, 3) := by decide +kernel
theorem dX6_bits_11 : decode cX6_bits 11 = .ok (.iload_n 2, 1) := by decide +kernel
theorem dX6_bits_12 : decode cX6_bits 12 = .ok (.iload_n 2, 1) := by decide +kernel
theorem dX6_bits_13 : decode cX6_bits 13 = .ok (.iconst 1, 1) := by decide +kernel
theorem dX6_bits_14 : decode cX6_bits 14 = .ok (.isub, 1) := by decide +kernel
theorem dX6_bits_15 : decode cX6_bits 15 = .ok (.iand, 1) := by decide +kernel
theorem dX6_bits_16 : decode cX6_bits 16 = .ok (.istore_n 2, 1) := by decide +kernel
theorem dX6_bits_17 : decode cX6_bits 17 = .ok (.goto (-13), 3) := by decide +kernel
theorem dX6_bits_20 : decode cX6_bits 20 = .ok (.iload_n 1, 1) := by decide +kernel
theorem dX6_bits_21 : decode cX6_bits 21 = .ok (.ireturn, 1) := by decide +kernel
theorem dX6_isCell_0 : decode cX6_isCell 0 = .ok (.iload_n 0, 1) := by decide +kernel
theorem dX6_isCell_1 : decode cX6_isCell 1 = .ok (.iconst 0, 1) := by decide +kernel
theorem dX6_isCell_2 : decode cX6_isCell 2 = .ok (.bipush 15, 2) := by decide +kernel
theorem dX6_isCell_4 : decode cX6_isCell 4 = .ok (.invokestatic 70, 3) := by decide +kernel
theorem dX6_isCell_7 : decode cX6_isCell 7 = .ok (.ireturn, 1) := by decide +kernel
theorem dX6_isNote_0 : decode cX6_isNote 0 = .ok (.iload_n 0, 1) := by decide +kernel
theorem dX6_isNote_1 : decode cX6_isNote 1 = .ok (.iconst 0, 1) := by decide +kernel
theorem dX6_isNote_2 : decode cX6_isNote 2 = .ok (.bipush 11, 2) := by decide +kernel
theorem dX6_isNote_4 : decode cX6_isNote 4 = .ok (.invokestatic 70, 3) := by decide +kernel
theorem dX6_isNote_7 : decode cX6_isNote 7 = .ok (.ireturn, 1) := by decide +kernel
theorem dX6_isFog_0 : decode cX6_isFog 0 = .ok (.iload_n 0, 1) := by decide +kernel
theorem dX6_isFog_1 : decode cX6_isFog 1 = .ok (.iconst 0, 1) := by decide +kernel
theorem dX6_isFog_2 : decode cX6_isFog 2 = .ok (.bipush 9, 2) := by decide +kernel
theorem dX6_isFog_4 : decode cX6_isFog 4 = .ok (.invokestatic 70, 3) := by decide +kernel
theorem dX6_isFog_7 : decode cX6_isFog 7 = .ok (.ireturn, 1) := by decide +kernel
theorem dX6_isSet_0 : decode cX6_isSet 0 = .ok (.iload_n 0, 1) := by decide +kernel
theorem dX6_isSet_1 : decode cX6_isSet 1 = .ok (.iconst 0, 1) := by decide +kernel
theorem dX6_isSet_2 : decode cX6_isSet 2 = .ok (.sipush 4095, 3) := by decide +kernel
theorem dX6_isSet_5 : decode cX6_isSet 5 = .ok (.invokestatic 70, 3) := by decide +kernel
theorem dX6_isSet_8 : decode cX6_isSet 8 = .ok (.ireturn, 1) := by decide +kernel
theorem dX6_isPlace_0 : decode cX6_isPlace 0 = .ok (.iload_n 0, 1) := by decide +kernel
theorem dX6_isPlace_1 : decode cX6_isPlace 1 = .ok (.iconst 0, 1) := by decide +kernel
theorem dX6_isPlace_2 : decode cX6_isPlace 2 = .ok (.iconst 5, 1) := by decide +kernel
theorem dX6_isPlace_3 : decode cX6_isPlace 3 = .ok (.invokestatic 70, 3) := by decide +kernel
theorem dX6_isPlace_6 : decode cX6_isPlace 6 = .ok (.ireturn, 1) := by decide +kernel
theorem dX6_fog_0 : decode cX6_fog 0 = .ok (.iload_n 1, 1) := by decide +kernel
theorem dX6_fog_1 : decode cX6_fog 1 = .ok (.invokestatic 74, 3) := by decide +kernel
theorem dX6_fog_4 : decode cX6_fog 4 = .ok (.ifCond .eq 21, 3) := by decide +kernel
theorem dX6_fog_7 : decode cX6_fog 7 = .ok (.iload_n 2, 1) := by decide +kernel
theorem dX6_fog_8 : decode cX6_fog 8 = .ok (.invokestatic 78, 3) := by decide +kernel
theorem dX6_fog_11 : decode cX6_fog 11 = .ok (.ifCond .eq 14, 3) := by decide +kernel
theorem dX6_fog_14 : decode cX6_fog 14 = .ok (.aload_n 0, 1) := by decide +kernel
theorem dX6_fog_15 : decode cX6_fog 15 = .ok (.iconst 4, 1) := by decide +kernel
theorem dX6_fog_16 : decode cX6_fog 16 = .ok (.iload_n 1, 1) := by decide +kernel
theorem dX6_fog_17 : decode cX6_fog 17 = .ok (.iadd, 1) := by decide +kernel
theorem dX6_fog_18 : decode cX6_fog 18 = .ok (.iload_n 2, 1) := by decide +kernel
theorem dX6_fog_19 : decode cX6_fog 19 = .ok (.invokevirtual 81, 3) := by decide +kernel
theorem dX6_fog_22 : decode cX6_fog 22 = .ok (.goto 9, 3) := by decide +kernel
theorem dX6_fog_25 : decode cX6_fog 25 = .ok (.aload_n 0, 1) := by decide +kernel
theorem dX6_fog_26 : decode cX6_fog 26 = .ok (.ldc 60, 2) := by decide +kernel
theorem dX6_fog_28 : decode cX6_fog 28 = .ok (.invokevirtual 66, 3) := by decide +kernel
theorem dX6_fog_31 : decode cX6_fog 31 = .ok (.ireturn, 1) := by decide +kernel
theorem dX6_listed_0 : decode cX6_listed 0 = .ok (.iload_n 1, 1) := by decide +kernel
theorem dX6_listed_1 : decode cX6_listed 1 = .ok (.invokestatic 74, 3) := by decide +kernel
theorem dX6_listed_4 : decode cX6_listed 4 = .ok (.ifCond .eq 14, 3) := by decide +kernel
theorem dX6_listed_7 : decode cX6_listed 7 = .ok (.aload_n 0, 1) := by decide +kernel
theorem dX6_listed_8 : decode cX6_listed 8 = .ok (.getfield 9, 3) := by decide +kernel
theorem dX6_listed_11 : decode cX6_listed 11 = .ok (.iconst 4, 1) := by decide +kernel
theorem dX6_listed_12 : decode cX6_listed 12 = .ok (.iload_n 1, 1) := by decide +kernel
theorem dX6_listed_13 : decode cX6_listed 13 = .ok (.iadd, 1) := by decide +kernel
theorem dX6_listed_14 : decode cX6_listed 14 = .ok (.iaload, 1) := by decide +kernel
theorem dX6_listed_15 : decode cX6_listed 15 = .ok (.goto 9, 3) := by decide +kernel
theorem dX6_listed_18 : decode cX6_listed 18 = .ok (.aload_n 0, 1) := by decide +kernel
theorem dX6_listed_19 : decode cX6_listed 19 = .ok (.ldc 60, 2) := by decide +kernel
theorem dX6_listed_21 : decode cX6_listed 21 = .ok (.invokevirtual 66, 3) := by decide +kernel
theorem dX6_listed_24 : decode cX6_listed 24 = .ok (.ireturn, 1) := by decide +kernel
theorem dX6_placeNow_0 : decode cX6_placeNow 0 = .ok (.iconst 4, 1) := by decide +kernel
theorem dX6_placeNow_1 : decode cX6_placeNow 1 = .ok (.aload_n 0, 1) := by decide +kernel
theorem dX6_placeNow_2 : decode cX6_placeNow 2 = .ok (.getfield 9, 3) := by decide +kernel
theorem dX6_placeNow_5 : decode cX6_placeNow 5 = .ok (.iconst 0, 1) := by decide +kernel
theorem dX6_placeNow_6 : decode cX6_placeNow 6 = .ok (.iaload, 1) := by decide +kernel
theorem dX6_placeNow_7 : decode cX6_placeNow 7 = .ok (.bipush 6, 2) := by decide +kernel
theorem dX6_placeNow_9 : decode cX6_placeNow 9 = .ok (.irem, 1) := by decide +kernel
theorem dX6_placeNow_10 : decode cX6_placeNow 10 = .ok (.iadd, 1) := by decide +kernel
theorem dX6_placeNow_11 : decode cX6_placeNow 11 = .ok (.ireturn, 1) := by decide +kernel
theorem dX6_keeperAt_0 : decode cX6_keeperAt 0 = .ok (.bipush 20, 2) := by decide +kernel
theorem dX6_keeperAt_2 : decode cX6_keeperAt 2 = .ok (.bipush 6, 2) := by decide +kernel
theorem dX6_keeperAt_4 : decode cX6_keeperAt 4 = .ok (.iload_n 0, 1) := by decide +kernel
theorem dX6_keeperAt_5 : decode cX6_keeperAt 5 = .ok (.imul, 1) := by decide +kernel
theorem dX6_keeperAt_6 : decode cX6_keeperAt 6 = .ok (.iadd, 1) := by decide +kernel
theorem dX6_keeperAt_7 : decode cX6_keeperAt 7 = .ok (.iload_n 1, 1) := by decide +kernel
theorem dX6_keeperAt_8 : decode cX6_keeperAt 8 = .ok (.iadd, 1) := by decide +kernel
theorem dX6_keeperAt_9 : decode cX6_keeperAt 9 = .ok (.ireturn, 1) := by decide +kernel
theorem dX6_keeperIs_0 : decode cX6_keeperIs 0 = .ok (.aload_n 0, 1) := by decide +kernel
theorem dX6_keeperIs_1 : decode cX6_keeperIs 1 = .ok (.getfield 9, 3) := by decide +kernel
theorem dX6_keeperIs_4 : decode cX6_keeperIs 4 = .ok (.iload_n 1, 1) := by decide +kernel
theorem dX6_keeperIs_5 : decode cX6_keeperIs 5 = .ok (.iload_n 2, 1) := by decide +kernel
theorem dX6_keeperIs_6 : decode cX6_keeperIs 6 = .ok (.invokestatic 85, 3) := by decide +kernel
theorem dX6_keeperIs_9 : decode cX6_keeperIs 9 = .ok (.iaload, 1) := by decide +kernel
theorem dX6_keeperIs_10 : decode cX6_keeperIs 10 = .ok (.ireturn, 1) := by decide +kernel
theorem dX6_isKeeper_0 : decode cX6_isKeeper 0 = .ok (.iload_n 1, 1) := by decide +kernel
theorem dX6_isKeeper_1 : decode cX6_isKeeper 1 = .ok (.iconst 0, 1) := by decide +kernel
theorem dX6_isKeeper_2 : decode cX6_isKeeper 2 = .ok (.aload_n 0, 1) := by decide +kernel
theorem dX6_isKeeper_3 : decode cX6_isKeeper 3 = .ok (.getfield 9, 3) := by decide +kernel
theorem dX6_isKeeper_6 : decode cX6_isKeeper 6 = .ok (.iconst 1, 1) := by decide +kernel
theorem dX6_isKeeper_7 : decode cX6_isKeeper 7 = .ok (.iaload, 1) := by decide +kernel
theorem dX6_isKeeper_8 : decode cX6_isKeeper 8 = .ok (.iconst 1, 1) := by decide +kernel
theorem dX6_isKeeper_9 : decode cX6_isKeeper 9 = .ok (.isub, 1) := by decide +kernel
theorem dX6_isKeeper_10 : decode cX6_isKeeper 10 = .ok (.invokestatic 70, 3) := by decide +kernel
theorem dX6_isKeeper_13 : decode cX6_isKeeper 13 = .ok (.ireturn, 1) := by decide +kernel
theorem dX6_childAt_0 : decode cX6_childAt 0 = .ok (.bipush 68, 2) := by decide +kernel
theorem dX6_childAt_2 : decode cX6_childAt 2 = .ok (.iconst 4, 1) := by decide +kernel
theorem dX6_childAt_3 : decode cX6_childAt 3 = .ok (.iload_n 0, 1) := by decide +kernel
theorem dX6_childAt_4 : decode cX6_childAt 4 = .ok (.imul, 1) := by decide +kernel
theorem dX6_childAt_5 : decode cX6_childAt 5 = .ok (.iadd, 1) := by decide +kernel
theorem dX6_childAt_6 : decode cX6_childAt 6 = .ok (.iload_n 1, 1) := by decide +kernel
theorem dX6_childAt_7 : decode cX6_childAt 7 = .ok (.iadd, 1) := by decide +kernel
theorem dX6_childAt_8 : decode cX6_childAt 8 = .ok (.ireturn, 1) := by decide +kernel
theorem dX6_childIs_0 : decode cX6_childIs 0 = .ok (.aload_n 0, 1) := by decide +kernel
theorem dX6_childIs_1 : decode cX6_childIs 1 = .ok (.getfield 9, 3) := by decide +kernel
theorem dX6_childIs_4 : decode cX6_childIs 4 = .ok (.iload_n 1, 1) := by decide +kernel
theorem dX6_childIs_5 : decode cX6_childIs 5 = .ok (.iload_n 2, 1) := by decide +kernel
theorem dX6_childIs_6 : decode cX6_childIs 6 = .ok (.invokestatic 88, 3) := by decide +kernel
theorem dX6_childIs_9 : decode cX6_childIs 9 = .ok (.iaload, 1) := by decide +kernel
theorem dX6_childIs_10 : decode cX6_childIs 10 = .ok (.ireturn, 1) := by decide +kernel
theorem dX6_isChild_0 : decode cX6_isChild 0 = .ok (.iload_n 1, 1) := by decide +kernel
theorem dX6_isChild_1 : decode cX6_isChild 1 = .ok (.iconst 0, 1) := by decide +kernel
theorem dX6_isChild_2 : decode cX6_isChild 2 = .ok (.aload_n 0, 1) := by decide +kernel
theorem dX6_isChild_3 : decode cX6_isChild 3 = .ok (.getfield 9, 3) := by decide +kernel
theorem dX6_isChild_6 : decode cX6_isChild 6 = .ok (.iconst 3, 1) := by decide +kernel
theorem dX6_isChild_7 : decode cX6_isChild 7 = .ok (.iaload, 1) := by decide +kernel
theorem dX6_isChild_8 : decode cX6_isChild 8 = .ok (.iconst 1, 1) := by decide +kernel
theorem dX6_isChild_9 : decode cX6_isChild 9 = .ok (.isub, 1) := by decide +kernel
theorem dX6_isChild_10 : decode cX6_isChild 10 = .ok (.invokestatic 70, 3) := by decide +kernel
theorem dX6_isChild_13 : decode cX6_isChild 13 = .ok (.ireturn, 1) := by decide +kernel
theorem dX6_isKind_0 : decode cX6_isKind 0 = .ok (.iload_n 0, 1) := by decide +kernel
theorem dX6_isKind_1 : decode cX6_isKind 1 = .ok (.iconst 0, 1) := by decide +kernel
theorem dX6_isKind_2 : decode cX6_isKind 2 = .ok (.bipush 6, 2) := by decide +kernel
theorem dX6_isKind_4 : decode cX6_isKind 4 = .ok (.invokestatic 70, 3) := by decide +kernel
theorem dX6_isKind_7 : decode cX6_isKind 7 = .ok (.ireturn, 1) := by decide +kernel
theorem dX6_comes_0 : decode cX6_comes 0 = .ok (.aload_n 0, 1) := by decide +kernel
theorem dX6_comes_1 : decode cX6_comes 1 = .ok (.getfield 9, 3) := by decide +kernel
theorem dX6_comes_4 : decode cX6_comes 4 = .ok (.iconst 1, 1) := by decide +kernel
theorem dX6_comes_5 : decode cX6_comes 5 = .ok (.iaload, 1) := by decide +kernel
theorem dX6_comes_6 : decode cX6_comes 6 = .ok (.istore_n 3, 1) := by decide +kernel
theorem dX6_comes_7 : decode cX6_comes 7 = .ok (.iconst 0, 1) := by decide +kernel
theorem dX6_comes_8 : decode cX6_comes 8 = .ok (.istore 4, 2) := by decide +kernel
theorem dX6_comes_10 : decode cX6_comes 10 = .ok (.iload 4, 2) := by decide +kernel
theorem dX6_comes_12 : decode cX6_comes 12 = .ok (.bipush 6, 2) := by decide +kernel
theorem dX6_comes_14 : decode cX6_comes 14 = .ok (.if_icmp .ge 21, 3) := by decide +kernel
theorem dX6_comes_17 : decode cX6_comes 17 = .ok (.aload_n 0, 1) := by decide +kernel
theorem dX6_comes_18 : decode cX6_comes 18 = .ok (.getfield 9, 3) := by decide +kernel
theorem dX6_comes_21 : decode cX6_comes 21 = .ok (.iload_n 3, 1) := by decide +kernel
theorem dX6_comes_22 : decode cX6_comes 22 = .ok (.iload 4, 2) := by decide +kernel
theorem dX6_comes_24 : decode cX6_comes 24 = .ok (.invokestatic 85, 3) := by decide +kernel
theorem dX6_comes_27 : decode cX6_comes 27 = .ok (.iconst 0, 1) := by decide +kernel
theorem dX6_comes_28 : decode cX6_comes 28 = .ok (.iastore, 1) := by decide +kernel
theorem dX6_comes_29 : decode cX6_comes 29 = .ok (.iinc 4 1, 3) := by decide +kernel
theorem dX6_comes_32 : decode cX6_comes 32 = .ok (.goto (-22), 3) := by decide +kernel
theorem dX6_comes_35 : decode cX6_comes 35 = .ok (.aload_n 0, 1) := by decide +kernel
theorem dX6_comes_36 : decode cX6_comes 36 = .ok (.getfield 9, 3) := by decide +kernel
theorem dX6_comes_39 : decode cX6_comes 39 = .ok (.iload_n 3, 1) := by decide +kernel
theorem dX6_comes_40 : decode cX6_comes 40 = .ok (.iconst 0, 1) := by decide +kernel
theorem dX6_comes_41 : decode cX6_comes 41 = .ok (.invokestatic 85, 3) := by decide +kernel
theorem dX6_comes_44 : decode cX6_comes 44 = .ok (.iload_n 1, 1) := by decide +kernel
theorem dX6_comes_45 : decode cX6_comes 45 = .ok (.iastore, 1) := by decide +kernel
theorem dX6_comes_46 : decode cX6_comes 46 = .ok (.aload_n 0, 1) := by decide +kernel
theorem dX6_comes_47 : decode cX6_comes 47 = .ok (.getfield 9, 3) := by decide +kernel
theorem dX6_comes_50 : decode cX6_comes 50 = .ok (.iload_n 3, 1) := by decide +kernel
theorem dX6_comes_51 : decode cX6_comes 51 = .ok (.iconst 1, 1) := by decide +kernel
theorem dX6_comes_52 : decode cX6_comes 52 = .ok (.invokestatic 85, 3) := by decide +kernel
theorem dX6_comes_55 : decode cX6_comes 55 = .ok (.iload_n 2, 1) := by decide +kernel
theorem dX6_comes_56 : decode cX6_comes 56 = .ok (.iastore, 1) := by decide +kernel
theorem dX6_comes_57 : decode cX6_comes 57 = .ok (.aload_n 0, 1) := by decide +kernel
theorem dX6_comes_58 : decode cX6_comes 58 = .ok (.getfield 9, 3) := by decide +kernel
theorem dX6_comes_61 : decode cX6_comes 61 = .ok (.iload_n 3, 1) := by decide +kernel
theorem dX6_comes_62 : decode cX6_comes 62 = .ok (.iconst 3, 1) := by decide +kernel
theorem dX6_comes_63 : decode cX6_comes 63 = .ok (.invokestatic 85, 3) := by decide +kernel
theorem dX6_comes_66 : decode cX6_comes 66 = .ok (.bipush 6, 2) := by decide +kernel
theorem dX6_comes_68 : decode cX6_comes 68 = .ok (.iastore, 1) := by decide +kernel
theorem dX6_comes_69 : decode cX6_comes 69 = .ok (.aload_n 0, 1) := by decide +kernel
theorem dX6_comes_70 : decode cX6_comes 70 = .ok (.getfield 9, 3) := by decide +kernel
theorem dX6_comes_73 : decode cX6_comes 73 = .ok (.iconst 1, 1) := by decide +kernel
theorem dX6_comes_74 : decode cX6_comes 74 = .ok (.dup2, 1) := by decide +kernel
theorem dX6_comes_75 : decode cX6_comes 75 = .ok (.iaload, 1) := by decide +kernel
theorem dX6_comes_76 : decode cX6_comes 76 = .ok (.iconst 1, 1) := by decide +kernel
theorem dX6_comes_77 : decode cX6_comes 77 = .ok (.iadd, 1) := by decide +kernel
theorem dX6_comes_78 : decode cX6_comes 78 = .ok (.iastore, 1) := by decide +kernel
theorem dX6_comes_79 : decode cX6_comes 79 = .ok (.iload_n 3, 1) := by decide +kernel
theorem dX6_comes_80 : decode cX6_comes 80 = .ok (.ireturn, 1) := by decide +kernel
theorem dX6_childComes_0 : decode cX6_childComes 0 = .ok (.aload_n 0, 1) := by decide +kernel
theorem dX6_childComes_1 : decode cX6_childComes 1 = .ok (.getfield 9, 3) := by decide +kernel
theorem dX6_childComes_4 : decode cX6_childComes 4 = .ok (.iconst 3, 1) := by decide +kernel
theorem dX6_childComes_5 : decode cX6_childComes 5 = .ok (.iaload, 1) := by decide +kernel
theorem dX6_childComes_6 : decode cX6_childComes 6 = .ok (.istore_n 3, 1) := by decide +kernel
theorem dX6_childComes_7 : decode cX6_childComes 7 = .ok (.aload_n 0, 1) := by decide +kernel
theorem dX6_childComes_8 : decode cX6_childComes 8 = .ok (.getfield 9, 3) := by decide +kernel
theorem dX6_childComes_11 : decode cX6_childComes 11 = .ok (.iload_n 3, 1) := by decide +kernel
theorem dX6_childComes_12 : decode cX6_childComes 12 = .ok (.iconst 0, 1) := by decide +kernel
theorem dX6_childComes_13 : decode cX6_childComes 13 = .ok (.invokestatic 88, 3) := by decide +kernel
theorem dX6_childComes_16 : decode cX6_childComes 16 = .ok (.iload_n 1, 1) := by decide +kernel
theorem dX6_childComes_17 : decode cX6_childComes 17 = .ok (.iastore, 1) := by decide +kernel
theorem dX6_childComes_18 : decode cX6_childComes 18 = .ok (.aload_n 0, 1) := by decide +kernel
theorem dX6_childComes_19 : decode cX6_childComes 19 = .ok (.getfield 9, 3) := by decide +kernel
theorem dX6_childComes_22 : decode cX6_childComes 22 = .ok (.iload_n 3, 1) := by decide +kernel
theorem dX6_childComes_23 : decode cX6_childComes 23 = .ok (.iconst 1, 1) := by decide +kernel
theorem dX6_childComes_24 : decode cX6_childComes 24 = .ok (.invokestatic 88, 3) := by decide +kernel
theorem dX6_childComes_27 : decode cX6_childComes 27 = .ok (.iload_n 2, 1) := by decide +kernel
theorem dX6_childComes_28 : decode cX6_childComes 28 = .ok (.iastore, 1) := by decide +kernel
theorem dX6_childComes_29 : decode cX6_childComes 29 = .ok (.aload_n 0, 1) := by decide +kernel
theorem dX6_childComes_30 : decode cX6_childComes 30 = .ok (.getfield 9, 3) := by decide +kernel
theorem dX6_childComes_33 : decode cX6_childComes 33 = .ok (.iload_n 3, 1) := by decide +kernel
theorem dX6_childComes_34 : decode cX6_childComes 34 = .ok (.iconst 2, 1) := by decide +kernel
theorem dX6_childComes_35 : decode cX6_childComes 35 = .ok (.invokestatic 88, 3) := by decide +kernel
theorem dX6_childComes_38 : decode cX6_childComes 38 = .ok (.iconst 0, 1) := by decide +kernel
theorem dX6_childComes_39 : decode cX6_childComes 39 = .ok (.iastore, 1) := by decide +kernel
theorem dX6_childComes_40 : decode cX6_childComes 40 = .ok (.aload_n 0, 1) := by decide +kernel
theorem dX6_childComes_41 : decode cX6_childComes 41 = .ok (.getfield 9, 3) := by decide +kernel
theorem dX6_childComes_44 : decode cX6_childComes 44 = .ok (.iload_n 3, 1) := by decide +kernel
theorem dX6_childComes_45 : decode cX6_childComes 45 = .ok (.iconst 3, 1) := by decide +kernel
theorem dX6_childComes_46 : decode cX6_childComes 46 = .ok (.invokestatic 88, 3) := by decide +kernel
theorem dX6_childComes_49 : decode cX6_childComes 49 = .ok (.iconst 0, 1) := by decide +kernel
theorem dX6_childComes_50 : decode cX6_childComes 50 = .ok (.iastore, 1) := by decide +kernel
theorem dX6_childComes_51 : decode cX6_childComes 51 = .ok (.aload_n 0, 1) := by decide +kernel
theorem dX6_childComes_52 : decode cX6_childComes 52 = .ok (.getfield 9, 3) := by decide +kernel
theorem dX6_childComes_55 : decode cX6_childComes 55 = .ok (.iconst 3, 1) := by decide +kernel
theorem dX6_childComes_56 : decode cX6_childComes 56 = .ok (.dup2, 1) := by decide +kernel
theorem dX6_childComes_57 : decode cX6_childComes 57 = .ok (.iaload, 1) := by decide +kernel
theorem dX6_childComes_58 : decode cX6_childComes 58 = .ok (.iconst 1, 1) := by decide +kernel
theorem dX6_childComes_59 : decode cX6_childComes 59 = .ok (.iadd, 1) := by decide +kernel
theorem dX6_childComes_60 : decode cX6_childComes 60 = .ok (.iastore, 1) := by decide +kernel
theorem dX6_childComes_61 : decode cX6_childComes 61 = .ok (.iload_n 3, 1) := by decide +kernel
theorem dX6_childComes_62 : decode cX6_childComes 62 = .ok (.ireturn, 1) := by decide +kernel
theorem dX6_keeper_0 : decode cX6_keeper 0 = .ok (.iload_n 1, 1) := by decide +kernel
theorem dX6_keeper_1 : decode cX6_keeper 1 = .ok (.invokestatic 91, 3) := by decide +kernel
theorem dX6_keeper_4 : decode cX6_keeper 4 = .ok (.ifCond .eq 10, 3) := by decide +kernel
theorem dX6_keeper_7 : decode cX6_keeper 7 = .ok (.iload_n 2, 1) := by decide +kernel
theorem dX6_keeper_8 : decode cX6_keeper 8 = .ok (.invokestatic 94, 3) := by decide +kernel
theorem dX6_keeper_11 : decode cX6_keeper 11 = .ok (.ifCond .ne 10, 3) := by decide +kernel
theorem dX6_keeper_14 : decode cX6_keeper 14 = .ok (.aload_n 0, 1) := by decide +kernel
theorem dX6_keeper_15 : decode cX6_keeper 15 = .ok (.ldc 60, 2) := by decide +kernel
theorem dX6_keeper_17 : decode cX6_keeper 17 = .ok (.invokevirtual 66, 3) := by decide +kernel
theorem dX6_keeper_20 : decode cX6_keeper 20 = .ok (.ireturn, 1) := by decide +kernel
theorem dX6_keeper_21 : decode cX6_keeper 21 = .ok (.aload_n 0, 1) := by decide +kernel
theorem dX6_keeper_22 : decode cX6_keeper 22 = .ok (.getfield 9, 3) := by decide +kernel
theorem dX6_keeper_25 : decode cX6_keeper 25 = .ok (.iconst 1, 1) := by decide +kernel
theorem dX6_keeper_26 : decode cX6_keeper 26 = .ok (.iaload, 1) := by decide +kernel
theorem dX6_keeper_27 : decode cX6_keeper 27 = .ok (.bipush 8, 2) := by decide +kernel
theorem dX6_keeper_29 : decode cX6_keeper 29 = .ok (.if_icmp .ne 12, 3) := by decide +kernel
theorem dX6_keeper_32 : decode cX6_keeper 32 = .ok (.aload_n 0, 1) := by decide +kernel
theorem dX6_keeper_33 : decode cX6_keeper 33 = .ok (.ldc 97, 2) := by decide +kernel
theorem dX6_keeper_35 : decode cX6_keeper 35 = .ok (.invokevirtual 66, 3) := by decide +kernel
theorem dX6_keeper_38 : decode cX6_keeper 38 = .ok (.goto 9, 3) := by decide +kernel
theorem dX6_keeper_41 : decode cX6_keeper 41 = .ok (.aload_n 0, 1) := by decide +kernel
theorem dX6_keeper_42 : decode cX6_keeper 42 = .ok (.iload_n 1, 1) := by decide +kernel
theorem dX6_keeper_43 : decode cX6_keeper 43 = .ok (.iload_n 2, 1) := by decide +kernel
theorem dX6_keeper_44 : decode cX6_keeper 44 = .ok (.invokevirtual 98, 3) := by decide +kernel
theorem dX6_keeper_47 : decode cX6_keeper 47 = .ok (.ireturn, 1) := by decide +kernel
theorem dX6_child_0 : decode cX6_child 0 = .ok (.iload_n 1, 1) := by decide +kernel
theorem dX6_child_1 : decode cX6_child 1 = .ok (.invokestatic 94, 3) := by decide +kernel
theorem dX6_child_4 : decode cX6_child 4 = .ok (.ifCond .eq 13, 3) := by decide +kernel
theorem dX6_child_7 : decode cX6_child 7 = .ok (.iload_n 2, 1) := by decide +kernel
theorem dX6_child_8 : decode cX6_child 8 = .ok (.iconst 0, 1) := by decide +kernel
theorem dX6_child_9 : decode cX6_child 9 = .ok (.bipush 9, 2) := by decide +kernel
theorem dX6_child_11 : decode cX6_child 11 = .ok (.invokestatic 70, 3) := by decide +kernel
theorem dX6_child_14 : decode cX6_child 14 = .ok (.ifCond .ne 10, 3) := by decide +kernel
theorem dX6_child_17 : decode cX6_child 17 = .ok (.aload_n 0, 1) := by decide +kernel
theorem dX6_child_18 : decode cX6_child 18 = .ok (.ldc 60, 2) := by decide +kernel
theorem dX6_child_20 : decode cX6_child 20 = .ok (.invokevirtual 66, 3) := by decide +kernel
theorem dX6_child_23 : decode cX6_child 23 = .ok (.ireturn, 1) := by decide +kernel
theorem dX6_child_24 : decode cX6_child 24 = .ok (.aload_n 0, 1) := by decide +kernel
theorem dX6_child_25 : decode cX6_child 25 = .ok (.getfield 9, 3) := by decide +kernel
theorem dX6_child_28 : decode cX6_child 28 = .ok (.iconst 3, 1) := by decide +kernel
theorem dX6_child_29 : decode cX6_child 29 = .ok (.iaload, 1) := by decide +kernel
theorem dX6_child_30 : decode cX6_child 30 = .ok (.bipush 6, 2) := by decide +kernel
theorem dX6_child_32 : decode cX6_child 32 = .ok (.if_icmp .ne 12, 3) := by decide +kernel
theorem dX6_child_35 : decode cX6_child 35 = .ok (.aload_n 0, 1) := by decide +kernel
theorem dX6_child_36 : decode cX6_child 36 = .ok (.ldc 97, 2) := by decide +kernel
theorem dX6_child_38 : decode cX6_child 38 = .ok (.invokevirtual 66, 3) := by decide +kernel
theorem dX6_child_41 : decode cX6_child 41 = .ok (.goto 9, 3) := by decide +kernel
theorem dX6_child_44 : decode cX6_child 44 = .ok (.aload_n 0, 1) := by decide +kernel
theorem dX6_child_45 : decode cX6_child 45 = .ok (.iload_n 1, 1) := by decide +kernel
theorem dX6_child_46 : decode cX6_child 46 = .ok (.iload_n 2, 1) := by decide +kernel
theorem dX6_child_47 : decode cX6_child 47 = .ok (.invokevirtual 101, 3) := by decide +kernel
theorem dX6_child_50 : decode cX6_child 50 = .ok (.ireturn, 1) := by decide +kernel
theorem dX6_gives_0 : decode cX6_gives 0 = .ok (.aload_n 0, 1) := by decide +kernel
theorem dX6_gives_1 : decode cX6_gives 1 = .ok (.iload_n 1, 1) := by decide +kernel
theorem dX6_gives_2 : decode cX6_gives 2 = .ok (.iconst 2, 1) := by decide +kernel
theorem dX6_gives_3 : decode cX6_gives 3 = .ok (.invokevirtual 104, 3) := by decide +kernel
theorem dX6_gives_6 : decode cX6_gives 6 = .ok (.istore_n 2, 1) := by decide +kernel
theorem dX6_gives_7 : decode cX6_gives 7 = .ok (.aload_n 0, 1) := by decide +kernel
theorem dX6_gives_8 : decode cX6_gives 8 = .ok (.iload_n 1, 1) := by decide +kernel
theorem dX6_gives_9 : decode cX6_gives 9 = .ok (.iconst 0, 1) := by decide +kernel
theorem dX6_gives_10 : decode cX6_gives 10 = .ok (.invokevirtual 104, 3) := by decide +kernel
theorem dX6_gives_13 : decode cX6_gives 13 = .ok (.tableswitch 81 2 6 #[43, 55, 74, 76, 35], 35) := by decide +kernel
theorem dX6_gives_48 : decode cX6_gives 48 = .ok (.iload_n 2, 1) := by decide +kernel
theorem dX6_gives_49 : decode cX6_gives 49 = .ok (.bipush 11, 2) := by decide +kernel
theorem dX6_gives_51 : decode cX6_gives 51 = .ok (.iadd, 1) := by decide +kernel
theorem dX6_gives_52 : decode cX6_gives 52 = .ok (.bipush 12, 2) := by decide +kernel
theorem dX6_gives_54 : decode cX6_gives 54 = .ok (.irem, 1) := by decide +kernel
theorem dX6_gives_55 : decode cX6_gives 55 = .ok (.ireturn, 1) := by decide +kernel
theorem dX6_gives_56 : decode cX6_gives 56 = .ok (.iload_n 2, 1) := by decide +kernel
theorem dX6_gives_57 : decode cX6_gives 57 = .ok (.aload_n 0, 1) := by decide +kernel
theorem dX6_gives_58 : decode cX6_gives 58 = .ok (.iload_n 1, 1) := by decide +kernel
theorem dX6_gives_59 : decode cX6_gives 59 = .ok (.iconst 4, 1) := by decide +kernel
theorem dX6_gives_60 : decode cX6_gives 60 = .ok (.invokevirtual 104, 3) := by decide +kernel
theorem dX6_gives_63 : decode cX6_gives 63 = .ok (.iadd, 1) := by decide +kernel
theorem dX6_gives_64 : decode cX6_gives 64 = .ok (.bipush 12, 2) := by decide +kernel
theorem dX6_gives_66 : decode cX6_gives 66 = .ok (.irem, 1) := by decide +kernel
theorem dX6_gives_67 : decode cX6_gives 67 = .ok (.ireturn, 1) := by decide +kernel
theorem dX6_gives_68 : decode cX6_gives 68 = .ok (.iload_n 2, 1) := by decide +kernel
theorem dX6_gives_69 : decode cX6_gives 69 = .ok (.aload_n 0, 1) := by decide +kernel
theorem dX6_gives_70 : decode cX6_gives 70 = .ok (.iload_n 1, 1) := by decide +kernel
theorem dX6_gives_71 : decode cX6_gives 71 = .ok (.iconst 4, 1) := by decide +kernel
theorem dX6_gives_72 : decode cX6_gives 72 = .ok (.invokevirtual 104, 3) := by decide +kernel
theorem dX6_gives_75 : decode cX6_gives 75 = .ok (.iadd, 1) := by decide +kernel
theorem dX6_gives_76 : decode cX6_gives 76 = .ok (.aload_n 0, 1) := by decide +kernel
theorem dX6_gives_77 : decode cX6_gives 77 = .ok (.getfield 9, 3) := by decide +kernel
theorem dX6_gives_80 : decode cX6_gives 80 = .ok (.iconst 0, 1) := by decide +kernel
theorem dX6_gives_81 : decode cX6_gives 81 = .ok (.iaload, 1) := by decide +kernel
theorem dX6_gives_82 : decode cX6_gives 82 = .ok (.iadd, 1) := by decide +kernel
theorem dX6_gives_83 : decode cX6_gives 83 = .ok (.bipush 12, 2) := by decide +kernel
theorem dX6_gives_85 : decode cX6_gives 85 = .ok (.irem, 1) := by decide +kernel
theorem dX6_gives_86 : decode cX6_gives 86 = .ok (.ireturn, 1) := by decide +kernel
theorem dX6_gives_87 : decode cX6_gives 87 = .ok (.iconst 0, 1) := by decide +kernel
theorem dX6_gives_88 : decode cX6_gives 88 = .ok (.ireturn, 1) := by decide +kernel
theorem dX6_gives_89 : decode cX6_gives 89 = .ok (.bipush 11, 2) := by decide +kernel
theorem dX6_gives_91 : decode cX6_gives 91 = .ok (.iload_n 2, 1) := by decide +kernel
theorem dX6_gives_92 : decode cX6_gives 92 = .ok (.isub, 1) := by decide +kernel
theorem dX6_gives_93 : decode cX6_gives 93 = .ok (.ireturn, 1) := by decide +kernel
theorem dX6_gives_94 : decode cX6_gives 94 = .ok (.iload_n 2, 1) := by decide +kernel
theorem dX6_gives_95 : decode cX6_gives 95 = .ok (.ireturn, 1) := by decide +kernel
theorem dX6_reaches_0 : decode cX6_reaches 0 = .ok (.iconst 0, 1) := by decide +kernel
theorem dX6_reaches_1 : decode cX6_reaches 1 = .ok (.aload_n 0, 1) := by decide +kernel
theorem dX6_reaches_2 : decode cX6_reaches 2 = .ok (.iload_n 1, 1) := by decide +kernel
theorem dX6_reaches_3 : decode cX6_reaches 3 = .ok (.iconst 3, 1) := by decide +kernel
theorem dX6_reaches_4 : decode cX6_reaches 4 = .ok (.invokevirtual 104, 3) := by decide +kernel
theorem dX6_reaches_7 : decode cX6_reaches 7 = .ok (.iload_n 2, 1) := by decide +kernel
theorem dX6_reaches_8 : decode cX6_reaches 8 = .ok (.iconst 2, 1) := by decide +kernel
theorem dX6_reaches_9 : decode cX6_reaches 9 = .ok (.idiv, 1) := by decide +kernel
theorem dX6_reaches_10 : decode cX6_reaches 10 = .ok (.isub, 1) := by decide +kernel
theorem dX6_reaches_11 : decode cX6_reaches 11 = .ok (.invokestatic 107, 3) := by decide +kernel
theorem dX6_reaches_14 : decode cX6_reaches 14 = .ok (.istore_n 3, 1) := by decide +kernel
theorem dX6_reaches_15 : decode cX6_reaches 15 = .ok (.aload_n 0, 1) := by decide +kernel
theorem dX6_reaches_16 : decode cX6_reaches 16 = .ok (.iload_n 1, 1) := by decide +kernel
theorem dX6_reaches_17 : decode cX6_reaches 17 = .ok (.iconst 0, 1) := by decide +kernel
theorem dX6_reaches_18 : decode cX6_reaches 18 = .ok (.invokevirtual 104, 3) := by decide +kernel
theorem dX6_reaches_21 : decode cX6_reaches 21 = .ok (.tableswitch 66 1 6 #[39, 43, 43, 59, 62, 39], 39) := by decide +kernel
theorem dX6_reaches_60 : decode cX6_reaches 60 = .ok (.iload_n 3, 1) := by decide +kernel
theorem dX6_reaches_61 : decode cX6_reaches 61 = .ok (.iconst 2, 1) := by decide +kernel
theorem dX6_reaches_62 : decode cX6_reaches 62 = .ok (.iadd, 1) := by decide +kernel
theorem dX6_reaches_63 : decode cX6_reaches 63 = .ok (.ireturn, 1) := by decide +kernel
theorem dX6_reaches_64 : decode cX6_reaches 64 = .ok (.iconst 0, 1) := by decide +kernel
theorem dX6_reaches_65 : decode cX6_reaches 65 = .ok (.iload_n 3, 1) := by decide +kernel
theorem dX6_reaches_66 : decode cX6_reaches 66 = .ok (.aload_n 0, 1) := by decide +kernel
theorem dX6_reaches_67 : decode cX6_reaches 67 = .ok (.iload_n 1, 1) := by decide +kernel
theorem dX6_reaches_68 : decode cX6_reaches 68 = .ok (.iconst 4, 1) := by decide +kernel
theorem dX6_reaches_69 : decode cX6_reaches 69 = .ok (.invokevirtual 104, 3) := by decide +kernel
theorem dX6_reaches_72 : decode cX6_reaches 72 = .ok (.bipush 10, 2) := by decide +kernel
theorem dX6_reaches_74 : decode cX6_reaches 74 = .ok (.idiv, 1) := by decide +kernel
theorem dX6_reaches_75 : decode cX6_reaches 75 = .ok (.isub, 1) := by decide +kernel
theorem dX6_reaches_76 : decode cX6_reaches 76 = .ok (.invokestatic 107, 3) := by decide +kernel
theorem dX6_reaches_79 : decode cX6_reaches 79 = .ok (.ireturn, 1) := by decide +kernel
theorem dX6_reaches_80 : decode cX6_reaches 80 = .ok (.bipush 15, 2) := by decide +kernel
theorem dX6_reaches_82 : decode cX6_reaches 82 = .ok (.ireturn, 1) := by decide +kernel
theorem dX6_reaches_83 : decode cX6_reaches 83 = .ok (.iload_n 3, 1) := by decide +kernel
theorem dX6_reaches_84 : decode cX6_reaches 84 = .ok (.iconst 2, 1) := by decide +kernel
theorem dX6_reaches_85 : decode cX6_reaches 85 = .ok (.idiv, 1) := by decide +kernel
theorem dX6_reaches_86 : decode cX6_reaches 86 = .ok (.ireturn, 1) := by decide +kernel
theorem dX6_reaches_87 : decode cX6_reaches 87 = .ok (.iload_n 3, 1) := by decide +kernel
theorem dX6_reaches_88 : decode cX6_reaches 88 = .ok (.ireturn, 1) := by decide +kernel
theorem dX6_tempo_0 : decode cX6_tempo 0 = .ok (.aload_n 0, 1) := by decide +kernel
theorem dX6_tempo_1 : decode cX6_tempo 1 = .ok (.iload_n 1, 1) := by decide +kernel
theorem dX6_tempo_2 : decode cX6_tempo 2 = .ok (.iconst 0, 1) := by decide +kernel
theorem dX6_tempo_3 : decode cX6_tempo 3 = .ok (.invokevirtual 104, 3) := by decide +kernel
theorem dX6_tempo_6 : decode cX6_tempo 6 = .ok (.tableswitch 52 1 6 #[38, 43, 45, 47, 49, 40], 38) := by decide +kernel
theorem dX6_tempo_44 : decode cX6_tempo 44 = .ok (.iconst 5, 1) := by decide +kernel
theorem dX6_tempo_45 : decode cX6_tempo 45 = .ok (.ireturn, 1) := by decide +kernel
theorem dX6_tempo_46 : decode cX6_tempo 46 = .ok (.bipush 6, 2) := by decide +kernel
theorem dX6_tempo_48 : decode cX6_tempo 48 = .ok (.ireturn, 1) := by decide +kernel
theorem dX6_tempo_49 : decode cX6_tempo 49 = .ok (.iconst 2, 1) := by decide +kernel
theorem dX6_tempo_50 : decode cX6_tempo 50 = .ok (.ireturn, 1) := by decide +kernel
theorem dX6_tempo_51 : decode cX6_tempo 51 = .ok (.iconst 4, 1) := by decide +kernel
theorem dX6_tempo_52 : decode cX6_tempo 52 = .ok (.ireturn, 1) := by decide +kernel
theorem dX6_tempo_53 : decode cX6_tempo 53 = .ok (.iconst 0, 1) := by decide +kernel
theorem dX6_tempo_54 : decode cX6_tempo 54 = .ok (.ireturn, 1) := by decide +kernel
theorem dX6_tempo_55 : decode cX6_tempo 55 = .ok (.bipush 7, 2) := by decide +kernel
theorem dX6_tempo_57 : decode cX6_tempo 57 = .ok (.ireturn, 1) := by decide +kernel
theorem dX6_tempo_58 : decode cX6_tempo 58 = .ok (.iconst 3, 1) := by decide +kernel
theorem dX6_tempo_59 : decode cX6_tempo 59 = .ok (.ireturn, 1) := by decide +kernel
theorem dX6_tires_0 : decode cX6_tires 0 = .ok (.aload_n 0, 1) := by decide +kernel
theorem dX6_tires_1 : decode cX6_tires 1 = .ok (.iload_n 1, 1) := by decide +kernel
theorem dX6_tires_2 : decode cX6_tires 2 = .ok (.iconst 0, 1) := by decide +kernel
theorem dX6_tires_3 : decode cX6_tires 3 = .ok (.invokevirtual 104, 3) := by decide +kernel
theorem dX6_tires_6 : decode cX6_tires 6 = .ok (.tableswitch 46 1 6 #[38, 42, 42, 44, 44, 40], 38) := by decide +kernel
theorem dX6_tires_44 : decode cX6_tires 44 = .ok (.iconst 1, 1) := by decide +kernel
theorem dX6_tires_45 : decode cX6_tires 45 = .ok (.ireturn, 1) := by decide +kernel
theorem dX6_tires_46 : decode cX6_tires 46 = .ok (.iconst 3, 1) := by decide +kernel
theorem dX6_tires_47 : decode cX6_tires 47 = .ok (.ireturn, 1) := by decide +kernel
theorem dX6_tires_48 : decode cX6_tires 48 = .ok (.iconst 5, 1) := by decide +kernel
theorem dX6_tires_49 : decode cX6_tires 49 = .ok (.ireturn, 1) := by decide +kernel
theorem dX6_tires_50 : decode cX6_tires 50 = .ok (.iconst 0, 1) := by decide +kernel
theorem dX6_tires_51 : decode cX6_tires 51 = .ok (.ireturn, 1) := by decide +kernel
theorem dX6_tires_52 : decode cX6_tires 52 = .ok (.iconst 2, 1) := by decide +kernel
theorem dX6_tires_53 : decode cX6_tires 53 = .ok (.ireturn, 1) := by decide +kernel
theorem dX6_turns_0 : decode cX6_turns 0 = .ok (.aload_n 0, 1) := by decide +kernel
theorem dX6_turns_1 : decode cX6_turns 1 = .ok (.getfield 9, 3) := by decide +kernel
theorem dX6_turns_4 : decode cX6_turns 4 = .ok (.iconst 0, 1) := by decide +kernel
theorem dX6_turns_5 : decode cX6_turns 5 = .ok (.iaload, 1) := by decide +kernel
theorem dX6_turns_6 : decode cX6_turns 6 = .ok (.iconst 2, 1) := by decide +kernel
theorem dX6_turns_7 : decode cX6_turns 7 = .ok (.irem, 1) := by decide +kernel
theorem dX6_turns_8 : decode cX6_turns 8 = .ok (.ifCond .ne 7, 3) := by decide +kernel
theorem dX6_turns_11 : decode cX6_turns 11 = .ok (.iconst 1, 1) := by decide +kernel
theorem dX6_turns_12 : decode cX6_turns 12 = .ok (.goto 4, 3) := by decide +kernel
theorem dX6_turns_15 : decode cX6_turns 15 = .ok (.iconst 0, 1) := by decide +kernel
theorem dX6_turns_16 : decode cX6_turns 16 = .ok (.istore_n 2, 1) := by decide +kernel
theorem dX6_turns_17 : decode cX6_turns 17 = .ok (.aload_n 0, 1) := by decide +kernel
theorem dX6_turns_18 : decode cX6_turns 18 = .ok (.iload_n 1, 1) := by decide +kernel
theorem dX6_turns_19 : decode cX6_turns 19 = .ok (.iconst 0, 1) := by decide +kernel
theorem dX6_turns_20 : decode cX6_turns 20 = .ok (.invokevirtual 104, 3) := by decide +kernel
theorem dX6_turns_23 : decode cX6_turns 23 = .ok (.tableswitch 46 2 6 #[35, 37, 41, 43, 33], 33) := by decide +kernel
theorem dX6_turns_56 : decode cX6_turns 56 = .ok (.iconst 2, 1) := by decide +kernel
theorem dX6_turns_57 : decode cX6_turns 57 = .ok (.ireturn, 1) := by decide +kernel
theorem dX6_turns_58 : decode cX6_turns 58 = .ok (.iload_n 2, 1) := by decide +kernel
theorem dX6_turns_59 : decode cX6_turns 59 = .ok (.ireturn, 1) := by decide +kernel
theorem dX6_turns_60 : decode cX6_turns 60 = .ok (.iload_n 2, 1) := by decide +kernel
theorem dX6_turns_61 : decode cX6_turns 61 = .ok (.iconst 5, 1) := by decide +kernel
theorem dX6_turns_62 : decode cX6_turns 62 = .ok (.iadd, 1) := by decide +kernel
theorem dX6_turns_63 : decode cX6_turns 63 = .ok (.ireturn, 1) := by decide +kernel
theorem dX6_turns_64 : decode cX6_turns 64 = .ok (.iconst 0, 1) := by decide +kernel
theorem dX6_turns_65 : decode cX6_turns 65 = .ok (.ireturn, 1) := by decide +kernel
theorem dX6_turns_66 : decode cX6_turns 66 = .ok (.bipush 11, 2) := by decide +kernel
theorem dX6_turns_68 : decode cX6_turns 68 = .ok (.ireturn, 1) := by decide +kernel
theorem dX6_turns_69 : decode cX6_turns 69 = .ok (.iconst 1, 1) := by decide +kernel
theorem dX6_turns_70 : decode cX6_turns 70 = .ok (.ireturn, 1) := by decide +kernel
theorem dX6_told_0 : decode cX6_told 0 = .ok (.iload_n 2, 1) := by decide +kernel
theorem dX6_told_1 : decode cX6_told 1 = .ok (.tableswitch 74 6 10 #[35, 41, 56, 62, 68], 35) := by decide +kernel
theorem dX6_told_36 : decode cX6_told 36 = .ok (.aload_n 0, 1) := by decide +kernel
theorem dX6_told_37 : decode cX6_told 37 = .ok (.iload_n 1, 1) := by decide +kernel
theorem dX6_told_38 : decode cX6_told 38 = .ok (.invokevirtual 112, 3) := by decide +kernel
theorem dX6_told_41 : decode cX6_told 41 = .ok (.ireturn, 1) := by decide +kernel
theorem dX6_told_42 : decode cX6_told 42 = .ok (.aload_n 0, 1) := by decide +kernel
theorem dX6_told_43 : decode cX6_told 43 = .ok (.iload_n 1, 1) := by decide +kernel
theorem dX6_told_44 : decode cX6_told 44 = .ok (.aload_n 0, 1) := by decide +kernel
theorem dX6_told_45 : decode cX6_told 45 = .ok (.getfield 9, 3) := by decide +kernel
theorem dX6_told_48 : decode cX6_told 48 = .ok (.aload_n 0, 1) := by decide +kernel
theorem dX6_told_49 : decode cX6_told 49 = .ok (.invokevirtual 115, 3) := by decide +kernel
theorem dX6_told_52 : decode cX6_told 52 = .ok (.iaload, 1) := by decide +kernel
theorem dX6_told_53 : decode cX6_told 53 = .ok (.invokevirtual 119, 3) := by decide +kernel
theorem dX6_told_56 : decode cX6_told 56 = .ok (.ireturn, 1) := by decide +kernel
theorem dX6_told_57 : decode cX6_told 57 = .ok (.aload_n 0, 1) := by decide +kernel
theorem dX6_told_58 : decode cX6_told 58 = .ok (.iload_n 1, 1) := by decide +kernel
theorem dX6_told_59 : decode cX6_told 59 = .ok (.invokevirtual 122, 3) := by decide +kernel
theorem dX6_told_62 : decode cX6_told 62 = .ok (.ireturn, 1) := by decide +kernel
theorem dX6_told_63 : decode cX6_told 63 = .ok (.aload_n 0, 1) := by decide +kernel
theorem dX6_told_64 : decode cX6_told 64 = .ok (.iload_n 1, 1) := by decide +kernel
theorem dX6_told_65 : decode cX6_told 65 = .ok (.invokevirtual 125, 3) := by decide +kernel
theorem dX6_told_68 : decode cX6_told 68 = .ok (.ireturn, 1) := by decide +kernel
theorem dX6_told_69 : decode cX6_told 69 = .ok (.aload_n 0, 1) := by decide +kernel
theorem dX6_told_70 : decode cX6_told 70 = .ok (.iload_n 1, 1) := by decide +kernel
theorem dX6_told_71 : decode cX6_told 71 = .ok (.invokevirtual 128, 3) := by decide +kernel
theorem dX6_told_74 : decode cX6_told 74 = .ok (.ireturn, 1) := by decide +kernel
theorem dX6_told_75 : decode cX6_told 75 = .ok (.aload_n 0, 1) := by decide +kernel
theorem dX6_told_76 : decode cX6_told 76 = .ok (.iload_n 1, 1) := by decide +kernel
theorem dX6_told_77 : decode cX6_told 77 = .ok (.iload_n 2, 1) := by decide +kernel
theorem dX6_told_78 : decode cX6_told 78 = .ok (.invokevirtual 104, 3) := by decide +kernel
theorem dX6_told_81 : decode cX6_told 81 = .ok (.ireturn, 1) := by decide +kernel
theorem dX6_of_0 : decode cX6_of 0 = .ok (.aload_n 0, 1) := by decide +kernel
theorem dX6_of_1 : decode cX6_of 1 = .ok (.iload_n 1, 1) := by decide +kernel
theorem dX6_of_2 : decode cX6_of 2 = .ok (.invokevirtual 131, 3) := by decide +kernel
theorem dX6_of_5 : decode cX6_of 5 = .ok (.ifCond .eq 22, 3) := by decide +kernel
theorem dX6_of_8 : decode cX6_of 8 = .ok (.iload_n 2, 1) := by decide +kernel
theorem dX6_of_9 : decode cX6_of 9 = .ok (.iconst 0, 1) := by decide +kernel
theorem dX6_of_10 : decode cX6_of 10 = .ok (.bipush 10, 2) := by decide +kernel
theorem dX6_of_12 : decode cX6_of 12 = .ok (.invokestatic 70, 3) := by decide +kernel
theorem dX6_of_15 : decode cX6_of 15 = .ok (.ifCond .eq 12, 3) := by decide +kernel
theorem dX6_of_18 : decode cX6_of 18 = .ok (.aload_n 0, 1) := by decide +kernel
theorem dX6_of_19 : decode cX6_of 19 = .ok (.iload_n 1, 1) := by decide +kernel
theorem dX6_of_20 : decode cX6_of 20 = .ok (.iload_n 2, 1) := by decide +kernel
theorem dX6_of_21 : decode cX6_of 21 = .ok (.invokevirtual 134, 3) := by decide +kernel
theorem dX6_of_24 : decode cX6_of 24 = .ok (.goto 9, 3) := by decide +kernel
theorem dX6_of_27 : decode cX6_of 27 = .ok (.aload_n 0, 1) := by decide +kernel
theorem dX6_of_28 : decode cX6_of 28 = .ok (.ldc 60, 2) := by decide +kernel
theorem dX6_of_30 : decode cX6_of 30 = .ok (.invokevirtual 66, 3) := by decide +kernel
theorem dX6_of_33 : decode cX6_of 33 = .ok (.ireturn, 1) := by decide +kernel
theorem dX6_isField_0 : decode cX6_isField 0 = .ok (.iload_n 0, 1) := by decide +kernel
theorem dX6_isField_1 : decode cX6_isField 1 = .ok (.tableswitch 77 0 5 #[39, 44, 49, 54, 62, 70], 39) := by decide +kernel
theorem dX6_isField_40 : decode cX6_isField 40 = .ok (.iload_n 1, 1) := by decide +kernel
theorem dX6_isField_41 : decode cX6_isField 41 = .ok (.invokestatic 91, 3) := by decide +kernel
theorem dX6_isField_44 : decode cX6_isField 44 = .ok (.ireturn, 1) := by decide +kernel
theorem dX6_isField_45 : decode cX6_isField 45 = .ok (.iload_n 1, 1) := by decide +kernel
theorem dX6_isField_46 : decode cX6_isField 46 = .ok (.invokestatic 94, 3) := by decide +kernel
theorem dX6_isField_49 : decode cX6_isField 49 = .ok (.ireturn, 1) := by decide +kernel
theorem dX6_isField_50 : decode cX6_isField 50 = .ok (.iload_n 1, 1) := by decide +kernel
theorem dX6_isField_51 : decode cX6_isField 51 = .ok (.invokestatic 137, 3) := by decide +kernel
theorem dX6_isField_54 : decode cX6_isField 54 = .ok (.ireturn, 1) := by decide +kernel
theorem dX6_isField_55 : decode cX6_isField 55 = .ok (.iload_n 1, 1) := by decide +kernel
theorem dX6_isField_56 : decode cX6_isField 56 = .ok (.iconst 0, 1) := by decide +kernel
theorem dX6_isField_57 : decode cX6_isField 57 = .ok (.bipush 15, 2) := by decide +kernel
theorem dX6_isField_59 : decode cX6_isField 59 = .ok (.invokestatic 70, 3) := by decide +kernel
theorem dX6_isField_62 : decode cX6_isField 62 = .ok (.ireturn, 1) := by decide +kernel
theorem dX6_isField_63 : decode cX6_isField 63 = .ok (.iload_n 1, 1) := by decide +kernel
theorem dX6_isField_64 : decode cX6_isField 64 = .ok (.iconst 0, 1) := by decide +kernel
theorem dX6_isField_65 : decode cX6_isField 65 = .ok (.bipush 99, 2) := by decide +kernel
theorem dX6_isField_67 : decode cX6_isField 67 = .ok (.invokestatic 70, 3) := by decide +kernel
theorem dX6_isField_70 : decode cX6_isField 70 = .ok (.ireturn, 1) := by decide +kernel
theorem dX6_isField_71 : decode cX6_isField 71 = .ok (.iload_n 1, 1) := by decide +kernel
theorem dX6_isField_72 : decode cX6_isField 72 = .ok (.iconst 0, 1) := by decide +kernel
theorem dX6_isField_73 : decode cX6_isField 73 = .ok (.iconst 1, 1) := by decide +kernel
theorem dX6_isField_74 : decode cX6_isField 74 = .ok (.invokestatic 70, 3) := by decide +kernel
theorem dX6_isField_77 : decode cX6_isField 77 = .ok (.ireturn, 1) := by decide +kernel
theorem dX6_isField_78 : decode cX6_isField 78 = .ok (.iconst 0, 1) := by decide +kernel
theorem dX6_isField_79 : decode cX6_isField 79 = .ok (.ireturn, 1) := by decide +kernel
theorem dX6_change_0 : decode cX6_change 0 = .ok (.aload_n 0, 1) := by decide +kernel
theorem dX6_change_1 : decode cX6_change 1 = .ok (.iload_n 1, 1) := by decide +kernel
theorem dX6_change_2 : decode cX6_change 2 = .ok (.invokevirtual 131, 3) := by decide +kernel
theorem dX6_change_5 : decode cX6_change 5 = .ok (.ifCond .eq 24, 3) := by decide +kernel
theorem dX6_change_8 : decode cX6_change 8 = .ok (.iload_n 2, 1) := by decide +kernel
theorem dX6_change_9 : decode cX6_change 9 = .ok (.iload_n 3, 1) := by decide +kernel
theorem dX6_change_10 : decode cX6_change 10 = .ok (.invokestatic 140, 3) := by decide +kernel
theorem dX6_change_13 : decode cX6_change 13 = .ok (.ifCond .eq 16, 3) := by decide +kernel
theorem dX6_change_16 : decode cX6_change 16 = .ok (.aload_n 0, 1) := by decide +kernel
theorem dX6_change_17 : decode cX6_change 17 = .ok (.iload_n 1, 1) := by decide +kernel
theorem dX6_change_18 : decode cX6_change 18 = .ok (.iload_n 2, 1) := by decide +kernel
theorem dX6_change_19 : decode cX6_change 19 = .ok (.invokestatic 85, 3) := by decide +kernel
theorem dX6_change_22 : decode cX6_change 22 = .ok (.iload_n 3, 1) := by decide +kernel
theorem dX6_change_23 : decode cX6_change 23 = .ok (.invokevirtual 81, 3) := by decide +kernel
theorem dX6_change_26 : decode cX6_change 26 = .ok (.goto 9, 3) := by decide +kernel
theorem dX6_change_29 : decode cX6_change 29 = .ok (.aload_n 0, 1) := by decide +kernel
theorem dX6_change_30 : decode cX6_change 30 = .ok (.ldc 60, 2) := by decide +kernel
theorem dX6_change_32 : decode cX6_change 32 = .ok (.invokevirtual 66, 3) := by decide +kernel
theorem dX6_change_35 : decode cX6_change 35 = .ok (.ireturn, 1) := by decide +kernel
theorem dX6_ofChild_0 : decode cX6_ofChild 0 = .ok (.aload_n 0, 1) := by decide +kernel
theorem dX6_ofChild_1 : decode cX6_ofChild 1 = .ok (.iload_n 1, 1) := by decide +kernel
theorem dX6_ofChild_2 : decode cX6_ofChild 2 = .ok (.invokevirtual 144, 3) := by decide +kernel
theorem dX6_ofChild_5 : decode cX6_ofChild 5 = .ok (.ifCond .eq 21, 3) := by decide +kernel
theorem dX6_ofChild_8 : decode cX6_ofChild 8 = .ok (.iload_n 2, 1) := by decide +kernel
theorem dX6_ofChild_9 : decode cX6_ofChild 9 = .ok (.iconst 0, 1) := by decide +kernel
theorem dX6_ofChild_10 : decode cX6_ofChild 10 = .ok (.iconst 3, 1) := by decide +kernel
theorem dX6_ofChild_11 : decode cX6_ofChild 11 = .ok (.invokestatic 70, 3) := by decide +kernel
theorem dX6_ofChild_14 : decode cX6_ofChild 14 = .ok (.ifCond .eq 12, 3) := by decide +kernel
theorem dX6_ofChild_17 : decode cX6_ofChild 17 = .ok (.aload_n 0, 1) := by decide +kernel
theorem dX6_ofChild_18 : decode cX6_ofChild 18 = .ok (.iload_n 1, 1) := by decide +kernel
theorem dX6_ofChild_19 : decode cX6_ofChild 19 = .ok (.iload_n 2, 1) := by decide +kernel
theorem dX6_ofChild_20 : decode cX6_ofChild 20 = .ok (.invokevirtual 147, 3) := by decide +kernel
theorem dX6_ofChild_23 : decode cX6_ofChild 23 = .ok (.goto 9, 3) := by decide +kernel
theorem dX6_ofChild_26 : decode cX6_ofChild 26 = .ok (.aload_n 0, 1) := by decide +kernel
theorem dX6_ofChild_27 : decode cX6_ofChild 27 = .ok (.ldc 60, 2) := by decide +kernel
theorem dX6_ofChild_29 : decode cX6_ofChild 29 = .ok (.invokevirtual 66, 3) := by decide +kernel
theorem dX6_ofChild_32 : decode cX6_ofChild 32 = .ok (.ireturn, 1) := by decide +kernel
theorem dX6_isChildField_0 : decode cX6_isChildField 0 = .ok (.iload_n 0, 1) := by decide +kernel
theorem dX6_isChildField_1 : decode cX6_isChildField 1 = .ok (.tableswitch 49 0 3 #[31, 36, 44, 44], 31) := by decide +kernel
theorem dX6_isChildField_32 : decode cX6_isChildField 32 = .ok (.iload_n 1, 1) := by decide +kernel
theorem dX6_isChildField_33 : decode cX6_isChildField 33 = .ok (.invokestatic 94, 3) := by decide +kernel
theorem dX6_isChildField_36 : decode cX6_isChildField 36 = .ok (.ireturn, 1) := by decide +kernel
theorem dX6_isChildField_37 : decode cX6_isChildField 37 = .ok (.iload_n 1, 1) := by decide +kernel
theorem dX6_isChildField_38 : decode cX6_isChildField 38 = .ok (.iconst 0, 1) := by decide +kernel
theorem dX6_isChildField_39 : decode cX6_isChildField 39 = .ok (.bipush 9, 2) := by decide +kernel
theorem dX6_isChildField_41 : decode cX6_isChildField 41 = .ok (.invokestatic 70, 3) := by decide +kernel
theorem dX6_isChildField_44 : decode cX6_isChildField 44 = .ok (.ireturn, 1) := by decide +kernel
theorem dX6_isChildField_45 : decode cX6_isChildField 45 = .ok (.iload_n 1, 1) := by decide +kernel
theorem dX6_isChildField_46 : decode cX6_isChildField 46 = .ok (.invokestatic 150, 3) := by decide +kernel
theorem dX6_isChildField_49 : decode cX6_isChildField 49 = .ok (.ireturn, 1) := by decide +kernel
theorem dX6_isChildField_50 : decode cX6_isChildField 50 = .ok (.iconst 0, 1) := by decide +kernel
theorem dX6_isChildField_51 : decode cX6_isChildField 51 = .ok (.ireturn, 1) := by decide +kernel
theorem dX6_teach_0 : decode cX6_teach 0 = .ok (.aload_n 0, 1) := by decide +kernel
theorem dX6_teach_1 : decode cX6_teach 1 = .ok (.iload_n 1, 1) := by decide +kernel
theorem dX6_teach_2 : decode cX6_teach 2 = .ok (.invokevirtual 144, 3) := by decide +kernel
theorem dX6_teach_5 : decode cX6_teach 5 = .ok (.ifCond .eq 24, 3) := by decide +kernel
theorem dX6_teach_8 : decode cX6_teach 8 = .ok (.iload_n 2, 1) := by decide +kernel
theorem dX6_teach_9 : decode cX6_teach 9 = .ok (.iload_n 3, 1) := by decide +kernel
theorem dX6_teach_10 : decode cX6_teach 10 = .ok (.invokestatic 153, 3) := by decide +kernel
theorem dX6_teach_13 : decode cX6_teach 13 = .ok (.ifCond .eq 16, 3) := by decide +kernel
theorem dX6_teach_16 : decode cX6_teach 16 = .ok (.aload_n 0, 1) := by decide +kernel
theorem dX6_teach_17 : decode cX6_teach 17 = .ok (.iload_n 1, 1) := by decide +kernel
theorem dX6_teach_18 : decode cX6_teach 18 = .ok (.iload_n 2, 1) := by decide +kernel
theorem dX6_teach_19 : decode cX6_teach 19 = .ok (.invokestatic 88, 3) := by decide +kernel
theorem dX6_teach_22 : decode cX6_teach 22 = .ok (.iload_n 3, 1) := by decide +kernel
theorem dX6_teach_23 : decode cX6_teach 23 = .ok (.invokevirtual 81, 3) := by decide +kernel
theorem dX6_teach_26 : decode cX6_teach 26 = .ok (.goto 9, 3) := by decide +kernel
theorem dX6_teach_29 : decode cX6_teach 29 = .ok (.aload_n 0, 1) := by decide +kernel
theorem dX6_teach_30 : decode cX6_teach 30 = .ok (.ldc 60, 2) := by decide +kernel
theorem dX6_teach_32 : decode cX6_teach 32 = .ok (.invokevirtual 66, 3) := by decide +kernel
theorem dX6_teach_35 : decode cX6_teach 35 = .ok (.ireturn, 1) := by decide +kernel
theorem dX6_doesHear_0 : decode cX6_doesHear 0 = .ok (.aload_n 0, 1) := by decide +kernel
theorem dX6_doesHear_1 : decode cX6_doesHear 1 = .ok (.iload_n 1, 1) := by decide +kernel
theorem dX6_doesHear_2 : decode cX6_doesHear 2 = .ok (.iconst 0, 1) := by decide +kernel
theorem dX6_doesHear_3 : decode cX6_doesHear 3 = .ok (.invokevirtual 147, 3) := by decide +kernel
theorem dX6_doesHear_6 : decode cX6_doesHear 6 = .ok (.aload_n 0, 1) := by decide +kernel
theorem dX6_doesHear_7 : decode cX6_doesHear 7 = .ok (.iload_n 2, 1) := by decide +kernel
theorem dX6_doesHear_8 : decode cX6_doesHear 8 = .ok (.iconst 1, 1) := by decide +kernel
theorem dX6_doesHear_9 : decode cX6_doesHear 9 = .ok (.invokevirtual 104, 3) := by decide +kernel
theorem dX6_doesHear_12 : decode cX6_doesHear 12 = .ok (.isub, 1) := by decide +kernel
theorem dX6_doesHear_13 : decode cX6_doesHear 13 = .ok (.invokestatic 156, 3) := by decide +kernel
theorem dX6_doesHear_16 : decode cX6_doesHear 16 = .ok (.istore 4, 2) := by decide +kernel
theorem dX6_doesHear_18 : decode cX6_doesHear 18 = .ok (.aload_n 0, 1) := by decide +kernel
theorem dX6_doesHear_19 : decode cX6_doesHear 19 = .ok (.iload_n 2, 1) := by decide +kernel
theorem dX6_doesHear_20 : decode cX6_doesHear 20 = .ok (.iconst 5, 1) := by decide +kernel
theorem dX6_doesHear_21 : decode cX6_doesHear 21 = .ok (.invokevirtual 104, 3) := by decide +kernel
theorem dX6_doesHear_24 : decode cX6_doesHear 24 = .ok (.ifCond .ne 18, 3) := by decide +kernel
theorem dX6_doesHear_27 : decode cX6_doesHear 27 = .ok (.iload 4, 2) := by decide +kernel
theorem dX6_doesHear_29 : decode cX6_doesHear 29 = .ok (.aload_n 0, 1) := by decide +kernel
theorem dX6_doesHear_30 : decode cX6_doesHear 30 = .ok (.iload_n 2, 1) := by decide +kernel
theorem dX6_doesHear_31 : decode cX6_doesHear 31 = .ok (.iload_n 3, 1) := by decide +kernel
theorem dX6_doesHear_32 : decode cX6_doesHear 32 = .ok (.invokevirtual 119, 3) := by decide +kernel
theorem dX6_doesHear_35 : decode cX6_doesHear 35 = .ok (.if_icmp .gt 7, 3) := by decide +kernel
theorem dX6_doesHear_38 : decode cX6_doesHear 38 = .ok (.iconst 1, 1) := by decide +kernel
theorem dX6_doesHear_39 : decode cX6_doesHear 39 = .ok (.goto 4, 3) := by decide +kernel
theorem dX6_doesHear_42 : decode cX6_doesHear 42 = .ok (.iconst 0, 1) := by decide +kernel
theorem dX6_doesHear_43 : decode cX6_doesHear 43 = .ok (.ireturn, 1) := by decide +kernel
theorem dX6_hears_0 : decode cX6_hears 0 = .ok (.aload_n 0, 1) := by decide +kernel
theorem dX6_hears_1 : decode cX6_hears 1 = .ok (.iload_n 1, 1) := by decide +kernel
theorem dX6_hears_2 : decode cX6_hears 2 = .ok (.invokevirtual 144, 3) := by decide +kernel
theorem dX6_hears_5 : decode cX6_hears 5 = .ok (.ifCond .eq 13, 3) := by decide +kernel
theorem dX6_hears_8 : decode cX6_hears 8 = .ok (.iload_n 2, 1) := by decide +kernel
theorem dX6_hears_9 : decode cX6_hears 9 = .ok (.iconst 1, 1) := by decide +kernel
theorem dX6_hears_10 : decode cX6_hears 10 = .ok (.bipush 9, 2) := by decide +kernel
theorem dX6_hears_12 : decode cX6_hears 12 = .ok (.invokestatic 70, 3) := by decide +kernel
theorem dX6_hears_15 : decode cX6_hears 15 = .ok (.ifCond .ne 10, 3) := by decide +kernel
theorem dX6_hears_18 : decode cX6_hears 18 = .ok (.aload_n 0, 1) := by decide +kernel
theorem dX6_hears_19 : decode cX6_hears 19 = .ok (.ldc 60, 2) := by decide +kernel
theorem dX6_hears_21 : decode cX6_hears 21 = .ok (.invokevirtual 66, 3) := by decide +kernel
theorem dX6_hears_24 : decode cX6_hears 24 = .ok (.ireturn, 1) := by decide +kernel
theorem dX6_hears_25 : decode cX6_hears 25 = .ok (.iconst 0, 1) := by decide +kernel
theorem dX6_hears_26 : decode cX6_hears 26 = .ok (.istore_n 3, 1) := by decide +kernel
theorem dX6_hears_27 : decode cX6_hears 27 = .ok (.iconst 0, 1) := by decide +kernel
theorem dX6_hears_28 : decode cX6_hears 28 = .ok (.istore 4, 2) := by decide +kernel
theorem dX6_hears_30 : decode cX6_hears 30 = .ok (.iload 4, 2) := by decide +kernel
theorem dX6_hears_32 : decode cX6_hears 32 = .ok (.aload_n 0, 1) := by decide +kernel
theorem dX6_hears_33 : decode cX6_hears 33 = .ok (.getfield 9, 3) := by decide +kernel
theorem dX6_hears_36 : decode cX6_hears 36 = .ok (.iconst 1, 1) := by decide +kernel
theorem dX6_hears_37 : decode cX6_hears 37 = .ok (.iaload, 1) := by decide +kernel
theorem dX6_hears_38 : decode cX6_hears 38 = .ok (.if_icmp .ge 31, 3) := by decide +kernel
theorem dX6_hears_41 : decode cX6_hears 41 = .ok (.iload_n 3, 1) := by decide +kernel
theorem dX6_hears_42 : decode cX6_hears 42 = .ok (.aload_n 0, 1) := by decide +kernel
theorem dX6_hears_43 : decode cX6_hears 43 = .ok (.iload_n 1, 1) := by decide +kernel
theorem dX6_hears_44 : decode cX6_hears 44 = .ok (.iload 4, 2) := by decide +kernel
theorem dX6_hears_46 : decode cX6_hears 46 = .ok (.iload_n 2, 1) := by decide +kernel
theorem dX6_hears_47 : decode cX6_hears 47 = .ok (.invokevirtual 159, 3) := by decide +kernel
theorem dX6_hears_50 : decode cX6_hears 50 = .ok (.ifCond .eq 10, 3) := by decide +kernel
theorem dX6_hears_53 : decode cX6_hears 53 = .ok (.iconst 1, 1) := by decide +kernel
theorem dX6_hears_54 : decode cX6_hears 54 = .ok (.iload 4, 2) := by decide +kernel
theorem dX6_hears_56 : decode cX6_hears 56 = .ok (.ishl, 1) := by decide +kernel
theorem dX6_hears_57 : decode cX6_hears 57 = .ok (.goto 4, 3) := by decide +kernel
theorem dX6_hears_60 : decode cX6_hears 60 = .ok (.iconst 0, 1) := by decide +kernel
theorem dX6_hears_61 : decode cX6_hears 61 = .ok (.ior, 1) := by decide +kernel
theorem dX6_hears_62 : decode cX6_hears 62 = .ok (.istore_n 3, 1) := by decide +kernel
theorem dX6_hears_63 : decode cX6_hears 63 = .ok (.iinc 4 1, 3) := by decide +kernel
theorem dX6_hears_66 : decode cX6_hears 66 = .ok (.goto (-36), 3) := by decide +kernel
theorem dX6_hears_69 : decode cX6_hears 69 = .ok (.iload_n 3, 1) := by decide +kernel
theorem dX6_hears_70 : decode cX6_hears 70 = .ok (.ireturn, 1) := by decide +kernel
theorem dX6_more_0 : decode cX6_more 0 = .ok (.aload_n 0, 1) := by decide +kernel
theorem dX6_more_1 : decode cX6_more 1 = .ok (.getfield 9, 3) := by decide +kernel
theorem dX6_more_4 : decode cX6_more 4 = .ok (.iload_n 1, 1) := by decide +kernel
theorem dX6_more_5 : decode cX6_more 5 = .ok (.iload_n 3, 1) := by decide +kernel
theorem dX6_more_6 : decode cX6_more 6 = .ok (.aload_n 0, 1) := by decide +kernel
theorem dX6_more_7 : decode cX6_more 7 = .ok (.getfield 9, 3) := by decide +kernel
theorem dX6_more_10 : decode cX6_more 10 = .ok (.iload_n 1, 1) := by decide +kernel
theorem dX6_more_11 : decode cX6_more 11 = .ok (.iaload, 1) := by decide +kernel
theorem dX6_more_12 : decode cX6_more 12 = .ok (.iload_n 2, 1) := by decide +kernel
theorem dX6_more_13 : decode cX6_more 13 = .ok (.iadd, 1) := by decide +kernel
theorem dX6_more_14 : decode cX6_more 14 = .ok (.invokestatic 162, 3) := by decide +kernel
theorem dX6_more_17 : decode cX6_more 17 = .ok (.iastore, 1) := by decide +kernel
theorem dX6_more_18 : decode cX6_more 18 = .ok (.return_, 1) := by decide +kernel
theorem dX6_writes_0 : decode cX6_writes 0 = .ok (.aload_n 0, 1) := by decide +kernel
theorem dX6_writes_1 : decode cX6_writes 1 = .ok (.iload_n 1, 1) := by decide +kernel
theorem dX6_writes_2 : decode cX6_writes 2 = .ok (.iconst 2, 1) := by decide +kernel
theorem dX6_writes_3 : decode cX6_writes 3 = .ok (.invokevirtual 147, 3) := by decide +kernel
theorem dX6_writes_6 : decode cX6_writes 6 = .ok (.istore 4, 2) := by decide +kernel
theorem dX6_writes_8 : decode cX6_writes 8 = .ok (.iload 4, 2) := by decide +kernel
theorem dX6_writes_10 : decode cX6_writes 10 = .ok (.iload_n 2, 1) := by decide +kernel
theorem dX6_writes_11 : decode cX6_writes 11 = .ok (.ishr, 1) := by decide +kernel
theorem dX6_writes_12 : decode cX6_writes 12 = .ok (.iconst 1, 1) := by decide +kernel
theorem dX6_writes_13 : decode cX6_writes 13 = .ok (.iand, 1) := by decide +kernel
theorem dX6_writes_14 : decode cX6_writes 14 = .ok (.ifCond .ne 94, 3) := by decide +kernel
theorem dX6_writes_17 : decode cX6_writes 17 = .ok (.aload_n 0, 1) := by decide +kernel
theorem dX6_writes_18 : decode cX6_writes 18 = .ok (.iload_n 1, 1) := by decide +kernel
theorem dX6_writes_19 : decode cX6_writes 19 = .ok (.iconst 1, 1) := by decide +kernel
theorem dX6_writes_20 : decode cX6_writes 20 = .ok (.invokevirtual 147, 3) := by decide +kernel
theorem dX6_writes_23 : decode cX6_writes 23 = .ok (.iload_n 3, 1) := by decide +kernel
theorem dX6_writes_24 : decode cX6_writes 24 = .ok (.if_icmp .lt 23, 3) := by decide +kernel
theorem dX6_writes_27 : decode cX6_writes 27 = .ok (.iload_n 2, 1) := by decide +kernel
theorem dX6_writes_28 : decode cX6_writes 28 = .ok (.ifCond .eq 15, 3) := by decide +kernel
theorem dX6_writes_31 : decode cX6_writes 31 = .ok (.iload 4, 2) := by decide +kernel
theorem dX6_writes_33 : decode cX6_writes 33 = .ok (.iload_n 2, 1) := by decide +kernel
theorem dX6_writes_34 : decode cX6_writes 34 = .ok (.iconst 1, 1) := by decide +kernel
theorem dX6_writes_35 : decode cX6_writes 35 = .ok (.isub, 1) := by decide +kernel
theorem dX6_writes_36 : decode cX6_writes 36 = .ok (.ishr, 1) := by decide +kernel
theorem dX6_writes_37 : decode cX6_writes 37 = .ok (.iconst 1, 1) := by decide +kernel
theorem dX6_writes_38 : decode cX6_writes 38 = .ok (.iand, 1) := by decide +kernel
theorem dX6_writes_39 : decode cX6_writes 39 = .ok (.iconst 1, 1) := by decide +kernel
theorem dX6_writes_40 : decode cX6_writes 40 = .ok (.if_icmp .ne 7, 3) := by decide +kernel
theorem dX6_writes_43 : decode cX6_writes 43 = .ok (.iconst 1, 1) := by decide +kernel
theorem dX6_writes_44 : decode cX6_writes 44 = .ok (.goto 4, 3) := by decide +kernel
theorem dX6_writes_47 : decode cX6_writes 47 = .ok (.iconst 0, 1) := by decide +kernel
theorem dX6_writes_48 : decode cX6_writes 48 = .ok (.istore 5, 2) := by decide +kernel
theorem dX6_writes_50 : decode cX6_writes 50 = .ok (.iload 5, 2) := by decide +kernel
theorem dX6_writes_52 : decode cX6_writes 52 = .ok (.ifCond .eq 40, 3) := by decide +kernel
theorem dX6_writes_55 : decode cX6_writes 55 = .ok (.aload_n 0, 1) := by decide +kernel
theorem dX6_writes_56 : decode cX6_writes 56 = .ok (.getfield 9, 3) := by decide +kernel
theorem dX6_writes_59 : decode cX6_writes 59 = .ok (.iload_n 1, 1) := by decide +kernel
theorem dX6_writes_60 : decode cX6_writes 60 = .ok (.iconst 2, 1) := by decide +kernel
theorem dX6_writes_61 : decode cX6_writes 61 = .ok (.invokestatic 88, 3) := by decide +kernel
theorem dX6_writes_64 : decode cX6_writes 64 = .ok (.dup2, 1) := by decide +kernel
theorem dX6_writes_65 : decode cX6_writes 65 = .ok (.iaload, 1) := by decide +kernel
theorem dX6_writes_66 : decode cX6_writes 66 = .ok (.iconst 1, 1) := by decide +kernel
theorem dX6_writes_67 : decode cX6_writes 67 = .ok (.iload_n 2, 1) := by decide +kernel
theorem dX6_writes_68 : decode cX6_writes 68 = .ok (.ishl, 1) := by decide +kernel
theorem dX6_writes_69 : decode cX6_writes 69 = .ok (.ior, 1) := by decide +kernel
theorem dX6_writes_70 : decode cX6_writes 70 = .ok (.iastore, 1) := by decide +kernel
theorem dX6_writes_71 : decode cX6_writes 71 = .ok (.aload_n 0, 1) := by decide +kernel
theorem dX6_writes_72 : decode cX6_writes 72 = .ok (.getfield 9, 3) := by decide +kernel
theorem dX6_writes_75 : decode cX6_writes 75 = .ok (.iload_n 1, 1) := by decide +kernel
theorem dX6_writes_76 : decode cX6_writes 76 = .ok (.iconst 3, 1) := by decide +kernel
theorem dX6_writes_77 : decode cX6_writes 77 = .ok (.invokestatic 88, 3) := by decide +kernel
theorem dX6_writes_80 : decode cX6_writes 80 = .ok (.dup2, 1) := by decide +kernel
theorem dX6_writes_81 : decode cX6_writes 81 = .ok (.iaload, 1) := by decide +kernel
theorem dX6_writes_82 : decode cX6_writes 82 = .ok (.iconst 1, 1) := by decide +kernel
theorem dX6_writes_83 : decode cX6_writes 83 = .ok (.iload_n 2, 1) := by decide +kernel
theorem dX6_writes_84 : decode cX6_writes 84 = .ok (.ishl, 1) := by decide +kernel
theorem dX6_writes_85 : decode cX6_writes 85 = .ok (.iconst (-1), 1) := by decide +kernel
theorem dX6_writes_86 : decode cX6_writes 86 = .ok (.ixor, 1) := by decide +kernel
theorem dX6_writes_87 : decode cX6_writes 87 = .ok (.iand, 1) := by decide +kernel
theorem dX6_writes_88 : decode cX6_writes 88 = .ok (.iastore, 1) := by decide +kernel
theorem dX6_writes_89 : decode cX6_writes 89 = .ok (.goto 19, 3) := by decide +kernel
theorem dX6_writes_92 : decode cX6_writes 92 = .ok (.aload_n 0, 1) := by decide +kernel
theorem dX6_writes_93 : decode cX6_writes 93 = .ok (.getfield 9, 3) := by decide +kernel
theorem dX6_writes_96 : decode cX6_writes 96 = .ok (.iload_n 1, 1) := by decide +kernel
theorem dX6_writes_97 : decode cX6_writes 97 = .ok (.iconst 3, 1) := by decide +kernel
theorem dX6_writes_98 : decode cX6_writes 98 = .ok (.invokestatic 88, 3) := by decide +kernel
theorem dX6_writes_101 : decode cX6_writes 101 = .ok (.dup2, 1) := by decide +kernel
theorem dX6_writes_102 : decode cX6_writes 102 = .ok (.iaload, 1) := by decide +kernel
theorem dX6_writes_103 : decode cX6_writes 103 = .ok (.iconst 1, 1) := by decide +kernel
theorem dX6_writes_104 : decode cX6_writes 104 = .ok (.iload_n 2, 1) := by decide +kernel
theorem dX6_writes_105 : decode cX6_writes 105 = .ok (.ishl, 1) := by decide +kernel
theorem dX6_writes_106 : decode cX6_writes 106 = .ok (.ior, 1) := by decide +kernel
theorem dX6_writes_107 : decode cX6_writes 107 = .ok (.iastore, 1) := by decide +kernel
theorem dX6_writes_108 : decode cX6_writes 108 = .ok (.return_, 1) := by decide +kernel
theorem dX6_blows_0 : decode cX6_blows 0 = .ok (.aload_n 0, 1) := by decide +kernel
theorem dX6_blows_1 : decode cX6_blows 1 = .ok (.iload_n 1, 1) := by decide +kernel
theorem dX6_blows_2 : decode cX6_blows 2 = .ok (.invokevirtual 112, 3) := by decide +kernel
theorem dX6_blows_5 : decode cX6_blows 5 = .ok (.istore_n 3, 1) := by decide +kernel
theorem dX6_blows_6 : decode cX6_blows 6 = .ok (.iconst 0, 1) := by decide +kernel
theorem dX6_blows_7 : decode cX6_blows 7 = .ok (.istore 4, 2) := by decide +kernel
theorem dX6_blows_9 : decode cX6_blows 9 = .ok (.iload 4, 2) := by decide +kernel
theorem dX6_blows_11 : decode cX6_blows 11 = .ok (.aload_n 0, 1) := by decide +kernel
theorem dX6_blows_12 : decode cX6_blows 12 = .ok (.getfield 9, 3) := by decide +kernel
theorem dX6_blows_15 : decode cX6_blows 15 = .ok (.iconst 3, 1) := by decide +kernel
theorem dX6_blows_16 : decode cX6_blows 16 = .ok (.iaload, 1) := by decide +kernel
theorem dX6_blows_17 : decode cX6_blows 17 = .ok (.if_icmp .ge 32, 3) := by decide +kernel
theorem dX6_blows_20 : decode cX6_blows 20 = .ok (.aload_n 0, 1) := by decide +kernel
theorem dX6_blows_21 : decode cX6_blows 21 = .ok (.iload 4, 2) := by decide +kernel
theorem dX6_blows_23 : decode cX6_blows 23 = .ok (.iload_n 1, 1) := by decide +kernel
theorem dX6_blows_24 : decode cX6_blows 24 = .ok (.iload_n 2, 1) := by decide +kernel
theorem dX6_blows_25 : decode cX6_blows 25 = .ok (.invokevirtual 159, 3) := by decide +kernel
theorem dX6_blows_28 : decode cX6_blows 28 = .ok (.ifCond .eq 15, 3) := by decide +kernel
theorem dX6_blows_31 : decode cX6_blows 31 = .ok (.aload_n 0, 1) := by decide +kernel
theorem dX6_blows_32 : decode cX6_blows 32 = .ok (.iload 4, 2) := by decide +kernel
theorem dX6_blows_34 : decode cX6_blows 34 = .ok (.iload_n 3, 1) := by decide +kernel
theorem dX6_blows_35 : decode cX6_blows 35 = .ok (.aload_n 0, 1) := by decide +kernel
theorem dX6_blows_36 : decode cX6_blows 36 = .ok (.iload_n 1, 1) := by decide +kernel
theorem dX6_blows_37 : decode cX6_blows 37 = .ok (.invokevirtual 122, 3) := by decide +kernel
theorem dX6_blows_40 : decode cX6_blows 40 = .ok (.invokevirtual 165, 3) := by decide +kernel
theorem dX6_blows_43 : decode cX6_blows 43 = .ok (.iinc 4 1, 3) := by decide +kernel
theorem dX6_blows_46 : decode cX6_blows 46 = .ok (.goto (-37), 3) := by decide +kernel
theorem dX6_blows_49 : decode cX6_blows 49 = .ok (.aload_n 0, 1) := by decide +kernel
theorem dX6_blows_50 : decode cX6_blows 50 = .ok (.iload_n 1, 1) := by decide +kernel
theorem dX6_blows_51 : decode cX6_blows 51 = .ok (.invokevirtual 128, 3) := by decide +kernel
theorem dX6_blows_54 : decode cX6_blows 54 = .ok (.istore 4, 2) := by decide +kernel
theorem dX6_blows_56 : decode cX6_blows 56 = .ok (.aload_n 0, 1) := by decide +kernel
theorem dX6_blows_57 : decode cX6_blows 57 = .ok (.iload_n 1, 1) := by decide +kernel
theorem dX6_blows_58 : decode cX6_blows 58 = .ok (.iconst 4, 1) := by decide +kernel
theorem dX6_blows_59 : decode cX6_blows 59 = .ok (.invokestatic 85, 3) := by decide +kernel
theorem dX6_blows_62 : decode cX6_blows 62 = .ok (.aload_n 0, 1) := by decide +kernel
theorem dX6_blows_63 : decode cX6_blows 63 = .ok (.iload_n 1, 1) := by decide +kernel
theorem dX6_blows_64 : decode cX6_blows 64 = .ok (.invokevirtual 125, 3) := by decide +kernel
theorem dX6_blows_67 : decode cX6_blows 67 = .ok (.bipush 99, 2) := by decide +kernel
theorem dX6_blows_69 : decode cX6_blows 69 = .ok (.invokevirtual 169, 3) := by decide +kernel
theorem dX6_blows_72 : decode cX6_blows 72 = .ok (.aload_n 0, 1) := by decide +kernel
theorem dX6_blows_73 : decode cX6_blows 73 = .ok (.getfield 9, 3) := by decide +kernel
theorem dX6_blows_76 : decode cX6_blows 76 = .ok (.iload_n 1, 1) := by decide +kernel
theorem dX6_blows_77 : decode cX6_blows 77 = .ok (.iconst 2, 1) := by decide +kernel
theorem dX6_blows_78 : decode cX6_blows 78 = .ok (.invokestatic 85, 3) := by decide +kernel
theorem dX6_blows_81 : decode cX6_blows 81 = .ok (.aload_n 0, 1) := by decide +kernel
theorem dX6_blows_82 : decode cX6_blows 82 = .ok (.iload_n 1, 1) := by decide +kernel
theorem dX6_blows_83 : decode cX6_blows 83 = .ok (.iconst 2, 1) := by decide +kernel
theorem dX6_blows_84 : decode cX6_blows 84 = .ok (.invokevirtual 104, 3) := by decide +kernel
theorem dX6_blows_87 : decode cX6_blows 87 = .ok (.iload 4, 2) := by decide +kernel
theorem dX6_blows_89 : decode cX6_blows 89 = .ok (.iadd, 1) := by decide +kernel
theorem dX6_blows_90 : decode cX6_blows 90 = .ok (.bipush 12, 2) := by decide +kernel
theorem dX6_blows_92 : decode cX6_blows 92 = .ok (.irem, 1) := by decide +kernel
theorem dX6_blows_93 : decode cX6_blows 93 = .ok (.iastore, 1) := by decide +kernel
theorem dX6_blows_94 : decode cX6_blows 94 = .ok (.return_, 1) := by decide +kernel
theorem dX6_day_0 : decode cX6_day 0 = .ok (.aload_n 0, 1) := by decide +kernel
theorem dX6_day_1 : decode cX6_day 1 = .ok (.getfield 9, 3) := by decide +kernel
theorem dX6_day_4 : decode cX6_day 4 = .ok (.aload_n 0, 1) := by decide +kernel
theorem dX6_day_5 : decode cX6_day 5 = .ok (.invokevirtual 115, 3) := by decide +kernel
theorem dX6_day_8 : decode cX6_day 8 = .ok (.iaload, 1) := by decide +kernel
theorem dX6_day_9 : decode cX6_day 9 = .ok (.istore_n 1, 1) := by decide +kernel
theorem dX6_day_10 : decode cX6_day 10 = .ok (.iconst 0, 1) := by decide +kernel
theorem dX6_day_11 : decode cX6_day 11 = .ok (.istore_n 2, 1) := by decide +kernel
theorem dX6_day_12 : decode cX6_day 12 = .ok (.iload_n 2, 1) := by decide +kernel
theorem dX6_day_13 : decode cX6_day 13 = .ok (.aload_n 0, 1) := by decide +kernel
theorem dX6_day_14 : decode cX6_day 14 = .ok (.getfield 9, 3) := by decide +kernel
theorem dX6_day_17 : decode cX6_day 17 = .ok (.iconst 1, 1) := by decide +kernel
theorem dX6_day_18 : decode cX6_day 18 = .ok (.iaload, 1) := by decide +kernel
theorem dX6_day_19 : decode cX6_day 19 = .ok (.if_icmp .ge 53, 3) := by decide +kernel
theorem dX6_day_22 : decode cX6_day 22 = .ok (.iload_n 1, 1) := by decide +kernel
theorem dX6_day_23 : decode cX6_day 23 = .ok (.ifCond .ne 28, 3) := by decide +kernel
theorem dX6_day_26 : decode cX6_day 26 = .ok (.aload_n 0, 1) := by decide +kernel
theorem dX6_day_27 : decode cX6_day 27 = .ok (.getfield 9, 3) := by decide +kernel
theorem dX6_day_30 : decode cX6_day 30 = .ok (.iload_n 2, 1) := by decide +kernel
theorem dX6_day_31 : decode cX6_day 31 = .ok (.iconst 4, 1) := by decide +kernel
theorem dX6_day_32 : decode cX6_day 32 = .ok (.invokestatic 85, 3) := by decide +kernel
theorem dX6_day_35 : decode cX6_day 35 = .ok (.iconst 0, 1) := by decide +kernel
theorem dX6_day_36 : decode cX6_day 36 = .ok (.aload_n 0, 1) := by decide +kernel
theorem dX6_day_37 : decode cX6_day 37 = .ok (.iload_n 2, 1) := by decide +kernel
theorem dX6_day_38 : decode cX6_day 38 = .ok (.iconst 4, 1) := by decide +kernel
theorem dX6_day_39 : decode cX6_day 39 = .ok (.invokevirtual 104, 3) := by decide +kernel
theorem dX6_day_42 : decode cX6_day 42 = .ok (.iconst 3, 1) := by decide +kernel
theorem dX6_day_43 : decode cX6_day 43 = .ok (.isub, 1) := by decide +kernel
theorem dX6_day_44 : decode cX6_day 44 = .ok (.invokestatic 107, 3) := by decide +kernel
theorem dX6_day_47 : decode cX6_day 47 = .ok (.iastore, 1) := by decide +kernel
theorem dX6_day_48 : decode cX6_day 48 = .ok (.goto 18, 3) := by decide +kernel
theorem dX6_day_51 : decode cX6_day 51 = .ok (.aload_n 0, 1) := by decide +kernel
theorem dX6_day_52 : decode cX6_day 52 = .ok (.iload_n 2, 1) := by decide +kernel
theorem dX6_day_53 : decode cX6_day 53 = .ok (.iconst 5, 1) := by decide +kernel
theorem dX6_day_54 : decode cX6_day 54 = .ok (.invokevirtual 104, 3) := by decide +kernel
theorem dX6_day_57 : decode cX6_day 57 = .ok (.ifCond .ne 9, 3) := by decide +kernel
theorem dX6_day_60 : decode cX6_day 60 = .ok (.aload_n 0, 1) := by decide +kernel
theorem dX6_day_61 : decode cX6_day 61 = .ok (.iload_n 2, 1) := by decide +kernel
theorem dX6_day_62 : decode cX6_day 62 = .ok (.iload_n 1, 1) := by decide +kernel
theorem dX6_day_63 : decode cX6_day 63 = .ok (.invokevirtual 172, 3) := by decide +kernel
theorem dX6_day_66 : decode cX6_day 66 = .ok (.iinc 2 1, 3) := by decide +kernel
theorem dX6_day_69 : decode cX6_day 69 = .ok (.goto (-57), 3) := by decide +kernel
theorem dX6_day_72 : decode cX6_day 72 = .ok (.aload_n 0, 1) := by decide +kernel
theorem dX6_day_73 : decode cX6_day 73 = .ok (.iconst 0, 1) := by decide +kernel
theorem dX6_day_74 : decode cX6_day 74 = .ok (.iconst 1, 1) := by decide +kernel
theorem dX6_day_75 : decode cX6_day 75 = .ok (.ldc 176, 2) := by decide +kernel
theorem dX6_day_77 : decode cX6_day 77 = .ok (.invokevirtual 169, 3) := by decide +kernel
theorem dX6_day_80 : decode cX6_day 80 = .ok (.return_, 1) := by decide +kernel
theorem dX6_daysGo_0 : decode cX6_daysGo 0 = .ok (.iconst 0, 1) := by decide +kernel
theorem dX6_daysGo_1 : decode cX6_daysGo 1 = .ok (.istore_n 2, 1) := by decide +kernel
theorem dX6_daysGo_2 : decode cX6_daysGo 2 = .ok (.iload_n 2, 1) := by decide +kernel
theorem dX6_daysGo_3 : decode cX6_daysGo 3 = .ok (.iload_n 1, 1) := by decide +kernel
theorem dX6_daysGo_4 : decode cX6_daysGo 4 = .ok (.if_icmp .ge 13, 3) := by decide +kernel
theorem dX6_daysGo_7 : decode cX6_daysGo 7 = .ok (.aload_n 0, 1) := by decide +kernel
theorem dX6_daysGo_8 : decode cX6_daysGo 8 = .ok (.invokevirtual 177, 3) := by decide +kernel
theorem dX6_daysGo_11 : decode cX6_daysGo 11 = .ok (.iinc 2 1, 3) := by decide +kernel
theorem dX6_daysGo_14 : decode cX6_daysGo 14 = .ok (.goto (-12), 3) := by decide +kernel
theorem dX6_daysGo_17 : decode cX6_daysGo 17 = .ok (.return_, 1) := by decide +kernel
theorem dX6_learntInAll_0 : decode cX6_learntInAll 0 = .ok (.iconst 0, 1) := by decide +kernel
theorem dX6_learntInAll_1 : decode cX6_learntInAll 1 = .ok (.istore_n 1, 1) := by decide +kernel
theorem dX6_learntInAll_2 : decode cX6_learntInAll 2 = .ok (.iconst 0, 1) := by decide +kernel
theorem dX6_learntInAll_3 : decode cX6_learntInAll 3 = .ok (.istore_n 2, 1) := by decide +kernel
theorem dX6_learntInAll_4 : decode cX6_learntInAll 4 = .ok (.iload_n 2, 1) := by decide +kernel
theorem dX6_learntInAll_5 : decode cX6_learntInAll 5 = .ok (.aload_n 0, 1) := by decide +kernel
theorem dX6_learntInAll_6 : decode cX6_learntInAll 6 = .ok (.getfield 9, 3) := by decide +kernel
theorem dX6_learntInAll_9 : decode cX6_learntInAll 9 = .ok (.iconst 3, 1) := by decide +kernel
theorem dX6_learntInAll_10 : decode cX6_learntInAll 10 = .ok (.iaload, 1) := by decide +kernel
theorem dX6_learntInAll_11 : decode cX6_learntInAll 11 = .ok (.if_icmp .ge 21, 3) := by decide +kernel
theorem dX6_learntInAll_14 : decode cX6_learntInAll 14 = .ok (.iload_n 1, 1) := by decide +kernel
theorem dX6_learntInAll_15 : decode cX6_learntInAll 15 = .ok (.aload_n 0, 1) := by decide +kernel
theorem dX6_learntInAll_16 : decode cX6_learntInAll 16 = .ok (.iload_n 2, 1) := by decide +kernel
theorem dX6_learntInAll_17 : decode cX6_learntInAll 17 = .ok (.iconst 2, 1) := by decide +kernel
theorem dX6_learntInAll_18 : decode cX6_learntInAll 18 = .ok (.invokevirtual 147, 3) := by decide +kernel
theorem dX6_learntInAll_21 : decode cX6_learntInAll 21 = .ok (.invokestatic 180, 3) := by decide +kernel
theorem dX6_learntInAll_24 : decode cX6_learntInAll 24 = .ok (.iadd, 1) := by decide +kernel
theorem dX6_learntInAll_25 : decode cX6_learntInAll 25 = .ok (.istore_n 1, 1) := by decide +kernel
theorem dX6_learntInAll_26 : decode cX6_learntInAll 26 = .ok (.iinc 2 1, 3) := by decide +kernel
theorem dX6_learntInAll_29 : decode cX6_learntInAll 29 = .ok (.goto (-25), 3) := by decide +kernel
theorem dX6_learntInAll_32 : decode cX6_learntInAll 32 = .ok (.iload_n 1, 1) := by decide +kernel
theorem dX6_learntInAll_33 : decode cX6_learntInAll 33 = .ok (.ireturn, 1) := by decide +kernel
theorem dX6_go_0 : decode cX6_go 0 = .ok (.iload_n 1, 1) := by decide +kernel
theorem dX6_go_1 : decode cX6_go 1 = .ok (.iconst 1, 1) := by decide +kernel
theorem dX6_go_2 : decode cX6_go 2 = .ok (.bipush 60, 2) := by decide +kernel
theorem dX6_go_4 : decode cX6_go 4 = .ok (.invokestatic 70, 3) := by decide +kernel
theorem dX6_go_7 : decode cX6_go 7 = .ok (.ifCond .ne 10, 3) := by decide +kernel
theorem dX6_go_10 : decode cX6_go 10 = .ok (.aload_n 0, 1) := by decide +kernel
theorem dX6_go_11 : decode cX6_go 11 = .ok (.ldc 60, 2) := by decide +kernel
theorem dX6_go_13 : decode cX6_go 13 = .ok (.invokevirtual 66, 3) := by decide +kernel
theorem dX6_go_16 : decode cX6_go 16 = .ok (.ireturn, 1) := by decide +kernel
theorem dX6_go_17 : decode cX6_go 17 = .ok (.aload_n 0, 1) := by decide +kernel
theorem dX6_go_18 : decode cX6_go 18 = .ok (.getfield 9, 3) := by decide +kernel
theorem dX6_go_21 : decode cX6_go 21 = .ok (.iconst 0, 1) := by decide +kernel
theorem dX6_go_22 : decode cX6_go 22 = .ok (.iaload, 1) := by decide +kernel
theorem dX6_go_23 : decode cX6_go 23 = .ok (.iload_n 1, 1) := by decide +kernel
theorem dX6_go_24 : decode cX6_go 24 = .ok (.iadd, 1) := by decide +kernel
theorem dX6_go_25 : decode cX6_go 25 = .ok (.ldc 176, 2) := by decide +kernel
theorem dX6_go_27 : decode cX6_go 27 = .ok (.if_icmp .le 10, 3) := by decide +kernel
theorem dX6_go_30 : decode cX6_go 30 = .ok (.aload_n 0, 1) := by decide +kernel
theorem dX6_go_31 : decode cX6_go 31 = .ok (.ldc 183, 2) := by decide +kernel
theorem dX6_go_33 : decode cX6_go 33 = .ok (.invokevirtual 66, 3) := by decide +kernel
theorem dX6_go_36 : decode cX6_go 36 = .ok (.ireturn, 1) := by decide +kernel
theorem dX6_go_37 : decode cX6_go 37 = .ok (.aload_n 0, 1) := by decide +kernel
theorem dX6_go_38 : decode cX6_go 38 = .ok (.iload_n 1, 1) := by decide +kernel
theorem dX6_go_39 : decode cX6_go 39 = .ok (.invokevirtual 184, 3) := by decide +kernel
theorem dX6_go_42 : decode cX6_go 42 = .ok (.aload_n 0, 1) := by decide +kernel
theorem dX6_go_43 : decode cX6_go 43 = .ok (.invokevirtual 188, 3) := by decide +kernel
theorem dX6_go_46 : decode cX6_go 46 = .ok (.ireturn, 1) := by decide +kernel
theorem dX6_anyOf_0 : decode cX6_anyOf 0 = .ok (.iconst 0, 1) := by decide +kernel
theorem dX6_anyOf_1 : decode cX6_anyOf 1 = .ok (.istore_n 2, 1) := by decide +kernel
theorem dX6_anyOf_2 : decode cX6_anyOf 2 = .ok (.iconst 0, 1) := by decide +kernel
theorem dX6_anyOf_3 : decode cX6_anyOf 3 = .ok (.istore_n 3, 1) := by decide +kernel
theorem dX6_anyOf_4 : decode cX6_anyOf 4 = .ok (.iload_n 3, 1) := by decide +kernel
theorem dX6_anyOf_5 : decode cX6_anyOf 5 = .ok (.aload_n 0, 1) := by decide +kernel
theorem dX6_anyOf_6 : decode cX6_anyOf 6 = .ok (.getfield 9, 3) := by decide +kernel
theorem dX6_anyOf_9 : decode cX6_anyOf 9 = .ok (.iconst 3, 1) := by decide +kernel
theorem dX6_anyOf_10 : decode cX6_anyOf 10 = .ok (.iaload, 1) := by decide +kernel
theorem dX6_anyOf_11 : decode cX6_anyOf 11 = .ok (.if_icmp .ge 18, 3) := by decide +kernel
theorem dX6_anyOf_14 : decode cX6_anyOf 14 = .ok (.iload_n 2, 1) := by decide +kernel
theorem dX6_anyOf_15 : decode cX6_anyOf 15 = .ok (.aload_n 0, 1) := by decide +kernel
theorem dX6_anyOf_16 : decode cX6_anyOf 16 = .ok (.iload_n 3, 1) := by decide +kernel
theorem dX6_anyOf_17 : decode cX6_anyOf 17 = .ok (.iload_n 1, 1) := by decide +kernel
theorem dX6_anyOf_18 : decode cX6_anyOf 18 = .ok (.invokevirtual 147, 3) := by decide +kernel
theorem dX6_anyOf_21 : decode cX6_anyOf 21 = .ok (.ior, 1) := by decide +kernel
theorem dX6_anyOf_22 : decode cX6_anyOf 22 = .ok (.istore_n 2, 1) := by decide +kernel
theorem dX6_anyOf_23 : decode cX6_anyOf 23 = .ok (.iinc 3 1, 3) := by decide +kernel
theorem dX6_anyOf_26 : decode cX6_anyOf 26 = .ok (.goto (-22), 3) := by decide +kernel
theorem dX6_anyOf_29 : decode cX6_anyOf 29 = .ok (.iload_n 2, 1) := by decide +kernel
theorem dX6_anyOf_30 : decode cX6_anyOf 30 = .ok (.ireturn, 1) := by decide +kernel
theorem dX6_given_0 : decode cX6_given 0 = .ok (.iconst 0, 1) := by decide +kernel
theorem dX6_given_1 : decode cX6_given 1 = .ok (.istore_n 1, 1) := by decide +kernel
theorem dX6_given_2 : decode cX6_given 2 = .ok (.iconst 0, 1) := by decide +kernel
theorem dX6_given_3 : decode cX6_given 3 = .ok (.istore_n 2, 1) := by decide +kernel
theorem dX6_given_4 : decode cX6_given 4 = .ok (.iload_n 2, 1) := by decide +kernel
theorem dX6_given_5 : decode cX6_given 5 = .ok (.aload_n 0, 1) := by decide +kernel
theorem dX6_given_6 : decode cX6_given 6 = .ok (.getfield 9, 3) := by decide +kernel
theorem dX6_given_9 : decode cX6_given 9 = .ok (.iconst 1, 1) := by decide +kernel
theorem dX6_given_10 : decode cX6_given 10 = .ok (.iaload, 1) := by decide +kernel
theorem dX6_given_11 : decode cX6_given 11 = .ok (.if_icmp .ge 32, 3) := by decide +kernel
theorem dX6_given_14 : decode cX6_given 14 = .ok (.iload_n 1, 1) := by decide +kernel
theorem dX6_given_15 : decode cX6_given 15 = .ok (.aload_n 0, 1) := by decide +kernel
theorem dX6_given_16 : decode cX6_given 16 = .ok (.iload_n 2, 1) := by decide +kernel
theorem dX6_given_17 : decode cX6_given 17 = .ok (.iconst 5, 1) := by decide +kernel
theorem dX6_given_18 : decode cX6_given 18 = .ok (.invokevirtual 104, 3) := by decide +kernel
theorem dX6_given_21 : decode cX6_given 21 = .ok (.ifCond .ne 13, 3) := by decide +kernel
theorem dX6_given_24 : decode cX6_given 24 = .ok (.iconst 1, 1) := by decide +kernel
theorem dX6_given_25 : decode cX6_given 25 = .ok (.aload_n 0, 1) := by decide +kernel
theorem dX6_given_26 : decode cX6_given 26 = .ok (.iload_n 2, 1) := by decide +kernel
theorem dX6_given_27 : decode cX6_given 27 = .ok (.invokevirtual 112, 3) := by decide +kernel
theorem dX6_given_30 : decode cX6_given 30 = .ok (.ishl, 1) := by decide +kernel
theorem dX6_given_31 : decode cX6_given 31 = .ok (.goto 4, 3) := by decide +kernel
theorem dX6_given_34 : decode cX6_given 34 = .ok (.iconst 0, 1) := by decide +kernel
theorem dX6_given_35 : decode cX6_given 35 = .ok (.ior, 1) := by decide +kernel
theorem dX6_given_36 : decode cX6_given 36 = .ok (.istore_n 1, 1) := by decide +kernel
theorem dX6_given_37 : decode cX6_given 37 = .ok (.iinc 2 1, 3) := by decide +kernel
theorem dX6_given_40 : decode cX6_given 40 = .ok (.goto (-36), 3) := by decide +kernel
theorem dX6_given_43 : decode cX6_given 43 = .ok (.iload_n 1, 1) := by decide +kernel
theorem dX6_given_44 : decode cX6_given 44 = .ok (.ireturn, 1) := by decide +kernel
theorem dX6_tiredInAll_0 : decode cX6_tiredInAll 0 = .ok (.iconst 0, 1) := by decide +kernel
theorem dX6_tiredInAll_1 : decode cX6_tiredInAll 1 = .ok (.istore_n 1, 1) := by decide +kernel
theorem dX6_tiredInAll_2 : decode cX6_tiredInAll 2 = .ok (.iconst 0, 1) := by decide +kernel
theorem dX6_tiredInAll_3 : decode cX6_tiredInAll 3 = .ok (.istore_n 2, 1) := by decide +kernel
theorem dX6_tiredInAll_4 : decode cX6_tiredInAll 4 = .ok (.iload_n 2, 1) := by decide +kernel
theorem dX6_tiredInAll_5 : decode cX6_tiredInAll 5 = .ok (.aload_n 0, 1) := by decide +kernel
theorem dX6_tiredInAll_6 : decode cX6_tiredInAll 6 = .ok (.getfield 9, 3) := by decide +kernel
theorem dX6_tiredInAll_9 : decode cX6_tiredInAll 9 = .ok (.iconst 1, 1) := by decide +kernel
theorem dX6_tiredInAll_10 : decode cX6_tiredInAll 10 = .ok (.iaload, 1) := by decide +kernel
theorem dX6_tiredInAll_11 : decode cX6_tiredInAll 11 = .ok (.if_icmp .ge 18, 3) := by decide +kernel
theorem dX6_tiredInAll_14 : decode cX6_tiredInAll 14 = .ok (.iload_n 1, 1) := by decide +kernel
theorem dX6_tiredInAll_15 : decode cX6_tiredInAll 15 = .ok (.aload_n 0, 1) := by decide +kernel
theorem dX6_tiredInAll_16 : decode cX6_tiredInAll 16 = .ok (.iload_n 2, 1) := by decide +kernel
theorem dX6_tiredInAll_17 : decode cX6_tiredInAll 17 = .ok (.iconst 4, 1) := by decide +kernel
theorem dX6_tiredInAll_18 : decode cX6_tiredInAll 18 = .ok (.invokevirtual 104, 3) := by decide +kernel
theorem dX6_tiredInAll_21 : decode cX6_tiredInAll 21 = .ok (.iadd, 1) := by decide +kernel
theorem dX6_tiredInAll_22 : decode cX6_tiredInAll 22 = .ok (.istore_n 1, 1) := by decide +kernel
theorem dX6_tiredInAll_23 : decode cX6_tiredInAll 23 = .ok (.iinc 2 1, 3) := by decide +kernel
theorem dX6_tiredInAll_26 : decode cX6_tiredInAll 26 = .ok (.goto (-22), 3) := by decide +kernel
theorem dX6_tiredInAll_29 : decode cX6_tiredInAll 29 = .ok (.iload_n 1, 1) := by decide +kernel
theorem dX6_tiredInAll_30 : decode cX6_tiredInAll 30 = .ok (.ireturn, 1) := by decide +kernel
theorem dX6_wiseOnes_0 : decode cX6_wiseOnes 0 = .ok (.iconst 0, 1) := by decide +kernel
theorem dX6_wiseOnes_1 : decode cX6_wiseOnes 1 = .ok (.istore_n 1, 1) := by decide +kernel
theorem dX6_wiseOnes_2 : decode cX6_wiseOnes 2 = .ok (.iconst 0, 1) := by decide +kernel
theorem dX6_wiseOnes_3 : decode cX6_wiseOnes 3 = .ok (.istore_n 2, 1) := by decide +kernel
theorem dX6_wiseOnes_4 : decode cX6_wiseOnes 4 = .ok (.iload_n 2, 1) := by decide +kernel
theorem dX6_wiseOnes_5 : decode cX6_wiseOnes 5 = .ok (.aload_n 0, 1) := by decide +kernel
theorem dX6_wiseOnes_6 : decode cX6_wiseOnes 6 = .ok (.getfield 9, 3) := by decide +kernel
theorem dX6_wiseOnes_9 : decode cX6_wiseOnes 9 = .ok (.iconst 3, 1) := by decide +kernel
theorem dX6_wiseOnes_10 : decode cX6_wiseOnes 10 = .ok (.iaload, 1) := by decide +kernel
theorem dX6_wiseOnes_11 : decode cX6_wiseOnes 11 = .ok (.if_icmp .ge 31, 3) := by decide +kernel
theorem dX6_wiseOnes_14 : decode cX6_wiseOnes 14 = .ok (.iload_n 1, 1) := by decide +kernel
theorem dX6_wiseOnes_15 : decode cX6_wiseOnes 15 = .ok (.aload_n 0, 1) := by decide +kernel
theorem dX6_wiseOnes_16 : decode cX6_wiseOnes 16 = .ok (.iload_n 2, 1) := by decide +kernel
theorem dX6_wiseOnes_17 : decode cX6_wiseOnes 17 = .ok (.iconst 2, 1) := by decide +kernel
theorem dX6_wiseOnes_18 : decode cX6_wiseOnes 18 = .ok (.invokevirtual 147, 3) := by decide +kernel
theorem dX6_wiseOnes_21 : decode cX6_wiseOnes 21 = .ok (.sipush 4095, 3) := by decide +kernel
theorem dX6_wiseOnes_24 : decode cX6_wiseOnes 24 = .ok (.if_icmp .ne 9, 3) := by decide +kernel
theorem dX6_wiseOnes_27 : decode cX6_wiseOnes 27 = .ok (.iconst 1, 1) := by decide +kernel
theorem dX6_wiseOnes_28 : decode cX6_wiseOnes 28 = .ok (.iload_n 2, 1) := by decide +kernel
theorem dX6_wiseOnes_29 : decode cX6_wiseOnes 29 = .ok (.ishl, 1) := by decide +kernel
theorem dX6_wiseOnes_30 : decode cX6_wiseOnes 30 = .ok (.goto 4, 3) := by decide +kernel
theorem dX6_wiseOnes_33 : decode cX6_wiseOnes 33 = .ok (.iconst 0, 1) := by decide +kernel
theorem dX6_wiseOnes_34 : decode cX6_wiseOnes 34 = .ok (.ior, 1) := by decide +kernel
theorem dX6_wiseOnes_35 : decode cX6_wiseOnes 35 = .ok (.istore_n 1, 1) := by decide +kernel
theorem dX6_wiseOnes_36 : decode cX6_wiseOnes 36 = .ok (.iinc 2 1, 3) := by decide +kernel
theorem dX6_wiseOnes_39 : decode cX6_wiseOnes 39 = .ok (.goto (-35), 3) := by decide +kernel
theorem dX6_wiseOnes_42 : decode cX6_wiseOnes 42 = .ok (.iload_n 1, 1) := by decide +kernel
theorem dX6_wiseOnes_43 : decode cX6_wiseOnes 43 = .ok (.ireturn, 1) := by decide +kernel
theorem dX6_now_0 : decode cX6_now 0 = .ok (.iload_n 1, 1) := by decide +kernel
theorem dX6_now_1 : decode cX6_now 1 = .ok (.tableswitch 96 0 7 #[47, 54, 59, 65, 71, 76, 81, 86], 47) := by decide +kernel
theorem dX6_now_48 : decode cX6_now 48 = .ok (.aload_n 0, 1) := by decide +kernel
theorem dX6_now_49 : decode cX6_now 49 = .ok (.getfield 9, 3) := by decide +kernel
theorem dX6_now_52 : decode cX6_now 52 = .ok (.iconst 0, 1) := by decide +kernel
theorem dX6_now_53 : decode cX6_now 53 = .ok (.iaload, 1) := by decide +kernel
theorem dX6_now_54 : decode cX6_now 54 = .ok (.ireturn, 1) := by decide +kernel
theorem dX6_now_55 : decode cX6_now 55 = .ok (.aload_n 0, 1) := by decide +kernel
theorem dX6_now_56 : decode cX6_now 56 = .ok (.invokevirtual 188, 3) := by decide +kernel
theorem dX6_now_59 : decode cX6_now 59 = .ok (.ireturn, 1) := by decide +kernel
theorem dX6_now_60 : decode cX6_now 60 = .ok (.aload_n 0, 1) := by decide +kernel
theorem dX6_now_61 : decode cX6_now 61 = .ok (.iconst 2, 1) := by decide +kernel
theorem dX6_now_62 : decode cX6_now 62 = .ok (.invokevirtual 191, 3) := by decide +kernel
theorem dX6_now_65 : decode cX6_now 65 = .ok (.ireturn, 1) := by decide +kernel
theorem dX6_now_66 : decode cX6_now 66 = .ok (.aload_n 0, 1) := by decide +kernel
theorem dX6_now_67 : decode cX6_now 67 = .ok (.iconst 3, 1) := by decide +kernel
theorem dX6_now_68 : decode cX6_now 68 = .ok (.invokevirtual 191, 3) := by decide +kernel
theorem dX6_now_71 : decode cX6_now 71 = .ok (.ireturn, 1) := by decide +kernel
theorem dX6_now_72 : decode cX6_now 72 = .ok (.aload_n 0, 1) := by decide +kernel
theorem dX6_now_73 : decode cX6_now 73 = .ok (.invokevirtual 194, 3) := by decide +kernel
theorem dX6_now_76 : decode cX6_now 76 = .ok (.ireturn, 1) := by decide +kernel
theorem dX6_now_77 : decode cX6_now 77 = .ok (.aload_n 0, 1) := by decide +kernel
theorem dX6_now_78 : decode cX6_now 78 = .ok (.invokevirtual 197, 3) := by decide +kernel
theorem dX6_now_81 : decode cX6_now 81 = .ok (.ireturn, 1) := by decide +kernel
theorem dX6_now_82 : decode cX6_now 82 = .ok (.aload_n 0, 1) := by decide +kernel
theorem dX6_now_83 : decode cX6_now 83 = .ok (.invokevirtual 200, 3) := by decide +kernel
theorem dX6_now_86 : decode cX6_now 86 = .ok (.ireturn, 1) := by decide +kernel
theorem dX6_now_87 : decode cX6_now 87 = .ok (.aload_n 0, 1) := by decide +kernel
theorem dX6_now_88 : decode cX6_now 88 = .ok (.getfield 9, 3) := by decide +kernel
theorem dX6_now_91 : decode cX6_now 91 = .ok (.aload_n 0, 1) := by decide +kernel
theorem dX6_now_92 : decode cX6_now 92 = .ok (.invokevirtual 115, 3) := by decide +kernel
theorem dX6_now_95 : decode cX6_now 95 = .ok (.iaload, 1) := by decide +kernel
theorem dX6_now_96 : decode cX6_now 96 = .ok (.ireturn, 1) := by decide +kernel
theorem dX6_now_97 : decode cX6_now 97 = .ok (.aload_n 0, 1) := by decide +kernel
theorem dX6_now_98 : decode cX6_now 98 = .ok (.ldc 60, 2) := by decide +kernel
theorem dX6_now_100 : decode cX6_now 100 = .ok (.invokevirtual 66, 3) := by decide +kernel
theorem dX6_now_103 : decode cX6_now 103 = .ok (.ireturn, 1) := by decide +kernel
theorem dX6_behind_0 : decode cX6_behind 0 = .ok (.aload_n 0, 1) := by decide +kernel
theorem dX6_behind_1 : decode cX6_behind 1 = .ok (.getfield 9, 3) := by decide +kernel
theorem dX6_behind_4 : decode cX6_behind 4 = .ok (.aload_n 0, 1) := by decide +kernel
theorem dX6_behind_5 : decode cX6_behind 5 = .ok (.getfield 16, 3) := by decide +kernel
theorem dX6_behind_8 : decode cX6_behind 8 = .ok (.invokestatic 61, 3) := by decide +kernel
theorem dX6_behind_11 : decode cX6_behind 11 = .ok (.aload_n 0, 1) := by decide +kernel
theorem dX6_behind_12 : decode cX6_behind 12 = .ok (.iload_n 2, 1) := by decide +kernel
theorem dX6_behind_13 : decode cX6_behind 13 = .ok (.invokevirtual 184, 3) := by decide +kernel
theorem dX6_behind_16 : decode cX6_behind 16 = .ok (.aload_n 0, 1) := by decide +kernel
theorem dX6_behind_17 : decode cX6_behind 17 = .ok (.aload_n 0, 1) := by decide +kernel
theorem dX6_behind_18 : decode cX6_behind 18 = .ok (.getfield 9, 3) := by decide +kernel
theorem dX6_behind_21 : decode cX6_behind 21 = .ok (.iload_n 1, 1) := by decide +kernel
theorem dX6_behind_22 : decode cX6_behind 22 = .ok (.iaload, 1) := by decide +kernel
theorem dX6_behind_23 : decode cX6_behind 23 = .ok (.invokevirtual 203, 3) := by decide +kernel
theorem dX6_behind_26 : decode cX6_behind 26 = .ok (.ireturn, 1) := by decide +kernel
theorem dX6_learntBehind_0 : decode cX6_learntBehind 0 = .ok (.aload_n 0, 1) := by decide +kernel
theorem dX6_learntBehind_1 : decode cX6_learntBehind 1 = .ok (.getfield 9, 3) := by decide +kernel
theorem dX6_learntBehind_4 : decode cX6_learntBehind 4 = .ok (.aload_n 0, 1) := by decide +kernel
theorem dX6_learntBehind_5 : decode cX6_learntBehind 5 = .ok (.getfield 16, 3) := by decide +kernel
theorem dX6_learntBehind_8 : decode cX6_learntBehind 8 = .ok (.invokestatic 61, 3) := by decide +kernel
theorem dX6_learntBehind_11 : decode cX6_learntBehind 11 = .ok (.aload_n 0, 1) := by decide +kernel
theorem dX6_learntBehind_12 : decode cX6_learntBehind 12 = .ok (.iload_n 1, 1) := by decide +kernel
theorem dX6_learntBehind_13 : decode cX6_learntBehind 13 = .ok (.invokevirtual 184, 3) := by decide +kernel
theorem dX6_learntBehind_16 : decode cX6_learntBehind 16 = .ok (.aload_n 0, 1) := by decide +kernel
theorem dX6_learntBehind_17 : decode cX6_learntBehind 17 = .ok (.aload_n 0, 1) := by decide +kernel
theorem dX6_learntBehind_18 : decode cX6_learntBehind 18 = .ok (.invokevirtual 188, 3) := by decide +kernel
theorem dX6_learntBehind_21 : decode cX6_learntBehind 21 = .ok (.invokevirtual 203, 3) := by decide +kernel
theorem dX6_learntBehind_24 : decode cX6_learntBehind 24 = .ok (.ireturn, 1) := by decide +kernel
theorem dX6_ahead_0 : decode cX6_ahead 0 = .ok (.iload_n 2, 1) := by decide +kernel
theorem dX6_ahead_1 : decode cX6_ahead 1 = .ok (.iconst 2, 1) := by decide +kernel
theorem dX6_ahead_2 : decode cX6_ahead 2 = .ok (.if_icmp .eq 14, 3) := by decide +kernel
theorem dX6_ahead_5 : decode cX6_ahead 5 = .ok (.iload_n 2, 1) := by decide +kernel
theorem dX6_ahead_6 : decode cX6_ahead 6 = .ok (.iconst 4, 1) := by decide +kernel
theorem dX6_ahead_7 : decode cX6_ahead 7 = .ok (.if_icmp .eq 9, 3) := by decide +kernel
theorem dX6_ahead_10 : decode cX6_ahead 10 = .ok (.iload_n 2, 1) := by decide +kernel
theorem dX6_ahead_11 : decode cX6_ahead 11 = .ok (.bipush 6, 2) := by decide +kernel
theorem dX6_ahead_13 : decode cX6_ahead 13 = .ok (.if_icmp .ne 7, 3) := by decide +kernel
theorem dX6_ahead_16 : decode cX6_ahead 16 = .ok (.iconst 1, 1) := by decide +kernel
theorem dX6_ahead_17 : decode cX6_ahead 17 = .ok (.goto 4, 3) := by decide +kernel
theorem dX6_ahead_20 : decode cX6_ahead 20 = .ok (.iconst 0, 1) := by decide +kernel
theorem dX6_ahead_21 : decode cX6_ahead 21 = .ok (.istore 4, 2) := by decide +kernel
theorem dX6_ahead_23 : decode cX6_ahead 23 = .ok (.aload_n 0, 1) := by decide +kernel
theorem dX6_ahead_24 : decode cX6_ahead 24 = .ok (.iload_n 1, 1) := by decide +kernel
theorem dX6_ahead_25 : decode cX6_ahead 25 = .ok (.invokevirtual 131, 3) := by decide +kernel
theorem dX6_ahead_28 : decode cX6_ahead 28 = .ok (.ifCond .eq 18, 3) := by decide +kernel
theorem dX6_ahead_31 : decode cX6_ahead 31 = .ok (.iload 4, 2) := by decide +kernel
theorem dX6_ahead_33 : decode cX6_ahead 33 = .ok (.ifCond .eq 13, 3) := by decide +kernel
theorem dX6_ahead_36 : decode cX6_ahead 36 = .ok (.iload_n 3, 1) := by decide +kernel
theorem dX6_ahead_37 : decode cX6_ahead 37 = .ok (.iconst 0, 1) := by decide +kernel
theorem dX6_ahead_38 : decode cX6_ahead 38 = .ok (.bipush 100, 2) := by decide +kernel
theorem dX6_ahead_40 : decode cX6_ahead 40 = .ok (.invokestatic 70, 3) := by decide +kernel
theorem dX6_ahead_43 : decode cX6_ahead 43 = .ok (.ifCond .ne 10, 3) := by decide +kernel
theorem dX6_ahead_46 : decode cX6_ahead 46 = .ok (.aload_n 0, 1) := by decide +kernel
theorem dX6_ahead_47 : decode cX6_ahead 47 = .ok (.ldc 60, 2) := by decide +kernel
theorem dX6_ahead_49 : decode cX6_ahead 49 = .ok (.invokevirtual 66, 3) := by decide +kernel
theorem dX6_ahead_52 : decode cX6_ahead 52 = .ok (.ireturn, 1) := by decide +kernel
theorem dX6_ahead_53 : decode cX6_ahead 53 = .ok (.aload_n 0, 1) := by decide +kernel
theorem dX6_ahead_54 : decode cX6_ahead 54 = .ok (.getfield 9, 3) := by decide +kernel
theorem dX6_ahead_57 : decode cX6_ahead 57 = .ok (.aload_n 0, 1) := by decide +kernel
theorem dX6_ahead_58 : decode cX6_ahead 58 = .ok (.getfield 16, 3) := by decide +kernel
theorem dX6_ahead_61 : decode cX6_ahead 61 = .ok (.invokestatic 61, 3) := by decide +kernel
theorem dX6_ahead_64 : decode cX6_ahead 64 = .ok (.aload_n 0, 1) := by decide +kernel
theorem dX6_ahead_65 : decode cX6_ahead 65 = .ok (.iload_n 3, 1) := by decide +kernel
theorem dX6_ahead_66 : decode cX6_ahead 66 = .ok (.invokevirtual 184, 3) := by decide +kernel
theorem dX6_ahead_69 : decode cX6_ahead 69 = .ok (.aload_n 0, 1) := by decide +kernel
theorem dX6_ahead_70 : decode cX6_ahead 70 = .ok (.aload_n 0, 1) := by decide +kernel
theorem dX6_ahead_71 : decode cX6_ahead 71 = .ok (.iload_n 1, 1) := by decide +kernel
theorem dX6_ahead_72 : decode cX6_ahead 72 = .ok (.iload_n 2, 1) := by decide +kernel
theorem dX6_ahead_73 : decode cX6_ahead 73 = .ok (.invokevirtual 134, 3) := by decide +kernel
theorem dX6_ahead_76 : decode cX6_ahead 76 = .ok (.invokevirtual 203, 3) := by decide +kernel
theorem dX6_ahead_79 : decode cX6_ahead 79 = .ok (.ireturn, 1) := by decide +kernel
theorem dX6_later_0 : decode cX6_later 0 = .ok (.aload_n 0, 1) := by decide +kernel
theorem dX6_later_1 : decode cX6_later 1 = .ok (.iload_n 1, 1) := by decide +kernel
theorem dX6_later_2 : decode cX6_later 2 = .ok (.invokevirtual 144, 3) := by decide +kernel
theorem dX6_later_5 : decode cX6_later 5 = .ok (.ifCond .eq 35, 3) := by decide +kernel
theorem dX6_later_8 : decode cX6_later 8 = .ok (.iload_n 2, 1) := by decide +kernel
theorem dX6_later_9 : decode cX6_later 9 = .ok (.iconst 2, 1) := by decide +kernel
theorem dX6_later_10 : decode cX6_later 10 = .ok (.iconst 3, 1) := by decide +kernel
theorem dX6_later_11 : decode cX6_later 11 = .ok (.invokestatic 70, 3) := by decide +kernel
theorem dX6_later_14 : decode cX6_later 14 = .ok (.ifCond .eq 26, 3) := by decide +kernel
theorem dX6_later_17 : decode cX6_later 17 = .ok (.iload_n 3, 1) := by decide +kernel
theorem dX6_later_18 : decode cX6_later 18 = .ok (.iconst 0, 1) := by decide +kernel
theorem dX6_later_19 : decode cX6_later 19 = .ok (.bipush 100, 2) := by decide +kernel
theorem dX6_later_21 : decode cX6_later 21 = .ok (.invokestatic 70, 3) := by decide +kernel
theorem dX6_later_24 : decode cX6_later 24 = .ok (.ifCond .eq 16, 3) := by decide +kernel
theorem dX6_later_27 : decode cX6_later 27 = .ok (.aload_n 0, 1) := by decide +kernel
theorem dX6_later_28 : decode cX6_later 28 = .ok (.iload_n 1, 1) := by decide +kernel
theorem dX6_later_29 : decode cX6_later 29 = .ok (.iload_n 2, 1) := by decide +kernel
theorem dX6_later_30 : decode cX6_later 30 = .ok (.invokestatic 88, 3) := by decide +kernel
theorem dX6_later_33 : decode cX6_later 33 = .ok (.iload_n 3, 1) := by decide +kernel
theorem dX6_later_34 : decode cX6_later 34 = .ok (.invokevirtual 206, 3) := by decide +kernel
theorem dX6_later_37 : decode cX6_later 37 = .ok (.goto 9, 3) := by decide +kernel
theorem dX6_later_40 : decode cX6_later 40 = .ok (.aload_n 0, 1) := by decide +kernel
theorem dX6_later_41 : decode cX6_later 41 = .ok (.ldc 60, 2) := by decide +kernel
theorem dX6_later_43 : decode cX6_later 43 = .ok (.invokevirtual 66, 3) := by decide +kernel
theorem dX6_later_46 : decode cX6_later 46 = .ok (.ireturn, 1) := by decide +kernel
theorem dX6_hasLearnt_0 : decode cX6_hasLearnt 0 = .ok (.aload_n 0, 1) := by decide +kernel
theorem dX6_hasLearnt_1 : decode cX6_hasLearnt 1 = .ok (.iload_n 1, 1) := by decide +kernel
theorem dX6_hasLearnt_2 : decode cX6_hasLearnt 2 = .ok (.iconst 2, 1) := by decide +kernel
theorem dX6_hasLearnt_3 : decode cX6_hasLearnt 3 = .ok (.invokevirtual 147, 3) := by decide +kernel
theorem dX6_hasLearnt_6 : decode cX6_hasLearnt 6 = .ok (.iload_n 2, 1) := by decide +kernel
theorem dX6_hasLearnt_7 : decode cX6_hasLearnt 7 = .ok (.ishr, 1) := by decide +kernel
theorem dX6_hasLearnt_8 : decode cX6_hasLearnt 8 = .ok (.iconst 1, 1) := by decide +kernel
theorem dX6_hasLearnt_9 : decode cX6_hasLearnt 9 = .ok (.iand, 1) := by decide +kernel
theorem dX6_hasLearnt_10 : decode cX6_hasLearnt 10 = .ok (.iconst 1, 1) := by decide +kernel
theorem dX6_hasLearnt_11 : decode cX6_hasLearnt 11 = .ok (.if_icmp .ne 7, 3) := by decide +kernel
theorem dX6_hasLearnt_14 : decode cX6_hasLearnt 14 = .ok (.iconst 1, 1) := by decide +kernel
theorem dX6_hasLearnt_15 : decode cX6_hasLearnt 15 = .ok (.goto 4, 3) := by decide +kernel
theorem dX6_hasLearnt_18 : decode cX6_hasLearnt 18 = .ok (.iconst 0, 1) := by decide +kernel
theorem dX6_hasLearnt_19 : decode cX6_hasLearnt 19 = .ok (.ireturn, 1) := by decide +kernel
theorem dX6_haveLearnt_0 : decode cX6_haveLearnt 0 = .ok (.iconst 1, 1) := by decide +kernel
theorem dX6_haveLearnt_1 : decode cX6_haveLearnt 1 = .ok (.istore 4, 2) := by decide +kernel
theorem dX6_haveLearnt_3 : decode cX6_haveLearnt 3 = .ok (.iload_n 1, 1) := by decide +kernel
theorem dX6_haveLearnt_4 : decode cX6_haveLearnt 4 = .ok (.istore 5, 2) := by decide +kernel
theorem dX6_haveLearnt_6 : decode cX6_haveLearnt 6 = .ok (.iload 5, 2) := by decide +kernel
theorem dX6_haveLearnt_8 : decode cX6_haveLearnt 8 = .ok (.iload_n 2, 1) := by decide +kernel
theorem dX6_haveLearnt_9 : decode cX6_haveLearnt 9 = .ok (.if_icmp .gt 31, 3) := by decide +kernel
theorem dX6_haveLearnt_12 : decode cX6_haveLearnt 12 = .ok (.iload 4, 2) := by decide +kernel
theorem dX6_haveLearnt_14 : decode cX6_haveLearnt 14 = .ok (.ifCond .eq 17, 3) := by decide +kernel
theorem dX6_haveLearnt_17 : decode cX6_haveLearnt 17 = .ok (.aload_n 0, 1) := by decide +kernel
theorem dX6_haveLearnt_18 : decode cX6_haveLearnt 18 = .ok (.iload 5, 2) := by decide +kernel
theorem dX6_haveLearnt_20 : decode cX6_haveLearnt 20 = .ok (.iload_n 3, 1) := by decide +kernel
theorem dX6_haveLearnt_21 : decode cX6_haveLearnt 21 = .ok (.invokevirtual 209, 3) := by decide +kernel
theorem dX6_haveLearnt_24 : decode cX6_haveLearnt 24 = .ok (.ifCond .eq 7, 3) := by decide +kernel
theorem dX6_haveLearnt_27 : decode cX6_haveLearnt 27 = .ok (.iconst 1, 1) := by decide +kernel
theorem dX6_haveLearnt_28 : decode cX6_haveLearnt 28 = .ok (.goto 4, 3) := by decide +kernel
theorem dX6_haveLearnt_31 : decode cX6_haveLearnt 31 = .ok (.iconst 0, 1) := by decide +kernel
theorem dX6_haveLearnt_32 : decode cX6_haveLearnt 32 = .ok (.istore 4, 2) := by decide +kernel
theorem dX6_haveLearnt_34 : decode cX6_haveLearnt 34 = .ok (.iinc 5 1, 3) := by decide +kernel
theorem dX6_haveLearnt_37 : decode cX6_haveLearnt 37 = .ok (.goto (-31), 3) := by decide +kernel
theorem dX6_haveLearnt_40 : decode cX6_haveLearnt 40 = .ok (.iload 4, 2) := by decide +kernel
theorem dX6_haveLearnt_42 : decode cX6_haveLearnt 42 = .ok (.ireturn, 1) := by decide +kernel
theorem dX6_daysTo_0 : decode cX6_daysTo 0 = .ok (.aload_n 0, 1) := by decide +kernel
theorem dX6_daysTo_1 : decode cX6_daysTo 1 = .ok (.getfield 9, 3) := by decide +kernel
theorem dX6_daysTo_4 : decode cX6_daysTo 4 = .ok (.aload_n 0, 1) := by decide +kernel
theorem dX6_daysTo_5 : decode cX6_daysTo 5 = .ok (.getfield 16, 3) := by decide +kernel
theorem dX6_daysTo_8 : decode cX6_daysTo 8 = .ok (.invokestatic 61, 3) := by decide +kernel
theorem dX6_daysTo_11 : decode cX6_daysTo 11 = .ok (.iconst 0, 1) := by decide +kernel
theorem dX6_daysTo_12 : decode cX6_daysTo 12 = .ok (.istore 4, 2) := by decide +kernel
theorem dX6_daysTo_14 : decode cX6_daysTo 14 = .ok (.iload 4, 2) := by decide +kernel
theorem dX6_daysTo_16 : decode cX6_daysTo 16 = .ok (.sipush 200, 3) := by decide +kernel
theorem dX6_daysTo_19 : decode cX6_daysTo 19 = .ok (.if_icmp .ge 23, 3) := by decide +kernel
theorem dX6_daysTo_22 : decode cX6_daysTo 22 = .ok (.aload_n 0, 1) := by decide +kernel
theorem dX6_daysTo_23 : decode cX6_daysTo 23 = .ok (.iload_n 1, 1) := by decide +kernel
theorem dX6_daysTo_24 : decode cX6_daysTo 24 = .ok (.iload_n 2, 1) := by decide +kernel
theorem dX6_daysTo_25 : decode cX6_daysTo 25 = .ok (.iload_n 3, 1) := by decide +kernel
theorem dX6_daysTo_26 : decode cX6_daysTo 26 = .ok (.invokevirtual 212, 3) := by decide +kernel
theorem dX6_daysTo_29 : decode cX6_daysTo 29 = .ok (.ifCond .ne 13, 3) := by decide +kernel
theorem dX6_daysTo_32 : decode cX6_daysTo 32 = .ok (.aload_n 0, 1) := by decide +kernel
theorem dX6_daysTo_33 : decode cX6_daysTo 33 = .ok (.invokevirtual 177, 3) := by decide +kernel
theorem dX6_daysTo_36 : decode cX6_daysTo 36 = .ok (.iinc 4 1, 3) := by decide +kernel
theorem dX6_daysTo_39 : decode cX6_daysTo 39 = .ok (.goto (-25), 3) := by decide +kernel
theorem dX6_daysTo_42 : decode cX6_daysTo 42 = .ok (.aload_n 0, 1) := by decide +kernel
theorem dX6_daysTo_43 : decode cX6_daysTo 43 = .ok (.aload_n 0, 1) := by decide +kernel
theorem dX6_daysTo_44 : decode cX6_daysTo 44 = .ok (.iload_n 1, 1) := by decide +kernel
theorem dX6_daysTo_45 : decode cX6_daysTo 45 = .ok (.iload_n 2, 1) := by decide +kernel
theorem dX6_daysTo_46 : decode cX6_daysTo 46 = .ok (.iload_n 3, 1) := by decide +kernel
theorem dX6_daysTo_47 : decode cX6_daysTo 47 = .ok (.invokevirtual 212, 3) := by decide +kernel
theorem dX6_daysTo_50 : decode cX6_daysTo 50 = .ok (.ifCond .eq 8, 3) := by decide +kernel
theorem dX6_daysTo_53 : decode cX6_daysTo 53 = .ok (.iload 4, 2) := by decide +kernel
theorem dX6_daysTo_55 : decode cX6_daysTo 55 = .ok (.goto 4, 3) := by decide +kernel
theorem dX6_daysTo_58 : decode cX6_daysTo 58 = .ok (.iconst (-1), 1) := by decide +kernel
theorem dX6_daysTo_59 : decode cX6_daysTo 59 = .ok (.invokevirtual 203, 3) := by decide +kernel
theorem dX6_daysTo_62 : decode cX6_daysTo 62 = .ok (.ireturn, 1) := by decide +kernel
theorem dX6_learns_0 : decode cX6_learns 0 = .ok (.aload_n 0, 1) := by decide +kernel
theorem dX6_learns_1 : decode cX6_learns 1 = .ok (.iload_n 1, 1) := by decide +kernel
theorem dX6_learns_2 : decode cX6_learns 2 = .ok (.invokevirtual 144, 3) := by decide +kernel
theorem dX6_learns_5 : decode cX6_learns 5 = .ok (.ifCond .eq 24, 3) := by decide +kernel
theorem dX6_learns_8 : decode cX6_learns 8 = .ok (.iload_n 2, 1) := by decide +kernel
theorem dX6_learns_9 : decode cX6_learns 9 = .ok (.invokestatic 137, 3) := by decide +kernel
theorem dX6_learns_12 : decode cX6_learns 12 = .ok (.ifCond .eq 17, 3) := by decide +kernel
theorem dX6_learns_15 : decode cX6_learns 15 = .ok (.aload_n 0, 1) := by decide +kernel
theorem dX6_learns_16 : decode cX6_learns 16 = .ok (.aload_n 0, 1) := by decide +kernel
theorem dX6_learns_17 : decode cX6_learns 17 = .ok (.iload_n 1, 1) := by decide +kernel
theorem dX6_learns_18 : decode cX6_learns 18 = .ok (.iload_n 1, 1) := by decide +kernel
theorem dX6_learns_19 : decode cX6_learns 19 = .ok (.iload_n 2, 1) := by decide +kernel
theorem dX6_learns_20 : decode cX6_learns 20 = .ok (.invokevirtual 215, 3) := by decide +kernel
theorem dX6_learns_23 : decode cX6_learns 23 = .ok (.invokevirtual 219, 3) := by decide +kernel
theorem dX6_learns_26 : decode cX6_learns 26 = .ok (.goto 9, 3) := by decide +kernel
theorem dX6_learns_29 : decode cX6_learns 29 = .ok (.aload_n 0, 1) := by decide +kernel
theorem dX6_learns_30 : decode cX6_learns 30 = .ok (.ldc 60, 2) := by decide +kernel
theorem dX6_learns_32 : decode cX6_learns 32 = .ok (.invokevirtual 66, 3) := by decide +kernel
theorem dX6_learns_35 : decode cX6_learns 35 = .ok (.ireturn, 1) := by decide +kernel
theorem dX6_taught_0 : decode cX6_taught 0 = .ok (.iload_n 1, 1) := by decide +kernel
theorem dX6_taught_1 : decode cX6_taught 1 = .ok (.invokestatic 137, 3) := by decide +kernel
theorem dX6_taught_4 : decode cX6_taught 4 = .ok (.ifCond .eq 24, 3) := by decide +kernel
theorem dX6_taught_7 : decode cX6_taught 7 = .ok (.aload_n 0, 1) := by decide +kernel
theorem dX6_taught_8 : decode cX6_taught 8 = .ok (.aload_n 0, 1) := by decide +kernel
theorem dX6_taught_9 : decode cX6_taught 9 = .ok (.iconst 0, 1) := by decide +kernel
theorem dX6_taught_10 : decode cX6_taught 10 = .ok (.aload_n 0, 1) := by decide +kernel
theorem dX6_taught_11 : decode cX6_taught 11 = .ok (.getfield 9, 3) := by decide +kernel
theorem dX6_taught_14 : decode cX6_taught 14 = .ok (.iconst 3, 1) := by decide +kernel
theorem dX6_taught_15 : decode cX6_taught 15 = .ok (.iaload, 1) := by decide +kernel
theorem dX6_taught_16 : decode cX6_taught 16 = .ok (.iconst 1, 1) := by decide +kernel
theorem dX6_taught_17 : decode cX6_taught 17 = .ok (.isub, 1) := by decide +kernel
theorem dX6_taught_18 : decode cX6_taught 18 = .ok (.iload_n 1, 1) := by decide +kernel
theorem dX6_taught_19 : decode cX6_taught 19 = .ok (.invokevirtual 215, 3) := by decide +kernel
theorem dX6_taught_22 : decode cX6_taught 22 = .ok (.invokevirtual 219, 3) := by decide +kernel
theorem dX6_taught_25 : decode cX6_taught 25 = .ok (.goto 9, 3) := by decide +kernel
theorem dX6_taught_28 : decode cX6_taught 28 = .ok (.aload_n 0, 1) := by decide +kernel
theorem dX6_taught_29 : decode cX6_taught 29 = .ok (.ldc 60, 2) := by decide +kernel
theorem dX6_taught_31 : decode cX6_taught 31 = .ok (.invokevirtual 66, 3) := by decide +kernel
theorem dX6_taught_34 : decode cX6_taught 34 = .ok (.ireturn, 1) := by decide +kernel
theorem dX6_weary_0 : decode cX6_weary 0 = .ok (.aload_n 0, 1) := by decide +kernel
theorem dX6_weary_1 : decode cX6_weary 1 = .ok (.iload_n 1, 1) := by decide +kernel
theorem dX6_weary_2 : decode cX6_weary 2 = .ok (.invokevirtual 131, 3) := by decide +kernel
theorem dX6_weary_5 : decode cX6_weary 5 = .ok (.ifCond .eq 13, 3) := by decide +kernel
theorem dX6_weary_8 : decode cX6_weary 8 = .ok (.iload_n 2, 1) := by decide +kernel
theorem dX6_weary_9 : decode cX6_weary 9 = .ok (.iconst 0, 1) := by decide +kernel
theorem dX6_weary_10 : decode cX6_weary 10 = .ok (.bipush 99, 2) := by decide +kernel
theorem dX6_weary_12 : decode cX6_weary 12 = .ok (.invokestatic 70, 3) := by decide +kernel
theorem dX6_weary_15 : decode cX6_weary 15 = .ok (.ifCond .ne 10, 3) := by decide +kernel
theorem dX6_weary_18 : decode cX6_weary 18 = .ok (.aload_n 0, 1) := by decide +kernel
theorem dX6_weary_19 : decode cX6_weary 19 = .ok (.ldc 60, 2) := by decide +kernel
theorem dX6_weary_21 : decode cX6_weary 21 = .ok (.invokevirtual 66, 3) := by decide +kernel
theorem dX6_weary_24 : decode cX6_weary 24 = .ok (.ireturn, 1) := by decide +kernel
theorem dX6_weary_25 : decode cX6_weary 25 = .ok (.aload_n 0, 1) := by decide +kernel
theorem dX6_weary_26 : decode cX6_weary 26 = .ok (.getfield 9, 3) := by decide +kernel
theorem dX6_weary_29 : decode cX6_weary 29 = .ok (.aload_n 0, 1) := by decide +kernel
theorem dX6_weary_30 : decode cX6_weary 30 = .ok (.getfield 16, 3) := by decide +kernel
theorem dX6_weary_33 : decode cX6_weary 33 = .ok (.invokestatic 61, 3) := by decide +kernel
theorem dX6_weary_36 : decode cX6_weary 36 = .ok (.iconst 0, 1) := by decide +kernel
theorem dX6_weary_37 : decode cX6_weary 37 = .ok (.istore_n 3, 1) := by decide +kernel
theorem dX6_weary_38 : decode cX6_weary 38 = .ok (.iload_n 3, 1) := by decide +kernel
theorem dX6_weary_39 : decode cX6_weary 39 = .ok (.sipush 200, 3) := by decide +kernel
theorem dX6_weary_42 : decode cX6_weary 42 = .ok (.if_icmp .ge 23, 3) := by decide +kernel
theorem dX6_weary_45 : decode cX6_weary 45 = .ok (.aload_n 0, 1) := by decide +kernel
theorem dX6_weary_46 : decode cX6_weary 46 = .ok (.iload_n 1, 1) := by decide +kernel
theorem dX6_weary_47 : decode cX6_weary 47 = .ok (.iconst 4, 1) := by decide +kernel
theorem dX6_weary_48 : decode cX6_weary 48 = .ok (.invokevirtual 104, 3) := by decide +kernel
theorem dX6_weary_51 : decode cX6_weary 51 = .ok (.iload_n 2, 1) := by decide +kernel
theorem dX6_weary_52 : decode cX6_weary 52 = .ok (.if_icmp .ge 13, 3) := by decide +kernel
theorem dX6_weary_55 : decode cX6_weary 55 = .ok (.aload_n 0, 1) := by decide +kernel
theorem dX6_weary_56 : decode cX6_weary 56 = .ok (.invokevirtual 177, 3) := by decide +kernel
theorem dX6_weary_59 : decode cX6_weary 59 = .ok (.iinc 3 1, 3) := by decide +kernel
theorem dX6_weary_62 : decode cX6_weary 62 = .ok (.goto (-24), 3) := by decide +kernel
theorem dX6_weary_65 : decode cX6_weary 65 = .ok (.aload_n 0, 1) := by decide +kernel
theorem dX6_weary_66 : decode cX6_weary 66 = .ok (.aload_n 0, 1) := by decide +kernel
theorem dX6_weary_67 : decode cX6_weary 67 = .ok (.aload_n 0, 1) := by decide +kernel
theorem dX6_weary_68 : decode cX6_weary 68 = .ok (.iload_n 1, 1) := by decide +kernel
theorem dX6_weary_69 : decode cX6_weary 69 = .ok (.iconst 4, 1) := by decide +kernel
theorem dX6_weary_70 : decode cX6_weary 70 = .ok (.invokevirtual 104, 3) := by decide +kernel
theorem dX6_weary_73 : decode cX6_weary 73 = .ok (.iload_n 2, 1) := by decide +kernel
theorem dX6_weary_74 : decode cX6_weary 74 = .ok (.if_icmp .ge 7, 3) := by decide +kernel
theorem dX6_weary_77 : decode cX6_weary 77 = .ok (.iconst (-1), 1) := by decide +kernel
theorem dX6_weary_78 : decode cX6_weary 78 = .ok (.goto 4, 3) := by decide +kernel
theorem dX6_weary_81 : decode cX6_weary 81 = .ok (.iload_n 3, 1) := by decide +kernel
theorem dX6_weary_82 : decode cX6_weary 82 = .ok (.invokevirtual 203, 3) := by decide +kernel
theorem dX6_weary_85 : decode cX6_weary 85 = .ok (.invokevirtual 219, 3) := by decide +kernel
theorem dX6_weary_88 : decode cX6_weary 88 = .ok (.ireturn, 1) := by decide +kernel
theorem dX6_isThought_0 : decode cX6_isThought 0 = .ok (.iload_n 0, 1) := by decide +kernel
theorem dX6_isThought_1 : decode cX6_isThought 1 = .ok (.iconst 0, 1) := by decide +kernel
theorem dX6_isThought_2 : decode cX6_isThought 2 = .ok (.bipush 60, 2) := by decide +kernel
theorem dX6_isThought_4 : decode cX6_isThought 4 = .ok (.invokestatic 70, 3) := by decide +kernel
theorem dX6_isThought_7 : decode cX6_isThought 7 = .ok (.ireturn, 1) := by decide +kernel
theorem dX6_seatFor_0 : decode cX6_seatFor 0 = .ok (.aload_n 0, 1) := by decide +kernel
theorem dX6_seatFor_1 : decode cX6_seatFor 1 = .ok (.iload_n 1, 1) := by decide +kernel
theorem dX6_seatFor_2 : decode cX6_seatFor 2 = .ok (.invokevirtual 144, 3) := by decide +kernel
theorem dX6_seatFor_5 : decode cX6_seatFor 5 = .ok (.ifCond .eq 10, 3) := by decide +kernel
theorem dX6_seatFor_8 : decode cX6_seatFor 8 = .ok (.iload_n 2, 1) := by decide +kernel
theorem dX6_seatFor_9 : decode cX6_seatFor 9 = .ok (.invokestatic 222, 3) := by decide +kernel
theorem dX6_seatFor_12 : decode cX6_seatFor 12 = .ok (.ifCond .ne 10, 3) := by decide +kernel
theorem dX6_seatFor_15 : decode cX6_seatFor 15 = .ok (.aload_n 0, 1) := by decide +kernel
theorem dX6_seatFor_16 : decode cX6_seatFor 16 = .ok (.ldc 60, 2) := by decide +kernel
theorem dX6_seatFor_18 : decode cX6_seatFor 18 = .ok (.invokevirtual 66, 3) := by decide +kernel
theorem dX6_seatFor_21 : decode cX6_seatFor 21 = .ok (.ireturn, 1) := by decide +kernel
theorem dX6_seatFor_22 : decode cX6_seatFor 22 = .ok (.iload_n 1, 1) := by decide +kernel
theorem dX6_seatFor_23 : decode cX6_seatFor 23 = .ok (.iconst 0, 1) := by decide +kernel
theorem dX6_seatFor_24 : decode cX6_seatFor 24 = .ok (.invokestatic 88, 3) := by decide +kernel
theorem dX6_seatFor_27 : decode cX6_seatFor 27 = .ok (.istore_n 3, 1) := by decide +kernel
theorem dX6_seatFor_28 : decode cX6_seatFor 28 = .ok (.aload_n 0, 1) := by decide +kernel
theorem dX6_seatFor_29 : decode cX6_seatFor 29 = .ok (.getfield 9, 3) := by decide +kernel
theorem dX6_seatFor_32 : decode cX6_seatFor 32 = .ok (.iload_n 3, 1) := by decide +kernel
theorem dX6_seatFor_33 : decode cX6_seatFor 33 = .ok (.iaload, 1) := by decide +kernel
theorem dX6_seatFor_34 : decode cX6_seatFor 34 = .ok (.istore 4, 2) := by decide +kernel
theorem dX6_seatFor_36 : decode cX6_seatFor 36 = .ok (.iconst 0, 1) := by decide +kernel
theorem dX6_seatFor_37 : decode cX6_seatFor 37 = .ok (.istore 5, 2) := by decide +kernel
theorem dX6_seatFor_39 : decode cX6_seatFor 39 = .ok (.iconst (-1), 1) := by decide +kernel
theorem dX6_seatFor_40 : decode cX6_seatFor 40 = .ok (.istore 6, 2) := by decide +kernel
theorem dX6_seatFor_42 : decode cX6_seatFor 42 = .ok (.iconst 0, 1) := by decide +kernel
theorem dX6_seatFor_43 : decode cX6_seatFor 43 = .ok (.istore 7, 2) := by decide +kernel
theorem dX6_seatFor_45 : decode cX6_seatFor 45 = .ok (.iload 7, 2) := by decide +kernel
theorem dX6_seatFor_47 : decode cX6_seatFor 47 = .ok (.bipush 16, 2) := by decide +kernel
theorem dX6_seatFor_49 : decode cX6_seatFor 49 = .ok (.if_icmp .ge 47, 3) := by decide +kernel
theorem dX6_seatFor_52 : decode cX6_seatFor 52 = .ok (.aload_n 0, 1) := by decide +kernel
theorem dX6_seatFor_53 : decode cX6_seatFor 53 = .ok (.getfield 9, 3) := by decide +kernel
theorem dX6_seatFor_56 : decode cX6_seatFor 56 = .ok (.iload_n 3, 1) := by decide +kernel
theorem dX6_seatFor_57 : decode cX6_seatFor 57 = .ok (.iload 7, 2) := by decide +kernel
theorem dX6_seatFor_59 : decode cX6_seatFor 59 = .ok (.iastore, 1) := by decide +kernel
theorem dX6_seatFor_60 : decode cX6_seatFor 60 = .ok (.aload_n 0, 1) := by decide +kernel
theorem dX6_seatFor_61 : decode cX6_seatFor 61 = .ok (.iload_n 1, 1) := by decide +kernel
theorem dX6_seatFor_62 : decode cX6_seatFor 62 = .ok (.iconst 2, 1) := by decide +kernel
theorem dX6_seatFor_63 : decode cX6_seatFor 63 = .ok (.invokestatic 88, 3) := by decide +kernel
theorem dX6_seatFor_66 : decode cX6_seatFor 66 = .ok (.iload_n 2, 1) := by decide +kernel
theorem dX6_seatFor_67 : decode cX6_seatFor 67 = .ok (.invokevirtual 206, 3) := by decide +kernel
theorem dX6_seatFor_70 : decode cX6_seatFor 70 = .ok (.invokestatic 180, 3) := by decide +kernel
theorem dX6_seatFor_73 : decode cX6_seatFor 73 = .ok (.istore 8, 2) := by decide +kernel
theorem dX6_seatFor_75 : decode cX6_seatFor 75 = .ok (.iload 8, 2) := by decide +kernel
theorem dX6_seatFor_77 : decode cX6_seatFor 77 = .ok (.iload 6, 2) := by decide +kernel
theorem dX6_seatFor_79 : decode cX6_seatFor 79 = .ok (.if_icmp .le 11, 3) := by decide +kernel
theorem dX6_seatFor_82 : decode cX6_seatFor 82 = .ok (.iload 7, 2) := by decide +kernel
theorem dX6_seatFor_84 : decode cX6_seatFor 84 = .ok (.istore 5, 2) := by decide +kernel
theorem dX6_seatFor_86 : decode cX6_seatFor 86 = .ok (.iload 8, 2) := by decide +kernel
theorem dX6_seatFor_88 : decode cX6_seatFor 88 = .ok (.istore 6, 2) := by decide +kernel
theorem dX6_seatFor_90 : decode cX6_seatFor 90 = .ok (.iinc 7 1, 3) := by decide +kernel
theorem dX6_seatFor_93 : decode cX6_seatFor 93 = .ok (.goto (-48), 3) := by decide +kernel
theorem dX6_seatFor_96 : decode cX6_seatFor 96 = .ok (.aload_n 0, 1) := by decide +kernel
theorem dX6_seatFor_97 : decode cX6_seatFor 97 = .ok (.getfield 9, 3) := by decide +kernel
theorem dX6_seatFor_100 : decode cX6_seatFor 100 = .ok (.iload_n 3, 1) := by decide +kernel
theorem dX6_seatFor_101 : decode cX6_seatFor 101 = .ok (.iload 4, 2) := by decide +kernel
theorem dX6_seatFor_103 : decode cX6_seatFor 103 = .ok (.iastore, 1) := by decide +kernel
theorem dX6_seatFor_104 : decode cX6_seatFor 104 = .ok (.iload 5, 2) := by decide +kernel
theorem dX6_seatFor_106 : decode cX6_seatFor 106 = .ok (.ireturn, 1) := by decide +kernel
theorem dX6_quickFor_0 : decode cX6_quickFor 0 = .ok (.aload_n 0, 1) := by decide +kernel
theorem dX6_quickFor_1 : decode cX6_quickFor 1 = .ok (.iload_n 1, 1) := by decide +kernel
theorem dX6_quickFor_2 : decode cX6_quickFor 2 = .ok (.invokevirtual 144, 3) := by decide +kernel
theorem dX6_quickFor_5 : decode cX6_quickFor 5 = .ok (.ifCond .eq 17, 3) := by decide +kernel
theorem dX6_quickFor_8 : decode cX6_quickFor 8 = .ok (.iload_n 2, 1) := by decide +kernel
theorem dX6_quickFor_9 : decode cX6_quickFor 9 = .ok (.invokestatic 137, 3) := by decide +kernel
theorem dX6_quickFor_12 : decode cX6_quickFor 12 = .ok (.ifCond .eq 10, 3) := by decide +kernel
theorem dX6_quickFor_15 : decode cX6_quickFor 15 = .ok (.iload_n 3, 1) := by decide +kernel
theorem dX6_quickFor_16 : decode cX6_quickFor 16 = .ok (.invokestatic 222, 3) := by decide +kernel
theorem dX6_quickFor_19 : decode cX6_quickFor 19 = .ok (.ifCond .ne 10, 3) := by decide +kernel
theorem dX6_quickFor_22 : decode cX6_quickFor 22 = .ok (.aload_n 0, 1) := by decide +kernel
theorem dX6_quickFor_23 : decode cX6_quickFor 23 = .ok (.ldc 60, 2) := by decide +kernel
theorem dX6_quickFor_25 : decode cX6_quickFor 25 = .ok (.invokevirtual 66, 3) := by decide +kernel
theorem dX6_quickFor_28 : decode cX6_quickFor 28 = .ok (.ireturn, 1) := by decide +kernel
theorem dX6_quickFor_29 : decode cX6_quickFor 29 = .ok (.iload_n 1, 1) := by decide +kernel
theorem dX6_quickFor_30 : decode cX6_quickFor 30 = .ok (.iconst 1, 1) := by decide +kernel
theorem dX6_quickFor_31 : decode cX6_quickFor 31 = .ok (.invokestatic 88, 3) := by decide +kernel
theorem dX6_quickFor_34 : decode cX6_quickFor 34 = .ok (.istore 4, 2) := by decide +kernel
theorem dX6_quickFor_36 : decode cX6_quickFor 36 = .ok (.aload_n 0, 1) := by decide +kernel
theorem dX6_quickFor_37 : decode cX6_quickFor 37 = .ok (.getfield 9, 3) := by decide +kernel
theorem dX6_quickFor_40 : decode cX6_quickFor 40 = .ok (.iload 4, 2) := by decide +kernel
theorem dX6_quickFor_42 : decode cX6_quickFor 42 = .ok (.iaload, 1) := by decide +kernel
theorem dX6_quickFor_43 : decode cX6_quickFor 43 = .ok (.istore 5, 2) := by decide +kernel
theorem dX6_quickFor_45 : decode cX6_quickFor 45 = .ok (.iconst (-1), 1) := by decide +kernel
theorem dX6_quickFor_46 : decode cX6_quickFor 46 = .ok (.istore 6, 2) := by decide +kernel
theorem dX6_quickFor_48 : decode cX6_quickFor 48 = .ok (.bipush 9, 2) := by decide +kernel
theorem dX6_quickFor_50 : decode cX6_quickFor 50 = .ok (.istore 7, 2) := by decide +kernel
theorem dX6_quickFor_52 : decode cX6_quickFor 52 = .ok (.iload 7, 2) := by decide +kernel
theorem dX6_quickFor_54 : decode cX6_quickFor 54 = .ok (.ifCond .lt 45, 3) := by decide +kernel
theorem dX6_quickFor_57 : decode cX6_quickFor 57 = .ok (.aload_n 0, 1) := by decide +kernel
theorem dX6_quickFor_58 : decode cX6_quickFor 58 = .ok (.getfield 9, 3) := by decide +kernel
theorem dX6_quickFor_61 : decode cX6_quickFor 61 = .ok (.iload 4, 2) := by decide +kernel
theorem dX6_quickFor_63 : decode cX6_quickFor 63 = .ok (.iload 7, 2) := by decide +kernel
theorem dX6_quickFor_65 : decode cX6_quickFor 65 = .ok (.iastore, 1) := by decide +kernel
theorem dX6_quickFor_66 : decode cX6_quickFor 66 = .ok (.aload_n 0, 1) := by decide +kernel
theorem dX6_quickFor_67 : decode cX6_quickFor 67 = .ok (.iload_n 1, 1) := by decide +kernel
theorem dX6_quickFor_68 : decode cX6_quickFor 68 = .ok (.iconst 2, 1) := by decide +kernel
theorem dX6_quickFor_69 : decode cX6_quickFor 69 = .ok (.invokestatic 88, 3) := by decide +kernel
theorem dX6_quickFor_72 : decode cX6_quickFor 72 = .ok (.iload_n 3, 1) := by decide +kernel
theorem dX6_quickFor_73 : decode cX6_quickFor 73 = .ok (.invokevirtual 206, 3) := by decide +kernel
theorem dX6_quickFor_76 : decode cX6_quickFor 76 = .ok (.iload_n 2, 1) := by decide +kernel
theorem dX6_quickFor_77 : decode cX6_quickFor 77 = .ok (.ishr, 1) := by decide +kernel
theorem dX6_quickFor_78 : decode cX6_quickFor 78 = .ok (.iconst 1, 1) := by decide +kernel
theorem dX6_quickFor_79 : decode cX6_quickFor 79 = .ok (.iand, 1) := by decide +kernel
theorem dX6_quickFor_80 : decode cX6_quickFor 80 = .ok (.iconst 1, 1) := by decide +kernel
theorem dX6_quickFor_81 : decode cX6_quickFor 81 = .ok (.if_icmp .ne 8, 3) := by decide +kernel
theorem dX6_quickFor_84 : decode cX6_quickFor 84 = .ok (.iload 7, 2) := by decide +kernel
theorem dX6_quickFor_86 : decode cX6_quickFor 86 = .ok (.goto 5, 3) := by decide +kernel
theorem dX6_quickFor_89 : decode cX6_quickFor 89 = .ok (.iload 6, 2) := by decide +kernel
theorem dX6_quickFor_91 : decode cX6_quickFor 91 = .ok (.istore 6, 2) := by decide +kernel
theorem dX6_quickFor_93 : decode cX6_quickFor 93 = .ok (.iinc 7 (-1), 3) := by decide +kernel
theorem dX6_quickFor_96 : decode cX6_quickFor 96 = .ok (.goto (-44), 3) := by decide +kernel
theorem dX6_quickFor_99 : decode cX6_quickFor 99 = .ok (.aload_n 0, 1) := by decide +kernel
theorem dX6_quickFor_100 : decode cX6_quickFor 100 = .ok (.getfield 9, 3) := by decide +kernel
theorem dX6_quickFor_103 : decode cX6_quickFor 103 = .ok (.iload 4, 2) := by decide +kernel
theorem dX6_quickFor_105 : decode cX6_quickFor 105 = .ok (.iload 5, 2) := by decide +kernel
theorem dX6_quickFor_107 : decode cX6_quickFor 107 = .ok (.iastore, 1) := by decide +kernel
theorem dX6_quickFor_108 : decode cX6_quickFor 108 = .ok (.aload_n 0, 1) := by decide +kernel
theorem dX6_quickFor_109 : decode cX6_quickFor 109 = .ok (.iload 6, 2) := by decide +kernel
theorem dX6_quickFor_111 : decode cX6_quickFor 111 = .ok (.invokevirtual 219, 3) := by decide +kernel
theorem dX6_quickFor_114 : decode cX6_quickFor 114 = .ok (.ireturn, 1) := by decide +kernel
theorem dX6_kindFor_0 : decode cX6_kindFor 0 = .ok (.aload_n 0, 1) := by decide +kernel
theorem dX6_kindFor_1 : decode cX6_kindFor 1 = .ok (.iload_n 1, 1) := by decide +kernel
theorem dX6_kindFor_2 : decode cX6_kindFor 2 = .ok (.invokevirtual 131, 3) := by decide +kernel
theorem dX6_kindFor_5 : decode cX6_kindFor 5 = .ok (.ifCond .eq 10, 3) := by decide +kernel
theorem dX6_kindFor_8 : decode cX6_kindFor 8 = .ok (.iload_n 2, 1) := by decide +kernel
theorem dX6_kindFor_9 : decode cX6_kindFor 9 = .ok (.invokestatic 222, 3) := by decide +kernel
theorem dX6_kindFor_12 : decode cX6_kindFor 12 = .ok (.ifCond .ne 10, 3) := by decide +kernel
theorem dX6_kindFor_15 : decode cX6_kindFor 15 = .ok (.aload_n 0, 1) := by decide +kernel
theorem dX6_kindFor_16 : decode cX6_kindFor 16 = .ok (.ldc 60, 2) := by decide +kernel
theorem dX6_kindFor_18 : decode cX6_kindFor 18 = .ok (.invokevirtual 66, 3) := by decide +kernel
theorem dX6_kindFor_21 : decode cX6_kindFor 21 = .ok (.ireturn, 1) := by decide +kernel
theorem dX6_kindFor_22 : decode cX6_kindFor 22 = .ok (.iload_n 1, 1) := by decide +kernel
theorem dX6_kindFor_23 : decode cX6_kindFor 23 = .ok (.iconst 0, 1) := by decide +kernel
theorem dX6_kindFor_24 : decode cX6_kindFor 24 = .ok (.invokestatic 85, 3) := by decide +kernel
theorem dX6_kindFor_27 : decode cX6_kindFor 27 = .ok (.istore_n 3, 1) := by decide +kernel
theorem dX6_kindFor_28 : decode cX6_kindFor 28 = .ok (.aload_n 0, 1) := by decide +kernel
theorem dX6_kindFor_29 : decode cX6_kindFor 29 = .ok (.getfield 9, 3) := by decide +kernel
theorem dX6_kindFor_32 : decode cX6_kindFor 32 = .ok (.iload_n 3, 1) := by decide +kernel
theorem dX6_kindFor_33 : decode cX6_kindFor 33 = .ok (.iaload, 1) := by decide +kernel
theorem dX6_kindFor_34 : decode cX6_kindFor 34 = .ok (.istore 4, 2) := by decide +kernel
theorem dX6_kindFor_36 : decode cX6_kindFor 36 = .ok (.iconst 0, 1) := by decide +kernel
theorem dX6_kindFor_37 : decode cX6_kindFor 37 = .ok (.istore 5, 2) := by decide +kernel
theorem dX6_kindFor_39 : decode cX6_kindFor 39 = .ok (.iconst (-1), 1) := by decide +kernel
theorem dX6_kindFor_40 : decode cX6_kindFor 40 = .ok (.istore 6, 2) := by decide +kernel
theorem dX6_kindFor_42 : decode cX6_kindFor 42 = .ok (.iconst 0, 1) := by decide +kernel
theorem dX6_kindFor_43 : decode cX6_kindFor 43 = .ok (.istore 7, 2) := by decide +kernel
theorem dX6_kindFor_45 : decode cX6_kindFor 45 = .ok (.iload 7, 2) := by decide +kernel
theorem dX6_kindFor_47 : decode cX6_kindFor 47 = .ok (.bipush 6, 2) := by decide +kernel
theorem dX6_kindFor_49 : decode cX6_kindFor 49 = .ok (.if_icmp .gt 39, 3) := by decide +kernel
theorem dX6_kindFor_52 : decode cX6_kindFor 52 = .ok (.aload_n 0, 1) := by decide +kernel
theorem dX6_kindFor_53 : decode cX6_kindFor 53 = .ok (.getfield 9, 3) := by decide +kernel
theorem dX6_kindFor_56 : decode cX6_kindFor 56 = .ok (.iload_n 3, 1) := by decide +kernel
theorem dX6_kindFor_57 : decode cX6_kindFor 57 = .ok (.iload 7, 2) := by decide +kernel
theorem dX6_kindFor_59 : decode cX6_kindFor 59 = .ok (.iastore, 1) := by decide +kernel
theorem dX6_kindFor_60 : decode cX6_kindFor 60 = .ok (.aload_n 0, 1) := by decide +kernel
theorem dX6_kindFor_61 : decode cX6_kindFor 61 = .ok (.iload_n 2, 1) := by decide +kernel
theorem dX6_kindFor_62 : decode cX6_kindFor 62 = .ok (.invokevirtual 225, 3) := by decide +kernel
theorem dX6_kindFor_65 : decode cX6_kindFor 65 = .ok (.istore 8, 2) := by decide +kernel
theorem dX6_kindFor_67 : decode cX6_kindFor 67 = .ok (.iload 8, 2) := by decide +kernel
theorem dX6_kindFor_69 : decode cX6_kindFor 69 = .ok (.iload 6, 2) := by decide +kernel
theorem dX6_kindFor_71 : decode cX6_kindFor 71 = .ok (.if_icmp .le 11, 3) := by decide +kernel
theorem dX6_kindFor_74 : decode cX6_kindFor 74 = .ok (.iload 7, 2) := by decide +kernel
theorem dX6_kindFor_76 : decode cX6_kindFor 76 = .ok (.istore 5, 2) := by decide +kernel
theorem dX6_kindFor_78 : decode cX6_kindFor 78 = .ok (.iload 8, 2) := by decide +kernel
theorem dX6_kindFor_80 : decode cX6_kindFor 80 = .ok (.istore 6, 2) := by decide +kernel
theorem dX6_kindFor_82 : decode cX6_kindFor 82 = .ok (.iinc 7 1, 3) := by decide +kernel
theorem dX6_kindFor_85 : decode cX6_kindFor 85 = .ok (.goto (-40), 3) := by decide +kernel
theorem dX6_kindFor_88 : decode cX6_kindFor 88 = .ok (.aload_n 0, 1) := by decide +kernel
theorem dX6_kindFor_89 : decode cX6_kindFor 89 = .ok (.getfield 9, 3) := by decide +kernel
theorem dX6_kindFor_92 : decode cX6_kindFor 92 = .ok (.iload_n 3, 1) := by decide +kernel
theorem dX6_kindFor_93 : decode cX6_kindFor 93 = .ok (.iload 4, 2) := by decide +kernel
theorem dX6_kindFor_95 : decode cX6_kindFor 95 = .ok (.iastore, 1) := by decide +kernel
theorem dX6_kindFor_96 : decode cX6_kindFor 96 = .ok (.iload 5, 2) := by decide +kernel
theorem dX6_kindFor_98 : decode cX6_kindFor 98 = .ok (.ireturn, 1) := by decide +kernel
theorem dX6_fogFor_0 : decode cX6_fogFor 0 = .ok (.iload_n 1, 1) := by decide +kernel
theorem dX6_fogFor_1 : decode cX6_fogFor 1 = .ok (.invokestatic 74, 3) := by decide +kernel
theorem dX6_fogFor_4 : decode cX6_fogFor 4 = .ok (.ifCond .eq 20, 3) := by decide +kernel
theorem dX6_fogFor_7 : decode cX6_fogFor 7 = .ok (.iload_n 2, 1) := by decide +kernel
theorem dX6_fogFor_8 : decode cX6_fogFor 8 = .ok (.iconst 0, 1) := by decide +kernel
theorem dX6_fogFor_9 : decode cX6_fogFor 9 = .ok (.bipush 72, 2) := by decide +kernel
theorem dX6_fogFor_11 : decode cX6_fogFor 11 = .ok (.invokestatic 70, 3) := by decide +kernel
theorem dX6_fogFor_14 : decode cX6_fogFor 14 = .ok (.ifCond .eq 10, 3) := by decide +kernel
theorem dX6_fogFor_17 : decode cX6_fogFor 17 = .ok (.iload_n 3, 1) := by decide +kernel
theorem dX6_fogFor_18 : decode cX6_fogFor 18 = .ok (.invokestatic 222, 3) := by decide +kernel
theorem dX6_fogFor_21 : decode cX6_fogFor 21 = .ok (.ifCond .ne 10, 3) := by decide +kernel
theorem dX6_fogFor_24 : decode cX6_fogFor 24 = .ok (.aload_n 0, 1) := by decide +kernel
theorem dX6_fogFor_25 : decode cX6_fogFor 25 = .ok (.ldc 60, 2) := by decide +kernel
theorem dX6_fogFor_27 : decode cX6_fogFor 27 = .ok (.invokevirtual 66, 3) := by decide +kernel
theorem dX6_fogFor_30 : decode cX6_fogFor 30 = .ok (.ireturn, 1) := by decide +kernel
theorem dX6_fogFor_31 : decode cX6_fogFor 31 = .ok (.aload_n 0, 1) := by decide +kernel
theorem dX6_fogFor_32 : decode cX6_fogFor 32 = .ok (.getfield 9, 3) := by decide +kernel
theorem dX6_fogFor_35 : decode cX6_fogFor 35 = .ok (.iconst 4, 1) := by decide +kernel
theorem dX6_fogFor_36 : decode cX6_fogFor 36 = .ok (.iload_n 1, 1) := by decide +kernel
theorem dX6_fogFor_37 : decode cX6_fogFor 37 = .ok (.iadd, 1) := by decide +kernel
theorem dX6_fogFor_38 : decode cX6_fogFor 38 = .ok (.iaload, 1) := by decide +kernel
theorem dX6_fogFor_39 : decode cX6_fogFor 39 = .ok (.istore 4, 2) := by decide +kernel
theorem dX6_fogFor_41 : decode cX6_fogFor 41 = .ok (.iconst (-1), 1) := by decide +kernel
theorem dX6_fogFor_42 : decode cX6_fogFor 42 = .ok (.istore 5, 2) := by decide +kernel
theorem dX6_fogFor_44 : decode cX6_fogFor 44 = .ok (.iconst 0, 1) := by decide +kernel
theorem dX6_fogFor_45 : decode cX6_fogFor 45 = .ok (.istore 6, 2) := by decide +kernel
theorem dX6_fogFor_47 : decode cX6_fogFor 47 = .ok (.iload 6, 2) := by decide +kernel
theorem dX6_fogFor_49 : decode cX6_fogFor 49 = .ok (.bipush 9, 2) := by decide +kernel
theorem dX6_fogFor_51 : decode cX6_fogFor 51 = .ok (.if_icmp .gt 37, 3) := by decide +kernel
theorem dX6_fogFor_54 : decode cX6_fogFor 54 = .ok (.aload_n 0, 1) := by decide +kernel
theorem dX6_fogFor_55 : decode cX6_fogFor 55 = .ok (.getfield 9, 3) := by decide +kernel
theorem dX6_fogFor_58 : decode cX6_fogFor 58 = .ok (.iconst 4, 1) := by decide +kernel
theorem dX6_fogFor_59 : decode cX6_fogFor 59 = .ok (.iload_n 1, 1) := by decide +kernel
theorem dX6_fogFor_60 : decode cX6_fogFor 60 = .ok (.iadd, 1) := by decide +kernel
theorem dX6_fogFor_61 : decode cX6_fogFor 61 = .ok (.iload 6, 2) := by decide +kernel
theorem dX6_fogFor_63 : decode cX6_fogFor 63 = .ok (.iastore, 1) := by decide +kernel
theorem dX6_fogFor_64 : decode cX6_fogFor 64 = .ok (.aload_n 0, 1) := by decide +kernel
theorem dX6_fogFor_65 : decode cX6_fogFor 65 = .ok (.iload_n 3, 1) := by decide +kernel
theorem dX6_fogFor_66 : decode cX6_fogFor 66 = .ok (.invokevirtual 225, 3) := by decide +kernel
theorem dX6_fogFor_69 : decode cX6_fogFor 69 = .ok (.iload_n 2, 1) := by decide +kernel
theorem dX6_fogFor_70 : decode cX6_fogFor 70 = .ok (.if_icmp .lt 8, 3) := by decide +kernel
theorem dX6_fogFor_73 : decode cX6_fogFor 73 = .ok (.iload 6, 2) := by decide +kernel
theorem dX6_fogFor_75 : decode cX6_fogFor 75 = .ok (.goto 5, 3) := by decide +kernel
theorem dX6_fogFor_78 : decode cX6_fogFor 78 = .ok (.iload 5, 2) := by decide +kernel
theorem dX6_fogFor_80 : decode cX6_fogFor 80 = .ok (.istore 5, 2) := by decide +kernel
theorem dX6_fogFor_82 : decode cX6_fogFor 82 = .ok (.iinc 6 1, 3) := by decide +kernel
theorem dX6_fogFor_85 : decode cX6_fogFor 85 = .ok (.goto (-38), 3) := by decide +kernel
theorem dX6_fogFor_88 : decode cX6_fogFor 88 = .ok (.aload_n 0, 1) := by decide +kernel
theorem dX6_fogFor_89 : decode cX6_fogFor 89 = .ok (.getfield 9, 3) := by decide +kernel
theorem dX6_fogFor_92 : decode cX6_fogFor 92 = .ok (.iconst 4, 1) := by decide +kernel
theorem dX6_fogFor_93 : decode cX6_fogFor 93 = .ok (.iload_n 1, 1) := by decide +kernel
theorem dX6_fogFor_94 : decode cX6_fogFor 94 = .ok (.iadd, 1) := by decide +kernel
theorem dX6_fogFor_95 : decode cX6_fogFor 95 = .ok (.iload 4, 2) := by decide +kernel
theorem dX6_fogFor_97 : decode cX6_fogFor 97 = .ok (.iastore, 1) := by decide +kernel
theorem dX6_fogFor_98 : decode cX6_fogFor 98 = .ok (.aload_n 0, 1) := by decide +kernel
theorem dX6_fogFor_99 : decode cX6_fogFor 99 = .ok (.iload 5, 2) := by decide +kernel
theorem dX6_fogFor_101 : decode cX6_fogFor 101 = .ok (.invokevirtual 219, 3) := by decide +kernel
theorem dX6_fogFor_104 : decode cX6_fogFor 104 = .ok (.ireturn, 1) := by decide +kernel
theorem dX6_nobodyLearns_0 : decode cX6_nobodyLearns 0 = .ok (.aload_n 0, 1) := by decide +kernel
theorem dX6_nobodyLearns_1 : decode cX6_nobodyLearns 1 = .ok (.invokevirtual 188, 3) := by decide +kernel
theorem dX6_nobodyLearns_4 : decode cX6_nobodyLearns 4 = .ok (.istore_n 3, 1) := by decide +kernel
theorem dX6_nobodyLearns_5 : decode cX6_nobodyLearns 5 = .ok (.aload_n 0, 1) := by decide +kernel
theorem dX6_nobodyLearns_6 : decode cX6_nobodyLearns 6 = .ok (.getfield 9, 3) := by decide +kernel
theorem dX6_nobodyLearns_9 : decode cX6_nobodyLearns 9 = .ok (.aload_n 0, 1) := by decide +kernel
theorem dX6_nobodyLearns_10 : decode cX6_nobodyLearns 10 = .ok (.getfield 16, 3) := by decide +kernel
theorem dX6_nobodyLearns_13 : decode cX6_nobodyLearns 13 = .ok (.invokestatic 61, 3) := by decide +kernel
theorem dX6_nobodyLearns_16 : decode cX6_nobodyLearns 16 = .ok (.iconst 0, 1) := by decide +kernel
theorem dX6_nobodyLearns_17 : decode cX6_nobodyLearns 17 = .ok (.istore 4, 2) := by decide +kernel
theorem dX6_nobodyLearns_19 : decode cX6_nobodyLearns 19 = .ok (.iload 4, 2) := by decide +kernel
theorem dX6_nobodyLearns_21 : decode cX6_nobodyLearns 21 = .ok (.aload_n 0, 1) := by decide +kernel
theorem dX6_nobodyLearns_22 : decode cX6_nobodyLearns 22 = .ok (.getfield 9, 3) := by decide +kernel
theorem dX6_nobodyLearns_25 : decode cX6_nobodyLearns 25 = .ok (.iconst 1, 1) := by decide +kernel
theorem dX6_nobodyLearns_26 : decode cX6_nobodyLearns 26 = .ok (.iaload, 1) := by decide +kernel
theorem dX6_nobodyLearns_27 : decode cX6_nobodyLearns 27 = .ok (.if_icmp .ge 31, 3) := by decide +kernel
theorem dX6_nobodyLearns_30 : decode cX6_nobodyLearns 30 = .ok (.iload_n 1, 1) := by decide +kernel
theorem dX6_nobodyLearns_31 : decode cX6_nobodyLearns 31 = .ok (.iload 4, 2) := by decide +kernel
theorem dX6_nobodyLearns_33 : decode cX6_nobodyLearns 33 = .ok (.ishr, 1) := by decide +kernel
theorem dX6_nobodyLearns_34 : decode cX6_nobodyLearns 34 = .ok (.iconst 1, 1) := by decide +kernel
theorem dX6_nobodyLearns_35 : decode cX6_nobodyLearns 35 = .ok (.iand, 1) := by decide +kernel
theorem dX6_nobodyLearns_36 : decode cX6_nobodyLearns 36 = .ok (.iconst 1, 1) := by decide +kernel
theorem dX6_nobodyLearns_37 : decode cX6_nobodyLearns 37 = .ok (.if_icmp .ne 15, 3) := by decide +kernel
theorem dX6_nobodyLearns_40 : decode cX6_nobodyLearns 40 = .ok (.aload_n 0, 1) := by decide +kernel
theorem dX6_nobodyLearns_41 : decode cX6_nobodyLearns 41 = .ok (.getfield 9, 3) := by decide +kernel
theorem dX6_nobodyLearns_44 : decode cX6_nobodyLearns 44 = .ok (.iload 4, 2) := by decide +kernel
theorem dX6_nobodyLearns_46 : decode cX6_nobodyLearns 46 = .ok (.iconst 5, 1) := by decide +kernel
theorem dX6_nobodyLearns_47 : decode cX6_nobodyLearns 47 = .ok (.invokestatic 85, 3) := by decide +kernel
theorem dX6_nobodyLearns_50 : decode cX6_nobodyLearns 50 = .ok (.iconst 1, 1) := by decide +kernel
theorem dX6_nobodyLearns_51 : decode cX6_nobodyLearns 51 = .ok (.iastore, 1) := by decide +kernel
theorem dX6_nobodyLearns_52 : decode cX6_nobodyLearns 52 = .ok (.iinc 4 1, 3) := by decide +kernel
theorem dX6_nobodyLearns_55 : decode cX6_nobodyLearns 55 = .ok (.goto (-36), 3) := by decide +kernel
theorem dX6_nobodyLearns_58 : decode cX6_nobodyLearns 58 = .ok (.aload_n 0, 1) := by decide +kernel
theorem dX6_nobodyLearns_59 : decode cX6_nobodyLearns 59 = .ok (.iload_n 2, 1) := by decide +kernel
theorem dX6_nobodyLearns_60 : decode cX6_nobodyLearns 60 = .ok (.invokevirtual 184, 3) := by decide +kernel
theorem dX6_nobodyLearns_63 : decode cX6_nobodyLearns 63 = .ok (.aload_n 0, 1) := by decide +kernel
theorem dX6_nobodyLearns_64 : decode cX6_nobodyLearns 64 = .ok (.invokevirtual 188, 3) := by decide +kernel
theorem dX6_nobodyLearns_67 : decode cX6_nobodyLearns 67 = .ok (.iload_n 3, 1) := by decide +kernel
theorem dX6_nobodyLearns_68 : decode cX6_nobodyLearns 68 = .ok (.if_icmp .gt 7, 3) := by decide +kernel
theorem dX6_nobodyLearns_71 : decode cX6_nobodyLearns 71 = .ok (.iconst 1, 1) := by decide +kernel
theorem dX6_nobodyLearns_72 : decode cX6_nobodyLearns 72 = .ok (.goto 4, 3) := by decide +kernel
theorem dX6_nobodyLearns_75 : decode cX6_nobodyLearns 75 = .ok (.iconst 0, 1) := by decide +kernel
theorem dX6_nobodyLearns_76 : decode cX6_nobodyLearns 76 = .ok (.istore 4, 2) := by decide +kernel
theorem dX6_nobodyLearns_78 : decode cX6_nobodyLearns 78 = .ok (.aload_n 0, 1) := by decide +kernel
theorem dX6_nobodyLearns_79 : decode cX6_nobodyLearns 79 = .ok (.getfield 16, 3) := by decide +kernel
theorem dX6_nobodyLearns_82 : decode cX6_nobodyLearns 82 = .ok (.aload_n 0, 1) := by decide +kernel
theorem dX6_nobodyLearns_83 : decode cX6_nobodyLearns 83 = .ok (.getfield 9, 3) := by decide +kernel
theorem dX6_nobodyLearns_86 : decode cX6_nobodyLearns 86 = .ok (.invokestatic 61, 3) := by decide +kernel
theorem dX6_nobodyLearns_89 : decode cX6_nobodyLearns 89 = .ok (.iload 4, 2) := by decide +kernel
theorem dX6_nobodyLearns_91 : decode cX6_nobodyLearns 91 = .ok (.ireturn, 1) := by decide +kernel
theorem dX6_hush_0 : decode cX6_hush 0 = .ok (.iload_n 1, 1) := by decide +kernel
theorem dX6_hush_1 : decode cX6_hush 1 = .ok (.iconst 0, 1) := by decide +kernel
theorem dX6_hush_2 : decode cX6_hush 2 = .ok (.bipush 20, 2) := by decide +kernel
theorem dX6_hush_4 : decode cX6_hush 4 = .ok (.invokestatic 70, 3) := by decide +kernel
theorem dX6_hush_7 : decode cX6_hush 7 = .ok (.ifCond .ne 10, 3) := by decide +kernel
theorem dX6_hush_10 : decode cX6_hush 10 = .ok (.aload_n 0, 1) := by decide +kernel
theorem dX6_hush_11 : decode cX6_hush 11 = .ok (.ldc 60, 2) := by decide +kernel
theorem dX6_hush_13 : decode cX6_hush 13 = .ok (.invokevirtual 66, 3) := by decide +kernel
theorem dX6_hush_16 : decode cX6_hush 16 = .ok (.ireturn, 1) := by decide +kernel
theorem dX6_hush_17 : decode cX6_hush 17 = .ok (.iconst (-1), 1) := by decide +kernel
theorem dX6_hush_18 : decode cX6_hush 18 = .ok (.istore_n 2, 1) := by decide +kernel
theorem dX6_hush_19 : decode cX6_hush 19 = .ok (.iconst 1, 1) := by decide +kernel
theorem dX6_hush_20 : decode cX6_hush 20 = .ok (.aload_n 0, 1) := by decide +kernel
theorem dX6_hush_21 : decode cX6_hush 21 = .ok (.getfield 9, 3) := by decide +kernel
theorem dX6_hush_24 : decode cX6_hush 24 = .ok (.iconst 1, 1) := by decide +kernel
theorem dX6_hush_25 : decode cX6_hush 25 = .ok (.iaload, 1) := by decide +kernel
theorem dX6_hush_26 : decode cX6_hush 26 = .ok (.ishl, 1) := by decide +kernel
theorem dX6_hush_27 : decode cX6_hush 27 = .ok (.iconst 1, 1) := by decide +kernel
theorem dX6_hush_28 : decode cX6_hush 28 = .ok (.isub, 1) := by decide +kernel
theorem dX6_hush_29 : decode cX6_hush 29 = .ok (.istore_n 3, 1) := by decide +kernel
theorem dX6_hush_30 : decode cX6_hush 30 = .ok (.iload_n 3, 1) := by decide +kernel
theorem dX6_hush_31 : decode cX6_hush 31 = .ok (.ifCond .lt 39, 3) := by decide +kernel
theorem dX6_hush_34 : decode cX6_hush 34 = .ok (.iload_n 2, 1) := by decide +kernel
theorem dX6_hush_35 : decode cX6_hush 35 = .ok (.ifCond .lt 14, 3) := by decide +kernel
theorem dX6_hush_38 : decode cX6_hush 38 = .ok (.iload_n 3, 1) := by decide +kernel
theorem dX6_hush_39 : decode cX6_hush 39 = .ok (.invokestatic 180, 3) := by decide +kernel
theorem dX6_hush_42 : decode cX6_hush 42 = .ok (.iload_n 2, 1) := by decide +kernel
theorem dX6_hush_43 : decode cX6_hush 43 = .ok (.invokestatic 180, 3) := by decide +kernel
theorem dX6_hush_46 : decode cX6_hush 46 = .ok (.if_icmp .gt 16, 3) := by decide +kernel
theorem dX6_hush_49 : decode cX6_hush 49 = .ok (.aload_n 0, 1) := by decide +kernel
theorem dX6_hush_50 : decode cX6_hush 50 = .ok (.iload_n 3, 1) := by decide +kernel
theorem dX6_hush_51 : decode cX6_hush 51 = .ok (.iload_n 1, 1) := by decide +kernel
theorem dX6_hush_52 : decode cX6_hush 52 = .ok (.invokevirtual 228, 3) := by decide +kernel
theorem dX6_hush_55 : decode cX6_hush 55 = .ok (.ifCond .eq 7, 3) := by decide +kernel
theorem dX6_hush_58 : decode cX6_hush 58 = .ok (.iload_n 3, 1) := by decide +kernel
theorem dX6_hush_59 : decode cX6_hush 59 = .ok (.goto 4, 3) := by decide +kernel
theorem dX6_hush_62 : decode cX6_hush 62 = .ok (.iload_n 2, 1) := by decide +kernel
theorem dX6_hush_63 : decode cX6_hush 63 = .ok (.istore_n 2, 1) := by decide +kernel
theorem dX6_hush_64 : decode cX6_hush 64 = .ok (.iinc 3 (-1), 3) := by decide +kernel
theorem dX6_hush_67 : decode cX6_hush 67 = .ok (.goto (-37), 3) := by decide +kernel
theorem dX6_hush_70 : decode cX6_hush 70 = .ok (.aload_n 0, 1) := by decide +kernel
theorem dX6_hush_71 : decode cX6_hush 71 = .ok (.iload_n 2, 1) := by decide +kernel
theorem dX6_hush_72 : decode cX6_hush 72 = .ok (.invokevirtual 219, 3) := by decide +kernel
theorem dX6_hush_75 : decode cX6_hush 75 = .ok (.ireturn, 1) := by decide +kernel
theorem dX6_lacks_0 : decode cX6_lacks 0 = .ok (.iload_n 1, 1) := by decide +kernel
theorem dX6_lacks_1 : decode cX6_lacks 1 = .ok (.invokestatic 231, 3) := by decide +kernel
theorem dX6_lacks_4 : decode cX6_lacks 4 = .ok (.ifCond .ne 8, 3) := by decide +kernel
theorem dX6_lacks_7 : decode cX6_lacks 7 = .ok (.ldc 60, 2) := by decide +kernel
theorem dX6_lacks_9 : decode cX6_lacks 9 = .ok (.goto 27, 3) := by decide +kernel
theorem dX6_lacks_12 : decode cX6_lacks 12 = .ok (.aload_n 0, 1) := by decide +kernel
theorem dX6_lacks_13 : decode cX6_lacks 13 = .ok (.getfield 48, 3) := by decide +kernel
theorem dX6_lacks_16 : decode cX6_lacks 16 = .ok (.iload_n 1, 1) := by decide +kernel
theorem dX6_lacks_17 : decode cX6_lacks 17 = .ok (.iaload, 1) := by decide +kernel
theorem dX6_lacks_18 : decode cX6_lacks 18 = .ok (.ifCond .ne 8, 3) := by decide +kernel
theorem dX6_lacks_21 : decode cX6_lacks 21 = .ok (.ldc 234, 2) := by decide +kernel
theorem dX6_lacks_23 : decode cX6_lacks 23 = .ok (.goto 13, 3) := by decide +kernel
theorem dX6_lacks_26 : decode cX6_lacks 26 = .ok (.iload_n 2, 1) := by decide +kernel
theorem dX6_lacks_27 : decode cX6_lacks 27 = .ok (.ifCond .eq 7, 3) := by decide +kernel
theorem dX6_lacks_30 : decode cX6_lacks 30 = .ok (.iconst 0, 1) := by decide +kernel
theorem dX6_lacks_31 : decode cX6_lacks 31 = .ok (.goto 5, 3) := by decide +kernel
theorem dX6_lacks_34 : decode cX6_lacks 34 = .ok (.ldc 60, 2) := by decide +kernel
theorem dX6_lacks_36 : decode cX6_lacks 36 = .ok (.ireturn, 1) := by decide +kernel
theorem dX6_isSo_0 : decode cX6_isSo 0 = .ok (.aload_n 0, 1) := by decide +kernel
theorem dX6_isSo_1 : decode cX6_isSo 1 = .ok (.getfield 9, 3) := by decide +kernel
theorem dX6_isSo_4 : decode cX6_isSo 4 = .ok (.aload_n 0, 1) := by decide +kernel
theorem dX6_isSo_5 : decode cX6_isSo 5 = .ok (.getfield 16, 3) := by decide +kernel
theorem dX6_isSo_8 : decode cX6_isSo 8 = .ok (.invokestatic 61, 3) := by decide +kernel
theorem dX6_isSo_11 : decode cX6_isSo 11 = .ok (.iconst 1, 1) := by decide +kernel
theorem dX6_isSo_12 : decode cX6_isSo 12 = .ok (.istore_n 3, 1) := by decide +kernel
theorem dX6_isSo_13 : decode cX6_isSo 13 = .ok (.iconst 0, 1) := by decide +kernel
theorem dX6_isSo_14 : decode cX6_isSo 14 = .ok (.istore 4, 2) := by decide +kernel
theorem dX6_isSo_16 : decode cX6_isSo 16 = .ok (.iload 4, 2) := by decide +kernel
theorem dX6_isSo_18 : decode cX6_isSo 18 = .ok (.aload_n 0, 1) := by decide +kernel
theorem dX6_isSo_19 : decode cX6_isSo 19 = .ok (.getfield 51, 3) := by decide +kernel
theorem dX6_isSo_22 : decode cX6_isSo 22 = .ok (.iload_n 1, 1) := by decide +kernel
theorem dX6_isSo_23 : decode cX6_isSo 23 = .ok (.iaload, 1) := by decide +kernel
theorem dX6_isSo_24 : decode cX6_isSo 24 = .ok (.if_icmp .ge 54, 3) := by decide +kernel
theorem dX6_isSo_27 : decode cX6_isSo 27 = .ok (.iload_n 3, 1) := by decide +kernel
theorem dX6_isSo_28 : decode cX6_isSo 28 = .ok (.ifCond .eq 50, 3) := by decide +kernel
theorem dX6_isSo_31 : decode cX6_isSo 31 = .ok (.aload_n 0, 1) := by decide +kernel
theorem dX6_isSo_32 : decode cX6_isSo 32 = .ok (.getfield 54, 3) := by decide +kernel
theorem dX6_isSo_35 : decode cX6_isSo 35 = .ok (.bipush 40, 2) := by decide +kernel
theorem dX6_isSo_37 : decode cX6_isSo 37 = .ok (.iload_n 1, 1) := by decide +kernel
theorem dX6_isSo_38 : decode cX6_isSo 38 = .ok (.imul, 1) := by decide +kernel
theorem dX6_isSo_39 : decode cX6_isSo 39 = .ok (.iload 4, 2) := by decide +kernel
theorem dX6_isSo_41 : decode cX6_isSo 41 = .ok (.iadd, 1) := by decide +kernel
theorem dX6_isSo_42 : decode cX6_isSo 42 = .ok (.iaload, 1) := by decide +kernel
theorem dX6_isSo_43 : decode cX6_isSo 43 = .ok (.istore 5, 2) := by decide +kernel
theorem dX6_isSo_45 : decode cX6_isSo 45 = .ok (.iload 5, 2) := by decide +kernel
theorem dX6_isSo_47 : decode cX6_isSo 47 = .ok (.iconst (-1), 1) := by decide +kernel
theorem dX6_isSo_48 : decode cX6_isSo 48 = .ok (.if_icmp .eq 14, 3) := by decide +kernel
theorem dX6_isSo_51 : decode cX6_isSo 51 = .ok (.iload 5, 2) := by decide +kernel
theorem dX6_isSo_53 : decode cX6_isSo 53 = .ok (.aload_n 0, 1) := by decide +kernel
theorem dX6_isSo_54 : decode cX6_isSo 54 = .ok (.getfield 9, 3) := by decide +kernel
theorem dX6_isSo_57 : decode cX6_isSo 57 = .ok (.iload_n 2, 1) := by decide +kernel
theorem dX6_isSo_58 : decode cX6_isSo 58 = .ok (.iaload, 1) := by decide +kernel
theorem dX6_isSo_59 : decode cX6_isSo 59 = .ok (.if_icmp .ne 7, 3) := by decide +kernel
theorem dX6_isSo_62 : decode cX6_isSo 62 = .ok (.iconst 1, 1) := by decide +kernel
theorem dX6_isSo_63 : decode cX6_isSo 63 = .ok (.goto 4, 3) := by decide +kernel
theorem dX6_isSo_66 : decode cX6_isSo 66 = .ok (.iconst 0, 1) := by decide +kernel
theorem dX6_isSo_67 : decode cX6_isSo 67 = .ok (.istore_n 3, 1) := by decide +kernel
theorem dX6_isSo_68 : decode cX6_isSo 68 = .ok (.aload_n 0, 1) := by decide +kernel
theorem dX6_isSo_69 : decode cX6_isSo 69 = .ok (.invokevirtual 177, 3) := by decide +kernel
theorem dX6_isSo_72 : decode cX6_isSo 72 = .ok (.iinc 4 1, 3) := by decide +kernel
theorem dX6_isSo_75 : decode cX6_isSo 75 = .ok (.goto (-59), 3) := by decide +kernel
theorem dX6_isSo_78 : decode cX6_isSo 78 = .ok (.aload_n 0, 1) := by decide +kernel
theorem dX6_isSo_79 : decode cX6_isSo 79 = .ok (.getfield 16, 3) := by decide +kernel
theorem dX6_isSo_82 : decode cX6_isSo 82 = .ok (.aload_n 0, 1) := by decide +kernel
theorem dX6_isSo_83 : decode cX6_isSo 83 = .ok (.getfield 9, 3) := by decide +kernel
theorem dX6_isSo_86 : decode cX6_isSo 86 = .ok (.invokestatic 61, 3) := by decide +kernel
theorem dX6_isSo_89 : decode cX6_isSo 89 = .ok (.iload_n 3, 1) := by decide +kernel
theorem dX6_isSo_90 : decode cX6_isSo 90 = .ok (.ireturn, 1) := by decide +kernel
theorem dX6_fitting_0 : decode cX6_fitting 0 = .ok (.aload_n 0, 1) := by decide +kernel
theorem dX6_fitting_1 : decode cX6_fitting 1 = .ok (.getfield 9, 3) := by decide +kernel
theorem dX6_fitting_4 : decode cX6_fitting 4 = .ok (.iload_n 3, 1) := by decide +kernel
theorem dX6_fitting_5 : decode cX6_fitting 5 = .ok (.iaload, 1) := by decide +kernel
theorem dX6_fitting_6 : decode cX6_fitting 6 = .ok (.istore 5, 2) := by decide +kernel
theorem dX6_fitting_8 : decode cX6_fitting 8 = .ok (.iconst 0, 1) := by decide +kernel
theorem dX6_fitting_9 : decode cX6_fitting 9 = .ok (.istore 6, 2) := by decide +kernel
theorem dX6_fitting_11 : decode cX6_fitting 11 = .ok (.iconst 0, 1) := by decide +kernel
theorem dX6_fitting_12 : decode cX6_fitting 12 = .ok (.istore 7, 2) := by decide +kernel
theorem dX6_fitting_14 : decode cX6_fitting 14 = .ok (.iload 7, 2) := by decide +kernel
theorem dX6_fitting_16 : decode cX6_fitting 16 = .ok (.iload 4, 2) := by decide +kernel
theorem dX6_fitting_18 : decode cX6_fitting 18 = .ok (.if_icmp .ge 39, 3) := by decide +kernel
theorem dX6_fitting_21 : decode cX6_fitting 21 = .ok (.aload_n 0, 1) := by decide +kernel
theorem dX6_fitting_22 : decode cX6_fitting 22 = .ok (.getfield 9, 3) := by decide +kernel
theorem dX6_fitting_25 : decode cX6_fitting 25 = .ok (.iload_n 3, 1) := by decide +kernel
theorem dX6_fitting_26 : decode cX6_fitting 26 = .ok (.iload 7, 2) := by decide +kernel
theorem dX6_fitting_28 : decode cX6_fitting 28 = .ok (.iastore, 1) := by decide +kernel
theorem dX6_fitting_29 : decode cX6_fitting 29 = .ok (.iload 6, 2) := by decide +kernel
theorem dX6_fitting_31 : decode cX6_fitting 31 = .ok (.aload_n 0, 1) := by decide +kernel
theorem dX6_fitting_32 : decode cX6_fitting 32 = .ok (.iload_n 1, 1) := by decide +kernel
theorem dX6_fitting_33 : decode cX6_fitting 33 = .ok (.iload_n 2, 1) := by decide +kernel
theorem dX6_fitting_34 : decode cX6_fitting 34 = .ok (.invokevirtual 235, 3) := by decide +kernel
theorem dX6_fitting_37 : decode cX6_fitting 37 = .ok (.ifCond .eq 10, 3) := by decide +kernel
theorem dX6_fitting_40 : decode cX6_fitting 40 = .ok (.iconst 1, 1) := by decide +kernel
theorem dX6_fitting_41 : decode cX6_fitting 41 = .ok (.iload 7, 2) := by decide +kernel
theorem dX6_fitting_43 : decode cX6_fitting 43 = .ok (.ishl, 1) := by decide +kernel
theorem dX6_fitting_44 : decode cX6_fitting 44 = .ok (.goto 4, 3) := by decide +kernel
theorem dX6_fitting_47 : decode cX6_fitting 47 = .ok (.iconst 0, 1) := by decide +kernel
theorem dX6_fitting_48 : decode cX6_fitting 48 = .ok (.ior, 1) := by decide +kernel
theorem dX6_fitting_49 : decode cX6_fitting 49 = .ok (.istore 6, 2) := by decide +kernel
theorem dX6_fitting_51 : decode cX6_fitting 51 = .ok (.iinc 7 1, 3) := by decide +kernel
theorem dX6_fitting_54 : decode cX6_fitting 54 = .ok (.goto (-40), 3) := by decide +kernel
theorem dX6_fitting_57 : decode cX6_fitting 57 = .ok (.aload_n 0, 1) := by decide +kernel
theorem dX6_fitting_58 : decode cX6_fitting 58 = .ok (.getfield 9, 3) := by decide +kernel
theorem dX6_fitting_61 : decode cX6_fitting 61 = .ok (.iload_n 3, 1) := by decide +kernel
theorem dX6_fitting_62 : decode cX6_fitting 62 = .ok (.iload 5, 2) := by decide +kernel
theorem dX6_fitting_64 : decode cX6_fitting 64 = .ok (.iastore, 1) := by decide +kernel
theorem dX6_fitting_65 : decode cX6_fitting 65 = .ok (.iload 6, 2) := by decide +kernel
theorem dX6_fitting_67 : decode cX6_fitting 67 = .ok (.ireturn, 1) := by decide +kernel
theorem dX6_fits_0 : decode cX6_fits 0 = .ok (.aload_n 0, 1) := by decide +kernel
theorem dX6_fits_1 : decode cX6_fits 1 = .ok (.iload_n 1, 1) := by decide +kernel
theorem dX6_fits_2 : decode cX6_fits 2 = .ok (.aload_n 0, 1) := by decide +kernel
theorem dX6_fits_3 : decode cX6_fits 3 = .ok (.iload_n 2, 1) := by decide +kernel
theorem dX6_fits_4 : decode cX6_fits 4 = .ok (.invokevirtual 144, 3) := by decide +kernel
theorem dX6_fits_7 : decode cX6_fits 7 = .ok (.invokevirtual 238, 3) := by decide +kernel
theorem dX6_fits_10 : decode cX6_fits 10 = .ok (.istore_n 3, 1) := by decide +kernel
theorem dX6_fits_11 : decode cX6_fits 11 = .ok (.iload_n 3, 1) := by decide +kernel
theorem dX6_fits_12 : decode cX6_fits 12 = .ok (.ifCond .eq 11, 3) := by decide +kernel
theorem dX6_fits_15 : decode cX6_fits 15 = .ok (.aload_n 0, 1) := by decide +kernel
theorem dX6_fits_16 : decode cX6_fits 16 = .ok (.iload_n 3, 1) := by decide +kernel
theorem dX6_fits_17 : decode cX6_fits 17 = .ok (.invokevirtual 66, 3) := by decide +kernel
theorem dX6_fits_20 : decode cX6_fits 20 = .ok (.goto 23, 3) := by decide +kernel
theorem dX6_fits_23 : decode cX6_fits 23 = .ok (.aload_n 0, 1) := by decide +kernel
theorem dX6_fits_24 : decode cX6_fits 24 = .ok (.iload_n 1, 1) := by decide +kernel
theorem dX6_fits_25 : decode cX6_fits 25 = .ok (.iload_n 2, 1) := by decide +kernel
theorem dX6_fits_26 : decode cX6_fits 26 = .ok (.iconst 2, 1) := by decide +kernel
theorem dX6_fits_27 : decode cX6_fits 27 = .ok (.invokestatic 88, 3) := by decide +kernel
theorem dX6_fits_30 : decode cX6_fits 30 = .ok (.iload_n 2, 1) := by decide +kernel
theorem dX6_fits_31 : decode cX6_fits 31 = .ok (.iconst 1, 1) := by decide +kernel
theorem dX6_fits_32 : decode cX6_fits 32 = .ok (.invokestatic 88, 3) := by decide +kernel
theorem dX6_fits_35 : decode cX6_fits 35 = .ok (.bipush 10, 2) := by decide +kernel
theorem dX6_fits_37 : decode cX6_fits 37 = .ok (.invokevirtual 242, 3) := by decide +kernel
theorem dX6_fits_40 : decode cX6_fits 40 = .ok (.invokestatic 180, 3) := by decide +kernel
theorem dX6_fits_43 : decode cX6_fits 43 = .ok (.ireturn, 1) := by decide +kernel
theorem dX6_kinds_0 : decode cX6_kinds 0 = .ok (.aload_n 0, 1) := by decide +kernel
theorem dX6_kinds_1 : decode cX6_kinds 1 = .ok (.iload_n 1, 1) := by decide +kernel
theorem dX6_kinds_2 : decode cX6_kinds 2 = .ok (.aload_n 0, 1) := by decide +kernel
theorem dX6_kinds_3 : decode cX6_kinds 3 = .ok (.iload_n 2, 1) := by decide +kernel
theorem dX6_kinds_4 : decode cX6_kinds 4 = .ok (.invokevirtual 131, 3) := by decide +kernel
theorem dX6_kinds_7 : decode cX6_kinds 7 = .ok (.invokevirtual 238, 3) := by decide +kernel
theorem dX6_kinds_10 : decode cX6_kinds 10 = .ok (.istore_n 3, 1) := by decide +kernel
theorem dX6_kinds_11 : decode cX6_kinds 11 = .ok (.iload_n 3, 1) := by decide +kernel
theorem dX6_kinds_12 : decode cX6_kinds 12 = .ok (.ifCond .eq 11, 3) := by decide +kernel
theorem dX6_kinds_15 : decode cX6_kinds 15 = .ok (.aload_n 0, 1) := by decide +kernel
theorem dX6_kinds_16 : decode cX6_kinds 16 = .ok (.iload_n 3, 1) := by decide +kernel
theorem dX6_kinds_17 : decode cX6_kinds 17 = .ok (.invokevirtual 66, 3) := by decide +kernel
theorem dX6_kinds_20 : decode cX6_kinds 20 = .ok (.goto 20, 3) := by decide +kernel
theorem dX6_kinds_23 : decode cX6_kinds 23 = .ok (.aload_n 0, 1) := by decide +kernel
theorem dX6_kinds_24 : decode cX6_kinds 24 = .ok (.iload_n 1, 1) := by decide +kernel
theorem dX6_kinds_25 : decode cX6_kinds 25 = .ok (.iload_n 2, 1) := by decide +kernel
theorem dX6_kinds_26 : decode cX6_kinds 26 = .ok (.iconst 2, 1) := by decide +kernel
theorem dX6_kinds_27 : decode cX6_kinds 27 = .ok (.invokestatic 85, 3) := by decide +kernel
theorem dX6_kinds_30 : decode cX6_kinds 30 = .ok (.iload_n 2, 1) := by decide +kernel
theorem dX6_kinds_31 : decode cX6_kinds 31 = .ok (.iconst 0, 1) := by decide +kernel
theorem dX6_kinds_32 : decode cX6_kinds 32 = .ok (.invokestatic 85, 3) := by decide +kernel
theorem dX6_kinds_35 : decode cX6_kinds 35 = .ok (.bipush 7, 2) := by decide +kernel
theorem dX6_kinds_37 : decode cX6_kinds 37 = .ok (.invokevirtual 242, 3) := by decide +kernel
theorem dX6_kinds_40 : decode cX6_kinds 40 = .ok (.ireturn, 1) := by decide +kernel
theorem dX6_drawn_0 : decode cX6_drawn 0 = .ok (.aload_n 0, 1) := by decide +kernel
theorem dX6_drawn_1 : decode cX6_drawn 1 = .ok (.getfield 9, 3) := by decide +kernel
theorem dX6_drawn_4 : decode cX6_drawn 4 = .ok (.iconst 2, 1) := by decide +kernel
theorem dX6_drawn_5 : decode cX6_drawn 5 = .ok (.aload_n 0, 1) := by decide +kernel
theorem dX6_drawn_6 : decode cX6_drawn 6 = .ok (.getfield 9, 3) := by decide +kernel
theorem dX6_drawn_9 : decode cX6_drawn 9 = .ok (.iconst 2, 1) := by decide +kernel
theorem dX6_drawn_10 : decode cX6_drawn 10 = .ok (.iaload, 1) := by decide +kernel
theorem dX6_drawn_11 : decode cX6_drawn 11 = .ok (.ldc 246, 2) := by decide +kernel
theorem dX6_drawn_13 : decode cX6_drawn 13 = .ok (.imul, 1) := by decide +kernel
theorem dX6_drawn_14 : decode cX6_drawn 14 = .ok (.sipush 12345, 3) := by decide +kernel
theorem dX6_drawn_17 : decode cX6_drawn 17 = .ok (.iadd, 1) := by decide +kernel
theorem dX6_drawn_18 : decode cX6_drawn 18 = .ok (.iastore, 1) := by decide +kernel
theorem dX6_drawn_19 : decode cX6_drawn 19 = .ok (.aload_n 0, 1) := by decide +kernel
theorem dX6_drawn_20 : decode cX6_drawn 20 = .ok (.getfield 9, 3) := by decide +kernel
theorem dX6_drawn_23 : decode cX6_drawn 23 = .ok (.iconst 2, 1) := by decide +kernel
theorem dX6_drawn_24 : decode cX6_drawn 24 = .ok (.iaload, 1) := by decide +kernel
theorem dX6_drawn_25 : decode cX6_drawn 25 = .ok (.bipush 8, 2) := by decide +kernel
theorem dX6_drawn_27 : decode cX6_drawn 27 = .ok (.iushr, 1) := by decide +kernel
theorem dX6_drawn_28 : decode cX6_drawn 28 = .ok (.ireturn, 1) := by decide +kernel
theorem dX6_autumn_0 : decode cX6_autumn 0 = .ok (.iload_n 1, 1) := by decide +kernel
theorem dX6_autumn_1 : decode cX6_autumn 1 = .ok (.iconst 1, 1) := by decide +kernel
theorem dX6_autumn_2 : decode cX6_autumn 2 = .ok (.bipush 20, 2) := by decide +kernel
theorem dX6_autumn_4 : decode cX6_autumn 4 = .ok (.invokestatic 70, 3) := by decide +kernel
theorem dX6_autumn_7 : decode cX6_autumn 7 = .ok (.ifCond .ne 10, 3) := by decide +kernel
theorem dX6_autumn_10 : decode cX6_autumn 10 = .ok (.aload_n 0, 1) := by decide +kernel
theorem dX6_autumn_11 : decode cX6_autumn 11 = .ok (.ldc 60, 2) := by decide +kernel
theorem dX6_autumn_13 : decode cX6_autumn 13 = .ok (.invokevirtual 66, 3) := by decide +kernel
theorem dX6_autumn_16 : decode cX6_autumn 16 = .ok (.ireturn, 1) := by decide +kernel
theorem dX6_autumn_17 : decode cX6_autumn 17 = .ok (.aload_n 0, 1) := by decide +kernel
theorem dX6_autumn_18 : decode cX6_autumn 18 = .ok (.getfield 9, 3) := by decide +kernel
theorem dX6_autumn_21 : decode cX6_autumn 21 = .ok (.iconst 0, 1) := by decide +kernel
theorem dX6_autumn_22 : decode cX6_autumn 22 = .ok (.iaload, 1) := by decide +kernel
theorem dX6_autumn_23 : decode cX6_autumn 23 = .ok (.iload_n 1, 1) := by decide +kernel
theorem dX6_autumn_24 : decode cX6_autumn 24 = .ok (.iadd, 1) := by decide +kernel
theorem dX6_autumn_25 : decode cX6_autumn 25 = .ok (.ldc 176, 2) := by decide +kernel
theorem dX6_autumn_27 : decode cX6_autumn 27 = .ok (.if_icmp .le 10, 3) := by decide +kernel
theorem dX6_autumn_30 : decode cX6_autumn 30 = .ok (.aload_n 0, 1) := by decide +kernel
theorem dX6_autumn_31 : decode cX6_autumn 31 = .ok (.ldc 183, 2) := by decide +kernel
theorem dX6_autumn_33 : decode cX6_autumn 33 = .ok (.invokevirtual 66, 3) := by decide +kernel
theorem dX6_autumn_36 : decode cX6_autumn 36 = .ok (.ireturn, 1) := by decide +kernel
theorem dX6_autumn_37 : decode cX6_autumn 37 = .ok (.iconst 0, 1) := by decide +kernel
theorem dX6_autumn_38 : decode cX6_autumn 38 = .ok (.istore_n 2, 1) := by decide +kernel
theorem dX6_autumn_39 : decode cX6_autumn 39 = .ok (.iload_n 2, 1) := by decide +kernel
theorem dX6_autumn_40 : decode cX6_autumn 40 = .ok (.iload_n 1, 1) := by decide +kernel
theorem dX6_autumn_41 : decode cX6_autumn 41 = .ok (.if_icmp .ge 72, 3) := by decide +kernel
theorem dX6_autumn_44 : decode cX6_autumn 44 = .ok (.aload_n 0, 1) := by decide +kernel
theorem dX6_autumn_45 : decode cX6_autumn 45 = .ok (.invokevirtual 247, 3) := by decide +kernel
theorem dX6_autumn_48 : decode cX6_autumn 48 = .ok (.bipush 10, 2) := by decide +kernel
theorem dX6_autumn_50 : decode cX6_autumn 50 = .ok (.irem, 1) := by decide +kernel
theorem dX6_autumn_51 : decode cX6_autumn 51 = .ok (.istore_n 3, 1) := by decide +kernel
theorem dX6_autumn_52 : decode cX6_autumn 52 = .ok (.aload_n 0, 1) := by decide +kernel
theorem dX6_autumn_53 : decode cX6_autumn 53 = .ok (.getfield 9, 3) := by decide +kernel
theorem dX6_autumn_56 : decode cX6_autumn 56 = .ok (.aload_n 0, 1) := by decide +kernel
theorem dX6_autumn_57 : decode cX6_autumn 57 = .ok (.invokevirtual 115, 3) := by decide +kernel
theorem dX6_autumn_60 : decode cX6_autumn 60 = .ok (.iload_n 3, 1) := by decide +kernel
theorem dX6_autumn_61 : decode cX6_autumn 61 = .ok (.iastore, 1) := by decide +kernel
theorem dX6_autumn_62 : decode cX6_autumn 62 = .ok (.aload_n 0, 1) := by decide +kernel
theorem dX6_autumn_63 : decode cX6_autumn 63 = .ok (.invokevirtual 247, 3) := by decide +kernel
theorem dX6_autumn_66 : decode cX6_autumn 66 = .ok (.bipush 8, 2) := by decide +kernel
theorem dX6_autumn_68 : decode cX6_autumn 68 = .ok (.irem, 1) := by decide +kernel
theorem dX6_autumn_69 : decode cX6_autumn 69 = .ok (.istore 4, 2) := by decide +kernel
theorem dX6_autumn_71 : decode cX6_autumn 71 = .ok (.aload_n 0, 1) := by decide +kernel
theorem dX6_autumn_72 : decode cX6_autumn 72 = .ok (.iload 4, 2) := by decide +kernel
theorem dX6_autumn_74 : decode cX6_autumn 74 = .ok (.invokevirtual 144, 3) := by decide +kernel
theorem dX6_autumn_77 : decode cX6_autumn 77 = .ok (.ifCond .eq 26, 3) := by decide +kernel
theorem dX6_autumn_80 : decode cX6_autumn 80 = .ok (.aload_n 0, 1) := by decide +kernel
theorem dX6_autumn_81 : decode cX6_autumn 81 = .ok (.getfield 9, 3) := by decide +kernel
theorem dX6_autumn_84 : decode cX6_autumn 84 = .ok (.iload 4, 2) := by decide +kernel
theorem dX6_autumn_86 : decode cX6_autumn 86 = .ok (.iconst 0, 1) := by decide +kernel
theorem dX6_autumn_87 : decode cX6_autumn 87 = .ok (.invokestatic 88, 3) := by decide +kernel
theorem dX6_autumn_90 : decode cX6_autumn 90 = .ok (.aload_n 0, 1) := by decide +kernel
theorem dX6_autumn_91 : decode cX6_autumn 91 = .ok (.iload 4, 2) := by decide +kernel
theorem dX6_autumn_93 : decode cX6_autumn 93 = .ok (.iconst 0, 1) := by decide +kernel
theorem dX6_autumn_94 : decode cX6_autumn 94 = .ok (.invokevirtual 147, 3) := by decide +kernel
theorem dX6_autumn_97 : decode cX6_autumn 97 = .ok (.iconst 1, 1) := by decide +kernel
theorem dX6_autumn_98 : decode cX6_autumn 98 = .ok (.iadd, 1) := by decide +kernel
theorem dX6_autumn_99 : decode cX6_autumn 99 = .ok (.bipush 16, 2) := by decide +kernel
theorem dX6_autumn_101 : decode cX6_autumn 101 = .ok (.irem, 1) := by decide +kernel
theorem dX6_autumn_102 : decode cX6_autumn 102 = .ok (.iastore, 1) := by decide +kernel
theorem dX6_autumn_103 : decode cX6_autumn 103 = .ok (.aload_n 0, 1) := by decide +kernel
theorem dX6_autumn_104 : decode cX6_autumn 104 = .ok (.invokevirtual 177, 3) := by decide +kernel
theorem dX6_autumn_107 : decode cX6_autumn 107 = .ok (.iinc 2 1, 3) := by decide +kernel
theorem dX6_autumn_110 : decode cX6_autumn 110 = .ok (.goto (-71), 3) := by decide +kernel
theorem dX6_autumn_113 : decode cX6_autumn 113 = .ok (.aload_n 0, 1) := by decide +kernel
theorem dX6_autumn_114 : decode cX6_autumn 114 = .ok (.invokevirtual 188, 3) := by decide +kernel
theorem dX6_autumn_117 : decode cX6_autumn 117 = .ok (.ireturn, 1) := by decide +kernel
theorem dX6_odds_0 : decode cX6_odds 0 = .ok (.aload_n 0, 1) := by decide +kernel
theorem dX6_odds_1 : decode cX6_odds 1 = .ok (.iload_n 1, 1) := by decide +kernel
theorem dX6_odds_2 : decode cX6_odds 2 = .ok (.invokevirtual 144, 3) := by decide +kernel
theorem dX6_odds_5 : decode cX6_odds 5 = .ok (.ifCond .eq 31, 3) := by decide +kernel
theorem dX6_odds_8 : decode cX6_odds 8 = .ok (.aload_n 0, 1) := by decide +kernel
theorem dX6_odds_9 : decode cX6_odds 9 = .ok (.iload_n 2, 1) := by decide +kernel
theorem dX6_odds_10 : decode cX6_odds 10 = .ok (.invokevirtual 131, 3) := by decide +kernel
theorem dX6_odds_13 : decode cX6_odds 13 = .ok (.ifCond .eq 23, 3) := by decide +kernel
theorem dX6_odds_16 : decode cX6_odds 16 = .ok (.iload_n 3, 1) := by decide +kernel
theorem dX6_odds_17 : decode cX6_odds 17 = .ok (.iconst 0, 1) := by decide +kernel
theorem dX6_odds_18 : decode cX6_odds 18 = .ok (.bipush 17, 2) := by decide +kernel
theorem dX6_odds_20 : decode cX6_odds 20 = .ok (.invokestatic 70, 3) := by decide +kernel
theorem dX6_odds_23 : decode cX6_odds 23 = .ok (.ifCond .eq 13, 3) := by decide +kernel
theorem dX6_odds_26 : decode cX6_odds 26 = .ok (.iload 4, 2) := by decide +kernel
theorem dX6_odds_28 : decode cX6_odds 28 = .ok (.iconst 0, 1) := by decide +kernel
theorem dX6_odds_29 : decode cX6_odds 29 = .ok (.iconst 1, 1) := by decide +kernel
theorem dX6_odds_30 : decode cX6_odds 30 = .ok (.invokestatic 70, 3) := by decide +kernel
theorem dX6_odds_33 : decode cX6_odds 33 = .ok (.ifCond .ne 11, 3) := by decide +kernel
theorem dX6_odds_36 : decode cX6_odds 36 = .ok (.aload_n 0, 1) := by decide +kernel
theorem dX6_odds_37 : decode cX6_odds 37 = .ok (.ldc 60, 2) := by decide +kernel
theorem dX6_odds_39 : decode cX6_odds 39 = .ok (.invokevirtual 66, 3) := by decide +kernel
theorem dX6_odds_42 : decode cX6_odds 42 = .ok (.i2l, 1) := by decide +kernel
theorem dX6_odds_43 : decode cX6_odds 43 = .ok (.lreturn, 1) := by decide +kernel
theorem dX6_odds_44 : decode cX6_odds 44 = .ok (.iconst 0, 1) := by decide +kernel
theorem dX6_odds_45 : decode cX6_odds 45 = .ok (.istore 5, 2) := by decide +kernel
theorem dX6_odds_47 : decode cX6_odds 47 = .ok (.iconst 1, 1) := by decide +kernel
theorem dX6_odds_48 : decode cX6_odds 48 = .ok (.istore 6, 2) := by decide +kernel
theorem dX6_odds_50 : decode cX6_odds 50 = .ok (.iload 6, 2) := by decide +kernel
theorem dX6_odds_52 : decode cX6_odds 52 = .ok (.bipush 9, 2) := by decide +kernel
theorem dX6_odds_54 : decode cX6_odds 54 = .ok (.if_icmp .gt 30, 3) := by decide +kernel
theorem dX6_odds_57 : decode cX6_odds 57 = .ok (.iload 5, 2) := by decide +kernel
theorem dX6_odds_59 : decode cX6_odds 59 = .ok (.aload_n 0, 1) := by decide +kernel
theorem dX6_odds_60 : decode cX6_odds 60 = .ok (.iload_n 1, 1) := by decide +kernel
theorem dX6_odds_61 : decode cX6_odds 61 = .ok (.iload_n 2, 1) := by decide +kernel
theorem dX6_odds_62 : decode cX6_odds 62 = .ok (.iload 6, 2) := by decide +kernel
theorem dX6_odds_64 : decode cX6_odds 64 = .ok (.invokevirtual 159, 3) := by decide +kernel
theorem dX6_odds_67 : decode cX6_odds 67 = .ok (.ifCond .eq 7, 3) := by decide +kernel
theorem dX6_odds_70 : decode cX6_odds 70 = .ok (.iconst 1, 1) := by decide +kernel
theorem dX6_odds_71 : decode cX6_odds 71 = .ok (.goto 4, 3) := by decide +kernel
theorem dX6_odds_74 : decode cX6_odds 74 = .ok (.iconst 0, 1) := by decide +kernel
theorem dX6_odds_75 : decode cX6_odds 75 = .ok (.iadd, 1) := by decide +kernel
theorem dX6_odds_76 : decode cX6_odds 76 = .ok (.istore 5, 2) := by decide +kernel
theorem dX6_odds_78 : decode cX6_odds 78 = .ok (.iinc 6 1, 3) := by decide +kernel
theorem dX6_odds_81 : decode cX6_odds 81 = .ok (.goto (-31), 3) := by decide +kernel
theorem dX6_odds_84 : decode cX6_odds 84 = .ok (.bipush 10, 2) := by decide +kernel
theorem dX6_odds_86 : decode cX6_odds 86 = .ok (.istore 6, 2) := by decide +kernel
theorem dX6_odds_88 : decode cX6_odds 88 = .ok (.iload 5, 2) := by decide +kernel
theorem dX6_odds_90 : decode cX6_odds 90 = .ok (.istore 7, 2) := by decide +kernel
theorem dX6_odds_92 : decode cX6_odds 92 = .ok (.iload 7, 2) := by decide +kernel
theorem dX6_odds_94 : decode cX6_odds 94 = .ok (.ifCond .eq 21, 3) := by decide +kernel
theorem dX6_odds_97 : decode cX6_odds 97 = .ok (.iload 6, 2) := by decide +kernel
theorem dX6_odds_99 : decode cX6_odds 99 = .ok (.iload 7, 2) := by decide +kernel
theorem dX6_odds_101 : decode cX6_odds 101 = .ok (.irem, 1) := by decide +kernel
theorem dX6_odds_102 : decode cX6_odds 102 = .ok (.istore 8, 2) := by decide +kernel
theorem dX6_odds_104 : decode cX6_odds 104 = .ok (.iload 7, 2) := by decide +kernel
theorem dX6_odds_106 : decode cX6_odds 106 = .ok (.istore 6, 2) := by decide +kernel
theorem dX6_odds_108 : decode cX6_odds 108 = .ok (.iload 8, 2) := by decide +kernel
theorem dX6_odds_110 : decode cX6_odds 110 = .ok (.istore 7, 2) := by decide +kernel
theorem dX6_odds_112 : decode cX6_odds 112 = .ok (.goto (-20), 3) := by decide +kernel
theorem dX6_odds_115 : decode cX6_odds 115 = .ok (.lconst 1, 1) := by decide +kernel
theorem dX6_odds_116 : decode cX6_odds 116 = .ok (.lstore 8, 2) := by decide +kernel
theorem dX6_odds_118 : decode cX6_odds 118 = .ok (.iconst 0, 1) := by decide +kernel
theorem dX6_odds_119 : decode cX6_odds 119 = .ok (.istore 10, 2) := by decide +kernel
theorem dX6_odds_121 : decode cX6_odds 121 = .ok (.iload 10, 2) := by decide +kernel
theorem dX6_odds_123 : decode cX6_odds 123 = .ok (.iload_n 3, 1) := by decide +kernel
theorem dX6_odds_124 : decode cX6_odds 124 = .ok (.if_icmp .ge 30, 3) := by decide +kernel
theorem dX6_odds_127 : decode cX6_odds 127 = .ok (.lload 8, 2) := by decide +kernel
theorem dX6_odds_129 : decode cX6_odds 129 = .ok (.iload 4, 2) := by decide +kernel
theorem dX6_odds_131 : decode cX6_odds 131 = .ok (.ifCond .ne 8, 3) := by decide +kernel
theorem dX6_odds_134 : decode cX6_odds 134 = .ok (.iload 5, 2) := by decide +kernel
theorem dX6_odds_136 : decode cX6_odds 136 = .ok (.goto 5, 3) := by decide +kernel
theorem dX6_odds_139 : decode cX6_odds 139 = .ok (.bipush 10, 2) := by decide +kernel
theorem dX6_odds_141 : decode cX6_odds 141 = .ok (.iload 6, 2) := by decide +kernel
theorem dX6_odds_143 : decode cX6_odds 143 = .ok (.idiv, 1) := by decide +kernel
theorem dX6_odds_144 : decode cX6_odds 144 = .ok (.i2l, 1) := by decide +kernel
theorem dX6_odds_145 : decode cX6_odds 145 = .ok (.lmul, 1) := by decide +kernel
theorem dX6_odds_146 : decode cX6_odds 146 = .ok (.lstore 8, 2) := by decide +kernel
theorem dX6_odds_148 : decode cX6_odds 148 = .ok (.iinc 10 1, 3) := by decide +kernel
theorem dX6_odds_151 : decode cX6_odds 151 = .ok (.goto (-30), 3) := by decide +kernel
theorem dX6_odds_154 : decode cX6_odds 154 = .ok (.lload 8, 2) := by decide +kernel
theorem dX6_odds_156 : decode cX6_odds 156 = .ok (.lreturn, 1) := by decide +kernel
theorem dX6_seed_0 : decode cX6_seed 0 = .ok (.aload_n 0, 1) := by decide +kernel
theorem dX6_seed_1 : decode cX6_seed 1 = .ok (.iconst 2, 1) := by decide +kernel
theorem dX6_seed_2 : decode cX6_seed 2 = .ok (.iload_n 1, 1) := by decide +kernel
theorem dX6_seed_3 : decode cX6_seed 3 = .ok (.invokevirtual 81, 3) := by decide +kernel
theorem dX6_seed_6 : decode cX6_seed 6 = .ok (.ireturn, 1) := by decide +kernel
theorem dX6_feed_0 : decode cX6_feed 0 = .ok (.iload_n 2, 1) := by decide +kernel
theorem dX6_feed_1 : decode cX6_feed 1 = .ok (.iconst 1, 1) := by decide +kernel
theorem dX6_feed_2 : decode cX6_feed 2 = .ok (.iconst 4, 1) := by decide +kernel
theorem dX6_feed_3 : decode cX6_feed 3 = .ok (.invokestatic 70, 3) := by decide +kernel
theorem dX6_feed_6 : decode cX6_feed 6 = .ok (.ifCond .ne 10, 3) := by decide +kernel
theorem dX6_feed_9 : decode cX6_feed 9 = .ok (.aload_n 0, 1) := by decide +kernel
theorem dX6_feed_10 : decode cX6_feed 10 = .ok (.ldc 60, 2) := by decide +kernel
theorem dX6_feed_12 : decode cX6_feed 12 = .ok (.invokevirtual 66, 3) := by decide +kernel
theorem dX6_feed_15 : decode cX6_feed 15 = .ok (.ireturn, 1) := by decide +kernel
theorem dX6_feed_16 : decode cX6_feed 16 = .ok (.aload_n 0, 1) := by decide +kernel
theorem dX6_feed_17 : decode cX6_feed 17 = .ok (.getfield 250, 3) := by decide +kernel
theorem dX6_feed_20 : decode cX6_feed 20 = .ok (.iload_n 2, 1) := by decide +kernel
theorem dX6_feed_21 : decode cX6_feed 21 = .ok (.iadd, 1) := by decide +kernel
theorem dX6_feed_22 : decode cX6_feed 22 = .ok (.bipush 120, 2) := by decide +kernel
theorem dX6_feed_24 : decode cX6_feed 24 = .ok (.if_icmp .le 10, 3) := by decide +kernel
theorem dX6_feed_27 : decode cX6_feed 27 = .ok (.aload_n 0, 1) := by decide +kernel
theorem dX6_feed_28 : decode cX6_feed 28 = .ok (.ldc 97, 2) := by decide +kernel
theorem dX6_feed_30 : decode cX6_feed 30 = .ok (.invokevirtual 66, 3) := by decide +kernel
theorem dX6_feed_33 : decode cX6_feed 33 = .ok (.ireturn, 1) := by decide +kernel
theorem dX6_feed_34 : decode cX6_feed 34 = .ok (.iload_n 2, 1) := by decide +kernel
theorem dX6_feed_35 : decode cX6_feed 35 = .ok (.iconst 1, 1) := by decide +kernel
theorem dX6_feed_36 : decode cX6_feed 36 = .ok (.isub, 1) := by decide +kernel
theorem dX6_feed_37 : decode cX6_feed 37 = .ok (.istore_n 3, 1) := by decide +kernel
theorem dX6_feed_38 : decode cX6_feed 38 = .ok (.iload_n 3, 1) := by decide +kernel
theorem dX6_feed_39 : decode cX6_feed 39 = .ok (.ifCond .lt 38, 3) := by decide +kernel
theorem dX6_feed_42 : decode cX6_feed 42 = .ok (.aload_n 0, 1) := by decide +kernel
theorem dX6_feed_43 : decode cX6_feed 43 = .ok (.getfield 22, 3) := by decide +kernel
theorem dX6_feed_46 : decode cX6_feed 46 = .ok (.aload_n 0, 1) := by decide +kernel
theorem dX6_feed_47 : decode cX6_feed 47 = .ok (.getfield 250, 3) := by decide +kernel
theorem dX6_feed_50 : decode cX6_feed 50 = .ok (.iload_n 1, 1) := by decide +kernel
theorem dX6_feed_51 : decode cX6_feed 51 = .ok (.bipush 8, 2) := by decide +kernel
theorem dX6_feed_53 : decode cX6_feed 53 = .ok (.iload_n 3, 1) := by decide +kernel
theorem dX6_feed_54 : decode cX6_feed 54 = .ok (.imul, 1) := by decide +kernel
theorem dX6_feed_55 : decode cX6_feed 55 = .ok (.ishr, 1) := by decide +kernel
theorem dX6_feed_56 : decode cX6_feed 56 = .ok (.sipush 255, 3) := by decide +kernel
theorem dX6_feed_59 : decode cX6_feed 59 = .ok (.iand, 1) := by decide +kernel
theorem dX6_feed_60 : decode cX6_feed 60 = .ok (.iastore, 1) := by decide +kernel
theorem dX6_feed_61 : decode cX6_feed 61 = .ok (.aload_n 0, 1) := by decide +kernel
theorem dX6_feed_62 : decode cX6_feed 62 = .ok (.dup, 1) := by decide +kernel
theorem dX6_feed_63 : decode cX6_feed 63 = .ok (.getfield 250, 3) := by decide +kernel
theorem dX6_feed_66 : decode cX6_feed 66 = .ok (.iconst 1, 1) := by decide +kernel
theorem dX6_feed_67 : decode cX6_feed 67 = .ok (.iadd, 1) := by decide +kernel
theorem dX6_feed_68 : decode cX6_feed 68 = .ok (.putfield 250, 3) := by decide +kernel
theorem dX6_feed_71 : decode cX6_feed 71 = .ok (.iinc 3 (-1), 3) := by decide +kernel
theorem dX6_feed_74 : decode cX6_feed 74 = .ok (.goto (-36), 3) := by decide +kernel
theorem dX6_feed_77 : decode cX6_feed 77 = .ok (.aload_n 0, 1) := by decide +kernel
theorem dX6_feed_78 : decode cX6_feed 78 = .ok (.getfield 250, 3) := by decide +kernel
theorem dX6_feed_81 : decode cX6_feed 81 = .ok (.ireturn, 1) := by decide +kernel
theorem dX6_wipe_0 : decode cX6_wipe 0 = .ok (.aload_n 0, 1) := by decide +kernel
theorem dX6_wipe_1 : decode cX6_wipe 1 = .ok (.getfield 250, 3) := by decide +kernel
theorem dX6_wipe_4 : decode cX6_wipe 4 = .ok (.istore_n 1, 1) := by decide +kernel
theorem dX6_wipe_5 : decode cX6_wipe 5 = .ok (.aload_n 0, 1) := by decide +kernel
theorem dX6_wipe_6 : decode cX6_wipe 6 = .ok (.iconst 0, 1) := by decide +kernel
theorem dX6_wipe_7 : decode cX6_wipe 7 = .ok (.putfield 250, 3) := by decide +kernel
theorem dX6_wipe_10 : decode cX6_wipe 10 = .ok (.iload_n 1, 1) := by decide +kernel
theorem dX6_wipe_11 : decode cX6_wipe 11 = .ok (.ireturn, 1) := by decide +kernel
theorem dX6_byteAt_0 : decode cX6_byteAt 0 = .ok (.iload_n 1, 1) := by decide +kernel
theorem dX6_byteAt_1 : decode cX6_byteAt 1 = .ok (.aload_n 0, 1) := by decide +kernel
theorem dX6_byteAt_2 : decode cX6_byteAt 2 = .ok (.getfield 250, 3) := by decide +kernel
theorem dX6_byteAt_5 : decode cX6_byteAt 5 = .ok (.if_icmp .ge 12, 3) := by decide +kernel
theorem dX6_byteAt_8 : decode cX6_byteAt 8 = .ok (.aload_n 0, 1) := by decide +kernel
theorem dX6_byteAt_9 : decode cX6_byteAt 9 = .ok (.getfield 22, 3) := by decide +kernel
theorem dX6_byteAt_12 : decode cX6_byteAt 12 = .ok (.iload_n 1, 1) := by decide +kernel
theorem dX6_byteAt_13 : decode cX6_byteAt 13 = .ok (.iaload, 1) := by decide +kernel
theorem dX6_byteAt_14 : decode cX6_byteAt 14 = .ok (.goto 4, 3) := by decide +kernel
theorem dX6_byteAt_17 : decode cX6_byteAt 17 = .ok (.iconst (-1), 1) := by decide +kernel
theorem dX6_byteAt_18 : decode cX6_byteAt 18 = .ok (.ireturn, 1) := by decide +kernel
theorem dX6_token_0 : decode cX6_token 0 = .ok (.aload_n 0, 1) := by decide +kernel
theorem dX6_token_1 : decode cX6_token 1 = .ok (.aload_n 0, 1) := by decide +kernel
theorem dX6_token_2 : decode cX6_token 2 = .ok (.getfield 254, 3) := by decide +kernel
theorem dX6_token_5 : decode cX6_token 5 = .ok (.putfield 257, 3) := by decide +kernel
theorem dX6_token_8 : decode cX6_token 8 = .ok (.aload_n 0, 1) := by decide +kernel
theorem dX6_token_9 : decode cX6_token 9 = .ok (.aload_n 0, 1) := by decide +kernel
theorem dX6_token_10 : decode cX6_token 10 = .ok (.getfield 257, 3) := by decide +kernel
theorem dX6_token_13 : decode cX6_token 13 = .ok (.invokevirtual 260, 3) := by decide +kernel
theorem dX6_token_16 : decode cX6_token 16 = .ok (.bipush 32, 2) := by decide +kernel
theorem dX6_token_18 : decode cX6_token 18 = .ok (.if_icmp .ne 16, 3) := by decide +kernel
theorem dX6_token_21 : decode cX6_token 21 = .ok (.aload_n 0, 1) := by decide +kernel
theorem dX6_token_22 : decode cX6_token 22 = .ok (.dup, 1) := by decide +kernel
theorem dX6_token_23 : decode cX6_token 23 = .ok (.getfield 257, 3) := by decide +kernel
theorem dX6_token_26 : decode cX6_token 26 = .ok (.iconst 1, 1) := by decide +kernel
theorem dX6_token_27 : decode cX6_token 27 = .ok (.iadd, 1) := by decide +kernel
theorem dX6_token_28 : decode cX6_token 28 = .ok (.putfield 257, 3) := by decide +kernel
theorem dX6_token_31 : decode cX6_token 31 = .ok (.goto (-23), 3) := by decide +kernel
theorem dX6_token_34 : decode cX6_token 34 = .ok (.aload_n 0, 1) := by decide +kernel
theorem dX6_token_35 : decode cX6_token 35 = .ok (.aload_n 0, 1) := by decide +kernel
theorem dX6_token_36 : decode cX6_token 36 = .ok (.getfield 257, 3) := by decide +kernel
theorem dX6_token_39 : decode cX6_token 39 = .ok (.invokevirtual 260, 3) := by decide +kernel
theorem dX6_token_42 : decode cX6_token 42 = .ok (.istore_n 1, 1) := by decide +kernel
theorem dX6_token_43 : decode cX6_token 43 = .ok (.aload_n 0, 1) := by decide +kernel
theorem dX6_token_44 : decode cX6_token 44 = .ok (.aload_n 0, 1) := by decide +kernel
theorem dX6_token_45 : decode cX6_token 45 = .ok (.getfield 257, 3) := by decide +kernel
theorem dX6_token_48 : decode cX6_token 48 = .ok (.putfield 254, 3) := by decide +kernel
theorem dX6_token_51 : decode cX6_token 51 = .ok (.aload_n 0, 1) := by decide +kernel
theorem dX6_token_52 : decode cX6_token 52 = .ok (.iconst 0, 1) := by decide +kernel
theorem dX6_token_53 : decode cX6_token 53 = .ok (.putfield 263, 3) := by decide +kernel
theorem dX6_token_56 : decode cX6_token 56 = .ok (.iload_n 1, 1) := by decide +kernel
theorem dX6_token_57 : decode cX6_token 57 = .ok (.ifCond .ge 11, 3) := by decide +kernel
theorem dX6_token_60 : decode cX6_token 60 = .ok (.aload_n 0, 1) := by decide +kernel
theorem dX6_token_61 : decode cX6_token 61 = .ok (.iconst 0, 1) := by decide +kernel
theorem dX6_token_62 : decode cX6_token 62 = .ok (.putfield 266, 3) := by decide +kernel
theorem dX6_token_65 : decode cX6_token 65 = .ok (.goto 141, 3) := by decide +kernel
theorem dX6_token_68 : decode cX6_token 68 = .ok (.iload_n 1, 1) := by decide +kernel
theorem dX6_token_69 : decode cX6_token 69 = .ok (.bipush 97, 2) := by decide +kernel
theorem dX6_token_71 : decode cX6_token 71 = .ok (.bipush 122, 2) := by decide +kernel
theorem dX6_token_73 : decode cX6_token 73 = .ok (.invokestatic 70, 3) := by decide +kernel
theorem dX6_token_76 : decode cX6_token 76 = .ok (.ifCond .eq 39, 3) := by decide +kernel
theorem dX6_token_79 : decode cX6_token 79 = .ok (.aload_n 0, 1) := by decide +kernel
theorem dX6_token_80 : decode cX6_token 80 = .ok (.iconst 1, 1) := by decide +kernel
theorem dX6_token_81 : decode cX6_token 81 = .ok (.putfield 266, 3) := by decide +kernel
theorem dX6_token_84 : decode cX6_token 84 = .ok (.aload_n 0, 1) := by decide +kernel
theorem dX6_token_85 : decode cX6_token 85 = .ok (.aload_n 0, 1) := by decide +kernel
theorem dX6_token_86 : decode cX6_token 86 = .ok (.getfield 254, 3) := by decide +kernel
theorem dX6_token_89 : decode cX6_token 89 = .ok (.invokevirtual 260, 3) := by decide +kernel
theorem dX6_token_92 : decode cX6_token 92 = .ok (.bipush 97, 2) := by decide +kernel
theorem dX6_token_94 : decode cX6_token 94 = .ok (.bipush 122, 2) := by decide +kernel
theorem dX6_token_96 : decode cX6_token 96 = .ok (.invokestatic 70, 3) := by decide +kernel
theorem dX6_token_99 : decode cX6_token 99 = .ok (.ifCond .eq 107, 3) := by decide +kernel
theorem dX6_token_102 : decode cX6_token 102 = .ok (.aload_n 0, 1) := by decide +kernel
theorem dX6_token_103 : decode cX6_token 103 = .ok (.dup, 1) := by decide +kernel
theorem dX6_token_104 : decode cX6_token 104 = .ok (.getfield 254, 3) := by decide +kernel
theorem dX6_token_107 : decode cX6_token 107 = .ok (.iconst 1, 1) := by decide +kernel
theorem dX6_token_108 : decode cX6_token 108 = .ok (.iadd, 1) := by decide +kernel
theorem dX6_token_109 : decode cX6_token 109 = .ok (.putfield 254, 3) := by decide +kernel
theorem dX6_token_112 : decode cX6_token 112 = .ok (.goto (-28), 3) := by decide +kernel
theorem dX6_token_115 : decode cX6_token 115 = .ok (.iload_n 1, 1) := by decide +kernel
theorem dX6_token_116 : decode cX6_token 116 = .ok (.bipush 48, 2) := by decide +kernel
theorem dX6_token_118 : decode cX6_token 118 = .ok (.bipush 57, 2) := by decide +kernel
theorem dX6_token_120 : decode cX6_token 120 = .ok (.invokestatic 70, 3) := by decide +kernel
theorem dX6_token_123 : decode cX6_token 123 = .ok (.ifCond .eq 68, 3) := by decide +kernel
theorem dX6_token_126 : decode cX6_token 126 = .ok (.aload_n 0, 1) := by decide +kernel
theorem dX6_token_127 : decode cX6_token 127 = .ok (.iconst 2, 1) := by decide +kernel
theorem dX6_token_128 : decode cX6_token 128 = .ok (.putfield 266, 3) := by decide +kernel
theorem dX6_token_131 : decode cX6_token 131 = .ok (.aload_n 0, 1) := by decide +kernel
theorem dX6_token_132 : decode cX6_token 132 = .ok (.aload_n 0, 1) := by decide +kernel
theorem dX6_token_133 : decode cX6_token 133 = .ok (.getfield 254, 3) := by decide +kernel
theorem dX6_token_136 : decode cX6_token 136 = .ok (.invokevirtual 260, 3) := by decide +kernel
theorem dX6_token_139 : decode cX6_token 139 = .ok (.bipush 48, 2) := by decide +kernel
theorem dX6_token_141 : decode cX6_token 141 = .ok (.bipush 57, 2) := by decide +kernel
theorem dX6_token_143 : decode cX6_token 143 = .ok (.invokestatic 70, 3) := by decide +kernel
theorem dX6_token_146 : decode cX6_token 146 = .ok (.ifCond .eq 60, 3) := by decide +kernel
theorem dX6_token_149 : decode cX6_token 149 = .ok (.aload_n 0, 1) := by decide +kernel
theorem dX6_token_150 : decode cX6_token 150 = .ok (.sipush 10000, 3) := by decide +kernel
theorem dX6_token_153 : decode cX6_token 153 = .ok (.bipush 10, 2) := by decide +kernel
theorem dX6_token_155 : decode cX6_token 155 = .ok (.aload_n 0, 1) := by decide +kernel
theorem dX6_token_156 : decode cX6_token 156 = .ok (.getfield 263, 3) := by decide +kernel
theorem dX6_token_159 : decode cX6_token 159 = .ok (.imul, 1) := by decide +kernel
theorem dX6_token_160 : decode cX6_token 160 = .ok (.aload_n 0, 1) := by decide +kernel
theorem dX6_token_161 : decode cX6_token 161 = .ok (.aload_n 0, 1) := by decide +kernel
theorem dX6_token_162 : decode cX6_token 162 = .ok (.getfield 254, 3) := by decide +kernel
theorem dX6_token_165 : decode cX6_token 165 = .ok (.invokevirtual 260, 3) := by decide +kernel
theorem dX6_token_168 : decode cX6_token 168 = .ok (.iadd, 1) := by decide +kernel
theorem dX6_token_169 : decode cX6_token 169 = .ok (.bipush 48, 2) := by decide +kernel
theorem dX6_token_171 : decode cX6_token 171 = .ok (.isub, 1) := by decide +kernel
theorem dX6_token_172 : decode cX6_token 172 = .ok (.invokestatic 162, 3) := by decide +kernel
theorem dX6_token_175 : decode cX6_token 175 = .ok (.putfield 263, 3) := by decide +kernel
theorem dX6_token_178 : decode cX6_token 178 = .ok (.aload_n 0, 1) := by decide +kernel
theorem dX6_token_179 : decode cX6_token 179 = .ok (.dup, 1) := by decide +kernel
theorem dX6_token_180 : decode cX6_token 180 = .ok (.getfield 254, 3) := by decide +kernel
theorem dX6_token_183 : decode cX6_token 183 = .ok (.iconst 1, 1) := by decide +kernel
theorem dX6_token_184 : decode cX6_token 184 = .ok (.iadd, 1) := by decide +kernel
theorem dX6_token_185 : decode cX6_token 185 = .ok (.putfield 254, 3) := by decide +kernel
theorem dX6_token_188 : decode cX6_token 188 = .ok (.goto (-57), 3) := by decide +kernel
theorem dX6_token_191 : decode cX6_token 191 = .ok (.aload_n 0, 1) := by decide +kernel
theorem dX6_token_192 : decode cX6_token 192 = .ok (.iconst 3, 1) := by decide +kernel
theorem dX6_token_193 : decode cX6_token 193 = .ok (.putfield 266, 3) := by decide +kernel
theorem dX6_token_196 : decode cX6_token 196 = .ok (.aload_n 0, 1) := by decide +kernel
theorem dX6_token_197 : decode cX6_token 197 = .ok (.dup, 1) := by decide +kernel
theorem dX6_token_198 : decode cX6_token 198 = .ok (.getfield 254, 3) := by decide +kernel
theorem dX6_token_201 : decode cX6_token 201 = .ok (.iconst 1, 1) := by decide +kernel
theorem dX6_token_202 : decode cX6_token 202 = .ok (.iadd, 1) := by decide +kernel
theorem dX6_token_203 : decode cX6_token 203 = .ok (.putfield 254, 3) := by decide +kernel
theorem dX6_token_206 : decode cX6_token 206 = .ok (.return_, 1) := by decide +kernel
theorem dX6_isWord_0 : decode cX6_isWord 0 = .ok (.aload_n 0, 1) := by decide +kernel
theorem dX6_isWord_1 : decode cX6_isWord 1 = .ok (.getfield 266, 3) := by decide +kernel
theorem dX6_isWord_4 : decode cX6_isWord 4 = .ok (.iconst 1, 1) := by decide +kernel
theorem dX6_isWord_5 : decode cX6_isWord 5 = .ok (.if_icmp .ne 23, 3) := by decide +kernel
theorem dX6_isWord_8 : decode cX6_isWord 8 = .ok (.aload_n 0, 1) := by decide +kernel
theorem dX6_isWord_9 : decode cX6_isWord 9 = .ok (.getfield 254, 3) := by decide +kernel
theorem dX6_isWord_12 : decode cX6_isWord 12 = .ok (.aload_n 0, 1) := by decide +kernel
theorem dX6_isWord_13 : decode cX6_isWord 13 = .ok (.getfield 257, 3) := by decide +kernel
theorem dX6_isWord_16 : decode cX6_isWord 16 = .ok (.isub, 1) := by decide +kernel
theorem dX6_isWord_17 : decode cX6_isWord 17 = .ok (.aload_n 1, 1) := by decide +kernel
theorem dX6_isWord_18 : decode cX6_isWord 18 = .ok (.invokevirtual 269, 3) := by decide +kernel
theorem dX6_isWord_21 : decode cX6_isWord 21 = .ok (.if_icmp .ne 7, 3) := by decide +kernel
theorem dX6_isWord_24 : decode cX6_isWord 24 = .ok (.iconst 1, 1) := by decide +kernel
theorem dX6_isWord_25 : decode cX6_isWord 25 = .ok (.goto 4, 3) := by decide +kernel
theorem dX6_isWord_28 : decode cX6_isWord 28 = .ok (.iconst 0, 1) := by decide +kernel
theorem dX6_isWord_29 : decode cX6_isWord 29 = .ok (.istore_n 2, 1) := by decide +kernel
theorem dX6_isWord_30 : decode cX6_isWord 30 = .ok (.iconst 0, 1) := by decide +kernel
theorem dX6_isWord_31 : decode cX6_isWord 31 = .ok (.istore_n 3, 1) := by decide +kernel
theorem dX6_isWord_32 : decode cX6_isWord 32 = .ok (.iload_n 3, 1) := by decide +kernel
theorem dX6_isWord_33 : decode cX6_isWord 33 = .ok (.aload_n 1, 1) := by decide +kernel
theorem dX6_isWord_34 : decode cX6_isWord 34 = .ok (.invokevirtual 269, 3) := by decide +kernel
theorem dX6_isWord_37 : decode cX6_isWord 37 = .ok (.if_icmp .ge 38, 3) := by decide +kernel
theorem dX6_isWord_40 : decode cX6_isWord 40 = .ok (.iload_n 2, 1) := by decide +kernel
theorem dX6_isWord_41 : decode cX6_isWord 41 = .ok (.ifCond .eq 34, 3) := by decide +kernel
theorem dX6_isWord_44 : decode cX6_isWord 44 = .ok (.aload_n 0, 1) := by decide +kernel
theorem dX6_isWord_45 : decode cX6_isWord 45 = .ok (.getfield 22, 3) := by decide +kernel
theorem dX6_isWord_48 : decode cX6_isWord 48 = .ok (.aload_n 0, 1) := by decide +kernel
theorem dX6_isWord_49 : decode cX6_isWord 49 = .ok (.getfield 257, 3) := by decide +kernel
theorem dX6_isWord_52 : decode cX6_isWord 52 = .ok (.iload_n 3, 1) := by decide +kernel
theorem dX6_isWord_53 : decode cX6_isWord 53 = .ok (.iadd, 1) := by decide +kernel
theorem dX6_isWord_54 : decode cX6_isWord 54 = .ok (.iaload, 1) := by decide +kernel
theorem dX6_isWord_55 : decode cX6_isWord 55 = .ok (.aload_n 1, 1) := by decide +kernel
theorem dX6_isWord_56 : decode cX6_isWord 56 = .ok (.iload_n 3, 1) := by decide +kernel
theorem dX6_isWord_57 : decode cX6_isWord 57 = .ok (.invokevirtual 272, 3) := by decide +kernel
theorem dX6_isWord_60 : decode cX6_isWord 60 = .ok (.if_icmp .ne 7, 3) := by decide +kernel
theorem dX6_isWord_63 : decode cX6_isWord 63 = .ok (.iconst 1, 1) := by decide +kernel
theorem dX6_isWord_64 : decode cX6_isWord 64 = .ok (.goto 4, 3) := by decide +kernel
theorem dX6_isWord_67 : decode cX6_isWord 67 = .ok (.iconst 0, 1) := by decide +kernel
theorem dX6_isWord_68 : decode cX6_isWord 68 = .ok (.istore_n 2, 1) := by decide +kernel
theorem dX6_isWord_69 : decode cX6_isWord 69 = .ok (.iinc 3 1, 3) := by decide +kernel
theorem dX6_isWord_72 : decode cX6_isWord 72 = .ok (.goto (-40), 3) := by decide +kernel
theorem dX6_isWord_75 : decode cX6_isWord 75 = .ok (.iload_n 2, 1) := by decide +kernel
theorem dX6_isWord_76 : decode cX6_isWord 76 = .ok (.ireturn, 1) := by decide +kernel
theorem dX6_must_0 : decode cX6_must 0 = .ok (.aload_n 0, 1) := by decide +kernel
theorem dX6_must_1 : decode cX6_must 1 = .ok (.aload_n 0, 1) := by decide +kernel
theorem dX6_must_2 : decode cX6_must 2 = .ok (.getfield 276, 3) := by decide +kernel
theorem dX6_must_5 : decode cX6_must 5 = .ok (.ifCond .ne 7, 3) := by decide +kernel
theorem dX6_must_8 : decode cX6_must 8 = .ok (.iload_n 1, 1) := by decide +kernel
theorem dX6_must_9 : decode cX6_must 9 = .ok (.ifCond .ne 7, 3) := by decide +kernel
theorem dX6_must_12 : decode cX6_must 12 = .ok (.iconst 1, 1) := by decide +kernel
theorem dX6_must_13 : decode cX6_must 13 = .ok (.goto 4, 3) := by decide +kernel
theorem dX6_must_16 : decode cX6_must 16 = .ok (.iconst 0, 1) := by decide +kernel
theorem dX6_must_17 : decode cX6_must 17 = .ok (.putfield 276, 3) := by decide +kernel
theorem dX6_must_20 : decode cX6_must 20 = .ok (.aload_n 0, 1) := by decide +kernel
theorem dX6_must_21 : decode cX6_must 21 = .ok (.getfield 276, 3) := by decide +kernel
theorem dX6_must_24 : decode cX6_must 24 = .ok (.ifCond .ne 7, 3) := by decide +kernel
theorem dX6_must_27 : decode cX6_must 27 = .ok (.aload_n 0, 1) := by decide +kernel
theorem dX6_must_28 : decode cX6_must 28 = .ok (.invokevirtual 280, 3) := by decide +kernel
theorem dX6_must_31 : decode cX6_must 31 = .ok (.return_, 1) := by decide +kernel
theorem dX6_number_0 : decode cX6_number 0 = .ok (.aload_n 0, 1) := by decide +kernel
theorem dX6_number_1 : decode cX6_number 1 = .ok (.getfield 263, 3) := by decide +kernel
theorem dX6_number_4 : decode cX6_number 4 = .ok (.istore_n 3, 1) := by decide +kernel
theorem dX6_number_5 : decode cX6_number 5 = .ok (.aload_n 0, 1) := by decide +kernel
theorem dX6_number_6 : decode cX6_number 6 = .ok (.aload_n 0, 1) := by decide +kernel
theorem dX6_number_7 : decode cX6_number 7 = .ok (.getfield 266, 3) := by decide +kernel
theorem dX6_number_10 : decode cX6_number 10 = .ok (.iconst 2, 1) := by decide +kernel
theorem dX6_number_11 : decode cX6_number 11 = .ok (.if_icmp .ne 16, 3) := by decide +kernel
theorem dX6_number_14 : decode cX6_number 14 = .ok (.iload_n 3, 1) := by decide +kernel
theorem dX6_number_15 : decode cX6_number 15 = .ok (.iload_n 1, 1) := by decide +kernel
theorem dX6_number_16 : decode cX6_number 16 = .ok (.iload_n 2, 1) := by decide +kernel
theorem dX6_number_17 : decode cX6_number 17 = .ok (.invokestatic 70, 3) := by decide +kernel
theorem dX6_number_20 : decode cX6_number 20 = .ok (.ifCond .eq 7, 3) := by decide +kernel
theorem dX6_number_23 : decode cX6_number 23 = .ok (.iconst 1, 1) := by decide +kernel
theorem dX6_number_24 : decode cX6_number 24 = .ok (.goto 4, 3) := by decide +kernel
theorem dX6_number_27 : decode cX6_number 27 = .ok (.iconst 0, 1) := by decide +kernel
theorem dX6_number_28 : decode cX6_number 28 = .ok (.invokevirtual 283, 3) := by decide +kernel
theorem dX6_number_31 : decode cX6_number 31 = .ok (.iload_n 3, 1) := by decide +kernel
theorem dX6_number_32 : decode cX6_number 32 = .ok (.ireturn, 1) := by decide +kernel
theorem dX6_addItem_0 : decode cX6_addItem 0 = .ok (.iconst 5, 1) := by decide +kernel
theorem dX6_addItem_1 : decode cX6_addItem 1 = .ok (.aload_n 0, 1) := by decide +kernel
theorem dX6_addItem_2 : decode cX6_addItem 2 = .ok (.getfield 287, 3) := by decide +kernel
theorem dX6_addItem_5 : decode cX6_addItem 5 = .ok (.imul, 1) := by decide +kernel
theorem dX6_addItem_6 : decode cX6_addItem 6 = .ok (.istore 6, 2) := by decide +kernel
theorem dX6_addItem_8 : decode cX6_addItem 8 = .ok (.aload_n 0, 1) := by decide +kernel
theorem dX6_addItem_9 : decode cX6_addItem 9 = .ok (.getfield 45, 3) := by decide +kernel
theorem dX6_addItem_12 : decode cX6_addItem 12 = .ok (.iload 6, 2) := by decide +kernel
theorem dX6_addItem_14 : decode cX6_addItem 14 = .ok (.iload_n 1, 1) := by decide +kernel
theorem dX6_addItem_15 : decode cX6_addItem 15 = .ok (.iastore, 1) := by decide +kernel
theorem dX6_addItem_16 : decode cX6_addItem 16 = .ok (.aload_n 0, 1) := by decide +kernel
theorem dX6_addItem_17 : decode cX6_addItem 17 = .ok (.getfield 45, 3) := by decide +kernel
theorem dX6_addItem_20 : decode cX6_addItem 20 = .ok (.iload 6, 2) := by decide +kernel
theorem dX6_addItem_22 : decode cX6_addItem 22 = .ok (.iconst 1, 1) := by decide +kernel
theorem dX6_addItem_23 : decode cX6_addItem 23 = .ok (.iadd, 1) := by decide +kernel
theorem dX6_addItem_24 : decode cX6_addItem 24 = .ok (.iload_n 2, 1) := by decide +kernel
theorem dX6_addItem_25 : decode cX6_addItem 25 = .ok (.iastore, 1) := by decide +kernel
theorem dX6_addItem_26 : decode cX6_addItem 26 = .ok (.aload_n 0, 1) := by decide +kernel
theorem dX6_addItem_27 : decode cX6_addItem 27 = .ok (.getfield 45, 3) := by decide +kernel
theorem dX6_addItem_30 : decode cX6_addItem 30 = .ok (.iload 6, 2) := by decide +kernel
theorem dX6_addItem_32 : decode cX6_addItem 32 = .ok (.iconst 2, 1) := by decide +kernel
theorem dX6_addItem_33 : decode cX6_addItem 33 = .ok (.iadd, 1) := by decide +kernel
theorem dX6_addItem_34 : decode cX6_addItem 34 = .ok (.iload_n 3, 1) := by decide +kernel
theorem dX6_addItem_35 : decode cX6_addItem 35 = .ok (.iastore, 1) := by decide +kernel
theorem dX6_addItem_36 : decode cX6_addItem 36 = .ok (.aload_n 0, 1) := by decide +kernel
theorem dX6_addItem_37 : decode cX6_addItem 37 = .ok (.getfield 45, 3) := by decide +kernel
theorem dX6_addItem_40 : decode cX6_addItem 40 = .ok (.iload 6, 2) := by decide +kernel
theorem dX6_addItem_42 : decode cX6_addItem 42 = .ok (.iconst 3, 1) := by decide +kernel
theorem dX6_addItem_43 : decode cX6_addItem 43 = .ok (.iadd, 1) := by decide +kernel
theorem dX6_addItem_44 : decode cX6_addItem 44 = .ok (.iload 4, 2) := by decide +kernel
theorem dX6_addItem_46 : decode cX6_addItem 46 = .ok (.iastore, 1) := by decide +kernel
theorem dX6_addItem_47 : decode cX6_addItem 47 = .ok (.aload_n 0, 1) := by decide +kernel
theorem dX6_addItem_48 : decode cX6_addItem 48 = .ok (.getfield 45, 3) := by decide +kernel
theorem dX6_addItem_51 : decode cX6_addItem 51 = .ok (.iload 6, 2) := by decide +kernel
theorem dX6_addItem_53 : decode cX6_addItem 53 = .ok (.iconst 4, 1) := by decide +kernel
theorem dX6_addItem_54 : decode cX6_addItem 54 = .ok (.iadd, 1) := by decide +kernel
theorem dX6_addItem_55 : decode cX6_addItem 55 = .ok (.iload 5, 2) := by decide +kernel
theorem dX6_addItem_57 : decode cX6_addItem 57 = .ok (.iastore, 1) := by decide +kernel
theorem dX6_addItem_58 : decode cX6_addItem 58 = .ok (.aload_n 0, 1) := by decide +kernel
theorem dX6_addItem_59 : decode cX6_addItem 59 = .ok (.dup, 1) := by decide +kernel
theorem dX6_addItem_60 : decode cX6_addItem 60 = .ok (.getfield 287, 3) := by decide +kernel
theorem dX6_addItem_63 : decode cX6_addItem 63 = .ok (.iconst 1, 1) := by decide +kernel
theorem dX6_addItem_64 : decode cX6_addItem 64 = .ok (.iadd, 1) := by decide +kernel
theorem dX6_addItem_65 : decode cX6_addItem 65 = .ok (.putfield 287, 3) := by decide +kernel
theorem dX6_addItem_68 : decode cX6_addItem 68 = .ok (.return_, 1) := by decide +kernel
theorem dX6_takesWord_0 : decode cX6_takesWord 0 = .ok (.aload_n 0, 1) := by decide +kernel
theorem dX6_takesWord_1 : decode cX6_takesWord 1 = .ok (.getfield 276, 3) := by decide +kernel
theorem dX6_takesWord_4 : decode cX6_takesWord 4 = .ok (.ifCond .ne 15, 3) := by decide +kernel
theorem dX6_takesWord_7 : decode cX6_takesWord 7 = .ok (.aload_n 0, 1) := by decide +kernel
theorem dX6_takesWord_8 : decode cX6_takesWord 8 = .ok (.aload_n 1, 1) := by decide +kernel
theorem dX6_takesWord_9 : decode cX6_takesWord 9 = .ok (.invokevirtual 290, 3) := by decide +kernel
theorem dX6_takesWord_12 : decode cX6_takesWord 12 = .ok (.ifCond .eq 7, 3) := by decide +kernel
theorem dX6_takesWord_15 : decode cX6_takesWord 15 = .ok (.iconst 1, 1) := by decide +kernel
theorem dX6_takesWord_16 : decode cX6_takesWord 16 = .ok (.goto 4, 3) := by decide +kernel
theorem dX6_takesWord_19 : decode cX6_takesWord 19 = .ok (.iconst 0, 1) := by decide +kernel
theorem dX6_takesWord_20 : decode cX6_takesWord 20 = .ok (.istore_n 2, 1) := by decide +kernel
theorem dX6_takesWord_21 : decode cX6_takesWord 21 = .ok (.iload_n 2, 1) := by decide +kernel
theorem dX6_takesWord_22 : decode cX6_takesWord 22 = .ok (.ifCond .eq 8, 3) := by decide +kernel
theorem dX6_takesWord_25 : decode cX6_takesWord 25 = .ok (.aload_n 0, 1) := by decide +kernel
theorem dX6_takesWord_26 : decode cX6_takesWord 26 = .ok (.iconst 1, 1) := by decide +kernel
theorem dX6_takesWord_27 : decode cX6_takesWord 27 = .ok (.invokevirtual 283, 3) := by decide +kernel
theorem dX6_takesWord_30 : decode cX6_takesWord 30 = .ok (.iload_n 2, 1) := by decide +kernel
theorem dX6_takesWord_31 : decode cX6_takesWord 31 = .ok (.ireturn, 1) := by decide +kernel
theorem dX6_readKeeper_0 : decode cX6_readKeeper 0 = .ok (.aload_n 0, 1) := by decide +kernel
theorem dX6_readKeeper_1 : decode cX6_readKeeper 1 = .ok (.aload_n 0, 1) := by decide +kernel
theorem dX6_readKeeper_2 : decode cX6_readKeeper 2 = .ok (.getfield 294, 3) := by decide +kernel
theorem dX6_readKeeper_5 : decode cX6_readKeeper 5 = .ok (.bipush 8, 2) := by decide +kernel
theorem dX6_readKeeper_7 : decode cX6_readKeeper 7 = .ok (.if_icmp .ge 7, 3) := by decide +kernel
theorem dX6_readKeeper_10 : decode cX6_readKeeper 10 = .ok (.iconst 1, 1) := by decide +kernel
theorem dX6_readKeeper_11 : decode cX6_readKeeper 11 = .ok (.goto 4, 3) := by decide +kernel
theorem dX6_readKeeper_14 : decode cX6_readKeeper 14 = .ok (.iconst 0, 1) := by decide +kernel
theorem dX6_readKeeper_15 : decode cX6_readKeeper 15 = .ok (.invokevirtual 283, 3) := by decide +kernel
theorem dX6_readKeeper_18 : decode cX6_readKeeper 18 = .ok (.aload_n 0, 1) := by decide +kernel
theorem dX6_readKeeper_19 : decode cX6_readKeeper 19 = .ok (.ldc_w 297, 3) := by decide +kernel
theorem dX6_readKeeper_22 : decode cX6_readKeeper 22 = .ok (.invokevirtual 299, 3) := by decide +kernel
theorem dX6_readKeeper_25 : decode cX6_readKeeper 25 = .ok (.ifCond .eq 13, 3) := by decide +kernel
theorem dX6_readKeeper_28 : decode cX6_readKeeper 28 = .ok (.aload_n 0, 1) := by decide +kernel
theorem dX6_readKeeper_29 : decode cX6_readKeeper 29 = .ok (.iconst 0, 1) := by decide +kernel
theorem dX6_readKeeper_30 : decode cX6_readKeeper 30 = .ok (.bipush 15, 2) := by decide +kernel
theorem dX6_readKeeper_32 : decode cX6_readKeeper 32 = .ok (.invokevirtual 302, 3) := by decide +kernel
theorem dX6_readKeeper_35 : decode cX6_readKeeper 35 = .ok (.goto 4, 3) := by decide +kernel
theorem dX6_readKeeper_38 : decode cX6_readKeeper 38 = .ok (.iconst 0, 1) := by decide +kernel
theorem dX6_readKeeper_39 : decode cX6_readKeeper 39 = .ok (.istore_n 2, 1) := by decide +kernel
theorem dX6_readKeeper_40 : decode cX6_readKeeper 40 = .ok (.aload_n 0, 1) := by decide +kernel
theorem dX6_readKeeper_41 : decode cX6_readKeeper 41 = .ok (.ldc_w 305, 3) := by decide +kernel
theorem dX6_readKeeper_44 : decode cX6_readKeeper 44 = .ok (.invokevirtual 299, 3) := by decide +kernel
theorem dX6_readKeeper_47 : decode cX6_readKeeper 47 = .ok (.ifCond .eq 13, 3) := by decide +kernel
theorem dX6_readKeeper_50 : decode cX6_readKeeper 50 = .ok (.aload_n 0, 1) := by decide +kernel
theorem dX6_readKeeper_51 : decode cX6_readKeeper 51 = .ok (.iconst 0, 1) := by decide +kernel
theorem dX6_readKeeper_52 : decode cX6_readKeeper 52 = .ok (.bipush 11, 2) := by decide +kernel
theorem dX6_readKeeper_54 : decode cX6_readKeeper 54 = .ok (.invokevirtual 302, 3) := by decide +kernel
theorem dX6_readKeeper_57 : decode cX6_readKeeper 57 = .ok (.goto 4, 3) := by decide +kernel
theorem dX6_readKeeper_60 : decode cX6_readKeeper 60 = .ok (.iconst 0, 1) := by decide +kernel
theorem dX6_readKeeper_61 : decode cX6_readKeeper 61 = .ok (.istore_n 3, 1) := by decide +kernel
theorem dX6_readKeeper_62 : decode cX6_readKeeper 62 = .ok (.aload_n 0, 1) := by decide +kernel
theorem dX6_readKeeper_63 : decode cX6_readKeeper 63 = .ok (.ldc_w 307, 3) := by decide +kernel
theorem dX6_readKeeper_66 : decode cX6_readKeeper 66 = .ok (.invokevirtual 299, 3) := by decide +kernel
theorem dX6_readKeeper_69 : decode cX6_readKeeper 69 = .ok (.ifCond .eq 13, 3) := by decide +kernel
theorem dX6_readKeeper_72 : decode cX6_readKeeper 72 = .ok (.aload_n 0, 1) := by decide +kernel
theorem dX6_readKeeper_73 : decode cX6_readKeeper 73 = .ok (.iconst 0, 1) := by decide +kernel
theorem dX6_readKeeper_74 : decode cX6_readKeeper 74 = .ok (.bipush 15, 2) := by decide +kernel
theorem dX6_readKeeper_76 : decode cX6_readKeeper 76 = .ok (.invokevirtual 302, 3) := by decide +kernel
theorem dX6_readKeeper_79 : decode cX6_readKeeper 79 = .ok (.goto 5, 3) := by decide +kernel
theorem dX6_readKeeper_82 : decode cX6_readKeeper 82 = .ok (.bipush 6, 2) := by decide +kernel
theorem dX6_readKeeper_84 : decode cX6_readKeeper 84 = .ok (.istore 4, 2) := by decide +kernel
theorem dX6_readKeeper_86 : decode cX6_readKeeper 86 = .ok (.aload_n 0, 1) := by decide +kernel
theorem dX6_readKeeper_87 : decode cX6_readKeeper 87 = .ok (.iload_n 1, 1) := by decide +kernel
theorem dX6_readKeeper_88 : decode cX6_readKeeper 88 = .ok (.iload_n 2, 1) := by decide +kernel
theorem dX6_readKeeper_89 : decode cX6_readKeeper 89 = .ok (.iload_n 3, 1) := by decide +kernel
theorem dX6_readKeeper_90 : decode cX6_readKeeper 90 = .ok (.iload 4, 2) := by decide +kernel
theorem dX6_readKeeper_92 : decode cX6_readKeeper 92 = .ok (.aload_n 0, 1) := by decide +kernel
theorem dX6_readKeeper_93 : decode cX6_readKeeper 93 = .ok (.ldc_w 309, 3) := by decide +kernel
theorem dX6_readKeeper_96 : decode cX6_readKeeper 96 = .ok (.invokevirtual 299, 3) := by decide +kernel
theorem dX6_readKeeper_99 : decode cX6_readKeeper 99 = .ok (.ifCond .eq 7, 3) := by decide +kernel
theorem dX6_readKeeper_102 : decode cX6_readKeeper 102 = .ok (.iconst 1, 1) := by decide +kernel
theorem dX6_readKeeper_103 : decode cX6_readKeeper 103 = .ok (.goto 4, 3) := by decide +kernel
theorem dX6_readKeeper_106 : decode cX6_readKeeper 106 = .ok (.iconst 0, 1) := by decide +kernel
theorem dX6_readKeeper_107 : decode cX6_readKeeper 107 = .ok (.invokevirtual 311, 3) := by decide +kernel
theorem dX6_readKeeper_110 : decode cX6_readKeeper 110 = .ok (.aload_n 0, 1) := by decide +kernel
theorem dX6_readKeeper_111 : decode cX6_readKeeper 111 = .ok (.dup, 1) := by decide +kernel
theorem dX6_readKeeper_112 : decode cX6_readKeeper 112 = .ok (.getfield 294, 3) := by decide +kernel
theorem dX6_readKeeper_115 : decode cX6_readKeeper 115 = .ok (.iconst 1, 1) := by decide +kernel
theorem dX6_readKeeper_116 : decode cX6_readKeeper 116 = .ok (.iadd, 1) := by decide +kernel
theorem dX6_readKeeper_117 : decode cX6_readKeeper 117 = .ok (.putfield 294, 3) := by decide +kernel
theorem dX6_readKeeper_120 : decode cX6_readKeeper 120 = .ok (.return_, 1) := by decide +kernel
theorem dX6_readChild_0 : decode cX6_readChild 0 = .ok (.aload_n 0, 1) := by decide +kernel
theorem dX6_readChild_1 : decode cX6_readChild 1 = .ok (.aload_n 0, 1) := by decide +kernel
theorem dX6_readChild_2 : decode cX6_readChild 2 = .ok (.getfield 315, 3) := by decide +kernel
theorem dX6_readChild_5 : decode cX6_readChild 5 = .ok (.bipush 6, 2) := by decide +kernel
theorem dX6_readChild_7 : decode cX6_readChild 7 = .ok (.if_icmp .ge 7, 3) := by decide +kernel
theorem dX6_readChild_10 : decode cX6_readChild 10 = .ok (.iconst 1, 1) := by decide +kernel
theorem dX6_readChild_11 : decode cX6_readChild 11 = .ok (.goto 4, 3) := by decide +kernel
theorem dX6_readChild_14 : decode cX6_readChild 14 = .ok (.iconst 0, 1) := by decide +kernel
theorem dX6_readChild_15 : decode cX6_readChild 15 = .ok (.invokevirtual 283, 3) := by decide +kernel
theorem dX6_readChild_18 : decode cX6_readChild 18 = .ok (.aload_n 0, 1) := by decide +kernel
theorem dX6_readChild_19 : decode cX6_readChild 19 = .ok (.ldc_w 297, 3) := by decide +kernel
theorem dX6_readChild_22 : decode cX6_readChild 22 = .ok (.invokevirtual 299, 3) := by decide +kernel
theorem dX6_readChild_25 : decode cX6_readChild 25 = .ok (.ifCond .eq 13, 3) := by decide +kernel
theorem dX6_readChild_28 : decode cX6_readChild 28 = .ok (.aload_n 0, 1) := by decide +kernel
theorem dX6_readChild_29 : decode cX6_readChild 29 = .ok (.iconst 0, 1) := by decide +kernel
theorem dX6_readChild_30 : decode cX6_readChild 30 = .ok (.bipush 15, 2) := by decide +kernel
theorem dX6_readChild_32 : decode cX6_readChild 32 = .ok (.invokevirtual 302, 3) := by decide +kernel
theorem dX6_readChild_35 : decode cX6_readChild 35 = .ok (.goto 4, 3) := by decide +kernel
theorem dX6_readChild_38 : decode cX6_readChild 38 = .ok (.iconst 0, 1) := by decide +kernel
theorem dX6_readChild_39 : decode cX6_readChild 39 = .ok (.istore_n 1, 1) := by decide +kernel
theorem dX6_readChild_40 : decode cX6_readChild 40 = .ok (.aload_n 0, 1) := by decide +kernel
theorem dX6_readChild_41 : decode cX6_readChild 41 = .ok (.ldc_w 318, 3) := by decide +kernel
theorem dX6_readChild_44 : decode cX6_readChild 44 = .ok (.invokevirtual 299, 3) := by decide +kernel
theorem dX6_readChild_47 : decode cX6_readChild 47 = .ok (.ifCond .eq 13, 3) := by decide +kernel
theorem dX6_readChild_50 : decode cX6_readChild 50 = .ok (.aload_n 0, 1) := by decide +kernel
theorem dX6_readChild_51 : decode cX6_readChild 51 = .ok (.iconst 0, 1) := by decide +kernel
theorem dX6_readChild_52 : decode cX6_readChild 52 = .ok (.bipush 9, 2) := by decide +kernel
theorem dX6_readChild_54 : decode cX6_readChild 54 = .ok (.invokevirtual 302, 3) := by decide +kernel
theorem dX6_readChild_57 : decode cX6_readChild 57 = .ok (.goto 4, 3) := by decide +kernel
theorem dX6_readChild_60 : decode cX6_readChild 60 = .ok (.iconst 3, 1) := by decide +kernel
theorem dX6_readChild_61 : decode cX6_readChild 61 = .ok (.istore_n 2, 1) := by decide +kernel
theorem dX6_readChild_62 : decode cX6_readChild 62 = .ok (.aload_n 0, 1) := by decide +kernel
theorem dX6_readChild_63 : decode cX6_readChild 63 = .ok (.bipush 10, 2) := by decide +kernel
theorem dX6_readChild_65 : decode cX6_readChild 65 = .ok (.iload_n 1, 1) := by decide +kernel
theorem dX6_readChild_66 : decode cX6_readChild 66 = .ok (.iload_n 2, 1) := by decide +kernel
theorem dX6_readChild_67 : decode cX6_readChild 67 = .ok (.aload_n 0, 1) := by decide +kernel
theorem dX6_readChild_68 : decode cX6_readChild 68 = .ok (.ldc_w 320, 3) := by decide +kernel
theorem dX6_readChild_71 : decode cX6_readChild 71 = .ok (.invokevirtual 299, 3) := by decide +kernel
theorem dX6_readChild_74 : decode cX6_readChild 74 = .ok (.ifCond .eq 14, 3) := by decide +kernel
theorem dX6_readChild_77 : decode cX6_readChild 77 = .ok (.aload_n 0, 1) := by decide +kernel
theorem dX6_readChild_78 : decode cX6_readChild 78 = .ok (.iconst 0, 1) := by decide +kernel
theorem dX6_readChild_79 : decode cX6_readChild 79 = .ok (.sipush 4095, 3) := by decide +kernel
theorem dX6_readChild_82 : decode cX6_readChild 82 = .ok (.invokevirtual 302, 3) := by decide +kernel
theorem dX6_readChild_85 : decode cX6_readChild 85 = .ok (.goto 4, 3) := by decide +kernel
theorem dX6_readChild_88 : decode cX6_readChild 88 = .ok (.iconst 0, 1) := by decide +kernel
theorem dX6_readChild_89 : decode cX6_readChild 89 = .ok (.iconst 0, 1) := by decide +kernel
theorem dX6_readChild_90 : decode cX6_readChild 90 = .ok (.invokevirtual 311, 3) := by decide +kernel
theorem dX6_readChild_93 : decode cX6_readChild 93 = .ok (.aload_n 0, 1) := by decide +kernel
theorem dX6_readChild_94 : decode cX6_readChild 94 = .ok (.dup, 1) := by decide +kernel
theorem dX6_readChild_95 : decode cX6_readChild 95 = .ok (.getfield 315, 3) := by decide +kernel
theorem dX6_readChild_98 : decode cX6_readChild 98 = .ok (.iconst 1, 1) := by decide +kernel
theorem dX6_readChild_99 : decode cX6_readChild 99 = .ok (.iadd, 1) := by decide +kernel
theorem dX6_readChild_100 : decode cX6_readChild 100 = .ok (.putfield 315, 3) := by decide +kernel
theorem dX6_readChild_103 : decode cX6_readChild 103 = .ok (.return_, 1) := by decide +kernel
theorem dX6_readItem_0 : decode cX6_readItem 0 = .ok (.iconst (-1), 1) := by decide +kernel
theorem dX6_readItem_1 : decode cX6_readItem 1 = .ok (.istore_n 1, 1) := by decide +kernel
theorem dX6_readItem_2 : decode cX6_readItem 2 = .ok (.iconst 0, 1) := by decide +kernel
theorem dX6_readItem_3 : decode cX6_readItem 3 = .ok (.istore_n 2, 1) := by decide +kernel
theorem dX6_readItem_4 : decode cX6_readItem 4 = .ok (.iload_n 2, 1) := by decide +kernel
theorem dX6_readItem_5 : decode cX6_readItem 5 = .ok (.aload_n 0, 1) := by decide +kernel
theorem dX6_readItem_6 : decode cX6_readItem 6 = .ok (.getfield 41, 3) := by decide +kernel
theorem dX6_readItem_9 : decode cX6_readItem 9 = .ok (.arraylength, 1) := by decide +kernel
theorem dX6_readItem_10 : decode cX6_readItem 10 = .ok (.if_icmp .ge 28, 3) := by decide +kernel
theorem dX6_readItem_13 : decode cX6_readItem 13 = .ok (.aload_n 0, 1) := by decide +kernel
theorem dX6_readItem_14 : decode cX6_readItem 14 = .ok (.aload_n 0, 1) := by decide +kernel
theorem dX6_readItem_15 : decode cX6_readItem 15 = .ok (.getfield 41, 3) := by decide +kernel
theorem dX6_readItem_18 : decode cX6_readItem 18 = .ok (.iload_n 2, 1) := by decide +kernel
theorem dX6_readItem_19 : decode cX6_readItem 19 = .ok (.aaload, 1) := by decide +kernel
theorem dX6_readItem_20 : decode cX6_readItem 20 = .ok (.invokevirtual 290, 3) := by decide +kernel
theorem dX6_readItem_23 : decode cX6_readItem 23 = .ok (.ifCond .eq 7, 3) := by decide +kernel
theorem dX6_readItem_26 : decode cX6_readItem 26 = .ok (.iload_n 2, 1) := by decide +kernel
theorem dX6_readItem_27 : decode cX6_readItem 27 = .ok (.goto 4, 3) := by decide +kernel
theorem dX6_readItem_30 : decode cX6_readItem 30 = .ok (.iload_n 1, 1) := by decide +kernel
theorem dX6_readItem_31 : decode cX6_readItem 31 = .ok (.istore_n 1, 1) := by decide +kernel
theorem dX6_readItem_32 : decode cX6_readItem 32 = .ok (.iinc 2 1, 3) := by decide +kernel
theorem dX6_readItem_35 : decode cX6_readItem 35 = .ok (.goto (-31), 3) := by decide +kernel
theorem dX6_readItem_38 : decode cX6_readItem 38 = .ok (.iload_n 1, 1) := by decide +kernel
theorem dX6_readItem_39 : decode cX6_readItem 39 = .ok (.ifCond .lt 11, 3) := by decide +kernel
theorem dX6_readItem_42 : decode cX6_readItem 42 = .ok (.aload_n 0, 1) := by decide +kernel
theorem dX6_readItem_43 : decode cX6_readItem 43 = .ok (.iload_n 1, 1) := by decide +kernel
theorem dX6_readItem_44 : decode cX6_readItem 44 = .ok (.invokevirtual 322, 3) := by decide +kernel
theorem dX6_readItem_47 : decode cX6_readItem 47 = .ok (.goto 61, 3) := by decide +kernel
theorem dX6_readItem_50 : decode cX6_readItem 50 = .ok (.aload_n 0, 1) := by decide +kernel
theorem dX6_readItem_51 : decode cX6_readItem 51 = .ok (.ldc_w 325, 3) := by decide +kernel
theorem dX6_readItem_54 : decode cX6_readItem 54 = .ok (.invokevirtual 290, 3) := by decide +kernel
theorem dX6_readItem_57 : decode cX6_readItem 57 = .ok (.ifCond .eq 10, 3) := by decide +kernel
theorem dX6_readItem_60 : decode cX6_readItem 60 = .ok (.aload_n 0, 1) := by decide +kernel
theorem dX6_readItem_61 : decode cX6_readItem 61 = .ok (.invokevirtual 327, 3) := by decide +kernel
theorem dX6_readItem_64 : decode cX6_readItem 64 = .ok (.goto 44, 3) := by decide +kernel
theorem dX6_readItem_67 : decode cX6_readItem 67 = .ok (.aload_n 0, 1) := by decide +kernel
theorem dX6_readItem_68 : decode cX6_readItem 68 = .ok (.ldc_w 330, 3) := by decide +kernel
theorem dX6_readItem_71 : decode cX6_readItem 71 = .ok (.invokevirtual 299, 3) := by decide +kernel
theorem dX6_readItem_74 : decode cX6_readItem 74 = .ok (.ifCond .eq 29, 3) := by decide +kernel
theorem dX6_readItem_77 : decode cX6_readItem 77 = .ok (.aload_n 0, 1) := by decide +kernel
theorem dX6_readItem_78 : decode cX6_readItem 78 = .ok (.iconst 0, 1) := by decide +kernel
theorem dX6_readItem_79 : decode cX6_readItem 79 = .ok (.iconst 5, 1) := by decide +kernel
theorem dX6_readItem_80 : decode cX6_readItem 80 = .ok (.invokevirtual 302, 3) := by decide +kernel
theorem dX6_readItem_83 : decode cX6_readItem 83 = .ok (.istore_n 2, 1) := by decide +kernel
theorem dX6_readItem_84 : decode cX6_readItem 84 = .ok (.aload_n 0, 1) := by decide +kernel
theorem dX6_readItem_85 : decode cX6_readItem 85 = .ok (.bipush 11, 2) := by decide +kernel
theorem dX6_readItem_87 : decode cX6_readItem 87 = .ok (.iload_n 2, 1) := by decide +kernel
theorem dX6_readItem_88 : decode cX6_readItem 88 = .ok (.aload_n 0, 1) := by decide +kernel
theorem dX6_readItem_89 : decode cX6_readItem 89 = .ok (.iconst 0, 1) := by decide +kernel
theorem dX6_readItem_90 : decode cX6_readItem 90 = .ok (.bipush 9, 2) := by decide +kernel
theorem dX6_readItem_92 : decode cX6_readItem 92 = .ok (.invokevirtual 302, 3) := by decide +kernel
theorem dX6_readItem_95 : decode cX6_readItem 95 = .ok (.iconst 0, 1) := by decide +kernel
theorem dX6_readItem_96 : decode cX6_readItem 96 = .ok (.iconst 0, 1) := by decide +kernel
theorem dX6_readItem_97 : decode cX6_readItem 97 = .ok (.invokevirtual 311, 3) := by decide +kernel
theorem dX6_readItem_100 : decode cX6_readItem 100 = .ok (.goto 8, 3) := by decide +kernel
theorem dX6_readItem_103 : decode cX6_readItem 103 = .ok (.aload_n 0, 1) := by decide +kernel
theorem dX6_readItem_104 : decode cX6_readItem 104 = .ok (.iconst 0, 1) := by decide +kernel
theorem dX6_readItem_105 : decode cX6_readItem 105 = .ok (.invokevirtual 283, 3) := by decide +kernel
theorem dX6_readItem_108 : decode cX6_readItem 108 = .ok (.return_, 1) := by decide +kernel
theorem dX6_isToldSo_0 : decode cX6_isToldSo 0 = .ok (.aload_n 0, 1) := by decide +kernel
theorem dX6_isToldSo_1 : decode cX6_isToldSo 1 = .ok (.getfield 45, 3) := by decide +kernel
theorem dX6_isToldSo_4 : decode cX6_isToldSo 4 = .ok (.iload_n 1, 1) := by decide +kernel
theorem dX6_isToldSo_5 : decode cX6_isToldSo 5 = .ok (.iconst 1, 1) := by decide +kernel
theorem dX6_isToldSo_6 : decode cX6_isToldSo 6 = .ok (.iadd, 1) := by decide +kernel
theorem dX6_isToldSo_7 : decode cX6_isToldSo 7 = .ok (.iaload, 1) := by decide +kernel
theorem dX6_isToldSo_8 : decode cX6_isToldSo 8 = .ok (.istore_n 2, 1) := by decide +kernel
theorem dX6_isToldSo_9 : decode cX6_isToldSo 9 = .ok (.aload_n 0, 1) := by decide +kernel
theorem dX6_isToldSo_10 : decode cX6_isToldSo 10 = .ok (.getfield 45, 3) := by decide +kernel
theorem dX6_isToldSo_13 : decode cX6_isToldSo 13 = .ok (.iload_n 1, 1) := by decide +kernel
theorem dX6_isToldSo_14 : decode cX6_isToldSo 14 = .ok (.iconst 2, 1) := by decide +kernel
theorem dX6_isToldSo_15 : decode cX6_isToldSo 15 = .ok (.iadd, 1) := by decide +kernel
theorem dX6_isToldSo_16 : decode cX6_isToldSo 16 = .ok (.iaload, 1) := by decide +kernel
theorem dX6_isToldSo_17 : decode cX6_isToldSo 17 = .ok (.istore_n 3, 1) := by decide +kernel
theorem dX6_isToldSo_18 : decode cX6_isToldSo 18 = .ok (.iconst 0, 1) := by decide +kernel
theorem dX6_isToldSo_19 : decode cX6_isToldSo 19 = .ok (.istore 4, 2) := by decide +kernel
theorem dX6_isToldSo_21 : decode cX6_isToldSo 21 = .ok (.aload_n 0, 1) := by decide +kernel
theorem dX6_isToldSo_22 : decode cX6_isToldSo 22 = .ok (.getfield 45, 3) := by decide +kernel
theorem dX6_isToldSo_25 : decode cX6_isToldSo 25 = .ok (.iload_n 1, 1) := by decide +kernel
theorem dX6_isToldSo_26 : decode cX6_isToldSo 26 = .ok (.iaload, 1) := by decide +kernel
theorem dX6_isToldSo_27 : decode cX6_isToldSo 27 = .ok (.lookupswitch 67 #[(10, 25), (11, 55)], 25) := by decide +kernel
theorem dX6_isToldSo_52 : decode cX6_isToldSo 52 = .ok (.aload_n 0, 1) := by decide +kernel
theorem dX6_isToldSo_53 : decode cX6_isToldSo 53 = .ok (.iload_n 2, 1) := by decide +kernel
theorem dX6_isToldSo_54 : decode cX6_isToldSo 54 = .ok (.iload_n 3, 1) := by decide +kernel
theorem dX6_isToldSo_55 : decode cX6_isToldSo 55 = .ok (.invokevirtual 101, 3) := by decide +kernel
theorem dX6_isToldSo_58 : decode cX6_isToldSo 58 = .ok (.istore 4, 2) := by decide +kernel
theorem dX6_isToldSo_60 : decode cX6_isToldSo 60 = .ok (.aload_n 0, 1) := by decide +kernel
theorem dX6_isToldSo_61 : decode cX6_isToldSo 61 = .ok (.getfield 9, 3) := by decide +kernel
theorem dX6_isToldSo_64 : decode cX6_isToldSo 64 = .ok (.iload 4, 2) := by decide +kernel
theorem dX6_isToldSo_66 : decode cX6_isToldSo 66 = .ok (.iconst 2, 1) := by decide +kernel
theorem dX6_isToldSo_67 : decode cX6_isToldSo 67 = .ok (.invokestatic 88, 3) := by decide +kernel
theorem dX6_isToldSo_70 : decode cX6_isToldSo 70 = .ok (.aload_n 0, 1) := by decide +kernel
theorem dX6_isToldSo_71 : decode cX6_isToldSo 71 = .ok (.getfield 45, 3) := by decide +kernel
theorem dX6_isToldSo_74 : decode cX6_isToldSo 74 = .ok (.iload_n 1, 1) := by decide +kernel
theorem dX6_isToldSo_75 : decode cX6_isToldSo 75 = .ok (.iconst 3, 1) := by decide +kernel
theorem dX6_isToldSo_76 : decode cX6_isToldSo 76 = .ok (.iadd, 1) := by decide +kernel
theorem dX6_isToldSo_77 : decode cX6_isToldSo 77 = .ok (.iaload, 1) := by decide +kernel
theorem dX6_isToldSo_78 : decode cX6_isToldSo 78 = .ok (.iastore, 1) := by decide +kernel
theorem dX6_isToldSo_79 : decode cX6_isToldSo 79 = .ok (.goto 78, 3) := by decide +kernel
theorem dX6_isToldSo_82 : decode cX6_isToldSo 82 = .ok (.aload_n 0, 1) := by decide +kernel
theorem dX6_isToldSo_83 : decode cX6_isToldSo 83 = .ok (.getfield 9, 3) := by decide +kernel
theorem dX6_isToldSo_86 : decode cX6_isToldSo 86 = .ok (.iconst 4, 1) := by decide +kernel
theorem dX6_isToldSo_87 : decode cX6_isToldSo 87 = .ok (.iload_n 2, 1) := by decide +kernel
theorem dX6_isToldSo_88 : decode cX6_isToldSo 88 = .ok (.iadd, 1) := by decide +kernel
theorem dX6_isToldSo_89 : decode cX6_isToldSo 89 = .ok (.iload_n 3, 1) := by decide +kernel
theorem dX6_isToldSo_90 : decode cX6_isToldSo 90 = .ok (.iastore, 1) := by decide +kernel
theorem dX6_isToldSo_91 : decode cX6_isToldSo 91 = .ok (.goto 66, 3) := by decide +kernel
theorem dX6_isToldSo_94 : decode cX6_isToldSo 94 = .ok (.aload_n 0, 1) := by decide +kernel
theorem dX6_isToldSo_95 : decode cX6_isToldSo 95 = .ok (.aload_n 0, 1) := by decide +kernel
theorem dX6_isToldSo_96 : decode cX6_isToldSo 96 = .ok (.getfield 45, 3) := by decide +kernel
theorem dX6_isToldSo_99 : decode cX6_isToldSo 99 = .ok (.iload_n 1, 1) := by decide +kernel
theorem dX6_isToldSo_100 : decode cX6_isToldSo 100 = .ok (.iaload, 1) := by decide +kernel
theorem dX6_isToldSo_101 : decode cX6_isToldSo 101 = .ok (.iload_n 2, 1) := by decide +kernel
theorem dX6_isToldSo_102 : decode cX6_isToldSo 102 = .ok (.invokevirtual 98, 3) := by decide +kernel
theorem dX6_isToldSo_105 : decode cX6_isToldSo 105 = .ok (.istore 4, 2) := by decide +kernel
theorem dX6_isToldSo_107 : decode cX6_isToldSo 107 = .ok (.aload_n 0, 1) := by decide +kernel
theorem dX6_isToldSo_108 : decode cX6_isToldSo 108 = .ok (.getfield 9, 3) := by decide +kernel
theorem dX6_isToldSo_111 : decode cX6_isToldSo 111 = .ok (.iload 4, 2) := by decide +kernel
theorem dX6_isToldSo_113 : decode cX6_isToldSo 113 = .ok (.iconst 2, 1) := by decide +kernel
theorem dX6_isToldSo_114 : decode cX6_isToldSo 114 = .ok (.invokestatic 85, 3) := by decide +kernel
theorem dX6_isToldSo_117 : decode cX6_isToldSo 117 = .ok (.iload_n 3, 1) := by decide +kernel
theorem dX6_isToldSo_118 : decode cX6_isToldSo 118 = .ok (.iastore, 1) := by decide +kernel
theorem dX6_isToldSo_119 : decode cX6_isToldSo 119 = .ok (.aload_n 0, 1) := by decide +kernel
theorem dX6_isToldSo_120 : decode cX6_isToldSo 120 = .ok (.getfield 9, 3) := by decide +kernel
theorem dX6_isToldSo_123 : decode cX6_isToldSo 123 = .ok (.iload 4, 2) := by decide +kernel
theorem dX6_isToldSo_125 : decode cX6_isToldSo 125 = .ok (.iconst 3, 1) := by decide +kernel
theorem dX6_isToldSo_126 : decode cX6_isToldSo 126 = .ok (.invokestatic 85, 3) := by decide +kernel
theorem dX6_isToldSo_129 : decode cX6_isToldSo 129 = .ok (.aload_n 0, 1) := by decide +kernel
theorem dX6_isToldSo_130 : decode cX6_isToldSo 130 = .ok (.getfield 45, 3) := by decide +kernel
theorem dX6_isToldSo_133 : decode cX6_isToldSo 133 = .ok (.iload_n 1, 1) := by decide +kernel
theorem dX6_isToldSo_134 : decode cX6_isToldSo 134 = .ok (.iconst 3, 1) := by decide +kernel
theorem dX6_isToldSo_135 : decode cX6_isToldSo 135 = .ok (.iadd, 1) := by decide +kernel
theorem dX6_isToldSo_136 : decode cX6_isToldSo 136 = .ok (.iaload, 1) := by decide +kernel
theorem dX6_isToldSo_137 : decode cX6_isToldSo 137 = .ok (.iastore, 1) := by decide +kernel
theorem dX6_isToldSo_138 : decode cX6_isToldSo 138 = .ok (.aload_n 0, 1) := by decide +kernel
theorem dX6_isToldSo_139 : decode cX6_isToldSo 139 = .ok (.getfield 9, 3) := by decide +kernel
theorem dX6_isToldSo_142 : decode cX6_isToldSo 142 = .ok (.iload 4, 2) := by decide +kernel
theorem dX6_isToldSo_144 : decode cX6_isToldSo 144 = .ok (.iconst 5, 1) := by decide +kernel
theorem dX6_isToldSo_145 : decode cX6_isToldSo 145 = .ok (.invokestatic 85, 3) := by decide +kernel
theorem dX6_isToldSo_148 : decode cX6_isToldSo 148 = .ok (.aload_n 0, 1) := by decide +kernel
theorem dX6_isToldSo_149 : decode cX6_isToldSo 149 = .ok (.getfield 45, 3) := by decide +kernel
theorem dX6_isToldSo_152 : decode cX6_isToldSo 152 = .ok (.iload_n 1, 1) := by decide +kernel
theorem dX6_isToldSo_153 : decode cX6_isToldSo 153 = .ok (.iconst 4, 1) := by decide +kernel
theorem dX6_isToldSo_154 : decode cX6_isToldSo 154 = .ok (.iadd, 1) := by decide +kernel
theorem dX6_isToldSo_155 : decode cX6_isToldSo 155 = .ok (.iaload, 1) := by decide +kernel
theorem dX6_isToldSo_156 : decode cX6_isToldSo 156 = .ok (.iastore, 1) := by decide +kernel
theorem dX6_isToldSo_157 : decode cX6_isToldSo 157 = .ok (.return_, 1) := by decide +kernel
theorem dX6_text_0 : decode cX6_text 0 = .ok (.aload_n 0, 1) := by decide +kernel
theorem dX6_text_1 : decode cX6_text 1 = .ok (.iconst 0, 1) := by decide +kernel
theorem dX6_text_2 : decode cX6_text 2 = .ok (.putfield 254, 3) := by decide +kernel
theorem dX6_text_5 : decode cX6_text 5 = .ok (.aload_n 0, 1) := by decide +kernel
theorem dX6_text_6 : decode cX6_text 6 = .ok (.iconst 0, 1) := by decide +kernel
theorem dX6_text_7 : decode cX6_text 7 = .ok (.putfield 276, 3) := by decide +kernel
theorem dX6_text_10 : decode cX6_text 10 = .ok (.aload_n 0, 1) := by decide +kernel
theorem dX6_text_11 : decode cX6_text 11 = .ok (.iconst 0, 1) := by decide +kernel
theorem dX6_text_12 : decode cX6_text 12 = .ok (.putfield 287, 3) := by decide +kernel
theorem dX6_text_15 : decode cX6_text 15 = .ok (.aload_n 0, 1) := by decide +kernel
theorem dX6_text_16 : decode cX6_text 16 = .ok (.aload_n 0, 1) := by decide +kernel
theorem dX6_text_17 : decode cX6_text 17 = .ok (.getfield 9, 3) := by decide +kernel
theorem dX6_text_20 : decode cX6_text 20 = .ok (.iconst 1, 1) := by decide +kernel
theorem dX6_text_21 : decode cX6_text 21 = .ok (.iaload, 1) := by decide +kernel
theorem dX6_text_22 : decode cX6_text 22 = .ok (.putfield 294, 3) := by decide +kernel
theorem dX6_text_25 : decode cX6_text 25 = .ok (.aload_n 0, 1) := by decide +kernel
theorem dX6_text_26 : decode cX6_text 26 = .ok (.aload_n 0, 1) := by decide +kernel
theorem dX6_text_27 : decode cX6_text 27 = .ok (.getfield 9, 3) := by decide +kernel
theorem dX6_text_30 : decode cX6_text 30 = .ok (.iconst 3, 1) := by decide +kernel
theorem dX6_text_31 : decode cX6_text 31 = .ok (.iaload, 1) := by decide +kernel
theorem dX6_text_32 : decode cX6_text 32 = .ok (.putfield 315, 3) := by decide +kernel
theorem dX6_text_35 : decode cX6_text 35 = .ok (.aload_n 0, 1) := by decide +kernel
theorem dX6_text_36 : decode cX6_text 36 = .ok (.invokevirtual 280, 3) := by decide +kernel
theorem dX6_text_39 : decode cX6_text 39 = .ok (.aload_n 0, 1) := by decide +kernel
theorem dX6_text_40 : decode cX6_text 40 = .ok (.invokevirtual 332, 3) := by decide +kernel
theorem dX6_text_43 : decode cX6_text 43 = .ok (.aload_n 0, 1) := by decide +kernel
theorem dX6_text_44 : decode cX6_text 44 = .ok (.getfield 276, 3) := by decide +kernel
theorem dX6_text_47 : decode cX6_text 47 = .ok (.ifCond .ne 37, 3) := by decide +kernel
theorem dX6_text_50 : decode cX6_text 50 = .ok (.aload_n 0, 1) := by decide +kernel
theorem dX6_text_51 : decode cX6_text 51 = .ok (.getfield 266, 3) := by decide +kernel
theorem dX6_text_54 : decode cX6_text 54 = .ok (.iconst 3, 1) := by decide +kernel
theorem dX6_text_55 : decode cX6_text 55 = .ok (.if_icmp .ne 29, 3) := by decide +kernel
theorem dX6_text_58 : decode cX6_text 58 = .ok (.aload_n 0, 1) := by decide +kernel
theorem dX6_text_59 : decode cX6_text 59 = .ok (.getfield 22, 3) := by decide +kernel
theorem dX6_text_62 : decode cX6_text 62 = .ok (.aload_n 0, 1) := by decide +kernel
theorem dX6_text_63 : decode cX6_text 63 = .ok (.getfield 257, 3) := by decide +kernel
theorem dX6_text_66 : decode cX6_text 66 = .ok (.iaload, 1) := by decide +kernel
theorem dX6_text_67 : decode cX6_text 67 = .ok (.bipush 59, 2) := by decide +kernel
theorem dX6_text_69 : decode cX6_text 69 = .ok (.if_icmp .ne 15, 3) := by decide +kernel
theorem dX6_text_72 : decode cX6_text 72 = .ok (.aload_n 0, 1) := by decide +kernel
theorem dX6_text_73 : decode cX6_text 73 = .ok (.iconst 1, 1) := by decide +kernel
theorem dX6_text_74 : decode cX6_text 74 = .ok (.invokevirtual 283, 3) := by decide +kernel
theorem dX6_text_77 : decode cX6_text 77 = .ok (.aload_n 0, 1) := by decide +kernel
theorem dX6_text_78 : decode cX6_text 78 = .ok (.invokevirtual 332, 3) := by decide +kernel
theorem dX6_text_81 : decode cX6_text 81 = .ok (.goto (-38), 3) := by decide +kernel
theorem dX6_text_84 : decode cX6_text 84 = .ok (.aload_n 0, 1) := by decide +kernel
theorem dX6_text_85 : decode cX6_text 85 = .ok (.aload_n 0, 1) := by decide +kernel
theorem dX6_text_86 : decode cX6_text 86 = .ok (.getfield 266, 3) := by decide +kernel
theorem dX6_text_89 : decode cX6_text 89 = .ok (.ifCond .ne 7, 3) := by decide +kernel
theorem dX6_text_92 : decode cX6_text 92 = .ok (.iconst 1, 1) := by decide +kernel
theorem dX6_text_93 : decode cX6_text 93 = .ok (.goto 4, 3) := by decide +kernel
theorem dX6_text_96 : decode cX6_text 96 = .ok (.iconst 0, 1) := by decide +kernel
theorem dX6_text_97 : decode cX6_text 97 = .ok (.invokevirtual 283, 3) := by decide +kernel
theorem dX6_text_100 : decode cX6_text 100 = .ok (.aload_n 0, 1) := by decide +kernel
theorem dX6_text_101 : decode cX6_text 101 = .ok (.iconst 0, 1) := by decide +kernel
theorem dX6_text_102 : decode cX6_text 102 = .ok (.putfield 250, 3) := by decide +kernel
theorem dX6_text_105 : decode cX6_text 105 = .ok (.aload_n 0, 1) := by decide +kernel
theorem dX6_text_106 : decode cX6_text 106 = .ok (.getfield 276, 3) := by decide +kernel
theorem dX6_text_109 : decode cX6_text 109 = .ok (.ifCond .eq 10, 3) := by decide +kernel
theorem dX6_text_112 : decode cX6_text 112 = .ok (.iconst (-1), 1) := by decide +kernel
theorem dX6_text_113 : decode cX6_text 113 = .ok (.aload_n 0, 1) := by decide +kernel
theorem dX6_text_114 : decode cX6_text 114 = .ok (.getfield 257, 3) := by decide +kernel
theorem dX6_text_117 : decode cX6_text 117 = .ok (.isub, 1) := by decide +kernel
theorem dX6_text_118 : decode cX6_text 118 = .ok (.ireturn, 1) := by decide +kernel
theorem dX6_text_119 : decode cX6_text 119 = .ok (.iconst 0, 1) := by decide +kernel
theorem dX6_text_120 : decode cX6_text 120 = .ok (.istore_n 1, 1) := by decide +kernel
theorem dX6_text_121 : decode cX6_text 121 = .ok (.iload_n 1, 1) := by decide +kernel
theorem dX6_text_122 : decode cX6_text 122 = .ok (.aload_n 0, 1) := by decide +kernel
theorem dX6_text_123 : decode cX6_text 123 = .ok (.getfield 287, 3) := by decide +kernel
theorem dX6_text_126 : decode cX6_text 126 = .ok (.if_icmp .ge 16, 3) := by decide +kernel
theorem dX6_text_129 : decode cX6_text 129 = .ok (.aload_n 0, 1) := by decide +kernel
theorem dX6_text_130 : decode cX6_text 130 = .ok (.iconst 5, 1) := by decide +kernel
theorem dX6_text_131 : decode cX6_text 131 = .ok (.iload_n 1, 1) := by decide +kernel
theorem dX6_text_132 : decode cX6_text 132 = .ok (.imul, 1) := by decide +kernel
theorem dX6_text_133 : decode cX6_text 133 = .ok (.invokevirtual 335, 3) := by decide +kernel
theorem dX6_text_136 : decode cX6_text 136 = .ok (.iinc 1 1, 3) := by decide +kernel
theorem dX6_text_139 : decode cX6_text 139 = .ok (.goto (-18), 3) := by decide +kernel
theorem dX6_text_142 : decode cX6_text 142 = .ok (.aload_n 0, 1) := by decide +kernel
theorem dX6_text_143 : decode cX6_text 143 = .ok (.getfield 287, 3) := by decide +kernel
theorem dX6_text_146 : decode cX6_text 146 = .ok (.ireturn, 1) := by decide +kernel
theorem dX6_isSpot_0 : decode cX6_isSpot 0 = .ok (.iload_n 0, 1) := by decide +kernel
theorem dX6_isSpot_1 : decode cX6_isSpot 1 = .ok (.iconst 0, 1) := by decide +kernel
theorem dX6_isSpot_2 : decode cX6_isSpot 2 = .ok (.bipush 9, 2) := by decide +kernel
theorem dX6_isSpot_4 : decode cX6_isSpot 4 = .ok (.invokestatic 70, 3) := by decide +kernel
theorem dX6_isSpot_7 : decode cX6_isSpot 7 = .ok (.ireturn, 1) := by decide +kernel
theorem dX6_hold_0 : decode cX6_hold 0 = .ok (.iload_n 1, 1) := by decide +kernel
theorem dX6_hold_1 : decode cX6_hold 1 = .ok (.invokestatic 338, 3) := by decide +kernel
theorem dX6_hold_4 : decode cX6_hold 4 = .ok (.ifCond .eq 16, 3) := by decide +kernel
theorem dX6_hold_7 : decode cX6_hold 7 = .ok (.iload_n 2, 1) := by decide +kernel
theorem dX6_hold_8 : decode cX6_hold 8 = .ok (.iconst (-1), 1) := by decide +kernel
theorem dX6_hold_9 : decode cX6_hold 9 = .ok (.if_icmp .eq 18, 3) := by decide +kernel
theorem dX6_hold_12 : decode cX6_hold 12 = .ok (.aload_n 0, 1) := by decide +kernel
theorem dX6_hold_13 : decode cX6_hold 13 = .ok (.iload_n 2, 1) := by decide +kernel
theorem dX6_hold_14 : decode cX6_hold 14 = .ok (.invokevirtual 131, 3) := by decide +kernel
theorem dX6_hold_17 : decode cX6_hold 17 = .ok (.ifCond .ne 10, 3) := by decide +kernel
theorem dX6_hold_20 : decode cX6_hold 20 = .ok (.aload_n 0, 1) := by decide +kernel
theorem dX6_hold_21 : decode cX6_hold 21 = .ok (.ldc 60, 2) := by decide +kernel
theorem dX6_hold_23 : decode cX6_hold 23 = .ok (.invokevirtual 66, 3) := by decide +kernel
theorem dX6_hold_26 : decode cX6_hold 26 = .ok (.ireturn, 1) := by decide +kernel
theorem dX6_hold_27 : decode cX6_hold 27 = .ok (.aload_n 0, 1) := by decide +kernel
theorem dX6_hold_28 : decode cX6_hold 28 = .ok (.getfield 9, 3) := by decide +kernel
theorem dX6_hold_31 : decode cX6_hold 31 = .ok (.bipush 10, 2) := by decide +kernel
theorem dX6_hold_33 : decode cX6_hold 33 = .ok (.iload_n 1, 1) := by decide +kernel
theorem dX6_hold_34 : decode cX6_hold 34 = .ok (.iadd, 1) := by decide +kernel
theorem dX6_hold_35 : decode cX6_hold 35 = .ok (.iload_n 2, 1) := by decide +kernel
theorem dX6_hold_36 : decode cX6_hold 36 = .ok (.iastore, 1) := by decide +kernel
theorem dX6_hold_37 : decode cX6_hold 37 = .ok (.iconst 1, 1) := by decide +kernel
theorem dX6_hold_38 : decode cX6_hold 38 = .ok (.ireturn, 1) := by decide +kernel
theorem dX6_as_0 : decode cX6_as 0 = .ok (.iload_n 1, 1) := by decide +kernel
theorem dX6_as_1 : decode cX6_as 1 = .ok (.invokestatic 338, 3) := by decide +kernel
theorem dX6_as_4 : decode cX6_as 4 = .ok (.ifCond .eq 10, 3) := by decide +kernel
theorem dX6_as_7 : decode cX6_as 7 = .ok (.iload_n 2, 1) := by decide +kernel
theorem dX6_as_8 : decode cX6_as 8 = .ok (.invokestatic 91, 3) := by decide +kernel
theorem dX6_as_11 : decode cX6_as 11 = .ok (.ifCond .ne 10, 3) := by decide +kernel
theorem dX6_as_14 : decode cX6_as 14 = .ok (.aload_n 0, 1) := by decide +kernel
theorem dX6_as_15 : decode cX6_as 15 = .ok (.ldc 60, 2) := by decide +kernel
theorem dX6_as_17 : decode cX6_as 17 = .ok (.invokevirtual 66, 3) := by decide +kernel
theorem dX6_as_20 : decode cX6_as 20 = .ok (.ireturn, 1) := by decide +kernel
theorem dX6_as_21 : decode cX6_as 21 = .ok (.aload_n 0, 1) := by decide +kernel
theorem dX6_as_22 : decode cX6_as 22 = .ok (.getfield 9, 3) := by decide +kernel
theorem dX6_as_25 : decode cX6_as 25 = .ok (.bipush 10, 2) := by decide +kernel
theorem dX6_as_27 : decode cX6_as 27 = .ok (.iload_n 1, 1) := by decide +kernel
theorem dX6_as_28 : decode cX6_as 28 = .ok (.iadd, 1) := by decide +kernel
theorem dX6_as_29 : decode cX6_as 29 = .ok (.iaload, 1) := by decide +kernel
theorem dX6_as_30 : decode cX6_as 30 = .ok (.istore_n 3, 1) := by decide +kernel
theorem dX6_as_31 : decode cX6_as 31 = .ok (.iload_n 3, 1) := by decide +kernel
theorem dX6_as_32 : decode cX6_as 32 = .ok (.ifCond .ge 10, 3) := by decide +kernel
theorem dX6_as_35 : decode cX6_as 35 = .ok (.aload_n 0, 1) := by decide +kernel
theorem dX6_as_36 : decode cX6_as 36 = .ok (.ldc 234, 2) := by decide +kernel
theorem dX6_as_38 : decode cX6_as 38 = .ok (.invokevirtual 66, 3) := by decide +kernel
theorem dX6_as_41 : decode cX6_as 41 = .ok (.ireturn, 1) := by decide +kernel
theorem dX6_as_42 : decode cX6_as 42 = .ok (.aload_n 0, 1) := by decide +kernel
theorem dX6_as_43 : decode cX6_as 43 = .ok (.iload_n 3, 1) := by decide +kernel
theorem dX6_as_44 : decode cX6_as 44 = .ok (.iconst 0, 1) := by decide +kernel
theorem dX6_as_45 : decode cX6_as 45 = .ok (.invokevirtual 104, 3) := by decide +kernel
theorem dX6_as_48 : decode cX6_as 48 = .ok (.iload_n 2, 1) := by decide +kernel
theorem dX6_as_49 : decode cX6_as 49 = .ok (.invokestatic 341, 3) := by decide +kernel
theorem dX6_as_52 : decode cX6_as 52 = .ok (.ifCond .eq 7, 3) := by decide +kernel
theorem dX6_as_55 : decode cX6_as 55 = .ok (.iload_n 3, 1) := by decide +kernel
theorem dX6_as_56 : decode cX6_as 56 = .ok (.goto 10, 3) := by decide +kernel
theorem dX6_as_59 : decode cX6_as 59 = .ok (.aload_n 0, 1) := by decide +kernel
theorem dX6_as_60 : decode cX6_as 60 = .ok (.ldc_w 344, 3) := by decide +kernel
theorem dX6_as_63 : decode cX6_as 63 = .ok (.invokevirtual 66, 3) := by decide +kernel
theorem dX6_as_66 : decode cX6_as 66 = .ok (.ireturn, 1) := by decide +kernel
theorem dX6_isSheet_0 : decode cX6_isSheet 0 = .ok (.iload_n 0, 1) := by decide +kernel
theorem dX6_isSheet_1 : decode cX6_isSheet 1 = .ok (.iconst 0, 1) := by decide +kernel
theorem dX6_isSheet_2 : decode cX6_isSheet 2 = .ok (.iconst 3, 1) := by decide +kernel
theorem dX6_isSheet_3 : decode cX6_isSheet 3 = .ok (.invokestatic 70, 3) := by decide +kernel
theorem dX6_isSheet_6 : decode cX6_isSheet 6 = .ok (.ireturn, 1) := by decide +kernel
theorem dX6_cutTo_0 : decode cX6_cutTo 0 = .ok (.iload_n 1, 1) := by decide +kernel
theorem dX6_cutTo_1 : decode cX6_cutTo 1 = .ok (.bipush 8, 2) := by decide +kernel
theorem dX6_cutTo_3 : decode cX6_cutTo 3 = .ok (.if_icmp .ne 8, 3) := by decide +kernel
theorem dX6_cutTo_6 : decode cX6_cutTo 6 = .ok (.iload_n 0, 1) := by decide +kernel
theorem dX6_cutTo_7 : decode cX6_cutTo 7 = .ok (.i2b, 1) := by decide +kernel
theorem dX6_cutTo_8 : decode cX6_cutTo 8 = .ok (.goto 15, 3) := by decide +kernel
theorem dX6_cutTo_11 : decode cX6_cutTo 11 = .ok (.iload_n 1, 1) := by decide +kernel
theorem dX6_cutTo_12 : decode cX6_cutTo 12 = .ok (.bipush 16, 2) := by decide +kernel
theorem dX6_cutTo_14 : decode cX6_cutTo 14 = .ok (.if_icmp .ne 8, 3) := by decide +kernel
theorem dX6_cutTo_17 : decode cX6_cutTo 17 = .ok (.iload_n 0, 1) := by decide +kernel
theorem dX6_cutTo_18 : decode cX6_cutTo 18 = .ok (.i2s, 1) := by decide +kernel
theorem dX6_cutTo_19 : decode cX6_cutTo 19 = .ok (.goto 4, 3) := by decide +kernel
theorem dX6_cutTo_22 : decode cX6_cutTo 22 = .ok (.iload_n 0, 1) := by decide +kernel
theorem dX6_cutTo_23 : decode cX6_cutTo 23 = .ok (.ireturn, 1) := by decide +kernel
theorem dX6_sheet_0 : decode cX6_sheet 0 = .ok (.iload_n 1, 1) := by decide +kernel
theorem dX6_sheet_1 : decode cX6_sheet 1 = .ok (.invokestatic 231, 3) := by decide +kernel
theorem dX6_sheet_4 : decode cX6_sheet 4 = .ok (.ifCond .eq 25, 3) := by decide +kernel
theorem dX6_sheet_7 : decode cX6_sheet 7 = .ok (.iload_n 2, 1) := by decide +kernel
theorem dX6_sheet_8 : decode cX6_sheet 8 = .ok (.ifCond .eq 28, 3) := by decide +kernel
theorem dX6_sheet_11 : decode cX6_sheet 11 = .ok (.iload_n 2, 1) := by decide +kernel
theorem dX6_sheet_12 : decode cX6_sheet 12 = .ok (.bipush 8, 2) := by decide +kernel
theorem dX6_sheet_14 : decode cX6_sheet 14 = .ok (.if_icmp .eq 22, 3) := by decide +kernel
theorem dX6_sheet_17 : decode cX6_sheet 17 = .ok (.iload_n 2, 1) := by decide +kernel
theorem dX6_sheet_18 : decode cX6_sheet 18 = .ok (.bipush 16, 2) := by decide +kernel
theorem dX6_sheet_20 : decode cX6_sheet 20 = .ok (.if_icmp .eq 16, 3) := by decide +kernel
theorem dX6_sheet_23 : decode cX6_sheet 23 = .ok (.iload_n 2, 1) := by decide +kernel
theorem dX6_sheet_24 : decode cX6_sheet 24 = .ok (.bipush 32, 2) := by decide +kernel
theorem dX6_sheet_26 : decode cX6_sheet 26 = .ok (.if_icmp .eq 10, 3) := by decide +kernel
theorem dX6_sheet_29 : decode cX6_sheet 29 = .ok (.aload_n 0, 1) := by decide +kernel
theorem dX6_sheet_30 : decode cX6_sheet 30 = .ok (.ldc 60, 2) := by decide +kernel
theorem dX6_sheet_32 : decode cX6_sheet 32 = .ok (.invokevirtual 66, 3) := by decide +kernel
theorem dX6_sheet_35 : decode cX6_sheet 35 = .ok (.ireturn, 1) := by decide +kernel
theorem dX6_sheet_36 : decode cX6_sheet 36 = .ok (.iload_n 3, 1) := by decide +kernel
theorem dX6_sheet_37 : decode cX6_sheet 37 = .ok (.ifCond .ge 11, 3) := by decide +kernel
theorem dX6_sheet_40 : decode cX6_sheet 40 = .ok (.aload_n 0, 1) := by decide +kernel
theorem dX6_sheet_41 : decode cX6_sheet 41 = .ok (.ldc_w 345, 3) := by decide +kernel
theorem dX6_sheet_44 : decode cX6_sheet 44 = .ok (.invokevirtual 66, 3) := by decide +kernel
theorem dX6_sheet_47 : decode cX6_sheet 47 = .ok (.ireturn, 1) := by decide +kernel
theorem dX6_sheet_48 : decode cX6_sheet 48 = .ok (.iload_n 3, 1) := by decide +kernel
theorem dX6_sheet_49 : decode cX6_sheet 49 = .ok (.bipush 40, 2) := by decide +kernel
theorem dX6_sheet_51 : decode cX6_sheet 51 = .ok (.if_icmp .le 10, 3) := by decide +kernel
theorem dX6_sheet_54 : decode cX6_sheet 54 = .ok (.aload_n 0, 1) := by decide +kernel
theorem dX6_sheet_55 : decode cX6_sheet 55 = .ok (.ldc 60, 2) := by decide +kernel
theorem dX6_sheet_57 : decode cX6_sheet 57 = .ok (.invokevirtual 66, 3) := by decide +kernel
theorem dX6_sheet_60 : decode cX6_sheet 60 = .ok (.ireturn, 1) := by decide +kernel
theorem dX6_sheet_61 : decode cX6_sheet 61 = .ok (.aload_n 0, 1) := by decide +kernel
theorem dX6_sheet_62 : decode cX6_sheet 62 = .ok (.getfield 48, 3) := by decide +kernel
theorem dX6_sheet_65 : decode cX6_sheet 65 = .ok (.iload_n 1, 1) := by decide +kernel
theorem dX6_sheet_66 : decode cX6_sheet 66 = .ok (.iload_n 2, 1) := by decide +kernel
theorem dX6_sheet_67 : decode cX6_sheet 67 = .ok (.iastore, 1) := by decide +kernel
theorem dX6_sheet_68 : decode cX6_sheet 68 = .ok (.aload_n 0, 1) := by decide +kernel
theorem dX6_sheet_69 : decode cX6_sheet 69 = .ok (.getfield 51, 3) := by decide +kernel
theorem dX6_sheet_72 : decode cX6_sheet 72 = .ok (.iload_n 1, 1) := by decide +kernel
theorem dX6_sheet_73 : decode cX6_sheet 73 = .ok (.iload_n 2, 1) := by decide +kernel
theorem dX6_sheet_74 : decode cX6_sheet 74 = .ok (.ifCond .ne 7, 3) := by decide +kernel
theorem dX6_sheet_77 : decode cX6_sheet 77 = .ok (.iconst 0, 1) := by decide +kernel
theorem dX6_sheet_78 : decode cX6_sheet 78 = .ok (.goto 4, 3) := by decide +kernel
theorem dX6_sheet_81 : decode cX6_sheet 81 = .ok (.iload_n 3, 1) := by decide +kernel
theorem dX6_sheet_82 : decode cX6_sheet 82 = .ok (.iastore, 1) := by decide +kernel
theorem dX6_sheet_83 : decode cX6_sheet 83 = .ok (.iconst 0, 1) := by decide +kernel
theorem dX6_sheet_84 : decode cX6_sheet 84 = .ok (.istore 4, 2) := by decide +kernel
theorem dX6_sheet_86 : decode cX6_sheet 86 = .ok (.iload 4, 2) := by decide +kernel
theorem dX6_sheet_88 : decode cX6_sheet 88 = .ok (.bipush 40, 2) := by decide +kernel
theorem dX6_sheet_90 : decode cX6_sheet 90 = .ok (.if_icmp .ge 22, 3) := by decide +kernel
theorem dX6_sheet_93 : decode cX6_sheet 93 = .ok (.aload_n 0, 1) := by decide +kernel
theorem dX6_sheet_94 : decode cX6_sheet 94 = .ok (.getfield 54, 3) := by decide +kernel
theorem dX6_sheet_97 : decode cX6_sheet 97 = .ok (.bipush 40, 2) := by decide +kernel
theorem dX6_sheet_99 : decode cX6_sheet 99 = .ok (.iload_n 1, 1) := by decide +kernel
theorem dX6_sheet_100 : decode cX6_sheet 100 = .ok (.imul, 1) := by decide +kernel
theorem dX6_sheet_101 : decode cX6_sheet 101 = .ok (.iload 4, 2) := by decide +kernel
theorem dX6_sheet_103 : decode cX6_sheet 103 = .ok (.iadd, 1) := by decide +kernel
theorem dX6_sheet_104 : decode cX6_sheet 104 = .ok (.iconst 0, 1) := by decide +kernel
theorem dX6_sheet_105 : decode cX6_sheet 105 = .ok (.iastore, 1) := by decide +kernel
theorem dX6_sheet_106 : decode cX6_sheet 106 = .ok (.iinc 4 1, 3) := by decide +kernel
theorem dX6_sheet_109 : decode cX6_sheet 109 = .ok (.goto (-23), 3) := by decide +kernel
theorem dX6_sheet_112 : decode cX6_sheet 112 = .ok (.aload_n 0, 1) := by decide +kernel
theorem dX6_sheet_113 : decode cX6_sheet 113 = .ok (.getfield 51, 3) := by decide +kernel
theorem dX6_sheet_116 : decode cX6_sheet 116 = .ok (.iload_n 1, 1) := by decide +kernel
theorem dX6_sheet_117 : decode cX6_sheet 117 = .ok (.iaload, 1) := by decide +kernel
theorem dX6_sheet_118 : decode cX6_sheet 118 = .ok (.ireturn, 1) := by decide +kernel
theorem dX6_write_0 : decode cX6_write 0 = .ok (.iload_n 1, 1) := by decide +kernel
theorem dX6_write_1 : decode cX6_write 1 = .ok (.invokestatic 231, 3) := by decide +kernel
theorem dX6_write_4 : decode cX6_write 4 = .ok (.ifCond .ne 10, 3) := by decide +kernel
theorem dX6_write_7 : decode cX6_write 7 = .ok (.aload_n 0, 1) := by decide +kernel
theorem dX6_write_8 : decode cX6_write 8 = .ok (.ldc 60, 2) := by decide +kernel
theorem dX6_write_10 : decode cX6_write 10 = .ok (.invokevirtual 66, 3) := by decide +kernel
theorem dX6_write_13 : decode cX6_write 13 = .ok (.ireturn, 1) := by decide +kernel
theorem dX6_write_14 : decode cX6_write 14 = .ok (.aload_n 0, 1) := by decide +kernel
theorem dX6_write_15 : decode cX6_write 15 = .ok (.getfield 48, 3) := by decide +kernel
theorem dX6_write_18 : decode cX6_write 18 = .ok (.iload_n 1, 1) := by decide +kernel
theorem dX6_write_19 : decode cX6_write 19 = .ok (.iaload, 1) := by decide +kernel
theorem dX6_write_20 : decode cX6_write 20 = .ok (.ifCond .ne 10, 3) := by decide +kernel
theorem dX6_write_23 : decode cX6_write 23 = .ok (.aload_n 0, 1) := by decide +kernel
theorem dX6_write_24 : decode cX6_write 24 = .ok (.ldc 234, 2) := by decide +kernel
theorem dX6_write_26 : decode cX6_write 26 = .ok (.invokevirtual 66, 3) := by decide +kernel
theorem dX6_write_29 : decode cX6_write 29 = .ok (.ireturn, 1) := by decide +kernel
theorem dX6_write_30 : decode cX6_write 30 = .ok (.iload_n 2, 1) := by decide +kernel
theorem dX6_write_31 : decode cX6_write 31 = .ok (.iconst 0, 1) := by decide +kernel
theorem dX6_write_32 : decode cX6_write 32 = .ok (.aload_n 0, 1) := by decide +kernel
theorem dX6_write_33 : decode cX6_write 33 = .ok (.getfield 51, 3) := by decide +kernel
theorem dX6_write_36 : decode cX6_write 36 = .ok (.iload_n 1, 1) := by decide +kernel
theorem dX6_write_37 : decode cX6_write 37 = .ok (.iaload, 1) := by decide +kernel
theorem dX6_write_38 : decode cX6_write 38 = .ok (.iconst 1, 1) := by decide +kernel
theorem dX6_write_39 : decode cX6_write 39 = .ok (.isub, 1) := by decide +kernel
theorem dX6_write_40 : decode cX6_write 40 = .ok (.invokestatic 70, 3) := by decide +kernel
theorem dX6_write_43 : decode cX6_write 43 = .ok (.ifCond .ne 10, 3) := by decide +kernel
theorem dX6_write_46 : decode cX6_write 46 = .ok (.aload_n 0, 1) := by decide +kernel
theorem dX6_write_47 : decode cX6_write 47 = .ok (.ldc 60, 2) := by decide +kernel
theorem dX6_write_49 : decode cX6_write 49 = .ok (.invokevirtual 66, 3) := by decide +kernel
theorem dX6_write_52 : decode cX6_write 52 = .ok (.ireturn, 1) := by decide +kernel
theorem dX6_write_53 : decode cX6_write 53 = .ok (.aload_n 0, 1) := by decide +kernel
theorem dX6_write_54 : decode cX6_write 54 = .ok (.getfield 54, 3) := by decide +kernel
theorem dX6_write_57 : decode cX6_write 57 = .ok (.bipush 40, 2) := by decide +kernel
theorem dX6_write_59 : decode cX6_write 59 = .ok (.iload_n 1, 1) := by decide +kernel
theorem dX6_write_60 : decode cX6_write 60 = .ok (.imul, 1) := by decide +kernel
theorem dX6_write_61 : decode cX6_write 61 = .ok (.iload_n 2, 1) := by decide +kernel
theorem dX6_write_62 : decode cX6_write 62 = .ok (.iadd, 1) := by decide +kernel
theorem dX6_write_63 : decode cX6_write 63 = .ok (.iload_n 3, 1) := by decide +kernel
theorem dX6_write_64 : decode cX6_write 64 = .ok (.aload_n 0, 1) := by decide +kernel
theorem dX6_write_65 : decode cX6_write 65 = .ok (.getfield 48, 3) := by decide +kernel
theorem dX6_write_68 : decode cX6_write 68 = .ok (.iload_n 1, 1) := by decide +kernel
theorem dX6_write_69 : decode cX6_write 69 = .ok (.iaload, 1) := by decide +kernel
theorem dX6_write_70 : decode cX6_write 70 = .ok (.invokestatic 346, 3) := by decide +kernel
theorem dX6_write_73 : decode cX6_write 73 = .ok (.iastore, 1) := by decide +kernel
theorem dX6_write_74 : decode cX6_write 74 = .ok (.iconst 1, 1) := by decide +kernel
theorem dX6_write_75 : decode cX6_write 75 = .ok (.ireturn, 1) := by decide +kernel
theorem dX6_copy_0 : decode cX6_copy 0 = .ok (.iload_n 1, 1) := by decide +kernel
theorem dX6_copy_1 : decode cX6_copy 1 = .ok (.invokestatic 231, 3) := by decide +kernel
theorem dX6_copy_4 : decode cX6_copy 4 = .ok (.ifCond .eq 10, 3) := by decide +kernel
theorem dX6_copy_7 : decode cX6_copy 7 = .ok (.iload_n 3, 1) := by decide +kernel
theorem dX6_copy_8 : decode cX6_copy 8 = .ok (.invokestatic 231, 3) := by decide +kernel
theorem dX6_copy_11 : decode cX6_copy 11 = .ok (.ifCond .ne 10, 3) := by decide +kernel
theorem dX6_copy_14 : decode cX6_copy 14 = .ok (.aload_n 0, 1) := by decide +kernel
theorem dX6_copy_15 : decode cX6_copy 15 = .ok (.ldc 60, 2) := by decide +kernel
theorem dX6_copy_17 : decode cX6_copy 17 = .ok (.invokevirtual 66, 3) := by decide +kernel
theorem dX6_copy_20 : decode cX6_copy 20 = .ok (.ireturn, 1) := by decide +kernel
theorem dX6_copy_21 : decode cX6_copy 21 = .ok (.aload_n 0, 1) := by decide +kernel
theorem dX6_copy_22 : decode cX6_copy 22 = .ok (.getfield 48, 3) := by decide +kernel
theorem dX6_copy_25 : decode cX6_copy 25 = .ok (.iload_n 1, 1) := by decide +kernel
theorem dX6_copy_26 : decode cX6_copy 26 = .ok (.iaload, 1) := by decide +kernel
theorem dX6_copy_27 : decode cX6_copy 27 = .ok (.ifCond .eq 12, 3) := by decide +kernel
theorem dX6_copy_30 : decode cX6_copy 30 = .ok (.aload_n 0, 1) := by decide +kernel
theorem dX6_copy_31 : decode cX6_copy 31 = .ok (.getfield 48, 3) := by decide +kernel
theorem dX6_copy_34 : decode cX6_copy 34 = .ok (.iload_n 3, 1) := by decide +kernel
theorem dX6_copy_35 : decode cX6_copy 35 = .ok (.iaload, 1) := by decide +kernel
theorem dX6_copy_36 : decode cX6_copy 36 = .ok (.ifCond .ne 10, 3) := by decide +kernel
theorem dX6_copy_39 : decode cX6_copy 39 = .ok (.aload_n 0, 1) := by decide +kernel
theorem dX6_copy_40 : decode cX6_copy 40 = .ok (.ldc 234, 2) := by decide +kernel
theorem dX6_copy_42 : decode cX6_copy 42 = .ok (.invokevirtual 66, 3) := by decide +kernel
theorem dX6_copy_45 : decode cX6_copy 45 = .ok (.ireturn, 1) := by decide +kernel
theorem dX6_copy_46 : decode cX6_copy 46 = .ok (.aload_n 0, 1) := by decide +kernel
theorem dX6_copy_47 : decode cX6_copy 47 = .ok (.getfield 48, 3) := by decide +kernel
theorem dX6_copy_50 : decode cX6_copy 50 = .ok (.iload_n 1, 1) := by decide +kernel
theorem dX6_copy_51 : decode cX6_copy 51 = .ok (.iaload, 1) := by decide +kernel
theorem dX6_copy_52 : decode cX6_copy 52 = .ok (.aload_n 0, 1) := by decide +kernel
theorem dX6_copy_53 : decode cX6_copy 53 = .ok (.getfield 48, 3) := by decide +kernel
theorem dX6_copy_56 : decode cX6_copy 56 = .ok (.iload_n 3, 1) := by decide +kernel
theorem dX6_copy_57 : decode cX6_copy 57 = .ok (.iaload, 1) := by decide +kernel
theorem dX6_copy_58 : decode cX6_copy 58 = .ok (.if_icmp .eq 11, 3) := by decide +kernel
theorem dX6_copy_61 : decode cX6_copy 61 = .ok (.aload_n 0, 1) := by decide +kernel
theorem dX6_copy_62 : decode cX6_copy 62 = .ok (.ldc_w 344, 3) := by decide +kernel
theorem dX6_copy_65 : decode cX6_copy 65 = .ok (.invokevirtual 66, 3) := by decide +kernel
theorem dX6_copy_68 : decode cX6_copy 68 = .ok (.ireturn, 1) := by decide +kernel
theorem dX6_copy_69 : decode cX6_copy 69 = .ok (.iload_n 2, 1) := by decide +kernel
theorem dX6_copy_70 : decode cX6_copy 70 = .ok (.ifCond .lt 48, 3) := by decide +kernel
theorem dX6_copy_73 : decode cX6_copy 73 = .ok (.iload 4, 2) := by decide +kernel
theorem dX6_copy_75 : decode cX6_copy 75 = .ok (.ifCond .lt 43, 3) := by decide +kernel
theorem dX6_copy_78 : decode cX6_copy 78 = .ok (.iload 5, 2) := by decide +kernel
theorem dX6_copy_80 : decode cX6_copy 80 = .ok (.ifCond .lt 38, 3) := by decide +kernel
theorem dX6_copy_83 : decode cX6_copy 83 = .ok (.iload_n 2, 1) := by decide +kernel
theorem dX6_copy_84 : decode cX6_copy 84 = .ok (.i2l, 1) := by decide +kernel
theorem dX6_copy_85 : decode cX6_copy 85 = .ok (.iload 5, 2) := by decide +kernel
theorem dX6_copy_87 : decode cX6_copy 87 = .ok (.i2l, 1) := by decide +kernel
theorem dX6_copy_88 : decode cX6_copy 88 = .ok (.ladd, 1) := by decide +kernel
theorem dX6_copy_89 : decode cX6_copy 89 = .ok (.aload_n 0, 1) := by decide +kernel
theorem dX6_copy_90 : decode cX6_copy 90 = .ok (.getfield 51, 3) := by decide +kernel
theorem dX6_copy_93 : decode cX6_copy 93 = .ok (.iload_n 1, 1) := by decide +kernel
theorem dX6_copy_94 : decode cX6_copy 94 = .ok (.iaload, 1) := by decide +kernel
theorem dX6_copy_95 : decode cX6_copy 95 = .ok (.i2l, 1) := by decide +kernel
theorem dX6_copy_96 : decode cX6_copy 96 = .ok (.lcmp, 1) := by decide +kernel
theorem dX6_copy_97 : decode cX6_copy 97 = .ok (.ifCond .gt 21, 3) := by decide +kernel
theorem dX6_copy_100 : decode cX6_copy 100 = .ok (.iload 4, 2) := by decide +kernel
theorem dX6_copy_102 : decode cX6_copy 102 = .ok (.i2l, 1) := by decide +kernel
theorem dX6_copy_103 : decode cX6_copy 103 = .ok (.iload 5, 2) := by decide +kernel
theorem dX6_copy_105 : decode cX6_copy 105 = .ok (.i2l, 1) := by decide +kernel
theorem dX6_copy_106 : decode cX6_copy 106 = .ok (.ladd, 1) := by decide +kernel
theorem dX6_copy_107 : decode cX6_copy 107 = .ok (.aload_n 0, 1) := by decide +kernel
theorem dX6_copy_108 : decode cX6_copy 108 = .ok (.getfield 51, 3) := by decide +kernel
theorem dX6_copy_111 : decode cX6_copy 111 = .ok (.iload_n 3, 1) := by decide +kernel
theorem dX6_copy_112 : decode cX6_copy 112 = .ok (.iaload, 1) := by decide +kernel
theorem dX6_copy_113 : decode cX6_copy 113 = .ok (.i2l, 1) := by decide +kernel
theorem dX6_copy_114 : decode cX6_copy 114 = .ok (.lcmp, 1) := by decide +kernel
theorem dX6_copy_115 : decode cX6_copy 115 = .ok (.ifCond .le 10, 3) := by decide +kernel
theorem dX6_copy_118 : decode cX6_copy 118 = .ok (.aload_n 0, 1) := by decide +kernel
theorem dX6_copy_119 : decode cX6_copy 119 = .ok (.ldc 60, 2) := by decide +kernel
theorem dX6_copy_121 : decode cX6_copy 121 = .ok (.invokevirtual 66, 3) := by decide +kernel
theorem dX6_copy_124 : decode cX6_copy 124 = .ok (.ireturn, 1) := by decide +kernel
theorem dX6_copy_125 : decode cX6_copy 125 = .ok (.iconst 0, 1) := by decide +kernel
theorem dX6_copy_126 : decode cX6_copy 126 = .ok (.istore 6, 2) := by decide +kernel
theorem dX6_copy_128 : decode cX6_copy 128 = .ok (.iload 6, 2) := by decide +kernel
theorem dX6_copy_130 : decode cX6_copy 130 = .ok (.iload 5, 2) := by decide +kernel
theorem dX6_copy_132 : decode cX6_copy 132 = .ok (.if_icmp .ge 30, 3) := by decide +kernel
theorem dX6_copy_135 : decode cX6_copy 135 = .ok (.aload_n 0, 1) := by decide +kernel
theorem dX6_copy_136 : decode cX6_copy 136 = .ok (.getfield 57, 3) := by decide +kernel
theorem dX6_copy_139 : decode cX6_copy 139 = .ok (.iload 6, 2) := by decide +kernel
theorem dX6_copy_141 : decode cX6_copy 141 = .ok (.aload_n 0, 1) := by decide +kernel
theorem dX6_copy_142 : decode cX6_copy 142 = .ok (.getfield 54, 3) := by decide +kernel
theorem dX6_copy_145 : decode cX6_copy 145 = .ok (.bipush 40, 2) := by decide +kernel
theorem dX6_copy_147 : decode cX6_copy 147 = .ok (.iload_n 1, 1) := by decide +kernel
theorem dX6_copy_148 : decode cX6_copy 148 = .ok (.imul, 1) := by decide +kernel
theorem dX6_copy_149 : decode cX6_copy 149 = .ok (.iload_n 2, 1) := by decide +kernel
theorem dX6_copy_150 : decode cX6_copy 150 = .ok (.iadd, 1) := by decide +kernel
theorem dX6_copy_151 : decode cX6_copy 151 = .ok (.iload 6, 2) := by decide +kernel
theorem dX6_copy_153 : decode cX6_copy 153 = .ok (.iadd, 1) := by decide +kernel
theorem dX6_copy_154 : decode cX6_copy 154 = .ok (.iaload, 1) := by decide +kernel
theorem dX6_copy_155 : decode cX6_copy 155 = .ok (.iastore, 1) := by decide +kernel
theorem dX6_copy_156 : decode cX6_copy 156 = .ok (.iinc 6 1, 3) := by decide +kernel
theorem dX6_copy_159 : decode cX6_copy 159 = .ok (.goto (-31), 3) := by decide +kernel
theorem dX6_copy_162 : decode cX6_copy 162 = .ok (.iconst 0, 1) := by decide +kernel
theorem dX6_copy_163 : decode cX6_copy 163 = .ok (.istore 6, 2) := by decide +kernel
theorem dX6_copy_165 : decode cX6_copy 165 = .ok (.iload 6, 2) := by decide +kernel
theorem dX6_copy_167 : decode cX6_copy 167 = .ok (.iload 5, 2) := by decide +kernel
theorem dX6_copy_169 : decode cX6_copy 169 = .ok (.if_icmp .ge 31, 3) := by decide +kernel
theorem dX6_copy_172 : decode cX6_copy 172 = .ok (.aload_n 0, 1) := by decide +kernel
theorem dX6_copy_173 : decode cX6_copy 173 = .ok (.getfield 54, 3) := by decide +kernel
theorem dX6_copy_176 : decode cX6_copy 176 = .ok (.bipush 40, 2) := by decide +kernel
theorem dX6_copy_178 : decode cX6_copy 178 = .ok (.iload_n 3, 1) := by decide +kernel
theorem dX6_copy_179 : decode cX6_copy 179 = .ok (.imul, 1) := by decide +kernel
theorem dX6_copy_180 : decode cX6_copy 180 = .ok (.iload 4, 2) := by decide +kernel
theorem dX6_copy_182 : decode cX6_copy 182 = .ok (.iadd, 1) := by decide +kernel
theorem dX6_copy_183 : decode cX6_copy 183 = .ok (.iload 6, 2) := by decide +kernel
theorem dX6_copy_185 : decode cX6_copy 185 = .ok (.iadd, 1) := by decide +kernel
theorem dX6_copy_186 : decode cX6_copy 186 = .ok (.aload_n 0, 1) := by decide +kernel
theorem dX6_copy_187 : decode cX6_copy 187 = .ok (.getfield 57, 3) := by decide +kernel
theorem dX6_copy_190 : decode cX6_copy 190 = .ok (.iload 6, 2) := by decide +kernel
theorem dX6_copy_192 : decode cX6_copy 192 = .ok (.iaload, 1) := by decide +kernel
theorem dX6_copy_193 : decode cX6_copy 193 = .ok (.iastore, 1) := by decide +kernel
theorem dX6_copy_194 : decode cX6_copy 194 = .ok (.iinc 6 1, 3) := by decide +kernel
theorem dX6_copy_197 : decode cX6_copy 197 = .ok (.goto (-32), 3) := by decide +kernel
theorem dX6_copy_200 : decode cX6_copy 200 = .ok (.iload 5, 2) := by decide +kernel
theorem dX6_copy_202 : decode cX6_copy 202 = .ok (.ireturn, 1) := by decide +kernel
theorem dX6_above_0 : decode cX6_above 0 = .ok (.iload_n 0, 1) := by decide +kernel
theorem dX6_above_1 : decode cX6_above 1 = .ok (.ifCond .ne 7, 3) := by decide +kernel
theorem dX6_above_4 : decode cX6_above 4 = .ok (.iconst (-1), 1) := by decide +kernel
theorem dX6_above_5 : decode cX6_above 5 = .ok (.goto 32, 3) := by decide +kernel
theorem dX6_above_8 : decode cX6_above 8 = .ok (.iload_n 0, 1) := by decide +kernel
theorem dX6_above_9 : decode cX6_above 9 = .ok (.iconst 3, 1) := by decide +kernel
theorem dX6_above_10 : decode cX6_above 10 = .ok (.if_icmp .ne 7, 3) := by decide +kernel
theorem dX6_above_13 : decode cX6_above 13 = .ok (.iconst 2, 1) := by decide +kernel
theorem dX6_above_14 : decode cX6_above 14 = .ok (.goto 23, 3) := by decide +kernel
theorem dX6_above_17 : decode cX6_above 17 = .ok (.iload_n 0, 1) := by decide +kernel
theorem dX6_above_18 : decode cX6_above 18 = .ok (.iconst 4, 1) := by decide +kernel
theorem dX6_above_19 : decode cX6_above 19 = .ok (.if_icmp .ne 7, 3) := by decide +kernel
theorem dX6_above_22 : decode cX6_above 22 = .ok (.iconst 3, 1) := by decide +kernel
theorem dX6_above_23 : decode cX6_above 23 = .ok (.goto 14, 3) := by decide +kernel
theorem dX6_above_26 : decode cX6_above 26 = .ok (.iload_n 0, 1) := by decide +kernel
theorem dX6_above_27 : decode cX6_above 27 = .ok (.bipush 6, 2) := by decide +kernel
theorem dX6_above_29 : decode cX6_above 29 = .ok (.if_icmp .ne 7, 3) := by decide +kernel
theorem dX6_above_32 : decode cX6_above 32 = .ok (.iconst 1, 1) := by decide +kernel
theorem dX6_above_33 : decode cX6_above 33 = .ok (.goto 4, 3) := by decide +kernel
theorem dX6_above_36 : decode cX6_above 36 = .ok (.iconst 0, 1) := by decide +kernel
theorem dX6_above_37 : decode cX6_above 37 = .ok (.ireturn, 1) := by decide +kernel
theorem dX6_isUnder_0 : decode cX6_isUnder 0 = .ok (.iload_n 0, 1) := by decide +kernel
theorem dX6_isUnder_1 : decode cX6_isUnder 1 = .ok (.istore_n 2, 1) := by decide +kernel
theorem dX6_isUnder_2 : decode cX6_isUnder 2 = .ok (.iload_n 2, 1) := by decide +kernel
theorem dX6_isUnder_3 : decode cX6_isUnder 3 = .ok (.ifCond .lt 16, 3) := by decide +kernel
theorem dX6_isUnder_6 : decode cX6_isUnder 6 = .ok (.iload_n 2, 1) := by decide +kernel
theorem dX6_isUnder_7 : decode cX6_isUnder 7 = .ok (.iload_n 1, 1) := by decide +kernel
theorem dX6_isUnder_8 : decode cX6_isUnder 8 = .ok (.if_icmp .eq 11, 3) := by decide +kernel
theorem dX6_isUnder_11 : decode cX6_isUnder 11 = .ok (.iload_n 2, 1) := by decide +kernel
theorem dX6_isUnder_12 : decode cX6_isUnder 12 = .ok (.invokestatic 349, 3) := by decide +kernel
theorem dX6_isUnder_15 : decode cX6_isUnder 15 = .ok (.istore_n 2, 1) := by decide +kernel
theorem dX6_isUnder_16 : decode cX6_isUnder 16 = .ok (.goto (-14), 3) := by decide +kernel
theorem dX6_isUnder_19 : decode cX6_isUnder 19 = .ok (.iload_n 2, 1) := by decide +kernel
theorem dX6_isUnder_20 : decode cX6_isUnder 20 = .ok (.ifCond .lt 7, 3) := by decide +kernel
theorem dX6_isUnder_23 : decode cX6_isUnder 23 = .ok (.iconst 1, 1) := by decide +kernel
theorem dX6_isUnder_24 : decode cX6_isUnder 24 = .ok (.goto 4, 3) := by decide +kernel
theorem dX6_isUnder_27 : decode cX6_isUnder 27 = .ok (.iconst 0, 1) := by decide +kernel
theorem dX6_isUnder_28 : decode cX6_isUnder 28 = .ok (.ireturn, 1) := by decide +kernel
theorem dX6_load_0 : decode cX6_load 0 = .ok (.aload_n 0, 1) := by decide +kernel
theorem dX6_load_1 : decode cX6_load 1 = .ok (.iload_n 1, 1) := by decide +kernel
theorem dX6_load_2 : decode cX6_load 2 = .ok (.iconst 1, 1) := by decide +kernel
theorem dX6_load_3 : decode cX6_load 3 = .ok (.invokevirtual 238, 3) := by decide +kernel
theorem dX6_load_6 : decode cX6_load 6 = .ok (.ifCond .eq 14, 3) := by decide +kernel
theorem dX6_load_9 : decode cX6_load 9 = .ok (.aload_n 0, 1) := by decide +kernel
theorem dX6_load_10 : decode cX6_load 10 = .ok (.aload_n 0, 1) := by decide +kernel
theorem dX6_load_11 : decode cX6_load 11 = .ok (.iload_n 1, 1) := by decide +kernel
theorem dX6_load_12 : decode cX6_load 12 = .ok (.iconst 1, 1) := by decide +kernel
theorem dX6_load_13 : decode cX6_load 13 = .ok (.invokevirtual 238, 3) := by decide +kernel
theorem dX6_load_16 : decode cX6_load 16 = .ok (.invokevirtual 66, 3) := by decide +kernel
theorem dX6_load_19 : decode cX6_load 19 = .ok (.ireturn, 1) := by decide +kernel
theorem dX6_load_20 : decode cX6_load 20 = .ok (.iconst 0, 1) := by decide +kernel
theorem dX6_load_21 : decode cX6_load 21 = .ok (.istore_n 2, 1) := by decide +kernel
theorem dX6_load_22 : decode cX6_load 22 = .ok (.iload_n 2, 1) := by decide +kernel
theorem dX6_load_23 : decode cX6_load 23 = .ok (.aload_n 0, 1) := by decide +kernel
theorem dX6_load_24 : decode cX6_load 24 = .ok (.getfield 51, 3) := by decide +kernel
theorem dX6_load_27 : decode cX6_load 27 = .ok (.iload_n 1, 1) := by decide +kernel
theorem dX6_load_28 : decode cX6_load 28 = .ok (.iaload, 1) := by decide +kernel
theorem dX6_load_29 : decode cX6_load 29 = .ok (.if_icmp .ge 52, 3) := by decide +kernel
theorem dX6_load_32 : decode cX6_load 32 = .ok (.iload_n 2, 1) := by decide +kernel
theorem dX6_load_33 : decode cX6_load 33 = .ok (.invokestatic 74, 3) := by decide +kernel
theorem dX6_load_36 : decode cX6_load 36 = .ok (.ifCond .eq 45, 3) := by decide +kernel
theorem dX6_load_39 : decode cX6_load 39 = .ok (.aload_n 0, 1) := by decide +kernel
theorem dX6_load_40 : decode cX6_load 40 = .ok (.getfield 54, 3) := by decide +kernel
theorem dX6_load_43 : decode cX6_load 43 = .ok (.bipush 40, 2) := by decide +kernel
theorem dX6_load_45 : decode cX6_load 45 = .ok (.iload_n 1, 1) := by decide +kernel
theorem dX6_load_46 : decode cX6_load 46 = .ok (.imul, 1) := by decide +kernel
theorem dX6_load_47 : decode cX6_load 47 = .ok (.iload_n 2, 1) := by decide +kernel
theorem dX6_load_48 : decode cX6_load 48 = .ok (.iadd, 1) := by decide +kernel
theorem dX6_load_49 : decode cX6_load 49 = .ok (.iaload, 1) := by decide +kernel
theorem dX6_load_50 : decode cX6_load 50 = .ok (.invokestatic 78, 3) := by decide +kernel
theorem dX6_load_53 : decode cX6_load 53 = .ok (.ifCond .eq 28, 3) := by decide +kernel
theorem dX6_load_56 : decode cX6_load 56 = .ok (.aload_n 0, 1) := by decide +kernel
theorem dX6_load_57 : decode cX6_load 57 = .ok (.getfield 9, 3) := by decide +kernel
theorem dX6_load_60 : decode cX6_load 60 = .ok (.iconst 4, 1) := by decide +kernel
theorem dX6_load_61 : decode cX6_load 61 = .ok (.iload_n 2, 1) := by decide +kernel
theorem dX6_load_62 : decode cX6_load 62 = .ok (.iadd, 1) := by decide +kernel
theorem dX6_load_63 : decode cX6_load 63 = .ok (.aload_n 0, 1) := by decide +kernel
theorem dX6_load_64 : decode cX6_load 64 = .ok (.getfield 54, 3) := by decide +kernel
theorem dX6_load_67 : decode cX6_load 67 = .ok (.bipush 40, 2) := by decide +kernel
theorem dX6_load_69 : decode cX6_load 69 = .ok (.iload_n 1, 1) := by decide +kernel
theorem dX6_load_70 : decode cX6_load 70 = .ok (.imul, 1) := by decide +kernel
theorem dX6_load_71 : decode cX6_load 71 = .ok (.iload_n 2, 1) := by decide +kernel
theorem dX6_load_72 : decode cX6_load 72 = .ok (.iadd, 1) := by decide +kernel
theorem dX6_load_73 : decode cX6_load 73 = .ok (.iaload, 1) := by decide +kernel
theorem dX6_load_74 : decode cX6_load 74 = .ok (.iastore, 1) := by decide +kernel
theorem dX6_load_75 : decode cX6_load 75 = .ok (.iinc 2 1, 3) := by decide +kernel
theorem dX6_load_78 : decode cX6_load 78 = .ok (.goto (-56), 3) := by decide +kernel
theorem dX6_load_81 : decode cX6_load 81 = .ok (.iload_n 2, 1) := by decide +kernel
theorem dX6_load_82 : decode cX6_load 82 = .ok (.ireturn, 1) := by decide +kernel
theorem dX6_judge_0 : decode cX6_judge 0 = .ok (.aload_n 0, 1) := by decide +kernel
theorem dX6_judge_1 : decode cX6_judge 1 = .ok (.iload_n 1, 1) := by decide +kernel
theorem dX6_judge_2 : decode cX6_judge 2 = .ok (.iconst 1, 1) := by decide +kernel
theorem dX6_judge_3 : decode cX6_judge 3 = .ok (.invokevirtual 238, 3) := by decide +kernel
theorem dX6_judge_6 : decode cX6_judge 6 = .ok (.ifCond .eq 14, 3) := by decide +kernel
theorem dX6_judge_9 : decode cX6_judge 9 = .ok (.aload_n 0, 1) := by decide +kernel
theorem dX6_judge_10 : decode cX6_judge 10 = .ok (.aload_n 0, 1) := by decide +kernel
theorem dX6_judge_11 : decode cX6_judge 11 = .ok (.iload_n 1, 1) := by decide +kernel
theorem dX6_judge_12 : decode cX6_judge 12 = .ok (.iconst 1, 1) := by decide +kernel
theorem dX6_judge_13 : decode cX6_judge 13 = .ok (.invokevirtual 238, 3) := by decide +kernel
theorem dX6_judge_16 : decode cX6_judge 16 = .ok (.invokevirtual 66, 3) := by decide +kernel
theorem dX6_judge_19 : decode cX6_judge 19 = .ok (.ireturn, 1) := by decide +kernel
theorem dX6_judge_20 : decode cX6_judge 20 = .ok (.iconst 0, 1) := by decide +kernel
theorem dX6_judge_21 : decode cX6_judge 21 = .ok (.istore_n 2, 1) := by decide +kernel
theorem dX6_judge_22 : decode cX6_judge 22 = .ok (.iload_n 2, 1) := by decide +kernel
theorem dX6_judge_23 : decode cX6_judge 23 = .ok (.aload_n 0, 1) := by decide +kernel
theorem dX6_judge_24 : decode cX6_judge 24 = .ok (.getfield 51, 3) := by decide +kernel
theorem dX6_judge_27 : decode cX6_judge 27 = .ok (.iload_n 1, 1) := by decide +kernel
theorem dX6_judge_28 : decode cX6_judge 28 = .ok (.iaload, 1) := by decide +kernel
theorem dX6_judge_29 : decode cX6_judge 29 = .ok (.if_icmp .ge 37, 3) := by decide +kernel
theorem dX6_judge_32 : decode cX6_judge 32 = .ok (.aload_n 0, 1) := by decide +kernel
theorem dX6_judge_33 : decode cX6_judge 33 = .ok (.iload_n 2, 1) := by decide +kernel
theorem dX6_judge_34 : decode cX6_judge 34 = .ok (.invokevirtual 144, 3) := by decide +kernel
theorem dX6_judge_37 : decode cX6_judge 37 = .ok (.ifCond .eq 29, 3) := by decide +kernel
theorem dX6_judge_40 : decode cX6_judge 40 = .ok (.aload_n 0, 1) := by decide +kernel
theorem dX6_judge_41 : decode cX6_judge 41 = .ok (.getfield 54, 3) := by decide +kernel
theorem dX6_judge_44 : decode cX6_judge 44 = .ok (.bipush 40, 2) := by decide +kernel
theorem dX6_judge_46 : decode cX6_judge 46 = .ok (.iload_n 1, 1) := by decide +kernel
theorem dX6_judge_47 : decode cX6_judge 47 = .ok (.imul, 1) := by decide +kernel
theorem dX6_judge_48 : decode cX6_judge 48 = .ok (.iload_n 2, 1) := by decide +kernel
theorem dX6_judge_49 : decode cX6_judge 49 = .ok (.iadd, 1) := by decide +kernel
theorem dX6_judge_50 : decode cX6_judge 50 = .ok (.iaload, 1) := by decide +kernel
theorem dX6_judge_51 : decode cX6_judge 51 = .ok (.aload_n 0, 1) := by decide +kernel
theorem dX6_judge_52 : decode cX6_judge 52 = .ok (.iload_n 2, 1) := by decide +kernel
theorem dX6_judge_53 : decode cX6_judge 53 = .ok (.iconst 2, 1) := by decide +kernel
theorem dX6_judge_54 : decode cX6_judge 54 = .ok (.invokevirtual 147, 3) := by decide +kernel
theorem dX6_judge_57 : decode cX6_judge 57 = .ok (.if_icmp .ne 9, 3) := by decide +kernel
theorem dX6_judge_60 : decode cX6_judge 60 = .ok (.iinc 2 1, 3) := by decide +kernel
theorem dX6_judge_63 : decode cX6_judge 63 = .ok (.goto (-41), 3) := by decide +kernel
theorem dX6_judge_66 : decode cX6_judge 66 = .ok (.iload_n 2, 1) := by decide +kernel
theorem dX6_judge_67 : decode cX6_judge 67 = .ok (.aload_n 0, 1) := by decide +kernel
theorem dX6_judge_68 : decode cX6_judge 68 = .ok (.getfield 51, 3) := by decide +kernel
theorem dX6_judge_71 : decode cX6_judge 71 = .ok (.iload_n 1, 1) := by decide +kernel
theorem dX6_judge_72 : decode cX6_judge 72 = .ok (.iaload, 1) := by decide +kernel
theorem dX6_judge_73 : decode cX6_judge 73 = .ok (.if_icmp .ne 7, 3) := by decide +kernel
theorem dX6_judge_76 : decode cX6_judge 76 = .ok (.iconst 0, 1) := by decide +kernel
theorem dX6_judge_77 : decode cX6_judge 77 = .ok (.goto 6, 3) := by decide +kernel
theorem dX6_judge_80 : decode cX6_judge 80 = .ok (.iconst 1, 1) := by decide +kernel
theorem dX6_judge_81 : decode cX6_judge 81 = .ok (.iload_n 2, 1) := by decide +kernel
theorem dX6_judge_82 : decode cX6_judge 82 = .ok (.iadd, 1) := by decide +kernel
theorem dX6_judge_83 : decode cX6_judge 83 = .ok (.ireturn, 1) := by decide +kernel
theorem dX6_image_0 : decode cX6_image 0 = .ok (.aload_n 0, 1) := by decide +kernel
theorem dX6_image_1 : decode cX6_image 1 = .ok (.getfield 9, 3) := by decide +kernel
theorem dX6_image_4 : decode cX6_image 4 = .ok (.aload_n 0, 1) := by decide +kernel
theorem dX6_image_5 : decode cX6_image 5 = .ok (.getfield 13, 3) := by decide +kernel
theorem dX6_image_8 : decode cX6_image 8 = .ok (.invokestatic 61, 3) := by decide +kernel
theorem dX6_image_11 : decode cX6_image 11 = .ok (.aload_n 0, 1) := by decide +kernel
theorem dX6_image_12 : decode cX6_image 12 = .ok (.iconst 1, 1) := by decide +kernel
theorem dX6_image_13 : decode cX6_image 13 = .ok (.putfield 352, 3) := by decide +kernel
theorem dX6_image_16 : decode cX6_image 16 = .ok (.iconst 1, 1) := by decide +kernel
theorem dX6_image_17 : decode cX6_image 17 = .ok (.ireturn, 1) := by decide +kernel
theorem dX6_undo_0 : decode cX6_undo 0 = .ok (.aload_n 0, 1) := by decide +kernel
theorem dX6_undo_1 : decode cX6_undo 1 = .ok (.getfield 352, 3) := by decide +kernel
theorem dX6_undo_4 : decode cX6_undo 4 = .ok (.ifCond .ne 10, 3) := by decide +kernel
theorem dX6_undo_7 : decode cX6_undo 7 = .ok (.aload_n 0, 1) := by decide +kernel
theorem dX6_undo_8 : decode cX6_undo 8 = .ok (.ldc 65, 2) := by decide +kernel
theorem dX6_undo_10 : decode cX6_undo 10 = .ok (.invokevirtual 66, 3) := by decide +kernel
theorem dX6_undo_13 : decode cX6_undo 13 = .ok (.ireturn, 1) := by decide +kernel
theorem dX6_undo_14 : decode cX6_undo 14 = .ok (.aload_n 0, 1) := by decide +kernel
theorem dX6_undo_15 : decode cX6_undo 15 = .ok (.getfield 13, 3) := by decide +kernel
theorem dX6_undo_18 : decode cX6_undo 18 = .ok (.aload_n 0, 1) := by decide +kernel
theorem dX6_undo_19 : decode cX6_undo 19 = .ok (.getfield 9, 3) := by decide +kernel
theorem dX6_undo_22 : decode cX6_undo 22 = .ok (.invokestatic 61, 3) := by decide +kernel
theorem dX6_undo_25 : decode cX6_undo 25 = .ok (.aload_n 0, 1) := by decide +kernel
theorem dX6_undo_26 : decode cX6_undo 26 = .ok (.getfield 9, 3) := by decide +kernel
theorem dX6_undo_29 : decode cX6_undo 29 = .ok (.iconst 0, 1) := by decide +kernel
theorem dX6_undo_30 : decode cX6_undo 30 = .ok (.iaload, 1) := by decide +kernel
theorem dX6_undo_31 : decode cX6_undo 31 = .ok (.ireturn, 1) := by decide +kernel
theorem dX6_tear_0 : decode cX6_tear 0 = .ok (.aload_n 0, 1) := by decide +kernel
theorem dX6_tear_1 : decode cX6_tear 1 = .ok (.getfield 352, 3) := by decide +kernel
theorem dX6_tear_4 : decode cX6_tear 4 = .ok (.ifCond .eq 7, 3) := by decide +kernel
theorem dX6_tear_7 : decode cX6_tear 7 = .ok (.iconst 1, 1) := by decide +kernel
theorem dX6_tear_8 : decode cX6_tear 8 = .ok (.goto 4, 3) := by decide +kernel
theorem dX6_tear_11 : decode cX6_tear 11 = .ok (.iconst 0, 1) := by decide +kernel
theorem dX6_tear_12 : decode cX6_tear 12 = .ok (.istore_n 1, 1) := by decide +kernel
theorem dX6_tear_13 : decode cX6_tear 13 = .ok (.aload_n 0, 1) := by decide +kernel
theorem dX6_tear_14 : decode cX6_tear 14 = .ok (.iconst 0, 1) := by decide +kernel
theorem dX6_tear_15 : decode cX6_tear 15 = .ok (.putfield 352, 3) := by decide +kernel
theorem dX6_tear_18 : decode cX6_tear 18 = .ok (.iload_n 1, 1) := by decide +kernel
theorem dX6_tear_19 : decode cX6_tear 19 = .ok (.ireturn, 1) := by decide +kernel
theorem dX6_count_0 : decode cX6_count 0 = .ok (.iconst 0, 1) := by decide +kernel
theorem dX6_count_1 : decode cX6_count 1 = .ok (.istore_n 2, 1) := by decide +kernel
theorem dX6_count_2 : decode cX6_count 2 = .ok (.iload_n 1, 1) := by decide +kernel
theorem dX6_count_3 : decode cX6_count 3 = .ok (.tableswitch 124 0 7 #[45, 52, 59, 66, 71, 76, 81, 88], 45) := by decide +kernel
theorem dX6_count_48 : decode cX6_count 48 = .ok (.aload_n 0, 1) := by decide +kernel
theorem dX6_count_49 : decode cX6_count 49 = .ok (.getfield 9, 3) := by decide +kernel
theorem dX6_count_52 : decode cX6_count 52 = .ok (.iconst 0, 1) := by decide +kernel
theorem dX6_count_53 : decode cX6_count 53 = .ok (.iaload, 1) := by decide +kernel
theorem dX6_count_54 : decode cX6_count 54 = .ok (.ireturn, 1) := by decide +kernel
theorem dX6_count_55 : decode cX6_count 55 = .ok (.aload_n 0, 1) := by decide +kernel
theorem dX6_count_56 : decode cX6_count 56 = .ok (.getfield 9, 3) := by decide +kernel
theorem dX6_count_59 : decode cX6_count 59 = .ok (.iconst 1, 1) := by decide +kernel
theorem dX6_count_60 : decode cX6_count 60 = .ok (.iaload, 1) := by decide +kernel
theorem dX6_count_61 : decode cX6_count 61 = .ok (.ireturn, 1) := by decide +kernel
theorem dX6_count_62 : decode cX6_count 62 = .ok (.aload_n 0, 1) := by decide +kernel
theorem dX6_count_63 : decode cX6_count 63 = .ok (.getfield 9, 3) := by decide +kernel
theorem dX6_count_66 : decode cX6_count 66 = .ok (.iconst 3, 1) := by decide +kernel
theorem dX6_count_67 : decode cX6_count 67 = .ok (.iaload, 1) := by decide +kernel
theorem dX6_count_68 : decode cX6_count 68 = .ok (.ireturn, 1) := by decide +kernel
theorem dX6_count_69 : decode cX6_count 69 = .ok (.aload_n 0, 1) := by decide +kernel
theorem dX6_count_70 : decode cX6_count 70 = .ok (.invokevirtual 188, 3) := by decide +kernel
theorem dX6_count_73 : decode cX6_count 73 = .ok (.ireturn, 1) := by decide +kernel
theorem dX6_count_74 : decode cX6_count 74 = .ok (.aload_n 0, 1) := by decide +kernel
theorem dX6_count_75 : decode cX6_count 75 = .ok (.invokevirtual 197, 3) := by decide +kernel
theorem dX6_count_78 : decode cX6_count 78 = .ok (.ireturn, 1) := by decide +kernel
theorem dX6_count_79 : decode cX6_count 79 = .ok (.aload_n 0, 1) := by decide +kernel
theorem dX6_count_80 : decode cX6_count 80 = .ok (.getfield 250, 3) := by decide +kernel
theorem dX6_count_83 : decode cX6_count 83 = .ok (.ireturn, 1) := by decide +kernel
theorem dX6_count_84 : decode cX6_count 84 = .ok (.aload_n 0, 1) := by decide +kernel
theorem dX6_count_85 : decode cX6_count 85 = .ok (.getfield 9, 3) := by decide +kernel
theorem dX6_count_88 : decode cX6_count 88 = .ok (.iconst 2, 1) := by decide +kernel
theorem dX6_count_89 : decode cX6_count 89 = .ok (.iaload, 1) := by decide +kernel
theorem dX6_count_90 : decode cX6_count 90 = .ok (.ireturn, 1) := by decide +kernel
theorem dX6_count_91 : decode cX6_count 91 = .ok (.iconst 0, 1) := by decide +kernel
theorem dX6_count_92 : decode cX6_count 92 = .ok (.istore_n 3, 1) := by decide +kernel
theorem dX6_count_93 : decode cX6_count 93 = .ok (.iload_n 3, 1) := by decide +kernel
theorem dX6_count_94 : decode cX6_count 94 = .ok (.bipush 10, 2) := by decide +kernel
theorem dX6_count_96 : decode cX6_count 96 = .ok (.if_icmp .ge 29, 3) := by decide +kernel
theorem dX6_count_99 : decode cX6_count 99 = .ok (.iload_n 2, 1) := by decide +kernel
theorem dX6_count_100 : decode cX6_count 100 = .ok (.aload_n 0, 1) := by decide +kernel
theorem dX6_count_101 : decode cX6_count 101 = .ok (.getfield 9, 3) := by decide +kernel
theorem dX6_count_104 : decode cX6_count 104 = .ok (.bipush 10, 2) := by decide +kernel
theorem dX6_count_106 : decode cX6_count 106 = .ok (.iload_n 3, 1) := by decide +kernel
theorem dX6_count_107 : decode cX6_count 107 = .ok (.iadd, 1) := by decide +kernel
theorem dX6_count_108 : decode cX6_count 108 = .ok (.iaload, 1) := by decide +kernel
theorem dX6_count_109 : decode cX6_count 109 = .ok (.ifCond .ge 7, 3) := by decide +kernel
theorem dX6_count_112 : decode cX6_count 112 = .ok (.iconst 0, 1) := by decide +kernel
theorem dX6_count_113 : decode cX6_count 113 = .ok (.goto 4, 3) := by decide +kernel
theorem dX6_count_116 : decode cX6_count 116 = .ok (.iconst 1, 1) := by decide +kernel
theorem dX6_count_117 : decode cX6_count 117 = .ok (.iadd, 1) := by decide +kernel
theorem dX6_count_118 : decode cX6_count 118 = .ok (.istore_n 2, 1) := by decide +kernel
theorem dX6_count_119 : decode cX6_count 119 = .ok (.iinc 3 1, 3) := by decide +kernel
theorem dX6_count_122 : decode cX6_count 122 = .ok (.goto (-29), 3) := by decide +kernel
theorem dX6_count_125 : decode cX6_count 125 = .ok (.iload_n 2, 1) := by decide +kernel
theorem dX6_count_126 : decode cX6_count 126 = .ok (.ireturn, 1) := by decide +kernel
theorem dX6_count_127 : decode cX6_count 127 = .ok (.aload_n 0, 1) := by decide +kernel
theorem dX6_count_128 : decode cX6_count 128 = .ok (.ldc 60, 2) := by decide +kernel
theorem dX6_count_130 : decode cX6_count 130 = .ok (.invokevirtual 66, 3) := by decide +kernel
theorem dX6_count_133 : decode cX6_count 133 = .ok (.ireturn, 1) := by decide +kernel
theorem dX6_status_0 : decode cX6_status 0 = .ok (.iload_n 1, 1) := by decide +kernel
theorem dX6_status_1 : decode cX6_status 1 = .ok (.iconst (-1), 1) := by decide +kernel
theorem dX6_status_2 : decode cX6_status 2 = .ok (.bipush 6, 2) := by decide +kernel
theorem dX6_status_4 : decode cX6_status 4 = .ok (.invokestatic 70, 3) := by decide +kernel
theorem dX6_status_7 : decode cX6_status 7 = .ok (.ifCond .eq 14, 3) := by decide +kernel
theorem dX6_status_10 : decode cX6_status 10 = .ok (.aload_n 0, 1) := by decide +kernel
theorem dX6_status_11 : decode cX6_status 11 = .ok (.getfield 19, 3) := by decide +kernel
theorem dX6_status_14 : decode cX6_status 14 = .ok (.iload_n 1, 1) := by decide +kernel
theorem dX6_status_15 : decode cX6_status 15 = .ok (.iconst 1, 1) := by decide +kernel
theorem dX6_status_16 : decode cX6_status 16 = .ok (.iadd, 1) := by decide +kernel
theorem dX6_status_17 : decode cX6_status 17 = .ok (.iaload, 1) := by decide +kernel
theorem dX6_status_18 : decode cX6_status 18 = .ok (.goto 9, 3) := by decide +kernel
theorem dX6_status_21 : decode cX6_status 21 = .ok (.aload_n 0, 1) := by decide +kernel
theorem dX6_status_22 : decode cX6_status 22 = .ok (.ldc 60, 2) := by decide +kernel
theorem dX6_status_24 : decode cX6_status 24 = .ok (.invokevirtual 66, 3) := by decide +kernel
theorem dX6_status_27 : decode cX6_status 27 = .ok (.ireturn, 1) := by decide +kernel
