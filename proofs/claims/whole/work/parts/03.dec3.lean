theorem dX6_deal_52 : decode cX6_deal 52 = .ok (.iload 4, 2) := by decide +kernel
theorem dX6_deal_54 : decode cX6_deal 54 = .ok (.aload_n 0, 1) := by decide +kernel
theorem dX6_deal_55 : decode cX6_deal 55 = .ok (.invokevirtual 152, 3) := by decide +kernel
theorem dX6_deal_58 : decode cX6_deal 58 = .ok (.sipush 1000, 3) := by decide +kernel
theorem dX6_deal_61 : decode cX6_deal 61 = .ok (.irem, 1) := by decide +kernel
theorem dX6_deal_62 : decode cX6_deal 62 = .ok (.invokevirtual 92, 3) := by decide +kernel
theorem dX6_deal_65 : decode cX6_deal 65 = .ok (.istore 5, 2) := by decide +kernel
theorem dX6_deal_67 : decode cX6_deal 67 = .ok (.iinc 2 1, 3) := by decide +kernel
theorem dX6_deal_70 : decode cX6_deal 70 = .ok (.goto (-55), 3) := by decide +kernel
theorem dX6_deal_73 : decode cX6_deal 73 = .ok (.iload_n 2, 1) := by decide +kernel
theorem dX6_deal_74 : decode cX6_deal 74 = .ok (.ireturn, 1) := by decide +kernel
theorem dX6_seed_0 : decode cX6_seed 0 = .ok (.aload_n 0, 1) := by decide +kernel
theorem dX6_seed_1 : decode cX6_seed 1 = .ok (.iconst 0, 1) := by decide +kernel
theorem dX6_seed_2 : decode cX6_seed 2 = .ok (.iload_n 1, 1) := by decide +kernel
theorem dX6_seed_3 : decode cX6_seed 3 = .ok (.invokevirtual 148, 3) := by decide +kernel
theorem dX6_seed_6 : decode cX6_seed 6 = .ok (.ireturn, 1) := by decide +kernel
theorem dX6_pot_0 : decode cX6_pot 0 = .ok (.iload_n 1, 1) := by decide +kernel
theorem dX6_pot_1 : decode cX6_pot 1 = .ok (.iconst 0, 1) := by decide +kernel
theorem dX6_pot_2 : decode cX6_pot 2 = .ok (.iconst 1, 1) := by decide +kernel
theorem dX6_pot_3 : decode cX6_pot 3 = .ok (.invokestatic 82, 3) := by decide +kernel
theorem dX6_pot_6 : decode cX6_pot 6 = .ok (.ifCond .eq 27, 3) := by decide +kernel
theorem dX6_pot_9 : decode cX6_pot 9 = .ok (.iload_n 2, 1) := by decide +kernel
theorem dX6_pot_10 : decode cX6_pot 10 = .ok (.iconst 1, 1) := by decide +kernel
theorem dX6_pot_11 : decode cX6_pot 11 = .ok (.iload_n 1, 1) := by decide +kernel
theorem dX6_pot_12 : decode cX6_pot 12 = .ok (.isub, 1) := by decide +kernel
theorem dX6_pot_13 : decode cX6_pot 13 = .ok (.sipush 999, 3) := by decide +kernel
theorem dX6_pot_16 : decode cX6_pot 16 = .ok (.invokestatic 82, 3) := by decide +kernel
theorem dX6_pot_19 : decode cX6_pot 19 = .ok (.ifCond .eq 14, 3) := by decide +kernel
theorem dX6_pot_22 : decode cX6_pot 22 = .ok (.aload_n 0, 1) := by decide +kernel
theorem dX6_pot_23 : decode cX6_pot 23 = .ok (.iconst 2, 1) := by decide +kernel
theorem dX6_pot_24 : decode cX6_pot 24 = .ok (.iload_n 1, 1) := by decide +kernel
theorem dX6_pot_25 : decode cX6_pot 25 = .ok (.iadd, 1) := by decide +kernel
theorem dX6_pot_26 : decode cX6_pot 26 = .ok (.iload_n 2, 1) := by decide +kernel
theorem dX6_pot_27 : decode cX6_pot 27 = .ok (.invokevirtual 148, 3) := by decide +kernel
theorem dX6_pot_30 : decode cX6_pot 30 = .ok (.goto 5, 3) := by decide +kernel
theorem dX6_pot_33 : decode cX6_pot 33 = .ok (.ldc 90, 2) := by decide +kernel
theorem dX6_pot_35 : decode cX6_pot 35 = .ok (.ireturn, 1) := by decide +kernel
theorem dX6_tasteAll_0 : decode cX6_tasteAll 0 = .ok (.iconst 0, 1) := by decide +kernel
theorem dX6_tasteAll_1 : decode cX6_tasteAll 1 = .ok (.istore_n 1, 1) := by decide +kernel
theorem dX6_tasteAll_2 : decode cX6_tasteAll 2 = .ok (.iconst 0, 1) := by decide +kernel
theorem dX6_tasteAll_3 : decode cX6_tasteAll 3 = .ok (.istore_n 2, 1) := by decide +kernel
theorem dX6_tasteAll_4 : decode cX6_tasteAll 4 = .ok (.iload_n 2, 1) := by decide +kernel
theorem dX6_tasteAll_5 : decode cX6_tasteAll 5 = .ok (.aload_n 0, 1) := by decide +kernel
theorem dX6_tasteAll_6 : decode cX6_tasteAll 6 = .ok (.getfield 9, 3) := by decide +kernel
theorem dX6_tasteAll_9 : decode cX6_tasteAll 9 = .ok (.iconst 1, 1) := by decide +kernel
theorem dX6_tasteAll_10 : decode cX6_tasteAll 10 = .ok (.iaload, 1) := by decide +kernel
theorem dX6_tasteAll_11 : decode cX6_tasteAll 11 = .ok (.if_icmp .ge 17, 3) := by decide +kernel
theorem dX6_tasteAll_14 : decode cX6_tasteAll 14 = .ok (.iload_n 1, 1) := by decide +kernel
theorem dX6_tasteAll_15 : decode cX6_tasteAll 15 = .ok (.aload_n 0, 1) := by decide +kernel
theorem dX6_tasteAll_16 : decode cX6_tasteAll 16 = .ok (.iload_n 2, 1) := by decide +kernel
theorem dX6_tasteAll_17 : decode cX6_tasteAll 17 = .ok (.invokevirtual 122, 3) := by decide +kernel
theorem dX6_tasteAll_20 : decode cX6_tasteAll 20 = .ok (.iadd, 1) := by decide +kernel
theorem dX6_tasteAll_21 : decode cX6_tasteAll 21 = .ok (.istore_n 1, 1) := by decide +kernel
theorem dX6_tasteAll_22 : decode cX6_tasteAll 22 = .ok (.iinc 2 1, 3) := by decide +kernel
theorem dX6_tasteAll_25 : decode cX6_tasteAll 25 = .ok (.goto (-21), 3) := by decide +kernel
theorem dX6_tasteAll_28 : decode cX6_tasteAll 28 = .ok (.iload_n 1, 1) := by decide +kernel
theorem dX6_tasteAll_29 : decode cX6_tasteAll 29 = .ok (.ireturn, 1) := by decide +kernel
theorem dX6_day_0 : decode cX6_day 0 = .ok (.iconst 0, 1) := by decide +kernel
theorem dX6_day_1 : decode cX6_day 1 = .ok (.istore_n 1, 1) := by decide +kernel
theorem dX6_day_2 : decode cX6_day 2 = .ok (.iload_n 1, 1) := by decide +kernel
theorem dX6_day_3 : decode cX6_day 3 = .ok (.aload_n 0, 1) := by decide +kernel
theorem dX6_day_4 : decode cX6_day 4 = .ok (.getfield 9, 3) := by decide +kernel
theorem dX6_day_7 : decode cX6_day 7 = .ok (.iconst 1, 1) := by decide +kernel
theorem dX6_day_8 : decode cX6_day 8 = .ok (.iaload, 1) := by decide +kernel
theorem dX6_day_9 : decode cX6_day 9 = .ok (.if_icmp .ge 70, 3) := by decide +kernel
theorem dX6_day_12 : decode cX6_day 12 = .ok (.aload_n 0, 1) := by decide +kernel
theorem dX6_day_13 : decode cX6_day 13 = .ok (.iload_n 1, 1) := by decide +kernel
theorem dX6_day_14 : decode cX6_day 14 = .ok (.iconst 2, 1) := by decide +kernel
theorem dX6_day_15 : decode cX6_day 15 = .ok (.invokevirtual 96, 3) := by decide +kernel
theorem dX6_day_18 : decode cX6_day 18 = .ok (.istore_n 2, 1) := by decide +kernel
theorem dX6_day_19 : decode cX6_day 19 = .ok (.aload_n 0, 1) := by decide +kernel
theorem dX6_day_20 : decode cX6_day 20 = .ok (.getfield 9, 3) := by decide +kernel
theorem dX6_day_23 : decode cX6_day 23 = .ok (.iconst 3, 1) := by decide +kernel
theorem dX6_day_24 : decode cX6_day 24 = .ok (.iaload, 1) := by decide +kernel
theorem dX6_day_25 : decode cX6_day 25 = .ok (.aload_n 0, 1) := by decide +kernel
theorem dX6_day_26 : decode cX6_day 26 = .ok (.getfield 9, 3) := by decide +kernel
theorem dX6_day_29 : decode cX6_day 29 = .ok (.iconst 2, 1) := by decide +kernel
theorem dX6_day_30 : decode cX6_day 30 = .ok (.iaload, 1) := by decide +kernel
theorem dX6_day_31 : decode cX6_day 31 = .ok (.if_icmp .lt 7, 3) := by decide +kernel
theorem dX6_day_34 : decode cX6_day 34 = .ok (.iload_n 2, 1) := by decide +kernel
theorem dX6_day_35 : decode cX6_day 35 = .ok (.goto 18, 3) := by decide +kernel
theorem dX6_day_38 : decode cX6_day 38 = .ok (.iload_n 2, 1) := by decide +kernel
theorem dX6_day_39 : decode cX6_day 39 = .ok (.aload_n 0, 1) := by decide +kernel
theorem dX6_day_40 : decode cX6_day 40 = .ok (.getfield 9, 3) := by decide +kernel
theorem dX6_day_43 : decode cX6_day 43 = .ok (.iconst 3, 1) := by decide +kernel
theorem dX6_day_44 : decode cX6_day 44 = .ok (.iaload, 1) := by decide +kernel
theorem dX6_day_45 : decode cX6_day 45 = .ok (.imul, 1) := by decide +kernel
theorem dX6_day_46 : decode cX6_day 46 = .ok (.aload_n 0, 1) := by decide +kernel
theorem dX6_day_47 : decode cX6_day 47 = .ok (.getfield 9, 3) := by decide +kernel
theorem dX6_day_50 : decode cX6_day 50 = .ok (.iconst 2, 1) := by decide +kernel
theorem dX6_day_51 : decode cX6_day 51 = .ok (.iaload, 1) := by decide +kernel
theorem dX6_day_52 : decode cX6_day 52 = .ok (.idiv, 1) := by decide +kernel
theorem dX6_day_53 : decode cX6_day 53 = .ok (.istore_n 3, 1) := by decide +kernel
theorem dX6_day_54 : decode cX6_day 54 = .ok (.aload_n 0, 1) := by decide +kernel
theorem dX6_day_55 : decode cX6_day 55 = .ok (.iload_n 1, 1) := by decide +kernel
theorem dX6_day_56 : decode cX6_day 56 = .ok (.iconst 2, 1) := by decide +kernel
theorem dX6_day_57 : decode cX6_day 57 = .ok (.iload_n 2, 1) := by decide +kernel
theorem dX6_day_58 : decode cX6_day 58 = .ok (.iload_n 3, 1) := by decide +kernel
theorem dX6_day_59 : decode cX6_day 59 = .ok (.isub, 1) := by decide +kernel
theorem dX6_day_60 : decode cX6_day 60 = .ok (.invokevirtual 86, 3) := by decide +kernel
theorem dX6_day_63 : decode cX6_day 63 = .ok (.aload_n 0, 1) := by decide +kernel
theorem dX6_day_64 : decode cX6_day 64 = .ok (.getfield 9, 3) := by decide +kernel
theorem dX6_day_67 : decode cX6_day 67 = .ok (.iconst 5, 1) := by decide +kernel
theorem dX6_day_68 : decode cX6_day 68 = .ok (.dup2, 1) := by decide +kernel
theorem dX6_day_69 : decode cX6_day 69 = .ok (.iaload, 1) := by decide +kernel
theorem dX6_day_70 : decode cX6_day 70 = .ok (.iload_n 3, 1) := by decide +kernel
theorem dX6_day_71 : decode cX6_day 71 = .ok (.iadd, 1) := by decide +kernel
theorem dX6_day_72 : decode cX6_day 72 = .ok (.iastore, 1) := by decide +kernel
theorem dX6_day_73 : decode cX6_day 73 = .ok (.iinc 1 1, 3) := by decide +kernel
theorem dX6_day_76 : decode cX6_day 76 = .ok (.goto (-74), 3) := by decide +kernel
theorem dX6_day_79 : decode cX6_day 79 = .ok (.iconst 0, 1) := by decide +kernel
theorem dX6_day_80 : decode cX6_day 80 = .ok (.istore_n 1, 1) := by decide +kernel
theorem dX6_day_81 : decode cX6_day 81 = .ok (.iload_n 1, 1) := by decide +kernel
theorem dX6_day_82 : decode cX6_day 82 = .ok (.aload_n 0, 1) := by decide +kernel
theorem dX6_day_83 : decode cX6_day 83 = .ok (.getfield 9, 3) := by decide +kernel
theorem dX6_day_86 : decode cX6_day 86 = .ok (.iconst 1, 1) := by decide +kernel
theorem dX6_day_87 : decode cX6_day 87 = .ok (.iaload, 1) := by decide +kernel
theorem dX6_day_88 : decode cX6_day 88 = .ok (.if_icmp .ge 74, 3) := by decide +kernel
theorem dX6_day_91 : decode cX6_day 91 = .ok (.aload_n 0, 1) := by decide +kernel
theorem dX6_day_92 : decode cX6_day 92 = .ok (.iload_n 1, 1) := by decide +kernel
theorem dX6_day_93 : decode cX6_day 93 = .ok (.invokevirtual 134, 3) := by decide +kernel
theorem dX6_day_96 : decode cX6_day 96 = .ok (.istore_n 2, 1) := by decide +kernel
theorem dX6_day_97 : decode cX6_day 97 = .ok (.aload_n 0, 1) := by decide +kernel
theorem dX6_day_98 : decode cX6_day 98 = .ok (.iload_n 1, 1) := by decide +kernel
theorem dX6_day_99 : decode cX6_day 99 = .ok (.iconst 2, 1) := by decide +kernel
theorem dX6_day_100 : decode cX6_day 100 = .ok (.aload_n 0, 1) := by decide +kernel
theorem dX6_day_101 : decode cX6_day 101 = .ok (.iload_n 1, 1) := by decide +kernel
theorem dX6_day_102 : decode cX6_day 102 = .ok (.iconst 2, 1) := by decide +kernel
theorem dX6_day_103 : decode cX6_day 103 = .ok (.invokevirtual 96, 3) := by decide +kernel
theorem dX6_day_106 : decode cX6_day 106 = .ok (.iload_n 2, 1) := by decide +kernel
theorem dX6_day_107 : decode cX6_day 107 = .ok (.isub, 1) := by decide +kernel
theorem dX6_day_108 : decode cX6_day 108 = .ok (.invokevirtual 86, 3) := by decide +kernel
theorem dX6_day_111 : decode cX6_day 111 = .ok (.aload_n 0, 1) := by decide +kernel
theorem dX6_day_112 : decode cX6_day 112 = .ok (.getfield 9, 3) := by decide +kernel
theorem dX6_day_115 : decode cX6_day 115 = .ok (.bipush 6, 2) := by decide +kernel
theorem dX6_day_117 : decode cX6_day 117 = .ok (.dup2, 1) := by decide +kernel
theorem dX6_day_118 : decode cX6_day 118 = .ok (.iaload, 1) := by decide +kernel
theorem dX6_day_119 : decode cX6_day 119 = .ok (.iload_n 2, 1) := by decide +kernel
theorem dX6_day_120 : decode cX6_day 120 = .ok (.iadd, 1) := by decide +kernel
theorem dX6_day_121 : decode cX6_day 121 = .ok (.iastore, 1) := by decide +kernel
theorem dX6_day_122 : decode cX6_day 122 = .ok (.aload_n 0, 1) := by decide +kernel
theorem dX6_day_123 : decode cX6_day 123 = .ok (.iload_n 1, 1) := by decide +kernel
theorem dX6_day_124 : decode cX6_day 124 = .ok (.iconst 3, 1) := by decide +kernel
theorem dX6_day_125 : decode cX6_day 125 = .ok (.aload_n 0, 1) := by decide +kernel
theorem dX6_day_126 : decode cX6_day 126 = .ok (.iload_n 1, 1) := by decide +kernel
theorem dX6_day_127 : decode cX6_day 127 = .ok (.iconst 2, 1) := by decide +kernel
theorem dX6_day_128 : decode cX6_day 128 = .ok (.invokevirtual 96, 3) := by decide +kernel
theorem dX6_day_131 : decode cX6_day 131 = .ok (.ifCond .ne 7, 3) := by decide +kernel
theorem dX6_day_134 : decode cX6_day 134 = .ok (.iconst 0, 1) := by decide +kernel
theorem dX6_day_135 : decode cX6_day 135 = .ok (.goto 18, 3) := by decide +kernel
theorem dX6_day_138 : decode cX6_day 138 = .ok (.aload_n 0, 1) := by decide +kernel
theorem dX6_day_139 : decode cX6_day 139 = .ok (.iload_n 1, 1) := by decide +kernel
theorem dX6_day_140 : decode cX6_day 140 = .ok (.iconst 3, 1) := by decide +kernel
theorem dX6_day_141 : decode cX6_day 141 = .ok (.invokevirtual 96, 3) := by decide +kernel
theorem dX6_day_144 : decode cX6_day 144 = .ok (.iconst 1, 1) := by decide +kernel
theorem dX6_day_145 : decode cX6_day 145 = .ok (.iadd, 1) := by decide +kernel
theorem dX6_day_146 : decode cX6_day 146 = .ok (.iconst 0, 1) := by decide +kernel
theorem dX6_day_147 : decode cX6_day 147 = .ok (.sipush 9999, 3) := by decide +kernel
theorem dX6_day_150 : decode cX6_day 150 = .ok (.invokestatic 101, 3) := by decide +kernel
theorem dX6_day_153 : decode cX6_day 153 = .ok (.invokevirtual 86, 3) := by decide +kernel
theorem dX6_day_156 : decode cX6_day 156 = .ok (.iinc 1 1, 3) := by decide +kernel
theorem dX6_day_159 : decode cX6_day 159 = .ok (.goto (-78), 3) := by decide +kernel
theorem dX6_day_162 : decode cX6_day 162 = .ok (.aload_n 0, 1) := by decide +kernel
theorem dX6_day_163 : decode cX6_day 163 = .ok (.getfield 9, 3) := by decide +kernel
theorem dX6_day_166 : decode cX6_day 166 = .ok (.iconst 4, 1) := by decide +kernel
theorem dX6_day_167 : decode cX6_day 167 = .ok (.dup2, 1) := by decide +kernel
theorem dX6_day_168 : decode cX6_day 168 = .ok (.iaload, 1) := by decide +kernel
theorem dX6_day_169 : decode cX6_day 169 = .ok (.iconst 1, 1) := by decide +kernel
theorem dX6_day_170 : decode cX6_day 170 = .ok (.iadd, 1) := by decide +kernel
theorem dX6_day_171 : decode cX6_day 171 = .ok (.iastore, 1) := by decide +kernel
theorem dX6_day_172 : decode cX6_day 172 = .ok (.return_, 1) := by decide +kernel
theorem dX6_goesOn_0 : decode cX6_goesOn 0 = .ok (.iconst 0, 1) := by decide +kernel
theorem dX6_goesOn_1 : decode cX6_goesOn 1 = .ok (.istore_n 2, 1) := by decide +kernel
theorem dX6_goesOn_2 : decode cX6_goesOn 2 = .ok (.iload_n 2, 1) := by decide +kernel
theorem dX6_goesOn_3 : decode cX6_goesOn 3 = .ok (.iload_n 1, 1) := by decide +kernel
theorem dX6_goesOn_4 : decode cX6_goesOn 4 = .ok (.if_icmp .ge 13, 3) := by decide +kernel
theorem dX6_goesOn_7 : decode cX6_goesOn 7 = .ok (.aload_n 0, 1) := by decide +kernel
theorem dX6_goesOn_8 : decode cX6_goesOn 8 = .ok (.invokevirtual 155, 3) := by decide +kernel
theorem dX6_goesOn_11 : decode cX6_goesOn 11 = .ok (.iinc 2 1, 3) := by decide +kernel
theorem dX6_goesOn_14 : decode cX6_goesOn 14 = .ok (.goto (-12), 3) := by decide +kernel
theorem dX6_goesOn_17 : decode cX6_goesOn 17 = .ok (.return_, 1) := by decide +kernel
theorem dX6_days_0 : decode cX6_days 0 = .ok (.iload_n 1, 1) := by decide +kernel
theorem dX6_days_1 : decode cX6_days 1 = .ok (.iconst 1, 1) := by decide +kernel
theorem dX6_days_2 : decode cX6_days 2 = .ok (.sipush 300, 3) := by decide +kernel
theorem dX6_days_5 : decode cX6_days 5 = .ok (.invokestatic 82, 3) := by decide +kernel
theorem dX6_days_8 : decode cX6_days 8 = .ok (.ifCond .ne 6, 3) := by decide +kernel
theorem dX6_days_11 : decode cX6_days 11 = .ok (.ldc 90, 2) := by decide +kernel
theorem dX6_days_13 : decode cX6_days 13 = .ok (.ireturn, 1) := by decide +kernel
theorem dX6_days_14 : decode cX6_days 14 = .ok (.aload_n 0, 1) := by decide +kernel
theorem dX6_days_15 : decode cX6_days 15 = .ok (.sipush 9999, 3) := by decide +kernel
theorem dX6_days_18 : decode cX6_days 18 = .ok (.aload_n 0, 1) := by decide +kernel
theorem dX6_days_19 : decode cX6_days 19 = .ok (.getfield 9, 3) := by decide +kernel
theorem dX6_days_22 : decode cX6_days 22 = .ok (.iconst 4, 1) := by decide +kernel
theorem dX6_days_23 : decode cX6_days 23 = .ok (.iaload, 1) := by decide +kernel
theorem dX6_days_24 : decode cX6_days 24 = .ok (.isub, 1) := by decide +kernel
theorem dX6_days_25 : decode cX6_days 25 = .ok (.iconst 0, 1) := by decide +kernel
theorem dX6_days_26 : decode cX6_days 26 = .ok (.iload_n 1, 1) := by decide +kernel
theorem dX6_days_27 : decode cX6_days 27 = .ok (.invokestatic 101, 3) := by decide +kernel
theorem dX6_days_30 : decode cX6_days 30 = .ok (.invokevirtual 158, 3) := by decide +kernel
theorem dX6_days_33 : decode cX6_days 33 = .ok (.aload_n 0, 1) := by decide +kernel
theorem dX6_days_34 : decode cX6_days 34 = .ok (.invokevirtual 162, 3) := by decide +kernel
theorem dX6_days_37 : decode cX6_days 37 = .ok (.ireturn, 1) := by decide +kernel
theorem dX6_taste_0 : decode cX6_taste 0 = .ok (.aload_n 0, 1) := by decide +kernel
theorem dX6_taste_1 : decode cX6_taste 1 = .ok (.invokevirtual 162, 3) := by decide +kernel
theorem dX6_taste_4 : decode cX6_taste 4 = .ok (.ireturn, 1) := by decide +kernel
theorem dX6_grams_0 : decode cX6_grams 0 = .ok (.iload_n 1, 1) := by decide +kernel
theorem dX6_grams_1 : decode cX6_grams 1 = .ok (.iconst 0, 1) := by decide +kernel
theorem dX6_grams_2 : decode cX6_grams 2 = .ok (.iconst 2, 1) := by decide +kernel
theorem dX6_grams_3 : decode cX6_grams 3 = .ok (.invokestatic 82, 3) := by decide +kernel
theorem dX6_grams_6 : decode cX6_grams 6 = .ok (.ifCond .ne 8, 3) := by decide +kernel
theorem dX6_grams_9 : decode cX6_grams 9 = .ok (.ldc 90, 2) := by decide +kernel
theorem dX6_grams_11 : decode cX6_grams 11 = .ok (.goto 23, 3) := by decide +kernel
theorem dX6_grams_14 : decode cX6_grams 14 = .ok (.iload_n 1, 1) := by decide +kernel
theorem dX6_grams_15 : decode cX6_grams 15 = .ok (.iconst 2, 1) := by decide +kernel
theorem dX6_grams_16 : decode cX6_grams 16 = .ok (.if_icmp .ge 14, 3) := by decide +kernel
theorem dX6_grams_19 : decode cX6_grams 19 = .ok (.aload_n 0, 1) := by decide +kernel
theorem dX6_grams_20 : decode cX6_grams 20 = .ok (.getfield 9, 3) := by decide +kernel
theorem dX6_grams_23 : decode cX6_grams 23 = .ok (.iconst 5, 1) := by decide +kernel
theorem dX6_grams_24 : decode cX6_grams 24 = .ok (.iload_n 1, 1) := by decide +kernel
theorem dX6_grams_25 : decode cX6_grams 25 = .ok (.iadd, 1) := by decide +kernel
theorem dX6_grams_26 : decode cX6_grams 26 = .ok (.iaload, 1) := by decide +kernel
theorem dX6_grams_27 : decode cX6_grams 27 = .ok (.goto 7, 3) := by decide +kernel
theorem dX6_grams_30 : decode cX6_grams 30 = .ok (.aload_n 0, 1) := by decide +kernel
theorem dX6_grams_31 : decode cX6_grams 31 = .ok (.invokevirtual 128, 3) := by decide +kernel
theorem dX6_grams_34 : decode cX6_grams 34 = .ok (.ireturn, 1) := by decide +kernel
theorem dX6_lot_0 : decode cX6_lot 0 = .ok (.aload_n 0, 1) := by decide +kernel
theorem dX6_lot_1 : decode cX6_lot 1 = .ok (.iconst 2, 1) := by decide +kernel
theorem dX6_lot_2 : decode cX6_lot 2 = .ok (.invokevirtual 112, 3) := by decide +kernel
theorem dX6_lot_5 : decode cX6_lot 5 = .ok (.istore_n 1, 1) := by decide +kernel
theorem dX6_lot_6 : decode cX6_lot 6 = .ok (.aload_n 0, 1) := by decide +kernel
theorem dX6_lot_7 : decode cX6_lot 7 = .ok (.invokevirtual 162, 3) := by decide +kernel
theorem dX6_lot_10 : decode cX6_lot 10 = .ok (.istore_n 2, 1) := by decide +kernel
theorem dX6_lot_11 : decode cX6_lot 11 = .ok (.aload_n 0, 1) := by decide +kernel
theorem dX6_lot_12 : decode cX6_lot 12 = .ok (.getfield 51, 3) := by decide +kernel
theorem dX6_lot_15 : decode cX6_lot 15 = .ok (.iconst 0, 1) := by decide +kernel
theorem dX6_lot_16 : decode cX6_lot 16 = .ok (.aload_n 0, 1) := by decide +kernel
theorem dX6_lot_17 : decode cX6_lot 17 = .ok (.getfield 9, 3) := by decide +kernel
theorem dX6_lot_20 : decode cX6_lot 20 = .ok (.iconst 4, 1) := by decide +kernel
theorem dX6_lot_21 : decode cX6_lot 21 = .ok (.iaload, 1) := by decide +kernel
theorem dX6_lot_22 : decode cX6_lot 22 = .ok (.iastore, 1) := by decide +kernel
theorem dX6_lot_23 : decode cX6_lot 23 = .ok (.aload_n 0, 1) := by decide +kernel
theorem dX6_lot_24 : decode cX6_lot 24 = .ok (.getfield 51, 3) := by decide +kernel
theorem dX6_lot_27 : decode cX6_lot 27 = .ok (.iconst 1, 1) := by decide +kernel
theorem dX6_lot_28 : decode cX6_lot 28 = .ok (.iload_n 2, 1) := by decide +kernel
theorem dX6_lot_29 : decode cX6_lot 29 = .ok (.iastore, 1) := by decide +kernel
theorem dX6_lot_30 : decode cX6_lot 30 = .ok (.iload_n 1, 1) := by decide +kernel
theorem dX6_lot_31 : decode cX6_lot 31 = .ok (.ifCond .ge 7, 3) := by decide +kernel
theorem dX6_lot_34 : decode cX6_lot 34 = .ok (.iconst 0, 1) := by decide +kernel
theorem dX6_lot_35 : decode cX6_lot 35 = .ok (.goto 8, 3) := by decide +kernel
theorem dX6_lot_38 : decode cX6_lot 38 = .ok (.aload_n 0, 1) := by decide +kernel
theorem dX6_lot_39 : decode cX6_lot 39 = .ok (.iload_n 1, 1) := by decide +kernel
theorem dX6_lot_40 : decode cX6_lot 40 = .ok (.invokevirtual 116, 3) := by decide +kernel
theorem dX6_lot_43 : decode cX6_lot 43 = .ok (.ireturn, 1) := by decide +kernel
theorem dX6_thinks_0 : decode cX6_thinks 0 = .ok (.iconst 0, 1) := by decide +kernel
theorem dX6_thinks_1 : decode cX6_thinks 1 = .ok (.istore_n 1, 1) := by decide +kernel
theorem dX6_thinks_2 : decode cX6_thinks 2 = .ok (.iload_n 1, 1) := by decide +kernel
theorem dX6_thinks_3 : decode cX6_thinks 3 = .ok (.bipush 40, 2) := by decide +kernel
theorem dX6_thinks_5 : decode cX6_thinks 5 = .ok (.if_icmp .ge 21, 3) := by decide +kernel
theorem dX6_thinks_8 : decode cX6_thinks 8 = .ok (.aload_n 0, 1) := by decide +kernel
theorem dX6_thinks_9 : decode cX6_thinks 9 = .ok (.getfield 19, 3) := by decide +kernel
theorem dX6_thinks_12 : decode cX6_thinks 12 = .ok (.iload_n 1, 1) := by decide +kernel
theorem dX6_thinks_13 : decode cX6_thinks 13 = .ok (.aload_n 0, 1) := by decide +kernel
theorem dX6_thinks_14 : decode cX6_thinks 14 = .ok (.getfield 9, 3) := by decide +kernel
theorem dX6_thinks_17 : decode cX6_thinks 17 = .ok (.iload_n 1, 1) := by decide +kernel
theorem dX6_thinks_18 : decode cX6_thinks 18 = .ok (.iaload, 1) := by decide +kernel
theorem dX6_thinks_19 : decode cX6_thinks 19 = .ok (.iastore, 1) := by decide +kernel
theorem dX6_thinks_20 : decode cX6_thinks 20 = .ok (.iinc 1 1, 3) := by decide +kernel
theorem dX6_thinks_23 : decode cX6_thinks 23 = .ok (.goto (-21), 3) := by decide +kernel
theorem dX6_thinks_26 : decode cX6_thinks 26 = .ok (.return_, 1) := by decide +kernel
theorem dX6_putsBack_0 : decode cX6_putsBack 0 = .ok (.iconst 0, 1) := by decide +kernel
theorem dX6_putsBack_1 : decode cX6_putsBack 1 = .ok (.istore_n 1, 1) := by decide +kernel
theorem dX6_putsBack_2 : decode cX6_putsBack 2 = .ok (.iload_n 1, 1) := by decide +kernel
theorem dX6_putsBack_3 : decode cX6_putsBack 3 = .ok (.bipush 40, 2) := by decide +kernel
theorem dX6_putsBack_5 : decode cX6_putsBack 5 = .ok (.if_icmp .ge 21, 3) := by decide +kernel
theorem dX6_putsBack_8 : decode cX6_putsBack 8 = .ok (.aload_n 0, 1) := by decide +kernel
theorem dX6_putsBack_9 : decode cX6_putsBack 9 = .ok (.getfield 9, 3) := by decide +kernel
theorem dX6_putsBack_12 : decode cX6_putsBack 12 = .ok (.iload_n 1, 1) := by decide +kernel
theorem dX6_putsBack_13 : decode cX6_putsBack 13 = .ok (.aload_n 0, 1) := by decide +kernel
theorem dX6_putsBack_14 : decode cX6_putsBack 14 = .ok (.getfield 19, 3) := by decide +kernel
theorem dX6_putsBack_17 : decode cX6_putsBack 17 = .ok (.iload_n 1, 1) := by decide +kernel
theorem dX6_putsBack_18 : decode cX6_putsBack 18 = .ok (.iaload, 1) := by decide +kernel
theorem dX6_putsBack_19 : decode cX6_putsBack 19 = .ok (.iastore, 1) := by decide +kernel
theorem dX6_putsBack_20 : decode cX6_putsBack 20 = .ok (.iinc 1 1, 3) := by decide +kernel
theorem dX6_putsBack_23 : decode cX6_putsBack 23 = .ok (.goto (-21), 3) := by decide +kernel
theorem dX6_putsBack_26 : decode cX6_putsBack 26 = .ok (.return_, 1) := by decide +kernel
theorem dX6_behind_0 : decode cX6_behind 0 = .ok (.aload_n 0, 1) := by decide +kernel
theorem dX6_behind_1 : decode cX6_behind 1 = .ok (.iload_n 1, 1) := by decide +kernel
theorem dX6_behind_2 : decode cX6_behind 2 = .ok (.invokevirtual 104, 3) := by decide +kernel
theorem dX6_behind_5 : decode cX6_behind 5 = .ok (.ifCond .eq 23, 3) := by decide +kernel
theorem dX6_behind_8 : decode cX6_behind 8 = .ok (.iload_n 2, 1) := by decide +kernel
theorem dX6_behind_9 : decode cX6_behind 9 = .ok (.iconst 0, 1) := by decide +kernel
theorem dX6_behind_10 : decode cX6_behind 10 = .ok (.sipush 300, 3) := by decide +kernel
theorem dX6_behind_13 : decode cX6_behind 13 = .ok (.invokestatic 82, 3) := by decide +kernel
theorem dX6_behind_16 : decode cX6_behind 16 = .ok (.ifCond .eq 12, 3) := by decide +kernel
theorem dX6_behind_19 : decode cX6_behind 19 = .ok (.iload_n 3, 1) := by decide +kernel
theorem dX6_behind_20 : decode cX6_behind 20 = .ok (.iconst 0, 1) := by decide +kernel
theorem dX6_behind_21 : decode cX6_behind 21 = .ok (.iconst 3, 1) := by decide +kernel
theorem dX6_behind_22 : decode cX6_behind 22 = .ok (.invokestatic 82, 3) := by decide +kernel
theorem dX6_behind_25 : decode cX6_behind 25 = .ok (.ifCond .ne 6, 3) := by decide +kernel
theorem dX6_behind_28 : decode cX6_behind 28 = .ok (.ldc 90, 2) := by decide +kernel
theorem dX6_behind_30 : decode cX6_behind 30 = .ok (.ireturn, 1) := by decide +kernel
theorem dX6_behind_31 : decode cX6_behind 31 = .ok (.aload_n 0, 1) := by decide +kernel
theorem dX6_behind_32 : decode cX6_behind 32 = .ok (.invokevirtual 165, 3) := by decide +kernel
theorem dX6_behind_35 : decode cX6_behind 35 = .ok (.aload_n 0, 1) := by decide +kernel
theorem dX6_behind_36 : decode cX6_behind 36 = .ok (.iload_n 2, 1) := by decide +kernel
theorem dX6_behind_37 : decode cX6_behind 37 = .ok (.invokevirtual 158, 3) := by decide +kernel
theorem dX6_behind_40 : decode cX6_behind 40 = .ok (.iload_n 3, 1) := by decide +kernel
theorem dX6_behind_41 : decode cX6_behind 41 = .ok (.ifCond .ne 12, 3) := by decide +kernel
theorem dX6_behind_44 : decode cX6_behind 44 = .ok (.aload_n 0, 1) := by decide +kernel
theorem dX6_behind_45 : decode cX6_behind 45 = .ok (.iload_n 1, 1) := by decide +kernel
theorem dX6_behind_46 : decode cX6_behind 46 = .ok (.iconst 2, 1) := by decide +kernel
theorem dX6_behind_47 : decode cX6_behind 47 = .ok (.invokevirtual 96, 3) := by decide +kernel
theorem dX6_behind_50 : decode cX6_behind 50 = .ok (.goto 34, 3) := by decide +kernel
theorem dX6_behind_53 : decode cX6_behind 53 = .ok (.iload_n 3, 1) := by decide +kernel
theorem dX6_behind_54 : decode cX6_behind 54 = .ok (.iconst 1, 1) := by decide +kernel
theorem dX6_behind_55 : decode cX6_behind 55 = .ok (.if_icmp .ne 11, 3) := by decide +kernel
theorem dX6_behind_58 : decode cX6_behind 58 = .ok (.aload_n 0, 1) := by decide +kernel
theorem dX6_behind_59 : decode cX6_behind 59 = .ok (.iload_n 1, 1) := by decide +kernel
theorem dX6_behind_60 : decode cX6_behind 60 = .ok (.invokevirtual 122, 3) := by decide +kernel
theorem dX6_behind_63 : decode cX6_behind 63 = .ok (.goto 21, 3) := by decide +kernel
theorem dX6_behind_66 : decode cX6_behind 66 = .ok (.iload_n 3, 1) := by decide +kernel
theorem dX6_behind_67 : decode cX6_behind 67 = .ok (.iconst 2, 1) := by decide +kernel
theorem dX6_behind_68 : decode cX6_behind 68 = .ok (.if_icmp .ne 10, 3) := by decide +kernel
theorem dX6_behind_71 : decode cX6_behind 71 = .ok (.aload_n 0, 1) := by decide +kernel
theorem dX6_behind_72 : decode cX6_behind 72 = .ok (.invokevirtual 162, 3) := by decide +kernel
theorem dX6_behind_75 : decode cX6_behind 75 = .ok (.goto 9, 3) := by decide +kernel
theorem dX6_behind_78 : decode cX6_behind 78 = .ok (.aload_n 0, 1) := by decide +kernel
theorem dX6_behind_79 : decode cX6_behind 79 = .ok (.getfield 9, 3) := by decide +kernel
theorem dX6_behind_82 : decode cX6_behind 82 = .ok (.iconst 5, 1) := by decide +kernel
theorem dX6_behind_83 : decode cX6_behind 83 = .ok (.iaload, 1) := by decide +kernel
theorem dX6_behind_84 : decode cX6_behind 84 = .ok (.istore 4, 2) := by decide +kernel
theorem dX6_behind_86 : decode cX6_behind 86 = .ok (.aload_n 0, 1) := by decide +kernel
theorem dX6_behind_87 : decode cX6_behind 87 = .ok (.invokevirtual 168, 3) := by decide +kernel
theorem dX6_behind_90 : decode cX6_behind 90 = .ok (.iload 4, 2) := by decide +kernel
theorem dX6_behind_92 : decode cX6_behind 92 = .ok (.ireturn, 1) := by decide +kernel
theorem dX6_tasted_0 : decode cX6_tasted 0 = .ok (.aload_n 0, 1) := by decide +kernel
theorem dX6_tasted_1 : decode cX6_tasted 1 = .ok (.iload_n 1, 1) := by decide +kernel
theorem dX6_tasted_2 : decode cX6_tasted 2 = .ok (.invokevirtual 104, 3) := by decide +kernel
theorem dX6_tasted_5 : decode cX6_tasted 5 = .ok (.ifCond .ne 6, 3) := by decide +kernel
theorem dX6_tasted_8 : decode cX6_tasted 8 = .ok (.ldc 90, 2) := by decide +kernel
theorem dX6_tasted_10 : decode cX6_tasted 10 = .ok (.ireturn, 1) := by decide +kernel
theorem dX6_tasted_11 : decode cX6_tasted 11 = .ok (.aload_n 0, 1) := by decide +kernel
theorem dX6_tasted_12 : decode cX6_tasted 12 = .ok (.invokevirtual 165, 3) := by decide +kernel
theorem dX6_tasted_15 : decode cX6_tasted 15 = .ok (.iconst 0, 1) := by decide +kernel
theorem dX6_tasted_16 : decode cX6_tasted 16 = .ok (.istore_n 2, 1) := by decide +kernel
theorem dX6_tasted_17 : decode cX6_tasted 17 = .ok (.iload_n 2, 1) := by decide +kernel
theorem dX6_tasted_18 : decode cX6_tasted 18 = .ok (.sipush 300, 3) := by decide +kernel
theorem dX6_tasted_21 : decode cX6_tasted 21 = .ok (.if_icmp .gt 21, 3) := by decide +kernel
theorem dX6_tasted_24 : decode cX6_tasted 24 = .ok (.aload_n 0, 1) := by decide +kernel
theorem dX6_tasted_25 : decode cX6_tasted 25 = .ok (.iload_n 1, 1) := by decide +kernel
theorem dX6_tasted_26 : decode cX6_tasted 26 = .ok (.invokevirtual 122, 3) := by decide +kernel
theorem dX6_tasted_29 : decode cX6_tasted 29 = .ok (.ifCond .le 13, 3) := by decide +kernel
theorem dX6_tasted_32 : decode cX6_tasted 32 = .ok (.aload_n 0, 1) := by decide +kernel
theorem dX6_tasted_33 : decode cX6_tasted 33 = .ok (.invokevirtual 155, 3) := by decide +kernel
theorem dX6_tasted_36 : decode cX6_tasted 36 = .ok (.iinc 2 1, 3) := by decide +kernel
theorem dX6_tasted_39 : decode cX6_tasted 39 = .ok (.goto (-22), 3) := by decide +kernel
theorem dX6_tasted_42 : decode cX6_tasted 42 = .ok (.aload_n 0, 1) := by decide +kernel
theorem dX6_tasted_43 : decode cX6_tasted 43 = .ok (.invokevirtual 168, 3) := by decide +kernel
theorem dX6_tasted_46 : decode cX6_tasted 46 = .ok (.iload_n 2, 1) := by decide +kernel
theorem dX6_tasted_47 : decode cX6_tasted 47 = .ok (.sipush 300, 3) := by decide +kernel
theorem dX6_tasted_50 : decode cX6_tasted 50 = .ok (.if_icmp .gt 7, 3) := by decide +kernel
theorem dX6_tasted_53 : decode cX6_tasted 53 = .ok (.iload_n 2, 1) := by decide +kernel
theorem dX6_tasted_54 : decode cX6_tasted 54 = .ok (.goto 5, 3) := by decide +kernel
theorem dX6_tasted_57 : decode cX6_tasted 57 = .ok (.ldc 81, 2) := by decide +kernel
theorem dX6_tasted_59 : decode cX6_tasted 59 = .ok (.ireturn, 1) := by decide +kernel
theorem dX6_findSteer_0 : decode cX6_findSteer 0 = .ok (.aload_n 0, 1) := by decide +kernel
theorem dX6_findSteer_1 : decode cX6_findSteer 1 = .ok (.invokevirtual 165, 3) := by decide +kernel
theorem dX6_findSteer_4 : decode cX6_findSteer 4 = .ok (.iconst (-1), 1) := by decide +kernel
theorem dX6_findSteer_5 : decode cX6_findSteer 5 = .ok (.istore_n 3, 1) := by decide +kernel
theorem dX6_findSteer_6 : decode cX6_findSteer 6 = .ok (.iconst 0, 1) := by decide +kernel
theorem dX6_findSteer_7 : decode cX6_findSteer 7 = .ok (.istore 4, 2) := by decide +kernel
theorem dX6_findSteer_9 : decode cX6_findSteer 9 = .ok (.iload 4, 2) := by decide +kernel
theorem dX6_findSteer_11 : decode cX6_findSteer 11 = .ok (.aload_n 0, 1) := by decide +kernel
theorem dX6_findSteer_12 : decode cX6_findSteer 12 = .ok (.getfield 9, 3) := by decide +kernel
theorem dX6_findSteer_15 : decode cX6_findSteer 15 = .ok (.iconst 1, 1) := by decide +kernel
theorem dX6_findSteer_16 : decode cX6_findSteer 16 = .ok (.iaload, 1) := by decide +kernel
theorem dX6_findSteer_17 : decode cX6_findSteer 17 = .ok (.if_icmp .ge 99, 3) := by decide +kernel
theorem dX6_findSteer_20 : decode cX6_findSteer 20 = .ok (.iconst 0, 1) := by decide +kernel
theorem dX6_findSteer_21 : decode cX6_findSteer 21 = .ok (.istore 5, 2) := by decide +kernel
theorem dX6_findSteer_23 : decode cX6_findSteer 23 = .ok (.iload 5, 2) := by decide +kernel
theorem dX6_findSteer_25 : decode cX6_findSteer 25 = .ok (.bipush 20, 2) := by decide +kernel
theorem dX6_findSteer_27 : decode cX6_findSteer 27 = .ok (.if_icmp .gt 83, 3) := by decide +kernel
theorem dX6_findSteer_30 : decode cX6_findSteer 30 = .ok (.aload_n 0, 1) := by decide +kernel
theorem dX6_findSteer_31 : decode cX6_findSteer 31 = .ok (.iload 4, 2) := by decide +kernel
theorem dX6_findSteer_33 : decode cX6_findSteer 33 = .ok (.bipush 50, 2) := by decide +kernel
theorem dX6_findSteer_35 : decode cX6_findSteer 35 = .ok (.iload 5, 2) := by decide +kernel
theorem dX6_findSteer_37 : decode cX6_findSteer 37 = .ok (.imul, 1) := by decide +kernel
theorem dX6_findSteer_38 : decode cX6_findSteer 38 = .ok (.invokevirtual 108, 3) := by decide +kernel
theorem dX6_findSteer_41 : decode cX6_findSteer 41 = .ok (.aload_n 0, 1) := by decide +kernel
theorem dX6_findSteer_42 : decode cX6_findSteer 42 = .ok (.iload_n 2, 1) := by decide +kernel
theorem dX6_findSteer_43 : decode cX6_findSteer 43 = .ok (.invokevirtual 158, 3) := by decide +kernel
theorem dX6_findSteer_46 : decode cX6_findSteer 46 = .ok (.aload_n 0, 1) := by decide +kernel
theorem dX6_findSteer_47 : decode cX6_findSteer 47 = .ok (.invokevirtual 162, 3) := by decide +kernel
theorem dX6_findSteer_50 : decode cX6_findSteer 50 = .ok (.istore 6, 2) := by decide +kernel
theorem dX6_findSteer_52 : decode cX6_findSteer 52 = .ok (.aload_n 0, 1) := by decide +kernel
theorem dX6_findSteer_53 : decode cX6_findSteer 53 = .ok (.invokevirtual 168, 3) := by decide +kernel
theorem dX6_findSteer_56 : decode cX6_findSteer 56 = .ok (.iload_n 3, 1) := by decide +kernel
theorem dX6_findSteer_57 : decode cX6_findSteer 57 = .ok (.ifCond .lt 13, 3) := by decide +kernel
theorem dX6_findSteer_60 : decode cX6_findSteer 60 = .ok (.iload 6, 2) := by decide +kernel
theorem dX6_findSteer_62 : decode cX6_findSteer 62 = .ok (.iload_n 1, 1) := by decide +kernel
theorem dX6_findSteer_63 : decode cX6_findSteer 63 = .ok (.invokestatic 171, 3) := by decide +kernel
theorem dX6_findSteer_66 : decode cX6_findSteer 66 = .ok (.iload_n 3, 1) := by decide +kernel
theorem dX6_findSteer_67 : decode cX6_findSteer 67 = .ok (.if_icmp .ge 37, 3) := by decide +kernel
theorem dX6_findSteer_70 : decode cX6_findSteer 70 = .ok (.iload 6, 2) := by decide +kernel
theorem dX6_findSteer_72 : decode cX6_findSteer 72 = .ok (.iload_n 1, 1) := by decide +kernel
theorem dX6_findSteer_73 : decode cX6_findSteer 73 = .ok (.invokestatic 171, 3) := by decide +kernel
theorem dX6_findSteer_76 : decode cX6_findSteer 76 = .ok (.istore_n 3, 1) := by decide +kernel
theorem dX6_findSteer_77 : decode cX6_findSteer 77 = .ok (.aload_n 0, 1) := by decide +kernel
theorem dX6_findSteer_78 : decode cX6_findSteer 78 = .ok (.getfield 22, 3) := by decide +kernel
theorem dX6_findSteer_81 : decode cX6_findSteer 81 = .ok (.iconst 0, 1) := by decide +kernel
theorem dX6_findSteer_82 : decode cX6_findSteer 82 = .ok (.iload 4, 2) := by decide +kernel
theorem dX6_findSteer_84 : decode cX6_findSteer 84 = .ok (.iastore, 1) := by decide +kernel
theorem dX6_findSteer_85 : decode cX6_findSteer 85 = .ok (.aload_n 0, 1) := by decide +kernel
theorem dX6_findSteer_86 : decode cX6_findSteer 86 = .ok (.getfield 22, 3) := by decide +kernel
theorem dX6_findSteer_89 : decode cX6_findSteer 89 = .ok (.iconst 1, 1) := by decide +kernel
theorem dX6_findSteer_90 : decode cX6_findSteer 90 = .ok (.bipush 50, 2) := by decide +kernel
theorem dX6_findSteer_92 : decode cX6_findSteer 92 = .ok (.iload 5, 2) := by decide +kernel
theorem dX6_findSteer_94 : decode cX6_findSteer 94 = .ok (.imul, 1) := by decide +kernel
theorem dX6_findSteer_95 : decode cX6_findSteer 95 = .ok (.iastore, 1) := by decide +kernel
theorem dX6_findSteer_96 : decode cX6_findSteer 96 = .ok (.aload_n 0, 1) := by decide +kernel
theorem dX6_findSteer_97 : decode cX6_findSteer 97 = .ok (.getfield 22, 3) := by decide +kernel
theorem dX6_findSteer_100 : decode cX6_findSteer 100 = .ok (.iconst 2, 1) := by decide +kernel
theorem dX6_findSteer_101 : decode cX6_findSteer 101 = .ok (.iload 6, 2) := by decide +kernel
theorem dX6_findSteer_103 : decode cX6_findSteer 103 = .ok (.iastore, 1) := by decide +kernel
theorem dX6_findSteer_104 : decode cX6_findSteer 104 = .ok (.iinc 5 1, 3) := by decide +kernel
theorem dX6_findSteer_107 : decode cX6_findSteer 107 = .ok (.goto (-84), 3) := by decide +kernel
theorem dX6_findSteer_110 : decode cX6_findSteer 110 = .ok (.iinc 4 1, 3) := by decide +kernel
theorem dX6_findSteer_113 : decode cX6_findSteer 113 = .ok (.goto (-104), 3) := by decide +kernel
theorem dX6_findSteer_116 : decode cX6_findSteer 116 = .ok (.return_, 1) := by decide +kernel
theorem dX6_steer_0 : decode cX6_steer 0 = .ok (.iload_n 1, 1) := by decide +kernel
theorem dX6_steer_1 : decode cX6_steer 1 = .ok (.iconst 0, 1) := by decide +kernel
theorem dX6_steer_2 : decode cX6_steer 2 = .ok (.ldc 100, 2) := by decide +kernel
theorem dX6_steer_4 : decode cX6_steer 4 = .ok (.invokestatic 82, 3) := by decide +kernel
theorem dX6_steer_7 : decode cX6_steer 7 = .ok (.ifCond .eq 22, 3) := by decide +kernel
theorem dX6_steer_10 : decode cX6_steer 10 = .ok (.iload_n 2, 1) := by decide +kernel
theorem dX6_steer_11 : decode cX6_steer 11 = .ok (.iconst 0, 1) := by decide +kernel
theorem dX6_steer_12 : decode cX6_steer 12 = .ok (.bipush 30, 2) := by decide +kernel
theorem dX6_steer_14 : decode cX6_steer 14 = .ok (.invokestatic 82, 3) := by decide +kernel
theorem dX6_steer_17 : decode cX6_steer 17 = .ok (.ifCond .eq 12, 3) := by decide +kernel
theorem dX6_steer_20 : decode cX6_steer 20 = .ok (.iload_n 3, 1) := by decide +kernel
theorem dX6_steer_21 : decode cX6_steer 21 = .ok (.iconst 0, 1) := by decide +kernel
theorem dX6_steer_22 : decode cX6_steer 22 = .ok (.iconst 2, 1) := by decide +kernel
theorem dX6_steer_23 : decode cX6_steer 23 = .ok (.invokestatic 82, 3) := by decide +kernel
theorem dX6_steer_26 : decode cX6_steer 26 = .ok (.ifCond .ne 6, 3) := by decide +kernel
theorem dX6_steer_29 : decode cX6_steer 29 = .ok (.ldc 90, 2) := by decide +kernel
theorem dX6_steer_31 : decode cX6_steer 31 = .ok (.ireturn, 1) := by decide +kernel
theorem dX6_steer_32 : decode cX6_steer 32 = .ok (.aload_n 0, 1) := by decide +kernel
theorem dX6_steer_33 : decode cX6_steer 33 = .ok (.getfield 9, 3) := by decide +kernel
theorem dX6_steer_36 : decode cX6_steer 36 = .ok (.iconst 1, 1) := by decide +kernel
theorem dX6_steer_37 : decode cX6_steer 37 = .ok (.iaload, 1) := by decide +kernel
theorem dX6_steer_38 : decode cX6_steer 38 = .ok (.ifCond .ne 6, 3) := by decide +kernel
theorem dX6_steer_41 : decode cX6_steer 41 = .ok (.ldc 81, 2) := by decide +kernel
theorem dX6_steer_43 : decode cX6_steer 43 = .ok (.ireturn, 1) := by decide +kernel
theorem dX6_steer_44 : decode cX6_steer 44 = .ok (.aload_n 0, 1) := by decide +kernel
theorem dX6_steer_45 : decode cX6_steer 45 = .ok (.iload_n 1, 1) := by decide +kernel
theorem dX6_steer_46 : decode cX6_steer 46 = .ok (.iload_n 2, 1) := by decide +kernel
theorem dX6_steer_47 : decode cX6_steer 47 = .ok (.invokevirtual 174, 3) := by decide +kernel
theorem dX6_steer_50 : decode cX6_steer 50 = .ok (.aload_n 0, 1) := by decide +kernel
theorem dX6_steer_51 : decode cX6_steer 51 = .ok (.getfield 22, 3) := by decide +kernel
theorem dX6_steer_54 : decode cX6_steer 54 = .ok (.iload_n 3, 1) := by decide +kernel
theorem dX6_steer_55 : decode cX6_steer 55 = .ok (.iaload, 1) := by decide +kernel
theorem dX6_steer_56 : decode cX6_steer 56 = .ok (.ireturn, 1) := by decide +kernel
theorem dX6_leastPot_0 : decode cX6_leastPot 0 = .ok (.aload_n 0, 1) := by decide +kernel
theorem dX6_leastPot_1 : decode cX6_leastPot 1 = .ok (.iload_n 1, 1) := by decide +kernel
theorem dX6_leastPot_2 : decode cX6_leastPot 2 = .ok (.invokevirtual 104, 3) := by decide +kernel
theorem dX6_leastPot_5 : decode cX6_leastPot 5 = .ok (.ifCond .eq 23, 3) := by decide +kernel
theorem dX6_leastPot_8 : decode cX6_leastPot 8 = .ok (.iload_n 2, 1) := by decide +kernel
theorem dX6_leastPot_9 : decode cX6_leastPot 9 = .ok (.iconst 0, 1) := by decide +kernel
theorem dX6_leastPot_10 : decode cX6_leastPot 10 = .ok (.ldc 100, 2) := by decide +kernel
theorem dX6_leastPot_12 : decode cX6_leastPot 12 = .ok (.invokestatic 82, 3) := by decide +kernel
theorem dX6_leastPot_15 : decode cX6_leastPot 15 = .ok (.ifCond .eq 13, 3) := by decide +kernel
theorem dX6_leastPot_18 : decode cX6_leastPot 18 = .ok (.iload_n 3, 1) := by decide +kernel
theorem dX6_leastPot_19 : decode cX6_leastPot 19 = .ok (.iconst 0, 1) := by decide +kernel
theorem dX6_leastPot_20 : decode cX6_leastPot 20 = .ok (.bipush 60, 2) := by decide +kernel
theorem dX6_leastPot_22 : decode cX6_leastPot 22 = .ok (.invokestatic 82, 3) := by decide +kernel
theorem dX6_leastPot_25 : decode cX6_leastPot 25 = .ok (.ifCond .ne 6, 3) := by decide +kernel
theorem dX6_leastPot_28 : decode cX6_leastPot 28 = .ok (.ldc 90, 2) := by decide +kernel
theorem dX6_leastPot_30 : decode cX6_leastPot 30 = .ok (.ireturn, 1) := by decide +kernel
theorem dX6_leastPot_31 : decode cX6_leastPot 31 = .ok (.aload_n 0, 1) := by decide +kernel
theorem dX6_leastPot_32 : decode cX6_leastPot 32 = .ok (.invokevirtual 165, 3) := by decide +kernel
theorem dX6_leastPot_35 : decode cX6_leastPot 35 = .ok (.iconst (-1), 1) := by decide +kernel
theorem dX6_leastPot_36 : decode cX6_leastPot 36 = .ok (.istore 4, 2) := by decide +kernel
theorem dX6_leastPot_38 : decode cX6_leastPot 38 = .ok (.iconst 0, 1) := by decide +kernel
theorem dX6_leastPot_39 : decode cX6_leastPot 39 = .ok (.istore 5, 2) := by decide +kernel
theorem dX6_leastPot_41 : decode cX6_leastPot 41 = .ok (.iload 5, 2) := by decide +kernel
theorem dX6_leastPot_43 : decode cX6_leastPot 43 = .ok (.sipush 990, 3) := by decide +kernel
theorem dX6_leastPot_46 : decode cX6_leastPot 46 = .ok (.if_icmp .ge 40, 3) := by decide +kernel
theorem dX6_leastPot_49 : decode cX6_leastPot 49 = .ok (.iload 4, 2) := by decide +kernel
theorem dX6_leastPot_51 : decode cX6_leastPot 51 = .ok (.iload_n 2, 1) := by decide +kernel
theorem dX6_leastPot_52 : decode cX6_leastPot 52 = .ok (.if_icmp .ge 34, 3) := by decide +kernel
theorem dX6_leastPot_55 : decode cX6_leastPot 55 = .ok (.iinc 5 10, 3) := by decide +kernel
theorem dX6_leastPot_58 : decode cX6_leastPot 58 = .ok (.aload_n 0, 1) := by decide +kernel
theorem dX6_leastPot_59 : decode cX6_leastPot 59 = .ok (.getfield 9, 3) := by decide +kernel
theorem dX6_leastPot_62 : decode cX6_leastPot 62 = .ok (.iconst 2, 1) := by decide +kernel
theorem dX6_leastPot_63 : decode cX6_leastPot 63 = .ok (.iload 5, 2) := by decide +kernel
theorem dX6_leastPot_65 : decode cX6_leastPot 65 = .ok (.iastore, 1) := by decide +kernel
theorem dX6_leastPot_66 : decode cX6_leastPot 66 = .ok (.aload_n 0, 1) := by decide +kernel
theorem dX6_leastPot_67 : decode cX6_leastPot 67 = .ok (.iload_n 3, 1) := by decide +kernel
theorem dX6_leastPot_68 : decode cX6_leastPot 68 = .ok (.invokevirtual 158, 3) := by decide +kernel
theorem dX6_leastPot_71 : decode cX6_leastPot 71 = .ok (.aload_n 0, 1) := by decide +kernel
theorem dX6_leastPot_72 : decode cX6_leastPot 72 = .ok (.iload_n 1, 1) := by decide +kernel
theorem dX6_leastPot_73 : decode cX6_leastPot 73 = .ok (.iconst 2, 1) := by decide +kernel
theorem dX6_leastPot_74 : decode cX6_leastPot 74 = .ok (.invokevirtual 96, 3) := by decide +kernel
theorem dX6_leastPot_77 : decode cX6_leastPot 77 = .ok (.istore 4, 2) := by decide +kernel
theorem dX6_leastPot_79 : decode cX6_leastPot 79 = .ok (.aload_n 0, 1) := by decide +kernel
theorem dX6_leastPot_80 : decode cX6_leastPot 80 = .ok (.invokevirtual 168, 3) := by decide +kernel
theorem dX6_leastPot_83 : decode cX6_leastPot 83 = .ok (.goto (-42), 3) := by decide +kernel
theorem dX6_leastPot_86 : decode cX6_leastPot 86 = .ok (.iload 4, 2) := by decide +kernel
theorem dX6_leastPot_88 : decode cX6_leastPot 88 = .ok (.iload_n 2, 1) := by decide +kernel
theorem dX6_leastPot_89 : decode cX6_leastPot 89 = .ok (.if_icmp .ge 8, 3) := by decide +kernel
theorem dX6_leastPot_92 : decode cX6_leastPot 92 = .ok (.ldc 81, 2) := by decide +kernel
theorem dX6_leastPot_94 : decode cX6_leastPot 94 = .ok (.goto 5, 3) := by decide +kernel
theorem dX6_leastPot_97 : decode cX6_leastPot 97 = .ok (.iload 5, 2) := by decide +kernel
theorem dX6_leastPot_99 : decode cX6_leastPot 99 = .ok (.ireturn, 1) := by decide +kernel
theorem dX6_nearest_0 : decode cX6_nearest 0 = .ok (.iload_n 1, 1) := by decide +kernel
theorem dX6_nearest_1 : decode cX6_nearest 1 = .ok (.iconst 0, 1) := by decide +kernel
theorem dX6_nearest_2 : decode cX6_nearest 2 = .ok (.ldc 100, 2) := by decide +kernel
theorem dX6_nearest_4 : decode cX6_nearest 4 = .ok (.invokestatic 82, 3) := by decide +kernel
theorem dX6_nearest_7 : decode cX6_nearest 7 = .ok (.ifCond .ne 6, 3) := by decide +kernel
theorem dX6_nearest_10 : decode cX6_nearest 10 = .ok (.ldc 90, 2) := by decide +kernel
theorem dX6_nearest_12 : decode cX6_nearest 12 = .ok (.ireturn, 1) := by decide +kernel
theorem dX6_nearest_13 : decode cX6_nearest 13 = .ok (.aload_n 0, 1) := by decide +kernel
theorem dX6_nearest_14 : decode cX6_nearest 14 = .ok (.invokevirtual 165, 3) := by decide +kernel
theorem dX6_nearest_17 : decode cX6_nearest 17 = .ok (.iconst 0, 1) := by decide +kernel
theorem dX6_nearest_18 : decode cX6_nearest 18 = .ok (.istore_n 2, 1) := by decide +kernel
theorem dX6_nearest_19 : decode cX6_nearest 19 = .ok (.aload_n 0, 1) := by decide +kernel
theorem dX6_nearest_20 : decode cX6_nearest 20 = .ok (.invokevirtual 162, 3) := by decide +kernel
theorem dX6_nearest_23 : decode cX6_nearest 23 = .ok (.iload_n 1, 1) := by decide +kernel
theorem dX6_nearest_24 : decode cX6_nearest 24 = .ok (.invokestatic 171, 3) := by decide +kernel
theorem dX6_nearest_27 : decode cX6_nearest 27 = .ok (.istore_n 3, 1) := by decide +kernel
theorem dX6_nearest_28 : decode cX6_nearest 28 = .ok (.iconst 1, 1) := by decide +kernel
theorem dX6_nearest_29 : decode cX6_nearest 29 = .ok (.istore 4, 2) := by decide +kernel
theorem dX6_nearest_31 : decode cX6_nearest 31 = .ok (.iload 4, 2) := by decide +kernel
theorem dX6_nearest_33 : decode cX6_nearest 33 = .ok (.bipush 100, 2) := by decide +kernel
theorem dX6_nearest_35 : decode cX6_nearest 35 = .ok (.if_icmp .gt 49, 3) := by decide +kernel
theorem dX6_nearest_38 : decode cX6_nearest 38 = .ok (.aload_n 0, 1) := by decide +kernel
theorem dX6_nearest_39 : decode cX6_nearest 39 = .ok (.invokevirtual 155, 3) := by decide +kernel
theorem dX6_nearest_42 : decode cX6_nearest 42 = .ok (.aload_n 0, 1) := by decide +kernel
theorem dX6_nearest_43 : decode cX6_nearest 43 = .ok (.invokevirtual 162, 3) := by decide +kernel
theorem dX6_nearest_46 : decode cX6_nearest 46 = .ok (.iload_n 1, 1) := by decide +kernel
theorem dX6_nearest_47 : decode cX6_nearest 47 = .ok (.invokestatic 171, 3) := by decide +kernel
theorem dX6_nearest_50 : decode cX6_nearest 50 = .ok (.istore 5, 2) := by decide +kernel
theorem dX6_nearest_52 : decode cX6_nearest 52 = .ok (.iload 5, 2) := by decide +kernel
theorem dX6_nearest_54 : decode cX6_nearest 54 = .ok (.iload_n 3, 1) := by decide +kernel
theorem dX6_nearest_55 : decode cX6_nearest 55 = .ok (.if_icmp .ge 8, 3) := by decide +kernel
theorem dX6_nearest_58 : decode cX6_nearest 58 = .ok (.iload 4, 2) := by decide +kernel
theorem dX6_nearest_60 : decode cX6_nearest 60 = .ok (.goto 4, 3) := by decide +kernel
theorem dX6_nearest_63 : decode cX6_nearest 63 = .ok (.iload_n 2, 1) := by decide +kernel
theorem dX6_nearest_64 : decode cX6_nearest 64 = .ok (.istore_n 2, 1) := by decide +kernel
theorem dX6_nearest_65 : decode cX6_nearest 65 = .ok (.iload 5, 2) := by decide +kernel
theorem dX6_nearest_67 : decode cX6_nearest 67 = .ok (.iload_n 3, 1) := by decide +kernel
theorem dX6_nearest_68 : decode cX6_nearest 68 = .ok (.if_icmp .ge 8, 3) := by decide +kernel
theorem dX6_nearest_71 : decode cX6_nearest 71 = .ok (.iload 5, 2) := by decide +kernel
theorem dX6_nearest_73 : decode cX6_nearest 73 = .ok (.goto 4, 3) := by decide +kernel
theorem dX6_nearest_76 : decode cX6_nearest 76 = .ok (.iload_n 3, 1) := by decide +kernel
theorem dX6_nearest_77 : decode cX6_nearest 77 = .ok (.istore_n 3, 1) := by decide +kernel
theorem dX6_nearest_78 : decode cX6_nearest 78 = .ok (.iinc 4 1, 3) := by decide +kernel
theorem dX6_nearest_81 : decode cX6_nearest 81 = .ok (.goto (-50), 3) := by decide +kernel
theorem dX6_nearest_84 : decode cX6_nearest 84 = .ok (.aload_n 0, 1) := by decide +kernel
theorem dX6_nearest_85 : decode cX6_nearest 85 = .ok (.invokevirtual 168, 3) := by decide +kernel
theorem dX6_nearest_88 : decode cX6_nearest 88 = .ok (.iload_n 2, 1) := by decide +kernel
theorem dX6_nearest_89 : decode cX6_nearest 89 = .ok (.ireturn, 1) := by decide +kernel
theorem dX6_offBy_0 : decode cX6_offBy 0 = .ok (.aload_n 0, 1) := by decide +kernel
theorem dX6_offBy_1 : decode cX6_offBy 1 = .ok (.iload_n 2, 1) := by decide +kernel
theorem dX6_offBy_2 : decode cX6_offBy 2 = .ok (.sipush 500, 3) := by decide +kernel
theorem dX6_offBy_5 : decode cX6_offBy 5 = .ok (.invokevirtual 108, 3) := by decide +kernel
theorem dX6_offBy_8 : decode cX6_offBy 8 = .ok (.lconst 0, 1) := by decide +kernel
theorem dX6_offBy_9 : decode cX6_offBy 9 = .ok (.lstore_n 3, 1) := by decide +kernel
theorem dX6_offBy_10 : decode cX6_offBy 10 = .ok (.iconst 0, 1) := by decide +kernel
theorem dX6_offBy_11 : decode cX6_offBy 11 = .ok (.istore 5, 2) := by decide +kernel
theorem dX6_offBy_13 : decode cX6_offBy 13 = .ok (.iload 5, 2) := by decide +kernel
theorem dX6_offBy_15 : decode cX6_offBy 15 = .ok (.aload_n 0, 1) := by decide +kernel
theorem dX6_offBy_16 : decode cX6_offBy 16 = .ok (.getfield 57, 3) := by decide +kernel
theorem dX6_offBy_19 : decode cX6_offBy 19 = .ok (.iload_n 1, 1) := by decide +kernel
theorem dX6_offBy_20 : decode cX6_offBy 20 = .ok (.iaload, 1) := by decide +kernel
theorem dX6_offBy_21 : decode cX6_offBy 21 = .ok (.if_icmp .ge 67, 3) := by decide +kernel
theorem dX6_offBy_24 : decode cX6_offBy 24 = .ok (.aload_n 0, 1) := by decide +kernel
theorem dX6_offBy_25 : decode cX6_offBy 25 = .ok (.getfield 60, 3) := by decide +kernel
theorem dX6_offBy_28 : decode cX6_offBy 28 = .ok (.bipush 24, 2) := by decide +kernel
theorem dX6_offBy_30 : decode cX6_offBy 30 = .ok (.iload_n 1, 1) := by decide +kernel
theorem dX6_offBy_31 : decode cX6_offBy 31 = .ok (.imul, 1) := by decide +kernel
theorem dX6_offBy_32 : decode cX6_offBy 32 = .ok (.iload 5, 2) := by decide +kernel
theorem dX6_offBy_34 : decode cX6_offBy 34 = .ok (.iadd, 1) := by decide +kernel
theorem dX6_offBy_35 : decode cX6_offBy 35 = .ok (.iaload, 1) := by decide +kernel
theorem dX6_offBy_36 : decode cX6_offBy 36 = .ok (.istore 6, 2) := by decide +kernel
theorem dX6_offBy_38 : decode cX6_offBy 38 = .ok (.iload 6, 2) := by decide +kernel
theorem dX6_offBy_40 : decode cX6_offBy 40 = .ok (.i2l, 1) := by decide +kernel
theorem dX6_offBy_41 : decode cX6_offBy 41 = .ok (.aload_n 0, 1) := by decide +kernel
theorem dX6_offBy_42 : decode cX6_offBy 42 = .ok (.invokevirtual 162, 3) := by decide +kernel
theorem dX6_offBy_45 : decode cX6_offBy 45 = .ok (.i2l, 1) := by decide +kernel
theorem dX6_offBy_46 : decode cX6_offBy 46 = .ok (.lsub, 1) := by decide +kernel
theorem dX6_offBy_47 : decode cX6_offBy 47 = .ok (.lstore 7, 2) := by decide +kernel
theorem dX6_offBy_49 : decode cX6_offBy 49 = .ok (.lload_n 3, 1) := by decide +kernel
theorem dX6_offBy_50 : decode cX6_offBy 50 = .ok (.iload 6, 2) := by decide +kernel
theorem dX6_offBy_52 : decode cX6_offBy 52 = .ok (.ldc 81, 2) := by decide +kernel
theorem dX6_offBy_54 : decode cX6_offBy 54 = .ok (.if_icmp .ne 7, 3) := by decide +kernel
theorem dX6_offBy_57 : decode cX6_offBy 57 = .ok (.lconst 0, 1) := by decide +kernel
theorem dX6_offBy_58 : decode cX6_offBy 58 = .ok (.goto 18, 3) := by decide +kernel
theorem dX6_offBy_61 : decode cX6_offBy 61 = .ok (.lload 7, 2) := by decide +kernel
theorem dX6_offBy_63 : decode cX6_offBy 63 = .ok (.lconst 0, 1) := by decide +kernel
theorem dX6_offBy_64 : decode cX6_offBy 64 = .ok (.lcmp, 1) := by decide +kernel
theorem dX6_offBy_65 : decode cX6_offBy 65 = .ok (.ifCond .ge 9, 3) := by decide +kernel
theorem dX6_offBy_68 : decode cX6_offBy 68 = .ok (.lload 7, 2) := by decide +kernel
theorem dX6_offBy_70 : decode cX6_offBy 70 = .ok (.lneg, 1) := by decide +kernel
theorem dX6_offBy_71 : decode cX6_offBy 71 = .ok (.goto 5, 3) := by decide +kernel
theorem dX6_offBy_74 : decode cX6_offBy 74 = .ok (.lload 7, 2) := by decide +kernel
theorem dX6_offBy_76 : decode cX6_offBy 76 = .ok (.ladd, 1) := by decide +kernel
theorem dX6_offBy_77 : decode cX6_offBy 77 = .ok (.lstore_n 3, 1) := by decide +kernel
theorem dX6_offBy_78 : decode cX6_offBy 78 = .ok (.aload_n 0, 1) := by decide +kernel
theorem dX6_offBy_79 : decode cX6_offBy 79 = .ok (.invokevirtual 155, 3) := by decide +kernel
theorem dX6_offBy_82 : decode cX6_offBy 82 = .ok (.iinc 5 1, 3) := by decide +kernel
theorem dX6_offBy_85 : decode cX6_offBy 85 = .ok (.goto (-72), 3) := by decide +kernel
theorem dX6_offBy_88 : decode cX6_offBy 88 = .ok (.aload_n 0, 1) := by decide +kernel
theorem dX6_offBy_89 : decode cX6_offBy 89 = .ok (.invokevirtual 168, 3) := by decide +kernel
theorem dX6_offBy_92 : decode cX6_offBy 92 = .ok (.lload_n 3, 1) := by decide +kernel
theorem dX6_offBy_93 : decode cX6_offBy 93 = .ok (.lreturn, 1) := by decide +kernel
theorem dX6_thrown_0 : decode cX6_thrown 0 = .ok (.iload_n 1, 1) := by decide +kernel
theorem dX6_thrown_1 : decode cX6_thrown 1 = .ok (.invokestatic 177, 3) := by decide +kernel
theorem dX6_thrown_4 : decode cX6_thrown 4 = .ok (.ifCond .eq 12, 3) := by decide +kernel
theorem dX6_thrown_7 : decode cX6_thrown 7 = .ok (.iload_n 2, 1) := by decide +kernel
theorem dX6_thrown_8 : decode cX6_thrown 8 = .ok (.iconst 0, 1) := by decide +kernel
theorem dX6_thrown_9 : decode cX6_thrown 9 = .ok (.iconst 1, 1) := by decide +kernel
theorem dX6_thrown_10 : decode cX6_thrown 10 = .ok (.invokestatic 82, 3) := by decide +kernel
theorem dX6_thrown_13 : decode cX6_thrown 13 = .ok (.ifCond .ne 6, 3) := by decide +kernel
theorem dX6_thrown_16 : decode cX6_thrown 16 = .ok (.ldc 90, 2) := by decide +kernel
theorem dX6_thrown_18 : decode cX6_thrown 18 = .ok (.ireturn, 1) := by decide +kernel
theorem dX6_thrown_19 : decode cX6_thrown 19 = .ok (.aload_n 0, 1) := by decide +kernel
theorem dX6_thrown_20 : decode cX6_thrown 20 = .ok (.getfield 54, 3) := by decide +kernel
theorem dX6_thrown_23 : decode cX6_thrown 23 = .ok (.iload_n 1, 1) := by decide +kernel
theorem dX6_thrown_24 : decode cX6_thrown 24 = .ok (.iaload, 1) := by decide +kernel
theorem dX6_thrown_25 : decode cX6_thrown 25 = .ok (.ifCond .ge 6, 3) := by decide +kernel
theorem dX6_thrown_28 : decode cX6_thrown 28 = .ok (.ldc 180, 2) := by decide +kernel
theorem dX6_thrown_30 : decode cX6_thrown 30 = .ok (.ireturn, 1) := by decide +kernel
theorem dX6_thrown_31 : decode cX6_thrown 31 = .ok (.aload_n 0, 1) := by decide +kernel
theorem dX6_thrown_32 : decode cX6_thrown 32 = .ok (.invokevirtual 165, 3) := by decide +kernel
theorem dX6_thrown_35 : decode cX6_thrown 35 = .ok (.iconst (-1), 1) := by decide +kernel
theorem dX6_thrown_36 : decode cX6_thrown 36 = .ok (.istore_n 3, 1) := by decide +kernel
theorem dX6_thrown_37 : decode cX6_thrown 37 = .ok (.lconst 0, 1) := by decide +kernel
theorem dX6_thrown_38 : decode cX6_thrown 38 = .ok (.lstore 4, 2) := by decide +kernel
theorem dX6_thrown_40 : decode cX6_thrown 40 = .ok (.iconst 0, 1) := by decide +kernel
theorem dX6_thrown_41 : decode cX6_thrown 41 = .ok (.istore 6, 2) := by decide +kernel
theorem dX6_thrown_43 : decode cX6_thrown 43 = .ok (.iload 6, 2) := by decide +kernel
theorem dX6_thrown_45 : decode cX6_thrown 45 = .ok (.aload_n 0, 1) := by decide +kernel
theorem dX6_thrown_46 : decode cX6_thrown 46 = .ok (.getfield 9, 3) := by decide +kernel
theorem dX6_thrown_49 : decode cX6_thrown 49 = .ok (.iconst 1, 1) := by decide +kernel
theorem dX6_thrown_50 : decode cX6_thrown 50 = .ok (.iaload, 1) := by decide +kernel
theorem dX6_thrown_51 : decode cX6_thrown 51 = .ok (.if_icmp .ge 52, 3) := by decide +kernel
theorem dX6_thrown_54 : decode cX6_thrown 54 = .ok (.aload_n 0, 1) := by decide +kernel
theorem dX6_thrown_55 : decode cX6_thrown 55 = .ok (.iload_n 1, 1) := by decide +kernel
theorem dX6_thrown_56 : decode cX6_thrown 56 = .ok (.iload 6, 2) := by decide +kernel
theorem dX6_thrown_58 : decode cX6_thrown 58 = .ok (.invokevirtual 181, 3) := by decide +kernel
theorem dX6_thrown_61 : decode cX6_thrown 61 = .ok (.lstore 7, 2) := by decide +kernel
theorem dX6_thrown_63 : decode cX6_thrown 63 = .ok (.iload_n 3, 1) := by decide +kernel
theorem dX6_thrown_64 : decode cX6_thrown 64 = .ok (.ifCond .lt 11, 3) := by decide +kernel
theorem dX6_thrown_67 : decode cX6_thrown 67 = .ok (.lload 7, 2) := by decide +kernel
theorem dX6_thrown_69 : decode cX6_thrown 69 = .ok (.lload 4, 2) := by decide +kernel
theorem dX6_thrown_71 : decode cX6_thrown 71 = .ok (.lcmp, 1) := by decide +kernel
theorem dX6_thrown_72 : decode cX6_thrown 72 = .ok (.ifCond .ge 8, 3) := by decide +kernel
theorem dX6_thrown_75 : decode cX6_thrown 75 = .ok (.iload 6, 2) := by decide +kernel
theorem dX6_thrown_77 : decode cX6_thrown 77 = .ok (.goto 4, 3) := by decide +kernel
theorem dX6_thrown_80 : decode cX6_thrown 80 = .ok (.iload_n 3, 1) := by decide +kernel
theorem dX6_thrown_81 : decode cX6_thrown 81 = .ok (.istore_n 3, 1) := by decide +kernel
theorem dX6_thrown_82 : decode cX6_thrown 82 = .ok (.iload_n 3, 1) := by decide +kernel
theorem dX6_thrown_83 : decode cX6_thrown 83 = .ok (.iload 6, 2) := by decide +kernel
theorem dX6_thrown_85 : decode cX6_thrown 85 = .ok (.if_icmp .ne 8, 3) := by decide +kernel
theorem dX6_thrown_88 : decode cX6_thrown 88 = .ok (.lload 7, 2) := by decide +kernel
theorem dX6_thrown_90 : decode cX6_thrown 90 = .ok (.goto 5, 3) := by decide +kernel
theorem dX6_thrown_93 : decode cX6_thrown 93 = .ok (.lload 4, 2) := by decide +kernel
theorem dX6_thrown_95 : decode cX6_thrown 95 = .ok (.lstore 4, 2) := by decide +kernel
theorem dX6_thrown_97 : decode cX6_thrown 97 = .ok (.iinc 6 1, 3) := by decide +kernel
theorem dX6_thrown_100 : decode cX6_thrown 100 = .ok (.goto (-57), 3) := by decide +kernel
theorem dX6_thrown_103 : decode cX6_thrown 103 = .ok (.iload_n 3, 1) := by decide +kernel
theorem dX6_thrown_104 : decode cX6_thrown 104 = .ok (.ifCond .ge 8, 3) := by decide +kernel
theorem dX6_thrown_107 : decode cX6_thrown 107 = .ok (.ldc 81, 2) := by decide +kernel
theorem dX6_thrown_109 : decode cX6_thrown 109 = .ok (.goto 14, 3) := by decide +kernel
theorem dX6_thrown_112 : decode cX6_thrown 112 = .ok (.iload_n 2, 1) := by decide +kernel
theorem dX6_thrown_113 : decode cX6_thrown 113 = .ok (.ifCond .ne 7, 3) := by decide +kernel
theorem dX6_thrown_116 : decode cX6_thrown 116 = .ok (.iload_n 3, 1) := by decide +kernel
theorem dX6_thrown_117 : decode cX6_thrown 117 = .ok (.goto 6, 3) := by decide +kernel
theorem dX6_thrown_120 : decode cX6_thrown 120 = .ok (.lload 4, 2) := by decide +kernel
theorem dX6_thrown_122 : decode cX6_thrown 122 = .ok (.l2i, 1) := by decide +kernel
theorem dX6_thrown_123 : decode cX6_thrown 123 = .ok (.ireturn, 1) := by decide +kernel
theorem dX6_halved_0 : decode cX6_halved 0 = .ok (.aload_n 0, 1) := by decide +kernel
theorem dX6_halved_1 : decode cX6_halved 1 = .ok (.invokevirtual 165, 3) := by decide +kernel
theorem dX6_halved_4 : decode cX6_halved 4 = .ok (.iconst 0, 1) := by decide +kernel
theorem dX6_halved_5 : decode cX6_halved 5 = .ok (.istore_n 1, 1) := by decide +kernel
theorem dX6_halved_6 : decode cX6_halved 6 = .ok (.iload_n 1, 1) := by decide +kernel
theorem dX6_halved_7 : decode cX6_halved 7 = .ok (.sipush 200, 3) := by decide +kernel
theorem dX6_halved_10 : decode cX6_halved 10 = .ok (.if_icmp .gt 23, 3) := by decide +kernel
theorem dX6_halved_13 : decode cX6_halved 13 = .ok (.aload_n 0, 1) := by decide +kernel
theorem dX6_halved_14 : decode cX6_halved 14 = .ok (.getfield 25, 3) := by decide +kernel
theorem dX6_halved_17 : decode cX6_halved 17 = .ok (.iload_n 1, 1) := by decide +kernel
theorem dX6_halved_18 : decode cX6_halved 18 = .ok (.aload_n 0, 1) := by decide +kernel
theorem dX6_halved_19 : decode cX6_halved 19 = .ok (.invokevirtual 162, 3) := by decide +kernel
theorem dX6_halved_22 : decode cX6_halved 22 = .ok (.iastore, 1) := by decide +kernel
theorem dX6_halved_23 : decode cX6_halved 23 = .ok (.aload_n 0, 1) := by decide +kernel
theorem dX6_halved_24 : decode cX6_halved 24 = .ok (.invokevirtual 155, 3) := by decide +kernel
theorem dX6_halved_27 : decode cX6_halved 27 = .ok (.iinc 1 1, 3) := by decide +kernel
theorem dX6_halved_30 : decode cX6_halved 30 = .ok (.goto (-24), 3) := by decide +kernel
theorem dX6_halved_33 : decode cX6_halved 33 = .ok (.aload_n 0, 1) := by decide +kernel
theorem dX6_halved_34 : decode cX6_halved 34 = .ok (.invokevirtual 168, 3) := by decide +kernel
theorem dX6_halved_37 : decode cX6_halved 37 = .ok (.iconst 0, 1) := by decide +kernel
theorem dX6_halved_38 : decode cX6_halved 38 = .ok (.istore_n 1, 1) := by decide +kernel
theorem dX6_halved_39 : decode cX6_halved 39 = .ok (.iload_n 1, 1) := by decide +kernel
theorem dX6_halved_40 : decode cX6_halved 40 = .ok (.aload_n 0, 1) := by decide +kernel
theorem dX6_halved_41 : decode cX6_halved 41 = .ok (.getfield 9, 3) := by decide +kernel
theorem dX6_halved_44 : decode cX6_halved 44 = .ok (.iconst 1, 1) := by decide +kernel
theorem dX6_halved_45 : decode cX6_halved 45 = .ok (.iaload, 1) := by decide +kernel
theorem dX6_halved_46 : decode cX6_halved 46 = .ok (.if_icmp .ge 23, 3) := by decide +kernel
theorem dX6_halved_49 : decode cX6_halved 49 = .ok (.aload_n 0, 1) := by decide +kernel
theorem dX6_halved_50 : decode cX6_halved 50 = .ok (.iload_n 1, 1) := by decide +kernel
theorem dX6_halved_51 : decode cX6_halved 51 = .ok (.iconst 2, 1) := by decide +kernel
theorem dX6_halved_52 : decode cX6_halved 52 = .ok (.aload_n 0, 1) := by decide +kernel
theorem dX6_halved_53 : decode cX6_halved 53 = .ok (.iload_n 1, 1) := by decide +kernel
theorem dX6_halved_54 : decode cX6_halved 54 = .ok (.iconst 2, 1) := by decide +kernel
theorem dX6_halved_55 : decode cX6_halved 55 = .ok (.invokevirtual 96, 3) := by decide +kernel
theorem dX6_halved_58 : decode cX6_halved 58 = .ok (.iconst 2, 1) := by decide +kernel
theorem dX6_halved_59 : decode cX6_halved 59 = .ok (.idiv, 1) := by decide +kernel
theorem dX6_halved_60 : decode cX6_halved 60 = .ok (.invokevirtual 86, 3) := by decide +kernel
theorem dX6_halved_63 : decode cX6_halved 63 = .ok (.iinc 1 1, 3) := by decide +kernel
theorem dX6_halved_66 : decode cX6_halved 66 = .ok (.goto (-27), 3) := by decide +kernel
theorem dX6_halved_69 : decode cX6_halved 69 = .ok (.iconst 0, 1) := by decide +kernel
theorem dX6_halved_70 : decode cX6_halved 70 = .ok (.istore_n 1, 1) := by decide +kernel
theorem dX6_halved_71 : decode cX6_halved 71 = .ok (.iload_n 1, 1) := by decide +kernel
theorem dX6_halved_72 : decode cX6_halved 72 = .ok (.sipush 200, 3) := by decide +kernel
theorem dX6_halved_75 : decode cX6_halved 75 = .ok (.if_icmp .gt 26, 3) := by decide +kernel
theorem dX6_halved_78 : decode cX6_halved 78 = .ok (.aload_n 0, 1) := by decide +kernel
theorem dX6_halved_79 : decode cX6_halved 79 = .ok (.invokevirtual 162, 3) := by decide +kernel
theorem dX6_halved_82 : decode cX6_halved 82 = .ok (.aload_n 0, 1) := by decide +kernel
theorem dX6_halved_83 : decode cX6_halved 83 = .ok (.getfield 25, 3) := by decide +kernel
theorem dX6_halved_86 : decode cX6_halved 86 = .ok (.iload_n 1, 1) := by decide +kernel
theorem dX6_halved_87 : decode cX6_halved 87 = .ok (.iaload, 1) := by decide +kernel
theorem dX6_halved_88 : decode cX6_halved 88 = .ok (.if_icmp .eq 13, 3) := by decide +kernel
theorem dX6_halved_91 : decode cX6_halved 91 = .ok (.aload_n 0, 1) := by decide +kernel
theorem dX6_halved_92 : decode cX6_halved 92 = .ok (.invokevirtual 155, 3) := by decide +kernel
theorem dX6_halved_95 : decode cX6_halved 95 = .ok (.iinc 1 1, 3) := by decide +kernel
theorem dX6_halved_98 : decode cX6_halved 98 = .ok (.goto (-27), 3) := by decide +kernel
theorem dX6_halved_101 : decode cX6_halved 101 = .ok (.aload_n 0, 1) := by decide +kernel
theorem dX6_halved_102 : decode cX6_halved 102 = .ok (.invokevirtual 168, 3) := by decide +kernel
theorem dX6_halved_105 : decode cX6_halved 105 = .ok (.iload_n 1, 1) := by decide +kernel
theorem dX6_halved_106 : decode cX6_halved 106 = .ok (.sipush 200, 3) := by decide +kernel
theorem dX6_halved_109 : decode cX6_halved 109 = .ok (.if_icmp .gt 7, 3) := by decide +kernel
theorem dX6_halved_112 : decode cX6_halved 112 = .ok (.iload_n 1, 1) := by decide +kernel
theorem dX6_halved_113 : decode cX6_halved 113 = .ok (.goto 5, 3) := by decide +kernel
theorem dX6_halved_116 : decode cX6_halved 116 = .ok (.ldc 81, 2) := by decide +kernel
theorem dX6_halved_118 : decode cX6_halved 118 = .ok (.ireturn, 1) := by decide +kernel
theorem dX6_differs_0 : decode cX6_differs 0 = .ok (.aload_n 0, 1) := by decide +kernel
theorem dX6_differs_1 : decode cX6_differs 1 = .ok (.getfield 185, 3) := by decide +kernel
theorem dX6_differs_4 : decode cX6_differs 4 = .ok (.ifCond .ne 6, 3) := by decide +kernel
theorem dX6_differs_7 : decode cX6_differs 7 = .ok (.ldc 189, 2) := by decide +kernel
theorem dX6_differs_9 : decode cX6_differs 9 = .ok (.ireturn, 1) := by decide +kernel
theorem dX6_differs_10 : decode cX6_differs 10 = .ok (.aload_n 0, 1) := by decide +kernel
theorem dX6_differs_11 : decode cX6_differs 11 = .ok (.invokevirtual 162, 3) := by decide +kernel
theorem dX6_differs_14 : decode cX6_differs 14 = .ok (.istore_n 1, 1) := by decide +kernel
theorem dX6_differs_15 : decode cX6_differs 15 = .ok (.aload_n 0, 1) := by decide +kernel
theorem dX6_differs_16 : decode cX6_differs 16 = .ok (.getfield 9, 3) := by decide +kernel
theorem dX6_differs_19 : decode cX6_differs 19 = .ok (.aload_n 0, 1) := by decide +kernel
theorem dX6_differs_20 : decode cX6_differs 20 = .ok (.getfield 16, 3) := by decide +kernel
theorem dX6_differs_23 : decode cX6_differs 23 = .ok (.invokestatic 190, 3) := by decide +kernel
theorem dX6_differs_26 : decode cX6_differs 26 = .ok (.aload_n 0, 1) := by decide +kernel
theorem dX6_differs_27 : decode cX6_differs 27 = .ok (.getfield 13, 3) := by decide +kernel
theorem dX6_differs_30 : decode cX6_differs 30 = .ok (.aload_n 0, 1) := by decide +kernel
theorem dX6_differs_31 : decode cX6_differs 31 = .ok (.getfield 9, 3) := by decide +kernel
theorem dX6_differs_34 : decode cX6_differs 34 = .ok (.invokestatic 190, 3) := by decide +kernel
theorem dX6_differs_37 : decode cX6_differs 37 = .ok (.aload_n 0, 1) := by decide +kernel
theorem dX6_differs_38 : decode cX6_differs 38 = .ok (.invokevirtual 162, 3) := by decide +kernel
theorem dX6_differs_41 : decode cX6_differs 41 = .ok (.istore_n 2, 1) := by decide +kernel
theorem dX6_differs_42 : decode cX6_differs 42 = .ok (.aload_n 0, 1) := by decide +kernel
theorem dX6_differs_43 : decode cX6_differs 43 = .ok (.getfield 16, 3) := by decide +kernel
theorem dX6_differs_46 : decode cX6_differs 46 = .ok (.aload_n 0, 1) := by decide +kernel
theorem dX6_differs_47 : decode cX6_differs 47 = .ok (.getfield 9, 3) := by decide +kernel
theorem dX6_differs_50 : decode cX6_differs 50 = .ok (.invokestatic 190, 3) := by decide +kernel
theorem dX6_differs_53 : decode cX6_differs 53 = .ok (.iload_n 1, 1) := by decide +kernel
theorem dX6_differs_54 : decode cX6_differs 54 = .ok (.iload_n 2, 1) := by decide +kernel
theorem dX6_differs_55 : decode cX6_differs 55 = .ok (.isub, 1) := by decide +kernel
theorem dX6_differs_56 : decode cX6_differs 56 = .ok (.ireturn, 1) := by decide +kernel
theorem dX6_feed_0 : decode cX6_feed 0 = .ok (.aload_n 0, 1) := by decide +kernel
theorem dX6_feed_1 : decode cX6_feed 1 = .ok (.getfield 194, 3) := by decide +kernel
theorem dX6_feed_4 : decode cX6_feed 4 = .ok (.bipush 12, 2) := by decide +kernel
theorem dX6_feed_6 : decode cX6_feed 6 = .ok (.iadd, 1) := by decide +kernel
theorem dX6_feed_7 : decode cX6_feed 7 = .ok (.bipush 96, 2) := by decide +kernel
theorem dX6_feed_9 : decode cX6_feed 9 = .ok (.if_icmp .le 6, 3) := by decide +kernel
theorem dX6_feed_12 : decode cX6_feed 12 = .ok (.ldc 91, 2) := by decide +kernel
theorem dX6_feed_14 : decode cX6_feed 14 = .ok (.ireturn, 1) := by decide +kernel
theorem dX6_feed_15 : decode cX6_feed 15 = .ok (.iconst 0, 1) := by decide +kernel
theorem dX6_feed_16 : decode cX6_feed 16 = .ok (.istore 4, 2) := by decide +kernel
theorem dX6_feed_18 : decode cX6_feed 18 = .ok (.iload 4, 2) := by decide +kernel
theorem dX6_feed_20 : decode cX6_feed 20 = .ok (.bipush 12, 2) := by decide +kernel
theorem dX6_feed_22 : decode cX6_feed 22 = .ok (.if_icmp .ge 62, 3) := by decide +kernel
theorem dX6_feed_25 : decode cX6_feed 25 = .ok (.iload 4, 2) := by decide +kernel
theorem dX6_feed_27 : decode cX6_feed 27 = .ok (.iconst 4, 1) := by decide +kernel
theorem dX6_feed_28 : decode cX6_feed 28 = .ok (.if_icmp .ge 7, 3) := by decide +kernel
theorem dX6_feed_31 : decode cX6_feed 31 = .ok (.iload_n 1, 1) := by decide +kernel
theorem dX6_feed_32 : decode cX6_feed 32 = .ok (.goto 15, 3) := by decide +kernel
theorem dX6_feed_35 : decode cX6_feed 35 = .ok (.iload 4, 2) := by decide +kernel
theorem dX6_feed_37 : decode cX6_feed 37 = .ok (.bipush 8, 2) := by decide +kernel
theorem dX6_feed_39 : decode cX6_feed 39 = .ok (.if_icmp .ge 7, 3) := by decide +kernel
theorem dX6_feed_42 : decode cX6_feed 42 = .ok (.iload_n 2, 1) := by decide +kernel
theorem dX6_feed_43 : decode cX6_feed 43 = .ok (.goto 4, 3) := by decide +kernel
theorem dX6_feed_46 : decode cX6_feed 46 = .ok (.iload_n 3, 1) := by decide +kernel
theorem dX6_feed_47 : decode cX6_feed 47 = .ok (.istore 5, 2) := by decide +kernel
theorem dX6_feed_49 : decode cX6_feed 49 = .ok (.aload_n 0, 1) := by decide +kernel
theorem dX6_feed_50 : decode cX6_feed 50 = .ok (.getfield 28, 3) := by decide +kernel
theorem dX6_feed_53 : decode cX6_feed 53 = .ok (.aload_n 0, 1) := by decide +kernel
theorem dX6_feed_54 : decode cX6_feed 54 = .ok (.getfield 194, 3) := by decide +kernel
theorem dX6_feed_57 : decode cX6_feed 57 = .ok (.iload 4, 2) := by decide +kernel
theorem dX6_feed_59 : decode cX6_feed 59 = .ok (.iadd, 1) := by decide +kernel
theorem dX6_feed_60 : decode cX6_feed 60 = .ok (.iload 5, 2) := by decide +kernel
theorem dX6_feed_62 : decode cX6_feed 62 = .ok (.bipush 24, 2) := by decide +kernel
theorem dX6_feed_64 : decode cX6_feed 64 = .ok (.bipush 8, 2) := by decide +kernel
theorem dX6_feed_66 : decode cX6_feed 66 = .ok (.iload 4, 2) := by decide +kernel
theorem dX6_feed_68 : decode cX6_feed 68 = .ok (.iconst 4, 1) := by decide +kernel
theorem dX6_feed_69 : decode cX6_feed 69 = .ok (.irem, 1) := by decide +kernel
theorem dX6_feed_70 : decode cX6_feed 70 = .ok (.imul, 1) := by decide +kernel
theorem dX6_feed_71 : decode cX6_feed 71 = .ok (.isub, 1) := by decide +kernel
theorem dX6_feed_72 : decode cX6_feed 72 = .ok (.ishr, 1) := by decide +kernel
theorem dX6_feed_73 : decode cX6_feed 73 = .ok (.sipush 255, 3) := by decide +kernel
theorem dX6_feed_76 : decode cX6_feed 76 = .ok (.iand, 1) := by decide +kernel
theorem dX6_feed_77 : decode cX6_feed 77 = .ok (.iastore, 1) := by decide +kernel
theorem dX6_feed_78 : decode cX6_feed 78 = .ok (.iinc 4 1, 3) := by decide +kernel
theorem dX6_feed_81 : decode cX6_feed 81 = .ok (.goto (-63), 3) := by decide +kernel
theorem dX6_feed_84 : decode cX6_feed 84 = .ok (.aload_n 0, 1) := by decide +kernel
theorem dX6_feed_85 : decode cX6_feed 85 = .ok (.dup, 1) := by decide +kernel
theorem dX6_feed_86 : decode cX6_feed 86 = .ok (.getfield 194, 3) := by decide +kernel
theorem dX6_feed_89 : decode cX6_feed 89 = .ok (.bipush 12, 2) := by decide +kernel
theorem dX6_feed_91 : decode cX6_feed 91 = .ok (.iadd, 1) := by decide +kernel
theorem dX6_feed_92 : decode cX6_feed 92 = .ok (.putfield 194, 3) := by decide +kernel
theorem dX6_feed_95 : decode cX6_feed 95 = .ok (.aload_n 0, 1) := by decide +kernel
theorem dX6_feed_96 : decode cX6_feed 96 = .ok (.getfield 194, 3) := by decide +kernel
theorem dX6_feed_99 : decode cX6_feed 99 = .ok (.ireturn, 1) := by decide +kernel
theorem dX6_trim_0 : decode cX6_trim 0 = .ok (.iload_n 1, 1) := by decide +kernel
theorem dX6_trim_1 : decode cX6_trim 1 = .ok (.iconst 0, 1) := by decide +kernel
theorem dX6_trim_2 : decode cX6_trim 2 = .ok (.aload_n 0, 1) := by decide +kernel
theorem dX6_trim_3 : decode cX6_trim 3 = .ok (.getfield 194, 3) := by decide +kernel
theorem dX6_trim_6 : decode cX6_trim 6 = .ok (.invokestatic 82, 3) := by decide +kernel
theorem dX6_trim_9 : decode cX6_trim 9 = .ok (.ifCond .ne 6, 3) := by decide +kernel
theorem dX6_trim_12 : decode cX6_trim 12 = .ok (.ldc 90, 2) := by decide +kernel
theorem dX6_trim_14 : decode cX6_trim 14 = .ok (.ireturn, 1) := by decide +kernel
theorem dX6_trim_15 : decode cX6_trim 15 = .ok (.aload_n 0, 1) := by decide +kernel
theorem dX6_trim_16 : decode cX6_trim 16 = .ok (.iload_n 1, 1) := by decide +kernel
theorem dX6_trim_17 : decode cX6_trim 17 = .ok (.putfield 194, 3) := by decide +kernel
theorem dX6_trim_20 : decode cX6_trim 20 = .ok (.iload_n 1, 1) := by decide +kernel
theorem dX6_trim_21 : decode cX6_trim 21 = .ok (.ireturn, 1) := by decide +kernel
theorem dX6_isLetter_0 : decode cX6_isLetter 0 = .ok (.iload_n 1, 1) := by decide +kernel
theorem dX6_isLetter_1 : decode cX6_isLetter 1 = .ok (.aload_n 0, 1) := by decide +kernel
theorem dX6_isLetter_2 : decode cX6_isLetter 2 = .ok (.getfield 194, 3) := by decide +kernel
theorem dX6_isLetter_5 : decode cX6_isLetter 5 = .ok (.if_icmp .ge 29, 3) := by decide +kernel
theorem dX6_isLetter_8 : decode cX6_isLetter 8 = .ok (.aload_n 0, 1) := by decide +kernel
theorem dX6_isLetter_9 : decode cX6_isLetter 9 = .ok (.getfield 28, 3) := by decide +kernel
theorem dX6_isLetter_12 : decode cX6_isLetter 12 = .ok (.iload_n 1, 1) := by decide +kernel
theorem dX6_isLetter_13 : decode cX6_isLetter 13 = .ok (.iaload, 1) := by decide +kernel
theorem dX6_isLetter_14 : decode cX6_isLetter 14 = .ok (.bipush 97, 2) := by decide +kernel
theorem dX6_isLetter_16 : decode cX6_isLetter 16 = .ok (.if_icmp .lt 18, 3) := by decide +kernel
theorem dX6_isLetter_19 : decode cX6_isLetter 19 = .ok (.aload_n 0, 1) := by decide +kernel
theorem dX6_isLetter_20 : decode cX6_isLetter 20 = .ok (.getfield 28, 3) := by decide +kernel
theorem dX6_isLetter_23 : decode cX6_isLetter 23 = .ok (.iload_n 1, 1) := by decide +kernel
theorem dX6_isLetter_24 : decode cX6_isLetter 24 = .ok (.iaload, 1) := by decide +kernel
theorem dX6_isLetter_25 : decode cX6_isLetter 25 = .ok (.bipush 122, 2) := by decide +kernel
theorem dX6_isLetter_27 : decode cX6_isLetter 27 = .ok (.if_icmp .gt 7, 3) := by decide +kernel
theorem dX6_isLetter_30 : decode cX6_isLetter 30 = .ok (.iconst 1, 1) := by decide +kernel
theorem dX6_isLetter_31 : decode cX6_isLetter 31 = .ok (.goto 4, 3) := by decide +kernel
theorem dX6_isLetter_34 : decode cX6_isLetter 34 = .ok (.iconst 0, 1) := by decide +kernel
theorem dX6_isLetter_35 : decode cX6_isLetter 35 = .ok (.ireturn, 1) := by decide +kernel
theorem dX6_isFigure_0 : decode cX6_isFigure 0 = .ok (.iload_n 1, 1) := by decide +kernel
theorem dX6_isFigure_1 : decode cX6_isFigure 1 = .ok (.aload_n 0, 1) := by decide +kernel
theorem dX6_isFigure_2 : decode cX6_isFigure 2 = .ok (.getfield 194, 3) := by decide +kernel
theorem dX6_isFigure_5 : decode cX6_isFigure 5 = .ok (.if_icmp .ge 29, 3) := by decide +kernel
theorem dX6_isFigure_8 : decode cX6_isFigure 8 = .ok (.aload_n 0, 1) := by decide +kernel
theorem dX6_isFigure_9 : decode cX6_isFigure 9 = .ok (.getfield 28, 3) := by decide +kernel
theorem dX6_isFigure_12 : decode cX6_isFigure 12 = .ok (.iload_n 1, 1) := by decide +kernel
theorem dX6_isFigure_13 : decode cX6_isFigure 13 = .ok (.iaload, 1) := by decide +kernel
theorem dX6_isFigure_14 : decode cX6_isFigure 14 = .ok (.bipush 48, 2) := by decide +kernel
theorem dX6_isFigure_16 : decode cX6_isFigure 16 = .ok (.if_icmp .lt 18, 3) := by decide +kernel
theorem dX6_isFigure_19 : decode cX6_isFigure 19 = .ok (.aload_n 0, 1) := by decide +kernel
theorem dX6_isFigure_20 : decode cX6_isFigure 20 = .ok (.getfield 28, 3) := by decide +kernel
theorem dX6_isFigure_23 : decode cX6_isFigure 23 = .ok (.iload_n 1, 1) := by decide +kernel
theorem dX6_isFigure_24 : decode cX6_isFigure 24 = .ok (.iaload, 1) := by decide +kernel
theorem dX6_isFigure_25 : decode cX6_isFigure 25 = .ok (.bipush 57, 2) := by decide +kernel
theorem dX6_isFigure_27 : decode cX6_isFigure 27 = .ok (.if_icmp .gt 7, 3) := by decide +kernel
theorem dX6_isFigure_30 : decode cX6_isFigure 30 = .ok (.iconst 1, 1) := by decide +kernel
theorem dX6_isFigure_31 : decode cX6_isFigure 31 = .ok (.goto 4, 3) := by decide +kernel
theorem dX6_isFigure_34 : decode cX6_isFigure 34 = .ok (.iconst 0, 1) := by decide +kernel
theorem dX6_isFigure_35 : decode cX6_isFigure 35 = .ok (.ireturn, 1) := by decide +kernel
theorem dX6_go_0 : decode cX6_go 0 = .ok (.aload_n 0, 1) := by decide +kernel
theorem dX6_go_1 : decode cX6_go 1 = .ok (.getfield 198, 3) := by decide +kernel
theorem dX6_go_4 : decode cX6_go 4 = .ok (.aload_n 0, 1) := by decide +kernel
theorem dX6_go_5 : decode cX6_go 5 = .ok (.getfield 194, 3) := by decide +kernel
theorem dX6_go_8 : decode cX6_go 8 = .ok (.if_icmp .ge 30, 3) := by decide +kernel
theorem dX6_go_11 : decode cX6_go 11 = .ok (.aload_n 0, 1) := by decide +kernel
theorem dX6_go_12 : decode cX6_go 12 = .ok (.getfield 28, 3) := by decide +kernel
theorem dX6_go_15 : decode cX6_go 15 = .ok (.aload_n 0, 1) := by decide +kernel
theorem dX6_go_16 : decode cX6_go 16 = .ok (.getfield 198, 3) := by decide +kernel
theorem dX6_go_19 : decode cX6_go 19 = .ok (.iaload, 1) := by decide +kernel
theorem dX6_go_20 : decode cX6_go 20 = .ok (.bipush 32, 2) := by decide +kernel
theorem dX6_go_22 : decode cX6_go 22 = .ok (.if_icmp .ne 16, 3) := by decide +kernel
theorem dX6_go_25 : decode cX6_go 25 = .ok (.aload_n 0, 1) := by decide +kernel
theorem dX6_go_26 : decode cX6_go 26 = .ok (.dup, 1) := by decide +kernel
theorem dX6_go_27 : decode cX6_go 27 = .ok (.getfield 198, 3) := by decide +kernel
theorem dX6_go_30 : decode cX6_go 30 = .ok (.iconst 1, 1) := by decide +kernel
theorem dX6_go_31 : decode cX6_go 31 = .ok (.iadd, 1) := by decide +kernel
theorem dX6_go_32 : decode cX6_go 32 = .ok (.putfield 198, 3) := by decide +kernel
theorem dX6_go_35 : decode cX6_go 35 = .ok (.goto (-35), 3) := by decide +kernel
theorem dX6_go_38 : decode cX6_go 38 = .ok (.aload_n 0, 1) := by decide +kernel
theorem dX6_go_39 : decode cX6_go 39 = .ok (.aload_n 0, 1) := by decide +kernel
theorem dX6_go_40 : decode cX6_go 40 = .ok (.getfield 198, 3) := by decide +kernel
theorem dX6_go_43 : decode cX6_go 43 = .ok (.putfield 201, 3) := by decide +kernel
theorem dX6_go_46 : decode cX6_go 46 = .ok (.aload_n 0, 1) := by decide +kernel
theorem dX6_go_47 : decode cX6_go 47 = .ok (.getfield 201, 3) := by decide +kernel
theorem dX6_go_50 : decode cX6_go 50 = .ok (.aload_n 0, 1) := by decide +kernel
theorem dX6_go_51 : decode cX6_go 51 = .ok (.getfield 204, 3) := by decide +kernel
theorem dX6_go_54 : decode cX6_go 54 = .ok (.if_icmp .ne 7, 3) := by decide +kernel
theorem dX6_go_57 : decode cX6_go 57 = .ok (.iconst 1, 1) := by decide +kernel
theorem dX6_go_58 : decode cX6_go 58 = .ok (.goto 4, 3) := by decide +kernel
theorem dX6_go_61 : decode cX6_go 61 = .ok (.iconst 0, 1) := by decide +kernel
theorem dX6_go_62 : decode cX6_go 62 = .ok (.istore_n 1, 1) := by decide +kernel
theorem dX6_go_63 : decode cX6_go 63 = .ok (.aload_n 0, 1) := by decide +kernel
theorem dX6_go_64 : decode cX6_go 64 = .ok (.getfield 201, 3) := by decide +kernel
theorem dX6_go_67 : decode cX6_go 67 = .ok (.aload_n 0, 1) := by decide +kernel
theorem dX6_go_68 : decode cX6_go 68 = .ok (.getfield 194, 3) := by decide +kernel
theorem dX6_go_71 : decode cX6_go 71 = .ok (.if_icmp .ne 11, 3) := by decide +kernel
theorem dX6_go_74 : decode cX6_go 74 = .ok (.aload_n 0, 1) := by decide +kernel
theorem dX6_go_75 : decode cX6_go 75 = .ok (.iconst 0, 1) := by decide +kernel
theorem dX6_go_76 : decode cX6_go 76 = .ok (.putfield 207, 3) := by decide +kernel
theorem dX6_go_79 : decode cX6_go 79 = .ok (.goto 224, 3) := by decide +kernel
theorem dX6_go_82 : decode cX6_go 82 = .ok (.aload_n 0, 1) := by decide +kernel
theorem dX6_go_83 : decode cX6_go 83 = .ok (.aload_n 0, 1) := by decide +kernel
theorem dX6_go_84 : decode cX6_go 84 = .ok (.getfield 201, 3) := by decide +kernel
theorem dX6_go_87 : decode cX6_go 87 = .ok (.invokevirtual 210, 3) := by decide +kernel
theorem dX6_go_90 : decode cX6_go 90 = .ok (.ifCond .eq 64, 3) := by decide +kernel
theorem dX6_go_93 : decode cX6_go 93 = .ok (.aload_n 0, 1) := by decide +kernel
theorem dX6_go_94 : decode cX6_go 94 = .ok (.aload_n 0, 1) := by decide +kernel
theorem dX6_go_95 : decode cX6_go 95 = .ok (.getfield 198, 3) := by decide +kernel
theorem dX6_go_98 : decode cX6_go 98 = .ok (.invokevirtual 210, 3) := by decide +kernel
theorem dX6_go_101 : decode cX6_go 101 = .ok (.ifCond .eq 16, 3) := by decide +kernel
theorem dX6_go_104 : decode cX6_go 104 = .ok (.aload_n 0, 1) := by decide +kernel
theorem dX6_go_105 : decode cX6_go 105 = .ok (.dup, 1) := by decide +kernel
theorem dX6_go_106 : decode cX6_go 106 = .ok (.getfield 198, 3) := by decide +kernel
theorem dX6_go_109 : decode cX6_go 109 = .ok (.iconst 1, 1) := by decide +kernel
theorem dX6_go_110 : decode cX6_go 110 = .ok (.iadd, 1) := by decide +kernel
theorem dX6_go_111 : decode cX6_go 111 = .ok (.putfield 198, 3) := by decide +kernel
theorem dX6_go_114 : decode cX6_go 114 = .ok (.goto (-21), 3) := by decide +kernel
theorem dX6_go_117 : decode cX6_go 117 = .ok (.aload_n 0, 1) := by decide +kernel
theorem dX6_go_118 : decode cX6_go 118 = .ok (.iload_n 1, 1) := by decide +kernel
theorem dX6_go_119 : decode cX6_go 119 = .ok (.ifCond .eq 7, 3) := by decide +kernel
theorem dX6_go_122 : decode cX6_go 122 = .ok (.iconst 4, 1) := by decide +kernel
theorem dX6_go_123 : decode cX6_go 123 = .ok (.goto 4, 3) := by decide +kernel
theorem dX6_go_126 : decode cX6_go 126 = .ok (.iconst 1, 1) := by decide +kernel
theorem dX6_go_127 : decode cX6_go 127 = .ok (.putfield 207, 3) := by decide +kernel
theorem dX6_go_130 : decode cX6_go 130 = .ok (.aload_n 0, 1) := by decide +kernel
theorem dX6_go_131 : decode cX6_go 131 = .ok (.aload_n 0, 1) := by decide +kernel
theorem dX6_go_132 : decode cX6_go 132 = .ok (.getfield 28, 3) := by decide +kernel
theorem dX6_go_135 : decode cX6_go 135 = .ok (.aload_n 0, 1) := by decide +kernel
theorem dX6_go_136 : decode cX6_go 136 = .ok (.getfield 201, 3) := by decide +kernel
theorem dX6_go_139 : decode cX6_go 139 = .ok (.iaload, 1) := by decide +kernel
theorem dX6_go_140 : decode cX6_go 140 = .ok (.putfield 213, 3) := by decide +kernel
theorem dX6_go_143 : decode cX6_go 143 = .ok (.aload_n 0, 1) := by decide +kernel
theorem dX6_go_144 : decode cX6_go 144 = .ok (.aload_n 0, 1) := by decide +kernel
theorem dX6_go_145 : decode cX6_go 145 = .ok (.getfield 198, 3) := by decide +kernel
theorem dX6_go_148 : decode cX6_go 148 = .ok (.putfield 204, 3) := by decide +kernel
theorem dX6_go_151 : decode cX6_go 151 = .ok (.goto 152, 3) := by decide +kernel
theorem dX6_go_154 : decode cX6_go 154 = .ok (.aload_n 0, 1) := by decide +kernel
theorem dX6_go_155 : decode cX6_go 155 = .ok (.aload_n 0, 1) := by decide +kernel
theorem dX6_go_156 : decode cX6_go 156 = .ok (.getfield 201, 3) := by decide +kernel
theorem dX6_go_159 : decode cX6_go 159 = .ok (.invokevirtual 216, 3) := by decide +kernel
theorem dX6_go_162 : decode cX6_go 162 = .ok (.ifCond .eq 113, 3) := by decide +kernel
theorem dX6_go_165 : decode cX6_go 165 = .ok (.aload_n 0, 1) := by decide +kernel
theorem dX6_go_166 : decode cX6_go 166 = .ok (.iconst 0, 1) := by decide +kernel
theorem dX6_go_167 : decode cX6_go 167 = .ok (.putfield 213, 3) := by decide +kernel
theorem dX6_go_170 : decode cX6_go 170 = .ok (.aload_n 0, 1) := by decide +kernel
theorem dX6_go_171 : decode cX6_go 171 = .ok (.aload_n 0, 1) := by decide +kernel
theorem dX6_go_172 : decode cX6_go 172 = .ok (.getfield 198, 3) := by decide +kernel
theorem dX6_go_175 : decode cX6_go 175 = .ok (.invokevirtual 216, 3) := by decide +kernel
theorem dX6_go_178 : decode cX6_go 178 = .ok (.ifCond .eq 60, 3) := by decide +kernel
theorem dX6_go_181 : decode cX6_go 181 = .ok (.aload_n 0, 1) := by decide +kernel
theorem dX6_go_182 : decode cX6_go 182 = .ok (.aload_n 0, 1) := by decide +kernel
theorem dX6_go_183 : decode cX6_go 183 = .ok (.getfield 198, 3) := by decide +kernel
theorem dX6_go_186 : decode cX6_go 186 = .ok (.aload_n 0, 1) := by decide +kernel
theorem dX6_go_187 : decode cX6_go 187 = .ok (.getfield 201, 3) := by decide +kernel
theorem dX6_go_190 : decode cX6_go 190 = .ok (.isub, 1) := by decide +kernel
theorem dX6_go_191 : decode cX6_go 191 = .ok (.iconst 4, 1) := by decide +kernel
theorem dX6_go_192 : decode cX6_go 192 = .ok (.if_icmp .ge 26, 3) := by decide +kernel
theorem dX6_go_195 : decode cX6_go 195 = .ok (.bipush 10, 2) := by decide +kernel
theorem dX6_go_197 : decode cX6_go 197 = .ok (.aload_n 0, 1) := by decide +kernel
theorem dX6_go_198 : decode cX6_go 198 = .ok (.getfield 213, 3) := by decide +kernel
theorem dX6_go_201 : decode cX6_go 201 = .ok (.imul, 1) := by decide +kernel
theorem dX6_go_202 : decode cX6_go 202 = .ok (.aload_n 0, 1) := by decide +kernel
theorem dX6_go_203 : decode cX6_go 203 = .ok (.getfield 28, 3) := by decide +kernel
theorem dX6_go_206 : decode cX6_go 206 = .ok (.aload_n 0, 1) := by decide +kernel
theorem dX6_go_207 : decode cX6_go 207 = .ok (.getfield 198, 3) := by decide +kernel
theorem dX6_go_210 : decode cX6_go 210 = .ok (.iaload, 1) := by decide +kernel
theorem dX6_go_211 : decode cX6_go 211 = .ok (.iadd, 1) := by decide +kernel
theorem dX6_go_212 : decode cX6_go 212 = .ok (.bipush 48, 2) := by decide +kernel
theorem dX6_go_214 : decode cX6_go 214 = .ok (.isub, 1) := by decide +kernel
theorem dX6_go_215 : decode cX6_go 215 = .ok (.goto 7, 3) := by decide +kernel
theorem dX6_go_218 : decode cX6_go 218 = .ok (.aload_n 0, 1) := by decide +kernel
theorem dX6_go_219 : decode cX6_go 219 = .ok (.getfield 213, 3) := by decide +kernel
theorem dX6_go_222 : decode cX6_go 222 = .ok (.putfield 213, 3) := by decide +kernel
theorem dX6_go_225 : decode cX6_go 225 = .ok (.aload_n 0, 1) := by decide +kernel
theorem dX6_go_226 : decode cX6_go 226 = .ok (.dup, 1) := by decide +kernel
theorem dX6_go_227 : decode cX6_go 227 = .ok (.getfield 198, 3) := by decide +kernel
theorem dX6_go_230 : decode cX6_go 230 = .ok (.iconst 1, 1) := by decide +kernel
theorem dX6_go_231 : decode cX6_go 231 = .ok (.iadd, 1) := by decide +kernel
theorem dX6_go_232 : decode cX6_go 232 = .ok (.putfield 198, 3) := by decide +kernel
theorem dX6_go_235 : decode cX6_go 235 = .ok (.goto (-65), 3) := by decide +kernel
theorem dX6_go_238 : decode cX6_go 238 = .ok (.aload_n 0, 1) := by decide +kernel
theorem dX6_go_239 : decode cX6_go 239 = .ok (.iload_n 1, 1) := by decide +kernel
theorem dX6_go_240 : decode cX6_go 240 = .ok (.ifCond .ne 16, 3) := by decide +kernel
theorem dX6_go_243 : decode cX6_go 243 = .ok (.aload_n 0, 1) := by decide +kernel
theorem dX6_go_244 : decode cX6_go 244 = .ok (.getfield 198, 3) := by decide +kernel
theorem dX6_go_247 : decode cX6_go 247 = .ok (.aload_n 0, 1) := by decide +kernel
theorem dX6_go_248 : decode cX6_go 248 = .ok (.getfield 201, 3) := by decide +kernel
theorem dX6_go_251 : decode cX6_go 251 = .ok (.isub, 1) := by decide +kernel
theorem dX6_go_252 : decode cX6_go 252 = .ok (.iconst 4, 1) := by decide +kernel
theorem dX6_go_253 : decode cX6_go 253 = .ok (.if_icmp .le 7, 3) := by decide +kernel
theorem dX6_go_256 : decode cX6_go 256 = .ok (.iconst 4, 1) := by decide +kernel
theorem dX6_go_257 : decode cX6_go 257 = .ok (.goto 4, 3) := by decide +kernel
theorem dX6_go_260 : decode cX6_go 260 = .ok (.iconst 2, 1) := by decide +kernel
theorem dX6_go_261 : decode cX6_go 261 = .ok (.putfield 207, 3) := by decide +kernel
theorem dX6_go_264 : decode cX6_go 264 = .ok (.aload_n 0, 1) := by decide +kernel
theorem dX6_go_265 : decode cX6_go 265 = .ok (.aload_n 0, 1) := by decide +kernel
theorem dX6_go_266 : decode cX6_go 266 = .ok (.getfield 198, 3) := by decide +kernel
theorem dX6_go_269 : decode cX6_go 269 = .ok (.putfield 204, 3) := by decide +kernel
theorem dX6_go_272 : decode cX6_go 272 = .ok (.goto 31, 3) := by decide +kernel
theorem dX6_go_275 : decode cX6_go 275 = .ok (.aload_n 0, 1) := by decide +kernel
theorem dX6_go_276 : decode cX6_go 276 = .ok (.iconst 3, 1) := by decide +kernel
theorem dX6_go_277 : decode cX6_go 277 = .ok (.putfield 207, 3) := by decide +kernel
theorem dX6_go_280 : decode cX6_go 280 = .ok (.aload_n 0, 1) := by decide +kernel
theorem dX6_go_281 : decode cX6_go 281 = .ok (.aload_n 0, 1) := by decide +kernel
theorem dX6_go_282 : decode cX6_go 282 = .ok (.getfield 28, 3) := by decide +kernel
theorem dX6_go_285 : decode cX6_go 285 = .ok (.aload_n 0, 1) := by decide +kernel
theorem dX6_go_286 : decode cX6_go 286 = .ok (.getfield 201, 3) := by decide +kernel
theorem dX6_go_289 : decode cX6_go 289 = .ok (.iaload, 1) := by decide +kernel
theorem dX6_go_290 : decode cX6_go 290 = .ok (.putfield 213, 3) := by decide +kernel
theorem dX6_go_293 : decode cX6_go 293 = .ok (.aload_n 0, 1) := by decide +kernel
theorem dX6_go_294 : decode cX6_go 294 = .ok (.dup, 1) := by decide +kernel
theorem dX6_go_295 : decode cX6_go 295 = .ok (.getfield 198, 3) := by decide +kernel
theorem dX6_go_298 : decode cX6_go 298 = .ok (.iconst 1, 1) := by decide +kernel
theorem dX6_go_299 : decode cX6_go 299 = .ok (.iadd, 1) := by decide +kernel
theorem dX6_go_300 : decode cX6_go 300 = .ok (.putfield 198, 3) := by decide +kernel
theorem dX6_go_303 : decode cX6_go 303 = .ok (.return_, 1) := by decide +kernel
theorem dX6_takesKey_0 : decode cX6_takesKey 0 = .ok (.aload_n 0, 1) := by decide +kernel
theorem dX6_takesKey_1 : decode cX6_takesKey 1 = .ok (.getfield 207, 3) := by decide +kernel
theorem dX6_takesKey_4 : decode cX6_takesKey 4 = .ok (.iconst 1, 1) := by decide +kernel
theorem dX6_takesKey_5 : decode cX6_takesKey 5 = .ok (.if_icmp .eq 5, 3) := by decide +kernel
theorem dX6_takesKey_8 : decode cX6_takesKey 8 = .ok (.iconst 0, 1) := by decide +kernel
theorem dX6_takesKey_9 : decode cX6_takesKey 9 = .ok (.ireturn, 1) := by decide +kernel
theorem dX6_takesKey_10 : decode cX6_takesKey 10 = .ok (.iconst 0, 1) := by decide +kernel
theorem dX6_takesKey_11 : decode cX6_takesKey 11 = .ok (.istore_n 1, 1) := by decide +kernel
theorem dX6_takesKey_12 : decode cX6_takesKey 12 = .ok (.iload_n 1, 1) := by decide +kernel
theorem dX6_takesKey_13 : decode cX6_takesKey 13 = .ok (.iconst 3, 1) := by decide +kernel
theorem dX6_takesKey_14 : decode cX6_takesKey 14 = .ok (.if_icmp .ge 113, 3) := by decide +kernel
theorem dX6_takesKey_17 : decode cX6_takesKey 17 = .ok (.aload_n 0, 1) := by decide +kernel
theorem dX6_takesKey_18 : decode cX6_takesKey 18 = .ok (.getfield 35, 3) := by decide +kernel
theorem dX6_takesKey_21 : decode cX6_takesKey 21 = .ok (.iload_n 1, 1) := by decide +kernel
theorem dX6_takesKey_22 : decode cX6_takesKey 22 = .ok (.iconst 1, 1) := by decide +kernel
theorem dX6_takesKey_23 : decode cX6_takesKey 23 = .ok (.iadd, 1) := by decide +kernel
theorem dX6_takesKey_24 : decode cX6_takesKey 24 = .ok (.iaload, 1) := by decide +kernel
theorem dX6_takesKey_25 : decode cX6_takesKey 25 = .ok (.aload_n 0, 1) := by decide +kernel
theorem dX6_takesKey_26 : decode cX6_takesKey 26 = .ok (.getfield 35, 3) := by decide +kernel
theorem dX6_takesKey_29 : decode cX6_takesKey 29 = .ok (.iload_n 1, 1) := by decide +kernel
theorem dX6_takesKey_30 : decode cX6_takesKey 30 = .ok (.iaload, 1) := by decide +kernel
theorem dX6_takesKey_31 : decode cX6_takesKey 31 = .ok (.isub, 1) := by decide +kernel
theorem dX6_takesKey_32 : decode cX6_takesKey 32 = .ok (.istore_n 2, 1) := by decide +kernel
theorem dX6_takesKey_33 : decode cX6_takesKey 33 = .ok (.iload_n 2, 1) := by decide +kernel
theorem dX6_takesKey_34 : decode cX6_takesKey 34 = .ok (.aload_n 0, 1) := by decide +kernel
theorem dX6_takesKey_35 : decode cX6_takesKey 35 = .ok (.getfield 198, 3) := by decide +kernel
theorem dX6_takesKey_38 : decode cX6_takesKey 38 = .ok (.aload_n 0, 1) := by decide +kernel
theorem dX6_takesKey_39 : decode cX6_takesKey 39 = .ok (.getfield 201, 3) := by decide +kernel
theorem dX6_takesKey_42 : decode cX6_takesKey 42 = .ok (.isub, 1) := by decide +kernel
theorem dX6_takesKey_43 : decode cX6_takesKey 43 = .ok (.if_icmp .ne 7, 3) := by decide +kernel
theorem dX6_takesKey_46 : decode cX6_takesKey 46 = .ok (.iconst 1, 1) := by decide +kernel
theorem dX6_takesKey_47 : decode cX6_takesKey 47 = .ok (.goto 4, 3) := by decide +kernel
theorem dX6_takesKey_50 : decode cX6_takesKey 50 = .ok (.iconst 0, 1) := by decide +kernel
theorem dX6_takesKey_51 : decode cX6_takesKey 51 = .ok (.istore_n 3, 1) := by decide +kernel
theorem dX6_takesKey_52 : decode cX6_takesKey 52 = .ok (.iconst 0, 1) := by decide +kernel
theorem dX6_takesKey_53 : decode cX6_takesKey 53 = .ok (.istore 4, 2) := by decide +kernel
theorem dX6_takesKey_55 : decode cX6_takesKey 55 = .ok (.iload 4, 2) := by decide +kernel
theorem dX6_takesKey_57 : decode cX6_takesKey 57 = .ok (.iload_n 2, 1) := by decide +kernel
theorem dX6_takesKey_58 : decode cX6_takesKey 58 = .ok (.if_icmp .ge 48, 3) := by decide +kernel
theorem dX6_takesKey_61 : decode cX6_takesKey 61 = .ok (.iload_n 3, 1) := by decide +kernel
theorem dX6_takesKey_62 : decode cX6_takesKey 62 = .ok (.ifCond .eq 44, 3) := by decide +kernel
theorem dX6_takesKey_65 : decode cX6_takesKey 65 = .ok (.aload_n 0, 1) := by decide +kernel
theorem dX6_takesKey_66 : decode cX6_takesKey 66 = .ok (.getfield 28, 3) := by decide +kernel
theorem dX6_takesKey_69 : decode cX6_takesKey 69 = .ok (.aload_n 0, 1) := by decide +kernel
theorem dX6_takesKey_70 : decode cX6_takesKey 70 = .ok (.getfield 201, 3) := by decide +kernel
theorem dX6_takesKey_73 : decode cX6_takesKey 73 = .ok (.iload 4, 2) := by decide +kernel
theorem dX6_takesKey_75 : decode cX6_takesKey 75 = .ok (.iadd, 1) := by decide +kernel
theorem dX6_takesKey_76 : decode cX6_takesKey 76 = .ok (.iaload, 1) := by decide +kernel
theorem dX6_takesKey_77 : decode cX6_takesKey 77 = .ok (.aload_n 0, 1) := by decide +kernel
theorem dX6_takesKey_78 : decode cX6_takesKey 78 = .ok (.getfield 31, 3) := by decide +kernel
theorem dX6_takesKey_81 : decode cX6_takesKey 81 = .ok (.aload_n 0, 1) := by decide +kernel
theorem dX6_takesKey_82 : decode cX6_takesKey 82 = .ok (.getfield 35, 3) := by decide +kernel
theorem dX6_takesKey_85 : decode cX6_takesKey 85 = .ok (.iload_n 1, 1) := by decide +kernel
theorem dX6_takesKey_86 : decode cX6_takesKey 86 = .ok (.iaload, 1) := by decide +kernel
theorem dX6_takesKey_87 : decode cX6_takesKey 87 = .ok (.iload 4, 2) := by decide +kernel
theorem dX6_takesKey_89 : decode cX6_takesKey 89 = .ok (.iadd, 1) := by decide +kernel
theorem dX6_takesKey_90 : decode cX6_takesKey 90 = .ok (.caload, 1) := by decide +kernel
theorem dX6_takesKey_91 : decode cX6_takesKey 91 = .ok (.if_icmp .ne 7, 3) := by decide +kernel
theorem dX6_takesKey_94 : decode cX6_takesKey 94 = .ok (.iconst 1, 1) := by decide +kernel
theorem dX6_takesKey_95 : decode cX6_takesKey 95 = .ok (.goto 4, 3) := by decide +kernel
theorem dX6_takesKey_98 : decode cX6_takesKey 98 = .ok (.iconst 0, 1) := by decide +kernel
theorem dX6_takesKey_99 : decode cX6_takesKey 99 = .ok (.istore_n 3, 1) := by decide +kernel
theorem dX6_takesKey_100 : decode cX6_takesKey 100 = .ok (.iinc 4 1, 3) := by decide +kernel
theorem dX6_takesKey_103 : decode cX6_takesKey 103 = .ok (.goto (-48), 3) := by decide +kernel
theorem dX6_takesKey_106 : decode cX6_takesKey 106 = .ok (.iload_n 3, 1) := by decide +kernel
theorem dX6_takesKey_107 : decode cX6_takesKey 107 = .ok (.ifCond .eq 14, 3) := by decide +kernel
theorem dX6_takesKey_110 : decode cX6_takesKey 110 = .ok (.aload_n 0, 1) := by decide +kernel
theorem dX6_takesKey_111 : decode cX6_takesKey 111 = .ok (.iload_n 1, 1) := by decide +kernel
theorem dX6_takesKey_112 : decode cX6_takesKey 112 = .ok (.putfield 219, 3) := by decide +kernel
theorem dX6_takesKey_115 : decode cX6_takesKey 115 = .ok (.aload_n 0, 1) := by decide +kernel
theorem dX6_takesKey_116 : decode cX6_takesKey 116 = .ok (.invokevirtual 222, 3) := by decide +kernel
theorem dX6_takesKey_119 : decode cX6_takesKey 119 = .ok (.iconst 1, 1) := by decide +kernel
theorem dX6_takesKey_120 : decode cX6_takesKey 120 = .ok (.ireturn, 1) := by decide +kernel
theorem dX6_takesKey_121 : decode cX6_takesKey 121 = .ok (.iinc 1 1, 3) := by decide +kernel
theorem dX6_takesKey_124 : decode cX6_takesKey 124 = .ok (.goto (-112), 3) := by decide +kernel
theorem dX6_takesKey_127 : decode cX6_takesKey 127 = .ok (.iconst 0, 1) := by decide +kernel
theorem dX6_takesKey_128 : decode cX6_takesKey 128 = .ok (.ireturn, 1) := by decide +kernel
theorem dX6_nameOf_0 : decode cX6_nameOf 0 = .ok (.aload_n 0, 1) := by decide +kernel
theorem dX6_nameOf_1 : decode cX6_nameOf 1 = .ok (.getfield 219, 3) := by decide +kernel
theorem dX6_nameOf_4 : decode cX6_nameOf 4 = .ok (.lookupswitch 82 #[(0, 28), (1, 60)], 28) := by decide +kernel
theorem dX6_nameOf_32 : decode cX6_nameOf 32 = .ok (.iload_n 1, 1) := by decide +kernel
theorem dX6_nameOf_33 : decode cX6_nameOf 33 = .ok (.bipush 97, 2) := by decide +kernel
theorem dX6_nameOf_35 : decode cX6_nameOf 35 = .ok (.if_icmp .ne 7, 3) := by decide +kernel
theorem dX6_nameOf_38 : decode cX6_nameOf 38 = .ok (.iconst 0, 1) := by decide +kernel
theorem dX6_nameOf_39 : decode cX6_nameOf 39 = .ok (.goto 24, 3) := by decide +kernel
theorem dX6_nameOf_42 : decode cX6_nameOf 42 = .ok (.iload_n 1, 1) := by decide +kernel
theorem dX6_nameOf_43 : decode cX6_nameOf 43 = .ok (.bipush 103, 2) := by decide +kernel
theorem dX6_nameOf_45 : decode cX6_nameOf 45 = .ok (.if_icmp .ne 7, 3) := by decide +kernel
theorem dX6_nameOf_48 : decode cX6_nameOf 48 = .ok (.iconst 1, 1) := by decide +kernel
theorem dX6_nameOf_49 : decode cX6_nameOf 49 = .ok (.goto 14, 3) := by decide +kernel
theorem dX6_nameOf_52 : decode cX6_nameOf 52 = .ok (.iload_n 1, 1) := by decide +kernel
theorem dX6_nameOf_53 : decode cX6_nameOf 53 = .ok (.bipush 116, 2) := by decide +kernel
theorem dX6_nameOf_55 : decode cX6_nameOf 55 = .ok (.if_icmp .ne 7, 3) := by decide +kernel
theorem dX6_nameOf_58 : decode cX6_nameOf 58 = .ok (.iconst 2, 1) := by decide +kernel
theorem dX6_nameOf_59 : decode cX6_nameOf 59 = .ok (.goto 4, 3) := by decide +kernel
theorem dX6_nameOf_62 : decode cX6_nameOf 62 = .ok (.iconst (-1), 1) := by decide +kernel
theorem dX6_nameOf_63 : decode cX6_nameOf 63 = .ok (.ireturn, 1) := by decide +kernel
theorem dX6_nameOf_64 : decode cX6_nameOf 64 = .ok (.iload_n 1, 1) := by decide +kernel
theorem dX6_nameOf_65 : decode cX6_nameOf 65 = .ok (.bipush 116, 2) := by decide +kernel
theorem dX6_nameOf_67 : decode cX6_nameOf 67 = .ok (.if_icmp .ne 7, 3) := by decide +kernel
theorem dX6_nameOf_70 : decode cX6_nameOf 70 = .ok (.iconst 0, 1) := by decide +kernel
theorem dX6_nameOf_71 : decode cX6_nameOf 71 = .ok (.goto 14, 3) := by decide +kernel
theorem dX6_nameOf_74 : decode cX6_nameOf 74 = .ok (.iload_n 1, 1) := by decide +kernel
theorem dX6_nameOf_75 : decode cX6_nameOf 75 = .ok (.bipush 119, 2) := by decide +kernel
theorem dX6_nameOf_77 : decode cX6_nameOf 77 = .ok (.if_icmp .ne 7, 3) := by decide +kernel
theorem dX6_nameOf_80 : decode cX6_nameOf 80 = .ok (.iconst 1, 1) := by decide +kernel
theorem dX6_nameOf_81 : decode cX6_nameOf 81 = .ok (.goto 4, 3) := by decide +kernel
theorem dX6_nameOf_84 : decode cX6_nameOf 84 = .ok (.iconst (-1), 1) := by decide +kernel
theorem dX6_nameOf_85 : decode cX6_nameOf 85 = .ok (.ireturn, 1) := by decide +kernel
theorem dX6_nameOf_86 : decode cX6_nameOf 86 = .ok (.iload_n 1, 1) := by decide +kernel
theorem dX6_nameOf_87 : decode cX6_nameOf 87 = .ok (.bipush 100, 2) := by decide +kernel
theorem dX6_nameOf_89 : decode cX6_nameOf 89 = .ok (.if_icmp .ne 7, 3) := by decide +kernel
theorem dX6_nameOf_92 : decode cX6_nameOf 92 = .ok (.iconst 0, 1) := by decide +kernel
theorem dX6_nameOf_93 : decode cX6_nameOf 93 = .ok (.goto 14, 3) := by decide +kernel
theorem dX6_nameOf_96 : decode cX6_nameOf 96 = .ok (.iload_n 1, 1) := by decide +kernel
theorem dX6_nameOf_97 : decode cX6_nameOf 97 = .ok (.bipush 116, 2) := by decide +kernel
theorem dX6_nameOf_99 : decode cX6_nameOf 99 = .ok (.if_icmp .ne 7, 3) := by decide +kernel
theorem dX6_nameOf_102 : decode cX6_nameOf 102 = .ok (.iconst 1, 1) := by decide +kernel
theorem dX6_nameOf_103 : decode cX6_nameOf 103 = .ok (.goto 4, 3) := by decide +kernel
theorem dX6_nameOf_106 : decode cX6_nameOf 106 = .ok (.iconst (-1), 1) := by decide +kernel
theorem dX6_nameOf_107 : decode cX6_nameOf 107 = .ok (.ireturn, 1) := by decide +kernel
theorem dX6_rank_0 : decode cX6_rank 0 = .ok (.iload_n 0, 1) := by decide +kernel
theorem dX6_rank_1 : decode cX6_rank 1 = .ok (.iconst (-1), 1) := by decide +kernel
theorem dX6_rank_2 : decode cX6_rank 2 = .ok (.if_icmp .ne 7, 3) := by decide +kernel
theorem dX6_rank_5 : decode cX6_rank 5 = .ok (.iconst 1, 1) := by decide +kernel
theorem dX6_rank_6 : decode cX6_rank 6 = .ok (.goto 45, 3) := by decide +kernel
theorem dX6_rank_9 : decode cX6_rank 9 = .ok (.iload_n 0, 1) := by decide +kernel
theorem dX6_rank_10 : decode cX6_rank 10 = .ok (.bipush (-2), 2) := by decide +kernel
theorem dX6_rank_12 : decode cX6_rank 12 = .ok (.if_icmp .ne 7, 3) := by decide +kernel
theorem dX6_rank_15 : decode cX6_rank 15 = .ok (.iconst 2, 1) := by decide +kernel
theorem dX6_rank_16 : decode cX6_rank 16 = .ok (.goto 35, 3) := by decide +kernel
theorem dX6_rank_19 : decode cX6_rank 19 = .ok (.iload_n 0, 1) := by decide +kernel
theorem dX6_rank_20 : decode cX6_rank 20 = .ok (.bipush (-5), 2) := by decide +kernel
theorem dX6_rank_22 : decode cX6_rank 22 = .ok (.if_icmp .lt 7, 3) := by decide +kernel
theorem dX6_rank_25 : decode cX6_rank 25 = .ok (.iconst 3, 1) := by decide +kernel
theorem dX6_rank_26 : decode cX6_rank 26 = .ok (.goto 25, 3) := by decide +kernel
theorem dX6_rank_29 : decode cX6_rank 29 = .ok (.iload_n 0, 1) := by decide +kernel
theorem dX6_rank_30 : decode cX6_rank 30 = .ok (.bipush (-7), 2) := by decide +kernel
theorem dX6_rank_32 : decode cX6_rank 32 = .ok (.if_icmp .lt 7, 3) := by decide +kernel
theorem dX6_rank_35 : decode cX6_rank 35 = .ok (.iconst 4, 1) := by decide +kernel
theorem dX6_rank_36 : decode cX6_rank 36 = .ok (.goto 15, 3) := by decide +kernel
theorem dX6_rank_39 : decode cX6_rank 39 = .ok (.iload_n 0, 1) := by decide +kernel
theorem dX6_rank_40 : decode cX6_rank 40 = .ok (.bipush (-9), 2) := by decide +kernel
theorem dX6_rank_42 : decode cX6_rank 42 = .ok (.if_icmp .lt 7, 3) := by decide +kernel
theorem dX6_rank_45 : decode cX6_rank 45 = .ok (.iconst 5, 1) := by decide +kernel
theorem dX6_rank_46 : decode cX6_rank 46 = .ok (.goto 5, 3) := by decide +kernel
theorem dX6_rank_49 : decode cX6_rank 49 = .ok (.bipush 6, 2) := by decide +kernel
theorem dX6_rank_51 : decode cX6_rank 51 = .ok (.ireturn, 1) := by decide +kernel
theorem dX6_settle_0 : decode cX6_settle 0 = .ok (.aload_n 0, 1) := by decide +kernel
theorem dX6_settle_1 : decode cX6_settle 1 = .ok (.getfield 225, 3) := by decide +kernel
theorem dX6_settle_4 : decode cX6_settle 4 = .ok (.ifCond .le 78, 3) := by decide +kernel
theorem dX6_settle_7 : decode cX6_settle 7 = .ok (.aload_n 0, 1) := by decide +kernel
theorem dX6_settle_8 : decode cX6_settle 8 = .ok (.getfield 41, 3) := by decide +kernel
theorem dX6_settle_11 : decode cX6_settle 11 = .ok (.aload_n 0, 1) := by decide +kernel
theorem dX6_settle_12 : decode cX6_settle 12 = .ok (.getfield 225, 3) := by decide +kernel
theorem dX6_settle_15 : decode cX6_settle 15 = .ok (.iconst 1, 1) := by decide +kernel
theorem dX6_settle_16 : decode cX6_settle 16 = .ok (.isub, 1) := by decide +kernel
theorem dX6_settle_17 : decode cX6_settle 17 = .ok (.iaload, 1) := by decide +kernel
theorem dX6_settle_18 : decode cX6_settle 18 = .ok (.bipush (-11), 2) := by decide +kernel
theorem dX6_settle_20 : decode cX6_settle 20 = .ok (.if_icmp .eq 62, 3) := by decide +kernel
theorem dX6_settle_23 : decode cX6_settle 23 = .ok (.aload_n 0, 1) := by decide +kernel
theorem dX6_settle_24 : decode cX6_settle 24 = .ok (.getfield 41, 3) := by decide +kernel
theorem dX6_settle_27 : decode cX6_settle 27 = .ok (.aload_n 0, 1) := by decide +kernel
theorem dX6_settle_28 : decode cX6_settle 28 = .ok (.getfield 225, 3) := by decide +kernel
theorem dX6_settle_31 : decode cX6_settle 31 = .ok (.iconst 1, 1) := by decide +kernel
theorem dX6_settle_32 : decode cX6_settle 32 = .ok (.isub, 1) := by decide +kernel
theorem dX6_settle_33 : decode cX6_settle 33 = .ok (.iaload, 1) := by decide +kernel
theorem dX6_settle_34 : decode cX6_settle 34 = .ok (.invokestatic 228, 3) := by decide +kernel
theorem dX6_settle_37 : decode cX6_settle 37 = .ok (.iload_n 1, 1) := by decide +kernel
theorem dX6_settle_38 : decode cX6_settle 38 = .ok (.if_icmp .lt 44, 3) := by decide +kernel
theorem dX6_settle_41 : decode cX6_settle 41 = .ok (.aload_n 0, 1) := by decide +kernel
theorem dX6_settle_42 : decode cX6_settle 42 = .ok (.dup, 1) := by decide +kernel
theorem dX6_settle_43 : decode cX6_settle 43 = .ok (.getfield 225, 3) := by decide +kernel
theorem dX6_settle_46 : decode cX6_settle 46 = .ok (.iconst 1, 1) := by decide +kernel
theorem dX6_settle_47 : decode cX6_settle 47 = .ok (.isub, 1) := by decide +kernel
theorem dX6_settle_48 : decode cX6_settle 48 = .ok (.putfield 225, 3) := by decide +kernel
theorem dX6_settle_51 : decode cX6_settle 51 = .ok (.aload_n 0, 1) := by decide +kernel
theorem dX6_settle_52 : decode cX6_settle 52 = .ok (.getfield 38, 3) := by decide +kernel
theorem dX6_settle_55 : decode cX6_settle 55 = .ok (.aload_n 0, 1) := by decide +kernel
theorem dX6_settle_56 : decode cX6_settle 56 = .ok (.getfield 231, 3) := by decide +kernel
theorem dX6_settle_59 : decode cX6_settle 59 = .ok (.aload_n 0, 1) := by decide +kernel
theorem dX6_settle_60 : decode cX6_settle 60 = .ok (.getfield 41, 3) := by decide +kernel
theorem dX6_settle_63 : decode cX6_settle 63 = .ok (.aload_n 0, 1) := by decide +kernel
theorem dX6_settle_64 : decode cX6_settle 64 = .ok (.getfield 225, 3) := by decide +kernel
theorem dX6_settle_67 : decode cX6_settle 67 = .ok (.iaload, 1) := by decide +kernel
theorem dX6_settle_68 : decode cX6_settle 68 = .ok (.iastore, 1) := by decide +kernel
theorem dX6_settle_69 : decode cX6_settle 69 = .ok (.aload_n 0, 1) := by decide +kernel
theorem dX6_settle_70 : decode cX6_settle 70 = .ok (.dup, 1) := by decide +kernel
theorem dX6_settle_71 : decode cX6_settle 71 = .ok (.getfield 231, 3) := by decide +kernel
theorem dX6_settle_74 : decode cX6_settle 74 = .ok (.iconst 1, 1) := by decide +kernel
theorem dX6_settle_75 : decode cX6_settle 75 = .ok (.iadd, 1) := by decide +kernel
theorem dX6_settle_76 : decode cX6_settle 76 = .ok (.putfield 231, 3) := by decide +kernel
theorem dX6_settle_79 : decode cX6_settle 79 = .ok (.goto (-79), 3) := by decide +kernel
theorem dX6_settle_82 : decode cX6_settle 82 = .ok (.return_, 1) := by decide +kernel
theorem dX6_signHere_0 : decode cX6_signHere 0 = .ok (.aload_n 0, 1) := by decide +kernel
theorem dX6_signHere_1 : decode cX6_signHere 1 = .ok (.getfield 207, 3) := by decide +kernel
theorem dX6_signHere_4 : decode cX6_signHere 4 = .ok (.iconst 3, 1) := by decide +kernel
theorem dX6_signHere_5 : decode cX6_signHere 5 = .ok (.if_icmp .eq 5, 3) := by decide +kernel
theorem dX6_signHere_8 : decode cX6_signHere 8 = .ok (.iconst 0, 1) := by decide +kernel
theorem dX6_signHere_9 : decode cX6_signHere 9 = .ok (.ireturn, 1) := by decide +kernel
theorem dX6_signHere_10 : decode cX6_signHere 10 = .ok (.aload_n 0, 1) := by decide +kernel
theorem dX6_signHere_11 : decode cX6_signHere 11 = .ok (.getfield 213, 3) := by decide +kernel
theorem dX6_signHere_14 : decode cX6_signHere 14 = .ok (.lookupswitch 108 #[(38, 84), (42, 102), (43, 96), (45, 99), (47, 105), (60, 87), (61, 90), (62, 93), (124, 82)], 82) := by decide +kernel
theorem dX6_signHere_96 : decode cX6_signHere 96 = .ok (.iconst (-1), 1) := by decide +kernel
theorem dX6_signHere_97 : decode cX6_signHere 97 = .ok (.ireturn, 1) := by decide +kernel
theorem dX6_signHere_98 : decode cX6_signHere 98 = .ok (.bipush (-2), 2) := by decide +kernel
theorem dX6_signHere_100 : decode cX6_signHere 100 = .ok (.ireturn, 1) := by decide +kernel
theorem dX6_signHere_101 : decode cX6_signHere 101 = .ok (.bipush (-3), 2) := by decide +kernel
theorem dX6_signHere_103 : decode cX6_signHere 103 = .ok (.ireturn, 1) := by decide +kernel
theorem dX6_signHere_104 : decode cX6_signHere 104 = .ok (.bipush (-4), 2) := by decide +kernel
theorem dX6_signHere_106 : decode cX6_signHere 106 = .ok (.ireturn, 1) := by decide +kernel
theorem dX6_signHere_107 : decode cX6_signHere 107 = .ok (.bipush (-5), 2) := by decide +kernel
theorem dX6_signHere_109 : decode cX6_signHere 109 = .ok (.ireturn, 1) := by decide +kernel
theorem dX6_signHere_110 : decode cX6_signHere 110 = .ok (.bipush (-6), 2) := by decide +kernel
theorem dX6_signHere_112 : decode cX6_signHere 112 = .ok (.ireturn, 1) := by decide +kernel
theorem dX6_signHere_113 : decode cX6_signHere 113 = .ok (.bipush (-7), 2) := by decide +kernel
theorem dX6_signHere_115 : decode cX6_signHere 115 = .ok (.ireturn, 1) := by decide +kernel
theorem dX6_signHere_116 : decode cX6_signHere 116 = .ok (.bipush (-8), 2) := by decide +kernel
theorem dX6_signHere_118 : decode cX6_signHere 118 = .ok (.ireturn, 1) := by decide +kernel
theorem dX6_signHere_119 : decode cX6_signHere 119 = .ok (.bipush (-9), 2) := by decide +kernel
theorem dX6_signHere_121 : decode cX6_signHere 121 = .ok (.ireturn, 1) := by decide +kernel
theorem dX6_signHere_122 : decode cX6_signHere 122 = .ok (.iconst 0, 1) := by decide +kernel
theorem dX6_signHere_123 : decode cX6_signHere 123 = .ok (.ireturn, 1) := by decide +kernel
theorem dX6_takesPart_0 : decode cX6_takesPart 0 = .ok (.aload_n 0, 1) := by decide +kernel
theorem dX6_takesPart_1 : decode cX6_takesPart 1 = .ok (.getfield 207, 3) := by decide +kernel
theorem dX6_takesPart_4 : decode cX6_takesPart 4 = .ok (.iconst 1, 1) := by decide +kernel
theorem dX6_takesPart_5 : decode cX6_takesPart 5 = .ok (.if_icmp .ne 31, 3) := by decide +kernel
theorem dX6_takesPart_8 : decode cX6_takesPart 8 = .ok (.aload_n 0, 1) := by decide +kernel
theorem dX6_takesPart_9 : decode cX6_takesPart 9 = .ok (.getfield 198, 3) := by decide +kernel
theorem dX6_takesPart_12 : decode cX6_takesPart 12 = .ok (.aload_n 0, 1) := by decide +kernel
theorem dX6_takesPart_13 : decode cX6_takesPart 13 = .ok (.getfield 201, 3) := by decide +kernel
theorem dX6_takesPart_16 : decode cX6_takesPart 16 = .ok (.isub, 1) := by decide +kernel
theorem dX6_takesPart_17 : decode cX6_takesPart 17 = .ok (.iconst 1, 1) := by decide +kernel
theorem dX6_takesPart_18 : decode cX6_takesPart 18 = .ok (.if_icmp .ne 18, 3) := by decide +kernel
theorem dX6_takesPart_21 : decode cX6_takesPart 21 = .ok (.aload_n 0, 1) := by decide +kernel
theorem dX6_takesPart_22 : decode cX6_takesPart 22 = .ok (.aload_n 0, 1) := by decide +kernel
theorem dX6_takesPart_23 : decode cX6_takesPart 23 = .ok (.getfield 213, 3) := by decide +kernel
theorem dX6_takesPart_26 : decode cX6_takesPart 26 = .ok (.invokevirtual 234, 3) := by decide +kernel
theorem dX6_takesPart_29 : decode cX6_takesPart 29 = .ok (.ifCond .lt 7, 3) := by decide +kernel
theorem dX6_takesPart_32 : decode cX6_takesPart 32 = .ok (.iconst 1, 1) := by decide +kernel
theorem dX6_takesPart_33 : decode cX6_takesPart 33 = .ok (.goto 4, 3) := by decide +kernel
theorem dX6_takesPart_36 : decode cX6_takesPart 36 = .ok (.iconst 0, 1) := by decide +kernel
theorem dX6_takesPart_37 : decode cX6_takesPart 37 = .ok (.istore_n 1, 1) := by decide +kernel
theorem dX6_takesPart_38 : decode cX6_takesPart 38 = .ok (.aload_n 0, 1) := by decide +kernel
theorem dX6_takesPart_39 : decode cX6_takesPart 39 = .ok (.getfield 207, 3) := by decide +kernel
theorem dX6_takesPart_42 : decode cX6_takesPart 42 = .ok (.iconst 2, 1) := by decide +kernel
theorem dX6_takesPart_43 : decode cX6_takesPart 43 = .ok (.if_icmp .eq 9, 3) := by decide +kernel
theorem dX6_takesPart_46 : decode cX6_takesPart 46 = .ok (.iload_n 1, 1) := by decide +kernel
theorem dX6_takesPart_47 : decode cX6_takesPart 47 = .ok (.ifCond .ne 5, 3) := by decide +kernel
theorem dX6_takesPart_50 : decode cX6_takesPart 50 = .ok (.iconst 0, 1) := by decide +kernel
theorem dX6_takesPart_51 : decode cX6_takesPart 51 = .ok (.ireturn, 1) := by decide +kernel
theorem dX6_takesPart_52 : decode cX6_takesPart 52 = .ok (.aload_n 0, 1) := by decide +kernel
theorem dX6_takesPart_53 : decode cX6_takesPart 53 = .ok (.getfield 38, 3) := by decide +kernel
theorem dX6_takesPart_56 : decode cX6_takesPart 56 = .ok (.aload_n 0, 1) := by decide +kernel
theorem dX6_takesPart_57 : decode cX6_takesPart 57 = .ok (.getfield 231, 3) := by decide +kernel
theorem dX6_takesPart_60 : decode cX6_takesPart 60 = .ok (.aload_n 0, 1) := by decide +kernel
theorem dX6_takesPart_61 : decode cX6_takesPart 61 = .ok (.getfield 207, 3) := by decide +kernel
theorem dX6_takesPart_64 : decode cX6_takesPart 64 = .ok (.iconst 2, 1) := by decide +kernel
theorem dX6_takesPart_65 : decode cX6_takesPart 65 = .ok (.if_icmp .ne 10, 3) := by decide +kernel
theorem dX6_takesPart_68 : decode cX6_takesPart 68 = .ok (.aload_n 0, 1) := by decide +kernel
theorem dX6_takesPart_69 : decode cX6_takesPart 69 = .ok (.getfield 213, 3) := by decide +kernel
theorem dX6_takesPart_72 : decode cX6_takesPart 72 = .ok (.goto 15, 3) := by decide +kernel
theorem dX6_takesPart_75 : decode cX6_takesPart 75 = .ok (.sipush 10000, 3) := by decide +kernel
theorem dX6_takesPart_78 : decode cX6_takesPart 78 = .ok (.aload_n 0, 1) := by decide +kernel
theorem dX6_takesPart_79 : decode cX6_takesPart 79 = .ok (.aload_n 0, 1) := by decide +kernel
theorem dX6_takesPart_80 : decode cX6_takesPart 80 = .ok (.getfield 213, 3) := by decide +kernel
theorem dX6_takesPart_83 : decode cX6_takesPart 83 = .ok (.invokevirtual 234, 3) := by decide +kernel
theorem dX6_takesPart_86 : decode cX6_takesPart 86 = .ok (.iadd, 1) := by decide +kernel
theorem dX6_takesPart_87 : decode cX6_takesPart 87 = .ok (.iastore, 1) := by decide +kernel
theorem dX6_takesPart_88 : decode cX6_takesPart 88 = .ok (.aload_n 0, 1) := by decide +kernel
theorem dX6_takesPart_89 : decode cX6_takesPart 89 = .ok (.dup, 1) := by decide +kernel
theorem dX6_takesPart_90 : decode cX6_takesPart 90 = .ok (.getfield 231, 3) := by decide +kernel
theorem dX6_takesPart_93 : decode cX6_takesPart 93 = .ok (.iconst 1, 1) := by decide +kernel
theorem dX6_takesPart_94 : decode cX6_takesPart 94 = .ok (.iadd, 1) := by decide +kernel
theorem dX6_takesPart_95 : decode cX6_takesPart 95 = .ok (.putfield 231, 3) := by decide +kernel
theorem dX6_takesPart_98 : decode cX6_takesPart 98 = .ok (.aload_n 0, 1) := by decide +kernel
theorem dX6_takesPart_99 : decode cX6_takesPart 99 = .ok (.dup, 1) := by decide +kernel
theorem dX6_takesPart_100 : decode cX6_takesPart 100 = .ok (.getfield 237, 3) := by decide +kernel
theorem dX6_takesPart_103 : decode cX6_takesPart 103 = .ok (.iconst 1, 1) := by decide +kernel
theorem dX6_takesPart_104 : decode cX6_takesPart 104 = .ok (.iadd, 1) := by decide +kernel
theorem dX6_takesPart_105 : decode cX6_takesPart 105 = .ok (.putfield 237, 3) := by decide +kernel
theorem dX6_takesPart_108 : decode cX6_takesPart 108 = .ok (.aload_n 0, 1) := by decide +kernel
theorem dX6_takesPart_109 : decode cX6_takesPart 109 = .ok (.bipush 6, 2) := by decide +kernel
theorem dX6_takesPart_111 : decode cX6_takesPart 111 = .ok (.invokevirtual 240, 3) := by decide +kernel
theorem dX6_takesPart_114 : decode cX6_takesPart 114 = .ok (.aload_n 0, 1) := by decide +kernel
theorem dX6_takesPart_115 : decode cX6_takesPart 115 = .ok (.invokevirtual 222, 3) := by decide +kernel
theorem dX6_takesPart_118 : decode cX6_takesPart 118 = .ok (.iconst 1, 1) := by decide +kernel
theorem dX6_takesPart_119 : decode cX6_takesPart 119 = .ok (.ireturn, 1) := by decide +kernel
theorem dX6_takesE_0 : decode cX6_takesE 0 = .ok (.iconst 0, 1) := by decide +kernel
theorem dX6_takesE_1 : decode cX6_takesE 1 = .ok (.istore_n 1, 1) := by decide +kernel
theorem dX6_takesE_2 : decode cX6_takesE 2 = .ok (.iconst 0, 1) := by decide +kernel
theorem dX6_takesE_3 : decode cX6_takesE 3 = .ok (.istore_n 2, 1) := by decide +kernel
theorem dX6_takesE_4 : decode cX6_takesE 4 = .ok (.iconst 1, 1) := by decide +kernel
theorem dX6_takesE_5 : decode cX6_takesE 5 = .ok (.istore_n 3, 1) := by decide +kernel
theorem dX6_takesE_6 : decode cX6_takesE 6 = .ok (.aload_n 0, 1) := by decide +kernel
theorem dX6_takesE_7 : decode cX6_takesE 7 = .ok (.iconst 0, 1) := by decide +kernel
theorem dX6_takesE_8 : decode cX6_takesE 8 = .ok (.putfield 231, 3) := by decide +kernel
theorem dX6_takesE_11 : decode cX6_takesE 11 = .ok (.aload_n 0, 1) := by decide +kernel
theorem dX6_takesE_12 : decode cX6_takesE 12 = .ok (.iconst 0, 1) := by decide +kernel
theorem dX6_takesE_13 : decode cX6_takesE 13 = .ok (.putfield 237, 3) := by decide +kernel
theorem dX6_takesE_16 : decode cX6_takesE 16 = .ok (.aload_n 0, 1) := by decide +kernel
theorem dX6_takesE_17 : decode cX6_takesE 17 = .ok (.iconst 0, 1) := by decide +kernel
theorem dX6_takesE_18 : decode cX6_takesE 18 = .ok (.putfield 225, 3) := by decide +kernel
theorem dX6_takesE_21 : decode cX6_takesE 21 = .ok (.aload_n 0, 1) := by decide +kernel
theorem dX6_takesE_22 : decode cX6_takesE 22 = .ok (.getfield 44, 3) := by decide +kernel
theorem dX6_takesE_25 : decode cX6_takesE 25 = .ok (.iconst 0, 1) := by decide +kernel
theorem dX6_takesE_26 : decode cX6_takesE 26 = .ok (.iconst 0, 1) := by decide +kernel
theorem dX6_takesE_27 : decode cX6_takesE 27 = .ok (.bastore, 1) := by decide +kernel
theorem dX6_takesE_28 : decode cX6_takesE 28 = .ok (.iload_n 3, 1) := by decide +kernel
theorem dX6_takesE_29 : decode cX6_takesE 29 = .ok (.ifCond .ne 10, 3) := by decide +kernel
theorem dX6_takesE_32 : decode cX6_takesE 32 = .ok (.aload_n 0, 1) := by decide +kernel
theorem dX6_takesE_33 : decode cX6_takesE 33 = .ok (.getfield 207, 3) := by decide +kernel
theorem dX6_takesE_36 : decode cX6_takesE 36 = .ok (.ifCond .eq 309, 3) := by decide +kernel
theorem dX6_takesE_39 : decode cX6_takesE 39 = .ok (.iload_n 3, 1) := by decide +kernel
theorem dX6_takesE_40 : decode cX6_takesE 40 = .ok (.ifCond .eq 140, 3) := by decide +kernel
theorem dX6_takesE_43 : decode cX6_takesE 43 = .ok (.aload_n 0, 1) := by decide +kernel
theorem dX6_takesE_44 : decode cX6_takesE 44 = .ok (.getfield 207, 3) := by decide +kernel
theorem dX6_takesE_47 : decode cX6_takesE 47 = .ok (.iconst 3, 1) := by decide +kernel
theorem dX6_takesE_48 : decode cX6_takesE 48 = .ok (.if_icmp .ne 49, 3) := by decide +kernel
theorem dX6_takesE_51 : decode cX6_takesE 51 = .ok (.aload_n 0, 1) := by decide +kernel
theorem dX6_takesE_52 : decode cX6_takesE 52 = .ok (.getfield 213, 3) := by decide +kernel
theorem dX6_takesE_55 : decode cX6_takesE 55 = .ok (.bipush 33, 2) := by decide +kernel
theorem dX6_takesE_57 : decode cX6_takesE 57 = .ok (.if_icmp .ne 40, 3) := by decide +kernel
theorem dX6_takesE_60 : decode cX6_takesE 60 = .ok (.iload_n 2, 1) := by decide +kernel
theorem dX6_takesE_61 : decode cX6_takesE 61 = .ok (.bipush 8, 2) := by decide +kernel
theorem dX6_takesE_63 : decode cX6_takesE 63 = .ok (.if_icmp .ge 34, 3) := by decide +kernel
theorem dX6_takesE_66 : decode cX6_takesE 66 = .ok (.aload_n 0, 1) := by decide +kernel
theorem dX6_takesE_67 : decode cX6_takesE 67 = .ok (.getfield 41, 3) := by decide +kernel
theorem dX6_takesE_70 : decode cX6_takesE 70 = .ok (.aload_n 0, 1) := by decide +kernel
theorem dX6_takesE_71 : decode cX6_takesE 71 = .ok (.getfield 225, 3) := by decide +kernel
theorem dX6_takesE_74 : decode cX6_takesE 74 = .ok (.bipush (-10), 2) := by decide +kernel
theorem dX6_takesE_76 : decode cX6_takesE 76 = .ok (.iastore, 1) := by decide +kernel
theorem dX6_takesE_77 : decode cX6_takesE 77 = .ok (.aload_n 0, 1) := by decide +kernel
theorem dX6_takesE_78 : decode cX6_takesE 78 = .ok (.dup, 1) := by decide +kernel
theorem dX6_takesE_79 : decode cX6_takesE 79 = .ok (.getfield 225, 3) := by decide +kernel
theorem dX6_takesE_82 : decode cX6_takesE 82 = .ok (.iconst 1, 1) := by decide +kernel
theorem dX6_takesE_83 : decode cX6_takesE 83 = .ok (.iadd, 1) := by decide +kernel
theorem dX6_takesE_84 : decode cX6_takesE 84 = .ok (.putfield 225, 3) := by decide +kernel
theorem dX6_takesE_87 : decode cX6_takesE 87 = .ok (.iinc 2 1, 3) := by decide +kernel
theorem dX6_takesE_90 : decode cX6_takesE 90 = .ok (.aload_n 0, 1) := by decide +kernel
theorem dX6_takesE_91 : decode cX6_takesE 91 = .ok (.invokevirtual 222, 3) := by decide +kernel
theorem dX6_takesE_94 : decode cX6_takesE 94 = .ok (.goto 78, 3) := by decide +kernel
theorem dX6_takesE_97 : decode cX6_takesE 97 = .ok (.aload_n 0, 1) := by decide +kernel
theorem dX6_takesE_98 : decode cX6_takesE 98 = .ok (.getfield 207, 3) := by decide +kernel
theorem dX6_takesE_101 : decode cX6_takesE 101 = .ok (.iconst 3, 1) := by decide +kernel
theorem dX6_takesE_102 : decode cX6_takesE 102 = .ok (.if_icmp .ne 56, 3) := by decide +kernel
theorem dX6_takesE_105 : decode cX6_takesE 105 = .ok (.aload_n 0, 1) := by decide +kernel
theorem dX6_takesE_106 : decode cX6_takesE 106 = .ok (.getfield 213, 3) := by decide +kernel
theorem dX6_takesE_109 : decode cX6_takesE 109 = .ok (.bipush 40, 2) := by decide +kernel
theorem dX6_takesE_111 : decode cX6_takesE 111 = .ok (.if_icmp .ne 47, 3) := by decide +kernel
theorem dX6_takesE_114 : decode cX6_takesE 114 = .ok (.iload_n 1, 1) := by decide +kernel
theorem dX6_takesE_115 : decode cX6_takesE 115 = .ok (.bipush 8, 2) := by decide +kernel
theorem dX6_takesE_117 : decode cX6_takesE 117 = .ok (.if_icmp .ge 41, 3) := by decide +kernel
theorem dX6_takesE_120 : decode cX6_takesE 120 = .ok (.aload_n 0, 1) := by decide +kernel
theorem dX6_takesE_121 : decode cX6_takesE 121 = .ok (.getfield 41, 3) := by decide +kernel
theorem dX6_takesE_124 : decode cX6_takesE 124 = .ok (.aload_n 0, 1) := by decide +kernel
theorem dX6_takesE_125 : decode cX6_takesE 125 = .ok (.getfield 225, 3) := by decide +kernel
theorem dX6_takesE_128 : decode cX6_takesE 128 = .ok (.bipush (-11), 2) := by decide +kernel
theorem dX6_takesE_130 : decode cX6_takesE 130 = .ok (.iastore, 1) := by decide +kernel
theorem dX6_takesE_131 : decode cX6_takesE 131 = .ok (.aload_n 0, 1) := by decide +kernel
