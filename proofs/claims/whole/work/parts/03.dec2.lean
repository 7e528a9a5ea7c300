theorem dX5_pour_68 : decode cX5_pour 68 = .ok (.iaload, 1) := by decide +kernel
theorem dX5_pour_69 : decode cX5_pour 69 = .ok (.ldc 126, 2) := by decide +kernel
theorem dX5_pour_71 : decode cX5_pour 71 = .ok (.invokestatic 260, 3) := by decide +kernel
theorem dX5_pour_74 : decode cX5_pour 74 = .ok (.istore 5, 2) := by decide +kernel
theorem dX5_pour_76 : decode cX5_pour 76 = .ok (.iload_n 3, 1) := by decide +kernel
theorem dX5_pour_77 : decode cX5_pour 77 = .ok (.aload_n 0, 1) := by decide +kernel
theorem dX5_pour_78 : decode cX5_pour 78 = .ok (.getfield 21, 3) := by decide +kernel
theorem dX5_pour_81 : decode cX5_pour 81 = .ok (.getfield 88, 3) := by decide +kernel
theorem dX5_pour_84 : decode cX5_pour 84 = .ok (.iload 4, 2) := by decide +kernel
theorem dX5_pour_86 : decode cX5_pour 86 = .ok (.iaload, 1) := by decide +kernel
theorem dX5_pour_87 : decode cX5_pour 87 = .ok (.iload 5, 2) := by decide +kernel
theorem dX5_pour_89 : decode cX5_pour 89 = .ok (.if_icmp .ne 7, 3) := by decide +kernel
theorem dX5_pour_92 : decode cX5_pour 92 = .ok (.iconst 0, 1) := by decide +kernel
theorem dX5_pour_93 : decode cX5_pour 93 = .ok (.goto 4, 3) := by decide +kernel
theorem dX5_pour_96 : decode cX5_pour 96 = .ok (.iconst 1, 1) := by decide +kernel
theorem dX5_pour_97 : decode cX5_pour 97 = .ok (.iadd, 1) := by decide +kernel
theorem dX5_pour_98 : decode cX5_pour 98 = .ok (.istore_n 3, 1) := by decide +kernel
theorem dX5_pour_99 : decode cX5_pour 99 = .ok (.aload_n 0, 1) := by decide +kernel
theorem dX5_pour_100 : decode cX5_pour 100 = .ok (.getfield 21, 3) := by decide +kernel
theorem dX5_pour_103 : decode cX5_pour 103 = .ok (.getfield 88, 3) := by decide +kernel
theorem dX5_pour_106 : decode cX5_pour 106 = .ok (.iload 4, 2) := by decide +kernel
theorem dX5_pour_108 : decode cX5_pour 108 = .ok (.iload 5, 2) := by decide +kernel
theorem dX5_pour_110 : decode cX5_pour 110 = .ok (.iastore, 1) := by decide +kernel
theorem dX5_pour_111 : decode cX5_pour 111 = .ok (.iinc 4 1, 3) := by decide +kernel
theorem dX5_pour_114 : decode cX5_pour 114 = .ok (.goto (-82), 3) := by decide +kernel
theorem dX5_pour_117 : decode cX5_pour 117 = .ok (.iload_n 3, 1) := by decide +kernel
theorem dX5_pour_118 : decode cX5_pour 118 = .ok (.ireturn, 1) := by decide +kernel
theorem dX5_reads_0 : decode cX5_reads 0 = .ok (.iload_n 1, 1) := by decide +kernel
theorem dX5_reads_1 : decode cX5_reads 1 = .ok (.invokestatic 195, 3) := by decide +kernel
theorem dX5_reads_4 : decode cX5_reads 4 = .ok (.ifCond .ne 6, 3) := by decide +kernel
theorem dX5_reads_7 : decode cX5_reads 7 = .ok (.ldc 71, 2) := by decide +kernel
theorem dX5_reads_9 : decode cX5_reads 9 = .ok (.ireturn, 1) := by decide +kernel
theorem dX5_reads_10 : decode cX5_reads 10 = .ok (.aload_n 0, 1) := by decide +kernel
theorem dX5_reads_11 : decode cX5_reads 11 = .ok (.getfield 43, 3) := by decide +kernel
theorem dX5_reads_14 : decode cX5_reads 14 = .ok (.iload_n 1, 1) := by decide +kernel
theorem dX5_reads_15 : decode cX5_reads 15 = .ok (.aaload, 1) := by decide +kernel
theorem dX5_reads_16 : decode cX5_reads 16 = .ok (.astore_n 2, 1) := by decide +kernel
theorem dX5_reads_17 : decode cX5_reads 17 = .ok (.aload_n 2, 1) := by decide +kernel
theorem dX5_reads_18 : decode cX5_reads 18 = .ok (.invokevirtual 198, 3) := by decide +kernel
theorem dX5_reads_21 : decode cX5_reads 21 = .ok (.ifCond .eq 6, 3) := by decide +kernel
theorem dX5_reads_24 : decode cX5_reads 24 = .ok (.ldc 202, 2) := by decide +kernel
theorem dX5_reads_26 : decode cX5_reads 26 = .ok (.ireturn, 1) := by decide +kernel
theorem dX5_reads_27 : decode cX5_reads 27 = .ok (.aload_n 0, 1) := by decide +kernel
theorem dX5_reads_28 : decode cX5_reads 28 = .ok (.getfield 28, 3) := by decide +kernel
theorem dX5_reads_31 : decode cX5_reads 31 = .ok (.aload_n 0, 1) := by decide +kernel
theorem dX5_reads_32 : decode cX5_reads 32 = .ok (.getfield 21, 3) := by decide +kernel
theorem dX5_reads_35 : decode cX5_reads 35 = .ok (.invokevirtual 171, 3) := by decide +kernel
theorem dX5_reads_38 : decode cX5_reads 38 = .ok (.iconst 0, 1) := by decide +kernel
theorem dX5_reads_39 : decode cX5_reads 39 = .ok (.istore_n 3, 1) := by decide +kernel
theorem dX5_reads_40 : decode cX5_reads 40 = .ok (.iload_n 3, 1) := by decide +kernel
theorem dX5_reads_41 : decode cX5_reads 41 = .ok (.aload_n 2, 1) := by decide +kernel
theorem dX5_reads_42 : decode cX5_reads 42 = .ok (.getfield 207, 3) := by decide +kernel
theorem dX5_reads_45 : decode cX5_reads 45 = .ok (.if_icmp .ge 42, 3) := by decide +kernel
theorem dX5_reads_48 : decode cX5_reads 48 = .ok (.aload_n 2, 1) := by decide +kernel
theorem dX5_reads_49 : decode cX5_reads 49 = .ok (.iload_n 3, 1) := by decide +kernel
theorem dX5_reads_50 : decode cX5_reads 50 = .ok (.invokevirtual 210, 3) := by decide +kernel
theorem dX5_reads_53 : decode cX5_reads 53 = .ok (.ifCond .eq 21, 3) := by decide +kernel
theorem dX5_reads_56 : decode cX5_reads 56 = .ok (.aload_n 2, 1) := by decide +kernel
theorem dX5_reads_57 : decode cX5_reads 57 = .ok (.getfield 213, 3) := by decide +kernel
theorem dX5_reads_60 : decode cX5_reads 60 = .ok (.iload_n 3, 1) := by decide +kernel
theorem dX5_reads_61 : decode cX5_reads 61 = .ok (.iaload, 1) := by decide +kernel
theorem dX5_reads_62 : decode cX5_reads 62 = .ok (.aload_n 0, 1) := by decide +kernel
theorem dX5_reads_63 : decode cX5_reads 63 = .ok (.getfield 28, 3) := by decide +kernel
theorem dX5_reads_66 : decode cX5_reads 66 = .ok (.invokevirtual 151, 3) := by decide +kernel
theorem dX5_reads_69 : decode cX5_reads 69 = .ok (.if_icmp .eq 5, 3) := by decide +kernel
theorem dX5_reads_72 : decode cX5_reads 72 = .ok (.iload_n 3, 1) := by decide +kernel
theorem dX5_reads_73 : decode cX5_reads 73 = .ok (.ireturn, 1) := by decide +kernel
theorem dX5_reads_74 : decode cX5_reads 74 = .ok (.aload_n 0, 1) := by decide +kernel
theorem dX5_reads_75 : decode cX5_reads 75 = .ok (.getfield 28, 3) := by decide +kernel
theorem dX5_reads_78 : decode cX5_reads 78 = .ok (.invokevirtual 192, 3) := by decide +kernel
theorem dX5_reads_81 : decode cX5_reads 81 = .ok (.iinc 3 1, 3) := by decide +kernel
theorem dX5_reads_84 : decode cX5_reads 84 = .ok (.goto (-44), 3) := by decide +kernel
theorem dX5_reads_87 : decode cX5_reads 87 = .ok (.ldc 178, 2) := by decide +kernel
theorem dX5_reads_89 : decode cX5_reads 89 = .ok (.ireturn, 1) := by decide +kernel
theorem dX5_copy_0 : decode cX5_copy 0 = .ok (.iload_n 1, 1) := by decide +kernel
theorem dX5_copy_1 : decode cX5_copy 1 = .ok (.invokestatic 195, 3) := by decide +kernel
theorem dX5_copy_4 : decode cX5_copy 4 = .ok (.ifCond .eq 10, 3) := by decide +kernel
theorem dX5_copy_7 : decode cX5_copy 7 = .ok (.iload_n 3, 1) := by decide +kernel
theorem dX5_copy_8 : decode cX5_copy 8 = .ok (.invokestatic 195, 3) := by decide +kernel
theorem dX5_copy_11 : decode cX5_copy 11 = .ok (.ifCond .ne 6, 3) := by decide +kernel
theorem dX5_copy_14 : decode cX5_copy 14 = .ok (.ldc 71, 2) := by decide +kernel
theorem dX5_copy_16 : decode cX5_copy 16 = .ok (.ireturn, 1) := by decide +kernel
theorem dX5_copy_17 : decode cX5_copy 17 = .ok (.aload_n 0, 1) := by decide +kernel
theorem dX5_copy_18 : decode cX5_copy 18 = .ok (.getfield 43, 3) := by decide +kernel
theorem dX5_copy_21 : decode cX5_copy 21 = .ok (.iload_n 1, 1) := by decide +kernel
theorem dX5_copy_22 : decode cX5_copy 22 = .ok (.aaload, 1) := by decide +kernel
theorem dX5_copy_23 : decode cX5_copy 23 = .ok (.astore 6, 2) := by decide +kernel
theorem dX5_copy_25 : decode cX5_copy 25 = .ok (.aload_n 0, 1) := by decide +kernel
theorem dX5_copy_26 : decode cX5_copy 26 = .ok (.getfield 43, 3) := by decide +kernel
theorem dX5_copy_29 : decode cX5_copy 29 = .ok (.iload_n 3, 1) := by decide +kernel
theorem dX5_copy_30 : decode cX5_copy 30 = .ok (.aaload, 1) := by decide +kernel
theorem dX5_copy_31 : decode cX5_copy 31 = .ok (.astore 7, 2) := by decide +kernel
theorem dX5_copy_33 : decode cX5_copy 33 = .ok (.aload 6, 2) := by decide +kernel
theorem dX5_copy_35 : decode cX5_copy 35 = .ok (.invokevirtual 198, 3) := by decide +kernel
theorem dX5_copy_38 : decode cX5_copy 38 = .ok (.ifCond .ne 11, 3) := by decide +kernel
theorem dX5_copy_41 : decode cX5_copy 41 = .ok (.aload 7, 2) := by decide +kernel
theorem dX5_copy_43 : decode cX5_copy 43 = .ok (.invokevirtual 198, 3) := by decide +kernel
theorem dX5_copy_46 : decode cX5_copy 46 = .ok (.ifCond .eq 6, 3) := by decide +kernel
theorem dX5_copy_49 : decode cX5_copy 49 = .ok (.ldc 202, 2) := by decide +kernel
theorem dX5_copy_51 : decode cX5_copy 51 = .ok (.ireturn, 1) := by decide +kernel
theorem dX5_copy_52 : decode cX5_copy 52 = .ok (.aload 6, 2) := by decide +kernel
theorem dX5_copy_54 : decode cX5_copy 54 = .ok (.getfield 256, 3) := by decide +kernel
theorem dX5_copy_57 : decode cX5_copy 57 = .ok (.aload 7, 2) := by decide +kernel
theorem dX5_copy_59 : decode cX5_copy 59 = .ok (.getfield 256, 3) := by decide +kernel
theorem dX5_copy_62 : decode cX5_copy 62 = .ok (.if_icmp .eq 6, 3) := by decide +kernel
theorem dX5_copy_65 : decode cX5_copy 65 = .ok (.ldc 121, 2) := by decide +kernel
theorem dX5_copy_67 : decode cX5_copy 67 = .ok (.ireturn, 1) := by decide +kernel
theorem dX5_copy_68 : decode cX5_copy 68 = .ok (.aload 6, 2) := by decide +kernel
theorem dX5_copy_70 : decode cX5_copy 70 = .ok (.iload_n 2, 1) := by decide +kernel
theorem dX5_copy_71 : decode cX5_copy 71 = .ok (.iload 5, 2) := by decide +kernel
theorem dX5_copy_73 : decode cX5_copy 73 = .ok (.invokevirtual 263, 3) := by decide +kernel
theorem dX5_copy_76 : decode cX5_copy 76 = .ok (.ifCond .eq 15, 3) := by decide +kernel
theorem dX5_copy_79 : decode cX5_copy 79 = .ok (.aload 7, 2) := by decide +kernel
theorem dX5_copy_81 : decode cX5_copy 81 = .ok (.iload 4, 2) := by decide +kernel
theorem dX5_copy_83 : decode cX5_copy 83 = .ok (.iload 5, 2) := by decide +kernel
theorem dX5_copy_85 : decode cX5_copy 85 = .ok (.invokevirtual 263, 3) := by decide +kernel
theorem dX5_copy_88 : decode cX5_copy 88 = .ok (.ifCond .ne 6, 3) := by decide +kernel
theorem dX5_copy_91 : decode cX5_copy 91 = .ok (.ldc 255, 2) := by decide +kernel
theorem dX5_copy_93 : decode cX5_copy 93 = .ok (.ireturn, 1) := by decide +kernel
theorem dX5_copy_94 : decode cX5_copy 94 = .ok (.aload 6, 2) := by decide +kernel
theorem dX5_copy_96 : decode cX5_copy 96 = .ok (.getfield 213, 3) := by decide +kernel
theorem dX5_copy_99 : decode cX5_copy 99 = .ok (.iload_n 2, 1) := by decide +kernel
theorem dX5_copy_100 : decode cX5_copy 100 = .ok (.aload 7, 2) := by decide +kernel
theorem dX5_copy_102 : decode cX5_copy 102 = .ok (.getfield 213, 3) := by decide +kernel
theorem dX5_copy_105 : decode cX5_copy 105 = .ok (.iload 4, 2) := by decide +kernel
theorem dX5_copy_107 : decode cX5_copy 107 = .ok (.iload 5, 2) := by decide +kernel
theorem dX5_copy_109 : decode cX5_copy 109 = .ok (.invokestatic 266, 3) := by decide +kernel
theorem dX5_copy_112 : decode cX5_copy 112 = .ok (.iload 5, 2) := by decide +kernel
theorem dX5_copy_114 : decode cX5_copy 114 = .ok (.ireturn, 1) := by decide +kernel
theorem dX5_lay_0 : decode cX5_lay 0 = .ok (.iload_n 1, 1) := by decide +kernel
theorem dX5_lay_1 : decode cX5_lay 1 = .ok (.invokestatic 272, 3) := by decide +kernel
theorem dX5_lay_4 : decode cX5_lay 4 = .ok (.ifCond .eq 12, 3) := by decide +kernel
theorem dX5_lay_7 : decode cX5_lay 7 = .ok (.iload_n 2, 1) := by decide +kernel
theorem dX5_lay_8 : decode cX5_lay 8 = .ok (.iconst 0, 1) := by decide +kernel
theorem dX5_lay_9 : decode cX5_lay 9 = .ok (.iconst 3, 1) := by decide +kernel
theorem dX5_lay_10 : decode cX5_lay 10 = .ok (.invokestatic 67, 3) := by decide +kernel
theorem dX5_lay_13 : decode cX5_lay 13 = .ok (.ifCond .ne 6, 3) := by decide +kernel
theorem dX5_lay_16 : decode cX5_lay 16 = .ok (.ldc 71, 2) := by decide +kernel
theorem dX5_lay_18 : decode cX5_lay 18 = .ok (.ireturn, 1) := by decide +kernel
theorem dX5_lay_19 : decode cX5_lay 19 = .ok (.iload_n 2, 1) := by decide +kernel
theorem dX5_lay_20 : decode cX5_lay 20 = .ok (.iconst 1, 1) := by decide +kernel
theorem dX5_lay_21 : decode cX5_lay 21 = .ok (.if_icmp .ne 14, 3) := by decide +kernel
theorem dX5_lay_24 : decode cX5_lay 24 = .ok (.aload_n 0, 1) := by decide +kernel
theorem dX5_lay_25 : decode cX5_lay 25 = .ok (.getfield 21, 3) := by decide +kernel
theorem dX5_lay_28 : decode cX5_lay 28 = .ok (.iload_n 3, 1) := by decide +kernel
theorem dX5_lay_29 : decode cX5_lay 29 = .ok (.invokevirtual 80, 3) := by decide +kernel
theorem dX5_lay_32 : decode cX5_lay 32 = .ok (.ifCond .eq 15, 3) := by decide +kernel
theorem dX5_lay_35 : decode cX5_lay 35 = .ok (.iload_n 2, 1) := by decide +kernel
theorem dX5_lay_36 : decode cX5_lay 36 = .ok (.iconst 2, 1) := by decide +kernel
theorem dX5_lay_37 : decode cX5_lay 37 = .ok (.if_icmp .ne 13, 3) := by decide +kernel
theorem dX5_lay_40 : decode cX5_lay 40 = .ok (.iload_n 3, 1) := by decide +kernel
theorem dX5_lay_41 : decode cX5_lay 41 = .ok (.invokestatic 195, 3) := by decide +kernel
theorem dX5_lay_44 : decode cX5_lay 44 = .ok (.ifCond .ne 6, 3) := by decide +kernel
theorem dX5_lay_47 : decode cX5_lay 47 = .ok (.ldc 71, 2) := by decide +kernel
theorem dX5_lay_49 : decode cX5_lay 49 = .ok (.ireturn, 1) := by decide +kernel
theorem dX5_lay_50 : decode cX5_lay 50 = .ok (.iload_n 2, 1) := by decide +kernel
theorem dX5_lay_51 : decode cX5_lay 51 = .ok (.iconst 2, 1) := by decide +kernel
theorem dX5_lay_52 : decode cX5_lay 52 = .ok (.if_icmp .ne 18, 3) := by decide +kernel
theorem dX5_lay_55 : decode cX5_lay 55 = .ok (.aload_n 0, 1) := by decide +kernel
theorem dX5_lay_56 : decode cX5_lay 56 = .ok (.getfield 43, 3) := by decide +kernel
theorem dX5_lay_59 : decode cX5_lay 59 = .ok (.iload_n 3, 1) := by decide +kernel
theorem dX5_lay_60 : decode cX5_lay 60 = .ok (.aaload, 1) := by decide +kernel
theorem dX5_lay_61 : decode cX5_lay 61 = .ok (.invokevirtual 198, 3) := by decide +kernel
theorem dX5_lay_64 : decode cX5_lay 64 = .ok (.ifCond .eq 6, 3) := by decide +kernel
theorem dX5_lay_67 : decode cX5_lay 67 = .ok (.ldc 202, 2) := by decide +kernel
theorem dX5_lay_69 : decode cX5_lay 69 = .ok (.ireturn, 1) := by decide +kernel
theorem dX5_lay_70 : decode cX5_lay 70 = .ok (.aload_n 0, 1) := by decide +kernel
theorem dX5_lay_71 : decode cX5_lay 71 = .ok (.getfield 49, 3) := by decide +kernel
theorem dX5_lay_74 : decode cX5_lay 74 = .ok (.iload_n 1, 1) := by decide +kernel
theorem dX5_lay_75 : decode cX5_lay 75 = .ok (.aaload, 1) := by decide +kernel
theorem dX5_lay_76 : decode cX5_lay 76 = .ok (.astore 4, 2) := by decide +kernel
theorem dX5_lay_78 : decode cX5_lay 78 = .ok (.aload 4, 2) := by decide +kernel
theorem dX5_lay_80 : decode cX5_lay 80 = .ok (.getfield 275, 3) := by decide +kernel
theorem dX5_lay_83 : decode cX5_lay 83 = .ok (.istore 5, 2) := by decide +kernel
theorem dX5_lay_85 : decode cX5_lay 85 = .ok (.aload 4, 2) := by decide +kernel
theorem dX5_lay_87 : decode cX5_lay 87 = .ok (.iload_n 2, 1) := by decide +kernel
theorem dX5_lay_88 : decode cX5_lay 88 = .ok (.putfield 275, 3) := by decide +kernel
theorem dX5_lay_91 : decode cX5_lay 91 = .ok (.iload_n 2, 1) := by decide +kernel
theorem dX5_lay_92 : decode cX5_lay 92 = .ok (.iconst 1, 1) := by decide +kernel
theorem dX5_lay_93 : decode cX5_lay 93 = .ok (.if_icmp .ne 34, 3) := by decide +kernel
theorem dX5_lay_96 : decode cX5_lay 96 = .ok (.aload 4, 2) := by decide +kernel
theorem dX5_lay_98 : decode cX5_lay 98 = .ok (.aload_n 0, 1) := by decide +kernel
theorem dX5_lay_99 : decode cX5_lay 99 = .ok (.getfield 21, 3) := by decide +kernel
theorem dX5_lay_102 : decode cX5_lay 102 = .ok (.getfield 91, 3) := by decide +kernel
theorem dX5_lay_105 : decode cX5_lay 105 = .ok (.iload_n 3, 1) := by decide +kernel
theorem dX5_lay_106 : decode cX5_lay 106 = .ok (.iaload, 1) := by decide +kernel
theorem dX5_lay_107 : decode cX5_lay 107 = .ok (.putfield 278, 3) := by decide +kernel
theorem dX5_lay_110 : decode cX5_lay 110 = .ok (.aload 4, 2) := by decide +kernel
theorem dX5_lay_112 : decode cX5_lay 112 = .ok (.aload_n 0, 1) := by decide +kernel
theorem dX5_lay_113 : decode cX5_lay 113 = .ok (.getfield 21, 3) := by decide +kernel
theorem dX5_lay_116 : decode cX5_lay 116 = .ok (.getfield 94, 3) := by decide +kernel
theorem dX5_lay_119 : decode cX5_lay 119 = .ok (.iload_n 3, 1) := by decide +kernel
theorem dX5_lay_120 : decode cX5_lay 120 = .ok (.iaload, 1) := by decide +kernel
theorem dX5_lay_121 : decode cX5_lay 121 = .ok (.putfield 281, 3) := by decide +kernel
theorem dX5_lay_124 : decode cX5_lay 124 = .ok (.goto 36, 3) := by decide +kernel
theorem dX5_lay_127 : decode cX5_lay 127 = .ok (.iload_n 2, 1) := by decide +kernel
theorem dX5_lay_128 : decode cX5_lay 128 = .ok (.iconst 2, 1) := by decide +kernel
theorem dX5_lay_129 : decode cX5_lay 129 = .ok (.if_icmp .ne 20, 3) := by decide +kernel
theorem dX5_lay_132 : decode cX5_lay 132 = .ok (.aload 4, 2) := by decide +kernel
theorem dX5_lay_134 : decode cX5_lay 134 = .ok (.getfield 284, 3) := by decide +kernel
theorem dX5_lay_137 : decode cX5_lay 137 = .ok (.aload_n 0, 1) := by decide +kernel
theorem dX5_lay_138 : decode cX5_lay 138 = .ok (.getfield 43, 3) := by decide +kernel
theorem dX5_lay_141 : decode cX5_lay 141 = .ok (.iload_n 3, 1) := by decide +kernel
theorem dX5_lay_142 : decode cX5_lay 142 = .ok (.aaload, 1) := by decide +kernel
theorem dX5_lay_143 : decode cX5_lay 143 = .ok (.invokevirtual 288, 3) := by decide +kernel
theorem dX5_lay_146 : decode cX5_lay 146 = .ok (.goto 14, 3) := by decide +kernel
theorem dX5_lay_149 : decode cX5_lay 149 = .ok (.iload_n 2, 1) := by decide +kernel
theorem dX5_lay_150 : decode cX5_lay 150 = .ok (.iconst 3, 1) := by decide +kernel
theorem dX5_lay_151 : decode cX5_lay 151 = .ok (.if_icmp .ne 9, 3) := by decide +kernel
theorem dX5_lay_154 : decode cX5_lay 154 = .ok (.aload 4, 2) := by decide +kernel
theorem dX5_lay_156 : decode cX5_lay 156 = .ok (.iload_n 3, 1) := by decide +kernel
theorem dX5_lay_157 : decode cX5_lay 157 = .ok (.putfield 291, 3) := by decide +kernel
theorem dX5_lay_160 : decode cX5_lay 160 = .ok (.iload 5, 2) := by decide +kernel
theorem dX5_lay_162 : decode cX5_lay 162 = .ok (.ireturn, 1) := by decide +kernel
theorem dX5_ask_0 : decode cX5_ask 0 = .ok (.iload_n 1, 1) := by decide +kernel
theorem dX5_ask_1 : decode cX5_ask 1 = .ok (.invokestatic 272, 3) := by decide +kernel
theorem dX5_ask_4 : decode cX5_ask 4 = .ok (.ifCond .eq 12, 3) := by decide +kernel
theorem dX5_ask_7 : decode cX5_ask 7 = .ok (.iload_n 2, 1) := by decide +kernel
theorem dX5_ask_8 : decode cX5_ask 8 = .ok (.iconst 0, 1) := by decide +kernel
theorem dX5_ask_9 : decode cX5_ask 9 = .ok (.iconst 5, 1) := by decide +kernel
theorem dX5_ask_10 : decode cX5_ask 10 = .ok (.invokestatic 67, 3) := by decide +kernel
theorem dX5_ask_13 : decode cX5_ask 13 = .ok (.ifCond .ne 6, 3) := by decide +kernel
theorem dX5_ask_16 : decode cX5_ask 16 = .ok (.ldc 71, 2) := by decide +kernel
theorem dX5_ask_18 : decode cX5_ask 18 = .ok (.ireturn, 1) := by decide +kernel
theorem dX5_ask_19 : decode cX5_ask 19 = .ok (.aload_n 0, 1) := by decide +kernel
theorem dX5_ask_20 : decode cX5_ask 20 = .ok (.getfield 49, 3) := by decide +kernel
theorem dX5_ask_23 : decode cX5_ask 23 = .ok (.iload_n 1, 1) := by decide +kernel
theorem dX5_ask_24 : decode cX5_ask 24 = .ok (.aaload, 1) := by decide +kernel
theorem dX5_ask_25 : decode cX5_ask 25 = .ok (.astore_n 3, 1) := by decide +kernel
theorem dX5_ask_26 : decode cX5_ask 26 = .ok (.aload_n 3, 1) := by decide +kernel
theorem dX5_ask_27 : decode cX5_ask 27 = .ok (.getfield 275, 3) := by decide +kernel
theorem dX5_ask_30 : decode cX5_ask 30 = .ok (.ifCond .ne 6, 3) := by decide +kernel
theorem dX5_ask_33 : decode cX5_ask 33 = .ok (.ldc 202, 2) := by decide +kernel
theorem dX5_ask_35 : decode cX5_ask 35 = .ok (.ireturn, 1) := by decide +kernel
theorem dX5_ask_36 : decode cX5_ask 36 = .ok (.aload_n 3, 1) := by decide +kernel
theorem dX5_ask_37 : decode cX5_ask 37 = .ok (.getfield 275, 3) := by decide +kernel
theorem dX5_ask_40 : decode cX5_ask 40 = .ok (.iconst 1, 1) := by decide +kernel
theorem dX5_ask_41 : decode cX5_ask 41 = .ok (.if_icmp .ne 14, 3) := by decide +kernel
theorem dX5_ask_44 : decode cX5_ask 44 = .ok (.aload_n 3, 1) := by decide +kernel
theorem dX5_ask_45 : decode cX5_ask 45 = .ok (.getfield 278, 3) := by decide +kernel
theorem dX5_ask_48 : decode cX5_ask 48 = .ok (.iload_n 2, 1) := by decide +kernel
theorem dX5_ask_49 : decode cX5_ask 49 = .ok (.invokestatic 117, 3) := by decide +kernel
theorem dX5_ask_52 : decode cX5_ask 52 = .ok (.ifCond .ne 6, 3) := by decide +kernel
theorem dX5_ask_55 : decode cX5_ask 55 = .ok (.ldc 121, 2) := by decide +kernel
theorem dX5_ask_57 : decode cX5_ask 57 = .ok (.ireturn, 1) := by decide +kernel
theorem dX5_ask_58 : decode cX5_ask 58 = .ok (.aload_n 3, 1) := by decide +kernel
theorem dX5_ask_59 : decode cX5_ask 59 = .ok (.getfield 278, 3) := by decide +kernel
theorem dX5_ask_62 : decode cX5_ask 62 = .ok (.aload_n 3, 1) := by decide +kernel
theorem dX5_ask_63 : decode cX5_ask 63 = .ok (.getfield 281, 3) := by decide +kernel
theorem dX5_ask_66 : decode cX5_ask 66 = .ok (.invokestatic 107, 3) := by decide +kernel
theorem dX5_ask_69 : decode cX5_ask 69 = .ok (.ireturn, 1) := by decide +kernel
theorem dX5_item_0 : decode cX5_item 0 = .ok (.iload_n 1, 1) := by decide +kernel
theorem dX5_item_1 : decode cX5_item 1 = .ok (.invokestatic 272, 3) := by decide +kernel
theorem dX5_item_4 : decode cX5_item 4 = .ok (.ifCond .ne 6, 3) := by decide +kernel
theorem dX5_item_7 : decode cX5_item 7 = .ok (.ldc 71, 2) := by decide +kernel
theorem dX5_item_9 : decode cX5_item 9 = .ok (.ireturn, 1) := by decide +kernel
theorem dX5_item_10 : decode cX5_item 10 = .ok (.aload_n 0, 1) := by decide +kernel
theorem dX5_item_11 : decode cX5_item 11 = .ok (.getfield 49, 3) := by decide +kernel
theorem dX5_item_14 : decode cX5_item 14 = .ok (.iload_n 1, 1) := by decide +kernel
theorem dX5_item_15 : decode cX5_item 15 = .ok (.aaload, 1) := by decide +kernel
theorem dX5_item_16 : decode cX5_item 16 = .ok (.astore_n 3, 1) := by decide +kernel
theorem dX5_item_17 : decode cX5_item 17 = .ok (.aload_n 3, 1) := by decide +kernel
theorem dX5_item_18 : decode cX5_item 18 = .ok (.getfield 275, 3) := by decide +kernel
theorem dX5_item_21 : decode cX5_item 21 = .ok (.ifCond .ne 6, 3) := by decide +kernel
theorem dX5_item_24 : decode cX5_item 24 = .ok (.ldc 202, 2) := by decide +kernel
theorem dX5_item_26 : decode cX5_item 26 = .ok (.ireturn, 1) := by decide +kernel
theorem dX5_item_27 : decode cX5_item 27 = .ok (.aload_n 3, 1) := by decide +kernel
theorem dX5_item_28 : decode cX5_item 28 = .ok (.getfield 275, 3) := by decide +kernel
theorem dX5_item_31 : decode cX5_item 31 = .ok (.iconst 2, 1) := by decide +kernel
theorem dX5_item_32 : decode cX5_item 32 = .ok (.if_icmp .eq 6, 3) := by decide +kernel
theorem dX5_item_35 : decode cX5_item 35 = .ok (.ldc 121, 2) := by decide +kernel
theorem dX5_item_37 : decode cX5_item 37 = .ok (.ireturn, 1) := by decide +kernel
theorem dX5_item_38 : decode cX5_item 38 = .ok (.aload_n 3, 1) := by decide +kernel
theorem dX5_item_39 : decode cX5_item 39 = .ok (.getfield 284, 3) := by decide +kernel
theorem dX5_item_42 : decode cX5_item 42 = .ok (.iload_n 2, 1) := by decide +kernel
theorem dX5_item_43 : decode cX5_item 43 = .ok (.invokevirtual 252, 3) := by decide +kernel
theorem dX5_item_46 : decode cX5_item 46 = .ok (.ifCond .ne 6, 3) := by decide +kernel
theorem dX5_item_49 : decode cX5_item 49 = .ok (.ldc 255, 2) := by decide +kernel
theorem dX5_item_51 : decode cX5_item 51 = .ok (.ireturn, 1) := by decide +kernel
theorem dX5_item_52 : decode cX5_item 52 = .ok (.aload_n 3, 1) := by decide +kernel
theorem dX5_item_53 : decode cX5_item 53 = .ok (.getfield 284, 3) := by decide +kernel
theorem dX5_item_56 : decode cX5_item 56 = .ok (.iload_n 2, 1) := by decide +kernel
theorem dX5_item_57 : decode cX5_item 57 = .ok (.invokevirtual 210, 3) := by decide +kernel
theorem dX5_item_60 : decode cX5_item 60 = .ok (.ifCond .eq 15, 3) := by decide +kernel
theorem dX5_item_63 : decode cX5_item 63 = .ok (.aload_n 3, 1) := by decide +kernel
theorem dX5_item_64 : decode cX5_item 64 = .ok (.getfield 284, 3) := by decide +kernel
theorem dX5_item_67 : decode cX5_item 67 = .ok (.getfield 213, 3) := by decide +kernel
theorem dX5_item_70 : decode cX5_item 70 = .ok (.iload_n 2, 1) := by decide +kernel
theorem dX5_item_71 : decode cX5_item 71 = .ok (.iaload, 1) := by decide +kernel
theorem dX5_item_72 : decode cX5_item 72 = .ok (.goto 5, 3) := by decide +kernel
theorem dX5_item_75 : decode cX5_item 75 = .ok (.ldc 121, 2) := by decide +kernel
theorem dX5_item_77 : decode cX5_item 77 = .ok (.ireturn, 1) := by decide +kernel
theorem dX5_rest_0 : decode cX5_rest 0 = .ok (.iload_n 1, 1) := by decide +kernel
theorem dX5_rest_1 : decode cX5_rest 1 = .ok (.invokestatic 272, 3) := by decide +kernel
theorem dX5_rest_4 : decode cX5_rest 4 = .ok (.ifCond .ne 6, 3) := by decide +kernel
theorem dX5_rest_7 : decode cX5_rest 7 = .ok (.ldc 71, 2) := by decide +kernel
theorem dX5_rest_9 : decode cX5_rest 9 = .ok (.ireturn, 1) := by decide +kernel
theorem dX5_rest_10 : decode cX5_rest 10 = .ok (.aload_n 0, 1) := by decide +kernel
theorem dX5_rest_11 : decode cX5_rest 11 = .ok (.getfield 49, 3) := by decide +kernel
theorem dX5_rest_14 : decode cX5_rest 14 = .ok (.iload_n 1, 1) := by decide +kernel
theorem dX5_rest_15 : decode cX5_rest 15 = .ok (.aaload, 1) := by decide +kernel
theorem dX5_rest_16 : decode cX5_rest 16 = .ok (.astore_n 3, 1) := by decide +kernel
theorem dX5_rest_17 : decode cX5_rest 17 = .ok (.aload_n 3, 1) := by decide +kernel
theorem dX5_rest_18 : decode cX5_rest 18 = .ok (.getfield 275, 3) := by decide +kernel
theorem dX5_rest_21 : decode cX5_rest 21 = .ok (.ifCond .ne 6, 3) := by decide +kernel
theorem dX5_rest_24 : decode cX5_rest 24 = .ok (.ldc 202, 2) := by decide +kernel
theorem dX5_rest_26 : decode cX5_rest 26 = .ok (.ireturn, 1) := by decide +kernel
theorem dX5_rest_27 : decode cX5_rest 27 = .ok (.aload_n 3, 1) := by decide +kernel
theorem dX5_rest_28 : decode cX5_rest 28 = .ok (.getfield 275, 3) := by decide +kernel
theorem dX5_rest_31 : decode cX5_rest 31 = .ok (.iconst 3, 1) := by decide +kernel
theorem dX5_rest_32 : decode cX5_rest 32 = .ok (.if_icmp .eq 6, 3) := by decide +kernel
theorem dX5_rest_35 : decode cX5_rest 35 = .ok (.ldc 121, 2) := by decide +kernel
theorem dX5_rest_37 : decode cX5_rest 37 = .ok (.ireturn, 1) := by decide +kernel
theorem dX5_rest_38 : decode cX5_rest 38 = .ok (.iload_n 2, 1) := by decide +kernel
theorem dX5_rest_39 : decode cX5_rest 39 = .ok (.ifCond .ne 8, 3) := by decide +kernel
theorem dX5_rest_42 : decode cX5_rest 42 = .ok (.ldc 219, 2) := by decide +kernel
theorem dX5_rest_44 : decode cX5_rest 44 = .ok (.goto 9, 3) := by decide +kernel
theorem dX5_rest_47 : decode cX5_rest 47 = .ok (.aload_n 3, 1) := by decide +kernel
theorem dX5_rest_48 : decode cX5_rest 48 = .ok (.getfield 291, 3) := by decide +kernel
theorem dX5_rest_51 : decode cX5_rest 51 = .ok (.iload_n 2, 1) := by decide +kernel
theorem dX5_rest_52 : decode cX5_rest 52 = .ok (.irem, 1) := by decide +kernel
theorem dX5_rest_53 : decode cX5_rest 53 = .ok (.ireturn, 1) := by decide +kernel
theorem dX5_tell_0 : decode cX5_tell 0 = .ok (.aload_n 0, 1) := by decide +kernel
theorem dX5_tell_1 : decode cX5_tell 1 = .ok (.getfield 57, 3) := by decide +kernel
theorem dX5_tell_4 : decode cX5_tell 4 = .ok (.bipush 60, 2) := by decide +kernel
theorem dX5_tell_6 : decode cX5_tell 6 = .ok (.if_icmp .lt 6, 3) := by decide +kernel
theorem dX5_tell_9 : decode cX5_tell 9 = .ok (.ldc 79, 2) := by decide +kernel
theorem dX5_tell_11 : decode cX5_tell 11 = .ok (.ireturn, 1) := by decide +kernel
theorem dX5_tell_12 : decode cX5_tell 12 = .ok (.aload_n 0, 1) := by decide +kernel
theorem dX5_tell_13 : decode cX5_tell 13 = .ok (.getfield 53, 3) := by decide +kernel
theorem dX5_tell_16 : decode cX5_tell 16 = .ok (.aload_n 0, 1) := by decide +kernel
theorem dX5_tell_17 : decode cX5_tell 17 = .ok (.getfield 57, 3) := by decide +kernel
theorem dX5_tell_20 : decode cX5_tell 20 = .ok (.iload_n 1, 1) := by decide +kernel
theorem dX5_tell_21 : decode cX5_tell 21 = .ok (.iastore, 1) := by decide +kernel
theorem dX5_tell_22 : decode cX5_tell 22 = .ok (.aload_n 0, 1) := by decide +kernel
theorem dX5_tell_23 : decode cX5_tell 23 = .ok (.dup, 1) := by decide +kernel
theorem dX5_tell_24 : decode cX5_tell 24 = .ok (.getfield 57, 3) := by decide +kernel
theorem dX5_tell_27 : decode cX5_tell 27 = .ok (.iconst 1, 1) := by decide +kernel
theorem dX5_tell_28 : decode cX5_tell 28 = .ok (.iadd, 1) := by decide +kernel
theorem dX5_tell_29 : decode cX5_tell 29 = .ok (.putfield 57, 3) := by decide +kernel
theorem dX5_tell_32 : decode cX5_tell 32 = .ok (.aload_n 0, 1) := by decide +kernel
theorem dX5_tell_33 : decode cX5_tell 33 = .ok (.getfield 57, 3) := by decide +kernel
theorem dX5_tell_36 : decode cX5_tell 36 = .ok (.ireturn, 1) := by decide +kernel
theorem dX5_check_0 : decode cX5_check 0 = .ok (.iload_n 1, 1) := by decide +kernel
theorem dX5_check_1 : decode cX5_check 1 = .ok (.iconst 1, 1) := by decide +kernel
theorem dX5_check_2 : decode cX5_check 2 = .ok (.bipush 30, 2) := by decide +kernel
theorem dX5_check_4 : decode cX5_check 4 = .ok (.invokestatic 67, 3) := by decide +kernel
theorem dX5_check_7 : decode cX5_check 7 = .ok (.ifCond .ne 9, 3) := by decide +kernel
theorem dX5_check_10 : decode cX5_check 10 = .ok (.ldc 71, 2) := by decide +kernel
theorem dX5_check_12 : decode cX5_check 12 = .ok (.istore_n 2, 1) := by decide +kernel
theorem dX5_check_13 : decode cX5_check 13 = .ok (.goto 36, 3) := by decide +kernel
theorem dX5_check_16 : decode cX5_check 16 = .ok (.aload_n 0, 1) := by decide +kernel
theorem dX5_check_17 : decode cX5_check 17 = .ok (.getfield 61, 3) := by decide +kernel
theorem dX5_check_20 : decode cX5_check 20 = .ok (.ifCond .ne 9, 3) := by decide +kernel
theorem dX5_check_23 : decode cX5_check 23 = .ok (.ldc 219, 2) := by decide +kernel
theorem dX5_check_25 : decode cX5_check 25 = .ok (.istore_n 2, 1) := by decide +kernel
theorem dX5_check_26 : decode cX5_check 26 = .ok (.goto 23, 3) := by decide +kernel
theorem dX5_check_29 : decode cX5_check 29 = .ok (.aload_n 0, 1) := by decide +kernel
theorem dX5_check_30 : decode cX5_check 30 = .ok (.iload_n 1, 1) := by decide +kernel
theorem dX5_check_31 : decode cX5_check 31 = .ok (.sipush 9999, 3) := by decide +kernel
theorem dX5_check_34 : decode cX5_check 34 = .ok (.aload_n 0, 1) := by decide +kernel
theorem dX5_check_35 : decode cX5_check 35 = .ok (.getfield 25, 3) := by decide +kernel
theorem dX5_check_38 : decode cX5_check 38 = .ok (.getfield 144, 3) := by decide +kernel
theorem dX5_check_41 : decode cX5_check 41 = .ok (.isub, 1) := by decide +kernel
theorem dX5_check_42 : decode cX5_check 42 = .ok (.invokestatic 127, 3) := by decide +kernel
theorem dX5_check_45 : decode cX5_check 45 = .ok (.invokevirtual 294, 3) := by decide +kernel
theorem dX5_check_48 : decode cX5_check 48 = .ok (.istore_n 2, 1) := by decide +kernel
theorem dX5_check_49 : decode cX5_check 49 = .ok (.aload_n 0, 1) := by decide +kernel
theorem dX5_check_50 : decode cX5_check 50 = .ok (.iconst 0, 1) := by decide +kernel
theorem dX5_check_51 : decode cX5_check 51 = .ok (.putfield 57, 3) := by decide +kernel
theorem dX5_check_54 : decode cX5_check 54 = .ok (.iload_n 2, 1) := by decide +kernel
theorem dX5_check_55 : decode cX5_check 55 = .ok (.ireturn, 1) := by decide +kernel
theorem dX5_firstUntrue_0 : decode cX5_firstUntrue 0 = .ok (.aload_n 0, 1) := by decide +kernel
theorem dX5_firstUntrue_1 : decode cX5_firstUntrue 1 = .ok (.getfield 28, 3) := by decide +kernel
theorem dX5_firstUntrue_4 : decode cX5_firstUntrue 4 = .ok (.aload_n 0, 1) := by decide +kernel
theorem dX5_firstUntrue_5 : decode cX5_firstUntrue 5 = .ok (.getfield 25, 3) := by decide +kernel
theorem dX5_firstUntrue_8 : decode cX5_firstUntrue 8 = .ok (.invokevirtual 171, 3) := by decide +kernel
theorem dX5_firstUntrue_11 : decode cX5_firstUntrue 11 = .ok (.iconst 0, 1) := by decide +kernel
theorem dX5_firstUntrue_12 : decode cX5_firstUntrue 12 = .ok (.istore_n 2, 1) := by decide +kernel
theorem dX5_firstUntrue_13 : decode cX5_firstUntrue 13 = .ok (.iconst 0, 1) := by decide +kernel
theorem dX5_firstUntrue_14 : decode cX5_firstUntrue 14 = .ok (.istore_n 3, 1) := by decide +kernel
theorem dX5_firstUntrue_15 : decode cX5_firstUntrue 15 = .ok (.iload_n 3, 1) := by decide +kernel
theorem dX5_firstUntrue_16 : decode cX5_firstUntrue 16 = .ok (.iload_n 1, 1) := by decide +kernel
theorem dX5_firstUntrue_17 : decode cX5_firstUntrue 17 = .ok (.if_icmp .ge 59, 3) := by decide +kernel
theorem dX5_firstUntrue_20 : decode cX5_firstUntrue 20 = .ok (.aload_n 0, 1) := by decide +kernel
theorem dX5_firstUntrue_21 : decode cX5_firstUntrue 21 = .ok (.getfield 28, 3) := by decide +kernel
theorem dX5_firstUntrue_24 : decode cX5_firstUntrue 24 = .ok (.invokevirtual 192, 3) := by decide +kernel
theorem dX5_firstUntrue_27 : decode cX5_firstUntrue 27 = .ok (.aload_n 0, 1) := by decide +kernel
theorem dX5_firstUntrue_28 : decode cX5_firstUntrue 28 = .ok (.iload_n 2, 1) := by decide +kernel
theorem dX5_firstUntrue_29 : decode cX5_firstUntrue 29 = .ok (.aload_n 0, 1) := by decide +kernel
theorem dX5_firstUntrue_30 : decode cX5_firstUntrue 30 = .ok (.getfield 28, 3) := by decide +kernel
theorem dX5_firstUntrue_33 : decode cX5_firstUntrue 33 = .ok (.invokevirtual 151, 3) := by decide +kernel
theorem dX5_firstUntrue_36 : decode cX5_firstUntrue 36 = .ok (.invokevirtual 297, 3) := by decide +kernel
theorem dX5_firstUntrue_39 : decode cX5_firstUntrue 39 = .ok (.ifCond .ne 7, 3) := by decide +kernel
theorem dX5_firstUntrue_42 : decode cX5_firstUntrue 42 = .ok (.iconst 1, 1) := by decide +kernel
theorem dX5_firstUntrue_43 : decode cX5_firstUntrue 43 = .ok (.iload_n 2, 1) := by decide +kernel
theorem dX5_firstUntrue_44 : decode cX5_firstUntrue 44 = .ok (.iadd, 1) := by decide +kernel
theorem dX5_firstUntrue_45 : decode cX5_firstUntrue 45 = .ok (.ireturn, 1) := by decide +kernel
theorem dX5_firstUntrue_46 : decode cX5_firstUntrue 46 = .ok (.aload_n 0, 1) := by decide +kernel
theorem dX5_firstUntrue_47 : decode cX5_firstUntrue 47 = .ok (.iload_n 2, 1) := by decide +kernel
theorem dX5_firstUntrue_48 : decode cX5_firstUntrue 48 = .ok (.iconst 1, 1) := by decide +kernel
theorem dX5_firstUntrue_49 : decode cX5_firstUntrue 49 = .ok (.iadd, 1) := by decide +kernel
theorem dX5_firstUntrue_50 : decode cX5_firstUntrue 50 = .ok (.aload_n 0, 1) := by decide +kernel
theorem dX5_firstUntrue_51 : decode cX5_firstUntrue 51 = .ok (.getfield 28, 3) := by decide +kernel
theorem dX5_firstUntrue_54 : decode cX5_firstUntrue 54 = .ok (.invokevirtual 161, 3) := by decide +kernel
theorem dX5_firstUntrue_57 : decode cX5_firstUntrue 57 = .ok (.invokevirtual 297, 3) := by decide +kernel
theorem dX5_firstUntrue_60 : decode cX5_firstUntrue 60 = .ok (.ifCond .ne 7, 3) := by decide +kernel
theorem dX5_firstUntrue_63 : decode cX5_firstUntrue 63 = .ok (.iconst 2, 1) := by decide +kernel
theorem dX5_firstUntrue_64 : decode cX5_firstUntrue 64 = .ok (.iload_n 2, 1) := by decide +kernel
theorem dX5_firstUntrue_65 : decode cX5_firstUntrue 65 = .ok (.iadd, 1) := by decide +kernel
theorem dX5_firstUntrue_66 : decode cX5_firstUntrue 66 = .ok (.ireturn, 1) := by decide +kernel
theorem dX5_firstUntrue_67 : decode cX5_firstUntrue 67 = .ok (.iinc 2 2, 3) := by decide +kernel
theorem dX5_firstUntrue_70 : decode cX5_firstUntrue 70 = .ok (.iinc 3 1, 3) := by decide +kernel
theorem dX5_firstUntrue_73 : decode cX5_firstUntrue 73 = .ok (.goto (-58), 3) := by decide +kernel
theorem dX5_firstUntrue_76 : decode cX5_firstUntrue 76 = .ok (.iload_n 2, 1) := by decide +kernel
theorem dX5_firstUntrue_77 : decode cX5_firstUntrue 77 = .ok (.aload_n 0, 1) := by decide +kernel
theorem dX5_firstUntrue_78 : decode cX5_firstUntrue 78 = .ok (.getfield 57, 3) := by decide +kernel
theorem dX5_firstUntrue_81 : decode cX5_firstUntrue 81 = .ok (.if_icmp .ne 7, 3) := by decide +kernel
theorem dX5_firstUntrue_84 : decode cX5_firstUntrue 84 = .ok (.iconst 0, 1) := by decide +kernel
theorem dX5_firstUntrue_85 : decode cX5_firstUntrue 85 = .ok (.goto 6, 3) := by decide +kernel
theorem dX5_firstUntrue_88 : decode cX5_firstUntrue 88 = .ok (.iconst 1, 1) := by decide +kernel
theorem dX5_firstUntrue_89 : decode cX5_firstUntrue 89 = .ok (.iload_n 2, 1) := by decide +kernel
theorem dX5_firstUntrue_90 : decode cX5_firstUntrue 90 = .ok (.iadd, 1) := by decide +kernel
theorem dX5_firstUntrue_91 : decode cX5_firstUntrue 91 = .ok (.ireturn, 1) := by decide +kernel
theorem dX5_waitsAt_0 : decode cX5_waitsAt 0 = .ok (.iload_n 1, 1) := by decide +kernel
theorem dX5_waitsAt_1 : decode cX5_waitsAt 1 = .ok (.aload_n 0, 1) := by decide +kernel
theorem dX5_waitsAt_2 : decode cX5_waitsAt 2 = .ok (.getfield 57, 3) := by decide +kernel
theorem dX5_waitsAt_5 : decode cX5_waitsAt 5 = .ok (.if_icmp .ge 17, 3) := by decide +kernel
theorem dX5_waitsAt_8 : decode cX5_waitsAt 8 = .ok (.aload_n 0, 1) := by decide +kernel
theorem dX5_waitsAt_9 : decode cX5_waitsAt 9 = .ok (.getfield 53, 3) := by decide +kernel
theorem dX5_waitsAt_12 : decode cX5_waitsAt 12 = .ok (.iload_n 1, 1) := by decide +kernel
theorem dX5_waitsAt_13 : decode cX5_waitsAt 13 = .ok (.iaload, 1) := by decide +kernel
theorem dX5_waitsAt_14 : decode cX5_waitsAt 14 = .ok (.iload_n 2, 1) := by decide +kernel
theorem dX5_waitsAt_15 : decode cX5_waitsAt 15 = .ok (.if_icmp .ne 7, 3) := by decide +kernel
theorem dX5_waitsAt_18 : decode cX5_waitsAt 18 = .ok (.iconst 1, 1) := by decide +kernel
theorem dX5_waitsAt_19 : decode cX5_waitsAt 19 = .ok (.goto 4, 3) := by decide +kernel
theorem dX5_waitsAt_22 : decode cX5_waitsAt 22 = .ok (.iconst 0, 1) := by decide +kernel
theorem dX5_waitsAt_23 : decode cX5_waitsAt 23 = .ok (.ireturn, 1) := by decide +kernel
theorem dX5_keep_0 : decode cX5_keep 0 = .ok (.aload_n 0, 1) := by decide +kernel
theorem dX5_keep_1 : decode cX5_keep 1 = .ok (.getfield 25, 3) := by decide +kernel
theorem dX5_keep_4 : decode cX5_keep 4 = .ok (.aload_n 0, 1) := by decide +kernel
theorem dX5_keep_5 : decode cX5_keep 5 = .ok (.getfield 21, 3) := by decide +kernel
theorem dX5_keep_8 : decode cX5_keep 8 = .ok (.invokevirtual 171, 3) := by decide +kernel
theorem dX5_keep_11 : decode cX5_keep 11 = .ok (.aload_n 0, 1) := by decide +kernel
theorem dX5_keep_12 : decode cX5_keep 12 = .ok (.iconst 1, 1) := by decide +kernel
theorem dX5_keep_13 : decode cX5_keep 13 = .ok (.putfield 61, 3) := by decide +kernel
theorem dX5_keep_16 : decode cX5_keep 16 = .ok (.aload_n 0, 1) := by decide +kernel
theorem dX5_keep_17 : decode cX5_keep 17 = .ok (.getfield 21, 3) := by decide +kernel
theorem dX5_keep_20 : decode cX5_keep 20 = .ok (.getfield 72, 3) := by decide +kernel
theorem dX5_keep_23 : decode cX5_keep 23 = .ok (.ireturn, 1) := by decide +kernel
theorem dX5_back_0 : decode cX5_back 0 = .ok (.aload_n 0, 1) := by decide +kernel
theorem dX5_back_1 : decode cX5_back 1 = .ok (.getfield 61, 3) := by decide +kernel
theorem dX5_back_4 : decode cX5_back 4 = .ok (.ifCond .ne 6, 3) := by decide +kernel
theorem dX5_back_7 : decode cX5_back 7 = .ok (.ldc 219, 2) := by decide +kernel
theorem dX5_back_9 : decode cX5_back 9 = .ok (.ireturn, 1) := by decide +kernel
theorem dX5_back_10 : decode cX5_back 10 = .ok (.aload_n 0, 1) := by decide +kernel
theorem dX5_back_11 : decode cX5_back 11 = .ok (.getfield 21, 3) := by decide +kernel
theorem dX5_back_14 : decode cX5_back 14 = .ok (.aload_n 0, 1) := by decide +kernel
theorem dX5_back_15 : decode cX5_back 15 = .ok (.getfield 25, 3) := by decide +kernel
theorem dX5_back_18 : decode cX5_back 18 = .ok (.invokevirtual 171, 3) := by decide +kernel
theorem dX5_back_21 : decode cX5_back 21 = .ok (.aload_n 0, 1) := by decide +kernel
theorem dX5_back_22 : decode cX5_back 22 = .ok (.getfield 21, 3) := by decide +kernel
theorem dX5_back_25 : decode cX5_back 25 = .ok (.getfield 72, 3) := by decide +kernel
theorem dX5_back_28 : decode cX5_back 28 = .ok (.ireturn, 1) := by decide +kernel
theorem dX5_count_0 : decode cX5_count 0 = .ok (.iload_n 1, 1) := by decide +kernel
theorem dX5_count_1 : decode cX5_count 1 = .ok (.tableswitch 108 0 7 #[47, 55, 63, 71, 79, 87, 92, 100], 47) := by decide +kernel
theorem dX5_count_48 : decode cX5_count 48 = .ok (.aload_n 0, 1) := by decide +kernel
theorem dX5_count_49 : decode cX5_count 49 = .ok (.getfield 21, 3) := by decide +kernel
theorem dX5_count_52 : decode cX5_count 52 = .ok (.getfield 72, 3) := by decide +kernel
theorem dX5_count_55 : decode cX5_count 55 = .ok (.ireturn, 1) := by decide +kernel
theorem dX5_count_56 : decode cX5_count 56 = .ok (.aload_n 0, 1) := by decide +kernel
theorem dX5_count_57 : decode cX5_count 57 = .ok (.getfield 21, 3) := by decide +kernel
theorem dX5_count_60 : decode cX5_count 60 = .ok (.getfield 144, 3) := by decide +kernel
theorem dX5_count_63 : decode cX5_count 63 = .ok (.ireturn, 1) := by decide +kernel
theorem dX5_count_64 : decode cX5_count 64 = .ok (.aload_n 0, 1) := by decide +kernel
theorem dX5_count_65 : decode cX5_count 65 = .ok (.getfield 21, 3) := by decide +kernel
theorem dX5_count_68 : decode cX5_count 68 = .ok (.getfield 138, 3) := by decide +kernel
theorem dX5_count_71 : decode cX5_count 71 = .ok (.ireturn, 1) := by decide +kernel
theorem dX5_count_72 : decode cX5_count 72 = .ok (.aload_n 0, 1) := by decide +kernel
theorem dX5_count_73 : decode cX5_count 73 = .ok (.getfield 21, 3) := by decide +kernel
theorem dX5_count_76 : decode cX5_count 76 = .ok (.getfield 141, 3) := by decide +kernel
theorem dX5_count_79 : decode cX5_count 79 = .ok (.ireturn, 1) := by decide +kernel
theorem dX5_count_80 : decode cX5_count 80 = .ok (.aload_n 0, 1) := by decide +kernel
theorem dX5_count_81 : decode cX5_count 81 = .ok (.getfield 21, 3) := by decide +kernel
theorem dX5_count_84 : decode cX5_count 84 = .ok (.getfield 232, 3) := by decide +kernel
theorem dX5_count_87 : decode cX5_count 87 = .ok (.ireturn, 1) := by decide +kernel
theorem dX5_count_88 : decode cX5_count 88 = .ok (.aload_n 0, 1) := by decide +kernel
theorem dX5_count_89 : decode cX5_count 89 = .ok (.getfield 57, 3) := by decide +kernel
theorem dX5_count_92 : decode cX5_count 92 = .ok (.ireturn, 1) := by decide +kernel
theorem dX5_count_93 : decode cX5_count 93 = .ok (.aload_n 0, 1) := by decide +kernel
theorem dX5_count_94 : decode cX5_count 94 = .ok (.getfield 37, 3) := by decide +kernel
theorem dX5_count_97 : decode cX5_count 97 = .ok (.getfield 220, 3) := by decide +kernel
theorem dX5_count_100 : decode cX5_count 100 = .ok (.ireturn, 1) := by decide +kernel
theorem dX5_count_101 : decode cX5_count 101 = .ok (.aload_n 0, 1) := by decide +kernel
theorem dX5_count_102 : decode cX5_count 102 = .ok (.getfield 21, 3) := by decide +kernel
theorem dX5_count_105 : decode cX5_count 105 = .ok (.getfield 135, 3) := by decide +kernel
theorem dX5_count_108 : decode cX5_count 108 = .ok (.ireturn, 1) := by decide +kernel
theorem dX5_count_109 : decode cX5_count 109 = .ok (.ldc 71, 2) := by decide +kernel
theorem dX5_count_111 : decode cX5_count 111 = .ok (.ireturn, 1) := by decide +kernel
theorem dX5_within_0 : decode cX5_within 0 = .ok (.iload_n 0, 1) := by decide +kernel
theorem dX5_within_1 : decode cX5_within 1 = .ok (.iload_n 1, 1) := by decide +kernel
theorem dX5_within_2 : decode cX5_within 2 = .ok (.if_icmp .lt 12, 3) := by decide +kernel
theorem dX5_within_5 : decode cX5_within 5 = .ok (.iload_n 0, 1) := by decide +kernel
theorem dX5_within_6 : decode cX5_within 6 = .ok (.iload_n 2, 1) := by decide +kernel
theorem dX5_within_7 : decode cX5_within 7 = .ok (.if_icmp .gt 7, 3) := by decide +kernel
theorem dX5_within_10 : decode cX5_within 10 = .ok (.iconst 1, 1) := by decide +kernel
theorem dX5_within_11 : decode cX5_within 11 = .ok (.goto 4, 3) := by decide +kernel
theorem dX5_within_14 : decode cX5_within 14 = .ok (.iconst 0, 1) := by decide +kernel
theorem dX5_within_15 : decode cX5_within 15 = .ok (.ireturn, 1) := by decide +kernel
theorem dX5_held_0 : decode cX5_held 0 = .ok (.iconst 0, 1) := by decide +kernel
theorem dX5_held_1 : decode cX5_held 1 = .ok (.iload_n 0, 1) := by decide +kernel
theorem dX5_held_2 : decode cX5_held 2 = .ok (.iload_n 1, 1) := by decide +kernel
theorem dX5_held_3 : decode cX5_held 3 = .ok (.invokestatic 127, 3) := by decide +kernel
theorem dX5_held_6 : decode cX5_held 6 = .ok (.invokestatic 300, 3) := by decide +kernel
theorem dX5_held_9 : decode cX5_held 9 = .ok (.ireturn, 1) := by decide +kernel
theorem dX5_isSheet_0 : decode cX5_isSheet 0 = .ok (.iload_n 0, 1) := by decide +kernel
theorem dX5_isSheet_1 : decode cX5_isSheet 1 = .ok (.iconst 0, 1) := by decide +kernel
theorem dX5_isSheet_2 : decode cX5_isSheet 2 = .ok (.iconst 3, 1) := by decide +kernel
theorem dX5_isSheet_3 : decode cX5_isSheet 3 = .ok (.invokestatic 67, 3) := by decide +kernel
theorem dX5_isSheet_6 : decode cX5_isSheet 6 = .ok (.ireturn, 1) := by decide +kernel
theorem dX5_isSlot_0 : decode cX5_isSlot 0 = .ok (.iload_n 0, 1) := by decide +kernel
theorem dX5_isSlot_1 : decode cX5_isSlot 1 = .ok (.iconst 0, 1) := by decide +kernel
theorem dX5_isSlot_2 : decode cX5_isSlot 2 = .ok (.iconst 4, 1) := by decide +kernel
theorem dX5_isSlot_3 : decode cX5_isSlot 3 = .ok (.invokestatic 67, 3) := by decide +kernel
theorem dX5_isSlot_6 : decode cX5_isSlot 6 = .ok (.ireturn, 1) := by decide +kernel
theorem dX5_exchange_0 : decode cX5_exchange 0 = .ok (.aload_n 0, 1) := by decide +kernel
theorem dX5_exchange_1 : decode cX5_exchange 1 = .ok (.iload_n 1, 1) := by decide +kernel
theorem dX5_exchange_2 : decode cX5_exchange 2 = .ok (.iaload, 1) := by decide +kernel
theorem dX5_exchange_3 : decode cX5_exchange 3 = .ok (.istore_n 3, 1) := by decide +kernel
theorem dX5_exchange_4 : decode cX5_exchange 4 = .ok (.aload_n 0, 1) := by decide +kernel
theorem dX5_exchange_5 : decode cX5_exchange 5 = .ok (.iload_n 1, 1) := by decide +kernel
theorem dX5_exchange_6 : decode cX5_exchange 6 = .ok (.iload_n 2, 1) := by decide +kernel
theorem dX5_exchange_7 : decode cX5_exchange 7 = .ok (.iastore, 1) := by decide +kernel
theorem dX5_exchange_8 : decode cX5_exchange 8 = .ok (.iload_n 3, 1) := by decide +kernel
theorem dX5_exchange_9 : decode cX5_exchange 9 = .ok (.ireturn, 1) := by decide +kernel
theorem dX5_isOfKind_0 : decode cX5_isOfKind 0 = .ok (.iload_n 0, 1) := by decide +kernel
theorem dX5_isOfKind_1 : decode cX5_isOfKind 1 = .ok (.istore_n 2, 1) := by decide +kernel
theorem dX5_isOfKind_2 : decode cX5_isOfKind 2 = .ok (.iconst 0, 1) := by decide +kernel
theorem dX5_isOfKind_3 : decode cX5_isOfKind 3 = .ok (.istore_n 3, 1) := by decide +kernel
theorem dX5_isOfKind_4 : decode cX5_isOfKind 4 = .ok (.iload_n 3, 1) := by decide +kernel
theorem dX5_isOfKind_5 : decode cX5_isOfKind 5 = .ok (.bipush 6, 2) := by decide +kernel
theorem dX5_isOfKind_7 : decode cX5_isOfKind 7 = .ok (.if_icmp .ge 31, 3) := by decide +kernel
theorem dX5_isOfKind_10 : decode cX5_isOfKind 10 = .ok (.iload_n 2, 1) := by decide +kernel
theorem dX5_isOfKind_11 : decode cX5_isOfKind 11 = .ok (.iconst 0, 1) := by decide +kernel
theorem dX5_isOfKind_12 : decode cX5_isOfKind 12 = .ok (.iconst 5, 1) := by decide +kernel
theorem dX5_isOfKind_13 : decode cX5_isOfKind 13 = .ok (.invokestatic 67, 3) := by decide +kernel
theorem dX5_isOfKind_16 : decode cX5_isOfKind 16 = .ok (.ifCond .eq 22, 3) := by decide +kernel
theorem dX5_isOfKind_19 : decode cX5_isOfKind 19 = .ok (.iload_n 2, 1) := by decide +kernel
theorem dX5_isOfKind_20 : decode cX5_isOfKind 20 = .ok (.iload_n 1, 1) := by decide +kernel
theorem dX5_isOfKind_21 : decode cX5_isOfKind 21 = .ok (.if_icmp .ne 5, 3) := by decide +kernel
theorem dX5_isOfKind_24 : decode cX5_isOfKind 24 = .ok (.iconst 1, 1) := by decide +kernel
theorem dX5_isOfKind_25 : decode cX5_isOfKind 25 = .ok (.ireturn, 1) := by decide +kernel
theorem dX5_isOfKind_26 : decode cX5_isOfKind 26 = .ok (.getstatic 303, 3) := by decide +kernel
theorem dX5_isOfKind_29 : decode cX5_isOfKind 29 = .ok (.iload_n 2, 1) := by decide +kernel
theorem dX5_isOfKind_30 : decode cX5_isOfKind 30 = .ok (.iaload, 1) := by decide +kernel
theorem dX5_isOfKind_31 : decode cX5_isOfKind 31 = .ok (.istore_n 2, 1) := by decide +kernel
theorem dX5_isOfKind_32 : decode cX5_isOfKind 32 = .ok (.iinc 3 1, 3) := by decide +kernel
theorem dX5_isOfKind_35 : decode cX5_isOfKind 35 = .ok (.goto (-31), 3) := by decide +kernel
theorem dX5_isOfKind_38 : decode cX5_isOfKind 38 = .ok (.iconst 0, 1) := by decide +kernel
theorem dX5_isOfKind_39 : decode cX5_isOfKind 39 = .ok (.ireturn, 1) := by decide +kernel
theorem dX5_worthOf_0 : decode cX5_worthOf 0 = .ok (.iload_n 0, 1) := by decide +kernel
theorem dX5_worthOf_1 : decode cX5_worthOf 1 = .ok (.tableswitch 62 1 5 #[35, 47, 40, 52, 59], 35) := by decide +kernel
theorem dX5_worthOf_36 : decode cX5_worthOf 36 = .ok (.iload_n 1, 1) := by decide +kernel
theorem dX5_worthOf_37 : decode cX5_worthOf 37 = .ok (.bipush 9, 2) := by decide +kernel
theorem dX5_worthOf_39 : decode cX5_worthOf 39 = .ok (.iadd, 1) := by decide +kernel
theorem dX5_worthOf_40 : decode cX5_worthOf 40 = .ok (.ireturn, 1) := by decide +kernel
theorem dX5_worthOf_41 : decode cX5_worthOf 41 = .ok (.iconst 2, 1) := by decide +kernel
theorem dX5_worthOf_42 : decode cX5_worthOf 42 = .ok (.iload_n 1, 1) := by decide +kernel
theorem dX5_worthOf_43 : decode cX5_worthOf 43 = .ok (.bipush 9, 2) := by decide +kernel
theorem dX5_worthOf_45 : decode cX5_worthOf 45 = .ok (.iadd, 1) := by decide +kernel
theorem dX5_worthOf_46 : decode cX5_worthOf 46 = .ok (.imul, 1) := by decide +kernel
theorem dX5_worthOf_47 : decode cX5_worthOf 47 = .ok (.ireturn, 1) := by decide +kernel
theorem dX5_worthOf_48 : decode cX5_worthOf 48 = .ok (.bipush 40, 2) := by decide +kernel
theorem dX5_worthOf_50 : decode cX5_worthOf 50 = .ok (.iload_n 1, 1) := by decide +kernel
theorem dX5_worthOf_51 : decode cX5_worthOf 51 = .ok (.isub, 1) := by decide +kernel
theorem dX5_worthOf_52 : decode cX5_worthOf 52 = .ok (.ireturn, 1) := by decide +kernel
theorem dX5_worthOf_53 : decode cX5_worthOf 53 = .ok (.bipush 40, 2) := by decide +kernel
theorem dX5_worthOf_55 : decode cX5_worthOf 55 = .ok (.iload_n 1, 1) := by decide +kernel
theorem dX5_worthOf_56 : decode cX5_worthOf 56 = .ok (.isub, 1) := by decide +kernel
theorem dX5_worthOf_57 : decode cX5_worthOf 57 = .ok (.iconst 3, 1) := by decide +kernel
theorem dX5_worthOf_58 : decode cX5_worthOf 58 = .ok (.isub, 1) := by decide +kernel
theorem dX5_worthOf_59 : decode cX5_worthOf 59 = .ok (.ireturn, 1) := by decide +kernel
theorem dX5_worthOf_60 : decode cX5_worthOf 60 = .ok (.bipush 60, 2) := by decide +kernel
theorem dX5_worthOf_62 : decode cX5_worthOf 62 = .ok (.ireturn, 1) := by decide +kernel
theorem dX5_worthOf_63 : decode cX5_worthOf 63 = .ok (.iload_n 1, 1) := by decide +kernel
theorem dX5_worthOf_64 : decode cX5_worthOf 64 = .ok (.ireturn, 1) := by decide +kernel
theorem dX6_init_0 : decode cX6_init 0 = .ok (.aload_n 0, 1) := by decide +kernel
theorem dX6_init_1 : decode cX6_init 1 = .ok (.invokespecial 1, 3) := by decide +kernel
theorem dX6_init_4 : decode cX6_init 4 = .ok (.aload_n 0, 1) := by decide +kernel
theorem dX6_init_5 : decode cX6_init 5 = .ok (.sipush 1412, 3) := by decide +kernel
theorem dX6_init_8 : decode cX6_init 8 = .ok (.newarray .int, 2) := by decide +kernel
theorem dX6_init_10 : decode cX6_init 10 = .ok (.putfield 9, 3) := by decide +kernel
theorem dX6_init_13 : decode cX6_init 13 = .ok (.aload_n 0, 1) := by decide +kernel
theorem dX6_init_14 : decode cX6_init 14 = .ok (.sipush 1412, 3) := by decide +kernel
theorem dX6_init_17 : decode cX6_init 17 = .ok (.newarray .int, 2) := by decide +kernel
theorem dX6_init_19 : decode cX6_init 19 = .ok (.putfield 13, 3) := by decide +kernel
theorem dX6_init_22 : decode cX6_init 22 = .ok (.aload_n 0, 1) := by decide +kernel
theorem dX6_init_23 : decode cX6_init 23 = .ok (.sipush 1412, 3) := by decide +kernel
theorem dX6_init_26 : decode cX6_init 26 = .ok (.newarray .int, 2) := by decide +kernel
theorem dX6_init_28 : decode cX6_init 28 = .ok (.putfield 16, 3) := by decide +kernel
theorem dX6_init_31 : decode cX6_init 31 = .ok (.aload_n 0, 1) := by decide +kernel
theorem dX6_init_32 : decode cX6_init 32 = .ok (.bipush 40, 2) := by decide +kernel
theorem dX6_init_34 : decode cX6_init 34 = .ok (.newarray .int, 2) := by decide +kernel
theorem dX6_init_36 : decode cX6_init 36 = .ok (.putfield 19, 3) := by decide +kernel
theorem dX6_init_39 : decode cX6_init 39 = .ok (.aload_n 0, 1) := by decide +kernel
theorem dX6_init_40 : decode cX6_init 40 = .ok (.iconst 3, 1) := by decide +kernel
theorem dX6_init_41 : decode cX6_init 41 = .ok (.newarray .int, 2) := by decide +kernel
theorem dX6_init_43 : decode cX6_init 43 = .ok (.putfield 22, 3) := by decide +kernel
theorem dX6_init_46 : decode cX6_init 46 = .ok (.aload_n 0, 1) := by decide +kernel
theorem dX6_init_47 : decode cX6_init 47 = .ok (.sipush 201, 3) := by decide +kernel
theorem dX6_init_50 : decode cX6_init 50 = .ok (.newarray .int, 2) := by decide +kernel
theorem dX6_init_52 : decode cX6_init 52 = .ok (.putfield 25, 3) := by decide +kernel
theorem dX6_init_55 : decode cX6_init 55 = .ok (.aload_n 0, 1) := by decide +kernel
theorem dX6_init_56 : decode cX6_init 56 = .ok (.bipush 96, 2) := by decide +kernel
theorem dX6_init_58 : decode cX6_init 58 = .ok (.newarray .int, 2) := by decide +kernel
theorem dX6_init_60 : decode cX6_init 60 = .ok (.putfield 28, 3) := by decide +kernel
theorem dX6_init_63 : decode cX6_init 63 = .ok (.aload_n 0, 1) := by decide +kernel
theorem dX6_init_64 : decode cX6_init 64 = .ok (.bipush 11, 2) := by decide +kernel
theorem dX6_init_66 : decode cX6_init 66 = .ok (.newarray .char, 2) := by decide +kernel
theorem dX6_init_68 : decode cX6_init 68 = .ok (.dup, 1) := by decide +kernel
theorem dX6_init_69 : decode cX6_init 69 = .ok (.iconst 0, 1) := by decide +kernel
theorem dX6_init_70 : decode cX6_init 70 = .ok (.bipush 102, 2) := by decide +kernel
theorem dX6_init_72 : decode cX6_init 72 = .ok (.castore, 1) := by decide +kernel
theorem dX6_init_73 : decode cX6_init 73 = .ok (.dup, 1) := by decide +kernel
theorem dX6_init_74 : decode cX6_init 74 = .ok (.iconst 1, 1) := by decide +kernel
theorem dX6_init_75 : decode cX6_init 75 = .ok (.bipush 97, 2) := by decide +kernel
theorem dX6_init_77 : decode cX6_init 77 = .ok (.castore, 1) := by decide +kernel
theorem dX6_init_78 : decode cX6_init 78 = .ok (.dup, 1) := by decide +kernel
theorem dX6_init_79 : decode cX6_init 79 = .ok (.iconst 2, 1) := by decide +kernel
theorem dX6_init_80 : decode cX6_init 80 = .ok (.bipush 100, 2) := by decide +kernel
theorem dX6_init_82 : decode cX6_init 82 = .ok (.castore, 1) := by decide +kernel
theorem dX6_init_83 : decode cX6_init 83 = .ok (.dup, 1) := by decide +kernel
theorem dX6_init_84 : decode cX6_init 84 = .ok (.iconst 3, 1) := by decide +kernel
theorem dX6_init_85 : decode cX6_init 85 = .ok (.bipush 101, 2) := by decide +kernel
theorem dX6_init_87 : decode cX6_init 87 = .ok (.castore, 1) := by decide +kernel
theorem dX6_init_88 : decode cX6_init 88 = .ok (.dup, 1) := by decide +kernel
theorem dX6_init_89 : decode cX6_init 89 = .ok (.iconst 4, 1) := by decide +kernel
theorem dX6_init_90 : decode cX6_init 90 = .ok (.bipush 98, 2) := by decide +kernel
theorem dX6_init_92 : decode cX6_init 92 = .ok (.castore, 1) := by decide +kernel
theorem dX6_init_93 : decode cX6_init 93 = .ok (.dup, 1) := by decide +kernel
theorem dX6_init_94 : decode cX6_init 94 = .ok (.iconst 5, 1) := by decide +kernel
theorem dX6_init_95 : decode cX6_init 95 = .ok (.bipush 105, 2) := by decide +kernel
theorem dX6_init_97 : decode cX6_init 97 = .ok (.castore, 1) := by decide +kernel
theorem dX6_init_98 : decode cX6_init 98 = .ok (.dup, 1) := by decide +kernel
theorem dX6_init_99 : decode cX6_init 99 = .ok (.bipush 6, 2) := by decide +kernel
theorem dX6_init_101 : decode cX6_init 101 = .ok (.bipush 108, 2) := by decide +kernel
theorem dX6_init_103 : decode cX6_init 103 = .ok (.castore, 1) := by decide +kernel
theorem dX6_init_104 : decode cX6_init 104 = .ok (.dup, 1) := by decide +kernel
theorem dX6_init_105 : decode cX6_init 105 = .ok (.bipush 7, 2) := by decide +kernel
theorem dX6_init_107 : decode cX6_init 107 = .ok (.bipush 108, 2) := by decide +kernel
theorem dX6_init_109 : decode cX6_init 109 = .ok (.castore, 1) := by decide +kernel
theorem dX6_init_110 : decode cX6_init 110 = .ok (.dup, 1) := by decide +kernel
theorem dX6_init_111 : decode cX6_init 111 = .ok (.bipush 8, 2) := by decide +kernel
theorem dX6_init_113 : decode cX6_init 113 = .ok (.bipush 108, 2) := by decide +kernel
theorem dX6_init_115 : decode cX6_init 115 = .ok (.castore, 1) := by decide +kernel
theorem dX6_init_116 : decode cX6_init 116 = .ok (.dup, 1) := by decide +kernel
theorem dX6_init_117 : decode cX6_init 117 = .ok (.bipush 9, 2) := by decide +kernel
theorem dX6_init_119 : decode cX6_init 119 = .ok (.bipush 111, 2) := by decide +kernel
theorem dX6_init_121 : decode cX6_init 121 = .ok (.castore, 1) := by decide +kernel
theorem dX6_init_122 : decode cX6_init 122 = .ok (.dup, 1) := by decide +kernel
theorem dX6_init_123 : decode cX6_init 123 = .ok (.bipush 10, 2) := by decide +kernel
theorem dX6_init_125 : decode cX6_init 125 = .ok (.bipush 116, 2) := by decide +kernel
theorem dX6_init_127 : decode cX6_init 127 = .ok (.castore, 1) := by decide +kernel
theorem dX6_init_128 : decode cX6_init 128 = .ok (.putfield 31, 3) := by decide +kernel
theorem dX6_init_131 : decode cX6_init 131 = .ok (.aload_n 0, 1) := by decide +kernel
theorem dX6_init_132 : decode cX6_init 132 = .ok (.iconst 4, 1) := by decide +kernel
theorem dX6_init_133 : decode cX6_init 133 = .ok (.newarray .int, 2) := by decide +kernel
theorem dX6_init_135 : decode cX6_init 135 = .ok (.dup, 1) := by decide +kernel
theorem dX6_init_136 : decode cX6_init 136 = .ok (.iconst 0, 1) := by decide +kernel
theorem dX6_init_137 : decode cX6_init 137 = .ok (.iconst 0, 1) := by decide +kernel
theorem dX6_init_138 : decode cX6_init 138 = .ok (.iastore, 1) := by decide +kernel
theorem dX6_init_139 : decode cX6_init 139 = .ok (.dup, 1) := by decide +kernel
theorem dX6_init_140 : decode cX6_init 140 = .ok (.iconst 1, 1) := by decide +kernel
theorem dX6_init_141 : decode cX6_init 141 = .ok (.iconst 4, 1) := by decide +kernel
theorem dX6_init_142 : decode cX6_init 142 = .ok (.iastore, 1) := by decide +kernel
theorem dX6_init_143 : decode cX6_init 143 = .ok (.dup, 1) := by decide +kernel
theorem dX6_init_144 : decode cX6_init 144 = .ok (.iconst 2, 1) := by decide +kernel
theorem dX6_init_145 : decode cX6_init 145 = .ok (.bipush 8, 2) := by decide +kernel
theorem dX6_init_147 : decode cX6_init 147 = .ok (.iastore, 1) := by decide +kernel
theorem dX6_init_148 : decode cX6_init 148 = .ok (.dup, 1) := by decide +kernel
theorem dX6_init_149 : decode cX6_init 149 = .ok (.iconst 3, 1) := by decide +kernel
theorem dX6_init_150 : decode cX6_init 150 = .ok (.bipush 11, 2) := by decide +kernel
theorem dX6_init_152 : decode cX6_init 152 = .ok (.iastore, 1) := by decide +kernel
theorem dX6_init_153 : decode cX6_init 153 = .ok (.putfield 35, 3) := by decide +kernel
theorem dX6_init_156 : decode cX6_init 156 = .ok (.aload_n 0, 1) := by decide +kernel
theorem dX6_init_157 : decode cX6_init 157 = .ok (.bipush 96, 2) := by decide +kernel
theorem dX6_init_159 : decode cX6_init 159 = .ok (.newarray .int, 2) := by decide +kernel
theorem dX6_init_161 : decode cX6_init 161 = .ok (.putfield 38, 3) := by decide +kernel
theorem dX6_init_164 : decode cX6_init 164 = .ok (.aload_n 0, 1) := by decide +kernel
theorem dX6_init_165 : decode cX6_init 165 = .ok (.bipush 96, 2) := by decide +kernel
theorem dX6_init_167 : decode cX6_init 167 = .ok (.newarray .int, 2) := by decide +kernel
theorem dX6_init_169 : decode cX6_init 169 = .ok (.putfield 41, 3) := by decide +kernel
theorem dX6_init_172 : decode cX6_init 172 = .ok (.aload_n 0, 1) := by decide +kernel
theorem dX6_init_173 : decode cX6_init 173 = .ok (.bipush 10, 2) := by decide +kernel
theorem dX6_init_175 : decode cX6_init 175 = .ok (.newarray .boolean, 2) := by decide +kernel
theorem dX6_init_177 : decode cX6_init 177 = .ok (.putfield 44, 3) := by decide +kernel
theorem dX6_init_180 : decode cX6_init 180 = .ok (.aload_n 0, 1) := by decide +kernel
theorem dX6_init_181 : decode cX6_init 181 = .ok (.bipush 96, 2) := by decide +kernel
theorem dX6_init_183 : decode cX6_init 183 = .ok (.newarray .int, 2) := by decide +kernel
theorem dX6_init_185 : decode cX6_init 185 = .ok (.putfield 48, 3) := by decide +kernel
theorem dX6_init_188 : decode cX6_init 188 = .ok (.aload_n 0, 1) := by decide +kernel
theorem dX6_init_189 : decode cX6_init 189 = .ok (.iconst 4, 1) := by decide +kernel
theorem dX6_init_190 : decode cX6_init 190 = .ok (.newarray .int, 2) := by decide +kernel
theorem dX6_init_192 : decode cX6_init 192 = .ok (.putfield 51, 3) := by decide +kernel
theorem dX6_init_195 : decode cX6_init 195 = .ok (.aload_n 0, 1) := by decide +kernel
theorem dX6_init_196 : decode cX6_init 196 = .ok (.iconst 4, 1) := by decide +kernel
theorem dX6_init_197 : decode cX6_init 197 = .ok (.newarray .int, 2) := by decide +kernel
theorem dX6_init_199 : decode cX6_init 199 = .ok (.dup, 1) := by decide +kernel
theorem dX6_init_200 : decode cX6_init 200 = .ok (.iconst 0, 1) := by decide +kernel
theorem dX6_init_201 : decode cX6_init 201 = .ok (.iconst (-1), 1) := by decide +kernel
theorem dX6_init_202 : decode cX6_init 202 = .ok (.iastore, 1) := by decide +kernel
theorem dX6_init_203 : decode cX6_init 203 = .ok (.dup, 1) := by decide +kernel
theorem dX6_init_204 : decode cX6_init 204 = .ok (.iconst 1, 1) := by decide +kernel
theorem dX6_init_205 : decode cX6_init 205 = .ok (.iconst (-1), 1) := by decide +kernel
theorem dX6_init_206 : decode cX6_init 206 = .ok (.iastore, 1) := by decide +kernel
theorem dX6_init_207 : decode cX6_init 207 = .ok (.dup, 1) := by decide +kernel
theorem dX6_init_208 : decode cX6_init 208 = .ok (.iconst 2, 1) := by decide +kernel
theorem dX6_init_209 : decode cX6_init 209 = .ok (.iconst (-1), 1) := by decide +kernel
theorem dX6_init_210 : decode cX6_init 210 = .ok (.iastore, 1) := by decide +kernel
theorem dX6_init_211 : decode cX6_init 211 = .ok (.dup, 1) := by decide +kernel
theorem dX6_init_212 : decode cX6_init 212 = .ok (.iconst 3, 1) := by decide +kernel
theorem dX6_init_213 : decode cX6_init 213 = .ok (.iconst (-1), 1) := by decide +kernel
theorem dX6_init_214 : decode cX6_init 214 = .ok (.iastore, 1) := by decide +kernel
theorem dX6_init_215 : decode cX6_init 215 = .ok (.putfield 54, 3) := by decide +kernel
theorem dX6_init_218 : decode cX6_init 218 = .ok (.aload_n 0, 1) := by decide +kernel
theorem dX6_init_219 : decode cX6_init 219 = .ok (.iconst 4, 1) := by decide +kernel
theorem dX6_init_220 : decode cX6_init 220 = .ok (.newarray .int, 2) := by decide +kernel
theorem dX6_init_222 : decode cX6_init 222 = .ok (.putfield 57, 3) := by decide +kernel
theorem dX6_init_225 : decode cX6_init 225 = .ok (.aload_n 0, 1) := by decide +kernel
theorem dX6_init_226 : decode cX6_init 226 = .ok (.bipush 96, 2) := by decide +kernel
theorem dX6_init_228 : decode cX6_init 228 = .ok (.newarray .int, 2) := by decide +kernel
theorem dX6_init_230 : decode cX6_init 230 = .ok (.putfield 60, 3) := by decide +kernel
theorem dX6_init_233 : decode cX6_init 233 = .ok (.aload_n 0, 1) := by decide +kernel
theorem dX6_init_234 : decode cX6_init 234 = .ok (.iconst 5, 1) := by decide +kernel
theorem dX6_init_235 : decode cX6_init 235 = .ok (.newarray .int, 2) := by decide +kernel
theorem dX6_init_237 : decode cX6_init 237 = .ok (.putfield 63, 3) := by decide +kernel
theorem dX6_init_240 : decode cX6_init 240 = .ok (.aload_n 0, 1) := by decide +kernel
theorem dX6_init_241 : decode cX6_init 241 = .ok (.iconst 5, 1) := by decide +kernel
theorem dX6_init_242 : decode cX6_init 242 = .ok (.newarray .int, 2) := by decide +kernel
theorem dX6_init_244 : decode cX6_init 244 = .ok (.putfield 66, 3) := by decide +kernel
theorem dX6_init_247 : decode cX6_init 247 = .ok (.aload_n 0, 1) := by decide +kernel
theorem dX6_init_248 : decode cX6_init 248 = .ok (.iconst 5, 1) := by decide +kernel
theorem dX6_init_249 : decode cX6_init 249 = .ok (.newarray .int, 2) := by decide +kernel
theorem dX6_init_251 : decode cX6_init 251 = .ok (.putfield 69, 3) := by decide +kernel
theorem dX6_init_254 : decode cX6_init 254 = .ok (.aload_n 0, 1) := by decide +kernel
theorem dX6_init_255 : decode cX6_init 255 = .ok (.bipush 120, 2) := by decide +kernel
theorem dX6_init_257 : decode cX6_init 257 = .ok (.newarray .int, 2) := by decide +kernel
theorem dX6_init_259 : decode cX6_init 259 = .ok (.putfield 72, 3) := by decide +kernel
theorem dX6_init_262 : decode cX6_init 262 = .ok (.aload_n 0, 1) := by decide +kernel
theorem dX6_init_263 : decode cX6_init 263 = .ok (.bipush 24, 2) := by decide +kernel
theorem dX6_init_265 : decode cX6_init 265 = .ok (.newarray .int, 2) := by decide +kernel
theorem dX6_init_267 : decode cX6_init 267 = .ok (.putfield 75, 3) := by decide +kernel
theorem dX6_init_270 : decode cX6_init 270 = .ok (.aload_n 0, 1) := by decide +kernel
theorem dX6_init_271 : decode cX6_init 271 = .ok (.bipush 60, 2) := by decide +kernel
theorem dX6_init_273 : decode cX6_init 273 = .ok (.newarray .int, 2) := by decide +kernel
theorem dX6_init_275 : decode cX6_init 275 = .ok (.putfield 78, 3) := by decide +kernel
theorem dX6_init_278 : decode cX6_init 278 = .ok (.aload_n 0, 1) := by decide +kernel
theorem dX6_init_279 : decode cX6_init 279 = .ok (.getfield 9, 3) := by decide +kernel
theorem dX6_init_282 : decode cX6_init 282 = .ok (.iconst 0, 1) := by decide +kernel
theorem dX6_init_283 : decode cX6_init 283 = .ok (.iconst 1, 1) := by decide +kernel
theorem dX6_init_284 : decode cX6_init 284 = .ok (.iastore, 1) := by decide +kernel
theorem dX6_init_285 : decode cX6_init 285 = .ok (.aload_n 0, 1) := by decide +kernel
theorem dX6_init_286 : decode cX6_init 286 = .ok (.getfield 9, 3) := by decide +kernel
theorem dX6_init_289 : decode cX6_init 289 = .ok (.iconst 2, 1) := by decide +kernel
theorem dX6_init_290 : decode cX6_init 290 = .ok (.bipush 100, 2) := by decide +kernel
theorem dX6_init_292 : decode cX6_init 292 = .ok (.iastore, 1) := by decide +kernel
theorem dX6_init_293 : decode cX6_init 293 = .ok (.aload_n 0, 1) := by decide +kernel
theorem dX6_init_294 : decode cX6_init 294 = .ok (.getfield 9, 3) := by decide +kernel
theorem dX6_init_297 : decode cX6_init 297 = .ok (.iconst 3, 1) := by decide +kernel
theorem dX6_init_298 : decode cX6_init 298 = .ok (.bipush 20, 2) := by decide +kernel
theorem dX6_init_300 : decode cX6_init 300 = .ok (.iastore, 1) := by decide +kernel
theorem dX6_init_301 : decode cX6_init 301 = .ok (.return_, 1) := by decide +kernel
theorem dX6_in_0 : decode cX6_in 0 = .ok (.iload_n 0, 1) := by decide +kernel
theorem dX6_in_1 : decode cX6_in 1 = .ok (.iload_n 1, 1) := by decide +kernel
theorem dX6_in_2 : decode cX6_in 2 = .ok (.if_icmp .lt 12, 3) := by decide +kernel
theorem dX6_in_5 : decode cX6_in 5 = .ok (.iload_n 0, 1) := by decide +kernel
theorem dX6_in_6 : decode cX6_in 6 = .ok (.iload_n 2, 1) := by decide +kernel
theorem dX6_in_7 : decode cX6_in 7 = .ok (.if_icmp .gt 7, 3) := by decide +kernel
theorem dX6_in_10 : decode cX6_in 10 = .ok (.iconst 1, 1) := by decide +kernel
theorem dX6_in_11 : decode cX6_in 11 = .ok (.goto 4, 3) := by decide +kernel
theorem dX6_in_14 : decode cX6_in 14 = .ok (.iconst 0, 1) := by decide +kernel
theorem dX6_in_15 : decode cX6_in 15 = .ok (.ireturn, 1) := by decide +kernel
theorem dX6_within_0 : decode cX6_within 0 = .ok (.iload_n 0, 1) := by decide +kernel
theorem dX6_within_1 : decode cX6_within 1 = .ok (.iload_n 1, 1) := by decide +kernel
theorem dX6_within_2 : decode cX6_within 2 = .ok (.if_icmp .ge 7, 3) := by decide +kernel
theorem dX6_within_5 : decode cX6_within 5 = .ok (.iload_n 1, 1) := by decide +kernel
theorem dX6_within_6 : decode cX6_within 6 = .ok (.goto 13, 3) := by decide +kernel
theorem dX6_within_9 : decode cX6_within 9 = .ok (.iload_n 0, 1) := by decide +kernel
theorem dX6_within_10 : decode cX6_within 10 = .ok (.iload_n 2, 1) := by decide +kernel
theorem dX6_within_11 : decode cX6_within 11 = .ok (.if_icmp .le 7, 3) := by decide +kernel
theorem dX6_within_14 : decode cX6_within 14 = .ok (.iload_n 2, 1) := by decide +kernel
theorem dX6_within_15 : decode cX6_within 15 = .ok (.goto 4, 3) := by decide +kernel
theorem dX6_within_18 : decode cX6_within 18 = .ok (.iload_n 0, 1) := by decide +kernel
theorem dX6_within_19 : decode cX6_within 19 = .ok (.ireturn, 1) := by decide +kernel
theorem dX6_copyAll_0 : decode cX6_copyAll 0 = .ok (.iconst 0, 1) := by decide +kernel
theorem dX6_copyAll_1 : decode cX6_copyAll 1 = .ok (.istore_n 2, 1) := by decide +kernel
theorem dX6_copyAll_2 : decode cX6_copyAll 2 = .ok (.iload_n 2, 1) := by decide +kernel
theorem dX6_copyAll_3 : decode cX6_copyAll 3 = .ok (.sipush 1412, 3) := by decide +kernel
theorem dX6_copyAll_6 : decode cX6_copyAll 6 = .ok (.if_icmp .ge 15, 3) := by decide +kernel
theorem dX6_copyAll_9 : decode cX6_copyAll 9 = .ok (.aload_n 1, 1) := by decide +kernel
theorem dX6_copyAll_10 : decode cX6_copyAll 10 = .ok (.iload_n 2, 1) := by decide +kernel
theorem dX6_copyAll_11 : decode cX6_copyAll 11 = .ok (.aload_n 0, 1) := by decide +kernel
theorem dX6_copyAll_12 : decode cX6_copyAll 12 = .ok (.iload_n 2, 1) := by decide +kernel
theorem dX6_copyAll_13 : decode cX6_copyAll 13 = .ok (.iaload, 1) := by decide +kernel
theorem dX6_copyAll_14 : decode cX6_copyAll 14 = .ok (.iastore, 1) := by decide +kernel
theorem dX6_copyAll_15 : decode cX6_copyAll 15 = .ok (.iinc 2 1, 3) := by decide +kernel
theorem dX6_copyAll_18 : decode cX6_copyAll 18 = .ok (.goto (-16), 3) := by decide +kernel
theorem dX6_copyAll_21 : decode cX6_copyAll 21 = .ok (.return_, 1) := by decide +kernel
theorem dX6_off_0 : decode cX6_off 0 = .ok (.iload_n 0, 1) := by decide +kernel
theorem dX6_off_1 : decode cX6_off 1 = .ok (.iload_n 1, 1) := by decide +kernel
theorem dX6_off_2 : decode cX6_off 2 = .ok (.if_icmp .ge 9, 3) := by decide +kernel
theorem dX6_off_5 : decode cX6_off 5 = .ok (.iload_n 1, 1) := by decide +kernel
theorem dX6_off_6 : decode cX6_off 6 = .ok (.iload_n 0, 1) := by decide +kernel
theorem dX6_off_7 : decode cX6_off 7 = .ok (.isub, 1) := by decide +kernel
theorem dX6_off_8 : decode cX6_off 8 = .ok (.goto 6, 3) := by decide +kernel
theorem dX6_off_11 : decode cX6_off 11 = .ok (.iload_n 0, 1) := by decide +kernel
theorem dX6_off_12 : decode cX6_off 12 = .ok (.iload_n 1, 1) := by decide +kernel
theorem dX6_off_13 : decode cX6_off 13 = .ok (.isub, 1) := by decide +kernel
theorem dX6_off_14 : decode cX6_off 14 = .ok (.ireturn, 1) := by decide +kernel
theorem dX6_isThing_0 : decode cX6_isThing 0 = .ok (.iload_n 1, 1) := by decide +kernel
theorem dX6_isThing_1 : decode cX6_isThing 1 = .ok (.iconst 0, 1) := by decide +kernel
theorem dX6_isThing_2 : decode cX6_isThing 2 = .ok (.aload_n 0, 1) := by decide +kernel
theorem dX6_isThing_3 : decode cX6_isThing 3 = .ok (.getfield 9, 3) := by decide +kernel
theorem dX6_isThing_6 : decode cX6_isThing 6 = .ok (.iconst 1, 1) := by decide +kernel
theorem dX6_isThing_7 : decode cX6_isThing 7 = .ok (.iaload, 1) := by decide +kernel
theorem dX6_isThing_8 : decode cX6_isThing 8 = .ok (.iconst 1, 1) := by decide +kernel
theorem dX6_isThing_9 : decode cX6_isThing 9 = .ok (.isub, 1) := by decide +kernel
theorem dX6_isThing_10 : decode cX6_isThing 10 = .ok (.invokestatic 82, 3) := by decide +kernel
theorem dX6_isThing_13 : decode cX6_isThing 13 = .ok (.ireturn, 1) := by decide +kernel
theorem dX6_of_0 : decode cX6_of 0 = .ok (.aload_n 0, 1) := by decide +kernel
theorem dX6_of_1 : decode cX6_of 1 = .ok (.getfield 9, 3) := by decide +kernel
theorem dX6_of_4 : decode cX6_of 4 = .ok (.bipush 8, 2) := by decide +kernel
theorem dX6_of_6 : decode cX6_of 6 = .ok (.iconst 4, 1) := by decide +kernel
theorem dX6_of_7 : decode cX6_of 7 = .ok (.iload_n 1, 1) := by decide +kernel
theorem dX6_of_8 : decode cX6_of 8 = .ok (.imul, 1) := by decide +kernel
theorem dX6_of_9 : decode cX6_of 9 = .ok (.iadd, 1) := by decide +kernel
theorem dX6_of_10 : decode cX6_of 10 = .ok (.iload_n 2, 1) := by decide +kernel
theorem dX6_of_11 : decode cX6_of 11 = .ok (.iadd, 1) := by decide +kernel
theorem dX6_of_12 : decode cX6_of 12 = .ok (.iaload, 1) := by decide +kernel
theorem dX6_of_13 : decode cX6_of 13 = .ok (.ireturn, 1) := by decide +kernel
theorem dX6_put_0 : decode cX6_put 0 = .ok (.aload_n 0, 1) := by decide +kernel
theorem dX6_put_1 : decode cX6_put 1 = .ok (.getfield 9, 3) := by decide +kernel
theorem dX6_put_4 : decode cX6_put 4 = .ok (.bipush 8, 2) := by decide +kernel
theorem dX6_put_6 : decode cX6_put 6 = .ok (.iconst 4, 1) := by decide +kernel
theorem dX6_put_7 : decode cX6_put 7 = .ok (.iload_n 1, 1) := by decide +kernel
theorem dX6_put_8 : decode cX6_put 8 = .ok (.imul, 1) := by decide +kernel
theorem dX6_put_9 : decode cX6_put 9 = .ok (.iadd, 1) := by decide +kernel
theorem dX6_put_10 : decode cX6_put 10 = .ok (.iload_n 2, 1) := by decide +kernel
theorem dX6_put_11 : decode cX6_put 11 = .ok (.iadd, 1) := by decide +kernel
theorem dX6_put_12 : decode cX6_put 12 = .ok (.iload_n 3, 1) := by decide +kernel
theorem dX6_put_13 : decode cX6_put 13 = .ok (.iastore, 1) := by decide +kernel
theorem dX6_put_14 : decode cX6_put 14 = .ok (.return_, 1) := by decide +kernel
theorem dX6_becomes_0 : decode cX6_becomes 0 = .ok (.aload_n 0, 1) := by decide +kernel
theorem dX6_becomes_1 : decode cX6_becomes 1 = .ok (.getfield 9, 3) := by decide +kernel
theorem dX6_becomes_4 : decode cX6_becomes 4 = .ok (.iload_n 1, 1) := by decide +kernel
theorem dX6_becomes_5 : decode cX6_becomes 5 = .ok (.iaload, 1) := by decide +kernel
theorem dX6_becomes_6 : decode cX6_becomes 6 = .ok (.istore_n 3, 1) := by decide +kernel
theorem dX6_becomes_7 : decode cX6_becomes 7 = .ok (.aload_n 0, 1) := by decide +kernel
theorem dX6_becomes_8 : decode cX6_becomes 8 = .ok (.getfield 9, 3) := by decide +kernel
theorem dX6_becomes_11 : decode cX6_becomes 11 = .ok (.iload_n 1, 1) := by decide +kernel
theorem dX6_becomes_12 : decode cX6_becomes 12 = .ok (.iload_n 2, 1) := by decide +kernel
theorem dX6_becomes_13 : decode cX6_becomes 13 = .ok (.iastore, 1) := by decide +kernel
theorem dX6_becomes_14 : decode cX6_becomes 14 = .ok (.iload_n 3, 1) := by decide +kernel
theorem dX6_becomes_15 : decode cX6_becomes 15 = .ok (.ireturn, 1) := by decide +kernel
theorem dX6_comes_0 : decode cX6_comes 0 = .ok (.aload_n 0, 1) := by decide +kernel
theorem dX6_comes_1 : decode cX6_comes 1 = .ok (.getfield 9, 3) := by decide +kernel
theorem dX6_comes_4 : decode cX6_comes 4 = .ok (.iconst 1, 1) := by decide +kernel
theorem dX6_comes_5 : decode cX6_comes 5 = .ok (.iaload, 1) := by decide +kernel
theorem dX6_comes_6 : decode cX6_comes 6 = .ok (.istore 4, 2) := by decide +kernel
theorem dX6_comes_8 : decode cX6_comes 8 = .ok (.aload_n 0, 1) := by decide +kernel
theorem dX6_comes_9 : decode cX6_comes 9 = .ok (.iload 4, 2) := by decide +kernel
theorem dX6_comes_11 : decode cX6_comes 11 = .ok (.iconst 0, 1) := by decide +kernel
theorem dX6_comes_12 : decode cX6_comes 12 = .ok (.iload_n 1, 1) := by decide +kernel
theorem dX6_comes_13 : decode cX6_comes 13 = .ok (.invokevirtual 86, 3) := by decide +kernel
theorem dX6_comes_16 : decode cX6_comes 16 = .ok (.aload_n 0, 1) := by decide +kernel
theorem dX6_comes_17 : decode cX6_comes 17 = .ok (.iload 4, 2) := by decide +kernel
theorem dX6_comes_19 : decode cX6_comes 19 = .ok (.iconst 1, 1) := by decide +kernel
theorem dX6_comes_20 : decode cX6_comes 20 = .ok (.iload_n 2, 1) := by decide +kernel
theorem dX6_comes_21 : decode cX6_comes 21 = .ok (.invokevirtual 86, 3) := by decide +kernel
theorem dX6_comes_24 : decode cX6_comes 24 = .ok (.aload_n 0, 1) := by decide +kernel
theorem dX6_comes_25 : decode cX6_comes 25 = .ok (.iload 4, 2) := by decide +kernel
theorem dX6_comes_27 : decode cX6_comes 27 = .ok (.iconst 2, 1) := by decide +kernel
theorem dX6_comes_28 : decode cX6_comes 28 = .ok (.iload_n 3, 1) := by decide +kernel
theorem dX6_comes_29 : decode cX6_comes 29 = .ok (.invokevirtual 86, 3) := by decide +kernel
theorem dX6_comes_32 : decode cX6_comes 32 = .ok (.aload_n 0, 1) := by decide +kernel
theorem dX6_comes_33 : decode cX6_comes 33 = .ok (.iload 4, 2) := by decide +kernel
theorem dX6_comes_35 : decode cX6_comes 35 = .ok (.iconst 3, 1) := by decide +kernel
theorem dX6_comes_36 : decode cX6_comes 36 = .ok (.iconst 0, 1) := by decide +kernel
theorem dX6_comes_37 : decode cX6_comes 37 = .ok (.invokevirtual 86, 3) := by decide +kernel
theorem dX6_comes_40 : decode cX6_comes 40 = .ok (.aload_n 0, 1) := by decide +kernel
theorem dX6_comes_41 : decode cX6_comes 41 = .ok (.getfield 9, 3) := by decide +kernel
theorem dX6_comes_44 : decode cX6_comes 44 = .ok (.iconst 1, 1) := by decide +kernel
theorem dX6_comes_45 : decode cX6_comes 45 = .ok (.dup2, 1) := by decide +kernel
theorem dX6_comes_46 : decode cX6_comes 46 = .ok (.iaload, 1) := by decide +kernel
theorem dX6_comes_47 : decode cX6_comes 47 = .ok (.iconst 1, 1) := by decide +kernel
theorem dX6_comes_48 : decode cX6_comes 48 = .ok (.iadd, 1) := by decide +kernel
theorem dX6_comes_49 : decode cX6_comes 49 = .ok (.iastore, 1) := by decide +kernel
theorem dX6_comes_50 : decode cX6_comes 50 = .ok (.iload 4, 2) := by decide +kernel
theorem dX6_comes_52 : decode cX6_comes 52 = .ok (.ireturn, 1) := by decide +kernel
theorem dX6_thing_0 : decode cX6_thing 0 = .ok (.iload_n 1, 1) := by decide +kernel
theorem dX6_thing_1 : decode cX6_thing 1 = .ok (.iconst 0, 1) := by decide +kernel
theorem dX6_thing_2 : decode cX6_thing 2 = .ok (.iconst 5, 1) := by decide +kernel
theorem dX6_thing_3 : decode cX6_thing 3 = .ok (.invokestatic 82, 3) := by decide +kernel
theorem dX6_thing_6 : decode cX6_thing 6 = .ok (.ifCond .eq 13, 3) := by decide +kernel
theorem dX6_thing_9 : decode cX6_thing 9 = .ok (.iload_n 2, 1) := by decide +kernel
theorem dX6_thing_10 : decode cX6_thing 10 = .ok (.iconst 1, 1) := by decide +kernel
theorem dX6_thing_11 : decode cX6_thing 11 = .ok (.bipush 9, 2) := by decide +kernel
theorem dX6_thing_13 : decode cX6_thing 13 = .ok (.invokestatic 82, 3) := by decide +kernel
theorem dX6_thing_16 : decode cX6_thing 16 = .ok (.ifCond .ne 6, 3) := by decide +kernel
theorem dX6_thing_19 : decode cX6_thing 19 = .ok (.ldc 90, 2) := by decide +kernel
theorem dX6_thing_21 : decode cX6_thing 21 = .ok (.ireturn, 1) := by decide +kernel
theorem dX6_thing_22 : decode cX6_thing 22 = .ok (.aload_n 0, 1) := by decide +kernel
theorem dX6_thing_23 : decode cX6_thing 23 = .ok (.getfield 9, 3) := by decide +kernel
theorem dX6_thing_26 : decode cX6_thing 26 = .ok (.iconst 1, 1) := by decide +kernel
theorem dX6_thing_27 : decode cX6_thing 27 = .ok (.iaload, 1) := by decide +kernel
theorem dX6_thing_28 : decode cX6_thing 28 = .ok (.bipush 8, 2) := by decide +kernel
theorem dX6_thing_30 : decode cX6_thing 30 = .ok (.if_icmp .ne 8, 3) := by decide +kernel
theorem dX6_thing_33 : decode cX6_thing 33 = .ok (.ldc 91, 2) := by decide +kernel
theorem dX6_thing_35 : decode cX6_thing 35 = .ok (.goto 10, 3) := by decide +kernel
theorem dX6_thing_38 : decode cX6_thing 38 = .ok (.aload_n 0, 1) := by decide +kernel
theorem dX6_thing_39 : decode cX6_thing 39 = .ok (.iload_n 1, 1) := by decide +kernel
theorem dX6_thing_40 : decode cX6_thing 40 = .ok (.iload_n 2, 1) := by decide +kernel
theorem dX6_thing_41 : decode cX6_thing 41 = .ok (.iconst 0, 1) := by decide +kernel
theorem dX6_thing_42 : decode cX6_thing 42 = .ok (.invokevirtual 92, 3) := by decide +kernel
theorem dX6_thing_45 : decode cX6_thing 45 = .ok (.ireturn, 1) := by decide +kernel
theorem dX6_tosses_0 : decode cX6_tosses 0 = .ok (.aload_n 0, 1) := by decide +kernel
theorem dX6_tosses_1 : decode cX6_tosses 1 = .ok (.iload_n 1, 1) := by decide +kernel
theorem dX6_tosses_2 : decode cX6_tosses 2 = .ok (.iconst 2, 1) := by decide +kernel
theorem dX6_tosses_3 : decode cX6_tosses 3 = .ok (.aload_n 0, 1) := by decide +kernel
theorem dX6_tosses_4 : decode cX6_tosses 4 = .ok (.iload_n 1, 1) := by decide +kernel
theorem dX6_tosses_5 : decode cX6_tosses 5 = .ok (.iconst 2, 1) := by decide +kernel
theorem dX6_tosses_6 : decode cX6_tosses 6 = .ok (.invokevirtual 96, 3) := by decide +kernel
theorem dX6_tosses_9 : decode cX6_tosses 9 = .ok (.iload_n 2, 1) := by decide +kernel
theorem dX6_tosses_10 : decode cX6_tosses 10 = .ok (.iadd, 1) := by decide +kernel
theorem dX6_tosses_11 : decode cX6_tosses 11 = .ok (.iconst 0, 1) := by decide +kernel
theorem dX6_tosses_12 : decode cX6_tosses 12 = .ok (.ldc 100, 2) := by decide +kernel
theorem dX6_tosses_14 : decode cX6_tosses 14 = .ok (.invokestatic 101, 3) := by decide +kernel
theorem dX6_tosses_17 : decode cX6_tosses 17 = .ok (.invokevirtual 86, 3) := by decide +kernel
theorem dX6_tosses_20 : decode cX6_tosses 20 = .ok (.return_, 1) := by decide +kernel
theorem dX6_toss_0 : decode cX6_toss 0 = .ok (.aload_n 0, 1) := by decide +kernel
theorem dX6_toss_1 : decode cX6_toss 1 = .ok (.iload_n 1, 1) := by decide +kernel
theorem dX6_toss_2 : decode cX6_toss 2 = .ok (.invokevirtual 104, 3) := by decide +kernel
theorem dX6_toss_5 : decode cX6_toss 5 = .ok (.ifCond .eq 14, 3) := by decide +kernel
theorem dX6_toss_8 : decode cX6_toss 8 = .ok (.iload_n 2, 1) := by decide +kernel
theorem dX6_toss_9 : decode cX6_toss 9 = .ok (.iconst 1, 1) := by decide +kernel
theorem dX6_toss_10 : decode cX6_toss 10 = .ok (.sipush 9999, 3) := by decide +kernel
theorem dX6_toss_13 : decode cX6_toss 13 = .ok (.invokestatic 82, 3) := by decide +kernel
theorem dX6_toss_16 : decode cX6_toss 16 = .ok (.ifCond .ne 6, 3) := by decide +kernel
theorem dX6_toss_19 : decode cX6_toss 19 = .ok (.ldc 90, 2) := by decide +kernel
theorem dX6_toss_21 : decode cX6_toss 21 = .ok (.ireturn, 1) := by decide +kernel
theorem dX6_toss_22 : decode cX6_toss 22 = .ok (.aload_n 0, 1) := by decide +kernel
theorem dX6_toss_23 : decode cX6_toss 23 = .ok (.iload_n 1, 1) := by decide +kernel
theorem dX6_toss_24 : decode cX6_toss 24 = .ok (.iload_n 2, 1) := by decide +kernel
theorem dX6_toss_25 : decode cX6_toss 25 = .ok (.invokevirtual 108, 3) := by decide +kernel
theorem dX6_toss_28 : decode cX6_toss 28 = .ok (.aload_n 0, 1) := by decide +kernel
theorem dX6_toss_29 : decode cX6_toss 29 = .ok (.iload_n 1, 1) := by decide +kernel
theorem dX6_toss_30 : decode cX6_toss 30 = .ok (.iconst 2, 1) := by decide +kernel
theorem dX6_toss_31 : decode cX6_toss 31 = .ok (.invokevirtual 96, 3) := by decide +kernel
theorem dX6_toss_34 : decode cX6_toss 34 = .ok (.ireturn, 1) := by decide +kernel
theorem dX6_fadesBy_0 : decode cX6_fadesBy 0 = .ok (.aload_n 0, 1) := by decide +kernel
theorem dX6_fadesBy_1 : decode cX6_fadesBy 1 = .ok (.iconst 0, 1) := by decide +kernel
theorem dX6_fadesBy_2 : decode cX6_fadesBy 2 = .ok (.invokevirtual 112, 3) := by decide +kernel
theorem dX6_fadesBy_5 : decode cX6_fadesBy 5 = .ok (.istore_n 3, 1) := by decide +kernel
theorem dX6_fadesBy_6 : decode cX6_fadesBy 6 = .ok (.aload_n 0, 1) := by decide +kernel
theorem dX6_fadesBy_7 : decode cX6_fadesBy 7 = .ok (.getfield 51, 3) := by decide +kernel
theorem dX6_fadesBy_10 : decode cX6_fadesBy 10 = .ok (.iconst 0, 1) := by decide +kernel
theorem dX6_fadesBy_11 : decode cX6_fadesBy 11 = .ok (.aload_n 0, 1) := by decide +kernel
theorem dX6_fadesBy_12 : decode cX6_fadesBy 12 = .ok (.iload_n 1, 1) := by decide +kernel
theorem dX6_fadesBy_13 : decode cX6_fadesBy 13 = .ok (.iconst 2, 1) := by decide +kernel
theorem dX6_fadesBy_14 : decode cX6_fadesBy 14 = .ok (.invokevirtual 96, 3) := by decide +kernel
theorem dX6_fadesBy_17 : decode cX6_fadesBy 17 = .ok (.iastore, 1) := by decide +kernel
theorem dX6_fadesBy_18 : decode cX6_fadesBy 18 = .ok (.aload_n 0, 1) := by decide +kernel
theorem dX6_fadesBy_19 : decode cX6_fadesBy 19 = .ok (.getfield 51, 3) := by decide +kernel
theorem dX6_fadesBy_22 : decode cX6_fadesBy 22 = .ok (.iconst 1, 1) := by decide +kernel
theorem dX6_fadesBy_23 : decode cX6_fadesBy 23 = .ok (.aload_n 0, 1) := by decide +kernel
theorem dX6_fadesBy_24 : decode cX6_fadesBy 24 = .ok (.iload_n 1, 1) := by decide +kernel
theorem dX6_fadesBy_25 : decode cX6_fadesBy 25 = .ok (.iconst 3, 1) := by decide +kernel
theorem dX6_fadesBy_26 : decode cX6_fadesBy 26 = .ok (.invokevirtual 96, 3) := by decide +kernel
theorem dX6_fadesBy_29 : decode cX6_fadesBy 29 = .ok (.iastore, 1) := by decide +kernel
theorem dX6_fadesBy_30 : decode cX6_fadesBy 30 = .ok (.aload_n 0, 1) := by decide +kernel
theorem dX6_fadesBy_31 : decode cX6_fadesBy 31 = .ok (.getfield 51, 3) := by decide +kernel
theorem dX6_fadesBy_34 : decode cX6_fadesBy 34 = .ok (.iconst 2, 1) := by decide +kernel
theorem dX6_fadesBy_35 : decode cX6_fadesBy 35 = .ok (.iload_n 2, 1) := by decide +kernel
theorem dX6_fadesBy_36 : decode cX6_fadesBy 36 = .ok (.iastore, 1) := by decide +kernel
theorem dX6_fadesBy_37 : decode cX6_fadesBy 37 = .ok (.iload_n 3, 1) := by decide +kernel
theorem dX6_fadesBy_38 : decode cX6_fadesBy 38 = .ok (.ifCond .ge 14, 3) := by decide +kernel
theorem dX6_fadesBy_41 : decode cX6_fadesBy 41 = .ok (.iconst 2, 1) := by decide +kernel
theorem dX6_fadesBy_42 : decode cX6_fadesBy 42 = .ok (.aload_n 0, 1) := by decide +kernel
theorem dX6_fadesBy_43 : decode cX6_fadesBy 43 = .ok (.iload_n 1, 1) := by decide +kernel
theorem dX6_fadesBy_44 : decode cX6_fadesBy 44 = .ok (.iconst 3, 1) := by decide +kernel
theorem dX6_fadesBy_45 : decode cX6_fadesBy 45 = .ok (.invokevirtual 96, 3) := by decide +kernel
theorem dX6_fadesBy_48 : decode cX6_fadesBy 48 = .ok (.imul, 1) := by decide +kernel
theorem dX6_fadesBy_49 : decode cX6_fadesBy 49 = .ok (.goto 8, 3) := by decide +kernel
theorem dX6_fadesBy_52 : decode cX6_fadesBy 52 = .ok (.aload_n 0, 1) := by decide +kernel
theorem dX6_fadesBy_53 : decode cX6_fadesBy 53 = .ok (.iload_n 3, 1) := by decide +kernel
theorem dX6_fadesBy_54 : decode cX6_fadesBy 54 = .ok (.invokevirtual 116, 3) := by decide +kernel
theorem dX6_fadesBy_57 : decode cX6_fadesBy 57 = .ok (.iconst 0, 1) := by decide +kernel
theorem dX6_fadesBy_58 : decode cX6_fadesBy 58 = .ok (.iload_n 2, 1) := by decide +kernel
theorem dX6_fadesBy_59 : decode cX6_fadesBy 59 = .ok (.invokestatic 101, 3) := by decide +kernel
theorem dX6_fadesBy_62 : decode cX6_fadesBy 62 = .ok (.ireturn, 1) := by decide +kernel
theorem dX6_tasteOf_0 : decode cX6_tasteOf 0 = .ok (.aload_n 0, 1) := by decide +kernel
theorem dX6_tasteOf_1 : decode cX6_tasteOf 1 = .ok (.iload_n 1, 1) := by decide +kernel
theorem dX6_tasteOf_2 : decode cX6_tasteOf 2 = .ok (.iconst 2, 1) := by decide +kernel
theorem dX6_tasteOf_3 : decode cX6_tasteOf 3 = .ok (.invokevirtual 96, 3) := by decide +kernel
theorem dX6_tasteOf_6 : decode cX6_tasteOf 6 = .ok (.aload_n 0, 1) := by decide +kernel
theorem dX6_tasteOf_7 : decode cX6_tasteOf 7 = .ok (.iload_n 1, 1) := by decide +kernel
theorem dX6_tasteOf_8 : decode cX6_tasteOf 8 = .ok (.iconst 1, 1) := by decide +kernel
theorem dX6_tasteOf_9 : decode cX6_tasteOf 9 = .ok (.invokevirtual 96, 3) := by decide +kernel
theorem dX6_tasteOf_12 : decode cX6_tasteOf 12 = .ok (.imul, 1) := by decide +kernel
theorem dX6_tasteOf_13 : decode cX6_tasteOf 13 = .ok (.bipush 100, 2) := by decide +kernel
theorem dX6_tasteOf_15 : decode cX6_tasteOf 15 = .ok (.idiv, 1) := by decide +kernel
theorem dX6_tasteOf_16 : decode cX6_tasteOf 16 = .ok (.istore_n 2, 1) := by decide +kernel
theorem dX6_tasteOf_17 : decode cX6_tasteOf 17 = .ok (.aload_n 0, 1) := by decide +kernel
theorem dX6_tasteOf_18 : decode cX6_tasteOf 18 = .ok (.iload_n 1, 1) := by decide +kernel
theorem dX6_tasteOf_19 : decode cX6_tasteOf 19 = .ok (.iconst 2, 1) := by decide +kernel
theorem dX6_tasteOf_20 : decode cX6_tasteOf 20 = .ok (.invokevirtual 96, 3) := by decide +kernel
theorem dX6_tasteOf_23 : decode cX6_tasteOf 23 = .ok (.ifCond .le 18, 3) := by decide +kernel
theorem dX6_tasteOf_26 : decode cX6_tasteOf 26 = .ok (.aload_n 0, 1) := by decide +kernel
theorem dX6_tasteOf_27 : decode cX6_tasteOf 27 = .ok (.iload_n 1, 1) := by decide +kernel
theorem dX6_tasteOf_28 : decode cX6_tasteOf 28 = .ok (.iconst 3, 1) := by decide +kernel
theorem dX6_tasteOf_29 : decode cX6_tasteOf 29 = .ok (.invokevirtual 96, 3) := by decide +kernel
theorem dX6_tasteOf_32 : decode cX6_tasteOf 32 = .ok (.iconst 0, 1) := by decide +kernel
theorem dX6_tasteOf_33 : decode cX6_tasteOf 33 = .ok (.bipush 30, 2) := by decide +kernel
theorem dX6_tasteOf_35 : decode cX6_tasteOf 35 = .ok (.invokestatic 101, 3) := by decide +kernel
theorem dX6_tasteOf_38 : decode cX6_tasteOf 38 = .ok (.goto 4, 3) := by decide +kernel
theorem dX6_tasteOf_41 : decode cX6_tasteOf 41 = .ok (.iconst 0, 1) := by decide +kernel
theorem dX6_tasteOf_42 : decode cX6_tasteOf 42 = .ok (.istore_n 3, 1) := by decide +kernel
theorem dX6_tasteOf_43 : decode cX6_tasteOf 43 = .ok (.aload_n 0, 1) := by decide +kernel
theorem dX6_tasteOf_44 : decode cX6_tasteOf 44 = .ok (.iload_n 1, 1) := by decide +kernel
theorem dX6_tasteOf_45 : decode cX6_tasteOf 45 = .ok (.iconst 0, 1) := by decide +kernel
theorem dX6_tasteOf_46 : decode cX6_tasteOf 46 = .ok (.invokevirtual 96, 3) := by decide +kernel
theorem dX6_tasteOf_49 : decode cX6_tasteOf 49 = .ok (.tableswitch 69 1 5 #[35, 39, 48, 54, 65], 35) := by decide +kernel
theorem dX6_tasteOf_84 : decode cX6_tasteOf 84 = .ok (.iload_n 2, 1) := by decide +kernel
theorem dX6_tasteOf_85 : decode cX6_tasteOf 85 = .ok (.iload_n 3, 1) := by decide +kernel
theorem dX6_tasteOf_86 : decode cX6_tasteOf 86 = .ok (.iadd, 1) := by decide +kernel
theorem dX6_tasteOf_87 : decode cX6_tasteOf 87 = .ok (.ireturn, 1) := by decide +kernel
theorem dX6_tasteOf_88 : decode cX6_tasteOf 88 = .ok (.iload_n 2, 1) := by decide +kernel
theorem dX6_tasteOf_89 : decode cX6_tasteOf 89 = .ok (.aload_n 0, 1) := by decide +kernel
theorem dX6_tasteOf_90 : decode cX6_tasteOf 90 = .ok (.iload_n 1, 1) := by decide +kernel
theorem dX6_tasteOf_91 : decode cX6_tasteOf 91 = .ok (.iload_n 2, 1) := by decide +kernel
theorem dX6_tasteOf_92 : decode cX6_tasteOf 92 = .ok (.invokevirtual 119, 3) := by decide +kernel
theorem dX6_tasteOf_95 : decode cX6_tasteOf 95 = .ok (.isub, 1) := by decide +kernel
theorem dX6_tasteOf_96 : decode cX6_tasteOf 96 = .ok (.ireturn, 1) := by decide +kernel
theorem dX6_tasteOf_97 : decode cX6_tasteOf 97 = .ok (.iconst 2, 1) := by decide +kernel
theorem dX6_tasteOf_98 : decode cX6_tasteOf 98 = .ok (.iload_n 2, 1) := by decide +kernel
theorem dX6_tasteOf_99 : decode cX6_tasteOf 99 = .ok (.iload_n 3, 1) := by decide +kernel
theorem dX6_tasteOf_100 : decode cX6_tasteOf 100 = .ok (.iadd, 1) := by decide +kernel
theorem dX6_tasteOf_101 : decode cX6_tasteOf 101 = .ok (.imul, 1) := by decide +kernel
theorem dX6_tasteOf_102 : decode cX6_tasteOf 102 = .ok (.ireturn, 1) := by decide +kernel
theorem dX6_tasteOf_103 : decode cX6_tasteOf 103 = .ok (.iload_n 2, 1) := by decide +kernel
theorem dX6_tasteOf_104 : decode cX6_tasteOf 104 = .ok (.aload_n 0, 1) := by decide +kernel
theorem dX6_tasteOf_105 : decode cX6_tasteOf 105 = .ok (.iload_n 1, 1) := by decide +kernel
theorem dX6_tasteOf_106 : decode cX6_tasteOf 106 = .ok (.iload_n 2, 1) := by decide +kernel
theorem dX6_tasteOf_107 : decode cX6_tasteOf 107 = .ok (.invokevirtual 119, 3) := by decide +kernel
theorem dX6_tasteOf_110 : decode cX6_tasteOf 110 = .ok (.isub, 1) := by decide +kernel
theorem dX6_tasteOf_111 : decode cX6_tasteOf 111 = .ok (.iconst 2, 1) := by decide +kernel
theorem dX6_tasteOf_112 : decode cX6_tasteOf 112 = .ok (.idiv, 1) := by decide +kernel
theorem dX6_tasteOf_113 : decode cX6_tasteOf 113 = .ok (.ireturn, 1) := by decide +kernel
theorem dX6_tasteOf_114 : decode cX6_tasteOf 114 = .ok (.iconst 2, 1) := by decide +kernel
theorem dX6_tasteOf_115 : decode cX6_tasteOf 115 = .ok (.iload_n 2, 1) := by decide +kernel
theorem dX6_tasteOf_116 : decode cX6_tasteOf 116 = .ok (.imul, 1) := by decide +kernel
theorem dX6_tasteOf_117 : decode cX6_tasteOf 117 = .ok (.ireturn, 1) := by decide +kernel
theorem dX6_tasteOf_118 : decode cX6_tasteOf 118 = .ok (.iload_n 2, 1) := by decide +kernel
theorem dX6_tasteOf_119 : decode cX6_tasteOf 119 = .ok (.ireturn, 1) := by decide +kernel
theorem dX6_wearsOf_0 : decode cX6_wearsOf 0 = .ok (.aload_n 0, 1) := by decide +kernel
theorem dX6_wearsOf_1 : decode cX6_wearsOf 1 = .ok (.iload_n 1, 1) := by decide +kernel
theorem dX6_wearsOf_2 : decode cX6_wearsOf 2 = .ok (.iconst 2, 1) := by decide +kernel
theorem dX6_wearsOf_3 : decode cX6_wearsOf 3 = .ok (.invokevirtual 96, 3) := by decide +kernel
theorem dX6_wearsOf_6 : decode cX6_wearsOf 6 = .ok (.istore_n 2, 1) := by decide +kernel
theorem dX6_wearsOf_7 : decode cX6_wearsOf 7 = .ok (.iload_n 2, 1) := by decide +kernel
theorem dX6_wearsOf_8 : decode cX6_wearsOf 8 = .ok (.bipush 20, 2) := by decide +kernel
theorem dX6_wearsOf_10 : decode cX6_wearsOf 10 = .ok (.idiv, 1) := by decide +kernel
theorem dX6_wearsOf_11 : decode cX6_wearsOf 11 = .ok (.iconst 1, 1) := by decide +kernel
theorem dX6_wearsOf_12 : decode cX6_wearsOf 12 = .ok (.iadd, 1) := by decide +kernel
theorem dX6_wearsOf_13 : decode cX6_wearsOf 13 = .ok (.iconst 0, 1) := by decide +kernel
theorem dX6_wearsOf_14 : decode cX6_wearsOf 14 = .ok (.iload_n 2, 1) := by decide +kernel
theorem dX6_wearsOf_15 : decode cX6_wearsOf 15 = .ok (.invokestatic 101, 3) := by decide +kernel
theorem dX6_wearsOf_18 : decode cX6_wearsOf 18 = .ok (.istore_n 3, 1) := by decide +kernel
theorem dX6_wearsOf_19 : decode cX6_wearsOf 19 = .ok (.aload_n 0, 1) := by decide +kernel
theorem dX6_wearsOf_20 : decode cX6_wearsOf 20 = .ok (.iload_n 1, 1) := by decide +kernel
theorem dX6_wearsOf_21 : decode cX6_wearsOf 21 = .ok (.iconst 0, 1) := by decide +kernel
theorem dX6_wearsOf_22 : decode cX6_wearsOf 22 = .ok (.invokevirtual 96, 3) := by decide +kernel
theorem dX6_wearsOf_25 : decode cX6_wearsOf 25 = .ok (.tableswitch 47 1 4 #[31, 36, 31, 38], 31) := by decide +kernel
theorem dX6_wearsOf_56 : decode cX6_wearsOf 56 = .ok (.iload_n 2, 1) := by decide +kernel
theorem dX6_wearsOf_57 : decode cX6_wearsOf 57 = .ok (.bipush 100, 2) := by decide +kernel
theorem dX6_wearsOf_59 : decode cX6_wearsOf 59 = .ok (.idiv, 1) := by decide +kernel
theorem dX6_wearsOf_60 : decode cX6_wearsOf 60 = .ok (.ireturn, 1) := by decide +kernel
theorem dX6_wearsOf_61 : decode cX6_wearsOf 61 = .ok (.iload_n 3, 1) := by decide +kernel
theorem dX6_wearsOf_62 : decode cX6_wearsOf 62 = .ok (.ireturn, 1) := by decide +kernel
theorem dX6_wearsOf_63 : decode cX6_wearsOf 63 = .ok (.iconst 2, 1) := by decide +kernel
theorem dX6_wearsOf_64 : decode cX6_wearsOf 64 = .ok (.iload_n 3, 1) := by decide +kernel
theorem dX6_wearsOf_65 : decode cX6_wearsOf 65 = .ok (.imul, 1) := by decide +kernel
theorem dX6_wearsOf_66 : decode cX6_wearsOf 66 = .ok (.iconst 0, 1) := by decide +kernel
theorem dX6_wearsOf_67 : decode cX6_wearsOf 67 = .ok (.iload_n 2, 1) := by decide +kernel
theorem dX6_wearsOf_68 : decode cX6_wearsOf 68 = .ok (.invokestatic 101, 3) := by decide +kernel
theorem dX6_wearsOf_71 : decode cX6_wearsOf 71 = .ok (.ireturn, 1) := by decide +kernel
theorem dX6_wearsOf_72 : decode cX6_wearsOf 72 = .ok (.iconst 0, 1) := by decide +kernel
theorem dX6_wearsOf_73 : decode cX6_wearsOf 73 = .ok (.ireturn, 1) := by decide +kernel
theorem dX6_worthOf_0 : decode cX6_worthOf 0 = .ok (.aload_n 0, 1) := by decide +kernel
theorem dX6_worthOf_1 : decode cX6_worthOf 1 = .ok (.iload_n 1, 1) := by decide +kernel
theorem dX6_worthOf_2 : decode cX6_worthOf 2 = .ok (.iconst 1, 1) := by decide +kernel
theorem dX6_worthOf_3 : decode cX6_worthOf 3 = .ok (.invokevirtual 96, 3) := by decide +kernel
theorem dX6_worthOf_6 : decode cX6_worthOf 6 = .ok (.istore_n 2, 1) := by decide +kernel
theorem dX6_worthOf_7 : decode cX6_worthOf 7 = .ok (.aload_n 0, 1) := by decide +kernel
theorem dX6_worthOf_8 : decode cX6_worthOf 8 = .ok (.iload_n 1, 1) := by decide +kernel
theorem dX6_worthOf_9 : decode cX6_worthOf 9 = .ok (.iconst 0, 1) := by decide +kernel
theorem dX6_worthOf_10 : decode cX6_worthOf 10 = .ok (.invokevirtual 96, 3) := by decide +kernel
theorem dX6_worthOf_13 : decode cX6_worthOf 13 = .ok (.tableswitch 60 1 5 #[35, 40, 45, 52, 57], 35) := by decide +kernel
theorem dX6_worthOf_48 : decode cX6_worthOf 48 = .ok (.iload_n 2, 1) := by decide +kernel
theorem dX6_worthOf_49 : decode cX6_worthOf 49 = .ok (.bipush 9, 2) := by decide +kernel
theorem dX6_worthOf_51 : decode cX6_worthOf 51 = .ok (.iadd, 1) := by decide +kernel
theorem dX6_worthOf_52 : decode cX6_worthOf 52 = .ok (.ireturn, 1) := by decide +kernel
theorem dX6_worthOf_53 : decode cX6_worthOf 53 = .ok (.bipush 40, 2) := by decide +kernel
theorem dX6_worthOf_55 : decode cX6_worthOf 55 = .ok (.iload_n 2, 1) := by decide +kernel
theorem dX6_worthOf_56 : decode cX6_worthOf 56 = .ok (.isub, 1) := by decide +kernel
theorem dX6_worthOf_57 : decode cX6_worthOf 57 = .ok (.ireturn, 1) := by decide +kernel
theorem dX6_worthOf_58 : decode cX6_worthOf 58 = .ok (.iconst 2, 1) := by decide +kernel
theorem dX6_worthOf_59 : decode cX6_worthOf 59 = .ok (.iload_n 2, 1) := by decide +kernel
theorem dX6_worthOf_60 : decode cX6_worthOf 60 = .ok (.bipush 9, 2) := by decide +kernel
theorem dX6_worthOf_62 : decode cX6_worthOf 62 = .ok (.iadd, 1) := by decide +kernel
theorem dX6_worthOf_63 : decode cX6_worthOf 63 = .ok (.imul, 1) := by decide +kernel
theorem dX6_worthOf_64 : decode cX6_worthOf 64 = .ok (.ireturn, 1) := by decide +kernel
theorem dX6_worthOf_65 : decode cX6_worthOf 65 = .ok (.bipush 37, 2) := by decide +kernel
theorem dX6_worthOf_67 : decode cX6_worthOf 67 = .ok (.iload_n 2, 1) := by decide +kernel
theorem dX6_worthOf_68 : decode cX6_worthOf 68 = .ok (.isub, 1) := by decide +kernel
theorem dX6_worthOf_69 : decode cX6_worthOf 69 = .ok (.ireturn, 1) := by decide +kernel
theorem dX6_worthOf_70 : decode cX6_worthOf 70 = .ok (.bipush 60, 2) := by decide +kernel
theorem dX6_worthOf_72 : decode cX6_worthOf 72 = .ok (.ireturn, 1) := by decide +kernel
theorem dX6_worthOf_73 : decode cX6_worthOf 73 = .ok (.iload_n 2, 1) := by decide +kernel
theorem dX6_worthOf_74 : decode cX6_worthOf 74 = .ok (.ireturn, 1) := by decide +kernel
theorem dX6_amountAll_0 : decode cX6_amountAll 0 = .ok (.iconst 0, 1) := by decide +kernel
theorem dX6_amountAll_1 : decode cX6_amountAll 1 = .ok (.istore_n 1, 1) := by decide +kernel
theorem dX6_amountAll_2 : decode cX6_amountAll 2 = .ok (.iconst 0, 1) := by decide +kernel
theorem dX6_amountAll_3 : decode cX6_amountAll 3 = .ok (.istore_n 2, 1) := by decide +kernel
theorem dX6_amountAll_4 : decode cX6_amountAll 4 = .ok (.iload_n 2, 1) := by decide +kernel
theorem dX6_amountAll_5 : decode cX6_amountAll 5 = .ok (.aload_n 0, 1) := by decide +kernel
theorem dX6_amountAll_6 : decode cX6_amountAll 6 = .ok (.getfield 9, 3) := by decide +kernel
theorem dX6_amountAll_9 : decode cX6_amountAll 9 = .ok (.iconst 1, 1) := by decide +kernel
theorem dX6_amountAll_10 : decode cX6_amountAll 10 = .ok (.iaload, 1) := by decide +kernel
theorem dX6_amountAll_11 : decode cX6_amountAll 11 = .ok (.if_icmp .ge 18, 3) := by decide +kernel
theorem dX6_amountAll_14 : decode cX6_amountAll 14 = .ok (.iload_n 1, 1) := by decide +kernel
theorem dX6_amountAll_15 : decode cX6_amountAll 15 = .ok (.aload_n 0, 1) := by decide +kernel
theorem dX6_amountAll_16 : decode cX6_amountAll 16 = .ok (.iload_n 2, 1) := by decide +kernel
theorem dX6_amountAll_17 : decode cX6_amountAll 17 = .ok (.iconst 2, 1) := by decide +kernel
theorem dX6_amountAll_18 : decode cX6_amountAll 18 = .ok (.invokevirtual 96, 3) := by decide +kernel
theorem dX6_amountAll_21 : decode cX6_amountAll 21 = .ok (.iadd, 1) := by decide +kernel
theorem dX6_amountAll_22 : decode cX6_amountAll 22 = .ok (.istore_n 1, 1) := by decide +kernel
theorem dX6_amountAll_23 : decode cX6_amountAll 23 = .ok (.iinc 2 1, 3) := by decide +kernel
theorem dX6_amountAll_26 : decode cX6_amountAll 26 = .ok (.goto (-22), 3) := by decide +kernel
theorem dX6_amountAll_29 : decode cX6_amountAll 29 = .ok (.iload_n 1, 1) := by decide +kernel
theorem dX6_amountAll_30 : decode cX6_amountAll 30 = .ok (.ireturn, 1) := by decide +kernel
theorem dX6_billOf_0 : decode cX6_billOf 0 = .ok (.aload_n 0, 1) := by decide +kernel
theorem dX6_billOf_1 : decode cX6_billOf 1 = .ok (.iconst 1, 1) := by decide +kernel
theorem dX6_billOf_2 : decode cX6_billOf 2 = .ok (.invokevirtual 112, 3) := by decide +kernel
theorem dX6_billOf_5 : decode cX6_billOf 5 = .ok (.istore_n 2, 1) := by decide +kernel
theorem dX6_billOf_6 : decode cX6_billOf 6 = .ok (.aload_n 0, 1) := by decide +kernel
theorem dX6_billOf_7 : decode cX6_billOf 7 = .ok (.iload_n 1, 1) := by decide +kernel
theorem dX6_billOf_8 : decode cX6_billOf 8 = .ok (.invokevirtual 122, 3) := by decide +kernel
theorem dX6_billOf_11 : decode cX6_billOf 11 = .ok (.istore_n 3, 1) := by decide +kernel
theorem dX6_billOf_12 : decode cX6_billOf 12 = .ok (.aload_n 0, 1) := by decide +kernel
theorem dX6_billOf_13 : decode cX6_billOf 13 = .ok (.iload_n 1, 1) := by decide +kernel
theorem dX6_billOf_14 : decode cX6_billOf 14 = .ok (.invokevirtual 125, 3) := by decide +kernel
theorem dX6_billOf_17 : decode cX6_billOf 17 = .ok (.istore 4, 2) := by decide +kernel
theorem dX6_billOf_19 : decode cX6_billOf 19 = .ok (.aload_n 0, 1) := by decide +kernel
theorem dX6_billOf_20 : decode cX6_billOf 20 = .ok (.getfield 51, 3) := by decide +kernel
theorem dX6_billOf_23 : decode cX6_billOf 23 = .ok (.iconst 0, 1) := by decide +kernel
theorem dX6_billOf_24 : decode cX6_billOf 24 = .ok (.iload_n 3, 1) := by decide +kernel
theorem dX6_billOf_25 : decode cX6_billOf 25 = .ok (.iastore, 1) := by decide +kernel
theorem dX6_billOf_26 : decode cX6_billOf 26 = .ok (.aload_n 0, 1) := by decide +kernel
theorem dX6_billOf_27 : decode cX6_billOf 27 = .ok (.getfield 51, 3) := by decide +kernel
theorem dX6_billOf_30 : decode cX6_billOf 30 = .ok (.iconst 1, 1) := by decide +kernel
theorem dX6_billOf_31 : decode cX6_billOf 31 = .ok (.iload 4, 2) := by decide +kernel
theorem dX6_billOf_33 : decode cX6_billOf 33 = .ok (.iastore, 1) := by decide +kernel
theorem dX6_billOf_34 : decode cX6_billOf 34 = .ok (.iload_n 2, 1) := by decide +kernel
theorem dX6_billOf_35 : decode cX6_billOf 35 = .ok (.ifCond .ge 7, 3) := by decide +kernel
theorem dX6_billOf_38 : decode cX6_billOf 38 = .ok (.iload_n 3, 1) := by decide +kernel
theorem dX6_billOf_39 : decode cX6_billOf 39 = .ok (.goto 8, 3) := by decide +kernel
theorem dX6_billOf_42 : decode cX6_billOf 42 = .ok (.aload_n 0, 1) := by decide +kernel
theorem dX6_billOf_43 : decode cX6_billOf 43 = .ok (.iload_n 2, 1) := by decide +kernel
theorem dX6_billOf_44 : decode cX6_billOf 44 = .ok (.invokevirtual 116, 3) := by decide +kernel
theorem dX6_billOf_47 : decode cX6_billOf 47 = .ok (.ireturn, 1) := by decide +kernel
theorem dX6_shareOf_0 : decode cX6_shareOf 0 = .ok (.aload_n 0, 1) := by decide +kernel
theorem dX6_shareOf_1 : decode cX6_shareOf 1 = .ok (.invokevirtual 128, 3) := by decide +kernel
theorem dX6_shareOf_4 : decode cX6_shareOf 4 = .ok (.istore_n 2, 1) := by decide +kernel
theorem dX6_shareOf_5 : decode cX6_shareOf 5 = .ok (.iload_n 2, 1) := by decide +kernel
theorem dX6_shareOf_6 : decode cX6_shareOf 6 = .ok (.ifCond .ne 7, 3) := by decide +kernel
theorem dX6_shareOf_9 : decode cX6_shareOf 9 = .ok (.iconst 0, 1) := by decide +kernel
theorem dX6_shareOf_10 : decode cX6_shareOf 10 = .ok (.goto 18, 3) := by decide +kernel
theorem dX6_shareOf_13 : decode cX6_shareOf 13 = .ok (.ldc2_w 132, 3) := by decide +kernel
theorem dX6_shareOf_16 : decode cX6_shareOf 16 = .ok (.aload_n 0, 1) := by decide +kernel
theorem dX6_shareOf_17 : decode cX6_shareOf 17 = .ok (.iload_n 1, 1) := by decide +kernel
theorem dX6_shareOf_18 : decode cX6_shareOf 18 = .ok (.iconst 2, 1) := by decide +kernel
theorem dX6_shareOf_19 : decode cX6_shareOf 19 = .ok (.invokevirtual 96, 3) := by decide +kernel
theorem dX6_shareOf_22 : decode cX6_shareOf 22 = .ok (.i2l, 1) := by decide +kernel
theorem dX6_shareOf_23 : decode cX6_shareOf 23 = .ok (.lmul, 1) := by decide +kernel
theorem dX6_shareOf_24 : decode cX6_shareOf 24 = .ok (.iload_n 2, 1) := by decide +kernel
theorem dX6_shareOf_25 : decode cX6_shareOf 25 = .ok (.i2l, 1) := by decide +kernel
theorem dX6_shareOf_26 : decode cX6_shareOf 26 = .ok (.ldiv, 1) := by decide +kernel
theorem dX6_shareOf_27 : decode cX6_shareOf 27 = .ok (.l2i, 1) := by decide +kernel
theorem dX6_shareOf_28 : decode cX6_shareOf 28 = .ok (.ireturn, 1) := by decide +kernel
theorem dX6_told_0 : decode cX6_told 0 = .ok (.aload_n 0, 1) := by decide +kernel
theorem dX6_told_1 : decode cX6_told 1 = .ok (.iload_n 1, 1) := by decide +kernel
theorem dX6_told_2 : decode cX6_told 2 = .ok (.invokevirtual 104, 3) := by decide +kernel
theorem dX6_told_5 : decode cX6_told 5 = .ok (.ifCond .ne 6, 3) := by decide +kernel
theorem dX6_told_8 : decode cX6_told 8 = .ok (.ldc 90, 2) := by decide +kernel
theorem dX6_told_10 : decode cX6_told 10 = .ok (.ireturn, 1) := by decide +kernel
theorem dX6_told_11 : decode cX6_told 11 = .ok (.iload_n 2, 1) := by decide +kernel
theorem dX6_told_12 : decode cX6_told 12 = .ok (.tableswitch 89 0 8 #[52, 52, 52, 52, 59, 65, 71, 77, 83], 52) := by decide +kernel
theorem dX6_told_64 : decode cX6_told 64 = .ok (.aload_n 0, 1) := by decide +kernel
theorem dX6_told_65 : decode cX6_told 65 = .ok (.iload_n 1, 1) := by decide +kernel
theorem dX6_told_66 : decode cX6_told 66 = .ok (.iload_n 2, 1) := by decide +kernel
theorem dX6_told_67 : decode cX6_told 67 = .ok (.invokevirtual 96, 3) := by decide +kernel
theorem dX6_told_70 : decode cX6_told 70 = .ok (.ireturn, 1) := by decide +kernel
theorem dX6_told_71 : decode cX6_told 71 = .ok (.aload_n 0, 1) := by decide +kernel
theorem dX6_told_72 : decode cX6_told 72 = .ok (.iload_n 1, 1) := by decide +kernel
theorem dX6_told_73 : decode cX6_told 73 = .ok (.invokevirtual 122, 3) := by decide +kernel
theorem dX6_told_76 : decode cX6_told 76 = .ok (.ireturn, 1) := by decide +kernel
theorem dX6_told_77 : decode cX6_told 77 = .ok (.aload_n 0, 1) := by decide +kernel
theorem dX6_told_78 : decode cX6_told 78 = .ok (.iload_n 1, 1) := by decide +kernel
theorem dX6_told_79 : decode cX6_told 79 = .ok (.invokevirtual 134, 3) := by decide +kernel
theorem dX6_told_82 : decode cX6_told 82 = .ok (.ireturn, 1) := by decide +kernel
theorem dX6_told_83 : decode cX6_told 83 = .ok (.aload_n 0, 1) := by decide +kernel
theorem dX6_told_84 : decode cX6_told 84 = .ok (.iload_n 1, 1) := by decide +kernel
theorem dX6_told_85 : decode cX6_told 85 = .ok (.invokevirtual 125, 3) := by decide +kernel
theorem dX6_told_88 : decode cX6_told 88 = .ok (.ireturn, 1) := by decide +kernel
theorem dX6_told_89 : decode cX6_told 89 = .ok (.aload_n 0, 1) := by decide +kernel
theorem dX6_told_90 : decode cX6_told 90 = .ok (.iload_n 1, 1) := by decide +kernel
theorem dX6_told_91 : decode cX6_told 91 = .ok (.invokevirtual 137, 3) := by decide +kernel
theorem dX6_told_94 : decode cX6_told 94 = .ok (.ireturn, 1) := by decide +kernel
theorem dX6_told_95 : decode cX6_told 95 = .ok (.aload_n 0, 1) := by decide +kernel
theorem dX6_told_96 : decode cX6_told 96 = .ok (.iload_n 1, 1) := by decide +kernel
theorem dX6_told_97 : decode cX6_told 97 = .ok (.invokevirtual 140, 3) := by decide +kernel
theorem dX6_told_100 : decode cX6_told 100 = .ok (.ireturn, 1) := by decide +kernel
theorem dX6_told_101 : decode cX6_told 101 = .ok (.ldc 90, 2) := by decide +kernel
theorem dX6_told_103 : decode cX6_told 103 = .ok (.ireturn, 1) := by decide +kernel
theorem dX6_isUnder_0 : decode cX6_isUnder 0 = .ok (.iload_n 1, 1) := by decide +kernel
theorem dX6_isUnder_1 : decode cX6_isUnder 1 = .ok (.ifCond .eq 28, 3) := by decide +kernel
theorem dX6_isUnder_4 : decode cX6_isUnder 4 = .ok (.iload_n 0, 1) := by decide +kernel
theorem dX6_isUnder_5 : decode cX6_isUnder 5 = .ok (.iload_n 1, 1) := by decide +kernel
theorem dX6_isUnder_6 : decode cX6_isUnder 6 = .ok (.if_icmp .eq 23, 3) := by decide +kernel
theorem dX6_isUnder_9 : decode cX6_isUnder 9 = .ok (.iload_n 1, 1) := by decide +kernel
theorem dX6_isUnder_10 : decode cX6_isUnder 10 = .ok (.iconst 1, 1) := by decide +kernel
theorem dX6_isUnder_11 : decode cX6_isUnder 11 = .ok (.if_icmp .ne 8, 3) := by decide +kernel
theorem dX6_isUnder_14 : decode cX6_isUnder 14 = .ok (.iload_n 0, 1) := by decide +kernel
theorem dX6_isUnder_15 : decode cX6_isUnder 15 = .ok (.iconst 3, 1) := by decide +kernel
theorem dX6_isUnder_16 : decode cX6_isUnder 16 = .ok (.if_icmp .eq 13, 3) := by decide +kernel
theorem dX6_isUnder_19 : decode cX6_isUnder 19 = .ok (.iload_n 1, 1) := by decide +kernel
theorem dX6_isUnder_20 : decode cX6_isUnder 20 = .ok (.iconst 2, 1) := by decide +kernel
theorem dX6_isUnder_21 : decode cX6_isUnder 21 = .ok (.if_icmp .ne 12, 3) := by decide +kernel
theorem dX6_isUnder_24 : decode cX6_isUnder 24 = .ok (.iload_n 0, 1) := by decide +kernel
theorem dX6_isUnder_25 : decode cX6_isUnder 25 = .ok (.iconst 4, 1) := by decide +kernel
theorem dX6_isUnder_26 : decode cX6_isUnder 26 = .ok (.if_icmp .ne 7, 3) := by decide +kernel
theorem dX6_isUnder_29 : decode cX6_isUnder 29 = .ok (.iconst 1, 1) := by decide +kernel
theorem dX6_isUnder_30 : decode cX6_isUnder 30 = .ok (.goto 4, 3) := by decide +kernel
theorem dX6_isUnder_33 : decode cX6_isUnder 33 = .ok (.iconst 0, 1) := by decide +kernel
theorem dX6_isUnder_34 : decode cX6_isUnder 34 = .ok (.ireturn, 1) := by decide +kernel
theorem dX6_as_0 : decode cX6_as 0 = .ok (.aload_n 0, 1) := by decide +kernel
theorem dX6_as_1 : decode cX6_as 1 = .ok (.iload_n 1, 1) := by decide +kernel
theorem dX6_as_2 : decode cX6_as 2 = .ok (.invokevirtual 104, 3) := by decide +kernel
theorem dX6_as_5 : decode cX6_as 5 = .ok (.ifCond .eq 12, 3) := by decide +kernel
theorem dX6_as_8 : decode cX6_as 8 = .ok (.iload_n 2, 1) := by decide +kernel
theorem dX6_as_9 : decode cX6_as 9 = .ok (.iconst 0, 1) := by decide +kernel
theorem dX6_as_10 : decode cX6_as 10 = .ok (.iconst 5, 1) := by decide +kernel
theorem dX6_as_11 : decode cX6_as 11 = .ok (.invokestatic 82, 3) := by decide +kernel
theorem dX6_as_14 : decode cX6_as 14 = .ok (.ifCond .ne 6, 3) := by decide +kernel
theorem dX6_as_17 : decode cX6_as 17 = .ok (.ldc 90, 2) := by decide +kernel
theorem dX6_as_19 : decode cX6_as 19 = .ok (.ireturn, 1) := by decide +kernel
theorem dX6_as_20 : decode cX6_as 20 = .ok (.aload_n 0, 1) := by decide +kernel
theorem dX6_as_21 : decode cX6_as 21 = .ok (.iload_n 1, 1) := by decide +kernel
theorem dX6_as_22 : decode cX6_as 22 = .ok (.iconst 0, 1) := by decide +kernel
theorem dX6_as_23 : decode cX6_as 23 = .ok (.invokevirtual 96, 3) := by decide +kernel
theorem dX6_as_26 : decode cX6_as 26 = .ok (.iload_n 2, 1) := by decide +kernel
theorem dX6_as_27 : decode cX6_as 27 = .ok (.invokestatic 143, 3) := by decide +kernel
theorem dX6_as_30 : decode cX6_as 30 = .ok (.ifCond .eq 12, 3) := by decide +kernel
theorem dX6_as_33 : decode cX6_as 33 = .ok (.aload_n 0, 1) := by decide +kernel
theorem dX6_as_34 : decode cX6_as 34 = .ok (.iload_n 1, 1) := by decide +kernel
theorem dX6_as_35 : decode cX6_as 35 = .ok (.iconst 1, 1) := by decide +kernel
theorem dX6_as_36 : decode cX6_as 36 = .ok (.invokevirtual 96, 3) := by decide +kernel
theorem dX6_as_39 : decode cX6_as 39 = .ok (.goto 5, 3) := by decide +kernel
theorem dX6_as_42 : decode cX6_as 42 = .ok (.ldc 147, 2) := by decide +kernel
theorem dX6_as_44 : decode cX6_as 44 = .ok (.ireturn, 1) := by decide +kernel
theorem dX6_turns_0 : decode cX6_turns 0 = .ok (.aload_n 0, 1) := by decide +kernel
theorem dX6_turns_1 : decode cX6_turns 1 = .ok (.iload_n 1, 1) := by decide +kernel
theorem dX6_turns_2 : decode cX6_turns 2 = .ok (.invokevirtual 104, 3) := by decide +kernel
theorem dX6_turns_5 : decode cX6_turns 5 = .ok (.ifCond .eq 26, 3) := by decide +kernel
theorem dX6_turns_8 : decode cX6_turns 8 = .ok (.iload_n 2, 1) := by decide +kernel
theorem dX6_turns_9 : decode cX6_turns 9 = .ok (.iconst 0, 1) := by decide +kernel
theorem dX6_turns_10 : decode cX6_turns 10 = .ok (.iconst 5, 1) := by decide +kernel
theorem dX6_turns_11 : decode cX6_turns 11 = .ok (.invokestatic 82, 3) := by decide +kernel
theorem dX6_turns_14 : decode cX6_turns 14 = .ok (.ifCond .eq 17, 3) := by decide +kernel
theorem dX6_turns_17 : decode cX6_turns 17 = .ok (.aload_n 0, 1) := by decide +kernel
theorem dX6_turns_18 : decode cX6_turns 18 = .ok (.bipush 8, 2) := by decide +kernel
theorem dX6_turns_20 : decode cX6_turns 20 = .ok (.iconst 4, 1) := by decide +kernel
theorem dX6_turns_21 : decode cX6_turns 21 = .ok (.iload_n 1, 1) := by decide +kernel
theorem dX6_turns_22 : decode cX6_turns 22 = .ok (.imul, 1) := by decide +kernel
theorem dX6_turns_23 : decode cX6_turns 23 = .ok (.iadd, 1) := by decide +kernel
theorem dX6_turns_24 : decode cX6_turns 24 = .ok (.iload_n 2, 1) := by decide +kernel
theorem dX6_turns_25 : decode cX6_turns 25 = .ok (.invokevirtual 148, 3) := by decide +kernel
theorem dX6_turns_28 : decode cX6_turns 28 = .ok (.goto 5, 3) := by decide +kernel
theorem dX6_turns_31 : decode cX6_turns 31 = .ok (.ldc 90, 2) := by decide +kernel
theorem dX6_turns_33 : decode cX6_turns 33 = .ok (.ireturn, 1) := by decide +kernel
theorem dX6_set_0 : decode cX6_set 0 = .ok (.aload_n 0, 1) := by decide +kernel
theorem dX6_set_1 : decode cX6_set 1 = .ok (.iload_n 1, 1) := by decide +kernel
theorem dX6_set_2 : decode cX6_set 2 = .ok (.invokevirtual 104, 3) := by decide +kernel
theorem dX6_set_5 : decode cX6_set 5 = .ok (.ifCond .eq 56, 3) := by decide +kernel
theorem dX6_set_8 : decode cX6_set 8 = .ok (.iload_n 2, 1) := by decide +kernel
theorem dX6_set_9 : decode cX6_set 9 = .ok (.iconst 1, 1) := by decide +kernel
theorem dX6_set_10 : decode cX6_set 10 = .ok (.iconst 3, 1) := by decide +kernel
theorem dX6_set_11 : decode cX6_set 11 = .ok (.invokestatic 82, 3) := by decide +kernel
theorem dX6_set_14 : decode cX6_set 14 = .ok (.ifCond .eq 47, 3) := by decide +kernel
theorem dX6_set_17 : decode cX6_set 17 = .ok (.iload_n 3, 1) := by decide +kernel
theorem dX6_set_18 : decode cX6_set 18 = .ok (.iload_n 2, 1) := by decide +kernel
theorem dX6_set_19 : decode cX6_set 19 = .ok (.iconst 1, 1) := by decide +kernel
theorem dX6_set_20 : decode cX6_set 20 = .ok (.if_icmp .ne 7, 3) := by decide +kernel
theorem dX6_set_23 : decode cX6_set 23 = .ok (.iconst 1, 1) := by decide +kernel
theorem dX6_set_24 : decode cX6_set 24 = .ok (.goto 4, 3) := by decide +kernel
theorem dX6_set_27 : decode cX6_set 27 = .ok (.iconst 0, 1) := by decide +kernel
theorem dX6_set_28 : decode cX6_set 28 = .ok (.iload_n 2, 1) := by decide +kernel
theorem dX6_set_29 : decode cX6_set 29 = .ok (.iconst 1, 1) := by decide +kernel
theorem dX6_set_30 : decode cX6_set 30 = .ok (.if_icmp .ne 8, 3) := by decide +kernel
theorem dX6_set_33 : decode cX6_set 33 = .ok (.bipush 9, 2) := by decide +kernel
theorem dX6_set_35 : decode cX6_set 35 = .ok (.goto 16, 3) := by decide +kernel
theorem dX6_set_38 : decode cX6_set 38 = .ok (.iload_n 2, 1) := by decide +kernel
theorem dX6_set_39 : decode cX6_set 39 = .ok (.iconst 2, 1) := by decide +kernel
theorem dX6_set_40 : decode cX6_set 40 = .ok (.if_icmp .ne 8, 3) := by decide +kernel
theorem dX6_set_43 : decode cX6_set 43 = .ok (.ldc 100, 2) := by decide +kernel
theorem dX6_set_45 : decode cX6_set 45 = .ok (.goto 6, 3) := by decide +kernel
theorem dX6_set_48 : decode cX6_set 48 = .ok (.sipush 9999, 3) := by decide +kernel
theorem dX6_set_51 : decode cX6_set 51 = .ok (.invokestatic 82, 3) := by decide +kernel
theorem dX6_set_54 : decode cX6_set 54 = .ok (.ifCond .eq 7, 3) := by decide +kernel
theorem dX6_set_57 : decode cX6_set 57 = .ok (.iconst 1, 1) := by decide +kernel
theorem dX6_set_58 : decode cX6_set 58 = .ok (.goto 4, 3) := by decide +kernel
theorem dX6_set_61 : decode cX6_set 61 = .ok (.iconst 0, 1) := by decide +kernel
theorem dX6_set_62 : decode cX6_set 62 = .ok (.istore 4, 2) := by decide +kernel
theorem dX6_set_64 : decode cX6_set 64 = .ok (.iload 4, 2) := by decide +kernel
theorem dX6_set_66 : decode cX6_set 66 = .ok (.ifCond .eq 19, 3) := by decide +kernel
theorem dX6_set_69 : decode cX6_set 69 = .ok (.aload_n 0, 1) := by decide +kernel
theorem dX6_set_70 : decode cX6_set 70 = .ok (.bipush 8, 2) := by decide +kernel
theorem dX6_set_72 : decode cX6_set 72 = .ok (.iconst 4, 1) := by decide +kernel
theorem dX6_set_73 : decode cX6_set 73 = .ok (.iload_n 1, 1) := by decide +kernel
theorem dX6_set_74 : decode cX6_set 74 = .ok (.imul, 1) := by decide +kernel
theorem dX6_set_75 : decode cX6_set 75 = .ok (.iadd, 1) := by decide +kernel
theorem dX6_set_76 : decode cX6_set 76 = .ok (.iload_n 2, 1) := by decide +kernel
theorem dX6_set_77 : decode cX6_set 77 = .ok (.iadd, 1) := by decide +kernel
theorem dX6_set_78 : decode cX6_set 78 = .ok (.iload_n 3, 1) := by decide +kernel
theorem dX6_set_79 : decode cX6_set 79 = .ok (.invokevirtual 148, 3) := by decide +kernel
theorem dX6_set_82 : decode cX6_set 82 = .ok (.goto 5, 3) := by decide +kernel
theorem dX6_set_85 : decode cX6_set 85 = .ok (.ldc 90, 2) := by decide +kernel
theorem dX6_set_87 : decode cX6_set 87 = .ok (.ireturn, 1) := by decide +kernel
theorem dX6_draw_0 : decode cX6_draw 0 = .ok (.aload_n 0, 1) := by decide +kernel
theorem dX6_draw_1 : decode cX6_draw 1 = .ok (.getfield 9, 3) := by decide +kernel
theorem dX6_draw_4 : decode cX6_draw 4 = .ok (.iconst 0, 1) := by decide +kernel
theorem dX6_draw_5 : decode cX6_draw 5 = .ok (.aload_n 0, 1) := by decide +kernel
theorem dX6_draw_6 : decode cX6_draw 6 = .ok (.getfield 9, 3) := by decide +kernel
theorem dX6_draw_9 : decode cX6_draw 9 = .ok (.iconst 0, 1) := by decide +kernel
theorem dX6_draw_10 : decode cX6_draw 10 = .ok (.iaload, 1) := by decide +kernel
theorem dX6_draw_11 : decode cX6_draw 11 = .ok (.ldc 151, 2) := by decide +kernel
theorem dX6_draw_13 : decode cX6_draw 13 = .ok (.imul, 1) := by decide +kernel
theorem dX6_draw_14 : decode cX6_draw 14 = .ok (.sipush 12345, 3) := by decide +kernel
theorem dX6_draw_17 : decode cX6_draw 17 = .ok (.iadd, 1) := by decide +kernel
theorem dX6_draw_18 : decode cX6_draw 18 = .ok (.iastore, 1) := by decide +kernel
theorem dX6_draw_19 : decode cX6_draw 19 = .ok (.aload_n 0, 1) := by decide +kernel
theorem dX6_draw_20 : decode cX6_draw 20 = .ok (.getfield 9, 3) := by decide +kernel
theorem dX6_draw_23 : decode cX6_draw 23 = .ok (.iconst 0, 1) := by decide +kernel
theorem dX6_draw_24 : decode cX6_draw 24 = .ok (.iaload, 1) := by decide +kernel
theorem dX6_draw_25 : decode cX6_draw 25 = .ok (.bipush 8, 2) := by decide +kernel
theorem dX6_draw_27 : decode cX6_draw 27 = .ok (.iushr, 1) := by decide +kernel
theorem dX6_draw_28 : decode cX6_draw 28 = .ok (.ireturn, 1) := by decide +kernel
theorem dX6_deal_0 : decode cX6_deal 0 = .ok (.iload_n 1, 1) := by decide +kernel
theorem dX6_deal_1 : decode cX6_deal 1 = .ok (.iconst 1, 1) := by decide +kernel
theorem dX6_deal_2 : decode cX6_deal 2 = .ok (.bipush 8, 2) := by decide +kernel
theorem dX6_deal_4 : decode cX6_deal 4 = .ok (.invokestatic 82, 3) := by decide +kernel
theorem dX6_deal_7 : decode cX6_deal 7 = .ok (.ifCond .ne 6, 3) := by decide +kernel
theorem dX6_deal_10 : decode cX6_deal 10 = .ok (.ldc 90, 2) := by decide +kernel
theorem dX6_deal_12 : decode cX6_deal 12 = .ok (.ireturn, 1) := by decide +kernel
theorem dX6_deal_13 : decode cX6_deal 13 = .ok (.iconst 0, 1) := by decide +kernel
theorem dX6_deal_14 : decode cX6_deal 14 = .ok (.istore_n 2, 1) := by decide +kernel
theorem dX6_deal_15 : decode cX6_deal 15 = .ok (.iload_n 2, 1) := by decide +kernel
theorem dX6_deal_16 : decode cX6_deal 16 = .ok (.iload_n 1, 1) := by decide +kernel
theorem dX6_deal_17 : decode cX6_deal 17 = .ok (.if_icmp .ge 56, 3) := by decide +kernel
theorem dX6_deal_20 : decode cX6_deal 20 = .ok (.aload_n 0, 1) := by decide +kernel
theorem dX6_deal_21 : decode cX6_deal 21 = .ok (.getfield 9, 3) := by decide +kernel
theorem dX6_deal_24 : decode cX6_deal 24 = .ok (.iconst 1, 1) := by decide +kernel
theorem dX6_deal_25 : decode cX6_deal 25 = .ok (.iaload, 1) := by decide +kernel
theorem dX6_deal_26 : decode cX6_deal 26 = .ok (.bipush 8, 2) := by decide +kernel
theorem dX6_deal_28 : decode cX6_deal 28 = .ok (.if_icmp .ge 45, 3) := by decide +kernel
theorem dX6_deal_31 : decode cX6_deal 31 = .ok (.aload_n 0, 1) := by decide +kernel
theorem dX6_deal_32 : decode cX6_deal 32 = .ok (.invokevirtual 152, 3) := by decide +kernel
theorem dX6_deal_35 : decode cX6_deal 35 = .ok (.bipush 6, 2) := by decide +kernel
theorem dX6_deal_37 : decode cX6_deal 37 = .ok (.irem, 1) := by decide +kernel
theorem dX6_deal_38 : decode cX6_deal 38 = .ok (.istore_n 3, 1) := by decide +kernel
theorem dX6_deal_39 : decode cX6_deal 39 = .ok (.iconst 1, 1) := by decide +kernel
theorem dX6_deal_40 : decode cX6_deal 40 = .ok (.aload_n 0, 1) := by decide +kernel
theorem dX6_deal_41 : decode cX6_deal 41 = .ok (.invokevirtual 152, 3) := by decide +kernel
theorem dX6_deal_44 : decode cX6_deal 44 = .ok (.bipush 9, 2) := by decide +kernel
theorem dX6_deal_46 : decode cX6_deal 46 = .ok (.irem, 1) := by decide +kernel
theorem dX6_deal_47 : decode cX6_deal 47 = .ok (.iadd, 1) := by decide +kernel
theorem dX6_deal_48 : decode cX6_deal 48 = .ok (.istore 4, 2) := by decide +kernel
theorem dX6_deal_50 : decode cX6_deal 50 = .ok (.aload_n 0, 1) := by decide +kernel
theorem dX6_deal_51 : decode cX6_deal 51 = .ok (.iload_n 3, 1) := by decide +kernel
