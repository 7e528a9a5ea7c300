theorem dX0_init_0 : decode cX0_init 0 = .ok (.aload_n 0, 1) := by decide +kernel
theorem dX0_init_1 : decode cX0_init 1 = .ok (.invokespecial 3, 3) := by decide +kernel
theorem dX0_init_4 : decode cX0_init 4 = .ok (.aload_n 0, 1) := by decide +kernel
theorem dX0_init_5 : decode cX0_init 5 = .ok (.bipush 14, 2) := by decide +kernel
theorem dX0_init_7 : decode cX0_init 7 = .ok (.bipush 96, 2) := by decide +kernel
theorem dX0_init_9 : decode cX0_init 9 = .ok (.multianewarray 9 2, 4) := by decide +kernel
theorem dX0_init_13 : decode cX0_init 13 = .ok (.putfield 11, 3) := by decide +kernel
theorem dX0_init_16 : decode cX0_init 16 = .ok (.aload_n 0, 1) := by decide +kernel
theorem dX0_init_17 : decode cX0_init 17 = .ok (.bipush 14, 2) := by decide +kernel
theorem dX0_init_19 : decode cX0_init 19 = .ok (.newarray .int, 2) := by decide +kernel
theorem dX0_init_21 : decode cX0_init 21 = .ok (.putfield 16, 3) := by decide +kernel
theorem dX0_init_24 : decode cX0_init 24 = .ok (.aload_n 0, 1) := by decide +kernel
theorem dX0_init_25 : decode cX0_init 25 = .ok (.bipush 14, 2) := by decide +kernel
theorem dX0_init_27 : decode cX0_init 27 = .ok (.newarray .int, 2) := by decide +kernel
theorem dX0_init_29 : decode cX0_init 29 = .ok (.putfield 20, 3) := by decide +kernel
theorem dX0_init_32 : decode cX0_init 32 = .ok (.aload_n 0, 1) := by decide +kernel
theorem dX0_init_33 : decode cX0_init 33 = .ok (.bipush 14, 2) := by decide +kernel
theorem dX0_init_35 : decode cX0_init 35 = .ok (.newarray .int, 2) := by decide +kernel
theorem dX0_init_37 : decode cX0_init 37 = .ok (.putfield 23, 3) := by decide +kernel
theorem dX0_init_40 : decode cX0_init 40 = .ok (.aload_n 0, 1) := by decide +kernel
theorem dX0_init_41 : decode cX0_init 41 = .ok (.bipush 96, 2) := by decide +kernel
theorem dX0_init_43 : decode cX0_init 43 = .ok (.newarray .int, 2) := by decide +kernel
theorem dX0_init_45 : decode cX0_init 45 = .ok (.putfield 26, 3) := by decide +kernel
theorem dX0_init_48 : decode cX0_init 48 = .ok (.return_, 1) := by decide +kernel
theorem dX0_write_0 : decode cX0_write 0 = .ok (.aload_n 2, 1) := by decide +kernel
theorem dX0_write_1 : decode cX0_write 1 = .ok (.getfield 29, 3) := by decide +kernel
theorem dX0_write_4 : decode cX0_write 4 = .ok (.iconst 0, 1) := by decide +kernel
theorem dX0_write_5 : decode cX0_write 5 = .ok (.aload_n 0, 1) := by decide +kernel
theorem dX0_write_6 : decode cX0_write 6 = .ok (.getfield 11, 3) := by decide +kernel
theorem dX0_write_9 : decode cX0_write 9 = .ok (.iload_n 1, 1) := by decide +kernel
theorem dX0_write_10 : decode cX0_write 10 = .ok (.aaload, 1) := by decide +kernel
theorem dX0_write_11 : decode cX0_write 11 = .ok (.iconst 0, 1) := by decide +kernel
theorem dX0_write_12 : decode cX0_write 12 = .ok (.aload_n 2, 1) := by decide +kernel
theorem dX0_write_13 : decode cX0_write 13 = .ok (.getfield 33, 3) := by decide +kernel
theorem dX0_write_16 : decode cX0_write 16 = .ok (.invokestatic 37, 3) := by decide +kernel
theorem dX0_write_19 : decode cX0_write 19 = .ok (.aload_n 0, 1) := by decide +kernel
theorem dX0_write_20 : decode cX0_write 20 = .ok (.getfield 16, 3) := by decide +kernel
theorem dX0_write_23 : decode cX0_write 23 = .ok (.iload_n 1, 1) := by decide +kernel
theorem dX0_write_24 : decode cX0_write 24 = .ok (.aload_n 2, 1) := by decide +kernel
theorem dX0_write_25 : decode cX0_write 25 = .ok (.getfield 33, 3) := by decide +kernel
theorem dX0_write_28 : decode cX0_write 28 = .ok (.iastore, 1) := by decide +kernel
theorem dX0_write_29 : decode cX0_write 29 = .ok (.aload_n 0, 1) := by decide +kernel
theorem dX0_write_30 : decode cX0_write 30 = .ok (.getfield 20, 3) := by decide +kernel
theorem dX0_write_33 : decode cX0_write 33 = .ok (.iload_n 1, 1) := by decide +kernel
theorem dX0_write_34 : decode cX0_write 34 = .ok (.aload_n 2, 1) := by decide +kernel
theorem dX0_write_35 : decode cX0_write 35 = .ok (.getfield 43, 3) := by decide +kernel
theorem dX0_write_38 : decode cX0_write 38 = .ok (.iastore, 1) := by decide +kernel
theorem dX0_write_39 : decode cX0_write 39 = .ok (.aload_n 0, 1) := by decide +kernel
theorem dX0_write_40 : decode cX0_write 40 = .ok (.getfield 23, 3) := by decide +kernel
theorem dX0_write_43 : decode cX0_write 43 = .ok (.iload_n 1, 1) := by decide +kernel
theorem dX0_write_44 : decode cX0_write 44 = .ok (.aload_n 2, 1) := by decide +kernel
theorem dX0_write_45 : decode cX0_write 45 = .ok (.getfield 46, 3) := by decide +kernel
theorem dX0_write_48 : decode cX0_write 48 = .ok (.iastore, 1) := by decide +kernel
theorem dX0_write_49 : decode cX0_write 49 = .ok (.return_, 1) := by decide +kernel
theorem dX0_workOut_0 : decode cX0_workOut 0 = .ok (.aload_n 0, 1) := by decide +kernel
theorem dX0_workOut_1 : decode cX0_workOut 1 = .ok (.getfield 11, 3) := by decide +kernel
theorem dX0_workOut_4 : decode cX0_workOut 4 = .ok (.iload_n 1, 1) := by decide +kernel
theorem dX0_workOut_5 : decode cX0_workOut 5 = .ok (.aaload, 1) := by decide +kernel
theorem dX0_workOut_6 : decode cX0_workOut 6 = .ok (.astore 5, 2) := by decide +kernel
theorem dX0_workOut_8 : decode cX0_workOut 8 = .ok (.iconst 0, 1) := by decide +kernel
theorem dX0_workOut_9 : decode cX0_workOut 9 = .ok (.istore 6, 2) := by decide +kernel
theorem dX0_workOut_11 : decode cX0_workOut 11 = .ok (.aload_n 0, 1) := by decide +kernel
theorem dX0_workOut_12 : decode cX0_workOut 12 = .ok (.getfield 26, 3) := by decide +kernel
theorem dX0_workOut_15 : decode cX0_workOut 15 = .ok (.iconst 0, 1) := by decide +kernel
theorem dX0_workOut_16 : decode cX0_workOut 16 = .ok (.iconst 0, 1) := by decide +kernel
theorem dX0_workOut_17 : decode cX0_workOut 17 = .ok (.iastore, 1) := by decide +kernel
theorem dX0_workOut_18 : decode cX0_workOut 18 = .ok (.iconst 0, 1) := by decide +kernel
theorem dX0_workOut_19 : decode cX0_workOut 19 = .ok (.istore 7, 2) := by decide +kernel
theorem dX0_workOut_21 : decode cX0_workOut 21 = .ok (.iload 7, 2) := by decide +kernel
theorem dX0_workOut_23 : decode cX0_workOut 23 = .ok (.aload_n 0, 1) := by decide +kernel
theorem dX0_workOut_24 : decode cX0_workOut 24 = .ok (.getfield 16, 3) := by decide +kernel
theorem dX0_workOut_27 : decode cX0_workOut 27 = .ok (.iload_n 1, 1) := by decide +kernel
theorem dX0_workOut_28 : decode cX0_workOut 28 = .ok (.iaload, 1) := by decide +kernel
theorem dX0_workOut_29 : decode cX0_workOut 29 = .ok (.if_icmp .ge 158, 3) := by decide +kernel
theorem dX0_workOut_32 : decode cX0_workOut 32 = .ok (.aload 5, 2) := by decide +kernel
theorem dX0_workOut_34 : decode cX0_workOut 34 = .ok (.iload 7, 2) := by decide +kernel
theorem dX0_workOut_36 : decode cX0_workOut 36 = .ok (.iaload, 1) := by decide +kernel
theorem dX0_workOut_37 : decode cX0_workOut 37 = .ok (.istore 8, 2) := by decide +kernel
theorem dX0_workOut_39 : decode cX0_workOut 39 = .ok (.iload 8, 2) := by decide +kernel
theorem dX0_workOut_41 : decode cX0_workOut 41 = .ok (.bipush (-3), 2) := by decide +kernel
theorem dX0_workOut_43 : decode cX0_workOut 43 = .ok (.if_icmp .lt 56, 3) := by decide +kernel
theorem dX0_workOut_46 : decode cX0_workOut 46 = .ok (.iload 6, 2) := by decide +kernel
theorem dX0_workOut_48 : decode cX0_workOut 48 = .ok (.bipush 96, 2) := by decide +kernel
theorem dX0_workOut_50 : decode cX0_workOut 50 = .ok (.if_icmp .ge 49, 3) := by decide +kernel
theorem dX0_workOut_53 : decode cX0_workOut 53 = .ok (.aload_n 0, 1) := by decide +kernel
theorem dX0_workOut_54 : decode cX0_workOut 54 = .ok (.getfield 26, 3) := by decide +kernel
theorem dX0_workOut_57 : decode cX0_workOut 57 = .ok (.iload 6, 2) := by decide +kernel
theorem dX0_workOut_59 : decode cX0_workOut 59 = .ok (.iload 8, 2) := by decide +kernel
theorem dX0_workOut_61 : decode cX0_workOut 61 = .ok (.ifCond .lt 8, 3) := by decide +kernel
theorem dX0_workOut_64 : decode cX0_workOut 64 = .ok (.iload 8, 2) := by decide +kernel
theorem dX0_workOut_66 : decode cX0_workOut 66 = .ok (.goto 26, 3) := by decide +kernel
theorem dX0_workOut_69 : decode cX0_workOut 69 = .ok (.iload 8, 2) := by decide +kernel
theorem dX0_workOut_71 : decode cX0_workOut 71 = .ok (.iconst (-1), 1) := by decide +kernel
theorem dX0_workOut_72 : decode cX0_workOut 72 = .ok (.if_icmp .ne 7, 3) := by decide +kernel
theorem dX0_workOut_75 : decode cX0_workOut 75 = .ok (.iload_n 2, 1) := by decide +kernel
theorem dX0_workOut_76 : decode cX0_workOut 76 = .ok (.goto 16, 3) := by decide +kernel
theorem dX0_workOut_79 : decode cX0_workOut 79 = .ok (.iload 8, 2) := by decide +kernel
theorem dX0_workOut_81 : decode cX0_workOut 81 = .ok (.bipush (-3), 2) := by decide +kernel
theorem dX0_workOut_83 : decode cX0_workOut 83 = .ok (.if_icmp .ne 8, 3) := by decide +kernel
theorem dX0_workOut_86 : decode cX0_workOut 86 = .ok (.iload 4, 2) := by decide +kernel
theorem dX0_workOut_88 : decode cX0_workOut 88 = .ok (.goto 4, 3) := by decide +kernel
theorem dX0_workOut_91 : decode cX0_workOut 91 = .ok (.iload_n 3, 1) := by decide +kernel
theorem dX0_workOut_92 : decode cX0_workOut 92 = .ok (.iastore, 1) := by decide +kernel
theorem dX0_workOut_93 : decode cX0_workOut 93 = .ok (.iinc 6 1, 3) := by decide +kernel
theorem dX0_workOut_96 : decode cX0_workOut 96 = .ok (.goto 85, 3) := by decide +kernel
theorem dX0_workOut_99 : decode cX0_workOut 99 = .ok (.iload 8, 2) := by decide +kernel
theorem dX0_workOut_101 : decode cX0_workOut 101 = .ok (.bipush (-33), 2) := by decide +kernel
theorem dX0_workOut_103 : decode cX0_workOut 103 = .ok (.if_icmp .ne 38, 3) := by decide +kernel
theorem dX0_workOut_106 : decode cX0_workOut 106 = .ok (.iload 6, 2) := by decide +kernel
theorem dX0_workOut_108 : decode cX0_workOut 108 = .ok (.iconst 1, 1) := by decide +kernel
theorem dX0_workOut_109 : decode cX0_workOut 109 = .ok (.if_icmp .lt 32, 3) := by decide +kernel
theorem dX0_workOut_112 : decode cX0_workOut 112 = .ok (.aload_n 0, 1) := by decide +kernel
theorem dX0_workOut_113 : decode cX0_workOut 113 = .ok (.getfield 26, 3) := by decide +kernel
theorem dX0_workOut_116 : decode cX0_workOut 116 = .ok (.iload 6, 2) := by decide +kernel
theorem dX0_workOut_118 : decode cX0_workOut 118 = .ok (.iconst 1, 1) := by decide +kernel
theorem dX0_workOut_119 : decode cX0_workOut 119 = .ok (.isub, 1) := by decide +kernel
theorem dX0_workOut_120 : decode cX0_workOut 120 = .ok (.aload_n 0, 1) := by decide +kernel
theorem dX0_workOut_121 : decode cX0_workOut 121 = .ok (.getfield 26, 3) := by decide +kernel
theorem dX0_workOut_124 : decode cX0_workOut 124 = .ok (.iload 6, 2) := by decide +kernel
theorem dX0_workOut_126 : decode cX0_workOut 126 = .ok (.iconst 1, 1) := by decide +kernel
theorem dX0_workOut_127 : decode cX0_workOut 127 = .ok (.isub, 1) := by decide +kernel
theorem dX0_workOut_128 : decode cX0_workOut 128 = .ok (.iaload, 1) := by decide +kernel
theorem dX0_workOut_129 : decode cX0_workOut 129 = .ok (.ifCond .ne 7, 3) := by decide +kernel
theorem dX0_workOut_132 : decode cX0_workOut 132 = .ok (.iconst 1, 1) := by decide +kernel
theorem dX0_workOut_133 : decode cX0_workOut 133 = .ok (.goto 4, 3) := by decide +kernel
theorem dX0_workOut_136 : decode cX0_workOut 136 = .ok (.iconst 0, 1) := by decide +kernel
theorem dX0_workOut_137 : decode cX0_workOut 137 = .ok (.iastore, 1) := by decide +kernel
theorem dX0_workOut_138 : decode cX0_workOut 138 = .ok (.goto 43, 3) := by decide +kernel
theorem dX0_workOut_141 : decode cX0_workOut 141 = .ok (.iload 6, 2) := by decide +kernel
theorem dX0_workOut_143 : decode cX0_workOut 143 = .ok (.iconst 2, 1) := by decide +kernel
theorem dX0_workOut_144 : decode cX0_workOut 144 = .ok (.if_icmp .lt 37, 3) := by decide +kernel
theorem dX0_workOut_147 : decode cX0_workOut 147 = .ok (.iinc 6 (-1), 3) := by decide +kernel
theorem dX0_workOut_150 : decode cX0_workOut 150 = .ok (.aload_n 0, 1) := by decide +kernel
theorem dX0_workOut_151 : decode cX0_workOut 151 = .ok (.getfield 26, 3) := by decide +kernel
theorem dX0_workOut_154 : decode cX0_workOut 154 = .ok (.iload 6, 2) := by decide +kernel
theorem dX0_workOut_156 : decode cX0_workOut 156 = .ok (.iconst 1, 1) := by decide +kernel
theorem dX0_workOut_157 : decode cX0_workOut 157 = .ok (.isub, 1) := by decide +kernel
theorem dX0_workOut_158 : decode cX0_workOut 158 = .ok (.iload 8, 2) := by decide +kernel
theorem dX0_workOut_160 : decode cX0_workOut 160 = .ok (.ineg, 1) := by decide +kernel
theorem dX0_workOut_161 : decode cX0_workOut 161 = .ok (.aload_n 0, 1) := by decide +kernel
theorem dX0_workOut_162 : decode cX0_workOut 162 = .ok (.getfield 26, 3) := by decide +kernel
theorem dX0_workOut_165 : decode cX0_workOut 165 = .ok (.iload 6, 2) := by decide +kernel
theorem dX0_workOut_167 : decode cX0_workOut 167 = .ok (.iconst 1, 1) := by decide +kernel
theorem dX0_workOut_168 : decode cX0_workOut 168 = .ok (.isub, 1) := by decide +kernel
theorem dX0_workOut_169 : decode cX0_workOut 169 = .ok (.iaload, 1) := by decide +kernel
theorem dX0_workOut_170 : decode cX0_workOut 170 = .ok (.aload_n 0, 1) := by decide +kernel
theorem dX0_workOut_171 : decode cX0_workOut 171 = .ok (.getfield 26, 3) := by decide +kernel
theorem dX0_workOut_174 : decode cX0_workOut 174 = .ok (.iload 6, 2) := by decide +kernel
theorem dX0_workOut_176 : decode cX0_workOut 176 = .ok (.iaload, 1) := by decide +kernel
theorem dX0_workOut_177 : decode cX0_workOut 177 = .ok (.invokestatic 49, 3) := by decide +kernel
theorem dX0_workOut_180 : decode cX0_workOut 180 = .ok (.iastore, 1) := by decide +kernel
theorem dX0_workOut_181 : decode cX0_workOut 181 = .ok (.iinc 7 1, 3) := by decide +kernel
theorem dX0_workOut_184 : decode cX0_workOut 184 = .ok (.goto (-163), 3) := by decide +kernel
theorem dX0_workOut_187 : decode cX0_workOut 187 = .ok (.aload_n 0, 1) := by decide +kernel
theorem dX0_workOut_188 : decode cX0_workOut 188 = .ok (.getfield 26, 3) := by decide +kernel
theorem dX0_workOut_191 : decode cX0_workOut 191 = .ok (.iconst 0, 1) := by decide +kernel
theorem dX0_workOut_192 : decode cX0_workOut 192 = .ok (.iaload, 1) := by decide +kernel
theorem dX0_workOut_193 : decode cX0_workOut 193 = .ok (.ireturn, 1) := by decide +kernel
theorem dX0_join_0 : decode cX0_join 0 = .ok (.iload_n 0, 1) := by decide +kernel
theorem dX0_join_1 : decode cX0_join 1 = .ok (.lookupswitch 148 #[(38, 89), (42, 144), (43, 136), (45, 140), (60, 103), (61, 114), (62, 125), (124, 75)], 75) := by decide +kernel
theorem dX0_join_76 : decode cX0_join 76 = .ok (.iload_n 1, 1) := by decide +kernel
theorem dX0_join_77 : decode cX0_join 77 = .ok (.ifCond .ne 7, 3) := by decide +kernel
theorem dX0_join_80 : decode cX0_join 80 = .ok (.iload_n 2, 1) := by decide +kernel
theorem dX0_join_81 : decode cX0_join 81 = .ok (.ifCond .eq 7, 3) := by decide +kernel
theorem dX0_join_84 : decode cX0_join 84 = .ok (.iconst 1, 1) := by decide +kernel
theorem dX0_join_85 : decode cX0_join 85 = .ok (.goto 4, 3) := by decide +kernel
theorem dX0_join_88 : decode cX0_join 88 = .ok (.iconst 0, 1) := by decide +kernel
theorem dX0_join_89 : decode cX0_join 89 = .ok (.ireturn, 1) := by decide +kernel
theorem dX0_join_90 : decode cX0_join 90 = .ok (.iload_n 1, 1) := by decide +kernel
theorem dX0_join_91 : decode cX0_join 91 = .ok (.ifCond .eq 11, 3) := by decide +kernel
theorem dX0_join_94 : decode cX0_join 94 = .ok (.iload_n 2, 1) := by decide +kernel
theorem dX0_join_95 : decode cX0_join 95 = .ok (.ifCond .eq 7, 3) := by decide +kernel
theorem dX0_join_98 : decode cX0_join 98 = .ok (.iconst 1, 1) := by decide +kernel
theorem dX0_join_99 : decode cX0_join 99 = .ok (.goto 4, 3) := by decide +kernel
theorem dX0_join_102 : decode cX0_join 102 = .ok (.iconst 0, 1) := by decide +kernel
theorem dX0_join_103 : decode cX0_join 103 = .ok (.ireturn, 1) := by decide +kernel
theorem dX0_join_104 : decode cX0_join 104 = .ok (.iload_n 1, 1) := by decide +kernel
theorem dX0_join_105 : decode cX0_join 105 = .ok (.iload_n 2, 1) := by decide +kernel
theorem dX0_join_106 : decode cX0_join 106 = .ok (.if_icmp .ge 7, 3) := by decide +kernel
theorem dX0_join_109 : decode cX0_join 109 = .ok (.iconst 1, 1) := by decide +kernel
theorem dX0_join_110 : decode cX0_join 110 = .ok (.goto 4, 3) := by decide +kernel
theorem dX0_join_113 : decode cX0_join 113 = .ok (.iconst 0, 1) := by decide +kernel
theorem dX0_join_114 : decode cX0_join 114 = .ok (.ireturn, 1) := by decide +kernel
theorem dX0_join_115 : decode cX0_join 115 = .ok (.iload_n 1, 1) := by decide +kernel
theorem dX0_join_116 : decode cX0_join 116 = .ok (.iload_n 2, 1) := by decide +kernel
theorem dX0_join_117 : decode cX0_join 117 = .ok (.if_icmp .ne 7, 3) := by decide +kernel
theorem dX0_join_120 : decode cX0_join 120 = .ok (.iconst 1, 1) := by decide +kernel
theorem dX0_join_121 : decode cX0_join 121 = .ok (.goto 4, 3) := by decide +kernel
theorem dX0_join_124 : decode cX0_join 124 = .ok (.iconst 0, 1) := by decide +kernel
theorem dX0_join_125 : decode cX0_join 125 = .ok (.ireturn, 1) := by decide +kernel
theorem dX0_join_126 : decode cX0_join 126 = .ok (.iload_n 1, 1) := by decide +kernel
theorem dX0_join_127 : decode cX0_join 127 = .ok (.iload_n 2, 1) := by decide +kernel
theorem dX0_join_128 : decode cX0_join 128 = .ok (.if_icmp .le 7, 3) := by decide +kernel
theorem dX0_join_131 : decode cX0_join 131 = .ok (.iconst 1, 1) := by decide +kernel
theorem dX0_join_132 : decode cX0_join 132 = .ok (.goto 4, 3) := by decide +kernel
theorem dX0_join_135 : decode cX0_join 135 = .ok (.iconst 0, 1) := by decide +kernel
theorem dX0_join_136 : decode cX0_join 136 = .ok (.ireturn, 1) := by decide +kernel
theorem dX0_join_137 : decode cX0_join 137 = .ok (.iload_n 1, 1) := by decide +kernel
theorem dX0_join_138 : decode cX0_join 138 = .ok (.iload_n 2, 1) := by decide +kernel
theorem dX0_join_139 : decode cX0_join 139 = .ok (.iadd, 1) := by decide +kernel
theorem dX0_join_140 : decode cX0_join 140 = .ok (.ireturn, 1) := by decide +kernel
theorem dX0_join_141 : decode cX0_join 141 = .ok (.iload_n 1, 1) := by decide +kernel
theorem dX0_join_142 : decode cX0_join 142 = .ok (.iload_n 2, 1) := by decide +kernel
theorem dX0_join_143 : decode cX0_join 143 = .ok (.isub, 1) := by decide +kernel
theorem dX0_join_144 : decode cX0_join 144 = .ok (.ireturn, 1) := by decide +kernel
theorem dX0_join_145 : decode cX0_join 145 = .ok (.iload_n 1, 1) := by decide +kernel
theorem dX0_join_146 : decode cX0_join 146 = .ok (.iload_n 2, 1) := by decide +kernel
theorem dX0_join_147 : decode cX0_join 147 = .ok (.imul, 1) := by decide +kernel
theorem dX0_join_148 : decode cX0_join 148 = .ok (.ireturn, 1) := by decide +kernel
theorem dX0_join_149 : decode cX0_join 149 = .ok (.iload_n 2, 1) := by decide +kernel
theorem dX0_join_150 : decode cX0_join 150 = .ok (.ifCond .ne 7, 3) := by decide +kernel
theorem dX0_join_153 : decode cX0_join 153 = .ok (.iconst 0, 1) := by decide +kernel
theorem dX0_join_154 : decode cX0_join 154 = .ok (.goto 6, 3) := by decide +kernel
theorem dX0_join_157 : decode cX0_join 157 = .ok (.iload_n 1, 1) := by decide +kernel
theorem dX0_join_158 : decode cX0_join 158 = .ok (.iload_n 2, 1) := by decide +kernel
theorem dX0_join_159 : decode cX0_join 159 = .ok (.idiv, 1) := by decide +kernel
theorem dX0_join_160 : decode cX0_join 160 = .ok (.ireturn, 1) := by decide +kernel
theorem dX1_init_0 : decode cX1_init 0 = .ok (.aload_n 0, 1) := by decide +kernel
theorem dX1_init_1 : decode cX1_init 1 = .ok (.invokespecial 3, 3) := by decide +kernel
theorem dX1_init_4 : decode cX1_init 4 = .ok (.aload_n 0, 1) := by decide +kernel
theorem dX1_init_5 : decode cX1_init 5 = .ok (.bipush 24, 2) := by decide +kernel
theorem dX1_init_7 : decode cX1_init 7 = .ok (.newarray .int, 2) := by decide +kernel
theorem dX1_init_9 : decode cX1_init 9 = .ok (.putfield 9, 3) := by decide +kernel
theorem dX1_init_12 : decode cX1_init 12 = .ok (.aload_n 0, 1) := by decide +kernel
theorem dX1_init_13 : decode cX1_init 13 = .ok (.iconst (-1), 1) := by decide +kernel
theorem dX1_init_14 : decode cX1_init 14 = .ok (.putfield 15, 3) := by decide +kernel
theorem dX1_init_17 : decode cX1_init 17 = .ok (.aload_n 0, 1) := by decide +kernel
theorem dX1_init_18 : decode cX1_init 18 = .ok (.iconst 0, 1) := by decide +kernel
theorem dX1_init_19 : decode cX1_init 19 = .ok (.putfield 19, 3) := by decide +kernel
theorem dX1_init_22 : decode cX1_init 22 = .ok (.return_, 1) := by decide +kernel
theorem dX1_isMissing_0 : decode cX1_isMissing 0 = .ok (.aload_n 0, 1) := by decide +kernel
theorem dX1_isMissing_1 : decode cX1_isMissing 1 = .ok (.getfield 15, 3) := by decide +kernel
theorem dX1_isMissing_4 : decode cX1_isMissing 4 = .ok (.iconst (-1), 1) := by decide +kernel
theorem dX1_isMissing_5 : decode cX1_isMissing 5 = .ok (.if_icmp .ne 7, 3) := by decide +kernel
theorem dX1_isMissing_8 : decode cX1_isMissing 8 = .ok (.iconst 1, 1) := by decide +kernel
theorem dX1_isMissing_9 : decode cX1_isMissing 9 = .ok (.goto 4, 3) := by decide +kernel
theorem dX1_isMissing_12 : decode cX1_isMissing 12 = .ok (.iconst 0, 1) := by decide +kernel
theorem dX1_isMissing_13 : decode cX1_isMissing 13 = .ok (.ireturn, 1) := by decide +kernel
theorem dX1_hasPlace_0 : decode cX1_hasPlace 0 = .ok (.iload_n 1, 1) := by decide +kernel
theorem dX1_hasPlace_1 : decode cX1_hasPlace 1 = .ok (.ifCond .lt 15, 3) := by decide +kernel
theorem dX1_hasPlace_4 : decode cX1_hasPlace 4 = .ok (.iload_n 1, 1) := by decide +kernel
theorem dX1_hasPlace_5 : decode cX1_hasPlace 5 = .ok (.aload_n 0, 1) := by decide +kernel
theorem dX1_hasPlace_6 : decode cX1_hasPlace 6 = .ok (.getfield 19, 3) := by decide +kernel
theorem dX1_hasPlace_9 : decode cX1_hasPlace 9 = .ok (.if_icmp .ge 7, 3) := by decide +kernel
theorem dX1_hasPlace_12 : decode cX1_hasPlace 12 = .ok (.iconst 1, 1) := by decide +kernel
theorem dX1_hasPlace_13 : decode cX1_hasPlace 13 = .ok (.goto 4, 3) := by decide +kernel
theorem dX1_hasPlace_16 : decode cX1_hasPlace 16 = .ok (.iconst 0, 1) := by decide +kernel
theorem dX1_hasPlace_17 : decode cX1_hasPlace 17 = .ok (.ireturn, 1) := by decide +kernel
theorem dX1_hasPlaces_0 : decode cX1_hasPlaces 0 = .ok (.iload_n 1, 1) := by decide +kernel
theorem dX1_hasPlaces_1 : decode cX1_hasPlaces 1 = .ok (.ifCond .lt 29, 3) := by decide +kernel
theorem dX1_hasPlaces_4 : decode cX1_hasPlaces 4 = .ok (.iload_n 2, 1) := by decide +kernel
theorem dX1_hasPlaces_5 : decode cX1_hasPlaces 5 = .ok (.ifCond .lt 25, 3) := by decide +kernel
theorem dX1_hasPlaces_8 : decode cX1_hasPlaces 8 = .ok (.iload_n 1, 1) := by decide +kernel
theorem dX1_hasPlaces_9 : decode cX1_hasPlaces 9 = .ok (.aload_n 0, 1) := by decide +kernel
theorem dX1_hasPlaces_10 : decode cX1_hasPlaces 10 = .ok (.getfield 19, 3) := by decide +kernel
theorem dX1_hasPlaces_13 : decode cX1_hasPlaces 13 = .ok (.if_icmp .gt 17, 3) := by decide +kernel
theorem dX1_hasPlaces_16 : decode cX1_hasPlaces 16 = .ok (.iload_n 2, 1) := by decide +kernel
theorem dX1_hasPlaces_17 : decode cX1_hasPlaces 17 = .ok (.aload_n 0, 1) := by decide +kernel
theorem dX1_hasPlaces_18 : decode cX1_hasPlaces 18 = .ok (.getfield 19, 3) := by decide +kernel
theorem dX1_hasPlaces_21 : decode cX1_hasPlaces 21 = .ok (.iload_n 1, 1) := by decide +kernel
theorem dX1_hasPlaces_22 : decode cX1_hasPlaces 22 = .ok (.isub, 1) := by decide +kernel
theorem dX1_hasPlaces_23 : decode cX1_hasPlaces 23 = .ok (.if_icmp .gt 7, 3) := by decide +kernel
theorem dX1_hasPlaces_26 : decode cX1_hasPlaces 26 = .ok (.iconst 1, 1) := by decide +kernel
theorem dX1_hasPlaces_27 : decode cX1_hasPlaces 27 = .ok (.goto 4, 3) := by decide +kernel
theorem dX1_hasPlaces_30 : decode cX1_hasPlaces 30 = .ok (.iconst 0, 1) := by decide +kernel
theorem dX1_hasPlaces_31 : decode cX1_hasPlaces 31 = .ok (.ireturn, 1) := by decide +kernel
theorem dX1_isNumber_0 : decode cX1_isNumber 0 = .ok (.aload_n 0, 1) := by decide +kernel
theorem dX1_isNumber_1 : decode cX1_isNumber 1 = .ok (.getfield 9, 3) := by decide +kernel
theorem dX1_isNumber_4 : decode cX1_isNumber 4 = .ok (.iload_n 1, 1) := by decide +kernel
theorem dX1_isNumber_5 : decode cX1_isNumber 5 = .ok (.iaload, 1) := by decide +kernel
theorem dX1_isNumber_6 : decode cX1_isNumber 6 = .ok (.ldc 22, 2) := by decide +kernel
theorem dX1_isNumber_8 : decode cX1_isNumber 8 = .ok (.if_icmp .eq 7, 3) := by decide +kernel
theorem dX1_isNumber_11 : decode cX1_isNumber 11 = .ok (.iconst 1, 1) := by decide +kernel
theorem dX1_isNumber_12 : decode cX1_isNumber 12 = .ok (.goto 4, 3) := by decide +kernel
theorem dX1_isNumber_15 : decode cX1_isNumber 15 = .ok (.iconst 0, 1) := by decide +kernel
theorem dX1_isNumber_16 : decode cX1_isNumber 16 = .ok (.ireturn, 1) := by decide +kernel
theorem dX1_begin_0 : decode cX1_begin 0 = .ok (.aload_n 0, 1) := by decide +kernel
theorem dX1_begin_1 : decode cX1_begin 1 = .ok (.iload_n 1, 1) := by decide +kernel
theorem dX1_begin_2 : decode cX1_begin 2 = .ok (.putfield 15, 3) := by decide +kernel
theorem dX1_begin_5 : decode cX1_begin 5 = .ok (.aload_n 0, 1) := by decide +kernel
theorem dX1_begin_6 : decode cX1_begin 6 = .ok (.iload_n 2, 1) := by decide +kernel
theorem dX1_begin_7 : decode cX1_begin 7 = .ok (.putfield 19, 3) := by decide +kernel
theorem dX1_begin_10 : decode cX1_begin 10 = .ok (.iconst 0, 1) := by decide +kernel
theorem dX1_begin_11 : decode cX1_begin 11 = .ok (.istore_n 3, 1) := by decide +kernel
theorem dX1_begin_12 : decode cX1_begin 12 = .ok (.iload_n 3, 1) := by decide +kernel
theorem dX1_begin_13 : decode cX1_begin 13 = .ok (.bipush 24, 2) := by decide +kernel
theorem dX1_begin_15 : decode cX1_begin 15 = .ok (.if_icmp .ge 16, 3) := by decide +kernel
theorem dX1_begin_18 : decode cX1_begin 18 = .ok (.aload_n 0, 1) := by decide +kernel
theorem dX1_begin_19 : decode cX1_begin 19 = .ok (.getfield 9, 3) := by decide +kernel
theorem dX1_begin_22 : decode cX1_begin 22 = .ok (.iload_n 3, 1) := by decide +kernel
theorem dX1_begin_23 : decode cX1_begin 23 = .ok (.iconst 0, 1) := by decide +kernel
theorem dX1_begin_24 : decode cX1_begin 24 = .ok (.iastore, 1) := by decide +kernel
theorem dX1_begin_25 : decode cX1_begin 25 = .ok (.iinc 3 1, 3) := by decide +kernel
theorem dX1_begin_28 : decode cX1_begin 28 = .ok (.goto (-16), 3) := by decide +kernel
theorem dX1_begin_31 : decode cX1_begin 31 = .ok (.return_, 1) := by decide +kernel
theorem dX1_become_0 : decode cX1_become 0 = .ok (.aload_n 0, 1) := by decide +kernel
theorem dX1_become_1 : decode cX1_become 1 = .ok (.aload_n 1, 1) := by decide +kernel
theorem dX1_become_2 : decode cX1_become 2 = .ok (.getfield 15, 3) := by decide +kernel
theorem dX1_become_5 : decode cX1_become 5 = .ok (.putfield 15, 3) := by decide +kernel
theorem dX1_become_8 : decode cX1_become 8 = .ok (.aload_n 0, 1) := by decide +kernel
theorem dX1_become_9 : decode cX1_become 9 = .ok (.aload_n 1, 1) := by decide +kernel
theorem dX1_become_10 : decode cX1_become 10 = .ok (.getfield 19, 3) := by decide +kernel
theorem dX1_become_13 : decode cX1_become 13 = .ok (.putfield 19, 3) := by decide +kernel
theorem dX1_become_16 : decode cX1_become 16 = .ok (.aload_n 1, 1) := by decide +kernel
theorem dX1_become_17 : decode cX1_become 17 = .ok (.getfield 9, 3) := by decide +kernel
theorem dX1_become_20 : decode cX1_become 20 = .ok (.iconst 0, 1) := by decide +kernel
theorem dX1_become_21 : decode cX1_become 21 = .ok (.aload_n 0, 1) := by decide +kernel
theorem dX1_become_22 : decode cX1_become 22 = .ok (.getfield 9, 3) := by decide +kernel
theorem dX1_become_25 : decode cX1_become 25 = .ok (.iconst 0, 1) := by decide +kernel
theorem dX1_become_26 : decode cX1_become 26 = .ok (.bipush 24, 2) := by decide +kernel
theorem dX1_become_28 : decode cX1_become 28 = .ok (.invokestatic 23, 3) := by decide +kernel
theorem dX1_become_31 : decode cX1_become 31 = .ok (.return_, 1) := by decide +kernel
theorem dX2_init_0 : decode cX2_init 0 = .ok (.aload_n 0, 1) := by decide +kernel
theorem dX2_init_1 : decode cX2_init 1 = .ok (.invokespecial 3, 3) := by decide +kernel
theorem dX2_init_4 : decode cX2_init 4 = .ok (.aload_n 0, 1) := by decide +kernel
theorem dX2_init_5 : decode cX2_init 5 = .ok (.new 9, 3) := by decide +kernel
theorem dX2_init_8 : decode cX2_init 8 = .ok (.dup, 1) := by decide +kernel
theorem dX2_init_9 : decode cX2_init 9 = .ok (.invokespecial 11, 3) := by decide +kernel
theorem dX2_init_12 : decode cX2_init 12 = .ok (.putfield 12, 3) := by decide +kernel
theorem dX2_init_15 : decode cX2_init 15 = .ok (.aload_n 0, 1) := by decide +kernel
theorem dX2_init_16 : decode cX2_init 16 = .ok (.iconst 0, 1) := by decide +kernel
theorem dX2_init_17 : decode cX2_init 17 = .ok (.putfield 18, 3) := by decide +kernel
theorem dX2_init_20 : decode cX2_init 20 = .ok (.aload_n 0, 1) := by decide +kernel
theorem dX2_init_21 : decode cX2_init 21 = .ok (.iconst 0, 1) := by decide +kernel
theorem dX2_init_22 : decode cX2_init 22 = .ok (.putfield 22, 3) := by decide +kernel
theorem dX2_init_25 : decode cX2_init 25 = .ok (.aload_n 0, 1) := by decide +kernel
theorem dX2_init_26 : decode cX2_init 26 = .ok (.iconst 0, 1) := by decide +kernel
theorem dX2_init_27 : decode cX2_init 27 = .ok (.putfield 25, 3) := by decide +kernel
theorem dX2_init_30 : decode cX2_init 30 = .ok (.aload_n 0, 1) := by decide +kernel
theorem dX2_init_31 : decode cX2_init 31 = .ok (.iconst 0, 1) := by decide +kernel
theorem dX2_init_32 : decode cX2_init 32 = .ok (.putfield 28, 3) := by decide +kernel
theorem dX2_init_35 : decode cX2_init 35 = .ok (.return_, 1) := by decide +kernel
theorem dX3_init_0 : decode cX3_init 0 = .ok (.aload_n 0, 1) := by decide +kernel
theorem dX3_init_1 : decode cX3_init 1 = .ok (.invokespecial 3, 3) := by decide +kernel
theorem dX3_init_4 : decode cX3_init 4 = .ok (.aload_n 0, 1) := by decide +kernel
theorem dX3_init_5 : decode cX3_init 5 = .ok (.bipush 8, 2) := by decide +kernel
theorem dX3_init_7 : decode cX3_init 7 = .ok (.newarray .int, 2) := by decide +kernel
theorem dX3_init_9 : decode cX3_init 9 = .ok (.putfield 9, 3) := by decide +kernel
theorem dX3_init_12 : decode cX3_init 12 = .ok (.aload_n 0, 1) := by decide +kernel
theorem dX3_init_13 : decode cX3_init 13 = .ok (.bipush 8, 2) := by decide +kernel
theorem dX3_init_15 : decode cX3_init 15 = .ok (.newarray .int, 2) := by decide +kernel
theorem dX3_init_17 : decode cX3_init 17 = .ok (.putfield 15, 3) := by decide +kernel
theorem dX3_init_20 : decode cX3_init 20 = .ok (.aload_n 0, 1) := by decide +kernel
theorem dX3_init_21 : decode cX3_init 21 = .ok (.bipush 8, 2) := by decide +kernel
theorem dX3_init_23 : decode cX3_init 23 = .ok (.newarray .int, 2) := by decide +kernel
theorem dX3_init_25 : decode cX3_init 25 = .ok (.putfield 18, 3) := by decide +kernel
theorem dX3_init_28 : decode cX3_init 28 = .ok (.aload_n 0, 1) := by decide +kernel
theorem dX3_init_29 : decode cX3_init 29 = .ok (.bipush 8, 2) := by decide +kernel
theorem dX3_init_31 : decode cX3_init 31 = .ok (.newarray .int, 2) := by decide +kernel
theorem dX3_init_33 : decode cX3_init 33 = .ok (.putfield 21, 3) := by decide +kernel
theorem dX3_init_36 : decode cX3_init 36 = .ok (.aload_n 0, 1) := by decide +kernel
theorem dX3_init_37 : decode cX3_init 37 = .ok (.iconst 3, 1) := by decide +kernel
theorem dX3_init_38 : decode cX3_init 38 = .ok (.newarray .int, 2) := by decide +kernel
theorem dX3_init_40 : decode cX3_init 40 = .ok (.dup, 1) := by decide +kernel
theorem dX3_init_41 : decode cX3_init 41 = .ok (.iconst 0, 1) := by decide +kernel
theorem dX3_init_42 : decode cX3_init 42 = .ok (.iconst (-1), 1) := by decide +kernel
theorem dX3_init_43 : decode cX3_init 43 = .ok (.iastore, 1) := by decide +kernel
theorem dX3_init_44 : decode cX3_init 44 = .ok (.dup, 1) := by decide +kernel
theorem dX3_init_45 : decode cX3_init 45 = .ok (.iconst 1, 1) := by decide +kernel
theorem dX3_init_46 : decode cX3_init 46 = .ok (.iconst (-1), 1) := by decide +kernel
theorem dX3_init_47 : decode cX3_init 47 = .ok (.iastore, 1) := by decide +kernel
theorem dX3_init_48 : decode cX3_init 48 = .ok (.dup, 1) := by decide +kernel
theorem dX3_init_49 : decode cX3_init 49 = .ok (.iconst 2, 1) := by decide +kernel
theorem dX3_init_50 : decode cX3_init 50 = .ok (.iconst (-1), 1) := by decide +kernel
theorem dX3_init_51 : decode cX3_init 51 = .ok (.iastore, 1) := by decide +kernel
theorem dX3_init_52 : decode cX3_init 52 = .ok (.putfield 24, 3) := by decide +kernel
theorem dX3_init_55 : decode cX3_init 55 = .ok (.aload_n 0, 1) := by decide +kernel
theorem dX3_init_56 : decode cX3_init 56 = .ok (.iconst 0, 1) := by decide +kernel
theorem dX3_init_57 : decode cX3_init 57 = .ok (.putfield 27, 3) := by decide +kernel
theorem dX3_init_60 : decode cX3_init 60 = .ok (.aload_n 0, 1) := by decide +kernel
theorem dX3_init_61 : decode cX3_init 61 = .ok (.bipush 100, 2) := by decide +kernel
theorem dX3_init_63 : decode cX3_init 63 = .ok (.putfield 31, 3) := by decide +kernel
theorem dX3_init_66 : decode cX3_init 66 = .ok (.aload_n 0, 1) := by decide +kernel
theorem dX3_init_67 : decode cX3_init 67 = .ok (.bipush 20, 2) := by decide +kernel
theorem dX3_init_69 : decode cX3_init 69 = .ok (.putfield 34, 3) := by decide +kernel
theorem dX3_init_72 : decode cX3_init 72 = .ok (.aload_n 0, 1) := by decide +kernel
theorem dX3_init_73 : decode cX3_init 73 = .ok (.iconst 0, 1) := by decide +kernel
theorem dX3_init_74 : decode cX3_init 74 = .ok (.putfield 37, 3) := by decide +kernel
theorem dX3_init_77 : decode cX3_init 77 = .ok (.aload_n 0, 1) := by decide +kernel
theorem dX3_init_78 : decode cX3_init 78 = .ok (.iconst 0, 1) := by decide +kernel
theorem dX3_init_79 : decode cX3_init 79 = .ok (.putfield 40, 3) := by decide +kernel
theorem dX3_init_82 : decode cX3_init 82 = .ok (.aload_n 0, 1) := by decide +kernel
theorem dX3_init_83 : decode cX3_init 83 = .ok (.iconst 0, 1) := by decide +kernel
theorem dX3_init_84 : decode cX3_init 84 = .ok (.putfield 43, 3) := by decide +kernel
theorem dX3_init_87 : decode cX3_init 87 = .ok (.aload_n 0, 1) := by decide +kernel
theorem dX3_init_88 : decode cX3_init 88 = .ok (.iconst 1, 1) := by decide +kernel
theorem dX3_init_89 : decode cX3_init 89 = .ok (.putfield 46, 3) := by decide +kernel
theorem dX3_init_92 : decode cX3_init 92 = .ok (.aload_n 0, 1) := by decide +kernel
theorem dX3_init_93 : decode cX3_init 93 = .ok (.iconst 0, 1) := by decide +kernel
theorem dX3_init_94 : decode cX3_init 94 = .ok (.putfield 49, 3) := by decide +kernel
theorem dX3_init_97 : decode cX3_init 97 = .ok (.aload_n 0, 1) := by decide +kernel
theorem dX3_init_98 : decode cX3_init 98 = .ok (.aload_n 1, 1) := by decide +kernel
theorem dX3_init_99 : decode cX3_init 99 = .ok (.putfield 52, 3) := by decide +kernel
theorem dX3_init_102 : decode cX3_init 102 = .ok (.return_, 1) := by decide +kernel
theorem dX3_become_0 : decode cX3_become 0 = .ok (.aload_n 1, 1) := by decide +kernel
theorem dX3_become_1 : decode cX3_become 1 = .ok (.getfield 9, 3) := by decide +kernel
theorem dX3_become_4 : decode cX3_become 4 = .ok (.iconst 0, 1) := by decide +kernel
theorem dX3_become_5 : decode cX3_become 5 = .ok (.aload_n 0, 1) := by decide +kernel
theorem dX3_become_6 : decode cX3_become 6 = .ok (.getfield 9, 3) := by decide +kernel
theorem dX3_become_9 : decode cX3_become 9 = .ok (.iconst 0, 1) := by decide +kernel
theorem dX3_become_10 : decode cX3_become 10 = .ok (.bipush 8, 2) := by decide +kernel
theorem dX3_become_12 : decode cX3_become 12 = .ok (.invokestatic 56, 3) := by decide +kernel
theorem dX3_become_15 : decode cX3_become 15 = .ok (.aload_n 1, 1) := by decide +kernel
theorem dX3_become_16 : decode cX3_become 16 = .ok (.getfield 15, 3) := by decide +kernel
theorem dX3_become_19 : decode cX3_become 19 = .ok (.iconst 0, 1) := by decide +kernel
theorem dX3_become_20 : decode cX3_become 20 = .ok (.aload_n 0, 1) := by decide +kernel
theorem dX3_become_21 : decode cX3_become 21 = .ok (.getfield 15, 3) := by decide +kernel
theorem dX3_become_24 : decode cX3_become 24 = .ok (.iconst 0, 1) := by decide +kernel
theorem dX3_become_25 : decode cX3_become 25 = .ok (.bipush 8, 2) := by decide +kernel
theorem dX3_become_27 : decode cX3_become 27 = .ok (.invokestatic 56, 3) := by decide +kernel
theorem dX3_become_30 : decode cX3_become 30 = .ok (.aload_n 1, 1) := by decide +kernel
theorem dX3_become_31 : decode cX3_become 31 = .ok (.getfield 18, 3) := by decide +kernel
theorem dX3_become_34 : decode cX3_become 34 = .ok (.iconst 0, 1) := by decide +kernel
theorem dX3_become_35 : decode cX3_become 35 = .ok (.aload_n 0, 1) := by decide +kernel
theorem dX3_become_36 : decode cX3_become 36 = .ok (.getfield 18, 3) := by decide +kernel
theorem dX3_become_39 : decode cX3_become 39 = .ok (.iconst 0, 1) := by decide +kernel
theorem dX3_become_40 : decode cX3_become 40 = .ok (.bipush 8, 2) := by decide +kernel
theorem dX3_become_42 : decode cX3_become 42 = .ok (.invokestatic 56, 3) := by decide +kernel
theorem dX3_become_45 : decode cX3_become 45 = .ok (.aload_n 1, 1) := by decide +kernel
theorem dX3_become_46 : decode cX3_become 46 = .ok (.getfield 21, 3) := by decide +kernel
theorem dX3_become_49 : decode cX3_become 49 = .ok (.iconst 0, 1) := by decide +kernel
theorem dX3_become_50 : decode cX3_become 50 = .ok (.aload_n 0, 1) := by decide +kernel
theorem dX3_become_51 : decode cX3_become 51 = .ok (.getfield 21, 3) := by decide +kernel
theorem dX3_become_54 : decode cX3_become 54 = .ok (.iconst 0, 1) := by decide +kernel
theorem dX3_become_55 : decode cX3_become 55 = .ok (.bipush 8, 2) := by decide +kernel
theorem dX3_become_57 : decode cX3_become 57 = .ok (.invokestatic 56, 3) := by decide +kernel
theorem dX3_become_60 : decode cX3_become 60 = .ok (.aload_n 1, 1) := by decide +kernel
theorem dX3_become_61 : decode cX3_become 61 = .ok (.getfield 24, 3) := by decide +kernel
theorem dX3_become_64 : decode cX3_become 64 = .ok (.iconst 0, 1) := by decide +kernel
theorem dX3_become_65 : decode cX3_become 65 = .ok (.aload_n 0, 1) := by decide +kernel
theorem dX3_become_66 : decode cX3_become 66 = .ok (.getfield 24, 3) := by decide +kernel
theorem dX3_become_69 : decode cX3_become 69 = .ok (.iconst 0, 1) := by decide +kernel
theorem dX3_become_70 : decode cX3_become 70 = .ok (.iconst 3, 1) := by decide +kernel
theorem dX3_become_71 : decode cX3_become 71 = .ok (.invokestatic 56, 3) := by decide +kernel
theorem dX3_become_74 : decode cX3_become 74 = .ok (.aload_n 0, 1) := by decide +kernel
theorem dX3_become_75 : decode cX3_become 75 = .ok (.aload_n 1, 1) := by decide +kernel
theorem dX3_become_76 : decode cX3_become 76 = .ok (.getfield 27, 3) := by decide +kernel
theorem dX3_become_79 : decode cX3_become 79 = .ok (.putfield 27, 3) := by decide +kernel
theorem dX3_become_82 : decode cX3_become 82 = .ok (.aload_n 0, 1) := by decide +kernel
theorem dX3_become_83 : decode cX3_become 83 = .ok (.aload_n 1, 1) := by decide +kernel
theorem dX3_become_84 : decode cX3_become 84 = .ok (.getfield 31, 3) := by decide +kernel
theorem dX3_become_87 : decode cX3_become 87 = .ok (.putfield 31, 3) := by decide +kernel
theorem dX3_become_90 : decode cX3_become 90 = .ok (.aload_n 0, 1) := by decide +kernel
theorem dX3_become_91 : decode cX3_become 91 = .ok (.aload_n 1, 1) := by decide +kernel
theorem dX3_become_92 : decode cX3_become 92 = .ok (.getfield 34, 3) := by decide +kernel
theorem dX3_become_95 : decode cX3_become 95 = .ok (.putfield 34, 3) := by decide +kernel
theorem dX3_become_98 : decode cX3_become 98 = .ok (.aload_n 0, 1) := by decide +kernel
theorem dX3_become_99 : decode cX3_become 99 = .ok (.aload_n 1, 1) := by decide +kernel
theorem dX3_become_100 : decode cX3_become 100 = .ok (.getfield 37, 3) := by decide +kernel
theorem dX3_become_103 : decode cX3_become 103 = .ok (.putfield 37, 3) := by decide +kernel
theorem dX3_become_106 : decode cX3_become 106 = .ok (.aload_n 0, 1) := by decide +kernel
theorem dX3_become_107 : decode cX3_become 107 = .ok (.aload_n 1, 1) := by decide +kernel
theorem dX3_become_108 : decode cX3_become 108 = .ok (.getfield 40, 3) := by decide +kernel
theorem dX3_become_111 : decode cX3_become 111 = .ok (.putfield 40, 3) := by decide +kernel
theorem dX3_become_114 : decode cX3_become 114 = .ok (.aload_n 0, 1) := by decide +kernel
theorem dX3_become_115 : decode cX3_become 115 = .ok (.aload_n 1, 1) := by decide +kernel
theorem dX3_become_116 : decode cX3_become 116 = .ok (.getfield 43, 3) := by decide +kernel
theorem dX3_become_119 : decode cX3_become 119 = .ok (.putfield 43, 3) := by decide +kernel
theorem dX3_become_122 : decode cX3_become 122 = .ok (.aload_n 0, 1) := by decide +kernel
theorem dX3_become_123 : decode cX3_become 123 = .ok (.aload_n 1, 1) := by decide +kernel
theorem dX3_become_124 : decode cX3_become 124 = .ok (.getfield 46, 3) := by decide +kernel
theorem dX3_become_127 : decode cX3_become 127 = .ok (.putfield 46, 3) := by decide +kernel
theorem dX3_become_130 : decode cX3_become 130 = .ok (.aload_n 0, 1) := by decide +kernel
theorem dX3_become_131 : decode cX3_become 131 = .ok (.aload_n 1, 1) := by decide +kernel
theorem dX3_become_132 : decode cX3_become 132 = .ok (.getfield 49, 3) := by decide +kernel
theorem dX3_become_135 : decode cX3_become 135 = .ok (.putfield 49, 3) := by decide +kernel
theorem dX3_become_138 : decode cX3_become 138 = .ok (.return_, 1) := by decide +kernel
theorem dX3_has_0 : decode cX3_has 0 = .ok (.iload_n 1, 1) := by decide +kernel
theorem dX3_has_1 : decode cX3_has 1 = .ok (.ifCond .lt 15, 3) := by decide +kernel
theorem dX3_has_4 : decode cX3_has 4 = .ok (.iload_n 1, 1) := by decide +kernel
theorem dX3_has_5 : decode cX3_has 5 = .ok (.aload_n 0, 1) := by decide +kernel
theorem dX3_has_6 : decode cX3_has 6 = .ok (.getfield 27, 3) := by decide +kernel
theorem dX3_has_9 : decode cX3_has 9 = .ok (.if_icmp .ge 7, 3) := by decide +kernel
theorem dX3_has_12 : decode cX3_has 12 = .ok (.iconst 1, 1) := by decide +kernel
theorem dX3_has_13 : decode cX3_has 13 = .ok (.goto 4, 3) := by decide +kernel
theorem dX3_has_16 : decode cX3_has 16 = .ok (.iconst 0, 1) := by decide +kernel
theorem dX3_has_17 : decode cX3_has 17 = .ok (.ireturn, 1) := by decide +kernel
theorem dX3_addThing_0 : decode cX3_addThing 0 = .ok (.aload_n 0, 1) := by decide +kernel
theorem dX3_addThing_1 : decode cX3_addThing 1 = .ok (.getfield 27, 3) := by decide +kernel
theorem dX3_addThing_4 : decode cX3_addThing 4 = .ok (.istore 4, 2) := by decide +kernel
theorem dX3_addThing_6 : decode cX3_addThing 6 = .ok (.aload_n 0, 1) := by decide +kernel
theorem dX3_addThing_7 : decode cX3_addThing 7 = .ok (.getfield 9, 3) := by decide +kernel
theorem dX3_addThing_10 : decode cX3_addThing 10 = .ok (.iload 4, 2) := by decide +kernel
theorem dX3_addThing_12 : decode cX3_addThing 12 = .ok (.iload_n 1, 1) := by decide +kernel
theorem dX3_addThing_13 : decode cX3_addThing 13 = .ok (.iastore, 1) := by decide +kernel
theorem dX3_addThing_14 : decode cX3_addThing 14 = .ok (.aload_n 0, 1) := by decide +kernel
theorem dX3_addThing_15 : decode cX3_addThing 15 = .ok (.getfield 15, 3) := by decide +kernel
theorem dX3_addThing_18 : decode cX3_addThing 18 = .ok (.iload 4, 2) := by decide +kernel
theorem dX3_addThing_20 : decode cX3_addThing 20 = .ok (.iload_n 2, 1) := by decide +kernel
theorem dX3_addThing_21 : decode cX3_addThing 21 = .ok (.iastore, 1) := by decide +kernel
theorem dX3_addThing_22 : decode cX3_addThing 22 = .ok (.aload_n 0, 1) := by decide +kernel
theorem dX3_addThing_23 : decode cX3_addThing 23 = .ok (.getfield 18, 3) := by decide +kernel
theorem dX3_addThing_26 : decode cX3_addThing 26 = .ok (.iload 4, 2) := by decide +kernel
theorem dX3_addThing_28 : decode cX3_addThing 28 = .ok (.iload_n 3, 1) := by decide +kernel
theorem dX3_addThing_29 : decode cX3_addThing 29 = .ok (.iastore, 1) := by decide +kernel
theorem dX3_addThing_30 : decode cX3_addThing 30 = .ok (.aload_n 0, 1) := by decide +kernel
theorem dX3_addThing_31 : decode cX3_addThing 31 = .ok (.getfield 21, 3) := by decide +kernel
theorem dX3_addThing_34 : decode cX3_addThing 34 = .ok (.iload 4, 2) := by decide +kernel
theorem dX3_addThing_36 : decode cX3_addThing 36 = .ok (.iconst 0, 1) := by decide +kernel
theorem dX3_addThing_37 : decode cX3_addThing 37 = .ok (.iastore, 1) := by decide +kernel
theorem dX3_addThing_38 : decode cX3_addThing 38 = .ok (.aload_n 0, 1) := by decide +kernel
theorem dX3_addThing_39 : decode cX3_addThing 39 = .ok (.dup, 1) := by decide +kernel
theorem dX3_addThing_40 : decode cX3_addThing 40 = .ok (.getfield 27, 3) := by decide +kernel
theorem dX3_addThing_43 : decode cX3_addThing 43 = .ok (.iconst 1, 1) := by decide +kernel
theorem dX3_addThing_44 : decode cX3_addThing 44 = .ok (.iadd, 1) := by decide +kernel
theorem dX3_addThing_45 : decode cX3_addThing 45 = .ok (.putfield 27, 3) := by decide +kernel
theorem dX3_addThing_48 : decode cX3_addThing 48 = .ok (.iload 4, 2) := by decide +kernel
theorem dX3_addThing_50 : decode cX3_addThing 50 = .ok (.ireturn, 1) := by decide +kernel
theorem dX3_drawThing_0 : decode cX3_drawThing 0 = .ok (.aload_n 0, 1) := by decide +kernel
theorem dX3_drawThing_1 : decode cX3_drawThing 1 = .ok (.invokevirtual 62, 3) := by decide +kernel
theorem dX3_drawThing_4 : decode cX3_drawThing 4 = .ok (.bipush 6, 2) := by decide +kernel
theorem dX3_drawThing_6 : decode cX3_drawThing 6 = .ok (.irem, 1) := by decide +kernel
theorem dX3_drawThing_7 : decode cX3_drawThing 7 = .ok (.istore_n 1, 1) := by decide +kernel
theorem dX3_drawThing_8 : decode cX3_drawThing 8 = .ok (.iconst 1, 1) := by decide +kernel
theorem dX3_drawThing_9 : decode cX3_drawThing 9 = .ok (.aload_n 0, 1) := by decide +kernel
theorem dX3_drawThing_10 : decode cX3_drawThing 10 = .ok (.invokevirtual 62, 3) := by decide +kernel
theorem dX3_drawThing_13 : decode cX3_drawThing 13 = .ok (.bipush 9, 2) := by decide +kernel
theorem dX3_drawThing_15 : decode cX3_drawThing 15 = .ok (.irem, 1) := by decide +kernel
theorem dX3_drawThing_16 : decode cX3_drawThing 16 = .ok (.iadd, 1) := by decide +kernel
theorem dX3_drawThing_17 : decode cX3_drawThing 17 = .ok (.istore_n 2, 1) := by decide +kernel
theorem dX3_drawThing_18 : decode cX3_drawThing 18 = .ok (.aload_n 0, 1) := by decide +kernel
theorem dX3_drawThing_19 : decode cX3_drawThing 19 = .ok (.invokevirtual 62, 3) := by decide +kernel
theorem dX3_drawThing_22 : decode cX3_drawThing 22 = .ok (.sipush 1000, 3) := by decide +kernel
theorem dX3_drawThing_25 : decode cX3_drawThing 25 = .ok (.irem, 1) := by decide +kernel
theorem dX3_drawThing_26 : decode cX3_drawThing 26 = .ok (.istore_n 3, 1) := by decide +kernel
theorem dX3_drawThing_27 : decode cX3_drawThing 27 = .ok (.aload_n 0, 1) := by decide +kernel
theorem dX3_drawThing_28 : decode cX3_drawThing 28 = .ok (.iload_n 1, 1) := by decide +kernel
theorem dX3_drawThing_29 : decode cX3_drawThing 29 = .ok (.iload_n 2, 1) := by decide +kernel
theorem dX3_drawThing_30 : decode cX3_drawThing 30 = .ok (.iload_n 3, 1) := by decide +kernel
theorem dX3_drawThing_31 : decode cX3_drawThing 31 = .ok (.invokevirtual 66, 3) := by decide +kernel
theorem dX3_drawThing_34 : decode cX3_drawThing 34 = .ok (.pop, 1) := by decide +kernel
theorem dX3_drawThing_35 : decode cX3_drawThing 35 = .ok (.return_, 1) := by decide +kernel
theorem dX3_draw_0 : decode cX3_draw 0 = .ok (.aload_n 0, 1) := by decide +kernel
theorem dX3_draw_1 : decode cX3_draw 1 = .ok (.aload_n 0, 1) := by decide +kernel
theorem dX3_draw_2 : decode cX3_draw 2 = .ok (.getfield 46, 3) := by decide +kernel
theorem dX3_draw_5 : decode cX3_draw 5 = .ok (.ldc 70, 2) := by decide +kernel
theorem dX3_draw_7 : decode cX3_draw 7 = .ok (.imul, 1) := by decide +kernel
theorem dX3_draw_8 : decode cX3_draw 8 = .ok (.sipush 12345, 3) := by decide +kernel
theorem dX3_draw_11 : decode cX3_draw 11 = .ok (.iadd, 1) := by decide +kernel
theorem dX3_draw_12 : decode cX3_draw 12 = .ok (.putfield 46, 3) := by decide +kernel
theorem dX3_draw_15 : decode cX3_draw 15 = .ok (.aload_n 0, 1) := by decide +kernel
theorem dX3_draw_16 : decode cX3_draw 16 = .ok (.getfield 46, 3) := by decide +kernel
theorem dX3_draw_19 : decode cX3_draw 19 = .ok (.bipush 8, 2) := by decide +kernel
theorem dX3_draw_21 : decode cX3_draw 21 = .ok (.iushr, 1) := by decide +kernel
theorem dX3_draw_22 : decode cX3_draw 22 = .ok (.ireturn, 1) := by decide +kernel
theorem dX3_throwIn_0 : decode cX3_throwIn 0 = .ok (.aload_n 0, 1) := by decide +kernel
theorem dX3_throwIn_1 : decode cX3_throwIn 1 = .ok (.getfield 18, 3) := by decide +kernel
theorem dX3_throwIn_4 : decode cX3_throwIn 4 = .ok (.iload_n 1, 1) := by decide +kernel
theorem dX3_throwIn_5 : decode cX3_throwIn 5 = .ok (.aload_n 0, 1) := by decide +kernel
theorem dX3_throwIn_6 : decode cX3_throwIn 6 = .ok (.getfield 18, 3) := by decide +kernel
theorem dX3_throwIn_9 : decode cX3_throwIn 9 = .ok (.iload_n 1, 1) := by decide +kernel
theorem dX3_throwIn_10 : decode cX3_throwIn 10 = .ok (.iaload, 1) := by decide +kernel
theorem dX3_throwIn_11 : decode cX3_throwIn 11 = .ok (.iload_n 2, 1) := by decide +kernel
theorem dX3_throwIn_12 : decode cX3_throwIn 12 = .ok (.iadd, 1) := by decide +kernel
theorem dX3_throwIn_13 : decode cX3_throwIn 13 = .ok (.ldc 71, 2) := by decide +kernel
theorem dX3_throwIn_15 : decode cX3_throwIn 15 = .ok (.invokestatic 72, 3) := by decide +kernel
theorem dX3_throwIn_18 : decode cX3_throwIn 18 = .ok (.iastore, 1) := by decide +kernel
theorem dX3_throwIn_19 : decode cX3_throwIn 19 = .ok (.return_, 1) := by decide +kernel
theorem dX3_resetThing_0 : decode cX3_resetThing 0 = .ok (.aload_n 0, 1) := by decide +kernel
theorem dX3_resetThing_1 : decode cX3_resetThing 1 = .ok (.getfield 18, 3) := by decide +kernel
theorem dX3_resetThing_4 : decode cX3_resetThing 4 = .ok (.iload_n 2, 1) := by decide +kernel
theorem dX3_resetThing_5 : decode cX3_resetThing 5 = .ok (.aload_n 1, 1) := by decide +kernel
theorem dX3_resetThing_6 : decode cX3_resetThing 6 = .ok (.getfield 18, 3) := by decide +kernel
theorem dX3_resetThing_9 : decode cX3_resetThing 9 = .ok (.iload_n 2, 1) := by decide +kernel
theorem dX3_resetThing_10 : decode cX3_resetThing 10 = .ok (.iaload, 1) := by decide +kernel
theorem dX3_resetThing_11 : decode cX3_resetThing 11 = .ok (.iastore, 1) := by decide +kernel
theorem dX3_resetThing_12 : decode cX3_resetThing 12 = .ok (.aload_n 0, 1) := by decide +kernel
theorem dX3_resetThing_13 : decode cX3_resetThing 13 = .ok (.getfield 21, 3) := by decide +kernel
theorem dX3_resetThing_16 : decode cX3_resetThing 16 = .ok (.iload_n 2, 1) := by decide +kernel
theorem dX3_resetThing_17 : decode cX3_resetThing 17 = .ok (.aload_n 1, 1) := by decide +kernel
theorem dX3_resetThing_18 : decode cX3_resetThing 18 = .ok (.getfield 21, 3) := by decide +kernel
theorem dX3_resetThing_21 : decode cX3_resetThing 21 = .ok (.iload_n 2, 1) := by decide +kernel
theorem dX3_resetThing_22 : decode cX3_resetThing 22 = .ok (.iaload, 1) := by decide +kernel
theorem dX3_resetThing_23 : decode cX3_resetThing 23 = .ok (.iastore, 1) := by decide +kernel
theorem dX3_resetThing_24 : decode cX3_resetThing 24 = .ok (.return_, 1) := by decide +kernel
theorem dX3_halveAll_0 : decode cX3_halveAll 0 = .ok (.iconst 0, 1) := by decide +kernel
theorem dX3_halveAll_1 : decode cX3_halveAll 1 = .ok (.istore_n 1, 1) := by decide +kernel
theorem dX3_halveAll_2 : decode cX3_halveAll 2 = .ok (.iload_n 1, 1) := by decide +kernel
theorem dX3_halveAll_3 : decode cX3_halveAll 3 = .ok (.aload_n 0, 1) := by decide +kernel
theorem dX3_halveAll_4 : decode cX3_halveAll 4 = .ok (.getfield 27, 3) := by decide +kernel
theorem dX3_halveAll_7 : decode cX3_halveAll 7 = .ok (.if_icmp .ge 19, 3) := by decide +kernel
theorem dX3_halveAll_10 : decode cX3_halveAll 10 = .ok (.aload_n 0, 1) := by decide +kernel
theorem dX3_halveAll_11 : decode cX3_halveAll 11 = .ok (.getfield 18, 3) := by decide +kernel
theorem dX3_halveAll_14 : decode cX3_halveAll 14 = .ok (.iload_n 1, 1) := by decide +kernel
theorem dX3_halveAll_15 : decode cX3_halveAll 15 = .ok (.dup2, 1) := by decide +kernel
theorem dX3_halveAll_16 : decode cX3_halveAll 16 = .ok (.iaload, 1) := by decide +kernel
theorem dX3_halveAll_17 : decode cX3_halveAll 17 = .ok (.iconst 2, 1) := by decide +kernel
theorem dX3_halveAll_18 : decode cX3_halveAll 18 = .ok (.idiv, 1) := by decide +kernel
theorem dX3_halveAll_19 : decode cX3_halveAll 19 = .ok (.iastore, 1) := by decide +kernel
theorem dX3_halveAll_20 : decode cX3_halveAll 20 = .ok (.iinc 1 1, 3) := by decide +kernel
theorem dX3_halveAll_23 : decode cX3_halveAll 23 = .ok (.goto (-21), 3) := by decide +kernel
theorem dX3_halveAll_26 : decode cX3_halveAll 26 = .ok (.return_, 1) := by decide +kernel
theorem dX3_passDays_0 : decode cX3_passDays 0 = .ok (.iconst 0, 1) := by decide +kernel
theorem dX3_passDays_1 : decode cX3_passDays 1 = .ok (.istore_n 2, 1) := by decide +kernel
theorem dX3_passDays_2 : decode cX3_passDays 2 = .ok (.iload_n 2, 1) := by decide +kernel
theorem dX3_passDays_3 : decode cX3_passDays 3 = .ok (.iload_n 1, 1) := by decide +kernel
theorem dX3_passDays_4 : decode cX3_passDays 4 = .ok (.if_icmp .ge 13, 3) := by decide +kernel
theorem dX3_passDays_7 : decode cX3_passDays 7 = .ok (.aload_n 0, 1) := by decide +kernel
theorem dX3_passDays_8 : decode cX3_passDays 8 = .ok (.invokevirtual 78, 3) := by decide +kernel
theorem dX3_passDays_11 : decode cX3_passDays 11 = .ok (.iinc 2 1, 3) := by decide +kernel
theorem dX3_passDays_14 : decode cX3_passDays 14 = .ok (.goto (-12), 3) := by decide +kernel
theorem dX3_passDays_17 : decode cX3_passDays 17 = .ok (.return_, 1) := by decide +kernel
theorem dX3_passDay_0 : decode cX3_passDay 0 = .ok (.iconst 0, 1) := by decide +kernel
theorem dX3_passDay_1 : decode cX3_passDay 1 = .ok (.istore_n 1, 1) := by decide +kernel
theorem dX3_passDay_2 : decode cX3_passDay 2 = .ok (.iload_n 1, 1) := by decide +kernel
theorem dX3_passDay_3 : decode cX3_passDay 3 = .ok (.aload_n 0, 1) := by decide +kernel
theorem dX3_passDay_4 : decode cX3_passDay 4 = .ok (.getfield 27, 3) := by decide +kernel
theorem dX3_passDay_7 : decode cX3_passDay 7 = .ok (.if_icmp .ge 14, 3) := by decide +kernel
theorem dX3_passDay_10 : decode cX3_passDay 10 = .ok (.aload_n 0, 1) := by decide +kernel
theorem dX3_passDay_11 : decode cX3_passDay 11 = .ok (.iload_n 1, 1) := by decide +kernel
theorem dX3_passDay_12 : decode cX3_passDay 12 = .ok (.invokevirtual 81, 3) := by decide +kernel
theorem dX3_passDay_15 : decode cX3_passDay 15 = .ok (.iinc 1 1, 3) := by decide +kernel
theorem dX3_passDay_18 : decode cX3_passDay 18 = .ok (.goto (-16), 3) := by decide +kernel
theorem dX3_passDay_21 : decode cX3_passDay 21 = .ok (.aload_n 0, 1) := by decide +kernel
theorem dX3_passDay_22 : decode cX3_passDay 22 = .ok (.dup, 1) := by decide +kernel
theorem dX3_passDay_23 : decode cX3_passDay 23 = .ok (.getfield 37, 3) := by decide +kernel
theorem dX3_passDay_26 : decode cX3_passDay 26 = .ok (.iconst 1, 1) := by decide +kernel
theorem dX3_passDay_27 : decode cX3_passDay 27 = .ok (.iadd, 1) := by decide +kernel
theorem dX3_passDay_28 : decode cX3_passDay 28 = .ok (.putfield 37, 3) := by decide +kernel
theorem dX3_passDay_31 : decode cX3_passDay 31 = .ok (.return_, 1) := by decide +kernel
theorem dX3_passDaysOf_0 : decode cX3_passDaysOf 0 = .ok (.iconst 0, 1) := by decide +kernel
theorem dX3_passDaysOf_1 : decode cX3_passDaysOf 1 = .ok (.istore_n 3, 1) := by decide +kernel
theorem dX3_passDaysOf_2 : decode cX3_passDaysOf 2 = .ok (.iload_n 3, 1) := by decide +kernel
theorem dX3_passDaysOf_3 : decode cX3_passDaysOf 3 = .ok (.iload_n 2, 1) := by decide +kernel
theorem dX3_passDaysOf_4 : decode cX3_passDaysOf 4 = .ok (.if_icmp .ge 14, 3) := by decide +kernel
theorem dX3_passDaysOf_7 : decode cX3_passDaysOf 7 = .ok (.aload_n 0, 1) := by decide +kernel
theorem dX3_passDaysOf_8 : decode cX3_passDaysOf 8 = .ok (.iload_n 1, 1) := by decide +kernel
theorem dX3_passDaysOf_9 : decode cX3_passDaysOf 9 = .ok (.invokevirtual 81, 3) := by decide +kernel
theorem dX3_passDaysOf_12 : decode cX3_passDaysOf 12 = .ok (.iinc 3 1, 3) := by decide +kernel
theorem dX3_passDaysOf_15 : decode cX3_passDaysOf 15 = .ok (.goto (-13), 3) := by decide +kernel
theorem dX3_passDaysOf_18 : decode cX3_passDaysOf 18 = .ok (.return_, 1) := by decide +kernel
theorem dX3_passDayOf_0 : decode cX3_passDayOf 0 = .ok (.aload_n 0, 1) := by decide +kernel
theorem dX3_passDayOf_1 : decode cX3_passDayOf 1 = .ok (.getfield 18, 3) := by decide +kernel
theorem dX3_passDayOf_4 : decode cX3_passDayOf 4 = .ok (.iload_n 1, 1) := by decide +kernel
theorem dX3_passDayOf_5 : decode cX3_passDayOf 5 = .ok (.iaload, 1) := by decide +kernel
theorem dX3_passDayOf_6 : decode cX3_passDayOf 6 = .ok (.istore_n 2, 1) := by decide +kernel
theorem dX3_passDayOf_7 : decode cX3_passDayOf 7 = .ok (.aload_n 0, 1) := by decide +kernel
theorem dX3_passDayOf_8 : decode cX3_passDayOf 8 = .ok (.getfield 31, 3) := by decide +kernel
theorem dX3_passDayOf_11 : decode cX3_passDayOf 11 = .ok (.ifCond .le 31, 3) := by decide +kernel
theorem dX3_passDayOf_14 : decode cX3_passDayOf 14 = .ok (.aload_n 0, 1) := by decide +kernel
theorem dX3_passDayOf_15 : decode cX3_passDayOf 15 = .ok (.getfield 34, 3) := by decide +kernel
theorem dX3_passDayOf_18 : decode cX3_passDayOf 18 = .ok (.aload_n 0, 1) := by decide +kernel
theorem dX3_passDayOf_19 : decode cX3_passDayOf 19 = .ok (.getfield 31, 3) := by decide +kernel
theorem dX3_passDayOf_22 : decode cX3_passDayOf 22 = .ok (.if_icmp .ge 20, 3) := by decide +kernel
theorem dX3_passDayOf_25 : decode cX3_passDayOf 25 = .ok (.aload_n 0, 1) := by decide +kernel
theorem dX3_passDayOf_26 : decode cX3_passDayOf 26 = .ok (.getfield 18, 3) := by decide +kernel
theorem dX3_passDayOf_29 : decode cX3_passDayOf 29 = .ok (.iload_n 1, 1) := by decide +kernel
theorem dX3_passDayOf_30 : decode cX3_passDayOf 30 = .ok (.iaload, 1) := by decide +kernel
theorem dX3_passDayOf_31 : decode cX3_passDayOf 31 = .ok (.aload_n 0, 1) := by decide +kernel
theorem dX3_passDayOf_32 : decode cX3_passDayOf 32 = .ok (.getfield 34, 3) := by decide +kernel
theorem dX3_passDayOf_35 : decode cX3_passDayOf 35 = .ok (.imul, 1) := by decide +kernel
theorem dX3_passDayOf_36 : decode cX3_passDayOf 36 = .ok (.aload_n 0, 1) := by decide +kernel
theorem dX3_passDayOf_37 : decode cX3_passDayOf 37 = .ok (.getfield 31, 3) := by decide +kernel
theorem dX3_passDayOf_40 : decode cX3_passDayOf 40 = .ok (.idiv, 1) := by decide +kernel
theorem dX3_passDayOf_41 : decode cX3_passDayOf 41 = .ok (.istore_n 2, 1) := by decide +kernel
theorem dX3_passDayOf_42 : decode cX3_passDayOf 42 = .ok (.aload_n 0, 1) := by decide +kernel
theorem dX3_passDayOf_43 : decode cX3_passDayOf 43 = .ok (.getfield 18, 3) := by decide +kernel
theorem dX3_passDayOf_46 : decode cX3_passDayOf 46 = .ok (.iload_n 1, 1) := by decide +kernel
theorem dX3_passDayOf_47 : decode cX3_passDayOf 47 = .ok (.dup2, 1) := by decide +kernel
theorem dX3_passDayOf_48 : decode cX3_passDayOf 48 = .ok (.iaload, 1) := by decide +kernel
theorem dX3_passDayOf_49 : decode cX3_passDayOf 49 = .ok (.iload_n 2, 1) := by decide +kernel
theorem dX3_passDayOf_50 : decode cX3_passDayOf 50 = .ok (.isub, 1) := by decide +kernel
theorem dX3_passDayOf_51 : decode cX3_passDayOf 51 = .ok (.iastore, 1) := by decide +kernel
theorem dX3_passDayOf_52 : decode cX3_passDayOf 52 = .ok (.aload_n 0, 1) := by decide +kernel
theorem dX3_passDayOf_53 : decode cX3_passDayOf 53 = .ok (.dup, 1) := by decide +kernel
theorem dX3_passDayOf_54 : decode cX3_passDayOf 54 = .ok (.getfield 40, 3) := by decide +kernel
theorem dX3_passDayOf_57 : decode cX3_passDayOf 57 = .ok (.iload_n 2, 1) := by decide +kernel
theorem dX3_passDayOf_58 : decode cX3_passDayOf 58 = .ok (.iadd, 1) := by decide +kernel
theorem dX3_passDayOf_59 : decode cX3_passDayOf 59 = .ok (.putfield 40, 3) := by decide +kernel
theorem dX3_passDayOf_62 : decode cX3_passDayOf 62 = .ok (.aload_n 0, 1) := by decide +kernel
theorem dX3_passDayOf_63 : decode cX3_passDayOf 63 = .ok (.iload_n 1, 1) := by decide +kernel
theorem dX3_passDayOf_64 : decode cX3_passDayOf 64 = .ok (.invokevirtual 85, 3) := by decide +kernel
theorem dX3_passDayOf_67 : decode cX3_passDayOf 67 = .ok (.istore_n 3, 1) := by decide +kernel
theorem dX3_passDayOf_68 : decode cX3_passDayOf 68 = .ok (.aload_n 0, 1) := by decide +kernel
theorem dX3_passDayOf_69 : decode cX3_passDayOf 69 = .ok (.getfield 18, 3) := by decide +kernel
theorem dX3_passDayOf_72 : decode cX3_passDayOf 72 = .ok (.iload_n 1, 1) := by decide +kernel
theorem dX3_passDayOf_73 : decode cX3_passDayOf 73 = .ok (.dup2, 1) := by decide +kernel
theorem dX3_passDayOf_74 : decode cX3_passDayOf 74 = .ok (.iaload, 1) := by decide +kernel
theorem dX3_passDayOf_75 : decode cX3_passDayOf 75 = .ok (.iload_n 3, 1) := by decide +kernel
theorem dX3_passDayOf_76 : decode cX3_passDayOf 76 = .ok (.isub, 1) := by decide +kernel
theorem dX3_passDayOf_77 : decode cX3_passDayOf 77 = .ok (.iastore, 1) := by decide +kernel
theorem dX3_passDayOf_78 : decode cX3_passDayOf 78 = .ok (.aload_n 0, 1) := by decide +kernel
theorem dX3_passDayOf_79 : decode cX3_passDayOf 79 = .ok (.dup, 1) := by decide +kernel
theorem dX3_passDayOf_80 : decode cX3_passDayOf 80 = .ok (.getfield 43, 3) := by decide +kernel
theorem dX3_passDayOf_83 : decode cX3_passDayOf 83 = .ok (.iload_n 3, 1) := by decide +kernel
theorem dX3_passDayOf_84 : decode cX3_passDayOf 84 = .ok (.iadd, 1) := by decide +kernel
theorem dX3_passDayOf_85 : decode cX3_passDayOf 85 = .ok (.putfield 43, 3) := by decide +kernel
theorem dX3_passDayOf_88 : decode cX3_passDayOf 88 = .ok (.aload_n 0, 1) := by decide +kernel
theorem dX3_passDayOf_89 : decode cX3_passDayOf 89 = .ok (.getfield 21, 3) := by decide +kernel
theorem dX3_passDayOf_92 : decode cX3_passDayOf 92 = .ok (.iload_n 1, 1) := by decide +kernel
theorem dX3_passDayOf_93 : decode cX3_passDayOf 93 = .ok (.aload_n 0, 1) := by decide +kernel
theorem dX3_passDayOf_94 : decode cX3_passDayOf 94 = .ok (.getfield 18, 3) := by decide +kernel
theorem dX3_passDayOf_97 : decode cX3_passDayOf 97 = .ok (.iload_n 1, 1) := by decide +kernel
theorem dX3_passDayOf_98 : decode cX3_passDayOf 98 = .ok (.iaload, 1) := by decide +kernel
theorem dX3_passDayOf_99 : decode cX3_passDayOf 99 = .ok (.ifCond .le 20, 3) := by decide +kernel
theorem dX3_passDayOf_102 : decode cX3_passDayOf 102 = .ok (.aload_n 0, 1) := by decide +kernel
theorem dX3_passDayOf_103 : decode cX3_passDayOf 103 = .ok (.getfield 21, 3) := by decide +kernel
theorem dX3_passDayOf_106 : decode cX3_passDayOf 106 = .ok (.iload_n 1, 1) := by decide +kernel
theorem dX3_passDayOf_107 : decode cX3_passDayOf 107 = .ok (.iaload, 1) := by decide +kernel
theorem dX3_passDayOf_108 : decode cX3_passDayOf 108 = .ok (.iconst 1, 1) := by decide +kernel
theorem dX3_passDayOf_109 : decode cX3_passDayOf 109 = .ok (.iadd, 1) := by decide +kernel
theorem dX3_passDayOf_110 : decode cX3_passDayOf 110 = .ok (.sipush 9999, 3) := by decide +kernel
theorem dX3_passDayOf_113 : decode cX3_passDayOf 113 = .ok (.invokestatic 72, 3) := by decide +kernel
theorem dX3_passDayOf_116 : decode cX3_passDayOf 116 = .ok (.goto 4, 3) := by decide +kernel
theorem dX3_passDayOf_119 : decode cX3_passDayOf 119 = .ok (.iconst 0, 1) := by decide +kernel
theorem dX3_passDayOf_120 : decode cX3_passDayOf 120 = .ok (.iastore, 1) := by decide +kernel
theorem dX3_passDayOf_121 : decode cX3_passDayOf 121 = .ok (.return_, 1) := by decide +kernel
theorem dX3_wearsOf_0 : decode cX3_wearsOf 0 = .ok (.aload_n 0, 1) := by decide +kernel
theorem dX3_wearsOf_1 : decode cX3_wearsOf 1 = .ok (.getfield 9, 3) := by decide +kernel
theorem dX3_wearsOf_4 : decode cX3_wearsOf 4 = .ok (.iload_n 1, 1) := by decide +kernel
theorem dX3_wearsOf_5 : decode cX3_wearsOf 5 = .ok (.iaload, 1) := by decide +kernel
theorem dX3_wearsOf_6 : decode cX3_wearsOf 6 = .ok (.tableswitch 73 1 4 #[30, 50, 40, 56], 30) := by decide +kernel
theorem dX3_wearsOf_36 : decode cX3_wearsOf 36 = .ok (.aload_n 0, 1) := by decide +kernel
theorem dX3_wearsOf_37 : decode cX3_wearsOf 37 = .ok (.getfield 18, 3) := by decide +kernel
theorem dX3_wearsOf_40 : decode cX3_wearsOf 40 = .ok (.iload_n 1, 1) := by decide +kernel
theorem dX3_wearsOf_41 : decode cX3_wearsOf 41 = .ok (.iaload, 1) := by decide +kernel
theorem dX3_wearsOf_42 : decode cX3_wearsOf 42 = .ok (.bipush 100, 2) := by decide +kernel
theorem dX3_wearsOf_44 : decode cX3_wearsOf 44 = .ok (.idiv, 1) := by decide +kernel
theorem dX3_wearsOf_45 : decode cX3_wearsOf 45 = .ok (.ireturn, 1) := by decide +kernel
theorem dX3_wearsOf_46 : decode cX3_wearsOf 46 = .ok (.aload_n 0, 1) := by decide +kernel
theorem dX3_wearsOf_47 : decode cX3_wearsOf 47 = .ok (.getfield 18, 3) := by decide +kernel
theorem dX3_wearsOf_50 : decode cX3_wearsOf 50 = .ok (.iload_n 1, 1) := by decide +kernel
theorem dX3_wearsOf_51 : decode cX3_wearsOf 51 = .ok (.iaload, 1) := by decide +kernel
theorem dX3_wearsOf_52 : decode cX3_wearsOf 52 = .ok (.bipush 100, 2) := by decide +kernel
theorem dX3_wearsOf_54 : decode cX3_wearsOf 54 = .ok (.idiv, 1) := by decide +kernel
theorem dX3_wearsOf_55 : decode cX3_wearsOf 55 = .ok (.ireturn, 1) := by decide +kernel
theorem dX3_wearsOf_56 : decode cX3_wearsOf 56 = .ok (.aload_n 0, 1) := by decide +kernel
theorem dX3_wearsOf_57 : decode cX3_wearsOf 57 = .ok (.iload_n 1, 1) := by decide +kernel
theorem dX3_wearsOf_58 : decode cX3_wearsOf 58 = .ok (.invokevirtual 89, 3) := by decide +kernel
theorem dX3_wearsOf_61 : decode cX3_wearsOf 61 = .ok (.ireturn, 1) := by decide +kernel
theorem dX3_wearsOf_62 : decode cX3_wearsOf 62 = .ok (.iconst 2, 1) := by decide +kernel
theorem dX3_wearsOf_63 : decode cX3_wearsOf 63 = .ok (.aload_n 0, 1) := by decide +kernel
theorem dX3_wearsOf_64 : decode cX3_wearsOf 64 = .ok (.iload_n 1, 1) := by decide +kernel
theorem dX3_wearsOf_65 : decode cX3_wearsOf 65 = .ok (.invokevirtual 89, 3) := by decide +kernel
theorem dX3_wearsOf_68 : decode cX3_wearsOf 68 = .ok (.imul, 1) := by decide +kernel
theorem dX3_wearsOf_69 : decode cX3_wearsOf 69 = .ok (.aload_n 0, 1) := by decide +kernel
theorem dX3_wearsOf_70 : decode cX3_wearsOf 70 = .ok (.getfield 18, 3) := by decide +kernel
theorem dX3_wearsOf_73 : decode cX3_wearsOf 73 = .ok (.iload_n 1, 1) := by decide +kernel
theorem dX3_wearsOf_74 : decode cX3_wearsOf 74 = .ok (.iaload, 1) := by decide +kernel
theorem dX3_wearsOf_75 : decode cX3_wearsOf 75 = .ok (.invokestatic 72, 3) := by decide +kernel
theorem dX3_wearsOf_78 : decode cX3_wearsOf 78 = .ok (.ireturn, 1) := by decide +kernel
theorem dX3_wearsOf_79 : decode cX3_wearsOf 79 = .ok (.iconst 0, 1) := by decide +kernel
theorem dX3_wearsOf_80 : decode cX3_wearsOf 80 = .ok (.ireturn, 1) := by decide +kernel
theorem dX3_wearsAsHerb_0 : decode cX3_wearsAsHerb 0 = .ok (.aload_n 0, 1) := by decide +kernel
theorem dX3_wearsAsHerb_1 : decode cX3_wearsAsHerb 1 = .ok (.getfield 18, 3) := by decide +kernel
theorem dX3_wearsAsHerb_4 : decode cX3_wearsAsHerb 4 = .ok (.iload_n 1, 1) := by decide +kernel
theorem dX3_wearsAsHerb_5 : decode cX3_wearsAsHerb 5 = .ok (.iaload, 1) := by decide +kernel
theorem dX3_wearsAsHerb_6 : decode cX3_wearsAsHerb 6 = .ok (.bipush 20, 2) := by decide +kernel
theorem dX3_wearsAsHerb_8 : decode cX3_wearsAsHerb 8 = .ok (.idiv, 1) := by decide +kernel
theorem dX3_wearsAsHerb_9 : decode cX3_wearsAsHerb 9 = .ok (.iconst 1, 1) := by decide +kernel
theorem dX3_wearsAsHerb_10 : decode cX3_wearsAsHerb 10 = .ok (.iadd, 1) := by decide +kernel
theorem dX3_wearsAsHerb_11 : decode cX3_wearsAsHerb 11 = .ok (.aload_n 0, 1) := by decide +kernel
theorem dX3_wearsAsHerb_12 : decode cX3_wearsAsHerb 12 = .ok (.getfield 18, 3) := by decide +kernel
theorem dX3_wearsAsHerb_15 : decode cX3_wearsAsHerb 15 = .ok (.iload_n 1, 1) := by decide +kernel
theorem dX3_wearsAsHerb_16 : decode cX3_wearsAsHerb 16 = .ok (.iaload, 1) := by decide +kernel
theorem dX3_wearsAsHerb_17 : decode cX3_wearsAsHerb 17 = .ok (.invokestatic 72, 3) := by decide +kernel
theorem dX3_wearsAsHerb_20 : decode cX3_wearsAsHerb 20 = .ok (.ireturn, 1) := by decide +kernel
theorem dX3_tasteOf_0 : decode cX3_tasteOf 0 = .ok (.aload_n 0, 1) := by decide +kernel
theorem dX3_tasteOf_1 : decode cX3_tasteOf 1 = .ok (.getfield 9, 3) := by decide +kernel
theorem dX3_tasteOf_4 : decode cX3_tasteOf 4 = .ok (.iload_n 1, 1) := by decide +kernel
theorem dX3_tasteOf_5 : decode cX3_tasteOf 5 = .ok (.iaload, 1) := by decide +kernel
theorem dX3_tasteOf_6 : decode cX3_tasteOf 6 = .ok (.tableswitch 70 1 5 #[34, 48, 40, 54, 62], 34) := by decide +kernel
theorem dX3_tasteOf_40 : decode cX3_tasteOf 40 = .ok (.aload_n 0, 1) := by decide +kernel
theorem dX3_tasteOf_41 : decode cX3_tasteOf 41 = .ok (.iload_n 1, 1) := by decide +kernel
theorem dX3_tasteOf_42 : decode cX3_tasteOf 42 = .ok (.invokevirtual 92, 3) := by decide +kernel
theorem dX3_tasteOf_45 : decode cX3_tasteOf 45 = .ok (.ireturn, 1) := by decide +kernel
theorem dX3_tasteOf_46 : decode cX3_tasteOf 46 = .ok (.iconst 2, 1) := by decide +kernel
theorem dX3_tasteOf_47 : decode cX3_tasteOf 47 = .ok (.aload_n 0, 1) := by decide +kernel
theorem dX3_tasteOf_48 : decode cX3_tasteOf 48 = .ok (.iload_n 1, 1) := by decide +kernel
theorem dX3_tasteOf_49 : decode cX3_tasteOf 49 = .ok (.invokevirtual 92, 3) := by decide +kernel
theorem dX3_tasteOf_52 : decode cX3_tasteOf 52 = .ok (.imul, 1) := by decide +kernel
theorem dX3_tasteOf_53 : decode cX3_tasteOf 53 = .ok (.ireturn, 1) := by decide +kernel
theorem dX3_tasteOf_54 : decode cX3_tasteOf 54 = .ok (.aload_n 0, 1) := by decide +kernel
theorem dX3_tasteOf_55 : decode cX3_tasteOf 55 = .ok (.iload_n 1, 1) := by decide +kernel
theorem dX3_tasteOf_56 : decode cX3_tasteOf 56 = .ok (.invokevirtual 95, 3) := by decide +kernel
theorem dX3_tasteOf_59 : decode cX3_tasteOf 59 = .ok (.ireturn, 1) := by decide +kernel
theorem dX3_tasteOf_60 : decode cX3_tasteOf 60 = .ok (.aload_n 0, 1) := by decide +kernel
theorem dX3_tasteOf_61 : decode cX3_tasteOf 61 = .ok (.iload_n 1, 1) := by decide +kernel
theorem dX3_tasteOf_62 : decode cX3_tasteOf 62 = .ok (.invokevirtual 95, 3) := by decide +kernel
theorem dX3_tasteOf_65 : decode cX3_tasteOf 65 = .ok (.iconst 2, 1) := by decide +kernel
theorem dX3_tasteOf_66 : decode cX3_tasteOf 66 = .ok (.idiv, 1) := by decide +kernel
theorem dX3_tasteOf_67 : decode cX3_tasteOf 67 = .ok (.ireturn, 1) := by decide +kernel
theorem dX3_tasteOf_68 : decode cX3_tasteOf 68 = .ok (.iconst 2, 1) := by decide +kernel
theorem dX3_tasteOf_69 : decode cX3_tasteOf 69 = .ok (.aload_n 0, 1) := by decide +kernel
theorem dX3_tasteOf_70 : decode cX3_tasteOf 70 = .ok (.iload_n 1, 1) := by decide +kernel
theorem dX3_tasteOf_71 : decode cX3_tasteOf 71 = .ok (.invokevirtual 98, 3) := by decide +kernel
theorem dX3_tasteOf_74 : decode cX3_tasteOf 74 = .ok (.imul, 1) := by decide +kernel
theorem dX3_tasteOf_75 : decode cX3_tasteOf 75 = .ok (.ireturn, 1) := by decide +kernel
theorem dX3_tasteOf_76 : decode cX3_tasteOf 76 = .ok (.aload_n 0, 1) := by decide +kernel
theorem dX3_tasteOf_77 : decode cX3_tasteOf 77 = .ok (.iload_n 1, 1) := by decide +kernel
theorem dX3_tasteOf_78 : decode cX3_tasteOf 78 = .ok (.invokevirtual 98, 3) := by decide +kernel
theorem dX3_tasteOf_81 : decode cX3_tasteOf 81 = .ok (.ireturn, 1) := by decide +kernel
theorem dX3_tasteAsThing_0 : decode cX3_tasteAsThing 0 = .ok (.aload_n 0, 1) := by decide +kernel
theorem dX3_tasteAsThing_1 : decode cX3_tasteAsThing 1 = .ok (.getfield 18, 3) := by decide +kernel
theorem dX3_tasteAsThing_4 : decode cX3_tasteAsThing 4 = .ok (.iload_n 1, 1) := by decide +kernel
theorem dX3_tasteAsThing_5 : decode cX3_tasteAsThing 5 = .ok (.iaload, 1) := by decide +kernel
theorem dX3_tasteAsThing_6 : decode cX3_tasteAsThing 6 = .ok (.aload_n 0, 1) := by decide +kernel
theorem dX3_tasteAsThing_7 : decode cX3_tasteAsThing 7 = .ok (.getfield 15, 3) := by decide +kernel
theorem dX3_tasteAsThing_10 : decode cX3_tasteAsThing 10 = .ok (.iload_n 1, 1) := by decide +kernel
theorem dX3_tasteAsThing_11 : decode cX3_tasteAsThing 11 = .ok (.iaload, 1) := by decide +kernel
theorem dX3_tasteAsThing_12 : decode cX3_tasteAsThing 12 = .ok (.imul, 1) := by decide +kernel
theorem dX3_tasteAsThing_13 : decode cX3_tasteAsThing 13 = .ok (.bipush 100, 2) := by decide +kernel
theorem dX3_tasteAsThing_15 : decode cX3_tasteAsThing 15 = .ok (.idiv, 1) := by decide +kernel
theorem dX3_tasteAsThing_16 : decode cX3_tasteAsThing 16 = .ok (.ireturn, 1) := by decide +kernel
theorem dX3_tasteAsBone_0 : decode cX3_tasteAsBone 0 = .ok (.aload_n 0, 1) := by decide +kernel
theorem dX3_tasteAsBone_1 : decode cX3_tasteAsBone 1 = .ok (.getfield 18, 3) := by decide +kernel
theorem dX3_tasteAsBone_4 : decode cX3_tasteAsBone 4 = .ok (.iload_n 1, 1) := by decide +kernel
theorem dX3_tasteAsBone_5 : decode cX3_tasteAsBone 5 = .ok (.iaload, 1) := by decide +kernel
theorem dX3_tasteAsBone_6 : decode cX3_tasteAsBone 6 = .ok (.ifCond .le 17, 3) := by decide +kernel
theorem dX3_tasteAsBone_9 : decode cX3_tasteAsBone 9 = .ok (.aload_n 0, 1) := by decide +kernel
theorem dX3_tasteAsBone_10 : decode cX3_tasteAsBone 10 = .ok (.getfield 21, 3) := by decide +kernel
theorem dX3_tasteAsBone_13 : decode cX3_tasteAsBone 13 = .ok (.iload_n 1, 1) := by decide +kernel
theorem dX3_tasteAsBone_14 : decode cX3_tasteAsBone 14 = .ok (.iaload, 1) := by decide +kernel
theorem dX3_tasteAsBone_15 : decode cX3_tasteAsBone 15 = .ok (.bipush 30, 2) := by decide +kernel
theorem dX3_tasteAsBone_17 : decode cX3_tasteAsBone 17 = .ok (.invokestatic 72, 3) := by decide +kernel
theorem dX3_tasteAsBone_20 : decode cX3_tasteAsBone 20 = .ok (.goto 4, 3) := by decide +kernel
theorem dX3_tasteAsBone_23 : decode cX3_tasteAsBone 23 = .ok (.iconst 0, 1) := by decide +kernel
theorem dX3_tasteAsBone_24 : decode cX3_tasteAsBone 24 = .ok (.istore_n 2, 1) := by decide +kernel
theorem dX3_tasteAsBone_25 : decode cX3_tasteAsBone 25 = .ok (.aload_n 0, 1) := by decide +kernel
theorem dX3_tasteAsBone_26 : decode cX3_tasteAsBone 26 = .ok (.iload_n 1, 1) := by decide +kernel
theorem dX3_tasteAsBone_27 : decode cX3_tasteAsBone 27 = .ok (.invokevirtual 98, 3) := by decide +kernel
theorem dX3_tasteAsBone_30 : decode cX3_tasteAsBone 30 = .ok (.iload_n 2, 1) := by decide +kernel
theorem dX3_tasteAsBone_31 : decode cX3_tasteAsBone 31 = .ok (.iadd, 1) := by decide +kernel
theorem dX3_tasteAsBone_32 : decode cX3_tasteAsBone 32 = .ok (.ireturn, 1) := by decide +kernel
theorem dX3_tasteAsHerb_0 : decode cX3_tasteAsHerb 0 = .ok (.aload_n 0, 1) := by decide +kernel
theorem dX3_tasteAsHerb_1 : decode cX3_tasteAsHerb 1 = .ok (.iload_n 1, 1) := by decide +kernel
theorem dX3_tasteAsHerb_2 : decode cX3_tasteAsHerb 2 = .ok (.invokevirtual 98, 3) := by decide +kernel
theorem dX3_tasteAsHerb_5 : decode cX3_tasteAsHerb 5 = .ok (.istore_n 2, 1) := by decide +kernel
theorem dX3_tasteAsHerb_6 : decode cX3_tasteAsHerb 6 = .ok (.iload_n 2, 1) := by decide +kernel
theorem dX3_tasteAsHerb_7 : decode cX3_tasteAsHerb 7 = .ok (.ifCond .ne 5, 3) := by decide +kernel
theorem dX3_tasteAsHerb_10 : decode cX3_tasteAsHerb 10 = .ok (.iconst 0, 1) := by decide +kernel
theorem dX3_tasteAsHerb_11 : decode cX3_tasteAsHerb 11 = .ok (.ireturn, 1) := by decide +kernel
theorem dX3_tasteAsHerb_12 : decode cX3_tasteAsHerb 12 = .ok (.aload_n 0, 1) := by decide +kernel
theorem dX3_tasteAsHerb_13 : decode cX3_tasteAsHerb 13 = .ok (.getfield 24, 3) := by decide +kernel
theorem dX3_tasteAsHerb_16 : decode cX3_tasteAsHerb 16 = .ok (.iconst 0, 1) := by decide +kernel
theorem dX3_tasteAsHerb_17 : decode cX3_tasteAsHerb 17 = .ok (.iaload, 1) := by decide +kernel
theorem dX3_tasteAsHerb_18 : decode cX3_tasteAsHerb 18 = .ok (.istore_n 3, 1) := by decide +kernel
theorem dX3_tasteAsHerb_19 : decode cX3_tasteAsHerb 19 = .ok (.iload_n 3, 1) := by decide +kernel
theorem dX3_tasteAsHerb_20 : decode cX3_tasteAsHerb 20 = .ok (.ifCond .ge 14, 3) := by decide +kernel
theorem dX3_tasteAsHerb_23 : decode cX3_tasteAsHerb 23 = .ok (.aload_n 0, 1) := by decide +kernel
theorem dX3_tasteAsHerb_24 : decode cX3_tasteAsHerb 24 = .ok (.getfield 21, 3) := by decide +kernel
theorem dX3_tasteAsHerb_27 : decode cX3_tasteAsHerb 27 = .ok (.iload_n 1, 1) := by decide +kernel
theorem dX3_tasteAsHerb_28 : decode cX3_tasteAsHerb 28 = .ok (.iaload, 1) := by decide +kernel
theorem dX3_tasteAsHerb_29 : decode cX3_tasteAsHerb 29 = .ok (.iconst 2, 1) := by decide +kernel
theorem dX3_tasteAsHerb_30 : decode cX3_tasteAsHerb 30 = .ok (.imul, 1) := by decide +kernel
theorem dX3_tasteAsHerb_31 : decode cX3_tasteAsHerb 31 = .ok (.goto 24, 3) := by decide +kernel
theorem dX3_tasteAsHerb_34 : decode cX3_tasteAsHerb 34 = .ok (.aload_n 0, 1) := by decide +kernel
theorem dX3_tasteAsHerb_35 : decode cX3_tasteAsHerb 35 = .ok (.getfield 52, 3) := by decide +kernel
theorem dX3_tasteAsHerb_38 : decode cX3_tasteAsHerb 38 = .ok (.iload_n 3, 1) := by decide +kernel
theorem dX3_tasteAsHerb_39 : decode cX3_tasteAsHerb 39 = .ok (.aload_n 0, 1) := by decide +kernel
theorem dX3_tasteAsHerb_40 : decode cX3_tasteAsHerb 40 = .ok (.getfield 18, 3) := by decide +kernel
theorem dX3_tasteAsHerb_43 : decode cX3_tasteAsHerb 43 = .ok (.iload_n 1, 1) := by decide +kernel
theorem dX3_tasteAsHerb_44 : decode cX3_tasteAsHerb 44 = .ok (.iaload, 1) := by decide +kernel
theorem dX3_tasteAsHerb_45 : decode cX3_tasteAsHerb 45 = .ok (.aload_n 0, 1) := by decide +kernel
theorem dX3_tasteAsHerb_46 : decode cX3_tasteAsHerb 46 = .ok (.getfield 21, 3) := by decide +kernel
theorem dX3_tasteAsHerb_49 : decode cX3_tasteAsHerb 49 = .ok (.iload_n 1, 1) := by decide +kernel
theorem dX3_tasteAsHerb_50 : decode cX3_tasteAsHerb 50 = .ok (.iaload, 1) := by decide +kernel
theorem dX3_tasteAsHerb_51 : decode cX3_tasteAsHerb 51 = .ok (.iload_n 2, 1) := by decide +kernel
theorem dX3_tasteAsHerb_52 : decode cX3_tasteAsHerb 52 = .ok (.invokevirtual 101, 3) := by decide +kernel
theorem dX3_tasteAsHerb_55 : decode cX3_tasteAsHerb 55 = .ok (.istore 4, 2) := by decide +kernel
theorem dX3_tasteAsHerb_57 : decode cX3_tasteAsHerb 57 = .ok (.iload_n 2, 1) := by decide +kernel
theorem dX3_tasteAsHerb_58 : decode cX3_tasteAsHerb 58 = .ok (.iload 4, 2) := by decide +kernel
theorem dX3_tasteAsHerb_60 : decode cX3_tasteAsHerb 60 = .ok (.iload_n 2, 1) := by decide +kernel
theorem dX3_tasteAsHerb_61 : decode cX3_tasteAsHerb 61 = .ok (.invokestatic 107, 3) := by decide +kernel
theorem dX3_tasteAsHerb_64 : decode cX3_tasteAsHerb 64 = .ok (.isub, 1) := by decide +kernel
theorem dX3_tasteAsHerb_65 : decode cX3_tasteAsHerb 65 = .ok (.ireturn, 1) := by decide +kernel
theorem dX3_billOf_0 : decode cX3_billOf 0 = .ok (.aload_n 0, 1) := by decide +kernel
theorem dX3_billOf_1 : decode cX3_billOf 1 = .ok (.getfield 24, 3) := by decide +kernel
theorem dX3_billOf_4 : decode cX3_billOf 4 = .ok (.iconst 1, 1) := by decide +kernel
theorem dX3_billOf_5 : decode cX3_billOf 5 = .ok (.iaload, 1) := by decide +kernel
theorem dX3_billOf_6 : decode cX3_billOf 6 = .ok (.istore_n 2, 1) := by decide +kernel
theorem dX3_billOf_7 : decode cX3_billOf 7 = .ok (.aload_n 0, 1) := by decide +kernel
theorem dX3_billOf_8 : decode cX3_billOf 8 = .ok (.iload_n 1, 1) := by decide +kernel
theorem dX3_billOf_9 : decode cX3_billOf 9 = .ok (.invokevirtual 110, 3) := by decide +kernel
theorem dX3_billOf_12 : decode cX3_billOf 12 = .ok (.istore_n 3, 1) := by decide +kernel
theorem dX3_billOf_13 : decode cX3_billOf 13 = .ok (.iload_n 2, 1) := by decide +kernel
theorem dX3_billOf_14 : decode cX3_billOf 14 = .ok (.ifCond .ge 7, 3) := by decide +kernel
theorem dX3_billOf_17 : decode cX3_billOf 17 = .ok (.iload_n 3, 1) := by decide +kernel
theorem dX3_billOf_18 : decode cX3_billOf 18 = .ok (.goto 28, 3) := by decide +kernel
theorem dX3_billOf_21 : decode cX3_billOf 21 = .ok (.aload_n 0, 1) := by decide +kernel
theorem dX3_billOf_22 : decode cX3_billOf 22 = .ok (.getfield 52, 3) := by decide +kernel
theorem dX3_billOf_25 : decode cX3_billOf 25 = .ok (.iload_n 2, 1) := by decide +kernel
theorem dX3_billOf_26 : decode cX3_billOf 26 = .ok (.iload_n 3, 1) := by decide +kernel
theorem dX3_billOf_27 : decode cX3_billOf 27 = .ok (.aload_n 0, 1) := by decide +kernel
theorem dX3_billOf_28 : decode cX3_billOf 28 = .ok (.getfield 9, 3) := by decide +kernel
theorem dX3_billOf_31 : decode cX3_billOf 31 = .ok (.iload_n 1, 1) := by decide +kernel
theorem dX3_billOf_32 : decode cX3_billOf 32 = .ok (.iaload, 1) := by decide +kernel
theorem dX3_billOf_33 : decode cX3_billOf 33 = .ok (.aload_n 0, 1) := by decide +kernel
theorem dX3_billOf_34 : decode cX3_billOf 34 = .ok (.getfield 15, 3) := by decide +kernel
theorem dX3_billOf_37 : decode cX3_billOf 37 = .ok (.iload_n 1, 1) := by decide +kernel
theorem dX3_billOf_38 : decode cX3_billOf 38 = .ok (.iaload, 1) := by decide +kernel
theorem dX3_billOf_39 : decode cX3_billOf 39 = .ok (.invokestatic 113, 3) := by decide +kernel
theorem dX3_billOf_42 : decode cX3_billOf 42 = .ok (.iconst 0, 1) := by decide +kernel
theorem dX3_billOf_43 : decode cX3_billOf 43 = .ok (.invokevirtual 101, 3) := by decide +kernel
theorem dX3_billOf_46 : decode cX3_billOf 46 = .ok (.ireturn, 1) := by decide +kernel
theorem dX3_shareOf_0 : decode cX3_shareOf 0 = .ok (.aload_n 0, 1) := by decide +kernel
theorem dX3_shareOf_1 : decode cX3_shareOf 1 = .ok (.invokevirtual 116, 3) := by decide +kernel
theorem dX3_shareOf_4 : decode cX3_shareOf 4 = .ok (.istore_n 2, 1) := by decide +kernel
theorem dX3_shareOf_5 : decode cX3_shareOf 5 = .ok (.iload_n 2, 1) := by decide +kernel
theorem dX3_shareOf_6 : decode cX3_shareOf 6 = .ok (.ifCond .ne 7, 3) := by decide +kernel
theorem dX3_shareOf_9 : decode cX3_shareOf 9 = .ok (.iconst 0, 1) := by decide +kernel
theorem dX3_shareOf_10 : decode cX3_shareOf 10 = .ok (.goto 18, 3) := by decide +kernel
theorem dX3_shareOf_13 : decode cX3_shareOf 13 = .ok (.ldc2_w 119, 3) := by decide +kernel
theorem dX3_shareOf_16 : decode cX3_shareOf 16 = .ok (.aload_n 0, 1) := by decide +kernel
theorem dX3_shareOf_17 : decode cX3_shareOf 17 = .ok (.getfield 18, 3) := by decide +kernel
theorem dX3_shareOf_20 : decode cX3_shareOf 20 = .ok (.iload_n 1, 1) := by decide +kernel
theorem dX3_shareOf_21 : decode cX3_shareOf 21 = .ok (.iaload, 1) := by decide +kernel
theorem dX3_shareOf_22 : decode cX3_shareOf 22 = .ok (.i2l, 1) := by decide +kernel
theorem dX3_shareOf_23 : decode cX3_shareOf 23 = .ok (.lmul, 1) := by decide +kernel
theorem dX3_shareOf_24 : decode cX3_shareOf 24 = .ok (.iload_n 2, 1) := by decide +kernel
theorem dX3_shareOf_25 : decode cX3_shareOf 25 = .ok (.i2l, 1) := by decide +kernel
theorem dX3_shareOf_26 : decode cX3_shareOf 26 = .ok (.ldiv, 1) := by decide +kernel
theorem dX3_shareOf_27 : decode cX3_shareOf 27 = .ok (.l2i, 1) := by decide +kernel
theorem dX3_shareOf_28 : decode cX3_shareOf 28 = .ok (.ireturn, 1) := by decide +kernel
theorem dX3_tasteOfAll_0 : decode cX3_tasteOfAll 0 = .ok (.iconst 0, 1) := by decide +kernel
theorem dX3_tasteOfAll_1 : decode cX3_tasteOfAll 1 = .ok (.istore_n 1, 1) := by decide +kernel
theorem dX3_tasteOfAll_2 : decode cX3_tasteOfAll 2 = .ok (.iconst 0, 1) := by decide +kernel
theorem dX3_tasteOfAll_3 : decode cX3_tasteOfAll 3 = .ok (.istore_n 2, 1) := by decide +kernel
theorem dX3_tasteOfAll_4 : decode cX3_tasteOfAll 4 = .ok (.iload_n 2, 1) := by decide +kernel
theorem dX3_tasteOfAll_5 : decode cX3_tasteOfAll 5 = .ok (.aload_n 0, 1) := by decide +kernel
theorem dX3_tasteOfAll_6 : decode cX3_tasteOfAll 6 = .ok (.getfield 27, 3) := by decide +kernel
theorem dX3_tasteOfAll_9 : decode cX3_tasteOfAll 9 = .ok (.if_icmp .ge 17, 3) := by decide +kernel
theorem dX3_tasteOfAll_12 : decode cX3_tasteOfAll 12 = .ok (.iload_n 1, 1) := by decide +kernel
theorem dX3_tasteOfAll_13 : decode cX3_tasteOfAll 13 = .ok (.aload_n 0, 1) := by decide +kernel
theorem dX3_tasteOfAll_14 : decode cX3_tasteOfAll 14 = .ok (.iload_n 2, 1) := by decide +kernel
theorem dX3_tasteOfAll_15 : decode cX3_tasteOfAll 15 = .ok (.invokevirtual 110, 3) := by decide +kernel
theorem dX3_tasteOfAll_18 : decode cX3_tasteOfAll 18 = .ok (.iadd, 1) := by decide +kernel
theorem dX3_tasteOfAll_19 : decode cX3_tasteOfAll 19 = .ok (.istore_n 1, 1) := by decide +kernel
theorem dX3_tasteOfAll_20 : decode cX3_tasteOfAll 20 = .ok (.iinc 2 1, 3) := by decide +kernel
theorem dX3_tasteOfAll_23 : decode cX3_tasteOfAll 23 = .ok (.goto (-19), 3) := by decide +kernel
theorem dX3_tasteOfAll_26 : decode cX3_tasteOfAll 26 = .ok (.iload_n 1, 1) := by decide +kernel
theorem dX3_tasteOfAll_27 : decode cX3_tasteOfAll 27 = .ok (.ireturn, 1) := by decide +kernel
theorem dX3_amountOfAll_0 : decode cX3_amountOfAll 0 = .ok (.iconst 0, 1) := by decide +kernel
theorem dX3_amountOfAll_1 : decode cX3_amountOfAll 1 = .ok (.istore_n 1, 1) := by decide +kernel
theorem dX3_amountOfAll_2 : decode cX3_amountOfAll 2 = .ok (.iconst 0, 1) := by decide +kernel
theorem dX3_amountOfAll_3 : decode cX3_amountOfAll 3 = .ok (.istore_n 2, 1) := by decide +kernel
theorem dX3_amountOfAll_4 : decode cX3_amountOfAll 4 = .ok (.iload_n 2, 1) := by decide +kernel
theorem dX3_amountOfAll_5 : decode cX3_amountOfAll 5 = .ok (.aload_n 0, 1) := by decide +kernel
theorem dX3_amountOfAll_6 : decode cX3_amountOfAll 6 = .ok (.getfield 27, 3) := by decide +kernel
theorem dX3_amountOfAll_9 : decode cX3_amountOfAll 9 = .ok (.if_icmp .ge 18, 3) := by decide +kernel
theorem dX3_amountOfAll_12 : decode cX3_amountOfAll 12 = .ok (.iload_n 1, 1) := by decide +kernel
theorem dX3_amountOfAll_13 : decode cX3_amountOfAll 13 = .ok (.aload_n 0, 1) := by decide +kernel
theorem dX3_amountOfAll_14 : decode cX3_amountOfAll 14 = .ok (.getfield 18, 3) := by decide +kernel
theorem dX3_amountOfAll_17 : decode cX3_amountOfAll 17 = .ok (.iload_n 2, 1) := by decide +kernel
theorem dX3_amountOfAll_18 : decode cX3_amountOfAll 18 = .ok (.iaload, 1) := by decide +kernel
theorem dX3_amountOfAll_19 : decode cX3_amountOfAll 19 = .ok (.iadd, 1) := by decide +kernel
theorem dX3_amountOfAll_20 : decode cX3_amountOfAll 20 = .ok (.istore_n 1, 1) := by decide +kernel
theorem dX3_amountOfAll_21 : decode cX3_amountOfAll 21 = .ok (.iinc 2 1, 3) := by decide +kernel
theorem dX3_amountOfAll_24 : decode cX3_amountOfAll 24 = .ok (.goto (-20), 3) := by decide +kernel
theorem dX3_amountOfAll_27 : decode cX3_amountOfAll 27 = .ok (.iload_n 1, 1) := by decide +kernel
theorem dX3_amountOfAll_28 : decode cX3_amountOfAll 28 = .ok (.ireturn, 1) := by decide +kernel
theorem dX4_init_0 : decode cX4_init 0 = .ok (.aload_n 0, 1) := by decide +kernel
theorem dX4_init_1 : decode cX4_init 1 = .ok (.invokespecial 3, 3) := by decide +kernel
theorem dX4_init_4 : decode cX4_init 4 = .ok (.aload_n 0, 1) := by decide +kernel
theorem dX4_init_5 : decode cX4_init 5 = .ok (.bipush 96, 2) := by decide +kernel
theorem dX4_init_7 : decode cX4_init 7 = .ok (.newarray .byte, 2) := by decide +kernel
theorem dX4_init_9 : decode cX4_init 9 = .ok (.putfield 9, 3) := by decide +kernel
theorem dX4_init_12 : decode cX4_init 12 = .ok (.aload_n 0, 1) := by decide +kernel
theorem dX4_init_13 : decode cX4_init 13 = .ok (.bipush 96, 2) := by decide +kernel
theorem dX4_init_15 : decode cX4_init 15 = .ok (.newarray .int, 2) := by decide +kernel
theorem dX4_init_17 : decode cX4_init 17 = .ok (.putfield 15, 3) := by decide +kernel
theorem dX4_init_20 : decode cX4_init 20 = .ok (.aload_n 0, 1) := by decide +kernel
theorem dX4_init_21 : decode cX4_init 21 = .ok (.iconst 0, 1) := by decide +kernel
theorem dX4_init_22 : decode cX4_init 22 = .ok (.putfield 19, 3) := by decide +kernel
theorem dX4_init_25 : decode cX4_init 25 = .ok (.aload_n 0, 1) := by decide +kernel
theorem dX4_init_26 : decode cX4_init 26 = .ok (.iconst (-1), 1) := by decide +kernel
theorem dX4_init_27 : decode cX4_init 27 = .ok (.putfield 23, 3) := by decide +kernel
theorem dX4_init_30 : decode cX4_init 30 = .ok (.aload_n 0, 1) := by decide +kernel
theorem dX4_init_31 : decode cX4_init 31 = .ok (.iconst 0, 1) := by decide +kernel
theorem dX4_init_32 : decode cX4_init 32 = .ok (.putfield 26, 3) := by decide +kernel
theorem dX4_init_35 : decode cX4_init 35 = .ok (.aload_n 0, 1) := by decide +kernel
theorem dX4_init_36 : decode cX4_init 36 = .ok (.iconst 0, 1) := by decide +kernel
theorem dX4_init_37 : decode cX4_init 37 = .ok (.putfield 29, 3) := by decide +kernel
theorem dX4_init_40 : decode cX4_init 40 = .ok (.aload_n 0, 1) := by decide +kernel
theorem dX4_init_41 : decode cX4_init 41 = .ok (.iconst 0, 1) := by decide +kernel
theorem dX4_init_42 : decode cX4_init 42 = .ok (.putfield 32, 3) := by decide +kernel
theorem dX4_init_45 : decode cX4_init 45 = .ok (.aload_n 0, 1) := by decide +kernel
theorem dX4_init_46 : decode cX4_init 46 = .ok (.iconst 0, 1) := by decide +kernel
theorem dX4_init_47 : decode cX4_init 47 = .ok (.putfield 35, 3) := by decide +kernel
theorem dX4_init_50 : decode cX4_init 50 = .ok (.aload_n 0, 1) := by decide +kernel
theorem dX4_init_51 : decode cX4_init 51 = .ok (.iconst 0, 1) := by decide +kernel
theorem dX4_init_52 : decode cX4_init 52 = .ok (.putfield 38, 3) := by decide +kernel
theorem dX4_init_55 : decode cX4_init 55 = .ok (.return_, 1) := by decide +kernel
theorem dX4_addNumber_0 : decode cX4_addNumber 0 = .ok (.bipush 24, 2) := by decide +kernel
theorem dX4_addNumber_2 : decode cX4_addNumber 2 = .ok (.istore_n 2, 1) := by decide +kernel
theorem dX4_addNumber_3 : decode cX4_addNumber 3 = .ok (.iload_n 2, 1) := by decide +kernel
theorem dX4_addNumber_4 : decode cX4_addNumber 4 = .ok (.ifCond .lt 41, 3) := by decide +kernel
theorem dX4_addNumber_7 : decode cX4_addNumber 7 = .ok (.aload_n 0, 1) := by decide +kernel
theorem dX4_addNumber_8 : decode cX4_addNumber 8 = .ok (.getfield 19, 3) := by decide +kernel
theorem dX4_addNumber_11 : decode cX4_addNumber 11 = .ok (.bipush 96, 2) := by decide +kernel
theorem dX4_addNumber_13 : decode cX4_addNumber 13 = .ok (.if_icmp .ge 26, 3) := by decide +kernel
theorem dX4_addNumber_16 : decode cX4_addNumber 16 = .ok (.aload_n 0, 1) := by decide +kernel
theorem dX4_addNumber_17 : decode cX4_addNumber 17 = .ok (.getfield 9, 3) := by decide +kernel
theorem dX4_addNumber_20 : decode cX4_addNumber 20 = .ok (.aload_n 0, 1) := by decide +kernel
theorem dX4_addNumber_21 : decode cX4_addNumber 21 = .ok (.getfield 19, 3) := by decide +kernel
theorem dX4_addNumber_24 : decode cX4_addNumber 24 = .ok (.iload_n 1, 1) := by decide +kernel
theorem dX4_addNumber_25 : decode cX4_addNumber 25 = .ok (.iload_n 2, 1) := by decide +kernel
theorem dX4_addNumber_26 : decode cX4_addNumber 26 = .ok (.ishr, 1) := by decide +kernel
theorem dX4_addNumber_27 : decode cX4_addNumber 27 = .ok (.i2b, 1) := by decide +kernel
theorem dX4_addNumber_28 : decode cX4_addNumber 28 = .ok (.bastore, 1) := by decide +kernel
theorem dX4_addNumber_29 : decode cX4_addNumber 29 = .ok (.aload_n 0, 1) := by decide +kernel
theorem dX4_addNumber_30 : decode cX4_addNumber 30 = .ok (.dup, 1) := by decide +kernel
theorem dX4_addNumber_31 : decode cX4_addNumber 31 = .ok (.getfield 19, 3) := by decide +kernel
theorem dX4_addNumber_34 : decode cX4_addNumber 34 = .ok (.iconst 1, 1) := by decide +kernel
theorem dX4_addNumber_35 : decode cX4_addNumber 35 = .ok (.iadd, 1) := by decide +kernel
theorem dX4_addNumber_36 : decode cX4_addNumber 36 = .ok (.putfield 19, 3) := by decide +kernel
theorem dX4_addNumber_39 : decode cX4_addNumber 39 = .ok (.iinc 2 (-8), 3) := by decide +kernel
theorem dX4_addNumber_42 : decode cX4_addNumber 42 = .ok (.goto (-39), 3) := by decide +kernel
theorem dX4_addNumber_45 : decode cX4_addNumber 45 = .ok (.return_, 1) := by decide +kernel
theorem dX4_readText_0 : decode cX4_readText 0 = .ok (.aload_n 0, 1) := by decide +kernel
theorem dX4_readText_1 : decode cX4_readText 1 = .ok (.iconst 0, 1) := by decide +kernel
theorem dX4_readText_2 : decode cX4_readText 2 = .ok (.putfield 29, 3) := by decide +kernel
theorem dX4_readText_5 : decode cX4_readText 5 = .ok (.aload_n 0, 1) := by decide +kernel
theorem dX4_readText_6 : decode cX4_readText 6 = .ok (.iconst (-1), 1) := by decide +kernel
theorem dX4_readText_7 : decode cX4_readText 7 = .ok (.putfield 23, 3) := by decide +kernel
theorem dX4_readText_10 : decode cX4_readText 10 = .ok (.aload_n 0, 1) := by decide +kernel
theorem dX4_readText_11 : decode cX4_readText 11 = .ok (.iconst 0, 1) := by decide +kernel
theorem dX4_readText_12 : decode cX4_readText 12 = .ok (.putfield 35, 3) := by decide +kernel
theorem dX4_readText_15 : decode cX4_readText 15 = .ok (.aload_n 0, 1) := by decide +kernel
theorem dX4_readText_16 : decode cX4_readText 16 = .ok (.iconst 0, 1) := by decide +kernel
theorem dX4_readText_17 : decode cX4_readText 17 = .ok (.putfield 38, 3) := by decide +kernel
theorem dX4_readText_20 : decode cX4_readText 20 = .ok (.aload_n 0, 1) := by decide +kernel
theorem dX4_readText_21 : decode cX4_readText 21 = .ok (.invokevirtual 41, 3) := by decide +kernel
theorem dX4_readText_24 : decode cX4_readText 24 = .ok (.aload_n 0, 1) := by decide +kernel
theorem dX4_readText_25 : decode cX4_readText 25 = .ok (.invokevirtual 44, 3) := by decide +kernel
theorem dX4_readText_28 : decode cX4_readText 28 = .ok (.ifCond .ne 5, 3) := by decide +kernel
theorem dX4_readText_31 : decode cX4_readText 31 = .ok (.iconst 0, 1) := by decide +kernel
theorem dX4_readText_32 : decode cX4_readText 32 = .ok (.ireturn, 1) := by decide +kernel
theorem dX4_readText_33 : decode cX4_readText 33 = .ok (.aload_n 0, 1) := by decide +kernel
theorem dX4_readText_34 : decode cX4_readText 34 = .ok (.invokevirtual 41, 3) := by decide +kernel
theorem dX4_readText_37 : decode cX4_readText 37 = .ok (.aload_n 0, 1) := by decide +kernel
theorem dX4_readText_38 : decode cX4_readText 38 = .ok (.iconst 0, 1) := by decide +kernel
theorem dX4_readText_39 : decode cX4_readText 39 = .ok (.iconst 0, 1) := by decide +kernel
theorem dX4_readText_40 : decode cX4_readText 40 = .ok (.invokevirtual 48, 3) := by decide +kernel
theorem dX4_readText_43 : decode cX4_readText 43 = .ok (.ifCond .eq 15, 3) := by decide +kernel
theorem dX4_readText_46 : decode cX4_readText 46 = .ok (.aload_n 0, 1) := by decide +kernel
theorem dX4_readText_47 : decode cX4_readText 47 = .ok (.getfield 23, 3) := by decide +kernel
theorem dX4_readText_50 : decode cX4_readText 50 = .ok (.iconst (-1), 1) := by decide +kernel
theorem dX4_readText_51 : decode cX4_readText 51 = .ok (.if_icmp .ne 7, 3) := by decide +kernel
theorem dX4_readText_54 : decode cX4_readText 54 = .ok (.iconst 1, 1) := by decide +kernel
theorem dX4_readText_55 : decode cX4_readText 55 = .ok (.goto 4, 3) := by decide +kernel
theorem dX4_readText_58 : decode cX4_readText 58 = .ok (.iconst 0, 1) := by decide +kernel
theorem dX4_readText_59 : decode cX4_readText 59 = .ok (.ireturn, 1) := by decide +kernel
theorem dX4_next_0 : decode cX4_next 0 = .ok (.aload_n 0, 1) := by decide +kernel
theorem dX4_next_1 : decode cX4_next 1 = .ok (.getfield 23, 3) := by decide +kernel
theorem dX4_next_4 : decode cX4_next 4 = .ok (.bipush (-2), 2) := by decide +kernel
theorem dX4_next_6 : decode cX4_next 6 = .ok (.if_icmp .eq 12, 3) := by decide +kernel
theorem dX4_next_9 : decode cX4_next 9 = .ok (.aload_n 0, 1) := by decide +kernel
theorem dX4_next_10 : decode cX4_next 10 = .ok (.getfield 23, 3) := by decide +kernel
theorem dX4_next_13 : decode cX4_next 13 = .ok (.bipush (-3), 2) := by decide +kernel
theorem dX4_next_15 : decode cX4_next 15 = .ok (.if_icmp .ne 7, 3) := by decide +kernel
theorem dX4_next_18 : decode cX4_next 18 = .ok (.iconst 1, 1) := by decide +kernel
theorem dX4_next_19 : decode cX4_next 19 = .ok (.goto 4, 3) := by decide +kernel
theorem dX4_next_22 : decode cX4_next 22 = .ok (.iconst 0, 1) := by decide +kernel
theorem dX4_next_23 : decode cX4_next 23 = .ok (.istore_n 1, 1) := by decide +kernel
theorem dX4_next_24 : decode cX4_next 24 = .ok (.aload_n 0, 1) := by decide +kernel
theorem dX4_next_25 : decode cX4_next 25 = .ok (.aload_n 0, 1) := by decide +kernel
theorem dX4_next_26 : decode cX4_next 26 = .ok (.getfield 29, 3) := by decide +kernel
theorem dX4_next_29 : decode cX4_next 29 = .ok (.putfield 26, 3) := by decide +kernel
theorem dX4_next_32 : decode cX4_next 32 = .ok (.aload_n 0, 1) := by decide +kernel
theorem dX4_next_33 : decode cX4_next 33 = .ok (.getfield 26, 3) := by decide +kernel
theorem dX4_next_36 : decode cX4_next 36 = .ok (.aload_n 0, 1) := by decide +kernel
theorem dX4_next_37 : decode cX4_next 37 = .ok (.getfield 19, 3) := by decide +kernel
theorem dX4_next_40 : decode cX4_next 40 = .ok (.if_icmp .ge 30, 3) := by decide +kernel
theorem dX4_next_43 : decode cX4_next 43 = .ok (.aload_n 0, 1) := by decide +kernel
theorem dX4_next_44 : decode cX4_next 44 = .ok (.getfield 9, 3) := by decide +kernel
theorem dX4_next_47 : decode cX4_next 47 = .ok (.aload_n 0, 1) := by decide +kernel
theorem dX4_next_48 : decode cX4_next 48 = .ok (.getfield 26, 3) := by decide +kernel
theorem dX4_next_51 : decode cX4_next 51 = .ok (.baload, 1) := by decide +kernel
theorem dX4_next_52 : decode cX4_next 52 = .ok (.bipush 32, 2) := by decide +kernel
theorem dX4_next_54 : decode cX4_next 54 = .ok (.if_icmp .ne 16, 3) := by decide +kernel
theorem dX4_next_57 : decode cX4_next 57 = .ok (.aload_n 0, 1) := by decide +kernel
theorem dX4_next_58 : decode cX4_next 58 = .ok (.dup, 1) := by decide +kernel
theorem dX4_next_59 : decode cX4_next 59 = .ok (.getfield 26, 3) := by decide +kernel
theorem dX4_next_62 : decode cX4_next 62 = .ok (.iconst 1, 1) := by decide +kernel
theorem dX4_next_63 : decode cX4_next 63 = .ok (.iadd, 1) := by decide +kernel
theorem dX4_next_64 : decode cX4_next 64 = .ok (.putfield 26, 3) := by decide +kernel
theorem dX4_next_67 : decode cX4_next 67 = .ok (.goto (-35), 3) := by decide +kernel
theorem dX4_next_70 : decode cX4_next 70 = .ok (.iload_n 1, 1) := by decide +kernel
theorem dX4_next_71 : decode cX4_next 71 = .ok (.ifCond .eq 18, 3) := by decide +kernel
theorem dX4_next_74 : decode cX4_next 74 = .ok (.aload_n 0, 1) := by decide +kernel
theorem dX4_next_75 : decode cX4_next 75 = .ok (.getfield 26, 3) := by decide +kernel
theorem dX4_next_78 : decode cX4_next 78 = .ok (.aload_n 0, 1) := by decide +kernel
theorem dX4_next_79 : decode cX4_next 79 = .ok (.getfield 29, 3) := by decide +kernel
theorem dX4_next_82 : decode cX4_next 82 = .ok (.if_icmp .ne 7, 3) := by decide +kernel
theorem dX4_next_85 : decode cX4_next 85 = .ok (.iconst 1, 1) := by decide +kernel
theorem dX4_next_86 : decode cX4_next 86 = .ok (.goto 4, 3) := by decide +kernel
theorem dX4_next_89 : decode cX4_next 89 = .ok (.iconst 0, 1) := by decide +kernel
theorem dX4_next_90 : decode cX4_next 90 = .ok (.istore_n 2, 1) := by decide +kernel
theorem dX4_next_91 : decode cX4_next 91 = .ok (.aload_n 0, 1) := by decide +kernel
theorem dX4_next_92 : decode cX4_next 92 = .ok (.aload_n 0, 1) := by decide +kernel
theorem dX4_next_93 : decode cX4_next 93 = .ok (.getfield 26, 3) := by decide +kernel
theorem dX4_next_96 : decode cX4_next 96 = .ok (.putfield 29, 3) := by decide +kernel
theorem dX4_next_99 : decode cX4_next 99 = .ok (.aload_n 0, 1) := by decide +kernel
theorem dX4_next_100 : decode cX4_next 100 = .ok (.getfield 26, 3) := by decide +kernel
theorem dX4_next_103 : decode cX4_next 103 = .ok (.aload_n 0, 1) := by decide +kernel
theorem dX4_next_104 : decode cX4_next 104 = .ok (.getfield 19, 3) := by decide +kernel
theorem dX4_next_107 : decode cX4_next 107 = .ok (.if_icmp .lt 11, 3) := by decide +kernel
theorem dX4_next_110 : decode cX4_next 110 = .ok (.aload_n 0, 1) := by decide +kernel
theorem dX4_next_111 : decode cX4_next 111 = .ok (.iconst (-1), 1) := by decide +kernel
theorem dX4_next_112 : decode cX4_next 112 = .ok (.putfield 23, 3) := by decide +kernel
theorem dX4_next_115 : decode cX4_next 115 = .ok (.goto 171, 3) := by decide +kernel
theorem dX4_next_118 : decode cX4_next 118 = .ok (.aload_n 0, 1) := by decide +kernel
theorem dX4_next_119 : decode cX4_next 119 = .ok (.aload_n 0, 1) := by decide +kernel
theorem dX4_next_120 : decode cX4_next 120 = .ok (.getfield 26, 3) := by decide +kernel
theorem dX4_next_123 : decode cX4_next 123 = .ok (.invokevirtual 52, 3) := by decide +kernel
theorem dX4_next_126 : decode cX4_next 126 = .ok (.ifCond .eq 56, 3) := by decide +kernel
theorem dX4_next_129 : decode cX4_next 129 = .ok (.aload_n 0, 1) := by decide +kernel
theorem dX4_next_130 : decode cX4_next 130 = .ok (.getfield 29, 3) := by decide +kernel
theorem dX4_next_133 : decode cX4_next 133 = .ok (.aload_n 0, 1) := by decide +kernel
theorem dX4_next_134 : decode cX4_next 134 = .ok (.getfield 19, 3) := by decide +kernel
theorem dX4_next_137 : decode cX4_next 137 = .ok (.if_icmp .ge 27, 3) := by decide +kernel
theorem dX4_next_140 : decode cX4_next 140 = .ok (.aload_n 0, 1) := by decide +kernel
theorem dX4_next_141 : decode cX4_next 141 = .ok (.aload_n 0, 1) := by decide +kernel
theorem dX4_next_142 : decode cX4_next 142 = .ok (.getfield 29, 3) := by decide +kernel
theorem dX4_next_145 : decode cX4_next 145 = .ok (.invokevirtual 52, 3) := by decide +kernel
theorem dX4_next_148 : decode cX4_next 148 = .ok (.ifCond .eq 16, 3) := by decide +kernel
theorem dX4_next_151 : decode cX4_next 151 = .ok (.aload_n 0, 1) := by decide +kernel
theorem dX4_next_152 : decode cX4_next 152 = .ok (.dup, 1) := by decide +kernel
theorem dX4_next_153 : decode cX4_next 153 = .ok (.getfield 29, 3) := by decide +kernel
theorem dX4_next_156 : decode cX4_next 156 = .ok (.iconst 1, 1) := by decide +kernel
theorem dX4_next_157 : decode cX4_next 157 = .ok (.iadd, 1) := by decide +kernel
theorem dX4_next_158 : decode cX4_next 158 = .ok (.putfield 29, 3) := by decide +kernel
theorem dX4_next_161 : decode cX4_next 161 = .ok (.goto (-32), 3) := by decide +kernel
theorem dX4_next_164 : decode cX4_next 164 = .ok (.aload_n 0, 1) := by decide +kernel
theorem dX4_next_165 : decode cX4_next 165 = .ok (.iload_n 2, 1) := by decide +kernel
theorem dX4_next_166 : decode cX4_next 166 = .ok (.ifCond .eq 8, 3) := by decide +kernel
theorem dX4_next_169 : decode cX4_next 169 = .ok (.bipush (-4), 2) := by decide +kernel
theorem dX4_next_171 : decode cX4_next 171 = .ok (.goto 5, 3) := by decide +kernel
theorem dX4_next_174 : decode cX4_next 174 = .ok (.bipush (-2), 2) := by decide +kernel
theorem dX4_next_176 : decode cX4_next 176 = .ok (.putfield 23, 3) := by decide +kernel
theorem dX4_next_179 : decode cX4_next 179 = .ok (.goto 107, 3) := by decide +kernel
theorem dX4_next_182 : decode cX4_next 182 = .ok (.aload_n 0, 1) := by decide +kernel
theorem dX4_next_183 : decode cX4_next 183 = .ok (.aload_n 0, 1) := by decide +kernel
theorem dX4_next_184 : decode cX4_next 184 = .ok (.getfield 26, 3) := by decide +kernel
theorem dX4_next_187 : decode cX4_next 187 = .ok (.invokevirtual 56, 3) := by decide +kernel
theorem dX4_next_190 : decode cX4_next 190 = .ok (.ifCond .eq 69, 3) := by decide +kernel
theorem dX4_next_193 : decode cX4_next 193 = .ok (.aload_n 0, 1) := by decide +kernel
theorem dX4_next_194 : decode cX4_next 194 = .ok (.getfield 29, 3) := by decide +kernel
theorem dX4_next_197 : decode cX4_next 197 = .ok (.aload_n 0, 1) := by decide +kernel
theorem dX4_next_198 : decode cX4_next 198 = .ok (.getfield 19, 3) := by decide +kernel
theorem dX4_next_201 : decode cX4_next 201 = .ok (.if_icmp .ge 27, 3) := by decide +kernel
theorem dX4_next_204 : decode cX4_next 204 = .ok (.aload_n 0, 1) := by decide +kernel
theorem dX4_next_205 : decode cX4_next 205 = .ok (.aload_n 0, 1) := by decide +kernel
theorem dX4_next_206 : decode cX4_next 206 = .ok (.getfield 29, 3) := by decide +kernel
theorem dX4_next_209 : decode cX4_next 209 = .ok (.invokevirtual 56, 3) := by decide +kernel
theorem dX4_next_212 : decode cX4_next 212 = .ok (.ifCond .eq 16, 3) := by decide +kernel
theorem dX4_next_215 : decode cX4_next 215 = .ok (.aload_n 0, 1) := by decide +kernel
theorem dX4_next_216 : decode cX4_next 216 = .ok (.dup, 1) := by decide +kernel
theorem dX4_next_217 : decode cX4_next 217 = .ok (.getfield 29, 3) := by decide +kernel
theorem dX4_next_220 : decode cX4_next 220 = .ok (.iconst 1, 1) := by decide +kernel
theorem dX4_next_221 : decode cX4_next 221 = .ok (.iadd, 1) := by decide +kernel
theorem dX4_next_222 : decode cX4_next 222 = .ok (.putfield 29, 3) := by decide +kernel
theorem dX4_next_225 : decode cX4_next 225 = .ok (.goto (-32), 3) := by decide +kernel
theorem dX4_next_228 : decode cX4_next 228 = .ok (.aload_n 0, 1) := by decide +kernel
theorem dX4_next_229 : decode cX4_next 229 = .ok (.iload_n 2, 1) := by decide +kernel
theorem dX4_next_230 : decode cX4_next 230 = .ok (.ifCond .ne 16, 3) := by decide +kernel
theorem dX4_next_233 : decode cX4_next 233 = .ok (.aload_n 0, 1) := by decide +kernel
theorem dX4_next_234 : decode cX4_next 234 = .ok (.getfield 29, 3) := by decide +kernel
theorem dX4_next_237 : decode cX4_next 237 = .ok (.aload_n 0, 1) := by decide +kernel
theorem dX4_next_238 : decode cX4_next 238 = .ok (.getfield 26, 3) := by decide +kernel
theorem dX4_next_241 : decode cX4_next 241 = .ok (.isub, 1) := by decide +kernel
theorem dX4_next_242 : decode cX4_next 242 = .ok (.iconst 4, 1) := by decide +kernel
theorem dX4_next_243 : decode cX4_next 243 = .ok (.if_icmp .le 8, 3) := by decide +kernel
theorem dX4_next_246 : decode cX4_next 246 = .ok (.bipush (-4), 2) := by decide +kernel
theorem dX4_next_248 : decode cX4_next 248 = .ok (.goto 5, 3) := by decide +kernel
theorem dX4_next_251 : decode cX4_next 251 = .ok (.bipush (-3), 2) := by decide +kernel
theorem dX4_next_253 : decode cX4_next 253 = .ok (.putfield 23, 3) := by decide +kernel
theorem dX4_next_256 : decode cX4_next 256 = .ok (.goto 30, 3) := by decide +kernel
theorem dX4_next_259 : decode cX4_next 259 = .ok (.aload_n 0, 1) := by decide +kernel
theorem dX4_next_260 : decode cX4_next 260 = .ok (.aload_n 0, 1) := by decide +kernel
theorem dX4_next_261 : decode cX4_next 261 = .ok (.getfield 9, 3) := by decide +kernel
theorem dX4_next_264 : decode cX4_next 264 = .ok (.aload_n 0, 1) := by decide +kernel
theorem dX4_next_265 : decode cX4_next 265 = .ok (.getfield 26, 3) := by decide +kernel
theorem dX4_next_268 : decode cX4_next 268 = .ok (.baload, 1) := by decide +kernel
theorem dX4_next_269 : decode cX4_next 269 = .ok (.sipush 255, 3) := by decide +kernel
theorem dX4_next_272 : decode cX4_next 272 = .ok (.iand, 1) := by decide +kernel
theorem dX4_next_273 : decode cX4_next 273 = .ok (.putfield 23, 3) := by decide +kernel
theorem dX4_next_276 : decode cX4_next 276 = .ok (.aload_n 0, 1) := by decide +kernel
theorem dX4_next_277 : decode cX4_next 277 = .ok (.dup, 1) := by decide +kernel
theorem dX4_next_278 : decode cX4_next 278 = .ok (.getfield 29, 3) := by decide +kernel
theorem dX4_next_281 : decode cX4_next 281 = .ok (.iconst 1, 1) := by decide +kernel
theorem dX4_next_282 : decode cX4_next 282 = .ok (.iadd, 1) := by decide +kernel
theorem dX4_next_283 : decode cX4_next 283 = .ok (.putfield 29, 3) := by decide +kernel
theorem dX4_next_286 : decode cX4_next 286 = .ok (.return_, 1) := by decide +kernel
theorem dX4_isLetter_0 : decode cX4_isLetter 0 = .ok (.aload_n 0, 1) := by decide +kernel
theorem dX4_isLetter_1 : decode cX4_isLetter 1 = .ok (.getfield 9, 3) := by decide +kernel
theorem dX4_isLetter_4 : decode cX4_isLetter 4 = .ok (.iload_n 1, 1) := by decide +kernel
theorem dX4_isLetter_5 : decode cX4_isLetter 5 = .ok (.baload, 1) := by decide +kernel
theorem dX4_isLetter_6 : decode cX4_isLetter 6 = .ok (.bipush 97, 2) := by decide +kernel
theorem dX4_isLetter_8 : decode cX4_isLetter 8 = .ok (.if_icmp .lt 18, 3) := by decide +kernel
theorem dX4_isLetter_11 : decode cX4_isLetter 11 = .ok (.aload_n 0, 1) := by decide +kernel
theorem dX4_isLetter_12 : decode cX4_isLetter 12 = .ok (.getfield 9, 3) := by decide +kernel
theorem dX4_isLetter_15 : decode cX4_isLetter 15 = .ok (.iload_n 1, 1) := by decide +kernel
theorem dX4_isLetter_16 : decode cX4_isLetter 16 = .ok (.baload, 1) := by decide +kernel
theorem dX4_isLetter_17 : decode cX4_isLetter 17 = .ok (.bipush 122, 2) := by decide +kernel
theorem dX4_isLetter_19 : decode cX4_isLetter 19 = .ok (.if_icmp .gt 7, 3) := by decide +kernel
theorem dX4_isLetter_22 : decode cX4_isLetter 22 = .ok (.iconst 1, 1) := by decide +kernel
theorem dX4_isLetter_23 : decode cX4_isLetter 23 = .ok (.goto 4, 3) := by decide +kernel
theorem dX4_isLetter_26 : decode cX4_isLetter 26 = .ok (.iconst 0, 1) := by decide +kernel
theorem dX4_isLetter_27 : decode cX4_isLetter 27 = .ok (.ireturn, 1) := by decide +kernel
theorem dX4_isDigit_0 : decode cX4_isDigit 0 = .ok (.aload_n 0, 1) := by decide +kernel
theorem dX4_isDigit_1 : decode cX4_isDigit 1 = .ok (.getfield 9, 3) := by decide +kernel
theorem dX4_isDigit_4 : decode cX4_isDigit 4 = .ok (.iload_n 1, 1) := by decide +kernel
theorem dX4_isDigit_5 : decode cX4_isDigit 5 = .ok (.baload, 1) := by decide +kernel
theorem dX4_isDigit_6 : decode cX4_isDigit 6 = .ok (.bipush 48, 2) := by decide +kernel
theorem dX4_isDigit_8 : decode cX4_isDigit 8 = .ok (.if_icmp .lt 18, 3) := by decide +kernel
theorem dX4_isDigit_11 : decode cX4_isDigit 11 = .ok (.aload_n 0, 1) := by decide +kernel
theorem dX4_isDigit_12 : decode cX4_isDigit 12 = .ok (.getfield 9, 3) := by decide +kernel
theorem dX4_isDigit_15 : decode cX4_isDigit 15 = .ok (.iload_n 1, 1) := by decide +kernel
theorem dX4_isDigit_16 : decode cX4_isDigit 16 = .ok (.baload, 1) := by decide +kernel
theorem dX4_isDigit_17 : decode cX4_isDigit 17 = .ok (.bipush 57, 2) := by decide +kernel
theorem dX4_isDigit_19 : decode cX4_isDigit 19 = .ok (.if_icmp .gt 7, 3) := by decide +kernel
theorem dX4_isDigit_22 : decode cX4_isDigit 22 = .ok (.iconst 1, 1) := by decide +kernel
theorem dX4_isDigit_23 : decode cX4_isDigit 23 = .ok (.goto 4, 3) := by decide +kernel
theorem dX4_isDigit_26 : decode cX4_isDigit 26 = .ok (.iconst 0, 1) := by decide +kernel
theorem dX4_isDigit_27 : decode cX4_isDigit 27 = .ok (.ireturn, 1) := by decide +kernel
theorem dX4_readKey_0 : decode cX4_readKey 0 = .ok (.iconst 0, 1) := by decide +kernel
theorem dX4_readKey_1 : decode cX4_readKey 1 = .ok (.istore_n 1, 1) := by decide +kernel
theorem dX4_readKey_2 : decode cX4_readKey 2 = .ok (.iload_n 1, 1) := by decide +kernel
theorem dX4_readKey_3 : decode cX4_readKey 3 = .ok (.iconst 3, 1) := by decide +kernel
theorem dX4_readKey_4 : decode cX4_readKey 4 = .ok (.if_icmp .ge 36, 3) := by decide +kernel
theorem dX4_readKey_7 : decode cX4_readKey 7 = .ok (.aload_n 0, 1) := by decide +kernel
theorem dX4_readKey_8 : decode cX4_readKey 8 = .ok (.getfield 23, 3) := by decide +kernel
theorem dX4_readKey_11 : decode cX4_readKey 11 = .ok (.bipush (-2), 2) := by decide +kernel
theorem dX4_readKey_13 : decode cX4_readKey 13 = .ok (.if_icmp .ne 21, 3) := by decide +kernel
theorem dX4_readKey_16 : decode cX4_readKey 16 = .ok (.aload_n 0, 1) := by decide +kernel
theorem dX4_readKey_17 : decode cX4_readKey 17 = .ok (.iload_n 1, 1) := by decide +kernel
theorem dX4_readKey_18 : decode cX4_readKey 18 = .ok (.invokestatic 59, 3) := by decide +kernel
theorem dX4_readKey_21 : decode cX4_readKey 21 = .ok (.invokevirtual 63, 3) := by decide +kernel
theorem dX4_readKey_24 : decode cX4_readKey 24 = .ok (.ifCond .eq 10, 3) := by decide +kernel
theorem dX4_readKey_27 : decode cX4_readKey 27 = .ok (.aload_n 0, 1) := by decide +kernel
theorem dX4_readKey_28 : decode cX4_readKey 28 = .ok (.iload_n 1, 1) := by decide +kernel
theorem dX4_readKey_29 : decode cX4_readKey 29 = .ok (.putfield 32, 3) := by decide +kernel
theorem dX4_readKey_32 : decode cX4_readKey 32 = .ok (.iconst 1, 1) := by decide +kernel
theorem dX4_readKey_33 : decode cX4_readKey 33 = .ok (.ireturn, 1) := by decide +kernel
theorem dX4_readKey_34 : decode cX4_readKey 34 = .ok (.iinc 1 1, 3) := by decide +kernel
theorem dX4_readKey_37 : decode cX4_readKey 37 = .ok (.goto (-35), 3) := by decide +kernel
theorem dX4_readKey_40 : decode cX4_readKey 40 = .ok (.iconst 0, 1) := by decide +kernel
theorem dX4_readKey_41 : decode cX4_readKey 41 = .ok (.ireturn, 1) := by decide +kernel
theorem dX4_keyWord_0 : decode cX4_keyWord 0 = .ok (.iload_n 0, 1) := by decide +kernel
theorem dX4_keyWord_1 : decode cX4_keyWord 1 = .ok (.ifCond .ne 8, 3) := by decide +kernel
theorem dX4_keyWord_4 : decode cX4_keyWord 4 = .ok (.ldc 67, 2) := by decide +kernel
theorem dX4_keyWord_6 : decode cX4_keyWord 6 = .ok (.goto 15, 3) := by decide +kernel
theorem dX4_keyWord_9 : decode cX4_keyWord 9 = .ok (.iload_n 0, 1) := by decide +kernel
theorem dX4_keyWord_10 : decode cX4_keyWord 10 = .ok (.iconst 1, 1) := by decide +kernel
theorem dX4_keyWord_11 : decode cX4_keyWord 11 = .ok (.if_icmp .ne 8, 3) := by decide +kernel
theorem dX4_keyWord_14 : decode cX4_keyWord 14 = .ok (.ldc 69, 2) := by decide +kernel
theorem dX4_keyWord_16 : decode cX4_keyWord 16 = .ok (.goto 5, 3) := by decide +kernel
theorem dX4_keyWord_19 : decode cX4_keyWord 19 = .ok (.ldc 71, 2) := by decide +kernel
theorem dX4_keyWord_21 : decode cX4_keyWord 21 = .ok (.areturn, 1) := by decide +kernel
theorem dX4_namesOf_0 : decode cX4_namesOf 0 = .ok (.iload_n 0, 1) := by decide +kernel
theorem dX4_namesOf_1 : decode cX4_namesOf 1 = .ok (.ifCond .ne 8, 3) := by decide +kernel
theorem dX4_namesOf_4 : decode cX4_namesOf 4 = .ok (.ldc 73, 2) := by decide +kernel
theorem dX4_namesOf_6 : decode cX4_namesOf 6 = .ok (.goto 15, 3) := by decide +kernel
theorem dX4_namesOf_9 : decode cX4_namesOf 9 = .ok (.iload_n 0, 1) := by decide +kernel
theorem dX4_namesOf_10 : decode cX4_namesOf 10 = .ok (.iconst 1, 1) := by decide +kernel
theorem dX4_namesOf_11 : decode cX4_namesOf 11 = .ok (.if_icmp .ne 8, 3) := by decide +kernel
theorem dX4_namesOf_14 : decode cX4_namesOf 14 = .ok (.ldc 75, 2) := by decide +kernel
theorem dX4_namesOf_16 : decode cX4_namesOf 16 = .ok (.goto 5, 3) := by decide +kernel
theorem dX4_namesOf_19 : decode cX4_namesOf 19 = .ok (.ldc 77, 2) := by decide +kernel
theorem dX4_namesOf_21 : decode cX4_namesOf 21 = .ok (.areturn, 1) := by decide +kernel
theorem dX4_isWord_0 : decode cX4_isWord 0 = .ok (.aload_n 0, 1) := by decide +kernel
theorem dX4_isWord_1 : decode cX4_isWord 1 = .ok (.getfield 29, 3) := by decide +kernel
theorem dX4_isWord_4 : decode cX4_isWord 4 = .ok (.aload_n 0, 1) := by decide +kernel
theorem dX4_isWord_5 : decode cX4_isWord 5 = .ok (.getfield 26, 3) := by decide +kernel
theorem dX4_isWord_8 : decode cX4_isWord 8 = .ok (.isub, 1) := by decide +kernel
theorem dX4_isWord_9 : decode cX4_isWord 9 = .ok (.aload_n 1, 1) := by decide +kernel
theorem dX4_isWord_10 : decode cX4_isWord 10 = .ok (.invokevirtual 79, 3) := by decide +kernel
theorem dX4_isWord_13 : decode cX4_isWord 13 = .ok (.if_icmp .eq 5, 3) := by decide +kernel
theorem dX4_isWord_16 : decode cX4_isWord 16 = .ok (.iconst 0, 1) := by decide +kernel
theorem dX4_isWord_17 : decode cX4_isWord 17 = .ok (.ireturn, 1) := by decide +kernel
theorem dX4_isWord_18 : decode cX4_isWord 18 = .ok (.iconst 0, 1) := by decide +kernel
theorem dX4_isWord_19 : decode cX4_isWord 19 = .ok (.istore_n 2, 1) := by decide +kernel
theorem dX4_isWord_20 : decode cX4_isWord 20 = .ok (.iload_n 2, 1) := by decide +kernel
theorem dX4_isWord_21 : decode cX4_isWord 21 = .ok (.aload_n 1, 1) := by decide +kernel
theorem dX4_isWord_22 : decode cX4_isWord 22 = .ok (.invokevirtual 79, 3) := by decide +kernel
theorem dX4_isWord_25 : decode cX4_isWord 25 = .ok (.if_icmp .ge 30, 3) := by decide +kernel
theorem dX4_isWord_28 : decode cX4_isWord 28 = .ok (.aload_n 0, 1) := by decide +kernel
theorem dX4_isWord_29 : decode cX4_isWord 29 = .ok (.getfield 9, 3) := by decide +kernel
theorem dX4_isWord_32 : decode cX4_isWord 32 = .ok (.aload_n 0, 1) := by decide +kernel
theorem dX4_isWord_33 : decode cX4_isWord 33 = .ok (.getfield 26, 3) := by decide +kernel
theorem dX4_isWord_36 : decode cX4_isWord 36 = .ok (.iload_n 2, 1) := by decide +kernel
theorem dX4_isWord_37 : decode cX4_isWord 37 = .ok (.iadd, 1) := by decide +kernel
theorem dX4_isWord_38 : decode cX4_isWord 38 = .ok (.baload, 1) := by decide +kernel
theorem dX4_isWord_39 : decode cX4_isWord 39 = .ok (.aload_n 1, 1) := by decide +kernel
theorem dX4_isWord_40 : decode cX4_isWord 40 = .ok (.iload_n 2, 1) := by decide +kernel
theorem dX4_isWord_41 : decode cX4_isWord 41 = .ok (.invokevirtual 84, 3) := by decide +kernel
theorem dX4_isWord_44 : decode cX4_isWord 44 = .ok (.if_icmp .eq 5, 3) := by decide +kernel
theorem dX4_isWord_47 : decode cX4_isWord 47 = .ok (.iconst 0, 1) := by decide +kernel
theorem dX4_isWord_48 : decode cX4_isWord 48 = .ok (.ireturn, 1) := by decide +kernel
theorem dX4_isWord_49 : decode cX4_isWord 49 = .ok (.iinc 2 1, 3) := by decide +kernel
theorem dX4_isWord_52 : decode cX4_isWord 52 = .ok (.goto (-32), 3) := by decide +kernel
theorem dX4_isWord_55 : decode cX4_isWord 55 = .ok (.iconst 1, 1) := by decide +kernel
theorem dX4_isWord_56 : decode cX4_isWord 56 = .ok (.ireturn, 1) := by decide +kernel
theorem dX4_readOr_0 : decode cX4_readOr 0 = .ok (.aload_n 0, 1) := by decide +kernel
theorem dX4_readOr_1 : decode cX4_readOr 1 = .ok (.iload_n 1, 1) := by decide +kernel
theorem dX4_readOr_2 : decode cX4_readOr 2 = .ok (.iload_n 2, 1) := by decide +kernel
theorem dX4_readOr_3 : decode cX4_readOr 3 = .ok (.invokevirtual 88, 3) := by decide +kernel
theorem dX4_readOr_6 : decode cX4_readOr 6 = .ok (.istore_n 3, 1) := by decide +kernel
theorem dX4_readOr_7 : decode cX4_readOr 7 = .ok (.iconst 0, 1) := by decide +kernel
theorem dX4_readOr_8 : decode cX4_readOr 8 = .ok (.istore 4, 2) := by decide +kernel
theorem dX4_readOr_10 : decode cX4_readOr 10 = .ok (.iload 4, 2) := by decide +kernel
theorem dX4_readOr_12 : decode cX4_readOr 12 = .ok (.bipush 96, 2) := by decide +kernel
theorem dX4_readOr_14 : decode cX4_readOr 14 = .ok (.if_icmp .ge 39, 3) := by decide +kernel
theorem dX4_readOr_17 : decode cX4_readOr 17 = .ok (.iload_n 3, 1) := by decide +kernel
theorem dX4_readOr_18 : decode cX4_readOr 18 = .ok (.ifCond .eq 35, 3) := by decide +kernel
theorem dX4_readOr_21 : decode cX4_readOr 21 = .ok (.aload_n 0, 1) := by decide +kernel
theorem dX4_readOr_22 : decode cX4_readOr 22 = .ok (.getfield 23, 3) := by decide +kernel
theorem dX4_readOr_25 : decode cX4_readOr 25 = .ok (.bipush 124, 2) := by decide +kernel
theorem dX4_readOr_27 : decode cX4_readOr 27 = .ok (.if_icmp .ne 26, 3) := by decide +kernel
theorem dX4_readOr_30 : decode cX4_readOr 30 = .ok (.aload_n 0, 1) := by decide +kernel
theorem dX4_readOr_31 : decode cX4_readOr 31 = .ok (.invokevirtual 41, 3) := by decide +kernel
theorem dX4_readOr_34 : decode cX4_readOr 34 = .ok (.aload_n 0, 1) := by decide +kernel
theorem dX4_readOr_35 : decode cX4_readOr 35 = .ok (.iload_n 1, 1) := by decide +kernel
theorem dX4_readOr_36 : decode cX4_readOr 36 = .ok (.iload_n 2, 1) := by decide +kernel
theorem dX4_readOr_37 : decode cX4_readOr 37 = .ok (.invokevirtual 88, 3) := by decide +kernel
theorem dX4_readOr_40 : decode cX4_readOr 40 = .ok (.istore_n 3, 1) := by decide +kernel
theorem dX4_readOr_41 : decode cX4_readOr 41 = .ok (.aload_n 0, 1) := by decide +kernel
theorem dX4_readOr_42 : decode cX4_readOr 42 = .ok (.bipush (-124), 2) := by decide +kernel
theorem dX4_readOr_44 : decode cX4_readOr 44 = .ok (.invokevirtual 91, 3) := by decide +kernel
theorem dX4_readOr_47 : decode cX4_readOr 47 = .ok (.iinc 4 1, 3) := by decide +kernel
theorem dX4_readOr_50 : decode cX4_readOr 50 = .ok (.goto (-40), 3) := by decide +kernel
theorem dX4_readOr_53 : decode cX4_readOr 53 = .ok (.iload_n 3, 1) := by decide +kernel
theorem dX4_readOr_54 : decode cX4_readOr 54 = .ok (.ireturn, 1) := by decide +kernel
theorem dX4_readAnd_0 : decode cX4_readAnd 0 = .ok (.aload_n 0, 1) := by decide +kernel
theorem dX4_readAnd_1 : decode cX4_readAnd 1 = .ok (.iload_n 1, 1) := by decide +kernel
theorem dX4_readAnd_2 : decode cX4_readAnd 2 = .ok (.iload_n 2, 1) := by decide +kernel
theorem dX4_readAnd_3 : decode cX4_readAnd 3 = .ok (.invokevirtual 95, 3) := by decide +kernel
theorem dX4_readAnd_6 : decode cX4_readAnd 6 = .ok (.istore_n 3, 1) := by decide +kernel
theorem dX4_readAnd_7 : decode cX4_readAnd 7 = .ok (.iconst 0, 1) := by decide +kernel
theorem dX4_readAnd_8 : decode cX4_readAnd 8 = .ok (.istore 4, 2) := by decide +kernel
theorem dX4_readAnd_10 : decode cX4_readAnd 10 = .ok (.iload 4, 2) := by decide +kernel
theorem dX4_readAnd_12 : decode cX4_readAnd 12 = .ok (.bipush 96, 2) := by decide +kernel
theorem dX4_readAnd_14 : decode cX4_readAnd 14 = .ok (.if_icmp .ge 39, 3) := by decide +kernel
theorem dX4_readAnd_17 : decode cX4_readAnd 17 = .ok (.iload_n 3, 1) := by decide +kernel
theorem dX4_readAnd_18 : decode cX4_readAnd 18 = .ok (.ifCond .eq 35, 3) := by decide +kernel
theorem dX4_readAnd_21 : decode cX4_readAnd 21 = .ok (.aload_n 0, 1) := by decide +kernel
theorem dX4_readAnd_22 : decode cX4_readAnd 22 = .ok (.getfield 23, 3) := by decide +kernel
theorem dX4_readAnd_25 : decode cX4_readAnd 25 = .ok (.bipush 38, 2) := by decide +kernel
theorem dX4_readAnd_27 : decode cX4_readAnd 27 = .ok (.if_icmp .ne 26, 3) := by decide +kernel
theorem dX4_readAnd_30 : decode cX4_readAnd 30 = .ok (.aload_n 0, 1) := by decide +kernel
theorem dX4_readAnd_31 : decode cX4_readAnd 31 = .ok (.invokevirtual 41, 3) := by decide +kernel
theorem dX4_readAnd_34 : decode cX4_readAnd 34 = .ok (.aload_n 0, 1) := by decide +kernel
theorem dX4_readAnd_35 : decode cX4_readAnd 35 = .ok (.iload_n 1, 1) := by decide +kernel
theorem dX4_readAnd_36 : decode cX4_readAnd 36 = .ok (.iload_n 2, 1) := by decide +kernel
theorem dX4_readAnd_37 : decode cX4_readAnd 37 = .ok (.invokevirtual 95, 3) := by decide +kernel
theorem dX4_readAnd_40 : decode cX4_readAnd 40 = .ok (.istore_n 3, 1) := by decide +kernel
theorem dX4_readAnd_41 : decode cX4_readAnd 41 = .ok (.aload_n 0, 1) := by decide +kernel
theorem dX4_readAnd_42 : decode cX4_readAnd 42 = .ok (.bipush (-38), 2) := by decide +kernel
theorem dX4_readAnd_44 : decode cX4_readAnd 44 = .ok (.invokevirtual 91, 3) := by decide +kernel
theorem dX4_readAnd_47 : decode cX4_readAnd 47 = .ok (.iinc 4 1, 3) := by decide +kernel
theorem dX4_readAnd_50 : decode cX4_readAnd 50 = .ok (.goto (-40), 3) := by decide +kernel
theorem dX4_readAnd_53 : decode cX4_readAnd 53 = .ok (.iload_n 3, 1) := by decide +kernel
theorem dX4_readAnd_54 : decode cX4_readAnd 54 = .ok (.ireturn, 1) := by decide +kernel
theorem dX4_readTest_0 : decode cX4_readTest 0 = .ok (.aload_n 0, 1) := by decide +kernel
theorem dX4_readTest_1 : decode cX4_readTest 1 = .ok (.iload_n 1, 1) := by decide +kernel
theorem dX4_readTest_2 : decode cX4_readTest 2 = .ok (.iload_n 2, 1) := by decide +kernel
theorem dX4_readTest_3 : decode cX4_readTest 3 = .ok (.invokevirtual 98, 3) := by decide +kernel
theorem dX4_readTest_6 : decode cX4_readTest 6 = .ok (.ifCond .ne 5, 3) := by decide +kernel
theorem dX4_readTest_9 : decode cX4_readTest 9 = .ok (.iconst 0, 1) := by decide +kernel
theorem dX4_readTest_10 : decode cX4_readTest 10 = .ok (.ireturn, 1) := by decide +kernel
theorem dX4_readTest_11 : decode cX4_readTest 11 = .ok (.aload_n 0, 1) := by decide +kernel
theorem dX4_readTest_12 : decode cX4_readTest 12 = .ok (.getfield 23, 3) := by decide +kernel
theorem dX4_readTest_15 : decode cX4_readTest 15 = .ok (.istore_n 3, 1) := by decide +kernel
theorem dX4_readTest_16 : decode cX4_readTest 16 = .ok (.iload_n 3, 1) := by decide +kernel
theorem dX4_readTest_17 : decode cX4_readTest 17 = .ok (.bipush 60, 2) := by decide +kernel
theorem dX4_readTest_19 : decode cX4_readTest 19 = .ok (.if_icmp .eq 17, 3) := by decide +kernel
theorem dX4_readTest_22 : decode cX4_readTest 22 = .ok (.iload_n 3, 1) := by decide +kernel
theorem dX4_readTest_23 : decode cX4_readTest 23 = .ok (.bipush 61, 2) := by decide +kernel
theorem dX4_readTest_25 : decode cX4_readTest 25 = .ok (.if_icmp .eq 11, 3) := by decide +kernel
theorem dX4_readTest_28 : decode cX4_readTest 28 = .ok (.iload_n 3, 1) := by decide +kernel
theorem dX4_readTest_29 : decode cX4_readTest 29 = .ok (.bipush 62, 2) := by decide +kernel
theorem dX4_readTest_31 : decode cX4_readTest 31 = .ok (.if_icmp .eq 5, 3) := by decide +kernel
theorem dX4_readTest_34 : decode cX4_readTest 34 = .ok (.iconst 1, 1) := by decide +kernel
theorem dX4_readTest_35 : decode cX4_readTest 35 = .ok (.ireturn, 1) := by decide +kernel
theorem dX4_readTest_36 : decode cX4_readTest 36 = .ok (.aload_n 0, 1) := by decide +kernel
theorem dX4_readTest_37 : decode cX4_readTest 37 = .ok (.invokevirtual 41, 3) := by decide +kernel
theorem dX4_readTest_40 : decode cX4_readTest 40 = .ok (.aload_n 0, 1) := by decide +kernel
theorem dX4_readTest_41 : decode cX4_readTest 41 = .ok (.iload_n 1, 1) := by decide +kernel
theorem dX4_readTest_42 : decode cX4_readTest 42 = .ok (.iload_n 2, 1) := by decide +kernel
theorem dX4_readTest_43 : decode cX4_readTest 43 = .ok (.invokevirtual 98, 3) := by decide +kernel
theorem dX4_readTest_46 : decode cX4_readTest 46 = .ok (.istore 4, 2) := by decide +kernel
theorem dX4_readTest_48 : decode cX4_readTest 48 = .ok (.aload_n 0, 1) := by decide +kernel
theorem dX4_readTest_49 : decode cX4_readTest 49 = .ok (.iload_n 3, 1) := by decide +kernel
theorem dX4_readTest_50 : decode cX4_readTest 50 = .ok (.ineg, 1) := by decide +kernel
theorem dX4_readTest_51 : decode cX4_readTest 51 = .ok (.invokevirtual 91, 3) := by decide +kernel
theorem dX4_readTest_54 : decode cX4_readTest 54 = .ok (.iload 4, 2) := by decide +kernel
theorem dX4_readTest_56 : decode cX4_readTest 56 = .ok (.ireturn, 1) := by decide +kernel
theorem dX4_readSum_0 : decode cX4_readSum 0 = .ok (.aload_n 0, 1) := by decide +kernel
theorem dX4_readSum_1 : decode cX4_readSum 1 = .ok (.iload_n 1, 1) := by decide +kernel
theorem dX4_readSum_2 : decode cX4_readSum 2 = .ok (.iload_n 2, 1) := by decide +kernel
theorem dX4_readSum_3 : decode cX4_readSum 3 = .ok (.invokevirtual 101, 3) := by decide +kernel
theorem dX4_readSum_6 : decode cX4_readSum 6 = .ok (.istore_n 3, 1) := by decide +kernel
theorem dX4_readSum_7 : decode cX4_readSum 7 = .ok (.iconst 0, 1) := by decide +kernel
theorem dX4_readSum_8 : decode cX4_readSum 8 = .ok (.istore 4, 2) := by decide +kernel
theorem dX4_readSum_10 : decode cX4_readSum 10 = .ok (.iload 4, 2) := by decide +kernel
theorem dX4_readSum_12 : decode cX4_readSum 12 = .ok (.bipush 96, 2) := by decide +kernel
theorem dX4_readSum_14 : decode cX4_readSum 14 = .ok (.if_icmp .ge 55, 3) := by decide +kernel
theorem dX4_readSum_17 : decode cX4_readSum 17 = .ok (.iload_n 3, 1) := by decide +kernel
