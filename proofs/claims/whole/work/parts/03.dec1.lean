theorem dX4_readSum_18 : decode cX4_readSum 18 = .ok (.ifCond .eq 51, 3) := by decide +kernel
theorem dX4_readSum_21 : decode cX4_readSum 21 = .ok (.aload_n 0, 1) := by decide +kernel
theorem dX4_readSum_22 : decode cX4_readSum 22 = .ok (.getfield 23, 3) := by decide +kernel
theorem dX4_readSum_25 : decode cX4_readSum 25 = .ok (.bipush 43, 2) := by decide +kernel
theorem dX4_readSum_27 : decode cX4_readSum 27 = .ok (.if_icmp .eq 12, 3) := by decide +kernel
theorem dX4_readSum_30 : decode cX4_readSum 30 = .ok (.aload_n 0, 1) := by decide +kernel
theorem dX4_readSum_31 : decode cX4_readSum 31 = .ok (.getfield 23, 3) := by decide +kernel
theorem dX4_readSum_34 : decode cX4_readSum 34 = .ok (.bipush 45, 2) := by decide +kernel
theorem dX4_readSum_36 : decode cX4_readSum 36 = .ok (.if_icmp .ne 33, 3) := by decide +kernel
theorem dX4_readSum_39 : decode cX4_readSum 39 = .ok (.aload_n 0, 1) := by decide +kernel
theorem dX4_readSum_40 : decode cX4_readSum 40 = .ok (.getfield 23, 3) := by decide +kernel
theorem dX4_readSum_43 : decode cX4_readSum 43 = .ok (.istore 5, 2) := by decide +kernel
theorem dX4_readSum_45 : decode cX4_readSum 45 = .ok (.aload_n 0, 1) := by decide +kernel
theorem dX4_readSum_46 : decode cX4_readSum 46 = .ok (.invokevirtual 41, 3) := by decide +kernel
theorem dX4_readSum_49 : decode cX4_readSum 49 = .ok (.aload_n 0, 1) := by decide +kernel
theorem dX4_readSum_50 : decode cX4_readSum 50 = .ok (.iload_n 1, 1) := by decide +kernel
theorem dX4_readSum_51 : decode cX4_readSum 51 = .ok (.iload_n 2, 1) := by decide +kernel
theorem dX4_readSum_52 : decode cX4_readSum 52 = .ok (.invokevirtual 101, 3) := by decide +kernel
theorem dX4_readSum_55 : decode cX4_readSum 55 = .ok (.istore_n 3, 1) := by decide +kernel
theorem dX4_readSum_56 : decode cX4_readSum 56 = .ok (.aload_n 0, 1) := by decide +kernel
theorem dX4_readSum_57 : decode cX4_readSum 57 = .ok (.iload 5, 2) := by decide +kernel
theorem dX4_readSum_59 : decode cX4_readSum 59 = .ok (.ineg, 1) := by decide +kernel
theorem dX4_readSum_60 : decode cX4_readSum 60 = .ok (.invokevirtual 91, 3) := by decide +kernel
theorem dX4_readSum_63 : decode cX4_readSum 63 = .ok (.iinc 4 1, 3) := by decide +kernel
theorem dX4_readSum_66 : decode cX4_readSum 66 = .ok (.goto (-56), 3) := by decide +kernel
theorem dX4_readSum_69 : decode cX4_readSum 69 = .ok (.iload_n 3, 1) := by decide +kernel
theorem dX4_readSum_70 : decode cX4_readSum 70 = .ok (.ireturn, 1) := by decide +kernel
theorem dX4_readTerm_0 : decode cX4_readTerm 0 = .ok (.aload_n 0, 1) := by decide +kernel
theorem dX4_readTerm_1 : decode cX4_readTerm 1 = .ok (.iload_n 1, 1) := by decide +kernel
theorem dX4_readTerm_2 : decode cX4_readTerm 2 = .ok (.iload_n 2, 1) := by decide +kernel
theorem dX4_readTerm_3 : decode cX4_readTerm 3 = .ok (.invokevirtual 104, 3) := by decide +kernel
theorem dX4_readTerm_6 : decode cX4_readTerm 6 = .ok (.istore_n 3, 1) := by decide +kernel
theorem dX4_readTerm_7 : decode cX4_readTerm 7 = .ok (.iconst 0, 1) := by decide +kernel
theorem dX4_readTerm_8 : decode cX4_readTerm 8 = .ok (.istore 4, 2) := by decide +kernel
theorem dX4_readTerm_10 : decode cX4_readTerm 10 = .ok (.iload 4, 2) := by decide +kernel
theorem dX4_readTerm_12 : decode cX4_readTerm 12 = .ok (.bipush 96, 2) := by decide +kernel
theorem dX4_readTerm_14 : decode cX4_readTerm 14 = .ok (.if_icmp .ge 55, 3) := by decide +kernel
theorem dX4_readTerm_17 : decode cX4_readTerm 17 = .ok (.iload_n 3, 1) := by decide +kernel
theorem dX4_readTerm_18 : decode cX4_readTerm 18 = .ok (.ifCond .eq 51, 3) := by decide +kernel
theorem dX4_readTerm_21 : decode cX4_readTerm 21 = .ok (.aload_n 0, 1) := by decide +kernel
theorem dX4_readTerm_22 : decode cX4_readTerm 22 = .ok (.getfield 23, 3) := by decide +kernel
theorem dX4_readTerm_25 : decode cX4_readTerm 25 = .ok (.bipush 42, 2) := by decide +kernel
theorem dX4_readTerm_27 : decode cX4_readTerm 27 = .ok (.if_icmp .eq 12, 3) := by decide +kernel
theorem dX4_readTerm_30 : decode cX4_readTerm 30 = .ok (.aload_n 0, 1) := by decide +kernel
theorem dX4_readTerm_31 : decode cX4_readTerm 31 = .ok (.getfield 23, 3) := by decide +kernel
theorem dX4_readTerm_34 : decode cX4_readTerm 34 = .ok (.bipush 47, 2) := by decide +kernel
theorem dX4_readTerm_36 : decode cX4_readTerm 36 = .ok (.if_icmp .ne 33, 3) := by decide +kernel
theorem dX4_readTerm_39 : decode cX4_readTerm 39 = .ok (.aload_n 0, 1) := by decide +kernel
theorem dX4_readTerm_40 : decode cX4_readTerm 40 = .ok (.getfield 23, 3) := by decide +kernel
theorem dX4_readTerm_43 : decode cX4_readTerm 43 = .ok (.istore 5, 2) := by decide +kernel
theorem dX4_readTerm_45 : decode cX4_readTerm 45 = .ok (.aload_n 0, 1) := by decide +kernel
theorem dX4_readTerm_46 : decode cX4_readTerm 46 = .ok (.invokevirtual 41, 3) := by decide +kernel
theorem dX4_readTerm_49 : decode cX4_readTerm 49 = .ok (.aload_n 0, 1) := by decide +kernel
theorem dX4_readTerm_50 : decode cX4_readTerm 50 = .ok (.iload_n 1, 1) := by decide +kernel
theorem dX4_readTerm_51 : decode cX4_readTerm 51 = .ok (.iload_n 2, 1) := by decide +kernel
theorem dX4_readTerm_52 : decode cX4_readTerm 52 = .ok (.invokevirtual 104, 3) := by decide +kernel
theorem dX4_readTerm_55 : decode cX4_readTerm 55 = .ok (.istore_n 3, 1) := by decide +kernel
theorem dX4_readTerm_56 : decode cX4_readTerm 56 = .ok (.aload_n 0, 1) := by decide +kernel
theorem dX4_readTerm_57 : decode cX4_readTerm 57 = .ok (.iload 5, 2) := by decide +kernel
theorem dX4_readTerm_59 : decode cX4_readTerm 59 = .ok (.ineg, 1) := by decide +kernel
theorem dX4_readTerm_60 : decode cX4_readTerm 60 = .ok (.invokevirtual 91, 3) := by decide +kernel
theorem dX4_readTerm_63 : decode cX4_readTerm 63 = .ok (.iinc 4 1, 3) := by decide +kernel
theorem dX4_readTerm_66 : decode cX4_readTerm 66 = .ok (.goto (-56), 3) := by decide +kernel
theorem dX4_readTerm_69 : decode cX4_readTerm 69 = .ok (.iload_n 3, 1) := by decide +kernel
theorem dX4_readTerm_70 : decode cX4_readTerm 70 = .ok (.ireturn, 1) := by decide +kernel
theorem dX4_readPiece_0 : decode cX4_readPiece 0 = .ok (.aload_n 0, 1) := by decide +kernel
theorem dX4_readPiece_1 : decode cX4_readPiece 1 = .ok (.getfield 23, 3) := by decide +kernel
theorem dX4_readPiece_4 : decode cX4_readPiece 4 = .ok (.lookupswitch 125 #[(-3, 44), (-2, 53), (33, 79), (40, 102)], 44) := by decide +kernel
theorem dX4_readPiece_48 : decode cX4_readPiece 48 = .ok (.aload_n 0, 1) := by decide +kernel
theorem dX4_readPiece_49 : decode cX4_readPiece 49 = .ok (.aload_n 0, 1) := by decide +kernel
theorem dX4_readPiece_50 : decode cX4_readPiece 50 = .ok (.invokevirtual 107, 3) := by decide +kernel
theorem dX4_readPiece_53 : decode cX4_readPiece 53 = .ok (.invokevirtual 110, 3) := by decide +kernel
theorem dX4_readPiece_56 : decode cX4_readPiece 56 = .ok (.ireturn, 1) := by decide +kernel
theorem dX4_readPiece_57 : decode cX4_readPiece 57 = .ok (.aload_n 0, 1) := by decide +kernel
theorem dX4_readPiece_58 : decode cX4_readPiece 58 = .ok (.invokevirtual 113, 3) := by decide +kernel
theorem dX4_readPiece_61 : decode cX4_readPiece 61 = .ok (.ifCond .lt 20, 3) := by decide +kernel
theorem dX4_readPiece_64 : decode cX4_readPiece 64 = .ok (.aload_n 0, 1) := by decide +kernel
theorem dX4_readPiece_65 : decode cX4_readPiece 65 = .ok (.iconst (-1), 1) := by decide +kernel
theorem dX4_readPiece_66 : decode cX4_readPiece 66 = .ok (.aload_n 0, 1) := by decide +kernel
theorem dX4_readPiece_67 : decode cX4_readPiece 67 = .ok (.invokevirtual 113, 3) := by decide +kernel
theorem dX4_readPiece_70 : decode cX4_readPiece 70 = .ok (.isub, 1) := by decide +kernel
theorem dX4_readPiece_71 : decode cX4_readPiece 71 = .ok (.invokevirtual 110, 3) := by decide +kernel
theorem dX4_readPiece_74 : decode cX4_readPiece 74 = .ok (.ifCond .eq 7, 3) := by decide +kernel
theorem dX4_readPiece_77 : decode cX4_readPiece 77 = .ok (.iconst 1, 1) := by decide +kernel
theorem dX4_readPiece_78 : decode cX4_readPiece 78 = .ok (.goto 4, 3) := by decide +kernel
theorem dX4_readPiece_81 : decode cX4_readPiece 81 = .ok (.iconst 0, 1) := by decide +kernel
theorem dX4_readPiece_82 : decode cX4_readPiece 82 = .ok (.ireturn, 1) := by decide +kernel
theorem dX4_readPiece_83 : decode cX4_readPiece 83 = .ok (.iload_n 2, 1) := by decide +kernel
theorem dX4_readPiece_84 : decode cX4_readPiece 84 = .ok (.bipush 8, 2) := by decide +kernel
theorem dX4_readPiece_86 : decode cX4_readPiece 86 = .ok (.if_icmp .ge 18, 3) := by decide +kernel
theorem dX4_readPiece_89 : decode cX4_readPiece 89 = .ok (.aload_n 0, 1) := by decide +kernel
theorem dX4_readPiece_90 : decode cX4_readPiece 90 = .ok (.iload_n 1, 1) := by decide +kernel
theorem dX4_readPiece_91 : decode cX4_readPiece 91 = .ok (.iload_n 2, 1) := by decide +kernel
theorem dX4_readPiece_92 : decode cX4_readPiece 92 = .ok (.iconst 1, 1) := by decide +kernel
theorem dX4_readPiece_93 : decode cX4_readPiece 93 = .ok (.iadd, 1) := by decide +kernel
theorem dX4_readPiece_94 : decode cX4_readPiece 94 = .ok (.invokevirtual 118, 3) := by decide +kernel
theorem dX4_readPiece_97 : decode cX4_readPiece 97 = .ok (.ifCond .eq 7, 3) := by decide +kernel
theorem dX4_readPiece_100 : decode cX4_readPiece 100 = .ok (.iconst 1, 1) := by decide +kernel
theorem dX4_readPiece_101 : decode cX4_readPiece 101 = .ok (.goto 4, 3) := by decide +kernel
theorem dX4_readPiece_104 : decode cX4_readPiece 104 = .ok (.iconst 0, 1) := by decide +kernel
theorem dX4_readPiece_105 : decode cX4_readPiece 105 = .ok (.ireturn, 1) := by decide +kernel
theorem dX4_readPiece_106 : decode cX4_readPiece 106 = .ok (.iload_n 1, 1) := by decide +kernel
theorem dX4_readPiece_107 : decode cX4_readPiece 107 = .ok (.bipush 8, 2) := by decide +kernel
theorem dX4_readPiece_109 : decode cX4_readPiece 109 = .ok (.if_icmp .ge 18, 3) := by decide +kernel
theorem dX4_readPiece_112 : decode cX4_readPiece 112 = .ok (.aload_n 0, 1) := by decide +kernel
theorem dX4_readPiece_113 : decode cX4_readPiece 113 = .ok (.iload_n 1, 1) := by decide +kernel
theorem dX4_readPiece_114 : decode cX4_readPiece 114 = .ok (.iconst 1, 1) := by decide +kernel
theorem dX4_readPiece_115 : decode cX4_readPiece 115 = .ok (.iadd, 1) := by decide +kernel
theorem dX4_readPiece_116 : decode cX4_readPiece 116 = .ok (.iload_n 2, 1) := by decide +kernel
theorem dX4_readPiece_117 : decode cX4_readPiece 117 = .ok (.invokevirtual 121, 3) := by decide +kernel
theorem dX4_readPiece_120 : decode cX4_readPiece 120 = .ok (.ifCond .eq 7, 3) := by decide +kernel
theorem dX4_readPiece_123 : decode cX4_readPiece 123 = .ok (.iconst 1, 1) := by decide +kernel
theorem dX4_readPiece_124 : decode cX4_readPiece 124 = .ok (.goto 4, 3) := by decide +kernel
theorem dX4_readPiece_127 : decode cX4_readPiece 127 = .ok (.iconst 0, 1) := by decide +kernel
theorem dX4_readPiece_128 : decode cX4_readPiece 128 = .ok (.ireturn, 1) := by decide +kernel
theorem dX4_readPiece_129 : decode cX4_readPiece 129 = .ok (.iconst 0, 1) := by decide +kernel
theorem dX4_readPiece_130 : decode cX4_readPiece 130 = .ok (.ireturn, 1) := by decide +kernel
theorem dX4_readLeaf_0 : decode cX4_readLeaf 0 = .ok (.aload_n 0, 1) := by decide +kernel
theorem dX4_readLeaf_1 : decode cX4_readLeaf 1 = .ok (.iload_n 1, 1) := by decide +kernel
theorem dX4_readLeaf_2 : decode cX4_readLeaf 2 = .ok (.invokevirtual 91, 3) := by decide +kernel
theorem dX4_readLeaf_5 : decode cX4_readLeaf 5 = .ok (.aload_n 0, 1) := by decide +kernel
theorem dX4_readLeaf_6 : decode cX4_readLeaf 6 = .ok (.dup, 1) := by decide +kernel
theorem dX4_readLeaf_7 : decode cX4_readLeaf 7 = .ok (.getfield 38, 3) := by decide +kernel
theorem dX4_readLeaf_10 : decode cX4_readLeaf 10 = .ok (.iconst 1, 1) := by decide +kernel
theorem dX4_readLeaf_11 : decode cX4_readLeaf 11 = .ok (.iadd, 1) := by decide +kernel
theorem dX4_readLeaf_12 : decode cX4_readLeaf 12 = .ok (.putfield 38, 3) := by decide +kernel
theorem dX4_readLeaf_15 : decode cX4_readLeaf 15 = .ok (.aload_n 0, 1) := by decide +kernel
theorem dX4_readLeaf_16 : decode cX4_readLeaf 16 = .ok (.invokevirtual 41, 3) := by decide +kernel
theorem dX4_readLeaf_19 : decode cX4_readLeaf 19 = .ok (.iconst 1, 1) := by decide +kernel
theorem dX4_readLeaf_20 : decode cX4_readLeaf 20 = .ok (.ireturn, 1) := by decide +kernel
theorem dX4_readNot_0 : decode cX4_readNot 0 = .ok (.aload_n 0, 1) := by decide +kernel
theorem dX4_readNot_1 : decode cX4_readNot 1 = .ok (.invokevirtual 41, 3) := by decide +kernel
theorem dX4_readNot_4 : decode cX4_readNot 4 = .ok (.aload_n 0, 1) := by decide +kernel
theorem dX4_readNot_5 : decode cX4_readNot 5 = .ok (.iload_n 1, 1) := by decide +kernel
theorem dX4_readNot_6 : decode cX4_readNot 6 = .ok (.iload_n 2, 1) := by decide +kernel
theorem dX4_readNot_7 : decode cX4_readNot 7 = .ok (.invokevirtual 104, 3) := by decide +kernel
theorem dX4_readNot_10 : decode cX4_readNot 10 = .ok (.istore_n 3, 1) := by decide +kernel
theorem dX4_readNot_11 : decode cX4_readNot 11 = .ok (.aload_n 0, 1) := by decide +kernel
theorem dX4_readNot_12 : decode cX4_readNot 12 = .ok (.bipush (-33), 2) := by decide +kernel
theorem dX4_readNot_14 : decode cX4_readNot 14 = .ok (.invokevirtual 91, 3) := by decide +kernel
theorem dX4_readNot_17 : decode cX4_readNot 17 = .ok (.iload_n 3, 1) := by decide +kernel
theorem dX4_readNot_18 : decode cX4_readNot 18 = .ok (.ireturn, 1) := by decide +kernel
theorem dX4_readInner_0 : decode cX4_readInner 0 = .ok (.aload_n 0, 1) := by decide +kernel
theorem dX4_readInner_1 : decode cX4_readInner 1 = .ok (.invokevirtual 41, 3) := by decide +kernel
theorem dX4_readInner_4 : decode cX4_readInner 4 = .ok (.aload_n 0, 1) := by decide +kernel
theorem dX4_readInner_5 : decode cX4_readInner 5 = .ok (.iload_n 1, 1) := by decide +kernel
theorem dX4_readInner_6 : decode cX4_readInner 6 = .ok (.iload_n 2, 1) := by decide +kernel
theorem dX4_readInner_7 : decode cX4_readInner 7 = .ok (.invokevirtual 48, 3) := by decide +kernel
theorem dX4_readInner_10 : decode cX4_readInner 10 = .ok (.ifCond .eq 12, 3) := by decide +kernel
theorem dX4_readInner_13 : decode cX4_readInner 13 = .ok (.aload_n 0, 1) := by decide +kernel
theorem dX4_readInner_14 : decode cX4_readInner 14 = .ok (.getfield 23, 3) := by decide +kernel
theorem dX4_readInner_17 : decode cX4_readInner 17 = .ok (.bipush 41, 2) := by decide +kernel
theorem dX4_readInner_19 : decode cX4_readInner 19 = .ok (.if_icmp .eq 5, 3) := by decide +kernel
theorem dX4_readInner_22 : decode cX4_readInner 22 = .ok (.iconst 0, 1) := by decide +kernel
theorem dX4_readInner_23 : decode cX4_readInner 23 = .ok (.ireturn, 1) := by decide +kernel
theorem dX4_readInner_24 : decode cX4_readInner 24 = .ok (.aload_n 0, 1) := by decide +kernel
theorem dX4_readInner_25 : decode cX4_readInner 25 = .ok (.invokevirtual 41, 3) := by decide +kernel
theorem dX4_readInner_28 : decode cX4_readInner 28 = .ok (.iconst 1, 1) := by decide +kernel
theorem dX4_readInner_29 : decode cX4_readInner 29 = .ok (.ireturn, 1) := by decide +kernel
theorem dX4_nameAhead_0 : decode cX4_nameAhead 0 = .ok (.aload_n 0, 1) := by decide +kernel
theorem dX4_nameAhead_1 : decode cX4_nameAhead 1 = .ok (.getfield 29, 3) := by decide +kernel
theorem dX4_nameAhead_4 : decode cX4_nameAhead 4 = .ok (.aload_n 0, 1) := by decide +kernel
theorem dX4_nameAhead_5 : decode cX4_nameAhead 5 = .ok (.getfield 26, 3) := by decide +kernel
theorem dX4_nameAhead_8 : decode cX4_nameAhead 8 = .ok (.isub, 1) := by decide +kernel
theorem dX4_nameAhead_9 : decode cX4_nameAhead 9 = .ok (.iconst 1, 1) := by decide +kernel
theorem dX4_nameAhead_10 : decode cX4_nameAhead 10 = .ok (.if_icmp .ne 26, 3) := by decide +kernel
theorem dX4_nameAhead_13 : decode cX4_nameAhead 13 = .ok (.aload_n 0, 1) := by decide +kernel
theorem dX4_nameAhead_14 : decode cX4_nameAhead 14 = .ok (.getfield 32, 3) := by decide +kernel
theorem dX4_nameAhead_17 : decode cX4_nameAhead 17 = .ok (.invokestatic 124, 3) := by decide +kernel
theorem dX4_nameAhead_20 : decode cX4_nameAhead 20 = .ok (.aload_n 0, 1) := by decide +kernel
theorem dX4_nameAhead_21 : decode cX4_nameAhead 21 = .ok (.getfield 9, 3) := by decide +kernel
theorem dX4_nameAhead_24 : decode cX4_nameAhead 24 = .ok (.aload_n 0, 1) := by decide +kernel
theorem dX4_nameAhead_25 : decode cX4_nameAhead 25 = .ok (.getfield 26, 3) := by decide +kernel
theorem dX4_nameAhead_28 : decode cX4_nameAhead 28 = .ok (.baload, 1) := by decide +kernel
theorem dX4_nameAhead_29 : decode cX4_nameAhead 29 = .ok (.i2c, 1) := by decide +kernel
theorem dX4_nameAhead_30 : decode cX4_nameAhead 30 = .ok (.invokevirtual 127, 3) := by decide +kernel
theorem dX4_nameAhead_33 : decode cX4_nameAhead 33 = .ok (.goto 4, 3) := by decide +kernel
theorem dX4_nameAhead_36 : decode cX4_nameAhead 36 = .ok (.iconst (-1), 1) := by decide +kernel
theorem dX4_nameAhead_37 : decode cX4_nameAhead 37 = .ok (.ireturn, 1) := by decide +kernel
theorem dX4_numberAhead_0 : decode cX4_numberAhead 0 = .ok (.iconst 0, 1) := by decide +kernel
theorem dX4_numberAhead_1 : decode cX4_numberAhead 1 = .ok (.istore_n 1, 1) := by decide +kernel
theorem dX4_numberAhead_2 : decode cX4_numberAhead 2 = .ok (.aload_n 0, 1) := by decide +kernel
theorem dX4_numberAhead_3 : decode cX4_numberAhead 3 = .ok (.getfield 26, 3) := by decide +kernel
theorem dX4_numberAhead_6 : decode cX4_numberAhead 6 = .ok (.istore_n 2, 1) := by decide +kernel
theorem dX4_numberAhead_7 : decode cX4_numberAhead 7 = .ok (.iload_n 2, 1) := by decide +kernel
theorem dX4_numberAhead_8 : decode cX4_numberAhead 8 = .ok (.aload_n 0, 1) := by decide +kernel
theorem dX4_numberAhead_9 : decode cX4_numberAhead 9 = .ok (.getfield 29, 3) := by decide +kernel
theorem dX4_numberAhead_12 : decode cX4_numberAhead 12 = .ok (.if_icmp .ge 24, 3) := by decide +kernel
theorem dX4_numberAhead_15 : decode cX4_numberAhead 15 = .ok (.iload_n 1, 1) := by decide +kernel
theorem dX4_numberAhead_16 : decode cX4_numberAhead 16 = .ok (.bipush 10, 2) := by decide +kernel
theorem dX4_numberAhead_18 : decode cX4_numberAhead 18 = .ok (.imul, 1) := by decide +kernel
theorem dX4_numberAhead_19 : decode cX4_numberAhead 19 = .ok (.aload_n 0, 1) := by decide +kernel
theorem dX4_numberAhead_20 : decode cX4_numberAhead 20 = .ok (.getfield 9, 3) := by decide +kernel
theorem dX4_numberAhead_23 : decode cX4_numberAhead 23 = .ok (.iload_n 2, 1) := by decide +kernel
theorem dX4_numberAhead_24 : decode cX4_numberAhead 24 = .ok (.baload, 1) := by decide +kernel
theorem dX4_numberAhead_25 : decode cX4_numberAhead 25 = .ok (.bipush 48, 2) := by decide +kernel
theorem dX4_numberAhead_27 : decode cX4_numberAhead 27 = .ok (.isub, 1) := by decide +kernel
theorem dX4_numberAhead_28 : decode cX4_numberAhead 28 = .ok (.iadd, 1) := by decide +kernel
theorem dX4_numberAhead_29 : decode cX4_numberAhead 29 = .ok (.istore_n 1, 1) := by decide +kernel
theorem dX4_numberAhead_30 : decode cX4_numberAhead 30 = .ok (.iinc 2 1, 3) := by decide +kernel
theorem dX4_numberAhead_33 : decode cX4_numberAhead 33 = .ok (.goto (-26), 3) := by decide +kernel
theorem dX4_numberAhead_36 : decode cX4_numberAhead 36 = .ok (.iload_n 1, 1) := by decide +kernel
theorem dX4_numberAhead_37 : decode cX4_numberAhead 37 = .ok (.ireturn, 1) := by decide +kernel
theorem dX4_emit_0 : decode cX4_emit 0 = .ok (.aload_n 0, 1) := by decide +kernel
theorem dX4_emit_1 : decode cX4_emit 1 = .ok (.getfield 35, 3) := by decide +kernel
theorem dX4_emit_4 : decode cX4_emit 4 = .ok (.bipush 96, 2) := by decide +kernel
theorem dX4_emit_6 : decode cX4_emit 6 = .ok (.if_icmp .ge 23, 3) := by decide +kernel
theorem dX4_emit_9 : decode cX4_emit 9 = .ok (.aload_n 0, 1) := by decide +kernel
theorem dX4_emit_10 : decode cX4_emit 10 = .ok (.getfield 15, 3) := by decide +kernel
theorem dX4_emit_13 : decode cX4_emit 13 = .ok (.aload_n 0, 1) := by decide +kernel
theorem dX4_emit_14 : decode cX4_emit 14 = .ok (.getfield 35, 3) := by decide +kernel
theorem dX4_emit_17 : decode cX4_emit 17 = .ok (.iload_n 1, 1) := by decide +kernel
theorem dX4_emit_18 : decode cX4_emit 18 = .ok (.iastore, 1) := by decide +kernel
theorem dX4_emit_19 : decode cX4_emit 19 = .ok (.aload_n 0, 1) := by decide +kernel
theorem dX4_emit_20 : decode cX4_emit 20 = .ok (.dup, 1) := by decide +kernel
theorem dX4_emit_21 : decode cX4_emit 21 = .ok (.getfield 35, 3) := by decide +kernel
theorem dX4_emit_24 : decode cX4_emit 24 = .ok (.iconst 1, 1) := by decide +kernel
theorem dX4_emit_25 : decode cX4_emit 25 = .ok (.iadd, 1) := by decide +kernel
theorem dX4_emit_26 : decode cX4_emit 26 = .ok (.putfield 35, 3) := by decide +kernel
theorem dX4_emit_29 : decode cX4_emit 29 = .ok (.return_, 1) := by decide +kernel
theorem dX5_init_0 : decode cX5_init 0 = .ok (.aload_n 0, 1) := by decide +kernel
theorem dX5_init_1 : decode cX5_init 1 = .ok (.invokespecial 1, 3) := by decide +kernel
theorem dX5_init_4 : decode cX5_init 4 = .ok (.aload_n 0, 1) := by decide +kernel
theorem dX5_init_5 : decode cX5_init 5 = .ok (.new 7, 3) := by decide +kernel
theorem dX5_init_8 : decode cX5_init 8 = .ok (.dup, 1) := by decide +kernel
theorem dX5_init_9 : decode cX5_init 9 = .ok (.invokespecial 9, 3) := by decide +kernel
theorem dX5_init_12 : decode cX5_init 12 = .ok (.putfield 10, 3) := by decide +kernel
theorem dX5_init_15 : decode cX5_init 15 = .ok (.aload_n 0, 1) := by decide +kernel
theorem dX5_init_16 : decode cX5_init 16 = .ok (.new 16, 3) := by decide +kernel
theorem dX5_init_19 : decode cX5_init 19 = .ok (.dup, 1) := by decide +kernel
theorem dX5_init_20 : decode cX5_init 20 = .ok (.aload_n 0, 1) := by decide +kernel
theorem dX5_init_21 : decode cX5_init 21 = .ok (.getfield 10, 3) := by decide +kernel
theorem dX5_init_24 : decode cX5_init 24 = .ok (.invokespecial 18, 3) := by decide +kernel
theorem dX5_init_27 : decode cX5_init 27 = .ok (.putfield 21, 3) := by decide +kernel
theorem dX5_init_30 : decode cX5_init 30 = .ok (.aload_n 0, 1) := by decide +kernel
theorem dX5_init_31 : decode cX5_init 31 = .ok (.new 16, 3) := by decide +kernel
theorem dX5_init_34 : decode cX5_init 34 = .ok (.dup, 1) := by decide +kernel
theorem dX5_init_35 : decode cX5_init 35 = .ok (.aload_n 0, 1) := by decide +kernel
theorem dX5_init_36 : decode cX5_init 36 = .ok (.getfield 10, 3) := by decide +kernel
theorem dX5_init_39 : decode cX5_init 39 = .ok (.invokespecial 18, 3) := by decide +kernel
theorem dX5_init_42 : decode cX5_init 42 = .ok (.putfield 25, 3) := by decide +kernel
theorem dX5_init_45 : decode cX5_init 45 = .ok (.aload_n 0, 1) := by decide +kernel
theorem dX5_init_46 : decode cX5_init 46 = .ok (.new 16, 3) := by decide +kernel
theorem dX5_init_49 : decode cX5_init 49 = .ok (.dup, 1) := by decide +kernel
theorem dX5_init_50 : decode cX5_init 50 = .ok (.aload_n 0, 1) := by decide +kernel
theorem dX5_init_51 : decode cX5_init 51 = .ok (.getfield 10, 3) := by decide +kernel
theorem dX5_init_54 : decode cX5_init 54 = .ok (.invokespecial 18, 3) := by decide +kernel
theorem dX5_init_57 : decode cX5_init 57 = .ok (.putfield 28, 3) := by decide +kernel
theorem dX5_init_60 : decode cX5_init 60 = .ok (.aload_n 0, 1) := by decide +kernel
theorem dX5_init_61 : decode cX5_init 61 = .ok (.new 16, 3) := by decide +kernel
theorem dX5_init_64 : decode cX5_init 64 = .ok (.dup, 1) := by decide +kernel
theorem dX5_init_65 : decode cX5_init 65 = .ok (.aload_n 0, 1) := by decide +kernel
theorem dX5_init_66 : decode cX5_init 66 = .ok (.getfield 10, 3) := by decide +kernel
theorem dX5_init_69 : decode cX5_init 69 = .ok (.invokespecial 18, 3) := by decide +kernel
theorem dX5_init_72 : decode cX5_init 72 = .ok (.putfield 31, 3) := by decide +kernel
theorem dX5_init_75 : decode cX5_init 75 = .ok (.aload_n 0, 1) := by decide +kernel
theorem dX5_init_76 : decode cX5_init 76 = .ok (.new 34, 3) := by decide +kernel
theorem dX5_init_79 : decode cX5_init 79 = .ok (.dup, 1) := by decide +kernel
theorem dX5_init_80 : decode cX5_init 80 = .ok (.invokespecial 36, 3) := by decide +kernel
theorem dX5_init_83 : decode cX5_init 83 = .ok (.putfield 37, 3) := by decide +kernel
theorem dX5_init_86 : decode cX5_init 86 = .ok (.aload_n 0, 1) := by decide +kernel
theorem dX5_init_87 : decode cX5_init 87 = .ok (.iconst 4, 1) := by decide +kernel
theorem dX5_init_88 : decode cX5_init 88 = .ok (.anewarray 41, 3) := by decide +kernel
theorem dX5_init_91 : decode cX5_init 91 = .ok (.putfield 43, 3) := by decide +kernel
theorem dX5_init_94 : decode cX5_init 94 = .ok (.aload_n 0, 1) := by decide +kernel
theorem dX5_init_95 : decode cX5_init 95 = .ok (.iconst 5, 1) := by decide +kernel
theorem dX5_init_96 : decode cX5_init 96 = .ok (.anewarray 47, 3) := by decide +kernel
theorem dX5_init_99 : decode cX5_init 99 = .ok (.putfield 49, 3) := by decide +kernel
theorem dX5_init_102 : decode cX5_init 102 = .ok (.aload_n 0, 1) := by decide +kernel
theorem dX5_init_103 : decode cX5_init 103 = .ok (.bipush 60, 2) := by decide +kernel
theorem dX5_init_105 : decode cX5_init 105 = .ok (.newarray .int, 2) := by decide +kernel
theorem dX5_init_107 : decode cX5_init 107 = .ok (.putfield 53, 3) := by decide +kernel
theorem dX5_init_110 : decode cX5_init 110 = .ok (.aload_n 0, 1) := by decide +kernel
theorem dX5_init_111 : decode cX5_init 111 = .ok (.iconst 0, 1) := by decide +kernel
theorem dX5_init_112 : decode cX5_init 112 = .ok (.putfield 57, 3) := by decide +kernel
theorem dX5_init_115 : decode cX5_init 115 = .ok (.aload_n 0, 1) := by decide +kernel
theorem dX5_init_116 : decode cX5_init 116 = .ok (.iconst 0, 1) := by decide +kernel
theorem dX5_init_117 : decode cX5_init 117 = .ok (.putfield 61, 3) := by decide +kernel
theorem dX5_init_120 : decode cX5_init 120 = .ok (.iconst 0, 1) := by decide +kernel
theorem dX5_init_121 : decode cX5_init 121 = .ok (.istore_n 1, 1) := by decide +kernel
theorem dX5_init_122 : decode cX5_init 122 = .ok (.iload_n 1, 1) := by decide +kernel
theorem dX5_init_123 : decode cX5_init 123 = .ok (.iconst 4, 1) := by decide +kernel
theorem dX5_init_124 : decode cX5_init 124 = .ok (.if_icmp .ge 22, 3) := by decide +kernel
theorem dX5_init_127 : decode cX5_init 127 = .ok (.aload_n 0, 1) := by decide +kernel
theorem dX5_init_128 : decode cX5_init 128 = .ok (.getfield 43, 3) := by decide +kernel
theorem dX5_init_131 : decode cX5_init 131 = .ok (.iload_n 1, 1) := by decide +kernel
theorem dX5_init_132 : decode cX5_init 132 = .ok (.new 41, 3) := by decide +kernel
theorem dX5_init_135 : decode cX5_init 135 = .ok (.dup, 1) := by decide +kernel
theorem dX5_init_136 : decode cX5_init 136 = .ok (.invokespecial 65, 3) := by decide +kernel
theorem dX5_init_139 : decode cX5_init 139 = .ok (.aastore, 1) := by decide +kernel
theorem dX5_init_140 : decode cX5_init 140 = .ok (.iinc 1 1, 3) := by decide +kernel
theorem dX5_init_143 : decode cX5_init 143 = .ok (.goto (-21), 3) := by decide +kernel
theorem dX5_init_146 : decode cX5_init 146 = .ok (.iconst 0, 1) := by decide +kernel
theorem dX5_init_147 : decode cX5_init 147 = .ok (.istore_n 1, 1) := by decide +kernel
theorem dX5_init_148 : decode cX5_init 148 = .ok (.iload_n 1, 1) := by decide +kernel
theorem dX5_init_149 : decode cX5_init 149 = .ok (.iconst 5, 1) := by decide +kernel
theorem dX5_init_150 : decode cX5_init 150 = .ok (.if_icmp .ge 22, 3) := by decide +kernel
theorem dX5_init_153 : decode cX5_init 153 = .ok (.aload_n 0, 1) := by decide +kernel
theorem dX5_init_154 : decode cX5_init 154 = .ok (.getfield 49, 3) := by decide +kernel
theorem dX5_init_157 : decode cX5_init 157 = .ok (.iload_n 1, 1) := by decide +kernel
theorem dX5_init_158 : decode cX5_init 158 = .ok (.new 47, 3) := by decide +kernel
theorem dX5_init_161 : decode cX5_init 161 = .ok (.dup, 1) := by decide +kernel
theorem dX5_init_162 : decode cX5_init 162 = .ok (.invokespecial 66, 3) := by decide +kernel
theorem dX5_init_165 : decode cX5_init 165 = .ok (.aastore, 1) := by decide +kernel
theorem dX5_init_166 : decode cX5_init 166 = .ok (.iinc 1 1, 3) := by decide +kernel
theorem dX5_init_169 : decode cX5_init 169 = .ok (.goto (-21), 3) := by decide +kernel
theorem dX5_init_172 : decode cX5_init 172 = .ok (.return_, 1) := by decide +kernel
theorem dX5_thing_0 : decode cX5_thing 0 = .ok (.iload_n 1, 1) := by decide +kernel
theorem dX5_thing_1 : decode cX5_thing 1 = .ok (.iconst 0, 1) := by decide +kernel
theorem dX5_thing_2 : decode cX5_thing 2 = .ok (.iconst 5, 1) := by decide +kernel
theorem dX5_thing_3 : decode cX5_thing 3 = .ok (.invokestatic 67, 3) := by decide +kernel
theorem dX5_thing_6 : decode cX5_thing 6 = .ok (.ifCond .eq 13, 3) := by decide +kernel
theorem dX5_thing_9 : decode cX5_thing 9 = .ok (.iload_n 2, 1) := by decide +kernel
theorem dX5_thing_10 : decode cX5_thing 10 = .ok (.iconst 1, 1) := by decide +kernel
theorem dX5_thing_11 : decode cX5_thing 11 = .ok (.bipush 9, 2) := by decide +kernel
theorem dX5_thing_13 : decode cX5_thing 13 = .ok (.invokestatic 67, 3) := by decide +kernel
theorem dX5_thing_16 : decode cX5_thing 16 = .ok (.ifCond .ne 6, 3) := by decide +kernel
theorem dX5_thing_19 : decode cX5_thing 19 = .ok (.ldc 71, 2) := by decide +kernel
theorem dX5_thing_21 : decode cX5_thing 21 = .ok (.ireturn, 1) := by decide +kernel
theorem dX5_thing_22 : decode cX5_thing 22 = .ok (.aload_n 0, 1) := by decide +kernel
theorem dX5_thing_23 : decode cX5_thing 23 = .ok (.getfield 21, 3) := by decide +kernel
theorem dX5_thing_26 : decode cX5_thing 26 = .ok (.getfield 72, 3) := by decide +kernel
theorem dX5_thing_29 : decode cX5_thing 29 = .ok (.bipush 8, 2) := by decide +kernel
theorem dX5_thing_31 : decode cX5_thing 31 = .ok (.if_icmp .ge 16, 3) := by decide +kernel
theorem dX5_thing_34 : decode cX5_thing 34 = .ok (.aload_n 0, 1) := by decide +kernel
theorem dX5_thing_35 : decode cX5_thing 35 = .ok (.getfield 21, 3) := by decide +kernel
theorem dX5_thing_38 : decode cX5_thing 38 = .ok (.iload_n 1, 1) := by decide +kernel
theorem dX5_thing_39 : decode cX5_thing 39 = .ok (.iload_n 2, 1) := by decide +kernel
theorem dX5_thing_40 : decode cX5_thing 40 = .ok (.iconst 0, 1) := by decide +kernel
theorem dX5_thing_41 : decode cX5_thing 41 = .ok (.invokevirtual 75, 3) := by decide +kernel
theorem dX5_thing_44 : decode cX5_thing 44 = .ok (.goto 5, 3) := by decide +kernel
theorem dX5_thing_47 : decode cX5_thing 47 = .ok (.ldc 79, 2) := by decide +kernel
theorem dX5_thing_49 : decode cX5_thing 49 = .ok (.ireturn, 1) := by decide +kernel
theorem dX5_toss_0 : decode cX5_toss 0 = .ok (.aload_n 0, 1) := by decide +kernel
theorem dX5_toss_1 : decode cX5_toss 1 = .ok (.getfield 21, 3) := by decide +kernel
theorem dX5_toss_4 : decode cX5_toss 4 = .ok (.iload_n 1, 1) := by decide +kernel
theorem dX5_toss_5 : decode cX5_toss 5 = .ok (.invokevirtual 80, 3) := by decide +kernel
theorem dX5_toss_8 : decode cX5_toss 8 = .ok (.ifCond .eq 14, 3) := by decide +kernel
theorem dX5_toss_11 : decode cX5_toss 11 = .ok (.iload_n 2, 1) := by decide +kernel
theorem dX5_toss_12 : decode cX5_toss 12 = .ok (.iconst 1, 1) := by decide +kernel
theorem dX5_toss_13 : decode cX5_toss 13 = .ok (.sipush 9999, 3) := by decide +kernel
theorem dX5_toss_16 : decode cX5_toss 16 = .ok (.invokestatic 67, 3) := by decide +kernel
theorem dX5_toss_19 : decode cX5_toss 19 = .ok (.ifCond .ne 6, 3) := by decide +kernel
theorem dX5_toss_22 : decode cX5_toss 22 = .ok (.ldc 71, 2) := by decide +kernel
theorem dX5_toss_24 : decode cX5_toss 24 = .ok (.ireturn, 1) := by decide +kernel
theorem dX5_toss_25 : decode cX5_toss 25 = .ok (.aload_n 0, 1) := by decide +kernel
theorem dX5_toss_26 : decode cX5_toss 26 = .ok (.getfield 21, 3) := by decide +kernel
theorem dX5_toss_29 : decode cX5_toss 29 = .ok (.iload_n 1, 1) := by decide +kernel
theorem dX5_toss_30 : decode cX5_toss 30 = .ok (.iload_n 2, 1) := by decide +kernel
theorem dX5_toss_31 : decode cX5_toss 31 = .ok (.invokevirtual 84, 3) := by decide +kernel
theorem dX5_toss_34 : decode cX5_toss 34 = .ok (.aload_n 0, 1) := by decide +kernel
theorem dX5_toss_35 : decode cX5_toss 35 = .ok (.getfield 21, 3) := by decide +kernel
theorem dX5_toss_38 : decode cX5_toss 38 = .ok (.getfield 88, 3) := by decide +kernel
theorem dX5_toss_41 : decode cX5_toss 41 = .ok (.iload_n 1, 1) := by decide +kernel
theorem dX5_toss_42 : decode cX5_toss 42 = .ok (.iaload, 1) := by decide +kernel
theorem dX5_toss_43 : decode cX5_toss 43 = .ok (.ireturn, 1) := by decide +kernel
theorem dX5_told_0 : decode cX5_told 0 = .ok (.aload_n 0, 1) := by decide +kernel
theorem dX5_told_1 : decode cX5_told 1 = .ok (.getfield 21, 3) := by decide +kernel
theorem dX5_told_4 : decode cX5_told 4 = .ok (.iload_n 1, 1) := by decide +kernel
theorem dX5_told_5 : decode cX5_told 5 = .ok (.invokevirtual 80, 3) := by decide +kernel
theorem dX5_told_8 : decode cX5_told 8 = .ok (.ifCond .ne 6, 3) := by decide +kernel
theorem dX5_told_11 : decode cX5_told 11 = .ok (.ldc 71, 2) := by decide +kernel
theorem dX5_told_13 : decode cX5_told 13 = .ok (.ireturn, 1) := by decide +kernel
theorem dX5_told_14 : decode cX5_told 14 = .ok (.iload_n 2, 1) := by decide +kernel
theorem dX5_told_15 : decode cX5_told 15 = .ok (.tableswitch 147 0 8 #[49, 59, 69, 79, 89, 98, 107, 129, 138], 49) := by decide +kernel
theorem dX5_told_64 : decode cX5_told 64 = .ok (.aload_n 0, 1) := by decide +kernel
theorem dX5_told_65 : decode cX5_told 65 = .ok (.getfield 21, 3) := by decide +kernel
theorem dX5_told_68 : decode cX5_told 68 = .ok (.getfield 91, 3) := by decide +kernel
theorem dX5_told_71 : decode cX5_told 71 = .ok (.iload_n 1, 1) := by decide +kernel
theorem dX5_told_72 : decode cX5_told 72 = .ok (.iaload, 1) := by decide +kernel
theorem dX5_told_73 : decode cX5_told 73 = .ok (.ireturn, 1) := by decide +kernel
theorem dX5_told_74 : decode cX5_told 74 = .ok (.aload_n 0, 1) := by decide +kernel
theorem dX5_told_75 : decode cX5_told 75 = .ok (.getfield 21, 3) := by decide +kernel
theorem dX5_told_78 : decode cX5_told 78 = .ok (.getfield 94, 3) := by decide +kernel
theorem dX5_told_81 : decode cX5_told 81 = .ok (.iload_n 1, 1) := by decide +kernel
theorem dX5_told_82 : decode cX5_told 82 = .ok (.iaload, 1) := by decide +kernel
theorem dX5_told_83 : decode cX5_told 83 = .ok (.ireturn, 1) := by decide +kernel
theorem dX5_told_84 : decode cX5_told 84 = .ok (.aload_n 0, 1) := by decide +kernel
theorem dX5_told_85 : decode cX5_told 85 = .ok (.getfield 21, 3) := by decide +kernel
theorem dX5_told_88 : decode cX5_told 88 = .ok (.getfield 88, 3) := by decide +kernel
theorem dX5_told_91 : decode cX5_told 91 = .ok (.iload_n 1, 1) := by decide +kernel
theorem dX5_told_92 : decode cX5_told 92 = .ok (.iaload, 1) := by decide +kernel
theorem dX5_told_93 : decode cX5_told 93 = .ok (.ireturn, 1) := by decide +kernel
theorem dX5_told_94 : decode cX5_told 94 = .ok (.aload_n 0, 1) := by decide +kernel
theorem dX5_told_95 : decode cX5_told 95 = .ok (.getfield 21, 3) := by decide +kernel
theorem dX5_told_98 : decode cX5_told 98 = .ok (.getfield 97, 3) := by decide +kernel
theorem dX5_told_101 : decode cX5_told 101 = .ok (.iload_n 1, 1) := by decide +kernel
theorem dX5_told_102 : decode cX5_told 102 = .ok (.iaload, 1) := by decide +kernel
theorem dX5_told_103 : decode cX5_told 103 = .ok (.ireturn, 1) := by decide +kernel
theorem dX5_told_104 : decode cX5_told 104 = .ok (.aload_n 0, 1) := by decide +kernel
theorem dX5_told_105 : decode cX5_told 105 = .ok (.getfield 21, 3) := by decide +kernel
theorem dX5_told_108 : decode cX5_told 108 = .ok (.iload_n 1, 1) := by decide +kernel
theorem dX5_told_109 : decode cX5_told 109 = .ok (.invokevirtual 100, 3) := by decide +kernel
theorem dX5_told_112 : decode cX5_told 112 = .ok (.ireturn, 1) := by decide +kernel
theorem dX5_told_113 : decode cX5_told 113 = .ok (.aload_n 0, 1) := by decide +kernel
theorem dX5_told_114 : decode cX5_told 114 = .ok (.getfield 21, 3) := by decide +kernel
theorem dX5_told_117 : decode cX5_told 117 = .ok (.iload_n 1, 1) := by decide +kernel
theorem dX5_told_118 : decode cX5_told 118 = .ok (.invokevirtual 104, 3) := by decide +kernel
theorem dX5_told_121 : decode cX5_told 121 = .ok (.ireturn, 1) := by decide +kernel
theorem dX5_told_122 : decode cX5_told 122 = .ok (.aload_n 0, 1) := by decide +kernel
theorem dX5_told_123 : decode cX5_told 123 = .ok (.getfield 21, 3) := by decide +kernel
theorem dX5_told_126 : decode cX5_told 126 = .ok (.getfield 91, 3) := by decide +kernel
theorem dX5_told_129 : decode cX5_told 129 = .ok (.iload_n 1, 1) := by decide +kernel
theorem dX5_told_130 : decode cX5_told 130 = .ok (.iaload, 1) := by decide +kernel
theorem dX5_told_131 : decode cX5_told 131 = .ok (.aload_n 0, 1) := by decide +kernel
theorem dX5_told_132 : decode cX5_told 132 = .ok (.getfield 21, 3) := by decide +kernel
theorem dX5_told_135 : decode cX5_told 135 = .ok (.getfield 94, 3) := by decide +kernel
theorem dX5_told_138 : decode cX5_told 138 = .ok (.iload_n 1, 1) := by decide +kernel
theorem dX5_told_139 : decode cX5_told 139 = .ok (.iaload, 1) := by decide +kernel
theorem dX5_told_140 : decode cX5_told 140 = .ok (.invokestatic 107, 3) := by decide +kernel
theorem dX5_told_143 : decode cX5_told 143 = .ok (.ireturn, 1) := by decide +kernel
theorem dX5_told_144 : decode cX5_told 144 = .ok (.aload_n 0, 1) := by decide +kernel
theorem dX5_told_145 : decode cX5_told 145 = .ok (.getfield 21, 3) := by decide +kernel
theorem dX5_told_148 : decode cX5_told 148 = .ok (.iload_n 1, 1) := by decide +kernel
theorem dX5_told_149 : decode cX5_told 149 = .ok (.invokevirtual 111, 3) := by decide +kernel
theorem dX5_told_152 : decode cX5_told 152 = .ok (.ireturn, 1) := by decide +kernel
theorem dX5_told_153 : decode cX5_told 153 = .ok (.aload_n 0, 1) := by decide +kernel
theorem dX5_told_154 : decode cX5_told 154 = .ok (.getfield 21, 3) := by decide +kernel
theorem dX5_told_157 : decode cX5_told 157 = .ok (.iload_n 1, 1) := by decide +kernel
theorem dX5_told_158 : decode cX5_told 158 = .ok (.invokevirtual 114, 3) := by decide +kernel
theorem dX5_told_161 : decode cX5_told 161 = .ok (.ireturn, 1) := by decide +kernel
theorem dX5_told_162 : decode cX5_told 162 = .ok (.ldc 71, 2) := by decide +kernel
theorem dX5_told_164 : decode cX5_told 164 = .ok (.ireturn, 1) := by decide +kernel
theorem dX5_as_0 : decode cX5_as 0 = .ok (.aload_n 0, 1) := by decide +kernel
theorem dX5_as_1 : decode cX5_as 1 = .ok (.getfield 21, 3) := by decide +kernel
theorem dX5_as_4 : decode cX5_as 4 = .ok (.iload_n 1, 1) := by decide +kernel
theorem dX5_as_5 : decode cX5_as 5 = .ok (.invokevirtual 80, 3) := by decide +kernel
theorem dX5_as_8 : decode cX5_as 8 = .ok (.ifCond .eq 12, 3) := by decide +kernel
theorem dX5_as_11 : decode cX5_as 11 = .ok (.iload_n 2, 1) := by decide +kernel
theorem dX5_as_12 : decode cX5_as 12 = .ok (.iconst 0, 1) := by decide +kernel
theorem dX5_as_13 : decode cX5_as 13 = .ok (.iconst 5, 1) := by decide +kernel
theorem dX5_as_14 : decode cX5_as 14 = .ok (.invokestatic 67, 3) := by decide +kernel
theorem dX5_as_17 : decode cX5_as 17 = .ok (.ifCond .ne 6, 3) := by decide +kernel
theorem dX5_as_20 : decode cX5_as 20 = .ok (.ldc 71, 2) := by decide +kernel
theorem dX5_as_22 : decode cX5_as 22 = .ok (.ireturn, 1) := by decide +kernel
theorem dX5_as_23 : decode cX5_as 23 = .ok (.aload_n 0, 1) := by decide +kernel
theorem dX5_as_24 : decode cX5_as 24 = .ok (.getfield 21, 3) := by decide +kernel
theorem dX5_as_27 : decode cX5_as 27 = .ok (.getfield 91, 3) := by decide +kernel
theorem dX5_as_30 : decode cX5_as 30 = .ok (.iload_n 1, 1) := by decide +kernel
theorem dX5_as_31 : decode cX5_as 31 = .ok (.iaload, 1) := by decide +kernel
theorem dX5_as_32 : decode cX5_as 32 = .ok (.iload_n 2, 1) := by decide +kernel
theorem dX5_as_33 : decode cX5_as 33 = .ok (.invokestatic 117, 3) := by decide +kernel
theorem dX5_as_36 : decode cX5_as 36 = .ok (.ifCond .eq 15, 3) := by decide +kernel
theorem dX5_as_39 : decode cX5_as 39 = .ok (.aload_n 0, 1) := by decide +kernel
theorem dX5_as_40 : decode cX5_as 40 = .ok (.getfield 21, 3) := by decide +kernel
theorem dX5_as_43 : decode cX5_as 43 = .ok (.getfield 94, 3) := by decide +kernel
theorem dX5_as_46 : decode cX5_as 46 = .ok (.iload_n 1, 1) := by decide +kernel
theorem dX5_as_47 : decode cX5_as 47 = .ok (.iaload, 1) := by decide +kernel
theorem dX5_as_48 : decode cX5_as 48 = .ok (.goto 5, 3) := by decide +kernel
theorem dX5_as_51 : decode cX5_as 51 = .ok (.ldc 121, 2) := by decide +kernel
theorem dX5_as_53 : decode cX5_as 53 = .ok (.ireturn, 1) := by decide +kernel
theorem dX5_turns_0 : decode cX5_turns 0 = .ok (.aload_n 0, 1) := by decide +kernel
theorem dX5_turns_1 : decode cX5_turns 1 = .ok (.getfield 21, 3) := by decide +kernel
theorem dX5_turns_4 : decode cX5_turns 4 = .ok (.iload_n 1, 1) := by decide +kernel
theorem dX5_turns_5 : decode cX5_turns 5 = .ok (.invokevirtual 80, 3) := by decide +kernel
theorem dX5_turns_8 : decode cX5_turns 8 = .ok (.ifCond .eq 12, 3) := by decide +kernel
theorem dX5_turns_11 : decode cX5_turns 11 = .ok (.iload_n 2, 1) := by decide +kernel
theorem dX5_turns_12 : decode cX5_turns 12 = .ok (.iconst 0, 1) := by decide +kernel
theorem dX5_turns_13 : decode cX5_turns 13 = .ok (.iconst 5, 1) := by decide +kernel
theorem dX5_turns_14 : decode cX5_turns 14 = .ok (.invokestatic 67, 3) := by decide +kernel
theorem dX5_turns_17 : decode cX5_turns 17 = .ok (.ifCond .ne 6, 3) := by decide +kernel
theorem dX5_turns_20 : decode cX5_turns 20 = .ok (.ldc 71, 2) := by decide +kernel
theorem dX5_turns_22 : decode cX5_turns 22 = .ok (.ireturn, 1) := by decide +kernel
theorem dX5_turns_23 : decode cX5_turns 23 = .ok (.aload_n 0, 1) := by decide +kernel
theorem dX5_turns_24 : decode cX5_turns 24 = .ok (.getfield 21, 3) := by decide +kernel
theorem dX5_turns_27 : decode cX5_turns 27 = .ok (.getfield 91, 3) := by decide +kernel
theorem dX5_turns_30 : decode cX5_turns 30 = .ok (.iload_n 1, 1) := by decide +kernel
theorem dX5_turns_31 : decode cX5_turns 31 = .ok (.iaload, 1) := by decide +kernel
theorem dX5_turns_32 : decode cX5_turns 32 = .ok (.istore_n 3, 1) := by decide +kernel
theorem dX5_turns_33 : decode cX5_turns 33 = .ok (.aload_n 0, 1) := by decide +kernel
theorem dX5_turns_34 : decode cX5_turns 34 = .ok (.getfield 21, 3) := by decide +kernel
theorem dX5_turns_37 : decode cX5_turns 37 = .ok (.getfield 91, 3) := by decide +kernel
theorem dX5_turns_40 : decode cX5_turns 40 = .ok (.iload_n 1, 1) := by decide +kernel
theorem dX5_turns_41 : decode cX5_turns 41 = .ok (.iload_n 2, 1) := by decide +kernel
theorem dX5_turns_42 : decode cX5_turns 42 = .ok (.iastore, 1) := by decide +kernel
theorem dX5_turns_43 : decode cX5_turns 43 = .ok (.iload_n 3, 1) := by decide +kernel
theorem dX5_turns_44 : decode cX5_turns 44 = .ok (.ireturn, 1) := by decide +kernel
theorem dX5_set_0 : decode cX5_set 0 = .ok (.aload_n 0, 1) := by decide +kernel
theorem dX5_set_1 : decode cX5_set 1 = .ok (.getfield 21, 3) := by decide +kernel
theorem dX5_set_4 : decode cX5_set 4 = .ok (.iload_n 1, 1) := by decide +kernel
theorem dX5_set_5 : decode cX5_set 5 = .ok (.invokevirtual 80, 3) := by decide +kernel
theorem dX5_set_8 : decode cX5_set 8 = .ok (.ifCond .ne 6, 3) := by decide +kernel
theorem dX5_set_11 : decode cX5_set 11 = .ok (.ldc 71, 2) := by decide +kernel
theorem dX5_set_13 : decode cX5_set 13 = .ok (.ireturn, 1) := by decide +kernel
theorem dX5_set_14 : decode cX5_set 14 = .ok (.iload_n 2, 1) := by decide +kernel
theorem dX5_set_15 : decode cX5_set 15 = .ok (.tableswitch 110 1 3 #[25, 53, 81], 25) := by decide +kernel
theorem dX5_set_40 : decode cX5_set 40 = .ok (.iload_n 3, 1) := by decide +kernel
theorem dX5_set_41 : decode cX5_set 41 = .ok (.iconst 1, 1) := by decide +kernel
theorem dX5_set_42 : decode cX5_set 42 = .ok (.bipush 9, 2) := by decide +kernel
theorem dX5_set_44 : decode cX5_set 44 = .ok (.invokestatic 67, 3) := by decide +kernel
theorem dX5_set_47 : decode cX5_set 47 = .ok (.ifCond .eq 18, 3) := by decide +kernel
theorem dX5_set_50 : decode cX5_set 50 = .ok (.aload_n 0, 1) := by decide +kernel
theorem dX5_set_51 : decode cX5_set 51 = .ok (.getfield 21, 3) := by decide +kernel
theorem dX5_set_54 : decode cX5_set 54 = .ok (.getfield 94, 3) := by decide +kernel
theorem dX5_set_57 : decode cX5_set 57 = .ok (.iload_n 1, 1) := by decide +kernel
theorem dX5_set_58 : decode cX5_set 58 = .ok (.iload_n 3, 1) := by decide +kernel
theorem dX5_set_59 : decode cX5_set 59 = .ok (.invokestatic 122, 3) := by decide +kernel
theorem dX5_set_62 : decode cX5_set 62 = .ok (.goto 5, 3) := by decide +kernel
theorem dX5_set_65 : decode cX5_set 65 = .ok (.ldc 71, 2) := by decide +kernel
theorem dX5_set_67 : decode cX5_set 67 = .ok (.ireturn, 1) := by decide +kernel
theorem dX5_set_68 : decode cX5_set 68 = .ok (.iload_n 3, 1) := by decide +kernel
theorem dX5_set_69 : decode cX5_set 69 = .ok (.iconst 0, 1) := by decide +kernel
theorem dX5_set_70 : decode cX5_set 70 = .ok (.ldc 126, 2) := by decide +kernel
theorem dX5_set_72 : decode cX5_set 72 = .ok (.invokestatic 67, 3) := by decide +kernel
theorem dX5_set_75 : decode cX5_set 75 = .ok (.ifCond .eq 18, 3) := by decide +kernel
theorem dX5_set_78 : decode cX5_set 78 = .ok (.aload_n 0, 1) := by decide +kernel
theorem dX5_set_79 : decode cX5_set 79 = .ok (.getfield 21, 3) := by decide +kernel
theorem dX5_set_82 : decode cX5_set 82 = .ok (.getfield 88, 3) := by decide +kernel
theorem dX5_set_85 : decode cX5_set 85 = .ok (.iload_n 1, 1) := by decide +kernel
theorem dX5_set_86 : decode cX5_set 86 = .ok (.iload_n 3, 1) := by decide +kernel
theorem dX5_set_87 : decode cX5_set 87 = .ok (.invokestatic 122, 3) := by decide +kernel
theorem dX5_set_90 : decode cX5_set 90 = .ok (.goto 5, 3) := by decide +kernel
theorem dX5_set_93 : decode cX5_set 93 = .ok (.ldc 71, 2) := by decide +kernel
theorem dX5_set_95 : decode cX5_set 95 = .ok (.ireturn, 1) := by decide +kernel
theorem dX5_set_96 : decode cX5_set 96 = .ok (.iload_n 3, 1) := by decide +kernel
theorem dX5_set_97 : decode cX5_set 97 = .ok (.iconst 0, 1) := by decide +kernel
theorem dX5_set_98 : decode cX5_set 98 = .ok (.sipush 9999, 3) := by decide +kernel
theorem dX5_set_101 : decode cX5_set 101 = .ok (.invokestatic 67, 3) := by decide +kernel
theorem dX5_set_104 : decode cX5_set 104 = .ok (.ifCond .eq 18, 3) := by decide +kernel
theorem dX5_set_107 : decode cX5_set 107 = .ok (.aload_n 0, 1) := by decide +kernel
theorem dX5_set_108 : decode cX5_set 108 = .ok (.getfield 21, 3) := by decide +kernel
theorem dX5_set_111 : decode cX5_set 111 = .ok (.getfield 97, 3) := by decide +kernel
theorem dX5_set_114 : decode cX5_set 114 = .ok (.iload_n 1, 1) := by decide +kernel
theorem dX5_set_115 : decode cX5_set 115 = .ok (.iload_n 3, 1) := by decide +kernel
theorem dX5_set_116 : decode cX5_set 116 = .ok (.invokestatic 122, 3) := by decide +kernel
theorem dX5_set_119 : decode cX5_set 119 = .ok (.goto 5, 3) := by decide +kernel
theorem dX5_set_122 : decode cX5_set 122 = .ok (.ldc 71, 2) := by decide +kernel
theorem dX5_set_124 : decode cX5_set 124 = .ok (.ireturn, 1) := by decide +kernel
theorem dX5_set_125 : decode cX5_set 125 = .ok (.ldc 71, 2) := by decide +kernel
theorem dX5_set_127 : decode cX5_set 127 = .ok (.ireturn, 1) := by decide +kernel
theorem dX5_deal_0 : decode cX5_deal 0 = .ok (.iload_n 1, 1) := by decide +kernel
theorem dX5_deal_1 : decode cX5_deal 1 = .ok (.iconst 1, 1) := by decide +kernel
theorem dX5_deal_2 : decode cX5_deal 2 = .ok (.bipush 8, 2) := by decide +kernel
theorem dX5_deal_4 : decode cX5_deal 4 = .ok (.invokestatic 67, 3) := by decide +kernel
theorem dX5_deal_7 : decode cX5_deal 7 = .ok (.ifCond .ne 6, 3) := by decide +kernel
theorem dX5_deal_10 : decode cX5_deal 10 = .ok (.ldc 71, 2) := by decide +kernel
theorem dX5_deal_12 : decode cX5_deal 12 = .ok (.ireturn, 1) := by decide +kernel
theorem dX5_deal_13 : decode cX5_deal 13 = .ok (.iload_n 1, 1) := by decide +kernel
theorem dX5_deal_14 : decode cX5_deal 14 = .ok (.bipush 8, 2) := by decide +kernel
theorem dX5_deal_16 : decode cX5_deal 16 = .ok (.aload_n 0, 1) := by decide +kernel
theorem dX5_deal_17 : decode cX5_deal 17 = .ok (.getfield 21, 3) := by decide +kernel
theorem dX5_deal_20 : decode cX5_deal 20 = .ok (.getfield 72, 3) := by decide +kernel
theorem dX5_deal_23 : decode cX5_deal 23 = .ok (.isub, 1) := by decide +kernel
theorem dX5_deal_24 : decode cX5_deal 24 = .ok (.invokestatic 127, 3) := by decide +kernel
theorem dX5_deal_27 : decode cX5_deal 27 = .ok (.istore_n 2, 1) := by decide +kernel
theorem dX5_deal_28 : decode cX5_deal 28 = .ok (.iconst 0, 1) := by decide +kernel
theorem dX5_deal_29 : decode cX5_deal 29 = .ok (.istore_n 3, 1) := by decide +kernel
theorem dX5_deal_30 : decode cX5_deal 30 = .ok (.iload_n 3, 1) := by decide +kernel
theorem dX5_deal_31 : decode cX5_deal 31 = .ok (.iload_n 2, 1) := by decide +kernel
theorem dX5_deal_32 : decode cX5_deal 32 = .ok (.if_icmp .ge 16, 3) := by decide +kernel
theorem dX5_deal_35 : decode cX5_deal 35 = .ok (.aload_n 0, 1) := by decide +kernel
theorem dX5_deal_36 : decode cX5_deal 36 = .ok (.getfield 21, 3) := by decide +kernel
theorem dX5_deal_39 : decode cX5_deal 39 = .ok (.invokevirtual 132, 3) := by decide +kernel
theorem dX5_deal_42 : decode cX5_deal 42 = .ok (.iinc 3 1, 3) := by decide +kernel
theorem dX5_deal_45 : decode cX5_deal 45 = .ok (.goto (-15), 3) := by decide +kernel
theorem dX5_deal_48 : decode cX5_deal 48 = .ok (.iload_n 2, 1) := by decide +kernel
theorem dX5_deal_49 : decode cX5_deal 49 = .ok (.ireturn, 1) := by decide +kernel
theorem dX5_seed_0 : decode cX5_seed 0 = .ok (.aload_n 0, 1) := by decide +kernel
theorem dX5_seed_1 : decode cX5_seed 1 = .ok (.getfield 21, 3) := by decide +kernel
theorem dX5_seed_4 : decode cX5_seed 4 = .ok (.getfield 135, 3) := by decide +kernel
theorem dX5_seed_7 : decode cX5_seed 7 = .ok (.istore_n 2, 1) := by decide +kernel
theorem dX5_seed_8 : decode cX5_seed 8 = .ok (.aload_n 0, 1) := by decide +kernel
theorem dX5_seed_9 : decode cX5_seed 9 = .ok (.getfield 21, 3) := by decide +kernel
theorem dX5_seed_12 : decode cX5_seed 12 = .ok (.iload_n 1, 1) := by decide +kernel
theorem dX5_seed_13 : decode cX5_seed 13 = .ok (.putfield 135, 3) := by decide +kernel
theorem dX5_seed_16 : decode cX5_seed 16 = .ok (.iload_n 2, 1) := by decide +kernel
theorem dX5_seed_17 : decode cX5_seed 17 = .ok (.ireturn, 1) := by decide +kernel
theorem dX5_pot_0 : decode cX5_pot 0 = .ok (.iload_n 1, 1) := by decide +kernel
theorem dX5_pot_1 : decode cX5_pot 1 = .ok (.ifCond .ne 33, 3) := by decide +kernel
theorem dX5_pot_4 : decode cX5_pot 4 = .ok (.iload_n 2, 1) := by decide +kernel
theorem dX5_pot_5 : decode cX5_pot 5 = .ok (.iconst 1, 1) := by decide +kernel
theorem dX5_pot_6 : decode cX5_pot 6 = .ok (.sipush 999, 3) := by decide +kernel
theorem dX5_pot_9 : decode cX5_pot 9 = .ok (.invokestatic 67, 3) := by decide +kernel
theorem dX5_pot_12 : decode cX5_pot 12 = .ok (.ifCond .eq 22, 3) := by decide +kernel
theorem dX5_pot_15 : decode cX5_pot 15 = .ok (.aload_n 0, 1) := by decide +kernel
theorem dX5_pot_16 : decode cX5_pot 16 = .ok (.getfield 21, 3) := by decide +kernel
theorem dX5_pot_19 : decode cX5_pot 19 = .ok (.getfield 138, 3) := by decide +kernel
theorem dX5_pot_22 : decode cX5_pot 22 = .ok (.istore_n 3, 1) := by decide +kernel
theorem dX5_pot_23 : decode cX5_pot 23 = .ok (.aload_n 0, 1) := by decide +kernel
theorem dX5_pot_24 : decode cX5_pot 24 = .ok (.getfield 21, 3) := by decide +kernel
theorem dX5_pot_27 : decode cX5_pot 27 = .ok (.iload_n 2, 1) := by decide +kernel
theorem dX5_pot_28 : decode cX5_pot 28 = .ok (.putfield 138, 3) := by decide +kernel
theorem dX5_pot_31 : decode cX5_pot 31 = .ok (.goto 41, 3) := by decide +kernel
theorem dX5_pot_34 : decode cX5_pot 34 = .ok (.iload_n 1, 1) := by decide +kernel
theorem dX5_pot_35 : decode cX5_pot 35 = .ok (.iconst 1, 1) := by decide +kernel
theorem dX5_pot_36 : decode cX5_pot 36 = .ok (.if_icmp .ne 33, 3) := by decide +kernel
theorem dX5_pot_39 : decode cX5_pot 39 = .ok (.iload_n 2, 1) := by decide +kernel
theorem dX5_pot_40 : decode cX5_pot 40 = .ok (.iconst 0, 1) := by decide +kernel
theorem dX5_pot_41 : decode cX5_pot 41 = .ok (.sipush 999, 3) := by decide +kernel
theorem dX5_pot_44 : decode cX5_pot 44 = .ok (.invokestatic 67, 3) := by decide +kernel
theorem dX5_pot_47 : decode cX5_pot 47 = .ok (.ifCond .eq 22, 3) := by decide +kernel
theorem dX5_pot_50 : decode cX5_pot 50 = .ok (.aload_n 0, 1) := by decide +kernel
theorem dX5_pot_51 : decode cX5_pot 51 = .ok (.getfield 21, 3) := by decide +kernel
theorem dX5_pot_54 : decode cX5_pot 54 = .ok (.getfield 141, 3) := by decide +kernel
theorem dX5_pot_57 : decode cX5_pot 57 = .ok (.istore_n 3, 1) := by decide +kernel
theorem dX5_pot_58 : decode cX5_pot 58 = .ok (.aload_n 0, 1) := by decide +kernel
theorem dX5_pot_59 : decode cX5_pot 59 = .ok (.getfield 21, 3) := by decide +kernel
theorem dX5_pot_62 : decode cX5_pot 62 = .ok (.iload_n 2, 1) := by decide +kernel
theorem dX5_pot_63 : decode cX5_pot 63 = .ok (.putfield 141, 3) := by decide +kernel
theorem dX5_pot_66 : decode cX5_pot 66 = .ok (.goto 6, 3) := by decide +kernel
theorem dX5_pot_69 : decode cX5_pot 69 = .ok (.ldc 71, 2) := by decide +kernel
theorem dX5_pot_71 : decode cX5_pot 71 = .ok (.istore_n 3, 1) := by decide +kernel
theorem dX5_pot_72 : decode cX5_pot 72 = .ok (.iload_n 3, 1) := by decide +kernel
theorem dX5_pot_73 : decode cX5_pot 73 = .ok (.ireturn, 1) := by decide +kernel
theorem dX5_days_0 : decode cX5_days 0 = .ok (.iload_n 1, 1) := by decide +kernel
theorem dX5_days_1 : decode cX5_days 1 = .ok (.iconst 1, 1) := by decide +kernel
theorem dX5_days_2 : decode cX5_days 2 = .ok (.sipush 300, 3) := by decide +kernel
theorem dX5_days_5 : decode cX5_days 5 = .ok (.invokestatic 67, 3) := by decide +kernel
theorem dX5_days_8 : decode cX5_days 8 = .ok (.ifCond .ne 6, 3) := by decide +kernel
theorem dX5_days_11 : decode cX5_days 11 = .ok (.ldc 71, 2) := by decide +kernel
theorem dX5_days_13 : decode cX5_days 13 = .ok (.ireturn, 1) := by decide +kernel
theorem dX5_days_14 : decode cX5_days 14 = .ok (.aload_n 0, 1) := by decide +kernel
theorem dX5_days_15 : decode cX5_days 15 = .ok (.getfield 21, 3) := by decide +kernel
theorem dX5_days_18 : decode cX5_days 18 = .ok (.iload_n 1, 1) := by decide +kernel
theorem dX5_days_19 : decode cX5_days 19 = .ok (.sipush 9999, 3) := by decide +kernel
theorem dX5_days_22 : decode cX5_days 22 = .ok (.aload_n 0, 1) := by decide +kernel
theorem dX5_days_23 : decode cX5_days 23 = .ok (.getfield 21, 3) := by decide +kernel
theorem dX5_days_26 : decode cX5_days 26 = .ok (.getfield 144, 3) := by decide +kernel
theorem dX5_days_29 : decode cX5_days 29 = .ok (.isub, 1) := by decide +kernel
theorem dX5_days_30 : decode cX5_days 30 = .ok (.invokestatic 127, 3) := by decide +kernel
theorem dX5_days_33 : decode cX5_days 33 = .ok (.invokevirtual 147, 3) := by decide +kernel
theorem dX5_days_36 : decode cX5_days 36 = .ok (.aload_n 0, 1) := by decide +kernel
theorem dX5_days_37 : decode cX5_days 37 = .ok (.getfield 21, 3) := by decide +kernel
theorem dX5_days_40 : decode cX5_days 40 = .ok (.invokevirtual 151, 3) := by decide +kernel
theorem dX5_days_43 : decode cX5_days 43 = .ok (.ireturn, 1) := by decide +kernel
theorem dX5_taste_0 : decode cX5_taste 0 = .ok (.aload_n 0, 1) := by decide +kernel
theorem dX5_taste_1 : decode cX5_taste 1 = .ok (.getfield 21, 3) := by decide +kernel
theorem dX5_taste_4 : decode cX5_taste 4 = .ok (.invokevirtual 151, 3) := by decide +kernel
theorem dX5_taste_7 : decode cX5_taste 7 = .ok (.ireturn, 1) := by decide +kernel
theorem dX5_grams_0 : decode cX5_grams 0 = .ok (.iload_n 1, 1) := by decide +kernel
theorem dX5_grams_1 : decode cX5_grams 1 = .ok (.tableswitch 51 0 2 #[27, 35, 43], 27) := by decide +kernel
theorem dX5_grams_28 : decode cX5_grams 28 = .ok (.aload_n 0, 1) := by decide +kernel
theorem dX5_grams_29 : decode cX5_grams 29 = .ok (.getfield 21, 3) := by decide +kernel
theorem dX5_grams_32 : decode cX5_grams 32 = .ok (.getfield 155, 3) := by decide +kernel
theorem dX5_grams_35 : decode cX5_grams 35 = .ok (.ireturn, 1) := by decide +kernel
theorem dX5_grams_36 : decode cX5_grams 36 = .ok (.aload_n 0, 1) := by decide +kernel
theorem dX5_grams_37 : decode cX5_grams 37 = .ok (.getfield 21, 3) := by decide +kernel
theorem dX5_grams_40 : decode cX5_grams 40 = .ok (.getfield 158, 3) := by decide +kernel
theorem dX5_grams_43 : decode cX5_grams 43 = .ok (.ireturn, 1) := by decide +kernel
theorem dX5_grams_44 : decode cX5_grams 44 = .ok (.aload_n 0, 1) := by decide +kernel
theorem dX5_grams_45 : decode cX5_grams 45 = .ok (.getfield 21, 3) := by decide +kernel
theorem dX5_grams_48 : decode cX5_grams 48 = .ok (.invokevirtual 161, 3) := by decide +kernel
theorem dX5_grams_51 : decode cX5_grams 51 = .ok (.ireturn, 1) := by decide +kernel
theorem dX5_grams_52 : decode cX5_grams 52 = .ok (.ldc 71, 2) := by decide +kernel
theorem dX5_grams_54 : decode cX5_grams 54 = .ok (.ireturn, 1) := by decide +kernel
theorem dX5_lot_0 : decode cX5_lot 0 = .ok (.aload_n 0, 1) := by decide +kernel
theorem dX5_lot_1 : decode cX5_lot 1 = .ok (.getfield 21, 3) := by decide +kernel
theorem dX5_lot_4 : decode cX5_lot 4 = .ok (.getfield 164, 3) := by decide +kernel
theorem dX5_lot_7 : decode cX5_lot 7 = .ok (.iconst 2, 1) := by decide +kernel
theorem dX5_lot_8 : decode cX5_lot 8 = .ok (.iaload, 1) := by decide +kernel
theorem dX5_lot_9 : decode cX5_lot 9 = .ok (.istore_n 1, 1) := by decide +kernel
theorem dX5_lot_10 : decode cX5_lot 10 = .ok (.iload_n 1, 1) := by decide +kernel
theorem dX5_lot_11 : decode cX5_lot 11 = .ok (.ifCond .ge 7, 3) := by decide +kernel
theorem dX5_lot_14 : decode cX5_lot 14 = .ok (.iconst 0, 1) := by decide +kernel
theorem dX5_lot_15 : decode cX5_lot 15 = .ok (.goto 26, 3) := by decide +kernel
theorem dX5_lot_18 : decode cX5_lot 18 = .ok (.aload_n 0, 1) := by decide +kernel
theorem dX5_lot_19 : decode cX5_lot 19 = .ok (.getfield 10, 3) := by decide +kernel
theorem dX5_lot_22 : decode cX5_lot 22 = .ok (.iload_n 1, 1) := by decide +kernel
theorem dX5_lot_23 : decode cX5_lot 23 = .ok (.aload_n 0, 1) := by decide +kernel
theorem dX5_lot_24 : decode cX5_lot 24 = .ok (.getfield 21, 3) := by decide +kernel
theorem dX5_lot_27 : decode cX5_lot 27 = .ok (.getfield 144, 3) := by decide +kernel
theorem dX5_lot_30 : decode cX5_lot 30 = .ok (.aload_n 0, 1) := by decide +kernel
theorem dX5_lot_31 : decode cX5_lot 31 = .ok (.getfield 21, 3) := by decide +kernel
theorem dX5_lot_34 : decode cX5_lot 34 = .ok (.invokevirtual 151, 3) := by decide +kernel
theorem dX5_lot_37 : decode cX5_lot 37 = .ok (.iconst 0, 1) := by decide +kernel
theorem dX5_lot_38 : decode cX5_lot 38 = .ok (.invokevirtual 167, 3) := by decide +kernel
theorem dX5_lot_41 : decode cX5_lot 41 = .ok (.ireturn, 1) := by decide +kernel
theorem dX5_behind_0 : decode cX5_behind 0 = .ok (.aload_n 0, 1) := by decide +kernel
theorem dX5_behind_1 : decode cX5_behind 1 = .ok (.getfield 21, 3) := by decide +kernel
theorem dX5_behind_4 : decode cX5_behind 4 = .ok (.iload_n 1, 1) := by decide +kernel
theorem dX5_behind_5 : decode cX5_behind 5 = .ok (.invokevirtual 80, 3) := by decide +kernel
theorem dX5_behind_8 : decode cX5_behind 8 = .ok (.ifCond .eq 23, 3) := by decide +kernel
theorem dX5_behind_11 : decode cX5_behind 11 = .ok (.iload_n 2, 1) := by decide +kernel
theorem dX5_behind_12 : decode cX5_behind 12 = .ok (.iconst 0, 1) := by decide +kernel
theorem dX5_behind_13 : decode cX5_behind 13 = .ok (.sipush 300, 3) := by decide +kernel
theorem dX5_behind_16 : decode cX5_behind 16 = .ok (.invokestatic 67, 3) := by decide +kernel
theorem dX5_behind_19 : decode cX5_behind 19 = .ok (.ifCond .eq 12, 3) := by decide +kernel
theorem dX5_behind_22 : decode cX5_behind 22 = .ok (.iload_n 3, 1) := by decide +kernel
theorem dX5_behind_23 : decode cX5_behind 23 = .ok (.iconst 0, 1) := by decide +kernel
theorem dX5_behind_24 : decode cX5_behind 24 = .ok (.iconst 3, 1) := by decide +kernel
theorem dX5_behind_25 : decode cX5_behind 25 = .ok (.invokestatic 67, 3) := by decide +kernel
theorem dX5_behind_28 : decode cX5_behind 28 = .ok (.ifCond .ne 6, 3) := by decide +kernel
theorem dX5_behind_31 : decode cX5_behind 31 = .ok (.ldc 71, 2) := by decide +kernel
theorem dX5_behind_33 : decode cX5_behind 33 = .ok (.ireturn, 1) := by decide +kernel
theorem dX5_behind_34 : decode cX5_behind 34 = .ok (.aload_n 0, 1) := by decide +kernel
theorem dX5_behind_35 : decode cX5_behind 35 = .ok (.getfield 28, 3) := by decide +kernel
theorem dX5_behind_38 : decode cX5_behind 38 = .ok (.aload_n 0, 1) := by decide +kernel
theorem dX5_behind_39 : decode cX5_behind 39 = .ok (.getfield 21, 3) := by decide +kernel
theorem dX5_behind_42 : decode cX5_behind 42 = .ok (.invokevirtual 171, 3) := by decide +kernel
theorem dX5_behind_45 : decode cX5_behind 45 = .ok (.aload_n 0, 1) := by decide +kernel
theorem dX5_behind_46 : decode cX5_behind 46 = .ok (.getfield 28, 3) := by decide +kernel
theorem dX5_behind_49 : decode cX5_behind 49 = .ok (.iload_n 2, 1) := by decide +kernel
theorem dX5_behind_50 : decode cX5_behind 50 = .ok (.invokevirtual 147, 3) := by decide +kernel
theorem dX5_behind_53 : decode cX5_behind 53 = .ok (.iload_n 3, 1) := by decide +kernel
theorem dX5_behind_54 : decode cX5_behind 54 = .ok (.tableswitch 53 0 2 #[26, 36, 45], 26) := by decide +kernel
theorem dX5_behind_80 : decode cX5_behind 80 = .ok (.aload_n 0, 1) := by decide +kernel
theorem dX5_behind_81 : decode cX5_behind 81 = .ok (.getfield 28, 3) := by decide +kernel
theorem dX5_behind_84 : decode cX5_behind 84 = .ok (.getfield 88, 3) := by decide +kernel
theorem dX5_behind_87 : decode cX5_behind 87 = .ok (.iload_n 1, 1) := by decide +kernel
theorem dX5_behind_88 : decode cX5_behind 88 = .ok (.iaload, 1) := by decide +kernel
theorem dX5_behind_89 : decode cX5_behind 89 = .ok (.ireturn, 1) := by decide +kernel
theorem dX5_behind_90 : decode cX5_behind 90 = .ok (.aload_n 0, 1) := by decide +kernel
theorem dX5_behind_91 : decode cX5_behind 91 = .ok (.getfield 28, 3) := by decide +kernel
theorem dX5_behind_94 : decode cX5_behind 94 = .ok (.iload_n 1, 1) := by decide +kernel
theorem dX5_behind_95 : decode cX5_behind 95 = .ok (.invokevirtual 100, 3) := by decide +kernel
theorem dX5_behind_98 : decode cX5_behind 98 = .ok (.ireturn, 1) := by decide +kernel
theorem dX5_behind_99 : decode cX5_behind 99 = .ok (.aload_n 0, 1) := by decide +kernel
theorem dX5_behind_100 : decode cX5_behind 100 = .ok (.getfield 28, 3) := by decide +kernel
theorem dX5_behind_103 : decode cX5_behind 103 = .ok (.invokevirtual 151, 3) := by decide +kernel
theorem dX5_behind_106 : decode cX5_behind 106 = .ok (.ireturn, 1) := by decide +kernel
theorem dX5_behind_107 : decode cX5_behind 107 = .ok (.aload_n 0, 1) := by decide +kernel
theorem dX5_behind_108 : decode cX5_behind 108 = .ok (.getfield 28, 3) := by decide +kernel
theorem dX5_behind_111 : decode cX5_behind 111 = .ok (.getfield 155, 3) := by decide +kernel
theorem dX5_behind_114 : decode cX5_behind 114 = .ok (.ireturn, 1) := by decide +kernel
theorem dX5_tasted_0 : decode cX5_tasted 0 = .ok (.aload_n 0, 1) := by decide +kernel
theorem dX5_tasted_1 : decode cX5_tasted 1 = .ok (.getfield 21, 3) := by decide +kernel
theorem dX5_tasted_4 : decode cX5_tasted 4 = .ok (.iload_n 1, 1) := by decide +kernel
theorem dX5_tasted_5 : decode cX5_tasted 5 = .ok (.invokevirtual 80, 3) := by decide +kernel
theorem dX5_tasted_8 : decode cX5_tasted 8 = .ok (.ifCond .ne 6, 3) := by decide +kernel
theorem dX5_tasted_11 : decode cX5_tasted 11 = .ok (.ldc 71, 2) := by decide +kernel
theorem dX5_tasted_13 : decode cX5_tasted 13 = .ok (.ireturn, 1) := by decide +kernel
theorem dX5_tasted_14 : decode cX5_tasted 14 = .ok (.aload_n 0, 1) := by decide +kernel
theorem dX5_tasted_15 : decode cX5_tasted 15 = .ok (.getfield 28, 3) := by decide +kernel
theorem dX5_tasted_18 : decode cX5_tasted 18 = .ok (.aload_n 0, 1) := by decide +kernel
theorem dX5_tasted_19 : decode cX5_tasted 19 = .ok (.getfield 21, 3) := by decide +kernel
theorem dX5_tasted_22 : decode cX5_tasted 22 = .ok (.invokevirtual 171, 3) := by decide +kernel
theorem dX5_tasted_25 : decode cX5_tasted 25 = .ok (.iconst 0, 1) := by decide +kernel
theorem dX5_tasted_26 : decode cX5_tasted 26 = .ok (.istore_n 2, 1) := by decide +kernel
theorem dX5_tasted_27 : decode cX5_tasted 27 = .ok (.iload_n 2, 1) := by decide +kernel
theorem dX5_tasted_28 : decode cX5_tasted 28 = .ok (.sipush 300, 3) := by decide +kernel
theorem dX5_tasted_31 : decode cX5_tasted 31 = .ok (.if_icmp .gt 30, 3) := by decide +kernel
theorem dX5_tasted_34 : decode cX5_tasted 34 = .ok (.aload_n 0, 1) := by decide +kernel
theorem dX5_tasted_35 : decode cX5_tasted 35 = .ok (.getfield 28, 3) := by decide +kernel
theorem dX5_tasted_38 : decode cX5_tasted 38 = .ok (.iload_n 1, 1) := by decide +kernel
theorem dX5_tasted_39 : decode cX5_tasted 39 = .ok (.invokevirtual 100, 3) := by decide +kernel
theorem dX5_tasted_42 : decode cX5_tasted 42 = .ok (.ifCond .ne 5, 3) := by decide +kernel
theorem dX5_tasted_45 : decode cX5_tasted 45 = .ok (.iload_n 2, 1) := by decide +kernel
theorem dX5_tasted_46 : decode cX5_tasted 46 = .ok (.ireturn, 1) := by decide +kernel
theorem dX5_tasted_47 : decode cX5_tasted 47 = .ok (.aload_n 0, 1) := by decide +kernel
theorem dX5_tasted_48 : decode cX5_tasted 48 = .ok (.getfield 28, 3) := by decide +kernel
theorem dX5_tasted_51 : decode cX5_tasted 51 = .ok (.iload_n 1, 1) := by decide +kernel
theorem dX5_tasted_52 : decode cX5_tasted 52 = .ok (.invokevirtual 175, 3) := by decide +kernel
theorem dX5_tasted_55 : decode cX5_tasted 55 = .ok (.iinc 2 1, 3) := by decide +kernel
theorem dX5_tasted_58 : decode cX5_tasted 58 = .ok (.goto (-31), 3) := by decide +kernel
theorem dX5_tasted_61 : decode cX5_tasted 61 = .ok (.ldc 178, 2) := by decide +kernel
theorem dX5_tasted_63 : decode cX5_tasted 63 = .ok (.ireturn, 1) := by decide +kernel
theorem dX5_steer_0 : decode cX5_steer 0 = .ok (.iload_n 1, 1) := by decide +kernel
theorem dX5_steer_1 : decode cX5_steer 1 = .ok (.iconst 0, 1) := by decide +kernel
theorem dX5_steer_2 : decode cX5_steer 2 = .ok (.ldc 126, 2) := by decide +kernel
theorem dX5_steer_4 : decode cX5_steer 4 = .ok (.invokestatic 67, 3) := by decide +kernel
theorem dX5_steer_7 : decode cX5_steer 7 = .ok (.ifCond .eq 22, 3) := by decide +kernel
theorem dX5_steer_10 : decode cX5_steer 10 = .ok (.iload_n 2, 1) := by decide +kernel
theorem dX5_steer_11 : decode cX5_steer 11 = .ok (.iconst 0, 1) := by decide +kernel
theorem dX5_steer_12 : decode cX5_steer 12 = .ok (.bipush 30, 2) := by decide +kernel
theorem dX5_steer_14 : decode cX5_steer 14 = .ok (.invokestatic 67, 3) := by decide +kernel
theorem dX5_steer_17 : decode cX5_steer 17 = .ok (.ifCond .eq 12, 3) := by decide +kernel
theorem dX5_steer_20 : decode cX5_steer 20 = .ok (.iload_n 3, 1) := by decide +kernel
theorem dX5_steer_21 : decode cX5_steer 21 = .ok (.iconst 0, 1) := by decide +kernel
theorem dX5_steer_22 : decode cX5_steer 22 = .ok (.iconst 2, 1) := by decide +kernel
theorem dX5_steer_23 : decode cX5_steer 23 = .ok (.invokestatic 67, 3) := by decide +kernel
theorem dX5_steer_26 : decode cX5_steer 26 = .ok (.ifCond .ne 6, 3) := by decide +kernel
theorem dX5_steer_29 : decode cX5_steer 29 = .ok (.ldc 71, 2) := by decide +kernel
theorem dX5_steer_31 : decode cX5_steer 31 = .ok (.ireturn, 1) := by decide +kernel
theorem dX5_steer_32 : decode cX5_steer 32 = .ok (.aload_n 0, 1) := by decide +kernel
theorem dX5_steer_33 : decode cX5_steer 33 = .ok (.getfield 21, 3) := by decide +kernel
theorem dX5_steer_36 : decode cX5_steer 36 = .ok (.getfield 72, 3) := by decide +kernel
theorem dX5_steer_39 : decode cX5_steer 39 = .ok (.ifCond .ne 6, 3) := by decide +kernel
theorem dX5_steer_42 : decode cX5_steer 42 = .ok (.ldc 178, 2) := by decide +kernel
theorem dX5_steer_44 : decode cX5_steer 44 = .ok (.ireturn, 1) := by decide +kernel
theorem dX5_steer_45 : decode cX5_steer 45 = .ok (.aload_n 0, 1) := by decide +kernel
theorem dX5_steer_46 : decode cX5_steer 46 = .ok (.getfield 28, 3) := by decide +kernel
theorem dX5_steer_49 : decode cX5_steer 49 = .ok (.aload_n 0, 1) := by decide +kernel
theorem dX5_steer_50 : decode cX5_steer 50 = .ok (.getfield 21, 3) := by decide +kernel
theorem dX5_steer_53 : decode cX5_steer 53 = .ok (.invokevirtual 171, 3) := by decide +kernel
theorem dX5_steer_56 : decode cX5_steer 56 = .ok (.aload_n 0, 1) := by decide +kernel
theorem dX5_steer_57 : decode cX5_steer 57 = .ok (.getfield 28, 3) := by decide +kernel
theorem dX5_steer_60 : decode cX5_steer 60 = .ok (.iload_n 2, 1) := by decide +kernel
theorem dX5_steer_61 : decode cX5_steer 61 = .ok (.invokevirtual 147, 3) := by decide +kernel
theorem dX5_steer_64 : decode cX5_steer 64 = .ok (.aload_n 0, 1) := by decide +kernel
theorem dX5_steer_65 : decode cX5_steer 65 = .ok (.getfield 31, 3) := by decide +kernel
theorem dX5_steer_68 : decode cX5_steer 68 = .ok (.aload_n 0, 1) := by decide +kernel
theorem dX5_steer_69 : decode cX5_steer 69 = .ok (.getfield 21, 3) := by decide +kernel
theorem dX5_steer_72 : decode cX5_steer 72 = .ok (.invokevirtual 171, 3) := by decide +kernel
theorem dX5_steer_75 : decode cX5_steer 75 = .ok (.aload_n 0, 1) := by decide +kernel
theorem dX5_steer_76 : decode cX5_steer 76 = .ok (.getfield 28, 3) := by decide +kernel
theorem dX5_steer_79 : decode cX5_steer 79 = .ok (.invokevirtual 151, 3) := by decide +kernel
theorem dX5_steer_82 : decode cX5_steer 82 = .ok (.istore 4, 2) := by decide +kernel
theorem dX5_steer_84 : decode cX5_steer 84 = .ok (.iconst 0, 1) := by decide +kernel
theorem dX5_steer_85 : decode cX5_steer 85 = .ok (.istore 5, 2) := by decide +kernel
theorem dX5_steer_87 : decode cX5_steer 87 = .ok (.iconst 0, 1) := by decide +kernel
theorem dX5_steer_88 : decode cX5_steer 88 = .ok (.istore 6, 2) := by decide +kernel
theorem dX5_steer_90 : decode cX5_steer 90 = .ok (.iload 4, 2) := by decide +kernel
theorem dX5_steer_92 : decode cX5_steer 92 = .ok (.istore 7, 2) := by decide +kernel
theorem dX5_steer_94 : decode cX5_steer 94 = .ok (.iconst 0, 1) := by decide +kernel
theorem dX5_steer_95 : decode cX5_steer 95 = .ok (.istore 8, 2) := by decide +kernel
theorem dX5_steer_97 : decode cX5_steer 97 = .ok (.iload 8, 2) := by decide +kernel
theorem dX5_steer_99 : decode cX5_steer 99 = .ok (.aload_n 0, 1) := by decide +kernel
theorem dX5_steer_100 : decode cX5_steer 100 = .ok (.getfield 21, 3) := by decide +kernel
theorem dX5_steer_103 : decode cX5_steer 103 = .ok (.getfield 72, 3) := by decide +kernel
theorem dX5_steer_106 : decode cX5_steer 106 = .ok (.if_icmp .ge 83, 3) := by decide +kernel
theorem dX5_steer_109 : decode cX5_steer 109 = .ok (.iload 4, 2) := by decide +kernel
theorem dX5_steer_111 : decode cX5_steer 111 = .ok (.aload_n 0, 1) := by decide +kernel
theorem dX5_steer_112 : decode cX5_steer 112 = .ok (.getfield 28, 3) := by decide +kernel
theorem dX5_steer_115 : decode cX5_steer 115 = .ok (.iload 8, 2) := by decide +kernel
theorem dX5_steer_117 : decode cX5_steer 117 = .ok (.invokevirtual 100, 3) := by decide +kernel
theorem dX5_steer_120 : decode cX5_steer 120 = .ok (.isub, 1) := by decide +kernel
theorem dX5_steer_121 : decode cX5_steer 121 = .ok (.istore 9, 2) := by decide +kernel
theorem dX5_steer_123 : decode cX5_steer 123 = .ok (.iconst 0, 1) := by decide +kernel
theorem dX5_steer_124 : decode cX5_steer 124 = .ok (.istore 10, 2) := by decide +kernel
theorem dX5_steer_126 : decode cX5_steer 126 = .ok (.iload 10, 2) := by decide +kernel
theorem dX5_steer_128 : decode cX5_steer 128 = .ok (.sipush 1000, 3) := by decide +kernel
theorem dX5_steer_131 : decode cX5_steer 131 = .ok (.if_icmp .gt 52, 3) := by decide +kernel
theorem dX5_steer_134 : decode cX5_steer 134 = .ok (.iload 9, 2) := by decide +kernel
theorem dX5_steer_136 : decode cX5_steer 136 = .ok (.aload_n 0, 1) := by decide +kernel
theorem dX5_steer_137 : decode cX5_steer 137 = .ok (.iload 8, 2) := by decide +kernel
theorem dX5_steer_139 : decode cX5_steer 139 = .ok (.iload 10, 2) := by decide +kernel
theorem dX5_steer_141 : decode cX5_steer 141 = .ok (.iload_n 2, 1) := by decide +kernel
theorem dX5_steer_142 : decode cX5_steer 142 = .ok (.invokevirtual 179, 3) := by decide +kernel
theorem dX5_steer_145 : decode cX5_steer 145 = .ok (.iadd, 1) := by decide +kernel
theorem dX5_steer_146 : decode cX5_steer 146 = .ok (.istore 11, 2) := by decide +kernel
theorem dX5_steer_148 : decode cX5_steer 148 = .ok (.iload 11, 2) := by decide +kernel
theorem dX5_steer_150 : decode cX5_steer 150 = .ok (.iload_n 1, 1) := by decide +kernel
theorem dX5_steer_151 : decode cX5_steer 151 = .ok (.isub, 1) := by decide +kernel
theorem dX5_steer_152 : decode cX5_steer 152 = .ok (.invokestatic 182, 3) := by decide +kernel
theorem dX5_steer_155 : decode cX5_steer 155 = .ok (.iload 7, 2) := by decide +kernel
theorem dX5_steer_157 : decode cX5_steer 157 = .ok (.iload_n 1, 1) := by decide +kernel
theorem dX5_steer_158 : decode cX5_steer 158 = .ok (.isub, 1) := by decide +kernel
theorem dX5_steer_159 : decode cX5_steer 159 = .ok (.invokestatic 182, 3) := by decide +kernel
theorem dX5_steer_162 : decode cX5_steer 162 = .ok (.if_icmp .ge 15, 3) := by decide +kernel
theorem dX5_steer_165 : decode cX5_steer 165 = .ok (.iload 8, 2) := by decide +kernel
theorem dX5_steer_167 : decode cX5_steer 167 = .ok (.istore 5, 2) := by decide +kernel
theorem dX5_steer_169 : decode cX5_steer 169 = .ok (.iload 10, 2) := by decide +kernel
theorem dX5_steer_171 : decode cX5_steer 171 = .ok (.istore 6, 2) := by decide +kernel
theorem dX5_steer_173 : decode cX5_steer 173 = .ok (.iload 11, 2) := by decide +kernel
theorem dX5_steer_175 : decode cX5_steer 175 = .ok (.istore 7, 2) := by decide +kernel
theorem dX5_steer_177 : decode cX5_steer 177 = .ok (.iinc 10 50, 3) := by decide +kernel
theorem dX5_steer_180 : decode cX5_steer 180 = .ok (.goto (-54), 3) := by decide +kernel
theorem dX5_steer_183 : decode cX5_steer 183 = .ok (.iinc 8 1, 3) := by decide +kernel
theorem dX5_steer_186 : decode cX5_steer 186 = .ok (.goto (-89), 3) := by decide +kernel
theorem dX5_steer_189 : decode cX5_steer 189 = .ok (.iload_n 3, 1) := by decide +kernel
theorem dX5_steer_190 : decode cX5_steer 190 = .ok (.ifCond .ne 8, 3) := by decide +kernel
theorem dX5_steer_193 : decode cX5_steer 193 = .ok (.iload 5, 2) := by decide +kernel
theorem dX5_steer_195 : decode cX5_steer 195 = .ok (.goto 15, 3) := by decide +kernel
theorem dX5_steer_198 : decode cX5_steer 198 = .ok (.iload_n 3, 1) := by decide +kernel
theorem dX5_steer_199 : decode cX5_steer 199 = .ok (.iconst 1, 1) := by decide +kernel
theorem dX5_steer_200 : decode cX5_steer 200 = .ok (.if_icmp .ne 8, 3) := by decide +kernel
theorem dX5_steer_203 : decode cX5_steer 203 = .ok (.iload 6, 2) := by decide +kernel
theorem dX5_steer_205 : decode cX5_steer 205 = .ok (.goto 5, 3) := by decide +kernel
theorem dX5_steer_208 : decode cX5_steer 208 = .ok (.iload 7, 2) := by decide +kernel
theorem dX5_steer_210 : decode cX5_steer 210 = .ok (.ireturn, 1) := by decide +kernel
theorem dX5_tasteTried_0 : decode cX5_tasteTried 0 = .ok (.aload_n 0, 1) := by decide +kernel
theorem dX5_tasteTried_1 : decode cX5_tasteTried 1 = .ok (.getfield 31, 3) := by decide +kernel
theorem dX5_tasteTried_4 : decode cX5_tasteTried 4 = .ok (.aload_n 0, 1) := by decide +kernel
theorem dX5_tasteTried_5 : decode cX5_tasteTried 5 = .ok (.getfield 21, 3) := by decide +kernel
theorem dX5_tasteTried_8 : decode cX5_tasteTried 8 = .ok (.iload_n 1, 1) := by decide +kernel
theorem dX5_tasteTried_9 : decode cX5_tasteTried 9 = .ok (.invokevirtual 185, 3) := by decide +kernel
theorem dX5_tasteTried_12 : decode cX5_tasteTried 12 = .ok (.aload_n 0, 1) := by decide +kernel
theorem dX5_tasteTried_13 : decode cX5_tasteTried 13 = .ok (.getfield 31, 3) := by decide +kernel
theorem dX5_tasteTried_16 : decode cX5_tasteTried 16 = .ok (.iload_n 1, 1) := by decide +kernel
theorem dX5_tasteTried_17 : decode cX5_tasteTried 17 = .ok (.iload_n 2, 1) := by decide +kernel
theorem dX5_tasteTried_18 : decode cX5_tasteTried 18 = .ok (.invokevirtual 84, 3) := by decide +kernel
theorem dX5_tasteTried_21 : decode cX5_tasteTried 21 = .ok (.aload_n 0, 1) := by decide +kernel
theorem dX5_tasteTried_22 : decode cX5_tasteTried 22 = .ok (.getfield 31, 3) := by decide +kernel
theorem dX5_tasteTried_25 : decode cX5_tasteTried 25 = .ok (.iload_n 1, 1) := by decide +kernel
theorem dX5_tasteTried_26 : decode cX5_tasteTried 26 = .ok (.iload_n 3, 1) := by decide +kernel
theorem dX5_tasteTried_27 : decode cX5_tasteTried 27 = .ok (.invokevirtual 189, 3) := by decide +kernel
theorem dX5_tasteTried_30 : decode cX5_tasteTried 30 = .ok (.aload_n 0, 1) := by decide +kernel
theorem dX5_tasteTried_31 : decode cX5_tasteTried 31 = .ok (.getfield 31, 3) := by decide +kernel
theorem dX5_tasteTried_34 : decode cX5_tasteTried 34 = .ok (.iload_n 1, 1) := by decide +kernel
theorem dX5_tasteTried_35 : decode cX5_tasteTried 35 = .ok (.invokevirtual 100, 3) := by decide +kernel
theorem dX5_tasteTried_38 : decode cX5_tasteTried 38 = .ok (.ireturn, 1) := by decide +kernel
theorem dX5_leastPot_0 : decode cX5_leastPot 0 = .ok (.aload_n 0, 1) := by decide +kernel
theorem dX5_leastPot_1 : decode cX5_leastPot 1 = .ok (.getfield 21, 3) := by decide +kernel
theorem dX5_leastPot_4 : decode cX5_leastPot 4 = .ok (.iload_n 1, 1) := by decide +kernel
theorem dX5_leastPot_5 : decode cX5_leastPot 5 = .ok (.invokevirtual 80, 3) := by decide +kernel
theorem dX5_leastPot_8 : decode cX5_leastPot 8 = .ok (.ifCond .eq 23, 3) := by decide +kernel
theorem dX5_leastPot_11 : decode cX5_leastPot 11 = .ok (.iload_n 2, 1) := by decide +kernel
theorem dX5_leastPot_12 : decode cX5_leastPot 12 = .ok (.iconst 0, 1) := by decide +kernel
theorem dX5_leastPot_13 : decode cX5_leastPot 13 = .ok (.ldc 126, 2) := by decide +kernel
theorem dX5_leastPot_15 : decode cX5_leastPot 15 = .ok (.invokestatic 67, 3) := by decide +kernel
theorem dX5_leastPot_18 : decode cX5_leastPot 18 = .ok (.ifCond .eq 13, 3) := by decide +kernel
theorem dX5_leastPot_21 : decode cX5_leastPot 21 = .ok (.iload_n 3, 1) := by decide +kernel
theorem dX5_leastPot_22 : decode cX5_leastPot 22 = .ok (.iconst 0, 1) := by decide +kernel
theorem dX5_leastPot_23 : decode cX5_leastPot 23 = .ok (.bipush 60, 2) := by decide +kernel
theorem dX5_leastPot_25 : decode cX5_leastPot 25 = .ok (.invokestatic 67, 3) := by decide +kernel
theorem dX5_leastPot_28 : decode cX5_leastPot 28 = .ok (.ifCond .ne 6, 3) := by decide +kernel
theorem dX5_leastPot_31 : decode cX5_leastPot 31 = .ok (.ldc 71, 2) := by decide +kernel
theorem dX5_leastPot_33 : decode cX5_leastPot 33 = .ok (.ireturn, 1) := by decide +kernel
theorem dX5_leastPot_34 : decode cX5_leastPot 34 = .ok (.aload_n 0, 1) := by decide +kernel
theorem dX5_leastPot_35 : decode cX5_leastPot 35 = .ok (.getfield 28, 3) := by decide +kernel
theorem dX5_leastPot_38 : decode cX5_leastPot 38 = .ok (.aload_n 0, 1) := by decide +kernel
theorem dX5_leastPot_39 : decode cX5_leastPot 39 = .ok (.getfield 21, 3) := by decide +kernel
theorem dX5_leastPot_42 : decode cX5_leastPot 42 = .ok (.invokevirtual 171, 3) := by decide +kernel
theorem dX5_leastPot_45 : decode cX5_leastPot 45 = .ok (.bipush 10, 2) := by decide +kernel
theorem dX5_leastPot_47 : decode cX5_leastPot 47 = .ok (.istore 4, 2) := by decide +kernel
theorem dX5_leastPot_49 : decode cX5_leastPot 49 = .ok (.iload 4, 2) := by decide +kernel
theorem dX5_leastPot_51 : decode cX5_leastPot 51 = .ok (.sipush 990, 3) := by decide +kernel
theorem dX5_leastPot_54 : decode cX5_leastPot 54 = .ok (.if_icmp .gt 55, 3) := by decide +kernel
theorem dX5_leastPot_57 : decode cX5_leastPot 57 = .ok (.aload_n 0, 1) := by decide +kernel
theorem dX5_leastPot_58 : decode cX5_leastPot 58 = .ok (.getfield 28, 3) := by decide +kernel
theorem dX5_leastPot_61 : decode cX5_leastPot 61 = .ok (.aload_n 0, 1) := by decide +kernel
theorem dX5_leastPot_62 : decode cX5_leastPot 62 = .ok (.getfield 21, 3) := by decide +kernel
theorem dX5_leastPot_65 : decode cX5_leastPot 65 = .ok (.iload_n 1, 1) := by decide +kernel
theorem dX5_leastPot_66 : decode cX5_leastPot 66 = .ok (.invokevirtual 185, 3) := by decide +kernel
theorem dX5_leastPot_69 : decode cX5_leastPot 69 = .ok (.aload_n 0, 1) := by decide +kernel
theorem dX5_leastPot_70 : decode cX5_leastPot 70 = .ok (.getfield 28, 3) := by decide +kernel
theorem dX5_leastPot_73 : decode cX5_leastPot 73 = .ok (.iload 4, 2) := by decide +kernel
theorem dX5_leastPot_75 : decode cX5_leastPot 75 = .ok (.putfield 138, 3) := by decide +kernel
theorem dX5_leastPot_78 : decode cX5_leastPot 78 = .ok (.aload_n 0, 1) := by decide +kernel
theorem dX5_leastPot_79 : decode cX5_leastPot 79 = .ok (.getfield 28, 3) := by decide +kernel
theorem dX5_leastPot_82 : decode cX5_leastPot 82 = .ok (.iload_n 1, 1) := by decide +kernel
theorem dX5_leastPot_83 : decode cX5_leastPot 83 = .ok (.iload_n 3, 1) := by decide +kernel
theorem dX5_leastPot_84 : decode cX5_leastPot 84 = .ok (.invokevirtual 189, 3) := by decide +kernel
theorem dX5_leastPot_87 : decode cX5_leastPot 87 = .ok (.aload_n 0, 1) := by decide +kernel
theorem dX5_leastPot_88 : decode cX5_leastPot 88 = .ok (.getfield 28, 3) := by decide +kernel
theorem dX5_leastPot_91 : decode cX5_leastPot 91 = .ok (.getfield 88, 3) := by decide +kernel
theorem dX5_leastPot_94 : decode cX5_leastPot 94 = .ok (.iload_n 1, 1) := by decide +kernel
theorem dX5_leastPot_95 : decode cX5_leastPot 95 = .ok (.iaload, 1) := by decide +kernel
theorem dX5_leastPot_96 : decode cX5_leastPot 96 = .ok (.iload_n 2, 1) := by decide +kernel
theorem dX5_leastPot_97 : decode cX5_leastPot 97 = .ok (.if_icmp .lt 6, 3) := by decide +kernel
theorem dX5_leastPot_100 : decode cX5_leastPot 100 = .ok (.iload 4, 2) := by decide +kernel
theorem dX5_leastPot_102 : decode cX5_leastPot 102 = .ok (.ireturn, 1) := by decide +kernel
theorem dX5_leastPot_103 : decode cX5_leastPot 103 = .ok (.iinc 4 10, 3) := by decide +kernel
theorem dX5_leastPot_106 : decode cX5_leastPot 106 = .ok (.goto (-57), 3) := by decide +kernel
theorem dX5_leastPot_109 : decode cX5_leastPot 109 = .ok (.ldc 178, 2) := by decide +kernel
theorem dX5_leastPot_111 : decode cX5_leastPot 111 = .ok (.ireturn, 1) := by decide +kernel
theorem dX5_nearest_0 : decode cX5_nearest 0 = .ok (.iload_n 1, 1) := by decide +kernel
theorem dX5_nearest_1 : decode cX5_nearest 1 = .ok (.iconst 0, 1) := by decide +kernel
theorem dX5_nearest_2 : decode cX5_nearest 2 = .ok (.ldc 126, 2) := by decide +kernel
theorem dX5_nearest_4 : decode cX5_nearest 4 = .ok (.invokestatic 67, 3) := by decide +kernel
theorem dX5_nearest_7 : decode cX5_nearest 7 = .ok (.ifCond .ne 6, 3) := by decide +kernel
theorem dX5_nearest_10 : decode cX5_nearest 10 = .ok (.ldc 71, 2) := by decide +kernel
theorem dX5_nearest_12 : decode cX5_nearest 12 = .ok (.ireturn, 1) := by decide +kernel
theorem dX5_nearest_13 : decode cX5_nearest 13 = .ok (.aload_n 0, 1) := by decide +kernel
theorem dX5_nearest_14 : decode cX5_nearest 14 = .ok (.getfield 28, 3) := by decide +kernel
theorem dX5_nearest_17 : decode cX5_nearest 17 = .ok (.aload_n 0, 1) := by decide +kernel
theorem dX5_nearest_18 : decode cX5_nearest 18 = .ok (.getfield 21, 3) := by decide +kernel
theorem dX5_nearest_21 : decode cX5_nearest 21 = .ok (.invokevirtual 171, 3) := by decide +kernel
theorem dX5_nearest_24 : decode cX5_nearest 24 = .ok (.iconst 0, 1) := by decide +kernel
theorem dX5_nearest_25 : decode cX5_nearest 25 = .ok (.istore_n 2, 1) := by decide +kernel
theorem dX5_nearest_26 : decode cX5_nearest 26 = .ok (.aload_n 0, 1) := by decide +kernel
theorem dX5_nearest_27 : decode cX5_nearest 27 = .ok (.getfield 28, 3) := by decide +kernel
theorem dX5_nearest_30 : decode cX5_nearest 30 = .ok (.invokevirtual 151, 3) := by decide +kernel
theorem dX5_nearest_33 : decode cX5_nearest 33 = .ok (.iload_n 1, 1) := by decide +kernel
theorem dX5_nearest_34 : decode cX5_nearest 34 = .ok (.isub, 1) := by decide +kernel
theorem dX5_nearest_35 : decode cX5_nearest 35 = .ok (.invokestatic 182, 3) := by decide +kernel
theorem dX5_nearest_38 : decode cX5_nearest 38 = .ok (.istore_n 3, 1) := by decide +kernel
theorem dX5_nearest_39 : decode cX5_nearest 39 = .ok (.iconst 1, 1) := by decide +kernel
theorem dX5_nearest_40 : decode cX5_nearest 40 = .ok (.istore 4, 2) := by decide +kernel
theorem dX5_nearest_42 : decode cX5_nearest 42 = .ok (.iload 4, 2) := by decide +kernel
theorem dX5_nearest_44 : decode cX5_nearest 44 = .ok (.bipush 100, 2) := by decide +kernel
theorem dX5_nearest_46 : decode cX5_nearest 46 = .ok (.if_icmp .gt 42, 3) := by decide +kernel
theorem dX5_nearest_49 : decode cX5_nearest 49 = .ok (.aload_n 0, 1) := by decide +kernel
theorem dX5_nearest_50 : decode cX5_nearest 50 = .ok (.getfield 28, 3) := by decide +kernel
theorem dX5_nearest_53 : decode cX5_nearest 53 = .ok (.invokevirtual 192, 3) := by decide +kernel
theorem dX5_nearest_56 : decode cX5_nearest 56 = .ok (.aload_n 0, 1) := by decide +kernel
theorem dX5_nearest_57 : decode cX5_nearest 57 = .ok (.getfield 28, 3) := by decide +kernel
theorem dX5_nearest_60 : decode cX5_nearest 60 = .ok (.invokevirtual 151, 3) := by decide +kernel
theorem dX5_nearest_63 : decode cX5_nearest 63 = .ok (.iload_n 1, 1) := by decide +kernel
theorem dX5_nearest_64 : decode cX5_nearest 64 = .ok (.isub, 1) := by decide +kernel
theorem dX5_nearest_65 : decode cX5_nearest 65 = .ok (.invokestatic 182, 3) := by decide +kernel
theorem dX5_nearest_68 : decode cX5_nearest 68 = .ok (.istore 5, 2) := by decide +kernel
theorem dX5_nearest_70 : decode cX5_nearest 70 = .ok (.iload 5, 2) := by decide +kernel
theorem dX5_nearest_72 : decode cX5_nearest 72 = .ok (.iload_n 3, 1) := by decide +kernel
theorem dX5_nearest_73 : decode cX5_nearest 73 = .ok (.if_icmp .ge 9, 3) := by decide +kernel
theorem dX5_nearest_76 : decode cX5_nearest 76 = .ok (.iload 4, 2) := by decide +kernel
theorem dX5_nearest_78 : decode cX5_nearest 78 = .ok (.istore_n 2, 1) := by decide +kernel
theorem dX5_nearest_79 : decode cX5_nearest 79 = .ok (.iload 5, 2) := by decide +kernel
theorem dX5_nearest_81 : decode cX5_nearest 81 = .ok (.istore_n 3, 1) := by decide +kernel
theorem dX5_nearest_82 : decode cX5_nearest 82 = .ok (.iinc 4 1, 3) := by decide +kernel
theorem dX5_nearest_85 : decode cX5_nearest 85 = .ok (.goto (-43), 3) := by decide +kernel
theorem dX5_nearest_88 : decode cX5_nearest 88 = .ok (.iload_n 2, 1) := by decide +kernel
theorem dX5_nearest_89 : decode cX5_nearest 89 = .ok (.ireturn, 1) := by decide +kernel
theorem dX5_thrown_0 : decode cX5_thrown 0 = .ok (.iload_n 1, 1) := by decide +kernel
theorem dX5_thrown_1 : decode cX5_thrown 1 = .ok (.invokestatic 195, 3) := by decide +kernel
theorem dX5_thrown_4 : decode cX5_thrown 4 = .ok (.ifCond .eq 12, 3) := by decide +kernel
theorem dX5_thrown_7 : decode cX5_thrown 7 = .ok (.iload_n 2, 1) := by decide +kernel
theorem dX5_thrown_8 : decode cX5_thrown 8 = .ok (.iconst 0, 1) := by decide +kernel
theorem dX5_thrown_9 : decode cX5_thrown 9 = .ok (.iconst 1, 1) := by decide +kernel
theorem dX5_thrown_10 : decode cX5_thrown 10 = .ok (.invokestatic 67, 3) := by decide +kernel
theorem dX5_thrown_13 : decode cX5_thrown 13 = .ok (.ifCond .ne 6, 3) := by decide +kernel
theorem dX5_thrown_16 : decode cX5_thrown 16 = .ok (.ldc 71, 2) := by decide +kernel
theorem dX5_thrown_18 : decode cX5_thrown 18 = .ok (.ireturn, 1) := by decide +kernel
theorem dX5_thrown_19 : decode cX5_thrown 19 = .ok (.aload_n 0, 1) := by decide +kernel
theorem dX5_thrown_20 : decode cX5_thrown 20 = .ok (.getfield 43, 3) := by decide +kernel
theorem dX5_thrown_23 : decode cX5_thrown 23 = .ok (.iload_n 1, 1) := by decide +kernel
theorem dX5_thrown_24 : decode cX5_thrown 24 = .ok (.aaload, 1) := by decide +kernel
theorem dX5_thrown_25 : decode cX5_thrown 25 = .ok (.invokevirtual 198, 3) := by decide +kernel
theorem dX5_thrown_28 : decode cX5_thrown 28 = .ok (.ifCond .eq 6, 3) := by decide +kernel
theorem dX5_thrown_31 : decode cX5_thrown 31 = .ok (.ldc 202, 2) := by decide +kernel
theorem dX5_thrown_33 : decode cX5_thrown 33 = .ok (.ireturn, 1) := by decide +kernel
theorem dX5_thrown_34 : decode cX5_thrown 34 = .ok (.aload_n 0, 1) := by decide +kernel
theorem dX5_thrown_35 : decode cX5_thrown 35 = .ok (.getfield 21, 3) := by decide +kernel
theorem dX5_thrown_38 : decode cX5_thrown 38 = .ok (.getfield 72, 3) := by decide +kernel
theorem dX5_thrown_41 : decode cX5_thrown 41 = .ok (.ifCond .ne 6, 3) := by decide +kernel
theorem dX5_thrown_44 : decode cX5_thrown 44 = .ok (.ldc 178, 2) := by decide +kernel
theorem dX5_thrown_46 : decode cX5_thrown 46 = .ok (.ireturn, 1) := by decide +kernel
theorem dX5_thrown_47 : decode cX5_thrown 47 = .ok (.iconst 0, 1) := by decide +kernel
theorem dX5_thrown_48 : decode cX5_thrown 48 = .ok (.istore_n 3, 1) := by decide +kernel
theorem dX5_thrown_49 : decode cX5_thrown 49 = .ok (.aload_n 0, 1) := by decide +kernel
theorem dX5_thrown_50 : decode cX5_thrown 50 = .ok (.aload_n 0, 1) := by decide +kernel
theorem dX5_thrown_51 : decode cX5_thrown 51 = .ok (.getfield 43, 3) := by decide +kernel
theorem dX5_thrown_54 : decode cX5_thrown 54 = .ok (.iload_n 1, 1) := by decide +kernel
theorem dX5_thrown_55 : decode cX5_thrown 55 = .ok (.aaload, 1) := by decide +kernel
theorem dX5_thrown_56 : decode cX5_thrown 56 = .ok (.iconst 0, 1) := by decide +kernel
theorem dX5_thrown_57 : decode cX5_thrown 57 = .ok (.invokevirtual 203, 3) := by decide +kernel
theorem dX5_thrown_60 : decode cX5_thrown 60 = .ok (.istore 4, 2) := by decide +kernel
theorem dX5_thrown_62 : decode cX5_thrown 62 = .ok (.iconst 1, 1) := by decide +kernel
theorem dX5_thrown_63 : decode cX5_thrown 63 = .ok (.istore 5, 2) := by decide +kernel
theorem dX5_thrown_65 : decode cX5_thrown 65 = .ok (.iload 5, 2) := by decide +kernel
theorem dX5_thrown_67 : decode cX5_thrown 67 = .ok (.aload_n 0, 1) := by decide +kernel
theorem dX5_thrown_68 : decode cX5_thrown 68 = .ok (.getfield 21, 3) := by decide +kernel
theorem dX5_thrown_71 : decode cX5_thrown 71 = .ok (.getfield 72, 3) := by decide +kernel
theorem dX5_thrown_74 : decode cX5_thrown 74 = .ok (.if_icmp .ge 37, 3) := by decide +kernel
theorem dX5_thrown_77 : decode cX5_thrown 77 = .ok (.aload_n 0, 1) := by decide +kernel
theorem dX5_thrown_78 : decode cX5_thrown 78 = .ok (.aload_n 0, 1) := by decide +kernel
theorem dX5_thrown_79 : decode cX5_thrown 79 = .ok (.getfield 43, 3) := by decide +kernel
theorem dX5_thrown_82 : decode cX5_thrown 82 = .ok (.iload_n 1, 1) := by decide +kernel
theorem dX5_thrown_83 : decode cX5_thrown 83 = .ok (.aaload, 1) := by decide +kernel
theorem dX5_thrown_84 : decode cX5_thrown 84 = .ok (.iload 5, 2) := by decide +kernel
theorem dX5_thrown_86 : decode cX5_thrown 86 = .ok (.invokevirtual 203, 3) := by decide +kernel
theorem dX5_thrown_89 : decode cX5_thrown 89 = .ok (.istore 6, 2) := by decide +kernel
theorem dX5_thrown_91 : decode cX5_thrown 91 = .ok (.iload 6, 2) := by decide +kernel
theorem dX5_thrown_93 : decode cX5_thrown 93 = .ok (.iload 4, 2) := by decide +kernel
theorem dX5_thrown_95 : decode cX5_thrown 95 = .ok (.if_icmp .ge 10, 3) := by decide +kernel
theorem dX5_thrown_98 : decode cX5_thrown 98 = .ok (.iload 5, 2) := by decide +kernel
theorem dX5_thrown_100 : decode cX5_thrown 100 = .ok (.istore_n 3, 1) := by decide +kernel
theorem dX5_thrown_101 : decode cX5_thrown 101 = .ok (.iload 6, 2) := by decide +kernel
theorem dX5_thrown_103 : decode cX5_thrown 103 = .ok (.istore 4, 2) := by decide +kernel
theorem dX5_thrown_105 : decode cX5_thrown 105 = .ok (.iinc 5 1, 3) := by decide +kernel
theorem dX5_thrown_108 : decode cX5_thrown 108 = .ok (.goto (-43), 3) := by decide +kernel
theorem dX5_thrown_111 : decode cX5_thrown 111 = .ok (.iload_n 2, 1) := by decide +kernel
theorem dX5_thrown_112 : decode cX5_thrown 112 = .ok (.ifCond .ne 7, 3) := by decide +kernel
theorem dX5_thrown_115 : decode cX5_thrown 115 = .ok (.iload_n 3, 1) := by decide +kernel
theorem dX5_thrown_116 : decode cX5_thrown 116 = .ok (.goto 5, 3) := by decide +kernel
theorem dX5_thrown_119 : decode cX5_thrown 119 = .ok (.iload 4, 2) := by decide +kernel
theorem dX5_thrown_121 : decode cX5_thrown 121 = .ok (.ireturn, 1) := by decide +kernel
theorem dX5_gapIfThrown_0 : decode cX5_gapIfThrown 0 = .ok (.aload_n 0, 1) := by decide +kernel
theorem dX5_gapIfThrown_1 : decode cX5_gapIfThrown 1 = .ok (.getfield 28, 3) := by decide +kernel
theorem dX5_gapIfThrown_4 : decode cX5_gapIfThrown 4 = .ok (.aload_n 0, 1) := by decide +kernel
theorem dX5_gapIfThrown_5 : decode cX5_gapIfThrown 5 = .ok (.getfield 21, 3) := by decide +kernel
theorem dX5_gapIfThrown_8 : decode cX5_gapIfThrown 8 = .ok (.invokevirtual 171, 3) := by decide +kernel
theorem dX5_gapIfThrown_11 : decode cX5_gapIfThrown 11 = .ok (.aload_n 0, 1) := by decide +kernel
theorem dX5_gapIfThrown_12 : decode cX5_gapIfThrown 12 = .ok (.getfield 28, 3) := by decide +kernel
theorem dX5_gapIfThrown_15 : decode cX5_gapIfThrown 15 = .ok (.iload_n 2, 1) := by decide +kernel
theorem dX5_gapIfThrown_16 : decode cX5_gapIfThrown 16 = .ok (.sipush 500, 3) := by decide +kernel
theorem dX5_gapIfThrown_19 : decode cX5_gapIfThrown 19 = .ok (.invokevirtual 84, 3) := by decide +kernel
theorem dX5_gapIfThrown_22 : decode cX5_gapIfThrown 22 = .ok (.iconst 0, 1) := by decide +kernel
theorem dX5_gapIfThrown_23 : decode cX5_gapIfThrown 23 = .ok (.istore_n 3, 1) := by decide +kernel
theorem dX5_gapIfThrown_24 : decode cX5_gapIfThrown 24 = .ok (.iconst 0, 1) := by decide +kernel
theorem dX5_gapIfThrown_25 : decode cX5_gapIfThrown 25 = .ok (.istore 4, 2) := by decide +kernel
theorem dX5_gapIfThrown_27 : decode cX5_gapIfThrown 27 = .ok (.iload 4, 2) := by decide +kernel
theorem dX5_gapIfThrown_29 : decode cX5_gapIfThrown 29 = .ok (.aload_n 1, 1) := by decide +kernel
theorem dX5_gapIfThrown_30 : decode cX5_gapIfThrown 30 = .ok (.getfield 207, 3) := by decide +kernel
theorem dX5_gapIfThrown_33 : decode cX5_gapIfThrown 33 = .ok (.if_icmp .ge 46, 3) := by decide +kernel
theorem dX5_gapIfThrown_36 : decode cX5_gapIfThrown 36 = .ok (.aload_n 1, 1) := by decide +kernel
theorem dX5_gapIfThrown_37 : decode cX5_gapIfThrown 37 = .ok (.iload 4, 2) := by decide +kernel
theorem dX5_gapIfThrown_39 : decode cX5_gapIfThrown 39 = .ok (.invokevirtual 210, 3) := by decide +kernel
theorem dX5_gapIfThrown_42 : decode cX5_gapIfThrown 42 = .ok (.ifCond .eq 24, 3) := by decide +kernel
theorem dX5_gapIfThrown_45 : decode cX5_gapIfThrown 45 = .ok (.iload_n 3, 1) := by decide +kernel
theorem dX5_gapIfThrown_46 : decode cX5_gapIfThrown 46 = .ok (.aload_n 0, 1) := by decide +kernel
theorem dX5_gapIfThrown_47 : decode cX5_gapIfThrown 47 = .ok (.getfield 28, 3) := by decide +kernel
theorem dX5_gapIfThrown_50 : decode cX5_gapIfThrown 50 = .ok (.invokevirtual 151, 3) := by decide +kernel
theorem dX5_gapIfThrown_53 : decode cX5_gapIfThrown 53 = .ok (.aload_n 1, 1) := by decide +kernel
theorem dX5_gapIfThrown_54 : decode cX5_gapIfThrown 54 = .ok (.getfield 213, 3) := by decide +kernel
theorem dX5_gapIfThrown_57 : decode cX5_gapIfThrown 57 = .ok (.iload 4, 2) := by decide +kernel
theorem dX5_gapIfThrown_59 : decode cX5_gapIfThrown 59 = .ok (.iaload, 1) := by decide +kernel
theorem dX5_gapIfThrown_60 : decode cX5_gapIfThrown 60 = .ok (.isub, 1) := by decide +kernel
theorem dX5_gapIfThrown_61 : decode cX5_gapIfThrown 61 = .ok (.invokestatic 182, 3) := by decide +kernel
theorem dX5_gapIfThrown_64 : decode cX5_gapIfThrown 64 = .ok (.iadd, 1) := by decide +kernel
theorem dX5_gapIfThrown_65 : decode cX5_gapIfThrown 65 = .ok (.istore_n 3, 1) := by decide +kernel
theorem dX5_gapIfThrown_66 : decode cX5_gapIfThrown 66 = .ok (.aload_n 0, 1) := by decide +kernel
theorem dX5_gapIfThrown_67 : decode cX5_gapIfThrown 67 = .ok (.getfield 28, 3) := by decide +kernel
theorem dX5_gapIfThrown_70 : decode cX5_gapIfThrown 70 = .ok (.invokevirtual 192, 3) := by decide +kernel
theorem dX5_gapIfThrown_73 : decode cX5_gapIfThrown 73 = .ok (.iinc 4 1, 3) := by decide +kernel
theorem dX5_gapIfThrown_76 : decode cX5_gapIfThrown 76 = .ok (.goto (-49), 3) := by decide +kernel
theorem dX5_gapIfThrown_79 : decode cX5_gapIfThrown 79 = .ok (.iload_n 3, 1) := by decide +kernel
theorem dX5_gapIfThrown_80 : decode cX5_gapIfThrown 80 = .ok (.ireturn, 1) := by decide +kernel
theorem dX5_halved_0 : decode cX5_halved 0 = .ok (.aload_n 0, 1) := by decide +kernel
theorem dX5_halved_1 : decode cX5_halved 1 = .ok (.getfield 28, 3) := by decide +kernel
theorem dX5_halved_4 : decode cX5_halved 4 = .ok (.aload_n 0, 1) := by decide +kernel
theorem dX5_halved_5 : decode cX5_halved 5 = .ok (.getfield 21, 3) := by decide +kernel
theorem dX5_halved_8 : decode cX5_halved 8 = .ok (.invokevirtual 171, 3) := by decide +kernel
theorem dX5_halved_11 : decode cX5_halved 11 = .ok (.aload_n 0, 1) := by decide +kernel
theorem dX5_halved_12 : decode cX5_halved 12 = .ok (.getfield 31, 3) := by decide +kernel
theorem dX5_halved_15 : decode cX5_halved 15 = .ok (.aload_n 0, 1) := by decide +kernel
theorem dX5_halved_16 : decode cX5_halved 16 = .ok (.getfield 21, 3) := by decide +kernel
theorem dX5_halved_19 : decode cX5_halved 19 = .ok (.invokevirtual 171, 3) := by decide +kernel
theorem dX5_halved_22 : decode cX5_halved 22 = .ok (.aload_n 0, 1) := by decide +kernel
theorem dX5_halved_23 : decode cX5_halved 23 = .ok (.getfield 31, 3) := by decide +kernel
theorem dX5_halved_26 : decode cX5_halved 26 = .ok (.invokevirtual 216, 3) := by decide +kernel
theorem dX5_halved_29 : decode cX5_halved 29 = .ok (.iconst 0, 1) := by decide +kernel
theorem dX5_halved_30 : decode cX5_halved 30 = .ok (.istore_n 1, 1) := by decide +kernel
theorem dX5_halved_31 : decode cX5_halved 31 = .ok (.iload_n 1, 1) := by decide +kernel
theorem dX5_halved_32 : decode cX5_halved 32 = .ok (.sipush 200, 3) := by decide +kernel
theorem dX5_halved_35 : decode cX5_halved 35 = .ok (.if_icmp .gt 42, 3) := by decide +kernel
theorem dX5_halved_38 : decode cX5_halved 38 = .ok (.aload_n 0, 1) := by decide +kernel
theorem dX5_halved_39 : decode cX5_halved 39 = .ok (.getfield 28, 3) := by decide +kernel
theorem dX5_halved_42 : decode cX5_halved 42 = .ok (.invokevirtual 151, 3) := by decide +kernel
theorem dX5_halved_45 : decode cX5_halved 45 = .ok (.aload_n 0, 1) := by decide +kernel
theorem dX5_halved_46 : decode cX5_halved 46 = .ok (.getfield 31, 3) := by decide +kernel
theorem dX5_halved_49 : decode cX5_halved 49 = .ok (.invokevirtual 151, 3) := by decide +kernel
theorem dX5_halved_52 : decode cX5_halved 52 = .ok (.if_icmp .ne 5, 3) := by decide +kernel
theorem dX5_halved_55 : decode cX5_halved 55 = .ok (.iload_n 1, 1) := by decide +kernel
theorem dX5_halved_56 : decode cX5_halved 56 = .ok (.ireturn, 1) := by decide +kernel
theorem dX5_halved_57 : decode cX5_halved 57 = .ok (.aload_n 0, 1) := by decide +kernel
theorem dX5_halved_58 : decode cX5_halved 58 = .ok (.getfield 28, 3) := by decide +kernel
theorem dX5_halved_61 : decode cX5_halved 61 = .ok (.invokevirtual 192, 3) := by decide +kernel
theorem dX5_halved_64 : decode cX5_halved 64 = .ok (.aload_n 0, 1) := by decide +kernel
theorem dX5_halved_65 : decode cX5_halved 65 = .ok (.getfield 31, 3) := by decide +kernel
theorem dX5_halved_68 : decode cX5_halved 68 = .ok (.invokevirtual 192, 3) := by decide +kernel
theorem dX5_halved_71 : decode cX5_halved 71 = .ok (.iinc 1 1, 3) := by decide +kernel
theorem dX5_halved_74 : decode cX5_halved 74 = .ok (.goto (-43), 3) := by decide +kernel
theorem dX5_halved_77 : decode cX5_halved 77 = .ok (.ldc 178, 2) := by decide +kernel
theorem dX5_halved_79 : decode cX5_halved 79 = .ok (.ireturn, 1) := by decide +kernel
theorem dX5_differs_0 : decode cX5_differs 0 = .ok (.aload_n 0, 1) := by decide +kernel
theorem dX5_differs_1 : decode cX5_differs 1 = .ok (.getfield 61, 3) := by decide +kernel
theorem dX5_differs_4 : decode cX5_differs 4 = .ok (.ifCond .eq 21, 3) := by decide +kernel
theorem dX5_differs_7 : decode cX5_differs 7 = .ok (.aload_n 0, 1) := by decide +kernel
theorem dX5_differs_8 : decode cX5_differs 8 = .ok (.getfield 21, 3) := by decide +kernel
theorem dX5_differs_11 : decode cX5_differs 11 = .ok (.invokevirtual 151, 3) := by decide +kernel
theorem dX5_differs_14 : decode cX5_differs 14 = .ok (.aload_n 0, 1) := by decide +kernel
theorem dX5_differs_15 : decode cX5_differs 15 = .ok (.getfield 25, 3) := by decide +kernel
theorem dX5_differs_18 : decode cX5_differs 18 = .ok (.invokevirtual 151, 3) := by decide +kernel
theorem dX5_differs_21 : decode cX5_differs 21 = .ok (.isub, 1) := by decide +kernel
theorem dX5_differs_22 : decode cX5_differs 22 = .ok (.goto 5, 3) := by decide +kernel
theorem dX5_differs_25 : decode cX5_differs 25 = .ok (.ldc 219, 2) := by decide +kernel
theorem dX5_differs_27 : decode cX5_differs 27 = .ok (.ireturn, 1) := by decide +kernel
theorem dX5_feed_0 : decode cX5_feed 0 = .ok (.aload_n 0, 1) := by decide +kernel
theorem dX5_feed_1 : decode cX5_feed 1 = .ok (.getfield 37, 3) := by decide +kernel
theorem dX5_feed_4 : decode cX5_feed 4 = .ok (.getfield 220, 3) := by decide +kernel
theorem dX5_feed_7 : decode cX5_feed 7 = .ok (.bipush 84, 2) := by decide +kernel
theorem dX5_feed_9 : decode cX5_feed 9 = .ok (.if_icmp .le 6, 3) := by decide +kernel
theorem dX5_feed_12 : decode cX5_feed 12 = .ok (.ldc 79, 2) := by decide +kernel
theorem dX5_feed_14 : decode cX5_feed 14 = .ok (.ireturn, 1) := by decide +kernel
theorem dX5_feed_15 : decode cX5_feed 15 = .ok (.aload_n 0, 1) := by decide +kernel
theorem dX5_feed_16 : decode cX5_feed 16 = .ok (.getfield 37, 3) := by decide +kernel
theorem dX5_feed_19 : decode cX5_feed 19 = .ok (.iload_n 1, 1) := by decide +kernel
theorem dX5_feed_20 : decode cX5_feed 20 = .ok (.invokevirtual 223, 3) := by decide +kernel
theorem dX5_feed_23 : decode cX5_feed 23 = .ok (.aload_n 0, 1) := by decide +kernel
theorem dX5_feed_24 : decode cX5_feed 24 = .ok (.getfield 37, 3) := by decide +kernel
theorem dX5_feed_27 : decode cX5_feed 27 = .ok (.iload_n 2, 1) := by decide +kernel
theorem dX5_feed_28 : decode cX5_feed 28 = .ok (.invokevirtual 223, 3) := by decide +kernel
theorem dX5_feed_31 : decode cX5_feed 31 = .ok (.aload_n 0, 1) := by decide +kernel
theorem dX5_feed_32 : decode cX5_feed 32 = .ok (.getfield 37, 3) := by decide +kernel
theorem dX5_feed_35 : decode cX5_feed 35 = .ok (.iload_n 3, 1) := by decide +kernel
theorem dX5_feed_36 : decode cX5_feed 36 = .ok (.invokevirtual 223, 3) := by decide +kernel
theorem dX5_feed_39 : decode cX5_feed 39 = .ok (.aload_n 0, 1) := by decide +kernel
theorem dX5_feed_40 : decode cX5_feed 40 = .ok (.getfield 37, 3) := by decide +kernel
theorem dX5_feed_43 : decode cX5_feed 43 = .ok (.getfield 220, 3) := by decide +kernel
theorem dX5_feed_46 : decode cX5_feed 46 = .ok (.ireturn, 1) := by decide +kernel
theorem dX5_trim_0 : decode cX5_trim 0 = .ok (.iload_n 1, 1) := by decide +kernel
theorem dX5_trim_1 : decode cX5_trim 1 = .ok (.iconst 0, 1) := by decide +kernel
theorem dX5_trim_2 : decode cX5_trim 2 = .ok (.aload_n 0, 1) := by decide +kernel
theorem dX5_trim_3 : decode cX5_trim 3 = .ok (.getfield 37, 3) := by decide +kernel
theorem dX5_trim_6 : decode cX5_trim 6 = .ok (.getfield 220, 3) := by decide +kernel
theorem dX5_trim_9 : decode cX5_trim 9 = .ok (.invokestatic 67, 3) := by decide +kernel
theorem dX5_trim_12 : decode cX5_trim 12 = .ok (.ifCond .ne 6, 3) := by decide +kernel
theorem dX5_trim_15 : decode cX5_trim 15 = .ok (.ldc 71, 2) := by decide +kernel
theorem dX5_trim_17 : decode cX5_trim 17 = .ok (.ireturn, 1) := by decide +kernel
theorem dX5_trim_18 : decode cX5_trim 18 = .ok (.aload_n 0, 1) := by decide +kernel
theorem dX5_trim_19 : decode cX5_trim 19 = .ok (.getfield 37, 3) := by decide +kernel
theorem dX5_trim_22 : decode cX5_trim 22 = .ok (.iload_n 1, 1) := by decide +kernel
theorem dX5_trim_23 : decode cX5_trim 23 = .ok (.putfield 220, 3) := by decide +kernel
theorem dX5_trim_26 : decode cX5_trim 26 = .ok (.iload_n 1, 1) := by decide +kernel
theorem dX5_trim_27 : decode cX5_trim 27 = .ok (.ireturn, 1) := by decide +kernel
theorem dX5_text_0 : decode cX5_text 0 = .ok (.aload_n 0, 1) := by decide +kernel
theorem dX5_text_1 : decode cX5_text 1 = .ok (.getfield 37, 3) := by decide +kernel
theorem dX5_text_4 : decode cX5_text 4 = .ok (.invokevirtual 226, 3) := by decide +kernel
theorem dX5_text_7 : decode cX5_text 7 = .ok (.istore_n 1, 1) := by decide +kernel
theorem dX5_text_8 : decode cX5_text 8 = .ok (.aload_n 0, 1) := by decide +kernel
theorem dX5_text_9 : decode cX5_text 9 = .ok (.getfield 37, 3) := by decide +kernel
theorem dX5_text_12 : decode cX5_text 12 = .ok (.getfield 229, 3) := by decide +kernel
theorem dX5_text_15 : decode cX5_text 15 = .ok (.istore_n 2, 1) := by decide +kernel
theorem dX5_text_16 : decode cX5_text 16 = .ok (.aload_n 0, 1) := by decide +kernel
theorem dX5_text_17 : decode cX5_text 17 = .ok (.getfield 37, 3) := by decide +kernel
theorem dX5_text_20 : decode cX5_text 20 = .ok (.iconst 0, 1) := by decide +kernel
theorem dX5_text_21 : decode cX5_text 21 = .ok (.putfield 220, 3) := by decide +kernel
theorem dX5_text_24 : decode cX5_text 24 = .ok (.iload_n 1, 1) := by decide +kernel
theorem dX5_text_25 : decode cX5_text 25 = .ok (.ifCond .ne 8, 3) := by decide +kernel
theorem dX5_text_28 : decode cX5_text 28 = .ok (.bipush (-100), 2) := by decide +kernel
theorem dX5_text_30 : decode cX5_text 30 = .ok (.iload_n 2, 1) := by decide +kernel
theorem dX5_text_31 : decode cX5_text 31 = .ok (.isub, 1) := by decide +kernel
theorem dX5_text_32 : decode cX5_text 32 = .ok (.ireturn, 1) := by decide +kernel
theorem dX5_text_33 : decode cX5_text 33 = .ok (.aload_n 0, 1) := by decide +kernel
theorem dX5_text_34 : decode cX5_text 34 = .ok (.getfield 21, 3) := by decide +kernel
theorem dX5_text_37 : decode cX5_text 37 = .ok (.getfield 232, 3) := by decide +kernel
theorem dX5_text_40 : decode cX5_text 40 = .ok (.bipush 14, 2) := by decide +kernel
theorem dX5_text_42 : decode cX5_text 42 = .ok (.if_icmp .lt 6, 3) := by decide +kernel
theorem dX5_text_45 : decode cX5_text 45 = .ok (.ldc 79, 2) := by decide +kernel
theorem dX5_text_47 : decode cX5_text 47 = .ok (.ireturn, 1) := by decide +kernel
theorem dX5_text_48 : decode cX5_text 48 = .ok (.aload_n 0, 1) := by decide +kernel
theorem dX5_text_49 : decode cX5_text 49 = .ok (.getfield 21, 3) := by decide +kernel
theorem dX5_text_52 : decode cX5_text 52 = .ok (.getfield 232, 3) := by decide +kernel
theorem dX5_text_55 : decode cX5_text 55 = .ok (.istore_n 3, 1) := by decide +kernel
theorem dX5_text_56 : decode cX5_text 56 = .ok (.aload_n 0, 1) := by decide +kernel
theorem dX5_text_57 : decode cX5_text 57 = .ok (.getfield 10, 3) := by decide +kernel
theorem dX5_text_60 : decode cX5_text 60 = .ok (.iload_n 3, 1) := by decide +kernel
theorem dX5_text_61 : decode cX5_text 61 = .ok (.aload_n 0, 1) := by decide +kernel
theorem dX5_text_62 : decode cX5_text 62 = .ok (.getfield 37, 3) := by decide +kernel
theorem dX5_text_65 : decode cX5_text 65 = .ok (.invokevirtual 235, 3) := by decide +kernel
theorem dX5_text_68 : decode cX5_text 68 = .ok (.aload_n 0, 1) := by decide +kernel
theorem dX5_text_69 : decode cX5_text 69 = .ok (.getfield 21, 3) := by decide +kernel
theorem dX5_text_72 : decode cX5_text 72 = .ok (.getfield 164, 3) := by decide +kernel
theorem dX5_text_75 : decode cX5_text 75 = .ok (.aload_n 0, 1) := by decide +kernel
theorem dX5_text_76 : decode cX5_text 76 = .ok (.getfield 37, 3) := by decide +kernel
theorem dX5_text_79 : decode cX5_text 79 = .ok (.getfield 239, 3) := by decide +kernel
theorem dX5_text_82 : decode cX5_text 82 = .ok (.iload_n 3, 1) := by decide +kernel
theorem dX5_text_83 : decode cX5_text 83 = .ok (.iastore, 1) := by decide +kernel
theorem dX5_text_84 : decode cX5_text 84 = .ok (.aload_n 0, 1) := by decide +kernel
theorem dX5_text_85 : decode cX5_text 85 = .ok (.getfield 21, 3) := by decide +kernel
theorem dX5_text_88 : decode cX5_text 88 = .ok (.dup, 1) := by decide +kernel
theorem dX5_text_89 : decode cX5_text 89 = .ok (.getfield 232, 3) := by decide +kernel
theorem dX5_text_92 : decode cX5_text 92 = .ok (.iconst 1, 1) := by decide +kernel
theorem dX5_text_93 : decode cX5_text 93 = .ok (.iadd, 1) := by decide +kernel
theorem dX5_text_94 : decode cX5_text 94 = .ok (.putfield 232, 3) := by decide +kernel
theorem dX5_text_97 : decode cX5_text 97 = .ok (.iload_n 3, 1) := by decide +kernel
theorem dX5_text_98 : decode cX5_text 98 = .ok (.ireturn, 1) := by decide +kernel
theorem dX5_textTold_0 : decode cX5_textTold 0 = .ok (.iload_n 1, 1) := by decide +kernel
theorem dX5_textTold_1 : decode cX5_textTold 1 = .ok (.iconst 0, 1) := by decide +kernel
theorem dX5_textTold_2 : decode cX5_textTold 2 = .ok (.aload_n 0, 1) := by decide +kernel
theorem dX5_textTold_3 : decode cX5_textTold 3 = .ok (.getfield 21, 3) := by decide +kernel
theorem dX5_textTold_6 : decode cX5_textTold 6 = .ok (.getfield 232, 3) := by decide +kernel
theorem dX5_textTold_9 : decode cX5_textTold 9 = .ok (.iconst 1, 1) := by decide +kernel
theorem dX5_textTold_10 : decode cX5_textTold 10 = .ok (.isub, 1) := by decide +kernel
theorem dX5_textTold_11 : decode cX5_textTold 11 = .ok (.invokestatic 67, 3) := by decide +kernel
theorem dX5_textTold_14 : decode cX5_textTold 14 = .ok (.ifCond .eq 12, 3) := by decide +kernel
theorem dX5_textTold_17 : decode cX5_textTold 17 = .ok (.iload_n 2, 1) := by decide +kernel
theorem dX5_textTold_18 : decode cX5_textTold 18 = .ok (.iconst 0, 1) := by decide +kernel
theorem dX5_textTold_19 : decode cX5_textTold 19 = .ok (.iconst 1, 1) := by decide +kernel
theorem dX5_textTold_20 : decode cX5_textTold 20 = .ok (.invokestatic 67, 3) := by decide +kernel
theorem dX5_textTold_23 : decode cX5_textTold 23 = .ok (.ifCond .ne 6, 3) := by decide +kernel
theorem dX5_textTold_26 : decode cX5_textTold 26 = .ok (.ldc 71, 2) := by decide +kernel
theorem dX5_textTold_28 : decode cX5_textTold 28 = .ok (.ireturn, 1) := by decide +kernel
theorem dX5_textTold_29 : decode cX5_textTold 29 = .ok (.iload_n 2, 1) := by decide +kernel
theorem dX5_textTold_30 : decode cX5_textTold 30 = .ok (.ifCond .ne 15, 3) := by decide +kernel
theorem dX5_textTold_33 : decode cX5_textTold 33 = .ok (.aload_n 0, 1) := by decide +kernel
theorem dX5_textTold_34 : decode cX5_textTold 34 = .ok (.getfield 10, 3) := by decide +kernel
theorem dX5_textTold_37 : decode cX5_textTold 37 = .ok (.getfield 242, 3) := by decide +kernel
theorem dX5_textTold_40 : decode cX5_textTold 40 = .ok (.iload_n 1, 1) := by decide +kernel
theorem dX5_textTold_41 : decode cX5_textTold 41 = .ok (.iaload, 1) := by decide +kernel
theorem dX5_textTold_42 : decode cX5_textTold 42 = .ok (.goto 12, 3) := by decide +kernel
theorem dX5_textTold_45 : decode cX5_textTold 45 = .ok (.aload_n 0, 1) := by decide +kernel
theorem dX5_textTold_46 : decode cX5_textTold 46 = .ok (.getfield 10, 3) := by decide +kernel
theorem dX5_textTold_49 : decode cX5_textTold 49 = .ok (.getfield 245, 3) := by decide +kernel
theorem dX5_textTold_52 : decode cX5_textTold 52 = .ok (.iload_n 1, 1) := by decide +kernel
theorem dX5_textTold_53 : decode cX5_textTold 53 = .ok (.iaload, 1) := by decide +kernel
theorem dX5_textTold_54 : decode cX5_textTold 54 = .ok (.ireturn, 1) := by decide +kernel
theorem dX5_why_0 : decode cX5_why 0 = .ok (.iload_n 1, 1) := by decide +kernel
theorem dX5_why_1 : decode cX5_why 1 = .ok (.iconst 0, 1) := by decide +kernel
theorem dX5_why_2 : decode cX5_why 2 = .ok (.iconst 2, 1) := by decide +kernel
theorem dX5_why_3 : decode cX5_why 3 = .ok (.invokestatic 67, 3) := by decide +kernel
theorem dX5_why_6 : decode cX5_why 6 = .ok (.ifCond .ne 6, 3) := by decide +kernel
theorem dX5_why_9 : decode cX5_why 9 = .ok (.ldc 71, 2) := by decide +kernel
theorem dX5_why_11 : decode cX5_why 11 = .ok (.ireturn, 1) := by decide +kernel
theorem dX5_why_12 : decode cX5_why 12 = .ok (.aload_n 0, 1) := by decide +kernel
theorem dX5_why_13 : decode cX5_why 13 = .ok (.getfield 21, 3) := by decide +kernel
theorem dX5_why_16 : decode cX5_why 16 = .ok (.getfield 164, 3) := by decide +kernel
theorem dX5_why_19 : decode cX5_why 19 = .ok (.iload_n 1, 1) := by decide +kernel
theorem dX5_why_20 : decode cX5_why 20 = .ok (.iaload, 1) := by decide +kernel
theorem dX5_why_21 : decode cX5_why 21 = .ok (.ifCond .ge 8, 3) := by decide +kernel
theorem dX5_why_24 : decode cX5_why 24 = .ok (.ldc 178, 2) := by decide +kernel
theorem dX5_why_26 : decode cX5_why 26 = .ok (.goto 12, 3) := by decide +kernel
theorem dX5_why_29 : decode cX5_why 29 = .ok (.aload_n 0, 1) := by decide +kernel
theorem dX5_why_30 : decode cX5_why 30 = .ok (.getfield 21, 3) := by decide +kernel
theorem dX5_why_33 : decode cX5_why 33 = .ok (.getfield 164, 3) := by decide +kernel
theorem dX5_why_36 : decode cX5_why 36 = .ok (.iload_n 1, 1) := by decide +kernel
theorem dX5_why_37 : decode cX5_why 37 = .ok (.iaload, 1) := by decide +kernel
theorem dX5_why_38 : decode cX5_why 38 = .ok (.ireturn, 1) := by decide +kernel
theorem dX5_sheet_0 : decode cX5_sheet 0 = .ok (.iload_n 1, 1) := by decide +kernel
theorem dX5_sheet_1 : decode cX5_sheet 1 = .ok (.invokestatic 195, 3) := by decide +kernel
theorem dX5_sheet_4 : decode cX5_sheet 4 = .ok (.ifCond .eq 12, 3) := by decide +kernel
theorem dX5_sheet_7 : decode cX5_sheet 7 = .ok (.iload_n 2, 1) := by decide +kernel
theorem dX5_sheet_8 : decode cX5_sheet 8 = .ok (.iconst (-1), 1) := by decide +kernel
theorem dX5_sheet_9 : decode cX5_sheet 9 = .ok (.iconst 1, 1) := by decide +kernel
theorem dX5_sheet_10 : decode cX5_sheet 10 = .ok (.invokestatic 67, 3) := by decide +kernel
theorem dX5_sheet_13 : decode cX5_sheet 13 = .ok (.ifCond .ne 6, 3) := by decide +kernel
theorem dX5_sheet_16 : decode cX5_sheet 16 = .ok (.ldc 71, 2) := by decide +kernel
theorem dX5_sheet_18 : decode cX5_sheet 18 = .ok (.ireturn, 1) := by decide +kernel
theorem dX5_sheet_19 : decode cX5_sheet 19 = .ok (.iload_n 2, 1) := by decide +kernel
theorem dX5_sheet_20 : decode cX5_sheet 20 = .ok (.iconst (-1), 1) := by decide +kernel
theorem dX5_sheet_21 : decode cX5_sheet 21 = .ok (.if_icmp .ne 16, 3) := by decide +kernel
theorem dX5_sheet_24 : decode cX5_sheet 24 = .ok (.aload_n 0, 1) := by decide +kernel
theorem dX5_sheet_25 : decode cX5_sheet 25 = .ok (.getfield 43, 3) := by decide +kernel
theorem dX5_sheet_28 : decode cX5_sheet 28 = .ok (.iload_n 1, 1) := by decide +kernel
theorem dX5_sheet_29 : decode cX5_sheet 29 = .ok (.aaload, 1) := by decide +kernel
theorem dX5_sheet_30 : decode cX5_sheet 30 = .ok (.iconst (-1), 1) := by decide +kernel
theorem dX5_sheet_31 : decode cX5_sheet 31 = .ok (.iconst 0, 1) := by decide +kernel
theorem dX5_sheet_32 : decode cX5_sheet 32 = .ok (.invokevirtual 248, 3) := by decide +kernel
theorem dX5_sheet_35 : decode cX5_sheet 35 = .ok (.iconst 0, 1) := by decide +kernel
theorem dX5_sheet_36 : decode cX5_sheet 36 = .ok (.ireturn, 1) := by decide +kernel
theorem dX5_sheet_37 : decode cX5_sheet 37 = .ok (.iload_n 3, 1) := by decide +kernel
theorem dX5_sheet_38 : decode cX5_sheet 38 = .ok (.bipush 24, 2) := by decide +kernel
theorem dX5_sheet_40 : decode cX5_sheet 40 = .ok (.if_icmp .le 6, 3) := by decide +kernel
theorem dX5_sheet_43 : decode cX5_sheet 43 = .ok (.ldc 71, 2) := by decide +kernel
theorem dX5_sheet_45 : decode cX5_sheet 45 = .ok (.ireturn, 1) := by decide +kernel
theorem dX5_sheet_46 : decode cX5_sheet 46 = .ok (.iload_n 3, 1) := by decide +kernel
theorem dX5_sheet_47 : decode cX5_sheet 47 = .ok (.ifCond .ge 6, 3) := by decide +kernel
theorem dX5_sheet_50 : decode cX5_sheet 50 = .ok (.ldc 251, 2) := by decide +kernel
theorem dX5_sheet_52 : decode cX5_sheet 52 = .ok (.ireturn, 1) := by decide +kernel
theorem dX5_sheet_53 : decode cX5_sheet 53 = .ok (.aload_n 0, 1) := by decide +kernel
theorem dX5_sheet_54 : decode cX5_sheet 54 = .ok (.getfield 43, 3) := by decide +kernel
theorem dX5_sheet_57 : decode cX5_sheet 57 = .ok (.iload_n 1, 1) := by decide +kernel
theorem dX5_sheet_58 : decode cX5_sheet 58 = .ok (.aaload, 1) := by decide +kernel
theorem dX5_sheet_59 : decode cX5_sheet 59 = .ok (.iload_n 2, 1) := by decide +kernel
theorem dX5_sheet_60 : decode cX5_sheet 60 = .ok (.iload_n 3, 1) := by decide +kernel
theorem dX5_sheet_61 : decode cX5_sheet 61 = .ok (.invokevirtual 248, 3) := by decide +kernel
theorem dX5_sheet_64 : decode cX5_sheet 64 = .ok (.iload_n 3, 1) := by decide +kernel
theorem dX5_sheet_65 : decode cX5_sheet 65 = .ok (.ireturn, 1) := by decide +kernel
theorem dX5_mark_0 : decode cX5_mark 0 = .ok (.iload_n 1, 1) := by decide +kernel
theorem dX5_mark_1 : decode cX5_mark 1 = .ok (.invokestatic 195, 3) := by decide +kernel
theorem dX5_mark_4 : decode cX5_mark 4 = .ok (.ifCond .ne 6, 3) := by decide +kernel
theorem dX5_mark_7 : decode cX5_mark 7 = .ok (.ldc 71, 2) := by decide +kernel
theorem dX5_mark_9 : decode cX5_mark 9 = .ok (.ireturn, 1) := by decide +kernel
theorem dX5_mark_10 : decode cX5_mark 10 = .ok (.aload_n 0, 1) := by decide +kernel
theorem dX5_mark_11 : decode cX5_mark 11 = .ok (.getfield 43, 3) := by decide +kernel
theorem dX5_mark_14 : decode cX5_mark 14 = .ok (.iload_n 1, 1) := by decide +kernel
theorem dX5_mark_15 : decode cX5_mark 15 = .ok (.aaload, 1) := by decide +kernel
theorem dX5_mark_16 : decode cX5_mark 16 = .ok (.astore 4, 2) := by decide +kernel
theorem dX5_mark_18 : decode cX5_mark 18 = .ok (.aload 4, 2) := by decide +kernel
theorem dX5_mark_20 : decode cX5_mark 20 = .ok (.invokevirtual 198, 3) := by decide +kernel
theorem dX5_mark_23 : decode cX5_mark 23 = .ok (.ifCond .eq 6, 3) := by decide +kernel
theorem dX5_mark_26 : decode cX5_mark 26 = .ok (.ldc 202, 2) := by decide +kernel
theorem dX5_mark_28 : decode cX5_mark 28 = .ok (.ireturn, 1) := by decide +kernel
theorem dX5_mark_29 : decode cX5_mark 29 = .ok (.aload 4, 2) := by decide +kernel
theorem dX5_mark_31 : decode cX5_mark 31 = .ok (.iload_n 2, 1) := by decide +kernel
theorem dX5_mark_32 : decode cX5_mark 32 = .ok (.invokevirtual 252, 3) := by decide +kernel
theorem dX5_mark_35 : decode cX5_mark 35 = .ok (.ifCond .ne 6, 3) := by decide +kernel
theorem dX5_mark_38 : decode cX5_mark 38 = .ok (.ldc 255, 2) := by decide +kernel
theorem dX5_mark_40 : decode cX5_mark 40 = .ok (.ireturn, 1) := by decide +kernel
theorem dX5_mark_41 : decode cX5_mark 41 = .ok (.aload 4, 2) := by decide +kernel
theorem dX5_mark_43 : decode cX5_mark 43 = .ok (.getfield 256, 3) := by decide +kernel
theorem dX5_mark_46 : decode cX5_mark 46 = .ok (.ifCond .ne 12, 3) := by decide +kernel
theorem dX5_mark_49 : decode cX5_mark 49 = .ok (.iload_n 3, 1) := by decide +kernel
theorem dX5_mark_50 : decode cX5_mark 50 = .ok (.ldc 178, 2) := by decide +kernel
theorem dX5_mark_52 : decode cX5_mark 52 = .ok (.if_icmp .ne 6, 3) := by decide +kernel
theorem dX5_mark_55 : decode cX5_mark 55 = .ok (.ldc 121, 2) := by decide +kernel
theorem dX5_mark_57 : decode cX5_mark 57 = .ok (.ireturn, 1) := by decide +kernel
theorem dX5_mark_58 : decode cX5_mark 58 = .ok (.aload 4, 2) := by decide +kernel
theorem dX5_mark_60 : decode cX5_mark 60 = .ok (.getfield 256, 3) := by decide +kernel
theorem dX5_mark_63 : decode cX5_mark 63 = .ok (.iconst 1, 1) := by decide +kernel
theorem dX5_mark_64 : decode cX5_mark 64 = .ok (.if_icmp .ne 24, 3) := by decide +kernel
theorem dX5_mark_67 : decode cX5_mark 67 = .ok (.iload_n 3, 1) := by decide +kernel
theorem dX5_mark_68 : decode cX5_mark 68 = .ok (.ldc 178, 2) := by decide +kernel
theorem dX5_mark_70 : decode cX5_mark 70 = .ok (.if_icmp .eq 18, 3) := by decide +kernel
theorem dX5_mark_73 : decode cX5_mark 73 = .ok (.iload_n 3, 1) := by decide +kernel
theorem dX5_mark_74 : decode cX5_mark 74 = .ok (.ldc_w 259, 3) := by decide +kernel
theorem dX5_mark_77 : decode cX5_mark 77 = .ok (.ldc 126, 2) := by decide +kernel
theorem dX5_mark_79 : decode cX5_mark 79 = .ok (.invokestatic 67, 3) := by decide +kernel
theorem dX5_mark_82 : decode cX5_mark 82 = .ok (.ifCond .ne 6, 3) := by decide +kernel
theorem dX5_mark_85 : decode cX5_mark 85 = .ok (.ldc 71, 2) := by decide +kernel
theorem dX5_mark_87 : decode cX5_mark 87 = .ok (.ireturn, 1) := by decide +kernel
theorem dX5_mark_88 : decode cX5_mark 88 = .ok (.aload 4, 2) := by decide +kernel
theorem dX5_mark_90 : decode cX5_mark 90 = .ok (.getfield 213, 3) := by decide +kernel
theorem dX5_mark_93 : decode cX5_mark 93 = .ok (.iload_n 2, 1) := by decide +kernel
theorem dX5_mark_94 : decode cX5_mark 94 = .ok (.aload 4, 2) := by decide +kernel
theorem dX5_mark_96 : decode cX5_mark 96 = .ok (.getfield 256, 3) := by decide +kernel
theorem dX5_mark_99 : decode cX5_mark 99 = .ok (.ifCond .ne 8, 3) := by decide +kernel
theorem dX5_mark_102 : decode cX5_mark 102 = .ok (.iload_n 3, 1) := by decide +kernel
theorem dX5_mark_103 : decode cX5_mark 103 = .ok (.i2s, 1) := by decide +kernel
theorem dX5_mark_104 : decode cX5_mark 104 = .ok (.goto 4, 3) := by decide +kernel
theorem dX5_mark_107 : decode cX5_mark 107 = .ok (.iload_n 3, 1) := by decide +kernel
theorem dX5_mark_108 : decode cX5_mark 108 = .ok (.iastore, 1) := by decide +kernel
theorem dX5_mark_109 : decode cX5_mark 109 = .ok (.iconst 1, 1) := by decide +kernel
theorem dX5_mark_110 : decode cX5_mark 110 = .ok (.ireturn, 1) := by decide +kernel
theorem dX5_pour_0 : decode cX5_pour 0 = .ok (.iload_n 1, 1) := by decide +kernel
theorem dX5_pour_1 : decode cX5_pour 1 = .ok (.invokestatic 195, 3) := by decide +kernel
theorem dX5_pour_4 : decode cX5_pour 4 = .ok (.ifCond .ne 6, 3) := by decide +kernel
theorem dX5_pour_7 : decode cX5_pour 7 = .ok (.ldc 71, 2) := by decide +kernel
theorem dX5_pour_9 : decode cX5_pour 9 = .ok (.ireturn, 1) := by decide +kernel
theorem dX5_pour_10 : decode cX5_pour 10 = .ok (.aload_n 0, 1) := by decide +kernel
theorem dX5_pour_11 : decode cX5_pour 11 = .ok (.getfield 43, 3) := by decide +kernel
theorem dX5_pour_14 : decode cX5_pour 14 = .ok (.iload_n 1, 1) := by decide +kernel
theorem dX5_pour_15 : decode cX5_pour 15 = .ok (.aaload, 1) := by decide +kernel
theorem dX5_pour_16 : decode cX5_pour 16 = .ok (.astore_n 2, 1) := by decide +kernel
theorem dX5_pour_17 : decode cX5_pour 17 = .ok (.aload_n 2, 1) := by decide +kernel
theorem dX5_pour_18 : decode cX5_pour 18 = .ok (.invokevirtual 198, 3) := by decide +kernel
theorem dX5_pour_21 : decode cX5_pour 21 = .ok (.ifCond .eq 6, 3) := by decide +kernel
theorem dX5_pour_24 : decode cX5_pour 24 = .ok (.ldc 202, 2) := by decide +kernel
theorem dX5_pour_26 : decode cX5_pour 26 = .ok (.ireturn, 1) := by decide +kernel
theorem dX5_pour_27 : decode cX5_pour 27 = .ok (.iconst 0, 1) := by decide +kernel
theorem dX5_pour_28 : decode cX5_pour 28 = .ok (.istore_n 3, 1) := by decide +kernel
theorem dX5_pour_29 : decode cX5_pour 29 = .ok (.iconst 0, 1) := by decide +kernel
theorem dX5_pour_30 : decode cX5_pour 30 = .ok (.istore 4, 2) := by decide +kernel
theorem dX5_pour_32 : decode cX5_pour 32 = .ok (.iload 4, 2) := by decide +kernel
theorem dX5_pour_34 : decode cX5_pour 34 = .ok (.aload_n 0, 1) := by decide +kernel
theorem dX5_pour_35 : decode cX5_pour 35 = .ok (.getfield 21, 3) := by decide +kernel
theorem dX5_pour_38 : decode cX5_pour 38 = .ok (.getfield 72, 3) := by decide +kernel
theorem dX5_pour_41 : decode cX5_pour 41 = .ok (.if_icmp .ge 76, 3) := by decide +kernel
theorem dX5_pour_44 : decode cX5_pour 44 = .ok (.iload 4, 2) := by decide +kernel
theorem dX5_pour_46 : decode cX5_pour 46 = .ok (.aload_n 2, 1) := by decide +kernel
theorem dX5_pour_47 : decode cX5_pour 47 = .ok (.getfield 207, 3) := by decide +kernel
theorem dX5_pour_50 : decode cX5_pour 50 = .ok (.if_icmp .ge 67, 3) := by decide +kernel
theorem dX5_pour_53 : decode cX5_pour 53 = .ok (.aload_n 2, 1) := by decide +kernel
theorem dX5_pour_54 : decode cX5_pour 54 = .ok (.iload 4, 2) := by decide +kernel
theorem dX5_pour_56 : decode cX5_pour 56 = .ok (.invokevirtual 210, 3) := by decide +kernel
theorem dX5_pour_59 : decode cX5_pour 59 = .ok (.ifCond .eq 52, 3) := by decide +kernel
theorem dX5_pour_62 : decode cX5_pour 62 = .ok (.aload_n 2, 1) := by decide +kernel
theorem dX5_pour_63 : decode cX5_pour 63 = .ok (.getfield 213, 3) := by decide +kernel
theorem dX5_pour_66 : decode cX5_pour 66 = .ok (.iload 4, 2) := by decide +kernel
